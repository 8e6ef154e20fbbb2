section
-- ===== PART A: goes FIRST, ahead of the names: the tables' words, and 'selects' of the private methods out of them =====
/-- a private method of a class that the tables say can be made, by its rows of tables_1 -/
def lw_okq (q : MethodName × Nat) : Prop := (q.1.cls ≠ "java/lang/invoke/MethodHandle" ∧ q.1.cls ≠ "java/lang/invoke/VarHandle") ∧ Cond.instantiable q.1.cls q.2 ∈ tables_1 ∧ Cond.privateMethod q.1 ∈ tables_1 ∧ Cond.instanceMethod q.1 ∈ tables_1
theorem lw_p0 : lw_okq (⟨"WheelStands$Town", "lendOne", "(LWheelStands$Wheel;LWheelStands$Wheel;)V"⟩, 7) := ⟨⟨by decide +kernel, by decide +kernel⟩, List.mem_of_getElem? (i := 20) (by decide +kernel), List.mem_of_getElem? (i := 450) (by decide +kernel), List.mem_of_getElem? (i := 451) (by decide +kernel)⟩
theorem lw_p1 : lw_okq (⟨"WheelStands$Town", "docksBoth", "(LWheelStands$Wheel;LWheelStands$Wheel;LWheelStands$Stand;)Z"⟩, 7) := ⟨⟨by decide +kernel, by decide +kernel⟩, List.mem_of_getElem? (i := 20) (by decide +kernel), List.mem_of_getElem? (i := 466) (by decide +kernel), List.mem_of_getElem? (i := 467) (by decide +kernel)⟩
theorem lw_p2 : lw_okq (⟨"WheelStands$Town", "leaveOnStreet", "(LWheelStands$Wheel;LWheelStands$Wheel;I)V"⟩, 7) := ⟨⟨by decide +kernel, by decide +kernel⟩, List.mem_of_getElem? (i := 20) (by decide +kernel), List.mem_of_getElem? (i := 479) (by decide +kernel), List.mem_of_getElem? (i := 480) (by decide +kernel)⟩
theorem lw_p3 : lw_okq (⟨"WheelStands$Tour", "gather", "(LWheelStands$Town;)Z"⟩, 7) := ⟨⟨by decide +kernel, by decide +kernel⟩, List.mem_of_getElem? (i := 217) (by decide +kernel), List.mem_of_getElem? (i := 612) (by decide +kernel), List.mem_of_getElem? (i := 613) (by decide +kernel)⟩
theorem lw_p4 : lw_okq (⟨"WheelStands$Tour", "addUpHeld", "()V"⟩, 7) := ⟨⟨by decide +kernel, by decide +kernel⟩, List.mem_of_getElem? (i := 217) (by decide +kernel), List.mem_of_getElem? (i := 622) (by decide +kernel), List.mem_of_getElem? (i := 623) (by decide +kernel)⟩
theorem lw_p5 : lw_okq (⟨"WheelStands$Tour", "allStands", "()I"⟩, 7) := ⟨⟨by decide +kernel, by decide +kernel⟩, List.mem_of_getElem? (i := 217) (by decide +kernel), List.mem_of_getElem? (i := 626) (by decide +kernel), List.mem_of_getElem? (i := 627) (by decide +kernel)⟩
theorem lw_p6 : lw_okq (⟨"WheelStands$Tour", "measureLeft", "(LWheelStands$Town;I)V"⟩, 7) := ⟨⟨by decide +kernel, by decide +kernel⟩, List.mem_of_getElem? (i := 217) (by decide +kernel), List.mem_of_getElem? (i := 630) (by decide +kernel), List.mem_of_getElem? (i := 631) (by decide +kernel)⟩
theorem lw_p7 : lw_okq (⟨"WheelStands$Tour", "leastOnward", "(LWheelStands$Town;II)I"⟩, 7) := ⟨⟨by decide +kernel, by decide +kernel⟩, List.mem_of_getElem? (i := 217) (by decide +kernel), List.mem_of_getElem? (i := 634) (by decide +kernel), List.mem_of_getElem? (i := 635) (by decide +kernel)⟩
theorem lw_p8 : lw_okq (⟨"WheelStands$Tour", "onwardBy", "(LWheelStands$Town;III)I"⟩, 7) := ⟨⟨by decide +kernel, by decide +kernel⟩, List.mem_of_getElem? (i := 217) (by decide +kernel), List.mem_of_getElem? (i := 639) (by decide +kernel), List.mem_of_getElem? (i := 640) (by decide +kernel)⟩
theorem lw_p9 : lw_okq (⟨"WheelStands$Tour", "trace", "(LWheelStands$Town;I)V"⟩, 7) := ⟨⟨by decide +kernel, by decide +kernel⟩, List.mem_of_getElem? (i := 217) (by decide +kernel), List.mem_of_getElem? (i := 645) (by decide +kernel), List.mem_of_getElem? (i := 646) (by decide +kernel)⟩
theorem lw_p10 : lw_okq (⟨"WheelStands$Tour", "leadsOn", "(LWheelStands$Town;IIII)Z"⟩, 7) := ⟨⟨by decide +kernel, by decide +kernel⟩, List.mem_of_getElem? (i := 217) (by decide +kernel), List.mem_of_getElem? (i := 649) (by decide +kernel), List.mem_of_getElem? (i := 650) (by decide +kernel)⟩
theorem lw_p11 : lw_okq (⟨"WheelStandsModel", "standAt", "(I)I"⟩, 12) := ⟨⟨by decide +kernel, by decide +kernel⟩, List.mem_of_getElem? (i := 719) (by decide +kernel), List.mem_of_getElem? (i := 767) (by decide +kernel), List.mem_of_getElem? (i := 768) (by decide +kernel)⟩
theorem lw_p12 : lw_okq (⟨"WheelStandsModel", "dockAt", "(II)I"⟩, 12) := ⟨⟨by decide +kernel, by decide +kernel⟩, List.mem_of_getElem? (i := 719) (by decide +kernel), List.mem_of_getElem? (i := 771) (by decide +kernel), List.mem_of_getElem? (i := 772) (by decide +kernel)⟩
theorem lw_p13 : lw_okq (⟨"WheelStandsModel", "isStand", "(I)Z"⟩, 12) := ⟨⟨by decide +kernel, by decide +kernel⟩, List.mem_of_getElem? (i := 719) (by decide +kernel), List.mem_of_getElem? (i := 779) (by decide +kernel), List.mem_of_getElem? (i := 780) (by decide +kernel)⟩
theorem lw_p14 : lw_okq (⟨"WheelStandsModel", "isDock", "(II)Z"⟩, 12) := ⟨⟨by decide +kernel, by decide +kernel⟩, List.mem_of_getElem? (i := 719) (by decide +kernel), List.mem_of_getElem? (i := 798) (by decide +kernel), List.mem_of_getElem? (i := 799) (by decide +kernel)⟩
theorem lw_p15 : lw_okq (⟨"WheelStandsModel", "docks", "(I)I"⟩, 12) := ⟨⟨by decide +kernel, by decide +kernel⟩, List.mem_of_getElem? (i := 719) (by decide +kernel), List.mem_of_getElem? (i := 802) (by decide +kernel), List.mem_of_getElem? (i := 803) (by decide +kernel)⟩
def lw_privs_1 : List (MethodName × Nat) := [(⟨"WheelStands$Town", "lendOne", "(LWheelStands$Wheel;LWheelStands$Wheel;)V"⟩, 7), (⟨"WheelStands$Town", "docksBoth", "(LWheelStands$Wheel;LWheelStands$Wheel;LWheelStands$Stand;)Z"⟩, 7), (⟨"WheelStands$Town", "leaveOnStreet", "(LWheelStands$Wheel;LWheelStands$Wheel;I)V"⟩, 7), (⟨"WheelStands$Tour", "gather", "(LWheelStands$Town;)Z"⟩, 7), (⟨"WheelStands$Tour", "addUpHeld", "()V"⟩, 7), (⟨"WheelStands$Tour", "allStands", "()I"⟩, 7), (⟨"WheelStands$Tour", "measureLeft", "(LWheelStands$Town;I)V"⟩, 7), (⟨"WheelStands$Tour", "leastOnward", "(LWheelStands$Town;II)I"⟩, 7), (⟨"WheelStands$Tour", "onwardBy", "(LWheelStands$Town;III)I"⟩, 7), (⟨"WheelStands$Tour", "trace", "(LWheelStands$Town;I)V"⟩, 7), (⟨"WheelStands$Tour", "leadsOn", "(LWheelStands$Town;IIII)Z"⟩, 7), (⟨"WheelStandsModel", "standAt", "(I)I"⟩, 12), (⟨"WheelStandsModel", "dockAt", "(II)I"⟩, 12), (⟨"WheelStandsModel", "isStand", "(I)Z"⟩, 12), (⟨"WheelStandsModel", "isDock", "(II)Z"⟩, 12), (⟨"WheelStandsModel", "docks", "(I)I"⟩, 12)]
theorem lw_r1 : ∀ q ∈ lw_privs_1, lw_okq q := List.forall_mem_cons.mpr ⟨lw_p0, List.forall_mem_cons.mpr ⟨lw_p1, List.forall_mem_cons.mpr ⟨lw_p2, List.forall_mem_cons.mpr ⟨lw_p3, List.forall_mem_cons.mpr ⟨lw_p4, List.forall_mem_cons.mpr ⟨lw_p5, List.forall_mem_cons.mpr ⟨lw_p6, List.forall_mem_cons.mpr ⟨lw_p7, List.forall_mem_cons.mpr ⟨lw_p8, List.forall_mem_cons.mpr ⟨lw_p9, List.forall_mem_cons.mpr ⟨lw_p10, List.forall_mem_cons.mpr ⟨lw_p11, List.forall_mem_cons.mpr ⟨lw_p12, List.forall_mem_cons.mpr ⟨lw_p13, List.forall_mem_cons.mpr ⟨lw_p14, List.forall_mem_cons.mpr ⟨lw_p15, fun _ h => absurd h List.not_mem_nil⟩⟩⟩⟩⟩⟩⟩⟩⟩⟩⟩⟩⟩⟩⟩⟩
theorem lw_p16 : lw_okq (⟨"WheelStandsModel", "countDocks", "(II)I"⟩, 12) := ⟨⟨by decide +kernel, by decide +kernel⟩, List.mem_of_getElem? (i := 719) (by decide +kernel), List.mem_of_getElem? (i := 814) (by decide +kernel), List.mem_of_getElem? (i := 815) (by decide +kernel)⟩
theorem lw_p17 : lw_okq (⟨"WheelStandsModel", "countWheels", "(IIZ)I"⟩, 12) := ⟨⟨by decide +kernel, by decide +kernel⟩, List.mem_of_getElem? (i := 719) (by decide +kernel), List.mem_of_getElem? (i := 818) (by decide +kernel), List.mem_of_getElem? (i := 819) (by decide +kernel)⟩
theorem lw_p18 : lw_okq (⟨"WheelStandsModel", "of", "(II)I"⟩, 12) := ⟨⟨by decide +kernel, by decide +kernel⟩, List.mem_of_getElem? (i := 719) (by decide +kernel), List.mem_of_getElem? (i := 822) (by decide +kernel), List.mem_of_getElem? (i := 823) (by decide +kernel)⟩
theorem lw_p19 : lw_okq (⟨"WheelStandsModel", "fits", "(III)Z"⟩, 12) := ⟨⟨by decide +kernel, by decide +kernel⟩, List.mem_of_getElem? (i := 719) (by decide +kernel), List.mem_of_getElem? (i := 830) (by decide +kernel), List.mem_of_getElem? (i := 831) (by decide +kernel)⟩
theorem lw_p20 : lw_okq (⟨"WheelStandsModel", "isFree", "(II)Z"⟩, 12) := ⟨⟨by decide +kernel, by decide +kernel⟩, List.mem_of_getElem? (i := 719) (by decide +kernel), List.mem_of_getElem? (i := 834) (by decide +kernel), List.mem_of_getElem? (i := 835) (by decide +kernel)⟩
theorem lw_p21 : lw_okq (⟨"WheelStandsModel", "sets", "(III)V"⟩, 12) := ⟨⟨by decide +kernel, by decide +kernel⟩, List.mem_of_getElem? (i := 719) (by decide +kernel), List.mem_of_getElem? (i := 838) (by decide +kernel), List.mem_of_getElem? (i := 839) (by decide +kernel)⟩
theorem lw_p22 : lw_okq (⟨"WheelStandsModel", "comes", "(III)V"⟩, 12) := ⟨⟨by decide +kernel, by decide +kernel⟩, List.mem_of_getElem? (i := 719) (by decide +kernel), List.mem_of_getElem? (i := 845) (by decide +kernel), List.mem_of_getElem? (i := 846) (by decide +kernel)⟩
theorem lw_p23 : lw_okq (⟨"WheelStandsModel", "isWheel", "(I)Z"⟩, 12) := ⟨⟨by decide +kernel, by decide +kernel⟩, List.mem_of_getElem? (i := 719) (by decide +kernel), List.mem_of_getElem? (i := 853) (by decide +kernel), List.mem_of_getElem? (i := 854) (by decide +kernel)⟩
theorem lw_p24 : lw_okq (⟨"WheelStandsModel", "isEnough", "(II)Z"⟩, 12) := ⟨⟨by decide +kernel, by decide +kernel⟩, List.mem_of_getElem? (i := 719) (by decide +kernel), List.mem_of_getElem? (i := 888) (by decide +kernel), List.mem_of_getElem? (i := 889) (by decide +kernel)⟩
theorem lw_p25 : lw_okq (⟨"WheelStandsModel", "far", "(II)I"⟩, 12) := ⟨⟨by decide +kernel, by decide +kernel⟩, List.mem_of_getElem? (i := 719) (by decide +kernel), List.mem_of_getElem? (i := 892) (by decide +kernel), List.mem_of_getElem? (i := 893) (by decide +kernel)⟩
theorem lw_p26 : lw_okq (⟨"WheelStandsModel", "falls", "(I)I"⟩, 12) := ⟨⟨by decide +kernel, by decide +kernel⟩, List.mem_of_getElem? (i := 719) (by decide +kernel), List.mem_of_getElem? (i := 896) (by decide +kernel), List.mem_of_getElem? (i := 897) (by decide +kernel)⟩
theorem lw_p27 : lw_okq (⟨"WheelStandsModel", "hired", "(II)V"⟩, 12) := ⟨⟨by decide +kernel, by decide +kernel⟩, List.mem_of_getElem? (i := 719) (by decide +kernel), List.mem_of_getElem? (i := 900) (by decide +kernel), List.mem_of_getElem? (i := 901) (by decide +kernel)⟩
theorem lw_p28 : lw_okq (⟨"WheelStandsModel", "leaves", "(I)V"⟩, 12) := ⟨⟨by decide +kernel, by decide +kernel⟩, List.mem_of_getElem? (i := 719) (by decide +kernel), List.mem_of_getElem? (i := 904) (by decide +kernel), List.mem_of_getElem? (i := 905) (by decide +kernel)⟩
theorem lw_p29 : lw_okq (⟨"WheelStandsModel", "goes", "(II)V"⟩, 12) := ⟨⟨by decide +kernel, by decide +kernel⟩, List.mem_of_getElem? (i := 719) (by decide +kernel), List.mem_of_getElem? (i := 912) (by decide +kernel), List.mem_of_getElem? (i := 913) (by decide +kernel)⟩
theorem lw_p30 : lw_okq (⟨"WheelStandsModel", "arrives", "(III)Z"⟩, 12) := ⟨⟨by decide +kernel, by decide +kernel⟩, List.mem_of_getElem? (i := 719) (by decide +kernel), List.mem_of_getElem? (i := 916) (by decide +kernel), List.mem_of_getElem? (i := 917) (by decide +kernel)⟩
theorem lw_p31 : lw_okq (⟨"WheelStandsModel", "roomFor", "(II)I"⟩, 12) := ⟨⟨by decide +kernel, by decide +kernel⟩, List.mem_of_getElem? (i := 719) (by decide +kernel), List.mem_of_getElem? (i := 920) (by decide +kernel), List.mem_of_getElem? (i := 921) (by decide +kernel)⟩
def lw_privs_2 : List (MethodName × Nat) := [(⟨"WheelStandsModel", "countDocks", "(II)I"⟩, 12), (⟨"WheelStandsModel", "countWheels", "(IIZ)I"⟩, 12), (⟨"WheelStandsModel", "of", "(II)I"⟩, 12), (⟨"WheelStandsModel", "fits", "(III)Z"⟩, 12), (⟨"WheelStandsModel", "isFree", "(II)Z"⟩, 12), (⟨"WheelStandsModel", "sets", "(III)V"⟩, 12), (⟨"WheelStandsModel", "comes", "(III)V"⟩, 12), (⟨"WheelStandsModel", "isWheel", "(I)Z"⟩, 12), (⟨"WheelStandsModel", "isEnough", "(II)Z"⟩, 12), (⟨"WheelStandsModel", "far", "(II)I"⟩, 12), (⟨"WheelStandsModel", "falls", "(I)I"⟩, 12), (⟨"WheelStandsModel", "hired", "(II)V"⟩, 12), (⟨"WheelStandsModel", "leaves", "(I)V"⟩, 12), (⟨"WheelStandsModel", "goes", "(II)V"⟩, 12), (⟨"WheelStandsModel", "arrives", "(III)Z"⟩, 12), (⟨"WheelStandsModel", "roomFor", "(II)I"⟩, 12)]
theorem lw_r2 : ∀ q ∈ lw_privs_2, lw_okq q := List.forall_mem_cons.mpr ⟨lw_p16, List.forall_mem_cons.mpr ⟨lw_p17, List.forall_mem_cons.mpr ⟨lw_p18, List.forall_mem_cons.mpr ⟨lw_p19, List.forall_mem_cons.mpr ⟨lw_p20, List.forall_mem_cons.mpr ⟨lw_p21, List.forall_mem_cons.mpr ⟨lw_p22, List.forall_mem_cons.mpr ⟨lw_p23, List.forall_mem_cons.mpr ⟨lw_p24, List.forall_mem_cons.mpr ⟨lw_p25, List.forall_mem_cons.mpr ⟨lw_p26, List.forall_mem_cons.mpr ⟨lw_p27, List.forall_mem_cons.mpr ⟨lw_p28, List.forall_mem_cons.mpr ⟨lw_p29, List.forall_mem_cons.mpr ⟨lw_p30, List.forall_mem_cons.mpr ⟨lw_p31, fun _ h => absurd h List.not_mem_nil⟩⟩⟩⟩⟩⟩⟩⟩⟩⟩⟩⟩⟩⟩⟩⟩
theorem lw_p32 : lw_okq (⟨"WheelStandsModel", "streets", "(II)V"⟩, 12) := ⟨⟨by decide +kernel, by decide +kernel⟩, List.mem_of_getElem? (i := 719) (by decide +kernel), List.mem_of_getElem? (i := 924) (by decide +kernel), List.mem_of_getElem? (i := 925) (by decide +kernel)⟩
theorem lw_p33 : lw_okq (⟨"WheelStandsModel", "wagonAt", "(I)I"⟩, 12) := ⟨⟨by decide +kernel, by decide +kernel⟩, List.mem_of_getElem? (i := 719) (by decide +kernel), List.mem_of_getElem? (i := 936) (by decide +kernel), List.mem_of_getElem? (i := 937) (by decide +kernel)⟩
theorem lw_p34 : lw_okq (⟨"WheelStandsModel", "isCart", "(I)Z"⟩, 12) := ⟨⟨by decide +kernel, by decide +kernel⟩, List.mem_of_getElem? (i := 719) (by decide +kernel), List.mem_of_getElem? (i := 944) (by decide +kernel), List.mem_of_getElem? (i := 945) (by decide +kernel)⟩
theorem lw_p35 : lw_okq (⟨"WheelStandsModel", "allows", "(II)Z"⟩, 12) := ⟨⟨by decide +kernel, by decide +kernel⟩, List.mem_of_getElem? (i := 719) (by decide +kernel), List.mem_of_getElem? (i := 952) (by decide +kernel), List.mem_of_getElem? (i := 953) (by decide +kernel)⟩
theorem lw_p36 : lw_okq (⟨"WheelStandsModel", "taken", "(I)I"⟩, 12) := ⟨⟨by decide +kernel, by decide +kernel⟩, List.mem_of_getElem? (i := 719) (by decide +kernel), List.mem_of_getElem? (i := 956) (by decide +kernel), List.mem_of_getElem? (i := 957) (by decide +kernel)⟩
theorem lw_p37 : lw_okq (⟨"WheelStandsModel", "climbs", "(II)V"⟩, 12) := ⟨⟨by decide +kernel, by decide +kernel⟩, List.mem_of_getElem? (i := 719) (by decide +kernel), List.mem_of_getElem? (i := 960) (by decide +kernel), List.mem_of_getElem? (i := 961) (by decide +kernel)⟩
theorem lw_p38 : lw_okq (⟨"WheelStandsModel", "goesThrough", "(II)V"⟩, 12) := ⟨⟨by decide +kernel, by decide +kernel⟩, List.mem_of_getElem? (i := 719) (by decide +kernel), List.mem_of_getElem? (i := 984) (by decide +kernel), List.mem_of_getElem? (i := 985) (by decide +kernel)⟩
theorem lw_p39 : lw_okq (⟨"WheelStandsModel", "finds", "()V"⟩, 12) := ⟨⟨by decide +kernel, by decide +kernel⟩, List.mem_of_getElem? (i := 719) (by decide +kernel), List.mem_of_getElem? (i := 1000) (by decide +kernel), List.mem_of_getElem? (i := 1001) (by decide +kernel)⟩
theorem lw_p40 : lw_okq (⟨"WheelStandsModel", "lengthOf", "(I)I"⟩, 12) := ⟨⟨by decide +kernel, by decide +kernel⟩, List.mem_of_getElem? (i := 719) (by decide +kernel), List.mem_of_getElem? (i := 1004) (by decide +kernel), List.mem_of_getElem? (i := 1005) (by decide +kernel)⟩
theorem lw_p41 : lw_okq (⟨"WheelStandsModel", "turns", "()Z"⟩, 12) := ⟨⟨by decide +kernel, by decide +kernel⟩, List.mem_of_getElem? (i := 719) (by decide +kernel), List.mem_of_getElem? (i := 1008) (by decide +kernel), List.mem_of_getElem? (i := 1009) (by decide +kernel)⟩
theorem lw_p42 : lw_okq (⟨"WheelStandsModel", "overAt", "(I)I"⟩, 12) := ⟨⟨by decide +kernel, by decide +kernel⟩, List.mem_of_getElem? (i := 719) (by decide +kernel), List.mem_of_getElem? (i := 1022) (by decide +kernel), List.mem_of_getElem? (i := 1023) (by decide +kernel)⟩
def lw_privs_3 : List (MethodName × Nat) := [(⟨"WheelStandsModel", "streets", "(II)V"⟩, 12), (⟨"WheelStandsModel", "wagonAt", "(I)I"⟩, 12), (⟨"WheelStandsModel", "isCart", "(I)Z"⟩, 12), (⟨"WheelStandsModel", "allows", "(II)Z"⟩, 12), (⟨"WheelStandsModel", "taken", "(I)I"⟩, 12), (⟨"WheelStandsModel", "climbs", "(II)V"⟩, 12), (⟨"WheelStandsModel", "goesThrough", "(II)V"⟩, 12), (⟨"WheelStandsModel", "finds", "()V"⟩, 12), (⟨"WheelStandsModel", "lengthOf", "(I)I"⟩, 12), (⟨"WheelStandsModel", "turns", "()Z"⟩, 12), (⟨"WheelStandsModel", "overAt", "(I)I"⟩, 12)]
theorem lw_r3 : ∀ q ∈ lw_privs_3, lw_okq q := List.forall_mem_cons.mpr ⟨lw_p32, List.forall_mem_cons.mpr ⟨lw_p33, List.forall_mem_cons.mpr ⟨lw_p34, List.forall_mem_cons.mpr ⟨lw_p35, List.forall_mem_cons.mpr ⟨lw_p36, List.forall_mem_cons.mpr ⟨lw_p37, List.forall_mem_cons.mpr ⟨lw_p38, List.forall_mem_cons.mpr ⟨lw_p39, List.forall_mem_cons.mpr ⟨lw_p40, List.forall_mem_cons.mpr ⟨lw_p41, List.forall_mem_cons.mpr ⟨lw_p42, fun _ h => absurd h List.not_mem_nil⟩⟩⟩⟩⟩⟩⟩⟩⟩⟩⟩
def lw_privs : List (MethodName × Nat) := lw_privs_1 ++ (lw_privs_2 ++ (lw_privs_3))
def lw_tbl : List Cond := k2_sels lw_privs ++ tables_1
theorem lw_privs_ok : ∀ q ∈ lw_privs, lw_okq q := by
  show ∀ q ∈ lw_privs_1 ++ (lw_privs_2 ++ (lw_privs_3)), lw_okq q
  exact List.forall_mem_append.mpr ⟨lw_r1, List.forall_mem_append.mpr ⟨lw_r2, lw_r3⟩⟩
/-- the streams that the claim lets the run draw from -/
abbrev lw_cs : List Choice := [Jvm.Choice.named "NaN.bits"]
theorem lw_bits : nanBits ∈ lw_cs := by first | decide | exact List.mem_cons_self | simp [lw_cs, nanBits]
end
section
def RX0 : String := "WheelStands$Cart"
def TX0 : u_T := fun k => match k with
  | 0 => ("WheelStands$Cart", "number", "I", true)
  | 1 => ("WheelStands$Cart", "load", "I", false)
  | 2 => ("WheelStands$Cart", "stand", "I", false)
  | 3 => ("WheelStands$Cart", "taken", "I", false)
  | 4 => ("WheelStands$Cart", "gone", "I", false)
  | 5 => ("WheelStands$Cart", "row", "[I", true)
  | _ => ("WheelStands$Cart", "count", "I", false)
def tyX0 : Nat → FieldType := fun k => match k with
  | 0 => .int
  | 1 => .int
  | 2 => .int
  | 3 => .int
  | 4 => .int
  | 5 => .array .int
  | _ => .int
theorem nmX0 : ∀ a, a < 7 → ∀ b, b < 7 → a ≠ b → (TX0 a).2.1 ≠ (TX0 b).2.1 := by decide +kernel
theorem tyX0_ok : ∀ k, k < 7 → parseFieldDescriptor (TX0 k).2.2.1 = some (tyX0 k) := by decide +kernel
def RX1 : String := "WheelStands$Demand"
def TX1 : u_T := fun k => match k with
  | 0 => ("WheelStands$Demand", "known", "Z", false)
  | 1 => ("WheelStands$Demand", "bringing", "[I", true)
  | _ => ("WheelStands$Demand", "wanting", "[I", true)
def tyX1 : Nat → FieldType := fun k => match k with
  | 0 => .boolean
  | 1 => .array .int
  | _ => .array .int
theorem nmX1 : ∀ a, a < 3 → ∀ b, b < 3 → a ≠ b → (TX1 a).2.1 ≠ (TX1 b).2.1 := by decide +kernel
theorem tyX1_ok : ∀ k, k < 3 → parseFieldDescriptor (TX1 k).2.2.1 = some (tyX1 k) := by decide +kernel
def RX2 : String := "WheelStands$Stand"
def TX2 : u_T := fun k => match k with
  | 0 => ("WheelStands$Stand", "number", "I", true)
  | 1 => ("WheelStands$Stand", "docks", "I", false)
  | 2 => ("WheelStands$Stand", "content", "[I", true)
  | 3 => ("WheelStands$Stand", "lengths", "[I", true)
  | 4 => ("WheelStands$Stand", "others", "[I", true)
  | 5 => ("WheelStands$Stand", "otherCount", "I", false)
  | 6 => ("WheelStands$Stand", "wanted", "I", false)
  | 7 => ("WheelStands$Stand", "failed", "I", false)
  | _ => ("WheelStands$Stand", "demand", "LWheelStands$Demand;", true)
def tyX2 : Nat → FieldType := fun k => match k with
  | 0 => .int
  | 1 => .int
  | 2 => .array .int
  | 3 => .array .int
  | 4 => .array .int
  | 5 => .int
  | 6 => .int
  | 7 => .int
  | _ => .object "WheelStands$Demand"
theorem nmX2 : ∀ a, a < 9 → ∀ b, b < 9 → a ≠ b → (TX2 a).2.1 ≠ (TX2 b).2.1 := by decide +kernel
theorem tyX2_ok : ∀ k, k < 9 → parseFieldDescriptor (TX2 k).2.2.1 = some (tyX2 k) := by decide +kernel
def RX3 : String := "WheelStands$Tour"
def TX3 : u_T := fun k => match k with
  | 0 => ("WheelStands$Tour", "stops", "[I", true)
  | 1 => ("WheelStands$Tour", "stopCount", "I", false)
  | 2 => ("WheelStands$Tour", "stands", "[I", true)
  | 3 => ("WheelStands$Tour", "surplus", "[I", true)
  | 4 => ("WheelStands$Tour", "count", "I", false)
  | 5 => ("WheelStands$Tour", "held", "[I", true)
  | _ => ("WheelStands$Tour", "left", "[I", true)
def tyX3 : Nat → FieldType := fun k => match k with
  | 0 => .array .int
  | 1 => .int
  | 2 => .array .int
  | 3 => .array .int
  | 4 => .int
  | 5 => .array .int
  | _ => .array .int
theorem nmX3 : ∀ a, a < 7 → ∀ b, b < 7 → a ≠ b → (TX3 a).2.1 ≠ (TX3 b).2.1 := by decide +kernel
theorem tyX3_ok : ∀ k, k < 7 → parseFieldDescriptor (TX3 k).2.2.1 = some (tyX3 k) := by decide +kernel
def RX4 : String := "WheelStands$Town"
def TX4 : u_T := fun k => match k with
  | 0 => ("WheelStands$Town", "stands", "[LWheelStands$Stand;", true)
  | 1 => ("WheelStands$Town", "standCount", "I", false)
  | 2 => ("WheelStands$Town", "wheels", "[LWheelStands$Wheel;", true)
  | 3 => ("WheelStands$Town", "wheelCount", "I", false)
  | 4 => ("WheelStands$Town", "carts", "[LWheelStands$Cart;", true)
  | 5 => ("WheelStands$Town", "cartCount", "I", false)
  | _ => ("WheelStands$Town", "hour", "I", false)
def tyX4 : Nat → FieldType := fun k => match k with
  | 0 => .array (.object "WheelStands$Stand")
  | 1 => .int
  | 2 => .array (.object "WheelStands$Wheel")
  | 3 => .int
  | 4 => .array (.object "WheelStands$Cart")
  | 5 => .int
  | _ => .int
theorem nmX4 : ∀ a, a < 7 → ∀ b, b < 7 → a ≠ b → (TX4 a).2.1 ≠ (TX4 b).2.1 := by decide +kernel
theorem tyX4_ok : ∀ k, k < 7 → parseFieldDescriptor (TX4 k).2.2.1 = some (tyX4 k) := by decide +kernel
def RX5 : String := "WheelStands$Wheel"
def TX5 : u_T := fun k => match k with
  | 0 => ("WheelStands$Wheel", "number", "I", true)
  | 1 => ("WheelStands$Wheel", "kind", "I", false)
  | 2 => ("WheelStands$Wheel", "charge", "I", false)
  | 3 => ("WheelStands$Wheel", "place", "I", false)
  | 4 => ("WheelStands$Wheel", "stand", "I", false)
  | 5 => ("WheelStands$Wheel", "spot", "I", false)
  | 6 => ("WheelStands$Wheel", "doubt", "I", false)
  | 7 => ("WheelStands$Wheel", "broken", "Z", false)
  | 8 => ("WheelStands$Wheel", "known", "Z", false)
  | _ => ("WheelStands$Wheel", "partner", "I", false)
def tyX5 : Nat → FieldType := fun k => match k with
  | 0 => .int
  | 1 => .int
  | 2 => .int
  | 3 => .int
  | 4 => .int
  | 5 => .int
  | 6 => .int
  | 7 => .boolean
  | 8 => .boolean
  | _ => .int
theorem nmX5 : ∀ a, a < 10 → ∀ b, b < 10 → a ≠ b → (TX5 a).2.1 ≠ (TX5 b).2.1 := by decide +kernel
theorem tyX5_ok : ∀ k, k < 10 → parseFieldDescriptor (TX5 k).2.2.1 = some (tyX5 k) := by decide +kernel
def RX6 : String := "WheelStands"
def TX6 : u_T := fun k => match k with
  | 0 => ("WheelStands", "town", "LWheelStands$Town;", true)
  | 1 => ("WheelStands", "images", "[LWheelStands$Town;", true)
  | _ => ("WheelStands", "tour", "LWheelStands$Tour;", true)
def tyX6 : Nat → FieldType := fun k => match k with
  | 0 => .object "WheelStands$Town"
  | 1 => .array (.object "WheelStands$Town")
  | _ => .object "WheelStands$Tour"
theorem nmX6 : ∀ a, a < 3 → ∀ b, b < 3 → a ≠ b → (TX6 a).2.1 ≠ (TX6 b).2.1 := by decide +kernel
theorem tyX6_ok : ∀ k, k < 3 → parseFieldDescriptor (TX6 k).2.2.1 = some (tyX6 k) := by decide +kernel
def RX7 : String := "WheelStandsModel"
def TX7 : u_T := fun k => match k with
  | 0 => ("WheelStandsModel", "all", "[I", true)
  | 1 => ("WheelStandsModel", "has", "[Z", true)
  | 2 => ("WheelStandsModel", "away", "I", false)
  | 3 => ("WheelStandsModel", "firstHour", "I", false)
  | 4 => ("WheelStandsModel", "rest", "I", false)
  | 5 => ("WheelStandsModel", "outs", "[I", true)
  | 6 => ("WheelStandsModel", "over", "[I", true)
  | 7 => ("WheelStandsModel", "outMany", "I", false)
  | 8 => ("WheelStandsModel", "tried", "[I", true)
  | 9 => ("WheelStandsModel", "best", "[I", true)
  | 10 => ("WheelStandsModel", "round", "[I", true)
  | _ => ("WheelStandsModel", "roundMany", "I", false)
def tyX7 : Nat → FieldType := fun k => match k with
  | 0 => .array .int
  | 1 => .array .boolean
  | 2 => .int
  | 3 => .int
  | 4 => .int
  | 5 => .array .int
  | 6 => .array .int
  | 7 => .int
  | 8 => .array .int
  | 9 => .array .int
  | 10 => .array .int
  | _ => .int
theorem nmX7 : ∀ a, a < 12 → ∀ b, b < 12 → a ≠ b → (TX7 a).2.1 ≠ (TX7 b).2.1 := by decide +kernel
theorem tyX7_ok : ∀ k, k < 12 → parseFieldDescriptor (TX7 k).2.2.1 = some (tyX7 k) := by decide +kernel
abbrev vwCl : List vw_C := [(RX0, TX0, 7), (RX1, TX1, 3), (RX2, TX2, 9), (RX3, TX3, 7), (RX4, TX4, 7), (RX5, TX5, 10), (RX6, TX6, 3), (RX7, TX7, 12)]
def xkn : List String := [RX0, RX1, RX2, RX3, RX4, RX5, RX6, RX7]
def xnsl (c : Nat) : Nat := [7, 3, 9, 7, 7, 10, 3, 12].getD c 0
def xrfl : List (List Bool) := [[false, false, false, false, false, true, false], [false, true, true], [false, false, true, true, true, false, false, false, true], [true, false, true, true, false, true, true], [true, false, true, false, true, false, false], [false, false, false, false, false, false, false, false, false, false], [true, true, true], [true, true, false, false, false, true, true, false, true, true, true, false]]
def xrf (c j : Nat) : Bool := (xrfl.getD c []).getD j false
def xfl : List (Nat × String × Nat × Nat × Nat) := [
  (198, RX0, 9, 0, 0), (211, RX0, 15, 0, 5), (199, RX0, 19, 0, 1), (202, RX0, 22, 0, 2), (206, RX0, 25, 0, 3), (208, RX0, 28, 0, 4), (212, RX0, 31, 0, 6), (142, RX0, 50, 5, 0),
  (83, RX1, 11, 1, 1), (84, RX1, 15, 1, 2), (81, RX1, 18, 1, 0), (93, RX2, 9, 2, 0), (98, RX2, 15, 2, 2), (101, RX2, 21, 2, 3), (103, RX2, 24, 2, 4), (113, RX2, 30, 2, 8),
  (95, RX2, 34, 2, 1), (104, RX2, 37, 2, 5), (107, RX2, 40, 2, 6), (110, RX2, 43, 2, 7), (265, RX3, 11, 3, 0), (268, RX3, 15, 3, 2), (269, RX3, 18, 3, 3), (271, RX3, 21, 3, 5),
  (272, RX3, 24, 3, 6), (266, RX3, 27, 3, 1), (213, RX3, 31, 0, 6), (200, RX3, 43, 0, 1), (203, RX3, 50, 0, 2), (270, RX3, 61, 3, 4), (232, RX3, 62, 4, 1), (230, RX3, 67, 4, 0),
  (229, RX4, 13, 4, 0), (234, RX4, 22, 4, 2), (238, RX4, 29, 4, 4), (231, RX4, 34, 4, 1), (236, RX4, 38, 4, 3), (239, RX4, 41, 4, 5), (241, RX4, 44, 4, 6), (99, RX4, 65, 2, 2),
  (143, RX4, 81, 5, 0), (151, RX4, 87, 5, 3), (165, RX4, 90, 5, 8), (147, RX4, 98, 5, 1), (109, RX4, 101, 2, 6), (94, RX4, 104, 2, 0), (155, RX4, 132, 5, 4), (158, RX4, 135, 5, 5),
  (161, RX4, 142, 5, 6), (169, RX4, 148, 5, 9), (106, RX4, 155, 2, 5), (112, RX4, 171, 2, 7), (210, RX4, 174, 0, 4), (205, RX4, 177, 0, 2), (97, RX4, 199, 2, 1), (141, RX5, 9, 5, 0),
  (145, RX5, 15, 5, 1), (148, RX5, 22, 5, 2), (159, RX5, 25, 5, 6), (162, RX5, 28, 5, 7), (164, RX5, 32, 5, 8), (167, RX5, 35, 5, 9), (150, RX5, 42, 5, 3), (153, RX5, 45, 5, 4),
  (156, RX5, 48, 5, 5), (288, RX6, 10, 6, 0), (289, RX6, 16, 6, 1), (290, RX6, 23, 6, 2), (102, RX6, 37, 2, 3), (105, RX6, 44, 2, 5), (114, RX6, 48, 2, 8), (82, RX6, 52, 1, 0),
  (100, RX6, 65, 2, 2), (96, RX6, 68, 2, 1), (111, RX6, 84, 2, 7), (108, RX6, 87, 2, 6), (149, RX6, 112, 5, 2), (146, RX6, 115, 5, 1), (152, RX6, 118, 5, 3), (154, RX6, 121, 5, 4),
  (157, RX6, 124, 5, 5), (160, RX6, 127, 5, 6), (166, RX6, 130, 5, 8), (168, RX6, 131, 5, 9), (163, RX6, 134, 5, 7), (237, RX6, 137, 4, 3), (235, RX6, 140, 4, 2), (144, RX6, 158, 5, 0),
  (242, RX6, 168, 4, 6), (209, RX6, 184, 0, 4), (204, RX6, 187, 0, 2), (201, RX6, 207, 0, 1), (207, RX6, 210, 0, 3), (267, RX6, 234, 3, 1), (233, RX6, 244, 4, 1), (240, RX6, 247, 4, 5),
  (767, RX7, 7, 7, 0), (768, RX7, 13, 7, 1), (772, RX7, 17, 7, 5), (773, RX7, 20, 7, 6), (775, RX7, 23, 7, 8), (776, RX7, 26, 7, 9), (777, RX7, 29, 7, 10), (769, RX7, 138, 7, 2),
  (770, RX7, 142, 7, 3), (771, RX7, 145, 7, 4), (774, RX7, 151, 7, 7), (778, RX7, 164, 7, 11)]
def xml : List (Nat × String × Nat × Nat) := [
  (571, RX0, 40, 70), (581, RX0, 46, 3), (582, RX0, 51, 68), (617, RX1, 28, 8), (641, RX1, 38, 12), (77, RX2, 29, 7), (310, RX2, 46, 9), (731, RX2, 55, 10),
  (358, RX2, 65, 21), (385, RX2, 69, 17), (516, RX2, 73, 24), (654, RX3, 36, 30), (664, RX3, 40, 32), (672, RX3, 46, 33), (676, RX3, 53, 34), (687, RX3, 58, 36),
  (658, RX3, 70, 51), (663, RX3, 74, 22), (668, RX3, 80, 31), (681, RX3, 83, 35), (685, RX3, 93, 52), (691, RX3, 96, 37), (71, RX4, 17, 14), (137, RX4, 26, 65),
  (194, RX4, 33, 0), (724, RX4, 47, 16), (736, RX4, 51, 67), (740, RX4, 54, 2), (462, RX4, 57, 40), (463, RX4, 61, 17), (464, RX4, 69, 41), (306, RX4, 73, 15),
  (390, RX4, 76, 66), (402, RX4, 77, 54), (547, RX4, 84, 1), (366, RX4, 94, 76), (662, RX4, 105, 50), (473, RX4, 109, 20), (469, RX4, 112, 52), (406, RX4, 121, 70),
  (411, RX4, 125, 26), (415, RX4, 129, 68), (492, RX4, 138, 57), (496, RX4, 145, 55), (508, RX4, 151, 59), (517, RX4, 158, 19), (521, RX4, 161, 60), (525, RX4, 165, 74),
  (512, RX4, 168, 25), (576, RX4, 178, 3), (577, RX4, 182, 5), (600, RX4, 185, 4), (601, RX4, 188, 6), (711, RX4, 191, 61), (712, RX4, 195, 51), (713, RX4, 202, 43),
  (714, RX4, 206, 62), (715, RX4, 210, 63), (394, RX5, 18, 71), (398, RX5, 38, 68), (410, RX5, 51, 69), (484, RX5, 55, 72), (64, RX6, 9, 38), (261, RX6, 22, 27),
  (302, RX6, 29, 44), (318, RX6, 33, 40), (326, RX6, 41, 18), (337, RX6, 58, 9), (342, RX6, 61, 17), (354, RX6, 71, 22), (362, RX6, 77, 49), (370, RX6, 81, 50),
  (378, RX6, 90, 69), (381, RX6, 93, 24), (386, RX6, 97, 45), (420, RX6, 101, 41), (424, RX6, 105, 71), (425, RX6, 109, 111), (458, RX6, 144, 43), (465, RX6, 148, 53),
  (480, RX6, 151, 73), (488, RX6, 154, 56), (504, RX6, 161, 58), (534, RX6, 165, 75), (543, RX6, 173, 46), (555, RX6, 176, 42), (559, RX6, 180, 61), (567, RX6, 188, 3),
  (572, RX6, 192, 62), (587, RX6, 196, 5), (592, RX6, 200, 4), (596, RX6, 203, 63), (613, RX6, 213, 11), (624, RX6, 217, 23), (628, RX6, 220, 12), (637, RX6, 224, 13),
  (650, RX6, 227, 29), (699, RX6, 231, 28), (707, RX6, 237, 64), (720, RX6, 240, 39), (753, RX6, 250, 47), (757, RX6, 253, 48), (825, RX7, 32, 113), (809, RX7, 36, 117),
  (813, RX7, 40, 119), (821, RX7, 44, 114), (844, RX7, 48, 118), (840, RX7, 51, 125), (864, RX7, 54, 129), (856, RX7, 57, 128), (860, RX7, 60, 131), (876, RX7, 64, 133),
  (872, RX7, 67, 134), (880, RX7, 71, 130), (884, RX7, 75, 138), (887, RX7, 78, 136), (895, RX7, 88, 115), (899, RX7, 91, 140), (934, RX7, 94, 120), (938, RX7, 97, 147),
  (946, RX7, 100, 137), (930, RX7, 104, 148), (942, RX7, 107, 149), (962, RX7, 111, 135), (954, RX7, 114, 151), (958, RX7, 117, 152), (966, RX7, 120, 153), (978, RX7, 123, 156),
  (986, RX7, 126, 116), (998, RX7, 129, 159), (994, RX7, 132, 160), (1002, RX7, 135, 161), (1026, RX7, 148, 167), (1042, RX7, 154, 171), (1046, RX7, 157, 172), (1050, RX7, 160, 173),
  (1062, RX7, 167, 174), (1063, RX7, 170, 158), (1064, RX7, 173, 176), (1068, RX7, 176, 162), (1069, RX7, 179, 164), (56, "WheelStandsLaw", 9, 77), (763, "WheelStandsLaw", 12, 112), (298, "WheelStandsLaw", 13, 78),
  (805, "WheelStandsLaw", 17, 121), (314, "WheelStandsLaw", 18, 79), (817, "WheelStandsLaw", 22, 122), (322, "WheelStandsLaw", 23, 80), (828, "WheelStandsLaw", 27, 123), (333, "WheelStandsLaw", 28, 81), (832, "WheelStandsLaw", 32, 124), (338, "WheelStandsLaw", 33, 82),
  (836, "WheelStandsLaw", 37, 126), (346, "WheelStandsLaw", 38, 83), (848, "WheelStandsLaw", 41, 127), (350, "WheelStandsLaw", 42, 84), (852, "WheelStandsLaw", 45, 132), (374, "WheelStandsLaw", 46, 85), (868, "WheelStandsLaw", 50, 139), (416, "WheelStandsLaw", 51, 86),
  (891, "WheelStandsLaw", 54, 141), (434, "WheelStandsLaw", 55, 87), (906, "WheelStandsLaw", 58, 142), (438, "WheelStandsLaw", 59, 88), (910, "WheelStandsLaw", 63, 143), (442, "WheelStandsLaw", 64, 89), (914, "WheelStandsLaw", 67, 144), (446, "WheelStandsLaw", 68, 90),
  (918, "WheelStandsLaw", 71, 145), (450, "WheelStandsLaw", 72, 91), (922, "WheelStandsLaw", 75, 146), (454, "WheelStandsLaw", 76, 92), (926, "WheelStandsLaw", 79, 150), (500, "WheelStandsLaw", 80, 93), (950, "WheelStandsLaw", 83, 154), (530, "WheelStandsLaw", 84, 94),
  (970, "WheelStandsLaw", 88, 155), (539, "WheelStandsLaw", 89, 95), (974, "WheelStandsLaw", 92, 157), (551, "WheelStandsLaw", 93, 96), (982, "WheelStandsLaw", 96, 158), (563, "WheelStandsLaw", 97, 97), (990, "WheelStandsLaw", 100, 162), (583, "WheelStandsLaw", 101, 98),
  (1006, "WheelStandsLaw", 104, 163), (588, "WheelStandsLaw", 105, 99), (1010, "WheelStandsLaw", 108, 164), (605, "WheelStandsLaw", 109, 100), (1014, "WheelStandsLaw", 112, 165), (609, "WheelStandsLaw", 113, 101), (1018, "WheelStandsLaw", 117, 166), (620, "WheelStandsLaw", 118, 102),
  (1022, "WheelStandsLaw", 121, 168), (633, "WheelStandsLaw", 122, 103), (1030, "WheelStandsLaw", 125, 169), (642, "WheelStandsLaw", 126, 104), (1034, "WheelStandsLaw", 129, 170), (646, "WheelStandsLaw", 130, 105), (1038, "WheelStandsLaw", 133, 174), (695, "WheelStandsLaw", 134, 106),
  (1054, "WheelStandsLaw", 137, 175), (703, "WheelStandsLaw", 138, 107), (1058, "WheelStandsLaw", 141, 177), (716, "WheelStandsLaw", 142, 108), (1070, "WheelStandsLaw", 145, 178), (745, "WheelStandsLaw", 146, 109), (1074, "WheelStandsLaw", 149, 179), (749, "WheelStandsLaw", 150, 110),
  (1078, "WheelStandsLaw", 153, 180)]
def xcl : List (Nat × String × Nat × String) := [
  (75, RX2, 27, RX1), (68, RX4, 11, RX2), (134, RX4, 20, RX5), (191, RX4, 27, RX0), (62, RX6, 7, RX4), (259, RX6, 20, RX3), (54, "WheelStandsLaw", 7, RX6), (761, "WheelStandsLaw", 10, RX7)]
def xcn : List (Nat × String × Nat × Int32 × Nat) := [
  (680, RX3, 57, (1000000 : Int32), 0)]
def xsw : List ((Int × Int × Int × Array Int × Nat) × Nat × List Nat) := [
  ((36, 0, 2, #[27, 30, 33], 27), 68, [62, 64, 66]),
  ((101, 0, 7, #[47, 52, 57, 67, 76, 81, 86, 91], 47), 43, [11, 14, 17, 23, 28, 31, 34, 37]),
  ((95, 0, 7, #[47, 52, 57, 62, 67, 72, 77, 90], 47), 39, [11, 14, 17, 20, 23, 26, 29, 36]),
  ((51, 0, 3, #[31, 36, 41, 46], 31), 25, [13, 16, 19, 22]),
  ((127, 0, 8, #[51, 59, 67, 75, 84, 93, 102, 111, 119], 51), 42, [2, 6, 10, 14, 19, 24, 29, 34, 38]),
  ((127, 0, 7, #[48, 54, 61, 69, 77, 91, 105, 119], 48), 62, [8, 12, 17, 23, 29, 38, 47, 56]),
  ((131, 0, 7, #[45, 45, 45, 52, 68, 45, 97, 114], 45), 65, [13, 13, 13, 18, 28, 13, 45, 55]),
  ((54, 0, 3, #[30, 30, 39, 45], 30), 32, [14, 14, 21, 25]),
  ((142, 0, 8, #[49, 49, 49, 56, 56, 56, 56, 96, 135], 49), 64, [4, 4, 4, 9, 9, 9, 9, 35, 59]),
  ((1183, 0, 32, #[148, 171, 214, 247, 280, 339, 372, 405, 448, 481, 514, 537, 560, 583, 616, 659, 692, 705, 738, 771, 804, 837, 860, 893, 946, 989, 1012, 1045, 1068, 1091, 1114, 1137, 1160], 148), 851, [22, 39, 76, 103, 130, 175, 202, 229, 266, 293, 320, 337, 354, 371, 398, 435, 462, 469, 496, 523, 550, 577, 594, 621, 668, 705, 722, 749, 766, 783, 800, 817, 834])]
/-- an instruction: number, int, place, link, byte -/
abbrev xI : Type := Nat × Int × Nat × Nat × Nat
def x_63 : xI := (63, 0, 0, 0, 0)
def xc0 : List xI := [
  (2, 0, 0, 0, 0), (43, 0, 3, 197, 1), (2, 0, 0, 0, 4), (1, 0, 1, 0, 5), (26, 0, 0, 0, 6), (2, 0, 0, 0, 9), (0, 8, 0, 1, 10), (36, 0, 0, 0, 12), (27, 0, 5, 1, 14), (53, 0, 0, 0, 17)]
def xc1 : List xI := [
  (2, 0, 0, 0, 0), (1, 0, 1, 0, 1), (26, 0, 1, 2, 2), (2, 0, 0, 0, 5), (1, 0, 2, 0, 6), (26, 0, 2, 3, 7), (2, 0, 0, 0, 10), (0, 0, 0, 0, 11), (26, 0, 3, 4, 12), (2, 0, 0, 0, 15),
  (0, 0, 0, 0, 16), (26, 0, 4, 5, 17), (2, 0, 0, 0, 20), (0, 0, 0, 0, 21), (26, 0, 6, 6, 22), (53, 0, 0, 0, 25)]
def xc2 : List xI := [
  (2, 0, 0, 0, 0), (2, 0, 1, 0, 1), (24, 0, 1, 2, 2), (26, 0, 1, 2, 5), (2, 0, 0, 0, 8), (2, 0, 1, 0, 9), (24, 0, 2, 3, 10), (26, 0, 2, 3, 13), (2, 0, 0, 0, 16), (2, 0, 1, 0, 17),
  (24, 0, 3, 4, 18), (26, 0, 3, 4, 21), (2, 0, 0, 0, 24), (2, 0, 1, 0, 25), (24, 0, 4, 5, 26), (26, 0, 4, 5, 29), (2, 0, 0, 0, 32), (2, 0, 1, 0, 33), (24, 0, 6, 6, 34), (26, 0, 6, 6, 37),
  (2, 0, 1, 0, 40), (25, 0, 5, 1, 41), (0, 0, 0, 0, 44), (2, 0, 0, 0, 45), (25, 0, 5, 1, 46), (0, 0, 0, 0, 49), (0, 8, 0, 1, 50), (46, 0, 34, 744, 52), (53, 0, 0, 0, 55)]
def xc3 : List xI := [
  (2, 0, 0, 0, 0), (24, 0, 3, 4, 1), (2, 0, 1, 0, 4), (40, 0, 70, 0, 5), (6, 0, 0, 0, 8), (2, 0, 0, 0, 9), (24, 0, 1, 2, 10), (16, 0, 14, 4, 13), (2, 0, 0, 0, 16), (24, 0, 6, 6, 17),
  (0, 8, 0, 1, 20), (16, 0, 14, 3, 22), (0, 1, 0, 0, 25), (17, 0, 15, 0, 26), (0, 0, 0, 0, 29), (51, 0, 0, 0, 30)]
def xc4 : List xI := [
  (1, 0, 1, 0, 0), (15, 0, 14, 2, 1), (1, 0, 1, 0, 4), (2, 0, 0, 0, 5), (24, 0, 6, 6, 6), (16, 0, 14, 3, 9), (1, 0, 1, 0, 12), (0, 8, 0, 1, 13), (16, 0, 14, 3, 15), (2, 0, 0, 0, 18),
  (25, 0, 5, 1, 19), (1, 0, 1, 0, 22), (28, 0, 0, 0, 23), (17, 0, 15, 0, 24), (0, -1, 0, 0, 27), (50, 0, 0, 0, 28)]
def xc5 : List xI := [
  (2, 0, 0, 0, 0), (2, 0, 1, 0, 1), (40, 0, 3, 1, 2), (15, 0, 30, 0, 5), (2, 0, 0, 0, 8), (25, 0, 5, 1, 9), (2, 0, 0, 0, 12), (24, 0, 6, 6, 13), (2, 0, 1, 0, 16), (24, 0, 80, 7, 17),
  (29, 0, 0, 0, 20), (2, 0, 0, 0, 21), (21, 0, 0, 0, 22), (24, 0, 6, 6, 23), (0, 1, 0, 0, 26), (6, 0, 0, 0, 27), (26, 0, 6, 6, 28), (2, 0, 0, 0, 31), (21, 0, 0, 0, 32), (24, 0, 3, 4, 33),
  (2, 0, 1, 0, 36), (40, 0, 70, 0, 37), (6, 0, 0, 0, 40), (26, 0, 3, 4, 41), (2, 0, 1, 0, 44), (0, 1, 0, 0, 45), (0, -1, 0, 0, 46), (2, 0, 0, 0, 47), (24, 0, 0, 0, 48), (40, 0, 68, 2, 51),
  (53, 0, 0, 0, 54)]
def xc6 : List xI := [
  (0, 1, 0, 0, 0), (3, 0, 2, 0, 1), (1, 0, 2, 0, 2), (2, 0, 0, 0, 3), (24, 0, 6, 6, 4), (16, 0, 18, 3, 7), (2, 0, 0, 0, 10), (25, 0, 5, 1, 11), (1, 0, 2, 0, 14), (0, 1, 0, 0, 15),
  (7, 0, 0, 0, 16), (2, 0, 0, 0, 17), (25, 0, 5, 1, 18), (1, 0, 2, 0, 21), (28, 0, 0, 0, 22), (29, 0, 0, 0, 23), (5, 1, 2, 0, 24), (17, 0, 2, 0, 27), (2, 0, 0, 0, 30), (21, 0, 0, 0, 31),
  (24, 0, 6, 6, 32), (0, 1, 0, 0, 35), (7, 0, 0, 0, 36), (26, 0, 6, 6, 37), (2, 0, 0, 0, 40), (21, 0, 0, 0, 41), (24, 0, 3, 4, 42), (2, 0, 1, 0, 45), (40, 0, 70, 0, 46), (7, 0, 0, 0, 49),
  (26, 0, 3, 4, 50), (53, 0, 0, 0, 53)]
def xc7 : List xI := [
  (2, 0, 0, 0, 0), (43, 0, 3, 80, 1), (2, 0, 0, 0, 4), (0, 24, 0, 1, 5), (36, 0, 0, 0, 7), (27, 0, 17, 8, 9), (2, 0, 0, 0, 12), (0, 24, 0, 1, 13), (36, 0, 0, 0, 15), (27, 0, 18, 9, 17),
  (53, 0, 0, 0, 20)]
def xc8 : List xI := [
  (1, 0, 0, 0, 0), (15, 0, 7, 2, 1), (1, 0, 0, 0, 4), (0, 99, 0, 1, 5), (16, 0, 7, 4, 7), (0, 1, 0, 0, 10), (17, 0, 8, 0, 11), (0, 0, 0, 0, 14), (51, 0, 0, 0, 15)]
def xc9 : List xI := [
  (2, 0, 0, 0, 0), (0, 0, 0, 0, 1), (32, 0, 16, 10, 2), (0, 0, 0, 0, 5), (3, 0, 1, 0, 6), (1, 0, 1, 0, 7), (0, 24, 0, 1, 8), (16, 0, 20, 3, 10), (2, 0, 0, 0, 13), (25, 0, 17, 8, 14),
  (1, 0, 1, 0, 17), (0, 0, 0, 0, 18), (29, 0, 0, 0, 19), (2, 0, 0, 0, 20), (25, 0, 18, 9, 21), (1, 0, 1, 0, 24), (0, 0, 0, 0, 25), (29, 0, 0, 0, 26), (5, 1, 1, 0, 27), (17, 0, 5, 0, 30),
  (53, 0, 0, 0, 33)]
def xc10 : List xI := [
  (2, 0, 0, 0, 0), (2, 0, 1, 0, 1), (24, 0, 16, 10, 2), (32, 0, 16, 10, 5), (2, 0, 1, 0, 8), (25, 0, 17, 8, 9), (0, 0, 0, 0, 12), (2, 0, 0, 0, 13), (25, 0, 17, 8, 14), (0, 0, 0, 0, 17),
  (0, 24, 0, 1, 18), (46, 0, 22, 735, 20), (2, 0, 1, 0, 23), (25, 0, 18, 9, 24), (0, 0, 0, 0, 27), (2, 0, 0, 0, 28), (25, 0, 18, 9, 29), (0, 0, 0, 0, 32), (0, 24, 0, 1, 33), (46, 0, 22, 735, 35),
  (53, 0, 0, 0, 38)]
def xc11 : List xI := [
  (1, 0, 1, 0, 0), (15, 0, 11, 2, 1), (1, 0, 1, 0, 4), (0, 24, 0, 1, 5), (16, 0, 11, 3, 7), (1, 0, 2, 0, 10), (41, 0, 8, 3, 11), (15, 0, 11, 0, 14), (1, 0, 3, 0, 17), (41, 0, 8, 3, 18),
  (15, 0, 13, 1, 21), (0, 0, 0, 0, 24), (51, 0, 0, 0, 25), (2, 0, 0, 0, 26), (0, 1, 0, 0, 27), (32, 0, 16, 10, 28), (2, 0, 0, 0, 31), (25, 0, 17, 8, 32), (1, 0, 1, 0, 35), (1, 0, 2, 0, 36),
  (29, 0, 0, 0, 37), (2, 0, 0, 0, 38), (25, 0, 18, 9, 39), (1, 0, 1, 0, 42), (1, 0, 3, 0, 43), (29, 0, 0, 0, 44), (0, 1, 0, 0, 45), (51, 0, 0, 0, 46)]
def xc12 : List xI := [
  (1, 0, 1, 0, 0), (3, 0, 4, 1, 1), (0, 0, 0, 0, 3), (3, 0, 5, 1, 4), (0, -1, 0, 0, 6), (3, 0, 6, 1, 7), (0, 0, 0, 0, 9), (3, 0, 7, 1, 10), (1, 0, 7, 1, 12), (0, 24, 0, 1, 14),
  (16, 0, 60, 3, 16), (2, 0, 0, 0, 19), (25, 0, 17, 8, 20), (1, 0, 7, 1, 23), (28, 0, 0, 0, 25), (2, 0, 0, 0, 26), (25, 0, 18, 9, 27), (1, 0, 7, 1, 30), (28, 0, 0, 0, 32), (44, 0, 32, 632, 33),
  (3, 0, 8, 1, 36), (0, 0, 0, 0, 38), (3, 0, 9, 1, 39), (1, 0, 9, 1, 41), (1, 0, 8, 1, 43), (16, 0, 51, 3, 45), (1, 0, 9, 1, 48), (2, 0, 0, 0, 50), (25, 0, 17, 8, 51), (1, 0, 7, 1, 54),
  (28, 0, 0, 0, 56), (16, 0, 38, 3, 57), (1, 0, 4, 1, 60), (1, 0, 2, 0, 62), (16, 0, 37, 3, 63), (5, 1, 4, 0, 66), (17, 0, 38, 0, 69), (5, 1, 5, 0, 72), (1, 0, 9, 1, 75), (2, 0, 0, 0, 77),
  (25, 0, 18, 9, 78), (1, 0, 7, 1, 81), (28, 0, 0, 0, 83), (16, 0, 49, 3, 84), (1, 0, 4, 1, 87), (15, 0, 48, 5, 89), (5, -1, 4, 0, 92), (17, 0, 49, 0, 95), (5, 1, 5, 0, 98), (5, 1, 9, 0, 101),
  (17, 0, 23, 0, 104), (1, 0, 5, 1, 107), (15, 0, 58, 5, 109), (1, 0, 6, 1, 112), (0, -1, 0, 0, 114), (16, 0, 58, 1, 115), (1, 0, 7, 1, 118), (3, 0, 6, 1, 120), (5, 1, 7, 0, 122), (17, 0, 8, 0, 125),
  (1, 0, 3, 0, 128), (47, 0, 0, 0, 129), (1, 0, 5, 1, 156), (50, 0, 0, 0, 158), (1, 0, 6, 1, 159), (50, 0, 0, 0, 161), (1, 0, 4, 1, 162), (50, 0, 0, 0, 164), (0, -3, 0, 1, 165), (50, 0, 0, 0, 167)]
def xc13 : List xI := [
  (0, 0, 0, 0, 0), (3, 0, 2, 0, 1), (2, 0, 0, 0, 2), (0, 0, 0, 0, 3), (1, 0, 1, 0, 4), (0, 0, 0, 0, 5), (40, 0, 12, 4, 6), (3, 0, 3, 0, 9), (0, 1, 0, 0, 10), (3, 0, 4, 1, 11),
  (1, 0, 4, 1, 13), (1, 0, 1, 0, 15), (16, 0, 28, 4, 16), (2, 0, 0, 0, 19), (1, 0, 4, 1, 20), (1, 0, 1, 0, 22), (0, 0, 0, 0, 23), (40, 0, 12, 4, 24), (3, 0, 5, 1, 27), (1, 0, 5, 1, 29),
  (1, 0, 3, 0, 31), (16, 0, 26, 3, 32), (1, 0, 5, 1, 35), (3, 0, 3, 0, 37), (1, 0, 4, 1, 38), (3, 0, 2, 0, 40), (5, 1, 4, 0, 41), (17, 0, 10, 0, 44), (1, 0, 2, 0, 47), (50, 0, 0, 0, 48)]
def xc14 : List xI := [
  (2, 0, 0, 0, 0), (43, 0, 3, 74, 1), (2, 0, 0, 0, 4), (1, 0, 1, 0, 5), (26, 0, 32, 11, 6), (2, 0, 0, 0, 9), (0, 12, 0, 1, 10), (36, 0, 0, 0, 12), (27, 0, 34, 12, 14), (2, 0, 0, 0, 17),
  (0, 12, 0, 1, 18), (36, 0, 0, 0, 20), (27, 0, 35, 13, 22), (2, 0, 0, 0, 25), (0, 8, 0, 1, 26), (36, 0, 0, 0, 28), (27, 0, 36, 14, 30), (2, 0, 0, 0, 33), (35, 0, 1, 0, 34), (21, 0, 0, 0, 37),
  (42, 0, 7, 5, 38), (27, 0, 40, 15, 41), (53, 0, 0, 0, 44)]
def xc15 : List xI := [
  (2, 0, 0, 0, 0), (1, 0, 1, 0, 1), (26, 0, 33, 16, 2), (2, 0, 0, 0, 5), (0, -1, 0, 0, 6), (26, 0, 37, 17, 7), (2, 0, 0, 0, 10), (0, -1, 0, 0, 11), (26, 0, 38, 18, 12), (2, 0, 0, 0, 15),
  (0, 0, 0, 0, 16), (26, 0, 39, 19, 17), (0, 0, 0, 0, 20), (3, 0, 2, 0, 21), (1, 0, 2, 0, 22), (0, 12, 0, 1, 23), (16, 0, 24, 3, 25), (2, 0, 0, 0, 28), (25, 0, 34, 12, 29), (1, 0, 2, 0, 32),
  (0, -1, 0, 0, 33), (29, 0, 0, 0, 34), (5, 1, 2, 0, 35), (17, 0, 14, 0, 38), (0, 0, 0, 0, 41), (3, 0, 2, 0, 42), (1, 0, 2, 0, 43), (0, 12, 0, 1, 44), (16, 0, 42, 3, 46), (2, 0, 0, 0, 49),
  (25, 0, 35, 13, 50), (1, 0, 2, 0, 53), (1, 0, 2, 0, 54), (2, 0, 0, 0, 55), (24, 0, 32, 11, 56), (16, 0, 38, 1, 59), (0, 0, 0, 0, 62), (17, 0, 39, 0, 63), (0, 999, 0, 2, 66), (29, 0, 0, 0, 69),
  (5, 1, 2, 0, 70), (17, 0, 26, 0, 73), (2, 0, 0, 0, 76), (25, 0, 40, 15, 77), (40, 0, 9, 6, 80), (53, 0, 0, 0, 83)]
def xc16 : List xI := [
  (2, 0, 0, 0, 0), (2, 0, 1, 0, 1), (24, 0, 33, 16, 2), (26, 0, 33, 16, 5), (2, 0, 0, 0, 8), (2, 0, 1, 0, 9), (24, 0, 37, 17, 10), (26, 0, 37, 17, 13), (2, 0, 0, 0, 16), (2, 0, 1, 0, 17),
  (24, 0, 38, 18, 18), (26, 0, 38, 18, 21), (2, 0, 0, 0, 24), (2, 0, 1, 0, 25), (24, 0, 39, 19, 26), (26, 0, 39, 19, 29), (2, 0, 1, 0, 32), (25, 0, 34, 12, 33), (0, 0, 0, 0, 36), (2, 0, 0, 0, 37),
  (25, 0, 34, 12, 38), (0, 0, 0, 0, 41), (0, 12, 0, 1, 42), (46, 0, 49, 728, 44), (2, 0, 1, 0, 47), (25, 0, 35, 13, 48), (0, 0, 0, 0, 51), (2, 0, 0, 0, 52), (25, 0, 35, 13, 53), (0, 0, 0, 0, 56),
  (0, 12, 0, 1, 57), (46, 0, 49, 728, 59), (2, 0, 1, 0, 62), (25, 0, 36, 14, 63), (0, 0, 0, 0, 66), (2, 0, 0, 0, 67), (25, 0, 36, 14, 68), (0, 0, 0, 0, 71), (0, 8, 0, 1, 72), (46, 0, 49, 728, 74),
  (2, 0, 0, 0, 77), (25, 0, 40, 15, 78), (2, 0, 1, 0, 81), (25, 0, 40, 15, 82), (40, 0, 10, 7, 85), (53, 0, 0, 0, 88)]
def xc17 : List xI := [
  (1, 0, 1, 0, 0), (15, 0, 11, 2, 1), (1, 0, 1, 0, 4), (2, 0, 0, 0, 5), (24, 0, 33, 16, 6), (16, 0, 11, 3, 9), (1, 0, 1, 0, 12), (0, 12, 0, 1, 13), (16, 0, 11, 3, 15), (0, 1, 0, 0, 18),
  (17, 0, 12, 0, 19), (0, 0, 0, 0, 22), (51, 0, 0, 0, 23)]
def xc18 : List xI := [
  (0, 0, 0, 0, 0), (2, 0, 0, 0, 1), (24, 0, 37, 17, 2), (44, 0, 59, 330, 5), (3, 0, 2, 0, 8), (1, 0, 2, 0, 9), (0, 8, 0, 1, 10), (16, 0, 10, 2, 12), (0, -1, 0, 0, 15), (50, 0, 0, 0, 16),
  (2, 0, 0, 0, 17), (25, 0, 36, 14, 18), (1, 0, 2, 0, 21), (1, 0, 1, 0, 22), (29, 0, 0, 0, 23), (2, 0, 0, 0, 24), (1, 0, 2, 0, 25), (0, 1, 0, 0, 26), (6, 0, 0, 0, 27), (26, 0, 37, 17, 28),
  (2, 0, 0, 0, 31), (24, 0, 37, 17, 32), (50, 0, 0, 0, 35)]
def xc19 : List xI := [
  (1, 0, 1, 0, 0), (15, 0, 14, 2, 1), (1, 0, 1, 0, 4), (2, 0, 0, 0, 5), (24, 0, 37, 17, 6), (16, 0, 14, 3, 9), (1, 0, 1, 0, 12), (0, 8, 0, 1, 13), (16, 0, 14, 3, 15), (2, 0, 0, 0, 18),
  (25, 0, 36, 14, 19), (1, 0, 1, 0, 22), (28, 0, 0, 0, 23), (17, 0, 15, 0, 24), (0, -1, 0, 0, 27), (50, 0, 0, 0, 28)]
def xc20 : List xI := [
  (1, 0, 1, 0, 0), (15, 0, 10, 2, 1), (1, 0, 1, 0, 4), (0, 12, 0, 1, 5), (16, 0, 10, 3, 7), (2, 0, 0, 0, 10), (25, 0, 35, 13, 11), (1, 0, 1, 0, 14), (28, 0, 0, 0, 15), (17, 0, 11, 0, 16),
  (0, 999, 0, 2, 19), (50, 0, 0, 0, 22)]
def xc21 : List xI := [
  (0, 0, 0, 0, 0), (3, 0, 2, 0, 1), (0, 0, 0, 0, 2), (3, 0, 3, 0, 3), (1, 0, 3, 0, 4), (2, 0, 0, 0, 5), (24, 0, 33, 16, 6), (16, 0, 17, 3, 9), (2, 0, 0, 0, 12), (25, 0, 34, 12, 13),
  (1, 0, 3, 0, 16), (28, 0, 0, 0, 17), (1, 0, 1, 0, 18), (16, 0, 15, 1, 19), (5, 1, 2, 0, 22), (5, 1, 3, 0, 25), (17, 0, 4, 0, 28), (1, 0, 2, 0, 31), (50, 0, 0, 0, 32)]
def xc22 : List xI := [
  (2, 0, 0, 0, 0), (0, -1, 0, 0, 1), (40, 0, 21, 8, 2), (50, 0, 0, 0, 5)]
def xc23 : List xI := [
  (2, 0, 0, 0, 0), (24, 0, 33, 16, 1), (2, 0, 0, 0, 4), (0, -2, 0, 1, 5), (40, 0, 21, 8, 7), (7, 0, 0, 0, 10), (50, 0, 0, 0, 11)]
def xc24 : List xI := [
  (2, 0, 0, 0, 0), (1, 0, 1, 0, 1), (40, 0, 17, 9, 2), (15, 0, 12, 0, 5), (2, 0, 0, 0, 8), (1, 0, 1, 0, 9), (1, 0, 2, 0, 10), (6, 0, 0, 0, 11), (0, 1, 0, 0, 12), (7, 0, 0, 0, 13),
  (40, 0, 17, 9, 14), (15, 0, 14, 1, 17), (0, 0, 0, 0, 20), (51, 0, 0, 0, 21), (2, 0, 0, 0, 22), (25, 0, 34, 12, 23), (1, 0, 1, 0, 26), (28, 0, 0, 0, 27), (0, -1, 0, 0, 28), (16, 0, 32, 1, 29),
  (2, 0, 0, 0, 32), (25, 0, 34, 12, 33), (1, 0, 1, 0, 36), (1, 0, 2, 0, 37), (6, 0, 0, 0, 38), (0, 1, 0, 0, 39), (7, 0, 0, 0, 40), (28, 0, 0, 0, 41), (0, -1, 0, 0, 42), (16, 0, 32, 1, 43),
  (0, 1, 0, 0, 46), (17, 0, 33, 0, 47), (0, 0, 0, 0, 50), (51, 0, 0, 0, 51)]
def xc25 : List xI := [
  (0, 0, 0, 0, 0), (3, 0, 2, 0, 1), (1, 0, 2, 0, 2), (2, 0, 0, 0, 3), (24, 0, 33, 16, 4), (16, 0, 15, 3, 7), (2, 0, 0, 0, 10), (1, 0, 2, 0, 11), (1, 0, 1, 0, 12), (40, 0, 24, 10, 13),
  (15, 0, 13, 0, 16), (1, 0, 2, 0, 19), (50, 0, 0, 0, 20), (5, 1, 2, 0, 21), (17, 0, 2, 0, 24), (0, -1, 0, 0, 27), (50, 0, 0, 0, 28)]
def xc26 : List xI := [
  (0, 0, 0, 0, 0), (3, 0, 4, 1, 1), (1, 0, 4, 1, 3), (1, 0, 2, 0, 5), (16, 0, 20, 3, 6), (2, 0, 0, 0, 9), (1, 0, 1, 0, 10), (1, 0, 4, 1, 11), (6, 0, 0, 0, 13), (40, 0, 17, 9, 14),
  (15, 0, 18, 0, 17), (2, 0, 0, 0, 20), (25, 0, 34, 12, 21), (1, 0, 1, 0, 24), (1, 0, 4, 1, 25), (6, 0, 0, 0, 27), (1, 0, 3, 0, 28), (29, 0, 0, 0, 29), (5, 1, 4, 0, 30), (17, 0, 2, 0, 33),
  (53, 0, 0, 0, 36)]
def xc27 : List xI := [
  (2, 0, 0, 0, 0), (43, 0, 5, 264, 1), (2, 0, 0, 0, 4), (0, 7, 0, 1, 5), (36, 0, 0, 0, 7), (27, 0, 48, 20, 9), (2, 0, 0, 0, 12), (0, 7, 0, 1, 13), (36, 0, 0, 0, 15), (27, 0, 50, 21, 17),
  (2, 0, 0, 0, 20), (0, 7, 0, 1, 21), (36, 0, 0, 0, 23), (27, 0, 51, 22, 25), (2, 0, 0, 0, 28), (0, 128, 0, 2, 29), (36, 0, 0, 0, 32), (27, 0, 53, 23, 34), (2, 0, 0, 0, 37), (0, 896, 0, 2, 38),
  (36, 0, 0, 0, 41), (27, 0, 54, 24, 43), (53, 0, 0, 0, 46)]
def xc28 : List xI := [
  (1, 0, 1, 0, 0), (15, 0, 14, 2, 1), (1, 0, 1, 0, 4), (2, 0, 0, 0, 5), (24, 0, 49, 25, 6), (16, 0, 14, 3, 9), (1, 0, 1, 0, 12), (0, 7, 0, 1, 13), (16, 0, 14, 3, 15), (2, 0, 0, 0, 18),
  (25, 0, 48, 20, 19), (1, 0, 1, 0, 22), (28, 0, 0, 0, 23), (17, 0, 15, 0, 24), (0, -1, 0, 0, 27), (50, 0, 0, 0, 28)]
def xc29 : List xI := [
  (2, 0, 2, 0, 0), (18, 0, 9, 0, 1), (2, 0, 2, 0, 4), (24, 0, 6, 26, 5), (15, 0, 9, 4, 8), (2, 0, 0, 0, 11), (2, 0, 1, 0, 12), (40, 0, 30, 11, 13), (15, 0, 11, 1, 16), (0, -1, 0, 0, 19),
  (50, 0, 0, 0, 20), (2, 0, 0, 0, 21), (40, 0, 32, 12, 22), (2, 0, 0, 0, 25), (2, 0, 1, 0, 26), (2, 0, 2, 0, 27), (24, 0, 1, 27, 28), (40, 0, 33, 13, 31), (2, 0, 0, 0, 34), (2, 0, 1, 0, 35),
  (2, 0, 2, 0, 36), (24, 0, 2, 28, 37), (0, 0, 0, 0, 40), (40, 0, 34, 14, 41), (3, 0, 3, 0, 44), (1, 0, 3, 0, 45), (0, 1000000, 57, 3, 46), (16, 0, 30, 2, 48), (0, -1, 0, 0, 51), (50, 0, 0, 0, 52),
  (2, 0, 0, 0, 53), (2, 0, 1, 0, 54), (2, 0, 2, 0, 55), (24, 0, 2, 28, 56), (40, 0, 36, 15, 59), (1, 0, 3, 0, 62), (50, 0, 0, 0, 63)]
def xc30 : List xI := [
  (2, 0, 0, 0, 0), (0, 0, 0, 0, 1), (26, 0, 52, 29, 2), (0, 0, 0, 0, 5), (3, 0, 2, 0, 6), (1, 0, 2, 0, 7), (2, 0, 1, 0, 8), (24, 0, 65, 30, 9), (16, 0, 51, 3, 12), (2, 0, 1, 0, 15),
  (25, 0, 64, 31, 16), (1, 0, 2, 0, 19), (30, 0, 0, 0, 20), (4, 0, 3, 0, 21), (2, 0, 1, 0, 22), (2, 0, 3, 0, 23), (40, 0, 51, 16, 24), (3, 0, 4, 1, 27), (1, 0, 4, 1, 29), (15, 0, 49, 0, 31),
  (2, 0, 0, 0, 34), (24, 0, 52, 29, 35), (0, 7, 0, 1, 38), (16, 0, 29, 3, 40), (2, 0, 3, 0, 43), (40, 0, 22, 17, 44), (1, 0, 4, 1, 47), (10, 0, 0, 0, 49), (16, 0, 31, 3, 50), (0, 0, 0, 0, 53),
  (51, 0, 0, 0, 54), (2, 0, 0, 0, 55), (25, 0, 50, 21, 56), (2, 0, 0, 0, 59), (24, 0, 52, 29, 60), (1, 0, 2, 0, 63), (29, 0, 0, 0, 64), (2, 0, 0, 0, 65), (25, 0, 51, 22, 66), (2, 0, 0, 0, 69),
  (24, 0, 52, 29, 70), (1, 0, 4, 1, 73), (29, 0, 0, 0, 75), (2, 0, 0, 0, 76), (21, 0, 0, 0, 77), (24, 0, 52, 29, 78), (0, 1, 0, 0, 81), (6, 0, 0, 0, 82), (26, 0, 52, 29, 83), (5, 1, 2, 0, 86),
  (17, 0, 5, 0, 89), (0, 1, 0, 0, 92), (51, 0, 0, 0, 93)]
def xc31 : List xI := [
  (0, 1, 0, 0, 0), (2, 0, 0, 0, 1), (24, 0, 52, 29, 2), (13, 0, 0, 0, 5), (0, 1, 0, 0, 6), (7, 0, 0, 0, 7), (50, 0, 0, 0, 8)]
def xc32 : List xI := [
  (0, 0, 0, 0, 0), (3, 0, 1, 0, 1), (1, 0, 1, 0, 2), (2, 0, 0, 0, 3), (40, 0, 31, 18, 4), (16, 0, 39, 4, 7), (2, 0, 0, 0, 10), (25, 0, 53, 23, 11), (1, 0, 1, 0, 14), (0, 0, 0, 0, 15),
  (29, 0, 0, 0, 16), (0, 0, 0, 0, 17), (3, 0, 2, 0, 18), (1, 0, 2, 0, 19), (2, 0, 0, 0, 20), (24, 0, 52, 29, 21), (16, 0, 37, 3, 24), (1, 0, 1, 0, 27), (1, 0, 2, 0, 28), (14, 0, 0, 0, 29),
  (0, 1, 0, 0, 30), (11, 0, 0, 0, 31), (0, 1, 0, 0, 32), (16, 0, 35, 1, 33), (2, 0, 0, 0, 36), (25, 0, 53, 23, 37), (1, 0, 1, 0, 40), (23, 0, 0, 0, 41), (28, 0, 0, 0, 42), (2, 0, 0, 0, 43),
  (25, 0, 51, 22, 44), (1, 0, 2, 0, 47), (28, 0, 0, 0, 48), (6, 0, 0, 0, 49), (29, 0, 0, 0, 50), (5, 1, 2, 0, 51), (17, 0, 13, 0, 54), (5, 1, 1, 0, 57), (17, 0, 2, 0, 60), (53, 0, 0, 0, 63)]
def xc33 : List xI := [
  (2, 0, 0, 0, 0), (40, 0, 31, 18, 1), (3, 0, 3, 0, 4), (1, 0, 3, 0, 5), (15, 0, 57, 5, 6), (2, 0, 0, 0, 9), (25, 0, 53, 23, 10), (1, 0, 3, 0, 13), (28, 0, 0, 0, 14), (15, 0, 18, 2, 15),
  (2, 0, 0, 0, 18), (25, 0, 53, 23, 19), (1, 0, 3, 0, 22), (28, 0, 0, 0, 23), (1, 0, 2, 0, 24), (16, 0, 18, 4, 25), (0, 1, 0, 0, 28), (17, 0, 19, 0, 29), (0, 0, 0, 0, 32), (3, 0, 4, 1, 33),
  (0, 0, 0, 0, 35), (3, 0, 5, 1, 36), (1, 0, 5, 1, 38), (2, 0, 0, 0, 40), (24, 0, 52, 29, 41), (16, 0, 55, 3, 44), (1, 0, 3, 0, 47), (1, 0, 5, 1, 48), (14, 0, 0, 0, 50), (0, 1, 0, 0, 51),
  (11, 0, 0, 0, 52), (0, 1, 0, 0, 53), (16, 0, 53, 1, 54), (2, 0, 0, 0, 57), (25, 0, 54, 24, 58), (1, 0, 3, 0, 61), (0, 7, 0, 1, 62), (8, 0, 0, 0, 64), (1, 0, 5, 1, 65), (6, 0, 0, 0, 67),
  (1, 0, 4, 1, 68), (15, 0, 51, 0, 70), (2, 0, 0, 0, 73), (2, 0, 1, 0, 74), (2, 0, 0, 0, 75), (25, 0, 50, 21, 76), (1, 0, 5, 1, 79), (28, 0, 0, 0, 81), (1, 0, 3, 0, 82), (40, 0, 34, 14, 83),
  (17, 0, 52, 0, 86), (0, 1000000, 57, 3, 89), (29, 0, 0, 0, 91), (5, 1, 5, 0, 92), (17, 0, 22, 0, 95), (5, -1, 3, 0, 98), (17, 0, 3, 0, 101), (53, 0, 0, 0, 104)]
def xc34 : List xI := [
  (1, 0, 3, 0, 0), (2, 0, 0, 0, 1), (40, 0, 31, 18, 2), (16, 0, 13, 1, 5), (2, 0, 0, 0, 8), (25, 0, 53, 23, 9), (1, 0, 3, 0, 12), (28, 0, 0, 0, 13), (15, 0, 11, 1, 14), (0, 0, 0, 0, 17),
  (17, 0, 12, 0, 18), (0, 1000000, 57, 3, 21), (50, 0, 0, 0, 23), (0, 1000000, 57, 3, 24), (3, 0, 4, 1, 26), (0, 0, 0, 0, 28), (3, 0, 5, 1, 29), (1, 0, 5, 1, 31), (2, 0, 0, 0, 33), (24, 0, 52, 29, 34),
  (16, 0, 38, 3, 37), (1, 0, 3, 0, 40), (1, 0, 5, 1, 41), (14, 0, 0, 0, 43), (0, 1, 0, 0, 44), (11, 0, 0, 0, 45), (15, 0, 36, 1, 46), (1, 0, 4, 1, 49), (2, 0, 0, 0, 51), (2, 0, 1, 0, 52),
  (1, 0, 2, 0, 53), (1, 0, 3, 0, 54), (1, 0, 5, 1, 55), (40, 0, 35, 19, 57), (45, 0, 87, 686, 60), (3, 0, 4, 1, 63), (5, 1, 5, 0, 65), (17, 0, 17, 0, 68), (1, 0, 4, 1, 71), (50, 0, 0, 0, 73)]
def xc35 : List xI := [
  (2, 0, 1, 0, 0), (1, 0, 2, 0, 1), (2, 0, 0, 0, 2), (25, 0, 50, 21, 3), (1, 0, 4, 1, 6), (28, 0, 0, 0, 8), (40, 0, 52, 20, 9), (2, 0, 0, 0, 12), (25, 0, 54, 24, 13), (1, 0, 3, 0, 16),
  (0, 1, 0, 0, 17), (1, 0, 4, 1, 18), (13, 0, 0, 0, 20), (12, 0, 0, 0, 21), (0, 7, 0, 1, 22), (8, 0, 0, 0, 24), (1, 0, 4, 1, 25), (6, 0, 0, 0, 27), (28, 0, 0, 0, 28), (6, 0, 0, 0, 29),
  (50, 0, 0, 0, 30)]
def xc36 : List xI := [
  (0, 0, 0, 0, 0), (3, 0, 3, 0, 1), (1, 0, 2, 0, 2), (3, 0, 4, 1, 3), (0, 0, 0, 0, 5), (3, 0, 5, 1, 6), (1, 0, 5, 1, 8), (2, 0, 0, 0, 10), (24, 0, 52, 29, 11), (16, 0, 55, 3, 14),
  (2, 0, 0, 0, 17), (2, 0, 1, 0, 18), (1, 0, 4, 1, 19), (1, 0, 3, 0, 21), (40, 0, 34, 14, 22), (3, 0, 6, 1, 25), (0, 0, 0, 0, 27), (3, 0, 7, 1, 28), (1, 0, 7, 1, 30), (2, 0, 0, 0, 32),
  (24, 0, 52, 29, 33), (0, 1, 0, 0, 36), (7, 0, 0, 0, 37), (16, 0, 34, 3, 38), (2, 0, 0, 0, 41), (2, 0, 1, 0, 42), (1, 0, 4, 1, 43), (1, 0, 3, 0, 45), (1, 0, 7, 1, 46), (1, 0, 6, 1, 48),
  (40, 0, 37, 21, 50), (15, 0, 34, 1, 53), (5, 1, 7, 0, 56), (17, 0, 18, 0, 59), (2, 0, 0, 0, 62), (25, 0, 48, 20, 63), (1, 0, 5, 1, 66), (2, 0, 0, 0, 68), (25, 0, 50, 21, 69), (1, 0, 7, 1, 72),
  (28, 0, 0, 0, 74), (29, 0, 0, 0, 75), (1, 0, 3, 0, 76), (0, 1, 0, 0, 77), (1, 0, 7, 1, 78), (13, 0, 0, 0, 80), (12, 0, 0, 0, 81), (3, 0, 3, 0, 82), (2, 0, 0, 0, 83), (25, 0, 50, 21, 84),
  (1, 0, 7, 1, 87), (28, 0, 0, 0, 89), (3, 0, 4, 1, 90), (5, 1, 5, 0, 92), (17, 0, 6, 0, 95), (2, 0, 0, 0, 98), (2, 0, 0, 0, 99), (24, 0, 52, 29, 100), (26, 0, 49, 25, 103), (53, 0, 0, 0, 106)]
def xc37 : List xI := [
  (1, 0, 3, 0, 0), (1, 0, 4, 1, 1), (14, 0, 0, 0, 3), (0, 1, 0, 0, 4), (11, 0, 0, 0, 5), (15, 0, 16, 1, 6), (2, 0, 0, 0, 9), (2, 0, 1, 0, 10), (1, 0, 2, 0, 11), (1, 0, 3, 0, 12),
  (1, 0, 4, 1, 13), (40, 0, 35, 19, 15), (1, 0, 5, 1, 18), (16, 0, 16, 1, 20), (0, 1, 0, 0, 23), (17, 0, 17, 0, 24), (0, 0, 0, 0, 27), (51, 0, 0, 0, 28)]
def xc38 : List xI := [
  (2, 0, 0, 0, 0), (43, 0, 3, 67, 1), (2, 0, 0, 0, 4), (0, 12, 0, 1, 5), (38, 0, 11, 1, 7), (27, 0, 64, 32, 10), (0, 0, 0, 0, 13), (3, 0, 1, 0, 14), (1, 0, 1, 0, 15), (0, 12, 0, 1, 16),
  (16, 0, 21, 3, 18), (2, 0, 0, 0, 21), (25, 0, 64, 32, 22), (1, 0, 1, 0, 25), (35, 0, 2, 1, 26), (21, 0, 0, 0, 29), (1, 0, 1, 0, 30), (42, 0, 14, 22, 31), (31, 0, 0, 0, 34), (5, 1, 1, 0, 35),
  (17, 0, 8, 0, 38), (2, 0, 0, 0, 41), (0, 60, 0, 1, 42), (38, 0, 13, 2, 44), (27, 0, 66, 33, 47), (0, 0, 0, 0, 50), (3, 0, 1, 0, 51), (1, 0, 1, 0, 52), (0, 60, 0, 1, 53), (16, 0, 40, 3, 55),
  (2, 0, 0, 0, 58), (25, 0, 66, 33, 59), (1, 0, 1, 0, 62), (35, 0, 5, 2, 63), (21, 0, 0, 0, 66), (1, 0, 1, 0, 67), (42, 0, 65, 23, 68), (31, 0, 0, 0, 71), (5, 1, 1, 0, 72), (17, 0, 27, 0, 75),
  (2, 0, 0, 0, 78), (0, 3, 0, 0, 79), (38, 0, 10, 3, 80), (27, 0, 68, 34, 83), (0, 0, 0, 0, 86), (3, 0, 1, 0, 87), (1, 0, 1, 0, 88), (0, 3, 0, 0, 89), (16, 0, 59, 3, 90), (2, 0, 0, 0, 93),
  (25, 0, 68, 34, 94), (1, 0, 1, 0, 97), (35, 0, 0, 3, 98), (21, 0, 0, 0, 101), (1, 0, 1, 0, 102), (42, 0, 0, 24, 103), (31, 0, 0, 0, 106), (5, 1, 1, 0, 107), (17, 0, 46, 0, 110), (53, 0, 0, 0, 113)]
def xc39 : List xI := [
  (2, 0, 0, 0, 0), (2, 0, 1, 0, 1), (24, 0, 65, 35, 2), (26, 0, 65, 35, 5), (2, 0, 0, 0, 8), (2, 0, 1, 0, 9), (24, 0, 67, 36, 10), (26, 0, 67, 36, 13), (2, 0, 0, 0, 16), (2, 0, 1, 0, 17),
  (24, 0, 69, 37, 18), (26, 0, 69, 37, 21), (2, 0, 0, 0, 24), (2, 0, 1, 0, 25), (24, 0, 70, 38, 26), (26, 0, 70, 38, 29), (0, 0, 0, 0, 32), (3, 0, 2, 0, 33), (1, 0, 2, 0, 34), (0, 12, 0, 1, 35),
  (16, 0, 32, 3, 37), (2, 0, 0, 0, 40), (25, 0, 64, 32, 41), (1, 0, 2, 0, 44), (30, 0, 0, 0, 45), (2, 0, 1, 0, 46), (25, 0, 64, 32, 47), (1, 0, 2, 0, 50), (30, 0, 0, 0, 51), (40, 0, 16, 25, 52),
  (5, 1, 2, 0, 55), (17, 0, 18, 0, 58), (0, 0, 0, 0, 61), (3, 0, 2, 0, 62), (1, 0, 2, 0, 63), (0, 60, 0, 1, 64), (16, 0, 48, 3, 66), (2, 0, 0, 0, 69), (25, 0, 66, 33, 70), (1, 0, 2, 0, 73),
  (30, 0, 0, 0, 74), (2, 0, 1, 0, 75), (25, 0, 66, 33, 76), (1, 0, 2, 0, 79), (30, 0, 0, 0, 80), (40, 0, 67, 26, 81), (5, 1, 2, 0, 84), (17, 0, 34, 0, 87), (0, 0, 0, 0, 90), (3, 0, 2, 0, 91),
  (1, 0, 2, 0, 92), (0, 3, 0, 0, 93), (16, 0, 64, 3, 94), (2, 0, 0, 0, 97), (25, 0, 68, 34, 98), (1, 0, 2, 0, 101), (30, 0, 0, 0, 102), (2, 0, 1, 0, 103), (25, 0, 68, 34, 104), (1, 0, 2, 0, 107),
  (30, 0, 0, 0, 108), (40, 0, 2, 27, 109), (5, 1, 2, 0, 112), (17, 0, 50, 0, 115), (53, 0, 0, 0, 118)]
def xc40 : List xI := [
  (1, 0, 1, 0, 0), (15, 0, 14, 2, 1), (1, 0, 1, 0, 4), (2, 0, 0, 0, 5), (24, 0, 65, 35, 6), (16, 0, 14, 3, 9), (1, 0, 1, 0, 12), (0, 12, 0, 1, 13), (16, 0, 14, 3, 15), (2, 0, 0, 0, 18),
  (25, 0, 64, 32, 19), (1, 0, 1, 0, 22), (30, 0, 0, 0, 23), (17, 0, 15, 0, 24), (20, 0, 0, 0, 27), (52, 0, 0, 0, 28)]
def xc41 : List xI := [
  (1, 0, 1, 0, 0), (15, 0, 14, 2, 1), (1, 0, 1, 0, 4), (2, 0, 0, 0, 5), (24, 0, 67, 36, 6), (16, 0, 14, 3, 9), (1, 0, 1, 0, 12), (0, 60, 0, 1, 13), (16, 0, 14, 3, 15), (2, 0, 0, 0, 18),
  (25, 0, 66, 33, 19), (1, 0, 1, 0, 22), (30, 0, 0, 0, 23), (17, 0, 15, 0, 24), (20, 0, 0, 0, 27), (52, 0, 0, 0, 28)]
def xc42 : List xI := [
  (1, 0, 1, 0, 0), (15, 0, 14, 2, 1), (1, 0, 1, 0, 4), (2, 0, 0, 0, 5), (24, 0, 69, 37, 6), (16, 0, 14, 3, 9), (1, 0, 1, 0, 12), (0, 3, 0, 0, 13), (16, 0, 14, 3, 14), (2, 0, 0, 0, 17),
  (25, 0, 68, 34, 18), (1, 0, 1, 0, 21), (30, 0, 0, 0, 22), (17, 0, 15, 0, 23), (20, 0, 0, 0, 26), (52, 0, 0, 0, 27)]
def xc43 : List xI := [
  (2, 0, 0, 0, 0), (1, 0, 1, 0, 1), (40, 0, 40, 28, 2), (4, 0, 3, 0, 5), (2, 0, 3, 0, 6), (18, 0, 10, 0, 7), (2, 0, 3, 0, 10), (1, 0, 2, 0, 11), (40, 0, 17, 29, 12), (15, 0, 12, 1, 15),
  (20, 0, 0, 0, 18), (17, 0, 18, 0, 19), (2, 0, 0, 0, 22), (2, 0, 3, 0, 23), (25, 0, 34, 39, 24), (1, 0, 2, 0, 27), (28, 0, 0, 0, 28), (40, 0, 41, 30, 29), (52, 0, 0, 0, 32)]
def xc44 : List xI := [
  (2, 0, 0, 0, 0), (24, 0, 65, 35, 1), (0, 12, 0, 1, 4), (16, 0, 6, 2, 6), (0, -1, 0, 0, 9), (50, 0, 0, 0, 10), (2, 0, 0, 0, 11), (25, 0, 64, 32, 12), (2, 0, 0, 0, 15), (24, 0, 65, 35, 16),
  (30, 0, 0, 0, 19), (1, 0, 1, 0, 20), (40, 0, 15, 31, 21), (2, 0, 0, 0, 24), (21, 0, 0, 0, 25), (24, 0, 65, 35, 26), (0, 1, 0, 0, 29), (6, 0, 0, 0, 30), (26, 0, 65, 35, 31), (2, 0, 0, 0, 34),
  (24, 0, 65, 35, 35), (0, 1, 0, 0, 38), (7, 0, 0, 0, 39), (50, 0, 0, 0, 40)]
def xc45 : List xI := [
  (2, 0, 0, 0, 0), (24, 0, 67, 36, 1), (0, 60, 0, 1, 4), (16, 0, 6, 2, 6), (0, -1, 0, 0, 9), (50, 0, 0, 0, 10), (2, 0, 0, 0, 11), (25, 0, 66, 33, 12), (2, 0, 0, 0, 15), (24, 0, 67, 36, 16),
  (30, 0, 0, 0, 19), (4, 0, 4, 1, 20), (2, 0, 4, 1, 22), (1, 0, 1, 0, 24), (40, 0, 66, 32, 25), (2, 0, 0, 0, 28), (2, 0, 4, 1, 29), (2, 0, 2, 0, 31), (1, 0, 3, 0, 32), (40, 0, 54, 33, 33),
  (2, 0, 0, 0, 36), (21, 0, 0, 0, 37), (24, 0, 67, 36, 38), (0, 1, 0, 0, 41), (6, 0, 0, 0, 42), (26, 0, 67, 36, 43), (2, 0, 4, 1, 46), (24, 0, 80, 40, 48), (50, 0, 0, 0, 51)]
def xc46 : List xI := [
  (2, 0, 0, 0, 0), (24, 0, 69, 37, 1), (0, 3, 0, 0, 4), (16, 0, 6, 2, 5), (0, -1, 0, 0, 8), (50, 0, 0, 0, 9), (2, 0, 0, 0, 10), (25, 0, 68, 34, 11), (2, 0, 0, 0, 14), (24, 0, 69, 37, 15),
  (30, 0, 0, 0, 18), (1, 0, 1, 0, 19), (1, 0, 2, 0, 20), (40, 0, 1, 34, 21), (2, 0, 0, 0, 24), (21, 0, 0, 0, 25), (24, 0, 69, 37, 26), (0, 1, 0, 0, 29), (6, 0, 0, 0, 30), (26, 0, 69, 37, 31),
  (2, 0, 0, 0, 34), (24, 0, 69, 37, 35), (0, 1, 0, 0, 38), (7, 0, 0, 0, 39), (50, 0, 0, 0, 40)]
def xc47 : List xI := [
  (0, 0, 0, 0, 0), (3, 0, 2, 0, 1), (0, 0, 0, 0, 2), (3, 0, 3, 0, 3), (1, 0, 3, 0, 4), (2, 0, 0, 0, 5), (24, 0, 67, 36, 6), (16, 0, 18, 3, 9), (2, 0, 0, 0, 12), (25, 0, 66, 33, 13),
  (1, 0, 3, 0, 16), (30, 0, 0, 0, 17), (24, 0, 83, 41, 18), (1, 0, 1, 0, 21), (16, 0, 16, 1, 22), (5, 1, 2, 0, 25), (5, 1, 3, 0, 28), (17, 0, 4, 0, 31), (1, 0, 2, 0, 34), (50, 0, 0, 0, 35)]
def xc48 : List xI := [
  (0, 0, 0, 0, 0), (3, 0, 1, 0, 1), (0, 0, 0, 0, 2), (3, 0, 2, 0, 3), (1, 0, 2, 0, 4), (2, 0, 0, 0, 5), (24, 0, 67, 36, 6), (16, 0, 17, 3, 9), (2, 0, 0, 0, 12), (25, 0, 66, 33, 13),
  (1, 0, 2, 0, 16), (30, 0, 0, 0, 17), (24, 0, 88, 42, 18), (15, 0, 15, 0, 21), (5, 1, 1, 0, 24), (5, 1, 2, 0, 27), (17, 0, 4, 0, 30), (1, 0, 1, 0, 33), (50, 0, 0, 0, 34)]
def xc49 : List xI := [
  (0, 0, 0, 0, 0), (3, 0, 3, 0, 1), (0, 0, 0, 0, 2), (3, 0, 4, 1, 3), (1, 0, 4, 1, 5), (2, 0, 0, 0, 7), (24, 0, 67, 36, 8), (16, 0, 19, 3, 11), (2, 0, 0, 0, 14), (25, 0, 66, 33, 15),
  (1, 0, 4, 1, 18), (30, 0, 0, 0, 20), (1, 0, 1, 0, 21), (1, 0, 2, 0, 22), (40, 0, 76, 35, 23), (15, 0, 17, 0, 26), (5, 1, 3, 0, 29), (5, 1, 4, 0, 32), (17, 0, 4, 0, 35), (1, 0, 3, 0, 38),
  (50, 0, 0, 0, 39)]
def xc50 : List xI := [
  (0, 0, 0, 0, 0), (3, 0, 2, 0, 1), (0, 0, 0, 0, 2), (3, 0, 3, 0, 3), (1, 0, 3, 0, 4), (2, 0, 0, 0, 5), (24, 0, 67, 36, 6), (16, 0, 26, 3, 9), (2, 0, 0, 0, 12), (25, 0, 66, 33, 13),
  (1, 0, 3, 0, 16), (30, 0, 0, 0, 17), (1, 0, 1, 0, 18), (0, 0, 0, 0, 19), (40, 0, 76, 35, 20), (15, 0, 24, 0, 23), (2, 0, 0, 0, 26), (25, 0, 66, 33, 27), (1, 0, 3, 0, 30), (30, 0, 0, 0, 31),
  (24, 0, 81, 43, 32), (0, 2, 0, 0, 35), (16, 0, 24, 0, 36), (5, 1, 2, 0, 39), (5, 1, 3, 0, 42), (17, 0, 4, 0, 45), (1, 0, 2, 0, 48), (50, 0, 0, 0, 49)]
def xc51 : List xI := [
  (2, 0, 1, 0, 0), (24, 0, 38, 44, 1), (0, -1, 0, 0, 4), (16, 0, 6, 1, 5), (0, 0, 0, 0, 8), (17, 0, 13, 0, 9), (2, 0, 0, 0, 12), (2, 0, 1, 0, 13), (24, 0, 32, 45, 14), (40, 0, 50, 36, 17),
  (2, 0, 1, 0, 20), (24, 0, 38, 44, 21), (7, 0, 0, 0, 24), (50, 0, 0, 0, 25)]
def xc52 : List xI := [
  (2, 0, 0, 0, 0), (1, 0, 1, 0, 1), (40, 0, 40, 28, 2), (4, 0, 3, 0, 5), (2, 0, 3, 0, 6), (19, 0, 8, 0, 7), (0, 999, 0, 2, 10), (17, 0, 11, 0, 13), (2, 0, 3, 0, 16), (1, 0, 2, 0, 17),
  (40, 0, 20, 37, 18), (50, 0, 0, 0, 21)]
def xc53 : List xI := [
  (0, 1000, 0, 2, 0), (3, 0, 2, 0, 3), (0, 0, 0, 0, 4), (3, 0, 3, 0, 5), (1, 0, 3, 0, 6), (2, 0, 0, 0, 7), (24, 0, 65, 35, 8), (16, 0, 20, 3, 11), (1, 0, 3, 0, 14), (1, 0, 1, 0, 15),
  (16, 0, 18, 0, 16), (1, 0, 2, 0, 19), (2, 0, 0, 0, 20), (1, 0, 1, 0, 21), (1, 0, 3, 0, 22), (40, 0, 52, 38, 23), (45, 0, 116, 477, 26), (3, 0, 2, 0, 29), (5, 1, 3, 0, 30), (17, 0, 4, 0, 33),
  (1, 0, 2, 0, 36), (0, 999, 0, 2, 37), (16, 0, 25, 5, 40), (0, 0, 0, 0, 43), (17, 0, 26, 0, 44), (1, 0, 2, 0, 47), (50, 0, 0, 0, 48)]
def xc54 : List xI := [
  (2, 0, 2, 0, 0), (1, 0, 3, 0, 1), (2, 0, 1, 0, 2), (40, 0, 70, 39, 3), (2, 0, 1, 0, 6), (24, 0, 80, 40, 7), (40, 0, 26, 40, 10), (2, 0, 1, 0, 13), (0, 0, 0, 0, 14), (2, 0, 2, 0, 15),
  (24, 0, 32, 45, 16), (1, 0, 3, 0, 19), (40, 0, 68, 41, 20), (53, 0, 0, 0, 23)]
def xc55 : List xI := [
  (2, 0, 0, 0, 0), (2, 0, 1, 0, 1), (24, 0, 84, 46, 2), (40, 0, 40, 28, 5), (4, 0, 2, 0, 8), (2, 0, 2, 0, 9), (18, 0, 17, 0, 10), (2, 0, 1, 0, 13), (24, 0, 83, 41, 14), (15, 0, 17, 1, 17),
  (2, 0, 2, 0, 20), (2, 0, 1, 0, 21), (24, 0, 85, 47, 22), (2, 0, 1, 0, 25), (40, 0, 70, 39, 26), (0, -1, 0, 0, 29), (40, 0, 26, 40, 30), (53, 0, 0, 0, 33)]
def xc56 : List xI := [
  (2, 0, 1, 0, 0), (24, 0, 84, 46, 1), (3, 0, 3, 0, 4), (2, 0, 0, 0, 5), (2, 0, 1, 0, 6), (2, 0, 2, 0, 7), (40, 0, 57, 42, 8), (2, 0, 2, 0, 11), (18, 0, 13, 0, 12), (2, 0, 0, 0, 15),
  (2, 0, 2, 0, 16), (2, 0, 1, 0, 17), (40, 0, 57, 42, 18), (0, 0, 0, 0, 21), (3, 0, 4, 1, 22), (1, 0, 4, 1, 24), (2, 0, 0, 0, 26), (24, 0, 67, 36, 27), (16, 0, 38, 3, 30), (2, 0, 0, 0, 33),
  (25, 0, 66, 33, 34), (1, 0, 4, 1, 37), (30, 0, 0, 0, 39), (1, 0, 3, 0, 40), (0, 0, 0, 0, 41), (40, 0, 76, 35, 42), (15, 0, 36, 0, 45), (2, 0, 0, 0, 48), (25, 0, 66, 33, 49), (1, 0, 4, 1, 52),
  (30, 0, 0, 0, 54), (21, 0, 0, 0, 55), (24, 0, 86, 48, 56), (0, 1, 0, 0, 59), (6, 0, 0, 0, 60), (26, 0, 86, 48, 61), (5, 1, 4, 0, 64), (17, 0, 15, 0, 67), (53, 0, 0, 0, 70)]
def xc57 : List xI := [
  (2, 0, 0, 0, 0), (2, 0, 1, 0, 1), (40, 0, 55, 43, 2), (2, 0, 1, 0, 5), (0, 2, 0, 0, 6), (2, 0, 1, 0, 7), (24, 0, 84, 46, 8), (0, -1, 0, 0, 11), (40, 0, 68, 41, 12), (2, 0, 1, 0, 15),
  (2, 0, 2, 0, 16), (19, 0, 14, 0, 17), (0, -1, 0, 0, 20), (17, 0, 16, 0, 21), (2, 0, 2, 0, 24), (24, 0, 80, 40, 25), (26, 0, 89, 49, 28), (2, 0, 1, 0, 31), (0, 0, 0, 0, 32), (26, 0, 86, 48, 33),
  (53, 0, 0, 0, 36)]
def xc58 : List xI := [
  (2, 0, 0, 0, 0), (2, 0, 1, 0, 1), (24, 0, 89, 49, 2), (40, 0, 41, 30, 5), (4, 0, 3, 0, 8), (2, 0, 2, 0, 9), (4, 0, 4, 1, 10), (2, 0, 0, 0, 12), (2, 0, 1, 0, 13), (24, 0, 84, 46, 14),
  (2, 0, 2, 0, 17), (24, 0, 32, 45, 18), (40, 0, 52, 38, 21), (3, 0, 5, 1, 24), (2, 0, 0, 0, 26), (2, 0, 1, 0, 27), (2, 0, 3, 0, 28), (2, 0, 2, 0, 29), (40, 0, 59, 44, 30), (3, 0, 6, 1, 33),
  (0, 0, 0, 0, 35), (3, 0, 7, 1, 36), (1, 0, 7, 1, 38), (2, 0, 2, 0, 40), (24, 0, 37, 50, 41), (16, 0, 55, 3, 44), (1, 0, 6, 1, 47), (15, 0, 55, 1, 49), (2, 0, 0, 0, 52), (2, 0, 2, 0, 53),
  (1, 0, 7, 1, 54), (40, 0, 19, 45, 56), (40, 0, 40, 28, 59), (4, 0, 8, 1, 62), (2, 0, 8, 1, 64), (18, 0, 53, 0, 66), (1, 0, 5, 1, 69), (2, 0, 0, 0, 71), (2, 0, 4, 1, 72), (24, 0, 32, 45, 74),
  (2, 0, 8, 1, 77), (24, 0, 32, 45, 79), (40, 0, 52, 38, 82), (6, 0, 0, 0, 85), (3, 0, 5, 1, 86), (2, 0, 8, 1, 88), (4, 0, 4, 1, 90), (2, 0, 0, 0, 92), (2, 0, 1, 0, 93), (2, 0, 3, 0, 94),
  (2, 0, 4, 1, 95), (40, 0, 59, 44, 97), (3, 0, 6, 1, 100), (5, 1, 7, 0, 102), (17, 0, 22, 0, 105), (1, 0, 6, 1, 108), (15, 0, 63, 1, 110), (2, 0, 0, 0, 113), (2, 0, 1, 0, 114), (2, 0, 3, 0, 115),
  (2, 0, 4, 1, 116), (24, 0, 32, 45, 118), (40, 0, 60, 46, 121), (2, 0, 1, 0, 124), (1, 0, 5, 1, 125), (40, 0, 74, 47, 127), (2, 0, 1, 0, 130), (0, -1, 0, 0, 131), (26, 0, 89, 49, 132), (2, 0, 3, 0, 135),
  (18, 0, 74, 0, 136), (2, 0, 3, 0, 139), (0, -1, 0, 0, 140), (26, 0, 89, 49, 141), (53, 0, 0, 0, 144)]
def xc59 : List xI := [
  (2, 0, 3, 0, 0), (2, 0, 1, 0, 1), (40, 0, 70, 39, 2), (40, 0, 25, 48, 5), (3, 0, 4, 1, 8), (1, 0, 4, 1, 10), (0, -1, 0, 0, 12), (16, 0, 16, 1, 13), (2, 0, 3, 0, 16), (21, 0, 0, 0, 17),
  (24, 0, 39, 51, 18), (0, 1, 0, 0, 21), (6, 0, 0, 0, 22), (26, 0, 39, 51, 23), (0, 0, 0, 0, 26), (51, 0, 0, 0, 27), (2, 0, 2, 0, 28), (18, 0, 52, 0, 29), (2, 0, 3, 0, 32), (1, 0, 4, 1, 33),
  (2, 0, 1, 0, 35), (40, 0, 70, 39, 36), (2, 0, 1, 0, 39), (24, 0, 80, 40, 40), (40, 0, 26, 40, 43), (2, 0, 3, 0, 46), (2, 0, 2, 0, 47), (40, 0, 70, 39, 48), (40, 0, 25, 48, 51), (3, 0, 5, 1, 54),
  (1, 0, 5, 1, 56), (0, -1, 0, 0, 58), (16, 0, 47, 1, 59), (2, 0, 3, 0, 62), (1, 0, 4, 1, 63), (2, 0, 1, 0, 65), (40, 0, 70, 39, 66), (0, -1, 0, 0, 69), (40, 0, 26, 40, 70), (2, 0, 3, 0, 73),
  (21, 0, 0, 0, 74), (24, 0, 39, 51, 75), (0, 1, 0, 0, 78), (6, 0, 0, 0, 79), (26, 0, 39, 51, 80), (0, 0, 0, 0, 83), (51, 0, 0, 0, 84), (2, 0, 0, 0, 85), (2, 0, 2, 0, 86), (2, 0, 3, 0, 87),
  (1, 0, 5, 1, 88), (40, 0, 54, 33, 90), (2, 0, 0, 0, 93), (2, 0, 1, 0, 94), (2, 0, 3, 0, 95), (1, 0, 4, 1, 96), (40, 0, 54, 33, 98), (0, 1, 0, 0, 101), (51, 0, 0, 0, 102)]
def xc60 : List xI := [
  (2, 0, 1, 0, 0), (0, 3, 0, 0, 1), (1, 0, 3, 0, 2), (0, -1, 0, 0, 3), (40, 0, 68, 41, 4), (2, 0, 2, 0, 7), (18, 0, 12, 0, 8), (2, 0, 2, 0, 11), (0, 3, 0, 0, 12), (1, 0, 3, 0, 13),
  (0, -1, 0, 0, 14), (40, 0, 68, 41, 15), (53, 0, 0, 0, 18)]
def xc61 : List xI := [
  (2, 0, 1, 0, 0), (21, 0, 0, 0, 1), (24, 0, 4, 52, 2), (2, 0, 0, 0, 5), (2, 0, 1, 0, 6), (24, 0, 2, 53, 7), (1, 0, 2, 0, 10), (40, 0, 52, 38, 11), (6, 0, 0, 0, 14), (26, 0, 4, 52, 15),
  (2, 0, 1, 0, 18), (1, 0, 2, 0, 19), (26, 0, 2, 53, 20), (53, 0, 0, 0, 23)]
def xc62 : List xI := [
  (2, 0, 1, 0, 0), (2, 0, 2, 0, 1), (40, 0, 3, 49, 2), (15, 0, 10, 0, 5), (2, 0, 0, 0, 8), (2, 0, 2, 0, 9), (40, 0, 55, 43, 10), (2, 0, 1, 0, 13), (2, 0, 2, 0, 14), (40, 0, 5, 50, 15),
  (53, 0, 0, 0, 18)]
def xc63 : List xI := [
  (2, 0, 0, 0, 0), (2, 0, 1, 0, 1), (24, 0, 2, 53, 2), (40, 0, 40, 28, 5), (4, 0, 3, 0, 8), (2, 0, 3, 0, 9), (19, 0, 9, 0, 10), (0, -1, 0, 0, 13), (17, 0, 13, 0, 14), (2, 0, 3, 0, 17),
  (2, 0, 2, 0, 18), (40, 0, 70, 39, 19), (40, 0, 25, 48, 22), (3, 0, 4, 1, 25), (2, 0, 3, 0, 27), (18, 0, 25, 0, 28), (1, 0, 4, 1, 31), (0, -1, 0, 0, 33), (16, 0, 25, 0, 34), (2, 0, 1, 0, 37),
  (0, 0, 0, 0, 38), (40, 0, 4, 51, 39), (2, 0, 2, 0, 42), (24, 0, 80, 40, 43), (16, 0, 27, 0, 46), (0, 0, 0, 0, 49), (51, 0, 0, 0, 50), (2, 0, 1, 0, 51), (2, 0, 2, 0, 52), (40, 0, 6, 52, 53),
  (2, 0, 0, 0, 56), (2, 0, 2, 0, 57), (2, 0, 3, 0, 58), (1, 0, 4, 1, 59), (40, 0, 54, 33, 61), (0, 1, 0, 0, 64), (51, 0, 0, 0, 65)]
def xc64 : List xI := [
  (2, 0, 0, 0, 0), (1, 0, 2, 0, 1), (40, 0, 40, 28, 2), (4, 0, 3, 0, 5), (2, 0, 3, 0, 6), (19, 0, 7, 0, 7), (53, 0, 0, 0, 10), (2, 0, 0, 0, 11), (2, 0, 1, 0, 12), (1, 0, 2, 0, 13),
  (40, 0, 61, 53, 14), (2, 0, 0, 0, 17), (2, 0, 3, 0, 18), (40, 0, 51, 54, 19), (3, 0, 4, 1, 22), (0, 0, 0, 0, 24), (3, 0, 5, 1, 25), (1, 0, 5, 1, 27), (2, 0, 3, 0, 29), (24, 0, 33, 54, 30),
  (16, 0, 41, 3, 33), (1, 0, 4, 1, 36), (15, 0, 41, 5, 38), (2, 0, 0, 0, 41), (1, 0, 2, 0, 42), (1, 0, 5, 1, 43), (40, 0, 43, 55, 45), (4, 0, 6, 1, 48), (2, 0, 6, 1, 50), (18, 0, 39, 0, 52),
  (2, 0, 6, 1, 55), (24, 0, 81, 43, 57), (0, 2, 0, 0, 60), (16, 0, 39, 0, 61), (2, 0, 0, 0, 64), (2, 0, 1, 0, 65), (2, 0, 6, 1, 66), (40, 0, 62, 56, 68), (5, -1, 4, 0, 71), (5, 1, 5, 0, 74),
  (17, 0, 17, 0, 77), (1, 0, 4, 1, 80), (10, 0, 0, 0, 82), (3, 0, 5, 1, 83), (1, 0, 5, 1, 85), (15, 0, 61, 5, 87), (2, 0, 0, 0, 90), (2, 0, 1, 0, 91), (0, 0, 0, 0, 92), (40, 0, 4, 51, 93),
  (40, 0, 41, 30, 96), (4, 0, 6, 1, 99), (2, 0, 6, 1, 101), (18, 0, 59, 0, 103), (2, 0, 0, 0, 106), (2, 0, 1, 0, 107), (2, 0, 6, 1, 108), (40, 0, 63, 57, 110), (22, 0, 0, 0, 113), (5, -1, 5, 0, 114),
  (17, 0, 44, 0, 117), (53, 0, 0, 0, 120)]
def xc65 : List xI := [
  (2, 0, 0, 0, 0), (43, 0, 3, 140, 1), (2, 0, 0, 0, 4), (1, 0, 1, 0, 5), (26, 0, 80, 55, 6), (53, 0, 0, 0, 9)]
def xc66 : List xI := [
  (2, 0, 0, 0, 0), (1, 0, 1, 0, 1), (26, 0, 81, 56, 2), (2, 0, 0, 0, 5), (2, 0, 0, 0, 6), (40, 0, 71, 58, 7), (15, 0, 9, 0, 10), (0, 1000, 0, 2, 13), (17, 0, 10, 0, 16), (0, 0, 0, 0, 19),
  (26, 0, 82, 57, 20), (2, 0, 0, 0, 23), (0, 0, 0, 0, 24), (26, 0, 86, 58, 25), (2, 0, 0, 0, 28), (0, 0, 0, 0, 29), (32, 0, 87, 59, 30), (2, 0, 0, 0, 33), (0, 0, 0, 0, 34), (32, 0, 88, 60, 35),
  (2, 0, 0, 0, 38), (0, -1, 0, 0, 39), (26, 0, 89, 61, 40), (2, 0, 0, 0, 43), (0, 3, 0, 0, 44), (0, -1, 0, 0, 45), (0, -1, 0, 0, 46), (40, 0, 68, 59, 47), (53, 0, 0, 0, 50)]
def xc67 : List xI := [
  (2, 0, 0, 0, 0), (2, 0, 1, 0, 1), (24, 0, 81, 56, 2), (26, 0, 81, 56, 5), (2, 0, 0, 0, 8), (2, 0, 1, 0, 9), (24, 0, 82, 57, 10), (26, 0, 82, 57, 13), (2, 0, 0, 0, 16), (2, 0, 1, 0, 17),
  (24, 0, 83, 62, 18), (26, 0, 83, 62, 21), (2, 0, 0, 0, 24), (2, 0, 1, 0, 25), (24, 0, 84, 63, 26), (26, 0, 84, 63, 29), (2, 0, 0, 0, 32), (2, 0, 1, 0, 33), (24, 0, 85, 64, 34), (26, 0, 85, 64, 37),
  (2, 0, 0, 0, 40), (2, 0, 1, 0, 41), (24, 0, 86, 58, 42), (26, 0, 86, 58, 45), (2, 0, 0, 0, 48), (2, 0, 1, 0, 49), (24, 0, 87, 59, 50), (32, 0, 87, 59, 53), (2, 0, 0, 0, 56), (2, 0, 1, 0, 57),
  (24, 0, 88, 60, 58), (32, 0, 88, 60, 61), (2, 0, 0, 0, 64), (2, 0, 1, 0, 65), (24, 0, 89, 61, 66), (26, 0, 89, 61, 69), (53, 0, 0, 0, 72)]
def xc68 : List xI := [
  (2, 0, 0, 0, 0), (1, 0, 1, 0, 1), (26, 0, 83, 62, 2), (2, 0, 0, 0, 5), (1, 0, 2, 0, 6), (26, 0, 84, 63, 7), (2, 0, 0, 0, 10), (1, 0, 3, 0, 11), (26, 0, 85, 64, 12), (53, 0, 0, 0, 15)]
def xc69 : List xI := [
  (1, 0, 0, 0, 0), (0, 2, 0, 0, 1), (16, 0, 5, 1, 2), (0, 2, 0, 0, 5), (17, 0, 6, 0, 6), (0, 1, 0, 0, 9), (50, 0, 0, 0, 10)]
def xc70 : List xI := [
  (2, 0, 0, 0, 0), (24, 0, 81, 56, 1), (41, 0, 69, 60, 4), (50, 0, 0, 0, 7)]
def xc71 : List xI := [
  (2, 0, 0, 0, 0), (24, 0, 81, 56, 1), (0, 1, 0, 0, 4), (16, 0, 8, 0, 5), (2, 0, 0, 0, 8), (24, 0, 81, 56, 9), (0, 2, 0, 0, 12), (16, 0, 10, 1, 13), (0, 1, 0, 0, 16), (17, 0, 11, 0, 17),
  (0, 0, 0, 0, 20), (51, 0, 0, 0, 21)]
def xc72 : List xI := [
  (2, 0, 0, 0, 0), (40, 0, 71, 58, 1), (15, 0, 5, 1, 4), (0, 0, 0, 0, 7), (50, 0, 0, 0, 8), (2, 0, 0, 0, 9), (24, 0, 81, 56, 10), (0, 2, 0, 0, 13), (16, 0, 13, 1, 14), (0, 3, 0, 0, 17),
  (1, 0, 1, 0, 18), (8, 0, 0, 0, 19), (17, 0, 16, 0, 20), (0, 2, 0, 0, 23), (1, 0, 1, 0, 24), (8, 0, 0, 0, 25), (50, 0, 0, 0, 26)]
def xc73 : List xI := [
  (2, 0, 0, 0, 0), (24, 0, 82, 57, 1), (2, 0, 0, 0, 4), (1, 0, 1, 0, 5), (40, 0, 72, 61, 6), (16, 0, 8, 2, 9), (0, 1, 0, 0, 12), (17, 0, 9, 0, 13), (0, 0, 0, 0, 16), (51, 0, 0, 0, 17)]
def xc74 : List xI := [
  (2, 0, 0, 0, 0), (0, 0, 0, 0, 1), (2, 0, 0, 0, 2), (24, 0, 82, 57, 3), (2, 0, 0, 0, 6), (1, 0, 1, 0, 7), (40, 0, 72, 61, 8), (7, 0, 0, 0, 11), (44, 0, 58, 529, 12), (26, 0, 82, 57, 15),
  (53, 0, 0, 0, 18)]
def xc75 : List xI := [
  (2, 0, 0, 0, 0), (40, 0, 71, 58, 1), (15, 0, 17, 0, 4), (2, 0, 0, 0, 7), (0, 1000, 0, 2, 8), (2, 0, 0, 0, 11), (24, 0, 82, 57, 12), (2, 0, 0, 0, 15), (24, 0, 81, 56, 16), (0, 2, 0, 0, 19),
  (16, 0, 13, 1, 20), (0, 50, 0, 1, 23), (17, 0, 14, 0, 25), (0, 100, 0, 1, 28), (6, 0, 0, 0, 30), (45, 0, 64, 538, 31), (26, 0, 82, 57, 34), (53, 0, 0, 0, 37)]
def xc76 : List xI := [
  (2, 0, 0, 0, 0), (24, 0, 83, 62, 1), (1, 0, 2, 0, 4), (16, 0, 10, 1, 5), (2, 0, 0, 0, 8), (24, 0, 84, 63, 9), (1, 0, 1, 0, 12), (16, 0, 10, 1, 13), (0, 1, 0, 0, 16), (17, 0, 11, 0, 17),
  (0, 0, 0, 0, 20), (51, 0, 0, 0, 21)]
def xc77 : List xI := [
  (2, 0, 0, 0, 0), (43, 0, 1, 59, 1), (2, 0, 0, 0, 4), (35, 0, 4, 4, 5), (21, 0, 0, 0, 8), (42, 0, 38, 62, 9), (27, 0, 96, 65, 12), (2, 0, 0, 0, 15), (0, 4, 0, 0, 16), (38, 0, 12, 4, 17),
  (27, 0, 97, 66, 20), (2, 0, 0, 0, 23), (35, 0, 3, 5, 24), (21, 0, 0, 0, 27), (42, 0, 27, 63, 28), (27, 0, 98, 67, 31), (53, 0, 0, 0, 34)]
def xc78 : List xI := [
  (1, 0, 1, 0, 0), (0, 2, 0, 0, 1), (16, 0, 6, 2, 2), (1, 0, 1, 0, 5), (0, 12, 0, 1, 6), (16, 0, 8, 5, 8), (0, -1, 0, 0, 11), (17, 0, 12, 0, 12), (2, 0, 0, 0, 15), (25, 0, 96, 65, 16),
  (1, 0, 1, 0, 19), (40, 0, 44, 64, 20), (50, 0, 0, 0, 23)]
def xc79 : List xI := [
  (2, 0, 0, 0, 0), (25, 0, 96, 65, 1), (1, 0, 1, 0, 4), (40, 0, 40, 65, 5), (4, 0, 4, 1, 8), (2, 0, 0, 0, 10), (25, 0, 96, 65, 11), (1, 0, 2, 0, 14), (40, 0, 40, 65, 15), (4, 0, 5, 1, 18),
  (2, 0, 4, 1, 20), (18, 0, 23, 0, 22), (2, 0, 5, 1, 25), (18, 0, 23, 0, 27), (1, 0, 1, 0, 30), (1, 0, 2, 0, 31), (16, 0, 23, 0, 32), (1, 0, 3, 0, 35), (0, 1, 0, 0, 36), (16, 0, 23, 2, 37),
  (1, 0, 3, 0, 40), (0, 999, 0, 2, 41), (16, 0, 25, 5, 44), (0, 0, 0, 0, 47), (51, 0, 0, 0, 48), (2, 0, 4, 1, 49), (25, 0, 35, 68, 51), (1, 0, 2, 0, 54), (1, 0, 3, 0, 55), (29, 0, 0, 0, 56),
  (2, 0, 5, 1, 57), (25, 0, 35, 68, 59), (1, 0, 1, 0, 62), (1, 0, 3, 0, 63), (29, 0, 0, 0, 64), (0, 1, 0, 0, 65), (51, 0, 0, 0, 66)]
def xc80 : List xI := [
  (2, 0, 0, 0, 0), (25, 0, 96, 65, 1), (1, 0, 1, 0, 4), (40, 0, 40, 65, 5), (4, 0, 3, 0, 8), (2, 0, 3, 0, 9), (18, 0, 15, 0, 10), (2, 0, 0, 0, 13), (25, 0, 96, 65, 14), (1, 0, 2, 0, 17),
  (40, 0, 40, 65, 18), (18, 0, 15, 0, 21), (1, 0, 1, 0, 24), (1, 0, 2, 0, 25), (16, 0, 17, 1, 26), (0, -1, 0, 0, 29), (50, 0, 0, 0, 30), (2, 0, 3, 0, 31), (1, 0, 2, 0, 32), (40, 0, 18, 66, 33),
  (50, 0, 0, 0, 36)]
def xc81 : List xI := [
  (2, 0, 0, 0, 0), (25, 0, 96, 65, 1), (1, 0, 1, 0, 4), (40, 0, 40, 65, 5), (4, 0, 3, 0, 8), (2, 0, 3, 0, 9), (19, 0, 9, 0, 10), (0, 0, 0, 0, 13), (51, 0, 0, 0, 14), (1, 0, 2, 0, 15),
  (15, 0, 20, 1, 16), (2, 0, 3, 0, 19), (24, 0, 37, 69, 20), (0, -1, 0, 0, 23), (16, 0, 20, 0, 24), (2, 0, 3, 0, 27), (0, -1, 0, 0, 28), (26, 0, 37, 69, 29), (0, 1, 0, 0, 32), (51, 0, 0, 0, 33),
  (1, 0, 2, 0, 34), (0, 1, 0, 0, 35), (16, 0, 32, 1, 36), (2, 0, 3, 0, 39), (25, 0, 40, 70, 40), (24, 0, 16, 71, 43), (15, 0, 32, 0, 46), (2, 0, 3, 0, 49), (25, 0, 40, 70, 50), (40, 0, 9, 67, 53),
  (0, 1, 0, 0, 56), (51, 0, 0, 0, 57), (0, 0, 0, 0, 58), (51, 0, 0, 0, 59)]
def xc82 : List xI := [
  (2, 0, 0, 0, 0), (25, 0, 96, 65, 1), (1, 0, 1, 0, 4), (40, 0, 40, 65, 5), (4, 0, 4, 1, 8), (2, 0, 4, 1, 10), (18, 0, 11, 0, 12), (2, 0, 4, 1, 15), (1, 0, 2, 0, 17), (40, 0, 17, 68, 18),
  (15, 0, 13, 1, 21), (0, 0, 0, 0, 24), (51, 0, 0, 0, 25), (2, 0, 4, 1, 26), (25, 0, 34, 72, 28), (1, 0, 2, 0, 31), (28, 0, 0, 0, 32), (1, 0, 3, 0, 33), (15, 0, 21, 0, 34), (0, -1, 0, 0, 37),
  (17, 0, 22, 0, 38), (0, -2, 0, 1, 41), (16, 0, 25, 0, 43), (0, 0, 0, 0, 46), (51, 0, 0, 0, 47), (2, 0, 4, 1, 48), (25, 0, 34, 72, 50), (1, 0, 2, 0, 53), (1, 0, 3, 0, 54), (15, 0, 32, 0, 55),
  (0, -2, 0, 1, 58), (17, 0, 33, 0, 60), (0, -1, 0, 0, 63), (29, 0, 0, 0, 64), (0, 1, 0, 0, 65), (51, 0, 0, 0, 66)]
def xc83 : List xI := [
  (2, 0, 0, 0, 0), (25, 0, 96, 65, 1), (1, 0, 1, 0, 4), (40, 0, 40, 65, 5), (4, 0, 3, 0, 8), (2, 0, 3, 0, 9), (18, 0, 11, 0, 10), (2, 0, 3, 0, 13), (1, 0, 2, 0, 14), (40, 0, 17, 68, 15),
  (15, 0, 13, 1, 18), (0, -3, 0, 1, 21), (17, 0, 17, 0, 23), (2, 0, 3, 0, 26), (25, 0, 34, 72, 27), (1, 0, 2, 0, 30), (28, 0, 0, 0, 31), (50, 0, 0, 0, 32)]
def xc84 : List xI := [
  (2, 0, 0, 0, 0), (25, 0, 96, 65, 1), (1, 0, 1, 0, 4), (40, 0, 40, 65, 5), (4, 0, 3, 0, 8), (2, 0, 3, 0, 9), (19, 0, 9, 0, 10), (0, -3, 0, 1, 13), (50, 0, 0, 0, 15), (1, 0, 2, 0, 16),
  (47, 0, 0, 1, 17), (2, 0, 3, 0, 64), (24, 0, 33, 73, 65), (50, 0, 0, 0, 68), (2, 0, 3, 0, 69), (40, 0, 22, 69, 70), (50, 0, 0, 0, 73), (2, 0, 0, 0, 74), (25, 0, 96, 65, 75), (1, 0, 1, 0, 78),
  (0, 0, 0, 0, 79), (40, 0, 49, 70, 80), (50, 0, 0, 0, 83), (2, 0, 0, 0, 84), (25, 0, 96, 65, 85), (1, 0, 1, 0, 88), (40, 0, 50, 71, 89), (50, 0, 0, 0, 92), (2, 0, 3, 0, 93), (24, 0, 39, 74, 94),
  (50, 0, 0, 0, 97), (2, 0, 3, 0, 98), (24, 0, 38, 75, 99), (50, 0, 0, 0, 102), (2, 0, 3, 0, 103), (24, 0, 37, 69, 104), (50, 0, 0, 0, 107), (2, 0, 0, 0, 108), (25, 0, 96, 65, 109), (1, 0, 1, 0, 112),
  (0, 3, 0, 0, 113), (40, 0, 49, 70, 114), (50, 0, 0, 0, 117), (0, -3, 0, 1, 118), (50, 0, 0, 0, 120)]
def xc85 : List xI := [
  (2, 0, 0, 0, 0), (25, 0, 96, 65, 1), (1, 0, 2, 0, 4), (40, 0, 40, 65, 5), (4, 0, 4, 1, 8), (2, 0, 4, 1, 10), (18, 0, 18, 0, 12), (1, 0, 1, 0, 15), (15, 0, 18, 2, 16), (1, 0, 1, 0, 19),
  (0, 3, 0, 0, 20), (16, 0, 18, 4, 21), (2, 0, 4, 1, 24), (1, 0, 3, 0, 26), (1, 0, 1, 0, 27), (41, 0, 69, 72, 28), (40, 0, 24, 73, 31), (15, 0, 20, 1, 34), (0, -1, 0, 0, 37), (50, 0, 0, 0, 38),
  (2, 0, 0, 0, 39), (25, 0, 96, 65, 40), (1, 0, 1, 0, 43), (2, 0, 4, 1, 44), (1, 0, 3, 0, 46), (40, 0, 45, 74, 47), (50, 0, 0, 0, 50)]
def xc86 : List xI := [
  (2, 0, 0, 0, 0), (25, 0, 96, 65, 1), (1, 0, 1, 0, 4), (40, 0, 41, 75, 5), (4, 0, 3, 0, 8), (2, 0, 3, 0, 9), (18, 0, 10, 0, 10), (2, 0, 3, 0, 13), (40, 0, 71, 76, 14), (15, 0, 12, 1, 17),
  (0, -1, 0, 0, 20), (50, 0, 0, 0, 21), (1, 0, 2, 0, 22), (56, 0, 111, 77, 23), (3, 0, 4, 1, 26), (1, 0, 4, 1, 28), (0, -1, 0, 0, 30), (16, 0, 21, 0, 31), (2, 0, 3, 0, 34), (1, 0, 4, 1, 35),
  (26, 0, 82, 76, 37), (1, 0, 4, 1, 40), (50, 0, 0, 0, 42)]
def xc87 : List xI := [
  (2, 0, 0, 0, 0), (25, 0, 96, 65, 1), (1, 0, 1, 0, 4), (40, 0, 41, 75, 5), (4, 0, 3, 0, 8), (2, 0, 3, 0, 9), (19, 0, 9, 0, 10), (0, -3, 0, 1, 13), (50, 0, 0, 0, 15), (1, 0, 2, 0, 16),
  (47, 0, 0, 2, 17), (2, 0, 3, 0, 64), (24, 0, 81, 77, 65), (50, 0, 0, 0, 68), (2, 0, 3, 0, 69), (24, 0, 82, 76, 70), (50, 0, 0, 0, 73), (2, 0, 3, 0, 74), (24, 0, 83, 78, 75), (50, 0, 0, 0, 78),
  (2, 0, 3, 0, 79), (24, 0, 84, 79, 80), (50, 0, 0, 0, 83), (2, 0, 3, 0, 84), (24, 0, 85, 80, 85), (50, 0, 0, 0, 88), (2, 0, 3, 0, 89), (24, 0, 86, 81, 90), (50, 0, 0, 0, 93), (2, 0, 3, 0, 94),
  (24, 0, 88, 82, 95), (15, 0, 34, 0, 98), (0, 1, 0, 0, 101), (17, 0, 35, 0, 102), (0, 0, 0, 0, 105), (50, 0, 0, 0, 106), (2, 0, 3, 0, 107), (24, 0, 89, 83, 108), (50, 0, 0, 0, 111), (0, -3, 0, 1, 112),
  (50, 0, 0, 0, 114)]
def xc88 : List xI := [
  (2, 0, 0, 0, 0), (25, 0, 96, 65, 1), (1, 0, 1, 0, 4), (40, 0, 41, 75, 5), (4, 0, 2, 0, 8), (2, 0, 2, 0, 9), (18, 0, 10, 0, 10), (2, 0, 2, 0, 13), (24, 0, 87, 84, 14), (15, 0, 12, 0, 17),
  (0, 0, 0, 0, 20), (51, 0, 0, 0, 21), (2, 0, 2, 0, 22), (0, 1, 0, 0, 23), (32, 0, 87, 84, 24), (0, 1, 0, 0, 27), (51, 0, 0, 0, 28)]
def xc89 : List xI := [
  (2, 0, 0, 0, 0), (25, 0, 96, 65, 1), (1, 0, 1, 0, 4), (40, 0, 41, 75, 5), (4, 0, 2, 0, 8), (2, 0, 2, 0, 9), (18, 0, 11, 0, 10), (2, 0, 2, 0, 13), (24, 0, 83, 78, 14), (0, 2, 0, 0, 17),
  (16, 0, 13, 1, 18), (0, -1, 0, 0, 21), (50, 0, 0, 0, 22), (2, 0, 2, 0, 23), (24, 0, 87, 84, 24), (15, 0, 21, 0, 27), (2, 0, 2, 0, 30), (0, 1, 0, 0, 31), (32, 0, 88, 82, 32), (0, 1, 0, 0, 35),
  (50, 0, 0, 0, 36), (2, 0, 2, 0, 37), (0, 0, 0, 0, 38), (26, 0, 86, 81, 39), (0, 0, 0, 0, 42), (50, 0, 0, 0, 43)]
def xc90 : List xI := [
  (2, 0, 0, 0, 0), (25, 0, 96, 65, 1), (1, 0, 1, 0, 4), (40, 0, 41, 75, 5), (4, 0, 2, 0, 8), (2, 0, 2, 0, 9), (18, 0, 14, 0, 10), (2, 0, 2, 0, 13), (24, 0, 83, 78, 14), (0, 2, 0, 0, 17),
  (16, 0, 14, 0, 18), (2, 0, 2, 0, 21), (24, 0, 87, 84, 22), (15, 0, 16, 1, 25), (0, 0, 0, 0, 28), (51, 0, 0, 0, 29), (2, 0, 2, 0, 30), (0, 0, 0, 0, 31), (32, 0, 87, 84, 32), (2, 0, 2, 0, 35),
  (0, 0, 0, 0, 36), (32, 0, 88, 82, 37), (2, 0, 2, 0, 40), (0, 0, 0, 0, 41), (26, 0, 86, 81, 42), (0, 1, 0, 0, 45), (51, 0, 0, 0, 46)]
def xc91 : List xI := [
  (0, 0, 0, 0, 0), (3, 0, 3, 0, 1), (0, 0, 0, 0, 2), (3, 0, 4, 1, 3), (1, 0, 4, 1, 5), (2, 0, 0, 0, 7), (25, 0, 96, 65, 8), (24, 0, 67, 85, 11), (16, 0, 30, 3, 14), (2, 0, 0, 0, 17),
  (25, 0, 96, 65, 18), (25, 0, 66, 86, 21), (1, 0, 4, 1, 24), (30, 0, 0, 0, 26), (4, 0, 5, 1, 27), (2, 0, 5, 1, 29), (24, 0, 83, 78, 31), (15, 0, 28, 1, 34), (2, 0, 5, 1, 37), (24, 0, 86, 81, 39),
  (1, 0, 1, 0, 42), (16, 0, 28, 5, 43), (1, 0, 3, 0, 46), (1, 0, 2, 0, 47), (16, 0, 27, 1, 48), (1, 0, 4, 1, 51), (50, 0, 0, 0, 53), (5, 1, 3, 0, 54), (5, 1, 4, 0, 57), (17, 0, 4, 0, 60),
  (0, -1, 0, 0, 63), (50, 0, 0, 0, 64)]
def xc92 : List xI := [
  (2, 0, 0, 0, 0), (25, 0, 96, 65, 1), (1, 0, 1, 0, 4), (1, 0, 2, 0, 5), (40, 0, 43, 78, 6), (4, 0, 4, 1, 9), (2, 0, 4, 1, 11), (19, 0, 10, 0, 13), (0, -1, 0, 0, 16), (50, 0, 0, 0, 17),
  (2, 0, 4, 1, 18), (24, 0, 81, 77, 20), (0, 3, 0, 0, 23), (16, 0, 16, 1, 24), (0, -2, 0, 1, 27), (50, 0, 0, 0, 29), (2, 0, 4, 1, 30), (24, 0, 87, 84, 32), (15, 0, 21, 0, 35), (0, -3, 0, 1, 38),
  (50, 0, 0, 0, 40), (2, 0, 4, 1, 41), (2, 0, 0, 0, 43), (25, 0, 96, 65, 44), (1, 0, 1, 0, 47), (40, 0, 53, 79, 48), (40, 0, 73, 80, 51), (15, 0, 30, 1, 54), (0, -4, 0, 1, 57), (50, 0, 0, 0, 59),
  (1, 0, 3, 0, 60), (0, -1, 0, 0, 61), (16, 0, 35, 1, 62), (20, 0, 0, 0, 65), (17, 0, 40, 0, 66), (2, 0, 0, 0, 69), (25, 0, 96, 65, 70), (1, 0, 1, 0, 73), (1, 0, 3, 0, 74), (40, 0, 43, 78, 75),
  (4, 0, 5, 1, 78), (1, 0, 3, 0, 80), (0, -1, 0, 0, 81), (16, 0, 55, 0, 82), (2, 0, 5, 1, 85), (18, 0, 53, 0, 87), (2, 0, 5, 1, 90), (24, 0, 81, 77, 92), (0, 3, 0, 0, 95), (16, 0, 53, 1, 96),
  (2, 0, 5, 1, 99), (24, 0, 87, 84, 101), (15, 0, 55, 0, 104), (0, -5, 0, 1, 107), (50, 0, 0, 0, 109), (2, 0, 0, 0, 110), (25, 0, 96, 65, 111), (2, 0, 4, 1, 114), (2, 0, 5, 1, 116), (40, 0, 56, 81, 118),
  (2, 0, 4, 1, 121), (24, 0, 80, 87, 123), (50, 0, 0, 0, 126)]
def xc93 : List xI := [
  (2, 0, 0, 0, 0), (25, 0, 96, 65, 1), (1, 0, 1, 0, 4), (40, 0, 41, 75, 5), (4, 0, 3, 0, 8), (2, 0, 0, 0, 9), (25, 0, 96, 65, 10), (1, 0, 2, 0, 13), (40, 0, 40, 65, 14), (4, 0, 4, 1, 17),
  (2, 0, 3, 0, 19), (18, 0, 22, 0, 20), (2, 0, 4, 1, 23), (18, 0, 22, 0, 25), (2, 0, 3, 0, 28), (24, 0, 83, 78, 29), (0, 2, 0, 0, 32), (16, 0, 22, 1, 33), (2, 0, 3, 0, 36), (24, 0, 81, 77, 37),
  (0, 3, 0, 0, 40), (16, 0, 24, 1, 41), (0, -1, 0, 0, 44), (50, 0, 0, 0, 45), (2, 0, 0, 0, 46), (25, 0, 96, 65, 47), (2, 0, 3, 0, 50), (2, 0, 4, 1, 51), (40, 0, 58, 82, 53), (2, 0, 3, 0, 56),
  (24, 0, 83, 78, 57), (0, 3, 0, 0, 60), (16, 0, 38, 1, 61), (0, 100, 0, 1, 64), (2, 0, 3, 0, 66), (24, 0, 84, 79, 67), (6, 0, 0, 0, 70), (17, 0, 40, 0, 71), (2, 0, 3, 0, 74), (24, 0, 84, 79, 75),
  (50, 0, 0, 0, 78)]
def xc94 : List xI := [
  (0, 0, 0, 0, 0), (3, 0, 1, 0, 1), (1, 0, 1, 0, 2), (2, 0, 0, 0, 3), (25, 0, 96, 65, 4), (24, 0, 67, 85, 7), (16, 0, 22, 3, 10), (2, 0, 0, 0, 13), (25, 0, 96, 65, 14), (25, 0, 66, 86, 17),
  (1, 0, 1, 0, 20), (30, 0, 0, 0, 21), (24, 0, 83, 78, 22), (15, 0, 20, 1, 25), (2, 0, 0, 0, 28), (25, 0, 96, 65, 29), (25, 0, 66, 86, 32), (1, 0, 1, 0, 35), (30, 0, 0, 0, 36), (40, 0, 75, 83, 37),
  (5, 1, 1, 0, 40), (17, 0, 2, 0, 43), (2, 0, 0, 0, 46), (25, 0, 96, 65, 47), (2, 0, 0, 0, 50), (25, 0, 96, 65, 51), (24, 0, 70, 88, 54), (0, 1, 0, 0, 57), (6, 0, 0, 0, 58), (0, 24, 0, 1, 59),
  (16, 0, 37, 3, 61), (2, 0, 0, 0, 64), (25, 0, 96, 65, 65), (24, 0, 70, 88, 68), (0, 1, 0, 0, 71), (6, 0, 0, 0, 72), (17, 0, 38, 0, 73), (0, 0, 0, 0, 76), (26, 0, 70, 88, 77), (2, 0, 0, 0, 80),
  (25, 0, 96, 65, 81), (24, 0, 70, 88, 84), (50, 0, 0, 0, 87)]
def xc95 : List xI := [
  (1, 0, 1, 0, 0), (0, 1, 0, 0, 1), (16, 0, 11, 2, 2), (1, 0, 1, 0, 5), (0, 8, 0, 1, 6), (16, 0, 11, 4, 8), (2, 0, 0, 0, 11), (25, 0, 96, 65, 12), (1, 0, 2, 0, 15), (40, 0, 40, 65, 16),
  (19, 0, 13, 0, 19), (0, -1, 0, 0, 22), (50, 0, 0, 0, 23), (2, 0, 0, 0, 24), (25, 0, 96, 65, 25), (1, 0, 1, 0, 28), (1, 0, 2, 0, 29), (40, 0, 46, 84, 30), (50, 0, 0, 0, 33)]
def xc96 : List xI := [
  (2, 0, 0, 0, 0), (25, 0, 96, 65, 1), (1, 0, 1, 0, 4), (40, 0, 42, 85, 5), (4, 0, 3, 0, 8), (2, 0, 3, 0, 9), (18, 0, 12, 0, 10), (2, 0, 0, 0, 13), (25, 0, 96, 65, 14), (1, 0, 2, 0, 17),
  (40, 0, 40, 65, 18), (19, 0, 14, 0, 21), (0, -1, 0, 0, 24), (50, 0, 0, 0, 25), (2, 0, 0, 0, 26), (25, 0, 96, 65, 27), (2, 0, 3, 0, 30), (1, 0, 2, 0, 31), (40, 0, 61, 86, 32), (2, 0, 3, 0, 35),
  (24, 0, 4, 89, 36), (50, 0, 0, 0, 39)]
def xc97 : List xI := [
  (2, 0, 0, 0, 0), (25, 0, 96, 65, 1), (1, 0, 1, 0, 4), (40, 0, 42, 85, 5), (4, 0, 3, 0, 8), (2, 0, 3, 0, 9), (19, 0, 9, 0, 10), (20, 0, 0, 0, 13), (17, 0, 15, 0, 14), (2, 0, 0, 0, 17),
  (25, 0, 96, 65, 18), (2, 0, 3, 0, 21), (24, 0, 2, 90, 22), (1, 0, 2, 0, 25), (40, 0, 43, 78, 26), (4, 0, 4, 1, 29), (2, 0, 3, 0, 31), (18, 0, 24, 0, 32), (2, 0, 4, 1, 35), (18, 0, 24, 0, 37),
  (2, 0, 3, 0, 40), (2, 0, 4, 1, 41), (40, 0, 3, 87, 43), (15, 0, 26, 1, 46), (0, -1, 0, 0, 49), (50, 0, 0, 0, 50), (2, 0, 0, 0, 51), (25, 0, 96, 65, 52), (2, 0, 3, 0, 55), (2, 0, 4, 1, 56),
  (40, 0, 62, 88, 58), (2, 0, 4, 1, 61), (24, 0, 80, 87, 63), (50, 0, 0, 0, 66)]
def xc98 : List xI := [
  (2, 0, 0, 0, 0), (25, 0, 96, 65, 1), (1, 0, 1, 0, 4), (40, 0, 42, 85, 5), (4, 0, 3, 0, 8), (2, 0, 0, 0, 9), (25, 0, 96, 65, 10), (1, 0, 2, 0, 13), (40, 0, 41, 75, 14), (4, 0, 4, 1, 17),
  (2, 0, 3, 0, 19), (18, 0, 27, 0, 20), (2, 0, 4, 1, 23), (18, 0, 27, 0, 25), (2, 0, 4, 1, 28), (24, 0, 83, 78, 30), (0, 3, 0, 0, 33), (16, 0, 27, 1, 34), (2, 0, 4, 1, 37), (24, 0, 84, 79, 39),
  (2, 0, 3, 0, 42), (24, 0, 2, 90, 43), (16, 0, 27, 1, 46), (2, 0, 3, 0, 49), (2, 0, 4, 1, 50), (40, 0, 3, 87, 52), (15, 0, 29, 1, 55), (0, 0, 0, 0, 58), (51, 0, 0, 0, 59), (2, 0, 3, 0, 60),
  (2, 0, 4, 1, 61), (40, 0, 5, 89, 63), (0, 1, 0, 0, 66), (51, 0, 0, 0, 67)]
def xc99 : List xI := [
  (2, 0, 0, 0, 0), (25, 0, 96, 65, 1), (1, 0, 1, 0, 4), (40, 0, 42, 85, 5), (4, 0, 2, 0, 8), (2, 0, 2, 0, 9), (19, 0, 9, 0, 10), (20, 0, 0, 0, 13), (17, 0, 15, 0, 14), (2, 0, 0, 0, 17),
  (25, 0, 96, 65, 18), (2, 0, 2, 0, 21), (0, 0, 0, 0, 22), (40, 0, 4, 90, 23), (40, 0, 41, 75, 26), (4, 0, 3, 0, 29), (2, 0, 2, 0, 30), (18, 0, 26, 0, 31), (2, 0, 3, 0, 34), (18, 0, 26, 0, 35),
  (2, 0, 0, 0, 38), (25, 0, 96, 65, 39), (2, 0, 2, 0, 42), (2, 0, 3, 0, 43), (40, 0, 63, 91, 44), (15, 0, 28, 1, 47), (0, -1, 0, 0, 50), (50, 0, 0, 0, 51), (2, 0, 3, 0, 52), (0, 0, 0, 0, 53),
  (26, 0, 86, 81, 54), (2, 0, 3, 0, 57), (24, 0, 85, 80, 58), (50, 0, 0, 0, 61)]
def xc100 : List xI := [
  (2, 0, 0, 0, 0), (25, 0, 96, 65, 1), (1, 0, 1, 0, 4), (40, 0, 42, 85, 5), (4, 0, 3, 0, 8), (2, 0, 3, 0, 9), (18, 0, 9, 0, 10), (1, 0, 2, 0, 13), (15, 0, 11, 3, 14), (0, -3, 0, 1, 17),
  (50, 0, 0, 0, 19), (1, 0, 2, 0, 20), (47, 0, 0, 3, 21), (2, 0, 3, 0, 52), (24, 0, 1, 91, 53), (50, 0, 0, 0, 56), (2, 0, 3, 0, 57), (24, 0, 2, 90, 58), (50, 0, 0, 0, 61), (2, 0, 3, 0, 62),
  (24, 0, 3, 92, 63), (50, 0, 0, 0, 66), (2, 0, 3, 0, 67), (24, 0, 4, 89, 68), (50, 0, 0, 0, 71), (2, 0, 3, 0, 72), (1, 0, 2, 0, 73), (0, 4, 0, 0, 74), (7, 0, 0, 0, 75), (40, 0, 4, 90, 76),
  (50, 0, 0, 0, 79)]
def xc101 : List xI := [
  (2, 0, 0, 0, 0), (25, 0, 96, 65, 1), (1, 0, 1, 0, 4), (40, 0, 40, 65, 5), (4, 0, 5, 1, 8), (2, 0, 5, 1, 10), (18, 0, 16, 0, 12), (2, 0, 5, 1, 15), (25, 0, 40, 70, 17), (1, 0, 2, 0, 20),
  (1, 0, 3, 0, 21), (1, 0, 4, 1, 22), (40, 0, 11, 92, 24), (15, 0, 16, 0, 27), (0, 1, 0, 0, 30), (17, 0, 17, 0, 31), (0, 0, 0, 0, 34), (51, 0, 0, 0, 35)]
def xc102 : List xI := [
  (2, 0, 0, 0, 0), (25, 0, 96, 65, 1), (1, 0, 1, 0, 4), (40, 0, 40, 65, 5), (4, 0, 4, 1, 8), (2, 0, 4, 1, 10), (18, 0, 13, 0, 12), (1, 0, 2, 0, 15), (15, 0, 13, 2, 16), (1, 0, 2, 0, 19),
  (2, 0, 4, 1, 20), (40, 0, 23, 93, 22), (16, 0, 15, 5, 25), (0, -3, 0, 1, 28), (50, 0, 0, 0, 30), (2, 0, 4, 1, 31), (25, 0, 40, 70, 33), (1, 0, 2, 0, 36), (2, 0, 4, 1, 37), (40, 0, 23, 93, 39),
  (1, 0, 3, 0, 42), (40, 0, 12, 94, 43), (50, 0, 0, 0, 46)]
def xc103 : List xI := [
  (2, 0, 0, 0, 0), (25, 0, 96, 65, 1), (1, 0, 1, 0, 4), (40, 0, 40, 65, 5), (4, 0, 2, 0, 8), (2, 0, 2, 0, 9), (19, 0, 9, 0, 10), (0, -1000, 0, 2, 13), (50, 0, 0, 0, 16), (2, 0, 2, 0, 17),
  (25, 0, 40, 70, 18), (2, 0, 2, 0, 21), (40, 0, 23, 93, 22), (40, 0, 13, 95, 25), (2, 0, 0, 0, 28), (25, 0, 96, 65, 29), (1, 0, 1, 0, 32), (0, 0, 0, 0, 33), (40, 0, 49, 70, 34), (7, 0, 0, 0, 37),
  (50, 0, 0, 0, 38)]
def xc104 : List xI := [
  (2, 0, 0, 0, 0), (25, 0, 96, 65, 1), (1, 0, 1, 0, 4), (40, 0, 40, 65, 5), (4, 0, 3, 0, 8), (2, 0, 3, 0, 9), (18, 0, 13, 0, 10), (1, 0, 2, 0, 13), (0, -1, 0, 0, 14), (16, 0, 13, 2, 15),
  (1, 0, 2, 0, 18), (0, 12, 0, 1, 19), (16, 0, 15, 5, 21), (0, 0, 0, 0, 24), (51, 0, 0, 0, 25), (2, 0, 3, 0, 26), (1, 0, 2, 0, 27), (26, 0, 38, 75, 28), (0, 1, 0, 0, 31), (51, 0, 0, 0, 32)]
def xc105 : List xI := [
  (2, 0, 0, 0, 0), (25, 0, 98, 67, 1), (2, 0, 0, 0, 4), (25, 0, 96, 65, 5), (2, 0, 0, 0, 8), (25, 0, 96, 65, 9), (1, 0, 1, 0, 12), (40, 0, 42, 85, 13), (40, 0, 29, 96, 16), (50, 0, 0, 0, 19)]
def xc106 : List xI := [
  (2, 0, 0, 0, 0), (25, 0, 98, 67, 1), (1, 0, 1, 0, 4), (40, 0, 28, 97, 5), (50, 0, 0, 0, 8)]
def xc107 : List xI := [
  (2, 0, 0, 0, 0), (25, 0, 96, 65, 1), (1, 0, 1, 0, 4), (40, 0, 42, 85, 5), (4, 0, 2, 0, 8), (2, 0, 0, 0, 9), (25, 0, 98, 67, 10), (2, 0, 0, 0, 13), (25, 0, 96, 65, 14), (2, 0, 2, 0, 17),
  (40, 0, 29, 96, 18), (3, 0, 3, 0, 21), (1, 0, 3, 0, 22), (0, -1, 0, 0, 23), (16, 0, 17, 0, 24), (2, 0, 2, 0, 27), (19, 0, 19, 0, 28), (0, -1, 0, 0, 31), (50, 0, 0, 0, 32), (0, 0, 0, 0, 33),
  (3, 0, 4, 1, 34), (1, 0, 4, 1, 36), (2, 0, 0, 0, 38), (25, 0, 98, 67, 39), (24, 0, 49, 93, 42), (16, 0, 36, 3, 45), (2, 0, 0, 0, 48), (25, 0, 96, 65, 49), (2, 0, 2, 0, 52), (2, 0, 0, 0, 53),
  (25, 0, 98, 67, 54), (1, 0, 4, 1, 57), (40, 0, 28, 97, 59), (40, 0, 64, 98, 62), (5, 1, 4, 0, 65), (17, 0, 21, 0, 68), (1, 0, 3, 0, 71), (50, 0, 0, 0, 72)]
def xc108 : List xI := [
  (1, 0, 1, 0, 0), (15, 0, 5, 2, 1), (1, 0, 1, 0, 4), (0, 4, 0, 0, 5), (16, 0, 7, 2, 6), (0, 0, 0, 0, 9), (51, 0, 0, 0, 10), (2, 0, 0, 0, 11), (25, 0, 97, 66, 12), (1, 0, 1, 0, 15),
  (30, 0, 0, 0, 16), (19, 0, 19, 0, 17), (2, 0, 0, 0, 20), (25, 0, 97, 66, 21), (1, 0, 1, 0, 24), (35, 0, 4, 4, 25), (21, 0, 0, 0, 28), (42, 0, 38, 62, 29), (31, 0, 0, 0, 32), (2, 0, 0, 0, 33),
  (25, 0, 97, 66, 34), (1, 0, 1, 0, 37), (30, 0, 0, 0, 38), (2, 0, 0, 0, 39), (25, 0, 96, 65, 40), (40, 0, 39, 99, 43), (0, 1, 0, 0, 46), (51, 0, 0, 0, 47)]
def xc109 : List xI := [
  (1, 0, 1, 0, 0), (15, 0, 10, 2, 1), (1, 0, 1, 0, 4), (0, 4, 0, 0, 5), (16, 0, 10, 3, 6), (2, 0, 0, 0, 9), (25, 0, 97, 66, 10), (1, 0, 1, 0, 13), (30, 0, 0, 0, 14), (19, 0, 12, 0, 15),
  (0, 0, 0, 0, 18), (51, 0, 0, 0, 19), (2, 0, 0, 0, 20), (25, 0, 96, 65, 21), (2, 0, 0, 0, 24), (25, 0, 97, 66, 25), (1, 0, 1, 0, 28), (30, 0, 0, 0, 29), (40, 0, 39, 99, 30), (0, 1, 0, 0, 33),
  (51, 0, 0, 0, 34)]
def xc110 : List xI := [
  (1, 0, 1, 0, 0), (47, 0, 0, 4, 1), (2, 0, 0, 0, 52), (25, 0, 96, 65, 53), (24, 0, 65, 94, 56), (50, 0, 0, 0, 59), (2, 0, 0, 0, 60), (25, 0, 96, 65, 61), (24, 0, 67, 85, 64), (50, 0, 0, 0, 67),
  (2, 0, 0, 0, 68), (25, 0, 96, 65, 69), (24, 0, 69, 95, 72), (50, 0, 0, 0, 75), (2, 0, 0, 0, 76), (25, 0, 96, 65, 77), (0, 0, 0, 0, 80), (40, 0, 47, 100, 81), (50, 0, 0, 0, 84), (2, 0, 0, 0, 85),
  (25, 0, 96, 65, 86), (0, 1, 0, 0, 89), (40, 0, 47, 100, 90), (50, 0, 0, 0, 93), (2, 0, 0, 0, 94), (25, 0, 96, 65, 95), (0, 2, 0, 0, 98), (40, 0, 47, 100, 99), (50, 0, 0, 0, 102), (2, 0, 0, 0, 103),
  (25, 0, 96, 65, 104), (0, 3, 0, 0, 107), (40, 0, 47, 100, 108), (50, 0, 0, 0, 111), (2, 0, 0, 0, 112), (25, 0, 96, 65, 113), (40, 0, 48, 101, 116), (50, 0, 0, 0, 119), (2, 0, 0, 0, 120), (25, 0, 96, 65, 121),
  (24, 0, 70, 88, 124), (50, 0, 0, 0, 127), (0, -1, 0, 0, 128), (50, 0, 0, 0, 129)]
def xc111 : List xI := [
]
def xc112 : List xI := [
  (2, 0, 0, 0, 0), (43, 0, 1, 766, 1), (2, 0, 0, 0, 4), (0, 8200, 0, 2, 5), (36, 0, 0, 0, 8), (27, 0, 112, 96, 10), (2, 0, 0, 0, 13), (0, 4, 0, 0, 14), (37, 0, 0, 0, 15), (27, 0, 113, 97, 17),
  (2, 0, 0, 0, 20), (0, 12, 0, 1, 21), (36, 0, 0, 0, 23), (27, 0, 117, 98, 25), (2, 0, 0, 0, 28), (0, 12, 0, 1, 29), (36, 0, 0, 0, 31), (27, 0, 118, 99, 33), (2, 0, 0, 0, 36), (0, 7, 0, 1, 37),
  (36, 0, 0, 0, 39), (27, 0, 120, 100, 41), (2, 0, 0, 0, 44), (0, 7, 0, 1, 45), (36, 0, 0, 0, 47), (27, 0, 121, 101, 49), (2, 0, 0, 0, 52), (0, 7, 0, 1, 53), (36, 0, 0, 0, 55), (27, 0, 122, 102, 57),
  (0, 0, 0, 0, 60), (3, 0, 1, 0, 61), (1, 0, 1, 0, 62), (0, 12, 0, 1, 63), (16, 0, 60, 3, 65), (0, 0, 0, 0, 68), (3, 0, 2, 0, 69), (1, 0, 2, 0, 70), (0, 12, 0, 1, 71), (16, 0, 58, 3, 73),
  (2, 0, 0, 0, 76), (25, 0, 112, 96, 77), (0, 970, 0, 2, 80), (0, 12, 0, 1, 83), (1, 0, 1, 0, 85), (8, 0, 0, 0, 86), (6, 0, 0, 0, 87), (1, 0, 2, 0, 88), (6, 0, 0, 0, 89), (1, 0, 1, 0, 90),
  (1, 0, 2, 0, 91), (16, 0, 54, 1, 92), (0, 0, 0, 0, 95), (17, 0, 55, 0, 96), (0, 999, 0, 2, 99), (29, 0, 0, 0, 102), (5, 1, 2, 0, 103), (17, 0, 37, 0, 106), (5, 1, 1, 0, 109), (17, 0, 32, 0, 112),
  (53, 0, 0, 0, 115)]
def xc113 : List xI := [
  (1, 0, 0, 0, 0), (15, 0, 7, 2, 1), (1, 0, 0, 0, 4), (1, 0, 1, 0, 5), (16, 0, 7, 3, 6), (0, 1, 0, 0, 9), (17, 0, 8, 0, 10), (0, 0, 0, 0, 13), (51, 0, 0, 0, 14)]
def xc114 : List xI := [
  (1, 0, 1, 0, 0), (2, 0, 0, 0, 1), (25, 0, 112, 96, 2), (0, 0, 0, 0, 5), (28, 0, 0, 0, 6), (41, 0, 113, 102, 7), (51, 0, 0, 0, 10)]
def xc115 : List xI := [
  (1, 0, 1, 0, 0), (2, 0, 0, 0, 1), (25, 0, 112, 96, 2), (0, 1, 0, 0, 5), (28, 0, 0, 0, 6), (41, 0, 113, 102, 7), (51, 0, 0, 0, 10)]
def xc116 : List xI := [
  (1, 0, 1, 0, 0), (2, 0, 0, 0, 1), (25, 0, 112, 96, 2), (0, 2, 0, 0, 5), (28, 0, 0, 0, 6), (41, 0, 113, 102, 7), (51, 0, 0, 0, 10)]
def xc117 : List xI := [
  (0, 10, 0, 1, 0), (0, 80, 0, 1, 2), (1, 0, 1, 0, 4), (8, 0, 0, 0, 5), (6, 0, 0, 0, 6), (50, 0, 0, 0, 7)]
def xc118 : List xI := [
  (2, 0, 0, 0, 0), (25, 0, 112, 96, 1), (2, 0, 0, 0, 4), (1, 0, 1, 0, 5), (40, 0, 117, 103, 6), (28, 0, 0, 0, 9), (50, 0, 0, 0, 10)]
def xc119 : List xI := [
  (2, 0, 0, 0, 0), (1, 0, 1, 0, 1), (40, 0, 117, 103, 2), (0, 1, 0, 0, 5), (6, 0, 0, 0, 6), (1, 0, 2, 0, 7), (6, 0, 0, 0, 8), (50, 0, 0, 0, 9)]
def xc120 : List xI := [
  (2, 0, 0, 0, 0), (25, 0, 112, 96, 1), (0, 970, 0, 2, 4), (0, 12, 0, 1, 7), (1, 0, 1, 0, 9), (8, 0, 0, 0, 10), (6, 0, 0, 0, 11), (1, 0, 2, 0, 12), (6, 0, 0, 0, 13), (28, 0, 0, 0, 14),
  (50, 0, 0, 0, 15)]
def xc121 : List xI := [
  (2, 0, 0, 0, 0), (25, 0, 112, 96, 1), (0, 0, 0, 0, 4), (28, 0, 0, 0, 5), (0, 12, 0, 1, 6), (16, 0, 12, 0, 8), (1, 0, 1, 0, 11), (0, 2, 0, 0, 12), (16, 0, 12, 2, 13), (1, 0, 1, 0, 16),
  (0, 12, 0, 1, 17), (16, 0, 14, 5, 19), (0, -1, 0, 0, 22), (50, 0, 0, 0, 23), (2, 0, 0, 0, 24), (25, 0, 112, 96, 25), (0, 0, 0, 0, 28), (28, 0, 0, 0, 29), (3, 0, 2, 0, 30), (2, 0, 0, 0, 31),
  (25, 0, 112, 96, 32), (2, 0, 0, 0, 35), (1, 0, 2, 0, 36), (40, 0, 117, 103, 37), (1, 0, 1, 0, 40), (29, 0, 0, 0, 41), (0, 0, 0, 0, 42), (3, 0, 3, 0, 43), (1, 0, 3, 0, 44), (1, 0, 1, 0, 45),
  (16, 0, 41, 3, 46), (2, 0, 0, 0, 49), (25, 0, 112, 96, 50), (2, 0, 0, 0, 53), (1, 0, 2, 0, 54), (1, 0, 3, 0, 55), (40, 0, 119, 104, 56), (0, -1, 0, 0, 59), (29, 0, 0, 0, 60), (5, 1, 3, 0, 61),
  (17, 0, 28, 0, 64), (2, 0, 0, 0, 67), (25, 0, 112, 96, 68), (2, 0, 0, 0, 71), (1, 0, 2, 0, 72), (40, 0, 117, 103, 73), (0, 14, 0, 1, 76), (6, 0, 0, 0, 78), (0, -1, 0, 0, 79), (29, 0, 0, 0, 80),
  (2, 0, 0, 0, 81), (25, 0, 112, 96, 82), (2, 0, 0, 0, 85), (1, 0, 2, 0, 86), (40, 0, 117, 103, 87), (0, 15, 0, 1, 90), (6, 0, 0, 0, 92), (0, -1, 0, 0, 93), (29, 0, 0, 0, 94), (2, 0, 0, 0, 95),
  (25, 0, 112, 96, 96), (0, 0, 0, 0, 99), (23, 0, 0, 0, 100), (28, 0, 0, 0, 101), (0, 1, 0, 0, 102), (6, 0, 0, 0, 103), (29, 0, 0, 0, 104), (1, 0, 2, 0, 105), (50, 0, 0, 0, 106)]
def xc122 : List xI := [
  (2, 0, 0, 0, 0), (1, 0, 1, 0, 1), (40, 0, 114, 105, 2), (15, 0, 17, 0, 5), (2, 0, 0, 0, 8), (1, 0, 2, 0, 9), (40, 0, 114, 105, 10), (15, 0, 17, 0, 13), (1, 0, 1, 0, 16), (1, 0, 2, 0, 17),
  (16, 0, 17, 0, 18), (1, 0, 3, 0, 21), (0, 1, 0, 0, 22), (16, 0, 17, 2, 23), (1, 0, 3, 0, 26), (0, 999, 0, 2, 27), (16, 0, 19, 5, 30), (0, 0, 0, 0, 33), (51, 0, 0, 0, 34), (2, 0, 0, 0, 35),
  (25, 0, 112, 96, 36), (0, 970, 0, 2, 39), (0, 12, 0, 1, 42), (1, 0, 1, 0, 44), (8, 0, 0, 0, 45), (6, 0, 0, 0, 46), (1, 0, 2, 0, 47), (6, 0, 0, 0, 48), (1, 0, 3, 0, 49), (29, 0, 0, 0, 50),
  (2, 0, 0, 0, 51), (25, 0, 112, 96, 52), (0, 970, 0, 2, 55), (0, 12, 0, 1, 58), (1, 0, 2, 0, 60), (8, 0, 0, 0, 61), (6, 0, 0, 0, 62), (1, 0, 1, 0, 63), (6, 0, 0, 0, 64), (1, 0, 3, 0, 65),
  (29, 0, 0, 0, 66), (0, 1, 0, 0, 67), (51, 0, 0, 0, 68)]
def xc123 : List xI := [
  (2, 0, 0, 0, 0), (1, 0, 1, 0, 1), (40, 0, 114, 105, 2), (15, 0, 11, 0, 5), (2, 0, 0, 0, 8), (1, 0, 2, 0, 9), (40, 0, 114, 105, 10), (15, 0, 11, 0, 13), (1, 0, 1, 0, 16), (1, 0, 2, 0, 17),
  (16, 0, 13, 1, 18), (0, -1, 0, 0, 21), (50, 0, 0, 0, 22), (2, 0, 0, 0, 23), (1, 0, 1, 0, 24), (40, 0, 117, 103, 25), (0, 15, 0, 1, 28), (6, 0, 0, 0, 30), (3, 0, 3, 0, 31), (2, 0, 0, 0, 32),
  (25, 0, 112, 96, 33), (1, 0, 3, 0, 36), (28, 0, 0, 0, 37), (0, 8, 0, 1, 38), (16, 0, 27, 1, 40), (0, -1, 0, 0, 43), (50, 0, 0, 0, 44), (2, 0, 0, 0, 45), (25, 0, 112, 96, 46), (1, 0, 3, 0, 49),
  (28, 0, 0, 0, 50), (15, 0, 37, 3, 51), (2, 0, 0, 0, 54), (25, 0, 112, 96, 55), (1, 0, 3, 0, 58), (0, 0, 0, 0, 59), (29, 0, 0, 0, 60), (2, 0, 0, 0, 61), (25, 0, 112, 96, 62), (1, 0, 3, 0, 65),
  (0, 1, 0, 0, 66), (6, 0, 0, 0, 67), (2, 0, 0, 0, 68), (25, 0, 112, 96, 69), (1, 0, 3, 0, 72), (28, 0, 0, 0, 73), (6, 0, 0, 0, 74), (1, 0, 2, 0, 75), (29, 0, 0, 0, 76), (2, 0, 0, 0, 77),
  (25, 0, 112, 96, 78), (1, 0, 3, 0, 81), (23, 0, 0, 0, 82), (28, 0, 0, 0, 83), (0, 1, 0, 0, 84), (6, 0, 0, 0, 85), (29, 0, 0, 0, 86), (2, 0, 0, 0, 87), (25, 0, 112, 96, 88), (1, 0, 3, 0, 91),
  (28, 0, 0, 0, 92), (50, 0, 0, 0, 93)]
def xc124 : List xI := [
  (2, 0, 0, 0, 0), (1, 0, 1, 0, 1), (40, 0, 114, 105, 2), (15, 0, 8, 0, 5), (1, 0, 2, 0, 8), (0, 2, 0, 0, 9), (41, 0, 113, 102, 10), (15, 0, 10, 1, 13), (0, 0, 0, 0, 16), (51, 0, 0, 0, 17),
  (2, 0, 0, 0, 18), (1, 0, 1, 0, 19), (40, 0, 117, 103, 20), (1, 0, 2, 0, 23), (15, 0, 17, 1, 24), (0, 15, 0, 1, 27), (17, 0, 18, 0, 29), (0, 24, 0, 1, 32), (6, 0, 0, 0, 34), (3, 0, 3, 0, 35),
  (2, 0, 0, 0, 36), (25, 0, 112, 96, 37), (1, 0, 3, 0, 40), (28, 0, 0, 0, 41), (1, 0, 2, 0, 42), (15, 0, 28, 1, 43), (0, -1, 0, 0, 46), (17, 0, 29, 0, 47), (0, 0, 0, 0, 50), (16, 0, 32, 1, 51),
  (0, 0, 0, 0, 54), (51, 0, 0, 0, 55), (2, 0, 0, 0, 56), (25, 0, 112, 96, 57), (1, 0, 3, 0, 60), (1, 0, 2, 0, 61), (15, 0, 39, 1, 62), (0, -1, 0, 0, 65), (17, 0, 40, 0, 66), (0, 0, 0, 0, 69),
  (29, 0, 0, 0, 70), (0, 1, 0, 0, 71), (51, 0, 0, 0, 72)]
def xc125 : List xI := [
  (2, 0, 0, 0, 0), (1, 0, 1, 0, 1), (40, 0, 114, 105, 2), (15, 0, 12, 0, 5), (1, 0, 2, 0, 8), (2, 0, 0, 0, 9), (1, 0, 1, 0, 10), (40, 0, 118, 106, 11), (41, 0, 113, 102, 14), (15, 0, 12, 0, 17),
  (0, 1, 0, 0, 20), (17, 0, 13, 0, 21), (0, 0, 0, 0, 24), (51, 0, 0, 0, 25)]
def xc126 : List xI := [
  (2, 0, 0, 0, 0), (1, 0, 1, 0, 1), (1, 0, 2, 0, 2), (40, 0, 125, 107, 3), (15, 0, 7, 1, 6), (0, 0, 0, 0, 9), (51, 0, 0, 0, 10), (2, 0, 0, 0, 11), (1, 0, 1, 0, 12), (1, 0, 2, 0, 13),
  (40, 0, 119, 104, 14), (3, 0, 4, 1, 17), (2, 0, 0, 0, 19), (25, 0, 112, 96, 20), (1, 0, 4, 1, 23), (28, 0, 0, 0, 25), (1, 0, 3, 0, 26), (15, 0, 20, 0, 27), (0, -1, 0, 0, 30), (17, 0, 21, 0, 31),
  (0, -2, 0, 1, 34), (16, 0, 24, 0, 36), (0, 0, 0, 0, 39), (51, 0, 0, 0, 40), (2, 0, 0, 0, 41), (25, 0, 112, 96, 42), (1, 0, 4, 1, 45), (1, 0, 3, 0, 47), (15, 0, 31, 0, 48), (0, -2, 0, 1, 51),
  (17, 0, 32, 0, 53), (0, -1, 0, 0, 56), (29, 0, 0, 0, 57), (0, 1, 0, 0, 58), (51, 0, 0, 0, 59)]
def xc127 : List xI := [
  (2, 0, 0, 0, 0), (1, 0, 1, 0, 1), (1, 0, 2, 0, 2), (40, 0, 125, 107, 3), (15, 0, 13, 0, 6), (2, 0, 0, 0, 9), (25, 0, 112, 96, 10), (2, 0, 0, 0, 13), (1, 0, 1, 0, 14), (1, 0, 2, 0, 15),
  (40, 0, 119, 104, 16), (28, 0, 0, 0, 19), (17, 0, 14, 0, 20), (0, -3, 0, 1, 23), (50, 0, 0, 0, 25)]
def xc128 : List xI := [
  (0, 0, 0, 0, 0), (3, 0, 3, 0, 1), (0, 0, 0, 0, 2), (3, 0, 4, 1, 3), (1, 0, 4, 1, 5), (2, 0, 0, 0, 7), (1, 0, 1, 0, 8), (40, 0, 118, 106, 9), (16, 0, 38, 3, 12), (2, 0, 0, 0, 15),
  (25, 0, 112, 96, 16), (2, 0, 0, 0, 19), (1, 0, 1, 0, 20), (1, 0, 4, 1, 21), (40, 0, 119, 104, 23), (28, 0, 0, 0, 26), (3, 0, 5, 1, 27), (1, 0, 3, 0, 29), (1, 0, 2, 0, 30), (0, -1, 0, 0, 31),
  (16, 0, 28, 1, 32), (1, 0, 5, 1, 35), (0, -1, 0, 0, 37), (16, 0, 26, 1, 38), (0, 1, 0, 0, 41), (17, 0, 34, 0, 42), (0, 0, 0, 0, 45), (17, 0, 34, 0, 46), (1, 0, 5, 1, 49), (0, -2, 0, 1, 51),
  (16, 0, 33, 0, 53), (0, 1, 0, 0, 56), (17, 0, 34, 0, 57), (0, 0, 0, 0, 60), (6, 0, 0, 0, 61), (3, 0, 3, 0, 62), (5, 1, 4, 0, 63), (17, 0, 4, 0, 66), (1, 0, 3, 0, 69), (50, 0, 0, 0, 70)]
def xc129 : List xI := [
  (2, 0, 0, 0, 0), (25, 0, 112, 96, 1), (0, 1114, 0, 2, 4), (0, 8, 0, 1, 7), (1, 0, 1, 0, 9), (8, 0, 0, 0, 10), (6, 0, 0, 0, 11), (1, 0, 2, 0, 12), (6, 0, 0, 0, 13), (28, 0, 0, 0, 14),
  (50, 0, 0, 0, 15)]
def xc130 : List xI := [
  (2, 0, 0, 0, 0), (25, 0, 112, 96, 1), (0, 1114, 0, 2, 4), (0, 8, 0, 1, 7), (1, 0, 1, 0, 9), (8, 0, 0, 0, 10), (6, 0, 0, 0, 11), (1, 0, 2, 0, 12), (6, 0, 0, 0, 13), (1, 0, 3, 0, 14),
  (29, 0, 0, 0, 15), (53, 0, 0, 0, 16)]
def xc131 : List xI := [
  (0, 0, 0, 0, 0), (3, 0, 4, 1, 1), (0, 0, 0, 0, 3), (3, 0, 5, 1, 4), (1, 0, 5, 1, 6), (2, 0, 0, 0, 8), (25, 0, 112, 96, 9), (0, 1, 0, 0, 12), (28, 0, 0, 0, 13), (16, 0, 38, 3, 14),
  (1, 0, 4, 1, 17), (2, 0, 0, 0, 19), (1, 0, 5, 1, 20), (0, 2, 0, 0, 22), (40, 0, 129, 108, 23), (1, 0, 2, 0, 26), (16, 0, 33, 1, 27), (2, 0, 0, 0, 30), (1, 0, 5, 1, 31), (0, 3, 0, 0, 33),
  (40, 0, 129, 108, 34), (1, 0, 1, 0, 37), (16, 0, 33, 1, 38), (1, 0, 3, 0, 41), (15, 0, 31, 0, 42), (2, 0, 0, 0, 45), (1, 0, 5, 1, 46), (0, 0, 0, 0, 48), (40, 0, 129, 108, 49), (0, 2, 0, 0, 52),
  (16, 0, 33, 0, 53), (0, 1, 0, 0, 56), (17, 0, 34, 0, 57), (0, 0, 0, 0, 60), (6, 0, 0, 0, 61), (3, 0, 4, 1, 62), (5, 1, 5, 0, 64), (17, 0, 4, 0, 67), (1, 0, 4, 1, 70), (50, 0, 0, 0, 72)]
def xc132 : List xI := [
  (2, 0, 0, 0, 0), (1, 0, 1, 0, 1), (40, 0, 114, 105, 2), (15, 0, 6, 1, 5), (0, -3, 0, 1, 8), (50, 0, 0, 0, 10), (1, 0, 2, 0, 11), (47, 0, 0, 5, 12), (2, 0, 0, 0, 60), (1, 0, 1, 0, 61),
  (40, 0, 118, 106, 62), (50, 0, 0, 0, 65), (2, 0, 0, 0, 66), (1, 0, 1, 0, 67), (0, -1, 0, 0, 68), (40, 0, 128, 109, 69), (50, 0, 0, 0, 72), (2, 0, 0, 0, 73), (1, 0, 1, 0, 74), (0, 0, 0, 0, 75),
  (0, 0, 0, 0, 76), (40, 0, 131, 110, 77), (50, 0, 0, 0, 80), (2, 0, 0, 0, 81), (1, 0, 1, 0, 82), (0, 0, 0, 0, 83), (0, 1, 0, 0, 84), (40, 0, 131, 110, 85), (50, 0, 0, 0, 88), (2, 0, 0, 0, 89),
  (25, 0, 112, 96, 90), (2, 0, 0, 0, 93), (1, 0, 1, 0, 94), (40, 0, 117, 103, 95), (0, 13, 0, 1, 98), (6, 0, 0, 0, 100), (28, 0, 0, 0, 101), (50, 0, 0, 0, 102), (2, 0, 0, 0, 103), (25, 0, 112, 96, 104),
  (2, 0, 0, 0, 107), (1, 0, 1, 0, 108), (40, 0, 117, 103, 109), (0, 14, 0, 1, 112), (6, 0, 0, 0, 114), (28, 0, 0, 0, 115), (50, 0, 0, 0, 116), (2, 0, 0, 0, 117), (25, 0, 112, 96, 118), (2, 0, 0, 0, 121),
  (1, 0, 1, 0, 122), (40, 0, 117, 103, 123), (0, 15, 0, 1, 126), (6, 0, 0, 0, 128), (28, 0, 0, 0, 129), (50, 0, 0, 0, 130), (2, 0, 0, 0, 131), (1, 0, 1, 0, 132), (0, 3, 0, 0, 133), (0, 0, 0, 0, 134),
  (40, 0, 131, 110, 135), (50, 0, 0, 0, 138), (0, -3, 0, 1, 139), (50, 0, 0, 0, 141)]
def xc133 : List xI := [
  (2, 0, 0, 0, 0), (1, 0, 1, 0, 1), (1, 0, 2, 0, 2), (40, 0, 125, 107, 3), (15, 0, 16, 0, 6), (2, 0, 0, 0, 9), (25, 0, 112, 96, 10), (2, 0, 0, 0, 13), (1, 0, 1, 0, 14), (1, 0, 2, 0, 15),
  (40, 0, 119, 104, 16), (28, 0, 0, 0, 19), (0, -1, 0, 0, 20), (16, 0, 16, 1, 21), (0, 1, 0, 0, 24), (17, 0, 17, 0, 25), (0, 0, 0, 0, 28), (51, 0, 0, 0, 29)]
def xc134 : List xI := [
  (2, 0, 0, 0, 0), (1, 0, 2, 0, 1), (1, 0, 3, 0, 2), (40, 0, 133, 111, 3), (15, 0, 17, 0, 6), (1, 0, 1, 0, 9), (0, 2, 0, 0, 10), (16, 0, 15, 1, 11), (2, 0, 0, 0, 14), (1, 0, 2, 0, 15),
  (1, 0, 3, 0, 16), (0, 1, 0, 0, 17), (6, 0, 0, 0, 18), (40, 0, 133, 111, 19), (15, 0, 17, 0, 22), (0, 1, 0, 0, 25), (17, 0, 18, 0, 26), (0, 0, 0, 0, 29), (51, 0, 0, 0, 30)]
def xc135 : List xI := [
  (0, 0, 0, 0, 0), (3, 0, 3, 0, 1), (1, 0, 3, 0, 2), (2, 0, 0, 0, 3), (1, 0, 2, 0, 4), (40, 0, 118, 106, 5), (16, 0, 17, 3, 8), (2, 0, 0, 0, 11), (1, 0, 1, 0, 12), (1, 0, 2, 0, 13),
  (1, 0, 3, 0, 14), (40, 0, 134, 112, 15), (15, 0, 15, 0, 18), (1, 0, 3, 0, 21), (50, 0, 0, 0, 22), (5, 1, 3, 0, 23), (17, 0, 2, 0, 26), (0, -1, 0, 0, 29), (50, 0, 0, 0, 30)]
def xc136 : List xI := [
  (2, 0, 0, 0, 0), (25, 0, 112, 96, 1), (2, 0, 0, 0, 4), (1, 0, 2, 0, 5), (1, 0, 3, 0, 6), (40, 0, 119, 104, 7), (1, 0, 1, 0, 10), (29, 0, 0, 0, 11), (2, 0, 0, 0, 12), (1, 0, 1, 0, 13),
  (0, 0, 0, 0, 14), (40, 0, 129, 108, 15), (0, 2, 0, 0, 18), (16, 0, 24, 1, 19), (2, 0, 0, 0, 22), (25, 0, 112, 96, 23), (2, 0, 0, 0, 26), (1, 0, 2, 0, 27), (1, 0, 3, 0, 28), (0, 1, 0, 0, 29),
  (6, 0, 0, 0, 30), (40, 0, 119, 104, 31), (1, 0, 1, 0, 34), (29, 0, 0, 0, 35), (2, 0, 0, 0, 36), (1, 0, 1, 0, 37), (0, 2, 0, 0, 38), (0, 0, 0, 0, 39), (40, 0, 130, 113, 40), (2, 0, 0, 0, 43),
  (1, 0, 1, 0, 44), (0, 3, 0, 0, 45), (1, 0, 2, 0, 46), (40, 0, 130, 113, 47), (2, 0, 0, 0, 50), (1, 0, 1, 0, 51), (0, 4, 0, 0, 52), (1, 0, 3, 0, 53), (40, 0, 130, 113, 54), (53, 0, 0, 0, 57)]
def xc137 : List xI := [
  (2, 0, 0, 0, 0), (25, 0, 112, 96, 1), (2, 0, 0, 0, 4), (2, 0, 0, 0, 5), (1, 0, 1, 0, 6), (0, 3, 0, 0, 7), (40, 0, 129, 108, 8), (2, 0, 0, 0, 11), (1, 0, 1, 0, 12), (0, 4, 0, 0, 13),
  (40, 0, 129, 108, 14), (40, 0, 119, 104, 17), (0, -1, 0, 0, 20), (29, 0, 0, 0, 21), (2, 0, 0, 0, 22), (1, 0, 1, 0, 23), (0, 0, 0, 0, 24), (40, 0, 129, 108, 25), (0, 2, 0, 0, 28), (16, 0, 36, 1, 29),
  (2, 0, 0, 0, 32), (25, 0, 112, 96, 33), (2, 0, 0, 0, 36), (2, 0, 0, 0, 37), (1, 0, 1, 0, 38), (0, 3, 0, 0, 39), (40, 0, 129, 108, 40), (2, 0, 0, 0, 43), (1, 0, 1, 0, 44), (0, 4, 0, 0, 45),
  (40, 0, 129, 108, 46), (0, 1, 0, 0, 49), (6, 0, 0, 0, 50), (40, 0, 119, 104, 51), (0, -1, 0, 0, 54), (29, 0, 0, 0, 55), (53, 0, 0, 0, 56)]
def xc138 : List xI := [
  (1, 0, 0, 0, 0), (0, 1, 0, 0, 1), (16, 0, 6, 0, 2), (1, 0, 0, 0, 5), (0, 2, 0, 0, 6), (16, 0, 8, 1, 7), (0, 1, 0, 0, 10), (17, 0, 9, 0, 11), (0, 0, 0, 0, 14), (51, 0, 0, 0, 15)]
def xc139 : List xI := [
  (2, 0, 0, 0, 0), (25, 0, 112, 96, 1), (0, 1, 0, 0, 4), (28, 0, 0, 0, 5), (0, 60, 0, 1, 6), (16, 0, 16, 0, 8), (1, 0, 1, 0, 11), (0, 4, 0, 0, 12), (41, 0, 113, 102, 13), (15, 0, 16, 0, 16),
  (2, 0, 0, 0, 19), (1, 0, 1, 0, 20), (1, 0, 2, 0, 21), (1, 0, 3, 0, 22), (40, 0, 134, 112, 23), (15, 0, 18, 1, 26), (0, -1, 0, 0, 29), (50, 0, 0, 0, 30), (2, 0, 0, 0, 31), (25, 0, 112, 96, 32),
  (0, 1, 0, 0, 35), (28, 0, 0, 0, 36), (3, 0, 4, 1, 37), (2, 0, 0, 0, 39), (25, 0, 112, 96, 40), (0, 1, 0, 0, 43), (23, 0, 0, 0, 44), (28, 0, 0, 0, 45), (0, 1, 0, 0, 46), (6, 0, 0, 0, 47),
  (29, 0, 0, 0, 48), (2, 0, 0, 0, 49), (1, 0, 4, 1, 50), (0, 0, 0, 0, 52), (1, 0, 1, 0, 53), (40, 0, 130, 113, 54), (2, 0, 0, 0, 57), (1, 0, 4, 1, 58), (0, 1, 0, 0, 60), (1, 0, 1, 0, 61),
  (41, 0, 138, 114, 62), (15, 0, 44, 0, 65), (0, 1000, 0, 2, 68), (17, 0, 45, 0, 71), (0, 0, 0, 0, 74), (40, 0, 130, 113, 75), (2, 0, 0, 0, 78), (1, 0, 4, 1, 79), (0, 5, 0, 0, 81), (0, 0, 0, 0, 82),
  (40, 0, 130, 113, 83), (2, 0, 0, 0, 86), (1, 0, 4, 1, 87), (0, 6, 0, 1, 89), (0, 0, 0, 0, 91), (40, 0, 130, 113, 92), (2, 0, 0, 0, 95), (1, 0, 4, 1, 96), (0, 7, 0, 1, 98), (0, -1, 0, 0, 100),
  (40, 0, 130, 113, 101), (2, 0, 0, 0, 104), (1, 0, 4, 1, 105), (1, 0, 2, 0, 107), (1, 0, 3, 0, 108), (40, 0, 136, 115, 109), (1, 0, 4, 1, 112), (50, 0, 0, 0, 114)]
def xc140 : List xI := [
]
def xc141 : List xI := [
  (2, 0, 0, 0, 0), (1, 0, 1, 0, 1), (40, 0, 115, 116, 2), (15, 0, 10, 0, 5), (2, 0, 0, 0, 8), (1, 0, 1, 0, 9), (0, 0, 0, 0, 10), (40, 0, 129, 108, 11), (41, 0, 138, 114, 14), (15, 0, 12, 1, 17),
  (0, -1, 0, 0, 20), (50, 0, 0, 0, 21), (1, 0, 2, 0, 22), (56, 0, 140, 117, 23), (3, 0, 3, 0, 26), (1, 0, 3, 0, 27), (15, 0, 19, 3, 28), (0, -1, 0, 0, 31), (50, 0, 0, 0, 32), (2, 0, 0, 0, 33),
  (1, 0, 1, 0, 34), (0, 1, 0, 0, 35), (1, 0, 3, 0, 36), (40, 0, 130, 113, 37), (1, 0, 3, 0, 40), (50, 0, 0, 0, 41)]
def xc142 : List xI := [
  (2, 0, 0, 0, 0), (1, 0, 1, 0, 1), (40, 0, 115, 116, 2), (15, 0, 6, 1, 5), (0, -3, 0, 1, 8), (50, 0, 0, 0, 10), (2, 0, 0, 0, 11), (1, 0, 1, 0, 12), (0, 2, 0, 0, 13), (40, 0, 129, 108, 14),
  (3, 0, 3, 0, 17), (1, 0, 2, 0, 18), (47, 0, 0, 6, 19), (2, 0, 0, 0, 64), (1, 0, 1, 0, 65), (1, 0, 2, 0, 66), (40, 0, 129, 108, 67), (50, 0, 0, 0, 70), (1, 0, 3, 0, 71), (0, 1, 0, 0, 72),
  (16, 0, 23, 1, 73), (0, -1, 0, 0, 76), (17, 0, 27, 0, 77), (2, 0, 0, 0, 80), (1, 0, 1, 0, 81), (0, 3, 0, 0, 82), (40, 0, 129, 108, 83), (50, 0, 0, 0, 86), (1, 0, 3, 0, 87), (15, 0, 35, 1, 88),
  (2, 0, 0, 0, 91), (1, 0, 1, 0, 92), (0, 4, 0, 0, 93), (40, 0, 129, 108, 94), (17, 0, 44, 0, 97), (1, 0, 3, 0, 100), (0, 1, 0, 0, 101), (16, 0, 43, 1, 102), (2, 0, 0, 0, 105), (1, 0, 1, 0, 106),
  (0, 3, 0, 0, 107), (40, 0, 129, 108, 108), (17, 0, 44, 0, 111), (0, -1, 0, 0, 114), (50, 0, 0, 0, 115), (2, 0, 0, 0, 116), (1, 0, 1, 0, 117), (0, 6, 0, 1, 118), (40, 0, 129, 108, 120), (0, 2, 0, 0, 123),
  (16, 0, 53, 1, 124), (0, 1, 0, 0, 127), (17, 0, 54, 0, 128), (0, 0, 0, 0, 131), (50, 0, 0, 0, 132), (1, 0, 3, 0, 133), (0, 2, 0, 0, 134), (16, 0, 63, 1, 135), (2, 0, 0, 0, 138), (1, 0, 1, 0, 139),
  (0, 7, 0, 1, 140), (40, 0, 129, 108, 142), (17, 0, 64, 0, 145), (0, -1, 0, 0, 148), (50, 0, 0, 0, 149), (0, -3, 0, 1, 150), (50, 0, 0, 0, 152)]
def xc143 : List xI := [
  (2, 0, 0, 0, 0), (1, 0, 1, 0, 1), (40, 0, 115, 116, 2), (15, 0, 9, 0, 5), (2, 0, 0, 0, 8), (1, 0, 1, 0, 9), (0, 6, 0, 1, 10), (40, 0, 129, 108, 12), (15, 0, 11, 5, 15), (0, 0, 0, 0, 18),
  (51, 0, 0, 0, 19), (2, 0, 0, 0, 20), (1, 0, 1, 0, 21), (0, 6, 0, 1, 22), (0, 1, 0, 0, 24), (40, 0, 130, 113, 25), (0, 1, 0, 0, 28), (51, 0, 0, 0, 29)]
def xc144 : List xI := [
  (2, 0, 0, 0, 0), (1, 0, 1, 0, 1), (40, 0, 115, 116, 2), (15, 0, 10, 0, 5), (2, 0, 0, 0, 8), (1, 0, 1, 0, 9), (0, 2, 0, 0, 10), (40, 0, 129, 108, 11), (0, 2, 0, 0, 14), (16, 0, 12, 1, 15),
  (0, -1, 0, 0, 18), (50, 0, 0, 0, 19), (2, 0, 0, 0, 20), (1, 0, 1, 0, 21), (0, 6, 0, 1, 22), (40, 0, 129, 108, 24), (15, 0, 24, 5, 27), (2, 0, 0, 0, 30), (1, 0, 1, 0, 31), (0, 6, 0, 1, 32),
  (0, 2, 0, 0, 34), (40, 0, 130, 113, 35), (0, 1, 0, 0, 38), (50, 0, 0, 0, 39), (2, 0, 0, 0, 40), (1, 0, 1, 0, 41), (0, 5, 0, 0, 42), (0, 0, 0, 0, 43), (40, 0, 130, 113, 44), (0, 0, 0, 0, 47),
  (50, 0, 0, 0, 48)]
def xc145 : List xI := [
  (2, 0, 0, 0, 0), (1, 0, 1, 0, 1), (40, 0, 115, 116, 2), (15, 0, 15, 0, 5), (2, 0, 0, 0, 8), (1, 0, 1, 0, 9), (0, 2, 0, 0, 10), (40, 0, 129, 108, 11), (0, 2, 0, 0, 14), (16, 0, 15, 0, 15),
  (2, 0, 0, 0, 18), (1, 0, 1, 0, 19), (0, 6, 0, 1, 20), (40, 0, 129, 108, 22), (15, 0, 17, 1, 25), (0, 0, 0, 0, 28), (51, 0, 0, 0, 29), (2, 0, 0, 0, 30), (1, 0, 1, 0, 31), (0, 6, 0, 1, 32),
  (0, 0, 0, 0, 34), (40, 0, 130, 113, 35), (2, 0, 0, 0, 38), (1, 0, 1, 0, 39), (0, 5, 0, 0, 40), (0, 0, 0, 0, 41), (40, 0, 130, 113, 42), (0, 1, 0, 0, 45), (51, 0, 0, 0, 46)]
def xc146 : List xI := [
  (1, 0, 2, 0, 0), (3, 0, 3, 0, 1), (0, 0, 0, 0, 2), (3, 0, 4, 1, 3), (1, 0, 4, 1, 5), (2, 0, 0, 0, 7), (25, 0, 112, 96, 8), (0, 1, 0, 0, 11), (28, 0, 0, 0, 12), (16, 0, 43, 3, 13),
  (1, 0, 2, 0, 16), (15, 0, 43, 2, 17), (2, 0, 0, 0, 20), (1, 0, 4, 1, 21), (0, 2, 0, 0, 23), (40, 0, 129, 108, 24), (15, 0, 25, 1, 27), (2, 0, 0, 0, 30), (1, 0, 4, 1, 31), (0, 5, 0, 0, 33),
  (40, 0, 129, 108, 34), (1, 0, 1, 0, 37), (16, 0, 25, 5, 38), (0, 1, 0, 0, 41), (17, 0, 26, 0, 42), (0, 0, 0, 0, 45), (3, 0, 5, 1, 46), (1, 0, 5, 1, 48), (15, 0, 33, 0, 50), (1, 0, 3, 0, 53),
  (15, 0, 33, 1, 54), (1, 0, 4, 1, 57), (50, 0, 0, 0, 59), (1, 0, 3, 0, 60), (1, 0, 5, 1, 61), (15, 0, 38, 0, 63), (0, 1, 0, 0, 66), (17, 0, 39, 0, 67), (0, 0, 0, 0, 70), (7, 0, 0, 0, 71),
  (3, 0, 3, 0, 72), (5, 1, 4, 0, 73), (17, 0, 4, 0, 76), (0, -1, 0, 0, 79), (50, 0, 0, 0, 80)]
def xc147 : List xI := [
  (1, 0, 1, 0, 0), (0, 2, 0, 0, 1), (16, 0, 5, 1, 2), (0, 3, 0, 0, 5), (17, 0, 11, 0, 6), (1, 0, 1, 0, 9), (0, 1, 0, 0, 10), (16, 0, 10, 1, 11), (0, 2, 0, 0, 14), (17, 0, 11, 0, 15),
  (0, 0, 0, 0, 18), (50, 0, 0, 0, 19)]
def xc148 : List xI := [
  (0, -1, 0, 0, 0), (3, 0, 3, 0, 1), (0, 0, 0, 0, 2), (3, 0, 4, 1, 3), (1, 0, 4, 1, 5), (2, 0, 0, 0, 7), (25, 0, 112, 96, 8), (0, 0, 0, 0, 11), (28, 0, 0, 0, 12), (16, 0, 28, 3, 13),
  (1, 0, 4, 1, 16), (1, 0, 2, 0, 18), (16, 0, 26, 0, 19), (1, 0, 3, 0, 22), (15, 0, 21, 2, 23), (2, 0, 0, 0, 26), (1, 0, 2, 0, 27), (1, 0, 4, 1, 28), (40, 0, 120, 118, 30), (1, 0, 3, 0, 33),
  (16, 0, 26, 3, 34), (2, 0, 0, 0, 37), (1, 0, 2, 0, 38), (1, 0, 4, 1, 39), (40, 0, 120, 118, 41), (3, 0, 3, 0, 44), (5, 1, 4, 0, 45), (17, 0, 4, 0, 48), (1, 0, 3, 0, 51), (15, 0, 49, 2, 52),
  (2, 0, 0, 0, 55), (1, 0, 1, 0, 56), (0, 1, 0, 0, 57), (40, 0, 129, 108, 58), (2, 0, 0, 0, 61), (2, 0, 0, 0, 62), (1, 0, 1, 0, 63), (0, 0, 0, 0, 64), (40, 0, 129, 108, 65), (40, 0, 147, 119, 68),
  (1, 0, 3, 0, 71), (8, 0, 0, 0, 72), (16, 0, 49, 3, 73), (2, 0, 0, 0, 76), (1, 0, 1, 0, 77), (0, 0, 0, 0, 78), (40, 0, 129, 108, 79), (41, 0, 138, 114, 82), (15, 0, 51, 1, 85), (0, 1, 0, 0, 88),
  (17, 0, 52, 0, 89), (0, 0, 0, 0, 92), (51, 0, 0, 0, 93)]
def xc149 : List xI := [
  (2, 0, 0, 0, 0), (1, 0, 1, 0, 1), (40, 0, 137, 120, 2), (2, 0, 0, 0, 5), (1, 0, 1, 0, 6), (0, 2, 0, 0, 7), (0, 2, 0, 0, 8), (40, 0, 130, 113, 9), (2, 0, 0, 0, 12), (1, 0, 1, 0, 13),
  (0, 4, 0, 0, 14), (0, -1, 0, 0, 15), (40, 0, 130, 113, 16), (2, 0, 0, 0, 19), (1, 0, 1, 0, 20), (0, 5, 0, 0, 21), (0, 0, 0, 0, 22), (40, 0, 130, 113, 23), (2, 0, 0, 0, 26), (1, 0, 1, 0, 27),
  (0, 7, 0, 1, 28), (1, 0, 2, 0, 30), (40, 0, 130, 113, 31), (53, 0, 0, 0, 34)]
def xc150 : List xI := [
  (2, 0, 0, 0, 0), (1, 0, 1, 0, 1), (1, 0, 2, 0, 2), (40, 0, 125, 107, 3), (15, 0, 13, 0, 6), (2, 0, 0, 0, 9), (25, 0, 112, 96, 10), (2, 0, 0, 0, 13), (1, 0, 1, 0, 14), (1, 0, 2, 0, 15),
  (40, 0, 119, 104, 16), (28, 0, 0, 0, 19), (15, 0, 15, 3, 20), (0, -1, 0, 0, 23), (50, 0, 0, 0, 24), (2, 0, 0, 0, 25), (25, 0, 112, 96, 26), (2, 0, 0, 0, 29), (1, 0, 1, 0, 30), (1, 0, 2, 0, 31),
  (40, 0, 119, 104, 32), (28, 0, 0, 0, 35), (3, 0, 4, 1, 36), (2, 0, 0, 0, 38), (1, 0, 4, 1, 39), (0, 0, 0, 0, 41), (40, 0, 129, 108, 42), (0, 3, 0, 0, 45), (16, 0, 31, 1, 46), (0, -2, 0, 1, 49),
  (50, 0, 0, 0, 51), (2, 0, 0, 0, 52), (1, 0, 4, 1, 53), (0, 6, 0, 1, 55), (40, 0, 129, 108, 57), (15, 0, 38, 5, 60), (0, -3, 0, 1, 63), (50, 0, 0, 0, 65), (2, 0, 0, 0, 66), (1, 0, 4, 1, 67),
  (1, 0, 1, 0, 69), (40, 0, 148, 121, 70), (15, 0, 45, 1, 73), (0, -4, 0, 1, 76), (50, 0, 0, 0, 78), (0, -1, 0, 0, 79), (3, 0, 5, 1, 80), (1, 0, 3, 0, 82), (0, -1, 0, 0, 83), (16, 0, 80, 0, 84),
  (2, 0, 0, 0, 87), (1, 0, 1, 0, 88), (1, 0, 3, 0, 89), (40, 0, 125, 107, 90), (15, 0, 63, 0, 93), (2, 0, 0, 0, 96), (25, 0, 112, 96, 97), (2, 0, 0, 0, 100), (1, 0, 1, 0, 101), (1, 0, 3, 0, 102),
  (40, 0, 119, 104, 103), (28, 0, 0, 0, 106), (17, 0, 64, 0, 107), (0, -1, 0, 0, 110), (3, 0, 5, 1, 111), (1, 0, 5, 1, 113), (15, 0, 78, 2, 115), (2, 0, 0, 0, 118), (1, 0, 5, 1, 119), (0, 0, 0, 0, 121),
  (40, 0, 129, 108, 122), (0, 3, 0, 0, 125), (16, 0, 78, 1, 126), (2, 0, 0, 0, 129), (1, 0, 5, 1, 130), (0, 6, 0, 1, 132), (40, 0, 129, 108, 134), (15, 0, 80, 5, 137), (0, -5, 0, 1, 140), (50, 0, 0, 0, 142),
  (2, 0, 0, 0, 143), (1, 0, 4, 1, 144), (1, 0, 5, 1, 146), (40, 0, 149, 122, 148), (1, 0, 5, 1, 151), (15, 0, 90, 2, 153), (2, 0, 0, 0, 156), (1, 0, 5, 1, 157), (1, 0, 4, 1, 159), (40, 0, 149, 122, 161),
  (0, 0, 0, 0, 164), (3, 0, 6, 1, 165), (1, 0, 6, 1, 167), (2, 0, 0, 0, 169), (25, 0, 112, 96, 170), (0, 1, 0, 0, 173), (28, 0, 0, 0, 174), (16, 0, 121, 3, 175), (2, 0, 0, 0, 178), (1, 0, 6, 1, 179),
  (0, 2, 0, 0, 181), (40, 0, 129, 108, 182), (15, 0, 119, 1, 185), (2, 0, 0, 0, 188), (1, 0, 6, 1, 189), (0, 3, 0, 0, 191), (40, 0, 129, 108, 192), (1, 0, 1, 0, 195), (16, 0, 119, 1, 196), (2, 0, 0, 0, 199),
  (1, 0, 6, 1, 200), (0, 5, 0, 0, 202), (2, 0, 0, 0, 203), (1, 0, 6, 1, 204), (0, 5, 0, 0, 206), (40, 0, 129, 108, 207), (0, 1, 0, 0, 210), (6, 0, 0, 0, 211), (40, 0, 130, 113, 212), (5, 1, 6, 0, 215),
  (17, 0, 92, 0, 218), (1, 0, 4, 1, 221), (50, 0, 0, 0, 223)]
def xc151 : List xI := [
  (2, 0, 0, 0, 0), (1, 0, 1, 0, 1), (0, 1, 0, 0, 2), (40, 0, 129, 108, 3), (2, 0, 0, 0, 6), (2, 0, 0, 0, 7), (1, 0, 1, 0, 8), (0, 0, 0, 0, 9), (40, 0, 129, 108, 10), (40, 0, 147, 119, 13),
  (1, 0, 2, 0, 16), (8, 0, 0, 0, 17), (7, 0, 0, 0, 18), (3, 0, 3, 0, 19), (2, 0, 0, 0, 20), (1, 0, 1, 0, 21), (0, 1, 0, 0, 22), (1, 0, 3, 0, 23), (15, 0, 21, 3, 24), (0, 0, 0, 0, 27),
  (17, 0, 22, 0, 28), (1, 0, 3, 0, 31), (40, 0, 130, 113, 32), (53, 0, 0, 0, 35)]
def xc152 : List xI := [
  (2, 0, 0, 0, 0), (2, 0, 0, 0, 1), (1, 0, 1, 0, 2), (0, 0, 0, 0, 3), (40, 0, 129, 108, 4), (1, 0, 3, 0, 7), (40, 0, 135, 123, 8), (3, 0, 4, 1, 11), (1, 0, 4, 1, 13), (15, 0, 12, 3, 15),
  (0, 0, 0, 0, 18), (51, 0, 0, 0, 19), (2, 0, 0, 0, 20), (1, 0, 1, 0, 21), (0, 3, 0, 0, 22), (40, 0, 129, 108, 23), (3, 0, 5, 1, 26), (2, 0, 0, 0, 28), (1, 0, 1, 0, 29), (1, 0, 3, 0, 30),
  (1, 0, 4, 1, 31), (40, 0, 136, 115, 33), (1, 0, 2, 0, 36), (15, 0, 26, 3, 37), (0, 0, 0, 0, 40), (17, 0, 30, 0, 41), (2, 0, 0, 0, 44), (0, 3, 0, 0, 45), (1, 0, 3, 0, 46), (40, 0, 135, 123, 47),
  (3, 0, 6, 1, 50), (1, 0, 6, 1, 52), (15, 0, 53, 3, 54), (2, 0, 0, 0, 57), (1, 0, 1, 0, 58), (40, 0, 137, 120, 59), (2, 0, 0, 0, 62), (1, 0, 1, 0, 63), (0, 2, 0, 0, 64), (0, 2, 0, 0, 65),
  (40, 0, 130, 113, 66), (2, 0, 0, 0, 69), (1, 0, 1, 0, 70), (0, 3, 0, 0, 71), (1, 0, 5, 1, 72), (40, 0, 130, 113, 74), (2, 0, 0, 0, 77), (1, 0, 1, 0, 78), (0, 4, 0, 0, 79), (0, -1, 0, 0, 80),
  (40, 0, 130, 113, 81), (0, 0, 0, 0, 84), (51, 0, 0, 0, 85), (1, 0, 2, 0, 86), (15, 0, 60, 2, 87), (2, 0, 0, 0, 90), (1, 0, 2, 0, 91), (1, 0, 3, 0, 92), (1, 0, 6, 1, 93), (40, 0, 136, 115, 95),
  (0, 1, 0, 0, 98), (51, 0, 0, 0, 99)]
def xc153 : List xI := [
  (2, 0, 0, 0, 0), (1, 0, 1, 0, 1), (0, 2, 0, 0, 2), (0, 3, 0, 0, 3), (40, 0, 130, 113, 4), (2, 0, 0, 0, 7), (1, 0, 1, 0, 8), (0, 3, 0, 0, 9), (1, 0, 2, 0, 10), (40, 0, 130, 113, 11),
  (2, 0, 0, 0, 14), (1, 0, 1, 0, 15), (0, 4, 0, 0, 16), (0, -1, 0, 0, 17), (40, 0, 130, 113, 18), (53, 0, 0, 0, 21)]
def xc154 : List xI := [
  (2, 0, 0, 0, 0), (1, 0, 1, 0, 1), (40, 0, 115, 116, 2), (15, 0, 20, 0, 5), (2, 0, 0, 0, 8), (1, 0, 1, 0, 9), (0, 2, 0, 0, 10), (40, 0, 129, 108, 11), (0, 2, 0, 0, 14), (16, 0, 20, 1, 15),
  (2, 0, 0, 0, 18), (1, 0, 1, 0, 19), (0, 0, 0, 0, 20), (40, 0, 129, 108, 21), (0, 3, 0, 0, 24), (16, 0, 20, 0, 25), (2, 0, 0, 0, 28), (1, 0, 2, 0, 29), (40, 0, 114, 105, 30), (15, 0, 22, 1, 33),
  (0, -1, 0, 0, 36), (50, 0, 0, 0, 37), (2, 0, 0, 0, 38), (1, 0, 1, 0, 39), (0, 7, 0, 1, 40), (40, 0, 129, 108, 42), (3, 0, 3, 0, 45), (2, 0, 0, 0, 46), (1, 0, 1, 0, 47), (2, 0, 0, 0, 48),
  (2, 0, 0, 0, 49), (1, 0, 1, 0, 50), (0, 3, 0, 0, 51), (40, 0, 129, 108, 52), (1, 0, 2, 0, 55), (40, 0, 120, 118, 56), (40, 0, 151, 124, 59), (1, 0, 2, 0, 62), (3, 0, 4, 1, 63), (2, 0, 0, 0, 65),
  (1, 0, 2, 0, 66), (40, 0, 117, 103, 67), (0, 15, 0, 1, 70), (6, 0, 0, 0, 72), (3, 0, 5, 1, 73), (0, 0, 0, 0, 75), (3, 0, 6, 1, 76), (2, 0, 0, 0, 78), (1, 0, 1, 0, 79), (1, 0, 3, 0, 80),
  (1, 0, 4, 1, 81), (40, 0, 152, 125, 83), (3, 0, 7, 1, 86), (1, 0, 7, 1, 88), (15, 0, 57, 1, 90), (0, 1, 0, 0, 93), (17, 0, 58, 0, 94), (0, 0, 0, 0, 97), (3, 0, 8, 1, 98), (1, 0, 8, 1, 100),
  (15, 0, 118, 0, 102), (2, 0, 0, 0, 105), (25, 0, 112, 96, 106), (2, 0, 0, 0, 109), (1, 0, 4, 1, 110), (40, 0, 117, 103, 112), (0, 13, 0, 1, 115), (6, 0, 0, 0, 117), (23, 0, 0, 0, 118), (28, 0, 0, 0, 119),
  (0, 1, 0, 0, 120), (6, 0, 0, 0, 121), (29, 0, 0, 0, 122), (1, 0, 6, 1, 123), (2, 0, 0, 0, 125), (25, 0, 112, 96, 126), (1, 0, 5, 1, 129), (28, 0, 0, 0, 131), (16, 0, 81, 3, 132), (0, 1, 0, 0, 135),
  (17, 0, 82, 0, 136), (0, 0, 0, 0, 139), (3, 0, 8, 1, 140), (1, 0, 8, 1, 142), (15, 0, 86, 1, 144), (17, 0, 59, 0, 147), (2, 0, 0, 0, 150), (25, 0, 112, 96, 151), (1, 0, 5, 1, 154), (0, 1, 0, 0, 156),
  (6, 0, 0, 0, 157), (1, 0, 6, 1, 158), (6, 0, 0, 0, 160), (28, 0, 0, 0, 161), (3, 0, 9, 1, 162), (5, 1, 6, 0, 164), (2, 0, 0, 0, 167), (1, 0, 1, 0, 168), (2, 0, 0, 0, 169), (1, 0, 4, 1, 170),
  (1, 0, 9, 1, 172), (40, 0, 120, 118, 174), (40, 0, 151, 124, 177), (1, 0, 9, 1, 180), (3, 0, 4, 1, 182), (2, 0, 0, 0, 184), (1, 0, 1, 0, 185), (1, 0, 3, 0, 186), (1, 0, 4, 1, 187), (40, 0, 152, 125, 189),
  (3, 0, 7, 1, 192), (1, 0, 7, 1, 194), (15, 0, 115, 1, 196), (0, 1, 0, 0, 199), (17, 0, 116, 0, 200), (0, 0, 0, 0, 203), (3, 0, 8, 1, 204), (17, 0, 59, 0, 206), (1, 0, 7, 1, 209), (15, 0, 130, 1, 211),
  (2, 0, 0, 0, 214), (1, 0, 1, 0, 215), (1, 0, 4, 1, 216), (40, 0, 153, 126, 218), (1, 0, 3, 0, 221), (15, 0, 130, 2, 222), (2, 0, 0, 0, 225), (1, 0, 3, 0, 226), (1, 0, 4, 1, 227), (40, 0, 153, 126, 229),
  (2, 0, 0, 0, 232), (1, 0, 1, 0, 233), (0, 7, 0, 1, 234), (0, -1, 0, 0, 236), (40, 0, 130, 113, 237), (1, 0, 3, 0, 240), (15, 0, 142, 2, 241), (2, 0, 0, 0, 244), (1, 0, 3, 0, 245), (0, 7, 0, 1, 246),
  (0, -1, 0, 0, 248), (40, 0, 130, 113, 249), (1, 0, 7, 1, 252), (15, 0, 146, 0, 254), (1, 0, 4, 1, 257), (17, 0, 149, 0, 259), (0, 100, 0, 1, 262), (1, 0, 4, 1, 264), (6, 0, 0, 0, 266), (50, 0, 0, 0, 267)]
def xc155 : List xI := [
  (0, 0, 0, 0, 0), (3, 0, 1, 0, 1), (1, 0, 1, 0, 2), (2, 0, 0, 0, 3), (25, 0, 112, 96, 4), (0, 1, 0, 0, 7), (28, 0, 0, 0, 8), (16, 0, 47, 3, 9), (2, 0, 0, 0, 12), (1, 0, 1, 0, 13),
  (0, 2, 0, 0, 14), (40, 0, 129, 108, 15), (15, 0, 45, 1, 18), (2, 0, 0, 0, 21), (1, 0, 1, 0, 22), (0, 0, 0, 0, 23), (40, 0, 129, 108, 24), (41, 0, 138, 114, 27), (15, 0, 20, 1, 30), (17, 0, 45, 0, 33),
  (2, 0, 0, 0, 36), (1, 0, 1, 0, 37), (0, 1, 0, 0, 38), (40, 0, 129, 108, 39), (2, 0, 0, 0, 42), (1, 0, 1, 0, 43), (0, 0, 0, 0, 44), (40, 0, 129, 108, 45), (0, 2, 0, 0, 48), (16, 0, 32, 1, 49),
  (0, 50, 0, 1, 52), (17, 0, 33, 0, 54), (0, 100, 0, 1, 57), (6, 0, 0, 0, 59), (3, 0, 2, 0, 60), (2, 0, 0, 0, 61), (1, 0, 1, 0, 62), (0, 1, 0, 0, 63), (1, 0, 2, 0, 64), (0, 1000, 0, 2, 65),
  (16, 0, 43, 5, 68), (0, 1000, 0, 2, 71), (17, 0, 44, 0, 74), (1, 0, 2, 0, 77), (40, 0, 130, 113, 78), (5, 1, 1, 0, 81), (17, 0, 2, 0, 84), (2, 0, 0, 0, 87), (25, 0, 112, 96, 88), (0, 3, 0, 0, 91),
  (2, 0, 0, 0, 92), (25, 0, 112, 96, 93), (0, 3, 0, 0, 96), (28, 0, 0, 0, 97), (0, 1, 0, 0, 98), (6, 0, 0, 0, 99), (0, 24, 0, 1, 100), (9, 0, 0, 0, 102), (29, 0, 0, 0, 103), (2, 0, 0, 0, 104),
  (25, 0, 112, 96, 105), (0, 3, 0, 0, 108), (28, 0, 0, 0, 109), (50, 0, 0, 0, 110)]
def xc156 : List xI := [
  (0, 1594, 0, 2, 0), (0, 12, 0, 1, 3), (1, 0, 1, 0, 5), (8, 0, 0, 0, 6), (6, 0, 0, 0, 7), (50, 0, 0, 0, 8)]
def xc157 : List xI := [
  (2, 0, 0, 0, 0), (25, 0, 112, 96, 1), (0, 2, 0, 0, 4), (28, 0, 0, 0, 5), (0, 3, 0, 0, 6), (16, 0, 16, 0, 7), (1, 0, 1, 0, 10), (0, 1, 0, 0, 11), (16, 0, 16, 2, 12), (1, 0, 1, 0, 15),
  (0, 8, 0, 1, 16), (16, 0, 16, 4, 18), (2, 0, 0, 0, 21), (1, 0, 2, 0, 22), (40, 0, 114, 105, 23), (15, 0, 18, 1, 26), (0, -1, 0, 0, 29), (50, 0, 0, 0, 30), (2, 0, 0, 0, 31), (2, 0, 0, 0, 32),
  (25, 0, 112, 96, 33), (0, 2, 0, 0, 36), (28, 0, 0, 0, 37), (40, 0, 156, 127, 38), (3, 0, 3, 0, 41), (2, 0, 0, 0, 42), (25, 0, 112, 96, 43), (1, 0, 3, 0, 46), (1, 0, 1, 0, 47), (29, 0, 0, 0, 48),
  (2, 0, 0, 0, 49), (25, 0, 112, 96, 50), (1, 0, 3, 0, 53), (0, 1, 0, 0, 54), (6, 0, 0, 0, 55), (1, 0, 2, 0, 56), (29, 0, 0, 0, 57), (2, 0, 0, 0, 58), (25, 0, 112, 96, 59), (1, 0, 3, 0, 62),
  (0, 2, 0, 0, 63), (6, 0, 0, 0, 64), (0, 0, 0, 0, 65), (29, 0, 0, 0, 66), (2, 0, 0, 0, 67), (25, 0, 112, 96, 68), (1, 0, 3, 0, 71), (0, 3, 0, 0, 72), (6, 0, 0, 0, 73), (0, 0, 0, 0, 74),
  (29, 0, 0, 0, 75), (2, 0, 0, 0, 76), (25, 0, 112, 96, 77), (0, 2, 0, 0, 80), (23, 0, 0, 0, 81), (28, 0, 0, 0, 82), (0, 1, 0, 0, 83), (6, 0, 0, 0, 84), (29, 0, 0, 0, 85), (2, 0, 0, 0, 86),
  (25, 0, 112, 96, 87), (0, 2, 0, 0, 90), (28, 0, 0, 0, 91), (0, 1, 0, 0, 92), (7, 0, 0, 0, 93), (50, 0, 0, 0, 94)]
def xc158 : List xI := [
  (2, 0, 0, 0, 0), (1, 0, 1, 0, 1), (40, 0, 116, 128, 2), (15, 0, 8, 0, 5), (2, 0, 0, 0, 8), (1, 0, 2, 0, 9), (40, 0, 114, 105, 10), (15, 0, 10, 1, 13), (0, -1, 0, 0, 16), (50, 0, 0, 0, 17),
  (2, 0, 0, 0, 18), (1, 0, 1, 0, 19), (40, 0, 156, 127, 20), (3, 0, 3, 0, 23), (2, 0, 0, 0, 24), (25, 0, 112, 96, 25), (1, 0, 3, 0, 28), (0, 2, 0, 0, 29), (6, 0, 0, 0, 30), (23, 0, 0, 0, 31),
  (28, 0, 0, 0, 32), (2, 0, 0, 0, 33), (2, 0, 0, 0, 34), (25, 0, 112, 96, 35), (1, 0, 3, 0, 38), (0, 1, 0, 0, 39), (6, 0, 0, 0, 40), (28, 0, 0, 0, 41), (1, 0, 2, 0, 42), (40, 0, 120, 118, 43),
  (6, 0, 0, 0, 46), (29, 0, 0, 0, 47), (2, 0, 0, 0, 48), (25, 0, 112, 96, 49), (1, 0, 3, 0, 52), (0, 1, 0, 0, 53), (6, 0, 0, 0, 54), (1, 0, 2, 0, 55), (29, 0, 0, 0, 56), (2, 0, 0, 0, 57),
  (25, 0, 112, 96, 58), (1, 0, 3, 0, 61), (0, 2, 0, 0, 62), (6, 0, 0, 0, 63), (28, 0, 0, 0, 64), (50, 0, 0, 0, 65)]
def xc159 : List xI := [
  (2, 0, 0, 0, 0), (1, 0, 1, 0, 1), (40, 0, 156, 127, 2), (3, 0, 2, 0, 5), (0, 0, 0, 0, 6), (3, 0, 3, 0, 7), (0, 0, 0, 0, 8), (3, 0, 4, 1, 9), (1, 0, 4, 1, 11), (2, 0, 0, 0, 13),
  (25, 0, 112, 96, 14), (1, 0, 2, 0, 17), (0, 3, 0, 0, 18), (6, 0, 0, 0, 19), (28, 0, 0, 0, 20), (16, 0, 37, 3, 21), (1, 0, 3, 0, 24), (2, 0, 0, 0, 25), (2, 0, 0, 0, 26), (25, 0, 112, 96, 27),
  (1, 0, 2, 0, 30), (0, 4, 0, 0, 31), (6, 0, 0, 0, 32), (1, 0, 4, 1, 33), (6, 0, 0, 0, 35), (28, 0, 0, 0, 36), (0, 0, 0, 0, 37), (40, 0, 129, 108, 38), (0, 2, 0, 0, 41), (16, 0, 32, 1, 42),
  (0, 2, 0, 0, 45), (17, 0, 33, 0, 46), (0, 1, 0, 0, 49), (6, 0, 0, 0, 50), (3, 0, 3, 0, 51), (5, 1, 4, 0, 52), (17, 0, 8, 0, 55), (1, 0, 3, 0, 58), (50, 0, 0, 0, 59)]
def xc160 : List xI := [
  (2, 0, 0, 0, 0), (1, 0, 1, 0, 1), (40, 0, 159, 129, 2), (2, 0, 0, 0, 5), (1, 0, 2, 0, 6), (0, 0, 0, 0, 7), (40, 0, 129, 108, 8), (0, 2, 0, 0, 11), (16, 0, 11, 1, 12), (0, 2, 0, 0, 15),
  (17, 0, 12, 0, 16), (0, 1, 0, 0, 19), (6, 0, 0, 0, 20), (2, 0, 0, 0, 21), (25, 0, 112, 96, 22), (2, 0, 0, 0, 25), (1, 0, 1, 0, 26), (40, 0, 156, 127, 27), (28, 0, 0, 0, 30), (16, 0, 22, 4, 31),
  (0, 1, 0, 0, 34), (17, 0, 23, 0, 35), (0, 0, 0, 0, 38), (51, 0, 0, 0, 39)]
def xc161 : List xI := [
  (2, 0, 0, 0, 0), (1, 0, 1, 0, 1), (40, 0, 156, 127, 2), (3, 0, 3, 0, 5), (2, 0, 0, 0, 6), (25, 0, 112, 96, 7), (1, 0, 3, 0, 10), (0, 4, 0, 0, 11), (6, 0, 0, 0, 12), (2, 0, 0, 0, 13),
  (25, 0, 112, 96, 14), (1, 0, 3, 0, 17), (0, 3, 0, 0, 18), (6, 0, 0, 0, 19), (28, 0, 0, 0, 20), (6, 0, 0, 0, 21), (1, 0, 2, 0, 22), (29, 0, 0, 0, 23), (2, 0, 0, 0, 24), (25, 0, 112, 96, 25),
  (1, 0, 3, 0, 28), (0, 3, 0, 0, 29), (6, 0, 0, 0, 30), (23, 0, 0, 0, 31), (28, 0, 0, 0, 32), (0, 1, 0, 0, 33), (6, 0, 0, 0, 34), (29, 0, 0, 0, 35), (2, 0, 0, 0, 36), (1, 0, 2, 0, 37),
  (0, 2, 0, 0, 38), (0, 1, 0, 0, 39), (40, 0, 130, 113, 40), (2, 0, 0, 0, 43), (1, 0, 2, 0, 44), (0, 3, 0, 0, 45), (1, 0, 1, 0, 46), (40, 0, 130, 113, 47), (2, 0, 0, 0, 50), (1, 0, 2, 0, 51),
  (0, 4, 0, 0, 52), (0, -1, 0, 0, 53), (40, 0, 130, 113, 54), (53, 0, 0, 0, 57)]
def xc162 : List xI := [
  (2, 0, 0, 0, 0), (1, 0, 1, 0, 1), (40, 0, 116, 128, 2), (15, 0, 6, 1, 5), (0, -1, 0, 0, 8), (50, 0, 0, 0, 9), (2, 0, 0, 0, 10), (25, 0, 112, 96, 11), (2, 0, 0, 0, 14), (1, 0, 1, 0, 15),
  (40, 0, 156, 127, 16), (0, 1, 0, 0, 19), (6, 0, 0, 0, 20), (28, 0, 0, 0, 21), (3, 0, 3, 0, 22), (2, 0, 0, 0, 23), (1, 0, 3, 0, 24), (1, 0, 2, 0, 25), (40, 0, 125, 107, 26), (15, 0, 28, 0, 29),
  (2, 0, 0, 0, 32), (25, 0, 112, 96, 33), (2, 0, 0, 0, 36), (1, 0, 3, 0, 37), (1, 0, 2, 0, 38), (40, 0, 119, 104, 39), (28, 0, 0, 0, 42), (17, 0, 29, 0, 43), (0, -1, 0, 0, 46), (3, 0, 4, 1, 47),
  (1, 0, 4, 1, 49), (15, 0, 37, 2, 51), (2, 0, 0, 0, 54), (1, 0, 1, 0, 55), (1, 0, 4, 1, 56), (40, 0, 160, 130, 58), (15, 0, 39, 1, 61), (0, -1, 0, 0, 64), (50, 0, 0, 0, 65), (2, 0, 0, 0, 66),
  (1, 0, 4, 1, 67), (40, 0, 137, 120, 69), (2, 0, 0, 0, 72), (1, 0, 1, 0, 73), (1, 0, 4, 1, 74), (40, 0, 161, 131, 76), (1, 0, 4, 1, 79), (50, 0, 0, 0, 81)]
def xc163 : List xI := [
  (2, 0, 0, 0, 0), (1, 0, 1, 0, 1), (40, 0, 116, 128, 2), (15, 0, 32, 0, 5), (2, 0, 0, 0, 8), (1, 0, 2, 0, 9), (40, 0, 115, 116, 10), (15, 0, 32, 0, 13), (2, 0, 0, 0, 16), (1, 0, 2, 0, 17),
  (0, 2, 0, 0, 18), (40, 0, 129, 108, 19), (0, 3, 0, 0, 22), (16, 0, 32, 1, 23), (2, 0, 0, 0, 26), (1, 0, 2, 0, 27), (0, 3, 0, 0, 28), (40, 0, 129, 108, 29), (2, 0, 0, 0, 32), (25, 0, 112, 96, 33),
  (2, 0, 0, 0, 36), (1, 0, 1, 0, 37), (40, 0, 156, 127, 38), (0, 1, 0, 0, 41), (6, 0, 0, 0, 42), (28, 0, 0, 0, 43), (16, 0, 32, 1, 44), (2, 0, 0, 0, 47), (1, 0, 1, 0, 48), (1, 0, 2, 0, 49),
  (40, 0, 160, 130, 50), (15, 0, 34, 1, 53), (0, 0, 0, 0, 56), (51, 0, 0, 0, 57), (2, 0, 0, 0, 58), (1, 0, 1, 0, 59), (1, 0, 2, 0, 60), (40, 0, 161, 131, 61), (0, 1, 0, 0, 64), (51, 0, 0, 0, 65)]
def xc164 : List xI := [
  (2, 0, 0, 0, 0), (1, 0, 1, 0, 1), (40, 0, 116, 128, 2), (15, 0, 6, 1, 5), (0, -1, 0, 0, 8), (50, 0, 0, 0, 9), (2, 0, 0, 0, 10), (1, 0, 1, 0, 11), (40, 0, 156, 127, 12), (3, 0, 2, 0, 15),
  (2, 0, 0, 0, 16), (25, 0, 112, 96, 17), (1, 0, 2, 0, 20), (0, 3, 0, 0, 21), (6, 0, 0, 0, 22), (28, 0, 0, 0, 23), (15, 0, 19, 1, 24), (0, -1, 0, 0, 27), (50, 0, 0, 0, 28), (2, 0, 0, 0, 29),
  (25, 0, 112, 96, 30), (1, 0, 2, 0, 33), (0, 4, 0, 0, 34), (6, 0, 0, 0, 35), (28, 0, 0, 0, 36), (3, 0, 3, 0, 37), (2, 0, 0, 0, 38), (2, 0, 0, 0, 39), (1, 0, 3, 0, 40), (0, 0, 0, 0, 41),
  (40, 0, 129, 108, 42), (2, 0, 0, 0, 45), (25, 0, 112, 96, 46), (1, 0, 2, 0, 49), (0, 1, 0, 0, 50), (6, 0, 0, 0, 51), (28, 0, 0, 0, 52), (40, 0, 135, 123, 53), (3, 0, 4, 1, 56), (1, 0, 4, 1, 58),
  (15, 0, 43, 3, 60), (0, -1, 0, 0, 63), (50, 0, 0, 0, 64), (2, 0, 0, 0, 65), (25, 0, 112, 96, 66), (1, 0, 2, 0, 69), (0, 3, 0, 0, 70), (6, 0, 0, 0, 71), (23, 0, 0, 0, 72), (28, 0, 0, 0, 73),
  (0, 1, 0, 0, 74), (7, 0, 0, 0, 75), (29, 0, 0, 0, 76), (0, 0, 0, 0, 77), (3, 0, 5, 1, 78), (1, 0, 5, 1, 80), (2, 0, 0, 0, 82), (25, 0, 112, 96, 83), (1, 0, 2, 0, 86), (0, 3, 0, 0, 87),
  (6, 0, 0, 0, 88), (28, 0, 0, 0, 89), (16, 0, 81, 3, 90), (2, 0, 0, 0, 93), (25, 0, 112, 96, 94), (1, 0, 2, 0, 97), (0, 4, 0, 0, 98), (6, 0, 0, 0, 99), (1, 0, 5, 1, 100), (6, 0, 0, 0, 102),
  (2, 0, 0, 0, 103), (25, 0, 112, 96, 104), (1, 0, 2, 0, 107), (0, 5, 0, 0, 108), (6, 0, 0, 0, 109), (1, 0, 5, 1, 110), (6, 0, 0, 0, 112), (28, 0, 0, 0, 113), (29, 0, 0, 0, 114), (5, 1, 5, 0, 115),
  (17, 0, 55, 0, 118), (2, 0, 0, 0, 121), (1, 0, 3, 0, 122), (2, 0, 0, 0, 123), (25, 0, 112, 96, 124), (1, 0, 2, 0, 127), (0, 1, 0, 0, 128), (6, 0, 0, 0, 129), (28, 0, 0, 0, 130), (1, 0, 4, 1, 131),
  (40, 0, 136, 115, 133), (2, 0, 0, 0, 136), (1, 0, 3, 0, 137), (0, 5, 0, 0, 138), (0, 0, 0, 0, 139), (40, 0, 130, 113, 140), (1, 0, 4, 1, 143), (50, 0, 0, 0, 145)]
def xc165 : List xI := [
  (2, 0, 0, 0, 0), (1, 0, 1, 0, 1), (40, 0, 116, 128, 2), (15, 0, 6, 0, 5), (1, 0, 2, 0, 8), (15, 0, 8, 3, 9), (0, -3, 0, 1, 12), (50, 0, 0, 0, 14), (2, 0, 0, 0, 15), (1, 0, 1, 0, 16),
  (40, 0, 156, 127, 17), (3, 0, 3, 0, 20), (1, 0, 2, 0, 21), (47, 0, 0, 7, 22), (2, 0, 0, 0, 52), (25, 0, 112, 96, 53), (1, 0, 3, 0, 56), (1, 0, 2, 0, 57), (6, 0, 0, 0, 58), (28, 0, 0, 0, 59),
  (50, 0, 0, 0, 60), (2, 0, 0, 0, 61), (1, 0, 1, 0, 62), (40, 0, 159, 129, 63), (50, 0, 0, 0, 66), (2, 0, 0, 0, 67), (25, 0, 112, 96, 68), (1, 0, 3, 0, 71), (0, 2, 0, 0, 72), (6, 0, 0, 0, 73),
  (28, 0, 0, 0, 74), (50, 0, 0, 0, 75), (1, 0, 2, 0, 76), (0, 4, 0, 0, 77), (7, 0, 0, 0, 78), (2, 0, 0, 0, 79), (25, 0, 112, 96, 80), (1, 0, 3, 0, 83), (0, 3, 0, 0, 84), (6, 0, 0, 0, 85),
  (28, 0, 0, 0, 86), (16, 0, 49, 3, 87), (2, 0, 0, 0, 90), (25, 0, 112, 96, 91), (1, 0, 3, 0, 94), (1, 0, 2, 0, 95), (6, 0, 0, 0, 96), (28, 0, 0, 0, 97), (17, 0, 50, 0, 98), (0, -1, 0, 0, 101),
  (50, 0, 0, 0, 102)]
def xc166 : List xI := [
  (2, 0, 0, 0, 0), (1, 0, 1, 0, 1), (40, 0, 114, 105, 2), (15, 0, 16, 0, 5), (1, 0, 2, 0, 8), (0, 24, 0, 1, 9), (41, 0, 113, 102, 11), (15, 0, 16, 0, 14), (1, 0, 3, 0, 17), (0, 100, 0, 1, 18),
  (41, 0, 113, 102, 20), (15, 0, 16, 0, 23), (1, 0, 4, 1, 26), (0, 100, 0, 1, 28), (41, 0, 113, 102, 30), (15, 0, 18, 1, 33), (0, 0, 0, 0, 36), (51, 0, 0, 0, 37), (2, 0, 0, 0, 38), (1, 0, 1, 0, 39),
  (40, 0, 117, 103, 40), (0, 24, 0, 1, 43), (6, 0, 0, 0, 45), (3, 0, 5, 1, 46), (2, 0, 0, 0, 48), (25, 0, 112, 96, 49), (1, 0, 5, 1, 52), (28, 0, 0, 0, 54), (15, 0, 48, 1, 55), (2, 0, 0, 0, 58),
  (25, 0, 112, 96, 59), (1, 0, 5, 1, 62), (0, 1, 0, 0, 64), (29, 0, 0, 0, 65), (0, 1, 0, 0, 66), (3, 0, 6, 1, 67), (1, 0, 6, 1, 69), (0, 48, 0, 1, 71), (16, 0, 48, 4, 73), (2, 0, 0, 0, 76),
  (25, 0, 112, 96, 77), (1, 0, 5, 1, 80), (1, 0, 6, 1, 82), (6, 0, 0, 0, 84), (0, 0, 0, 0, 85), (29, 0, 0, 0, 86), (5, 1, 6, 0, 87), (17, 0, 36, 0, 90), (2, 0, 0, 0, 93), (25, 0, 112, 96, 94),
  (1, 0, 5, 1, 97), (0, 1, 0, 0, 99), (6, 0, 0, 0, 100), (1, 0, 2, 0, 101), (6, 0, 0, 0, 102), (1, 0, 3, 0, 103), (29, 0, 0, 0, 104), (2, 0, 0, 0, 105), (25, 0, 112, 96, 106), (1, 0, 5, 1, 109),
  (0, 25, 0, 1, 111), (6, 0, 0, 0, 113), (1, 0, 2, 0, 114), (6, 0, 0, 0, 115), (1, 0, 4, 1, 116), (29, 0, 0, 0, 118), (0, 1, 0, 0, 119), (51, 0, 0, 0, 120)]
def xc167 : List xI := [
  (2, 0, 0, 0, 0), (1, 0, 1, 0, 1), (40, 0, 117, 103, 2), (0, 24, 0, 1, 5), (6, 0, 0, 0, 7), (3, 0, 3, 0, 8), (2, 0, 0, 0, 9), (1, 0, 1, 0, 10), (0, -2, 0, 1, 11), (40, 0, 128, 109, 13),
  (3, 0, 4, 1, 16), (2, 0, 0, 0, 18), (0, 0, 0, 0, 19), (26, 0, 114, 103, 20), (2, 0, 0, 0, 23), (0, -1, 0, 0, 24), (26, 0, 115, 104, 25), (2, 0, 0, 0, 28), (1, 0, 2, 0, 29), (26, 0, 116, 105, 30),
  (0, 0, 0, 0, 33), (3, 0, 5, 1, 34), (1, 0, 5, 1, 36), (0, 24, 0, 1, 38), (16, 0, 108, 3, 40), (2, 0, 0, 0, 43), (25, 0, 112, 96, 44), (1, 0, 3, 0, 47), (28, 0, 0, 0, 48), (0, 1, 0, 0, 49),
  (16, 0, 108, 1, 50), (2, 0, 0, 0, 53), (25, 0, 112, 96, 54), (1, 0, 3, 0, 57), (0, 1, 0, 0, 58), (6, 0, 0, 0, 59), (1, 0, 5, 1, 60), (6, 0, 0, 0, 62), (28, 0, 0, 0, 63), (3, 0, 6, 1, 64),
  (2, 0, 0, 0, 66), (25, 0, 112, 96, 67), (1, 0, 3, 0, 70), (0, 25, 0, 1, 71), (6, 0, 0, 0, 73), (1, 0, 5, 1, 74), (6, 0, 0, 0, 76), (28, 0, 0, 0, 77), (3, 0, 7, 1, 78), (2, 0, 0, 0, 80),
  (24, 0, 114, 103, 81), (3, 0, 8, 1, 84), (1, 0, 6, 1, 86), (15, 0, 56, 4, 88), (1, 0, 7, 1, 91), (15, 0, 96, 5, 93), (1, 0, 6, 1, 96), (15, 0, 76, 5, 98), (5, -1, 6, 0, 101), (2, 0, 0, 0, 104),
  (24, 0, 116, 105, 105), (1, 0, 4, 1, 108), (16, 0, 70, 1, 110), (2, 0, 0, 0, 113), (21, 0, 0, 0, 114), (24, 0, 114, 103, 115), (0, 1, 0, 0, 118), (6, 0, 0, 0, 119), (26, 0, 114, 103, 120), (17, 0, 76, 0, 123),
  (2, 0, 0, 0, 126), (21, 0, 0, 0, 127), (24, 0, 116, 105, 128), (0, 1, 0, 0, 131), (6, 0, 0, 0, 132), (26, 0, 116, 105, 133), (1, 0, 7, 1, 136), (15, 0, 52, 5, 138), (5, -1, 7, 0, 141), (2, 0, 0, 0, 144),
  (24, 0, 116, 105, 145), (15, 0, 89, 1, 148), (2, 0, 0, 0, 151), (21, 0, 0, 0, 152), (24, 0, 114, 103, 153), (0, 1, 0, 0, 156), (6, 0, 0, 0, 157), (26, 0, 114, 103, 158), (17, 0, 52, 0, 161), (2, 0, 0, 0, 164),
  (21, 0, 0, 0, 165), (24, 0, 116, 105, 166), (0, 1, 0, 0, 169), (7, 0, 0, 0, 170), (26, 0, 116, 105, 171), (17, 0, 52, 0, 174), (2, 0, 0, 0, 177), (24, 0, 114, 103, 178), (1, 0, 8, 1, 181), (16, 0, 106, 5, 183),
  (2, 0, 0, 0, 186), (24, 0, 115, 104, 187), (15, 0, 106, 3, 190), (2, 0, 0, 0, 193), (1, 0, 5, 1, 194), (26, 0, 115, 104, 196), (5, 1, 5, 0, 199), (17, 0, 22, 0, 202), (53, 0, 0, 0, 205)]
def xc168 : List xI := [
  (2, 0, 0, 0, 0), (1, 0, 1, 0, 1), (40, 0, 114, 105, 2), (15, 0, 16, 0, 5), (1, 0, 2, 0, 8), (15, 0, 16, 2, 9), (1, 0, 2, 0, 12), (2, 0, 0, 0, 13), (1, 0, 1, 0, 14), (0, -2, 0, 1, 15),
  (40, 0, 128, 109, 17), (16, 0, 16, 4, 20), (1, 0, 3, 0, 23), (0, 3, 0, 0, 24), (41, 0, 113, 102, 25), (15, 0, 18, 1, 28), (0, -3, 0, 1, 31), (50, 0, 0, 0, 33), (2, 0, 0, 0, 34), (1, 0, 1, 0, 35),
  (1, 0, 2, 0, 36), (40, 0, 167, 132, 37), (1, 0, 3, 0, 40), (15, 0, 27, 1, 41), (2, 0, 0, 0, 44), (24, 0, 114, 103, 45), (17, 0, 35, 0, 48), (1, 0, 3, 0, 51), (0, 1, 0, 0, 52), (16, 0, 33, 1, 53),
  (2, 0, 0, 0, 56), (24, 0, 115, 104, 57), (17, 0, 35, 0, 60), (2, 0, 0, 0, 63), (24, 0, 116, 105, 64), (50, 0, 0, 0, 67)]
def xc169 : List xI := [
  (2, 0, 0, 0, 0), (1, 0, 1, 0, 1), (40, 0, 114, 105, 2), (15, 0, 6, 1, 5), (0, -1000, 0, 2, 8), (50, 0, 0, 0, 11), (0, 0, 0, 0, 12), (3, 0, 2, 0, 13), (0, -1, 0, 0, 14), (3, 0, 3, 0, 15),
  (0, 0, 0, 0, 16), (3, 0, 4, 1, 17), (1, 0, 4, 1, 19), (2, 0, 0, 0, 21), (1, 0, 1, 0, 22), (0, -2, 0, 1, 23), (40, 0, 128, 109, 25), (16, 0, 35, 4, 28), (2, 0, 0, 0, 31), (1, 0, 1, 0, 32),
  (1, 0, 4, 1, 33), (40, 0, 167, 132, 35), (1, 0, 3, 0, 38), (15, 0, 28, 2, 39), (2, 0, 0, 0, 42), (24, 0, 114, 103, 43), (1, 0, 3, 0, 46), (16, 0, 33, 3, 47), (2, 0, 0, 0, 50), (24, 0, 114, 103, 51),
  (3, 0, 3, 0, 54), (1, 0, 4, 1, 55), (3, 0, 2, 0, 57), (5, 1, 4, 0, 58), (17, 0, 12, 0, 61), (1, 0, 2, 0, 64), (2, 0, 0, 0, 65), (1, 0, 1, 0, 66), (0, 0, 0, 0, 67), (0, 0, 0, 0, 68),
  (40, 0, 131, 110, 69), (7, 0, 0, 0, 72), (50, 0, 0, 0, 73)]
def xc170 : List xI := [
  (2, 0, 0, 0, 0), (1, 0, 1, 0, 1), (40, 0, 114, 105, 2), (15, 0, 10, 0, 5), (1, 0, 2, 0, 8), (0, -1, 0, 0, 9), (16, 0, 10, 2, 10), (1, 0, 2, 0, 13), (0, 12, 0, 1, 14), (16, 0, 12, 5, 16),
  (0, 0, 0, 0, 19), (51, 0, 0, 0, 20), (2, 0, 0, 0, 21), (25, 0, 112, 96, 22), (2, 0, 0, 0, 25), (1, 0, 1, 0, 26), (40, 0, 117, 103, 27), (0, 14, 0, 1, 30), (6, 0, 0, 0, 32), (1, 0, 2, 0, 33),
  (29, 0, 0, 0, 34), (0, 1, 0, 0, 35), (51, 0, 0, 0, 36)]
def xc171 : List xI := [
  (2, 0, 0, 0, 0), (0, 0, 0, 0, 1), (26, 0, 119, 106, 2), (0, 0, 0, 0, 5), (3, 0, 1, 0, 6), (1, 0, 1, 0, 7), (2, 0, 0, 0, 8), (25, 0, 112, 96, 9), (0, 0, 0, 0, 12), (28, 0, 0, 0, 13),
  (16, 0, 54, 3, 14), (2, 0, 0, 0, 17), (25, 0, 112, 96, 18), (2, 0, 0, 0, 21), (1, 0, 1, 0, 22), (40, 0, 117, 103, 23), (0, 14, 0, 1, 26), (6, 0, 0, 0, 28), (28, 0, 0, 0, 29), (3, 0, 2, 0, 30),
  (2, 0, 0, 0, 31), (1, 0, 1, 0, 32), (0, 0, 0, 0, 33), (0, 1, 0, 0, 34), (40, 0, 131, 110, 35), (3, 0, 3, 0, 38), (1, 0, 2, 0, 39), (15, 0, 52, 2, 40), (1, 0, 2, 0, 43), (1, 0, 3, 0, 44),
  (16, 0, 32, 1, 45), (17, 0, 52, 0, 48), (2, 0, 0, 0, 51), (25, 0, 117, 98, 52), (2, 0, 0, 0, 55), (24, 0, 119, 106, 56), (1, 0, 1, 0, 59), (29, 0, 0, 0, 60), (2, 0, 0, 0, 61), (25, 0, 118, 99, 62),
  (2, 0, 0, 0, 65), (24, 0, 119, 106, 66), (1, 0, 3, 0, 69), (1, 0, 2, 0, 70), (7, 0, 0, 0, 71), (29, 0, 0, 0, 72), (2, 0, 0, 0, 73), (21, 0, 0, 0, 74), (24, 0, 119, 106, 75), (0, 1, 0, 0, 78),
  (6, 0, 0, 0, 79), (26, 0, 119, 106, 80), (5, 1, 1, 0, 83), (17, 0, 5, 0, 86), (53, 0, 0, 0, 89)]
def xc172 : List xI := [
  (2, 0, 0, 0, 0), (1, 0, 1, 0, 1), (40, 0, 156, 127, 2), (3, 0, 2, 0, 5), (2, 0, 0, 0, 6), (25, 0, 112, 96, 7), (1, 0, 2, 0, 10), (0, 1, 0, 0, 11), (6, 0, 0, 0, 12), (28, 0, 0, 0, 13),
  (3, 0, 3, 0, 14), (0, 0, 0, 0, 15), (3, 0, 4, 1, 16), (0, 0, 0, 0, 18), (3, 0, 5, 1, 19), (0, 0, 0, 0, 21), (3, 0, 6, 1, 22), (1, 0, 6, 1, 24), (2, 0, 0, 0, 26), (24, 0, 119, 106, 27),
  (16, 0, 60, 3, 30), (2, 0, 0, 0, 33), (25, 0, 120, 100, 34), (1, 0, 6, 1, 37), (28, 0, 0, 0, 39), (3, 0, 7, 1, 40), (1, 0, 5, 1, 42), (2, 0, 0, 0, 44), (1, 0, 3, 0, 45), (2, 0, 0, 0, 46),
  (25, 0, 117, 98, 47), (1, 0, 7, 1, 50), (28, 0, 0, 0, 52), (40, 0, 120, 118, 53), (6, 0, 0, 0, 56), (3, 0, 5, 1, 57), (2, 0, 0, 0, 59), (25, 0, 117, 98, 60), (1, 0, 7, 1, 63), (28, 0, 0, 0, 65),
  (3, 0, 3, 0, 66), (1, 0, 4, 1, 67), (2, 0, 0, 0, 69), (25, 0, 118, 99, 70), (1, 0, 7, 1, 73), (28, 0, 0, 0, 75), (6, 0, 0, 0, 76), (3, 0, 4, 1, 77), (1, 0, 4, 1, 79), (15, 0, 56, 2, 81),
  (1, 0, 4, 1, 84), (2, 0, 0, 0, 86), (25, 0, 112, 96, 87), (1, 0, 2, 0, 90), (28, 0, 0, 0, 91), (16, 0, 58, 5, 92), (0, -1, 0, 0, 95), (50, 0, 0, 0, 96), (5, 1, 6, 0, 97), (17, 0, 17, 0, 100),
  (1, 0, 4, 1, 103), (15, 0, 64, 1, 105), (1, 0, 5, 1, 108), (17, 0, 65, 0, 110), (0, -1, 0, 0, 113), (50, 0, 0, 0, 114)]
def xc173 : List xI := [
  (2, 0, 0, 0, 0), (24, 0, 119, 106, 1), (0, 2, 0, 0, 4), (7, 0, 0, 0, 5), (3, 0, 1, 0, 6), (1, 0, 1, 0, 7), (15, 0, 20, 2, 8), (2, 0, 0, 0, 11), (25, 0, 120, 100, 12), (1, 0, 1, 0, 15),
  (28, 0, 0, 0, 16), (2, 0, 0, 0, 17), (25, 0, 120, 100, 18), (1, 0, 1, 0, 21), (0, 1, 0, 0, 22), (6, 0, 0, 0, 23), (28, 0, 0, 0, 24), (16, 0, 20, 5, 25), (5, -1, 1, 0, 28), (17, 0, 5, 0, 31),
  (1, 0, 1, 0, 34), (15, 0, 24, 3, 35), (0, 0, 0, 0, 38), (51, 0, 0, 0, 39), (2, 0, 0, 0, 40), (24, 0, 119, 106, 41), (0, 1, 0, 0, 44), (7, 0, 0, 0, 45), (3, 0, 2, 0, 46), (2, 0, 0, 0, 47),
  (25, 0, 120, 100, 48), (1, 0, 2, 0, 51), (28, 0, 0, 0, 52), (2, 0, 0, 0, 53), (25, 0, 120, 100, 54), (1, 0, 1, 0, 57), (28, 0, 0, 0, 58), (16, 0, 40, 3, 59), (5, -1, 2, 0, 62), (17, 0, 29, 0, 65),
  (2, 0, 0, 0, 68), (25, 0, 120, 100, 69), (1, 0, 1, 0, 72), (28, 0, 0, 0, 73), (3, 0, 3, 0, 74), (2, 0, 0, 0, 75), (25, 0, 120, 100, 76), (1, 0, 1, 0, 79), (2, 0, 0, 0, 80), (25, 0, 120, 100, 81),
  (1, 0, 2, 0, 84), (28, 0, 0, 0, 85), (29, 0, 0, 0, 86), (2, 0, 0, 0, 87), (25, 0, 120, 100, 88), (1, 0, 2, 0, 91), (1, 0, 3, 0, 92), (29, 0, 0, 0, 93), (1, 0, 1, 0, 94), (0, 1, 0, 0, 95),
  (6, 0, 0, 0, 96), (3, 0, 4, 1, 97), (2, 0, 0, 0, 99), (24, 0, 119, 106, 100), (0, 1, 0, 0, 103), (7, 0, 0, 0, 104), (3, 0, 5, 1, 105), (1, 0, 4, 1, 107), (1, 0, 5, 1, 109), (16, 0, 91, 3, 111),
  (2, 0, 0, 0, 114), (25, 0, 120, 100, 115), (1, 0, 4, 1, 118), (28, 0, 0, 0, 120), (3, 0, 6, 1, 121), (2, 0, 0, 0, 123), (25, 0, 120, 100, 124), (1, 0, 4, 1, 127), (2, 0, 0, 0, 129), (25, 0, 120, 100, 130),
  (1, 0, 5, 1, 133), (28, 0, 0, 0, 135), (29, 0, 0, 0, 136), (2, 0, 0, 0, 137), (25, 0, 120, 100, 138), (1, 0, 5, 1, 141), (1, 0, 6, 1, 143), (29, 0, 0, 0, 145), (5, 1, 4, 0, 146), (5, -1, 5, 0, 149),
  (17, 0, 67, 0, 152), (0, 1, 0, 0, 155), (51, 0, 0, 0, 156)]
def xc174 : List xI := [
  (2, 0, 0, 0, 0), (1, 0, 1, 0, 1), (40, 0, 116, 128, 2), (15, 0, 13, 0, 5), (2, 0, 0, 0, 8), (25, 0, 112, 96, 9), (2, 0, 0, 0, 12), (1, 0, 1, 0, 13), (40, 0, 156, 127, 14), (0, 3, 0, 0, 17),
  (6, 0, 0, 0, 18), (28, 0, 0, 0, 19), (15, 0, 15, 5, 20), (0, -1, 0, 0, 23), (50, 0, 0, 0, 24), (2, 0, 0, 0, 25), (40, 0, 171, 133, 26), (2, 0, 0, 0, 29), (24, 0, 119, 106, 30), (0, 7, 0, 1, 33),
  (16, 0, 23, 5, 35), (0, -1, 0, 0, 38), (50, 0, 0, 0, 39), (0, 0, 0, 0, 40), (3, 0, 2, 0, 41), (1, 0, 2, 0, 42), (2, 0, 0, 0, 43), (24, 0, 119, 106, 44), (16, 0, 46, 3, 47), (2, 0, 0, 0, 50),
  (2, 0, 0, 0, 51), (25, 0, 117, 98, 52), (1, 0, 2, 0, 55), (28, 0, 0, 0, 56), (0, -1, 0, 0, 57), (40, 0, 128, 109, 58), (2, 0, 0, 0, 61), (25, 0, 118, 99, 62), (1, 0, 2, 0, 65), (28, 0, 0, 0, 66),
  (10, 0, 0, 0, 67), (16, 0, 44, 3, 68), (0, -1, 0, 0, 71), (50, 0, 0, 0, 72), (5, 1, 2, 0, 73), (17, 0, 25, 0, 76), (0, 0, 0, 0, 79), (3, 0, 2, 0, 80), (1, 0, 2, 0, 81), (2, 0, 0, 0, 82),
  (24, 0, 119, 106, 83), (16, 0, 59, 3, 86), (2, 0, 0, 0, 89), (25, 0, 120, 100, 90), (1, 0, 2, 0, 93), (1, 0, 2, 0, 94), (29, 0, 0, 0, 95), (5, 1, 2, 0, 96), (17, 0, 48, 0, 99), (0, -1, 0, 0, 102),
  (3, 0, 2, 0, 103), (0, 1, 0, 0, 104), (3, 0, 3, 0, 105), (1, 0, 3, 0, 106), (15, 0, 101, 0, 107), (2, 0, 0, 0, 110), (1, 0, 1, 0, 111), (40, 0, 172, 134, 112), (3, 0, 4, 1, 115), (1, 0, 4, 1, 117),
  (15, 0, 97, 2, 119), (1, 0, 2, 0, 122), (15, 0, 76, 2, 123), (1, 0, 4, 1, 126), (1, 0, 2, 0, 128), (16, 0, 97, 3, 129), (1, 0, 4, 1, 132), (3, 0, 2, 0, 134), (0, 0, 0, 0, 135), (3, 0, 5, 1, 136),
  (1, 0, 5, 1, 138), (2, 0, 0, 0, 140), (24, 0, 119, 106, 141), (16, 0, 97, 3, 144), (2, 0, 0, 0, 147), (25, 0, 121, 101, 148), (1, 0, 5, 1, 151), (2, 0, 0, 0, 153), (25, 0, 117, 98, 154), (2, 0, 0, 0, 157),
  (25, 0, 120, 100, 158), (1, 0, 5, 1, 161), (28, 0, 0, 0, 163), (28, 0, 0, 0, 164), (29, 0, 0, 0, 165), (5, 1, 5, 0, 166), (17, 0, 80, 0, 169), (2, 0, 0, 0, 172), (40, 0, 173, 135, 173), (3, 0, 3, 0, 176),
  (17, 0, 63, 0, 177), (1, 0, 2, 0, 180), (15, 0, 105, 3, 181), (0, -1, 0, 0, 184), (50, 0, 0, 0, 185), (2, 0, 0, 0, 186), (2, 0, 0, 0, 187), (24, 0, 119, 106, 188), (26, 0, 123, 107, 191), (0, 0, 0, 0, 194),
  (3, 0, 4, 1, 195), (1, 0, 4, 1, 197), (2, 0, 0, 0, 199), (24, 0, 119, 106, 200), (16, 0, 125, 3, 203), (2, 0, 0, 0, 206), (25, 0, 122, 102, 207), (1, 0, 4, 1, 210), (2, 0, 0, 0, 212), (25, 0, 121, 101, 213),
  (1, 0, 4, 1, 216), (28, 0, 0, 0, 218), (29, 0, 0, 0, 219), (5, 1, 4, 0, 220), (17, 0, 111, 0, 223), (1, 0, 2, 0, 226), (50, 0, 0, 0, 227)]
def xc175 : List xI := [
  (1, 0, 1, 0, 0), (2, 0, 0, 0, 1), (24, 0, 123, 107, 2), (41, 0, 113, 102, 5), (15, 0, 10, 0, 8), (2, 0, 0, 0, 11), (25, 0, 122, 102, 12), (1, 0, 1, 0, 15), (28, 0, 0, 0, 16), (17, 0, 11, 0, 17),
  (0, -1, 0, 0, 20), (50, 0, 0, 0, 21)]
def xc176 : List xI := [
  (0, 0, 0, 0, 0), (3, 0, 2, 0, 1), (0, 0, 0, 0, 2), (3, 0, 3, 0, 3), (1, 0, 3, 0, 4), (2, 0, 0, 0, 5), (24, 0, 119, 106, 6), (16, 0, 21, 3, 9), (2, 0, 0, 0, 12), (25, 0, 117, 98, 13),
  (1, 0, 3, 0, 16), (28, 0, 0, 0, 17), (1, 0, 1, 0, 18), (16, 0, 19, 1, 19), (2, 0, 0, 0, 22), (25, 0, 118, 99, 23), (1, 0, 3, 0, 26), (28, 0, 0, 0, 27), (3, 0, 2, 0, 28), (5, 1, 3, 0, 29),
  (17, 0, 4, 0, 32), (1, 0, 2, 0, 35), (50, 0, 0, 0, 36)]
def xc177 : List xI := [
  (2, 0, 0, 0, 0), (1, 0, 1, 0, 1), (40, 0, 174, 136, 2), (3, 0, 2, 0, 5), (1, 0, 2, 0, 6), (15, 0, 8, 3, 7), (0, -1, 0, 0, 10), (50, 0, 0, 0, 11), (0, 0, 0, 0, 12), (3, 0, 3, 0, 13),
  (1, 0, 3, 0, 14), (2, 0, 0, 0, 15), (24, 0, 123, 107, 16), (16, 0, 74, 3, 19), (2, 0, 0, 0, 22), (25, 0, 122, 102, 23), (1, 0, 3, 0, 26), (28, 0, 0, 0, 27), (3, 0, 4, 1, 28), (2, 0, 0, 0, 30),
  (1, 0, 1, 0, 31), (1, 0, 4, 1, 32), (40, 0, 158, 137, 34), (3, 0, 5, 1, 37), (2, 0, 0, 0, 39), (1, 0, 4, 1, 40), (40, 0, 176, 138, 42), (3, 0, 6, 1, 45), (0, 0, 0, 0, 47), (3, 0, 7, 1, 48),
  (1, 0, 7, 1, 50), (2, 0, 0, 0, 52), (1, 0, 4, 1, 53), (40, 0, 118, 106, 55), (16, 0, 62, 3, 58), (1, 0, 6, 1, 61), (15, 0, 62, 5, 63), (2, 0, 0, 0, 66), (25, 0, 112, 96, 67), (2, 0, 0, 0, 70),
  (1, 0, 4, 1, 71), (1, 0, 7, 1, 73), (40, 0, 119, 104, 75), (28, 0, 0, 0, 78), (3, 0, 8, 1, 79), (1, 0, 8, 1, 81), (15, 0, 60, 2, 83), (2, 0, 0, 0, 86), (1, 0, 8, 1, 87), (0, 0, 0, 0, 89),
  (40, 0, 129, 108, 90), (0, 2, 0, 0, 93), (16, 0, 54, 1, 94), (17, 0, 60, 0, 97), (2, 0, 0, 0, 100), (1, 0, 1, 0, 101), (1, 0, 7, 1, 102), (40, 0, 162, 139, 104), (3, 0, 8, 1, 107), (5, -1, 6, 0, 109),
  (5, 1, 7, 0, 112), (17, 0, 30, 0, 115), (1, 0, 6, 1, 118), (15, 0, 72, 3, 120), (1, 0, 5, 1, 123), (15, 0, 72, 2, 125), (2, 0, 0, 0, 128), (1, 0, 1, 0, 129), (40, 0, 164, 140, 130), (3, 0, 5, 1, 133),
  (5, 1, 6, 0, 135), (17, 0, 62, 0, 138), (5, 1, 3, 0, 141), (17, 0, 10, 0, 144), (1, 0, 2, 0, 147), (50, 0, 0, 0, 148)]
def xc178 : List xI := [
  (1, 0, 1, 0, 0), (0, 4, 0, 0, 1), (41, 0, 113, 102, 2), (15, 0, 6, 1, 5), (0, 0, 0, 0, 8), (51, 0, 0, 0, 9), (2, 0, 0, 0, 10), (25, 0, 113, 97, 11), (1, 0, 1, 0, 14), (0, 1, 0, 0, 15),
  (34, 0, 0, 0, 16), (0, 0, 0, 0, 17), (3, 0, 2, 0, 18), (1, 0, 2, 0, 19), (0, 1640, 0, 2, 20), (16, 0, 32, 3, 23), (2, 0, 0, 0, 26), (25, 0, 112, 96, 27), (0, 1640, 0, 2, 30), (1, 0, 1, 0, 33),
  (0, 1, 0, 0, 34), (6, 0, 0, 0, 35), (8, 0, 0, 0, 36), (1, 0, 2, 0, 37), (6, 0, 0, 0, 38), (2, 0, 0, 0, 39), (25, 0, 112, 96, 40), (1, 0, 2, 0, 43), (28, 0, 0, 0, 44), (29, 0, 0, 0, 45),
  (5, 1, 2, 0, 46), (17, 0, 13, 0, 49), (0, 1, 0, 0, 52), (51, 0, 0, 0, 53)]
def xc179 : List xI := [
  (1, 0, 1, 0, 0), (0, 4, 0, 0, 1), (41, 0, 113, 102, 2), (15, 0, 9, 0, 5), (2, 0, 0, 0, 8), (25, 0, 113, 97, 9), (1, 0, 1, 0, 12), (33, 0, 0, 0, 13), (15, 0, 11, 1, 14), (0, 0, 0, 0, 17),
  (51, 0, 0, 0, 18), (0, 0, 0, 0, 19), (3, 0, 2, 0, 20), (1, 0, 2, 0, 21), (0, 1640, 0, 2, 22), (16, 0, 32, 3, 25), (2, 0, 0, 0, 28), (25, 0, 112, 96, 29), (1, 0, 2, 0, 32), (2, 0, 0, 0, 33),
  (25, 0, 112, 96, 34), (0, 1640, 0, 2, 37), (1, 0, 1, 0, 40), (0, 1, 0, 0, 41), (6, 0, 0, 0, 42), (8, 0, 0, 0, 43), (1, 0, 2, 0, 44), (6, 0, 0, 0, 45), (28, 0, 0, 0, 46), (29, 0, 0, 0, 47),
  (5, 1, 2, 0, 48), (17, 0, 13, 0, 51), (0, 1, 0, 0, 54), (51, 0, 0, 0, 55)]
def xc180 : List xI := [
  (0, 0, 0, 0, 0), (3, 0, 2, 0, 1), (1, 0, 1, 0, 2), (47, 0, 0, 8, 3), (2, 0, 0, 0, 52), (25, 0, 112, 96, 53), (1, 0, 1, 0, 56), (28, 0, 0, 0, 57), (50, 0, 0, 0, 58), (0, 0, 0, 0, 59),
  (3, 0, 3, 0, 60), (1, 0, 3, 0, 61), (2, 0, 0, 0, 62), (25, 0, 112, 96, 63), (0, 1, 0, 0, 66), (28, 0, 0, 0, 67), (16, 0, 33, 3, 68), (1, 0, 2, 0, 71), (2, 0, 0, 0, 72), (1, 0, 3, 0, 73),
  (0, 2, 0, 0, 74), (40, 0, 129, 108, 75), (1, 0, 1, 0, 78), (0, 3, 0, 0, 79), (7, 0, 0, 0, 80), (16, 0, 28, 1, 81), (0, 1, 0, 0, 84), (17, 0, 29, 0, 85), (0, 0, 0, 0, 88), (6, 0, 0, 0, 89),
  (3, 0, 2, 0, 90), (5, 1, 3, 0, 91), (17, 0, 11, 0, 94), (1, 0, 2, 0, 97), (50, 0, 0, 0, 98), (0, 0, 0, 0, 99), (3, 0, 3, 0, 100), (1, 0, 3, 0, 101), (2, 0, 0, 0, 102), (25, 0, 112, 96, 103),
  (0, 1, 0, 0, 106), (28, 0, 0, 0, 107), (16, 0, 57, 3, 108), (1, 0, 2, 0, 111), (2, 0, 0, 0, 112), (1, 0, 3, 0, 113), (0, 6, 0, 1, 114), (40, 0, 129, 108, 116), (0, 2, 0, 0, 119), (16, 0, 52, 1, 120),
  (0, 1, 0, 0, 123), (17, 0, 53, 0, 124), (0, 0, 0, 0, 127), (6, 0, 0, 0, 128), (3, 0, 2, 0, 129), (5, 1, 3, 0, 130), (17, 0, 37, 0, 133), (1, 0, 2, 0, 136), (50, 0, 0, 0, 137), (2, 0, 0, 0, 138),
  (25, 0, 112, 96, 139), (0, 3, 0, 0, 142), (28, 0, 0, 0, 143), (50, 0, 0, 0, 144), (0, -1, 0, 0, 145), (50, 0, 0, 0, 146)]
def xc181 : List xI := [
  (35, 0, 6, 6, 0), (21, 0, 0, 0, 3), (42, 0, 77, 141, 4), (4, 0, 1, 0, 7), (35, 0, 7, 7, 8), (21, 0, 0, 0, 11), (42, 0, 112, 142, 12), (4, 0, 2, 0, 15), (0, 0, 0, 0, 16), (3, 0, 3, 0, 17),
  (1, 0, 3, 0, 18), (2, 0, 0, 0, 19), (55, 0, 0, 0, 20), (0, 5, 0, 0, 21), (7, 0, 0, 0, 22), (16, 0, 853, 4, 23), (2, 0, 0, 0, 26), (1, 0, 3, 0, 27), (54, 0, 0, 0, 28), (0, 63, 0, 1, 29),
  (11, 0, 0, 0, 31), (47, 0, 0, 9, 32), (2, 0, 1, 0, 180), (2, 0, 0, 0, 181), (1, 0, 3, 0, 182), (0, 1, 0, 0, 183), (6, 0, 0, 0, 184), (54, 0, 0, 0, 185), (40, 0, 78, 143, 186), (2, 0, 2, 0, 189),
  (2, 0, 0, 0, 190), (1, 0, 3, 0, 191), (0, 1, 0, 0, 192), (6, 0, 0, 0, 193), (54, 0, 0, 0, 194), (40, 0, 121, 144, 195), (16, 0, 851, 0, 198), (0, 0, 0, 0, 201), (51, 0, 0, 0, 202), (2, 0, 1, 0, 203),
  (2, 0, 0, 0, 204), (1, 0, 3, 0, 205), (0, 1, 0, 0, 206), (6, 0, 0, 0, 207), (54, 0, 0, 0, 208), (2, 0, 0, 0, 209), (1, 0, 3, 0, 210), (0, 2, 0, 0, 211), (6, 0, 0, 0, 212), (54, 0, 0, 0, 213),
  (2, 0, 0, 0, 214), (1, 0, 3, 0, 215), (0, 3, 0, 0, 216), (6, 0, 0, 0, 217), (54, 0, 0, 0, 218), (40, 0, 79, 145, 219), (22, 0, 0, 0, 222), (2, 0, 2, 0, 223), (2, 0, 0, 0, 224), (1, 0, 3, 0, 225),
  (0, 1, 0, 0, 226), (6, 0, 0, 0, 227), (54, 0, 0, 0, 228), (2, 0, 0, 0, 229), (1, 0, 3, 0, 230), (0, 2, 0, 0, 231), (6, 0, 0, 0, 232), (54, 0, 0, 0, 233), (2, 0, 0, 0, 234), (1, 0, 3, 0, 235),
  (0, 3, 0, 0, 236), (6, 0, 0, 0, 237), (54, 0, 0, 0, 238), (40, 0, 122, 146, 239), (22, 0, 0, 0, 242), (17, 0, 851, 0, 243), (2, 0, 1, 0, 246), (2, 0, 0, 0, 247), (1, 0, 3, 0, 248), (0, 1, 0, 0, 249),
  (6, 0, 0, 0, 250), (54, 0, 0, 0, 251), (2, 0, 0, 0, 252), (1, 0, 3, 0, 253), (0, 2, 0, 0, 254), (6, 0, 0, 0, 255), (54, 0, 0, 0, 256), (40, 0, 80, 147, 257), (22, 0, 0, 0, 260), (2, 0, 2, 0, 261),
  (2, 0, 0, 0, 262), (1, 0, 3, 0, 263), (0, 1, 0, 0, 264), (6, 0, 0, 0, 265), (54, 0, 0, 0, 266), (2, 0, 0, 0, 267), (1, 0, 3, 0, 268), (0, 2, 0, 0, 269), (6, 0, 0, 0, 270), (54, 0, 0, 0, 271),
  (40, 0, 123, 148, 272), (22, 0, 0, 0, 275), (17, 0, 851, 0, 276), (2, 0, 1, 0, 279), (2, 0, 0, 0, 280), (1, 0, 3, 0, 281), (0, 1, 0, 0, 282), (6, 0, 0, 0, 283), (54, 0, 0, 0, 284), (2, 0, 0, 0, 285),
  (1, 0, 3, 0, 286), (0, 2, 0, 0, 287), (6, 0, 0, 0, 288), (54, 0, 0, 0, 289), (40, 0, 81, 149, 290), (22, 0, 0, 0, 293), (2, 0, 2, 0, 294), (2, 0, 0, 0, 295), (1, 0, 3, 0, 296), (0, 1, 0, 0, 297),
  (6, 0, 0, 0, 298), (54, 0, 0, 0, 299), (2, 0, 0, 0, 300), (1, 0, 3, 0, 301), (0, 2, 0, 0, 302), (6, 0, 0, 0, 303), (54, 0, 0, 0, 304), (40, 0, 124, 150, 305), (22, 0, 0, 0, 308), (17, 0, 851, 0, 309),
  (2, 0, 1, 0, 312), (2, 0, 0, 0, 313), (1, 0, 3, 0, 314), (0, 1, 0, 0, 315), (6, 0, 0, 0, 316), (54, 0, 0, 0, 317), (2, 0, 0, 0, 318), (1, 0, 3, 0, 319), (0, 2, 0, 0, 320), (6, 0, 0, 0, 321),
  (54, 0, 0, 0, 322), (2, 0, 0, 0, 323), (1, 0, 3, 0, 324), (0, 3, 0, 0, 325), (6, 0, 0, 0, 326), (54, 0, 0, 0, 327), (15, 0, 149, 0, 328), (0, 1, 0, 0, 331), (17, 0, 150, 0, 332), (0, 0, 0, 0, 335),
  (40, 0, 82, 151, 336), (22, 0, 0, 0, 339), (2, 0, 2, 0, 340), (2, 0, 0, 0, 341), (1, 0, 3, 0, 342), (0, 1, 0, 0, 343), (6, 0, 0, 0, 344), (54, 0, 0, 0, 345), (2, 0, 0, 0, 346), (1, 0, 3, 0, 347),
  (0, 2, 0, 0, 348), (6, 0, 0, 0, 349), (54, 0, 0, 0, 350), (2, 0, 0, 0, 351), (1, 0, 3, 0, 352), (0, 3, 0, 0, 353), (6, 0, 0, 0, 354), (54, 0, 0, 0, 355), (15, 0, 171, 0, 356), (0, 1, 0, 0, 359),
  (17, 0, 172, 0, 360), (0, 0, 0, 0, 363), (40, 0, 126, 152, 364), (22, 0, 0, 0, 367), (17, 0, 851, 0, 368), (2, 0, 1, 0, 371), (2, 0, 0, 0, 372), (1, 0, 3, 0, 373), (0, 1, 0, 0, 374), (6, 0, 0, 0, 375),
  (54, 0, 0, 0, 376), (2, 0, 0, 0, 377), (1, 0, 3, 0, 378), (0, 2, 0, 0, 379), (6, 0, 0, 0, 380), (54, 0, 0, 0, 381), (40, 0, 83, 153, 382), (22, 0, 0, 0, 385), (2, 0, 2, 0, 386), (2, 0, 0, 0, 387),
  (1, 0, 3, 0, 388), (0, 1, 0, 0, 389), (6, 0, 0, 0, 390), (54, 0, 0, 0, 391), (2, 0, 0, 0, 392), (1, 0, 3, 0, 393), (0, 2, 0, 0, 394), (6, 0, 0, 0, 395), (54, 0, 0, 0, 396), (40, 0, 127, 154, 397),
  (22, 0, 0, 0, 400), (17, 0, 851, 0, 401), (2, 0, 1, 0, 404), (2, 0, 0, 0, 405), (1, 0, 3, 0, 406), (0, 1, 0, 0, 407), (6, 0, 0, 0, 408), (54, 0, 0, 0, 409), (2, 0, 0, 0, 410), (1, 0, 3, 0, 411),
  (0, 2, 0, 0, 412), (6, 0, 0, 0, 413), (54, 0, 0, 0, 414), (40, 0, 84, 155, 415), (22, 0, 0, 0, 418), (2, 0, 2, 0, 419), (2, 0, 0, 0, 420), (1, 0, 3, 0, 421), (0, 1, 0, 0, 422), (6, 0, 0, 0, 423),
  (54, 0, 0, 0, 424), (2, 0, 0, 0, 425), (1, 0, 3, 0, 426), (0, 2, 0, 0, 427), (6, 0, 0, 0, 428), (54, 0, 0, 0, 429), (40, 0, 132, 156, 430), (22, 0, 0, 0, 433), (17, 0, 851, 0, 434), (2, 0, 1, 0, 437),
  (2, 0, 0, 0, 438), (1, 0, 3, 0, 439), (0, 1, 0, 0, 440), (6, 0, 0, 0, 441), (54, 0, 0, 0, 442), (2, 0, 0, 0, 443), (1, 0, 3, 0, 444), (0, 2, 0, 0, 445), (6, 0, 0, 0, 446), (54, 0, 0, 0, 447),
  (2, 0, 0, 0, 448), (1, 0, 3, 0, 449), (0, 3, 0, 0, 450), (6, 0, 0, 0, 451), (54, 0, 0, 0, 452), (40, 0, 85, 157, 453), (22, 0, 0, 0, 456), (2, 0, 2, 0, 457), (2, 0, 0, 0, 458), (1, 0, 3, 0, 459),
  (0, 1, 0, 0, 460), (6, 0, 0, 0, 461), (54, 0, 0, 0, 462), (2, 0, 0, 0, 463), (1, 0, 3, 0, 464), (0, 2, 0, 0, 465), (6, 0, 0, 0, 466), (54, 0, 0, 0, 467), (2, 0, 0, 0, 468), (1, 0, 3, 0, 469),
  (0, 3, 0, 0, 470), (6, 0, 0, 0, 471), (54, 0, 0, 0, 472), (40, 0, 139, 158, 473), (22, 0, 0, 0, 476), (17, 0, 851, 0, 477), (2, 0, 1, 0, 480), (2, 0, 0, 0, 481), (1, 0, 3, 0, 482), (0, 1, 0, 0, 483),
  (6, 0, 0, 0, 484), (54, 0, 0, 0, 485), (2, 0, 0, 0, 486), (1, 0, 3, 0, 487), (0, 2, 0, 0, 488), (6, 0, 0, 0, 489), (54, 0, 0, 0, 490), (40, 0, 86, 159, 491), (22, 0, 0, 0, 494), (2, 0, 2, 0, 495),
  (2, 0, 0, 0, 496), (1, 0, 3, 0, 497), (0, 1, 0, 0, 498), (6, 0, 0, 0, 499), (54, 0, 0, 0, 500), (2, 0, 0, 0, 501), (1, 0, 3, 0, 502), (0, 2, 0, 0, 503), (6, 0, 0, 0, 504), (54, 0, 0, 0, 505),
  (40, 0, 141, 160, 506), (22, 0, 0, 0, 509), (17, 0, 851, 0, 510), (2, 0, 1, 0, 513), (2, 0, 0, 0, 514), (1, 0, 3, 0, 515), (0, 1, 0, 0, 516), (6, 0, 0, 0, 517), (54, 0, 0, 0, 518), (2, 0, 0, 0, 519),
  (1, 0, 3, 0, 520), (0, 2, 0, 0, 521), (6, 0, 0, 0, 522), (54, 0, 0, 0, 523), (40, 0, 87, 161, 524), (22, 0, 0, 0, 527), (2, 0, 2, 0, 528), (2, 0, 0, 0, 529), (1, 0, 3, 0, 530), (0, 1, 0, 0, 531),
  (6, 0, 0, 0, 532), (54, 0, 0, 0, 533), (2, 0, 0, 0, 534), (1, 0, 3, 0, 535), (0, 2, 0, 0, 536), (6, 0, 0, 0, 537), (54, 0, 0, 0, 538), (40, 0, 142, 162, 539), (22, 0, 0, 0, 542), (17, 0, 851, 0, 543),
  (2, 0, 1, 0, 546), (2, 0, 0, 0, 547), (1, 0, 3, 0, 548), (0, 1, 0, 0, 549), (6, 0, 0, 0, 550), (54, 0, 0, 0, 551), (40, 0, 88, 163, 552), (22, 0, 0, 0, 555), (2, 0, 2, 0, 556), (2, 0, 0, 0, 557),
  (1, 0, 3, 0, 558), (0, 1, 0, 0, 559), (6, 0, 0, 0, 560), (54, 0, 0, 0, 561), (40, 0, 143, 164, 562), (22, 0, 0, 0, 565), (17, 0, 851, 0, 566), (2, 0, 1, 0, 569), (2, 0, 0, 0, 570), (1, 0, 3, 0, 571),
  (0, 1, 0, 0, 572), (6, 0, 0, 0, 573), (54, 0, 0, 0, 574), (40, 0, 89, 165, 575), (22, 0, 0, 0, 578), (2, 0, 2, 0, 579), (2, 0, 0, 0, 580), (1, 0, 3, 0, 581), (0, 1, 0, 0, 582), (6, 0, 0, 0, 583),
  (54, 0, 0, 0, 584), (40, 0, 144, 166, 585), (22, 0, 0, 0, 588), (17, 0, 851, 0, 589), (2, 0, 1, 0, 592), (2, 0, 0, 0, 593), (1, 0, 3, 0, 594), (0, 1, 0, 0, 595), (6, 0, 0, 0, 596), (54, 0, 0, 0, 597),
  (40, 0, 90, 167, 598), (22, 0, 0, 0, 601), (2, 0, 2, 0, 602), (2, 0, 0, 0, 603), (1, 0, 3, 0, 604), (0, 1, 0, 0, 605), (6, 0, 0, 0, 606), (54, 0, 0, 0, 607), (40, 0, 145, 168, 608), (22, 0, 0, 0, 611),
  (17, 0, 851, 0, 612), (2, 0, 1, 0, 615), (2, 0, 0, 0, 616), (1, 0, 3, 0, 617), (0, 1, 0, 0, 618), (6, 0, 0, 0, 619), (54, 0, 0, 0, 620), (2, 0, 0, 0, 621), (1, 0, 3, 0, 622), (0, 2, 0, 0, 623),
  (6, 0, 0, 0, 624), (54, 0, 0, 0, 625), (40, 0, 91, 169, 626), (22, 0, 0, 0, 629), (2, 0, 2, 0, 630), (2, 0, 0, 0, 631), (1, 0, 3, 0, 632), (0, 1, 0, 0, 633), (6, 0, 0, 0, 634), (54, 0, 0, 0, 635),
  (2, 0, 0, 0, 636), (1, 0, 3, 0, 637), (0, 2, 0, 0, 638), (6, 0, 0, 0, 639), (54, 0, 0, 0, 640), (40, 0, 146, 170, 641), (22, 0, 0, 0, 644), (17, 0, 851, 0, 645), (2, 0, 1, 0, 648), (2, 0, 0, 0, 649),
  (1, 0, 3, 0, 650), (0, 1, 0, 0, 651), (6, 0, 0, 0, 652), (54, 0, 0, 0, 653), (2, 0, 0, 0, 654), (1, 0, 3, 0, 655), (0, 2, 0, 0, 656), (6, 0, 0, 0, 657), (54, 0, 0, 0, 658), (2, 0, 0, 0, 659),
  (1, 0, 3, 0, 660), (0, 3, 0, 0, 661), (6, 0, 0, 0, 662), (54, 0, 0, 0, 663), (40, 0, 92, 171, 664), (22, 0, 0, 0, 667), (2, 0, 2, 0, 668), (2, 0, 0, 0, 669), (1, 0, 3, 0, 670), (0, 1, 0, 0, 671),
  (6, 0, 0, 0, 672), (54, 0, 0, 0, 673), (2, 0, 0, 0, 674), (1, 0, 3, 0, 675), (0, 2, 0, 0, 676), (6, 0, 0, 0, 677), (54, 0, 0, 0, 678), (2, 0, 0, 0, 679), (1, 0, 3, 0, 680), (0, 3, 0, 0, 681),
  (6, 0, 0, 0, 682), (54, 0, 0, 0, 683), (40, 0, 150, 172, 684), (22, 0, 0, 0, 687), (17, 0, 851, 0, 688), (2, 0, 1, 0, 691), (2, 0, 0, 0, 692), (1, 0, 3, 0, 693), (0, 1, 0, 0, 694), (6, 0, 0, 0, 695),
  (54, 0, 0, 0, 696), (2, 0, 0, 0, 697), (1, 0, 3, 0, 698), (0, 2, 0, 0, 699), (6, 0, 0, 0, 700), (54, 0, 0, 0, 701), (40, 0, 93, 173, 702), (22, 0, 0, 0, 705), (2, 0, 2, 0, 706), (2, 0, 0, 0, 707),
  (1, 0, 3, 0, 708), (0, 1, 0, 0, 709), (6, 0, 0, 0, 710), (54, 0, 0, 0, 711), (2, 0, 0, 0, 712), (1, 0, 3, 0, 713), (0, 2, 0, 0, 714), (6, 0, 0, 0, 715), (54, 0, 0, 0, 716), (40, 0, 154, 174, 717),
  (22, 0, 0, 0, 720), (17, 0, 851, 0, 721), (2, 0, 1, 0, 724), (40, 0, 94, 175, 725), (22, 0, 0, 0, 728), (2, 0, 2, 0, 729), (40, 0, 155, 176, 730), (22, 0, 0, 0, 733), (17, 0, 851, 0, 734), (2, 0, 1, 0, 737),
  (2, 0, 0, 0, 738), (1, 0, 3, 0, 739), (0, 1, 0, 0, 740), (6, 0, 0, 0, 741), (54, 0, 0, 0, 742), (2, 0, 0, 0, 743), (1, 0, 3, 0, 744), (0, 2, 0, 0, 745), (6, 0, 0, 0, 746), (54, 0, 0, 0, 747),
  (40, 0, 95, 177, 748), (22, 0, 0, 0, 751), (2, 0, 2, 0, 752), (2, 0, 0, 0, 753), (1, 0, 3, 0, 754), (0, 1, 0, 0, 755), (6, 0, 0, 0, 756), (54, 0, 0, 0, 757), (2, 0, 0, 0, 758), (1, 0, 3, 0, 759),
  (0, 2, 0, 0, 760), (6, 0, 0, 0, 761), (54, 0, 0, 0, 762), (40, 0, 157, 178, 763), (22, 0, 0, 0, 766), (17, 0, 851, 0, 767), (2, 0, 1, 0, 770), (2, 0, 0, 0, 771), (1, 0, 3, 0, 772), (0, 1, 0, 0, 773),
  (6, 0, 0, 0, 774), (54, 0, 0, 0, 775), (2, 0, 0, 0, 776), (1, 0, 3, 0, 777), (0, 2, 0, 0, 778), (6, 0, 0, 0, 779), (54, 0, 0, 0, 780), (40, 0, 96, 179, 781), (22, 0, 0, 0, 784), (2, 0, 2, 0, 785),
  (2, 0, 0, 0, 786), (1, 0, 3, 0, 787), (0, 1, 0, 0, 788), (6, 0, 0, 0, 789), (54, 0, 0, 0, 790), (2, 0, 0, 0, 791), (1, 0, 3, 0, 792), (0, 2, 0, 0, 793), (6, 0, 0, 0, 794), (54, 0, 0, 0, 795),
  (40, 0, 158, 180, 796), (22, 0, 0, 0, 799), (17, 0, 851, 0, 800), (2, 0, 1, 0, 803), (2, 0, 0, 0, 804), (1, 0, 3, 0, 805), (0, 1, 0, 0, 806), (6, 0, 0, 0, 807), (54, 0, 0, 0, 808), (2, 0, 0, 0, 809),
  (1, 0, 3, 0, 810), (0, 2, 0, 0, 811), (6, 0, 0, 0, 812), (54, 0, 0, 0, 813), (40, 0, 97, 181, 814), (22, 0, 0, 0, 817), (2, 0, 2, 0, 818), (2, 0, 0, 0, 819), (1, 0, 3, 0, 820), (0, 1, 0, 0, 821),
  (6, 0, 0, 0, 822), (54, 0, 0, 0, 823), (2, 0, 0, 0, 824), (1, 0, 3, 0, 825), (0, 2, 0, 0, 826), (6, 0, 0, 0, 827), (54, 0, 0, 0, 828), (40, 0, 162, 182, 829), (22, 0, 0, 0, 832), (17, 0, 851, 0, 833),
  (2, 0, 1, 0, 836), (2, 0, 0, 0, 837), (1, 0, 3, 0, 838), (0, 1, 0, 0, 839), (6, 0, 0, 0, 840), (54, 0, 0, 0, 841), (2, 0, 0, 0, 842), (1, 0, 3, 0, 843), (0, 2, 0, 0, 844), (6, 0, 0, 0, 845),
  (54, 0, 0, 0, 846), (40, 0, 98, 183, 847), (22, 0, 0, 0, 850), (2, 0, 2, 0, 851), (2, 0, 0, 0, 852), (1, 0, 3, 0, 853), (0, 1, 0, 0, 854), (6, 0, 0, 0, 855), (54, 0, 0, 0, 856), (2, 0, 0, 0, 857),
  (1, 0, 3, 0, 858), (0, 2, 0, 0, 859), (6, 0, 0, 0, 860), (54, 0, 0, 0, 861), (40, 0, 163, 184, 862), (22, 0, 0, 0, 865), (17, 0, 851, 0, 866), (2, 0, 1, 0, 869), (2, 0, 0, 0, 870), (1, 0, 3, 0, 871),
  (0, 1, 0, 0, 872), (6, 0, 0, 0, 873), (54, 0, 0, 0, 874), (40, 0, 99, 185, 875), (22, 0, 0, 0, 878), (2, 0, 2, 0, 879), (2, 0, 0, 0, 880), (1, 0, 3, 0, 881), (0, 1, 0, 0, 882), (6, 0, 0, 0, 883),
  (54, 0, 0, 0, 884), (40, 0, 164, 186, 885), (22, 0, 0, 0, 888), (17, 0, 851, 0, 889), (2, 0, 1, 0, 892), (2, 0, 0, 0, 893), (1, 0, 3, 0, 894), (0, 1, 0, 0, 895), (6, 0, 0, 0, 896), (54, 0, 0, 0, 897),
  (2, 0, 0, 0, 898), (1, 0, 3, 0, 899), (0, 2, 0, 0, 900), (6, 0, 0, 0, 901), (54, 0, 0, 0, 902), (40, 0, 100, 187, 903), (22, 0, 0, 0, 906), (2, 0, 2, 0, 907), (2, 0, 0, 0, 908), (1, 0, 3, 0, 909),
  (0, 1, 0, 0, 910), (6, 0, 0, 0, 911), (54, 0, 0, 0, 912), (2, 0, 0, 0, 913), (1, 0, 3, 0, 914), (0, 2, 0, 0, 915), (6, 0, 0, 0, 916), (54, 0, 0, 0, 917), (40, 0, 165, 188, 918), (22, 0, 0, 0, 921),
  (17, 0, 851, 0, 922), (2, 0, 1, 0, 925), (2, 0, 0, 0, 926), (1, 0, 3, 0, 927), (0, 1, 0, 0, 928), (6, 0, 0, 0, 929), (54, 0, 0, 0, 930), (2, 0, 0, 0, 931), (1, 0, 3, 0, 932), (0, 2, 0, 0, 933),
  (6, 0, 0, 0, 934), (54, 0, 0, 0, 935), (2, 0, 0, 0, 936), (1, 0, 3, 0, 937), (0, 3, 0, 0, 938), (6, 0, 0, 0, 939), (54, 0, 0, 0, 940), (2, 0, 0, 0, 941), (1, 0, 3, 0, 942), (0, 4, 0, 0, 943),
  (6, 0, 0, 0, 944), (54, 0, 0, 0, 945), (40, 0, 101, 189, 946), (22, 0, 0, 0, 949), (2, 0, 2, 0, 950), (2, 0, 0, 0, 951), (1, 0, 3, 0, 952), (0, 1, 0, 0, 953), (6, 0, 0, 0, 954), (54, 0, 0, 0, 955),
  (2, 0, 0, 0, 956), (1, 0, 3, 0, 957), (0, 2, 0, 0, 958), (6, 0, 0, 0, 959), (54, 0, 0, 0, 960), (2, 0, 0, 0, 961), (1, 0, 3, 0, 962), (0, 3, 0, 0, 963), (6, 0, 0, 0, 964), (54, 0, 0, 0, 965),
  (2, 0, 0, 0, 966), (1, 0, 3, 0, 967), (0, 4, 0, 0, 968), (6, 0, 0, 0, 969), (54, 0, 0, 0, 970), (40, 0, 166, 190, 971), (22, 0, 0, 0, 974), (17, 0, 851, 0, 975), (2, 0, 1, 0, 978), (2, 0, 0, 0, 979),
  (1, 0, 3, 0, 980), (0, 1, 0, 0, 981), (6, 0, 0, 0, 982), (54, 0, 0, 0, 983), (2, 0, 0, 0, 984), (1, 0, 3, 0, 985), (0, 2, 0, 0, 986), (6, 0, 0, 0, 987), (54, 0, 0, 0, 988), (2, 0, 0, 0, 989),
  (1, 0, 3, 0, 990), (0, 3, 0, 0, 991), (6, 0, 0, 0, 992), (54, 0, 0, 0, 993), (40, 0, 102, 191, 994), (22, 0, 0, 0, 997), (2, 0, 2, 0, 998), (2, 0, 0, 0, 999), (1, 0, 3, 0, 1000), (0, 1, 0, 0, 1001),
  (6, 0, 0, 0, 1002), (54, 0, 0, 0, 1003), (2, 0, 0, 0, 1004), (1, 0, 3, 0, 1005), (0, 2, 0, 0, 1006), (6, 0, 0, 0, 1007), (54, 0, 0, 0, 1008), (2, 0, 0, 0, 1009), (1, 0, 3, 0, 1010), (0, 3, 0, 0, 1011),
  (6, 0, 0, 0, 1012), (54, 0, 0, 0, 1013), (40, 0, 168, 192, 1014), (22, 0, 0, 0, 1017), (17, 0, 851, 0, 1018), (2, 0, 1, 0, 1021), (2, 0, 0, 0, 1022), (1, 0, 3, 0, 1023), (0, 1, 0, 0, 1024), (6, 0, 0, 0, 1025),
  (54, 0, 0, 0, 1026), (40, 0, 103, 193, 1027), (22, 0, 0, 0, 1030), (2, 0, 2, 0, 1031), (2, 0, 0, 0, 1032), (1, 0, 3, 0, 1033), (0, 1, 0, 0, 1034), (6, 0, 0, 0, 1035), (54, 0, 0, 0, 1036), (40, 0, 169, 194, 1037),
  (22, 0, 0, 0, 1040), (17, 0, 851, 0, 1041), (2, 0, 1, 0, 1044), (2, 0, 0, 0, 1045), (1, 0, 3, 0, 1046), (0, 1, 0, 0, 1047), (6, 0, 0, 0, 1048), (54, 0, 0, 0, 1049), (2, 0, 0, 0, 1050), (1, 0, 3, 0, 1051),
  (0, 2, 0, 0, 1052), (6, 0, 0, 0, 1053), (54, 0, 0, 0, 1054), (40, 0, 104, 195, 1055), (22, 0, 0, 0, 1058), (2, 0, 2, 0, 1059), (2, 0, 0, 0, 1060), (1, 0, 3, 0, 1061), (0, 1, 0, 0, 1062), (6, 0, 0, 0, 1063),
  (54, 0, 0, 0, 1064), (2, 0, 0, 0, 1065), (1, 0, 3, 0, 1066), (0, 2, 0, 0, 1067), (6, 0, 0, 0, 1068), (54, 0, 0, 0, 1069), (40, 0, 170, 196, 1070), (22, 0, 0, 0, 1073), (17, 0, 851, 0, 1074), (2, 0, 1, 0, 1077),
  (2, 0, 0, 0, 1078), (1, 0, 3, 0, 1079), (0, 1, 0, 0, 1080), (6, 0, 0, 0, 1081), (54, 0, 0, 0, 1082), (40, 0, 105, 197, 1083), (22, 0, 0, 0, 1086), (2, 0, 2, 0, 1087), (2, 0, 0, 0, 1088), (1, 0, 3, 0, 1089),
  (0, 1, 0, 0, 1090), (6, 0, 0, 0, 1091), (54, 0, 0, 0, 1092), (40, 0, 174, 198, 1093), (22, 0, 0, 0, 1096), (17, 0, 851, 0, 1097), (2, 0, 1, 0, 1100), (2, 0, 0, 0, 1101), (1, 0, 3, 0, 1102), (0, 1, 0, 0, 1103),
  (6, 0, 0, 0, 1104), (54, 0, 0, 0, 1105), (40, 0, 106, 199, 1106), (22, 0, 0, 0, 1109), (2, 0, 2, 0, 1110), (2, 0, 0, 0, 1111), (1, 0, 3, 0, 1112), (0, 1, 0, 0, 1113), (6, 0, 0, 0, 1114), (54, 0, 0, 0, 1115),
  (40, 0, 175, 200, 1116), (22, 0, 0, 0, 1119), (17, 0, 851, 0, 1120), (2, 0, 1, 0, 1123), (2, 0, 0, 0, 1124), (1, 0, 3, 0, 1125), (0, 1, 0, 0, 1126), (6, 0, 0, 0, 1127), (54, 0, 0, 0, 1128), (40, 0, 107, 201, 1129),
  (22, 0, 0, 0, 1132), (2, 0, 2, 0, 1133), (2, 0, 0, 0, 1134), (1, 0, 3, 0, 1135), (0, 1, 0, 0, 1136), (6, 0, 0, 0, 1137), (54, 0, 0, 0, 1138), (40, 0, 177, 202, 1139), (22, 0, 0, 0, 1142), (17, 0, 851, 0, 1143),
  (2, 0, 1, 0, 1146), (2, 0, 0, 0, 1147), (1, 0, 3, 0, 1148), (0, 1, 0, 0, 1149), (6, 0, 0, 0, 1150), (54, 0, 0, 0, 1151), (40, 0, 108, 203, 1152), (22, 0, 0, 0, 1155), (2, 0, 2, 0, 1156), (2, 0, 0, 0, 1157),
  (1, 0, 3, 0, 1158), (0, 1, 0, 0, 1159), (6, 0, 0, 0, 1160), (54, 0, 0, 0, 1161), (40, 0, 178, 204, 1162), (22, 0, 0, 0, 1165), (17, 0, 851, 0, 1166), (2, 0, 1, 0, 1169), (2, 0, 0, 0, 1170), (1, 0, 3, 0, 1171),
  (0, 1, 0, 0, 1172), (6, 0, 0, 0, 1173), (54, 0, 0, 0, 1174), (40, 0, 109, 205, 1175), (22, 0, 0, 0, 1178), (2, 0, 2, 0, 1179), (2, 0, 0, 0, 1180), (1, 0, 3, 0, 1181), (0, 1, 0, 0, 1182), (6, 0, 0, 0, 1183),
  (54, 0, 0, 0, 1184), (40, 0, 179, 206, 1185), (22, 0, 0, 0, 1188), (17, 0, 851, 0, 1189), (2, 0, 1, 0, 1192), (2, 0, 0, 0, 1193), (1, 0, 3, 0, 1194), (0, 1, 0, 0, 1195), (6, 0, 0, 0, 1196), (54, 0, 0, 0, 1197),
  (40, 0, 110, 207, 1198), (22, 0, 0, 0, 1201), (2, 0, 2, 0, 1202), (2, 0, 0, 0, 1203), (1, 0, 3, 0, 1204), (0, 1, 0, 0, 1205), (6, 0, 0, 0, 1206), (54, 0, 0, 0, 1207), (40, 0, 180, 208, 1208), (22, 0, 0, 0, 1211),
  (17, 0, 851, 0, 1212), (5, 5, 3, 0, 1215), (17, 0, 10, 0, 1218), (0, 1, 0, 0, 1221), (51, 0, 0, 0, 1222)]
abbrev XM : Type := MethodName × Nat × Nat × (Nat × Nat × Nat × Nat) × (Nat × Nat × Nat) × (Nat × Nat × Nat × Nat) × List xI
def xmt0 : List XM := [
  (⟨"WheelStands$Cart", "<init>", "(I)V"⟩, 2, 0, (1, 40, 1, 8), (2, 2, 0), (196, 195, 0, 49), xc0),
  (⟨"WheelStands$Cart", "setUp", "(II)V"⟩, 3, 0, (0, 0, 0, 0), (3, 0, 0), (550, 548, 549, 49), xc1),
  (⟨"WheelStands$Cart", "copyFrom", "(LWheelStands$Cart;)V"⟩, 2, 0, (1, 40, 0, 0), (2, 0, 0), (743, 741, 742, 49), xc2),
  (⟨"WheelStands$Cart", "hasRoomFor", "(LWheelStands$Wheel;)Z"⟩, 2, 2, (2, 40, 0, 0), (2, 0, 0), (570, 568, 569, 49), xc3),
  (⟨"WheelStands$Cart", "wheelOn", "(I)I"⟩, 2, 1, (0, 0, 0, 0), (2, 0, 0), (595, 593, 594, 49), xc4),
  (⟨"WheelStands$Cart", "takeOn", "(LWheelStands$Wheel;)V"⟩, 2, 0, (3, 61, 0, 0), (2, 0, 0), (580, 578, 579, 49), xc5),
  (⟨"WheelStands$Cart", "letFirstGo", "(LWheelStands$Wheel;)V"⟩, 3, 0, (2, 40, 0, 0), (2, 0, 0), (604, 602, 603, 49), xc6),
  (⟨"WheelStands$Demand", "<init>", "()V"⟩, 1, 0, (1, 40, 2, 48), (1, 2, 1), (79, 78, 0, 47), xc7),
  (⟨"WheelStands$Demand", "allows", "(I)Z"⟩, 1, 2, (0, 0, 0, 0), (1, 1, 1), (619, 618, 0, 47), xc8),
  (⟨"WheelStands$Demand", "forget", "()V"⟩, 2, 0, (0, 0, 0, 0), (1, 0, 1), (313, 311, 312, 47), xc9),
  (⟨"WheelStands$Demand", "copyFrom", "(LWheelStands$Demand;)V"⟩, 2, 0, (1, 40, 0, 0), (2, 0, 1), (734, 732, 733, 47), xc10),
  (⟨"WheelStands$Demand", "tellHour", "(III)Z"⟩, 4, 2, (1, 20, 0, 0), (4, 0, 1), (616, 614, 615, 47), xc11),
  (⟨"WheelStands$Demand", "runFrom", "(III)I"⟩, 10, 1, (1, 40, 0, 0), (4, 0, 1), (631, 629, 630, 47), xc12),
  (⟨"WheelStands$Demand", "bestStart", "(I)I"⟩, 6, 1, (2, 69, 0, 0), (2, 0, 1), (640, 638, 639, 47), xc13),
  (⟨"WheelStands$Stand", "<init>", "(I)V"⟩, 2, 0, (2, 60, 6, 83), (2, 2, 2), (73, 72, 0, 46), xc14),
  (⟨"WheelStands$Stand", "setUp", "(I)V"⟩, 3, 0, (1, 21, 0, 0), (2, 0, 2), (309, 307, 308, 46), xc15),
  (⟨"WheelStands$Stand", "copyFrom", "(LWheelStands$Stand;)V"⟩, 2, 0, (2, 61, 0, 0), (2, 0, 2), (727, 725, 726, 46), xc16),
  (⟨"WheelStands$Stand", "hasDock", "(I)Z"⟩, 2, 2, (0, 0, 0, 0), (2, 0, 2), (345, 343, 344, 46), xc17),
  (⟨"WheelStands$Stand", "addOther", "(I)I"⟩, 3, 1, (1, 40, 0, 0), (2, 0, 2), (329, 327, 328, 46), xc18),
  (⟨"WheelStands$Stand", "otherAt", "(I)I"⟩, 2, 1, (0, 0, 0, 0), (2, 0, 2), (520, 518, 519, 46), xc19),
  (⟨"WheelStands$Stand", "lengthTo", "(I)I"⟩, 2, 1, (0, 0, 0, 0), (2, 0, 2), (476, 474, 475, 46), xc20),
  (⟨"WheelStands$Stand", "docksWith", "(I)I"⟩, 4, 1, (0, 0, 0, 0), (2, 0, 2), (361, 359, 360, 46), xc21),
  (⟨"WheelStands$Stand", "freeDocks", "()I"⟩, 1, 1, (1, 23, 0, 0), (1, 0, 2), (357, 355, 356, 46), xc22),
  (⟨"WheelStands$Stand", "usableDocks", "()I"⟩, 1, 1, (1, 23, 0, 0), (1, 0, 2), (627, 625, 626, 46), xc23),
  (⟨"WheelStands$Stand", "isFree", "(II)Z"⟩, 3, 2, (1, 21, 0, 0), (3, 0, 2), (384, 382, 383, 46), xc24),
  (⟨"WheelStands$Stand", "roomFor", "(I)I"⟩, 3, 1, (2, 43, 0, 0), (2, 0, 2), (515, 513, 514, 46), xc25)]
def xmt1 : List XM := [
  (⟨"WheelStands$Stand", "fill", "(III)V"⟩, 5, 0, (1, 21, 0, 0), (4, 0, 2), (414, 412, 413, 46), xc26),
  (⟨"WheelStands$Tour", "<init>", "()V"⟩, 1, 0, (1, 40, 5, 1045), (1, 2, 3), (263, 262, 0, 50), xc27),
  (⟨"WheelStands$Tour", "stopAt", "(I)I"⟩, 2, 1, (0, 0, 0, 0), (2, 0, 3), (702, 700, 701, 50), xc28),
  (⟨"WheelStands$Tour", "prepare", "(LWheelStands$Town;LWheelStands$Cart;)I"⟩, 4, 1, (5, 120, 0, 0), (3, 0, 3), (653, 651, 652, 50), xc29),
  (⟨"WheelStands$Tour", "gather", "(LWheelStands$Town;)Z"⟩, 5, 2, (3, 66, 0, 0), (2, 0, 3), (657, 656, 3, 50), xc30),
  (⟨"WheelStands$Tour", "allStands", "()I"⟩, 1, 1, (0, 0, 0, 0), (1, 0, 3), (671, 670, 5, 50), xc31),
  (⟨"WheelStands$Tour", "addUpHeld", "()V"⟩, 3, 0, (1, 20, 0, 0), (1, 0, 3), (667, 666, 4, 50), xc32),
  (⟨"WheelStands$Tour", "measureLeft", "(LWheelStands$Town;I)V"⟩, 6, 0, (4, 93, 0, 0), (3, 0, 3), (675, 674, 6, 50), xc33),
  (⟨"WheelStands$Tour", "leastOnward", "(LWheelStands$Town;II)I"⟩, 6, 1, (3, 68, 0, 0), (4, 0, 3), (679, 678, 7, 50), xc34),
  (⟨"WheelStands$Tour", "onwardBy", "(LWheelStands$Town;III)I"⟩, 5, 1, (2, 44, 0, 0), (5, 0, 3), (684, 683, 8, 50), xc35),
  (⟨"WheelStands$Tour", "trace", "(LWheelStands$Town;I)V"⟩, 8, 0, (4, 93, 0, 0), (3, 0, 3), (690, 689, 9, 50), xc36),
  (⟨"WheelStands$Tour", "leadsOn", "(LWheelStands$Town;IIII)Z"⟩, 6, 2, (3, 68, 0, 0), (6, 0, 3), (694, 693, 10, 50), xc37),
  (⟨"WheelStands$Town", "<init>", "()V"⟩, 2, 0, (3, 81, 153, 1824), (1, 2, 4), (66, 65, 0, 45), xc38),
  (⟨"WheelStands$Town", "copyFrom", "(LWheelStands$Town;)V"⟩, 3, 0, (3, 82, 0, 0), (2, 0, 4), (723, 721, 722, 45), xc39),
  (⟨"WheelStands$Town", "standAt", "(I)LWheelStands$Stand;"⟩, 2, 3, (0, 0, 0, 0), (2, 0, 4), (321, 319, 320, 45), xc40),
  (⟨"WheelStands$Town", "wheelAt", "(I)LWheelStands$Wheel;"⟩, 2, 4, (0, 0, 0, 0), (2, 0, 4), (423, 421, 422, 45), xc41),
  (⟨"WheelStands$Town", "cartAt", "(I)LWheelStands$Cart;"⟩, 2, 5, (0, 0, 0, 0), (2, 0, 4), (558, 556, 557, 45), xc42),
  (⟨"WheelStands$Town", "wheelIn", "(II)LWheelStands$Wheel;"⟩, 4, 4, (1, 21, 0, 0), (3, 0, 4), (461, 459, 460, 45), xc43),
  (⟨"WheelStands$Town", "addStand", "(I)I"⟩, 2, 1, (2, 43, 0, 0), (2, 0, 4), (305, 303, 304, 45), xc44),
  (⟨"WheelStands$Town", "addWheel", "(ILWheelStands$Stand;I)I"⟩, 5, 1, (3, 68, 0, 0), (4, 0, 4), (389, 387, 388, 45), xc45),
  (⟨"WheelStands$Town", "addCart", "(II)I"⟩, 3, 1, (1, 22, 0, 0), (3, 0, 4), (546, 544, 545, 45), xc46),
  (⟨"WheelStands$Town", "wheelsIn", "(I)I"⟩, 4, 1, (0, 0, 0, 0), (2, 0, 4), (756, 754, 755, 45), xc47),
  (⟨"WheelStands$Town", "knownBroken", "()I"⟩, 3, 1, (0, 0, 0, 0), (1, 0, 4), (760, 758, 759, 45), xc48),
  (⟨"WheelStands$Town", "wheelsAt", "(II)I"⟩, 5, 1, (1, 22, 0, 0), (3, 0, 4), (365, 363, 364, 45), xc49),
  (⟨"WheelStands$Town", "movableAt", "(I)I"⟩, 4, 1, (1, 22, 0, 0), (2, 0, 4), (373, 371, 372, 45), xc50),
  (⟨"WheelStands$Town", "surplusAt", "(LWheelStands$Stand;)I"⟩, 2, 1, (2, 45, 0, 0), (2, 0, 4), (661, 659, 660, 45), xc51)]
def xmt2 : List XM := [
  (⟨"WheelStands$Town", "lengthBetween", "(II)I"⟩, 4, 1, (1, 21, 0, 0), (3, 0, 4), (472, 470, 471, 45), xc52),
  (⟨"WheelStands$Town", "nearestLength", "(I)I"⟩, 4, 1, (2, 44, 0, 0), (2, 0, 4), (468, 466, 467, 45), xc53),
  (⟨"WheelStands$Town", "putInDock", "(LWheelStands$Wheel;LWheelStands$Stand;I)V"⟩, 4, 0, (2, 45, 0, 0), (4, 0, 4), (405, 403, 404, 45), xc54),
  (⟨"WheelStands$Town", "clearDock", "(LWheelStands$Wheel;)V"⟩, 3, 0, (2, 45, 0, 0), (2, 0, 4), (499, 497, 498, 45), xc55),
  (⟨"WheelStands$Town", "lend", "(LWheelStands$Wheel;LWheelStands$Wheel;)V"⟩, 5, 0, (4, 89, 0, 0), (3, 0, 4), (491, 489, 490, 45), xc56),
  (⟨"WheelStands$Town", "lendOne", "(LWheelStands$Wheel;LWheelStands$Wheel;)V"⟩, 3, 0, (3, 67, 0, 0), (3, 0, 4), (495, 494, 0, 45), xc57),
  (⟨"WheelStands$Town", "bringBack", "(LWheelStands$Wheel;LWheelStands$Stand;)V"⟩, 9, 0, (4, 93, 0, 0), (3, 0, 4), (507, 505, 506, 45), xc58),
  (⟨"WheelStands$Town", "docksBoth", "(LWheelStands$Wheel;LWheelStands$Wheel;LWheelStands$Stand;)Z"⟩, 6, 2, (3, 68, 0, 0), (4, 0, 4), (511, 510, 1, 45), xc59),
  (⟨"WheelStands$Town", "leaveOnStreet", "(LWheelStands$Wheel;LWheelStands$Wheel;I)V"⟩, 4, 0, (1, 23, 0, 0), (4, 0, 4), (524, 523, 2, 45), xc60),
  (⟨"WheelStands$Town", "moveCart", "(LWheelStands$Cart;I)V"⟩, 3, 0, (2, 44, 0, 0), (3, 0, 4), (562, 560, 561, 45), xc61),
  (⟨"WheelStands$Town", "takeFromDock", "(LWheelStands$Cart;LWheelStands$Wheel;)V"⟩, 3, 0, (4, 82, 0, 0), (3, 0, 4), (575, 573, 574, 45), xc62),
  (⟨"WheelStands$Town", "giveFirst", "(LWheelStands$Cart;LWheelStands$Wheel;)Z"⟩, 5, 2, (3, 68, 0, 0), (3, 0, 4), (599, 597, 598, 45), xc63),
  (⟨"WheelStands$Town", "serve", "(LWheelStands$Cart;I)V"⟩, 7, 0, (5, 104, 0, 0), (3, 0, 4), (710, 708, 709, 45), xc64),
  (⟨"WheelStands$Wheel", "<init>", "(I)V"⟩, 2, 0, (1, 40, 0, 0), (2, 2, 5), (139, 138, 0, 48), xc65),
  (⟨"WheelStands$Wheel", "setUp", "(I)V"⟩, 2, 0, (1, 23, 0, 0), (2, 0, 5), (393, 391, 392, 48), xc66),
  (⟨"WheelStands$Wheel", "copyFrom", "(LWheelStands$Wheel;)V"⟩, 2, 0, (0, 0, 0, 0), (2, 0, 5), (739, 737, 738, 48), xc67),
  (⟨"WheelStands$Wheel", "moveTo", "(III)V"⟩, 4, 0, (0, 0, 0, 0), (4, 0, 5), (401, 399, 400, 48), xc68),
  (⟨"WheelStands$Wheel", "sizeOf", "(I)I"⟩, 1, 1, (0, 0, 0, 0), (1, 1, 5), (380, 379, 0, 48), xc69),
  (⟨"WheelStands$Wheel", "size", "()I"⟩, 1, 1, (1, 20, 0, 0), (1, 0, 5), (409, 407, 408, 48), xc70),
  (⟨"WheelStands$Wheel", "hasCharge", "()Z"⟩, 1, 2, (0, 0, 0, 0), (1, 0, 5), (397, 395, 396, 48), xc71),
  (⟨"WheelStands$Wheel", "chargeFor", "(I)I"⟩, 2, 1, (1, 20, 0, 0), (2, 0, 5), (487, 485, 486, 48), xc72),
  (⟨"WheelStands$Wheel", "lasts", "(I)Z"⟩, 2, 2, (2, 41, 0, 0), (2, 0, 5), (483, 481, 482, 48), xc73),
  (⟨"WheelStands$Wheel", "ride", "(I)V"⟩, 2, 0, (2, 41, 0, 0), (2, 0, 5), (528, 526, 527, 48), xc74),
  (⟨"WheelStands$Wheel", "chargeAnHour", "()V"⟩, 1, 0, (1, 40, 0, 0), (1, 0, 5), (537, 535, 536, 48), xc75),
  (⟨"WheelStands$Wheel", "isAt", "(II)Z"⟩, 3, 2, (0, 0, 0, 0), (3, 0, 5), (369, 367, 368, 48), xc76),
  (⟨"WheelStands", "<init>", "()V"⟩, 1, 0, (4, 102, 161, 2887), (1, 2, 6), (58, 57, 0, 44), xc77)]
def xmt3 : List XM := [
  (⟨"WheelStands", "stand", "(I)I"⟩, 2, 1, (3, 64, 0, 0), (2, 0, 6), (301, 299, 300, 44), xc78),
  (⟨"WheelStands", "length", "(III)Z"⟩, 6, 2, (1, 21, 0, 0), (4, 0, 6), (317, 315, 316, 44), xc79),
  (⟨"WheelStands", "next", "(II)I"⟩, 4, 1, (2, 62, 0, 0), (3, 0, 6), (325, 323, 324, 44), xc80),
  (⟨"WheelStands", "tear", "(II)Z"⟩, 4, 2, (1, 21, 0, 0), (3, 0, 6), (336, 334, 335, 44), xc81),
  (⟨"WheelStands", "block", "(IIZ)Z"⟩, 5, 2, (1, 21, 0, 0), (4, 0, 6), (341, 339, 340, 44), xc82),
  (⟨"WheelStands", "dock", "(II)I"⟩, 4, 1, (1, 21, 0, 0), (3, 0, 6), (349, 347, 348, 44), xc83),
  (⟨"WheelStands", "tell", "(II)I"⟩, 4, 1, (2, 46, 0, 0), (3, 0, 6), (353, 351, 352, 44), xc84),
  (⟨"WheelStands", "put", "(III)I"⟩, 5, 1, (4, 92, 0, 0), (4, 0, 6), (377, 375, 376, 44), xc85),
  (⟨"WheelStands", "charge", "(II)I"⟩, 5, 1, (1, 23, 0, 0), (3, 0, 6), (419, 417, 418, 44), xc86),
  (⟨"WheelStands", "wheel", "(II)I"⟩, 4, 1, (1, 21, 0, 0), (3, 0, 6), (437, 435, 436, 44), xc87),
  (⟨"WheelStands", "fault", "(I)Z"⟩, 3, 2, (1, 21, 0, 0), (2, 0, 6), (441, 439, 440, 44), xc88),
  (⟨"WheelStands", "test", "(I)I"⟩, 3, 1, (1, 21, 0, 0), (2, 0, 6), (445, 443, 444, 44), xc89),
  (⟨"WheelStands", "mend", "(I)Z"⟩, 3, 2, (1, 21, 0, 0), (2, 0, 6), (449, 447, 448, 44), xc90),
  (⟨"WheelStands", "doubt", "(II)I"⟩, 6, 1, (0, 0, 0, 0), (3, 0, 6), (453, 451, 452, 44), xc91),
  (⟨"WheelStands", "hire", "(III)I"⟩, 6, 1, (5, 113, 0, 0), (4, 0, 6), (457, 455, 456, 44), xc92),
  (⟨"WheelStands", "end", "(II)I"⟩, 5, 1, (5, 121, 0, 0), (3, 0, 6), (503, 501, 502, 44), xc93),
  (⟨"WheelStands", "hour", "()I"⟩, 2, 1, (2, 60, 0, 0), (1, 0, 6), (533, 531, 532, 44), xc94),
  (⟨"WheelStands", "cart", "(II)I"⟩, 3, 1, (2, 44, 0, 0), (3, 0, 6), (542, 540, 541, 44), xc95),
  (⟨"WheelStands", "drive", "(II)I"⟩, 4, 1, (3, 66, 0, 0), (3, 0, 6), (554, 552, 553, 44), xc96),
  (⟨"WheelStands", "pick", "(II)I"⟩, 5, 1, (5, 104, 0, 0), (3, 0, 6), (566, 564, 565, 44), xc97),
  (⟨"WheelStands", "fetch", "(II)Z"⟩, 5, 2, (4, 82, 0, 0), (3, 0, 6), (586, 584, 585, 44), xc98),
  (⟨"WheelStands", "drop", "(I)I"⟩, 4, 1, (4, 92, 0, 0), (2, 0, 6), (591, 589, 590, 44), xc99),
  (⟨"WheelStands", "load", "(II)I"⟩, 4, 1, (1, 21, 0, 0), (3, 0, 6), (608, 606, 607, 44), xc100),
  (⟨"WheelStands", "demand", "(IIII)Z"⟩, 6, 2, (2, 43, 0, 0), (5, 0, 6), (612, 610, 611, 44), xc101),
  (⟨"WheelStands", "runs", "(III)I"⟩, 5, 1, (2, 69, 0, 0), (4, 0, 6), (623, 621, 622, 44), xc102),
  (⟨"WheelStands", "shortage", "(I)I"⟩, 3, 1, (3, 94, 0, 0), (2, 0, 6), (636, 634, 635, 44), xc103)]
def xmt4 : List XM := [
  (⟨"WheelStands", "want", "(II)Z"⟩, 4, 2, (1, 21, 0, 0), (3, 0, 6), (645, 643, 644, 44), xc104),
  (⟨"WheelStands", "plan", "(I)I"⟩, 2, 1, (6, 143, 0, 0), (2, 0, 6), (649, 647, 648, 44), xc105),
  (⟨"WheelStands", "round", "(I)I"⟩, 2, 1, (1, 21, 0, 0), (2, 0, 6), (698, 696, 697, 44), xc106),
  (⟨"WheelStands", "carry", "(I)I"⟩, 5, 1, (6, 143, 0, 0), (2, 0, 6), (706, 704, 705, 44), xc107),
  (⟨"WheelStands", "image", "(I)Z"⟩, 2, 2, (4, 104, 154, 1831), (2, 0, 6), (719, 717, 718, 44), xc108),
  (⟨"WheelStands", "again", "(I)Z"⟩, 2, 2, (4, 104, 0, 0), (2, 0, 6), (748, 746, 747, 44), xc109),
  (⟨"WheelStands", "count", "(I)I"⟩, 2, 1, (1, 23, 0, 0), (2, 0, 6), (752, 750, 751, 44), xc110),
  (⟨"WheelStands", "thousandthsOf", "(I)I"⟩, 4, 1, (0, 0, 0, 0), (1, 1, 6), (427, 426, 0, 44), xc111),
  (⟨"WheelStandsModel", "<init>", "()V"⟩, 3, 0, (1, 40, 7, 8249), (1, 2, 7), (765, 764, 0, 51), xc112),
  (⟨"WheelStandsModel", "isIn", "(II)Z"⟩, 2, 2, (0, 0, 0, 0), (2, 1, 7), (827, 826, 0, 51), xc113),
  (⟨"WheelStandsModel", "isStand", "(I)Z"⟩, 2, 2, (1, 21, 0, 0), (2, 0, 7), (824, 823, 13, 51), xc114),
  (⟨"WheelStandsModel", "isWheel", "(I)Z"⟩, 2, 2, (1, 21, 0, 0), (2, 0, 7), (898, 897, 23, 51), xc115),
  (⟨"WheelStandsModel", "isCart", "(I)Z"⟩, 2, 2, (1, 21, 0, 0), (2, 0, 7), (989, 988, 34, 51), xc116),
  (⟨"WheelStandsModel", "standAt", "(I)I"⟩, 2, 1, (0, 0, 0, 0), (2, 0, 7), (812, 811, 11, 51), xc117),
  (⟨"WheelStandsModel", "docks", "(I)I"⟩, 2, 1, (1, 21, 0, 0), (2, 0, 7), (847, 846, 15, 51), xc118),
  (⟨"WheelStandsModel", "dockAt", "(II)I"⟩, 3, 1, (1, 21, 0, 0), (3, 0, 7), (816, 815, 12, 51), xc119),
  (⟨"WheelStandsModel", "far", "(II)I"⟩, 3, 1, (0, 0, 0, 0), (3, 0, 7), (937, 936, 25, 51), xc120),
  (⟨"WheelStandsModel", "stand", "(I)I"⟩, 4, 1, (2, 43, 0, 0), (2, 0, 7), (808, 806, 807, 51), xc121),
  (⟨"WheelStandsModel", "length", "(III)Z"⟩, 4, 2, (2, 42, 0, 0), (4, 0, 7), (820, 818, 819, 51), xc122),
  (⟨"WheelStandsModel", "next", "(II)I"⟩, 4, 1, (2, 42, 0, 0), (3, 0, 7), (831, 829, 830, 51), xc123),
  (⟨"WheelStandsModel", "tear", "(II)Z"⟩, 4, 2, (2, 42, 0, 0), (3, 0, 7), (835, 833, 834, 51), xc124),
  (⟨"WheelStandsModel", "isDock", "(II)Z"⟩, 3, 2, (2, 42, 0, 0), (3, 0, 7), (843, 842, 14, 51), xc125),
  (⟨"WheelStandsModel", "block", "(IIZ)Z"⟩, 5, 2, (3, 64, 0, 0), (4, 0, 7), (839, 837, 838, 51), xc126),
  (⟨"WheelStandsModel", "dock", "(II)I"⟩, 3, 1, (3, 64, 0, 0), (3, 0, 7), (851, 849, 850, 51), xc127),
  (⟨"WheelStandsModel", "countDocks", "(II)I"⟩, 6, 1, (2, 43, 0, 0), (3, 0, 7), (859, 858, 16, 51), xc128),
  (⟨"WheelStandsModel", "of", "(II)I"⟩, 3, 1, (0, 0, 0, 0), (3, 0, 7), (867, 866, 18, 51), xc129)]
def xmt5 : List XM := [
  (⟨"WheelStandsModel", "sets", "(III)V"⟩, 4, 0, (0, 0, 0, 0), (4, 0, 7), (883, 882, 21, 51), xc130),
  (⟨"WheelStandsModel", "countWheels", "(IIZ)I"⟩, 6, 1, (1, 22, 0, 0), (4, 0, 7), (863, 862, 17, 51), xc131),
  (⟨"WheelStandsModel", "tell", "(II)I"⟩, 3, 1, (3, 68, 0, 0), (3, 0, 7), (855, 853, 854, 51), xc132),
  (⟨"WheelStandsModel", "isFree", "(II)Z"⟩, 3, 2, (3, 64, 0, 0), (3, 0, 7), (879, 878, 20, 51), xc133),
  (⟨"WheelStandsModel", "fits", "(III)Z"⟩, 4, 2, (4, 86, 0, 0), (4, 0, 7), (875, 874, 19, 51), xc134),
  (⟨"WheelStandsModel", "roomFor", "(II)I"⟩, 4, 1, (5, 109, 0, 0), (3, 0, 7), (965, 964, 31, 51), xc135),
  (⟨"WheelStandsModel", "comes", "(III)V"⟩, 4, 0, (2, 43, 0, 0), (4, 0, 7), (890, 889, 22, 51), xc136),
  (⟨"WheelStandsModel", "leaves", "(I)V"⟩, 2, 0, (2, 43, 0, 0), (2, 0, 7), (949, 948, 28, 51), xc137),
  (⟨"WheelStandsModel", "hasCharge", "(I)Z"⟩, 1, 2, (0, 0, 0, 0), (1, 1, 7), (886, 885, 0, 51), xc138),
  (⟨"WheelStandsModel", "put", "(III)I"⟩, 5, 1, (5, 109, 0, 0), (4, 0, 7), (871, 869, 870, 51), xc139),
  (⟨"WheelStandsModel", "thousandths", "(I)I"⟩, 13, 1, (0, 0, 0, 0), (1, 1, 7), (901, 900, 0, 51), xc140),
  (⟨"WheelStandsModel", "charge", "(II)I"⟩, 4, 1, (2, 42, 0, 0), (3, 0, 7), (894, 892, 893, 51), xc141),
  (⟨"WheelStandsModel", "wheel", "(II)I"⟩, 4, 1, (2, 42, 0, 0), (3, 0, 7), (909, 907, 908, 51), xc142),
  (⟨"WheelStandsModel", "fault", "(I)Z"⟩, 2, 2, (2, 42, 0, 0), (2, 0, 7), (913, 911, 912, 51), xc143),
  (⟨"WheelStandsModel", "test", "(I)I"⟩, 2, 1, (2, 42, 0, 0), (2, 0, 7), (917, 915, 916, 51), xc144),
  (⟨"WheelStandsModel", "mend", "(I)Z"⟩, 2, 2, (2, 42, 0, 0), (2, 0, 7), (921, 919, 920, 51), xc145),
  (⟨"WheelStandsModel", "doubt", "(II)I"⟩, 6, 1, (1, 22, 0, 0), (3, 0, 7), (925, 923, 924, 51), xc146),
  (⟨"WheelStandsModel", "falls", "(I)I"⟩, 2, 1, (0, 0, 0, 0), (2, 0, 7), (941, 940, 26, 51), xc147),
  (⟨"WheelStandsModel", "isEnough", "(II)Z"⟩, 5, 2, (1, 22, 0, 0), (3, 0, 7), (933, 932, 24, 51), xc148),
  (⟨"WheelStandsModel", "hired", "(II)V"⟩, 3, 0, (3, 64, 0, 0), (3, 0, 7), (945, 944, 27, 51), xc149),
  (⟨"WheelStandsModel", "hire", "(III)I"⟩, 7, 1, (4, 86, 0, 0), (4, 0, 7), (929, 927, 928, 51), xc150),
  (⟨"WheelStandsModel", "goes", "(II)V"⟩, 4, 0, (1, 23, 0, 0), (3, 0, 7), (957, 956, 29, 51), xc151),
  (⟨"WheelStandsModel", "arrives", "(III)Z"⟩, 7, 2, (6, 132, 0, 0), (4, 0, 7), (961, 960, 30, 51), xc152),
  (⟨"WheelStandsModel", "streets", "(II)V"⟩, 3, 0, (1, 23, 0, 0), (3, 0, 7), (969, 968, 32, 51), xc153),
  (⟨"WheelStandsModel", "end", "(II)I"⟩, 10, 1, (7, 158, 0, 0), (3, 0, 7), (953, 951, 952, 51), xc154),
  (⟨"WheelStandsModel", "hour", "()I"⟩, 3, 1, (1, 23, 0, 0), (1, 0, 7), (973, 971, 972, 51), xc155)]
def xmt6 : List XM := [
  (⟨"WheelStandsModel", "wagonAt", "(I)I"⟩, 2, 1, (0, 0, 0, 0), (2, 0, 7), (981, 980, 33, 51), xc156),
  (⟨"WheelStandsModel", "cart", "(II)I"⟩, 4, 1, (2, 42, 0, 0), (3, 0, 7), (977, 975, 976, 51), xc157),
  (⟨"WheelStandsModel", "drive", "(II)I"⟩, 4, 1, (2, 42, 0, 0), (3, 0, 7), (985, 983, 984, 51), xc158),
  (⟨"WheelStandsModel", "taken", "(I)I"⟩, 5, 1, (1, 22, 0, 0), (2, 0, 7), (1001, 1000, 36, 51), xc159),
  (⟨"WheelStandsModel", "allows", "(II)Z"⟩, 3, 2, (2, 46, 0, 0), (3, 0, 7), (997, 996, 35, 51), xc160),
  (⟨"WheelStandsModel", "climbs", "(II)V"⟩, 4, 0, (1, 23, 0, 0), (3, 0, 7), (1005, 1004, 37, 51), xc161),
  (⟨"WheelStandsModel", "pick", "(II)I"⟩, 5, 1, (3, 68, 0, 0), (3, 0, 7), (993, 991, 992, 51), xc162),
  (⟨"WheelStandsModel", "fetch", "(II)Z"⟩, 3, 2, (3, 68, 0, 0), (3, 0, 7), (1009, 1007, 1008, 51), xc163),
  (⟨"WheelStandsModel", "drop", "(I)I"⟩, 6, 1, (6, 132, 0, 0), (2, 0, 7), (1013, 1011, 1012, 51), xc164),
  (⟨"WheelStandsModel", "load", "(II)I"⟩, 4, 1, (2, 46, 0, 0), (3, 0, 7), (1017, 1015, 1016, 51), xc165),
  (⟨"WheelStandsModel", "demand", "(IIII)Z"⟩, 7, 2, (2, 42, 0, 0), (5, 0, 7), (1021, 1019, 1020, 51), xc166),
  (⟨"WheelStandsModel", "goesThrough", "(II)V"⟩, 9, 0, (3, 68, 0, 0), (3, 0, 7), (1029, 1028, 38, 51), xc167),
  (⟨"WheelStandsModel", "runs", "(III)I"⟩, 4, 1, (4, 96, 0, 0), (4, 0, 7), (1025, 1023, 1024, 51), xc168),
  (⟨"WheelStandsModel", "shortage", "(I)I"⟩, 5, 1, (4, 96, 0, 0), (2, 0, 7), (1033, 1031, 1032, 51), xc169),
  (⟨"WheelStandsModel", "want", "(II)Z"⟩, 3, 2, (2, 42, 0, 0), (3, 0, 7), (1037, 1035, 1036, 51), xc170),
  (⟨"WheelStandsModel", "finds", "()V"⟩, 4, 0, (2, 47, 0, 0), (1, 0, 7), (1045, 1044, 39, 51), xc171),
  (⟨"WheelStandsModel", "lengthOf", "(I)I"⟩, 8, 1, (1, 22, 0, 0), (2, 0, 7), (1049, 1048, 40, 51), xc172),
  (⟨"WheelStandsModel", "turns", "()Z"⟩, 7, 2, (0, 0, 0, 0), (1, 0, 7), (1053, 1052, 41, 51), xc173),
  (⟨"WheelStandsModel", "plan", "(I)I"⟩, 6, 1, (3, 70, 0, 0), (2, 0, 7), (1041, 1039, 1040, 51), xc174),
  (⟨"WheelStandsModel", "round", "(I)I"⟩, 2, 1, (1, 21, 0, 0), (2, 0, 7), (1057, 1055, 1056, 51), xc175),
  (⟨"WheelStandsModel", "overAt", "(I)I"⟩, 4, 1, (0, 0, 0, 0), (2, 0, 7), (1067, 1066, 42, 51), xc176),
  (⟨"WheelStandsModel", "carry", "(I)I"⟩, 9, 1, (7, 157, 0, 0), (2, 0, 7), (1061, 1059, 1060, 51), xc177),
  (⟨"WheelStandsModel", "image", "(I)Z"⟩, 3, 2, (1, 21, 0, 0), (2, 0, 7), (1073, 1071, 1072, 51), xc178),
  (⟨"WheelStandsModel", "again", "(I)Z"⟩, 3, 2, (1, 21, 0, 0), (2, 0, 7), (1077, 1075, 1076, 51), xc179),
  (⟨"WheelStandsModel", "count", "(I)I"⟩, 4, 1, (1, 22, 0, 0), (2, 0, 7), (1081, 1079, 1080, 51), xc180),
  (⟨"WheelStandsLaw", "law", "([I)Z"⟩, 4, 2, (8, 187, 0, 0), (1, 1, 8), (0, 0, 0, 0), xc181)]
def xmt : List XM := xmt0 ++ (xmt1 ++ (xmt2 ++ (xmt3 ++ (xmt4 ++ (xmt5 ++ (xmt6))))))
def xp_oi : Nat := 60
def xp_oc : Nat := 61
def xp_maxs : Nat := 331
def xp_maxc : Nat := 332
def xp_mins : Nat := 478
def xp_minc : Nat := 479
def xp_mi : Nat := 52
def xp_si : Nat := 53
def xp_an : Nat := 730
def xp_as : Nat := 729
def xp_ai : Nat := 92
def xp_ab : Nat := 804
def xp_o10 : Nat := 192
def xp_o11 : Nat := 69
def xp_o12 : Nat := 258
def xp_o13 : Nat := 135
def xp_in0 : Nat := 193
def xp_id0 : Nat := 49
def xp_in1 : Nat := 76
def xp_id1 : Nat := 47
def xp_in2 : Nat := 70
def xp_id2 : Nat := 46
def xp_in3 : Nat := 260
def xp_id3 : Nat := 50
def xp_in4 : Nat := 63
def xp_id4 : Nat := 45
def xp_in5 : Nat := 136
def xp_id5 : Nat := 48
def xp_in6 : Nat := 55
def xp_id6 : Nat := 44
def xp_in7 : Nat := 762
def xp_id7 : Nat := 51
def xpin (c : Nat) : Nat := [193, 76, 70, 260, 63, 136, 55, 762].getD c 0
def xpid (c : Nat) : Nat := [49, 47, 46, 50, 45, 48, 44, 51].getD c 0
def xlay : List (List Nat) := [[214, 216, 218, 220, 222, 224, 226], [85, 87, 89], [115, 117, 119, 121, 123, 125, 127, 129, 131], [273, 275, 277, 279, 281, 283, 285], [243, 245, 247, 249, 251, 253, 255], [170, 172, 174, 176, 178, 180, 182, 184, 186, 188], [291, 293, 295], [779, 781, 783, 785, 787, 789, 791, 793, 795, 797, 799, 801]]
def xlaw : Nat := 181
def xprC : Nat := 111
def xprM : Nat := 140
end
section
/-! THE INTERPRETER: values are integers or references (numbers of cells, -1 is null, -2 the script); cells are numbered in the order of their making; the kind and the length of the cell of each number are fixed ahead -/
abbrev xV : Type := Int ⊕ Int
abbrev xH : Type := Int × (Int → Int → Int) × (Int → Int → Int)
abbrev xB : Type := Nat × Nat
/-- the cells of a town, from its own on -/
def x_tk (o : Int) : Nat := if o = 0 then 4 else if o = 1 then 11 else if o < 86 then (if (o - 2) % 7 = 0 then 2 else if (o - 2) % 7 = 4 then 1 else 8) else if o = 86 then 13 else if o < 147 then 5 else if o = 147 then 10 else if (o - 148) % 2 = 0 then 0 else 8
def x_tl (o : Int) : Int := if o = 1 then 12 else if o < 86 then (if (o - 2) % 7 = 1 then 12 else if (o - 2) % 7 = 2 then 12 else if (o - 2) % 7 = 3 then 8 else 24) else if o = 86 then 60 else if o = 147 then 3 else 8
/-- kinds: 0 to 7 the classes as in vwCl, 8 int[], 9 boolean[], 10 to 13 rows of carts, stands, towns, wheels -/
def x_kd (a : Int) : Nat := if a = 0 then 6 else if a < 155 then x_tk (a - 1) else if a = 155 then 12 else if a = 156 then 3 else if a < 162 then 8 else if a = 162 then 7 else if a = 164 then 9 else if a < 170 then 8 else x_tk ((a - 170) % 154)
def x_ln (a : Int) : Int := if a < 155 then x_tl (a - 1) else if a = 155 then 4 else if a < 160 then 7 else if a = 160 then 128 else if a = 161 then 896 else if a = 163 then 8200 else if a = 164 then 4 else if a < 167 then 12 else if a < 170 then 7 else x_tl ((a - 170) % 154)
def x_w (x : Int) : Int := (x + 2147483648) % 4294967296 - 2147483648
def x_up (f : Int → Int → Int) (a k v : Int) : Int → Int → Int := fun b j => if b = a ∧ j = k then v else f b j
def x_clr (f : Int → Int → Int) (a v : Int) : Int → Int → Int := fun b j => if b = a then v else f b j
def x_cp (f : Int → Int → Int) (a0 sp a dp n : Int) : Int → Int → Int := fun b j => if b = a ∧ dp ≤ j ∧ j < dp + n then f a0 (sp + (j - dp)) else f b j
def x_un : xV := .inr (-9)
/-- the tables, read -/
noncomputable def x_md (y : Nat) : List XM := Nat.rec (motive := fun _ => List XM) xmt (fun _ r => r.tail) y
noncomputable def x_mi (y : Nat) : XM := (x_md y).headD (⟨"", "", ""⟩, 0, 0, (0, 0, 0, 0), (0, 0, 0), (0, 0, 0, 0), [])
noncomputable def x_nm (y : Nat) : MethodName := (x_mi y).1
noncomputable def x_ml (y : Nat) : Nat := (x_mi y).2.1
noncomputable def x_rt (y : Nat) : Nat := (x_mi y).2.2.1
noncomputable def x_dp (y : Nat) : Nat := (x_mi y).2.2.2.1.1
noncomputable def x_lc (y : Nat) : Nat := (x_mi y).2.2.2.1.2.1
noncomputable def x_mc (y : Nat) : Nat := (x_mi y).2.2.2.1.2.2.1
noncomputable def x_ms (y : Nat) : Nat := (x_mi y).2.2.2.1.2.2.2
noncomputable def x_np (y : Nat) : Nat := (x_mi y).2.2.2.2.1.1
noncomputable def x_st (y : Nat) : Nat := (x_mi y).2.2.2.2.1.2.1
noncomputable def x_rk (y : Nat) : Nat := (x_mi y).2.2.2.2.1.2.2
noncomputable def x_cd (y : Nat) : List xI := (x_mi y).2.2.2.2.2.2
def x_rty (n : Nat) : Option FieldType := if n = 0 then none else if n = 1 then some .int else if n = 2 then some .boolean else if n = 3 then some (.object "WheelStands$Stand") else if n = 4 then some (.object "WheelStands$Wheel") else some (.object "WheelStands$Cart")
abbrev x_dec (i : xI) : xI := i
noncomputable def x_in (y k : Nat) : xI := x_dec ((x_cd y).getD k x_63)
noncomputable def x_pc (y k : Nat) : Nat := (x_in y k).2.2.2.2
def x_cond (u : Nat) (i j : Int) : Bool := if u = 0 then decide (i = j) else if u = 1 then decide (i ≠ j) else if u = 2 then decide (i < j) else if u = 3 then decide (j ≤ i) else if u = 4 then decide (j < i) else decide (i ≤ j)
def x_swt (u : Nat) (i : Int) : Nat := match xsw[u]? with
  | some ((_, lo, hi, _, _), d, ts) => if i < lo ∨ hi < i then d else ts.getD (i - lo).toNat 0
  | none => 0
/-- a cell of kind c -/
def x_ok (z r : Int) (c : Nat) : Bool := decide (0 ≤ r) && decide (r < z) && decide (x_kd r = c)
abbrev xC : Type := Nat × List xV × List xV × xB × xH
/-- one instruction, but for calls and returns -/
def x_stp (i : xI) (k : Nat) (ls st : List xV) (b : xB) (h : xH) : Option xC := match i with
  | (op, a, t, u, _) =>
    if op = 0 then some (k + 1, ls, .inl a :: st, b, h)
    else if op = 1 then (match ls[t]? with | some (.inl v) => some (k + 1, ls, .inl v :: st, b, h) | _ => none)
    else if op = 2 then (match ls[t]? with | some (.inr v) => if -2 ≤ v then some (k + 1, ls, .inr v :: st, b, h) else none | _ => none)
    else if op = 3 then (match st with | .inl v :: st => if t < ls.length then some (k + 1, ls.set t (.inl v), st, b, h) else none | _ => none)
    else if op = 4 then (match st with | .inr v :: st => if t < ls.length ∧ -2 ≤ v then some (k + 1, ls.set t (.inr v), st, b, h) else none | _ => none)
    else if op = 5 then (match ls[t]? with | some (.inl v) => some (k + 1, ls.set t (.inl (x_w (v + a))), st, b, h) | _ => none)
    else if op = 6 then (match st with | .inl j :: .inl i :: st => some (k + 1, ls, .inl (x_w (i + j)) :: st, b, h) | _ => none)
    else if op = 7 then (match st with | .inl j :: .inl i :: st => some (k + 1, ls, .inl (x_w (i - j)) :: st, b, h) | _ => none)
    else if op = 8 then (match st with | .inl j :: .inl i :: st => some (k + 1, ls, .inl (x_w (i * j)) :: st, b, h) | _ => none)
    else if op = 9 then (match st with | .inl j :: .inl i :: st => if 0 ≤ i ∧ 0 < j then some (k + 1, ls, .inl (i % j) :: st, b, h) else none | _ => none)
    else if op = 10 then (match st with | .inl i :: st => some (k + 1, ls, .inl (x_w (-i)) :: st, b, h) | _ => none)
    else if op = 11 then (match st with | .inl j :: .inl i :: st => some (k + 1, ls, .inl (Int32.ofInt i &&& Int32.ofInt j).toInt :: st, b, h) | _ => none)
    else if op = 12 then (match st with | .inl j :: .inl i :: st => some (k + 1, ls, .inl (Int32.ofInt i ||| Int32.ofInt j).toInt :: st, b, h) | _ => none)
    else if op = 13 then (match st with | .inl j :: .inl i :: st => some (k + 1, ls, .inl (Int32.ofInt i <<< (Int32.ofInt j &&& 31)).toInt :: st, b, h) | _ => none)
    else if op = 14 then (match st with | .inl j :: .inl i :: st => some (k + 1, ls, .inl (Int32.ofInt i >>> (Int32.ofInt j &&& 31)).toInt :: st, b, h) | _ => none)
    else if op = 15 then (match st with | .inl i :: st => some (if x_cond u i 0 then t else k + 1, ls, st, b, h) | _ => none)
    else if op = 16 then (match st with | .inl j :: .inl i :: st => some (if x_cond u i j then t else k + 1, ls, st, b, h) | _ => none)
    else if op = 17 then some (t, ls, st, b, h)
    else if op = 18 then (match st with | .inr r :: st => if -1 ≤ r then some (if r < 0 then t else k + 1, ls, st, b, h) else none | _ => none)
    else if op = 19 then (match st with | .inr r :: st => if -1 ≤ r then some (if r < 0 then k + 1 else t, ls, st, b, h) else none | _ => none)
    else if op = 20 then some (k + 1, ls, .inr (-1) :: st, b, h)
    else if op = 21 then (match st with | v :: st => some (k + 1, ls, v :: v :: st, b, h) | _ => none)
    else if op = 22 then (match st with | _ :: st => some (k + 1, ls, st, b, h) | _ => none)
    else if op = 23 then (match st with | v :: w :: st => some (k + 1, ls, v :: w :: v :: w :: st, b, h) | _ => none)
    else if op = 24 then (match st with | .inr r :: st => if x_ok h.1 r (t / 16) then some (k + 1, ls, .inl (h.2.2 r (t % 16 : Nat)) :: st, b, h) else none | _ => none)
    else if op = 25 then (match st with | .inr r :: st => if x_ok h.1 r (t / 16) then some (k + 1, ls, .inr (h.2.1 r (t % 16 : Nat)) :: st, b, h) else none | _ => none)
    else if op = 26 then (match st with | .inl v :: .inr r :: st => if x_ok h.1 r (t / 16) then some (k + 1, ls, st, b, (h.1, h.2.1, x_up h.2.2 r (t % 16 : Nat) v)) else none | _ => none)
    else if op = 27 then (match st with | .inr v :: .inr r :: st => if x_ok h.1 r (t / 16) ∧ -1 ≤ v then some (k + 1, ls, st, b, (h.1, x_up h.2.1 r (t % 16 : Nat) v, h.2.2)) else none | _ => none)
    else if op = 32 then (match st with | .inl v :: .inr r :: st => if x_ok h.1 r (t / 16) ∧ (v = 0 ∨ v = 1) then some (k + 1, ls, st, b, (h.1, h.2.1, x_up h.2.2 r (t % 16 : Nat) v)) else none | _ => none)
    else if op = 28 then (match st with | .inl j :: .inr r :: st => if x_ok h.1 r 8 ∧ 0 ≤ j ∧ j < x_ln r then some (k + 1, ls, .inl (h.2.2 r j) :: st, b, h) else none | _ => none)
    else if op = 29 then (match st with | .inl v :: .inl j :: .inr r :: st => if x_ok h.1 r 8 ∧ 0 ≤ j ∧ j < x_ln r then some (k + 1, ls, st, b, (h.1, h.2.1, x_up h.2.2 r j v)) else none | _ => none)
    else if op = 30 then (match st with | .inl j :: .inr r :: st => if 0 ≤ r ∧ r < h.1 ∧ 10 ≤ x_kd r ∧ x_kd r < 14 ∧ 0 ≤ j ∧ j < x_ln r then some (k + 1, ls, .inr (h.2.1 r j) :: st, b, h) else none | _ => none)
    else if op = 31 then (match st with | .inr v :: .inl j :: .inr r :: st => if 0 ≤ r ∧ r < h.1 ∧ 10 ≤ x_kd r ∧ x_kd r < 14 ∧ 0 ≤ j ∧ j < x_ln r ∧ x_ok h.1 v ([0, 2, 4, 5].getD (x_kd r - 10) 99) then some (k + 1, ls, st, b, (h.1, x_up h.2.1 r j v, h.2.2)) else none | _ => none)
    else if op = 33 then (match st with | .inl j :: .inr r :: st => if x_ok h.1 r 9 ∧ 0 ≤ j ∧ j < x_ln r then some (k + 1, ls, .inl (h.2.2 r j) :: st, b, h) else none | _ => none)
    else if op = 34 then (match st with | .inl v :: .inl j :: .inr r :: st => if x_ok h.1 r 9 ∧ 0 ≤ j ∧ j < x_ln r ∧ (v = 0 ∨ v = 1) then some (k + 1, ls, st, b, (h.1, h.2.1, x_up h.2.2 r j v)) else none | _ => none)
    else if op = 35 then (if x_kd h.1 = t ∧ t < 8 ∧ 1 ≤ b.1 ∧ xnsl t ≤ b.2 then some (k + 1, ls, .inr h.1 :: st, (b.1 - 1, b.2 - xnsl t), (h.1 + 1, x_clr h.2.1 h.1 (-1), x_clr h.2.2 h.1 0)) else none)
    else if op = 36 then (match st with | .inl n :: st => if x_kd h.1 = 8 ∧ x_ln h.1 = n ∧ 0 ≤ n ∧ n ≤ 10000 ∧ 1 ≤ b.1 ∧ n.toNat ≤ b.2 then some (k + 1, ls, .inr h.1 :: st, (b.1 - 1, b.2 - n.toNat), (h.1 + 1, x_clr h.2.1 h.1 (-1), x_clr h.2.2 h.1 0)) else none | _ => none)
    else if op = 37 then (match st with | .inl n :: st => if x_kd h.1 = 9 ∧ x_ln h.1 = n ∧ 0 ≤ n ∧ n ≤ 10000 ∧ 1 ≤ b.1 ∧ n.toNat ≤ b.2 then some (k + 1, ls, .inr h.1 :: st, (b.1 - 1, b.2 - n.toNat), (h.1 + 1, x_clr h.2.1 h.1 (-1), x_clr h.2.2 h.1 0)) else none | _ => none)
    else if op = 38 then (match st with | .inl n :: st => if x_kd h.1 = t ∧ 10 ≤ t ∧ t < 14 ∧ x_ln h.1 = n ∧ 0 ≤ n ∧ n ≤ 10000 ∧ 1 ≤ b.1 ∧ n.toNat ≤ b.2 then some (k + 1, ls, .inr h.1 :: st, (b.1 - 1, b.2 - n.toNat), (h.1 + 1, x_clr h.2.1 h.1 (-1), x_clr h.2.2 h.1 0)) else none | _ => none)
    else if op = 43 then (match st with | .inr r :: st => if 0 ≤ r ∧ r < h.1 ∧ st.length ≤ 8 then some (k + 1, ls, st, b, h) else none | _ => none)
    else if op = 44 then (match st with | .inl j :: .inl i :: st => if st.length ≤ 8 then some (k + 1, ls, .inl (max i j) :: st, b, h) else none | _ => none)
    else if op = 45 then (match st with | .inl j :: .inl i :: st => if st.length ≤ 8 then some (k + 1, ls, .inl (min i j) :: st, b, h) else none | _ => none)
    else if op = 46 then (match st with | .inl n :: .inl dp :: .inr a :: .inl sp :: .inr a0 :: st => if x_ok h.1 a 8 ∧ x_ok h.1 a0 8 ∧ 0 ≤ sp ∧ 0 ≤ dp ∧ 0 ≤ n ∧ sp + n ≤ x_ln a0 ∧ dp + n ≤ x_ln a ∧ st.length ≤ 8 then some (k + 1, ls, st, b, (h.1, h.2.1, x_cp h.2.2 a0 sp a dp n)) else none | _ => none)
    else if op = 47 then (match st with | .inl i :: st => some (x_swt u i, ls, st, b, h) | _ => none)
    else if op = 54 then (match st with | .inl j :: .inr r :: st => if r = -2 ∧ 0 ≤ j ∧ j < h.2.2 (-2) (-1) then some (k + 1, ls, .inl (h.2.2 (-2) j) :: st, b, h) else none | _ => none)
    else if op = 55 then (match st with | .inr r :: st => if r = -2 then some (k + 1, ls, .inl (h.2.2 (-2) (-1)) :: st, b, h) else none | _ => none)
    else none
/-- what the two methods over floats and longs answer: the thousandths of the float with these bits -/
def x_th2 (e f : Int) : Int :=
  (if (if (8388608 + f) * 1000 < 8589934592 then (512 : Int) else 1024) < 2 * ((8388608 + f) * 1000 % (if (8388608 + f) * 1000 < 8589934592 then (512 : Int) else 1024)) ∨ (2 * ((8388608 + f) * 1000 % (if (8388608 + f) * 1000 < 8589934592 then (512 : Int) else 1024)) = (if (8388608 + f) * 1000 < 8589934592 then (512 : Int) else 1024) ∧ (8388608 + f) * 1000 / (if (8388608 + f) * 1000 < 8589934592 then (512 : Int) else 1024) % 2 = 1)
    then (8388608 + f) * 1000 / (if (8388608 + f) * 1000 < 8589934592 then (512 : Int) else 1024) + 1
    else (8388608 + f) * 1000 / (if (8388608 + f) * 1000 < 8589934592 then (512 : Int) else 1024))
  * (if (8388608 + f) * 1000 < 8589934592 then (512 : Int) else 1024) / 2 ^ (150 - e).toNat
def x_thou (i : Int) : Int := if i < 0 then (if i = -2147483648 then 0 else -1) else if 127 < i / 8388608 ∨ (i / 8388608 = 127 ∧ ¬ i % 8388608 = 0) then -1 else if i / 8388608 < 100 then 0 else x_th2 (i / 8388608) (i % 8388608)
def x_ret (op : Nat) (st : List xV) : Option (Option xV) :=
  if op = 50 then (match st with | [.inl v] => some (some (.inl v)) | _ => none)
  else if op = 51 then (match st with | [.inl v] => if v = 0 ∨ v = 1 then some (some (.inl v)) else none | _ => none)
  else if op = 52 then (match st with | [.inr r] => if -1 ≤ r then some (some (.inr r)) else none | _ => none)
  else (match st with | [] => some none | _ => none)
def x_rc (z : Int) (c : Nat) : List xV → Bool
  | .inr r :: _ => x_ok z r c
  | _ => false
/-- the arguments of a call, the rest of the stack; none if it is no call that may be made -/
noncomputable def x_arg (t : Nat) (st : List xV) (b : xB) (h : xH) : Option (List xV × List xV) :=
  if x_np t ≤ st.length ∧ (st.drop (x_np t)).length ≤ 8 ∧ x_mc t ≤ b.1 ∧ x_ms t ≤ b.2 ∧ x_np t ≤ x_ml t ∧ (x_st t = 1 ∨ x_rc h.1 (x_rk t) (st.take (x_np t)).reverse = true) then some ((st.take (x_np t)).reverse, st.drop (x_np t)) else none
/-- whether the two methods over floats may be called -/
def x_pm : Bool := true
noncomputable def x_run : Nat → Nat → Nat → List xV → List xV → xB → xH → Option (Option xV × xH)
  | 0, _, _, _, _, _, _ => none
  | n + 1, y, k, ls, st, b, h => match x_in y k with
    | (op, a, t, u, p) =>
      if 40 ≤ op ∧ op ≤ 42 then (match x_arg t st b h with
        | none => none
        | some (as, rest) => match x_run n t 0 (as ++ List.replicate (x_ml t - x_np t) x_un) [] (x_mc t, x_ms t) h with
          | none => none
          | some (v, h2) => x_run n y (k + 1) ls (v.toList ++ rest) (b.1 - x_mc t, b.2 - x_ms t) h2)
      else if 50 ≤ op ∧ op ≤ 53 then (match x_ret op st with
        | none => none
        | some v => some (v, h))
      else if op = 56 then (match st with
        | .inl v :: st => if st.length ≤ 8 ∧ x_pm = true then x_run n y (k + 1) ls (.inl (x_thou v) :: st) b h else none
        | _ => none)
      else match x_stp (op, a, t, u, p) k ls st b h with
        | none => none
        | some (k', ls', st', b', h') => x_run n y k' ls' st' b' h'
end
section
/-! ONE INSTRUCTION BY ITS BYTES: decode, without walking the whole code each time -/
theorem x_u1 {cd : ByteArray} {p : Nat} {b : UInt8} (h : cd.data.toList[p]? = some b) : (Reader.u1 : Decoder Nat).runAt cd p = .ok (b.toNat, p + 1) := by
  have h1 := (List.getElem?_eq_some_iff.mp h).1
  have hp : p < cd.size := by
    rw [Array.length_toList] at h1
    exact h1
  have hb : cd[p] = b := by
    have h2 := (List.getElem?_eq_some_iff.mp h).2
    rw [Array.getElem_toList] at h2
    exact h2
  have e : (Reader.u1 : Decoder Nat).runAt cd p = (if h : p < cd.size then ((do set (p + 1); Pure.pure cd[p].toNat) : Decoder Nat) else throw (HasTruncated.truncated p)).runAt cd p := rfl
  rw [e, dif_pos hp, hb]
  rfl
theorem x_bd {α β : Type} {r : Decoder β} {f : β → Decoder α} {cd : ByteArray} {p q : Nat} {v : β} (h : r.runAt cd p = .ok (v, q)) : (r >>= f).runAt cd p = (f v).runAt cd q := by
  show Except.bind (r.runAt cd p) (fun x => (f x.1).runAt cd x.2) = _
  rw [h]
  rfl
theorem x_mp {α β : Type} {r : Decoder β} {f : β → α} {cd : ByteArray} {p q : Nat} {v : β} (h : r.runAt cd p = .ok (v, q)) : (f <$> r).runAt cd p = .ok (f v, q) := by
  show Except.bind (r.runAt cd p) _ = _
  rw [h]
  rfl
theorem x_u2 {cd : ByteArray} {p : Nat} {b c : UInt8} (h : cd.data.toList[p]? = some b) (h1 : cd.data.toList[p + 1]? = some c) : (Reader.u2 : Decoder Nat).runAt cd p = .ok (b.toNat * 256 + c.toNat, p + 2) := by
  unfold Reader.u2
  rw [x_bd (x_u1 h), x_bd (x_u1 h1)]
  rfl
theorem x_dd {cd : ByteArray} {p q n : Nat} {i : Instr} (h : (Decoder.instr p).runAt cd p = .ok (i, q)) (hq : q = p + n) : decode cd p = .ok (i, n) := by
  subst hq
  unfold decode
  rw [h]
  show Except.ok (i, p + n - p) = _
  rw [Nat.add_sub_cancel_left]
section
variable {cd : ByteArray} {p : Nat} {b0 b1 b2 : UInt8}

set_option maxRecDepth 10000 in
theorem x_o1 (h0 : cd.data.toList[p]? = some b0) (e : b0.toNat = 1) : decode cd p = .ok (.aconst_null, 1) := by
  refine x_dd (q := p + 1) ?_ rfl
  unfold Decoder.instr
  rw [x_bd (x_u1 h0), e]
  rfl

set_option maxRecDepth 10000 in
theorem x_o2 (h0 : cd.data.toList[p]? = some b0) (e : b0.toNat = 2) : decode cd p = .ok (.iconst (-1), 1) := by
  refine x_dd (q := p + 1) ?_ rfl
  unfold Decoder.instr
  rw [x_bd (x_u1 h0), e]
  rfl

set_option maxRecDepth 10000 in
theorem x_o3 (h0 : cd.data.toList[p]? = some b0) (e : b0.toNat = 3) : decode cd p = .ok (.iconst (0), 1) := by
  refine x_dd (q := p + 1) ?_ rfl
  unfold Decoder.instr
  rw [x_bd (x_u1 h0), e]
  rfl

set_option maxRecDepth 10000 in
theorem x_o4 (h0 : cd.data.toList[p]? = some b0) (e : b0.toNat = 4) : decode cd p = .ok (.iconst (1), 1) := by
  refine x_dd (q := p + 1) ?_ rfl
  unfold Decoder.instr
  rw [x_bd (x_u1 h0), e]
  rfl

set_option maxRecDepth 10000 in
theorem x_o5 (h0 : cd.data.toList[p]? = some b0) (e : b0.toNat = 5) : decode cd p = .ok (.iconst (2), 1) := by
  refine x_dd (q := p + 1) ?_ rfl
  unfold Decoder.instr
  rw [x_bd (x_u1 h0), e]
  rfl

set_option maxRecDepth 10000 in
theorem x_o6 (h0 : cd.data.toList[p]? = some b0) (e : b0.toNat = 6) : decode cd p = .ok (.iconst (3), 1) := by
  refine x_dd (q := p + 1) ?_ rfl
  unfold Decoder.instr
  rw [x_bd (x_u1 h0), e]
  rfl

set_option maxRecDepth 10000 in
theorem x_o7 (h0 : cd.data.toList[p]? = some b0) (e : b0.toNat = 7) : decode cd p = .ok (.iconst (4), 1) := by
  refine x_dd (q := p + 1) ?_ rfl
  unfold Decoder.instr
  rw [x_bd (x_u1 h0), e]
  rfl

set_option maxRecDepth 10000 in
theorem x_o8 (h0 : cd.data.toList[p]? = some b0) (e : b0.toNat = 8) : decode cd p = .ok (.iconst (5), 1) := by
  refine x_dd (q := p + 1) ?_ rfl
  unfold Decoder.instr
  rw [x_bd (x_u1 h0), e]
  rfl

set_option maxRecDepth 10000 in
theorem x_o26 (h0 : cd.data.toList[p]? = some b0) (e : b0.toNat = 26) : decode cd p = .ok (.iload_n 0, 1) := by
  refine x_dd (q := p + 1) ?_ rfl
  unfold Decoder.instr
  rw [x_bd (x_u1 h0), e]
  rfl

set_option maxRecDepth 10000 in
theorem x_o27 (h0 : cd.data.toList[p]? = some b0) (e : b0.toNat = 27) : decode cd p = .ok (.iload_n 1, 1) := by
  refine x_dd (q := p + 1) ?_ rfl
  unfold Decoder.instr
  rw [x_bd (x_u1 h0), e]
  rfl

set_option maxRecDepth 10000 in
theorem x_o28 (h0 : cd.data.toList[p]? = some b0) (e : b0.toNat = 28) : decode cd p = .ok (.iload_n 2, 1) := by
  refine x_dd (q := p + 1) ?_ rfl
  unfold Decoder.instr
  rw [x_bd (x_u1 h0), e]
  rfl

set_option maxRecDepth 10000 in
theorem x_o29 (h0 : cd.data.toList[p]? = some b0) (e : b0.toNat = 29) : decode cd p = .ok (.iload_n 3, 1) := by
  refine x_dd (q := p + 1) ?_ rfl
  unfold Decoder.instr
  rw [x_bd (x_u1 h0), e]
  rfl

set_option maxRecDepth 10000 in
theorem x_o42 (h0 : cd.data.toList[p]? = some b0) (e : b0.toNat = 42) : decode cd p = .ok (.aload_n 0, 1) := by
  refine x_dd (q := p + 1) ?_ rfl
  unfold Decoder.instr
  rw [x_bd (x_u1 h0), e]
  rfl

set_option maxRecDepth 10000 in
theorem x_o43 (h0 : cd.data.toList[p]? = some b0) (e : b0.toNat = 43) : decode cd p = .ok (.aload_n 1, 1) := by
  refine x_dd (q := p + 1) ?_ rfl
  unfold Decoder.instr
  rw [x_bd (x_u1 h0), e]
  rfl

set_option maxRecDepth 10000 in
theorem x_o44 (h0 : cd.data.toList[p]? = some b0) (e : b0.toNat = 44) : decode cd p = .ok (.aload_n 2, 1) := by
  refine x_dd (q := p + 1) ?_ rfl
  unfold Decoder.instr
  rw [x_bd (x_u1 h0), e]
  rfl

set_option maxRecDepth 10000 in
theorem x_o45 (h0 : cd.data.toList[p]? = some b0) (e : b0.toNat = 45) : decode cd p = .ok (.aload_n 3, 1) := by
  refine x_dd (q := p + 1) ?_ rfl
  unfold Decoder.instr
  rw [x_bd (x_u1 h0), e]
  rfl

set_option maxRecDepth 10000 in
theorem x_o46 (h0 : cd.data.toList[p]? = some b0) (e : b0.toNat = 46) : decode cd p = .ok (.iaload, 1) := by
  refine x_dd (q := p + 1) ?_ rfl
  unfold Decoder.instr
  rw [x_bd (x_u1 h0), e]
  rfl

set_option maxRecDepth 10000 in
theorem x_o50 (h0 : cd.data.toList[p]? = some b0) (e : b0.toNat = 50) : decode cd p = .ok (.aaload, 1) := by
  refine x_dd (q := p + 1) ?_ rfl
  unfold Decoder.instr
  rw [x_bd (x_u1 h0), e]
  rfl

set_option maxRecDepth 10000 in
theorem x_o51 (h0 : cd.data.toList[p]? = some b0) (e : b0.toNat = 51) : decode cd p = .ok (.baload, 1) := by
  refine x_dd (q := p + 1) ?_ rfl
  unfold Decoder.instr
  rw [x_bd (x_u1 h0), e]
  rfl

set_option maxRecDepth 10000 in
theorem x_o59 (h0 : cd.data.toList[p]? = some b0) (e : b0.toNat = 59) : decode cd p = .ok (.istore_n 0, 1) := by
  refine x_dd (q := p + 1) ?_ rfl
  unfold Decoder.instr
  rw [x_bd (x_u1 h0), e]
  rfl

set_option maxRecDepth 10000 in
theorem x_o60 (h0 : cd.data.toList[p]? = some b0) (e : b0.toNat = 60) : decode cd p = .ok (.istore_n 1, 1) := by
  refine x_dd (q := p + 1) ?_ rfl
  unfold Decoder.instr
  rw [x_bd (x_u1 h0), e]
  rfl

set_option maxRecDepth 10000 in
theorem x_o61 (h0 : cd.data.toList[p]? = some b0) (e : b0.toNat = 61) : decode cd p = .ok (.istore_n 2, 1) := by
  refine x_dd (q := p + 1) ?_ rfl
  unfold Decoder.instr
  rw [x_bd (x_u1 h0), e]
  rfl

set_option maxRecDepth 10000 in
theorem x_o62 (h0 : cd.data.toList[p]? = some b0) (e : b0.toNat = 62) : decode cd p = .ok (.istore_n 3, 1) := by
  refine x_dd (q := p + 1) ?_ rfl
  unfold Decoder.instr
  rw [x_bd (x_u1 h0), e]
  rfl

set_option maxRecDepth 10000 in
theorem x_o75 (h0 : cd.data.toList[p]? = some b0) (e : b0.toNat = 75) : decode cd p = .ok (.astore_n 0, 1) := by
  refine x_dd (q := p + 1) ?_ rfl
  unfold Decoder.instr
  rw [x_bd (x_u1 h0), e]
  rfl

set_option maxRecDepth 10000 in
theorem x_o76 (h0 : cd.data.toList[p]? = some b0) (e : b0.toNat = 76) : decode cd p = .ok (.astore_n 1, 1) := by
  refine x_dd (q := p + 1) ?_ rfl
  unfold Decoder.instr
  rw [x_bd (x_u1 h0), e]
  rfl

set_option maxRecDepth 10000 in
theorem x_o77 (h0 : cd.data.toList[p]? = some b0) (e : b0.toNat = 77) : decode cd p = .ok (.astore_n 2, 1) := by
  refine x_dd (q := p + 1) ?_ rfl
  unfold Decoder.instr
  rw [x_bd (x_u1 h0), e]
  rfl

set_option maxRecDepth 10000 in
theorem x_o78 (h0 : cd.data.toList[p]? = some b0) (e : b0.toNat = 78) : decode cd p = .ok (.astore_n 3, 1) := by
  refine x_dd (q := p + 1) ?_ rfl
  unfold Decoder.instr
  rw [x_bd (x_u1 h0), e]
  rfl

set_option maxRecDepth 10000 in
theorem x_o79 (h0 : cd.data.toList[p]? = some b0) (e : b0.toNat = 79) : decode cd p = .ok (.iastore, 1) := by
  refine x_dd (q := p + 1) ?_ rfl
  unfold Decoder.instr
  rw [x_bd (x_u1 h0), e]
  rfl

set_option maxRecDepth 10000 in
theorem x_o83 (h0 : cd.data.toList[p]? = some b0) (e : b0.toNat = 83) : decode cd p = .ok (.aastore, 1) := by
  refine x_dd (q := p + 1) ?_ rfl
  unfold Decoder.instr
  rw [x_bd (x_u1 h0), e]
  rfl

set_option maxRecDepth 10000 in
theorem x_o84 (h0 : cd.data.toList[p]? = some b0) (e : b0.toNat = 84) : decode cd p = .ok (.bastore, 1) := by
  refine x_dd (q := p + 1) ?_ rfl
  unfold Decoder.instr
  rw [x_bd (x_u1 h0), e]
  rfl

set_option maxRecDepth 10000 in
theorem x_o87 (h0 : cd.data.toList[p]? = some b0) (e : b0.toNat = 87) : decode cd p = .ok (.pop, 1) := by
  refine x_dd (q := p + 1) ?_ rfl
  unfold Decoder.instr
  rw [x_bd (x_u1 h0), e]
  rfl

set_option maxRecDepth 10000 in
theorem x_o89 (h0 : cd.data.toList[p]? = some b0) (e : b0.toNat = 89) : decode cd p = .ok (.dup, 1) := by
  refine x_dd (q := p + 1) ?_ rfl
  unfold Decoder.instr
  rw [x_bd (x_u1 h0), e]
  rfl

set_option maxRecDepth 10000 in
theorem x_o92 (h0 : cd.data.toList[p]? = some b0) (e : b0.toNat = 92) : decode cd p = .ok (.dup2, 1) := by
  refine x_dd (q := p + 1) ?_ rfl
  unfold Decoder.instr
  rw [x_bd (x_u1 h0), e]
  rfl

set_option maxRecDepth 10000 in
theorem x_o96 (h0 : cd.data.toList[p]? = some b0) (e : b0.toNat = 96) : decode cd p = .ok (.iadd, 1) := by
  refine x_dd (q := p + 1) ?_ rfl
  unfold Decoder.instr
  rw [x_bd (x_u1 h0), e]
  rfl

set_option maxRecDepth 10000 in
theorem x_o100 (h0 : cd.data.toList[p]? = some b0) (e : b0.toNat = 100) : decode cd p = .ok (.isub, 1) := by
  refine x_dd (q := p + 1) ?_ rfl
  unfold Decoder.instr
  rw [x_bd (x_u1 h0), e]
  rfl

set_option maxRecDepth 10000 in
theorem x_o104 (h0 : cd.data.toList[p]? = some b0) (e : b0.toNat = 104) : decode cd p = .ok (.imul, 1) := by
  refine x_dd (q := p + 1) ?_ rfl
  unfold Decoder.instr
  rw [x_bd (x_u1 h0), e]
  rfl

set_option maxRecDepth 10000 in
theorem x_o112 (h0 : cd.data.toList[p]? = some b0) (e : b0.toNat = 112) : decode cd p = .ok (.irem, 1) := by
  refine x_dd (q := p + 1) ?_ rfl
  unfold Decoder.instr
  rw [x_bd (x_u1 h0), e]
  rfl

set_option maxRecDepth 10000 in
theorem x_o116 (h0 : cd.data.toList[p]? = some b0) (e : b0.toNat = 116) : decode cd p = .ok (.ineg, 1) := by
  refine x_dd (q := p + 1) ?_ rfl
  unfold Decoder.instr
  rw [x_bd (x_u1 h0), e]
  rfl

set_option maxRecDepth 10000 in
theorem x_o120 (h0 : cd.data.toList[p]? = some b0) (e : b0.toNat = 120) : decode cd p = .ok (.ishl, 1) := by
  refine x_dd (q := p + 1) ?_ rfl
  unfold Decoder.instr
  rw [x_bd (x_u1 h0), e]
  rfl

set_option maxRecDepth 10000 in
theorem x_o122 (h0 : cd.data.toList[p]? = some b0) (e : b0.toNat = 122) : decode cd p = .ok (.ishr, 1) := by
  refine x_dd (q := p + 1) ?_ rfl
  unfold Decoder.instr
  rw [x_bd (x_u1 h0), e]
  rfl

set_option maxRecDepth 10000 in
theorem x_o126 (h0 : cd.data.toList[p]? = some b0) (e : b0.toNat = 126) : decode cd p = .ok (.iand, 1) := by
  refine x_dd (q := p + 1) ?_ rfl
  unfold Decoder.instr
  rw [x_bd (x_u1 h0), e]
  rfl

set_option maxRecDepth 10000 in
theorem x_o128 (h0 : cd.data.toList[p]? = some b0) (e : b0.toNat = 128) : decode cd p = .ok (.ior, 1) := by
  refine x_dd (q := p + 1) ?_ rfl
  unfold Decoder.instr
  rw [x_bd (x_u1 h0), e]
  rfl

set_option maxRecDepth 10000 in
theorem x_o172 (h0 : cd.data.toList[p]? = some b0) (e : b0.toNat = 172) : decode cd p = .ok (.ireturn, 1) := by
  refine x_dd (q := p + 1) ?_ rfl
  unfold Decoder.instr
  rw [x_bd (x_u1 h0), e]
  rfl

set_option maxRecDepth 10000 in
theorem x_o176 (h0 : cd.data.toList[p]? = some b0) (e : b0.toNat = 176) : decode cd p = .ok (.areturn, 1) := by
  refine x_dd (q := p + 1) ?_ rfl
  unfold Decoder.instr
  rw [x_bd (x_u1 h0), e]
  rfl

set_option maxRecDepth 10000 in
theorem x_o177 (h0 : cd.data.toList[p]? = some b0) (e : b0.toNat = 177) : decode cd p = .ok (.return_, 1) := by
  refine x_dd (q := p + 1) ?_ rfl
  unfold Decoder.instr
  rw [x_bd (x_u1 h0), e]
  rfl

set_option maxRecDepth 10000 in
theorem x_o190 (h0 : cd.data.toList[p]? = some b0) (e : b0.toNat = 190) : decode cd p = .ok (.arraylength, 1) := by
  refine x_dd (q := p + 1) ?_ rfl
  unfold Decoder.instr
  rw [x_bd (x_u1 h0), e]
  rfl

set_option maxRecDepth 10000 in
theorem x_o16 (h0 : cd.data.toList[p]? = some b0) (h1 : cd.data.toList[p + 1]? = some b1) (e : b0.toNat = 16) : decode cd p = .ok (.bipush (Reader.signed 8 b1.toNat), 2) := by
  refine x_dd (q := p + 1 + 1) ?_ rfl
  unfold Decoder.instr
  rw [x_bd (x_u1 h0), e]
  exact x_bd (r := Reader.s1) (x_mp (x_u1 h1))

set_option maxRecDepth 10000 in
theorem x_o18 (h0 : cd.data.toList[p]? = some b0) (h1 : cd.data.toList[p + 1]? = some b1) (e : b0.toNat = 18) : decode cd p = .ok (.ldc b1.toNat, 2) := by
  refine x_dd (q := p + 1 + 1) ?_ rfl
  unfold Decoder.instr
  rw [x_bd (x_u1 h0), e]
  exact x_bd (r := Reader.u1) (x_u1 h1)

set_option maxRecDepth 10000 in
theorem x_o21 (h0 : cd.data.toList[p]? = some b0) (h1 : cd.data.toList[p + 1]? = some b1) (e : b0.toNat = 21) : decode cd p = .ok (.iload b1.toNat, 2) := by
  refine x_dd (q := p + 1 + 1) ?_ rfl
  unfold Decoder.instr
  rw [x_bd (x_u1 h0), e]
  exact x_bd (r := Reader.u1) (x_u1 h1)

set_option maxRecDepth 10000 in
theorem x_o25 (h0 : cd.data.toList[p]? = some b0) (h1 : cd.data.toList[p + 1]? = some b1) (e : b0.toNat = 25) : decode cd p = .ok (.aload b1.toNat, 2) := by
  refine x_dd (q := p + 1 + 1) ?_ rfl
  unfold Decoder.instr
  rw [x_bd (x_u1 h0), e]
  exact x_bd (r := Reader.u1) (x_u1 h1)

set_option maxRecDepth 10000 in
theorem x_o54 (h0 : cd.data.toList[p]? = some b0) (h1 : cd.data.toList[p + 1]? = some b1) (e : b0.toNat = 54) : decode cd p = .ok (.istore b1.toNat, 2) := by
  refine x_dd (q := p + 1 + 1) ?_ rfl
  unfold Decoder.instr
  rw [x_bd (x_u1 h0), e]
  exact x_bd (r := Reader.u1) (x_u1 h1)

set_option maxRecDepth 10000 in
theorem x_o58 (h0 : cd.data.toList[p]? = some b0) (h1 : cd.data.toList[p + 1]? = some b1) (e : b0.toNat = 58) : decode cd p = .ok (.astore b1.toNat, 2) := by
  refine x_dd (q := p + 1 + 1) ?_ rfl
  unfold Decoder.instr
  rw [x_bd (x_u1 h0), e]
  exact x_bd (r := Reader.u1) (x_u1 h1)

set_option maxRecDepth 10000 in
theorem x_o17 (h0 : cd.data.toList[p]? = some b0) (h1 : cd.data.toList[p + 1]? = some b1) (h2 : cd.data.toList[p + 1 + 1]? = some b2) (e : b0.toNat = 17) : decode cd p = .ok (.sipush (Reader.signed 16 (b1.toNat * 256 + b2.toNat)), 3) := by
  refine x_dd (q := p + 1 + 2) ?_ rfl
  unfold Decoder.instr
  rw [x_bd (x_u1 h0), e]
  exact x_bd (r := Reader.s2) (x_mp (x_u2 h1 h2))

set_option maxRecDepth 10000 in
theorem x_o19 (h0 : cd.data.toList[p]? = some b0) (h1 : cd.data.toList[p + 1]? = some b1) (h2 : cd.data.toList[p + 1 + 1]? = some b2) (e : b0.toNat = 19) : decode cd p = .ok (.ldc_w (b1.toNat * 256 + b2.toNat), 3) := by
  refine x_dd (q := p + 1 + 2) ?_ rfl
  unfold Decoder.instr
  rw [x_bd (x_u1 h0), e]
  exact x_bd (r := Reader.u2) (x_u2 h1 h2)

set_option maxRecDepth 10000 in
theorem x_o153 (h0 : cd.data.toList[p]? = some b0) (h1 : cd.data.toList[p + 1]? = some b1) (h2 : cd.data.toList[p + 1 + 1]? = some b2) (e : b0.toNat = 153) : decode cd p = .ok (.ifCond .eq (Reader.signed 16 (b1.toNat * 256 + b2.toNat)), 3) := by
  refine x_dd (q := p + 1 + 2) ?_ rfl
  unfold Decoder.instr
  rw [x_bd (x_u1 h0), e]
  exact x_bd (r := Reader.s2) (x_mp (x_u2 h1 h2))

set_option maxRecDepth 10000 in
theorem x_o154 (h0 : cd.data.toList[p]? = some b0) (h1 : cd.data.toList[p + 1]? = some b1) (h2 : cd.data.toList[p + 1 + 1]? = some b2) (e : b0.toNat = 154) : decode cd p = .ok (.ifCond .ne (Reader.signed 16 (b1.toNat * 256 + b2.toNat)), 3) := by
  refine x_dd (q := p + 1 + 2) ?_ rfl
  unfold Decoder.instr
  rw [x_bd (x_u1 h0), e]
  exact x_bd (r := Reader.s2) (x_mp (x_u2 h1 h2))

set_option maxRecDepth 10000 in
theorem x_o155 (h0 : cd.data.toList[p]? = some b0) (h1 : cd.data.toList[p + 1]? = some b1) (h2 : cd.data.toList[p + 1 + 1]? = some b2) (e : b0.toNat = 155) : decode cd p = .ok (.ifCond .lt (Reader.signed 16 (b1.toNat * 256 + b2.toNat)), 3) := by
  refine x_dd (q := p + 1 + 2) ?_ rfl
  unfold Decoder.instr
  rw [x_bd (x_u1 h0), e]
  exact x_bd (r := Reader.s2) (x_mp (x_u2 h1 h2))

set_option maxRecDepth 10000 in
theorem x_o156 (h0 : cd.data.toList[p]? = some b0) (h1 : cd.data.toList[p + 1]? = some b1) (h2 : cd.data.toList[p + 1 + 1]? = some b2) (e : b0.toNat = 156) : decode cd p = .ok (.ifCond .ge (Reader.signed 16 (b1.toNat * 256 + b2.toNat)), 3) := by
  refine x_dd (q := p + 1 + 2) ?_ rfl
  unfold Decoder.instr
  rw [x_bd (x_u1 h0), e]
  exact x_bd (r := Reader.s2) (x_mp (x_u2 h1 h2))

set_option maxRecDepth 10000 in
theorem x_o157 (h0 : cd.data.toList[p]? = some b0) (h1 : cd.data.toList[p + 1]? = some b1) (h2 : cd.data.toList[p + 1 + 1]? = some b2) (e : b0.toNat = 157) : decode cd p = .ok (.ifCond .gt (Reader.signed 16 (b1.toNat * 256 + b2.toNat)), 3) := by
  refine x_dd (q := p + 1 + 2) ?_ rfl
  unfold Decoder.instr
  rw [x_bd (x_u1 h0), e]
  exact x_bd (r := Reader.s2) (x_mp (x_u2 h1 h2))

set_option maxRecDepth 10000 in
theorem x_o158 (h0 : cd.data.toList[p]? = some b0) (h1 : cd.data.toList[p + 1]? = some b1) (h2 : cd.data.toList[p + 1 + 1]? = some b2) (e : b0.toNat = 158) : decode cd p = .ok (.ifCond .le (Reader.signed 16 (b1.toNat * 256 + b2.toNat)), 3) := by
  refine x_dd (q := p + 1 + 2) ?_ rfl
  unfold Decoder.instr
  rw [x_bd (x_u1 h0), e]
  exact x_bd (r := Reader.s2) (x_mp (x_u2 h1 h2))

set_option maxRecDepth 10000 in
theorem x_o159 (h0 : cd.data.toList[p]? = some b0) (h1 : cd.data.toList[p + 1]? = some b1) (h2 : cd.data.toList[p + 1 + 1]? = some b2) (e : b0.toNat = 159) : decode cd p = .ok (.if_icmp .eq (Reader.signed 16 (b1.toNat * 256 + b2.toNat)), 3) := by
  refine x_dd (q := p + 1 + 2) ?_ rfl
  unfold Decoder.instr
  rw [x_bd (x_u1 h0), e]
  exact x_bd (r := Reader.s2) (x_mp (x_u2 h1 h2))

set_option maxRecDepth 10000 in
theorem x_o160 (h0 : cd.data.toList[p]? = some b0) (h1 : cd.data.toList[p + 1]? = some b1) (h2 : cd.data.toList[p + 1 + 1]? = some b2) (e : b0.toNat = 160) : decode cd p = .ok (.if_icmp .ne (Reader.signed 16 (b1.toNat * 256 + b2.toNat)), 3) := by
  refine x_dd (q := p + 1 + 2) ?_ rfl
  unfold Decoder.instr
  rw [x_bd (x_u1 h0), e]
  exact x_bd (r := Reader.s2) (x_mp (x_u2 h1 h2))

set_option maxRecDepth 10000 in
theorem x_o161 (h0 : cd.data.toList[p]? = some b0) (h1 : cd.data.toList[p + 1]? = some b1) (h2 : cd.data.toList[p + 1 + 1]? = some b2) (e : b0.toNat = 161) : decode cd p = .ok (.if_icmp .lt (Reader.signed 16 (b1.toNat * 256 + b2.toNat)), 3) := by
  refine x_dd (q := p + 1 + 2) ?_ rfl
  unfold Decoder.instr
  rw [x_bd (x_u1 h0), e]
  exact x_bd (r := Reader.s2) (x_mp (x_u2 h1 h2))

set_option maxRecDepth 10000 in
theorem x_o162 (h0 : cd.data.toList[p]? = some b0) (h1 : cd.data.toList[p + 1]? = some b1) (h2 : cd.data.toList[p + 1 + 1]? = some b2) (e : b0.toNat = 162) : decode cd p = .ok (.if_icmp .ge (Reader.signed 16 (b1.toNat * 256 + b2.toNat)), 3) := by
  refine x_dd (q := p + 1 + 2) ?_ rfl
  unfold Decoder.instr
  rw [x_bd (x_u1 h0), e]
  exact x_bd (r := Reader.s2) (x_mp (x_u2 h1 h2))

set_option maxRecDepth 10000 in
theorem x_o163 (h0 : cd.data.toList[p]? = some b0) (h1 : cd.data.toList[p + 1]? = some b1) (h2 : cd.data.toList[p + 1 + 1]? = some b2) (e : b0.toNat = 163) : decode cd p = .ok (.if_icmp .gt (Reader.signed 16 (b1.toNat * 256 + b2.toNat)), 3) := by
  refine x_dd (q := p + 1 + 2) ?_ rfl
  unfold Decoder.instr
  rw [x_bd (x_u1 h0), e]
  exact x_bd (r := Reader.s2) (x_mp (x_u2 h1 h2))

set_option maxRecDepth 10000 in
theorem x_o164 (h0 : cd.data.toList[p]? = some b0) (h1 : cd.data.toList[p + 1]? = some b1) (h2 : cd.data.toList[p + 1 + 1]? = some b2) (e : b0.toNat = 164) : decode cd p = .ok (.if_icmp .le (Reader.signed 16 (b1.toNat * 256 + b2.toNat)), 3) := by
  refine x_dd (q := p + 1 + 2) ?_ rfl
  unfold Decoder.instr
  rw [x_bd (x_u1 h0), e]
  exact x_bd (r := Reader.s2) (x_mp (x_u2 h1 h2))

set_option maxRecDepth 10000 in
theorem x_o167 (h0 : cd.data.toList[p]? = some b0) (h1 : cd.data.toList[p + 1]? = some b1) (h2 : cd.data.toList[p + 1 + 1]? = some b2) (e : b0.toNat = 167) : decode cd p = .ok (.goto (Reader.signed 16 (b1.toNat * 256 + b2.toNat)), 3) := by
  refine x_dd (q := p + 1 + 2) ?_ rfl
  unfold Decoder.instr
  rw [x_bd (x_u1 h0), e]
  exact x_bd (r := Reader.s2) (x_mp (x_u2 h1 h2))

set_option maxRecDepth 10000 in
theorem x_o180 (h0 : cd.data.toList[p]? = some b0) (h1 : cd.data.toList[p + 1]? = some b1) (h2 : cd.data.toList[p + 1 + 1]? = some b2) (e : b0.toNat = 180) : decode cd p = .ok (.getfield (b1.toNat * 256 + b2.toNat), 3) := by
  refine x_dd (q := p + 1 + 2) ?_ rfl
  unfold Decoder.instr
  rw [x_bd (x_u1 h0), e]
  exact x_bd (r := Reader.u2) (x_u2 h1 h2)

set_option maxRecDepth 10000 in
theorem x_o181 (h0 : cd.data.toList[p]? = some b0) (h1 : cd.data.toList[p + 1]? = some b1) (h2 : cd.data.toList[p + 1 + 1]? = some b2) (e : b0.toNat = 181) : decode cd p = .ok (.putfield (b1.toNat * 256 + b2.toNat), 3) := by
  refine x_dd (q := p + 1 + 2) ?_ rfl
  unfold Decoder.instr
  rw [x_bd (x_u1 h0), e]
  exact x_bd (r := Reader.u2) (x_u2 h1 h2)

set_option maxRecDepth 10000 in
theorem x_o182 (h0 : cd.data.toList[p]? = some b0) (h1 : cd.data.toList[p + 1]? = some b1) (h2 : cd.data.toList[p + 1 + 1]? = some b2) (e : b0.toNat = 182) : decode cd p = .ok (.invokevirtual (b1.toNat * 256 + b2.toNat), 3) := by
  refine x_dd (q := p + 1 + 2) ?_ rfl
  unfold Decoder.instr
  rw [x_bd (x_u1 h0), e]
  exact x_bd (r := Reader.u2) (x_u2 h1 h2)

set_option maxRecDepth 10000 in
theorem x_o183 (h0 : cd.data.toList[p]? = some b0) (h1 : cd.data.toList[p + 1]? = some b1) (h2 : cd.data.toList[p + 1 + 1]? = some b2) (e : b0.toNat = 183) : decode cd p = .ok (.invokespecial (b1.toNat * 256 + b2.toNat), 3) := by
  refine x_dd (q := p + 1 + 2) ?_ rfl
  unfold Decoder.instr
  rw [x_bd (x_u1 h0), e]
  exact x_bd (r := Reader.u2) (x_u2 h1 h2)

set_option maxRecDepth 10000 in
theorem x_o184 (h0 : cd.data.toList[p]? = some b0) (h1 : cd.data.toList[p + 1]? = some b1) (h2 : cd.data.toList[p + 1 + 1]? = some b2) (e : b0.toNat = 184) : decode cd p = .ok (.invokestatic (b1.toNat * 256 + b2.toNat), 3) := by
  refine x_dd (q := p + 1 + 2) ?_ rfl
  unfold Decoder.instr
  rw [x_bd (x_u1 h0), e]
  exact x_bd (r := Reader.u2) (x_u2 h1 h2)

set_option maxRecDepth 10000 in
theorem x_o187 (h0 : cd.data.toList[p]? = some b0) (h1 : cd.data.toList[p + 1]? = some b1) (h2 : cd.data.toList[p + 1 + 1]? = some b2) (e : b0.toNat = 187) : decode cd p = .ok (.new (b1.toNat * 256 + b2.toNat), 3) := by
  refine x_dd (q := p + 1 + 2) ?_ rfl
  unfold Decoder.instr
  rw [x_bd (x_u1 h0), e]
  exact x_bd (r := Reader.u2) (x_u2 h1 h2)

set_option maxRecDepth 10000 in
theorem x_o189 (h0 : cd.data.toList[p]? = some b0) (h1 : cd.data.toList[p + 1]? = some b1) (h2 : cd.data.toList[p + 1 + 1]? = some b2) (e : b0.toNat = 189) : decode cd p = .ok (.anewarray (b1.toNat * 256 + b2.toNat), 3) := by
  refine x_dd (q := p + 1 + 2) ?_ rfl
  unfold Decoder.instr
  rw [x_bd (x_u1 h0), e]
  exact x_bd (r := Reader.u2) (x_u2 h1 h2)

set_option maxRecDepth 10000 in
theorem x_o198 (h0 : cd.data.toList[p]? = some b0) (h1 : cd.data.toList[p + 1]? = some b1) (h2 : cd.data.toList[p + 1 + 1]? = some b2) (e : b0.toNat = 198) : decode cd p = .ok (.ifnull (Reader.signed 16 (b1.toNat * 256 + b2.toNat)), 3) := by
  refine x_dd (q := p + 1 + 2) ?_ rfl
  unfold Decoder.instr
  rw [x_bd (x_u1 h0), e]
  exact x_bd (r := Reader.s2) (x_mp (x_u2 h1 h2))

set_option maxRecDepth 10000 in
theorem x_o199 (h0 : cd.data.toList[p]? = some b0) (h1 : cd.data.toList[p + 1]? = some b1) (h2 : cd.data.toList[p + 1 + 1]? = some b2) (e : b0.toNat = 199) : decode cd p = .ok (.ifnonnull (Reader.signed 16 (b1.toNat * 256 + b2.toNat)), 3) := by
  refine x_dd (q := p + 1 + 2) ?_ rfl
  unfold Decoder.instr
  rw [x_bd (x_u1 h0), e]
  exact x_bd (r := Reader.s2) (x_mp (x_u2 h1 h2))

set_option maxRecDepth 10000 in
theorem x_o132 (h0 : cd.data.toList[p]? = some b0) (h1 : cd.data.toList[p + 1]? = some b1) (h2 : cd.data.toList[p + 1 + 1]? = some b2) (e : b0.toNat = 132) : decode cd p = .ok (.iinc b1.toNat (Reader.signed 8 b2.toNat), 3) := by
  refine x_dd (q := p + 1 + 2) ?_ rfl
  unfold Decoder.instr
  rw [x_bd (x_u1 h0), e]
  refine (x_bd (r := Reader.u1) (x_u1 h1)).trans ?_
  exact x_bd (r := Reader.s1) (x_mp (x_u1 h2))
set_option maxRecDepth 10000 in
theorem x_o188a (h0 : cd.data.toList[p]? = some b0) (h1 : cd.data.toList[p + 1]? = some b1) (e : b0.toNat = 188) (e1 : b1.toNat = 10) : decode cd p = .ok (.newarray .int, 2) := by
  refine x_dd (q := p + 1 + 1) ?_ rfl
  unfold Decoder.instr
  rw [x_bd (x_u1 h0), e]
  show (Decoder.newarray p).runAt cd (p + 1) = _
  unfold Decoder.newarray
  rw [x_bd (x_u1 h1), e1]
  rfl
set_option maxRecDepth 10000 in
theorem x_o188b (h0 : cd.data.toList[p]? = some b0) (h1 : cd.data.toList[p + 1]? = some b1) (e : b0.toNat = 188) (e1 : b1.toNat = 4) : decode cd p = .ok (.newarray .boolean, 2) := by
  refine x_dd (q := p + 1 + 1) ?_ rfl
  unfold Decoder.instr
  rw [x_bd (x_u1 h0), e]
  show (Decoder.newarray p).runAt cd (p + 1) = _
  unfold Decoder.newarray
  rw [x_bd (x_u1 h1), e1]
  rfl
end

def x_d0 (n : Nat) : Option Instr := if n = 1 then some (.aconst_null) else if n = 2 then some (.iconst (-1)) else if n = 3 then some (.iconst (0)) else if n = 4 then some (.iconst (1)) else if n = 5 then some (.iconst (2)) else if n = 6 then some (.iconst (3)) else if n = 7 then some (.iconst (4)) else if n = 8 then some (.iconst (5)) else if n = 26 then some (.iload_n 0) else if n = 27 then some (.iload_n 1) else if n = 28 then some (.iload_n 2) else if n = 29 then some (.iload_n 3) else if n = 42 then some (.aload_n 0) else if n = 43 then some (.aload_n 1) else if n = 44 then some (.aload_n 2) else if n = 45 then some (.aload_n 3) else if n = 46 then some (.iaload) else if n = 50 then some (.aaload) else if n = 51 then some (.baload) else if n = 59 then some (.istore_n 0) else if n = 60 then some (.istore_n 1) else if n = 61 then some (.istore_n 2) else if n = 62 then some (.istore_n 3) else if n = 75 then some (.astore_n 0) else if n = 76 then some (.astore_n 1) else if n = 77 then some (.astore_n 2) else if n = 78 then some (.astore_n 3) else if n = 79 then some (.iastore) else if n = 83 then some (.aastore) else if n = 84 then some (.bastore) else if n = 87 then some (.pop) else if n = 89 then some (.dup) else if n = 92 then some (.dup2) else if n = 96 then some (.iadd) else if n = 100 then some (.isub) else if n = 104 then some (.imul) else if n = 112 then some (.irem) else if n = 116 then some (.ineg) else if n = 120 then some (.ishl) else if n = 122 then some (.ishr) else if n = 126 then some (.iand) else if n = 128 then some (.ior) else if n = 172 then some (.ireturn) else if n = 176 then some (.areturn) else if n = 177 then some (.return_) else if n = 190 then some (.arraylength) else none
def x_d1 (n a : Nat) : Option Instr := if n = 16 then some (.bipush (Reader.signed 8 a)) else if n = 18 then some (.ldc a) else if n = 21 then some (.iload a) else if n = 25 then some (.aload a) else if n = 54 then some (.istore a) else if n = 58 then some (.astore a) else if n = 188 then (if a = 10 then some (.newarray .int) else if a = 4 then some (.newarray .boolean) else none) else none
def x_d2 (n a b : Nat) : Option Instr := if n = 17 then some (.sipush (Reader.signed 16 (a * 256 + b))) else if n = 19 then some (.ldc_w (a * 256 + b)) else if n = 153 then some (.ifCond .eq (Reader.signed 16 (a * 256 + b))) else if n = 154 then some (.ifCond .ne (Reader.signed 16 (a * 256 + b))) else if n = 155 then some (.ifCond .lt (Reader.signed 16 (a * 256 + b))) else if n = 156 then some (.ifCond .ge (Reader.signed 16 (a * 256 + b))) else if n = 157 then some (.ifCond .gt (Reader.signed 16 (a * 256 + b))) else if n = 158 then some (.ifCond .le (Reader.signed 16 (a * 256 + b))) else if n = 159 then some (.if_icmp .eq (Reader.signed 16 (a * 256 + b))) else if n = 160 then some (.if_icmp .ne (Reader.signed 16 (a * 256 + b))) else if n = 161 then some (.if_icmp .lt (Reader.signed 16 (a * 256 + b))) else if n = 162 then some (.if_icmp .ge (Reader.signed 16 (a * 256 + b))) else if n = 163 then some (.if_icmp .gt (Reader.signed 16 (a * 256 + b))) else if n = 164 then some (.if_icmp .le (Reader.signed 16 (a * 256 + b))) else if n = 167 then some (.goto (Reader.signed 16 (a * 256 + b))) else if n = 180 then some (.getfield (a * 256 + b)) else if n = 181 then some (.putfield (a * 256 + b)) else if n = 182 then some (.invokevirtual (a * 256 + b)) else if n = 183 then some (.invokespecial (a * 256 + b)) else if n = 184 then some (.invokestatic (a * 256 + b)) else if n = 187 then some (.new (a * 256 + b)) else if n = 189 then some (.anewarray (a * 256 + b)) else if n = 198 then some (.ifnull (Reader.signed 16 (a * 256 + b))) else if n = 199 then some (.ifnonnull (Reader.signed 16 (a * 256 + b))) else if n = 132 then some (.iinc a (Reader.signed 8 b)) else none

/-- is it instruction i, of len bytes, at the head of these bytes -/
def x_is (l : List UInt8) (i : Instr) (len : Nat) : Bool := match len, l with
  | 1, a :: _ => decide (x_d0 a.toNat = some i)
  | 2, a :: b :: _ => decide (x_d1 a.toNat b.toNat = some i)
  | 3, a :: b :: c :: _ => decide (x_d2 a.toNat b.toNat c.toNat = some i)
  | _, _ => false

theorem x_d0_ok {cd : ByteArray} {p : Nat} {b0 : UInt8} {i : Instr} (h0 : cd.data.toList[p]? = some b0) (h : x_d0 b0.toNat = some i) : decode cd p = .ok (i, 1) := by
  by_cases q1 : b0.toNat = 1
  · rw [q1] at h
    cases (show some _ = some i from h)
    exact x_o1 h0 q1
  by_cases q2 : b0.toNat = 2
  · rw [q2] at h
    cases (show some _ = some i from h)
    exact x_o2 h0 q2
  by_cases q3 : b0.toNat = 3
  · rw [q3] at h
    cases (show some _ = some i from h)
    exact x_o3 h0 q3
  by_cases q4 : b0.toNat = 4
  · rw [q4] at h
    cases (show some _ = some i from h)
    exact x_o4 h0 q4
  by_cases q5 : b0.toNat = 5
  · rw [q5] at h
    cases (show some _ = some i from h)
    exact x_o5 h0 q5
  by_cases q6 : b0.toNat = 6
  · rw [q6] at h
    cases (show some _ = some i from h)
    exact x_o6 h0 q6
  by_cases q7 : b0.toNat = 7
  · rw [q7] at h
    cases (show some _ = some i from h)
    exact x_o7 h0 q7
  by_cases q8 : b0.toNat = 8
  · rw [q8] at h
    cases (show some _ = some i from h)
    exact x_o8 h0 q8
  by_cases q26 : b0.toNat = 26
  · rw [q26] at h
    cases (show some _ = some i from h)
    exact x_o26 h0 q26
  by_cases q27 : b0.toNat = 27
  · rw [q27] at h
    cases (show some _ = some i from h)
    exact x_o27 h0 q27
  by_cases q28 : b0.toNat = 28
  · rw [q28] at h
    cases (show some _ = some i from h)
    exact x_o28 h0 q28
  by_cases q29 : b0.toNat = 29
  · rw [q29] at h
    cases (show some _ = some i from h)
    exact x_o29 h0 q29
  by_cases q42 : b0.toNat = 42
  · rw [q42] at h
    cases (show some _ = some i from h)
    exact x_o42 h0 q42
  by_cases q43 : b0.toNat = 43
  · rw [q43] at h
    cases (show some _ = some i from h)
    exact x_o43 h0 q43
  by_cases q44 : b0.toNat = 44
  · rw [q44] at h
    cases (show some _ = some i from h)
    exact x_o44 h0 q44
  by_cases q45 : b0.toNat = 45
  · rw [q45] at h
    cases (show some _ = some i from h)
    exact x_o45 h0 q45
  by_cases q46 : b0.toNat = 46
  · rw [q46] at h
    cases (show some _ = some i from h)
    exact x_o46 h0 q46
  by_cases q50 : b0.toNat = 50
  · rw [q50] at h
    cases (show some _ = some i from h)
    exact x_o50 h0 q50
  by_cases q51 : b0.toNat = 51
  · rw [q51] at h
    cases (show some _ = some i from h)
    exact x_o51 h0 q51
  by_cases q59 : b0.toNat = 59
  · rw [q59] at h
    cases (show some _ = some i from h)
    exact x_o59 h0 q59
  by_cases q60 : b0.toNat = 60
  · rw [q60] at h
    cases (show some _ = some i from h)
    exact x_o60 h0 q60
  by_cases q61 : b0.toNat = 61
  · rw [q61] at h
    cases (show some _ = some i from h)
    exact x_o61 h0 q61
  by_cases q62 : b0.toNat = 62
  · rw [q62] at h
    cases (show some _ = some i from h)
    exact x_o62 h0 q62
  by_cases q75 : b0.toNat = 75
  · rw [q75] at h
    cases (show some _ = some i from h)
    exact x_o75 h0 q75
  by_cases q76 : b0.toNat = 76
  · rw [q76] at h
    cases (show some _ = some i from h)
    exact x_o76 h0 q76
  by_cases q77 : b0.toNat = 77
  · rw [q77] at h
    cases (show some _ = some i from h)
    exact x_o77 h0 q77
  by_cases q78 : b0.toNat = 78
  · rw [q78] at h
    cases (show some _ = some i from h)
    exact x_o78 h0 q78
  by_cases q79 : b0.toNat = 79
  · rw [q79] at h
    cases (show some _ = some i from h)
    exact x_o79 h0 q79
  by_cases q83 : b0.toNat = 83
  · rw [q83] at h
    cases (show some _ = some i from h)
    exact x_o83 h0 q83
  by_cases q84 : b0.toNat = 84
  · rw [q84] at h
    cases (show some _ = some i from h)
    exact x_o84 h0 q84
  by_cases q87 : b0.toNat = 87
  · rw [q87] at h
    cases (show some _ = some i from h)
    exact x_o87 h0 q87
  by_cases q89 : b0.toNat = 89
  · rw [q89] at h
    cases (show some _ = some i from h)
    exact x_o89 h0 q89
  by_cases q92 : b0.toNat = 92
  · rw [q92] at h
    cases (show some _ = some i from h)
    exact x_o92 h0 q92
  by_cases q96 : b0.toNat = 96
  · rw [q96] at h
    cases (show some _ = some i from h)
    exact x_o96 h0 q96
  by_cases q100 : b0.toNat = 100
  · rw [q100] at h
    cases (show some _ = some i from h)
    exact x_o100 h0 q100
  by_cases q104 : b0.toNat = 104
  · rw [q104] at h
    cases (show some _ = some i from h)
    exact x_o104 h0 q104
  by_cases q112 : b0.toNat = 112
  · rw [q112] at h
    cases (show some _ = some i from h)
    exact x_o112 h0 q112
  by_cases q116 : b0.toNat = 116
  · rw [q116] at h
    cases (show some _ = some i from h)
    exact x_o116 h0 q116
  by_cases q120 : b0.toNat = 120
  · rw [q120] at h
    cases (show some _ = some i from h)
    exact x_o120 h0 q120
  by_cases q122 : b0.toNat = 122
  · rw [q122] at h
    cases (show some _ = some i from h)
    exact x_o122 h0 q122
  by_cases q126 : b0.toNat = 126
  · rw [q126] at h
    cases (show some _ = some i from h)
    exact x_o126 h0 q126
  by_cases q128 : b0.toNat = 128
  · rw [q128] at h
    cases (show some _ = some i from h)
    exact x_o128 h0 q128
  by_cases q172 : b0.toNat = 172
  · rw [q172] at h
    cases (show some _ = some i from h)
    exact x_o172 h0 q172
  by_cases q176 : b0.toNat = 176
  · rw [q176] at h
    cases (show some _ = some i from h)
    exact x_o176 h0 q176
  by_cases q177 : b0.toNat = 177
  · rw [q177] at h
    cases (show some _ = some i from h)
    exact x_o177 h0 q177
  by_cases q190 : b0.toNat = 190
  · rw [q190] at h
    cases (show some _ = some i from h)
    exact x_o190 h0 q190
  simp only [x_d0, if_neg q1, if_neg q2, if_neg q3, if_neg q4, if_neg q5, if_neg q6, if_neg q7, if_neg q8, if_neg q26, if_neg q27, if_neg q28, if_neg q29, if_neg q42, if_neg q43, if_neg q44, if_neg q45, if_neg q46, if_neg q50, if_neg q51, if_neg q59, if_neg q60, if_neg q61, if_neg q62, if_neg q75, if_neg q76, if_neg q77, if_neg q78, if_neg q79, if_neg q83, if_neg q84, if_neg q87, if_neg q89, if_neg q92, if_neg q96, if_neg q100, if_neg q104, if_neg q112, if_neg q116, if_neg q120, if_neg q122, if_neg q126, if_neg q128, if_neg q172, if_neg q176, if_neg q177, if_neg q190] at h
  cases h

theorem x_d1_ok {cd : ByteArray} {p : Nat} {b0 b1 : UInt8} {i : Instr} (h0 : cd.data.toList[p]? = some b0) (h1 : cd.data.toList[p + 1]? = some b1) (h : x_d1 b0.toNat b1.toNat = some i) : decode cd p = .ok (i, 2) := by
  by_cases q16 : b0.toNat = 16
  · rw [q16] at h
    cases (show some _ = some i from h)
    exact x_o16 h0 h1 q16
  by_cases q18 : b0.toNat = 18
  · rw [q18] at h
    cases (show some _ = some i from h)
    exact x_o18 h0 h1 q18
  by_cases q21 : b0.toNat = 21
  · rw [q21] at h
    cases (show some _ = some i from h)
    exact x_o21 h0 h1 q21
  by_cases q25 : b0.toNat = 25
  · rw [q25] at h
    cases (show some _ = some i from h)
    exact x_o25 h0 h1 q25
  by_cases q54 : b0.toNat = 54
  · rw [q54] at h
    cases (show some _ = some i from h)
    exact x_o54 h0 h1 q54
  by_cases q58 : b0.toNat = 58
  · rw [q58] at h
    cases (show some _ = some i from h)
    exact x_o58 h0 h1 q58
  by_cases q188 : b0.toNat = 188
  · by_cases r10 : b1.toNat = 10
    · rw [q188, r10] at h
      cases (show some _ = some i from h)
      exact x_o188a h0 h1 q188 r10
    · by_cases r4 : b1.toNat = 4
      · rw [q188, r4] at h
        cases (show some _ = some i from h)
        exact x_o188b h0 h1 q188 r4
      · simp only [x_d1, if_neg q16, if_neg q18, if_neg q21, if_neg q25, if_neg q54, if_neg q58, if_pos q188, if_neg r10, if_neg r4] at h
        cases h
  simp only [x_d1, if_neg q16, if_neg q18, if_neg q21, if_neg q25, if_neg q54, if_neg q58, if_neg q188] at h
  cases h

theorem x_d2_ok {cd : ByteArray} {p : Nat} {b0 b1 b2 : UInt8} {i : Instr} (h0 : cd.data.toList[p]? = some b0) (h1 : cd.data.toList[p + 1]? = some b1) (h2 : cd.data.toList[p + 1 + 1]? = some b2) (h : x_d2 b0.toNat b1.toNat b2.toNat = some i) : decode cd p = .ok (i, 3) := by
  by_cases q17 : b0.toNat = 17
  · rw [q17] at h
    cases (show some _ = some i from h)
    exact x_o17 h0 h1 h2 q17
  by_cases q19 : b0.toNat = 19
  · rw [q19] at h
    cases (show some _ = some i from h)
    exact x_o19 h0 h1 h2 q19
  by_cases q132 : b0.toNat = 132
  · rw [q132] at h
    cases (show some _ = some i from h)
    exact x_o132 h0 h1 h2 q132
  by_cases q153 : b0.toNat = 153
  · rw [q153] at h
    cases (show some _ = some i from h)
    exact x_o153 h0 h1 h2 q153
  by_cases q154 : b0.toNat = 154
  · rw [q154] at h
    cases (show some _ = some i from h)
    exact x_o154 h0 h1 h2 q154
  by_cases q155 : b0.toNat = 155
  · rw [q155] at h
    cases (show some _ = some i from h)
    exact x_o155 h0 h1 h2 q155
  by_cases q156 : b0.toNat = 156
  · rw [q156] at h
    cases (show some _ = some i from h)
    exact x_o156 h0 h1 h2 q156
  by_cases q157 : b0.toNat = 157
  · rw [q157] at h
    cases (show some _ = some i from h)
    exact x_o157 h0 h1 h2 q157
  by_cases q158 : b0.toNat = 158
  · rw [q158] at h
    cases (show some _ = some i from h)
    exact x_o158 h0 h1 h2 q158
  by_cases q159 : b0.toNat = 159
  · rw [q159] at h
    cases (show some _ = some i from h)
    exact x_o159 h0 h1 h2 q159
  by_cases q160 : b0.toNat = 160
  · rw [q160] at h
    cases (show some _ = some i from h)
    exact x_o160 h0 h1 h2 q160
  by_cases q161 : b0.toNat = 161
  · rw [q161] at h
    cases (show some _ = some i from h)
    exact x_o161 h0 h1 h2 q161
  by_cases q162 : b0.toNat = 162
  · rw [q162] at h
    cases (show some _ = some i from h)
    exact x_o162 h0 h1 h2 q162
  by_cases q163 : b0.toNat = 163
  · rw [q163] at h
    cases (show some _ = some i from h)
    exact x_o163 h0 h1 h2 q163
  by_cases q164 : b0.toNat = 164
  · rw [q164] at h
    cases (show some _ = some i from h)
    exact x_o164 h0 h1 h2 q164
  by_cases q167 : b0.toNat = 167
  · rw [q167] at h
    cases (show some _ = some i from h)
    exact x_o167 h0 h1 h2 q167
  by_cases q180 : b0.toNat = 180
  · rw [q180] at h
    cases (show some _ = some i from h)
    exact x_o180 h0 h1 h2 q180
  by_cases q181 : b0.toNat = 181
  · rw [q181] at h
    cases (show some _ = some i from h)
    exact x_o181 h0 h1 h2 q181
  by_cases q182 : b0.toNat = 182
  · rw [q182] at h
    cases (show some _ = some i from h)
    exact x_o182 h0 h1 h2 q182
  by_cases q183 : b0.toNat = 183
  · rw [q183] at h
    cases (show some _ = some i from h)
    exact x_o183 h0 h1 h2 q183
  by_cases q184 : b0.toNat = 184
  · rw [q184] at h
    cases (show some _ = some i from h)
    exact x_o184 h0 h1 h2 q184
  by_cases q187 : b0.toNat = 187
  · rw [q187] at h
    cases (show some _ = some i from h)
    exact x_o187 h0 h1 h2 q187
  by_cases q189 : b0.toNat = 189
  · rw [q189] at h
    cases (show some _ = some i from h)
    exact x_o189 h0 h1 h2 q189
  by_cases q198 : b0.toNat = 198
  · rw [q198] at h
    cases (show some _ = some i from h)
    exact x_o198 h0 h1 h2 q198
  by_cases q199 : b0.toNat = 199
  · rw [q199] at h
    cases (show some _ = some i from h)
    exact x_o199 h0 h1 h2 q199
  simp only [x_d2, if_neg q17, if_neg q19, if_neg q132, if_neg q153, if_neg q154, if_neg q155, if_neg q156, if_neg q157, if_neg q158, if_neg q159, if_neg q160, if_neg q161, if_neg q162, if_neg q163, if_neg q164, if_neg q167, if_neg q180, if_neg q181, if_neg q182, if_neg q183, if_neg q184, if_neg q187, if_neg q189, if_neg q198, if_neg q199] at h
  cases h

theorem x_is_ok {cd : ByteArray} {p len : Nat} {i : Instr} (h : x_is (cd.data.toList.drop p) i len = true) : decode cd p = .ok (i, len) := by
  unfold x_is at h
  split at h
  · rename_i a r hl
    refine x_d0_ok (b0 := a) ?_ (of_decide_eq_true h)
    have := congrArg (fun l => l[0]?) hl
    simpa [List.getElem?_drop] using this
  · rename_i a b r hl
    refine x_d1_ok (b0 := a) (b1 := b) ?_ ?_ (of_decide_eq_true h)
    · have := congrArg (fun l => l[0]?) hl
      simpa [List.getElem?_drop] using this
    · have := congrArg (fun l => l[1]?) hl
      simpa [List.getElem?_drop] using this
  · rename_i a b c r hl
    refine x_d2_ok (b0 := a) (b1 := b) (b2 := c) ?_ ?_ ?_ (of_decide_eq_true h)
    · have := congrArg (fun l => l[0]?) hl
      simpa [List.getElem?_drop] using this
    · have := congrArg (fun l => l[1]?) hl
      simpa [List.getElem?_drop] using this
    · have := congrArg (fun l => l[2]?) hl
      simpa [List.getElem?_drop, Nat.add_assoc] using this
  · cases h
end
section
/-! THE TABLES AGREE WITH THE BYTES AND THE WORDS -/
def x_D (sf : List UInt8) (p p2 : Nat) (i : Instr) (len : Nat) : Bool := x_is sf i len && decide (p2 = p + len)
def x_ifI (u : Nat) (off : Int) : Instr := if u = 0 then .ifCond .eq off else if u = 1 then .ifCond .ne off else if u = 2 then .ifCond .lt off else if u = 3 then .ifCond .ge off else if u = 4 then .ifCond .gt off else .ifCond .le off
def x_icI (u : Nat) (off : Int) : Instr := if u = 0 then .if_icmp .eq off else if u = 1 then .if_icmp .ne off else if u = 2 then .if_icmp .lt off else if u = 3 then .if_icmp .ge off else if u = 4 then .if_icmp .gt off else .if_icmp .le off
def x_q (c : Nat) : vw_C := vwCl.getD c (RX0, TX0, 0)
def x_tp (cd : List xI) (t : Nat) : Nat := (x_dec (cd.getD t x_63)).2.2.2.2
noncomputable def x_dr (n : Nat) : List Cond := Nat.rec (motive := fun _ => List Cond) lw_tbl (fun _ r => r.tail) n
noncomputable def x_wd (p : Nat) (w : Cond) : Bool := decide ((x_dr p).head? = some w)
/-- the bytes of a method, as its word in the tables has them -/
noncomputable def x_bw (me : XM) : ByteArray := if me.2.2.2.2.1.2.2 = 8 then code else match (x_dr me.2.2.2.2.2.1.1).head? with
  | some (.code _ b _ _) => b
  | _ => ⟨#[]⟩
noncomputable def x_by (y : Nat) : ByteArray := x_bw (x_mi y)
noncomputable def x_ckL (own : String) (t u : Nat) (f : Nat → Instr) (sf : List UInt8) (p p2 : Nat) : Bool := match xml[u]? with
  | some (pl, o, ix, y) => decide (o = own) && decide (y = t) && x_D sf p p2 (f ix) 3
  | none => false
def x_ckF (own : String) (t u : Nat) (f : Nat → Instr) (sf : List UInt8) (p p2 : Nat) : Bool := match xfl[u]? with
  | some (pl, o, ix, c, j) => decide (o = own) && decide (t = c * 16 + j) && x_D sf p p2 (f ix) 3
  | none => false
noncomputable def x_ckj (own : String) (rt dp lc st rk : Nat) (cd : List xI) (bw : ByteArray) (sf : List UInt8) (i : xI) (p2 : Nat) : Bool := match i with
  | (op, a, t, u, p) =>
    if op = 0 then (if u = 0 then x_D sf p p2 (.iconst a) 1 else if u = 1 then x_D sf p p2 (.bipush a) 2 && decide (-128 ≤ a) && decide (a < 128) else if u = 2 then x_D sf p p2 (.sipush a) 3 && decide (-32768 ≤ a) && decide (a < 32768)
      else (match xcn[u - 3]? with
        | some (pl, o, ix, v, w) => decide (o = own) && decide (v = Int32.ofInt a) && (if w = 1 then x_D sf p p2 (.ldc_w ix) 3 else x_D sf p p2 (.ldc ix) 2)
        | none => false)) && decide (-2147483648 ≤ a) && decide (a < 2147483648)
    else if op = 1 then (if u = 0 then decide (t < 4) && x_D sf p p2 (.iload_n (Fin.ofNat 4 t)) 1 else x_D sf p p2 (.iload t) 2)
    else if op = 2 then (if u = 0 then decide (t < 4) && x_D sf p p2 (.aload_n (Fin.ofNat 4 t)) 1 else x_D sf p p2 (.aload t) 2)
    else if op = 3 then (if u = 0 then decide (t < 4) && x_D sf p p2 (.istore_n (Fin.ofNat 4 t)) 1 else x_D sf p p2 (.istore t) 2)
    else if op = 4 then (if u = 0 then decide (t < 4) && x_D sf p p2 (.astore_n (Fin.ofNat 4 t)) 1 else x_D sf p p2 (.astore t) 2)
    else if op = 5 then x_D sf p p2 (.iinc t a) 3
    else if op = 6 then x_D sf p p2 .iadd 1
    else if op = 7 then x_D sf p p2 .isub 1
    else if op = 8 then x_D sf p p2 .imul 1
    else if op = 9 then x_D sf p p2 .irem 1
    else if op = 10 then x_D sf p p2 .ineg 1
    else if op = 11 then x_D sf p p2 .iand 1
    else if op = 12 then x_D sf p p2 .ior 1
    else if op = 13 then x_D sf p p2 .ishl 1
    else if op = 14 then x_D sf p p2 .ishr 1
    else if op = 15 then x_D sf p p2 (x_ifI u ((x_tp cd t : Int) - p)) 3
    else if op = 16 then x_D sf p p2 (x_icI u ((x_tp cd t : Int) - p)) 3
    else if op = 17 then x_is sf (.goto ((x_tp cd t : Int) - p)) 3
    else if op = 18 then x_D sf p p2 (.ifnull ((x_tp cd t : Int) - p)) 3
    else if op = 19 then x_D sf p p2 (.ifnonnull ((x_tp cd t : Int) - p)) 3
    else if op = 20 then x_D sf p p2 .aconst_null 1
    else if op = 21 then x_D sf p p2 .dup 1
    else if op = 22 then x_D sf p p2 .pop 1
    else if op = 23 then x_D sf p p2 .dup2 1
    else if op = 24 then x_ckF own t u .getfield sf p p2 && decide (xrf (t / 16) (t % 16) = false)
    else if op = 25 then x_ckF own t u .getfield sf p p2 && decide (xrf (t / 16) (t % 16) = true)
    else if op = 26 then x_ckF own t u .putfield sf p p2 && decide (xrf (t / 16) (t % 16) = false) && decide (((x_q (t / 16)).2.1 (t % 16)).2.2.1 = "I") && (decide (((x_q (t / 16)).2.1 (t % 16)).2.2.2 = false) || (decide (st = 2) && decide (((x_q (t / 16)).2.1 (t % 16)).1 = own)))
    else if op = 27 then x_ckF own t u .putfield sf p p2 && decide (xrf (t / 16) (t % 16) = true) && (decide (((x_q (t / 16)).2.1 (t % 16)).2.2.2 = false) || (decide (st = 2) && decide (((x_q (t / 16)).2.1 (t % 16)).1 = own)))
    else if op = 32 then x_ckF own t u .putfield sf p p2 && decide (xrf (t / 16) (t % 16) = false) && decide (((x_q (t / 16)).2.1 (t % 16)).2.2.1 = "Z") && decide (((x_q (t / 16)).2.1 (t % 16)).2.2.2 = false)
    else if op = 28 then x_D sf p p2 .iaload 1
    else if op = 29 then x_D sf p p2 .iastore 1
    else if op = 30 then x_D sf p p2 .aaload 1
    else if op = 31 then x_D sf p p2 .aastore 1
    else if op = 33 then x_D sf p p2 .baload 1
    else if op = 34 then x_D sf p p2 .bastore 1
    else if op = 35 then (match xcl[u]? with
      | some (pl, o, ix, cn) => decide (o = own) && decide (t < 8) && decide (cn = (x_q t).1) && x_D sf p p2 (.new ix) 3
      | none => false)
    else if op = 36 then x_D sf p p2 (.newarray .int) 2
    else if op = 37 then x_D sf p p2 (.newarray .boolean) 2
    else if op = 38 then (match xcl[u]? with
      | some (pl, o, ix, cn) => decide (o = own) && decide (10 ≤ t) && decide (t < 14) && decide (cn = ["WheelStands$Cart", "WheelStands$Stand", "WheelStands$Town", "WheelStands$Wheel"].getD (t - 10) "") && x_D sf p p2 (.anewarray ix) 3
      | none => false)
    else if op = 40 then x_ckL own t u .invokevirtual sf p p2 && decide (x_st t = 0) && decide (x_dp t + 1 ≤ dp) && decide (8 + (x_ml t + 11) + x_lc t ≤ lc)
    else if op = 41 then x_ckL own t u .invokestatic sf p p2 && decide (x_st t = 1) && decide (x_dp t + 1 ≤ dp) && decide (8 + (x_ml t + 11) + x_lc t ≤ lc)
    else if op = 42 then x_ckL own t u .invokespecial sf p p2 && decide (x_st t = 2) && decide (x_dp t + 1 ≤ dp) && decide (8 + (x_ml t + 11) + x_lc t ≤ lc)
    else if op = 56 then x_ckL own t u .invokestatic sf p p2 && decide (t = xprC ∨ t = xprM) && decide (x_st t = 1) && decide (x_dp t + 1 ≤ dp) && decide (8 + (x_ml t + 11) + x_lc t ≤ lc)
    else if op = 43 then x_wd u (.methodLink own t objectInit) && x_D sf p p2 (.invokespecial t) 3 && decide (1 ≤ dp) && decide (40 ≤ lc)
    else if op = 44 then x_wd u (.methodLink own t Lib.Math.max.name) && x_D sf p p2 (.invokestatic t) 3 && decide (1 ≤ dp) && decide (40 ≤ lc)
    else if op = 45 then x_wd u (.methodLink own t Lib.Math.min.name) && x_D sf p p2 (.invokestatic t) 3 && decide (1 ≤ dp) && decide (40 ≤ lc)
    else if op = 46 then x_wd u (.methodLink own t arraycopyName) && x_D sf p p2 (.invokestatic t) 3 && decide (1 ≤ dp) && decide (40 ≤ lc)
    else if op = 47 then (match xsw[u]? with
      | some ((d, lo, hi, offs, len), dt, ts) => decide (decode bw p = .ok (.tableswitch d lo hi offs, len)) && decide ((x_tp cd dt : Int) = p + d) && decide (offs.size = ts.length) && decide ((ts.length : Int) = hi - lo + 1) && (List.range ts.length).all (fun i => decide ((x_tp cd (ts.getD i 0) : Int) = p + offs.getD i 0))
      | none => false)
    else if op = 50 then x_is sf .ireturn 1 && decide (rt = 1)
    else if op = 51 then x_is sf .ireturn 1 && decide (rt = 2)
    else if op = 52 then x_is sf .areturn 1 && decide (3 ≤ rt)
    else if op = 53 then x_is sf .return_ 1 && decide (rt = 0)
    else if op = 54 then x_D sf p p2 .iaload 1 && decide (rk = 8)
    else if op = 55 then x_D sf p p2 .arraylength 1 && decide (rk = 8)
    else false
noncomputable def x_cki (me : XM) (sf : List UInt8) (n : xI) (p2 : Nat) : Bool := x_ckj me.1.cls me.2.2.1 me.2.2.2.1.1 me.2.2.2.1.2.1 me.2.2.2.2.1.2.1 me.2.2.2.2.1.2.2 me.2.2.2.2.2.2 (x_bw me) sf (x_dec n) p2
noncomputable def x_ckl (me : XM) : List UInt8 → List xI → Bool
  | _, [] => true
  | sf, n :: r => x_cki me sf n (x_dec (r.headD x_63)).2.2.2.2 && (r.isEmpty || decide ((x_dec n).2.2.2.2 ≤ (x_dec (r.headD x_63)).2.2.2.2)) && x_ckl me (sf.drop ((x_dec (r.headD x_63)).2.2.2.2 - (x_dec n).2.2.2.2)) r
/-- a method's own words -/
noncomputable def x_ckm (me : XM) : Bool := match me with
  | (nm, ml, rt, _, (np, st, rk), (pc, ps, psel, pin), _) =>
    (match (x_dr pc).head? with
      | some (.code nm2 _ ml2 ret2) => decide (nm2 = nm) && decide (ml2 = ml) && decide (ret2 = x_rty rt)
      | _ => false) && x_wd pin (.initialized nm.cls) && decide (nm.cls = (x_q rk).1) && decide (rk < 8) && decide (rt < 6) && decide (np ≤ ml) && plainName nm.cls
      && decide (nm.cls ≠ "java/lang/invoke/MethodHandle" ∧ nm.cls ≠ "java/lang/invoke/VarHandle")
      && (if st = 1 then x_wd ps (.static nm) && decide ((parseMethodDescriptor nm.desc).map (fun d => d.parameters.length) = some np)
          else decide (1 ≤ np) && x_wd ps (.instanceMethod nm) && decide ((parseMethodDescriptor nm.desc).map (fun d => d.parameters.length) = some (np - 1)) && (if st = 2 then decide (nm.name = "<init>") && decide (rt = 0) else decide (st = 0) && x_wd psel (.selects nm.cls nm nm)))
noncomputable def x_ckA (me : XM) : Bool := x_ckl me (x_bw me).data.toList me.2.2.2.2.2.2 && (me.2.2.2.2.2.2.isEmpty || decide ((x_dec (me.2.2.2.2.2.2.headD x_63)).2.2.2.2 = 0))
theorem x_flok : xfl.all (fun q => match q with | (pl, o, ix, c, j) => decide (c < 8) && decide (j < xnsl c) && decide (j < 16) && x_wd pl (.fieldLink o ix ((x_q c).2.1 j).1 ((x_q c).2.1 j).2.1 ((x_q c).2.1 j).2.2.1)) = true := by decide +kernel
theorem x_mlok : xml.all (fun q => match q with | (pl, o, ix, y) => x_wd pl (.methodLink o ix (x_nm y)) && decide (y < 181)) = true := by decide +kernel
theorem x_clok : xcl.all (fun q => match q with | (pl, o, ix, cn) => x_wd pl (.classLink o ix cn)) = true := by decide +kernel
theorem x_cnok : xcn.all (fun q => match q with | (pl, o, ix, v, _) => x_wd pl (.constant o ix v)) = true := by decide +kernel
theorem x_inok : (List.range 8).all (fun t => x_wd (xpin t) (.instantiable (x_q t).1 (xnsl t)) && x_wd (xpid t) (.initialized (x_q t).1)) = true := by decide +kernel
theorem x_jdk : (x_wd xp_oi (.instanceMethod objectInit) && x_wd xp_oc (.code objectInit ⟨#[0xb1]⟩ 1 none) && x_wd xp_maxs (.static Lib.Math.max.name) && x_wd xp_maxc (.code Lib.Math.max.name Lib.Math.max.code 2 (some .int)) && x_wd xp_mins (.static Lib.Math.min.name) && x_wd xp_minc (.code Lib.Math.min.name Lib.Math.min.code 2 (some .int)) && x_wd xp_mi (.initialized "java/lang/Math") && x_wd xp_si (.initialized "java/lang/System") && x_wd xp_an (.native arraycopyName) && x_wd xp_as (.static arraycopyName) && x_wd xp_ai (.arrayClass .int) && x_wd xp_ab (.arrayClass .boolean)) = true := by decide +kernel
theorem x_aok : (List.range 4).all (fun t => x_wd ([xp_o10, xp_o11, xp_o12, xp_o13].getD t 0) (.arrayOver (.object (["WheelStands$Cart", "WheelStands$Stand", "WheelStands$Town", "WheelStands$Wheel"].getD t "")))) = true := by decide +kernel
def x_ty (c j : Nat) : FieldType := if c = 0 then tyX0 j else if c = 1 then tyX1 j else if c = 2 then tyX2 j else if c = 3 then tyX3 j else if c = 4 then tyX4 j else if c = 5 then tyX5 j else if c = 6 then tyX6 j else tyX7 j
theorem x_layok : (List.range 8).all (fun c => (List.range (xnsl c)).all (fun j => x_wd ((xlay.getD c []).getD j 0) (u_lay (x_q c).1 (x_q c).2.1 j) && goodWord (u_lay (x_q c).1 (x_q c).2.1 j))) = true := by decide +kernel
theorem x_tyok : (List.range 8).all (fun c => decide ((x_q c).2.2 = xnsl c) && (List.range (xnsl c)).all (fun j => decide (parseFieldDescriptor ((x_q c).2.1 j).2.2.1 = some (x_ty c j)) && (if xrf c j = true then (match x_ty c j with | .object _ => true | .array _ => true | _ => false) else if ((x_q c).2.1 j).2.2.1 = "I" then decide (x_ty c j = .int) else decide (x_ty c j = .boolean)))) = true := by decide +kernel
end
section
theorem x_m0 : xmt0.all x_ckm = true := by sorry
theorem x_m1 : xmt1.all x_ckm = true := by sorry
theorem x_m2 : xmt2.all x_ckm = true := by sorry
theorem x_m3 : xmt3.all x_ckm = true := by sorry
theorem x_m4 : xmt4.all x_ckm = true := by sorry
theorem x_m5 : xmt5.all x_ckm = true := by sorry
theorem x_m6 : (xmt6.take 25).all x_ckm = true := by sorry
theorem x_a0 : xmt0.all x_ckA = true := by sorry
theorem x_a1 : xmt1.all x_ckA = true := by sorry
theorem x_a2 : xmt2.all x_ckA = true := by sorry
theorem x_a3 : xmt3.all x_ckA = true := by sorry
theorem x_a4 : xmt4.all x_ckA = true := by sorry
theorem x_a5 : xmt5.all x_ckA = true := by sorry
theorem x_a6 : (xmt6.take 25).all x_ckA = true := by sorry
theorem x_aL : (xmt6.drop 25).all x_ckA = true := by sorry
end
section
/-! WHAT THE CHECKS GIVE -/
theorem x_wdr (n : Nat) : x_dr n = lw_tbl.drop n := by
  induction n with
  | zero => rfl
  | succ n ih =>
    show (x_dr n).tail = _
    rw [ih, List.tail_drop]
theorem x_wd_ok {n : Nat} {w : Cond} (h : x_wd n w = true) : w ∈ lw_tbl := by
  have h1 : (x_dr n).head? = some w := of_decide_eq_true h
  rw [x_wdr, List.head?_drop] at h1
  exact List.mem_of_getElem? h1
theorem x_mdr (n : Nat) : x_md n = xmt.drop n := by
  induction n with
  | zero => rfl
  | succ n ih =>
    show (x_md n).tail = _
    rw [ih, List.tail_drop]
theorem x_len : xmt.length = 182 := by decide +kernel
theorem x_mem {y : Nat} (h : y < 182) : xmt[y]? = some (x_mi y) := by
  unfold x_mi
  rw [x_mdr, List.headD_eq_head?_getD, List.head?_drop]
  rw [List.getElem?_eq_getElem (by rw [x_len]; exact h)]
  rfl
theorem x_apart7 {q : XM → Bool} {y : Nat} (h : y < 182) (h0 : xmt0.all q = true) (h1 : xmt1.all q = true) (h2 : xmt2.all q = true) (h3 : xmt3.all q = true) (h4 : xmt4.all q = true) (h5 : xmt5.all q = true) (h6 : xmt6.all q = true) : q (x_mi y) = true := by
  have hm := List.mem_of_getElem? (x_mem h)
  unfold xmt at hm
  simp only [List.mem_append] at hm
  rcases hm with hm | hm | hm | hm | hm | hm | hm
  · exact List.all_eq_true.mp h0 _ hm
  · exact List.all_eq_true.mp h1 _ hm
  · exact List.all_eq_true.mp h2 _ hm
  · exact List.all_eq_true.mp h3 _ hm
  · exact List.all_eq_true.mp h4 _ hm
  · exact List.all_eq_true.mp h5 _ hm
  · exact List.all_eq_true.mp h6 _ hm
theorem x_ckA_ok {y : Nat} (h : y < 182) : x_ckA (x_mi y) = true := by
  refine x_apart7 h x_a0 x_a1 x_a2 x_a3 x_a4 x_a5 ?_
  rw [← List.take_append_drop 25 xmt6, List.all_append, x_a6, x_aL]
  rfl
theorem x_ckm_ok {y : Nat} (h : y < 181) : x_ckm (x_mi y) = true := by
  have h2 := x_mem (show y < 182 by omega)
  have e : xmt = (xmt0 ++ (xmt1 ++ (xmt2 ++ (xmt3 ++ (xmt4 ++ (xmt5 ++ (xmt6.take 25))))))) ++ xmt6.drop 25 := by
    unfold xmt
    simp only [List.append_assoc, List.take_append_drop]
  have hl : (xmt0 ++ (xmt1 ++ (xmt2 ++ (xmt3 ++ (xmt4 ++ (xmt5 ++ (xmt6.take 25))))))).length = 181 := by decide +kernel
  rw [e, List.getElem?_append_left (by rw [hl]; exact h)] at h2
  have hm := List.mem_of_getElem? h2
  simp only [List.mem_append] at hm
  rcases hm with hm | hm | hm | hm | hm | hm | hm
  · exact List.all_eq_true.mp x_m0 _ hm
  · exact List.all_eq_true.mp x_m1 _ hm
  · exact List.all_eq_true.mp x_m2 _ hm
  · exact List.all_eq_true.mp x_m3 _ hm
  · exact List.all_eq_true.mp x_m4 _ hm
  · exact List.all_eq_true.mp x_m5 _ hm
  · exact List.all_eq_true.mp x_m6 _ hm
theorem x_ckl_ok (me : XM) (bl : List UInt8) : ∀ (r : List xI) (p : Nat), (r = [] ∨ (x_dec (r.headD x_63)).2.2.2.2 = p) → x_ckl me (bl.drop p) r = true → ∀ k n, r[k]? = some n → x_cki me (bl.drop (x_dec n).2.2.2.2) n (x_dec (r.getD (k + 1) x_63)).2.2.2.2 = true := by
  intro r
  induction r with
  | nil => intro p _ _ k n h; simp at h
  | cons a r ih =>
    intro p hp hc k n hk
    have hp : (x_dec a).2.2.2.2 = p := by
      rcases hp with hp | hp
      · cases hp
      · exact hp
    have hc : (x_cki me (bl.drop p) a (x_dec (r.headD x_63)).2.2.2.2 && (r.isEmpty || decide ((x_dec a).2.2.2.2 ≤ (x_dec (r.headD x_63)).2.2.2.2)) && x_ckl me ((bl.drop p).drop ((x_dec (r.headD x_63)).2.2.2.2 - (x_dec a).2.2.2.2)) r) = true := hc
    simp only [Bool.and_eq_true] at hc
    obtain ⟨⟨h1, h2⟩, h3⟩ := hc
    cases k with
    | zero =>
      simp only [List.getElem?_cons_zero, Option.some.injEq] at hk
      subst hk
      rw [hp]
      have e : (a :: r).getD (0 + 1) x_63 = r.headD x_63 := by cases r <;> rfl
      rw [e]
      exact h1
    | succ k =>
      simp only [List.getElem?_cons_succ] at hk
      have hr : r ≠ [] := by intro q; rw [q] at hk; simp at hk
      have h2 : (x_dec a).2.2.2.2 ≤ (x_dec (r.headD x_63)).2.2.2.2 := by
        simp only [Bool.or_eq_true, List.isEmpty_iff, decide_eq_true_eq] at h2
        exact h2.resolve_left hr
      rw [List.drop_drop, show p + ((x_dec (r.headD x_63)).2.2.2.2 - (x_dec a).2.2.2.2) = (x_dec (r.headD x_63)).2.2.2.2 by omega] at h3
      have := ih _ (Or.inr rfl) h3 k n hk
      have e : (a :: r).getD (k + 1 + 1) x_63 = r.getD (k + 1) x_63 := rfl
      rw [e]
      exact this
theorem x_ck {y k : Nat} (hy : y < 182) (hk : k < (x_cd y).length) : x_ckj (x_nm y).cls (x_rt y) (x_dp y) (x_lc y) (x_st y) (x_rk y) (x_cd y) (x_by y) ((x_by y).data.toList.drop (x_pc y k)) (x_in y k) (x_pc y (k + 1)) = true := by
  have h := x_ckA_ok hy
  unfold x_ckA at h
  simp only [Bool.and_eq_true, Bool.or_eq_true, List.isEmpty_iff, decide_eq_true_eq] at h
  obtain ⟨h1, h2⟩ := h
  have hg : (x_cd y)[k]? = some ((x_cd y).getD k x_63) := by
    rw [List.getD_eq_getElem?_getD, List.getElem?_eq_getElem hk]
    rfl
  have h3 := x_ckl_ok (x_mi y) (x_bw (x_mi y)).data.toList (x_mi y).2.2.2.2.2.2 0 h2 (by rw [List.drop_zero]; exact h1) k _ hg
  exact h3
theorem x_D_ok {bw : ByteArray} {p p2 len : Nat} {i : Instr} (h : x_D (bw.data.toList.drop p) p p2 i len = true) : decode bw p = .ok (i, len) ∧ p2 = p + len := by
  unfold x_D at h
  simp only [Bool.and_eq_true, decide_eq_true_eq] at h
  exact ⟨x_is_ok h.1, h.2⟩
end
section
/-! THE WORLD AS THE INTERPRETER SEES IT -/
def x_rf (L : List Nat) (r : Int) : Option Nat := if r < 0 then none else some (L.getD r.toNat 0)
def x_conc (bs : Nat) (L : List Nat) : xV → Value
  | .inl i => .int (Int32.ofInt i)
  | .inr r => if r = -2 then .ref bs else va_rf (x_rf L r)
def x_fv (L : List Nat) (h : xH) (a : Int) (c j : Nat) : Value := if xrf c j = true then va_rf (x_rf L (h.2.1 a j)) else .int (Int32.ofInt (h.2.2 a j))
def x_fs (L : List Nat) (h : xH) (a : Int) (c : Nat) : List Value := (List.range (xnsl c)).map (fun j => x_fv L h a c j)
def x_ent (cy : Nat → ClassId) (L : List Nat) (h : xH) (a : Int) : va_E := if x_kd a < 8 then .inr (x_kd a, x_fs L h a (x_kd a)) else if x_kd a < 10 then .inl (cy (x_kd a), (x_ln a).toNat, .inl (fun j => Int32.ofInt (h.2.2 a j))) else .inl (cy (x_kd a), (x_ln a).toNat, .inr (.inr (.inr (.inr (fun j => x_rf L (h.2.1 a j))))))
def x_ws (cy : Nat → ClassId) (L : List Nat) (h : xH) : va_W := (List.range L.length).map (fun k => (L.getD k 0, x_ent cy L h k))
def x_tys (cy : Nat → ClassId) : List (ClassId × FieldType) := [(cy 8, .int), (cy 9, .boolean), (cy 10, .object "WheelStands$Cart"), (cy 11, .object "WheelStands$Stand"), (cy 12, .object "WheelStands$Town"), (cy 13, .object "WheelStands$Wheel")]
def x_aos : List String := ["WheelStands$Cart", "WheelStands$Stand", "WheelStands$Town", "WheelStands$Wheel"]
def x_in32 (i : Int) : Prop := -2147483648 ≤ i ∧ i < 2147483648
def x_okv (z : Int) : xV → Prop
  | .inl i => x_in32 i
  | .inr r => r < z
def x_Vw (D : va_G) (cy : Nat → ClassId) (A : Nat → Prop) (L : List Nat) (h : xH) (H : Heap) : Prop := (L.length : Int) = h.1 ∧ (∀ a k, x_in32 (h.2.2 a k)) ∧ (∀ a k, -1 ≤ h.2.1 a k ∧ h.2.1 a k < h.1) ∧ va_P D vwCl (x_ws cy L h) H ∧ va_D A (x_ws cy L h)
def x_lr (bs : Nat) (L : List Nat) (ls : Array Slot) (nL : Nat) (als : List xV) : Prop := ls.size = nL ∧ lv_wf ls ∧ als.length = nL ∧ ∀ (i : Nat) (v : xV), als[i]? = some v → v ≠ x_un → ls[i]? = some (Slot.val (x_conc bs L v))
def x_ext (L L' : List Nat) : Prop := ∃ t, L' = L ++ t
def x_Scr (s : State) (A : Nat → Prop) (bs : Nat) (h : xH) : Prop := ∃ (N : Nat) (xs : Nat → Int32), va_X bs N xs s s.heap ∧ bs < s.heap.size ∧ ¬ A bs ∧ (∀ j : Nat, j < N → h.2.2 (-2) j = (xs j).toInt) ∧ h.2.2 (-2) (-1) = N ∧ N < 2147483648
def x_Fr (p : Program) (R : Room) (s : State) (m : MethodId) (args : Array Value) (meth : Method) (c : Code) (D : va_G) (cy : Nat → ClassId) (A : Nat → Prop) (y : Nat) : Prop :=
  y < 182 ∧ p.tables.exec = Jvm.exec ∧ c.code = x_by y ∧ c.maxLocals = x_ml y ∧ s.vm.findClass (x_nm y).cls = some m.cls ∧ (∀ w ∈ lw_tbl, goodWord w = true → w.before args s = true) ∧ (x_st y = 2 → meth.name = "<init>") ∧ va_K D vwCl (x_tys cy) s ∧ (∀ C ∈ x_aos, va_AO C s) ∧ x_dp y ≤ R.frames ∧ x_lc y ≤ R.locals ∧ (∀ q : Nat, s.heap.size ≤ q → A q)
def x_St (s : State) (D : va_G) (cy : Nat → ClassId) (A : Nat → Prop) (bs y CC SS : Nat) (L : List Nat) (h : xH) (H : Heap) (locs : List Loc) (ls : Array Slot) (als ast : List xV) (b : xB) (cells slots : Nat) : Prop :=
  x_Vw D cy A L h H ∧ va_S A s.heap H locs ∧ x_lr bs L ls (x_ml y) als ∧ (∀ v ∈ als, x_okv h.1 v) ∧ (∀ v ∈ ast, x_okv h.1 v) ∧ cells + b.1 = CC ∧ slots + b.2 = SS
/-! numbers -/
theorem x_toInt {i : Int} (h : x_in32 i) : (Int32.ofInt i).toInt = i := Int32.toInt_ofInt_of_le (by have := h.1; simpa using this) (by have := h.2; simpa using this)
theorem x_of (v : Int32) : Int32.ofInt v.toInt = v := Int32.ofInt_toInt v
theorem x_in32_t (v : Int32) : x_in32 v.toInt := ⟨by have := Int32.le_toInt v; simpa using this, by have := Int32.toInt_lt v; simpa using this⟩
theorem x_w_in (x : Int) : x_in32 (x_w x) := by
  unfold x_in32 x_w
  omega
theorem x_w_of (x : Int) : Int32.ofInt (x_w x) = Int32.ofInt x := by
  apply Int32.toInt_inj.mp
  rw [x_toInt (x_w_in x), Int32.toInt_ofInt]
  have e : ((Int32.size : Nat) : Int) = 4294967296 := rfl
  unfold x_w
  rw [Int.bmod_def, e]
  omega
theorem x_w_eq {x : Int} (h : x_in32 x) : x_w x = x := by
  unfold x_in32 at h
  unfold x_w
  omega
theorem x_add (i j : Int) : Int32.ofInt i + Int32.ofInt j = Int32.ofInt (x_w (i + j)) := by
  rw [x_w_of, Int32.ofInt_add]
theorem x_sub (i j : Int) : Int32.ofInt i - Int32.ofInt j = Int32.ofInt (x_w (i - j)) := by
  rw [x_w_of, Int32.ofInt_sub]
theorem x_mul (i j : Int) : Int32.ofInt i * Int32.ofInt j = Int32.ofInt (x_w (i * j)) := by
  rw [x_w_of, Int32.ofInt_mul]
theorem x_neg (i : Int) : -Int32.ofInt i = Int32.ofInt (x_w (-i)) := by
  rw [x_w_of, Int32.ofInt_neg]
theorem x_lt {i j : Int} (hi : x_in32 i) (hj : x_in32 j) : Int32.ofInt i < Int32.ofInt j ↔ i < j := by
  rw [Int32.lt_iff_toInt_lt, x_toInt hi, x_toInt hj]
theorem x_le {i j : Int} (hi : x_in32 i) (hj : x_in32 j) : Int32.ofInt i ≤ Int32.ofInt j ↔ i ≤ j := by
  rw [Int32.le_iff_toInt_le, x_toInt hi, x_toInt hj]
theorem x_eqi {i j : Int} (hi : x_in32 i) (hj : x_in32 j) : Int32.ofInt i = Int32.ofInt j ↔ i = j := by
  rw [← Int32.toInt_inj, x_toInt hi, x_toInt hj]
theorem x_zero : x_in32 0 := by unfold x_in32; omega
theorem x_of0 : Int32.ofInt 0 = 0 := rfl
theorem x_clamp {i : Int} (h : x_in32 i) : (Int32.ofInt i).toNatClampNeg = i.toNat := by
  show (Int32.ofInt i).toInt.toNat = _
  rw [x_toInt h]
theorem x_vpin {i n : Int} (h : x_in32 i) (h0 : 0 ≤ i) (h1 : i < n) : vp_in (Int32.ofInt i) n.toNat := by
  rw [vp_in_iff, x_toInt h]
  omega
/-! references -/
theorem x_getD_ext {L t : List Nat} {k : Nat} (h : k < L.length) : (L ++ t).getD k 0 = L.getD k 0 := by
  simp [List.getD_eq_getElem?_getD, List.getElem?_append_left h]
theorem x_rf_ext {L t : List Nat} {r : Int} (h : r < L.length) : x_rf (L ++ t) r = x_rf L r := by
  unfold x_rf
  by_cases q : r < 0
  · rw [if_pos q, if_pos q]
  · rw [if_neg q, if_neg q, x_getD_ext (by omega)]
theorem x_conc_ext {bs : Nat} {L L' : List Nat} {z : Int} {v : xV} (hz : (L.length : Int) = z) (he : x_ext L L') (h : x_okv z v) : x_conc bs L' v = x_conc bs L v := by
  obtain ⟨t, rfl⟩ := he
  cases v with
  | inl i => rfl
  | inr r =>
    show (if r = -2 then _ else va_rf (x_rf (L ++ t) r)) = if r = -2 then _ else va_rf (x_rf L r)
    rw [x_rf_ext (by rw [hz]; exact h)]
theorem x_map_ext {bs : Nat} {L L' : List Nat} {z : Int} {vs : List xV} (hz : (L.length : Int) = z) (he : x_ext L L') (h : ∀ v ∈ vs, x_okv z v) : vs.map (x_conc bs L') = vs.map (x_conc bs L) :=
  List.map_congr_left fun v hv => x_conc_ext hz he (h v hv)
theorem x_ext_rf (L : List Nat) : x_ext L L := ⟨[], by simp⟩
theorem x_ext_tr {L L1 L2 : List Nat} (h : x_ext L L1) (h2 : x_ext L1 L2) : x_ext L L2 := by
  obtain ⟨t, rfl⟩ := h
  obtain ⟨u, rfl⟩ := h2
  exact ⟨t ++ u, by simp⟩
theorem x_cat (bs : Nat) (L : List Nat) (v : xV) : (x_conc bs L v).category = 1 := by
  cases v with
  | inl i => rfl
  | inr r =>
    show (if r = -2 then Value.ref bs else va_rf (x_rf L r)).category = 1
    by_cases q : r = -2
    · rw [if_pos q]; rfl
    · rw [if_neg q]
      cases x_rf L r <;> rfl
theorem x_ref {bs : Nat} {L : List Nat} {r : Int} (h : 0 ≤ r) : x_conc bs L (.inr r) = .ref (L.getD r.toNat 0) := by
  show (if r = -2 then _ else va_rf (x_rf L r)) = _
  rw [if_neg (by omega)]
  unfold x_rf
  rw [if_neg (by omega)]
  rfl
theorem x_null {bs : Nat} {L : List Nat} {r : Int} (h : r < 0) (h2 : r ≠ -2) : x_conc bs L (.inr r) = .null := by
  show (if r = -2 then _ else va_rf (x_rf L r)) = _
  rw [if_neg h2]
  unfold x_rf
  rw [if_pos h]
  rfl
/-! the cells -/
theorem x_ws_get {cy : Nat → ClassId} {L : List Nat} {h : xH} {r : Int} (h0 : 0 ≤ r) (h1 : r < L.length) : (x_ws cy L h)[r.toNat]? = some (L.getD r.toNat 0, x_ent cy L h r) := by
  unfold x_ws
  rw [List.getElem?_map, List.getElem?_range (by omega)]
  show some (_, x_ent cy L h ((r.toNat : Nat) : Int)) = _
  rw [Int.toNat_of_nonneg h0]
theorem x_ws_set {cy : Nat → ClassId} {L : List Nat} {h h' : xH} {r : Int} {e : va_E} (h0 : 0 ≤ r) (h1 : r < L.length) (he : x_ent cy L h' r = e) (ho : ∀ q : Int, q ≠ r → x_ent cy L h' q = x_ent cy L h q) : (x_ws cy L h).set r.toNat (L.getD r.toNat 0, e) = x_ws cy L h' := by
  apply List.ext_getElem?
  intro k
  by_cases hk : k = r.toNat
  · subst hk
    rw [List.getElem?_set_self (by simp [x_ws]; omega), x_ws_get h0 h1, he]
  · rw [List.getElem?_set_ne (fun q => hk q.symm)]
    unfold x_ws
    rw [List.getElem?_map, List.getElem?_map]
    by_cases hl : k < L.length
    · rw [List.getElem?_range hl]
      simp only [Option.map_some]
      rw [ho k (by omega)]
    · rw [List.getElem?_eq_none (by simp; omega)]
      rfl
theorem x_ent_obj {cy : Nat → ClassId} {L : List Nat} {h : xH} {r : Int} {c : Nat} (hk : x_kd r = c) (hc : c < 8) : x_ent cy L h r = .inr (c, x_fs L h r c) := by
  unfold x_ent
  rw [hk, if_pos hc]
theorem x_ent_int {cy : Nat → ClassId} {L : List Nat} {h : xH} {r : Int} {c : Nat} (hk : x_kd r = c) (hc : ¬ c < 8) (hc2 : c < 10) : x_ent cy L h r = .inl (cy c, (x_ln r).toNat, .inl (fun j => Int32.ofInt (h.2.2 r j))) := by
  unfold x_ent
  rw [hk, if_neg hc, if_pos hc2]
theorem x_ent_ref {cy : Nat → ClassId} {L : List Nat} {h : xH} {r : Int} {c : Nat} (hk : x_kd r = c) (hc2 : ¬ c < 10) : x_ent cy L h r = .inl (cy c, (x_ln r).toNat, .inr (.inr (.inr (.inr (fun j => x_rf L (h.2.1 r j)))))) := by
  unfold x_ent
  rw [hk, if_neg (by omega), if_neg hc2]
theorem x_fs_get {L : List Nat} {h : xH} {a : Int} {c j : Nat} (hj : j < xnsl c) : (x_fs L h a c)[j]? = some (x_fv L h a c j) := by
  unfold x_fs
  rw [List.getElem?_map, List.getElem?_range hj]
  rfl
theorem x_fs_set {L : List Nat} {h h' : xH} {a : Int} {c j : Nat} {v : Value} (hj : j < xnsl c) (hv : x_fv L h' a c j = v) (ho : ∀ i, i ≠ j → x_fv L h' a c i = x_fv L h a c i) : (x_fs L h a c).set j v = x_fs L h' a c := by
  apply List.ext_getElem?
  intro k
  by_cases hk : k = j
  · subst hk
    rw [List.getElem?_set_self (by simp [x_fs]; exact hj), x_fs_get hj, hv]
  · rw [List.getElem?_set_ne (fun q => hk q.symm)]
    unfold x_fs
    rw [List.getElem?_map, List.getElem?_map]
    by_cases hl : k < xnsl c
    · rw [List.getElem?_range hl]
      simp only [Option.map_some]
      rw [ho k hk]
    · rw [List.getElem?_eq_none (by simp; omega)]
      rfl
theorem x_ok_ok {z r : Int} {c : Nat} (h : x_ok z r c = true) : 0 ≤ r ∧ r < z ∧ x_kd r = c := by
  unfold x_ok at h
  simp only [Bool.and_eq_true, decide_eq_true_eq] at h
  exact ⟨h.1.1, h.1.2, h.2⟩
/-! the locals -/
def x_lvs (bs : Nat) (L : List Nat) (als : List xV) : List (Nat × Value) := (als.zipIdx.filter (fun q => decide (q.1 ≠ x_un))).map (fun q => (q.2, x_conc bs L q.1))
theorem x_lvs_mem {bs : Nat} {L : List Nat} {als : List xV} {i : Nat} {w : Value} : (i, w) ∈ x_lvs bs L als ↔ ∃ v, als[i]? = some v ∧ v ≠ x_un ∧ w = x_conc bs L v := by
  unfold x_lvs
  simp only [List.mem_map, List.mem_filter, decide_eq_true_eq, Prod.mk.injEq, Prod.exists]
  constructor
  · rintro ⟨v, j, ⟨h1, h2⟩, rfl, rfl⟩
    exact ⟨v, List.mem_zipIdx_iff_getElem?.mp h1, h2, rfl⟩
  · rintro ⟨v, h1, h2, rfl⟩
    exact ⟨v, i, ⟨List.mem_zipIdx_iff_getElem?.mpr h1, h2⟩, rfl, rfl⟩
theorem x_lr_has {bs : Nat} {L : List Nat} {ls : Array Slot} {nL : Nat} {als : List xV} (h : x_lr bs L ls nL als) : lv_has ls nL (x_lvs bs L als) := by
  refine ⟨h.1, h.2.1, fun q hq => ?_⟩
  obtain ⟨i, w⟩ := q
  obtain ⟨v, h1, h2, rfl⟩ := x_lvs_mem.mp hq
  exact h.2.2.2 i v h1 h2
theorem x_lr_set {bs : Nat} {L : List Nat} {ls ls' : Array Slot} {nL i : Nat} {als : List xV} {v : xV} (h : x_lr bs L ls nL als) (hi : i < als.length) (h' : lv_has ls' nL ((i, x_conc bs L v) :: (x_lvs bs L als).filter (fun q => !(q.1 == i) && !(q.1 + 1 == i && q.2.category == 2)))) : x_lr bs L ls' nL (als.set i v) := by
  refine ⟨h'.1, h'.2.1, by rw [List.length_set]; exact h.2.2.1, fun j w hj hw => ?_⟩
  by_cases q : j = i
  · subst q
    rw [List.getElem?_set_self hi] at hj
    cases hj
    exact h'.2.2 (j, _) List.mem_cons_self
  · rw [List.getElem?_set_ne (fun z => q z.symm)] at hj
    refine h'.2.2 (j, x_conc bs L w) (List.mem_cons_of_mem _ (List.mem_filter.mpr ⟨x_lvs_mem.mpr ⟨w, hj, hw, rfl⟩, ?_⟩))
    simp [q, x_cat]
theorem x_lr_at {bs : Nat} {L : List Nat} {ls : Array Slot} {nL i : Nat} {als : List xV} {v : xV} (h : x_lr bs L ls nL als) (hi : als[i]? = some v) (hv : v ≠ x_un) : ls[i]? = some (.val (x_conc bs L v)) := h.2.2.2 i v hi hv
theorem x_lr_ext {bs : Nat} {L L' : List Nat} {ls : Array Slot} {nL : Nat} {als : List xV} {z : Int} (hz : (L.length : Int) = z) (he : x_ext L L') (ho : ∀ v ∈ als, x_okv z v) (h : x_lr bs L ls nL als) : x_lr bs L' ls nL als :=
  ⟨h.1, h.2.1, h.2.2.1, fun i v hi hv => by rw [x_conc_ext hz he (ho v (List.mem_of_getElem? hi))]; exact h.2.2.2 i v hi hv⟩
end
section
/-! ONE INSTRUCTION OF THE INTERPRETER IS ONE OF THE MACHINE: those that leave the heap -/
section
variable {p : Program} {l : Launch} {e : Env} {R : Room} {s : State} {m : MethodId} {args : Array Value} {below : List Frame} {meth : Method} {c : Code} {Q : State → Prop}
variable {D : va_G} {cy : Nat → ClassId} {A : Nat → Prop} {bs y CC SS : Nat} {L : List Nat} {h : xH} {H : Heap} {locs : List Loc} {ls : Array Slot} {als ast : List xV} {b : xB} {cells slots k : Nat}
variable {a : Int} {t u pc p2 : Nat} {c' : xC}
/-- what comes behind an instruction -/
def x_K (p : Program) (l : Launch) (e : Env) (R : Room) (s : State) (m : MethodId) (args : Array Value) (below : List Frame) (meth : Method) (c : Code) (Q : State → Prop) (D : va_G) (cy : Nat → ClassId) (A : Nat → Prop) (bs y CC SS : Nat) (L : List Nat) (c' : xC) : Prop :=
  ∀ (L' : List Nat) (H' : Heap) (locs' : List Loc) (ls' : Array Slot) (cells' slots' : Nat), x_ext L L' → x_St s D cy A bs y CC SS L' c'.2.2.2.2 H' locs' ls' c'.2.1 c'.2.2.1 c'.2.2.2.1 cells' slots' → W p l e R s m args below meth c H' locs' cells' slots' Q (F0 m (x_pc y c'.1) ls' (c'.2.2.1.map (x_conc bs L')))
def x_Ck (y k op : Nat) (a : Int) (t u pc : Nat) : Prop := x_ckj (x_nm y).cls (x_rt y) (x_dp y) (x_lc y) (x_st y) (x_rk y) (x_cd y) (x_by y) ((x_by y).data.toList.drop pc) (op, a, t, u, pc) (x_pc y (k + 1)) = true
theorem x_St.stk (S : x_St s D cy A bs y CC SS L h H locs ls als ast b cells slots) {ast' : List xV} (ho : ∀ v ∈ ast', x_okv h.1 v) : x_St s D cy A bs y CC SS L h H locs ls als ast' b cells slots := ⟨S.1, S.2.1, S.2.2.1, S.2.2.2.1, ho, S.2.2.2.2.2⟩
theorem x_cons {z : Int} {v : xV} {st : List xV} (h1 : x_okv z v) (h2 : ∀ w ∈ st, x_okv z w) : ∀ w ∈ v :: st, x_okv z w := fun w hw => by
  rcases List.mem_cons.mp hw with rfl | hw
  · exact h1
  · exact h2 w hw
theorem x_tls {z : Int} {v : xV} {st : List xV} (h : ∀ w ∈ v :: st, x_okv z w) : ∀ w ∈ st, x_okv z w := fun w hw => h w (List.mem_cons_of_mem _ hw)
theorem x_hd {z : Int} {v : xV} {st : List xV} (h : ∀ w ∈ v :: st, x_okv z w) : x_okv z v := h v List.mem_cons_self

theorem x_s0 (F : x_Fr p R s m args meth c D cy A y) (C : x_Ck y k 0 a t u pc) (S : x_St s D cy A bs y CC SS L h H locs ls als ast b cells slots) (hst : x_stp (0, a, t, u, pc) k als ast b h = some c') (kk : x_K p l e R s m args below meth c Q D cy A bs y CC SS L c') : W p l e R s m args below meth c H locs cells slots Q (F0 m pc ls (ast.map (x_conc bs L))) := by
  have C : ((if u = 0 then x_D ((x_by y).data.toList.drop pc) pc (x_pc y (k + 1)) (.iconst a) 1 else if u = 1 then x_D ((x_by y).data.toList.drop pc) pc (x_pc y (k + 1)) (.bipush a) 2 && decide (-128 ≤ a) && decide (a < 128) else if u = 2 then x_D ((x_by y).data.toList.drop pc) pc (x_pc y (k + 1)) (.sipush a) 3 && decide (-32768 ≤ a) && decide (a < 32768)
      else (match xcn[u - 3]? with
        | some (pl, o, ix, v, w) => decide (o = (x_nm y).cls) && decide (v = Int32.ofInt a) && (if w = 1 then x_D ((x_by y).data.toList.drop pc) pc (x_pc y (k + 1)) (.ldc_w ix) 3 else x_D ((x_by y).data.toList.drop pc) pc (x_pc y (k + 1)) (.ldc ix) 2)
        | none => false)) && decide (-2147483648 ≤ a) && decide (a < 2147483648)) = true := C
  simp only [Bool.and_eq_true, decide_eq_true_eq] at C
  obtain ⟨⟨C, r1⟩, r2⟩ := C
  cases (show some (k + 1, als, .inl a :: ast, b, h) = some c' from hst)
  obtain ⟨hy, hx, hb, hml, hown, hts, -⟩ := F
  have K := kk L H locs ls cells slots (x_ext_rf L) (S.stk (x_cons (show x_in32 a from ⟨r1, r2⟩) S.2.2.2.2.1))
  by_cases h0 : u = 0
  · rw [if_pos h0] at C
    obtain ⟨hd, hp⟩ := x_D_ok C
    refine lv_iconst hx hb hd rfl (W.eq ?_ K)
    show F0 m (pc + 1) ls _ = F0 m (x_pc y (k + 1)) ls _
    rw [hp]
    rfl
  rw [if_neg h0] at C
  by_cases h1 : u = 1
  · rw [if_pos h1] at C
    simp only [Bool.and_eq_true, decide_eq_true_eq] at C
    obtain ⟨⟨C, q1⟩, q2⟩ := C
    obtain ⟨hd, hp⟩ := x_D_ok C
    refine lv_bipush hx hb hd rfl (W.eq ?_ K)
    have ev : (Int8.ofInt a).toInt32 = Int32.ofInt a := by
      apply Int32.toInt_inj.mp
      rw [Int8.toInt_toInt32, x_toInt ⟨r1, r2⟩]
      exact Int8.toInt_ofInt_of_le (by simpa using q1) (by simpa using q2)
    rw [ev]
    show F0 m (pc + 2) ls _ = F0 m (x_pc y (k + 1)) ls _
    rw [hp]
    rfl
  rw [if_neg h1] at C
  by_cases h2 : u = 2
  · rw [if_pos h2] at C
    simp only [Bool.and_eq_true, decide_eq_true_eq] at C
    obtain ⟨⟨C, q1⟩, q2⟩ := C
    obtain ⟨hd, hp⟩ := x_D_ok C
    refine lv_sipush hx hb hd rfl (W.eq ?_ K)
    have ev : (Int16.ofInt a).toInt32 = Int32.ofInt a := by
      apply Int32.toInt_inj.mp
      rw [Int16.toInt_toInt32, x_toInt ⟨r1, r2⟩]
      exact Int16.toInt_ofInt_of_le (by simpa using q1) (by simpa using q2)
    rw [ev]
    show F0 m (pc + 3) ls _ = F0 m (x_pc y (k + 1)) ls _
    rw [hp]
    rfl
  rw [if_neg h2] at C
  cases hc : xcn[u - 3]? with
  | none => rw [hc] at C; cases C
  | some q =>
    obtain ⟨pl, o, ix, v, w⟩ := q
    rw [hc] at C
    simp only [Bool.and_eq_true, decide_eq_true_eq] at C
    obtain ⟨⟨rfl, rfl⟩, C⟩ := C
    have hw : x_wd pl (.constant (x_nm y).cls ix (Int32.ofInt a)) = true := List.all_eq_true.mp x_cnok _ (List.mem_of_getElem? hc)
    have hk := hts _ (x_wd_ok hw) rfl
    by_cases h3 : w = 1
    · rw [if_pos h3] at C
      obtain ⟨hd, hp⟩ := x_D_ok C
      refine lv_ldcw hx hb hown hk hd (W.eq ?_ K)
      show F0 m (pc + 3) ls _ = F0 m (x_pc y (k + 1)) ls _
      rw [hp]
      rfl
    · rw [if_neg h3] at C
      obtain ⟨hd, hp⟩ := x_D_ok C
      refine lv_ldc hx hb hown hk hd (W.eq ?_ K)
      show F0 m (pc + 2) ls _ = F0 m (x_pc y (k + 1)) ls _
      rw [hp]
      rfl

theorem x_s1 (F : x_Fr p R s m args meth c D cy A y) (C : x_Ck y k 1 a t u pc) (S : x_St s D cy A bs y CC SS L h H locs ls als ast b cells slots) (hst : x_stp (1, a, t, u, pc) k als ast b h = some c') (kk : x_K p l e R s m args below meth c Q D cy A bs y CC SS L c') : W p l e R s m args below meth c H locs cells slots Q (F0 m pc ls (ast.map (x_conc bs L))) := by
  have C : (if u = 0 then decide (t < 4) && x_D ((x_by y).data.toList.drop pc) pc (x_pc y (k + 1)) (.iload_n (Fin.ofNat 4 t)) 1 else x_D ((x_by y).data.toList.drop pc) pc (x_pc y (k + 1)) (.iload t) 2) = true := C
  have hs : (match (generalizing := false) als[t]? with | some (.inl v) => some (k + 1, als, .inl v :: ast, b, h) | _ => none) = some c' := hst
  split at hs
  · rename_i v hv
    cases hs
    obtain ⟨hy, hx, hb, hml, hown, hts, -⟩ := F
    have hl : ls[t]? = some (.val (.int (Int32.ofInt v))) := x_lr_at S.2.2.1 hv (by intro q; cases q)
    have K := kk L H locs ls cells slots (x_ext_rf L) (S.stk (x_cons (S.2.2.2.1 _ (List.mem_of_getElem? hv)) S.2.2.2.2.1))
    by_cases h0 : u = 0
    · rw [if_pos h0] at C
      simp only [Bool.and_eq_true, decide_eq_true_eq] at C
      obtain ⟨hd, hp⟩ := x_D_ok C.2
      refine lv_iload_n hx hb hd (show t % 4 = t from Nat.mod_eq_of_lt C.1) hl (W.eq ?_ K)
      show F0 m (pc + 1) ls _ = F0 m (x_pc y (k + 1)) ls _
      rw [hp]
      rfl
    · rw [if_neg h0] at C
      obtain ⟨hd, hp⟩ := x_D_ok C
      refine lv_iload hx hb hd hl (W.eq ?_ K)
      show F0 m (pc + 2) ls _ = F0 m (x_pc y (k + 1)) ls _
      rw [hp]
      rfl
  · cases hs

theorem x_s2 (F : x_Fr p R s m args meth c D cy A y) (C : x_Ck y k 2 a t u pc) (S : x_St s D cy A bs y CC SS L h H locs ls als ast b cells slots) (hst : x_stp (2, a, t, u, pc) k als ast b h = some c') (kk : x_K p l e R s m args below meth c Q D cy A bs y CC SS L c') : W p l e R s m args below meth c H locs cells slots Q (F0 m pc ls (ast.map (x_conc bs L))) := by
  have C : (if u = 0 then decide (t < 4) && x_D ((x_by y).data.toList.drop pc) pc (x_pc y (k + 1)) (.aload_n (Fin.ofNat 4 t)) 1 else x_D ((x_by y).data.toList.drop pc) pc (x_pc y (k + 1)) (.aload t) 2) = true := C
  have hs : (match (generalizing := false) als[t]? with | some (.inr v) => if -2 ≤ v then some (k + 1, als, .inr v :: ast, b, h) else none | _ => none) = some c' := hst
  split at hs
  · rename_i v hv
    split at hs
    · rename_i hv2
      cases hs
      obtain ⟨hy, hx, hb, hml, hown, hts, -⟩ := F
      have hl : ls[t]? = some (.val (x_conc bs L (.inr v))) := x_lr_at S.2.2.1 hv (by intro q; unfold x_un at q; cases q; omega)
      have K := kk L H locs ls cells slots (x_ext_rf L) (S.stk (x_cons (S.2.2.2.1 _ (List.mem_of_getElem? hv)) S.2.2.2.2.1))
      have e : ∃ r : Option Nat, x_conc bs L (.inr v) = va_rf r := by
        by_cases q : v = -2
        · exact ⟨some bs, if_pos q⟩
        · exact ⟨_, if_neg q⟩
      obtain ⟨r, er⟩ := e
      rw [er] at hl
      by_cases h0 : u = 0
      · rw [if_pos h0] at C
        simp only [Bool.and_eq_true, decide_eq_true_eq] at C
        obtain ⟨hd, hp⟩ := x_D_ok C.2
        have K2 : W p l e R s m args below meth c H locs cells slots Q (F0 m (pc + 1) ls (va_rf r :: ast.map (x_conc bs L))) := W.eq (by show F0 m (pc + 1) ls _ = F0 m (x_pc y (k + 1)) ls (x_conc bs L (.inr v) :: _); rw [hp, er]) K
        cases r with
        | none => exact lv_aload_nN hx hb hd (show t % 4 = t from Nat.mod_eq_of_lt C.1) hl K2
        | some r => exact lv_aload_n hx hb hd (show t % 4 = t from Nat.mod_eq_of_lt C.1) hl K2
      · rw [if_neg h0] at C
        obtain ⟨hd, hp⟩ := x_D_ok C
        have K2 : W p l e R s m args below meth c H locs cells slots Q (F0 m (pc + 2) ls (va_rf r :: ast.map (x_conc bs L))) := W.eq (by show F0 m (pc + 2) ls _ = F0 m (x_pc y (k + 1)) ls (x_conc bs L (.inr v) :: _); rw [hp, er]) K
        cases r with
        | none => exact lv_aloadN hx hb hd hl K2
        | some r => exact lv_aload hx hb hd hl K2
    · cases hs
  · cases hs

theorem x_St.loc (S : x_St s D cy A bs y CC SS L h H locs ls als ast b cells slots) {i : Nat} {v : xV} {ast' : List xV} {ls' : Array Slot} (hi : i < als.length) (hv : x_okv h.1 v) (ho : ∀ w ∈ ast', x_okv h.1 w) (h' : lv_has ls' (x_ml y) ((i, x_conc bs L v) :: (x_lvs bs L als).filter (fun q => !(q.1 == i) && !(q.1 + 1 == i && q.2.category == 2)))) : x_St s D cy A bs y CC SS L h H locs ls' (als.set i v) ast' b cells slots :=
  ⟨S.1, S.2.1, x_lr_set S.2.2.1 hi h', fun w hw => by
    rcases List.mem_or_eq_of_mem_set hw with hw | rfl
    · exact S.2.2.2.1 w hw
    · exact hv, ho, S.2.2.2.2.2⟩

theorem x_s3 (F : x_Fr p R s m args meth c D cy A y) (C : x_Ck y k 3 a t u pc) (S : x_St s D cy A bs y CC SS L h H locs ls als ast b cells slots) (hst : x_stp (3, a, t, u, pc) k als ast b h = some c') (kk : x_K p l e R s m args below meth c Q D cy A bs y CC SS L c') : W p l e R s m args below meth c H locs cells slots Q (F0 m pc ls (ast.map (x_conc bs L))) := by
  have C : (if u = 0 then decide (t < 4) && x_D ((x_by y).data.toList.drop pc) pc (x_pc y (k + 1)) (.istore_n (Fin.ofNat 4 t)) 1 else x_D ((x_by y).data.toList.drop pc) pc (x_pc y (k + 1)) (.istore t) 2) = true := C
  have hs : (match (generalizing := false) ast with | .inl v :: st => if t < als.length then some (k + 1, als.set t (.inl v), st, b, h) else none | _ => none) = some c' := hst
  split at hs
  · rename_i v st
    split at hs
    · rename_i ht
      cases hs
      obtain ⟨hy, hx, hb, hml, hown, hts, -⟩ := F
      have hl := x_lr_has S.2.2.1
      have htn : t < x_ml y := by rw [← S.2.2.1.2.2.1]; exact ht
      have ho := S.2.2.2.2.1
      by_cases h0 : u = 0
      · rw [if_pos h0] at C
        simp only [Bool.and_eq_true, decide_eq_true_eq] at C
        obtain ⟨hd, hp⟩ := x_D_ok C.2
        refine lv_istore_n hx hb hd (show t % 4 = t from Nat.mod_eq_of_lt C.1) hl htn rfl fun ls' hl' => ?_
        exact W.eq (by show F0 m (pc + 1) ls' _ = F0 m (x_pc y (k + 1)) ls' _; rw [hp]) (kk L H locs ls' cells slots (x_ext_rf L) (S.loc ht (x_hd ho) (x_tls ho) hl'))
      · rw [if_neg h0] at C
        obtain ⟨hd, hp⟩ := x_D_ok C
        refine lv_istore hx hb hd hl htn rfl fun ls' hl' => ?_
        exact W.eq (by show F0 m (pc + 2) ls' _ = F0 m (x_pc y (k + 1)) ls' _; rw [hp]) (kk L H locs ls' cells slots (x_ext_rf L) (S.loc ht (x_hd ho) (x_tls ho) hl'))
    · cases hs
  · cases hs

theorem x_s4 (F : x_Fr p R s m args meth c D cy A y) (C : x_Ck y k 4 a t u pc) (S : x_St s D cy A bs y CC SS L h H locs ls als ast b cells slots) (hst : x_stp (4, a, t, u, pc) k als ast b h = some c') (kk : x_K p l e R s m args below meth c Q D cy A bs y CC SS L c') : W p l e R s m args below meth c H locs cells slots Q (F0 m pc ls (ast.map (x_conc bs L))) := by
  have C : (if u = 0 then decide (t < 4) && x_D ((x_by y).data.toList.drop pc) pc (x_pc y (k + 1)) (.astore_n (Fin.ofNat 4 t)) 1 else x_D ((x_by y).data.toList.drop pc) pc (x_pc y (k + 1)) (.astore t) 2) = true := C
  have hs : (match (generalizing := false) ast with | .inr v :: st => if t < als.length ∧ -2 ≤ v then some (k + 1, als.set t (.inr v), st, b, h) else none | _ => none) = some c' := hst
  split at hs
  · rename_i v st
    split at hs
    · rename_i ht
      cases hs
      obtain ⟨hy, hx, hb, hml, hown, hts, -⟩ := F
      have hl := x_lr_has S.2.2.1
      have htn : t < x_ml y := by rw [← S.2.2.1.2.2.1]; exact ht.1
      have ho := S.2.2.2.2.1
      have e : ∃ r : Option Nat, x_conc bs L (.inr v) = va_rf r := by
        by_cases q : v = -2
        · exact ⟨some bs, if_pos q⟩
        · exact ⟨_, if_neg q⟩
      obtain ⟨r, er⟩ := e
      have key : ∀ (n : Nat) (hp : x_pc y (k + 1) = pc + n) (ls' : Array Slot), lv_has ls' (x_ml y) ((t, va_rf r) :: (x_lvs bs L als).filter (fun q => !(q.1 == t) && !(q.1 + 1 == t && q.2.category == 2))) → W p l e R s m args below meth c H locs cells slots Q (F0 m (pc + n) ls' (st.map (x_conc bs L))) := fun n hp ls' hl' => by
        rw [← er] at hl'
        exact W.eq (by show F0 m (pc + n) ls' _ = F0 m (x_pc y (k + 1)) ls' _; rw [hp]) (kk L H locs ls' cells slots (x_ext_rf L) (S.loc ht.1 (x_hd ho) (x_tls ho) hl'))
      show W p l e R s m args below meth c H locs cells slots Q (F0 m pc ls (x_conc bs L (.inr v) :: st.map (x_conc bs L)))
      rw [er]
      by_cases h0 : u = 0
      · rw [if_pos h0] at C
        simp only [Bool.and_eq_true, decide_eq_true_eq] at C
        obtain ⟨hd, hp⟩ := x_D_ok C.2
        cases r with
        | none => exact lv_astore_nN hx hb hd (show t % 4 = t from Nat.mod_eq_of_lt C.1) hl htn rfl (key 1 hp)
        | some r => exact lv_astore_n hx hb hd (show t % 4 = t from Nat.mod_eq_of_lt C.1) hl htn rfl (key 1 hp)
      · rw [if_neg h0] at C
        obtain ⟨hd, hp⟩ := x_D_ok C
        cases r with
        | none => exact lv_astoreN hx hb hd hl htn rfl (key 2 hp)
        | some r => exact lv_astore hx hb hd hl htn rfl (key 2 hp)
    · cases hs
  · cases hs

theorem x_s5 (F : x_Fr p R s m args meth c D cy A y) (C : x_Ck y k 5 a t u pc) (S : x_St s D cy A bs y CC SS L h H locs ls als ast b cells slots) (hst : x_stp (5, a, t, u, pc) k als ast b h = some c') (kk : x_K p l e R s m args below meth c Q D cy A bs y CC SS L c') : W p l e R s m args below meth c H locs cells slots Q (F0 m pc ls (ast.map (x_conc bs L))) := by
  have C : x_D ((x_by y).data.toList.drop pc) pc (x_pc y (k + 1)) (.iinc t a) 3 = true := C
  have hs : (match (generalizing := false) als[t]? with | some (.inl v) => some (k + 1, als.set t (.inl (x_w (v + a))), ast, b, h) | _ => none) = some c' := hst
  split at hs
  · rename_i v hv
    cases hs
    obtain ⟨hy, hx, hb, hml, hown, hts, -⟩ := F
    have ht : t < als.length := (List.getElem?_eq_some_iff.mp hv).1
    have hl := x_lr_has S.2.2.1
    have htn : t < x_ml y := by rw [← S.2.2.1.2.2.1]; exact ht
    obtain ⟨hd, hp⟩ := x_D_ok C
    obtain ⟨q, hq⟩ := List.getElem?_of_mem (x_lvs_mem.mpr ⟨.inl v, hv, (by intro q; cases q), rfl⟩ : (t, x_conc bs L (.inl v)) ∈ x_lvs bs L als)
    refine lv_iinc (v := Int32.ofInt (x_w (v + a))) hx hb hd hl hq (by rw [x_w_of, Int32.ofInt_add]) htn rfl fun ls' hl' => ?_
    exact W.eq (by show F0 m (pc + 3) ls' _ = F0 m (x_pc y (k + 1)) ls' _; rw [hp]) (kk L H locs ls' cells slots (x_ext_rf L) (S.loc (v := .inl (x_w (v + a))) ht (x_w_in _) S.2.2.2.2.1 hl'))
  · cases hs

theorem x_s6 (F : x_Fr p R s m args meth c D cy A y) (C : x_Ck y k 6 a t u pc) (S : x_St s D cy A bs y CC SS L h H locs ls als ast b cells slots) (hst : x_stp (6, a, t, u, pc) k als ast b h = some c') (kk : x_K p l e R s m args below meth c Q D cy A bs y CC SS L c') : W p l e R s m args below meth c H locs cells slots Q (F0 m pc ls (ast.map (x_conc bs L))) := by
  have C : x_D ((x_by y).data.toList.drop pc) pc (x_pc y (k + 1)) .iadd 1 = true := C
  have hs : (match (generalizing := false) ast with | .inl j :: .inl i :: st => some (k + 1, als, .inl (x_w (i + j)) :: st, b, h) | _ => none) = some c' := hst
  split at hs
  · rename_i j i st
    cases hs
    obtain ⟨hy, hx, hb, hml, hown, hts, -⟩ := F
    obtain ⟨hd, hp⟩ := x_D_ok C
    have ho := S.2.2.2.2.1
    have oj : x_in32 j := x_hd ho
    have oi : x_in32 i := x_hd (x_tls ho)
    have K := kk L H locs ls cells slots (x_ext_rf L) (S.stk (x_cons (show x_in32 (x_w (i + j)) from x_w_in _) (x_tls (x_tls ho))))
    refine lv_iadd hx hb hd (W.eq ?_ K)
    show F0 m (pc + 1) ls (.int _ :: _) = F0 m (x_pc y (k + 1)) ls (.int (Int32.ofInt (x_w (i + j))) :: _)
    rw [hp, x_add]
  · cases hs

theorem x_s7 (F : x_Fr p R s m args meth c D cy A y) (C : x_Ck y k 7 a t u pc) (S : x_St s D cy A bs y CC SS L h H locs ls als ast b cells slots) (hst : x_stp (7, a, t, u, pc) k als ast b h = some c') (kk : x_K p l e R s m args below meth c Q D cy A bs y CC SS L c') : W p l e R s m args below meth c H locs cells slots Q (F0 m pc ls (ast.map (x_conc bs L))) := by
  have C : x_D ((x_by y).data.toList.drop pc) pc (x_pc y (k + 1)) .isub 1 = true := C
  have hs : (match (generalizing := false) ast with | .inl j :: .inl i :: st => some (k + 1, als, .inl (x_w (i - j)) :: st, b, h) | _ => none) = some c' := hst
  split at hs
  · rename_i j i st
    cases hs
    obtain ⟨hy, hx, hb, hml, hown, hts, -⟩ := F
    obtain ⟨hd, hp⟩ := x_D_ok C
    have ho := S.2.2.2.2.1
    have oj : x_in32 j := x_hd ho
    have oi : x_in32 i := x_hd (x_tls ho)
    have K := kk L H locs ls cells slots (x_ext_rf L) (S.stk (x_cons (show x_in32 (x_w (i - j)) from x_w_in _) (x_tls (x_tls ho))))
    refine lv_isub hx hb hd (W.eq ?_ K)
    show F0 m (pc + 1) ls (.int _ :: _) = F0 m (x_pc y (k + 1)) ls (.int (Int32.ofInt (x_w (i - j))) :: _)
    rw [hp, x_sub]
  · cases hs

theorem x_s8 (F : x_Fr p R s m args meth c D cy A y) (C : x_Ck y k 8 a t u pc) (S : x_St s D cy A bs y CC SS L h H locs ls als ast b cells slots) (hst : x_stp (8, a, t, u, pc) k als ast b h = some c') (kk : x_K p l e R s m args below meth c Q D cy A bs y CC SS L c') : W p l e R s m args below meth c H locs cells slots Q (F0 m pc ls (ast.map (x_conc bs L))) := by
  have C : x_D ((x_by y).data.toList.drop pc) pc (x_pc y (k + 1)) .imul 1 = true := C
  have hs : (match (generalizing := false) ast with | .inl j :: .inl i :: st => some (k + 1, als, .inl (x_w (i * j)) :: st, b, h) | _ => none) = some c' := hst
  split at hs
  · rename_i j i st
    cases hs
    obtain ⟨hy, hx, hb, hml, hown, hts, -⟩ := F
    obtain ⟨hd, hp⟩ := x_D_ok C
    have ho := S.2.2.2.2.1
    have oj : x_in32 j := x_hd ho
    have oi : x_in32 i := x_hd (x_tls ho)
    have K := kk L H locs ls cells slots (x_ext_rf L) (S.stk (x_cons (show x_in32 (x_w (i * j)) from x_w_in _) (x_tls (x_tls ho))))
    refine lv_imul hx hb hd (W.eq ?_ K)
    show F0 m (pc + 1) ls (.int _ :: _) = F0 m (x_pc y (k + 1)) ls (.int (Int32.ofInt (x_w (i * j))) :: _)
    rw [hp, x_mul]
  · cases hs

theorem x_s9 (F : x_Fr p R s m args meth c D cy A y) (C : x_Ck y k 9 a t u pc) (S : x_St s D cy A bs y CC SS L h H locs ls als ast b cells slots) (hst : x_stp (9, a, t, u, pc) k als ast b h = some c') (kk : x_K p l e R s m args below meth c Q D cy A bs y CC SS L c') : W p l e R s m args below meth c H locs cells slots Q (F0 m pc ls (ast.map (x_conc bs L))) := by
  have C : x_D ((x_by y).data.toList.drop pc) pc (x_pc y (k + 1)) .irem 1 = true := C
  have hs : (match (generalizing := false) ast with | .inl j :: .inl i :: st => if 0 ≤ i ∧ 0 < j then some (k + 1, als, .inl (i % j) :: st, b, h) else none | _ => none) = some c' := hst
  split at hs
  · rename_i j i st
    split at hs
    rotate_left
    · cases hs
    rename_i hg
    cases hs
    obtain ⟨hy, hx, hb, hml, hown, hts, -⟩ := F
    obtain ⟨hd, hp⟩ := x_D_ok C
    have ho := S.2.2.2.2.1
    have oj : x_in32 j := x_hd ho
    have oi : x_in32 i := x_hd (x_tls ho)
    have hin : x_in32 (i % j) := by
      have q1 := Int.emod_nonneg i (show j ≠ 0 by omega)
      have q2 := Int.emod_lt_of_pos i hg.2
      unfold x_in32 at oj oi ⊢
      omega
    have hne : ¬ Int32.ofInt j = 0 := by
      intro q
      rw [← x_of0, x_eqi oj x_zero] at q
      omega
    have hrem : Int32.ofInt i - Int32.ofInt i / Int32.ofInt j * Int32.ofInt j = Int32.ofInt (i % j) := by
      have hdv : (Int32.ofInt i / Int32.ofInt j) = Int32.ofInt (i / j) := by
        apply Int32.toInt_inj.mp
        rw [lg_idiv_nonneg (by rw [x_toInt oi]; exact hg.1) (by rw [x_toInt oj]; exact hg.2), x_toInt oi, x_toInt oj]
        have q1 := Int.ediv_nonneg hg.1 (Int.le_of_lt hg.2)
        have q2 := Int.ediv_le_self j hg.1
        refine (x_toInt ?_).symm
        unfold x_in32 at oi ⊢
        omega
      rw [hdv, ← Int32.ofInt_mul, ← Int32.ofInt_sub]
      congr 1
      have := Int.emod_add_mul_ediv i j
      rw [Int.mul_comm (i / j) j]
      omega
    have K := kk L H locs ls cells slots (x_ext_rf L) (S.stk (x_cons (show x_in32 (i % j) from hin) (x_tls (x_tls ho))))
    refine lv_irem hx hb hd hne (W.eq ?_ K)
    show F0 m (pc + 1) ls (.int _ :: _) = F0 m (x_pc y (k + 1)) ls (.int (Int32.ofInt (i % j)) :: _)
    rw [hp, hrem]
  · cases hs

theorem x_s11 (F : x_Fr p R s m args meth c D cy A y) (C : x_Ck y k 11 a t u pc) (S : x_St s D cy A bs y CC SS L h H locs ls als ast b cells slots) (hst : x_stp (11, a, t, u, pc) k als ast b h = some c') (kk : x_K p l e R s m args below meth c Q D cy A bs y CC SS L c') : W p l e R s m args below meth c H locs cells slots Q (F0 m pc ls (ast.map (x_conc bs L))) := by
  have C : x_D ((x_by y).data.toList.drop pc) pc (x_pc y (k + 1)) .iand 1 = true := C
  have hs : (match (generalizing := false) ast with | .inl j :: .inl i :: st => some (k + 1, als, .inl (Int32.ofInt i &&& Int32.ofInt j).toInt :: st, b, h) | _ => none) = some c' := hst
  split at hs
  · rename_i j i st
    cases hs
    obtain ⟨hy, hx, hb, hml, hown, hts, -⟩ := F
    obtain ⟨hd, hp⟩ := x_D_ok C
    have ho := S.2.2.2.2.1
    have oj : x_in32 j := x_hd ho
    have oi : x_in32 i := x_hd (x_tls ho)
    have K := kk L H locs ls cells slots (x_ext_rf L) (S.stk (x_cons (show x_in32 (Int32.ofInt i &&& Int32.ofInt j).toInt from x_in32_t _) (x_tls (x_tls ho))))
    refine lv_iand hx hb hd (W.eq ?_ K)
    show F0 m (pc + 1) ls (.int _ :: _) = F0 m (x_pc y (k + 1)) ls (.int (Int32.ofInt (Int32.ofInt i &&& Int32.ofInt j).toInt) :: _)
    rw [hp, x_of]
  · cases hs

theorem x_s12 (F : x_Fr p R s m args meth c D cy A y) (C : x_Ck y k 12 a t u pc) (S : x_St s D cy A bs y CC SS L h H locs ls als ast b cells slots) (hst : x_stp (12, a, t, u, pc) k als ast b h = some c') (kk : x_K p l e R s m args below meth c Q D cy A bs y CC SS L c') : W p l e R s m args below meth c H locs cells slots Q (F0 m pc ls (ast.map (x_conc bs L))) := by
  have C : x_D ((x_by y).data.toList.drop pc) pc (x_pc y (k + 1)) .ior 1 = true := C
  have hs : (match (generalizing := false) ast with | .inl j :: .inl i :: st => some (k + 1, als, .inl (Int32.ofInt i ||| Int32.ofInt j).toInt :: st, b, h) | _ => none) = some c' := hst
  split at hs
  · rename_i j i st
    cases hs
    obtain ⟨hy, hx, hb, hml, hown, hts, -⟩ := F
    obtain ⟨hd, hp⟩ := x_D_ok C
    have ho := S.2.2.2.2.1
    have oj : x_in32 j := x_hd ho
    have oi : x_in32 i := x_hd (x_tls ho)
    have K := kk L H locs ls cells slots (x_ext_rf L) (S.stk (x_cons (show x_in32 (Int32.ofInt i ||| Int32.ofInt j).toInt from x_in32_t _) (x_tls (x_tls ho))))
    refine lv_ior hx hb hd (W.eq ?_ K)
    show F0 m (pc + 1) ls (.int _ :: _) = F0 m (x_pc y (k + 1)) ls (.int (Int32.ofInt (Int32.ofInt i ||| Int32.ofInt j).toInt) :: _)
    rw [hp, x_of]
  · cases hs

theorem x_s13 (F : x_Fr p R s m args meth c D cy A y) (C : x_Ck y k 13 a t u pc) (S : x_St s D cy A bs y CC SS L h H locs ls als ast b cells slots) (hst : x_stp (13, a, t, u, pc) k als ast b h = some c') (kk : x_K p l e R s m args below meth c Q D cy A bs y CC SS L c') : W p l e R s m args below meth c H locs cells slots Q (F0 m pc ls (ast.map (x_conc bs L))) := by
  have C : x_D ((x_by y).data.toList.drop pc) pc (x_pc y (k + 1)) .ishl 1 = true := C
  have hs : (match (generalizing := false) ast with | .inl j :: .inl i :: st => some (k + 1, als, .inl (Int32.ofInt i <<< (Int32.ofInt j &&& 31)).toInt :: st, b, h) | _ => none) = some c' := hst
  split at hs
  · rename_i j i st
    cases hs
    obtain ⟨hy, hx, hb, hml, hown, hts, -⟩ := F
    obtain ⟨hd, hp⟩ := x_D_ok C
    have ho := S.2.2.2.2.1
    have oj : x_in32 j := x_hd ho
    have oi : x_in32 i := x_hd (x_tls ho)
    have K := kk L H locs ls cells slots (x_ext_rf L) (S.stk (x_cons (show x_in32 (Int32.ofInt i <<< (Int32.ofInt j &&& 31)).toInt from x_in32_t _) (x_tls (x_tls ho))))
    refine lv_ishl hx hb hd (W.eq ?_ K)
    show F0 m (pc + 1) ls (.int _ :: _) = F0 m (x_pc y (k + 1)) ls (.int (Int32.ofInt (Int32.ofInt i <<< (Int32.ofInt j &&& 31)).toInt) :: _)
    rw [hp, x_of]
  · cases hs

theorem x_s14 (F : x_Fr p R s m args meth c D cy A y) (C : x_Ck y k 14 a t u pc) (S : x_St s D cy A bs y CC SS L h H locs ls als ast b cells slots) (hst : x_stp (14, a, t, u, pc) k als ast b h = some c') (kk : x_K p l e R s m args below meth c Q D cy A bs y CC SS L c') : W p l e R s m args below meth c H locs cells slots Q (F0 m pc ls (ast.map (x_conc bs L))) := by
  have C : x_D ((x_by y).data.toList.drop pc) pc (x_pc y (k + 1)) .ishr 1 = true := C
  have hs : (match (generalizing := false) ast with | .inl j :: .inl i :: st => some (k + 1, als, .inl (Int32.ofInt i >>> (Int32.ofInt j &&& 31)).toInt :: st, b, h) | _ => none) = some c' := hst
  split at hs
  · rename_i j i st
    cases hs
    obtain ⟨hy, hx, hb, hml, hown, hts, -⟩ := F
    obtain ⟨hd, hp⟩ := x_D_ok C
    have ho := S.2.2.2.2.1
    have oj : x_in32 j := x_hd ho
    have oi : x_in32 i := x_hd (x_tls ho)
    have K := kk L H locs ls cells slots (x_ext_rf L) (S.stk (x_cons (show x_in32 (Int32.ofInt i >>> (Int32.ofInt j &&& 31)).toInt from x_in32_t _) (x_tls (x_tls ho))))
    refine lv_ishr hx hb hd (W.eq ?_ K)
    show F0 m (pc + 1) ls (.int _ :: _) = F0 m (x_pc y (k + 1)) ls (.int (Int32.ofInt (Int32.ofInt i >>> (Int32.ofInt j &&& 31)).toInt) :: _)
    rw [hp, x_of]
  · cases hs

theorem x_s10 (F : x_Fr p R s m args meth c D cy A y) (C : x_Ck y k 10 a t u pc) (S : x_St s D cy A bs y CC SS L h H locs ls als ast b cells slots) (hst : x_stp (10, a, t, u, pc) k als ast b h = some c') (kk : x_K p l e R s m args below meth c Q D cy A bs y CC SS L c') : W p l e R s m args below meth c H locs cells slots Q (F0 m pc ls (ast.map (x_conc bs L))) := by
  have C : x_D ((x_by y).data.toList.drop pc) pc (x_pc y (k + 1)) .ineg 1 = true := C
  have hs : (match (generalizing := false) ast with | .inl i :: st => some (k + 1, als, .inl (x_w (-i)) :: st, b, h) | _ => none) = some c' := hst
  split at hs
  · rename_i i st
    cases hs
    obtain ⟨hy, hx, hb, hml, hown, hts, -⟩ := F
    obtain ⟨hd, hp⟩ := x_D_ok C
    have ho := S.2.2.2.2.1
    have K := kk L H locs ls cells slots (x_ext_rf L) (S.stk (x_cons (show x_in32 (x_w (-i)) from x_w_in _) (x_tls ho)))
    refine lv_ineg hx hb hd (W.eq ?_ K)
    show F0 m (pc + 1) ls (.int _ :: _) = F0 m (x_pc y (k + 1)) ls (.int (Int32.ofInt (x_w (-i))) :: _)
    rw [hp, x_neg]
  · cases hs

end
end
section
/-! branches, the stack, the JDK's calls -/
section
variable {p : Program} {l : Launch} {e : Env} {R : Room} {s : State} {m : MethodId} {args : Array Value} {below : List Frame} {meth : Method} {c : Code} {Q : State → Prop}
variable {D : va_G} {cy : Nat → ClassId} {A : Nat → Prop} {bs y CC SS : Nat} {L : List Nat} {h : xH} {H : Heap} {locs : List Loc} {ls : Array Slot} {als ast : List xV} {b : xB} {cells slots k : Nat}
variable {a : Int} {t u pc p2 : Nat} {c' : xC}

theorem x_s15 (F : x_Fr p R s m args meth c D cy A y) (C : x_Ck y k 15 a t u pc) (S : x_St s D cy A bs y CC SS L h H locs ls als ast b cells slots) (hst : x_stp (15, a, t, u, pc) k als ast b h = some c') (kk : x_K p l e R s m args below meth c Q D cy A bs y CC SS L c') : W p l e R s m args below meth c H locs cells slots Q (F0 m pc ls (ast.map (x_conc bs L))) := by
  have C : x_D ((x_by y).data.toList.drop pc) pc (x_pc y (k + 1)) (x_ifI u ((x_tp (x_cd y) t : Int) - pc)) 3 = true := C
  have hs : (match (generalizing := false) ast with | .inl i :: st => some (if x_cond u i 0 then t else k + 1, als, st, b, h) | _ => none) = some c' := hst
  split at hs
  rotate_left
  · cases hs
  rename_i i st
  cases hs
  obtain ⟨hy, hx, hb, hml, hown, hts, -⟩ := F
  obtain ⟨hd, hp⟩ := x_D_ok C
  have ho := S.2.2.2.2.1
  have oi : x_in32 i := x_hd ho
  have oj := x_zero
  have K : W p l e R s m args below meth c H locs cells slots Q (F0 m (x_pc y (if x_cond u i 0 = true then t else k + 1)) ls (st.map (x_conc bs L))) := kk L H locs ls cells slots (x_ext_rf L) (S.stk (x_tls ho))
  have ht : (pc : Int) + ((x_tp (x_cd y) t : Int) - pc) = ((x_pc y t : Nat) : Int) := by
    show (pc : Int) + (((x_pc y t : Nat) : Int) - pc) = _
    omega
  by_cases u0 : u = 0
  · subst u0
    have ec : x_cond 0 i 0 = decide (i = 0) := rfl
    refine lv_if_eq hx hb hd ht (fun q => ?_) (fun q => ?_)
    · rw [if_pos (by rw [ec]; exact decide_eq_true ((x_eqi oi oj).mp q))] at K
      exact K
    · rw [if_neg (by rw [ec]; exact fun z => q ((x_eqi oi oj).mpr (of_decide_eq_true z))), hp] at K
      exact K
  by_cases u1 : u = 1
  · subst u1
    have ec : x_cond 1 i 0 = decide (¬ i = 0) := rfl
    refine lv_if_ne hx hb hd ht (fun q => ?_) (fun q => ?_)
    · rw [if_pos (by rw [ec]; exact decide_eq_true ((not_congr (x_eqi oi oj)).mp q))] at K
      exact K
    · rw [if_neg (by rw [ec]; exact fun z => (of_decide_eq_true z) ((x_eqi oi oj).mp q)), hp] at K
      exact K
  by_cases u2 : u = 2
  · subst u2
    have ec : x_cond 2 i 0 = decide (i < 0) := rfl
    refine lv_if_lt hx hb hd ht (fun q => ?_) (fun q => ?_)
    · rw [if_pos (by rw [ec]; exact decide_eq_true ((x_lt oi oj).mp q))] at K
      exact K
    · rw [if_neg (by rw [ec]; exact fun z => q ((x_lt oi oj).mpr (of_decide_eq_true z))), hp] at K
      exact K
  by_cases u3 : u = 3
  · subst u3
    have ec : x_cond 3 i 0 = decide (0 ≤ i) := rfl
    refine lv_if_ge hx hb hd ht (fun q => ?_) (fun q => ?_)
    · rw [if_pos (by rw [ec]; exact decide_eq_true ((x_le oj oi).mp q))] at K
      exact K
    · rw [if_neg (by rw [ec]; exact fun z => q ((x_le oj oi).mpr (of_decide_eq_true z))), hp] at K
      exact K
  by_cases u4 : u = 4
  · subst u4
    have ec : x_cond 4 i 0 = decide (0 < i) := rfl
    refine lv_if_gt hx hb hd ht (fun q => ?_) (fun q => ?_)
    · rw [if_pos (by rw [ec]; exact decide_eq_true ((x_lt oj oi).mp q))] at K
      exact K
    · rw [if_neg (by rw [ec]; exact fun z => q ((x_lt oj oi).mpr (of_decide_eq_true z))), hp] at K
      exact K
  have eI : x_ifI u ((x_tp (x_cd y) t : Int) - pc) = .ifCond .le ((x_tp (x_cd y) t : Int) - pc) := by unfold x_ifI; rw [if_neg u0, if_neg u1, if_neg u2, if_neg u3, if_neg u4]
  rw [eI] at hd
  have ec : x_cond u i 0 = decide (i ≤ 0) := by unfold x_cond; rw [if_neg u0, if_neg u1, if_neg u2, if_neg u3, if_neg u4]
  refine lv_if_le hx hb hd ht (fun q => ?_) (fun q => ?_)
  · rw [if_pos (by rw [ec]; exact decide_eq_true ((x_le oi oj).mp q))] at K
    exact K
  · rw [if_neg (by rw [ec]; exact fun z => q ((x_le oi oj).mpr (of_decide_eq_true z))), hp] at K
    exact K

theorem x_s16 (F : x_Fr p R s m args meth c D cy A y) (C : x_Ck y k 16 a t u pc) (S : x_St s D cy A bs y CC SS L h H locs ls als ast b cells slots) (hst : x_stp (16, a, t, u, pc) k als ast b h = some c') (kk : x_K p l e R s m args below meth c Q D cy A bs y CC SS L c') : W p l e R s m args below meth c H locs cells slots Q (F0 m pc ls (ast.map (x_conc bs L))) := by
  have C : x_D ((x_by y).data.toList.drop pc) pc (x_pc y (k + 1)) (x_icI u ((x_tp (x_cd y) t : Int) - pc)) 3 = true := C
  have hs : (match (generalizing := false) ast with | .inl j :: .inl i :: st => some (if x_cond u i j then t else k + 1, als, st, b, h) | _ => none) = some c' := hst
  split at hs
  rotate_left
  · cases hs
  rename_i j i st
  cases hs
  obtain ⟨hy, hx, hb, hml, hown, hts, -⟩ := F
  obtain ⟨hd, hp⟩ := x_D_ok C
  have ho := S.2.2.2.2.1
  have oj : x_in32 j := x_hd ho
  have oi : x_in32 i := x_hd (x_tls ho)
  have K : W p l e R s m args below meth c H locs cells slots Q (F0 m (x_pc y (if x_cond u i j = true then t else k + 1)) ls (st.map (x_conc bs L))) := kk L H locs ls cells slots (x_ext_rf L) (S.stk (x_tls (x_tls ho)))
  have ht : (pc : Int) + ((x_tp (x_cd y) t : Int) - pc) = ((x_pc y t : Nat) : Int) := by
    show (pc : Int) + (((x_pc y t : Nat) : Int) - pc) = _
    omega
  by_cases u0 : u = 0
  · subst u0
    have ec : x_cond 0 i j = decide (i = j) := rfl
    refine lv_icmp_eq hx hb hd ht (fun q => ?_) (fun q => ?_)
    · rw [if_pos (by rw [ec]; exact decide_eq_true ((x_eqi oi oj).mp q))] at K
      exact K
    · rw [if_neg (by rw [ec]; exact fun z => q ((x_eqi oi oj).mpr (of_decide_eq_true z))), hp] at K
      exact K
  by_cases u1 : u = 1
  · subst u1
    have ec : x_cond 1 i j = decide (¬ i = j) := rfl
    refine lv_icmp_ne hx hb hd ht (fun q => ?_) (fun q => ?_)
    · rw [if_pos (by rw [ec]; exact decide_eq_true ((not_congr (x_eqi oi oj)).mp q))] at K
      exact K
    · rw [if_neg (by rw [ec]; exact fun z => (of_decide_eq_true z) ((x_eqi oi oj).mp q)), hp] at K
      exact K
  by_cases u2 : u = 2
  · subst u2
    have ec : x_cond 2 i j = decide (i < j) := rfl
    refine lv_icmp_lt hx hb hd ht (fun q => ?_) (fun q => ?_)
    · rw [if_pos (by rw [ec]; exact decide_eq_true ((x_lt oi oj).mp q))] at K
      exact K
    · rw [if_neg (by rw [ec]; exact fun z => q ((x_lt oi oj).mpr (of_decide_eq_true z))), hp] at K
      exact K
  by_cases u3 : u = 3
  · subst u3
    have ec : x_cond 3 i j = decide (j ≤ i) := rfl
    refine lv_icmp_ge hx hb hd ht (fun q => ?_) (fun q => ?_)
    · rw [if_pos (by rw [ec]; exact decide_eq_true ((x_le oj oi).mp q))] at K
      exact K
    · rw [if_neg (by rw [ec]; exact fun z => q ((x_le oj oi).mpr (of_decide_eq_true z))), hp] at K
      exact K
  by_cases u4 : u = 4
  · subst u4
    have ec : x_cond 4 i j = decide (j < i) := rfl
    refine lv_icmp_gt hx hb hd ht (fun q => ?_) (fun q => ?_)
    · rw [if_pos (by rw [ec]; exact decide_eq_true ((x_lt oj oi).mp q))] at K
      exact K
    · rw [if_neg (by rw [ec]; exact fun z => q ((x_lt oj oi).mpr (of_decide_eq_true z))), hp] at K
      exact K
  have eI : x_icI u ((x_tp (x_cd y) t : Int) - pc) = .if_icmp .le ((x_tp (x_cd y) t : Int) - pc) := by unfold x_icI; rw [if_neg u0, if_neg u1, if_neg u2, if_neg u3, if_neg u4]
  rw [eI] at hd
  have ec : x_cond u i j = decide (i ≤ j) := by unfold x_cond; rw [if_neg u0, if_neg u1, if_neg u2, if_neg u3, if_neg u4]
  refine lv_icmp_le hx hb hd ht (fun q => ?_) (fun q => ?_)
  · rw [if_pos (by rw [ec]; exact decide_eq_true ((x_le oi oj).mp q))] at K
    exact K
  · rw [if_neg (by rw [ec]; exact fun z => q ((x_le oi oj).mpr (of_decide_eq_true z))), hp] at K
    exact K

theorem x_s17 (F : x_Fr p R s m args meth c D cy A y) (C : x_Ck y k 17 a t u pc) (S : x_St s D cy A bs y CC SS L h H locs ls als ast b cells slots) (hst : x_stp (17, a, t, u, pc) k als ast b h = some c') (kk : x_K p l e R s m args below meth c Q D cy A bs y CC SS L c') : W p l e R s m args below meth c H locs cells slots Q (F0 m pc ls (ast.map (x_conc bs L))) := by
  have C : x_is ((x_by y).data.toList.drop pc) (.goto ((x_tp (x_cd y) t : Int) - pc)) 3 = true := C
  cases (show some (t, als, ast, b, h) = some c' from hst)
  obtain ⟨hy, hx, hb, hml, hown, hts, -⟩ := F
  have hd := x_is_ok C
  have ht : (pc : Int) + ((x_tp (x_cd y) t : Int) - pc) = ((x_pc y t : Nat) : Int) := by
    show (pc : Int) + (((x_pc y t : Nat) : Int) - pc) = _
    omega
  exact lv_goto hx hb hd ht (kk L H locs ls cells slots (x_ext_rf L) S)

theorem x_s18 (F : x_Fr p R s m args meth c D cy A y) (C : x_Ck y k 18 a t u pc) (S : x_St s D cy A bs y CC SS L h H locs ls als ast b cells slots) (hst : x_stp (18, a, t, u, pc) k als ast b h = some c') (kk : x_K p l e R s m args below meth c Q D cy A bs y CC SS L c') : W p l e R s m args below meth c H locs cells slots Q (F0 m pc ls (ast.map (x_conc bs L))) := by
  have C : x_D ((x_by y).data.toList.drop pc) pc (x_pc y (k + 1)) (.ifnull ((x_tp (x_cd y) t : Int) - pc)) 3 = true := C
  have hs : (match (generalizing := false) ast with | .inr r :: st => if -1 ≤ r then some (if r < 0 then t else k + 1, als, st, b, h) else none | _ => none) = some c' := hst
  split at hs
  rotate_left
  · cases hs
  rename_i r st
  split at hs
  rotate_left
  · cases hs
  rename_i hr
  cases hs
  obtain ⟨hy, hx, hb, hml, hown, hts, -⟩ := F
  obtain ⟨hd, hp⟩ := x_D_ok C
  have ho := S.2.2.2.2.1
  have K : W p l e R s m args below meth c H locs cells slots Q (F0 m (x_pc y (if r < 0 then t else k + 1)) ls (st.map (x_conc bs L))) := kk L H locs ls cells slots (x_ext_rf L) (S.stk (x_tls ho))
  have ht : (pc : Int) + ((x_tp (x_cd y) t : Int) - pc) = ((x_pc y t : Nat) : Int) := by
    show (pc : Int) + (((x_pc y t : Nat) : Int) - pc) = _
    omega
  show W p l e R s m args below meth c H locs cells slots Q (F0 m pc ls (x_conc bs L (.inr r) :: st.map (x_conc bs L)))
  by_cases q : r < 0
  · rw [x_null q (by omega)]
    rw [if_pos q] at K
    exact lv_ifnullN hx hb hd ht K
  · rw [x_ref (by omega)]
    rw [if_neg q] at K
    rw [hp] at K
    exact lv_ifnull hx hb hd K

theorem x_s19 (F : x_Fr p R s m args meth c D cy A y) (C : x_Ck y k 19 a t u pc) (S : x_St s D cy A bs y CC SS L h H locs ls als ast b cells slots) (hst : x_stp (19, a, t, u, pc) k als ast b h = some c') (kk : x_K p l e R s m args below meth c Q D cy A bs y CC SS L c') : W p l e R s m args below meth c H locs cells slots Q (F0 m pc ls (ast.map (x_conc bs L))) := by
  have C : x_D ((x_by y).data.toList.drop pc) pc (x_pc y (k + 1)) (.ifnonnull ((x_tp (x_cd y) t : Int) - pc)) 3 = true := C
  have hs : (match (generalizing := false) ast with | .inr r :: st => if -1 ≤ r then some (if r < 0 then k + 1 else t, als, st, b, h) else none | _ => none) = some c' := hst
  split at hs
  rotate_left
  · cases hs
  rename_i r st
  split at hs
  rotate_left
  · cases hs
  rename_i hr
  cases hs
  obtain ⟨hy, hx, hb, hml, hown, hts, -⟩ := F
  obtain ⟨hd, hp⟩ := x_D_ok C
  have ho := S.2.2.2.2.1
  have K : W p l e R s m args below meth c H locs cells slots Q (F0 m (x_pc y (if r < 0 then k + 1 else t)) ls (st.map (x_conc bs L))) := kk L H locs ls cells slots (x_ext_rf L) (S.stk (x_tls ho))
  have ht : (pc : Int) + ((x_tp (x_cd y) t : Int) - pc) = ((x_pc y t : Nat) : Int) := by
    show (pc : Int) + (((x_pc y t : Nat) : Int) - pc) = _
    omega
  show W p l e R s m args below meth c H locs cells slots Q (F0 m pc ls (x_conc bs L (.inr r) :: st.map (x_conc bs L)))
  by_cases q : r < 0
  · rw [x_null q (by omega)]
    rw [if_pos q] at K
    rw [hp] at K
    exact lv_ifnonnullN hx hb hd K
  · rw [x_ref (by omega)]
    rw [if_neg q] at K
    exact lv_ifnonnull hx hb hd ht K

theorem x_s20 (F : x_Fr p R s m args meth c D cy A y) (C : x_Ck y k 20 a t u pc) (S : x_St s D cy A bs y CC SS L h H locs ls als ast b cells slots) (hst : x_stp (20, a, t, u, pc) k als ast b h = some c') (kk : x_K p l e R s m args below meth c Q D cy A bs y CC SS L c') : W p l e R s m args below meth c H locs cells slots Q (F0 m pc ls (ast.map (x_conc bs L))) := by
  have C : x_D ((x_by y).data.toList.drop pc) pc (x_pc y (k + 1)) .aconst_null 1 = true := C
  cases (show some (k + 1, als, .inr (-1) :: ast, b, h) = some c' from hst)
  obtain ⟨hy, hx, hb, hml, hown, hts, -⟩ := F
  obtain ⟨hd, hp⟩ := x_D_ok C
  have hz : (0 : Int) ≤ h.1 := by rw [← S.1.1]; omega
  have K := kk L H locs ls cells slots (x_ext_rf L) (S.stk (x_cons (show (-1 : Int) < h.1 by omega) S.2.2.2.2.1))
  refine lv_null hx hb hd (W.eq ?_ K)
  show F0 m (pc + 1) ls _ = F0 m (x_pc y (k + 1)) ls _
  rw [hp]
  rfl

theorem x_s21 (F : x_Fr p R s m args meth c D cy A y) (C : x_Ck y k 21 a t u pc) (S : x_St s D cy A bs y CC SS L h H locs ls als ast b cells slots) (hst : x_stp (21, a, t, u, pc) k als ast b h = some c') (kk : x_K p l e R s m args below meth c Q D cy A bs y CC SS L c') : W p l e R s m args below meth c H locs cells slots Q (F0 m pc ls (ast.map (x_conc bs L))) := by
  have C : x_D ((x_by y).data.toList.drop pc) pc (x_pc y (k + 1)) .dup 1 = true := C
  have hs : (match (generalizing := false) ast with | v :: st => some (k + 1, als, v :: v :: st, b, h) | _ => none) = some c' := hst
  split at hs
  rotate_left
  · cases hs
  rename_i v st
  cases hs
  obtain ⟨hy, hx, hb, hml, hown, hts, -⟩ := F
  obtain ⟨hd, hp⟩ := x_D_ok C
  have ho := S.2.2.2.2.1
  refine lv_dup hx hb hd (x_cat _ _ _) (W.eq ?_ (kk L H locs ls cells slots (x_ext_rf L) (S.stk (x_cons (x_hd ho) ho))))
  show F0 m (pc + 1) ls _ = F0 m (x_pc y (k + 1)) ls _
  rw [hp]
  rfl

theorem x_s22 (F : x_Fr p R s m args meth c D cy A y) (C : x_Ck y k 22 a t u pc) (S : x_St s D cy A bs y CC SS L h H locs ls als ast b cells slots) (hst : x_stp (22, a, t, u, pc) k als ast b h = some c') (kk : x_K p l e R s m args below meth c Q D cy A bs y CC SS L c') : W p l e R s m args below meth c H locs cells slots Q (F0 m pc ls (ast.map (x_conc bs L))) := by
  have C : x_D ((x_by y).data.toList.drop pc) pc (x_pc y (k + 1)) .pop 1 = true := C
  have hs : (match (generalizing := false) ast with | _ :: st => some (k + 1, als, st, b, h) | _ => none) = some c' := hst
  split at hs
  rotate_left
  · cases hs
  rename_i v st
  cases hs
  obtain ⟨hy, hx, hb, hml, hown, hts, -⟩ := F
  obtain ⟨hd, hp⟩ := x_D_ok C
  have ho := S.2.2.2.2.1
  refine lv_pop hx hb hd (x_cat bs L v) (W.eq ?_ (kk L H locs ls cells slots (x_ext_rf L) (S.stk (x_tls ho))))
  show F0 m (pc + 1) ls _ = F0 m (x_pc y (k + 1)) ls _
  rw [hp]

theorem x_s23 (F : x_Fr p R s m args meth c D cy A y) (C : x_Ck y k 23 a t u pc) (S : x_St s D cy A bs y CC SS L h H locs ls als ast b cells slots) (hst : x_stp (23, a, t, u, pc) k als ast b h = some c') (kk : x_K p l e R s m args below meth c Q D cy A bs y CC SS L c') : W p l e R s m args below meth c H locs cells slots Q (F0 m pc ls (ast.map (x_conc bs L))) := by
  have C : x_D ((x_by y).data.toList.drop pc) pc (x_pc y (k + 1)) .dup2 1 = true := C
  have hs : (match (generalizing := false) ast with | v :: w :: st => some (k + 1, als, v :: w :: v :: w :: st, b, h) | _ => none) = some c' := hst
  split at hs
  rotate_left
  · cases hs
  rename_i v w st
  cases hs
  obtain ⟨hy, hx, hb, hml, hown, hts, -⟩ := F
  obtain ⟨hd, hp⟩ := x_D_ok C
  have ho := S.2.2.2.2.1
  refine lv_dup2_11 hx hb hd (x_cat bs L v) (x_cat bs L w) (W.eq ?_ (kk L H locs ls cells slots (x_ext_rf L) (S.stk (x_cons (x_hd ho) (x_cons (x_hd (x_tls ho)) ho)))))
  show F0 m (pc + 1) ls _ = F0 m (x_pc y (k + 1)) ls _
  rw [hp]
  rfl

theorem x_sum (bs : Nat) (L : List Nat) (st : List xV) : ((st.map (x_conc bs L)).map fun v => v.category).sum = st.length := by
  induction st with
  | nil => rfl
  | cons v st ih =>
    simp only [List.map_cons, List.sum_cons, List.length_cons]
    rw [x_cat, ih]
    omega

theorem x_s44 (F : x_Fr p R s m args meth c D cy A y) (C : x_Ck y k 44 a t u pc) (S : x_St s D cy A bs y CC SS L h H locs ls als ast b cells slots) (hcs : cells ≤ R.cells ∧ slots ≤ R.slots) (hst : x_stp (44, a, t, u, pc) k als ast b h = some c') (kk : x_K p l e R s m args below meth c Q D cy A bs y CC SS L c') : W p l e R s m args below meth c H locs cells slots Q (F0 m pc ls (ast.map (x_conc bs L))) := by
  have C : (x_wd u (.methodLink (x_nm y).cls t Lib.Math.max.name) && x_D ((x_by y).data.toList.drop pc) pc (x_pc y (k + 1)) (.invokestatic t) 3 && decide (1 ≤ x_dp y) && decide (40 ≤ x_lc y)) = true := C
  simp only [Bool.and_eq_true, decide_eq_true_eq] at C
  obtain ⟨⟨⟨Cw, C⟩, r1⟩, r2⟩ := C
  have hs : (match (generalizing := false) ast with | .inl j :: .inl i :: st => if st.length ≤ 8 then some (k + 1, als, .inl (max i j) :: st, b, h) else none | _ => none) = some c' := hst
  split at hs
  rotate_left
  · cases hs
  rename_i j i st
  split at hs
  rotate_left
  · cases hs
  rename_i h8
  cases hs
  obtain ⟨hy, hx, hb, hml, hown, hts, -, -, -, hfr, hlo, -⟩ := F
  obtain ⟨hd, hp⟩ := x_D_ok C
  have ho := S.2.2.2.2.1
  have oj : x_in32 j := x_hd ho
  have oi : x_in32 i := x_hd (x_tls ho)
  have hin : x_in32 (max i j) := by
    unfold x_in32 at *
    omega
  have J := x_jdk
  simp only [Bool.and_eq_true] at J
  have hW := fun (n : Nat) (w : Cond) (hn : x_wd n w = true) (hg : goodWord w = true) => hts w (x_wd_ok hn) hg
  have ev : (if Int32.ofInt i < Int32.ofInt j then Int32.ofInt j else Int32.ofInt i) = Int32.ofInt (max i j) := by
    by_cases q : i < j
    · rw [if_pos ((x_lt oi oj).mpr q)]
      congr 1
      omega
    · rw [if_neg (fun z => q ((x_lt oi oj).mp z))]
      congr 1
      omega
  have K : W p l e R s m args below meth c H locs cells slots Q (F0 m (x_pc y (k + 1)) ls (.int (Int32.ofInt (max i j)) :: st.map (x_conc bs L))) := kk L H locs ls cells slots (x_ext_rf L) (S.stk (x_cons (show x_okv h.1 (.inl (max i j)) from hin) (x_tls (x_tls ho))))
  rw [hp, ← ev] at K
  exact va_mmax hx hb (by rw [hml, S.2.2.1.1]) hown (hW u _ Cw rfl) (hW xp_maxs _ (by simp [J]) rfl) (hW xp_mi _ (by simp [J]) rfl) (hW xp_maxc _ (by simp [J]) rfl) (by omega) (by rw [x_sum]; omega) hcs.1 hcs.2 hd K

theorem x_s45 (F : x_Fr p R s m args meth c D cy A y) (C : x_Ck y k 45 a t u pc) (S : x_St s D cy A bs y CC SS L h H locs ls als ast b cells slots) (hcs : cells ≤ R.cells ∧ slots ≤ R.slots) (hst : x_stp (45, a, t, u, pc) k als ast b h = some c') (kk : x_K p l e R s m args below meth c Q D cy A bs y CC SS L c') : W p l e R s m args below meth c H locs cells slots Q (F0 m pc ls (ast.map (x_conc bs L))) := by
  have C : (x_wd u (.methodLink (x_nm y).cls t Lib.Math.min.name) && x_D ((x_by y).data.toList.drop pc) pc (x_pc y (k + 1)) (.invokestatic t) 3 && decide (1 ≤ x_dp y) && decide (40 ≤ x_lc y)) = true := C
  simp only [Bool.and_eq_true, decide_eq_true_eq] at C
  obtain ⟨⟨⟨Cw, C⟩, r1⟩, r2⟩ := C
  have hs : (match (generalizing := false) ast with | .inl j :: .inl i :: st => if st.length ≤ 8 then some (k + 1, als, .inl (min i j) :: st, b, h) else none | _ => none) = some c' := hst
  split at hs
  rotate_left
  · cases hs
  rename_i j i st
  split at hs
  rotate_left
  · cases hs
  rename_i h8
  cases hs
  obtain ⟨hy, hx, hb, hml, hown, hts, -, -, -, hfr, hlo, -⟩ := F
  obtain ⟨hd, hp⟩ := x_D_ok C
  have ho := S.2.2.2.2.1
  have oj : x_in32 j := x_hd ho
  have oi : x_in32 i := x_hd (x_tls ho)
  have hin : x_in32 (min i j) := by
    unfold x_in32 at *
    omega
  have J := x_jdk
  simp only [Bool.and_eq_true] at J
  have hW := fun (n : Nat) (w : Cond) (hn : x_wd n w = true) (hg : goodWord w = true) => hts w (x_wd_ok hn) hg
  have ev : (if Int32.ofInt j < Int32.ofInt i then Int32.ofInt j else Int32.ofInt i) = Int32.ofInt (min i j) := by
    by_cases q : j < i
    · rw [if_pos ((x_lt oj oi).mpr q)]
      congr 1
      omega
    · rw [if_neg (fun z => q ((x_lt oj oi).mp z))]
      congr 1
      omega
  have K : W p l e R s m args below meth c H locs cells slots Q (F0 m (x_pc y (k + 1)) ls (.int (Int32.ofInt (min i j)) :: st.map (x_conc bs L))) := kk L H locs ls cells slots (x_ext_rf L) (S.stk (x_cons (show x_okv h.1 (.inl (min i j)) from hin) (x_tls (x_tls ho))))
  rw [hp, ← ev] at K
  exact va_mmin hx hb (by rw [hml, S.2.2.1.1]) hown (hW u _ Cw rfl) (hW xp_mins _ (by simp [J]) rfl) (hW xp_mi _ (by simp [J]) rfl) (hW xp_minc _ (by simp [J]) rfl) (by omega) (by rw [x_sum]; omega) hcs.1 hcs.2 hd K

theorem x_s43 (F : x_Fr p R s m args meth c D cy A y) (C : x_Ck y k 43 a t u pc) (S : x_St s D cy A bs y CC SS L h H locs ls als ast b cells slots) (hst : x_stp (43, a, t, u, pc) k als ast b h = some c') (kk : x_K p l e R s m args below meth c Q D cy A bs y CC SS L c') : W p l e R s m args below meth c H locs cells slots Q (F0 m pc ls (ast.map (x_conc bs L))) := by
  have C : (x_wd u (.methodLink (x_nm y).cls t objectInit) && x_D ((x_by y).data.toList.drop pc) pc (x_pc y (k + 1)) (.invokespecial t) 3 && decide (1 ≤ x_dp y) && decide (40 ≤ x_lc y)) = true := C
  simp only [Bool.and_eq_true, decide_eq_true_eq] at C
  obtain ⟨⟨⟨Cw, C⟩, r1⟩, r2⟩ := C
  have hs : (match (generalizing := false) ast with | .inr r :: st => if 0 ≤ r ∧ r < h.1 ∧ st.length ≤ 8 then some (k + 1, als, st, b, h) else none | _ => none) = some c' := hst
  split at hs
  rotate_left
  · cases hs
  rename_i r st
  split at hs
  rotate_left
  · cases hs
  rename_i h8
  cases hs
  obtain ⟨hy, hx, hb, hml, hown, hts, -, -, -, hfr, hlo, -⟩ := F
  obtain ⟨hd, hp⟩ := x_D_ok C
  have ho := S.2.2.2.2.1
  have J := x_jdk
  simp only [Bool.and_eq_true] at J
  have hW := fun (n : Nat) (w : Cond) (hn : x_wd n w = true) (hg : goodWord w = true) => hts w (x_wd_ok hn) hg
  have K : W p l e R s m args below meth c H locs cells slots Q (F0 m (x_pc y (k + 1)) ls (st.map (x_conc bs L))) := kk L H locs ls cells slots (x_ext_rf L) (S.stk (x_tls ho))
  rw [hp] at K
  show W p l e R s m args below meth c H locs cells slots Q (F0 m pc ls (x_conc bs L (.inr r) :: st.map (x_conc bs L)))
  rw [x_ref h8.1]
  refine W.objInit hx hb hown (hW u _ Cw rfl) (hW xp_oi _ (by simp [J]) rfl) (hW xp_oc _ (by simp [J]) rfl) rfl (by rw [hml]; exact S.2.2.1.1) rfl hd (by omega) ?_ K
  show 2 * 0 + _ + 12 ≤ _
  rw [x_sum]
  omega

theorem x_s47 (F : x_Fr p R s m args meth c D cy A y) (C : x_Ck y k 47 a t u pc) (S : x_St s D cy A bs y CC SS L h H locs ls als ast b cells slots) (hst : x_stp (47, a, t, u, pc) k als ast b h = some c') (kk : x_K p l e R s m args below meth c Q D cy A bs y CC SS L c') : W p l e R s m args below meth c H locs cells slots Q (F0 m pc ls (ast.map (x_conc bs L))) := by
  have hs : (match (generalizing := false) ast with | .inl i :: st => some (x_swt u i, als, st, b, h) | _ => none) = some c' := hst
  split at hs
  rotate_left
  · cases hs
  rename_i i st
  cases hs
  have C : (match xsw[u]? with
      | some ((d, lo, hi, offs, len), dt, ts) => decide (decode (x_by y) pc = .ok (.tableswitch d lo hi offs, len)) && decide ((x_tp (x_cd y) dt : Int) = pc + d) && decide (offs.size = ts.length) && decide ((ts.length : Int) = hi - lo + 1) && (List.range ts.length).all (fun i => decide ((x_tp (x_cd y) (ts.getD i 0) : Int) = pc + offs.getD i 0))
      | none => false) = true := C
  cases hq : xsw[u]? with
  | none => rw [hq] at C; cases C
  | some q =>
    obtain ⟨⟨d, lo, hi, offs, len⟩, dt, ts⟩ := q
    rw [hq] at C
    simp only [Bool.and_eq_true, decide_eq_true_eq] at C
    obtain ⟨⟨⟨⟨hd, c1⟩, c2⟩, c3⟩, c4⟩ := C
    obtain ⟨hy, hx, hb, hml, hown, hts, -⟩ := F
    have ho := S.2.2.2.2.1
    have oi : x_in32 i := x_hd ho
    have K : W p l e R s m args below meth c H locs cells slots Q (F0 m (x_pc y (x_swt u i)) ls (st.map (x_conc bs L))) := kk L H locs ls cells slots (x_ext_rf L) (S.stk (x_tls ho))
    have ex : x_swt u i = if i < lo ∨ hi < i then dt else ts.getD (i - lo).toNat 0 := by
      unfold x_swt
      rw [hq]
    rw [ex] at K
    by_cases q : i < lo ∨ hi < i
    · rw [if_pos q] at K
      exact lv_tableOut hx hb hd (by rw [x_toInt oi]; exact q) c1.symm K
    · rw [if_neg q] at K
      have hlt : (i - lo).toNat < ts.length := by omega
      have c5 := of_decide_eq_true (List.all_eq_true.mp c4 (i - lo).toNat (List.mem_range.mpr hlt))
      have hz : offs[(i - lo).toNat]? = some (offs.getD (i - lo).toNat 0) := by
        rw [Array.getD_eq_getD_getElem?, Array.getElem?_eq_getElem (by omega)]
        rfl
      exact lv_tableIn hx hb hd (by rw [x_toInt oi]; omega) (by rw [x_toInt oi]; omega) (by rw [x_toInt oi]; exact hz) c5.symm K

theorem x_s54 (F : x_Fr p R s m args meth c D cy A y) (C : x_Ck y k 54 a t u pc) (S : x_St s D cy A bs y CC SS L h H locs ls als ast b cells slots) (hscr : x_rk y = 8 → x_Scr s A bs h) (hst : x_stp (54, a, t, u, pc) k als ast b h = some c') (kk : x_K p l e R s m args below meth c Q D cy A bs y CC SS L c') : W p l e R s m args below meth c H locs cells slots Q (F0 m pc ls (ast.map (x_conc bs L))) := by
  have C : (x_D ((x_by y).data.toList.drop pc) pc (x_pc y (k + 1)) .iaload 1 && decide (x_rk y = 8)) = true := C
  simp only [Bool.and_eq_true, decide_eq_true_eq] at C
  obtain ⟨C, hrk⟩ := C
  have hs : (match (generalizing := false) ast with | .inl j :: .inr r :: st => if r = -2 ∧ 0 ≤ j ∧ j < h.2.2 (-2) (-1) then some (k + 1, als, .inl (h.2.2 (-2) j) :: st, b, h) else none | _ => none) = some c' := hst
  split at hs
  rotate_left
  · cases hs
  rename_i j r st
  split at hs
  rotate_left
  · cases hs
  rename_i hg
  cases hs
  obtain ⟨hr, h0, h1⟩ := hg
  subst hr
  obtain ⟨hy, hx, hb, hml, hown, hts, -⟩ := F
  obtain ⟨hd, hp⟩ := x_D_ok C
  have ho := S.2.2.2.2.1
  have oj : x_in32 j := x_hd ho
  obtain ⟨N, xs, hX, hbl, hbA, hv, hN, hN2⟩ := hscr hrk
  rw [hN] at h1
  have hj : (j.toNat : Int) = j := Int.toNat_of_nonneg h0
  have hv2 : h.2.2 (-2) j = (xs j.toNat).toInt := by
    have := hv j.toNat (by omega)
    rw [hj] at this
    exact this
  have K : W p l e R s m args below meth c H locs cells slots Q (F0 m (x_pc y (k + 1)) ls (.int (Int32.ofInt (h.2.2 (-2) j)) :: st.map (x_conc bs L))) := kk L H locs ls cells slots (x_ext_rf L) (S.stk (x_cons (show x_okv h.1 (.inl (h.2.2 (-2) j)) from S.1.2.1 _ _) (x_tls (x_tls ho))))
  rw [hv2, x_of, hp] at K
  show W p l e R s m args below meth c H locs cells slots Q (F0 m pc ls (.int (Int32.ofInt j) :: .ref bs :: st.map (x_conc bs L)))
  refine va_sld hx hb hX hbl hbA S.2.1 (by have := x_vpin oj h0 h1; simpa using this) hd ?_
  rw [x_clamp oj]
  exact K

theorem x_s55 (F : x_Fr p R s m args meth c D cy A y) (C : x_Ck y k 55 a t u pc) (S : x_St s D cy A bs y CC SS L h H locs ls als ast b cells slots) (hscr : x_rk y = 8 → x_Scr s A bs h) (hst : x_stp (55, a, t, u, pc) k als ast b h = some c') (kk : x_K p l e R s m args below meth c Q D cy A bs y CC SS L c') : W p l e R s m args below meth c H locs cells slots Q (F0 m pc ls (ast.map (x_conc bs L))) := by
  have C : (x_D ((x_by y).data.toList.drop pc) pc (x_pc y (k + 1)) .arraylength 1 && decide (x_rk y = 8)) = true := C
  simp only [Bool.and_eq_true, decide_eq_true_eq] at C
  obtain ⟨C, hrk⟩ := C
  have hs : (match (generalizing := false) ast with | .inr r :: st => if r = -2 then some (k + 1, als, .inl (h.2.2 (-2) (-1)) :: st, b, h) else none | _ => none) = some c' := hst
  split at hs
  rotate_left
  · cases hs
  rename_i r st
  split at hs
  rotate_left
  · cases hs
  rename_i hr
  cases hs
  subst hr
  obtain ⟨hy, hx, hb, hml, hown, hts, -⟩ := F
  obtain ⟨hd, hp⟩ := x_D_ok C
  have ho := S.2.2.2.2.1
  obtain ⟨N, xs, hX, hbl, hbA, hv, hN, hN2⟩ := hscr hrk
  have K : W p l e R s m args below meth c H locs cells slots Q (F0 m (x_pc y (k + 1)) ls (.int (Int32.ofInt (h.2.2 (-2) (-1))) :: st.map (x_conc bs L))) := kk L H locs ls cells slots (x_ext_rf L) (S.stk (x_cons (show x_okv h.1 (.inl (h.2.2 (-2) (-1))) from S.1.2.1 _ _) (x_tls ho)))
  rw [hN, hp] at K
  show W p l e R s m args below meth c H locs cells slots Q (F0 m pc ls (.ref bs :: st.map (x_conc bs L)))
  exact va_slen hx hb hX hbl hbA S.2.1 hd K

end
end
section
/-! fields, rows, new cells -/
theorem x_cls {c : Nat} (hc : c < 8) : vwCl[c]? = some ((x_q c).1, (x_q c).2.1, xnsl c) ∧ (∀ w ∈ u_ws (x_q c).1 (x_q c).2.1 (xnsl c), w ∈ lw_tbl ∧ goodWord w = true) ∧ (∀ j, j < xnsl c → parseFieldDescriptor ((x_q c).2.1 j).2.2.1 = some (x_ty c j)) ∧ (∀ a, a < xnsl c → ∀ b, b < xnsl c → a ≠ b → ((x_q c).2.1 a).2.1 ≠ ((x_q c).2.1 b).2.1) := by
  have h1 := List.all_eq_true.mp x_tyok c (List.mem_range.mpr hc)
  simp only [Bool.and_eq_true, decide_eq_true_eq] at h1
  have h2 := List.all_eq_true.mp x_layok c (List.mem_range.mpr hc)
  refine ⟨?_, ?_, ?_, ?_⟩
  · have : vwCl[c]? = some (x_q c) := by
      unfold x_q
      rw [List.getD_eq_getElem?_getD, List.getElem?_eq_getElem (show c < vwCl.length from hc)]
      rfl
    rw [this, ← h1.1]
  · intro w hw
    obtain ⟨j, hj, rfl⟩ := List.mem_map.mp hw
    have := List.all_eq_true.mp h2 j hj
    simp only [Bool.and_eq_true] at this
    exact ⟨x_wd_ok this.1, this.2⟩
  · intro j hj
    have := List.all_eq_true.mp h1.2 j (List.mem_range.mpr hj)
    simp only [Bool.and_eq_true, decide_eq_true_eq] at this
    exact this.1
  · rcases (show c = 0 ∨ c = 1 ∨ c = 2 ∨ c = 3 ∨ c = 4 ∨ c = 5 ∨ c = 6 ∨ c = 7 by omega) with rfl | rfl | rfl | rfl | rfl | rfl | rfl | rfl
    · exact nmX0
    · exact nmX1
    · exact nmX2
    · exact nmX3
    · exact nmX4
    · exact nmX5
    · exact nmX6
    · exact nmX7
theorem x_tyI {c j : Nat} (hc : c < 8) (hj : j < xnsl c) : if xrf c j = true then (∃ n, x_ty c j = .object n) ∨ (∃ n, x_ty c j = .array n) else if ((x_q c).2.1 j).2.2.1 = "I" then x_ty c j = .int else x_ty c j = .boolean := by
  have h1 := List.all_eq_true.mp x_tyok c (List.mem_range.mpr hc)
  simp only [Bool.and_eq_true, decide_eq_true_eq] at h1
  have := List.all_eq_true.mp h1.2 j (List.mem_range.mpr hj)
  simp only [Bool.and_eq_true, decide_eq_true_eq] at this
  obtain ⟨-, h3⟩ := this
  by_cases q : xrf c j = true
  · rw [if_pos q] at h3 ⊢
    cases ht : x_ty c j <;> rw [ht] at h3 <;> first | exact Or.inl ⟨_, rfl⟩ | exact Or.inr ⟨_, rfl⟩ | cases h3
  · rw [if_neg q] at h3 ⊢
    by_cases q2 : ((x_q c).2.1 j).2.2.1 = "I"
    · rw [if_pos q2] at h3 ⊢
      exact of_decide_eq_true h3
    · rw [if_neg q2] at h3 ⊢
      exact of_decide_eq_true h3
theorem x_fl_ok {u : Nat} {own : String} {t pc p2 : Nat} {f : Nat → Instr} {sf : List UInt8} (h : x_ckF own t u f sf pc p2 = true) : ∃ (pl ix c j : Nat), t = c * 16 + j ∧ c < 8 ∧ j < xnsl c ∧ j < 16 ∧ x_wd pl (.fieldLink own ix ((x_q c).2.1 j).1 ((x_q c).2.1 j).2.1 ((x_q c).2.1 j).2.2.1) = true ∧ x_D sf pc p2 (f ix) 3 = true := by
  unfold x_ckF at h
  cases hq : xfl[u]? with
  | none => rw [hq] at h; cases h
  | some q =>
    obtain ⟨pl, o, ix, c, j⟩ := q
    rw [hq] at h
    simp only [Bool.and_eq_true, decide_eq_true_eq] at h
    obtain ⟨⟨rfl, ht⟩, hD⟩ := h
    have := List.all_eq_true.mp x_flok _ (List.mem_of_getElem? hq)
    simp only [Bool.and_eq_true, decide_eq_true_eq] at this
    exact ⟨pl, ix, c, j, ht, this.1.1.1, this.1.1.2, this.1.2, this.2, hD⟩
theorem x_ent_cg {cy : Nat → ClassId} {L : List Nat} {h h' : xH} {q : Int} (hM : ∀ j, h'.2.2 q j = h.2.2 q j) (hP : ∀ j, h'.2.1 q j = h.2.1 q j) : x_ent cy L h' q = x_ent cy L h q := by
  unfold x_ent x_fs x_fv
  simp only [hM, hP]
theorem x_up_ne {f : Int → Int → Int} {a k v b j : Int} (h : b ≠ a) : x_up f a k v b j = f b j := by
  unfold x_up
  rw [if_neg (fun q => h q.1)]
theorem x_up_nk {f : Int → Int → Int} {a k v b j : Int} (h : j ≠ k) : x_up f a k v b j = f b j := by
  unfold x_up
  rw [if_neg (fun q => h q.2)]
theorem x_up_self {f : Int → Int → Int} {a k v : Int} : x_up f a k v a k = v := by
  unfold x_up
  rw [if_pos ⟨rfl, rfl⟩]
section
variable {p : Program} {l : Launch} {e : Env} {R : Room} {s : State} {m : MethodId} {args : Array Value} {below : List Frame} {meth : Method} {c : Code} {Q : State → Prop}
variable {D : va_G} {cy : Nat → ClassId} {A : Nat → Prop} {bs y CC SS : Nat} {L : List Nat} {h : xH} {H : Heap} {locs : List Loc} {ls : Array Slot} {als ast : List xV} {b : xB} {cells slots k : Nat}
variable {a : Int} {t u pc p2 : Nat} {c' : xC}
theorem x_Vw.upM (V : x_Vw D cy A L h H) {r j v : Int} (h0 : 0 ≤ r) (h1 : r < h.1) (hv : x_in32 v) {e : va_E} (he : x_ent cy L (h.1, h.2.1, x_up h.2.2 r j v) r = e) {H1 : Heap} (hP : va_P D vwCl ((x_ws cy L h).set r.toNat (L.getD r.toNat 0, e)) H1) (hD : va_D A ((x_ws cy L h).set r.toNat (L.getD r.toNat 0, e))) : x_Vw D cy A L (h.1, h.2.1, x_up h.2.2 r j v) H1 := by
  have hl : r < L.length := by rw [V.1]; exact h1
  rw [x_ws_set (h := h) (h' := (h.1, h.2.1, x_up h.2.2 r j v)) h0 hl he (fun q hq => x_ent_cg (fun i => x_up_ne hq) (fun i => rfl))] at hP hD
  refine ⟨V.1, fun a k => ?_, V.2.2.1, hP, hD⟩
  show x_in32 (x_up h.2.2 r j v a k)
  unfold x_up
  split
  · exact hv
  · exact V.2.1 a k
theorem x_Vw.upP (V : x_Vw D cy A L h H) {r j v : Int} (h0 : 0 ≤ r) (h1 : r < h.1) (hv : -1 ≤ v ∧ v < h.1) {e : va_E} (he : x_ent cy L (h.1, x_up h.2.1 r j v, h.2.2) r = e) {H1 : Heap} (hP : va_P D vwCl ((x_ws cy L h).set r.toNat (L.getD r.toNat 0, e)) H1) (hD : va_D A ((x_ws cy L h).set r.toNat (L.getD r.toNat 0, e))) : x_Vw D cy A L (h.1, x_up h.2.1 r j v, h.2.2) H1 := by
  have hl : r < L.length := by rw [V.1]; exact h1
  rw [x_ws_set (h := h) (h' := (h.1, x_up h.2.1 r j v, h.2.2)) h0 hl he (fun q hq => x_ent_cg (fun i => rfl) (fun i => x_up_ne hq))] at hP hD
  refine ⟨V.1, V.2.1, fun a k => ?_, hP, hD⟩
  show -1 ≤ x_up h.2.1 r j v a k ∧ x_up h.2.1 r j v a k < h.1
  unfold x_up
  split
  · exact hv
  · exact V.2.2.1 a k
/-- the heap and the stack change, the rest stays -/
theorem x_St.hp (S : x_St s D cy A bs y CC SS L h H locs ls als ast b cells slots) {h' : xH} {H' : Heap} {locs' : List Loc} {ast' : List xV} (hz : h'.1 = h.1) (V : x_Vw D cy A L h' H') (hS : va_S A s.heap H' locs') (ho : ∀ v ∈ ast', x_okv h.1 v) : x_St s D cy A bs y CC SS L h' H' locs' ls als ast' b cells slots :=
  ⟨V, hS, S.2.2.1, fun v hv => by rw [hz]; exact S.2.2.2.1 v hv, fun v hv => by rw [hz]; exact ho v hv, S.2.2.2.2.2⟩

theorem x_s24 (F : x_Fr p R s m args meth c D cy A y) (C : x_Ck y k 24 a t u pc) (S : x_St s D cy A bs y CC SS L h H locs ls als ast b cells slots) (hst : x_stp (24, a, t, u, pc) k als ast b h = some c') (kk : x_K p l e R s m args below meth c Q D cy A bs y CC SS L c') : W p l e R s m args below meth c H locs cells slots Q (F0 m pc ls (ast.map (x_conc bs L))) := by
  have C : (x_ckF (x_nm y).cls t u .getfield ((x_by y).data.toList.drop pc) pc (x_pc y (k + 1)) && decide (xrf (t / 16) (t % 16) = false)) = true := C
  simp only [Bool.and_eq_true, decide_eq_true_eq] at C
  obtain ⟨C, hrf⟩ := C
  obtain ⟨pl, ix, cn, j, ht, hc8, hj, hj16, hw, hD⟩ := x_fl_ok C
  have e1 : t / 16 = cn := by omega
  have e2 : t % 16 = j := by omega
  rw [e1, e2] at hrf
  have hs : (match (generalizing := false) ast with | .inr r :: st => if x_ok h.1 r (t / 16) then some (k + 1, als, .inl (h.2.2 r (t % 16 : Nat)) :: st, b, h) else none | _ => none) = some c' := hst
  rw [e1, e2] at hs
  split at hs
  rotate_left
  · cases hs
  rename_i r st
  split at hs
  rotate_left
  · cases hs
  rename_i hk
  cases hs
  obtain ⟨hy, hx, hb, hml, hown, hts, hinit, hK, hAO, hfr, hlo, hA⟩ := F
  have hts2 : ∀ w ∈ lw_tbl.filter goodWord, w.before args s = true := fun w hw => hts w (List.mem_filter.mp hw).1 (List.mem_filter.mp hw).2
  obtain ⟨V, hS, -⟩ := id S
  obtain ⟨h0, h1, hkd⟩ := x_ok_ok hk
  obtain ⟨hd, hp⟩ := x_D_ok hD
  obtain ⟨q1, q2, q3, q4⟩ := x_cls hc8
  have hl : r < L.length := by rw [V.1]; exact h1
  have ho := S.2.2.2.2.1
  have K : W p l e R s m args below meth c H locs cells slots Q (F0 m (x_pc y (k + 1)) ls (.int (Int32.ofInt (h.2.2 r j)) :: st.map (x_conc bs L))) := kk L H locs ls cells slots (x_ext_rf L) (S.stk (x_cons (show x_okv h.1 (.inl (h.2.2 r j)) from V.2.1 r j) (x_tls ho)))
  rw [hp] at K
  have hv : (x_fs L h r cn)[j]? = some (.int (Int32.ofInt (h.2.2 r j))) := by
    rw [x_fs_get hj]
    unfold x_fv
    rw [if_neg (by rw [hrf]; decide)]
  show W p l e R s m args below meth c H locs cells slots Q (F0 m pc ls (x_conc bs L (.inr r) :: st.map (x_conc bs L)))
  rw [x_ref h0]
  exact va_get hx hb hts2 (fun w hw => List.mem_filter.mpr (q2 w hw)) hown hK V.2.2.2.1 r.toNat ((x_ws_get h0 hl).trans (by rw [x_ent_obj hkd hc8])) q1 j hj (hts _ (x_wd_ok hw) rfl) (fun x hx => hx) hv hd K

theorem x_s25 (F : x_Fr p R s m args meth c D cy A y) (C : x_Ck y k 25 a t u pc) (S : x_St s D cy A bs y CC SS L h H locs ls als ast b cells slots) (hst : x_stp (25, a, t, u, pc) k als ast b h = some c') (kk : x_K p l e R s m args below meth c Q D cy A bs y CC SS L c') : W p l e R s m args below meth c H locs cells slots Q (F0 m pc ls (ast.map (x_conc bs L))) := by
  have C : (x_ckF (x_nm y).cls t u .getfield ((x_by y).data.toList.drop pc) pc (x_pc y (k + 1)) && decide (xrf (t / 16) (t % 16) = true)) = true := C
  simp only [Bool.and_eq_true, decide_eq_true_eq] at C
  obtain ⟨C, hrf⟩ := C
  obtain ⟨pl, ix, cn, j, ht, hc8, hj, hj16, hw, hD⟩ := x_fl_ok C
  have e1 : t / 16 = cn := by omega
  have e2 : t % 16 = j := by omega
  rw [e1, e2] at hrf
  have hs : (match (generalizing := false) ast with | .inr r :: st => if x_ok h.1 r (t / 16) then some (k + 1, als, .inr (h.2.1 r (t % 16 : Nat)) :: st, b, h) else none | _ => none) = some c' := hst
  rw [e1, e2] at hs
  split at hs
  rotate_left
  · cases hs
  rename_i r st
  split at hs
  rotate_left
  · cases hs
  rename_i hk
  cases hs
  obtain ⟨hy, hx, hb, hml, hown, hts, hinit, hK, hAO, hfr, hlo, hA⟩ := F
  have hts2 : ∀ w ∈ lw_tbl.filter goodWord, w.before args s = true := fun w hw => hts w (List.mem_filter.mp hw).1 (List.mem_filter.mp hw).2
  obtain ⟨V, hS, -⟩ := id S
  obtain ⟨h0, h1, hkd⟩ := x_ok_ok hk
  obtain ⟨hd, hp⟩ := x_D_ok hD
  obtain ⟨q1, q2, q3, q4⟩ := x_cls hc8
  have hl : r < L.length := by rw [V.1]; exact h1
  have ho := S.2.2.2.2.1
  have K : W p l e R s m args below meth c H locs cells slots Q (F0 m (x_pc y (k + 1)) ls (x_conc bs L (.inr (h.2.1 r j)) :: st.map (x_conc bs L))) := kk L H locs ls cells slots (x_ext_rf L) (S.stk (x_cons (show x_okv h.1 (.inr (h.2.1 r j)) from (V.2.2.1 r j).2) (x_tls ho)))
  have er : x_conc bs L (.inr (h.2.1 r j)) = va_rf (x_rf L (h.2.1 r j)) := if_neg (by have := (V.2.2.1 r j).1; omega)
  rw [er] at K
  rw [hp] at K
  have hv : (x_fs L h r cn)[j]? = some (va_rf (x_rf L (h.2.1 r j))) := by
    rw [x_fs_get hj]
    unfold x_fv
    rw [if_pos hrf]
  show W p l e R s m args below meth c H locs cells slots Q (F0 m pc ls (x_conc bs L (.inr r) :: st.map (x_conc bs L)))
  rw [x_ref h0]
  exact va_get hx hb hts2 (fun w hw => List.mem_filter.mpr (q2 w hw)) hown hK V.2.2.2.1 r.toNat ((x_ws_get h0 hl).trans (by rw [x_ent_obj hkd hc8])) q1 j hj (hts _ (x_wd_ok hw) rfl) (fun x hx => hx) hv hd K

theorem x_s26 (F : x_Fr p R s m args meth c D cy A y) (C : x_Ck y k 26 a t u pc) (S : x_St s D cy A bs y CC SS L h H locs ls als ast b cells slots) (hst : x_stp (26, a, t, u, pc) k als ast b h = some c') (kk : x_K p l e R s m args below meth c Q D cy A bs y CC SS L c') : W p l e R s m args below meth c H locs cells slots Q (F0 m pc ls (ast.map (x_conc bs L))) := by
  have C : (x_ckF (x_nm y).cls t u .putfield ((x_by y).data.toList.drop pc) pc (x_pc y (k + 1)) && decide (xrf (t / 16) (t % 16) = false) && decide (((x_q (t / 16)).2.1 (t % 16)).2.2.1 = "I") && (decide (((x_q (t / 16)).2.1 (t % 16)).2.2.2 = false) || (decide (x_st y = 2) && decide (((x_q (t / 16)).2.1 (t % 16)).1 = (x_nm y).cls)))) = true := C
  simp only [Bool.and_eq_true, Bool.or_eq_true, decide_eq_true_eq] at C
  obtain ⟨⟨⟨C, hrf⟩, hdesc⟩, hfin⟩ := C
  obtain ⟨pl, ix, cn, j, ht, hc8, hj, hj16, hw, hD⟩ := x_fl_ok C
  have e1 : t / 16 = cn := by omega
  have e2 : t % 16 = j := by omega
  rw [e1, e2] at hrf hfin hdesc
  have hs : (match (generalizing := false) ast with | .inl v :: .inr r :: st => if x_ok h.1 r (t / 16) then some (k + 1, als, st, b, (h.1, h.2.1, x_up h.2.2 r (t % 16 : Nat) v)) else none | _ => none) = some c' := hst
  rw [e1, e2] at hs
  split at hs
  rotate_left
  · cases hs
  rename_i v r st
  split at hs
  rotate_left
  · cases hs
  rename_i hk
  cases hs
  obtain ⟨hy, hx, hb, hml, hown, hts, hinit, hK, hAO, hfr, hlo, hA⟩ := F
  have hts2 : ∀ w ∈ lw_tbl.filter goodWord, w.before args s = true := fun w hw => hts w (List.mem_filter.mp hw).1 (List.mem_filter.mp hw).2
  obtain ⟨V, hS, -⟩ := id S
  obtain ⟨h0, h1, hkd⟩ := x_ok_ok hk
  obtain ⟨hd, hp⟩ := x_D_ok hD
  obtain ⟨q1, q2, q3, q4⟩ := x_cls hc8
  have hl : r < L.length := by rw [V.1]; exact h1
  have ho := S.2.2.2.2.1
  have hti := x_tyI hc8 hj
  have hty : narrow (x_ty cn j) (.int (Int32.ofInt v)) = .int (Int32.ofInt v) ∧ fits (x_ty cn j) (.int (Int32.ofInt v)) = true := by
    rw [if_neg (by rw [hrf]; decide), if_pos hdesc] at hti
    rw [hti]
    exact ⟨rfl, rfl⟩
  have hv : x_in32 v := x_hd ho
  have he : x_ent cy L (h.1, h.2.1, x_up h.2.2 r (j) v) r = .inr (cn, (x_fs L h r cn).set j (.int (Int32.ofInt v))) := by
    rw [x_ent_obj hkd hc8, x_fs_set hj (h' := (h.1, h.2.1, x_up h.2.2 r (j) v))]
    · unfold x_fv
      rw [if_neg (by rw [hrf]; decide)]
      show Value.int (Int32.ofInt (x_up h.2.2 r j v r j)) = _
      rw [x_up_self]
    · intro i hi
      unfold x_fv
      show (if _ then va_rf (x_rf L (h.2.1 r i)) else .int (Int32.ofInt (x_up h.2.2 r j v r i))) = _
      rw [x_up_nk (by omega)]
  have key : ∀ (H1 : Heap) (locs1 : List Loc), va_P D vwCl ((x_ws cy L h).set r.toNat (L.getD r.toNat 0, .inr (cn, (x_fs L h r cn).set j (.int (Int32.ofInt v))))) H1 → va_D A ((x_ws cy L h).set r.toNat (L.getD r.toNat 0, .inr (cn, (x_fs L h r cn).set j (.int (Int32.ofInt v))))) → va_S A s.heap H1 locs1 → W p l e R s m args below meth c H1 locs1 cells slots Q (F0 m (pc + 3) ls (st.map (x_conc bs L))) := fun H1 locs1 g1 g2 g3 => by
    have K := kk L H1 locs1 ls cells slots (x_ext_rf L) (S.hp rfl (V.upM h0 h1 hv he g1 g2) g3 (x_tls (x_tls ho)))
    exact W.eq (by show F0 m (pc + 3) ls _ = F0 m (x_pc y (k + 1)) ls _; rw [hp]) K
  show W p l e R s m args below meth c H locs cells slots Q (F0 m pc ls (x_conc bs L (.inl v) :: x_conc bs L (.inr r) :: st.map (x_conc bs L)))
  rw [x_ref h0]
  show W p l e R s m args below meth c H locs cells slots Q (F0 m pc ls (.int (Int32.ofInt v) :: .ref (L.getD r.toNat 0) :: st.map (x_conc bs L)))
  rcases hfin with hfin | ⟨hst2, hdecl⟩
  · exact va_put hx hb hts2 (fun w hw => List.mem_filter.mpr (q2 w hw)) (x_ty cn) q3 q4 hown hK V.2.2.2.1 V.2.2.2.2 hS r.toNat ((x_ws_get h0 hl).trans (by rw [x_ent_obj hkd hc8])) q1 j hj (hts _ (x_wd_ok hw) rfl) (fun x hx => hx) hfin (q3 j hj) hty.1 hty.2 (by simp [x_fs]; exact hj) hd key
  · by_cases hfn : ((x_q cn).2.1 j).2.2.2 = false
    · exact va_put hx hb hts2 (fun w hw => List.mem_filter.mpr (q2 w hw)) (x_ty cn) q3 q4 hown hK V.2.2.2.1 V.2.2.2.2 hS r.toNat ((x_ws_get h0 hl).trans (by rw [x_ent_obj hkd hc8])) q1 j hj (hts _ (x_wd_ok hw) rfl) (fun x hx => hx) hfn (q3 j hj) hty.1 hty.2 (by simp [x_fs]; exact hj) hd key
    · exact va_putF hx hb hts2 (fun w hw => List.mem_filter.mpr (q2 w hw)) (x_ty cn) q3 q4 hown hK V.2.2.2.1 V.2.2.2.2 hS r.toNat ((x_ws_get h0 hl).trans (by rw [x_ent_obj hkd hc8])) q1 j hj (hts _ (x_wd_ok hw) rfl) (fun x hx => hx) (by simpa using hfn) (hinit hst2) hdecl (q3 j hj) hty.1 hty.2 (by simp [x_fs]; exact hj) hd key

theorem x_s27 (F : x_Fr p R s m args meth c D cy A y) (C : x_Ck y k 27 a t u pc) (S : x_St s D cy A bs y CC SS L h H locs ls als ast b cells slots) (hst : x_stp (27, a, t, u, pc) k als ast b h = some c') (kk : x_K p l e R s m args below meth c Q D cy A bs y CC SS L c') : W p l e R s m args below meth c H locs cells slots Q (F0 m pc ls (ast.map (x_conc bs L))) := by
  have C : (x_ckF (x_nm y).cls t u .putfield ((x_by y).data.toList.drop pc) pc (x_pc y (k + 1)) && decide (xrf (t / 16) (t % 16) = true) && (decide (((x_q (t / 16)).2.1 (t % 16)).2.2.2 = false) || (decide (x_st y = 2) && decide (((x_q (t / 16)).2.1 (t % 16)).1 = (x_nm y).cls)))) = true := C
  simp only [Bool.and_eq_true, Bool.or_eq_true, decide_eq_true_eq] at C
  obtain ⟨⟨C, hrf⟩, hfin⟩ := C
  obtain ⟨pl, ix, cn, j, ht, hc8, hj, hj16, hw, hD⟩ := x_fl_ok C
  have e1 : t / 16 = cn := by omega
  have e2 : t % 16 = j := by omega
  rw [e1, e2] at hrf hfin
  have hs : (match (generalizing := false) ast with | .inr v :: .inr r :: st => if x_ok h.1 r (t / 16) ∧ -1 ≤ v then some (k + 1, als, st, b, (h.1, x_up h.2.1 r (t % 16 : Nat) v, h.2.2)) else none | _ => none) = some c' := hst
  rw [e1, e2] at hs
  split at hs
  rotate_left
  · cases hs
  rename_i v r st
  split at hs
  rotate_left
  · cases hs
  rename_i hk
  cases hs
  obtain ⟨hy, hx, hb, hml, hown, hts, hinit, hK, hAO, hfr, hlo, hA⟩ := F
  have hts2 : ∀ w ∈ lw_tbl.filter goodWord, w.before args s = true := fun w hw => hts w (List.mem_filter.mp hw).1 (List.mem_filter.mp hw).2
  obtain ⟨V, hS, -⟩ := id S
  obtain ⟨h0, h1, hkd⟩ := x_ok_ok hk.1
  obtain ⟨hd, hp⟩ := x_D_ok hD
  obtain ⟨q1, q2, q3, q4⟩ := x_cls hc8
  have hl : r < L.length := by rw [V.1]; exact h1
  have ho := S.2.2.2.2.1
  have hti := x_tyI hc8 hj
  have hty : narrow (x_ty cn j) (va_rf (x_rf L v)) = va_rf (x_rf L v) ∧ fits (x_ty cn j) (va_rf (x_rf L v)) = true := by
    rw [if_pos hrf] at hti
    rcases hti with ⟨n, hti⟩ | ⟨n, hti⟩ <;> rw [hti] <;> cases x_rf L v <;> exact ⟨rfl, rfl⟩
  have hv : -1 ≤ v ∧ v < h.1 := ⟨hk.2, x_hd ho⟩
  have he : x_ent cy L (h.1, x_up h.2.1 r (j) v, h.2.2) r = .inr (cn, (x_fs L h r cn).set j (va_rf (x_rf L v))) := by
    rw [x_ent_obj hkd hc8, x_fs_set hj (h' := (h.1, x_up h.2.1 r (j) v, h.2.2))]
    · unfold x_fv
      rw [if_pos hrf]
      show va_rf (x_rf L (x_up h.2.1 r j v r j)) = _
      rw [x_up_self]
    · intro i hi
      unfold x_fv
      show (if _ then va_rf (x_rf L (x_up h.2.1 r j v r i)) else .int (Int32.ofInt (h.2.2 r i))) = _
      rw [x_up_nk (by omega)]
  have key : ∀ (H1 : Heap) (locs1 : List Loc), va_P D vwCl ((x_ws cy L h).set r.toNat (L.getD r.toNat 0, .inr (cn, (x_fs L h r cn).set j (va_rf (x_rf L v))))) H1 → va_D A ((x_ws cy L h).set r.toNat (L.getD r.toNat 0, .inr (cn, (x_fs L h r cn).set j (va_rf (x_rf L v))))) → va_S A s.heap H1 locs1 → W p l e R s m args below meth c H1 locs1 cells slots Q (F0 m (pc + 3) ls (st.map (x_conc bs L))) := fun H1 locs1 g1 g2 g3 => by
    have K := kk L H1 locs1 ls cells slots (x_ext_rf L) (S.hp rfl (V.upP h0 h1 hv he g1 g2) g3 (x_tls (x_tls ho)))
    exact W.eq (by show F0 m (pc + 3) ls _ = F0 m (x_pc y (k + 1)) ls _; rw [hp]) K
  show W p l e R s m args below meth c H locs cells slots Q (F0 m pc ls (x_conc bs L (.inr v) :: x_conc bs L (.inr r) :: st.map (x_conc bs L)))
  rw [x_ref h0]
  have er : x_conc bs L (.inr v) = va_rf (x_rf L v) := if_neg (by omega)
  rw [er]
  rcases hfin with hfin | ⟨hst2, hdecl⟩
  · exact va_put hx hb hts2 (fun w hw => List.mem_filter.mpr (q2 w hw)) (x_ty cn) q3 q4 hown hK V.2.2.2.1 V.2.2.2.2 hS r.toNat ((x_ws_get h0 hl).trans (by rw [x_ent_obj hkd hc8])) q1 j hj (hts _ (x_wd_ok hw) rfl) (fun x hx => hx) hfin (q3 j hj) hty.1 hty.2 (by simp [x_fs]; exact hj) hd key
  · by_cases hfn : ((x_q cn).2.1 j).2.2.2 = false
    · exact va_put hx hb hts2 (fun w hw => List.mem_filter.mpr (q2 w hw)) (x_ty cn) q3 q4 hown hK V.2.2.2.1 V.2.2.2.2 hS r.toNat ((x_ws_get h0 hl).trans (by rw [x_ent_obj hkd hc8])) q1 j hj (hts _ (x_wd_ok hw) rfl) (fun x hx => hx) hfn (q3 j hj) hty.1 hty.2 (by simp [x_fs]; exact hj) hd key
    · exact va_putF hx hb hts2 (fun w hw => List.mem_filter.mpr (q2 w hw)) (x_ty cn) q3 q4 hown hK V.2.2.2.1 V.2.2.2.2 hS r.toNat ((x_ws_get h0 hl).trans (by rw [x_ent_obj hkd hc8])) q1 j hj (hts _ (x_wd_ok hw) rfl) (fun x hx => hx) (by simpa using hfn) (hinit hst2) hdecl (q3 j hj) hty.1 hty.2 (by simp [x_fs]; exact hj) hd key

theorem x_s32 (F : x_Fr p R s m args meth c D cy A y) (C : x_Ck y k 32 a t u pc) (S : x_St s D cy A bs y CC SS L h H locs ls als ast b cells slots) (hst : x_stp (32, a, t, u, pc) k als ast b h = some c') (kk : x_K p l e R s m args below meth c Q D cy A bs y CC SS L c') : W p l e R s m args below meth c H locs cells slots Q (F0 m pc ls (ast.map (x_conc bs L))) := by
  have C : (x_ckF (x_nm y).cls t u .putfield ((x_by y).data.toList.drop pc) pc (x_pc y (k + 1)) && decide (xrf (t / 16) (t % 16) = false) && decide (((x_q (t / 16)).2.1 (t % 16)).2.2.1 = "Z") && decide (((x_q (t / 16)).2.1 (t % 16)).2.2.2 = false)) = true := C
  simp only [Bool.and_eq_true, Bool.or_eq_true, decide_eq_true_eq] at C
  obtain ⟨⟨⟨C, hrf⟩, hdesc⟩, hfin⟩ := C
  obtain ⟨pl, ix, cn, j, ht, hc8, hj, hj16, hw, hD⟩ := x_fl_ok C
  have e1 : t / 16 = cn := by omega
  have e2 : t % 16 = j := by omega
  rw [e1, e2] at hrf hfin hdesc
  have hs : (match (generalizing := false) ast with | .inl v :: .inr r :: st => if x_ok h.1 r (t / 16) ∧ (v = 0 ∨ v = 1) then some (k + 1, als, st, b, (h.1, h.2.1, x_up h.2.2 r (t % 16 : Nat) v)) else none | _ => none) = some c' := hst
  rw [e1, e2] at hs
  split at hs
  rotate_left
  · cases hs
  rename_i v r st
  split at hs
  rotate_left
  · cases hs
  rename_i hk
  cases hs
  obtain ⟨hy, hx, hb, hml, hown, hts, hinit, hK, hAO, hfr, hlo, hA⟩ := F
  have hts2 : ∀ w ∈ lw_tbl.filter goodWord, w.before args s = true := fun w hw => hts w (List.mem_filter.mp hw).1 (List.mem_filter.mp hw).2
  obtain ⟨V, hS, -⟩ := id S
  obtain ⟨h0, h1, hkd⟩ := x_ok_ok hk.1
  obtain ⟨hd, hp⟩ := x_D_ok hD
  obtain ⟨q1, q2, q3, q4⟩ := x_cls hc8
  have hl : r < L.length := by rw [V.1]; exact h1
  have ho := S.2.2.2.2.1
  have hti := x_tyI hc8 hj
  have hty : narrow (x_ty cn j) (.int (Int32.ofInt v)) = .int (Int32.ofInt v) ∧ fits (x_ty cn j) (.int (Int32.ofInt v)) = true := by
    rw [if_neg (by rw [hrf]; decide), if_neg (by rw [hdesc]; decide)] at hti
    rw [hti]
    rcases hk.2 with rfl | rfl <;> exact ⟨rfl, rfl⟩
  have hv : x_in32 v := x_hd ho
  have he : x_ent cy L (h.1, h.2.1, x_up h.2.2 r (j) v) r = .inr (cn, (x_fs L h r cn).set j (.int (Int32.ofInt v))) := by
    rw [x_ent_obj hkd hc8, x_fs_set hj (h' := (h.1, h.2.1, x_up h.2.2 r (j) v))]
    · unfold x_fv
      rw [if_neg (by rw [hrf]; decide)]
      show Value.int (Int32.ofInt (x_up h.2.2 r j v r j)) = _
      rw [x_up_self]
    · intro i hi
      unfold x_fv
      show (if _ then va_rf (x_rf L (h.2.1 r i)) else .int (Int32.ofInt (x_up h.2.2 r j v r i))) = _
      rw [x_up_nk (by omega)]
  have key : ∀ (H1 : Heap) (locs1 : List Loc), va_P D vwCl ((x_ws cy L h).set r.toNat (L.getD r.toNat 0, .inr (cn, (x_fs L h r cn).set j (.int (Int32.ofInt v))))) H1 → va_D A ((x_ws cy L h).set r.toNat (L.getD r.toNat 0, .inr (cn, (x_fs L h r cn).set j (.int (Int32.ofInt v))))) → va_S A s.heap H1 locs1 → W p l e R s m args below meth c H1 locs1 cells slots Q (F0 m (pc + 3) ls (st.map (x_conc bs L))) := fun H1 locs1 g1 g2 g3 => by
    have K := kk L H1 locs1 ls cells slots (x_ext_rf L) (S.hp rfl (V.upM h0 h1 hv he g1 g2) g3 (x_tls (x_tls ho)))
    exact W.eq (by show F0 m (pc + 3) ls _ = F0 m (x_pc y (k + 1)) ls _; rw [hp]) K
  show W p l e R s m args below meth c H locs cells slots Q (F0 m pc ls (x_conc bs L (.inl v) :: x_conc bs L (.inr r) :: st.map (x_conc bs L)))
  rw [x_ref h0]
  show W p l e R s m args below meth c H locs cells slots Q (F0 m pc ls (.int (Int32.ofInt v) :: .ref (L.getD r.toNat 0) :: st.map (x_conc bs L)))
  exact va_put hx hb hts2 (fun w hw => List.mem_filter.mpr (q2 w hw)) (x_ty cn) q3 q4 hown hK V.2.2.2.1 V.2.2.2.2 hS r.toNat ((x_ws_get h0 hl).trans (by rw [x_ent_obj hkd hc8])) q1 j hj (hts _ (x_wd_ok hw) rfl) (fun x hx => hx) hfin (q3 j hj) hty.1 hty.2 (by simp [x_fs]; exact hj) hd key

theorem x_s28 (F : x_Fr p R s m args meth c D cy A y) (C : x_Ck y k 28 a t u pc) (S : x_St s D cy A bs y CC SS L h H locs ls als ast b cells slots) (hst : x_stp (28, a, t, u, pc) k als ast b h = some c') (kk : x_K p l e R s m args below meth c Q D cy A bs y CC SS L c') : W p l e R s m args below meth c H locs cells slots Q (F0 m pc ls (ast.map (x_conc bs L))) := by
  have C : x_D ((x_by y).data.toList.drop pc) pc (x_pc y (k + 1)) .iaload 1 = true := C
  have hs : (match (generalizing := false) ast with | .inl j :: .inr r :: st => if x_ok h.1 r 8 ∧ 0 ≤ j ∧ j < x_ln r then some (k + 1, als, .inl (h.2.2 r j) :: st, b, h) else none | _ => none) = some c' := hst
  split at hs
  rotate_left
  · cases hs
  rename_i j r st
  split at hs
  rotate_left
  · cases hs
  rename_i hg
  cases hs
  obtain ⟨hy, hx, hb, hml, hown, hts, hinit, hK, hAO, hfr, hlo, hA⟩ := F
  have hts2 : ∀ w ∈ lw_tbl.filter goodWord, w.before args s = true := fun w hw => hts w (List.mem_filter.mp hw).1 (List.mem_filter.mp hw).2
  obtain ⟨V, hS, -⟩ := id S
  obtain ⟨hk, hj0, hj1⟩ := hg
  obtain ⟨h0, h1, hkd⟩ := x_ok_ok hk
  obtain ⟨hd, hp⟩ := x_D_ok C
  have hl : r < L.length := by rw [V.1]; exact h1
  have ho := S.2.2.2.2.1
  have oj : x_in32 j := x_hd ho
  have K : W p l e R s m args below meth c H locs cells slots Q (F0 m (x_pc y (k + 1)) ls (.int (Int32.ofInt (h.2.2 r j)) :: st.map (x_conc bs L))) := kk L H locs ls cells slots (x_ext_rf L) (S.stk (x_cons (show x_okv h.1 (.inl (h.2.2 r j)) from V.2.1 r j) (x_tls (x_tls ho))))
  rw [hp] at K
  show W p l e R s m args below meth c H locs cells slots Q (F0 m pc ls (.int (Int32.ofInt j) :: x_conc bs L (.inr r) :: st.map (x_conc bs L)))
  rw [x_ref h0]
  refine va_iald hx hb hK V.2.2.2.1 r.toNat 0 ((x_ws_get h0 hl).trans (by rw [x_ent_int hkd (by decide) (by decide)])) rfl (x_vpin oj hj0 hj1) hd ?_
  show W p l e R s m args below meth c H locs cells slots Q (F0 m (pc + 1) ls (.int (Int32.ofInt (h.2.2 r ((Int32.ofInt j).toNatClampNeg : Int))) :: _))
  rw [x_clamp oj, Int.toNat_of_nonneg hj0]
  exact K

theorem x_s33 (F : x_Fr p R s m args meth c D cy A y) (C : x_Ck y k 33 a t u pc) (S : x_St s D cy A bs y CC SS L h H locs ls als ast b cells slots) (hst : x_stp (33, a, t, u, pc) k als ast b h = some c') (kk : x_K p l e R s m args below meth c Q D cy A bs y CC SS L c') : W p l e R s m args below meth c H locs cells slots Q (F0 m pc ls (ast.map (x_conc bs L))) := by
  have C : x_D ((x_by y).data.toList.drop pc) pc (x_pc y (k + 1)) .baload 1 = true := C
  have hs : (match (generalizing := false) ast with | .inl j :: .inr r :: st => if x_ok h.1 r 9 ∧ 0 ≤ j ∧ j < x_ln r then some (k + 1, als, .inl (h.2.2 r j) :: st, b, h) else none | _ => none) = some c' := hst
  split at hs
  rotate_left
  · cases hs
  rename_i j r st
  split at hs
  rotate_left
  · cases hs
  rename_i hg
  cases hs
  obtain ⟨hy, hx, hb, hml, hown, hts, hinit, hK, hAO, hfr, hlo, hA⟩ := F
  have hts2 : ∀ w ∈ lw_tbl.filter goodWord, w.before args s = true := fun w hw => hts w (List.mem_filter.mp hw).1 (List.mem_filter.mp hw).2
  obtain ⟨V, hS, -⟩ := id S
  obtain ⟨hk, hj0, hj1⟩ := hg
  obtain ⟨h0, h1, hkd⟩ := x_ok_ok hk
  obtain ⟨hd, hp⟩ := x_D_ok C
  have hl : r < L.length := by rw [V.1]; exact h1
  have ho := S.2.2.2.2.1
  have oj : x_in32 j := x_hd ho
  have K : W p l e R s m args below meth c H locs cells slots Q (F0 m (x_pc y (k + 1)) ls (.int (Int32.ofInt (h.2.2 r j)) :: st.map (x_conc bs L))) := kk L H locs ls cells slots (x_ext_rf L) (S.stk (x_cons (show x_okv h.1 (.inl (h.2.2 r j)) from V.2.1 r j) (x_tls (x_tls ho))))
  rw [hp] at K
  show W p l e R s m args below meth c H locs cells slots Q (F0 m pc ls (.int (Int32.ofInt j) :: x_conc bs L (.inr r) :: st.map (x_conc bs L)))
  rw [x_ref h0]
  refine va_zald hx hb hK V.2.2.2.1 r.toNat 1 ((x_ws_get h0 hl).trans (by rw [x_ent_int hkd (by decide) (by decide)])) rfl (x_vpin oj hj0 hj1) hd ?_
  show W p l e R s m args below meth c H locs cells slots Q (F0 m (pc + 1) ls (.int (Int32.ofInt (h.2.2 r ((Int32.ofInt j).toNatClampNeg : Int))) :: _))
  rw [x_clamp oj, Int.toNat_of_nonneg hj0]
  exact K

theorem x_s29 (F : x_Fr p R s m args meth c D cy A y) (C : x_Ck y k 29 a t u pc) (S : x_St s D cy A bs y CC SS L h H locs ls als ast b cells slots) (hst : x_stp (29, a, t, u, pc) k als ast b h = some c') (kk : x_K p l e R s m args below meth c Q D cy A bs y CC SS L c') : W p l e R s m args below meth c H locs cells slots Q (F0 m pc ls (ast.map (x_conc bs L))) := by
  have C : x_D ((x_by y).data.toList.drop pc) pc (x_pc y (k + 1)) .iastore 1 = true := C
  have hs : (match (generalizing := false) ast with | .inl v :: .inl j :: .inr r :: st => if x_ok h.1 r 8 ∧ 0 ≤ j ∧ j < x_ln r then some (k + 1, als, st, b, (h.1, h.2.1, x_up h.2.2 r j v)) else none | _ => none) = some c' := hst
  split at hs
  rotate_left
  · cases hs
  rename_i v j r st
  split at hs
  rotate_left
  · cases hs
  rename_i hg
  cases hs
  obtain ⟨hy, hx, hb, hml, hown, hts, hinit, hK, hAO, hfr, hlo, hA⟩ := F
  have hts2 : ∀ w ∈ lw_tbl.filter goodWord, w.before args s = true := fun w hw => hts w (List.mem_filter.mp hw).1 (List.mem_filter.mp hw).2
  obtain ⟨V, hS, -⟩ := id S
  obtain ⟨hk, hj0, hj1⟩ := hg
  obtain ⟨h0, h1, hkd⟩ := x_ok_ok hk
  obtain ⟨hd, hp⟩ := x_D_ok C
  have hl : r < L.length := by rw [V.1]; exact h1
  have ho := S.2.2.2.2.1
  have ov : x_in32 v := x_hd ho
  have oj : x_in32 j := x_hd (x_tls ho)
  have he : x_ent cy L (h.1, h.2.1, x_up h.2.2 r j v) r = .inl (cy 8, (x_ln r).toNat, .inl (upd (fun i => Int32.ofInt (h.2.2 r i)) (Int32.ofInt j).toNatClampNeg (Int32.ofInt v))) := by
    rw [x_ent_int hkd (by decide) (by decide)]
    congr 4
    funext i
    rw [x_clamp oj]
    unfold upd
    show Int32.ofInt (x_up h.2.2 r j v r i) = _
    by_cases q : i = j.toNat
    · rw [if_pos q]
      have : (i : Int) = j := by omega
      rw [this, x_up_self]
    · rw [if_neg q, x_up_nk (by omega)]
  show W p l e R s m args below meth c H locs cells slots Q (F0 m pc ls (.int (Int32.ofInt v) :: .int (Int32.ofInt j) :: x_conc bs L (.inr r) :: st.map (x_conc bs L)))
  rw [x_ref h0]
  refine va_iast hx hb hK V.2.2.2.1 V.2.2.2.2 hS r.toNat 0 ((x_ws_get h0 hl).trans (by rw [x_ent_int hkd (by decide) (by decide)])) rfl (x_vpin oj hj0 hj1) hd fun H1 locs1 g1 g2 g3 => ?_
  have K := kk L H1 locs1 ls cells slots (x_ext_rf L) (S.hp rfl (V.upM h0 h1 ov he g1 g2) g3 (x_tls (x_tls (x_tls ho))))
  exact W.eq (by show F0 m (pc + 1) ls _ = F0 m (x_pc y (k + 1)) ls _; rw [hp]) K

theorem x_s34 (F : x_Fr p R s m args meth c D cy A y) (C : x_Ck y k 34 a t u pc) (S : x_St s D cy A bs y CC SS L h H locs ls als ast b cells slots) (hst : x_stp (34, a, t, u, pc) k als ast b h = some c') (kk : x_K p l e R s m args below meth c Q D cy A bs y CC SS L c') : W p l e R s m args below meth c H locs cells slots Q (F0 m pc ls (ast.map (x_conc bs L))) := by
  have C : x_D ((x_by y).data.toList.drop pc) pc (x_pc y (k + 1)) .bastore 1 = true := C
  have hs : (match (generalizing := false) ast with | .inl v :: .inl j :: .inr r :: st => if x_ok h.1 r 9 ∧ 0 ≤ j ∧ j < x_ln r ∧ (v = 0 ∨ v = 1) then some (k + 1, als, st, b, (h.1, h.2.1, x_up h.2.2 r j v)) else none | _ => none) = some c' := hst
  split at hs
  rotate_left
  · cases hs
  rename_i v j r st
  split at hs
  rotate_left
  · cases hs
  rename_i hg
  cases hs
  obtain ⟨hy, hx, hb, hml, hown, hts, hinit, hK, hAO, hfr, hlo, hA⟩ := F
  have hts2 : ∀ w ∈ lw_tbl.filter goodWord, w.before args s = true := fun w hw => hts w (List.mem_filter.mp hw).1 (List.mem_filter.mp hw).2
  obtain ⟨V, hS, -⟩ := id S
  obtain ⟨hk, hj0, hj1, hv01⟩ := hg
  obtain ⟨h0, h1, hkd⟩ := x_ok_ok hk
  obtain ⟨hd, hp⟩ := x_D_ok C
  have hl : r < L.length := by rw [V.1]; exact h1
  have ho := S.2.2.2.2.1
  have ov : x_in32 v := x_hd ho
  have oj : x_in32 j := x_hd (x_tls ho)
  have he : x_ent cy L (h.1, h.2.1, x_up h.2.2 r j v) r = .inl (cy 9, (x_ln r).toNat, .inl (upd (fun i => Int32.ofInt (h.2.2 r i)) (Int32.ofInt j).toNatClampNeg (vp_nar .boolean (Int32.ofInt v)))) := by
    rw [x_ent_int hkd (by decide) (by decide)]
    congr 4
    funext i
    rw [x_clamp oj]
    unfold upd
    show Int32.ofInt (x_up h.2.2 r j v r i) = _
    by_cases q : i = j.toNat
    · rw [if_pos q]
      have : (i : Int) = j := by omega
      rw [this, x_up_self]
      rcases hv01 with rfl | rfl <;> rfl
    · rw [if_neg q, x_up_nk (by omega)]
  show W p l e R s m args below meth c H locs cells slots Q (F0 m pc ls (.int (Int32.ofInt v) :: .int (Int32.ofInt j) :: x_conc bs L (.inr r) :: st.map (x_conc bs L)))
  rw [x_ref h0]
  refine va_zast hx hb hK V.2.2.2.1 V.2.2.2.2 hS r.toNat 1 ((x_ws_get h0 hl).trans (by rw [x_ent_int hkd (by decide) (by decide)])) rfl (x_vpin oj hj0 hj1) hd fun H1 locs1 g1 g2 g3 => ?_
  have K := kk L H1 locs1 ls cells slots (x_ext_rf L) (S.hp rfl (V.upM h0 h1 ov he g1 g2) g3 (x_tls (x_tls (x_tls ho))))
  exact W.eq (by show F0 m (pc + 1) ls _ = F0 m (x_pc y (k + 1)) ls _; rw [hp]) K

theorem x_tysR {cy : Nat → ClassId} {n : Nat} (h1 : 10 ≤ n) (h2 : n < 14) : (x_tys cy)[n - 8]? = some (cy n, .object (["WheelStands$Cart", "WheelStands$Stand", "WheelStands$Town", "WheelStands$Wheel"].getD (n - 10) "")) ∧ (x_q ([0, 2, 4, 5].getD (n - 10) 99)).1 = ["WheelStands$Cart", "WheelStands$Stand", "WheelStands$Town", "WheelStands$Wheel"].getD (n - 10) "" ∧ [0, 2, 4, 5].getD (n - 10) 99 < 8 ∧ ["WheelStands$Cart", "WheelStands$Stand", "WheelStands$Town", "WheelStands$Wheel"].getD (n - 10) "" ∈ x_aos := by
  rcases (show n = 10 ∨ n = 11 ∨ n = 12 ∨ n = 13 by omega) with rfl | rfl | rfl | rfl <;> exact ⟨rfl, rfl, by decide, by decide⟩

theorem x_s30 (F : x_Fr p R s m args meth c D cy A y) (C : x_Ck y k 30 a t u pc) (S : x_St s D cy A bs y CC SS L h H locs ls als ast b cells slots) (hst : x_stp (30, a, t, u, pc) k als ast b h = some c') (kk : x_K p l e R s m args below meth c Q D cy A bs y CC SS L c') : W p l e R s m args below meth c H locs cells slots Q (F0 m pc ls (ast.map (x_conc bs L))) := by
  have C : x_D ((x_by y).data.toList.drop pc) pc (x_pc y (k + 1)) .aaload 1 = true := C
  have hs : (match (generalizing := false) ast with | .inl j :: .inr r :: st => if 0 ≤ r ∧ r < h.1 ∧ 10 ≤ x_kd r ∧ x_kd r < 14 ∧ 0 ≤ j ∧ j < x_ln r then some (k + 1, als, .inr (h.2.1 r j) :: st, b, h) else none | _ => none) = some c' := hst
  split at hs
  rotate_left
  · cases hs
  rename_i j r st
  split at hs
  rotate_left
  · cases hs
  rename_i hg
  cases hs
  obtain ⟨hy, hx, hb, hml, hown, hts, hinit, hK, hAO, hfr, hlo, hA⟩ := F
  have hts2 : ∀ w ∈ lw_tbl.filter goodWord, w.before args s = true := fun w hw => hts w (List.mem_filter.mp hw).1 (List.mem_filter.mp hw).2
  obtain ⟨V, hS, -⟩ := id S
  obtain ⟨h0, h1, hk1, hk2, hj0, hj1⟩ := hg
  obtain ⟨hd, hp⟩ := x_D_ok C
  have hl : r < L.length := by rw [V.1]; exact h1
  have ho := S.2.2.2.2.1
  have oj : x_in32 j := x_hd ho
  have K : W p l e R s m args below meth c H locs cells slots Q (F0 m (x_pc y (k + 1)) ls (x_conc bs L (.inr (h.2.1 r j)) :: st.map (x_conc bs L))) := kk L H locs ls cells slots (x_ext_rf L) (S.stk (x_cons (show x_okv h.1 (.inr (h.2.1 r j)) from (V.2.2.1 r j).2) (x_tls (x_tls ho))))
  have er : x_conc bs L (.inr (h.2.1 r j)) = va_rf (x_rf L (h.2.1 r j)) := if_neg (by have := (V.2.2.1 r j).1; omega)
  rw [hp, er] at K
  show W p l e R s m args below meth c H locs cells slots Q (F0 m pc ls (.int (Int32.ofInt j) :: x_conc bs L (.inr r) :: st.map (x_conc bs L)))
  rw [x_ref h0]
  refine va_aldq hx hb hK V.2.2.2.1 r.toNat (x_kd r - 8) ((x_ws_get h0 hl).trans (by rw [x_ent_ref rfl (by omega)])) (x_tysR hk1 hk2).1 (x_vpin oj hj0 hj1) hd ?_
  show W p l e R s m args below meth c H locs cells slots Q (F0 m (pc + 1) ls (va_rf (x_rf L (h.2.1 r ((Int32.ofInt j).toNatClampNeg : Int))) :: _))
  rw [x_clamp oj, Int.toNat_of_nonneg hj0]
  exact K

theorem x_s31 (F : x_Fr p R s m args meth c D cy A y) (C : x_Ck y k 31 a t u pc) (S : x_St s D cy A bs y CC SS L h H locs ls als ast b cells slots) (hst : x_stp (31, a, t, u, pc) k als ast b h = some c') (kk : x_K p l e R s m args below meth c Q D cy A bs y CC SS L c') : W p l e R s m args below meth c H locs cells slots Q (F0 m pc ls (ast.map (x_conc bs L))) := by
  have C : x_D ((x_by y).data.toList.drop pc) pc (x_pc y (k + 1)) .aastore 1 = true := C
  have hs : (match (generalizing := false) ast with | .inr v :: .inl j :: .inr r :: st => if 0 ≤ r ∧ r < h.1 ∧ 10 ≤ x_kd r ∧ x_kd r < 14 ∧ 0 ≤ j ∧ j < x_ln r ∧ x_ok h.1 v ([0, 2, 4, 5].getD (x_kd r - 10) 99) then some (k + 1, als, st, b, (h.1, x_up h.2.1 r j v, h.2.2)) else none | _ => none) = some c' := hst
  split at hs
  rotate_left
  · cases hs
  rename_i v j r st
  split at hs
  rotate_left
  · cases hs
  rename_i hg
  cases hs
  obtain ⟨hy, hx, hb, hml, hown, hts, hinit, hK, hAO, hfr, hlo, hA⟩ := F
  have hts2 : ∀ w ∈ lw_tbl.filter goodWord, w.before args s = true := fun w hw => hts w (List.mem_filter.mp hw).1 (List.mem_filter.mp hw).2
  obtain ⟨V, hS, -⟩ := id S
  obtain ⟨h0, h1, hk1, hk2, hj0, hj1, hkv⟩ := hg
  obtain ⟨v0, v1, hkdv⟩ := x_ok_ok hkv
  obtain ⟨hd, hp⟩ := x_D_ok C
  obtain ⟨t1, t2, t3, -⟩ := x_tysR (cy := cy) hk1 hk2
  have hl : r < L.length := by rw [V.1]; exact h1
  have hlv : v < L.length := by rw [V.1]; exact v1
  have ho := S.2.2.2.2.1
  have oj : x_in32 j := x_hd (x_tls ho)
  have he : x_ent cy L (h.1, x_up h.2.1 r j v, h.2.2) r = .inl (cy (x_kd r), (x_ln r).toNat, .inr (.inr (.inr (.inr (va_up (fun i => x_rf L (h.2.1 r i)) (Int32.ofInt j).toNatClampNeg (some (L.getD v.toNat 0))))))) := by
    rw [x_ent_ref rfl (by omega)]
    congr 7
    funext i
    rw [x_clamp oj]
    unfold va_up
    show x_rf L (x_up h.2.1 r j v r i) = _
    by_cases q : i = j.toNat
    · rw [if_pos q]
      have : (i : Int) = j := by omega
      rw [this, x_up_self]
      unfold x_rf
      rw [if_neg (by omega)]
    · rw [if_neg q, x_up_nk (by omega)]
  obtain ⟨q1, -⟩ := x_cls t3
  show W p l e R s m args below meth c H locs cells slots Q (F0 m pc ls (x_conc bs L (.inr v) :: .int (Int32.ofInt j) :: x_conc bs L (.inr r) :: st.map (x_conc bs L)))
  rw [x_ref h0, x_ref v0]
  refine va_astq hx hb hK V.2.2.2.1 V.2.2.2.2 hS r.toNat (x_kd r - 8) v.toNat _ ((x_ws_get h0 hl).trans (by rw [x_ent_ref rfl (by omega)])) (t1.trans (by rw [← t2])) ((x_ws_get v0 hlv).trans (by rw [x_ent_obj hkdv t3])) q1 (x_vpin oj hj0 hj1) hd fun H1 locs1 g1 g2 g3 => ?_
  have K := kk L H1 locs1 ls cells slots (x_ext_rf L) (S.hp rfl (V.upP h0 h1 ⟨by omega, v1⟩ he g1 g2) g3 (x_tls (x_tls (x_tls ho))))
  exact W.eq (by show F0 m (pc + 1) ls _ = F0 m (x_pc y (k + 1)) ls _; rw [hp]) K

end
end
section
/-! new cells, copies of rows -/
theorem x_clr_ne {f : Int → Int → Int} {a v b j : Int} (h : b ≠ a) : x_clr f a v b j = f b j := by
  unfold x_clr
  rw [if_neg h]
theorem x_clr_at {f : Int → Int → Int} {a v j : Int} : x_clr f a v a j = v := by
  unfold x_clr
  rw [if_pos rfl]
def x_nw (h : xH) : xH := (h.1 + 1, x_clr h.2.1 h.1 (-1), x_clr h.2.2 h.1 0)
theorem x_okv_up {z : Int} {v : xV} (h : x_okv z v) : x_okv (z + 1) v := by
  cases v with
  | inl i => exact h
  | inr r => exact Int.lt_trans (show r < z from h) (by omega)
theorem x_ent_ext {cy : Nat → ClassId} {L t : List Nat} {h h' : xH} {q : Int} (hM : ∀ j, h'.2.2 q j = h.2.2 q j) (hP : ∀ j, h'.2.1 q j = h.2.1 q j) (hl : ∀ j, h.2.1 q j < L.length) : x_ent cy (L ++ t) h' q = x_ent cy L h q := by
  unfold x_ent x_fs x_fv
  simp only [hM, hP, x_rf_ext (hl _)]
theorem x_ws_new {cy : Nat → ClassId} {L : List Nat} {h : xH} {q : Nat} {e : va_E} (hz : (L.length : Int) = h.1) (hl : ∀ a j, h.2.1 a j < h.1) (he : x_ent cy (L ++ [q]) (x_nw h) h.1 = e) : x_ws cy L h ++ [(q, e)] = x_ws cy (L ++ [q]) (x_nw h) := by
  unfold x_ws
  rw [List.length_append, List.length_singleton, List.range_succ, List.map_append]
  congr 1
  · apply List.map_congr_left
    intro k hk
    have hk := List.mem_range.mp hk
    rw [x_getD_ext hk, x_ent_ext (h := h) (fun j => x_clr_ne (by omega)) (fun j => x_clr_ne (by omega)) (fun j => by rw [hz]; exact hl _ _)]
  · simp only [List.map_cons, List.map_nil]
    rw [hz, he]
    congr 2
    simp [List.getD_eq_getElem?_getD]
section
variable {p : Program} {l : Launch} {e : Env} {R : Room} {s : State} {m : MethodId} {args : Array Value} {below : List Frame} {meth : Method} {c : Code} {Q : State → Prop}
variable {D : va_G} {cy : Nat → ClassId} {A : Nat → Prop} {bs y CC SS : Nat} {L : List Nat} {h : xH} {H : Heap} {locs : List Loc} {ls : Array Slot} {als ast : List xV} {b : xB} {cells slots k : Nat}
variable {a : Int} {t u pc p2 : Nat} {c' : xC}
theorem x_Vw.nw (V : x_Vw D cy A L h H) {q : Nat} {e : va_E} (he : x_ent cy (L ++ [q]) (x_nw h) h.1 = e) {H1 : Heap} (hP : va_P D vwCl (x_ws cy L h ++ [(q, e)]) H1) (hD : va_D A (x_ws cy L h ++ [(q, e)])) : x_Vw D cy A (L ++ [q]) (x_nw h) H1 := by
  rw [x_ws_new V.1 (fun a j => (V.2.2.1 a j).2) he] at hP hD
  have hz : (0 : Int) ≤ h.1 := by rw [← V.1]; omega
  refine ⟨?_, fun a k => ?_, fun a k => ?_, hP, hD⟩
  · rw [List.length_append, List.length_singleton]
    show ((L.length + 1 : Nat) : Int) = h.1 + 1
    rw [← V.1]
    omega
  · show x_in32 (x_clr h.2.2 h.1 0 a k)
    unfold x_clr
    split
    · exact x_zero
    · exact V.2.1 a k
  · show -1 ≤ x_clr h.2.1 h.1 (-1) a k ∧ x_clr h.2.1 h.1 (-1) a k < h.1 + 1
    unfold x_clr
    split
    · omega
    · have := V.2.2.1 a k
      omega
theorem x_St.nw (S : x_St s D cy A bs y CC SS L h H locs ls als ast b cells slots) {q n : Nat} {H' : Heap} {locs' : List Loc} {st : List xV} (V : x_Vw D cy A (L ++ [q]) (x_nw h) H') (hS : va_S A s.heap H' locs') (ho : ∀ v ∈ st, x_okv h.1 v) (h1 : 1 ≤ b.1) (h2 : n ≤ b.2) : x_St s D cy A bs y CC SS (L ++ [q]) (x_nw h) H' locs' ls als (.inr h.1 :: st) (b.1 - 1, b.2 - n) (cells + 1) (slots + n) := by
  refine ⟨V, hS, x_lr_ext S.1.1 ⟨[q], rfl⟩ S.2.2.2.1 S.2.2.1, fun v hv => x_okv_up (S.2.2.2.1 v hv), x_cons (show h.1 < h.1 + 1 by omega) (fun v hv => x_okv_up (ho v hv)), ?_, ?_⟩
  · have := S.2.2.2.2.2.1
    show cells + 1 + (b.1 - 1) = CC
    omega
  · have := S.2.2.2.2.2.2
    show slots + n + (b.2 - n) = SS
    omega
theorem x_conc_nw {bs : Nat} {L : List Nat} {z : Int} {q : Nat} (hz : (L.length : Int) = z) : x_conc bs (L ++ [q]) (.inr z) = .ref q := by
  rw [x_ref (by omega), ← hz]
  simp [List.getD_eq_getElem?_getD]
def x_df (c : Nat) : List Value := (List.range (xnsl c)).map (fun j => if xrf c j = true then .null else .int 0)

theorem x_s35 (F : x_Fr p R s m args meth c D cy A y) (C : x_Ck y k 35 a t u pc) (S : x_St s D cy A bs y CC SS L h H locs ls als ast b cells slots) (hCS : CC ≤ R.cells ∧ SS ≤ R.slots) (hst : x_stp (35, a, t, u, pc) k als ast b h = some c') (kk : x_K p l e R s m args below meth c Q D cy A bs y CC SS L c') : W p l e R s m args below meth c H locs cells slots Q (F0 m pc ls (ast.map (x_conc bs L))) := by
  have hs : (if x_kd h.1 = t ∧ t < 8 ∧ 1 ≤ b.1 ∧ xnsl t ≤ b.2 then some (k + 1, als, .inr h.1 :: ast, (b.1 - 1, b.2 - xnsl t), x_nw h) else none) = some c' := hst
  split at hs
  rotate_left
  · cases hs
  rename_i hg
  cases hs
  obtain ⟨hkd, ht8, hb1, hb2⟩ := hg
  have C : (match xcl[u]? with
      | some (pl, o, ix, cn) => decide (o = (x_nm y).cls) && decide (t < 8) && decide (cn = (x_q t).1) && x_D ((x_by y).data.toList.drop pc) pc (x_pc y (k + 1)) (.new ix) 3
      | none => false) = true := C
  cases hq : xcl[u]? with
  | none => rw [hq] at C; cases C
  | some q =>
    obtain ⟨pl, o, ix, cn⟩ := q
    rw [hq] at C
    simp only [Bool.and_eq_true, decide_eq_true_eq] at C
    obtain ⟨⟨⟨rfl, -⟩, rfl⟩, hD⟩ := C
    obtain ⟨hd, hp⟩ := x_D_ok hD
    obtain ⟨hy, hx, hb, hml, hown, hts, hinit, hK, hAO, hfr, hlo, hA⟩ := F
    have hts2 : ∀ w ∈ lw_tbl.filter goodWord, w.before args s = true := fun w hw => hts w (List.mem_filter.mp hw).1 (List.mem_filter.mp hw).2
    obtain ⟨V, hS, -⟩ := id S
    have hw : x_wd pl (.classLink (x_nm y).cls ix (x_q t).1) = true := List.all_eq_true.mp x_clok _ (List.mem_of_getElem? hq)
    have hio := List.all_eq_true.mp x_inok t (List.mem_range.mpr ht8)
    simp only [Bool.and_eq_true] at hio
    obtain ⟨q1, q2, q3, q4⟩ := x_cls ht8
    have hcs := S.2.2.2.2.2
    refine va_new hx hb hts2 (fun w hw => List.mem_filter.mpr (q2 w hw)) (x_ty t) q3 hown (hts _ (x_wd_ok hw) rfl) (hts _ (x_wd_ok hio.1) rfl) (hts _ (x_wd_ok hio.2) rfl) hK V.2.2.2.1 V.2.2.2.2 hS hA q1 (fs := x_df t) ?_ (by omega) (by omega) hd fun q H1 g1 g2 g3 => ?_
    · intro j hj
      have hti := x_tyI ht8 hj
      have e1 : vp_V (x_df t) j = if xrf t j = true then .null else .int 0 := by
        unfold vp_V x_df
        rw [List.getD_eq_getElem?_getD, List.getElem?_map, List.getElem?_range hj]
        rfl
      rw [e1]
      by_cases r : xrf t j = true
      · rw [if_pos r] at hti ⊢
        rcases hti with ⟨n, hti⟩ | ⟨n, hti⟩ <;> rw [hti] <;> rfl
      · rw [if_neg r] at hti ⊢
        by_cases r2 : ((x_q t).2.1 j).2.2.1 = "I"
        · rw [if_pos r2] at hti
          rw [hti]; rfl
        · rw [if_neg r2] at hti
          rw [hti]; rfl
    · have he : x_ent cy (L ++ [q]) (x_nw h) h.1 = .inr (t, x_df t) := by
        rw [x_ent_obj hkd ht8]
        congr 2
        unfold x_fs x_df
        apply List.map_congr_left
        intro j hj
        unfold x_fv x_nw
        simp only [x_clr_at]
        split
        · rfl
        · rfl
      have K := kk (L ++ [q]) H1 locs ls (cells + 1) (slots + xnsl t) ⟨[q], rfl⟩ (S.nw (V.nw he g1 g2) g3 S.2.2.2.2.1 hb1 hb2)
      refine W.eq ?_ K
      show F0 m (pc + 3) ls _ = F0 m (x_pc y (k + 1)) ls (x_conc bs (L ++ [q]) (.inr h.1) :: ast.map (x_conc bs (L ++ [q])))
      rw [hp, x_conc_nw V.1, x_map_ext V.1 ⟨[q], rfl⟩ S.2.2.2.2.1]

theorem x_s36 (F : x_Fr p R s m args meth c D cy A y) (C : x_Ck y k 36 a t u pc) (S : x_St s D cy A bs y CC SS L h H locs ls als ast b cells slots) (hCS : CC ≤ R.cells ∧ SS ≤ R.slots) (hst : x_stp (36, a, t, u, pc) k als ast b h = some c') (kk : x_K p l e R s m args below meth c Q D cy A bs y CC SS L c') : W p l e R s m args below meth c H locs cells slots Q (F0 m pc ls (ast.map (x_conc bs L))) := by
  have C : x_D ((x_by y).data.toList.drop pc) pc (x_pc y (k + 1)) (.newarray .int) 2 = true := C
  have hs : (match (generalizing := false) ast with | .inl n :: st => if x_kd h.1 = 8 ∧ x_ln h.1 = n ∧ 0 ≤ n ∧ n ≤ 10000 ∧ 1 ≤ b.1 ∧ n.toNat ≤ b.2 then some (k + 1, als, .inr h.1 :: st, (b.1 - 1, b.2 - n.toNat), x_nw h) else none | _ => none) = some c' := hst
  split at hs
  rotate_left
  · cases hs
  rename_i n st
  split at hs
  rotate_left
  · cases hs
  rename_i hg
  cases hs
  obtain ⟨hkd, hln, hn0, hn1, hb1, hb2⟩ := hg
  obtain ⟨hy, hx, hb, hml, hown, hts, hinit, hK, hAO, hfr, hlo, hA⟩ := F
  have hts2 : ∀ w ∈ lw_tbl.filter goodWord, w.before args s = true := fun w hw => hts w (List.mem_filter.mp hw).1 (List.mem_filter.mp hw).2
  obtain ⟨V, hS, -⟩ := id S
  obtain ⟨hd, hp⟩ := x_D_ok C
  have ho := S.2.2.2.2.1
  have on : x_in32 n := x_hd ho
  have hcs := S.2.2.2.2.2
  have J := x_jdk
  simp only [Bool.and_eq_true] at J
  have hW := fun (n : Nat) (w : Cond) (hn : x_wd n w = true) (hg : goodWord w = true) => hts w (x_wd_ok hn) hg
  show W p l e R s m args below meth c H locs cells slots Q (F0 m pc ls (.int (Int32.ofInt n) :: st.map (x_conc bs L)))
  refine va_newa (atype := .int) (ty := .int) hx hb (hW xp_ai _ J.1.2 rfl) rfl hK V.2.2.2.1 V.2.2.2.2 hS hA (N' := n.toNat) (a0 := (n.toNat, .inl (fun _ => 0))) (fun cA => rfl) (by rw [← x_of0, x_lt on x_zero]; omega) (x_clamp on) (by simp [componentBytes]; omega) (by omega) (by omega) hd fun q cA H1 g0 g1 g2 g3 => ?_
  have ecA : cA = cy 8 := by
    have a1 := (g0.2 6 (cA, .int) rfl).2
    have a2 := (hK.2 0 (cy 8, .int) rfl).2
    exact Option.some.inj ((show s.vm.findClass _ = some cA from a1).symm.trans (show s.vm.findClass _ = some (cy 8) from a2))
  subst ecA
  have he : x_ent cy (L ++ [q]) (x_nw h) h.1 = .inl (cy 8, n.toNat, .inl (fun _ => 0)) := by
    rw [x_ent_int hkd (by decide) (by decide), hln]
    congr 4
    funext i
    show Int32.ofInt (x_clr h.2.2 h.1 0 h.1 i) = _
    rw [x_clr_at]
    rfl
  have K := kk (L ++ [q]) H1 locs ls (cells + 1) (slots + n.toNat) ⟨[q], rfl⟩ (S.nw (V.nw he g1 g2) g3 (x_tls ho) hb1 hb2)
  refine W.eq ?_ K
  show F0 m (pc + 2) ls _ = F0 m (x_pc y (k + 1)) ls (x_conc bs (L ++ [q]) (.inr h.1) :: st.map (x_conc bs (L ++ [q])))
  rw [hp, x_conc_nw V.1, x_map_ext V.1 ⟨[q], rfl⟩ (x_tls ho)]

theorem x_s37 (F : x_Fr p R s m args meth c D cy A y) (C : x_Ck y k 37 a t u pc) (S : x_St s D cy A bs y CC SS L h H locs ls als ast b cells slots) (hCS : CC ≤ R.cells ∧ SS ≤ R.slots) (hst : x_stp (37, a, t, u, pc) k als ast b h = some c') (kk : x_K p l e R s m args below meth c Q D cy A bs y CC SS L c') : W p l e R s m args below meth c H locs cells slots Q (F0 m pc ls (ast.map (x_conc bs L))) := by
  have C : x_D ((x_by y).data.toList.drop pc) pc (x_pc y (k + 1)) (.newarray .boolean) 2 = true := C
  have hs : (match (generalizing := false) ast with | .inl n :: st => if x_kd h.1 = 9 ∧ x_ln h.1 = n ∧ 0 ≤ n ∧ n ≤ 10000 ∧ 1 ≤ b.1 ∧ n.toNat ≤ b.2 then some (k + 1, als, .inr h.1 :: st, (b.1 - 1, b.2 - n.toNat), x_nw h) else none | _ => none) = some c' := hst
  split at hs
  rotate_left
  · cases hs
  rename_i n st
  split at hs
  rotate_left
  · cases hs
  rename_i hg
  cases hs
  obtain ⟨hkd, hln, hn0, hn1, hb1, hb2⟩ := hg
  obtain ⟨hy, hx, hb, hml, hown, hts, hinit, hK, hAO, hfr, hlo, hA⟩ := F
  have hts2 : ∀ w ∈ lw_tbl.filter goodWord, w.before args s = true := fun w hw => hts w (List.mem_filter.mp hw).1 (List.mem_filter.mp hw).2
  obtain ⟨V, hS, -⟩ := id S
  obtain ⟨hd, hp⟩ := x_D_ok C
  have ho := S.2.2.2.2.1
  have on : x_in32 n := x_hd ho
  have hcs := S.2.2.2.2.2
  have J := x_jdk
  simp only [Bool.and_eq_true] at J
  have hW := fun (n : Nat) (w : Cond) (hn : x_wd n w = true) (hg : goodWord w = true) => hts w (x_wd_ok hn) hg
  show W p l e R s m args below meth c H locs cells slots Q (F0 m pc ls (.int (Int32.ofInt n) :: st.map (x_conc bs L)))
  refine va_newa (atype := .boolean) (ty := .boolean) hx hb (hW xp_ab _ J.2 rfl) rfl hK V.2.2.2.1 V.2.2.2.2 hS hA (N' := n.toNat) (a0 := (n.toNat, .inl (fun _ => 0))) (fun cA => rfl) (by rw [← x_of0, x_lt on x_zero]; omega) (x_clamp on) (by simp [componentBytes]; omega) (by omega) (by omega) hd fun q cA H1 g0 g1 g2 g3 => ?_
  have ecA : cA = cy 9 := by
    have a1 := (g0.2 6 (cA, .boolean) rfl).2
    have a2 := (hK.2 1 (cy 9, .boolean) rfl).2
    exact Option.some.inj ((show s.vm.findClass _ = some cA from a1).symm.trans (show s.vm.findClass _ = some (cy 9) from a2))
  subst ecA
  have he : x_ent cy (L ++ [q]) (x_nw h) h.1 = .inl (cy 9, n.toNat, .inl (fun _ => 0)) := by
    rw [x_ent_int hkd (by decide) (by decide), hln]
    congr 4
    funext i
    show Int32.ofInt (x_clr h.2.2 h.1 0 h.1 i) = _
    rw [x_clr_at]
    rfl
  have K := kk (L ++ [q]) H1 locs ls (cells + 1) (slots + n.toNat) ⟨[q], rfl⟩ (S.nw (V.nw he g1 g2) g3 (x_tls ho) hb1 hb2)
  refine W.eq ?_ K
  show F0 m (pc + 2) ls _ = F0 m (x_pc y (k + 1)) ls (x_conc bs (L ++ [q]) (.inr h.1) :: st.map (x_conc bs (L ++ [q])))
  rw [hp, x_conc_nw V.1, x_map_ext V.1 ⟨[q], rfl⟩ (x_tls ho)]

theorem x_s38 (F : x_Fr p R s m args meth c D cy A y) (C : x_Ck y k 38 a t u pc) (S : x_St s D cy A bs y CC SS L h H locs ls als ast b cells slots) (hCS : CC ≤ R.cells ∧ SS ≤ R.slots) (hst : x_stp (38, a, t, u, pc) k als ast b h = some c') (kk : x_K p l e R s m args below meth c Q D cy A bs y CC SS L c') : W p l e R s m args below meth c H locs cells slots Q (F0 m pc ls (ast.map (x_conc bs L))) := by
  have hs : (match (generalizing := false) ast with | .inl n :: st => if x_kd h.1 = t ∧ 10 ≤ t ∧ t < 14 ∧ x_ln h.1 = n ∧ 0 ≤ n ∧ n ≤ 10000 ∧ 1 ≤ b.1 ∧ n.toNat ≤ b.2 then some (k + 1, als, .inr h.1 :: st, (b.1 - 1, b.2 - n.toNat), x_nw h) else none | _ => none) = some c' := hst
  split at hs
  rotate_left
  · cases hs
  rename_i n st
  split at hs
  rotate_left
  · cases hs
  rename_i hg
  cases hs
  obtain ⟨hkd, ht1, ht2, hln, hn0, hn1, hb1, hb2⟩ := hg
  have C : (match xcl[u]? with
      | some (pl, o, ix, cn) => decide (o = (x_nm y).cls) && decide (10 ≤ t) && decide (t < 14) && decide (cn = ["WheelStands$Cart", "WheelStands$Stand", "WheelStands$Town", "WheelStands$Wheel"].getD (t - 10) "") && x_D ((x_by y).data.toList.drop pc) pc (x_pc y (k + 1)) (.anewarray ix) 3
      | none => false) = true := C
  cases hq : xcl[u]? with
  | none => rw [hq] at C; cases C
  | some q =>
    obtain ⟨pl, o, ix, cn⟩ := q
    rw [hq] at C
    simp only [Bool.and_eq_true, decide_eq_true_eq] at C
    obtain ⟨⟨⟨⟨rfl, -⟩, -⟩, hcn⟩, hD⟩ := C
    obtain ⟨hd, hp⟩ := x_D_ok hD
    obtain ⟨hy, hx, hb, hml, hown, hts, hinit, hK, hAO, hfr, hlo, hA⟩ := F
    have hts2 : ∀ w ∈ lw_tbl.filter goodWord, w.before args s = true := fun w hw => hts w (List.mem_filter.mp hw).1 (List.mem_filter.mp hw).2
    obtain ⟨V, hS, -⟩ := id S
    have hw : x_wd pl (.classLink (x_nm y).cls ix cn) = true := List.all_eq_true.mp x_clok _ (List.mem_of_getElem? hq)
    obtain ⟨t1, -, -, t4⟩ := x_tysR (cy := cy) ht1 ht2
    rw [← hcn] at t1 t4
    have ho := S.2.2.2.2.1
    have on : x_in32 n := x_hd ho
    have hcs := S.2.2.2.2.2
    show W p l e R s m args below meth c H locs cells slots Q (F0 m pc ls (.int (Int32.ofInt n) :: st.map (x_conc bs L)))
    refine va_newq hx hb hown (hts _ (x_wd_ok hw) rfl) (hAO cn t4) hK V.2.2.2.1 V.2.2.2.2 hS hA (N' := n.toNat) (by rw [← x_of0, x_lt on x_zero]; omega) (x_clamp on) (by omega) (by omega) (by omega) hd fun q cA H1 g0 g1 g2 g3 => ?_
    have ecA : cA = cy t := by
      obtain ⟨_, _, _, _, _, a1⟩ := (g0.2 6 (cA, .object cn) rfl).2
      obtain ⟨_, _, _, _, _, a2⟩ := (hK.2 (t - 8) (cy t, .object cn) t1).2
      exact Option.some.inj (a1.symm.trans a2)
    subst ecA
    have he : x_ent cy (L ++ [q]) (x_nw h) h.1 = .inl (cy t, n.toNat, .inr (.inr (.inr (.inr (fun _ => none))))) := by
      rw [x_ent_ref hkd (by omega), hln]
      congr 7
      funext i
      show x_rf _ (x_clr h.2.1 h.1 (-1) h.1 i) = _
      rw [x_clr_at]
      rfl
    have K := kk (L ++ [q]) H1 locs ls (cells + 1) (slots + n.toNat) ⟨[q], rfl⟩ (S.nw (V.nw he g1 g2) g3 (x_tls ho) hb1 hb2)
    refine W.eq ?_ K
    show F0 m (pc + 3) ls _ = F0 m (x_pc y (k + 1)) ls (x_conc bs (L ++ [q]) (.inr h.1) :: st.map (x_conc bs (L ++ [q])))
    rw [hp, x_conc_nw V.1, x_map_ext V.1 ⟨[q], rfl⟩ (x_tls ho)]

theorem x_s46 (F : x_Fr p R s m args meth c D cy A y) (C : x_Ck y k 46 a t u pc) (S : x_St s D cy A bs y CC SS L h H locs ls als ast b cells slots) (hst : x_stp (46, a, t, u, pc) k als ast b h = some c') (kk : x_K p l e R s m args below meth c Q D cy A bs y CC SS L c') : W p l e R s m args below meth c H locs cells slots Q (F0 m pc ls (ast.map (x_conc bs L))) := by
  have C : (x_wd u (.methodLink (x_nm y).cls t arraycopyName) && x_D ((x_by y).data.toList.drop pc) pc (x_pc y (k + 1)) (.invokestatic t) 3 && decide (1 ≤ x_dp y) && decide (40 ≤ x_lc y)) = true := C
  simp only [Bool.and_eq_true, decide_eq_true_eq] at C
  obtain ⟨⟨⟨Cw, C⟩, r1⟩, r2⟩ := C
  have hs : (match (generalizing := false) ast with | .inl n :: .inl dp :: .inr a :: .inl sp :: .inr a0 :: st => if x_ok h.1 a 8 ∧ x_ok h.1 a0 8 ∧ 0 ≤ sp ∧ 0 ≤ dp ∧ 0 ≤ n ∧ sp + n ≤ x_ln a0 ∧ dp + n ≤ x_ln a ∧ st.length ≤ 8 then some (k + 1, als, st, b, (h.1, h.2.1, x_cp h.2.2 a0 sp a dp n)) else none | _ => none) = some c' := hst
  split at hs
  rotate_left
  · cases hs
  rename_i n dp r sp r0 st
  split at hs
  rotate_left
  · cases hs
  rename_i hg
  cases hs
  obtain ⟨hy, hx, hb, hml, hown, hts, hinit, hK, hAO, hfr, hlo, hA⟩ := F
  have hts2 : ∀ w ∈ lw_tbl.filter goodWord, w.before args s = true := fun w hw => hts w (List.mem_filter.mp hw).1 (List.mem_filter.mp hw).2
  obtain ⟨V, hS, -⟩ := id S
  obtain ⟨hk, hk0, hsp, hdp, hn, hs0, hs1, h8⟩ := hg
  obtain ⟨h0, h1, hkd⟩ := x_ok_ok hk
  obtain ⟨h00, h01, hkd0⟩ := x_ok_ok hk0
  obtain ⟨hd, hp⟩ := x_D_ok C
  have hl : r < L.length := by rw [V.1]; exact h1
  have hl0 : r0 < L.length := by rw [V.1]; exact h01
  have ho := S.2.2.2.2.1
  have on : x_in32 n := x_hd ho
  have od : x_in32 dp := x_hd (x_tls ho)
  have os : x_in32 sp := x_hd (x_tls (x_tls (x_tls ho)))
  have J := x_jdk
  simp only [Bool.and_eq_true] at J
  have hW := fun (n : Nat) (w : Cond) (hn : x_wd n w = true) (hg : goodWord w = true) => hts w (x_wd_ok hn) hg
  have he : x_ent cy L (h.1, h.2.1, x_cp h.2.2 r0 sp r dp n) r = .inl (cy 8, (x_ln r).toNat, .inl (va_cpy (fun i => Int32.ofInt (h.2.2 r0 i)) (fun i => Int32.ofInt (h.2.2 r i)) (Int32.ofInt sp).toNatClampNeg (Int32.ofInt dp).toNatClampNeg (Int32.ofInt n).toNatClampNeg)) := by
    rw [x_ent_int hkd (by decide) (by decide)]
    congr 4
    funext i
    rw [x_clamp on, x_clamp od, x_clamp os]
    show Int32.ofInt (x_cp h.2.2 r0 sp r dp n r i) = _
    unfold va_cpy x_cp
    by_cases q : dp.toNat ≤ i ∧ i < dp.toNat + n.toNat
    · rw [if_pos q, if_pos ⟨rfl, by omega, by omega⟩]
      have e : sp + ((i : Int) - dp) = ((sp.toNat + (i - dp.toNat) : Nat) : Int) := by omega
      rw [e]
    · rw [if_neg q, if_neg (fun z => q (by omega))]
  show W p l e R s m args below meth c H locs cells slots Q (F0 m pc ls (.int (Int32.ofInt n) :: .int (Int32.ofInt dp) :: x_conc bs L (.inr r) :: .int (Int32.ofInt sp) :: x_conc bs L (.inr r0) :: st.map (x_conc bs L)))
  rw [x_ref h0, x_ref h00]
  refine va_copyi hx hb (by rw [hml, S.2.2.1.1]) hown (hW u _ Cw rfl) (hW xp_an _ (by simp [J]) rfl) (hW xp_as _ (by simp [J]) rfl) (hW xp_si _ (by simp [J]) rfl) hK V.2.2.2.1 V.2.2.2.2 hS r0.toNat r.toNat 0 0 ((x_ws_get h00 hl0).trans (by rw [x_ent_int hkd0 (by decide) (by decide)])) ((x_ws_get h0 hl).trans (by rw [x_ent_int hkd (by decide) (by decide)])) rfl rfl rfl (by rw [← x_of0, x_lt os x_zero]; omega) (by rw [← x_of0, x_lt od x_zero]; omega) (by rw [← x_of0, x_lt on x_zero]; omega) (by rw [x_clamp on, x_clamp os]; omega) (by rw [x_clamp on, x_clamp od]; omega) (fun i hi => rfl) (by omega) ?_ hd fun H1 locs1 g1 g2 g3 => ?_
  · rw [x_sum]
    have : nativeFrameWords "java/lang/System" "arraycopy" 5 = 7 := by decide +kernel
    omega
  · have V2 : x_Vw D cy A L (h.1, h.2.1, x_cp h.2.2 r0 sp r dp n) H1 := by
      rw [x_ws_set (h := h) (h' := (h.1, h.2.1, x_cp h.2.2 r0 sp r dp n)) h0 hl he (fun q hq => x_ent_cg (fun i => by show x_cp h.2.2 r0 sp r dp n q i = _; unfold x_cp; rw [if_neg (fun z => hq z.1)]) (fun i => rfl))] at g1 g2
      refine ⟨V.1, fun a k => ?_, V.2.2.1, g1, g2⟩
      show x_in32 (x_cp h.2.2 r0 sp r dp n a k)
      unfold x_cp
      split
      · exact V.2.1 _ _
      · exact V.2.1 a k
    have K := kk L H1 locs1 ls cells slots (x_ext_rf L) (S.hp rfl V2 g3 (x_tls (x_tls (x_tls (x_tls (x_tls ho))))))
    exact W.eq (by show F0 m (pc + 3) ls _ = F0 m (x_pc y (k + 1)) ls _; rw [hp]) K

end
end
section
/-! the script stays -/
section
variable {a : Int} {t u pc k : Nat} {als ast : List xV} {b : xB} {h : xH} {c' : xC}
theorem x_scr0 (hz : 0 ≤ h.1) (hst : x_stp (0, a, t, u, pc) k als ast b h = some c') : 0 ≤ c'.2.2.2.2.1 ∧ ∀ j, c'.2.2.2.2.2.2 (-2) j = h.2.2 (-2) j := by
  have hs : (some (k + 1, als, .inl a :: ast, b, h)) = some c' := hst
  cases hs
  exact ⟨hz, fun j => rfl⟩
theorem x_scr1 (hz : 0 ≤ h.1) (hst : x_stp (1, a, t, u, pc) k als ast b h = some c') : 0 ≤ c'.2.2.2.2.1 ∧ ∀ j, c'.2.2.2.2.2.2 (-2) j = h.2.2 (-2) j := by
  have hs : ((match (generalizing := false) als[t]? with | some (.inl v) => some (k + 1, als, .inl v :: ast, b, h) | _ => none)) = some c' := hst
  repeat' split at hs
  all_goals first | (cases hs; exact ⟨hz, fun j => rfl⟩) | cases hs
theorem x_scr2 (hz : 0 ≤ h.1) (hst : x_stp (2, a, t, u, pc) k als ast b h = some c') : 0 ≤ c'.2.2.2.2.1 ∧ ∀ j, c'.2.2.2.2.2.2 (-2) j = h.2.2 (-2) j := by
  have hs : ((match (generalizing := false) als[t]? with | some (.inr v) => if -2 ≤ v then some (k + 1, als, .inr v :: ast, b, h) else none | _ => none)) = some c' := hst
  repeat' split at hs
  all_goals first | (cases hs; exact ⟨hz, fun j => rfl⟩) | cases hs
theorem x_scr3 (hz : 0 ≤ h.1) (hst : x_stp (3, a, t, u, pc) k als ast b h = some c') : 0 ≤ c'.2.2.2.2.1 ∧ ∀ j, c'.2.2.2.2.2.2 (-2) j = h.2.2 (-2) j := by
  have hs : ((match (generalizing := false) ast with | .inl v :: st => if t < als.length then some (k + 1, als.set t (.inl v), st, b, h) else none | _ => none)) = some c' := hst
  repeat' split at hs
  all_goals first | (cases hs; exact ⟨hz, fun j => rfl⟩) | cases hs
theorem x_scr4 (hz : 0 ≤ h.1) (hst : x_stp (4, a, t, u, pc) k als ast b h = some c') : 0 ≤ c'.2.2.2.2.1 ∧ ∀ j, c'.2.2.2.2.2.2 (-2) j = h.2.2 (-2) j := by
  have hs : ((match (generalizing := false) ast with | .inr v :: st => if t < als.length ∧ -2 ≤ v then some (k + 1, als.set t (.inr v), st, b, h) else none | _ => none)) = some c' := hst
  repeat' split at hs
  all_goals first | (cases hs; exact ⟨hz, fun j => rfl⟩) | cases hs
theorem x_scr5 (hz : 0 ≤ h.1) (hst : x_stp (5, a, t, u, pc) k als ast b h = some c') : 0 ≤ c'.2.2.2.2.1 ∧ ∀ j, c'.2.2.2.2.2.2 (-2) j = h.2.2 (-2) j := by
  have hs : ((match (generalizing := false) als[t]? with | some (.inl v) => some (k + 1, als.set t (.inl (x_w (v + a))), ast, b, h) | _ => none)) = some c' := hst
  repeat' split at hs
  all_goals first | (cases hs; exact ⟨hz, fun j => rfl⟩) | cases hs
theorem x_scr6 (hz : 0 ≤ h.1) (hst : x_stp (6, a, t, u, pc) k als ast b h = some c') : 0 ≤ c'.2.2.2.2.1 ∧ ∀ j, c'.2.2.2.2.2.2 (-2) j = h.2.2 (-2) j := by
  have hs : ((match (generalizing := false) ast with | .inl j :: .inl i :: st => some (k + 1, als, .inl (x_w (i + j)) :: st, b, h) | _ => none)) = some c' := hst
  repeat' split at hs
  all_goals first | (cases hs; exact ⟨hz, fun j => rfl⟩) | cases hs
theorem x_scr7 (hz : 0 ≤ h.1) (hst : x_stp (7, a, t, u, pc) k als ast b h = some c') : 0 ≤ c'.2.2.2.2.1 ∧ ∀ j, c'.2.2.2.2.2.2 (-2) j = h.2.2 (-2) j := by
  have hs : ((match (generalizing := false) ast with | .inl j :: .inl i :: st => some (k + 1, als, .inl (x_w (i - j)) :: st, b, h) | _ => none)) = some c' := hst
  repeat' split at hs
  all_goals first | (cases hs; exact ⟨hz, fun j => rfl⟩) | cases hs
theorem x_scr8 (hz : 0 ≤ h.1) (hst : x_stp (8, a, t, u, pc) k als ast b h = some c') : 0 ≤ c'.2.2.2.2.1 ∧ ∀ j, c'.2.2.2.2.2.2 (-2) j = h.2.2 (-2) j := by
  have hs : ((match (generalizing := false) ast with | .inl j :: .inl i :: st => some (k + 1, als, .inl (x_w (i * j)) :: st, b, h) | _ => none)) = some c' := hst
  repeat' split at hs
  all_goals first | (cases hs; exact ⟨hz, fun j => rfl⟩) | cases hs
theorem x_scr9 (hz : 0 ≤ h.1) (hst : x_stp (9, a, t, u, pc) k als ast b h = some c') : 0 ≤ c'.2.2.2.2.1 ∧ ∀ j, c'.2.2.2.2.2.2 (-2) j = h.2.2 (-2) j := by
  have hs : ((match (generalizing := false) ast with | .inl j :: .inl i :: st => if 0 ≤ i ∧ 0 < j then some (k + 1, als, .inl (i % j) :: st, b, h) else none | _ => none)) = some c' := hst
  repeat' split at hs
  all_goals first | (cases hs; exact ⟨hz, fun j => rfl⟩) | cases hs
theorem x_scr10 (hz : 0 ≤ h.1) (hst : x_stp (10, a, t, u, pc) k als ast b h = some c') : 0 ≤ c'.2.2.2.2.1 ∧ ∀ j, c'.2.2.2.2.2.2 (-2) j = h.2.2 (-2) j := by
  have hs : ((match (generalizing := false) ast with | .inl i :: st => some (k + 1, als, .inl (x_w (-i)) :: st, b, h) | _ => none)) = some c' := hst
  repeat' split at hs
  all_goals first | (cases hs; exact ⟨hz, fun j => rfl⟩) | cases hs
theorem x_scr11 (hz : 0 ≤ h.1) (hst : x_stp (11, a, t, u, pc) k als ast b h = some c') : 0 ≤ c'.2.2.2.2.1 ∧ ∀ j, c'.2.2.2.2.2.2 (-2) j = h.2.2 (-2) j := by
  have hs : ((match (generalizing := false) ast with | .inl j :: .inl i :: st => some (k + 1, als, .inl (Int32.ofInt i &&& Int32.ofInt j).toInt :: st, b, h) | _ => none)) = some c' := hst
  repeat' split at hs
  all_goals first | (cases hs; exact ⟨hz, fun j => rfl⟩) | cases hs
theorem x_scr12 (hz : 0 ≤ h.1) (hst : x_stp (12, a, t, u, pc) k als ast b h = some c') : 0 ≤ c'.2.2.2.2.1 ∧ ∀ j, c'.2.2.2.2.2.2 (-2) j = h.2.2 (-2) j := by
  have hs : ((match (generalizing := false) ast with | .inl j :: .inl i :: st => some (k + 1, als, .inl (Int32.ofInt i ||| Int32.ofInt j).toInt :: st, b, h) | _ => none)) = some c' := hst
  repeat' split at hs
  all_goals first | (cases hs; exact ⟨hz, fun j => rfl⟩) | cases hs
theorem x_scr13 (hz : 0 ≤ h.1) (hst : x_stp (13, a, t, u, pc) k als ast b h = some c') : 0 ≤ c'.2.2.2.2.1 ∧ ∀ j, c'.2.2.2.2.2.2 (-2) j = h.2.2 (-2) j := by
  have hs : ((match (generalizing := false) ast with | .inl j :: .inl i :: st => some (k + 1, als, .inl (Int32.ofInt i <<< (Int32.ofInt j &&& 31)).toInt :: st, b, h) | _ => none)) = some c' := hst
  repeat' split at hs
  all_goals first | (cases hs; exact ⟨hz, fun j => rfl⟩) | cases hs
theorem x_scr14 (hz : 0 ≤ h.1) (hst : x_stp (14, a, t, u, pc) k als ast b h = some c') : 0 ≤ c'.2.2.2.2.1 ∧ ∀ j, c'.2.2.2.2.2.2 (-2) j = h.2.2 (-2) j := by
  have hs : ((match (generalizing := false) ast with | .inl j :: .inl i :: st => some (k + 1, als, .inl (Int32.ofInt i >>> (Int32.ofInt j &&& 31)).toInt :: st, b, h) | _ => none)) = some c' := hst
  repeat' split at hs
  all_goals first | (cases hs; exact ⟨hz, fun j => rfl⟩) | cases hs
theorem x_scr15 (hz : 0 ≤ h.1) (hst : x_stp (15, a, t, u, pc) k als ast b h = some c') : 0 ≤ c'.2.2.2.2.1 ∧ ∀ j, c'.2.2.2.2.2.2 (-2) j = h.2.2 (-2) j := by
  have hs : ((match (generalizing := false) ast with | .inl i :: st => some (if x_cond u i 0 then t else k + 1, als, st, b, h) | _ => none)) = some c' := hst
  repeat' split at hs
  all_goals first | (cases hs; exact ⟨hz, fun j => rfl⟩) | cases hs
theorem x_scr16 (hz : 0 ≤ h.1) (hst : x_stp (16, a, t, u, pc) k als ast b h = some c') : 0 ≤ c'.2.2.2.2.1 ∧ ∀ j, c'.2.2.2.2.2.2 (-2) j = h.2.2 (-2) j := by
  have hs : ((match (generalizing := false) ast with | .inl j :: .inl i :: st => some (if x_cond u i j then t else k + 1, als, st, b, h) | _ => none)) = some c' := hst
  repeat' split at hs
  all_goals first | (cases hs; exact ⟨hz, fun j => rfl⟩) | cases hs
theorem x_scr17 (hz : 0 ≤ h.1) (hst : x_stp (17, a, t, u, pc) k als ast b h = some c') : 0 ≤ c'.2.2.2.2.1 ∧ ∀ j, c'.2.2.2.2.2.2 (-2) j = h.2.2 (-2) j := by
  have hs : (some (t, als, ast, b, h)) = some c' := hst
  cases hs
  exact ⟨hz, fun j => rfl⟩
theorem x_scr18 (hz : 0 ≤ h.1) (hst : x_stp (18, a, t, u, pc) k als ast b h = some c') : 0 ≤ c'.2.2.2.2.1 ∧ ∀ j, c'.2.2.2.2.2.2 (-2) j = h.2.2 (-2) j := by
  have hs : ((match (generalizing := false) ast with | .inr r :: st => if -1 ≤ r then some (if r < 0 then t else k + 1, als, st, b, h) else none | _ => none)) = some c' := hst
  repeat' split at hs
  all_goals first | (cases hs; exact ⟨hz, fun j => rfl⟩) | cases hs
theorem x_scr19 (hz : 0 ≤ h.1) (hst : x_stp (19, a, t, u, pc) k als ast b h = some c') : 0 ≤ c'.2.2.2.2.1 ∧ ∀ j, c'.2.2.2.2.2.2 (-2) j = h.2.2 (-2) j := by
  have hs : ((match (generalizing := false) ast with | .inr r :: st => if -1 ≤ r then some (if r < 0 then k + 1 else t, als, st, b, h) else none | _ => none)) = some c' := hst
  repeat' split at hs
  all_goals first | (cases hs; exact ⟨hz, fun j => rfl⟩) | cases hs
theorem x_scr20 (hz : 0 ≤ h.1) (hst : x_stp (20, a, t, u, pc) k als ast b h = some c') : 0 ≤ c'.2.2.2.2.1 ∧ ∀ j, c'.2.2.2.2.2.2 (-2) j = h.2.2 (-2) j := by
  have hs : (some (k + 1, als, .inr (-1) :: ast, b, h)) = some c' := hst
  cases hs
  exact ⟨hz, fun j => rfl⟩
theorem x_scr21 (hz : 0 ≤ h.1) (hst : x_stp (21, a, t, u, pc) k als ast b h = some c') : 0 ≤ c'.2.2.2.2.1 ∧ ∀ j, c'.2.2.2.2.2.2 (-2) j = h.2.2 (-2) j := by
  have hs : ((match (generalizing := false) ast with | v :: st => some (k + 1, als, v :: v :: st, b, h) | _ => none)) = some c' := hst
  repeat' split at hs
  all_goals first | (cases hs; exact ⟨hz, fun j => rfl⟩) | cases hs
theorem x_scr22 (hz : 0 ≤ h.1) (hst : x_stp (22, a, t, u, pc) k als ast b h = some c') : 0 ≤ c'.2.2.2.2.1 ∧ ∀ j, c'.2.2.2.2.2.2 (-2) j = h.2.2 (-2) j := by
  have hs : ((match (generalizing := false) ast with | _ :: st => some (k + 1, als, st, b, h) | _ => none)) = some c' := hst
  repeat' split at hs
  all_goals first | (cases hs; exact ⟨hz, fun j => rfl⟩) | cases hs
theorem x_scr23 (hz : 0 ≤ h.1) (hst : x_stp (23, a, t, u, pc) k als ast b h = some c') : 0 ≤ c'.2.2.2.2.1 ∧ ∀ j, c'.2.2.2.2.2.2 (-2) j = h.2.2 (-2) j := by
  have hs : ((match (generalizing := false) ast with | v :: w :: st => some (k + 1, als, v :: w :: v :: w :: st, b, h) | _ => none)) = some c' := hst
  repeat' split at hs
  all_goals first | (cases hs; exact ⟨hz, fun j => rfl⟩) | cases hs
theorem x_scr24 (hz : 0 ≤ h.1) (hst : x_stp (24, a, t, u, pc) k als ast b h = some c') : 0 ≤ c'.2.2.2.2.1 ∧ ∀ j, c'.2.2.2.2.2.2 (-2) j = h.2.2 (-2) j := by
  have hs : ((match (generalizing := false) ast with | .inr r :: st => if x_ok h.1 r (t / 16) then some (k + 1, als, .inl (h.2.2 r (t % 16 : Nat)) :: st, b, h) else none | _ => none)) = some c' := hst
  repeat' split at hs
  all_goals first | (cases hs; exact ⟨hz, fun j => rfl⟩) | cases hs
theorem x_scr25 (hz : 0 ≤ h.1) (hst : x_stp (25, a, t, u, pc) k als ast b h = some c') : 0 ≤ c'.2.2.2.2.1 ∧ ∀ j, c'.2.2.2.2.2.2 (-2) j = h.2.2 (-2) j := by
  have hs : ((match (generalizing := false) ast with | .inr r :: st => if x_ok h.1 r (t / 16) then some (k + 1, als, .inr (h.2.1 r (t % 16 : Nat)) :: st, b, h) else none | _ => none)) = some c' := hst
  repeat' split at hs
  all_goals first | (cases hs; exact ⟨hz, fun j => rfl⟩) | cases hs
theorem x_scr26 (hz : 0 ≤ h.1) (hst : x_stp (26, a, t, u, pc) k als ast b h = some c') : 0 ≤ c'.2.2.2.2.1 ∧ ∀ j, c'.2.2.2.2.2.2 (-2) j = h.2.2 (-2) j := by
  have hs : ((match (generalizing := false) ast with | .inl v :: .inr r :: st => if x_ok h.1 r (t / 16) then some (k + 1, als, st, b, (h.1, h.2.1, x_up h.2.2 r (t % 16 : Nat) v)) else none | _ => none)) = some c' := hst
  repeat' split at hs
  all_goals first | (cases hs; rename_i hg; exact ⟨hz, fun j => x_up_ne (by simp only [x_ok, Bool.and_eq_true, decide_eq_true_eq] at hg; omega)⟩) | cases hs
theorem x_scr27 (hz : 0 ≤ h.1) (hst : x_stp (27, a, t, u, pc) k als ast b h = some c') : 0 ≤ c'.2.2.2.2.1 ∧ ∀ j, c'.2.2.2.2.2.2 (-2) j = h.2.2 (-2) j := by
  have hs : ((match (generalizing := false) ast with | .inr v :: .inr r :: st => if x_ok h.1 r (t / 16) ∧ -1 ≤ v then some (k + 1, als, st, b, (h.1, x_up h.2.1 r (t % 16 : Nat) v, h.2.2)) else none | _ => none)) = some c' := hst
  repeat' split at hs
  all_goals first | (cases hs; exact ⟨hz, fun j => rfl⟩) | cases hs
theorem x_scr32 (hz : 0 ≤ h.1) (hst : x_stp (32, a, t, u, pc) k als ast b h = some c') : 0 ≤ c'.2.2.2.2.1 ∧ ∀ j, c'.2.2.2.2.2.2 (-2) j = h.2.2 (-2) j := by
  have hs : ((match (generalizing := false) ast with | .inl v :: .inr r :: st => if x_ok h.1 r (t / 16) ∧ (v = 0 ∨ v = 1) then some (k + 1, als, st, b, (h.1, h.2.1, x_up h.2.2 r (t % 16 : Nat) v)) else none | _ => none)) = some c' := hst
  repeat' split at hs
  all_goals first | (cases hs; rename_i hg; exact ⟨hz, fun j => x_up_ne (by simp only [x_ok, Bool.and_eq_true, decide_eq_true_eq] at hg; omega)⟩) | cases hs
theorem x_scr28 (hz : 0 ≤ h.1) (hst : x_stp (28, a, t, u, pc) k als ast b h = some c') : 0 ≤ c'.2.2.2.2.1 ∧ ∀ j, c'.2.2.2.2.2.2 (-2) j = h.2.2 (-2) j := by
  have hs : ((match (generalizing := false) ast with | .inl j :: .inr r :: st => if x_ok h.1 r 8 ∧ 0 ≤ j ∧ j < x_ln r then some (k + 1, als, .inl (h.2.2 r j) :: st, b, h) else none | _ => none)) = some c' := hst
  repeat' split at hs
  all_goals first | (cases hs; exact ⟨hz, fun j => rfl⟩) | cases hs
theorem x_scr29 (hz : 0 ≤ h.1) (hst : x_stp (29, a, t, u, pc) k als ast b h = some c') : 0 ≤ c'.2.2.2.2.1 ∧ ∀ j, c'.2.2.2.2.2.2 (-2) j = h.2.2 (-2) j := by
  have hs : ((match (generalizing := false) ast with | .inl v :: .inl j :: .inr r :: st => if x_ok h.1 r 8 ∧ 0 ≤ j ∧ j < x_ln r then some (k + 1, als, st, b, (h.1, h.2.1, x_up h.2.2 r j v)) else none | _ => none)) = some c' := hst
  repeat' split at hs
  all_goals first | (cases hs; rename_i hg; exact ⟨hz, fun j => x_up_ne (by simp only [x_ok, Bool.and_eq_true, decide_eq_true_eq] at hg; omega)⟩) | cases hs
theorem x_scr30 (hz : 0 ≤ h.1) (hst : x_stp (30, a, t, u, pc) k als ast b h = some c') : 0 ≤ c'.2.2.2.2.1 ∧ ∀ j, c'.2.2.2.2.2.2 (-2) j = h.2.2 (-2) j := by
  have hs : ((match (generalizing := false) ast with | .inl j :: .inr r :: st => if 0 ≤ r ∧ r < h.1 ∧ 10 ≤ x_kd r ∧ x_kd r < 14 ∧ 0 ≤ j ∧ j < x_ln r then some (k + 1, als, .inr (h.2.1 r j) :: st, b, h) else none | _ => none)) = some c' := hst
  repeat' split at hs
  all_goals first | (cases hs; exact ⟨hz, fun j => rfl⟩) | cases hs
theorem x_scr31 (hz : 0 ≤ h.1) (hst : x_stp (31, a, t, u, pc) k als ast b h = some c') : 0 ≤ c'.2.2.2.2.1 ∧ ∀ j, c'.2.2.2.2.2.2 (-2) j = h.2.2 (-2) j := by
  have hs : ((match (generalizing := false) ast with | .inr v :: .inl j :: .inr r :: st => if 0 ≤ r ∧ r < h.1 ∧ 10 ≤ x_kd r ∧ x_kd r < 14 ∧ 0 ≤ j ∧ j < x_ln r ∧ x_ok h.1 v ([0, 2, 4, 5].getD (x_kd r - 10) 99) then some (k + 1, als, st, b, (h.1, x_up h.2.1 r j v, h.2.2)) else none | _ => none)) = some c' := hst
  repeat' split at hs
  all_goals first | (cases hs; exact ⟨hz, fun j => rfl⟩) | cases hs
theorem x_scr33 (hz : 0 ≤ h.1) (hst : x_stp (33, a, t, u, pc) k als ast b h = some c') : 0 ≤ c'.2.2.2.2.1 ∧ ∀ j, c'.2.2.2.2.2.2 (-2) j = h.2.2 (-2) j := by
  have hs : ((match (generalizing := false) ast with | .inl j :: .inr r :: st => if x_ok h.1 r 9 ∧ 0 ≤ j ∧ j < x_ln r then some (k + 1, als, .inl (h.2.2 r j) :: st, b, h) else none | _ => none)) = some c' := hst
  repeat' split at hs
  all_goals first | (cases hs; exact ⟨hz, fun j => rfl⟩) | cases hs
theorem x_scr34 (hz : 0 ≤ h.1) (hst : x_stp (34, a, t, u, pc) k als ast b h = some c') : 0 ≤ c'.2.2.2.2.1 ∧ ∀ j, c'.2.2.2.2.2.2 (-2) j = h.2.2 (-2) j := by
  have hs : ((match (generalizing := false) ast with | .inl v :: .inl j :: .inr r :: st => if x_ok h.1 r 9 ∧ 0 ≤ j ∧ j < x_ln r ∧ (v = 0 ∨ v = 1) then some (k + 1, als, st, b, (h.1, h.2.1, x_up h.2.2 r j v)) else none | _ => none)) = some c' := hst
  repeat' split at hs
  all_goals first | (cases hs; rename_i hg; exact ⟨hz, fun j => x_up_ne (by simp only [x_ok, Bool.and_eq_true, decide_eq_true_eq] at hg; omega)⟩) | cases hs
theorem x_scr35 (hz : 0 ≤ h.1) (hst : x_stp (35, a, t, u, pc) k als ast b h = some c') : 0 ≤ c'.2.2.2.2.1 ∧ ∀ j, c'.2.2.2.2.2.2 (-2) j = h.2.2 (-2) j := by
  have hs : ((if x_kd h.1 = t ∧ t < 8 ∧ 1 ≤ b.1 ∧ xnsl t ≤ b.2 then some (k + 1, als, .inr h.1 :: ast, (b.1 - 1, b.2 - xnsl t), (h.1 + 1, x_clr h.2.1 h.1 (-1), x_clr h.2.2 h.1 0)) else none)) = some c' := hst
  repeat' split at hs
  all_goals first | (cases hs; exact ⟨by show 0 ≤ h.1 + 1; omega, fun j => if_neg (by omega)⟩) | cases hs
theorem x_scr36 (hz : 0 ≤ h.1) (hst : x_stp (36, a, t, u, pc) k als ast b h = some c') : 0 ≤ c'.2.2.2.2.1 ∧ ∀ j, c'.2.2.2.2.2.2 (-2) j = h.2.2 (-2) j := by
  have hs : ((match (generalizing := false) ast with | .inl n :: st => if x_kd h.1 = 8 ∧ x_ln h.1 = n ∧ 0 ≤ n ∧ n ≤ 10000 ∧ 1 ≤ b.1 ∧ n.toNat ≤ b.2 then some (k + 1, als, .inr h.1 :: st, (b.1 - 1, b.2 - n.toNat), (h.1 + 1, x_clr h.2.1 h.1 (-1), x_clr h.2.2 h.1 0)) else none | _ => none)) = some c' := hst
  repeat' split at hs
  all_goals first | (cases hs; exact ⟨by show 0 ≤ h.1 + 1; omega, fun j => if_neg (by omega)⟩) | cases hs
theorem x_scr37 (hz : 0 ≤ h.1) (hst : x_stp (37, a, t, u, pc) k als ast b h = some c') : 0 ≤ c'.2.2.2.2.1 ∧ ∀ j, c'.2.2.2.2.2.2 (-2) j = h.2.2 (-2) j := by
  have hs : ((match (generalizing := false) ast with | .inl n :: st => if x_kd h.1 = 9 ∧ x_ln h.1 = n ∧ 0 ≤ n ∧ n ≤ 10000 ∧ 1 ≤ b.1 ∧ n.toNat ≤ b.2 then some (k + 1, als, .inr h.1 :: st, (b.1 - 1, b.2 - n.toNat), (h.1 + 1, x_clr h.2.1 h.1 (-1), x_clr h.2.2 h.1 0)) else none | _ => none)) = some c' := hst
  repeat' split at hs
  all_goals first | (cases hs; exact ⟨by show 0 ≤ h.1 + 1; omega, fun j => if_neg (by omega)⟩) | cases hs
theorem x_scr38 (hz : 0 ≤ h.1) (hst : x_stp (38, a, t, u, pc) k als ast b h = some c') : 0 ≤ c'.2.2.2.2.1 ∧ ∀ j, c'.2.2.2.2.2.2 (-2) j = h.2.2 (-2) j := by
  have hs : ((match (generalizing := false) ast with | .inl n :: st => if x_kd h.1 = t ∧ 10 ≤ t ∧ t < 14 ∧ x_ln h.1 = n ∧ 0 ≤ n ∧ n ≤ 10000 ∧ 1 ≤ b.1 ∧ n.toNat ≤ b.2 then some (k + 1, als, .inr h.1 :: st, (b.1 - 1, b.2 - n.toNat), (h.1 + 1, x_clr h.2.1 h.1 (-1), x_clr h.2.2 h.1 0)) else none | _ => none)) = some c' := hst
  repeat' split at hs
  all_goals first | (cases hs; exact ⟨by show 0 ≤ h.1 + 1; omega, fun j => if_neg (by omega)⟩) | cases hs
theorem x_scr43 (hz : 0 ≤ h.1) (hst : x_stp (43, a, t, u, pc) k als ast b h = some c') : 0 ≤ c'.2.2.2.2.1 ∧ ∀ j, c'.2.2.2.2.2.2 (-2) j = h.2.2 (-2) j := by
  have hs : ((match (generalizing := false) ast with | .inr r :: st => if 0 ≤ r ∧ r < h.1 ∧ st.length ≤ 8 then some (k + 1, als, st, b, h) else none | _ => none)) = some c' := hst
  repeat' split at hs
  all_goals first | (cases hs; exact ⟨hz, fun j => rfl⟩) | cases hs
theorem x_scr44 (hz : 0 ≤ h.1) (hst : x_stp (44, a, t, u, pc) k als ast b h = some c') : 0 ≤ c'.2.2.2.2.1 ∧ ∀ j, c'.2.2.2.2.2.2 (-2) j = h.2.2 (-2) j := by
  have hs : ((match (generalizing := false) ast with | .inl j :: .inl i :: st => if st.length ≤ 8 then some (k + 1, als, .inl (max i j) :: st, b, h) else none | _ => none)) = some c' := hst
  repeat' split at hs
  all_goals first | (cases hs; exact ⟨hz, fun j => rfl⟩) | cases hs
theorem x_scr45 (hz : 0 ≤ h.1) (hst : x_stp (45, a, t, u, pc) k als ast b h = some c') : 0 ≤ c'.2.2.2.2.1 ∧ ∀ j, c'.2.2.2.2.2.2 (-2) j = h.2.2 (-2) j := by
  have hs : ((match (generalizing := false) ast with | .inl j :: .inl i :: st => if st.length ≤ 8 then some (k + 1, als, .inl (min i j) :: st, b, h) else none | _ => none)) = some c' := hst
  repeat' split at hs
  all_goals first | (cases hs; exact ⟨hz, fun j => rfl⟩) | cases hs
theorem x_scr46 (hz : 0 ≤ h.1) (hst : x_stp (46, a, t, u, pc) k als ast b h = some c') : 0 ≤ c'.2.2.2.2.1 ∧ ∀ j, c'.2.2.2.2.2.2 (-2) j = h.2.2 (-2) j := by
  have hs : ((match (generalizing := false) ast with | .inl n :: .inl dp :: .inr a :: .inl sp :: .inr a0 :: st => if x_ok h.1 a 8 ∧ x_ok h.1 a0 8 ∧ 0 ≤ sp ∧ 0 ≤ dp ∧ 0 ≤ n ∧ sp + n ≤ x_ln a0 ∧ dp + n ≤ x_ln a ∧ st.length ≤ 8 then some (k + 1, als, st, b, (h.1, h.2.1, x_cp h.2.2 a0 sp a dp n)) else none | _ => none)) = some c' := hst
  repeat' split at hs
  all_goals first | (cases hs; rename_i hg; simp only [x_ok, Bool.and_eq_true, decide_eq_true_eq] at hg; exact ⟨hz, fun j => if_neg (by omega)⟩) | cases hs
theorem x_scr47 (hz : 0 ≤ h.1) (hst : x_stp (47, a, t, u, pc) k als ast b h = some c') : 0 ≤ c'.2.2.2.2.1 ∧ ∀ j, c'.2.2.2.2.2.2 (-2) j = h.2.2 (-2) j := by
  have hs : ((match (generalizing := false) ast with | .inl i :: st => some (x_swt u i, als, st, b, h) | _ => none)) = some c' := hst
  repeat' split at hs
  all_goals first | (cases hs; exact ⟨hz, fun j => rfl⟩) | cases hs
theorem x_scr54 (hz : 0 ≤ h.1) (hst : x_stp (54, a, t, u, pc) k als ast b h = some c') : 0 ≤ c'.2.2.2.2.1 ∧ ∀ j, c'.2.2.2.2.2.2 (-2) j = h.2.2 (-2) j := by
  have hs : ((match (generalizing := false) ast with | .inl j :: .inr r :: st => if r = -2 ∧ 0 ≤ j ∧ j < h.2.2 (-2) (-1) then some (k + 1, als, .inl (h.2.2 (-2) j) :: st, b, h) else none | _ => none)) = some c' := hst
  repeat' split at hs
  all_goals first | (cases hs; exact ⟨hz, fun j => rfl⟩) | cases hs
theorem x_scr55 (hz : 0 ≤ h.1) (hst : x_stp (55, a, t, u, pc) k als ast b h = some c') : 0 ≤ c'.2.2.2.2.1 ∧ ∀ j, c'.2.2.2.2.2.2 (-2) j = h.2.2 (-2) j := by
  have hs : ((match (generalizing := false) ast with | .inr r :: st => if r = -2 then some (k + 1, als, .inl (h.2.2 (-2) (-1)) :: st, b, h) else none | _ => none)) = some c' := hst
  repeat' split at hs
  all_goals first | (cases hs; exact ⟨hz, fun j => rfl⟩) | cases hs
theorem x_scr {y : Nat} {i : xI} (hz : 0 ≤ h.1) (hst : x_stp i k als ast b h = some c') : 0 ≤ c'.2.2.2.2.1 ∧ ∀ j, c'.2.2.2.2.2.2 (-2) j = h.2.2 (-2) j := by
  obtain ⟨op, a, t, u, pc⟩ := i
  by_cases o0 : op = 0
  · subst o0; exact x_scr0 hz hst
  by_cases o1 : op = 1
  · subst o1; exact x_scr1 hz hst
  by_cases o2 : op = 2
  · subst o2; exact x_scr2 hz hst
  by_cases o3 : op = 3
  · subst o3; exact x_scr3 hz hst
  by_cases o4 : op = 4
  · subst o4; exact x_scr4 hz hst
  by_cases o5 : op = 5
  · subst o5; exact x_scr5 hz hst
  by_cases o6 : op = 6
  · subst o6; exact x_scr6 hz hst
  by_cases o7 : op = 7
  · subst o7; exact x_scr7 hz hst
  by_cases o8 : op = 8
  · subst o8; exact x_scr8 hz hst
  by_cases o9 : op = 9
  · subst o9; exact x_scr9 hz hst
  by_cases o10 : op = 10
  · subst o10; exact x_scr10 hz hst
  by_cases o11 : op = 11
  · subst o11; exact x_scr11 hz hst
  by_cases o12 : op = 12
  · subst o12; exact x_scr12 hz hst
  by_cases o13 : op = 13
  · subst o13; exact x_scr13 hz hst
  by_cases o14 : op = 14
  · subst o14; exact x_scr14 hz hst
  by_cases o15 : op = 15
  · subst o15; exact x_scr15 hz hst
  by_cases o16 : op = 16
  · subst o16; exact x_scr16 hz hst
  by_cases o17 : op = 17
  · subst o17; exact x_scr17 hz hst
  by_cases o18 : op = 18
  · subst o18; exact x_scr18 hz hst
  by_cases o19 : op = 19
  · subst o19; exact x_scr19 hz hst
  by_cases o20 : op = 20
  · subst o20; exact x_scr20 hz hst
  by_cases o21 : op = 21
  · subst o21; exact x_scr21 hz hst
  by_cases o22 : op = 22
  · subst o22; exact x_scr22 hz hst
  by_cases o23 : op = 23
  · subst o23; exact x_scr23 hz hst
  by_cases o24 : op = 24
  · subst o24; exact x_scr24 hz hst
  by_cases o25 : op = 25
  · subst o25; exact x_scr25 hz hst
  by_cases o26 : op = 26
  · subst o26; exact x_scr26 hz hst
  by_cases o27 : op = 27
  · subst o27; exact x_scr27 hz hst
  by_cases o32 : op = 32
  · subst o32; exact x_scr32 hz hst
  by_cases o28 : op = 28
  · subst o28; exact x_scr28 hz hst
  by_cases o29 : op = 29
  · subst o29; exact x_scr29 hz hst
  by_cases o30 : op = 30
  · subst o30; exact x_scr30 hz hst
  by_cases o31 : op = 31
  · subst o31; exact x_scr31 hz hst
  by_cases o33 : op = 33
  · subst o33; exact x_scr33 hz hst
  by_cases o34 : op = 34
  · subst o34; exact x_scr34 hz hst
  by_cases o35 : op = 35
  · subst o35; exact x_scr35 hz hst
  by_cases o36 : op = 36
  · subst o36; exact x_scr36 hz hst
  by_cases o37 : op = 37
  · subst o37; exact x_scr37 hz hst
  by_cases o38 : op = 38
  · subst o38; exact x_scr38 hz hst
  by_cases o43 : op = 43
  · subst o43; exact x_scr43 hz hst
  by_cases o44 : op = 44
  · subst o44; exact x_scr44 hz hst
  by_cases o45 : op = 45
  · subst o45; exact x_scr45 hz hst
  by_cases o46 : op = 46
  · subst o46; exact x_scr46 hz hst
  by_cases o47 : op = 47
  · subst o47; exact x_scr47 hz hst
  by_cases o54 : op = 54
  · subst o54; exact x_scr54 hz hst
  by_cases o55 : op = 55
  · subst o55; exact x_scr55 hz hst
  have hst : x_stp (op, a, t, u, pc) k als ast b h = some c' := hst
  simp only [x_stp, if_neg o0, if_neg o1, if_neg o2, if_neg o3, if_neg o4, if_neg o5, if_neg o6, if_neg o7, if_neg o8, if_neg o9, if_neg o10, if_neg o11, if_neg o12, if_neg o13, if_neg o14, if_neg o15, if_neg o16, if_neg o17, if_neg o18, if_neg o19, if_neg o20, if_neg o21, if_neg o22, if_neg o23, if_neg o24, if_neg o25, if_neg o26, if_neg o27, if_neg o32, if_neg o28, if_neg o29, if_neg o30, if_neg o31, if_neg o33, if_neg o34, if_neg o35, if_neg o36, if_neg o37, if_neg o38, if_neg o43, if_neg o44, if_neg o45, if_neg o46, if_neg o47, if_neg o54, if_neg o55] at hst
  cases hst
end
end
section
/-! THE INTERPRETER IS SOUND -/
section
variable {p : Program} {l : Launch} {e : Env} {R : Room} {s : State} {m : MethodId} {args : Array Value} {below : List Frame} {meth : Method} {c : Code} {Q : State → Prop}
variable {D : va_G} {cy : Nat → ClassId} {A : Nat → Prop} {bs y CC SS : Nat} {L : List Nat} {h : xH} {H : Heap} {locs : List Loc} {ls : Array Slot} {als ast : List xV} {b : xB} {cells slots k : Nat}
variable {c' : xC}
theorem x_step (F : x_Fr p R s m args meth c D cy A y) (hk : k < (x_cd y).length) (S : x_St s D cy A bs y CC SS L h H locs ls als ast b cells slots) (hCS : CC ≤ R.cells ∧ SS ≤ R.slots) (hscr : x_rk y = 8 → x_Scr s A bs h) (hst : x_stp (x_in y k) k als ast b h = some c') (kk : x_K p l e R s m args below meth c Q D cy A bs y CC SS L c') : W p l e R s m args below meth c H locs cells slots Q (F0 m (x_pc y k) ls (ast.map (x_conc bs L))) := by
  have C := x_ck F.1 hk
  unfold x_pc at C ⊢
  have hcs : cells ≤ R.cells ∧ slots ≤ R.slots := by
    have := S.2.2.2.2.2
    omega
  revert C hst
  generalize x_in y k = i
  intro hst C
  obtain ⟨op, a, t, u, pc⟩ := i

  by_cases o0 : op = 0
  · subst o0; exact x_s0 F C S hst kk
  by_cases o1 : op = 1
  · subst o1; exact x_s1 F C S hst kk
  by_cases o2 : op = 2
  · subst o2; exact x_s2 F C S hst kk
  by_cases o3 : op = 3
  · subst o3; exact x_s3 F C S hst kk
  by_cases o4 : op = 4
  · subst o4; exact x_s4 F C S hst kk
  by_cases o5 : op = 5
  · subst o5; exact x_s5 F C S hst kk
  by_cases o6 : op = 6
  · subst o6; exact x_s6 F C S hst kk
  by_cases o7 : op = 7
  · subst o7; exact x_s7 F C S hst kk
  by_cases o8 : op = 8
  · subst o8; exact x_s8 F C S hst kk
  by_cases o9 : op = 9
  · subst o9; exact x_s9 F C S hst kk
  by_cases o10 : op = 10
  · subst o10; exact x_s10 F C S hst kk
  by_cases o11 : op = 11
  · subst o11; exact x_s11 F C S hst kk
  by_cases o12 : op = 12
  · subst o12; exact x_s12 F C S hst kk
  by_cases o13 : op = 13
  · subst o13; exact x_s13 F C S hst kk
  by_cases o14 : op = 14
  · subst o14; exact x_s14 F C S hst kk
  by_cases o15 : op = 15
  · subst o15; exact x_s15 F C S hst kk
  by_cases o16 : op = 16
  · subst o16; exact x_s16 F C S hst kk
  by_cases o17 : op = 17
  · subst o17; exact x_s17 F C S hst kk
  by_cases o18 : op = 18
  · subst o18; exact x_s18 F C S hst kk
  by_cases o19 : op = 19
  · subst o19; exact x_s19 F C S hst kk
  by_cases o20 : op = 20
  · subst o20; exact x_s20 F C S hst kk
  by_cases o21 : op = 21
  · subst o21; exact x_s21 F C S hst kk
  by_cases o22 : op = 22
  · subst o22; exact x_s22 F C S hst kk
  by_cases o23 : op = 23
  · subst o23; exact x_s23 F C S hst kk
  by_cases o24 : op = 24
  · subst o24; exact x_s24 F C S hst kk
  by_cases o25 : op = 25
  · subst o25; exact x_s25 F C S hst kk
  by_cases o26 : op = 26
  · subst o26; exact x_s26 F C S hst kk
  by_cases o27 : op = 27
  · subst o27; exact x_s27 F C S hst kk
  by_cases o32 : op = 32
  · subst o32; exact x_s32 F C S hst kk
  by_cases o28 : op = 28
  · subst o28; exact x_s28 F C S hst kk
  by_cases o29 : op = 29
  · subst o29; exact x_s29 F C S hst kk
  by_cases o30 : op = 30
  · subst o30; exact x_s30 F C S hst kk
  by_cases o31 : op = 31
  · subst o31; exact x_s31 F C S hst kk
  by_cases o33 : op = 33
  · subst o33; exact x_s33 F C S hst kk
  by_cases o34 : op = 34
  · subst o34; exact x_s34 F C S hst kk
  by_cases o35 : op = 35
  · subst o35; exact x_s35 F C S hCS hst kk
  by_cases o36 : op = 36
  · subst o36; exact x_s36 F C S hCS hst kk
  by_cases o37 : op = 37
  · subst o37; exact x_s37 F C S hCS hst kk
  by_cases o38 : op = 38
  · subst o38; exact x_s38 F C S hCS hst kk
  by_cases o43 : op = 43
  · subst o43; exact x_s43 F C S hst kk
  by_cases o44 : op = 44
  · subst o44; exact x_s44 F C S hcs hst kk
  by_cases o45 : op = 45
  · subst o45; exact x_s45 F C S hcs hst kk
  by_cases o46 : op = 46
  · subst o46; exact x_s46 F C S hst kk
  by_cases o47 : op = 47
  · subst o47; exact x_s47 F C S hst kk
  by_cases o54 : op = 54
  · subst o54; exact x_s54 F C S hscr hst kk
  by_cases o55 : op = 55
  · subst o55; exact x_s55 F C S hscr hst kk
  have hst : x_stp (op, a, t, u, pc) k als ast b h = some c' := hst
  simp only [x_stp, if_neg o0, if_neg o1, if_neg o2, if_neg o3, if_neg o4, if_neg o5, if_neg o6, if_neg o7, if_neg o8, if_neg o9, if_neg o10, if_neg o11, if_neg o12, if_neg o13, if_neg o14, if_neg o15, if_neg o16, if_neg o17, if_neg o18, if_neg o19, if_neg o20, if_neg o21, if_neg o22, if_neg o23, if_neg o24, if_neg o25, if_neg o26, if_neg o27, if_neg o32, if_neg o28, if_neg o29, if_neg o30, if_neg o31, if_neg o33, if_neg o34, if_neg o35, if_neg o36, if_neg o37, if_neg o38, if_neg o43, if_neg o44, if_neg o45, if_neg o46, if_neg o47, if_neg o54, if_neg o55] at hst
  cases hst
/-- a method's words, its room, its start and its end -/
noncomputable def x_wst (t : Nat) : List Cond := .code (x_nm t) (x_by t) (x_ml t) (x_rty (x_rt t)) :: lw_tbl.filter goodWord
noncomputable def x_rm (t : Nat) : Room := { frames := x_dp t, cells := x_mc t, slots := x_ms t, locals := x_lc t }
def x_Pb (D : va_G) (cy : Nat → ClassId) (A : Nat → Prop) (L : List Nat) (h : xH) (U : State) : Prop := (∀ q : Nat, U.heap.size ≤ q → A q) ∧ x_Vw D cy A L h U.heap ∧ va_K D vwCl (x_tys cy) U ∧ ∀ C ∈ x_aos, va_AO C U
def x_Qc (D : va_G) (cy : Nat → ClassId) (A : Nat → Prop) (bs : Nat) (L : List Nat) (v : Option xV) (h : xH) : Array Value → State → Outcome → State → Prop := fun _ st o t => (∃ L' : List Nat, x_ext L L' ∧ o = .returned (v.map (x_conc bs L')) ∧ x_Vw D cy A L' h t.heap ∧ ∀ w ∈ v, x_okv h.1 w) ∧ va_F A st t
/-- what stands at a return -/
def x_Re (y k : Nat) (st : List xV) (v : Option xV) (h : xH) : Prop := k < (x_cd y).length ∧ 50 ≤ (x_in y k).1 ∧ (x_in y k).1 ≤ 53 ∧ x_ret (x_in y k).1 st = some v ∧ ∀ w ∈ st, x_okv h.1 w
theorem x_in_lt {y k : Nat} (h : (x_in y k).1 ≠ 63) : k < (x_cd y).length := by
  apply Classical.byContradiction
  intro q
  apply h
  unfold x_in
  rw [List.getD_eq_getElem?_getD, List.getElem?_eq_none (by omega)]
  rfl
theorem x_stp63 {i : xI} (hi : i.1 = 63) : x_stp i k als ast b h = none := by
  obtain ⟨op, a, t, u, pc⟩ := i
  subst hi
  rfl
theorem x_ckm_of {t : Nat} (ht : t < 181) : (x_nm t).cls = (x_q (x_rk t)).1 ∧ x_rk t < 8 ∧ x_rt t < 6 ∧ plainName (x_nm t).cls = true ∧ ((x_nm t).cls ≠ "java/lang/invoke/MethodHandle" ∧ (x_nm t).cls ≠ "java/lang/invoke/VarHandle") ∧ .code (x_nm t) (x_by t) (x_ml t) (x_rty (x_rt t)) ∈ lw_tbl ∧ .initialized (x_nm t).cls ∈ lw_tbl ∧ (if x_st t = 1 then .static (x_nm t) ∈ lw_tbl ∧ (parseMethodDescriptor (x_nm t).desc).map (fun d => d.parameters.length) = some (x_np t) else 1 ≤ x_np t ∧ .instanceMethod (x_nm t) ∈ lw_tbl ∧ (parseMethodDescriptor (x_nm t).desc).map (fun d => d.parameters.length) = some (x_np t - 1) ∧ (if x_st t = 2 then (x_nm t).name = "<init>" ∧ x_rt t = 0 else x_st t = 0 ∧ .selects (x_nm t).cls (x_nm t) (x_nm t) ∈ lw_tbl)) := by
  have C := x_ckm_ok ht
  unfold x_nm x_rk x_rt x_by x_ml x_st x_np x_bw
  revert C
  generalize x_mi t = me
  intro C
  obtain ⟨nm, ml, rt, ⟨dp, lc, mc, ms⟩, ⟨np, st, rk⟩, ⟨pc, ps, psel, pin⟩, cd⟩ := me
  unfold x_ckm at C
  simp only [Bool.and_eq_true, decide_eq_true_eq] at C
  obtain ⟨⟨⟨⟨⟨⟨⟨⟨C1, C2⟩, C3⟩, C4⟩, C5⟩, C6⟩, C7⟩, C8⟩, C9⟩ := C
  refine ⟨C3, C4, C5, C7, C8, ?_, x_wd_ok C2, ?_⟩
  · show Cond.code nm (if rk = 8 then code else match (x_dr pc).head? with | some (.code _ b _ _) => b | _ => ⟨#[]⟩) ml (x_rty rt) ∈ lw_tbl
    rw [if_neg (by omega)]
    cases hd : (x_dr pc).head? with
    | none => rw [hd] at C1; cases C1
    | some w =>
      rw [hd] at C1
      cases w <;> first | cases C1 | skip
      simp only [Bool.and_eq_true, decide_eq_true_eq] at C1
      obtain ⟨⟨rfl, rfl⟩, rfl⟩ := C1
      rw [x_wdr, List.head?_drop] at hd
      exact List.mem_of_getElem? hd
  · show if st = 1 then Cond.static nm ∈ lw_tbl ∧ (parseMethodDescriptor nm.desc).map (fun d => d.parameters.length) = some np else 1 ≤ np ∧ Cond.instanceMethod nm ∈ lw_tbl ∧ (parseMethodDescriptor nm.desc).map (fun d => d.parameters.length) = some (np - 1) ∧ (if st = 2 then nm.name = "<init>" ∧ rt = 0 else st = 0 ∧ Cond.selects nm.cls nm nm ∈ lw_tbl)
    by_cases q : st = 1
    · rw [if_pos q] at C9 ⊢
      simp only [Bool.and_eq_true, decide_eq_true_eq] at C9
      exact ⟨x_wd_ok C9.1, C9.2⟩
    · rw [if_neg q] at C9 ⊢
      by_cases q2 : st = 2
      · rw [if_pos q2] at C9 ⊢
        simp only [Bool.and_eq_true, decide_eq_true_eq] at C9
        exact ⟨C9.1.1.1, x_wd_ok C9.1.1.2, C9.1.2, C9.2⟩
      · rw [if_neg q2] at C9 ⊢
        simp only [Bool.and_eq_true, decide_eq_true_eq] at C9
        exact ⟨C9.1.1.1, x_wd_ok C9.1.1.2, C9.1.2, C9.2.1, x_wd_ok C9.2.2⟩
theorem x_good_wst {t : Nat} (ht : t < 181) : ∀ w ∈ x_wst t, w ∈ lw_tbl.filter goodWord := by
  intro w hw
  rcases List.mem_cons.mp hw with rfl | hw
  · exact List.mem_filter.mpr ⟨(x_ckm_of ht).2.2.2.2.2.1, rfl⟩
  · exact hw
theorem x_GoodIn {ws : List Cond} (h : ∀ w ∈ ws, w ∈ lw_tbl.filter goodWord) : GoodIn (lw_tbl.filter goodWord) ws := fun w hw => ⟨h w hw, good_of_word (List.mem_filter.mp (h w hw)).2⟩
theorem x_in_gw {w : Cond} (h1 : w ∈ lw_tbl) (h2 : goodWord w = true) : w ∈ lw_tbl.filter goodWord := List.mem_filter.mpr ⟨h1, h2⟩
/-- behind a call -/
theorem x_back {pc : Nat} {st0 rest : List Value} {as : Array Value} {mc ms : Nat} {v : Option xV} {h' : xH} (hr : va_Run p l e R s m args below meth c H locs cells slots mc ms (F0 m pc ls st0) rest (x_Qc D cy A bs L v h' as) A) (hS : va_S A s.heap H locs)
    (kk : ∀ (L' : List Nat) (H1 : Heap) (locs1 : List Loc), x_ext L L' → x_Vw D cy A L' h' H1 → va_S A s.heap H1 locs1 → (∀ w ∈ v, x_okv h'.1 w) → W p l e R s m args below meth c H1 locs1 (cells + mc) (slots + ms) Q (F0 m (pc + 3) ls ((v.map (x_conc bs L')).toList ++ rest))) : W p l e R s m args below meth c H locs cells slots Q (F0 m pc ls st0) := by
  intro T hT X
  obtain ⟨w, st₀, t, T', L1, h0, X', hL, e1, e2, ⟨⟨L', he, ho, hV, hvk⟩, hz, hk⟩, st⟩ := hr T hT X
  cases ho
  rw [h0] at hz hk
  obtain ⟨t2, a1, b1⟩ := kk L' T'.heap (locs ++ L1) he (by rw [e1]; exact hV)
    ⟨Nat.le_trans hS.1 (by rw [e1]; exact hz), fun q h1 h2 => by rw [e1, hk q (Nat.lt_of_lt_of_le h1 hS.1) h2]; exact hS.2.1 q h1 h2, fun q hq => by
      rcases List.mem_append.mp hq with h | h
      · exact hS.2.2 q h
      · exact hL q h⟩ hvk T' rfl X'
  exact ⟨t2, st t2 a1, b1⟩
theorem x_blind {as : List Value} {h : xH} : FrameBlind (va_Pc as (x_Pb D cy A L h)) := fun a U g mk q => ⟨q.1, q.2.1, q.2.2.1, va_K.moved (u := U) (U := U.calling g mk a) (Vm.Alike.refl U.vm) q.2.2.2.1, fun C hC => va_AO.moved (u := U) (U := U.calling g mk a) (Vm.Alike.refl U.vm) (q.2.2.2.2 C hC)⟩
theorem x_sl (vs : List Value) (h : ∀ v ∈ vs, v.category = 1) : lg_sl vs = vs.map Slot.val ∧ lv_args 0 vs = vs.zipIdx.map (fun q => (q.2, q.1)) := by
  have key : ∀ (vs : List Value) (i : Nat), (∀ v ∈ vs, v.category = 1) → lg_sl vs = vs.map Slot.val ∧ lv_args i vs = (vs.zipIdx i).map (fun q => (q.2, q.1)) := by
    intro vs
    induction vs with
    | nil => intro i _; exact ⟨rfl, rfl⟩
    | cons v vs ih =>
      intro i h
      have hv := h v List.mem_cons_self
      obtain ⟨h1, h2⟩ := ih (i + 1) (fun w hw => h w (List.mem_cons_of_mem _ hw))
      refine ⟨?_, ?_⟩
      · have e : lg_sl (v :: vs) = (if v.category = 2 then [Slot.val v, .second] else [Slot.val v]) ++ lg_sl vs := by simp only [lg_sl, List.flatMap_cons]
        rw [e, if_neg (by omega), h1]
        rfl
      · unfold lv_args
        rw [if_neg (by omega), h2]
        rfl
  exact key vs 0 h
end
end
section
/-! THE FLOATS OF THE CLASS -/
section
theorem fp_dec {n E F : Nat} (hn : n = E * 8388608 + F) (hE : 1 ≤ E ∧ E ≤ 254) (hF : F < 8388608) : FP.Core.decode FP.Core.b32 n = .fin false (8388608 + F) ((E : Int) - 150) := by
  have t : FP.Core.b32.tails = 8388608 := by decide
  have x : FP.Core.b32.exps = 256 := by decide
  have q : FP.Core.b32.qmin = -149 := by decide
  have e1 : n / 8388608 = E := by omega
  unfold FP.Core.decode FP.Core.fieldE FP.Core.fieldT FP.Core.fieldS
  rw [t, x, q, e1, if_neg (by omega), if_neg (by omega)]
  have e2 : (E / 256 % 2 == 1) = false := by rw [show E / 256 = 0 by omega]; rfl
  rw [e2, show n % 8388608 = F by omega, show E % 256 = E by omega]
  congr 1
  omega
theorem fp_enc {c : Nat} {q : Int} (hc : 8388608 ≤ c ∧ c < 16777216) (hq : -149 ≤ q) : FP.Core.encode FP.Core.b32 (.fin false c q) = ((q + 149).toNat + 1) * 8388608 + (c - 8388608) := by
  have t : FP.Core.b32.tails = 8388608 := by decide
  have x : FP.Core.b32.exps = 256 := by decide
  have qm : FP.Core.b32.qmin = -149 := by decide
  unfold FP.Core.encode FP.Core.assemble
  dsimp only
  rw [t, x, qm, if_neg (by omega), show q - -149 = q + 149 by omega]
  simp
/-- rounding: a magnitude of k + 1 digits, k from 23 on -/
theorem fp_rnd {c k : Nat} {q : Int} (hk : 2 ^ k ≤ c ∧ c < 2 ^ (k + 1)) (h23 : 23 ≤ k) (hq : -149 ≤ (k : Int) + q - 23 ∧ (k : Int) + q - 23 ≤ 104) (hr : FP.Core.nearest c (2 ^ (k - 23)) < 16777216) : FP.Core.round FP.Core.b32 (.fin false c q) = .fin false (FP.Core.nearest c (2 ^ (k - 23))) ((k : Int) + q - 23) := by
  have p24 : FP.Core.b32.p = 24 := rfl
  have qm : FP.Core.b32.qmin = -149 := by decide
  have qx : FP.Core.b32.qmax = 104 := by decide
  have c0 : ¬ c = 0 := by
    have := Nat.two_pow_pos k
    omega
  have lg : c.log2 = k := (Nat.log2_eq_iff c0).mpr hk
  unfold FP.Core.round FP.Core.roundRatio
  dsimp only
  rw [if_neg c0]
  have ld : FP.Core.leading c 1 = k := by
    unfold FP.Core.leading
    rw [lg, show Nat.log2 1 = 0 by decide]
    dsimp only
    rw [show ((k : Int) - ((0 : Nat) : Int)) = k by omega, show (-(k : Int)).toNat = 0 by omega, show (k : Int).toNat = k by omega, if_pos (by omega)]
  have qt : FP.Core.quantum FP.Core.b32 c 1 q = (k : Int) + q - 23 := by
    unfold FP.Core.quantum
    rw [ld, qm, p24]
    omega
  rw [qt]
  unfold FP.Core.roundAt FP.Core.unitsNum FP.Core.unitsDen
  rw [show (q - ((k : Int) + q - 23)).toNat = 0 by omega, show ((k : Int) + q - 23 - q).toNat = k - 23 by omega, Nat.pow_zero, Nat.mul_one, Nat.one_mul]
  unfold FP.Core.settle FP.Core.bound
  rw [p24, qx, if_pos (by omega), if_pos (by omega)]
theorem fp_nr {c : Nat} : FP.Core.nearest (c * 8388608) 8388608 = c := by
  unfold FP.Core.nearest
  rw [if_pos (by omega)]
  omega
theorem fp_u {n : Nat} (h : n < 4294967296) : (UInt32.ofNat n).toNat = n := by
  rw [UInt32.toNat_ofNat']
  exact Nat.mod_eq_of_lt h
/-- an int of 24 digits -/
theorem fp_i2f {m : Nat} (hm : 8388608 ≤ m ∧ m < 16777216) : FP.Core.i2f (Int32.ofNat m) = UInt32.ofNat (150 * 8388608 + (m - 8388608)) := by
  unfold FP.Core.i2f FP.Core.fromInt FP.Core.ofInt
  have e : (Int32.ofNat m).toInt = m := Int32.toInt_ofNat_of_lt (by omega)
  rw [e, show decide ((m : Int) < 0) = false from decide_eq_false (by omega), show (m : Int).natAbs = m by omega]
  have n1 : FP.Core.nearest m (2 ^ (23 - 23)) = m := by
    unfold FP.Core.nearest
    rw [if_pos (by omega)]
    omega
  rw [fp_rnd (k := 23) ⟨by omega, by omega⟩ (by omega) (by omega) (by rw [n1]; omega), n1, fp_enc hm (by omega)]
  rfl
/-- halved -/
theorem fp_half {E F : Nat} (hE : 2 ≤ E ∧ E ≤ 254) (hF : F < 8388608) : FP.Core.fmul (UInt32.ofNat (E * 8388608 + F)) 1056964608 = UInt32.ofNat ((E - 1) * 8388608 + F) := by
  unfold FP.Core.fmul FP.Core.mul
  rw [fp_u (by omega), fp_dec rfl ⟨by omega, by omega⟩ hF, fp_dec (n := (1056964608 : UInt32).toNat) (E := 126) (F := 0) rfl (by omega) (by omega)]
  unfold FP.Core.exactProduct
  dsimp only
  have e : (8388608 + F) * (8388608 + 0) = (8388608 + F) * 8388608 := by omega
  rw [e, show (false != false) = false from rfl, fp_rnd (k := 46) ⟨by omega, by omega⟩ (by omega) (by omega) (by show FP.Core.nearest _ 8388608 < _; rw [fp_nr]; omega)]
  rw [show FP.Core.nearest ((8388608 + F) * 8388608) (2 ^ (46 - 23)) = 8388608 + F from fp_nr, fp_enc ⟨by omega, by omega⟩ (by omega)]
  rw [show (((46 : Nat) : Int) + ((E : Int) - 150 + (((126 : Nat) : Int) - 150)) - 23 + 149).toNat + 1 = E - 1 by omega, show 8388608 + F - 8388608 = F by omega]
theorem fp_sc {a b : Nat} : FP.Core.nearest (a * 16384) (b * 16384) = FP.Core.nearest a b := by
  unfold FP.Core.nearest
  rw [Nat.mul_mod_mul_right, Nat.mul_div_mul_right _ _ (by omega)]
  generalize a % b = r
  by_cases q1 : 2 * r < b
  · rw [if_pos q1, if_pos (by omega)]
  · rw [if_neg q1, if_neg (by omega)]
    by_cases q2 : b < 2 * r
    · rw [if_pos q2, if_pos (by omega)]
    · rw [if_neg q2, if_neg (by omega)]
theorem fp_K {F D : Nat} (hF : F < 8388608) (hD : D = 512 ∧ (8388608 + F) * 1000 < 8589934592 ∨ D = 1024 ∧ 8589934592 ≤ (8388608 + F) * 1000) : 8388608 ≤ FP.Core.nearest ((8388608 + F) * 1000) D ∧ FP.Core.nearest ((8388608 + F) * 1000) D < 16777216 := by
  unfold FP.Core.nearest
  rcases hD with ⟨rfl, h⟩ | ⟨rfl, h⟩
  · by_cases q1 : 2 * ((8388608 + F) * 1000 % 512) < 512
    · rw [if_pos q1]; omega
    · rw [if_neg q1]
      by_cases q2 : 512 < 2 * ((8388608 + F) * 1000 % 512)
      · rw [if_pos q2]; omega
      · rw [if_neg q2]; omega
  · by_cases q1 : 2 * ((8388608 + F) * 1000 % 1024) < 1024
    · rw [if_pos q1]; omega
    · rw [if_neg q1]
      by_cases q2 : 1024 < 2 * ((8388608 + F) * 1000 % 1024)
      · rw [if_pos q2]; omega
      · rw [if_neg q2]; omega
theorem fp_cut {K n : Nat} (hK : 8388608 ≤ K ∧ K < 16777216) (hn : 1 ≤ n ∧ n ≤ 100) : FP.Core.f2i (UInt32.ofNat ((150 - n) * 8388608 + (K - 8388608))) = Int32.ofInt ((K / 2 ^ n : Nat) : Int) := by
  unfold FP.Core.f2i FP.Core.toI
  rw [fp_u (by omega), fp_dec (E := 150 - n) (F := K - 8388608) rfl (by omega) (by omega)]
  unfold FP.Core.toInt FP.Core.truncate FP.Core.signed
  dsimp only
  rw [show (((150 - n : Nat) : Int) - 150).toNat = 0 by omega, show (-(((150 - n : Nat) : Int) - 150)).toNat = n by omega, show 8388608 + (K - 8388608) = K by omega, Nat.pow_zero, Nat.mul_one]
  have hd : K / 2 ^ n ≤ K := Nat.div_le_self _ _
  congr 1
  generalize K / 2 ^ n = d at hd
  show max (-2 ^ 31) (min (2 ^ 31 - 1) (d : Int)) = d
  omega
theorem fp_k {P D : Nat} (hD : D = 512 ∨ D = 1024) : (if (D : Int) < 2 * ((P : Int) % (D : Int)) ∨ (2 * ((P : Int) % (D : Int)) = (D : Int) ∧ (P : Int) / (D : Int) % 2 = 1) then (P : Int) / (D : Int) + 1 else (P : Int) / (D : Int)) = ((FP.Core.nearest P D : Nat) : Int) := by
  have e1 : (P : Int) % (D : Int) = ((P % D : Nat) : Int) := by omega
  have e2 : (P : Int) / (D : Int) = ((P / D : Nat) : Int) := by omega
  rw [e1, e2]
  unfold FP.Core.nearest
  generalize P % D = r
  generalize P / D = d
  by_cases q1 : 2 * r < D
  · rw [if_pos q1, if_neg (by omega)]
  · rw [if_neg q1]
    by_cases q2 : D < 2 * r
    · rw [if_pos q2, if_pos (by omega)]; omega
    · rw [if_neg q2]
      by_cases q3 : d % 2 = 1
      · rw [if_pos (by omega)]; omega
      · rw [if_neg (by omega)]; omega
theorem fp_th {E F D b : Nat} (hE : 100 ≤ E ∧ E ≤ 127) (hF : F < 8388608) (hD : D = 512 ∧ b = 9 ∧ (8388608 + F) * 1000 < 8589934592 ∨ D = 1024 ∧ b = 10 ∧ 8589934592 ≤ (8388608 + F) * 1000) : x_th2 E F = ((FP.Core.nearest ((8388608 + F) * 1000) D / 2 ^ (150 - b - E) : Nat) : Int) := by
  have hP : (8388608 + (F : Int)) * 1000 = (((8388608 + F) * 1000 : Nat) : Int) := by omega
  unfold x_th2
  rw [hP]
  revert hD
  generalize (8388608 + F) * 1000 = P
  intro hD
  have hc : (if (P : Int) < 8589934592 then (512 : Int) else 1024) = (D : Int) := by
    rcases hD with ⟨rfl, rfl, h⟩ | ⟨rfl, rfl, h⟩
    · rw [if_pos (by omega)]; rfl
    · rw [if_neg (by omega)]; rfl
  rw [hc, fp_k (by omega)]
  generalize FP.Core.nearest P D = K
  have hp : D = 2 ^ b := by
    rcases hD with ⟨rfl, rfl, h⟩ | ⟨rfl, rfl, h⟩ <;> rfl
  have hb : b ≤ 10 := by omega
  have e1 : (150 - (E : Int)).toNat = (150 - b - E) + b := by omega
  rw [e1, hp]
  have e2 : (2 : Int) ^ (150 - b - E + b) = ((2 ^ (150 - b - E + b) : Nat) : Int) := by rw [Int.natCast_pow]; rfl
  rw [e2, ← Int.natCast_mul, ← Int.natCast_ediv, Nat.pow_add, Nat.mul_div_mul_right _ _ (Nat.two_pow_pos b)]
/-- a thousandfold, cut -/
theorem fp_thou {E F : Nat} (hE : 100 ≤ E ∧ E ≤ 127) (hF : F < 8388608) : FP.Core.f2i (FP.Core.fmul (UInt32.ofNat (E * 8388608 + F)) 1148846080) = Int32.ofInt (x_th2 E F) ∧ ∃ G H : Nat, G ≤ 254 ∧ H < 8388608 ∧ FP.Core.fmul (UInt32.ofNat (E * 8388608 + F)) 1148846080 = UInt32.ofNat (G * 8388608 + H) := by
  have mk : ∀ D b : Nat, D = 512 ∧ b = 9 ∧ (8388608 + F) * 1000 < 8589934592 ∨ D = 1024 ∧ b = 10 ∧ 8589934592 ≤ (8388608 + F) * 1000 → FP.Core.f2i (FP.Core.fmul (UInt32.ofNat (E * 8388608 + F)) 1148846080) = Int32.ofInt (x_th2 E F) ∧ ∃ G H : Nat, G ≤ 254 ∧ H < 8388608 ∧ FP.Core.fmul (UInt32.ofNat (E * 8388608 + F)) 1148846080 = UInt32.ofNat (G * 8388608 + H) := by
    intro D b hD
    rw [fp_th hE hF hD]
    have hK := fp_K (D := D) hF (by omega)
    unfold FP.Core.fmul FP.Core.mul
    rw [fp_u (by omega), fp_dec rfl ⟨by omega, by omega⟩ hF, fp_dec (n := (1148846080 : UInt32).toNat) (E := 136) (F := 7995392) rfl (by omega) (by omega)]
    unfold FP.Core.exactProduct
    dsimp only
    have e : (8388608 + F) * (8388608 + 7995392) = (8388608 + F) * 1000 * 16384 := by omega
    have p23 : 2 ^ (37 + b - 23) = D * 16384 := by
      rcases hD with ⟨rfl, rfl, h⟩ | ⟨rfl, rfl, h⟩ <;> rfl
    have hb : b = 9 ∨ b = 10 := by omega
    have e37 : 2 ^ (37 + b) ≤ (8388608 + F) * 1000 * 16384 ∧ (8388608 + F) * 1000 * 16384 < 2 ^ (37 + b + 1) := by
      rcases hD with ⟨rfl, rfl, h⟩ | ⟨rfl, rfl, h⟩
      · show 70368744177664 ≤ _ ∧ _ < 140737488355328; omega
      · show 140737488355328 ≤ _ ∧ _ < 281474976710656; omega
    rw [e, show (false != false) = false from rfl, fp_rnd (k := 37 + b) e37 (by omega) (by omega) (by rw [p23, fp_sc]; omega), p23, fp_sc, fp_enc hK (by omega)]
    rw [show (((37 + b : Nat) : Int) + ((E : Int) - 150 + (((136 : Nat) : Int) - 150)) - 23 + 149).toNat + 1 = 150 - (150 - b - E) by omega]
    exact ⟨fp_cut hK (by omega), _, _, by omega, by omega, rfl⟩
  by_cases h : (8388608 + F) * 1000 < 8589934592
  · exact mk 512 9 (Or.inl ⟨rfl, rfl, h⟩)
  · exact mk 1024 10 (Or.inr ⟨rfl, rfl, by omega⟩)
theorem fp_n32 {G H : Nat} (hG : G ≤ 254) (hH : H < 8388608) : vf_n32 (UInt32.ofNat (G * 8388608 + H)) := by
  unfold vf_n32
  show _ ≤ _
  rw [UInt32.le_iff_toNat_le, UInt32.toNat_and, fp_u (by omega)]
  refine Nat.le_trans Nat.and_le_left ?_
  show _ ≤ 2139095040
  omega
end
end
section
/-! THE TWO METHODS OVER FLOATS AND LONGS -/
theorem pr0 : xmt.drop 0 = xmt0 ++ (xmt1 ++ (xmt2 ++ (xmt3 ++ (xmt4 ++ (xmt5 ++ (xmt6)))))) := rfl
theorem pr1 : xmt.drop 26 = xmt1 ++ (xmt2 ++ (xmt3 ++ (xmt4 ++ (xmt5 ++ (xmt6))))) := by
  have h : xmt.drop 26 = (xmt.drop 0).drop 26 := by rw [List.drop_drop]
  rw [h, pr0]
  exact List.drop_left' rfl
theorem pr2 : xmt.drop 52 = xmt2 ++ (xmt3 ++ (xmt4 ++ (xmt5 ++ (xmt6)))) := by
  have h : xmt.drop 52 = (xmt.drop 26).drop 26 := by rw [List.drop_drop]
  rw [h, pr1]
  exact List.drop_left' rfl
theorem pr3 : xmt.drop 78 = xmt3 ++ (xmt4 ++ (xmt5 ++ (xmt6))) := by
  have h : xmt.drop 78 = (xmt.drop 52).drop 26 := by rw [List.drop_drop]
  rw [h, pr2]
  exact List.drop_left' rfl
theorem pr4 : xmt.drop 104 = xmt4 ++ (xmt5 ++ (xmt6)) := by
  have h : xmt.drop 104 = (xmt.drop 78).drop 26 := by rw [List.drop_drop]
  rw [h, pr3]
  exact List.drop_left' rfl
theorem pr5 : xmt.drop 130 = xmt5 ++ (xmt6) := by
  have h : xmt.drop 130 = (xmt.drop 104).drop 26 := by rw [List.drop_drop]
  rw [h, pr4]
  exact List.drop_left' rfl
theorem pr6 : xmt.drop 156 = xmt6 := by
  have h : xmt.drop 156 = (xmt.drop 130).drop 26 := by rw [List.drop_drop]
  rw [h, pr5]
  exact List.drop_left' rfl
theorem pg {y n j : Nat} {l : List XM} (h : xmt.drop n = l) (hy : y = n + j) : x_mi y = (l.drop j).headD (⟨"", "", ""⟩, 0, 0, (0, 0, 0, 0), (0, 0, 0), (0, 0, 0, 0), []) := by
  subst hy
  subst h
  unfold x_mi
  rw [x_mdr, List.drop_drop]
theorem p_miC : x_mi 111 = (⟨"WheelStands", "thousandthsOf", "(I)I"⟩, 4, 1, (0, 0, 0, 0), (1, 1, 6), (427, 426, 0, 44), xc111) := pg (n := 104) (j := 7) pr4 rfl
theorem p_byC : x_by 111 = prog_1_method_35_code := by
  have h : (x_dr 427).head? = some (.code ⟨"WheelStands", "thousandthsOf", "(I)I"⟩ prog_1_method_35_code 4 (some .int)) := of_decide_eq_true (show x_wd 427 _ = true by decide +kernel)
  unfold x_by
  rw [p_miC]
  unfold x_bw
  dsimp only
  rw [if_neg (by decide), h]
theorem p_miM : x_mi 140 = (⟨"WheelStandsModel", "thousandths", "(I)I"⟩, 13, 1, (0, 0, 0, 0), (1, 1, 7), (901, 900, 0, 51), xc140) := pg (n := 130) (j := 10) pr5 rfl
theorem p_byM : x_by 140 = prog_9_method_29_code := by
  have h : (x_dr 901).head? = some (.code ⟨"WheelStandsModel", "thousandths", "(I)I"⟩ prog_9_method_29_code 13 (some .int)) := of_decide_eq_true (show x_wd 901 _ = true by decide +kernel)
  unfold x_by
  rw [p_miM]
  unfold x_bw
  dsimp only
  rw [if_neg (by decide), h]
theorem p_nn {n : Nat} (h : n < 2147483648) : (Int32.ofNat n).toInt = n := Int32.toInt_ofNat_of_lt h
theorem p_le {a b : Nat} (ha : a < 2147483648) (hb : b < 2147483648) : Int32.ofNat a ≤ Int32.ofNat b ↔ a ≤ b := by
  rw [Int32.le_iff_toInt_le, p_nn ha, p_nn hb]; omega
theorem p_lt {a b : Nat} (ha : a < 2147483648) (hb : b < 2147483648) : Int32.ofNat a < Int32.ofNat b ↔ a < b := by
  rw [Int32.lt_iff_toInt_lt, p_nn ha, p_nn hb]; omega
theorem p_eq {a b : Nat} (ha : a < 2147483648) (hb : b < 2147483648) : Int32.ofNat a = Int32.ofNat b ↔ a = b := by
  rw [← Int32.toInt_inj, p_nn ha, p_nn hb]; omega
theorem p_on {v : Int} (h : 0 ≤ v ∧ v < 2147483648) : Int32.ofInt v = Int32.ofNat v.toNat := by
  rw [← Int32.toInt_inj, p_nn (by omega), Int32.toInt_ofInt_of_le (by omega) (by omega)]
  omega
/-- the lowest digits -/
theorem p_msk (w : Int32) (k : Nat) (hk : k ≤ 30) : w &&& Int32.ofNat (2 ^ k - 1) = Int32.ofNat ((w.toInt % ((2 ^ k : Nat) : Int)).toNat) := by
  apply Int32.toBitVec_inj.mp
  apply BitVec.eq_of_toNat_eq
  have hp : 2 ^ k ≤ 2 ^ 30 := Nat.pow_le_pow_right (by decide) hk
  have hpos : 0 < 2 ^ k := Nat.two_pow_pos k
  have e1 : (Int32.ofNat (2 ^ k - 1)).toBitVec.toNat = 2 ^ k - 1 := by
    show (BitVec.ofNat 32 (2 ^ k - 1)).toNat = _
    rw [BitVec.toNat_ofNat]
    exact Nat.mod_eq_of_lt (by omega)
  rw [Int32.toBitVec_and, BitVec.toNat_and, e1, Nat.and_two_pow_sub_one_eq_mod]
  show _ = (BitVec.ofNat 32 _).toNat
  rw [BitVec.toNat_ofNat]
  have e2 : w.toInt % ((2 ^ k : Nat) : Int) = ((w.toBitVec.toNat % 2 ^ k : Nat) : Int) := by
    show w.toBitVec.toInt % _ = _
    rw [BitVec.toInt_eq_toNat_cond]
    split
    · rfl
    · have hd : ((2 ^ 32 : Nat) : Int) = ((2 ^ k : Nat) : Int) * ((2 ^ (32 - k) : Nat) : Int) := by
        rw [← Int.natCast_mul, ← Nat.pow_add, show k + (32 - k) = 32 by omega]
      rw [hd, Int.sub_mul_emod_self_left]
      rfl
  rw [e2]
  have hm : w.toBitVec.toNat % 2 ^ k < 2 ^ k := Nat.mod_lt _ hpos
  rw [Int.toNat_natCast]
  exact (Nat.mod_eq_of_lt (by omega)).symm
theorem p_sar (w : Int32) : (w >>> (23 : Int32)).toInt = w.toInt / 8388608 := by
  have e : (w >>> (23 : Int32)).toInt = w.toInt >>> 23 := by
    have h : ((23 : Int32).toBitVec.smod 32).toNat = 23 := by decide
    rw [← h]
    exact BitVec.toInt_sshiftRight ..
  rw [e, Int.shiftRight_eq_div_pow]
  rfl
theorem p_or {F : Nat} (h : F < 8388608) : Int32.ofNat F ||| 8388608 = Int32.ofNat (8388608 + F) := by
  have e : F ||| 8388608 = 8388608 + F := by
    have := Nat.two_pow_add_eq_or_of_lt (i := 23) (b := F) (by omega) 1
    rw [Nat.or_comm]
    exact this.symm
  apply Int32.toBitVec_inj.mp
  apply BitVec.eq_of_toNat_eq
  rw [Int32.toBitVec_or, BitVec.toNat_or]
  show (BitVec.ofNat 32 F).toNat ||| (BitVec.ofNat 32 8388608).toNat = (BitVec.ofNat 32 (8388608 + F)).toNat
  rw [BitVec.toNat_ofNat, BitVec.toNat_ofNat, BitVec.toNat_ofNat, Nat.mod_eq_of_lt (show F < 2 ^ 32 by omega), Nat.mod_eq_of_lt (show 8388608 < 2 ^ 32 by omega), Nat.mod_eq_of_lt (show 8388608 + F < 2 ^ 32 by omega), e]
/-! longs -/
theorem p_lT {n : Nat} (h : n < 2 ^ 63) : (Int64.ofNat n).toInt = n := Int64.toInt_ofNat_of_lt h
theorem p_lLT {a b : Nat} (ha : a < 2 ^ 63) (hb : b < 2 ^ 63) : Int64.ofNat a < Int64.ofNat b ↔ a < b := by
  rw [Int64.lt_iff_toInt_lt, p_lT ha, p_lT hb]; omega
theorem p_lEQ {a b : Nat} (ha : a < 2 ^ 63) (hb : b < 2 ^ 63) : Int64.ofNat a = Int64.ofNat b ↔ a = b := by
  rw [← Int64.toInt_inj, p_lT ha, p_lT hb]; omega
theorem p_c63 : ∀ k, k < 64 → ((Int32.ofNat k).toInt64 &&& 63) = Int64.ofNat k := by decide +kernel
theorem p_sm : ∀ k, k < 64 → ((BitVec.ofNat 64 k).smod 64).toNat = k := by decide +kernel
theorem p_shr {a k : Nat} (hk : k < 64) (h : a < 2 ^ 62) : Int64.ofNat a >>> ((Int32.ofNat k).toInt64 &&& 63) = Int64.ofNat (a / 2 ^ k) := by
  have hd : a / 2 ^ k ≤ a := Nat.div_le_self _ _
  rw [p_c63 k hk]
  apply Int64.toInt_inj.mp
  have e : (Int64.ofNat a >>> Int64.ofNat k).toInt = (Int64.ofNat a).toInt >>> k := by
    have q : ((Int64.ofNat k).toBitVec.smod 64).toNat = k := p_sm k hk
    conv => rhs; rw [← q]
    exact BitVec.toInt_sshiftRight ..
  rw [e, Int.shiftRight_eq_div_pow, p_lT (by omega), p_lT (by omega)]
  rfl
theorem p_sm2 : ∀ k, k < 64 → (BitVec.ofNat 64 k).smod 64 = BitVec.ofNat 64 k := by decide +kernel
theorem p_shl (n : Nat) {k : Nat} (hk : k < 64) : Int64.ofNat n <<< ((Int32.ofNat k).toInt64 &&& 63) = Int64.ofNat (n * 2 ^ k) := by
  rw [p_c63 k hk]
  apply Int64.toBitVec_inj.mp
  rw [Int64.toBitVec_shiftLeft]
  show BitVec.ofNat 64 n <<< ((BitVec.ofNat 64 k).smod 64) = BitVec.ofNat 64 (n * 2 ^ k)
  rw [p_sm2 k hk]
  apply BitVec.eq_of_toNat_eq
  rw [BitVec.shiftLeft_eq', BitVec.toNat_shiftLeft, BitVec.toNat_ofNat, BitVec.toNat_ofNat, BitVec.toNat_ofNat, Nat.mod_eq_of_lt (show k < 2 ^ 64 by omega), Nat.shiftLeft_eq, Nat.mul_mod, Nat.mod_mod, ← Nat.mul_mod]
theorem p_lsub {a b : Nat} (h : b ≤ a) (ha : a < 2 ^ 62) : Int64.ofNat a - Int64.ofNat b = Int64.ofNat (a - b) := by
  apply Int64.toInt_inj.mp
  rw [Int64.toInt_sub, p_lT (by omega), p_lT (by omega), p_lT (by omega), Int.bmod_eq_of_le (by omega) (by omega)]
  omega
theorem p_lmul {a b : Nat} (h : a * b < 2 ^ 62) (ha : a < 2 ^ 62) (hb : b < 2 ^ 62) : Int64.ofNat a * Int64.ofNat b = Int64.ofNat (a * b) := by
  apply Int64.toInt_inj.mp
  rw [Int64.toInt_mul, p_lT (by omega), p_lT (by omega), p_lT (by omega), ← Int.natCast_mul, Int.bmod_eq_of_le (by omega) (by omega)]
theorem p_ladd {a b : Nat} (ha : a < 2 ^ 61) (hb : b < 2 ^ 61) : Int64.ofNat a + Int64.ofNat b = Int64.ofNat (a + b) := by
  apply Int64.toInt_inj.mp
  rw [Int64.toInt_add, p_lT (by omega), p_lT (by omega), p_lT (by omega), Int.bmod_eq_of_le (by omega) (by omega)]
  omega
theorem p_i2l {n : Nat} (h : n < 2147483648) : (Int32.ofNat n).toInt64 = Int64.ofNat n := by
  apply Int64.toInt_inj.mp
  rw [Int32.toInt_toInt64, p_nn h, p_lT (by omega)]
theorem p_l2i {n : Nat} (h : n < 2147483648) : (Int64.ofNat n).toInt32 = Int32.ofNat n := by
  apply Int32.toInt_inj.mp
  rw [Int64.toInt_toInt32, p_nn h, p_lT (by omega), Int.bmod_eq_of_le (by omega) (by omega)]
theorem p_land1 {n : Nat} (h : n < 2 ^ 62) : Int64.ofNat n &&& 1 = Int64.ofNat (n % 2) := by
  apply Int64.toBitVec_inj.mp
  apply BitVec.eq_of_toNat_eq
  rw [Int64.toBitVec_and, BitVec.toNat_and]
  show (BitVec.ofNat 64 n).toNat &&& (2 ^ 1 - 1) = (BitVec.ofNat 64 (n % 2)).toNat
  rw [Nat.and_two_pow_sub_one_eq_mod, BitVec.toNat_ofNat, BitVec.toNat_ofNat]
  omega
end
section
/-! THE WALKS OF THE TWO METHODS OVER FLOATS AND LONGS -/
section
variable {p : Program} {l : Launch} {e : Env} {R : Room} {s : State} {m : MethodId} {args : Array Value} {below : List Frame} {meth : Method} {c : Code} {H : Heap} {locs : List Loc} {cells slots : Nat} {Q : State → Prop}
theorem p_ldcwf {cc : ByteArray} {pc : Nat} {ls : Array Slot} {rest : List Value} (hexec : p.tables.exec = Jvm.exec) (hb : c.code = cc) {own : String} {index : Nat} {v : UInt32} (hown : s.vm.findClass own = some m.cls) (hconst : (Jvm.Cond.constantFloat own index v).before args s = true) (hdg : decode cc pc = .ok (.ldc_w index, 3)) (k : W p l e R s m args below meth c H locs cells slots Q (F0 m (pc + 3) ls (.float v :: rest))) : W p l e R s m args below meth c H locs cells slots Q (F0 m pc ls rest) := by
  intro T hT X
  obtain ⟨t, a, b⟩ := k T hT X
  refine ⟨t, ?_, b⟩
  obtain ⟨kk, cf, hk, hcf, hcp⟩ := Cond.constantFloat_spec hown hconst
  obtain ⟨k', hk', he⟩ := X.warmed.alike.2.2 _ _ hk
  jvm_step X.here [hexec, hb, hdg, ldc_w.wp_float (s := T) (f := F0 m pc ls rest) X.here.top hk' (by rw [he]; exact hcf) hcp]
  exact a
theorem p_C_loop {v : Int} {x ee : Int32} {E F : Nat} (hx : p.tables.exec = Jvm.exec) (hb : c.code = prog_1_method_35_code) (hown : s.vm.findClass "WheelStands" = some m.cls) (hk256 : (Jvm.Cond.constant "WheelStands" 256 (-2147483648)).before args s = true) (hk257 : (Jvm.Cond.constant "WheelStands" 257 (1065353216)).before args s = true) (hk258 : (Jvm.Cond.constant "WheelStands" 258 (8388607)).before args s = true) (hk259 : (Jvm.Cond.constant "WheelStands" 259 (8388608)).before args s = true) (hk260 : (Jvm.Cond.constantFloat "WheelStands" 260 1056964608).before args s = true) (hk261 : (Jvm.Cond.constantFloat "WheelStands" 261 1148846080).before args s = true) (hE : 100 ≤ E ∧ E ≤ 127) (hF : F < 8388608) (hv : x_thou v = x_th2 E F) (fin : ∀ (w : Int32) (pc : Nat) (ls : Array Slot), decode prog_1_method_35_code pc = .ok (.ireturn, 1) → w = Int32.ofInt (x_thou v) → W p l e R s m args below meth c H locs cells slots Q (F0 m pc ls [.int w])) : ∀ (d : Nat) (ls : Array Slot), E + d ≤ 150 → lv_has ls 4 [(3, .int (Int32.ofNat (150 - d))), (2, .float (UInt32.ofNat ((E + d) * 8388608 + F))), (1, .int ee), (0, .int x)] → W p l e R s m args below meth c H locs cells slots Q (F0 m 48 ls []) := by
  intro d
  induction d with
  | zero =>
    intro ls hd hl
    refine lv_iload_n hx hb (show decode prog_1_method_35_code 48 = .ok (.iload_n 3, 1) by decide +kernel) rfl (lv_at hl 0 rfl) ?_
    refine lv_sipush hx hb (show decode prog_1_method_35_code 49 = .ok (.sipush 150, 3) by decide +kernel) (by decide : _ = Int32.ofNat 150) ?_
    refine lv_icmp_ge (tgt := 67) hx hb (show decode prog_1_method_35_code 52 = .ok (.if_icmp .ge 15, 3) by decide +kernel) (by decide) (fun _ => ?_) (fun q => absurd ((p_le (by omega) (by omega)).mpr (by omega)) q)
    refine lv_fload_n hx hb (show decode prog_1_method_35_code 67 = .ok (.fload_n 2, 1) by decide +kernel) rfl (lv_at hl 1 rfl) ?_
    refine p_ldcwf hx hb hown hk261 (show decode prog_1_method_35_code 68 = .ok (.ldc_w 261, 3) by decide +kernel) ?_
    obtain ⟨t1, G, H2, hG, hH2, t2⟩ := fp_thou hE hF
    have hn : vf_n32 (FP.fmul (UInt32.ofNat ((E + 0) * 8388608 + F)) 1148846080) := by
      show vf_n32 (FP.Core.fmul (UInt32.ofNat ((E + 0) * 8388608 + F)) 1148846080)
      rw [Nat.add_zero, t2]; exact fp_n32 hG hH2
    refine lv_fmul hx hb (show decode prog_1_method_35_code 71 = .ok (.fmul, 1) by decide +kernel) hn ?_
    refine lv_f2i hx hb (show decode prog_1_method_35_code 72 = .ok (.f2i, 1) by decide +kernel) ?_
    refine fin _ 73 ls (by decide +kernel) ?_
    rw [hv]
    exact t1
  | succ d ih =>
    intro ls hd hl
    refine lv_iload_n hx hb (show decode prog_1_method_35_code 48 = .ok (.iload_n 3, 1) by decide +kernel) rfl (lv_at hl 0 rfl) ?_
    refine lv_sipush hx hb (show decode prog_1_method_35_code 49 = .ok (.sipush 150, 3) by decide +kernel) (by decide : _ = Int32.ofNat 150) ?_
    refine lv_icmp_ge (tgt := 67) hx hb (show decode prog_1_method_35_code 52 = .ok (.if_icmp .ge 15, 3) by decide +kernel) (by decide) (fun q => absurd ((p_le (by omega) (by omega)).mp q) (by omega)) (fun _ => ?_)
    refine lv_fload_n hx hb (show decode prog_1_method_35_code 55 = .ok (.fload_n 2, 1) by decide +kernel) rfl (lv_at hl 1 rfl) ?_
    refine p_ldcwf hx hb hown hk260 (show decode prog_1_method_35_code 56 = .ok (.ldc_w 260, 3) by decide +kernel) ?_
    have t2 : FP.fmul (UInt32.ofNat ((E + (d + 1)) * 8388608 + F)) 1056964608 = UInt32.ofNat ((E + d) * 8388608 + F) := by
      have := fp_half (E := E + (d + 1)) (F := F) ⟨by omega, by omega⟩ hF
      rwa [show E + (d + 1) - 1 = E + d by omega] at this
    have hn : vf_n32 (FP.fmul (UInt32.ofNat ((E + (d + 1)) * 8388608 + F)) 1056964608) := by
      rw [t2]; exact fp_n32 (by omega) hF
    refine lv_fmul hx hb (show decode prog_1_method_35_code 59 = .ok (.fmul, 1) by decide +kernel) hn ?_
    rw [t2]
    refine lv_fstore_n hx hb (show decode prog_1_method_35_code 60 = .ok (.fstore_n 2, 1) by decide +kernel) rfl hl (by decide) (lv' := [(2, .float (UInt32.ofNat ((E + d) * 8388608 + F))), (3, .int (Int32.ofNat (150 - (d + 1)))), (1, .int ee), (0, .int x)]) rfl (fun ls hl => ?_)
    refine lv_iinc (k := 1) (v := Int32.ofNat (150 - d)) hx hb (show decode prog_1_method_35_code 61 = .ok (.iinc 3 1, 3) by decide +kernel) hl rfl ?_ (by decide) (lv' := [(3, .int (Int32.ofNat (150 - d))), (2, .float (UInt32.ofNat ((E + d) * 8388608 + F))), (1, .int ee), (0, .int x)]) rfl (fun ls hl => ?_)
    · rw [← Int32.toInt_inj, Int32.toInt_add, p_nn (by omega), p_nn (by omega), show (Int32.ofInt 1).toInt = 1 by decide, Int.bmod_eq_of_le (by omega) (by omega)]
      omega
    refine lv_goto (tgt := 48) hx hb (show decode prog_1_method_35_code 64 = .ok (.goto (-16), 3) by decide +kernel) (by decide) ?_
    exact ih ls (by omega) hl
theorem p_C {v : Int} (hv : x_in32 v) (hx : p.tables.exec = Jvm.exec) (hb : c.code = prog_1_method_35_code) (hown : s.vm.findClass "WheelStands" = some m.cls) (hk256 : (Jvm.Cond.constant "WheelStands" 256 (-2147483648)).before args s = true) (hk257 : (Jvm.Cond.constant "WheelStands" 257 (1065353216)).before args s = true) (hk258 : (Jvm.Cond.constant "WheelStands" 258 (8388607)).before args s = true) (hk259 : (Jvm.Cond.constant "WheelStands" 259 (8388608)).before args s = true) (hk260 : (Jvm.Cond.constantFloat "WheelStands" 260 1056964608).before args s = true) (hk261 : (Jvm.Cond.constantFloat "WheelStands" 261 1148846080).before args s = true) (fin : ∀ (w : Int32) (pc : Nat) (ls : Array Slot), decode prog_1_method_35_code pc = .ok (.ireturn, 1) → w = Int32.ofInt (x_thou v) → W p l e R s m args below meth c H locs cells slots Q (F0 m pc ls [.int w])) {ls : Array Slot} (hl : lv_has ls 4 [(0, .int (Int32.ofInt v))]) : W p l e R s m args below meth c H locs cells slots Q (F0 m 0 ls []) := by
  unfold x_in32 at hv
  have tv : (Int32.ofInt v).toInt = v := Int32.toInt_ofInt_of_le (by omega) (by omega)
  refine lv_iload_n hx hb (show decode prog_1_method_35_code 0 = .ok (.iload_n 0, 1) by decide +kernel) rfl (lv_at hl 0 rfl) ?_
  refine lv_ldcw hx hb hown hk256 (show decode prog_1_method_35_code 1 = .ok (.ldc_w 256, 3) by decide +kernel) ?_
  refine lv_icmp_ne (tgt := 9) hx hb (show decode prog_1_method_35_code 4 = .ok (.if_icmp .ne 5, 3) by decide +kernel) (by decide) (fun c0 => ?_) (fun c0 => ?_)
  rotate_left
  · have e0 : v = -2147483648 := by rw [← tv, c0]; decide
    refine lv_iconst (v := 0) hx hb (show decode prog_1_method_35_code 7 = .ok (.iconst 0, 1) by decide +kernel) (by decide) ?_
    refine fin _ 8 ls (by decide +kernel) ?_
    rw [e0]; decide
  · have n0 : ¬ v = -2147483648 := fun q => c0 (by rw [q]; decide)
    refine lv_iload_n hx hb (show decode prog_1_method_35_code 9 = .ok (.iload_n 0, 1) by decide +kernel) rfl (lv_at hl 0 rfl) ?_
    refine lv_if_lt (tgt := 20) hx hb (show decode prog_1_method_35_code 10 = .ok (.ifCond .lt 10, 3) by decide +kernel) (by decide) (fun c1 => ?_) (fun c1 => ?_)
    · have h1 : v < 0 := by
        have := Int32.lt_iff_toInt_lt.mp c1
        rw [tv, show (0 : Int32).toInt = 0 by decide] at this
        exact this
      refine lv_iconst (v := -1) hx hb (show decode prog_1_method_35_code 20 = .ok (.iconst (-1), 1) by decide +kernel) (by decide) ?_
      refine fin _ 21 ls (by decide +kernel) ?_
      unfold x_thou
      rw [if_pos h1, if_neg n0]; decide
    · have h1 : 0 ≤ v := by
        have : ¬ (Int32.ofInt v).toInt < (0 : Int32).toInt := fun q => c1 (Int32.lt_iff_toInt_lt.mpr q)
        rw [tv, show (0 : Int32).toInt = 0 by decide] at this
        omega
      refine lv_iload_n hx hb (show decode prog_1_method_35_code 13 = .ok (.iload_n 0, 1) by decide +kernel) rfl (lv_at hl 0 rfl) ?_
      refine lv_ldcw hx hb hown hk257 (show decode prog_1_method_35_code 14 = .ok (.ldc_w 257, 3) by decide +kernel) ?_
      refine lv_icmp_le (tgt := 22) hx hb (show decode prog_1_method_35_code 17 = .ok (.if_icmp .le 5, 3) by decide +kernel) (by decide) (fun c2 => ?_) (fun c2 => ?_)
      rotate_left
      · have h2 : 1065353216 < v := by
          have : ¬ (Int32.ofInt v).toInt ≤ (1065353216 : Int32).toInt := fun q => c2 (Int32.le_iff_toInt_le.mpr q)
          rw [tv, show (1065353216 : Int32).toInt = 1065353216 by decide] at this
          omega
        refine lv_iconst (v := -1) hx hb (show decode prog_1_method_35_code 20 = .ok (.iconst (-1), 1) by decide +kernel) (by decide) ?_
        refine fin _ 21 ls (by decide +kernel) ?_
        unfold x_thou
        rw [if_neg (by omega), if_pos (by omega)]; decide
      · have h2 : v ≤ 1065353216 := by
          have := Int32.le_iff_toInt_le.mp c2
          rw [tv, show (1065353216 : Int32).toInt = 1065353216 by decide] at this
          exact this
        obtain ⟨n, rfl⟩ : ∃ n : Nat, v = n := ⟨v.toNat, by omega⟩
        have ex : Int32.ofInt (n : Int) = Int32.ofNat n := by rw [p_on (by omega)]; rfl
        rw [ex] at hl tv
        refine lv_iload_n hx hb (show decode prog_1_method_35_code 22 = .ok (.iload_n 0, 1) by decide +kernel) rfl (lv_at hl 0 rfl) ?_
        refine lv_bipush hx hb (show decode prog_1_method_35_code 23 = .ok (.bipush 23, 2) by decide +kernel) (by decide : _ = Int32.ofNat 23) ?_
        refine lv_iushr (v := Int32.ofNat (n / 8388608)) hx hb (show decode prog_1_method_35_code 25 = .ok (.iushr, 1) by decide +kernel) (pk_ushrN (n := n) (by omega) (Int32.ofNat 23) 23 (by decide)) ?_
        refine lv_istore_n hx hb (show decode prog_1_method_35_code 26 = .ok (.istore_n 1, 1) by decide +kernel) rfl hl (by decide) (lv' := [(1, .int (Int32.ofNat (n / 8388608))), (0, .int (Int32.ofNat n))]) rfl (fun ls hl => ?_)
        refine lv_iload_n hx hb (show decode prog_1_method_35_code 27 = .ok (.iload_n 1, 1) by decide +kernel) rfl (lv_at hl 0 rfl) ?_
        refine lv_bipush hx hb (show decode prog_1_method_35_code 28 = .ok (.bipush 100, 2) by decide +kernel) (by decide : _ = Int32.ofNat 100) ?_
        refine lv_icmp_ge (tgt := 35) hx hb (show decode prog_1_method_35_code 30 = .ok (.if_icmp .ge 5, 3) by decide +kernel) (by decide) (fun c3 => ?_) (fun c3 => ?_)
        rotate_left
        · have h3 : n / 8388608 < 100 := by
            have : ¬ 100 ≤ n / 8388608 := fun q => c3 ((p_le (by omega) (by omega)).mpr q)
            omega
          refine lv_iconst (v := 0) hx hb (show decode prog_1_method_35_code 33 = .ok (.iconst 0, 1) by decide +kernel) (by decide) ?_
          refine fin _ 34 ls (by decide +kernel) ?_
          unfold x_thou
          rw [if_neg (by omega), if_neg (by omega), if_pos (by omega)]; decide
        · have h3 : 100 ≤ n / 8388608 := (p_le (by omega) (by omega)).mp c3
          refine lv_iload_n hx hb (show decode prog_1_method_35_code 35 = .ok (.iload_n 0, 1) by decide +kernel) rfl (lv_at hl 1 rfl) ?_
          refine lv_ldcw hx hb hown hk258 (show decode prog_1_method_35_code 36 = .ok (.ldc_w 258, 3) by decide +kernel) ?_
          refine lv_iand hx hb (show decode prog_1_method_35_code 39 = .ok (.iand, 1) by decide +kernel) ?_
          have em : Int32.ofNat n &&& 8388607 = Int32.ofNat (n % 8388608) := by
            have := p_msk (Int32.ofNat n) 23 (by omega)
            rw [tv] at this
            exact this
          rw [em]
          refine lv_ldcw hx hb hown hk259 (show decode prog_1_method_35_code 40 = .ok (.ldc_w 259, 3) by decide +kernel) ?_
          refine lv_ior hx hb (show decode prog_1_method_35_code 43 = .ok (.ior, 1) by decide +kernel) ?_
          rw [p_or (Nat.mod_lt _ (by omega))]
          refine lv_i2f hx hb (show decode prog_1_method_35_code 44 = .ok (.i2f, 1) by decide +kernel) ?_
          have ei : FP.i2f (Int32.ofNat (8388608 + n % 8388608)) = UInt32.ofNat ((n / 8388608 + (150 - n / 8388608)) * 8388608 + n % 8388608) := by
            show FP.Core.i2f _ = _
            rw [fp_i2f ⟨by omega, by omega⟩, show 8388608 + n % 8388608 - 8388608 = n % 8388608 by omega, show n / 8388608 + (150 - n / 8388608) = 150 by omega]
          rw [ei]
          refine lv_fstore_n hx hb (show decode prog_1_method_35_code 45 = .ok (.fstore_n 2, 1) by decide +kernel) rfl hl (by decide) (lv' := [(2, .float (UInt32.ofNat ((n / 8388608 + (150 - n / 8388608)) * 8388608 + n % 8388608))), (1, .int (Int32.ofNat (n / 8388608))), (0, .int (Int32.ofNat n))]) rfl (fun ls hl => ?_)
          refine lv_iload_n hx hb (show decode prog_1_method_35_code 46 = .ok (.iload_n 1, 1) by decide +kernel) rfl (lv_at hl 1 rfl) ?_
          refine lv_istore_n hx hb (show decode prog_1_method_35_code 47 = .ok (.istore_n 3, 1) by decide +kernel) rfl hl (by decide) (lv' := [(3, .int (Int32.ofNat (n / 8388608))), (2, .float (UInt32.ofNat ((n / 8388608 + (150 - n / 8388608)) * 8388608 + n % 8388608))), (1, .int (Int32.ofNat (n / 8388608))), (0, .int (Int32.ofNat n))]) rfl (fun ls hl => ?_)
          refine p_C_loop (v := n) (x := Int32.ofNat n) (ee := Int32.ofNat (n / 8388608)) (E := n / 8388608) (F := n % 8388608) hx hb hown hk256 hk257 hk258 hk259 hk260 hk261 ⟨h3, by omega⟩ (Nat.mod_lt _ (by omega)) ?_ fin (150 - n / 8388608) ls (by omega) ?_
          · unfold x_thou
            rw [if_neg (by omega), if_neg (by omega), if_neg (by omega)]
            rfl
          · rw [show 150 - (150 - n / 8388608) = n / 8388608 by omega]
            exact hl
theorem p_M_tail {v : Int} {x z : Int32} {E F : Nat} {K d : Nat} {ws : List (Nat × Value)} (hx : p.tables.exec = Jvm.exec) (hb : c.code = prog_9_method_29_code) (hown : s.vm.findClass "WheelStandsModel" = some m.cls) (hk81 : (Jvm.Cond.constant "WheelStandsModel" 81 (8388607)).before args s = true) (hk82 : (Jvm.Cond.constantLong "WheelStandsModel" 82 8388608).before args s = true) (hk84 : (Jvm.Cond.constantLong "WheelStandsModel" 84 1000).before args s = true) (hk86 : (Jvm.Cond.constantLong "WheelStandsModel" 86 16777216).before args s = true) (hE : 100 ≤ E ∧ E ≤ 127) (hd : d = 9 ∨ d = 10) (hK : K < 16777217) (hv : x_thou v = ((K * 2 ^ d / 2 ^ (150 - E) : Nat) : Int)) (fin : ∀ (w : Int32) (pc : Nat) (ls : Array Slot), decode prog_9_method_29_code pc = .ok (.ireturn, 1) → w = Int32.ofInt (x_thou v) → W p l e R s m args below meth c H locs cells slots Q (F0 m pc ls [.int w])) (ls : Array Slot) (h7 : ls[7]? = some (.val (.long (Int64.ofNat K)))) (h6 : ls[6]? = some (.val (.int (Int32.ofNat d)))) (h1 : ls[1]? = some (.val (.int (Int32.ofNat E)))) : W p l e R s m args below meth c H locs cells slots Q (F0 m 165 ls []) := by
  have hp : K * 2 ^ d < 20000000000 := by
    rcases hd with rfl | rfl
    · show K * 512 < _; omega
    · show K * 1024 < _; omega
  have hq : K * 2 ^ d / 2 ^ (150 - E) ≤ K * 2 ^ d / 2 ^ 23 := Nat.div_le_div_left (Nat.pow_le_pow_right (by decide) (by omega)) (by decide)
  have hr : K * 2 ^ d / 2 ^ 23 < 2400 := by
    show _ / 8388608 < _
    omega
  refine lv_lload hx hb (show decode prog_9_method_29_code 165 = .ok (.lload 7, 2) by decide +kernel) h7 ?_
  refine lv_iload hx hb (show decode prog_9_method_29_code 167 = .ok (.iload 6, 2) by decide +kernel) h6 ?_
  refine lv_lshl (v := Int64.ofNat (K * 2 ^ d)) hx hb (show decode prog_9_method_29_code 169 = .ok (.lshl, 1) by decide +kernel) (p_shl K (by omega)) ?_
  refine lv_sipush hx hb (show decode prog_9_method_29_code 170 = .ok (.sipush 150, 3) by decide +kernel) (by decide : _ = Int32.ofNat 150) ?_
  refine lv_iload_n hx hb (show decode prog_9_method_29_code 173 = .ok (.iload_n 1, 1) by decide +kernel) rfl h1 ?_
  refine lv_isub hx hb (show decode prog_9_method_29_code 174 = .ok (.isub, 1) by decide +kernel) ?_
  have es : Int32.ofNat 150 - Int32.ofNat E = Int32.ofNat (150 - E) := by
    rw [← Int32.toInt_inj, Int32.toInt_sub, p_nn (by omega), p_nn (by omega), p_nn (by omega), Int.bmod_eq_of_le (by omega) (by omega)]
    omega
  rw [es]
  refine lv_lshr (v := Int64.ofNat (K * 2 ^ d / 2 ^ (150 - E))) hx hb (show decode prog_9_method_29_code 175 = .ok (.lshr, 1) by decide +kernel) (p_shr (by omega) (by omega)) ?_
  refine lv_l2i (v := Int32.ofNat (K * 2 ^ d / 2 ^ (150 - E))) hx hb (show decode prog_9_method_29_code 176 = .ok (.l2i, 1) by decide +kernel) (p_l2i (by omega)) ?_
  refine fin _ 177 ls (by decide +kernel) ?_
  rw [hv]
  have hX : K * 2 ^ d / 2 ^ (150 - E) < 2400 := Nat.lt_of_le_of_lt hq hr
  generalize K * 2 ^ d / 2 ^ (150 - E) = X at hX ⊢
  rw [p_on (by omega)]
  rfl
theorem p_cmp0 (a b : Int64) : lg_cmp a b = 0 ↔ a = b := by
  unfold lg_cmp
  by_cases h1 : a > b
  · rw [if_pos h1]
    refine ⟨fun q => absurd q (by decide), fun q => ?_⟩
    subst q
    exact absurd (Int64.lt_iff_toInt_lt.mp h1) (by omega)
  · rw [if_neg h1]
    by_cases h2 : a = b
    · rw [if_pos h2]; exact ⟨fun _ => h2, fun _ => rfl⟩
    · rw [if_neg h2]; exact ⟨fun q => absurd q (by decide), fun q => absurd q h2⟩
theorem p_M_95 {v : Int} {x z : Int32} {E F : Nat} {d : Nat} (hx : p.tables.exec = Jvm.exec) (hb : c.code = prog_9_method_29_code) (hown : s.vm.findClass "WheelStandsModel" = some m.cls) (hk81 : (Jvm.Cond.constant "WheelStandsModel" 81 (8388607)).before args s = true) (hk82 : (Jvm.Cond.constantLong "WheelStandsModel" 82 8388608).before args s = true) (hk84 : (Jvm.Cond.constantLong "WheelStandsModel" 84 1000).before args s = true) (hk86 : (Jvm.Cond.constantLong "WheelStandsModel" 86 16777216).before args s = true) (hE : 100 ≤ E ∧ E ≤ 127) (hF : F < 8388608) (hd : d = 9 ∧ ((8388608 + F) * 1000) < 8589934592 ∨ d = 10 ∧ 8589934592 ≤ ((8388608 + F) * 1000)) (hv : x_thou v = x_th2 E F) (fin : ∀ (w : Int32) (pc : Nat) (ls : Array Slot), decode prog_9_method_29_code pc = .ok (.ireturn, 1) → w = Int32.ofInt (x_thou v) → W p l e R s m args below meth c H locs cells slots Q (F0 m pc ls [.int w])) (ls : Array Slot) (hl : lv_has ls 13 [(6, .int (Int32.ofNat d)), (4, .long (Int64.ofNat ((8388608 + F) * 1000))), (3, .int z), (2, .int (Int32.ofNat F)), (1, .int (Int32.ofNat E)), (0, .int x)]) : W p l e R s m args below meth c H locs cells slots Q (F0 m 95 ls []) := by
  have hd64 : d < 64 := by omega
  obtain ⟨D, hD⟩ : ∃ D, D = 2 ^ d := ⟨_, rfl⟩
  have hDv : D = 512 ∧ d = 9 ∧ (8388608 + F) * 1000 < 8589934592 ∨ D = 1024 ∧ d = 10 ∧ 8589934592 ≤ (8388608 + F) * 1000 := by
    rcases hd with ⟨rfl, h⟩ | ⟨rfl, h⟩
    · exact Or.inl ⟨hD, rfl, h⟩
    · exact Or.inr ⟨hD, rfl, h⟩
  have th := fp_th hE hF hDv
  have kk := fp_K (D := D) hF (by omega)
  have hPr : (8388608 + F) * 1000 < 16777216000 := by omega
  revert hl th kk
  generalize (8388608 + F) * 1000 = P at hPr hDv ⊢
  intro hl th kk
  have tail : ∀ (K : Nat) (ls : Array Slot), K = FP.Core.nearest P D → ls[7]? = some (.val (.long (Int64.ofNat K))) → ls[6]? = some (.val (.int (Int32.ofNat d))) → ls[1]? = some (.val (.int (Int32.ofNat E))) → W p l e R s m args below meth c H locs cells slots Q (F0 m 165 ls []) := fun K ls hK g7 g6 g1 => by
    refine p_M_tail (v := v) (x := x) (z := z) (F := F) (ws := []) hx hb hown hk81 hk82 hk84 hk86 hE (by omega) (by omega) ?_ fin ls g7 g6 g1
    rw [hv, th, ← hK, show 150 - E = (150 - d - E) + d by omega, Nat.pow_add, Nat.mul_div_mul_right _ _ (Nat.two_pow_pos d)]
  have hdiv : P / 2 ^ d = P / D := by rw [hD]
  have hmod : P - P / D * D = P % D := by
    have := Nat.div_add_mod P D
    rw [Nat.mul_comm] at this
    omega
  have hDpos : 0 < D := by omega
  have hml : P % D < D := Nat.mod_lt _ hDpos
  have hle : P / D * D ≤ P := Nat.div_mul_le_self _ _
  have hdl : P / D ≤ P := Nat.div_le_self _ _
  refine lv_lload hx hb (show decode prog_9_method_29_code 95 = .ok (.lload 4, 2) by decide +kernel) (lv_at hl 1 rfl) ?_
  refine lv_iload hx hb (show decode prog_9_method_29_code 97 = .ok (.iload 6, 2) by decide +kernel) (lv_at hl 0 rfl) ?_
  refine lv_lshr (v := Int64.ofNat (P / D)) hx hb (show decode prog_9_method_29_code 99 = .ok (.lshr, 1) by decide +kernel) ((p_shr hd64 (by omega)).trans (by rw [hdiv])) ?_
  refine lv_lstore hx hb (show decode prog_9_method_29_code 100 = .ok (.lstore 7, 2) by decide +kernel) hl (by decide) (lv' := [(7, .long (Int64.ofNat (P / D))), (6, .int (Int32.ofNat d)), (4, .long (Int64.ofNat P)), (3, .int z), (2, .int (Int32.ofNat F)), (1, .int (Int32.ofNat E)), (0, .int x)]) rfl (fun ls hl => ?_)
  refine lv_lload hx hb (show decode prog_9_method_29_code 102 = .ok (.lload 4, 2) by decide +kernel) (lv_at hl 2 rfl) ?_
  refine lv_lload hx hb (show decode prog_9_method_29_code 104 = .ok (.lload 7, 2) by decide +kernel) (lv_at hl 0 rfl) ?_
  refine lv_iload hx hb (show decode prog_9_method_29_code 106 = .ok (.iload 6, 2) by decide +kernel) (lv_at hl 1 rfl) ?_
  refine lv_lshl (v := Int64.ofNat (P / D * D)) hx hb (show decode prog_9_method_29_code 108 = .ok (.lshl, 1) by decide +kernel) ((p_shl _ hd64).trans (by rw [← hD])) ?_
  refine lv_lsub hx hb (show decode prog_9_method_29_code 109 = .ok (.lsub, 1) by decide +kernel) ?_
  rw [p_lsub hle (by omega), hmod]
  refine lv_lstore hx hb (show decode prog_9_method_29_code 110 = .ok (.lstore 9, 2) by decide +kernel) hl (by decide) (lv' := [(9, .long (Int64.ofNat (P % D))), (7, .long (Int64.ofNat (P / D))), (6, .int (Int32.ofNat d)), (4, .long (Int64.ofNat P)), (3, .int z), (2, .int (Int32.ofNat F)), (1, .int (Int32.ofNat E)), (0, .int x)]) rfl (fun ls hl => ?_)
  refine lv_iload hx hb (show decode prog_9_method_29_code 112 = .ok (.iload 6, 2) by decide +kernel) (lv_at hl 2 rfl) ?_
  refine lv_if_le (tgt := 126) hx hb (show decode prog_9_method_29_code 114 = .ok (.ifCond .le 12, 3) by decide +kernel) (by decide) (fun q => absurd ((p_le (b := 0) (by omega) (by omega)).mp q) (by omega)) (fun _ => ?_)
  refine lv_lconst (v := Int64.ofNat 1) hx hb (show decode prog_9_method_29_code 117 = .ok (.lconst 1, 1) by decide +kernel) (by decide) ?_
  refine lv_iload hx hb (show decode prog_9_method_29_code 118 = .ok (.iload 6, 2) by decide +kernel) (lv_at hl 2 rfl) ?_
  refine lv_iconst (v := Int32.ofNat 1) hx hb (show decode prog_9_method_29_code 120 = .ok (.iconst 1, 1) by decide +kernel) (by decide) ?_
  refine lv_isub hx hb (show decode prog_9_method_29_code 121 = .ok (.isub, 1) by decide +kernel) ?_
  have es : Int32.ofNat d - Int32.ofNat 1 = Int32.ofNat (d - 1) := by
    rw [← Int32.toInt_inj, Int32.toInt_sub, p_nn (by omega), p_nn (by omega), p_nn (by omega), Int.bmod_eq_of_le (by omega) (by omega)]
    omega
  rw [es]
  have hh : 1 * 2 ^ (d - 1) = D / 2 := by
    rcases hDv with ⟨rfl, rfl, h⟩ | ⟨rfl, rfl, h⟩ <;> rfl
  refine lv_lshl (v := Int64.ofNat (D / 2)) hx hb (show decode prog_9_method_29_code 122 = .ok (.lshl, 1) by decide +kernel) ((p_shl 1 (by omega)).trans (by rw [hh])) ?_
  refine lv_goto (tgt := 127) hx hb (show decode prog_9_method_29_code 123 = .ok (.goto 4, 3) by decide +kernel) (by decide) ?_
  refine lv_lstore hx hb (show decode prog_9_method_29_code 127 = .ok (.lstore 11, 2) by decide +kernel) hl (by decide) (lv' := [(11, .long (Int64.ofNat (D / 2))), (9, .long (Int64.ofNat (P % D))), (7, .long (Int64.ofNat (P / D))), (6, .int (Int32.ofNat d)), (4, .long (Int64.ofNat P)), (3, .int z), (2, .int (Int32.ofNat F)), (1, .int (Int32.ofNat E)), (0, .int x)]) rfl (fun ls hl => ?_)
  refine lv_iload hx hb (show decode prog_9_method_29_code 129 = .ok (.iload 6, 2) by decide +kernel) (lv_at hl 3 rfl) ?_
  refine lv_if_le (tgt := 165) hx hb (show decode prog_9_method_29_code 131 = .ok (.ifCond .le 34, 3) by decide +kernel) (by decide) (fun q => absurd ((p_le (b := 0) (by omega) (by omega)).mp q) (by omega)) (fun _ => ?_)
  have h2D : D / 2 * 2 = D := by omega
  -- one more
  have up : FP.Core.nearest P D = P / D + 1 → W p l e R s m args below meth c H locs cells slots Q (F0 m 159 ls []) := fun hK => by
    refine lv_lload hx hb (show decode prog_9_method_29_code 159 = .ok (.lload 7, 2) by decide +kernel) (lv_at hl 2 rfl) ?_
    refine lv_lconst (v := Int64.ofNat 1) hx hb (show decode prog_9_method_29_code 161 = .ok (.lconst 1, 1) by decide +kernel) (by decide) ?_
    refine lv_ladd hx hb (show decode prog_9_method_29_code 162 = .ok (.ladd, 1) by decide +kernel) ?_
    rw [p_ladd (by omega) (by omega)]
    refine lv_lstore hx hb (show decode prog_9_method_29_code 163 = .ok (.lstore 7, 2) by decide +kernel) hl (by decide) (lv' := [(7, .long (Int64.ofNat (P / D + 1))), (11, .long (Int64.ofNat (D / 2))), (9, .long (Int64.ofNat (P % D))), (6, .int (Int32.ofNat d)), (4, .long (Int64.ofNat P)), (3, .int z), (2, .int (Int32.ofNat F)), (1, .int (Int32.ofNat E)), (0, .int x)]) rfl (fun ls hl => ?_)
    exact tail _ ls hK.symm (lv_at hl 0 rfl) (lv_at hl 3 rfl) (lv_at hl 7 rfl)
  have same : FP.Core.nearest P D = P / D → W p l e R s m args below meth c H locs cells slots Q (F0 m 165 ls []) := fun hK =>
    tail _ ls hK.symm (lv_at hl 2 rfl) (lv_at hl 3 rfl) (lv_at hl 7 rfl)
  have nr : FP.Core.nearest P D = if 2 * (P % D) < D then P / D else if D < 2 * (P % D) then P / D + 1 else P / D + P / D % 2 := rfl
  refine lv_lload hx hb (show decode prog_9_method_29_code 134 = .ok (.lload 9, 2) by decide +kernel) (lv_at hl 1 rfl) ?_
  refine lv_lload hx hb (show decode prog_9_method_29_code 136 = .ok (.lload 11, 2) by decide +kernel) (lv_at hl 0 rfl) ?_
  refine W.lcmp hx hb (show decode prog_9_method_29_code 138 = .ok (.lcmp, 1) by decide +kernel) ?_
  refine lv_if_gt (tgt := 159) hx hb (show decode prog_9_method_29_code 139 = .ok (.ifCond .gt 20, 3) by decide +kernel) (by decide) (fun q => ?_) (fun q => ?_)
  · have g : D / 2 < P % D := (p_lLT (by omega) (by omega)).mp ((lg_cmp_gt _ _).mp q)
    exact up (by rw [nr, if_neg (by omega), if_pos (by omega)])
  · have g : ¬ D / 2 < P % D := fun w => q ((lg_cmp_gt _ _).mpr ((p_lLT (by omega) (by omega)).mpr w))
    refine lv_lload hx hb (show decode prog_9_method_29_code 142 = .ok (.lload 9, 2) by decide +kernel) (lv_at hl 1 rfl) ?_
    refine lv_lload hx hb (show decode prog_9_method_29_code 144 = .ok (.lload 11, 2) by decide +kernel) (lv_at hl 0 rfl) ?_
    refine W.lcmp hx hb (show decode prog_9_method_29_code 146 = .ok (.lcmp, 1) by decide +kernel) ?_
    refine lv_if_ne (tgt := 165) hx hb (show decode prog_9_method_29_code 147 = .ok (.ifCond .ne 18, 3) by decide +kernel) (by decide) (fun q2 => ?_) (fun q2 => ?_)
    · have g2 : ¬ P % D = D / 2 := fun w => q2 ((p_cmp0 _ _).mpr ((p_lEQ (by omega) (by omega)).mpr w))
      exact same (by rw [nr, if_pos (by omega)])
    · have g2 : P % D = D / 2 := (p_lEQ (by omega) (by omega)).mp ((p_cmp0 _ _).mp q2)
      refine lv_lload hx hb (show decode prog_9_method_29_code 150 = .ok (.lload 7, 2) by decide +kernel) (lv_at hl 2 rfl) ?_
      refine lv_lconst (v := 1) hx hb (show decode prog_9_method_29_code 152 = .ok (.lconst 1, 1) by decide +kernel) (by decide) ?_
      refine lv_land hx hb (show decode prog_9_method_29_code 153 = .ok (.land, 1) by decide +kernel) ?_
      rw [p_land1 (by omega)]
      refine lv_lconst (v := Int64.ofNat 1) hx hb (show decode prog_9_method_29_code 154 = .ok (.lconst 1, 1) by decide +kernel) (by decide) ?_
      refine W.lcmp hx hb (show decode prog_9_method_29_code 155 = .ok (.lcmp, 1) by decide +kernel) ?_
      refine lv_if_ne (tgt := 165) hx hb (show decode prog_9_method_29_code 156 = .ok (.ifCond .ne 9, 3) by decide +kernel) (by decide) (fun q3 => ?_) (fun q3 => ?_)
      · have g3 : ¬ P / D % 2 = 1 := fun w => q3 ((p_cmp0 _ _).mpr ((p_lEQ (by omega) (by omega)).mpr w))
        exact same (by rw [nr, if_neg (by omega), if_neg (by omega)]; omega)
      · have g3 : P / D % 2 = 1 := (p_lEQ (by omega) (by omega)).mp ((p_cmp0 _ _).mp q3)
        exact up (by rw [nr, if_neg (by omega), if_neg (by omega)]; omega)
theorem p_M_77 {v : Int} {x z : Int32} {E F : Nat} (hx : p.tables.exec = Jvm.exec) (hb : c.code = prog_9_method_29_code) (hown : s.vm.findClass "WheelStandsModel" = some m.cls) (hk81 : (Jvm.Cond.constant "WheelStandsModel" 81 (8388607)).before args s = true) (hk82 : (Jvm.Cond.constantLong "WheelStandsModel" 82 8388608).before args s = true) (hk84 : (Jvm.Cond.constantLong "WheelStandsModel" 84 1000).before args s = true) (hk86 : (Jvm.Cond.constantLong "WheelStandsModel" 86 16777216).before args s = true) (hE : 100 ≤ E ∧ E ≤ 127) (hF : F < 8388608) (hv : x_thou v = x_th2 E F) (fin : ∀ (w : Int32) (pc : Nat) (ls : Array Slot), decode prog_9_method_29_code pc = .ok (.ireturn, 1) → w = Int32.ofInt (x_thou v) → W p l e R s m args below meth c H locs cells slots Q (F0 m pc ls [.int w])) : ∀ (k d : Nat) (ls : Array Slot), d + k = 10 → lv_has ls 13 [(6, .int (Int32.ofNat d)), (4, .long (Int64.ofNat ((8388608 + F) * 1000))), (3, .int z), (2, .int (Int32.ofNat F)), (1, .int (Int32.ofNat E)), (0, .int x)] → (d = 10 → 8589934592 ≤ ((8388608 + F) * 1000)) → W p l e R s m args below meth c H locs cells slots Q (F0 m 77 ls []) := by
  intro k
  induction k with
  | zero =>
    intro d ls hd hl h10
    have hd : d = 10 := by omega
    subst hd
    have h10 := h10 rfl
    refine lv_lload hx hb (show decode prog_9_method_29_code 77 = .ok (.lload 4, 2) by decide +kernel) (lv_at hl 1 rfl) ?_
    refine lv_iload hx hb (show decode prog_9_method_29_code 79 = .ok (.iload 6, 2) by decide +kernel) (lv_at hl 0 rfl) ?_
    refine lv_lshr (v := Int64.ofNat (((8388608 + F) * 1000) / 1024)) hx hb (show decode prog_9_method_29_code 81 = .ok (.lshr, 1) by decide +kernel) (p_shr (by omega) (by omega)) ?_
    refine lv_ldc2 hx hb hown hk86 (show decode prog_9_method_29_code 82 = .ok (.ldc2_w 86, 3) by decide +kernel) ?_
    refine W.lcmp hx hb (show decode prog_9_method_29_code 85 = .ok (.lcmp, 1) by decide +kernel) ?_
    refine lv_if_lt (tgt := 95) hx hb (show decode prog_9_method_29_code 86 = .ok (.ifCond .lt 9, 3) by decide +kernel) (by decide) (fun _ => ?_) (fun q => absurd ((lg_cmp_lt _ _).mpr ((p_lLT (b := 16777216) (by omega) (by omega)).mpr (by omega))) q)
    exact p_M_95 hx hb hown hk81 hk82 hk84 hk86 hE hF (Or.inr ⟨rfl, h10⟩) hv fin ls hl
  | succ k ih =>
    intro d ls hd hl h10
    have hp : 2 ^ d ≤ 2 ^ 9 := Nat.pow_le_pow_right (by decide) (by omega)
    have hp : 2 ^ d ≤ 512 := hp
    have hpos : 0 < 2 ^ d := Nat.two_pow_pos d
    have hdl : ((8388608 + F) * 1000) / 2 ^ d ≤ ((8388608 + F) * 1000) := Nat.div_le_self _ _
    refine lv_lload hx hb (show decode prog_9_method_29_code 77 = .ok (.lload 4, 2) by decide +kernel) (lv_at hl 1 rfl) ?_
    refine lv_iload hx hb (show decode prog_9_method_29_code 79 = .ok (.iload 6, 2) by decide +kernel) (lv_at hl 0 rfl) ?_
    refine lv_lshr (v := Int64.ofNat (((8388608 + F) * 1000) / 2 ^ d)) hx hb (show decode prog_9_method_29_code 81 = .ok (.lshr, 1) by decide +kernel) (p_shr (by omega) (by omega)) ?_
    refine lv_ldc2 hx hb hown hk86 (show decode prog_9_method_29_code 82 = .ok (.ldc2_w 86, 3) by decide +kernel) ?_
    refine W.lcmp hx hb (show decode prog_9_method_29_code 85 = .ok (.lcmp, 1) by decide +kernel) ?_
    refine lv_if_lt (tgt := 95) hx hb (show decode prog_9_method_29_code 86 = .ok (.ifCond .lt 9, 3) by decide +kernel) (by decide) (fun q => ?_) (fun q => ?_)
    · have g : ((8388608 + F) * 1000) / 2 ^ d < 16777216 := (p_lLT (b := 16777216) (by omega) (by omega)).mp ((lg_cmp_lt _ _).mp q)
      have hd9 : d = 9 := by
        apply Classical.byContradiction
        intro hne
        have h8 : 2 ^ d ≤ 2 ^ 8 := Nat.pow_le_pow_right (by decide) (by omega)
        have h8 : 2 ^ d ≤ 256 := h8
        have := Nat.div_le_div_left h8 hpos (a := ((8388608 + F) * 1000))
        omega
      subst hd9
      have g : ((8388608 + F) * 1000) / 512 < 16777216 := g
      exact p_M_95 hx hb hown hk81 hk82 hk84 hk86 hE hF (Or.inl ⟨rfl, by omega⟩) hv fin ls hl
    · have g : ¬ ((8388608 + F) * 1000) / 2 ^ d < 16777216 := fun w => q ((lg_cmp_lt _ _).mpr ((p_lLT (b := 16777216) (by omega) (by omega)).mpr w))
      refine lv_iinc (k := 0) (v := Int32.ofNat (d + 1)) hx hb (show decode prog_9_method_29_code 89 = .ok (.iinc 6 1, 3) by decide +kernel) hl rfl ?_ (by decide) (lv' := [(6, .int (Int32.ofNat (d + 1))), (4, .long (Int64.ofNat ((8388608 + F) * 1000))), (3, .int z), (2, .int (Int32.ofNat F)), (1, .int (Int32.ofNat E)), (0, .int x)]) rfl (fun ls hl => ?_)
      · rw [← Int32.toInt_inj, Int32.toInt_add, p_nn (by omega), p_nn (by omega), show (Int32.ofInt 1).toInt = 1 by decide, Int.bmod_eq_of_le (by omega) (by omega)]
        omega
      refine lv_goto (tgt := 77) hx hb (show decode prog_9_method_29_code 92 = .ok (.goto (-15), 3) by decide +kernel) (by decide) ?_
      refine ih (d + 1) ls (by omega) hl (fun h => ?_)
      have hd9 : d = 9 := by omega
      subst hd9
      have g : ¬ ((8388608 + F) * 1000) / 512 < 16777216 := g
      omega
theorem p_M_54 {v : Int} {x z : Int32} {E F : Nat} (hx : p.tables.exec = Jvm.exec) (hb : c.code = prog_9_method_29_code) (hown : s.vm.findClass "WheelStandsModel" = some m.cls) (hk81 : (Jvm.Cond.constant "WheelStandsModel" 81 (8388607)).before args s = true) (hk82 : (Jvm.Cond.constantLong "WheelStandsModel" 82 8388608).before args s = true) (hk84 : (Jvm.Cond.constantLong "WheelStandsModel" 84 1000).before args s = true) (hk86 : (Jvm.Cond.constantLong "WheelStandsModel" 86 16777216).before args s = true) (hv : x_thou v = if E < 100 then 0 else x_th2 E F) (hE : E ≤ 127) (hF : F < 8388608) (fin : ∀ (w : Int32) (pc : Nat) (ls : Array Slot), decode prog_9_method_29_code pc = .ok (.ireturn, 1) → w = Int32.ofInt (x_thou v) → W p l e R s m args below meth c H locs cells slots Q (F0 m pc ls [.int w])) (ls : Array Slot) (hl : lv_has ls 13 [(3, .int z), (2, .int (Int32.ofNat F)), (1, .int (Int32.ofNat E)), (0, .int x)]) : W p l e R s m args below meth c H locs cells slots Q (F0 m 54 ls []) := by
  refine lv_iload_n hx hb (show decode prog_9_method_29_code 54 = .ok (.iload_n 1, 1) by decide +kernel) rfl (lv_at hl 2 rfl) ?_
  refine lv_bipush hx hb (show decode prog_9_method_29_code 55 = .ok (.bipush 100, 2) by decide +kernel) (by decide : _ = Int32.ofNat 100) ?_
  refine lv_icmp_ge (tgt := 62) hx hb (show decode prog_9_method_29_code 57 = .ok (.if_icmp .ge 5, 3) by decide +kernel) (by decide) (fun q => ?_) (fun q => ?_)
  rotate_left
  · have g : ¬ 100 ≤ E := fun w => q ((p_le (by omega) (by omega)).mpr w)
    refine lv_iconst (v := 0) hx hb (show decode prog_9_method_29_code 60 = .ok (.iconst 0, 1) by decide +kernel) (by decide) ?_
    refine fin _ 61 ls (by decide +kernel) ?_
    rw [hv, if_pos (by omega)]; decide
  · have g : 100 ≤ E := (p_le (by omega) (by omega)).mp q
    rw [if_neg (by omega)] at hv
    refine lv_ldc2 hx hb hown hk82 (show decode prog_9_method_29_code 62 = .ok (.ldc2_w 82, 3) by decide +kernel) ?_
    refine lv_iload_n hx hb (show decode prog_9_method_29_code 65 = .ok (.iload_n 2, 1) by decide +kernel) rfl (lv_at hl 1 rfl) ?_
    refine lv_i2l (v := Int64.ofNat F) hx hb (show decode prog_9_method_29_code 66 = .ok (.i2l, 1) by decide +kernel) (p_i2l (by omega)) ?_
    refine lv_ladd hx hb (show decode prog_9_method_29_code 67 = .ok (.ladd, 1) by decide +kernel) ?_
    have e1 : (8388608 : Int64) + Int64.ofNat F = Int64.ofNat (8388608 + F) := p_ladd (a := 8388608) (by omega) (by omega)
    rw [e1]
    refine lv_ldc2 hx hb hown hk84 (show decode prog_9_method_29_code 68 = .ok (.ldc2_w 84, 3) by decide +kernel) ?_
    refine lv_lmul hx hb (show decode prog_9_method_29_code 71 = .ok (.lmul, 1) by decide +kernel) ?_
    have e2 : Int64.ofNat (8388608 + F) * (1000 : Int64) = Int64.ofNat ((8388608 + F) * 1000) := p_lmul (b := 1000) (by omega) (by omega) (by omega)
    rw [e2]
    refine lv_lstore hx hb (show decode prog_9_method_29_code 72 = .ok (.lstore 4, 2) by decide +kernel) hl (by decide) (lv' := [(4, .long (Int64.ofNat ((8388608 + F) * 1000))), (3, .int z), (2, .int (Int32.ofNat F)), (1, .int (Int32.ofNat E)), (0, .int x)]) rfl (fun ls hl => ?_)
    refine lv_iconst (v := Int32.ofNat 0) hx hb (show decode prog_9_method_29_code 74 = .ok (.iconst 0, 1) by decide +kernel) (by decide) ?_
    refine lv_istore hx hb (show decode prog_9_method_29_code 75 = .ok (.istore 6, 2) by decide +kernel) hl (by decide) (lv' := [(6, .int (Int32.ofNat 0)), (4, .long (Int64.ofNat ((8388608 + F) * 1000))), (3, .int z), (2, .int (Int32.ofNat F)), (1, .int (Int32.ofNat E)), (0, .int x)]) rfl (fun ls hl => ?_)
    exact p_M_77 hx hb hown hk81 hk82 hk84 hk86 ⟨g, hE⟩ hF hv fin 10 0 ls (by omega) hl (fun h => by omega)
theorem p_M_28 {v : Int} {E F : Nat} {z : Int32} (hin : x_in32 v) (hx : p.tables.exec = Jvm.exec) (hb : c.code = prog_9_method_29_code) (hown : s.vm.findClass "WheelStandsModel" = some m.cls) (hk81 : (Jvm.Cond.constant "WheelStandsModel" 81 (8388607)).before args s = true) (hk82 : (Jvm.Cond.constantLong "WheelStandsModel" 82 8388608).before args s = true) (hk84 : (Jvm.Cond.constantLong "WheelStandsModel" 84 1000).before args s = true) (hk86 : (Jvm.Cond.constantLong "WheelStandsModel" 86 16777216).before args s = true) (hEv : E = ((v / 8388608) % 256).toNat) (hFv : F = (v % 8388608).toNat) (hz : z = 0 ∧ ¬ (E = 0 ∧ F = 0) ∨ z = 1 ∧ E = 0 ∧ F = 0) (fin : ∀ (w : Int32) (pc : Nat) (ls : Array Slot), decode prog_9_method_29_code pc = .ok (.ireturn, 1) → w = Int32.ofInt (x_thou v) → W p l e R s m args below meth c H locs cells slots Q (F0 m pc ls [.int w])) (ls : Array Slot) (hl : lv_has ls 13 [(3, .int z), (2, .int (Int32.ofNat F)), (1, .int (Int32.ofNat E)), (0, .int (Int32.ofInt v))]) : W p l e R s m args below meth c H locs cells slots Q (F0 m 28 ls []) := by
  unfold x_in32 at hin
  have tv : (Int32.ofInt v).toInt = v := Int32.toInt_ofInt_of_le (by omega) (by omega)
  have none : x_thou v = -1 → ∀ ls, W p l e R s m args below meth c H locs cells slots Q (F0 m 52 ls []) := fun h ls => by
    refine lv_iconst (v := -1) hx hb (show decode prog_9_method_29_code 52 = .ok (.iconst (-1), 1) by decide +kernel) (by decide) ?_
    refine fin _ 53 ls (by decide +kernel) ?_
    rw [h]; decide
  refine lv_iload_n hx hb (show decode prog_9_method_29_code 28 = .ok (.iload_n 0, 1) by decide +kernel) rfl (lv_at hl 3 rfl) ?_
  refine lv_if_ge (tgt := 36) hx hb (show decode prog_9_method_29_code 29 = .ok (.ifCond .ge 7, 3) by decide +kernel) (by decide) (fun c1 => ?_) (fun c1 => ?_)
  rotate_left
  · have h1 : v < 0 := by
      have : ¬ (0 : Int32).toInt ≤ (Int32.ofInt v).toInt := fun q => c1 (Int32.le_iff_toInt_le.mpr q)
      rw [tv, show (0 : Int32).toInt = 0 by decide] at this
      omega
    refine lv_iload_n hx hb (show decode prog_9_method_29_code 32 = .ok (.iload_n 3, 1) by decide +kernel) rfl (lv_at hl 0 rfl) ?_
    refine lv_if_eq (tgt := 52) hx hb (show decode prog_9_method_29_code 33 = .ok (.ifCond .eq 19, 3) by decide +kernel) (by decide) (fun c2 => ?_) (fun c2 => ?_)
    · refine none ?_ ls
      rcases hz with ⟨_, h⟩ | ⟨h, _⟩
      · unfold x_thou
        rw [if_pos h1, if_neg (by omega)]
      · rw [h] at c2; exact absurd c2 (by decide)
    · have hz2 : E = 0 ∧ F = 0 := by
        rcases hz with ⟨h, _⟩ | ⟨_, h⟩
        · exact absurd h c2
        · exact h
      have hv0 : v = -2147483648 := by omega
      refine lv_iload_n hx hb (show decode prog_9_method_29_code 36 = .ok (.iload_n 1, 1) by decide +kernel) rfl (lv_at hl 2 rfl) ?_
      refine lv_bipush hx hb (show decode prog_9_method_29_code 37 = .ok (.bipush 127, 2) by decide +kernel) (by decide : _ = Int32.ofNat 127) ?_
      refine lv_icmp_gt (tgt := 52) hx hb (show decode prog_9_method_29_code 39 = .ok (.if_icmp .gt 13, 3) by decide +kernel) (by decide) (fun q => absurd ((p_lt (by omega) (by omega)).mp q) (by omega)) (fun _ => ?_)
      refine lv_iload_n hx hb (show decode prog_9_method_29_code 42 = .ok (.iload_n 1, 1) by decide +kernel) rfl (lv_at hl 2 rfl) ?_
      refine lv_bipush hx hb (show decode prog_9_method_29_code 43 = .ok (.bipush 127, 2) by decide +kernel) (by decide : _ = Int32.ofNat 127) ?_
      refine lv_icmp_ne (tgt := 54) hx hb (show decode prog_9_method_29_code 45 = .ok (.if_icmp .ne 9, 3) by decide +kernel) (by decide) (fun _ => ?_) (fun q => absurd ((p_eq (by omega) (by omega)).mp q) (by omega))
      refine p_M_54 (v := v) hx hb hown hk81 hk82 hk84 hk86 ?_ (by omega) (by omega) fin ls hl
      rw [if_pos (by omega), hv0]; decide
  · have h1 : 0 ≤ v := by
      have := Int32.le_iff_toInt_le.mp c1
      rw [tv, show (0 : Int32).toInt = 0 by decide] at this
      exact this
    refine lv_iload_n hx hb (show decode prog_9_method_29_code 36 = .ok (.iload_n 1, 1) by decide +kernel) rfl (lv_at hl 2 rfl) ?_
    refine lv_bipush hx hb (show decode prog_9_method_29_code 37 = .ok (.bipush 127, 2) by decide +kernel) (by decide : _ = Int32.ofNat 127) ?_
    refine lv_icmp_gt (tgt := 52) hx hb (show decode prog_9_method_29_code 39 = .ok (.if_icmp .gt 13, 3) by decide +kernel) (by decide) (fun q => ?_) (fun q => ?_)
    · have g : 127 < E := (p_lt (by omega) (by omega)).mp q
      refine none ?_ ls
      unfold x_thou
      rw [if_neg (by omega), if_pos (by omega)]
    · have g : ¬ 127 < E := fun w => q ((p_lt (by omega) (by omega)).mpr w)
      refine lv_iload_n hx hb (show decode prog_9_method_29_code 42 = .ok (.iload_n 1, 1) by decide +kernel) rfl (lv_at hl 2 rfl) ?_
      refine lv_bipush hx hb (show decode prog_9_method_29_code 43 = .ok (.bipush 127, 2) by decide +kernel) (by decide : _ = Int32.ofNat 127) ?_
      refine lv_icmp_ne (tgt := 54) hx hb (show decode prog_9_method_29_code 45 = .ok (.if_icmp .ne 9, 3) by decide +kernel) (by decide) (fun q2 => ?_) (fun q2 => ?_)
      · have g2 : ¬ E = 127 := fun w => q2 (by rw [w])
        refine p_M_54 (v := v) hx hb hown hk81 hk82 hk84 hk86 ?_ (by omega) (by omega) fin ls hl
        unfold x_thou
        rw [if_neg (by omega), if_neg (by omega)]
        by_cases q3 : E < 100
        · rw [if_pos q3, if_pos (by omega)]
        · rw [if_neg q3, if_neg (by omega), show v / 8388608 = (E : Int) by omega, show v % 8388608 = (F : Int) by omega]
      · have g2 : E = 127 := (p_eq (by omega) (by omega)).mp q2
        refine lv_iload_n hx hb (show decode prog_9_method_29_code 48 = .ok (.iload_n 2, 1) by decide +kernel) rfl (lv_at hl 1 rfl) ?_
        refine lv_if_eq (tgt := 54) hx hb (show decode prog_9_method_29_code 49 = .ok (.ifCond .eq 5, 3) by decide +kernel) (by decide) (fun q3 => ?_) (fun q3 => ?_)
        · have g3 : F = 0 := (p_eq (b := 0) (by omega) (by omega)).mp q3
          refine p_M_54 (v := v) hx hb hown hk81 hk82 hk84 hk86 ?_ (by omega) (by omega) fin ls hl
          unfold x_thou
          rw [if_neg (by omega), if_neg (by omega), if_neg (by omega), if_neg (by omega), show v / 8388608 = (E : Int) by omega, show v % 8388608 = (F : Int) by omega]
        · have g3 : ¬ F = 0 := fun w => q3 (by rw [w]; rfl)
          refine none ?_ ls
          unfold x_thou
          rw [if_neg (by omega), if_pos (by omega)]
theorem p_M {v : Int} (hin : x_in32 v) (hx : p.tables.exec = Jvm.exec) (hb : c.code = prog_9_method_29_code) (hown : s.vm.findClass "WheelStandsModel" = some m.cls) (hk81 : (Jvm.Cond.constant "WheelStandsModel" 81 (8388607)).before args s = true) (hk82 : (Jvm.Cond.constantLong "WheelStandsModel" 82 8388608).before args s = true) (hk84 : (Jvm.Cond.constantLong "WheelStandsModel" 84 1000).before args s = true) (hk86 : (Jvm.Cond.constantLong "WheelStandsModel" 86 16777216).before args s = true) (fin : ∀ (w : Int32) (pc : Nat) (ls : Array Slot), decode prog_9_method_29_code pc = .ok (.ireturn, 1) → w = Int32.ofInt (x_thou v) → W p l e R s m args below meth c H locs cells slots Q (F0 m pc ls [.int w])) {ls : Array Slot} (hl : lv_has ls 13 [(0, .int (Int32.ofInt v))]) : W p l e R s m args below meth c H locs cells slots Q (F0 m 0 ls []) := by
  have hin0 := hin
  unfold x_in32 at hin
  have tv : (Int32.ofInt v).toInt = v := Int32.toInt_ofInt_of_le (by omega) (by omega)
  obtain ⟨E, hE⟩ : ∃ E : Nat, E = ((v / 8388608) % 256).toNat := ⟨_, rfl⟩
  obtain ⟨F, hF⟩ : ∃ F : Nat, F = (v % 8388608).toNat := ⟨_, rfl⟩
  have e1 : (Int32.ofInt v >>> (23 : Int32)) &&& 255 = Int32.ofNat E := by
    have := p_msk (Int32.ofInt v >>> (23 : Int32)) 8 (by omega)
    rw [p_sar, tv] at this
    rw [hE]
    exact this
  have e2 : Int32.ofInt v &&& 8388607 = Int32.ofNat F := by
    have := p_msk (Int32.ofInt v) 23 (by omega)
    rw [tv] at this
    rw [hF]
    exact this
  refine lv_iload_n hx hb (show decode prog_9_method_29_code 0 = .ok (.iload_n 0, 1) by decide +kernel) rfl (lv_at hl 0 rfl) ?_
  refine lv_bipush hx hb (show decode prog_9_method_29_code 1 = .ok (.bipush 23, 2) by decide +kernel) (by decide : _ = (23 : Int32)) ?_
  refine lv_ishr hx hb (show decode prog_9_method_29_code 3 = .ok (.ishr, 1) by decide +kernel) ?_
  refine lv_sipush hx hb (show decode prog_9_method_29_code 4 = .ok (.sipush 255, 3) by decide +kernel) (by decide : _ = (255 : Int32)) ?_
  refine lv_iand hx hb (show decode prog_9_method_29_code 7 = .ok (.iand, 1) by decide +kernel) ?_
  rw [show (23 : Int32) &&& 31 = 23 by decide, e1]
  refine lv_istore_n hx hb (show decode prog_9_method_29_code 8 = .ok (.istore_n 1, 1) by decide +kernel) rfl hl (by decide) (lv' := [(1, .int (Int32.ofNat E)), (0, .int (Int32.ofInt v))]) rfl (fun ls hl => ?_)
  refine lv_iload_n hx hb (show decode prog_9_method_29_code 9 = .ok (.iload_n 0, 1) by decide +kernel) rfl (lv_at hl 1 rfl) ?_
  refine lv_ldc hx hb hown hk81 (show decode prog_9_method_29_code 10 = .ok (.ldc 81, 2) by decide +kernel) ?_
  refine lv_iand hx hb (show decode prog_9_method_29_code 12 = .ok (.iand, 1) by decide +kernel) ?_
  rw [e2]
  refine lv_istore_n hx hb (show decode prog_9_method_29_code 13 = .ok (.istore_n 2, 1) by decide +kernel) rfl hl (by decide) (lv' := [(2, .int (Int32.ofNat F)), (1, .int (Int32.ofNat E)), (0, .int (Int32.ofInt v))]) rfl (fun ls hl => ?_)
  refine lv_iload_n hx hb (show decode prog_9_method_29_code 14 = .ok (.iload_n 1, 1) by decide +kernel) rfl (lv_at hl 1 rfl) ?_
  have z0 : ¬ (E = 0 ∧ F = 0) → ∀ ls, lv_has ls 13 [(2, .int (Int32.ofNat F)), (1, .int (Int32.ofNat E)), (0, .int (Int32.ofInt v))] → W p l e R s m args below meth c H locs cells slots Q (F0 m 26 ls []) := fun h ls hl => by
    refine lv_iconst (v := 0) hx hb (show decode prog_9_method_29_code 26 = .ok (.iconst 0, 1) by decide +kernel) (by decide) ?_
    refine lv_istore_n hx hb (show decode prog_9_method_29_code 27 = .ok (.istore_n 3, 1) by decide +kernel) rfl hl (by decide) (lv' := [(3, .int 0), (2, .int (Int32.ofNat F)), (1, .int (Int32.ofNat E)), (0, .int (Int32.ofInt v))]) rfl (fun ls hl => ?_)
    exact p_M_28 hin0 hx hb hown hk81 hk82 hk84 hk86 hE hF (Or.inl ⟨rfl, h⟩) fin ls hl
  refine lv_if_ne (tgt := 26) hx hb (show decode prog_9_method_29_code 15 = .ok (.ifCond .ne 11, 3) by decide +kernel) (by decide) (fun q => z0 (fun w => q (by rw [w.1]; rfl)) ls hl) (fun q => ?_)
  have g1 : E = 0 := (p_eq (b := 0) (by omega) (by omega)).mp q
  refine lv_iload_n hx hb (show decode prog_9_method_29_code 18 = .ok (.iload_n 2, 1) by decide +kernel) rfl (lv_at hl 0 rfl) ?_
  refine lv_if_ne (tgt := 26) hx hb (show decode prog_9_method_29_code 19 = .ok (.ifCond .ne 7, 3) by decide +kernel) (by decide) (fun q => z0 (fun w => q (by rw [w.2]; rfl)) ls hl) (fun q => ?_)
  have g2 : F = 0 := (p_eq (b := 0) (by omega) (by omega)).mp q
  refine lv_iconst (v := 1) hx hb (show decode prog_9_method_29_code 22 = .ok (.iconst 1, 1) by decide +kernel) (by decide) ?_
  refine lv_goto (tgt := 27) hx hb (show decode prog_9_method_29_code 23 = .ok (.goto 4, 3) by decide +kernel) (by decide) ?_
  refine lv_istore_n hx hb (show decode prog_9_method_29_code 27 = .ok (.istore_n 3, 1) by decide +kernel) rfl hl (by decide) (lv' := [(3, .int 1), (2, .int (Int32.ofNat F)), (1, .int (Int32.ofNat E)), (0, .int (Int32.ofInt v))]) rfl (fun ls hl => ?_)
  exact p_M_28 hin0 hx hb hown hk81 hk82 hk84 hk86 hE hF (Or.inr ⟨rfl, g1, g2⟩) fin ls hl
end
end
section
/-! THE TWO METHODS OVER FLOATS AND LONGS: their contracts -/
theorem y_th2_in {e f : Int} (he : 100 ≤ e ∧ e ≤ 127) (hf : 0 ≤ f ∧ f < 8388608) (h7 : e = 127 → f = 0) : 0 ≤ x_th2 e f ∧ x_th2 e f ≤ 1000 := by
  have hk : 8388608 ≤ (2 : Int) ^ (150 - e).toNat := by
    have := Nat.pow_le_pow_right (n := 2) (by decide) (show 23 ≤ (150 - e).toNat by omega)
    have h : (((2 : Nat) ^ 23 : Nat) : Int) ≤ (((2 : Nat) ^ (150 - e).toNat : Nat) : Int) := Int.ofNat_le.mpr this
    rw [Int.natCast_pow, Int.natCast_pow] at h
    exact h
  have hk2 : ¬ e = 127 → 16777216 ≤ (2 : Int) ^ (150 - e).toNat := fun q => by
    have := Nat.pow_le_pow_right (n := 2) (by decide) (show 24 ≤ (150 - e).toNat by omega)
    have h : (((2 : Nat) ^ 24 : Nat) : Int) ≤ (((2 : Nat) ^ (150 - e).toNat : Nat) : Int) := Int.ofNat_le.mpr this
    rw [Int.natCast_pow, Int.natCast_pow] at h
    exact h
  unfold x_th2
  generalize (2 : Int) ^ (150 - e).toNat = W at hk hk2 ⊢
  have key : ∀ D : Int, D = 512 ∨ D = 1024 → 0 ≤ (if D < 2 * ((8388608 + f) * 1000 % D) ∨ (2 * ((8388608 + f) * 1000 % D) = D ∧ (8388608 + f) * 1000 / D % 2 = 1) then (8388608 + f) * 1000 / D + 1 else (8388608 + f) * 1000 / D) * D ∧ (if D < 2 * ((8388608 + f) * 1000 % D) ∨ (2 * ((8388608 + f) * 1000 % D) = D ∧ (8388608 + f) * 1000 / D % 2 = 1) then (8388608 + f) * 1000 / D + 1 else (8388608 + f) * 1000 / D) * D ≤ (8388608 + f) * 1000 + 1024 := by
    intro D hD
    rcases hD with rfl | rfl <;> split <;> omega
  have k2 := key (if (8388608 + f) * 1000 < 8589934592 then 512 else 1024) (by split <;> omega)
  revert k2
  generalize (if (if (8388608 + f) * 1000 < 8589934592 then (512 : Int) else 1024) < 2 * ((8388608 + f) * 1000 % (if (8388608 + f) * 1000 < 8589934592 then (512 : Int) else 1024)) ∨ (2 * ((8388608 + f) * 1000 % (if (8388608 + f) * 1000 < 8589934592 then (512 : Int) else 1024)) = (if (8388608 + f) * 1000 < 8589934592 then (512 : Int) else 1024) ∧ (8388608 + f) * 1000 / (if (8388608 + f) * 1000 < 8589934592 then (512 : Int) else 1024) % 2 = 1) then (8388608 + f) * 1000 / (if (8388608 + f) * 1000 < 8589934592 then (512 : Int) else 1024) + 1 else (8388608 + f) * 1000 / (if (8388608 + f) * 1000 < 8589934592 then (512 : Int) else 1024)) * (if (8388608 + f) * 1000 < 8589934592 then (512 : Int) else 1024) = N
  intro k2
  refine ⟨Int.ediv_nonneg k2.1 (by omega), ?_⟩
  have h2 : N / W < 1001 := Int.ediv_lt_of_lt_mul (by omega) (by
    by_cases q : e = 127
    · have := h7 q; omega
    · have := hk2 q; omega)
  omega
theorem y_thou_in (v : Int) : -1 ≤ x_thou v ∧ x_thou v ≤ 1000 := by
  unfold x_thou
  by_cases h0 : v < 0
  · rw [if_pos h0]; split <;> omega
  · rw [if_neg h0]
    by_cases h1 : 127 < v / 8388608 ∨ (v / 8388608 = 127 ∧ ¬ v % 8388608 = 0)
    · rw [if_pos h1]; omega
    · rw [if_neg h1]
      by_cases h2 : v / 8388608 < 100
      · rw [if_pos h2]; omega
      · rw [if_neg h2]
        have := y_th2_in (e := v / 8388608) (f := v % 8388608) (by omega) (by omega) (by omega)
        omega
theorem x_thou_in (hpm : x_pm = true) (v : Int) : x_in32 (x_thou v) := by
  have := y_thou_in v
  unfold x_in32
  omega
section
variable {l : Launch}
theorem p_met {t : Nat} (ht : t < 181) (hrt : x_rt t = 1) (hn : x_mc t = 0 ∧ x_ms t = 0) (hml1 : 1 ≤ x_ml t) {v w : Int} (hw : x_in32 w) (D : va_G) (cy : Nat → ClassId) (A : Nat → Prop) (bs : Nat) (L : List Nat) (h : xH)
    (body : ∀ {p : Program} {e : Env} {R : Room} {s : State} {m : MethodId} {args : Array Value} {below : List Frame} {meth : Method} {c : Code} {H : Heap} {locs : List Loc} {cells slots : Nat} {Q : State → Prop} {ls : Array Slot}, p.tables.exec = Jvm.exec → c.code = x_by t → s.vm.findClass (x_nm t).cls = some m.cls → (∀ q ∈ lw_tbl, goodWord q = true → q.before args s = true) → lv_has ls (x_ml t) [(0, .int (Int32.ofInt v))] → (∀ (w' : Int32) (pc : Nat) (ls : Array Slot), decode (x_by t) pc = .ok (.ireturn, 1) → w' = Int32.ofInt w → W p l e R s m args below meth c H locs cells slots Q (F0 m pc ls [.int w'])) → W p l e R s m args below meth c H locs cells slots Q (F0 m 0 ls [])) :
    Met l (x_nm t) (x_wst t) (x_rm t) (va_Pc [.int (Int32.ofInt v)] (x_Pb D cy A L h)) (x_Qc D cy A bs L (some (.inl w)) h) (x_mc t) (x_ms t) A := by
  obtain ⟨m1, m2, m3, m4, m5, m6, m7, m8⟩ := x_ckm_of ht
  rw [hn.1, hn.2]
  refine Met.ofW (cc := x_by t) (maxL := x_ml t) (ret := x_rty (x_rt t)) m4 rfl ?_
  intro p e s m args below meth c s₁ B hml hv
  obtain ⟨rfl, hA, V, hK, hAO⟩ := hv
  have hts := atoms_spec (ws := x_wst t) B.pre
  have hx := B.exec
  have hb := B.bytes
  have hr := B.returns
  have hlocks := B.notSynchronized
  have hl := lv_entry ([.int (Int32.ofInt v)]) (n := x_ml t) (by show 1 ≤ x_ml t; exact hml1)
  rw [lg_entry_eq]
  generalize (lg_sl ([.int (Int32.ofInt v)]) ++ List.replicate (x_ml t - (lg_sl ([.int (Int32.ofInt v)])).length) Slot.unset).toArray = ls at hl ⊢
  refine body hx hb (findClass_of_methodNamed B.named) (fun w hw hg => hts w (List.mem_cons_of_mem _ (List.mem_filter.mpr ⟨hw, hg⟩))) hl (fun w' pc ls' hd hw' => ?_)
  subst hw'
  exact W.iret hx hb (by rw [hr, hrt]; rfl) (fun t' e1 e2 => ⟨⟨L, x_ext_rf, rfl, by rw [e1]; exact V, fun q hq => by cases hq; exact hw⟩, va_S.rf.F e1⟩) (fun q hq => by cases hq) hd
theorem x_prim (hpm : x_pm = true) {t : Nat} (ht : t = xprC ∨ t = xprM) {v : Int} (hv : x_in32 v) (D : va_G) (cy : Nat → ClassId) (A : Nat → Prop) (bs : Nat) (L : List Nat) (h : xH) : Met l (x_nm t) (x_wst t) (x_rm t) (va_Pc [.int (Int32.ofInt v)] (x_Pb D cy A L h)) (x_Qc D cy A bs L (some (.inl (x_thou v))) h) (x_mc t) (x_ms t) A := by
  have hw := x_thou_in hpm v
  rcases ht with rfl | rfl
  · have e0 := p_miC
    refine p_met (by decide) (by unfold x_rt; show (x_mi 111).2.2.1 = 1; rw [e0]) (by unfold x_mc x_ms; show (x_mi 111).2.2.2.1.2.2.1 = 0 ∧ (x_mi 111).2.2.2.1.2.2.2 = 0; rw [e0]; exact ⟨rfl, rfl⟩) (by unfold x_ml; show 1 ≤ (x_mi 111).2.1; rw [e0]; decide) hw D cy A bs L h ?_
    intro p e R s m args below meth c H locs cells slots Q ls hx hb hown hts hl fin
    have hml : x_ml xprC = 4 := by unfold x_ml; show (x_mi 111).2.1 = 4; rw [e0]
    rw [hml] at hl
    have hown2 : s.vm.findClass "WheelStands" = some m.cls := by
      have : (x_nm xprC).cls = "WheelStands" := by unfold x_nm; show (x_mi 111).1.cls = _; rw [e0]
      rwa [this] at hown
    have hby : x_by xprC = prog_1_method_35_code := p_byC
    rw [hby] at hb fin
    exact p_C hv hx hb hown2 (hts _ (x_wd_ok (n := 428) (by decide +kernel)) rfl) (hts _ (x_wd_ok (n := 429) (by decide +kernel)) rfl) (hts _ (x_wd_ok (n := 430) (by decide +kernel)) rfl) (hts _ (x_wd_ok (n := 431) (by decide +kernel)) rfl) (hts _ (x_wd_ok (n := 432) (by decide +kernel)) rfl) (hts _ (x_wd_ok (n := 433) (by decide +kernel)) rfl) fin hl
  · have e0 := p_miM
    refine p_met (by decide) (by unfold x_rt; show (x_mi 140).2.2.1 = 1; rw [e0]) (by unfold x_mc x_ms; show (x_mi 140).2.2.2.1.2.2.1 = 0 ∧ (x_mi 140).2.2.2.1.2.2.2 = 0; rw [e0]; exact ⟨rfl, rfl⟩) (by unfold x_ml; show 1 ≤ (x_mi 140).2.1; rw [e0]; decide) hw D cy A bs L h ?_
    intro p e R s m args below meth c H locs cells slots Q ls hx hb hown hts hl fin
    have hml : x_ml xprM = 13 := by unfold x_ml; show (x_mi 140).2.1 = 13; rw [e0]
    rw [hml] at hl
    have hown2 : s.vm.findClass "WheelStandsModel" = some m.cls := by
      have : (x_nm xprM).cls = "WheelStandsModel" := by unfold x_nm; show (x_mi 140).1.cls = _; rw [e0]
      rwa [this] at hown
    have hby : x_by xprM = prog_9_method_29_code := p_byM
    rw [hby] at hb fin
    exact p_M hv hx hb hown2 (hts _ (x_wd_ok (n := 902) (by decide +kernel)) rfl) (hts _ (x_wd_ok (n := 903) (by decide +kernel)) rfl) (hts _ (x_wd_ok (n := 904) (by decide +kernel)) rfl) (hts _ (x_wd_ok (n := 905) (by decide +kernel)) rfl) fin hl
end
end
