section
-- ===== PART A: goes FIRST, ahead of the names: the tables' words, and 'selects' of the private methods out of them =====
/-- a private method of a class that the tables say can be made, by its rows of tables_1 -/
def lw_okq (q : MethodName × Nat) : Prop := (q.1.cls ≠ "java/lang/invoke/MethodHandle" ∧ q.1.cls ≠ "java/lang/invoke/VarHandle") ∧ Cond.instantiable q.1.cls q.2 ∈ tables_1 ∧ Cond.privateMethod q.1 ∈ tables_1 ∧ Cond.instanceMethod q.1 ∈ tables_1
theorem lw_p0 : lw_okq (⟨"WheelStands$Town", "lendOne", "(LWheelStands$Wheel;LWheelStands$Wheel;)V"⟩, 7) := ⟨⟨by decide +kernel, by decide +kernel⟩, List.mem_of_getElem? (i := 20) (by decide +kernel), List.mem_of_getElem? (i := 450) (by decide +kernel), List.mem_of_getElem? (i := 451) (by decide +kernel)⟩
theorem lw_p1 : lw_okq (⟨"WheelStands$Town", "docksBoth", "(LWheelStands$Wheel;LWheelStands$Wheel;LWheelStands$Stand;)Z"⟩, 7) := ⟨⟨by decide +kernel, by decide +kernel⟩, List.mem_of_getElem? (i := 20) (by decide +kernel), List.mem_of_getElem? (i := 466) (by decide +kernel), List.mem_of_getElem? (i := 467) (by decide +kernel)⟩
theorem lw_p2 : lw_okq (⟨"WheelStands$Town", "leaveOnStreet", "(LWheelStands$Wheel;LWheelStands$Wheel;I)V"⟩, 7) := ⟨⟨by decide +kernel, by decide +kernel⟩, List.mem_of_getElem? (i := 20) (by decide +kernel), List.mem_of_getElem? (i := 479) (by decide +kernel), List.mem_of_getElem? (i := 480) (by decide +kernel)⟩
theorem lw_p3 : lw_okq (⟨"WheelStands$Tour", "gather", "(LWheelStands$Town;)Z"⟩, 7) := ⟨⟨by decide +kernel, by decide +kernel⟩, List.mem_of_getElem? (i := 217) (by decide +kernel), List.mem_of_getElem? (i := 612) (by decide +kernel), List.mem_of_getElem? (i := 613) (by decide +kernel)⟩
theorem lw_p4 : lw_okq (⟨"WheelStands$Tour", "addUpHeld", "()V"⟩, 7) := ⟨⟨by decide +kernel, by decide +kernel⟩, List.mem_of_getElem? (i := 217) (by decide +kernel), List.mem_of_getElem? (i := 622) (by decide +kernel), List.mem_of_getElem? (i := 623) (by decide +kernel)⟩
theorem lw_p5 : lw_okq (⟨"WheelStands$Tour", "allStands", "()I"⟩, 7) := ⟨⟨by decide +kernel, by decide +kernel⟩, List.mem_of_getElem? (i := 217) (by decide +kernel), List.mem_of_getElem? (i := 626) (by decide +kernel), List.mem_of_getElem? (i := 627) (by decide +kernel)⟩
theorem lw_p6 : lw_okq (⟨"WheelStands$Tour", "measureLeft", "(LWheelStands$Town;I)V"⟩, 7) := ⟨⟨by decide +kernel, by decide +kernel⟩, List.mem_of_getElem? (i := 217) (by decide +kernel), List.mem_of_getElem? (i := 630) (by decide +kernel), List.mem_of_getElem? (i := 631) (by decide +kernel)⟩
theorem lw_p7 : lw_okq (⟨"WheelStands$Tour", "leastOnward", "(LWheelStands$Town;II)I"⟩, 7) := ⟨⟨by decide +kernel, by decide +kernel⟩, List.mem_of_getElem? (i := 217) (by decide +kernel), List.mem_of_getElem? (i := 634) (by decide +kernel), List.mem_of_getElem? (i := 635) (by decide +kernel)⟩
theorem lw_p8 : lw_okq (⟨"WheelStands$Tour", "onwardBy", "(LWheelStands$Town;III)I"⟩, 7) := ⟨⟨by decide +kernel, by decide +kernel⟩, List.mem_of_getElem? (i := 217) (by decide +kernel), List.mem_of_getElem? (i := 639) (by decide +kernel), List.mem_of_getElem? (i := 640) (by decide +kernel)⟩
theorem lw_p9 : lw_okq (⟨"WheelStands$Tour", "trace", "(LWheelStands$Town;I)V"⟩, 7) := ⟨⟨by decide +kernel, by decide +kernel⟩, List.mem_of_getElem? (i := 217) (by decide +kernel), List.mem_of_getElem? (i := 645) (by decide +kernel), List.mem_of_getElem? (i := 646) (by decide +kernel)⟩
theorem lw_p10 : lw_okq (⟨"WheelStands$Tour", "leadsOn", "(LWheelStands$Town;IIII)Z"⟩, 7) := ⟨⟨by decide +kernel, by decide +kernel⟩, List.mem_of_getElem? (i := 217) (by decide +kernel), List.mem_of_getElem? (i := 649) (by decide +kernel), List.mem_of_getElem? (i := 650) (by decide +kernel)⟩
theorem lw_p11 : lw_okq (⟨"WheelStandsModel", "standAt", "(I)I"⟩, 12) := ⟨⟨by decide +kernel, by decide +kernel⟩, List.mem_of_getElem? (i := 719) (by decide +kernel), List.mem_of_getElem? (i := 767) (by decide +kernel), List.mem_of_getElem? (i := 768) (by decide +kernel)⟩
theorem lw_p12 : lw_okq (⟨"WheelStandsModel", "dockAt", "(II)I"⟩, 12) := ⟨⟨by decide +kernel, by decide +kernel⟩, List.mem_of_getElem? (i := 719) (by decide +kernel), List.mem_of_getElem? (i := 771) (by decide +kernel), List.mem_of_getElem? (i := 772) (by decide +kernel)⟩
theorem lw_p13 : lw_okq (⟨"WheelStandsModel", "isStand", "(I)Z"⟩, 12) := ⟨⟨by decide +kernel, by decide +kernel⟩, List.mem_of_getElem? (i := 719) (by decide +kernel), List.mem_of_getElem? (i := 779) (by decide +kernel), List.mem_of_getElem? (i := 780) (by decide +kernel)⟩
theorem lw_p14 : lw_okq (⟨"WheelStandsModel", "isDock", "(II)Z"⟩, 12) := ⟨⟨by decide +kernel, by decide +kernel⟩, List.mem_of_getElem? (i := 719) (by decide +kernel), List.mem_of_getElem? (i := 798) (by decide +kernel), List.mem_of_getElem? (i := 799) (by decide +kernel)⟩
theorem lw_p15 : lw_okq (⟨"WheelStandsModel", "docks", "(I)I"⟩, 12) := ⟨⟨by decide +kernel, by decide +kernel⟩, List.mem_of_getElem? (i := 719) (by decide +kernel), List.mem_of_getElem? (i := 802) (by decide +kernel), List.mem_of_getElem? (i := 803) (by decide +kernel)⟩
def lw_privs_1 : List (MethodName × Nat) := [(⟨"WheelStands$Town", "lendOne", "(LWheelStands$Wheel;LWheelStands$Wheel;)V"⟩, 7), (⟨"WheelStands$Town", "docksBoth", "(LWheelStands$Wheel;LWheelStands$Wheel;LWheelStands$Stand;)Z"⟩, 7), (⟨"WheelStands$Town", "leaveOnStreet", "(LWheelStands$Wheel;LWheelStands$Wheel;I)V"⟩, 7), (⟨"WheelStands$Tour", "gather", "(LWheelStands$Town;)Z"⟩, 7), (⟨"WheelStands$Tour", "addUpHeld", "()V"⟩, 7), (⟨"WheelStands$Tour", "allStands", "()I"⟩, 7), (⟨"WheelStands$Tour", "measureLeft", "(LWheelStands$Town;I)V"⟩, 7), (⟨"WheelStands$Tour", "leastOnward", "(LWheelStands$Town;II)I"⟩, 7), (⟨"WheelStands$Tour", "onwardBy", "(LWheelStands$Town;III)I"⟩, 7), (⟨"WheelStands$Tour", "trace", "(LWheelStands$Town;I)V"⟩, 7), (⟨"WheelStands$Tour", "leadsOn", "(LWheelStands$Town;IIII)Z"⟩, 7), (⟨"WheelStandsModel", "standAt", "(I)I"⟩, 12), (⟨"WheelStandsModel", "dockAt", "(II)I"⟩, 12), (⟨"WheelStandsModel", "isStand", "(I)Z"⟩, 12), (⟨"WheelStandsModel", "isDock", "(II)Z"⟩, 12), (⟨"WheelStandsModel", "docks", "(I)I"⟩, 12)]
theorem lw_r1 : ∀ q ∈ lw_privs_1, lw_okq q := List.forall_mem_cons.mpr ⟨lw_p0, List.forall_mem_cons.mpr ⟨lw_p1, List.forall_mem_cons.mpr ⟨lw_p2, List.forall_mem_cons.mpr ⟨lw_p3, List.forall_mem_cons.mpr ⟨lw_p4, List.forall_mem_cons.mpr ⟨lw_p5, List.forall_mem_cons.mpr ⟨lw_p6, List.forall_mem_cons.mpr ⟨lw_p7, List.forall_mem_cons.mpr ⟨lw_p8, List.forall_mem_cons.mpr ⟨lw_p9, List.forall_mem_cons.mpr ⟨lw_p10, List.forall_mem_cons.mpr ⟨lw_p11, List.forall_mem_cons.mpr ⟨lw_p12, List.forall_mem_cons.mpr ⟨lw_p13, List.forall_mem_cons.mpr ⟨lw_p14, List.forall_mem_cons.mpr ⟨lw_p15, fun _ h => absurd h List.not_mem_nil⟩⟩⟩⟩⟩⟩⟩⟩⟩⟩⟩⟩⟩⟩⟩⟩
theorem lw_p16 : lw_okq (⟨"WheelStandsModel", "countDocks", "(II)I"⟩, 12) := ⟨⟨by decide +kernel, by decide +kernel⟩, List.mem_of_getElem? (i := 719) (by decide +kernel), List.mem_of_getElem? (i := 814) (by decide +kernel), List.mem_of_getElem? (i := 815) (by decide +kernel)⟩
theorem lw_p17 : lw_okq (⟨"WheelStandsModel", "countWheels", "(IIZ)I"⟩, 12) := ⟨⟨by decide +kernel, by decide +kernel⟩, List.mem_of_getElem? (i := 719) (by decide +kernel), List.mem_of_getElem? (i := 818) (by decide +kernel), List.mem_of_getElem? (i := 819) (by decide +kernel)⟩
theorem lw_p18 : lw_okq (⟨"WheelStandsModel", "of", "(II)I"⟩, 12) := ⟨⟨by decide +kernel, by decide +kernel⟩, List.mem_of_getElem? (i := 719) (by decide +kernel), List.mem_of_getElem? (i := 822) (by decide +kernel), List.mem_of_getElem? (i := 823) (by decide +kernel)⟩
theorem lw_p19 : lw_okq (⟨"WheelStandsModel", "fits", "(III)Z"⟩, 12) := ⟨⟨by decide +kernel, by decide +kernel⟩, List.mem_of_getElem? (i := 719) (by decide +kernel), List.mem_of_getElem? (i := 830) (by decide +kernel), List.mem_of_getElem? (i := 831) (by decide +kernel)⟩
theorem lw_p20 : lw_okq (⟨"WheelStandsModel", "isFree", "(II)Z"⟩, 12) := ⟨⟨by decide +kernel, by decide +kernel⟩, List.mem_of_getElem? (i := 719) (by decide +kernel), List.mem_of_getElem? (i := 834) (by decide +kernel), List.mem_of_getElem? (i := 835) (by decide +kernel)⟩
theorem lw_p21 : lw_okq (⟨"WheelStandsModel", "sets", "(III)V"⟩, 12) := ⟨⟨by decide +kernel, by decide +kernel⟩, List.mem_of_getElem? (i := 719) (by decide +kernel), List.mem_of_getElem? (i := 838) (by decide +kernel), List.mem_of_getElem? (i := 839) (by decide +kernel)⟩
theorem lw_p22 : lw_okq (⟨"WheelStandsModel", "comes", "(III)V"⟩, 12) := ⟨⟨by decide +kernel, by decide +kernel⟩, List.mem_of_getElem? (i := 719) (by decide +kernel), List.mem_of_getElem? (i := 845) (by decide +kernel), List.mem_of_getElem? (i := 846) (by decide +kernel)⟩
theorem lw_p23 : lw_okq (⟨"WheelStandsModel", "isWheel", "(I)Z"⟩, 12) := ⟨⟨by decide +kernel, by decide +kernel⟩, List.mem_of_getElem? (i := 719) (by decide +kernel), List.mem_of_getElem? (i := 853) (by decide +kernel), List.mem_of_getElem? (i := 854) (by decide +kernel)⟩
theorem lw_p24 : lw_okq (⟨"WheelStandsModel", "isEnough", "(II)Z"⟩, 12) := ⟨⟨by decide +kernel, by decide +kernel⟩, List.mem_of_getElem? (i := 719) (by decide +kernel), List.mem_of_getElem? (i := 888) (by decide +kernel), List.mem_of_getElem? (i := 889) (by decide +kernel)⟩
theorem lw_p25 : lw_okq (⟨"WheelStandsModel", "far", "(II)I"⟩, 12) := ⟨⟨by decide +kernel, by decide +kernel⟩, List.mem_of_getElem? (i := 719) (by decide +kernel), List.mem_of_getElem? (i := 892) (by decide +kernel), List.mem_of_getElem? (i := 893) (by decide +kernel)⟩
theorem lw_p26 : lw_okq (⟨"WheelStandsModel", "falls", "(I)I"⟩, 12) := ⟨⟨by decide +kernel, by decide +kernel⟩, List.mem_of_getElem? (i := 719) (by decide +kernel), List.mem_of_getElem? (i := 896) (by decide +kernel), List.mem_of_getElem? (i := 897) (by decide +kernel)⟩
theorem lw_p27 : lw_okq (⟨"WheelStandsModel", "hired", "(II)V"⟩, 12) := ⟨⟨by decide +kernel, by decide +kernel⟩, List.mem_of_getElem? (i := 719) (by decide +kernel), List.mem_of_getElem? (i := 900) (by decide +kernel), List.mem_of_getElem? (i := 901) (by decide +kernel)⟩
theorem lw_p28 : lw_okq (⟨"WheelStandsModel", "leaves", "(I)V"⟩, 12) := ⟨⟨by decide +kernel, by decide +kernel⟩, List.mem_of_getElem? (i := 719) (by decide +kernel), List.mem_of_getElem? (i := 904) (by decide +kernel), List.mem_of_getElem? (i := 905) (by decide +kernel)⟩
theorem lw_p29 : lw_okq (⟨"WheelStandsModel", "goes", "(II)V"⟩, 12) := ⟨⟨by decide +kernel, by decide +kernel⟩, List.mem_of_getElem? (i := 719) (by decide +kernel), List.mem_of_getElem? (i := 912) (by decide +kernel), List.mem_of_getElem? (i := 913) (by decide +kernel)⟩
theorem lw_p30 : lw_okq (⟨"WheelStandsModel", "arrives", "(III)Z"⟩, 12) := ⟨⟨by decide +kernel, by decide +kernel⟩, List.mem_of_getElem? (i := 719) (by decide +kernel), List.mem_of_getElem? (i := 916) (by decide +kernel), List.mem_of_getElem? (i := 917) (by decide +kernel)⟩
theorem lw_p31 : lw_okq (⟨"WheelStandsModel", "roomFor", "(II)I"⟩, 12) := ⟨⟨by decide +kernel, by decide +kernel⟩, List.mem_of_getElem? (i := 719) (by decide +kernel), List.mem_of_getElem? (i := 920) (by decide +kernel), List.mem_of_getElem? (i := 921) (by decide +kernel)⟩
def lw_privs_2 : List (MethodName × Nat) := [(⟨"WheelStandsModel", "countDocks", "(II)I"⟩, 12), (⟨"WheelStandsModel", "countWheels", "(IIZ)I"⟩, 12), (⟨"WheelStandsModel", "of", "(II)I"⟩, 12), (⟨"WheelStandsModel", "fits", "(III)Z"⟩, 12), (⟨"WheelStandsModel", "isFree", "(II)Z"⟩, 12), (⟨"WheelStandsModel", "sets", "(III)V"⟩, 12), (⟨"WheelStandsModel", "comes", "(III)V"⟩, 12), (⟨"WheelStandsModel", "isWheel", "(I)Z"⟩, 12), (⟨"WheelStandsModel", "isEnough", "(II)Z"⟩, 12), (⟨"WheelStandsModel", "far", "(II)I"⟩, 12), (⟨"WheelStandsModel", "falls", "(I)I"⟩, 12), (⟨"WheelStandsModel", "hired", "(II)V"⟩, 12), (⟨"WheelStandsModel", "leaves", "(I)V"⟩, 12), (⟨"WheelStandsModel", "goes", "(II)V"⟩, 12), (⟨"WheelStandsModel", "arrives", "(III)Z"⟩, 12), (⟨"WheelStandsModel", "roomFor", "(II)I"⟩, 12)]
theorem lw_r2 : ∀ q ∈ lw_privs_2, lw_okq q := List.forall_mem_cons.mpr ⟨lw_p16, List.forall_mem_cons.mpr ⟨lw_p17, List.forall_mem_cons.mpr ⟨lw_p18, List.forall_mem_cons.mpr ⟨lw_p19, List.forall_mem_cons.mpr ⟨lw_p20, List.forall_mem_cons.mpr ⟨lw_p21, List.forall_mem_cons.mpr ⟨lw_p22, List.forall_mem_cons.mpr ⟨lw_p23, List.forall_mem_cons.mpr ⟨lw_p24, List.forall_mem_cons.mpr ⟨lw_p25, List.forall_mem_cons.mpr ⟨lw_p26, List.forall_mem_cons.mpr ⟨lw_p27, List.forall_mem_cons.mpr ⟨lw_p28, List.forall_mem_cons.mpr ⟨lw_p29, List.forall_mem_cons.mpr ⟨lw_p30, List.forall_mem_cons.mpr ⟨lw_p31, fun _ h => absurd h List.not_mem_nil⟩⟩⟩⟩⟩⟩⟩⟩⟩⟩⟩⟩⟩⟩⟩⟩
theorem lw_p32 : lw_okq (⟨"WheelStandsModel", "streets", "(II)V"⟩, 12) := ⟨⟨by decide +kernel, by decide +kernel⟩, List.mem_of_getElem? (i := 719) (by decide +kernel), List.mem_of_getElem? (i := 924) (by decide +kernel), List.mem_of_getElem? (i := 925) (by decide +kernel)⟩
theorem lw_p33 : lw_okq (⟨"WheelStandsModel", "wagonAt", "(I)I"⟩, 12) := ⟨⟨by decide +kernel, by decide +kernel⟩, List.mem_of_getElem? (i := 719) (by decide +kernel), List.mem_of_getElem? (i := 936) (by decide +kernel), List.mem_of_getElem? (i := 937) (by decide +kernel)⟩
theorem lw_p34 : lw_okq (⟨"WheelStandsModel", "isCart", "(I)Z"⟩, 12) := ⟨⟨by decide +kernel, by decide +kernel⟩, List.mem_of_getElem? (i := 719) (by decide +kernel), List.mem_of_getElem? (i := 944) (by decide +kernel), List.mem_of_getElem? (i := 945) (by decide +kernel)⟩
theorem lw_p35 : lw_okq (⟨"WheelStandsModel", "allows", "(II)Z"⟩, 12) := ⟨⟨by decide +kernel, by decide +kernel⟩, List.mem_of_getElem? (i := 719) (by decide +kernel), List.mem_of_getElem? (i := 952) (by decide +kernel), List.mem_of_getElem? (i := 953) (by decide +kernel)⟩
theorem lw_p36 : lw_okq (⟨"WheelStandsModel", "taken", "(I)I"⟩, 12) := ⟨⟨by decide +kernel, by decide +kernel⟩, List.mem_of_getElem? (i := 719) (by decide +kernel), List.mem_of_getElem? (i := 956) (by decide +kernel), List.mem_of_getElem? (i := 957) (by decide +kernel)⟩
theorem lw_p37 : lw_okq (⟨"WheelStandsModel", "climbs", "(II)V"⟩, 12) := ⟨⟨by decide +kernel, by decide +kernel⟩, List.mem_of_getElem? (i := 719) (by decide +kernel), List.mem_of_getElem? (i := 960) (by decide +kernel), List.mem_of_getElem? (i := 961) (by decide +kernel)⟩
theorem lw_p38 : lw_okq (⟨"WheelStandsModel", "goesThrough", "(II)V"⟩, 12) := ⟨⟨by decide +kernel, by decide +kernel⟩, List.mem_of_getElem? (i := 719) (by decide +kernel), List.mem_of_getElem? (i := 984) (by decide +kernel), List.mem_of_getElem? (i := 985) (by decide +kernel)⟩
theorem lw_p39 : lw_okq (⟨"WheelStandsModel", "finds", "()V"⟩, 12) := ⟨⟨by decide +kernel, by decide +kernel⟩, List.mem_of_getElem? (i := 719) (by decide +kernel), List.mem_of_getElem? (i := 1000) (by decide +kernel), List.mem_of_getElem? (i := 1001) (by decide +kernel)⟩
theorem lw_p40 : lw_okq (⟨"WheelStandsModel", "lengthOf", "(I)I"⟩, 12) := ⟨⟨by decide +kernel, by decide +kernel⟩, List.mem_of_getElem? (i := 719) (by decide +kernel), List.mem_of_getElem? (i := 1004) (by decide +kernel), List.mem_of_getElem? (i := 1005) (by decide +kernel)⟩
theorem lw_p41 : lw_okq (⟨"WheelStandsModel", "turns", "()Z"⟩, 12) := ⟨⟨by decide +kernel, by decide +kernel⟩, List.mem_of_getElem? (i := 719) (by decide +kernel), List.mem_of_getElem? (i := 1008) (by decide +kernel), List.mem_of_getElem? (i := 1009) (by decide +kernel)⟩
theorem lw_p42 : lw_okq (⟨"WheelStandsModel", "overAt", "(I)I"⟩, 12) := ⟨⟨by decide +kernel, by decide +kernel⟩, List.mem_of_getElem? (i := 719) (by decide +kernel), List.mem_of_getElem? (i := 1022) (by decide +kernel), List.mem_of_getElem? (i := 1023) (by decide +kernel)⟩
def lw_privs_3 : List (MethodName × Nat) := [(⟨"WheelStandsModel", "streets", "(II)V"⟩, 12), (⟨"WheelStandsModel", "wagonAt", "(I)I"⟩, 12), (⟨"WheelStandsModel", "isCart", "(I)Z"⟩, 12), (⟨"WheelStandsModel", "allows", "(II)Z"⟩, 12), (⟨"WheelStandsModel", "taken", "(I)I"⟩, 12), (⟨"WheelStandsModel", "climbs", "(II)V"⟩, 12), (⟨"WheelStandsModel", "goesThrough", "(II)V"⟩, 12), (⟨"WheelStandsModel", "finds", "()V"⟩, 12), (⟨"WheelStandsModel", "lengthOf", "(I)I"⟩, 12), (⟨"WheelStandsModel", "turns", "()Z"⟩, 12), (⟨"WheelStandsModel", "overAt", "(I)I"⟩, 12)]
theorem lw_r3 : ∀ q ∈ lw_privs_3, lw_okq q := List.forall_mem_cons.mpr ⟨lw_p32, List.forall_mem_cons.mpr ⟨lw_p33, List.forall_mem_cons.mpr ⟨lw_p34, List.forall_mem_cons.mpr ⟨lw_p35, List.forall_mem_cons.mpr ⟨lw_p36, List.forall_mem_cons.mpr ⟨lw_p37, List.forall_mem_cons.mpr ⟨lw_p38, List.forall_mem_cons.mpr ⟨lw_p39, List.forall_mem_cons.mpr ⟨lw_p40, List.forall_mem_cons.mpr ⟨lw_p41, List.forall_mem_cons.mpr ⟨lw_p42, fun _ h => absurd h List.not_mem_nil⟩⟩⟩⟩⟩⟩⟩⟩⟩⟩⟩
def lw_privs : List (MethodName × Nat) := lw_privs_1 ++ (lw_privs_2 ++ (lw_privs_3))
def lw_tbl : List Cond := k2_sels lw_privs ++ tables_1
theorem lw_privs_ok : ∀ q ∈ lw_privs, lw_okq q := by
  show ∀ q ∈ lw_privs_1 ++ (lw_privs_2 ++ (lw_privs_3)), lw_okq q
  exact List.forall_mem_append.mpr ⟨lw_r1, List.forall_mem_append.mpr ⟨lw_r2, lw_r3⟩⟩
/-- the streams that the claim lets the run draw from -/
abbrev lw_cs : List Choice := [Jvm.Choice.named "NaN.bits"]
theorem lw_bits : nanBits ∈ lw_cs := by first | decide | exact List.mem_cons_self | simp [lw_cs, nanBits]
end
section
def RX0 : String := "WheelStands$Cart"
def TX0 : u_T := fun k => match k with
  | 0 => ("WheelStands$Cart", "number", "I", true)
  | 1 => ("WheelStands$Cart", "load", "I", false)
  | 2 => ("WheelStands$Cart", "stand", "I", false)
  | 3 => ("WheelStands$Cart", "taken", "I", false)
  | 4 => ("WheelStands$Cart", "gone", "I", false)
  | 5 => ("WheelStands$Cart", "row", "[I", true)
  | _ => ("WheelStands$Cart", "count", "I", false)
def tyX0 : Nat → FieldType := fun k => match k with
  | 0 => .int
  | 1 => .int
  | 2 => .int
  | 3 => .int
  | 4 => .int
  | 5 => .array .int
  | _ => .int
theorem nmX0 : ∀ a, a < 7 → ∀ b, b < 7 → a ≠ b → (TX0 a).2.1 ≠ (TX0 b).2.1 := by decide +kernel
theorem tyX0_ok : ∀ k, k < 7 → parseFieldDescriptor (TX0 k).2.2.1 = some (tyX0 k) := by decide +kernel
def RX1 : String := "WheelStands$Demand"
def TX1 : u_T := fun k => match k with
  | 0 => ("WheelStands$Demand", "known", "Z", false)
  | 1 => ("WheelStands$Demand", "bringing", "[I", true)
  | _ => ("WheelStands$Demand", "wanting", "[I", true)
def tyX1 : Nat → FieldType := fun k => match k with
  | 0 => .boolean
  | 1 => .array .int
  | _ => .array .int
theorem nmX1 : ∀ a, a < 3 → ∀ b, b < 3 → a ≠ b → (TX1 a).2.1 ≠ (TX1 b).2.1 := by decide +kernel
theorem tyX1_ok : ∀ k, k < 3 → parseFieldDescriptor (TX1 k).2.2.1 = some (tyX1 k) := by decide +kernel
def RX2 : String := "WheelStands$Stand"
def TX2 : u_T := fun k => match k with
  | 0 => ("WheelStands$Stand", "number", "I", true)
  | 1 => ("WheelStands$Stand", "docks", "I", false)
  | 2 => ("WheelStands$Stand", "content", "[I", true)
  | 3 => ("WheelStands$Stand", "lengths", "[I", true)
  | 4 => ("WheelStands$Stand", "others", "[I", true)
  | 5 => ("WheelStands$Stand", "otherCount", "I", false)
  | 6 => ("WheelStands$Stand", "wanted", "I", false)
  | 7 => ("WheelStands$Stand", "failed", "I", false)
  | _ => ("WheelStands$Stand", "demand", "LWheelStands$Demand;", true)
def tyX2 : Nat → FieldType := fun k => match k with
  | 0 => .int
  | 1 => .int
  | 2 => .array .int
  | 3 => .array .int
  | 4 => .array .int
  | 5 => .int
  | 6 => .int
  | 7 => .int
  | _ => .object "WheelStands$Demand"
theorem nmX2 : ∀ a, a < 9 → ∀ b, b < 9 → a ≠ b → (TX2 a).2.1 ≠ (TX2 b).2.1 := by decide +kernel
theorem tyX2_ok : ∀ k, k < 9 → parseFieldDescriptor (TX2 k).2.2.1 = some (tyX2 k) := by decide +kernel
def RX3 : String := "WheelStands$Tour"
def TX3 : u_T := fun k => match k with
  | 0 => ("WheelStands$Tour", "stops", "[I", true)
  | 1 => ("WheelStands$Tour", "stopCount", "I", false)
  | 2 => ("WheelStands$Tour", "stands", "[I", true)
  | 3 => ("WheelStands$Tour", "surplus", "[I", true)
  | 4 => ("WheelStands$Tour", "count", "I", false)
  | 5 => ("WheelStands$Tour", "held", "[I", true)
  | _ => ("WheelStands$Tour", "left", "[I", true)
def tyX3 : Nat → FieldType := fun k => match k with
  | 0 => .array .int
  | 1 => .int
  | 2 => .array .int
  | 3 => .array .int
  | 4 => .int
  | 5 => .array .int
  | _ => .array .int
theorem nmX3 : ∀ a, a < 7 → ∀ b, b < 7 → a ≠ b → (TX3 a).2.1 ≠ (TX3 b).2.1 := by decide +kernel
theorem tyX3_ok : ∀ k, k < 7 → parseFieldDescriptor (TX3 k).2.2.1 = some (tyX3 k) := by decide +kernel
def RX4 : String := "WheelStands$Town"
def TX4 : u_T := fun k => match k with
  | 0 => ("WheelStands$Town", "stands", "[LWheelStands$Stand;", true)
  | 1 => ("WheelStands$Town", "standCount", "I", false)
  | 2 => ("WheelStands$Town", "wheels", "[LWheelStands$Wheel;", true)
  | 3 => ("WheelStands$Town", "wheelCount", "I", false)
  | 4 => ("WheelStands$Town", "carts", "[LWheelStands$Cart;", true)
  | 5 => ("WheelStands$Town", "cartCount", "I", false)
  | _ => ("WheelStands$Town", "hour", "I", false)
def tyX4 : Nat → FieldType := fun k => match k with
  | 0 => .array (.object "WheelStands$Stand")
  | 1 => .int
  | 2 => .array (.object "WheelStands$Wheel")
  | 3 => .int
  | 4 => .array (.object "WheelStands$Cart")
  | 5 => .int
  | _ => .int
theorem nmX4 : ∀ a, a < 7 → ∀ b, b < 7 → a ≠ b → (TX4 a).2.1 ≠ (TX4 b).2.1 := by decide +kernel
theorem tyX4_ok : ∀ k, k < 7 → parseFieldDescriptor (TX4 k).2.2.1 = some (tyX4 k) := by decide +kernel
def RX5 : String := "WheelStands$Wheel"
def TX5 : u_T := fun k => match k with
  | 0 => ("WheelStands$Wheel", "number", "I", true)
  | 1 => ("WheelStands$Wheel", "kind", "I", false)
  | 2 => ("WheelStands$Wheel", "charge", "I", false)
  | 3 => ("WheelStands$Wheel", "place", "I", false)
  | 4 => ("WheelStands$Wheel", "stand", "I", false)
  | 5 => ("WheelStands$Wheel", "spot", "I", false)
  | 6 => ("WheelStands$Wheel", "doubt", "I", false)
  | 7 => ("WheelStands$Wheel", "broken", "Z", false)
  | 8 => ("WheelStands$Wheel", "known", "Z", false)
  | _ => ("WheelStands$Wheel", "partner", "I", false)
def tyX5 : Nat → FieldType := fun k => match k with
  | 0 => .int
  | 1 => .int
  | 2 => .int
  | 3 => .int
  | 4 => .int
  | 5 => .int
  | 6 => .int
  | 7 => .boolean
  | 8 => .boolean
  | _ => .int
theorem nmX5 : ∀ a, a < 10 → ∀ b, b < 10 → a ≠ b → (TX5 a).2.1 ≠ (TX5 b).2.1 := by decide +kernel
theorem tyX5_ok : ∀ k, k < 10 → parseFieldDescriptor (TX5 k).2.2.1 = some (tyX5 k) := by decide +kernel
def RX6 : String := "WheelStands"
def TX6 : u_T := fun k => match k with
  | 0 => ("WheelStands", "town", "LWheelStands$Town;", true)
  | 1 => ("WheelStands", "images", "[LWheelStands$Town;", true)
  | _ => ("WheelStands", "tour", "LWheelStands$Tour;", true)
def tyX6 : Nat → FieldType := fun k => match k with
  | 0 => .object "WheelStands$Town"
  | 1 => .array (.object "WheelStands$Town")
  | _ => .object "WheelStands$Tour"
theorem nmX6 : ∀ a, a < 3 → ∀ b, b < 3 → a ≠ b → (TX6 a).2.1 ≠ (TX6 b).2.1 := by decide +kernel
theorem tyX6_ok : ∀ k, k < 3 → parseFieldDescriptor (TX6 k).2.2.1 = some (tyX6 k) := by decide +kernel
def RX7 : String := "WheelStandsModel"
def TX7 : u_T := fun k => match k with
  | 0 => ("WheelStandsModel", "all", "[I", true)
  | 1 => ("WheelStandsModel", "has", "[Z", true)
  | 2 => ("WheelStandsModel", "away", "I", false)
  | 3 => ("WheelStandsModel", "firstHour", "I", false)
  | 4 => ("WheelStandsModel", "rest", "I", false)
  | 5 => ("WheelStandsModel", "outs", "[I", true)
  | 6 => ("WheelStandsModel", "over", "[I", true)
  | 7 => ("WheelStandsModel", "outMany", "I", false)
  | 8 => ("WheelStandsModel", "tried", "[I", true)
  | 9 => ("WheelStandsModel", "best", "[I", true)
  | 10 => ("WheelStandsModel", "round", "[I", true)
  | _ => ("WheelStandsModel", "roundMany", "I", false)
def tyX7 : Nat → FieldType := fun k => match k with
  | 0 => .array .int
  | 1 => .array .boolean
  | 2 => .int
  | 3 => .int
  | 4 => .int
  | 5 => .array .int
  | 6 => .array .int
  | 7 => .int
  | 8 => .array .int
  | 9 => .array .int
  | 10 => .array .int
  | _ => .int
theorem nmX7 : ∀ a, a < 12 → ∀ b, b < 12 → a ≠ b → (TX7 a).2.1 ≠ (TX7 b).2.1 := by decide +kernel
theorem tyX7_ok : ∀ k, k < 12 → parseFieldDescriptor (TX7 k).2.2.1 = some (tyX7 k) := by decide +kernel
abbrev vwCl : List vw_C := [(RX0, TX0, 7), (RX1, TX1, 3), (RX2, TX2, 9), (RX3, TX3, 7), (RX4, TX4, 7), (RX5, TX5, 10), (RX6, TX6, 3), (RX7, TX7, 12)]
def xkn : List String := [RX0, RX1, RX2, RX3, RX4, RX5, RX6, RX7]
def xnsl (c : Nat) : Nat := [7, 3, 9, 7, 7, 10, 3, 12].getD c 0
def xrfl : List (List Bool) := [[false, false, false, false, false, true, false], [false, true, true], [false, false, true, true, true, false, false, false, true], [true, false, true, true, false, true, true], [true, false, true, false, true, false, false], [false, false, false, false, false, false, false, false, false, false], [true, true, true], [true, true, false, false, false, true, true, false, true, true, true, false]]
def xrf (c j : Nat) : Bool := (xrfl.getD c []).getD j false
def xfl : List (Nat × String × Nat × Nat × Nat) := [
  (198, RX0, 9, 0, 0), (211, RX0, 15, 0, 5), (199, RX0, 19, 0, 1), (202, RX0, 22, 0, 2), (206, RX0, 25, 0, 3), (208, RX0, 28, 0, 4), (212, RX0, 31, 0, 6), (142, RX0, 50, 5, 0),
  (83, RX1, 11, 1, 1), (84, RX1, 15, 1, 2), (81, RX1, 18, 1, 0), (93, RX2, 9, 2, 0), (98, RX2, 15, 2, 2), (101, RX2, 21, 2, 3), (103, RX2, 24, 2, 4), (113, RX2, 30, 2, 8),
  (95, RX2, 34, 2, 1), (104, RX2, 37, 2, 5), (107, RX2, 40, 2, 6), (110, RX2, 43, 2, 7), (265, RX3, 11, 3, 0), (268, RX3, 15, 3, 2), (269, RX3, 18, 3, 3), (271, RX3, 21, 3, 5),
  (272, RX3, 24, 3, 6), (266, RX3, 27, 3, 1), (213, RX3, 31, 0, 6), (200, RX3, 43, 0, 1), (203, RX3, 50, 0, 2), (270, RX3, 61, 3, 4), (232, RX3, 62, 4, 1), (230, RX3, 67, 4, 0),
  (229, RX4, 13, 4, 0), (234, RX4, 22, 4, 2), (238, RX4, 29, 4, 4), (231, RX4, 34, 4, 1), (236, RX4, 38, 4, 3), (239, RX4, 41, 4, 5), (241, RX4, 44, 4, 6), (99, RX4, 65, 2, 2),
  (143, RX4, 81, 5, 0), (151, RX4, 87, 5, 3), (165, RX4, 90, 5, 8), (147, RX4, 98, 5, 1), (109, RX4, 101, 2, 6), (94, RX4, 104, 2, 0), (155, RX4, 132, 5, 4), (158, RX4, 135, 5, 5),
  (161, RX4, 142, 5, 6), (169, RX4, 148, 5, 9), (106, RX4, 155, 2, 5), (112, RX4, 171, 2, 7), (210, RX4, 174, 0, 4), (205, RX4, 177, 0, 2), (97, RX4, 199, 2, 1), (141, RX5, 9, 5, 0),
  (145, RX5, 15, 5, 1), (148, RX5, 22, 5, 2), (159, RX5, 25, 5, 6), (162, RX5, 28, 5, 7), (164, RX5, 32, 5, 8), (167, RX5, 35, 5, 9), (150, RX5, 42, 5, 3), (153, RX5, 45, 5, 4),
  (156, RX5, 48, 5, 5), (288, RX6, 10, 6, 0), (289, RX6, 16, 6, 1), (290, RX6, 23, 6, 2), (102, RX6, 37, 2, 3), (105, RX6, 44, 2, 5), (114, RX6, 48, 2, 8), (82, RX6, 52, 1, 0),
  (100, RX6, 65, 2, 2), (96, RX6, 68, 2, 1), (111, RX6, 84, 2, 7), (108, RX6, 87, 2, 6), (149, RX6, 112, 5, 2), (146, RX6, 115, 5, 1), (152, RX6, 118, 5, 3), (154, RX6, 121, 5, 4),
  (157, RX6, 124, 5, 5), (160, RX6, 127, 5, 6), (166, RX6, 130, 5, 8), (168, RX6, 131, 5, 9), (163, RX6, 134, 5, 7), (237, RX6, 137, 4, 3), (235, RX6, 140, 4, 2), (144, RX6, 158, 5, 0),
  (242, RX6, 168, 4, 6), (209, RX6, 184, 0, 4), (204, RX6, 187, 0, 2), (201, RX6, 207, 0, 1), (207, RX6, 210, 0, 3), (267, RX6, 234, 3, 1), (233, RX6, 244, 4, 1), (240, RX6, 247, 4, 5),
  (767, RX7, 7, 7, 0), (768, RX7, 13, 7, 1), (772, RX7, 17, 7, 5), (773, RX7, 20, 7, 6), (775, RX7, 23, 7, 8), (776, RX7, 26, 7, 9), (777, RX7, 29, 7, 10), (769, RX7, 138, 7, 2),
  (770, RX7, 142, 7, 3), (771, RX7, 145, 7, 4), (774, RX7, 151, 7, 7), (778, RX7, 164, 7, 11)]
def xml : List (Nat × String × Nat × Nat) := [
  (571, RX0, 40, 70), (581, RX0, 46, 3), (582, RX0, 51, 68), (617, RX1, 28, 8), (641, RX1, 38, 12), (77, RX2, 29, 7), (310, RX2, 46, 9), (731, RX2, 55, 10),
  (358, RX2, 65, 21), (385, RX2, 69, 17), (516, RX2, 73, 24), (654, RX3, 36, 30), (664, RX3, 40, 32), (672, RX3, 46, 33), (676, RX3, 53, 34), (687, RX3, 58, 36),
  (658, RX3, 70, 51), (663, RX3, 74, 22), (668, RX3, 80, 31), (681, RX3, 83, 35), (685, RX3, 93, 52), (691, RX3, 96, 37), (71, RX4, 17, 14), (137, RX4, 26, 65),
  (194, RX4, 33, 0), (724, RX4, 47, 16), (736, RX4, 51, 67), (740, RX4, 54, 2), (462, RX4, 57, 40), (463, RX4, 61, 17), (464, RX4, 69, 41), (306, RX4, 73, 15),
  (390, RX4, 76, 66), (402, RX4, 77, 54), (547, RX4, 84, 1), (366, RX4, 94, 76), (662, RX4, 105, 50), (473, RX4, 109, 20), (469, RX4, 112, 52), (406, RX4, 121, 70),
  (411, RX4, 125, 26), (415, RX4, 129, 68), (492, RX4, 138, 57), (496, RX4, 145, 55), (508, RX4, 151, 59), (517, RX4, 158, 19), (521, RX4, 161, 60), (525, RX4, 165, 74),
  (512, RX4, 168, 25), (576, RX4, 178, 3), (577, RX4, 182, 5), (600, RX4, 185, 4), (601, RX4, 188, 6), (711, RX4, 191, 61), (712, RX4, 195, 51), (713, RX4, 202, 43),
  (714, RX4, 206, 62), (715, RX4, 210, 63), (394, RX5, 18, 71), (398, RX5, 38, 68), (410, RX5, 51, 69), (484, RX5, 55, 72), (64, RX6, 9, 38), (261, RX6, 22, 27),
  (302, RX6, 29, 44), (318, RX6, 33, 40), (326, RX6, 41, 18), (337, RX6, 58, 9), (342, RX6, 61, 17), (354, RX6, 71, 22), (362, RX6, 77, 49), (370, RX6, 81, 50),
  (378, RX6, 90, 69), (381, RX6, 93, 24), (386, RX6, 97, 45), (420, RX6, 101, 41), (424, RX6, 105, 71), (425, RX6, 109, 111), (458, RX6, 144, 43), (465, RX6, 148, 53),
  (480, RX6, 151, 73), (488, RX6, 154, 56), (504, RX6, 161, 58), (534, RX6, 165, 75), (543, RX6, 173, 46), (555, RX6, 176, 42), (559, RX6, 180, 61), (567, RX6, 188, 3),
  (572, RX6, 192, 62), (587, RX6, 196, 5), (592, RX6, 200, 4), (596, RX6, 203, 63), (613, RX6, 213, 11), (624, RX6, 217, 23), (628, RX6, 220, 12), (637, RX6, 224, 13),
  (650, RX6, 227, 29), (699, RX6, 231, 28), (707, RX6, 237, 64), (720, RX6, 240, 39), (753, RX6, 250, 47), (757, RX6, 253, 48), (825, RX7, 32, 113), (809, RX7, 36, 117),
  (813, RX7, 40, 119), (821, RX7, 44, 114), (844, RX7, 48, 118), (840, RX7, 51, 125), (864, RX7, 54, 129), (856, RX7, 57, 128), (860, RX7, 60, 131), (876, RX7, 64, 133),
  (872, RX7, 67, 134), (880, RX7, 71, 130), (884, RX7, 75, 138), (887, RX7, 78, 136), (895, RX7, 88, 115), (899, RX7, 91, 140), (934, RX7, 94, 120), (938, RX7, 97, 147),
  (946, RX7, 100, 137), (930, RX7, 104, 148), (942, RX7, 107, 149), (962, RX7, 111, 135), (954, RX7, 114, 151), (958, RX7, 117, 152), (966, RX7, 120, 153), (978, RX7, 123, 156),
  (986, RX7, 126, 116), (998, RX7, 129, 159), (994, RX7, 132, 160), (1002, RX7, 135, 161), (1026, RX7, 148, 167), (1042, RX7, 154, 171), (1046, RX7, 157, 172), (1050, RX7, 160, 173),
  (1062, RX7, 167, 174), (1063, RX7, 170, 158), (1064, RX7, 173, 176), (1068, RX7, 176, 162), (1069, RX7, 179, 164), (56, "WheelStandsLaw", 9, 77), (763, "WheelStandsLaw", 12, 112), (298, "WheelStandsLaw", 13, 78),
  (805, "WheelStandsLaw", 17, 121), (314, "WheelStandsLaw", 18, 79), (817, "WheelStandsLaw", 22, 122), (322, "WheelStandsLaw", 23, 80), (828, "WheelStandsLaw", 27, 123), (333, "WheelStandsLaw", 28, 81), (832, "WheelStandsLaw", 32, 124), (338, "WheelStandsLaw", 33, 82),
  (836, "WheelStandsLaw", 37, 126), (346, "WheelStandsLaw", 38, 83), (848, "WheelStandsLaw", 41, 127), (350, "WheelStandsLaw", 42, 84), (852, "WheelStandsLaw", 45, 132), (374, "WheelStandsLaw", 46, 85), (868, "WheelStandsLaw", 50, 139), (416, "WheelStandsLaw", 51, 86),
  (891, "WheelStandsLaw", 54, 141), (434, "WheelStandsLaw", 55, 87), (906, "WheelStandsLaw", 58, 142), (438, "WheelStandsLaw", 59, 88), (910, "WheelStandsLaw", 63, 143), (442, "WheelStandsLaw", 64, 89), (914, "WheelStandsLaw", 67, 144), (446, "WheelStandsLaw", 68, 90),
  (918, "WheelStandsLaw", 71, 145), (450, "WheelStandsLaw", 72, 91), (922, "WheelStandsLaw", 75, 146), (454, "WheelStandsLaw", 76, 92), (926, "WheelStandsLaw", 79, 150), (500, "WheelStandsLaw", 80, 93), (950, "WheelStandsLaw", 83, 154), (530, "WheelStandsLaw", 84, 94),
  (970, "WheelStandsLaw", 88, 155), (539, "WheelStandsLaw", 89, 95), (974, "WheelStandsLaw", 92, 157), (551, "WheelStandsLaw", 93, 96), (982, "WheelStandsLaw", 96, 158), (563, "WheelStandsLaw", 97, 97), (990, "WheelStandsLaw", 100, 162), (583, "WheelStandsLaw", 101, 98),
  (1006, "WheelStandsLaw", 104, 163), (588, "WheelStandsLaw", 105, 99), (1010, "WheelStandsLaw", 108, 164), (605, "WheelStandsLaw", 109, 100), (1014, "WheelStandsLaw", 112, 165), (609, "WheelStandsLaw", 113, 101), (1018, "WheelStandsLaw", 117, 166), (620, "WheelStandsLaw", 118, 102),
  (1022, "WheelStandsLaw", 121, 168), (633, "WheelStandsLaw", 122, 103), (1030, "WheelStandsLaw", 125, 169), (642, "WheelStandsLaw", 126, 104), (1034, "WheelStandsLaw", 129, 170), (646, "WheelStandsLaw", 130, 105), (1038, "WheelStandsLaw", 133, 174), (695, "WheelStandsLaw", 134, 106),
  (1054, "WheelStandsLaw", 137, 175), (703, "WheelStandsLaw", 138, 107), (1058, "WheelStandsLaw", 141, 177), (716, "WheelStandsLaw", 142, 108), (1070, "WheelStandsLaw", 145, 178), (745, "WheelStandsLaw", 146, 109), (1074, "WheelStandsLaw", 149, 179), (749, "WheelStandsLaw", 150, 110),
  (1078, "WheelStandsLaw", 153, 180)]
def xcl : List (Nat × String × Nat × String) := [
  (75, RX2, 27, RX1), (68, RX4, 11, RX2), (134, RX4, 20, RX5), (191, RX4, 27, RX0), (62, RX6, 7, RX4), (259, RX6, 20, RX3), (54, "WheelStandsLaw", 7, RX6), (761, "WheelStandsLaw", 10, RX7)]
def xcn : List (Nat × String × Nat × Int32 × Nat) := [
  (680, RX3, 57, (1000000 : Int32), 0)]
def xsw : List ((Int × Int × Int × Array Int × Nat) × Nat × List Nat) := [
  ((36, 0, 2, #[27, 30, 33], 27), 68, [62, 64, 66]),
  ((101, 0, 7, #[47, 52, 57, 67, 76, 81, 86, 91], 47), 43, [11, 14, 17, 23, 28, 31, 34, 37]),
  ((95, 0, 7, #[47, 52, 57, 62, 67, 72, 77, 90], 47), 39, [11, 14, 17, 20, 23, 26, 29, 36]),
  ((51, 0, 3, #[31, 36, 41, 46], 31), 25, [13, 16, 19, 22]),
  ((127, 0, 8, #[51, 59, 67, 75, 84, 93, 102, 111, 119], 51), 42, [2, 6, 10, 14, 19, 24, 29, 34, 38]),
  ((127, 0, 7, #[48, 54, 61, 69, 77, 91, 105, 119], 48), 62, [8, 12, 17, 23, 29, 38, 47, 56]),
  ((131, 0, 7, #[45, 45, 45, 52, 68, 45, 97, 114], 45), 65, [13, 13, 13, 18, 28, 13, 45, 55]),
  ((54, 0, 3, #[30, 30, 39, 45], 30), 32, [14, 14, 21, 25]),
  ((142, 0, 8, #[49, 49, 49, 56, 56, 56, 56, 96, 135], 49), 64, [4, 4, 4, 9, 9, 9, 9, 35, 59]),
  ((1183, 0, 32, #[148, 171, 214, 247, 280, 339, 372, 405, 448, 481, 514, 537, 560, 583, 616, 659, 692, 705, 738, 771, 804, 837, 860, 893, 946, 989, 1012, 1045, 1068, 1091, 1114, 1137, 1160], 148), 851, [22, 39, 76, 103, 130, 175, 202, 229, 266, 293, 320, 337, 354, 371, 398, 435, 462, 469, 496, 523, 550, 577, 594, 621, 668, 705, 722, 749, 766, 783, 800, 817, 834])]
def xc0 : List Nat := [
  2361183241434822606850, 2361183241435360276843, 2361183241436970090498, 2361183241437507223553, 2361183241438043832346, 2361183241439654445058, 2361183250236284338240, 2361183241441265057828, 2361183241442340110427, 2361183241443949412405]
def xc1 : List Nat := [
  2361183241434822606850, 2361183241435359739905, 2361183241435896610970, 2361183241437506961410, 2361183241438044356609, 2361183241438581227738, 2361183241440191315970, 2361183241440728186880, 2361183241441265844506, 2361183241442875670530,
  2361183241443412541440, 2361183241443950461274, 2361183241445560025090, 2361183241446096896000, 2361183241446635340186, 2361183241448244379701]
def xc2 : List Nat := [
  2361183241434822606850, 2361183241435359739906, 2361183241435896610968, 2361183241437507223706, 2361183241439117574146, 2361183241439654707202, 2361183241440191840472, 2361183241441802453210, 2361183241443412541442, 2361183241443949674498,
  2361183241444487069976, 2361183241446097682714, 2361183241447707508738, 2361183241448244641794, 2361183241448782299480, 2361183241450392912218, 2361183241452002476034, 2361183241452539609090, 2361183241453077791128, 2361183241454688403866,
  2361183241456297705474, 2361183241456835625049, 2361183241458444926976, 2361183241458981797890, 2361183241459519979609, 2361183241461129281536, 2361183250257759174720, 2361183241462748854830, 2361183241464350507061]
def xc3 : List Nat := [
  2361183241434822606850, 2361183241435360264472, 2361183241436970352642, 2361183241437525311528, 2361183241439117574150, 2361183241439654445058, 2361183241440191578264, 2361183241441805598992, 2361183241443412541442, 2361183241443950985624,
  2361183250241653047360, 2361183241446637437136, 2361183242547756007424, 2361183241448785182737, 2361183241450391863296, 2361183241450928734259]
def xc4 : List Nat := [
  2361183241434822868993, 2361183241435363147919, 2361183241436970352641, 2361183241437506961410, 2361183241438045405592, 2361183241439658115280, 2361183241441265319937, 2361183250237894950976, 2361183241442879340752, 2361183241444486283266,
  2361183241445024464985, 2361183241446634029057, 2361183241447170637852, 2361183241447711440913, 2361183240349806493696, 2361183241449854992434]
def xc5 : List Nat := [
  2361183241434822606850, 2361183241435359739906, 2361183241435897135208, 2361183241437514825743, 2361183241439117574146, 2361183241439655755865, 2361183241441265057794, 2361183241441803501976, 2361183241443412803586, 2361183241443970384344,
  2361183241445560025117, 2361183241446096896002, 2361183241446633766933, 2361183241447172211096, 2361183242548292878336, 2361183241449318121478, 2361183241449856565658, 2361183241451465605122, 2361183241452002476053, 2361183241452540133656,
  2361183241454150221826, 2361183241454705180712, 2361183241456297443334, 2361183241456835100954, 2361183241458445189122, 2361183242558493425664, 2361183240360007041024, 2361183241460055539714, 2361183241460592410648, 2361183241462220849320,
  2361183241463813636149]
def xc6 : List Nat := [
  2361183242534334234624, 2361183241435360002051, 2361183241435896872961, 2361183241436433219586, 2361183241436971663768, 2361183241438585422032, 2361183241440191315970, 2361183241440729497689, 2361183241442339323905, 2361183242542387298304,
  2361183241443412541447, 2361183241443949412354, 2361183241444487594073, 2361183241446097420289, 2361183241446633766940, 2361183241447170637853, 2361183242547219660805, 2361183241449318645777, 2361183241450928734210, 2361183241451465605141,
  2361183241452004049304, 2361183242553124716544, 2361183241454149959687, 2361183241454688403866, 2361183241456297443330, 2361183241456834314261, 2361183241457371971864, 2361183241458982060034, 2361183241459537018920, 2361183241461129281543,
  2361183241461666939162, 2361183241463276765237]
def xc7 : List Nat := [
  2361183241434822606850, 2361183241435360269355, 2361183241436970090498, 2361183267825786028096, 2361183241438580703268, 2361183241439658902043, 2361183241441265057794, 2361183267830080995392, 2361183241442875670564, 2361183241443954131547,
  2361183241445560025141]
def xc8 : List Nat := [
  2361183241434822606849, 2361183241435361312911, 2361183241436970090497, 2361183350289158111296, 2361183241438582538512, 2361183242539702943744, 2361183241440730284049, 2361183241442338799616, 2361183241442875670579]
def xc9 : List Nat := [
  2361183241434822606850, 2361183241435359477760, 2361183241435900543648, 2361183241437506961408, 2361183241438044094467, 2361183241438580965377, 2361183267827396640832, 2361183241440196559056, 2361183241441801928706, 2361183241442343256601,
  2361183241443949674497, 2361183241444486283264, 2361183241445023154205, 2361183241445560025090, 2361183241446101615193, 2361183241447707770881, 2361183241448244379648, 2361183241448781250589, 2361183242548830011397, 2361183241450930044945,
  2361183241452539346997]
def xc10 : List Nat := [
  2361183241434822606850, 2361183241435359739906, 2361183241435900543640, 2361183241437511156384, 2361183241439117836290, 2361183241439658902041, 2361183241441265057792, 2361183241441801928706, 2361183241442343256601, 2361183241443949412352,
  2361183267832765349952, 2361183241445565839342, 2361183241447170899970, 2361183241447712227929, 2361183241449318121472, 2361183241449854992386, 2361183241450396582489, 2361183241452002476032, 2361183267840818413632, 2361183241453618903022,
  2361183241455223701557]
def xc11 : List Nat := [
  2361183241434822868993, 2361183241435362361487, 2361183241436970352641, 2361183267825786028096, 2361183241438583587024, 2361183241440191840257, 2361183241440730284265, 2361183241442341683215, 2361183241443950198785, 2361183241444488380649,
  2361183241446100303951, 2361183241447707508736, 2361183241448244379699, 2361183241448781250562, 2361183242548829749248, 2361183241449859187360, 2361183241451465605122, 2361183241452006933017, 2361183241453613350913, 2361183241454150483969,
  2361183241454686830621, 2361183241455223701506, 2361183241455765291609, 2361183241457371447297, 2361183241457908842497, 2361183241458444927005, 2361183242558493425664, 2361183241459518668851]
def xc12 : List Nat := [
  2361183241434822868993, 2361183241435360526403, 2361183241436433219584, 2361183241436971401283, 2361183240338532204544, 2361183241438582276163, 2361183241439654445056, 2361183241440193151043, 2361183241441266892865, 2361183267830617866304,
  2361183241443428270288, 2361183241445023154178, 2361183241445564482073, 2361183241447172472897, 2361183241448244379676, 2361183241448781250562, 2361183241449322840665, 2361183241450930569281, 2361183241452002476060, 2361183241452547776044,
  2361183241454152056899, 2361183241455223701504, 2361183241455762931779, 2361183241456836673601, 2361183241457910153281, 2361183241458995167440, 2361183241460594769985, 2361183241461666152450, 2361183241462207480345, 2361183241463815471169,
  2361183241464887377948, 2361183241465434210512, 2361183241467035910209, 2361183241468109127681, 2361183241468655173840, 2361183242569768763397, 2361183241471876661265, 2361183242572990251013, 2361183241475090284609, 2361183241476161667074,
  2361183241476703257177, 2361183241478310985793, 2361183241479382892572, 2361183241479932608720, 2361183241481531424833, 2361183241482616701263, 2361183240384704151557, 2361183241485838188561, 2361183242586948894725, 2361183242588560556037,
  2361183241490663211025, 2361183241492269105217, 2361183241493356740943, 2361183241494953721921, 2361183240396514263040, 2361183241496577966160, 2361183241498175209537, 2361183241499248689219, 2361183242599834320901, 2361183241501933568017,
  2361183241503542870017, 2361183241504078954543, 2361183241518575779905, 2361183241519648210994, 2361183241520186654785, 2361183241521258823730, 2361183241521796743233, 2361183241522869436466, 2361183238224871424064, 2361183241524480049202]
def xc13 : List Nat := [
  2361183241434822606848, 2361183241435360002051, 2361183241435896348674, 2361183241436433219584, 2361183241436970352641, 2361183241437506961408, 2361183241438046978344, 2361183241439655231491, 2361183242539702943744, 2361183241440729235523,
  2361183241441802977345, 2361183241442875932673, 2361183241443419881744, 2361183241445023154178, 2361183241445561073729, 2361183241446634029057, 2361183241447170637824, 2361183241447710654760, 2361183241449319432259, 2361183241450393174081,
  2361183241451466391553, 2361183241452009291984, 2361183241453614399553, 2361183241454687617027, 2361183241455224750145, 2361183241456297967619, 2361183242556346990597, 2361183241458447548433, 2361183241460056064001, 2361183241460592410674]
def xc14 : List Nat := [
  2361183241434822606850, 2361183241435360268971, 2361183241436970090498, 2361183241437507223553, 2361183241438052221658, 2361183241439654445058, 2361183254634330849344, 2361183241441265057828, 2361183241442347713307, 2361183241443949412354,
  2361183254638625816640, 2361183241445560025124, 2361183241446642942811, 2361183241448244379650, 2361183250244874272832, 2361183241449854992420, 2361183241450938172315, 2361183241452539346946, 2361183241453076480035, 2361183241454686830613,
  2361183241455225536874, 2361183241456844800987, 2361183241458444927029]
def xc15 : List Nat := [
  2361183241434822606850, 2361183241435359739905, 2361183241435905000474, 2361183241437506961410, 2361183240338532204544, 2361183241438590403674, 2361183241440191315970, 2361183240341216559104, 2361183241441275020442, 2361183241442875670530,
  2361183241443412541440, 2361183241443959637210, 2361183241445560025088, 2361183241446097420291, 2361183241446634291201, 2361183254641310171200, 2361183241448250671312, 2361183241449854992386, 2361183241450400776985, 2361183241452003000321,
  2361183240353027719168, 2361183241453076217885, 2361183242553125240837, 2361183241455227371537, 2361183241456834314240, 2361183241457371709443, 2361183241457908580353, 2361183254652584460352, 2361183241459529679056, 2361183241461129281538,
  2361183241461675328345, 2361183241463277289473, 2361183241463814160385, 2361183241464350507010, 2361183241464895767256, 2361183241466507952208, 2361183241468108603392, 2361183241468655697937, 2361184339882372235392, 2361183241471866699805,
  2361183242571915722757, 2361183241474020999185, 2361183241475624796162, 2361183241476172153817, 2361183241477774639528, 2361183241479382892597]
def xc16 : List Nat := [
  2361183241434822606850, 2361183241435359739906, 2361183241435905000472, 2361183241437515613210, 2361183241439117574146, 2361183241439654707202, 2361183241440201016408, 2361183241441811629146, 2361183241443412541442, 2361183241443949674498,
  2361183241444496245912, 2361183241446106858650, 2361183241447707508738, 2361183241448244641794, 2361183241448791475416, 2361183241450402088154, 2361183241452002738178, 2361183241452548260633, 2361183241454149959680, 2361183241454686830594,
  2361183241455232615193, 2361183241456834314240, 2361183254651510718528, 2361183241458457818670, 2361183241460055801858, 2361183241460601586521, 2361183241462203023360, 2361183241462739894274, 2361183241463285941081, 2361183241464887377920,
  2361183254659563782208, 2361183241466510882350, 2361183241468108865538, 2361183241468654912409, 2361183241470256087040, 2361183241470792957954, 2361183241471339266969, 2361183241472940441600, 2361183250269570334784, 2361183241474563946030,
  2361183241476161667074, 2361183241476709024729, 2361183241478309412866, 2361183241478856508377, 2361183241480459256296, 2361183241482067247157]
def xc17 : List Nat := [
  2361183241434822868993, 2361183241435362361487, 2361183241436970352641, 2361183241437506961410, 2361183241438052484120, 2361183241439657328848, 2361183241441265319937, 2361183254635941462080, 2361183241442878554320, 2361183242543997911040,
  2361183241445026299921, 2361183241446633766912, 2361183241447170637875]
def xc18 : List Nat := [
  2361183241434822606848, 2361183241435359477762, 2361183241435906049112, 2361183241437522449068, 2361183241439118098435, 2361183241439654969345, 2361183250236284338240, 2361183241441267679376, 2361183240343364042752, 2361183241443412541490,
  2361183241443949412354, 2361183241444495721369, 2361183241446097420289, 2361183241446634029057, 2361183241447170637853, 2361183241447707508738, 2361183241448244903937, 2361183242548292878336, 2361183241449318121478, 2361183241449864692826,
  2361183241451465605122, 2361183241452012176472, 2361183241453613088818]
def xc19 : List Nat := [
  2361183241434822868993, 2361183241435363147919, 2361183241436970352641, 2361183241437506961410, 2361183241438053532760, 2361183241439658115280, 2361183241441265319937, 2361183250237894950976, 2361183241442879340752, 2361183241444486283266,
  2361183241445032592281, 2361183241446634029057, 2361183241447170637852, 2361183241447711440913, 2361183240349806493696, 2361183241449854992434]
def xc20 : List Nat := [
  2361183241434822868993, 2361183241435362099343, 2361183241436970352641, 2361183254631646494784, 2361183241438583324880, 2361183241440191315970, 2361183241440737362777, 2361183241442339061761, 2361183241442875670556, 2361183241443415425041,
  2361184339857139302528, 2361183241446633766962]
def xc21 : List Nat := [
  2361183241434822606848, 2361183241435360002051, 2361183241435896348672, 2361183241436434006019, 2361183241436970876929, 2361183241437506961410, 2361183241438052484120, 2361183241439658901712, 2361183241441265057794, 2361183241441810842393,
  2361183241443413327873, 2361183241443949412380, 2361183241444486545409, 2361183241445027086416, 2361183242546145918981, 2361183242547756793861, 2361183241449856040977, 2361183241451466129409, 2361183241452002476082]
def xc22 : List Nat := [
  2361183241434822606850, 2361183240335847849984, 2361183241435901854248, 2361183241437506961458]
def xc23 : List Nat := [
  2361183241434822606850, 2361183241435368129560, 2361183241436970090498, 2361183239238483705920, 2361183241438586208808, 2361183241440191315975, 2361183241440728186930]
def xc24 : List Nat := [
  2361183241434822606850, 2361183241435359739905, 2361183241435900805736, 2361183241437510107151, 2361183241439117574146, 2361183241439654707201, 2361183241440191840257, 2361183241440728186886, 2361183242540776685568, 2361183241441801928711,
  2361183241442343256680, 2361183241443953082447, 2361183241445560025088, 2361183241446096896051, 2361183241446633766914, 2361183241447179551513, 2361183241448781512705, 2361183241449318121500, 2361183240350343364608, 2361183241450400251984,
  2361183241452002476034, 2361183241452548260633, 2361183241454150221825, 2361183241454687354881, 2361183241455223701510, 2361183242555272200192, 2361183241456297443335, 2361183241456834314268, 2361183240357859557376, 2361183241457916444752,
  2361183242559030296576, 2361183241460064190481, 2361183241461666152448, 2361183241462203023411]
def xc25 : List Nat := [
  2361183241434822606848, 2361183241435360002051, 2361183241435896872961, 2361183241436433219586, 2361183241436978742296, 2361183241438584635600, 2361183241440191315970, 2361183241440728711169, 2361183241441265319937, 2361183241441808220840,
  2361183241443415949327, 2361183241445023678465, 2361183241445560025138, 2361183242545609048069, 2361183241447708033041, 2361183240349806493696, 2361183241449854992434]
def xc26 : List Nat := [
  2361183241434822606848, 2361183241435360526403, 2361183241436434268225, 2361183241437507485697, 2361183241438049075408, 2361183241439654445058, 2361183241440191578113, 2361183241440729235521, 2361183241441801928710, 2361183241442343256680,
  2361183241443954130959, 2361183241445560025090, 2361183241446105809689, 2361183241447707770881, 2361183241448245428289, 2361183241449318121478, 2361183241449855778817, 2361183241450391863325, 2361183242550441410565, 2361183241452539871249,
  2361183241454149959733]
def xc27 : List Nat := [
  2361183241434822606850, 2361183241435360805419, 2361183241436970090498, 2361183249134088355904, 2361183241438580703268, 2361183241439667029275, 2361183241441265057794, 2361183249138383323200, 2361183241442875670564, 2361183241443962520923,
  2361183241445560025090, 2361183249142678290496, 2361183241447170637860, 2361183241448257750427, 2361183241449854992386, 2361183382187880218752, 2361183241452002476068, 2361183241453090112987, 2361183241454686830594, 2361184226617642188928,
  2361183241456834314276, 2361183241457922213403, 2361183241459518668853]
def xc28 : List Nat := [
  2361183241434822868993, 2361183241435363147919, 2361183241436970352641, 2361183241437506961410, 2361183241438056679000, 2361183241439658115280, 2361183241441265319937, 2361183249138383323200, 2361183241442879340752, 2361183241444486283266,
  2361183241445035738393, 2361183241446634029057, 2361183241447170637852, 2361183241447711440913, 2361183240349806493696, 2361183241449854992434]
def xc29 : List Nat := [
  2361183241434823131138, 2361183241435361837074, 2361183241436970614786, 2361183241437508535960, 2361183241439119933711, 2361183241440728186882, 2361183241441265319938, 2361183241441809793768, 2361183241443415425103, 2361183240345511526400,
  2361183241445560025138, 2361183241446096896002, 2361183241446642156328, 2361183241448244379650, 2361183241448781512706, 2361183241449318645762, 2361183241449855256280, 2361183241451474256744, 2361183241453076217858, 2361183241453613350914,
  2361183241454150483970, 2361183241454687356696, 2361183241456297443328, 2361183241456843228072, 2361183241458445713411, 2361183241458982584321, 2362282753087309611200, 2361183241460600275088, 2361183240362691395584, 2361183241462739894322,
  2361183241463276765186, 2361183241463813898242, 2361183241464351031298, 2361183241464887904024, 2361183241466507428840, 2361183241468109389825, 2361183241468645474354]
def xc30 : List Nat := [
  2361183241434822606850, 2361183241435359477760, 2361183241435909982042, 2361183241437506961408, 2361183241438044356611, 2361183241438581227521, 2361183241439117836290, 2361183241439671486360, 2361183241441278427344, 2361183241442875932674,
  2361183241443429320665, 2361183241445023678465, 2361183241445560025118, 2361183241446097682436, 2361183241446634029058, 2361183241447171424258, 2361183241447720879144, 2361183241449319170115, 2361183241450392911937, 2361183241451478450191,
  2361183241453076217858, 2361183241453626722136, 2361183249151805096000, 2361183241456305045712, 2361183241457908842498, 2361183241458450695272, 2361183241460056588353, 2361183241461129281546, 2361183241461674279120, 2361183241463276765184,
  2361183241463813636147, 2361183241464350507010, 2361183241464900486489, 2361183241466497990658, 2361183241467048494936, 2361183241468645998593, 2361183241469182345245, 2361183241469719216130, 2361183241470269457817, 2361183241471866699778,
  2361183241472417204056, 2361183241474015232065, 2361183241475087925277, 2361183241475624796162, 2361183241476161667093, 2361183241476712171352, 2361183242577820778496, 2361183241478846021638, 2361183241479396525914, 2361183242580505657349,
  2361183241482605428753, 2361183242583726358528, 2361183241484751601715]
def xc31 : List Nat := [
  2361183242534334234624, 2361183241435359477762, 2361183241435909982040, 2361183241437506961421, 2361183242537555460096, 2361183241438580703239, 2361183241439117574194]
def xc32 : List Nat := [
  2361183241434822606848, 2361183241435359739907, 2361183241435896610817, 2361183241436433219586, 2361183241436978218152, 2361183241438590927120, 2361183241440191315970, 2361183241440742082009, 2361183241442339061761, 2361183241442875670528,
  2361183241443412541469, 2361183241443949412352, 2361183241444486807555, 2361183241445023678465, 2361183241445560025090, 2361183241446110529368, 2361183241447717208272, 2361183241449318383617, 2361183241449855516673, 2361183241450391863310,
  2361183242550440361984, 2361183241451465605131, 2361183242551514103808, 2361183241452548522064, 2361183241454149959682, 2361183241454700725721, 2361183241456297705473, 2361183241456834314263, 2361183241457371185180, 2361183241457908056066,
  2361183241458458297753, 2361183241460056064001, 2361183241460592410652, 2361183241461129281542, 2361183241461666152477, 2361183242561715175429, 2361183241463817043985, 2361183242564936138757, 2361183241467035385873, 2361183241468645474357]
def xc33 : List Nat := [
  2361183241434822606850, 2361183241435367605416, 2361183241436970876931, 2361183241437507747841, 2361183241438058774863, 2361183241439654445058, 2361183241440205211097, 2361183241441802715137, 2361183241442338799644, 2361183241442880389263,
  2361183241444486283266, 2361183241445037049305, 2361183241446634553345, 2361183241447170637852, 2361183241447708033025, 2361183241448249098512, 2361183242549366620160, 2361183241450396844049, 2361183241452002476032, 2361183241452540395587,
  2361183241453613088768, 2361183241454151270467, 2361183241455225012289, 2361183241456297443330, 2361183241456847947608, 2361183241458459345104, 2361183241460056326145, 2361183241460593721409, 2361183241461666152462, 2361183242561714651136,
  2361183241462739894283, 2361183242562788392960, 2361183241463827529808, 2361183241465424248834, 2361183241465975277081, 2361183241467572518913, 2361183249164689997888, 2361183241469182345224, 2361183241469720526913, 2361183241470792957958,
  2361183241471330877505, 2361183241472416940047, 2361183241474014183426, 2361183241474551316482, 2361183241475087925250, 2361183241475637904729, 2361183241477236719681, 2361183241478309150748, 2361183241478846808065, 2361183241479391806376,
  2361183241481007136785, 2362282753110395060416, 2361183241483677859869, 2361183242583727669253, 2361183241485831110673, 2361183240387925114885, 2361183241489047355409, 2361183241490657181749]
def xc34 : List Nat := [
  2361183241434823393281, 2361183241435359477762, 2361183241435904476328, 2361183241437510369360, 2361183241439117574146, 2361183241439668340185, 2361183241441265844225, 2361183241441801928732, 2361183241442341683279, 2361183241443949412352,
  2361183241444489429009, 2362282753073887838400, 2361183241447170637874, 2362282753075498451136, 2361183241448782299203, 2361183241449854992384, 2361183241450393174083, 2361183241451466915905, 2361183241452539346946, 2361183241453089851224,
  2361183241454696792272, 2361183241456298229761, 2361183241456835625025, 2361183241457908056078, 2361183242557956554752, 2361183241458981797899, 2361183241459528106063, 2361183241461130330177, 2361183241462203023362, 2361183241462740156418,
  2361183241463277289473, 2361183241463814422529, 2361183241464351817793, 2361183241465433425128, 2361183241467057712045, 2361183241468646522947, 2361183242569232154629, 2361183241471334285329, 2361183241472941490241, 2361183241474014183474]
def xc35 : List Nat := [
  2361183241434822868994, 2361183241435360002049, 2361183241435896348674, 2361183241436446328153, 2361183241438044880961, 2361183241439117574172, 2361183241439668077864, 2361183241441265057794, 2361183241441816086041, 2361183241443413327873,
  2361183242543461040128, 2361183241444487331905, 2361183241445560025101, 2361183241446096896012, 2361183249143215161408, 2361183241447707508744, 2361183241448245428289, 2361183241449318121478, 2361183241449854992412, 2361183241450391863302,
  2361183241450928734258]
def xc36 : List Nat := [
  2361183241434822606848, 2361183241435360264195, 2361183241435896872961, 2361183241436434268227, 2361183241437506961408, 2361183241438045143107, 2361183241439118884929, 2361183241440191315970, 2361183241440741820248, 2361183241442353217744,
  2361183241443949412354, 2361183241444486545410, 2361183241445024202817, 2361183241446097682433, 2361183241446642680744, 2361183241448245952579, 2361183241449318121472, 2361183241449856827459, 2361183241450930569281, 2361183241452002476034,
  2361183241452552980312, 2361183242553661587456, 2361183241454686830599, 2361183241455232614608, 2361183241456834314242, 2361183241457371447298, 2361183241457909104705, 2361183241458982584321, 2361183241459520503873, 2361183241460593983553,
  2361183241461675853160, 2361183241463285678159, 2361183242564400840709, 2361183241466502709265, 2361183241468108603394, 2361183241468658058521, 2361183241470257397825, 2361183241471329828866, 2361183241471879808345, 2361183241473479147585,
  2361183241474551054364, 2361183241475087925277, 2361183241475625582593, 2361183242575673294848, 2361183241476700373057, 2361183241477772279821, 2361183241478309150732, 2361183241478846808067, 2361183241479382892546, 2361183241479932872025,
  2361183241481532211265, 2361183241482604118044, 2361183241483142037571, 2361183242583727669253, 2361183241485826916369, 2361183241487435956226, 2361183241487972827138, 2361183241488523331416, 2361183241490133157466, 2361183241491730923573]
def xc37 : List Nat := [
  2361183241434823393281, 2361183241435360526401, 2361183241436433219598, 2361183242536481718272, 2361183241437506961419, 2361183241438048026703, 2361183241439654445058, 2361183241440191578114, 2361183241440728711169, 2361183241441265844225,
  2361183241441802977345, 2361183241442884846824, 2361183241444487594049, 2361183241445564219472, 2361183242546682265600, 2361183241447711965201, 2361183241449318121472, 2361183241449854992435]
def xc38 : List Nat := [
  2361183241434822606850, 2361183241435360268523, 2361183241436970090498, 2361183254631646494784, 2361183241438583586918, 2361183241440208095259, 2361183241441801928704, 2361183241442339061763, 2361183241442875932673, 2361183254637552074816,
  2361183241444491788496, 2361183241446096896002, 2361183241446650546201, 2361183241448244641793, 2361183241448781774947, 2361183241450391863317, 2361183241450928996353, 2361183241451469276586, 2361183241453076217887, 2361183242553124978693,
  2361183241455225798673, 2361183241456834314242, 2361183307428068851776, 2361183241458448335014, 2361183241460072843355, 2361183241461666152448, 2361183241462203285507, 2361183241462740156417, 2361183307433974431808, 2361183241464360992976,
  2361183241465961119746, 2361183241466515294297, 2361183241468108865537, 2361183241468646785187, 2361183241470256087061, 2361183241470793220097, 2361183241471346869738, 2361183241472940441631, 2361183242572989202437, 2361183241475095003153,
  2361183241476698537986, 2361183244775770292224, 2361183241477774901478, 2361183241479400720539, 2361183241480993505280, 2361183241481530638339, 2361183241482067509249, 2361183244781139001344, 2361183241483156455632, 2361183241484751601666,
  2361183241485306300569, 2361183241486899347457, 2361183241487435956451, 2361183241489046568981, 2361183241489583702017, 2361183241490120312362, 2361183241491730923551, 2361183242591779684357, 2361183241493890465809, 2361183241495489019957]
def xc39 : List Nat := [
  2361183241434822606850, 2361183241435359739906, 2361183241435913390296, 2361183241437524003034, 2361183241439117574146, 2361183241439654707202, 2361183241440208881944, 2361183241441819494682, 2361183241443412541442, 2361183241443949674498,
  2361183241444504373592, 2361183241446114986330, 2361183241447707508738, 2361183241448244641794, 2361183241448799603096, 2361183241450410215834, 2361183241452002476032, 2361183241452539871235, 2361183241453076742145, 2361183254647752622144,
  2361183241454695219408, 2361183241456297443330, 2361183241456851093529, 2361183241458445451265, 2361183241458981797918, 2361183241459518930946, 2361183241460072319001, 2361183241461666676737, 2361183241462203023390, 2361183241462744090216,
  2361183242563862659077, 2361183241465965838353, 2361183241467571732480, 2361183241468109127683, 2361183241468645998593, 2361183307439880011840, 2361183241470268670160, 2361183241471866699778, 2361183241472420874329, 2361183241474014707713,
  2361183241474551054366, 2361183241475088187394, 2361183241475642099801, 2361183241477235933185, 2361183241477772279838, 2361183241478326716072, 2361183242579431915525, 2361183241481539289105, 2361183241483140988928, 2361183241483678384131,
  2361183241484215255041, 2361183244783286484992, 2361183241485305250000, 2361183241486899085314, 2361183241487453784217, 2361183241489047093249, 2361183241489583439902, 2361183241490120572930, 2361183241490675009689, 2361183241492268318721,
  2361183241492804665374, 2361183241493342062312, 2361183242594464301061, 2361183241496575868945, 2361183241498173374517]
def xc40 : List Nat := [
  2361183241434822868993, 2361183241435363147919, 2361183241436970352641, 2361183241437506961410, 2361183241438060873944, 2361183241439658115280, 2361183241441265319937, 2361183254635941462080, 2361183241442879340752, 2361183241444486283266,
  2361183241445039933465, 2361183241446634029057, 2361183241447170637854, 2361183241447711440913, 2361183241449318121492, 2361183241449854992436]
def xc41 : List Nat := [
  2361183241434822868993, 2361183241435363147919, 2361183241436970352641, 2361183241437506961410, 2361183241438061398296, 2361183241439658115280, 2361183241441265319937, 2361183307412499595328, 2361183241442879340752, 2361183241444486283266,
  2361183241445040457817, 2361183241446634029057, 2361183241447170637854, 2361183241447711440913, 2361183241449318121492, 2361183241449854992436]
def xc42 : List Nat := [
  2361183241434822868993, 2361183241435363147919, 2361183241436970352641, 2361183241437506961410, 2361183241438061922648, 2361183241439658115280, 2361183241441265319937, 2361183244740336812032, 2361183241442342469840, 2361183241443949412354,
  2361183241444504111257, 2361183241446097158145, 2361183241446633766942, 2361183241447174570001, 2361183241448781250580, 2361183241449318121524]
def xc43 : List Nat := [
  2361183241434822606850, 2361183241435359739905, 2361183241435906836264, 2361183241437507747844, 2361183241438044618754, 2361183241438583324690, 2361183241440192102402, 2361183241440728711169, 2361183241441269516136, 2361183241442878816335,
  2361183241444486283284, 2361183241445027872785, 2361183241446633766914, 2361183241447171424258, 2361183241447716424153, 2361183241449318645761, 2361183241449854992412, 2361183241450402613160, 2361183241452002476084]
def xc44 : List Nat := [
  2361183241434822606850, 2361183241435376519384, 2361183254631109623872, 2361183241438045405328, 2361183240340142817280, 2361183241440191316018, 2361183241440728186882, 2361183241441281837081, 2361183241442875670530, 2361183241443429583064,
  2361183241445023154206, 2361183241445560287233, 2361183241446100830184, 2361183241447707508738, 2361183241448244379669, 2361183241448798292184, 2361183242549903491072, 2361183241450928734214, 2361183241451482646746, 2361183241453076217858,
  2361183241453630130392, 2361183242554735329280, 2361183241455760572423, 2361183241456297443378]
def xc45 : List Nat := [
  2361183241434822606850, 2361183241435377043736, 2361183307407667757120, 2361183241438045405328, 2361183240340142817280, 2361183241440191316018, 2361183241440728186882, 2361183241441282361433, 2361183241442875670530, 2361183241443430107416,
  2361183241445023154206, 2361183241445561073732, 2361183241446634815554, 2361183241447707770881, 2361183241448261683240, 2361183241449854992386, 2361183241450392911938, 2361183241451466129410, 2361183241452003262465, 2361183241452553504872,
  2361183241454149959682, 2361183241454686830613, 2361183241455241267480, 2361183242556345942016, 2361183241457371185158, 2361183241457925622042, 2361183241459519717442, 2361183241460613384728, 2361183241462203023410]
def xc46 : List Nat := [
  2361183241434822606850, 2361183241435377568088, 2361183244735504973824, 2361183241437508534416, 2361183240339605946368, 2361183241439654445106, 2361183241440191315970, 2361183241440746014873, 2361183241442338799618, 2361183241442893760856,
  2361183241444486283294, 2361183241445023416321, 2361183241445560549377, 2361183241446097160360, 2361183241447707508738, 2361183241448244379669, 2361183241448799340888, 2361183242549903491072, 2361183241450928734214, 2361183241451483695450,
  2361183241453076217858, 2361183241453631179096, 2361183242554735329280, 2361183241455760572423, 2361183241456297443378]
def xc47 : List Nat := [
  2361183241434822606848, 2361183241435360002051, 2361183241435896348672, 2361183241436434006019, 2361183241436970876929, 2361183241437506961410, 2361183241438061398296, 2361183241439659163856, 2361183241441265057794, 2361183241441819232345,
  2361183241443413327873, 2361183241443949412382, 2361183241444508043864, 2361183241446097158145, 2361183241446637961296, 2361183242547756531717, 2361183242549367406597, 2361183241451466653713, 2361183241453076742145, 2361183241453613088818]
def xc48 : List Nat := [
  2361183241434822606848, 2361183241435359739907, 2361183241435896348672, 2361183241436433743875, 2361183241436970614785, 2361183241437506961410, 2361183241438061398296, 2361183241439658901712, 2361183241441265057794, 2361183241441819232345,
  2361183241443413065729, 2361183241443949412382, 2361183241444509354648, 2361183241446100828175, 2361183242547219398661, 2361183242548830273541, 2361183241450929782801, 2361183241452539609089, 2361183241453076217906]
def xc49 : List Nat := [
  2361183241434822606848, 2361183241435360264195, 2361183241435896348672, 2361183241436434268227, 2361183241437508010049, 2361183241438580703234, 2361183241439135140120, 2361183241440733167824, 2361183241442338799618, 2361183241442892974169,
  2361183241444487331905, 2361183241445560025118, 2361183241446097158145, 2361183241446634291201, 2361183241447190563048, 2361183241448785707023, 2361183242549904277509, 2361183242551515152389, 2361183241453614137361, 2361183241455224487937,
  2361183241455760572466]
def xc50 : List Nat := [
  2361183241434822606848, 2361183241435360002051, 2361183241435896348672, 2361183241436434006019, 2361183241436970876929, 2361183241437506961410, 2361183241438061398296, 2361183241439661261008, 2361183241441265057794, 2361183241441819232345,
  2361183241443413327873, 2361183241443949412382, 2361183241444486545409, 2361183241445023154176, 2361183241445579950312, 2361183241447176929295, 2361183241448781250562, 2361183241449335425113, 2361183241450929520641, 2361183241451465605150,
  2361183241452023712472, 2361183243652636344320, 2361183241454156251152, 2361183242555272724485, 2361183242556883599365, 2361183241458982846481, 2361183241460592934913, 2361183241461129281586]
def xc51 : List Nat := [
  2361183241434822868994, 2361183241435369442072, 2361183240337458462720, 2361183241437508534352, 2361183241439117574144, 2361183241439657852945, 2361183241441265057794, 2361183241441802190850, 2361183241442347191128, 2361183241443962521896,
  2361183241445560287234, 2361183241446106860312, 2361183241447707508743, 2361183241448244379698]
def xc52 : List Nat := [
  2361183241434822606850, 2361183241435359739905, 2361183241435906836264, 2361183241437507747844, 2361183241438044618754, 2361183241438582800403, 2361184339852307464320, 2361183241441804812305, 2361183241443413327874, 2361183241443949936641,
  2361183241444491528552, 2361183241446096896050]
def xc53 : List Nat := [
  2361184340946450382976, 2361183241436433743875, 2361183241436970090496, 2361183241437507747843, 2361183241438044618753, 2361183241438580703234, 2361183241439134615768, 2361183241440733429968, 2361183241442339586049, 2361183241442875932673,
  2361183241443417260048, 2361183241445023678465, 2361183241445560025090, 2361183241446097158145, 2361183241446634553345, 2361183241447184271784, 2361183241448811689837, 2361183241450392387587, 2361183242550441148421, 2361183241452540395537,
  2361183241454150483969, 2361184339866802978944, 2361183241456303997264, 2361183241457908056064, 2361183241458451742737, 2361183241460056064001, 2361183241460592410674]
def xc54 : List Nat := [
  2361183241434823131138, 2361183241435360264193, 2361183241435896610818, 2361183241436451572200, 2361183241438044094466, 2361183241438601677336, 2361183241440198134312, 2361183241441802190850, 2361183241442338799616, 2361183241442876194818,
  2361183241443420932952, 2361183241445023940609, 2361183241445577853544, 2361183241447170637877]
def xc55 : List Nat := [
  2361183241434822606850, 2361183241435359739906, 2361183241435918371736, 2361183241437517449000, 2361183241439118098436, 2361183241439654969346, 2361183241440195772434, 2361183241441802190850, 2361183241442360560216, 2361183241443953868879,
  2361183241445560549378, 2361183241446097158146, 2361183241446656052184, 2361183241448244641794, 2361183241448799603176, 2361183240350880235520, 2361183241450935552552, 2361183241452539346997]
def xc56 : List Nat := [
  2361183241434822868994, 2361183241435381500824, 2361183241436970876931, 2361183241437506961410, 2361183241438044094466, 2361183241438581227522, 2361183241439132519080, 2361183241440728711170, 2361183241441268465682, 2361183241442875670530,
  2361183241443413065730, 2361183241443949674498, 2361183241444501228200, 2361183241446096896000, 2361183241446634815555, 2361183241447708557377, 2361183241448781250562, 2361183241449335687448, 2361183241450938695888, 2361183241452539346946,
  2361183241453093521497, 2361183241454687879233, 2361183241455760572446, 2361183241456298229761, 2361183241456834314240, 2361183241457391110376, 2361183241458991235087, 2361183241460592410626, 2361183241461146585177, 2361183241462740942913,
  2361183241463813636126, 2361183241464350507029, 2361183241464909925400, 2361183242566009618432, 2361183241467034861574, 2361183241467594279962, 2361183242568695021573, 2361183241470796890129, 2361183241472403570741]
def xc57 : List Nat := [
  2361183241434822606850, 2361183241435359739906, 2361183241435910769384, 2361183241437507223554, 2361183243637067087872, 2361183241438580965378, 2361183241439139597208, 2361183240341216559104, 2361183241441282886248, 2361183241442875932674,
  2361183241443413065730, 2361183241443953082387, 2361183240346048397312, 2361183241446101090321, 2361183241447708033026, 2361183241448265353752, 2361183241449878326362, 2361183241451465867266, 2361183241452002476032, 2361183241452561894426,
  2361183241454149959733]
def xc58 : List Nat := [
  2361183241434822606850, 2361183241435359739906, 2361183241435919682648, 2361183241437517711272, 2361183241439118360580, 2361183241439654969346, 2361183241440192364612, 2361183241441265057794, 2361183241441802190850, 2361183241442360822680,
  2361183241443949936642, 2361183241444494674776, 2361183241446110529960, 2361183241447708819523, 2361183241448781250562, 2361183241449318383618, 2361183241449855778818, 2361183241450392387586, 2361183241450944203560, 2361183241452540919875,
  2361183241453613088768, 2361183241454151794755, 2361183241455225536577, 2361183241456297967618, 2361183241456844016792, 2361183241458459345104, 2361183241460057112641, 2361183241461143699535, 2361183241462739894274, 2361183241463277289474,
  2361183241463815471169, 2361183241464892361576, 2361183241466508478248, 2361183241468110700612, 2361183241469184442434, 2361183241470269980690, 2361183241471868010561, 2361183241472940441602, 2361183241473478361154, 2361183241474559445848,
  2361183241476163764290, 2361183241477243800408, 2361183241478859655592, 2361183241480456634374, 2361183241480994816067, 2361183241482069344322, 2361183241483142037572, 2361183241484214730754, 2361183241484751863810, 2361183241485289259010,
  2361183241485826392130, 2361183241486914554664, 2361183241488511270979, 2361183242589096902661, 2361183241491199819793, 2361183241492806238273, 2361183241493894922319, 2361183241495489019906, 2361183241496026152962, 2361183241496563548162,
  2361183241497100681282, 2361183241498181765976, 2361183241499799718824, 2361183241501394862082, 2361183241501932781633, 2361183241503024614376, 2361183241504616087554, 2361183240405641068544, 2361183241505712901210, 2361183241507300966402,
  2361183241507856449554, 2361183241509448450050, 2361183240410472906752, 2361183241510544739418, 2361183241512132018229]
def xc59 : List Nat := [
  2361183241434823393282, 2361183241435359739906, 2361183241435914701288, 2361183241437513518120, 2361183241439118622787, 2361183241440192364609, 2361183240341753430016, 2361183241441806123088, 2361183241443413327874, 2361183241443949412373,
  2361183241444496510168, 2361183242545608523776, 2361183241446633766918, 2361183241447180864730, 2361183241448781250560, 2361183241449318121523, 2361183241449855516674, 2361183241450405494802, 2361183241452003262466, 2361183241452540395585,
  2361183241453613350914, 2361183241454168312296, 2361183241455760834562, 2361183241456318417432, 2361183241457914874408, 2361183241459519455234, 2361183241460056064002, 2361183241460610763240, 2361183241462209580072, 2361183241463814946883,
  2361183241464888688705, 2361183240366449491968, 2361183241466510311504, 2361183241468109389826, 2361183241468646522945, 2361183241469719478274, 2361183241470274439656, 2361183240372355072000, 2361183241472410389032, 2361183241474014969858,
  2361183241474551054357, 2361183241475098152152, 2361183242576210165760, 2361183241477235408902, 2361183241477782506714, 2361183241479382892544, 2361183241479919763507, 2361183241480456634370, 2361183241480994029570, 2361183241481531162626,
  2361183241482068557889, 2361183241483155146856, 2361183241484751601666, 2361183241485288734722, 2361183241485826129922, 2361183241486363263041, 2361183241487450114152, 2361183242588558196736, 2361183241489583439923]
def xc60 : List Nat := [
  2361183241434822868994, 2361183244733894361088, 2361183241435897135105, 2361183240336921591808, 2361183241436987918952, 2361183241438581227522, 2361183241439120719890, 2361183241440728711170, 2361183244739799941120, 2361183241441802715137,
  2361183240342827171840, 2361183241442893498984, 2361183241444486283317]
def xc61 : List Nat := [
  2361183241434822868994, 2361183241435359477781, 2361183241435897400600, 2361183241437506961410, 2361183241438044094466, 2361183241438581230936, 2361183241440191840257, 2361183241440741820840, 2361183241442338799622, 2361183241442876722458,
  2361183241444486545410, 2361183241445023678465, 2361183241445560552794, 2361183241447170637877]
def xc62 : List Nat := [
  2361183241434822868994, 2361183241435360002050, 2361183241435897138280, 2361183241437509582863, 2361183241439117574146, 2361183241439654969346, 2361183241440205736680, 2361183241441802190850, 2361183241442339323906, 2361183241442876984488,
  2361183241444486283317]
def xc63 : List Nat := [
  2361183241434822606850, 2361183241435359739906, 2361183241435896876376, 2361183241437517449000, 2361183241439118360580, 2361183241439655231490, 2361183241440193675283, 2361183240342290300928, 2361183241442342207505, 2361183241443950198786,
  2361183241444486807554, 2361183241445041506792, 2361183241446640323624, 2361183241448245428291, 2361183241449318907906, 2361183241449861546002, 2361183241451466653761, 2361183240353027719168, 2361183241453082771472, 2361183241454687092738,
  2361183241455223701504, 2361183241455761624296, 2361183241457371709442, 2361183241457929030168, 2361183241459525746704, 2361183241461129281536, 2361183241461666152499, 2361183241462203285506, 2361183241462740418562, 2361183241463278341416,
  2361183241464887377922, 2361183241465424773122, 2361183241465961906178, 2361183241466499039297, 2361183241467585890408, 2361183242568693972992, 2361183241469719216179]
def xc64 : List Nat := [
  2361183241434822606850, 2361183241435360002049, 2361183241435906836264, 2361183241437507747844, 2361183241438044618754, 2361183241438582538259, 2361183241440191316021, 2361183241440728186882, 2361183241441265319938, 2361183241441802452993,
  2361183241442354793832, 2361183241443949412354, 2361183241444487069698, 2361183241445036527016, 2361183241446634815555, 2361183241447707508736, 2361183241448245690435, 2361183241449319432257, 2361183241450392649730, 2361183241450937388440,
  2361183241452550095056, 2361183241454151008321, 2361183241455234449743, 2361183241456834314242, 2361183241457371709441, 2361183241457909366849, 2361183241458993073640, 2361183241460593983556, 2361183241461667725378, 2361183241462750117906,
  2361183241464352079938, 2361183241465445485272, 2361183243666058117120, 2361183241467581956112, 2361183241469182345218, 2361183241469719478274, 2361183241470257659970, 2361183241471346085416, 2361183240373429862405, 2361183242574063992837,
  2361183241476166123537, 2361183241477773328449, 2361183241478846021642, 2361183241479384203331, 2361183241480457945153, 2361183241481546367311, 2361183241483140988930, 2361183241483678121986, 2361183241484214730752, 2361183241484752653544,
  2361183241486372964264, 2361183241487974400068, 2361183241489048141890, 2361183241490135777298, 2361183241491730923522, 2361183241492268056578, 2361183241492806238274, 2361183241493894925928, 2361183241495489019926, 2361183240396515573765,
  2361183241497648037905, 2361183241499247116341]
def xc65 : List Nat := [
  2361183241434822606850, 2361183241435360273195, 2361183241436970090498, 2361183241437507223553, 2361183241438064807386, 2361183241439654445109]
def xc66 : List Nat := [
  2361183241434822606850, 2361183241435359739905, 2361183241435917585946, 2361183241437506961410, 2361183241438043832322, 2361183241438599319208, 2361183241440193675279, 2361184340953429704832, 2361183241443415162897, 2361183241445023154176,
  2361183241445581524570, 2361183241447170637826, 2361183241447707508736, 2361183241448266927770, 2361183241449854992386, 2361183241450391863296, 2361183241450951544544, 2361183241452539346946, 2361183241453076217856, 2361183241453636161312,
  2361183241455223701506, 2361183240356248944640, 2361183241456320778074, 2361183241457908056066, 2361183244756979810304, 2361183240359470170112, 2361183240360007041024, 2361183241460073369320, 2361183241461666152501]
def xc67 : List Nat := [
  2361183241434822606850, 2361183241435359739906, 2361183241435917585944, 2361183241437528198682, 2361183241439117574146, 2361183241439654707202, 2361183241440212815448, 2361183241441823428186, 2361183241443412541442, 2361183241443949674498,
  2361183241444508045208, 2361183241446118657946, 2361183241447707508738, 2361183241448244641794, 2361183241448803274712, 2361183241450413887450, 2361183241452002476034, 2361183241452539609090, 2361183241453098504216, 2361183241454709116954,
  2361183241456297443330, 2361183241456834576386, 2361183241457393733272, 2361183241459004346010, 2361183241460592410626, 2361183241461129543682, 2361183241461688962776, 2361183241463299575520, 2361183241464887377922, 2361183241465424510978,
  2361183241465984192280, 2361183241467594805024, 2361183241469182345218, 2361183241469719478274, 2361183241470279421784, 2361183241471890034522, 2361183241473477312565]
def xc68 : List Nat := [
  2361183241434822606850, 2361183241435359739905, 2361183241435918110618, 2361183241437506961410, 2361183241438044356609, 2361183241438602727386, 2361183241440191315970, 2361183241440728973313, 2361183241441287344154, 2361183241442875670581]
def xc69 : List Nat := [
  2361183241434822606849, 2361183243634382733312, 2361183241435897659472, 2361183243636530216960, 2361183241438045405201, 2361183242539166072832, 2361183241440191316018]
def xc70 : List Nat := [
  2361183241434822606850, 2361183241435380715032, 2361183241436988182313, 2361183241438580703282]
def xc71 : List Nat := [
  2361183241434822606850, 2361183241435380715032, 2361183242536481718272, 2361183241437509058576, 2361183241439117574146, 2361183241439675682328, 2361183243640288313344, 2361183241441804550224, 2361183242542924169216, 2361183241443952295953,
  2361183241445560025088, 2361183241446096896051]
def xc72 : List Nat := [
  2361183241434822606850, 2361183241435378093736, 2361183241436971401295, 2361183241438580703232, 2361183241439117574194, 2361183241439654445058, 2361183241440212553240, 2361183243640825184256, 2361183241442342207568, 2361183244742484295680,
  2361183241444486545409, 2361183241445023154184, 2361183241445564219409, 2361183243646193893376, 2361183241447707770881, 2361183241448244379656, 2361183241448781250610]
def xc73 : List Nat := [
  2361183241434822606850, 2361183241435380977240, 2361183241436970090498, 2361183241437507223553, 2361183241438062710632, 2361183241439656542352, 2361183242540776685568, 2361183241441804288017, 2361183241443412541440, 2361183241443949412403]
def xc74 : List Nat := [
  2361183241434822606850, 2361183241435359477760, 2361183241435896348674, 2361183241436454719064, 2361183241438043832322, 2361183241438580965377, 2361183241439136452456, 2361183241440728186887, 2361183241441280296044, 2361183241442897170010,
  2361183241444486283317]
def xc75 : List Nat := [
  2361183241434822606850, 2361183241435378093736, 2361183241436974546959, 2361183241438580703234, 2361184340950745350272, 2361183241440728186882, 2361183241441286557272, 2361183241442875670530, 2361183241443433778712, 2361183243644046409728,
  2361183241445563433040, 2361183296422752026688, 2361183241448248049681, 2361183351401017770048, 2361183241450928734214, 2361183241451482416813, 2361183241453097717338, 2361183241454686830645]
def xc76 : List Nat := [
  2361183241434822606850, 2361183241435381239704, 2361183241436970614785, 2361183241437509582928, 2361183241439117574146, 2361183241439676469208, 2361183241441265319937, 2361183241441804550224, 2361183242542924169216, 2361183241443952295953,
  2361183241445560025088, 2361183241446096896051]
def xc77 : List Nat := [
  2361183241434822606850, 2361183241435359743723, 2361183241436970090498, 2361183241437508010275, 2361183241439117574165, 2361183241439664410538, 2361183241441290227803, 2361183241442875670530, 2361183245841459052544, 2361183241443952558374,
  2361183241445585457307, 2361183241447170637826, 2361183241447708295523, 2361183241449318121493, 2361183241449862074346, 2361183241451491299547, 2361183241453076217909]
def xc78 : List Nat := [
  2361183241434822868993, 2361183243634382733312, 2361183241435897921680, 2361183241437507223553, 2361183254632183365696, 2361183241439119671632, 2361183240341216559104, 2361183241441268203537, 2361183241442875670530, 2361183241443437711449,
  2361183241445023416321, 2361183241445571563560, 2361183241447170637874]
def xc79 : List Nat := [
  2361183241434822606850, 2361183241435384647769, 2361183241436970352641, 2361183241437517451368, 2361183241439118622788, 2361183241440191315970, 2361183241440753356889, 2361183241442339323905, 2361183241442886160488, 2361183241444487594052,
  2361183241445561073730, 2361183241446639796242, 2361183241448245690434, 2361183241449324150802, 2361183241450928996353, 2361183241451466129409, 2361183241452008505360, 2361183241453613875201, 2361183242553661587456, 2361183241454692860048,
  2361183241456298229761, 2361184339868950462592, 2361183241458451480912, 2361183241460055539712, 2361183241460592410675, 2361183241461130330178, 2361183241462212202777, 2361183241463814160385, 2361183241464351293441, 2361183241464887377949,
  2361183241465425559618, 2361183241466507170073, 2361183241468108865537, 2361183241468646260737, 2361183241469182345245, 2361183242569230843904, 2361183241470256087091]
def xc80 : List Nat := [
  2361183241434822606850, 2361183241435384647769, 2361183241436970352641, 2361183241437517451368, 2361183241439118360580, 2361183241439655231490, 2361183241440195248146, 2361183241441801928706, 2361183241442363969625, 2361183241443949936641,
  2361183241444496773224, 2361183241446100828178, 2361183241447707770881, 2361183241448244903937, 2361183241448785707088, 2361183240350880235520, 2361183241450928734258, 2361183241451466391554, 2361183241452003000321, 2361183241452544069800,
  2361183241454149959730]
def xc81 : List Nat := [
  2361183241434822606850, 2361183241435384647769, 2361183241436970352641, 2361183241437517451368, 2361183241439118360580, 2361183241439655231490, 2361183241440193675283, 2361183241441801928704, 2361183241442338799667, 2361183241442876194817,
  2361183241443417784399, 2361183241445023940610, 2361183241445569728856, 2361183240347659010048, 2361183241447712751632, 2361183241449318907906, 2361183240350343364608, 2361183241450401567066, 2361183242551514103808, 2361183241452539346995,
  2361183241453076742145, 2361183242553124716544, 2361183241454158348368, 2361183241455761358850, 2361183241456307933593, 2361183241457912254936, 2361183241459527057423, 2361183241461130067970, 2361183241461676642713, 2361183241463279128808,
  2361183242564399005696, 2361183241465424248883, 2361183241465961119744, 2361183241466497990707]
def xc82 : List Nat := [
  2361183241434822606850, 2361183241435384647769, 2361183241436970352641, 2361183241437517451368, 2361183241439118622788, 2361183241440192364610, 2361183241441267941394, 2361183241442876719170, 2361183241443949936641, 2361183241444490744104,
  2361183241446100303951, 2361183241447707508736, 2361183241448244379699, 2361183241448782299202, 2361183241449863909913, 2361183241451466129409, 2361183241452002476060, 2361183241452540133377, 2361183241453081722895, 2361183240355175202816,
  2361183241455229468689, 2361183239257811058752, 2361183241457914609680, 2361183241459518668800, 2361183241460055539763, 2361183241460593459266, 2361183241461675069977, 2361183241463277289473, 2361183241463814422529, 2361183241464358895631,
  2361183239266937864256, 2361183241467043512337, 2361183240369133846528, 2361183241469182345245, 2361183242569230843904, 2361183241470256087091]
def xc83 : List Nat := [
  2361183241434822606850, 2361183241435384647769, 2361183241436970352641, 2361183241437517451368, 2361183241439118360580, 2361183241439655231490, 2361183241440194199570, 2361183241441802715138, 2361183241442339323905, 2361183241442880131368,
  2361183241444489691215, 2361183238147562012736, 2361183241447175094289, 2361183241448782036994, 2361183241449327039001, 2361183241450929258497, 2361183241451465605148, 2361183241452002476082]
def xc84 : List Nat := [
  2361183241434822606850, 2361183241435384647769, 2361183241436970352641, 2361183241437517451368, 2361183241439118360580, 2361183241439655231490, 2361183241440193675283, 2361183238143267045440, 2361183241442875670578, 2361183241443413065729,
  2361183241443949412463, 2361183241469183131650, 2361183241469727871576, 2361183241471329828914, 2361183241471867486210, 2361183241472409342312, 2361183241474014183474, 2361183241474551054338, 2361183241475113095257, 2361183241476698800129,
  2361183241477235408896, 2361183241477785129384, 2361183241479382892594, 2361183241479919763458, 2361183241480481804377, 2361183241482067509249, 2361183241482617229800, 2361183241484214730802, 2361183241484752388098, 2361183241485298700952,
  2361183241486899085362, 2361183241487436742658, 2361183241487982793432, 2361183241489583439922, 2361183241490121097218, 2361183241490666885464, 2361183241492267794482, 2361183241492804665346, 2361183241493366706265, 2361183241494952411137,
  2361183244794023903232, 2361183241496038740392, 2361183241497636503602, 2361183238199638491200, 2361183241499247116338]
def xc85 : List Nat := [
  2361183241434822606850, 2361183241435384647769, 2361183241436970614785, 2361183241437517451368, 2361183241439118622788, 2361183241440192364610, 2361183241441269776402, 2361183241442875932673, 2361183241443417260175, 2361183241445023416321,
  2361183244744094908416, 2361183241446101614864, 2361183241447708557378, 2361183241448782036993, 2361183241449318383617, 2361183241449873084969, 2361183241451471901288, 2361183241453081460815, 2361183240355175202816, 2361183241455223701554,
  2361183241455760572418, 2361183241456322613337, 2361183241457908318209, 2361183241458445975618, 2361183241459519455233, 2361183241460067340968, 2361183241461666152498]
def xc86 : List Nat := [
  2361183241434822606850, 2361183241435384647769, 2361183241436970352641, 2361183241437517714152, 2361183241439118360580, 2361183241439655231490, 2361183241440193937426, 2361183241441802715138, 2361183241442357416744, 2361183241443952558159,
  2361183240346048397312, 2361183241446096896050, 2361183241446634291201, 2361183241447199740792, 2361183241448782299203, 2361183241449856041025, 2361183240351417106432, 2361183241451471110160, 2361183241453077004290, 2361183241453614137409,
  2361183241454708331290, 2361183241456298491969, 2361183241457371185202]
def xc87 : List Nat := [
  2361183241434822606850, 2361183241435384647769, 2361183241436970352641, 2361183241437517714152, 2361183241439118360580, 2361183241439655231490, 2361183241440193675283, 2361183238143267045440, 2361183241442875670578, 2361183241443413065729,
  2361183241443949412527, 2361183241469183131650, 2361183241469740454744, 2361183241471329828914, 2361183241471867486210, 2361183241472425071384, 2361183241474014183474, 2361183241474551840770, 2361183241475109688216, 2361183241476698538034,
  2361183241477236195330, 2361183241477794304984, 2361183241479382892594, 2361183241479920549890, 2361183241480478921752, 2361183241482067247154, 2361183241482604904450, 2361183241483163538520, 2361183241484751601714, 2361183241485289259010,
  2361183241485848417432, 2361183241487444869135, 2361183242588558196736, 2361183241489592614929, 2361183241491194052608, 2361183241491730923570, 2361183241492268580866, 2361183241492828001496, 2361183241494415278130, 2361183238196417265728,
  2361183241496025890866]
def xc88 : List Nat := [
  2361183241434822606850, 2361183241435384647769, 2361183241436970352641, 2361183241437517714152, 2361183241439118098436, 2361183241439654969346, 2361183241440193937426, 2361183241441802452994, 2361183241442361611544, 2361183241443952558095,
  2361183241445560025088, 2361183241446096896051, 2361183241446634291202, 2361183242546682265600, 2361183241447730320672, 2361183242548829749248, 2361183241449854992435]
def xc89 : List Nat := [
  2361183241434822606850, 2361183241435384647769, 2361183241436970352641, 2361183241437517714152, 2361183241439118098436, 2361183241439654969346, 2361183241440194199570, 2361183241441802452994, 2361183241442360562584, 2361183243642972667904,
  2361183241444489691216, 2361183240346585268224, 2361183241446633766962, 2361183241447171162114, 2361183241447730320664, 2361183241449323626511, 2361183241450929258498, 2361183242550977232896, 2361183241452025549984, 2361183242553124716544,
  2361183241454149959730, 2361183241454687354882, 2361183241455223701504, 2361183241455783122010, 2361183241457371185152, 2361183241457908056114]
def xc90 : List Nat := [
  2361183241434822606850, 2361183241435384647769, 2361183241436970352641, 2361183241437517714152, 2361183241439118098436, 2361183241439654969346, 2361183241440194986002, 2361183241441802452994, 2361183241442360562584, 2361183243642972667904,
  2361183241444489953296, 2361183241446097420290, 2361183241446656578840, 2361183241448248574031, 2361183241449854992384, 2361183241450391863347, 2361183241450929258498, 2361183241451465605120, 2361183241452025287968, 2361183241453613613058,
  2361183241454149959680, 2361183241454709904544, 2361183241456297967618, 2361183241456834314240, 2361183241457393734746, 2361183242558493425664, 2361183241459518668851]
def xc91 : List Nat := [
  2361183241434822606848, 2361183241435360264195, 2361183241435896348672, 2361183241436434268227, 2361183241437508010049, 2361183241438580703234, 2361183241439142744153, 2361183241440745755992, 2361183241442346664144, 2361183241443949412354,
  2361183241444511453273, 2361183241446114203033, 2361183241447708557377, 2361183241448781250590, 2361183241449319432260, 2361183241450393174082, 2361183241451487368088, 2361183241453083557967, 2361183241454688141378, 2361183241455783122008,
  2361183241457371447297, 2361183241457915396432, 2361183241459519455233, 2361183241460056064001, 2361183241460599488592, 2361183241462204072001, 2361183241463276765234, 2361183242563326050309, 2361183242564936925189, 2361183241467035910161,
  2361183240369133846528, 2361183241469182345266]
def xc92 : List Nat := [
  2361183241434822606850, 2361183241435384647769, 2361183241436970352641, 2361183241437507485697, 2361183241438055109544, 2361183241439655493700, 2361183241440729235522, 2361183241441804550163, 2361183240343900913664, 2361183241443949412402,
  2361183241444487331906, 2361183241445581263704, 2361183244745705521152, 2361183241447711703120, 2361183239250294865984, 2361183241450391863346, 2361183241450929782850, 2361183241452025287960, 2361183241453618593807, 2361183238156688818240,
  2361183241456297443378, 2361183241456835362882, 2361183241457908056066, 2361183241458470096985, 2361183241460055801857, 2361183241460606309352, 2361183241462222165032, 2361183241463821500495, 2361183237067377737792, 2361183241466497990706,
  2361183241467035648001, 2361183240368060104704, 2361183241468117778512, 2361183241469719216148, 2361183241470266572817, 2361183241471866699778, 2361183241472428740697, 2361183241474014445569, 2361183241474551840769, 2361183241475099202472,
  2361183241476699848772, 2361183241477773066241, 2361183240378797522944, 2361183241478860439568, 2361183241480457945154, 2361183241481544269842, 2361183241483142299714, 2361183241484235969368, 2361183244784360226816, 2361183241486376108112,
  2361183241487974137922, 2361183241489069380888, 2361183241490671599631, 2361183235994709655616, 2361183241493341536306, 2361183241493878407170, 2361183241494440448089, 2361183241496026939458, 2361183241497100943426, 2361183241498188059752,
  2361183241499785035842, 2361183241500878706136, 2361183241502468341810]
def xc93 : List Nat := [
  2361183241434822606850, 2361183241435384647769, 2361183241436970352641, 2361183241437517714152, 2361183241439118360580, 2361183241439654445058, 2361183241440216485977, 2361183241441802452993, 2361183241442349289576, 2361183241443950460996,
  2361183241445023940610, 2361183241445565792274, 2361183241447171686466, 2361183241448250146834, 2361183241449855778818, 2361183241450413626264, 2361183243651025731584, 2361183241452545114192, 2361183241454150746114, 2361183241454708069208,
  2361183244754832326656, 2361183241456840605776, 2361183240358933299200, 2361183241458981797938, 2361183241459518668802, 2361183241460080709721, 2361183241461666938882, 2361183241462204072002, 2361183241463291974824, 2361183241464888164354,
  2361183241465446011800, 2361183244765569744896, 2361183241467581694032, 2361183351420345122880, 2361183241470256873474, 2361183241470814983128, 2361183241472403570694, 2361183241472950927377, 2361183241474551840770, 2361183241475109950424,
  2361183241476698538034]
def xc94 : List Nat := [
  2361183241434822606848, 2361183241435359739907, 2361183241435896610817, 2361183241436433219586, 2361183241436995260505, 2361183241438598272344, 2361183241440197083344, 2361183241441801928706, 2361183241442363969625, 2361183241443966719385,
  2361183241445560287233, 2361183241446096896030, 2361183241446655529880, 2361183241448249622607, 2361183241449854992386, 2361183241450417033305, 2361183241452019783065, 2361183241453613350913, 2361183241454149959710, 2361183241454706496744,
  2361183242555809333253, 2361183241457908580369, 2361183241459518668802, 2361183241460080709721, 2361183241461666152450, 2361183241462228193369, 2361183241463831991832, 2361183242564935876608, 2361183241465961119750, 2361183267854777057344,
  2361183241467581432016, 2361183241469182345218, 2361183241469744386137, 2361183241471348184600, 2361183242572452069376, 2361183241473477312518, 2361183241474024144913, 2361183241475624796160, 2361183241476180022810, 2361183241477772279810,
  2361183241478334320729, 2361183241479938119192, 2361183241481530376242]
def xc95 : List Nat := [
  2361183241434822868993, 2361183242534871105536, 2361183241435899232400, 2361183241437507223553, 2361183250234136854592, 2361183241439120458000, 2361183241440728186882, 2361183241441290227801, 2361183241442876194817, 2361183241443423031400,
  2361183241445026562067, 2361183240347122139136, 2361183241447170637874, 2361183241447707508738, 2361183241448269549657, 2361183241449855254529, 2361183241450392387585, 2361183241450940798248, 2361183241452539346994]
def xc96 : List Nat := [
  2361183241434822606850, 2361183241435384647769, 2361183241436970352641, 2361183241437517976936, 2361183241439118360580, 2361183241439655231490, 2361183241440194461714, 2361183241441801928706, 2361183241442363969625, 2361183241443949936641,
  2361183241444496773224, 2361183241446100566035, 2361183240348195880960, 2361183241448244379698, 2361183241448781250562, 2361183241449343291481, 2361183241450929520642, 2361183241451466129409, 2361183241452018472360, 2361183241453613875202,
  2361183241454151013976, 2361183241455760572466]
def xc97 : List Nat := [
  2361183241434822606850, 2361183241435384647769, 2361183241436970352641, 2361183241437517976936, 2361183241439118360580, 2361183241439655231490, 2361183241440193675283, 2361183241441801928724, 2361183241442342731793, 2361183241443949412354,
  2361183241444511453273, 2361183241446097682434, 2361183241446634296984, 2361183241448244903937, 2361183241448792527784, 2361183241450392911940, 2361183241451466391554, 2361183241452008767506, 2361183241453614137410, 2361183241454693122066,
  2361183241456298229762, 2361183241456835362882, 2361183241457908848104, 2361183241459525484623, 2361183240361617653760, 2361183241461666152498, 2361183241462203023362, 2361183241462765064281, 2361183241464351293442, 2361183241464888426562,
  2361183241465977378344, 2361183241467572781122, 2361183241468666451416, 2361183241470256087090]
def xc98 : List Nat := [
  2361183241434822606850, 2361183241435384647769, 2361183241436970352641, 2361183241437517976936, 2361183241439118360580, 2361183241439654445058, 2361183241440216485977, 2361183241441802452993, 2361183241442349552360, 2361183241443950460996,
  2361183241445023940610, 2361183241445567102994, 2361183241447171686466, 2361183241448251457554, 2361183241449856041026, 2361183241450950497176, 2361183244751074230272, 2361183241453083295824, 2361183241454687879234, 2361183241455782597592,
  2361183241457371971586, 2361183241457908586136, 2361183241459525746768, 2361183241461130067970, 2361183241461667201090, 2361183241462740686312, 2361183241464358109263, 2361183241465961119744, 2361183241466497990707, 2361183241467035648002,
  2361183241467572781122, 2361183241468646790760, 2361183242569767714816, 2361183241470792958003]
def xc99 : List Nat := [
  2361183241434822606850, 2361183241435384647769, 2361183241436970352641, 2361183241437517976936, 2361183241439118098436, 2361183241439654969346, 2361183241440193675283, 2361183241441801928724, 2361183241442342731793, 2361183241443949412354,
  2361183241444511453273, 2361183241446097420290, 2361183241446633766912, 2361183241447171692200, 2361183241448792003304, 2361183241450392649732, 2361183241450929258498, 2361183241451472420882, 2361183241453077004290, 2361183241453619904530,
  2361183241455223701506, 2361183241455785742425, 2361183241457371709442, 2361183241457908842498, 2361183241458461447912, 2361183241460062879823, 2361183240362154524672, 2361183241462203023410, 2361183241462740680706, 2361183241463276765184,
  2361183241463836185690, 2361183241465425035266, 2361183241465983407128, 2361183241467571732530]
def xc100 : List Nat := [
  2361183241434822606850, 2361183241435384647769, 2361183241436970352641, 2361183241437517976936, 2361183241439118360580, 2361183241439655231490, 2361183241440193675282, 2361183241441802452993, 2361183241442341683407, 2361183238145414529088,
  2361183241445023154226, 2361183241445560549377, 2361183241446096896239, 2361183241462740680706, 2361183241463277033176, 2361183241464887377970, 2361183241465425035266, 2361183241465961649816, 2361183241467571732530, 2361183241468109389826,
  2361183241468646266648, 2361183241470256087090, 2361183241470793744386, 2361183241471330883160, 2361183241472940441650, 2361183241473478098946, 2361183241474014707713, 2361183245872597565440, 2361183241475087925255, 2361183241475625850536,
  2361183241477235408946]
def xc101 : List Nat := [
  2361183241434822606850, 2361183241435384647769, 2361183241436970352641, 2361183241437517451368, 2361183241439118884932, 2361183241440192626754, 2361183241441269252114, 2361183241442876981314, 2361183241443959902617, 2361183241445560549377,
  2361183241446097682433, 2361183241446634815553, 2361183241447710398248, 2361183241449322315791, 2361183242550440361984, 2361183241451470061585, 2361183241453076217856, 2361183241453613088819]
def xc102 : List Nat := [
  2361183241434822606850, 2361183241435384647769, 2361183241436970352641, 2361183241437517451368, 2361183241439118622788, 2361183241440192364610, 2361183241441268465682, 2361183241442876194817, 2361183241443415949455, 2361183241445023678465,
  2361183241445561073730, 2361183241446639802216, 2361183241448248312144, 2361183238151320109120, 2361183241450928734258, 2361183241451466653762, 2361183241452549837209, 2361183241454150483969, 2361183241454687879234, 2361183241455766607720,
  2361183241457371971585, 2361183241457911207848, 2361183241459518668850]
def xc103 : List Nat := [
  2361183241434822606850, 2361183241435384647769, 2361183241436970352641, 2361183241437517451368, 2361183241439118098436, 2361183241439654969346, 2361183241440193675283, 2361182141930174152832, 2361183241443412541490, 2361183241443949936642,
  2361183241444496773529, 2361183241446097420290, 2361183241446639802216, 2361183241448247793640, 2361183241449854992386, 2361183241450417033305, 2361183241452002738177, 2361183241452539346944, 2361183241453089067432, 2361183241454686830599,
  2361183241455223701554]
def xc104 : List Nat := [
  2361183241434822606850, 2361183241435384647769, 2361183241436970352641, 2361183241437517451368, 2361183241439118360580, 2361183241439655231490, 2361183241440194723858, 2361183241441802452993, 2361183240342827171840, 2361183241442879078544,
  2361183241444486807553, 2361183254639162687552, 2361183241446100828496, 2361183241447707508736, 2361183241448244379699, 2361183241448782036994, 2361183241449318645761, 2361183241449864958682, 2361183242550977232896, 2361183241452002476083]
def xc105 : List Nat := [
  2361183241434822606850, 2361183241435385172185, 2361183241436970090498, 2361183241437532131417, 2361183241439117574146, 2361183241439679615065, 2361183241441265319937, 2361183241441812944232, 2361183241443420149800, 2361183241445023154226]
def xc106 : List Nat := [
  2361183241434822606850, 2361183241435385172185, 2361183241436970352641, 2361183241437514307688, 2361183241439117574194]
def xc107 : List Nat := [
  2361183241434822606850, 2361183241435384647769, 2361183241436970352641, 2361183241437517976936, 2361183241439118098436, 2361183241439654445058, 2361183241440217010393, 2361183241441801928706, 2361183241442363969625, 2361183241443949936642,
  2361183241444493891624, 2361183241446097682435, 2361183241446634553345, 2361183240347659010048, 2361183241447711965200, 2361183241449318645762, 2361183241449859973139, 2361183240351953977344, 2361183241452002476082, 2361183241452539346944,
  2361183241453077266499, 2361183241454151008321, 2361183241455223701506, 2361183241455786266841, 2361183241457384036184, 2361183241458991235280, 2361183241460592410626, 2361183241461154451545, 2361183241462740418562, 2361183241463276765186,
  2361183241463839330521, 2361183241465425297473, 2361183241466505336936, 2361183241468125386920, 2361183242569231892485, 2361183241471335333905, 2361183241472941228033, 2361183241473477312562]
def xc108 : List Nat := [
  2361183241434822868993, 2361183241435360788623, 2361183241436970352641, 2361183245835553472512, 2361183241438045667472, 2361183241439654445056, 2361183241440191316019, 2361183241440728186882, 2361183241441290490009, 2361183241442875932673,
  2361183241443412541470, 2361183241443954393107, 2361183241445560025090, 2361183241446122328217, 2361183241447707770881, 2361183241448245428515, 2361183241449854992405, 2361183241450401828778, 2361183241452002476063, 2361183241452539346946,
  2361183241453101650073, 2361183241454687092737, 2361183241455223701534, 2361183241455760572418, 2361183241456322613337, 2361183241457918286056, 2361183242559030296576, 2361183241460055539763]
def xc109 : List Nat := [
  2361183241434822868993, 2361183241435362099343, 2361183241436970352641, 2361183245835553472512, 2361183241438046453968, 2361183241439654445058, 2361183241440216748185, 2361183241441802190849, 2361183241442338799646, 2361183241442878816275,
  2361183241444486283264, 2361183241445023154227, 2361183241445560025090, 2361183241446122066009, 2361183241447707508738, 2361183241448269811865, 2361183241449855254529, 2361183241450391863326, 2361183241450938964200, 2361183242552050974720,
  2361183241453076217907]
def xc110 : List Nat := [
  2361183241434822868993, 2361183241435359478063, 2361183241462739894274, 2361183241463301935193, 2361183241464904423320, 2361183241466497990706, 2361183241467034861570, 2361183241467596902489, 2361183241469199914328, 2361183241470792958002,
  2361183241471329828866, 2361183241471891869785, 2361183241473495406552, 2361183241475087925298, 2361183241475624796162, 2361183241476186837081, 2361183241477772279808, 2361183241478321477928, 2361183241479919763506, 2361183241480456634370,
  2361183241481018675289, 2361183242582115745792, 2361183241483153316136, 2361183241484751601714, 2361183241485288472578, 2361183241485850513497, 2361183243686459211776, 2361183241487985154344, 2361183241489583439922, 2361183241490120310786,
  2361183241490682351705, 2361183244790802677760, 2361183241492816992552, 2361183241494415278130, 2361183241494952148994, 2361183241495514189913, 2361183241497112222056, 2361183241498710245426, 2361183241499247116290, 2361183241499809157209,
  2361183241501412955672, 2361183241503005212722, 2361183240404030455808, 2361183241504078954546]
def xc111 : List Nat := [
]
def xc112 : List Nat := [
  2361183241434822606850, 2361183241435359788971, 2361183241436970090498, 2361192257432854724736, 2361183241439117574180, 2361183241440220682267, 2361183241441801928706, 2361183245840385310720, 2361183241442875670565, 2361183241443979040859,
  2361183241445560025090, 2361183254640236429376, 2361183241447170637860, 2361183241448275056795, 2361183241449854992386, 2361183254644531396672, 2361183241451465605156, 2361183241452570286299, 2361183241454149959682, 2361183249151268225088,
  2361183241455760572452, 2361183241456865777947, 2361183241458444926978, 2361183249155563192384, 2361183241460055539748, 2361183241461161007451, 2361183241462739894274, 2361183249159858159680, 2361183241464350507044, 2361183241465456236955,
  2361183241467034861568, 2361183241467571994627, 2361183241468108865537, 2361183254662785007680, 2361183241469734944976, 2361183241471329828864, 2361183241471867224067, 2361183241472404094977, 2361183254667079974976, 2361183241474029387984,
  2361183241475624796162, 2361183241476191033369, 2361184308004051222656, 2361183254673522425920, 2361183241480456896513, 2361183241480993505288, 2361183241481530376198, 2361183241482067771393, 2361183241482604118022, 2361183241483141251073,
  2361183241483678384129, 2361183241484228886608, 2361183241485825343488, 2361183241486376632337, 2361184339900088975488, 2361183241489583439901, 2361183242589632462853, 2361183241491740622865, 2361183242592853426181, 2361183241494960537617,
  2361183241496562761781]
def xc113 : List Nat := [
  2361183241434822606849, 2361183241435361312911, 2361183241436970090497, 2361183241437507223553, 2361183241438045667536, 2361183242539166072832, 2361183241440193413137, 2361183241441801928704, 2361183241442338799667]
def xc114 : List Nat := [
  2361183241434822868993, 2361183241435359477762, 2361183241435925714969, 2361183241437506961408, 2361183241438043832348, 2361183241438610332073, 2361183241440191316019]
def xc115 : List Nat := [
  2361183241434822868993, 2361183241435359477762, 2361183241435925714969, 2361183242537018589184, 2361183241438043832348, 2361183241438610332073, 2361183241440191316019]
def xc116 : List Nat := [
  2361183241434822868993, 2361183241435359477762, 2361183241435925714969, 2361183243636530216960, 2361183241438043832348, 2361183241438610332073, 2361183241440191316019]
def xc117 : List Nat := [
  2361183252429938884672, 2361183329396826570816, 2361183241436970352641, 2361183241437506961416, 2361183241438043832326, 2361183241438580703282]
def xc118 : List Nat := [
  2361183241434822606850, 2361183241435388844057, 2361183241436970090498, 2361183241437507223553, 2361183241438074509800, 2361183241439654445084, 2361183241440191316018]
def xc119 : List Nat := [
  2361183241434822606850, 2361183241435359739905, 2361183241435927026152, 2361183242537018589184, 2361183241438043832326, 2361183241438581227521, 2361183241439117574150, 2361183241439654445106]
def xc120 : List Nat := [
  2361183241434822606850, 2361183241435388844057, 2361184307963249033344, 2361183254632720236608, 2361183241439654707201, 2361183241440191315976, 2361183241440728186886, 2361183241441265582081, 2361183241441801928710, 2361183241442338799644,
  2361183241442875670578]
def xc121 : List Nat := [
  2361183241434822606850, 2361183241435388844057, 2361183241436970090496, 2361183241437506961436, 2361183254632183365696, 2361183241439120719888, 2361183241440728449025, 2361183243640288313344, 2361183241441805074576, 2361183241443412803585,
  2361183254638088945728, 2361183241445026824528, 2361183240347122139136, 2361183241447170637874, 2361183241447707508738, 2361183241448273745945, 2361183241449854992384, 2361183241450391863324, 2361183241450929258499, 2361183241451465605122,
  2361183241452031842329, 2361183241453613088770, 2361183241454150483969, 2361183241454717508072, 2361183241456297705473, 2361183241456834314269, 2361183241457371185152, 2361183241457908842499, 2361183241458445713409, 2361183241458982060033,
  2361183241459529416912, 2361183241461129281538, 2361183241461695518745, 2361183241463276765186, 2361183241463814160385, 2361183241464351293441, 2361183241464918579752, 2361183240366986362880, 2361183241467034861597, 2361183242567084146693,
  2361183241469189685265, 2361183241470792957954, 2361183241471359195161, 2361183241472940441602, 2361183241473477836801, 2361183241474044860904, 2361183256868787585088, 2361183241476698537990, 2361183240377723781120, 2361183241477772279837,
  2361183241478309150722, 2361183241478875387929, 2361183241480456634370, 2361183241480994029569, 2361183241481561053672, 2361183257975815405632, 2361183241484214730758, 2361183240385239973888, 2361183241485288472605, 2361183241485825343490,
  2361183241486391580697, 2361183241487972827136, 2361183241488509698071, 2361183241489046568988, 2361183242589095067648, 2361183241490120310790, 2361183241490657181725, 2361183241491194576897, 2361183241491730923570]
def xc122 : List Nat := [
  2361183241434822606850, 2361183241435359739905, 2361183241435926239848, 2361183241437511417871, 2361183241439117574146, 2361183241439654969345, 2361183241440221207144, 2361183241441806385167, 2361183241443412803585, 2361183241443949936641,
  2361183241444490739728, 2361183241446097682433, 2361183242546145394688, 2361183241447175094416, 2361183241448782036993, 2361184339861434269824, 2361183241450933715280, 2361183241452539346944, 2361183241453076217907, 2361183241453613088770,
  2361183241454179325977, 2361184307982039515264, 2361183254651510718528, 2361183241458445189121, 2361183241458981797896, 2361183241459518668806, 2361183241460056064001, 2361183241460592410630, 2361183241461130067969, 2361183241461666152477,
  2361183241462203023362, 2361183241462769260569, 2361184307990629449856, 2361183254660100653120, 2361183241467035385857, 2361183241467571732488, 2361183241468108603398, 2361183241468645736449, 2361183241469182345222, 2361183241469720002561,
  2361183241470256087069, 2361183242570304585728, 2361183241471329828915]
def xc123 : List Nat := [
  2361183241434822606850, 2361183241435359739905, 2361183241435926239848, 2361183241437509845007, 2361183241439117574146, 2361183241439654969345, 2361183241440221207144, 2361183241441804812303, 2361183241443412803585, 2361183241443949936641,
  2361183241444489691216, 2361183240346585268224, 2361183241446633766962, 2361183241447170637826, 2361183241447707770881, 2361183241448275057128, 2361183257942529409088, 2361183241450928734214, 2361183241451466391555, 2361183241452002476034,
  2361183241452568713241, 2361183241454150746113, 2361183241454686830620, 2361183250251316723776, 2361183241456304521296, 2361183240358396428288, 2361183241458444927026, 2361183241458981797890, 2361183241459548035097, 2361183241461130067969,
  2361183241461666152476, 2361183241462212722895, 2361183241463813636098, 2361183241464379873305, 2361183241465961906177, 2361183241466497990656, 2361183241467034861597, 2361183241467571732482, 2361183241468137969689, 2361183241469720002561,
  2361183242569767714816, 2361183241470792957958, 2361183241471329828866, 2361183241471896066073, 2361183241473478098945, 2361183241474014183452, 2361183241474551054342, 2361183241475088449537, 2361183241475624796189, 2361183241476161667074,
  2361183241476727904281, 2361183241478309937153, 2361183241478846021655, 2361183241479382892572, 2361183242579431391232, 2361183241480456634374, 2361183241480993505309, 2361183241481530376194, 2361183241482096613401, 2361183241483678646273,
  2361183241484214730780, 2361183241484751601714]
def xc124 : List Nat := [
  2361183241434822606850, 2361183241435359739905, 2361183241435926239848, 2361183241437509058575, 2361183241439118098433, 2361183243638677700608, 2361183241440220944809, 2361183241441804550223, 2361183241443412541440, 2361183241443949412403,
  2361183241444486283266, 2361183241445023416321, 2361183241445590702568, 2361183241447171162113, 2361183241447711965263, 2361183257941992538176, 2361183241450396581905, 2361183267840281542720, 2361183241453076217862, 2361183241453613875203,
  2361183241454149959682, 2361183241454716196889, 2361183241456298229761, 2361183241456834314268, 2361183241457371709441, 2361183241457915396175, 2361183240360007041024, 2361183241460063141905, 2361183241461666152448, 2361183241462211412048,
  2361183241463813636096, 2361183241464350507059, 2361183241464887377922, 2361183241465453615129, 2361183241467035648001, 2361183241467572256769, 2361183241468118827087, 2361183240370207588352, 2361183241470266572817, 2361183241471866699776,
  2361183241472403570717, 2361183242572452069376, 2361183241473477312563]
def xc125 : List Nat := [
  2361183241434822606850, 2361183241435359739905, 2361183241435926239848, 2361183241437510107151, 2361183241439118098433, 2361183241439654445058, 2361183241440191578113, 2361183241440759126696, 2361183241442368428457, 2361183241443952558095,
  2361183242545071652864, 2361183241446100303889, 2361183241447707508736, 2361183241448244379699]
def xc126 : List Nat := [
  2361183241434822606850, 2361183241435359739905, 2361183241435896872961, 2361183241436465994472, 2361183241438045667407, 2361183241439654445056, 2361183241440191316019, 2361183241440728186882, 2361183241441265319937, 2361183241441802452993,
  2361183241442370001448, 2361183241443950460995, 2361183241445023154178, 2361183241445589391385, 2361183241447171686465, 2361183241448244379676, 2361183241448782036993, 2361183241449323364367, 2361183240351417106432, 2361183241451471110161,
  2361183239254052962368, 2361183241454156251152, 2361183241455760572416, 2361183241456297443379, 2361183241456834314242, 2361183241457400551449, 2361183241458982846529, 2361183241460056326145, 2361183241460600537103, 2361183239263179767872,
  2361183241463285153809, 2361183240365375750144, 2361183241465424248861, 2361183242565472747520, 2361183241466497990707]
def xc127 : List Nat := [
  2361183241434822606850, 2361183241435359739905, 2361183241435896872961, 2361183241436465994472, 2361183241438047240207, 2361183241439654445058, 2361183241440220682265, 2361183241441801928706, 2361183241442339061761, 2361183241442876194817,
  2361183241443443743272, 2361183241445023154204, 2361183241445563695121, 2361183238148635754560, 2361183241448244379698]
def xc128 : List Nat := [
  2361183241434822606848, 2361183241435360264195, 2361183241435896348672, 2361183241436434268227, 2361183241437508010049, 2361183241438580703234, 2361183241439117836289, 2361183241439685384872, 2361183241441275019472, 2361183241442875670530,
  2361183241443441907737, 2361183241445023154178, 2361183241445560287233, 2361183241446097944641, 2361183241447201839656, 2361183241448781250588, 2361183241449319432259, 2361183241450392649729, 2361183241450929258497, 2361183240351953977344,
  2361183241452009816144, 2361183241453614399553, 2361183240355175202816, 2361183241455230517328, 2361183242556345942016, 2361183241457380098065, 2361183241458981797888, 2361183241459527581713, 2361183241461130592321, 2361183239263179767872,
  2361183241463285415952, 2361183242564399005696, 2361183241465433161745, 2361183241467034861568, 2361183241467571732486, 2361183241468109389827, 2361183242568158150661, 2361183241470257135633, 2361183241471867486209, 2361183241472403570738]
def xc129 : List Nat := [
  2361183241434822606850, 2361183241435388844057, 2361184466292923433088, 2361183250234673725504, 2361183241439654707201, 2361183241440191315976, 2361183241440728186886, 2361183241441265582081, 2361183241441801928710, 2361183241442338799644,
  2361183241442875670578]
def xc130 : List Nat := [
  2361183241434822606850, 2361183241435388844057, 2361184466292923433088, 2361183250234673725504, 2361183241439654707201, 2361183241440191315976, 2361183241440728186886, 2361183241441265582081, 2361183241441801928710, 2361183241442339586049,
  2361183241442875670557, 2361183241443412541493]
def xc131 : List Nat := [
  2361183241434822606848, 2361183241435360526403, 2361183241436433219584, 2361183241436971401283, 2361183241438045143105, 2361183241439117574146, 2361183241439683811353, 2361183242540776685568, 2361183241441801928732, 2361183241442348761296,
  2361183241443950460993, 2361183241445023154178, 2361183241445561335873, 2361183243645657022464, 2361183241447204461352, 2361183241448781774849, 2361183241449326772304, 2361183241450928734210, 2361183241451466915905, 2361183244751074230272,
  2361183241453110041384, 2361183241454687092737, 2361183241455232352336, 2361183241456835100673, 2361183241457379311631, 2361183241458981797890, 2361183241459519979585, 2361183241460592410624, 2361183241461163105064, 2361183243661763149824,
  2361183241463285415952, 2361183242564399005696, 2361183241465433161745, 2361183241467034861568, 2361183241467571732486, 2361183241468109652035, 2361183242568695283717, 2361183241470794006545, 2361183241472404619329, 2361183241473477312562]
def xc132 : List Nat := [
  2361183241434822606850, 2361183241435359739905, 2361183241435926239848, 2361183241437508534351, 2361183238140582690880, 2361183241440191316018, 2361183241440728711169, 2361183241441265058159, 2361183241467034861570, 2361183241467571994625,
  2361183241468139543208, 2361183241469719216178, 2361183241470256087042, 2361183241470793220097, 2361183240371818201088, 2361183241471900261224, 2361183241473477312562, 2361183241474014183426, 2361183241474551316481, 2361183241475087925248,
  2361183241475624796160, 2361183241476196015016, 2361183241477772279858, 2361183241478309150722, 2361183241478846283777, 2361183241479382892544, 2361183242579431391232, 2361183241480490982312, 2361183241482067247154, 2361183241482604118018,
  2361183241483170355225, 2361183241484751601666, 2361183241485288734721, 2361183241485856020968, 2361183255781087117376, 2361183241488509698054, 2361183241489046568988, 2361183241489583439922, 2361183241490120310786, 2361183241490686547993,
  2361183241492267794434, 2361183241492804927489, 2361183241493372213736, 2361183256888114937920, 2361183241496025890822, 2361183241496562761756, 2361183241497099632690, 2361183241497636503554, 2361183241498202740761, 2361183241499783987202,
  2361183241500321120257, 2361183241500888406504, 2361183257995142758464, 2361183241503542083590, 2361183241504078954524, 2361183241504615825458, 2361183241505152696322, 2361183241505689829377, 2361183244804761321472, 2361183241506763309056,
  2361183241507334527912, 2361183241508910792754, 2361183238210912780352, 2361183241510521405490]
def xc133 : List Nat := [
  2361183241434822606850, 2361183241435359739905, 2361183241435896872961, 2361183241436465994472, 2361183241438048026639, 2361183241439654445058, 2361183241440220682265, 2361183241441801928706, 2361183241442339061761, 2361183241442876194817,
  2361183241443443743272, 2361183241445023154204, 2361183240346048397312, 2361183241446101090384, 2361183242547219136512, 2361183241448248836113, 2361183241449854992384, 2361183241450391863347]
def xc134 : List Nat := [
  2361183241434822606850, 2361183241435360002049, 2361183241435897135105, 2361183241436468091880, 2361183241438048288783, 2361183241439654707201, 2361183243639214571520, 2361183241440732119120, 2361183241442338799618, 2361183241442876194817,
  2361183241443413327873, 2361183242543461040128, 2361183241444486283270, 2361183241445058026472, 2361183241446638223375, 2361183242547756007424, 2361183241448785969169, 2361183241450391863296, 2361183241450928734259]
def xc135 : List Nat := [
  2361183241434822606848, 2361183241435360264195, 2361183241435897135105, 2361183241436433219586, 2361183241436970614785, 2361183241437537901224, 2361183241439122030800, 2361183241440728186882, 2361183241441265319937, 2361183241441802452993,
  2361183241442339586049, 2361183241442910805032, 2361183241444490215439, 2361183241446097682433, 2361183241446633766962, 2361183242546683052037, 2361183241448781774865, 2361183240350880235520, 2361183241450928734258]
def xc136 : List Nat := [
  2361183241434822606850, 2361183241435388844057, 2361183241436970090498, 2361183241437507485697, 2361183241438044618753, 2361183241438611905064, 2361183241440191578113, 2361183241440728186909, 2361183241441265057794, 2361183241441802190849,
  2361183241442338799616, 2361183241442909494056, 2361183243643509538816, 2361183241445029445712, 2361183241446633766914, 2361183241447200004121, 2361183241448781250562, 2361183241449318645761, 2361183241449855778817, 2361183242549903491072,
  2361183241450928734214, 2361183241451496806952, 2361183241453076480001, 2361183241453613088797, 2361183241454149959682, 2361183241454687092737, 2361183243654246957056, 2361183241455760572416, 2361183241456331529320, 2361183241457908056066,
  2361183241458445189121, 2361183244757516681216, 2361183241459519193089, 2361183241460089625704, 2361183241461666152450, 2361183241462203285505, 2361183245860786405376, 2361183241463277551617, 2361183241463847722088, 2361183241465424248885]
def xc137 : List Nat := [
  2361183241434822606850, 2361183241435388844057, 2361183241436970090498, 2361183241437506961410, 2361183241438044094465, 2361183244737115586560, 2361183241439151397672, 2361183241440728186882, 2361183241441265319937, 2361183245839848439808,
  2361183241442372623144, 2361183241443980614184, 2361183240346048397312, 2361183241446096896029, 2361183241446633766914, 2361183241447170899969, 2361183241447707508736, 2361183241448278203176, 2361183243648878247936, 2361183241450401300560,
  2361183241452002476034, 2361183241452568713241, 2361183241454149959682, 2361183241454686830594, 2361183241455223963649, 2361183244754295455744, 2361183241456331266856, 2361183241457908056066, 2361183241458445189121, 2361183245857028308992,
  2361183241459552492328, 2361183242560640909312, 2361183241461666152454, 2361183241462234225192, 2361183240364302008320, 2361183241464350507037, 2361183241464887377973]
def xc138 : List Nat := [
  2361183241434822606849, 2361183242534871105536, 2361183241435897921552, 2361183241437506961409, 2361183243637067087872, 2361183241438582800464, 2361183242539702943744, 2361183241440730546193, 2361183241442338799616, 2361183241442875670579]
def xc139 : List Nat := [
  2361183241434822606850, 2361183241435388844057, 2361183242536481718272, 2361183241437506961436, 2361183307408741498944, 2361183241439121768464, 2361183241440728449025, 2361183245839311568896, 2361183241441831557545, 2361183241443416735759,
  2361183241445023154178, 2361183241445560287233, 2361183241446097420289, 2361183241446634553345, 2361183241447205772328, 2361183241448785969231, 2361183240350880235520, 2361183241450928734258, 2361183241451465605122, 2361183241452031842329,
  2361183242553124716544, 2361183241454149959708, 2361183241454687879235, 2361183241455760572418, 2361183241456326809625, 2361183242557419683840, 2361183241458444926999, 2361183241458981797916, 2361183242559030296576, 2361183241460055539718,
  2361183241460592410653, 2361183241461129281538, 2361183241461667201089, 2361183241462739894272, 2361183241463277027329, 2361183241463847722088, 2361183241465424248834, 2361183241465962168385, 2361183242566546489344, 2361183241467571994625,
  2361183241468144786601, 2361183241469730750479, 2361184340982957604992, 2361183241472952238097, 2361183241474551054336, 2361183241475122011240, 2361183241476698537986, 2361183241477236457537, 2361183246975867289600, 2361183241478846021632,
  2361183241479416978536, 2361183241480993505282, 2361183241481531424833, 2361183248079673884736, 2361183241483677859840, 2361183241484248816744, 2361183241485825343490, 2361183241486363263041, 2361183249184017350720, 2361183240388998070272,
  2361183241489080654952, 2361183241490657181698, 2361183241491195101249, 2361183241492268318721, 2361183241492805451777, 2361183241493377195240, 2361183241494953197633, 2361183241496025890866]
def xc140 : List Nat := [
]
def xc141 : List Nat := [
  2361183241434822606850, 2361183241435359739905, 2361183241435926502696, 2361183241437509582863, 2361183241439117574146, 2361183241439654707201, 2361183241440191315968, 2361183241440762010408, 2361183241442374982825, 2361183241443952558159,
  2361183240346048397312, 2361183241446096896050, 2361183241446634291201, 2361183241447207345528, 2361183241448782036995, 2361183241449318907905, 2361183241449859973327, 2361183240351953977344, 2361183241452002476082, 2361183241452539346946,
  2361183241453076480001, 2361183242553124716544, 2361183241454150746113, 2361183241454720916584, 2361183241456298229761, 2361183241456834314290]
def xc142 : List Nat := [
  2361183241434822606850, 2361183241435359739905, 2361183241435926502696, 2361183241437508534351, 2361183238140582690880, 2361183241440191316018, 2361183241440728186882, 2361183241441265319937, 2361183243640825184256, 2361183241442372623144,
  2361183241443950198787, 2361183241444486807553, 2361183241445023154607, 2361183241469182345218, 2361183241469719478273, 2361183241470256611329, 2361183241470826781480, 2361183241472403570738, 2361183241472941228033, 2361183242572988940288,
  2361183241474020212816, 2361183240376113168384, 2361183241476168744977, 2361183241477772279810, 2361183241478309412865, 2361183244777380904960, 2361183241479416716072, 2361183241480993505330, 2361183241481531162625, 2361183241482076422223,
  2361183241483677859842, 2361183241484214992897, 2361183245882798112768, 2361183241485322296104, 2361183241486910619665, 2361183241488510484481, 2361183242588558196736, 2361183241489594712144, 2361183241491194052610, 2361183241491731185665,
  2361183244790802677760, 2361183241492838488872, 2361183241494426812433, 2361183240396514263040, 2361183241496562761778, 2361183241497099632642, 2361183241497636765697, 2361183248095243141184, 2361183241499280939816, 2361183243699880984576,
  2361183241501408493648, 2361183242602516840448, 2361183241503556239377, 2361183241505152696320, 2361183241505689567282, 2361183241506227224577, 2361183243705786564608, 2361183241507316695120, 2361183241508910792706, 2361183241509447925761,
  2361183249206565929024, 2361183241511092099880, 2361183241512685666321, 2361183240414767874048, 2361183241514816372786, 2361183238216818360384, 2361183241516426985522]
def xc143 : List Nat := [
  2361183241434822606850, 2361183241435359739905, 2361183241435926502696, 2361183241437509320719, 2361183241439117574146, 2361183241439654707201, 2361183248037261082688, 2361183241441298881320, 2361183241442878554447, 2361183241444486283264,
  2361183241445023154227, 2361183241445560025090, 2361183241446097158145, 2361183248043703533632, 2361183242547219136512, 2361183241448278465640, 2361183242549366620160, 2361183241450391863347]
def xc144 : List Nat := [
  2361183241434822606850, 2361183241435359739905, 2361183241435926502696, 2361183241437509582863, 2361183241439117574146, 2361183241439654707201, 2361183243639214571520, 2361183241440762010408, 2361183243641362055168, 2361183241442878816336,
  2361183240344974655488, 2361183241445023154226, 2361183241445560025090, 2361183241446097158145, 2361183248043703533632, 2361183241447741332264, 2361183241449324413263, 2361183241450928734210, 2361183241451465867265, 2361183248049072242752,
  2361183243652099473408, 2361183241453647174760, 2361183242554735329280, 2361183241455760572466, 2361183241456297443330, 2361183241456834576385, 2361183246954929324032, 2361183241457908056064, 2361183241458479012968, 2361183241460055539712,
  2361183241460592410674]
def xc145 : List Nat := [
  2361183241434822606850, 2361183241435359739905, 2361183241435926502696, 2361183241437510893583, 2361183241439117574146, 2361183241439654707201, 2361183243639214571520, 2361183241440762010408, 2361183243641362055168, 2361183241442879602704,
  2361183241444486283266, 2361183241445023416321, 2361183248042629791808, 2361183241446667590440, 2361183241448248836175, 2361183241449854992384, 2361183241450391863347, 2361183241450928734210, 2361183241451465867265, 2361183248049072242752,
  2361183241453076217856, 2361183241453647174760, 2361183241455223701506, 2361183241455760834561, 2361183246953855582208, 2361183241456834314240, 2361183241457405271144, 2361183242558493425664, 2361183241459518668851]
def xc146 : List Nat := [
  2361183241434823131137, 2361183241435360264195, 2361183241435896348672, 2361183241436434268227, 2361183241437508010049, 2361183241438580703234, 2361183241439146940441, 2361183242540239814656, 2361183241441265057820, 2361183241441813201104,
  2361183241443413065729, 2361183241443960684687, 2361183241445560025090, 2361183241446097944641, 2361183243646193893376, 2361183241447741332264, 2361183241449324675151, 2361183241450928734210, 2361183241451466653761, 2361183246950097485824,
  2361183241453110041384, 2361183241454687092737, 2361183241455230255440, 2361183242556345942016, 2361183241457378000913, 2361183241458981797888, 2361183241459519979587, 2361183241460593721409, 2361183241461674803215, 2361183241463277551617,
  2361183241463822286927, 2361183241465425297473, 2361183241466497990706, 2361183241467035648001, 2361183241467573043265, 2361183241468655435791, 2361183242569767714816, 2361183241470803181585, 2361183241472403570688, 2361183241472940441607,
  2361183241473478098947, 2361183242573526859781, 2361183241475625844753, 2361183240377723781120, 2361183241477772279858]
def xc147 : List Nat := [
  2361183241434822868993, 2361183243634382733312, 2361183241435897659472, 2361183244736041844736, 2361183241438046715921, 2361183241439654707201, 2361183242539702943744, 2361183241440730808400, 2361183243641362055168, 2361183241442878554129,
  2361183241444486283264, 2361183241445023154226]
def xc148 : List Nat := [
  2361183240335310979072, 2361183241435360264195, 2361183241435896348672, 2361183241436434268227, 2361183241437508010049, 2361183241438580703234, 2361183241439146940441, 2361183241440728186880, 2361183241441265057820, 2361183241441809268944,
  2361183241443413590081, 2361183241444486807553, 2361183241445029969936, 2361183241446634553345, 2361183241447176142991, 2361183241448781250562, 2361183241449318645761, 2361183241449856041025, 2361183241450960199080, 2361183241452540133377,
  2361183241453083033808, 2361183241454686830594, 2361183241455224225793, 2361183241455761621057, 2361183241456865779112, 2361183241458445713411, 2361183242558494474245, 2361183241460593459217, 2361183241462203809793, 2361183241462752739471,
  2361183241464350507010, 2361183241464887640065, 2361183242564935876608, 2361183241465994943272, 2361183241467571732482, 2361183241468108603394, 2361183241468645736449, 2361183241469182345216, 2361183241469753039656, 2361183241471368371688,
  2361183241472941228033, 2361183241473477312520, 2361183241474027028688, 2361183241475624796162, 2361183241476161929217, 2361183241476698537984, 2361183241477269232424, 2361183241478882204841, 2361183241480470003791, 2361183242581578874880,
  2361183241482617749521, 2361183241484214730752, 2361183241484751601715]
def xc149 : List Nat := [
  2361183241434822606850, 2361183241435359739905, 2361183241435932270120, 2361183241437506961410, 2361183241438044094465, 2361183243637603958784, 2361183243638140829696, 2361183241439688531048, 2361183241441265057794, 2361183241441802190849,
  2361183245840385310720, 2361183240343364042752, 2361183241443446627432, 2361183241445023154178, 2361183241445560287233, 2361183246943655034880, 2361183241446633766912, 2361183241447204723816, 2361183241448781250562, 2361183241449318383617,
  2361183249146436386880, 2361183241450929258497, 2361183241451499691112, 2361183241453076217909]
def xc150 : List Nat := [
  2361183241434822606850, 2361183241435359739905, 2361183241435896872961, 2361183241436465994472, 2361183241438047240207, 2361183241439654445058, 2361183241440220682265, 2361183241441801928706, 2361183241442339061761, 2361183241442876194817,
  2361183241443443743272, 2361183241445023154204, 2361183241445563957455, 2361183240347659010048, 2361183241447707508786, 2361183241448244379650, 2361183241448810616857, 2361183241450391863298, 2361183241450928996353, 2361183241451466129409,
  2361183241452033677864, 2361183241453613088796, 2361183241454151008323, 2361183241455223701506, 2361183241455761621057, 2361183241456834314240, 2361183241457405008680, 2361183244757516681216, 2361183241459526795344, 2361183239262106026048,
  2361183241462203023410, 2361183241462739894274, 2361183241463277813825, 2361183248061420273728, 2361183241465458072360, 2361183241467044823375, 2361183238170110591040, 2361183241469719216178, 2361183241470256087042, 2361183241470794006593,
  2361183241471866961921, 2361183241472442375784, 2361183241474025979983, 2361183237077578285120, 2361183241476698538034, 2361183240377723781120, 2361183241477773590595, 2361183241478846808065, 2361183240379871264768, 2361183241479940734992,
  2361183241481530376194, 2361183241482067509249, 2361183241482604904449, 2361183241483173763816, 2361183241484768116751, 2361183241486362214402, 2361183241486928451609, 2361183241488509698050, 2361183241489046831105, 2361183241489584226305,
  2361183241490151512616, 2361183241491730923548, 2361183241492284571665, 2361183240394366779392, 2361183241494416588867, 2361183241495490330689, 2361183241496583209103, 2361183241498173374466, 2361183241498711556161, 2361183241499783987200,
  2361183241500354681640, 2361183244800466354176, 2361183241502488789072, 2361183241504078954498, 2361183241504617136193, 2361183248102759333952, 2361183241506797132584, 2361183241508394893647, 2361183236012426395712, 2361183241511058276402,
  2361183241511595147266, 2361183241512133066817, 2361183241513207070785, 2361183241514318569128, 2361183241515891425345, 2361183241516987449487, 2361183241518574469122, 2361183241519112650817, 2361183241520186130497, 2361183241521297890984,
  2361183241522869436416, 2361183241523407880259, 2361183241524481622081, 2361183241525553790978, 2361183241526120028185, 2361183242627212902400, 2361183241528238145564, 2361183241528806736080, 2361183241530385629186, 2361183241530924073025,
  2361183243731019497472, 2361183241532566936360, 2361183241534174920783, 2361183241535754338306, 2361183241536292782145, 2361183244835899834368, 2361183241537935645480, 2361183241539512696833, 2361183241540080500816, 2361183241541659918338,
  2361183241542198362177, 2361183247040828669952, 2361183241543807401986, 2361183241544345845825, 2361183247042976153600, 2361183241545988709160, 2361183242647077126144, 2361183241548102369286, 2361183241548673326184, 2361183242649763053573,
  2361183241551884582929, 2361183241553472127041, 2361183241554544820274]
def xc151 : List Nat := [
  2361183241434822606850, 2361183241435359739905, 2361183242535407976448, 2361183241436467043112, 2361183241438043832322, 2361183241438580703234, 2361183241439117836289, 2361183241439654445056, 2361183241440225139496, 2361183241441840471528,
  2361183241443413065729, 2361183241443949412360, 2361183241444486283271, 2361183241445023940611, 2361183241445560025090, 2361183241446097158145, 2361183242546145394688, 2361183241447171424257, 2361183241447713013967, 2361183241449318121472,
  2361183241449860759569, 2361183241451466391553, 2361183241452036562024, 2361183241453613088821]
def xc152 : List Nat := [
  2361183241434822606850, 2361183241435359477762, 2361183241435896610817, 2361183241436433219584, 2361183241437003914024, 2361183241438581489665, 2361183241439152971496, 2361183241440729235523, 2361183241441802977345, 2361183241442878816463,
  2361183241444486283264, 2361183241445023154227, 2361183241445560025090, 2361183241446097158145, 2361183244745168650240, 2361183241447204461352, 2361183241448782561347, 2361183241449854992386, 2361183241450392125441, 2361183241450929520641,
  2361183241451466653761, 2361183241452575005928, 2361183241454150483969, 2361183241454693646543, 2361183241456297443328, 2361183241456842178577, 2361183241458444926978, 2361183244757516681216, 2361183241459519455233, 2361183241460090937064,
  2361183241461667725379, 2361183241462741467201, 2361183241463827529935, 2361183241465424248834, 2361183241465961381889, 2361183241466533912104, 2361183241468108603394, 2361183241468645736449, 2361183243668205600768, 2361183243668742471680,
  2361183241470290173032, 2361183241471866699778, 2361183241472403832833, 2361183244771475324928, 2361183241473478623297, 2361183241474585140328, 2361183241476161667074, 2361183241476698800129, 2361183245875281920000, 2361183240378260652032,
  2361183241478343236712, 2361183241479919763456, 2361183241480456634419, 2361183241480994029569, 2361183241481546104975, 2361183241483140988930, 2361183241483678384129, 2361183241484215517185, 2361183241484753174593, 2361183241485861002472,
  2361183242586947584000, 2361183241487972827187]
def xc153 : List Nat := [
  2361183241434822606850, 2361183241435359739905, 2361183243634919604224, 2361183244734968102912, 2361183241437004176488, 2361183241438580703234, 2361183241439117836289, 2361183244738189328384, 2361183241440191840257, 2361183241440762272872,
  2361183241442338799618, 2361183241442875932673, 2361183245841459052544, 2361183240344437784576, 2361183241444520369256, 2361183241446096896053]
def xc154 : List Nat := [
  2361183241434822606850, 2361183241435359739905, 2361183241435926502696, 2361183241437512204303, 2361183241439117574146, 2361183241439654707201, 2361183243639214571520, 2361183241440762010408, 2361183243641362055168, 2361183241442880913488,
  2361183241444486283266, 2361183241445023416321, 2361183241445560025088, 2361183241446130719528, 2361183244746242392064, 2361183241448249622544, 2361183241449854992386, 2361183241450392387585, 2361183241450958625384, 2361183241452545114191,
  2361183240354638331904, 2361183241454686830642, 2361183241455223701506, 2361183241455760834561, 2361183249152878837824, 2361183241457405008680, 2361183241458982584323, 2361183241459518668802, 2361183241460055801857, 2361183241460592410626,
  2361183241461129281538, 2361183241461666414593, 2361183244760737906688, 2361183241462773717800, 2361183241464351031297, 2361183241464918842792, 2361183241466537582376, 2361183241468109127681, 2361183241468646522947, 2361183241469719216130,
  2361183241470256611329, 2361183241470823635432, 2361183257965077987392, 2361183241473477312518, 2361183241474015494211, 2361183241475087925248, 2361183241475626369091, 2361183241476698537986, 2361183241477235671041, 2361183241477773066241,
  2361183241478310199361, 2361183241479422746472, 2361183241480995340355, 2361183241482069082177, 2361183241483155931215, 2361183242584263229440, 2361183241485303676945, 2361183241486899085312, 2361183241487438053443, 2361183241488511795265,
  2361183241489614372879, 2361183241491194052610, 2361183241491760289817, 2361183241493341536258, 2361183241493879455809, 2361183241494982826472, 2361183255790213922880, 2361183241497636503558, 2361183241498173374487, 2361183241498710245404,
  2361183242598758744064, 2361183241499783987206, 2361183241500320858141, 2361183241500859301953, 2361183241501931470850, 2361183241502497708057, 2361183241504080265281, 2361183241505152696348, 2361183241505710801104, 2361183242606811807744,
  2361183241507858546705, 2361183241509447663616, 2361183241509986631747, 2361183241511060373569, 2361183241512154562639, 2361183241513758097425, 2361183241515353243650, 2361183241515919480857, 2361183241517502038081, 2361183242618086096896,
  2361183241519111340038, 2361183241519649783873, 2361183241520721952774, 2361183241521258823708, 2361183241521798053955, 2361183242622382637061, 2361183241524480049154, 2361183241525017182209, 2361183241525553790978, 2361183241526091710529,
  2361183241527166763073, 2361183241528269610408, 2361183241529888349992, 2361183241531461730369, 2361183241532534161475, 2361183241533606854658, 2361183241534143987713, 2361183241534681382913, 2361183241535218516033, 2361183241536331063144,
  2361183241537903657027, 2361183241538977398849, 2361183241540079452239, 2361183242641171546112, 2361183241542227197969, 2361183241543807401984, 2361183241544346370115, 2361183241545433481233, 2361183241547030462529, 2361183241548136448079,
  2361183241549712982018, 2361183241550250115073, 2361183241550787772481, 2361183241551900581800, 2361183241553471864833, 2361183241554042028175, 2361183241555618562050, 2361183241556156219393, 2361183241556693352513, 2361183241557806161832,
  2361183241559376658434, 2361183241559913791489, 2361183249257031794752, 2361183240462012514304, 2361183241562095098984, 2361183241563672412161, 2361183241564245721231, 2361183241565819109378, 2361183241566356766721, 2361183249263474245696,
  2361183240468454965248, 2361183241568537549928, 2361183241570115911745, 2361183241571226091535, 2361183241572799479873, 2361183241573911232529, 2361183351526645563456, 2361183241576557576257, 2361183241577630269446, 2361183241578167140402]
def xc155 : List Nat := [
  2361183241434822606848, 2361183241435359739907, 2361183241435896610817, 2361183241436433219586, 2361183241436999456793, 2361183242538092331008, 2361183241439117574172, 2361183241439666766032, 2361183241441265057794, 2361183241441802190849,
  2361183243641362055168, 2361183241442909494056, 2361183241444498079823, 2361183241446096896002, 2361183241446634029057, 2361183241447170637824, 2361183241447741332264, 2361183241449354304681, 2361183241450933977167, 2361183241452551143441,
  2361183241454149959682, 2361183241454687092737, 2361183242554735329280, 2361183241455794395944, 2361183241457371185154, 2361183241457908318209, 2361183241458444926976, 2361183241459015621416, 2361183243659615666176, 2361183241461137670224,
  2361183296438321283136, 2361183241463822286865, 2361183351416587026496, 2361183241466497990662, 2361183241467035385859, 2361183241467571732482, 2361183241468108865537, 2361183242568157102080, 2361183241469182869505, 2361184340981346992256,
  2361183241471341101392, 2361184340984568217728, 2361183241474562588689, 2361183241476162191361, 2361183241476732623976, 2361183242577821040645, 2361183241479920287761, 2361183241481530376194, 2361183241482096613401, 2361183244782212743168,
  2361183241484214730754, 2361183241484780967961, 2361183244784897097728, 2361183241486899085340, 2361183242586947584000, 2361183241487972827142, 2361183267876788764736, 2361183241489583439881, 2361183241490120310813, 2361183241490657181698,
  2361183241491223418905, 2361183244791339548672, 2361183241493341536284, 2361183241493878407218]
def xc156 : List Nat := [
  2361184994056357281920, 2361183254630572752960, 2361183241437507223553, 2361183241438043832328, 2361183241438580703238, 2361183241439117574194]
def xc157 : List Nat := [
  2361183241434822606850, 2361183241435388844057, 2361183243635993346048, 2361183241437506961436, 2361183244736578715648, 2361183241438584897552, 2361183241440191578113, 2361183242540239814656, 2361183241441269252240, 2361183241442875932673,
  2361183250239505563712, 2361183241444490477840, 2361183241446096896002, 2361183241446634291201, 2361183241447200529000, 2361183241448785969231, 2361183240350880235520, 2361183241450928734258, 2361183241451465605122, 2361183241452002476034,
  2361183241452568713241, 2361183243653173215232, 2361183241454686830620, 2361183241455264604136, 2361183241456835100675, 2361183241457371185154, 2361183241457937422361, 2361183241459519455233, 2361183241460055801857, 2361183241460592410653,
  2361183241461129281538, 2361183241461695518745, 2361183241463277551617, 2361183242563325263872, 2361183241464350507014, 2361183241464887902209, 2361183241465424248861, 2361183241465961119746, 2361183241466527356953, 2361183241468109389825,
  2361183243667668729856, 2361183241469182345222, 2361183241469719216128, 2361183241470256087069, 2361183241470792957954, 2361183241471359195161, 2361183241472941228033, 2361183244772012195840, 2361183241474014183430, 2361183241474551054336,
  2361183241475087925277, 2361183241475624796162, 2361183241476191033369, 2361183243676795535360, 2361183241478309150743, 2361183241478846021660, 2361183242578894520320, 2361183241479919763462, 2361183241480456634397, 2361183241480993505282,
  2361183241481559742489, 2361183243682164244480, 2361183241483677859868, 2361183242583726358528, 2361183241484751601671, 2361183241485288472626]
def xc158 : List Nat := [
  2361183241434822606850, 2361183241435359739905, 2361183241435926765608, 2361183241437509058575, 2361183241439117574146, 2361183241439654969345, 2361183241440221207144, 2361183241441804550223, 2361183240343900913664, 2361183241443949412402,
  2361183241444486283266, 2361183241445023416321, 2361183241445600927720, 2361183241447171424259, 2361183241447707508738, 2361183241448273745945, 2361183241449855778817, 2361183243649415118848, 2361183241450928734214, 2361183241451465605143,
  2361183241452002476060, 2361183241452539346946, 2361183241453076217858, 2361183241453642455065, 2361183241455224487937, 2361183242555272200192, 2361183241456297443334, 2361183241456834314268, 2361183241457371709441, 2361183241457939520936,
  2361183241459518668806, 2361183241460055539741, 2361183241460592410626, 2361183241461158647833, 2361183241462740680705, 2361183242562788392960, 2361183241463813636102, 2361183241464351031297, 2361183241464887377949, 2361183241465424248834,
  2361183241465990486041, 2361183241467572518913, 2361183243667131858944, 2361183241468645474310, 2361183241469182345244, 2361183241469719216178]
def xc159 : List Nat := [
  2361183241434822606850, 2361183241435359739905, 2361183241435937251304, 2361183241437507485699, 2361183241438043832320, 2361183241438581489667, 2361183241439117574144, 2361183241439655493699, 2361183241440729235521, 2361183241441801928706,
  2361183241442368165913, 2361183241443949936641, 2361183244743021166592, 2361183241445023154182, 2361183241445560025116, 2361183241446106595536, 2361183241447708295169, 2361183241448244379650, 2361183241448781250562, 2361183241449347487769,
  2361183241450929258497, 2361183245849512116224, 2361183241452002476038, 2361183241452540395585, 2361183241453613088774, 2361183241454149959708, 2361183241454686830592, 2361183241455257525032, 2361183243655857569792, 2361183241457379573840,
  2361183243658005053440, 2361183241459527319569, 2361183242560640909312, 2361183241461666152454, 2361183241462203809795, 2361183242562252570629, 2361183241464352604177, 2361183241465961906177, 2361183241466497990706]
def xc160 : List Nat := [
  2361183241434822606850, 2361183241435359739905, 2361183241435938037864, 2361183241437506961410, 2361183241438044356609, 2361183241438580703232, 2361183241439151397672, 2361183243639751442432, 2361183241441267941456, 2361183243641898926080,
  2361183241443415687185, 2361183242544534781952, 2361183241445560025094, 2361183241446096896002, 2361183241446663133209, 2361183241448244379650, 2361183241448781512705, 2361183241449359024104, 2361183241450928734236, 2361183241451471372560,
  2361183242552587845632, 2361183241453619118097, 2361183241455223701504, 2361183241455760572467]
def xc161 : List Nat := [
  2361183241434822606850, 2361183241435359739905, 2361183241435937251304, 2361183241437507747843, 2361183241438043832322, 2361183241438610069529, 2361183241440192102401, 2361183245838774697984, 2361183241441265057798, 2361183241441801928706,
  2361183241442368165913, 2361183241443950198785, 2361183244743021166592, 2361183241445023154182, 2361183241445560025116, 2361183241446096896006, 2361183241446634291201, 2361183241447170637853, 2361183241447707508738, 2361183241448273745945,
  2361183241449855778817, 2361183244748926746624, 2361183241450928734214, 2361183241451465605143, 2361183241452002476060, 2361183242552050974720, 2361183241453076217862, 2361183241453613088797, 2361183241454149959682, 2361183241454687354881,
  2361183243654246957056, 2361183242555272200192, 2361183241456331529320, 2361183241457908056066, 2361183241458445451265, 2361183244757516681216, 2361183241459518930945, 2361183241460089625704, 2361183241461666152450, 2361183241462203547649,
  2361183245860786405376, 2361183240363765137408, 2361183241463847722088, 2361183241465424248885]
def xc162 : List Nat := [
  2361183241434822606850, 2361183241435359739905, 2361183241435926765608, 2361183241437508534351, 2361183240339605946368, 2361183241439654445106, 2361183241440191315970, 2361183241440757553177, 2361183241442338799618, 2361183241442875932673,
  2361183241443453444072, 2361183242544534781952, 2361183241445560025094, 2361183241446096896028, 2361183241446634553347, 2361183241447170637826, 2361183241447708295169, 2361183241448244903937, 2361183241448814025448, 2361183241450399203343,
  2361183241452002476034, 2361183241452568713241, 2361183241454149959682, 2361183241454687617025, 2361183241455224225793, 2361183241455791774248, 2361183241457371185180, 2361183241457915658257, 2361183240360007041024, 2361183241460056588355,
  2361183241461130330177, 2361183241462212722831, 2361183241463813636098, 2361183241464350769153, 2361183241464888426561, 2361183241466003071144, 2361183241467581956175, 2361183240369670717440, 2361183241469719216178, 2361183241470256087042,
  2361183241470794006593, 2361183241471902621224, 2361183241473477312514, 2361183241474014445569, 2361183241474552102977, 2361183241475667009768, 2361183241477236457537, 2361183241478309150770]
def xc163 : List Nat := [
  2361183241434822606850, 2361183241435359739905, 2361183241435926765608, 2361183241437515350031, 2361183241439117574146, 2361183241439654969345, 2361183241440221469992, 2361183241441810317327, 2361183241443412541442, 2361183241443949936641,
  2361183243643509538816, 2361183241445056977704, 2361183244745168650240, 2361183241447179026512, 2361183241448781250562, 2361183241449318645761, 2361183244748389875712, 2361183241450425686824, 2361183241452002476034, 2361183241452568713241,
  2361183241454149959682, 2361183241454687092737, 2361183241455264604136, 2361183242556345942016, 2361183241457371185158, 2361183241457908056092, 2361183241458453315664, 2361183241460055539714, 2361183241460592672769, 2361183241461129805825,
  2361183241461708103848, 2361183241463285678159, 2361183241464887377920, 2361183241465424248883, 2361183241465961119746, 2361183241466498252801, 2361183241467035385857, 2361183241467613946088, 2361183242568693972992, 2361183241469719216179]
def xc164 : List Nat := [
  2361183241434822606850, 2361183241435359739905, 2361183241435926765608, 2361183241437508534351, 2361183240339605946368, 2361183241439654445106, 2361183241440191315970, 2361183241440728449025, 2361183241441305960424, 2361183241442876194819,
  2361183241443412541442, 2361183241443978778649, 2361183241445560549377, 2361183244744631779328, 2361183241446633766918, 2361183241447170637852, 2361183241447712489551, 2361183240349806493696, 2361183241449854992434, 2361183241450391863298,
  2361183241450958100505, 2361183241452539871233, 2361183245851122728960, 2361183241453613088774, 2361183241454149959708, 2361183241454687617027, 2361183241455223701506, 2361183241455760572418, 2361183241456298229761, 2361183241456834314240,
  2361183241457405008680, 2361183241458981797890, 2361183241459548035097, 2361183241461129805825, 2361183242561177780224, 2361183241462203023366, 2361183241462739894300, 2361183241463312162536, 2361183241464888426563, 2361183241465962168385,
  2361183241467046133967, 2361183240369133846528, 2361183241469182345266, 2361183241469719216130, 2361183241470285453337, 2361183241471867224065, 2361183244770938454016, 2361183241472940441606, 2361183241473477312535, 2361183241474014183452,
  2361183242574062682112, 2361183241475087925255, 2361183241475624796189, 2361183241476161667072, 2361183241476699848771, 2361183241477773590593, 2361183241478846021634, 2361183241479412258841, 2361183241480994029569, 2361183244780065259520,
  2361183241482067247110, 2361183241482604118044, 2361183241483162222800, 2361183241484751601666, 2361183241485317838873, 2361183241486899609601, 2361183245885482467328, 2361183241487972827142, 2361183241488511008833, 2361183241489583439878,
  2361183241490120310786, 2361183241490686547993, 2361183241492268318721, 2361183246990362804224, 2361183241493341536262, 2361183241493879717953, 2361183241494952148998, 2361183241495489019932, 2361183241496025890845, 2361183242596075700229,
  2361183241498187792401, 2361183241499783987202, 2361183241500321644545, 2361183241500857729026, 2361183241501423966233, 2361183241503005736961, 2361183242603053711360, 2361183241504078954502, 2361183241504615825436, 2361183241505153744961,
  2361183241506262097128, 2361183241507837050882, 2361183241508374708225, 2361183247006468931584, 2361183241509447663616, 2361183241510018620520, 2361183241511596195905, 2361183241512668889138]
def xc165 : List Nat := [
  2361183241434822606850, 2361183241435359739905, 2361183241435926765608, 2361183241437508534287, 2361183241439118098433, 2361183241439656542415, 2361183238142730174528, 2361183241442338799666, 2361183241442875670530, 2361183241443412803585,
  2361183241443990314984, 2361183241445560811523, 2361183241446097420289, 2361183241446633767407, 2361183241462739894274, 2361183241463306131481, 2361183241464888164353, 2361183241465424773121, 2361183241465961119750, 2361183241466497990684,
  2361183241467034861618, 2361183241467571732482, 2361183241468108865537, 2361183241468687163496, 2361183241470256087090, 2361183241470792957954, 2361183241471359195161, 2361183241472941228033, 2361183243672500568064, 2361183241474014183430,
  2361183241474551054364, 2361183241475087925298, 2361183241475625320449, 2361183245874208178176, 2361183241476698537991, 2361183241477235408898, 2361183241477801646105, 2361183241479383678977, 2361183244778454646784, 2361183241480456634374,
  2361183241480993505308, 2361183241481543221456, 2361183241483140988930, 2361183241483707226137, 2361183241485289259009, 2361183241485825867777, 2361183241486362214406, 2361183241486899085340, 2361183241487449063441, 2361183240389534941184,
  2361183241489583439922]
def xc166 : List Nat := [
  2361183241434822606850, 2361183241435359739905, 2361183241435926239848, 2361183241437511155727, 2361183241439118098433, 2361183267827933511744, 2361183241440757815721, 2361183241442342993935, 2361183241443950198785, 2361183351395649060928,
  2361183241445589653929, 2361183241447174832143, 2361183241448782299201, 2361183351401017770048, 2361183241450958363049, 2361183241452544065615, 2361183241454149959680, 2361183241454686830643, 2361183241455223701506, 2361183241455760834561,
  2361183241456328120808, 2361183267846187122752, 2361183241458981797894, 2361183241459519979587, 2361183241460592410626, 2361183241461158647833, 2361183241462741205057, 2361183241463813636124, 2361183241464363089999, 2361183241465961119746,
  2361183241466527356953, 2361183241468109914177, 2361183242568693972992, 2361183241469719216157, 2361183242569767714816, 2361183241470794530883, 2361183241471868272705, 2361183294249498574912, 2361183241474026766608, 2361183241475624796162,
  2361183241476191033369, 2361183241477773590593, 2361183241478847594561, 2361183241479919763462, 2361183241480456634368, 2361183241480993505309, 2361183242581043576837, 2361183241483150426129, 2361183241484751601666, 2361183241485317838873,
  2361183241486900396097, 2361183242587484454912, 2361183241488509698054, 2361183241489047093249, 2361183241489583439878, 2361183241490121097217, 2361183241490657181725, 2361183241491194052610, 2361183241491760289817, 2361183241493342847041,
  2361183268982205972544, 2361183241495489019910, 2361183241496026415105, 2361183241496562761734, 2361183241497100681281, 2361183241498173374493, 2361183242598221873152, 2361183241499247116339]
def xc167 : List Nat := [
  2361183241434822606850, 2361183241435359739905, 2361183241435927026152, 2361183267825786028096, 2361183241438580703238, 2361183241439118360579, 2361183241439654445058, 2361183241440191578113, 2361183239241704931392, 2361183241441835490152,
  2361183241443413590083, 2361183241444486283266, 2361183241445023154176, 2361183241445589916122, 2361183241447170637826, 2361183240348195880960, 2361183241448274532890, 2361183241449854992386, 2361183241450392387585, 2361183241450959149658,
  2361183241452539346944, 2361183241453077528643, 2361183241454151270465, 2361183267843502768192, 2361183241456325755088, 2361183241457908056066, 2361183241458474293273, 2361183241460056326145, 2361183241460592410652, 2361183242560640909312,
  2361183241461694464080, 2361183241463276765186, 2361183241463843002393, 2361183241465425035265, 2361183242565472747520, 2361183241466497990662, 2361183241467036172353, 2361183241468108603398, 2361183241468645474332, 2361183241469183918147,
  2361183241470256087042, 2361183241470822324249, 2361183241472404357121, 2361183268960731136064, 2361183241474014183430, 2361183241474552365121, 2361183241475624796166, 2361183241476161667100, 2361183241476700373059, 2361183241477772279810,
  2361183241478339041752, 2361183241479921860675, 2361183241480995078209, 2361183241482081927439, 2361183241483679694913, 2361183241484776767823, 2361183241486363787329, 2361183241487455879503, 2361183240389536514053, 2361183241490657181698,
  2361183241491224468056, 2361183241492805713985, 2361183241493896757328, 2361183241495489019906, 2361183241496025890837, 2361183241496592652760, 2361183242597685002240, 2361183241498710245382, 2361183241499277007322, 2361183241500877651985,
  2361183241502468341762, 2361183241503005212693, 2361183241503572499032, 2361183242604664324096, 2361183241505689567238, 2361183241506256853594, 2361183241507838885953, 2361183241508924424527, 2361183240411011612677, 2361183241512132018178,
  2361183241512699304536, 2361183241514302832719, 2361183241515890114562, 2361183241516426985493, 2361183241516993747416, 2361183242618086096896, 2361183241519111340038, 2361183241519678101978, 2361183241521272455185, 2361183241522869436418,
  2361183241523406307349, 2361183241523973593688, 2361183242625065418752, 2361183241526090661895, 2361183241526657948250, 2361183241528251777041, 2361183241529848758274, 2361183241530415520216, 2361183241531998339137, 2361183241533097771344,
  2361183241534680596482, 2361183241535247620632, 2361183241536855867599, 2361183241538438692866, 2361183241538976874561, 2361183241540079458842, 2361183242641172856837, 2361183241543276298257, 2361183241544881143861]
def xc168 : List Nat := [
  2361183241434822606850, 2361183241435359739905, 2361183241435926239848, 2361183241437511155727, 2361183241439118098433, 2361183241439658639503, 2361183241441265582081, 2361183241441801928706, 2361183241442339061761, 2361183239243852415040,
  2361183241443982973800, 2361183241445564219664, 2361183241447171424257, 2361183244746242392064, 2361183241448274008489, 2361183241449859711055, 2361183238152930721856, 2361183241452539346994, 2361183241453076217858, 2361183241453613350913,
  2361183241454150483969, 2361183241454730617128, 2361183241456298229761, 2361183241456841392207, 2361183241458444926978, 2361183241459011688920, 2361183241460601585681, 2361183241462203809793, 2361183242562251522048, 2361183241463285416016,
  2361183241464887377922, 2361183241465454402072, 2361183241467044036625, 2361183241468645474306, 2361183241469212760664, 2361183241470792958002]
def xc169 : List Nat := [
  2361183241434822606850, 2361183241435359739905, 2361183241435926239848, 2361183241437508534351, 2361182141927489798272, 2361183241440728186930, 2361183241441265057792, 2361183241441802452995, 2361183240342827171840, 2361183241442876456963,
  2361183241443412541440, 2361183241443950460995, 2361183241445024202817, 2361183241446096896002, 2361183241446634029057, 2361183239248147382336, 2361183241448277941096, 2361183241449864167696, 2361183241451465605122, 2361183241452002738177,
  2361183241452540395585, 2361183241453656875304, 2361183241455224487937, 2361183241455767912591, 2361183241457371185154, 2361183241457937947096, 2361183241459519455233, 2361183241460064190672, 2361183241461666152450, 2361183241462232914392,
  2361183241463814422531, 2361183241464351555649, 2361183241465424773123, 2361183242565473796101, 2361183241467574878225, 2361183241469182869505, 2361183241469719216130, 2361183241470256349185, 2361183241470792957952, 2361183241471329828864,
  2361183241471901047720, 2361183241473477312519, 2361183241474014183474]
def xc170 : List Nat := [
  2361183241434822606850, 2361183241435359739905, 2361183241435926239848, 2361183241437509582863, 2361183241439118098433, 2361183240340142817280, 2361183241440193937552, 2361183241441802452993, 2361183254636478332992, 2361183241443415687504,
  2361183241445023154176, 2361183241445560025139, 2361183241446096896002, 2361183241446663133209, 2361183241448244379650, 2361183241448781512705, 2361183241449348798952, 2361183256844091523136, 2361183241452002476038, 2361183241452539871233,
  2361183241453076217885, 2361183242553124716544, 2361183241454149959731]
def xc171 : List Nat := [
  2361183241434822606850, 2361183241435359477760, 2361183241435927550618, 2361183241437506961408, 2361183241438044094467, 2361183241438580965377, 2361183241439117574146, 2361183241439683811353, 2361183241441265057792, 2361183241441801928732,
  2361183241442352955600, 2361183241443949412354, 2361183241444515649561, 2361183241446096896002, 2361183241446634029057, 2361183241447201315304, 2361183256841944039488, 2361183241449854992390, 2361183241450391863324, 2361183241450929258499,
  2361183241451465605122, 2361183241452002738177, 2361183241452539346944, 2361183242552587845632, 2361183241453647436712, 2361183241455224487939, 2361183241455761096705, 2361183241456311074959, 2361183241457908580353, 2361183241458445713409,
  2361183241458990186576, 2361183241460606042129, 2361183241462203023362, 2361183241462770571417, 2361183241464350507010, 2361183241464918579864, 2361183241466498252801, 2361183241467034861597, 2361183241467571732482, 2361183241468139542745,
  2361183241469719216130, 2361183241470287288984, 2361183241471867486209, 2361183241472404094977, 2361183241472940441607, 2361183241473477312541, 2361183241474014183426, 2361183241474551054357, 2361183241475119127192, 2361183242576210165760,
  2361183241477235408902, 2361183241477803481754, 2361183242578894782469, 2361183241480994816017, 2361183241482604118069]
def xc172 : List Nat := [
  2361183241434822606850, 2361183241435359739905, 2361183241435937251304, 2361183241437507485699, 2361183241438043832322, 2361183241438610069529, 2361183241440191840257, 2361183242540239814656, 2361183241441265057798, 2361183241441801928732,
  2361183241442339586051, 2361183241442875670528, 2361183241443413590083, 2361183241444486283264, 2361183241445024464963, 2361183241446096896000, 2361183241446635339843, 2361183241447709081665, 2361183241448781250562, 2361183241449349323416,
  2361183241450944463056, 2361183241452539346946, 2361183241453107681561, 2361183241454688403521, 2361183241455760572444, 2361183241456299278403, 2361183241457372495937, 2361183241458444926978, 2361183241458982584321, 2361183241459518668802,
  2361183241460086216857, 2361183241461667987521, 2361183241462739894300, 2361183241463308230056, 2361183241464887377926, 2361183241465425559619, 2361183241466497990658, 2361183241467065538713, 2361183241468647309377, 2361183241469719216156,
  2361183241470256873475, 2361183241470794006593, 2361183241471866699778, 2361183241472434510041, 2361183241474016018497, 2361183241475087925276, 2361183241475624796166, 2361183241476162715715, 2361183241477236457537, 2361183241478323830927,
  2361183241479920812097, 2361183241480993505282, 2361183241481559742489, 2361183241483141513217, 2361183241483677859868, 2361183241484229935440, 2361183240386313715712, 2361183241486362214450, 2361183242586412285957, 2361183241488514154513,
  2361183241490121359425, 2361183241491210829903, 2361183241492805976129, 2361183241493895446545, 2361183240395977392128, 2361183241496025890866]
def xc173 : List Nat := [
  2361183241434822606850, 2361183241435390679704, 2361183243635993346048, 2361183241437506961415, 2361183241438044094467, 2361183241438580965377, 2361183241439122817167, 2361183241440728186882, 2361183241441296521497, 2361183241442875932673,
  2361183241443412541468, 2361183241443949412354, 2361183241444517746969, 2361183241446097158145, 2361183242546145394688, 2361183241447170637830, 2361183241447707508764, 2361183241448249622864, 2361183240350343626757, 2361183241451466915857,
  2361183241453076480001, 2361183241453619380431, 2361183241455223701504, 2361183241455760572467, 2361183241456297443330, 2361183241456865516184, 2361183242557956554752, 2361183241458981797895, 2361183241459519193091, 2361183241460055539714,
  2361183241460623874329, 2361183241462203547649, 2361183241462739894300, 2361183241463276765186, 2361183241463845099801, 2361183241465424510977, 2361183241465961119772, 2361183241466508476624, 2361183240368597499909, 2361183241469726818321,
  2361183241471329828866, 2361183241471898163481, 2361183241473477574657, 2361183241474014183452, 2361183241474551840771, 2361183241475087925250, 2361183241475656259865, 2361183241477235671041, 2361183241477772279810, 2361183241478340614425,
  2361183241479920287745, 2361183241480456634396, 2361183241480993505309, 2361183241481530376194, 2361183241482098710809, 2361183241483678384129, 2361183241484215517185, 2361183241484751601693, 2361183241485288734721, 2361183242585336971264,
  2361183241486362214406, 2361183241486900133955, 2361183241487972827138, 2361183241488540899992, 2361183242589631938560, 2361183241490657181703, 2361183241491195363395, 2361183241492268843073, 2361183241493342847041, 2361183241494439133392,
  2361183241496025890818, 2361183241496594225433, 2361183241498174423105, 2361183241499247116316, 2361183241499785560131, 2361183241500857729026, 2361183241501426063641, 2361183241503006261313, 2361183241504078954498, 2361183241504647289113,
  2361183241506227748929, 2361183241507300179996, 2361183241507837050909, 2361183241508373921794, 2361183241508942256409, 2361183241510522716225, 2361183241511596720193, 2361183241512668889117, 2361183242612718436357, 2361183240415306055685,
  2361183241516444549137, 2361183242617549225984, 2361183241518574469171]
def xc174 : List Nat := [
  2361183241434822606850, 2361183241435359739905, 2361183241435926765608, 2361183241437510369295, 2361183241439117574146, 2361183241439683811353, 2361183241441265057794, 2361183241441802190849, 2361183241442379702248, 2361183244742484295680,
  2361183241444486283270, 2361183241445023154204, 2361183241445563957583, 2361183240347659010048, 2361183241447707508786, 2361183241448244379650, 2361183241448826085736, 2361183241450391863298, 2361183241450959936152, 2361183249149120741440,
  2361183241453619118416, 2361183240355712073728, 2361183241455760572466, 2361183241456297443328, 2361183241456834838531, 2361183241457371709441, 2361183241457908056066, 2361183241458476128920, 2361183241460067598544, 2361183241461666152450,
  2361183241462203023362, 2361183241462770571417, 2361183241464351031297, 2361183241464887377948, 2361183240365912621056, 2361183241465994681192, 2361183241467571732482, 2361183241468139542745, 2361183241469719740417, 2361183241470256087068,
  2361183241470792957962, 2361183241471341363408, 2361183240373428813824, 2361183241473477312562, 2361183242573526335493, 2361183241475631349777, 2361183241477235408896, 2361183241477772804099, 2361183241478309675009, 2361183241478846021634,
  2361183241479414094488, 2361183241481008971984, 2361183241482604118018, 2361183241483172452633, 2361183241484752125953, 2361183241485288996865, 2361183241485825343517, 2361183242585874366469, 2361183241487985410065, 2361183240390071812096,
  2361183241490120835075, 2361183242590168809472, 2361183241491194839043, 2361183241491731709953, 2361183241492294270991, 2361183241493878407170, 2361183241494415540225, 2361183241494997246376, 2361183241496563810371, 2361183241497637552193,
  2361183241498735673487, 2361183241500321382401, 2361183241500877652111, 2361183241502469390401, 2361183241503542607873, 2361183241504104382672, 2361183241505690615873, 2361183241506763833347, 2361183241507300179968, 2361183241507838361667,
  2361183241508912103489, 2361183241509984534530, 2361183241510552607384, 2361183241512157446352, 2361183241513742630914, 2361183241514311227737, 2361183241515891425345, 2361183241516963856386, 2361183241517531404441, 2361183241519111340034,
  2361183241519679674649, 2361183241521260134465, 2361183241522332565532, 2361183241522869436444, 2361183241523406307357, 2361183242623456116741, 2361183241525574762513, 2361183241527164403714, 2361183241527746634216, 2361183241529312673795,
  2361183241529865273361, 2361183241531459895297, 2361183241532023767247, 2361183240434095226880, 2361183241534143725618, 2361183241534680596482, 2361183241535217467394, 2361183241535785540248, 2361183241537397201626, 2361183241538975563776,
  2361183241539513483331, 2361183241540587225153, 2361183241541659918338, 2361183241542227991192, 2361183241543840170192, 2361183241545418014722, 2361183241545986873753, 2361183241547566547009, 2361183241548639240194, 2361183241549207837017,
  2361183241550787772481, 2361183241551860465692, 2361183241552397336605, 2361183242652446883845, 2361183241554573918225, 2361183241556155957249, 2361183241556692303922]
def xc175 : List Nat := [
  2361183241434822868993, 2361183241435359477762, 2361183241435928599256, 2361183241437536590249, 2361183241439120195599, 2361183241440728186882, 2361183241441297045913, 2361183241442875932673, 2361183241443412541468, 2361183241443952295953,
  2361183240346048397312, 2361183241446096896050]
def xc176 : List Nat := [
  2361183241434822606848, 2361183241435360002051, 2361183241435896348672, 2361183241436434006019, 2361183241436970876929, 2361183241437506961410, 2361183241438075034264, 2361183241439659950288, 2361183241441265057794, 2361183241441832605849,
  2361183241443413327873, 2361183241443949412380, 2361183241444486545409, 2361183241445028134992, 2361183241446633766914, 2361183241447201577177, 2361183241448782036993, 2361183241449318121500, 2361183241449855516675, 2361183242549904277509,
  2361183241452003524625, 2361183241453613613057, 2361183241454149959730]
def xc177 : List Nat := [
  2361183241434822606850, 2361183241435359739905, 2361183241435941970472, 2361183241437507485699, 2361183241438044356609, 2361183241438582800591, 2361183240340679688192, 2361183241440728186930, 2361183241441265057792, 2361183241441802715139,
  2361183241442339586049, 2361183241442875670530, 2361183241443444792024, 2361183241445042553040, 2361183241446633766914, 2361183241447202625945, 2361183241448782036993, 2361183241449318121500, 2361183241449856041027, 2361183241450928734210,
  2361183241451465867265, 2361183241452003524673, 2361183241453117645416, 2361183241454688141379, 2361183241455760572418, 2361183241456298491969, 2361183241457417331368, 2361183241458983370819, 2361183241460055539712, 2361183241460594245699,
  2361183241461667987521, 2361183241462739894274, 2361183241463277813825, 2361183241464381446824, 2361183241465977372880, 2361183241467573305409, 2361183241468661727567, 2361183241470256087042, 2361183241470822324249, 2361183241472403570690,
  2361183241472941490241, 2361183241474016018497, 2361183241475119127080, 2361183241476698538012, 2361183241477237506115, 2361183241478311247937, 2361183241479398621327, 2361183241480993505282, 2361183241481532473409, 2361183241482604118016,
  2361183241483174812456, 2361183243683774857216, 2361183241485302628432, 2361183241486914813969, 2361183241488509698050, 2361183241489046831105, 2361183241489585274945, 2361183241490699657960, 2361183241492269891651, 2361183240393831481349,
  2361183242594465611781, 2361183241496570626065, 2361183241498174947393, 2361183241499265990863, 2361183241500859039809, 2361183241501950345359, 2361183241503542083586, 2361183241504079216641, 2361183241504658826024, 2361183241506227748931,
  2361183242606813380613, 2361183241508927045649, 2361183242610033819653, 2361183241512134639633, 2361183241513743155201, 2361183241514279501874]
def xc178 : List Nat := [
  2361183241434822868993, 2361183245833405988864, 2361183241435925977513, 2361183241437508534351, 2361183241439117574144, 2361183241439654445107, 2361183241440191315970, 2361183241440757815385, 2361183241442339061761, 2361183242542387298304,
  2361183241443412541474, 2361183241443949412352, 2361183241444486807555, 2361183241445023678465, 2361185044644629577856, 2361183241447179026640, 2361183241448781250562, 2361183241449347487769, 2361185044649998286976, 2361183241452539609089,
  2361183242552587845632, 2361183241453613088774, 2361183241454149959688, 2361183241454687354881, 2361183241455223701510, 2361183241455760572418, 2361183241456326809625, 2361183241457908580353, 2361183241458444927004, 2361183241458981797917,
  2361183242559030820869, 2361183241461132689425, 2361183242562251522048, 2361183241463276765235]
def xc179 : List Nat := [
  2361183241434822868993, 2361183245833405988864, 2361183241435925977513, 2361183241437509320719, 2361183241439117574146, 2361183241439684073561, 2361183241441265319937, 2361183241441801928737, 2361183241442341683279, 2361183241443949412352,
  2361183241444486283315, 2361183241445023154176, 2361183241445560549379, 2361183241446097420289, 2361185044645703319680, 2361183241448252768464, 2361183241449854992386, 2361183241450421229593, 2361183241452003000321, 2361183241452539346946,
  2361183241453105584153, 2361185044653756383360, 2361183241456297705473, 2361183242556345942016, 2361183241457371185158, 2361183241457908056072, 2361183241458445451265, 2361183241458981797894, 2361183241459518668828, 2361183241460055539741,
  2361183242560104562693, 2361183241462206431249, 2361183242563325263872, 2361183241464350507059]
def xc180 : List Nat := [
  2361183241434822606848, 2361183241435360002051, 2361183241435896610817, 2361183241436433220143, 2361183241462739894274, 2361183241463306131481, 2361183241464887640065, 2361183241465424248860, 2361183241465961119794, 2361183241466497990656,
  2361183241467035648003, 2361183241467572518913, 2361183241468108603394, 2361183241468674840601, 2361183242569767714816, 2361183241470792957980, 2361183241471338479824, 2361183241472940965889, 2361183241473477312514, 2361183241474014969857,
  2361183243673574309888, 2361183241475121748776, 2361183241476698800129, 2361183244775770292224, 2361183241477772279815, 2361183241478316490832, 2361183242579431391232, 2361183241480464236561, 2361183241482067247104, 2361183241482604118022,
  2361183241483141513219, 2361183242583190274053, 2361183241485291356177, 2361183241486899609601, 2361183241487435956274, 2361183241487972827136, 2361183241488510484483, 2361183241489047355393, 2361183241489583439874, 2361183241490149677081,
  2361183242591242551296, 2361183241492267794460, 2361183241492819607760, 2361183241494415802369, 2361183241494952148994, 2361183241495489806337, 2361183248093095657536, 2361183241497133456168, 2361183243697733500928, 2361183241499260747856,
  2361183242600369356800, 2361183241501408493585, 2361183241503005212672, 2361183241503542083590, 2361183241504079478787, 2361183242604128239621, 2361183241506236137489, 2361183241507837575169, 2361183241508373921842, 2361183241508910792706,
  2361183241509477029913, 2361183244809593159680, 2361183241511595147292, 2361183241512132018226, 2361183240413157261312, 2361183241513205760050]
def xc181 : List Nat := [
  2361183241434824180131, 2361183241436433219605, 2361183241436990284650, 2361183241438580965380, 2361183241439119409635, 2361183241440728186901, 2361183241441294427050, 2361183241442876194820, 2361183241443412541440, 2361183241443950198787,
  2361183241444487069697, 2361183241445023154178, 2361183241445560025143, 2361183246943655034880, 2361183241446633766919, 2361183241447394246928, 2361183241448781250562, 2361183241449318907905, 2361183241449854992438, 2361183310719624413248,
  2361183241451465605131, 2361183241452002476655, 2361183241531459633154, 2361183241531996241922, 2361183241532533899265, 2361183242632581611520, 2361183241533606854662, 2361183241534143725622, 2361183241534701052904, 2361183241536291733506,
  2361183241536828080130, 2361183241537365737473, 2361183242637413449728, 2361183241538438692870, 2361183241538975563830, 2361183241539544163368, 2361183241541346131984, 2361183241542733660160, 2361183241543270531123, 2361183241543807664130,
  2361183241544344272898, 2361183241544881930241, 2361183242644929642496, 2361183241545954885638, 2361183241546491756598, 2361183241547028627458, 2361183241547566284801, 2361183243747125624832, 2361183241548639240198, 2361183241549176111158,
  2361183241549712982018, 2361183241550250639361, 2361183244849321607168, 2361183241551323594758, 2361183241551860465718, 2361183241552418055272, 2361183241554007949334, 2361183241554545344514, 2361183241555081691138, 2361183241555619348481,
  2361183242655667060736, 2361183241556692303878, 2361183241557229174838, 2361183241557766045698, 2361183241558303703041, 2361183243757863043072, 2361183241559376658438, 2361183241559913529398, 2361183241560450400258, 2361183241560988057601,
  2361183244860059025408, 2361183241562061012998, 2361183241562597883958, 2361183241563166745768, 2361183241564745367574, 2361183241565505323025, 2361183241566893113346, 2361183241567429722114, 2361183241567967379457, 2361183242668015091712,
  2361183241569040334854, 2361183241569577205814, 2361183241570114076674, 2361183241570651734017, 2361183243770211074048, 2361183241571724689414, 2361183241572261560374, 2361183241572819412200, 2361183241574409043990, 2361183241574946439170,
  2361183241575482785794, 2361183241576020443137, 2361183242676068155392, 2361183241577093398534, 2361183241577630269494, 2361183241578167140354, 2361183241578704797697, 2361183243778264137728, 2361183241579777753094, 2361183241580314624054,
  2361183241580883748136, 2361183241582462107670, 2361183241583222063121, 2361183241584609853442, 2361183241585146462210, 2361183241585684119553, 2361183242685731831808, 2361183241586757074950, 2361183241587293945910, 2361183241587830816770,
  2361183241588368474113, 2361183243787927814144, 2361183241589441429510, 2361183241589978300470, 2361183241590536414568, 2361183241592125784086, 2361183241592663179266, 2361183241593199525890, 2361183241593737183233, 2361183242693784895488,
  2361183241594810138630, 2361183241595347009590, 2361183241595883880450, 2361183241596421537793, 2361183243795980877824, 2361183241597494493190, 2361183241598031364150, 2361183241598600750504, 2361183241600178847766, 2361183241600938803217,
  2361183241602326593538, 2361183241602863202306, 2361183241603400859649, 2361183242703448571904, 2361183241604473815046, 2361183241605010686006, 2361183241605547556866, 2361183241606085214209, 2361183243805644554240, 2361183241607158169606,
  2361183241607695040566, 2361183241608231911426, 2361183241608769568769, 2361183244907840536576, 2361183241609842524166, 2361183241610379395126, 2361183241610955325455, 2361183242712038506496, 2361183241613103071249, 2361183241614674362368,
  2361183241615232738792, 2361183241616821846038, 2361183241617359241218, 2361183241617895587842, 2361183241618433245185, 2361183242718480957440, 2361183241619506200582, 2361183241620043071542, 2361183241620579942402, 2361183241621117599745,
  2361183243820676939776, 2361183241622190555142, 2361183241622727426102, 2361183241623264296962, 2361183241623801954305, 2361183244922872922112, 2361183241624874909702, 2361183241625411780662, 2361183241625993478159, 2361183242727070892032,
  2361183241628141223953, 2361183241629706747904, 2361183241630276658728, 2361183241631854231574, 2361183241632614187025, 2361183241634001977346, 2361183241634538586114, 2361183241635076243457, 2361183242735123955712, 2361183241636149198854,
  2361183241636686069814, 2361183241637222940674, 2361183241637760598017, 2361183243837319938048, 2361183241638833553414, 2361183241639370424374, 2361183241639929063016, 2361183241641517907990, 2361183241642055303170, 2361183241642591649794,
  2361183241643129307137, 2361183242743177019392, 2361183241644202262534, 2361183241644739133494, 2361183241645276004354, 2361183241645813661697, 2361183243845373001728, 2361183241646886617094, 2361183241647423488054, 2361183241647993661096,
  2361183241649570971670, 2361183241650330927121, 2361183241651718717442, 2361183241652255326210, 2361183241652792983553, 2361183242752840695808, 2361183241653865938950, 2361183241654402809910, 2361183241654939680770, 2361183241655477338113,
  2361183243855036678144, 2361183241656550293510, 2361183241657087164470, 2361183241657646065384, 2361183241659234648086, 2361183241659772043266, 2361183241660308389890, 2361183241660846047233, 2361183242760893759488, 2361183241661919002630,
  2361183241662455873590, 2361183241662992744450, 2361183241663530401793, 2361183243863089741824, 2361183241664603357190, 2361183241665140228150, 2361183241665711712040, 2361183241667287711766, 2361183241668047667217, 2361183241669435457538,
  2361183241669972066306, 2361183241670509723649, 2361183242770557435904, 2361183241671582679046, 2361183241672119550006, 2361183241672656420866, 2361183241673194078209, 2361183243872753418240, 2361183241674267033606, 2361183241674803904566,
  2361183241675340775426, 2361183241675878432769, 2361183244974949400576, 2361183241676951388166, 2361183241677488259126, 2361183241678047422312, 2361183241679635742742, 2361183241680173137922, 2361183241680709484546, 2361183241681247141889,
  2361183242781294854144, 2361183241682320097286, 2361183241682856968246, 2361183241683393839106, 2361183241683931496449, 2361183243883490836480, 2361183241685004451846, 2361183241685541322806, 2361183241686078193666, 2361183241686615851009,
  2361183244985686818816, 2361183241687688806406, 2361183241688225677366, 2361183241688798996392, 2361183241690373160982, 2361183241691133116433, 2361183241692520906754, 2361183241693057515522, 2361183241693595172865, 2361183242793642885120,
  2361183241694668128262, 2361183241695204999222, 2361183241695741870082, 2361183241696279527425, 2361183243895838867456, 2361183241697352482822, 2361183241697889353782, 2361183241698448779240, 2361183241700036837398, 2361183241700574232578,
  2361183241701110579202, 2361183241701648236545, 2361183242801695948800, 2361183241702721191942, 2361183241703258062902, 2361183241703794933762, 2361183241704332591105, 2361183243903891931136, 2361183241705405546502, 2361183241705942417462,
  2361183241706516260904, 2361183241708089901078, 2361183241708849856529, 2361183241710237646850, 2361183241710774255618, 2361183241711311912961, 2361183242811359625216, 2361183241712384868358, 2361183241712921739318, 2361183241713458610178,
  2361183241713996267521, 2361183243913555607552, 2361183241715069222918, 2361183241715606093878, 2361183241716165781608, 2361183241717753577494, 2361183241718290972674, 2361183241718827319298, 2361183241719364976641, 2361183242819412688896,
  2361183241720437932038, 2361183241720974802998, 2361183241721511673858, 2361183241722049331201, 2361183243921608671232, 2361183241723122286598, 2361183241723659157558, 2361183241724233263272, 2361183241725806641174, 2361183241726566596625,
  2361183241727954386946, 2361183241728490995714, 2361183241729028653057, 2361183242829076365312, 2361183241730101608454, 2361183241730638479414, 2361183241731198429416, 2361183241732785963030, 2361183241733323358210, 2361183241733859704834,
  2361183241734397362177, 2361183242834445074432, 2361183241735470317574, 2361183241736007188534, 2361183241736581556520, 2361183241738154672150, 2361183241738914627601, 2361183241740302417922, 2361183241740839026690, 2361183241741376684033,
  2361183242841424396288, 2361183241742449639430, 2361183241742986510390, 2361183241743546722664, 2361183241745133994006, 2361183241745671389186, 2361183241746207735810, 2361183241746745393153, 2361183242846793105408, 2361183241747818348550,
  2361183241748355219510, 2361183241748929849768, 2361183241750502703126, 2361183241751262658577, 2361183241752650448898, 2361183241753187057666, 2361183241753724715009, 2361183242853772427264, 2361183241754797670406, 2361183241755334541366,
  2361183241755895015912, 2361183241757482024982, 2361183241758019420162, 2361183241758555766786, 2361183241759093424129, 2361183242859141136384, 2361183241760166379526, 2361183241760703250486, 2361183241761278143016, 2361183241762850734102,
  2361183241763610689553, 2361183241764998479874, 2361183241765535088642, 2361183241766072745985, 2361183242866120458240, 2361183241767145701382, 2361183241767682572342, 2361183241768219443202, 2361183241768757100545, 2361183243968316440576,
  2361183241769830055942, 2361183241770366926902, 2361183241770927663720, 2361183241772514410518, 2361183241773051805698, 2361183241773588152322, 2361183241774125809665, 2361183242874173521920, 2361183241775198765062, 2361183241775735636022,
  2361183241776272506882, 2361183241776810164225, 2361183243976369504256, 2361183241777883119622, 2361183241778419990582, 2361183241778995145384, 2361183241780567474198, 2361183241781327429649, 2361183241782715219970, 2361183241783251828738,
  2361183241783789486081, 2361183242883837198336, 2361183241784862441478, 2361183241785399312438, 2361183241785936183298, 2361183241786473840641, 2361183243986033180672, 2361183241787546796038, 2361183241788083666998, 2361183241788620537858,
  2361183241789158195201, 2361183245088229163008, 2361183241790231150598, 2361183241790768021558, 2361183241791329020648, 2361183241792915505174, 2361183241793452900354, 2361183241793989246978, 2361183241794526904321, 2361183242894574616576,
  2361183241795599859718, 2361183241796136730678, 2361183241796673601538, 2361183241797211258881, 2361183243996770598912, 2361183241798284214278, 2361183241798821085238, 2361183241799357956098, 2361183241799895613441, 2361183245098966581248,
  2361183241800968568838, 2361183241801505439798, 2361183241802081643304, 2361183241803652923414, 2361183241804412878865, 2361183241805800669186, 2361183241806337277954, 2361183241806874935297, 2361183242906922647552, 2361183241807947890694,
  2361183241808484761654, 2361183241809021632514, 2361183241809559289857, 2361183244009118629888, 2361183241810632245254, 2361183241811169116214, 2361183241811730377576, 2361183241813316599830, 2361183241813853995010, 2361183241814390341634,
  2361183241814927998977, 2361183242914975711232, 2361183241816000954374, 2361183241816537825334, 2361183241817074696194, 2361183241817612353537, 2361183244017171693568, 2361183241818685308934, 2361183241819222179894, 2361183241819799432104,
  2361183241821369663510, 2361183241822129618961, 2361183241823517409282, 2361183241824078670824, 2361183241825664630806, 2361183241826202025986, 2361183241826779016232, 2361183241828348985366, 2361183241829108940817, 2361183241830496731138,
  2361183241831033339906, 2361183241831570997249, 2361183242931618709504, 2361183241832643952646, 2361183241833180823606, 2361183241833717694466, 2361183241834255351809, 2361183244033814691840, 2361183241835328307206, 2361183241835865178166,
  2361183241836426964072, 2361183241838012661782, 2361183241838550056962, 2361183241839086403586, 2361183241839624060929, 2361183242939671773184, 2361183241840697016326, 2361183241841233887286, 2361183241841770758146, 2361183241842308415489,
  2361183244041867755520, 2361183241843381370886, 2361183241843918241846, 2361183241844496280744, 2361183241846065725462, 2361183241846825680913, 2361183241848213471234, 2361183241848750080002, 2361183241849287737345, 2361183242949335449600,
  2361183241850360692742, 2361183241850897563702, 2361183241851434434562, 2361183241851972091905, 2361183244051531431936, 2361183241853045047302, 2361183241853581918262, 2361183241854143966440, 2361183241855729401878, 2361183241856266797058,
  2361183241856803143682, 2361183241857340801025, 2361183242957388513280, 2361183241858413756422, 2361183241858950627382, 2361183241859487498242, 2361183241860025155585, 2361183244059584495616, 2361183241861098110982, 2361183241861634981942,
  2361183241862213283112, 2361183241863782465558, 2361183241864542421009, 2361183241865930211330, 2361183241866466820098, 2361183241867004477441, 2361183242967052189696, 2361183241868077432838, 2361183241868614303798, 2361183241869151174658,
  2361183241869688832001, 2361183244069248172032, 2361183241870761787398, 2361183241871298658358, 2361183241871860968808, 2361183241873446141974, 2361183241873983537154, 2361183241874519883778, 2361183241875057541121, 2361183242975105253376,
  2361183241876130496518, 2361183241876667367478, 2361183241877204238338, 2361183241877741895681, 2361183244077301235712, 2361183241878814851078, 2361183241879351722038, 2361183241879931071912, 2361183241881499205654, 2361183241882259161105,
  2361183241883646951426, 2361183241884183560194, 2361183241884721217537, 2361183242984768929792, 2361183241885794172934, 2361183241886331043894, 2361183241886867914754, 2361183241887405572097, 2361183244086964912128, 2361183241888478527494,
  2361183241889015398454, 2361183241889577971176, 2361183241891162882070, 2361183241891700277250, 2361183241892236623874, 2361183241892774281217, 2361183242992821993472, 2361183241893847236614, 2361183241894384107574, 2361183241894920978434,
  2361183241895458635777, 2361183244095017975808, 2361183241896531591174, 2361183241897068462134, 2361183241897648074280, 2361183241899215945750, 2361183241899975901201, 2361183241901363691522, 2361183241901900300290, 2361183241902437957633,
  2361183243002485669888, 2361183241903510913030, 2361183241904047783990, 2361183241904610618984, 2361183241906195267606, 2361183241906732662786, 2361183241907269009410, 2361183241907806666753, 2361183243007854379008, 2361183241908879622150,
  2361183241909416493110, 2361183241909996367528, 2361183241911563976726, 2361183241912323932177, 2361183241913711722498, 2361183241914248331266, 2361183241914785988609, 2361183243014833700864, 2361183241915858944006, 2361183241916395814966,
  2361183241916932685826, 2361183241917470343169, 2361183244117029683200, 2361183241918543298566, 2361183241919080169526, 2361183241919643266792, 2361183241921227653142, 2361183241921765048322, 2361183241922301394946, 2361183241922839052289,
  2361183243022886764544, 2361183241923912007686, 2361183241924448878646, 2361183241924985749506, 2361183241925523406849, 2361183244125082746880, 2361183241926596362246, 2361183241927133233206, 2361183241927713369896, 2361183241929280716822,
  2361183241930040672273, 2361183241931428462594, 2361183241931965071362, 2361183241932502728705, 2361183243032550440960, 2361183241933575684102, 2361183241934112555062, 2361183241934649425922, 2361183241935187083265, 2361183244134746423296,
  2361183241936260038662, 2361183241936796909622, 2361183241937333780482, 2361183241937871437825, 2361183245236942405632, 2361183241938944393222, 2361183241939481264182, 2361183241940018135042, 2361183241940555792385, 2361183246339138387968,
  2361183241941628747782, 2361183241942165618742, 2361183241942728978280, 2361183241944313102358, 2361183241944850497538, 2361183241945386844162, 2361183241945924501505, 2361183243045972213760, 2361183241946997456902, 2361183241947534327862,
  2361183241948071198722, 2361183241948608856065, 2361183244148168196096, 2361183241949681811462, 2361183241950218682422, 2361183241950755553282, 2361183241951293210625, 2361183245250364178432, 2361183241952366166022, 2361183241952903036982,
  2361183241953439907842, 2361183241953977565185, 2361183246352560160768, 2361183241955050520582, 2361183241955587391542, 2361183241956167790504, 2361183241957734875158, 2361183241958494830609, 2361183241959882620930, 2361183241960419229698,
  2361183241960956887041, 2361183243061004599296, 2361183241962029842438, 2361183241962566713398, 2361183241963103584258, 2361183241963641241601, 2361183244163200581632, 2361183241964714196998, 2361183241965251067958, 2361183241965787938818,
  2361183241966325596161, 2361183245265396563968, 2361183241967398551558, 2361183241967935422518, 2361183241968499044328, 2361183241970082906134, 2361183241970620301314, 2361183241971156647938, 2361183241971694305281, 2361183243071742017536,
  2361183241972767260678, 2361183241973304131638, 2361183241973841002498, 2361183241974378659841, 2361183244173937999872, 2361183241975451615238, 2361183241975988486198, 2361183241976525357058, 2361183241977063014401, 2361183245276133982208,
  2361183241978135969798, 2361183241978672840758, 2361183241979253764136, 2361183241980820324374, 2361183241981580279825, 2361183241982968070146, 2361183241983504678914, 2361183241984042336257, 2361183243084090048512, 2361183241985115291654,
  2361183241985652162614, 2361183241986216046696, 2361183241987799646230, 2361183241988337041410, 2361183241988873388034, 2361183241989411045377, 2361183243089458757632, 2361183241990484000774, 2361183241991020871734, 2361183241991602057384,
  2361183241993168355350, 2361183241993928310801, 2361183241995316101122, 2361183241995852709890, 2361183241996390367233, 2361183243096438079488, 2361183241997463322630, 2361183241998000193590, 2361183241998537064450, 2361183241999074721793,
  2361183244198634061824, 2361183242000147677190, 2361183242000684548150, 2361183242001248694504, 2361183242002832031766, 2361183242003369426946, 2361183242003905773570, 2361183242004443430913, 2361183243104491143168, 2361183242005516386310,
  2361183242006053257270, 2361183242006590128130, 2361183242007127785473, 2361183244206687125504, 2361183242008200740870, 2361183242008737611830, 2361183242009319059752, 2361183242010885095446, 2361183242011645050897, 2361183242013032841218,
  2361183242013569449986, 2361183242014107107329, 2361183243114154819584, 2361183242015180062726, 2361183242015716933686, 2361183242016281342312, 2361183242017864417302, 2361183242018401812482, 2361183242018938159106, 2361183242019475816449,
  2361183243119523528704, 2361183242020548771846, 2361183242021085642806, 2361183242021668139432, 2361183242023233126422, 2361183242023993081873, 2361183242025380872194, 2361183242025917480962, 2361183242026455138305, 2361183243126502850560,
  2361183242027528093702, 2361183242028064964662, 2361183242028629635560, 2361183242030212448278, 2361183242030749843458, 2361183242031286190082, 2361183242031823847425, 2361183243131871559680, 2361183242032896802822, 2361183242033433673782,
  2361183242034016432680, 2361183242035581157398, 2361183242036341112849, 2361183242037728903170, 2361183242038265511938, 2361183242038803169281, 2361183243138850881536, 2361183242039876124678, 2361183242040412995638, 2361183242040977928808,
  2361183242042560479254, 2361183242043097874434, 2361183242043634221058, 2361183242044171878401, 2361183243144219590656, 2361183242045244833798, 2361183242045781704758, 2361183242046364988072, 2361183242047929188374, 2361183242048689143825,
  2361183242050076934146, 2361183242050613542914, 2361183242051151200257, 2361183243151198912512, 2361183242052224155654, 2361183242052761026614, 2361183242053326222056, 2361183242054908510230, 2361183242055445905410, 2361183242055982252034,
  2361183242056519909377, 2361183243156567621632, 2361183242057592864774, 2361183242058129735734, 2361183242058713281320, 2361183242060277219350, 2361183242061037174801, 2361183242062424965122, 2361183242062961573890, 2361183242063499231233,
  2361183243163546943488, 2361183242064572186630, 2361183242065109057590, 2361183242065674515304, 2361183242067256541206, 2361183242067793936386, 2361183242068330283010, 2361183242068867940353, 2361183243168915652608, 2361183242069940895750,
  2361183242070477766710, 2361183242071061574568, 2361183242072625250326, 2361183242073385205777, 2361183242074772996098, 2361183242075309604866, 2361183242075847262209, 2361183243175894974464, 2361183242076920217606, 2361183242077457088566,
  2361183242078022808552, 2361183242079604572182, 2361183242080141967362, 2361183242080678313986, 2361183242081215971329, 2361183243181263683584, 2361183242082288926726, 2361183242082825797686, 2361183242083409867816, 2361183242084973281302,
  2361183242085733236753, 2361183247584679690245, 2361183242088733999121, 2361183243189853618176, 2361183242090878861363]
abbrev XM : Type := MethodName × Nat × Nat × (Nat × Nat × Nat × Nat) × (Nat × Nat × Nat) × (Nat × Nat × Nat × Nat) × List Nat
def xmt0 : List XM := [
  (⟨"WheelStands$Cart", "<init>", "(I)V"⟩, 2, 0, (1, 40, 1, 8), (2, 2, 0), (196, 195, 0, 49), xc0),
  (⟨"WheelStands$Cart", "setUp", "(II)V"⟩, 3, 0, (0, 0, 0, 0), (3, 0, 0), (550, 548, 549, 49), xc1),
  (⟨"WheelStands$Cart", "copyFrom", "(LWheelStands$Cart;)V"⟩, 2, 0, (1, 40, 0, 0), (2, 0, 0), (743, 741, 742, 49), xc2),
  (⟨"WheelStands$Cart", "hasRoomFor", "(LWheelStands$Wheel;)Z"⟩, 2, 2, (2, 40, 0, 0), (2, 0, 0), (570, 568, 569, 49), xc3),
  (⟨"WheelStands$Cart", "wheelOn", "(I)I"⟩, 2, 1, (0, 0, 0, 0), (2, 0, 0), (595, 593, 594, 49), xc4),
  (⟨"WheelStands$Cart", "takeOn", "(LWheelStands$Wheel;)V"⟩, 2, 0, (3, 61, 0, 0), (2, 0, 0), (580, 578, 579, 49), xc5),
  (⟨"WheelStands$Cart", "letFirstGo", "(LWheelStands$Wheel;)V"⟩, 3, 0, (2, 40, 0, 0), (2, 0, 0), (604, 602, 603, 49), xc6),
  (⟨"WheelStands$Demand", "<init>", "()V"⟩, 1, 0, (1, 40, 2, 48), (1, 2, 1), (79, 78, 0, 47), xc7),
  (⟨"WheelStands$Demand", "allows", "(I)Z"⟩, 1, 2, (0, 0, 0, 0), (1, 1, 1), (619, 618, 0, 47), xc8),
  (⟨"WheelStands$Demand", "forget", "()V"⟩, 2, 0, (0, 0, 0, 0), (1, 0, 1), (313, 311, 312, 47), xc9),
  (⟨"WheelStands$Demand", "copyFrom", "(LWheelStands$Demand;)V"⟩, 2, 0, (1, 40, 0, 0), (2, 0, 1), (734, 732, 733, 47), xc10),
  (⟨"WheelStands$Demand", "tellHour", "(III)Z"⟩, 4, 2, (1, 20, 0, 0), (4, 0, 1), (616, 614, 615, 47), xc11),
  (⟨"WheelStands$Demand", "runFrom", "(III)I"⟩, 10, 1, (1, 40, 0, 0), (4, 0, 1), (631, 629, 630, 47), xc12),
  (⟨"WheelStands$Demand", "bestStart", "(I)I"⟩, 6, 1, (2, 69, 0, 0), (2, 0, 1), (640, 638, 639, 47), xc13),
  (⟨"WheelStands$Stand", "<init>", "(I)V"⟩, 2, 0, (2, 60, 6, 83), (2, 2, 2), (73, 72, 0, 46), xc14),
  (⟨"WheelStands$Stand", "setUp", "(I)V"⟩, 3, 0, (1, 21, 0, 0), (2, 0, 2), (309, 307, 308, 46), xc15),
  (⟨"WheelStands$Stand", "copyFrom", "(LWheelStands$Stand;)V"⟩, 2, 0, (2, 61, 0, 0), (2, 0, 2), (727, 725, 726, 46), xc16),
  (⟨"WheelStands$Stand", "hasDock", "(I)Z"⟩, 2, 2, (0, 0, 0, 0), (2, 0, 2), (345, 343, 344, 46), xc17),
  (⟨"WheelStands$Stand", "addOther", "(I)I"⟩, 3, 1, (1, 40, 0, 0), (2, 0, 2), (329, 327, 328, 46), xc18),
  (⟨"WheelStands$Stand", "otherAt", "(I)I"⟩, 2, 1, (0, 0, 0, 0), (2, 0, 2), (520, 518, 519, 46), xc19),
  (⟨"WheelStands$Stand", "lengthTo", "(I)I"⟩, 2, 1, (0, 0, 0, 0), (2, 0, 2), (476, 474, 475, 46), xc20),
  (⟨"WheelStands$Stand", "docksWith", "(I)I"⟩, 4, 1, (0, 0, 0, 0), (2, 0, 2), (361, 359, 360, 46), xc21),
  (⟨"WheelStands$Stand", "freeDocks", "()I"⟩, 1, 1, (1, 23, 0, 0), (1, 0, 2), (357, 355, 356, 46), xc22),
  (⟨"WheelStands$Stand", "usableDocks", "()I"⟩, 1, 1, (1, 23, 0, 0), (1, 0, 2), (627, 625, 626, 46), xc23),
  (⟨"WheelStands$Stand", "isFree", "(II)Z"⟩, 3, 2, (1, 21, 0, 0), (3, 0, 2), (384, 382, 383, 46), xc24),
  (⟨"WheelStands$Stand", "roomFor", "(I)I"⟩, 3, 1, (2, 43, 0, 0), (2, 0, 2), (515, 513, 514, 46), xc25)]
def xmt1 : List XM := [
  (⟨"WheelStands$Stand", "fill", "(III)V"⟩, 5, 0, (1, 21, 0, 0), (4, 0, 2), (414, 412, 413, 46), xc26),
  (⟨"WheelStands$Tour", "<init>", "()V"⟩, 1, 0, (1, 40, 5, 1045), (1, 2, 3), (263, 262, 0, 50), xc27),
  (⟨"WheelStands$Tour", "stopAt", "(I)I"⟩, 2, 1, (0, 0, 0, 0), (2, 0, 3), (702, 700, 701, 50), xc28),
  (⟨"WheelStands$Tour", "prepare", "(LWheelStands$Town;LWheelStands$Cart;)I"⟩, 4, 1, (5, 120, 0, 0), (3, 0, 3), (653, 651, 652, 50), xc29),
  (⟨"WheelStands$Tour", "gather", "(LWheelStands$Town;)Z"⟩, 5, 2, (3, 66, 0, 0), (2, 0, 3), (657, 656, 3, 50), xc30),
  (⟨"WheelStands$Tour", "allStands", "()I"⟩, 1, 1, (0, 0, 0, 0), (1, 0, 3), (671, 670, 5, 50), xc31),
  (⟨"WheelStands$Tour", "addUpHeld", "()V"⟩, 3, 0, (1, 20, 0, 0), (1, 0, 3), (667, 666, 4, 50), xc32),
  (⟨"WheelStands$Tour", "measureLeft", "(LWheelStands$Town;I)V"⟩, 6, 0, (4, 93, 0, 0), (3, 0, 3), (675, 674, 6, 50), xc33),
  (⟨"WheelStands$Tour", "leastOnward", "(LWheelStands$Town;II)I"⟩, 6, 1, (3, 68, 0, 0), (4, 0, 3), (679, 678, 7, 50), xc34),
  (⟨"WheelStands$Tour", "onwardBy", "(LWheelStands$Town;III)I"⟩, 5, 1, (2, 44, 0, 0), (5, 0, 3), (684, 683, 8, 50), xc35),
  (⟨"WheelStands$Tour", "trace", "(LWheelStands$Town;I)V"⟩, 8, 0, (4, 93, 0, 0), (3, 0, 3), (690, 689, 9, 50), xc36),
  (⟨"WheelStands$Tour", "leadsOn", "(LWheelStands$Town;IIII)Z"⟩, 6, 2, (3, 68, 0, 0), (6, 0, 3), (694, 693, 10, 50), xc37),
  (⟨"WheelStands$Town", "<init>", "()V"⟩, 2, 0, (3, 81, 153, 1824), (1, 2, 4), (66, 65, 0, 45), xc38),
  (⟨"WheelStands$Town", "copyFrom", "(LWheelStands$Town;)V"⟩, 3, 0, (3, 82, 0, 0), (2, 0, 4), (723, 721, 722, 45), xc39),
  (⟨"WheelStands$Town", "standAt", "(I)LWheelStands$Stand;"⟩, 2, 3, (0, 0, 0, 0), (2, 0, 4), (321, 319, 320, 45), xc40),
  (⟨"WheelStands$Town", "wheelAt", "(I)LWheelStands$Wheel;"⟩, 2, 4, (0, 0, 0, 0), (2, 0, 4), (423, 421, 422, 45), xc41),
  (⟨"WheelStands$Town", "cartAt", "(I)LWheelStands$Cart;"⟩, 2, 5, (0, 0, 0, 0), (2, 0, 4), (558, 556, 557, 45), xc42),
  (⟨"WheelStands$Town", "wheelIn", "(II)LWheelStands$Wheel;"⟩, 4, 4, (1, 21, 0, 0), (3, 0, 4), (461, 459, 460, 45), xc43),
  (⟨"WheelStands$Town", "addStand", "(I)I"⟩, 2, 1, (2, 43, 0, 0), (2, 0, 4), (305, 303, 304, 45), xc44),
  (⟨"WheelStands$Town", "addWheel", "(ILWheelStands$Stand;I)I"⟩, 5, 1, (3, 68, 0, 0), (4, 0, 4), (389, 387, 388, 45), xc45),
  (⟨"WheelStands$Town", "addCart", "(II)I"⟩, 3, 1, (1, 22, 0, 0), (3, 0, 4), (546, 544, 545, 45), xc46),
  (⟨"WheelStands$Town", "wheelsIn", "(I)I"⟩, 4, 1, (0, 0, 0, 0), (2, 0, 4), (756, 754, 755, 45), xc47),
  (⟨"WheelStands$Town", "knownBroken", "()I"⟩, 3, 1, (0, 0, 0, 0), (1, 0, 4), (760, 758, 759, 45), xc48),
  (⟨"WheelStands$Town", "wheelsAt", "(II)I"⟩, 5, 1, (1, 22, 0, 0), (3, 0, 4), (365, 363, 364, 45), xc49),
  (⟨"WheelStands$Town", "movableAt", "(I)I"⟩, 4, 1, (1, 22, 0, 0), (2, 0, 4), (373, 371, 372, 45), xc50),
  (⟨"WheelStands$Town", "surplusAt", "(LWheelStands$Stand;)I"⟩, 2, 1, (2, 45, 0, 0), (2, 0, 4), (661, 659, 660, 45), xc51)]
def xmt2 : List XM := [
  (⟨"WheelStands$Town", "lengthBetween", "(II)I"⟩, 4, 1, (1, 21, 0, 0), (3, 0, 4), (472, 470, 471, 45), xc52),
  (⟨"WheelStands$Town", "nearestLength", "(I)I"⟩, 4, 1, (2, 44, 0, 0), (2, 0, 4), (468, 466, 467, 45), xc53),
  (⟨"WheelStands$Town", "putInDock", "(LWheelStands$Wheel;LWheelStands$Stand;I)V"⟩, 4, 0, (2, 45, 0, 0), (4, 0, 4), (405, 403, 404, 45), xc54),
  (⟨"WheelStands$Town", "clearDock", "(LWheelStands$Wheel;)V"⟩, 3, 0, (2, 45, 0, 0), (2, 0, 4), (499, 497, 498, 45), xc55),
  (⟨"WheelStands$Town", "lend", "(LWheelStands$Wheel;LWheelStands$Wheel;)V"⟩, 5, 0, (4, 89, 0, 0), (3, 0, 4), (491, 489, 490, 45), xc56),
  (⟨"WheelStands$Town", "lendOne", "(LWheelStands$Wheel;LWheelStands$Wheel;)V"⟩, 3, 0, (3, 67, 0, 0), (3, 0, 4), (495, 494, 0, 45), xc57),
  (⟨"WheelStands$Town", "bringBack", "(LWheelStands$Wheel;LWheelStands$Stand;)V"⟩, 9, 0, (4, 93, 0, 0), (3, 0, 4), (507, 505, 506, 45), xc58),
  (⟨"WheelStands$Town", "docksBoth", "(LWheelStands$Wheel;LWheelStands$Wheel;LWheelStands$Stand;)Z"⟩, 6, 2, (3, 68, 0, 0), (4, 0, 4), (511, 510, 1, 45), xc59),
  (⟨"WheelStands$Town", "leaveOnStreet", "(LWheelStands$Wheel;LWheelStands$Wheel;I)V"⟩, 4, 0, (1, 23, 0, 0), (4, 0, 4), (524, 523, 2, 45), xc60),
  (⟨"WheelStands$Town", "moveCart", "(LWheelStands$Cart;I)V"⟩, 3, 0, (2, 44, 0, 0), (3, 0, 4), (562, 560, 561, 45), xc61),
  (⟨"WheelStands$Town", "takeFromDock", "(LWheelStands$Cart;LWheelStands$Wheel;)V"⟩, 3, 0, (4, 82, 0, 0), (3, 0, 4), (575, 573, 574, 45), xc62),
  (⟨"WheelStands$Town", "giveFirst", "(LWheelStands$Cart;LWheelStands$Wheel;)Z"⟩, 5, 2, (3, 68, 0, 0), (3, 0, 4), (599, 597, 598, 45), xc63),
  (⟨"WheelStands$Town", "serve", "(LWheelStands$Cart;I)V"⟩, 7, 0, (5, 104, 0, 0), (3, 0, 4), (710, 708, 709, 45), xc64),
  (⟨"WheelStands$Wheel", "<init>", "(I)V"⟩, 2, 0, (1, 40, 0, 0), (2, 2, 5), (139, 138, 0, 48), xc65),
  (⟨"WheelStands$Wheel", "setUp", "(I)V"⟩, 2, 0, (1, 23, 0, 0), (2, 0, 5), (393, 391, 392, 48), xc66),
  (⟨"WheelStands$Wheel", "copyFrom", "(LWheelStands$Wheel;)V"⟩, 2, 0, (0, 0, 0, 0), (2, 0, 5), (739, 737, 738, 48), xc67),
  (⟨"WheelStands$Wheel", "moveTo", "(III)V"⟩, 4, 0, (0, 0, 0, 0), (4, 0, 5), (401, 399, 400, 48), xc68),
  (⟨"WheelStands$Wheel", "sizeOf", "(I)I"⟩, 1, 1, (0, 0, 0, 0), (1, 1, 5), (380, 379, 0, 48), xc69),
  (⟨"WheelStands$Wheel", "size", "()I"⟩, 1, 1, (1, 20, 0, 0), (1, 0, 5), (409, 407, 408, 48), xc70),
  (⟨"WheelStands$Wheel", "hasCharge", "()Z"⟩, 1, 2, (0, 0, 0, 0), (1, 0, 5), (397, 395, 396, 48), xc71),
  (⟨"WheelStands$Wheel", "chargeFor", "(I)I"⟩, 2, 1, (1, 20, 0, 0), (2, 0, 5), (487, 485, 486, 48), xc72),
  (⟨"WheelStands$Wheel", "lasts", "(I)Z"⟩, 2, 2, (2, 41, 0, 0), (2, 0, 5), (483, 481, 482, 48), xc73),
  (⟨"WheelStands$Wheel", "ride", "(I)V"⟩, 2, 0, (2, 41, 0, 0), (2, 0, 5), (528, 526, 527, 48), xc74),
  (⟨"WheelStands$Wheel", "chargeAnHour", "()V"⟩, 1, 0, (1, 40, 0, 0), (1, 0, 5), (537, 535, 536, 48), xc75),
  (⟨"WheelStands$Wheel", "isAt", "(II)Z"⟩, 3, 2, (0, 0, 0, 0), (3, 0, 5), (369, 367, 368, 48), xc76),
  (⟨"WheelStands", "<init>", "()V"⟩, 1, 0, (4, 102, 161, 2887), (1, 2, 6), (58, 57, 0, 44), xc77)]
def xmt3 : List XM := [
  (⟨"WheelStands", "stand", "(I)I"⟩, 2, 1, (3, 64, 0, 0), (2, 0, 6), (301, 299, 300, 44), xc78),
  (⟨"WheelStands", "length", "(III)Z"⟩, 6, 2, (1, 21, 0, 0), (4, 0, 6), (317, 315, 316, 44), xc79),
  (⟨"WheelStands", "next", "(II)I"⟩, 4, 1, (2, 62, 0, 0), (3, 0, 6), (325, 323, 324, 44), xc80),
  (⟨"WheelStands", "tear", "(II)Z"⟩, 4, 2, (1, 21, 0, 0), (3, 0, 6), (336, 334, 335, 44), xc81),
  (⟨"WheelStands", "block", "(IIZ)Z"⟩, 5, 2, (1, 21, 0, 0), (4, 0, 6), (341, 339, 340, 44), xc82),
  (⟨"WheelStands", "dock", "(II)I"⟩, 4, 1, (1, 21, 0, 0), (3, 0, 6), (349, 347, 348, 44), xc83),
  (⟨"WheelStands", "tell", "(II)I"⟩, 4, 1, (2, 46, 0, 0), (3, 0, 6), (353, 351, 352, 44), xc84),
  (⟨"WheelStands", "put", "(III)I"⟩, 5, 1, (4, 92, 0, 0), (4, 0, 6), (377, 375, 376, 44), xc85),
  (⟨"WheelStands", "charge", "(II)I"⟩, 5, 1, (1, 23, 0, 0), (3, 0, 6), (419, 417, 418, 44), xc86),
  (⟨"WheelStands", "wheel", "(II)I"⟩, 4, 1, (1, 21, 0, 0), (3, 0, 6), (437, 435, 436, 44), xc87),
  (⟨"WheelStands", "fault", "(I)Z"⟩, 3, 2, (1, 21, 0, 0), (2, 0, 6), (441, 439, 440, 44), xc88),
  (⟨"WheelStands", "test", "(I)I"⟩, 3, 1, (1, 21, 0, 0), (2, 0, 6), (445, 443, 444, 44), xc89),
  (⟨"WheelStands", "mend", "(I)Z"⟩, 3, 2, (1, 21, 0, 0), (2, 0, 6), (449, 447, 448, 44), xc90),
  (⟨"WheelStands", "doubt", "(II)I"⟩, 6, 1, (0, 0, 0, 0), (3, 0, 6), (453, 451, 452, 44), xc91),
  (⟨"WheelStands", "hire", "(III)I"⟩, 6, 1, (5, 113, 0, 0), (4, 0, 6), (457, 455, 456, 44), xc92),
  (⟨"WheelStands", "end", "(II)I"⟩, 5, 1, (5, 121, 0, 0), (3, 0, 6), (503, 501, 502, 44), xc93),
  (⟨"WheelStands", "hour", "()I"⟩, 2, 1, (2, 60, 0, 0), (1, 0, 6), (533, 531, 532, 44), xc94),
  (⟨"WheelStands", "cart", "(II)I"⟩, 3, 1, (2, 44, 0, 0), (3, 0, 6), (542, 540, 541, 44), xc95),
  (⟨"WheelStands", "drive", "(II)I"⟩, 4, 1, (3, 66, 0, 0), (3, 0, 6), (554, 552, 553, 44), xc96),
  (⟨"WheelStands", "pick", "(II)I"⟩, 5, 1, (5, 104, 0, 0), (3, 0, 6), (566, 564, 565, 44), xc97),
  (⟨"WheelStands", "fetch", "(II)Z"⟩, 5, 2, (4, 82, 0, 0), (3, 0, 6), (586, 584, 585, 44), xc98),
  (⟨"WheelStands", "drop", "(I)I"⟩, 4, 1, (4, 92, 0, 0), (2, 0, 6), (591, 589, 590, 44), xc99),
  (⟨"WheelStands", "load", "(II)I"⟩, 4, 1, (1, 21, 0, 0), (3, 0, 6), (608, 606, 607, 44), xc100),
  (⟨"WheelStands", "demand", "(IIII)Z"⟩, 6, 2, (2, 43, 0, 0), (5, 0, 6), (612, 610, 611, 44), xc101),
  (⟨"WheelStands", "runs", "(III)I"⟩, 5, 1, (2, 69, 0, 0), (4, 0, 6), (623, 621, 622, 44), xc102),
  (⟨"WheelStands", "shortage", "(I)I"⟩, 3, 1, (3, 94, 0, 0), (2, 0, 6), (636, 634, 635, 44), xc103)]
def xmt4 : List XM := [
  (⟨"WheelStands", "want", "(II)Z"⟩, 4, 2, (1, 21, 0, 0), (3, 0, 6), (645, 643, 644, 44), xc104),
  (⟨"WheelStands", "plan", "(I)I"⟩, 2, 1, (6, 143, 0, 0), (2, 0, 6), (649, 647, 648, 44), xc105),
  (⟨"WheelStands", "round", "(I)I"⟩, 2, 1, (1, 21, 0, 0), (2, 0, 6), (698, 696, 697, 44), xc106),
  (⟨"WheelStands", "carry", "(I)I"⟩, 5, 1, (6, 143, 0, 0), (2, 0, 6), (706, 704, 705, 44), xc107),
  (⟨"WheelStands", "image", "(I)Z"⟩, 2, 2, (4, 104, 154, 1831), (2, 0, 6), (719, 717, 718, 44), xc108),
  (⟨"WheelStands", "again", "(I)Z"⟩, 2, 2, (4, 104, 0, 0), (2, 0, 6), (748, 746, 747, 44), xc109),
  (⟨"WheelStands", "count", "(I)I"⟩, 2, 1, (1, 23, 0, 0), (2, 0, 6), (752, 750, 751, 44), xc110),
  (⟨"WheelStands", "thousandthsOf", "(I)I"⟩, 4, 1, (0, 0, 0, 0), (1, 1, 6), (427, 426, 0, 44), xc111),
  (⟨"WheelStandsModel", "<init>", "()V"⟩, 3, 0, (1, 40, 7, 8249), (1, 2, 7), (765, 764, 0, 51), xc112),
  (⟨"WheelStandsModel", "isIn", "(II)Z"⟩, 2, 2, (0, 0, 0, 0), (2, 1, 7), (827, 826, 0, 51), xc113),
  (⟨"WheelStandsModel", "isStand", "(I)Z"⟩, 2, 2, (1, 21, 0, 0), (2, 0, 7), (824, 823, 13, 51), xc114),
  (⟨"WheelStandsModel", "isWheel", "(I)Z"⟩, 2, 2, (1, 21, 0, 0), (2, 0, 7), (898, 897, 23, 51), xc115),
  (⟨"WheelStandsModel", "isCart", "(I)Z"⟩, 2, 2, (1, 21, 0, 0), (2, 0, 7), (989, 988, 34, 51), xc116),
  (⟨"WheelStandsModel", "standAt", "(I)I"⟩, 2, 1, (0, 0, 0, 0), (2, 0, 7), (812, 811, 11, 51), xc117),
  (⟨"WheelStandsModel", "docks", "(I)I"⟩, 2, 1, (1, 21, 0, 0), (2, 0, 7), (847, 846, 15, 51), xc118),
  (⟨"WheelStandsModel", "dockAt", "(II)I"⟩, 3, 1, (1, 21, 0, 0), (3, 0, 7), (816, 815, 12, 51), xc119),
  (⟨"WheelStandsModel", "far", "(II)I"⟩, 3, 1, (0, 0, 0, 0), (3, 0, 7), (937, 936, 25, 51), xc120),
  (⟨"WheelStandsModel", "stand", "(I)I"⟩, 4, 1, (2, 43, 0, 0), (2, 0, 7), (808, 806, 807, 51), xc121),
  (⟨"WheelStandsModel", "length", "(III)Z"⟩, 4, 2, (2, 42, 0, 0), (4, 0, 7), (820, 818, 819, 51), xc122),
  (⟨"WheelStandsModel", "next", "(II)I"⟩, 4, 1, (2, 42, 0, 0), (3, 0, 7), (831, 829, 830, 51), xc123),
  (⟨"WheelStandsModel", "tear", "(II)Z"⟩, 4, 2, (2, 42, 0, 0), (3, 0, 7), (835, 833, 834, 51), xc124),
  (⟨"WheelStandsModel", "isDock", "(II)Z"⟩, 3, 2, (2, 42, 0, 0), (3, 0, 7), (843, 842, 14, 51), xc125),
  (⟨"WheelStandsModel", "block", "(IIZ)Z"⟩, 5, 2, (3, 64, 0, 0), (4, 0, 7), (839, 837, 838, 51), xc126),
  (⟨"WheelStandsModel", "dock", "(II)I"⟩, 3, 1, (3, 64, 0, 0), (3, 0, 7), (851, 849, 850, 51), xc127),
  (⟨"WheelStandsModel", "countDocks", "(II)I"⟩, 6, 1, (2, 43, 0, 0), (3, 0, 7), (859, 858, 16, 51), xc128),
  (⟨"WheelStandsModel", "of", "(II)I"⟩, 3, 1, (0, 0, 0, 0), (3, 0, 7), (867, 866, 18, 51), xc129)]
def xmt5 : List XM := [
  (⟨"WheelStandsModel", "sets", "(III)V"⟩, 4, 0, (0, 0, 0, 0), (4, 0, 7), (883, 882, 21, 51), xc130),
  (⟨"WheelStandsModel", "countWheels", "(IIZ)I"⟩, 6, 1, (1, 22, 0, 0), (4, 0, 7), (863, 862, 17, 51), xc131),
  (⟨"WheelStandsModel", "tell", "(II)I"⟩, 3, 1, (3, 68, 0, 0), (3, 0, 7), (855, 853, 854, 51), xc132),
  (⟨"WheelStandsModel", "isFree", "(II)Z"⟩, 3, 2, (3, 64, 0, 0), (3, 0, 7), (879, 878, 20, 51), xc133),
  (⟨"WheelStandsModel", "fits", "(III)Z"⟩, 4, 2, (4, 86, 0, 0), (4, 0, 7), (875, 874, 19, 51), xc134),
  (⟨"WheelStandsModel", "roomFor", "(II)I"⟩, 4, 1, (5, 109, 0, 0), (3, 0, 7), (965, 964, 31, 51), xc135),
  (⟨"WheelStandsModel", "comes", "(III)V"⟩, 4, 0, (2, 43, 0, 0), (4, 0, 7), (890, 889, 22, 51), xc136),
  (⟨"WheelStandsModel", "leaves", "(I)V"⟩, 2, 0, (2, 43, 0, 0), (2, 0, 7), (949, 948, 28, 51), xc137),
  (⟨"WheelStandsModel", "hasCharge", "(I)Z"⟩, 1, 2, (0, 0, 0, 0), (1, 1, 7), (886, 885, 0, 51), xc138),
  (⟨"WheelStandsModel", "put", "(III)I"⟩, 5, 1, (5, 109, 0, 0), (4, 0, 7), (871, 869, 870, 51), xc139),
  (⟨"WheelStandsModel", "thousandths", "(I)I"⟩, 13, 1, (0, 0, 0, 0), (1, 1, 7), (901, 900, 0, 51), xc140),
  (⟨"WheelStandsModel", "charge", "(II)I"⟩, 4, 1, (2, 42, 0, 0), (3, 0, 7), (894, 892, 893, 51), xc141),
  (⟨"WheelStandsModel", "wheel", "(II)I"⟩, 4, 1, (2, 42, 0, 0), (3, 0, 7), (909, 907, 908, 51), xc142),
  (⟨"WheelStandsModel", "fault", "(I)Z"⟩, 2, 2, (2, 42, 0, 0), (2, 0, 7), (913, 911, 912, 51), xc143),
  (⟨"WheelStandsModel", "test", "(I)I"⟩, 2, 1, (2, 42, 0, 0), (2, 0, 7), (917, 915, 916, 51), xc144),
  (⟨"WheelStandsModel", "mend", "(I)Z"⟩, 2, 2, (2, 42, 0, 0), (2, 0, 7), (921, 919, 920, 51), xc145),
  (⟨"WheelStandsModel", "doubt", "(II)I"⟩, 6, 1, (1, 22, 0, 0), (3, 0, 7), (925, 923, 924, 51), xc146),
  (⟨"WheelStandsModel", "falls", "(I)I"⟩, 2, 1, (0, 0, 0, 0), (2, 0, 7), (941, 940, 26, 51), xc147),
  (⟨"WheelStandsModel", "isEnough", "(II)Z"⟩, 5, 2, (1, 22, 0, 0), (3, 0, 7), (933, 932, 24, 51), xc148),
  (⟨"WheelStandsModel", "hired", "(II)V"⟩, 3, 0, (3, 64, 0, 0), (3, 0, 7), (945, 944, 27, 51), xc149),
  (⟨"WheelStandsModel", "hire", "(III)I"⟩, 7, 1, (4, 86, 0, 0), (4, 0, 7), (929, 927, 928, 51), xc150),
  (⟨"WheelStandsModel", "goes", "(II)V"⟩, 4, 0, (1, 23, 0, 0), (3, 0, 7), (957, 956, 29, 51), xc151),
  (⟨"WheelStandsModel", "arrives", "(III)Z"⟩, 7, 2, (6, 132, 0, 0), (4, 0, 7), (961, 960, 30, 51), xc152),
  (⟨"WheelStandsModel", "streets", "(II)V"⟩, 3, 0, (1, 23, 0, 0), (3, 0, 7), (969, 968, 32, 51), xc153),
  (⟨"WheelStandsModel", "end", "(II)I"⟩, 10, 1, (7, 158, 0, 0), (3, 0, 7), (953, 951, 952, 51), xc154),
  (⟨"WheelStandsModel", "hour", "()I"⟩, 3, 1, (1, 23, 0, 0), (1, 0, 7), (973, 971, 972, 51), xc155)]
def xmt6 : List XM := [
  (⟨"WheelStandsModel", "wagonAt", "(I)I"⟩, 2, 1, (0, 0, 0, 0), (2, 0, 7), (981, 980, 33, 51), xc156),
  (⟨"WheelStandsModel", "cart", "(II)I"⟩, 4, 1, (2, 42, 0, 0), (3, 0, 7), (977, 975, 976, 51), xc157),
  (⟨"WheelStandsModel", "drive", "(II)I"⟩, 4, 1, (2, 42, 0, 0), (3, 0, 7), (985, 983, 984, 51), xc158),
  (⟨"WheelStandsModel", "taken", "(I)I"⟩, 5, 1, (1, 22, 0, 0), (2, 0, 7), (1001, 1000, 36, 51), xc159),
  (⟨"WheelStandsModel", "allows", "(II)Z"⟩, 3, 2, (2, 46, 0, 0), (3, 0, 7), (997, 996, 35, 51), xc160),
  (⟨"WheelStandsModel", "climbs", "(II)V"⟩, 4, 0, (1, 23, 0, 0), (3, 0, 7), (1005, 1004, 37, 51), xc161),
  (⟨"WheelStandsModel", "pick", "(II)I"⟩, 5, 1, (3, 68, 0, 0), (3, 0, 7), (993, 991, 992, 51), xc162),
  (⟨"WheelStandsModel", "fetch", "(II)Z"⟩, 3, 2, (3, 68, 0, 0), (3, 0, 7), (1009, 1007, 1008, 51), xc163),
  (⟨"WheelStandsModel", "drop", "(I)I"⟩, 6, 1, (6, 132, 0, 0), (2, 0, 7), (1013, 1011, 1012, 51), xc164),
  (⟨"WheelStandsModel", "load", "(II)I"⟩, 4, 1, (2, 46, 0, 0), (3, 0, 7), (1017, 1015, 1016, 51), xc165),
  (⟨"WheelStandsModel", "demand", "(IIII)Z"⟩, 7, 2, (2, 42, 0, 0), (5, 0, 7), (1021, 1019, 1020, 51), xc166),
  (⟨"WheelStandsModel", "goesThrough", "(II)V"⟩, 9, 0, (3, 68, 0, 0), (3, 0, 7), (1029, 1028, 38, 51), xc167),
  (⟨"WheelStandsModel", "runs", "(III)I"⟩, 4, 1, (4, 96, 0, 0), (4, 0, 7), (1025, 1023, 1024, 51), xc168),
  (⟨"WheelStandsModel", "shortage", "(I)I"⟩, 5, 1, (4, 96, 0, 0), (2, 0, 7), (1033, 1031, 1032, 51), xc169),
  (⟨"WheelStandsModel", "want", "(II)Z"⟩, 3, 2, (2, 42, 0, 0), (3, 0, 7), (1037, 1035, 1036, 51), xc170),
  (⟨"WheelStandsModel", "finds", "()V"⟩, 4, 0, (2, 47, 0, 0), (1, 0, 7), (1045, 1044, 39, 51), xc171),
  (⟨"WheelStandsModel", "lengthOf", "(I)I"⟩, 8, 1, (1, 22, 0, 0), (2, 0, 7), (1049, 1048, 40, 51), xc172),
  (⟨"WheelStandsModel", "turns", "()Z"⟩, 7, 2, (0, 0, 0, 0), (1, 0, 7), (1053, 1052, 41, 51), xc173),
  (⟨"WheelStandsModel", "plan", "(I)I"⟩, 6, 1, (3, 70, 0, 0), (2, 0, 7), (1041, 1039, 1040, 51), xc174),
  (⟨"WheelStandsModel", "round", "(I)I"⟩, 2, 1, (1, 21, 0, 0), (2, 0, 7), (1057, 1055, 1056, 51), xc175),
  (⟨"WheelStandsModel", "overAt", "(I)I"⟩, 4, 1, (0, 0, 0, 0), (2, 0, 7), (1067, 1066, 42, 51), xc176),
  (⟨"WheelStandsModel", "carry", "(I)I"⟩, 9, 1, (7, 157, 0, 0), (2, 0, 7), (1061, 1059, 1060, 51), xc177),
  (⟨"WheelStandsModel", "image", "(I)Z"⟩, 3, 2, (1, 21, 0, 0), (2, 0, 7), (1073, 1071, 1072, 51), xc178),
  (⟨"WheelStandsModel", "again", "(I)Z"⟩, 3, 2, (1, 21, 0, 0), (2, 0, 7), (1077, 1075, 1076, 51), xc179),
  (⟨"WheelStandsModel", "count", "(I)I"⟩, 4, 1, (1, 22, 0, 0), (2, 0, 7), (1081, 1079, 1080, 51), xc180),
  (⟨"WheelStandsLaw", "law", "([I)Z"⟩, 4, 2, (8, 187, 0, 0), (1, 1, 8), (0, 0, 0, 0), xc181)]
def xmt : List XM := xmt0 ++ (xmt1 ++ (xmt2 ++ (xmt3 ++ (xmt4 ++ (xmt5 ++ (xmt6))))))
def xp_oi : Nat := 60
def xp_oc : Nat := 61
def xp_maxs : Nat := 331
def xp_maxc : Nat := 332
def xp_mins : Nat := 478
def xp_minc : Nat := 479
def xp_mi : Nat := 52
def xp_si : Nat := 53
def xp_an : Nat := 730
def xp_as : Nat := 729
def xp_ai : Nat := 92
def xp_ab : Nat := 804
def xp_o10 : Nat := 192
def xp_o11 : Nat := 69
def xp_o12 : Nat := 258
def xp_o13 : Nat := 135
def xp_in0 : Nat := 193
def xp_id0 : Nat := 49
def xp_in1 : Nat := 76
def xp_id1 : Nat := 47
def xp_in2 : Nat := 70
def xp_id2 : Nat := 46
def xp_in3 : Nat := 260
def xp_id3 : Nat := 50
def xp_in4 : Nat := 63
def xp_id4 : Nat := 45
def xp_in5 : Nat := 136
def xp_id5 : Nat := 48
def xp_in6 : Nat := 55
def xp_id6 : Nat := 44
def xp_in7 : Nat := 762
def xp_id7 : Nat := 51
def xpin (c : Nat) : Nat := [193, 76, 70, 260, 63, 136, 55, 762].getD c 0
def xpid (c : Nat) : Nat := [49, 47, 46, 50, 45, 48, 44, 51].getD c 0
def xlay : List (List Nat) := [[214, 216, 218, 220, 222, 224, 226], [85, 87, 89], [115, 117, 119, 121, 123, 125, 127, 129, 131], [273, 275, 277, 279, 281, 283, 285], [243, 245, 247, 249, 251, 253, 255], [170, 172, 174, 176, 178, 180, 182, 184, 186, 188], [291, 293, 295], [779, 781, 783, 785, 787, 789, 791, 793, 795, 797, 799, 801]]
def xlaw : Nat := 181
def xprC : Nat := 111
def xprM : Nat := 140
end
section
/-! THE INTERPRETER: values are integers or references (numbers of cells, -1 is null, -2 the script); cells are numbered in the order of their making; the kind and the length of the cell of each number are fixed ahead -/
abbrev xV : Type := Int ⊕ Int
abbrev xH : Type := Int × (Int → Int → Int) × (Int → Int → Int)
abbrev xB : Type := Nat × Nat
/-- the cells of a town, from its own on -/
def x_tk (o : Int) : Nat := if o = 0 then 4 else if o = 1 then 11 else if o < 86 then (if (o - 2) % 7 = 0 then 2 else if (o - 2) % 7 = 4 then 1 else 8) else if o = 86 then 13 else if o < 147 then 5 else if o = 147 then 10 else if (o - 148) % 2 = 0 then 0 else 8
def x_tl (o : Int) : Int := if o = 1 then 12 else if o < 86 then (if (o - 2) % 7 = 1 then 12 else if (o - 2) % 7 = 2 then 12 else if (o - 2) % 7 = 3 then 8 else 24) else if o = 86 then 60 else if o = 147 then 3 else 8
/-- kinds: 0 to 7 the classes as in vwCl, 8 int[], 9 boolean[], 10 to 13 rows of carts, stands, towns, wheels -/
def x_kd (a : Int) : Nat := if a = 0 then 6 else if a < 155 then x_tk (a - 1) else if a = 155 then 12 else if a = 156 then 3 else if a < 162 then 8 else if a = 162 then 7 else if a = 164 then 9 else if a < 170 then 8 else x_tk ((a - 170) % 154)
def x_ln (a : Int) : Int := if a < 155 then x_tl (a - 1) else if a = 155 then 4 else if a < 160 then 7 else if a = 160 then 128 else if a = 161 then 896 else if a = 163 then 8200 else if a = 164 then 4 else if a < 167 then 12 else if a < 170 then 7 else x_tl ((a - 170) % 154)
def x_w (x : Int) : Int := (x + 2147483648) % 4294967296 - 2147483648
def x_up (f : Int → Int → Int) (a k v : Int) : Int → Int → Int := fun b j => if b = a ∧ j = k then v else f b j
def x_clr (f : Int → Int → Int) (a v : Int) : Int → Int → Int := fun b j => if b = a then v else f b j
def x_cp (f : Int → Int → Int) (a0 sp a dp n : Int) : Int → Int → Int := fun b j => if b = a ∧ dp ≤ j ∧ j < dp + n then f a0 (sp + (j - dp)) else f b j
def x_un : xV := .inr (-9)
/-- the tables, read -/
noncomputable def x_md (y : Nat) : List XM := Nat.rec (motive := fun _ => List XM) xmt (fun _ r => r.tail) y
noncomputable def x_mi (y : Nat) : XM := (x_md y).headD (⟨"", "", ""⟩, 0, 0, (0, 0, 0, 0), (0, 0, 0), (0, 0, 0, 0), [])
noncomputable def x_nm (y : Nat) : MethodName := (x_mi y).1
noncomputable def x_ml (y : Nat) : Nat := (x_mi y).2.1
noncomputable def x_rt (y : Nat) : Nat := (x_mi y).2.2.1
noncomputable def x_dp (y : Nat) : Nat := (x_mi y).2.2.2.1.1
noncomputable def x_lc (y : Nat) : Nat := (x_mi y).2.2.2.1.2.1
noncomputable def x_mc (y : Nat) : Nat := (x_mi y).2.2.2.1.2.2.1
noncomputable def x_ms (y : Nat) : Nat := (x_mi y).2.2.2.1.2.2.2
noncomputable def x_np (y : Nat) : Nat := (x_mi y).2.2.2.2.1.1
noncomputable def x_st (y : Nat) : Nat := (x_mi y).2.2.2.2.1.2.1
noncomputable def x_rk (y : Nat) : Nat := (x_mi y).2.2.2.2.1.2.2
noncomputable def x_cd (y : Nat) : List Nat := (x_mi y).2.2.2.2.2.2
def x_rty (n : Nat) : Option FieldType := if n = 0 then none else if n = 1 then some .int else if n = 2 then some .boolean else if n = 3 then some (.object "WheelStands$Stand") else if n = 4 then some (.object "WheelStands$Wheel") else some (.object "WheelStands$Cart")
/-- an instruction: number, int, place, link, byte -/
abbrev xI : Type := Nat × Int × Nat × Nat × Nat
def x_dec (n : Nat) : xI := (n % 64, (n / 1099511627776 : Nat) - 2147483648, n / 262144 % 2048, n / 64 % 4096, n / 536870912 % 2048)
noncomputable def x_in (y k : Nat) : xI := x_dec ((x_cd y).getD k 63)
noncomputable def x_pc (y k : Nat) : Nat := (x_in y k).2.2.2.2
def x_cond (u : Nat) (i j : Int) : Bool := if u = 0 then decide (i = j) else if u = 1 then decide (i ≠ j) else if u = 2 then decide (i < j) else if u = 3 then decide (j ≤ i) else if u = 4 then decide (j < i) else decide (i ≤ j)
def x_swt (u : Nat) (i : Int) : Nat := match xsw[u]? with
  | some ((_, lo, hi, _, _), d, ts) => if i < lo ∨ hi < i then d else ts.getD (i - lo).toNat 0
  | none => 0
/-- a cell of kind c -/
def x_ok (z r : Int) (c : Nat) : Bool := decide (0 ≤ r) && decide (r < z) && decide (x_kd r = c)
abbrev xC : Type := Nat × List xV × List xV × xB × xH
/-- one instruction, but for calls and returns -/
def x_stp (i : xI) (k : Nat) (ls st : List xV) (b : xB) (h : xH) : Option xC := match i with
  | (op, a, t, u, _) =>
    if op = 0 then some (k + 1, ls, .inl a :: st, b, h)
    else if op = 1 then (match ls[t]? with | some (.inl v) => some (k + 1, ls, .inl v :: st, b, h) | _ => none)
    else if op = 2 then (match ls[t]? with | some (.inr v) => if -2 ≤ v then some (k + 1, ls, .inr v :: st, b, h) else none | _ => none)
    else if op = 3 then (match st with | .inl v :: st => if t < ls.length then some (k + 1, ls.set t (.inl v), st, b, h) else none | _ => none)
    else if op = 4 then (match st with | .inr v :: st => if t < ls.length ∧ -2 ≤ v then some (k + 1, ls.set t (.inr v), st, b, h) else none | _ => none)
    else if op = 5 then (match ls[t]? with | some (.inl v) => some (k + 1, ls.set t (.inl (x_w (v + a))), st, b, h) | _ => none)
    else if op = 6 then (match st with | .inl j :: .inl i :: st => some (k + 1, ls, .inl (x_w (i + j)) :: st, b, h) | _ => none)
    else if op = 7 then (match st with | .inl j :: .inl i :: st => some (k + 1, ls, .inl (x_w (i - j)) :: st, b, h) | _ => none)
    else if op = 8 then (match st with | .inl j :: .inl i :: st => some (k + 1, ls, .inl (x_w (i * j)) :: st, b, h) | _ => none)
    else if op = 9 then (match st with | .inl j :: .inl i :: st => if 0 ≤ i ∧ 0 < j then some (k + 1, ls, .inl (i % j) :: st, b, h) else none | _ => none)
    else if op = 10 then (match st with | .inl i :: st => some (k + 1, ls, .inl (x_w (-i)) :: st, b, h) | _ => none)
    else if op = 11 then (match st with | .inl j :: .inl i :: st => some (k + 1, ls, .inl (Int32.ofInt i &&& Int32.ofInt j).toInt :: st, b, h) | _ => none)
    else if op = 12 then (match st with | .inl j :: .inl i :: st => some (k + 1, ls, .inl (Int32.ofInt i ||| Int32.ofInt j).toInt :: st, b, h) | _ => none)
    else if op = 13 then (match st with | .inl j :: .inl i :: st => some (k + 1, ls, .inl (Int32.ofInt i <<< (Int32.ofInt j &&& 31)).toInt :: st, b, h) | _ => none)
    else if op = 14 then (match st with | .inl j :: .inl i :: st => some (k + 1, ls, .inl (Int32.ofInt i >>> (Int32.ofInt j &&& 31)).toInt :: st, b, h) | _ => none)
    else if op = 15 then (match st with | .inl i :: st => some (if x_cond u i 0 then t else k + 1, ls, st, b, h) | _ => none)
    else if op = 16 then (match st with | .inl j :: .inl i :: st => some (if x_cond u i j then t else k + 1, ls, st, b, h) | _ => none)
    else if op = 17 then some (t, ls, st, b, h)
    else if op = 18 then (match st with | .inr r :: st => if -1 ≤ r then some (if r < 0 then t else k + 1, ls, st, b, h) else none | _ => none)
    else if op = 19 then (match st with | .inr r :: st => if -1 ≤ r then some (if r < 0 then k + 1 else t, ls, st, b, h) else none | _ => none)
    else if op = 20 then some (k + 1, ls, .inr (-1) :: st, b, h)
    else if op = 21 then (match st with | v :: st => some (k + 1, ls, v :: v :: st, b, h) | _ => none)
    else if op = 22 then (match st with | _ :: st => some (k + 1, ls, st, b, h) | _ => none)
    else if op = 23 then (match st with | v :: w :: st => some (k + 1, ls, v :: w :: v :: w :: st, b, h) | _ => none)
    else if op = 24 then (match st with | .inr r :: st => if x_ok h.1 r (t / 16) then some (k + 1, ls, .inl (h.2.2 r (t % 16 : Nat)) :: st, b, h) else none | _ => none)
    else if op = 25 then (match st with | .inr r :: st => if x_ok h.1 r (t / 16) then some (k + 1, ls, .inr (h.2.1 r (t % 16 : Nat)) :: st, b, h) else none | _ => none)
    else if op = 26 then (match st with | .inl v :: .inr r :: st => if x_ok h.1 r (t / 16) then some (k + 1, ls, st, b, (h.1, h.2.1, x_up h.2.2 r (t % 16 : Nat) v)) else none | _ => none)
    else if op = 27 then (match st with | .inr v :: .inr r :: st => if x_ok h.1 r (t / 16) ∧ -1 ≤ v then some (k + 1, ls, st, b, (h.1, x_up h.2.1 r (t % 16 : Nat) v, h.2.2)) else none | _ => none)
    else if op = 32 then (match st with | .inl v :: .inr r :: st => if x_ok h.1 r (t / 16) ∧ (v = 0 ∨ v = 1) then some (k + 1, ls, st, b, (h.1, h.2.1, x_up h.2.2 r (t % 16 : Nat) v)) else none | _ => none)
    else if op = 28 then (match st with | .inl j :: .inr r :: st => if x_ok h.1 r 8 ∧ 0 ≤ j ∧ j < x_ln r then some (k + 1, ls, .inl (h.2.2 r j) :: st, b, h) else none | _ => none)
    else if op = 29 then (match st with | .inl v :: .inl j :: .inr r :: st => if x_ok h.1 r 8 ∧ 0 ≤ j ∧ j < x_ln r then some (k + 1, ls, st, b, (h.1, h.2.1, x_up h.2.2 r j v)) else none | _ => none)
    else if op = 30 then (match st with | .inl j :: .inr r :: st => if 0 ≤ r ∧ r < h.1 ∧ 10 ≤ x_kd r ∧ x_kd r < 14 ∧ 0 ≤ j ∧ j < x_ln r then some (k + 1, ls, .inr (h.2.1 r j) :: st, b, h) else none | _ => none)
    else if op = 31 then (match st with | .inr v :: .inl j :: .inr r :: st => if 0 ≤ r ∧ r < h.1 ∧ 10 ≤ x_kd r ∧ x_kd r < 14 ∧ 0 ≤ j ∧ j < x_ln r ∧ x_ok h.1 v ([0, 2, 4, 5].getD (x_kd r - 10) 99) then some (k + 1, ls, st, b, (h.1, x_up h.2.1 r j v, h.2.2)) else none | _ => none)
    else if op = 33 then (match st with | .inl j :: .inr r :: st => if x_ok h.1 r 9 ∧ 0 ≤ j ∧ j < x_ln r then some (k + 1, ls, .inl (h.2.2 r j) :: st, b, h) else none | _ => none)
    else if op = 34 then (match st with | .inl v :: .inl j :: .inr r :: st => if x_ok h.1 r 9 ∧ 0 ≤ j ∧ j < x_ln r ∧ (v = 0 ∨ v = 1) then some (k + 1, ls, st, b, (h.1, h.2.1, x_up h.2.2 r j v)) else none | _ => none)
    else if op = 35 then (if x_kd h.1 = t ∧ t < 8 ∧ 1 ≤ b.1 ∧ xnsl t ≤ b.2 then some (k + 1, ls, .inr h.1 :: st, (b.1 - 1, b.2 - xnsl t), (h.1 + 1, x_clr h.2.1 h.1 (-1), x_clr h.2.2 h.1 0)) else none)
    else if op = 36 then (match st with | .inl n :: st => if x_kd h.1 = 8 ∧ x_ln h.1 = n ∧ 0 ≤ n ∧ n ≤ 10000 ∧ 1 ≤ b.1 ∧ n.toNat ≤ b.2 then some (k + 1, ls, .inr h.1 :: st, (b.1 - 1, b.2 - n.toNat), (h.1 + 1, x_clr h.2.1 h.1 (-1), x_clr h.2.2 h.1 0)) else none | _ => none)
    else if op = 37 then (match st with | .inl n :: st => if x_kd h.1 = 9 ∧ x_ln h.1 = n ∧ 0 ≤ n ∧ n ≤ 10000 ∧ 1 ≤ b.1 ∧ n.toNat ≤ b.2 then some (k + 1, ls, .inr h.1 :: st, (b.1 - 1, b.2 - n.toNat), (h.1 + 1, x_clr h.2.1 h.1 (-1), x_clr h.2.2 h.1 0)) else none | _ => none)
    else if op = 38 then (match st with | .inl n :: st => if x_kd h.1 = t ∧ 10 ≤ t ∧ t < 14 ∧ x_ln h.1 = n ∧ 0 ≤ n ∧ n ≤ 10000 ∧ 1 ≤ b.1 ∧ n.toNat ≤ b.2 then some (k + 1, ls, .inr h.1 :: st, (b.1 - 1, b.2 - n.toNat), (h.1 + 1, x_clr h.2.1 h.1 (-1), x_clr h.2.2 h.1 0)) else none | _ => none)
    else if op = 43 then (match st with | .inr r :: st => if 0 ≤ r ∧ r < h.1 ∧ st.length ≤ 8 then some (k + 1, ls, st, b, h) else none | _ => none)
    else if op = 44 then (match st with | .inl j :: .inl i :: st => if st.length ≤ 8 then some (k + 1, ls, .inl (max i j) :: st, b, h) else none | _ => none)
    else if op = 45 then (match st with | .inl j :: .inl i :: st => if st.length ≤ 8 then some (k + 1, ls, .inl (min i j) :: st, b, h) else none | _ => none)
    else if op = 46 then (match st with | .inl n :: .inl dp :: .inr a :: .inl sp :: .inr a0 :: st => if x_ok h.1 a 8 ∧ x_ok h.1 a0 8 ∧ 0 ≤ sp ∧ 0 ≤ dp ∧ 0 ≤ n ∧ sp + n ≤ x_ln a0 ∧ dp + n ≤ x_ln a ∧ st.length ≤ 8 then some (k + 1, ls, st, b, (h.1, h.2.1, x_cp h.2.2 a0 sp a dp n)) else none | _ => none)
    else if op = 47 then (match st with | .inl i :: st => some (x_swt u i, ls, st, b, h) | _ => none)
    else if op = 54 then (match st with | .inl j :: .inr r :: st => if r = -2 ∧ 0 ≤ j ∧ j < h.2.2 (-2) (-1) then some (k + 1, ls, .inl (h.2.2 (-2) j) :: st, b, h) else none | _ => none)
    else if op = 55 then (match st with | .inr r :: st => if r = -2 then some (k + 1, ls, .inl (h.2.2 (-2) (-1)) :: st, b, h) else none | _ => none)
    else none
/-- what the two methods over floats and longs answer: the thousandths of the float with these bits -/
def x_th2 (e f : Int) : Int :=
  (if (if (8388608 + f) * 1000 < 8589934592 then (512 : Int) else 1024) < 2 * ((8388608 + f) * 1000 % (if (8388608 + f) * 1000 < 8589934592 then (512 : Int) else 1024)) ∨ (2 * ((8388608 + f) * 1000 % (if (8388608 + f) * 1000 < 8589934592 then (512 : Int) else 1024)) = (if (8388608 + f) * 1000 < 8589934592 then (512 : Int) else 1024) ∧ (8388608 + f) * 1000 / (if (8388608 + f) * 1000 < 8589934592 then (512 : Int) else 1024) % 2 = 1)
    then (8388608 + f) * 1000 / (if (8388608 + f) * 1000 < 8589934592 then (512 : Int) else 1024) + 1
    else (8388608 + f) * 1000 / (if (8388608 + f) * 1000 < 8589934592 then (512 : Int) else 1024))
  * (if (8388608 + f) * 1000 < 8589934592 then (512 : Int) else 1024) / 2 ^ (150 - e).toNat
def x_thou (i : Int) : Int := if i < 0 then (if i = -2147483648 then 0 else -1) else if 127 < i / 8388608 ∨ (i / 8388608 = 127 ∧ ¬ i % 8388608 = 0) then -1 else if i / 8388608 < 100 then 0 else x_th2 (i / 8388608) (i % 8388608)
def x_ret (op : Nat) (st : List xV) : Option (Option xV) :=
  if op = 50 then (match st with | [.inl v] => some (some (.inl v)) | _ => none)
  else if op = 51 then (match st with | [.inl v] => if v = 0 ∨ v = 1 then some (some (.inl v)) else none | _ => none)
  else if op = 52 then (match st with | [.inr r] => if -1 ≤ r then some (some (.inr r)) else none | _ => none)
  else (match st with | [] => some none | _ => none)
def x_rc (z : Int) (c : Nat) : List xV → Bool
  | .inr r :: _ => x_ok z r c
  | _ => false
/-- the arguments of a call, the rest of the stack; none if it is no call that may be made -/
noncomputable def x_arg (t : Nat) (st : List xV) (b : xB) (h : xH) : Option (List xV × List xV) :=
  if x_np t ≤ st.length ∧ (st.drop (x_np t)).length ≤ 8 ∧ x_mc t ≤ b.1 ∧ x_ms t ≤ b.2 ∧ x_np t ≤ x_ml t ∧ (x_st t = 1 ∨ x_rc h.1 (x_rk t) (st.take (x_np t)).reverse = true) then some ((st.take (x_np t)).reverse, st.drop (x_np t)) else none
noncomputable def x_run : Nat → Nat → Nat → List xV → List xV → xB → xH → Option (Option xV × xH)
  | 0, _, _, _, _, _, _ => none
  | n + 1, y, k, ls, st, b, h => match x_in y k with
    | (op, a, t, u, p) =>
      if 40 ≤ op ∧ op ≤ 42 then (match x_arg t st b h with
        | none => none
        | some (as, rest) => match x_run n t 0 (as ++ List.replicate (x_ml t - x_np t) x_un) [] (x_mc t, x_ms t) h with
          | none => none
          | some (v, h2) => x_run n y (k + 1) ls (v.toList ++ rest) (b.1 - x_mc t, b.2 - x_ms t) h2)
      else if 50 ≤ op ∧ op ≤ 53 then (match x_ret op st with
        | none => none
        | some v => some (v, h))
      else if op = 56 then (match st with
        | .inl v :: st => if st.length ≤ 8 then x_run n y (k + 1) ls (.inl (x_thou v) :: st) b h else none
        | _ => none)
      else match x_stp (op, a, t, u, p) k ls st b h with
        | none => none
        | some (k', ls', st', b', h') => x_run n y k' ls' st' b' h'
end
section
/-! ONE INSTRUCTION BY ITS BYTES: decode, without walking the whole code each time -/
theorem x_u1 {cd : ByteArray} {p : Nat} {b : UInt8} (h : cd.data.toList[p]? = some b) : (Reader.u1 : Decoder Nat).runAt cd p = .ok (b.toNat, p + 1) := by
  have h1 := (List.getElem?_eq_some_iff.mp h).1
  have hp : p < cd.size := by
    rw [Array.length_toList] at h1
    exact h1
  have hb : cd[p] = b := by
    have h2 := (List.getElem?_eq_some_iff.mp h).2
    rw [Array.getElem_toList] at h2
    exact h2
  have e : (Reader.u1 : Decoder Nat).runAt cd p = (if h : p < cd.size then ((do set (p + 1); Pure.pure cd[p].toNat) : Decoder Nat) else throw (HasTruncated.truncated p)).runAt cd p := rfl
  rw [e, dif_pos hp, hb]
  rfl
theorem x_bd {α β : Type} {r : Decoder β} {f : β → Decoder α} {cd : ByteArray} {p q : Nat} {v : β} (h : r.runAt cd p = .ok (v, q)) : (r >>= f).runAt cd p = (f v).runAt cd q := by
  show Except.bind (r.runAt cd p) (fun x => (f x.1).runAt cd x.2) = _
  rw [h]
  rfl
theorem x_mp {α β : Type} {r : Decoder β} {f : β → α} {cd : ByteArray} {p q : Nat} {v : β} (h : r.runAt cd p = .ok (v, q)) : (f <$> r).runAt cd p = .ok (f v, q) := by
  show Except.bind (r.runAt cd p) _ = _
  rw [h]
  rfl
theorem x_u2 {cd : ByteArray} {p : Nat} {b c : UInt8} (h : cd.data.toList[p]? = some b) (h1 : cd.data.toList[p + 1]? = some c) : (Reader.u2 : Decoder Nat).runAt cd p = .ok (b.toNat * 256 + c.toNat, p + 2) := by
  unfold Reader.u2
  rw [x_bd (x_u1 h), x_bd (x_u1 h1)]
  rfl
theorem x_dd {cd : ByteArray} {p q n : Nat} {i : Instr} (h : (Decoder.instr p).runAt cd p = .ok (i, q)) (hq : q = p + n) : decode cd p = .ok (i, n) := by
  subst hq
  unfold decode
  rw [h]
  show Except.ok (i, p + n - p) = _
  rw [Nat.add_sub_cancel_left]
section
variable {cd : ByteArray} {p : Nat} {b0 b1 b2 : UInt8}

set_option maxRecDepth 10000 in
theorem x_o1 (h0 : cd.data.toList[p]? = some b0) (e : b0.toNat = 1) : decode cd p = .ok (.aconst_null, 1) := by
  refine x_dd (q := p + 1) ?_ rfl
  unfold Decoder.instr
  rw [x_bd (x_u1 h0), e]
  rfl

set_option maxRecDepth 10000 in
theorem x_o2 (h0 : cd.data.toList[p]? = some b0) (e : b0.toNat = 2) : decode cd p = .ok (.iconst (-1), 1) := by
  refine x_dd (q := p + 1) ?_ rfl
  unfold Decoder.instr
  rw [x_bd (x_u1 h0), e]
  rfl

set_option maxRecDepth 10000 in
theorem x_o3 (h0 : cd.data.toList[p]? = some b0) (e : b0.toNat = 3) : decode cd p = .ok (.iconst (0), 1) := by
  refine x_dd (q := p + 1) ?_ rfl
  unfold Decoder.instr
  rw [x_bd (x_u1 h0), e]
  rfl

set_option maxRecDepth 10000 in
theorem x_o4 (h0 : cd.data.toList[p]? = some b0) (e : b0.toNat = 4) : decode cd p = .ok (.iconst (1), 1) := by
  refine x_dd (q := p + 1) ?_ rfl
  unfold Decoder.instr
  rw [x_bd (x_u1 h0), e]
  rfl

set_option maxRecDepth 10000 in
theorem x_o5 (h0 : cd.data.toList[p]? = some b0) (e : b0.toNat = 5) : decode cd p = .ok (.iconst (2), 1) := by
  refine x_dd (q := p + 1) ?_ rfl
  unfold Decoder.instr
  rw [x_bd (x_u1 h0), e]
  rfl

set_option maxRecDepth 10000 in
theorem x_o6 (h0 : cd.data.toList[p]? = some b0) (e : b0.toNat = 6) : decode cd p = .ok (.iconst (3), 1) := by
  refine x_dd (q := p + 1) ?_ rfl
  unfold Decoder.instr
  rw [x_bd (x_u1 h0), e]
  rfl

set_option maxRecDepth 10000 in
theorem x_o7 (h0 : cd.data.toList[p]? = some b0) (e : b0.toNat = 7) : decode cd p = .ok (.iconst (4), 1) := by
  refine x_dd (q := p + 1) ?_ rfl
  unfold Decoder.instr
  rw [x_bd (x_u1 h0), e]
  rfl

set_option maxRecDepth 10000 in
theorem x_o8 (h0 : cd.data.toList[p]? = some b0) (e : b0.toNat = 8) : decode cd p = .ok (.iconst (5), 1) := by
  refine x_dd (q := p + 1) ?_ rfl
  unfold Decoder.instr
  rw [x_bd (x_u1 h0), e]
  rfl

set_option maxRecDepth 10000 in
theorem x_o26 (h0 : cd.data.toList[p]? = some b0) (e : b0.toNat = 26) : decode cd p = .ok (.iload_n 0, 1) := by
  refine x_dd (q := p + 1) ?_ rfl
  unfold Decoder.instr
  rw [x_bd (x_u1 h0), e]
  rfl

set_option maxRecDepth 10000 in
theorem x_o27 (h0 : cd.data.toList[p]? = some b0) (e : b0.toNat = 27) : decode cd p = .ok (.iload_n 1, 1) := by
  refine x_dd (q := p + 1) ?_ rfl
  unfold Decoder.instr
  rw [x_bd (x_u1 h0), e]
  rfl

set_option maxRecDepth 10000 in
theorem x_o28 (h0 : cd.data.toList[p]? = some b0) (e : b0.toNat = 28) : decode cd p = .ok (.iload_n 2, 1) := by
  refine x_dd (q := p + 1) ?_ rfl
  unfold Decoder.instr
  rw [x_bd (x_u1 h0), e]
  rfl

set_option maxRecDepth 10000 in
theorem x_o29 (h0 : cd.data.toList[p]? = some b0) (e : b0.toNat = 29) : decode cd p = .ok (.iload_n 3, 1) := by
  refine x_dd (q := p + 1) ?_ rfl
  unfold Decoder.instr
  rw [x_bd (x_u1 h0), e]
  rfl

set_option maxRecDepth 10000 in
theorem x_o42 (h0 : cd.data.toList[p]? = some b0) (e : b0.toNat = 42) : decode cd p = .ok (.aload_n 0, 1) := by
  refine x_dd (q := p + 1) ?_ rfl
  unfold Decoder.instr
  rw [x_bd (x_u1 h0), e]
  rfl

set_option maxRecDepth 10000 in
theorem x_o43 (h0 : cd.data.toList[p]? = some b0) (e : b0.toNat = 43) : decode cd p = .ok (.aload_n 1, 1) := by
  refine x_dd (q := p + 1) ?_ rfl
  unfold Decoder.instr
  rw [x_bd (x_u1 h0), e]
  rfl

set_option maxRecDepth 10000 in
theorem x_o44 (h0 : cd.data.toList[p]? = some b0) (e : b0.toNat = 44) : decode cd p = .ok (.aload_n 2, 1) := by
  refine x_dd (q := p + 1) ?_ rfl
  unfold Decoder.instr
  rw [x_bd (x_u1 h0), e]
  rfl

set_option maxRecDepth 10000 in
theorem x_o45 (h0 : cd.data.toList[p]? = some b0) (e : b0.toNat = 45) : decode cd p = .ok (.aload_n 3, 1) := by
  refine x_dd (q := p + 1) ?_ rfl
  unfold Decoder.instr
  rw [x_bd (x_u1 h0), e]
  rfl

set_option maxRecDepth 10000 in
theorem x_o46 (h0 : cd.data.toList[p]? = some b0) (e : b0.toNat = 46) : decode cd p = .ok (.iaload, 1) := by
  refine x_dd (q := p + 1) ?_ rfl
  unfold Decoder.instr
  rw [x_bd (x_u1 h0), e]
  rfl

set_option maxRecDepth 10000 in
theorem x_o50 (h0 : cd.data.toList[p]? = some b0) (e : b0.toNat = 50) : decode cd p = .ok (.aaload, 1) := by
  refine x_dd (q := p + 1) ?_ rfl
  unfold Decoder.instr
  rw [x_bd (x_u1 h0), e]
  rfl

set_option maxRecDepth 10000 in
theorem x_o51 (h0 : cd.data.toList[p]? = some b0) (e : b0.toNat = 51) : decode cd p = .ok (.baload, 1) := by
  refine x_dd (q := p + 1) ?_ rfl
  unfold Decoder.instr
  rw [x_bd (x_u1 h0), e]
  rfl

set_option maxRecDepth 10000 in
theorem x_o59 (h0 : cd.data.toList[p]? = some b0) (e : b0.toNat = 59) : decode cd p = .ok (.istore_n 0, 1) := by
  refine x_dd (q := p + 1) ?_ rfl
  unfold Decoder.instr
  rw [x_bd (x_u1 h0), e]
  rfl

set_option maxRecDepth 10000 in
theorem x_o60 (h0 : cd.data.toList[p]? = some b0) (e : b0.toNat = 60) : decode cd p = .ok (.istore_n 1, 1) := by
  refine x_dd (q := p + 1) ?_ rfl
  unfold Decoder.instr
  rw [x_bd (x_u1 h0), e]
  rfl

set_option maxRecDepth 10000 in
theorem x_o61 (h0 : cd.data.toList[p]? = some b0) (e : b0.toNat = 61) : decode cd p = .ok (.istore_n 2, 1) := by
  refine x_dd (q := p + 1) ?_ rfl
  unfold Decoder.instr
  rw [x_bd (x_u1 h0), e]
  rfl

set_option maxRecDepth 10000 in
theorem x_o62 (h0 : cd.data.toList[p]? = some b0) (e : b0.toNat = 62) : decode cd p = .ok (.istore_n 3, 1) := by
  refine x_dd (q := p + 1) ?_ rfl
  unfold Decoder.instr
  rw [x_bd (x_u1 h0), e]
  rfl

set_option maxRecDepth 10000 in
theorem x_o75 (h0 : cd.data.toList[p]? = some b0) (e : b0.toNat = 75) : decode cd p = .ok (.astore_n 0, 1) := by
  refine x_dd (q := p + 1) ?_ rfl
  unfold Decoder.instr
  rw [x_bd (x_u1 h0), e]
  rfl

set_option maxRecDepth 10000 in
theorem x_o76 (h0 : cd.data.toList[p]? = some b0) (e : b0.toNat = 76) : decode cd p = .ok (.astore_n 1, 1) := by
  refine x_dd (q := p + 1) ?_ rfl
  unfold Decoder.instr
  rw [x_bd (x_u1 h0), e]
  rfl

set_option maxRecDepth 10000 in
theorem x_o77 (h0 : cd.data.toList[p]? = some b0) (e : b0.toNat = 77) : decode cd p = .ok (.astore_n 2, 1) := by
  refine x_dd (q := p + 1) ?_ rfl
  unfold Decoder.instr
  rw [x_bd (x_u1 h0), e]
  rfl

set_option maxRecDepth 10000 in
theorem x_o78 (h0 : cd.data.toList[p]? = some b0) (e : b0.toNat = 78) : decode cd p = .ok (.astore_n 3, 1) := by
  refine x_dd (q := p + 1) ?_ rfl
  unfold Decoder.instr
  rw [x_bd (x_u1 h0), e]
  rfl

set_option maxRecDepth 10000 in
theorem x_o79 (h0 : cd.data.toList[p]? = some b0) (e : b0.toNat = 79) : decode cd p = .ok (.iastore, 1) := by
  refine x_dd (q := p + 1) ?_ rfl
  unfold Decoder.instr
  rw [x_bd (x_u1 h0), e]
  rfl

set_option maxRecDepth 10000 in
theorem x_o83 (h0 : cd.data.toList[p]? = some b0) (e : b0.toNat = 83) : decode cd p = .ok (.aastore, 1) := by
  refine x_dd (q := p + 1) ?_ rfl
  unfold Decoder.instr
  rw [x_bd (x_u1 h0), e]
  rfl

set_option maxRecDepth 10000 in
theorem x_o84 (h0 : cd.data.toList[p]? = some b0) (e : b0.toNat = 84) : decode cd p = .ok (.bastore, 1) := by
  refine x_dd (q := p + 1) ?_ rfl
  unfold Decoder.instr
  rw [x_bd (x_u1 h0), e]
  rfl

set_option maxRecDepth 10000 in
theorem x_o87 (h0 : cd.data.toList[p]? = some b0) (e : b0.toNat = 87) : decode cd p = .ok (.pop, 1) := by
  refine x_dd (q := p + 1) ?_ rfl
  unfold Decoder.instr
  rw [x_bd (x_u1 h0), e]
  rfl

set_option maxRecDepth 10000 in
theorem x_o89 (h0 : cd.data.toList[p]? = some b0) (e : b0.toNat = 89) : decode cd p = .ok (.dup, 1) := by
  refine x_dd (q := p + 1) ?_ rfl
  unfold Decoder.instr
  rw [x_bd (x_u1 h0), e]
  rfl

set_option maxRecDepth 10000 in
theorem x_o92 (h0 : cd.data.toList[p]? = some b0) (e : b0.toNat = 92) : decode cd p = .ok (.dup2, 1) := by
  refine x_dd (q := p + 1) ?_ rfl
  unfold Decoder.instr
  rw [x_bd (x_u1 h0), e]
  rfl

set_option maxRecDepth 10000 in
theorem x_o96 (h0 : cd.data.toList[p]? = some b0) (e : b0.toNat = 96) : decode cd p = .ok (.iadd, 1) := by
  refine x_dd (q := p + 1) ?_ rfl
  unfold Decoder.instr
  rw [x_bd (x_u1 h0), e]
  rfl

set_option maxRecDepth 10000 in
theorem x_o100 (h0 : cd.data.toList[p]? = some b0) (e : b0.toNat = 100) : decode cd p = .ok (.isub, 1) := by
  refine x_dd (q := p + 1) ?_ rfl
  unfold Decoder.instr
  rw [x_bd (x_u1 h0), e]
  rfl

set_option maxRecDepth 10000 in
theorem x_o104 (h0 : cd.data.toList[p]? = some b0) (e : b0.toNat = 104) : decode cd p = .ok (.imul, 1) := by
  refine x_dd (q := p + 1) ?_ rfl
  unfold Decoder.instr
  rw [x_bd (x_u1 h0), e]
  rfl

set_option maxRecDepth 10000 in
theorem x_o112 (h0 : cd.data.toList[p]? = some b0) (e : b0.toNat = 112) : decode cd p = .ok (.irem, 1) := by
  refine x_dd (q := p + 1) ?_ rfl
  unfold Decoder.instr
  rw [x_bd (x_u1 h0), e]
  rfl

set_option maxRecDepth 10000 in
theorem x_o116 (h0 : cd.data.toList[p]? = some b0) (e : b0.toNat = 116) : decode cd p = .ok (.ineg, 1) := by
  refine x_dd (q := p + 1) ?_ rfl
  unfold Decoder.instr
  rw [x_bd (x_u1 h0), e]
  rfl

set_option maxRecDepth 10000 in
theorem x_o120 (h0 : cd.data.toList[p]? = some b0) (e : b0.toNat = 120) : decode cd p = .ok (.ishl, 1) := by
  refine x_dd (q := p + 1) ?_ rfl
  unfold Decoder.instr
  rw [x_bd (x_u1 h0), e]
  rfl

set_option maxRecDepth 10000 in
theorem x_o122 (h0 : cd.data.toList[p]? = some b0) (e : b0.toNat = 122) : decode cd p = .ok (.ishr, 1) := by
  refine x_dd (q := p + 1) ?_ rfl
  unfold Decoder.instr
  rw [x_bd (x_u1 h0), e]
  rfl

set_option maxRecDepth 10000 in
theorem x_o126 (h0 : cd.data.toList[p]? = some b0) (e : b0.toNat = 126) : decode cd p = .ok (.iand, 1) := by
  refine x_dd (q := p + 1) ?_ rfl
  unfold Decoder.instr
  rw [x_bd (x_u1 h0), e]
  rfl

set_option maxRecDepth 10000 in
theorem x_o128 (h0 : cd.data.toList[p]? = some b0) (e : b0.toNat = 128) : decode cd p = .ok (.ior, 1) := by
  refine x_dd (q := p + 1) ?_ rfl
  unfold Decoder.instr
  rw [x_bd (x_u1 h0), e]
  rfl

set_option maxRecDepth 10000 in
theorem x_o172 (h0 : cd.data.toList[p]? = some b0) (e : b0.toNat = 172) : decode cd p = .ok (.ireturn, 1) := by
  refine x_dd (q := p + 1) ?_ rfl
  unfold Decoder.instr
  rw [x_bd (x_u1 h0), e]
  rfl

set_option maxRecDepth 10000 in
theorem x_o176 (h0 : cd.data.toList[p]? = some b0) (e : b0.toNat = 176) : decode cd p = .ok (.areturn, 1) := by
  refine x_dd (q := p + 1) ?_ rfl
  unfold Decoder.instr
  rw [x_bd (x_u1 h0), e]
  rfl

set_option maxRecDepth 10000 in
theorem x_o177 (h0 : cd.data.toList[p]? = some b0) (e : b0.toNat = 177) : decode cd p = .ok (.return_, 1) := by
  refine x_dd (q := p + 1) ?_ rfl
  unfold Decoder.instr
  rw [x_bd (x_u1 h0), e]
  rfl

set_option maxRecDepth 10000 in
theorem x_o190 (h0 : cd.data.toList[p]? = some b0) (e : b0.toNat = 190) : decode cd p = .ok (.arraylength, 1) := by
  refine x_dd (q := p + 1) ?_ rfl
  unfold Decoder.instr
  rw [x_bd (x_u1 h0), e]
  rfl

set_option maxRecDepth 10000 in
theorem x_o16 (h0 : cd.data.toList[p]? = some b0) (h1 : cd.data.toList[p + 1]? = some b1) (e : b0.toNat = 16) : decode cd p = .ok (.bipush (Reader.signed 8 b1.toNat), 2) := by
  refine x_dd (q := p + 1 + 1) ?_ rfl
  unfold Decoder.instr
  rw [x_bd (x_u1 h0), e]
  exact x_bd (r := Reader.s1) (x_mp (x_u1 h1))

set_option maxRecDepth 10000 in
theorem x_o18 (h0 : cd.data.toList[p]? = some b0) (h1 : cd.data.toList[p + 1]? = some b1) (e : b0.toNat = 18) : decode cd p = .ok (.ldc b1.toNat, 2) := by
  refine x_dd (q := p + 1 + 1) ?_ rfl
  unfold Decoder.instr
  rw [x_bd (x_u1 h0), e]
  exact x_bd (r := Reader.u1) (x_u1 h1)

set_option maxRecDepth 10000 in
theorem x_o21 (h0 : cd.data.toList[p]? = some b0) (h1 : cd.data.toList[p + 1]? = some b1) (e : b0.toNat = 21) : decode cd p = .ok (.iload b1.toNat, 2) := by
  refine x_dd (q := p + 1 + 1) ?_ rfl
  unfold Decoder.instr
  rw [x_bd (x_u1 h0), e]
  exact x_bd (r := Reader.u1) (x_u1 h1)

set_option maxRecDepth 10000 in
theorem x_o25 (h0 : cd.data.toList[p]? = some b0) (h1 : cd.data.toList[p + 1]? = some b1) (e : b0.toNat = 25) : decode cd p = .ok (.aload b1.toNat, 2) := by
  refine x_dd (q := p + 1 + 1) ?_ rfl
  unfold Decoder.instr
  rw [x_bd (x_u1 h0), e]
  exact x_bd (r := Reader.u1) (x_u1 h1)

set_option maxRecDepth 10000 in
theorem x_o54 (h0 : cd.data.toList[p]? = some b0) (h1 : cd.data.toList[p + 1]? = some b1) (e : b0.toNat = 54) : decode cd p = .ok (.istore b1.toNat, 2) := by
  refine x_dd (q := p + 1 + 1) ?_ rfl
  unfold Decoder.instr
  rw [x_bd (x_u1 h0), e]
  exact x_bd (r := Reader.u1) (x_u1 h1)

set_option maxRecDepth 10000 in
theorem x_o58 (h0 : cd.data.toList[p]? = some b0) (h1 : cd.data.toList[p + 1]? = some b1) (e : b0.toNat = 58) : decode cd p = .ok (.astore b1.toNat, 2) := by
  refine x_dd (q := p + 1 + 1) ?_ rfl
  unfold Decoder.instr
  rw [x_bd (x_u1 h0), e]
  exact x_bd (r := Reader.u1) (x_u1 h1)

set_option maxRecDepth 10000 in
theorem x_o17 (h0 : cd.data.toList[p]? = some b0) (h1 : cd.data.toList[p + 1]? = some b1) (h2 : cd.data.toList[p + 1 + 1]? = some b2) (e : b0.toNat = 17) : decode cd p = .ok (.sipush (Reader.signed 16 (b1.toNat * 256 + b2.toNat)), 3) := by
  refine x_dd (q := p + 1 + 2) ?_ rfl
  unfold Decoder.instr
  rw [x_bd (x_u1 h0), e]
  exact x_bd (r := Reader.s2) (x_mp (x_u2 h1 h2))

set_option maxRecDepth 10000 in
theorem x_o19 (h0 : cd.data.toList[p]? = some b0) (h1 : cd.data.toList[p + 1]? = some b1) (h2 : cd.data.toList[p + 1 + 1]? = some b2) (e : b0.toNat = 19) : decode cd p = .ok (.ldc_w (b1.toNat * 256 + b2.toNat), 3) := by
  refine x_dd (q := p + 1 + 2) ?_ rfl
  unfold Decoder.instr
  rw [x_bd (x_u1 h0), e]
  exact x_bd (r := Reader.u2) (x_u2 h1 h2)

set_option maxRecDepth 10000 in
theorem x_o153 (h0 : cd.data.toList[p]? = some b0) (h1 : cd.data.toList[p + 1]? = some b1) (h2 : cd.data.toList[p + 1 + 1]? = some b2) (e : b0.toNat = 153) : decode cd p = .ok (.ifCond .eq (Reader.signed 16 (b1.toNat * 256 + b2.toNat)), 3) := by
  refine x_dd (q := p + 1 + 2) ?_ rfl
  unfold Decoder.instr
  rw [x_bd (x_u1 h0), e]
  exact x_bd (r := Reader.s2) (x_mp (x_u2 h1 h2))

set_option maxRecDepth 10000 in
theorem x_o154 (h0 : cd.data.toList[p]? = some b0) (h1 : cd.data.toList[p + 1]? = some b1) (h2 : cd.data.toList[p + 1 + 1]? = some b2) (e : b0.toNat = 154) : decode cd p = .ok (.ifCond .ne (Reader.signed 16 (b1.toNat * 256 + b2.toNat)), 3) := by
  refine x_dd (q := p + 1 + 2) ?_ rfl
  unfold Decoder.instr
  rw [x_bd (x_u1 h0), e]
  exact x_bd (r := Reader.s2) (x_mp (x_u2 h1 h2))

set_option maxRecDepth 10000 in
theorem x_o155 (h0 : cd.data.toList[p]? = some b0) (h1 : cd.data.toList[p + 1]? = some b1) (h2 : cd.data.toList[p + 1 + 1]? = some b2) (e : b0.toNat = 155) : decode cd p = .ok (.ifCond .lt (Reader.signed 16 (b1.toNat * 256 + b2.toNat)), 3) := by
  refine x_dd (q := p + 1 + 2) ?_ rfl
  unfold Decoder.instr
  rw [x_bd (x_u1 h0), e]
  exact x_bd (r := Reader.s2) (x_mp (x_u2 h1 h2))

set_option maxRecDepth 10000 in
theorem x_o156 (h0 : cd.data.toList[p]? = some b0) (h1 : cd.data.toList[p + 1]? = some b1) (h2 : cd.data.toList[p + 1 + 1]? = some b2) (e : b0.toNat = 156) : decode cd p = .ok (.ifCond .ge (Reader.signed 16 (b1.toNat * 256 + b2.toNat)), 3) := by
  refine x_dd (q := p + 1 + 2) ?_ rfl
  unfold Decoder.instr
  rw [x_bd (x_u1 h0), e]
  exact x_bd (r := Reader.s2) (x_mp (x_u2 h1 h2))

set_option maxRecDepth 10000 in
theorem x_o157 (h0 : cd.data.toList[p]? = some b0) (h1 : cd.data.toList[p + 1]? = some b1) (h2 : cd.data.toList[p + 1 + 1]? = some b2) (e : b0.toNat = 157) : decode cd p = .ok (.ifCond .gt (Reader.signed 16 (b1.toNat * 256 + b2.toNat)), 3) := by
  refine x_dd (q := p + 1 + 2) ?_ rfl
  unfold Decoder.instr
  rw [x_bd (x_u1 h0), e]
  exact x_bd (r := Reader.s2) (x_mp (x_u2 h1 h2))

set_option maxRecDepth 10000 in
theorem x_o158 (h0 : cd.data.toList[p]? = some b0) (h1 : cd.data.toList[p + 1]? = some b1) (h2 : cd.data.toList[p + 1 + 1]? = some b2) (e : b0.toNat = 158) : decode cd p = .ok (.ifCond .le (Reader.signed 16 (b1.toNat * 256 + b2.toNat)), 3) := by
  refine x_dd (q := p + 1 + 2) ?_ rfl
  unfold Decoder.instr
  rw [x_bd (x_u1 h0), e]
  exact x_bd (r := Reader.s2) (x_mp (x_u2 h1 h2))

set_option maxRecDepth 10000 in
theorem x_o159 (h0 : cd.data.toList[p]? = some b0) (h1 : cd.data.toList[p + 1]? = some b1) (h2 : cd.data.toList[p + 1 + 1]? = some b2) (e : b0.toNat = 159) : decode cd p = .ok (.if_icmp .eq (Reader.signed 16 (b1.toNat * 256 + b2.toNat)), 3) := by
  refine x_dd (q := p + 1 + 2) ?_ rfl
  unfold Decoder.instr
  rw [x_bd (x_u1 h0), e]
  exact x_bd (r := Reader.s2) (x_mp (x_u2 h1 h2))

set_option maxRecDepth 10000 in
theorem x_o160 (h0 : cd.data.toList[p]? = some b0) (h1 : cd.data.toList[p + 1]? = some b1) (h2 : cd.data.toList[p + 1 + 1]? = some b2) (e : b0.toNat = 160) : decode cd p = .ok (.if_icmp .ne (Reader.signed 16 (b1.toNat * 256 + b2.toNat)), 3) := by
  refine x_dd (q := p + 1 + 2) ?_ rfl
  unfold Decoder.instr
  rw [x_bd (x_u1 h0), e]
  exact x_bd (r := Reader.s2) (x_mp (x_u2 h1 h2))

set_option maxRecDepth 10000 in
theorem x_o161 (h0 : cd.data.toList[p]? = some b0) (h1 : cd.data.toList[p + 1]? = some b1) (h2 : cd.data.toList[p + 1 + 1]? = some b2) (e : b0.toNat = 161) : decode cd p = .ok (.if_icmp .lt (Reader.signed 16 (b1.toNat * 256 + b2.toNat)), 3) := by
  refine x_dd (q := p + 1 + 2) ?_ rfl
  unfold Decoder.instr
  rw [x_bd (x_u1 h0), e]
  exact x_bd (r := Reader.s2) (x_mp (x_u2 h1 h2))

set_option maxRecDepth 10000 in
theorem x_o162 (h0 : cd.data.toList[p]? = some b0) (h1 : cd.data.toList[p + 1]? = some b1) (h2 : cd.data.toList[p + 1 + 1]? = some b2) (e : b0.toNat = 162) : decode cd p = .ok (.if_icmp .ge (Reader.signed 16 (b1.toNat * 256 + b2.toNat)), 3) := by
  refine x_dd (q := p + 1 + 2) ?_ rfl
  unfold Decoder.instr
  rw [x_bd (x_u1 h0), e]
  exact x_bd (r := Reader.s2) (x_mp (x_u2 h1 h2))

set_option maxRecDepth 10000 in
theorem x_o163 (h0 : cd.data.toList[p]? = some b0) (h1 : cd.data.toList[p + 1]? = some b1) (h2 : cd.data.toList[p + 1 + 1]? = some b2) (e : b0.toNat = 163) : decode cd p = .ok (.if_icmp .gt (Reader.signed 16 (b1.toNat * 256 + b2.toNat)), 3) := by
  refine x_dd (q := p + 1 + 2) ?_ rfl
  unfold Decoder.instr
  rw [x_bd (x_u1 h0), e]
  exact x_bd (r := Reader.s2) (x_mp (x_u2 h1 h2))

set_option maxRecDepth 10000 in
theorem x_o164 (h0 : cd.data.toList[p]? = some b0) (h1 : cd.data.toList[p + 1]? = some b1) (h2 : cd.data.toList[p + 1 + 1]? = some b2) (e : b0.toNat = 164) : decode cd p = .ok (.if_icmp .le (Reader.signed 16 (b1.toNat * 256 + b2.toNat)), 3) := by
  refine x_dd (q := p + 1 + 2) ?_ rfl
  unfold Decoder.instr
  rw [x_bd (x_u1 h0), e]
  exact x_bd (r := Reader.s2) (x_mp (x_u2 h1 h2))

set_option maxRecDepth 10000 in
theorem x_o167 (h0 : cd.data.toList[p]? = some b0) (h1 : cd.data.toList[p + 1]? = some b1) (h2 : cd.data.toList[p + 1 + 1]? = some b2) (e : b0.toNat = 167) : decode cd p = .ok (.goto (Reader.signed 16 (b1.toNat * 256 + b2.toNat)), 3) := by
  refine x_dd (q := p + 1 + 2) ?_ rfl
  unfold Decoder.instr
  rw [x_bd (x_u1 h0), e]
  exact x_bd (r := Reader.s2) (x_mp (x_u2 h1 h2))

set_option maxRecDepth 10000 in
theorem x_o180 (h0 : cd.data.toList[p]? = some b0) (h1 : cd.data.toList[p + 1]? = some b1) (h2 : cd.data.toList[p + 1 + 1]? = some b2) (e : b0.toNat = 180) : decode cd p = .ok (.getfield (b1.toNat * 256 + b2.toNat), 3) := by
  refine x_dd (q := p + 1 + 2) ?_ rfl
  unfold Decoder.instr
  rw [x_bd (x_u1 h0), e]
  exact x_bd (r := Reader.u2) (x_u2 h1 h2)

set_option maxRecDepth 10000 in
theorem x_o181 (h0 : cd.data.toList[p]? = some b0) (h1 : cd.data.toList[p + 1]? = some b1) (h2 : cd.data.toList[p + 1 + 1]? = some b2) (e : b0.toNat = 181) : decode cd p = .ok (.putfield (b1.toNat * 256 + b2.toNat), 3) := by
  refine x_dd (q := p + 1 + 2) ?_ rfl
  unfold Decoder.instr
  rw [x_bd (x_u1 h0), e]
  exact x_bd (r := Reader.u2) (x_u2 h1 h2)

set_option maxRecDepth 10000 in
theorem x_o182 (h0 : cd.data.toList[p]? = some b0) (h1 : cd.data.toList[p + 1]? = some b1) (h2 : cd.data.toList[p + 1 + 1]? = some b2) (e : b0.toNat = 182) : decode cd p = .ok (.invokevirtual (b1.toNat * 256 + b2.toNat), 3) := by
  refine x_dd (q := p + 1 + 2) ?_ rfl
  unfold Decoder.instr
  rw [x_bd (x_u1 h0), e]
  exact x_bd (r := Reader.u2) (x_u2 h1 h2)

set_option maxRecDepth 10000 in
theorem x_o183 (h0 : cd.data.toList[p]? = some b0) (h1 : cd.data.toList[p + 1]? = some b1) (h2 : cd.data.toList[p + 1 + 1]? = some b2) (e : b0.toNat = 183) : decode cd p = .ok (.invokespecial (b1.toNat * 256 + b2.toNat), 3) := by
  refine x_dd (q := p + 1 + 2) ?_ rfl
  unfold Decoder.instr
  rw [x_bd (x_u1 h0), e]
  exact x_bd (r := Reader.u2) (x_u2 h1 h2)

set_option maxRecDepth 10000 in
theorem x_o184 (h0 : cd.data.toList[p]? = some b0) (h1 : cd.data.toList[p + 1]? = some b1) (h2 : cd.data.toList[p + 1 + 1]? = some b2) (e : b0.toNat = 184) : decode cd p = .ok (.invokestatic (b1.toNat * 256 + b2.toNat), 3) := by
  refine x_dd (q := p + 1 + 2) ?_ rfl
  unfold Decoder.instr
  rw [x_bd (x_u1 h0), e]
  exact x_bd (r := Reader.u2) (x_u2 h1 h2)

set_option maxRecDepth 10000 in
theorem x_o187 (h0 : cd.data.toList[p]? = some b0) (h1 : cd.data.toList[p + 1]? = some b1) (h2 : cd.data.toList[p + 1 + 1]? = some b2) (e : b0.toNat = 187) : decode cd p = .ok (.new (b1.toNat * 256 + b2.toNat), 3) := by
  refine x_dd (q := p + 1 + 2) ?_ rfl
  unfold Decoder.instr
  rw [x_bd (x_u1 h0), e]
  exact x_bd (r := Reader.u2) (x_u2 h1 h2)

set_option maxRecDepth 10000 in
theorem x_o189 (h0 : cd.data.toList[p]? = some b0) (h1 : cd.data.toList[p + 1]? = some b1) (h2 : cd.data.toList[p + 1 + 1]? = some b2) (e : b0.toNat = 189) : decode cd p = .ok (.anewarray (b1.toNat * 256 + b2.toNat), 3) := by
  refine x_dd (q := p + 1 + 2) ?_ rfl
  unfold Decoder.instr
  rw [x_bd (x_u1 h0), e]
  exact x_bd (r := Reader.u2) (x_u2 h1 h2)

set_option maxRecDepth 10000 in
theorem x_o198 (h0 : cd.data.toList[p]? = some b0) (h1 : cd.data.toList[p + 1]? = some b1) (h2 : cd.data.toList[p + 1 + 1]? = some b2) (e : b0.toNat = 198) : decode cd p = .ok (.ifnull (Reader.signed 16 (b1.toNat * 256 + b2.toNat)), 3) := by
  refine x_dd (q := p + 1 + 2) ?_ rfl
  unfold Decoder.instr
  rw [x_bd (x_u1 h0), e]
  exact x_bd (r := Reader.s2) (x_mp (x_u2 h1 h2))

set_option maxRecDepth 10000 in
theorem x_o199 (h0 : cd.data.toList[p]? = some b0) (h1 : cd.data.toList[p + 1]? = some b1) (h2 : cd.data.toList[p + 1 + 1]? = some b2) (e : b0.toNat = 199) : decode cd p = .ok (.ifnonnull (Reader.signed 16 (b1.toNat * 256 + b2.toNat)), 3) := by
  refine x_dd (q := p + 1 + 2) ?_ rfl
  unfold Decoder.instr
  rw [x_bd (x_u1 h0), e]
  exact x_bd (r := Reader.s2) (x_mp (x_u2 h1 h2))

set_option maxRecDepth 10000 in
theorem x_o132 (h0 : cd.data.toList[p]? = some b0) (h1 : cd.data.toList[p + 1]? = some b1) (h2 : cd.data.toList[p + 1 + 1]? = some b2) (e : b0.toNat = 132) : decode cd p = .ok (.iinc b1.toNat (Reader.signed 8 b2.toNat), 3) := by
  refine x_dd (q := p + 1 + 2) ?_ rfl
  unfold Decoder.instr
  rw [x_bd (x_u1 h0), e]
  refine (x_bd (r := Reader.u1) (x_u1 h1)).trans ?_
  exact x_bd (r := Reader.s1) (x_mp (x_u1 h2))
set_option maxRecDepth 10000 in
theorem x_o188a (h0 : cd.data.toList[p]? = some b0) (h1 : cd.data.toList[p + 1]? = some b1) (e : b0.toNat = 188) (e1 : b1.toNat = 10) : decode cd p = .ok (.newarray .int, 2) := by
  refine x_dd (q := p + 1 + 1) ?_ rfl
  unfold Decoder.instr
  rw [x_bd (x_u1 h0), e]
  show (Decoder.newarray p).runAt cd (p + 1) = _
  unfold Decoder.newarray
  rw [x_bd (x_u1 h1), e1]
  rfl
set_option maxRecDepth 10000 in
theorem x_o188b (h0 : cd.data.toList[p]? = some b0) (h1 : cd.data.toList[p + 1]? = some b1) (e : b0.toNat = 188) (e1 : b1.toNat = 4) : decode cd p = .ok (.newarray .boolean, 2) := by
  refine x_dd (q := p + 1 + 1) ?_ rfl
  unfold Decoder.instr
  rw [x_bd (x_u1 h0), e]
  show (Decoder.newarray p).runAt cd (p + 1) = _
  unfold Decoder.newarray
  rw [x_bd (x_u1 h1), e1]
  rfl
end

def x_d0 (n : Nat) : Option Instr := if n = 1 then some (.aconst_null) else if n = 2 then some (.iconst (-1)) else if n = 3 then some (.iconst (0)) else if n = 4 then some (.iconst (1)) else if n = 5 then some (.iconst (2)) else if n = 6 then some (.iconst (3)) else if n = 7 then some (.iconst (4)) else if n = 8 then some (.iconst (5)) else if n = 26 then some (.iload_n 0) else if n = 27 then some (.iload_n 1) else if n = 28 then some (.iload_n 2) else if n = 29 then some (.iload_n 3) else if n = 42 then some (.aload_n 0) else if n = 43 then some (.aload_n 1) else if n = 44 then some (.aload_n 2) else if n = 45 then some (.aload_n 3) else if n = 46 then some (.iaload) else if n = 50 then some (.aaload) else if n = 51 then some (.baload) else if n = 59 then some (.istore_n 0) else if n = 60 then some (.istore_n 1) else if n = 61 then some (.istore_n 2) else if n = 62 then some (.istore_n 3) else if n = 75 then some (.astore_n 0) else if n = 76 then some (.astore_n 1) else if n = 77 then some (.astore_n 2) else if n = 78 then some (.astore_n 3) else if n = 79 then some (.iastore) else if n = 83 then some (.aastore) else if n = 84 then some (.bastore) else if n = 87 then some (.pop) else if n = 89 then some (.dup) else if n = 92 then some (.dup2) else if n = 96 then some (.iadd) else if n = 100 then some (.isub) else if n = 104 then some (.imul) else if n = 112 then some (.irem) else if n = 116 then some (.ineg) else if n = 120 then some (.ishl) else if n = 122 then some (.ishr) else if n = 126 then some (.iand) else if n = 128 then some (.ior) else if n = 172 then some (.ireturn) else if n = 176 then some (.areturn) else if n = 177 then some (.return_) else if n = 190 then some (.arraylength) else none
def x_d1 (n a : Nat) : Option Instr := if n = 16 then some (.bipush (Reader.signed 8 a)) else if n = 18 then some (.ldc a) else if n = 21 then some (.iload a) else if n = 25 then some (.aload a) else if n = 54 then some (.istore a) else if n = 58 then some (.astore a) else if n = 188 then (if a = 10 then some (.newarray .int) else if a = 4 then some (.newarray .boolean) else none) else none
def x_d2 (n a b : Nat) : Option Instr := if n = 17 then some (.sipush (Reader.signed 16 (a * 256 + b))) else if n = 19 then some (.ldc_w (a * 256 + b)) else if n = 153 then some (.ifCond .eq (Reader.signed 16 (a * 256 + b))) else if n = 154 then some (.ifCond .ne (Reader.signed 16 (a * 256 + b))) else if n = 155 then some (.ifCond .lt (Reader.signed 16 (a * 256 + b))) else if n = 156 then some (.ifCond .ge (Reader.signed 16 (a * 256 + b))) else if n = 157 then some (.ifCond .gt (Reader.signed 16 (a * 256 + b))) else if n = 158 then some (.ifCond .le (Reader.signed 16 (a * 256 + b))) else if n = 159 then some (.if_icmp .eq (Reader.signed 16 (a * 256 + b))) else if n = 160 then some (.if_icmp .ne (Reader.signed 16 (a * 256 + b))) else if n = 161 then some (.if_icmp .lt (Reader.signed 16 (a * 256 + b))) else if n = 162 then some (.if_icmp .ge (Reader.signed 16 (a * 256 + b))) else if n = 163 then some (.if_icmp .gt (Reader.signed 16 (a * 256 + b))) else if n = 164 then some (.if_icmp .le (Reader.signed 16 (a * 256 + b))) else if n = 167 then some (.goto (Reader.signed 16 (a * 256 + b))) else if n = 180 then some (.getfield (a * 256 + b)) else if n = 181 then some (.putfield (a * 256 + b)) else if n = 182 then some (.invokevirtual (a * 256 + b)) else if n = 183 then some (.invokespecial (a * 256 + b)) else if n = 184 then some (.invokestatic (a * 256 + b)) else if n = 187 then some (.new (a * 256 + b)) else if n = 189 then some (.anewarray (a * 256 + b)) else if n = 198 then some (.ifnull (Reader.signed 16 (a * 256 + b))) else if n = 199 then some (.ifnonnull (Reader.signed 16 (a * 256 + b))) else if n = 132 then some (.iinc a (Reader.signed 8 b)) else none

/-- is it instruction i, of len bytes, at the head of these bytes -/
def x_is (l : List UInt8) (i : Instr) (len : Nat) : Bool := match len, l with
  | 1, a :: _ => decide (x_d0 a.toNat = some i)
  | 2, a :: b :: _ => decide (x_d1 a.toNat b.toNat = some i)
  | 3, a :: b :: c :: _ => decide (x_d2 a.toNat b.toNat c.toNat = some i)
  | _, _ => false

theorem x_d0_ok {cd : ByteArray} {p : Nat} {b0 : UInt8} {i : Instr} (h0 : cd.data.toList[p]? = some b0) (h : x_d0 b0.toNat = some i) : decode cd p = .ok (i, 1) := by
  by_cases q1 : b0.toNat = 1
  · rw [q1] at h
    cases (show some _ = some i from h)
    exact x_o1 h0 q1
  by_cases q2 : b0.toNat = 2
  · rw [q2] at h
    cases (show some _ = some i from h)
    exact x_o2 h0 q2
  by_cases q3 : b0.toNat = 3
  · rw [q3] at h
    cases (show some _ = some i from h)
    exact x_o3 h0 q3
  by_cases q4 : b0.toNat = 4
  · rw [q4] at h
    cases (show some _ = some i from h)
    exact x_o4 h0 q4
  by_cases q5 : b0.toNat = 5
  · rw [q5] at h
    cases (show some _ = some i from h)
    exact x_o5 h0 q5
  by_cases q6 : b0.toNat = 6
  · rw [q6] at h
    cases (show some _ = some i from h)
    exact x_o6 h0 q6
  by_cases q7 : b0.toNat = 7
  · rw [q7] at h
    cases (show some _ = some i from h)
    exact x_o7 h0 q7
  by_cases q8 : b0.toNat = 8
  · rw [q8] at h
    cases (show some _ = some i from h)
    exact x_o8 h0 q8
  by_cases q26 : b0.toNat = 26
  · rw [q26] at h
    cases (show some _ = some i from h)
    exact x_o26 h0 q26
  by_cases q27 : b0.toNat = 27
  · rw [q27] at h
    cases (show some _ = some i from h)
    exact x_o27 h0 q27
  by_cases q28 : b0.toNat = 28
  · rw [q28] at h
    cases (show some _ = some i from h)
    exact x_o28 h0 q28
  by_cases q29 : b0.toNat = 29
  · rw [q29] at h
    cases (show some _ = some i from h)
    exact x_o29 h0 q29
  by_cases q42 : b0.toNat = 42
  · rw [q42] at h
    cases (show some _ = some i from h)
    exact x_o42 h0 q42
  by_cases q43 : b0.toNat = 43
  · rw [q43] at h
    cases (show some _ = some i from h)
    exact x_o43 h0 q43
  by_cases q44 : b0.toNat = 44
  · rw [q44] at h
    cases (show some _ = some i from h)
    exact x_o44 h0 q44
  by_cases q45 : b0.toNat = 45
  · rw [q45] at h
    cases (show some _ = some i from h)
    exact x_o45 h0 q45
  by_cases q46 : b0.toNat = 46
  · rw [q46] at h
    cases (show some _ = some i from h)
    exact x_o46 h0 q46
  by_cases q50 : b0.toNat = 50
  · rw [q50] at h
    cases (show some _ = some i from h)
    exact x_o50 h0 q50
  by_cases q51 : b0.toNat = 51
  · rw [q51] at h
    cases (show some _ = some i from h)
    exact x_o51 h0 q51
  by_cases q59 : b0.toNat = 59
  · rw [q59] at h
    cases (show some _ = some i from h)
    exact x_o59 h0 q59
  by_cases q60 : b0.toNat = 60
  · rw [q60] at h
    cases (show some _ = some i from h)
    exact x_o60 h0 q60
  by_cases q61 : b0.toNat = 61
  · rw [q61] at h
    cases (show some _ = some i from h)
    exact x_o61 h0 q61
  by_cases q62 : b0.toNat = 62
  · rw [q62] at h
    cases (show some _ = some i from h)
    exact x_o62 h0 q62
  by_cases q75 : b0.toNat = 75
  · rw [q75] at h
    cases (show some _ = some i from h)
    exact x_o75 h0 q75
  by_cases q76 : b0.toNat = 76
  · rw [q76] at h
    cases (show some _ = some i from h)
    exact x_o76 h0 q76
  by_cases q77 : b0.toNat = 77
  · rw [q77] at h
    cases (show some _ = some i from h)
    exact x_o77 h0 q77
  by_cases q78 : b0.toNat = 78
  · rw [q78] at h
    cases (show some _ = some i from h)
    exact x_o78 h0 q78
  by_cases q79 : b0.toNat = 79
  · rw [q79] at h
    cases (show some _ = some i from h)
    exact x_o79 h0 q79
  by_cases q83 : b0.toNat = 83
  · rw [q83] at h
    cases (show some _ = some i from h)
    exact x_o83 h0 q83
  by_cases q84 : b0.toNat = 84
  · rw [q84] at h
    cases (show some _ = some i from h)
    exact x_o84 h0 q84
  by_cases q87 : b0.toNat = 87
  · rw [q87] at h
    cases (show some _ = some i from h)
    exact x_o87 h0 q87
  by_cases q89 : b0.toNat = 89
  · rw [q89] at h
    cases (show some _ = some i from h)
    exact x_o89 h0 q89
  by_cases q92 : b0.toNat = 92
  · rw [q92] at h
    cases (show some _ = some i from h)
    exact x_o92 h0 q92
  by_cases q96 : b0.toNat = 96
  · rw [q96] at h
    cases (show some _ = some i from h)
    exact x_o96 h0 q96
  by_cases q100 : b0.toNat = 100
  · rw [q100] at h
    cases (show some _ = some i from h)
    exact x_o100 h0 q100
  by_cases q104 : b0.toNat = 104
  · rw [q104] at h
    cases (show some _ = some i from h)
    exact x_o104 h0 q104
  by_cases q112 : b0.toNat = 112
  · rw [q112] at h
    cases (show some _ = some i from h)
    exact x_o112 h0 q112
  by_cases q116 : b0.toNat = 116
  · rw [q116] at h
    cases (show some _ = some i from h)
    exact x_o116 h0 q116
  by_cases q120 : b0.toNat = 120
  · rw [q120] at h
    cases (show some _ = some i from h)
    exact x_o120 h0 q120
  by_cases q122 : b0.toNat = 122
  · rw [q122] at h
    cases (show some _ = some i from h)
    exact x_o122 h0 q122
  by_cases q126 : b0.toNat = 126
  · rw [q126] at h
    cases (show some _ = some i from h)
    exact x_o126 h0 q126
  by_cases q128 : b0.toNat = 128
  · rw [q128] at h
    cases (show some _ = some i from h)
    exact x_o128 h0 q128
  by_cases q172 : b0.toNat = 172
  · rw [q172] at h
    cases (show some _ = some i from h)
    exact x_o172 h0 q172
  by_cases q176 : b0.toNat = 176
  · rw [q176] at h
    cases (show some _ = some i from h)
    exact x_o176 h0 q176
  by_cases q177 : b0.toNat = 177
  · rw [q177] at h
    cases (show some _ = some i from h)
    exact x_o177 h0 q177
  by_cases q190 : b0.toNat = 190
  · rw [q190] at h
    cases (show some _ = some i from h)
    exact x_o190 h0 q190
  simp only [x_d0, if_neg q1, if_neg q2, if_neg q3, if_neg q4, if_neg q5, if_neg q6, if_neg q7, if_neg q8, if_neg q26, if_neg q27, if_neg q28, if_neg q29, if_neg q42, if_neg q43, if_neg q44, if_neg q45, if_neg q46, if_neg q50, if_neg q51, if_neg q59, if_neg q60, if_neg q61, if_neg q62, if_neg q75, if_neg q76, if_neg q77, if_neg q78, if_neg q79, if_neg q83, if_neg q84, if_neg q87, if_neg q89, if_neg q92, if_neg q96, if_neg q100, if_neg q104, if_neg q112, if_neg q116, if_neg q120, if_neg q122, if_neg q126, if_neg q128, if_neg q172, if_neg q176, if_neg q177, if_neg q190] at h
  cases h

theorem x_d1_ok {cd : ByteArray} {p : Nat} {b0 b1 : UInt8} {i : Instr} (h0 : cd.data.toList[p]? = some b0) (h1 : cd.data.toList[p + 1]? = some b1) (h : x_d1 b0.toNat b1.toNat = some i) : decode cd p = .ok (i, 2) := by
  by_cases q16 : b0.toNat = 16
  · rw [q16] at h
    cases (show some _ = some i from h)
    exact x_o16 h0 h1 q16
  by_cases q18 : b0.toNat = 18
  · rw [q18] at h
    cases (show some _ = some i from h)
    exact x_o18 h0 h1 q18
  by_cases q21 : b0.toNat = 21
  · rw [q21] at h
    cases (show some _ = some i from h)
    exact x_o21 h0 h1 q21
  by_cases q25 : b0.toNat = 25
  · rw [q25] at h
    cases (show some _ = some i from h)
    exact x_o25 h0 h1 q25
  by_cases q54 : b0.toNat = 54
  · rw [q54] at h
    cases (show some _ = some i from h)
    exact x_o54 h0 h1 q54
  by_cases q58 : b0.toNat = 58
  · rw [q58] at h
    cases (show some _ = some i from h)
    exact x_o58 h0 h1 q58
  by_cases q188 : b0.toNat = 188
  · by_cases r10 : b1.toNat = 10
    · rw [q188, r10] at h
      cases (show some _ = some i from h)
      exact x_o188a h0 h1 q188 r10
    · by_cases r4 : b1.toNat = 4
      · rw [q188, r4] at h
        cases (show some _ = some i from h)
        exact x_o188b h0 h1 q188 r4
      · simp only [x_d1, if_neg q16, if_neg q18, if_neg q21, if_neg q25, if_neg q54, if_neg q58, if_pos q188, if_neg r10, if_neg r4] at h
        cases h
  simp only [x_d1, if_neg q16, if_neg q18, if_neg q21, if_neg q25, if_neg q54, if_neg q58, if_neg q188] at h
  cases h

theorem x_d2_ok {cd : ByteArray} {p : Nat} {b0 b1 b2 : UInt8} {i : Instr} (h0 : cd.data.toList[p]? = some b0) (h1 : cd.data.toList[p + 1]? = some b1) (h2 : cd.data.toList[p + 1 + 1]? = some b2) (h : x_d2 b0.toNat b1.toNat b2.toNat = some i) : decode cd p = .ok (i, 3) := by
  by_cases q17 : b0.toNat = 17
  · rw [q17] at h
    cases (show some _ = some i from h)
    exact x_o17 h0 h1 h2 q17
  by_cases q19 : b0.toNat = 19
  · rw [q19] at h
    cases (show some _ = some i from h)
    exact x_o19 h0 h1 h2 q19
  by_cases q132 : b0.toNat = 132
  · rw [q132] at h
    cases (show some _ = some i from h)
    exact x_o132 h0 h1 h2 q132
  by_cases q153 : b0.toNat = 153
  · rw [q153] at h
    cases (show some _ = some i from h)
    exact x_o153 h0 h1 h2 q153
  by_cases q154 : b0.toNat = 154
  · rw [q154] at h
    cases (show some _ = some i from h)
    exact x_o154 h0 h1 h2 q154
  by_cases q155 : b0.toNat = 155
  · rw [q155] at h
    cases (show some _ = some i from h)
    exact x_o155 h0 h1 h2 q155
  by_cases q156 : b0.toNat = 156
  · rw [q156] at h
    cases (show some _ = some i from h)
    exact x_o156 h0 h1 h2 q156
  by_cases q157 : b0.toNat = 157
  · rw [q157] at h
    cases (show some _ = some i from h)
    exact x_o157 h0 h1 h2 q157
  by_cases q158 : b0.toNat = 158
  · rw [q158] at h
    cases (show some _ = some i from h)
    exact x_o158 h0 h1 h2 q158
  by_cases q159 : b0.toNat = 159
  · rw [q159] at h
    cases (show some _ = some i from h)
    exact x_o159 h0 h1 h2 q159
  by_cases q160 : b0.toNat = 160
  · rw [q160] at h
    cases (show some _ = some i from h)
    exact x_o160 h0 h1 h2 q160
  by_cases q161 : b0.toNat = 161
  · rw [q161] at h
    cases (show some _ = some i from h)
    exact x_o161 h0 h1 h2 q161
  by_cases q162 : b0.toNat = 162
  · rw [q162] at h
    cases (show some _ = some i from h)
    exact x_o162 h0 h1 h2 q162
  by_cases q163 : b0.toNat = 163
  · rw [q163] at h
    cases (show some _ = some i from h)
    exact x_o163 h0 h1 h2 q163
  by_cases q164 : b0.toNat = 164
  · rw [q164] at h
    cases (show some _ = some i from h)
    exact x_o164 h0 h1 h2 q164
  by_cases q167 : b0.toNat = 167
  · rw [q167] at h
    cases (show some _ = some i from h)
    exact x_o167 h0 h1 h2 q167
  by_cases q180 : b0.toNat = 180
  · rw [q180] at h
    cases (show some _ = some i from h)
    exact x_o180 h0 h1 h2 q180
  by_cases q181 : b0.toNat = 181
  · rw [q181] at h
    cases (show some _ = some i from h)
    exact x_o181 h0 h1 h2 q181
  by_cases q182 : b0.toNat = 182
  · rw [q182] at h
    cases (show some _ = some i from h)
    exact x_o182 h0 h1 h2 q182
  by_cases q183 : b0.toNat = 183
  · rw [q183] at h
    cases (show some _ = some i from h)
    exact x_o183 h0 h1 h2 q183
  by_cases q184 : b0.toNat = 184
  · rw [q184] at h
    cases (show some _ = some i from h)
    exact x_o184 h0 h1 h2 q184
  by_cases q187 : b0.toNat = 187
  · rw [q187] at h
    cases (show some _ = some i from h)
    exact x_o187 h0 h1 h2 q187
  by_cases q189 : b0.toNat = 189
  · rw [q189] at h
    cases (show some _ = some i from h)
    exact x_o189 h0 h1 h2 q189
  by_cases q198 : b0.toNat = 198
  · rw [q198] at h
    cases (show some _ = some i from h)
    exact x_o198 h0 h1 h2 q198
  by_cases q199 : b0.toNat = 199
  · rw [q199] at h
    cases (show some _ = some i from h)
    exact x_o199 h0 h1 h2 q199
  simp only [x_d2, if_neg q17, if_neg q19, if_neg q132, if_neg q153, if_neg q154, if_neg q155, if_neg q156, if_neg q157, if_neg q158, if_neg q159, if_neg q160, if_neg q161, if_neg q162, if_neg q163, if_neg q164, if_neg q167, if_neg q180, if_neg q181, if_neg q182, if_neg q183, if_neg q184, if_neg q187, if_neg q189, if_neg q198, if_neg q199] at h
  cases h

theorem x_is_ok {cd : ByteArray} {p len : Nat} {i : Instr} (h : x_is (cd.data.toList.drop p) i len = true) : decode cd p = .ok (i, len) := by
  unfold x_is at h
  split at h
  · rename_i a r hl
    refine x_d0_ok (b0 := a) ?_ (of_decide_eq_true h)
    have := congrArg (fun l => l[0]?) hl
    simpa [List.getElem?_drop] using this
  · rename_i a b r hl
    refine x_d1_ok (b0 := a) (b1 := b) ?_ ?_ (of_decide_eq_true h)
    · have := congrArg (fun l => l[0]?) hl
      simpa [List.getElem?_drop] using this
    · have := congrArg (fun l => l[1]?) hl
      simpa [List.getElem?_drop] using this
  · rename_i a b c r hl
    refine x_d2_ok (b0 := a) (b1 := b) (b2 := c) ?_ ?_ ?_ (of_decide_eq_true h)
    · have := congrArg (fun l => l[0]?) hl
      simpa [List.getElem?_drop] using this
    · have := congrArg (fun l => l[1]?) hl
      simpa [List.getElem?_drop] using this
    · have := congrArg (fun l => l[2]?) hl
      simpa [List.getElem?_drop, Nat.add_assoc] using this
  · cases h
end
section
/-! THE TABLES AGREE WITH THE BYTES AND THE WORDS -/
def x_D (sf : List UInt8) (p p2 : Nat) (i : Instr) (len : Nat) : Bool := x_is sf i len && decide (p2 = p + len)
def x_ifI (u : Nat) (off : Int) : Instr := if u = 0 then .ifCond .eq off else if u = 1 then .ifCond .ne off else if u = 2 then .ifCond .lt off else if u = 3 then .ifCond .ge off else if u = 4 then .ifCond .gt off else .ifCond .le off
def x_icI (u : Nat) (off : Int) : Instr := if u = 0 then .if_icmp .eq off else if u = 1 then .if_icmp .ne off else if u = 2 then .if_icmp .lt off else if u = 3 then .if_icmp .ge off else if u = 4 then .if_icmp .gt off else .if_icmp .le off
def x_q (c : Nat) : vw_C := vwCl.getD c (RX0, TX0, 0)
def x_tp (cd : List Nat) (t : Nat) : Nat := (x_dec (cd.getD t 63)).2.2.2.2
noncomputable def x_dr (n : Nat) : List Cond := Nat.rec (motive := fun _ => List Cond) lw_tbl (fun _ r => r.tail) n
noncomputable def x_wd (p : Nat) (w : Cond) : Bool := decide ((x_dr p).head? = some w)
/-- the bytes of a method, as its word in the tables has them -/
noncomputable def x_bw (me : XM) : ByteArray := if me.2.2.2.2.1.2.2 = 8 then code else match (x_dr me.2.2.2.2.2.1.1).head? with
  | some (.code _ b _ _) => b
  | _ => ⟨#[]⟩
noncomputable def x_by (y : Nat) : ByteArray := x_bw (x_mi y)
noncomputable def x_ckL (own : String) (t u : Nat) (f : Nat → Instr) (sf : List UInt8) (p p2 : Nat) : Bool := match xml[u]? with
  | some (pl, o, ix, y) => decide (o = own) && decide (y = t) && x_D sf p p2 (f ix) 3
  | none => false
def x_ckF (own : String) (t u : Nat) (f : Nat → Instr) (sf : List UInt8) (p p2 : Nat) : Bool := match xfl[u]? with
  | some (pl, o, ix, c, j) => decide (o = own) && decide (t = c * 16 + j) && x_D sf p p2 (f ix) 3
  | none => false
noncomputable def x_ckj (own : String) (rt dp lc st rk : Nat) (cd : List Nat) (bw : ByteArray) (sf : List UInt8) (i : xI) (p2 : Nat) : Bool := match i with
  | (op, a, t, u, p) =>
    if op = 0 then (if u = 0 then x_D sf p p2 (.iconst a) 1 else if u = 1 then x_D sf p p2 (.bipush a) 2 && decide (-128 ≤ a) && decide (a < 128) else if u = 2 then x_D sf p p2 (.sipush a) 3 && decide (-32768 ≤ a) && decide (a < 32768)
      else (match xcn[u - 3]? with
        | some (pl, o, ix, v, w) => decide (o = own) && decide (v = Int32.ofInt a) && (if w = 1 then x_D sf p p2 (.ldc_w ix) 3 else x_D sf p p2 (.ldc ix) 2)
        | none => false)) && decide (-2147483648 ≤ a) && decide (a < 2147483648)
    else if op = 1 then (if u = 0 then decide (t < 4) && x_D sf p p2 (.iload_n (Fin.ofNat 4 t)) 1 else x_D sf p p2 (.iload t) 2)
    else if op = 2 then (if u = 0 then decide (t < 4) && x_D sf p p2 (.aload_n (Fin.ofNat 4 t)) 1 else x_D sf p p2 (.aload t) 2)
    else if op = 3 then (if u = 0 then decide (t < 4) && x_D sf p p2 (.istore_n (Fin.ofNat 4 t)) 1 else x_D sf p p2 (.istore t) 2)
    else if op = 4 then (if u = 0 then decide (t < 4) && x_D sf p p2 (.astore_n (Fin.ofNat 4 t)) 1 else x_D sf p p2 (.astore t) 2)
    else if op = 5 then x_D sf p p2 (.iinc t a) 3
    else if op = 6 then x_D sf p p2 .iadd 1
    else if op = 7 then x_D sf p p2 .isub 1
    else if op = 8 then x_D sf p p2 .imul 1
    else if op = 9 then x_D sf p p2 .irem 1
    else if op = 10 then x_D sf p p2 .ineg 1
    else if op = 11 then x_D sf p p2 .iand 1
    else if op = 12 then x_D sf p p2 .ior 1
    else if op = 13 then x_D sf p p2 .ishl 1
    else if op = 14 then x_D sf p p2 .ishr 1
    else if op = 15 then x_D sf p p2 (x_ifI u ((x_tp cd t : Int) - p)) 3
    else if op = 16 then x_D sf p p2 (x_icI u ((x_tp cd t : Int) - p)) 3
    else if op = 17 then x_is sf (.goto ((x_tp cd t : Int) - p)) 3
    else if op = 18 then x_D sf p p2 (.ifnull ((x_tp cd t : Int) - p)) 3
    else if op = 19 then x_D sf p p2 (.ifnonnull ((x_tp cd t : Int) - p)) 3
    else if op = 20 then x_D sf p p2 .aconst_null 1
    else if op = 21 then x_D sf p p2 .dup 1
    else if op = 22 then x_D sf p p2 .pop 1
    else if op = 23 then x_D sf p p2 .dup2 1
    else if op = 24 then x_ckF own t u .getfield sf p p2 && decide (xrf (t / 16) (t % 16) = false)
    else if op = 25 then x_ckF own t u .getfield sf p p2 && decide (xrf (t / 16) (t % 16) = true)
    else if op = 26 then x_ckF own t u .putfield sf p p2 && decide (xrf (t / 16) (t % 16) = false) && decide (((x_q (t / 16)).2.1 (t % 16)).2.2.1 = "I") && (decide (((x_q (t / 16)).2.1 (t % 16)).2.2.2 = false) || (decide (st = 2) && decide (((x_q (t / 16)).2.1 (t % 16)).1 = own)))
    else if op = 27 then x_ckF own t u .putfield sf p p2 && decide (xrf (t / 16) (t % 16) = true) && (decide (((x_q (t / 16)).2.1 (t % 16)).2.2.2 = false) || (decide (st = 2) && decide (((x_q (t / 16)).2.1 (t % 16)).1 = own)))
    else if op = 32 then x_ckF own t u .putfield sf p p2 && decide (xrf (t / 16) (t % 16) = false) && decide (((x_q (t / 16)).2.1 (t % 16)).2.2.1 = "Z") && decide (((x_q (t / 16)).2.1 (t % 16)).2.2.2 = false)
    else if op = 28 then x_D sf p p2 .iaload 1
    else if op = 29 then x_D sf p p2 .iastore 1
    else if op = 30 then x_D sf p p2 .aaload 1
    else if op = 31 then x_D sf p p2 .aastore 1
    else if op = 33 then x_D sf p p2 .baload 1
    else if op = 34 then x_D sf p p2 .bastore 1
    else if op = 35 then (match xcl[u]? with
      | some (pl, o, ix, cn) => decide (o = own) && decide (t < 8) && decide (cn = (x_q t).1) && x_D sf p p2 (.new ix) 3
      | none => false)
    else if op = 36 then x_D sf p p2 (.newarray .int) 2
    else if op = 37 then x_D sf p p2 (.newarray .boolean) 2
    else if op = 38 then (match xcl[u]? with
      | some (pl, o, ix, cn) => decide (o = own) && decide (10 ≤ t) && decide (t < 14) && decide (cn = ["WheelStands$Cart", "WheelStands$Stand", "WheelStands$Town", "WheelStands$Wheel"].getD (t - 10) "") && x_D sf p p2 (.anewarray ix) 3
      | none => false)
    else if op = 40 then x_ckL own t u .invokevirtual sf p p2 && decide (x_st t = 0) && decide (x_dp t + 1 ≤ dp) && decide (8 + (x_ml t + 11) + x_lc t ≤ lc)
    else if op = 41 then x_ckL own t u .invokestatic sf p p2 && decide (x_st t = 1) && decide (x_dp t + 1 ≤ dp) && decide (8 + (x_ml t + 11) + x_lc t ≤ lc)
    else if op = 42 then x_ckL own t u .invokespecial sf p p2 && decide (x_st t = 2) && decide (x_dp t + 1 ≤ dp) && decide (8 + (x_ml t + 11) + x_lc t ≤ lc)
    else if op = 56 then x_ckL own t u .invokestatic sf p p2 && decide (t = xprC ∨ t = xprM) && decide (x_st t = 1) && decide (x_dp t + 1 ≤ dp) && decide (8 + (x_ml t + 11) + x_lc t ≤ lc)
    else if op = 43 then x_wd u (.methodLink own t objectInit) && x_D sf p p2 (.invokespecial t) 3 && decide (1 ≤ dp) && decide (40 ≤ lc)
    else if op = 44 then x_wd u (.methodLink own t Lib.Math.max.name) && x_D sf p p2 (.invokestatic t) 3 && decide (1 ≤ dp) && decide (40 ≤ lc)
    else if op = 45 then x_wd u (.methodLink own t Lib.Math.min.name) && x_D sf p p2 (.invokestatic t) 3 && decide (1 ≤ dp) && decide (40 ≤ lc)
    else if op = 46 then x_wd u (.methodLink own t arraycopyName) && x_D sf p p2 (.invokestatic t) 3 && decide (1 ≤ dp) && decide (40 ≤ lc)
    else if op = 47 then (match xsw[u]? with
      | some ((d, lo, hi, offs, len), dt, ts) => decide (decode bw p = .ok (.tableswitch d lo hi offs, len)) && decide ((x_tp cd dt : Int) = p + d) && decide (offs.size = ts.length) && decide ((ts.length : Int) = hi - lo + 1) && (List.range ts.length).all (fun i => decide ((x_tp cd (ts.getD i 0) : Int) = p + offs.getD i 0))
      | none => false)
    else if op = 50 then x_is sf .ireturn 1 && decide (rt = 1)
    else if op = 51 then x_is sf .ireturn 1 && decide (rt = 2)
    else if op = 52 then x_is sf .areturn 1 && decide (3 ≤ rt)
    else if op = 53 then x_is sf .return_ 1 && decide (rt = 0)
    else if op = 54 then x_D sf p p2 .iaload 1 && decide (rk = 8)
    else if op = 55 then x_D sf p p2 .arraylength 1 && decide (rk = 8)
    else false
noncomputable def x_cki (me : XM) (sf : List UInt8) (n p2 : Nat) : Bool := x_ckj me.1.cls me.2.2.1 me.2.2.2.1.1 me.2.2.2.1.2.1 me.2.2.2.2.1.2.1 me.2.2.2.2.1.2.2 me.2.2.2.2.2.2 (x_bw me) sf (x_dec n) p2
noncomputable def x_ckl (me : XM) : List UInt8 → List Nat → Bool
  | _, [] => true
  | sf, n :: r => x_cki me sf n (x_dec (r.headD 63)).2.2.2.2 && (r.isEmpty || decide ((x_dec n).2.2.2.2 ≤ (x_dec (r.headD 63)).2.2.2.2)) && x_ckl me (sf.drop ((x_dec (r.headD 63)).2.2.2.2 - (x_dec n).2.2.2.2)) r
/-- a method's own words -/
noncomputable def x_ckm (me : XM) : Bool := match me with
  | (nm, ml, rt, _, (np, st, rk), (pc, ps, psel, pin), _) =>
    (match (x_dr pc).head? with
      | some (.code nm2 _ ml2 ret2) => decide (nm2 = nm) && decide (ml2 = ml) && decide (ret2 = x_rty rt)
      | _ => false) && x_wd pin (.initialized nm.cls) && decide (nm.cls = (x_q rk).1) && decide (rk < 8) && decide (rt < 6) && decide (np ≤ ml) && plainName nm.cls
      && decide (nm.cls ≠ "java/lang/invoke/MethodHandle" ∧ nm.cls ≠ "java/lang/invoke/VarHandle")
      && (if st = 1 then x_wd ps (.static nm) && decide ((parseMethodDescriptor nm.desc).map (fun d => d.parameters.length) = some np)
          else decide (1 ≤ np) && x_wd ps (.instanceMethod nm) && decide ((parseMethodDescriptor nm.desc).map (fun d => d.parameters.length) = some (np - 1)) && (if st = 2 then decide (nm.name = "<init>") && decide (rt = 0) else decide (st = 0) && x_wd psel (.selects nm.cls nm nm)))
noncomputable def x_ckA (me : XM) : Bool := x_ckl me (x_bw me).data.toList me.2.2.2.2.2.2 && (me.2.2.2.2.2.2.isEmpty || decide ((x_dec (me.2.2.2.2.2.2.headD 63)).2.2.2.2 = 0))
theorem x_flok : xfl.all (fun q => match q with | (pl, o, ix, c, j) => decide (c < 8) && decide (j < xnsl c) && decide (j < 16) && x_wd pl (.fieldLink o ix ((x_q c).2.1 j).1 ((x_q c).2.1 j).2.1 ((x_q c).2.1 j).2.2.1)) = true := by decide +kernel
theorem x_mlok : xml.all (fun q => match q with | (pl, o, ix, y) => x_wd pl (.methodLink o ix (x_nm y)) && decide (y < 181)) = true := by decide +kernel
theorem x_clok : xcl.all (fun q => match q with | (pl, o, ix, cn) => x_wd pl (.classLink o ix cn)) = true := by decide +kernel
theorem x_cnok : xcn.all (fun q => match q with | (pl, o, ix, v, _) => x_wd pl (.constant o ix v)) = true := by decide +kernel
theorem x_inok : (List.range 8).all (fun t => x_wd (xpin t) (.instantiable (x_q t).1 (xnsl t)) && x_wd (xpid t) (.initialized (x_q t).1)) = true := by decide +kernel
theorem x_jdk : (x_wd xp_oi (.instanceMethod objectInit) && x_wd xp_oc (.code objectInit ⟨#[0xb1]⟩ 1 none) && x_wd xp_maxs (.static Lib.Math.max.name) && x_wd xp_maxc (.code Lib.Math.max.name Lib.Math.max.code 2 (some .int)) && x_wd xp_mins (.static Lib.Math.min.name) && x_wd xp_minc (.code Lib.Math.min.name Lib.Math.min.code 2 (some .int)) && x_wd xp_mi (.initialized "java/lang/Math") && x_wd xp_si (.initialized "java/lang/System") && x_wd xp_an (.native arraycopyName) && x_wd xp_as (.static arraycopyName) && x_wd xp_ai (.arrayClass .int) && x_wd xp_ab (.arrayClass .boolean)) = true := by decide +kernel
theorem x_aok : (List.range 4).all (fun t => x_wd ([xp_o10, xp_o11, xp_o12, xp_o13].getD t 0) (.arrayOver (.object (["WheelStands$Cart", "WheelStands$Stand", "WheelStands$Town", "WheelStands$Wheel"].getD t "")))) = true := by decide +kernel
def x_ty (c j : Nat) : FieldType := if c = 0 then tyX0 j else if c = 1 then tyX1 j else if c = 2 then tyX2 j else if c = 3 then tyX3 j else if c = 4 then tyX4 j else if c = 5 then tyX5 j else if c = 6 then tyX6 j else tyX7 j
theorem x_layok : (List.range 8).all (fun c => (List.range (xnsl c)).all (fun j => x_wd ((xlay.getD c []).getD j 0) (u_lay (x_q c).1 (x_q c).2.1 j) && goodWord (u_lay (x_q c).1 (x_q c).2.1 j))) = true := by decide +kernel
theorem x_tyok : (List.range 8).all (fun c => decide ((x_q c).2.2 = xnsl c) && (List.range (xnsl c)).all (fun j => decide (parseFieldDescriptor ((x_q c).2.1 j).2.2.1 = some (x_ty c j)) && (if xrf c j = true then (match x_ty c j with | .object _ => true | .array _ => true | _ => false) else if ((x_q c).2.1 j).2.2.1 = "I" then decide (x_ty c j = .int) else decide (x_ty c j = .boolean)))) = true := by decide +kernel
end
section
theorem x_m0 : xmt0.all x_ckm = true := by sorry
theorem x_m1 : xmt1.all x_ckm = true := by sorry
theorem x_m2 : xmt2.all x_ckm = true := by sorry
theorem x_m3 : xmt3.all x_ckm = true := by sorry
theorem x_m4 : xmt4.all x_ckm = true := by sorry
theorem x_m5 : xmt5.all x_ckm = true := by sorry
theorem x_m6 : (xmt6.take 25).all x_ckm = true := by sorry
theorem x_a0 : xmt0.all x_ckA = true := by sorry
theorem x_a1 : xmt1.all x_ckA = true := by sorry
theorem x_a2 : xmt2.all x_ckA = true := by sorry
theorem x_a3 : xmt3.all x_ckA = true := by sorry
theorem x_a4 : xmt4.all x_ckA = true := by sorry
theorem x_a5 : xmt5.all x_ckA = true := by sorry
theorem x_a6 : (xmt6.take 25).all x_ckA = true := by sorry
theorem x_aL : (xmt6.drop 25).all x_ckA = true := by sorry
end
section
/-! WHAT THE CHECKS GIVE -/
theorem x_wdr (n : Nat) : x_dr n = lw_tbl.drop n := by
  induction n with
  | zero => rfl
  | succ n ih =>
    show (x_dr n).tail = _
    rw [ih, List.tail_drop]
theorem x_wd_ok {n : Nat} {w : Cond} (h : x_wd n w = true) : w ∈ lw_tbl := by
  have h1 : (x_dr n).head? = some w := of_decide_eq_true h
  rw [x_wdr, List.head?_drop] at h1
  exact List.mem_of_getElem? h1
theorem x_mdr (n : Nat) : x_md n = xmt.drop n := by
  induction n with
  | zero => rfl
  | succ n ih =>
    show (x_md n).tail = _
    rw [ih, List.tail_drop]
theorem x_len : xmt.length = 182 := by decide +kernel
theorem x_mem {y : Nat} (h : y < 182) : xmt[y]? = some (x_mi y) := by
  unfold x_mi
  rw [x_mdr, List.headD_eq_head?_getD, List.head?_drop]
  rw [List.getElem?_eq_getElem (by rw [x_len]; exact h)]
  rfl
theorem x_apart7 {q : XM → Bool} {y : Nat} (h : y < 182) (h0 : xmt0.all q = true) (h1 : xmt1.all q = true) (h2 : xmt2.all q = true) (h3 : xmt3.all q = true) (h4 : xmt4.all q = true) (h5 : xmt5.all q = true) (h6 : xmt6.all q = true) : q (x_mi y) = true := by
  have hm := List.mem_of_getElem? (x_mem h)
  unfold xmt at hm
  simp only [List.mem_append] at hm
  rcases hm with hm | hm | hm | hm | hm | hm | hm
  · exact List.all_eq_true.mp h0 _ hm
  · exact List.all_eq_true.mp h1 _ hm
  · exact List.all_eq_true.mp h2 _ hm
  · exact List.all_eq_true.mp h3 _ hm
  · exact List.all_eq_true.mp h4 _ hm
  · exact List.all_eq_true.mp h5 _ hm
  · exact List.all_eq_true.mp h6 _ hm
theorem x_ckA_ok {y : Nat} (h : y < 182) : x_ckA (x_mi y) = true := by
  refine x_apart7 h x_a0 x_a1 x_a2 x_a3 x_a4 x_a5 ?_
  rw [← List.take_append_drop 25 xmt6, List.all_append, x_a6, x_aL]
  rfl
theorem x_ckm_ok {y : Nat} (h : y < 181) : x_ckm (x_mi y) = true := by
  have h2 := x_mem (show y < 182 by omega)
  have e : xmt = (xmt0 ++ (xmt1 ++ (xmt2 ++ (xmt3 ++ (xmt4 ++ (xmt5 ++ (xmt6.take 25))))))) ++ xmt6.drop 25 := by
    unfold xmt
    simp only [List.append_assoc, List.take_append_drop]
  have hl : (xmt0 ++ (xmt1 ++ (xmt2 ++ (xmt3 ++ (xmt4 ++ (xmt5 ++ (xmt6.take 25))))))).length = 181 := by decide +kernel
  rw [e, List.getElem?_append_left (by rw [hl]; exact h)] at h2
  have hm := List.mem_of_getElem? h2
  simp only [List.mem_append] at hm
  rcases hm with hm | hm | hm | hm | hm | hm | hm
  · exact List.all_eq_true.mp x_m0 _ hm
  · exact List.all_eq_true.mp x_m1 _ hm
  · exact List.all_eq_true.mp x_m2 _ hm
  · exact List.all_eq_true.mp x_m3 _ hm
  · exact List.all_eq_true.mp x_m4 _ hm
  · exact List.all_eq_true.mp x_m5 _ hm
  · exact List.all_eq_true.mp x_m6 _ hm
theorem x_ckl_ok (me : XM) (bl : List UInt8) : ∀ (r : List Nat) (p : Nat), (r = [] ∨ (x_dec (r.headD 63)).2.2.2.2 = p) → x_ckl me (bl.drop p) r = true → ∀ k n, r[k]? = some n → x_cki me (bl.drop (x_dec n).2.2.2.2) n (x_dec (r.getD (k + 1) 63)).2.2.2.2 = true := by
  intro r
  induction r with
  | nil => intro p _ _ k n h; simp at h
  | cons a r ih =>
    intro p hp hc k n hk
    have hp : (x_dec a).2.2.2.2 = p := by
      rcases hp with hp | hp
      · cases hp
      · exact hp
    have hc : (x_cki me (bl.drop p) a (x_dec (r.headD 63)).2.2.2.2 && (r.isEmpty || decide ((x_dec a).2.2.2.2 ≤ (x_dec (r.headD 63)).2.2.2.2)) && x_ckl me ((bl.drop p).drop ((x_dec (r.headD 63)).2.2.2.2 - (x_dec a).2.2.2.2)) r) = true := hc
    simp only [Bool.and_eq_true] at hc
    obtain ⟨⟨h1, h2⟩, h3⟩ := hc
    cases k with
    | zero =>
      simp only [List.getElem?_cons_zero, Option.some.injEq] at hk
      subst hk
      rw [hp]
      have e : (a :: r).getD (0 + 1) 63 = r.headD 63 := by cases r <;> rfl
      rw [e]
      exact h1
    | succ k =>
      simp only [List.getElem?_cons_succ] at hk
      have hr : r ≠ [] := by intro q; rw [q] at hk; simp at hk
      have h2 : (x_dec a).2.2.2.2 ≤ (x_dec (r.headD 63)).2.2.2.2 := by
        simp only [Bool.or_eq_true, List.isEmpty_iff, decide_eq_true_eq] at h2
        exact h2.resolve_left hr
      rw [List.drop_drop, show p + ((x_dec (r.headD 63)).2.2.2.2 - (x_dec a).2.2.2.2) = (x_dec (r.headD 63)).2.2.2.2 by omega] at h3
      have := ih _ (Or.inr rfl) h3 k n hk
      have e : (a :: r).getD (k + 1 + 1) 63 = r.getD (k + 1) 63 := rfl
      rw [e]
      exact this
theorem x_ck {y k : Nat} (hy : y < 182) (hk : k < (x_cd y).length) : x_ckj (x_nm y).cls (x_rt y) (x_dp y) (x_lc y) (x_st y) (x_rk y) (x_cd y) (x_by y) ((x_by y).data.toList.drop (x_pc y k)) (x_in y k) (x_pc y (k + 1)) = true := by
  have h := x_ckA_ok hy
  unfold x_ckA at h
  simp only [Bool.and_eq_true, Bool.or_eq_true, List.isEmpty_iff, decide_eq_true_eq] at h
  obtain ⟨h1, h2⟩ := h
  have hg : (x_cd y)[k]? = some ((x_cd y).getD k 63) := by
    rw [List.getD_eq_getElem?_getD, List.getElem?_eq_getElem hk]
    rfl
  have h3 := x_ckl_ok (x_mi y) (x_bw (x_mi y)).data.toList (x_mi y).2.2.2.2.2.2 0 h2 (by rw [List.drop_zero]; exact h1) k _ hg
  exact h3
theorem x_D_ok {bw : ByteArray} {p p2 len : Nat} {i : Instr} (h : x_D (bw.data.toList.drop p) p p2 i len = true) : decode bw p = .ok (i, len) ∧ p2 = p + len := by
  unfold x_D at h
  simp only [Bool.and_eq_true, decide_eq_true_eq] at h
  exact ⟨x_is_ok h.1, h.2⟩
end
section
/-! THE WORLD AS THE INTERPRETER SEES IT -/
def x_rf (L : List Nat) (r : Int) : Option Nat := if r < 0 then none else some (L.getD r.toNat 0)
def x_conc (bs : Nat) (L : List Nat) : xV → Value
  | .inl i => .int (Int32.ofInt i)
  | .inr r => if r = -2 then .ref bs else va_rf (x_rf L r)
def x_fv (L : List Nat) (h : xH) (a : Int) (c j : Nat) : Value := if xrf c j = true then va_rf (x_rf L (h.2.1 a j)) else .int (Int32.ofInt (h.2.2 a j))
def x_fs (L : List Nat) (h : xH) (a : Int) (c : Nat) : List Value := (List.range (xnsl c)).map (fun j => x_fv L h a c j)
def x_ent (cy : Nat → ClassId) (L : List Nat) (h : xH) (a : Int) : va_E := if x_kd a < 8 then .inr (x_kd a, x_fs L h a (x_kd a)) else if x_kd a < 10 then .inl (cy (x_kd a), (x_ln a).toNat, .inl (fun j => Int32.ofInt (h.2.2 a j))) else .inl (cy (x_kd a), (x_ln a).toNat, .inr (.inr (.inr (.inr (fun j => x_rf L (h.2.1 a j))))))
def x_ws (cy : Nat → ClassId) (L : List Nat) (h : xH) : va_W := (List.range L.length).map (fun k => (L.getD k 0, x_ent cy L h k))
def x_tys (cy : Nat → ClassId) : List (ClassId × FieldType) := [(cy 8, .int), (cy 9, .boolean), (cy 10, .object "WheelStands$Cart"), (cy 11, .object "WheelStands$Stand"), (cy 12, .object "WheelStands$Town"), (cy 13, .object "WheelStands$Wheel")]
def x_aos : List String := ["WheelStands$Cart", "WheelStands$Stand", "WheelStands$Town", "WheelStands$Wheel"]
def x_in32 (i : Int) : Prop := -2147483648 ≤ i ∧ i < 2147483648
def x_okv (z : Int) : xV → Prop
  | .inl i => x_in32 i
  | .inr r => r < z
def x_Vw (D : va_G) (cy : Nat → ClassId) (A : Nat → Prop) (L : List Nat) (h : xH) (H : Heap) : Prop := (L.length : Int) = h.1 ∧ (∀ a k, x_in32 (h.2.2 a k)) ∧ (∀ a k, -1 ≤ h.2.1 a k ∧ h.2.1 a k < h.1) ∧ va_P D vwCl (x_ws cy L h) H ∧ va_D A (x_ws cy L h)
def x_lr (bs : Nat) (L : List Nat) (ls : Array Slot) (nL : Nat) (als : List xV) : Prop := ls.size = nL ∧ lv_wf ls ∧ als.length = nL ∧ ∀ (i : Nat) (v : xV), als[i]? = some v → v ≠ x_un → ls[i]? = some (Slot.val (x_conc bs L v))
def x_ext (L L' : List Nat) : Prop := ∃ t, L' = L ++ t
def x_Scr (s : State) (A : Nat → Prop) (bs : Nat) (h : xH) : Prop := ∃ (N : Nat) (xs : Nat → Int32), va_X bs N xs s s.heap ∧ bs < s.heap.size ∧ ¬ A bs ∧ (∀ j : Nat, j < N → h.2.2 (-2) j = (xs j).toInt) ∧ h.2.2 (-2) (-1) = N ∧ N < 2147483648
def x_Fr (p : Program) (R : Room) (s : State) (m : MethodId) (args : Array Value) (meth : Method) (c : Code) (D : va_G) (cy : Nat → ClassId) (A : Nat → Prop) (y : Nat) : Prop :=
  y < 182 ∧ p.tables.exec = Jvm.exec ∧ c.code = x_by y ∧ c.maxLocals = x_ml y ∧ s.vm.findClass (x_nm y).cls = some m.cls ∧ (∀ w ∈ lw_tbl, goodWord w = true → w.before args s = true) ∧ (x_st y = 2 → meth.name = "<init>") ∧ va_K D vwCl (x_tys cy) s ∧ (∀ C ∈ x_aos, va_AO C s) ∧ x_dp y ≤ R.frames ∧ x_lc y ≤ R.locals ∧ (∀ q : Nat, s.heap.size ≤ q → A q)
def x_St (s : State) (D : va_G) (cy : Nat → ClassId) (A : Nat → Prop) (bs y CC SS : Nat) (L : List Nat) (h : xH) (H : Heap) (locs : List Loc) (ls : Array Slot) (als ast : List xV) (b : xB) (cells slots : Nat) : Prop :=
  x_Vw D cy A L h H ∧ va_S A s.heap H locs ∧ x_lr bs L ls (x_ml y) als ∧ (∀ v ∈ als, x_okv h.1 v) ∧ (∀ v ∈ ast, x_okv h.1 v) ∧ cells + b.1 = CC ∧ slots + b.2 = SS
/-! numbers -/
theorem x_toInt {i : Int} (h : x_in32 i) : (Int32.ofInt i).toInt = i := Int32.toInt_ofInt_of_le (by have := h.1; simpa using this) (by have := h.2; simpa using this)
theorem x_of (v : Int32) : Int32.ofInt v.toInt = v := Int32.ofInt_toInt v
theorem x_in32_t (v : Int32) : x_in32 v.toInt := ⟨by have := Int32.le_toInt v; simpa using this, by have := Int32.toInt_lt v; simpa using this⟩
theorem x_w_in (x : Int) : x_in32 (x_w x) := by
  unfold x_in32 x_w
  omega
theorem x_w_of (x : Int) : Int32.ofInt (x_w x) = Int32.ofInt x := by
  apply Int32.toInt_inj.mp
  rw [x_toInt (x_w_in x), Int32.toInt_ofInt]
  have e : ((Int32.size : Nat) : Int) = 4294967296 := rfl
  unfold x_w
  rw [Int.bmod_def, e]
  omega
theorem x_w_eq {x : Int} (h : x_in32 x) : x_w x = x := by
  unfold x_in32 at h
  unfold x_w
  omega
theorem x_add (i j : Int) : Int32.ofInt i + Int32.ofInt j = Int32.ofInt (x_w (i + j)) := by
  rw [x_w_of, Int32.ofInt_add]
theorem x_sub (i j : Int) : Int32.ofInt i - Int32.ofInt j = Int32.ofInt (x_w (i - j)) := by
  rw [x_w_of, Int32.ofInt_sub]
theorem x_mul (i j : Int) : Int32.ofInt i * Int32.ofInt j = Int32.ofInt (x_w (i * j)) := by
  rw [x_w_of, Int32.ofInt_mul]
theorem x_neg (i : Int) : -Int32.ofInt i = Int32.ofInt (x_w (-i)) := by
  rw [x_w_of, Int32.ofInt_neg]
theorem x_lt {i j : Int} (hi : x_in32 i) (hj : x_in32 j) : Int32.ofInt i < Int32.ofInt j ↔ i < j := by
  rw [Int32.lt_iff_toInt_lt, x_toInt hi, x_toInt hj]
theorem x_le {i j : Int} (hi : x_in32 i) (hj : x_in32 j) : Int32.ofInt i ≤ Int32.ofInt j ↔ i ≤ j := by
  rw [Int32.le_iff_toInt_le, x_toInt hi, x_toInt hj]
theorem x_eqi {i j : Int} (hi : x_in32 i) (hj : x_in32 j) : Int32.ofInt i = Int32.ofInt j ↔ i = j := by
  rw [← Int32.toInt_inj, x_toInt hi, x_toInt hj]
theorem x_zero : x_in32 0 := by unfold x_in32; omega
theorem x_of0 : Int32.ofInt 0 = 0 := rfl
theorem x_clamp {i : Int} (h : x_in32 i) : (Int32.ofInt i).toNatClampNeg = i.toNat := by
  show (Int32.ofInt i).toInt.toNat = _
  rw [x_toInt h]
theorem x_vpin {i n : Int} (h : x_in32 i) (h0 : 0 ≤ i) (h1 : i < n) : vp_in (Int32.ofInt i) n.toNat := by
  rw [vp_in_iff, x_toInt h]
  omega
/-! references -/
theorem x_getD_ext {L t : List Nat} {k : Nat} (h : k < L.length) : (L ++ t).getD k 0 = L.getD k 0 := by
  simp [List.getD_eq_getElem?_getD, List.getElem?_append_left h]
theorem x_rf_ext {L t : List Nat} {r : Int} (h : r < L.length) : x_rf (L ++ t) r = x_rf L r := by
  unfold x_rf
  by_cases q : r < 0
  · rw [if_pos q, if_pos q]
  · rw [if_neg q, if_neg q, x_getD_ext (by omega)]
theorem x_conc_ext {bs : Nat} {L L' : List Nat} {z : Int} {v : xV} (hz : (L.length : Int) = z) (he : x_ext L L') (h : x_okv z v) : x_conc bs L' v = x_conc bs L v := by
  obtain ⟨t, rfl⟩ := he
  cases v with
  | inl i => rfl
  | inr r =>
    show (if r = -2 then _ else va_rf (x_rf (L ++ t) r)) = if r = -2 then _ else va_rf (x_rf L r)
    rw [x_rf_ext (by rw [hz]; exact h)]
theorem x_map_ext {bs : Nat} {L L' : List Nat} {z : Int} {vs : List xV} (hz : (L.length : Int) = z) (he : x_ext L L') (h : ∀ v ∈ vs, x_okv z v) : vs.map (x_conc bs L') = vs.map (x_conc bs L) :=
  List.map_congr_left fun v hv => x_conc_ext hz he (h v hv)
theorem x_ext_rf (L : List Nat) : x_ext L L := ⟨[], by simp⟩
theorem x_ext_tr {L L1 L2 : List Nat} (h : x_ext L L1) (h2 : x_ext L1 L2) : x_ext L L2 := by
  obtain ⟨t, rfl⟩ := h
  obtain ⟨u, rfl⟩ := h2
  exact ⟨t ++ u, by simp⟩
theorem x_cat (bs : Nat) (L : List Nat) (v : xV) : (x_conc bs L v).category = 1 := by
  cases v with
  | inl i => rfl
  | inr r =>
    show (if r = -2 then Value.ref bs else va_rf (x_rf L r)).category = 1
    by_cases q : r = -2
    · rw [if_pos q]; rfl
    · rw [if_neg q]
      cases x_rf L r <;> rfl
theorem x_ref {bs : Nat} {L : List Nat} {r : Int} (h : 0 ≤ r) : x_conc bs L (.inr r) = .ref (L.getD r.toNat 0) := by
  show (if r = -2 then _ else va_rf (x_rf L r)) = _
  rw [if_neg (by omega)]
  unfold x_rf
  rw [if_neg (by omega)]
  rfl
theorem x_null {bs : Nat} {L : List Nat} {r : Int} (h : r < 0) (h2 : r ≠ -2) : x_conc bs L (.inr r) = .null := by
  show (if r = -2 then _ else va_rf (x_rf L r)) = _
  rw [if_neg h2]
  unfold x_rf
  rw [if_pos h]
  rfl
/-! the cells -/
theorem x_ws_get {cy : Nat → ClassId} {L : List Nat} {h : xH} {r : Int} (h0 : 0 ≤ r) (h1 : r < L.length) : (x_ws cy L h)[r.toNat]? = some (L.getD r.toNat 0, x_ent cy L h r) := by
  unfold x_ws
  rw [List.getElem?_map, List.getElem?_range (by omega)]
  show some (_, x_ent cy L h ((r.toNat : Nat) : Int)) = _
  rw [Int.toNat_of_nonneg h0]
theorem x_ws_set {cy : Nat → ClassId} {L : List Nat} {h h' : xH} {r : Int} {e : va_E} (h0 : 0 ≤ r) (h1 : r < L.length) (he : x_ent cy L h' r = e) (ho : ∀ q : Int, q ≠ r → x_ent cy L h' q = x_ent cy L h q) : (x_ws cy L h).set r.toNat (L.getD r.toNat 0, e) = x_ws cy L h' := by
  apply List.ext_getElem?
  intro k
  by_cases hk : k = r.toNat
  · subst hk
    rw [List.getElem?_set_self (by simp [x_ws]; omega), x_ws_get h0 h1, he]
  · rw [List.getElem?_set_ne (fun q => hk q.symm)]
    unfold x_ws
    rw [List.getElem?_map, List.getElem?_map]
    by_cases hl : k < L.length
    · rw [List.getElem?_range hl]
      simp only [Option.map_some]
      rw [ho k (by omega)]
    · rw [List.getElem?_eq_none (by simp; omega)]
      rfl
theorem x_ent_obj {cy : Nat → ClassId} {L : List Nat} {h : xH} {r : Int} {c : Nat} (hk : x_kd r = c) (hc : c < 8) : x_ent cy L h r = .inr (c, x_fs L h r c) := by
  unfold x_ent
  rw [hk, if_pos hc]
theorem x_ent_int {cy : Nat → ClassId} {L : List Nat} {h : xH} {r : Int} {c : Nat} (hk : x_kd r = c) (hc : ¬ c < 8) (hc2 : c < 10) : x_ent cy L h r = .inl (cy c, (x_ln r).toNat, .inl (fun j => Int32.ofInt (h.2.2 r j))) := by
  unfold x_ent
  rw [hk, if_neg hc, if_pos hc2]
theorem x_ent_ref {cy : Nat → ClassId} {L : List Nat} {h : xH} {r : Int} {c : Nat} (hk : x_kd r = c) (hc2 : ¬ c < 10) : x_ent cy L h r = .inl (cy c, (x_ln r).toNat, .inr (.inr (.inr (.inr (fun j => x_rf L (h.2.1 r j)))))) := by
  unfold x_ent
  rw [hk, if_neg (by omega), if_neg hc2]
theorem x_fs_get {L : List Nat} {h : xH} {a : Int} {c j : Nat} (hj : j < xnsl c) : (x_fs L h a c)[j]? = some (x_fv L h a c j) := by
  unfold x_fs
  rw [List.getElem?_map, List.getElem?_range hj]
  rfl
theorem x_fs_set {L : List Nat} {h h' : xH} {a : Int} {c j : Nat} {v : Value} (hj : j < xnsl c) (hv : x_fv L h' a c j = v) (ho : ∀ i, i ≠ j → x_fv L h' a c i = x_fv L h a c i) : (x_fs L h a c).set j v = x_fs L h' a c := by
  apply List.ext_getElem?
  intro k
  by_cases hk : k = j
  · subst hk
    rw [List.getElem?_set_self (by simp [x_fs]; exact hj), x_fs_get hj, hv]
  · rw [List.getElem?_set_ne (fun q => hk q.symm)]
    unfold x_fs
    rw [List.getElem?_map, List.getElem?_map]
    by_cases hl : k < xnsl c
    · rw [List.getElem?_range hl]
      simp only [Option.map_some]
      rw [ho k hk]
    · rw [List.getElem?_eq_none (by simp; omega)]
      rfl
theorem x_ok_ok {z r : Int} {c : Nat} (h : x_ok z r c = true) : 0 ≤ r ∧ r < z ∧ x_kd r = c := by
  unfold x_ok at h
  simp only [Bool.and_eq_true, decide_eq_true_eq] at h
  exact ⟨h.1.1, h.1.2, h.2⟩
/-! the locals -/
def x_lvs (bs : Nat) (L : List Nat) (als : List xV) : List (Nat × Value) := (als.zipIdx.filter (fun q => decide (q.1 ≠ x_un))).map (fun q => (q.2, x_conc bs L q.1))
theorem x_lvs_mem {bs : Nat} {L : List Nat} {als : List xV} {i : Nat} {w : Value} : (i, w) ∈ x_lvs bs L als ↔ ∃ v, als[i]? = some v ∧ v ≠ x_un ∧ w = x_conc bs L v := by
  unfold x_lvs
  simp only [List.mem_map, List.mem_filter, decide_eq_true_eq, Prod.mk.injEq, Prod.exists]
  constructor
  · rintro ⟨v, j, ⟨h1, h2⟩, rfl, rfl⟩
    exact ⟨v, List.mem_zipIdx_iff_getElem?.mp h1, h2, rfl⟩
  · rintro ⟨v, h1, h2, rfl⟩
    exact ⟨v, i, ⟨List.mem_zipIdx_iff_getElem?.mpr h1, h2⟩, rfl, rfl⟩
theorem x_lr_has {bs : Nat} {L : List Nat} {ls : Array Slot} {nL : Nat} {als : List xV} (h : x_lr bs L ls nL als) : lv_has ls nL (x_lvs bs L als) := by
  refine ⟨h.1, h.2.1, fun q hq => ?_⟩
  obtain ⟨i, w⟩ := q
  obtain ⟨v, h1, h2, rfl⟩ := x_lvs_mem.mp hq
  exact h.2.2.2 i v h1 h2
theorem x_lr_set {bs : Nat} {L : List Nat} {ls ls' : Array Slot} {nL i : Nat} {als : List xV} {v : xV} (h : x_lr bs L ls nL als) (hi : i < als.length) (h' : lv_has ls' nL ((i, x_conc bs L v) :: (x_lvs bs L als).filter (fun q => !(q.1 == i) && !(q.1 + 1 == i && q.2.category == 2)))) : x_lr bs L ls' nL (als.set i v) := by
  refine ⟨h'.1, h'.2.1, by rw [List.length_set]; exact h.2.2.1, fun j w hj hw => ?_⟩
  by_cases q : j = i
  · subst q
    rw [List.getElem?_set_self hi] at hj
    cases hj
    exact h'.2.2 (j, _) List.mem_cons_self
  · rw [List.getElem?_set_ne (fun z => q z.symm)] at hj
    refine h'.2.2 (j, x_conc bs L w) (List.mem_cons_of_mem _ (List.mem_filter.mpr ⟨x_lvs_mem.mpr ⟨w, hj, hw, rfl⟩, ?_⟩))
    simp [q, x_cat]
theorem x_lr_at {bs : Nat} {L : List Nat} {ls : Array Slot} {nL i : Nat} {als : List xV} {v : xV} (h : x_lr bs L ls nL als) (hi : als[i]? = some v) (hv : v ≠ x_un) : ls[i]? = some (.val (x_conc bs L v)) := h.2.2.2 i v hi hv
theorem x_lr_ext {bs : Nat} {L L' : List Nat} {ls : Array Slot} {nL : Nat} {als : List xV} {z : Int} (hz : (L.length : Int) = z) (he : x_ext L L') (ho : ∀ v ∈ als, x_okv z v) (h : x_lr bs L ls nL als) : x_lr bs L' ls nL als :=
  ⟨h.1, h.2.1, h.2.2.1, fun i v hi hv => by rw [x_conc_ext hz he (ho v (List.mem_of_getElem? hi))]; exact h.2.2.2 i v hi hv⟩
end
section
/-! ONE INSTRUCTION OF THE INTERPRETER IS ONE OF THE MACHINE: those that leave the heap -/
section
variable {p : Program} {l : Launch} {e : Env} {R : Room} {s : State} {m : MethodId} {args : Array Value} {below : List Frame} {meth : Method} {c : Code} {Q : State → Prop}
variable {D : va_G} {cy : Nat → ClassId} {A : Nat → Prop} {bs y CC SS : Nat} {L : List Nat} {h : xH} {H : Heap} {locs : List Loc} {ls : Array Slot} {als ast : List xV} {b : xB} {cells slots k : Nat}
variable {a : Int} {t u pc p2 : Nat} {c' : xC}
/-- what comes behind an instruction -/
def x_K (p : Program) (l : Launch) (e : Env) (R : Room) (s : State) (m : MethodId) (args : Array Value) (below : List Frame) (meth : Method) (c : Code) (Q : State → Prop) (D : va_G) (cy : Nat → ClassId) (A : Nat → Prop) (bs y CC SS : Nat) (L : List Nat) (c' : xC) : Prop :=
  ∀ (L' : List Nat) (H' : Heap) (locs' : List Loc) (ls' : Array Slot) (cells' slots' : Nat), x_ext L L' → x_St s D cy A bs y CC SS L' c'.2.2.2.2 H' locs' ls' c'.2.1 c'.2.2.1 c'.2.2.2.1 cells' slots' → W p l e R s m args below meth c H' locs' cells' slots' Q (F0 m (x_pc y c'.1) ls' (c'.2.2.1.map (x_conc bs L')))
def x_Ck (y k op : Nat) (a : Int) (t u pc : Nat) : Prop := x_ckj (x_nm y).cls (x_rt y) (x_dp y) (x_lc y) (x_st y) (x_rk y) (x_cd y) (x_by y) ((x_by y).data.toList.drop pc) (op, a, t, u, pc) (x_pc y (k + 1)) = true
theorem x_St.stk (S : x_St s D cy A bs y CC SS L h H locs ls als ast b cells slots) {ast' : List xV} (ho : ∀ v ∈ ast', x_okv h.1 v) : x_St s D cy A bs y CC SS L h H locs ls als ast' b cells slots := ⟨S.1, S.2.1, S.2.2.1, S.2.2.2.1, ho, S.2.2.2.2.2⟩
theorem x_cons {z : Int} {v : xV} {st : List xV} (h1 : x_okv z v) (h2 : ∀ w ∈ st, x_okv z w) : ∀ w ∈ v :: st, x_okv z w := fun w hw => by
  rcases List.mem_cons.mp hw with rfl | hw
  · exact h1
  · exact h2 w hw
theorem x_tls {z : Int} {v : xV} {st : List xV} (h : ∀ w ∈ v :: st, x_okv z w) : ∀ w ∈ st, x_okv z w := fun w hw => h w (List.mem_cons_of_mem _ hw)
theorem x_hd {z : Int} {v : xV} {st : List xV} (h : ∀ w ∈ v :: st, x_okv z w) : x_okv z v := h v List.mem_cons_self

theorem x_s0 (F : x_Fr p R s m args meth c D cy A y) (C : x_Ck y k 0 a t u pc) (S : x_St s D cy A bs y CC SS L h H locs ls als ast b cells slots) (hst : x_stp (0, a, t, u, pc) k als ast b h = some c') (kk : x_K p l e R s m args below meth c Q D cy A bs y CC SS L c') : W p l e R s m args below meth c H locs cells slots Q (F0 m pc ls (ast.map (x_conc bs L))) := by
  have C : ((if u = 0 then x_D ((x_by y).data.toList.drop pc) pc (x_pc y (k + 1)) (.iconst a) 1 else if u = 1 then x_D ((x_by y).data.toList.drop pc) pc (x_pc y (k + 1)) (.bipush a) 2 && decide (-128 ≤ a) && decide (a < 128) else if u = 2 then x_D ((x_by y).data.toList.drop pc) pc (x_pc y (k + 1)) (.sipush a) 3 && decide (-32768 ≤ a) && decide (a < 32768)
      else (match xcn[u - 3]? with
        | some (pl, o, ix, v, w) => decide (o = (x_nm y).cls) && decide (v = Int32.ofInt a) && (if w = 1 then x_D ((x_by y).data.toList.drop pc) pc (x_pc y (k + 1)) (.ldc_w ix) 3 else x_D ((x_by y).data.toList.drop pc) pc (x_pc y (k + 1)) (.ldc ix) 2)
        | none => false)) && decide (-2147483648 ≤ a) && decide (a < 2147483648)) = true := C
  simp only [Bool.and_eq_true, decide_eq_true_eq] at C
  obtain ⟨⟨C, r1⟩, r2⟩ := C
  cases (show some (k + 1, als, .inl a :: ast, b, h) = some c' from hst)
  obtain ⟨hy, hx, hb, hml, hown, hts, -⟩ := F
  have K := kk L H locs ls cells slots (x_ext_rf L) (S.stk (x_cons (show x_in32 a from ⟨r1, r2⟩) S.2.2.2.2.1))
  by_cases h0 : u = 0
  · rw [if_pos h0] at C
    obtain ⟨hd, hp⟩ := x_D_ok C
    refine lv_iconst hx hb hd rfl (W.eq ?_ K)
    show F0 m (pc + 1) ls _ = F0 m (x_pc y (k + 1)) ls _
    rw [hp]
    rfl
  rw [if_neg h0] at C
  by_cases h1 : u = 1
  · rw [if_pos h1] at C
    simp only [Bool.and_eq_true, decide_eq_true_eq] at C
    obtain ⟨⟨C, q1⟩, q2⟩ := C
    obtain ⟨hd, hp⟩ := x_D_ok C
    refine lv_bipush hx hb hd rfl (W.eq ?_ K)
    have ev : (Int8.ofInt a).toInt32 = Int32.ofInt a := by
      apply Int32.toInt_inj.mp
      rw [Int8.toInt_toInt32, x_toInt ⟨r1, r2⟩]
      exact Int8.toInt_ofInt_of_le (by simpa using q1) (by simpa using q2)
    rw [ev]
    show F0 m (pc + 2) ls _ = F0 m (x_pc y (k + 1)) ls _
    rw [hp]
    rfl
  rw [if_neg h1] at C
  by_cases h2 : u = 2
  · rw [if_pos h2] at C
    simp only [Bool.and_eq_true, decide_eq_true_eq] at C
    obtain ⟨⟨C, q1⟩, q2⟩ := C
    obtain ⟨hd, hp⟩ := x_D_ok C
    refine lv_sipush hx hb hd rfl (W.eq ?_ K)
    have ev : (Int16.ofInt a).toInt32 = Int32.ofInt a := by
      apply Int32.toInt_inj.mp
      rw [Int16.toInt_toInt32, x_toInt ⟨r1, r2⟩]
      exact Int16.toInt_ofInt_of_le (by simpa using q1) (by simpa using q2)
    rw [ev]
    show F0 m (pc + 3) ls _ = F0 m (x_pc y (k + 1)) ls _
    rw [hp]
    rfl
  rw [if_neg h2] at C
  cases hc : xcn[u - 3]? with
  | none => rw [hc] at C; cases C
  | some q =>
    obtain ⟨pl, o, ix, v, w⟩ := q
    rw [hc] at C
    simp only [Bool.and_eq_true, decide_eq_true_eq] at C
    obtain ⟨⟨rfl, rfl⟩, C⟩ := C
    have hw : x_wd pl (.constant (x_nm y).cls ix (Int32.ofInt a)) = true := List.all_eq_true.mp x_cnok _ (List.mem_of_getElem? hc)
    have hk := hts _ (x_wd_ok hw) rfl
    by_cases h3 : w = 1
    · rw [if_pos h3] at C
      obtain ⟨hd, hp⟩ := x_D_ok C
      refine lv_ldcw hx hb hown hk hd (W.eq ?_ K)
      show F0 m (pc + 3) ls _ = F0 m (x_pc y (k + 1)) ls _
      rw [hp]
      rfl
    · rw [if_neg h3] at C
      obtain ⟨hd, hp⟩ := x_D_ok C
      refine lv_ldc hx hb hown hk hd (W.eq ?_ K)
      show F0 m (pc + 2) ls _ = F0 m (x_pc y (k + 1)) ls _
      rw [hp]
      rfl

theorem x_s1 (F : x_Fr p R s m args meth c D cy A y) (C : x_Ck y k 1 a t u pc) (S : x_St s D cy A bs y CC SS L h H locs ls als ast b cells slots) (hst : x_stp (1, a, t, u, pc) k als ast b h = some c') (kk : x_K p l e R s m args below meth c Q D cy A bs y CC SS L c') : W p l e R s m args below meth c H locs cells slots Q (F0 m pc ls (ast.map (x_conc bs L))) := by
  have C : (if u = 0 then decide (t < 4) && x_D ((x_by y).data.toList.drop pc) pc (x_pc y (k + 1)) (.iload_n (Fin.ofNat 4 t)) 1 else x_D ((x_by y).data.toList.drop pc) pc (x_pc y (k + 1)) (.iload t) 2) = true := C
  have hs : (match (generalizing := false) als[t]? with | some (.inl v) => some (k + 1, als, .inl v :: ast, b, h) | _ => none) = some c' := hst
  split at hs
  · rename_i v hv
    cases hs
    obtain ⟨hy, hx, hb, hml, hown, hts, -⟩ := F
    have hl : ls[t]? = some (.val (.int (Int32.ofInt v))) := x_lr_at S.2.2.1 hv (by intro q; cases q)
    have K := kk L H locs ls cells slots (x_ext_rf L) (S.stk (x_cons (S.2.2.2.1 _ (List.mem_of_getElem? hv)) S.2.2.2.2.1))
    by_cases h0 : u = 0
    · rw [if_pos h0] at C
      simp only [Bool.and_eq_true, decide_eq_true_eq] at C
      obtain ⟨hd, hp⟩ := x_D_ok C.2
      refine lv_iload_n hx hb hd (show t % 4 = t from Nat.mod_eq_of_lt C.1) hl (W.eq ?_ K)
      show F0 m (pc + 1) ls _ = F0 m (x_pc y (k + 1)) ls _
      rw [hp]
      rfl
    · rw [if_neg h0] at C
      obtain ⟨hd, hp⟩ := x_D_ok C
      refine lv_iload hx hb hd hl (W.eq ?_ K)
      show F0 m (pc + 2) ls _ = F0 m (x_pc y (k + 1)) ls _
      rw [hp]
      rfl
  · cases hs

theorem x_s2 (F : x_Fr p R s m args meth c D cy A y) (C : x_Ck y k 2 a t u pc) (S : x_St s D cy A bs y CC SS L h H locs ls als ast b cells slots) (hst : x_stp (2, a, t, u, pc) k als ast b h = some c') (kk : x_K p l e R s m args below meth c Q D cy A bs y CC SS L c') : W p l e R s m args below meth c H locs cells slots Q (F0 m pc ls (ast.map (x_conc bs L))) := by
  have C : (if u = 0 then decide (t < 4) && x_D ((x_by y).data.toList.drop pc) pc (x_pc y (k + 1)) (.aload_n (Fin.ofNat 4 t)) 1 else x_D ((x_by y).data.toList.drop pc) pc (x_pc y (k + 1)) (.aload t) 2) = true := C
  have hs : (match (generalizing := false) als[t]? with | some (.inr v) => if -2 ≤ v then some (k + 1, als, .inr v :: ast, b, h) else none | _ => none) = some c' := hst
  split at hs
  · rename_i v hv
    split at hs
    · rename_i hv2
      cases hs
      obtain ⟨hy, hx, hb, hml, hown, hts, -⟩ := F
      have hl : ls[t]? = some (.val (x_conc bs L (.inr v))) := x_lr_at S.2.2.1 hv (by intro q; unfold x_un at q; cases q; omega)
      have K := kk L H locs ls cells slots (x_ext_rf L) (S.stk (x_cons (S.2.2.2.1 _ (List.mem_of_getElem? hv)) S.2.2.2.2.1))
      have e : ∃ r : Option Nat, x_conc bs L (.inr v) = va_rf r := by
        by_cases q : v = -2
        · exact ⟨some bs, if_pos q⟩
        · exact ⟨_, if_neg q⟩
      obtain ⟨r, er⟩ := e
      rw [er] at hl
      by_cases h0 : u = 0
      · rw [if_pos h0] at C
        simp only [Bool.and_eq_true, decide_eq_true_eq] at C
        obtain ⟨hd, hp⟩ := x_D_ok C.2
        have K2 : W p l e R s m args below meth c H locs cells slots Q (F0 m (pc + 1) ls (va_rf r :: ast.map (x_conc bs L))) := W.eq (by show F0 m (pc + 1) ls _ = F0 m (x_pc y (k + 1)) ls (x_conc bs L (.inr v) :: _); rw [hp, er]) K
        cases r with
        | none => exact lv_aload_nN hx hb hd (show t % 4 = t from Nat.mod_eq_of_lt C.1) hl K2
        | some r => exact lv_aload_n hx hb hd (show t % 4 = t from Nat.mod_eq_of_lt C.1) hl K2
      · rw [if_neg h0] at C
        obtain ⟨hd, hp⟩ := x_D_ok C
        have K2 : W p l e R s m args below meth c H locs cells slots Q (F0 m (pc + 2) ls (va_rf r :: ast.map (x_conc bs L))) := W.eq (by show F0 m (pc + 2) ls _ = F0 m (x_pc y (k + 1)) ls (x_conc bs L (.inr v) :: _); rw [hp, er]) K
        cases r with
        | none => exact lv_aloadN hx hb hd hl K2
        | some r => exact lv_aload hx hb hd hl K2
    · cases hs
  · cases hs

theorem x_St.loc (S : x_St s D cy A bs y CC SS L h H locs ls als ast b cells slots) {i : Nat} {v : xV} {ast' : List xV} {ls' : Array Slot} (hi : i < als.length) (hv : x_okv h.1 v) (ho : ∀ w ∈ ast', x_okv h.1 w) (h' : lv_has ls' (x_ml y) ((i, x_conc bs L v) :: (x_lvs bs L als).filter (fun q => !(q.1 == i) && !(q.1 + 1 == i && q.2.category == 2)))) : x_St s D cy A bs y CC SS L h H locs ls' (als.set i v) ast' b cells slots :=
  ⟨S.1, S.2.1, x_lr_set S.2.2.1 hi h', fun w hw => by
    rcases List.mem_or_eq_of_mem_set hw with hw | rfl
    · exact S.2.2.2.1 w hw
    · exact hv, ho, S.2.2.2.2.2⟩

theorem x_s3 (F : x_Fr p R s m args meth c D cy A y) (C : x_Ck y k 3 a t u pc) (S : x_St s D cy A bs y CC SS L h H locs ls als ast b cells slots) (hst : x_stp (3, a, t, u, pc) k als ast b h = some c') (kk : x_K p l e R s m args below meth c Q D cy A bs y CC SS L c') : W p l e R s m args below meth c H locs cells slots Q (F0 m pc ls (ast.map (x_conc bs L))) := by
  have C : (if u = 0 then decide (t < 4) && x_D ((x_by y).data.toList.drop pc) pc (x_pc y (k + 1)) (.istore_n (Fin.ofNat 4 t)) 1 else x_D ((x_by y).data.toList.drop pc) pc (x_pc y (k + 1)) (.istore t) 2) = true := C
  have hs : (match (generalizing := false) ast with | .inl v :: st => if t < als.length then some (k + 1, als.set t (.inl v), st, b, h) else none | _ => none) = some c' := hst
  split at hs
  · rename_i v st
    split at hs
    · rename_i ht
      cases hs
      obtain ⟨hy, hx, hb, hml, hown, hts, -⟩ := F
      have hl := x_lr_has S.2.2.1
      have htn : t < x_ml y := by rw [← S.2.2.1.2.2.1]; exact ht
      have ho := S.2.2.2.2.1
      by_cases h0 : u = 0
      · rw [if_pos h0] at C
        simp only [Bool.and_eq_true, decide_eq_true_eq] at C
        obtain ⟨hd, hp⟩ := x_D_ok C.2
        refine lv_istore_n hx hb hd (show t % 4 = t from Nat.mod_eq_of_lt C.1) hl htn rfl fun ls' hl' => ?_
        exact W.eq (by show F0 m (pc + 1) ls' _ = F0 m (x_pc y (k + 1)) ls' _; rw [hp]) (kk L H locs ls' cells slots (x_ext_rf L) (S.loc ht (x_hd ho) (x_tls ho) hl'))
      · rw [if_neg h0] at C
        obtain ⟨hd, hp⟩ := x_D_ok C
        refine lv_istore hx hb hd hl htn rfl fun ls' hl' => ?_
        exact W.eq (by show F0 m (pc + 2) ls' _ = F0 m (x_pc y (k + 1)) ls' _; rw [hp]) (kk L H locs ls' cells slots (x_ext_rf L) (S.loc ht (x_hd ho) (x_tls ho) hl'))
    · cases hs
  · cases hs

theorem x_s4 (F : x_Fr p R s m args meth c D cy A y) (C : x_Ck y k 4 a t u pc) (S : x_St s D cy A bs y CC SS L h H locs ls als ast b cells slots) (hst : x_stp (4, a, t, u, pc) k als ast b h = some c') (kk : x_K p l e R s m args below meth c Q D cy A bs y CC SS L c') : W p l e R s m args below meth c H locs cells slots Q (F0 m pc ls (ast.map (x_conc bs L))) := by
  have C : (if u = 0 then decide (t < 4) && x_D ((x_by y).data.toList.drop pc) pc (x_pc y (k + 1)) (.astore_n (Fin.ofNat 4 t)) 1 else x_D ((x_by y).data.toList.drop pc) pc (x_pc y (k + 1)) (.astore t) 2) = true := C
  have hs : (match (generalizing := false) ast with | .inr v :: st => if t < als.length ∧ -2 ≤ v then some (k + 1, als.set t (.inr v), st, b, h) else none | _ => none) = some c' := hst
  split at hs
  · rename_i v st
    split at hs
    · rename_i ht
      cases hs
      obtain ⟨hy, hx, hb, hml, hown, hts, -⟩ := F
      have hl := x_lr_has S.2.2.1
      have htn : t < x_ml y := by rw [← S.2.2.1.2.2.1]; exact ht.1
      have ho := S.2.2.2.2.1
      have e : ∃ r : Option Nat, x_conc bs L (.inr v) = va_rf r := by
        by_cases q : v = -2
        · exact ⟨some bs, if_pos q⟩
        · exact ⟨_, if_neg q⟩
      obtain ⟨r, er⟩ := e
      have key : ∀ (n : Nat) (hp : x_pc y (k + 1) = pc + n) (ls' : Array Slot), lv_has ls' (x_ml y) ((t, va_rf r) :: (x_lvs bs L als).filter (fun q => !(q.1 == t) && !(q.1 + 1 == t && q.2.category == 2))) → W p l e R s m args below meth c H locs cells slots Q (F0 m (pc + n) ls' (st.map (x_conc bs L))) := fun n hp ls' hl' => by
        rw [← er] at hl'
        exact W.eq (by show F0 m (pc + n) ls' _ = F0 m (x_pc y (k + 1)) ls' _; rw [hp]) (kk L H locs ls' cells slots (x_ext_rf L) (S.loc ht.1 (x_hd ho) (x_tls ho) hl'))
      show W p l e R s m args below meth c H locs cells slots Q (F0 m pc ls (x_conc bs L (.inr v) :: st.map (x_conc bs L)))
      rw [er]
      by_cases h0 : u = 0
      · rw [if_pos h0] at C
        simp only [Bool.and_eq_true, decide_eq_true_eq] at C
        obtain ⟨hd, hp⟩ := x_D_ok C.2
        cases r with
        | none => exact lv_astore_nN hx hb hd (show t % 4 = t from Nat.mod_eq_of_lt C.1) hl htn rfl (key 1 hp)
        | some r => exact lv_astore_n hx hb hd (show t % 4 = t from Nat.mod_eq_of_lt C.1) hl htn rfl (key 1 hp)
      · rw [if_neg h0] at C
        obtain ⟨hd, hp⟩ := x_D_ok C
        cases r with
        | none => exact lv_astoreN hx hb hd hl htn rfl (key 2 hp)
        | some r => exact lv_astore hx hb hd hl htn rfl (key 2 hp)
    · cases hs
  · cases hs

theorem x_s5 (F : x_Fr p R s m args meth c D cy A y) (C : x_Ck y k 5 a t u pc) (S : x_St s D cy A bs y CC SS L h H locs ls als ast b cells slots) (hst : x_stp (5, a, t, u, pc) k als ast b h = some c') (kk : x_K p l e R s m args below meth c Q D cy A bs y CC SS L c') : W p l e R s m args below meth c H locs cells slots Q (F0 m pc ls (ast.map (x_conc bs L))) := by
  have C : x_D ((x_by y).data.toList.drop pc) pc (x_pc y (k + 1)) (.iinc t a) 3 = true := C
  have hs : (match (generalizing := false) als[t]? with | some (.inl v) => some (k + 1, als.set t (.inl (x_w (v + a))), ast, b, h) | _ => none) = some c' := hst
  split at hs
  · rename_i v hv
    cases hs
    obtain ⟨hy, hx, hb, hml, hown, hts, -⟩ := F
    have ht : t < als.length := (List.getElem?_eq_some_iff.mp hv).1
    have hl := x_lr_has S.2.2.1
    have htn : t < x_ml y := by rw [← S.2.2.1.2.2.1]; exact ht
    obtain ⟨hd, hp⟩ := x_D_ok C
    obtain ⟨q, hq⟩ := List.getElem?_of_mem (x_lvs_mem.mpr ⟨.inl v, hv, (by intro q; cases q), rfl⟩ : (t, x_conc bs L (.inl v)) ∈ x_lvs bs L als)
    refine lv_iinc (v := Int32.ofInt (x_w (v + a))) hx hb hd hl hq (by rw [x_w_of, Int32.ofInt_add]) htn rfl fun ls' hl' => ?_
    exact W.eq (by show F0 m (pc + 3) ls' _ = F0 m (x_pc y (k + 1)) ls' _; rw [hp]) (kk L H locs ls' cells slots (x_ext_rf L) (S.loc (v := .inl (x_w (v + a))) ht (x_w_in _) S.2.2.2.2.1 hl'))
  · cases hs

theorem x_s6 (F : x_Fr p R s m args meth c D cy A y) (C : x_Ck y k 6 a t u pc) (S : x_St s D cy A bs y CC SS L h H locs ls als ast b cells slots) (hst : x_stp (6, a, t, u, pc) k als ast b h = some c') (kk : x_K p l e R s m args below meth c Q D cy A bs y CC SS L c') : W p l e R s m args below meth c H locs cells slots Q (F0 m pc ls (ast.map (x_conc bs L))) := by
  have C : x_D ((x_by y).data.toList.drop pc) pc (x_pc y (k + 1)) .iadd 1 = true := C
  have hs : (match (generalizing := false) ast with | .inl j :: .inl i :: st => some (k + 1, als, .inl (x_w (i + j)) :: st, b, h) | _ => none) = some c' := hst
  split at hs
  · rename_i j i st
    cases hs
    obtain ⟨hy, hx, hb, hml, hown, hts, -⟩ := F
    obtain ⟨hd, hp⟩ := x_D_ok C
    have ho := S.2.2.2.2.1
    have oj : x_in32 j := x_hd ho
    have oi : x_in32 i := x_hd (x_tls ho)
    have K := kk L H locs ls cells slots (x_ext_rf L) (S.stk (x_cons (show x_in32 (x_w (i + j)) from x_w_in _) (x_tls (x_tls ho))))
    refine lv_iadd hx hb hd (W.eq ?_ K)
    show F0 m (pc + 1) ls (.int _ :: _) = F0 m (x_pc y (k + 1)) ls (.int (Int32.ofInt (x_w (i + j))) :: _)
    rw [hp, x_add]
  · cases hs

theorem x_s7 (F : x_Fr p R s m args meth c D cy A y) (C : x_Ck y k 7 a t u pc) (S : x_St s D cy A bs y CC SS L h H locs ls als ast b cells slots) (hst : x_stp (7, a, t, u, pc) k als ast b h = some c') (kk : x_K p l e R s m args below meth c Q D cy A bs y CC SS L c') : W p l e R s m args below meth c H locs cells slots Q (F0 m pc ls (ast.map (x_conc bs L))) := by
  have C : x_D ((x_by y).data.toList.drop pc) pc (x_pc y (k + 1)) .isub 1 = true := C
  have hs : (match (generalizing := false) ast with | .inl j :: .inl i :: st => some (k + 1, als, .inl (x_w (i - j)) :: st, b, h) | _ => none) = some c' := hst
  split at hs
  · rename_i j i st
    cases hs
    obtain ⟨hy, hx, hb, hml, hown, hts, -⟩ := F
    obtain ⟨hd, hp⟩ := x_D_ok C
    have ho := S.2.2.2.2.1
    have oj : x_in32 j := x_hd ho
    have oi : x_in32 i := x_hd (x_tls ho)
    have K := kk L H locs ls cells slots (x_ext_rf L) (S.stk (x_cons (show x_in32 (x_w (i - j)) from x_w_in _) (x_tls (x_tls ho))))
    refine lv_isub hx hb hd (W.eq ?_ K)
    show F0 m (pc + 1) ls (.int _ :: _) = F0 m (x_pc y (k + 1)) ls (.int (Int32.ofInt (x_w (i - j))) :: _)
    rw [hp, x_sub]
  · cases hs

theorem x_s8 (F : x_Fr p R s m args meth c D cy A y) (C : x_Ck y k 8 a t u pc) (S : x_St s D cy A bs y CC SS L h H locs ls als ast b cells slots) (hst : x_stp (8, a, t, u, pc) k als ast b h = some c') (kk : x_K p l e R s m args below meth c Q D cy A bs y CC SS L c') : W p l e R s m args below meth c H locs cells slots Q (F0 m pc ls (ast.map (x_conc bs L))) := by
  have C : x_D ((x_by y).data.toList.drop pc) pc (x_pc y (k + 1)) .imul 1 = true := C
  have hs : (match (generalizing := false) ast with | .inl j :: .inl i :: st => some (k + 1, als, .inl (x_w (i * j)) :: st, b, h) | _ => none) = some c' := hst
  split at hs
  · rename_i j i st
    cases hs
    obtain ⟨hy, hx, hb, hml, hown, hts, -⟩ := F
    obtain ⟨hd, hp⟩ := x_D_ok C
    have ho := S.2.2.2.2.1
    have oj : x_in32 j := x_hd ho
    have oi : x_in32 i := x_hd (x_tls ho)
    have K := kk L H locs ls cells slots (x_ext_rf L) (S.stk (x_cons (show x_in32 (x_w (i * j)) from x_w_in _) (x_tls (x_tls ho))))
    refine lv_imul hx hb hd (W.eq ?_ K)
    show F0 m (pc + 1) ls (.int _ :: _) = F0 m (x_pc y (k + 1)) ls (.int (Int32.ofInt (x_w (i * j))) :: _)
    rw [hp, x_mul]
  · cases hs

theorem x_s9 (F : x_Fr p R s m args meth c D cy A y) (C : x_Ck y k 9 a t u pc) (S : x_St s D cy A bs y CC SS L h H locs ls als ast b cells slots) (hst : x_stp (9, a, t, u, pc) k als ast b h = some c') (kk : x_K p l e R s m args below meth c Q D cy A bs y CC SS L c') : W p l e R s m args below meth c H locs cells slots Q (F0 m pc ls (ast.map (x_conc bs L))) := by
  have C : x_D ((x_by y).data.toList.drop pc) pc (x_pc y (k + 1)) .irem 1 = true := C
  have hs : (match (generalizing := false) ast with | .inl j :: .inl i :: st => if 0 ≤ i ∧ 0 < j then some (k + 1, als, .inl (i % j) :: st, b, h) else none | _ => none) = some c' := hst
  split at hs
  · rename_i j i st
    split at hs
    rotate_left
    · cases hs
    rename_i hg
    cases hs
    obtain ⟨hy, hx, hb, hml, hown, hts, -⟩ := F
    obtain ⟨hd, hp⟩ := x_D_ok C
    have ho := S.2.2.2.2.1
    have oj : x_in32 j := x_hd ho
    have oi : x_in32 i := x_hd (x_tls ho)
    have hin : x_in32 (i % j) := by
      have q1 := Int.emod_nonneg i (show j ≠ 0 by omega)
      have q2 := Int.emod_lt_of_pos i hg.2
      unfold x_in32 at oj oi ⊢
      omega
    have hne : ¬ Int32.ofInt j = 0 := by
      intro q
      rw [← x_of0, x_eqi oj x_zero] at q
      omega
    have hrem : Int32.ofInt i - Int32.ofInt i / Int32.ofInt j * Int32.ofInt j = Int32.ofInt (i % j) := by
      have hdv : (Int32.ofInt i / Int32.ofInt j) = Int32.ofInt (i / j) := by
        apply Int32.toInt_inj.mp
        rw [lg_idiv_nonneg (by rw [x_toInt oi]; exact hg.1) (by rw [x_toInt oj]; exact hg.2), x_toInt oi, x_toInt oj]
        have q1 := Int.ediv_nonneg hg.1 (Int.le_of_lt hg.2)
        have q2 := Int.ediv_le_self j hg.1
        refine (x_toInt ?_).symm
        unfold x_in32 at oi ⊢
        omega
      rw [hdv, ← Int32.ofInt_mul, ← Int32.ofInt_sub]
      congr 1
      have := Int.emod_add_mul_ediv i j
      rw [Int.mul_comm (i / j) j]
      omega
    have K := kk L H locs ls cells slots (x_ext_rf L) (S.stk (x_cons (show x_in32 (i % j) from hin) (x_tls (x_tls ho))))
    refine lv_irem hx hb hd hne (W.eq ?_ K)
    show F0 m (pc + 1) ls (.int _ :: _) = F0 m (x_pc y (k + 1)) ls (.int (Int32.ofInt (i % j)) :: _)
    rw [hp, hrem]
  · cases hs

theorem x_s11 (F : x_Fr p R s m args meth c D cy A y) (C : x_Ck y k 11 a t u pc) (S : x_St s D cy A bs y CC SS L h H locs ls als ast b cells slots) (hst : x_stp (11, a, t, u, pc) k als ast b h = some c') (kk : x_K p l e R s m args below meth c Q D cy A bs y CC SS L c') : W p l e R s m args below meth c H locs cells slots Q (F0 m pc ls (ast.map (x_conc bs L))) := by
  have C : x_D ((x_by y).data.toList.drop pc) pc (x_pc y (k + 1)) .iand 1 = true := C
  have hs : (match (generalizing := false) ast with | .inl j :: .inl i :: st => some (k + 1, als, .inl (Int32.ofInt i &&& Int32.ofInt j).toInt :: st, b, h) | _ => none) = some c' := hst
  split at hs
  · rename_i j i st
    cases hs
    obtain ⟨hy, hx, hb, hml, hown, hts, -⟩ := F
    obtain ⟨hd, hp⟩ := x_D_ok C
    have ho := S.2.2.2.2.1
    have oj : x_in32 j := x_hd ho
    have oi : x_in32 i := x_hd (x_tls ho)
    have K := kk L H locs ls cells slots (x_ext_rf L) (S.stk (x_cons (show x_in32 (Int32.ofInt i &&& Int32.ofInt j).toInt from x_in32_t _) (x_tls (x_tls ho))))
    refine lv_iand hx hb hd (W.eq ?_ K)
    show F0 m (pc + 1) ls (.int _ :: _) = F0 m (x_pc y (k + 1)) ls (.int (Int32.ofInt (Int32.ofInt i &&& Int32.ofInt j).toInt) :: _)
    rw [hp, x_of]
  · cases hs

theorem x_s12 (F : x_Fr p R s m args meth c D cy A y) (C : x_Ck y k 12 a t u pc) (S : x_St s D cy A bs y CC SS L h H locs ls als ast b cells slots) (hst : x_stp (12, a, t, u, pc) k als ast b h = some c') (kk : x_K p l e R s m args below meth c Q D cy A bs y CC SS L c') : W p l e R s m args below meth c H locs cells slots Q (F0 m pc ls (ast.map (x_conc bs L))) := by
  have C : x_D ((x_by y).data.toList.drop pc) pc (x_pc y (k + 1)) .ior 1 = true := C
  have hs : (match (generalizing := false) ast with | .inl j :: .inl i :: st => some (k + 1, als, .inl (Int32.ofInt i ||| Int32.ofInt j).toInt :: st, b, h) | _ => none) = some c' := hst
  split at hs
  · rename_i j i st
    cases hs
    obtain ⟨hy, hx, hb, hml, hown, hts, -⟩ := F
    obtain ⟨hd, hp⟩ := x_D_ok C
    have ho := S.2.2.2.2.1
    have oj : x_in32 j := x_hd ho
    have oi : x_in32 i := x_hd (x_tls ho)
    have K := kk L H locs ls cells slots (x_ext_rf L) (S.stk (x_cons (show x_in32 (Int32.ofInt i ||| Int32.ofInt j).toInt from x_in32_t _) (x_tls (x_tls ho))))
    refine lv_ior hx hb hd (W.eq ?_ K)
    show F0 m (pc + 1) ls (.int _ :: _) = F0 m (x_pc y (k + 1)) ls (.int (Int32.ofInt (Int32.ofInt i ||| Int32.ofInt j).toInt) :: _)
    rw [hp, x_of]
  · cases hs

theorem x_s13 (F : x_Fr p R s m args meth c D cy A y) (C : x_Ck y k 13 a t u pc) (S : x_St s D cy A bs y CC SS L h H locs ls als ast b cells slots) (hst : x_stp (13, a, t, u, pc) k als ast b h = some c') (kk : x_K p l e R s m args below meth c Q D cy A bs y CC SS L c') : W p l e R s m args below meth c H locs cells slots Q (F0 m pc ls (ast.map (x_conc bs L))) := by
  have C : x_D ((x_by y).data.toList.drop pc) pc (x_pc y (k + 1)) .ishl 1 = true := C
  have hs : (match (generalizing := false) ast with | .inl j :: .inl i :: st => some (k + 1, als, .inl (Int32.ofInt i <<< (Int32.ofInt j &&& 31)).toInt :: st, b, h) | _ => none) = some c' := hst
  split at hs
  · rename_i j i st
    cases hs
    obtain ⟨hy, hx, hb, hml, hown, hts, -⟩ := F
    obtain ⟨hd, hp⟩ := x_D_ok C
    have ho := S.2.2.2.2.1
    have oj : x_in32 j := x_hd ho
    have oi : x_in32 i := x_hd (x_tls ho)
    have K := kk L H locs ls cells slots (x_ext_rf L) (S.stk (x_cons (show x_in32 (Int32.ofInt i <<< (Int32.ofInt j &&& 31)).toInt from x_in32_t _) (x_tls (x_tls ho))))
    refine lv_ishl hx hb hd (W.eq ?_ K)
    show F0 m (pc + 1) ls (.int _ :: _) = F0 m (x_pc y (k + 1)) ls (.int (Int32.ofInt (Int32.ofInt i <<< (Int32.ofInt j &&& 31)).toInt) :: _)
    rw [hp, x_of]
  · cases hs

theorem x_s14 (F : x_Fr p R s m args meth c D cy A y) (C : x_Ck y k 14 a t u pc) (S : x_St s D cy A bs y CC SS L h H locs ls als ast b cells slots) (hst : x_stp (14, a, t, u, pc) k als ast b h = some c') (kk : x_K p l e R s m args below meth c Q D cy A bs y CC SS L c') : W p l e R s m args below meth c H locs cells slots Q (F0 m pc ls (ast.map (x_conc bs L))) := by
  have C : x_D ((x_by y).data.toList.drop pc) pc (x_pc y (k + 1)) .ishr 1 = true := C
  have hs : (match (generalizing := false) ast with | .inl j :: .inl i :: st => some (k + 1, als, .inl (Int32.ofInt i >>> (Int32.ofInt j &&& 31)).toInt :: st, b, h) | _ => none) = some c' := hst
  split at hs
  · rename_i j i st
    cases hs
    obtain ⟨hy, hx, hb, hml, hown, hts, -⟩ := F
    obtain ⟨hd, hp⟩ := x_D_ok C
    have ho := S.2.2.2.2.1
    have oj : x_in32 j := x_hd ho
    have oi : x_in32 i := x_hd (x_tls ho)
    have K := kk L H locs ls cells slots (x_ext_rf L) (S.stk (x_cons (show x_in32 (Int32.ofInt i >>> (Int32.ofInt j &&& 31)).toInt from x_in32_t _) (x_tls (x_tls ho))))
    refine lv_ishr hx hb hd (W.eq ?_ K)
    show F0 m (pc + 1) ls (.int _ :: _) = F0 m (x_pc y (k + 1)) ls (.int (Int32.ofInt (Int32.ofInt i >>> (Int32.ofInt j &&& 31)).toInt) :: _)
    rw [hp, x_of]
  · cases hs

theorem x_s10 (F : x_Fr p R s m args meth c D cy A y) (C : x_Ck y k 10 a t u pc) (S : x_St s D cy A bs y CC SS L h H locs ls als ast b cells slots) (hst : x_stp (10, a, t, u, pc) k als ast b h = some c') (kk : x_K p l e R s m args below meth c Q D cy A bs y CC SS L c') : W p l e R s m args below meth c H locs cells slots Q (F0 m pc ls (ast.map (x_conc bs L))) := by
  have C : x_D ((x_by y).data.toList.drop pc) pc (x_pc y (k + 1)) .ineg 1 = true := C
  have hs : (match (generalizing := false) ast with | .inl i :: st => some (k + 1, als, .inl (x_w (-i)) :: st, b, h) | _ => none) = some c' := hst
  split at hs
  · rename_i i st
    cases hs
    obtain ⟨hy, hx, hb, hml, hown, hts, -⟩ := F
    obtain ⟨hd, hp⟩ := x_D_ok C
    have ho := S.2.2.2.2.1
    have K := kk L H locs ls cells slots (x_ext_rf L) (S.stk (x_cons (show x_in32 (x_w (-i)) from x_w_in _) (x_tls ho)))
    refine lv_ineg hx hb hd (W.eq ?_ K)
    show F0 m (pc + 1) ls (.int _ :: _) = F0 m (x_pc y (k + 1)) ls (.int (Int32.ofInt (x_w (-i))) :: _)
    rw [hp, x_neg]
  · cases hs

end
end
section
/-! branches, the stack, the JDK's calls -/
section
variable {p : Program} {l : Launch} {e : Env} {R : Room} {s : State} {m : MethodId} {args : Array Value} {below : List Frame} {meth : Method} {c : Code} {Q : State → Prop}
variable {D : va_G} {cy : Nat → ClassId} {A : Nat → Prop} {bs y CC SS : Nat} {L : List Nat} {h : xH} {H : Heap} {locs : List Loc} {ls : Array Slot} {als ast : List xV} {b : xB} {cells slots k : Nat}
variable {a : Int} {t u pc p2 : Nat} {c' : xC}

theorem x_s15 (F : x_Fr p R s m args meth c D cy A y) (C : x_Ck y k 15 a t u pc) (S : x_St s D cy A bs y CC SS L h H locs ls als ast b cells slots) (hst : x_stp (15, a, t, u, pc) k als ast b h = some c') (kk : x_K p l e R s m args below meth c Q D cy A bs y CC SS L c') : W p l e R s m args below meth c H locs cells slots Q (F0 m pc ls (ast.map (x_conc bs L))) := by
  have C : x_D ((x_by y).data.toList.drop pc) pc (x_pc y (k + 1)) (x_ifI u ((x_tp (x_cd y) t : Int) - pc)) 3 = true := C
  have hs : (match (generalizing := false) ast with | .inl i :: st => some (if x_cond u i 0 then t else k + 1, als, st, b, h) | _ => none) = some c' := hst
  split at hs
  rotate_left
  · cases hs
  rename_i i st
  cases hs
  obtain ⟨hy, hx, hb, hml, hown, hts, -⟩ := F
  obtain ⟨hd, hp⟩ := x_D_ok C
  have ho := S.2.2.2.2.1
  have oi : x_in32 i := x_hd ho
  have oj := x_zero
  have K : W p l e R s m args below meth c H locs cells slots Q (F0 m (x_pc y (if x_cond u i 0 = true then t else k + 1)) ls (st.map (x_conc bs L))) := kk L H locs ls cells slots (x_ext_rf L) (S.stk (x_tls ho))
  have ht : (pc : Int) + ((x_tp (x_cd y) t : Int) - pc) = ((x_pc y t : Nat) : Int) := by
    show (pc : Int) + (((x_pc y t : Nat) : Int) - pc) = _
    omega
  by_cases u0 : u = 0
  · subst u0
    have ec : x_cond 0 i 0 = decide (i = 0) := rfl
    refine lv_if_eq hx hb hd ht (fun q => ?_) (fun q => ?_)
    · rw [if_pos (by rw [ec]; exact decide_eq_true ((x_eqi oi oj).mp q))] at K
      exact K
    · rw [if_neg (by rw [ec]; exact fun z => q ((x_eqi oi oj).mpr (of_decide_eq_true z))), hp] at K
      exact K
  by_cases u1 : u = 1
  · subst u1
    have ec : x_cond 1 i 0 = decide (¬ i = 0) := rfl
    refine lv_if_ne hx hb hd ht (fun q => ?_) (fun q => ?_)
    · rw [if_pos (by rw [ec]; exact decide_eq_true ((not_congr (x_eqi oi oj)).mp q))] at K
      exact K
    · rw [if_neg (by rw [ec]; exact fun z => (of_decide_eq_true z) ((x_eqi oi oj).mp q)), hp] at K
      exact K
  by_cases u2 : u = 2
  · subst u2
    have ec : x_cond 2 i 0 = decide (i < 0) := rfl
    refine lv_if_lt hx hb hd ht (fun q => ?_) (fun q => ?_)
    · rw [if_pos (by rw [ec]; exact decide_eq_true ((x_lt oi oj).mp q))] at K
      exact K
    · rw [if_neg (by rw [ec]; exact fun z => q ((x_lt oi oj).mpr (of_decide_eq_true z))), hp] at K
      exact K
  by_cases u3 : u = 3
  · subst u3
    have ec : x_cond 3 i 0 = decide (0 ≤ i) := rfl
    refine lv_if_ge hx hb hd ht (fun q => ?_) (fun q => ?_)
    · rw [if_pos (by rw [ec]; exact decide_eq_true ((x_le oj oi).mp q))] at K
      exact K
    · rw [if_neg (by rw [ec]; exact fun z => q ((x_le oj oi).mpr (of_decide_eq_true z))), hp] at K
      exact K
  by_cases u4 : u = 4
  · subst u4
    have ec : x_cond 4 i 0 = decide (0 < i) := rfl
    refine lv_if_gt hx hb hd ht (fun q => ?_) (fun q => ?_)
    · rw [if_pos (by rw [ec]; exact decide_eq_true ((x_lt oj oi).mp q))] at K
      exact K
    · rw [if_neg (by rw [ec]; exact fun z => q ((x_lt oj oi).mpr (of_decide_eq_true z))), hp] at K
      exact K
  have eI : x_ifI u ((x_tp (x_cd y) t : Int) - pc) = .ifCond .le ((x_tp (x_cd y) t : Int) - pc) := by unfold x_ifI; rw [if_neg u0, if_neg u1, if_neg u2, if_neg u3, if_neg u4]
  rw [eI] at hd
  have ec : x_cond u i 0 = decide (i ≤ 0) := by unfold x_cond; rw [if_neg u0, if_neg u1, if_neg u2, if_neg u3, if_neg u4]
  refine lv_if_le hx hb hd ht (fun q => ?_) (fun q => ?_)
  · rw [if_pos (by rw [ec]; exact decide_eq_true ((x_le oi oj).mp q))] at K
    exact K
  · rw [if_neg (by rw [ec]; exact fun z => q ((x_le oi oj).mpr (of_decide_eq_true z))), hp] at K
    exact K

theorem x_s16 (F : x_Fr p R s m args meth c D cy A y) (C : x_Ck y k 16 a t u pc) (S : x_St s D cy A bs y CC SS L h H locs ls als ast b cells slots) (hst : x_stp (16, a, t, u, pc) k als ast b h = some c') (kk : x_K p l e R s m args below meth c Q D cy A bs y CC SS L c') : W p l e R s m args below meth c H locs cells slots Q (F0 m pc ls (ast.map (x_conc bs L))) := by
  have C : x_D ((x_by y).data.toList.drop pc) pc (x_pc y (k + 1)) (x_icI u ((x_tp (x_cd y) t : Int) - pc)) 3 = true := C
  have hs : (match (generalizing := false) ast with | .inl j :: .inl i :: st => some (if x_cond u i j then t else k + 1, als, st, b, h) | _ => none) = some c' := hst
  split at hs
  rotate_left
  · cases hs
  rename_i j i st
  cases hs
  obtain ⟨hy, hx, hb, hml, hown, hts, -⟩ := F
  obtain ⟨hd, hp⟩ := x_D_ok C
  have ho := S.2.2.2.2.1
  have oj : x_in32 j := x_hd ho
  have oi : x_in32 i := x_hd (x_tls ho)
  have K : W p l e R s m args below meth c H locs cells slots Q (F0 m (x_pc y (if x_cond u i j = true then t else k + 1)) ls (st.map (x_conc bs L))) := kk L H locs ls cells slots (x_ext_rf L) (S.stk (x_tls (x_tls ho)))
  have ht : (pc : Int) + ((x_tp (x_cd y) t : Int) - pc) = ((x_pc y t : Nat) : Int) := by
    show (pc : Int) + (((x_pc y t : Nat) : Int) - pc) = _
    omega
  by_cases u0 : u = 0
  · subst u0
    have ec : x_cond 0 i j = decide (i = j) := rfl
    refine lv_icmp_eq hx hb hd ht (fun q => ?_) (fun q => ?_)
    · rw [if_pos (by rw [ec]; exact decide_eq_true ((x_eqi oi oj).mp q))] at K
      exact K
    · rw [if_neg (by rw [ec]; exact fun z => q ((x_eqi oi oj).mpr (of_decide_eq_true z))), hp] at K
      exact K
  by_cases u1 : u = 1
  · subst u1
    have ec : x_cond 1 i j = decide (¬ i = j) := rfl
    refine lv_icmp_ne hx hb hd ht (fun q => ?_) (fun q => ?_)
    · rw [if_pos (by rw [ec]; exact decide_eq_true ((not_congr (x_eqi oi oj)).mp q))] at K
      exact K
    · rw [if_neg (by rw [ec]; exact fun z => (of_decide_eq_true z) ((x_eqi oi oj).mp q)), hp] at K
      exact K
  by_cases u2 : u = 2
  · subst u2
    have ec : x_cond 2 i j = decide (i < j) := rfl
    refine lv_icmp_lt hx hb hd ht (fun q => ?_) (fun q => ?_)
    · rw [if_pos (by rw [ec]; exact decide_eq_true ((x_lt oi oj).mp q))] at K
      exact K
    · rw [if_neg (by rw [ec]; exact fun z => q ((x_lt oi oj).mpr (of_decide_eq_true z))), hp] at K
      exact K
  by_cases u3 : u = 3
  · subst u3
    have ec : x_cond 3 i j = decide (j ≤ i) := rfl
    refine lv_icmp_ge hx hb hd ht (fun q => ?_) (fun q => ?_)
    · rw [if_pos (by rw [ec]; exact decide_eq_true ((x_le oj oi).mp q))] at K
      exact K
    · rw [if_neg (by rw [ec]; exact fun z => q ((x_le oj oi).mpr (of_decide_eq_true z))), hp] at K
      exact K
  by_cases u4 : u = 4
  · subst u4
    have ec : x_cond 4 i j = decide (j < i) := rfl
    refine lv_icmp_gt hx hb hd ht (fun q => ?_) (fun q => ?_)
    · rw [if_pos (by rw [ec]; exact decide_eq_true ((x_lt oj oi).mp q))] at K
      exact K
    · rw [if_neg (by rw [ec]; exact fun z => q ((x_lt oj oi).mpr (of_decide_eq_true z))), hp] at K
      exact K
  have eI : x_icI u ((x_tp (x_cd y) t : Int) - pc) = .if_icmp .le ((x_tp (x_cd y) t : Int) - pc) := by unfold x_icI; rw [if_neg u0, if_neg u1, if_neg u2, if_neg u3, if_neg u4]
  rw [eI] at hd
  have ec : x_cond u i j = decide (i ≤ j) := by unfold x_cond; rw [if_neg u0, if_neg u1, if_neg u2, if_neg u3, if_neg u4]
  refine lv_icmp_le hx hb hd ht (fun q => ?_) (fun q => ?_)
  · rw [if_pos (by rw [ec]; exact decide_eq_true ((x_le oi oj).mp q))] at K
    exact K
  · rw [if_neg (by rw [ec]; exact fun z => q ((x_le oi oj).mpr (of_decide_eq_true z))), hp] at K
    exact K

theorem x_s17 (F : x_Fr p R s m args meth c D cy A y) (C : x_Ck y k 17 a t u pc) (S : x_St s D cy A bs y CC SS L h H locs ls als ast b cells slots) (hst : x_stp (17, a, t, u, pc) k als ast b h = some c') (kk : x_K p l e R s m args below meth c Q D cy A bs y CC SS L c') : W p l e R s m args below meth c H locs cells slots Q (F0 m pc ls (ast.map (x_conc bs L))) := by
  have C : x_is ((x_by y).data.toList.drop pc) (.goto ((x_tp (x_cd y) t : Int) - pc)) 3 = true := C
  cases (show some (t, als, ast, b, h) = some c' from hst)
  obtain ⟨hy, hx, hb, hml, hown, hts, -⟩ := F
  have hd := x_is_ok C
  have ht : (pc : Int) + ((x_tp (x_cd y) t : Int) - pc) = ((x_pc y t : Nat) : Int) := by
    show (pc : Int) + (((x_pc y t : Nat) : Int) - pc) = _
    omega
  exact lv_goto hx hb hd ht (kk L H locs ls cells slots (x_ext_rf L) S)

theorem x_s18 (F : x_Fr p R s m args meth c D cy A y) (C : x_Ck y k 18 a t u pc) (S : x_St s D cy A bs y CC SS L h H locs ls als ast b cells slots) (hst : x_stp (18, a, t, u, pc) k als ast b h = some c') (kk : x_K p l e R s m args below meth c Q D cy A bs y CC SS L c') : W p l e R s m args below meth c H locs cells slots Q (F0 m pc ls (ast.map (x_conc bs L))) := by
  have C : x_D ((x_by y).data.toList.drop pc) pc (x_pc y (k + 1)) (.ifnull ((x_tp (x_cd y) t : Int) - pc)) 3 = true := C
  have hs : (match (generalizing := false) ast with | .inr r :: st => if -1 ≤ r then some (if r < 0 then t else k + 1, als, st, b, h) else none | _ => none) = some c' := hst
  split at hs
  rotate_left
  · cases hs
  rename_i r st
  split at hs
  rotate_left
  · cases hs
  rename_i hr
  cases hs
  obtain ⟨hy, hx, hb, hml, hown, hts, -⟩ := F
  obtain ⟨hd, hp⟩ := x_D_ok C
  have ho := S.2.2.2.2.1
  have K : W p l e R s m args below meth c H locs cells slots Q (F0 m (x_pc y (if r < 0 then t else k + 1)) ls (st.map (x_conc bs L))) := kk L H locs ls cells slots (x_ext_rf L) (S.stk (x_tls ho))
  have ht : (pc : Int) + ((x_tp (x_cd y) t : Int) - pc) = ((x_pc y t : Nat) : Int) := by
    show (pc : Int) + (((x_pc y t : Nat) : Int) - pc) = _
    omega
  show W p l e R s m args below meth c H locs cells slots Q (F0 m pc ls (x_conc bs L (.inr r) :: st.map (x_conc bs L)))
  by_cases q : r < 0
  · rw [x_null q (by omega)]
    rw [if_pos q] at K
    exact lv_ifnullN hx hb hd ht K
  · rw [x_ref (by omega)]
    rw [if_neg q] at K
    rw [hp] at K
    exact lv_ifnull hx hb hd K

theorem x_s19 (F : x_Fr p R s m args meth c D cy A y) (C : x_Ck y k 19 a t u pc) (S : x_St s D cy A bs y CC SS L h H locs ls als ast b cells slots) (hst : x_stp (19, a, t, u, pc) k als ast b h = some c') (kk : x_K p l e R s m args below meth c Q D cy A bs y CC SS L c') : W p l e R s m args below meth c H locs cells slots Q (F0 m pc ls (ast.map (x_conc bs L))) := by
  have C : x_D ((x_by y).data.toList.drop pc) pc (x_pc y (k + 1)) (.ifnonnull ((x_tp (x_cd y) t : Int) - pc)) 3 = true := C
  have hs : (match (generalizing := false) ast with | .inr r :: st => if -1 ≤ r then some (if r < 0 then k + 1 else t, als, st, b, h) else none | _ => none) = some c' := hst
  split at hs
  rotate_left
  · cases hs
  rename_i r st
  split at hs
  rotate_left
  · cases hs
  rename_i hr
  cases hs
  obtain ⟨hy, hx, hb, hml, hown, hts, -⟩ := F
  obtain ⟨hd, hp⟩ := x_D_ok C
  have ho := S.2.2.2.2.1
  have K : W p l e R s m args below meth c H locs cells slots Q (F0 m (x_pc y (if r < 0 then k + 1 else t)) ls (st.map (x_conc bs L))) := kk L H locs ls cells slots (x_ext_rf L) (S.stk (x_tls ho))
  have ht : (pc : Int) + ((x_tp (x_cd y) t : Int) - pc) = ((x_pc y t : Nat) : Int) := by
    show (pc : Int) + (((x_pc y t : Nat) : Int) - pc) = _
    omega
  show W p l e R s m args below meth c H locs cells slots Q (F0 m pc ls (x_conc bs L (.inr r) :: st.map (x_conc bs L)))
  by_cases q : r < 0
  · rw [x_null q (by omega)]
    rw [if_pos q] at K
    rw [hp] at K
    exact lv_ifnonnullN hx hb hd K
  · rw [x_ref (by omega)]
    rw [if_neg q] at K
    exact lv_ifnonnull hx hb hd ht K

theorem x_s20 (F : x_Fr p R s m args meth c D cy A y) (C : x_Ck y k 20 a t u pc) (S : x_St s D cy A bs y CC SS L h H locs ls als ast b cells slots) (hst : x_stp (20, a, t, u, pc) k als ast b h = some c') (kk : x_K p l e R s m args below meth c Q D cy A bs y CC SS L c') : W p l e R s m args below meth c H locs cells slots Q (F0 m pc ls (ast.map (x_conc bs L))) := by
  have C : x_D ((x_by y).data.toList.drop pc) pc (x_pc y (k + 1)) .aconst_null 1 = true := C
  cases (show some (k + 1, als, .inr (-1) :: ast, b, h) = some c' from hst)
  obtain ⟨hy, hx, hb, hml, hown, hts, -⟩ := F
  obtain ⟨hd, hp⟩ := x_D_ok C
  have hz : (0 : Int) ≤ h.1 := by rw [← S.1.1]; omega
  have K := kk L H locs ls cells slots (x_ext_rf L) (S.stk (x_cons (show (-1 : Int) < h.1 by omega) S.2.2.2.2.1))
  refine lv_null hx hb hd (W.eq ?_ K)
  show F0 m (pc + 1) ls _ = F0 m (x_pc y (k + 1)) ls _
  rw [hp]
  rfl

theorem x_s21 (F : x_Fr p R s m args meth c D cy A y) (C : x_Ck y k 21 a t u pc) (S : x_St s D cy A bs y CC SS L h H locs ls als ast b cells slots) (hst : x_stp (21, a, t, u, pc) k als ast b h = some c') (kk : x_K p l e R s m args below meth c Q D cy A bs y CC SS L c') : W p l e R s m args below meth c H locs cells slots Q (F0 m pc ls (ast.map (x_conc bs L))) := by
  have C : x_D ((x_by y).data.toList.drop pc) pc (x_pc y (k + 1)) .dup 1 = true := C
  have hs : (match (generalizing := false) ast with | v :: st => some (k + 1, als, v :: v :: st, b, h) | _ => none) = some c' := hst
  split at hs
  rotate_left
  · cases hs
  rename_i v st
  cases hs
  obtain ⟨hy, hx, hb, hml, hown, hts, -⟩ := F
  obtain ⟨hd, hp⟩ := x_D_ok C
  have ho := S.2.2.2.2.1
  refine lv_dup hx hb hd (x_cat _ _ _) (W.eq ?_ (kk L H locs ls cells slots (x_ext_rf L) (S.stk (x_cons (x_hd ho) ho))))
  show F0 m (pc + 1) ls _ = F0 m (x_pc y (k + 1)) ls _
  rw [hp]
  rfl

theorem x_s22 (F : x_Fr p R s m args meth c D cy A y) (C : x_Ck y k 22 a t u pc) (S : x_St s D cy A bs y CC SS L h H locs ls als ast b cells slots) (hst : x_stp (22, a, t, u, pc) k als ast b h = some c') (kk : x_K p l e R s m args below meth c Q D cy A bs y CC SS L c') : W p l e R s m args below meth c H locs cells slots Q (F0 m pc ls (ast.map (x_conc bs L))) := by
  have C : x_D ((x_by y).data.toList.drop pc) pc (x_pc y (k + 1)) .pop 1 = true := C
  have hs : (match (generalizing := false) ast with | _ :: st => some (k + 1, als, st, b, h) | _ => none) = some c' := hst
  split at hs
  rotate_left
  · cases hs
  rename_i v st
  cases hs
  obtain ⟨hy, hx, hb, hml, hown, hts, -⟩ := F
  obtain ⟨hd, hp⟩ := x_D_ok C
  have ho := S.2.2.2.2.1
  refine lv_pop hx hb hd (x_cat bs L v) (W.eq ?_ (kk L H locs ls cells slots (x_ext_rf L) (S.stk (x_tls ho))))
  show F0 m (pc + 1) ls _ = F0 m (x_pc y (k + 1)) ls _
  rw [hp]

theorem x_s23 (F : x_Fr p R s m args meth c D cy A y) (C : x_Ck y k 23 a t u pc) (S : x_St s D cy A bs y CC SS L h H locs ls als ast b cells slots) (hst : x_stp (23, a, t, u, pc) k als ast b h = some c') (kk : x_K p l e R s m args below meth c Q D cy A bs y CC SS L c') : W p l e R s m args below meth c H locs cells slots Q (F0 m pc ls (ast.map (x_conc bs L))) := by
  have C : x_D ((x_by y).data.toList.drop pc) pc (x_pc y (k + 1)) .dup2 1 = true := C
  have hs : (match (generalizing := false) ast with | v :: w :: st => some (k + 1, als, v :: w :: v :: w :: st, b, h) | _ => none) = some c' := hst
  split at hs
  rotate_left
  · cases hs
  rename_i v w st
  cases hs
  obtain ⟨hy, hx, hb, hml, hown, hts, -⟩ := F
  obtain ⟨hd, hp⟩ := x_D_ok C
  have ho := S.2.2.2.2.1
  refine lv_dup2_11 hx hb hd (x_cat bs L v) (x_cat bs L w) (W.eq ?_ (kk L H locs ls cells slots (x_ext_rf L) (S.stk (x_cons (x_hd ho) (x_cons (x_hd (x_tls ho)) ho)))))
  show F0 m (pc + 1) ls _ = F0 m (x_pc y (k + 1)) ls _
  rw [hp]
  rfl

theorem x_sum (bs : Nat) (L : List Nat) (st : List xV) : ((st.map (x_conc bs L)).map fun v => v.category).sum = st.length := by
  induction st with
  | nil => rfl
  | cons v st ih =>
    simp only [List.map_cons, List.sum_cons, List.length_cons]
    rw [x_cat, ih]
    omega

theorem x_s44 (F : x_Fr p R s m args meth c D cy A y) (C : x_Ck y k 44 a t u pc) (S : x_St s D cy A bs y CC SS L h H locs ls als ast b cells slots) (hcs : cells ≤ R.cells ∧ slots ≤ R.slots) (hst : x_stp (44, a, t, u, pc) k als ast b h = some c') (kk : x_K p l e R s m args below meth c Q D cy A bs y CC SS L c') : W p l e R s m args below meth c H locs cells slots Q (F0 m pc ls (ast.map (x_conc bs L))) := by
  have C : (x_wd u (.methodLink (x_nm y).cls t Lib.Math.max.name) && x_D ((x_by y).data.toList.drop pc) pc (x_pc y (k + 1)) (.invokestatic t) 3 && decide (1 ≤ x_dp y) && decide (40 ≤ x_lc y)) = true := C
  simp only [Bool.and_eq_true, decide_eq_true_eq] at C
  obtain ⟨⟨⟨Cw, C⟩, r1⟩, r2⟩ := C
  have hs : (match (generalizing := false) ast with | .inl j :: .inl i :: st => if st.length ≤ 8 then some (k + 1, als, .inl (max i j) :: st, b, h) else none | _ => none) = some c' := hst
  split at hs
  rotate_left
  · cases hs
  rename_i j i st
  split at hs
  rotate_left
  · cases hs
  rename_i h8
  cases hs
  obtain ⟨hy, hx, hb, hml, hown, hts, -, -, -, hfr, hlo, -⟩ := F
  obtain ⟨hd, hp⟩ := x_D_ok C
  have ho := S.2.2.2.2.1
  have oj : x_in32 j := x_hd ho
  have oi : x_in32 i := x_hd (x_tls ho)
  have hin : x_in32 (max i j) := by
    unfold x_in32 at *
    omega
  have J := x_jdk
  simp only [Bool.and_eq_true] at J
  have hW := fun (n : Nat) (w : Cond) (hn : x_wd n w = true) (hg : goodWord w = true) => hts w (x_wd_ok hn) hg
  have ev : (if Int32.ofInt i < Int32.ofInt j then Int32.ofInt j else Int32.ofInt i) = Int32.ofInt (max i j) := by
    by_cases q : i < j
    · rw [if_pos ((x_lt oi oj).mpr q)]
      congr 1
      omega
    · rw [if_neg (fun z => q ((x_lt oi oj).mp z))]
      congr 1
      omega
  have K : W p l e R s m args below meth c H locs cells slots Q (F0 m (x_pc y (k + 1)) ls (.int (Int32.ofInt (max i j)) :: st.map (x_conc bs L))) := kk L H locs ls cells slots (x_ext_rf L) (S.stk (x_cons (show x_okv h.1 (.inl (max i j)) from hin) (x_tls (x_tls ho))))
  rw [hp, ← ev] at K
  exact va_mmax hx hb (by rw [hml, S.2.2.1.1]) hown (hW u _ Cw rfl) (hW xp_maxs _ (by simp [J]) rfl) (hW xp_mi _ (by simp [J]) rfl) (hW xp_maxc _ (by simp [J]) rfl) (by omega) (by rw [x_sum]; omega) hcs.1 hcs.2 hd K

theorem x_s45 (F : x_Fr p R s m args meth c D cy A y) (C : x_Ck y k 45 a t u pc) (S : x_St s D cy A bs y CC SS L h H locs ls als ast b cells slots) (hcs : cells ≤ R.cells ∧ slots ≤ R.slots) (hst : x_stp (45, a, t, u, pc) k als ast b h = some c') (kk : x_K p l e R s m args below meth c Q D cy A bs y CC SS L c') : W p l e R s m args below meth c H locs cells slots Q (F0 m pc ls (ast.map (x_conc bs L))) := by
  have C : (x_wd u (.methodLink (x_nm y).cls t Lib.Math.min.name) && x_D ((x_by y).data.toList.drop pc) pc (x_pc y (k + 1)) (.invokestatic t) 3 && decide (1 ≤ x_dp y) && decide (40 ≤ x_lc y)) = true := C
  simp only [Bool.and_eq_true, decide_eq_true_eq] at C
  obtain ⟨⟨⟨Cw, C⟩, r1⟩, r2⟩ := C
  have hs : (match (generalizing := false) ast with | .inl j :: .inl i :: st => if st.length ≤ 8 then some (k + 1, als, .inl (min i j) :: st, b, h) else none | _ => none) = some c' := hst
  split at hs
  rotate_left
  · cases hs
  rename_i j i st
  split at hs
  rotate_left
  · cases hs
  rename_i h8
  cases hs
  obtain ⟨hy, hx, hb, hml, hown, hts, -, -, -, hfr, hlo, -⟩ := F
  obtain ⟨hd, hp⟩ := x_D_ok C
  have ho := S.2.2.2.2.1
  have oj : x_in32 j := x_hd ho
  have oi : x_in32 i := x_hd (x_tls ho)
  have hin : x_in32 (min i j) := by
    unfold x_in32 at *
    omega
  have J := x_jdk
  simp only [Bool.and_eq_true] at J
  have hW := fun (n : Nat) (w : Cond) (hn : x_wd n w = true) (hg : goodWord w = true) => hts w (x_wd_ok hn) hg
  have ev : (if Int32.ofInt j < Int32.ofInt i then Int32.ofInt j else Int32.ofInt i) = Int32.ofInt (min i j) := by
    by_cases q : j < i
    · rw [if_pos ((x_lt oj oi).mpr q)]
      congr 1
      omega
    · rw [if_neg (fun z => q ((x_lt oj oi).mp z))]
      congr 1
      omega
  have K : W p l e R s m args below meth c H locs cells slots Q (F0 m (x_pc y (k + 1)) ls (.int (Int32.ofInt (min i j)) :: st.map (x_conc bs L))) := kk L H locs ls cells slots (x_ext_rf L) (S.stk (x_cons (show x_okv h.1 (.inl (min i j)) from hin) (x_tls (x_tls ho))))
  rw [hp, ← ev] at K
  exact va_mmin hx hb (by rw [hml, S.2.2.1.1]) hown (hW u _ Cw rfl) (hW xp_mins _ (by simp [J]) rfl) (hW xp_mi _ (by simp [J]) rfl) (hW xp_minc _ (by simp [J]) rfl) (by omega) (by rw [x_sum]; omega) hcs.1 hcs.2 hd K

theorem x_s43 (F : x_Fr p R s m args meth c D cy A y) (C : x_Ck y k 43 a t u pc) (S : x_St s D cy A bs y CC SS L h H locs ls als ast b cells slots) (hst : x_stp (43, a, t, u, pc) k als ast b h = some c') (kk : x_K p l e R s m args below meth c Q D cy A bs y CC SS L c') : W p l e R s m args below meth c H locs cells slots Q (F0 m pc ls (ast.map (x_conc bs L))) := by
  have C : (x_wd u (.methodLink (x_nm y).cls t objectInit) && x_D ((x_by y).data.toList.drop pc) pc (x_pc y (k + 1)) (.invokespecial t) 3 && decide (1 ≤ x_dp y) && decide (40 ≤ x_lc y)) = true := C
  simp only [Bool.and_eq_true, decide_eq_true_eq] at C
  obtain ⟨⟨⟨Cw, C⟩, r1⟩, r2⟩ := C
  have hs : (match (generalizing := false) ast with | .inr r :: st => if 0 ≤ r ∧ r < h.1 ∧ st.length ≤ 8 then some (k + 1, als, st, b, h) else none | _ => none) = some c' := hst
  split at hs
  rotate_left
  · cases hs
  rename_i r st
  split at hs
  rotate_left
  · cases hs
  rename_i h8
  cases hs
  obtain ⟨hy, hx, hb, hml, hown, hts, -, -, -, hfr, hlo, -⟩ := F
  obtain ⟨hd, hp⟩ := x_D_ok C
  have ho := S.2.2.2.2.1
  have J := x_jdk
  simp only [Bool.and_eq_true] at J
  have hW := fun (n : Nat) (w : Cond) (hn : x_wd n w = true) (hg : goodWord w = true) => hts w (x_wd_ok hn) hg
  have K : W p l e R s m args below meth c H locs cells slots Q (F0 m (x_pc y (k + 1)) ls (st.map (x_conc bs L))) := kk L H locs ls cells slots (x_ext_rf L) (S.stk (x_tls ho))
  rw [hp] at K
  show W p l e R s m args below meth c H locs cells slots Q (F0 m pc ls (x_conc bs L (.inr r) :: st.map (x_conc bs L)))
  rw [x_ref h8.1]
  refine W.objInit hx hb hown (hW u _ Cw rfl) (hW xp_oi _ (by simp [J]) rfl) (hW xp_oc _ (by simp [J]) rfl) rfl (by rw [hml]; exact S.2.2.1.1) rfl hd (by omega) ?_ K
  show 2 * 0 + _ + 12 ≤ _
  rw [x_sum]
  omega

theorem x_s47 (F : x_Fr p R s m args meth c D cy A y) (C : x_Ck y k 47 a t u pc) (S : x_St s D cy A bs y CC SS L h H locs ls als ast b cells slots) (hst : x_stp (47, a, t, u, pc) k als ast b h = some c') (kk : x_K p l e R s m args below meth c Q D cy A bs y CC SS L c') : W p l e R s m args below meth c H locs cells slots Q (F0 m pc ls (ast.map (x_conc bs L))) := by
  have hs : (match (generalizing := false) ast with | .inl i :: st => some (x_swt u i, als, st, b, h) | _ => none) = some c' := hst
  split at hs
  rotate_left
  · cases hs
  rename_i i st
  cases hs
  have C : (match xsw[u]? with
      | some ((d, lo, hi, offs, len), dt, ts) => decide (decode (x_by y) pc = .ok (.tableswitch d lo hi offs, len)) && decide ((x_tp (x_cd y) dt : Int) = pc + d) && decide (offs.size = ts.length) && decide ((ts.length : Int) = hi - lo + 1) && (List.range ts.length).all (fun i => decide ((x_tp (x_cd y) (ts.getD i 0) : Int) = pc + offs.getD i 0))
      | none => false) = true := C
  cases hq : xsw[u]? with
  | none => rw [hq] at C; cases C
  | some q =>
    obtain ⟨⟨d, lo, hi, offs, len⟩, dt, ts⟩ := q
    rw [hq] at C
    simp only [Bool.and_eq_true, decide_eq_true_eq] at C
    obtain ⟨⟨⟨⟨hd, c1⟩, c2⟩, c3⟩, c4⟩ := C
    obtain ⟨hy, hx, hb, hml, hown, hts, -⟩ := F
    have ho := S.2.2.2.2.1
    have oi : x_in32 i := x_hd ho
    have K : W p l e R s m args below meth c H locs cells slots Q (F0 m (x_pc y (x_swt u i)) ls (st.map (x_conc bs L))) := kk L H locs ls cells slots (x_ext_rf L) (S.stk (x_tls ho))
    have ex : x_swt u i = if i < lo ∨ hi < i then dt else ts.getD (i - lo).toNat 0 := by
      unfold x_swt
      rw [hq]
    rw [ex] at K
    by_cases q : i < lo ∨ hi < i
    · rw [if_pos q] at K
      exact lv_tableOut hx hb hd (by rw [x_toInt oi]; exact q) c1.symm K
    · rw [if_neg q] at K
      have hlt : (i - lo).toNat < ts.length := by omega
      have c5 := of_decide_eq_true (List.all_eq_true.mp c4 (i - lo).toNat (List.mem_range.mpr hlt))
      have hz : offs[(i - lo).toNat]? = some (offs.getD (i - lo).toNat 0) := by
        rw [Array.getD_eq_getD_getElem?, Array.getElem?_eq_getElem (by omega)]
        rfl
      exact lv_tableIn hx hb hd (by rw [x_toInt oi]; omega) (by rw [x_toInt oi]; omega) (by rw [x_toInt oi]; exact hz) c5.symm K

theorem x_s54 (F : x_Fr p R s m args meth c D cy A y) (C : x_Ck y k 54 a t u pc) (S : x_St s D cy A bs y CC SS L h H locs ls als ast b cells slots) (hscr : x_rk y = 8 → x_Scr s A bs h) (hst : x_stp (54, a, t, u, pc) k als ast b h = some c') (kk : x_K p l e R s m args below meth c Q D cy A bs y CC SS L c') : W p l e R s m args below meth c H locs cells slots Q (F0 m pc ls (ast.map (x_conc bs L))) := by
  have C : (x_D ((x_by y).data.toList.drop pc) pc (x_pc y (k + 1)) .iaload 1 && decide (x_rk y = 8)) = true := C
  simp only [Bool.and_eq_true, decide_eq_true_eq] at C
  obtain ⟨C, hrk⟩ := C
  have hs : (match (generalizing := false) ast with | .inl j :: .inr r :: st => if r = -2 ∧ 0 ≤ j ∧ j < h.2.2 (-2) (-1) then some (k + 1, als, .inl (h.2.2 (-2) j) :: st, b, h) else none | _ => none) = some c' := hst
  split at hs
  rotate_left
  · cases hs
  rename_i j r st
  split at hs
  rotate_left
  · cases hs
  rename_i hg
  cases hs
  obtain ⟨hr, h0, h1⟩ := hg
  subst hr
  obtain ⟨hy, hx, hb, hml, hown, hts, -⟩ := F
  obtain ⟨hd, hp⟩ := x_D_ok C
  have ho := S.2.2.2.2.1
  have oj : x_in32 j := x_hd ho
  obtain ⟨N, xs, hX, hbl, hbA, hv, hN, hN2⟩ := hscr hrk
  rw [hN] at h1
  have hj : (j.toNat : Int) = j := Int.toNat_of_nonneg h0
  have hv2 : h.2.2 (-2) j = (xs j.toNat).toInt := by
    have := hv j.toNat (by omega)
    rw [hj] at this
    exact this
  have K : W p l e R s m args below meth c H locs cells slots Q (F0 m (x_pc y (k + 1)) ls (.int (Int32.ofInt (h.2.2 (-2) j)) :: st.map (x_conc bs L))) := kk L H locs ls cells slots (x_ext_rf L) (S.stk (x_cons (show x_okv h.1 (.inl (h.2.2 (-2) j)) from S.1.2.1 _ _) (x_tls (x_tls ho))))
  rw [hv2, x_of, hp] at K
  show W p l e R s m args below meth c H locs cells slots Q (F0 m pc ls (.int (Int32.ofInt j) :: .ref bs :: st.map (x_conc bs L)))
  refine va_sld hx hb hX hbl hbA S.2.1 (by have := x_vpin oj h0 h1; simpa using this) hd ?_
  rw [x_clamp oj]
  exact K

theorem x_s55 (F : x_Fr p R s m args meth c D cy A y) (C : x_Ck y k 55 a t u pc) (S : x_St s D cy A bs y CC SS L h H locs ls als ast b cells slots) (hscr : x_rk y = 8 → x_Scr s A bs h) (hst : x_stp (55, a, t, u, pc) k als ast b h = some c') (kk : x_K p l e R s m args below meth c Q D cy A bs y CC SS L c') : W p l e R s m args below meth c H locs cells slots Q (F0 m pc ls (ast.map (x_conc bs L))) := by
  have C : (x_D ((x_by y).data.toList.drop pc) pc (x_pc y (k + 1)) .arraylength 1 && decide (x_rk y = 8)) = true := C
  simp only [Bool.and_eq_true, decide_eq_true_eq] at C
  obtain ⟨C, hrk⟩ := C
  have hs : (match (generalizing := false) ast with | .inr r :: st => if r = -2 then some (k + 1, als, .inl (h.2.2 (-2) (-1)) :: st, b, h) else none | _ => none) = some c' := hst
  split at hs
  rotate_left
  · cases hs
  rename_i r st
  split at hs
  rotate_left
  · cases hs
  rename_i hr
  cases hs
  subst hr
  obtain ⟨hy, hx, hb, hml, hown, hts, -⟩ := F
  obtain ⟨hd, hp⟩ := x_D_ok C
  have ho := S.2.2.2.2.1
  obtain ⟨N, xs, hX, hbl, hbA, hv, hN, hN2⟩ := hscr hrk
  have K : W p l e R s m args below meth c H locs cells slots Q (F0 m (x_pc y (k + 1)) ls (.int (Int32.ofInt (h.2.2 (-2) (-1))) :: st.map (x_conc bs L))) := kk L H locs ls cells slots (x_ext_rf L) (S.stk (x_cons (show x_okv h.1 (.inl (h.2.2 (-2) (-1))) from S.1.2.1 _ _) (x_tls ho)))
  rw [hN, hp] at K
  show W p l e R s m args below meth c H locs cells slots Q (F0 m pc ls (.ref bs :: st.map (x_conc bs L)))
  exact va_slen hx hb hX hbl hbA S.2.1 hd K

end
end
section
/-! fields, rows, new cells -/
theorem x_cls {c : Nat} (hc : c < 8) : vwCl[c]? = some ((x_q c).1, (x_q c).2.1, xnsl c) ∧ (∀ w ∈ u_ws (x_q c).1 (x_q c).2.1 (xnsl c), w ∈ lw_tbl ∧ goodWord w = true) ∧ (∀ j, j < xnsl c → parseFieldDescriptor ((x_q c).2.1 j).2.2.1 = some (x_ty c j)) ∧ (∀ a, a < xnsl c → ∀ b, b < xnsl c → a ≠ b → ((x_q c).2.1 a).2.1 ≠ ((x_q c).2.1 b).2.1) := by
  have h1 := List.all_eq_true.mp x_tyok c (List.mem_range.mpr hc)
  simp only [Bool.and_eq_true, decide_eq_true_eq] at h1
  have h2 := List.all_eq_true.mp x_layok c (List.mem_range.mpr hc)
  refine ⟨?_, ?_, ?_, ?_⟩
  · have : vwCl[c]? = some (x_q c) := by
      unfold x_q
      rw [List.getD_eq_getElem?_getD, List.getElem?_eq_getElem (show c < vwCl.length from hc)]
      rfl
    rw [this, ← h1.1]
  · intro w hw
    obtain ⟨j, hj, rfl⟩ := List.mem_map.mp hw
    have := List.all_eq_true.mp h2 j hj
    simp only [Bool.and_eq_true] at this
    exact ⟨x_wd_ok this.1, this.2⟩
  · intro j hj
    have := List.all_eq_true.mp h1.2 j (List.mem_range.mpr hj)
    simp only [Bool.and_eq_true, decide_eq_true_eq] at this
    exact this.1
  · rcases (show c = 0 ∨ c = 1 ∨ c = 2 ∨ c = 3 ∨ c = 4 ∨ c = 5 ∨ c = 6 ∨ c = 7 by omega) with rfl | rfl | rfl | rfl | rfl | rfl | rfl | rfl
    · exact nmX0
    · exact nmX1
    · exact nmX2
    · exact nmX3
    · exact nmX4
    · exact nmX5
    · exact nmX6
    · exact nmX7
theorem x_tyI {c j : Nat} (hc : c < 8) (hj : j < xnsl c) : if xrf c j = true then (∃ n, x_ty c j = .object n) ∨ (∃ n, x_ty c j = .array n) else if ((x_q c).2.1 j).2.2.1 = "I" then x_ty c j = .int else x_ty c j = .boolean := by
  have h1 := List.all_eq_true.mp x_tyok c (List.mem_range.mpr hc)
  simp only [Bool.and_eq_true, decide_eq_true_eq] at h1
  have := List.all_eq_true.mp h1.2 j (List.mem_range.mpr hj)
  simp only [Bool.and_eq_true, decide_eq_true_eq] at this
  obtain ⟨-, h3⟩ := this
  by_cases q : xrf c j = true
  · rw [if_pos q] at h3 ⊢
    cases ht : x_ty c j <;> rw [ht] at h3 <;> first | exact Or.inl ⟨_, rfl⟩ | exact Or.inr ⟨_, rfl⟩ | cases h3
  · rw [if_neg q] at h3 ⊢
    by_cases q2 : ((x_q c).2.1 j).2.2.1 = "I"
    · rw [if_pos q2] at h3 ⊢
      exact of_decide_eq_true h3
    · rw [if_neg q2] at h3 ⊢
      exact of_decide_eq_true h3
theorem x_fl_ok {u : Nat} {own : String} {t pc p2 : Nat} {f : Nat → Instr} {sf : List UInt8} (h : x_ckF own t u f sf pc p2 = true) : ∃ (pl ix c j : Nat), t = c * 16 + j ∧ c < 8 ∧ j < xnsl c ∧ j < 16 ∧ x_wd pl (.fieldLink own ix ((x_q c).2.1 j).1 ((x_q c).2.1 j).2.1 ((x_q c).2.1 j).2.2.1) = true ∧ x_D sf pc p2 (f ix) 3 = true := by
  unfold x_ckF at h
  cases hq : xfl[u]? with
  | none => rw [hq] at h; cases h
  | some q =>
    obtain ⟨pl, o, ix, c, j⟩ := q
    rw [hq] at h
    simp only [Bool.and_eq_true, decide_eq_true_eq] at h
    obtain ⟨⟨rfl, ht⟩, hD⟩ := h
    have := List.all_eq_true.mp x_flok _ (List.mem_of_getElem? hq)
    simp only [Bool.and_eq_true, decide_eq_true_eq] at this
    exact ⟨pl, ix, c, j, ht, this.1.1.1, this.1.1.2, this.1.2, this.2, hD⟩
theorem x_ent_cg {cy : Nat → ClassId} {L : List Nat} {h h' : xH} {q : Int} (hM : ∀ j, h'.2.2 q j = h.2.2 q j) (hP : ∀ j, h'.2.1 q j = h.2.1 q j) : x_ent cy L h' q = x_ent cy L h q := by
  unfold x_ent x_fs x_fv
  simp only [hM, hP]
theorem x_up_ne {f : Int → Int → Int} {a k v b j : Int} (h : b ≠ a) : x_up f a k v b j = f b j := by
  unfold x_up
  rw [if_neg (fun q => h q.1)]
theorem x_up_nk {f : Int → Int → Int} {a k v b j : Int} (h : j ≠ k) : x_up f a k v b j = f b j := by
  unfold x_up
  rw [if_neg (fun q => h q.2)]
theorem x_up_self {f : Int → Int → Int} {a k v : Int} : x_up f a k v a k = v := by
  unfold x_up
  rw [if_pos ⟨rfl, rfl⟩]
section
variable {p : Program} {l : Launch} {e : Env} {R : Room} {s : State} {m : MethodId} {args : Array Value} {below : List Frame} {meth : Method} {c : Code} {Q : State → Prop}
variable {D : va_G} {cy : Nat → ClassId} {A : Nat → Prop} {bs y CC SS : Nat} {L : List Nat} {h : xH} {H : Heap} {locs : List Loc} {ls : Array Slot} {als ast : List xV} {b : xB} {cells slots k : Nat}
variable {a : Int} {t u pc p2 : Nat} {c' : xC}
theorem x_Vw.upM (V : x_Vw D cy A L h H) {r j v : Int} (h0 : 0 ≤ r) (h1 : r < h.1) (hv : x_in32 v) {e : va_E} (he : x_ent cy L (h.1, h.2.1, x_up h.2.2 r j v) r = e) {H1 : Heap} (hP : va_P D vwCl ((x_ws cy L h).set r.toNat (L.getD r.toNat 0, e)) H1) (hD : va_D A ((x_ws cy L h).set r.toNat (L.getD r.toNat 0, e))) : x_Vw D cy A L (h.1, h.2.1, x_up h.2.2 r j v) H1 := by
  have hl : r < L.length := by rw [V.1]; exact h1
  rw [x_ws_set (h := h) (h' := (h.1, h.2.1, x_up h.2.2 r j v)) h0 hl he (fun q hq => x_ent_cg (fun i => x_up_ne hq) (fun i => rfl))] at hP hD
  refine ⟨V.1, fun a k => ?_, V.2.2.1, hP, hD⟩
  show x_in32 (x_up h.2.2 r j v a k)
  unfold x_up
  split
  · exact hv
  · exact V.2.1 a k
theorem x_Vw.upP (V : x_Vw D cy A L h H) {r j v : Int} (h0 : 0 ≤ r) (h1 : r < h.1) (hv : -1 ≤ v ∧ v < h.1) {e : va_E} (he : x_ent cy L (h.1, x_up h.2.1 r j v, h.2.2) r = e) {H1 : Heap} (hP : va_P D vwCl ((x_ws cy L h).set r.toNat (L.getD r.toNat 0, e)) H1) (hD : va_D A ((x_ws cy L h).set r.toNat (L.getD r.toNat 0, e))) : x_Vw D cy A L (h.1, x_up h.2.1 r j v, h.2.2) H1 := by
  have hl : r < L.length := by rw [V.1]; exact h1
  rw [x_ws_set (h := h) (h' := (h.1, x_up h.2.1 r j v, h.2.2)) h0 hl he (fun q hq => x_ent_cg (fun i => rfl) (fun i => x_up_ne hq))] at hP hD
  refine ⟨V.1, V.2.1, fun a k => ?_, hP, hD⟩
  show -1 ≤ x_up h.2.1 r j v a k ∧ x_up h.2.1 r j v a k < h.1
  unfold x_up
  split
  · exact hv
  · exact V.2.2.1 a k
/-- the heap and the stack change, the rest stays -/
theorem x_St.hp (S : x_St s D cy A bs y CC SS L h H locs ls als ast b cells slots) {h' : xH} {H' : Heap} {locs' : List Loc} {ast' : List xV} (hz : h'.1 = h.1) (V : x_Vw D cy A L h' H') (hS : va_S A s.heap H' locs') (ho : ∀ v ∈ ast', x_okv h.1 v) : x_St s D cy A bs y CC SS L h' H' locs' ls als ast' b cells slots :=
  ⟨V, hS, S.2.2.1, fun v hv => by rw [hz]; exact S.2.2.2.1 v hv, fun v hv => by rw [hz]; exact ho v hv, S.2.2.2.2.2⟩

theorem x_s24 (F : x_Fr p R s m args meth c D cy A y) (C : x_Ck y k 24 a t u pc) (S : x_St s D cy A bs y CC SS L h H locs ls als ast b cells slots) (hst : x_stp (24, a, t, u, pc) k als ast b h = some c') (kk : x_K p l e R s m args below meth c Q D cy A bs y CC SS L c') : W p l e R s m args below meth c H locs cells slots Q (F0 m pc ls (ast.map (x_conc bs L))) := by
  have C : (x_ckF (x_nm y).cls t u .getfield ((x_by y).data.toList.drop pc) pc (x_pc y (k + 1)) && decide (xrf (t / 16) (t % 16) = false)) = true := C
  simp only [Bool.and_eq_true, decide_eq_true_eq] at C
  obtain ⟨C, hrf⟩ := C
  obtain ⟨pl, ix, cn, j, ht, hc8, hj, hj16, hw, hD⟩ := x_fl_ok C
  have e1 : t / 16 = cn := by omega
  have e2 : t % 16 = j := by omega
  rw [e1, e2] at hrf
  have hs : (match (generalizing := false) ast with | .inr r :: st => if x_ok h.1 r (t / 16) then some (k + 1, als, .inl (h.2.2 r (t % 16 : Nat)) :: st, b, h) else none | _ => none) = some c' := hst
  rw [e1, e2] at hs
  split at hs
  rotate_left
  · cases hs
  rename_i r st
  split at hs
  rotate_left
  · cases hs
  rename_i hk
  cases hs
  obtain ⟨hy, hx, hb, hml, hown, hts, hinit, hK, hAO, hfr, hlo, hA⟩ := F
  have hts2 : ∀ w ∈ lw_tbl.filter goodWord, w.before args s = true := fun w hw => hts w (List.mem_filter.mp hw).1 (List.mem_filter.mp hw).2
  obtain ⟨V, hS, -⟩ := id S
  obtain ⟨h0, h1, hkd⟩ := x_ok_ok hk
  obtain ⟨hd, hp⟩ := x_D_ok hD
  obtain ⟨q1, q2, q3, q4⟩ := x_cls hc8
  have hl : r < L.length := by rw [V.1]; exact h1
  have ho := S.2.2.2.2.1
  have K : W p l e R s m args below meth c H locs cells slots Q (F0 m (x_pc y (k + 1)) ls (.int (Int32.ofInt (h.2.2 r j)) :: st.map (x_conc bs L))) := kk L H locs ls cells slots (x_ext_rf L) (S.stk (x_cons (show x_okv h.1 (.inl (h.2.2 r j)) from V.2.1 r j) (x_tls ho)))
  rw [hp] at K
  have hv : (x_fs L h r cn)[j]? = some (.int (Int32.ofInt (h.2.2 r j))) := by
    rw [x_fs_get hj]
    unfold x_fv
    rw [if_neg (by rw [hrf]; decide)]
  show W p l e R s m args below meth c H locs cells slots Q (F0 m pc ls (x_conc bs L (.inr r) :: st.map (x_conc bs L)))
  rw [x_ref h0]
  exact va_get hx hb hts2 (fun w hw => List.mem_filter.mpr (q2 w hw)) hown hK V.2.2.2.1 r.toNat ((x_ws_get h0 hl).trans (by rw [x_ent_obj hkd hc8])) q1 j hj (hts _ (x_wd_ok hw) rfl) (fun x hx => hx) hv hd K

theorem x_s25 (F : x_Fr p R s m args meth c D cy A y) (C : x_Ck y k 25 a t u pc) (S : x_St s D cy A bs y CC SS L h H locs ls als ast b cells slots) (hst : x_stp (25, a, t, u, pc) k als ast b h = some c') (kk : x_K p l e R s m args below meth c Q D cy A bs y CC SS L c') : W p l e R s m args below meth c H locs cells slots Q (F0 m pc ls (ast.map (x_conc bs L))) := by
  have C : (x_ckF (x_nm y).cls t u .getfield ((x_by y).data.toList.drop pc) pc (x_pc y (k + 1)) && decide (xrf (t / 16) (t % 16) = true)) = true := C
  simp only [Bool.and_eq_true, decide_eq_true_eq] at C
  obtain ⟨C, hrf⟩ := C
  obtain ⟨pl, ix, cn, j, ht, hc8, hj, hj16, hw, hD⟩ := x_fl_ok C
  have e1 : t / 16 = cn := by omega
  have e2 : t % 16 = j := by omega
  rw [e1, e2] at hrf
  have hs : (match (generalizing := false) ast with | .inr r :: st => if x_ok h.1 r (t / 16) then some (k + 1, als, .inr (h.2.1 r (t % 16 : Nat)) :: st, b, h) else none | _ => none) = some c' := hst
  rw [e1, e2] at hs
  split at hs
  rotate_left
  · cases hs
  rename_i r st
  split at hs
  rotate_left
  · cases hs
  rename_i hk
  cases hs
  obtain ⟨hy, hx, hb, hml, hown, hts, hinit, hK, hAO, hfr, hlo, hA⟩ := F
  have hts2 : ∀ w ∈ lw_tbl.filter goodWord, w.before args s = true := fun w hw => hts w (List.mem_filter.mp hw).1 (List.mem_filter.mp hw).2
  obtain ⟨V, hS, -⟩ := id S
  obtain ⟨h0, h1, hkd⟩ := x_ok_ok hk
  obtain ⟨hd, hp⟩ := x_D_ok hD
  obtain ⟨q1, q2, q3, q4⟩ := x_cls hc8
  have hl : r < L.length := by rw [V.1]; exact h1
  have ho := S.2.2.2.2.1
  have K : W p l e R s m args below meth c H locs cells slots Q (F0 m (x_pc y (k + 1)) ls (x_conc bs L (.inr (h.2.1 r j)) :: st.map (x_conc bs L))) := kk L H locs ls cells slots (x_ext_rf L) (S.stk (x_cons (show x_okv h.1 (.inr (h.2.1 r j)) from (V.2.2.1 r j).2) (x_tls ho)))
  have er : x_conc bs L (.inr (h.2.1 r j)) = va_rf (x_rf L (h.2.1 r j)) := if_neg (by have := (V.2.2.1 r j).1; omega)
  rw [er] at K
  rw [hp] at K
  have hv : (x_fs L h r cn)[j]? = some (va_rf (x_rf L (h.2.1 r j))) := by
    rw [x_fs_get hj]
    unfold x_fv
    rw [if_pos hrf]
  show W p l e R s m args below meth c H locs cells slots Q (F0 m pc ls (x_conc bs L (.inr r) :: st.map (x_conc bs L)))
  rw [x_ref h0]
  exact va_get hx hb hts2 (fun w hw => List.mem_filter.mpr (q2 w hw)) hown hK V.2.2.2.1 r.toNat ((x_ws_get h0 hl).trans (by rw [x_ent_obj hkd hc8])) q1 j hj (hts _ (x_wd_ok hw) rfl) (fun x hx => hx) hv hd K

theorem x_s26 (F : x_Fr p R s m args meth c D cy A y) (C : x_Ck y k 26 a t u pc) (S : x_St s D cy A bs y CC SS L h H locs ls als ast b cells slots) (hst : x_stp (26, a, t, u, pc) k als ast b h = some c') (kk : x_K p l e R s m args below meth c Q D cy A bs y CC SS L c') : W p l e R s m args below meth c H locs cells slots Q (F0 m pc ls (ast.map (x_conc bs L))) := by
  have C : (x_ckF (x_nm y).cls t u .putfield ((x_by y).data.toList.drop pc) pc (x_pc y (k + 1)) && decide (xrf (t / 16) (t % 16) = false) && decide (((x_q (t / 16)).2.1 (t % 16)).2.2.1 = "I") && (decide (((x_q (t / 16)).2.1 (t % 16)).2.2.2 = false) || (decide (x_st y = 2) && decide (((x_q (t / 16)).2.1 (t % 16)).1 = (x_nm y).cls)))) = true := C
  simp only [Bool.and_eq_true, Bool.or_eq_true, decide_eq_true_eq] at C
  obtain ⟨⟨⟨C, hrf⟩, hdesc⟩, hfin⟩ := C
  obtain ⟨pl, ix, cn, j, ht, hc8, hj, hj16, hw, hD⟩ := x_fl_ok C
  have e1 : t / 16 = cn := by omega
  have e2 : t % 16 = j := by omega
  rw [e1, e2] at hrf hfin hdesc
  have hs : (match (generalizing := false) ast with | .inl v :: .inr r :: st => if x_ok h.1 r (t / 16) then some (k + 1, als, st, b, (h.1, h.2.1, x_up h.2.2 r (t % 16 : Nat) v)) else none | _ => none) = some c' := hst
  rw [e1, e2] at hs
  split at hs
  rotate_left
  · cases hs
  rename_i v r st
  split at hs
  rotate_left
  · cases hs
  rename_i hk
  cases hs
  obtain ⟨hy, hx, hb, hml, hown, hts, hinit, hK, hAO, hfr, hlo, hA⟩ := F
  have hts2 : ∀ w ∈ lw_tbl.filter goodWord, w.before args s = true := fun w hw => hts w (List.mem_filter.mp hw).1 (List.mem_filter.mp hw).2
  obtain ⟨V, hS, -⟩ := id S
  obtain ⟨h0, h1, hkd⟩ := x_ok_ok hk
  obtain ⟨hd, hp⟩ := x_D_ok hD
  obtain ⟨q1, q2, q3, q4⟩ := x_cls hc8
  have hl : r < L.length := by rw [V.1]; exact h1
  have ho := S.2.2.2.2.1
  have hti := x_tyI hc8 hj
  have hty : narrow (x_ty cn j) (.int (Int32.ofInt v)) = .int (Int32.ofInt v) ∧ fits (x_ty cn j) (.int (Int32.ofInt v)) = true := by
    rw [if_neg (by rw [hrf]; decide), if_pos hdesc] at hti
    rw [hti]
    exact ⟨rfl, rfl⟩
  have hv : x_in32 v := x_hd ho
  have he : x_ent cy L (h.1, h.2.1, x_up h.2.2 r (j) v) r = .inr (cn, (x_fs L h r cn).set j (.int (Int32.ofInt v))) := by
    rw [x_ent_obj hkd hc8, x_fs_set hj (h' := (h.1, h.2.1, x_up h.2.2 r (j) v))]
    · unfold x_fv
      rw [if_neg (by rw [hrf]; decide)]
      show Value.int (Int32.ofInt (x_up h.2.2 r j v r j)) = _
      rw [x_up_self]
    · intro i hi
      unfold x_fv
      show (if _ then va_rf (x_rf L (h.2.1 r i)) else .int (Int32.ofInt (x_up h.2.2 r j v r i))) = _
      rw [x_up_nk (by omega)]
  have key : ∀ (H1 : Heap) (locs1 : List Loc), va_P D vwCl ((x_ws cy L h).set r.toNat (L.getD r.toNat 0, .inr (cn, (x_fs L h r cn).set j (.int (Int32.ofInt v))))) H1 → va_D A ((x_ws cy L h).set r.toNat (L.getD r.toNat 0, .inr (cn, (x_fs L h r cn).set j (.int (Int32.ofInt v))))) → va_S A s.heap H1 locs1 → W p l e R s m args below meth c H1 locs1 cells slots Q (F0 m (pc + 3) ls (st.map (x_conc bs L))) := fun H1 locs1 g1 g2 g3 => by
    have K := kk L H1 locs1 ls cells slots (x_ext_rf L) (S.hp rfl (V.upM h0 h1 hv he g1 g2) g3 (x_tls (x_tls ho)))
    exact W.eq (by show F0 m (pc + 3) ls _ = F0 m (x_pc y (k + 1)) ls _; rw [hp]) K
  show W p l e R s m args below meth c H locs cells slots Q (F0 m pc ls (x_conc bs L (.inl v) :: x_conc bs L (.inr r) :: st.map (x_conc bs L)))
  rw [x_ref h0]
  show W p l e R s m args below meth c H locs cells slots Q (F0 m pc ls (.int (Int32.ofInt v) :: .ref (L.getD r.toNat 0) :: st.map (x_conc bs L)))
  rcases hfin with hfin | ⟨hst2, hdecl⟩
  · exact va_put hx hb hts2 (fun w hw => List.mem_filter.mpr (q2 w hw)) (x_ty cn) q3 q4 hown hK V.2.2.2.1 V.2.2.2.2 hS r.toNat ((x_ws_get h0 hl).trans (by rw [x_ent_obj hkd hc8])) q1 j hj (hts _ (x_wd_ok hw) rfl) (fun x hx => hx) hfin (q3 j hj) hty.1 hty.2 (by simp [x_fs]; exact hj) hd key
  · by_cases hfn : ((x_q cn).2.1 j).2.2.2 = false
    · exact va_put hx hb hts2 (fun w hw => List.mem_filter.mpr (q2 w hw)) (x_ty cn) q3 q4 hown hK V.2.2.2.1 V.2.2.2.2 hS r.toNat ((x_ws_get h0 hl).trans (by rw [x_ent_obj hkd hc8])) q1 j hj (hts _ (x_wd_ok hw) rfl) (fun x hx => hx) hfn (q3 j hj) hty.1 hty.2 (by simp [x_fs]; exact hj) hd key
    · exact va_putF hx hb hts2 (fun w hw => List.mem_filter.mpr (q2 w hw)) (x_ty cn) q3 q4 hown hK V.2.2.2.1 V.2.2.2.2 hS r.toNat ((x_ws_get h0 hl).trans (by rw [x_ent_obj hkd hc8])) q1 j hj (hts _ (x_wd_ok hw) rfl) (fun x hx => hx) (by simpa using hfn) (hinit hst2) hdecl (q3 j hj) hty.1 hty.2 (by simp [x_fs]; exact hj) hd key

theorem x_s27 (F : x_Fr p R s m args meth c D cy A y) (C : x_Ck y k 27 a t u pc) (S : x_St s D cy A bs y CC SS L h H locs ls als ast b cells slots) (hst : x_stp (27, a, t, u, pc) k als ast b h = some c') (kk : x_K p l e R s m args below meth c Q D cy A bs y CC SS L c') : W p l e R s m args below meth c H locs cells slots Q (F0 m pc ls (ast.map (x_conc bs L))) := by
  have C : (x_ckF (x_nm y).cls t u .putfield ((x_by y).data.toList.drop pc) pc (x_pc y (k + 1)) && decide (xrf (t / 16) (t % 16) = true) && (decide (((x_q (t / 16)).2.1 (t % 16)).2.2.2 = false) || (decide (x_st y = 2) && decide (((x_q (t / 16)).2.1 (t % 16)).1 = (x_nm y).cls)))) = true := C
  simp only [Bool.and_eq_true, Bool.or_eq_true, decide_eq_true_eq] at C
  obtain ⟨⟨C, hrf⟩, hfin⟩ := C
  obtain ⟨pl, ix, cn, j, ht, hc8, hj, hj16, hw, hD⟩ := x_fl_ok C
  have e1 : t / 16 = cn := by omega
  have e2 : t % 16 = j := by omega
  rw [e1, e2] at hrf hfin
  have hs : (match (generalizing := false) ast with | .inr v :: .inr r :: st => if x_ok h.1 r (t / 16) ∧ -1 ≤ v then some (k + 1, als, st, b, (h.1, x_up h.2.1 r (t % 16 : Nat) v, h.2.2)) else none | _ => none) = some c' := hst
  rw [e1, e2] at hs
  split at hs
  rotate_left
  · cases hs
  rename_i v r st
  split at hs
  rotate_left
  · cases hs
  rename_i hk
  cases hs
  obtain ⟨hy, hx, hb, hml, hown, hts, hinit, hK, hAO, hfr, hlo, hA⟩ := F
  have hts2 : ∀ w ∈ lw_tbl.filter goodWord, w.before args s = true := fun w hw => hts w (List.mem_filter.mp hw).1 (List.mem_filter.mp hw).2
  obtain ⟨V, hS, -⟩ := id S
  obtain ⟨h0, h1, hkd⟩ := x_ok_ok hk.1
  obtain ⟨hd, hp⟩ := x_D_ok hD
  obtain ⟨q1, q2, q3, q4⟩ := x_cls hc8
  have hl : r < L.length := by rw [V.1]; exact h1
  have ho := S.2.2.2.2.1
  have hti := x_tyI hc8 hj
  have hty : narrow (x_ty cn j) (va_rf (x_rf L v)) = va_rf (x_rf L v) ∧ fits (x_ty cn j) (va_rf (x_rf L v)) = true := by
    rw [if_pos hrf] at hti
    rcases hti with ⟨n, hti⟩ | ⟨n, hti⟩ <;> rw [hti] <;> cases x_rf L v <;> exact ⟨rfl, rfl⟩
  have hv : -1 ≤ v ∧ v < h.1 := ⟨hk.2, x_hd ho⟩
  have he : x_ent cy L (h.1, x_up h.2.1 r (j) v, h.2.2) r = .inr (cn, (x_fs L h r cn).set j (va_rf (x_rf L v))) := by
    rw [x_ent_obj hkd hc8, x_fs_set hj (h' := (h.1, x_up h.2.1 r (j) v, h.2.2))]
    · unfold x_fv
      rw [if_pos hrf]
      show va_rf (x_rf L (x_up h.2.1 r j v r j)) = _
      rw [x_up_self]
    · intro i hi
      unfold x_fv
      show (if _ then va_rf (x_rf L (x_up h.2.1 r j v r i)) else .int (Int32.ofInt (h.2.2 r i))) = _
      rw [x_up_nk (by omega)]
  have key : ∀ (H1 : Heap) (locs1 : List Loc), va_P D vwCl ((x_ws cy L h).set r.toNat (L.getD r.toNat 0, .inr (cn, (x_fs L h r cn).set j (va_rf (x_rf L v))))) H1 → va_D A ((x_ws cy L h).set r.toNat (L.getD r.toNat 0, .inr (cn, (x_fs L h r cn).set j (va_rf (x_rf L v))))) → va_S A s.heap H1 locs1 → W p l e R s m args below meth c H1 locs1 cells slots Q (F0 m (pc + 3) ls (st.map (x_conc bs L))) := fun H1 locs1 g1 g2 g3 => by
    have K := kk L H1 locs1 ls cells slots (x_ext_rf L) (S.hp rfl (V.upP h0 h1 hv he g1 g2) g3 (x_tls (x_tls ho)))
    exact W.eq (by show F0 m (pc + 3) ls _ = F0 m (x_pc y (k + 1)) ls _; rw [hp]) K
  show W p l e R s m args below meth c H locs cells slots Q (F0 m pc ls (x_conc bs L (.inr v) :: x_conc bs L (.inr r) :: st.map (x_conc bs L)))
  rw [x_ref h0]
  have er : x_conc bs L (.inr v) = va_rf (x_rf L v) := if_neg (by omega)
  rw [er]
  rcases hfin with hfin | ⟨hst2, hdecl⟩
  · exact va_put hx hb hts2 (fun w hw => List.mem_filter.mpr (q2 w hw)) (x_ty cn) q3 q4 hown hK V.2.2.2.1 V.2.2.2.2 hS r.toNat ((x_ws_get h0 hl).trans (by rw [x_ent_obj hkd hc8])) q1 j hj (hts _ (x_wd_ok hw) rfl) (fun x hx => hx) hfin (q3 j hj) hty.1 hty.2 (by simp [x_fs]; exact hj) hd key
  · by_cases hfn : ((x_q cn).2.1 j).2.2.2 = false
    · exact va_put hx hb hts2 (fun w hw => List.mem_filter.mpr (q2 w hw)) (x_ty cn) q3 q4 hown hK V.2.2.2.1 V.2.2.2.2 hS r.toNat ((x_ws_get h0 hl).trans (by rw [x_ent_obj hkd hc8])) q1 j hj (hts _ (x_wd_ok hw) rfl) (fun x hx => hx) hfn (q3 j hj) hty.1 hty.2 (by simp [x_fs]; exact hj) hd key
    · exact va_putF hx hb hts2 (fun w hw => List.mem_filter.mpr (q2 w hw)) (x_ty cn) q3 q4 hown hK V.2.2.2.1 V.2.2.2.2 hS r.toNat ((x_ws_get h0 hl).trans (by rw [x_ent_obj hkd hc8])) q1 j hj (hts _ (x_wd_ok hw) rfl) (fun x hx => hx) (by simpa using hfn) (hinit hst2) hdecl (q3 j hj) hty.1 hty.2 (by simp [x_fs]; exact hj) hd key

theorem x_s32 (F : x_Fr p R s m args meth c D cy A y) (C : x_Ck y k 32 a t u pc) (S : x_St s D cy A bs y CC SS L h H locs ls als ast b cells slots) (hst : x_stp (32, a, t, u, pc) k als ast b h = some c') (kk : x_K p l e R s m args below meth c Q D cy A bs y CC SS L c') : W p l e R s m args below meth c H locs cells slots Q (F0 m pc ls (ast.map (x_conc bs L))) := by
  have C : (x_ckF (x_nm y).cls t u .putfield ((x_by y).data.toList.drop pc) pc (x_pc y (k + 1)) && decide (xrf (t / 16) (t % 16) = false) && decide (((x_q (t / 16)).2.1 (t % 16)).2.2.1 = "Z") && decide (((x_q (t / 16)).2.1 (t % 16)).2.2.2 = false)) = true := C
  simp only [Bool.and_eq_true, Bool.or_eq_true, decide_eq_true_eq] at C
  obtain ⟨⟨⟨C, hrf⟩, hdesc⟩, hfin⟩ := C
  obtain ⟨pl, ix, cn, j, ht, hc8, hj, hj16, hw, hD⟩ := x_fl_ok C
  have e1 : t / 16 = cn := by omega
  have e2 : t % 16 = j := by omega
  rw [e1, e2] at hrf hfin hdesc
  have hs : (match (generalizing := false) ast with | .inl v :: .inr r :: st => if x_ok h.1 r (t / 16) ∧ (v = 0 ∨ v = 1) then some (k + 1, als, st, b, (h.1, h.2.1, x_up h.2.2 r (t % 16 : Nat) v)) else none | _ => none) = some c' := hst
  rw [e1, e2] at hs
  split at hs
  rotate_left
  · cases hs
  rename_i v r st
  split at hs
  rotate_left
  · cases hs
  rename_i hk
  cases hs
  obtain ⟨hy, hx, hb, hml, hown, hts, hinit, hK, hAO, hfr, hlo, hA⟩ := F
  have hts2 : ∀ w ∈ lw_tbl.filter goodWord, w.before args s = true := fun w hw => hts w (List.mem_filter.mp hw).1 (List.mem_filter.mp hw).2
  obtain ⟨V, hS, -⟩ := id S
  obtain ⟨h0, h1, hkd⟩ := x_ok_ok hk.1
  obtain ⟨hd, hp⟩ := x_D_ok hD
  obtain ⟨q1, q2, q3, q4⟩ := x_cls hc8
  have hl : r < L.length := by rw [V.1]; exact h1
  have ho := S.2.2.2.2.1
  have hti := x_tyI hc8 hj
  have hty : narrow (x_ty cn j) (.int (Int32.ofInt v)) = .int (Int32.ofInt v) ∧ fits (x_ty cn j) (.int (Int32.ofInt v)) = true := by
    rw [if_neg (by rw [hrf]; decide), if_neg (by rw [hdesc]; decide)] at hti
    rw [hti]
    rcases hk.2 with rfl | rfl <;> exact ⟨rfl, rfl⟩
  have hv : x_in32 v := x_hd ho
  have he : x_ent cy L (h.1, h.2.1, x_up h.2.2 r (j) v) r = .inr (cn, (x_fs L h r cn).set j (.int (Int32.ofInt v))) := by
    rw [x_ent_obj hkd hc8, x_fs_set hj (h' := (h.1, h.2.1, x_up h.2.2 r (j) v))]
    · unfold x_fv
      rw [if_neg (by rw [hrf]; decide)]
      show Value.int (Int32.ofInt (x_up h.2.2 r j v r j)) = _
      rw [x_up_self]
    · intro i hi
      unfold x_fv
      show (if _ then va_rf (x_rf L (h.2.1 r i)) else .int (Int32.ofInt (x_up h.2.2 r j v r i))) = _
      rw [x_up_nk (by omega)]
  have key : ∀ (H1 : Heap) (locs1 : List Loc), va_P D vwCl ((x_ws cy L h).set r.toNat (L.getD r.toNat 0, .inr (cn, (x_fs L h r cn).set j (.int (Int32.ofInt v))))) H1 → va_D A ((x_ws cy L h).set r.toNat (L.getD r.toNat 0, .inr (cn, (x_fs L h r cn).set j (.int (Int32.ofInt v))))) → va_S A s.heap H1 locs1 → W p l e R s m args below meth c H1 locs1 cells slots Q (F0 m (pc + 3) ls (st.map (x_conc bs L))) := fun H1 locs1 g1 g2 g3 => by
    have K := kk L H1 locs1 ls cells slots (x_ext_rf L) (S.hp rfl (V.upM h0 h1 hv he g1 g2) g3 (x_tls (x_tls ho)))
    exact W.eq (by show F0 m (pc + 3) ls _ = F0 m (x_pc y (k + 1)) ls _; rw [hp]) K
  show W p l e R s m args below meth c H locs cells slots Q (F0 m pc ls (x_conc bs L (.inl v) :: x_conc bs L (.inr r) :: st.map (x_conc bs L)))
  rw [x_ref h0]
  show W p l e R s m args below meth c H locs cells slots Q (F0 m pc ls (.int (Int32.ofInt v) :: .ref (L.getD r.toNat 0) :: st.map (x_conc bs L)))
  exact va_put hx hb hts2 (fun w hw => List.mem_filter.mpr (q2 w hw)) (x_ty cn) q3 q4 hown hK V.2.2.2.1 V.2.2.2.2 hS r.toNat ((x_ws_get h0 hl).trans (by rw [x_ent_obj hkd hc8])) q1 j hj (hts _ (x_wd_ok hw) rfl) (fun x hx => hx) hfin (q3 j hj) hty.1 hty.2 (by simp [x_fs]; exact hj) hd key

theorem x_s28 (F : x_Fr p R s m args meth c D cy A y) (C : x_Ck y k 28 a t u pc) (S : x_St s D cy A bs y CC SS L h H locs ls als ast b cells slots) (hst : x_stp (28, a, t, u, pc) k als ast b h = some c') (kk : x_K p l e R s m args below meth c Q D cy A bs y CC SS L c') : W p l e R s m args below meth c H locs cells slots Q (F0 m pc ls (ast.map (x_conc bs L))) := by
  have C : x_D ((x_by y).data.toList.drop pc) pc (x_pc y (k + 1)) .iaload 1 = true := C
  have hs : (match (generalizing := false) ast with | .inl j :: .inr r :: st => if x_ok h.1 r 8 ∧ 0 ≤ j ∧ j < x_ln r then some (k + 1, als, .inl (h.2.2 r j) :: st, b, h) else none | _ => none) = some c' := hst
  split at hs
  rotate_left
  · cases hs
  rename_i j r st
  split at hs
  rotate_left
  · cases hs
  rename_i hg
  cases hs
  obtain ⟨hy, hx, hb, hml, hown, hts, hinit, hK, hAO, hfr, hlo, hA⟩ := F
  have hts2 : ∀ w ∈ lw_tbl.filter goodWord, w.before args s = true := fun w hw => hts w (List.mem_filter.mp hw).1 (List.mem_filter.mp hw).2
  obtain ⟨V, hS, -⟩ := id S
  obtain ⟨hk, hj0, hj1⟩ := hg
  obtain ⟨h0, h1, hkd⟩ := x_ok_ok hk
  obtain ⟨hd, hp⟩ := x_D_ok C
  have hl : r < L.length := by rw [V.1]; exact h1
  have ho := S.2.2.2.2.1
  have oj : x_in32 j := x_hd ho
  have K : W p l e R s m args below meth c H locs cells slots Q (F0 m (x_pc y (k + 1)) ls (.int (Int32.ofInt (h.2.2 r j)) :: st.map (x_conc bs L))) := kk L H locs ls cells slots (x_ext_rf L) (S.stk (x_cons (show x_okv h.1 (.inl (h.2.2 r j)) from V.2.1 r j) (x_tls (x_tls ho))))
  rw [hp] at K
  show W p l e R s m args below meth c H locs cells slots Q (F0 m pc ls (.int (Int32.ofInt j) :: x_conc bs L (.inr r) :: st.map (x_conc bs L)))
  rw [x_ref h0]
  refine va_iald hx hb hK V.2.2.2.1 r.toNat 0 ((x_ws_get h0 hl).trans (by rw [x_ent_int hkd (by decide) (by decide)])) rfl (x_vpin oj hj0 hj1) hd ?_
  show W p l e R s m args below meth c H locs cells slots Q (F0 m (pc + 1) ls (.int (Int32.ofInt (h.2.2 r ((Int32.ofInt j).toNatClampNeg : Int))) :: _))
  rw [x_clamp oj, Int.toNat_of_nonneg hj0]
  exact K

theorem x_s33 (F : x_Fr p R s m args meth c D cy A y) (C : x_Ck y k 33 a t u pc) (S : x_St s D cy A bs y CC SS L h H locs ls als ast b cells slots) (hst : x_stp (33, a, t, u, pc) k als ast b h = some c') (kk : x_K p l e R s m args below meth c Q D cy A bs y CC SS L c') : W p l e R s m args below meth c H locs cells slots Q (F0 m pc ls (ast.map (x_conc bs L))) := by
  have C : x_D ((x_by y).data.toList.drop pc) pc (x_pc y (k + 1)) .baload 1 = true := C
  have hs : (match (generalizing := false) ast with | .inl j :: .inr r :: st => if x_ok h.1 r 9 ∧ 0 ≤ j ∧ j < x_ln r then some (k + 1, als, .inl (h.2.2 r j) :: st, b, h) else none | _ => none) = some c' := hst
  split at hs
  rotate_left
  · cases hs
  rename_i j r st
  split at hs
  rotate_left
  · cases hs
  rename_i hg
  cases hs
  obtain ⟨hy, hx, hb, hml, hown, hts, hinit, hK, hAO, hfr, hlo, hA⟩ := F
  have hts2 : ∀ w ∈ lw_tbl.filter goodWord, w.before args s = true := fun w hw => hts w (List.mem_filter.mp hw).1 (List.mem_filter.mp hw).2
  obtain ⟨V, hS, -⟩ := id S
  obtain ⟨hk, hj0, hj1⟩ := hg
  obtain ⟨h0, h1, hkd⟩ := x_ok_ok hk
  obtain ⟨hd, hp⟩ := x_D_ok C
  have hl : r < L.length := by rw [V.1]; exact h1
  have ho := S.2.2.2.2.1
  have oj : x_in32 j := x_hd ho
  have K : W p l e R s m args below meth c H locs cells slots Q (F0 m (x_pc y (k + 1)) ls (.int (Int32.ofInt (h.2.2 r j)) :: st.map (x_conc bs L))) := kk L H locs ls cells slots (x_ext_rf L) (S.stk (x_cons (show x_okv h.1 (.inl (h.2.2 r j)) from V.2.1 r j) (x_tls (x_tls ho))))
  rw [hp] at K
  show W p l e R s m args below meth c H locs cells slots Q (F0 m pc ls (.int (Int32.ofInt j) :: x_conc bs L (.inr r) :: st.map (x_conc bs L)))
  rw [x_ref h0]
  refine va_zald hx hb hK V.2.2.2.1 r.toNat 1 ((x_ws_get h0 hl).trans (by rw [x_ent_int hkd (by decide) (by decide)])) rfl (x_vpin oj hj0 hj1) hd ?_
  show W p l e R s m args below meth c H locs cells slots Q (F0 m (pc + 1) ls (.int (Int32.ofInt (h.2.2 r ((Int32.ofInt j).toNatClampNeg : Int))) :: _))
  rw [x_clamp oj, Int.toNat_of_nonneg hj0]
  exact K

theorem x_s29 (F : x_Fr p R s m args meth c D cy A y) (C : x_Ck y k 29 a t u pc) (S : x_St s D cy A bs y CC SS L h H locs ls als ast b cells slots) (hst : x_stp (29, a, t, u, pc) k als ast b h = some c') (kk : x_K p l e R s m args below meth c Q D cy A bs y CC SS L c') : W p l e R s m args below meth c H locs cells slots Q (F0 m pc ls (ast.map (x_conc bs L))) := by
  have C : x_D ((x_by y).data.toList.drop pc) pc (x_pc y (k + 1)) .iastore 1 = true := C
  have hs : (match (generalizing := false) ast with | .inl v :: .inl j :: .inr r :: st => if x_ok h.1 r 8 ∧ 0 ≤ j ∧ j < x_ln r then some (k + 1, als, st, b, (h.1, h.2.1, x_up h.2.2 r j v)) else none | _ => none) = some c' := hst
  split at hs
  rotate_left
  · cases hs
  rename_i v j r st
  split at hs
  rotate_left
  · cases hs
  rename_i hg
  cases hs
  obtain ⟨hy, hx, hb, hml, hown, hts, hinit, hK, hAO, hfr, hlo, hA⟩ := F
  have hts2 : ∀ w ∈ lw_tbl.filter goodWord, w.before args s = true := fun w hw => hts w (List.mem_filter.mp hw).1 (List.mem_filter.mp hw).2
  obtain ⟨V, hS, -⟩ := id S
  obtain ⟨hk, hj0, hj1⟩ := hg
  obtain ⟨h0, h1, hkd⟩ := x_ok_ok hk
  obtain ⟨hd, hp⟩ := x_D_ok C
  have hl : r < L.length := by rw [V.1]; exact h1
  have ho := S.2.2.2.2.1
  have ov : x_in32 v := x_hd ho
  have oj : x_in32 j := x_hd (x_tls ho)
  have he : x_ent cy L (h.1, h.2.1, x_up h.2.2 r j v) r = .inl (cy 8, (x_ln r).toNat, .inl (upd (fun i => Int32.ofInt (h.2.2 r i)) (Int32.ofInt j).toNatClampNeg (Int32.ofInt v))) := by
    rw [x_ent_int hkd (by decide) (by decide)]
    congr 4
    funext i
    rw [x_clamp oj]
    unfold upd
    show Int32.ofInt (x_up h.2.2 r j v r i) = _
    by_cases q : i = j.toNat
    · rw [if_pos q]
      have : (i : Int) = j := by omega
      rw [this, x_up_self]
    · rw [if_neg q, x_up_nk (by omega)]
  show W p l e R s m args below meth c H locs cells slots Q (F0 m pc ls (.int (Int32.ofInt v) :: .int (Int32.ofInt j) :: x_conc bs L (.inr r) :: st.map (x_conc bs L)))
  rw [x_ref h0]
  refine va_iast hx hb hK V.2.2.2.1 V.2.2.2.2 hS r.toNat 0 ((x_ws_get h0 hl).trans (by rw [x_ent_int hkd (by decide) (by decide)])) rfl (x_vpin oj hj0 hj1) hd fun H1 locs1 g1 g2 g3 => ?_
  have K := kk L H1 locs1 ls cells slots (x_ext_rf L) (S.hp rfl (V.upM h0 h1 ov he g1 g2) g3 (x_tls (x_tls (x_tls ho))))
  exact W.eq (by show F0 m (pc + 1) ls _ = F0 m (x_pc y (k + 1)) ls _; rw [hp]) K

theorem x_s34 (F : x_Fr p R s m args meth c D cy A y) (C : x_Ck y k 34 a t u pc) (S : x_St s D cy A bs y CC SS L h H locs ls als ast b cells slots) (hst : x_stp (34, a, t, u, pc) k als ast b h = some c') (kk : x_K p l e R s m args below meth c Q D cy A bs y CC SS L c') : W p l e R s m args below meth c H locs cells slots Q (F0 m pc ls (ast.map (x_conc bs L))) := by
  have C : x_D ((x_by y).data.toList.drop pc) pc (x_pc y (k + 1)) .bastore 1 = true := C
  have hs : (match (generalizing := false) ast with | .inl v :: .inl j :: .inr r :: st => if x_ok h.1 r 9 ∧ 0 ≤ j ∧ j < x_ln r ∧ (v = 0 ∨ v = 1) then some (k + 1, als, st, b, (h.1, h.2.1, x_up h.2.2 r j v)) else none | _ => none) = some c' := hst
  split at hs
  rotate_left
  · cases hs
  rename_i v j r st
  split at hs
  rotate_left
  · cases hs
  rename_i hg
  cases hs
  obtain ⟨hy, hx, hb, hml, hown, hts, hinit, hK, hAO, hfr, hlo, hA⟩ := F
  have hts2 : ∀ w ∈ lw_tbl.filter goodWord, w.before args s = true := fun w hw => hts w (List.mem_filter.mp hw).1 (List.mem_filter.mp hw).2
  obtain ⟨V, hS, -⟩ := id S
  obtain ⟨hk, hj0, hj1, hv01⟩ := hg
  obtain ⟨h0, h1, hkd⟩ := x_ok_ok hk
  obtain ⟨hd, hp⟩ := x_D_ok C
  have hl : r < L.length := by rw [V.1]; exact h1
  have ho := S.2.2.2.2.1
  have ov : x_in32 v := x_hd ho
  have oj : x_in32 j := x_hd (x_tls ho)
  have he : x_ent cy L (h.1, h.2.1, x_up h.2.2 r j v) r = .inl (cy 9, (x_ln r).toNat, .inl (upd (fun i => Int32.ofInt (h.2.2 r i)) (Int32.ofInt j).toNatClampNeg (vp_nar .boolean (Int32.ofInt v)))) := by
    rw [x_ent_int hkd (by decide) (by decide)]
    congr 4
    funext i
    rw [x_clamp oj]
    unfold upd
    show Int32.ofInt (x_up h.2.2 r j v r i) = _
    by_cases q : i = j.toNat
    · rw [if_pos q]
      have : (i : Int) = j := by omega
      rw [this, x_up_self]
      rcases hv01 with rfl | rfl <;> rfl
    · rw [if_neg q, x_up_nk (by omega)]
  show W p l e R s m args below meth c H locs cells slots Q (F0 m pc ls (.int (Int32.ofInt v) :: .int (Int32.ofInt j) :: x_conc bs L (.inr r) :: st.map (x_conc bs L)))
  rw [x_ref h0]
  refine va_zast hx hb hK V.2.2.2.1 V.2.2.2.2 hS r.toNat 1 ((x_ws_get h0 hl).trans (by rw [x_ent_int hkd (by decide) (by decide)])) rfl (x_vpin oj hj0 hj1) hd fun H1 locs1 g1 g2 g3 => ?_
  have K := kk L H1 locs1 ls cells slots (x_ext_rf L) (S.hp rfl (V.upM h0 h1 ov he g1 g2) g3 (x_tls (x_tls (x_tls ho))))
  exact W.eq (by show F0 m (pc + 1) ls _ = F0 m (x_pc y (k + 1)) ls _; rw [hp]) K

theorem x_tysR {cy : Nat → ClassId} {n : Nat} (h1 : 10 ≤ n) (h2 : n < 14) : (x_tys cy)[n - 8]? = some (cy n, .object (["WheelStands$Cart", "WheelStands$Stand", "WheelStands$Town", "WheelStands$Wheel"].getD (n - 10) "")) ∧ (x_q ([0, 2, 4, 5].getD (n - 10) 99)).1 = ["WheelStands$Cart", "WheelStands$Stand", "WheelStands$Town", "WheelStands$Wheel"].getD (n - 10) "" ∧ [0, 2, 4, 5].getD (n - 10) 99 < 8 ∧ ["WheelStands$Cart", "WheelStands$Stand", "WheelStands$Town", "WheelStands$Wheel"].getD (n - 10) "" ∈ x_aos := by
  rcases (show n = 10 ∨ n = 11 ∨ n = 12 ∨ n = 13 by omega) with rfl | rfl | rfl | rfl <;> exact ⟨rfl, rfl, by decide, by decide⟩

theorem x_s30 (F : x_Fr p R s m args meth c D cy A y) (C : x_Ck y k 30 a t u pc) (S : x_St s D cy A bs y CC SS L h H locs ls als ast b cells slots) (hst : x_stp (30, a, t, u, pc) k als ast b h = some c') (kk : x_K p l e R s m args below meth c Q D cy A bs y CC SS L c') : W p l e R s m args below meth c H locs cells slots Q (F0 m pc ls (ast.map (x_conc bs L))) := by
  have C : x_D ((x_by y).data.toList.drop pc) pc (x_pc y (k + 1)) .aaload 1 = true := C
  have hs : (match (generalizing := false) ast with | .inl j :: .inr r :: st => if 0 ≤ r ∧ r < h.1 ∧ 10 ≤ x_kd r ∧ x_kd r < 14 ∧ 0 ≤ j ∧ j < x_ln r then some (k + 1, als, .inr (h.2.1 r j) :: st, b, h) else none | _ => none) = some c' := hst
  split at hs
  rotate_left
  · cases hs
  rename_i j r st
  split at hs
  rotate_left
  · cases hs
  rename_i hg
  cases hs
  obtain ⟨hy, hx, hb, hml, hown, hts, hinit, hK, hAO, hfr, hlo, hA⟩ := F
  have hts2 : ∀ w ∈ lw_tbl.filter goodWord, w.before args s = true := fun w hw => hts w (List.mem_filter.mp hw).1 (List.mem_filter.mp hw).2
  obtain ⟨V, hS, -⟩ := id S
  obtain ⟨h0, h1, hk1, hk2, hj0, hj1⟩ := hg
  obtain ⟨hd, hp⟩ := x_D_ok C
  have hl : r < L.length := by rw [V.1]; exact h1
  have ho := S.2.2.2.2.1
  have oj : x_in32 j := x_hd ho
  have K : W p l e R s m args below meth c H locs cells slots Q (F0 m (x_pc y (k + 1)) ls (x_conc bs L (.inr (h.2.1 r j)) :: st.map (x_conc bs L))) := kk L H locs ls cells slots (x_ext_rf L) (S.stk (x_cons (show x_okv h.1 (.inr (h.2.1 r j)) from (V.2.2.1 r j).2) (x_tls (x_tls ho))))
  have er : x_conc bs L (.inr (h.2.1 r j)) = va_rf (x_rf L (h.2.1 r j)) := if_neg (by have := (V.2.2.1 r j).1; omega)
  rw [hp, er] at K
  show W p l e R s m args below meth c H locs cells slots Q (F0 m pc ls (.int (Int32.ofInt j) :: x_conc bs L (.inr r) :: st.map (x_conc bs L)))
  rw [x_ref h0]
  refine va_aldq hx hb hK V.2.2.2.1 r.toNat (x_kd r - 8) ((x_ws_get h0 hl).trans (by rw [x_ent_ref rfl (by omega)])) (x_tysR hk1 hk2).1 (x_vpin oj hj0 hj1) hd ?_
  show W p l e R s m args below meth c H locs cells slots Q (F0 m (pc + 1) ls (va_rf (x_rf L (h.2.1 r ((Int32.ofInt j).toNatClampNeg : Int))) :: _))
  rw [x_clamp oj, Int.toNat_of_nonneg hj0]
  exact K

theorem x_s31 (F : x_Fr p R s m args meth c D cy A y) (C : x_Ck y k 31 a t u pc) (S : x_St s D cy A bs y CC SS L h H locs ls als ast b cells slots) (hst : x_stp (31, a, t, u, pc) k als ast b h = some c') (kk : x_K p l e R s m args below meth c Q D cy A bs y CC SS L c') : W p l e R s m args below meth c H locs cells slots Q (F0 m pc ls (ast.map (x_conc bs L))) := by
  have C : x_D ((x_by y).data.toList.drop pc) pc (x_pc y (k + 1)) .aastore 1 = true := C
  have hs : (match (generalizing := false) ast with | .inr v :: .inl j :: .inr r :: st => if 0 ≤ r ∧ r < h.1 ∧ 10 ≤ x_kd r ∧ x_kd r < 14 ∧ 0 ≤ j ∧ j < x_ln r ∧ x_ok h.1 v ([0, 2, 4, 5].getD (x_kd r - 10) 99) then some (k + 1, als, st, b, (h.1, x_up h.2.1 r j v, h.2.2)) else none | _ => none) = some c' := hst
  split at hs
  rotate_left
  · cases hs
  rename_i v j r st
  split at hs
  rotate_left
  · cases hs
  rename_i hg
  cases hs
  obtain ⟨hy, hx, hb, hml, hown, hts, hinit, hK, hAO, hfr, hlo, hA⟩ := F
  have hts2 : ∀ w ∈ lw_tbl.filter goodWord, w.before args s = true := fun w hw => hts w (List.mem_filter.mp hw).1 (List.mem_filter.mp hw).2
  obtain ⟨V, hS, -⟩ := id S
  obtain ⟨h0, h1, hk1, hk2, hj0, hj1, hkv⟩ := hg
  obtain ⟨v0, v1, hkdv⟩ := x_ok_ok hkv
  obtain ⟨hd, hp⟩ := x_D_ok C
  obtain ⟨t1, t2, t3, -⟩ := x_tysR (cy := cy) hk1 hk2
  have hl : r < L.length := by rw [V.1]; exact h1
  have hlv : v < L.length := by rw [V.1]; exact v1
  have ho := S.2.2.2.2.1
  have oj : x_in32 j := x_hd (x_tls ho)
  have he : x_ent cy L (h.1, x_up h.2.1 r j v, h.2.2) r = .inl (cy (x_kd r), (x_ln r).toNat, .inr (.inr (.inr (.inr (va_up (fun i => x_rf L (h.2.1 r i)) (Int32.ofInt j).toNatClampNeg (some (L.getD v.toNat 0))))))) := by
    rw [x_ent_ref rfl (by omega)]
    congr 7
    funext i
    rw [x_clamp oj]
    unfold va_up
    show x_rf L (x_up h.2.1 r j v r i) = _
    by_cases q : i = j.toNat
    · rw [if_pos q]
      have : (i : Int) = j := by omega
      rw [this, x_up_self]
      unfold x_rf
      rw [if_neg (by omega)]
    · rw [if_neg q, x_up_nk (by omega)]
  obtain ⟨q1, -⟩ := x_cls t3
  show W p l e R s m args below meth c H locs cells slots Q (F0 m pc ls (x_conc bs L (.inr v) :: .int (Int32.ofInt j) :: x_conc bs L (.inr r) :: st.map (x_conc bs L)))
  rw [x_ref h0, x_ref v0]
  refine va_astq hx hb hK V.2.2.2.1 V.2.2.2.2 hS r.toNat (x_kd r - 8) v.toNat _ ((x_ws_get h0 hl).trans (by rw [x_ent_ref rfl (by omega)])) (t1.trans (by rw [← t2])) ((x_ws_get v0 hlv).trans (by rw [x_ent_obj hkdv t3])) q1 (x_vpin oj hj0 hj1) hd fun H1 locs1 g1 g2 g3 => ?_
  have K := kk L H1 locs1 ls cells slots (x_ext_rf L) (S.hp rfl (V.upP h0 h1 ⟨by omega, v1⟩ he g1 g2) g3 (x_tls (x_tls (x_tls ho))))
  exact W.eq (by show F0 m (pc + 1) ls _ = F0 m (x_pc y (k + 1)) ls _; rw [hp]) K

end
end
section
/-! new cells, copies of rows -/
theorem x_clr_ne {f : Int → Int → Int} {a v b j : Int} (h : b ≠ a) : x_clr f a v b j = f b j := by
  unfold x_clr
  rw [if_neg h]
theorem x_clr_at {f : Int → Int → Int} {a v j : Int} : x_clr f a v a j = v := by
  unfold x_clr
  rw [if_pos rfl]
def x_nw (h : xH) : xH := (h.1 + 1, x_clr h.2.1 h.1 (-1), x_clr h.2.2 h.1 0)
theorem x_okv_up {z : Int} {v : xV} (h : x_okv z v) : x_okv (z + 1) v := by
  cases v with
  | inl i => exact h
  | inr r => exact Int.lt_trans (show r < z from h) (by omega)
theorem x_ent_ext {cy : Nat → ClassId} {L t : List Nat} {h h' : xH} {q : Int} (hM : ∀ j, h'.2.2 q j = h.2.2 q j) (hP : ∀ j, h'.2.1 q j = h.2.1 q j) (hl : ∀ j, h.2.1 q j < L.length) : x_ent cy (L ++ t) h' q = x_ent cy L h q := by
  unfold x_ent x_fs x_fv
  simp only [hM, hP, x_rf_ext (hl _)]
theorem x_ws_new {cy : Nat → ClassId} {L : List Nat} {h : xH} {q : Nat} {e : va_E} (hz : (L.length : Int) = h.1) (hl : ∀ a j, h.2.1 a j < h.1) (he : x_ent cy (L ++ [q]) (x_nw h) h.1 = e) : x_ws cy L h ++ [(q, e)] = x_ws cy (L ++ [q]) (x_nw h) := by
  unfold x_ws
  rw [List.length_append, List.length_singleton, List.range_succ, List.map_append]
  congr 1
  · apply List.map_congr_left
    intro k hk
    have hk := List.mem_range.mp hk
    rw [x_getD_ext hk, x_ent_ext (h := h) (fun j => x_clr_ne (by omega)) (fun j => x_clr_ne (by omega)) (fun j => by rw [hz]; exact hl _ _)]
  · simp only [List.map_cons, List.map_nil]
    rw [hz, he]
    congr 2
    simp [List.getD_eq_getElem?_getD]
section
variable {p : Program} {l : Launch} {e : Env} {R : Room} {s : State} {m : MethodId} {args : Array Value} {below : List Frame} {meth : Method} {c : Code} {Q : State → Prop}
variable {D : va_G} {cy : Nat → ClassId} {A : Nat → Prop} {bs y CC SS : Nat} {L : List Nat} {h : xH} {H : Heap} {locs : List Loc} {ls : Array Slot} {als ast : List xV} {b : xB} {cells slots k : Nat}
variable {a : Int} {t u pc p2 : Nat} {c' : xC}
theorem x_Vw.nw (V : x_Vw D cy A L h H) {q : Nat} {e : va_E} (he : x_ent cy (L ++ [q]) (x_nw h) h.1 = e) {H1 : Heap} (hP : va_P D vwCl (x_ws cy L h ++ [(q, e)]) H1) (hD : va_D A (x_ws cy L h ++ [(q, e)])) : x_Vw D cy A (L ++ [q]) (x_nw h) H1 := by
  rw [x_ws_new V.1 (fun a j => (V.2.2.1 a j).2) he] at hP hD
  have hz : (0 : Int) ≤ h.1 := by rw [← V.1]; omega
  refine ⟨?_, fun a k => ?_, fun a k => ?_, hP, hD⟩
  · rw [List.length_append, List.length_singleton]
    show ((L.length + 1 : Nat) : Int) = h.1 + 1
    rw [← V.1]
    omega
  · show x_in32 (x_clr h.2.2 h.1 0 a k)
    unfold x_clr
    split
    · exact x_zero
    · exact V.2.1 a k
  · show -1 ≤ x_clr h.2.1 h.1 (-1) a k ∧ x_clr h.2.1 h.1 (-1) a k < h.1 + 1
    unfold x_clr
    split
    · omega
    · have := V.2.2.1 a k
      omega
theorem x_St.nw (S : x_St s D cy A bs y CC SS L h H locs ls als ast b cells slots) {q n : Nat} {H' : Heap} {locs' : List Loc} {st : List xV} (V : x_Vw D cy A (L ++ [q]) (x_nw h) H') (hS : va_S A s.heap H' locs') (ho : ∀ v ∈ st, x_okv h.1 v) (h1 : 1 ≤ b.1) (h2 : n ≤ b.2) : x_St s D cy A bs y CC SS (L ++ [q]) (x_nw h) H' locs' ls als (.inr h.1 :: st) (b.1 - 1, b.2 - n) (cells + 1) (slots + n) := by
  refine ⟨V, hS, x_lr_ext S.1.1 ⟨[q], rfl⟩ S.2.2.2.1 S.2.2.1, fun v hv => x_okv_up (S.2.2.2.1 v hv), x_cons (show h.1 < h.1 + 1 by omega) (fun v hv => x_okv_up (ho v hv)), ?_, ?_⟩
  · have := S.2.2.2.2.2.1
    show cells + 1 + (b.1 - 1) = CC
    omega
  · have := S.2.2.2.2.2.2
    show slots + n + (b.2 - n) = SS
    omega
theorem x_conc_nw {bs : Nat} {L : List Nat} {z : Int} {q : Nat} (hz : (L.length : Int) = z) : x_conc bs (L ++ [q]) (.inr z) = .ref q := by
  rw [x_ref (by omega), ← hz]
  simp [List.getD_eq_getElem?_getD]
def x_df (c : Nat) : List Value := (List.range (xnsl c)).map (fun j => if xrf c j = true then .null else .int 0)

theorem x_s35 (F : x_Fr p R s m args meth c D cy A y) (C : x_Ck y k 35 a t u pc) (S : x_St s D cy A bs y CC SS L h H locs ls als ast b cells slots) (hCS : CC ≤ R.cells ∧ SS ≤ R.slots) (hst : x_stp (35, a, t, u, pc) k als ast b h = some c') (kk : x_K p l e R s m args below meth c Q D cy A bs y CC SS L c') : W p l e R s m args below meth c H locs cells slots Q (F0 m pc ls (ast.map (x_conc bs L))) := by
  have hs : (if x_kd h.1 = t ∧ t < 8 ∧ 1 ≤ b.1 ∧ xnsl t ≤ b.2 then some (k + 1, als, .inr h.1 :: ast, (b.1 - 1, b.2 - xnsl t), x_nw h) else none) = some c' := hst
  split at hs
  rotate_left
  · cases hs
  rename_i hg
  cases hs
  obtain ⟨hkd, ht8, hb1, hb2⟩ := hg
  have C : (match xcl[u]? with
      | some (pl, o, ix, cn) => decide (o = (x_nm y).cls) && decide (t < 8) && decide (cn = (x_q t).1) && x_D ((x_by y).data.toList.drop pc) pc (x_pc y (k + 1)) (.new ix) 3
      | none => false) = true := C
  cases hq : xcl[u]? with
  | none => rw [hq] at C; cases C
  | some q =>
    obtain ⟨pl, o, ix, cn⟩ := q
    rw [hq] at C
    simp only [Bool.and_eq_true, decide_eq_true_eq] at C
    obtain ⟨⟨⟨rfl, -⟩, rfl⟩, hD⟩ := C
    obtain ⟨hd, hp⟩ := x_D_ok hD
    obtain ⟨hy, hx, hb, hml, hown, hts, hinit, hK, hAO, hfr, hlo, hA⟩ := F
    have hts2 : ∀ w ∈ lw_tbl.filter goodWord, w.before args s = true := fun w hw => hts w (List.mem_filter.mp hw).1 (List.mem_filter.mp hw).2
    obtain ⟨V, hS, -⟩ := id S
    have hw : x_wd pl (.classLink (x_nm y).cls ix (x_q t).1) = true := List.all_eq_true.mp x_clok _ (List.mem_of_getElem? hq)
    have hio := List.all_eq_true.mp x_inok t (List.mem_range.mpr ht8)
    simp only [Bool.and_eq_true] at hio
    obtain ⟨q1, q2, q3, q4⟩ := x_cls ht8
    have hcs := S.2.2.2.2.2
    refine va_new hx hb hts2 (fun w hw => List.mem_filter.mpr (q2 w hw)) (x_ty t) q3 hown (hts _ (x_wd_ok hw) rfl) (hts _ (x_wd_ok hio.1) rfl) (hts _ (x_wd_ok hio.2) rfl) hK V.2.2.2.1 V.2.2.2.2 hS hA q1 (fs := x_df t) ?_ (by omega) (by omega) hd fun q H1 g1 g2 g3 => ?_
    · intro j hj
      have hti := x_tyI ht8 hj
      have e1 : vp_V (x_df t) j = if xrf t j = true then .null else .int 0 := by
        unfold vp_V x_df
        rw [List.getD_eq_getElem?_getD, List.getElem?_map, List.getElem?_range hj]
        rfl
      rw [e1]
      by_cases r : xrf t j = true
      · rw [if_pos r] at hti ⊢
        rcases hti with ⟨n, hti⟩ | ⟨n, hti⟩ <;> rw [hti] <;> rfl
      · rw [if_neg r] at hti ⊢
        by_cases r2 : ((x_q t).2.1 j).2.2.1 = "I"
        · rw [if_pos r2] at hti
          rw [hti]; rfl
        · rw [if_neg r2] at hti
          rw [hti]; rfl
    · have he : x_ent cy (L ++ [q]) (x_nw h) h.1 = .inr (t, x_df t) := by
        rw [x_ent_obj hkd ht8]
        congr 2
        unfold x_fs x_df
        apply List.map_congr_left
        intro j hj
        unfold x_fv x_nw
        simp only [x_clr_at]
        split
        · rfl
        · rfl
      have K := kk (L ++ [q]) H1 locs ls (cells + 1) (slots + xnsl t) ⟨[q], rfl⟩ (S.nw (V.nw he g1 g2) g3 S.2.2.2.2.1 hb1 hb2)
      refine W.eq ?_ K
      show F0 m (pc + 3) ls _ = F0 m (x_pc y (k + 1)) ls (x_conc bs (L ++ [q]) (.inr h.1) :: ast.map (x_conc bs (L ++ [q])))
      rw [hp, x_conc_nw V.1, x_map_ext V.1 ⟨[q], rfl⟩ S.2.2.2.2.1]

theorem x_s36 (F : x_Fr p R s m args meth c D cy A y) (C : x_Ck y k 36 a t u pc) (S : x_St s D cy A bs y CC SS L h H locs ls als ast b cells slots) (hCS : CC ≤ R.cells ∧ SS ≤ R.slots) (hst : x_stp (36, a, t, u, pc) k als ast b h = some c') (kk : x_K p l e R s m args below meth c Q D cy A bs y CC SS L c') : W p l e R s m args below meth c H locs cells slots Q (F0 m pc ls (ast.map (x_conc bs L))) := by
  have C : x_D ((x_by y).data.toList.drop pc) pc (x_pc y (k + 1)) (.newarray .int) 2 = true := C
  have hs : (match (generalizing := false) ast with | .inl n :: st => if x_kd h.1 = 8 ∧ x_ln h.1 = n ∧ 0 ≤ n ∧ n ≤ 10000 ∧ 1 ≤ b.1 ∧ n.toNat ≤ b.2 then some (k + 1, als, .inr h.1 :: st, (b.1 - 1, b.2 - n.toNat), x_nw h) else none | _ => none) = some c' := hst
  split at hs
  rotate_left
  · cases hs
  rename_i n st
  split at hs
  rotate_left
  · cases hs
  rename_i hg
  cases hs
  obtain ⟨hkd, hln, hn0, hn1, hb1, hb2⟩ := hg
  obtain ⟨hy, hx, hb, hml, hown, hts, hinit, hK, hAO, hfr, hlo, hA⟩ := F
  have hts2 : ∀ w ∈ lw_tbl.filter goodWord, w.before args s = true := fun w hw => hts w (List.mem_filter.mp hw).1 (List.mem_filter.mp hw).2
  obtain ⟨V, hS, -⟩ := id S
  obtain ⟨hd, hp⟩ := x_D_ok C
  have ho := S.2.2.2.2.1
  have on : x_in32 n := x_hd ho
  have hcs := S.2.2.2.2.2
  have J := x_jdk
  simp only [Bool.and_eq_true] at J
  have hW := fun (n : Nat) (w : Cond) (hn : x_wd n w = true) (hg : goodWord w = true) => hts w (x_wd_ok hn) hg
  show W p l e R s m args below meth c H locs cells slots Q (F0 m pc ls (.int (Int32.ofInt n) :: st.map (x_conc bs L)))
  refine va_newa (atype := .int) (ty := .int) hx hb (hW xp_ai _ J.1.2 rfl) rfl hK V.2.2.2.1 V.2.2.2.2 hS hA (N' := n.toNat) (a0 := (n.toNat, .inl (fun _ => 0))) (fun cA => rfl) (by rw [← x_of0, x_lt on x_zero]; omega) (x_clamp on) (by simp [componentBytes]; omega) (by omega) (by omega) hd fun q cA H1 g0 g1 g2 g3 => ?_
  have ecA : cA = cy 8 := by
    have a1 := (g0.2 6 (cA, .int) rfl).2
    have a2 := (hK.2 0 (cy 8, .int) rfl).2
    exact Option.some.inj ((show s.vm.findClass _ = some cA from a1).symm.trans (show s.vm.findClass _ = some (cy 8) from a2))
  subst ecA
  have he : x_ent cy (L ++ [q]) (x_nw h) h.1 = .inl (cy 8, n.toNat, .inl (fun _ => 0)) := by
    rw [x_ent_int hkd (by decide) (by decide), hln]
    congr 4
    funext i
    show Int32.ofInt (x_clr h.2.2 h.1 0 h.1 i) = _
    rw [x_clr_at]
    rfl
  have K := kk (L ++ [q]) H1 locs ls (cells + 1) (slots + n.toNat) ⟨[q], rfl⟩ (S.nw (V.nw he g1 g2) g3 (x_tls ho) hb1 hb2)
  refine W.eq ?_ K
  show F0 m (pc + 2) ls _ = F0 m (x_pc y (k + 1)) ls (x_conc bs (L ++ [q]) (.inr h.1) :: st.map (x_conc bs (L ++ [q])))
  rw [hp, x_conc_nw V.1, x_map_ext V.1 ⟨[q], rfl⟩ (x_tls ho)]

theorem x_s37 (F : x_Fr p R s m args meth c D cy A y) (C : x_Ck y k 37 a t u pc) (S : x_St s D cy A bs y CC SS L h H locs ls als ast b cells slots) (hCS : CC ≤ R.cells ∧ SS ≤ R.slots) (hst : x_stp (37, a, t, u, pc) k als ast b h = some c') (kk : x_K p l e R s m args below meth c Q D cy A bs y CC SS L c') : W p l e R s m args below meth c H locs cells slots Q (F0 m pc ls (ast.map (x_conc bs L))) := by
  have C : x_D ((x_by y).data.toList.drop pc) pc (x_pc y (k + 1)) (.newarray .boolean) 2 = true := C
  have hs : (match (generalizing := false) ast with | .inl n :: st => if x_kd h.1 = 9 ∧ x_ln h.1 = n ∧ 0 ≤ n ∧ n ≤ 10000 ∧ 1 ≤ b.1 ∧ n.toNat ≤ b.2 then some (k + 1, als, .inr h.1 :: st, (b.1 - 1, b.2 - n.toNat), x_nw h) else none | _ => none) = some c' := hst
  split at hs
  rotate_left
  · cases hs
  rename_i n st
  split at hs
  rotate_left
  · cases hs
  rename_i hg
  cases hs
  obtain ⟨hkd, hln, hn0, hn1, hb1, hb2⟩ := hg
  obtain ⟨hy, hx, hb, hml, hown, hts, hinit, hK, hAO, hfr, hlo, hA⟩ := F
  have hts2 : ∀ w ∈ lw_tbl.filter goodWord, w.before args s = true := fun w hw => hts w (List.mem_filter.mp hw).1 (List.mem_filter.mp hw).2
  obtain ⟨V, hS, -⟩ := id S
  obtain ⟨hd, hp⟩ := x_D_ok C
  have ho := S.2.2.2.2.1
  have on : x_in32 n := x_hd ho
  have hcs := S.2.2.2.2.2
  have J := x_jdk
  simp only [Bool.and_eq_true] at J
  have hW := fun (n : Nat) (w : Cond) (hn : x_wd n w = true) (hg : goodWord w = true) => hts w (x_wd_ok hn) hg
  show W p l e R s m args below meth c H locs cells slots Q (F0 m pc ls (.int (Int32.ofInt n) :: st.map (x_conc bs L)))
  refine va_newa (atype := .boolean) (ty := .boolean) hx hb (hW xp_ab _ J.2 rfl) rfl hK V.2.2.2.1 V.2.2.2.2 hS hA (N' := n.toNat) (a0 := (n.toNat, .inl (fun _ => 0))) (fun cA => rfl) (by rw [← x_of0, x_lt on x_zero]; omega) (x_clamp on) (by simp [componentBytes]; omega) (by omega) (by omega) hd fun q cA H1 g0 g1 g2 g3 => ?_
  have ecA : cA = cy 9 := by
    have a1 := (g0.2 6 (cA, .boolean) rfl).2
    have a2 := (hK.2 1 (cy 9, .boolean) rfl).2
    exact Option.some.inj ((show s.vm.findClass _ = some cA from a1).symm.trans (show s.vm.findClass _ = some (cy 9) from a2))
  subst ecA
  have he : x_ent cy (L ++ [q]) (x_nw h) h.1 = .inl (cy 9, n.toNat, .inl (fun _ => 0)) := by
    rw [x_ent_int hkd (by decide) (by decide), hln]
    congr 4
    funext i
    show Int32.ofInt (x_clr h.2.2 h.1 0 h.1 i) = _
    rw [x_clr_at]
    rfl
  have K := kk (L ++ [q]) H1 locs ls (cells + 1) (slots + n.toNat) ⟨[q], rfl⟩ (S.nw (V.nw he g1 g2) g3 (x_tls ho) hb1 hb2)
  refine W.eq ?_ K
  show F0 m (pc + 2) ls _ = F0 m (x_pc y (k + 1)) ls (x_conc bs (L ++ [q]) (.inr h.1) :: st.map (x_conc bs (L ++ [q])))
  rw [hp, x_conc_nw V.1, x_map_ext V.1 ⟨[q], rfl⟩ (x_tls ho)]

theorem x_s38 (F : x_Fr p R s m args meth c D cy A y) (C : x_Ck y k 38 a t u pc) (S : x_St s D cy A bs y CC SS L h H locs ls als ast b cells slots) (hCS : CC ≤ R.cells ∧ SS ≤ R.slots) (hst : x_stp (38, a, t, u, pc) k als ast b h = some c') (kk : x_K p l e R s m args below meth c Q D cy A bs y CC SS L c') : W p l e R s m args below meth c H locs cells slots Q (F0 m pc ls (ast.map (x_conc bs L))) := by
  have hs : (match (generalizing := false) ast with | .inl n :: st => if x_kd h.1 = t ∧ 10 ≤ t ∧ t < 14 ∧ x_ln h.1 = n ∧ 0 ≤ n ∧ n ≤ 10000 ∧ 1 ≤ b.1 ∧ n.toNat ≤ b.2 then some (k + 1, als, .inr h.1 :: st, (b.1 - 1, b.2 - n.toNat), x_nw h) else none | _ => none) = some c' := hst
  split at hs
  rotate_left
  · cases hs
  rename_i n st
  split at hs
  rotate_left
  · cases hs
  rename_i hg
  cases hs
  obtain ⟨hkd, ht1, ht2, hln, hn0, hn1, hb1, hb2⟩ := hg
  have C : (match xcl[u]? with
      | some (pl, o, ix, cn) => decide (o = (x_nm y).cls) && decide (10 ≤ t) && decide (t < 14) && decide (cn = ["WheelStands$Cart", "WheelStands$Stand", "WheelStands$Town", "WheelStands$Wheel"].getD (t - 10) "") && x_D ((x_by y).data.toList.drop pc) pc (x_pc y (k + 1)) (.anewarray ix) 3
      | none => false) = true := C
  cases hq : xcl[u]? with
  | none => rw [hq] at C; cases C
  | some q =>
    obtain ⟨pl, o, ix, cn⟩ := q
    rw [hq] at C
    simp only [Bool.and_eq_true, decide_eq_true_eq] at C
    obtain ⟨⟨⟨⟨rfl, -⟩, -⟩, hcn⟩, hD⟩ := C
    obtain ⟨hd, hp⟩ := x_D_ok hD
    obtain ⟨hy, hx, hb, hml, hown, hts, hinit, hK, hAO, hfr, hlo, hA⟩ := F
    have hts2 : ∀ w ∈ lw_tbl.filter goodWord, w.before args s = true := fun w hw => hts w (List.mem_filter.mp hw).1 (List.mem_filter.mp hw).2
    obtain ⟨V, hS, -⟩ := id S
    have hw : x_wd pl (.classLink (x_nm y).cls ix cn) = true := List.all_eq_true.mp x_clok _ (List.mem_of_getElem? hq)
    obtain ⟨t1, -, -, t4⟩ := x_tysR (cy := cy) ht1 ht2
    rw [← hcn] at t1 t4
    have ho := S.2.2.2.2.1
    have on : x_in32 n := x_hd ho
    have hcs := S.2.2.2.2.2
    show W p l e R s m args below meth c H locs cells slots Q (F0 m pc ls (.int (Int32.ofInt n) :: st.map (x_conc bs L)))
    refine va_newq hx hb hown (hts _ (x_wd_ok hw) rfl) (hAO cn t4) hK V.2.2.2.1 V.2.2.2.2 hS hA (N' := n.toNat) (by rw [← x_of0, x_lt on x_zero]; omega) (x_clamp on) (by omega) (by omega) (by omega) hd fun q cA H1 g0 g1 g2 g3 => ?_
    have ecA : cA = cy t := by
      obtain ⟨_, _, _, _, _, a1⟩ := (g0.2 6 (cA, .object cn) rfl).2
      obtain ⟨_, _, _, _, _, a2⟩ := (hK.2 (t - 8) (cy t, .object cn) t1).2
      exact Option.some.inj (a1.symm.trans a2)
    subst ecA
    have he : x_ent cy (L ++ [q]) (x_nw h) h.1 = .inl (cy t, n.toNat, .inr (.inr (.inr (.inr (fun _ => none))))) := by
      rw [x_ent_ref hkd (by omega), hln]
      congr 7
      funext i
      show x_rf _ (x_clr h.2.1 h.1 (-1) h.1 i) = _
      rw [x_clr_at]
      rfl
    have K := kk (L ++ [q]) H1 locs ls (cells + 1) (slots + n.toNat) ⟨[q], rfl⟩ (S.nw (V.nw he g1 g2) g3 (x_tls ho) hb1 hb2)
    refine W.eq ?_ K
    show F0 m (pc + 3) ls _ = F0 m (x_pc y (k + 1)) ls (x_conc bs (L ++ [q]) (.inr h.1) :: st.map (x_conc bs (L ++ [q])))
    rw [hp, x_conc_nw V.1, x_map_ext V.1 ⟨[q], rfl⟩ (x_tls ho)]

theorem x_s46 (F : x_Fr p R s m args meth c D cy A y) (C : x_Ck y k 46 a t u pc) (S : x_St s D cy A bs y CC SS L h H locs ls als ast b cells slots) (hst : x_stp (46, a, t, u, pc) k als ast b h = some c') (kk : x_K p l e R s m args below meth c Q D cy A bs y CC SS L c') : W p l e R s m args below meth c H locs cells slots Q (F0 m pc ls (ast.map (x_conc bs L))) := by
  have C : (x_wd u (.methodLink (x_nm y).cls t arraycopyName) && x_D ((x_by y).data.toList.drop pc) pc (x_pc y (k + 1)) (.invokestatic t) 3 && decide (1 ≤ x_dp y) && decide (40 ≤ x_lc y)) = true := C
  simp only [Bool.and_eq_true, decide_eq_true_eq] at C
  obtain ⟨⟨⟨Cw, C⟩, r1⟩, r2⟩ := C
  have hs : (match (generalizing := false) ast with | .inl n :: .inl dp :: .inr a :: .inl sp :: .inr a0 :: st => if x_ok h.1 a 8 ∧ x_ok h.1 a0 8 ∧ 0 ≤ sp ∧ 0 ≤ dp ∧ 0 ≤ n ∧ sp + n ≤ x_ln a0 ∧ dp + n ≤ x_ln a ∧ st.length ≤ 8 then some (k + 1, als, st, b, (h.1, h.2.1, x_cp h.2.2 a0 sp a dp n)) else none | _ => none) = some c' := hst
  split at hs
  rotate_left
  · cases hs
  rename_i n dp r sp r0 st
  split at hs
  rotate_left
  · cases hs
  rename_i hg
  cases hs
  obtain ⟨hy, hx, hb, hml, hown, hts, hinit, hK, hAO, hfr, hlo, hA⟩ := F
  have hts2 : ∀ w ∈ lw_tbl.filter goodWord, w.before args s = true := fun w hw => hts w (List.mem_filter.mp hw).1 (List.mem_filter.mp hw).2
  obtain ⟨V, hS, -⟩ := id S
  obtain ⟨hk, hk0, hsp, hdp, hn, hs0, hs1, h8⟩ := hg
  obtain ⟨h0, h1, hkd⟩ := x_ok_ok hk
  obtain ⟨h00, h01, hkd0⟩ := x_ok_ok hk0
  obtain ⟨hd, hp⟩ := x_D_ok C
  have hl : r < L.length := by rw [V.1]; exact h1
  have hl0 : r0 < L.length := by rw [V.1]; exact h01
  have ho := S.2.2.2.2.1
  have on : x_in32 n := x_hd ho
  have od : x_in32 dp := x_hd (x_tls ho)
  have os : x_in32 sp := x_hd (x_tls (x_tls (x_tls ho)))
  have J := x_jdk
  simp only [Bool.and_eq_true] at J
  have hW := fun (n : Nat) (w : Cond) (hn : x_wd n w = true) (hg : goodWord w = true) => hts w (x_wd_ok hn) hg
  have he : x_ent cy L (h.1, h.2.1, x_cp h.2.2 r0 sp r dp n) r = .inl (cy 8, (x_ln r).toNat, .inl (va_cpy (fun i => Int32.ofInt (h.2.2 r0 i)) (fun i => Int32.ofInt (h.2.2 r i)) (Int32.ofInt sp).toNatClampNeg (Int32.ofInt dp).toNatClampNeg (Int32.ofInt n).toNatClampNeg)) := by
    rw [x_ent_int hkd (by decide) (by decide)]
    congr 4
    funext i
    rw [x_clamp on, x_clamp od, x_clamp os]
    show Int32.ofInt (x_cp h.2.2 r0 sp r dp n r i) = _
    unfold va_cpy x_cp
    by_cases q : dp.toNat ≤ i ∧ i < dp.toNat + n.toNat
    · rw [if_pos q, if_pos ⟨rfl, by omega, by omega⟩]
      have e : sp + ((i : Int) - dp) = ((sp.toNat + (i - dp.toNat) : Nat) : Int) := by omega
      rw [e]
    · rw [if_neg q, if_neg (fun z => q (by omega))]
  show W p l e R s m args below meth c H locs cells slots Q (F0 m pc ls (.int (Int32.ofInt n) :: .int (Int32.ofInt dp) :: x_conc bs L (.inr r) :: .int (Int32.ofInt sp) :: x_conc bs L (.inr r0) :: st.map (x_conc bs L)))
  rw [x_ref h0, x_ref h00]
  refine va_copyi hx hb (by rw [hml, S.2.2.1.1]) hown (hW u _ Cw rfl) (hW xp_an _ (by simp [J]) rfl) (hW xp_as _ (by simp [J]) rfl) (hW xp_si _ (by simp [J]) rfl) hK V.2.2.2.1 V.2.2.2.2 hS r0.toNat r.toNat 0 0 ((x_ws_get h00 hl0).trans (by rw [x_ent_int hkd0 (by decide) (by decide)])) ((x_ws_get h0 hl).trans (by rw [x_ent_int hkd (by decide) (by decide)])) rfl rfl rfl (by rw [← x_of0, x_lt os x_zero]; omega) (by rw [← x_of0, x_lt od x_zero]; omega) (by rw [← x_of0, x_lt on x_zero]; omega) (by rw [x_clamp on, x_clamp os]; omega) (by rw [x_clamp on, x_clamp od]; omega) (fun i hi => rfl) (by omega) ?_ hd fun H1 locs1 g1 g2 g3 => ?_
  · rw [x_sum]
    have : nativeFrameWords "java/lang/System" "arraycopy" 5 = 7 := by decide +kernel
    omega
  · have V2 : x_Vw D cy A L (h.1, h.2.1, x_cp h.2.2 r0 sp r dp n) H1 := by
      rw [x_ws_set (h := h) (h' := (h.1, h.2.1, x_cp h.2.2 r0 sp r dp n)) h0 hl he (fun q hq => x_ent_cg (fun i => by show x_cp h.2.2 r0 sp r dp n q i = _; unfold x_cp; rw [if_neg (fun z => hq z.1)]) (fun i => rfl))] at g1 g2
      refine ⟨V.1, fun a k => ?_, V.2.2.1, g1, g2⟩
      show x_in32 (x_cp h.2.2 r0 sp r dp n a k)
      unfold x_cp
      split
      · exact V.2.1 _ _
      · exact V.2.1 a k
    have K := kk L H1 locs1 ls cells slots (x_ext_rf L) (S.hp rfl V2 g3 (x_tls (x_tls (x_tls (x_tls (x_tls ho))))))
    exact W.eq (by show F0 m (pc + 3) ls _ = F0 m (x_pc y (k + 1)) ls _; rw [hp]) K

end
end
section
/-! the script stays -/
section
variable {a : Int} {t u pc k : Nat} {als ast : List xV} {b : xB} {h : xH} {c' : xC}
theorem x_scr0 (hz : 0 ≤ h.1) (hst : x_stp (0, a, t, u, pc) k als ast b h = some c') : 0 ≤ c'.2.2.2.2.1 ∧ ∀ j, c'.2.2.2.2.2.2 (-2) j = h.2.2 (-2) j := by
  have hs : (some (k + 1, als, .inl a :: ast, b, h)) = some c' := hst
  cases hs
  exact ⟨hz, fun j => rfl⟩
theorem x_scr1 (hz : 0 ≤ h.1) (hst : x_stp (1, a, t, u, pc) k als ast b h = some c') : 0 ≤ c'.2.2.2.2.1 ∧ ∀ j, c'.2.2.2.2.2.2 (-2) j = h.2.2 (-2) j := by
  have hs : ((match (generalizing := false) als[t]? with | some (.inl v) => some (k + 1, als, .inl v :: ast, b, h) | _ => none)) = some c' := hst
  repeat' split at hs
  all_goals first | (cases hs; exact ⟨hz, fun j => rfl⟩) | cases hs
theorem x_scr2 (hz : 0 ≤ h.1) (hst : x_stp (2, a, t, u, pc) k als ast b h = some c') : 0 ≤ c'.2.2.2.2.1 ∧ ∀ j, c'.2.2.2.2.2.2 (-2) j = h.2.2 (-2) j := by
  have hs : ((match (generalizing := false) als[t]? with | some (.inr v) => if -2 ≤ v then some (k + 1, als, .inr v :: ast, b, h) else none | _ => none)) = some c' := hst
  repeat' split at hs
  all_goals first | (cases hs; exact ⟨hz, fun j => rfl⟩) | cases hs
theorem x_scr3 (hz : 0 ≤ h.1) (hst : x_stp (3, a, t, u, pc) k als ast b h = some c') : 0 ≤ c'.2.2.2.2.1 ∧ ∀ j, c'.2.2.2.2.2.2 (-2) j = h.2.2 (-2) j := by
  have hs : ((match (generalizing := false) ast with | .inl v :: st => if t < als.length then some (k + 1, als.set t (.inl v), st, b, h) else none | _ => none)) = some c' := hst
  repeat' split at hs
  all_goals first | (cases hs; exact ⟨hz, fun j => rfl⟩) | cases hs
theorem x_scr4 (hz : 0 ≤ h.1) (hst : x_stp (4, a, t, u, pc) k als ast b h = some c') : 0 ≤ c'.2.2.2.2.1 ∧ ∀ j, c'.2.2.2.2.2.2 (-2) j = h.2.2 (-2) j := by
  have hs : ((match (generalizing := false) ast with | .inr v :: st => if t < als.length ∧ -2 ≤ v then some (k + 1, als.set t (.inr v), st, b, h) else none | _ => none)) = some c' := hst
  repeat' split at hs
  all_goals first | (cases hs; exact ⟨hz, fun j => rfl⟩) | cases hs
theorem x_scr5 (hz : 0 ≤ h.1) (hst : x_stp (5, a, t, u, pc) k als ast b h = some c') : 0 ≤ c'.2.2.2.2.1 ∧ ∀ j, c'.2.2.2.2.2.2 (-2) j = h.2.2 (-2) j := by
  have hs : ((match (generalizing := false) als[t]? with | some (.inl v) => some (k + 1, als.set t (.inl (x_w (v + a))), ast, b, h) | _ => none)) = some c' := hst
  repeat' split at hs
  all_goals first | (cases hs; exact ⟨hz, fun j => rfl⟩) | cases hs
theorem x_scr6 (hz : 0 ≤ h.1) (hst : x_stp (6, a, t, u, pc) k als ast b h = some c') : 0 ≤ c'.2.2.2.2.1 ∧ ∀ j, c'.2.2.2.2.2.2 (-2) j = h.2.2 (-2) j := by
  have hs : ((match (generalizing := false) ast with | .inl j :: .inl i :: st => some (k + 1, als, .inl (x_w (i + j)) :: st, b, h) | _ => none)) = some c' := hst
  repeat' split at hs
  all_goals first | (cases hs; exact ⟨hz, fun j => rfl⟩) | cases hs
theorem x_scr7 (hz : 0 ≤ h.1) (hst : x_stp (7, a, t, u, pc) k als ast b h = some c') : 0 ≤ c'.2.2.2.2.1 ∧ ∀ j, c'.2.2.2.2.2.2 (-2) j = h.2.2 (-2) j := by
  have hs : ((match (generalizing := false) ast with | .inl j :: .inl i :: st => some (k + 1, als, .inl (x_w (i - j)) :: st, b, h) | _ => none)) = some c' := hst
  repeat' split at hs
  all_goals first | (cases hs; exact ⟨hz, fun j => rfl⟩) | cases hs
theorem x_scr8 (hz : 0 ≤ h.1) (hst : x_stp (8, a, t, u, pc) k als ast b h = some c') : 0 ≤ c'.2.2.2.2.1 ∧ ∀ j, c'.2.2.2.2.2.2 (-2) j = h.2.2 (-2) j := by
  have hs : ((match (generalizing := false) ast with | .inl j :: .inl i :: st => some (k + 1, als, .inl (x_w (i * j)) :: st, b, h) | _ => none)) = some c' := hst
  repeat' split at hs
  all_goals first | (cases hs; exact ⟨hz, fun j => rfl⟩) | cases hs
theorem x_scr9 (hz : 0 ≤ h.1) (hst : x_stp (9, a, t, u, pc) k als ast b h = some c') : 0 ≤ c'.2.2.2.2.1 ∧ ∀ j, c'.2.2.2.2.2.2 (-2) j = h.2.2 (-2) j := by
  have hs : ((match (generalizing := false) ast with | .inl j :: .inl i :: st => if 0 ≤ i ∧ 0 < j then some (k + 1, als, .inl (i % j) :: st, b, h) else none | _ => none)) = some c' := hst
  repeat' split at hs
  all_goals first | (cases hs; exact ⟨hz, fun j => rfl⟩) | cases hs
theorem x_scr10 (hz : 0 ≤ h.1) (hst : x_stp (10, a, t, u, pc) k als ast b h = some c') : 0 ≤ c'.2.2.2.2.1 ∧ ∀ j, c'.2.2.2.2.2.2 (-2) j = h.2.2 (-2) j := by
  have hs : ((match (generalizing := false) ast with | .inl i :: st => some (k + 1, als, .inl (x_w (-i)) :: st, b, h) | _ => none)) = some c' := hst
  repeat' split at hs
  all_goals first | (cases hs; exact ⟨hz, fun j => rfl⟩) | cases hs
theorem x_scr11 (hz : 0 ≤ h.1) (hst : x_stp (11, a, t, u, pc) k als ast b h = some c') : 0 ≤ c'.2.2.2.2.1 ∧ ∀ j, c'.2.2.2.2.2.2 (-2) j = h.2.2 (-2) j := by
  have hs : ((match (generalizing := false) ast with | .inl j :: .inl i :: st => some (k + 1, als, .inl (Int32.ofInt i &&& Int32.ofInt j).toInt :: st, b, h) | _ => none)) = some c' := hst
  repeat' split at hs
  all_goals first | (cases hs; exact ⟨hz, fun j => rfl⟩) | cases hs
theorem x_scr12 (hz : 0 ≤ h.1) (hst : x_stp (12, a, t, u, pc) k als ast b h = some c') : 0 ≤ c'.2.2.2.2.1 ∧ ∀ j, c'.2.2.2.2.2.2 (-2) j = h.2.2 (-2) j := by
  have hs : ((match (generalizing := false) ast with | .inl j :: .inl i :: st => some (k + 1, als, .inl (Int32.ofInt i ||| Int32.ofInt j).toInt :: st, b, h) | _ => none)) = some c' := hst
  repeat' split at hs
  all_goals first | (cases hs; exact ⟨hz, fun j => rfl⟩) | cases hs
theorem x_scr13 (hz : 0 ≤ h.1) (hst : x_stp (13, a, t, u, pc) k als ast b h = some c') : 0 ≤ c'.2.2.2.2.1 ∧ ∀ j, c'.2.2.2.2.2.2 (-2) j = h.2.2 (-2) j := by
  have hs : ((match (generalizing := false) ast with | .inl j :: .inl i :: st => some (k + 1, als, .inl (Int32.ofInt i <<< (Int32.ofInt j &&& 31)).toInt :: st, b, h) | _ => none)) = some c' := hst
  repeat' split at hs
  all_goals first | (cases hs; exact ⟨hz, fun j => rfl⟩) | cases hs
theorem x_scr14 (hz : 0 ≤ h.1) (hst : x_stp (14, a, t, u, pc) k als ast b h = some c') : 0 ≤ c'.2.2.2.2.1 ∧ ∀ j, c'.2.2.2.2.2.2 (-2) j = h.2.2 (-2) j := by
  have hs : ((match (generalizing := false) ast with | .inl j :: .inl i :: st => some (k + 1, als, .inl (Int32.ofInt i >>> (Int32.ofInt j &&& 31)).toInt :: st, b, h) | _ => none)) = some c' := hst
  repeat' split at hs
  all_goals first | (cases hs; exact ⟨hz, fun j => rfl⟩) | cases hs
theorem x_scr15 (hz : 0 ≤ h.1) (hst : x_stp (15, a, t, u, pc) k als ast b h = some c') : 0 ≤ c'.2.2.2.2.1 ∧ ∀ j, c'.2.2.2.2.2.2 (-2) j = h.2.2 (-2) j := by
  have hs : ((match (generalizing := false) ast with | .inl i :: st => some (if x_cond u i 0 then t else k + 1, als, st, b, h) | _ => none)) = some c' := hst
  repeat' split at hs
  all_goals first | (cases hs; exact ⟨hz, fun j => rfl⟩) | cases hs
theorem x_scr16 (hz : 0 ≤ h.1) (hst : x_stp (16, a, t, u, pc) k als ast b h = some c') : 0 ≤ c'.2.2.2.2.1 ∧ ∀ j, c'.2.2.2.2.2.2 (-2) j = h.2.2 (-2) j := by
  have hs : ((match (generalizing := false) ast with | .inl j :: .inl i :: st => some (if x_cond u i j then t else k + 1, als, st, b, h) | _ => none)) = some c' := hst
  repeat' split at hs
  all_goals first | (cases hs; exact ⟨hz, fun j => rfl⟩) | cases hs
theorem x_scr17 (hz : 0 ≤ h.1) (hst : x_stp (17, a, t, u, pc) k als ast b h = some c') : 0 ≤ c'.2.2.2.2.1 ∧ ∀ j, c'.2.2.2.2.2.2 (-2) j = h.2.2 (-2) j := by
  have hs : (some (t, als, ast, b, h)) = some c' := hst
  cases hs
  exact ⟨hz, fun j => rfl⟩
theorem x_scr18 (hz : 0 ≤ h.1) (hst : x_stp (18, a, t, u, pc) k als ast b h = some c') : 0 ≤ c'.2.2.2.2.1 ∧ ∀ j, c'.2.2.2.2.2.2 (-2) j = h.2.2 (-2) j := by
  have hs : ((match (generalizing := false) ast with | .inr r :: st => if -1 ≤ r then some (if r < 0 then t else k + 1, als, st, b, h) else none | _ => none)) = some c' := hst
  repeat' split at hs
  all_goals first | (cases hs; exact ⟨hz, fun j => rfl⟩) | cases hs
theorem x_scr19 (hz : 0 ≤ h.1) (hst : x_stp (19, a, t, u, pc) k als ast b h = some c') : 0 ≤ c'.2.2.2.2.1 ∧ ∀ j, c'.2.2.2.2.2.2 (-2) j = h.2.2 (-2) j := by
  have hs : ((match (generalizing := false) ast with | .inr r :: st => if -1 ≤ r then some (if r < 0 then k + 1 else t, als, st, b, h) else none | _ => none)) = some c' := hst
  repeat' split at hs
  all_goals first | (cases hs; exact ⟨hz, fun j => rfl⟩) | cases hs
theorem x_scr20 (hz : 0 ≤ h.1) (hst : x_stp (20, a, t, u, pc) k als ast b h = some c') : 0 ≤ c'.2.2.2.2.1 ∧ ∀ j, c'.2.2.2.2.2.2 (-2) j = h.2.2 (-2) j := by
  have hs : (some (k + 1, als, .inr (-1) :: ast, b, h)) = some c' := hst
  cases hs
  exact ⟨hz, fun j => rfl⟩
theorem x_scr21 (hz : 0 ≤ h.1) (hst : x_stp (21, a, t, u, pc) k als ast b h = some c') : 0 ≤ c'.2.2.2.2.1 ∧ ∀ j, c'.2.2.2.2.2.2 (-2) j = h.2.2 (-2) j := by
  have hs : ((match (generalizing := false) ast with | v :: st => some (k + 1, als, v :: v :: st, b, h) | _ => none)) = some c' := hst
  repeat' split at hs
  all_goals first | (cases hs; exact ⟨hz, fun j => rfl⟩) | cases hs
theorem x_scr22 (hz : 0 ≤ h.1) (hst : x_stp (22, a, t, u, pc) k als ast b h = some c') : 0 ≤ c'.2.2.2.2.1 ∧ ∀ j, c'.2.2.2.2.2.2 (-2) j = h.2.2 (-2) j := by
  have hs : ((match (generalizing := false) ast with | _ :: st => some (k + 1, als, st, b, h) | _ => none)) = some c' := hst
  repeat' split at hs
  all_goals first | (cases hs; exact ⟨hz, fun j => rfl⟩) | cases hs
theorem x_scr23 (hz : 0 ≤ h.1) (hst : x_stp (23, a, t, u, pc) k als ast b h = some c') : 0 ≤ c'.2.2.2.2.1 ∧ ∀ j, c'.2.2.2.2.2.2 (-2) j = h.2.2 (-2) j := by
  have hs : ((match (generalizing := false) ast with | v :: w :: st => some (k + 1, als, v :: w :: v :: w :: st, b, h) | _ => none)) = some c' := hst
  repeat' split at hs
  all_goals first | (cases hs; exact ⟨hz, fun j => rfl⟩) | cases hs
theorem x_scr24 (hz : 0 ≤ h.1) (hst : x_stp (24, a, t, u, pc) k als ast b h = some c') : 0 ≤ c'.2.2.2.2.1 ∧ ∀ j, c'.2.2.2.2.2.2 (-2) j = h.2.2 (-2) j := by
  have hs : ((match (generalizing := false) ast with | .inr r :: st => if x_ok h.1 r (t / 16) then some (k + 1, als, .inl (h.2.2 r (t % 16 : Nat)) :: st, b, h) else none | _ => none)) = some c' := hst
  repeat' split at hs
  all_goals first | (cases hs; exact ⟨hz, fun j => rfl⟩) | cases hs
theorem x_scr25 (hz : 0 ≤ h.1) (hst : x_stp (25, a, t, u, pc) k als ast b h = some c') : 0 ≤ c'.2.2.2.2.1 ∧ ∀ j, c'.2.2.2.2.2.2 (-2) j = h.2.2 (-2) j := by
  have hs : ((match (generalizing := false) ast with | .inr r :: st => if x_ok h.1 r (t / 16) then some (k + 1, als, .inr (h.2.1 r (t % 16 : Nat)) :: st, b, h) else none | _ => none)) = some c' := hst
  repeat' split at hs
  all_goals first | (cases hs; exact ⟨hz, fun j => rfl⟩) | cases hs
theorem x_scr26 (hz : 0 ≤ h.1) (hst : x_stp (26, a, t, u, pc) k als ast b h = some c') : 0 ≤ c'.2.2.2.2.1 ∧ ∀ j, c'.2.2.2.2.2.2 (-2) j = h.2.2 (-2) j := by
  have hs : ((match (generalizing := false) ast with | .inl v :: .inr r :: st => if x_ok h.1 r (t / 16) then some (k + 1, als, st, b, (h.1, h.2.1, x_up h.2.2 r (t % 16 : Nat) v)) else none | _ => none)) = some c' := hst
  repeat' split at hs
  all_goals first | (cases hs; rename_i hg; exact ⟨hz, fun j => x_up_ne (by simp only [x_ok, Bool.and_eq_true, decide_eq_true_eq] at hg; omega)⟩) | cases hs
theorem x_scr27 (hz : 0 ≤ h.1) (hst : x_stp (27, a, t, u, pc) k als ast b h = some c') : 0 ≤ c'.2.2.2.2.1 ∧ ∀ j, c'.2.2.2.2.2.2 (-2) j = h.2.2 (-2) j := by
  have hs : ((match (generalizing := false) ast with | .inr v :: .inr r :: st => if x_ok h.1 r (t / 16) ∧ -1 ≤ v then some (k + 1, als, st, b, (h.1, x_up h.2.1 r (t % 16 : Nat) v, h.2.2)) else none | _ => none)) = some c' := hst
  repeat' split at hs
  all_goals first | (cases hs; exact ⟨hz, fun j => rfl⟩) | cases hs
theorem x_scr32 (hz : 0 ≤ h.1) (hst : x_stp (32, a, t, u, pc) k als ast b h = some c') : 0 ≤ c'.2.2.2.2.1 ∧ ∀ j, c'.2.2.2.2.2.2 (-2) j = h.2.2 (-2) j := by
  have hs : ((match (generalizing := false) ast with | .inl v :: .inr r :: st => if x_ok h.1 r (t / 16) ∧ (v = 0 ∨ v = 1) then some (k + 1, als, st, b, (h.1, h.2.1, x_up h.2.2 r (t % 16 : Nat) v)) else none | _ => none)) = some c' := hst
  repeat' split at hs
  all_goals first | (cases hs; rename_i hg; exact ⟨hz, fun j => x_up_ne (by simp only [x_ok, Bool.and_eq_true, decide_eq_true_eq] at hg; omega)⟩) | cases hs
theorem x_scr28 (hz : 0 ≤ h.1) (hst : x_stp (28, a, t, u, pc) k als ast b h = some c') : 0 ≤ c'.2.2.2.2.1 ∧ ∀ j, c'.2.2.2.2.2.2 (-2) j = h.2.2 (-2) j := by
  have hs : ((match (generalizing := false) ast with | .inl j :: .inr r :: st => if x_ok h.1 r 8 ∧ 0 ≤ j ∧ j < x_ln r then some (k + 1, als, .inl (h.2.2 r j) :: st, b, h) else none | _ => none)) = some c' := hst
  repeat' split at hs
  all_goals first | (cases hs; exact ⟨hz, fun j => rfl⟩) | cases hs
theorem x_scr29 (hz : 0 ≤ h.1) (hst : x_stp (29, a, t, u, pc) k als ast b h = some c') : 0 ≤ c'.2.2.2.2.1 ∧ ∀ j, c'.2.2.2.2.2.2 (-2) j = h.2.2 (-2) j := by
  have hs : ((match (generalizing := false) ast with | .inl v :: .inl j :: .inr r :: st => if x_ok h.1 r 8 ∧ 0 ≤ j ∧ j < x_ln r then some (k + 1, als, st, b, (h.1, h.2.1, x_up h.2.2 r j v)) else none | _ => none)) = some c' := hst
  repeat' split at hs
  all_goals first | (cases hs; rename_i hg; exact ⟨hz, fun j => x_up_ne (by simp only [x_ok, Bool.and_eq_true, decide_eq_true_eq] at hg; omega)⟩) | cases hs
theorem x_scr30 (hz : 0 ≤ h.1) (hst : x_stp (30, a, t, u, pc) k als ast b h = some c') : 0 ≤ c'.2.2.2.2.1 ∧ ∀ j, c'.2.2.2.2.2.2 (-2) j = h.2.2 (-2) j := by
  have hs : ((match (generalizing := false) ast with | .inl j :: .inr r :: st => if 0 ≤ r ∧ r < h.1 ∧ 10 ≤ x_kd r ∧ x_kd r < 14 ∧ 0 ≤ j ∧ j < x_ln r then some (k + 1, als, .inr (h.2.1 r j) :: st, b, h) else none | _ => none)) = some c' := hst
  repeat' split at hs
  all_goals first | (cases hs; exact ⟨hz, fun j => rfl⟩) | cases hs
theorem x_scr31 (hz : 0 ≤ h.1) (hst : x_stp (31, a, t, u, pc) k als ast b h = some c') : 0 ≤ c'.2.2.2.2.1 ∧ ∀ j, c'.2.2.2.2.2.2 (-2) j = h.2.2 (-2) j := by
  have hs : ((match (generalizing := false) ast with | .inr v :: .inl j :: .inr r :: st => if 0 ≤ r ∧ r < h.1 ∧ 10 ≤ x_kd r ∧ x_kd r < 14 ∧ 0 ≤ j ∧ j < x_ln r ∧ x_ok h.1 v ([0, 2, 4, 5].getD (x_kd r - 10) 99) then some (k + 1, als, st, b, (h.1, x_up h.2.1 r j v, h.2.2)) else none | _ => none)) = some c' := hst
  repeat' split at hs
  all_goals first | (cases hs; exact ⟨hz, fun j => rfl⟩) | cases hs
theorem x_scr33 (hz : 0 ≤ h.1) (hst : x_stp (33, a, t, u, pc) k als ast b h = some c') : 0 ≤ c'.2.2.2.2.1 ∧ ∀ j, c'.2.2.2.2.2.2 (-2) j = h.2.2 (-2) j := by
  have hs : ((match (generalizing := false) ast with | .inl j :: .inr r :: st => if x_ok h.1 r 9 ∧ 0 ≤ j ∧ j < x_ln r then some (k + 1, als, .inl (h.2.2 r j) :: st, b, h) else none | _ => none)) = some c' := hst
  repeat' split at hs
  all_goals first | (cases hs; exact ⟨hz, fun j => rfl⟩) | cases hs
theorem x_scr34 (hz : 0 ≤ h.1) (hst : x_stp (34, a, t, u, pc) k als ast b h = some c') : 0 ≤ c'.2.2.2.2.1 ∧ ∀ j, c'.2.2.2.2.2.2 (-2) j = h.2.2 (-2) j := by
  have hs : ((match (generalizing := false) ast with | .inl v :: .inl j :: .inr r :: st => if x_ok h.1 r 9 ∧ 0 ≤ j ∧ j < x_ln r ∧ (v = 0 ∨ v = 1) then some (k + 1, als, st, b, (h.1, h.2.1, x_up h.2.2 r j v)) else none | _ => none)) = some c' := hst
  repeat' split at hs
  all_goals first | (cases hs; rename_i hg; exact ⟨hz, fun j => x_up_ne (by simp only [x_ok, Bool.and_eq_true, decide_eq_true_eq] at hg; omega)⟩) | cases hs
theorem x_scr35 (hz : 0 ≤ h.1) (hst : x_stp (35, a, t, u, pc) k als ast b h = some c') : 0 ≤ c'.2.2.2.2.1 ∧ ∀ j, c'.2.2.2.2.2.2 (-2) j = h.2.2 (-2) j := by
  have hs : ((if x_kd h.1 = t ∧ t < 8 ∧ 1 ≤ b.1 ∧ xnsl t ≤ b.2 then some (k + 1, als, .inr h.1 :: ast, (b.1 - 1, b.2 - xnsl t), (h.1 + 1, x_clr h.2.1 h.1 (-1), x_clr h.2.2 h.1 0)) else none)) = some c' := hst
  repeat' split at hs
  all_goals first | (cases hs; exact ⟨by show 0 ≤ h.1 + 1; omega, fun j => if_neg (by omega)⟩) | cases hs
theorem x_scr36 (hz : 0 ≤ h.1) (hst : x_stp (36, a, t, u, pc) k als ast b h = some c') : 0 ≤ c'.2.2.2.2.1 ∧ ∀ j, c'.2.2.2.2.2.2 (-2) j = h.2.2 (-2) j := by
  have hs : ((match (generalizing := false) ast with | .inl n :: st => if x_kd h.1 = 8 ∧ x_ln h.1 = n ∧ 0 ≤ n ∧ n ≤ 10000 ∧ 1 ≤ b.1 ∧ n.toNat ≤ b.2 then some (k + 1, als, .inr h.1 :: st, (b.1 - 1, b.2 - n.toNat), (h.1 + 1, x_clr h.2.1 h.1 (-1), x_clr h.2.2 h.1 0)) else none | _ => none)) = some c' := hst
  repeat' split at hs
  all_goals first | (cases hs; exact ⟨by show 0 ≤ h.1 + 1; omega, fun j => if_neg (by omega)⟩) | cases hs
theorem x_scr37 (hz : 0 ≤ h.1) (hst : x_stp (37, a, t, u, pc) k als ast b h = some c') : 0 ≤ c'.2.2.2.2.1 ∧ ∀ j, c'.2.2.2.2.2.2 (-2) j = h.2.2 (-2) j := by
  have hs : ((match (generalizing := false) ast with | .inl n :: st => if x_kd h.1 = 9 ∧ x_ln h.1 = n ∧ 0 ≤ n ∧ n ≤ 10000 ∧ 1 ≤ b.1 ∧ n.toNat ≤ b.2 then some (k + 1, als, .inr h.1 :: st, (b.1 - 1, b.2 - n.toNat), (h.1 + 1, x_clr h.2.1 h.1 (-1), x_clr h.2.2 h.1 0)) else none | _ => none)) = some c' := hst
  repeat' split at hs
  all_goals first | (cases hs; exact ⟨by show 0 ≤ h.1 + 1; omega, fun j => if_neg (by omega)⟩) | cases hs
theorem x_scr38 (hz : 0 ≤ h.1) (hst : x_stp (38, a, t, u, pc) k als ast b h = some c') : 0 ≤ c'.2.2.2.2.1 ∧ ∀ j, c'.2.2.2.2.2.2 (-2) j = h.2.2 (-2) j := by
  have hs : ((match (generalizing := false) ast with | .inl n :: st => if x_kd h.1 = t ∧ 10 ≤ t ∧ t < 14 ∧ x_ln h.1 = n ∧ 0 ≤ n ∧ n ≤ 10000 ∧ 1 ≤ b.1 ∧ n.toNat ≤ b.2 then some (k + 1, als, .inr h.1 :: st, (b.1 - 1, b.2 - n.toNat), (h.1 + 1, x_clr h.2.1 h.1 (-1), x_clr h.2.2 h.1 0)) else none | _ => none)) = some c' := hst
  repeat' split at hs
  all_goals first | (cases hs; exact ⟨by show 0 ≤ h.1 + 1; omega, fun j => if_neg (by omega)⟩) | cases hs
theorem x_scr43 (hz : 0 ≤ h.1) (hst : x_stp (43, a, t, u, pc) k als ast b h = some c') : 0 ≤ c'.2.2.2.2.1 ∧ ∀ j, c'.2.2.2.2.2.2 (-2) j = h.2.2 (-2) j := by
  have hs : ((match (generalizing := false) ast with | .inr r :: st => if 0 ≤ r ∧ r < h.1 ∧ st.length ≤ 8 then some (k + 1, als, st, b, h) else none | _ => none)) = some c' := hst
  repeat' split at hs
  all_goals first | (cases hs; exact ⟨hz, fun j => rfl⟩) | cases hs
theorem x_scr44 (hz : 0 ≤ h.1) (hst : x_stp (44, a, t, u, pc) k als ast b h = some c') : 0 ≤ c'.2.2.2.2.1 ∧ ∀ j, c'.2.2.2.2.2.2 (-2) j = h.2.2 (-2) j := by
  have hs : ((match (generalizing := false) ast with | .inl j :: .inl i :: st => if st.length ≤ 8 then some (k + 1, als, .inl (max i j) :: st, b, h) else none | _ => none)) = some c' := hst
  repeat' split at hs
  all_goals first | (cases hs; exact ⟨hz, fun j => rfl⟩) | cases hs
theorem x_scr45 (hz : 0 ≤ h.1) (hst : x_stp (45, a, t, u, pc) k als ast b h = some c') : 0 ≤ c'.2.2.2.2.1 ∧ ∀ j, c'.2.2.2.2.2.2 (-2) j = h.2.2 (-2) j := by
  have hs : ((match (generalizing := false) ast with | .inl j :: .inl i :: st => if st.length ≤ 8 then some (k + 1, als, .inl (min i j) :: st, b, h) else none | _ => none)) = some c' := hst
  repeat' split at hs
  all_goals first | (cases hs; exact ⟨hz, fun j => rfl⟩) | cases hs
theorem x_scr46 (hz : 0 ≤ h.1) (hst : x_stp (46, a, t, u, pc) k als ast b h = some c') : 0 ≤ c'.2.2.2.2.1 ∧ ∀ j, c'.2.2.2.2.2.2 (-2) j = h.2.2 (-2) j := by
  have hs : ((match (generalizing := false) ast with | .inl n :: .inl dp :: .inr a :: .inl sp :: .inr a0 :: st => if x_ok h.1 a 8 ∧ x_ok h.1 a0 8 ∧ 0 ≤ sp ∧ 0 ≤ dp ∧ 0 ≤ n ∧ sp + n ≤ x_ln a0 ∧ dp + n ≤ x_ln a ∧ st.length ≤ 8 then some (k + 1, als, st, b, (h.1, h.2.1, x_cp h.2.2 a0 sp a dp n)) else none | _ => none)) = some c' := hst
  repeat' split at hs
  all_goals first | (cases hs; rename_i hg; simp only [x_ok, Bool.and_eq_true, decide_eq_true_eq] at hg; exact ⟨hz, fun j => if_neg (by omega)⟩) | cases hs
theorem x_scr47 (hz : 0 ≤ h.1) (hst : x_stp (47, a, t, u, pc) k als ast b h = some c') : 0 ≤ c'.2.2.2.2.1 ∧ ∀ j, c'.2.2.2.2.2.2 (-2) j = h.2.2 (-2) j := by
  have hs : ((match (generalizing := false) ast with | .inl i :: st => some (x_swt u i, als, st, b, h) | _ => none)) = some c' := hst
  repeat' split at hs
  all_goals first | (cases hs; exact ⟨hz, fun j => rfl⟩) | cases hs
theorem x_scr54 (hz : 0 ≤ h.1) (hst : x_stp (54, a, t, u, pc) k als ast b h = some c') : 0 ≤ c'.2.2.2.2.1 ∧ ∀ j, c'.2.2.2.2.2.2 (-2) j = h.2.2 (-2) j := by
  have hs : ((match (generalizing := false) ast with | .inl j :: .inr r :: st => if r = -2 ∧ 0 ≤ j ∧ j < h.2.2 (-2) (-1) then some (k + 1, als, .inl (h.2.2 (-2) j) :: st, b, h) else none | _ => none)) = some c' := hst
  repeat' split at hs
  all_goals first | (cases hs; exact ⟨hz, fun j => rfl⟩) | cases hs
theorem x_scr55 (hz : 0 ≤ h.1) (hst : x_stp (55, a, t, u, pc) k als ast b h = some c') : 0 ≤ c'.2.2.2.2.1 ∧ ∀ j, c'.2.2.2.2.2.2 (-2) j = h.2.2 (-2) j := by
  have hs : ((match (generalizing := false) ast with | .inr r :: st => if r = -2 then some (k + 1, als, .inl (h.2.2 (-2) (-1)) :: st, b, h) else none | _ => none)) = some c' := hst
  repeat' split at hs
  all_goals first | (cases hs; exact ⟨hz, fun j => rfl⟩) | cases hs
theorem x_scr {y : Nat} {i : xI} (hz : 0 ≤ h.1) (hst : x_stp i k als ast b h = some c') : 0 ≤ c'.2.2.2.2.1 ∧ ∀ j, c'.2.2.2.2.2.2 (-2) j = h.2.2 (-2) j := by
  obtain ⟨op, a, t, u, pc⟩ := i
  by_cases o0 : op = 0
  · subst o0; exact x_scr0 hz hst
  by_cases o1 : op = 1
  · subst o1; exact x_scr1 hz hst
  by_cases o2 : op = 2
  · subst o2; exact x_scr2 hz hst
  by_cases o3 : op = 3
  · subst o3; exact x_scr3 hz hst
  by_cases o4 : op = 4
  · subst o4; exact x_scr4 hz hst
  by_cases o5 : op = 5
  · subst o5; exact x_scr5 hz hst
  by_cases o6 : op = 6
  · subst o6; exact x_scr6 hz hst
  by_cases o7 : op = 7
  · subst o7; exact x_scr7 hz hst
  by_cases o8 : op = 8
  · subst o8; exact x_scr8 hz hst
  by_cases o9 : op = 9
  · subst o9; exact x_scr9 hz hst
  by_cases o10 : op = 10
  · subst o10; exact x_scr10 hz hst
  by_cases o11 : op = 11
  · subst o11; exact x_scr11 hz hst
  by_cases o12 : op = 12
  · subst o12; exact x_scr12 hz hst
  by_cases o13 : op = 13
  · subst o13; exact x_scr13 hz hst
  by_cases o14 : op = 14
  · subst o14; exact x_scr14 hz hst
  by_cases o15 : op = 15
  · subst o15; exact x_scr15 hz hst
  by_cases o16 : op = 16
  · subst o16; exact x_scr16 hz hst
  by_cases o17 : op = 17
  · subst o17; exact x_scr17 hz hst
  by_cases o18 : op = 18
  · subst o18; exact x_scr18 hz hst
  by_cases o19 : op = 19
  · subst o19; exact x_scr19 hz hst
  by_cases o20 : op = 20
  · subst o20; exact x_scr20 hz hst
  by_cases o21 : op = 21
  · subst o21; exact x_scr21 hz hst
  by_cases o22 : op = 22
  · subst o22; exact x_scr22 hz hst
  by_cases o23 : op = 23
  · subst o23; exact x_scr23 hz hst
  by_cases o24 : op = 24
  · subst o24; exact x_scr24 hz hst
  by_cases o25 : op = 25
  · subst o25; exact x_scr25 hz hst
  by_cases o26 : op = 26
  · subst o26; exact x_scr26 hz hst
  by_cases o27 : op = 27
  · subst o27; exact x_scr27 hz hst
  by_cases o32 : op = 32
  · subst o32; exact x_scr32 hz hst
  by_cases o28 : op = 28
  · subst o28; exact x_scr28 hz hst
  by_cases o29 : op = 29
  · subst o29; exact x_scr29 hz hst
  by_cases o30 : op = 30
  · subst o30; exact x_scr30 hz hst
  by_cases o31 : op = 31
  · subst o31; exact x_scr31 hz hst
  by_cases o33 : op = 33
  · subst o33; exact x_scr33 hz hst
  by_cases o34 : op = 34
  · subst o34; exact x_scr34 hz hst
  by_cases o35 : op = 35
  · subst o35; exact x_scr35 hz hst
  by_cases o36 : op = 36
  · subst o36; exact x_scr36 hz hst
  by_cases o37 : op = 37
  · subst o37; exact x_scr37 hz hst
  by_cases o38 : op = 38
  · subst o38; exact x_scr38 hz hst
  by_cases o43 : op = 43
  · subst o43; exact x_scr43 hz hst
  by_cases o44 : op = 44
  · subst o44; exact x_scr44 hz hst
  by_cases o45 : op = 45
  · subst o45; exact x_scr45 hz hst
  by_cases o46 : op = 46
  · subst o46; exact x_scr46 hz hst
  by_cases o47 : op = 47
  · subst o47; exact x_scr47 hz hst
  by_cases o54 : op = 54
  · subst o54; exact x_scr54 hz hst
  by_cases o55 : op = 55
  · subst o55; exact x_scr55 hz hst
  have hst : x_stp (op, a, t, u, pc) k als ast b h = some c' := hst
  simp only [x_stp, if_neg o0, if_neg o1, if_neg o2, if_neg o3, if_neg o4, if_neg o5, if_neg o6, if_neg o7, if_neg o8, if_neg o9, if_neg o10, if_neg o11, if_neg o12, if_neg o13, if_neg o14, if_neg o15, if_neg o16, if_neg o17, if_neg o18, if_neg o19, if_neg o20, if_neg o21, if_neg o22, if_neg o23, if_neg o24, if_neg o25, if_neg o26, if_neg o27, if_neg o32, if_neg o28, if_neg o29, if_neg o30, if_neg o31, if_neg o33, if_neg o34, if_neg o35, if_neg o36, if_neg o37, if_neg o38, if_neg o43, if_neg o44, if_neg o45, if_neg o46, if_neg o47, if_neg o54, if_neg o55] at hst
  cases hst
end
end
section
/-! THE INTERPRETER IS SOUND -/
section
variable {p : Program} {l : Launch} {e : Env} {R : Room} {s : State} {m : MethodId} {args : Array Value} {below : List Frame} {meth : Method} {c : Code} {Q : State → Prop}
variable {D : va_G} {cy : Nat → ClassId} {A : Nat → Prop} {bs y CC SS : Nat} {L : List Nat} {h : xH} {H : Heap} {locs : List Loc} {ls : Array Slot} {als ast : List xV} {b : xB} {cells slots k : Nat}
variable {c' : xC}
theorem x_step (F : x_Fr p R s m args meth c D cy A y) (hk : k < (x_cd y).length) (S : x_St s D cy A bs y CC SS L h H locs ls als ast b cells slots) (hCS : CC ≤ R.cells ∧ SS ≤ R.slots) (hscr : x_rk y = 8 → x_Scr s A bs h) (hst : x_stp (x_in y k) k als ast b h = some c') (kk : x_K p l e R s m args below meth c Q D cy A bs y CC SS L c') : W p l e R s m args below meth c H locs cells slots Q (F0 m (x_pc y k) ls (ast.map (x_conc bs L))) := by
  have C := x_ck F.1 hk
  unfold x_pc at C ⊢
  have hcs : cells ≤ R.cells ∧ slots ≤ R.slots := by
    have := S.2.2.2.2.2
    omega
  revert C hst
  generalize x_in y k = i
  intro hst C
  obtain ⟨op, a, t, u, pc⟩ := i

  by_cases o0 : op = 0
  · subst o0; exact x_s0 F C S hst kk
  by_cases o1 : op = 1
  · subst o1; exact x_s1 F C S hst kk
  by_cases o2 : op = 2
  · subst o2; exact x_s2 F C S hst kk
  by_cases o3 : op = 3
  · subst o3; exact x_s3 F C S hst kk
  by_cases o4 : op = 4
  · subst o4; exact x_s4 F C S hst kk
  by_cases o5 : op = 5
  · subst o5; exact x_s5 F C S hst kk
  by_cases o6 : op = 6
  · subst o6; exact x_s6 F C S hst kk
  by_cases o7 : op = 7
  · subst o7; exact x_s7 F C S hst kk
  by_cases o8 : op = 8
  · subst o8; exact x_s8 F C S hst kk
  by_cases o9 : op = 9
  · subst o9; exact x_s9 F C S hst kk
  by_cases o10 : op = 10
  · subst o10; exact x_s10 F C S hst kk
  by_cases o11 : op = 11
  · subst o11; exact x_s11 F C S hst kk
  by_cases o12 : op = 12
  · subst o12; exact x_s12 F C S hst kk
  by_cases o13 : op = 13
  · subst o13; exact x_s13 F C S hst kk
  by_cases o14 : op = 14
  · subst o14; exact x_s14 F C S hst kk
  by_cases o15 : op = 15
  · subst o15; exact x_s15 F C S hst kk
  by_cases o16 : op = 16
  · subst o16; exact x_s16 F C S hst kk
  by_cases o17 : op = 17
  · subst o17; exact x_s17 F C S hst kk
  by_cases o18 : op = 18
  · subst o18; exact x_s18 F C S hst kk
  by_cases o19 : op = 19
  · subst o19; exact x_s19 F C S hst kk
  by_cases o20 : op = 20
  · subst o20; exact x_s20 F C S hst kk
  by_cases o21 : op = 21
  · subst o21; exact x_s21 F C S hst kk
  by_cases o22 : op = 22
  · subst o22; exact x_s22 F C S hst kk
  by_cases o23 : op = 23
  · subst o23; exact x_s23 F C S hst kk
  by_cases o24 : op = 24
  · subst o24; exact x_s24 F C S hst kk
  by_cases o25 : op = 25
  · subst o25; exact x_s25 F C S hst kk
  by_cases o26 : op = 26
  · subst o26; exact x_s26 F C S hst kk
  by_cases o27 : op = 27
  · subst o27; exact x_s27 F C S hst kk
  by_cases o32 : op = 32
  · subst o32; exact x_s32 F C S hst kk
  by_cases o28 : op = 28
  · subst o28; exact x_s28 F C S hst kk
  by_cases o29 : op = 29
  · subst o29; exact x_s29 F C S hst kk
  by_cases o30 : op = 30
  · subst o30; exact x_s30 F C S hst kk
  by_cases o31 : op = 31
  · subst o31; exact x_s31 F C S hst kk
  by_cases o33 : op = 33
  · subst o33; exact x_s33 F C S hst kk
  by_cases o34 : op = 34
  · subst o34; exact x_s34 F C S hst kk
  by_cases o35 : op = 35
  · subst o35; exact x_s35 F C S hCS hst kk
  by_cases o36 : op = 36
  · subst o36; exact x_s36 F C S hCS hst kk
  by_cases o37 : op = 37
  · subst o37; exact x_s37 F C S hCS hst kk
  by_cases o38 : op = 38
  · subst o38; exact x_s38 F C S hCS hst kk
  by_cases o43 : op = 43
  · subst o43; exact x_s43 F C S hst kk
  by_cases o44 : op = 44
  · subst o44; exact x_s44 F C S hcs hst kk
  by_cases o45 : op = 45
  · subst o45; exact x_s45 F C S hcs hst kk
  by_cases o46 : op = 46
  · subst o46; exact x_s46 F C S hst kk
  by_cases o47 : op = 47
  · subst o47; exact x_s47 F C S hst kk
  by_cases o54 : op = 54
  · subst o54; exact x_s54 F C S hscr hst kk
  by_cases o55 : op = 55
  · subst o55; exact x_s55 F C S hscr hst kk
  have hst : x_stp (op, a, t, u, pc) k als ast b h = some c' := hst
  simp only [x_stp, if_neg o0, if_neg o1, if_neg o2, if_neg o3, if_neg o4, if_neg o5, if_neg o6, if_neg o7, if_neg o8, if_neg o9, if_neg o10, if_neg o11, if_neg o12, if_neg o13, if_neg o14, if_neg o15, if_neg o16, if_neg o17, if_neg o18, if_neg o19, if_neg o20, if_neg o21, if_neg o22, if_neg o23, if_neg o24, if_neg o25, if_neg o26, if_neg o27, if_neg o32, if_neg o28, if_neg o29, if_neg o30, if_neg o31, if_neg o33, if_neg o34, if_neg o35, if_neg o36, if_neg o37, if_neg o38, if_neg o43, if_neg o44, if_neg o45, if_neg o46, if_neg o47, if_neg o54, if_neg o55] at hst
  cases hst
/-- a method's words, its room, its start and its end -/
noncomputable def x_wst (t : Nat) : List Cond := .code (x_nm t) (x_by t) (x_ml t) (x_rty (x_rt t)) :: lw_tbl.filter goodWord
noncomputable def x_rm (t : Nat) : Room := { frames := x_dp t, cells := x_mc t, slots := x_ms t, locals := x_lc t }
def x_Pb (D : va_G) (cy : Nat → ClassId) (A : Nat → Prop) (L : List Nat) (h : xH) (U : State) : Prop := (∀ q : Nat, U.heap.size ≤ q → A q) ∧ x_Vw D cy A L h U.heap ∧ va_K D vwCl (x_tys cy) U ∧ ∀ C ∈ x_aos, va_AO C U
def x_Qc (D : va_G) (cy : Nat → ClassId) (A : Nat → Prop) (bs : Nat) (L : List Nat) (v : Option xV) (h : xH) : Array Value → State → Outcome → State → Prop := fun _ st o t => (∃ L' : List Nat, x_ext L L' ∧ o = .returned (v.map (x_conc bs L')) ∧ x_Vw D cy A L' h t.heap ∧ ∀ w ∈ v, x_okv h.1 w) ∧ va_F A st t
/-- what stands at a return -/
def x_Re (y k : Nat) (st : List xV) (v : Option xV) (h : xH) : Prop := k < (x_cd y).length ∧ 50 ≤ (x_in y k).1 ∧ (x_in y k).1 ≤ 53 ∧ x_ret (x_in y k).1 st = some v ∧ ∀ w ∈ st, x_okv h.1 w
theorem x_in_lt {y k : Nat} (h : (x_in y k).1 ≠ 63) : k < (x_cd y).length := by
  apply Classical.byContradiction
  intro q
  apply h
  unfold x_in
  rw [List.getD_eq_getElem?_getD, List.getElem?_eq_none (by omega)]
  rfl
theorem x_stp63 {i : xI} (hi : i.1 = 63) : x_stp i k als ast b h = none := by
  obtain ⟨op, a, t, u, pc⟩ := i
  subst hi
  rfl
theorem x_ckm_of {t : Nat} (ht : t < 181) : (x_nm t).cls = (x_q (x_rk t)).1 ∧ x_rk t < 8 ∧ x_rt t < 6 ∧ plainName (x_nm t).cls = true ∧ ((x_nm t).cls ≠ "java/lang/invoke/MethodHandle" ∧ (x_nm t).cls ≠ "java/lang/invoke/VarHandle") ∧ .code (x_nm t) (x_by t) (x_ml t) (x_rty (x_rt t)) ∈ lw_tbl ∧ .initialized (x_nm t).cls ∈ lw_tbl ∧ (if x_st t = 1 then .static (x_nm t) ∈ lw_tbl ∧ (parseMethodDescriptor (x_nm t).desc).map (fun d => d.parameters.length) = some (x_np t) else 1 ≤ x_np t ∧ .instanceMethod (x_nm t) ∈ lw_tbl ∧ (parseMethodDescriptor (x_nm t).desc).map (fun d => d.parameters.length) = some (x_np t - 1) ∧ (if x_st t = 2 then (x_nm t).name = "<init>" ∧ x_rt t = 0 else x_st t = 0 ∧ .selects (x_nm t).cls (x_nm t) (x_nm t) ∈ lw_tbl)) := by
  have C := x_ckm_ok ht
  unfold x_nm x_rk x_rt x_by x_ml x_st x_np x_bw
  revert C
  generalize x_mi t = me
  intro C
  obtain ⟨nm, ml, rt, ⟨dp, lc, mc, ms⟩, ⟨np, st, rk⟩, ⟨pc, ps, psel, pin⟩, cd⟩ := me
  unfold x_ckm at C
  simp only [Bool.and_eq_true, decide_eq_true_eq] at C
  obtain ⟨⟨⟨⟨⟨⟨⟨⟨C1, C2⟩, C3⟩, C4⟩, C5⟩, C6⟩, C7⟩, C8⟩, C9⟩ := C
  refine ⟨C3, C4, C5, C7, C8, ?_, x_wd_ok C2, ?_⟩
  · show Cond.code nm (if rk = 8 then code else match (x_dr pc).head? with | some (.code _ b _ _) => b | _ => ⟨#[]⟩) ml (x_rty rt) ∈ lw_tbl
    rw [if_neg (by omega)]
    cases hd : (x_dr pc).head? with
    | none => rw [hd] at C1; cases C1
    | some w =>
      rw [hd] at C1
      cases w <;> first | cases C1 | skip
      simp only [Bool.and_eq_true, decide_eq_true_eq] at C1
      obtain ⟨⟨rfl, rfl⟩, rfl⟩ := C1
      rw [x_wdr, List.head?_drop] at hd
      exact List.mem_of_getElem? hd
  · show if st = 1 then Cond.static nm ∈ lw_tbl ∧ (parseMethodDescriptor nm.desc).map (fun d => d.parameters.length) = some np else 1 ≤ np ∧ Cond.instanceMethod nm ∈ lw_tbl ∧ (parseMethodDescriptor nm.desc).map (fun d => d.parameters.length) = some (np - 1) ∧ (if st = 2 then nm.name = "<init>" ∧ rt = 0 else st = 0 ∧ Cond.selects nm.cls nm nm ∈ lw_tbl)
    by_cases q : st = 1
    · rw [if_pos q] at C9 ⊢
      simp only [Bool.and_eq_true, decide_eq_true_eq] at C9
      exact ⟨x_wd_ok C9.1, C9.2⟩
    · rw [if_neg q] at C9 ⊢
      by_cases q2 : st = 2
      · rw [if_pos q2] at C9 ⊢
        simp only [Bool.and_eq_true, decide_eq_true_eq] at C9
        exact ⟨C9.1.1.1, x_wd_ok C9.1.1.2, C9.1.2, C9.2⟩
      · rw [if_neg q2] at C9 ⊢
        simp only [Bool.and_eq_true, decide_eq_true_eq] at C9
        exact ⟨C9.1.1.1, x_wd_ok C9.1.1.2, C9.1.2, C9.2.1, x_wd_ok C9.2.2⟩
theorem x_good_wst {t : Nat} (ht : t < 181) : ∀ w ∈ x_wst t, w ∈ lw_tbl.filter goodWord := by
  intro w hw
  rcases List.mem_cons.mp hw with rfl | hw
  · exact List.mem_filter.mpr ⟨(x_ckm_of ht).2.2.2.2.2.1, rfl⟩
  · exact hw
theorem x_GoodIn {ws : List Cond} (h : ∀ w ∈ ws, w ∈ lw_tbl.filter goodWord) : GoodIn (lw_tbl.filter goodWord) ws := fun w hw => ⟨h w hw, good_of_word (List.mem_filter.mp (h w hw)).2⟩
theorem x_in_gw {w : Cond} (h1 : w ∈ lw_tbl) (h2 : goodWord w = true) : w ∈ lw_tbl.filter goodWord := List.mem_filter.mpr ⟨h1, h2⟩
/-- behind a call -/
theorem x_back {pc : Nat} {st0 rest : List Value} {as : Array Value} {mc ms : Nat} {v : Option xV} {h' : xH} (hr : va_Run p l e R s m args below meth c H locs cells slots mc ms (F0 m pc ls st0) rest (x_Qc D cy A bs L v h' as) A) (hS : va_S A s.heap H locs)
    (kk : ∀ (L' : List Nat) (H1 : Heap) (locs1 : List Loc), x_ext L L' → x_Vw D cy A L' h' H1 → va_S A s.heap H1 locs1 → (∀ w ∈ v, x_okv h'.1 w) → W p l e R s m args below meth c H1 locs1 (cells + mc) (slots + ms) Q (F0 m (pc + 3) ls ((v.map (x_conc bs L')).toList ++ rest))) : W p l e R s m args below meth c H locs cells slots Q (F0 m pc ls st0) := by
  intro T hT X
  obtain ⟨w, st₀, t, T', L1, h0, X', hL, e1, e2, ⟨⟨L', he, ho, hV, hvk⟩, hz, hk⟩, st⟩ := hr T hT X
  cases ho
  rw [h0] at hz hk
  obtain ⟨t2, a1, b1⟩ := kk L' T'.heap (locs ++ L1) he (by rw [e1]; exact hV)
    ⟨Nat.le_trans hS.1 (by rw [e1]; exact hz), fun q h1 h2 => by rw [e1, hk q (Nat.lt_of_lt_of_le h1 hS.1) h2]; exact hS.2.1 q h1 h2, fun q hq => by
      rcases List.mem_append.mp hq with h | h
      · exact hS.2.2 q h
      · exact hL q h⟩ hvk T' rfl X'
  exact ⟨t2, st t2 a1, b1⟩
theorem x_blind {as : List Value} {h : xH} : FrameBlind (va_Pc as (x_Pb D cy A L h)) := fun a U g mk q => ⟨q.1, q.2.1, q.2.2.1, va_K.moved (u := U) (U := U.calling g mk a) (Vm.Alike.refl U.vm) q.2.2.2.1, fun C hC => va_AO.moved (u := U) (U := U.calling g mk a) (Vm.Alike.refl U.vm) (q.2.2.2.2 C hC)⟩
theorem x_sl (vs : List Value) (h : ∀ v ∈ vs, v.category = 1) : lg_sl vs = vs.map Slot.val ∧ lv_args 0 vs = vs.zipIdx.map (fun q => (q.2, q.1)) := by
  have key : ∀ (vs : List Value) (i : Nat), (∀ v ∈ vs, v.category = 1) → lg_sl vs = vs.map Slot.val ∧ lv_args i vs = (vs.zipIdx i).map (fun q => (q.2, q.1)) := by
    intro vs
    induction vs with
    | nil => intro i _; exact ⟨rfl, rfl⟩
    | cons v vs ih =>
      intro i h
      have hv := h v List.mem_cons_self
      obtain ⟨h1, h2⟩ := ih (i + 1) (fun w hw => h w (List.mem_cons_of_mem _ hw))
      refine ⟨?_, ?_⟩
      · have e : lg_sl (v :: vs) = (if v.category = 2 then [Slot.val v, .second] else [Slot.val v]) ++ lg_sl vs := by simp only [lg_sl, List.flatMap_cons]
        rw [e, if_neg (by omega), h1]
        rfl
      · unfold lv_args
        rw [if_neg (by omega), h2]
        rfl
  exact key vs 0 h
end
end
section
/-! THE INTERPRETER IS SOUND: calls and returns -/
theorem x_thou_in (v : Int) : x_in32 (x_thou v) := by
  sorry
section
variable {l : Launch}
theorem x_prim {t : Nat} (ht : t = xprC ∨ t = xprM) {v : Int} (hv : x_in32 v) (D : va_G) (cy : Nat → ClassId) (A : Nat → Prop) (bs : Nat) (L : List Nat) (h : xH) : Met l (x_nm t) (x_wst t) (x_rm t) (va_Pc [.int (Int32.ofInt v)] (x_Pb D cy A L h)) (x_Qc D cy A bs L (some (.inl (x_thou v))) h) (x_mc t) (x_ms t) A := by
  sorry
theorem x_prC0 : x_mc xprC = 0 ∧ x_ms xprC = 0 ∧ x_np xprC = 1 := by decide +kernel
theorem x_prM0 : x_mc xprM = 0 ∧ x_ms xprM = 0 ∧ x_np xprM = 1 := by decide +kernel
theorem x_run_scr : ∀ (n : Nat) {y k : Nat} {als ast : List xV} {b : xB} {h : xH} {v : Option xV} {h' : xH}, 0 ≤ h.1 → x_run n y k als ast b h = some (v, h') → 0 ≤ h'.1 ∧ ∀ j, h'.2.2 (-2) j = h.2.2 (-2) j := by
  intro n
  induction n with
  | zero => intro y k als ast b h v h' _ hr; cases hr
  | succ n ih =>
    intro y k als ast b h v h' hz hr
    unfold x_run at hr
    generalize x_in y k = i at hr
    obtain ⟨op, a, t, u, pc⟩ := i
    dsimp only at hr
    by_cases q1 : 40 ≤ op ∧ op ≤ 42
    · rw [if_pos q1] at hr
      cases ha : x_arg t ast b h with
      | none => rw [ha] at hr; cases hr
      | some q =>
        obtain ⟨as, rest⟩ := q
        rw [ha] at hr
        dsimp only at hr
        cases hr1 : x_run n t 0 (as ++ List.replicate (x_ml t - x_np t) x_un) [] (x_mc t, x_ms t) h with
        | none => rw [hr1] at hr; cases hr
        | some q =>
          obtain ⟨v1, h2⟩ := q
          rw [hr1] at hr
          dsimp only at hr
          obtain ⟨z1, e1⟩ := ih hz hr1
          obtain ⟨z2, e2⟩ := ih z1 hr
          exact ⟨z2, fun j => (e2 j).trans (e1 j)⟩
    · rw [if_neg q1] at hr
      by_cases q2 : 50 ≤ op ∧ op ≤ 53
      · rw [if_pos q2] at hr
        cases hx : x_ret op ast with
        | none => rw [hx] at hr; cases hr
        | some w => rw [hx] at hr; cases hr; exact ⟨hz, fun j => rfl⟩
      · rw [if_neg q2] at hr
        by_cases q3 : op = 56
        · rw [if_pos q3] at hr
          split at hr
          · split at hr
            · exact ih hz hr
            · cases hr
          · cases hr
        · rw [if_neg q3] at hr
          cases hx : x_stp (op, a, t, u, pc) k als ast b h with
          | none => rw [hx] at hr; cases hr
          | some c' =>
            obtain ⟨k', als', ast', b', h1⟩ := c'
            rw [hx] at hr
            dsimp only at hr
            obtain ⟨z1, e1⟩ := x_scr (y := y) hz hx
            obtain ⟨z2, e2⟩ := ih z1 hr
            exact ⟨z2, fun j => (e2 j).trans (e1 j)⟩
def x_Sd (l : Launch) (n : Nat) : Prop := ∀ {y k : Nat} {als ast : List xV} {b : xB} {h : xH} {v : Option xV} {h' : xH}, x_run n y k als ast b h = some (v, h') →
  ∀ {p : Program} {e : Env} {R : Room} {s : State} {m : MethodId} {args : Array Value} {below : List Frame} {meth : Method} {c : Code} {Q : State → Prop} {D : va_G} {cy : Nat → ClassId} {A : Nat → Prop} {bs CC SS : Nat} {L : List Nat} {H : Heap} {locs : List Loc} {ls : Array Slot} {cells slots : Nat},
  x_Fr p R s m args meth c D cy A y → CC ≤ R.cells ∧ SS ≤ R.slots → x_St s D cy A bs y CC SS L h H locs ls als ast b cells slots → (x_rk y = 8 → x_Scr s A bs h) →
  (∀ (L' : List Nat) (H' : Heap) (locs' : List Loc) (ls' : Array Slot) (k' : Nat) (st' : List xV), x_ext L L' → x_Vw D cy A L' h' H' → va_S A s.heap H' locs' → x_Re y k' st' v h' → W p l e R s m args below meth c H' locs' CC SS Q (F0 m (x_pc y k') ls' (st'.map (x_conc bs L')))) →
  W p l e R s m args below meth c H locs cells slots Q (F0 m (x_pc y k) ls (ast.map (x_conc bs L)))
theorem x_ret_ok {op : Nat} {st : List xV} {v : Option xV} (h : x_ret op st = some v) : (op = 50 ∧ ∃ i, st = [.inl i] ∧ v = some (.inl i)) ∨ (op = 51 ∧ ∃ i, st = [.inl i] ∧ v = some (.inl i) ∧ (i = 0 ∨ i = 1)) ∨ (op = 52 ∧ ∃ r, st = [.inr r] ∧ v = some (.inr r) ∧ -1 ≤ r) ∨ ((op ≠ 50 ∧ op ≠ 51 ∧ op ≠ 52) ∧ st = [] ∧ v = none) := by
  unfold x_ret at h
  by_cases q0 : op = 50
  · rw [if_pos q0] at h
    split at h
    · rename_i i
      cases h
      exact Or.inl ⟨q0, i, rfl, rfl⟩
    · cases h
  · rw [if_neg q0] at h
    by_cases q1 : op = 51
    · rw [if_pos q1] at h
      split at h
      · rename_i i
        split at h
        · rename_i g
          cases h
          exact Or.inr (Or.inl ⟨q1, i, rfl, rfl, g⟩)
        · cases h
      · cases h
    · rw [if_neg q1] at h
      by_cases q2 : op = 52
      · rw [if_pos q2] at h
        split at h
        · rename_i r
          split at h
          · rename_i g
            cases h
            exact Or.inr (Or.inr (Or.inl ⟨q2, r, rfl, rfl, g⟩))
          · cases h
        · cases h
      · rw [if_neg q2] at h
        split at h
        · cases h
          exact Or.inr (Or.inr (Or.inr ⟨⟨q0, q1, q2⟩, rfl, rfl⟩))
        · cases h
theorem x_pc0 {y : Nat} (hy : y < 182) (h : 0 < (x_cd y).length) : x_pc y 0 = 0 := by
  have hc := x_ckA_ok hy
  unfold x_ckA at hc
  simp only [Bool.and_eq_true, Bool.or_eq_true, List.isEmpty_iff, decide_eq_true_eq] at hc
  rcases hc.2 with q | q
  · have : (x_cd y) = [] := q
    rw [this] at h
    cases h
  · unfold x_pc x_in
    have e : (x_cd y).getD 0 63 = (x_mi y).2.2.2.2.2.2.headD 63 := by
      show (x_mi y).2.2.2.2.2.2.getD 0 63 = _
      cases (x_mi y).2.2.2.2.2.2 <;> rfl
    rw [e]
    exact q
theorem x_run_lt {n y k : Nat} {als ast : List xV} {b : xB} {h : xH} {v : Option xV} {h' : xH} (hr : x_run n y k als ast b h = some (v, h')) : k < (x_cd y).length := by
  cases n with
  | zero => cases hr
  | succ n =>
    apply x_in_lt
    intro q
    unfold x_run at hr
    generalize x_in y k = i at hr q
    obtain ⟨op, a, t, u, pc⟩ := i
    have q : op = 63 := q
    subst q
    cases hr
theorem x_lr0 {bs : Nat} {L : List Nat} {ls : Array Slot} {nL d : Nat} {as : List xV} (hl : lv_has ls nL (lv_args 0 (as.map (x_conc bs L)))) (hn : as.length + d = nL) : x_lr bs L ls nL (as ++ List.replicate d x_un) := by
  have hc : ∀ v ∈ as.map (x_conc bs L), v.category = 1 := fun v hv => by
    obtain ⟨w, -, rfl⟩ := List.mem_map.mp hv
    exact x_cat bs L w
  rw [(x_sl _ hc).2] at hl
  refine ⟨hl.1, hl.2.1, by simp; omega, fun i v hi hv => ?_⟩
  by_cases q : i < as.length
  · rw [List.getElem?_append_left q] at hi
    refine hl.2.2 (i, x_conc bs L v) (List.mem_map.mpr ⟨(x_conc bs L v, i), List.mem_zipIdx_iff_getElem?.mpr ?_, rfl⟩)
    rw [List.getElem?_map, hi]
    rfl
  · rw [List.getElem?_append_right (by omega), List.getElem?_replicate] at hi
    split at hi
    · cases hi
      exact absurd rfl hv
    · cases hi
theorem x_met {n t : Nat} (Sd : x_Sd l n) (ht : t < 181) {as : List xV} {h : xH} {v : Option xV} {h' : xH} (hrun : x_run n t 0 (as ++ List.replicate (x_ml t - x_np t) x_un) [] (x_mc t, x_ms t) h = some (v, h')) (hlen : as.length = x_np t) (hnp : x_np t ≤ x_ml t) (D : va_G) (cy : Nat → ClassId) (A : Nat → Prop) (bs : Nat) (L : List Nat) (hz : 0 ≤ h.1) (hok : ∀ w ∈ as, x_okv h.1 w) : Met l (x_nm t) (x_wst t) (x_rm t) (va_Pc (as.map (x_conc bs L)) (x_Pb D cy A L h)) (x_Qc D cy A bs L v h') (x_mc t) (x_ms t) A := by
  obtain ⟨m1, m2, m3, m4, m5, m6, m7, m8⟩ := x_ckm_of ht
  refine Met.ofW (cc := x_by t) (maxL := x_ml t) (ret := x_rty (x_rt t)) m4 rfl ?_
  intro p e s m args below meth c s₁ B hml hv
  obtain ⟨rfl, hA, V, hK, hAO⟩ := hv
  have hts := atoms_spec (ws := x_wst t) B.pre
  have hx := B.exec
  have hb := B.bytes
  have hr := B.returns
  have hlocks := B.notSynchronized
  have F : x_Fr p (headSpec (x_wst t) (x_rm t)).room s m (as.map (x_conc bs L)).toArray meth c D cy A t :=
    ⟨by omega, hx, hb, hml, findClass_of_methodNamed B.named, fun w hw hg => hts w (List.mem_cons_of_mem _ (List.mem_filter.mpr ⟨hw, hg⟩)), fun q => by
      rw [if_neg (by omega), if_pos q] at m8
      rw [(name_of_methodNamed B.named B.method).1]
      exact m8.2.2.2.1, hK, hAO, Nat.le_refl _, Nat.le_refl _, hA⟩
  have hc : ∀ v ∈ as.map (x_conc bs L), v.category = 1 := fun v hv => by
    obtain ⟨w, -, rfl⟩ := List.mem_map.mp hv
    exact x_cat bs L w
  have hl := lv_entry (as.map (x_conc bs L)) (n := x_ml t) (by rw [(x_sl _ hc).1]; simp; omega)
  rw [lg_entry_eq]
  generalize (lg_sl (as.map (x_conc bs L)) ++ List.replicate (x_ml t - (lg_sl (as.map (x_conc bs L))).length) Slot.unset).toArray = ls at hl ⊢
  have S : x_St s D cy A bs t (x_mc t) (x_ms t) L h s.heap [] ls (as ++ List.replicate (x_ml t - x_np t) x_un) [] (x_mc t, x_ms t) 0 0 := by
    refine ⟨V, va_S.rf, x_lr0 hl (by omega), fun w hw => ?_, fun w hw => (by cases hw), (by simp), (by simp)⟩
    rcases List.mem_append.mp hw with hw | hw
    · exact hok w hw
    · rw [(List.mem_replicate.mp hw).2]
      show (-9 : Int) < h.1
      omega
  have K := Sd hrun F ⟨Nat.le_refl _, Nat.le_refl _⟩ S (fun q => absurd q (by omega)) (e := e) (below := below) (Q := MQ below (x_Qc D cy A bs L v h') (as.map (x_conc bs L)).toArray s (x_mc t) (x_ms t) A) ?_
  · rw [x_pc0 (by omega) (x_run_lt hrun)] at K
    exact K
  · intro L' H' locs' ls' k' st' he hV hS hR
    obtain ⟨r1, r2, r3, r4, r5⟩ := hR
    have C := x_ck (y := t) (by omega) r1
    unfold x_pc at C ⊢
    revert C r2 r3 r4
    generalize x_in t k' = i
    intro r2 r3 r4 C
    obtain ⟨op, a, tt, u, pc⟩ := i
    have hq : ∀ (w : Option Value), w = v.map (x_conc bs L') → ∀ t' : State, t'.heap = H' → s.WarmedH t'.vm → x_Qc D cy A bs L v h' (as.map (x_conc bs L)).toArray s (.returned w) t' := fun w hw t' e1 e2 => by
      refine ⟨⟨L', he, by rw [hw], by rw [e1]; exact hV, fun w' hw' => ?_⟩, hS.F e1⟩
      rcases x_ret_ok r4 with ⟨-, i, h1, h2⟩ | ⟨-, i, h1, h2, -⟩ | ⟨-, i, h1, h2, -⟩ | ⟨-, h1, h2⟩
      · rw [h2] at hw'; cases hw'; exact r5 _ (by rw [h1]; exact List.mem_cons_self)
      · rw [h2] at hw'; cases hw'; exact r5 _ (by rw [h1]; exact List.mem_cons_self)
      · rw [h2] at hw'; cases hw'; exact r5 _ (by rw [h1]; exact List.mem_cons_self)
      · rw [h2] at hw'; cases hw'
    have hf : ∀ q ∈ locs', A q.base := hS.2.2
    rcases x_ret_ok r4 with ⟨ho, i, rfl, rfl⟩ | ⟨ho, i, rfl, rfl, hi⟩ | ⟨ho, r, rfl, rfl, hi⟩ | ⟨ho, rfl, rfl⟩
    · have ho : op = 50 := ho
      subst ho
      have C : (x_is ((x_by t).data.toList.drop pc) .ireturn 1 && decide (x_rt t = 1)) = true := C
      simp only [Bool.and_eq_true, decide_eq_true_eq] at C
      exact W.iret hx hb (by rw [hr, C.2]; rfl) (hq _ rfl) hf (x_is_ok C.1)
    · have ho : op = 51 := ho
      subst ho
      have C : (x_is ((x_by t).data.toList.drop pc) .ireturn 1 && decide (x_rt t = 2)) = true := C
      simp only [Bool.and_eq_true, decide_eq_true_eq] at C
      exact W.zret (ty := .boolean) hx hb (by rw [hr, C.2]; rfl) (by rcases hi with rfl | rfl <;> rfl) (hq _ rfl) hf (x_is_ok C.1)
    · have ho : op = 52 := ho
      subst ho
      have C : (x_is ((x_by t).data.toList.drop pc) .areturn 1 && decide (3 ≤ x_rt t)) = true := C
      simp only [Bool.and_eq_true, decide_eq_true_eq] at C
      have hrt : ∃ n, x_rty (x_rt t) = some (.object n) := by
        unfold x_rty
        rw [if_neg (by omega), if_neg (by omega), if_neg (by omega)]
        split
        · exact ⟨_, rfl⟩
        · split
          · exact ⟨_, rfl⟩
          · exact ⟨_, rfl⟩
      obtain ⟨nm, hnm⟩ := hrt
      refine W.aret (rt := .object nm) hx hb (by rw [hr]; exact hnm) (Or.inl ⟨nm, rfl⟩) ?_ (hq _ rfl) hf (x_is_ok C.1)
      by_cases q : r < 0
      · exact Or.inl (x_null q (by omega))
      · exact Or.inr ⟨_, x_ref (by omega)⟩
    · have ho2 : op = 53 := by
        have r2 : 50 ≤ op := r2
        have r3 : op ≤ 53 := r3
        have ho : op ≠ 50 ∧ op ≠ 51 ∧ op ≠ 52 := ho
        omega
      subst ho2
      have C : (x_is ((x_by t).data.toList.drop pc) .return_ 1 && decide (x_rt t = 0)) = true := C
      simp only [Bool.and_eq_true, decide_eq_true_eq] at C
      exact W.vret hx hb (by rw [hr, C.2]; rfl) (hq _ rfl) hf (x_is_ok C.1)
end
end
section
section
variable {l : Launch}
theorem x_ml_ok {u : Nat} {own : String} {t pc p2 : Nat} {f : Nat → Instr} {sf : List UInt8} (h : x_ckL own t u f sf pc p2 = true) : ∃ (pl ix : Nat), t < 181 ∧ x_wd pl (.methodLink own ix (x_nm t)) = true ∧ x_D sf pc p2 (f ix) 3 = true := by
  unfold x_ckL at h
  cases hq : xml[u]? with
  | none => rw [hq] at h; cases h
  | some q =>
    obtain ⟨pl, o, ix, y⟩ := q
    rw [hq] at h
    simp only [Bool.and_eq_true, decide_eq_true_eq] at h
    obtain ⟨⟨rfl, rfl⟩, hD⟩ := h
    have := List.all_eq_true.mp x_mlok _ (List.mem_of_getElem? hq)
    simp only [Bool.and_eq_true, decide_eq_true_eq] at this
    exact ⟨pl, ix, this.2, this.1, hD⟩
theorem x_okv_le {z z' : Int} {v : xV} (h : x_okv z v) (hz : z ≤ z') : x_okv z' v := by
  cases v with
  | inl i => exact h
  | inr r => exact Int.lt_of_lt_of_le (show r < z from h) hz
theorem x_Scr.eq {s : State} {A : Nat → Prop} {bs : Nat} {h h2 : xH} (H : x_Scr s A bs h) (e : ∀ j, h2.2.2 (-2) j = h.2.2 (-2) j) : x_Scr s A bs h2 := by
  obtain ⟨N, xs, h1, h2, h3, h4, h5, h6⟩ := H
  exact ⟨N, xs, h1, h2, h3, fun j hj => (e j).trans (h4 j hj), (e _).trans h5, h6⟩
theorem x_arg_ok {t : Nat} {st : List xV} {b : xB} {h : xH} {q : List xV × List xV} (ha : x_arg t st b h = some q) : (x_np t ≤ st.length ∧ (st.drop (x_np t)).length ≤ 8 ∧ x_mc t ≤ b.1 ∧ x_ms t ≤ b.2 ∧ x_np t ≤ x_ml t ∧ (x_st t = 1 ∨ x_rc h.1 (x_rk t) (st.take (x_np t)).reverse = true)) ∧ q = ((st.take (x_np t)).reverse, st.drop (x_np t)) := by
  unfold x_arg at ha
  by_cases g : (x_np t ≤ st.length ∧ (st.drop (x_np t)).length ≤ 8 ∧ x_mc t ≤ b.1 ∧ x_ms t ≤ b.2 ∧ x_np t ≤ x_ml t ∧ (x_st t = 1 ∨ x_rc h.1 (x_rk t) (st.take (x_np t)).reverse = true))
  · rw [if_pos g] at ha
    cases ha
    exact ⟨g, rfl⟩
  · rw [if_neg g] at ha
    cases ha
set_option maxHeartbeats 1000000 in
theorem x_sound (l : Launch) : ∀ n : Nat, x_Sd l n := by
  intro n
  induction n with
  | zero => intro y k als ast b h v h' hr; cases hr
  | succ n ih =>
    intro y k als ast b h v h' hr p e R s m args below meth c Q D cy A bs CC SS L H locs ls cells slots F hCS S hscr kk
    have hk := x_run_lt hr
    have C0 := x_ck F.1 hk
    have hz : (0 : Int) ≤ h.1 := by rw [← S.1.1]; omega
    have hr0 := hr
    unfold x_run at hr
    cases hi : x_in y k with
    | mk op r =>
    obtain ⟨a, t, u, pc⟩ := r
    have hpc : x_pc y k = pc := by unfold x_pc; rw [hi]
    rw [hi] at hr C0
    rw [hpc] at C0
    dsimp only at hr
    by_cases q1 : 40 ≤ op ∧ op ≤ 42
    · rw [if_pos q1] at hr
      cases ha : x_arg t ast b h with
      | none => rw [ha] at hr; cases hr
      | some q =>
        obtain ⟨as, rest⟩ := q
        rw [ha] at hr
        dsimp only at hr
        cases hr1 : x_run n t 0 (as ++ List.replicate (x_ml t - x_np t) x_un) [] (x_mc t, x_ms t) h with
        | none => rw [hr1] at hr; cases hr
        | some q =>
          obtain ⟨v1, h2⟩ := q
          rw [hr1] at hr
          dsimp only at hr
          obtain ⟨⟨g1, g2, g3, g4, g5, g6⟩, hq⟩ := x_arg_ok ha
          cases hq
          have ho := S.2.2.2.2.1
          have hst : ast = ast.take (x_np t) ++ ast.drop (x_np t) := (List.take_append_drop _ _).symm
          have hoA : ∀ w ∈ (ast.take (x_np t)).reverse, x_okv h.1 w := fun w hw => ho w (List.mem_of_mem_take (List.mem_reverse.mp hw))
          have hoR : ∀ w ∈ ast.drop (x_np t), x_okv h.1 w := fun w hw => ho w (List.mem_of_mem_drop hw)
          have hlen : (ast.take (x_np t)).reverse.length = x_np t := by simp; omega
          generalize has : (ast.take (x_np t)).reverse = as at hr1 hoA hlen g6
          generalize hrest : ast.drop (x_np t) = rest at hr hoR g2
          have hst2 : ast.map (x_conc bs L) = (as.map (x_conc bs L)).reverse ++ rest.map (x_conc bs L) := by
            rw [← has, ← hrest, ← List.map_reverse, List.reverse_reverse, ← List.map_append, List.take_append_drop]
          -- behind the call
          have key : ∀ (L' : List Nat) (H1 : Heap) (locs1 : List Loc), x_ext L L' → x_Vw D cy A L' h2 H1 → va_S A s.heap H1 locs1 → (∀ w ∈ v1, x_okv h2.1 w) → W p l e R s m args below meth c H1 locs1 (cells + x_mc t) (slots + x_ms t) Q (F0 m (x_pc y (k + 1)) ls ((v1.map (x_conc bs L')).toList ++ rest.map (x_conc bs L))) := by
            intro L' H1 locs1 he V1 S1 hv1
            have hzz : h.1 ≤ h2.1 := by
              obtain ⟨tt, rfl⟩ := he
              rw [← S.1.1, ← V1.1]
              simp
              omega
            have S' : x_St s D cy A bs y CC SS L' h2 H1 locs1 ls als (v1.toList ++ rest) (b.1 - x_mc t, b.2 - x_ms t) (cells + x_mc t) (slots + x_ms t) := by
              refine ⟨V1, S1, x_lr_ext S.1.1 he S.2.2.2.1 S.2.2.1, fun w hw => x_okv_le (S.2.2.2.1 w hw) hzz, fun w hw => ?_, ?_, ?_⟩
              · rcases List.mem_append.mp hw with hw | hw
                · exact hv1 w (Option.mem_toList.mp hw)
                · exact x_okv_le (hoR w hw) hzz
              · have := S.2.2.2.2.2.1
                show cells + x_mc t + (b.1 - x_mc t) = CC
                omega
              · have := S.2.2.2.2.2.2
                show slots + x_ms t + (b.2 - x_ms t) = SS
                omega
            have K := ih hr F hCS S' (fun q => (hscr q).eq (x_run_scr n hz hr1).2) (fun L2 H2 locs2 ls2 k2 st2 he2 => kk L2 H2 locs2 ls2 k2 st2 (x_ext_tr he he2))
            refine W.eq ?_ K
            rw [List.map_append, x_map_ext S.1.1 he hoR]
            cases v1 <;> rfl
          obtain ⟨hy, hx, hb, hml, hown, hts, hinit, hK, hAO, hfr, hlo, hA⟩ := id F
          have hts2 : ∀ w ∈ lw_tbl.filter goodWord, w.before args s = true := fun w hw => hts w (List.mem_filter.mp hw).1 (List.mem_filter.mp hw).2
          have SF : CallFix p m c (x_by y) (x_ml y) s args (lw_tbl.filter goodWord) (x_nm y).cls := ⟨hx, hb, hml, hown, hts2⟩
          have hPb : ∀ U : State, U.heap = H → s.WarmedH U.vm → x_Pb D cy A L h U := fun U hU hW => ⟨fun q hq => hA q (Nat.le_trans S.2.1.1 (by rw [← hU]; exact hq)), by rw [hU]; exact S.1, va_K.moved hW.alike hK, fun C hC => va_AO.moved hW.alike (hAO C hC)⟩
          have hroom8 : ((rest.map (x_conc bs L)).map fun v => v.category).sum ≤ 8 := by rw [x_sum]; exact g2
          have hf : cells + x_mc t ≤ R.cells ∧ slots + x_ms t ≤ R.slots := by
            have := S.2.2.2.2.2
            omega
          rw [hpc, hst2]
          rcases (show op = 40 ∨ op = 41 ∨ op = 42 by omega) with rfl | rfl | rfl
          · have C : (x_ckL (x_nm y).cls t u .invokevirtual ((x_by y).data.toList.drop pc) pc (x_pc y (k + 1)) && decide (x_st t = 0) && decide (x_dp t + 1 ≤ x_dp y) && decide (8 + (x_ml t + 11) + x_lc t ≤ x_lc y)) = true := C0
            simp only [Bool.and_eq_true, decide_eq_true_eq] at C
            obtain ⟨⟨⟨C, c0⟩, c1⟩, c2⟩ := C
            obtain ⟨pl, ix, ht, hw, hD⟩ := x_ml_ok C
            obtain ⟨hd, hp⟩ := x_D_ok hD
            obtain ⟨m1, m2, m3, m4, m5, m6, m7, m8⟩ := x_ckm_of ht
            rw [if_neg (by omega), if_neg (by omega)] at m8
            have g6 := g6.resolve_left (by omega)
            cases as with
            | nil => cases g6
            | cons w0 as' =>
              cases w0 with
              | inl i => cases g6
              | inr r =>
                obtain ⟨r0, r1, r2⟩ := x_ok_ok (show x_ok h.1 r (x_rk t) = true from g6)
                have hM := x_met ih ht hr1 hlen g5 D cy A bs L hz hoA
                have hl : r < L.length := by rw [S.1.1]; exact r1
                obtain ⟨q1', -, -, -⟩ := x_cls m2
                have hrecv := va_recv hK S.1.2.2.2.1 q1' ((x_ws_get (cy := cy) (h := h) r0 hl).trans (by rw [x_ent_obj r2 m2]))
                rw [List.map_cons, List.reverse_cons, List.append_assoc, x_ref r0]
                rw [List.map_cons, x_ref r0] at hM
                refine x_back (va_runV (C := (x_nm t).cls) (As := as'.map (x_conc bs L)) (rest := rest.map (x_conc bs L)) SF hM (cwV (x_np t - 1) hts2 (x_GoodIn ?_) rfl rfl rfl ⟨rfl, m5.1, m5.2, m8.2.2.1⟩ ⟨show x_dp t + 1 ≤ R.frames by omega, show 8 + (x_ml t + 11) + x_lc t ≤ R.locals by omega⟩) ⟨x_blind, by rw [m1]; exact hrecv, fun U hU hW => ⟨rfl, hPb U hU hW⟩⟩ rfl (by simp at hlen ⊢; omega) S.2.2.1.1 rfl (lv_room hroom8) hd hf) S.2.1 (fun L' H1 locs1 he V1 S1 hv1 => ?_)
                · intro w hw'
                  rcases List.mem_append.mp hw' with hw' | hw'
                  · simp only [List.mem_cons, List.not_mem_nil, or_false] at hw'
                    rcases hw' with rfl | rfl | rfl | rfl
                    · exact x_in_gw (x_wd_ok hw) rfl
                    · exact x_in_gw m8.2.1 rfl
                    · exact x_in_gw m8.2.2.2.2 rfl
                    · exact x_in_gw m7 rfl
                  · exact x_good_wst ht w hw'
                · rw [← hp]
                  exact key L' H1 locs1 he V1 S1 hv1
          · have C : (x_ckL (x_nm y).cls t u .invokestatic ((x_by y).data.toList.drop pc) pc (x_pc y (k + 1)) && decide (x_st t = 1) && decide (x_dp t + 1 ≤ x_dp y) && decide (8 + (x_ml t + 11) + x_lc t ≤ x_lc y)) = true := C0
            simp only [Bool.and_eq_true, decide_eq_true_eq] at C
            obtain ⟨⟨⟨C, c0⟩, c1⟩, c2⟩ := C
            obtain ⟨pl, ix, ht, hw, hD⟩ := x_ml_ok C
            obtain ⟨hd, hp⟩ := x_D_ok hD
            obtain ⟨m1, m2, m3, m4, m5, m6, m7, m8⟩ := x_ckm_of ht
            rw [if_pos c0] at m8
            have hM := x_met ih ht hr1 hlen g5 D cy A bs L hz hoA
            refine x_back (va_runS (As := as.map (x_conc bs L)) (rest := rest.map (x_conc bs L)) SF hM (va_cwS (x_np t) hts2 (x_GoodIn ?_) rfl rfl rfl ⟨m5.1, m5.2, m8.2⟩ ⟨show x_dp t + 1 ≤ R.frames by omega, show 8 + (x_ml t + 11) + x_lc t ≤ R.locals by omega⟩) ⟨x_blind, fun U hU hW => ⟨rfl, hPb U hU hW⟩⟩ rfl (by simp; omega) S.2.2.1.1 rfl (lv_room hroom8) hd hf) S.2.1 (fun L' H1 locs1 he V1 S1 hv1 => ?_)
            · intro w hw'
              rcases List.mem_append.mp hw' with hw' | hw'
              · simp only [List.mem_cons, List.not_mem_nil, or_false] at hw'
                rcases hw' with rfl | rfl | rfl
                · exact x_in_gw (x_wd_ok hw) rfl
                · exact x_in_gw m8.1 rfl
                · exact x_in_gw m7 rfl
              · exact x_good_wst ht w hw'
            · rw [← hp]
              exact key L' H1 locs1 he V1 S1 hv1
          · have C : (x_ckL (x_nm y).cls t u .invokespecial ((x_by y).data.toList.drop pc) pc (x_pc y (k + 1)) && decide (x_st t = 2) && decide (x_dp t + 1 ≤ x_dp y) && decide (8 + (x_ml t + 11) + x_lc t ≤ x_lc y)) = true := C0
            simp only [Bool.and_eq_true, decide_eq_true_eq] at C
            obtain ⟨⟨⟨C, c0⟩, c1⟩, c2⟩ := C
            obtain ⟨pl, ix, ht, hw, hD⟩ := x_ml_ok C
            obtain ⟨hd, hp⟩ := x_D_ok hD
            obtain ⟨m1, m2, m3, m4, m5, m6, m7, m8⟩ := x_ckm_of ht
            rw [if_neg (by omega), if_pos c0] at m8
            have g6 := g6.resolve_left (by omega)
            cases as with
            | nil => cases g6
            | cons w0 as' =>
              cases w0 with
              | inl i => cases g6
              | inr r =>
                obtain ⟨r0, r1, r2⟩ := x_ok_ok (show x_ok h.1 r (x_rk t) = true from g6)
                have hM := x_met ih ht hr1 hlen g5 D cy A bs L hz hoA
                have hws : x_wst t = Cond.code (x_nm t) (x_by t) (x_ml t) none :: lw_tbl.filter goodWord := by
                  unfold x_wst
                  rw [m8.2.2.2.2]
                  rfl
                rw [List.map_cons, List.reverse_cons, List.append_assoc, x_ref r0]
                rw [List.map_cons, x_ref r0] at hM
                refine x_back (va_runI (As := as'.map (x_conc bs L)) (rest := rest.map (x_conc bs L)) SF hM (cwI (x_np t - 1) hts2 (x_GoodIn (x_good_wst ht)) hws rfl rfl (hts _ m7 rfl) (hts _ (x_wd_ok hw) rfl) (hts _ m8.2.1 rfl) m8.2.2.2.1 ⟨m5.1, m5.2, m8.2.2.1⟩ ⟨show x_dp t + 1 ≤ R.frames by omega, show 8 + (x_ml t + 11) + x_lc t ≤ R.locals by omega⟩) ⟨x_blind, fun U hU hW => ⟨rfl, hPb U hU hW⟩⟩ rfl (by simp at hlen ⊢; omega) S.2.2.1.1 rfl (lv_room hroom8) hd hf) S.2.1 (fun L' H1 locs1 he V1 S1 hv1 => ?_)
                rw [← hp]
                exact key L' H1 locs1 he V1 S1 hv1
    · rw [if_neg q1] at hr
      by_cases q2 : 50 ≤ op ∧ op ≤ 53
      · rw [if_pos q2] at hr
        cases hx : x_ret op ast with
        | none => rw [hx] at hr; cases hr
        | some w =>
          rw [hx] at hr
          cases hr
          have hcs := S.2.2.2.2.2
          exact W.widen (by omega) (by omega) (kk L H locs ls k ast (x_ext_rf L) S.1 S.2.1 ⟨hk, by rw [hi]; exact q2.1, by rw [hi]; exact q2.2, by rw [hi]; exact hx, S.2.2.2.2.1⟩)
      · rw [if_neg q2] at hr
        by_cases q3 : op = 56
        · rw [if_pos q3] at hr
          subst q3
          split at hr
          rotate_left
          · cases hr
          rename_i i st
          split at hr
          rotate_left
          · cases hr
          rename_i h8
          have ho := S.2.2.2.2.1
          have oi : x_in32 i := x_hd ho
          obtain ⟨hy, hx, hb, hml, hown, hts, hinit, hK, hAO, hfr, hlo, hA⟩ := id F
          have hts2 : ∀ w ∈ lw_tbl.filter goodWord, w.before args s = true := fun w hw => hts w (List.mem_filter.mp hw).1 (List.mem_filter.mp hw).2
          have C : (x_ckL (x_nm y).cls t u .invokestatic ((x_by y).data.toList.drop pc) pc (x_pc y (k + 1)) && decide (t = xprC ∨ t = xprM) && decide (x_st t = 1) && decide (x_dp t + 1 ≤ x_dp y) && decide (8 + (x_ml t + 11) + x_lc t ≤ x_lc y)) = true := C0
          simp only [Bool.and_eq_true, decide_eq_true_eq] at C
          obtain ⟨⟨⟨⟨C, cp⟩, c0⟩, c1⟩, c2⟩ := C
          obtain ⟨pl, ix, ht, hw, hD⟩ := x_ml_ok C
          obtain ⟨hd, hp⟩ := x_D_ok hD
          obtain ⟨m1, m2, m3, m4, m5, m6, m7, m8⟩ := x_ckm_of ht
          rw [if_pos c0] at m8
          have hM := x_prim (l := l) cp oi D cy A bs L h
          have hmm : x_mc t = 0 ∧ x_ms t = 0 ∧ x_np t = 1 := by
            rcases cp with rfl | rfl
            · exact x_prC0
            · exact x_prM0
          have hcs := S.2.2.2.2.2
          rw [hpc]
          show W p l e R s m args below meth c H locs cells slots Q (F0 m pc ls (.int (Int32.ofInt i) :: st.map (x_conc bs L)))
          refine x_back (va_runS (As := [.int (Int32.ofInt i)]) (rest := st.map (x_conc bs L)) ⟨hx, hb, hml, hown, hts2⟩ hM (va_cwS (own := (x_nm y).cls) 1 hts2 (x_GoodIn ?_) rfl rfl rfl ⟨m5.1, m5.2, by rw [m8.2, hmm.2.2]⟩ ⟨show x_dp t + 1 ≤ R.frames by omega, show 8 + (x_ml t + 11) + x_lc t ≤ R.locals by omega⟩) ⟨x_blind, fun U hU hW => ⟨rfl, fun q hq => hA q (Nat.le_trans S.2.1.1 (by rw [← hU]; exact hq)), by rw [hU]; exact S.1, va_K.moved hW.alike hK, fun C hC => va_AO.moved hW.alike (hAO C hC)⟩⟩ rfl rfl S.2.2.1.1 rfl (lv_room (by rw [x_sum]; exact h8)) hd ⟨by omega, by omega⟩) S.2.1 (fun L' H1 locs1 he V1 S1 hv1 => ?_)
          · intro w hw'
            rcases List.mem_append.mp hw' with hw' | hw'
            · simp only [List.mem_cons, List.not_mem_nil, or_false] at hw'
              rcases hw' with rfl | rfl | rfl
              · exact x_in_gw (x_wd_ok hw) rfl
              · exact x_in_gw m8.1 rfl
              · exact x_in_gw m7 rfl
            · exact x_good_wst ht w hw'
          · have S' : x_St s D cy A bs y CC SS L' h H1 locs1 ls als (.inl (x_thou i) :: st) b (cells + x_mc t) (slots + x_ms t) := by
              refine ⟨V1, S1, x_lr_ext S.1.1 he S.2.2.2.1 S.2.2.1, S.2.2.2.1, x_cons (x_thou_in i) (x_tls ho), ?_, ?_⟩
              · omega
              · omega
            have K := ih hr F hCS S' hscr (fun L2 H2 locs2 ls2 k2 st2 he2 => kk L2 H2 locs2 ls2 k2 st2 (x_ext_tr he he2))
            refine W.eq ?_ K
            rw [hp, List.map_cons, x_map_ext S.1.1 he (x_tls ho)]
            rfl
        · rw [if_neg q3] at hr
          cases hx : x_stp (op, a, t, u, pc) k als ast b h with
          | none => rw [hx] at hr; cases hr
          | some c' =>
            obtain ⟨k', als', ast', b', h1⟩ := c'
            rw [hx] at hr
            dsimp only at hr
            refine x_step F hk S hCS hscr (c' := (k', als', ast', b', h1)) (by rw [hi]; exact hx) ?_
            intro L' H' locs' ls' cells' slots' he S'
            exact ih hr F hCS S' (fun q => (hscr q).eq (x_scr (y := y) hz hx).2) (fun L2 H2 locs2 ls2 k2 st2 he2 => kk L2 H2 locs2 ls2 k2 st2 (x_ext_tr he he2))
end
end
