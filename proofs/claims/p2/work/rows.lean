section
-- ===== PART A: goes FIRST, ahead of the names: the tables' words, and 'selects' of the private methods out of them =====
/-- a private method of a class that the tables say can be made, by its rows of tables_1 -/
def lw_okq (q : MethodName × Nat) : Prop := (q.1.cls ≠ "java/lang/invoke/MethodHandle" ∧ q.1.cls ≠ "java/lang/invoke/VarHandle") ∧ Cond.instantiable q.1.cls q.2 ∈ tables_1 ∧ Cond.privateMethod q.1 ∈ tables_1 ∧ Cond.instanceMethod q.1 ∈ tables_1
theorem lw_p0 : lw_okq (⟨"WheelStands$Town", "lendOne", "(LWheelStands$Wheel;LWheelStands$Wheel;)V"⟩, 7) := ⟨⟨by decide +kernel, by decide +kernel⟩, List.mem_of_getElem? (i := 20) (by decide +kernel), List.mem_of_getElem? (i := 450) (by decide +kernel), List.mem_of_getElem? (i := 451) (by decide +kernel)⟩
theorem lw_p1 : lw_okq (⟨"WheelStands$Town", "docksBoth", "(LWheelStands$Wheel;LWheelStands$Wheel;LWheelStands$Stand;)Z"⟩, 7) := ⟨⟨by decide +kernel, by decide +kernel⟩, List.mem_of_getElem? (i := 20) (by decide +kernel), List.mem_of_getElem? (i := 466) (by decide +kernel), List.mem_of_getElem? (i := 467) (by decide +kernel)⟩
theorem lw_p2 : lw_okq (⟨"WheelStands$Town", "leaveOnStreet", "(LWheelStands$Wheel;LWheelStands$Wheel;I)V"⟩, 7) := ⟨⟨by decide +kernel, by decide +kernel⟩, List.mem_of_getElem? (i := 20) (by decide +kernel), List.mem_of_getElem? (i := 479) (by decide +kernel), List.mem_of_getElem? (i := 480) (by decide +kernel)⟩
theorem lw_p3 : lw_okq (⟨"WheelStands$Tour", "gather", "(LWheelStands$Town;)Z"⟩, 7) := ⟨⟨by decide +kernel, by decide +kernel⟩, List.mem_of_getElem? (i := 217) (by decide +kernel), List.mem_of_getElem? (i := 612) (by decide +kernel), List.mem_of_getElem? (i := 613) (by decide +kernel)⟩
theorem lw_p4 : lw_okq (⟨"WheelStands$Tour", "addUpHeld", "()V"⟩, 7) := ⟨⟨by decide +kernel, by decide +kernel⟩, List.mem_of_getElem? (i := 217) (by decide +kernel), List.mem_of_getElem? (i := 622) (by decide +kernel), List.mem_of_getElem? (i := 623) (by decide +kernel)⟩
theorem lw_p5 : lw_okq (⟨"WheelStands$Tour", "allStands", "()I"⟩, 7) := ⟨⟨by decide +kernel, by decide +kernel⟩, List.mem_of_getElem? (i := 217) (by decide +kernel), List.mem_of_getElem? (i := 626) (by decide +kernel), List.mem_of_getElem? (i := 627) (by decide +kernel)⟩
theorem lw_p6 : lw_okq (⟨"WheelStands$Tour", "measureLeft", "(LWheelStands$Town;I)V"⟩, 7) := ⟨⟨by decide +kernel, by decide +kernel⟩, List.mem_of_getElem? (i := 217) (by decide +kernel), List.mem_of_getElem? (i := 630) (by decide +kernel), List.mem_of_getElem? (i := 631) (by decide +kernel)⟩
theorem lw_p7 : lw_okq (⟨"WheelStands$Tour", "leastOnward", "(LWheelStands$Town;II)I"⟩, 7) := ⟨⟨by decide +kernel, by decide +kernel⟩, List.mem_of_getElem? (i := 217) (by decide +kernel), List.mem_of_getElem? (i := 634) (by decide +kernel), List.mem_of_getElem? (i := 635) (by decide +kernel)⟩
theorem lw_p8 : lw_okq (⟨"WheelStands$Tour", "onwardBy", "(LWheelStands$Town;III)I"⟩, 7) := ⟨⟨by decide +kernel, by decide +kernel⟩, List.mem_of_getElem? (i := 217) (by decide +kernel), List.mem_of_getElem? (i := 639) (by decide +kernel), List.mem_of_getElem? (i := 640) (by decide +kernel)⟩
theorem lw_p9 : lw_okq (⟨"WheelStands$Tour", "trace", "(LWheelStands$Town;I)V"⟩, 7) := ⟨⟨by decide +kernel, by decide +kernel⟩, List.mem_of_getElem? (i := 217) (by decide +kernel), List.mem_of_getElem? (i := 645) (by decide +kernel), List.mem_of_getElem? (i := 646) (by decide +kernel)⟩
theorem lw_p10 : lw_okq (⟨"WheelStands$Tour", "leadsOn", "(LWheelStands$Town;IIII)Z"⟩, 7) := ⟨⟨by decide +kernel, by decide +kernel⟩, List.mem_of_getElem? (i := 217) (by decide +kernel), List.mem_of_getElem? (i := 649) (by decide +kernel), List.mem_of_getElem? (i := 650) (by decide +kernel)⟩
theorem lw_p11 : lw_okq (⟨"WheelStandsModel", "standAt", "(I)I"⟩, 12) := ⟨⟨by decide +kernel, by decide +kernel⟩, List.mem_of_getElem? (i := 719) (by decide +kernel), List.mem_of_getElem? (i := 767) (by decide +kernel), List.mem_of_getElem? (i := 768) (by decide +kernel)⟩
theorem lw_p12 : lw_okq (⟨"WheelStandsModel", "dockAt", "(II)I"⟩, 12) := ⟨⟨by decide +kernel, by decide +kernel⟩, List.mem_of_getElem? (i := 719) (by decide +kernel), List.mem_of_getElem? (i := 771) (by decide +kernel), List.mem_of_getElem? (i := 772) (by decide +kernel)⟩
theorem lw_p13 : lw_okq (⟨"WheelStandsModel", "isStand", "(I)Z"⟩, 12) := ⟨⟨by decide +kernel, by decide +kernel⟩, List.mem_of_getElem? (i := 719) (by decide +kernel), List.mem_of_getElem? (i := 779) (by decide +kernel), List.mem_of_getElem? (i := 780) (by decide +kernel)⟩
theorem lw_p14 : lw_okq (⟨"WheelStandsModel", "isDock", "(II)Z"⟩, 12) := ⟨⟨by decide +kernel, by decide +kernel⟩, List.mem_of_getElem? (i := 719) (by decide +kernel), List.mem_of_getElem? (i := 798) (by decide +kernel), List.mem_of_getElem? (i := 799) (by decide +kernel)⟩
theorem lw_p15 : lw_okq (⟨"WheelStandsModel", "docks", "(I)I"⟩, 12) := ⟨⟨by decide +kernel, by decide +kernel⟩, List.mem_of_getElem? (i := 719) (by decide +kernel), List.mem_of_getElem? (i := 802) (by decide +kernel), List.mem_of_getElem? (i := 803) (by decide +kernel)⟩
def lw_privs_1 : List (MethodName × Nat) := [(⟨"WheelStands$Town", "lendOne", "(LWheelStands$Wheel;LWheelStands$Wheel;)V"⟩, 7), (⟨"WheelStands$Town", "docksBoth", "(LWheelStands$Wheel;LWheelStands$Wheel;LWheelStands$Stand;)Z"⟩, 7), (⟨"WheelStands$Town", "leaveOnStreet", "(LWheelStands$Wheel;LWheelStands$Wheel;I)V"⟩, 7), (⟨"WheelStands$Tour", "gather", "(LWheelStands$Town;)Z"⟩, 7), (⟨"WheelStands$Tour", "addUpHeld", "()V"⟩, 7), (⟨"WheelStands$Tour", "allStands", "()I"⟩, 7), (⟨"WheelStands$Tour", "measureLeft", "(LWheelStands$Town;I)V"⟩, 7), (⟨"WheelStands$Tour", "leastOnward", "(LWheelStands$Town;II)I"⟩, 7), (⟨"WheelStands$Tour", "onwardBy", "(LWheelStands$Town;III)I"⟩, 7), (⟨"WheelStands$Tour", "trace", "(LWheelStands$Town;I)V"⟩, 7), (⟨"WheelStands$Tour", "leadsOn", "(LWheelStands$Town;IIII)Z"⟩, 7), (⟨"WheelStandsModel", "standAt", "(I)I"⟩, 12), (⟨"WheelStandsModel", "dockAt", "(II)I"⟩, 12), (⟨"WheelStandsModel", "isStand", "(I)Z"⟩, 12), (⟨"WheelStandsModel", "isDock", "(II)Z"⟩, 12), (⟨"WheelStandsModel", "docks", "(I)I"⟩, 12)]
theorem lw_r1 : ∀ q ∈ lw_privs_1, lw_okq q := List.forall_mem_cons.mpr ⟨lw_p0, List.forall_mem_cons.mpr ⟨lw_p1, List.forall_mem_cons.mpr ⟨lw_p2, List.forall_mem_cons.mpr ⟨lw_p3, List.forall_mem_cons.mpr ⟨lw_p4, List.forall_mem_cons.mpr ⟨lw_p5, List.forall_mem_cons.mpr ⟨lw_p6, List.forall_mem_cons.mpr ⟨lw_p7, List.forall_mem_cons.mpr ⟨lw_p8, List.forall_mem_cons.mpr ⟨lw_p9, List.forall_mem_cons.mpr ⟨lw_p10, List.forall_mem_cons.mpr ⟨lw_p11, List.forall_mem_cons.mpr ⟨lw_p12, List.forall_mem_cons.mpr ⟨lw_p13, List.forall_mem_cons.mpr ⟨lw_p14, List.forall_mem_cons.mpr ⟨lw_p15, fun _ h => absurd h List.not_mem_nil⟩⟩⟩⟩⟩⟩⟩⟩⟩⟩⟩⟩⟩⟩⟩⟩
theorem lw_p16 : lw_okq (⟨"WheelStandsModel", "countDocks", "(II)I"⟩, 12) := ⟨⟨by decide +kernel, by decide +kernel⟩, List.mem_of_getElem? (i := 719) (by decide +kernel), List.mem_of_getElem? (i := 814) (by decide +kernel), List.mem_of_getElem? (i := 815) (by decide +kernel)⟩
theorem lw_p17 : lw_okq (⟨"WheelStandsModel", "countWheels", "(IIZ)I"⟩, 12) := ⟨⟨by decide +kernel, by decide +kernel⟩, List.mem_of_getElem? (i := 719) (by decide +kernel), List.mem_of_getElem? (i := 818) (by decide +kernel), List.mem_of_getElem? (i := 819) (by decide +kernel)⟩
theorem lw_p18 : lw_okq (⟨"WheelStandsModel", "of", "(II)I"⟩, 12) := ⟨⟨by decide +kernel, by decide +kernel⟩, List.mem_of_getElem? (i := 719) (by decide +kernel), List.mem_of_getElem? (i := 822) (by decide +kernel), List.mem_of_getElem? (i := 823) (by decide +kernel)⟩
theorem lw_p19 : lw_okq (⟨"WheelStandsModel", "fits", "(III)Z"⟩, 12) := ⟨⟨by decide +kernel, by decide +kernel⟩, List.mem_of_getElem? (i := 719) (by decide +kernel), List.mem_of_getElem? (i := 830) (by decide +kernel), List.mem_of_getElem? (i := 831) (by decide +kernel)⟩
theorem lw_p20 : lw_okq (⟨"WheelStandsModel", "isFree", "(II)Z"⟩, 12) := ⟨⟨by decide +kernel, by decide +kernel⟩, List.mem_of_getElem? (i := 719) (by decide +kernel), List.mem_of_getElem? (i := 834) (by decide +kernel), List.mem_of_getElem? (i := 835) (by decide +kernel)⟩
theorem lw_p21 : lw_okq (⟨"WheelStandsModel", "sets", "(III)V"⟩, 12) := ⟨⟨by decide +kernel, by decide +kernel⟩, List.mem_of_getElem? (i := 719) (by decide +kernel), List.mem_of_getElem? (i := 838) (by decide +kernel), List.mem_of_getElem? (i := 839) (by decide +kernel)⟩
theorem lw_p22 : lw_okq (⟨"WheelStandsModel", "comes", "(III)V"⟩, 12) := ⟨⟨by decide +kernel, by decide +kernel⟩, List.mem_of_getElem? (i := 719) (by decide +kernel), List.mem_of_getElem? (i := 845) (by decide +kernel), List.mem_of_getElem? (i := 846) (by decide +kernel)⟩
theorem lw_p23 : lw_okq (⟨"WheelStandsModel", "isWheel", "(I)Z"⟩, 12) := ⟨⟨by decide +kernel, by decide +kernel⟩, List.mem_of_getElem? (i := 719) (by decide +kernel), List.mem_of_getElem? (i := 853) (by decide +kernel), List.mem_of_getElem? (i := 854) (by decide +kernel)⟩
theorem lw_p24 : lw_okq (⟨"WheelStandsModel", "isEnough", "(II)Z"⟩, 12) := ⟨⟨by decide +kernel, by decide +kernel⟩, List.mem_of_getElem? (i := 719) (by decide +kernel), List.mem_of_getElem? (i := 888) (by decide +kernel), List.mem_of_getElem? (i := 889) (by decide +kernel)⟩
theorem lw_p25 : lw_okq (⟨"WheelStandsModel", "far", "(II)I"⟩, 12) := ⟨⟨by decide +kernel, by decide +kernel⟩, List.mem_of_getElem? (i := 719) (by decide +kernel), List.mem_of_getElem? (i := 892) (by decide +kernel), List.mem_of_getElem? (i := 893) (by decide +kernel)⟩
theorem lw_p26 : lw_okq (⟨"WheelStandsModel", "falls", "(I)I"⟩, 12) := ⟨⟨by decide +kernel, by decide +kernel⟩, List.mem_of_getElem? (i := 719) (by decide +kernel), List.mem_of_getElem? (i := 896) (by decide +kernel), List.mem_of_getElem? (i := 897) (by decide +kernel)⟩
theorem lw_p27 : lw_okq (⟨"WheelStandsModel", "hired", "(II)V"⟩, 12) := ⟨⟨by decide +kernel, by decide +kernel⟩, List.mem_of_getElem? (i := 719) (by decide +kernel), List.mem_of_getElem? (i := 900) (by decide +kernel), List.mem_of_getElem? (i := 901) (by decide +kernel)⟩
theorem lw_p28 : lw_okq (⟨"WheelStandsModel", "leaves", "(I)V"⟩, 12) := ⟨⟨by decide +kernel, by decide +kernel⟩, List.mem_of_getElem? (i := 719) (by decide +kernel), List.mem_of_getElem? (i := 904) (by decide +kernel), List.mem_of_getElem? (i := 905) (by decide +kernel)⟩
theorem lw_p29 : lw_okq (⟨"WheelStandsModel", "goes", "(II)V"⟩, 12) := ⟨⟨by decide +kernel, by decide +kernel⟩, List.mem_of_getElem? (i := 719) (by decide +kernel), List.mem_of_getElem? (i := 912) (by decide +kernel), List.mem_of_getElem? (i := 913) (by decide +kernel)⟩
theorem lw_p30 : lw_okq (⟨"WheelStandsModel", "arrives", "(III)Z"⟩, 12) := ⟨⟨by decide +kernel, by decide +kernel⟩, List.mem_of_getElem? (i := 719) (by decide +kernel), List.mem_of_getElem? (i := 916) (by decide +kernel), List.mem_of_getElem? (i := 917) (by decide +kernel)⟩
theorem lw_p31 : lw_okq (⟨"WheelStandsModel", "roomFor", "(II)I"⟩, 12) := ⟨⟨by decide +kernel, by decide +kernel⟩, List.mem_of_getElem? (i := 719) (by decide +kernel), List.mem_of_getElem? (i := 920) (by decide +kernel), List.mem_of_getElem? (i := 921) (by decide +kernel)⟩
def lw_privs_2 : List (MethodName × Nat) := [(⟨"WheelStandsModel", "countDocks", "(II)I"⟩, 12), (⟨"WheelStandsModel", "countWheels", "(IIZ)I"⟩, 12), (⟨"WheelStandsModel", "of", "(II)I"⟩, 12), (⟨"WheelStandsModel", "fits", "(III)Z"⟩, 12), (⟨"WheelStandsModel", "isFree", "(II)Z"⟩, 12), (⟨"WheelStandsModel", "sets", "(III)V"⟩, 12), (⟨"WheelStandsModel", "comes", "(III)V"⟩, 12), (⟨"WheelStandsModel", "isWheel", "(I)Z"⟩, 12), (⟨"WheelStandsModel", "isEnough", "(II)Z"⟩, 12), (⟨"WheelStandsModel", "far", "(II)I"⟩, 12), (⟨"WheelStandsModel", "falls", "(I)I"⟩, 12), (⟨"WheelStandsModel", "hired", "(II)V"⟩, 12), (⟨"WheelStandsModel", "leaves", "(I)V"⟩, 12), (⟨"WheelStandsModel", "goes", "(II)V"⟩, 12), (⟨"WheelStandsModel", "arrives", "(III)Z"⟩, 12), (⟨"WheelStandsModel", "roomFor", "(II)I"⟩, 12)]
theorem lw_r2 : ∀ q ∈ lw_privs_2, lw_okq q := List.forall_mem_cons.mpr ⟨lw_p16, List.forall_mem_cons.mpr ⟨lw_p17, List.forall_mem_cons.mpr ⟨lw_p18, List.forall_mem_cons.mpr ⟨lw_p19, List.forall_mem_cons.mpr ⟨lw_p20, List.forall_mem_cons.mpr ⟨lw_p21, List.forall_mem_cons.mpr ⟨lw_p22, List.forall_mem_cons.mpr ⟨lw_p23, List.forall_mem_cons.mpr ⟨lw_p24, List.forall_mem_cons.mpr ⟨lw_p25, List.forall_mem_cons.mpr ⟨lw_p26, List.forall_mem_cons.mpr ⟨lw_p27, List.forall_mem_cons.mpr ⟨lw_p28, List.forall_mem_cons.mpr ⟨lw_p29, List.forall_mem_cons.mpr ⟨lw_p30, List.forall_mem_cons.mpr ⟨lw_p31, fun _ h => absurd h List.not_mem_nil⟩⟩⟩⟩⟩⟩⟩⟩⟩⟩⟩⟩⟩⟩⟩⟩
theorem lw_p32 : lw_okq (⟨"WheelStandsModel", "streets", "(II)V"⟩, 12) := ⟨⟨by decide +kernel, by decide +kernel⟩, List.mem_of_getElem? (i := 719) (by decide +kernel), List.mem_of_getElem? (i := 924) (by decide +kernel), List.mem_of_getElem? (i := 925) (by decide +kernel)⟩
theorem lw_p33 : lw_okq (⟨"WheelStandsModel", "wagonAt", "(I)I"⟩, 12) := ⟨⟨by decide +kernel, by decide +kernel⟩, List.mem_of_getElem? (i := 719) (by decide +kernel), List.mem_of_getElem? (i := 936) (by decide +kernel), List.mem_of_getElem? (i := 937) (by decide +kernel)⟩
theorem lw_p34 : lw_okq (⟨"WheelStandsModel", "isCart", "(I)Z"⟩, 12) := ⟨⟨by decide +kernel, by decide +kernel⟩, List.mem_of_getElem? (i := 719) (by decide +kernel), List.mem_of_getElem? (i := 944) (by decide +kernel), List.mem_of_getElem? (i := 945) (by decide +kernel)⟩
theorem lw_p35 : lw_okq (⟨"WheelStandsModel", "allows", "(II)Z"⟩, 12) := ⟨⟨by decide +kernel, by decide +kernel⟩, List.mem_of_getElem? (i := 719) (by decide +kernel), List.mem_of_getElem? (i := 952) (by decide +kernel), List.mem_of_getElem? (i := 953) (by decide +kernel)⟩
theorem lw_p36 : lw_okq (⟨"WheelStandsModel", "taken", "(I)I"⟩, 12) := ⟨⟨by decide +kernel, by decide +kernel⟩, List.mem_of_getElem? (i := 719) (by decide +kernel), List.mem_of_getElem? (i := 956) (by decide +kernel), List.mem_of_getElem? (i := 957) (by decide +kernel)⟩
theorem lw_p37 : lw_okq (⟨"WheelStandsModel", "climbs", "(II)V"⟩, 12) := ⟨⟨by decide +kernel, by decide +kernel⟩, List.mem_of_getElem? (i := 719) (by decide +kernel), List.mem_of_getElem? (i := 960) (by decide +kernel), List.mem_of_getElem? (i := 961) (by decide +kernel)⟩
theorem lw_p38 : lw_okq (⟨"WheelStandsModel", "goesThrough", "(II)V"⟩, 12) := ⟨⟨by decide +kernel, by decide +kernel⟩, List.mem_of_getElem? (i := 719) (by decide +kernel), List.mem_of_getElem? (i := 984) (by decide +kernel), List.mem_of_getElem? (i := 985) (by decide +kernel)⟩
theorem lw_p39 : lw_okq (⟨"WheelStandsModel", "finds", "()V"⟩, 12) := ⟨⟨by decide +kernel, by decide +kernel⟩, List.mem_of_getElem? (i := 719) (by decide +kernel), List.mem_of_getElem? (i := 1000) (by decide +kernel), List.mem_of_getElem? (i := 1001) (by decide +kernel)⟩
theorem lw_p40 : lw_okq (⟨"WheelStandsModel", "lengthOf", "(I)I"⟩, 12) := ⟨⟨by decide +kernel, by decide +kernel⟩, List.mem_of_getElem? (i := 719) (by decide +kernel), List.mem_of_getElem? (i := 1004) (by decide +kernel), List.mem_of_getElem? (i := 1005) (by decide +kernel)⟩
theorem lw_p41 : lw_okq (⟨"WheelStandsModel", "turns", "()Z"⟩, 12) := ⟨⟨by decide +kernel, by decide +kernel⟩, List.mem_of_getElem? (i := 719) (by decide +kernel), List.mem_of_getElem? (i := 1008) (by decide +kernel), List.mem_of_getElem? (i := 1009) (by decide +kernel)⟩
theorem lw_p42 : lw_okq (⟨"WheelStandsModel", "overAt", "(I)I"⟩, 12) := ⟨⟨by decide +kernel, by decide +kernel⟩, List.mem_of_getElem? (i := 719) (by decide +kernel), List.mem_of_getElem? (i := 1022) (by decide +kernel), List.mem_of_getElem? (i := 1023) (by decide +kernel)⟩
def lw_privs_3 : List (MethodName × Nat) := [(⟨"WheelStandsModel", "streets", "(II)V"⟩, 12), (⟨"WheelStandsModel", "wagonAt", "(I)I"⟩, 12), (⟨"WheelStandsModel", "isCart", "(I)Z"⟩, 12), (⟨"WheelStandsModel", "allows", "(II)Z"⟩, 12), (⟨"WheelStandsModel", "taken", "(I)I"⟩, 12), (⟨"WheelStandsModel", "climbs", "(II)V"⟩, 12), (⟨"WheelStandsModel", "goesThrough", "(II)V"⟩, 12), (⟨"WheelStandsModel", "finds", "()V"⟩, 12), (⟨"WheelStandsModel", "lengthOf", "(I)I"⟩, 12), (⟨"WheelStandsModel", "turns", "()Z"⟩, 12), (⟨"WheelStandsModel", "overAt", "(I)I"⟩, 12)]
theorem lw_r3 : ∀ q ∈ lw_privs_3, lw_okq q := List.forall_mem_cons.mpr ⟨lw_p32, List.forall_mem_cons.mpr ⟨lw_p33, List.forall_mem_cons.mpr ⟨lw_p34, List.forall_mem_cons.mpr ⟨lw_p35, List.forall_mem_cons.mpr ⟨lw_p36, List.forall_mem_cons.mpr ⟨lw_p37, List.forall_mem_cons.mpr ⟨lw_p38, List.forall_mem_cons.mpr ⟨lw_p39, List.forall_mem_cons.mpr ⟨lw_p40, List.forall_mem_cons.mpr ⟨lw_p41, List.forall_mem_cons.mpr ⟨lw_p42, fun _ h => absurd h List.not_mem_nil⟩⟩⟩⟩⟩⟩⟩⟩⟩⟩⟩
def lw_privs : List (MethodName × Nat) := lw_privs_1 ++ (lw_privs_2 ++ (lw_privs_3))
def lw_tbl : List Cond := k2_sels lw_privs ++ tables_1
theorem lw_privs_ok : ∀ q ∈ lw_privs, lw_okq q := by
  show ∀ q ∈ lw_privs_1 ++ (lw_privs_2 ++ (lw_privs_3)), lw_okq q
  exact List.forall_mem_append.mpr ⟨lw_r1, List.forall_mem_append.mpr ⟨lw_r2, lw_r3⟩⟩
/-- the streams that the claim lets the run draw from -/
abbrev lw_cs : List Choice := [Jvm.Choice.named "NaN.bits"]
theorem lw_bits : nanBits ∈ lw_cs := by first | decide | exact List.mem_cons_self | simp [lw_cs, nanBits]
end
section
def RX0 : String := "WheelStands$Cart"
def TX0 : u_T := fun k => match k with
  | 0 => ("WheelStands$Cart", "number", "I", true)
  | 1 => ("WheelStands$Cart", "load", "I", false)
  | 2 => ("WheelStands$Cart", "stand", "I", false)
  | 3 => ("WheelStands$Cart", "taken", "I", false)
  | 4 => ("WheelStands$Cart", "gone", "I", false)
  | 5 => ("WheelStands$Cart", "row", "[I", true)
  | _ => ("WheelStands$Cart", "count", "I", false)
def tyX0 : Nat → FieldType := fun k => match k with
  | 0 => .int
  | 1 => .int
  | 2 => .int
  | 3 => .int
  | 4 => .int
  | 5 => .array .int
  | _ => .int
theorem nmX0 : ∀ a, a < 7 → ∀ b, b < 7 → a ≠ b → (TX0 a).2.1 ≠ (TX0 b).2.1 := by decide +kernel
theorem tyX0_ok : ∀ k, k < 7 → parseFieldDescriptor (TX0 k).2.2.1 = some (tyX0 k) := by decide +kernel
def RX1 : String := "WheelStands$Demand"
def TX1 : u_T := fun k => match k with
  | 0 => ("WheelStands$Demand", "known", "Z", false)
  | 1 => ("WheelStands$Demand", "bringing", "[I", true)
  | _ => ("WheelStands$Demand", "wanting", "[I", true)
def tyX1 : Nat → FieldType := fun k => match k with
  | 0 => .boolean
  | 1 => .array .int
  | _ => .array .int
theorem nmX1 : ∀ a, a < 3 → ∀ b, b < 3 → a ≠ b → (TX1 a).2.1 ≠ (TX1 b).2.1 := by decide +kernel
theorem tyX1_ok : ∀ k, k < 3 → parseFieldDescriptor (TX1 k).2.2.1 = some (tyX1 k) := by decide +kernel
def RX2 : String := "WheelStands$Stand"
def TX2 : u_T := fun k => match k with
  | 0 => ("WheelStands$Stand", "number", "I", true)
  | 1 => ("WheelStands$Stand", "docks", "I", false)
  | 2 => ("WheelStands$Stand", "content", "[I", true)
  | 3 => ("WheelStands$Stand", "lengths", "[I", true)
  | 4 => ("WheelStands$Stand", "others", "[I", true)
  | 5 => ("WheelStands$Stand", "otherCount", "I", false)
  | 6 => ("WheelStands$Stand", "wanted", "I", false)
  | 7 => ("WheelStands$Stand", "failed", "I", false)
  | _ => ("WheelStands$Stand", "demand", "LWheelStands$Demand;", true)
def tyX2 : Nat → FieldType := fun k => match k with
  | 0 => .int
  | 1 => .int
  | 2 => .array .int
  | 3 => .array .int
  | 4 => .array .int
  | 5 => .int
  | 6 => .int
  | 7 => .int
  | _ => .object "WheelStands$Demand"
theorem nmX2 : ∀ a, a < 9 → ∀ b, b < 9 → a ≠ b → (TX2 a).2.1 ≠ (TX2 b).2.1 := by decide +kernel
theorem tyX2_ok : ∀ k, k < 9 → parseFieldDescriptor (TX2 k).2.2.1 = some (tyX2 k) := by decide +kernel
def RX3 : String := "WheelStands$Tour"
def TX3 : u_T := fun k => match k with
  | 0 => ("WheelStands$Tour", "stops", "[I", true)
  | 1 => ("WheelStands$Tour", "stopCount", "I", false)
  | 2 => ("WheelStands$Tour", "stands", "[I", true)
  | 3 => ("WheelStands$Tour", "surplus", "[I", true)
  | 4 => ("WheelStands$Tour", "count", "I", false)
  | 5 => ("WheelStands$Tour", "held", "[I", true)
  | _ => ("WheelStands$Tour", "left", "[I", true)
def tyX3 : Nat → FieldType := fun k => match k with
  | 0 => .array .int
  | 1 => .int
  | 2 => .array .int
  | 3 => .array .int
  | 4 => .int
  | 5 => .array .int
  | _ => .array .int
theorem nmX3 : ∀ a, a < 7 → ∀ b, b < 7 → a ≠ b → (TX3 a).2.1 ≠ (TX3 b).2.1 := by decide +kernel
theorem tyX3_ok : ∀ k, k < 7 → parseFieldDescriptor (TX3 k).2.2.1 = some (tyX3 k) := by decide +kernel
def RX4 : String := "WheelStands$Town"
def TX4 : u_T := fun k => match k with
  | 0 => ("WheelStands$Town", "stands", "[LWheelStands$Stand;", true)
  | 1 => ("WheelStands$Town", "standCount", "I", false)
  | 2 => ("WheelStands$Town", "wheels", "[LWheelStands$Wheel;", true)
  | 3 => ("WheelStands$Town", "wheelCount", "I", false)
  | 4 => ("WheelStands$Town", "carts", "[LWheelStands$Cart;", true)
  | 5 => ("WheelStands$Town", "cartCount", "I", false)
  | _ => ("WheelStands$Town", "hour", "I", false)
def tyX4 : Nat → FieldType := fun k => match k with
  | 0 => .array (.object "WheelStands$Stand")
  | 1 => .int
  | 2 => .array (.object "WheelStands$Wheel")
  | 3 => .int
  | 4 => .array (.object "WheelStands$Cart")
  | 5 => .int
  | _ => .int
theorem nmX4 : ∀ a, a < 7 → ∀ b, b < 7 → a ≠ b → (TX4 a).2.1 ≠ (TX4 b).2.1 := by decide +kernel
theorem tyX4_ok : ∀ k, k < 7 → parseFieldDescriptor (TX4 k).2.2.1 = some (tyX4 k) := by decide +kernel
def RX5 : String := "WheelStands$Wheel"
def TX5 : u_T := fun k => match k with
  | 0 => ("WheelStands$Wheel", "number", "I", true)
  | 1 => ("WheelStands$Wheel", "kind", "I", false)
  | 2 => ("WheelStands$Wheel", "charge", "I", false)
  | 3 => ("WheelStands$Wheel", "place", "I", false)
  | 4 => ("WheelStands$Wheel", "stand", "I", false)
  | 5 => ("WheelStands$Wheel", "spot", "I", false)
  | 6 => ("WheelStands$Wheel", "doubt", "I", false)
  | 7 => ("WheelStands$Wheel", "broken", "Z", false)
  | 8 => ("WheelStands$Wheel", "known", "Z", false)
  | _ => ("WheelStands$Wheel", "partner", "I", false)
def tyX5 : Nat → FieldType := fun k => match k with
  | 0 => .int
  | 1 => .int
  | 2 => .int
  | 3 => .int
  | 4 => .int
  | 5 => .int
  | 6 => .int
  | 7 => .boolean
  | 8 => .boolean
  | _ => .int
theorem nmX5 : ∀ a, a < 10 → ∀ b, b < 10 → a ≠ b → (TX5 a).2.1 ≠ (TX5 b).2.1 := by decide +kernel
theorem tyX5_ok : ∀ k, k < 10 → parseFieldDescriptor (TX5 k).2.2.1 = some (tyX5 k) := by decide +kernel
def RX6 : String := "WheelStands"
def TX6 : u_T := fun k => match k with
  | 0 => ("WheelStands", "town", "LWheelStands$Town;", true)
  | 1 => ("WheelStands", "images", "[LWheelStands$Town;", true)
  | _ => ("WheelStands", "tour", "LWheelStands$Tour;", true)
def tyX6 : Nat → FieldType := fun k => match k with
  | 0 => .object "WheelStands$Town"
  | 1 => .array (.object "WheelStands$Town")
  | _ => .object "WheelStands$Tour"
theorem nmX6 : ∀ a, a < 3 → ∀ b, b < 3 → a ≠ b → (TX6 a).2.1 ≠ (TX6 b).2.1 := by decide +kernel
theorem tyX6_ok : ∀ k, k < 3 → parseFieldDescriptor (TX6 k).2.2.1 = some (tyX6 k) := by decide +kernel
def RX7 : String := "WheelStandsModel"
def TX7 : u_T := fun k => match k with
  | 0 => ("WheelStandsModel", "all", "[I", true)
  | 1 => ("WheelStandsModel", "has", "[Z", true)
  | 2 => ("WheelStandsModel", "away", "I", false)
  | 3 => ("WheelStandsModel", "firstHour", "I", false)
  | 4 => ("WheelStandsModel", "rest", "I", false)
  | 5 => ("WheelStandsModel", "outs", "[I", true)
  | 6 => ("WheelStandsModel", "over", "[I", true)
  | 7 => ("WheelStandsModel", "outMany", "I", false)
  | 8 => ("WheelStandsModel", "tried", "[I", true)
  | 9 => ("WheelStandsModel", "best", "[I", true)
  | 10 => ("WheelStandsModel", "round", "[I", true)
  | _ => ("WheelStandsModel", "roundMany", "I", false)
def tyX7 : Nat → FieldType := fun k => match k with
  | 0 => .array .int
  | 1 => .array .boolean
  | 2 => .int
  | 3 => .int
  | 4 => .int
  | 5 => .array .int
  | 6 => .array .int
  | 7 => .int
  | 8 => .array .int
  | 9 => .array .int
  | 10 => .array .int
  | _ => .int
theorem nmX7 : ∀ a, a < 12 → ∀ b, b < 12 → a ≠ b → (TX7 a).2.1 ≠ (TX7 b).2.1 := by decide +kernel
theorem tyX7_ok : ∀ k, k < 12 → parseFieldDescriptor (TX7 k).2.2.1 = some (tyX7 k) := by decide +kernel
abbrev vwCl : List vw_C := [(RX0, TX0, 7), (RX1, TX1, 3), (RX2, TX2, 9), (RX3, TX3, 7), (RX4, TX4, 7), (RX5, TX5, 10), (RX6, TX6, 3), (RX7, TX7, 12)]
def xkn : List String := [RX0, RX1, RX2, RX3, RX4, RX5, RX6, RX7]
def xnsl (c : Nat) : Nat := [7, 3, 9, 7, 7, 10, 3, 12].getD c 0
def xrfl : List (List Bool) := [[false, false, false, false, false, true, false], [false, true, true], [false, false, true, true, true, false, false, false, true], [true, false, true, true, false, true, true], [true, false, true, false, true, false, false], [false, false, false, false, false, false, false, false, false, false], [true, true, true], [true, true, false, false, false, true, true, false, true, true, true, false]]
def xrf (c j : Nat) : Bool := (xrfl.getD c []).getD j false
def xfl : List (Nat × String × Nat × Nat × Nat) := [
  (198, RX0, 9, 0, 0), (211, RX0, 15, 0, 5), (199, RX0, 19, 0, 1), (202, RX0, 22, 0, 2), (206, RX0, 25, 0, 3), (208, RX0, 28, 0, 4), (212, RX0, 31, 0, 6), (142, RX0, 50, 5, 0),
  (83, RX1, 11, 1, 1), (84, RX1, 15, 1, 2), (81, RX1, 18, 1, 0), (93, RX2, 9, 2, 0), (98, RX2, 15, 2, 2), (101, RX2, 21, 2, 3), (103, RX2, 24, 2, 4), (113, RX2, 30, 2, 8),
  (95, RX2, 34, 2, 1), (104, RX2, 37, 2, 5), (107, RX2, 40, 2, 6), (110, RX2, 43, 2, 7), (265, RX3, 11, 3, 0), (268, RX3, 15, 3, 2), (269, RX3, 18, 3, 3), (271, RX3, 21, 3, 5),
  (272, RX3, 24, 3, 6), (266, RX3, 27, 3, 1), (213, RX3, 31, 0, 6), (200, RX3, 43, 0, 1), (203, RX3, 50, 0, 2), (270, RX3, 61, 3, 4), (232, RX3, 62, 4, 1), (230, RX3, 67, 4, 0),
  (229, RX4, 13, 4, 0), (234, RX4, 22, 4, 2), (238, RX4, 29, 4, 4), (231, RX4, 34, 4, 1), (236, RX4, 38, 4, 3), (239, RX4, 41, 4, 5), (241, RX4, 44, 4, 6), (99, RX4, 65, 2, 2),
  (143, RX4, 81, 5, 0), (151, RX4, 87, 5, 3), (165, RX4, 90, 5, 8), (147, RX4, 98, 5, 1), (109, RX4, 101, 2, 6), (94, RX4, 104, 2, 0), (155, RX4, 132, 5, 4), (158, RX4, 135, 5, 5),
  (161, RX4, 142, 5, 6), (169, RX4, 148, 5, 9), (106, RX4, 155, 2, 5), (112, RX4, 171, 2, 7), (210, RX4, 174, 0, 4), (205, RX4, 177, 0, 2), (97, RX4, 199, 2, 1), (141, RX5, 9, 5, 0),
  (145, RX5, 15, 5, 1), (148, RX5, 22, 5, 2), (159, RX5, 25, 5, 6), (162, RX5, 28, 5, 7), (164, RX5, 32, 5, 8), (167, RX5, 35, 5, 9), (150, RX5, 42, 5, 3), (153, RX5, 45, 5, 4),
  (156, RX5, 48, 5, 5), (288, RX6, 10, 6, 0), (289, RX6, 16, 6, 1), (290, RX6, 23, 6, 2), (102, RX6, 37, 2, 3), (105, RX6, 44, 2, 5), (114, RX6, 48, 2, 8), (82, RX6, 52, 1, 0),
  (100, RX6, 65, 2, 2), (96, RX6, 68, 2, 1), (111, RX6, 84, 2, 7), (108, RX6, 87, 2, 6), (149, RX6, 112, 5, 2), (146, RX6, 115, 5, 1), (152, RX6, 118, 5, 3), (154, RX6, 121, 5, 4),
  (157, RX6, 124, 5, 5), (160, RX6, 127, 5, 6), (166, RX6, 130, 5, 8), (168, RX6, 131, 5, 9), (163, RX6, 134, 5, 7), (237, RX6, 137, 4, 3), (235, RX6, 140, 4, 2), (144, RX6, 158, 5, 0),
  (242, RX6, 168, 4, 6), (209, RX6, 184, 0, 4), (204, RX6, 187, 0, 2), (201, RX6, 207, 0, 1), (207, RX6, 210, 0, 3), (267, RX6, 234, 3, 1), (233, RX6, 244, 4, 1), (240, RX6, 247, 4, 5),
  (767, RX7, 7, 7, 0), (768, RX7, 13, 7, 1), (772, RX7, 17, 7, 5), (773, RX7, 20, 7, 6), (775, RX7, 23, 7, 8), (776, RX7, 26, 7, 9), (777, RX7, 29, 7, 10), (769, RX7, 138, 7, 2),
  (770, RX7, 142, 7, 3), (771, RX7, 145, 7, 4), (774, RX7, 151, 7, 7), (778, RX7, 164, 7, 11)]
def xml : List (Nat × String × Nat × Nat) := [
  (571, RX0, 40, 70), (581, RX0, 46, 3), (582, RX0, 51, 68), (617, RX1, 28, 8), (641, RX1, 38, 12), (77, RX2, 29, 7), (310, RX2, 46, 9), (731, RX2, 55, 10),
  (358, RX2, 65, 21), (385, RX2, 69, 17), (516, RX2, 73, 24), (654, RX3, 36, 30), (664, RX3, 40, 32), (672, RX3, 46, 33), (676, RX3, 53, 34), (687, RX3, 58, 36),
  (658, RX3, 70, 51), (663, RX3, 74, 22), (668, RX3, 80, 31), (681, RX3, 83, 35), (685, RX3, 93, 52), (691, RX3, 96, 37), (71, RX4, 17, 14), (137, RX4, 26, 65),
  (194, RX4, 33, 0), (724, RX4, 47, 16), (736, RX4, 51, 67), (740, RX4, 54, 2), (462, RX4, 57, 40), (463, RX4, 61, 17), (464, RX4, 69, 41), (306, RX4, 73, 15),
  (390, RX4, 76, 66), (402, RX4, 77, 54), (547, RX4, 84, 1), (366, RX4, 94, 76), (662, RX4, 105, 50), (473, RX4, 109, 20), (469, RX4, 112, 52), (406, RX4, 121, 70),
  (411, RX4, 125, 26), (415, RX4, 129, 68), (492, RX4, 138, 57), (496, RX4, 145, 55), (508, RX4, 151, 59), (517, RX4, 158, 19), (521, RX4, 161, 60), (525, RX4, 165, 74),
  (512, RX4, 168, 25), (576, RX4, 178, 3), (577, RX4, 182, 5), (600, RX4, 185, 4), (601, RX4, 188, 6), (711, RX4, 191, 61), (712, RX4, 195, 51), (713, RX4, 202, 43),
  (714, RX4, 206, 62), (715, RX4, 210, 63), (394, RX5, 18, 71), (398, RX5, 38, 68), (410, RX5, 51, 69), (484, RX5, 55, 72), (64, RX6, 9, 38), (261, RX6, 22, 27),
  (302, RX6, 29, 44), (318, RX6, 33, 40), (326, RX6, 41, 18), (337, RX6, 58, 9), (342, RX6, 61, 17), (354, RX6, 71, 22), (362, RX6, 77, 49), (370, RX6, 81, 50),
  (378, RX6, 90, 69), (381, RX6, 93, 24), (386, RX6, 97, 45), (420, RX6, 101, 41), (424, RX6, 105, 71), (425, RX6, 109, 111), (458, RX6, 144, 43), (465, RX6, 148, 53),
  (480, RX6, 151, 73), (488, RX6, 154, 56), (504, RX6, 161, 58), (534, RX6, 165, 75), (543, RX6, 173, 46), (555, RX6, 176, 42), (559, RX6, 180, 61), (567, RX6, 188, 3),
  (572, RX6, 192, 62), (587, RX6, 196, 5), (592, RX6, 200, 4), (596, RX6, 203, 63), (613, RX6, 213, 11), (624, RX6, 217, 23), (628, RX6, 220, 12), (637, RX6, 224, 13),
  (650, RX6, 227, 29), (699, RX6, 231, 28), (707, RX6, 237, 64), (720, RX6, 240, 39), (753, RX6, 250, 47), (757, RX6, 253, 48), (825, RX7, 32, 113), (809, RX7, 36, 117),
  (813, RX7, 40, 119), (821, RX7, 44, 114), (844, RX7, 48, 118), (840, RX7, 51, 125), (864, RX7, 54, 129), (856, RX7, 57, 128), (860, RX7, 60, 131), (876, RX7, 64, 133),
  (872, RX7, 67, 134), (880, RX7, 71, 130), (884, RX7, 75, 138), (887, RX7, 78, 136), (895, RX7, 88, 115), (899, RX7, 91, 140), (934, RX7, 94, 120), (938, RX7, 97, 147),
  (946, RX7, 100, 137), (930, RX7, 104, 148), (942, RX7, 107, 149), (962, RX7, 111, 135), (954, RX7, 114, 151), (958, RX7, 117, 152), (966, RX7, 120, 153), (978, RX7, 123, 156),
  (986, RX7, 126, 116), (998, RX7, 129, 159), (994, RX7, 132, 160), (1002, RX7, 135, 161), (1026, RX7, 148, 167), (1042, RX7, 154, 171), (1046, RX7, 157, 172), (1050, RX7, 160, 173),
  (1062, RX7, 167, 174), (1063, RX7, 170, 158), (1064, RX7, 173, 176), (1068, RX7, 176, 162), (1069, RX7, 179, 164), (56, "WheelStandsLaw", 9, 77), (763, "WheelStandsLaw", 12, 112), (298, "WheelStandsLaw", 13, 78),
  (805, "WheelStandsLaw", 17, 121), (314, "WheelStandsLaw", 18, 79), (817, "WheelStandsLaw", 22, 122), (322, "WheelStandsLaw", 23, 80), (828, "WheelStandsLaw", 27, 123), (333, "WheelStandsLaw", 28, 81), (832, "WheelStandsLaw", 32, 124), (338, "WheelStandsLaw", 33, 82),
  (836, "WheelStandsLaw", 37, 126), (346, "WheelStandsLaw", 38, 83), (848, "WheelStandsLaw", 41, 127), (350, "WheelStandsLaw", 42, 84), (852, "WheelStandsLaw", 45, 132), (374, "WheelStandsLaw", 46, 85), (868, "WheelStandsLaw", 50, 139), (416, "WheelStandsLaw", 51, 86),
  (891, "WheelStandsLaw", 54, 141), (434, "WheelStandsLaw", 55, 87), (906, "WheelStandsLaw", 58, 142), (438, "WheelStandsLaw", 59, 88), (910, "WheelStandsLaw", 63, 143), (442, "WheelStandsLaw", 64, 89), (914, "WheelStandsLaw", 67, 144), (446, "WheelStandsLaw", 68, 90),
  (918, "WheelStandsLaw", 71, 145), (450, "WheelStandsLaw", 72, 91), (922, "WheelStandsLaw", 75, 146), (454, "WheelStandsLaw", 76, 92), (926, "WheelStandsLaw", 79, 150), (500, "WheelStandsLaw", 80, 93), (950, "WheelStandsLaw", 83, 154), (530, "WheelStandsLaw", 84, 94),
  (970, "WheelStandsLaw", 88, 155), (539, "WheelStandsLaw", 89, 95), (974, "WheelStandsLaw", 92, 157), (551, "WheelStandsLaw", 93, 96), (982, "WheelStandsLaw", 96, 158), (563, "WheelStandsLaw", 97, 97), (990, "WheelStandsLaw", 100, 162), (583, "WheelStandsLaw", 101, 98),
  (1006, "WheelStandsLaw", 104, 163), (588, "WheelStandsLaw", 105, 99), (1010, "WheelStandsLaw", 108, 164), (605, "WheelStandsLaw", 109, 100), (1014, "WheelStandsLaw", 112, 165), (609, "WheelStandsLaw", 113, 101), (1018, "WheelStandsLaw", 117, 166), (620, "WheelStandsLaw", 118, 102),
  (1022, "WheelStandsLaw", 121, 168), (633, "WheelStandsLaw", 122, 103), (1030, "WheelStandsLaw", 125, 169), (642, "WheelStandsLaw", 126, 104), (1034, "WheelStandsLaw", 129, 170), (646, "WheelStandsLaw", 130, 105), (1038, "WheelStandsLaw", 133, 174), (695, "WheelStandsLaw", 134, 106),
  (1054, "WheelStandsLaw", 137, 175), (703, "WheelStandsLaw", 138, 107), (1058, "WheelStandsLaw", 141, 177), (716, "WheelStandsLaw", 142, 108), (1070, "WheelStandsLaw", 145, 178), (745, "WheelStandsLaw", 146, 109), (1074, "WheelStandsLaw", 149, 179), (749, "WheelStandsLaw", 150, 110),
  (1078, "WheelStandsLaw", 153, 180)]
def xcl : List (Nat × String × Nat × String) := [
  (75, RX2, 27, RX1), (68, RX4, 11, RX2), (134, RX4, 20, RX5), (191, RX4, 27, RX0), (62, RX6, 7, RX4), (259, RX6, 20, RX3), (54, "WheelStandsLaw", 7, RX6), (761, "WheelStandsLaw", 10, RX7)]
def xcn : List (Nat × String × Nat × Int32 × Nat) := [
  (680, RX3, 57, (1000000 : Int32), 0)]
def xsw : List ((Int × Int × Int × Array Int × Nat) × Nat × List Nat) := [
  ((36, 0, 2, #[27, 30, 33], 27), 68, [62, 64, 66]),
  ((101, 0, 7, #[47, 52, 57, 67, 76, 81, 86, 91], 47), 43, [11, 14, 17, 23, 28, 31, 34, 37]),
  ((95, 0, 7, #[47, 52, 57, 62, 67, 72, 77, 90], 47), 39, [11, 14, 17, 20, 23, 26, 29, 36]),
  ((51, 0, 3, #[31, 36, 41, 46], 31), 25, [13, 16, 19, 22]),
  ((127, 0, 8, #[51, 59, 67, 75, 84, 93, 102, 111, 119], 51), 42, [2, 6, 10, 14, 19, 24, 29, 34, 38]),
  ((127, 0, 7, #[48, 54, 61, 69, 77, 91, 105, 119], 48), 62, [8, 12, 17, 23, 29, 38, 47, 56]),
  ((131, 0, 7, #[45, 45, 45, 52, 68, 45, 97, 114], 45), 65, [13, 13, 13, 18, 28, 13, 45, 55]),
  ((54, 0, 3, #[30, 30, 39, 45], 30), 32, [14, 14, 21, 25]),
  ((142, 0, 8, #[49, 49, 49, 56, 56, 56, 56, 96, 135], 49), 64, [4, 4, 4, 9, 9, 9, 9, 35, 59]),
  ((1183, 0, 32, #[148, 171, 214, 247, 280, 339, 372, 405, 448, 481, 514, 537, 560, 583, 616, 659, 692, 705, 738, 771, 804, 837, 860, 893, 946, 989, 1012, 1045, 1068, 1091, 1114, 1137, 1160], 148), 851, [22, 39, 76, 103, 130, 175, 202, 229, 266, 293, 320, 337, 354, 371, 398, 435, 462, 469, 496, 523, 550, 577, 594, 621, 668, 705, 722, 749, 766, 783, 800, 817, 834])]
/-- an instruction: number, int, place, link, byte -/
abbrev xI : Type := Nat × Int × Nat × Nat × Nat
def x_63 : xI := (63, 0, 0, 0, 0)
def xc0 : List xI := [
  (2, 0, 0, 0, 0), (43, 0, 3, 197, 1), (2, 0, 0, 0, 4), (1, 0, 1, 0, 5), (26, 0, 0, 0, 6), (2, 0, 0, 0, 9), (0, 8, 0, 1, 10), (36, 0, 0, 0, 12), (27, 0, 5, 1, 14), (53, 0, 0, 0, 17)]
def xc1 : List xI := [
  (2, 0, 0, 0, 0), (1, 0, 1, 0, 1), (26, 0, 1, 2, 2), (2, 0, 0, 0, 5), (1, 0, 2, 0, 6), (26, 0, 2, 3, 7), (2, 0, 0, 0, 10), (0, 0, 0, 0, 11), (26, 0, 3, 4, 12), (2, 0, 0, 0, 15),
  (0, 0, 0, 0, 16), (26, 0, 4, 5, 17), (2, 0, 0, 0, 20), (0, 0, 0, 0, 21), (26, 0, 6, 6, 22), (53, 0, 0, 0, 25)]
def xc2 : List xI := [
  (2, 0, 0, 0, 0), (2, 0, 1, 0, 1), (24, 0, 1, 2, 2), (26, 0, 1, 2, 5), (2, 0, 0, 0, 8), (2, 0, 1, 0, 9), (24, 0, 2, 3, 10), (26, 0, 2, 3, 13), (2, 0, 0, 0, 16), (2, 0, 1, 0, 17),
  (24, 0, 3, 4, 18), (26, 0, 3, 4, 21), (2, 0, 0, 0, 24), (2, 0, 1, 0, 25), (24, 0, 4, 5, 26), (26, 0, 4, 5, 29), (2, 0, 0, 0, 32), (2, 0, 1, 0, 33), (24, 0, 6, 6, 34), (26, 0, 6, 6, 37),
  (2, 0, 1, 0, 40), (25, 0, 5, 1, 41), (0, 0, 0, 0, 44), (2, 0, 0, 0, 45), (25, 0, 5, 1, 46), (0, 0, 0, 0, 49), (0, 8, 0, 1, 50), (46, 0, 34, 744, 52), (53, 0, 0, 0, 55)]
def xc3 : List xI := [
  (2, 0, 0, 0, 0), (24, 0, 3, 4, 1), (2, 0, 1, 0, 4), (40, 0, 70, 0, 5), (6, 0, 0, 0, 8), (2, 0, 0, 0, 9), (24, 0, 1, 2, 10), (16, 0, 14, 4, 13), (2, 0, 0, 0, 16), (24, 0, 6, 6, 17),
  (0, 8, 0, 1, 20), (16, 0, 14, 3, 22), (0, 1, 0, 0, 25), (17, 0, 15, 0, 26), (0, 0, 0, 0, 29), (51, 0, 0, 0, 30)]
def xc4 : List xI := [
  (1, 0, 1, 0, 0), (15, 0, 14, 2, 1), (1, 0, 1, 0, 4), (2, 0, 0, 0, 5), (24, 0, 6, 6, 6), (16, 0, 14, 3, 9), (1, 0, 1, 0, 12), (0, 8, 0, 1, 13), (16, 0, 14, 3, 15), (2, 0, 0, 0, 18),
  (25, 0, 5, 1, 19), (1, 0, 1, 0, 22), (28, 0, 0, 0, 23), (17, 0, 15, 0, 24), (0, -1, 0, 0, 27), (50, 0, 0, 0, 28)]
def xc5 : List xI := [
  (2, 0, 0, 0, 0), (2, 0, 1, 0, 1), (40, 0, 3, 1, 2), (15, 0, 30, 0, 5), (2, 0, 0, 0, 8), (25, 0, 5, 1, 9), (2, 0, 0, 0, 12), (24, 0, 6, 6, 13), (2, 0, 1, 0, 16), (24, 0, 80, 7, 17),
  (29, 0, 0, 0, 20), (2, 0, 0, 0, 21), (21, 0, 0, 0, 22), (24, 0, 6, 6, 23), (0, 1, 0, 0, 26), (6, 0, 0, 0, 27), (26, 0, 6, 6, 28), (2, 0, 0, 0, 31), (21, 0, 0, 0, 32), (24, 0, 3, 4, 33),
  (2, 0, 1, 0, 36), (40, 0, 70, 0, 37), (6, 0, 0, 0, 40), (26, 0, 3, 4, 41), (2, 0, 1, 0, 44), (0, 1, 0, 0, 45), (0, -1, 0, 0, 46), (2, 0, 0, 0, 47), (24, 0, 0, 0, 48), (40, 0, 68, 2, 51),
  (53, 0, 0, 0, 54)]
def xc6 : List xI := [
  (0, 1, 0, 0, 0), (3, 0, 2, 0, 1), (1, 0, 2, 0, 2), (2, 0, 0, 0, 3), (24, 0, 6, 6, 4), (16, 0, 18, 3, 7), (2, 0, 0, 0, 10), (25, 0, 5, 1, 11), (1, 0, 2, 0, 14), (0, 1, 0, 0, 15),
  (7, 0, 0, 0, 16), (2, 0, 0, 0, 17), (25, 0, 5, 1, 18), (1, 0, 2, 0, 21), (28, 0, 0, 0, 22), (29, 0, 0, 0, 23), (5, 1, 2, 0, 24), (17, 0, 2, 0, 27), (2, 0, 0, 0, 30), (21, 0, 0, 0, 31),
  (24, 0, 6, 6, 32), (0, 1, 0, 0, 35), (7, 0, 0, 0, 36), (26, 0, 6, 6, 37), (2, 0, 0, 0, 40), (21, 0, 0, 0, 41), (24, 0, 3, 4, 42), (2, 0, 1, 0, 45), (40, 0, 70, 0, 46), (7, 0, 0, 0, 49),
  (26, 0, 3, 4, 50), (53, 0, 0, 0, 53)]
def xc7 : List xI := [
  (2, 0, 0, 0, 0), (43, 0, 3, 80, 1), (2, 0, 0, 0, 4), (0, 24, 0, 1, 5), (36, 0, 0, 0, 7), (27, 0, 17, 8, 9), (2, 0, 0, 0, 12), (0, 24, 0, 1, 13), (36, 0, 0, 0, 15), (27, 0, 18, 9, 17),
  (53, 0, 0, 0, 20)]
def xc8 : List xI := [
  (1, 0, 0, 0, 0), (15, 0, 7, 2, 1), (1, 0, 0, 0, 4), (0, 99, 0, 1, 5), (16, 0, 7, 4, 7), (0, 1, 0, 0, 10), (17, 0, 8, 0, 11), (0, 0, 0, 0, 14), (51, 0, 0, 0, 15)]
def xc9 : List xI := [
  (2, 0, 0, 0, 0), (0, 0, 0, 0, 1), (32, 0, 16, 10, 2), (0, 0, 0, 0, 5), (3, 0, 1, 0, 6), (1, 0, 1, 0, 7), (0, 24, 0, 1, 8), (16, 0, 20, 3, 10), (2, 0, 0, 0, 13), (25, 0, 17, 8, 14),
  (1, 0, 1, 0, 17), (0, 0, 0, 0, 18), (29, 0, 0, 0, 19), (2, 0, 0, 0, 20), (25, 0, 18, 9, 21), (1, 0, 1, 0, 24), (0, 0, 0, 0, 25), (29, 0, 0, 0, 26), (5, 1, 1, 0, 27), (17, 0, 5, 0, 30),
  (53, 0, 0, 0, 33)]
def xc10 : List xI := [
  (2, 0, 0, 0, 0), (2, 0, 1, 0, 1), (24, 0, 16, 10, 2), (32, 0, 16, 10, 5), (2, 0, 1, 0, 8), (25, 0, 17, 8, 9), (0, 0, 0, 0, 12), (2, 0, 0, 0, 13), (25, 0, 17, 8, 14), (0, 0, 0, 0, 17),
  (0, 24, 0, 1, 18), (46, 0, 22, 735, 20), (2, 0, 1, 0, 23), (25, 0, 18, 9, 24), (0, 0, 0, 0, 27), (2, 0, 0, 0, 28), (25, 0, 18, 9, 29), (0, 0, 0, 0, 32), (0, 24, 0, 1, 33), (46, 0, 22, 735, 35),
  (53, 0, 0, 0, 38)]
def xc11 : List xI := [
  (1, 0, 1, 0, 0), (15, 0, 11, 2, 1), (1, 0, 1, 0, 4), (0, 24, 0, 1, 5), (16, 0, 11, 3, 7), (1, 0, 2, 0, 10), (41, 0, 8, 3, 11), (15, 0, 11, 0, 14), (1, 0, 3, 0, 17), (41, 0, 8, 3, 18),
  (15, 0, 13, 1, 21), (0, 0, 0, 0, 24), (51, 0, 0, 0, 25), (2, 0, 0, 0, 26), (0, 1, 0, 0, 27), (32, 0, 16, 10, 28), (2, 0, 0, 0, 31), (25, 0, 17, 8, 32), (1, 0, 1, 0, 35), (1, 0, 2, 0, 36),
  (29, 0, 0, 0, 37), (2, 0, 0, 0, 38), (25, 0, 18, 9, 39), (1, 0, 1, 0, 42), (1, 0, 3, 0, 43), (29, 0, 0, 0, 44), (0, 1, 0, 0, 45), (51, 0, 0, 0, 46)]
def xc12 : List xI := [
  (1, 0, 1, 0, 0), (3, 0, 4, 1, 1), (0, 0, 0, 0, 3), (3, 0, 5, 1, 4), (0, -1, 0, 0, 6), (3, 0, 6, 1, 7), (0, 0, 0, 0, 9), (3, 0, 7, 1, 10), (1, 0, 7, 1, 12), (0, 24, 0, 1, 14),
  (16, 0, 60, 3, 16), (2, 0, 0, 0, 19), (25, 0, 17, 8, 20), (1, 0, 7, 1, 23), (28, 0, 0, 0, 25), (2, 0, 0, 0, 26), (25, 0, 18, 9, 27), (1, 0, 7, 1, 30), (28, 0, 0, 0, 32), (44, 0, 32, 632, 33),
  (3, 0, 8, 1, 36), (0, 0, 0, 0, 38), (3, 0, 9, 1, 39), (1, 0, 9, 1, 41), (1, 0, 8, 1, 43), (16, 0, 51, 3, 45), (1, 0, 9, 1, 48), (2, 0, 0, 0, 50), (25, 0, 17, 8, 51), (1, 0, 7, 1, 54),
  (28, 0, 0, 0, 56), (16, 0, 38, 3, 57), (1, 0, 4, 1, 60), (1, 0, 2, 0, 62), (16, 0, 37, 3, 63), (5, 1, 4, 0, 66), (17, 0, 38, 0, 69), (5, 1, 5, 0, 72), (1, 0, 9, 1, 75), (2, 0, 0, 0, 77),
  (25, 0, 18, 9, 78), (1, 0, 7, 1, 81), (28, 0, 0, 0, 83), (16, 0, 49, 3, 84), (1, 0, 4, 1, 87), (15, 0, 48, 5, 89), (5, -1, 4, 0, 92), (17, 0, 49, 0, 95), (5, 1, 5, 0, 98), (5, 1, 9, 0, 101),
  (17, 0, 23, 0, 104), (1, 0, 5, 1, 107), (15, 0, 58, 5, 109), (1, 0, 6, 1, 112), (0, -1, 0, 0, 114), (16, 0, 58, 1, 115), (1, 0, 7, 1, 118), (3, 0, 6, 1, 120), (5, 1, 7, 0, 122), (17, 0, 8, 0, 125),
  (1, 0, 3, 0, 128), (47, 0, 0, 0, 129), (1, 0, 5, 1, 156), (50, 0, 0, 0, 158), (1, 0, 6, 1, 159), (50, 0, 0, 0, 161), (1, 0, 4, 1, 162), (50, 0, 0, 0, 164), (0, -3, 0, 1, 165), (50, 0, 0, 0, 167)]
def xc13 : List xI := [
  (0, 0, 0, 0, 0), (3, 0, 2, 0, 1), (2, 0, 0, 0, 2), (0, 0, 0, 0, 3), (1, 0, 1, 0, 4), (0, 0, 0, 0, 5), (40, 0, 12, 4, 6), (3, 0, 3, 0, 9), (0, 1, 0, 0, 10), (3, 0, 4, 1, 11),
  (1, 0, 4, 1, 13), (1, 0, 1, 0, 15), (16, 0, 28, 4, 16), (2, 0, 0, 0, 19), (1, 0, 4, 1, 20), (1, 0, 1, 0, 22), (0, 0, 0, 0, 23), (40, 0, 12, 4, 24), (3, 0, 5, 1, 27), (1, 0, 5, 1, 29),
  (1, 0, 3, 0, 31), (16, 0, 26, 3, 32), (1, 0, 5, 1, 35), (3, 0, 3, 0, 37), (1, 0, 4, 1, 38), (3, 0, 2, 0, 40), (5, 1, 4, 0, 41), (17, 0, 10, 0, 44), (1, 0, 2, 0, 47), (50, 0, 0, 0, 48)]
def xc14 : List xI := [
  (2, 0, 0, 0, 0), (43, 0, 3, 74, 1), (2, 0, 0, 0, 4), (1, 0, 1, 0, 5), (26, 0, 32, 11, 6), (2, 0, 0, 0, 9), (0, 12, 0, 1, 10), (36, 0, 0, 0, 12), (27, 0, 34, 12, 14), (2, 0, 0, 0, 17),
  (0, 12, 0, 1, 18), (36, 0, 0, 0, 20), (27, 0, 35, 13, 22), (2, 0, 0, 0, 25), (0, 8, 0, 1, 26), (36, 0, 0, 0, 28), (27, 0, 36, 14, 30), (2, 0, 0, 0, 33), (35, 0, 1, 0, 34), (21, 0, 0, 0, 37),
  (42, 0, 7, 5, 38), (27, 0, 40, 15, 41), (53, 0, 0, 0, 44)]
def xc15 : List xI := [
  (2, 0, 0, 0, 0), (1, 0, 1, 0, 1), (26, 0, 33, 16, 2), (2, 0, 0, 0, 5), (0, -1, 0, 0, 6), (26, 0, 37, 17, 7), (2, 0, 0, 0, 10), (0, -1, 0, 0, 11), (26, 0, 38, 18, 12), (2, 0, 0, 0, 15),
  (0, 0, 0, 0, 16), (26, 0, 39, 19, 17), (0, 0, 0, 0, 20), (3, 0, 2, 0, 21), (1, 0, 2, 0, 22), (0, 12, 0, 1, 23), (16, 0, 24, 3, 25), (2, 0, 0, 0, 28), (25, 0, 34, 12, 29), (1, 0, 2, 0, 32),
  (0, -1, 0, 0, 33), (29, 0, 0, 0, 34), (5, 1, 2, 0, 35), (17, 0, 14, 0, 38), (0, 0, 0, 0, 41), (3, 0, 2, 0, 42), (1, 0, 2, 0, 43), (0, 12, 0, 1, 44), (16, 0, 42, 3, 46), (2, 0, 0, 0, 49),
  (25, 0, 35, 13, 50), (1, 0, 2, 0, 53), (1, 0, 2, 0, 54), (2, 0, 0, 0, 55), (24, 0, 32, 11, 56), (16, 0, 38, 1, 59), (0, 0, 0, 0, 62), (17, 0, 39, 0, 63), (0, 999, 0, 2, 66), (29, 0, 0, 0, 69),
  (5, 1, 2, 0, 70), (17, 0, 26, 0, 73), (2, 0, 0, 0, 76), (25, 0, 40, 15, 77), (40, 0, 9, 6, 80), (53, 0, 0, 0, 83)]
def xc16 : List xI := [
  (2, 0, 0, 0, 0), (2, 0, 1, 0, 1), (24, 0, 33, 16, 2), (26, 0, 33, 16, 5), (2, 0, 0, 0, 8), (2, 0, 1, 0, 9), (24, 0, 37, 17, 10), (26, 0, 37, 17, 13), (2, 0, 0, 0, 16), (2, 0, 1, 0, 17),
  (24, 0, 38, 18, 18), (26, 0, 38, 18, 21), (2, 0, 0, 0, 24), (2, 0, 1, 0, 25), (24, 0, 39, 19, 26), (26, 0, 39, 19, 29), (2, 0, 1, 0, 32), (25, 0, 34, 12, 33), (0, 0, 0, 0, 36), (2, 0, 0, 0, 37),
  (25, 0, 34, 12, 38), (0, 0, 0, 0, 41), (0, 12, 0, 1, 42), (46, 0, 49, 728, 44), (2, 0, 1, 0, 47), (25, 0, 35, 13, 48), (0, 0, 0, 0, 51), (2, 0, 0, 0, 52), (25, 0, 35, 13, 53), (0, 0, 0, 0, 56),
  (0, 12, 0, 1, 57), (46, 0, 49, 728, 59), (2, 0, 1, 0, 62), (25, 0, 36, 14, 63), (0, 0, 0, 0, 66), (2, 0, 0, 0, 67), (25, 0, 36, 14, 68), (0, 0, 0, 0, 71), (0, 8, 0, 1, 72), (46, 0, 49, 728, 74),
  (2, 0, 0, 0, 77), (25, 0, 40, 15, 78), (2, 0, 1, 0, 81), (25, 0, 40, 15, 82), (40, 0, 10, 7, 85), (53, 0, 0, 0, 88)]
def xc17 : List xI := [
  (1, 0, 1, 0, 0), (15, 0, 11, 2, 1), (1, 0, 1, 0, 4), (2, 0, 0, 0, 5), (24, 0, 33, 16, 6), (16, 0, 11, 3, 9), (1, 0, 1, 0, 12), (0, 12, 0, 1, 13), (16, 0, 11, 3, 15), (0, 1, 0, 0, 18),
  (17, 0, 12, 0, 19), (0, 0, 0, 0, 22), (51, 0, 0, 0, 23)]
def xc18 : List xI := [
  (0, 0, 0, 0, 0), (2, 0, 0, 0, 1), (24, 0, 37, 17, 2), (44, 0, 59, 330, 5), (3, 0, 2, 0, 8), (1, 0, 2, 0, 9), (0, 8, 0, 1, 10), (16, 0, 10, 2, 12), (0, -1, 0, 0, 15), (50, 0, 0, 0, 16),
  (2, 0, 0, 0, 17), (25, 0, 36, 14, 18), (1, 0, 2, 0, 21), (1, 0, 1, 0, 22), (29, 0, 0, 0, 23), (2, 0, 0, 0, 24), (1, 0, 2, 0, 25), (0, 1, 0, 0, 26), (6, 0, 0, 0, 27), (26, 0, 37, 17, 28),
  (2, 0, 0, 0, 31), (24, 0, 37, 17, 32), (50, 0, 0, 0, 35)]
def xc19 : List xI := [
  (1, 0, 1, 0, 0), (15, 0, 14, 2, 1), (1, 0, 1, 0, 4), (2, 0, 0, 0, 5), (24, 0, 37, 17, 6), (16, 0, 14, 3, 9), (1, 0, 1, 0, 12), (0, 8, 0, 1, 13), (16, 0, 14, 3, 15), (2, 0, 0, 0, 18),
  (25, 0, 36, 14, 19), (1, 0, 1, 0, 22), (28, 0, 0, 0, 23), (17, 0, 15, 0, 24), (0, -1, 0, 0, 27), (50, 0, 0, 0, 28)]
def xc20 : List xI := [
  (1, 0, 1, 0, 0), (15, 0, 10, 2, 1), (1, 0, 1, 0, 4), (0, 12, 0, 1, 5), (16, 0, 10, 3, 7), (2, 0, 0, 0, 10), (25, 0, 35, 13, 11), (1, 0, 1, 0, 14), (28, 0, 0, 0, 15), (17, 0, 11, 0, 16),
  (0, 999, 0, 2, 19), (50, 0, 0, 0, 22)]
def xc21 : List xI := [
  (0, 0, 0, 0, 0), (3, 0, 2, 0, 1), (0, 0, 0, 0, 2), (3, 0, 3, 0, 3), (1, 0, 3, 0, 4), (2, 0, 0, 0, 5), (24, 0, 33, 16, 6), (16, 0, 17, 3, 9), (2, 0, 0, 0, 12), (25, 0, 34, 12, 13),
  (1, 0, 3, 0, 16), (28, 0, 0, 0, 17), (1, 0, 1, 0, 18), (16, 0, 15, 1, 19), (5, 1, 2, 0, 22), (5, 1, 3, 0, 25), (17, 0, 4, 0, 28), (1, 0, 2, 0, 31), (50, 0, 0, 0, 32)]
def xc22 : List xI := [
  (2, 0, 0, 0, 0), (0, -1, 0, 0, 1), (40, 0, 21, 8, 2), (50, 0, 0, 0, 5)]
def xc23 : List xI := [
  (2, 0, 0, 0, 0), (24, 0, 33, 16, 1), (2, 0, 0, 0, 4), (0, -2, 0, 1, 5), (40, 0, 21, 8, 7), (7, 0, 0, 0, 10), (50, 0, 0, 0, 11)]
def xc24 : List xI := [
  (2, 0, 0, 0, 0), (1, 0, 1, 0, 1), (40, 0, 17, 9, 2), (15, 0, 12, 0, 5), (2, 0, 0, 0, 8), (1, 0, 1, 0, 9), (1, 0, 2, 0, 10), (6, 0, 0, 0, 11), (0, 1, 0, 0, 12), (7, 0, 0, 0, 13),
  (40, 0, 17, 9, 14), (15, 0, 14, 1, 17), (0, 0, 0, 0, 20), (51, 0, 0, 0, 21), (2, 0, 0, 0, 22), (25, 0, 34, 12, 23), (1, 0, 1, 0, 26), (28, 0, 0, 0, 27), (0, -1, 0, 0, 28), (16, 0, 32, 1, 29),
  (2, 0, 0, 0, 32), (25, 0, 34, 12, 33), (1, 0, 1, 0, 36), (1, 0, 2, 0, 37), (6, 0, 0, 0, 38), (0, 1, 0, 0, 39), (7, 0, 0, 0, 40), (28, 0, 0, 0, 41), (0, -1, 0, 0, 42), (16, 0, 32, 1, 43),
  (0, 1, 0, 0, 46), (17, 0, 33, 0, 47), (0, 0, 0, 0, 50), (51, 0, 0, 0, 51)]
def xc25 : List xI := [
  (0, 0, 0, 0, 0), (3, 0, 2, 0, 1), (1, 0, 2, 0, 2), (2, 0, 0, 0, 3), (24, 0, 33, 16, 4), (16, 0, 15, 3, 7), (2, 0, 0, 0, 10), (1, 0, 2, 0, 11), (1, 0, 1, 0, 12), (40, 0, 24, 10, 13),
  (15, 0, 13, 0, 16), (1, 0, 2, 0, 19), (50, 0, 0, 0, 20), (5, 1, 2, 0, 21), (17, 0, 2, 0, 24), (0, -1, 0, 0, 27), (50, 0, 0, 0, 28)]
def xc26 : List xI := [
  (0, 0, 0, 0, 0), (3, 0, 4, 1, 1), (1, 0, 4, 1, 3), (1, 0, 2, 0, 5), (16, 0, 20, 3, 6), (2, 0, 0, 0, 9), (1, 0, 1, 0, 10), (1, 0, 4, 1, 11), (6, 0, 0, 0, 13), (40, 0, 17, 9, 14),
  (15, 0, 18, 0, 17), (2, 0, 0, 0, 20), (25, 0, 34, 12, 21), (1, 0, 1, 0, 24), (1, 0, 4, 1, 25), (6, 0, 0, 0, 27), (1, 0, 3, 0, 28), (29, 0, 0, 0, 29), (5, 1, 4, 0, 30), (17, 0, 2, 0, 33),
  (53, 0, 0, 0, 36)]
def xc27 : List xI := [
  (2, 0, 0, 0, 0), (43, 0, 5, 264, 1), (2, 0, 0, 0, 4), (0, 7, 0, 1, 5), (36, 0, 0, 0, 7), (27, 0, 48, 20, 9), (2, 0, 0, 0, 12), (0, 7, 0, 1, 13), (36, 0, 0, 0, 15), (27, 0, 50, 21, 17),
  (2, 0, 0, 0, 20), (0, 7, 0, 1, 21), (36, 0, 0, 0, 23), (27, 0, 51, 22, 25), (2, 0, 0, 0, 28), (0, 128, 0, 2, 29), (36, 0, 0, 0, 32), (27, 0, 53, 23, 34), (2, 0, 0, 0, 37), (0, 896, 0, 2, 38),
  (36, 0, 0, 0, 41), (27, 0, 54, 24, 43), (53, 0, 0, 0, 46)]
def xc28 : List xI := [
  (1, 0, 1, 0, 0), (15, 0, 14, 2, 1), (1, 0, 1, 0, 4), (2, 0, 0, 0, 5), (24, 0, 49, 25, 6), (16, 0, 14, 3, 9), (1, 0, 1, 0, 12), (0, 7, 0, 1, 13), (16, 0, 14, 3, 15), (2, 0, 0, 0, 18),
  (25, 0, 48, 20, 19), (1, 0, 1, 0, 22), (28, 0, 0, 0, 23), (17, 0, 15, 0, 24), (0, -1, 0, 0, 27), (50, 0, 0, 0, 28)]
def xc29 : List xI := [
  (2, 0, 2, 0, 0), (18, 0, 9, 0, 1), (2, 0, 2, 0, 4), (24, 0, 6, 26, 5), (15, 0, 9, 4, 8), (2, 0, 0, 0, 11), (2, 0, 1, 0, 12), (40, 0, 30, 11, 13), (15, 0, 11, 1, 16), (0, -1, 0, 0, 19),
  (50, 0, 0, 0, 20), (2, 0, 0, 0, 21), (40, 0, 32, 12, 22), (2, 0, 0, 0, 25), (2, 0, 1, 0, 26), (2, 0, 2, 0, 27), (24, 0, 1, 27, 28), (40, 0, 33, 13, 31), (2, 0, 0, 0, 34), (2, 0, 1, 0, 35),
  (2, 0, 2, 0, 36), (24, 0, 2, 28, 37), (0, 0, 0, 0, 40), (40, 0, 34, 14, 41), (3, 0, 3, 0, 44), (1, 0, 3, 0, 45), (0, 1000000, 57, 3, 46), (16, 0, 30, 2, 48), (0, -1, 0, 0, 51), (50, 0, 0, 0, 52),
  (2, 0, 0, 0, 53), (2, 0, 1, 0, 54), (2, 0, 2, 0, 55), (24, 0, 2, 28, 56), (40, 0, 36, 15, 59), (1, 0, 3, 0, 62), (50, 0, 0, 0, 63)]
def xc30 : List xI := [
  (2, 0, 0, 0, 0), (0, 0, 0, 0, 1), (26, 0, 52, 29, 2), (0, 0, 0, 0, 5), (3, 0, 2, 0, 6), (1, 0, 2, 0, 7), (2, 0, 1, 0, 8), (24, 0, 65, 30, 9), (16, 0, 51, 3, 12), (2, 0, 1, 0, 15),
  (25, 0, 64, 31, 16), (1, 0, 2, 0, 19), (30, 0, 0, 0, 20), (4, 0, 3, 0, 21), (2, 0, 1, 0, 22), (2, 0, 3, 0, 23), (40, 0, 51, 16, 24), (3, 0, 4, 1, 27), (1, 0, 4, 1, 29), (15, 0, 49, 0, 31),
  (2, 0, 0, 0, 34), (24, 0, 52, 29, 35), (0, 7, 0, 1, 38), (16, 0, 29, 3, 40), (2, 0, 3, 0, 43), (40, 0, 22, 17, 44), (1, 0, 4, 1, 47), (10, 0, 0, 0, 49), (16, 0, 31, 3, 50), (0, 0, 0, 0, 53),
  (51, 0, 0, 0, 54), (2, 0, 0, 0, 55), (25, 0, 50, 21, 56), (2, 0, 0, 0, 59), (24, 0, 52, 29, 60), (1, 0, 2, 0, 63), (29, 0, 0, 0, 64), (2, 0, 0, 0, 65), (25, 0, 51, 22, 66), (2, 0, 0, 0, 69),
  (24, 0, 52, 29, 70), (1, 0, 4, 1, 73), (29, 0, 0, 0, 75), (2, 0, 0, 0, 76), (21, 0, 0, 0, 77), (24, 0, 52, 29, 78), (0, 1, 0, 0, 81), (6, 0, 0, 0, 82), (26, 0, 52, 29, 83), (5, 1, 2, 0, 86),
  (17, 0, 5, 0, 89), (0, 1, 0, 0, 92), (51, 0, 0, 0, 93)]
def xc31 : List xI := [
  (0, 1, 0, 0, 0), (2, 0, 0, 0, 1), (24, 0, 52, 29, 2), (13, 0, 0, 0, 5), (0, 1, 0, 0, 6), (7, 0, 0, 0, 7), (50, 0, 0, 0, 8)]
def xc32 : List xI := [
  (0, 0, 0, 0, 0), (3, 0, 1, 0, 1), (1, 0, 1, 0, 2), (2, 0, 0, 0, 3), (40, 0, 31, 18, 4), (16, 0, 39, 4, 7), (2, 0, 0, 0, 10), (25, 0, 53, 23, 11), (1, 0, 1, 0, 14), (0, 0, 0, 0, 15),
  (29, 0, 0, 0, 16), (0, 0, 0, 0, 17), (3, 0, 2, 0, 18), (1, 0, 2, 0, 19), (2, 0, 0, 0, 20), (24, 0, 52, 29, 21), (16, 0, 37, 3, 24), (1, 0, 1, 0, 27), (1, 0, 2, 0, 28), (14, 0, 0, 0, 29),
  (0, 1, 0, 0, 30), (11, 0, 0, 0, 31), (0, 1, 0, 0, 32), (16, 0, 35, 1, 33), (2, 0, 0, 0, 36), (25, 0, 53, 23, 37), (1, 0, 1, 0, 40), (23, 0, 0, 0, 41), (28, 0, 0, 0, 42), (2, 0, 0, 0, 43),
  (25, 0, 51, 22, 44), (1, 0, 2, 0, 47), (28, 0, 0, 0, 48), (6, 0, 0, 0, 49), (29, 0, 0, 0, 50), (5, 1, 2, 0, 51), (17, 0, 13, 0, 54), (5, 1, 1, 0, 57), (17, 0, 2, 0, 60), (53, 0, 0, 0, 63)]
def xc33 : List xI := [
  (2, 0, 0, 0, 0), (40, 0, 31, 18, 1), (3, 0, 3, 0, 4), (1, 0, 3, 0, 5), (15, 0, 57, 5, 6), (2, 0, 0, 0, 9), (25, 0, 53, 23, 10), (1, 0, 3, 0, 13), (28, 0, 0, 0, 14), (15, 0, 18, 2, 15),
  (2, 0, 0, 0, 18), (25, 0, 53, 23, 19), (1, 0, 3, 0, 22), (28, 0, 0, 0, 23), (1, 0, 2, 0, 24), (16, 0, 18, 4, 25), (0, 1, 0, 0, 28), (17, 0, 19, 0, 29), (0, 0, 0, 0, 32), (3, 0, 4, 1, 33),
  (0, 0, 0, 0, 35), (3, 0, 5, 1, 36), (1, 0, 5, 1, 38), (2, 0, 0, 0, 40), (24, 0, 52, 29, 41), (16, 0, 55, 3, 44), (1, 0, 3, 0, 47), (1, 0, 5, 1, 48), (14, 0, 0, 0, 50), (0, 1, 0, 0, 51),
  (11, 0, 0, 0, 52), (0, 1, 0, 0, 53), (16, 0, 53, 1, 54), (2, 0, 0, 0, 57), (25, 0, 54, 24, 58), (1, 0, 3, 0, 61), (0, 7, 0, 1, 62), (8, 0, 0, 0, 64), (1, 0, 5, 1, 65), (6, 0, 0, 0, 67),
  (1, 0, 4, 1, 68), (15, 0, 51, 0, 70), (2, 0, 0, 0, 73), (2, 0, 1, 0, 74), (2, 0, 0, 0, 75), (25, 0, 50, 21, 76), (1, 0, 5, 1, 79), (28, 0, 0, 0, 81), (1, 0, 3, 0, 82), (40, 0, 34, 14, 83),
  (17, 0, 52, 0, 86), (0, 1000000, 57, 3, 89), (29, 0, 0, 0, 91), (5, 1, 5, 0, 92), (17, 0, 22, 0, 95), (5, -1, 3, 0, 98), (17, 0, 3, 0, 101), (53, 0, 0, 0, 104)]
def xc34 : List xI := [
  (1, 0, 3, 0, 0), (2, 0, 0, 0, 1), (40, 0, 31, 18, 2), (16, 0, 13, 1, 5), (2, 0, 0, 0, 8), (25, 0, 53, 23, 9), (1, 0, 3, 0, 12), (28, 0, 0, 0, 13), (15, 0, 11, 1, 14), (0, 0, 0, 0, 17),
  (17, 0, 12, 0, 18), (0, 1000000, 57, 3, 21), (50, 0, 0, 0, 23), (0, 1000000, 57, 3, 24), (3, 0, 4, 1, 26), (0, 0, 0, 0, 28), (3, 0, 5, 1, 29), (1, 0, 5, 1, 31), (2, 0, 0, 0, 33), (24, 0, 52, 29, 34),
  (16, 0, 38, 3, 37), (1, 0, 3, 0, 40), (1, 0, 5, 1, 41), (14, 0, 0, 0, 43), (0, 1, 0, 0, 44), (11, 0, 0, 0, 45), (15, 0, 36, 1, 46), (1, 0, 4, 1, 49), (2, 0, 0, 0, 51), (2, 0, 1, 0, 52),
  (1, 0, 2, 0, 53), (1, 0, 3, 0, 54), (1, 0, 5, 1, 55), (40, 0, 35, 19, 57), (45, 0, 87, 686, 60), (3, 0, 4, 1, 63), (5, 1, 5, 0, 65), (17, 0, 17, 0, 68), (1, 0, 4, 1, 71), (50, 0, 0, 0, 73)]
def xc35 : List xI := [
  (2, 0, 1, 0, 0), (1, 0, 2, 0, 1), (2, 0, 0, 0, 2), (25, 0, 50, 21, 3), (1, 0, 4, 1, 6), (28, 0, 0, 0, 8), (40, 0, 52, 20, 9), (2, 0, 0, 0, 12), (25, 0, 54, 24, 13), (1, 0, 3, 0, 16),
  (0, 1, 0, 0, 17), (1, 0, 4, 1, 18), (13, 0, 0, 0, 20), (12, 0, 0, 0, 21), (0, 7, 0, 1, 22), (8, 0, 0, 0, 24), (1, 0, 4, 1, 25), (6, 0, 0, 0, 27), (28, 0, 0, 0, 28), (6, 0, 0, 0, 29),
  (50, 0, 0, 0, 30)]
def xc36 : List xI := [
  (0, 0, 0, 0, 0), (3, 0, 3, 0, 1), (1, 0, 2, 0, 2), (3, 0, 4, 1, 3), (0, 0, 0, 0, 5), (3, 0, 5, 1, 6), (1, 0, 5, 1, 8), (2, 0, 0, 0, 10), (24, 0, 52, 29, 11), (16, 0, 55, 3, 14),
  (2, 0, 0, 0, 17), (2, 0, 1, 0, 18), (1, 0, 4, 1, 19), (1, 0, 3, 0, 21), (40, 0, 34, 14, 22), (3, 0, 6, 1, 25), (0, 0, 0, 0, 27), (3, 0, 7, 1, 28), (1, 0, 7, 1, 30), (2, 0, 0, 0, 32),
  (24, 0, 52, 29, 33), (0, 1, 0, 0, 36), (7, 0, 0, 0, 37), (16, 0, 34, 3, 38), (2, 0, 0, 0, 41), (2, 0, 1, 0, 42), (1, 0, 4, 1, 43), (1, 0, 3, 0, 45), (1, 0, 7, 1, 46), (1, 0, 6, 1, 48),
  (40, 0, 37, 21, 50), (15, 0, 34, 1, 53), (5, 1, 7, 0, 56), (17, 0, 18, 0, 59), (2, 0, 0, 0, 62), (25, 0, 48, 20, 63), (1, 0, 5, 1, 66), (2, 0, 0, 0, 68), (25, 0, 50, 21, 69), (1, 0, 7, 1, 72),
  (28, 0, 0, 0, 74), (29, 0, 0, 0, 75), (1, 0, 3, 0, 76), (0, 1, 0, 0, 77), (1, 0, 7, 1, 78), (13, 0, 0, 0, 80), (12, 0, 0, 0, 81), (3, 0, 3, 0, 82), (2, 0, 0, 0, 83), (25, 0, 50, 21, 84),
  (1, 0, 7, 1, 87), (28, 0, 0, 0, 89), (3, 0, 4, 1, 90), (5, 1, 5, 0, 92), (17, 0, 6, 0, 95), (2, 0, 0, 0, 98), (2, 0, 0, 0, 99), (24, 0, 52, 29, 100), (26, 0, 49, 25, 103), (53, 0, 0, 0, 106)]
def xc37 : List xI := [
  (1, 0, 3, 0, 0), (1, 0, 4, 1, 1), (14, 0, 0, 0, 3), (0, 1, 0, 0, 4), (11, 0, 0, 0, 5), (15, 0, 16, 1, 6), (2, 0, 0, 0, 9), (2, 0, 1, 0, 10), (1, 0, 2, 0, 11), (1, 0, 3, 0, 12),
  (1, 0, 4, 1, 13), (40, 0, 35, 19, 15), (1, 0, 5, 1, 18), (16, 0, 16, 1, 20), (0, 1, 0, 0, 23), (17, 0, 17, 0, 24), (0, 0, 0, 0, 27), (51, 0, 0, 0, 28)]
def xc38 : List xI := [
  (2, 0, 0, 0, 0), (43, 0, 3, 67, 1), (2, 0, 0, 0, 4), (0, 12, 0, 1, 5), (38, 0, 11, 1, 7), (27, 0, 64, 32, 10), (0, 0, 0, 0, 13), (3, 0, 1, 0, 14), (1, 0, 1, 0, 15), (0, 12, 0, 1, 16),
  (16, 0, 21, 3, 18), (2, 0, 0, 0, 21), (25, 0, 64, 32, 22), (1, 0, 1, 0, 25), (35, 0, 2, 1, 26), (21, 0, 0, 0, 29), (1, 0, 1, 0, 30), (42, 0, 14, 22, 31), (31, 0, 0, 0, 34), (5, 1, 1, 0, 35),
  (17, 0, 8, 0, 38), (2, 0, 0, 0, 41), (0, 60, 0, 1, 42), (38, 0, 13, 2, 44), (27, 0, 66, 33, 47), (0, 0, 0, 0, 50), (3, 0, 1, 0, 51), (1, 0, 1, 0, 52), (0, 60, 0, 1, 53), (16, 0, 40, 3, 55),
  (2, 0, 0, 0, 58), (25, 0, 66, 33, 59), (1, 0, 1, 0, 62), (35, 0, 5, 2, 63), (21, 0, 0, 0, 66), (1, 0, 1, 0, 67), (42, 0, 65, 23, 68), (31, 0, 0, 0, 71), (5, 1, 1, 0, 72), (17, 0, 27, 0, 75),
  (2, 0, 0, 0, 78), (0, 3, 0, 0, 79), (38, 0, 10, 3, 80), (27, 0, 68, 34, 83), (0, 0, 0, 0, 86), (3, 0, 1, 0, 87), (1, 0, 1, 0, 88), (0, 3, 0, 0, 89), (16, 0, 59, 3, 90), (2, 0, 0, 0, 93),
  (25, 0, 68, 34, 94), (1, 0, 1, 0, 97), (35, 0, 0, 3, 98), (21, 0, 0, 0, 101), (1, 0, 1, 0, 102), (42, 0, 0, 24, 103), (31, 0, 0, 0, 106), (5, 1, 1, 0, 107), (17, 0, 46, 0, 110), (53, 0, 0, 0, 113)]
def xc39 : List xI := [
  (2, 0, 0, 0, 0), (2, 0, 1, 0, 1), (24, 0, 65, 35, 2), (26, 0, 65, 35, 5), (2, 0, 0, 0, 8), (2, 0, 1, 0, 9), (24, 0, 67, 36, 10), (26, 0, 67, 36, 13), (2, 0, 0, 0, 16), (2, 0, 1, 0, 17),
  (24, 0, 69, 37, 18), (26, 0, 69, 37, 21), (2, 0, 0, 0, 24), (2, 0, 1, 0, 25), (24, 0, 70, 38, 26), (26, 0, 70, 38, 29), (0, 0, 0, 0, 32), (3, 0, 2, 0, 33), (1, 0, 2, 0, 34), (0, 12, 0, 1, 35),
  (16, 0, 32, 3, 37), (2, 0, 0, 0, 40), (25, 0, 64, 32, 41), (1, 0, 2, 0, 44), (30, 0, 0, 0, 45), (2, 0, 1, 0, 46), (25, 0, 64, 32, 47), (1, 0, 2, 0, 50), (30, 0, 0, 0, 51), (40, 0, 16, 25, 52),
  (5, 1, 2, 0, 55), (17, 0, 18, 0, 58), (0, 0, 0, 0, 61), (3, 0, 2, 0, 62), (1, 0, 2, 0, 63), (0, 60, 0, 1, 64), (16, 0, 48, 3, 66), (2, 0, 0, 0, 69), (25, 0, 66, 33, 70), (1, 0, 2, 0, 73),
  (30, 0, 0, 0, 74), (2, 0, 1, 0, 75), (25, 0, 66, 33, 76), (1, 0, 2, 0, 79), (30, 0, 0, 0, 80), (40, 0, 67, 26, 81), (5, 1, 2, 0, 84), (17, 0, 34, 0, 87), (0, 0, 0, 0, 90), (3, 0, 2, 0, 91),
  (1, 0, 2, 0, 92), (0, 3, 0, 0, 93), (16, 0, 64, 3, 94), (2, 0, 0, 0, 97), (25, 0, 68, 34, 98), (1, 0, 2, 0, 101), (30, 0, 0, 0, 102), (2, 0, 1, 0, 103), (25, 0, 68, 34, 104), (1, 0, 2, 0, 107),
  (30, 0, 0, 0, 108), (40, 0, 2, 27, 109), (5, 1, 2, 0, 112), (17, 0, 50, 0, 115), (53, 0, 0, 0, 118)]
def xc40 : List xI := [
  (1, 0, 1, 0, 0), (15, 0, 14, 2, 1), (1, 0, 1, 0, 4), (2, 0, 0, 0, 5), (24, 0, 65, 35, 6), (16, 0, 14, 3, 9), (1, 0, 1, 0, 12), (0, 12, 0, 1, 13), (16, 0, 14, 3, 15), (2, 0, 0, 0, 18),
  (25, 0, 64, 32, 19), (1, 0, 1, 0, 22), (30, 0, 0, 0, 23), (17, 0, 15, 0, 24), (20, 0, 0, 0, 27), (52, 0, 0, 0, 28)]
def xc41 : List xI := [
  (1, 0, 1, 0, 0), (15, 0, 14, 2, 1), (1, 0, 1, 0, 4), (2, 0, 0, 0, 5), (24, 0, 67, 36, 6), (16, 0, 14, 3, 9), (1, 0, 1, 0, 12), (0, 60, 0, 1, 13), (16, 0, 14, 3, 15), (2, 0, 0, 0, 18),
  (25, 0, 66, 33, 19), (1, 0, 1, 0, 22), (30, 0, 0, 0, 23), (17, 0, 15, 0, 24), (20, 0, 0, 0, 27), (52, 0, 0, 0, 28)]
def xc42 : List xI := [
  (1, 0, 1, 0, 0), (15, 0, 14, 2, 1), (1, 0, 1, 0, 4), (2, 0, 0, 0, 5), (24, 0, 69, 37, 6), (16, 0, 14, 3, 9), (1, 0, 1, 0, 12), (0, 3, 0, 0, 13), (16, 0, 14, 3, 14), (2, 0, 0, 0, 17),
  (25, 0, 68, 34, 18), (1, 0, 1, 0, 21), (30, 0, 0, 0, 22), (17, 0, 15, 0, 23), (20, 0, 0, 0, 26), (52, 0, 0, 0, 27)]
def xc43 : List xI := [
  (2, 0, 0, 0, 0), (1, 0, 1, 0, 1), (40, 0, 40, 28, 2), (4, 0, 3, 0, 5), (2, 0, 3, 0, 6), (18, 0, 10, 0, 7), (2, 0, 3, 0, 10), (1, 0, 2, 0, 11), (40, 0, 17, 29, 12), (15, 0, 12, 1, 15),
  (20, 0, 0, 0, 18), (17, 0, 18, 0, 19), (2, 0, 0, 0, 22), (2, 0, 3, 0, 23), (25, 0, 34, 39, 24), (1, 0, 2, 0, 27), (28, 0, 0, 0, 28), (40, 0, 41, 30, 29), (52, 0, 0, 0, 32)]
def xc44 : List xI := [
  (2, 0, 0, 0, 0), (24, 0, 65, 35, 1), (0, 12, 0, 1, 4), (16, 0, 6, 2, 6), (0, -1, 0, 0, 9), (50, 0, 0, 0, 10), (2, 0, 0, 0, 11), (25, 0, 64, 32, 12), (2, 0, 0, 0, 15), (24, 0, 65, 35, 16),
  (30, 0, 0, 0, 19), (1, 0, 1, 0, 20), (40, 0, 15, 31, 21), (2, 0, 0, 0, 24), (21, 0, 0, 0, 25), (24, 0, 65, 35, 26), (0, 1, 0, 0, 29), (6, 0, 0, 0, 30), (26, 0, 65, 35, 31), (2, 0, 0, 0, 34),
  (24, 0, 65, 35, 35), (0, 1, 0, 0, 38), (7, 0, 0, 0, 39), (50, 0, 0, 0, 40)]
def xc45 : List xI := [
  (2, 0, 0, 0, 0), (24, 0, 67, 36, 1), (0, 60, 0, 1, 4), (16, 0, 6, 2, 6), (0, -1, 0, 0, 9), (50, 0, 0, 0, 10), (2, 0, 0, 0, 11), (25, 0, 66, 33, 12), (2, 0, 0, 0, 15), (24, 0, 67, 36, 16),
  (30, 0, 0, 0, 19), (4, 0, 4, 1, 20), (2, 0, 4, 1, 22), (1, 0, 1, 0, 24), (40, 0, 66, 32, 25), (2, 0, 0, 0, 28), (2, 0, 4, 1, 29), (2, 0, 2, 0, 31), (1, 0, 3, 0, 32), (40, 0, 54, 33, 33),
  (2, 0, 0, 0, 36), (21, 0, 0, 0, 37), (24, 0, 67, 36, 38), (0, 1, 0, 0, 41), (6, 0, 0, 0, 42), (26, 0, 67, 36, 43), (2, 0, 4, 1, 46), (24, 0, 80, 40, 48), (50, 0, 0, 0, 51)]
def xc46 : List xI := [
  (2, 0, 0, 0, 0), (24, 0, 69, 37, 1), (0, 3, 0, 0, 4), (16, 0, 6, 2, 5), (0, -1, 0, 0, 8), (50, 0, 0, 0, 9), (2, 0, 0, 0, 10), (25, 0, 68, 34, 11), (2, 0, 0, 0, 14), (24, 0, 69, 37, 15),
  (30, 0, 0, 0, 18), (1, 0, 1, 0, 19), (1, 0, 2, 0, 20), (40, 0, 1, 34, 21), (2, 0, 0, 0, 24), (21, 0, 0, 0, 25), (24, 0, 69, 37, 26), (0, 1, 0, 0, 29), (6, 0, 0, 0, 30), (26, 0, 69, 37, 31),
  (2, 0, 0, 0, 34), (24, 0, 69, 37, 35), (0, 1, 0, 0, 38), (7, 0, 0, 0, 39), (50, 0, 0, 0, 40)]
def xc47 : List xI := [
  (0, 0, 0, 0, 0), (3, 0, 2, 0, 1), (0, 0, 0, 0, 2), (3, 0, 3, 0, 3), (1, 0, 3, 0, 4), (2, 0, 0, 0, 5), (24, 0, 67, 36, 6), (16, 0, 18, 3, 9), (2, 0, 0, 0, 12), (25, 0, 66, 33, 13),
  (1, 0, 3, 0, 16), (30, 0, 0, 0, 17), (24, 0, 83, 41, 18), (1, 0, 1, 0, 21), (16, 0, 16, 1, 22), (5, 1, 2, 0, 25), (5, 1, 3, 0, 28), (17, 0, 4, 0, 31), (1, 0, 2, 0, 34), (50, 0, 0, 0, 35)]
def xc48 : List xI := [
  (0, 0, 0, 0, 0), (3, 0, 1, 0, 1), (0, 0, 0, 0, 2), (3, 0, 2, 0, 3), (1, 0, 2, 0, 4), (2, 0, 0, 0, 5), (24, 0, 67, 36, 6), (16, 0, 17, 3, 9), (2, 0, 0, 0, 12), (25, 0, 66, 33, 13),
  (1, 0, 2, 0, 16), (30, 0, 0, 0, 17), (24, 0, 88, 42, 18), (15, 0, 15, 0, 21), (5, 1, 1, 0, 24), (5, 1, 2, 0, 27), (17, 0, 4, 0, 30), (1, 0, 1, 0, 33), (50, 0, 0, 0, 34)]
def xc49 : List xI := [
  (0, 0, 0, 0, 0), (3, 0, 3, 0, 1), (0, 0, 0, 0, 2), (3, 0, 4, 1, 3), (1, 0, 4, 1, 5), (2, 0, 0, 0, 7), (24, 0, 67, 36, 8), (16, 0, 19, 3, 11), (2, 0, 0, 0, 14), (25, 0, 66, 33, 15),
  (1, 0, 4, 1, 18), (30, 0, 0, 0, 20), (1, 0, 1, 0, 21), (1, 0, 2, 0, 22), (40, 0, 76, 35, 23), (15, 0, 17, 0, 26), (5, 1, 3, 0, 29), (5, 1, 4, 0, 32), (17, 0, 4, 0, 35), (1, 0, 3, 0, 38),
  (50, 0, 0, 0, 39)]
def xc50 : List xI := [
  (0, 0, 0, 0, 0), (3, 0, 2, 0, 1), (0, 0, 0, 0, 2), (3, 0, 3, 0, 3), (1, 0, 3, 0, 4), (2, 0, 0, 0, 5), (24, 0, 67, 36, 6), (16, 0, 26, 3, 9), (2, 0, 0, 0, 12), (25, 0, 66, 33, 13),
  (1, 0, 3, 0, 16), (30, 0, 0, 0, 17), (1, 0, 1, 0, 18), (0, 0, 0, 0, 19), (40, 0, 76, 35, 20), (15, 0, 24, 0, 23), (2, 0, 0, 0, 26), (25, 0, 66, 33, 27), (1, 0, 3, 0, 30), (30, 0, 0, 0, 31),
  (24, 0, 81, 43, 32), (0, 2, 0, 0, 35), (16, 0, 24, 0, 36), (5, 1, 2, 0, 39), (5, 1, 3, 0, 42), (17, 0, 4, 0, 45), (1, 0, 2, 0, 48), (50, 0, 0, 0, 49)]
def xc51 : List xI := [
  (2, 0, 1, 0, 0), (24, 0, 38, 44, 1), (0, -1, 0, 0, 4), (16, 0, 6, 1, 5), (0, 0, 0, 0, 8), (17, 0, 13, 0, 9), (2, 0, 0, 0, 12), (2, 0, 1, 0, 13), (24, 0, 32, 45, 14), (40, 0, 50, 36, 17),
  (2, 0, 1, 0, 20), (24, 0, 38, 44, 21), (7, 0, 0, 0, 24), (50, 0, 0, 0, 25)]
def xc52 : List xI := [
  (2, 0, 0, 0, 0), (1, 0, 1, 0, 1), (40, 0, 40, 28, 2), (4, 0, 3, 0, 5), (2, 0, 3, 0, 6), (19, 0, 8, 0, 7), (0, 999, 0, 2, 10), (17, 0, 11, 0, 13), (2, 0, 3, 0, 16), (1, 0, 2, 0, 17),
  (40, 0, 20, 37, 18), (50, 0, 0, 0, 21)]
def xc53 : List xI := [
  (0, 1000, 0, 2, 0), (3, 0, 2, 0, 3), (0, 0, 0, 0, 4), (3, 0, 3, 0, 5), (1, 0, 3, 0, 6), (2, 0, 0, 0, 7), (24, 0, 65, 35, 8), (16, 0, 20, 3, 11), (1, 0, 3, 0, 14), (1, 0, 1, 0, 15),
  (16, 0, 18, 0, 16), (1, 0, 2, 0, 19), (2, 0, 0, 0, 20), (1, 0, 1, 0, 21), (1, 0, 3, 0, 22), (40, 0, 52, 38, 23), (45, 0, 116, 477, 26), (3, 0, 2, 0, 29), (5, 1, 3, 0, 30), (17, 0, 4, 0, 33),
  (1, 0, 2, 0, 36), (0, 999, 0, 2, 37), (16, 0, 25, 5, 40), (0, 0, 0, 0, 43), (17, 0, 26, 0, 44), (1, 0, 2, 0, 47), (50, 0, 0, 0, 48)]
def xc54 : List xI := [
  (2, 0, 2, 0, 0), (1, 0, 3, 0, 1), (2, 0, 1, 0, 2), (40, 0, 70, 39, 3), (2, 0, 1, 0, 6), (24, 0, 80, 40, 7), (40, 0, 26, 40, 10), (2, 0, 1, 0, 13), (0, 0, 0, 0, 14), (2, 0, 2, 0, 15),
  (24, 0, 32, 45, 16), (1, 0, 3, 0, 19), (40, 0, 68, 41, 20), (53, 0, 0, 0, 23)]
def xc55 : List xI := [
  (2, 0, 0, 0, 0), (2, 0, 1, 0, 1), (24, 0, 84, 46, 2), (40, 0, 40, 28, 5), (4, 0, 2, 0, 8), (2, 0, 2, 0, 9), (18, 0, 17, 0, 10), (2, 0, 1, 0, 13), (24, 0, 83, 41, 14), (15, 0, 17, 1, 17),
  (2, 0, 2, 0, 20), (2, 0, 1, 0, 21), (24, 0, 85, 47, 22), (2, 0, 1, 0, 25), (40, 0, 70, 39, 26), (0, -1, 0, 0, 29), (40, 0, 26, 40, 30), (53, 0, 0, 0, 33)]
def xc56 : List xI := [
  (2, 0, 1, 0, 0), (24, 0, 84, 46, 1), (3, 0, 3, 0, 4), (2, 0, 0, 0, 5), (2, 0, 1, 0, 6), (2, 0, 2, 0, 7), (40, 0, 57, 42, 8), (2, 0, 2, 0, 11), (18, 0, 13, 0, 12), (2, 0, 0, 0, 15),
  (2, 0, 2, 0, 16), (2, 0, 1, 0, 17), (40, 0, 57, 42, 18), (0, 0, 0, 0, 21), (3, 0, 4, 1, 22), (1, 0, 4, 1, 24), (2, 0, 0, 0, 26), (24, 0, 67, 36, 27), (16, 0, 38, 3, 30), (2, 0, 0, 0, 33),
  (25, 0, 66, 33, 34), (1, 0, 4, 1, 37), (30, 0, 0, 0, 39), (1, 0, 3, 0, 40), (0, 0, 0, 0, 41), (40, 0, 76, 35, 42), (15, 0, 36, 0, 45), (2, 0, 0, 0, 48), (25, 0, 66, 33, 49), (1, 0, 4, 1, 52),
  (30, 0, 0, 0, 54), (21, 0, 0, 0, 55), (24, 0, 86, 48, 56), (0, 1, 0, 0, 59), (6, 0, 0, 0, 60), (26, 0, 86, 48, 61), (5, 1, 4, 0, 64), (17, 0, 15, 0, 67), (53, 0, 0, 0, 70)]
def xc57 : List xI := [
  (2, 0, 0, 0, 0), (2, 0, 1, 0, 1), (40, 0, 55, 43, 2), (2, 0, 1, 0, 5), (0, 2, 0, 0, 6), (2, 0, 1, 0, 7), (24, 0, 84, 46, 8), (0, -1, 0, 0, 11), (40, 0, 68, 41, 12), (2, 0, 1, 0, 15),
  (2, 0, 2, 0, 16), (19, 0, 14, 0, 17), (0, -1, 0, 0, 20), (17, 0, 16, 0, 21), (2, 0, 2, 0, 24), (24, 0, 80, 40, 25), (26, 0, 89, 49, 28), (2, 0, 1, 0, 31), (0, 0, 0, 0, 32), (26, 0, 86, 48, 33),
  (53, 0, 0, 0, 36)]
def xc58 : List xI := [
  (2, 0, 0, 0, 0), (2, 0, 1, 0, 1), (24, 0, 89, 49, 2), (40, 0, 41, 30, 5), (4, 0, 3, 0, 8), (2, 0, 2, 0, 9), (4, 0, 4, 1, 10), (2, 0, 0, 0, 12), (2, 0, 1, 0, 13), (24, 0, 84, 46, 14),
  (2, 0, 2, 0, 17), (24, 0, 32, 45, 18), (40, 0, 52, 38, 21), (3, 0, 5, 1, 24), (2, 0, 0, 0, 26), (2, 0, 1, 0, 27), (2, 0, 3, 0, 28), (2, 0, 2, 0, 29), (40, 0, 59, 44, 30), (3, 0, 6, 1, 33),
  (0, 0, 0, 0, 35), (3, 0, 7, 1, 36), (1, 0, 7, 1, 38), (2, 0, 2, 0, 40), (24, 0, 37, 50, 41), (16, 0, 55, 3, 44), (1, 0, 6, 1, 47), (15, 0, 55, 1, 49), (2, 0, 0, 0, 52), (2, 0, 2, 0, 53),
  (1, 0, 7, 1, 54), (40, 0, 19, 45, 56), (40, 0, 40, 28, 59), (4, 0, 8, 1, 62), (2, 0, 8, 1, 64), (18, 0, 53, 0, 66), (1, 0, 5, 1, 69), (2, 0, 0, 0, 71), (2, 0, 4, 1, 72), (24, 0, 32, 45, 74),
  (2, 0, 8, 1, 77), (24, 0, 32, 45, 79), (40, 0, 52, 38, 82), (6, 0, 0, 0, 85), (3, 0, 5, 1, 86), (2, 0, 8, 1, 88), (4, 0, 4, 1, 90), (2, 0, 0, 0, 92), (2, 0, 1, 0, 93), (2, 0, 3, 0, 94),
  (2, 0, 4, 1, 95), (40, 0, 59, 44, 97), (3, 0, 6, 1, 100), (5, 1, 7, 0, 102), (17, 0, 22, 0, 105), (1, 0, 6, 1, 108), (15, 0, 63, 1, 110), (2, 0, 0, 0, 113), (2, 0, 1, 0, 114), (2, 0, 3, 0, 115),
  (2, 0, 4, 1, 116), (24, 0, 32, 45, 118), (40, 0, 60, 46, 121), (2, 0, 1, 0, 124), (1, 0, 5, 1, 125), (40, 0, 74, 47, 127), (2, 0, 1, 0, 130), (0, -1, 0, 0, 131), (26, 0, 89, 49, 132), (2, 0, 3, 0, 135),
  (18, 0, 74, 0, 136), (2, 0, 3, 0, 139), (0, -1, 0, 0, 140), (26, 0, 89, 49, 141), (53, 0, 0, 0, 144)]
def xc59 : List xI := [
  (2, 0, 3, 0, 0), (2, 0, 1, 0, 1), (40, 0, 70, 39, 2), (40, 0, 25, 48, 5), (3, 0, 4, 1, 8), (1, 0, 4, 1, 10), (0, -1, 0, 0, 12), (16, 0, 16, 1, 13), (2, 0, 3, 0, 16), (21, 0, 0, 0, 17),
  (24, 0, 39, 51, 18), (0, 1, 0, 0, 21), (6, 0, 0, 0, 22), (26, 0, 39, 51, 23), (0, 0, 0, 0, 26), (51, 0, 0, 0, 27), (2, 0, 2, 0, 28), (18, 0, 52, 0, 29), (2, 0, 3, 0, 32), (1, 0, 4, 1, 33),
  (2, 0, 1, 0, 35), (40, 0, 70, 39, 36), (2, 0, 1, 0, 39), (24, 0, 80, 40, 40), (40, 0, 26, 40, 43), (2, 0, 3, 0, 46), (2, 0, 2, 0, 47), (40, 0, 70, 39, 48), (40, 0, 25, 48, 51), (3, 0, 5, 1, 54),
  (1, 0, 5, 1, 56), (0, -1, 0, 0, 58), (16, 0, 47, 1, 59), (2, 0, 3, 0, 62), (1, 0, 4, 1, 63), (2, 0, 1, 0, 65), (40, 0, 70, 39, 66), (0, -1, 0, 0, 69), (40, 0, 26, 40, 70), (2, 0, 3, 0, 73),
  (21, 0, 0, 0, 74), (24, 0, 39, 51, 75), (0, 1, 0, 0, 78), (6, 0, 0, 0, 79), (26, 0, 39, 51, 80), (0, 0, 0, 0, 83), (51, 0, 0, 0, 84), (2, 0, 0, 0, 85), (2, 0, 2, 0, 86), (2, 0, 3, 0, 87),
  (1, 0, 5, 1, 88), (40, 0, 54, 33, 90), (2, 0, 0, 0, 93), (2, 0, 1, 0, 94), (2, 0, 3, 0, 95), (1, 0, 4, 1, 96), (40, 0, 54, 33, 98), (0, 1, 0, 0, 101), (51, 0, 0, 0, 102)]
def xc60 : List xI := [
  (2, 0, 1, 0, 0), (0, 3, 0, 0, 1), (1, 0, 3, 0, 2), (0, -1, 0, 0, 3), (40, 0, 68, 41, 4), (2, 0, 2, 0, 7), (18, 0, 12, 0, 8), (2, 0, 2, 0, 11), (0, 3, 0, 0, 12), (1, 0, 3, 0, 13),
  (0, -1, 0, 0, 14), (40, 0, 68, 41, 15), (53, 0, 0, 0, 18)]
def xc61 : List xI := [
  (2, 0, 1, 0, 0), (21, 0, 0, 0, 1), (24, 0, 4, 52, 2), (2, 0, 0, 0, 5), (2, 0, 1, 0, 6), (24, 0, 2, 53, 7), (1, 0, 2, 0, 10), (40, 0, 52, 38, 11), (6, 0, 0, 0, 14), (26, 0, 4, 52, 15),
  (2, 0, 1, 0, 18), (1, 0, 2, 0, 19), (26, 0, 2, 53, 20), (53, 0, 0, 0, 23)]
def xc62 : List xI := [
  (2, 0, 1, 0, 0), (2, 0, 2, 0, 1), (40, 0, 3, 49, 2), (15, 0, 10, 0, 5), (2, 0, 0, 0, 8), (2, 0, 2, 0, 9), (40, 0, 55, 43, 10), (2, 0, 1, 0, 13), (2, 0, 2, 0, 14), (40, 0, 5, 50, 15),
  (53, 0, 0, 0, 18)]
def xc63 : List xI := [
  (2, 0, 0, 0, 0), (2, 0, 1, 0, 1), (24, 0, 2, 53, 2), (40, 0, 40, 28, 5), (4, 0, 3, 0, 8), (2, 0, 3, 0, 9), (19, 0, 9, 0, 10), (0, -1, 0, 0, 13), (17, 0, 13, 0, 14), (2, 0, 3, 0, 17),
  (2, 0, 2, 0, 18), (40, 0, 70, 39, 19), (40, 0, 25, 48, 22), (3, 0, 4, 1, 25), (2, 0, 3, 0, 27), (18, 0, 25, 0, 28), (1, 0, 4, 1, 31), (0, -1, 0, 0, 33), (16, 0, 25, 0, 34), (2, 0, 1, 0, 37),
  (0, 0, 0, 0, 38), (40, 0, 4, 51, 39), (2, 0, 2, 0, 42), (24, 0, 80, 40, 43), (16, 0, 27, 0, 46), (0, 0, 0, 0, 49), (51, 0, 0, 0, 50), (2, 0, 1, 0, 51), (2, 0, 2, 0, 52), (40, 0, 6, 52, 53),
  (2, 0, 0, 0, 56), (2, 0, 2, 0, 57), (2, 0, 3, 0, 58), (1, 0, 4, 1, 59), (40, 0, 54, 33, 61), (0, 1, 0, 0, 64), (51, 0, 0, 0, 65)]
def xc64 : List xI := [
  (2, 0, 0, 0, 0), (1, 0, 2, 0, 1), (40, 0, 40, 28, 2), (4, 0, 3, 0, 5), (2, 0, 3, 0, 6), (19, 0, 7, 0, 7), (53, 0, 0, 0, 10), (2, 0, 0, 0, 11), (2, 0, 1, 0, 12), (1, 0, 2, 0, 13),
  (40, 0, 61, 53, 14), (2, 0, 0, 0, 17), (2, 0, 3, 0, 18), (40, 0, 51, 54, 19), (3, 0, 4, 1, 22), (0, 0, 0, 0, 24), (3, 0, 5, 1, 25), (1, 0, 5, 1, 27), (2, 0, 3, 0, 29), (24, 0, 33, 54, 30),
  (16, 0, 41, 3, 33), (1, 0, 4, 1, 36), (15, 0, 41, 5, 38), (2, 0, 0, 0, 41), (1, 0, 2, 0, 42), (1, 0, 5, 1, 43), (40, 0, 43, 55, 45), (4, 0, 6, 1, 48), (2, 0, 6, 1, 50), (18, 0, 39, 0, 52),
  (2, 0, 6, 1, 55), (24, 0, 81, 43, 57), (0, 2, 0, 0, 60), (16, 0, 39, 0, 61), (2, 0, 0, 0, 64), (2, 0, 1, 0, 65), (2, 0, 6, 1, 66), (40, 0, 62, 56, 68), (5, -1, 4, 0, 71), (5, 1, 5, 0, 74),
  (17, 0, 17, 0, 77), (1, 0, 4, 1, 80), (10, 0, 0, 0, 82), (3, 0, 5, 1, 83), (1, 0, 5, 1, 85), (15, 0, 61, 5, 87), (2, 0, 0, 0, 90), (2, 0, 1, 0, 91), (0, 0, 0, 0, 92), (40, 0, 4, 51, 93),
  (40, 0, 41, 30, 96), (4, 0, 6, 1, 99), (2, 0, 6, 1, 101), (18, 0, 59, 0, 103), (2, 0, 0, 0, 106), (2, 0, 1, 0, 107), (2, 0, 6, 1, 108), (40, 0, 63, 57, 110), (22, 0, 0, 0, 113), (5, -1, 5, 0, 114),
  (17, 0, 44, 0, 117), (53, 0, 0, 0, 120)]
def xc65 : List xI := [
  (2, 0, 0, 0, 0), (43, 0, 3, 140, 1), (2, 0, 0, 0, 4), (1, 0, 1, 0, 5), (26, 0, 80, 55, 6), (53, 0, 0, 0, 9)]
def xc66 : List xI := [
  (2, 0, 0, 0, 0), (1, 0, 1, 0, 1), (26, 0, 81, 56, 2), (2, 0, 0, 0, 5), (2, 0, 0, 0, 6), (40, 0, 71, 58, 7), (15, 0, 9, 0, 10), (0, 1000, 0, 2, 13), (17, 0, 10, 0, 16), (0, 0, 0, 0, 19),
  (26, 0, 82, 57, 20), (2, 0, 0, 0, 23), (0, 0, 0, 0, 24), (26, 0, 86, 58, 25), (2, 0, 0, 0, 28), (0, 0, 0, 0, 29), (32, 0, 87, 59, 30), (2, 0, 0, 0, 33), (0, 0, 0, 0, 34), (32, 0, 88, 60, 35),
  (2, 0, 0, 0, 38), (0, -1, 0, 0, 39), (26, 0, 89, 61, 40), (2, 0, 0, 0, 43), (0, 3, 0, 0, 44), (0, -1, 0, 0, 45), (0, -1, 0, 0, 46), (40, 0, 68, 59, 47), (53, 0, 0, 0, 50)]
def xc67 : List xI := [
  (2, 0, 0, 0, 0), (2, 0, 1, 0, 1), (24, 0, 81, 56, 2), (26, 0, 81, 56, 5), (2, 0, 0, 0, 8), (2, 0, 1, 0, 9), (24, 0, 82, 57, 10), (26, 0, 82, 57, 13), (2, 0, 0, 0, 16), (2, 0, 1, 0, 17),
  (24, 0, 83, 62, 18), (26, 0, 83, 62, 21), (2, 0, 0, 0, 24), (2, 0, 1, 0, 25), (24, 0, 84, 63, 26), (26, 0, 84, 63, 29), (2, 0, 0, 0, 32), (2, 0, 1, 0, 33), (24, 0, 85, 64, 34), (26, 0, 85, 64, 37),
  (2, 0, 0, 0, 40), (2, 0, 1, 0, 41), (24, 0, 86, 58, 42), (26, 0, 86, 58, 45), (2, 0, 0, 0, 48), (2, 0, 1, 0, 49), (24, 0, 87, 59, 50), (32, 0, 87, 59, 53), (2, 0, 0, 0, 56), (2, 0, 1, 0, 57),
  (24, 0, 88, 60, 58), (32, 0, 88, 60, 61), (2, 0, 0, 0, 64), (2, 0, 1, 0, 65), (24, 0, 89, 61, 66), (26, 0, 89, 61, 69), (53, 0, 0, 0, 72)]
def xc68 : List xI := [
  (2, 0, 0, 0, 0), (1, 0, 1, 0, 1), (26, 0, 83, 62, 2), (2, 0, 0, 0, 5), (1, 0, 2, 0, 6), (26, 0, 84, 63, 7), (2, 0, 0, 0, 10), (1, 0, 3, 0, 11), (26, 0, 85, 64, 12), (53, 0, 0, 0, 15)]
def xc69 : List xI := [
  (1, 0, 0, 0, 0), (0, 2, 0, 0, 1), (16, 0, 5, 1, 2), (0, 2, 0, 0, 5), (17, 0, 6, 0, 6), (0, 1, 0, 0, 9), (50, 0, 0, 0, 10)]
def xc70 : List xI := [
  (2, 0, 0, 0, 0), (24, 0, 81, 56, 1), (41, 0, 69, 60, 4), (50, 0, 0, 0, 7)]
def xc71 : List xI := [
  (2, 0, 0, 0, 0), (24, 0, 81, 56, 1), (0, 1, 0, 0, 4), (16, 0, 8, 0, 5), (2, 0, 0, 0, 8), (24, 0, 81, 56, 9), (0, 2, 0, 0, 12), (16, 0, 10, 1, 13), (0, 1, 0, 0, 16), (17, 0, 11, 0, 17),
  (0, 0, 0, 0, 20), (51, 0, 0, 0, 21)]
def xc72 : List xI := [
  (2, 0, 0, 0, 0), (40, 0, 71, 58, 1), (15, 0, 5, 1, 4), (0, 0, 0, 0, 7), (50, 0, 0, 0, 8), (2, 0, 0, 0, 9), (24, 0, 81, 56, 10), (0, 2, 0, 0, 13), (16, 0, 13, 1, 14), (0, 3, 0, 0, 17),
  (1, 0, 1, 0, 18), (8, 0, 0, 0, 19), (17, 0, 16, 0, 20), (0, 2, 0, 0, 23), (1, 0, 1, 0, 24), (8, 0, 0, 0, 25), (50, 0, 0, 0, 26)]
def xc73 : List xI := [
  (2, 0, 0, 0, 0), (24, 0, 82, 57, 1), (2, 0, 0, 0, 4), (1, 0, 1, 0, 5), (40, 0, 72, 61, 6), (16, 0, 8, 2, 9), (0, 1, 0, 0, 12), (17, 0, 9, 0, 13), (0, 0, 0, 0, 16), (51, 0, 0, 0, 17)]
def xc74 : List xI := [
  (2, 0, 0, 0, 0), (0, 0, 0, 0, 1), (2, 0, 0, 0, 2), (24, 0, 82, 57, 3), (2, 0, 0, 0, 6), (1, 0, 1, 0, 7), (40, 0, 72, 61, 8), (7, 0, 0, 0, 11), (44, 0, 58, 529, 12), (26, 0, 82, 57, 15),
  (53, 0, 0, 0, 18)]
def xc75 : List xI := [
  (2, 0, 0, 0, 0), (40, 0, 71, 58, 1), (15, 0, 17, 0, 4), (2, 0, 0, 0, 7), (0, 1000, 0, 2, 8), (2, 0, 0, 0, 11), (24, 0, 82, 57, 12), (2, 0, 0, 0, 15), (24, 0, 81, 56, 16), (0, 2, 0, 0, 19),
  (16, 0, 13, 1, 20), (0, 50, 0, 1, 23), (17, 0, 14, 0, 25), (0, 100, 0, 1, 28), (6, 0, 0, 0, 30), (45, 0, 64, 538, 31), (26, 0, 82, 57, 34), (53, 0, 0, 0, 37)]
def xc76 : List xI := [
  (2, 0, 0, 0, 0), (24, 0, 83, 62, 1), (1, 0, 2, 0, 4), (16, 0, 10, 1, 5), (2, 0, 0, 0, 8), (24, 0, 84, 63, 9), (1, 0, 1, 0, 12), (16, 0, 10, 1, 13), (0, 1, 0, 0, 16), (17, 0, 11, 0, 17),
  (0, 0, 0, 0, 20), (51, 0, 0, 0, 21)]
def xc77 : List xI := [
  (2, 0, 0, 0, 0), (43, 0, 1, 59, 1), (2, 0, 0, 0, 4), (35, 0, 4, 4, 5), (21, 0, 0, 0, 8), (42, 0, 38, 62, 9), (27, 0, 96, 65, 12), (2, 0, 0, 0, 15), (0, 4, 0, 0, 16), (38, 0, 12, 4, 17),
  (27, 0, 97, 66, 20), (2, 0, 0, 0, 23), (35, 0, 3, 5, 24), (21, 0, 0, 0, 27), (42, 0, 27, 63, 28), (27, 0, 98, 67, 31), (53, 0, 0, 0, 34)]
def xc78 : List xI := [
  (1, 0, 1, 0, 0), (0, 2, 0, 0, 1), (16, 0, 6, 2, 2), (1, 0, 1, 0, 5), (0, 12, 0, 1, 6), (16, 0, 8, 5, 8), (0, -1, 0, 0, 11), (17, 0, 12, 0, 12), (2, 0, 0, 0, 15), (25, 0, 96, 65, 16),
  (1, 0, 1, 0, 19), (40, 0, 44, 64, 20), (50, 0, 0, 0, 23)]
def xc79 : List xI := [
  (2, 0, 0, 0, 0), (25, 0, 96, 65, 1), (1, 0, 1, 0, 4), (40, 0, 40, 65, 5), (4, 0, 4, 1, 8), (2, 0, 0, 0, 10), (25, 0, 96, 65, 11), (1, 0, 2, 0, 14), (40, 0, 40, 65, 15), (4, 0, 5, 1, 18),
  (2, 0, 4, 1, 20), (18, 0, 23, 0, 22), (2, 0, 5, 1, 25), (18, 0, 23, 0, 27), (1, 0, 1, 0, 30), (1, 0, 2, 0, 31), (16, 0, 23, 0, 32), (1, 0, 3, 0, 35), (0, 1, 0, 0, 36), (16, 0, 23, 2, 37),
  (1, 0, 3, 0, 40), (0, 999, 0, 2, 41), (16, 0, 25, 5, 44), (0, 0, 0, 0, 47), (51, 0, 0, 0, 48), (2, 0, 4, 1, 49), (25, 0, 35, 68, 51), (1, 0, 2, 0, 54), (1, 0, 3, 0, 55), (29, 0, 0, 0, 56),
  (2, 0, 5, 1, 57), (25, 0, 35, 68, 59), (1, 0, 1, 0, 62), (1, 0, 3, 0, 63), (29, 0, 0, 0, 64), (0, 1, 0, 0, 65), (51, 0, 0, 0, 66)]
def xc80 : List xI := [
  (2, 0, 0, 0, 0), (25, 0, 96, 65, 1), (1, 0, 1, 0, 4), (40, 0, 40, 65, 5), (4, 0, 3, 0, 8), (2, 0, 3, 0, 9), (18, 0, 15, 0, 10), (2, 0, 0, 0, 13), (25, 0, 96, 65, 14), (1, 0, 2, 0, 17),
  (40, 0, 40, 65, 18), (18, 0, 15, 0, 21), (1, 0, 1, 0, 24), (1, 0, 2, 0, 25), (16, 0, 17, 1, 26), (0, -1, 0, 0, 29), (50, 0, 0, 0, 30), (2, 0, 3, 0, 31), (1, 0, 2, 0, 32), (40, 0, 18, 66, 33),
  (50, 0, 0, 0, 36)]
def xc81 : List xI := [
  (2, 0, 0, 0, 0), (25, 0, 96, 65, 1), (1, 0, 1, 0, 4), (40, 0, 40, 65, 5), (4, 0, 3, 0, 8), (2, 0, 3, 0, 9), (19, 0, 9, 0, 10), (0, 0, 0, 0, 13), (51, 0, 0, 0, 14), (1, 0, 2, 0, 15),
  (15, 0, 20, 1, 16), (2, 0, 3, 0, 19), (24, 0, 37, 69, 20), (0, -1, 0, 0, 23), (16, 0, 20, 0, 24), (2, 0, 3, 0, 27), (0, -1, 0, 0, 28), (26, 0, 37, 69, 29), (0, 1, 0, 0, 32), (51, 0, 0, 0, 33),
  (1, 0, 2, 0, 34), (0, 1, 0, 0, 35), (16, 0, 32, 1, 36), (2, 0, 3, 0, 39), (25, 0, 40, 70, 40), (24, 0, 16, 71, 43), (15, 0, 32, 0, 46), (2, 0, 3, 0, 49), (25, 0, 40, 70, 50), (40, 0, 9, 67, 53),
  (0, 1, 0, 0, 56), (51, 0, 0, 0, 57), (0, 0, 0, 0, 58), (51, 0, 0, 0, 59)]
def xc82 : List xI := [
  (2, 0, 0, 0, 0), (25, 0, 96, 65, 1), (1, 0, 1, 0, 4), (40, 0, 40, 65, 5), (4, 0, 4, 1, 8), (2, 0, 4, 1, 10), (18, 0, 11, 0, 12), (2, 0, 4, 1, 15), (1, 0, 2, 0, 17), (40, 0, 17, 68, 18),
  (15, 0, 13, 1, 21), (0, 0, 0, 0, 24), (51, 0, 0, 0, 25), (2, 0, 4, 1, 26), (25, 0, 34, 72, 28), (1, 0, 2, 0, 31), (28, 0, 0, 0, 32), (1, 0, 3, 0, 33), (15, 0, 21, 0, 34), (0, -1, 0, 0, 37),
  (17, 0, 22, 0, 38), (0, -2, 0, 1, 41), (16, 0, 25, 0, 43), (0, 0, 0, 0, 46), (51, 0, 0, 0, 47), (2, 0, 4, 1, 48), (25, 0, 34, 72, 50), (1, 0, 2, 0, 53), (1, 0, 3, 0, 54), (15, 0, 32, 0, 55),
  (0, -2, 0, 1, 58), (17, 0, 33, 0, 60), (0, -1, 0, 0, 63), (29, 0, 0, 0, 64), (0, 1, 0, 0, 65), (51, 0, 0, 0, 66)]
def xc83 : List xI := [
  (2, 0, 0, 0, 0), (25, 0, 96, 65, 1), (1, 0, 1, 0, 4), (40, 0, 40, 65, 5), (4, 0, 3, 0, 8), (2, 0, 3, 0, 9), (18, 0, 11, 0, 10), (2, 0, 3, 0, 13), (1, 0, 2, 0, 14), (40, 0, 17, 68, 15),
  (15, 0, 13, 1, 18), (0, -3, 0, 1, 21), (17, 0, 17, 0, 23), (2, 0, 3, 0, 26), (25, 0, 34, 72, 27), (1, 0, 2, 0, 30), (28, 0, 0, 0, 31), (50, 0, 0, 0, 32)]
def xc84 : List xI := [
  (2, 0, 0, 0, 0), (25, 0, 96, 65, 1), (1, 0, 1, 0, 4), (40, 0, 40, 65, 5), (4, 0, 3, 0, 8), (2, 0, 3, 0, 9), (19, 0, 9, 0, 10), (0, -3, 0, 1, 13), (50, 0, 0, 0, 15), (1, 0, 2, 0, 16),
  (47, 0, 0, 1, 17), (2, 0, 3, 0, 64), (24, 0, 33, 73, 65), (50, 0, 0, 0, 68), (2, 0, 3, 0, 69), (40, 0, 22, 69, 70), (50, 0, 0, 0, 73), (2, 0, 0, 0, 74), (25, 0, 96, 65, 75), (1, 0, 1, 0, 78),
  (0, 0, 0, 0, 79), (40, 0, 49, 70, 80), (50, 0, 0, 0, 83), (2, 0, 0, 0, 84), (25, 0, 96, 65, 85), (1, 0, 1, 0, 88), (40, 0, 50, 71, 89), (50, 0, 0, 0, 92), (2, 0, 3, 0, 93), (24, 0, 39, 74, 94),
  (50, 0, 0, 0, 97), (2, 0, 3, 0, 98), (24, 0, 38, 75, 99), (50, 0, 0, 0, 102), (2, 0, 3, 0, 103), (24, 0, 37, 69, 104), (50, 0, 0, 0, 107), (2, 0, 0, 0, 108), (25, 0, 96, 65, 109), (1, 0, 1, 0, 112),
  (0, 3, 0, 0, 113), (40, 0, 49, 70, 114), (50, 0, 0, 0, 117), (0, -3, 0, 1, 118), (50, 0, 0, 0, 120)]
def xc85 : List xI := [
  (2, 0, 0, 0, 0), (25, 0, 96, 65, 1), (1, 0, 2, 0, 4), (40, 0, 40, 65, 5), (4, 0, 4, 1, 8), (2, 0, 4, 1, 10), (18, 0, 18, 0, 12), (1, 0, 1, 0, 15), (15, 0, 18, 2, 16), (1, 0, 1, 0, 19),
  (0, 3, 0, 0, 20), (16, 0, 18, 4, 21), (2, 0, 4, 1, 24), (1, 0, 3, 0, 26), (1, 0, 1, 0, 27), (41, 0, 69, 72, 28), (40, 0, 24, 73, 31), (15, 0, 20, 1, 34), (0, -1, 0, 0, 37), (50, 0, 0, 0, 38),
  (2, 0, 0, 0, 39), (25, 0, 96, 65, 40), (1, 0, 1, 0, 43), (2, 0, 4, 1, 44), (1, 0, 3, 0, 46), (40, 0, 45, 74, 47), (50, 0, 0, 0, 50)]
def xc86 : List xI := [
  (2, 0, 0, 0, 0), (25, 0, 96, 65, 1), (1, 0, 1, 0, 4), (40, 0, 41, 75, 5), (4, 0, 3, 0, 8), (2, 0, 3, 0, 9), (18, 0, 10, 0, 10), (2, 0, 3, 0, 13), (40, 0, 71, 76, 14), (15, 0, 12, 1, 17),
  (0, -1, 0, 0, 20), (50, 0, 0, 0, 21), (1, 0, 2, 0, 22), (56, 0, 111, 77, 23), (3, 0, 4, 1, 26), (1, 0, 4, 1, 28), (0, -1, 0, 0, 30), (16, 0, 21, 0, 31), (2, 0, 3, 0, 34), (1, 0, 4, 1, 35),
  (26, 0, 82, 76, 37), (1, 0, 4, 1, 40), (50, 0, 0, 0, 42)]
def xc87 : List xI := [
  (2, 0, 0, 0, 0), (25, 0, 96, 65, 1), (1, 0, 1, 0, 4), (40, 0, 41, 75, 5), (4, 0, 3, 0, 8), (2, 0, 3, 0, 9), (19, 0, 9, 0, 10), (0, -3, 0, 1, 13), (50, 0, 0, 0, 15), (1, 0, 2, 0, 16),
  (47, 0, 0, 2, 17), (2, 0, 3, 0, 64), (24, 0, 81, 77, 65), (50, 0, 0, 0, 68), (2, 0, 3, 0, 69), (24, 0, 82, 76, 70), (50, 0, 0, 0, 73), (2, 0, 3, 0, 74), (24, 0, 83, 78, 75), (50, 0, 0, 0, 78),
  (2, 0, 3, 0, 79), (24, 0, 84, 79, 80), (50, 0, 0, 0, 83), (2, 0, 3, 0, 84), (24, 0, 85, 80, 85), (50, 0, 0, 0, 88), (2, 0, 3, 0, 89), (24, 0, 86, 81, 90), (50, 0, 0, 0, 93), (2, 0, 3, 0, 94),
  (24, 0, 88, 82, 95), (15, 0, 34, 0, 98), (0, 1, 0, 0, 101), (17, 0, 35, 0, 102), (0, 0, 0, 0, 105), (50, 0, 0, 0, 106), (2, 0, 3, 0, 107), (24, 0, 89, 83, 108), (50, 0, 0, 0, 111), (0, -3, 0, 1, 112),
  (50, 0, 0, 0, 114)]
def xc88 : List xI := [
  (2, 0, 0, 0, 0), (25, 0, 96, 65, 1), (1, 0, 1, 0, 4), (40, 0, 41, 75, 5), (4, 0, 2, 0, 8), (2, 0, 2, 0, 9), (18, 0, 10, 0, 10), (2, 0, 2, 0, 13), (24, 0, 87, 84, 14), (15, 0, 12, 0, 17),
  (0, 0, 0, 0, 20), (51, 0, 0, 0, 21), (2, 0, 2, 0, 22), (0, 1, 0, 0, 23), (32, 0, 87, 84, 24), (0, 1, 0, 0, 27), (51, 0, 0, 0, 28)]
def xc89 : List xI := [
  (2, 0, 0, 0, 0), (25, 0, 96, 65, 1), (1, 0, 1, 0, 4), (40, 0, 41, 75, 5), (4, 0, 2, 0, 8), (2, 0, 2, 0, 9), (18, 0, 11, 0, 10), (2, 0, 2, 0, 13), (24, 0, 83, 78, 14), (0, 2, 0, 0, 17),
  (16, 0, 13, 1, 18), (0, -1, 0, 0, 21), (50, 0, 0, 0, 22), (2, 0, 2, 0, 23), (24, 0, 87, 84, 24), (15, 0, 21, 0, 27), (2, 0, 2, 0, 30), (0, 1, 0, 0, 31), (32, 0, 88, 82, 32), (0, 1, 0, 0, 35),
  (50, 0, 0, 0, 36), (2, 0, 2, 0, 37), (0, 0, 0, 0, 38), (26, 0, 86, 81, 39), (0, 0, 0, 0, 42), (50, 0, 0, 0, 43)]
def xc90 : List xI := [
  (2, 0, 0, 0, 0), (25, 0, 96, 65, 1), (1, 0, 1, 0, 4), (40, 0, 41, 75, 5), (4, 0, 2, 0, 8), (2, 0, 2, 0, 9), (18, 0, 14, 0, 10), (2, 0, 2, 0, 13), (24, 0, 83, 78, 14), (0, 2, 0, 0, 17),
  (16, 0, 14, 0, 18), (2, 0, 2, 0, 21), (24, 0, 87, 84, 22), (15, 0, 16, 1, 25), (0, 0, 0, 0, 28), (51, 0, 0, 0, 29), (2, 0, 2, 0, 30), (0, 0, 0, 0, 31), (32, 0, 87, 84, 32), (2, 0, 2, 0, 35),
  (0, 0, 0, 0, 36), (32, 0, 88, 82, 37), (2, 0, 2, 0, 40), (0, 0, 0, 0, 41), (26, 0, 86, 81, 42), (0, 1, 0, 0, 45), (51, 0, 0, 0, 46)]
def xc91 : List xI := [
  (0, 0, 0, 0, 0), (3, 0, 3, 0, 1), (0, 0, 0, 0, 2), (3, 0, 4, 1, 3), (1, 0, 4, 1, 5), (2, 0, 0, 0, 7), (25, 0, 96, 65, 8), (24, 0, 67, 85, 11), (16, 0, 30, 3, 14), (2, 0, 0, 0, 17),
  (25, 0, 96, 65, 18), (25, 0, 66, 86, 21), (1, 0, 4, 1, 24), (30, 0, 0, 0, 26), (4, 0, 5, 1, 27), (2, 0, 5, 1, 29), (24, 0, 83, 78, 31), (15, 0, 28, 1, 34), (2, 0, 5, 1, 37), (24, 0, 86, 81, 39),
  (1, 0, 1, 0, 42), (16, 0, 28, 5, 43), (1, 0, 3, 0, 46), (1, 0, 2, 0, 47), (16, 0, 27, 1, 48), (1, 0, 4, 1, 51), (50, 0, 0, 0, 53), (5, 1, 3, 0, 54), (5, 1, 4, 0, 57), (17, 0, 4, 0, 60),
  (0, -1, 0, 0, 63), (50, 0, 0, 0, 64)]
def xc92 : List xI := [
  (2, 0, 0, 0, 0), (25, 0, 96, 65, 1), (1, 0, 1, 0, 4), (1, 0, 2, 0, 5), (40, 0, 43, 78, 6), (4, 0, 4, 1, 9), (2, 0, 4, 1, 11), (19, 0, 10, 0, 13), (0, -1, 0, 0, 16), (50, 0, 0, 0, 17),
  (2, 0, 4, 1, 18), (24, 0, 81, 77, 20), (0, 3, 0, 0, 23), (16, 0, 16, 1, 24), (0, -2, 0, 1, 27), (50, 0, 0, 0, 29), (2, 0, 4, 1, 30), (24, 0, 87, 84, 32), (15, 0, 21, 0, 35), (0, -3, 0, 1, 38),
  (50, 0, 0, 0, 40), (2, 0, 4, 1, 41), (2, 0, 0, 0, 43), (25, 0, 96, 65, 44), (1, 0, 1, 0, 47), (40, 0, 53, 79, 48), (40, 0, 73, 80, 51), (15, 0, 30, 1, 54), (0, -4, 0, 1, 57), (50, 0, 0, 0, 59),
  (1, 0, 3, 0, 60), (0, -1, 0, 0, 61), (16, 0, 35, 1, 62), (20, 0, 0, 0, 65), (17, 0, 40, 0, 66), (2, 0, 0, 0, 69), (25, 0, 96, 65, 70), (1, 0, 1, 0, 73), (1, 0, 3, 0, 74), (40, 0, 43, 78, 75),
  (4, 0, 5, 1, 78), (1, 0, 3, 0, 80), (0, -1, 0, 0, 81), (16, 0, 55, 0, 82), (2, 0, 5, 1, 85), (18, 0, 53, 0, 87), (2, 0, 5, 1, 90), (24, 0, 81, 77, 92), (0, 3, 0, 0, 95), (16, 0, 53, 1, 96),
  (2, 0, 5, 1, 99), (24, 0, 87, 84, 101), (15, 0, 55, 0, 104), (0, -5, 0, 1, 107), (50, 0, 0, 0, 109), (2, 0, 0, 0, 110), (25, 0, 96, 65, 111), (2, 0, 4, 1, 114), (2, 0, 5, 1, 116), (40, 0, 56, 81, 118),
  (2, 0, 4, 1, 121), (24, 0, 80, 87, 123), (50, 0, 0, 0, 126)]
def xc93 : List xI := [
  (2, 0, 0, 0, 0), (25, 0, 96, 65, 1), (1, 0, 1, 0, 4), (40, 0, 41, 75, 5), (4, 0, 3, 0, 8), (2, 0, 0, 0, 9), (25, 0, 96, 65, 10), (1, 0, 2, 0, 13), (40, 0, 40, 65, 14), (4, 0, 4, 1, 17),
  (2, 0, 3, 0, 19), (18, 0, 22, 0, 20), (2, 0, 4, 1, 23), (18, 0, 22, 0, 25), (2, 0, 3, 0, 28), (24, 0, 83, 78, 29), (0, 2, 0, 0, 32), (16, 0, 22, 1, 33), (2, 0, 3, 0, 36), (24, 0, 81, 77, 37),
  (0, 3, 0, 0, 40), (16, 0, 24, 1, 41), (0, -1, 0, 0, 44), (50, 0, 0, 0, 45), (2, 0, 0, 0, 46), (25, 0, 96, 65, 47), (2, 0, 3, 0, 50), (2, 0, 4, 1, 51), (40, 0, 58, 82, 53), (2, 0, 3, 0, 56),
  (24, 0, 83, 78, 57), (0, 3, 0, 0, 60), (16, 0, 38, 1, 61), (0, 100, 0, 1, 64), (2, 0, 3, 0, 66), (24, 0, 84, 79, 67), (6, 0, 0, 0, 70), (17, 0, 40, 0, 71), (2, 0, 3, 0, 74), (24, 0, 84, 79, 75),
  (50, 0, 0, 0, 78)]
def xc94 : List xI := [
  (0, 0, 0, 0, 0), (3, 0, 1, 0, 1), (1, 0, 1, 0, 2), (2, 0, 0, 0, 3), (25, 0, 96, 65, 4), (24, 0, 67, 85, 7), (16, 0, 22, 3, 10), (2, 0, 0, 0, 13), (25, 0, 96, 65, 14), (25, 0, 66, 86, 17),
  (1, 0, 1, 0, 20), (30, 0, 0, 0, 21), (24, 0, 83, 78, 22), (15, 0, 20, 1, 25), (2, 0, 0, 0, 28), (25, 0, 96, 65, 29), (25, 0, 66, 86, 32), (1, 0, 1, 0, 35), (30, 0, 0, 0, 36), (40, 0, 75, 83, 37),
  (5, 1, 1, 0, 40), (17, 0, 2, 0, 43), (2, 0, 0, 0, 46), (25, 0, 96, 65, 47), (2, 0, 0, 0, 50), (25, 0, 96, 65, 51), (24, 0, 70, 88, 54), (0, 1, 0, 0, 57), (6, 0, 0, 0, 58), (0, 24, 0, 1, 59),
  (16, 0, 37, 3, 61), (2, 0, 0, 0, 64), (25, 0, 96, 65, 65), (24, 0, 70, 88, 68), (0, 1, 0, 0, 71), (6, 0, 0, 0, 72), (17, 0, 38, 0, 73), (0, 0, 0, 0, 76), (26, 0, 70, 88, 77), (2, 0, 0, 0, 80),
  (25, 0, 96, 65, 81), (24, 0, 70, 88, 84), (50, 0, 0, 0, 87)]
def xc95 : List xI := [
  (1, 0, 1, 0, 0), (0, 1, 0, 0, 1), (16, 0, 11, 2, 2), (1, 0, 1, 0, 5), (0, 8, 0, 1, 6), (16, 0, 11, 4, 8), (2, 0, 0, 0, 11), (25, 0, 96, 65, 12), (1, 0, 2, 0, 15), (40, 0, 40, 65, 16),
  (19, 0, 13, 0, 19), (0, -1, 0, 0, 22), (50, 0, 0, 0, 23), (2, 0, 0, 0, 24), (25, 0, 96, 65, 25), (1, 0, 1, 0, 28), (1, 0, 2, 0, 29), (40, 0, 46, 84, 30), (50, 0, 0, 0, 33)]
def xc96 : List xI := [
  (2, 0, 0, 0, 0), (25, 0, 96, 65, 1), (1, 0, 1, 0, 4), (40, 0, 42, 85, 5), (4, 0, 3, 0, 8), (2, 0, 3, 0, 9), (18, 0, 12, 0, 10), (2, 0, 0, 0, 13), (25, 0, 96, 65, 14), (1, 0, 2, 0, 17),
  (40, 0, 40, 65, 18), (19, 0, 14, 0, 21), (0, -1, 0, 0, 24), (50, 0, 0, 0, 25), (2, 0, 0, 0, 26), (25, 0, 96, 65, 27), (2, 0, 3, 0, 30), (1, 0, 2, 0, 31), (40, 0, 61, 86, 32), (2, 0, 3, 0, 35),
  (24, 0, 4, 89, 36), (50, 0, 0, 0, 39)]
def xc97 : List xI := [
  (2, 0, 0, 0, 0), (25, 0, 96, 65, 1), (1, 0, 1, 0, 4), (40, 0, 42, 85, 5), (4, 0, 3, 0, 8), (2, 0, 3, 0, 9), (19, 0, 9, 0, 10), (20, 0, 0, 0, 13), (17, 0, 15, 0, 14), (2, 0, 0, 0, 17),
  (25, 0, 96, 65, 18), (2, 0, 3, 0, 21), (24, 0, 2, 90, 22), (1, 0, 2, 0, 25), (40, 0, 43, 78, 26), (4, 0, 4, 1, 29), (2, 0, 3, 0, 31), (18, 0, 24, 0, 32), (2, 0, 4, 1, 35), (18, 0, 24, 0, 37),
  (2, 0, 3, 0, 40), (2, 0, 4, 1, 41), (40, 0, 3, 87, 43), (15, 0, 26, 1, 46), (0, -1, 0, 0, 49), (50, 0, 0, 0, 50), (2, 0, 0, 0, 51), (25, 0, 96, 65, 52), (2, 0, 3, 0, 55), (2, 0, 4, 1, 56),
  (40, 0, 62, 88, 58), (2, 0, 4, 1, 61), (24, 0, 80, 87, 63), (50, 0, 0, 0, 66)]
def xc98 : List xI := [
  (2, 0, 0, 0, 0), (25, 0, 96, 65, 1), (1, 0, 1, 0, 4), (40, 0, 42, 85, 5), (4, 0, 3, 0, 8), (2, 0, 0, 0, 9), (25, 0, 96, 65, 10), (1, 0, 2, 0, 13), (40, 0, 41, 75, 14), (4, 0, 4, 1, 17),
  (2, 0, 3, 0, 19), (18, 0, 27, 0, 20), (2, 0, 4, 1, 23), (18, 0, 27, 0, 25), (2, 0, 4, 1, 28), (24, 0, 83, 78, 30), (0, 3, 0, 0, 33), (16, 0, 27, 1, 34), (2, 0, 4, 1, 37), (24, 0, 84, 79, 39),
  (2, 0, 3, 0, 42), (24, 0, 2, 90, 43), (16, 0, 27, 1, 46), (2, 0, 3, 0, 49), (2, 0, 4, 1, 50), (40, 0, 3, 87, 52), (15, 0, 29, 1, 55), (0, 0, 0, 0, 58), (51, 0, 0, 0, 59), (2, 0, 3, 0, 60),
  (2, 0, 4, 1, 61), (40, 0, 5, 89, 63), (0, 1, 0, 0, 66), (51, 0, 0, 0, 67)]
def xc99 : List xI := [
  (2, 0, 0, 0, 0), (25, 0, 96, 65, 1), (1, 0, 1, 0, 4), (40, 0, 42, 85, 5), (4, 0, 2, 0, 8), (2, 0, 2, 0, 9), (19, 0, 9, 0, 10), (20, 0, 0, 0, 13), (17, 0, 15, 0, 14), (2, 0, 0, 0, 17),
  (25, 0, 96, 65, 18), (2, 0, 2, 0, 21), (0, 0, 0, 0, 22), (40, 0, 4, 90, 23), (40, 0, 41, 75, 26), (4, 0, 3, 0, 29), (2, 0, 2, 0, 30), (18, 0, 26, 0, 31), (2, 0, 3, 0, 34), (18, 0, 26, 0, 35),
  (2, 0, 0, 0, 38), (25, 0, 96, 65, 39), (2, 0, 2, 0, 42), (2, 0, 3, 0, 43), (40, 0, 63, 91, 44), (15, 0, 28, 1, 47), (0, -1, 0, 0, 50), (50, 0, 0, 0, 51), (2, 0, 3, 0, 52), (0, 0, 0, 0, 53),
  (26, 0, 86, 81, 54), (2, 0, 3, 0, 57), (24, 0, 85, 80, 58), (50, 0, 0, 0, 61)]
def xc100 : List xI := [
  (2, 0, 0, 0, 0), (25, 0, 96, 65, 1), (1, 0, 1, 0, 4), (40, 0, 42, 85, 5), (4, 0, 3, 0, 8), (2, 0, 3, 0, 9), (18, 0, 9, 0, 10), (1, 0, 2, 0, 13), (15, 0, 11, 3, 14), (0, -3, 0, 1, 17),
  (50, 0, 0, 0, 19), (1, 0, 2, 0, 20), (47, 0, 0, 3, 21), (2, 0, 3, 0, 52), (24, 0, 1, 91, 53), (50, 0, 0, 0, 56), (2, 0, 3, 0, 57), (24, 0, 2, 90, 58), (50, 0, 0, 0, 61), (2, 0, 3, 0, 62),
  (24, 0, 3, 92, 63), (50, 0, 0, 0, 66), (2, 0, 3, 0, 67), (24, 0, 4, 89, 68), (50, 0, 0, 0, 71), (2, 0, 3, 0, 72), (1, 0, 2, 0, 73), (0, 4, 0, 0, 74), (7, 0, 0, 0, 75), (40, 0, 4, 90, 76),
  (50, 0, 0, 0, 79)]
def xc101 : List xI := [
  (2, 0, 0, 0, 0), (25, 0, 96, 65, 1), (1, 0, 1, 0, 4), (40, 0, 40, 65, 5), (4, 0, 5, 1, 8), (2, 0, 5, 1, 10), (18, 0, 16, 0, 12), (2, 0, 5, 1, 15), (25, 0, 40, 70, 17), (1, 0, 2, 0, 20),
  (1, 0, 3, 0, 21), (1, 0, 4, 1, 22), (40, 0, 11, 92, 24), (15, 0, 16, 0, 27), (0, 1, 0, 0, 30), (17, 0, 17, 0, 31), (0, 0, 0, 0, 34), (51, 0, 0, 0, 35)]
def xc102 : List xI := [
  (2, 0, 0, 0, 0), (25, 0, 96, 65, 1), (1, 0, 1, 0, 4), (40, 0, 40, 65, 5), (4, 0, 4, 1, 8), (2, 0, 4, 1, 10), (18, 0, 13, 0, 12), (1, 0, 2, 0, 15), (15, 0, 13, 2, 16), (1, 0, 2, 0, 19),
  (2, 0, 4, 1, 20), (40, 0, 23, 93, 22), (16, 0, 15, 5, 25), (0, -3, 0, 1, 28), (50, 0, 0, 0, 30), (2, 0, 4, 1, 31), (25, 0, 40, 70, 33), (1, 0, 2, 0, 36), (2, 0, 4, 1, 37), (40, 0, 23, 93, 39),
  (1, 0, 3, 0, 42), (40, 0, 12, 94, 43), (50, 0, 0, 0, 46)]
def xc103 : List xI := [
  (2, 0, 0, 0, 0), (25, 0, 96, 65, 1), (1, 0, 1, 0, 4), (40, 0, 40, 65, 5), (4, 0, 2, 0, 8), (2, 0, 2, 0, 9), (19, 0, 9, 0, 10), (0, -1000, 0, 2, 13), (50, 0, 0, 0, 16), (2, 0, 2, 0, 17),
  (25, 0, 40, 70, 18), (2, 0, 2, 0, 21), (40, 0, 23, 93, 22), (40, 0, 13, 95, 25), (2, 0, 0, 0, 28), (25, 0, 96, 65, 29), (1, 0, 1, 0, 32), (0, 0, 0, 0, 33), (40, 0, 49, 70, 34), (7, 0, 0, 0, 37),
  (50, 0, 0, 0, 38)]
def xc104 : List xI := [
  (2, 0, 0, 0, 0), (25, 0, 96, 65, 1), (1, 0, 1, 0, 4), (40, 0, 40, 65, 5), (4, 0, 3, 0, 8), (2, 0, 3, 0, 9), (18, 0, 13, 0, 10), (1, 0, 2, 0, 13), (0, -1, 0, 0, 14), (16, 0, 13, 2, 15),
  (1, 0, 2, 0, 18), (0, 12, 0, 1, 19), (16, 0, 15, 5, 21), (0, 0, 0, 0, 24), (51, 0, 0, 0, 25), (2, 0, 3, 0, 26), (1, 0, 2, 0, 27), (26, 0, 38, 75, 28), (0, 1, 0, 0, 31), (51, 0, 0, 0, 32)]
def xc105 : List xI := [
  (2, 0, 0, 0, 0), (25, 0, 98, 67, 1), (2, 0, 0, 0, 4), (25, 0, 96, 65, 5), (2, 0, 0, 0, 8), (25, 0, 96, 65, 9), (1, 0, 1, 0, 12), (40, 0, 42, 85, 13), (40, 0, 29, 96, 16), (50, 0, 0, 0, 19)]
def xc106 : List xI := [
  (2, 0, 0, 0, 0), (25, 0, 98, 67, 1), (1, 0, 1, 0, 4), (40, 0, 28, 97, 5), (50, 0, 0, 0, 8)]
def xc107 : List xI := [
  (2, 0, 0, 0, 0), (25, 0, 96, 65, 1), (1, 0, 1, 0, 4), (40, 0, 42, 85, 5), (4, 0, 2, 0, 8), (2, 0, 0, 0, 9), (25, 0, 98, 67, 10), (2, 0, 0, 0, 13), (25, 0, 96, 65, 14), (2, 0, 2, 0, 17),
  (40, 0, 29, 96, 18), (3, 0, 3, 0, 21), (1, 0, 3, 0, 22), (0, -1, 0, 0, 23), (16, 0, 17, 0, 24), (2, 0, 2, 0, 27), (19, 0, 19, 0, 28), (0, -1, 0, 0, 31), (50, 0, 0, 0, 32), (0, 0, 0, 0, 33),
  (3, 0, 4, 1, 34), (1, 0, 4, 1, 36), (2, 0, 0, 0, 38), (25, 0, 98, 67, 39), (24, 0, 49, 93, 42), (16, 0, 36, 3, 45), (2, 0, 0, 0, 48), (25, 0, 96, 65, 49), (2, 0, 2, 0, 52), (2, 0, 0, 0, 53),
  (25, 0, 98, 67, 54), (1, 0, 4, 1, 57), (40, 0, 28, 97, 59), (40, 0, 64, 98, 62), (5, 1, 4, 0, 65), (17, 0, 21, 0, 68), (1, 0, 3, 0, 71), (50, 0, 0, 0, 72)]
def xc108 : List xI := [
  (1, 0, 1, 0, 0), (15, 0, 5, 2, 1), (1, 0, 1, 0, 4), (0, 4, 0, 0, 5), (16, 0, 7, 2, 6), (0, 0, 0, 0, 9), (51, 0, 0, 0, 10), (2, 0, 0, 0, 11), (25, 0, 97, 66, 12), (1, 0, 1, 0, 15),
  (30, 0, 0, 0, 16), (19, 0, 19, 0, 17), (2, 0, 0, 0, 20), (25, 0, 97, 66, 21), (1, 0, 1, 0, 24), (35, 0, 4, 4, 25), (21, 0, 0, 0, 28), (42, 0, 38, 62, 29), (31, 0, 0, 0, 32), (2, 0, 0, 0, 33),
  (25, 0, 97, 66, 34), (1, 0, 1, 0, 37), (30, 0, 0, 0, 38), (2, 0, 0, 0, 39), (25, 0, 96, 65, 40), (40, 0, 39, 99, 43), (0, 1, 0, 0, 46), (51, 0, 0, 0, 47)]
def xc109 : List xI := [
  (1, 0, 1, 0, 0), (15, 0, 10, 2, 1), (1, 0, 1, 0, 4), (0, 4, 0, 0, 5), (16, 0, 10, 3, 6), (2, 0, 0, 0, 9), (25, 0, 97, 66, 10), (1, 0, 1, 0, 13), (30, 0, 0, 0, 14), (19, 0, 12, 0, 15),
  (0, 0, 0, 0, 18), (51, 0, 0, 0, 19), (2, 0, 0, 0, 20), (25, 0, 96, 65, 21), (2, 0, 0, 0, 24), (25, 0, 97, 66, 25), (1, 0, 1, 0, 28), (30, 0, 0, 0, 29), (40, 0, 39, 99, 30), (0, 1, 0, 0, 33),
  (51, 0, 0, 0, 34)]
def xc110 : List xI := [
  (1, 0, 1, 0, 0), (47, 0, 0, 4, 1), (2, 0, 0, 0, 52), (25, 0, 96, 65, 53), (24, 0, 65, 94, 56), (50, 0, 0, 0, 59), (2, 0, 0, 0, 60), (25, 0, 96, 65, 61), (24, 0, 67, 85, 64), (50, 0, 0, 0, 67),
  (2, 0, 0, 0, 68), (25, 0, 96, 65, 69), (24, 0, 69, 95, 72), (50, 0, 0, 0, 75), (2, 0, 0, 0, 76), (25, 0, 96, 65, 77), (0, 0, 0, 0, 80), (40, 0, 47, 100, 81), (50, 0, 0, 0, 84), (2, 0, 0, 0, 85),
  (25, 0, 96, 65, 86), (0, 1, 0, 0, 89), (40, 0, 47, 100, 90), (50, 0, 0, 0, 93), (2, 0, 0, 0, 94), (25, 0, 96, 65, 95), (0, 2, 0, 0, 98), (40, 0, 47, 100, 99), (50, 0, 0, 0, 102), (2, 0, 0, 0, 103),
  (25, 0, 96, 65, 104), (0, 3, 0, 0, 107), (40, 0, 47, 100, 108), (50, 0, 0, 0, 111), (2, 0, 0, 0, 112), (25, 0, 96, 65, 113), (40, 0, 48, 101, 116), (50, 0, 0, 0, 119), (2, 0, 0, 0, 120), (25, 0, 96, 65, 121),
  (24, 0, 70, 88, 124), (50, 0, 0, 0, 127), (0, -1, 0, 0, 128), (50, 0, 0, 0, 129)]
def xc111 : List xI := [
]
def xc112 : List xI := [
  (2, 0, 0, 0, 0), (43, 0, 1, 766, 1), (2, 0, 0, 0, 4), (0, 8200, 0, 2, 5), (36, 0, 0, 0, 8), (27, 0, 112, 96, 10), (2, 0, 0, 0, 13), (0, 4, 0, 0, 14), (37, 0, 0, 0, 15), (27, 0, 113, 97, 17),
  (2, 0, 0, 0, 20), (0, 12, 0, 1, 21), (36, 0, 0, 0, 23), (27, 0, 117, 98, 25), (2, 0, 0, 0, 28), (0, 12, 0, 1, 29), (36, 0, 0, 0, 31), (27, 0, 118, 99, 33), (2, 0, 0, 0, 36), (0, 7, 0, 1, 37),
  (36, 0, 0, 0, 39), (27, 0, 120, 100, 41), (2, 0, 0, 0, 44), (0, 7, 0, 1, 45), (36, 0, 0, 0, 47), (27, 0, 121, 101, 49), (2, 0, 0, 0, 52), (0, 7, 0, 1, 53), (36, 0, 0, 0, 55), (27, 0, 122, 102, 57),
  (0, 0, 0, 0, 60), (3, 0, 1, 0, 61), (1, 0, 1, 0, 62), (0, 12, 0, 1, 63), (16, 0, 60, 3, 65), (0, 0, 0, 0, 68), (3, 0, 2, 0, 69), (1, 0, 2, 0, 70), (0, 12, 0, 1, 71), (16, 0, 58, 3, 73),
  (2, 0, 0, 0, 76), (25, 0, 112, 96, 77), (0, 970, 0, 2, 80), (0, 12, 0, 1, 83), (1, 0, 1, 0, 85), (8, 0, 0, 0, 86), (6, 0, 0, 0, 87), (1, 0, 2, 0, 88), (6, 0, 0, 0, 89), (1, 0, 1, 0, 90),
  (1, 0, 2, 0, 91), (16, 0, 54, 1, 92), (0, 0, 0, 0, 95), (17, 0, 55, 0, 96), (0, 999, 0, 2, 99), (29, 0, 0, 0, 102), (5, 1, 2, 0, 103), (17, 0, 37, 0, 106), (5, 1, 1, 0, 109), (17, 0, 32, 0, 112),
  (53, 0, 0, 0, 115)]
def xc113 : List xI := [
  (1, 0, 0, 0, 0), (15, 0, 7, 2, 1), (1, 0, 0, 0, 4), (1, 0, 1, 0, 5), (16, 0, 7, 3, 6), (0, 1, 0, 0, 9), (17, 0, 8, 0, 10), (0, 0, 0, 0, 13), (51, 0, 0, 0, 14)]
def xc114 : List xI := [
  (1, 0, 1, 0, 0), (2, 0, 0, 0, 1), (25, 0, 112, 96, 2), (0, 0, 0, 0, 5), (28, 0, 0, 0, 6), (41, 0, 113, 102, 7), (51, 0, 0, 0, 10)]
def xc115 : List xI := [
  (1, 0, 1, 0, 0), (2, 0, 0, 0, 1), (25, 0, 112, 96, 2), (0, 1, 0, 0, 5), (28, 0, 0, 0, 6), (41, 0, 113, 102, 7), (51, 0, 0, 0, 10)]
def xc116 : List xI := [
  (1, 0, 1, 0, 0), (2, 0, 0, 0, 1), (25, 0, 112, 96, 2), (0, 2, 0, 0, 5), (28, 0, 0, 0, 6), (41, 0, 113, 102, 7), (51, 0, 0, 0, 10)]
def xc117 : List xI := [
  (0, 10, 0, 1, 0), (0, 80, 0, 1, 2), (1, 0, 1, 0, 4), (8, 0, 0, 0, 5), (6, 0, 0, 0, 6), (50, 0, 0, 0, 7)]
def xc118 : List xI := [
  (2, 0, 0, 0, 0), (25, 0, 112, 96, 1), (2, 0, 0, 0, 4), (1, 0, 1, 0, 5), (40, 0, 117, 103, 6), (28, 0, 0, 0, 9), (50, 0, 0, 0, 10)]
def xc119 : List xI := [
  (2, 0, 0, 0, 0), (1, 0, 1, 0, 1), (40, 0, 117, 103, 2), (0, 1, 0, 0, 5), (6, 0, 0, 0, 6), (1, 0, 2, 0, 7), (6, 0, 0, 0, 8), (50, 0, 0, 0, 9)]
def xc120 : List xI := [
  (2, 0, 0, 0, 0), (25, 0, 112, 96, 1), (0, 970, 0, 2, 4), (0, 12, 0, 1, 7), (1, 0, 1, 0, 9), (8, 0, 0, 0, 10), (6, 0, 0, 0, 11), (1, 0, 2, 0, 12), (6, 0, 0, 0, 13), (28, 0, 0, 0, 14),
  (50, 0, 0, 0, 15)]
def xc121 : List xI := [
  (2, 0, 0, 0, 0), (25, 0, 112, 96, 1), (0, 0, 0, 0, 4), (28, 0, 0, 0, 5), (0, 12, 0, 1, 6), (16, 0, 12, 0, 8), (1, 0, 1, 0, 11), (0, 2, 0, 0, 12), (16, 0, 12, 2, 13), (1, 0, 1, 0, 16),
  (0, 12, 0, 1, 17), (16, 0, 14, 5, 19), (0, -1, 0, 0, 22), (50, 0, 0, 0, 23), (2, 0, 0, 0, 24), (25, 0, 112, 96, 25), (0, 0, 0, 0, 28), (28, 0, 0, 0, 29), (3, 0, 2, 0, 30), (2, 0, 0, 0, 31),
  (25, 0, 112, 96, 32), (2, 0, 0, 0, 35), (1, 0, 2, 0, 36), (40, 0, 117, 103, 37), (1, 0, 1, 0, 40), (29, 0, 0, 0, 41), (0, 0, 0, 0, 42), (3, 0, 3, 0, 43), (1, 0, 3, 0, 44), (1, 0, 1, 0, 45),
  (16, 0, 41, 3, 46), (2, 0, 0, 0, 49), (25, 0, 112, 96, 50), (2, 0, 0, 0, 53), (1, 0, 2, 0, 54), (1, 0, 3, 0, 55), (40, 0, 119, 104, 56), (0, -1, 0, 0, 59), (29, 0, 0, 0, 60), (5, 1, 3, 0, 61),
  (17, 0, 28, 0, 64), (2, 0, 0, 0, 67), (25, 0, 112, 96, 68), (2, 0, 0, 0, 71), (1, 0, 2, 0, 72), (40, 0, 117, 103, 73), (0, 14, 0, 1, 76), (6, 0, 0, 0, 78), (0, -1, 0, 0, 79), (29, 0, 0, 0, 80),
  (2, 0, 0, 0, 81), (25, 0, 112, 96, 82), (2, 0, 0, 0, 85), (1, 0, 2, 0, 86), (40, 0, 117, 103, 87), (0, 15, 0, 1, 90), (6, 0, 0, 0, 92), (0, -1, 0, 0, 93), (29, 0, 0, 0, 94), (2, 0, 0, 0, 95),
  (25, 0, 112, 96, 96), (0, 0, 0, 0, 99), (23, 0, 0, 0, 100), (28, 0, 0, 0, 101), (0, 1, 0, 0, 102), (6, 0, 0, 0, 103), (29, 0, 0, 0, 104), (1, 0, 2, 0, 105), (50, 0, 0, 0, 106)]
def xc122 : List xI := [
  (2, 0, 0, 0, 0), (1, 0, 1, 0, 1), (40, 0, 114, 105, 2), (15, 0, 17, 0, 5), (2, 0, 0, 0, 8), (1, 0, 2, 0, 9), (40, 0, 114, 105, 10), (15, 0, 17, 0, 13), (1, 0, 1, 0, 16), (1, 0, 2, 0, 17),
  (16, 0, 17, 0, 18), (1, 0, 3, 0, 21), (0, 1, 0, 0, 22), (16, 0, 17, 2, 23), (1, 0, 3, 0, 26), (0, 999, 0, 2, 27), (16, 0, 19, 5, 30), (0, 0, 0, 0, 33), (51, 0, 0, 0, 34), (2, 0, 0, 0, 35),
  (25, 0, 112, 96, 36), (0, 970, 0, 2, 39), (0, 12, 0, 1, 42), (1, 0, 1, 0, 44), (8, 0, 0, 0, 45), (6, 0, 0, 0, 46), (1, 0, 2, 0, 47), (6, 0, 0, 0, 48), (1, 0, 3, 0, 49), (29, 0, 0, 0, 50),
  (2, 0, 0, 0, 51), (25, 0, 112, 96, 52), (0, 970, 0, 2, 55), (0, 12, 0, 1, 58), (1, 0, 2, 0, 60), (8, 0, 0, 0, 61), (6, 0, 0, 0, 62), (1, 0, 1, 0, 63), (6, 0, 0, 0, 64), (1, 0, 3, 0, 65),
  (29, 0, 0, 0, 66), (0, 1, 0, 0, 67), (51, 0, 0, 0, 68)]
def xc123 : List xI := [
  (2, 0, 0, 0, 0), (1, 0, 1, 0, 1), (40, 0, 114, 105, 2), (15, 0, 11, 0, 5), (2, 0, 0, 0, 8), (1, 0, 2, 0, 9), (40, 0, 114, 105, 10), (15, 0, 11, 0, 13), (1, 0, 1, 0, 16), (1, 0, 2, 0, 17),
  (16, 0, 13, 1, 18), (0, -1, 0, 0, 21), (50, 0, 0, 0, 22), (2, 0, 0, 0, 23), (1, 0, 1, 0, 24), (40, 0, 117, 103, 25), (0, 15, 0, 1, 28), (6, 0, 0, 0, 30), (3, 0, 3, 0, 31), (2, 0, 0, 0, 32),
  (25, 0, 112, 96, 33), (1, 0, 3, 0, 36), (28, 0, 0, 0, 37), (0, 8, 0, 1, 38), (16, 0, 27, 1, 40), (0, -1, 0, 0, 43), (50, 0, 0, 0, 44), (2, 0, 0, 0, 45), (25, 0, 112, 96, 46), (1, 0, 3, 0, 49),
  (28, 0, 0, 0, 50), (15, 0, 37, 3, 51), (2, 0, 0, 0, 54), (25, 0, 112, 96, 55), (1, 0, 3, 0, 58), (0, 0, 0, 0, 59), (29, 0, 0, 0, 60), (2, 0, 0, 0, 61), (25, 0, 112, 96, 62), (1, 0, 3, 0, 65),
  (0, 1, 0, 0, 66), (6, 0, 0, 0, 67), (2, 0, 0, 0, 68), (25, 0, 112, 96, 69), (1, 0, 3, 0, 72), (28, 0, 0, 0, 73), (6, 0, 0, 0, 74), (1, 0, 2, 0, 75), (29, 0, 0, 0, 76), (2, 0, 0, 0, 77),
  (25, 0, 112, 96, 78), (1, 0, 3, 0, 81), (23, 0, 0, 0, 82), (28, 0, 0, 0, 83), (0, 1, 0, 0, 84), (6, 0, 0, 0, 85), (29, 0, 0, 0, 86), (2, 0, 0, 0, 87), (25, 0, 112, 96, 88), (1, 0, 3, 0, 91),
  (28, 0, 0, 0, 92), (50, 0, 0, 0, 93)]
def xc124 : List xI := [
  (2, 0, 0, 0, 0), (1, 0, 1, 0, 1), (40, 0, 114, 105, 2), (15, 0, 8, 0, 5), (1, 0, 2, 0, 8), (0, 2, 0, 0, 9), (41, 0, 113, 102, 10), (15, 0, 10, 1, 13), (0, 0, 0, 0, 16), (51, 0, 0, 0, 17),
  (2, 0, 0, 0, 18), (1, 0, 1, 0, 19), (40, 0, 117, 103, 20), (1, 0, 2, 0, 23), (15, 0, 17, 1, 24), (0, 15, 0, 1, 27), (17, 0, 18, 0, 29), (0, 24, 0, 1, 32), (6, 0, 0, 0, 34), (3, 0, 3, 0, 35),
  (2, 0, 0, 0, 36), (25, 0, 112, 96, 37), (1, 0, 3, 0, 40), (28, 0, 0, 0, 41), (1, 0, 2, 0, 42), (15, 0, 28, 1, 43), (0, -1, 0, 0, 46), (17, 0, 29, 0, 47), (0, 0, 0, 0, 50), (16, 0, 32, 1, 51),
  (0, 0, 0, 0, 54), (51, 0, 0, 0, 55), (2, 0, 0, 0, 56), (25, 0, 112, 96, 57), (1, 0, 3, 0, 60), (1, 0, 2, 0, 61), (15, 0, 39, 1, 62), (0, -1, 0, 0, 65), (17, 0, 40, 0, 66), (0, 0, 0, 0, 69),
  (29, 0, 0, 0, 70), (0, 1, 0, 0, 71), (51, 0, 0, 0, 72)]
def xc125 : List xI := [
  (2, 0, 0, 0, 0), (1, 0, 1, 0, 1), (40, 0, 114, 105, 2), (15, 0, 12, 0, 5), (1, 0, 2, 0, 8), (2, 0, 0, 0, 9), (1, 0, 1, 0, 10), (40, 0, 118, 106, 11), (41, 0, 113, 102, 14), (15, 0, 12, 0, 17),
  (0, 1, 0, 0, 20), (17, 0, 13, 0, 21), (0, 0, 0, 0, 24), (51, 0, 0, 0, 25)]
def xc126 : List xI := [
  (2, 0, 0, 0, 0), (1, 0, 1, 0, 1), (1, 0, 2, 0, 2), (40, 0, 125, 107, 3), (15, 0, 7, 1, 6), (0, 0, 0, 0, 9), (51, 0, 0, 0, 10), (2, 0, 0, 0, 11), (1, 0, 1, 0, 12), (1, 0, 2, 0, 13),
  (40, 0, 119, 104, 14), (3, 0, 4, 1, 17), (2, 0, 0, 0, 19), (25, 0, 112, 96, 20), (1, 0, 4, 1, 23), (28, 0, 0, 0, 25), (1, 0, 3, 0, 26), (15, 0, 20, 0, 27), (0, -1, 0, 0, 30), (17, 0, 21, 0, 31),
  (0, -2, 0, 1, 34), (16, 0, 24, 0, 36), (0, 0, 0, 0, 39), (51, 0, 0, 0, 40), (2, 0, 0, 0, 41), (25, 0, 112, 96, 42), (1, 0, 4, 1, 45), (1, 0, 3, 0, 47), (15, 0, 31, 0, 48), (0, -2, 0, 1, 51),
  (17, 0, 32, 0, 53), (0, -1, 0, 0, 56), (29, 0, 0, 0, 57), (0, 1, 0, 0, 58), (51, 0, 0, 0, 59)]
def xc127 : List xI := [
  (2, 0, 0, 0, 0), (1, 0, 1, 0, 1), (1, 0, 2, 0, 2), (40, 0, 125, 107, 3), (15, 0, 13, 0, 6), (2, 0, 0, 0, 9), (25, 0, 112, 96, 10), (2, 0, 0, 0, 13), (1, 0, 1, 0, 14), (1, 0, 2, 0, 15),
  (40, 0, 119, 104, 16), (28, 0, 0, 0, 19), (17, 0, 14, 0, 20), (0, -3, 0, 1, 23), (50, 0, 0, 0, 25)]
def xc128 : List xI := [
  (0, 0, 0, 0, 0), (3, 0, 3, 0, 1), (0, 0, 0, 0, 2), (3, 0, 4, 1, 3), (1, 0, 4, 1, 5), (2, 0, 0, 0, 7), (1, 0, 1, 0, 8), (40, 0, 118, 106, 9), (16, 0, 38, 3, 12), (2, 0, 0, 0, 15),
  (25, 0, 112, 96, 16), (2, 0, 0, 0, 19), (1, 0, 1, 0, 20), (1, 0, 4, 1, 21), (40, 0, 119, 104, 23), (28, 0, 0, 0, 26), (3, 0, 5, 1, 27), (1, 0, 3, 0, 29), (1, 0, 2, 0, 30), (0, -1, 0, 0, 31),
  (16, 0, 28, 1, 32), (1, 0, 5, 1, 35), (0, -1, 0, 0, 37), (16, 0, 26, 1, 38), (0, 1, 0, 0, 41), (17, 0, 34, 0, 42), (0, 0, 0, 0, 45), (17, 0, 34, 0, 46), (1, 0, 5, 1, 49), (0, -2, 0, 1, 51),
  (16, 0, 33, 0, 53), (0, 1, 0, 0, 56), (17, 0, 34, 0, 57), (0, 0, 0, 0, 60), (6, 0, 0, 0, 61), (3, 0, 3, 0, 62), (5, 1, 4, 0, 63), (17, 0, 4, 0, 66), (1, 0, 3, 0, 69), (50, 0, 0, 0, 70)]
def xc129 : List xI := [
  (2, 0, 0, 0, 0), (25, 0, 112, 96, 1), (0, 1114, 0, 2, 4), (0, 8, 0, 1, 7), (1, 0, 1, 0, 9), (8, 0, 0, 0, 10), (6, 0, 0, 0, 11), (1, 0, 2, 0, 12), (6, 0, 0, 0, 13), (28, 0, 0, 0, 14),
  (50, 0, 0, 0, 15)]
def xc130 : List xI := [
  (2, 0, 0, 0, 0), (25, 0, 112, 96, 1), (0, 1114, 0, 2, 4), (0, 8, 0, 1, 7), (1, 0, 1, 0, 9), (8, 0, 0, 0, 10), (6, 0, 0, 0, 11), (1, 0, 2, 0, 12), (6, 0, 0, 0, 13), (1, 0, 3, 0, 14),
  (29, 0, 0, 0, 15), (53, 0, 0, 0, 16)]
def xc131 : List xI := [
  (0, 0, 0, 0, 0), (3, 0, 4, 1, 1), (0, 0, 0, 0, 3), (3, 0, 5, 1, 4), (1, 0, 5, 1, 6), (2, 0, 0, 0, 8), (25, 0, 112, 96, 9), (0, 1, 0, 0, 12), (28, 0, 0, 0, 13), (16, 0, 38, 3, 14),
  (1, 0, 4, 1, 17), (2, 0, 0, 0, 19), (1, 0, 5, 1, 20), (0, 2, 0, 0, 22), (40, 0, 129, 108, 23), (1, 0, 2, 0, 26), (16, 0, 33, 1, 27), (2, 0, 0, 0, 30), (1, 0, 5, 1, 31), (0, 3, 0, 0, 33),
  (40, 0, 129, 108, 34), (1, 0, 1, 0, 37), (16, 0, 33, 1, 38), (1, 0, 3, 0, 41), (15, 0, 31, 0, 42), (2, 0, 0, 0, 45), (1, 0, 5, 1, 46), (0, 0, 0, 0, 48), (40, 0, 129, 108, 49), (0, 2, 0, 0, 52),
  (16, 0, 33, 0, 53), (0, 1, 0, 0, 56), (17, 0, 34, 0, 57), (0, 0, 0, 0, 60), (6, 0, 0, 0, 61), (3, 0, 4, 1, 62), (5, 1, 5, 0, 64), (17, 0, 4, 0, 67), (1, 0, 4, 1, 70), (50, 0, 0, 0, 72)]
def xc132 : List xI := [
  (2, 0, 0, 0, 0), (1, 0, 1, 0, 1), (40, 0, 114, 105, 2), (15, 0, 6, 1, 5), (0, -3, 0, 1, 8), (50, 0, 0, 0, 10), (1, 0, 2, 0, 11), (47, 0, 0, 5, 12), (2, 0, 0, 0, 60), (1, 0, 1, 0, 61),
  (40, 0, 118, 106, 62), (50, 0, 0, 0, 65), (2, 0, 0, 0, 66), (1, 0, 1, 0, 67), (0, -1, 0, 0, 68), (40, 0, 128, 109, 69), (50, 0, 0, 0, 72), (2, 0, 0, 0, 73), (1, 0, 1, 0, 74), (0, 0, 0, 0, 75),
  (0, 0, 0, 0, 76), (40, 0, 131, 110, 77), (50, 0, 0, 0, 80), (2, 0, 0, 0, 81), (1, 0, 1, 0, 82), (0, 0, 0, 0, 83), (0, 1, 0, 0, 84), (40, 0, 131, 110, 85), (50, 0, 0, 0, 88), (2, 0, 0, 0, 89),
  (25, 0, 112, 96, 90), (2, 0, 0, 0, 93), (1, 0, 1, 0, 94), (40, 0, 117, 103, 95), (0, 13, 0, 1, 98), (6, 0, 0, 0, 100), (28, 0, 0, 0, 101), (50, 0, 0, 0, 102), (2, 0, 0, 0, 103), (25, 0, 112, 96, 104),
  (2, 0, 0, 0, 107), (1, 0, 1, 0, 108), (40, 0, 117, 103, 109), (0, 14, 0, 1, 112), (6, 0, 0, 0, 114), (28, 0, 0, 0, 115), (50, 0, 0, 0, 116), (2, 0, 0, 0, 117), (25, 0, 112, 96, 118), (2, 0, 0, 0, 121),
  (1, 0, 1, 0, 122), (40, 0, 117, 103, 123), (0, 15, 0, 1, 126), (6, 0, 0, 0, 128), (28, 0, 0, 0, 129), (50, 0, 0, 0, 130), (2, 0, 0, 0, 131), (1, 0, 1, 0, 132), (0, 3, 0, 0, 133), (0, 0, 0, 0, 134),
  (40, 0, 131, 110, 135), (50, 0, 0, 0, 138), (0, -3, 0, 1, 139), (50, 0, 0, 0, 141)]
def xc133 : List xI := [
  (2, 0, 0, 0, 0), (1, 0, 1, 0, 1), (1, 0, 2, 0, 2), (40, 0, 125, 107, 3), (15, 0, 16, 0, 6), (2, 0, 0, 0, 9), (25, 0, 112, 96, 10), (2, 0, 0, 0, 13), (1, 0, 1, 0, 14), (1, 0, 2, 0, 15),
  (40, 0, 119, 104, 16), (28, 0, 0, 0, 19), (0, -1, 0, 0, 20), (16, 0, 16, 1, 21), (0, 1, 0, 0, 24), (17, 0, 17, 0, 25), (0, 0, 0, 0, 28), (51, 0, 0, 0, 29)]
def xc134 : List xI := [
  (2, 0, 0, 0, 0), (1, 0, 2, 0, 1), (1, 0, 3, 0, 2), (40, 0, 133, 111, 3), (15, 0, 17, 0, 6), (1, 0, 1, 0, 9), (0, 2, 0, 0, 10), (16, 0, 15, 1, 11), (2, 0, 0, 0, 14), (1, 0, 2, 0, 15),
  (1, 0, 3, 0, 16), (0, 1, 0, 0, 17), (6, 0, 0, 0, 18), (40, 0, 133, 111, 19), (15, 0, 17, 0, 22), (0, 1, 0, 0, 25), (17, 0, 18, 0, 26), (0, 0, 0, 0, 29), (51, 0, 0, 0, 30)]
def xc135 : List xI := [
  (0, 0, 0, 0, 0), (3, 0, 3, 0, 1), (1, 0, 3, 0, 2), (2, 0, 0, 0, 3), (1, 0, 2, 0, 4), (40, 0, 118, 106, 5), (16, 0, 17, 3, 8), (2, 0, 0, 0, 11), (1, 0, 1, 0, 12), (1, 0, 2, 0, 13),
  (1, 0, 3, 0, 14), (40, 0, 134, 112, 15), (15, 0, 15, 0, 18), (1, 0, 3, 0, 21), (50, 0, 0, 0, 22), (5, 1, 3, 0, 23), (17, 0, 2, 0, 26), (0, -1, 0, 0, 29), (50, 0, 0, 0, 30)]
def xc136 : List xI := [
  (2, 0, 0, 0, 0), (25, 0, 112, 96, 1), (2, 0, 0, 0, 4), (1, 0, 2, 0, 5), (1, 0, 3, 0, 6), (40, 0, 119, 104, 7), (1, 0, 1, 0, 10), (29, 0, 0, 0, 11), (2, 0, 0, 0, 12), (1, 0, 1, 0, 13),
  (0, 0, 0, 0, 14), (40, 0, 129, 108, 15), (0, 2, 0, 0, 18), (16, 0, 24, 1, 19), (2, 0, 0, 0, 22), (25, 0, 112, 96, 23), (2, 0, 0, 0, 26), (1, 0, 2, 0, 27), (1, 0, 3, 0, 28), (0, 1, 0, 0, 29),
  (6, 0, 0, 0, 30), (40, 0, 119, 104, 31), (1, 0, 1, 0, 34), (29, 0, 0, 0, 35), (2, 0, 0, 0, 36), (1, 0, 1, 0, 37), (0, 2, 0, 0, 38), (0, 0, 0, 0, 39), (40, 0, 130, 113, 40), (2, 0, 0, 0, 43),
  (1, 0, 1, 0, 44), (0, 3, 0, 0, 45), (1, 0, 2, 0, 46), (40, 0, 130, 113, 47), (2, 0, 0, 0, 50), (1, 0, 1, 0, 51), (0, 4, 0, 0, 52), (1, 0, 3, 0, 53), (40, 0, 130, 113, 54), (53, 0, 0, 0, 57)]
def xc137 : List xI := [
  (2, 0, 0, 0, 0), (25, 0, 112, 96, 1), (2, 0, 0, 0, 4), (2, 0, 0, 0, 5), (1, 0, 1, 0, 6), (0, 3, 0, 0, 7), (40, 0, 129, 108, 8), (2, 0, 0, 0, 11), (1, 0, 1, 0, 12), (0, 4, 0, 0, 13),
  (40, 0, 129, 108, 14), (40, 0, 119, 104, 17), (0, -1, 0, 0, 20), (29, 0, 0, 0, 21), (2, 0, 0, 0, 22), (1, 0, 1, 0, 23), (0, 0, 0, 0, 24), (40, 0, 129, 108, 25), (0, 2, 0, 0, 28), (16, 0, 36, 1, 29),
  (2, 0, 0, 0, 32), (25, 0, 112, 96, 33), (2, 0, 0, 0, 36), (2, 0, 0, 0, 37), (1, 0, 1, 0, 38), (0, 3, 0, 0, 39), (40, 0, 129, 108, 40), (2, 0, 0, 0, 43), (1, 0, 1, 0, 44), (0, 4, 0, 0, 45),
  (40, 0, 129, 108, 46), (0, 1, 0, 0, 49), (6, 0, 0, 0, 50), (40, 0, 119, 104, 51), (0, -1, 0, 0, 54), (29, 0, 0, 0, 55), (53, 0, 0, 0, 56)]
def xc138 : List xI := [
  (1, 0, 0, 0, 0), (0, 1, 0, 0, 1), (16, 0, 6, 0, 2), (1, 0, 0, 0, 5), (0, 2, 0, 0, 6), (16, 0, 8, 1, 7), (0, 1, 0, 0, 10), (17, 0, 9, 0, 11), (0, 0, 0, 0, 14), (51, 0, 0, 0, 15)]
def xc139 : List xI := [
  (2, 0, 0, 0, 0), (25, 0, 112, 96, 1), (0, 1, 0, 0, 4), (28, 0, 0, 0, 5), (0, 60, 0, 1, 6), (16, 0, 16, 0, 8), (1, 0, 1, 0, 11), (0, 4, 0, 0, 12), (41, 0, 113, 102, 13), (15, 0, 16, 0, 16),
  (2, 0, 0, 0, 19), (1, 0, 1, 0, 20), (1, 0, 2, 0, 21), (1, 0, 3, 0, 22), (40, 0, 134, 112, 23), (15, 0, 18, 1, 26), (0, -1, 0, 0, 29), (50, 0, 0, 0, 30), (2, 0, 0, 0, 31), (25, 0, 112, 96, 32),
  (0, 1, 0, 0, 35), (28, 0, 0, 0, 36), (3, 0, 4, 1, 37), (2, 0, 0, 0, 39), (25, 0, 112, 96, 40), (0, 1, 0, 0, 43), (23, 0, 0, 0, 44), (28, 0, 0, 0, 45), (0, 1, 0, 0, 46), (6, 0, 0, 0, 47),
  (29, 0, 0, 0, 48), (2, 0, 0, 0, 49), (1, 0, 4, 1, 50), (0, 0, 0, 0, 52), (1, 0, 1, 0, 53), (40, 0, 130, 113, 54), (2, 0, 0, 0, 57), (1, 0, 4, 1, 58), (0, 1, 0, 0, 60), (1, 0, 1, 0, 61),
  (41, 0, 138, 114, 62), (15, 0, 44, 0, 65), (0, 1000, 0, 2, 68), (17, 0, 45, 0, 71), (0, 0, 0, 0, 74), (40, 0, 130, 113, 75), (2, 0, 0, 0, 78), (1, 0, 4, 1, 79), (0, 5, 0, 0, 81), (0, 0, 0, 0, 82),
  (40, 0, 130, 113, 83), (2, 0, 0, 0, 86), (1, 0, 4, 1, 87), (0, 6, 0, 1, 89), (0, 0, 0, 0, 91), (40, 0, 130, 113, 92), (2, 0, 0, 0, 95), (1, 0, 4, 1, 96), (0, 7, 0, 1, 98), (0, -1, 0, 0, 100),
  (40, 0, 130, 113, 101), (2, 0, 0, 0, 104), (1, 0, 4, 1, 105), (1, 0, 2, 0, 107), (1, 0, 3, 0, 108), (40, 0, 136, 115, 109), (1, 0, 4, 1, 112), (50, 0, 0, 0, 114)]
def xc140 : List xI := [
]
def xc141 : List xI := [
  (2, 0, 0, 0, 0), (1, 0, 1, 0, 1), (40, 0, 115, 116, 2), (15, 0, 10, 0, 5), (2, 0, 0, 0, 8), (1, 0, 1, 0, 9), (0, 0, 0, 0, 10), (40, 0, 129, 108, 11), (41, 0, 138, 114, 14), (15, 0, 12, 1, 17),
  (0, -1, 0, 0, 20), (50, 0, 0, 0, 21), (1, 0, 2, 0, 22), (56, 0, 140, 117, 23), (3, 0, 3, 0, 26), (1, 0, 3, 0, 27), (15, 0, 19, 3, 28), (0, -1, 0, 0, 31), (50, 0, 0, 0, 32), (2, 0, 0, 0, 33),
  (1, 0, 1, 0, 34), (0, 1, 0, 0, 35), (1, 0, 3, 0, 36), (40, 0, 130, 113, 37), (1, 0, 3, 0, 40), (50, 0, 0, 0, 41)]
def xc142 : List xI := [
  (2, 0, 0, 0, 0), (1, 0, 1, 0, 1), (40, 0, 115, 116, 2), (15, 0, 6, 1, 5), (0, -3, 0, 1, 8), (50, 0, 0, 0, 10), (2, 0, 0, 0, 11), (1, 0, 1, 0, 12), (0, 2, 0, 0, 13), (40, 0, 129, 108, 14),
  (3, 0, 3, 0, 17), (1, 0, 2, 0, 18), (47, 0, 0, 6, 19), (2, 0, 0, 0, 64), (1, 0, 1, 0, 65), (1, 0, 2, 0, 66), (40, 0, 129, 108, 67), (50, 0, 0, 0, 70), (1, 0, 3, 0, 71), (0, 1, 0, 0, 72),
  (16, 0, 23, 1, 73), (0, -1, 0, 0, 76), (17, 0, 27, 0, 77), (2, 0, 0, 0, 80), (1, 0, 1, 0, 81), (0, 3, 0, 0, 82), (40, 0, 129, 108, 83), (50, 0, 0, 0, 86), (1, 0, 3, 0, 87), (15, 0, 35, 1, 88),
  (2, 0, 0, 0, 91), (1, 0, 1, 0, 92), (0, 4, 0, 0, 93), (40, 0, 129, 108, 94), (17, 0, 44, 0, 97), (1, 0, 3, 0, 100), (0, 1, 0, 0, 101), (16, 0, 43, 1, 102), (2, 0, 0, 0, 105), (1, 0, 1, 0, 106),
  (0, 3, 0, 0, 107), (40, 0, 129, 108, 108), (17, 0, 44, 0, 111), (0, -1, 0, 0, 114), (50, 0, 0, 0, 115), (2, 0, 0, 0, 116), (1, 0, 1, 0, 117), (0, 6, 0, 1, 118), (40, 0, 129, 108, 120), (0, 2, 0, 0, 123),
  (16, 0, 53, 1, 124), (0, 1, 0, 0, 127), (17, 0, 54, 0, 128), (0, 0, 0, 0, 131), (50, 0, 0, 0, 132), (1, 0, 3, 0, 133), (0, 2, 0, 0, 134), (16, 0, 63, 1, 135), (2, 0, 0, 0, 138), (1, 0, 1, 0, 139),
  (0, 7, 0, 1, 140), (40, 0, 129, 108, 142), (17, 0, 64, 0, 145), (0, -1, 0, 0, 148), (50, 0, 0, 0, 149), (0, -3, 0, 1, 150), (50, 0, 0, 0, 152)]
def xc143 : List xI := [
  (2, 0, 0, 0, 0), (1, 0, 1, 0, 1), (40, 0, 115, 116, 2), (15, 0, 9, 0, 5), (2, 0, 0, 0, 8), (1, 0, 1, 0, 9), (0, 6, 0, 1, 10), (40, 0, 129, 108, 12), (15, 0, 11, 5, 15), (0, 0, 0, 0, 18),
  (51, 0, 0, 0, 19), (2, 0, 0, 0, 20), (1, 0, 1, 0, 21), (0, 6, 0, 1, 22), (0, 1, 0, 0, 24), (40, 0, 130, 113, 25), (0, 1, 0, 0, 28), (51, 0, 0, 0, 29)]
def xc144 : List xI := [
  (2, 0, 0, 0, 0), (1, 0, 1, 0, 1), (40, 0, 115, 116, 2), (15, 0, 10, 0, 5), (2, 0, 0, 0, 8), (1, 0, 1, 0, 9), (0, 2, 0, 0, 10), (40, 0, 129, 108, 11), (0, 2, 0, 0, 14), (16, 0, 12, 1, 15),
  (0, -1, 0, 0, 18), (50, 0, 0, 0, 19), (2, 0, 0, 0, 20), (1, 0, 1, 0, 21), (0, 6, 0, 1, 22), (40, 0, 129, 108, 24), (15, 0, 24, 5, 27), (2, 0, 0, 0, 30), (1, 0, 1, 0, 31), (0, 6, 0, 1, 32),
  (0, 2, 0, 0, 34), (40, 0, 130, 113, 35), (0, 1, 0, 0, 38), (50, 0, 0, 0, 39), (2, 0, 0, 0, 40), (1, 0, 1, 0, 41), (0, 5, 0, 0, 42), (0, 0, 0, 0, 43), (40, 0, 130, 113, 44), (0, 0, 0, 0, 47),
  (50, 0, 0, 0, 48)]
def xc145 : List xI := [
  (2, 0, 0, 0, 0), (1, 0, 1, 0, 1), (40, 0, 115, 116, 2), (15, 0, 15, 0, 5), (2, 0, 0, 0, 8), (1, 0, 1, 0, 9), (0, 2, 0, 0, 10), (40, 0, 129, 108, 11), (0, 2, 0, 0, 14), (16, 0, 15, 0, 15),
  (2, 0, 0, 0, 18), (1, 0, 1, 0, 19), (0, 6, 0, 1, 20), (40, 0, 129, 108, 22), (15, 0, 17, 1, 25), (0, 0, 0, 0, 28), (51, 0, 0, 0, 29), (2, 0, 0, 0, 30), (1, 0, 1, 0, 31), (0, 6, 0, 1, 32),
  (0, 0, 0, 0, 34), (40, 0, 130, 113, 35), (2, 0, 0, 0, 38), (1, 0, 1, 0, 39), (0, 5, 0, 0, 40), (0, 0, 0, 0, 41), (40, 0, 130, 113, 42), (0, 1, 0, 0, 45), (51, 0, 0, 0, 46)]
def xc146 : List xI := [
  (1, 0, 2, 0, 0), (3, 0, 3, 0, 1), (0, 0, 0, 0, 2), (3, 0, 4, 1, 3), (1, 0, 4, 1, 5), (2, 0, 0, 0, 7), (25, 0, 112, 96, 8), (0, 1, 0, 0, 11), (28, 0, 0, 0, 12), (16, 0, 43, 3, 13),
  (1, 0, 2, 0, 16), (15, 0, 43, 2, 17), (2, 0, 0, 0, 20), (1, 0, 4, 1, 21), (0, 2, 0, 0, 23), (40, 0, 129, 108, 24), (15, 0, 25, 1, 27), (2, 0, 0, 0, 30), (1, 0, 4, 1, 31), (0, 5, 0, 0, 33),
  (40, 0, 129, 108, 34), (1, 0, 1, 0, 37), (16, 0, 25, 5, 38), (0, 1, 0, 0, 41), (17, 0, 26, 0, 42), (0, 0, 0, 0, 45), (3, 0, 5, 1, 46), (1, 0, 5, 1, 48), (15, 0, 33, 0, 50), (1, 0, 3, 0, 53),
  (15, 0, 33, 1, 54), (1, 0, 4, 1, 57), (50, 0, 0, 0, 59), (1, 0, 3, 0, 60), (1, 0, 5, 1, 61), (15, 0, 38, 0, 63), (0, 1, 0, 0, 66), (17, 0, 39, 0, 67), (0, 0, 0, 0, 70), (7, 0, 0, 0, 71),
  (3, 0, 3, 0, 72), (5, 1, 4, 0, 73), (17, 0, 4, 0, 76), (0, -1, 0, 0, 79), (50, 0, 0, 0, 80)]
def xc147 : List xI := [
  (1, 0, 1, 0, 0), (0, 2, 0, 0, 1), (16, 0, 5, 1, 2), (0, 3, 0, 0, 5), (17, 0, 11, 0, 6), (1, 0, 1, 0, 9), (0, 1, 0, 0, 10), (16, 0, 10, 1, 11), (0, 2, 0, 0, 14), (17, 0, 11, 0, 15),
  (0, 0, 0, 0, 18), (50, 0, 0, 0, 19)]
def xc148 : List xI := [
  (0, -1, 0, 0, 0), (3, 0, 3, 0, 1), (0, 0, 0, 0, 2), (3, 0, 4, 1, 3), (1, 0, 4, 1, 5), (2, 0, 0, 0, 7), (25, 0, 112, 96, 8), (0, 0, 0, 0, 11), (28, 0, 0, 0, 12), (16, 0, 28, 3, 13),
  (1, 0, 4, 1, 16), (1, 0, 2, 0, 18), (16, 0, 26, 0, 19), (1, 0, 3, 0, 22), (15, 0, 21, 2, 23), (2, 0, 0, 0, 26), (1, 0, 2, 0, 27), (1, 0, 4, 1, 28), (40, 0, 120, 118, 30), (1, 0, 3, 0, 33),
  (16, 0, 26, 3, 34), (2, 0, 0, 0, 37), (1, 0, 2, 0, 38), (1, 0, 4, 1, 39), (40, 0, 120, 118, 41), (3, 0, 3, 0, 44), (5, 1, 4, 0, 45), (17, 0, 4, 0, 48), (1, 0, 3, 0, 51), (15, 0, 49, 2, 52),
  (2, 0, 0, 0, 55), (1, 0, 1, 0, 56), (0, 1, 0, 0, 57), (40, 0, 129, 108, 58), (2, 0, 0, 0, 61), (2, 0, 0, 0, 62), (1, 0, 1, 0, 63), (0, 0, 0, 0, 64), (40, 0, 129, 108, 65), (40, 0, 147, 119, 68),
  (1, 0, 3, 0, 71), (8, 0, 0, 0, 72), (16, 0, 49, 3, 73), (2, 0, 0, 0, 76), (1, 0, 1, 0, 77), (0, 0, 0, 0, 78), (40, 0, 129, 108, 79), (41, 0, 138, 114, 82), (15, 0, 51, 1, 85), (0, 1, 0, 0, 88),
  (17, 0, 52, 0, 89), (0, 0, 0, 0, 92), (51, 0, 0, 0, 93)]
def xc149 : List xI := [
  (2, 0, 0, 0, 0), (1, 0, 1, 0, 1), (40, 0, 137, 120, 2), (2, 0, 0, 0, 5), (1, 0, 1, 0, 6), (0, 2, 0, 0, 7), (0, 2, 0, 0, 8), (40, 0, 130, 113, 9), (2, 0, 0, 0, 12), (1, 0, 1, 0, 13),
  (0, 4, 0, 0, 14), (0, -1, 0, 0, 15), (40, 0, 130, 113, 16), (2, 0, 0, 0, 19), (1, 0, 1, 0, 20), (0, 5, 0, 0, 21), (0, 0, 0, 0, 22), (40, 0, 130, 113, 23), (2, 0, 0, 0, 26), (1, 0, 1, 0, 27),
  (0, 7, 0, 1, 28), (1, 0, 2, 0, 30), (40, 0, 130, 113, 31), (53, 0, 0, 0, 34)]
def xc150 : List xI := [
  (2, 0, 0, 0, 0), (1, 0, 1, 0, 1), (1, 0, 2, 0, 2), (40, 0, 125, 107, 3), (15, 0, 13, 0, 6), (2, 0, 0, 0, 9), (25, 0, 112, 96, 10), (2, 0, 0, 0, 13), (1, 0, 1, 0, 14), (1, 0, 2, 0, 15),
  (40, 0, 119, 104, 16), (28, 0, 0, 0, 19), (15, 0, 15, 3, 20), (0, -1, 0, 0, 23), (50, 0, 0, 0, 24), (2, 0, 0, 0, 25), (25, 0, 112, 96, 26), (2, 0, 0, 0, 29), (1, 0, 1, 0, 30), (1, 0, 2, 0, 31),
  (40, 0, 119, 104, 32), (28, 0, 0, 0, 35), (3, 0, 4, 1, 36), (2, 0, 0, 0, 38), (1, 0, 4, 1, 39), (0, 0, 0, 0, 41), (40, 0, 129, 108, 42), (0, 3, 0, 0, 45), (16, 0, 31, 1, 46), (0, -2, 0, 1, 49),
  (50, 0, 0, 0, 51), (2, 0, 0, 0, 52), (1, 0, 4, 1, 53), (0, 6, 0, 1, 55), (40, 0, 129, 108, 57), (15, 0, 38, 5, 60), (0, -3, 0, 1, 63), (50, 0, 0, 0, 65), (2, 0, 0, 0, 66), (1, 0, 4, 1, 67),
  (1, 0, 1, 0, 69), (40, 0, 148, 121, 70), (15, 0, 45, 1, 73), (0, -4, 0, 1, 76), (50, 0, 0, 0, 78), (0, -1, 0, 0, 79), (3, 0, 5, 1, 80), (1, 0, 3, 0, 82), (0, -1, 0, 0, 83), (16, 0, 80, 0, 84),
  (2, 0, 0, 0, 87), (1, 0, 1, 0, 88), (1, 0, 3, 0, 89), (40, 0, 125, 107, 90), (15, 0, 63, 0, 93), (2, 0, 0, 0, 96), (25, 0, 112, 96, 97), (2, 0, 0, 0, 100), (1, 0, 1, 0, 101), (1, 0, 3, 0, 102),
  (40, 0, 119, 104, 103), (28, 0, 0, 0, 106), (17, 0, 64, 0, 107), (0, -1, 0, 0, 110), (3, 0, 5, 1, 111), (1, 0, 5, 1, 113), (15, 0, 78, 2, 115), (2, 0, 0, 0, 118), (1, 0, 5, 1, 119), (0, 0, 0, 0, 121),
  (40, 0, 129, 108, 122), (0, 3, 0, 0, 125), (16, 0, 78, 1, 126), (2, 0, 0, 0, 129), (1, 0, 5, 1, 130), (0, 6, 0, 1, 132), (40, 0, 129, 108, 134), (15, 0, 80, 5, 137), (0, -5, 0, 1, 140), (50, 0, 0, 0, 142),
  (2, 0, 0, 0, 143), (1, 0, 4, 1, 144), (1, 0, 5, 1, 146), (40, 0, 149, 122, 148), (1, 0, 5, 1, 151), (15, 0, 90, 2, 153), (2, 0, 0, 0, 156), (1, 0, 5, 1, 157), (1, 0, 4, 1, 159), (40, 0, 149, 122, 161),
  (0, 0, 0, 0, 164), (3, 0, 6, 1, 165), (1, 0, 6, 1, 167), (2, 0, 0, 0, 169), (25, 0, 112, 96, 170), (0, 1, 0, 0, 173), (28, 0, 0, 0, 174), (16, 0, 121, 3, 175), (2, 0, 0, 0, 178), (1, 0, 6, 1, 179),
  (0, 2, 0, 0, 181), (40, 0, 129, 108, 182), (15, 0, 119, 1, 185), (2, 0, 0, 0, 188), (1, 0, 6, 1, 189), (0, 3, 0, 0, 191), (40, 0, 129, 108, 192), (1, 0, 1, 0, 195), (16, 0, 119, 1, 196), (2, 0, 0, 0, 199),
  (1, 0, 6, 1, 200), (0, 5, 0, 0, 202), (2, 0, 0, 0, 203), (1, 0, 6, 1, 204), (0, 5, 0, 0, 206), (40, 0, 129, 108, 207), (0, 1, 0, 0, 210), (6, 0, 0, 0, 211), (40, 0, 130, 113, 212), (5, 1, 6, 0, 215),
  (17, 0, 92, 0, 218), (1, 0, 4, 1, 221), (50, 0, 0, 0, 223)]
def xc151 : List xI := [
  (2, 0, 0, 0, 0), (1, 0, 1, 0, 1), (0, 1, 0, 0, 2), (40, 0, 129, 108, 3), (2, 0, 0, 0, 6), (2, 0, 0, 0, 7), (1, 0, 1, 0, 8), (0, 0, 0, 0, 9), (40, 0, 129, 108, 10), (40, 0, 147, 119, 13),
  (1, 0, 2, 0, 16), (8, 0, 0, 0, 17), (7, 0, 0, 0, 18), (3, 0, 3, 0, 19), (2, 0, 0, 0, 20), (1, 0, 1, 0, 21), (0, 1, 0, 0, 22), (1, 0, 3, 0, 23), (15, 0, 21, 3, 24), (0, 0, 0, 0, 27),
  (17, 0, 22, 0, 28), (1, 0, 3, 0, 31), (40, 0, 130, 113, 32), (53, 0, 0, 0, 35)]
def xc152 : List xI := [
  (2, 0, 0, 0, 0), (2, 0, 0, 0, 1), (1, 0, 1, 0, 2), (0, 0, 0, 0, 3), (40, 0, 129, 108, 4), (1, 0, 3, 0, 7), (40, 0, 135, 123, 8), (3, 0, 4, 1, 11), (1, 0, 4, 1, 13), (15, 0, 12, 3, 15),
  (0, 0, 0, 0, 18), (51, 0, 0, 0, 19), (2, 0, 0, 0, 20), (1, 0, 1, 0, 21), (0, 3, 0, 0, 22), (40, 0, 129, 108, 23), (3, 0, 5, 1, 26), (2, 0, 0, 0, 28), (1, 0, 1, 0, 29), (1, 0, 3, 0, 30),
  (1, 0, 4, 1, 31), (40, 0, 136, 115, 33), (1, 0, 2, 0, 36), (15, 0, 26, 3, 37), (0, 0, 0, 0, 40), (17, 0, 30, 0, 41), (2, 0, 0, 0, 44), (0, 3, 0, 0, 45), (1, 0, 3, 0, 46), (40, 0, 135, 123, 47),
  (3, 0, 6, 1, 50), (1, 0, 6, 1, 52), (15, 0, 53, 3, 54), (2, 0, 0, 0, 57), (1, 0, 1, 0, 58), (40, 0, 137, 120, 59), (2, 0, 0, 0, 62), (1, 0, 1, 0, 63), (0, 2, 0, 0, 64), (0, 2, 0, 0, 65),
  (40, 0, 130, 113, 66), (2, 0, 0, 0, 69), (1, 0, 1, 0, 70), (0, 3, 0, 0, 71), (1, 0, 5, 1, 72), (40, 0, 130, 113, 74), (2, 0, 0, 0, 77), (1, 0, 1, 0, 78), (0, 4, 0, 0, 79), (0, -1, 0, 0, 80),
  (40, 0, 130, 113, 81), (0, 0, 0, 0, 84), (51, 0, 0, 0, 85), (1, 0, 2, 0, 86), (15, 0, 60, 2, 87), (2, 0, 0, 0, 90), (1, 0, 2, 0, 91), (1, 0, 3, 0, 92), (1, 0, 6, 1, 93), (40, 0, 136, 115, 95),
  (0, 1, 0, 0, 98), (51, 0, 0, 0, 99)]
def xc153 : List xI := [
  (2, 0, 0, 0, 0), (1, 0, 1, 0, 1), (0, 2, 0, 0, 2), (0, 3, 0, 0, 3), (40, 0, 130, 113, 4), (2, 0, 0, 0, 7), (1, 0, 1, 0, 8), (0, 3, 0, 0, 9), (1, 0, 2, 0, 10), (40, 0, 130, 113, 11),
  (2, 0, 0, 0, 14), (1, 0, 1, 0, 15), (0, 4, 0, 0, 16), (0, -1, 0, 0, 17), (40, 0, 130, 113, 18), (53, 0, 0, 0, 21)]
def xc154 : List xI := [
  (2, 0, 0, 0, 0), (1, 0, 1, 0, 1), (40, 0, 115, 116, 2), (15, 0, 20, 0, 5), (2, 0, 0, 0, 8), (1, 0, 1, 0, 9), (0, 2, 0, 0, 10), (40, 0, 129, 108, 11), (0, 2, 0, 0, 14), (16, 0, 20, 1, 15),
  (2, 0, 0, 0, 18), (1, 0, 1, 0, 19), (0, 0, 0, 0, 20), (40, 0, 129, 108, 21), (0, 3, 0, 0, 24), (16, 0, 20, 0, 25), (2, 0, 0, 0, 28), (1, 0, 2, 0, 29), (40, 0, 114, 105, 30), (15, 0, 22, 1, 33),
  (0, -1, 0, 0, 36), (50, 0, 0, 0, 37), (2, 0, 0, 0, 38), (1, 0, 1, 0, 39), (0, 7, 0, 1, 40), (40, 0, 129, 108, 42), (3, 0, 3, 0, 45), (2, 0, 0, 0, 46), (1, 0, 1, 0, 47), (2, 0, 0, 0, 48),
  (2, 0, 0, 0, 49), (1, 0, 1, 0, 50), (0, 3, 0, 0, 51), (40, 0, 129, 108, 52), (1, 0, 2, 0, 55), (40, 0, 120, 118, 56), (40, 0, 151, 124, 59), (1, 0, 2, 0, 62), (3, 0, 4, 1, 63), (2, 0, 0, 0, 65),
  (1, 0, 2, 0, 66), (40, 0, 117, 103, 67), (0, 15, 0, 1, 70), (6, 0, 0, 0, 72), (3, 0, 5, 1, 73), (0, 0, 0, 0, 75), (3, 0, 6, 1, 76), (2, 0, 0, 0, 78), (1, 0, 1, 0, 79), (1, 0, 3, 0, 80),
  (1, 0, 4, 1, 81), (40, 0, 152, 125, 83), (3, 0, 7, 1, 86), (1, 0, 7, 1, 88), (15, 0, 57, 1, 90), (0, 1, 0, 0, 93), (17, 0, 58, 0, 94), (0, 0, 0, 0, 97), (3, 0, 8, 1, 98), (1, 0, 8, 1, 100),
  (15, 0, 118, 0, 102), (2, 0, 0, 0, 105), (25, 0, 112, 96, 106), (2, 0, 0, 0, 109), (1, 0, 4, 1, 110), (40, 0, 117, 103, 112), (0, 13, 0, 1, 115), (6, 0, 0, 0, 117), (23, 0, 0, 0, 118), (28, 0, 0, 0, 119),
  (0, 1, 0, 0, 120), (6, 0, 0, 0, 121), (29, 0, 0, 0, 122), (1, 0, 6, 1, 123), (2, 0, 0, 0, 125), (25, 0, 112, 96, 126), (1, 0, 5, 1, 129), (28, 0, 0, 0, 131), (16, 0, 81, 3, 132), (0, 1, 0, 0, 135),
  (17, 0, 82, 0, 136), (0, 0, 0, 0, 139), (3, 0, 8, 1, 140), (1, 0, 8, 1, 142), (15, 0, 86, 1, 144), (17, 0, 59, 0, 147), (2, 0, 0, 0, 150), (25, 0, 112, 96, 151), (1, 0, 5, 1, 154), (0, 1, 0, 0, 156),
  (6, 0, 0, 0, 157), (1, 0, 6, 1, 158), (6, 0, 0, 0, 160), (28, 0, 0, 0, 161), (3, 0, 9, 1, 162), (5, 1, 6, 0, 164), (2, 0, 0, 0, 167), (1, 0, 1, 0, 168), (2, 0, 0, 0, 169), (1, 0, 4, 1, 170),
  (1, 0, 9, 1, 172), (40, 0, 120, 118, 174), (40, 0, 151, 124, 177), (1, 0, 9, 1, 180), (3, 0, 4, 1, 182), (2, 0, 0, 0, 184), (1, 0, 1, 0, 185), (1, 0, 3, 0, 186), (1, 0, 4, 1, 187), (40, 0, 152, 125, 189),
  (3, 0, 7, 1, 192), (1, 0, 7, 1, 194), (15, 0, 115, 1, 196), (0, 1, 0, 0, 199), (17, 0, 116, 0, 200), (0, 0, 0, 0, 203), (3, 0, 8, 1, 204), (17, 0, 59, 0, 206), (1, 0, 7, 1, 209), (15, 0, 130, 1, 211),
  (2, 0, 0, 0, 214), (1, 0, 1, 0, 215), (1, 0, 4, 1, 216), (40, 0, 153, 126, 218), (1, 0, 3, 0, 221), (15, 0, 130, 2, 222), (2, 0, 0, 0, 225), (1, 0, 3, 0, 226), (1, 0, 4, 1, 227), (40, 0, 153, 126, 229),
  (2, 0, 0, 0, 232), (1, 0, 1, 0, 233), (0, 7, 0, 1, 234), (0, -1, 0, 0, 236), (40, 0, 130, 113, 237), (1, 0, 3, 0, 240), (15, 0, 142, 2, 241), (2, 0, 0, 0, 244), (1, 0, 3, 0, 245), (0, 7, 0, 1, 246),
  (0, -1, 0, 0, 248), (40, 0, 130, 113, 249), (1, 0, 7, 1, 252), (15, 0, 146, 0, 254), (1, 0, 4, 1, 257), (17, 0, 149, 0, 259), (0, 100, 0, 1, 262), (1, 0, 4, 1, 264), (6, 0, 0, 0, 266), (50, 0, 0, 0, 267)]
def xc155 : List xI := [
  (0, 0, 0, 0, 0), (3, 0, 1, 0, 1), (1, 0, 1, 0, 2), (2, 0, 0, 0, 3), (25, 0, 112, 96, 4), (0, 1, 0, 0, 7), (28, 0, 0, 0, 8), (16, 0, 47, 3, 9), (2, 0, 0, 0, 12), (1, 0, 1, 0, 13),
  (0, 2, 0, 0, 14), (40, 0, 129, 108, 15), (15, 0, 45, 1, 18), (2, 0, 0, 0, 21), (1, 0, 1, 0, 22), (0, 0, 0, 0, 23), (40, 0, 129, 108, 24), (41, 0, 138, 114, 27), (15, 0, 20, 1, 30), (17, 0, 45, 0, 33),
  (2, 0, 0, 0, 36), (1, 0, 1, 0, 37), (0, 1, 0, 0, 38), (40, 0, 129, 108, 39), (2, 0, 0, 0, 42), (1, 0, 1, 0, 43), (0, 0, 0, 0, 44), (40, 0, 129, 108, 45), (0, 2, 0, 0, 48), (16, 0, 32, 1, 49),
  (0, 50, 0, 1, 52), (17, 0, 33, 0, 54), (0, 100, 0, 1, 57), (6, 0, 0, 0, 59), (3, 0, 2, 0, 60), (2, 0, 0, 0, 61), (1, 0, 1, 0, 62), (0, 1, 0, 0, 63), (1, 0, 2, 0, 64), (0, 1000, 0, 2, 65),
  (16, 0, 43, 5, 68), (0, 1000, 0, 2, 71), (17, 0, 44, 0, 74), (1, 0, 2, 0, 77), (40, 0, 130, 113, 78), (5, 1, 1, 0, 81), (17, 0, 2, 0, 84), (2, 0, 0, 0, 87), (25, 0, 112, 96, 88), (0, 3, 0, 0, 91),
  (2, 0, 0, 0, 92), (25, 0, 112, 96, 93), (0, 3, 0, 0, 96), (28, 0, 0, 0, 97), (0, 1, 0, 0, 98), (6, 0, 0, 0, 99), (0, 24, 0, 1, 100), (9, 0, 0, 0, 102), (29, 0, 0, 0, 103), (2, 0, 0, 0, 104),
  (25, 0, 112, 96, 105), (0, 3, 0, 0, 108), (28, 0, 0, 0, 109), (50, 0, 0, 0, 110)]
def xc156 : List xI := [
  (0, 1594, 0, 2, 0), (0, 12, 0, 1, 3), (1, 0, 1, 0, 5), (8, 0, 0, 0, 6), (6, 0, 0, 0, 7), (50, 0, 0, 0, 8)]
def xc157 : List xI := [
  (2, 0, 0, 0, 0), (25, 0, 112, 96, 1), (0, 2, 0, 0, 4), (28, 0, 0, 0, 5), (0, 3, 0, 0, 6), (16, 0, 16, 0, 7), (1, 0, 1, 0, 10), (0, 1, 0, 0, 11), (16, 0, 16, 2, 12), (1, 0, 1, 0, 15),
  (0, 8, 0, 1, 16), (16, 0, 16, 4, 18), (2, 0, 0, 0, 21), (1, 0, 2, 0, 22), (40, 0, 114, 105, 23), (15, 0, 18, 1, 26), (0, -1, 0, 0, 29), (50, 0, 0, 0, 30), (2, 0, 0, 0, 31), (2, 0, 0, 0, 32),
  (25, 0, 112, 96, 33), (0, 2, 0, 0, 36), (28, 0, 0, 0, 37), (40, 0, 156, 127, 38), (3, 0, 3, 0, 41), (2, 0, 0, 0, 42), (25, 0, 112, 96, 43), (1, 0, 3, 0, 46), (1, 0, 1, 0, 47), (29, 0, 0, 0, 48),
  (2, 0, 0, 0, 49), (25, 0, 112, 96, 50), (1, 0, 3, 0, 53), (0, 1, 0, 0, 54), (6, 0, 0, 0, 55), (1, 0, 2, 0, 56), (29, 0, 0, 0, 57), (2, 0, 0, 0, 58), (25, 0, 112, 96, 59), (1, 0, 3, 0, 62),
  (0, 2, 0, 0, 63), (6, 0, 0, 0, 64), (0, 0, 0, 0, 65), (29, 0, 0, 0, 66), (2, 0, 0, 0, 67), (25, 0, 112, 96, 68), (1, 0, 3, 0, 71), (0, 3, 0, 0, 72), (6, 0, 0, 0, 73), (0, 0, 0, 0, 74),
  (29, 0, 0, 0, 75), (2, 0, 0, 0, 76), (25, 0, 112, 96, 77), (0, 2, 0, 0, 80), (23, 0, 0, 0, 81), (28, 0, 0, 0, 82), (0, 1, 0, 0, 83), (6, 0, 0, 0, 84), (29, 0, 0, 0, 85), (2, 0, 0, 0, 86),
  (25, 0, 112, 96, 87), (0, 2, 0, 0, 90), (28, 0, 0, 0, 91), (0, 1, 0, 0, 92), (7, 0, 0, 0, 93), (50, 0, 0, 0, 94)]
def xc158 : List xI := [
  (2, 0, 0, 0, 0), (1, 0, 1, 0, 1), (40, 0, 116, 128, 2), (15, 0, 8, 0, 5), (2, 0, 0, 0, 8), (1, 0, 2, 0, 9), (40, 0, 114, 105, 10), (15, 0, 10, 1, 13), (0, -1, 0, 0, 16), (50, 0, 0, 0, 17),
  (2, 0, 0, 0, 18), (1, 0, 1, 0, 19), (40, 0, 156, 127, 20), (3, 0, 3, 0, 23), (2, 0, 0, 0, 24), (25, 0, 112, 96, 25), (1, 0, 3, 0, 28), (0, 2, 0, 0, 29), (6, 0, 0, 0, 30), (23, 0, 0, 0, 31),
  (28, 0, 0, 0, 32), (2, 0, 0, 0, 33), (2, 0, 0, 0, 34), (25, 0, 112, 96, 35), (1, 0, 3, 0, 38), (0, 1, 0, 0, 39), (6, 0, 0, 0, 40), (28, 0, 0, 0, 41), (1, 0, 2, 0, 42), (40, 0, 120, 118, 43),
  (6, 0, 0, 0, 46), (29, 0, 0, 0, 47), (2, 0, 0, 0, 48), (25, 0, 112, 96, 49), (1, 0, 3, 0, 52), (0, 1, 0, 0, 53), (6, 0, 0, 0, 54), (1, 0, 2, 0, 55), (29, 0, 0, 0, 56), (2, 0, 0, 0, 57),
  (25, 0, 112, 96, 58), (1, 0, 3, 0, 61), (0, 2, 0, 0, 62), (6, 0, 0, 0, 63), (28, 0, 0, 0, 64), (50, 0, 0, 0, 65)]
def xc159 : List xI := [
  (2, 0, 0, 0, 0), (1, 0, 1, 0, 1), (40, 0, 156, 127, 2), (3, 0, 2, 0, 5), (0, 0, 0, 0, 6), (3, 0, 3, 0, 7), (0, 0, 0, 0, 8), (3, 0, 4, 1, 9), (1, 0, 4, 1, 11), (2, 0, 0, 0, 13),
  (25, 0, 112, 96, 14), (1, 0, 2, 0, 17), (0, 3, 0, 0, 18), (6, 0, 0, 0, 19), (28, 0, 0, 0, 20), (16, 0, 37, 3, 21), (1, 0, 3, 0, 24), (2, 0, 0, 0, 25), (2, 0, 0, 0, 26), (25, 0, 112, 96, 27),
  (1, 0, 2, 0, 30), (0, 4, 0, 0, 31), (6, 0, 0, 0, 32), (1, 0, 4, 1, 33), (6, 0, 0, 0, 35), (28, 0, 0, 0, 36), (0, 0, 0, 0, 37), (40, 0, 129, 108, 38), (0, 2, 0, 0, 41), (16, 0, 32, 1, 42),
  (0, 2, 0, 0, 45), (17, 0, 33, 0, 46), (0, 1, 0, 0, 49), (6, 0, 0, 0, 50), (3, 0, 3, 0, 51), (5, 1, 4, 0, 52), (17, 0, 8, 0, 55), (1, 0, 3, 0, 58), (50, 0, 0, 0, 59)]
def xc160 : List xI := [
  (2, 0, 0, 0, 0), (1, 0, 1, 0, 1), (40, 0, 159, 129, 2), (2, 0, 0, 0, 5), (1, 0, 2, 0, 6), (0, 0, 0, 0, 7), (40, 0, 129, 108, 8), (0, 2, 0, 0, 11), (16, 0, 11, 1, 12), (0, 2, 0, 0, 15),
  (17, 0, 12, 0, 16), (0, 1, 0, 0, 19), (6, 0, 0, 0, 20), (2, 0, 0, 0, 21), (25, 0, 112, 96, 22), (2, 0, 0, 0, 25), (1, 0, 1, 0, 26), (40, 0, 156, 127, 27), (28, 0, 0, 0, 30), (16, 0, 22, 4, 31),
  (0, 1, 0, 0, 34), (17, 0, 23, 0, 35), (0, 0, 0, 0, 38), (51, 0, 0, 0, 39)]
def xc161 : List xI := [
  (2, 0, 0, 0, 0), (1, 0, 1, 0, 1), (40, 0, 156, 127, 2), (3, 0, 3, 0, 5), (2, 0, 0, 0, 6), (25, 0, 112, 96, 7), (1, 0, 3, 0, 10), (0, 4, 0, 0, 11), (6, 0, 0, 0, 12), (2, 0, 0, 0, 13),
  (25, 0, 112, 96, 14), (1, 0, 3, 0, 17), (0, 3, 0, 0, 18), (6, 0, 0, 0, 19), (28, 0, 0, 0, 20), (6, 0, 0, 0, 21), (1, 0, 2, 0, 22), (29, 0, 0, 0, 23), (2, 0, 0, 0, 24), (25, 0, 112, 96, 25),
  (1, 0, 3, 0, 28), (0, 3, 0, 0, 29), (6, 0, 0, 0, 30), (23, 0, 0, 0, 31), (28, 0, 0, 0, 32), (0, 1, 0, 0, 33), (6, 0, 0, 0, 34), (29, 0, 0, 0, 35), (2, 0, 0, 0, 36), (1, 0, 2, 0, 37),
  (0, 2, 0, 0, 38), (0, 1, 0, 0, 39), (40, 0, 130, 113, 40), (2, 0, 0, 0, 43), (1, 0, 2, 0, 44), (0, 3, 0, 0, 45), (1, 0, 1, 0, 46), (40, 0, 130, 113, 47), (2, 0, 0, 0, 50), (1, 0, 2, 0, 51),
  (0, 4, 0, 0, 52), (0, -1, 0, 0, 53), (40, 0, 130, 113, 54), (53, 0, 0, 0, 57)]
def xc162 : List xI := [
  (2, 0, 0, 0, 0), (1, 0, 1, 0, 1), (40, 0, 116, 128, 2), (15, 0, 6, 1, 5), (0, -1, 0, 0, 8), (50, 0, 0, 0, 9), (2, 0, 0, 0, 10), (25, 0, 112, 96, 11), (2, 0, 0, 0, 14), (1, 0, 1, 0, 15),
  (40, 0, 156, 127, 16), (0, 1, 0, 0, 19), (6, 0, 0, 0, 20), (28, 0, 0, 0, 21), (3, 0, 3, 0, 22), (2, 0, 0, 0, 23), (1, 0, 3, 0, 24), (1, 0, 2, 0, 25), (40, 0, 125, 107, 26), (15, 0, 28, 0, 29),
  (2, 0, 0, 0, 32), (25, 0, 112, 96, 33), (2, 0, 0, 0, 36), (1, 0, 3, 0, 37), (1, 0, 2, 0, 38), (40, 0, 119, 104, 39), (28, 0, 0, 0, 42), (17, 0, 29, 0, 43), (0, -1, 0, 0, 46), (3, 0, 4, 1, 47),
  (1, 0, 4, 1, 49), (15, 0, 37, 2, 51), (2, 0, 0, 0, 54), (1, 0, 1, 0, 55), (1, 0, 4, 1, 56), (40, 0, 160, 130, 58), (15, 0, 39, 1, 61), (0, -1, 0, 0, 64), (50, 0, 0, 0, 65), (2, 0, 0, 0, 66),
  (1, 0, 4, 1, 67), (40, 0, 137, 120, 69), (2, 0, 0, 0, 72), (1, 0, 1, 0, 73), (1, 0, 4, 1, 74), (40, 0, 161, 131, 76), (1, 0, 4, 1, 79), (50, 0, 0, 0, 81)]
def xc163 : List xI := [
  (2, 0, 0, 0, 0), (1, 0, 1, 0, 1), (40, 0, 116, 128, 2), (15, 0, 32, 0, 5), (2, 0, 0, 0, 8), (1, 0, 2, 0, 9), (40, 0, 115, 116, 10), (15, 0, 32, 0, 13), (2, 0, 0, 0, 16), (1, 0, 2, 0, 17),
  (0, 2, 0, 0, 18), (40, 0, 129, 108, 19), (0, 3, 0, 0, 22), (16, 0, 32, 1, 23), (2, 0, 0, 0, 26), (1, 0, 2, 0, 27), (0, 3, 0, 0, 28), (40, 0, 129, 108, 29), (2, 0, 0, 0, 32), (25, 0, 112, 96, 33),
  (2, 0, 0, 0, 36), (1, 0, 1, 0, 37), (40, 0, 156, 127, 38), (0, 1, 0, 0, 41), (6, 0, 0, 0, 42), (28, 0, 0, 0, 43), (16, 0, 32, 1, 44), (2, 0, 0, 0, 47), (1, 0, 1, 0, 48), (1, 0, 2, 0, 49),
  (40, 0, 160, 130, 50), (15, 0, 34, 1, 53), (0, 0, 0, 0, 56), (51, 0, 0, 0, 57), (2, 0, 0, 0, 58), (1, 0, 1, 0, 59), (1, 0, 2, 0, 60), (40, 0, 161, 131, 61), (0, 1, 0, 0, 64), (51, 0, 0, 0, 65)]
def xc164 : List xI := [
  (2, 0, 0, 0, 0), (1, 0, 1, 0, 1), (40, 0, 116, 128, 2), (15, 0, 6, 1, 5), (0, -1, 0, 0, 8), (50, 0, 0, 0, 9), (2, 0, 0, 0, 10), (1, 0, 1, 0, 11), (40, 0, 156, 127, 12), (3, 0, 2, 0, 15),
  (2, 0, 0, 0, 16), (25, 0, 112, 96, 17), (1, 0, 2, 0, 20), (0, 3, 0, 0, 21), (6, 0, 0, 0, 22), (28, 0, 0, 0, 23), (15, 0, 19, 1, 24), (0, -1, 0, 0, 27), (50, 0, 0, 0, 28), (2, 0, 0, 0, 29),
  (25, 0, 112, 96, 30), (1, 0, 2, 0, 33), (0, 4, 0, 0, 34), (6, 0, 0, 0, 35), (28, 0, 0, 0, 36), (3, 0, 3, 0, 37), (2, 0, 0, 0, 38), (2, 0, 0, 0, 39), (1, 0, 3, 0, 40), (0, 0, 0, 0, 41),
  (40, 0, 129, 108, 42), (2, 0, 0, 0, 45), (25, 0, 112, 96, 46), (1, 0, 2, 0, 49), (0, 1, 0, 0, 50), (6, 0, 0, 0, 51), (28, 0, 0, 0, 52), (40, 0, 135, 123, 53), (3, 0, 4, 1, 56), (1, 0, 4, 1, 58),
  (15, 0, 43, 3, 60), (0, -1, 0, 0, 63), (50, 0, 0, 0, 64), (2, 0, 0, 0, 65), (25, 0, 112, 96, 66), (1, 0, 2, 0, 69), (0, 3, 0, 0, 70), (6, 0, 0, 0, 71), (23, 0, 0, 0, 72), (28, 0, 0, 0, 73),
  (0, 1, 0, 0, 74), (7, 0, 0, 0, 75), (29, 0, 0, 0, 76), (0, 0, 0, 0, 77), (3, 0, 5, 1, 78), (1, 0, 5, 1, 80), (2, 0, 0, 0, 82), (25, 0, 112, 96, 83), (1, 0, 2, 0, 86), (0, 3, 0, 0, 87),
  (6, 0, 0, 0, 88), (28, 0, 0, 0, 89), (16, 0, 81, 3, 90), (2, 0, 0, 0, 93), (25, 0, 112, 96, 94), (1, 0, 2, 0, 97), (0, 4, 0, 0, 98), (6, 0, 0, 0, 99), (1, 0, 5, 1, 100), (6, 0, 0, 0, 102),
  (2, 0, 0, 0, 103), (25, 0, 112, 96, 104), (1, 0, 2, 0, 107), (0, 5, 0, 0, 108), (6, 0, 0, 0, 109), (1, 0, 5, 1, 110), (6, 0, 0, 0, 112), (28, 0, 0, 0, 113), (29, 0, 0, 0, 114), (5, 1, 5, 0, 115),
  (17, 0, 55, 0, 118), (2, 0, 0, 0, 121), (1, 0, 3, 0, 122), (2, 0, 0, 0, 123), (25, 0, 112, 96, 124), (1, 0, 2, 0, 127), (0, 1, 0, 0, 128), (6, 0, 0, 0, 129), (28, 0, 0, 0, 130), (1, 0, 4, 1, 131),
  (40, 0, 136, 115, 133), (2, 0, 0, 0, 136), (1, 0, 3, 0, 137), (0, 5, 0, 0, 138), (0, 0, 0, 0, 139), (40, 0, 130, 113, 140), (1, 0, 4, 1, 143), (50, 0, 0, 0, 145)]
def xc165 : List xI := [
  (2, 0, 0, 0, 0), (1, 0, 1, 0, 1), (40, 0, 116, 128, 2), (15, 0, 6, 0, 5), (1, 0, 2, 0, 8), (15, 0, 8, 3, 9), (0, -3, 0, 1, 12), (50, 0, 0, 0, 14), (2, 0, 0, 0, 15), (1, 0, 1, 0, 16),
  (40, 0, 156, 127, 17), (3, 0, 3, 0, 20), (1, 0, 2, 0, 21), (47, 0, 0, 7, 22), (2, 0, 0, 0, 52), (25, 0, 112, 96, 53), (1, 0, 3, 0, 56), (1, 0, 2, 0, 57), (6, 0, 0, 0, 58), (28, 0, 0, 0, 59),
  (50, 0, 0, 0, 60), (2, 0, 0, 0, 61), (1, 0, 1, 0, 62), (40, 0, 159, 129, 63), (50, 0, 0, 0, 66), (2, 0, 0, 0, 67), (25, 0, 112, 96, 68), (1, 0, 3, 0, 71), (0, 2, 0, 0, 72), (6, 0, 0, 0, 73),
  (28, 0, 0, 0, 74), (50, 0, 0, 0, 75), (1, 0, 2, 0, 76), (0, 4, 0, 0, 77), (7, 0, 0, 0, 78), (2, 0, 0, 0, 79), (25, 0, 112, 96, 80), (1, 0, 3, 0, 83), (0, 3, 0, 0, 84), (6, 0, 0, 0, 85),
  (28, 0, 0, 0, 86), (16, 0, 49, 3, 87), (2, 0, 0, 0, 90), (25, 0, 112, 96, 91), (1, 0, 3, 0, 94), (1, 0, 2, 0, 95), (6, 0, 0, 0, 96), (28, 0, 0, 0, 97), (17, 0, 50, 0, 98), (0, -1, 0, 0, 101),
  (50, 0, 0, 0, 102)]
def xc166 : List xI := [
  (2, 0, 0, 0, 0), (1, 0, 1, 0, 1), (40, 0, 114, 105, 2), (15, 0, 16, 0, 5), (1, 0, 2, 0, 8), (0, 24, 0, 1, 9), (41, 0, 113, 102, 11), (15, 0, 16, 0, 14), (1, 0, 3, 0, 17), (0, 100, 0, 1, 18),
  (41, 0, 113, 102, 20), (15, 0, 16, 0, 23), (1, 0, 4, 1, 26), (0, 100, 0, 1, 28), (41, 0, 113, 102, 30), (15, 0, 18, 1, 33), (0, 0, 0, 0, 36), (51, 0, 0, 0, 37), (2, 0, 0, 0, 38), (1, 0, 1, 0, 39),
  (40, 0, 117, 103, 40), (0, 24, 0, 1, 43), (6, 0, 0, 0, 45), (3, 0, 5, 1, 46), (2, 0, 0, 0, 48), (25, 0, 112, 96, 49), (1, 0, 5, 1, 52), (28, 0, 0, 0, 54), (15, 0, 48, 1, 55), (2, 0, 0, 0, 58),
  (25, 0, 112, 96, 59), (1, 0, 5, 1, 62), (0, 1, 0, 0, 64), (29, 0, 0, 0, 65), (0, 1, 0, 0, 66), (3, 0, 6, 1, 67), (1, 0, 6, 1, 69), (0, 48, 0, 1, 71), (16, 0, 48, 4, 73), (2, 0, 0, 0, 76),
  (25, 0, 112, 96, 77), (1, 0, 5, 1, 80), (1, 0, 6, 1, 82), (6, 0, 0, 0, 84), (0, 0, 0, 0, 85), (29, 0, 0, 0, 86), (5, 1, 6, 0, 87), (17, 0, 36, 0, 90), (2, 0, 0, 0, 93), (25, 0, 112, 96, 94),
  (1, 0, 5, 1, 97), (0, 1, 0, 0, 99), (6, 0, 0, 0, 100), (1, 0, 2, 0, 101), (6, 0, 0, 0, 102), (1, 0, 3, 0, 103), (29, 0, 0, 0, 104), (2, 0, 0, 0, 105), (25, 0, 112, 96, 106), (1, 0, 5, 1, 109),
  (0, 25, 0, 1, 111), (6, 0, 0, 0, 113), (1, 0, 2, 0, 114), (6, 0, 0, 0, 115), (1, 0, 4, 1, 116), (29, 0, 0, 0, 118), (0, 1, 0, 0, 119), (51, 0, 0, 0, 120)]
def xc167 : List xI := [
  (2, 0, 0, 0, 0), (1, 0, 1, 0, 1), (40, 0, 117, 103, 2), (0, 24, 0, 1, 5), (6, 0, 0, 0, 7), (3, 0, 3, 0, 8), (2, 0, 0, 0, 9), (1, 0, 1, 0, 10), (0, -2, 0, 1, 11), (40, 0, 128, 109, 13),
  (3, 0, 4, 1, 16), (2, 0, 0, 0, 18), (0, 0, 0, 0, 19), (26, 0, 114, 103, 20), (2, 0, 0, 0, 23), (0, -1, 0, 0, 24), (26, 0, 115, 104, 25), (2, 0, 0, 0, 28), (1, 0, 2, 0, 29), (26, 0, 116, 105, 30),
  (0, 0, 0, 0, 33), (3, 0, 5, 1, 34), (1, 0, 5, 1, 36), (0, 24, 0, 1, 38), (16, 0, 108, 3, 40), (2, 0, 0, 0, 43), (25, 0, 112, 96, 44), (1, 0, 3, 0, 47), (28, 0, 0, 0, 48), (0, 1, 0, 0, 49),
  (16, 0, 108, 1, 50), (2, 0, 0, 0, 53), (25, 0, 112, 96, 54), (1, 0, 3, 0, 57), (0, 1, 0, 0, 58), (6, 0, 0, 0, 59), (1, 0, 5, 1, 60), (6, 0, 0, 0, 62), (28, 0, 0, 0, 63), (3, 0, 6, 1, 64),
  (2, 0, 0, 0, 66), (25, 0, 112, 96, 67), (1, 0, 3, 0, 70), (0, 25, 0, 1, 71), (6, 0, 0, 0, 73), (1, 0, 5, 1, 74), (6, 0, 0, 0, 76), (28, 0, 0, 0, 77), (3, 0, 7, 1, 78), (2, 0, 0, 0, 80),
  (24, 0, 114, 103, 81), (3, 0, 8, 1, 84), (1, 0, 6, 1, 86), (15, 0, 56, 4, 88), (1, 0, 7, 1, 91), (15, 0, 96, 5, 93), (1, 0, 6, 1, 96), (15, 0, 76, 5, 98), (5, -1, 6, 0, 101), (2, 0, 0, 0, 104),
  (24, 0, 116, 105, 105), (1, 0, 4, 1, 108), (16, 0, 70, 1, 110), (2, 0, 0, 0, 113), (21, 0, 0, 0, 114), (24, 0, 114, 103, 115), (0, 1, 0, 0, 118), (6, 0, 0, 0, 119), (26, 0, 114, 103, 120), (17, 0, 76, 0, 123),
  (2, 0, 0, 0, 126), (21, 0, 0, 0, 127), (24, 0, 116, 105, 128), (0, 1, 0, 0, 131), (6, 0, 0, 0, 132), (26, 0, 116, 105, 133), (1, 0, 7, 1, 136), (15, 0, 52, 5, 138), (5, -1, 7, 0, 141), (2, 0, 0, 0, 144),
  (24, 0, 116, 105, 145), (15, 0, 89, 1, 148), (2, 0, 0, 0, 151), (21, 0, 0, 0, 152), (24, 0, 114, 103, 153), (0, 1, 0, 0, 156), (6, 0, 0, 0, 157), (26, 0, 114, 103, 158), (17, 0, 52, 0, 161), (2, 0, 0, 0, 164),
  (21, 0, 0, 0, 165), (24, 0, 116, 105, 166), (0, 1, 0, 0, 169), (7, 0, 0, 0, 170), (26, 0, 116, 105, 171), (17, 0, 52, 0, 174), (2, 0, 0, 0, 177), (24, 0, 114, 103, 178), (1, 0, 8, 1, 181), (16, 0, 106, 5, 183),
  (2, 0, 0, 0, 186), (24, 0, 115, 104, 187), (15, 0, 106, 3, 190), (2, 0, 0, 0, 193), (1, 0, 5, 1, 194), (26, 0, 115, 104, 196), (5, 1, 5, 0, 199), (17, 0, 22, 0, 202), (53, 0, 0, 0, 205)]
def xc168 : List xI := [
  (2, 0, 0, 0, 0), (1, 0, 1, 0, 1), (40, 0, 114, 105, 2), (15, 0, 16, 0, 5), (1, 0, 2, 0, 8), (15, 0, 16, 2, 9), (1, 0, 2, 0, 12), (2, 0, 0, 0, 13), (1, 0, 1, 0, 14), (0, -2, 0, 1, 15),
  (40, 0, 128, 109, 17), (16, 0, 16, 4, 20), (1, 0, 3, 0, 23), (0, 3, 0, 0, 24), (41, 0, 113, 102, 25), (15, 0, 18, 1, 28), (0, -3, 0, 1, 31), (50, 0, 0, 0, 33), (2, 0, 0, 0, 34), (1, 0, 1, 0, 35),
  (1, 0, 2, 0, 36), (40, 0, 167, 132, 37), (1, 0, 3, 0, 40), (15, 0, 27, 1, 41), (2, 0, 0, 0, 44), (24, 0, 114, 103, 45), (17, 0, 35, 0, 48), (1, 0, 3, 0, 51), (0, 1, 0, 0, 52), (16, 0, 33, 1, 53),
  (2, 0, 0, 0, 56), (24, 0, 115, 104, 57), (17, 0, 35, 0, 60), (2, 0, 0, 0, 63), (24, 0, 116, 105, 64), (50, 0, 0, 0, 67)]
def xc169 : List xI := [
  (2, 0, 0, 0, 0), (1, 0, 1, 0, 1), (40, 0, 114, 105, 2), (15, 0, 6, 1, 5), (0, -1000, 0, 2, 8), (50, 0, 0, 0, 11), (0, 0, 0, 0, 12), (3, 0, 2, 0, 13), (0, -1, 0, 0, 14), (3, 0, 3, 0, 15),
  (0, 0, 0, 0, 16), (3, 0, 4, 1, 17), (1, 0, 4, 1, 19), (2, 0, 0, 0, 21), (1, 0, 1, 0, 22), (0, -2, 0, 1, 23), (40, 0, 128, 109, 25), (16, 0, 35, 4, 28), (2, 0, 0, 0, 31), (1, 0, 1, 0, 32),
  (1, 0, 4, 1, 33), (40, 0, 167, 132, 35), (1, 0, 3, 0, 38), (15, 0, 28, 2, 39), (2, 0, 0, 0, 42), (24, 0, 114, 103, 43), (1, 0, 3, 0, 46), (16, 0, 33, 3, 47), (2, 0, 0, 0, 50), (24, 0, 114, 103, 51),
  (3, 0, 3, 0, 54), (1, 0, 4, 1, 55), (3, 0, 2, 0, 57), (5, 1, 4, 0, 58), (17, 0, 12, 0, 61), (1, 0, 2, 0, 64), (2, 0, 0, 0, 65), (1, 0, 1, 0, 66), (0, 0, 0, 0, 67), (0, 0, 0, 0, 68),
  (40, 0, 131, 110, 69), (7, 0, 0, 0, 72), (50, 0, 0, 0, 73)]
def xc170 : List xI := [
  (2, 0, 0, 0, 0), (1, 0, 1, 0, 1), (40, 0, 114, 105, 2), (15, 0, 10, 0, 5), (1, 0, 2, 0, 8), (0, -1, 0, 0, 9), (16, 0, 10, 2, 10), (1, 0, 2, 0, 13), (0, 12, 0, 1, 14), (16, 0, 12, 5, 16),
  (0, 0, 0, 0, 19), (51, 0, 0, 0, 20), (2, 0, 0, 0, 21), (25, 0, 112, 96, 22), (2, 0, 0, 0, 25), (1, 0, 1, 0, 26), (40, 0, 117, 103, 27), (0, 14, 0, 1, 30), (6, 0, 0, 0, 32), (1, 0, 2, 0, 33),
  (29, 0, 0, 0, 34), (0, 1, 0, 0, 35), (51, 0, 0, 0, 36)]
def xc171 : List xI := [
  (2, 0, 0, 0, 0), (0, 0, 0, 0, 1), (26, 0, 119, 106, 2), (0, 0, 0, 0, 5), (3, 0, 1, 0, 6), (1, 0, 1, 0, 7), (2, 0, 0, 0, 8), (25, 0, 112, 96, 9), (0, 0, 0, 0, 12), (28, 0, 0, 0, 13),
  (16, 0, 54, 3, 14), (2, 0, 0, 0, 17), (25, 0, 112, 96, 18), (2, 0, 0, 0, 21), (1, 0, 1, 0, 22), (40, 0, 117, 103, 23), (0, 14, 0, 1, 26), (6, 0, 0, 0, 28), (28, 0, 0, 0, 29), (3, 0, 2, 0, 30),
  (2, 0, 0, 0, 31), (1, 0, 1, 0, 32), (0, 0, 0, 0, 33), (0, 1, 0, 0, 34), (40, 0, 131, 110, 35), (3, 0, 3, 0, 38), (1, 0, 2, 0, 39), (15, 0, 52, 2, 40), (1, 0, 2, 0, 43), (1, 0, 3, 0, 44),
  (16, 0, 32, 1, 45), (17, 0, 52, 0, 48), (2, 0, 0, 0, 51), (25, 0, 117, 98, 52), (2, 0, 0, 0, 55), (24, 0, 119, 106, 56), (1, 0, 1, 0, 59), (29, 0, 0, 0, 60), (2, 0, 0, 0, 61), (25, 0, 118, 99, 62),
  (2, 0, 0, 0, 65), (24, 0, 119, 106, 66), (1, 0, 3, 0, 69), (1, 0, 2, 0, 70), (7, 0, 0, 0, 71), (29, 0, 0, 0, 72), (2, 0, 0, 0, 73), (21, 0, 0, 0, 74), (24, 0, 119, 106, 75), (0, 1, 0, 0, 78),
  (6, 0, 0, 0, 79), (26, 0, 119, 106, 80), (5, 1, 1, 0, 83), (17, 0, 5, 0, 86), (53, 0, 0, 0, 89)]
def xc172 : List xI := [
  (2, 0, 0, 0, 0), (1, 0, 1, 0, 1), (40, 0, 156, 127, 2), (3, 0, 2, 0, 5), (2, 0, 0, 0, 6), (25, 0, 112, 96, 7), (1, 0, 2, 0, 10), (0, 1, 0, 0, 11), (6, 0, 0, 0, 12), (28, 0, 0, 0, 13),
  (3, 0, 3, 0, 14), (0, 0, 0, 0, 15), (3, 0, 4, 1, 16), (0, 0, 0, 0, 18), (3, 0, 5, 1, 19), (0, 0, 0, 0, 21), (3, 0, 6, 1, 22), (1, 0, 6, 1, 24), (2, 0, 0, 0, 26), (24, 0, 119, 106, 27),
  (16, 0, 60, 3, 30), (2, 0, 0, 0, 33), (25, 0, 120, 100, 34), (1, 0, 6, 1, 37), (28, 0, 0, 0, 39), (3, 0, 7, 1, 40), (1, 0, 5, 1, 42), (2, 0, 0, 0, 44), (1, 0, 3, 0, 45), (2, 0, 0, 0, 46),
  (25, 0, 117, 98, 47), (1, 0, 7, 1, 50), (28, 0, 0, 0, 52), (40, 0, 120, 118, 53), (6, 0, 0, 0, 56), (3, 0, 5, 1, 57), (2, 0, 0, 0, 59), (25, 0, 117, 98, 60), (1, 0, 7, 1, 63), (28, 0, 0, 0, 65),
  (3, 0, 3, 0, 66), (1, 0, 4, 1, 67), (2, 0, 0, 0, 69), (25, 0, 118, 99, 70), (1, 0, 7, 1, 73), (28, 0, 0, 0, 75), (6, 0, 0, 0, 76), (3, 0, 4, 1, 77), (1, 0, 4, 1, 79), (15, 0, 56, 2, 81),
  (1, 0, 4, 1, 84), (2, 0, 0, 0, 86), (25, 0, 112, 96, 87), (1, 0, 2, 0, 90), (28, 0, 0, 0, 91), (16, 0, 58, 5, 92), (0, -1, 0, 0, 95), (50, 0, 0, 0, 96), (5, 1, 6, 0, 97), (17, 0, 17, 0, 100),
  (1, 0, 4, 1, 103), (15, 0, 64, 1, 105), (1, 0, 5, 1, 108), (17, 0, 65, 0, 110), (0, -1, 0, 0, 113), (50, 0, 0, 0, 114)]
def xc173 : List xI := [
  (2, 0, 0, 0, 0), (24, 0, 119, 106, 1), (0, 2, 0, 0, 4), (7, 0, 0, 0, 5), (3, 0, 1, 0, 6), (1, 0, 1, 0, 7), (15, 0, 20, 2, 8), (2, 0, 0, 0, 11), (25, 0, 120, 100, 12), (1, 0, 1, 0, 15),
  (28, 0, 0, 0, 16), (2, 0, 0, 0, 17), (25, 0, 120, 100, 18), (1, 0, 1, 0, 21), (0, 1, 0, 0, 22), (6, 0, 0, 0, 23), (28, 0, 0, 0, 24), (16, 0, 20, 5, 25), (5, -1, 1, 0, 28), (17, 0, 5, 0, 31),
  (1, 0, 1, 0, 34), (15, 0, 24, 3, 35), (0, 0, 0, 0, 38), (51, 0, 0, 0, 39), (2, 0, 0, 0, 40), (24, 0, 119, 106, 41), (0, 1, 0, 0, 44), (7, 0, 0, 0, 45), (3, 0, 2, 0, 46), (2, 0, 0, 0, 47),
  (25, 0, 120, 100, 48), (1, 0, 2, 0, 51), (28, 0, 0, 0, 52), (2, 0, 0, 0, 53), (25, 0, 120, 100, 54), (1, 0, 1, 0, 57), (28, 0, 0, 0, 58), (16, 0, 40, 3, 59), (5, -1, 2, 0, 62), (17, 0, 29, 0, 65),
  (2, 0, 0, 0, 68), (25, 0, 120, 100, 69), (1, 0, 1, 0, 72), (28, 0, 0, 0, 73), (3, 0, 3, 0, 74), (2, 0, 0, 0, 75), (25, 0, 120, 100, 76), (1, 0, 1, 0, 79), (2, 0, 0, 0, 80), (25, 0, 120, 100, 81),
  (1, 0, 2, 0, 84), (28, 0, 0, 0, 85), (29, 0, 0, 0, 86), (2, 0, 0, 0, 87), (25, 0, 120, 100, 88), (1, 0, 2, 0, 91), (1, 0, 3, 0, 92), (29, 0, 0, 0, 93), (1, 0, 1, 0, 94), (0, 1, 0, 0, 95),
  (6, 0, 0, 0, 96), (3, 0, 4, 1, 97), (2, 0, 0, 0, 99), (24, 0, 119, 106, 100), (0, 1, 0, 0, 103), (7, 0, 0, 0, 104), (3, 0, 5, 1, 105), (1, 0, 4, 1, 107), (1, 0, 5, 1, 109), (16, 0, 91, 3, 111),
  (2, 0, 0, 0, 114), (25, 0, 120, 100, 115), (1, 0, 4, 1, 118), (28, 0, 0, 0, 120), (3, 0, 6, 1, 121), (2, 0, 0, 0, 123), (25, 0, 120, 100, 124), (1, 0, 4, 1, 127), (2, 0, 0, 0, 129), (25, 0, 120, 100, 130),
  (1, 0, 5, 1, 133), (28, 0, 0, 0, 135), (29, 0, 0, 0, 136), (2, 0, 0, 0, 137), (25, 0, 120, 100, 138), (1, 0, 5, 1, 141), (1, 0, 6, 1, 143), (29, 0, 0, 0, 145), (5, 1, 4, 0, 146), (5, -1, 5, 0, 149),
  (17, 0, 67, 0, 152), (0, 1, 0, 0, 155), (51, 0, 0, 0, 156)]
def xc174 : List xI := [
  (2, 0, 0, 0, 0), (1, 0, 1, 0, 1), (40, 0, 116, 128, 2), (15, 0, 13, 0, 5), (2, 0, 0, 0, 8), (25, 0, 112, 96, 9), (2, 0, 0, 0, 12), (1, 0, 1, 0, 13), (40, 0, 156, 127, 14), (0, 3, 0, 0, 17),
  (6, 0, 0, 0, 18), (28, 0, 0, 0, 19), (15, 0, 15, 5, 20), (0, -1, 0, 0, 23), (50, 0, 0, 0, 24), (2, 0, 0, 0, 25), (40, 0, 171, 133, 26), (2, 0, 0, 0, 29), (24, 0, 119, 106, 30), (0, 7, 0, 1, 33),
  (16, 0, 23, 5, 35), (0, -1, 0, 0, 38), (50, 0, 0, 0, 39), (0, 0, 0, 0, 40), (3, 0, 2, 0, 41), (1, 0, 2, 0, 42), (2, 0, 0, 0, 43), (24, 0, 119, 106, 44), (16, 0, 46, 3, 47), (2, 0, 0, 0, 50),
  (2, 0, 0, 0, 51), (25, 0, 117, 98, 52), (1, 0, 2, 0, 55), (28, 0, 0, 0, 56), (0, -1, 0, 0, 57), (40, 0, 128, 109, 58), (2, 0, 0, 0, 61), (25, 0, 118, 99, 62), (1, 0, 2, 0, 65), (28, 0, 0, 0, 66),
  (10, 0, 0, 0, 67), (16, 0, 44, 3, 68), (0, -1, 0, 0, 71), (50, 0, 0, 0, 72), (5, 1, 2, 0, 73), (17, 0, 25, 0, 76), (0, 0, 0, 0, 79), (3, 0, 2, 0, 80), (1, 0, 2, 0, 81), (2, 0, 0, 0, 82),
  (24, 0, 119, 106, 83), (16, 0, 59, 3, 86), (2, 0, 0, 0, 89), (25, 0, 120, 100, 90), (1, 0, 2, 0, 93), (1, 0, 2, 0, 94), (29, 0, 0, 0, 95), (5, 1, 2, 0, 96), (17, 0, 48, 0, 99), (0, -1, 0, 0, 102),
  (3, 0, 2, 0, 103), (0, 1, 0, 0, 104), (3, 0, 3, 0, 105), (1, 0, 3, 0, 106), (15, 0, 101, 0, 107), (2, 0, 0, 0, 110), (1, 0, 1, 0, 111), (40, 0, 172, 134, 112), (3, 0, 4, 1, 115), (1, 0, 4, 1, 117),
  (15, 0, 97, 2, 119), (1, 0, 2, 0, 122), (15, 0, 76, 2, 123), (1, 0, 4, 1, 126), (1, 0, 2, 0, 128), (16, 0, 97, 3, 129), (1, 0, 4, 1, 132), (3, 0, 2, 0, 134), (0, 0, 0, 0, 135), (3, 0, 5, 1, 136),
  (1, 0, 5, 1, 138), (2, 0, 0, 0, 140), (24, 0, 119, 106, 141), (16, 0, 97, 3, 144), (2, 0, 0, 0, 147), (25, 0, 121, 101, 148), (1, 0, 5, 1, 151), (2, 0, 0, 0, 153), (25, 0, 117, 98, 154), (2, 0, 0, 0, 157),
  (25, 0, 120, 100, 158), (1, 0, 5, 1, 161), (28, 0, 0, 0, 163), (28, 0, 0, 0, 164), (29, 0, 0, 0, 165), (5, 1, 5, 0, 166), (17, 0, 80, 0, 169), (2, 0, 0, 0, 172), (40, 0, 173, 135, 173), (3, 0, 3, 0, 176),
  (17, 0, 63, 0, 177), (1, 0, 2, 0, 180), (15, 0, 105, 3, 181), (0, -1, 0, 0, 184), (50, 0, 0, 0, 185), (2, 0, 0, 0, 186), (2, 0, 0, 0, 187), (24, 0, 119, 106, 188), (26, 0, 123, 107, 191), (0, 0, 0, 0, 194),
  (3, 0, 4, 1, 195), (1, 0, 4, 1, 197), (2, 0, 0, 0, 199), (24, 0, 119, 106, 200), (16, 0, 125, 3, 203), (2, 0, 0, 0, 206), (25, 0, 122, 102, 207), (1, 0, 4, 1, 210), (2, 0, 0, 0, 212), (25, 0, 121, 101, 213),
  (1, 0, 4, 1, 216), (28, 0, 0, 0, 218), (29, 0, 0, 0, 219), (5, 1, 4, 0, 220), (17, 0, 111, 0, 223), (1, 0, 2, 0, 226), (50, 0, 0, 0, 227)]
def xc175 : List xI := [
  (1, 0, 1, 0, 0), (2, 0, 0, 0, 1), (24, 0, 123, 107, 2), (41, 0, 113, 102, 5), (15, 0, 10, 0, 8), (2, 0, 0, 0, 11), (25, 0, 122, 102, 12), (1, 0, 1, 0, 15), (28, 0, 0, 0, 16), (17, 0, 11, 0, 17),
  (0, -1, 0, 0, 20), (50, 0, 0, 0, 21)]
def xc176 : List xI := [
  (0, 0, 0, 0, 0), (3, 0, 2, 0, 1), (0, 0, 0, 0, 2), (3, 0, 3, 0, 3), (1, 0, 3, 0, 4), (2, 0, 0, 0, 5), (24, 0, 119, 106, 6), (16, 0, 21, 3, 9), (2, 0, 0, 0, 12), (25, 0, 117, 98, 13),
  (1, 0, 3, 0, 16), (28, 0, 0, 0, 17), (1, 0, 1, 0, 18), (16, 0, 19, 1, 19), (2, 0, 0, 0, 22), (25, 0, 118, 99, 23), (1, 0, 3, 0, 26), (28, 0, 0, 0, 27), (3, 0, 2, 0, 28), (5, 1, 3, 0, 29),
  (17, 0, 4, 0, 32), (1, 0, 2, 0, 35), (50, 0, 0, 0, 36)]
def xc177 : List xI := [
  (2, 0, 0, 0, 0), (1, 0, 1, 0, 1), (40, 0, 174, 136, 2), (3, 0, 2, 0, 5), (1, 0, 2, 0, 6), (15, 0, 8, 3, 7), (0, -1, 0, 0, 10), (50, 0, 0, 0, 11), (0, 0, 0, 0, 12), (3, 0, 3, 0, 13),
  (1, 0, 3, 0, 14), (2, 0, 0, 0, 15), (24, 0, 123, 107, 16), (16, 0, 74, 3, 19), (2, 0, 0, 0, 22), (25, 0, 122, 102, 23), (1, 0, 3, 0, 26), (28, 0, 0, 0, 27), (3, 0, 4, 1, 28), (2, 0, 0, 0, 30),
  (1, 0, 1, 0, 31), (1, 0, 4, 1, 32), (40, 0, 158, 137, 34), (3, 0, 5, 1, 37), (2, 0, 0, 0, 39), (1, 0, 4, 1, 40), (40, 0, 176, 138, 42), (3, 0, 6, 1, 45), (0, 0, 0, 0, 47), (3, 0, 7, 1, 48),
  (1, 0, 7, 1, 50), (2, 0, 0, 0, 52), (1, 0, 4, 1, 53), (40, 0, 118, 106, 55), (16, 0, 62, 3, 58), (1, 0, 6, 1, 61), (15, 0, 62, 5, 63), (2, 0, 0, 0, 66), (25, 0, 112, 96, 67), (2, 0, 0, 0, 70),
  (1, 0, 4, 1, 71), (1, 0, 7, 1, 73), (40, 0, 119, 104, 75), (28, 0, 0, 0, 78), (3, 0, 8, 1, 79), (1, 0, 8, 1, 81), (15, 0, 60, 2, 83), (2, 0, 0, 0, 86), (1, 0, 8, 1, 87), (0, 0, 0, 0, 89),
  (40, 0, 129, 108, 90), (0, 2, 0, 0, 93), (16, 0, 54, 1, 94), (17, 0, 60, 0, 97), (2, 0, 0, 0, 100), (1, 0, 1, 0, 101), (1, 0, 7, 1, 102), (40, 0, 162, 139, 104), (3, 0, 8, 1, 107), (5, -1, 6, 0, 109),
  (5, 1, 7, 0, 112), (17, 0, 30, 0, 115), (1, 0, 6, 1, 118), (15, 0, 72, 3, 120), (1, 0, 5, 1, 123), (15, 0, 72, 2, 125), (2, 0, 0, 0, 128), (1, 0, 1, 0, 129), (40, 0, 164, 140, 130), (3, 0, 5, 1, 133),
  (5, 1, 6, 0, 135), (17, 0, 62, 0, 138), (5, 1, 3, 0, 141), (17, 0, 10, 0, 144), (1, 0, 2, 0, 147), (50, 0, 0, 0, 148)]
def xc178 : List xI := [
  (1, 0, 1, 0, 0), (0, 4, 0, 0, 1), (41, 0, 113, 102, 2), (15, 0, 6, 1, 5), (0, 0, 0, 0, 8), (51, 0, 0, 0, 9), (2, 0, 0, 0, 10), (25, 0, 113, 97, 11), (1, 0, 1, 0, 14), (0, 1, 0, 0, 15),
  (34, 0, 0, 0, 16), (0, 0, 0, 0, 17), (3, 0, 2, 0, 18), (1, 0, 2, 0, 19), (0, 1640, 0, 2, 20), (16, 0, 32, 3, 23), (2, 0, 0, 0, 26), (25, 0, 112, 96, 27), (0, 1640, 0, 2, 30), (1, 0, 1, 0, 33),
  (0, 1, 0, 0, 34), (6, 0, 0, 0, 35), (8, 0, 0, 0, 36), (1, 0, 2, 0, 37), (6, 0, 0, 0, 38), (2, 0, 0, 0, 39), (25, 0, 112, 96, 40), (1, 0, 2, 0, 43), (28, 0, 0, 0, 44), (29, 0, 0, 0, 45),
  (5, 1, 2, 0, 46), (17, 0, 13, 0, 49), (0, 1, 0, 0, 52), (51, 0, 0, 0, 53)]
def xc179 : List xI := [
  (1, 0, 1, 0, 0), (0, 4, 0, 0, 1), (41, 0, 113, 102, 2), (15, 0, 9, 0, 5), (2, 0, 0, 0, 8), (25, 0, 113, 97, 9), (1, 0, 1, 0, 12), (33, 0, 0, 0, 13), (15, 0, 11, 1, 14), (0, 0, 0, 0, 17),
  (51, 0, 0, 0, 18), (0, 0, 0, 0, 19), (3, 0, 2, 0, 20), (1, 0, 2, 0, 21), (0, 1640, 0, 2, 22), (16, 0, 32, 3, 25), (2, 0, 0, 0, 28), (25, 0, 112, 96, 29), (1, 0, 2, 0, 32), (2, 0, 0, 0, 33),
  (25, 0, 112, 96, 34), (0, 1640, 0, 2, 37), (1, 0, 1, 0, 40), (0, 1, 0, 0, 41), (6, 0, 0, 0, 42), (8, 0, 0, 0, 43), (1, 0, 2, 0, 44), (6, 0, 0, 0, 45), (28, 0, 0, 0, 46), (29, 0, 0, 0, 47),
  (5, 1, 2, 0, 48), (17, 0, 13, 0, 51), (0, 1, 0, 0, 54), (51, 0, 0, 0, 55)]
def xc180 : List xI := [
  (0, 0, 0, 0, 0), (3, 0, 2, 0, 1), (1, 0, 1, 0, 2), (47, 0, 0, 8, 3), (2, 0, 0, 0, 52), (25, 0, 112, 96, 53), (1, 0, 1, 0, 56), (28, 0, 0, 0, 57), (50, 0, 0, 0, 58), (0, 0, 0, 0, 59),
  (3, 0, 3, 0, 60), (1, 0, 3, 0, 61), (2, 0, 0, 0, 62), (25, 0, 112, 96, 63), (0, 1, 0, 0, 66), (28, 0, 0, 0, 67), (16, 0, 33, 3, 68), (1, 0, 2, 0, 71), (2, 0, 0, 0, 72), (1, 0, 3, 0, 73),
  (0, 2, 0, 0, 74), (40, 0, 129, 108, 75), (1, 0, 1, 0, 78), (0, 3, 0, 0, 79), (7, 0, 0, 0, 80), (16, 0, 28, 1, 81), (0, 1, 0, 0, 84), (17, 0, 29, 0, 85), (0, 0, 0, 0, 88), (6, 0, 0, 0, 89),
  (3, 0, 2, 0, 90), (5, 1, 3, 0, 91), (17, 0, 11, 0, 94), (1, 0, 2, 0, 97), (50, 0, 0, 0, 98), (0, 0, 0, 0, 99), (3, 0, 3, 0, 100), (1, 0, 3, 0, 101), (2, 0, 0, 0, 102), (25, 0, 112, 96, 103),
  (0, 1, 0, 0, 106), (28, 0, 0, 0, 107), (16, 0, 57, 3, 108), (1, 0, 2, 0, 111), (2, 0, 0, 0, 112), (1, 0, 3, 0, 113), (0, 6, 0, 1, 114), (40, 0, 129, 108, 116), (0, 2, 0, 0, 119), (16, 0, 52, 1, 120),
  (0, 1, 0, 0, 123), (17, 0, 53, 0, 124), (0, 0, 0, 0, 127), (6, 0, 0, 0, 128), (3, 0, 2, 0, 129), (5, 1, 3, 0, 130), (17, 0, 37, 0, 133), (1, 0, 2, 0, 136), (50, 0, 0, 0, 137), (2, 0, 0, 0, 138),
  (25, 0, 112, 96, 139), (0, 3, 0, 0, 142), (28, 0, 0, 0, 143), (50, 0, 0, 0, 144), (0, -1, 0, 0, 145), (50, 0, 0, 0, 146)]
def xc181 : List xI := [
  (35, 0, 6, 6, 0), (21, 0, 0, 0, 3), (42, 0, 77, 141, 4), (4, 0, 1, 0, 7), (35, 0, 7, 7, 8), (21, 0, 0, 0, 11), (42, 0, 112, 142, 12), (4, 0, 2, 0, 15), (0, 0, 0, 0, 16), (3, 0, 3, 0, 17),
  (1, 0, 3, 0, 18), (2, 0, 0, 0, 19), (55, 0, 0, 0, 20), (0, 5, 0, 0, 21), (7, 0, 0, 0, 22), (16, 0, 853, 4, 23), (2, 0, 0, 0, 26), (1, 0, 3, 0, 27), (54, 0, 0, 0, 28), (0, 63, 0, 1, 29),
  (11, 0, 0, 0, 31), (47, 0, 0, 9, 32), (2, 0, 1, 0, 180), (2, 0, 0, 0, 181), (1, 0, 3, 0, 182), (0, 1, 0, 0, 183), (6, 0, 0, 0, 184), (54, 0, 0, 0, 185), (40, 0, 78, 143, 186), (2, 0, 2, 0, 189),
  (2, 0, 0, 0, 190), (1, 0, 3, 0, 191), (0, 1, 0, 0, 192), (6, 0, 0, 0, 193), (54, 0, 0, 0, 194), (40, 0, 121, 144, 195), (16, 0, 851, 0, 198), (0, 0, 0, 0, 201), (51, 0, 0, 0, 202), (2, 0, 1, 0, 203),
  (2, 0, 0, 0, 204), (1, 0, 3, 0, 205), (0, 1, 0, 0, 206), (6, 0, 0, 0, 207), (54, 0, 0, 0, 208), (2, 0, 0, 0, 209), (1, 0, 3, 0, 210), (0, 2, 0, 0, 211), (6, 0, 0, 0, 212), (54, 0, 0, 0, 213),
  (2, 0, 0, 0, 214), (1, 0, 3, 0, 215), (0, 3, 0, 0, 216), (6, 0, 0, 0, 217), (54, 0, 0, 0, 218), (40, 0, 79, 145, 219), (22, 0, 0, 0, 222), (2, 0, 2, 0, 223), (2, 0, 0, 0, 224), (1, 0, 3, 0, 225),
  (0, 1, 0, 0, 226), (6, 0, 0, 0, 227), (54, 0, 0, 0, 228), (2, 0, 0, 0, 229), (1, 0, 3, 0, 230), (0, 2, 0, 0, 231), (6, 0, 0, 0, 232), (54, 0, 0, 0, 233), (2, 0, 0, 0, 234), (1, 0, 3, 0, 235),
  (0, 3, 0, 0, 236), (6, 0, 0, 0, 237), (54, 0, 0, 0, 238), (40, 0, 122, 146, 239), (22, 0, 0, 0, 242), (17, 0, 851, 0, 243), (2, 0, 1, 0, 246), (2, 0, 0, 0, 247), (1, 0, 3, 0, 248), (0, 1, 0, 0, 249),
  (6, 0, 0, 0, 250), (54, 0, 0, 0, 251), (2, 0, 0, 0, 252), (1, 0, 3, 0, 253), (0, 2, 0, 0, 254), (6, 0, 0, 0, 255), (54, 0, 0, 0, 256), (40, 0, 80, 147, 257), (22, 0, 0, 0, 260), (2, 0, 2, 0, 261),
  (2, 0, 0, 0, 262), (1, 0, 3, 0, 263), (0, 1, 0, 0, 264), (6, 0, 0, 0, 265), (54, 0, 0, 0, 266), (2, 0, 0, 0, 267), (1, 0, 3, 0, 268), (0, 2, 0, 0, 269), (6, 0, 0, 0, 270), (54, 0, 0, 0, 271),
  (40, 0, 123, 148, 272), (22, 0, 0, 0, 275), (17, 0, 851, 0, 276), (2, 0, 1, 0, 279), (2, 0, 0, 0, 280), (1, 0, 3, 0, 281), (0, 1, 0, 0, 282), (6, 0, 0, 0, 283), (54, 0, 0, 0, 284), (2, 0, 0, 0, 285),
  (1, 0, 3, 0, 286), (0, 2, 0, 0, 287), (6, 0, 0, 0, 288), (54, 0, 0, 0, 289), (40, 0, 81, 149, 290), (22, 0, 0, 0, 293), (2, 0, 2, 0, 294), (2, 0, 0, 0, 295), (1, 0, 3, 0, 296), (0, 1, 0, 0, 297),
  (6, 0, 0, 0, 298), (54, 0, 0, 0, 299), (2, 0, 0, 0, 300), (1, 0, 3, 0, 301), (0, 2, 0, 0, 302), (6, 0, 0, 0, 303), (54, 0, 0, 0, 304), (40, 0, 124, 150, 305), (22, 0, 0, 0, 308), (17, 0, 851, 0, 309),
  (2, 0, 1, 0, 312), (2, 0, 0, 0, 313), (1, 0, 3, 0, 314), (0, 1, 0, 0, 315), (6, 0, 0, 0, 316), (54, 0, 0, 0, 317), (2, 0, 0, 0, 318), (1, 0, 3, 0, 319), (0, 2, 0, 0, 320), (6, 0, 0, 0, 321),
  (54, 0, 0, 0, 322), (2, 0, 0, 0, 323), (1, 0, 3, 0, 324), (0, 3, 0, 0, 325), (6, 0, 0, 0, 326), (54, 0, 0, 0, 327), (15, 0, 149, 0, 328), (0, 1, 0, 0, 331), (17, 0, 150, 0, 332), (0, 0, 0, 0, 335),
  (40, 0, 82, 151, 336), (22, 0, 0, 0, 339), (2, 0, 2, 0, 340), (2, 0, 0, 0, 341), (1, 0, 3, 0, 342), (0, 1, 0, 0, 343), (6, 0, 0, 0, 344), (54, 0, 0, 0, 345), (2, 0, 0, 0, 346), (1, 0, 3, 0, 347),
  (0, 2, 0, 0, 348), (6, 0, 0, 0, 349), (54, 0, 0, 0, 350), (2, 0, 0, 0, 351), (1, 0, 3, 0, 352), (0, 3, 0, 0, 353), (6, 0, 0, 0, 354), (54, 0, 0, 0, 355), (15, 0, 171, 0, 356), (0, 1, 0, 0, 359),
  (17, 0, 172, 0, 360), (0, 0, 0, 0, 363), (40, 0, 126, 152, 364), (22, 0, 0, 0, 367), (17, 0, 851, 0, 368), (2, 0, 1, 0, 371), (2, 0, 0, 0, 372), (1, 0, 3, 0, 373), (0, 1, 0, 0, 374), (6, 0, 0, 0, 375),
  (54, 0, 0, 0, 376), (2, 0, 0, 0, 377), (1, 0, 3, 0, 378), (0, 2, 0, 0, 379), (6, 0, 0, 0, 380), (54, 0, 0, 0, 381), (40, 0, 83, 153, 382), (22, 0, 0, 0, 385), (2, 0, 2, 0, 386), (2, 0, 0, 0, 387),
  (1, 0, 3, 0, 388), (0, 1, 0, 0, 389), (6, 0, 0, 0, 390), (54, 0, 0, 0, 391), (2, 0, 0, 0, 392), (1, 0, 3, 0, 393), (0, 2, 0, 0, 394), (6, 0, 0, 0, 395), (54, 0, 0, 0, 396), (40, 0, 127, 154, 397),
  (22, 0, 0, 0, 400), (17, 0, 851, 0, 401), (2, 0, 1, 0, 404), (2, 0, 0, 0, 405), (1, 0, 3, 0, 406), (0, 1, 0, 0, 407), (6, 0, 0, 0, 408), (54, 0, 0, 0, 409), (2, 0, 0, 0, 410), (1, 0, 3, 0, 411),
  (0, 2, 0, 0, 412), (6, 0, 0, 0, 413), (54, 0, 0, 0, 414), (40, 0, 84, 155, 415), (22, 0, 0, 0, 418), (2, 0, 2, 0, 419), (2, 0, 0, 0, 420), (1, 0, 3, 0, 421), (0, 1, 0, 0, 422), (6, 0, 0, 0, 423),
  (54, 0, 0, 0, 424), (2, 0, 0, 0, 425), (1, 0, 3, 0, 426), (0, 2, 0, 0, 427), (6, 0, 0, 0, 428), (54, 0, 0, 0, 429), (40, 0, 132, 156, 430), (22, 0, 0, 0, 433), (17, 0, 851, 0, 434), (2, 0, 1, 0, 437),
  (2, 0, 0, 0, 438), (1, 0, 3, 0, 439), (0, 1, 0, 0, 440), (6, 0, 0, 0, 441), (54, 0, 0, 0, 442), (2, 0, 0, 0, 443), (1, 0, 3, 0, 444), (0, 2, 0, 0, 445), (6, 0, 0, 0, 446), (54, 0, 0, 0, 447),
  (2, 0, 0, 0, 448), (1, 0, 3, 0, 449), (0, 3, 0, 0, 450), (6, 0, 0, 0, 451), (54, 0, 0, 0, 452), (40, 0, 85, 157, 453), (22, 0, 0, 0, 456), (2, 0, 2, 0, 457), (2, 0, 0, 0, 458), (1, 0, 3, 0, 459),
  (0, 1, 0, 0, 460), (6, 0, 0, 0, 461), (54, 0, 0, 0, 462), (2, 0, 0, 0, 463), (1, 0, 3, 0, 464), (0, 2, 0, 0, 465), (6, 0, 0, 0, 466), (54, 0, 0, 0, 467), (2, 0, 0, 0, 468), (1, 0, 3, 0, 469),
  (0, 3, 0, 0, 470), (6, 0, 0, 0, 471), (54, 0, 0, 0, 472), (40, 0, 139, 158, 473), (22, 0, 0, 0, 476), (17, 0, 851, 0, 477), (2, 0, 1, 0, 480), (2, 0, 0, 0, 481), (1, 0, 3, 0, 482), (0, 1, 0, 0, 483),
  (6, 0, 0, 0, 484), (54, 0, 0, 0, 485), (2, 0, 0, 0, 486), (1, 0, 3, 0, 487), (0, 2, 0, 0, 488), (6, 0, 0, 0, 489), (54, 0, 0, 0, 490), (40, 0, 86, 159, 491), (22, 0, 0, 0, 494), (2, 0, 2, 0, 495),
  (2, 0, 0, 0, 496), (1, 0, 3, 0, 497), (0, 1, 0, 0, 498), (6, 0, 0, 0, 499), (54, 0, 0, 0, 500), (2, 0, 0, 0, 501), (1, 0, 3, 0, 502), (0, 2, 0, 0, 503), (6, 0, 0, 0, 504), (54, 0, 0, 0, 505),
  (40, 0, 141, 160, 506), (22, 0, 0, 0, 509), (17, 0, 851, 0, 510), (2, 0, 1, 0, 513), (2, 0, 0, 0, 514), (1, 0, 3, 0, 515), (0, 1, 0, 0, 516), (6, 0, 0, 0, 517), (54, 0, 0, 0, 518), (2, 0, 0, 0, 519),
  (1, 0, 3, 0, 520), (0, 2, 0, 0, 521), (6, 0, 0, 0, 522), (54, 0, 0, 0, 523), (40, 0, 87, 161, 524), (22, 0, 0, 0, 527), (2, 0, 2, 0, 528), (2, 0, 0, 0, 529), (1, 0, 3, 0, 530), (0, 1, 0, 0, 531),
  (6, 0, 0, 0, 532), (54, 0, 0, 0, 533), (2, 0, 0, 0, 534), (1, 0, 3, 0, 535), (0, 2, 0, 0, 536), (6, 0, 0, 0, 537), (54, 0, 0, 0, 538), (40, 0, 142, 162, 539), (22, 0, 0, 0, 542), (17, 0, 851, 0, 543),
  (2, 0, 1, 0, 546), (2, 0, 0, 0, 547), (1, 0, 3, 0, 548), (0, 1, 0, 0, 549), (6, 0, 0, 0, 550), (54, 0, 0, 0, 551), (40, 0, 88, 163, 552), (22, 0, 0, 0, 555), (2, 0, 2, 0, 556), (2, 0, 0, 0, 557),
  (1, 0, 3, 0, 558), (0, 1, 0, 0, 559), (6, 0, 0, 0, 560), (54, 0, 0, 0, 561), (40, 0, 143, 164, 562), (22, 0, 0, 0, 565), (17, 0, 851, 0, 566), (2, 0, 1, 0, 569), (2, 0, 0, 0, 570), (1, 0, 3, 0, 571),
  (0, 1, 0, 0, 572), (6, 0, 0, 0, 573), (54, 0, 0, 0, 574), (40, 0, 89, 165, 575), (22, 0, 0, 0, 578), (2, 0, 2, 0, 579), (2, 0, 0, 0, 580), (1, 0, 3, 0, 581), (0, 1, 0, 0, 582), (6, 0, 0, 0, 583),
  (54, 0, 0, 0, 584), (40, 0, 144, 166, 585), (22, 0, 0, 0, 588), (17, 0, 851, 0, 589), (2, 0, 1, 0, 592), (2, 0, 0, 0, 593), (1, 0, 3, 0, 594), (0, 1, 0, 0, 595), (6, 0, 0, 0, 596), (54, 0, 0, 0, 597),
  (40, 0, 90, 167, 598), (22, 0, 0, 0, 601), (2, 0, 2, 0, 602), (2, 0, 0, 0, 603), (1, 0, 3, 0, 604), (0, 1, 0, 0, 605), (6, 0, 0, 0, 606), (54, 0, 0, 0, 607), (40, 0, 145, 168, 608), (22, 0, 0, 0, 611),
  (17, 0, 851, 0, 612), (2, 0, 1, 0, 615), (2, 0, 0, 0, 616), (1, 0, 3, 0, 617), (0, 1, 0, 0, 618), (6, 0, 0, 0, 619), (54, 0, 0, 0, 620), (2, 0, 0, 0, 621), (1, 0, 3, 0, 622), (0, 2, 0, 0, 623),
  (6, 0, 0, 0, 624), (54, 0, 0, 0, 625), (40, 0, 91, 169, 626), (22, 0, 0, 0, 629), (2, 0, 2, 0, 630), (2, 0, 0, 0, 631), (1, 0, 3, 0, 632), (0, 1, 0, 0, 633), (6, 0, 0, 0, 634), (54, 0, 0, 0, 635),
  (2, 0, 0, 0, 636), (1, 0, 3, 0, 637), (0, 2, 0, 0, 638), (6, 0, 0, 0, 639), (54, 0, 0, 0, 640), (40, 0, 146, 170, 641), (22, 0, 0, 0, 644), (17, 0, 851, 0, 645), (2, 0, 1, 0, 648), (2, 0, 0, 0, 649),
  (1, 0, 3, 0, 650), (0, 1, 0, 0, 651), (6, 0, 0, 0, 652), (54, 0, 0, 0, 653), (2, 0, 0, 0, 654), (1, 0, 3, 0, 655), (0, 2, 0, 0, 656), (6, 0, 0, 0, 657), (54, 0, 0, 0, 658), (2, 0, 0, 0, 659),
  (1, 0, 3, 0, 660), (0, 3, 0, 0, 661), (6, 0, 0, 0, 662), (54, 0, 0, 0, 663), (40, 0, 92, 171, 664), (22, 0, 0, 0, 667), (2, 0, 2, 0, 668), (2, 0, 0, 0, 669), (1, 0, 3, 0, 670), (0, 1, 0, 0, 671),
  (6, 0, 0, 0, 672), (54, 0, 0, 0, 673), (2, 0, 0, 0, 674), (1, 0, 3, 0, 675), (0, 2, 0, 0, 676), (6, 0, 0, 0, 677), (54, 0, 0, 0, 678), (2, 0, 0, 0, 679), (1, 0, 3, 0, 680), (0, 3, 0, 0, 681),
  (6, 0, 0, 0, 682), (54, 0, 0, 0, 683), (40, 0, 150, 172, 684), (22, 0, 0, 0, 687), (17, 0, 851, 0, 688), (2, 0, 1, 0, 691), (2, 0, 0, 0, 692), (1, 0, 3, 0, 693), (0, 1, 0, 0, 694), (6, 0, 0, 0, 695),
  (54, 0, 0, 0, 696), (2, 0, 0, 0, 697), (1, 0, 3, 0, 698), (0, 2, 0, 0, 699), (6, 0, 0, 0, 700), (54, 0, 0, 0, 701), (40, 0, 93, 173, 702), (22, 0, 0, 0, 705), (2, 0, 2, 0, 706), (2, 0, 0, 0, 707),
  (1, 0, 3, 0, 708), (0, 1, 0, 0, 709), (6, 0, 0, 0, 710), (54, 0, 0, 0, 711), (2, 0, 0, 0, 712), (1, 0, 3, 0, 713), (0, 2, 0, 0, 714), (6, 0, 0, 0, 715), (54, 0, 0, 0, 716), (40, 0, 154, 174, 717),
  (22, 0, 0, 0, 720), (17, 0, 851, 0, 721), (2, 0, 1, 0, 724), (40, 0, 94, 175, 725), (22, 0, 0, 0, 728), (2, 0, 2, 0, 729), (40, 0, 155, 176, 730), (22, 0, 0, 0, 733), (17, 0, 851, 0, 734), (2, 0, 1, 0, 737),
  (2, 0, 0, 0, 738), (1, 0, 3, 0, 739), (0, 1, 0, 0, 740), (6, 0, 0, 0, 741), (54, 0, 0, 0, 742), (2, 0, 0, 0, 743), (1, 0, 3, 0, 744), (0, 2, 0, 0, 745), (6, 0, 0, 0, 746), (54, 0, 0, 0, 747),
  (40, 0, 95, 177, 748), (22, 0, 0, 0, 751), (2, 0, 2, 0, 752), (2, 0, 0, 0, 753), (1, 0, 3, 0, 754), (0, 1, 0, 0, 755), (6, 0, 0, 0, 756), (54, 0, 0, 0, 757), (2, 0, 0, 0, 758), (1, 0, 3, 0, 759),
  (0, 2, 0, 0, 760), (6, 0, 0, 0, 761), (54, 0, 0, 0, 762), (40, 0, 157, 178, 763), (22, 0, 0, 0, 766), (17, 0, 851, 0, 767), (2, 0, 1, 0, 770), (2, 0, 0, 0, 771), (1, 0, 3, 0, 772), (0, 1, 0, 0, 773),
  (6, 0, 0, 0, 774), (54, 0, 0, 0, 775), (2, 0, 0, 0, 776), (1, 0, 3, 0, 777), (0, 2, 0, 0, 778), (6, 0, 0, 0, 779), (54, 0, 0, 0, 780), (40, 0, 96, 179, 781), (22, 0, 0, 0, 784), (2, 0, 2, 0, 785),
  (2, 0, 0, 0, 786), (1, 0, 3, 0, 787), (0, 1, 0, 0, 788), (6, 0, 0, 0, 789), (54, 0, 0, 0, 790), (2, 0, 0, 0, 791), (1, 0, 3, 0, 792), (0, 2, 0, 0, 793), (6, 0, 0, 0, 794), (54, 0, 0, 0, 795),
  (40, 0, 158, 180, 796), (22, 0, 0, 0, 799), (17, 0, 851, 0, 800), (2, 0, 1, 0, 803), (2, 0, 0, 0, 804), (1, 0, 3, 0, 805), (0, 1, 0, 0, 806), (6, 0, 0, 0, 807), (54, 0, 0, 0, 808), (2, 0, 0, 0, 809),
  (1, 0, 3, 0, 810), (0, 2, 0, 0, 811), (6, 0, 0, 0, 812), (54, 0, 0, 0, 813), (40, 0, 97, 181, 814), (22, 0, 0, 0, 817), (2, 0, 2, 0, 818), (2, 0, 0, 0, 819), (1, 0, 3, 0, 820), (0, 1, 0, 0, 821),
  (6, 0, 0, 0, 822), (54, 0, 0, 0, 823), (2, 0, 0, 0, 824), (1, 0, 3, 0, 825), (0, 2, 0, 0, 826), (6, 0, 0, 0, 827), (54, 0, 0, 0, 828), (40, 0, 162, 182, 829), (22, 0, 0, 0, 832), (17, 0, 851, 0, 833),
  (2, 0, 1, 0, 836), (2, 0, 0, 0, 837), (1, 0, 3, 0, 838), (0, 1, 0, 0, 839), (6, 0, 0, 0, 840), (54, 0, 0, 0, 841), (2, 0, 0, 0, 842), (1, 0, 3, 0, 843), (0, 2, 0, 0, 844), (6, 0, 0, 0, 845),
  (54, 0, 0, 0, 846), (40, 0, 98, 183, 847), (22, 0, 0, 0, 850), (2, 0, 2, 0, 851), (2, 0, 0, 0, 852), (1, 0, 3, 0, 853), (0, 1, 0, 0, 854), (6, 0, 0, 0, 855), (54, 0, 0, 0, 856), (2, 0, 0, 0, 857),
  (1, 0, 3, 0, 858), (0, 2, 0, 0, 859), (6, 0, 0, 0, 860), (54, 0, 0, 0, 861), (40, 0, 163, 184, 862), (22, 0, 0, 0, 865), (17, 0, 851, 0, 866), (2, 0, 1, 0, 869), (2, 0, 0, 0, 870), (1, 0, 3, 0, 871),
  (0, 1, 0, 0, 872), (6, 0, 0, 0, 873), (54, 0, 0, 0, 874), (40, 0, 99, 185, 875), (22, 0, 0, 0, 878), (2, 0, 2, 0, 879), (2, 0, 0, 0, 880), (1, 0, 3, 0, 881), (0, 1, 0, 0, 882), (6, 0, 0, 0, 883),
  (54, 0, 0, 0, 884), (40, 0, 164, 186, 885), (22, 0, 0, 0, 888), (17, 0, 851, 0, 889), (2, 0, 1, 0, 892), (2, 0, 0, 0, 893), (1, 0, 3, 0, 894), (0, 1, 0, 0, 895), (6, 0, 0, 0, 896), (54, 0, 0, 0, 897),
  (2, 0, 0, 0, 898), (1, 0, 3, 0, 899), (0, 2, 0, 0, 900), (6, 0, 0, 0, 901), (54, 0, 0, 0, 902), (40, 0, 100, 187, 903), (22, 0, 0, 0, 906), (2, 0, 2, 0, 907), (2, 0, 0, 0, 908), (1, 0, 3, 0, 909),
  (0, 1, 0, 0, 910), (6, 0, 0, 0, 911), (54, 0, 0, 0, 912), (2, 0, 0, 0, 913), (1, 0, 3, 0, 914), (0, 2, 0, 0, 915), (6, 0, 0, 0, 916), (54, 0, 0, 0, 917), (40, 0, 165, 188, 918), (22, 0, 0, 0, 921),
  (17, 0, 851, 0, 922), (2, 0, 1, 0, 925), (2, 0, 0, 0, 926), (1, 0, 3, 0, 927), (0, 1, 0, 0, 928), (6, 0, 0, 0, 929), (54, 0, 0, 0, 930), (2, 0, 0, 0, 931), (1, 0, 3, 0, 932), (0, 2, 0, 0, 933),
  (6, 0, 0, 0, 934), (54, 0, 0, 0, 935), (2, 0, 0, 0, 936), (1, 0, 3, 0, 937), (0, 3, 0, 0, 938), (6, 0, 0, 0, 939), (54, 0, 0, 0, 940), (2, 0, 0, 0, 941), (1, 0, 3, 0, 942), (0, 4, 0, 0, 943),
  (6, 0, 0, 0, 944), (54, 0, 0, 0, 945), (40, 0, 101, 189, 946), (22, 0, 0, 0, 949), (2, 0, 2, 0, 950), (2, 0, 0, 0, 951), (1, 0, 3, 0, 952), (0, 1, 0, 0, 953), (6, 0, 0, 0, 954), (54, 0, 0, 0, 955),
  (2, 0, 0, 0, 956), (1, 0, 3, 0, 957), (0, 2, 0, 0, 958), (6, 0, 0, 0, 959), (54, 0, 0, 0, 960), (2, 0, 0, 0, 961), (1, 0, 3, 0, 962), (0, 3, 0, 0, 963), (6, 0, 0, 0, 964), (54, 0, 0, 0, 965),
  (2, 0, 0, 0, 966), (1, 0, 3, 0, 967), (0, 4, 0, 0, 968), (6, 0, 0, 0, 969), (54, 0, 0, 0, 970), (40, 0, 166, 190, 971), (22, 0, 0, 0, 974), (17, 0, 851, 0, 975), (2, 0, 1, 0, 978), (2, 0, 0, 0, 979),
  (1, 0, 3, 0, 980), (0, 1, 0, 0, 981), (6, 0, 0, 0, 982), (54, 0, 0, 0, 983), (2, 0, 0, 0, 984), (1, 0, 3, 0, 985), (0, 2, 0, 0, 986), (6, 0, 0, 0, 987), (54, 0, 0, 0, 988), (2, 0, 0, 0, 989),
  (1, 0, 3, 0, 990), (0, 3, 0, 0, 991), (6, 0, 0, 0, 992), (54, 0, 0, 0, 993), (40, 0, 102, 191, 994), (22, 0, 0, 0, 997), (2, 0, 2, 0, 998), (2, 0, 0, 0, 999), (1, 0, 3, 0, 1000), (0, 1, 0, 0, 1001),
  (6, 0, 0, 0, 1002), (54, 0, 0, 0, 1003), (2, 0, 0, 0, 1004), (1, 0, 3, 0, 1005), (0, 2, 0, 0, 1006), (6, 0, 0, 0, 1007), (54, 0, 0, 0, 1008), (2, 0, 0, 0, 1009), (1, 0, 3, 0, 1010), (0, 3, 0, 0, 1011),
  (6, 0, 0, 0, 1012), (54, 0, 0, 0, 1013), (40, 0, 168, 192, 1014), (22, 0, 0, 0, 1017), (17, 0, 851, 0, 1018), (2, 0, 1, 0, 1021), (2, 0, 0, 0, 1022), (1, 0, 3, 0, 1023), (0, 1, 0, 0, 1024), (6, 0, 0, 0, 1025),
  (54, 0, 0, 0, 1026), (40, 0, 103, 193, 1027), (22, 0, 0, 0, 1030), (2, 0, 2, 0, 1031), (2, 0, 0, 0, 1032), (1, 0, 3, 0, 1033), (0, 1, 0, 0, 1034), (6, 0, 0, 0, 1035), (54, 0, 0, 0, 1036), (40, 0, 169, 194, 1037),
  (22, 0, 0, 0, 1040), (17, 0, 851, 0, 1041), (2, 0, 1, 0, 1044), (2, 0, 0, 0, 1045), (1, 0, 3, 0, 1046), (0, 1, 0, 0, 1047), (6, 0, 0, 0, 1048), (54, 0, 0, 0, 1049), (2, 0, 0, 0, 1050), (1, 0, 3, 0, 1051),
  (0, 2, 0, 0, 1052), (6, 0, 0, 0, 1053), (54, 0, 0, 0, 1054), (40, 0, 104, 195, 1055), (22, 0, 0, 0, 1058), (2, 0, 2, 0, 1059), (2, 0, 0, 0, 1060), (1, 0, 3, 0, 1061), (0, 1, 0, 0, 1062), (6, 0, 0, 0, 1063),
  (54, 0, 0, 0, 1064), (2, 0, 0, 0, 1065), (1, 0, 3, 0, 1066), (0, 2, 0, 0, 1067), (6, 0, 0, 0, 1068), (54, 0, 0, 0, 1069), (40, 0, 170, 196, 1070), (22, 0, 0, 0, 1073), (17, 0, 851, 0, 1074), (2, 0, 1, 0, 1077),
  (2, 0, 0, 0, 1078), (1, 0, 3, 0, 1079), (0, 1, 0, 0, 1080), (6, 0, 0, 0, 1081), (54, 0, 0, 0, 1082), (40, 0, 105, 197, 1083), (22, 0, 0, 0, 1086), (2, 0, 2, 0, 1087), (2, 0, 0, 0, 1088), (1, 0, 3, 0, 1089),
  (0, 1, 0, 0, 1090), (6, 0, 0, 0, 1091), (54, 0, 0, 0, 1092), (40, 0, 174, 198, 1093), (22, 0, 0, 0, 1096), (17, 0, 851, 0, 1097), (2, 0, 1, 0, 1100), (2, 0, 0, 0, 1101), (1, 0, 3, 0, 1102), (0, 1, 0, 0, 1103),
  (6, 0, 0, 0, 1104), (54, 0, 0, 0, 1105), (40, 0, 106, 199, 1106), (22, 0, 0, 0, 1109), (2, 0, 2, 0, 1110), (2, 0, 0, 0, 1111), (1, 0, 3, 0, 1112), (0, 1, 0, 0, 1113), (6, 0, 0, 0, 1114), (54, 0, 0, 0, 1115),
  (40, 0, 175, 200, 1116), (22, 0, 0, 0, 1119), (17, 0, 851, 0, 1120), (2, 0, 1, 0, 1123), (2, 0, 0, 0, 1124), (1, 0, 3, 0, 1125), (0, 1, 0, 0, 1126), (6, 0, 0, 0, 1127), (54, 0, 0, 0, 1128), (40, 0, 107, 201, 1129),
  (22, 0, 0, 0, 1132), (2, 0, 2, 0, 1133), (2, 0, 0, 0, 1134), (1, 0, 3, 0, 1135), (0, 1, 0, 0, 1136), (6, 0, 0, 0, 1137), (54, 0, 0, 0, 1138), (40, 0, 177, 202, 1139), (22, 0, 0, 0, 1142), (17, 0, 851, 0, 1143),
  (2, 0, 1, 0, 1146), (2, 0, 0, 0, 1147), (1, 0, 3, 0, 1148), (0, 1, 0, 0, 1149), (6, 0, 0, 0, 1150), (54, 0, 0, 0, 1151), (40, 0, 108, 203, 1152), (22, 0, 0, 0, 1155), (2, 0, 2, 0, 1156), (2, 0, 0, 0, 1157),
  (1, 0, 3, 0, 1158), (0, 1, 0, 0, 1159), (6, 0, 0, 0, 1160), (54, 0, 0, 0, 1161), (40, 0, 178, 204, 1162), (22, 0, 0, 0, 1165), (17, 0, 851, 0, 1166), (2, 0, 1, 0, 1169), (2, 0, 0, 0, 1170), (1, 0, 3, 0, 1171),
  (0, 1, 0, 0, 1172), (6, 0, 0, 0, 1173), (54, 0, 0, 0, 1174), (40, 0, 109, 205, 1175), (22, 0, 0, 0, 1178), (2, 0, 2, 0, 1179), (2, 0, 0, 0, 1180), (1, 0, 3, 0, 1181), (0, 1, 0, 0, 1182), (6, 0, 0, 0, 1183),
  (54, 0, 0, 0, 1184), (40, 0, 179, 206, 1185), (22, 0, 0, 0, 1188), (17, 0, 851, 0, 1189), (2, 0, 1, 0, 1192), (2, 0, 0, 0, 1193), (1, 0, 3, 0, 1194), (0, 1, 0, 0, 1195), (6, 0, 0, 0, 1196), (54, 0, 0, 0, 1197),
  (40, 0, 110, 207, 1198), (22, 0, 0, 0, 1201), (2, 0, 2, 0, 1202), (2, 0, 0, 0, 1203), (1, 0, 3, 0, 1204), (0, 1, 0, 0, 1205), (6, 0, 0, 0, 1206), (54, 0, 0, 0, 1207), (40, 0, 180, 208, 1208), (22, 0, 0, 0, 1211),
  (17, 0, 851, 0, 1212), (5, 5, 3, 0, 1215), (17, 0, 10, 0, 1218), (0, 1, 0, 0, 1221), (51, 0, 0, 0, 1222)]
abbrev XM : Type := MethodName × Nat × Nat × (Nat × Nat × Nat × Nat) × (Nat × Nat × Nat) × (Nat × Nat × Nat × Nat) × List xI
def xmt0 : List XM := [
  (⟨"WheelStands$Cart", "<init>", "(I)V"⟩, 2, 0, (1, 40, 1, 8), (2, 2, 0), (196, 195, 0, 49), xc0),
  (⟨"WheelStands$Cart", "setUp", "(II)V"⟩, 3, 0, (0, 0, 0, 0), (3, 0, 0), (550, 548, 549, 49), xc1),
  (⟨"WheelStands$Cart", "copyFrom", "(LWheelStands$Cart;)V"⟩, 2, 0, (1, 40, 0, 0), (2, 0, 0), (743, 741, 742, 49), xc2),
  (⟨"WheelStands$Cart", "hasRoomFor", "(LWheelStands$Wheel;)Z"⟩, 2, 2, (2, 40, 0, 0), (2, 0, 0), (570, 568, 569, 49), xc3),
  (⟨"WheelStands$Cart", "wheelOn", "(I)I"⟩, 2, 1, (0, 0, 0, 0), (2, 0, 0), (595, 593, 594, 49), xc4),
  (⟨"WheelStands$Cart", "takeOn", "(LWheelStands$Wheel;)V"⟩, 2, 0, (3, 61, 0, 0), (2, 0, 0), (580, 578, 579, 49), xc5),
  (⟨"WheelStands$Cart", "letFirstGo", "(LWheelStands$Wheel;)V"⟩, 3, 0, (2, 40, 0, 0), (2, 0, 0), (604, 602, 603, 49), xc6),
  (⟨"WheelStands$Demand", "<init>", "()V"⟩, 1, 0, (1, 40, 2, 48), (1, 2, 1), (79, 78, 0, 47), xc7),
  (⟨"WheelStands$Demand", "allows", "(I)Z"⟩, 1, 2, (0, 0, 0, 0), (1, 1, 1), (619, 618, 0, 47), xc8),
  (⟨"WheelStands$Demand", "forget", "()V"⟩, 2, 0, (0, 0, 0, 0), (1, 0, 1), (313, 311, 312, 47), xc9),
  (⟨"WheelStands$Demand", "copyFrom", "(LWheelStands$Demand;)V"⟩, 2, 0, (1, 40, 0, 0), (2, 0, 1), (734, 732, 733, 47), xc10),
  (⟨"WheelStands$Demand", "tellHour", "(III)Z"⟩, 4, 2, (1, 20, 0, 0), (4, 0, 1), (616, 614, 615, 47), xc11),
  (⟨"WheelStands$Demand", "runFrom", "(III)I"⟩, 10, 1, (1, 40, 0, 0), (4, 0, 1), (631, 629, 630, 47), xc12),
  (⟨"WheelStands$Demand", "bestStart", "(I)I"⟩, 6, 1, (2, 69, 0, 0), (2, 0, 1), (640, 638, 639, 47), xc13),
  (⟨"WheelStands$Stand", "<init>", "(I)V"⟩, 2, 0, (2, 60, 6, 83), (2, 2, 2), (73, 72, 0, 46), xc14),
  (⟨"WheelStands$Stand", "setUp", "(I)V"⟩, 3, 0, (1, 21, 0, 0), (2, 0, 2), (309, 307, 308, 46), xc15),
  (⟨"WheelStands$Stand", "copyFrom", "(LWheelStands$Stand;)V"⟩, 2, 0, (2, 61, 0, 0), (2, 0, 2), (727, 725, 726, 46), xc16),
  (⟨"WheelStands$Stand", "hasDock", "(I)Z"⟩, 2, 2, (0, 0, 0, 0), (2, 0, 2), (345, 343, 344, 46), xc17),
  (⟨"WheelStands$Stand", "addOther", "(I)I"⟩, 3, 1, (1, 40, 0, 0), (2, 0, 2), (329, 327, 328, 46), xc18),
  (⟨"WheelStands$Stand", "otherAt", "(I)I"⟩, 2, 1, (0, 0, 0, 0), (2, 0, 2), (520, 518, 519, 46), xc19),
  (⟨"WheelStands$Stand", "lengthTo", "(I)I"⟩, 2, 1, (0, 0, 0, 0), (2, 0, 2), (476, 474, 475, 46), xc20),
  (⟨"WheelStands$Stand", "docksWith", "(I)I"⟩, 4, 1, (0, 0, 0, 0), (2, 0, 2), (361, 359, 360, 46), xc21),
  (⟨"WheelStands$Stand", "freeDocks", "()I"⟩, 1, 1, (1, 23, 0, 0), (1, 0, 2), (357, 355, 356, 46), xc22),
  (⟨"WheelStands$Stand", "usableDocks", "()I"⟩, 1, 1, (1, 23, 0, 0), (1, 0, 2), (627, 625, 626, 46), xc23),
  (⟨"WheelStands$Stand", "isFree", "(II)Z"⟩, 3, 2, (1, 21, 0, 0), (3, 0, 2), (384, 382, 383, 46), xc24),
  (⟨"WheelStands$Stand", "roomFor", "(I)I"⟩, 3, 1, (2, 43, 0, 0), (2, 0, 2), (515, 513, 514, 46), xc25)]
def xmt1 : List XM := [
  (⟨"WheelStands$Stand", "fill", "(III)V"⟩, 5, 0, (1, 21, 0, 0), (4, 0, 2), (414, 412, 413, 46), xc26),
  (⟨"WheelStands$Tour", "<init>", "()V"⟩, 1, 0, (1, 40, 5, 1045), (1, 2, 3), (263, 262, 0, 50), xc27),
  (⟨"WheelStands$Tour", "stopAt", "(I)I"⟩, 2, 1, (0, 0, 0, 0), (2, 0, 3), (702, 700, 701, 50), xc28),
  (⟨"WheelStands$Tour", "prepare", "(LWheelStands$Town;LWheelStands$Cart;)I"⟩, 4, 1, (5, 120, 0, 0), (3, 0, 3), (653, 651, 652, 50), xc29),
  (⟨"WheelStands$Tour", "gather", "(LWheelStands$Town;)Z"⟩, 5, 2, (3, 66, 0, 0), (2, 0, 3), (657, 656, 3, 50), xc30),
  (⟨"WheelStands$Tour", "allStands", "()I"⟩, 1, 1, (0, 0, 0, 0), (1, 0, 3), (671, 670, 5, 50), xc31),
  (⟨"WheelStands$Tour", "addUpHeld", "()V"⟩, 3, 0, (1, 20, 0, 0), (1, 0, 3), (667, 666, 4, 50), xc32),
  (⟨"WheelStands$Tour", "measureLeft", "(LWheelStands$Town;I)V"⟩, 6, 0, (4, 93, 0, 0), (3, 0, 3), (675, 674, 6, 50), xc33),
  (⟨"WheelStands$Tour", "leastOnward", "(LWheelStands$Town;II)I"⟩, 6, 1, (3, 68, 0, 0), (4, 0, 3), (679, 678, 7, 50), xc34),
  (⟨"WheelStands$Tour", "onwardBy", "(LWheelStands$Town;III)I"⟩, 5, 1, (2, 44, 0, 0), (5, 0, 3), (684, 683, 8, 50), xc35),
  (⟨"WheelStands$Tour", "trace", "(LWheelStands$Town;I)V"⟩, 8, 0, (4, 93, 0, 0), (3, 0, 3), (690, 689, 9, 50), xc36),
  (⟨"WheelStands$Tour", "leadsOn", "(LWheelStands$Town;IIII)Z"⟩, 6, 2, (3, 68, 0, 0), (6, 0, 3), (694, 693, 10, 50), xc37),
  (⟨"WheelStands$Town", "<init>", "()V"⟩, 2, 0, (3, 81, 153, 1824), (1, 2, 4), (66, 65, 0, 45), xc38),
  (⟨"WheelStands$Town", "copyFrom", "(LWheelStands$Town;)V"⟩, 3, 0, (3, 82, 0, 0), (2, 0, 4), (723, 721, 722, 45), xc39),
  (⟨"WheelStands$Town", "standAt", "(I)LWheelStands$Stand;"⟩, 2, 3, (0, 0, 0, 0), (2, 0, 4), (321, 319, 320, 45), xc40),
  (⟨"WheelStands$Town", "wheelAt", "(I)LWheelStands$Wheel;"⟩, 2, 4, (0, 0, 0, 0), (2, 0, 4), (423, 421, 422, 45), xc41),
  (⟨"WheelStands$Town", "cartAt", "(I)LWheelStands$Cart;"⟩, 2, 5, (0, 0, 0, 0), (2, 0, 4), (558, 556, 557, 45), xc42),
  (⟨"WheelStands$Town", "wheelIn", "(II)LWheelStands$Wheel;"⟩, 4, 4, (1, 21, 0, 0), (3, 0, 4), (461, 459, 460, 45), xc43),
  (⟨"WheelStands$Town", "addStand", "(I)I"⟩, 2, 1, (2, 43, 0, 0), (2, 0, 4), (305, 303, 304, 45), xc44),
  (⟨"WheelStands$Town", "addWheel", "(ILWheelStands$Stand;I)I"⟩, 5, 1, (3, 68, 0, 0), (4, 0, 4), (389, 387, 388, 45), xc45),
  (⟨"WheelStands$Town", "addCart", "(II)I"⟩, 3, 1, (1, 22, 0, 0), (3, 0, 4), (546, 544, 545, 45), xc46),
  (⟨"WheelStands$Town", "wheelsIn", "(I)I"⟩, 4, 1, (0, 0, 0, 0), (2, 0, 4), (756, 754, 755, 45), xc47),
  (⟨"WheelStands$Town", "knownBroken", "()I"⟩, 3, 1, (0, 0, 0, 0), (1, 0, 4), (760, 758, 759, 45), xc48),
  (⟨"WheelStands$Town", "wheelsAt", "(II)I"⟩, 5, 1, (1, 22, 0, 0), (3, 0, 4), (365, 363, 364, 45), xc49),
  (⟨"WheelStands$Town", "movableAt", "(I)I"⟩, 4, 1, (1, 22, 0, 0), (2, 0, 4), (373, 371, 372, 45), xc50),
  (⟨"WheelStands$Town", "surplusAt", "(LWheelStands$Stand;)I"⟩, 2, 1, (2, 45, 0, 0), (2, 0, 4), (661, 659, 660, 45), xc51)]
def xmt2 : List XM := [
  (⟨"WheelStands$Town", "lengthBetween", "(II)I"⟩, 4, 1, (1, 21, 0, 0), (3, 0, 4), (472, 470, 471, 45), xc52),
  (⟨"WheelStands$Town", "nearestLength", "(I)I"⟩, 4, 1, (2, 44, 0, 0), (2, 0, 4), (468, 466, 467, 45), xc53),
  (⟨"WheelStands$Town", "putInDock", "(LWheelStands$Wheel;LWheelStands$Stand;I)V"⟩, 4, 0, (2, 45, 0, 0), (4, 0, 4), (405, 403, 404, 45), xc54),
  (⟨"WheelStands$Town", "clearDock", "(LWheelStands$Wheel;)V"⟩, 3, 0, (2, 45, 0, 0), (2, 0, 4), (499, 497, 498, 45), xc55),
  (⟨"WheelStands$Town", "lend", "(LWheelStands$Wheel;LWheelStands$Wheel;)V"⟩, 5, 0, (4, 89, 0, 0), (3, 0, 4), (491, 489, 490, 45), xc56),
  (⟨"WheelStands$Town", "lendOne", "(LWheelStands$Wheel;LWheelStands$Wheel;)V"⟩, 3, 0, (3, 67, 0, 0), (3, 0, 4), (495, 494, 0, 45), xc57),
  (⟨"WheelStands$Town", "bringBack", "(LWheelStands$Wheel;LWheelStands$Stand;)V"⟩, 9, 0, (4, 93, 0, 0), (3, 0, 4), (507, 505, 506, 45), xc58),
  (⟨"WheelStands$Town", "docksBoth", "(LWheelStands$Wheel;LWheelStands$Wheel;LWheelStands$Stand;)Z"⟩, 6, 2, (3, 68, 0, 0), (4, 0, 4), (511, 510, 1, 45), xc59),
  (⟨"WheelStands$Town", "leaveOnStreet", "(LWheelStands$Wheel;LWheelStands$Wheel;I)V"⟩, 4, 0, (1, 23, 0, 0), (4, 0, 4), (524, 523, 2, 45), xc60),
  (⟨"WheelStands$Town", "moveCart", "(LWheelStands$Cart;I)V"⟩, 3, 0, (2, 44, 0, 0), (3, 0, 4), (562, 560, 561, 45), xc61),
  (⟨"WheelStands$Town", "takeFromDock", "(LWheelStands$Cart;LWheelStands$Wheel;)V"⟩, 3, 0, (4, 82, 0, 0), (3, 0, 4), (575, 573, 574, 45), xc62),
  (⟨"WheelStands$Town", "giveFirst", "(LWheelStands$Cart;LWheelStands$Wheel;)Z"⟩, 5, 2, (3, 68, 0, 0), (3, 0, 4), (599, 597, 598, 45), xc63),
  (⟨"WheelStands$Town", "serve", "(LWheelStands$Cart;I)V"⟩, 7, 0, (5, 104, 0, 0), (3, 0, 4), (710, 708, 709, 45), xc64),
  (⟨"WheelStands$Wheel", "<init>", "(I)V"⟩, 2, 0, (1, 40, 0, 0), (2, 2, 5), (139, 138, 0, 48), xc65),
  (⟨"WheelStands$Wheel", "setUp", "(I)V"⟩, 2, 0, (1, 23, 0, 0), (2, 0, 5), (393, 391, 392, 48), xc66),
  (⟨"WheelStands$Wheel", "copyFrom", "(LWheelStands$Wheel;)V"⟩, 2, 0, (0, 0, 0, 0), (2, 0, 5), (739, 737, 738, 48), xc67),
  (⟨"WheelStands$Wheel", "moveTo", "(III)V"⟩, 4, 0, (0, 0, 0, 0), (4, 0, 5), (401, 399, 400, 48), xc68),
  (⟨"WheelStands$Wheel", "sizeOf", "(I)I"⟩, 1, 1, (0, 0, 0, 0), (1, 1, 5), (380, 379, 0, 48), xc69),
  (⟨"WheelStands$Wheel", "size", "()I"⟩, 1, 1, (1, 20, 0, 0), (1, 0, 5), (409, 407, 408, 48), xc70),
  (⟨"WheelStands$Wheel", "hasCharge", "()Z"⟩, 1, 2, (0, 0, 0, 0), (1, 0, 5), (397, 395, 396, 48), xc71),
  (⟨"WheelStands$Wheel", "chargeFor", "(I)I"⟩, 2, 1, (1, 20, 0, 0), (2, 0, 5), (487, 485, 486, 48), xc72),
  (⟨"WheelStands$Wheel", "lasts", "(I)Z"⟩, 2, 2, (2, 41, 0, 0), (2, 0, 5), (483, 481, 482, 48), xc73),
  (⟨"WheelStands$Wheel", "ride", "(I)V"⟩, 2, 0, (2, 41, 0, 0), (2, 0, 5), (528, 526, 527, 48), xc74),
  (⟨"WheelStands$Wheel", "chargeAnHour", "()V"⟩, 1, 0, (1, 40, 0, 0), (1, 0, 5), (537, 535, 536, 48), xc75),
  (⟨"WheelStands$Wheel", "isAt", "(II)Z"⟩, 3, 2, (0, 0, 0, 0), (3, 0, 5), (369, 367, 368, 48), xc76),
  (⟨"WheelStands", "<init>", "()V"⟩, 1, 0, (4, 102, 161, 2887), (1, 2, 6), (58, 57, 0, 44), xc77)]
def xmt3 : List XM := [
  (⟨"WheelStands", "stand", "(I)I"⟩, 2, 1, (3, 64, 0, 0), (2, 0, 6), (301, 299, 300, 44), xc78),
  (⟨"WheelStands", "length", "(III)Z"⟩, 6, 2, (1, 21, 0, 0), (4, 0, 6), (317, 315, 316, 44), xc79),
  (⟨"WheelStands", "next", "(II)I"⟩, 4, 1, (2, 62, 0, 0), (3, 0, 6), (325, 323, 324, 44), xc80),
  (⟨"WheelStands", "tear", "(II)Z"⟩, 4, 2, (1, 21, 0, 0), (3, 0, 6), (336, 334, 335, 44), xc81),
  (⟨"WheelStands", "block", "(IIZ)Z"⟩, 5, 2, (1, 21, 0, 0), (4, 0, 6), (341, 339, 340, 44), xc82),
  (⟨"WheelStands", "dock", "(II)I"⟩, 4, 1, (1, 21, 0, 0), (3, 0, 6), (349, 347, 348, 44), xc83),
  (⟨"WheelStands", "tell", "(II)I"⟩, 4, 1, (2, 46, 0, 0), (3, 0, 6), (353, 351, 352, 44), xc84),
  (⟨"WheelStands", "put", "(III)I"⟩, 5, 1, (4, 92, 0, 0), (4, 0, 6), (377, 375, 376, 44), xc85),
  (⟨"WheelStands", "charge", "(II)I"⟩, 5, 1, (1, 23, 0, 0), (3, 0, 6), (419, 417, 418, 44), xc86),
  (⟨"WheelStands", "wheel", "(II)I"⟩, 4, 1, (1, 21, 0, 0), (3, 0, 6), (437, 435, 436, 44), xc87),
  (⟨"WheelStands", "fault", "(I)Z"⟩, 3, 2, (1, 21, 0, 0), (2, 0, 6), (441, 439, 440, 44), xc88),
  (⟨"WheelStands", "test", "(I)I"⟩, 3, 1, (1, 21, 0, 0), (2, 0, 6), (445, 443, 444, 44), xc89),
  (⟨"WheelStands", "mend", "(I)Z"⟩, 3, 2, (1, 21, 0, 0), (2, 0, 6), (449, 447, 448, 44), xc90),
  (⟨"WheelStands", "doubt", "(II)I"⟩, 6, 1, (0, 0, 0, 0), (3, 0, 6), (453, 451, 452, 44), xc91),
  (⟨"WheelStands", "hire", "(III)I"⟩, 6, 1, (5, 113, 0, 0), (4, 0, 6), (457, 455, 456, 44), xc92),
  (⟨"WheelStands", "end", "(II)I"⟩, 5, 1, (5, 121, 0, 0), (3, 0, 6), (503, 501, 502, 44), xc93),
  (⟨"WheelStands", "hour", "()I"⟩, 2, 1, (2, 60, 0, 0), (1, 0, 6), (533, 531, 532, 44), xc94),
  (⟨"WheelStands", "cart", "(II)I"⟩, 3, 1, (2, 44, 0, 0), (3, 0, 6), (542, 540, 541, 44), xc95),
  (⟨"WheelStands", "drive", "(II)I"⟩, 4, 1, (3, 66, 0, 0), (3, 0, 6), (554, 552, 553, 44), xc96),
  (⟨"WheelStands", "pick", "(II)I"⟩, 5, 1, (5, 104, 0, 0), (3, 0, 6), (566, 564, 565, 44), xc97),
  (⟨"WheelStands", "fetch", "(II)Z"⟩, 5, 2, (4, 82, 0, 0), (3, 0, 6), (586, 584, 585, 44), xc98),
  (⟨"WheelStands", "drop", "(I)I"⟩, 4, 1, (4, 92, 0, 0), (2, 0, 6), (591, 589, 590, 44), xc99),
  (⟨"WheelStands", "load", "(II)I"⟩, 4, 1, (1, 21, 0, 0), (3, 0, 6), (608, 606, 607, 44), xc100),
  (⟨"WheelStands", "demand", "(IIII)Z"⟩, 6, 2, (2, 43, 0, 0), (5, 0, 6), (612, 610, 611, 44), xc101),
  (⟨"WheelStands", "runs", "(III)I"⟩, 5, 1, (2, 69, 0, 0), (4, 0, 6), (623, 621, 622, 44), xc102),
  (⟨"WheelStands", "shortage", "(I)I"⟩, 3, 1, (3, 94, 0, 0), (2, 0, 6), (636, 634, 635, 44), xc103)]
def xmt4 : List XM := [
  (⟨"WheelStands", "want", "(II)Z"⟩, 4, 2, (1, 21, 0, 0), (3, 0, 6), (645, 643, 644, 44), xc104),
  (⟨"WheelStands", "plan", "(I)I"⟩, 2, 1, (6, 143, 0, 0), (2, 0, 6), (649, 647, 648, 44), xc105),
  (⟨"WheelStands", "round", "(I)I"⟩, 2, 1, (1, 21, 0, 0), (2, 0, 6), (698, 696, 697, 44), xc106),
  (⟨"WheelStands", "carry", "(I)I"⟩, 5, 1, (6, 143, 0, 0), (2, 0, 6), (706, 704, 705, 44), xc107),
  (⟨"WheelStands", "image", "(I)Z"⟩, 2, 2, (4, 104, 154, 1831), (2, 0, 6), (719, 717, 718, 44), xc108),
  (⟨"WheelStands", "again", "(I)Z"⟩, 2, 2, (4, 104, 0, 0), (2, 0, 6), (748, 746, 747, 44), xc109),
  (⟨"WheelStands", "count", "(I)I"⟩, 2, 1, (1, 23, 0, 0), (2, 0, 6), (752, 750, 751, 44), xc110),
  (⟨"WheelStands", "thousandthsOf", "(I)I"⟩, 4, 1, (0, 0, 0, 0), (1, 1, 6), (427, 426, 0, 44), xc111),
  (⟨"WheelStandsModel", "<init>", "()V"⟩, 3, 0, (1, 40, 7, 8249), (1, 2, 7), (765, 764, 0, 51), xc112),
  (⟨"WheelStandsModel", "isIn", "(II)Z"⟩, 2, 2, (0, 0, 0, 0), (2, 1, 7), (827, 826, 0, 51), xc113),
  (⟨"WheelStandsModel", "isStand", "(I)Z"⟩, 2, 2, (1, 21, 0, 0), (2, 0, 7), (824, 823, 13, 51), xc114),
  (⟨"WheelStandsModel", "isWheel", "(I)Z"⟩, 2, 2, (1, 21, 0, 0), (2, 0, 7), (898, 897, 23, 51), xc115),
  (⟨"WheelStandsModel", "isCart", "(I)Z"⟩, 2, 2, (1, 21, 0, 0), (2, 0, 7), (989, 988, 34, 51), xc116),
  (⟨"WheelStandsModel", "standAt", "(I)I"⟩, 2, 1, (0, 0, 0, 0), (2, 0, 7), (812, 811, 11, 51), xc117),
  (⟨"WheelStandsModel", "docks", "(I)I"⟩, 2, 1, (1, 21, 0, 0), (2, 0, 7), (847, 846, 15, 51), xc118),
  (⟨"WheelStandsModel", "dockAt", "(II)I"⟩, 3, 1, (1, 21, 0, 0), (3, 0, 7), (816, 815, 12, 51), xc119),
  (⟨"WheelStandsModel", "far", "(II)I"⟩, 3, 1, (0, 0, 0, 0), (3, 0, 7), (937, 936, 25, 51), xc120),
  (⟨"WheelStandsModel", "stand", "(I)I"⟩, 4, 1, (2, 43, 0, 0), (2, 0, 7), (808, 806, 807, 51), xc121),
  (⟨"WheelStandsModel", "length", "(III)Z"⟩, 4, 2, (2, 42, 0, 0), (4, 0, 7), (820, 818, 819, 51), xc122),
  (⟨"WheelStandsModel", "next", "(II)I"⟩, 4, 1, (2, 42, 0, 0), (3, 0, 7), (831, 829, 830, 51), xc123),
  (⟨"WheelStandsModel", "tear", "(II)Z"⟩, 4, 2, (2, 42, 0, 0), (3, 0, 7), (835, 833, 834, 51), xc124),
  (⟨"WheelStandsModel", "isDock", "(II)Z"⟩, 3, 2, (2, 42, 0, 0), (3, 0, 7), (843, 842, 14, 51), xc125),
  (⟨"WheelStandsModel", "block", "(IIZ)Z"⟩, 5, 2, (3, 64, 0, 0), (4, 0, 7), (839, 837, 838, 51), xc126),
  (⟨"WheelStandsModel", "dock", "(II)I"⟩, 3, 1, (3, 64, 0, 0), (3, 0, 7), (851, 849, 850, 51), xc127),
  (⟨"WheelStandsModel", "countDocks", "(II)I"⟩, 6, 1, (2, 43, 0, 0), (3, 0, 7), (859, 858, 16, 51), xc128),
  (⟨"WheelStandsModel", "of", "(II)I"⟩, 3, 1, (0, 0, 0, 0), (3, 0, 7), (867, 866, 18, 51), xc129)]
def xmt5 : List XM := [
  (⟨"WheelStandsModel", "sets", "(III)V"⟩, 4, 0, (0, 0, 0, 0), (4, 0, 7), (883, 882, 21, 51), xc130),
  (⟨"WheelStandsModel", "countWheels", "(IIZ)I"⟩, 6, 1, (1, 22, 0, 0), (4, 0, 7), (863, 862, 17, 51), xc131),
  (⟨"WheelStandsModel", "tell", "(II)I"⟩, 3, 1, (3, 68, 0, 0), (3, 0, 7), (855, 853, 854, 51), xc132),
  (⟨"WheelStandsModel", "isFree", "(II)Z"⟩, 3, 2, (3, 64, 0, 0), (3, 0, 7), (879, 878, 20, 51), xc133),
  (⟨"WheelStandsModel", "fits", "(III)Z"⟩, 4, 2, (4, 86, 0, 0), (4, 0, 7), (875, 874, 19, 51), xc134),
  (⟨"WheelStandsModel", "roomFor", "(II)I"⟩, 4, 1, (5, 109, 0, 0), (3, 0, 7), (965, 964, 31, 51), xc135),
  (⟨"WheelStandsModel", "comes", "(III)V"⟩, 4, 0, (2, 43, 0, 0), (4, 0, 7), (890, 889, 22, 51), xc136),
  (⟨"WheelStandsModel", "leaves", "(I)V"⟩, 2, 0, (2, 43, 0, 0), (2, 0, 7), (949, 948, 28, 51), xc137),
  (⟨"WheelStandsModel", "hasCharge", "(I)Z"⟩, 1, 2, (0, 0, 0, 0), (1, 1, 7), (886, 885, 0, 51), xc138),
  (⟨"WheelStandsModel", "put", "(III)I"⟩, 5, 1, (5, 109, 0, 0), (4, 0, 7), (871, 869, 870, 51), xc139),
  (⟨"WheelStandsModel", "thousandths", "(I)I"⟩, 13, 1, (0, 0, 0, 0), (1, 1, 7), (901, 900, 0, 51), xc140),
  (⟨"WheelStandsModel", "charge", "(II)I"⟩, 4, 1, (2, 42, 0, 0), (3, 0, 7), (894, 892, 893, 51), xc141),
  (⟨"WheelStandsModel", "wheel", "(II)I"⟩, 4, 1, (2, 42, 0, 0), (3, 0, 7), (909, 907, 908, 51), xc142),
  (⟨"WheelStandsModel", "fault", "(I)Z"⟩, 2, 2, (2, 42, 0, 0), (2, 0, 7), (913, 911, 912, 51), xc143),
  (⟨"WheelStandsModel", "test", "(I)I"⟩, 2, 1, (2, 42, 0, 0), (2, 0, 7), (917, 915, 916, 51), xc144),
  (⟨"WheelStandsModel", "mend", "(I)Z"⟩, 2, 2, (2, 42, 0, 0), (2, 0, 7), (921, 919, 920, 51), xc145),
  (⟨"WheelStandsModel", "doubt", "(II)I"⟩, 6, 1, (1, 22, 0, 0), (3, 0, 7), (925, 923, 924, 51), xc146),
  (⟨"WheelStandsModel", "falls", "(I)I"⟩, 2, 1, (0, 0, 0, 0), (2, 0, 7), (941, 940, 26, 51), xc147),
  (⟨"WheelStandsModel", "isEnough", "(II)Z"⟩, 5, 2, (1, 22, 0, 0), (3, 0, 7), (933, 932, 24, 51), xc148),
  (⟨"WheelStandsModel", "hired", "(II)V"⟩, 3, 0, (3, 64, 0, 0), (3, 0, 7), (945, 944, 27, 51), xc149),
  (⟨"WheelStandsModel", "hire", "(III)I"⟩, 7, 1, (4, 86, 0, 0), (4, 0, 7), (929, 927, 928, 51), xc150),
  (⟨"WheelStandsModel", "goes", "(II)V"⟩, 4, 0, (1, 23, 0, 0), (3, 0, 7), (957, 956, 29, 51), xc151),
  (⟨"WheelStandsModel", "arrives", "(III)Z"⟩, 7, 2, (6, 132, 0, 0), (4, 0, 7), (961, 960, 30, 51), xc152),
  (⟨"WheelStandsModel", "streets", "(II)V"⟩, 3, 0, (1, 23, 0, 0), (3, 0, 7), (969, 968, 32, 51), xc153),
  (⟨"WheelStandsModel", "end", "(II)I"⟩, 10, 1, (7, 158, 0, 0), (3, 0, 7), (953, 951, 952, 51), xc154),
  (⟨"WheelStandsModel", "hour", "()I"⟩, 3, 1, (1, 23, 0, 0), (1, 0, 7), (973, 971, 972, 51), xc155)]
def xmt6 : List XM := [
  (⟨"WheelStandsModel", "wagonAt", "(I)I"⟩, 2, 1, (0, 0, 0, 0), (2, 0, 7), (981, 980, 33, 51), xc156),
  (⟨"WheelStandsModel", "cart", "(II)I"⟩, 4, 1, (2, 42, 0, 0), (3, 0, 7), (977, 975, 976, 51), xc157),
  (⟨"WheelStandsModel", "drive", "(II)I"⟩, 4, 1, (2, 42, 0, 0), (3, 0, 7), (985, 983, 984, 51), xc158),
  (⟨"WheelStandsModel", "taken", "(I)I"⟩, 5, 1, (1, 22, 0, 0), (2, 0, 7), (1001, 1000, 36, 51), xc159),
  (⟨"WheelStandsModel", "allows", "(II)Z"⟩, 3, 2, (2, 46, 0, 0), (3, 0, 7), (997, 996, 35, 51), xc160),
  (⟨"WheelStandsModel", "climbs", "(II)V"⟩, 4, 0, (1, 23, 0, 0), (3, 0, 7), (1005, 1004, 37, 51), xc161),
  (⟨"WheelStandsModel", "pick", "(II)I"⟩, 5, 1, (3, 68, 0, 0), (3, 0, 7), (993, 991, 992, 51), xc162),
  (⟨"WheelStandsModel", "fetch", "(II)Z"⟩, 3, 2, (3, 68, 0, 0), (3, 0, 7), (1009, 1007, 1008, 51), xc163),
  (⟨"WheelStandsModel", "drop", "(I)I"⟩, 6, 1, (6, 132, 0, 0), (2, 0, 7), (1013, 1011, 1012, 51), xc164),
  (⟨"WheelStandsModel", "load", "(II)I"⟩, 4, 1, (2, 46, 0, 0), (3, 0, 7), (1017, 1015, 1016, 51), xc165),
  (⟨"WheelStandsModel", "demand", "(IIII)Z"⟩, 7, 2, (2, 42, 0, 0), (5, 0, 7), (1021, 1019, 1020, 51), xc166),
  (⟨"WheelStandsModel", "goesThrough", "(II)V"⟩, 9, 0, (3, 68, 0, 0), (3, 0, 7), (1029, 1028, 38, 51), xc167),
  (⟨"WheelStandsModel", "runs", "(III)I"⟩, 4, 1, (4, 96, 0, 0), (4, 0, 7), (1025, 1023, 1024, 51), xc168),
  (⟨"WheelStandsModel", "shortage", "(I)I"⟩, 5, 1, (4, 96, 0, 0), (2, 0, 7), (1033, 1031, 1032, 51), xc169),
  (⟨"WheelStandsModel", "want", "(II)Z"⟩, 3, 2, (2, 42, 0, 0), (3, 0, 7), (1037, 1035, 1036, 51), xc170),
  (⟨"WheelStandsModel", "finds", "()V"⟩, 4, 0, (2, 47, 0, 0), (1, 0, 7), (1045, 1044, 39, 51), xc171),
  (⟨"WheelStandsModel", "lengthOf", "(I)I"⟩, 8, 1, (1, 22, 0, 0), (2, 0, 7), (1049, 1048, 40, 51), xc172),
  (⟨"WheelStandsModel", "turns", "()Z"⟩, 7, 2, (0, 0, 0, 0), (1, 0, 7), (1053, 1052, 41, 51), xc173),
  (⟨"WheelStandsModel", "plan", "(I)I"⟩, 6, 1, (3, 70, 0, 0), (2, 0, 7), (1041, 1039, 1040, 51), xc174),
  (⟨"WheelStandsModel", "round", "(I)I"⟩, 2, 1, (1, 21, 0, 0), (2, 0, 7), (1057, 1055, 1056, 51), xc175),
  (⟨"WheelStandsModel", "overAt", "(I)I"⟩, 4, 1, (0, 0, 0, 0), (2, 0, 7), (1067, 1066, 42, 51), xc176),
  (⟨"WheelStandsModel", "carry", "(I)I"⟩, 9, 1, (7, 157, 0, 0), (2, 0, 7), (1061, 1059, 1060, 51), xc177),
  (⟨"WheelStandsModel", "image", "(I)Z"⟩, 3, 2, (1, 21, 0, 0), (2, 0, 7), (1073, 1071, 1072, 51), xc178),
  (⟨"WheelStandsModel", "again", "(I)Z"⟩, 3, 2, (1, 21, 0, 0), (2, 0, 7), (1077, 1075, 1076, 51), xc179),
  (⟨"WheelStandsModel", "count", "(I)I"⟩, 4, 1, (1, 22, 0, 0), (2, 0, 7), (1081, 1079, 1080, 51), xc180),
  (⟨"WheelStandsLaw", "law", "([I)Z"⟩, 4, 2, (8, 187, 0, 0), (1, 1, 8), (0, 0, 0, 0), xc181)]
def xmt : List XM := xmt0 ++ (xmt1 ++ (xmt2 ++ (xmt3 ++ (xmt4 ++ (xmt5 ++ (xmt6))))))
def xp_oi : Nat := 60
def xp_oc : Nat := 61
def xp_maxs : Nat := 331
def xp_maxc : Nat := 332
def xp_mins : Nat := 478
def xp_minc : Nat := 479
def xp_mi : Nat := 52
def xp_si : Nat := 53
def xp_an : Nat := 730
def xp_as : Nat := 729
def xp_ai : Nat := 92
def xp_ab : Nat := 804
def xp_o10 : Nat := 192
def xp_o11 : Nat := 69
def xp_o12 : Nat := 258
def xp_o13 : Nat := 135
def xp_in0 : Nat := 193
def xp_id0 : Nat := 49
def xp_in1 : Nat := 76
def xp_id1 : Nat := 47
def xp_in2 : Nat := 70
def xp_id2 : Nat := 46
def xp_in3 : Nat := 260
def xp_id3 : Nat := 50
def xp_in4 : Nat := 63
def xp_id4 : Nat := 45
def xp_in5 : Nat := 136
def xp_id5 : Nat := 48
def xp_in6 : Nat := 55
def xp_id6 : Nat := 44
def xp_in7 : Nat := 762
def xp_id7 : Nat := 51
def xpin (c : Nat) : Nat := [193, 76, 70, 260, 63, 136, 55, 762].getD c 0
def xpid (c : Nat) : Nat := [49, 47, 46, 50, 45, 48, 44, 51].getD c 0
def xlay : List (List Nat) := [[214, 216, 218, 220, 222, 224, 226], [85, 87, 89], [115, 117, 119, 121, 123, 125, 127, 129, 131], [273, 275, 277, 279, 281, 283, 285], [243, 245, 247, 249, 251, 253, 255], [170, 172, 174, 176, 178, 180, 182, 184, 186, 188], [291, 293, 295], [779, 781, 783, 785, 787, 789, 791, 793, 795, 797, 799, 801]]
def xlaw : Nat := 181
def xprC : Nat := 111
def xprM : Nat := 140
end
section
/-! THE INTERPRETER: values are integers or references (numbers of cells, -1 is null, -2 the script); cells are numbered in the order of their making; the kind and the length of the cell of each number are fixed ahead -/
abbrev xV : Type := Int ⊕ Int
abbrev xH : Type := Int × (Int → Int → Int) × (Int → Int → Int)
abbrev xB : Type := Nat × Nat
/-- the cells of a town, from its own on -/
def x_tk (o : Int) : Nat := if o = 0 then 4 else if o = 1 then 11 else if o < 86 then (if (o - 2) % 7 = 0 then 2 else if (o - 2) % 7 = 4 then 1 else 8) else if o = 86 then 13 else if o < 147 then 5 else if o = 147 then 10 else if (o - 148) % 2 = 0 then 0 else 8
def x_tl (o : Int) : Int := if o = 1 then 12 else if o < 86 then (if (o - 2) % 7 = 1 then 12 else if (o - 2) % 7 = 2 then 12 else if (o - 2) % 7 = 3 then 8 else 24) else if o = 86 then 60 else if o = 147 then 3 else 8
/-- kinds: 0 to 7 the classes as in vwCl, 8 int[], 9 boolean[], 10 to 13 rows of carts, stands, towns, wheels -/
def x_kd (a : Int) : Nat := if a = 0 then 6 else if a < 155 then x_tk (a - 1) else if a = 155 then 12 else if a = 156 then 3 else if a < 162 then 8 else if a = 162 then 7 else if a = 164 then 9 else if a < 170 then 8 else x_tk ((a - 170) % 154)
def x_ln (a : Int) : Int := if a < 155 then x_tl (a - 1) else if a = 155 then 4 else if a < 160 then 7 else if a = 160 then 128 else if a = 161 then 896 else if a = 163 then 8200 else if a = 164 then 4 else if a < 167 then 12 else if a < 170 then 7 else x_tl ((a - 170) % 154)
def x_w (x : Int) : Int := (x + 2147483648) % 4294967296 - 2147483648
def x_up (f : Int → Int → Int) (a k v : Int) : Int → Int → Int := fun b j => if b = a ∧ j = k then v else f b j
def x_clr (f : Int → Int → Int) (a v : Int) : Int → Int → Int := fun b j => if b = a then v else f b j
def x_cp (f : Int → Int → Int) (a0 sp a dp n : Int) : Int → Int → Int := fun b j => if b = a ∧ dp ≤ j ∧ j < dp + n then f a0 (sp + (j - dp)) else f b j
def x_un : xV := .inr (-9)
/-- the tables, read -/
noncomputable def x_md (y : Nat) : List XM := Nat.rec (motive := fun _ => List XM) xmt (fun _ r => r.tail) y
noncomputable def x_mi (y : Nat) : XM := (x_md y).headD (⟨"", "", ""⟩, 0, 0, (0, 0, 0, 0), (0, 0, 0), (0, 0, 0, 0), [])
noncomputable def x_nm (y : Nat) : MethodName := (x_mi y).1
noncomputable def x_ml (y : Nat) : Nat := (x_mi y).2.1
noncomputable def x_rt (y : Nat) : Nat := (x_mi y).2.2.1
noncomputable def x_dp (y : Nat) : Nat := (x_mi y).2.2.2.1.1
noncomputable def x_lc (y : Nat) : Nat := (x_mi y).2.2.2.1.2.1
noncomputable def x_mc (y : Nat) : Nat := (x_mi y).2.2.2.1.2.2.1
noncomputable def x_ms (y : Nat) : Nat := (x_mi y).2.2.2.1.2.2.2
noncomputable def x_np (y : Nat) : Nat := (x_mi y).2.2.2.2.1.1
noncomputable def x_st (y : Nat) : Nat := (x_mi y).2.2.2.2.1.2.1
noncomputable def x_rk (y : Nat) : Nat := (x_mi y).2.2.2.2.1.2.2
noncomputable def x_cd (y : Nat) : List xI := (x_mi y).2.2.2.2.2.2
def x_rty (n : Nat) : Option FieldType := if n = 0 then none else if n = 1 then some .int else if n = 2 then some .boolean else if n = 3 then some (.object "WheelStands$Stand") else if n = 4 then some (.object "WheelStands$Wheel") else some (.object "WheelStands$Cart")
abbrev x_dec (i : xI) : xI := i
noncomputable def x_in (y k : Nat) : xI := x_dec ((x_cd y).getD k x_63)
noncomputable def x_pc (y k : Nat) : Nat := (x_in y k).2.2.2.2
def x_cond (u : Nat) (i j : Int) : Bool := if u = 0 then decide (i = j) else if u = 1 then decide (i ≠ j) else if u = 2 then decide (i < j) else if u = 3 then decide (j ≤ i) else if u = 4 then decide (j < i) else decide (i ≤ j)
def x_swt (u : Nat) (i : Int) : Nat := match xsw[u]? with
  | some ((_, lo, hi, _, _), d, ts) => if i < lo ∨ hi < i then d else ts.getD (i - lo).toNat 0
  | none => 0
/-- a cell of kind c -/
def x_ok (z r : Int) (c : Nat) : Bool := decide (0 ≤ r) && decide (r < z) && decide (x_kd r = c)
abbrev xC : Type := Nat × List xV × List xV × xB × xH
/-- one instruction, but for calls and returns -/
def x_stp (i : xI) (k : Nat) (ls st : List xV) (b : xB) (h : xH) : Option xC := match i with
  | (op, a, t, u, _) =>
    if op = 0 then some (k + 1, ls, .inl a :: st, b, h)
    else if op = 1 then (match ls[t]? with | some (.inl v) => some (k + 1, ls, .inl v :: st, b, h) | _ => none)
    else if op = 2 then (match ls[t]? with | some (.inr v) => if -2 ≤ v then some (k + 1, ls, .inr v :: st, b, h) else none | _ => none)
    else if op = 3 then (match st with | .inl v :: st => if t < ls.length then some (k + 1, ls.set t (.inl v), st, b, h) else none | _ => none)
    else if op = 4 then (match st with | .inr v :: st => if t < ls.length ∧ -2 ≤ v then some (k + 1, ls.set t (.inr v), st, b, h) else none | _ => none)
    else if op = 5 then (match ls[t]? with | some (.inl v) => some (k + 1, ls.set t (.inl (x_w (v + a))), st, b, h) | _ => none)
    else if op = 6 then (match st with | .inl j :: .inl i :: st => some (k + 1, ls, .inl (x_w (i + j)) :: st, b, h) | _ => none)
    else if op = 7 then (match st with | .inl j :: .inl i :: st => some (k + 1, ls, .inl (x_w (i - j)) :: st, b, h) | _ => none)
    else if op = 8 then (match st with | .inl j :: .inl i :: st => some (k + 1, ls, .inl (x_w (i * j)) :: st, b, h) | _ => none)
    else if op = 9 then (match st with | .inl j :: .inl i :: st => if 0 ≤ i ∧ 0 < j then some (k + 1, ls, .inl (i % j) :: st, b, h) else none | _ => none)
    else if op = 10 then (match st with | .inl i :: st => some (k + 1, ls, .inl (x_w (-i)) :: st, b, h) | _ => none)
    else if op = 11 then (match st with | .inl j :: .inl i :: st => some (k + 1, ls, .inl (Int32.ofInt i &&& Int32.ofInt j).toInt :: st, b, h) | _ => none)
    else if op = 12 then (match st with | .inl j :: .inl i :: st => some (k + 1, ls, .inl (Int32.ofInt i ||| Int32.ofInt j).toInt :: st, b, h) | _ => none)
    else if op = 13 then (match st with | .inl j :: .inl i :: st => some (k + 1, ls, .inl (Int32.ofInt i <<< (Int32.ofInt j &&& 31)).toInt :: st, b, h) | _ => none)
    else if op = 14 then (match st with | .inl j :: .inl i :: st => some (k + 1, ls, .inl (Int32.ofInt i >>> (Int32.ofInt j &&& 31)).toInt :: st, b, h) | _ => none)
    else if op = 15 then (match st with | .inl i :: st => some (if x_cond u i 0 then t else k + 1, ls, st, b, h) | _ => none)
    else if op = 16 then (match st with | .inl j :: .inl i :: st => some (if x_cond u i j then t else k + 1, ls, st, b, h) | _ => none)
    else if op = 17 then some (t, ls, st, b, h)
    else if op = 18 then (match st with | .inr r :: st => if -1 ≤ r then some (if r < 0 then t else k + 1, ls, st, b, h) else none | _ => none)
    else if op = 19 then (match st with | .inr r :: st => if -1 ≤ r then some (if r < 0 then k + 1 else t, ls, st, b, h) else none | _ => none)
    else if op = 20 then some (k + 1, ls, .inr (-1) :: st, b, h)
    else if op = 21 then (match st with | v :: st => some (k + 1, ls, v :: v :: st, b, h) | _ => none)
    else if op = 22 then (match st with | _ :: st => some (k + 1, ls, st, b, h) | _ => none)
    else if op = 23 then (match st with | v :: w :: st => some (k + 1, ls, v :: w :: v :: w :: st, b, h) | _ => none)
    else if op = 24 then (match st with | .inr r :: st => if x_ok h.1 r (t / 16) then some (k + 1, ls, .inl (h.2.2 r (t % 16 : Nat)) :: st, b, h) else none | _ => none)
    else if op = 25 then (match st with | .inr r :: st => if x_ok h.1 r (t / 16) then some (k + 1, ls, .inr (h.2.1 r (t % 16 : Nat)) :: st, b, h) else none | _ => none)
    else if op = 26 then (match st with | .inl v :: .inr r :: st => if x_ok h.1 r (t / 16) then some (k + 1, ls, st, b, (h.1, h.2.1, x_up h.2.2 r (t % 16 : Nat) v)) else none | _ => none)
    else if op = 27 then (match st with | .inr v :: .inr r :: st => if x_ok h.1 r (t / 16) ∧ -1 ≤ v then some (k + 1, ls, st, b, (h.1, x_up h.2.1 r (t % 16 : Nat) v, h.2.2)) else none | _ => none)
    else if op = 32 then (match st with | .inl v :: .inr r :: st => if x_ok h.1 r (t / 16) ∧ (v = 0 ∨ v = 1) then some (k + 1, ls, st, b, (h.1, h.2.1, x_up h.2.2 r (t % 16 : Nat) v)) else none | _ => none)
    else if op = 28 then (match st with | .inl j :: .inr r :: st => if x_ok h.1 r 8 ∧ 0 ≤ j ∧ j < x_ln r then some (k + 1, ls, .inl (h.2.2 r j) :: st, b, h) else none | _ => none)
    else if op = 29 then (match st with | .inl v :: .inl j :: .inr r :: st => if x_ok h.1 r 8 ∧ 0 ≤ j ∧ j < x_ln r then some (k + 1, ls, st, b, (h.1, h.2.1, x_up h.2.2 r j v)) else none | _ => none)
    else if op = 30 then (match st with | .inl j :: .inr r :: st => if 0 ≤ r ∧ r < h.1 ∧ 10 ≤ x_kd r ∧ x_kd r < 14 ∧ 0 ≤ j ∧ j < x_ln r then some (k + 1, ls, .inr (h.2.1 r j) :: st, b, h) else none | _ => none)
    else if op = 31 then (match st with | .inr v :: .inl j :: .inr r :: st => if 0 ≤ r ∧ r < h.1 ∧ 10 ≤ x_kd r ∧ x_kd r < 14 ∧ 0 ≤ j ∧ j < x_ln r ∧ x_ok h.1 v ([0, 2, 4, 5].getD (x_kd r - 10) 99) then some (k + 1, ls, st, b, (h.1, x_up h.2.1 r j v, h.2.2)) else none | _ => none)
    else if op = 33 then (match st with | .inl j :: .inr r :: st => if x_ok h.1 r 9 ∧ 0 ≤ j ∧ j < x_ln r then some (k + 1, ls, .inl (h.2.2 r j) :: st, b, h) else none | _ => none)
    else if op = 34 then (match st with | .inl v :: .inl j :: .inr r :: st => if x_ok h.1 r 9 ∧ 0 ≤ j ∧ j < x_ln r ∧ (v = 0 ∨ v = 1) then some (k + 1, ls, st, b, (h.1, h.2.1, x_up h.2.2 r j v)) else none | _ => none)
    else if op = 35 then (if x_kd h.1 = t ∧ t < 8 ∧ 1 ≤ b.1 ∧ xnsl t ≤ b.2 then some (k + 1, ls, .inr h.1 :: st, (b.1 - 1, b.2 - xnsl t), (h.1 + 1, x_clr h.2.1 h.1 (-1), x_clr h.2.2 h.1 0)) else none)
    else if op = 36 then (match st with | .inl n :: st => if x_kd h.1 = 8 ∧ x_ln h.1 = n ∧ 0 ≤ n ∧ n ≤ 10000 ∧ 1 ≤ b.1 ∧ n.toNat ≤ b.2 then some (k + 1, ls, .inr h.1 :: st, (b.1 - 1, b.2 - n.toNat), (h.1 + 1, x_clr h.2.1 h.1 (-1), x_clr h.2.2 h.1 0)) else none | _ => none)
    else if op = 37 then (match st with | .inl n :: st => if x_kd h.1 = 9 ∧ x_ln h.1 = n ∧ 0 ≤ n ∧ n ≤ 10000 ∧ 1 ≤ b.1 ∧ n.toNat ≤ b.2 then some (k + 1, ls, .inr h.1 :: st, (b.1 - 1, b.2 - n.toNat), (h.1 + 1, x_clr h.2.1 h.1 (-1), x_clr h.2.2 h.1 0)) else none | _ => none)
    else if op = 38 then (match st with | .inl n :: st => if x_kd h.1 = t ∧ 10 ≤ t ∧ t < 14 ∧ x_ln h.1 = n ∧ 0 ≤ n ∧ n ≤ 10000 ∧ 1 ≤ b.1 ∧ n.toNat ≤ b.2 then some (k + 1, ls, .inr h.1 :: st, (b.1 - 1, b.2 - n.toNat), (h.1 + 1, x_clr h.2.1 h.1 (-1), x_clr h.2.2 h.1 0)) else none | _ => none)
    else if op = 43 then (match st with | .inr r :: st => if 0 ≤ r ∧ r < h.1 ∧ st.length ≤ 8 then some (k + 1, ls, st, b, h) else none | _ => none)
    else if op = 44 then (match st with | .inl j :: .inl i :: st => if st.length ≤ 8 then some (k + 1, ls, .inl (max i j) :: st, b, h) else none | _ => none)
    else if op = 45 then (match st with | .inl j :: .inl i :: st => if st.length ≤ 8 then some (k + 1, ls, .inl (min i j) :: st, b, h) else none | _ => none)
    else if op = 46 then (match st with | .inl n :: .inl dp :: .inr a :: .inl sp :: .inr a0 :: st => if x_ok h.1 a 8 ∧ x_ok h.1 a0 8 ∧ 0 ≤ sp ∧ 0 ≤ dp ∧ 0 ≤ n ∧ sp + n ≤ x_ln a0 ∧ dp + n ≤ x_ln a ∧ st.length ≤ 8 then some (k + 1, ls, st, b, (h.1, h.2.1, x_cp h.2.2 a0 sp a dp n)) else none | _ => none)
    else if op = 47 then (match st with | .inl i :: st => some (x_swt u i, ls, st, b, h) | _ => none)
    else if op = 54 then (match st with | .inl j :: .inr r :: st => if r = -2 ∧ 0 ≤ j ∧ j < h.2.2 (-2) (-1) then some (k + 1, ls, .inl (h.2.2 (-2) j) :: st, b, h) else none | _ => none)
    else if op = 55 then (match st with | .inr r :: st => if r = -2 then some (k + 1, ls, .inl (h.2.2 (-2) (-1)) :: st, b, h) else none | _ => none)
    else none
/-- what the two methods over floats and longs answer: the thousandths of the float with these bits -/
def x_th2 (e f : Int) : Int :=
  (if (if (8388608 + f) * 1000 < 8589934592 then (512 : Int) else 1024) < 2 * ((8388608 + f) * 1000 % (if (8388608 + f) * 1000 < 8589934592 then (512 : Int) else 1024)) ∨ (2 * ((8388608 + f) * 1000 % (if (8388608 + f) * 1000 < 8589934592 then (512 : Int) else 1024)) = (if (8388608 + f) * 1000 < 8589934592 then (512 : Int) else 1024) ∧ (8388608 + f) * 1000 / (if (8388608 + f) * 1000 < 8589934592 then (512 : Int) else 1024) % 2 = 1)
    then (8388608 + f) * 1000 / (if (8388608 + f) * 1000 < 8589934592 then (512 : Int) else 1024) + 1
    else (8388608 + f) * 1000 / (if (8388608 + f) * 1000 < 8589934592 then (512 : Int) else 1024))
  * (if (8388608 + f) * 1000 < 8589934592 then (512 : Int) else 1024) / 2 ^ (150 - e).toNat
def x_thou (i : Int) : Int := if i < 0 then (if i = -2147483648 then 0 else -1) else if 127 < i / 8388608 ∨ (i / 8388608 = 127 ∧ ¬ i % 8388608 = 0) then -1 else if i / 8388608 < 100 then 0 else x_th2 (i / 8388608) (i % 8388608)
def x_ret (op : Nat) (st : List xV) : Option (Option xV) :=
  if op = 50 then (match st with | [.inl v] => some (some (.inl v)) | _ => none)
  else if op = 51 then (match st with | [.inl v] => if v = 0 ∨ v = 1 then some (some (.inl v)) else none | _ => none)
  else if op = 52 then (match st with | [.inr r] => if -1 ≤ r then some (some (.inr r)) else none | _ => none)
  else (match st with | [] => some none | _ => none)
def x_rc (z : Int) (c : Nat) : List xV → Bool
  | .inr r :: _ => x_ok z r c
  | _ => false
/-- the arguments of a call, the rest of the stack; none if it is no call that may be made -/
noncomputable def x_arg (t : Nat) (st : List xV) (b : xB) (h : xH) : Option (List xV × List xV) :=
  if x_np t ≤ st.length ∧ (st.drop (x_np t)).length ≤ 8 ∧ x_mc t ≤ b.1 ∧ x_ms t ≤ b.2 ∧ x_np t ≤ x_ml t ∧ (x_st t = 1 ∨ x_rc h.1 (x_rk t) (st.take (x_np t)).reverse = true) then some ((st.take (x_np t)).reverse, st.drop (x_np t)) else none
/-- whether the two methods over floats may be called -/
def x_pm : Bool := true
noncomputable def x_run : Nat → Nat → Nat → List xV → List xV → xB → xH → Option (Option xV × xH)
  | 0, _, _, _, _, _, _ => none
  | n + 1, y, k, ls, st, b, h => match x_in y k with
    | (op, a, t, u, p) =>
      if 40 ≤ op ∧ op ≤ 42 then (match x_arg t st b h with
        | none => none
        | some (as, rest) => match x_run n t 0 (as ++ List.replicate (x_ml t - x_np t) x_un) [] (x_mc t, x_ms t) h with
          | none => none
          | some (v, h2) => x_run n y (k + 1) ls (v.toList ++ rest) (b.1 - x_mc t, b.2 - x_ms t) h2)
      else if 50 ≤ op ∧ op ≤ 53 then (match x_ret op st with
        | none => none
        | some v => some (v, h))
      else if op = 56 then (match st with
        | .inl v :: st => if st.length ≤ 8 ∧ x_pm = true then x_run n y (k + 1) ls (.inl (x_thou v) :: st) b h else none
        | _ => none)
      else match x_stp (op, a, t, u, p) k ls st b h with
        | none => none
        | some (k', ls', st', b', h') => x_run n y k' ls' st' b' h'
end
section
/-! ONE INSTRUCTION BY ITS BYTES: decode, without walking the whole code each time -/
theorem x_u1 {cd : ByteArray} {p : Nat} {b : UInt8} (h : cd.data.toList[p]? = some b) : (Reader.u1 : Decoder Nat).runAt cd p = .ok (b.toNat, p + 1) := by
  have h1 := (List.getElem?_eq_some_iff.mp h).1
  have hp : p < cd.size := by
    rw [Array.length_toList] at h1
    exact h1
  have hb : cd[p] = b := by
    have h2 := (List.getElem?_eq_some_iff.mp h).2
    rw [Array.getElem_toList] at h2
    exact h2
  have e : (Reader.u1 : Decoder Nat).runAt cd p = (if h : p < cd.size then ((do set (p + 1); Pure.pure cd[p].toNat) : Decoder Nat) else throw (HasTruncated.truncated p)).runAt cd p := rfl
  rw [e, dif_pos hp, hb]
  rfl
theorem x_bd {α β : Type} {r : Decoder β} {f : β → Decoder α} {cd : ByteArray} {p q : Nat} {v : β} (h : r.runAt cd p = .ok (v, q)) : (r >>= f).runAt cd p = (f v).runAt cd q := by
  show Except.bind (r.runAt cd p) (fun x => (f x.1).runAt cd x.2) = _
  rw [h]
  rfl
theorem x_mp {α β : Type} {r : Decoder β} {f : β → α} {cd : ByteArray} {p q : Nat} {v : β} (h : r.runAt cd p = .ok (v, q)) : (f <$> r).runAt cd p = .ok (f v, q) := by
  show Except.bind (r.runAt cd p) _ = _
  rw [h]
  rfl
theorem x_u2 {cd : ByteArray} {p : Nat} {b c : UInt8} (h : cd.data.toList[p]? = some b) (h1 : cd.data.toList[p + 1]? = some c) : (Reader.u2 : Decoder Nat).runAt cd p = .ok (b.toNat * 256 + c.toNat, p + 2) := by
  unfold Reader.u2
  rw [x_bd (x_u1 h), x_bd (x_u1 h1)]
  rfl
theorem x_dd {cd : ByteArray} {p q n : Nat} {i : Instr} (h : (Decoder.instr p).runAt cd p = .ok (i, q)) (hq : q = p + n) : decode cd p = .ok (i, n) := by
  subst hq
  unfold decode
  rw [h]
  show Except.ok (i, p + n - p) = _
  rw [Nat.add_sub_cancel_left]
section
variable {cd : ByteArray} {p : Nat} {b0 b1 b2 : UInt8}

set_option maxRecDepth 10000 in
theorem x_o1 (h0 : cd.data.toList[p]? = some b0) (e : b0.toNat = 1) : decode cd p = .ok (.aconst_null, 1) := by
  refine x_dd (q := p + 1) ?_ rfl
  unfold Decoder.instr
  rw [x_bd (x_u1 h0), e]
  rfl

set_option maxRecDepth 10000 in
theorem x_o2 (h0 : cd.data.toList[p]? = some b0) (e : b0.toNat = 2) : decode cd p = .ok (.iconst (-1), 1) := by
  refine x_dd (q := p + 1) ?_ rfl
  unfold Decoder.instr
  rw [x_bd (x_u1 h0), e]
  rfl

set_option maxRecDepth 10000 in
theorem x_o3 (h0 : cd.data.toList[p]? = some b0) (e : b0.toNat = 3) : decode cd p = .ok (.iconst (0), 1) := by
  refine x_dd (q := p + 1) ?_ rfl
  unfold Decoder.instr
  rw [x_bd (x_u1 h0), e]
  rfl

set_option maxRecDepth 10000 in
theorem x_o4 (h0 : cd.data.toList[p]? = some b0) (e : b0.toNat = 4) : decode cd p = .ok (.iconst (1), 1) := by
  refine x_dd (q := p + 1) ?_ rfl
  unfold Decoder.instr
  rw [x_bd (x_u1 h0), e]
  rfl

set_option maxRecDepth 10000 in
theorem x_o5 (h0 : cd.data.toList[p]? = some b0) (e : b0.toNat = 5) : decode cd p = .ok (.iconst (2), 1) := by
  refine x_dd (q := p + 1) ?_ rfl
  unfold Decoder.instr
  rw [x_bd (x_u1 h0), e]
  rfl

set_option maxRecDepth 10000 in
theorem x_o6 (h0 : cd.data.toList[p]? = some b0) (e : b0.toNat = 6) : decode cd p = .ok (.iconst (3), 1) := by
  refine x_dd (q := p + 1) ?_ rfl
  unfold Decoder.instr
  rw [x_bd (x_u1 h0), e]
  rfl

set_option maxRecDepth 10000 in
theorem x_o7 (h0 : cd.data.toList[p]? = some b0) (e : b0.toNat = 7) : decode cd p = .ok (.iconst (4), 1) := by
  refine x_dd (q := p + 1) ?_ rfl
  unfold Decoder.instr
  rw [x_bd (x_u1 h0), e]
  rfl

set_option maxRecDepth 10000 in
theorem x_o8 (h0 : cd.data.toList[p]? = some b0) (e : b0.toNat = 8) : decode cd p = .ok (.iconst (5), 1) := by
  refine x_dd (q := p + 1) ?_ rfl
  unfold Decoder.instr
  rw [x_bd (x_u1 h0), e]
  rfl

set_option maxRecDepth 10000 in
theorem x_o26 (h0 : cd.data.toList[p]? = some b0) (e : b0.toNat = 26) : decode cd p = .ok (.iload_n 0, 1) := by
  refine x_dd (q := p + 1) ?_ rfl
  unfold Decoder.instr
  rw [x_bd (x_u1 h0), e]
  rfl

set_option maxRecDepth 10000 in
theorem x_o27 (h0 : cd.data.toList[p]? = some b0) (e : b0.toNat = 27) : decode cd p = .ok (.iload_n 1, 1) := by
  refine x_dd (q := p + 1) ?_ rfl
  unfold Decoder.instr
  rw [x_bd (x_u1 h0), e]
  rfl

set_option maxRecDepth 10000 in
theorem x_o28 (h0 : cd.data.toList[p]? = some b0) (e : b0.toNat = 28) : decode cd p = .ok (.iload_n 2, 1) := by
  refine x_dd (q := p + 1) ?_ rfl
  unfold Decoder.instr
  rw [x_bd (x_u1 h0), e]
  rfl

set_option maxRecDepth 10000 in
theorem x_o29 (h0 : cd.data.toList[p]? = some b0) (e : b0.toNat = 29) : decode cd p = .ok (.iload_n 3, 1) := by
  refine x_dd (q := p + 1) ?_ rfl
  unfold Decoder.instr
  rw [x_bd (x_u1 h0), e]
  rfl

set_option maxRecDepth 10000 in
theorem x_o42 (h0 : cd.data.toList[p]? = some b0) (e : b0.toNat = 42) : decode cd p = .ok (.aload_n 0, 1) := by
  refine x_dd (q := p + 1) ?_ rfl
  unfold Decoder.instr
  rw [x_bd (x_u1 h0), e]
  rfl

set_option maxRecDepth 10000 in
theorem x_o43 (h0 : cd.data.toList[p]? = some b0) (e : b0.toNat = 43) : decode cd p = .ok (.aload_n 1, 1) := by
  refine x_dd (q := p + 1) ?_ rfl
  unfold Decoder.instr
  rw [x_bd (x_u1 h0), e]
  rfl

set_option maxRecDepth 10000 in
theorem x_o44 (h0 : cd.data.toList[p]? = some b0) (e : b0.toNat = 44) : decode cd p = .ok (.aload_n 2, 1) := by
  refine x_dd (q := p + 1) ?_ rfl
  unfold Decoder.instr
  rw [x_bd (x_u1 h0), e]
  rfl

set_option maxRecDepth 10000 in
theorem x_o45 (h0 : cd.data.toList[p]? = some b0) (e : b0.toNat = 45) : decode cd p = .ok (.aload_n 3, 1) := by
  refine x_dd (q := p + 1) ?_ rfl
  unfold Decoder.instr
  rw [x_bd (x_u1 h0), e]
  rfl

set_option maxRecDepth 10000 in
theorem x_o46 (h0 : cd.data.toList[p]? = some b0) (e : b0.toNat = 46) : decode cd p = .ok (.iaload, 1) := by
  refine x_dd (q := p + 1) ?_ rfl
  unfold Decoder.instr
  rw [x_bd (x_u1 h0), e]
  rfl

set_option maxRecDepth 10000 in
theorem x_o50 (h0 : cd.data.toList[p]? = some b0) (e : b0.toNat = 50) : decode cd p = .ok (.aaload, 1) := by
  refine x_dd (q := p + 1) ?_ rfl
  unfold Decoder.instr
  rw [x_bd (x_u1 h0), e]
  rfl

set_option maxRecDepth 10000 in
theorem x_o51 (h0 : cd.data.toList[p]? = some b0) (e : b0.toNat = 51) : decode cd p = .ok (.baload, 1) := by
  refine x_dd (q := p + 1) ?_ rfl
  unfold Decoder.instr
  rw [x_bd (x_u1 h0), e]
  rfl

set_option maxRecDepth 10000 in
theorem x_o59 (h0 : cd.data.toList[p]? = some b0) (e : b0.toNat = 59) : decode cd p = .ok (.istore_n 0, 1) := by
  refine x_dd (q := p + 1) ?_ rfl
  unfold Decoder.instr
  rw [x_bd (x_u1 h0), e]
  rfl

set_option maxRecDepth 10000 in
theorem x_o60 (h0 : cd.data.toList[p]? = some b0) (e : b0.toNat = 60) : decode cd p = .ok (.istore_n 1, 1) := by
  refine x_dd (q := p + 1) ?_ rfl
  unfold Decoder.instr
  rw [x_bd (x_u1 h0), e]
  rfl

set_option maxRecDepth 10000 in
theorem x_o61 (h0 : cd.data.toList[p]? = some b0) (e : b0.toNat = 61) : decode cd p = .ok (.istore_n 2, 1) := by
  refine x_dd (q := p + 1) ?_ rfl
  unfold Decoder.instr
  rw [x_bd (x_u1 h0), e]
  rfl

set_option maxRecDepth 10000 in
theorem x_o62 (h0 : cd.data.toList[p]? = some b0) (e : b0.toNat = 62) : decode cd p = .ok (.istore_n 3, 1) := by
  refine x_dd (q := p + 1) ?_ rfl
  unfold Decoder.instr
  rw [x_bd (x_u1 h0), e]
  rfl

set_option maxRecDepth 10000 in
theorem x_o75 (h0 : cd.data.toList[p]? = some b0) (e : b0.toNat = 75) : decode cd p = .ok (.astore_n 0, 1) := by
  refine x_dd (q := p + 1) ?_ rfl
  unfold Decoder.instr
  rw [x_bd (x_u1 h0), e]
  rfl

set_option maxRecDepth 10000 in
theorem x_o76 (h0 : cd.data.toList[p]? = some b0) (e : b0.toNat = 76) : decode cd p = .ok (.astore_n 1, 1) := by
  refine x_dd (q := p + 1) ?_ rfl
  unfold Decoder.instr
  rw [x_bd (x_u1 h0), e]
  rfl

set_option maxRecDepth 10000 in
theorem x_o77 (h0 : cd.data.toList[p]? = some b0) (e : b0.toNat = 77) : decode cd p = .ok (.astore_n 2, 1) := by
  refine x_dd (q := p + 1) ?_ rfl
  unfold Decoder.instr
  rw [x_bd (x_u1 h0), e]
  rfl

set_option maxRecDepth 10000 in
theorem x_o78 (h0 : cd.data.toList[p]? = some b0) (e : b0.toNat = 78) : decode cd p = .ok (.astore_n 3, 1) := by
  refine x_dd (q := p + 1) ?_ rfl
  unfold Decoder.instr
  rw [x_bd (x_u1 h0), e]
  rfl

set_option maxRecDepth 10000 in
theorem x_o79 (h0 : cd.data.toList[p]? = some b0) (e : b0.toNat = 79) : decode cd p = .ok (.iastore, 1) := by
  refine x_dd (q := p + 1) ?_ rfl
  unfold Decoder.instr
  rw [x_bd (x_u1 h0), e]
  rfl

set_option maxRecDepth 10000 in
theorem x_o83 (h0 : cd.data.toList[p]? = some b0) (e : b0.toNat = 83) : decode cd p = .ok (.aastore, 1) := by
  refine x_dd (q := p + 1) ?_ rfl
  unfold Decoder.instr
  rw [x_bd (x_u1 h0), e]
  rfl

set_option maxRecDepth 10000 in
theorem x_o84 (h0 : cd.data.toList[p]? = some b0) (e : b0.toNat = 84) : decode cd p = .ok (.bastore, 1) := by
  refine x_dd (q := p + 1) ?_ rfl
  unfold Decoder.instr
  rw [x_bd (x_u1 h0), e]
  rfl

set_option maxRecDepth 10000 in
theorem x_o87 (h0 : cd.data.toList[p]? = some b0) (e : b0.toNat = 87) : decode cd p = .ok (.pop, 1) := by
  refine x_dd (q := p + 1) ?_ rfl
  unfold Decoder.instr
  rw [x_bd (x_u1 h0), e]
  rfl

set_option maxRecDepth 10000 in
theorem x_o89 (h0 : cd.data.toList[p]? = some b0) (e : b0.toNat = 89) : decode cd p = .ok (.dup, 1) := by
  refine x_dd (q := p + 1) ?_ rfl
  unfold Decoder.instr
  rw [x_bd (x_u1 h0), e]
  rfl

set_option maxRecDepth 10000 in
theorem x_o92 (h0 : cd.data.toList[p]? = some b0) (e : b0.toNat = 92) : decode cd p = .ok (.dup2, 1) := by
  refine x_dd (q := p + 1) ?_ rfl
  unfold Decoder.instr
  rw [x_bd (x_u1 h0), e]
  rfl

set_option maxRecDepth 10000 in
theorem x_o96 (h0 : cd.data.toList[p]? = some b0) (e : b0.toNat = 96) : decode cd p = .ok (.iadd, 1) := by
  refine x_dd (q := p + 1) ?_ rfl
  unfold Decoder.instr
  rw [x_bd (x_u1 h0), e]
  rfl

set_option maxRecDepth 10000 in
theorem x_o100 (h0 : cd.data.toList[p]? = some b0) (e : b0.toNat = 100) : decode cd p = .ok (.isub, 1) := by
  refine x_dd (q := p + 1) ?_ rfl
  unfold Decoder.instr
  rw [x_bd (x_u1 h0), e]
  rfl

set_option maxRecDepth 10000 in
theorem x_o104 (h0 : cd.data.toList[p]? = some b0) (e : b0.toNat = 104) : decode cd p = .ok (.imul, 1) := by
  refine x_dd (q := p + 1) ?_ rfl
  unfold Decoder.instr
  rw [x_bd (x_u1 h0), e]
  rfl

set_option maxRecDepth 10000 in
theorem x_o112 (h0 : cd.data.toList[p]? = some b0) (e : b0.toNat = 112) : decode cd p = .ok (.irem, 1) := by
  refine x_dd (q := p + 1) ?_ rfl
  unfold Decoder.instr
  rw [x_bd (x_u1 h0), e]
  rfl

set_option maxRecDepth 10000 in
theorem x_o116 (h0 : cd.data.toList[p]? = some b0) (e : b0.toNat = 116) : decode cd p = .ok (.ineg, 1) := by
  refine x_dd (q := p + 1) ?_ rfl
  unfold Decoder.instr
  rw [x_bd (x_u1 h0), e]
  rfl

set_option maxRecDepth 10000 in
theorem x_o120 (h0 : cd.data.toList[p]? = some b0) (e : b0.toNat = 120) : decode cd p = .ok (.ishl, 1) := by
  refine x_dd (q := p + 1) ?_ rfl
  unfold Decoder.instr
  rw [x_bd (x_u1 h0), e]
  rfl

set_option maxRecDepth 10000 in
theorem x_o122 (h0 : cd.data.toList[p]? = some b0) (e : b0.toNat = 122) : decode cd p = .ok (.ishr, 1) := by
  refine x_dd (q := p + 1) ?_ rfl
  unfold Decoder.instr
  rw [x_bd (x_u1 h0), e]
  rfl

set_option maxRecDepth 10000 in
theorem x_o126 (h0 : cd.data.toList[p]? = some b0) (e : b0.toNat = 126) : decode cd p = .ok (.iand, 1) := by
  refine x_dd (q := p + 1) ?_ rfl
  unfold Decoder.instr
  rw [x_bd (x_u1 h0), e]
  rfl

set_option maxRecDepth 10000 in
theorem x_o128 (h0 : cd.data.toList[p]? = some b0) (e : b0.toNat = 128) : decode cd p = .ok (.ior, 1) := by
  refine x_dd (q := p + 1) ?_ rfl
  unfold Decoder.instr
  rw [x_bd (x_u1 h0), e]
  rfl

set_option maxRecDepth 10000 in
theorem x_o172 (h0 : cd.data.toList[p]? = some b0) (e : b0.toNat = 172) : decode cd p = .ok (.ireturn, 1) := by
  refine x_dd (q := p + 1) ?_ rfl
  unfold Decoder.instr
  rw [x_bd (x_u1 h0), e]
  rfl

set_option maxRecDepth 10000 in
theorem x_o176 (h0 : cd.data.toList[p]? = some b0) (e : b0.toNat = 176) : decode cd p = .ok (.areturn, 1) := by
  refine x_dd (q := p + 1) ?_ rfl
  unfold Decoder.instr
  rw [x_bd (x_u1 h0), e]
  rfl

set_option maxRecDepth 10000 in
theorem x_o177 (h0 : cd.data.toList[p]? = some b0) (e : b0.toNat = 177) : decode cd p = .ok (.return_, 1) := by
  refine x_dd (q := p + 1) ?_ rfl
  unfold Decoder.instr
  rw [x_bd (x_u1 h0), e]
  rfl

set_option maxRecDepth 10000 in
theorem x_o190 (h0 : cd.data.toList[p]? = some b0) (e : b0.toNat = 190) : decode cd p = .ok (.arraylength, 1) := by
  refine x_dd (q := p + 1) ?_ rfl
  unfold Decoder.instr
  rw [x_bd (x_u1 h0), e]
  rfl

set_option maxRecDepth 10000 in
theorem x_o16 (h0 : cd.data.toList[p]? = some b0) (h1 : cd.data.toList[p + 1]? = some b1) (e : b0.toNat = 16) : decode cd p = .ok (.bipush (Reader.signed 8 b1.toNat), 2) := by
  refine x_dd (q := p + 1 + 1) ?_ rfl
  unfold Decoder.instr
  rw [x_bd (x_u1 h0), e]
  exact x_bd (r := Reader.s1) (x_mp (x_u1 h1))

set_option maxRecDepth 10000 in
theorem x_o18 (h0 : cd.data.toList[p]? = some b0) (h1 : cd.data.toList[p + 1]? = some b1) (e : b0.toNat = 18) : decode cd p = .ok (.ldc b1.toNat, 2) := by
  refine x_dd (q := p + 1 + 1) ?_ rfl
  unfold Decoder.instr
  rw [x_bd (x_u1 h0), e]
  exact x_bd (r := Reader.u1) (x_u1 h1)

set_option maxRecDepth 10000 in
theorem x_o21 (h0 : cd.data.toList[p]? = some b0) (h1 : cd.data.toList[p + 1]? = some b1) (e : b0.toNat = 21) : decode cd p = .ok (.iload b1.toNat, 2) := by
  refine x_dd (q := p + 1 + 1) ?_ rfl
  unfold Decoder.instr
  rw [x_bd (x_u1 h0), e]
  exact x_bd (r := Reader.u1) (x_u1 h1)

set_option maxRecDepth 10000 in
theorem x_o25 (h0 : cd.data.toList[p]? = some b0) (h1 : cd.data.toList[p + 1]? = some b1) (e : b0.toNat = 25) : decode cd p = .ok (.aload b1.toNat, 2) := by
  refine x_dd (q := p + 1 + 1) ?_ rfl
  unfold Decoder.instr
  rw [x_bd (x_u1 h0), e]
  exact x_bd (r := Reader.u1) (x_u1 h1)

set_option maxRecDepth 10000 in
theorem x_o54 (h0 : cd.data.toList[p]? = some b0) (h1 : cd.data.toList[p + 1]? = some b1) (e : b0.toNat = 54) : decode cd p = .ok (.istore b1.toNat, 2) := by
  refine x_dd (q := p + 1 + 1) ?_ rfl
  unfold Decoder.instr
  rw [x_bd (x_u1 h0), e]
  exact x_bd (r := Reader.u1) (x_u1 h1)

set_option maxRecDepth 10000 in
theorem x_o58 (h0 : cd.data.toList[p]? = some b0) (h1 : cd.data.toList[p + 1]? = some b1) (e : b0.toNat = 58) : decode cd p = .ok (.astore b1.toNat, 2) := by
  refine x_dd (q := p + 1 + 1) ?_ rfl
  unfold Decoder.instr
  rw [x_bd (x_u1 h0), e]
  exact x_bd (r := Reader.u1) (x_u1 h1)

set_option maxRecDepth 10000 in
theorem x_o17 (h0 : cd.data.toList[p]? = some b0) (h1 : cd.data.toList[p + 1]? = some b1) (h2 : cd.data.toList[p + 1 + 1]? = some b2) (e : b0.toNat = 17) : decode cd p = .ok (.sipush (Reader.signed 16 (b1.toNat * 256 + b2.toNat)), 3) := by
  refine x_dd (q := p + 1 + 2) ?_ rfl
  unfold Decoder.instr
  rw [x_bd (x_u1 h0), e]
  exact x_bd (r := Reader.s2) (x_mp (x_u2 h1 h2))

set_option maxRecDepth 10000 in
theorem x_o19 (h0 : cd.data.toList[p]? = some b0) (h1 : cd.data.toList[p + 1]? = some b1) (h2 : cd.data.toList[p + 1 + 1]? = some b2) (e : b0.toNat = 19) : decode cd p = .ok (.ldc_w (b1.toNat * 256 + b2.toNat), 3) := by
  refine x_dd (q := p + 1 + 2) ?_ rfl
  unfold Decoder.instr
  rw [x_bd (x_u1 h0), e]
  exact x_bd (r := Reader.u2) (x_u2 h1 h2)

set_option maxRecDepth 10000 in
theorem x_o153 (h0 : cd.data.toList[p]? = some b0) (h1 : cd.data.toList[p + 1]? = some b1) (h2 : cd.data.toList[p + 1 + 1]? = some b2) (e : b0.toNat = 153) : decode cd p = .ok (.ifCond .eq (Reader.signed 16 (b1.toNat * 256 + b2.toNat)), 3) := by
  refine x_dd (q := p + 1 + 2) ?_ rfl
  unfold Decoder.instr
  rw [x_bd (x_u1 h0), e]
  exact x_bd (r := Reader.s2) (x_mp (x_u2 h1 h2))

set_option maxRecDepth 10000 in
theorem x_o154 (h0 : cd.data.toList[p]? = some b0) (h1 : cd.data.toList[p + 1]? = some b1) (h2 : cd.data.toList[p + 1 + 1]? = some b2) (e : b0.toNat = 154) : decode cd p = .ok (.ifCond .ne (Reader.signed 16 (b1.toNat * 256 + b2.toNat)), 3) := by
  refine x_dd (q := p + 1 + 2) ?_ rfl
  unfold Decoder.instr
  rw [x_bd (x_u1 h0), e]
  exact x_bd (r := Reader.s2) (x_mp (x_u2 h1 h2))

set_option maxRecDepth 10000 in
theorem x_o155 (h0 : cd.data.toList[p]? = some b0) (h1 : cd.data.toList[p + 1]? = some b1) (h2 : cd.data.toList[p + 1 + 1]? = some b2) (e : b0.toNat = 155) : decode cd p = .ok (.ifCond .lt (Reader.signed 16 (b1.toNat * 256 + b2.toNat)), 3) := by
  refine x_dd (q := p + 1 + 2) ?_ rfl
  unfold Decoder.instr
  rw [x_bd (x_u1 h0), e]
  exact x_bd (r := Reader.s2) (x_mp (x_u2 h1 h2))

set_option maxRecDepth 10000 in
theorem x_o156 (h0 : cd.data.toList[p]? = some b0) (h1 : cd.data.toList[p + 1]? = some b1) (h2 : cd.data.toList[p + 1 + 1]? = some b2) (e : b0.toNat = 156) : decode cd p = .ok (.ifCond .ge (Reader.signed 16 (b1.toNat * 256 + b2.toNat)), 3) := by
  refine x_dd (q := p + 1 + 2) ?_ rfl
  unfold Decoder.instr
  rw [x_bd (x_u1 h0), e]
  exact x_bd (r := Reader.s2) (x_mp (x_u2 h1 h2))

set_option maxRecDepth 10000 in
theorem x_o157 (h0 : cd.data.toList[p]? = some b0) (h1 : cd.data.toList[p + 1]? = some b1) (h2 : cd.data.toList[p + 1 + 1]? = some b2) (e : b0.toNat = 157) : decode cd p = .ok (.ifCond .gt (Reader.signed 16 (b1.toNat * 256 + b2.toNat)), 3) := by
  refine x_dd (q := p + 1 + 2) ?_ rfl
  unfold Decoder.instr
  rw [x_bd (x_u1 h0), e]
  exact x_bd (r := Reader.s2) (x_mp (x_u2 h1 h2))

set_option maxRecDepth 10000 in
theorem x_o158 (h0 : cd.data.toList[p]? = some b0) (h1 : cd.data.toList[p + 1]? = some b1) (h2 : cd.data.toList[p + 1 + 1]? = some b2) (e : b0.toNat = 158) : decode cd p = .ok (.ifCond .le (Reader.signed 16 (b1.toNat * 256 + b2.toNat)), 3) := by
  refine x_dd (q := p + 1 + 2) ?_ rfl
  unfold Decoder.instr
  rw [x_bd (x_u1 h0), e]
  exact x_bd (r := Reader.s2) (x_mp (x_u2 h1 h2))

set_option maxRecDepth 10000 in
theorem x_o159 (h0 : cd.data.toList[p]? = some b0) (h1 : cd.data.toList[p + 1]? = some b1) (h2 : cd.data.toList[p + 1 + 1]? = some b2) (e : b0.toNat = 159) : decode cd p = .ok (.if_icmp .eq (Reader.signed 16 (b1.toNat * 256 + b2.toNat)), 3) := by
  refine x_dd (q := p + 1 + 2) ?_ rfl
  unfold Decoder.instr
  rw [x_bd (x_u1 h0), e]
  exact x_bd (r := Reader.s2) (x_mp (x_u2 h1 h2))

set_option maxRecDepth 10000 in
theorem x_o160 (h0 : cd.data.toList[p]? = some b0) (h1 : cd.data.toList[p + 1]? = some b1) (h2 : cd.data.toList[p + 1 + 1]? = some b2) (e : b0.toNat = 160) : decode cd p = .ok (.if_icmp .ne (Reader.signed 16 (b1.toNat * 256 + b2.toNat)), 3) := by
  refine x_dd (q := p + 1 + 2) ?_ rfl
  unfold Decoder.instr
  rw [x_bd (x_u1 h0), e]
  exact x_bd (r := Reader.s2) (x_mp (x_u2 h1 h2))

set_option maxRecDepth 10000 in
theorem x_o161 (h0 : cd.data.toList[p]? = some b0) (h1 : cd.data.toList[p + 1]? = some b1) (h2 : cd.data.toList[p + 1 + 1]? = some b2) (e : b0.toNat = 161) : decode cd p = .ok (.if_icmp .lt (Reader.signed 16 (b1.toNat * 256 + b2.toNat)), 3) := by
  refine x_dd (q := p + 1 + 2) ?_ rfl
  unfold Decoder.instr
  rw [x_bd (x_u1 h0), e]
  exact x_bd (r := Reader.s2) (x_mp (x_u2 h1 h2))

set_option maxRecDepth 10000 in
theorem x_o162 (h0 : cd.data.toList[p]? = some b0) (h1 : cd.data.toList[p + 1]? = some b1) (h2 : cd.data.toList[p + 1 + 1]? = some b2) (e : b0.toNat = 162) : decode cd p = .ok (.if_icmp .ge (Reader.signed 16 (b1.toNat * 256 + b2.toNat)), 3) := by
  refine x_dd (q := p + 1 + 2) ?_ rfl
  unfold Decoder.instr
  rw [x_bd (x_u1 h0), e]
  exact x_bd (r := Reader.s2) (x_mp (x_u2 h1 h2))

set_option maxRecDepth 10000 in
theorem x_o163 (h0 : cd.data.toList[p]? = some b0) (h1 : cd.data.toList[p + 1]? = some b1) (h2 : cd.data.toList[p + 1 + 1]? = some b2) (e : b0.toNat = 163) : decode cd p = .ok (.if_icmp .gt (Reader.signed 16 (b1.toNat * 256 + b2.toNat)), 3) := by
  refine x_dd (q := p + 1 + 2) ?_ rfl
  unfold Decoder.instr
  rw [x_bd (x_u1 h0), e]
  exact x_bd (r := Reader.s2) (x_mp (x_u2 h1 h2))

set_option maxRecDepth 10000 in
theorem x_o164 (h0 : cd.data.toList[p]? = some b0) (h1 : cd.data.toList[p + 1]? = some b1) (h2 : cd.data.toList[p + 1 + 1]? = some b2) (e : b0.toNat = 164) : decode cd p = .ok (.if_icmp .le (Reader.signed 16 (b1.toNat * 256 + b2.toNat)), 3) := by
  refine x_dd (q := p + 1 + 2) ?_ rfl
  unfold Decoder.instr
  rw [x_bd (x_u1 h0), e]
  exact x_bd (r := Reader.s2) (x_mp (x_u2 h1 h2))

set_option maxRecDepth 10000 in
theorem x_o167 (h0 : cd.data.toList[p]? = some b0) (h1 : cd.data.toList[p + 1]? = some b1) (h2 : cd.data.toList[p + 1 + 1]? = some b2) (e : b0.toNat = 167) : decode cd p = .ok (.goto (Reader.signed 16 (b1.toNat * 256 + b2.toNat)), 3) := by
  refine x_dd (q := p + 1 + 2) ?_ rfl
  unfold Decoder.instr
  rw [x_bd (x_u1 h0), e]
  exact x_bd (r := Reader.s2) (x_mp (x_u2 h1 h2))

set_option maxRecDepth 10000 in
theorem x_o180 (h0 : cd.data.toList[p]? = some b0) (h1 : cd.data.toList[p + 1]? = some b1) (h2 : cd.data.toList[p + 1 + 1]? = some b2) (e : b0.toNat = 180) : decode cd p = .ok (.getfield (b1.toNat * 256 + b2.toNat), 3) := by
  refine x_dd (q := p + 1 + 2) ?_ rfl
  unfold Decoder.instr
  rw [x_bd (x_u1 h0), e]
  exact x_bd (r := Reader.u2) (x_u2 h1 h2)

set_option maxRecDepth 10000 in
theorem x_o181 (h0 : cd.data.toList[p]? = some b0) (h1 : cd.data.toList[p + 1]? = some b1) (h2 : cd.data.toList[p + 1 + 1]? = some b2) (e : b0.toNat = 181) : decode cd p = .ok (.putfield (b1.toNat * 256 + b2.toNat), 3) := by
  refine x_dd (q := p + 1 + 2) ?_ rfl
  unfold Decoder.instr
  rw [x_bd (x_u1 h0), e]
  exact x_bd (r := Reader.u2) (x_u2 h1 h2)

set_option maxRecDepth 10000 in
theorem x_o182 (h0 : cd.data.toList[p]? = some b0) (h1 : cd.data.toList[p + 1]? = some b1) (h2 : cd.data.toList[p + 1 + 1]? = some b2) (e : b0.toNat = 182) : decode cd p = .ok (.invokevirtual (b1.toNat * 256 + b2.toNat), 3) := by
  refine x_dd (q := p + 1 + 2) ?_ rfl
  unfold Decoder.instr
  rw [x_bd (x_u1 h0), e]
  exact x_bd (r := Reader.u2) (x_u2 h1 h2)

set_option maxRecDepth 10000 in
theorem x_o183 (h0 : cd.data.toList[p]? = some b0) (h1 : cd.data.toList[p + 1]? = some b1) (h2 : cd.data.toList[p + 1 + 1]? = some b2) (e : b0.toNat = 183) : decode cd p = .ok (.invokespecial (b1.toNat * 256 + b2.toNat), 3) := by
  refine x_dd (q := p + 1 + 2) ?_ rfl
  unfold Decoder.instr
  rw [x_bd (x_u1 h0), e]
  exact x_bd (r := Reader.u2) (x_u2 h1 h2)

set_option maxRecDepth 10000 in
theorem x_o184 (h0 : cd.data.toList[p]? = some b0) (h1 : cd.data.toList[p + 1]? = some b1) (h2 : cd.data.toList[p + 1 + 1]? = some b2) (e : b0.toNat = 184) : decode cd p = .ok (.invokestatic (b1.toNat * 256 + b2.toNat), 3) := by
  refine x_dd (q := p + 1 + 2) ?_ rfl
  unfold Decoder.instr
  rw [x_bd (x_u1 h0), e]
  exact x_bd (r := Reader.u2) (x_u2 h1 h2)

set_option maxRecDepth 10000 in
theorem x_o187 (h0 : cd.data.toList[p]? = some b0) (h1 : cd.data.toList[p + 1]? = some b1) (h2 : cd.data.toList[p + 1 + 1]? = some b2) (e : b0.toNat = 187) : decode cd p = .ok (.new (b1.toNat * 256 + b2.toNat), 3) := by
  refine x_dd (q := p + 1 + 2) ?_ rfl
  unfold Decoder.instr
  rw [x_bd (x_u1 h0), e]
  exact x_bd (r := Reader.u2) (x_u2 h1 h2)

set_option maxRecDepth 10000 in
theorem x_o189 (h0 : cd.data.toList[p]? = some b0) (h1 : cd.data.toList[p + 1]? = some b1) (h2 : cd.data.toList[p + 1 + 1]? = some b2) (e : b0.toNat = 189) : decode cd p = .ok (.anewarray (b1.toNat * 256 + b2.toNat), 3) := by
  refine x_dd (q := p + 1 + 2) ?_ rfl
  unfold Decoder.instr
  rw [x_bd (x_u1 h0), e]
  exact x_bd (r := Reader.u2) (x_u2 h1 h2)

set_option maxRecDepth 10000 in
theorem x_o198 (h0 : cd.data.toList[p]? = some b0) (h1 : cd.data.toList[p + 1]? = some b1) (h2 : cd.data.toList[p + 1 + 1]? = some b2) (e : b0.toNat = 198) : decode cd p = .ok (.ifnull (Reader.signed 16 (b1.toNat * 256 + b2.toNat)), 3) := by
  refine x_dd (q := p + 1 + 2) ?_ rfl
  unfold Decoder.instr
  rw [x_bd (x_u1 h0), e]
  exact x_bd (r := Reader.s2) (x_mp (x_u2 h1 h2))

set_option maxRecDepth 10000 in
theorem x_o199 (h0 : cd.data.toList[p]? = some b0) (h1 : cd.data.toList[p + 1]? = some b1) (h2 : cd.data.toList[p + 1 + 1]? = some b2) (e : b0.toNat = 199) : decode cd p = .ok (.ifnonnull (Reader.signed 16 (b1.toNat * 256 + b2.toNat)), 3) := by
  refine x_dd (q := p + 1 + 2) ?_ rfl
  unfold Decoder.instr
  rw [x_bd (x_u1 h0), e]
  exact x_bd (r := Reader.s2) (x_mp (x_u2 h1 h2))

set_option maxRecDepth 10000 in
theorem x_o132 (h0 : cd.data.toList[p]? = some b0) (h1 : cd.data.toList[p + 1]? = some b1) (h2 : cd.data.toList[p + 1 + 1]? = some b2) (e : b0.toNat = 132) : decode cd p = .ok (.iinc b1.toNat (Reader.signed 8 b2.toNat), 3) := by
  refine x_dd (q := p + 1 + 2) ?_ rfl
  unfold Decoder.instr
  rw [x_bd (x_u1 h0), e]
  refine (x_bd (r := Reader.u1) (x_u1 h1)).trans ?_
  exact x_bd (r := Reader.s1) (x_mp (x_u1 h2))
set_option maxRecDepth 10000 in
theorem x_o188a (h0 : cd.data.toList[p]? = some b0) (h1 : cd.data.toList[p + 1]? = some b1) (e : b0.toNat = 188) (e1 : b1.toNat = 10) : decode cd p = .ok (.newarray .int, 2) := by
  refine x_dd (q := p + 1 + 1) ?_ rfl
  unfold Decoder.instr
  rw [x_bd (x_u1 h0), e]
  show (Decoder.newarray p).runAt cd (p + 1) = _
  unfold Decoder.newarray
  rw [x_bd (x_u1 h1), e1]
  rfl
set_option maxRecDepth 10000 in
theorem x_o188b (h0 : cd.data.toList[p]? = some b0) (h1 : cd.data.toList[p + 1]? = some b1) (e : b0.toNat = 188) (e1 : b1.toNat = 4) : decode cd p = .ok (.newarray .boolean, 2) := by
  refine x_dd (q := p + 1 + 1) ?_ rfl
  unfold Decoder.instr
  rw [x_bd (x_u1 h0), e]
  show (Decoder.newarray p).runAt cd (p + 1) = _
  unfold Decoder.newarray
  rw [x_bd (x_u1 h1), e1]
  rfl
end

def x_d0 (n : Nat) : Option Instr := if n = 1 then some (.aconst_null) else if n = 2 then some (.iconst (-1)) else if n = 3 then some (.iconst (0)) else if n = 4 then some (.iconst (1)) else if n = 5 then some (.iconst (2)) else if n = 6 then some (.iconst (3)) else if n = 7 then some (.iconst (4)) else if n = 8 then some (.iconst (5)) else if n = 26 then some (.iload_n 0) else if n = 27 then some (.iload_n 1) else if n = 28 then some (.iload_n 2) else if n = 29 then some (.iload_n 3) else if n = 42 then some (.aload_n 0) else if n = 43 then some (.aload_n 1) else if n = 44 then some (.aload_n 2) else if n = 45 then some (.aload_n 3) else if n = 46 then some (.iaload) else if n = 50 then some (.aaload) else if n = 51 then some (.baload) else if n = 59 then some (.istore_n 0) else if n = 60 then some (.istore_n 1) else if n = 61 then some (.istore_n 2) else if n = 62 then some (.istore_n 3) else if n = 75 then some (.astore_n 0) else if n = 76 then some (.astore_n 1) else if n = 77 then some (.astore_n 2) else if n = 78 then some (.astore_n 3) else if n = 79 then some (.iastore) else if n = 83 then some (.aastore) else if n = 84 then some (.bastore) else if n = 87 then some (.pop) else if n = 89 then some (.dup) else if n = 92 then some (.dup2) else if n = 96 then some (.iadd) else if n = 100 then some (.isub) else if n = 104 then some (.imul) else if n = 112 then some (.irem) else if n = 116 then some (.ineg) else if n = 120 then some (.ishl) else if n = 122 then some (.ishr) else if n = 126 then some (.iand) else if n = 128 then some (.ior) else if n = 172 then some (.ireturn) else if n = 176 then some (.areturn) else if n = 177 then some (.return_) else if n = 190 then some (.arraylength) else none
def x_d1 (n a : Nat) : Option Instr := if n = 16 then some (.bipush (Reader.signed 8 a)) else if n = 18 then some (.ldc a) else if n = 21 then some (.iload a) else if n = 25 then some (.aload a) else if n = 54 then some (.istore a) else if n = 58 then some (.astore a) else if n = 188 then (if a = 10 then some (.newarray .int) else if a = 4 then some (.newarray .boolean) else none) else none
def x_d2 (n a b : Nat) : Option Instr := if n = 17 then some (.sipush (Reader.signed 16 (a * 256 + b))) else if n = 19 then some (.ldc_w (a * 256 + b)) else if n = 153 then some (.ifCond .eq (Reader.signed 16 (a * 256 + b))) else if n = 154 then some (.ifCond .ne (Reader.signed 16 (a * 256 + b))) else if n = 155 then some (.ifCond .lt (Reader.signed 16 (a * 256 + b))) else if n = 156 then some (.ifCond .ge (Reader.signed 16 (a * 256 + b))) else if n = 157 then some (.ifCond .gt (Reader.signed 16 (a * 256 + b))) else if n = 158 then some (.ifCond .le (Reader.signed 16 (a * 256 + b))) else if n = 159 then some (.if_icmp .eq (Reader.signed 16 (a * 256 + b))) else if n = 160 then some (.if_icmp .ne (Reader.signed 16 (a * 256 + b))) else if n = 161 then some (.if_icmp .lt (Reader.signed 16 (a * 256 + b))) else if n = 162 then some (.if_icmp .ge (Reader.signed 16 (a * 256 + b))) else if n = 163 then some (.if_icmp .gt (Reader.signed 16 (a * 256 + b))) else if n = 164 then some (.if_icmp .le (Reader.signed 16 (a * 256 + b))) else if n = 167 then some (.goto (Reader.signed 16 (a * 256 + b))) else if n = 180 then some (.getfield (a * 256 + b)) else if n = 181 then some (.putfield (a * 256 + b)) else if n = 182 then some (.invokevirtual (a * 256 + b)) else if n = 183 then some (.invokespecial (a * 256 + b)) else if n = 184 then some (.invokestatic (a * 256 + b)) else if n = 187 then some (.new (a * 256 + b)) else if n = 189 then some (.anewarray (a * 256 + b)) else if n = 198 then some (.ifnull (Reader.signed 16 (a * 256 + b))) else if n = 199 then some (.ifnonnull (Reader.signed 16 (a * 256 + b))) else if n = 132 then some (.iinc a (Reader.signed 8 b)) else none

/-- is it instruction i, of len bytes, at the head of these bytes -/
def x_is (l : List UInt8) (i : Instr) (len : Nat) : Bool := match len, l with
  | 1, a :: _ => decide (x_d0 a.toNat = some i)
  | 2, a :: b :: _ => decide (x_d1 a.toNat b.toNat = some i)
  | 3, a :: b :: c :: _ => decide (x_d2 a.toNat b.toNat c.toNat = some i)
  | _, _ => false

theorem x_d0_ok {cd : ByteArray} {p : Nat} {b0 : UInt8} {i : Instr} (h0 : cd.data.toList[p]? = some b0) (h : x_d0 b0.toNat = some i) : decode cd p = .ok (i, 1) := by
  by_cases q1 : b0.toNat = 1
  · rw [q1] at h
    cases (show some _ = some i from h)
    exact x_o1 h0 q1
  by_cases q2 : b0.toNat = 2
  · rw [q2] at h
    cases (show some _ = some i from h)
    exact x_o2 h0 q2
  by_cases q3 : b0.toNat = 3
  · rw [q3] at h
    cases (show some _ = some i from h)
    exact x_o3 h0 q3
  by_cases q4 : b0.toNat = 4
  · rw [q4] at h
    cases (show some _ = some i from h)
    exact x_o4 h0 q4
  by_cases q5 : b0.toNat = 5
  · rw [q5] at h
    cases (show some _ = some i from h)
    exact x_o5 h0 q5
  by_cases q6 : b0.toNat = 6
  · rw [q6] at h
    cases (show some _ = some i from h)
    exact x_o6 h0 q6
  by_cases q7 : b0.toNat = 7
  · rw [q7] at h
    cases (show some _ = some i from h)
    exact x_o7 h0 q7
  by_cases q8 : b0.toNat = 8
  · rw [q8] at h
    cases (show some _ = some i from h)
    exact x_o8 h0 q8
  by_cases q26 : b0.toNat = 26
  · rw [q26] at h
    cases (show some _ = some i from h)
    exact x_o26 h0 q26
  by_cases q27 : b0.toNat = 27
  · rw [q27] at h
    cases (show some _ = some i from h)
    exact x_o27 h0 q27
  by_cases q28 : b0.toNat = 28
  · rw [q28] at h
    cases (show some _ = some i from h)
    exact x_o28 h0 q28
  by_cases q29 : b0.toNat = 29
  · rw [q29] at h
    cases (show some _ = some i from h)
    exact x_o29 h0 q29
  by_cases q42 : b0.toNat = 42
  · rw [q42] at h
    cases (show some _ = some i from h)
    exact x_o42 h0 q42
  by_cases q43 : b0.toNat = 43
  · rw [q43] at h
    cases (show some _ = some i from h)
    exact x_o43 h0 q43
  by_cases q44 : b0.toNat = 44
  · rw [q44] at h
    cases (show some _ = some i from h)
    exact x_o44 h0 q44
  by_cases q45 : b0.toNat = 45
  · rw [q45] at h
    cases (show some _ = some i from h)
    exact x_o45 h0 q45
  by_cases q46 : b0.toNat = 46
  · rw [q46] at h
    cases (show some _ = some i from h)
    exact x_o46 h0 q46
  by_cases q50 : b0.toNat = 50
  · rw [q50] at h
    cases (show some _ = some i from h)
    exact x_o50 h0 q50
  by_cases q51 : b0.toNat = 51
  · rw [q51] at h
    cases (show some _ = some i from h)
    exact x_o51 h0 q51
  by_cases q59 : b0.toNat = 59
  · rw [q59] at h
    cases (show some _ = some i from h)
    exact x_o59 h0 q59
  by_cases q60 : b0.toNat = 60
  · rw [q60] at h
    cases (show some _ = some i from h)
    exact x_o60 h0 q60
  by_cases q61 : b0.toNat = 61
  · rw [q61] at h
    cases (show some _ = some i from h)
    exact x_o61 h0 q61
  by_cases q62 : b0.toNat = 62
  · rw [q62] at h
    cases (show some _ = some i from h)
    exact x_o62 h0 q62
  by_cases q75 : b0.toNat = 75
  · rw [q75] at h
    cases (show some _ = some i from h)
    exact x_o75 h0 q75
  by_cases q76 : b0.toNat = 76
  · rw [q76] at h
    cases (show some _ = some i from h)
    exact x_o76 h0 q76
  by_cases q77 : b0.toNat = 77
  · rw [q77] at h
    cases (show some _ = some i from h)
    exact x_o77 h0 q77
  by_cases q78 : b0.toNat = 78
  · rw [q78] at h
    cases (show some _ = some i from h)
    exact x_o78 h0 q78
  by_cases q79 : b0.toNat = 79
  · rw [q79] at h
    cases (show some _ = some i from h)
    exact x_o79 h0 q79
  by_cases q83 : b0.toNat = 83
  · rw [q83] at h
    cases (show some _ = some i from h)
    exact x_o83 h0 q83
  by_cases q84 : b0.toNat = 84
  · rw [q84] at h
    cases (show some _ = some i from h)
    exact x_o84 h0 q84
  by_cases q87 : b0.toNat = 87
  · rw [q87] at h
    cases (show some _ = some i from h)
    exact x_o87 h0 q87
  by_cases q89 : b0.toNat = 89
  · rw [q89] at h
    cases (show some _ = some i from h)
    exact x_o89 h0 q89
  by_cases q92 : b0.toNat = 92
  · rw [q92] at h
    cases (show some _ = some i from h)
    exact x_o92 h0 q92
  by_cases q96 : b0.toNat = 96
  · rw [q96] at h
    cases (show some _ = some i from h)
    exact x_o96 h0 q96
  by_cases q100 : b0.toNat = 100
  · rw [q100] at h
    cases (show some _ = some i from h)
    exact x_o100 h0 q100
  by_cases q104 : b0.toNat = 104
  · rw [q104] at h
    cases (show some _ = some i from h)
    exact x_o104 h0 q104
  by_cases q112 : b0.toNat = 112
  · rw [q112] at h
    cases (show some _ = some i from h)
    exact x_o112 h0 q112
  by_cases q116 : b0.toNat = 116
  · rw [q116] at h
    cases (show some _ = some i from h)
    exact x_o116 h0 q116
  by_cases q120 : b0.toNat = 120
  · rw [q120] at h
    cases (show some _ = some i from h)
    exact x_o120 h0 q120
  by_cases q122 : b0.toNat = 122
  · rw [q122] at h
    cases (show some _ = some i from h)
    exact x_o122 h0 q122
  by_cases q126 : b0.toNat = 126
  · rw [q126] at h
    cases (show some _ = some i from h)
    exact x_o126 h0 q126
  by_cases q128 : b0.toNat = 128
  · rw [q128] at h
    cases (show some _ = some i from h)
    exact x_o128 h0 q128
  by_cases q172 : b0.toNat = 172
  · rw [q172] at h
    cases (show some _ = some i from h)
    exact x_o172 h0 q172
  by_cases q176 : b0.toNat = 176
  · rw [q176] at h
    cases (show some _ = some i from h)
    exact x_o176 h0 q176
  by_cases q177 : b0.toNat = 177
  · rw [q177] at h
    cases (show some _ = some i from h)
    exact x_o177 h0 q177
  by_cases q190 : b0.toNat = 190
  · rw [q190] at h
    cases (show some _ = some i from h)
    exact x_o190 h0 q190
  simp only [x_d0, if_neg q1, if_neg q2, if_neg q3, if_neg q4, if_neg q5, if_neg q6, if_neg q7, if_neg q8, if_neg q26, if_neg q27, if_neg q28, if_neg q29, if_neg q42, if_neg q43, if_neg q44, if_neg q45, if_neg q46, if_neg q50, if_neg q51, if_neg q59, if_neg q60, if_neg q61, if_neg q62, if_neg q75, if_neg q76, if_neg q77, if_neg q78, if_neg q79, if_neg q83, if_neg q84, if_neg q87, if_neg q89, if_neg q92, if_neg q96, if_neg q100, if_neg q104, if_neg q112, if_neg q116, if_neg q120, if_neg q122, if_neg q126, if_neg q128, if_neg q172, if_neg q176, if_neg q177, if_neg q190] at h
  cases h

theorem x_d1_ok {cd : ByteArray} {p : Nat} {b0 b1 : UInt8} {i : Instr} (h0 : cd.data.toList[p]? = some b0) (h1 : cd.data.toList[p + 1]? = some b1) (h : x_d1 b0.toNat b1.toNat = some i) : decode cd p = .ok (i, 2) := by
  by_cases q16 : b0.toNat = 16
  · rw [q16] at h
    cases (show some _ = some i from h)
    exact x_o16 h0 h1 q16
  by_cases q18 : b0.toNat = 18
  · rw [q18] at h
    cases (show some _ = some i from h)
    exact x_o18 h0 h1 q18
  by_cases q21 : b0.toNat = 21
  · rw [q21] at h
    cases (show some _ = some i from h)
    exact x_o21 h0 h1 q21
  by_cases q25 : b0.toNat = 25
  · rw [q25] at h
    cases (show some _ = some i from h)
    exact x_o25 h0 h1 q25
  by_cases q54 : b0.toNat = 54
  · rw [q54] at h
    cases (show some _ = some i from h)
    exact x_o54 h0 h1 q54
  by_cases q58 : b0.toNat = 58
  · rw [q58] at h
    cases (show some _ = some i from h)
    exact x_o58 h0 h1 q58
  by_cases q188 : b0.toNat = 188
  · by_cases r10 : b1.toNat = 10
    · rw [q188, r10] at h
      cases (show some _ = some i from h)
      exact x_o188a h0 h1 q188 r10
    · by_cases r4 : b1.toNat = 4
      · rw [q188, r4] at h
        cases (show some _ = some i from h)
        exact x_o188b h0 h1 q188 r4
      · simp only [x_d1, if_neg q16, if_neg q18, if_neg q21, if_neg q25, if_neg q54, if_neg q58, if_pos q188, if_neg r10, if_neg r4] at h
        cases h
  simp only [x_d1, if_neg q16, if_neg q18, if_neg q21, if_neg q25, if_neg q54, if_neg q58, if_neg q188] at h
  cases h

theorem x_d2_ok {cd : ByteArray} {p : Nat} {b0 b1 b2 : UInt8} {i : Instr} (h0 : cd.data.toList[p]? = some b0) (h1 : cd.data.toList[p + 1]? = some b1) (h2 : cd.data.toList[p + 1 + 1]? = some b2) (h : x_d2 b0.toNat b1.toNat b2.toNat = some i) : decode cd p = .ok (i, 3) := by
  by_cases q17 : b0.toNat = 17
  · rw [q17] at h
    cases (show some _ = some i from h)
    exact x_o17 h0 h1 h2 q17
  by_cases q19 : b0.toNat = 19
  · rw [q19] at h
    cases (show some _ = some i from h)
    exact x_o19 h0 h1 h2 q19
  by_cases q132 : b0.toNat = 132
  · rw [q132] at h
    cases (show some _ = some i from h)
    exact x_o132 h0 h1 h2 q132
  by_cases q153 : b0.toNat = 153
  · rw [q153] at h
    cases (show some _ = some i from h)
    exact x_o153 h0 h1 h2 q153
  by_cases q154 : b0.toNat = 154
  · rw [q154] at h
    cases (show some _ = some i from h)
    exact x_o154 h0 h1 h2 q154
  by_cases q155 : b0.toNat = 155
  · rw [q155] at h
    cases (show some _ = some i from h)
    exact x_o155 h0 h1 h2 q155
  by_cases q156 : b0.toNat = 156
  · rw [q156] at h
    cases (show some _ = some i from h)
    exact x_o156 h0 h1 h2 q156
  by_cases q157 : b0.toNat = 157
  · rw [q157] at h
    cases (show some _ = some i from h)
    exact x_o157 h0 h1 h2 q157
  by_cases q158 : b0.toNat = 158
  · rw [q158] at h
    cases (show some _ = some i from h)
    exact x_o158 h0 h1 h2 q158
  by_cases q159 : b0.toNat = 159
  · rw [q159] at h
    cases (show some _ = some i from h)
    exact x_o159 h0 h1 h2 q159
  by_cases q160 : b0.toNat = 160
  · rw [q160] at h
    cases (show some _ = some i from h)
    exact x_o160 h0 h1 h2 q160
  by_cases q161 : b0.toNat = 161
  · rw [q161] at h
    cases (show some _ = some i from h)
    exact x_o161 h0 h1 h2 q161
  by_cases q162 : b0.toNat = 162
  · rw [q162] at h
    cases (show some _ = some i from h)
    exact x_o162 h0 h1 h2 q162
  by_cases q163 : b0.toNat = 163
  · rw [q163] at h
    cases (show some _ = some i from h)
    exact x_o163 h0 h1 h2 q163
  by_cases q164 : b0.toNat = 164
  · rw [q164] at h
    cases (show some _ = some i from h)
    exact x_o164 h0 h1 h2 q164
  by_cases q167 : b0.toNat = 167
  · rw [q167] at h
    cases (show some _ = some i from h)
    exact x_o167 h0 h1 h2 q167
  by_cases q180 : b0.toNat = 180
  · rw [q180] at h
    cases (show some _ = some i from h)
    exact x_o180 h0 h1 h2 q180
  by_cases q181 : b0.toNat = 181
  · rw [q181] at h
    cases (show some _ = some i from h)
    exact x_o181 h0 h1 h2 q181
  by_cases q182 : b0.toNat = 182
  · rw [q182] at h
    cases (show some _ = some i from h)
    exact x_o182 h0 h1 h2 q182
  by_cases q183 : b0.toNat = 183
  · rw [q183] at h
    cases (show some _ = some i from h)
    exact x_o183 h0 h1 h2 q183
  by_cases q184 : b0.toNat = 184
  · rw [q184] at h
    cases (show some _ = some i from h)
    exact x_o184 h0 h1 h2 q184
  by_cases q187 : b0.toNat = 187
  · rw [q187] at h
    cases (show some _ = some i from h)
    exact x_o187 h0 h1 h2 q187
  by_cases q189 : b0.toNat = 189
  · rw [q189] at h
    cases (show some _ = some i from h)
    exact x_o189 h0 h1 h2 q189
  by_cases q198 : b0.toNat = 198
  · rw [q198] at h
    cases (show some _ = some i from h)
    exact x_o198 h0 h1 h2 q198
  by_cases q199 : b0.toNat = 199
  · rw [q199] at h
    cases (show some _ = some i from h)
    exact x_o199 h0 h1 h2 q199
  simp only [x_d2, if_neg q17, if_neg q19, if_neg q132, if_neg q153, if_neg q154, if_neg q155, if_neg q156, if_neg q157, if_neg q158, if_neg q159, if_neg q160, if_neg q161, if_neg q162, if_neg q163, if_neg q164, if_neg q167, if_neg q180, if_neg q181, if_neg q182, if_neg q183, if_neg q184, if_neg q187, if_neg q189, if_neg q198, if_neg q199] at h
  cases h

theorem x_is_ok {cd : ByteArray} {p len : Nat} {i : Instr} (h : x_is (cd.data.toList.drop p) i len = true) : decode cd p = .ok (i, len) := by
  unfold x_is at h
  split at h
  · rename_i a r hl
    refine x_d0_ok (b0 := a) ?_ (of_decide_eq_true h)
    have := congrArg (fun l => l[0]?) hl
    simpa [List.getElem?_drop] using this
  · rename_i a b r hl
    refine x_d1_ok (b0 := a) (b1 := b) ?_ ?_ (of_decide_eq_true h)
    · have := congrArg (fun l => l[0]?) hl
      simpa [List.getElem?_drop] using this
    · have := congrArg (fun l => l[1]?) hl
      simpa [List.getElem?_drop] using this
  · rename_i a b c r hl
    refine x_d2_ok (b0 := a) (b1 := b) (b2 := c) ?_ ?_ ?_ (of_decide_eq_true h)
    · have := congrArg (fun l => l[0]?) hl
      simpa [List.getElem?_drop] using this
    · have := congrArg (fun l => l[1]?) hl
      simpa [List.getElem?_drop] using this
    · have := congrArg (fun l => l[2]?) hl
      simpa [List.getElem?_drop, Nat.add_assoc] using this
  · cases h
end
section
/-! THE TABLES AGREE WITH THE BYTES AND THE WORDS -/
def x_D (sf : List UInt8) (p p2 : Nat) (i : Instr) (len : Nat) : Bool := x_is sf i len && decide (p2 = p + len)
def x_ifI (u : Nat) (off : Int) : Instr := if u = 0 then .ifCond .eq off else if u = 1 then .ifCond .ne off else if u = 2 then .ifCond .lt off else if u = 3 then .ifCond .ge off else if u = 4 then .ifCond .gt off else .ifCond .le off
def x_icI (u : Nat) (off : Int) : Instr := if u = 0 then .if_icmp .eq off else if u = 1 then .if_icmp .ne off else if u = 2 then .if_icmp .lt off else if u = 3 then .if_icmp .ge off else if u = 4 then .if_icmp .gt off else .if_icmp .le off
def x_q (c : Nat) : vw_C := vwCl.getD c (RX0, TX0, 0)
def x_tp (cd : List xI) (t : Nat) : Nat := (x_dec (cd.getD t x_63)).2.2.2.2
noncomputable def x_dr (n : Nat) : List Cond := Nat.rec (motive := fun _ => List Cond) lw_tbl (fun _ r => r.tail) n
noncomputable def x_wd (p : Nat) (w : Cond) : Bool := decide ((x_dr p).head? = some w)
/-- the bytes of a method, as its word in the tables has them -/
noncomputable def x_bw (me : XM) : ByteArray := if me.2.2.2.2.1.2.2 = 8 then code else match (x_dr me.2.2.2.2.2.1.1).head? with
  | some (.code _ b _ _) => b
  | _ => ⟨#[]⟩
noncomputable def x_by (y : Nat) : ByteArray := x_bw (x_mi y)
noncomputable def x_ckL (own : String) (t u : Nat) (f : Nat → Instr) (sf : List UInt8) (p p2 : Nat) : Bool := match xml[u]? with
  | some (pl, o, ix, y) => decide (o = own) && decide (y = t) && x_D sf p p2 (f ix) 3
  | none => false
def x_ckF (own : String) (t u : Nat) (f : Nat → Instr) (sf : List UInt8) (p p2 : Nat) : Bool := match xfl[u]? with
  | some (pl, o, ix, c, j) => decide (o = own) && decide (t = c * 16 + j) && x_D sf p p2 (f ix) 3
  | none => false
noncomputable def x_ckj (own : String) (rt dp lc st rk : Nat) (cd : List xI) (bw : ByteArray) (sf : List UInt8) (i : xI) (p2 : Nat) : Bool := match i with
  | (op, a, t, u, p) =>
    if op = 0 then (if u = 0 then x_D sf p p2 (.iconst a) 1 else if u = 1 then x_D sf p p2 (.bipush a) 2 && decide (-128 ≤ a) && decide (a < 128) else if u = 2 then x_D sf p p2 (.sipush a) 3 && decide (-32768 ≤ a) && decide (a < 32768)
      else (match xcn[u - 3]? with
        | some (pl, o, ix, v, w) => decide (o = own) && decide (v = Int32.ofInt a) && (if w = 1 then x_D sf p p2 (.ldc_w ix) 3 else x_D sf p p2 (.ldc ix) 2)
        | none => false)) && decide (-2147483648 ≤ a) && decide (a < 2147483648)
    else if op = 1 then (if u = 0 then decide (t < 4) && x_D sf p p2 (.iload_n (Fin.ofNat 4 t)) 1 else x_D sf p p2 (.iload t) 2)
    else if op = 2 then (if u = 0 then decide (t < 4) && x_D sf p p2 (.aload_n (Fin.ofNat 4 t)) 1 else x_D sf p p2 (.aload t) 2)
    else if op = 3 then (if u = 0 then decide (t < 4) && x_D sf p p2 (.istore_n (Fin.ofNat 4 t)) 1 else x_D sf p p2 (.istore t) 2)
    else if op = 4 then (if u = 0 then decide (t < 4) && x_D sf p p2 (.astore_n (Fin.ofNat 4 t)) 1 else x_D sf p p2 (.astore t) 2)
    else if op = 5 then x_D sf p p2 (.iinc t a) 3
    else if op = 6 then x_D sf p p2 .iadd 1
    else if op = 7 then x_D sf p p2 .isub 1
    else if op = 8 then x_D sf p p2 .imul 1
    else if op = 9 then x_D sf p p2 .irem 1
    else if op = 10 then x_D sf p p2 .ineg 1
    else if op = 11 then x_D sf p p2 .iand 1
    else if op = 12 then x_D sf p p2 .ior 1
    else if op = 13 then x_D sf p p2 .ishl 1
    else if op = 14 then x_D sf p p2 .ishr 1
    else if op = 15 then x_D sf p p2 (x_ifI u ((x_tp cd t : Int) - p)) 3
    else if op = 16 then x_D sf p p2 (x_icI u ((x_tp cd t : Int) - p)) 3
    else if op = 17 then x_is sf (.goto ((x_tp cd t : Int) - p)) 3
    else if op = 18 then x_D sf p p2 (.ifnull ((x_tp cd t : Int) - p)) 3
    else if op = 19 then x_D sf p p2 (.ifnonnull ((x_tp cd t : Int) - p)) 3
    else if op = 20 then x_D sf p p2 .aconst_null 1
    else if op = 21 then x_D sf p p2 .dup 1
    else if op = 22 then x_D sf p p2 .pop 1
    else if op = 23 then x_D sf p p2 .dup2 1
    else if op = 24 then x_ckF own t u .getfield sf p p2 && decide (xrf (t / 16) (t % 16) = false)
    else if op = 25 then x_ckF own t u .getfield sf p p2 && decide (xrf (t / 16) (t % 16) = true)
    else if op = 26 then x_ckF own t u .putfield sf p p2 && decide (xrf (t / 16) (t % 16) = false) && decide (((x_q (t / 16)).2.1 (t % 16)).2.2.1 = "I") && (decide (((x_q (t / 16)).2.1 (t % 16)).2.2.2 = false) || (decide (st = 2) && decide (((x_q (t / 16)).2.1 (t % 16)).1 = own)))
    else if op = 27 then x_ckF own t u .putfield sf p p2 && decide (xrf (t / 16) (t % 16) = true) && (decide (((x_q (t / 16)).2.1 (t % 16)).2.2.2 = false) || (decide (st = 2) && decide (((x_q (t / 16)).2.1 (t % 16)).1 = own)))
    else if op = 32 then x_ckF own t u .putfield sf p p2 && decide (xrf (t / 16) (t % 16) = false) && decide (((x_q (t / 16)).2.1 (t % 16)).2.2.1 = "Z") && decide (((x_q (t / 16)).2.1 (t % 16)).2.2.2 = false)
    else if op = 28 then x_D sf p p2 .iaload 1
    else if op = 29 then x_D sf p p2 .iastore 1
    else if op = 30 then x_D sf p p2 .aaload 1
    else if op = 31 then x_D sf p p2 .aastore 1
    else if op = 33 then x_D sf p p2 .baload 1
    else if op = 34 then x_D sf p p2 .bastore 1
    else if op = 35 then (match xcl[u]? with
      | some (pl, o, ix, cn) => decide (o = own) && decide (t < 8) && decide (cn = (x_q t).1) && x_D sf p p2 (.new ix) 3
      | none => false)
    else if op = 36 then x_D sf p p2 (.newarray .int) 2
    else if op = 37 then x_D sf p p2 (.newarray .boolean) 2
    else if op = 38 then (match xcl[u]? with
      | some (pl, o, ix, cn) => decide (o = own) && decide (10 ≤ t) && decide (t < 14) && decide (cn = ["WheelStands$Cart", "WheelStands$Stand", "WheelStands$Town", "WheelStands$Wheel"].getD (t - 10) "") && x_D sf p p2 (.anewarray ix) 3
      | none => false)
    else if op = 40 then x_ckL own t u .invokevirtual sf p p2 && decide (x_st t = 0) && decide (x_dp t + 1 ≤ dp) && decide (8 + (x_ml t + 11) + x_lc t ≤ lc)
    else if op = 41 then x_ckL own t u .invokestatic sf p p2 && decide (x_st t = 1) && decide (x_dp t + 1 ≤ dp) && decide (8 + (x_ml t + 11) + x_lc t ≤ lc)
    else if op = 42 then x_ckL own t u .invokespecial sf p p2 && decide (x_st t = 2) && decide (x_dp t + 1 ≤ dp) && decide (8 + (x_ml t + 11) + x_lc t ≤ lc)
    else if op = 56 then x_ckL own t u .invokestatic sf p p2 && decide (t = xprC ∨ t = xprM) && decide (x_st t = 1) && decide (x_dp t + 1 ≤ dp) && decide (8 + (x_ml t + 11) + x_lc t ≤ lc)
    else if op = 43 then x_wd u (.methodLink own t objectInit) && x_D sf p p2 (.invokespecial t) 3 && decide (1 ≤ dp) && decide (40 ≤ lc)
    else if op = 44 then x_wd u (.methodLink own t Lib.Math.max.name) && x_D sf p p2 (.invokestatic t) 3 && decide (1 ≤ dp) && decide (40 ≤ lc)
    else if op = 45 then x_wd u (.methodLink own t Lib.Math.min.name) && x_D sf p p2 (.invokestatic t) 3 && decide (1 ≤ dp) && decide (40 ≤ lc)
    else if op = 46 then x_wd u (.methodLink own t arraycopyName) && x_D sf p p2 (.invokestatic t) 3 && decide (1 ≤ dp) && decide (40 ≤ lc)
    else if op = 47 then (match xsw[u]? with
      | some ((d, lo, hi, offs, len), dt, ts) => decide (decode bw p = .ok (.tableswitch d lo hi offs, len)) && decide ((x_tp cd dt : Int) = p + d) && decide (offs.size = ts.length) && decide ((ts.length : Int) = hi - lo + 1) && (List.range ts.length).all (fun i => decide ((x_tp cd (ts.getD i 0) : Int) = p + offs.getD i 0))
      | none => false)
    else if op = 50 then x_is sf .ireturn 1 && decide (rt = 1)
    else if op = 51 then x_is sf .ireturn 1 && decide (rt = 2)
    else if op = 52 then x_is sf .areturn 1 && decide (3 ≤ rt)
    else if op = 53 then x_is sf .return_ 1 && decide (rt = 0)
    else if op = 54 then x_D sf p p2 .iaload 1 && decide (rk = 8)
    else if op = 55 then x_D sf p p2 .arraylength 1 && decide (rk = 8)
    else false
noncomputable def x_cki (me : XM) (sf : List UInt8) (n : xI) (p2 : Nat) : Bool := x_ckj me.1.cls me.2.2.1 me.2.2.2.1.1 me.2.2.2.1.2.1 me.2.2.2.2.1.2.1 me.2.2.2.2.1.2.2 me.2.2.2.2.2.2 (x_bw me) sf (x_dec n) p2
noncomputable def x_ckl (me : XM) : List UInt8 → List xI → Bool
  | _, [] => true
  | sf, n :: r => x_cki me sf n (x_dec (r.headD x_63)).2.2.2.2 && (r.isEmpty || decide ((x_dec n).2.2.2.2 ≤ (x_dec (r.headD x_63)).2.2.2.2)) && x_ckl me (sf.drop ((x_dec (r.headD x_63)).2.2.2.2 - (x_dec n).2.2.2.2)) r
/-- a method's own words -/
noncomputable def x_ckm (me : XM) : Bool := match me with
  | (nm, ml, rt, _, (np, st, rk), (pc, ps, psel, pin), _) =>
    (match (x_dr pc).head? with
      | some (.code nm2 _ ml2 ret2) => decide (nm2 = nm) && decide (ml2 = ml) && decide (ret2 = x_rty rt)
      | _ => false) && x_wd pin (.initialized nm.cls) && decide (nm.cls = (x_q rk).1) && decide (rk < 8) && decide (rt < 6) && decide (np ≤ ml) && plainName nm.cls
      && decide (nm.cls ≠ "java/lang/invoke/MethodHandle" ∧ nm.cls ≠ "java/lang/invoke/VarHandle")
      && (if st = 1 then x_wd ps (.static nm) && decide ((parseMethodDescriptor nm.desc).map (fun d => d.parameters.length) = some np)
          else decide (1 ≤ np) && x_wd ps (.instanceMethod nm) && decide ((parseMethodDescriptor nm.desc).map (fun d => d.parameters.length) = some (np - 1)) && (if st = 2 then decide (nm.name = "<init>") && decide (rt = 0) else decide (st = 0) && x_wd psel (.selects nm.cls nm nm)))
noncomputable def x_ckA (me : XM) : Bool := x_ckl me (x_bw me).data.toList me.2.2.2.2.2.2 && (me.2.2.2.2.2.2.isEmpty || decide ((x_dec (me.2.2.2.2.2.2.headD x_63)).2.2.2.2 = 0))
theorem x_flok : xfl.all (fun q => match q with | (pl, o, ix, c, j) => decide (c < 8) && decide (j < xnsl c) && decide (j < 16) && x_wd pl (.fieldLink o ix ((x_q c).2.1 j).1 ((x_q c).2.1 j).2.1 ((x_q c).2.1 j).2.2.1)) = true := by decide +kernel
theorem x_mlok : xml.all (fun q => match q with | (pl, o, ix, y) => x_wd pl (.methodLink o ix (x_nm y)) && decide (y < 181)) = true := by decide +kernel
theorem x_clok : xcl.all (fun q => match q with | (pl, o, ix, cn) => x_wd pl (.classLink o ix cn)) = true := by decide +kernel
theorem x_cnok : xcn.all (fun q => match q with | (pl, o, ix, v, _) => x_wd pl (.constant o ix v)) = true := by decide +kernel
theorem x_inok : (List.range 8).all (fun t => x_wd (xpin t) (.instantiable (x_q t).1 (xnsl t)) && x_wd (xpid t) (.initialized (x_q t).1)) = true := by decide +kernel
theorem x_jdk : (x_wd xp_oi (.instanceMethod objectInit) && x_wd xp_oc (.code objectInit ⟨#[0xb1]⟩ 1 none) && x_wd xp_maxs (.static Lib.Math.max.name) && x_wd xp_maxc (.code Lib.Math.max.name Lib.Math.max.code 2 (some .int)) && x_wd xp_mins (.static Lib.Math.min.name) && x_wd xp_minc (.code Lib.Math.min.name Lib.Math.min.code 2 (some .int)) && x_wd xp_mi (.initialized "java/lang/Math") && x_wd xp_si (.initialized "java/lang/System") && x_wd xp_an (.native arraycopyName) && x_wd xp_as (.static arraycopyName) && x_wd xp_ai (.arrayClass .int) && x_wd xp_ab (.arrayClass .boolean)) = true := by decide +kernel
theorem x_aok : (List.range 4).all (fun t => x_wd ([xp_o10, xp_o11, xp_o12, xp_o13].getD t 0) (.arrayOver (.object (["WheelStands$Cart", "WheelStands$Stand", "WheelStands$Town", "WheelStands$Wheel"].getD t "")))) = true := by decide +kernel
def x_ty (c j : Nat) : FieldType := if c = 0 then tyX0 j else if c = 1 then tyX1 j else if c = 2 then tyX2 j else if c = 3 then tyX3 j else if c = 4 then tyX4 j else if c = 5 then tyX5 j else if c = 6 then tyX6 j else tyX7 j
theorem x_layok : (List.range 8).all (fun c => (List.range (xnsl c)).all (fun j => x_wd ((xlay.getD c []).getD j 0) (u_lay (x_q c).1 (x_q c).2.1 j) && goodWord (u_lay (x_q c).1 (x_q c).2.1 j))) = true := by decide +kernel
theorem x_tyok : (List.range 8).all (fun c => decide ((x_q c).2.2 = xnsl c) && (List.range (xnsl c)).all (fun j => decide (parseFieldDescriptor ((x_q c).2.1 j).2.2.1 = some (x_ty c j)) && (if xrf c j = true then (match x_ty c j with | .object _ => true | .array _ => true | _ => false) else if ((x_q c).2.1 j).2.2.1 = "I" then decide (x_ty c j = .int) else decide (x_ty c j = .boolean)))) = true := by decide +kernel
end
section
theorem x_m0 : xmt0.all x_ckm = true := by sorry
theorem x_m1 : xmt1.all x_ckm = true := by sorry
theorem x_m2 : xmt2.all x_ckm = true := by sorry
theorem x_m3 : xmt3.all x_ckm = true := by sorry
theorem x_m4 : xmt4.all x_ckm = true := by sorry
theorem x_m5 : xmt5.all x_ckm = true := by sorry
theorem x_m6 : (xmt6.take 25).all x_ckm = true := by sorry
theorem x_a0 : xmt0.all x_ckA = true := by sorry
theorem x_a1 : xmt1.all x_ckA = true := by sorry
theorem x_a2 : xmt2.all x_ckA = true := by sorry
theorem x_a3 : xmt3.all x_ckA = true := by sorry
theorem x_a4 : xmt4.all x_ckA = true := by sorry
theorem x_a5 : xmt5.all x_ckA = true := by sorry
theorem x_a6 : (xmt6.take 25).all x_ckA = true := by sorry
theorem x_aL : (xmt6.drop 25).all x_ckA = true := by sorry
end
section
/-! WHAT THE CHECKS GIVE -/
theorem x_wdr (n : Nat) : x_dr n = lw_tbl.drop n := by
  induction n with
  | zero => rfl
  | succ n ih =>
    show (x_dr n).tail = _
    rw [ih, List.tail_drop]
theorem x_wd_ok {n : Nat} {w : Cond} (h : x_wd n w = true) : w ∈ lw_tbl := by
  have h1 : (x_dr n).head? = some w := of_decide_eq_true h
  rw [x_wdr, List.head?_drop] at h1
  exact List.mem_of_getElem? h1
theorem x_mdr (n : Nat) : x_md n = xmt.drop n := by
  induction n with
  | zero => rfl
  | succ n ih =>
    show (x_md n).tail = _
    rw [ih, List.tail_drop]
theorem x_len : xmt.length = 182 := by decide +kernel
theorem x_mem {y : Nat} (h : y < 182) : xmt[y]? = some (x_mi y) := by
  unfold x_mi
  rw [x_mdr, List.headD_eq_head?_getD, List.head?_drop]
  rw [List.getElem?_eq_getElem (by rw [x_len]; exact h)]
  rfl
theorem x_apart7 {q : XM → Bool} {y : Nat} (h : y < 182) (h0 : xmt0.all q = true) (h1 : xmt1.all q = true) (h2 : xmt2.all q = true) (h3 : xmt3.all q = true) (h4 : xmt4.all q = true) (h5 : xmt5.all q = true) (h6 : xmt6.all q = true) : q (x_mi y) = true := by
  have hm := List.mem_of_getElem? (x_mem h)
  unfold xmt at hm
  simp only [List.mem_append] at hm
  rcases hm with hm | hm | hm | hm | hm | hm | hm
  · exact List.all_eq_true.mp h0 _ hm
  · exact List.all_eq_true.mp h1 _ hm
  · exact List.all_eq_true.mp h2 _ hm
  · exact List.all_eq_true.mp h3 _ hm
  · exact List.all_eq_true.mp h4 _ hm
  · exact List.all_eq_true.mp h5 _ hm
  · exact List.all_eq_true.mp h6 _ hm
theorem x_ckA_ok {y : Nat} (h : y < 182) : x_ckA (x_mi y) = true := by
  refine x_apart7 h x_a0 x_a1 x_a2 x_a3 x_a4 x_a5 ?_
  rw [← List.take_append_drop 25 xmt6, List.all_append, x_a6, x_aL]
  rfl
theorem x_ckm_ok {y : Nat} (h : y < 181) : x_ckm (x_mi y) = true := by
  have h2 := x_mem (show y < 182 by omega)
  have e : xmt = (xmt0 ++ (xmt1 ++ (xmt2 ++ (xmt3 ++ (xmt4 ++ (xmt5 ++ (xmt6.take 25))))))) ++ xmt6.drop 25 := by
    unfold xmt
    simp only [List.append_assoc, List.take_append_drop]
  have hl : (xmt0 ++ (xmt1 ++ (xmt2 ++ (xmt3 ++ (xmt4 ++ (xmt5 ++ (xmt6.take 25))))))).length = 181 := by decide +kernel
  rw [e, List.getElem?_append_left (by rw [hl]; exact h)] at h2
  have hm := List.mem_of_getElem? h2
  simp only [List.mem_append] at hm
  rcases hm with hm | hm | hm | hm | hm | hm | hm
  · exact List.all_eq_true.mp x_m0 _ hm
  · exact List.all_eq_true.mp x_m1 _ hm
  · exact List.all_eq_true.mp x_m2 _ hm
  · exact List.all_eq_true.mp x_m3 _ hm
  · exact List.all_eq_true.mp x_m4 _ hm
  · exact List.all_eq_true.mp x_m5 _ hm
  · exact List.all_eq_true.mp x_m6 _ hm
theorem x_ckl_ok (me : XM) (bl : List UInt8) : ∀ (r : List xI) (p : Nat), (r = [] ∨ (x_dec (r.headD x_63)).2.2.2.2 = p) → x_ckl me (bl.drop p) r = true → ∀ k n, r[k]? = some n → x_cki me (bl.drop (x_dec n).2.2.2.2) n (x_dec (r.getD (k + 1) x_63)).2.2.2.2 = true := by
  intro r
  induction r with
  | nil => intro p _ _ k n h; simp at h
  | cons a r ih =>
    intro p hp hc k n hk
    have hp : (x_dec a).2.2.2.2 = p := by
      rcases hp with hp | hp
      · cases hp
      · exact hp
    have hc : (x_cki me (bl.drop p) a (x_dec (r.headD x_63)).2.2.2.2 && (r.isEmpty || decide ((x_dec a).2.2.2.2 ≤ (x_dec (r.headD x_63)).2.2.2.2)) && x_ckl me ((bl.drop p).drop ((x_dec (r.headD x_63)).2.2.2.2 - (x_dec a).2.2.2.2)) r) = true := hc
    simp only [Bool.and_eq_true] at hc
    obtain ⟨⟨h1, h2⟩, h3⟩ := hc
    cases k with
    | zero =>
      simp only [List.getElem?_cons_zero, Option.some.injEq] at hk
      subst hk
      rw [hp]
      have e : (a :: r).getD (0 + 1) x_63 = r.headD x_63 := by cases r <;> rfl
      rw [e]
      exact h1
    | succ k =>
      simp only [List.getElem?_cons_succ] at hk
      have hr : r ≠ [] := by intro q; rw [q] at hk; simp at hk
      have h2 : (x_dec a).2.2.2.2 ≤ (x_dec (r.headD x_63)).2.2.2.2 := by
        simp only [Bool.or_eq_true, List.isEmpty_iff, decide_eq_true_eq] at h2
        exact h2.resolve_left hr
      rw [List.drop_drop, show p + ((x_dec (r.headD x_63)).2.2.2.2 - (x_dec a).2.2.2.2) = (x_dec (r.headD x_63)).2.2.2.2 by omega] at h3
      have := ih _ (Or.inr rfl) h3 k n hk
      have e : (a :: r).getD (k + 1 + 1) x_63 = r.getD (k + 1) x_63 := rfl
      rw [e]
      exact this
theorem x_ck {y k : Nat} (hy : y < 182) (hk : k < (x_cd y).length) : x_ckj (x_nm y).cls (x_rt y) (x_dp y) (x_lc y) (x_st y) (x_rk y) (x_cd y) (x_by y) ((x_by y).data.toList.drop (x_pc y k)) (x_in y k) (x_pc y (k + 1)) = true := by
  have h := x_ckA_ok hy
  unfold x_ckA at h
  simp only [Bool.and_eq_true, Bool.or_eq_true, List.isEmpty_iff, decide_eq_true_eq] at h
  obtain ⟨h1, h2⟩ := h
  have hg : (x_cd y)[k]? = some ((x_cd y).getD k x_63) := by
    rw [List.getD_eq_getElem?_getD, List.getElem?_eq_getElem hk]
    rfl
  have h3 := x_ckl_ok (x_mi y) (x_bw (x_mi y)).data.toList (x_mi y).2.2.2.2.2.2 0 h2 (by rw [List.drop_zero]; exact h1) k _ hg
  exact h3
theorem x_D_ok {bw : ByteArray} {p p2 len : Nat} {i : Instr} (h : x_D (bw.data.toList.drop p) p p2 i len = true) : decode bw p = .ok (i, len) ∧ p2 = p + len := by
  unfold x_D at h
  simp only [Bool.and_eq_true, decide_eq_true_eq] at h
  exact ⟨x_is_ok h.1, h.2⟩
end
section
/-! THE WORLD AS THE INTERPRETER SEES IT -/
def x_rf (L : List Nat) (r : Int) : Option Nat := if r < 0 then none else some (L.getD r.toNat 0)
def x_conc (bs : Nat) (L : List Nat) : xV → Value
  | .inl i => .int (Int32.ofInt i)
  | .inr r => if r = -2 then .ref bs else va_rf (x_rf L r)
def x_fv (L : List Nat) (h : xH) (a : Int) (c j : Nat) : Value := if xrf c j = true then va_rf (x_rf L (h.2.1 a j)) else .int (Int32.ofInt (h.2.2 a j))
def x_fs (L : List Nat) (h : xH) (a : Int) (c : Nat) : List Value := (List.range (xnsl c)).map (fun j => x_fv L h a c j)
def x_ent (cy : Nat → ClassId) (L : List Nat) (h : xH) (a : Int) : va_E := if x_kd a < 8 then .inr (x_kd a, x_fs L h a (x_kd a)) else if x_kd a < 10 then .inl (cy (x_kd a), (x_ln a).toNat, .inl (fun j => Int32.ofInt (h.2.2 a j))) else .inl (cy (x_kd a), (x_ln a).toNat, .inr (.inr (.inr (.inr (fun j => x_rf L (h.2.1 a j))))))
def x_ws (cy : Nat → ClassId) (L : List Nat) (h : xH) : va_W := (List.range L.length).map (fun k => (L.getD k 0, x_ent cy L h k))
def x_tys (cy : Nat → ClassId) : List (ClassId × FieldType) := [(cy 8, .int), (cy 9, .boolean), (cy 10, .object "WheelStands$Cart"), (cy 11, .object "WheelStands$Stand"), (cy 12, .object "WheelStands$Town"), (cy 13, .object "WheelStands$Wheel")]
def x_aos : List String := ["WheelStands$Cart", "WheelStands$Stand", "WheelStands$Town", "WheelStands$Wheel"]
def x_in32 (i : Int) : Prop := -2147483648 ≤ i ∧ i < 2147483648
def x_okv (z : Int) : xV → Prop
  | .inl i => x_in32 i
  | .inr r => r < z
def x_Vw (D : va_G) (cy : Nat → ClassId) (A : Nat → Prop) (L : List Nat) (h : xH) (H : Heap) : Prop := (L.length : Int) = h.1 ∧ (∀ a k, x_in32 (h.2.2 a k)) ∧ (∀ a k, -1 ≤ h.2.1 a k ∧ h.2.1 a k < h.1) ∧ va_P D vwCl (x_ws cy L h) H ∧ va_D A (x_ws cy L h)
def x_lr (bs : Nat) (L : List Nat) (ls : Array Slot) (nL : Nat) (als : List xV) : Prop := ls.size = nL ∧ lv_wf ls ∧ als.length = nL ∧ ∀ (i : Nat) (v : xV), als[i]? = some v → v ≠ x_un → ls[i]? = some (Slot.val (x_conc bs L v))
def x_ext (L L' : List Nat) : Prop := ∃ t, L' = L ++ t
def x_Scr (s : State) (A : Nat → Prop) (bs : Nat) (h : xH) : Prop := ∃ (N : Nat) (xs : Nat → Int32), va_X bs N xs s s.heap ∧ bs < s.heap.size ∧ ¬ A bs ∧ (∀ j : Nat, j < N → h.2.2 (-2) j = (xs j).toInt) ∧ h.2.2 (-2) (-1) = N ∧ N < 2147483648
def x_Fr (p : Program) (R : Room) (s : State) (m : MethodId) (args : Array Value) (meth : Method) (c : Code) (D : va_G) (cy : Nat → ClassId) (A : Nat → Prop) (y : Nat) : Prop :=
  y < 182 ∧ p.tables.exec = Jvm.exec ∧ c.code = x_by y ∧ c.maxLocals = x_ml y ∧ s.vm.findClass (x_nm y).cls = some m.cls ∧ (∀ w ∈ lw_tbl, goodWord w = true → w.before args s = true) ∧ (x_st y = 2 → meth.name = "<init>") ∧ va_K D vwCl (x_tys cy) s ∧ (∀ C ∈ x_aos, va_AO C s) ∧ x_dp y ≤ R.frames ∧ x_lc y ≤ R.locals ∧ (∀ q : Nat, s.heap.size ≤ q → A q)
def x_St (s : State) (D : va_G) (cy : Nat → ClassId) (A : Nat → Prop) (bs y CC SS : Nat) (L : List Nat) (h : xH) (H : Heap) (locs : List Loc) (ls : Array Slot) (als ast : List xV) (b : xB) (cells slots : Nat) : Prop :=
  x_Vw D cy A L h H ∧ va_S A s.heap H locs ∧ x_lr bs L ls (x_ml y) als ∧ (∀ v ∈ als, x_okv h.1 v) ∧ (∀ v ∈ ast, x_okv h.1 v) ∧ cells + b.1 = CC ∧ slots + b.2 = SS
/-! numbers -/
theorem x_toInt {i : Int} (h : x_in32 i) : (Int32.ofInt i).toInt = i := Int32.toInt_ofInt_of_le (by have := h.1; simpa using this) (by have := h.2; simpa using this)
theorem x_of (v : Int32) : Int32.ofInt v.toInt = v := Int32.ofInt_toInt v
theorem x_in32_t (v : Int32) : x_in32 v.toInt := ⟨by have := Int32.le_toInt v; simpa using this, by have := Int32.toInt_lt v; simpa using this⟩
theorem x_w_in (x : Int) : x_in32 (x_w x) := by
  unfold x_in32 x_w
  omega
theorem x_w_of (x : Int) : Int32.ofInt (x_w x) = Int32.ofInt x := by
  apply Int32.toInt_inj.mp
  rw [x_toInt (x_w_in x), Int32.toInt_ofInt]
  have e : ((Int32.size : Nat) : Int) = 4294967296 := rfl
  unfold x_w
  rw [Int.bmod_def, e]
  omega
theorem x_w_eq {x : Int} (h : x_in32 x) : x_w x = x := by
  unfold x_in32 at h
  unfold x_w
  omega
theorem x_add (i j : Int) : Int32.ofInt i + Int32.ofInt j = Int32.ofInt (x_w (i + j)) := by
  rw [x_w_of, Int32.ofInt_add]
theorem x_sub (i j : Int) : Int32.ofInt i - Int32.ofInt j = Int32.ofInt (x_w (i - j)) := by
  rw [x_w_of, Int32.ofInt_sub]
theorem x_mul (i j : Int) : Int32.ofInt i * Int32.ofInt j = Int32.ofInt (x_w (i * j)) := by
  rw [x_w_of, Int32.ofInt_mul]
theorem x_neg (i : Int) : -Int32.ofInt i = Int32.ofInt (x_w (-i)) := by
  rw [x_w_of, Int32.ofInt_neg]
theorem x_lt {i j : Int} (hi : x_in32 i) (hj : x_in32 j) : Int32.ofInt i < Int32.ofInt j ↔ i < j := by
  rw [Int32.lt_iff_toInt_lt, x_toInt hi, x_toInt hj]
theorem x_le {i j : Int} (hi : x_in32 i) (hj : x_in32 j) : Int32.ofInt i ≤ Int32.ofInt j ↔ i ≤ j := by
  rw [Int32.le_iff_toInt_le, x_toInt hi, x_toInt hj]
theorem x_eqi {i j : Int} (hi : x_in32 i) (hj : x_in32 j) : Int32.ofInt i = Int32.ofInt j ↔ i = j := by
  rw [← Int32.toInt_inj, x_toInt hi, x_toInt hj]
theorem x_zero : x_in32 0 := by unfold x_in32; omega
theorem x_of0 : Int32.ofInt 0 = 0 := rfl
theorem x_clamp {i : Int} (h : x_in32 i) : (Int32.ofInt i).toNatClampNeg = i.toNat := by
  show (Int32.ofInt i).toInt.toNat = _
  rw [x_toInt h]
theorem x_vpin {i n : Int} (h : x_in32 i) (h0 : 0 ≤ i) (h1 : i < n) : vp_in (Int32.ofInt i) n.toNat := by
  rw [vp_in_iff, x_toInt h]
  omega
/-! references -/
theorem x_getD_ext {L t : List Nat} {k : Nat} (h : k < L.length) : (L ++ t).getD k 0 = L.getD k 0 := by
  simp [List.getD_eq_getElem?_getD, List.getElem?_append_left h]
theorem x_rf_ext {L t : List Nat} {r : Int} (h : r < L.length) : x_rf (L ++ t) r = x_rf L r := by
  unfold x_rf
  by_cases q : r < 0
  · rw [if_pos q, if_pos q]
  · rw [if_neg q, if_neg q, x_getD_ext (by omega)]
theorem x_conc_ext {bs : Nat} {L L' : List Nat} {z : Int} {v : xV} (hz : (L.length : Int) = z) (he : x_ext L L') (h : x_okv z v) : x_conc bs L' v = x_conc bs L v := by
  obtain ⟨t, rfl⟩ := he
  cases v with
  | inl i => rfl
  | inr r =>
    show (if r = -2 then _ else va_rf (x_rf (L ++ t) r)) = if r = -2 then _ else va_rf (x_rf L r)
    rw [x_rf_ext (by rw [hz]; exact h)]
theorem x_map_ext {bs : Nat} {L L' : List Nat} {z : Int} {vs : List xV} (hz : (L.length : Int) = z) (he : x_ext L L') (h : ∀ v ∈ vs, x_okv z v) : vs.map (x_conc bs L') = vs.map (x_conc bs L) :=
  List.map_congr_left fun v hv => x_conc_ext hz he (h v hv)
theorem x_ext_rf (L : List Nat) : x_ext L L := ⟨[], by simp⟩
theorem x_ext_tr {L L1 L2 : List Nat} (h : x_ext L L1) (h2 : x_ext L1 L2) : x_ext L L2 := by
  obtain ⟨t, rfl⟩ := h
  obtain ⟨u, rfl⟩ := h2
  exact ⟨t ++ u, by simp⟩
theorem x_cat (bs : Nat) (L : List Nat) (v : xV) : (x_conc bs L v).category = 1 := by
  cases v with
  | inl i => rfl
  | inr r =>
    show (if r = -2 then Value.ref bs else va_rf (x_rf L r)).category = 1
    by_cases q : r = -2
    · rw [if_pos q]; rfl
    · rw [if_neg q]
      cases x_rf L r <;> rfl
theorem x_ref {bs : Nat} {L : List Nat} {r : Int} (h : 0 ≤ r) : x_conc bs L (.inr r) = .ref (L.getD r.toNat 0) := by
  show (if r = -2 then _ else va_rf (x_rf L r)) = _
  rw [if_neg (by omega)]
  unfold x_rf
  rw [if_neg (by omega)]
  rfl
theorem x_null {bs : Nat} {L : List Nat} {r : Int} (h : r < 0) (h2 : r ≠ -2) : x_conc bs L (.inr r) = .null := by
  show (if r = -2 then _ else va_rf (x_rf L r)) = _
  rw [if_neg h2]
  unfold x_rf
  rw [if_pos h]
  rfl
/-! the cells -/
theorem x_ws_get {cy : Nat → ClassId} {L : List Nat} {h : xH} {r : Int} (h0 : 0 ≤ r) (h1 : r < L.length) : (x_ws cy L h)[r.toNat]? = some (L.getD r.toNat 0, x_ent cy L h r) := by
  unfold x_ws
  rw [List.getElem?_map, List.getElem?_range (by omega)]
  show some (_, x_ent cy L h ((r.toNat : Nat) : Int)) = _
  rw [Int.toNat_of_nonneg h0]
theorem x_ws_set {cy : Nat → ClassId} {L : List Nat} {h h' : xH} {r : Int} {e : va_E} (h0 : 0 ≤ r) (h1 : r < L.length) (he : x_ent cy L h' r = e) (ho : ∀ q : Int, q ≠ r → x_ent cy L h' q = x_ent cy L h q) : (x_ws cy L h).set r.toNat (L.getD r.toNat 0, e) = x_ws cy L h' := by
  apply List.ext_getElem?
  intro k
  by_cases hk : k = r.toNat
  · subst hk
    rw [List.getElem?_set_self (by simp [x_ws]; omega), x_ws_get h0 h1, he]
  · rw [List.getElem?_set_ne (fun q => hk q.symm)]
    unfold x_ws
    rw [List.getElem?_map, List.getElem?_map]
    by_cases hl : k < L.length
    · rw [List.getElem?_range hl]
      simp only [Option.map_some]
      rw [ho k (by omega)]
    · rw [List.getElem?_eq_none (by simp; omega)]
      rfl
theorem x_ent_obj {cy : Nat → ClassId} {L : List Nat} {h : xH} {r : Int} {c : Nat} (hk : x_kd r = c) (hc : c < 8) : x_ent cy L h r = .inr (c, x_fs L h r c) := by
  unfold x_ent
  rw [hk, if_pos hc]
theorem x_ent_int {cy : Nat → ClassId} {L : List Nat} {h : xH} {r : Int} {c : Nat} (hk : x_kd r = c) (hc : ¬ c < 8) (hc2 : c < 10) : x_ent cy L h r = .inl (cy c, (x_ln r).toNat, .inl (fun j => Int32.ofInt (h.2.2 r j))) := by
  unfold x_ent
  rw [hk, if_neg hc, if_pos hc2]
theorem x_ent_ref {cy : Nat → ClassId} {L : List Nat} {h : xH} {r : Int} {c : Nat} (hk : x_kd r = c) (hc2 : ¬ c < 10) : x_ent cy L h r = .inl (cy c, (x_ln r).toNat, .inr (.inr (.inr (.inr (fun j => x_rf L (h.2.1 r j)))))) := by
  unfold x_ent
  rw [hk, if_neg (by omega), if_neg hc2]
theorem x_fs_get {L : List Nat} {h : xH} {a : Int} {c j : Nat} (hj : j < xnsl c) : (x_fs L h a c)[j]? = some (x_fv L h a c j) := by
  unfold x_fs
  rw [List.getElem?_map, List.getElem?_range hj]
  rfl
theorem x_fs_set {L : List Nat} {h h' : xH} {a : Int} {c j : Nat} {v : Value} (hj : j < xnsl c) (hv : x_fv L h' a c j = v) (ho : ∀ i, i ≠ j → x_fv L h' a c i = x_fv L h a c i) : (x_fs L h a c).set j v = x_fs L h' a c := by
  apply List.ext_getElem?
  intro k
  by_cases hk : k = j
  · subst hk
    rw [List.getElem?_set_self (by simp [x_fs]; exact hj), x_fs_get hj, hv]
  · rw [List.getElem?_set_ne (fun q => hk q.symm)]
    unfold x_fs
    rw [List.getElem?_map, List.getElem?_map]
    by_cases hl : k < xnsl c
    · rw [List.getElem?_range hl]
      simp only [Option.map_some]
      rw [ho k hk]
    · rw [List.getElem?_eq_none (by simp; omega)]
      rfl
theorem x_ok_ok {z r : Int} {c : Nat} (h : x_ok z r c = true) : 0 ≤ r ∧ r < z ∧ x_kd r = c := by
  unfold x_ok at h
  simp only [Bool.and_eq_true, decide_eq_true_eq] at h
  exact ⟨h.1.1, h.1.2, h.2⟩
/-! the locals -/
def x_lvs (bs : Nat) (L : List Nat) (als : List xV) : List (Nat × Value) := (als.zipIdx.filter (fun q => decide (q.1 ≠ x_un))).map (fun q => (q.2, x_conc bs L q.1))
theorem x_lvs_mem {bs : Nat} {L : List Nat} {als : List xV} {i : Nat} {w : Value} : (i, w) ∈ x_lvs bs L als ↔ ∃ v, als[i]? = some v ∧ v ≠ x_un ∧ w = x_conc bs L v := by
  unfold x_lvs
  simp only [List.mem_map, List.mem_filter, decide_eq_true_eq, Prod.mk.injEq, Prod.exists]
  constructor
  · rintro ⟨v, j, ⟨h1, h2⟩, rfl, rfl⟩
    exact ⟨v, List.mem_zipIdx_iff_getElem?.mp h1, h2, rfl⟩
  · rintro ⟨v, h1, h2, rfl⟩
    exact ⟨v, i, ⟨List.mem_zipIdx_iff_getElem?.mpr h1, h2⟩, rfl, rfl⟩
theorem x_lr_has {bs : Nat} {L : List Nat} {ls : Array Slot} {nL : Nat} {als : List xV} (h : x_lr bs L ls nL als) : lv_has ls nL (x_lvs bs L als) := by
  refine ⟨h.1, h.2.1, fun q hq => ?_⟩
  obtain ⟨i, w⟩ := q
  obtain ⟨v, h1, h2, rfl⟩ := x_lvs_mem.mp hq
  exact h.2.2.2 i v h1 h2
theorem x_lr_set {bs : Nat} {L : List Nat} {ls ls' : Array Slot} {nL i : Nat} {als : List xV} {v : xV} (h : x_lr bs L ls nL als) (hi : i < als.length) (h' : lv_has ls' nL ((i, x_conc bs L v) :: (x_lvs bs L als).filter (fun q => !(q.1 == i) && !(q.1 + 1 == i && q.2.category == 2)))) : x_lr bs L ls' nL (als.set i v) := by
  refine ⟨h'.1, h'.2.1, by rw [List.length_set]; exact h.2.2.1, fun j w hj hw => ?_⟩
  by_cases q : j = i
  · subst q
    rw [List.getElem?_set_self hi] at hj
    cases hj
    exact h'.2.2 (j, _) List.mem_cons_self
  · rw [List.getElem?_set_ne (fun z => q z.symm)] at hj
    refine h'.2.2 (j, x_conc bs L w) (List.mem_cons_of_mem _ (List.mem_filter.mpr ⟨x_lvs_mem.mpr ⟨w, hj, hw, rfl⟩, ?_⟩))
    simp [q, x_cat]
theorem x_lr_at {bs : Nat} {L : List Nat} {ls : Array Slot} {nL i : Nat} {als : List xV} {v : xV} (h : x_lr bs L ls nL als) (hi : als[i]? = some v) (hv : v ≠ x_un) : ls[i]? = some (.val (x_conc bs L v)) := h.2.2.2 i v hi hv
theorem x_lr_ext {bs : Nat} {L L' : List Nat} {ls : Array Slot} {nL : Nat} {als : List xV} {z : Int} (hz : (L.length : Int) = z) (he : x_ext L L') (ho : ∀ v ∈ als, x_okv z v) (h : x_lr bs L ls nL als) : x_lr bs L' ls nL als :=
  ⟨h.1, h.2.1, h.2.2.1, fun i v hi hv => by rw [x_conc_ext hz he (ho v (List.mem_of_getElem? hi))]; exact h.2.2.2 i v hi hv⟩
end
section
/-! ONE INSTRUCTION OF THE INTERPRETER IS ONE OF THE MACHINE: those that leave the heap -/
section
variable {p : Program} {l : Launch} {e : Env} {R : Room} {s : State} {m : MethodId} {args : Array Value} {below : List Frame} {meth : Method} {c : Code} {Q : State → Prop}
variable {D : va_G} {cy : Nat → ClassId} {A : Nat → Prop} {bs y CC SS : Nat} {L : List Nat} {h : xH} {H : Heap} {locs : List Loc} {ls : Array Slot} {als ast : List xV} {b : xB} {cells slots k : Nat}
variable {a : Int} {t u pc p2 : Nat} {c' : xC}
/-- what comes behind an instruction -/
def x_K (p : Program) (l : Launch) (e : Env) (R : Room) (s : State) (m : MethodId) (args : Array Value) (below : List Frame) (meth : Method) (c : Code) (Q : State → Prop) (D : va_G) (cy : Nat → ClassId) (A : Nat → Prop) (bs y CC SS : Nat) (L : List Nat) (c' : xC) : Prop :=
  ∀ (L' : List Nat) (H' : Heap) (locs' : List Loc) (ls' : Array Slot) (cells' slots' : Nat), x_ext L L' → x_St s D cy A bs y CC SS L' c'.2.2.2.2 H' locs' ls' c'.2.1 c'.2.2.1 c'.2.2.2.1 cells' slots' → W p l e R s m args below meth c H' locs' cells' slots' Q (F0 m (x_pc y c'.1) ls' (c'.2.2.1.map (x_conc bs L')))
def x_Ck (y k op : Nat) (a : Int) (t u pc : Nat) : Prop := x_ckj (x_nm y).cls (x_rt y) (x_dp y) (x_lc y) (x_st y) (x_rk y) (x_cd y) (x_by y) ((x_by y).data.toList.drop pc) (op, a, t, u, pc) (x_pc y (k + 1)) = true
theorem x_St.stk (S : x_St s D cy A bs y CC SS L h H locs ls als ast b cells slots) {ast' : List xV} (ho : ∀ v ∈ ast', x_okv h.1 v) : x_St s D cy A bs y CC SS L h H locs ls als ast' b cells slots := ⟨S.1, S.2.1, S.2.2.1, S.2.2.2.1, ho, S.2.2.2.2.2⟩
theorem x_cons {z : Int} {v : xV} {st : List xV} (h1 : x_okv z v) (h2 : ∀ w ∈ st, x_okv z w) : ∀ w ∈ v :: st, x_okv z w := fun w hw => by
  rcases List.mem_cons.mp hw with rfl | hw
  · exact h1
  · exact h2 w hw
theorem x_tls {z : Int} {v : xV} {st : List xV} (h : ∀ w ∈ v :: st, x_okv z w) : ∀ w ∈ st, x_okv z w := fun w hw => h w (List.mem_cons_of_mem _ hw)
theorem x_hd {z : Int} {v : xV} {st : List xV} (h : ∀ w ∈ v :: st, x_okv z w) : x_okv z v := h v List.mem_cons_self

theorem x_s0 (F : x_Fr p R s m args meth c D cy A y) (C : x_Ck y k 0 a t u pc) (S : x_St s D cy A bs y CC SS L h H locs ls als ast b cells slots) (hst : x_stp (0, a, t, u, pc) k als ast b h = some c') (kk : x_K p l e R s m args below meth c Q D cy A bs y CC SS L c') : W p l e R s m args below meth c H locs cells slots Q (F0 m pc ls (ast.map (x_conc bs L))) := by
  have C : ((if u = 0 then x_D ((x_by y).data.toList.drop pc) pc (x_pc y (k + 1)) (.iconst a) 1 else if u = 1 then x_D ((x_by y).data.toList.drop pc) pc (x_pc y (k + 1)) (.bipush a) 2 && decide (-128 ≤ a) && decide (a < 128) else if u = 2 then x_D ((x_by y).data.toList.drop pc) pc (x_pc y (k + 1)) (.sipush a) 3 && decide (-32768 ≤ a) && decide (a < 32768)
      else (match xcn[u - 3]? with
        | some (pl, o, ix, v, w) => decide (o = (x_nm y).cls) && decide (v = Int32.ofInt a) && (if w = 1 then x_D ((x_by y).data.toList.drop pc) pc (x_pc y (k + 1)) (.ldc_w ix) 3 else x_D ((x_by y).data.toList.drop pc) pc (x_pc y (k + 1)) (.ldc ix) 2)
        | none => false)) && decide (-2147483648 ≤ a) && decide (a < 2147483648)) = true := C
  simp only [Bool.and_eq_true, decide_eq_true_eq] at C
  obtain ⟨⟨C, r1⟩, r2⟩ := C
  cases (show some (k + 1, als, .inl a :: ast, b, h) = some c' from hst)
  obtain ⟨hy, hx, hb, hml, hown, hts, -⟩ := F
  have K := kk L H locs ls cells slots (x_ext_rf L) (S.stk (x_cons (show x_in32 a from ⟨r1, r2⟩) S.2.2.2.2.1))
  by_cases h0 : u = 0
  · rw [if_pos h0] at C
    obtain ⟨hd, hp⟩ := x_D_ok C
    refine lv_iconst hx hb hd rfl (W.eq ?_ K)
    show F0 m (pc + 1) ls _ = F0 m (x_pc y (k + 1)) ls _
    rw [hp]
    rfl
  rw [if_neg h0] at C
  by_cases h1 : u = 1
  · rw [if_pos h1] at C
    simp only [Bool.and_eq_true, decide_eq_true_eq] at C
    obtain ⟨⟨C, q1⟩, q2⟩ := C
    obtain ⟨hd, hp⟩ := x_D_ok C
    refine lv_bipush hx hb hd rfl (W.eq ?_ K)
    have ev : (Int8.ofInt a).toInt32 = Int32.ofInt a := by
      apply Int32.toInt_inj.mp
      rw [Int8.toInt_toInt32, x_toInt ⟨r1, r2⟩]
      exact Int8.toInt_ofInt_of_le (by simpa using q1) (by simpa using q2)
    rw [ev]
    show F0 m (pc + 2) ls _ = F0 m (x_pc y (k + 1)) ls _
    rw [hp]
    rfl
  rw [if_neg h1] at C
  by_cases h2 : u = 2
  · rw [if_pos h2] at C
    simp only [Bool.and_eq_true, decide_eq_true_eq] at C
    obtain ⟨⟨C, q1⟩, q2⟩ := C
    obtain ⟨hd, hp⟩ := x_D_ok C
    refine lv_sipush hx hb hd rfl (W.eq ?_ K)
    have ev : (Int16.ofInt a).toInt32 = Int32.ofInt a := by
      apply Int32.toInt_inj.mp
      rw [Int16.toInt_toInt32, x_toInt ⟨r1, r2⟩]
      exact Int16.toInt_ofInt_of_le (by simpa using q1) (by simpa using q2)
    rw [ev]
    show F0 m (pc + 3) ls _ = F0 m (x_pc y (k + 1)) ls _
    rw [hp]
    rfl
  rw [if_neg h2] at C
  cases hc : xcn[u - 3]? with
  | none => rw [hc] at C; cases C
  | some q =>
    obtain ⟨pl, o, ix, v, w⟩ := q
    rw [hc] at C
    simp only [Bool.and_eq_true, decide_eq_true_eq] at C
    obtain ⟨⟨rfl, rfl⟩, C⟩ := C
    have hw : x_wd pl (.constant (x_nm y).cls ix (Int32.ofInt a)) = true := List.all_eq_true.mp x_cnok _ (List.mem_of_getElem? hc)
    have hk := hts _ (x_wd_ok hw) rfl
    by_cases h3 : w = 1
    · rw [if_pos h3] at C
      obtain ⟨hd, hp⟩ := x_D_ok C
      refine lv_ldcw hx hb hown hk hd (W.eq ?_ K)
      show F0 m (pc + 3) ls _ = F0 m (x_pc y (k + 1)) ls _
      rw [hp]
      rfl
    · rw [if_neg h3] at C
      obtain ⟨hd, hp⟩ := x_D_ok C
      refine lv_ldc hx hb hown hk hd (W.eq ?_ K)
      show F0 m (pc + 2) ls _ = F0 m (x_pc y (k + 1)) ls _
      rw [hp]
      rfl

theorem x_s1 (F : x_Fr p R s m args meth c D cy A y) (C : x_Ck y k 1 a t u pc) (S : x_St s D cy A bs y CC SS L h H locs ls als ast b cells slots) (hst : x_stp (1, a, t, u, pc) k als ast b h = some c') (kk : x_K p l e R s m args below meth c Q D cy A bs y CC SS L c') : W p l e R s m args below meth c H locs cells slots Q (F0 m pc ls (ast.map (x_conc bs L))) := by
  have C : (if u = 0 then decide (t < 4) && x_D ((x_by y).data.toList.drop pc) pc (x_pc y (k + 1)) (.iload_n (Fin.ofNat 4 t)) 1 else x_D ((x_by y).data.toList.drop pc) pc (x_pc y (k + 1)) (.iload t) 2) = true := C
  have hs : (match (generalizing := false) als[t]? with | some (.inl v) => some (k + 1, als, .inl v :: ast, b, h) | _ => none) = some c' := hst
  split at hs
  · rename_i v hv
    cases hs
    obtain ⟨hy, hx, hb, hml, hown, hts, -⟩ := F
    have hl : ls[t]? = some (.val (.int (Int32.ofInt v))) := x_lr_at S.2.2.1 hv (by intro q; cases q)
    have K := kk L H locs ls cells slots (x_ext_rf L) (S.stk (x_cons (S.2.2.2.1 _ (List.mem_of_getElem? hv)) S.2.2.2.2.1))
    by_cases h0 : u = 0
    · rw [if_pos h0] at C
      simp only [Bool.and_eq_true, decide_eq_true_eq] at C
      obtain ⟨hd, hp⟩ := x_D_ok C.2
      refine lv_iload_n hx hb hd (show t % 4 = t from Nat.mod_eq_of_lt C.1) hl (W.eq ?_ K)
      show F0 m (pc + 1) ls _ = F0 m (x_pc y (k + 1)) ls _
      rw [hp]
      rfl
    · rw [if_neg h0] at C
      obtain ⟨hd, hp⟩ := x_D_ok C
      refine lv_iload hx hb hd hl (W.eq ?_ K)
      show F0 m (pc + 2) ls _ = F0 m (x_pc y (k + 1)) ls _
      rw [hp]
      rfl
  · cases hs

theorem x_s2 (F : x_Fr p R s m args meth c D cy A y) (C : x_Ck y k 2 a t u pc) (S : x_St s D cy A bs y CC SS L h H locs ls als ast b cells slots) (hst : x_stp (2, a, t, u, pc) k als ast b h = some c') (kk : x_K p l e R s m args below meth c Q D cy A bs y CC SS L c') : W p l e R s m args below meth c H locs cells slots Q (F0 m pc ls (ast.map (x_conc bs L))) := by
  have C : (if u = 0 then decide (t < 4) && x_D ((x_by y).data.toList.drop pc) pc (x_pc y (k + 1)) (.aload_n (Fin.ofNat 4 t)) 1 else x_D ((x_by y).data.toList.drop pc) pc (x_pc y (k + 1)) (.aload t) 2) = true := C
  have hs : (match (generalizing := false) als[t]? with | some (.inr v) => if -2 ≤ v then some (k + 1, als, .inr v :: ast, b, h) else none | _ => none) = some c' := hst
  split at hs
  · rename_i v hv
    split at hs
    · rename_i hv2
      cases hs
      obtain ⟨hy, hx, hb, hml, hown, hts, -⟩ := F
      have hl : ls[t]? = some (.val (x_conc bs L (.inr v))) := x_lr_at S.2.2.1 hv (by intro q; unfold x_un at q; cases q; omega)
      have K := kk L H locs ls cells slots (x_ext_rf L) (S.stk (x_cons (S.2.2.2.1 _ (List.mem_of_getElem? hv)) S.2.2.2.2.1))
      have e : ∃ r : Option Nat, x_conc bs L (.inr v) = va_rf r := by
        by_cases q : v = -2
        · exact ⟨some bs, if_pos q⟩
        · exact ⟨_, if_neg q⟩
      obtain ⟨r, er⟩ := e
      rw [er] at hl
      by_cases h0 : u = 0
      · rw [if_pos h0] at C
        simp only [Bool.and_eq_true, decide_eq_true_eq] at C
        obtain ⟨hd, hp⟩ := x_D_ok C.2
        have K2 : W p l e R s m args below meth c H locs cells slots Q (F0 m (pc + 1) ls (va_rf r :: ast.map (x_conc bs L))) := W.eq (by show F0 m (pc + 1) ls _ = F0 m (x_pc y (k + 1)) ls (x_conc bs L (.inr v) :: _); rw [hp, er]) K
        cases r with
        | none => exact lv_aload_nN hx hb hd (show t % 4 = t from Nat.mod_eq_of_lt C.1) hl K2
        | some r => exact lv_aload_n hx hb hd (show t % 4 = t from Nat.mod_eq_of_lt C.1) hl K2
      · rw [if_neg h0] at C
        obtain ⟨hd, hp⟩ := x_D_ok C
        have K2 : W p l e R s m args below meth c H locs cells slots Q (F0 m (pc + 2) ls (va_rf r :: ast.map (x_conc bs L))) := W.eq (by show F0 m (pc + 2) ls _ = F0 m (x_pc y (k + 1)) ls (x_conc bs L (.inr v) :: _); rw [hp, er]) K
        cases r with
        | none => exact lv_aloadN hx hb hd hl K2
        | some r => exact lv_aload hx hb hd hl K2
    · cases hs
  · cases hs

theorem x_St.loc (S : x_St s D cy A bs y CC SS L h H locs ls als ast b cells slots) {i : Nat} {v : xV} {ast' : List xV} {ls' : Array Slot} (hi : i < als.length) (hv : x_okv h.1 v) (ho : ∀ w ∈ ast', x_okv h.1 w) (h' : lv_has ls' (x_ml y) ((i, x_conc bs L v) :: (x_lvs bs L als).filter (fun q => !(q.1 == i) && !(q.1 + 1 == i && q.2.category == 2)))) : x_St s D cy A bs y CC SS L h H locs ls' (als.set i v) ast' b cells slots :=
  ⟨S.1, S.2.1, x_lr_set S.2.2.1 hi h', fun w hw => by
    rcases List.mem_or_eq_of_mem_set hw with hw | rfl
    · exact S.2.2.2.1 w hw
    · exact hv, ho, S.2.2.2.2.2⟩

theorem x_s3 (F : x_Fr p R s m args meth c D cy A y) (C : x_Ck y k 3 a t u pc) (S : x_St s D cy A bs y CC SS L h H locs ls als ast b cells slots) (hst : x_stp (3, a, t, u, pc) k als ast b h = some c') (kk : x_K p l e R s m args below meth c Q D cy A bs y CC SS L c') : W p l e R s m args below meth c H locs cells slots Q (F0 m pc ls (ast.map (x_conc bs L))) := by
  have C : (if u = 0 then decide (t < 4) && x_D ((x_by y).data.toList.drop pc) pc (x_pc y (k + 1)) (.istore_n (Fin.ofNat 4 t)) 1 else x_D ((x_by y).data.toList.drop pc) pc (x_pc y (k + 1)) (.istore t) 2) = true := C
  have hs : (match (generalizing := false) ast with | .inl v :: st => if t < als.length then some (k + 1, als.set t (.inl v), st, b, h) else none | _ => none) = some c' := hst
  split at hs
  · rename_i v st
    split at hs
    · rename_i ht
      cases hs
      obtain ⟨hy, hx, hb, hml, hown, hts, -⟩ := F
      have hl := x_lr_has S.2.2.1
      have htn : t < x_ml y := by rw [← S.2.2.1.2.2.1]; exact ht
      have ho := S.2.2.2.2.1
      by_cases h0 : u = 0
      · rw [if_pos h0] at C
        simp only [Bool.and_eq_true, decide_eq_true_eq] at C
        obtain ⟨hd, hp⟩ := x_D_ok C.2
        refine lv_istore_n hx hb hd (show t % 4 = t from Nat.mod_eq_of_lt C.1) hl htn rfl fun ls' hl' => ?_
        exact W.eq (by show F0 m (pc + 1) ls' _ = F0 m (x_pc y (k + 1)) ls' _; rw [hp]) (kk L H locs ls' cells slots (x_ext_rf L) (S.loc ht (x_hd ho) (x_tls ho) hl'))
      · rw [if_neg h0] at C
        obtain ⟨hd, hp⟩ := x_D_ok C
        refine lv_istore hx hb hd hl htn rfl fun ls' hl' => ?_
        exact W.eq (by show F0 m (pc + 2) ls' _ = F0 m (x_pc y (k + 1)) ls' _; rw [hp]) (kk L H locs ls' cells slots (x_ext_rf L) (S.loc ht (x_hd ho) (x_tls ho) hl'))
    · cases hs
  · cases hs

theorem x_s4 (F : x_Fr p R s m args meth c D cy A y) (C : x_Ck y k 4 a t u pc) (S : x_St s D cy A bs y CC SS L h H locs ls als ast b cells slots) (hst : x_stp (4, a, t, u, pc) k als ast b h = some c') (kk : x_K p l e R s m args below meth c Q D cy A bs y CC SS L c') : W p l e R s m args below meth c H locs cells slots Q (F0 m pc ls (ast.map (x_conc bs L))) := by
  have C : (if u = 0 then decide (t < 4) && x_D ((x_by y).data.toList.drop pc) pc (x_pc y (k + 1)) (.astore_n (Fin.ofNat 4 t)) 1 else x_D ((x_by y).data.toList.drop pc) pc (x_pc y (k + 1)) (.astore t) 2) = true := C
  have hs : (match (generalizing := false) ast with | .inr v :: st => if t < als.length ∧ -2 ≤ v then some (k + 1, als.set t (.inr v), st, b, h) else none | _ => none) = some c' := hst
  split at hs
  · rename_i v st
    split at hs
    · rename_i ht
      cases hs
      obtain ⟨hy, hx, hb, hml, hown, hts, -⟩ := F
      have hl := x_lr_has S.2.2.1
      have htn : t < x_ml y := by rw [← S.2.2.1.2.2.1]; exact ht.1
      have ho := S.2.2.2.2.1
      have e : ∃ r : Option Nat, x_conc bs L (.inr v) = va_rf r := by
        by_cases q : v = -2
        · exact ⟨some bs, if_pos q⟩
        · exact ⟨_, if_neg q⟩
      obtain ⟨r, er⟩ := e
      have key : ∀ (n : Nat) (hp : x_pc y (k + 1) = pc + n) (ls' : Array Slot), lv_has ls' (x_ml y) ((t, va_rf r) :: (x_lvs bs L als).filter (fun q => !(q.1 == t) && !(q.1 + 1 == t && q.2.category == 2))) → W p l e R s m args below meth c H locs cells slots Q (F0 m (pc + n) ls' (st.map (x_conc bs L))) := fun n hp ls' hl' => by
        rw [← er] at hl'
        exact W.eq (by show F0 m (pc + n) ls' _ = F0 m (x_pc y (k + 1)) ls' _; rw [hp]) (kk L H locs ls' cells slots (x_ext_rf L) (S.loc ht.1 (x_hd ho) (x_tls ho) hl'))
      show W p l e R s m args below meth c H locs cells slots Q (F0 m pc ls (x_conc bs L (.inr v) :: st.map (x_conc bs L)))
      rw [er]
      by_cases h0 : u = 0
      · rw [if_pos h0] at C
        simp only [Bool.and_eq_true, decide_eq_true_eq] at C
        obtain ⟨hd, hp⟩ := x_D_ok C.2
        cases r with
        | none => exact lv_astore_nN hx hb hd (show t % 4 = t from Nat.mod_eq_of_lt C.1) hl htn rfl (key 1 hp)
        | some r => exact lv_astore_n hx hb hd (show t % 4 = t from Nat.mod_eq_of_lt C.1) hl htn rfl (key 1 hp)
      · rw [if_neg h0] at C
        obtain ⟨hd, hp⟩ := x_D_ok C
        cases r with
        | none => exact lv_astoreN hx hb hd hl htn rfl (key 2 hp)
        | some r => exact lv_astore hx hb hd hl htn rfl (key 2 hp)
    · cases hs
  · cases hs

theorem x_s5 (F : x_Fr p R s m args meth c D cy A y) (C : x_Ck y k 5 a t u pc) (S : x_St s D cy A bs y CC SS L h H locs ls als ast b cells slots) (hst : x_stp (5, a, t, u, pc) k als ast b h = some c') (kk : x_K p l e R s m args below meth c Q D cy A bs y CC SS L c') : W p l e R s m args below meth c H locs cells slots Q (F0 m pc ls (ast.map (x_conc bs L))) := by
  have C : x_D ((x_by y).data.toList.drop pc) pc (x_pc y (k + 1)) (.iinc t a) 3 = true := C
  have hs : (match (generalizing := false) als[t]? with | some (.inl v) => some (k + 1, als.set t (.inl (x_w (v + a))), ast, b, h) | _ => none) = some c' := hst
  split at hs
  · rename_i v hv
    cases hs
    obtain ⟨hy, hx, hb, hml, hown, hts, -⟩ := F
    have ht : t < als.length := (List.getElem?_eq_some_iff.mp hv).1
    have hl := x_lr_has S.2.2.1
    have htn : t < x_ml y := by rw [← S.2.2.1.2.2.1]; exact ht
    obtain ⟨hd, hp⟩ := x_D_ok C
    obtain ⟨q, hq⟩ := List.getElem?_of_mem (x_lvs_mem.mpr ⟨.inl v, hv, (by intro q; cases q), rfl⟩ : (t, x_conc bs L (.inl v)) ∈ x_lvs bs L als)
    refine lv_iinc (v := Int32.ofInt (x_w (v + a))) hx hb hd hl hq (by rw [x_w_of, Int32.ofInt_add]) htn rfl fun ls' hl' => ?_
    exact W.eq (by show F0 m (pc + 3) ls' _ = F0 m (x_pc y (k + 1)) ls' _; rw [hp]) (kk L H locs ls' cells slots (x_ext_rf L) (S.loc (v := .inl (x_w (v + a))) ht (x_w_in _) S.2.2.2.2.1 hl'))
  · cases hs

theorem x_s6 (F : x_Fr p R s m args meth c D cy A y) (C : x_Ck y k 6 a t u pc) (S : x_St s D cy A bs y CC SS L h H locs ls als ast b cells slots) (hst : x_stp (6, a, t, u, pc) k als ast b h = some c') (kk : x_K p l e R s m args below meth c Q D cy A bs y CC SS L c') : W p l e R s m args below meth c H locs cells slots Q (F0 m pc ls (ast.map (x_conc bs L))) := by
  have C : x_D ((x_by y).data.toList.drop pc) pc (x_pc y (k + 1)) .iadd 1 = true := C
  have hs : (match (generalizing := false) ast with | .inl j :: .inl i :: st => some (k + 1, als, .inl (x_w (i + j)) :: st, b, h) | _ => none) = some c' := hst
  split at hs
  · rename_i j i st
    cases hs
    obtain ⟨hy, hx, hb, hml, hown, hts, -⟩ := F
    obtain ⟨hd, hp⟩ := x_D_ok C
    have ho := S.2.2.2.2.1
    have oj : x_in32 j := x_hd ho
    have oi : x_in32 i := x_hd (x_tls ho)
    have K := kk L H locs ls cells slots (x_ext_rf L) (S.stk (x_cons (show x_in32 (x_w (i + j)) from x_w_in _) (x_tls (x_tls ho))))
    refine lv_iadd hx hb hd (W.eq ?_ K)
    show F0 m (pc + 1) ls (.int _ :: _) = F0 m (x_pc y (k + 1)) ls (.int (Int32.ofInt (x_w (i + j))) :: _)
    rw [hp, x_add]
  · cases hs

theorem x_s7 (F : x_Fr p R s m args meth c D cy A y) (C : x_Ck y k 7 a t u pc) (S : x_St s D cy A bs y CC SS L h H locs ls als ast b cells slots) (hst : x_stp (7, a, t, u, pc) k als ast b h = some c') (kk : x_K p l e R s m args below meth c Q D cy A bs y CC SS L c') : W p l e R s m args below meth c H locs cells slots Q (F0 m pc ls (ast.map (x_conc bs L))) := by
  have C : x_D ((x_by y).data.toList.drop pc) pc (x_pc y (k + 1)) .isub 1 = true := C
  have hs : (match (generalizing := false) ast with | .inl j :: .inl i :: st => some (k + 1, als, .inl (x_w (i - j)) :: st, b, h) | _ => none) = some c' := hst
  split at hs
  · rename_i j i st
    cases hs
    obtain ⟨hy, hx, hb, hml, hown, hts, -⟩ := F
    obtain ⟨hd, hp⟩ := x_D_ok C
    have ho := S.2.2.2.2.1
    have oj : x_in32 j := x_hd ho
    have oi : x_in32 i := x_hd (x_tls ho)
    have K := kk L H locs ls cells slots (x_ext_rf L) (S.stk (x_cons (show x_in32 (x_w (i - j)) from x_w_in _) (x_tls (x_tls ho))))
    refine lv_isub hx hb hd (W.eq ?_ K)
    show F0 m (pc + 1) ls (.int _ :: _) = F0 m (x_pc y (k + 1)) ls (.int (Int32.ofInt (x_w (i - j))) :: _)
    rw [hp, x_sub]
  · cases hs

theorem x_s8 (F : x_Fr p R s m args meth c D cy A y) (C : x_Ck y k 8 a t u pc) (S : x_St s D cy A bs y CC SS L h H locs ls als ast b cells slots) (hst : x_stp (8, a, t, u, pc) k als ast b h = some c') (kk : x_K p l e R s m args below meth c Q D cy A bs y CC SS L c') : W p l e R s m args below meth c H locs cells slots Q (F0 m pc ls (ast.map (x_conc bs L))) := by
  have C : x_D ((x_by y).data.toList.drop pc) pc (x_pc y (k + 1)) .imul 1 = true := C
  have hs : (match (generalizing := false) ast with | .inl j :: .inl i :: st => some (k + 1, als, .inl (x_w (i * j)) :: st, b, h) | _ => none) = some c' := hst
  split at hs
  · rename_i j i st
    cases hs
    obtain ⟨hy, hx, hb, hml, hown, hts, -⟩ := F
    obtain ⟨hd, hp⟩ := x_D_ok C
    have ho := S.2.2.2.2.1
    have oj : x_in32 j := x_hd ho
    have oi : x_in32 i := x_hd (x_tls ho)
    have K := kk L H locs ls cells slots (x_ext_rf L) (S.stk (x_cons (show x_in32 (x_w (i * j)) from x_w_in _) (x_tls (x_tls ho))))
    refine lv_imul hx hb hd (W.eq ?_ K)
    show F0 m (pc + 1) ls (.int _ :: _) = F0 m (x_pc y (k + 1)) ls (.int (Int32.ofInt (x_w (i * j))) :: _)
    rw [hp, x_mul]
  · cases hs

theorem x_s9 (F : x_Fr p R s m args meth c D cy A y) (C : x_Ck y k 9 a t u pc) (S : x_St s D cy A bs y CC SS L h H locs ls als ast b cells slots) (hst : x_stp (9, a, t, u, pc) k als ast b h = some c') (kk : x_K p l e R s m args below meth c Q D cy A bs y CC SS L c') : W p l e R s m args below meth c H locs cells slots Q (F0 m pc ls (ast.map (x_conc bs L))) := by
  have C : x_D ((x_by y).data.toList.drop pc) pc (x_pc y (k + 1)) .irem 1 = true := C
  have hs : (match (generalizing := false) ast with | .inl j :: .inl i :: st => if 0 ≤ i ∧ 0 < j then some (k + 1, als, .inl (i % j) :: st, b, h) else none | _ => none) = some c' := hst
  split at hs
  · rename_i j i st
    split at hs
    rotate_left
    · cases hs
    rename_i hg
    cases hs
    obtain ⟨hy, hx, hb, hml, hown, hts, -⟩ := F
    obtain ⟨hd, hp⟩ := x_D_ok C
    have ho := S.2.2.2.2.1
    have oj : x_in32 j := x_hd ho
    have oi : x_in32 i := x_hd (x_tls ho)
    have hin : x_in32 (i % j) := by
      have q1 := Int.emod_nonneg i (show j ≠ 0 by omega)
      have q2 := Int.emod_lt_of_pos i hg.2
      unfold x_in32 at oj oi ⊢
      omega
    have hne : ¬ Int32.ofInt j = 0 := by
      intro q
      rw [← x_of0, x_eqi oj x_zero] at q
      omega
    have hrem : Int32.ofInt i - Int32.ofInt i / Int32.ofInt j * Int32.ofInt j = Int32.ofInt (i % j) := by
      have hdv : (Int32.ofInt i / Int32.ofInt j) = Int32.ofInt (i / j) := by
        apply Int32.toInt_inj.mp
        rw [lg_idiv_nonneg (by rw [x_toInt oi]; exact hg.1) (by rw [x_toInt oj]; exact hg.2), x_toInt oi, x_toInt oj]
        have q1 := Int.ediv_nonneg hg.1 (Int.le_of_lt hg.2)
        have q2 := Int.ediv_le_self j hg.1
        refine (x_toInt ?_).symm
        unfold x_in32 at oi ⊢
        omega
      rw [hdv, ← Int32.ofInt_mul, ← Int32.ofInt_sub]
      congr 1
      have := Int.emod_add_mul_ediv i j
      rw [Int.mul_comm (i / j) j]
      omega
    have K := kk L H locs ls cells slots (x_ext_rf L) (S.stk (x_cons (show x_in32 (i % j) from hin) (x_tls (x_tls ho))))
    refine lv_irem hx hb hd hne (W.eq ?_ K)
    show F0 m (pc + 1) ls (.int _ :: _) = F0 m (x_pc y (k + 1)) ls (.int (Int32.ofInt (i % j)) :: _)
    rw [hp, hrem]
  · cases hs

theorem x_s11 (F : x_Fr p R s m args meth c D cy A y) (C : x_Ck y k 11 a t u pc) (S : x_St s D cy A bs y CC SS L h H locs ls als ast b cells slots) (hst : x_stp (11, a, t, u, pc) k als ast b h = some c') (kk : x_K p l e R s m args below meth c Q D cy A bs y CC SS L c') : W p l e R s m args below meth c H locs cells slots Q (F0 m pc ls (ast.map (x_conc bs L))) := by
  have C : x_D ((x_by y).data.toList.drop pc) pc (x_pc y (k + 1)) .iand 1 = true := C
  have hs : (match (generalizing := false) ast with | .inl j :: .inl i :: st => some (k + 1, als, .inl (Int32.ofInt i &&& Int32.ofInt j).toInt :: st, b, h) | _ => none) = some c' := hst
  split at hs
  · rename_i j i st
    cases hs
    obtain ⟨hy, hx, hb, hml, hown, hts, -⟩ := F
    obtain ⟨hd, hp⟩ := x_D_ok C
    have ho := S.2.2.2.2.1
    have oj : x_in32 j := x_hd ho
    have oi : x_in32 i := x_hd (x_tls ho)
    have K := kk L H locs ls cells slots (x_ext_rf L) (S.stk (x_cons (show x_in32 (Int32.ofInt i &&& Int32.ofInt j).toInt from x_in32_t _) (x_tls (x_tls ho))))
    refine lv_iand hx hb hd (W.eq ?_ K)
    show F0 m (pc + 1) ls (.int _ :: _) = F0 m (x_pc y (k + 1)) ls (.int (Int32.ofInt (Int32.ofInt i &&& Int32.ofInt j).toInt) :: _)
    rw [hp, x_of]
  · cases hs

theorem x_s12 (F : x_Fr p R s m args meth c D cy A y) (C : x_Ck y k 12 a t u pc) (S : x_St s D cy A bs y CC SS L h H locs ls als ast b cells slots) (hst : x_stp (12, a, t, u, pc) k als ast b h = some c') (kk : x_K p l e R s m args below meth c Q D cy A bs y CC SS L c') : W p l e R s m args below meth c H locs cells slots Q (F0 m pc ls (ast.map (x_conc bs L))) := by
  have C : x_D ((x_by y).data.toList.drop pc) pc (x_pc y (k + 1)) .ior 1 = true := C
  have hs : (match (generalizing := false) ast with | .inl j :: .inl i :: st => some (k + 1, als, .inl (Int32.ofInt i ||| Int32.ofInt j).toInt :: st, b, h) | _ => none) = some c' := hst
  split at hs
  · rename_i j i st
    cases hs
    obtain ⟨hy, hx, hb, hml, hown, hts, -⟩ := F
    obtain ⟨hd, hp⟩ := x_D_ok C
    have ho := S.2.2.2.2.1
    have oj : x_in32 j := x_hd ho
    have oi : x_in32 i := x_hd (x_tls ho)
    have K := kk L H locs ls cells slots (x_ext_rf L) (S.stk (x_cons (show x_in32 (Int32.ofInt i ||| Int32.ofInt j).toInt from x_in32_t _) (x_tls (x_tls ho))))
    refine lv_ior hx hb hd (W.eq ?_ K)
    show F0 m (pc + 1) ls (.int _ :: _) = F0 m (x_pc y (k + 1)) ls (.int (Int32.ofInt (Int32.ofInt i ||| Int32.ofInt j).toInt) :: _)
    rw [hp, x_of]
  · cases hs

theorem x_s13 (F : x_Fr p R s m args meth c D cy A y) (C : x_Ck y k 13 a t u pc) (S : x_St s D cy A bs y CC SS L h H locs ls als ast b cells slots) (hst : x_stp (13, a, t, u, pc) k als ast b h = some c') (kk : x_K p l e R s m args below meth c Q D cy A bs y CC SS L c') : W p l e R s m args below meth c H locs cells slots Q (F0 m pc ls (ast.map (x_conc bs L))) := by
  have C : x_D ((x_by y).data.toList.drop pc) pc (x_pc y (k + 1)) .ishl 1 = true := C
  have hs : (match (generalizing := false) ast with | .inl j :: .inl i :: st => some (k + 1, als, .inl (Int32.ofInt i <<< (Int32.ofInt j &&& 31)).toInt :: st, b, h) | _ => none) = some c' := hst
  split at hs
  · rename_i j i st
    cases hs
    obtain ⟨hy, hx, hb, hml, hown, hts, -⟩ := F
    obtain ⟨hd, hp⟩ := x_D_ok C
    have ho := S.2.2.2.2.1
    have oj : x_in32 j := x_hd ho
    have oi : x_in32 i := x_hd (x_tls ho)
    have K := kk L H locs ls cells slots (x_ext_rf L) (S.stk (x_cons (show x_in32 (Int32.ofInt i <<< (Int32.ofInt j &&& 31)).toInt from x_in32_t _) (x_tls (x_tls ho))))
    refine lv_ishl hx hb hd (W.eq ?_ K)
    show F0 m (pc + 1) ls (.int _ :: _) = F0 m (x_pc y (k + 1)) ls (.int (Int32.ofInt (Int32.ofInt i <<< (Int32.ofInt j &&& 31)).toInt) :: _)
    rw [hp, x_of]
  · cases hs

theorem x_s14 (F : x_Fr p R s m args meth c D cy A y) (C : x_Ck y k 14 a t u pc) (S : x_St s D cy A bs y CC SS L h H locs ls als ast b cells slots) (hst : x_stp (14, a, t, u, pc) k als ast b h = some c') (kk : x_K p l e R s m args below meth c Q D cy A bs y CC SS L c') : W p l e R s m args below meth c H locs cells slots Q (F0 m pc ls (ast.map (x_conc bs L))) := by
  have C : x_D ((x_by y).data.toList.drop pc) pc (x_pc y (k + 1)) .ishr 1 = true := C
  have hs : (match (generalizing := false) ast with | .inl j :: .inl i :: st => some (k + 1, als, .inl (Int32.ofInt i >>> (Int32.ofInt j &&& 31)).toInt :: st, b, h) | _ => none) = some c' := hst
  split at hs
  · rename_i j i st
    cases hs
    obtain ⟨hy, hx, hb, hml, hown, hts, -⟩ := F
    obtain ⟨hd, hp⟩ := x_D_ok C
    have ho := S.2.2.2.2.1
    have oj : x_in32 j := x_hd ho
    have oi : x_in32 i := x_hd (x_tls ho)
    have K := kk L H locs ls cells slots (x_ext_rf L) (S.stk (x_cons (show x_in32 (Int32.ofInt i >>> (Int32.ofInt j &&& 31)).toInt from x_in32_t _) (x_tls (x_tls ho))))
    refine lv_ishr hx hb hd (W.eq ?_ K)
    show F0 m (pc + 1) ls (.int _ :: _) = F0 m (x_pc y (k + 1)) ls (.int (Int32.ofInt (Int32.ofInt i >>> (Int32.ofInt j &&& 31)).toInt) :: _)
    rw [hp, x_of]
  · cases hs

theorem x_s10 (F : x_Fr p R s m args meth c D cy A y) (C : x_Ck y k 10 a t u pc) (S : x_St s D cy A bs y CC SS L h H locs ls als ast b cells slots) (hst : x_stp (10, a, t, u, pc) k als ast b h = some c') (kk : x_K p l e R s m args below meth c Q D cy A bs y CC SS L c') : W p l e R s m args below meth c H locs cells slots Q (F0 m pc ls (ast.map (x_conc bs L))) := by
  have C : x_D ((x_by y).data.toList.drop pc) pc (x_pc y (k + 1)) .ineg 1 = true := C
  have hs : (match (generalizing := false) ast with | .inl i :: st => some (k + 1, als, .inl (x_w (-i)) :: st, b, h) | _ => none) = some c' := hst
  split at hs
  · rename_i i st
    cases hs
    obtain ⟨hy, hx, hb, hml, hown, hts, -⟩ := F
    obtain ⟨hd, hp⟩ := x_D_ok C
    have ho := S.2.2.2.2.1
    have K := kk L H locs ls cells slots (x_ext_rf L) (S.stk (x_cons (show x_in32 (x_w (-i)) from x_w_in _) (x_tls ho)))
    refine lv_ineg hx hb hd (W.eq ?_ K)
    show F0 m (pc + 1) ls (.int _ :: _) = F0 m (x_pc y (k + 1)) ls (.int (Int32.ofInt (x_w (-i))) :: _)
    rw [hp, x_neg]
  · cases hs

end
end
section
/-! branches, the stack, the JDK's calls -/
section
variable {p : Program} {l : Launch} {e : Env} {R : Room} {s : State} {m : MethodId} {args : Array Value} {below : List Frame} {meth : Method} {c : Code} {Q : State → Prop}
variable {D : va_G} {cy : Nat → ClassId} {A : Nat → Prop} {bs y CC SS : Nat} {L : List Nat} {h : xH} {H : Heap} {locs : List Loc} {ls : Array Slot} {als ast : List xV} {b : xB} {cells slots k : Nat}
variable {a : Int} {t u pc p2 : Nat} {c' : xC}

theorem x_s15 (F : x_Fr p R s m args meth c D cy A y) (C : x_Ck y k 15 a t u pc) (S : x_St s D cy A bs y CC SS L h H locs ls als ast b cells slots) (hst : x_stp (15, a, t, u, pc) k als ast b h = some c') (kk : x_K p l e R s m args below meth c Q D cy A bs y CC SS L c') : W p l e R s m args below meth c H locs cells slots Q (F0 m pc ls (ast.map (x_conc bs L))) := by
  have C : x_D ((x_by y).data.toList.drop pc) pc (x_pc y (k + 1)) (x_ifI u ((x_tp (x_cd y) t : Int) - pc)) 3 = true := C
  have hs : (match (generalizing := false) ast with | .inl i :: st => some (if x_cond u i 0 then t else k + 1, als, st, b, h) | _ => none) = some c' := hst
  split at hs
  rotate_left
  · cases hs
  rename_i i st
  cases hs
  obtain ⟨hy, hx, hb, hml, hown, hts, -⟩ := F
  obtain ⟨hd, hp⟩ := x_D_ok C
  have ho := S.2.2.2.2.1
  have oi : x_in32 i := x_hd ho
  have oj := x_zero
  have K : W p l e R s m args below meth c H locs cells slots Q (F0 m (x_pc y (if x_cond u i 0 = true then t else k + 1)) ls (st.map (x_conc bs L))) := kk L H locs ls cells slots (x_ext_rf L) (S.stk (x_tls ho))
  have ht : (pc : Int) + ((x_tp (x_cd y) t : Int) - pc) = ((x_pc y t : Nat) : Int) := by
    show (pc : Int) + (((x_pc y t : Nat) : Int) - pc) = _
    omega
  by_cases u0 : u = 0
  · subst u0
    have ec : x_cond 0 i 0 = decide (i = 0) := rfl
    refine lv_if_eq hx hb hd ht (fun q => ?_) (fun q => ?_)
    · rw [if_pos (by rw [ec]; exact decide_eq_true ((x_eqi oi oj).mp q))] at K
      exact K
    · rw [if_neg (by rw [ec]; exact fun z => q ((x_eqi oi oj).mpr (of_decide_eq_true z))), hp] at K
      exact K
  by_cases u1 : u = 1
  · subst u1
    have ec : x_cond 1 i 0 = decide (¬ i = 0) := rfl
    refine lv_if_ne hx hb hd ht (fun q => ?_) (fun q => ?_)
    · rw [if_pos (by rw [ec]; exact decide_eq_true ((not_congr (x_eqi oi oj)).mp q))] at K
      exact K
    · rw [if_neg (by rw [ec]; exact fun z => (of_decide_eq_true z) ((x_eqi oi oj).mp q)), hp] at K
      exact K
  by_cases u2 : u = 2
  · subst u2
    have ec : x_cond 2 i 0 = decide (i < 0) := rfl
    refine lv_if_lt hx hb hd ht (fun q => ?_) (fun q => ?_)
    · rw [if_pos (by rw [ec]; exact decide_eq_true ((x_lt oi oj).mp q))] at K
      exact K
    · rw [if_neg (by rw [ec]; exact fun z => q ((x_lt oi oj).mpr (of_decide_eq_true z))), hp] at K
      exact K
  by_cases u3 : u = 3
  · subst u3
    have ec : x_cond 3 i 0 = decide (0 ≤ i) := rfl
    refine lv_if_ge hx hb hd ht (fun q => ?_) (fun q => ?_)
    · rw [if_pos (by rw [ec]; exact decide_eq_true ((x_le oj oi).mp q))] at K
      exact K
    · rw [if_neg (by rw [ec]; exact fun z => q ((x_le oj oi).mpr (of_decide_eq_true z))), hp] at K
      exact K
  by_cases u4 : u = 4
  · subst u4
    have ec : x_cond 4 i 0 = decide (0 < i) := rfl
    refine lv_if_gt hx hb hd ht (fun q => ?_) (fun q => ?_)
    · rw [if_pos (by rw [ec]; exact decide_eq_true ((x_lt oj oi).mp q))] at K
      exact K
    · rw [if_neg (by rw [ec]; exact fun z => q ((x_lt oj oi).mpr (of_decide_eq_true z))), hp] at K
      exact K
  have eI : x_ifI u ((x_tp (x_cd y) t : Int) - pc) = .ifCond .le ((x_tp (x_cd y) t : Int) - pc) := by unfold x_ifI; rw [if_neg u0, if_neg u1, if_neg u2, if_neg u3, if_neg u4]
  rw [eI] at hd
  have ec : x_cond u i 0 = decide (i ≤ 0) := by unfold x_cond; rw [if_neg u0, if_neg u1, if_neg u2, if_neg u3, if_neg u4]
  refine lv_if_le hx hb hd ht (fun q => ?_) (fun q => ?_)
  · rw [if_pos (by rw [ec]; exact decide_eq_true ((x_le oi oj).mp q))] at K
    exact K
  · rw [if_neg (by rw [ec]; exact fun z => q ((x_le oi oj).mpr (of_decide_eq_true z))), hp] at K
    exact K

theorem x_s16 (F : x_Fr p R s m args meth c D cy A y) (C : x_Ck y k 16 a t u pc) (S : x_St s D cy A bs y CC SS L h H locs ls als ast b cells slots) (hst : x_stp (16, a, t, u, pc) k als ast b h = some c') (kk : x_K p l e R s m args below meth c Q D cy A bs y CC SS L c') : W p l e R s m args below meth c H locs cells slots Q (F0 m pc ls (ast.map (x_conc bs L))) := by
  have C : x_D ((x_by y).data.toList.drop pc) pc (x_pc y (k + 1)) (x_icI u ((x_tp (x_cd y) t : Int) - pc)) 3 = true := C
  have hs : (match (generalizing := false) ast with | .inl j :: .inl i :: st => some (if x_cond u i j then t else k + 1, als, st, b, h) | _ => none) = some c' := hst
  split at hs
  rotate_left
  · cases hs
  rename_i j i st
  cases hs
  obtain ⟨hy, hx, hb, hml, hown, hts, -⟩ := F
  obtain ⟨hd, hp⟩ := x_D_ok C
  have ho := S.2.2.2.2.1
  have oj : x_in32 j := x_hd ho
  have oi : x_in32 i := x_hd (x_tls ho)
  have K : W p l e R s m args below meth c H locs cells slots Q (F0 m (x_pc y (if x_cond u i j = true then t else k + 1)) ls (st.map (x_conc bs L))) := kk L H locs ls cells slots (x_ext_rf L) (S.stk (x_tls (x_tls ho)))
  have ht : (pc : Int) + ((x_tp (x_cd y) t : Int) - pc) = ((x_pc y t : Nat) : Int) := by
    show (pc : Int) + (((x_pc y t : Nat) : Int) - pc) = _
    omega
  by_cases u0 : u = 0
  · subst u0
    have ec : x_cond 0 i j = decide (i = j) := rfl
    refine lv_icmp_eq hx hb hd ht (fun q => ?_) (fun q => ?_)
    · rw [if_pos (by rw [ec]; exact decide_eq_true ((x_eqi oi oj).mp q))] at K
      exact K
    · rw [if_neg (by rw [ec]; exact fun z => q ((x_eqi oi oj).mpr (of_decide_eq_true z))), hp] at K
      exact K
  by_cases u1 : u = 1
  · subst u1
    have ec : x_cond 1 i j = decide (¬ i = j) := rfl
    refine lv_icmp_ne hx hb hd ht (fun q => ?_) (fun q => ?_)
    · rw [if_pos (by rw [ec]; exact decide_eq_true ((not_congr (x_eqi oi oj)).mp q))] at K
      exact K
    · rw [if_neg (by rw [ec]; exact fun z => (of_decide_eq_true z) ((x_eqi oi oj).mp q)), hp] at K
      exact K
  by_cases u2 : u = 2
  · subst u2
    have ec : x_cond 2 i j = decide (i < j) := rfl
    refine lv_icmp_lt hx hb hd ht (fun q => ?_) (fun q => ?_)
    · rw [if_pos (by rw [ec]; exact decide_eq_true ((x_lt oi oj).mp q))] at K
      exact K
    · rw [if_neg (by rw [ec]; exact fun z => q ((x_lt oi oj).mpr (of_decide_eq_true z))), hp] at K
      exact K
  by_cases u3 : u = 3
  · subst u3
    have ec : x_cond 3 i j = decide (j ≤ i) := rfl
    refine lv_icmp_ge hx hb hd ht (fun q => ?_) (fun q => ?_)
    · rw [if_pos (by rw [ec]; exact decide_eq_true ((x_le oj oi).mp q))] at K
      exact K
    · rw [if_neg (by rw [ec]; exact fun z => q ((x_le oj oi).mpr (of_decide_eq_true z))), hp] at K
      exact K
  by_cases u4 : u = 4
  · subst u4
    have ec : x_cond 4 i j = decide (j < i) := rfl
    refine lv_icmp_gt hx hb hd ht (fun q => ?_) (fun q => ?_)
    · rw [if_pos (by rw [ec]; exact decide_eq_true ((x_lt oj oi).mp q))] at K
      exact K
    · rw [if_neg (by rw [ec]; exact fun z => q ((x_lt oj oi).mpr (of_decide_eq_true z))), hp] at K
      exact K
  have eI : x_icI u ((x_tp (x_cd y) t : Int) - pc) = .if_icmp .le ((x_tp (x_cd y) t : Int) - pc) := by unfold x_icI; rw [if_neg u0, if_neg u1, if_neg u2, if_neg u3, if_neg u4]
  rw [eI] at hd
  have ec : x_cond u i j = decide (i ≤ j) := by unfold x_cond; rw [if_neg u0, if_neg u1, if_neg u2, if_neg u3, if_neg u4]
  refine lv_icmp_le hx hb hd ht (fun q => ?_) (fun q => ?_)
  · rw [if_pos (by rw [ec]; exact decide_eq_true ((x_le oi oj).mp q))] at K
    exact K
  · rw [if_neg (by rw [ec]; exact fun z => q ((x_le oi oj).mpr (of_decide_eq_true z))), hp] at K
    exact K

theorem x_s17 (F : x_Fr p R s m args meth c D cy A y) (C : x_Ck y k 17 a t u pc) (S : x_St s D cy A bs y CC SS L h H locs ls als ast b cells slots) (hst : x_stp (17, a, t, u, pc) k als ast b h = some c') (kk : x_K p l e R s m args below meth c Q D cy A bs y CC SS L c') : W p l e R s m args below meth c H locs cells slots Q (F0 m pc ls (ast.map (x_conc bs L))) := by
  have C : x_is ((x_by y).data.toList.drop pc) (.goto ((x_tp (x_cd y) t : Int) - pc)) 3 = true := C
  cases (show some (t, als, ast, b, h) = some c' from hst)
  obtain ⟨hy, hx, hb, hml, hown, hts, -⟩ := F
  have hd := x_is_ok C
  have ht : (pc : Int) + ((x_tp (x_cd y) t : Int) - pc) = ((x_pc y t : Nat) : Int) := by
    show (pc : Int) + (((x_pc y t : Nat) : Int) - pc) = _
    omega
  exact lv_goto hx hb hd ht (kk L H locs ls cells slots (x_ext_rf L) S)

theorem x_s18 (F : x_Fr p R s m args meth c D cy A y) (C : x_Ck y k 18 a t u pc) (S : x_St s D cy A bs y CC SS L h H locs ls als ast b cells slots) (hst : x_stp (18, a, t, u, pc) k als ast b h = some c') (kk : x_K p l e R s m args below meth c Q D cy A bs y CC SS L c') : W p l e R s m args below meth c H locs cells slots Q (F0 m pc ls (ast.map (x_conc bs L))) := by
  have C : x_D ((x_by y).data.toList.drop pc) pc (x_pc y (k + 1)) (.ifnull ((x_tp (x_cd y) t : Int) - pc)) 3 = true := C
  have hs : (match (generalizing := false) ast with | .inr r :: st => if -1 ≤ r then some (if r < 0 then t else k + 1, als, st, b, h) else none | _ => none) = some c' := hst
  split at hs
  rotate_left
  · cases hs
  rename_i r st
  split at hs
  rotate_left
  · cases hs
  rename_i hr
  cases hs
  obtain ⟨hy, hx, hb, hml, hown, hts, -⟩ := F
  obtain ⟨hd, hp⟩ := x_D_ok C
  have ho := S.2.2.2.2.1
  have K : W p l e R s m args below meth c H locs cells slots Q (F0 m (x_pc y (if r < 0 then t else k + 1)) ls (st.map (x_conc bs L))) := kk L H locs ls cells slots (x_ext_rf L) (S.stk (x_tls ho))
  have ht : (pc : Int) + ((x_tp (x_cd y) t : Int) - pc) = ((x_pc y t : Nat) : Int) := by
    show (pc : Int) + (((x_pc y t : Nat) : Int) - pc) = _
    omega
  show W p l e R s m args below meth c H locs cells slots Q (F0 m pc ls (x_conc bs L (.inr r) :: st.map (x_conc bs L)))
  by_cases q : r < 0
  · rw [x_null q (by omega)]
    rw [if_pos q] at K
    exact lv_ifnullN hx hb hd ht K
  · rw [x_ref (by omega)]
    rw [if_neg q] at K
    rw [hp] at K
    exact lv_ifnull hx hb hd K

theorem x_s19 (F : x_Fr p R s m args meth c D cy A y) (C : x_Ck y k 19 a t u pc) (S : x_St s D cy A bs y CC SS L h H locs ls als ast b cells slots) (hst : x_stp (19, a, t, u, pc) k als ast b h = some c') (kk : x_K p l e R s m args below meth c Q D cy A bs y CC SS L c') : W p l e R s m args below meth c H locs cells slots Q (F0 m pc ls (ast.map (x_conc bs L))) := by
  have C : x_D ((x_by y).data.toList.drop pc) pc (x_pc y (k + 1)) (.ifnonnull ((x_tp (x_cd y) t : Int) - pc)) 3 = true := C
  have hs : (match (generalizing := false) ast with | .inr r :: st => if -1 ≤ r then some (if r < 0 then k + 1 else t, als, st, b, h) else none | _ => none) = some c' := hst
  split at hs
  rotate_left
  · cases hs
  rename_i r st
  split at hs
  rotate_left
  · cases hs
  rename_i hr
  cases hs
  obtain ⟨hy, hx, hb, hml, hown, hts, -⟩ := F
  obtain ⟨hd, hp⟩ := x_D_ok C
  have ho := S.2.2.2.2.1
  have K : W p l e R s m args below meth c H locs cells slots Q (F0 m (x_pc y (if r < 0 then k + 1 else t)) ls (st.map (x_conc bs L))) := kk L H locs ls cells slots (x_ext_rf L) (S.stk (x_tls ho))
  have ht : (pc : Int) + ((x_tp (x_cd y) t : Int) - pc) = ((x_pc y t : Nat) : Int) := by
    show (pc : Int) + (((x_pc y t : Nat) : Int) - pc) = _
    omega
  show W p l e R s m args below meth c H locs cells slots Q (F0 m pc ls (x_conc bs L (.inr r) :: st.map (x_conc bs L)))
  by_cases q : r < 0
  · rw [x_null q (by omega)]
    rw [if_pos q] at K
    rw [hp] at K
    exact lv_ifnonnullN hx hb hd K
  · rw [x_ref (by omega)]
    rw [if_neg q] at K
    exact lv_ifnonnull hx hb hd ht K

theorem x_s20 (F : x_Fr p R s m args meth c D cy A y) (C : x_Ck y k 20 a t u pc) (S : x_St s D cy A bs y CC SS L h H locs ls als ast b cells slots) (hst : x_stp (20, a, t, u, pc) k als ast b h = some c') (kk : x_K p l e R s m args below meth c Q D cy A bs y CC SS L c') : W p l e R s m args below meth c H locs cells slots Q (F0 m pc ls (ast.map (x_conc bs L))) := by
  have C : x_D ((x_by y).data.toList.drop pc) pc (x_pc y (k + 1)) .aconst_null 1 = true := C
  cases (show some (k + 1, als, .inr (-1) :: ast, b, h) = some c' from hst)
  obtain ⟨hy, hx, hb, hml, hown, hts, -⟩ := F
  obtain ⟨hd, hp⟩ := x_D_ok C
  have hz : (0 : Int) ≤ h.1 := by rw [← S.1.1]; omega
  have K := kk L H locs ls cells slots (x_ext_rf L) (S.stk (x_cons (show (-1 : Int) < h.1 by omega) S.2.2.2.2.1))
  refine lv_null hx hb hd (W.eq ?_ K)
  show F0 m (pc + 1) ls _ = F0 m (x_pc y (k + 1)) ls _
  rw [hp]
  rfl

theorem x_s21 (F : x_Fr p R s m args meth c D cy A y) (C : x_Ck y k 21 a t u pc) (S : x_St s D cy A bs y CC SS L h H locs ls als ast b cells slots) (hst : x_stp (21, a, t, u, pc) k als ast b h = some c') (kk : x_K p l e R s m args below meth c Q D cy A bs y CC SS L c') : W p l e R s m args below meth c H locs cells slots Q (F0 m pc ls (ast.map (x_conc bs L))) := by
  have C : x_D ((x_by y).data.toList.drop pc) pc (x_pc y (k + 1)) .dup 1 = true := C
  have hs : (match (generalizing := false) ast with | v :: st => some (k + 1, als, v :: v :: st, b, h) | _ => none) = some c' := hst
  split at hs
  rotate_left
  · cases hs
  rename_i v st
  cases hs
  obtain ⟨hy, hx, hb, hml, hown, hts, -⟩ := F
  obtain ⟨hd, hp⟩ := x_D_ok C
  have ho := S.2.2.2.2.1
  refine lv_dup hx hb hd (x_cat _ _ _) (W.eq ?_ (kk L H locs ls cells slots (x_ext_rf L) (S.stk (x_cons (x_hd ho) ho))))
  show F0 m (pc + 1) ls _ = F0 m (x_pc y (k + 1)) ls _
  rw [hp]
  rfl

theorem x_s22 (F : x_Fr p R s m args meth c D cy A y) (C : x_Ck y k 22 a t u pc) (S : x_St s D cy A bs y CC SS L h H locs ls als ast b cells slots) (hst : x_stp (22, a, t, u, pc) k als ast b h = some c') (kk : x_K p l e R s m args below meth c Q D cy A bs y CC SS L c') : W p l e R s m args below meth c H locs cells slots Q (F0 m pc ls (ast.map (x_conc bs L))) := by
  have C : x_D ((x_by y).data.toList.drop pc) pc (x_pc y (k + 1)) .pop 1 = true := C
  have hs : (match (generalizing := false) ast with | _ :: st => some (k + 1, als, st, b, h) | _ => none) = some c' := hst
  split at hs
  rotate_left
  · cases hs
  rename_i v st
  cases hs
  obtain ⟨hy, hx, hb, hml, hown, hts, -⟩ := F
  obtain ⟨hd, hp⟩ := x_D_ok C
  have ho := S.2.2.2.2.1
  refine lv_pop hx hb hd (x_cat bs L v) (W.eq ?_ (kk L H locs ls cells slots (x_ext_rf L) (S.stk (x_tls ho))))
  show F0 m (pc + 1) ls _ = F0 m (x_pc y (k + 1)) ls _
  rw [hp]

theorem x_s23 (F : x_Fr p R s m args meth c D cy A y) (C : x_Ck y k 23 a t u pc) (S : x_St s D cy A bs y CC SS L h H locs ls als ast b cells slots) (hst : x_stp (23, a, t, u, pc) k als ast b h = some c') (kk : x_K p l e R s m args below meth c Q D cy A bs y CC SS L c') : W p l e R s m args below meth c H locs cells slots Q (F0 m pc ls (ast.map (x_conc bs L))) := by
  have C : x_D ((x_by y).data.toList.drop pc) pc (x_pc y (k + 1)) .dup2 1 = true := C
  have hs : (match (generalizing := false) ast with | v :: w :: st => some (k + 1, als, v :: w :: v :: w :: st, b, h) | _ => none) = some c' := hst
  split at hs
  rotate_left
  · cases hs
  rename_i v w st
  cases hs
  obtain ⟨hy, hx, hb, hml, hown, hts, -⟩ := F
  obtain ⟨hd, hp⟩ := x_D_ok C
  have ho := S.2.2.2.2.1
  refine lv_dup2_11 hx hb hd (x_cat bs L v) (x_cat bs L w) (W.eq ?_ (kk L H locs ls cells slots (x_ext_rf L) (S.stk (x_cons (x_hd ho) (x_cons (x_hd (x_tls ho)) ho)))))
  show F0 m (pc + 1) ls _ = F0 m (x_pc y (k + 1)) ls _
  rw [hp]
  rfl

theorem x_sum (bs : Nat) (L : List Nat) (st : List xV) : ((st.map (x_conc bs L)).map fun v => v.category).sum = st.length := by
  induction st with
  | nil => rfl
  | cons v st ih =>
    simp only [List.map_cons, List.sum_cons, List.length_cons]
    rw [x_cat, ih]
    omega

theorem x_s44 (F : x_Fr p R s m args meth c D cy A y) (C : x_Ck y k 44 a t u pc) (S : x_St s D cy A bs y CC SS L h H locs ls als ast b cells slots) (hcs : cells ≤ R.cells ∧ slots ≤ R.slots) (hst : x_stp (44, a, t, u, pc) k als ast b h = some c') (kk : x_K p l e R s m args below meth c Q D cy A bs y CC SS L c') : W p l e R s m args below meth c H locs cells slots Q (F0 m pc ls (ast.map (x_conc bs L))) := by
  have C : (x_wd u (.methodLink (x_nm y).cls t Lib.Math.max.name) && x_D ((x_by y).data.toList.drop pc) pc (x_pc y (k + 1)) (.invokestatic t) 3 && decide (1 ≤ x_dp y) && decide (40 ≤ x_lc y)) = true := C
  simp only [Bool.and_eq_true, decide_eq_true_eq] at C
  obtain ⟨⟨⟨Cw, C⟩, r1⟩, r2⟩ := C
  have hs : (match (generalizing := false) ast with | .inl j :: .inl i :: st => if st.length ≤ 8 then some (k + 1, als, .inl (max i j) :: st, b, h) else none | _ => none) = some c' := hst
  split at hs
  rotate_left
  · cases hs
  rename_i j i st
  split at hs
  rotate_left
  · cases hs
  rename_i h8
  cases hs
  obtain ⟨hy, hx, hb, hml, hown, hts, -, -, -, hfr, hlo, -⟩ := F
  obtain ⟨hd, hp⟩ := x_D_ok C
  have ho := S.2.2.2.2.1
  have oj : x_in32 j := x_hd ho
  have oi : x_in32 i := x_hd (x_tls ho)
  have hin : x_in32 (max i j) := by
    unfold x_in32 at *
    omega
  have J := x_jdk
  simp only [Bool.and_eq_true] at J
  have hW := fun (n : Nat) (w : Cond) (hn : x_wd n w = true) (hg : goodWord w = true) => hts w (x_wd_ok hn) hg
  have ev : (if Int32.ofInt i < Int32.ofInt j then Int32.ofInt j else Int32.ofInt i) = Int32.ofInt (max i j) := by
    by_cases q : i < j
    · rw [if_pos ((x_lt oi oj).mpr q)]
      congr 1
      omega
    · rw [if_neg (fun z => q ((x_lt oi oj).mp z))]
      congr 1
      omega
  have K : W p l e R s m args below meth c H locs cells slots Q (F0 m (x_pc y (k + 1)) ls (.int (Int32.ofInt (max i j)) :: st.map (x_conc bs L))) := kk L H locs ls cells slots (x_ext_rf L) (S.stk (x_cons (show x_okv h.1 (.inl (max i j)) from hin) (x_tls (x_tls ho))))
  rw [hp, ← ev] at K
  exact va_mmax hx hb (by rw [hml, S.2.2.1.1]) hown (hW u _ Cw rfl) (hW xp_maxs _ (by simp [J]) rfl) (hW xp_mi _ (by simp [J]) rfl) (hW xp_maxc _ (by simp [J]) rfl) (by omega) (by rw [x_sum]; omega) hcs.1 hcs.2 hd K

theorem x_s45 (F : x_Fr p R s m args meth c D cy A y) (C : x_Ck y k 45 a t u pc) (S : x_St s D cy A bs y CC SS L h H locs ls als ast b cells slots) (hcs : cells ≤ R.cells ∧ slots ≤ R.slots) (hst : x_stp (45, a, t, u, pc) k als ast b h = some c') (kk : x_K p l e R s m args below meth c Q D cy A bs y CC SS L c') : W p l e R s m args below meth c H locs cells slots Q (F0 m pc ls (ast.map (x_conc bs L))) := by
  have C : (x_wd u (.methodLink (x_nm y).cls t Lib.Math.min.name) && x_D ((x_by y).data.toList.drop pc) pc (x_pc y (k + 1)) (.invokestatic t) 3 && decide (1 ≤ x_dp y) && decide (40 ≤ x_lc y)) = true := C
  simp only [Bool.and_eq_true, decide_eq_true_eq] at C
  obtain ⟨⟨⟨Cw, C⟩, r1⟩, r2⟩ := C
  have hs : (match (generalizing := false) ast with | .inl j :: .inl i :: st => if st.length ≤ 8 then some (k + 1, als, .inl (min i j) :: st, b, h) else none | _ => none) = some c' := hst
  split at hs
  rotate_left
  · cases hs
  rename_i j i st
  split at hs
  rotate_left
  · cases hs
  rename_i h8
  cases hs
  obtain ⟨hy, hx, hb, hml, hown, hts, -, -, -, hfr, hlo, -⟩ := F
  obtain ⟨hd, hp⟩ := x_D_ok C
  have ho := S.2.2.2.2.1
  have oj : x_in32 j := x_hd ho
  have oi : x_in32 i := x_hd (x_tls ho)
  have hin : x_in32 (min i j) := by
    unfold x_in32 at *
    omega
  have J := x_jdk
  simp only [Bool.and_eq_true] at J
  have hW := fun (n : Nat) (w : Cond) (hn : x_wd n w = true) (hg : goodWord w = true) => hts w (x_wd_ok hn) hg
  have ev : (if Int32.ofInt j < Int32.ofInt i then Int32.ofInt j else Int32.ofInt i) = Int32.ofInt (min i j) := by
    by_cases q : j < i
    · rw [if_pos ((x_lt oj oi).mpr q)]
      congr 1
      omega
    · rw [if_neg (fun z => q ((x_lt oj oi).mp z))]
      congr 1
      omega
  have K : W p l e R s m args below meth c H locs cells slots Q (F0 m (x_pc y (k + 1)) ls (.int (Int32.ofInt (min i j)) :: st.map (x_conc bs L))) := kk L H locs ls cells slots (x_ext_rf L) (S.stk (x_cons (show x_okv h.1 (.inl (min i j)) from hin) (x_tls (x_tls ho))))
  rw [hp, ← ev] at K
  exact va_mmin hx hb (by rw [hml, S.2.2.1.1]) hown (hW u _ Cw rfl) (hW xp_mins _ (by simp [J]) rfl) (hW xp_mi _ (by simp [J]) rfl) (hW xp_minc _ (by simp [J]) rfl) (by omega) (by rw [x_sum]; omega) hcs.1 hcs.2 hd K

theorem x_s43 (F : x_Fr p R s m args meth c D cy A y) (C : x_Ck y k 43 a t u pc) (S : x_St s D cy A bs y CC SS L h H locs ls als ast b cells slots) (hst : x_stp (43, a, t, u, pc) k als ast b h = some c') (kk : x_K p l e R s m args below meth c Q D cy A bs y CC SS L c') : W p l e R s m args below meth c H locs cells slots Q (F0 m pc ls (ast.map (x_conc bs L))) := by
  have C : (x_wd u (.methodLink (x_nm y).cls t objectInit) && x_D ((x_by y).data.toList.drop pc) pc (x_pc y (k + 1)) (.invokespecial t) 3 && decide (1 ≤ x_dp y) && decide (40 ≤ x_lc y)) = true := C
  simp only [Bool.and_eq_true, decide_eq_true_eq] at C
  obtain ⟨⟨⟨Cw, C⟩, r1⟩, r2⟩ := C
  have hs : (match (generalizing := false) ast with | .inr r :: st => if 0 ≤ r ∧ r < h.1 ∧ st.length ≤ 8 then some (k + 1, als, st, b, h) else none | _ => none) = some c' := hst
  split at hs
  rotate_left
  · cases hs
  rename_i r st
  split at hs
  rotate_left
  · cases hs
  rename_i h8
  cases hs
  obtain ⟨hy, hx, hb, hml, hown, hts, -, -, -, hfr, hlo, -⟩ := F
  obtain ⟨hd, hp⟩ := x_D_ok C
  have ho := S.2.2.2.2.1
  have J := x_jdk
  simp only [Bool.and_eq_true] at J
  have hW := fun (n : Nat) (w : Cond) (hn : x_wd n w = true) (hg : goodWord w = true) => hts w (x_wd_ok hn) hg
  have K : W p l e R s m args below meth c H locs cells slots Q (F0 m (x_pc y (k + 1)) ls (st.map (x_conc bs L))) := kk L H locs ls cells slots (x_ext_rf L) (S.stk (x_tls ho))
  rw [hp] at K
  show W p l e R s m args below meth c H locs cells slots Q (F0 m pc ls (x_conc bs L (.inr r) :: st.map (x_conc bs L)))
  rw [x_ref h8.1]
  refine W.objInit hx hb hown (hW u _ Cw rfl) (hW xp_oi _ (by simp [J]) rfl) (hW xp_oc _ (by simp [J]) rfl) rfl (by rw [hml]; exact S.2.2.1.1) rfl hd (by omega) ?_ K
  show 2 * 0 + _ + 12 ≤ _
  rw [x_sum]
  omega

theorem x_s47 (F : x_Fr p R s m args meth c D cy A y) (C : x_Ck y k 47 a t u pc) (S : x_St s D cy A bs y CC SS L h H locs ls als ast b cells slots) (hst : x_stp (47, a, t, u, pc) k als ast b h = some c') (kk : x_K p l e R s m args below meth c Q D cy A bs y CC SS L c') : W p l e R s m args below meth c H locs cells slots Q (F0 m pc ls (ast.map (x_conc bs L))) := by
  have hs : (match (generalizing := false) ast with | .inl i :: st => some (x_swt u i, als, st, b, h) | _ => none) = some c' := hst
  split at hs
  rotate_left
  · cases hs
  rename_i i st
  cases hs
  have C : (match xsw[u]? with
      | some ((d, lo, hi, offs, len), dt, ts) => decide (decode (x_by y) pc = .ok (.tableswitch d lo hi offs, len)) && decide ((x_tp (x_cd y) dt : Int) = pc + d) && decide (offs.size = ts.length) && decide ((ts.length : Int) = hi - lo + 1) && (List.range ts.length).all (fun i => decide ((x_tp (x_cd y) (ts.getD i 0) : Int) = pc + offs.getD i 0))
      | none => false) = true := C
  cases hq : xsw[u]? with
  | none => rw [hq] at C; cases C
  | some q =>
    obtain ⟨⟨d, lo, hi, offs, len⟩, dt, ts⟩ := q
    rw [hq] at C
    simp only [Bool.and_eq_true, decide_eq_true_eq] at C
    obtain ⟨⟨⟨⟨hd, c1⟩, c2⟩, c3⟩, c4⟩ := C
    obtain ⟨hy, hx, hb, hml, hown, hts, -⟩ := F
    have ho := S.2.2.2.2.1
    have oi : x_in32 i := x_hd ho
    have K : W p l e R s m args below meth c H locs cells slots Q (F0 m (x_pc y (x_swt u i)) ls (st.map (x_conc bs L))) := kk L H locs ls cells slots (x_ext_rf L) (S.stk (x_tls ho))
    have ex : x_swt u i = if i < lo ∨ hi < i then dt else ts.getD (i - lo).toNat 0 := by
      unfold x_swt
      rw [hq]
    rw [ex] at K
    by_cases q : i < lo ∨ hi < i
    · rw [if_pos q] at K
      exact lv_tableOut hx hb hd (by rw [x_toInt oi]; exact q) c1.symm K
    · rw [if_neg q] at K
      have hlt : (i - lo).toNat < ts.length := by omega
      have c5 := of_decide_eq_true (List.all_eq_true.mp c4 (i - lo).toNat (List.mem_range.mpr hlt))
      have hz : offs[(i - lo).toNat]? = some (offs.getD (i - lo).toNat 0) := by
        rw [Array.getD_eq_getD_getElem?, Array.getElem?_eq_getElem (by omega)]
        rfl
      exact lv_tableIn hx hb hd (by rw [x_toInt oi]; omega) (by rw [x_toInt oi]; omega) (by rw [x_toInt oi]; exact hz) c5.symm K

theorem x_s54 (F : x_Fr p R s m args meth c D cy A y) (C : x_Ck y k 54 a t u pc) (S : x_St s D cy A bs y CC SS L h H locs ls als ast b cells slots) (hscr : x_rk y = 8 → x_Scr s A bs h) (hst : x_stp (54, a, t, u, pc) k als ast b h = some c') (kk : x_K p l e R s m args below meth c Q D cy A bs y CC SS L c') : W p l e R s m args below meth c H locs cells slots Q (F0 m pc ls (ast.map (x_conc bs L))) := by
  have C : (x_D ((x_by y).data.toList.drop pc) pc (x_pc y (k + 1)) .iaload 1 && decide (x_rk y = 8)) = true := C
  simp only [Bool.and_eq_true, decide_eq_true_eq] at C
  obtain ⟨C, hrk⟩ := C
  have hs : (match (generalizing := false) ast with | .inl j :: .inr r :: st => if r = -2 ∧ 0 ≤ j ∧ j < h.2.2 (-2) (-1) then some (k + 1, als, .inl (h.2.2 (-2) j) :: st, b, h) else none | _ => none) = some c' := hst
  split at hs
  rotate_left
  · cases hs
  rename_i j r st
  split at hs
  rotate_left
  · cases hs
  rename_i hg
  cases hs
  obtain ⟨hr, h0, h1⟩ := hg
  subst hr
  obtain ⟨hy, hx, hb, hml, hown, hts, -⟩ := F
  obtain ⟨hd, hp⟩ := x_D_ok C
  have ho := S.2.2.2.2.1
  have oj : x_in32 j := x_hd ho
  obtain ⟨N, xs, hX, hbl, hbA, hv, hN, hN2⟩ := hscr hrk
  rw [hN] at h1
  have hj : (j.toNat : Int) = j := Int.toNat_of_nonneg h0
  have hv2 : h.2.2 (-2) j = (xs j.toNat).toInt := by
    have := hv j.toNat (by omega)
    rw [hj] at this
    exact this
  have K : W p l e R s m args below meth c H locs cells slots Q (F0 m (x_pc y (k + 1)) ls (.int (Int32.ofInt (h.2.2 (-2) j)) :: st.map (x_conc bs L))) := kk L H locs ls cells slots (x_ext_rf L) (S.stk (x_cons (show x_okv h.1 (.inl (h.2.2 (-2) j)) from S.1.2.1 _ _) (x_tls (x_tls ho))))
  rw [hv2, x_of, hp] at K
  show W p l e R s m args below meth c H locs cells slots Q (F0 m pc ls (.int (Int32.ofInt j) :: .ref bs :: st.map (x_conc bs L)))
  refine va_sld hx hb hX hbl hbA S.2.1 (by have := x_vpin oj h0 h1; simpa using this) hd ?_
  rw [x_clamp oj]
  exact K

theorem x_s55 (F : x_Fr p R s m args meth c D cy A y) (C : x_Ck y k 55 a t u pc) (S : x_St s D cy A bs y CC SS L h H locs ls als ast b cells slots) (hscr : x_rk y = 8 → x_Scr s A bs h) (hst : x_stp (55, a, t, u, pc) k als ast b h = some c') (kk : x_K p l e R s m args below meth c Q D cy A bs y CC SS L c') : W p l e R s m args below meth c H locs cells slots Q (F0 m pc ls (ast.map (x_conc bs L))) := by
  have C : (x_D ((x_by y).data.toList.drop pc) pc (x_pc y (k + 1)) .arraylength 1 && decide (x_rk y = 8)) = true := C
  simp only [Bool.and_eq_true, decide_eq_true_eq] at C
  obtain ⟨C, hrk⟩ := C
  have hs : (match (generalizing := false) ast with | .inr r :: st => if r = -2 then some (k + 1, als, .inl (h.2.2 (-2) (-1)) :: st, b, h) else none | _ => none) = some c' := hst
  split at hs
  rotate_left
  · cases hs
  rename_i r st
  split at hs
  rotate_left
  · cases hs
  rename_i hr
  cases hs
  subst hr
  obtain ⟨hy, hx, hb, hml, hown, hts, -⟩ := F
  obtain ⟨hd, hp⟩ := x_D_ok C
  have ho := S.2.2.2.2.1
  obtain ⟨N, xs, hX, hbl, hbA, hv, hN, hN2⟩ := hscr hrk
  have K : W p l e R s m args below meth c H locs cells slots Q (F0 m (x_pc y (k + 1)) ls (.int (Int32.ofInt (h.2.2 (-2) (-1))) :: st.map (x_conc bs L))) := kk L H locs ls cells slots (x_ext_rf L) (S.stk (x_cons (show x_okv h.1 (.inl (h.2.2 (-2) (-1))) from S.1.2.1 _ _) (x_tls ho)))
  rw [hN, hp] at K
  show W p l e R s m args below meth c H locs cells slots Q (F0 m pc ls (.ref bs :: st.map (x_conc bs L)))
  exact va_slen hx hb hX hbl hbA S.2.1 hd K

end
end
section
/-! fields, rows, new cells -/
theorem x_cls {c : Nat} (hc : c < 8) : vwCl[c]? = some ((x_q c).1, (x_q c).2.1, xnsl c) ∧ (∀ w ∈ u_ws (x_q c).1 (x_q c).2.1 (xnsl c), w ∈ lw_tbl ∧ goodWord w = true) ∧ (∀ j, j < xnsl c → parseFieldDescriptor ((x_q c).2.1 j).2.2.1 = some (x_ty c j)) ∧ (∀ a, a < xnsl c → ∀ b, b < xnsl c → a ≠ b → ((x_q c).2.1 a).2.1 ≠ ((x_q c).2.1 b).2.1) := by
  have h1 := List.all_eq_true.mp x_tyok c (List.mem_range.mpr hc)
  simp only [Bool.and_eq_true, decide_eq_true_eq] at h1
  have h2 := List.all_eq_true.mp x_layok c (List.mem_range.mpr hc)
  refine ⟨?_, ?_, ?_, ?_⟩
  · have : vwCl[c]? = some (x_q c) := by
      unfold x_q
      rw [List.getD_eq_getElem?_getD, List.getElem?_eq_getElem (show c < vwCl.length from hc)]
      rfl
    rw [this, ← h1.1]
  · intro w hw
    obtain ⟨j, hj, rfl⟩ := List.mem_map.mp hw
    have := List.all_eq_true.mp h2 j hj
    simp only [Bool.and_eq_true] at this
    exact ⟨x_wd_ok this.1, this.2⟩
  · intro j hj
    have := List.all_eq_true.mp h1.2 j (List.mem_range.mpr hj)
    simp only [Bool.and_eq_true, decide_eq_true_eq] at this
    exact this.1
  · rcases (show c = 0 ∨ c = 1 ∨ c = 2 ∨ c = 3 ∨ c = 4 ∨ c = 5 ∨ c = 6 ∨ c = 7 by omega) with rfl | rfl | rfl | rfl | rfl | rfl | rfl | rfl
    · exact nmX0
    · exact nmX1
    · exact nmX2
    · exact nmX3
    · exact nmX4
    · exact nmX5
    · exact nmX6
    · exact nmX7
theorem x_tyI {c j : Nat} (hc : c < 8) (hj : j < xnsl c) : if xrf c j = true then (∃ n, x_ty c j = .object n) ∨ (∃ n, x_ty c j = .array n) else if ((x_q c).2.1 j).2.2.1 = "I" then x_ty c j = .int else x_ty c j = .boolean := by
  have h1 := List.all_eq_true.mp x_tyok c (List.mem_range.mpr hc)
  simp only [Bool.and_eq_true, decide_eq_true_eq] at h1
  have := List.all_eq_true.mp h1.2 j (List.mem_range.mpr hj)
  simp only [Bool.and_eq_true, decide_eq_true_eq] at this
  obtain ⟨-, h3⟩ := this
  by_cases q : xrf c j = true
  · rw [if_pos q] at h3 ⊢
    cases ht : x_ty c j <;> rw [ht] at h3 <;> first | exact Or.inl ⟨_, rfl⟩ | exact Or.inr ⟨_, rfl⟩ | cases h3
  · rw [if_neg q] at h3 ⊢
    by_cases q2 : ((x_q c).2.1 j).2.2.1 = "I"
    · rw [if_pos q2] at h3 ⊢
      exact of_decide_eq_true h3
    · rw [if_neg q2] at h3 ⊢
      exact of_decide_eq_true h3
theorem x_fl_ok {u : Nat} {own : String} {t pc p2 : Nat} {f : Nat → Instr} {sf : List UInt8} (h : x_ckF own t u f sf pc p2 = true) : ∃ (pl ix c j : Nat), t = c * 16 + j ∧ c < 8 ∧ j < xnsl c ∧ j < 16 ∧ x_wd pl (.fieldLink own ix ((x_q c).2.1 j).1 ((x_q c).2.1 j).2.1 ((x_q c).2.1 j).2.2.1) = true ∧ x_D sf pc p2 (f ix) 3 = true := by
  unfold x_ckF at h
  cases hq : xfl[u]? with
  | none => rw [hq] at h; cases h
  | some q =>
    obtain ⟨pl, o, ix, c, j⟩ := q
    rw [hq] at h
    simp only [Bool.and_eq_true, decide_eq_true_eq] at h
    obtain ⟨⟨rfl, ht⟩, hD⟩ := h
    have := List.all_eq_true.mp x_flok _ (List.mem_of_getElem? hq)
    simp only [Bool.and_eq_true, decide_eq_true_eq] at this
    exact ⟨pl, ix, c, j, ht, this.1.1.1, this.1.1.2, this.1.2, this.2, hD⟩
theorem x_ent_cg {cy : Nat → ClassId} {L : List Nat} {h h' : xH} {q : Int} (hM : ∀ j, h'.2.2 q j = h.2.2 q j) (hP : ∀ j, h'.2.1 q j = h.2.1 q j) : x_ent cy L h' q = x_ent cy L h q := by
  unfold x_ent x_fs x_fv
  simp only [hM, hP]
theorem x_up_ne {f : Int → Int → Int} {a k v b j : Int} (h : b ≠ a) : x_up f a k v b j = f b j := by
  unfold x_up
  rw [if_neg (fun q => h q.1)]
theorem x_up_nk {f : Int → Int → Int} {a k v b j : Int} (h : j ≠ k) : x_up f a k v b j = f b j := by
  unfold x_up
  rw [if_neg (fun q => h q.2)]
theorem x_up_self {f : Int → Int → Int} {a k v : Int} : x_up f a k v a k = v := by
  unfold x_up
  rw [if_pos ⟨rfl, rfl⟩]
section
variable {p : Program} {l : Launch} {e : Env} {R : Room} {s : State} {m : MethodId} {args : Array Value} {below : List Frame} {meth : Method} {c : Code} {Q : State → Prop}
variable {D : va_G} {cy : Nat → ClassId} {A : Nat → Prop} {bs y CC SS : Nat} {L : List Nat} {h : xH} {H : Heap} {locs : List Loc} {ls : Array Slot} {als ast : List xV} {b : xB} {cells slots k : Nat}
variable {a : Int} {t u pc p2 : Nat} {c' : xC}
theorem x_Vw.upM (V : x_Vw D cy A L h H) {r j v : Int} (h0 : 0 ≤ r) (h1 : r < h.1) (hv : x_in32 v) {e : va_E} (he : x_ent cy L (h.1, h.2.1, x_up h.2.2 r j v) r = e) {H1 : Heap} (hP : va_P D vwCl ((x_ws cy L h).set r.toNat (L.getD r.toNat 0, e)) H1) (hD : va_D A ((x_ws cy L h).set r.toNat (L.getD r.toNat 0, e))) : x_Vw D cy A L (h.1, h.2.1, x_up h.2.2 r j v) H1 := by
  have hl : r < L.length := by rw [V.1]; exact h1
  rw [x_ws_set (h := h) (h' := (h.1, h.2.1, x_up h.2.2 r j v)) h0 hl he (fun q hq => x_ent_cg (fun i => x_up_ne hq) (fun i => rfl))] at hP hD
  refine ⟨V.1, fun a k => ?_, V.2.2.1, hP, hD⟩
  show x_in32 (x_up h.2.2 r j v a k)
  unfold x_up
  split
  · exact hv
  · exact V.2.1 a k
theorem x_Vw.upP (V : x_Vw D cy A L h H) {r j v : Int} (h0 : 0 ≤ r) (h1 : r < h.1) (hv : -1 ≤ v ∧ v < h.1) {e : va_E} (he : x_ent cy L (h.1, x_up h.2.1 r j v, h.2.2) r = e) {H1 : Heap} (hP : va_P D vwCl ((x_ws cy L h).set r.toNat (L.getD r.toNat 0, e)) H1) (hD : va_D A ((x_ws cy L h).set r.toNat (L.getD r.toNat 0, e))) : x_Vw D cy A L (h.1, x_up h.2.1 r j v, h.2.2) H1 := by
  have hl : r < L.length := by rw [V.1]; exact h1
  rw [x_ws_set (h := h) (h' := (h.1, x_up h.2.1 r j v, h.2.2)) h0 hl he (fun q hq => x_ent_cg (fun i => rfl) (fun i => x_up_ne hq))] at hP hD
  refine ⟨V.1, V.2.1, fun a k => ?_, hP, hD⟩
  show -1 ≤ x_up h.2.1 r j v a k ∧ x_up h.2.1 r j v a k < h.1
  unfold x_up
  split
  · exact hv
  · exact V.2.2.1 a k
/-- the heap and the stack change, the rest stays -/
theorem x_St.hp (S : x_St s D cy A bs y CC SS L h H locs ls als ast b cells slots) {h' : xH} {H' : Heap} {locs' : List Loc} {ast' : List xV} (hz : h'.1 = h.1) (V : x_Vw D cy A L h' H') (hS : va_S A s.heap H' locs') (ho : ∀ v ∈ ast', x_okv h.1 v) : x_St s D cy A bs y CC SS L h' H' locs' ls als ast' b cells slots :=
  ⟨V, hS, S.2.2.1, fun v hv => by rw [hz]; exact S.2.2.2.1 v hv, fun v hv => by rw [hz]; exact ho v hv, S.2.2.2.2.2⟩

theorem x_s24 (F : x_Fr p R s m args meth c D cy A y) (C : x_Ck y k 24 a t u pc) (S : x_St s D cy A bs y CC SS L h H locs ls als ast b cells slots) (hst : x_stp (24, a, t, u, pc) k als ast b h = some c') (kk : x_K p l e R s m args below meth c Q D cy A bs y CC SS L c') : W p l e R s m args below meth c H locs cells slots Q (F0 m pc ls (ast.map (x_conc bs L))) := by
  have C : (x_ckF (x_nm y).cls t u .getfield ((x_by y).data.toList.drop pc) pc (x_pc y (k + 1)) && decide (xrf (t / 16) (t % 16) = false)) = true := C
  simp only [Bool.and_eq_true, decide_eq_true_eq] at C
  obtain ⟨C, hrf⟩ := C
  obtain ⟨pl, ix, cn, j, ht, hc8, hj, hj16, hw, hD⟩ := x_fl_ok C
  have e1 : t / 16 = cn := by omega
  have e2 : t % 16 = j := by omega
  rw [e1, e2] at hrf
  have hs : (match (generalizing := false) ast with | .inr r :: st => if x_ok h.1 r (t / 16) then some (k + 1, als, .inl (h.2.2 r (t % 16 : Nat)) :: st, b, h) else none | _ => none) = some c' := hst
  rw [e1, e2] at hs
  split at hs
  rotate_left
  · cases hs
  rename_i r st
  split at hs
  rotate_left
  · cases hs
  rename_i hk
  cases hs
  obtain ⟨hy, hx, hb, hml, hown, hts, hinit, hK, hAO, hfr, hlo, hA⟩ := F
  have hts2 : ∀ w ∈ lw_tbl.filter goodWord, w.before args s = true := fun w hw => hts w (List.mem_filter.mp hw).1 (List.mem_filter.mp hw).2
  obtain ⟨V, hS, -⟩ := id S
  obtain ⟨h0, h1, hkd⟩ := x_ok_ok hk
  obtain ⟨hd, hp⟩ := x_D_ok hD
  obtain ⟨q1, q2, q3, q4⟩ := x_cls hc8
  have hl : r < L.length := by rw [V.1]; exact h1
  have ho := S.2.2.2.2.1
  have K : W p l e R s m args below meth c H locs cells slots Q (F0 m (x_pc y (k + 1)) ls (.int (Int32.ofInt (h.2.2 r j)) :: st.map (x_conc bs L))) := kk L H locs ls cells slots (x_ext_rf L) (S.stk (x_cons (show x_okv h.1 (.inl (h.2.2 r j)) from V.2.1 r j) (x_tls ho)))
  rw [hp] at K
  have hv : (x_fs L h r cn)[j]? = some (.int (Int32.ofInt (h.2.2 r j))) := by
    rw [x_fs_get hj]
    unfold x_fv
    rw [if_neg (by rw [hrf]; decide)]
  show W p l e R s m args below meth c H locs cells slots Q (F0 m pc ls (x_conc bs L (.inr r) :: st.map (x_conc bs L)))
  rw [x_ref h0]
  exact va_get hx hb hts2 (fun w hw => List.mem_filter.mpr (q2 w hw)) hown hK V.2.2.2.1 r.toNat ((x_ws_get h0 hl).trans (by rw [x_ent_obj hkd hc8])) q1 j hj (hts _ (x_wd_ok hw) rfl) (fun x hx => hx) hv hd K

theorem x_s25 (F : x_Fr p R s m args meth c D cy A y) (C : x_Ck y k 25 a t u pc) (S : x_St s D cy A bs y CC SS L h H locs ls als ast b cells slots) (hst : x_stp (25, a, t, u, pc) k als ast b h = some c') (kk : x_K p l e R s m args below meth c Q D cy A bs y CC SS L c') : W p l e R s m args below meth c H locs cells slots Q (F0 m pc ls (ast.map (x_conc bs L))) := by
  have C : (x_ckF (x_nm y).cls t u .getfield ((x_by y).data.toList.drop pc) pc (x_pc y (k + 1)) && decide (xrf (t / 16) (t % 16) = true)) = true := C
  simp only [Bool.and_eq_true, decide_eq_true_eq] at C
  obtain ⟨C, hrf⟩ := C
  obtain ⟨pl, ix, cn, j, ht, hc8, hj, hj16, hw, hD⟩ := x_fl_ok C
  have e1 : t / 16 = cn := by omega
  have e2 : t % 16 = j := by omega
  rw [e1, e2] at hrf
  have hs : (match (generalizing := false) ast with | .inr r :: st => if x_ok h.1 r (t / 16) then some (k + 1, als, .inr (h.2.1 r (t % 16 : Nat)) :: st, b, h) else none | _ => none) = some c' := hst
  rw [e1, e2] at hs
  split at hs
  rotate_left
  · cases hs
  rename_i r st
  split at hs
  rotate_left
  · cases hs
  rename_i hk
  cases hs
  obtain ⟨hy, hx, hb, hml, hown, hts, hinit, hK, hAO, hfr, hlo, hA⟩ := F
  have hts2 : ∀ w ∈ lw_tbl.filter goodWord, w.before args s = true := fun w hw => hts w (List.mem_filter.mp hw).1 (List.mem_filter.mp hw).2
  obtain ⟨V, hS, -⟩ := id S
  obtain ⟨h0, h1, hkd⟩ := x_ok_ok hk
  obtain ⟨hd, hp⟩ := x_D_ok hD
  obtain ⟨q1, q2, q3, q4⟩ := x_cls hc8
  have hl : r < L.length := by rw [V.1]; exact h1
  have ho := S.2.2.2.2.1
  have K : W p l e R s m args below meth c H locs cells slots Q (F0 m (x_pc y (k + 1)) ls (x_conc bs L (.inr (h.2.1 r j)) :: st.map (x_conc bs L))) := kk L H locs ls cells slots (x_ext_rf L) (S.stk (x_cons (show x_okv h.1 (.inr (h.2.1 r j)) from (V.2.2.1 r j).2) (x_tls ho)))
  have er : x_conc bs L (.inr (h.2.1 r j)) = va_rf (x_rf L (h.2.1 r j)) := if_neg (by have := (V.2.2.1 r j).1; omega)
  rw [er] at K
  rw [hp] at K
  have hv : (x_fs L h r cn)[j]? = some (va_rf (x_rf L (h.2.1 r j))) := by
    rw [x_fs_get hj]
    unfold x_fv
    rw [if_pos hrf]
  show W p l e R s m args below meth c H locs cells slots Q (F0 m pc ls (x_conc bs L (.inr r) :: st.map (x_conc bs L)))
  rw [x_ref h0]
  exact va_get hx hb hts2 (fun w hw => List.mem_filter.mpr (q2 w hw)) hown hK V.2.2.2.1 r.toNat ((x_ws_get h0 hl).trans (by rw [x_ent_obj hkd hc8])) q1 j hj (hts _ (x_wd_ok hw) rfl) (fun x hx => hx) hv hd K

theorem x_s26 (F : x_Fr p R s m args meth c D cy A y) (C : x_Ck y k 26 a t u pc) (S : x_St s D cy A bs y CC SS L h H locs ls als ast b cells slots) (hst : x_stp (26, a, t, u, pc) k als ast b h = some c') (kk : x_K p l e R s m args below meth c Q D cy A bs y CC SS L c') : W p l e R s m args below meth c H locs cells slots Q (F0 m pc ls (ast.map (x_conc bs L))) := by
  have C : (x_ckF (x_nm y).cls t u .putfield ((x_by y).data.toList.drop pc) pc (x_pc y (k + 1)) && decide (xrf (t / 16) (t % 16) = false) && decide (((x_q (t / 16)).2.1 (t % 16)).2.2.1 = "I") && (decide (((x_q (t / 16)).2.1 (t % 16)).2.2.2 = false) || (decide (x_st y = 2) && decide (((x_q (t / 16)).2.1 (t % 16)).1 = (x_nm y).cls)))) = true := C
  simp only [Bool.and_eq_true, Bool.or_eq_true, decide_eq_true_eq] at C
  obtain ⟨⟨⟨C, hrf⟩, hdesc⟩, hfin⟩ := C
  obtain ⟨pl, ix, cn, j, ht, hc8, hj, hj16, hw, hD⟩ := x_fl_ok C
  have e1 : t / 16 = cn := by omega
  have e2 : t % 16 = j := by omega
  rw [e1, e2] at hrf hfin hdesc
  have hs : (match (generalizing := false) ast with | .inl v :: .inr r :: st => if x_ok h.1 r (t / 16) then some (k + 1, als, st, b, (h.1, h.2.1, x_up h.2.2 r (t % 16 : Nat) v)) else none | _ => none) = some c' := hst
  rw [e1, e2] at hs
  split at hs
  rotate_left
  · cases hs
  rename_i v r st
  split at hs
  rotate_left
  · cases hs
  rename_i hk
  cases hs
  obtain ⟨hy, hx, hb, hml, hown, hts, hinit, hK, hAO, hfr, hlo, hA⟩ := F
  have hts2 : ∀ w ∈ lw_tbl.filter goodWord, w.before args s = true := fun w hw => hts w (List.mem_filter.mp hw).1 (List.mem_filter.mp hw).2
  obtain ⟨V, hS, -⟩ := id S
  obtain ⟨h0, h1, hkd⟩ := x_ok_ok hk
  obtain ⟨hd, hp⟩ := x_D_ok hD
  obtain ⟨q1, q2, q3, q4⟩ := x_cls hc8
  have hl : r < L.length := by rw [V.1]; exact h1
  have ho := S.2.2.2.2.1
  have hti := x_tyI hc8 hj
  have hty : narrow (x_ty cn j) (.int (Int32.ofInt v)) = .int (Int32.ofInt v) ∧ fits (x_ty cn j) (.int (Int32.ofInt v)) = true := by
    rw [if_neg (by rw [hrf]; decide), if_pos hdesc] at hti
    rw [hti]
    exact ⟨rfl, rfl⟩
  have hv : x_in32 v := x_hd ho
  have he : x_ent cy L (h.1, h.2.1, x_up h.2.2 r (j) v) r = .inr (cn, (x_fs L h r cn).set j (.int (Int32.ofInt v))) := by
    rw [x_ent_obj hkd hc8, x_fs_set hj (h' := (h.1, h.2.1, x_up h.2.2 r (j) v))]
    · unfold x_fv
      rw [if_neg (by rw [hrf]; decide)]
      show Value.int (Int32.ofInt (x_up h.2.2 r j v r j)) = _
      rw [x_up_self]
    · intro i hi
      unfold x_fv
      show (if _ then va_rf (x_rf L (h.2.1 r i)) else .int (Int32.ofInt (x_up h.2.2 r j v r i))) = _
      rw [x_up_nk (by omega)]
  have key : ∀ (H1 : Heap) (locs1 : List Loc), va_P D vwCl ((x_ws cy L h).set r.toNat (L.getD r.toNat 0, .inr (cn, (x_fs L h r cn).set j (.int (Int32.ofInt v))))) H1 → va_D A ((x_ws cy L h).set r.toNat (L.getD r.toNat 0, .inr (cn, (x_fs L h r cn).set j (.int (Int32.ofInt v))))) → va_S A s.heap H1 locs1 → W p l e R s m args below meth c H1 locs1 cells slots Q (F0 m (pc + 3) ls (st.map (x_conc bs L))) := fun H1 locs1 g1 g2 g3 => by
    have K := kk L H1 locs1 ls cells slots (x_ext_rf L) (S.hp rfl (V.upM h0 h1 hv he g1 g2) g3 (x_tls (x_tls ho)))
    exact W.eq (by show F0 m (pc + 3) ls _ = F0 m (x_pc y (k + 1)) ls _; rw [hp]) K
  show W p l e R s m args below meth c H locs cells slots Q (F0 m pc ls (x_conc bs L (.inl v) :: x_conc bs L (.inr r) :: st.map (x_conc bs L)))
  rw [x_ref h0]
  show W p l e R s m args below meth c H locs cells slots Q (F0 m pc ls (.int (Int32.ofInt v) :: .ref (L.getD r.toNat 0) :: st.map (x_conc bs L)))
  rcases hfin with hfin | ⟨hst2, hdecl⟩
  · exact va_put hx hb hts2 (fun w hw => List.mem_filter.mpr (q2 w hw)) (x_ty cn) q3 q4 hown hK V.2.2.2.1 V.2.2.2.2 hS r.toNat ((x_ws_get h0 hl).trans (by rw [x_ent_obj hkd hc8])) q1 j hj (hts _ (x_wd_ok hw) rfl) (fun x hx => hx) hfin (q3 j hj) hty.1 hty.2 (by simp [x_fs]; exact hj) hd key
  · by_cases hfn : ((x_q cn).2.1 j).2.2.2 = false
    · exact va_put hx hb hts2 (fun w hw => List.mem_filter.mpr (q2 w hw)) (x_ty cn) q3 q4 hown hK V.2.2.2.1 V.2.2.2.2 hS r.toNat ((x_ws_get h0 hl).trans (by rw [x_ent_obj hkd hc8])) q1 j hj (hts _ (x_wd_ok hw) rfl) (fun x hx => hx) hfn (q3 j hj) hty.1 hty.2 (by simp [x_fs]; exact hj) hd key
    · exact va_putF hx hb hts2 (fun w hw => List.mem_filter.mpr (q2 w hw)) (x_ty cn) q3 q4 hown hK V.2.2.2.1 V.2.2.2.2 hS r.toNat ((x_ws_get h0 hl).trans (by rw [x_ent_obj hkd hc8])) q1 j hj (hts _ (x_wd_ok hw) rfl) (fun x hx => hx) (by simpa using hfn) (hinit hst2) hdecl (q3 j hj) hty.1 hty.2 (by simp [x_fs]; exact hj) hd key

theorem x_s27 (F : x_Fr p R s m args meth c D cy A y) (C : x_Ck y k 27 a t u pc) (S : x_St s D cy A bs y CC SS L h H locs ls als ast b cells slots) (hst : x_stp (27, a, t, u, pc) k als ast b h = some c') (kk : x_K p l e R s m args below meth c Q D cy A bs y CC SS L c') : W p l e R s m args below meth c H locs cells slots Q (F0 m pc ls (ast.map (x_conc bs L))) := by
  have C : (x_ckF (x_nm y).cls t u .putfield ((x_by y).data.toList.drop pc) pc (x_pc y (k + 1)) && decide (xrf (t / 16) (t % 16) = true) && (decide (((x_q (t / 16)).2.1 (t % 16)).2.2.2 = false) || (decide (x_st y = 2) && decide (((x_q (t / 16)).2.1 (t % 16)).1 = (x_nm y).cls)))) = true := C
  simp only [Bool.and_eq_true, Bool.or_eq_true, decide_eq_true_eq] at C
  obtain ⟨⟨C, hrf⟩, hfin⟩ := C
  obtain ⟨pl, ix, cn, j, ht, hc8, hj, hj16, hw, hD⟩ := x_fl_ok C
  have e1 : t / 16 = cn := by omega
  have e2 : t % 16 = j := by omega
  rw [e1, e2] at hrf hfin
  have hs : (match (generalizing := false) ast with | .inr v :: .inr r :: st => if x_ok h.1 r (t / 16) ∧ -1 ≤ v then some (k + 1, als, st, b, (h.1, x_up h.2.1 r (t % 16 : Nat) v, h.2.2)) else none | _ => none) = some c' := hst
  rw [e1, e2] at hs
  split at hs
  rotate_left
  · cases hs
  rename_i v r st
  split at hs
  rotate_left
  · cases hs
  rename_i hk
  cases hs
  obtain ⟨hy, hx, hb, hml, hown, hts, hinit, hK, hAO, hfr, hlo, hA⟩ := F
  have hts2 : ∀ w ∈ lw_tbl.filter goodWord, w.before args s = true := fun w hw => hts w (List.mem_filter.mp hw).1 (List.mem_filter.mp hw).2
  obtain ⟨V, hS, -⟩ := id S
  obtain ⟨h0, h1, hkd⟩ := x_ok_ok hk.1
  obtain ⟨hd, hp⟩ := x_D_ok hD
  obtain ⟨q1, q2, q3, q4⟩ := x_cls hc8
  have hl : r < L.length := by rw [V.1]; exact h1
  have ho := S.2.2.2.2.1
  have hti := x_tyI hc8 hj
  have hty : narrow (x_ty cn j) (va_rf (x_rf L v)) = va_rf (x_rf L v) ∧ fits (x_ty cn j) (va_rf (x_rf L v)) = true := by
    rw [if_pos hrf] at hti
    rcases hti with ⟨n, hti⟩ | ⟨n, hti⟩ <;> rw [hti] <;> cases x_rf L v <;> exact ⟨rfl, rfl⟩
  have hv : -1 ≤ v ∧ v < h.1 := ⟨hk.2, x_hd ho⟩
  have he : x_ent cy L (h.1, x_up h.2.1 r (j) v, h.2.2) r = .inr (cn, (x_fs L h r cn).set j (va_rf (x_rf L v))) := by
    rw [x_ent_obj hkd hc8, x_fs_set hj (h' := (h.1, x_up h.2.1 r (j) v, h.2.2))]
    · unfold x_fv
      rw [if_pos hrf]
      show va_rf (x_rf L (x_up h.2.1 r j v r j)) = _
      rw [x_up_self]
    · intro i hi
      unfold x_fv
      show (if _ then va_rf (x_rf L (x_up h.2.1 r j v r i)) else .int (Int32.ofInt (h.2.2 r i))) = _
      rw [x_up_nk (by omega)]
  have key : ∀ (H1 : Heap) (locs1 : List Loc), va_P D vwCl ((x_ws cy L h).set r.toNat (L.getD r.toNat 0, .inr (cn, (x_fs L h r cn).set j (va_rf (x_rf L v))))) H1 → va_D A ((x_ws cy L h).set r.toNat (L.getD r.toNat 0, .inr (cn, (x_fs L h r cn).set j (va_rf (x_rf L v))))) → va_S A s.heap H1 locs1 → W p l e R s m args below meth c H1 locs1 cells slots Q (F0 m (pc + 3) ls (st.map (x_conc bs L))) := fun H1 locs1 g1 g2 g3 => by
    have K := kk L H1 locs1 ls cells slots (x_ext_rf L) (S.hp rfl (V.upP h0 h1 hv he g1 g2) g3 (x_tls (x_tls ho)))
    exact W.eq (by show F0 m (pc + 3) ls _ = F0 m (x_pc y (k + 1)) ls _; rw [hp]) K
  show W p l e R s m args below meth c H locs cells slots Q (F0 m pc ls (x_conc bs L (.inr v) :: x_conc bs L (.inr r) :: st.map (x_conc bs L)))
  rw [x_ref h0]
  have er : x_conc bs L (.inr v) = va_rf (x_rf L v) := if_neg (by omega)
  rw [er]
  rcases hfin with hfin | ⟨hst2, hdecl⟩
  · exact va_put hx hb hts2 (fun w hw => List.mem_filter.mpr (q2 w hw)) (x_ty cn) q3 q4 hown hK V.2.2.2.1 V.2.2.2.2 hS r.toNat ((x_ws_get h0 hl).trans (by rw [x_ent_obj hkd hc8])) q1 j hj (hts _ (x_wd_ok hw) rfl) (fun x hx => hx) hfin (q3 j hj) hty.1 hty.2 (by simp [x_fs]; exact hj) hd key
  · by_cases hfn : ((x_q cn).2.1 j).2.2.2 = false
    · exact va_put hx hb hts2 (fun w hw => List.mem_filter.mpr (q2 w hw)) (x_ty cn) q3 q4 hown hK V.2.2.2.1 V.2.2.2.2 hS r.toNat ((x_ws_get h0 hl).trans (by rw [x_ent_obj hkd hc8])) q1 j hj (hts _ (x_wd_ok hw) rfl) (fun x hx => hx) hfn (q3 j hj) hty.1 hty.2 (by simp [x_fs]; exact hj) hd key
    · exact va_putF hx hb hts2 (fun w hw => List.mem_filter.mpr (q2 w hw)) (x_ty cn) q3 q4 hown hK V.2.2.2.1 V.2.2.2.2 hS r.toNat ((x_ws_get h0 hl).trans (by rw [x_ent_obj hkd hc8])) q1 j hj (hts _ (x_wd_ok hw) rfl) (fun x hx => hx) (by simpa using hfn) (hinit hst2) hdecl (q3 j hj) hty.1 hty.2 (by simp [x_fs]; exact hj) hd key

theorem x_s32 (F : x_Fr p R s m args meth c D cy A y) (C : x_Ck y k 32 a t u pc) (S : x_St s D cy A bs y CC SS L h H locs ls als ast b cells slots) (hst : x_stp (32, a, t, u, pc) k als ast b h = some c') (kk : x_K p l e R s m args below meth c Q D cy A bs y CC SS L c') : W p l e R s m args below meth c H locs cells slots Q (F0 m pc ls (ast.map (x_conc bs L))) := by
  have C : (x_ckF (x_nm y).cls t u .putfield ((x_by y).data.toList.drop pc) pc (x_pc y (k + 1)) && decide (xrf (t / 16) (t % 16) = false) && decide (((x_q (t / 16)).2.1 (t % 16)).2.2.1 = "Z") && decide (((x_q (t / 16)).2.1 (t % 16)).2.2.2 = false)) = true := C
  simp only [Bool.and_eq_true, Bool.or_eq_true, decide_eq_true_eq] at C
  obtain ⟨⟨⟨C, hrf⟩, hdesc⟩, hfin⟩ := C
  obtain ⟨pl, ix, cn, j, ht, hc8, hj, hj16, hw, hD⟩ := x_fl_ok C
  have e1 : t / 16 = cn := by omega
  have e2 : t % 16 = j := by omega
  rw [e1, e2] at hrf hfin hdesc
  have hs : (match (generalizing := false) ast with | .inl v :: .inr r :: st => if x_ok h.1 r (t / 16) ∧ (v = 0 ∨ v = 1) then some (k + 1, als, st, b, (h.1, h.2.1, x_up h.2.2 r (t % 16 : Nat) v)) else none | _ => none) = some c' := hst
  rw [e1, e2] at hs
  split at hs
  rotate_left
  · cases hs
  rename_i v r st
  split at hs
  rotate_left
  · cases hs
  rename_i hk
  cases hs
  obtain ⟨hy, hx, hb, hml, hown, hts, hinit, hK, hAO, hfr, hlo, hA⟩ := F
  have hts2 : ∀ w ∈ lw_tbl.filter goodWord, w.before args s = true := fun w hw => hts w (List.mem_filter.mp hw).1 (List.mem_filter.mp hw).2
  obtain ⟨V, hS, -⟩ := id S
  obtain ⟨h0, h1, hkd⟩ := x_ok_ok hk.1
  obtain ⟨hd, hp⟩ := x_D_ok hD
  obtain ⟨q1, q2, q3, q4⟩ := x_cls hc8
  have hl : r < L.length := by rw [V.1]; exact h1
  have ho := S.2.2.2.2.1
  have hti := x_tyI hc8 hj
  have hty : narrow (x_ty cn j) (.int (Int32.ofInt v)) = .int (Int32.ofInt v) ∧ fits (x_ty cn j) (.int (Int32.ofInt v)) = true := by
    rw [if_neg (by rw [hrf]; decide), if_neg (by rw [hdesc]; decide)] at hti
    rw [hti]
    rcases hk.2 with rfl | rfl <;> exact ⟨rfl, rfl⟩
  have hv : x_in32 v := x_hd ho
  have he : x_ent cy L (h.1, h.2.1, x_up h.2.2 r (j) v) r = .inr (cn, (x_fs L h r cn).set j (.int (Int32.ofInt v))) := by
    rw [x_ent_obj hkd hc8, x_fs_set hj (h' := (h.1, h.2.1, x_up h.2.2 r (j) v))]
    · unfold x_fv
      rw [if_neg (by rw [hrf]; decide)]
      show Value.int (Int32.ofInt (x_up h.2.2 r j v r j)) = _
      rw [x_up_self]
    · intro i hi
      unfold x_fv
      show (if _ then va_rf (x_rf L (h.2.1 r i)) else .int (Int32.ofInt (x_up h.2.2 r j v r i))) = _
      rw [x_up_nk (by omega)]
  have key : ∀ (H1 : Heap) (locs1 : List Loc), va_P D vwCl ((x_ws cy L h).set r.toNat (L.getD r.toNat 0, .inr (cn, (x_fs L h r cn).set j (.int (Int32.ofInt v))))) H1 → va_D A ((x_ws cy L h).set r.toNat (L.getD r.toNat 0, .inr (cn, (x_fs L h r cn).set j (.int (Int32.ofInt v))))) → va_S A s.heap H1 locs1 → W p l e R s m args below meth c H1 locs1 cells slots Q (F0 m (pc + 3) ls (st.map (x_conc bs L))) := fun H1 locs1 g1 g2 g3 => by
    have K := kk L H1 locs1 ls cells slots (x_ext_rf L) (S.hp rfl (V.upM h0 h1 hv he g1 g2) g3 (x_tls (x_tls ho)))
    exact W.eq (by show F0 m (pc + 3) ls _ = F0 m (x_pc y (k + 1)) ls _; rw [hp]) K
  show W p l e R s m args below meth c H locs cells slots Q (F0 m pc ls (x_conc bs L (.inl v) :: x_conc bs L (.inr r) :: st.map (x_conc bs L)))
  rw [x_ref h0]
  show W p l e R s m args below meth c H locs cells slots Q (F0 m pc ls (.int (Int32.ofInt v) :: .ref (L.getD r.toNat 0) :: st.map (x_conc bs L)))
  exact va_put hx hb hts2 (fun w hw => List.mem_filter.mpr (q2 w hw)) (x_ty cn) q3 q4 hown hK V.2.2.2.1 V.2.2.2.2 hS r.toNat ((x_ws_get h0 hl).trans (by rw [x_ent_obj hkd hc8])) q1 j hj (hts _ (x_wd_ok hw) rfl) (fun x hx => hx) hfin (q3 j hj) hty.1 hty.2 (by simp [x_fs]; exact hj) hd key

theorem x_s28 (F : x_Fr p R s m args meth c D cy A y) (C : x_Ck y k 28 a t u pc) (S : x_St s D cy A bs y CC SS L h H locs ls als ast b cells slots) (hst : x_stp (28, a, t, u, pc) k als ast b h = some c') (kk : x_K p l e R s m args below meth c Q D cy A bs y CC SS L c') : W p l e R s m args below meth c H locs cells slots Q (F0 m pc ls (ast.map (x_conc bs L))) := by
  have C : x_D ((x_by y).data.toList.drop pc) pc (x_pc y (k + 1)) .iaload 1 = true := C
  have hs : (match (generalizing := false) ast with | .inl j :: .inr r :: st => if x_ok h.1 r 8 ∧ 0 ≤ j ∧ j < x_ln r then some (k + 1, als, .inl (h.2.2 r j) :: st, b, h) else none | _ => none) = some c' := hst
  split at hs
  rotate_left
  · cases hs
  rename_i j r st
  split at hs
  rotate_left
  · cases hs
  rename_i hg
  cases hs
  obtain ⟨hy, hx, hb, hml, hown, hts, hinit, hK, hAO, hfr, hlo, hA⟩ := F
  have hts2 : ∀ w ∈ lw_tbl.filter goodWord, w.before args s = true := fun w hw => hts w (List.mem_filter.mp hw).1 (List.mem_filter.mp hw).2
  obtain ⟨V, hS, -⟩ := id S
  obtain ⟨hk, hj0, hj1⟩ := hg
  obtain ⟨h0, h1, hkd⟩ := x_ok_ok hk
  obtain ⟨hd, hp⟩ := x_D_ok C
  have hl : r < L.length := by rw [V.1]; exact h1
  have ho := S.2.2.2.2.1
  have oj : x_in32 j := x_hd ho
  have K : W p l e R s m args below meth c H locs cells slots Q (F0 m (x_pc y (k + 1)) ls (.int (Int32.ofInt (h.2.2 r j)) :: st.map (x_conc bs L))) := kk L H locs ls cells slots (x_ext_rf L) (S.stk (x_cons (show x_okv h.1 (.inl (h.2.2 r j)) from V.2.1 r j) (x_tls (x_tls ho))))
  rw [hp] at K
  show W p l e R s m args below meth c H locs cells slots Q (F0 m pc ls (.int (Int32.ofInt j) :: x_conc bs L (.inr r) :: st.map (x_conc bs L)))
  rw [x_ref h0]
  refine va_iald hx hb hK V.2.2.2.1 r.toNat 0 ((x_ws_get h0 hl).trans (by rw [x_ent_int hkd (by decide) (by decide)])) rfl (x_vpin oj hj0 hj1) hd ?_
  show W p l e R s m args below meth c H locs cells slots Q (F0 m (pc + 1) ls (.int (Int32.ofInt (h.2.2 r ((Int32.ofInt j).toNatClampNeg : Int))) :: _))
  rw [x_clamp oj, Int.toNat_of_nonneg hj0]
  exact K

theorem x_s33 (F : x_Fr p R s m args meth c D cy A y) (C : x_Ck y k 33 a t u pc) (S : x_St s D cy A bs y CC SS L h H locs ls als ast b cells slots) (hst : x_stp (33, a, t, u, pc) k als ast b h = some c') (kk : x_K p l e R s m args below meth c Q D cy A bs y CC SS L c') : W p l e R s m args below meth c H locs cells slots Q (F0 m pc ls (ast.map (x_conc bs L))) := by
  have C : x_D ((x_by y).data.toList.drop pc) pc (x_pc y (k + 1)) .baload 1 = true := C
  have hs : (match (generalizing := false) ast with | .inl j :: .inr r :: st => if x_ok h.1 r 9 ∧ 0 ≤ j ∧ j < x_ln r then some (k + 1, als, .inl (h.2.2 r j) :: st, b, h) else none | _ => none) = some c' := hst
  split at hs
  rotate_left
  · cases hs
  rename_i j r st
  split at hs
  rotate_left
  · cases hs
  rename_i hg
  cases hs
  obtain ⟨hy, hx, hb, hml, hown, hts, hinit, hK, hAO, hfr, hlo, hA⟩ := F
  have hts2 : ∀ w ∈ lw_tbl.filter goodWord, w.before args s = true := fun w hw => hts w (List.mem_filter.mp hw).1 (List.mem_filter.mp hw).2
  obtain ⟨V, hS, -⟩ := id S
  obtain ⟨hk, hj0, hj1⟩ := hg
  obtain ⟨h0, h1, hkd⟩ := x_ok_ok hk
  obtain ⟨hd, hp⟩ := x_D_ok C
  have hl : r < L.length := by rw [V.1]; exact h1
  have ho := S.2.2.2.2.1
  have oj : x_in32 j := x_hd ho
  have K : W p l e R s m args below meth c H locs cells slots Q (F0 m (x_pc y (k + 1)) ls (.int (Int32.ofInt (h.2.2 r j)) :: st.map (x_conc bs L))) := kk L H locs ls cells slots (x_ext_rf L) (S.stk (x_cons (show x_okv h.1 (.inl (h.2.2 r j)) from V.2.1 r j) (x_tls (x_tls ho))))
  rw [hp] at K
  show W p l e R s m args below meth c H locs cells slots Q (F0 m pc ls (.int (Int32.ofInt j) :: x_conc bs L (.inr r) :: st.map (x_conc bs L)))
  rw [x_ref h0]
  refine va_zald hx hb hK V.2.2.2.1 r.toNat 1 ((x_ws_get h0 hl).trans (by rw [x_ent_int hkd (by decide) (by decide)])) rfl (x_vpin oj hj0 hj1) hd ?_
  show W p l e R s m args below meth c H locs cells slots Q (F0 m (pc + 1) ls (.int (Int32.ofInt (h.2.2 r ((Int32.ofInt j).toNatClampNeg : Int))) :: _))
  rw [x_clamp oj, Int.toNat_of_nonneg hj0]
  exact K

theorem x_s29 (F : x_Fr p R s m args meth c D cy A y) (C : x_Ck y k 29 a t u pc) (S : x_St s D cy A bs y CC SS L h H locs ls als ast b cells slots) (hst : x_stp (29, a, t, u, pc) k als ast b h = some c') (kk : x_K p l e R s m args below meth c Q D cy A bs y CC SS L c') : W p l e R s m args below meth c H locs cells slots Q (F0 m pc ls (ast.map (x_conc bs L))) := by
  have C : x_D ((x_by y).data.toList.drop pc) pc (x_pc y (k + 1)) .iastore 1 = true := C
  have hs : (match (generalizing := false) ast with | .inl v :: .inl j :: .inr r :: st => if x_ok h.1 r 8 ∧ 0 ≤ j ∧ j < x_ln r then some (k + 1, als, st, b, (h.1, h.2.1, x_up h.2.2 r j v)) else none | _ => none) = some c' := hst
  split at hs
  rotate_left
  · cases hs
  rename_i v j r st
  split at hs
  rotate_left
  · cases hs
  rename_i hg
  cases hs
  obtain ⟨hy, hx, hb, hml, hown, hts, hinit, hK, hAO, hfr, hlo, hA⟩ := F
  have hts2 : ∀ w ∈ lw_tbl.filter goodWord, w.before args s = true := fun w hw => hts w (List.mem_filter.mp hw).1 (List.mem_filter.mp hw).2
  obtain ⟨V, hS, -⟩ := id S
  obtain ⟨hk, hj0, hj1⟩ := hg
  obtain ⟨h0, h1, hkd⟩ := x_ok_ok hk
  obtain ⟨hd, hp⟩ := x_D_ok C
  have hl : r < L.length := by rw [V.1]; exact h1
  have ho := S.2.2.2.2.1
  have ov : x_in32 v := x_hd ho
  have oj : x_in32 j := x_hd (x_tls ho)
  have he : x_ent cy L (h.1, h.2.1, x_up h.2.2 r j v) r = .inl (cy 8, (x_ln r).toNat, .inl (upd (fun i => Int32.ofInt (h.2.2 r i)) (Int32.ofInt j).toNatClampNeg (Int32.ofInt v))) := by
    rw [x_ent_int hkd (by decide) (by decide)]
    congr 4
    funext i
    rw [x_clamp oj]
    unfold upd
    show Int32.ofInt (x_up h.2.2 r j v r i) = _
    by_cases q : i = j.toNat
    · rw [if_pos q]
      have : (i : Int) = j := by omega
      rw [this, x_up_self]
    · rw [if_neg q, x_up_nk (by omega)]
  show W p l e R s m args below meth c H locs cells slots Q (F0 m pc ls (.int (Int32.ofInt v) :: .int (Int32.ofInt j) :: x_conc bs L (.inr r) :: st.map (x_conc bs L)))
  rw [x_ref h0]
  refine va_iast hx hb hK V.2.2.2.1 V.2.2.2.2 hS r.toNat 0 ((x_ws_get h0 hl).trans (by rw [x_ent_int hkd (by decide) (by decide)])) rfl (x_vpin oj hj0 hj1) hd fun H1 locs1 g1 g2 g3 => ?_
  have K := kk L H1 locs1 ls cells slots (x_ext_rf L) (S.hp rfl (V.upM h0 h1 ov he g1 g2) g3 (x_tls (x_tls (x_tls ho))))
  exact W.eq (by show F0 m (pc + 1) ls _ = F0 m (x_pc y (k + 1)) ls _; rw [hp]) K

theorem x_s34 (F : x_Fr p R s m args meth c D cy A y) (C : x_Ck y k 34 a t u pc) (S : x_St s D cy A bs y CC SS L h H locs ls als ast b cells slots) (hst : x_stp (34, a, t, u, pc) k als ast b h = some c') (kk : x_K p l e R s m args below meth c Q D cy A bs y CC SS L c') : W p l e R s m args below meth c H locs cells slots Q (F0 m pc ls (ast.map (x_conc bs L))) := by
  have C : x_D ((x_by y).data.toList.drop pc) pc (x_pc y (k + 1)) .bastore 1 = true := C
  have hs : (match (generalizing := false) ast with | .inl v :: .inl j :: .inr r :: st => if x_ok h.1 r 9 ∧ 0 ≤ j ∧ j < x_ln r ∧ (v = 0 ∨ v = 1) then some (k + 1, als, st, b, (h.1, h.2.1, x_up h.2.2 r j v)) else none | _ => none) = some c' := hst
  split at hs
  rotate_left
  · cases hs
  rename_i v j r st
  split at hs
  rotate_left
  · cases hs
  rename_i hg
  cases hs
  obtain ⟨hy, hx, hb, hml, hown, hts, hinit, hK, hAO, hfr, hlo, hA⟩ := F
  have hts2 : ∀ w ∈ lw_tbl.filter goodWord, w.before args s = true := fun w hw => hts w (List.mem_filter.mp hw).1 (List.mem_filter.mp hw).2
  obtain ⟨V, hS, -⟩ := id S
  obtain ⟨hk, hj0, hj1, hv01⟩ := hg
  obtain ⟨h0, h1, hkd⟩ := x_ok_ok hk
  obtain ⟨hd, hp⟩ := x_D_ok C
  have hl : r < L.length := by rw [V.1]; exact h1
  have ho := S.2.2.2.2.1
  have ov : x_in32 v := x_hd ho
  have oj : x_in32 j := x_hd (x_tls ho)
  have he : x_ent cy L (h.1, h.2.1, x_up h.2.2 r j v) r = .inl (cy 9, (x_ln r).toNat, .inl (upd (fun i => Int32.ofInt (h.2.2 r i)) (Int32.ofInt j).toNatClampNeg (vp_nar .boolean (Int32.ofInt v)))) := by
    rw [x_ent_int hkd (by decide) (by decide)]
    congr 4
    funext i
    rw [x_clamp oj]
    unfold upd
    show Int32.ofInt (x_up h.2.2 r j v r i) = _
    by_cases q : i = j.toNat
    · rw [if_pos q]
      have : (i : Int) = j := by omega
      rw [this, x_up_self]
      rcases hv01 with rfl | rfl <;> rfl
    · rw [if_neg q, x_up_nk (by omega)]
  show W p l e R s m args below meth c H locs cells slots Q (F0 m pc ls (.int (Int32.ofInt v) :: .int (Int32.ofInt j) :: x_conc bs L (.inr r) :: st.map (x_conc bs L)))
  rw [x_ref h0]
  refine va_zast hx hb hK V.2.2.2.1 V.2.2.2.2 hS r.toNat 1 ((x_ws_get h0 hl).trans (by rw [x_ent_int hkd (by decide) (by decide)])) rfl (x_vpin oj hj0 hj1) hd fun H1 locs1 g1 g2 g3 => ?_
  have K := kk L H1 locs1 ls cells slots (x_ext_rf L) (S.hp rfl (V.upM h0 h1 ov he g1 g2) g3 (x_tls (x_tls (x_tls ho))))
  exact W.eq (by show F0 m (pc + 1) ls _ = F0 m (x_pc y (k + 1)) ls _; rw [hp]) K

theorem x_tysR {cy : Nat → ClassId} {n : Nat} (h1 : 10 ≤ n) (h2 : n < 14) : (x_tys cy)[n - 8]? = some (cy n, .object (["WheelStands$Cart", "WheelStands$Stand", "WheelStands$Town", "WheelStands$Wheel"].getD (n - 10) "")) ∧ (x_q ([0, 2, 4, 5].getD (n - 10) 99)).1 = ["WheelStands$Cart", "WheelStands$Stand", "WheelStands$Town", "WheelStands$Wheel"].getD (n - 10) "" ∧ [0, 2, 4, 5].getD (n - 10) 99 < 8 ∧ ["WheelStands$Cart", "WheelStands$Stand", "WheelStands$Town", "WheelStands$Wheel"].getD (n - 10) "" ∈ x_aos := by
  rcases (show n = 10 ∨ n = 11 ∨ n = 12 ∨ n = 13 by omega) with rfl | rfl | rfl | rfl <;> exact ⟨rfl, rfl, by decide, by decide⟩

theorem x_s30 (F : x_Fr p R s m args meth c D cy A y) (C : x_Ck y k 30 a t u pc) (S : x_St s D cy A bs y CC SS L h H locs ls als ast b cells slots) (hst : x_stp (30, a, t, u, pc) k als ast b h = some c') (kk : x_K p l e R s m args below meth c Q D cy A bs y CC SS L c') : W p l e R s m args below meth c H locs cells slots Q (F0 m pc ls (ast.map (x_conc bs L))) := by
  have C : x_D ((x_by y).data.toList.drop pc) pc (x_pc y (k + 1)) .aaload 1 = true := C
  have hs : (match (generalizing := false) ast with | .inl j :: .inr r :: st => if 0 ≤ r ∧ r < h.1 ∧ 10 ≤ x_kd r ∧ x_kd r < 14 ∧ 0 ≤ j ∧ j < x_ln r then some (k + 1, als, .inr (h.2.1 r j) :: st, b, h) else none | _ => none) = some c' := hst
  split at hs
  rotate_left
  · cases hs
  rename_i j r st
  split at hs
  rotate_left
  · cases hs
  rename_i hg
  cases hs
  obtain ⟨hy, hx, hb, hml, hown, hts, hinit, hK, hAO, hfr, hlo, hA⟩ := F
  have hts2 : ∀ w ∈ lw_tbl.filter goodWord, w.before args s = true := fun w hw => hts w (List.mem_filter.mp hw).1 (List.mem_filter.mp hw).2
  obtain ⟨V, hS, -⟩ := id S
  obtain ⟨h0, h1, hk1, hk2, hj0, hj1⟩ := hg
  obtain ⟨hd, hp⟩ := x_D_ok C
  have hl : r < L.length := by rw [V.1]; exact h1
  have ho := S.2.2.2.2.1
  have oj : x_in32 j := x_hd ho
  have K : W p l e R s m args below meth c H locs cells slots Q (F0 m (x_pc y (k + 1)) ls (x_conc bs L (.inr (h.2.1 r j)) :: st.map (x_conc bs L))) := kk L H locs ls cells slots (x_ext_rf L) (S.stk (x_cons (show x_okv h.1 (.inr (h.2.1 r j)) from (V.2.2.1 r j).2) (x_tls (x_tls ho))))
  have er : x_conc bs L (.inr (h.2.1 r j)) = va_rf (x_rf L (h.2.1 r j)) := if_neg (by have := (V.2.2.1 r j).1; omega)
  rw [hp, er] at K
  show W p l e R s m args below meth c H locs cells slots Q (F0 m pc ls (.int (Int32.ofInt j) :: x_conc bs L (.inr r) :: st.map (x_conc bs L)))
  rw [x_ref h0]
  refine va_aldq hx hb hK V.2.2.2.1 r.toNat (x_kd r - 8) ((x_ws_get h0 hl).trans (by rw [x_ent_ref rfl (by omega)])) (x_tysR hk1 hk2).1 (x_vpin oj hj0 hj1) hd ?_
  show W p l e R s m args below meth c H locs cells slots Q (F0 m (pc + 1) ls (va_rf (x_rf L (h.2.1 r ((Int32.ofInt j).toNatClampNeg : Int))) :: _))
  rw [x_clamp oj, Int.toNat_of_nonneg hj0]
  exact K

theorem x_s31 (F : x_Fr p R s m args meth c D cy A y) (C : x_Ck y k 31 a t u pc) (S : x_St s D cy A bs y CC SS L h H locs ls als ast b cells slots) (hst : x_stp (31, a, t, u, pc) k als ast b h = some c') (kk : x_K p l e R s m args below meth c Q D cy A bs y CC SS L c') : W p l e R s m args below meth c H locs cells slots Q (F0 m pc ls (ast.map (x_conc bs L))) := by
  have C : x_D ((x_by y).data.toList.drop pc) pc (x_pc y (k + 1)) .aastore 1 = true := C
  have hs : (match (generalizing := false) ast with | .inr v :: .inl j :: .inr r :: st => if 0 ≤ r ∧ r < h.1 ∧ 10 ≤ x_kd r ∧ x_kd r < 14 ∧ 0 ≤ j ∧ j < x_ln r ∧ x_ok h.1 v ([0, 2, 4, 5].getD (x_kd r - 10) 99) then some (k + 1, als, st, b, (h.1, x_up h.2.1 r j v, h.2.2)) else none | _ => none) = some c' := hst
  split at hs
  rotate_left
  · cases hs
  rename_i v j r st
  split at hs
  rotate_left
  · cases hs
  rename_i hg
  cases hs
  obtain ⟨hy, hx, hb, hml, hown, hts, hinit, hK, hAO, hfr, hlo, hA⟩ := F
  have hts2 : ∀ w ∈ lw_tbl.filter goodWord, w.before args s = true := fun w hw => hts w (List.mem_filter.mp hw).1 (List.mem_filter.mp hw).2
  obtain ⟨V, hS, -⟩ := id S
  obtain ⟨h0, h1, hk1, hk2, hj0, hj1, hkv⟩ := hg
  obtain ⟨v0, v1, hkdv⟩ := x_ok_ok hkv
  obtain ⟨hd, hp⟩ := x_D_ok C
  obtain ⟨t1, t2, t3, -⟩ := x_tysR (cy := cy) hk1 hk2
  have hl : r < L.length := by rw [V.1]; exact h1
  have hlv : v < L.length := by rw [V.1]; exact v1
  have ho := S.2.2.2.2.1
  have oj : x_in32 j := x_hd (x_tls ho)
  have he : x_ent cy L (h.1, x_up h.2.1 r j v, h.2.2) r = .inl (cy (x_kd r), (x_ln r).toNat, .inr (.inr (.inr (.inr (va_up (fun i => x_rf L (h.2.1 r i)) (Int32.ofInt j).toNatClampNeg (some (L.getD v.toNat 0))))))) := by
    rw [x_ent_ref rfl (by omega)]
    congr 7
    funext i
    rw [x_clamp oj]
    unfold va_up
    show x_rf L (x_up h.2.1 r j v r i) = _
    by_cases q : i = j.toNat
    · rw [if_pos q]
      have : (i : Int) = j := by omega
      rw [this, x_up_self]
      unfold x_rf
      rw [if_neg (by omega)]
    · rw [if_neg q, x_up_nk (by omega)]
  obtain ⟨q1, -⟩ := x_cls t3
  show W p l e R s m args below meth c H locs cells slots Q (F0 m pc ls (x_conc bs L (.inr v) :: .int (Int32.ofInt j) :: x_conc bs L (.inr r) :: st.map (x_conc bs L)))
  rw [x_ref h0, x_ref v0]
  refine va_astq hx hb hK V.2.2.2.1 V.2.2.2.2 hS r.toNat (x_kd r - 8) v.toNat _ ((x_ws_get h0 hl).trans (by rw [x_ent_ref rfl (by omega)])) (t1.trans (by rw [← t2])) ((x_ws_get v0 hlv).trans (by rw [x_ent_obj hkdv t3])) q1 (x_vpin oj hj0 hj1) hd fun H1 locs1 g1 g2 g3 => ?_
  have K := kk L H1 locs1 ls cells slots (x_ext_rf L) (S.hp rfl (V.upP h0 h1 ⟨by omega, v1⟩ he g1 g2) g3 (x_tls (x_tls (x_tls ho))))
  exact W.eq (by show F0 m (pc + 1) ls _ = F0 m (x_pc y (k + 1)) ls _; rw [hp]) K

end
end
section
/-! new cells, copies of rows -/
theorem x_clr_ne {f : Int → Int → Int} {a v b j : Int} (h : b ≠ a) : x_clr f a v b j = f b j := by
  unfold x_clr
  rw [if_neg h]
theorem x_clr_at {f : Int → Int → Int} {a v j : Int} : x_clr f a v a j = v := by
  unfold x_clr
  rw [if_pos rfl]
def x_nw (h : xH) : xH := (h.1 + 1, x_clr h.2.1 h.1 (-1), x_clr h.2.2 h.1 0)
theorem x_okv_up {z : Int} {v : xV} (h : x_okv z v) : x_okv (z + 1) v := by
  cases v with
  | inl i => exact h
  | inr r => exact Int.lt_trans (show r < z from h) (by omega)
theorem x_ent_ext {cy : Nat → ClassId} {L t : List Nat} {h h' : xH} {q : Int} (hM : ∀ j, h'.2.2 q j = h.2.2 q j) (hP : ∀ j, h'.2.1 q j = h.2.1 q j) (hl : ∀ j, h.2.1 q j < L.length) : x_ent cy (L ++ t) h' q = x_ent cy L h q := by
  unfold x_ent x_fs x_fv
  simp only [hM, hP, x_rf_ext (hl _)]
theorem x_ws_new {cy : Nat → ClassId} {L : List Nat} {h : xH} {q : Nat} {e : va_E} (hz : (L.length : Int) = h.1) (hl : ∀ a j, h.2.1 a j < h.1) (he : x_ent cy (L ++ [q]) (x_nw h) h.1 = e) : x_ws cy L h ++ [(q, e)] = x_ws cy (L ++ [q]) (x_nw h) := by
  unfold x_ws
  rw [List.length_append, List.length_singleton, List.range_succ, List.map_append]
  congr 1
  · apply List.map_congr_left
    intro k hk
    have hk := List.mem_range.mp hk
    rw [x_getD_ext hk, x_ent_ext (h := h) (fun j => x_clr_ne (by omega)) (fun j => x_clr_ne (by omega)) (fun j => by rw [hz]; exact hl _ _)]
  · simp only [List.map_cons, List.map_nil]
    rw [hz, he]
    congr 2
    simp [List.getD_eq_getElem?_getD]
section
variable {p : Program} {l : Launch} {e : Env} {R : Room} {s : State} {m : MethodId} {args : Array Value} {below : List Frame} {meth : Method} {c : Code} {Q : State → Prop}
variable {D : va_G} {cy : Nat → ClassId} {A : Nat → Prop} {bs y CC SS : Nat} {L : List Nat} {h : xH} {H : Heap} {locs : List Loc} {ls : Array Slot} {als ast : List xV} {b : xB} {cells slots k : Nat}
variable {a : Int} {t u pc p2 : Nat} {c' : xC}
theorem x_Vw.nw (V : x_Vw D cy A L h H) {q : Nat} {e : va_E} (he : x_ent cy (L ++ [q]) (x_nw h) h.1 = e) {H1 : Heap} (hP : va_P D vwCl (x_ws cy L h ++ [(q, e)]) H1) (hD : va_D A (x_ws cy L h ++ [(q, e)])) : x_Vw D cy A (L ++ [q]) (x_nw h) H1 := by
  rw [x_ws_new V.1 (fun a j => (V.2.2.1 a j).2) he] at hP hD
  have hz : (0 : Int) ≤ h.1 := by rw [← V.1]; omega
  refine ⟨?_, fun a k => ?_, fun a k => ?_, hP, hD⟩
  · rw [List.length_append, List.length_singleton]
    show ((L.length + 1 : Nat) : Int) = h.1 + 1
    rw [← V.1]
    omega
  · show x_in32 (x_clr h.2.2 h.1 0 a k)
    unfold x_clr
    split
    · exact x_zero
    · exact V.2.1 a k
  · show -1 ≤ x_clr h.2.1 h.1 (-1) a k ∧ x_clr h.2.1 h.1 (-1) a k < h.1 + 1
    unfold x_clr
    split
    · omega
    · have := V.2.2.1 a k
      omega
theorem x_St.nw (S : x_St s D cy A bs y CC SS L h H locs ls als ast b cells slots) {q n : Nat} {H' : Heap} {locs' : List Loc} {st : List xV} (V : x_Vw D cy A (L ++ [q]) (x_nw h) H') (hS : va_S A s.heap H' locs') (ho : ∀ v ∈ st, x_okv h.1 v) (h1 : 1 ≤ b.1) (h2 : n ≤ b.2) : x_St s D cy A bs y CC SS (L ++ [q]) (x_nw h) H' locs' ls als (.inr h.1 :: st) (b.1 - 1, b.2 - n) (cells + 1) (slots + n) := by
  refine ⟨V, hS, x_lr_ext S.1.1 ⟨[q], rfl⟩ S.2.2.2.1 S.2.2.1, fun v hv => x_okv_up (S.2.2.2.1 v hv), x_cons (show h.1 < h.1 + 1 by omega) (fun v hv => x_okv_up (ho v hv)), ?_, ?_⟩
  · have := S.2.2.2.2.2.1
    show cells + 1 + (b.1 - 1) = CC
    omega
  · have := S.2.2.2.2.2.2
    show slots + n + (b.2 - n) = SS
    omega
theorem x_conc_nw {bs : Nat} {L : List Nat} {z : Int} {q : Nat} (hz : (L.length : Int) = z) : x_conc bs (L ++ [q]) (.inr z) = .ref q := by
  rw [x_ref (by omega), ← hz]
  simp [List.getD_eq_getElem?_getD]
def x_df (c : Nat) : List Value := (List.range (xnsl c)).map (fun j => if xrf c j = true then .null else .int 0)

theorem x_s35 (F : x_Fr p R s m args meth c D cy A y) (C : x_Ck y k 35 a t u pc) (S : x_St s D cy A bs y CC SS L h H locs ls als ast b cells slots) (hCS : CC ≤ R.cells ∧ SS ≤ R.slots) (hst : x_stp (35, a, t, u, pc) k als ast b h = some c') (kk : x_K p l e R s m args below meth c Q D cy A bs y CC SS L c') : W p l e R s m args below meth c H locs cells slots Q (F0 m pc ls (ast.map (x_conc bs L))) := by
  have hs : (if x_kd h.1 = t ∧ t < 8 ∧ 1 ≤ b.1 ∧ xnsl t ≤ b.2 then some (k + 1, als, .inr h.1 :: ast, (b.1 - 1, b.2 - xnsl t), x_nw h) else none) = some c' := hst
  split at hs
  rotate_left
  · cases hs
  rename_i hg
  cases hs
  obtain ⟨hkd, ht8, hb1, hb2⟩ := hg
  have C : (match xcl[u]? with
      | some (pl, o, ix, cn) => decide (o = (x_nm y).cls) && decide (t < 8) && decide (cn = (x_q t).1) && x_D ((x_by y).data.toList.drop pc) pc (x_pc y (k + 1)) (.new ix) 3
      | none => false) = true := C
  cases hq : xcl[u]? with
  | none => rw [hq] at C; cases C
  | some q =>
    obtain ⟨pl, o, ix, cn⟩ := q
    rw [hq] at C
    simp only [Bool.and_eq_true, decide_eq_true_eq] at C
    obtain ⟨⟨⟨rfl, -⟩, rfl⟩, hD⟩ := C
    obtain ⟨hd, hp⟩ := x_D_ok hD
    obtain ⟨hy, hx, hb, hml, hown, hts, hinit, hK, hAO, hfr, hlo, hA⟩ := F
    have hts2 : ∀ w ∈ lw_tbl.filter goodWord, w.before args s = true := fun w hw => hts w (List.mem_filter.mp hw).1 (List.mem_filter.mp hw).2
    obtain ⟨V, hS, -⟩ := id S
    have hw : x_wd pl (.classLink (x_nm y).cls ix (x_q t).1) = true := List.all_eq_true.mp x_clok _ (List.mem_of_getElem? hq)
    have hio := List.all_eq_true.mp x_inok t (List.mem_range.mpr ht8)
    simp only [Bool.and_eq_true] at hio
    obtain ⟨q1, q2, q3, q4⟩ := x_cls ht8
    have hcs := S.2.2.2.2.2
    refine va_new hx hb hts2 (fun w hw => List.mem_filter.mpr (q2 w hw)) (x_ty t) q3 hown (hts _ (x_wd_ok hw) rfl) (hts _ (x_wd_ok hio.1) rfl) (hts _ (x_wd_ok hio.2) rfl) hK V.2.2.2.1 V.2.2.2.2 hS hA q1 (fs := x_df t) ?_ (by omega) (by omega) hd fun q H1 g1 g2 g3 => ?_
    · intro j hj
      have hti := x_tyI ht8 hj
      have e1 : vp_V (x_df t) j = if xrf t j = true then .null else .int 0 := by
        unfold vp_V x_df
        rw [List.getD_eq_getElem?_getD, List.getElem?_map, List.getElem?_range hj]
        rfl
      rw [e1]
      by_cases r : xrf t j = true
      · rw [if_pos r] at hti ⊢
        rcases hti with ⟨n, hti⟩ | ⟨n, hti⟩ <;> rw [hti] <;> rfl
      · rw [if_neg r] at hti ⊢
        by_cases r2 : ((x_q t).2.1 j).2.2.1 = "I"
        · rw [if_pos r2] at hti
          rw [hti]; rfl
        · rw [if_neg r2] at hti
          rw [hti]; rfl
    · have he : x_ent cy (L ++ [q]) (x_nw h) h.1 = .inr (t, x_df t) := by
        rw [x_ent_obj hkd ht8]
        congr 2
        unfold x_fs x_df
        apply List.map_congr_left
        intro j hj
        unfold x_fv x_nw
        simp only [x_clr_at]
        split
        · rfl
        · rfl
      have K := kk (L ++ [q]) H1 locs ls (cells + 1) (slots + xnsl t) ⟨[q], rfl⟩ (S.nw (V.nw he g1 g2) g3 S.2.2.2.2.1 hb1 hb2)
      refine W.eq ?_ K
      show F0 m (pc + 3) ls _ = F0 m (x_pc y (k + 1)) ls (x_conc bs (L ++ [q]) (.inr h.1) :: ast.map (x_conc bs (L ++ [q])))
      rw [hp, x_conc_nw V.1, x_map_ext V.1 ⟨[q], rfl⟩ S.2.2.2.2.1]

theorem x_s36 (F : x_Fr p R s m args meth c D cy A y) (C : x_Ck y k 36 a t u pc) (S : x_St s D cy A bs y CC SS L h H locs ls als ast b cells slots) (hCS : CC ≤ R.cells ∧ SS ≤ R.slots) (hst : x_stp (36, a, t, u, pc) k als ast b h = some c') (kk : x_K p l e R s m args below meth c Q D cy A bs y CC SS L c') : W p l e R s m args below meth c H locs cells slots Q (F0 m pc ls (ast.map (x_conc bs L))) := by
  have C : x_D ((x_by y).data.toList.drop pc) pc (x_pc y (k + 1)) (.newarray .int) 2 = true := C
  have hs : (match (generalizing := false) ast with | .inl n :: st => if x_kd h.1 = 8 ∧ x_ln h.1 = n ∧ 0 ≤ n ∧ n ≤ 10000 ∧ 1 ≤ b.1 ∧ n.toNat ≤ b.2 then some (k + 1, als, .inr h.1 :: st, (b.1 - 1, b.2 - n.toNat), x_nw h) else none | _ => none) = some c' := hst
  split at hs
  rotate_left
  · cases hs
  rename_i n st
  split at hs
  rotate_left
  · cases hs
  rename_i hg
  cases hs
  obtain ⟨hkd, hln, hn0, hn1, hb1, hb2⟩ := hg
  obtain ⟨hy, hx, hb, hml, hown, hts, hinit, hK, hAO, hfr, hlo, hA⟩ := F
  have hts2 : ∀ w ∈ lw_tbl.filter goodWord, w.before args s = true := fun w hw => hts w (List.mem_filter.mp hw).1 (List.mem_filter.mp hw).2
  obtain ⟨V, hS, -⟩ := id S
  obtain ⟨hd, hp⟩ := x_D_ok C
  have ho := S.2.2.2.2.1
  have on : x_in32 n := x_hd ho
  have hcs := S.2.2.2.2.2
  have J := x_jdk
  simp only [Bool.and_eq_true] at J
  have hW := fun (n : Nat) (w : Cond) (hn : x_wd n w = true) (hg : goodWord w = true) => hts w (x_wd_ok hn) hg
  show W p l e R s m args below meth c H locs cells slots Q (F0 m pc ls (.int (Int32.ofInt n) :: st.map (x_conc bs L)))
  refine va_newa (atype := .int) (ty := .int) hx hb (hW xp_ai _ J.1.2 rfl) rfl hK V.2.2.2.1 V.2.2.2.2 hS hA (N' := n.toNat) (a0 := (n.toNat, .inl (fun _ => 0))) (fun cA => rfl) (by rw [← x_of0, x_lt on x_zero]; omega) (x_clamp on) (by simp [componentBytes]; omega) (by omega) (by omega) hd fun q cA H1 g0 g1 g2 g3 => ?_
  have ecA : cA = cy 8 := by
    have a1 := (g0.2 6 (cA, .int) rfl).2
    have a2 := (hK.2 0 (cy 8, .int) rfl).2
    exact Option.some.inj ((show s.vm.findClass _ = some cA from a1).symm.trans (show s.vm.findClass _ = some (cy 8) from a2))
  subst ecA
  have he : x_ent cy (L ++ [q]) (x_nw h) h.1 = .inl (cy 8, n.toNat, .inl (fun _ => 0)) := by
    rw [x_ent_int hkd (by decide) (by decide), hln]
    congr 4
    funext i
    show Int32.ofInt (x_clr h.2.2 h.1 0 h.1 i) = _
    rw [x_clr_at]
    rfl
  have K := kk (L ++ [q]) H1 locs ls (cells + 1) (slots + n.toNat) ⟨[q], rfl⟩ (S.nw (V.nw he g1 g2) g3 (x_tls ho) hb1 hb2)
  refine W.eq ?_ K
  show F0 m (pc + 2) ls _ = F0 m (x_pc y (k + 1)) ls (x_conc bs (L ++ [q]) (.inr h.1) :: st.map (x_conc bs (L ++ [q])))
  rw [hp, x_conc_nw V.1, x_map_ext V.1 ⟨[q], rfl⟩ (x_tls ho)]

theorem x_s37 (F : x_Fr p R s m args meth c D cy A y) (C : x_Ck y k 37 a t u pc) (S : x_St s D cy A bs y CC SS L h H locs ls als ast b cells slots) (hCS : CC ≤ R.cells ∧ SS ≤ R.slots) (hst : x_stp (37, a, t, u, pc) k als ast b h = some c') (kk : x_K p l e R s m args below meth c Q D cy A bs y CC SS L c') : W p l e R s m args below meth c H locs cells slots Q (F0 m pc ls (ast.map (x_conc bs L))) := by
  have C : x_D ((x_by y).data.toList.drop pc) pc (x_pc y (k + 1)) (.newarray .boolean) 2 = true := C
  have hs : (match (generalizing := false) ast with | .inl n :: st => if x_kd h.1 = 9 ∧ x_ln h.1 = n ∧ 0 ≤ n ∧ n ≤ 10000 ∧ 1 ≤ b.1 ∧ n.toNat ≤ b.2 then some (k + 1, als, .inr h.1 :: st, (b.1 - 1, b.2 - n.toNat), x_nw h) else none | _ => none) = some c' := hst
  split at hs
  rotate_left
  · cases hs
  rename_i n st
  split at hs
  rotate_left
  · cases hs
  rename_i hg
  cases hs
  obtain ⟨hkd, hln, hn0, hn1, hb1, hb2⟩ := hg
  obtain ⟨hy, hx, hb, hml, hown, hts, hinit, hK, hAO, hfr, hlo, hA⟩ := F
  have hts2 : ∀ w ∈ lw_tbl.filter goodWord, w.before args s = true := fun w hw => hts w (List.mem_filter.mp hw).1 (List.mem_filter.mp hw).2
  obtain ⟨V, hS, -⟩ := id S
  obtain ⟨hd, hp⟩ := x_D_ok C
  have ho := S.2.2.2.2.1
  have on : x_in32 n := x_hd ho
  have hcs := S.2.2.2.2.2
  have J := x_jdk
  simp only [Bool.and_eq_true] at J
  have hW := fun (n : Nat) (w : Cond) (hn : x_wd n w = true) (hg : goodWord w = true) => hts w (x_wd_ok hn) hg
  show W p l e R s m args below meth c H locs cells slots Q (F0 m pc ls (.int (Int32.ofInt n) :: st.map (x_conc bs L)))
  refine va_newa (atype := .boolean) (ty := .boolean) hx hb (hW xp_ab _ J.2 rfl) rfl hK V.2.2.2.1 V.2.2.2.2 hS hA (N' := n.toNat) (a0 := (n.toNat, .inl (fun _ => 0))) (fun cA => rfl) (by rw [← x_of0, x_lt on x_zero]; omega) (x_clamp on) (by simp [componentBytes]; omega) (by omega) (by omega) hd fun q cA H1 g0 g1 g2 g3 => ?_
  have ecA : cA = cy 9 := by
    have a1 := (g0.2 6 (cA, .boolean) rfl).2
    have a2 := (hK.2 1 (cy 9, .boolean) rfl).2
    exact Option.some.inj ((show s.vm.findClass _ = some cA from a1).symm.trans (show s.vm.findClass _ = some (cy 9) from a2))
  subst ecA
  have he : x_ent cy (L ++ [q]) (x_nw h) h.1 = .inl (cy 9, n.toNat, .inl (fun _ => 0)) := by
    rw [x_ent_int hkd (by decide) (by decide), hln]
    congr 4
    funext i
    show Int32.ofInt (x_clr h.2.2 h.1 0 h.1 i) = _
    rw [x_clr_at]
    rfl
  have K := kk (L ++ [q]) H1 locs ls (cells + 1) (slots + n.toNat) ⟨[q], rfl⟩ (S.nw (V.nw he g1 g2) g3 (x_tls ho) hb1 hb2)
  refine W.eq ?_ K
  show F0 m (pc + 2) ls _ = F0 m (x_pc y (k + 1)) ls (x_conc bs (L ++ [q]) (.inr h.1) :: st.map (x_conc bs (L ++ [q])))
  rw [hp, x_conc_nw V.1, x_map_ext V.1 ⟨[q], rfl⟩ (x_tls ho)]

theorem x_s38 (F : x_Fr p R s m args meth c D cy A y) (C : x_Ck y k 38 a t u pc) (S : x_St s D cy A bs y CC SS L h H locs ls als ast b cells slots) (hCS : CC ≤ R.cells ∧ SS ≤ R.slots) (hst : x_stp (38, a, t, u, pc) k als ast b h = some c') (kk : x_K p l e R s m args below meth c Q D cy A bs y CC SS L c') : W p l e R s m args below meth c H locs cells slots Q (F0 m pc ls (ast.map (x_conc bs L))) := by
  have hs : (match (generalizing := false) ast with | .inl n :: st => if x_kd h.1 = t ∧ 10 ≤ t ∧ t < 14 ∧ x_ln h.1 = n ∧ 0 ≤ n ∧ n ≤ 10000 ∧ 1 ≤ b.1 ∧ n.toNat ≤ b.2 then some (k + 1, als, .inr h.1 :: st, (b.1 - 1, b.2 - n.toNat), x_nw h) else none | _ => none) = some c' := hst
  split at hs
  rotate_left
  · cases hs
  rename_i n st
  split at hs
  rotate_left
  · cases hs
  rename_i hg
  cases hs
  obtain ⟨hkd, ht1, ht2, hln, hn0, hn1, hb1, hb2⟩ := hg
  have C : (match xcl[u]? with
      | some (pl, o, ix, cn) => decide (o = (x_nm y).cls) && decide (10 ≤ t) && decide (t < 14) && decide (cn = ["WheelStands$Cart", "WheelStands$Stand", "WheelStands$Town", "WheelStands$Wheel"].getD (t - 10) "") && x_D ((x_by y).data.toList.drop pc) pc (x_pc y (k + 1)) (.anewarray ix) 3
      | none => false) = true := C
  cases hq : xcl[u]? with
  | none => rw [hq] at C; cases C
  | some q =>
    obtain ⟨pl, o, ix, cn⟩ := q
    rw [hq] at C
    simp only [Bool.and_eq_true, decide_eq_true_eq] at C
    obtain ⟨⟨⟨⟨rfl, -⟩, -⟩, hcn⟩, hD⟩ := C
    obtain ⟨hd, hp⟩ := x_D_ok hD
    obtain ⟨hy, hx, hb, hml, hown, hts, hinit, hK, hAO, hfr, hlo, hA⟩ := F
    have hts2 : ∀ w ∈ lw_tbl.filter goodWord, w.before args s = true := fun w hw => hts w (List.mem_filter.mp hw).1 (List.mem_filter.mp hw).2
    obtain ⟨V, hS, -⟩ := id S
    have hw : x_wd pl (.classLink (x_nm y).cls ix cn) = true := List.all_eq_true.mp x_clok _ (List.mem_of_getElem? hq)
    obtain ⟨t1, -, -, t4⟩ := x_tysR (cy := cy) ht1 ht2
    rw [← hcn] at t1 t4
    have ho := S.2.2.2.2.1
    have on : x_in32 n := x_hd ho
    have hcs := S.2.2.2.2.2
    show W p l e R s m args below meth c H locs cells slots Q (F0 m pc ls (.int (Int32.ofInt n) :: st.map (x_conc bs L)))
    refine va_newq hx hb hown (hts _ (x_wd_ok hw) rfl) (hAO cn t4) hK V.2.2.2.1 V.2.2.2.2 hS hA (N' := n.toNat) (by rw [← x_of0, x_lt on x_zero]; omega) (x_clamp on) (by omega) (by omega) (by omega) hd fun q cA H1 g0 g1 g2 g3 => ?_
    have ecA : cA = cy t := by
      obtain ⟨_, _, _, _, _, a1⟩ := (g0.2 6 (cA, .object cn) rfl).2
      obtain ⟨_, _, _, _, _, a2⟩ := (hK.2 (t - 8) (cy t, .object cn) t1).2
      exact Option.some.inj (a1.symm.trans a2)
    subst ecA
    have he : x_ent cy (L ++ [q]) (x_nw h) h.1 = .inl (cy t, n.toNat, .inr (.inr (.inr (.inr (fun _ => none))))) := by
      rw [x_ent_ref hkd (by omega), hln]
      congr 7
      funext i
      show x_rf _ (x_clr h.2.1 h.1 (-1) h.1 i) = _
      rw [x_clr_at]
      rfl
    have K := kk (L ++ [q]) H1 locs ls (cells + 1) (slots + n.toNat) ⟨[q], rfl⟩ (S.nw (V.nw he g1 g2) g3 (x_tls ho) hb1 hb2)
    refine W.eq ?_ K
    show F0 m (pc + 3) ls _ = F0 m (x_pc y (k + 1)) ls (x_conc bs (L ++ [q]) (.inr h.1) :: st.map (x_conc bs (L ++ [q])))
    rw [hp, x_conc_nw V.1, x_map_ext V.1 ⟨[q], rfl⟩ (x_tls ho)]

theorem x_s46 (F : x_Fr p R s m args meth c D cy A y) (C : x_Ck y k 46 a t u pc) (S : x_St s D cy A bs y CC SS L h H locs ls als ast b cells slots) (hst : x_stp (46, a, t, u, pc) k als ast b h = some c') (kk : x_K p l e R s m args below meth c Q D cy A bs y CC SS L c') : W p l e R s m args below meth c H locs cells slots Q (F0 m pc ls (ast.map (x_conc bs L))) := by
  have C : (x_wd u (.methodLink (x_nm y).cls t arraycopyName) && x_D ((x_by y).data.toList.drop pc) pc (x_pc y (k + 1)) (.invokestatic t) 3 && decide (1 ≤ x_dp y) && decide (40 ≤ x_lc y)) = true := C
  simp only [Bool.and_eq_true, decide_eq_true_eq] at C
  obtain ⟨⟨⟨Cw, C⟩, r1⟩, r2⟩ := C
  have hs : (match (generalizing := false) ast with | .inl n :: .inl dp :: .inr a :: .inl sp :: .inr a0 :: st => if x_ok h.1 a 8 ∧ x_ok h.1 a0 8 ∧ 0 ≤ sp ∧ 0 ≤ dp ∧ 0 ≤ n ∧ sp + n ≤ x_ln a0 ∧ dp + n ≤ x_ln a ∧ st.length ≤ 8 then some (k + 1, als, st, b, (h.1, h.2.1, x_cp h.2.2 a0 sp a dp n)) else none | _ => none) = some c' := hst
  split at hs
  rotate_left
  · cases hs
  rename_i n dp r sp r0 st
  split at hs
  rotate_left
  · cases hs
  rename_i hg
  cases hs
  obtain ⟨hy, hx, hb, hml, hown, hts, hinit, hK, hAO, hfr, hlo, hA⟩ := F
  have hts2 : ∀ w ∈ lw_tbl.filter goodWord, w.before args s = true := fun w hw => hts w (List.mem_filter.mp hw).1 (List.mem_filter.mp hw).2
  obtain ⟨V, hS, -⟩ := id S
  obtain ⟨hk, hk0, hsp, hdp, hn, hs0, hs1, h8⟩ := hg
  obtain ⟨h0, h1, hkd⟩ := x_ok_ok hk
  obtain ⟨h00, h01, hkd0⟩ := x_ok_ok hk0
  obtain ⟨hd, hp⟩ := x_D_ok C
  have hl : r < L.length := by rw [V.1]; exact h1
  have hl0 : r0 < L.length := by rw [V.1]; exact h01
  have ho := S.2.2.2.2.1
  have on : x_in32 n := x_hd ho
  have od : x_in32 dp := x_hd (x_tls ho)
  have os : x_in32 sp := x_hd (x_tls (x_tls (x_tls ho)))
  have J := x_jdk
  simp only [Bool.and_eq_true] at J
  have hW := fun (n : Nat) (w : Cond) (hn : x_wd n w = true) (hg : goodWord w = true) => hts w (x_wd_ok hn) hg
  have he : x_ent cy L (h.1, h.2.1, x_cp h.2.2 r0 sp r dp n) r = .inl (cy 8, (x_ln r).toNat, .inl (va_cpy (fun i => Int32.ofInt (h.2.2 r0 i)) (fun i => Int32.ofInt (h.2.2 r i)) (Int32.ofInt sp).toNatClampNeg (Int32.ofInt dp).toNatClampNeg (Int32.ofInt n).toNatClampNeg)) := by
    rw [x_ent_int hkd (by decide) (by decide)]
    congr 4
    funext i
    rw [x_clamp on, x_clamp od, x_clamp os]
    show Int32.ofInt (x_cp h.2.2 r0 sp r dp n r i) = _
    unfold va_cpy x_cp
    by_cases q : dp.toNat ≤ i ∧ i < dp.toNat + n.toNat
    · rw [if_pos q, if_pos ⟨rfl, by omega, by omega⟩]
      have e : sp + ((i : Int) - dp) = ((sp.toNat + (i - dp.toNat) : Nat) : Int) := by omega
      rw [e]
    · rw [if_neg q, if_neg (fun z => q (by omega))]
  show W p l e R s m args below meth c H locs cells slots Q (F0 m pc ls (.int (Int32.ofInt n) :: .int (Int32.ofInt dp) :: x_conc bs L (.inr r) :: .int (Int32.ofInt sp) :: x_conc bs L (.inr r0) :: st.map (x_conc bs L)))
  rw [x_ref h0, x_ref h00]
  refine va_copyi hx hb (by rw [hml, S.2.2.1.1]) hown (hW u _ Cw rfl) (hW xp_an _ (by simp [J]) rfl) (hW xp_as _ (by simp [J]) rfl) (hW xp_si _ (by simp [J]) rfl) hK V.2.2.2.1 V.2.2.2.2 hS r0.toNat r.toNat 0 0 ((x_ws_get h00 hl0).trans (by rw [x_ent_int hkd0 (by decide) (by decide)])) ((x_ws_get h0 hl).trans (by rw [x_ent_int hkd (by decide) (by decide)])) rfl rfl rfl (by rw [← x_of0, x_lt os x_zero]; omega) (by rw [← x_of0, x_lt od x_zero]; omega) (by rw [← x_of0, x_lt on x_zero]; omega) (by rw [x_clamp on, x_clamp os]; omega) (by rw [x_clamp on, x_clamp od]; omega) (fun i hi => rfl) (by omega) ?_ hd fun H1 locs1 g1 g2 g3 => ?_
  · rw [x_sum]
    have : nativeFrameWords "java/lang/System" "arraycopy" 5 = 7 := by decide +kernel
    omega
  · have V2 : x_Vw D cy A L (h.1, h.2.1, x_cp h.2.2 r0 sp r dp n) H1 := by
      rw [x_ws_set (h := h) (h' := (h.1, h.2.1, x_cp h.2.2 r0 sp r dp n)) h0 hl he (fun q hq => x_ent_cg (fun i => by show x_cp h.2.2 r0 sp r dp n q i = _; unfold x_cp; rw [if_neg (fun z => hq z.1)]) (fun i => rfl))] at g1 g2
      refine ⟨V.1, fun a k => ?_, V.2.2.1, g1, g2⟩
      show x_in32 (x_cp h.2.2 r0 sp r dp n a k)
      unfold x_cp
      split
      · exact V.2.1 _ _
      · exact V.2.1 a k
    have K := kk L H1 locs1 ls cells slots (x_ext_rf L) (S.hp rfl V2 g3 (x_tls (x_tls (x_tls (x_tls (x_tls ho))))))
    exact W.eq (by show F0 m (pc + 3) ls _ = F0 m (x_pc y (k + 1)) ls _; rw [hp]) K

end
end
section
/-! the script stays -/
section
variable {a : Int} {t u pc k : Nat} {als ast : List xV} {b : xB} {h : xH} {c' : xC}
theorem x_scr0 (hz : 0 ≤ h.1) (hst : x_stp (0, a, t, u, pc) k als ast b h = some c') : 0 ≤ c'.2.2.2.2.1 ∧ ∀ j, c'.2.2.2.2.2.2 (-2) j = h.2.2 (-2) j := by
  have hs : (some (k + 1, als, .inl a :: ast, b, h)) = some c' := hst
  cases hs
  exact ⟨hz, fun j => rfl⟩
theorem x_scr1 (hz : 0 ≤ h.1) (hst : x_stp (1, a, t, u, pc) k als ast b h = some c') : 0 ≤ c'.2.2.2.2.1 ∧ ∀ j, c'.2.2.2.2.2.2 (-2) j = h.2.2 (-2) j := by
  have hs : ((match (generalizing := false) als[t]? with | some (.inl v) => some (k + 1, als, .inl v :: ast, b, h) | _ => none)) = some c' := hst
  repeat' split at hs
  all_goals first | (cases hs; exact ⟨hz, fun j => rfl⟩) | cases hs
theorem x_scr2 (hz : 0 ≤ h.1) (hst : x_stp (2, a, t, u, pc) k als ast b h = some c') : 0 ≤ c'.2.2.2.2.1 ∧ ∀ j, c'.2.2.2.2.2.2 (-2) j = h.2.2 (-2) j := by
  have hs : ((match (generalizing := false) als[t]? with | some (.inr v) => if -2 ≤ v then some (k + 1, als, .inr v :: ast, b, h) else none | _ => none)) = some c' := hst
  repeat' split at hs
  all_goals first | (cases hs; exact ⟨hz, fun j => rfl⟩) | cases hs
theorem x_scr3 (hz : 0 ≤ h.1) (hst : x_stp (3, a, t, u, pc) k als ast b h = some c') : 0 ≤ c'.2.2.2.2.1 ∧ ∀ j, c'.2.2.2.2.2.2 (-2) j = h.2.2 (-2) j := by
  have hs : ((match (generalizing := false) ast with | .inl v :: st => if t < als.length then some (k + 1, als.set t (.inl v), st, b, h) else none | _ => none)) = some c' := hst
  repeat' split at hs
  all_goals first | (cases hs; exact ⟨hz, fun j => rfl⟩) | cases hs
theorem x_scr4 (hz : 0 ≤ h.1) (hst : x_stp (4, a, t, u, pc) k als ast b h = some c') : 0 ≤ c'.2.2.2.2.1 ∧ ∀ j, c'.2.2.2.2.2.2 (-2) j = h.2.2 (-2) j := by
  have hs : ((match (generalizing := false) ast with | .inr v :: st => if t < als.length ∧ -2 ≤ v then some (k + 1, als.set t (.inr v), st, b, h) else none | _ => none)) = some c' := hst
  repeat' split at hs
  all_goals first | (cases hs; exact ⟨hz, fun j => rfl⟩) | cases hs
theorem x_scr5 (hz : 0 ≤ h.1) (hst : x_stp (5, a, t, u, pc) k als ast b h = some c') : 0 ≤ c'.2.2.2.2.1 ∧ ∀ j, c'.2.2.2.2.2.2 (-2) j = h.2.2 (-2) j := by
  have hs : ((match (generalizing := false) als[t]? with | some (.inl v) => some (k + 1, als.set t (.inl (x_w (v + a))), ast, b, h) | _ => none)) = some c' := hst
  repeat' split at hs
  all_goals first | (cases hs; exact ⟨hz, fun j => rfl⟩) | cases hs
theorem x_scr6 (hz : 0 ≤ h.1) (hst : x_stp (6, a, t, u, pc) k als ast b h = some c') : 0 ≤ c'.2.2.2.2.1 ∧ ∀ j, c'.2.2.2.2.2.2 (-2) j = h.2.2 (-2) j := by
  have hs : ((match (generalizing := false) ast with | .inl j :: .inl i :: st => some (k + 1, als, .inl (x_w (i + j)) :: st, b, h) | _ => none)) = some c' := hst
  repeat' split at hs
  all_goals first | (cases hs; exact ⟨hz, fun j => rfl⟩) | cases hs
theorem x_scr7 (hz : 0 ≤ h.1) (hst : x_stp (7, a, t, u, pc) k als ast b h = some c') : 0 ≤ c'.2.2.2.2.1 ∧ ∀ j, c'.2.2.2.2.2.2 (-2) j = h.2.2 (-2) j := by
  have hs : ((match (generalizing := false) ast with | .inl j :: .inl i :: st => some (k + 1, als, .inl (x_w (i - j)) :: st, b, h) | _ => none)) = some c' := hst
  repeat' split at hs
  all_goals first | (cases hs; exact ⟨hz, fun j => rfl⟩) | cases hs
theorem x_scr8 (hz : 0 ≤ h.1) (hst : x_stp (8, a, t, u, pc) k als ast b h = some c') : 0 ≤ c'.2.2.2.2.1 ∧ ∀ j, c'.2.2.2.2.2.2 (-2) j = h.2.2 (-2) j := by
  have hs : ((match (generalizing := false) ast with | .inl j :: .inl i :: st => some (k + 1, als, .inl (x_w (i * j)) :: st, b, h) | _ => none)) = some c' := hst
  repeat' split at hs
  all_goals first | (cases hs; exact ⟨hz, fun j => rfl⟩) | cases hs
theorem x_scr9 (hz : 0 ≤ h.1) (hst : x_stp (9, a, t, u, pc) k als ast b h = some c') : 0 ≤ c'.2.2.2.2.1 ∧ ∀ j, c'.2.2.2.2.2.2 (-2) j = h.2.2 (-2) j := by
  have hs : ((match (generalizing := false) ast with | .inl j :: .inl i :: st => if 0 ≤ i ∧ 0 < j then some (k + 1, als, .inl (i % j) :: st, b, h) else none | _ => none)) = some c' := hst
  repeat' split at hs
  all_goals first | (cases hs; exact ⟨hz, fun j => rfl⟩) | cases hs
theorem x_scr10 (hz : 0 ≤ h.1) (hst : x_stp (10, a, t, u, pc) k als ast b h = some c') : 0 ≤ c'.2.2.2.2.1 ∧ ∀ j, c'.2.2.2.2.2.2 (-2) j = h.2.2 (-2) j := by
  have hs : ((match (generalizing := false) ast with | .inl i :: st => some (k + 1, als, .inl (x_w (-i)) :: st, b, h) | _ => none)) = some c' := hst
  repeat' split at hs
  all_goals first | (cases hs; exact ⟨hz, fun j => rfl⟩) | cases hs
theorem x_scr11 (hz : 0 ≤ h.1) (hst : x_stp (11, a, t, u, pc) k als ast b h = some c') : 0 ≤ c'.2.2.2.2.1 ∧ ∀ j, c'.2.2.2.2.2.2 (-2) j = h.2.2 (-2) j := by
  have hs : ((match (generalizing := false) ast with | .inl j :: .inl i :: st => some (k + 1, als, .inl (Int32.ofInt i &&& Int32.ofInt j).toInt :: st, b, h) | _ => none)) = some c' := hst
  repeat' split at hs
  all_goals first | (cases hs; exact ⟨hz, fun j => rfl⟩) | cases hs
theorem x_scr12 (hz : 0 ≤ h.1) (hst : x_stp (12, a, t, u, pc) k als ast b h = some c') : 0 ≤ c'.2.2.2.2.1 ∧ ∀ j, c'.2.2.2.2.2.2 (-2) j = h.2.2 (-2) j := by
  have hs : ((match (generalizing := false) ast with | .inl j :: .inl i :: st => some (k + 1, als, .inl (Int32.ofInt i ||| Int32.ofInt j).toInt :: st, b, h) | _ => none)) = some c' := hst
  repeat' split at hs
  all_goals first | (cases hs; exact ⟨hz, fun j => rfl⟩) | cases hs
theorem x_scr13 (hz : 0 ≤ h.1) (hst : x_stp (13, a, t, u, pc) k als ast b h = some c') : 0 ≤ c'.2.2.2.2.1 ∧ ∀ j, c'.2.2.2.2.2.2 (-2) j = h.2.2 (-2) j := by
  have hs : ((match (generalizing := false) ast with | .inl j :: .inl i :: st => some (k + 1, als, .inl (Int32.ofInt i <<< (Int32.ofInt j &&& 31)).toInt :: st, b, h) | _ => none)) = some c' := hst
  repeat' split at hs
  all_goals first | (cases hs; exact ⟨hz, fun j => rfl⟩) | cases hs
theorem x_scr14 (hz : 0 ≤ h.1) (hst : x_stp (14, a, t, u, pc) k als ast b h = some c') : 0 ≤ c'.2.2.2.2.1 ∧ ∀ j, c'.2.2.2.2.2.2 (-2) j = h.2.2 (-2) j := by
  have hs : ((match (generalizing := false) ast with | .inl j :: .inl i :: st => some (k + 1, als, .inl (Int32.ofInt i >>> (Int32.ofInt j &&& 31)).toInt :: st, b, h) | _ => none)) = some c' := hst
  repeat' split at hs
  all_goals first | (cases hs; exact ⟨hz, fun j => rfl⟩) | cases hs
theorem x_scr15 (hz : 0 ≤ h.1) (hst : x_stp (15, a, t, u, pc) k als ast b h = some c') : 0 ≤ c'.2.2.2.2.1 ∧ ∀ j, c'.2.2.2.2.2.2 (-2) j = h.2.2 (-2) j := by
  have hs : ((match (generalizing := false) ast with | .inl i :: st => some (if x_cond u i 0 then t else k + 1, als, st, b, h) | _ => none)) = some c' := hst
  repeat' split at hs
  all_goals first | (cases hs; exact ⟨hz, fun j => rfl⟩) | cases hs
theorem x_scr16 (hz : 0 ≤ h.1) (hst : x_stp (16, a, t, u, pc) k als ast b h = some c') : 0 ≤ c'.2.2.2.2.1 ∧ ∀ j, c'.2.2.2.2.2.2 (-2) j = h.2.2 (-2) j := by
  have hs : ((match (generalizing := false) ast with | .inl j :: .inl i :: st => some (if x_cond u i j then t else k + 1, als, st, b, h) | _ => none)) = some c' := hst
  repeat' split at hs
  all_goals first | (cases hs; exact ⟨hz, fun j => rfl⟩) | cases hs
theorem x_scr17 (hz : 0 ≤ h.1) (hst : x_stp (17, a, t, u, pc) k als ast b h = some c') : 0 ≤ c'.2.2.2.2.1 ∧ ∀ j, c'.2.2.2.2.2.2 (-2) j = h.2.2 (-2) j := by
  have hs : (some (t, als, ast, b, h)) = some c' := hst
  cases hs
  exact ⟨hz, fun j => rfl⟩
theorem x_scr18 (hz : 0 ≤ h.1) (hst : x_stp (18, a, t, u, pc) k als ast b h = some c') : 0 ≤ c'.2.2.2.2.1 ∧ ∀ j, c'.2.2.2.2.2.2 (-2) j = h.2.2 (-2) j := by
  have hs : ((match (generalizing := false) ast with | .inr r :: st => if -1 ≤ r then some (if r < 0 then t else k + 1, als, st, b, h) else none | _ => none)) = some c' := hst
  repeat' split at hs
  all_goals first | (cases hs; exact ⟨hz, fun j => rfl⟩) | cases hs
theorem x_scr19 (hz : 0 ≤ h.1) (hst : x_stp (19, a, t, u, pc) k als ast b h = some c') : 0 ≤ c'.2.2.2.2.1 ∧ ∀ j, c'.2.2.2.2.2.2 (-2) j = h.2.2 (-2) j := by
  have hs : ((match (generalizing := false) ast with | .inr r :: st => if -1 ≤ r then some (if r < 0 then k + 1 else t, als, st, b, h) else none | _ => none)) = some c' := hst
  repeat' split at hs
  all_goals first | (cases hs; exact ⟨hz, fun j => rfl⟩) | cases hs
theorem x_scr20 (hz : 0 ≤ h.1) (hst : x_stp (20, a, t, u, pc) k als ast b h = some c') : 0 ≤ c'.2.2.2.2.1 ∧ ∀ j, c'.2.2.2.2.2.2 (-2) j = h.2.2 (-2) j := by
  have hs : (some (k + 1, als, .inr (-1) :: ast, b, h)) = some c' := hst
  cases hs
  exact ⟨hz, fun j => rfl⟩
theorem x_scr21 (hz : 0 ≤ h.1) (hst : x_stp (21, a, t, u, pc) k als ast b h = some c') : 0 ≤ c'.2.2.2.2.1 ∧ ∀ j, c'.2.2.2.2.2.2 (-2) j = h.2.2 (-2) j := by
  have hs : ((match (generalizing := false) ast with | v :: st => some (k + 1, als, v :: v :: st, b, h) | _ => none)) = some c' := hst
  repeat' split at hs
  all_goals first | (cases hs; exact ⟨hz, fun j => rfl⟩) | cases hs
theorem x_scr22 (hz : 0 ≤ h.1) (hst : x_stp (22, a, t, u, pc) k als ast b h = some c') : 0 ≤ c'.2.2.2.2.1 ∧ ∀ j, c'.2.2.2.2.2.2 (-2) j = h.2.2 (-2) j := by
  have hs : ((match (generalizing := false) ast with | _ :: st => some (k + 1, als, st, b, h) | _ => none)) = some c' := hst
  repeat' split at hs
  all_goals first | (cases hs; exact ⟨hz, fun j => rfl⟩) | cases hs
theorem x_scr23 (hz : 0 ≤ h.1) (hst : x_stp (23, a, t, u, pc) k als ast b h = some c') : 0 ≤ c'.2.2.2.2.1 ∧ ∀ j, c'.2.2.2.2.2.2 (-2) j = h.2.2 (-2) j := by
  have hs : ((match (generalizing := false) ast with | v :: w :: st => some (k + 1, als, v :: w :: v :: w :: st, b, h) | _ => none)) = some c' := hst
  repeat' split at hs
  all_goals first | (cases hs; exact ⟨hz, fun j => rfl⟩) | cases hs
theorem x_scr24 (hz : 0 ≤ h.1) (hst : x_stp (24, a, t, u, pc) k als ast b h = some c') : 0 ≤ c'.2.2.2.2.1 ∧ ∀ j, c'.2.2.2.2.2.2 (-2) j = h.2.2 (-2) j := by
  have hs : ((match (generalizing := false) ast with | .inr r :: st => if x_ok h.1 r (t / 16) then some (k + 1, als, .inl (h.2.2 r (t % 16 : Nat)) :: st, b, h) else none | _ => none)) = some c' := hst
  repeat' split at hs
  all_goals first | (cases hs; exact ⟨hz, fun j => rfl⟩) | cases hs
theorem x_scr25 (hz : 0 ≤ h.1) (hst : x_stp (25, a, t, u, pc) k als ast b h = some c') : 0 ≤ c'.2.2.2.2.1 ∧ ∀ j, c'.2.2.2.2.2.2 (-2) j = h.2.2 (-2) j := by
  have hs : ((match (generalizing := false) ast with | .inr r :: st => if x_ok h.1 r (t / 16) then some (k + 1, als, .inr (h.2.1 r (t % 16 : Nat)) :: st, b, h) else none | _ => none)) = some c' := hst
  repeat' split at hs
  all_goals first | (cases hs; exact ⟨hz, fun j => rfl⟩) | cases hs
theorem x_scr26 (hz : 0 ≤ h.1) (hst : x_stp (26, a, t, u, pc) k als ast b h = some c') : 0 ≤ c'.2.2.2.2.1 ∧ ∀ j, c'.2.2.2.2.2.2 (-2) j = h.2.2 (-2) j := by
  have hs : ((match (generalizing := false) ast with | .inl v :: .inr r :: st => if x_ok h.1 r (t / 16) then some (k + 1, als, st, b, (h.1, h.2.1, x_up h.2.2 r (t % 16 : Nat) v)) else none | _ => none)) = some c' := hst
  repeat' split at hs
  all_goals first | (cases hs; rename_i hg; exact ⟨hz, fun j => x_up_ne (by simp only [x_ok, Bool.and_eq_true, decide_eq_true_eq] at hg; omega)⟩) | cases hs
theorem x_scr27 (hz : 0 ≤ h.1) (hst : x_stp (27, a, t, u, pc) k als ast b h = some c') : 0 ≤ c'.2.2.2.2.1 ∧ ∀ j, c'.2.2.2.2.2.2 (-2) j = h.2.2 (-2) j := by
  have hs : ((match (generalizing := false) ast with | .inr v :: .inr r :: st => if x_ok h.1 r (t / 16) ∧ -1 ≤ v then some (k + 1, als, st, b, (h.1, x_up h.2.1 r (t % 16 : Nat) v, h.2.2)) else none | _ => none)) = some c' := hst
  repeat' split at hs
  all_goals first | (cases hs; exact ⟨hz, fun j => rfl⟩) | cases hs
theorem x_scr32 (hz : 0 ≤ h.1) (hst : x_stp (32, a, t, u, pc) k als ast b h = some c') : 0 ≤ c'.2.2.2.2.1 ∧ ∀ j, c'.2.2.2.2.2.2 (-2) j = h.2.2 (-2) j := by
  have hs : ((match (generalizing := false) ast with | .inl v :: .inr r :: st => if x_ok h.1 r (t / 16) ∧ (v = 0 ∨ v = 1) then some (k + 1, als, st, b, (h.1, h.2.1, x_up h.2.2 r (t % 16 : Nat) v)) else none | _ => none)) = some c' := hst
  repeat' split at hs
  all_goals first | (cases hs; rename_i hg; exact ⟨hz, fun j => x_up_ne (by simp only [x_ok, Bool.and_eq_true, decide_eq_true_eq] at hg; omega)⟩) | cases hs
theorem x_scr28 (hz : 0 ≤ h.1) (hst : x_stp (28, a, t, u, pc) k als ast b h = some c') : 0 ≤ c'.2.2.2.2.1 ∧ ∀ j, c'.2.2.2.2.2.2 (-2) j = h.2.2 (-2) j := by
  have hs : ((match (generalizing := false) ast with | .inl j :: .inr r :: st => if x_ok h.1 r 8 ∧ 0 ≤ j ∧ j < x_ln r then some (k + 1, als, .inl (h.2.2 r j) :: st, b, h) else none | _ => none)) = some c' := hst
  repeat' split at hs
  all_goals first | (cases hs; exact ⟨hz, fun j => rfl⟩) | cases hs
theorem x_scr29 (hz : 0 ≤ h.1) (hst : x_stp (29, a, t, u, pc) k als ast b h = some c') : 0 ≤ c'.2.2.2.2.1 ∧ ∀ j, c'.2.2.2.2.2.2 (-2) j = h.2.2 (-2) j := by
  have hs : ((match (generalizing := false) ast with | .inl v :: .inl j :: .inr r :: st => if x_ok h.1 r 8 ∧ 0 ≤ j ∧ j < x_ln r then some (k + 1, als, st, b, (h.1, h.2.1, x_up h.2.2 r j v)) else none | _ => none)) = some c' := hst
  repeat' split at hs
  all_goals first | (cases hs; rename_i hg; exact ⟨hz, fun j => x_up_ne (by simp only [x_ok, Bool.and_eq_true, decide_eq_true_eq] at hg; omega)⟩) | cases hs
theorem x_scr30 (hz : 0 ≤ h.1) (hst : x_stp (30, a, t, u, pc) k als ast b h = some c') : 0 ≤ c'.2.2.2.2.1 ∧ ∀ j, c'.2.2.2.2.2.2 (-2) j = h.2.2 (-2) j := by
  have hs : ((match (generalizing := false) ast with | .inl j :: .inr r :: st => if 0 ≤ r ∧ r < h.1 ∧ 10 ≤ x_kd r ∧ x_kd r < 14 ∧ 0 ≤ j ∧ j < x_ln r then some (k + 1, als, .inr (h.2.1 r j) :: st, b, h) else none | _ => none)) = some c' := hst
  repeat' split at hs
  all_goals first | (cases hs; exact ⟨hz, fun j => rfl⟩) | cases hs
theorem x_scr31 (hz : 0 ≤ h.1) (hst : x_stp (31, a, t, u, pc) k als ast b h = some c') : 0 ≤ c'.2.2.2.2.1 ∧ ∀ j, c'.2.2.2.2.2.2 (-2) j = h.2.2 (-2) j := by
  have hs : ((match (generalizing := false) ast with | .inr v :: .inl j :: .inr r :: st => if 0 ≤ r ∧ r < h.1 ∧ 10 ≤ x_kd r ∧ x_kd r < 14 ∧ 0 ≤ j ∧ j < x_ln r ∧ x_ok h.1 v ([0, 2, 4, 5].getD (x_kd r - 10) 99) then some (k + 1, als, st, b, (h.1, x_up h.2.1 r j v, h.2.2)) else none | _ => none)) = some c' := hst
  repeat' split at hs
  all_goals first | (cases hs; exact ⟨hz, fun j => rfl⟩) | cases hs
theorem x_scr33 (hz : 0 ≤ h.1) (hst : x_stp (33, a, t, u, pc) k als ast b h = some c') : 0 ≤ c'.2.2.2.2.1 ∧ ∀ j, c'.2.2.2.2.2.2 (-2) j = h.2.2 (-2) j := by
  have hs : ((match (generalizing := false) ast with | .inl j :: .inr r :: st => if x_ok h.1 r 9 ∧ 0 ≤ j ∧ j < x_ln r then some (k + 1, als, .inl (h.2.2 r j) :: st, b, h) else none | _ => none)) = some c' := hst
  repeat' split at hs
  all_goals first | (cases hs; exact ⟨hz, fun j => rfl⟩) | cases hs
theorem x_scr34 (hz : 0 ≤ h.1) (hst : x_stp (34, a, t, u, pc) k als ast b h = some c') : 0 ≤ c'.2.2.2.2.1 ∧ ∀ j, c'.2.2.2.2.2.2 (-2) j = h.2.2 (-2) j := by
  have hs : ((match (generalizing := false) ast with | .inl v :: .inl j :: .inr r :: st => if x_ok h.1 r 9 ∧ 0 ≤ j ∧ j < x_ln r ∧ (v = 0 ∨ v = 1) then some (k + 1, als, st, b, (h.1, h.2.1, x_up h.2.2 r j v)) else none | _ => none)) = some c' := hst
  repeat' split at hs
  all_goals first | (cases hs; rename_i hg; exact ⟨hz, fun j => x_up_ne (by simp only [x_ok, Bool.and_eq_true, decide_eq_true_eq] at hg; omega)⟩) | cases hs
theorem x_scr35 (hz : 0 ≤ h.1) (hst : x_stp (35, a, t, u, pc) k als ast b h = some c') : 0 ≤ c'.2.2.2.2.1 ∧ ∀ j, c'.2.2.2.2.2.2 (-2) j = h.2.2 (-2) j := by
  have hs : ((if x_kd h.1 = t ∧ t < 8 ∧ 1 ≤ b.1 ∧ xnsl t ≤ b.2 then some (k + 1, als, .inr h.1 :: ast, (b.1 - 1, b.2 - xnsl t), (h.1 + 1, x_clr h.2.1 h.1 (-1), x_clr h.2.2 h.1 0)) else none)) = some c' := hst
  repeat' split at hs
  all_goals first | (cases hs; exact ⟨by show 0 ≤ h.1 + 1; omega, fun j => if_neg (by omega)⟩) | cases hs
theorem x_scr36 (hz : 0 ≤ h.1) (hst : x_stp (36, a, t, u, pc) k als ast b h = some c') : 0 ≤ c'.2.2.2.2.1 ∧ ∀ j, c'.2.2.2.2.2.2 (-2) j = h.2.2 (-2) j := by
  have hs : ((match (generalizing := false) ast with | .inl n :: st => if x_kd h.1 = 8 ∧ x_ln h.1 = n ∧ 0 ≤ n ∧ n ≤ 10000 ∧ 1 ≤ b.1 ∧ n.toNat ≤ b.2 then some (k + 1, als, .inr h.1 :: st, (b.1 - 1, b.2 - n.toNat), (h.1 + 1, x_clr h.2.1 h.1 (-1), x_clr h.2.2 h.1 0)) else none | _ => none)) = some c' := hst
  repeat' split at hs
  all_goals first | (cases hs; exact ⟨by show 0 ≤ h.1 + 1; omega, fun j => if_neg (by omega)⟩) | cases hs
theorem x_scr37 (hz : 0 ≤ h.1) (hst : x_stp (37, a, t, u, pc) k als ast b h = some c') : 0 ≤ c'.2.2.2.2.1 ∧ ∀ j, c'.2.2.2.2.2.2 (-2) j = h.2.2 (-2) j := by
  have hs : ((match (generalizing := false) ast with | .inl n :: st => if x_kd h.1 = 9 ∧ x_ln h.1 = n ∧ 0 ≤ n ∧ n ≤ 10000 ∧ 1 ≤ b.1 ∧ n.toNat ≤ b.2 then some (k + 1, als, .inr h.1 :: st, (b.1 - 1, b.2 - n.toNat), (h.1 + 1, x_clr h.2.1 h.1 (-1), x_clr h.2.2 h.1 0)) else none | _ => none)) = some c' := hst
  repeat' split at hs
  all_goals first | (cases hs; exact ⟨by show 0 ≤ h.1 + 1; omega, fun j => if_neg (by omega)⟩) | cases hs
theorem x_scr38 (hz : 0 ≤ h.1) (hst : x_stp (38, a, t, u, pc) k als ast b h = some c') : 0 ≤ c'.2.2.2.2.1 ∧ ∀ j, c'.2.2.2.2.2.2 (-2) j = h.2.2 (-2) j := by
  have hs : ((match (generalizing := false) ast with | .inl n :: st => if x_kd h.1 = t ∧ 10 ≤ t ∧ t < 14 ∧ x_ln h.1 = n ∧ 0 ≤ n ∧ n ≤ 10000 ∧ 1 ≤ b.1 ∧ n.toNat ≤ b.2 then some (k + 1, als, .inr h.1 :: st, (b.1 - 1, b.2 - n.toNat), (h.1 + 1, x_clr h.2.1 h.1 (-1), x_clr h.2.2 h.1 0)) else none | _ => none)) = some c' := hst
  repeat' split at hs
  all_goals first | (cases hs; exact ⟨by show 0 ≤ h.1 + 1; omega, fun j => if_neg (by omega)⟩) | cases hs
theorem x_scr43 (hz : 0 ≤ h.1) (hst : x_stp (43, a, t, u, pc) k als ast b h = some c') : 0 ≤ c'.2.2.2.2.1 ∧ ∀ j, c'.2.2.2.2.2.2 (-2) j = h.2.2 (-2) j := by
  have hs : ((match (generalizing := false) ast with | .inr r :: st => if 0 ≤ r ∧ r < h.1 ∧ st.length ≤ 8 then some (k + 1, als, st, b, h) else none | _ => none)) = some c' := hst
  repeat' split at hs
  all_goals first | (cases hs; exact ⟨hz, fun j => rfl⟩) | cases hs
theorem x_scr44 (hz : 0 ≤ h.1) (hst : x_stp (44, a, t, u, pc) k als ast b h = some c') : 0 ≤ c'.2.2.2.2.1 ∧ ∀ j, c'.2.2.2.2.2.2 (-2) j = h.2.2 (-2) j := by
  have hs : ((match (generalizing := false) ast with | .inl j :: .inl i :: st => if st.length ≤ 8 then some (k + 1, als, .inl (max i j) :: st, b, h) else none | _ => none)) = some c' := hst
  repeat' split at hs
  all_goals first | (cases hs; exact ⟨hz, fun j => rfl⟩) | cases hs
theorem x_scr45 (hz : 0 ≤ h.1) (hst : x_stp (45, a, t, u, pc) k als ast b h = some c') : 0 ≤ c'.2.2.2.2.1 ∧ ∀ j, c'.2.2.2.2.2.2 (-2) j = h.2.2 (-2) j := by
  have hs : ((match (generalizing := false) ast with | .inl j :: .inl i :: st => if st.length ≤ 8 then some (k + 1, als, .inl (min i j) :: st, b, h) else none | _ => none)) = some c' := hst
  repeat' split at hs
  all_goals first | (cases hs; exact ⟨hz, fun j => rfl⟩) | cases hs
theorem x_scr46 (hz : 0 ≤ h.1) (hst : x_stp (46, a, t, u, pc) k als ast b h = some c') : 0 ≤ c'.2.2.2.2.1 ∧ ∀ j, c'.2.2.2.2.2.2 (-2) j = h.2.2 (-2) j := by
  have hs : ((match (generalizing := false) ast with | .inl n :: .inl dp :: .inr a :: .inl sp :: .inr a0 :: st => if x_ok h.1 a 8 ∧ x_ok h.1 a0 8 ∧ 0 ≤ sp ∧ 0 ≤ dp ∧ 0 ≤ n ∧ sp + n ≤ x_ln a0 ∧ dp + n ≤ x_ln a ∧ st.length ≤ 8 then some (k + 1, als, st, b, (h.1, h.2.1, x_cp h.2.2 a0 sp a dp n)) else none | _ => none)) = some c' := hst
  repeat' split at hs
  all_goals first | (cases hs; rename_i hg; simp only [x_ok, Bool.and_eq_true, decide_eq_true_eq] at hg; exact ⟨hz, fun j => if_neg (by omega)⟩) | cases hs
theorem x_scr47 (hz : 0 ≤ h.1) (hst : x_stp (47, a, t, u, pc) k als ast b h = some c') : 0 ≤ c'.2.2.2.2.1 ∧ ∀ j, c'.2.2.2.2.2.2 (-2) j = h.2.2 (-2) j := by
  have hs : ((match (generalizing := false) ast with | .inl i :: st => some (x_swt u i, als, st, b, h) | _ => none)) = some c' := hst
  repeat' split at hs
  all_goals first | (cases hs; exact ⟨hz, fun j => rfl⟩) | cases hs
theorem x_scr54 (hz : 0 ≤ h.1) (hst : x_stp (54, a, t, u, pc) k als ast b h = some c') : 0 ≤ c'.2.2.2.2.1 ∧ ∀ j, c'.2.2.2.2.2.2 (-2) j = h.2.2 (-2) j := by
  have hs : ((match (generalizing := false) ast with | .inl j :: .inr r :: st => if r = -2 ∧ 0 ≤ j ∧ j < h.2.2 (-2) (-1) then some (k + 1, als, .inl (h.2.2 (-2) j) :: st, b, h) else none | _ => none)) = some c' := hst
  repeat' split at hs
  all_goals first | (cases hs; exact ⟨hz, fun j => rfl⟩) | cases hs
theorem x_scr55 (hz : 0 ≤ h.1) (hst : x_stp (55, a, t, u, pc) k als ast b h = some c') : 0 ≤ c'.2.2.2.2.1 ∧ ∀ j, c'.2.2.2.2.2.2 (-2) j = h.2.2 (-2) j := by
  have hs : ((match (generalizing := false) ast with | .inr r :: st => if r = -2 then some (k + 1, als, .inl (h.2.2 (-2) (-1)) :: st, b, h) else none | _ => none)) = some c' := hst
  repeat' split at hs
  all_goals first | (cases hs; exact ⟨hz, fun j => rfl⟩) | cases hs
theorem x_scr {y : Nat} {i : xI} (hz : 0 ≤ h.1) (hst : x_stp i k als ast b h = some c') : 0 ≤ c'.2.2.2.2.1 ∧ ∀ j, c'.2.2.2.2.2.2 (-2) j = h.2.2 (-2) j := by
  obtain ⟨op, a, t, u, pc⟩ := i
  by_cases o0 : op = 0
  · subst o0; exact x_scr0 hz hst
  by_cases o1 : op = 1
  · subst o1; exact x_scr1 hz hst
  by_cases o2 : op = 2
  · subst o2; exact x_scr2 hz hst
  by_cases o3 : op = 3
  · subst o3; exact x_scr3 hz hst
  by_cases o4 : op = 4
  · subst o4; exact x_scr4 hz hst
  by_cases o5 : op = 5
  · subst o5; exact x_scr5 hz hst
  by_cases o6 : op = 6
  · subst o6; exact x_scr6 hz hst
  by_cases o7 : op = 7
  · subst o7; exact x_scr7 hz hst
  by_cases o8 : op = 8
  · subst o8; exact x_scr8 hz hst
  by_cases o9 : op = 9
  · subst o9; exact x_scr9 hz hst
  by_cases o10 : op = 10
  · subst o10; exact x_scr10 hz hst
  by_cases o11 : op = 11
  · subst o11; exact x_scr11 hz hst
  by_cases o12 : op = 12
  · subst o12; exact x_scr12 hz hst
  by_cases o13 : op = 13
  · subst o13; exact x_scr13 hz hst
  by_cases o14 : op = 14
  · subst o14; exact x_scr14 hz hst
  by_cases o15 : op = 15
  · subst o15; exact x_scr15 hz hst
  by_cases o16 : op = 16
  · subst o16; exact x_scr16 hz hst
  by_cases o17 : op = 17
  · subst o17; exact x_scr17 hz hst
  by_cases o18 : op = 18
  · subst o18; exact x_scr18 hz hst
  by_cases o19 : op = 19
  · subst o19; exact x_scr19 hz hst
  by_cases o20 : op = 20
  · subst o20; exact x_scr20 hz hst
  by_cases o21 : op = 21
  · subst o21; exact x_scr21 hz hst
  by_cases o22 : op = 22
  · subst o22; exact x_scr22 hz hst
  by_cases o23 : op = 23
  · subst o23; exact x_scr23 hz hst
  by_cases o24 : op = 24
  · subst o24; exact x_scr24 hz hst
  by_cases o25 : op = 25
  · subst o25; exact x_scr25 hz hst
  by_cases o26 : op = 26
  · subst o26; exact x_scr26 hz hst
  by_cases o27 : op = 27
  · subst o27; exact x_scr27 hz hst
  by_cases o32 : op = 32
  · subst o32; exact x_scr32 hz hst
  by_cases o28 : op = 28
  · subst o28; exact x_scr28 hz hst
  by_cases o29 : op = 29
  · subst o29; exact x_scr29 hz hst
  by_cases o30 : op = 30
  · subst o30; exact x_scr30 hz hst
  by_cases o31 : op = 31
  · subst o31; exact x_scr31 hz hst
  by_cases o33 : op = 33
  · subst o33; exact x_scr33 hz hst
  by_cases o34 : op = 34
  · subst o34; exact x_scr34 hz hst
  by_cases o35 : op = 35
  · subst o35; exact x_scr35 hz hst
  by_cases o36 : op = 36
  · subst o36; exact x_scr36 hz hst
  by_cases o37 : op = 37
  · subst o37; exact x_scr37 hz hst
  by_cases o38 : op = 38
  · subst o38; exact x_scr38 hz hst
  by_cases o43 : op = 43
  · subst o43; exact x_scr43 hz hst
  by_cases o44 : op = 44
  · subst o44; exact x_scr44 hz hst
  by_cases o45 : op = 45
  · subst o45; exact x_scr45 hz hst
  by_cases o46 : op = 46
  · subst o46; exact x_scr46 hz hst
  by_cases o47 : op = 47
  · subst o47; exact x_scr47 hz hst
  by_cases o54 : op = 54
  · subst o54; exact x_scr54 hz hst
  by_cases o55 : op = 55
  · subst o55; exact x_scr55 hz hst
  have hst : x_stp (op, a, t, u, pc) k als ast b h = some c' := hst
  simp only [x_stp, if_neg o0, if_neg o1, if_neg o2, if_neg o3, if_neg o4, if_neg o5, if_neg o6, if_neg o7, if_neg o8, if_neg o9, if_neg o10, if_neg o11, if_neg o12, if_neg o13, if_neg o14, if_neg o15, if_neg o16, if_neg o17, if_neg o18, if_neg o19, if_neg o20, if_neg o21, if_neg o22, if_neg o23, if_neg o24, if_neg o25, if_neg o26, if_neg o27, if_neg o32, if_neg o28, if_neg o29, if_neg o30, if_neg o31, if_neg o33, if_neg o34, if_neg o35, if_neg o36, if_neg o37, if_neg o38, if_neg o43, if_neg o44, if_neg o45, if_neg o46, if_neg o47, if_neg o54, if_neg o55] at hst
  cases hst
end
end
section
/-! THE INTERPRETER IS SOUND -/
section
variable {p : Program} {l : Launch} {e : Env} {R : Room} {s : State} {m : MethodId} {args : Array Value} {below : List Frame} {meth : Method} {c : Code} {Q : State → Prop}
variable {D : va_G} {cy : Nat → ClassId} {A : Nat → Prop} {bs y CC SS : Nat} {L : List Nat} {h : xH} {H : Heap} {locs : List Loc} {ls : Array Slot} {als ast : List xV} {b : xB} {cells slots k : Nat}
variable {c' : xC}
theorem x_step (F : x_Fr p R s m args meth c D cy A y) (hk : k < (x_cd y).length) (S : x_St s D cy A bs y CC SS L h H locs ls als ast b cells slots) (hCS : CC ≤ R.cells ∧ SS ≤ R.slots) (hscr : x_rk y = 8 → x_Scr s A bs h) (hst : x_stp (x_in y k) k als ast b h = some c') (kk : x_K p l e R s m args below meth c Q D cy A bs y CC SS L c') : W p l e R s m args below meth c H locs cells slots Q (F0 m (x_pc y k) ls (ast.map (x_conc bs L))) := by
  have C := x_ck F.1 hk
  unfold x_pc at C ⊢
  have hcs : cells ≤ R.cells ∧ slots ≤ R.slots := by
    have := S.2.2.2.2.2
    omega
  revert C hst
  generalize x_in y k = i
  intro hst C
  obtain ⟨op, a, t, u, pc⟩ := i

  by_cases o0 : op = 0
  · subst o0; exact x_s0 F C S hst kk
  by_cases o1 : op = 1
  · subst o1; exact x_s1 F C S hst kk
  by_cases o2 : op = 2
  · subst o2; exact x_s2 F C S hst kk
  by_cases o3 : op = 3
  · subst o3; exact x_s3 F C S hst kk
  by_cases o4 : op = 4
  · subst o4; exact x_s4 F C S hst kk
  by_cases o5 : op = 5
  · subst o5; exact x_s5 F C S hst kk
  by_cases o6 : op = 6
  · subst o6; exact x_s6 F C S hst kk
  by_cases o7 : op = 7
  · subst o7; exact x_s7 F C S hst kk
  by_cases o8 : op = 8
  · subst o8; exact x_s8 F C S hst kk
  by_cases o9 : op = 9
  · subst o9; exact x_s9 F C S hst kk
  by_cases o10 : op = 10
  · subst o10; exact x_s10 F C S hst kk
  by_cases o11 : op = 11
  · subst o11; exact x_s11 F C S hst kk
  by_cases o12 : op = 12
  · subst o12; exact x_s12 F C S hst kk
  by_cases o13 : op = 13
  · subst o13; exact x_s13 F C S hst kk
  by_cases o14 : op = 14
  · subst o14; exact x_s14 F C S hst kk
  by_cases o15 : op = 15
  · subst o15; exact x_s15 F C S hst kk
  by_cases o16 : op = 16
  · subst o16; exact x_s16 F C S hst kk
  by_cases o17 : op = 17
  · subst o17; exact x_s17 F C S hst kk
  by_cases o18 : op = 18
  · subst o18; exact x_s18 F C S hst kk
  by_cases o19 : op = 19
  · subst o19; exact x_s19 F C S hst kk
  by_cases o20 : op = 20
  · subst o20; exact x_s20 F C S hst kk
  by_cases o21 : op = 21
  · subst o21; exact x_s21 F C S hst kk
  by_cases o22 : op = 22
  · subst o22; exact x_s22 F C S hst kk
  by_cases o23 : op = 23
  · subst o23; exact x_s23 F C S hst kk
  by_cases o24 : op = 24
  · subst o24; exact x_s24 F C S hst kk
  by_cases o25 : op = 25
  · subst o25; exact x_s25 F C S hst kk
  by_cases o26 : op = 26
  · subst o26; exact x_s26 F C S hst kk
  by_cases o27 : op = 27
  · subst o27; exact x_s27 F C S hst kk
  by_cases o32 : op = 32
  · subst o32; exact x_s32 F C S hst kk
  by_cases o28 : op = 28
  · subst o28; exact x_s28 F C S hst kk
  by_cases o29 : op = 29
  · subst o29; exact x_s29 F C S hst kk
  by_cases o30 : op = 30
  · subst o30; exact x_s30 F C S hst kk
  by_cases o31 : op = 31
  · subst o31; exact x_s31 F C S hst kk
  by_cases o33 : op = 33
  · subst o33; exact x_s33 F C S hst kk
  by_cases o34 : op = 34
  · subst o34; exact x_s34 F C S hst kk
  by_cases o35 : op = 35
  · subst o35; exact x_s35 F C S hCS hst kk
  by_cases o36 : op = 36
  · subst o36; exact x_s36 F C S hCS hst kk
  by_cases o37 : op = 37
  · subst o37; exact x_s37 F C S hCS hst kk
  by_cases o38 : op = 38
  · subst o38; exact x_s38 F C S hCS hst kk
  by_cases o43 : op = 43
  · subst o43; exact x_s43 F C S hst kk
  by_cases o44 : op = 44
  · subst o44; exact x_s44 F C S hcs hst kk
  by_cases o45 : op = 45
  · subst o45; exact x_s45 F C S hcs hst kk
  by_cases o46 : op = 46
  · subst o46; exact x_s46 F C S hst kk
  by_cases o47 : op = 47
  · subst o47; exact x_s47 F C S hst kk
  by_cases o54 : op = 54
  · subst o54; exact x_s54 F C S hscr hst kk
  by_cases o55 : op = 55
  · subst o55; exact x_s55 F C S hscr hst kk
  have hst : x_stp (op, a, t, u, pc) k als ast b h = some c' := hst
  simp only [x_stp, if_neg o0, if_neg o1, if_neg o2, if_neg o3, if_neg o4, if_neg o5, if_neg o6, if_neg o7, if_neg o8, if_neg o9, if_neg o10, if_neg o11, if_neg o12, if_neg o13, if_neg o14, if_neg o15, if_neg o16, if_neg o17, if_neg o18, if_neg o19, if_neg o20, if_neg o21, if_neg o22, if_neg o23, if_neg o24, if_neg o25, if_neg o26, if_neg o27, if_neg o32, if_neg o28, if_neg o29, if_neg o30, if_neg o31, if_neg o33, if_neg o34, if_neg o35, if_neg o36, if_neg o37, if_neg o38, if_neg o43, if_neg o44, if_neg o45, if_neg o46, if_neg o47, if_neg o54, if_neg o55] at hst
  cases hst
/-- a method's words, its room, its start and its end -/
noncomputable def x_wst (t : Nat) : List Cond := .code (x_nm t) (x_by t) (x_ml t) (x_rty (x_rt t)) :: lw_tbl.filter goodWord
noncomputable def x_rm (t : Nat) : Room := { frames := x_dp t, cells := x_mc t, slots := x_ms t, locals := x_lc t }
def x_Pb (D : va_G) (cy : Nat → ClassId) (A : Nat → Prop) (L : List Nat) (h : xH) (U : State) : Prop := (∀ q : Nat, U.heap.size ≤ q → A q) ∧ x_Vw D cy A L h U.heap ∧ va_K D vwCl (x_tys cy) U ∧ ∀ C ∈ x_aos, va_AO C U
def x_Qc (D : va_G) (cy : Nat → ClassId) (A : Nat → Prop) (bs : Nat) (L : List Nat) (v : Option xV) (h : xH) : Array Value → State → Outcome → State → Prop := fun _ st o t => (∃ L' : List Nat, x_ext L L' ∧ o = .returned (v.map (x_conc bs L')) ∧ x_Vw D cy A L' h t.heap ∧ ∀ w ∈ v, x_okv h.1 w) ∧ va_F A st t
/-- what stands at a return -/
def x_Re (y k : Nat) (st : List xV) (v : Option xV) (h : xH) : Prop := k < (x_cd y).length ∧ 50 ≤ (x_in y k).1 ∧ (x_in y k).1 ≤ 53 ∧ x_ret (x_in y k).1 st = some v ∧ ∀ w ∈ st, x_okv h.1 w
theorem x_in_lt {y k : Nat} (h : (x_in y k).1 ≠ 63) : k < (x_cd y).length := by
  apply Classical.byContradiction
  intro q
  apply h
  unfold x_in
  rw [List.getD_eq_getElem?_getD, List.getElem?_eq_none (by omega)]
  rfl
theorem x_stp63 {i : xI} (hi : i.1 = 63) : x_stp i k als ast b h = none := by
  obtain ⟨op, a, t, u, pc⟩ := i
  subst hi
  rfl
theorem x_ckm_of {t : Nat} (ht : t < 181) : (x_nm t).cls = (x_q (x_rk t)).1 ∧ x_rk t < 8 ∧ x_rt t < 6 ∧ plainName (x_nm t).cls = true ∧ ((x_nm t).cls ≠ "java/lang/invoke/MethodHandle" ∧ (x_nm t).cls ≠ "java/lang/invoke/VarHandle") ∧ .code (x_nm t) (x_by t) (x_ml t) (x_rty (x_rt t)) ∈ lw_tbl ∧ .initialized (x_nm t).cls ∈ lw_tbl ∧ (if x_st t = 1 then .static (x_nm t) ∈ lw_tbl ∧ (parseMethodDescriptor (x_nm t).desc).map (fun d => d.parameters.length) = some (x_np t) else 1 ≤ x_np t ∧ .instanceMethod (x_nm t) ∈ lw_tbl ∧ (parseMethodDescriptor (x_nm t).desc).map (fun d => d.parameters.length) = some (x_np t - 1) ∧ (if x_st t = 2 then (x_nm t).name = "<init>" ∧ x_rt t = 0 else x_st t = 0 ∧ .selects (x_nm t).cls (x_nm t) (x_nm t) ∈ lw_tbl)) := by
  have C := x_ckm_ok ht
  unfold x_nm x_rk x_rt x_by x_ml x_st x_np x_bw
  revert C
  generalize x_mi t = me
  intro C
  obtain ⟨nm, ml, rt, ⟨dp, lc, mc, ms⟩, ⟨np, st, rk⟩, ⟨pc, ps, psel, pin⟩, cd⟩ := me
  unfold x_ckm at C
  simp only [Bool.and_eq_true, decide_eq_true_eq] at C
  obtain ⟨⟨⟨⟨⟨⟨⟨⟨C1, C2⟩, C3⟩, C4⟩, C5⟩, C6⟩, C7⟩, C8⟩, C9⟩ := C
  refine ⟨C3, C4, C5, C7, C8, ?_, x_wd_ok C2, ?_⟩
  · show Cond.code nm (if rk = 8 then code else match (x_dr pc).head? with | some (.code _ b _ _) => b | _ => ⟨#[]⟩) ml (x_rty rt) ∈ lw_tbl
    rw [if_neg (by omega)]
    cases hd : (x_dr pc).head? with
    | none => rw [hd] at C1; cases C1
    | some w =>
      rw [hd] at C1
      cases w <;> first | cases C1 | skip
      simp only [Bool.and_eq_true, decide_eq_true_eq] at C1
      obtain ⟨⟨rfl, rfl⟩, rfl⟩ := C1
      rw [x_wdr, List.head?_drop] at hd
      exact List.mem_of_getElem? hd
  · show if st = 1 then Cond.static nm ∈ lw_tbl ∧ (parseMethodDescriptor nm.desc).map (fun d => d.parameters.length) = some np else 1 ≤ np ∧ Cond.instanceMethod nm ∈ lw_tbl ∧ (parseMethodDescriptor nm.desc).map (fun d => d.parameters.length) = some (np - 1) ∧ (if st = 2 then nm.name = "<init>" ∧ rt = 0 else st = 0 ∧ Cond.selects nm.cls nm nm ∈ lw_tbl)
    by_cases q : st = 1
    · rw [if_pos q] at C9 ⊢
      simp only [Bool.and_eq_true, decide_eq_true_eq] at C9
      exact ⟨x_wd_ok C9.1, C9.2⟩
    · rw [if_neg q] at C9 ⊢
      by_cases q2 : st = 2
      · rw [if_pos q2] at C9 ⊢
        simp only [Bool.and_eq_true, decide_eq_true_eq] at C9
        exact ⟨C9.1.1.1, x_wd_ok C9.1.1.2, C9.1.2, C9.2⟩
      · rw [if_neg q2] at C9 ⊢
        simp only [Bool.and_eq_true, decide_eq_true_eq] at C9
        exact ⟨C9.1.1.1, x_wd_ok C9.1.1.2, C9.1.2, C9.2.1, x_wd_ok C9.2.2⟩
theorem x_good_wst {t : Nat} (ht : t < 181) : ∀ w ∈ x_wst t, w ∈ lw_tbl.filter goodWord := by
  intro w hw
  rcases List.mem_cons.mp hw with rfl | hw
  · exact List.mem_filter.mpr ⟨(x_ckm_of ht).2.2.2.2.2.1, rfl⟩
  · exact hw
theorem x_GoodIn {ws : List Cond} (h : ∀ w ∈ ws, w ∈ lw_tbl.filter goodWord) : GoodIn (lw_tbl.filter goodWord) ws := fun w hw => ⟨h w hw, good_of_word (List.mem_filter.mp (h w hw)).2⟩
theorem x_in_gw {w : Cond} (h1 : w ∈ lw_tbl) (h2 : goodWord w = true) : w ∈ lw_tbl.filter goodWord := List.mem_filter.mpr ⟨h1, h2⟩
/-- behind a call -/
theorem x_back {pc : Nat} {st0 rest : List Value} {as : Array Value} {mc ms : Nat} {v : Option xV} {h' : xH} (hr : va_Run p l e R s m args below meth c H locs cells slots mc ms (F0 m pc ls st0) rest (x_Qc D cy A bs L v h' as) A) (hS : va_S A s.heap H locs)
    (kk : ∀ (L' : List Nat) (H1 : Heap) (locs1 : List Loc), x_ext L L' → x_Vw D cy A L' h' H1 → va_S A s.heap H1 locs1 → (∀ w ∈ v, x_okv h'.1 w) → W p l e R s m args below meth c H1 locs1 (cells + mc) (slots + ms) Q (F0 m (pc + 3) ls ((v.map (x_conc bs L')).toList ++ rest))) : W p l e R s m args below meth c H locs cells slots Q (F0 m pc ls st0) := by
  intro T hT X
  obtain ⟨w, st₀, t, T', L1, h0, X', hL, e1, e2, ⟨⟨L', he, ho, hV, hvk⟩, hz, hk⟩, st⟩ := hr T hT X
  cases ho
  rw [h0] at hz hk
  obtain ⟨t2, a1, b1⟩ := kk L' T'.heap (locs ++ L1) he (by rw [e1]; exact hV)
    ⟨Nat.le_trans hS.1 (by rw [e1]; exact hz), fun q h1 h2 => by rw [e1, hk q (Nat.lt_of_lt_of_le h1 hS.1) h2]; exact hS.2.1 q h1 h2, fun q hq => by
      rcases List.mem_append.mp hq with h | h
      · exact hS.2.2 q h
      · exact hL q h⟩ hvk T' rfl X'
  exact ⟨t2, st t2 a1, b1⟩
theorem x_blind {as : List Value} {h : xH} : FrameBlind (va_Pc as (x_Pb D cy A L h)) := fun a U g mk q => ⟨q.1, q.2.1, q.2.2.1, va_K.moved (u := U) (U := U.calling g mk a) (Vm.Alike.refl U.vm) q.2.2.2.1, fun C hC => va_AO.moved (u := U) (U := U.calling g mk a) (Vm.Alike.refl U.vm) (q.2.2.2.2 C hC)⟩
theorem x_sl (vs : List Value) (h : ∀ v ∈ vs, v.category = 1) : lg_sl vs = vs.map Slot.val ∧ lv_args 0 vs = vs.zipIdx.map (fun q => (q.2, q.1)) := by
  have key : ∀ (vs : List Value) (i : Nat), (∀ v ∈ vs, v.category = 1) → lg_sl vs = vs.map Slot.val ∧ lv_args i vs = (vs.zipIdx i).map (fun q => (q.2, q.1)) := by
    intro vs
    induction vs with
    | nil => intro i _; exact ⟨rfl, rfl⟩
    | cons v vs ih =>
      intro i h
      have hv := h v List.mem_cons_self
      obtain ⟨h1, h2⟩ := ih (i + 1) (fun w hw => h w (List.mem_cons_of_mem _ hw))
      refine ⟨?_, ?_⟩
      · have e : lg_sl (v :: vs) = (if v.category = 2 then [Slot.val v, .second] else [Slot.val v]) ++ lg_sl vs := by simp only [lg_sl, List.flatMap_cons]
        rw [e, if_neg (by omega), h1]
        rfl
      · unfold lv_args
        rw [if_neg (by omega), h2]
        rfl
  exact key vs 0 h
end
end
section
/-! THE INTERPRETER IS SOUND: calls and returns -/
theorem x_thou_in (hpm : x_pm = true) (v : Int) : x_in32 (x_thou v) := by
  sorry
section
variable {l : Launch}
theorem x_prim (hpm : x_pm = true) {t : Nat} (ht : t = xprC ∨ t = xprM) {v : Int} (hv : x_in32 v) (D : va_G) (cy : Nat → ClassId) (A : Nat → Prop) (bs : Nat) (L : List Nat) (h : xH) : Met l (x_nm t) (x_wst t) (x_rm t) (va_Pc [.int (Int32.ofInt v)] (x_Pb D cy A L h)) (x_Qc D cy A bs L (some (.inl (x_thou v))) h) (x_mc t) (x_ms t) A := by
  sorry
theorem x_prC0 : x_mc xprC = 0 ∧ x_ms xprC = 0 ∧ x_np xprC = 1 := by decide +kernel
theorem x_prM0 : x_mc xprM = 0 ∧ x_ms xprM = 0 ∧ x_np xprM = 1 := by decide +kernel
theorem x_run_scr : ∀ (n : Nat) {y k : Nat} {als ast : List xV} {b : xB} {h : xH} {v : Option xV} {h' : xH}, 0 ≤ h.1 → x_run n y k als ast b h = some (v, h') → 0 ≤ h'.1 ∧ ∀ j, h'.2.2 (-2) j = h.2.2 (-2) j := by
  intro n
  induction n with
  | zero => intro y k als ast b h v h' _ hr; cases hr
  | succ n ih =>
    intro y k als ast b h v h' hz hr
    unfold x_run at hr
    generalize x_in y k = i at hr
    obtain ⟨op, a, t, u, pc⟩ := i
    dsimp only at hr
    by_cases q1 : 40 ≤ op ∧ op ≤ 42
    · rw [if_pos q1] at hr
      cases ha : x_arg t ast b h with
      | none => rw [ha] at hr; cases hr
      | some q =>
        obtain ⟨as, rest⟩ := q
        rw [ha] at hr
        dsimp only at hr
        cases hr1 : x_run n t 0 (as ++ List.replicate (x_ml t - x_np t) x_un) [] (x_mc t, x_ms t) h with
        | none => rw [hr1] at hr; cases hr
        | some q =>
          obtain ⟨v1, h2⟩ := q
          rw [hr1] at hr
          dsimp only at hr
          obtain ⟨z1, e1⟩ := ih hz hr1
          obtain ⟨z2, e2⟩ := ih z1 hr
          exact ⟨z2, fun j => (e2 j).trans (e1 j)⟩
    · rw [if_neg q1] at hr
      by_cases q2 : 50 ≤ op ∧ op ≤ 53
      · rw [if_pos q2] at hr
        cases hx : x_ret op ast with
        | none => rw [hx] at hr; cases hr
        | some w => rw [hx] at hr; cases hr; exact ⟨hz, fun j => rfl⟩
      · rw [if_neg q2] at hr
        by_cases q3 : op = 56
        · rw [if_pos q3] at hr
          split at hr
          · split at hr
            · exact ih hz hr
            · cases hr
          · cases hr
        · rw [if_neg q3] at hr
          cases hx : x_stp (op, a, t, u, pc) k als ast b h with
          | none => rw [hx] at hr; cases hr
          | some c' =>
            obtain ⟨k', als', ast', b', h1⟩ := c'
            rw [hx] at hr
            dsimp only at hr
            obtain ⟨z1, e1⟩ := x_scr (y := y) hz hx
            obtain ⟨z2, e2⟩ := ih z1 hr
            exact ⟨z2, fun j => (e2 j).trans (e1 j)⟩
def x_Sd (l : Launch) (n : Nat) : Prop := ∀ {y k : Nat} {als ast : List xV} {b : xB} {h : xH} {v : Option xV} {h' : xH}, x_run n y k als ast b h = some (v, h') →
  ∀ {p : Program} {e : Env} {R : Room} {s : State} {m : MethodId} {args : Array Value} {below : List Frame} {meth : Method} {c : Code} {Q : State → Prop} {D : va_G} {cy : Nat → ClassId} {A : Nat → Prop} {bs CC SS : Nat} {L : List Nat} {H : Heap} {locs : List Loc} {ls : Array Slot} {cells slots : Nat},
  x_Fr p R s m args meth c D cy A y → CC ≤ R.cells ∧ SS ≤ R.slots → x_St s D cy A bs y CC SS L h H locs ls als ast b cells slots → (x_rk y = 8 → x_Scr s A bs h) →
  (∀ (L' : List Nat) (H' : Heap) (locs' : List Loc) (ls' : Array Slot) (k' : Nat) (st' : List xV), x_ext L L' → x_Vw D cy A L' h' H' → va_S A s.heap H' locs' → x_Re y k' st' v h' → W p l e R s m args below meth c H' locs' CC SS Q (F0 m (x_pc y k') ls' (st'.map (x_conc bs L')))) →
  W p l e R s m args below meth c H locs cells slots Q (F0 m (x_pc y k) ls (ast.map (x_conc bs L)))
theorem x_ret_ok {op : Nat} {st : List xV} {v : Option xV} (h : x_ret op st = some v) : (op = 50 ∧ ∃ i, st = [.inl i] ∧ v = some (.inl i)) ∨ (op = 51 ∧ ∃ i, st = [.inl i] ∧ v = some (.inl i) ∧ (i = 0 ∨ i = 1)) ∨ (op = 52 ∧ ∃ r, st = [.inr r] ∧ v = some (.inr r) ∧ -1 ≤ r) ∨ ((op ≠ 50 ∧ op ≠ 51 ∧ op ≠ 52) ∧ st = [] ∧ v = none) := by
  unfold x_ret at h
  by_cases q0 : op = 50
  · rw [if_pos q0] at h
    split at h
    · rename_i i
      cases h
      exact Or.inl ⟨q0, i, rfl, rfl⟩
    · cases h
  · rw [if_neg q0] at h
    by_cases q1 : op = 51
    · rw [if_pos q1] at h
      split at h
      · rename_i i
        split at h
        · rename_i g
          cases h
          exact Or.inr (Or.inl ⟨q1, i, rfl, rfl, g⟩)
        · cases h
      · cases h
    · rw [if_neg q1] at h
      by_cases q2 : op = 52
      · rw [if_pos q2] at h
        split at h
        · rename_i r
          split at h
          · rename_i g
            cases h
            exact Or.inr (Or.inr (Or.inl ⟨q2, r, rfl, rfl, g⟩))
          · cases h
        · cases h
      · rw [if_neg q2] at h
        split at h
        · cases h
          exact Or.inr (Or.inr (Or.inr ⟨⟨q0, q1, q2⟩, rfl, rfl⟩))
        · cases h
theorem x_pc0 {y : Nat} (hy : y < 182) (h : 0 < (x_cd y).length) : x_pc y 0 = 0 := by
  have hc := x_ckA_ok hy
  unfold x_ckA at hc
  simp only [Bool.and_eq_true, Bool.or_eq_true, List.isEmpty_iff, decide_eq_true_eq] at hc
  rcases hc.2 with q | q
  · have : (x_cd y) = [] := q
    rw [this] at h
    cases h
  · unfold x_pc x_in
    have e : (x_cd y).getD 0 x_63 = (x_mi y).2.2.2.2.2.2.headD x_63 := by
      show (x_mi y).2.2.2.2.2.2.getD 0 x_63 = _
      cases (x_mi y).2.2.2.2.2.2 <;> rfl
    rw [e]
    exact q
theorem x_run_lt {n y k : Nat} {als ast : List xV} {b : xB} {h : xH} {v : Option xV} {h' : xH} (hr : x_run n y k als ast b h = some (v, h')) : k < (x_cd y).length := by
  cases n with
  | zero => cases hr
  | succ n =>
    apply x_in_lt
    intro q
    unfold x_run at hr
    generalize x_in y k = i at hr q
    obtain ⟨op, a, t, u, pc⟩ := i
    have q : op = 63 := q
    subst q
    cases hr
theorem x_lr0 {bs : Nat} {L : List Nat} {ls : Array Slot} {nL d : Nat} {as : List xV} (hl : lv_has ls nL (lv_args 0 (as.map (x_conc bs L)))) (hn : as.length + d = nL) : x_lr bs L ls nL (as ++ List.replicate d x_un) := by
  have hc : ∀ v ∈ as.map (x_conc bs L), v.category = 1 := fun v hv => by
    obtain ⟨w, -, rfl⟩ := List.mem_map.mp hv
    exact x_cat bs L w
  rw [(x_sl _ hc).2] at hl
  refine ⟨hl.1, hl.2.1, by simp; omega, fun i v hi hv => ?_⟩
  by_cases q : i < as.length
  · rw [List.getElem?_append_left q] at hi
    refine hl.2.2 (i, x_conc bs L v) (List.mem_map.mpr ⟨(x_conc bs L v, i), List.mem_zipIdx_iff_getElem?.mpr ?_, rfl⟩)
    rw [List.getElem?_map, hi]
    rfl
  · rw [List.getElem?_append_right (by omega), List.getElem?_replicate] at hi
    split at hi
    · cases hi
      exact absurd rfl hv
    · cases hi
theorem x_met {n t : Nat} (Sd : x_Sd l n) (ht : t < 181) {as : List xV} {h : xH} {v : Option xV} {h' : xH} (hrun : x_run n t 0 (as ++ List.replicate (x_ml t - x_np t) x_un) [] (x_mc t, x_ms t) h = some (v, h')) (hlen : as.length = x_np t) (hnp : x_np t ≤ x_ml t) (D : va_G) (cy : Nat → ClassId) (A : Nat → Prop) (bs : Nat) (L : List Nat) (hz : 0 ≤ h.1) (hok : ∀ w ∈ as, x_okv h.1 w) : Met l (x_nm t) (x_wst t) (x_rm t) (va_Pc (as.map (x_conc bs L)) (x_Pb D cy A L h)) (x_Qc D cy A bs L v h') (x_mc t) (x_ms t) A := by
  obtain ⟨m1, m2, m3, m4, m5, m6, m7, m8⟩ := x_ckm_of ht
  refine Met.ofW (cc := x_by t) (maxL := x_ml t) (ret := x_rty (x_rt t)) m4 rfl ?_
  intro p e s m args below meth c s₁ B hml hv
  obtain ⟨rfl, hA, V, hK, hAO⟩ := hv
  have hts := atoms_spec (ws := x_wst t) B.pre
  have hx := B.exec
  have hb := B.bytes
  have hr := B.returns
  have hlocks := B.notSynchronized
  have F : x_Fr p (headSpec (x_wst t) (x_rm t)).room s m (as.map (x_conc bs L)).toArray meth c D cy A t :=
    ⟨by omega, hx, hb, hml, findClass_of_methodNamed B.named, fun w hw hg => hts w (List.mem_cons_of_mem _ (List.mem_filter.mpr ⟨hw, hg⟩)), fun q => by
      rw [if_neg (by omega), if_pos q] at m8
      rw [(name_of_methodNamed B.named B.method).1]
      exact m8.2.2.2.1, hK, hAO, Nat.le_refl _, Nat.le_refl _, hA⟩
  have hc : ∀ v ∈ as.map (x_conc bs L), v.category = 1 := fun v hv => by
    obtain ⟨w, -, rfl⟩ := List.mem_map.mp hv
    exact x_cat bs L w
  have hl := lv_entry (as.map (x_conc bs L)) (n := x_ml t) (by rw [(x_sl _ hc).1]; simp; omega)
  rw [lg_entry_eq]
  generalize (lg_sl (as.map (x_conc bs L)) ++ List.replicate (x_ml t - (lg_sl (as.map (x_conc bs L))).length) Slot.unset).toArray = ls at hl ⊢
  have S : x_St s D cy A bs t (x_mc t) (x_ms t) L h s.heap [] ls (as ++ List.replicate (x_ml t - x_np t) x_un) [] (x_mc t, x_ms t) 0 0 := by
    refine ⟨V, va_S.rf, x_lr0 hl (by omega), fun w hw => ?_, fun w hw => (by cases hw), (by simp), (by simp)⟩
    rcases List.mem_append.mp hw with hw | hw
    · exact hok w hw
    · rw [(List.mem_replicate.mp hw).2]
      show (-9 : Int) < h.1
      omega
  have K := Sd hrun F ⟨Nat.le_refl _, Nat.le_refl _⟩ S (fun q => absurd q (by omega)) (e := e) (below := below) (Q := MQ below (x_Qc D cy A bs L v h') (as.map (x_conc bs L)).toArray s (x_mc t) (x_ms t) A) ?_
  · rw [x_pc0 (by omega) (x_run_lt hrun)] at K
    exact K
  · intro L' H' locs' ls' k' st' he hV hS hR
    obtain ⟨r1, r2, r3, r4, r5⟩ := hR
    have C := x_ck (y := t) (by omega) r1
    unfold x_pc at C ⊢
    revert C r2 r3 r4
    generalize x_in t k' = i
    intro r2 r3 r4 C
    obtain ⟨op, a, tt, u, pc⟩ := i
    have hq : ∀ (w : Option Value), w = v.map (x_conc bs L') → ∀ t' : State, t'.heap = H' → s.WarmedH t'.vm → x_Qc D cy A bs L v h' (as.map (x_conc bs L)).toArray s (.returned w) t' := fun w hw t' e1 e2 => by
      refine ⟨⟨L', he, by rw [hw], by rw [e1]; exact hV, fun w' hw' => ?_⟩, hS.F e1⟩
      rcases x_ret_ok r4 with ⟨-, i, h1, h2⟩ | ⟨-, i, h1, h2, -⟩ | ⟨-, i, h1, h2, -⟩ | ⟨-, h1, h2⟩
      · rw [h2] at hw'; cases hw'; exact r5 _ (by rw [h1]; exact List.mem_cons_self)
      · rw [h2] at hw'; cases hw'; exact r5 _ (by rw [h1]; exact List.mem_cons_self)
      · rw [h2] at hw'; cases hw'; exact r5 _ (by rw [h1]; exact List.mem_cons_self)
      · rw [h2] at hw'; cases hw'
    have hf : ∀ q ∈ locs', A q.base := hS.2.2
    rcases x_ret_ok r4 with ⟨ho, i, rfl, rfl⟩ | ⟨ho, i, rfl, rfl, hi⟩ | ⟨ho, r, rfl, rfl, hi⟩ | ⟨ho, rfl, rfl⟩
    · have ho : op = 50 := ho
      subst ho
      have C : (x_is ((x_by t).data.toList.drop pc) .ireturn 1 && decide (x_rt t = 1)) = true := C
      simp only [Bool.and_eq_true, decide_eq_true_eq] at C
      exact W.iret hx hb (by rw [hr, C.2]; rfl) (hq _ rfl) hf (x_is_ok C.1)
    · have ho : op = 51 := ho
      subst ho
      have C : (x_is ((x_by t).data.toList.drop pc) .ireturn 1 && decide (x_rt t = 2)) = true := C
      simp only [Bool.and_eq_true, decide_eq_true_eq] at C
      exact W.zret (ty := .boolean) hx hb (by rw [hr, C.2]; rfl) (by rcases hi with rfl | rfl <;> rfl) (hq _ rfl) hf (x_is_ok C.1)
    · have ho : op = 52 := ho
      subst ho
      have C : (x_is ((x_by t).data.toList.drop pc) .areturn 1 && decide (3 ≤ x_rt t)) = true := C
      simp only [Bool.and_eq_true, decide_eq_true_eq] at C
      have hrt : ∃ n, x_rty (x_rt t) = some (.object n) := by
        unfold x_rty
        rw [if_neg (by omega), if_neg (by omega), if_neg (by omega)]
        split
        · exact ⟨_, rfl⟩
        · split
          · exact ⟨_, rfl⟩
          · exact ⟨_, rfl⟩
      obtain ⟨nm, hnm⟩ := hrt
      refine W.aret (rt := .object nm) hx hb (by rw [hr]; exact hnm) (Or.inl ⟨nm, rfl⟩) ?_ (hq _ rfl) hf (x_is_ok C.1)
      by_cases q : r < 0
      · exact Or.inl (x_null q (by omega))
      · exact Or.inr ⟨_, x_ref (by omega)⟩
    · have ho2 : op = 53 := by
        have r2 : 50 ≤ op := r2
        have r3 : op ≤ 53 := r3
        have ho : op ≠ 50 ∧ op ≠ 51 ∧ op ≠ 52 := ho
        omega
      subst ho2
      have C : (x_is ((x_by t).data.toList.drop pc) .return_ 1 && decide (x_rt t = 0)) = true := C
      simp only [Bool.and_eq_true, decide_eq_true_eq] at C
      exact W.vret hx hb (by rw [hr, C.2]; rfl) (hq _ rfl) hf (x_is_ok C.1)
end
end
section
section
variable {l : Launch}
theorem x_ml_ok {u : Nat} {own : String} {t pc p2 : Nat} {f : Nat → Instr} {sf : List UInt8} (h : x_ckL own t u f sf pc p2 = true) : ∃ (pl ix : Nat), t < 181 ∧ x_wd pl (.methodLink own ix (x_nm t)) = true ∧ x_D sf pc p2 (f ix) 3 = true := by
  unfold x_ckL at h
  cases hq : xml[u]? with
  | none => rw [hq] at h; cases h
  | some q =>
    obtain ⟨pl, o, ix, y⟩ := q
    rw [hq] at h
    simp only [Bool.and_eq_true, decide_eq_true_eq] at h
    obtain ⟨⟨rfl, rfl⟩, hD⟩ := h
    have := List.all_eq_true.mp x_mlok _ (List.mem_of_getElem? hq)
    simp only [Bool.and_eq_true, decide_eq_true_eq] at this
    exact ⟨pl, ix, this.2, this.1, hD⟩
theorem x_okv_le {z z' : Int} {v : xV} (h : x_okv z v) (hz : z ≤ z') : x_okv z' v := by
  cases v with
  | inl i => exact h
  | inr r => exact Int.lt_of_lt_of_le (show r < z from h) hz
theorem x_Scr.eq {s : State} {A : Nat → Prop} {bs : Nat} {h h2 : xH} (H : x_Scr s A bs h) (e : ∀ j, h2.2.2 (-2) j = h.2.2 (-2) j) : x_Scr s A bs h2 := by
  obtain ⟨N, xs, h1, h2, h3, h4, h5, h6⟩ := H
  exact ⟨N, xs, h1, h2, h3, fun j hj => (e j).trans (h4 j hj), (e _).trans h5, h6⟩
theorem x_arg_ok {t : Nat} {st : List xV} {b : xB} {h : xH} {q : List xV × List xV} (ha : x_arg t st b h = some q) : (x_np t ≤ st.length ∧ (st.drop (x_np t)).length ≤ 8 ∧ x_mc t ≤ b.1 ∧ x_ms t ≤ b.2 ∧ x_np t ≤ x_ml t ∧ (x_st t = 1 ∨ x_rc h.1 (x_rk t) (st.take (x_np t)).reverse = true)) ∧ q = ((st.take (x_np t)).reverse, st.drop (x_np t)) := by
  unfold x_arg at ha
  by_cases g : (x_np t ≤ st.length ∧ (st.drop (x_np t)).length ≤ 8 ∧ x_mc t ≤ b.1 ∧ x_ms t ≤ b.2 ∧ x_np t ≤ x_ml t ∧ (x_st t = 1 ∨ x_rc h.1 (x_rk t) (st.take (x_np t)).reverse = true))
  · rw [if_pos g] at ha
    cases ha
    exact ⟨g, rfl⟩
  · rw [if_neg g] at ha
    cases ha
set_option maxHeartbeats 1000000 in
theorem x_sound (l : Launch) : ∀ n : Nat, x_Sd l n := by
  intro n
  induction n with
  | zero => intro y k als ast b h v h' hr; cases hr
  | succ n ih =>
    intro y k als ast b h v h' hr p e R s m args below meth c Q D cy A bs CC SS L H locs ls cells slots F hCS S hscr kk
    have hk := x_run_lt hr
    have C0 := x_ck F.1 hk
    have hz : (0 : Int) ≤ h.1 := by rw [← S.1.1]; omega
    have hr0 := hr
    unfold x_run at hr
    cases hi : x_in y k with
    | mk op r =>
    obtain ⟨a, t, u, pc⟩ := r
    have hpc : x_pc y k = pc := by unfold x_pc; rw [hi]
    rw [hi] at hr C0
    rw [hpc] at C0
    dsimp only at hr
    by_cases q1 : 40 ≤ op ∧ op ≤ 42
    · rw [if_pos q1] at hr
      cases ha : x_arg t ast b h with
      | none => rw [ha] at hr; cases hr
      | some q =>
        obtain ⟨as, rest⟩ := q
        rw [ha] at hr
        dsimp only at hr
        cases hr1 : x_run n t 0 (as ++ List.replicate (x_ml t - x_np t) x_un) [] (x_mc t, x_ms t) h with
        | none => rw [hr1] at hr; cases hr
        | some q =>
          obtain ⟨v1, h2⟩ := q
          rw [hr1] at hr
          dsimp only at hr
          obtain ⟨⟨g1, g2, g3, g4, g5, g6⟩, hq⟩ := x_arg_ok ha
          cases hq
          have ho := S.2.2.2.2.1
          have hst : ast = ast.take (x_np t) ++ ast.drop (x_np t) := (List.take_append_drop _ _).symm
          have hoA : ∀ w ∈ (ast.take (x_np t)).reverse, x_okv h.1 w := fun w hw => ho w (List.mem_of_mem_take (List.mem_reverse.mp hw))
          have hoR : ∀ w ∈ ast.drop (x_np t), x_okv h.1 w := fun w hw => ho w (List.mem_of_mem_drop hw)
          have hlen : (ast.take (x_np t)).reverse.length = x_np t := by simp; omega
          generalize has : (ast.take (x_np t)).reverse = as at hr1 hoA hlen g6
          generalize hrest : ast.drop (x_np t) = rest at hr hoR g2
          have hst2 : ast.map (x_conc bs L) = (as.map (x_conc bs L)).reverse ++ rest.map (x_conc bs L) := by
            rw [← has, ← hrest, ← List.map_reverse, List.reverse_reverse, ← List.map_append, List.take_append_drop]
          -- behind the call
          have key : ∀ (L' : List Nat) (H1 : Heap) (locs1 : List Loc), x_ext L L' → x_Vw D cy A L' h2 H1 → va_S A s.heap H1 locs1 → (∀ w ∈ v1, x_okv h2.1 w) → W p l e R s m args below meth c H1 locs1 (cells + x_mc t) (slots + x_ms t) Q (F0 m (x_pc y (k + 1)) ls ((v1.map (x_conc bs L')).toList ++ rest.map (x_conc bs L))) := by
            intro L' H1 locs1 he V1 S1 hv1
            have hzz : h.1 ≤ h2.1 := by
              obtain ⟨tt, rfl⟩ := he
              rw [← S.1.1, ← V1.1]
              simp
              omega
            have S' : x_St s D cy A bs y CC SS L' h2 H1 locs1 ls als (v1.toList ++ rest) (b.1 - x_mc t, b.2 - x_ms t) (cells + x_mc t) (slots + x_ms t) := by
              refine ⟨V1, S1, x_lr_ext S.1.1 he S.2.2.2.1 S.2.2.1, fun w hw => x_okv_le (S.2.2.2.1 w hw) hzz, fun w hw => ?_, ?_, ?_⟩
              · rcases List.mem_append.mp hw with hw | hw
                · exact hv1 w (Option.mem_toList.mp hw)
                · exact x_okv_le (hoR w hw) hzz
              · have := S.2.2.2.2.2.1
                show cells + x_mc t + (b.1 - x_mc t) = CC
                omega
              · have := S.2.2.2.2.2.2
                show slots + x_ms t + (b.2 - x_ms t) = SS
                omega
            have K := ih hr F hCS S' (fun q => (hscr q).eq (x_run_scr n hz hr1).2) (fun L2 H2 locs2 ls2 k2 st2 he2 => kk L2 H2 locs2 ls2 k2 st2 (x_ext_tr he he2))
            refine W.eq ?_ K
            rw [List.map_append, x_map_ext S.1.1 he hoR]
            cases v1 <;> rfl
          obtain ⟨hy, hx, hb, hml, hown, hts, hinit, hK, hAO, hfr, hlo, hA⟩ := id F
          have hts2 : ∀ w ∈ lw_tbl.filter goodWord, w.before args s = true := fun w hw => hts w (List.mem_filter.mp hw).1 (List.mem_filter.mp hw).2
          have SF : CallFix p m c (x_by y) (x_ml y) s args (lw_tbl.filter goodWord) (x_nm y).cls := ⟨hx, hb, hml, hown, hts2⟩
          have hPb : ∀ U : State, U.heap = H → s.WarmedH U.vm → x_Pb D cy A L h U := fun U hU hW => ⟨fun q hq => hA q (Nat.le_trans S.2.1.1 (by rw [← hU]; exact hq)), by rw [hU]; exact S.1, va_K.moved hW.alike hK, fun C hC => va_AO.moved hW.alike (hAO C hC)⟩
          have hroom8 : ((rest.map (x_conc bs L)).map fun v => v.category).sum ≤ 8 := by rw [x_sum]; exact g2
          have hf : cells + x_mc t ≤ R.cells ∧ slots + x_ms t ≤ R.slots := by
            have := S.2.2.2.2.2
            omega
          rw [hpc, hst2]
          rcases (show op = 40 ∨ op = 41 ∨ op = 42 by omega) with rfl | rfl | rfl
          · have C : (x_ckL (x_nm y).cls t u .invokevirtual ((x_by y).data.toList.drop pc) pc (x_pc y (k + 1)) && decide (x_st t = 0) && decide (x_dp t + 1 ≤ x_dp y) && decide (8 + (x_ml t + 11) + x_lc t ≤ x_lc y)) = true := C0
            simp only [Bool.and_eq_true, decide_eq_true_eq] at C
            obtain ⟨⟨⟨C, c0⟩, c1⟩, c2⟩ := C
            obtain ⟨pl, ix, ht, hw, hD⟩ := x_ml_ok C
            obtain ⟨hd, hp⟩ := x_D_ok hD
            obtain ⟨m1, m2, m3, m4, m5, m6, m7, m8⟩ := x_ckm_of ht
            rw [if_neg (by omega), if_neg (by omega)] at m8
            have g6 := g6.resolve_left (by omega)
            cases as with
            | nil => cases g6
            | cons w0 as' =>
              cases w0 with
              | inl i => cases g6
              | inr r =>
                obtain ⟨r0, r1, r2⟩ := x_ok_ok (show x_ok h.1 r (x_rk t) = true from g6)
                have hM := x_met ih ht hr1 hlen g5 D cy A bs L hz hoA
                have hl : r < L.length := by rw [S.1.1]; exact r1
                obtain ⟨q1', -, -, -⟩ := x_cls m2
                have hrecv := va_recv hK S.1.2.2.2.1 q1' ((x_ws_get (cy := cy) (h := h) r0 hl).trans (by rw [x_ent_obj r2 m2]))
                rw [List.map_cons, List.reverse_cons, List.append_assoc, x_ref r0]
                rw [List.map_cons, x_ref r0] at hM
                refine x_back (va_runV (C := (x_nm t).cls) (As := as'.map (x_conc bs L)) (rest := rest.map (x_conc bs L)) SF hM (cwV (x_np t - 1) hts2 (x_GoodIn ?_) rfl rfl rfl ⟨rfl, m5.1, m5.2, m8.2.2.1⟩ ⟨show x_dp t + 1 ≤ R.frames by omega, show 8 + (x_ml t + 11) + x_lc t ≤ R.locals by omega⟩) ⟨x_blind, by rw [m1]; exact hrecv, fun U hU hW => ⟨rfl, hPb U hU hW⟩⟩ rfl (by simp at hlen ⊢; omega) S.2.2.1.1 rfl (lv_room hroom8) hd hf) S.2.1 (fun L' H1 locs1 he V1 S1 hv1 => ?_)
                · intro w hw'
                  rcases List.mem_append.mp hw' with hw' | hw'
                  · simp only [List.mem_cons, List.not_mem_nil, or_false] at hw'
                    rcases hw' with rfl | rfl | rfl | rfl
                    · exact x_in_gw (x_wd_ok hw) rfl
                    · exact x_in_gw m8.2.1 rfl
                    · exact x_in_gw m8.2.2.2.2 rfl
                    · exact x_in_gw m7 rfl
                  · exact x_good_wst ht w hw'
                · rw [← hp]
                  exact key L' H1 locs1 he V1 S1 hv1
          · have C : (x_ckL (x_nm y).cls t u .invokestatic ((x_by y).data.toList.drop pc) pc (x_pc y (k + 1)) && decide (x_st t = 1) && decide (x_dp t + 1 ≤ x_dp y) && decide (8 + (x_ml t + 11) + x_lc t ≤ x_lc y)) = true := C0
            simp only [Bool.and_eq_true, decide_eq_true_eq] at C
            obtain ⟨⟨⟨C, c0⟩, c1⟩, c2⟩ := C
            obtain ⟨pl, ix, ht, hw, hD⟩ := x_ml_ok C
            obtain ⟨hd, hp⟩ := x_D_ok hD
            obtain ⟨m1, m2, m3, m4, m5, m6, m7, m8⟩ := x_ckm_of ht
            rw [if_pos c0] at m8
            have hM := x_met ih ht hr1 hlen g5 D cy A bs L hz hoA
            refine x_back (va_runS (As := as.map (x_conc bs L)) (rest := rest.map (x_conc bs L)) SF hM (va_cwS (x_np t) hts2 (x_GoodIn ?_) rfl rfl rfl ⟨m5.1, m5.2, m8.2⟩ ⟨show x_dp t + 1 ≤ R.frames by omega, show 8 + (x_ml t + 11) + x_lc t ≤ R.locals by omega⟩) ⟨x_blind, fun U hU hW => ⟨rfl, hPb U hU hW⟩⟩ rfl (by simp; omega) S.2.2.1.1 rfl (lv_room hroom8) hd hf) S.2.1 (fun L' H1 locs1 he V1 S1 hv1 => ?_)
            · intro w hw'
              rcases List.mem_append.mp hw' with hw' | hw'
              · simp only [List.mem_cons, List.not_mem_nil, or_false] at hw'
                rcases hw' with rfl | rfl | rfl
                · exact x_in_gw (x_wd_ok hw) rfl
                · exact x_in_gw m8.1 rfl
                · exact x_in_gw m7 rfl
              · exact x_good_wst ht w hw'
            · rw [← hp]
              exact key L' H1 locs1 he V1 S1 hv1
          · have C : (x_ckL (x_nm y).cls t u .invokespecial ((x_by y).data.toList.drop pc) pc (x_pc y (k + 1)) && decide (x_st t = 2) && decide (x_dp t + 1 ≤ x_dp y) && decide (8 + (x_ml t + 11) + x_lc t ≤ x_lc y)) = true := C0
            simp only [Bool.and_eq_true, decide_eq_true_eq] at C
            obtain ⟨⟨⟨C, c0⟩, c1⟩, c2⟩ := C
            obtain ⟨pl, ix, ht, hw, hD⟩ := x_ml_ok C
            obtain ⟨hd, hp⟩ := x_D_ok hD
            obtain ⟨m1, m2, m3, m4, m5, m6, m7, m8⟩ := x_ckm_of ht
            rw [if_neg (by omega), if_pos c0] at m8
            have g6 := g6.resolve_left (by omega)
            cases as with
            | nil => cases g6
            | cons w0 as' =>
              cases w0 with
              | inl i => cases g6
              | inr r =>
                obtain ⟨r0, r1, r2⟩ := x_ok_ok (show x_ok h.1 r (x_rk t) = true from g6)
                have hM := x_met ih ht hr1 hlen g5 D cy A bs L hz hoA
                have hws : x_wst t = Cond.code (x_nm t) (x_by t) (x_ml t) none :: lw_tbl.filter goodWord := by
                  unfold x_wst
                  rw [m8.2.2.2.2]
                  rfl
                rw [List.map_cons, List.reverse_cons, List.append_assoc, x_ref r0]
                rw [List.map_cons, x_ref r0] at hM
                refine x_back (va_runI (As := as'.map (x_conc bs L)) (rest := rest.map (x_conc bs L)) SF hM (cwI (x_np t - 1) hts2 (x_GoodIn (x_good_wst ht)) hws rfl rfl (hts _ m7 rfl) (hts _ (x_wd_ok hw) rfl) (hts _ m8.2.1 rfl) m8.2.2.2.1 ⟨m5.1, m5.2, m8.2.2.1⟩ ⟨show x_dp t + 1 ≤ R.frames by omega, show 8 + (x_ml t + 11) + x_lc t ≤ R.locals by omega⟩) ⟨x_blind, fun U hU hW => ⟨rfl, hPb U hU hW⟩⟩ rfl (by simp at hlen ⊢; omega) S.2.2.1.1 rfl (lv_room hroom8) hd hf) S.2.1 (fun L' H1 locs1 he V1 S1 hv1 => ?_)
                rw [← hp]
                exact key L' H1 locs1 he V1 S1 hv1
    · rw [if_neg q1] at hr
      by_cases q2 : 50 ≤ op ∧ op ≤ 53
      · rw [if_pos q2] at hr
        cases hx : x_ret op ast with
        | none => rw [hx] at hr; cases hr
        | some w =>
          rw [hx] at hr
          cases hr
          have hcs := S.2.2.2.2.2
          exact W.widen (by omega) (by omega) (kk L H locs ls k ast (x_ext_rf L) S.1 S.2.1 ⟨hk, by rw [hi]; exact q2.1, by rw [hi]; exact q2.2, by rw [hi]; exact hx, S.2.2.2.2.1⟩)
      · rw [if_neg q2] at hr
        by_cases q3 : op = 56
        · rw [if_pos q3] at hr
          subst q3
          split at hr
          rotate_left
          · cases hr
          rename_i i st
          split at hr
          rotate_left
          · cases hr
          rename_i h8
          have ho := S.2.2.2.2.1
          have oi : x_in32 i := x_hd ho
          obtain ⟨hy, hx, hb, hml, hown, hts, hinit, hK, hAO, hfr, hlo, hA⟩ := id F
          have hts2 : ∀ w ∈ lw_tbl.filter goodWord, w.before args s = true := fun w hw => hts w (List.mem_filter.mp hw).1 (List.mem_filter.mp hw).2
          have C : (x_ckL (x_nm y).cls t u .invokestatic ((x_by y).data.toList.drop pc) pc (x_pc y (k + 1)) && decide (t = xprC ∨ t = xprM) && decide (x_st t = 1) && decide (x_dp t + 1 ≤ x_dp y) && decide (8 + (x_ml t + 11) + x_lc t ≤ x_lc y)) = true := C0
          simp only [Bool.and_eq_true, decide_eq_true_eq] at C
          obtain ⟨⟨⟨⟨C, cp⟩, c0⟩, c1⟩, c2⟩ := C
          obtain ⟨pl, ix, ht, hw, hD⟩ := x_ml_ok C
          obtain ⟨hd, hp⟩ := x_D_ok hD
          obtain ⟨m1, m2, m3, m4, m5, m6, m7, m8⟩ := x_ckm_of ht
          rw [if_pos c0] at m8
          have hM := x_prim (l := l) h8.2 cp oi D cy A bs L h
          have hmm : x_mc t = 0 ∧ x_ms t = 0 ∧ x_np t = 1 := by
            rcases cp with rfl | rfl
            · exact x_prC0
            · exact x_prM0
          have hcs := S.2.2.2.2.2
          rw [hpc]
          show W p l e R s m args below meth c H locs cells slots Q (F0 m pc ls (.int (Int32.ofInt i) :: st.map (x_conc bs L)))
          refine x_back (va_runS (As := [.int (Int32.ofInt i)]) (rest := st.map (x_conc bs L)) ⟨hx, hb, hml, hown, hts2⟩ hM (va_cwS (own := (x_nm y).cls) 1 hts2 (x_GoodIn ?_) rfl rfl rfl ⟨m5.1, m5.2, by rw [m8.2, hmm.2.2]⟩ ⟨show x_dp t + 1 ≤ R.frames by omega, show 8 + (x_ml t + 11) + x_lc t ≤ R.locals by omega⟩) ⟨x_blind, fun U hU hW => ⟨rfl, fun q hq => hA q (Nat.le_trans S.2.1.1 (by rw [← hU]; exact hq)), by rw [hU]; exact S.1, va_K.moved hW.alike hK, fun C hC => va_AO.moved hW.alike (hAO C hC)⟩⟩ rfl rfl S.2.2.1.1 rfl (lv_room (by rw [x_sum]; exact h8.1)) hd ⟨by omega, by omega⟩) S.2.1 (fun L' H1 locs1 he V1 S1 hv1 => ?_)
          · intro w hw'
            rcases List.mem_append.mp hw' with hw' | hw'
            · simp only [List.mem_cons, List.not_mem_nil, or_false] at hw'
              rcases hw' with rfl | rfl | rfl
              · exact x_in_gw (x_wd_ok hw) rfl
              · exact x_in_gw m8.1 rfl
              · exact x_in_gw m7 rfl
            · exact x_good_wst ht w hw'
          · have S' : x_St s D cy A bs y CC SS L' h H1 locs1 ls als (.inl (x_thou i) :: st) b (cells + x_mc t) (slots + x_ms t) := by
              refine ⟨V1, S1, x_lr_ext S.1.1 he S.2.2.2.1 S.2.2.1, S.2.2.2.1, x_cons (x_thou_in h8.2 i) (x_tls ho), ?_, ?_⟩
              · omega
              · omega
            have K := ih hr F hCS S' hscr (fun L2 H2 locs2 ls2 k2 st2 he2 => kk L2 H2 locs2 ls2 k2 st2 (x_ext_tr he he2))
            refine W.eq ?_ K
            rw [hp, List.map_cons, x_map_ext S.1.1 he (x_tls ho)]
            rfl
        · rw [if_neg q3] at hr
          cases hx : x_stp (op, a, t, u, pc) k als ast b h with
          | none => rw [hx] at hr; cases hr
          | some c' =>
            obtain ⟨k', als', ast', b', h1⟩ := c'
            rw [hx] at hr
            dsimp only at hr
            refine x_step F hk S hCS hscr (c' := (k', als', ast', b', h1)) (by rw [hi]; exact hx) ?_
            intro L' H' locs' ls' cells' slots' he S'
            exact ih hr F hCS S' (fun q => (hscr q).eq (x_scr (y := y) hz hx).2) (fun L2 H2 locs2 ls2 k2 st2 he2 => kk L2 H2 locs2 ls2 k2 st2 (x_ext_tr he he2))
end
end
section
/-! RUNS WITHOUT FUEL, a rule an instruction -/
def x_Ev (y k : Nat) (ls st : List xV) (b : xB) (h : xH) (r : Option xV × xH → Prop) : Prop := ∃ n q, x_run n y k ls st b h = some q ∧ r q
/-- a call, and what holds behind it -/
def x_CallR (t : Nat) (as : List xV) (h : xH) (r : Option xV × xH → Prop) : Prop := x_Ev t 0 (as ++ List.replicate (x_ml t - x_np t) x_un) [] (x_mc t, x_ms t) h r
def x_Call (t : Nat) (as : List xV) (h : xH) (v : Option xV) (h' : xH) : Prop := x_CallR t as h (fun q => q = (v, h'))
def x_b (c : Prop) [Decidable c] : Int := if c then 1 else 0
theorem x_run_one : ∀ (n : Nat) {y k : Nat} {ls st : List xV} {b : xB} {h : xH} {r : Option xV × xH}, x_run n y k ls st b h = some r → x_run (n + 1) y k ls st b h = some r := by
  intro n
  induction n with
  | zero => intro y k ls st b h r hr; cases hr
  | succ n ih =>
    intro y k ls st b h r hr
    unfold x_run at hr ⊢
    generalize x_in y k = i at hr ⊢
    obtain ⟨op, a, t, u, pc⟩ := i
    dsimp only at hr ⊢
    by_cases q1 : 40 ≤ op ∧ op ≤ 42
    · rw [if_pos q1] at hr ⊢
      cases ha : x_arg t st b h with
      | none => rw [ha] at hr; cases hr
      | some q =>
        obtain ⟨as, rest⟩ := q
        rw [ha] at hr
        dsimp only at hr ⊢
        cases hr1 : x_run n t 0 (as ++ List.replicate (x_ml t - x_np t) x_un) [] (x_mc t, x_ms t) h with
        | none => rw [hr1] at hr; cases hr
        | some q =>
          obtain ⟨v1, h2⟩ := q
          rw [hr1] at hr
          rw [ih hr1]
          exact ih hr
    · rw [if_neg q1] at hr ⊢
      by_cases q2 : 50 ≤ op ∧ op ≤ 53
      · rw [if_pos q2] at hr ⊢
        exact hr
      · rw [if_neg q2] at hr ⊢
        by_cases q3 : op = 56
        · rw [if_pos q3] at hr ⊢
          split at hr
          · split at hr
            · rename_i g
              rw [if_pos g]
              exact ih hr
            · cases hr
          · cases hr
        · rw [if_neg q3] at hr ⊢
          cases hx : x_stp (op, a, t, u, pc) k ls st b h with
          | none => rw [hx] at hr; cases hr
          | some c' =>
            obtain ⟨k', als', ast', b', h1⟩ := c'
            rw [hx] at hr
            exact ih hr
theorem x_run_le {n m y k : Nat} {ls st : List xV} {b : xB} {h : xH} {r : Option xV × xH} (hnm : n ≤ m) (hr : x_run n y k ls st b h = some r) : x_run m y k ls st b h = some r := by
  induction hnm with
  | refl => exact hr
  | step _ ih => exact x_run_one _ ih
section
variable {y k : Nat} {ls st : List xV} {b : xB} {h : xH} {r : Option xV × xH → Prop} {a : Int} {t u pc : Nat}
theorem x_ev_stp {op k' : Nat} {ls' st' : List xV} {b' : xB} {h' : xH} (hi : x_in y k = (op, a, t, u, pc)) (ho : ¬ (40 ≤ op ∧ op ≤ 42) ∧ ¬ (50 ≤ op ∧ op ≤ 53) ∧ ¬ op = 56) (hs : x_stp (op, a, t, u, pc) k ls st b h = some (k', ls', st', b', h')) (kk : x_Ev y k' ls' st' b' h' r) : x_Ev y k ls st b h r := by
  obtain ⟨n, q, hn, hq⟩ := kk
  refine ⟨n + 1, q, ?_, hq⟩
  unfold x_run
  rw [hi]
  dsimp only
  rw [if_neg ho.1, if_neg ho.2.1, if_neg ho.2.2, hs]
  exact hn
theorem x_ev_call {as rest : List xV} {op : Nat} {r1 : Option xV × xH → Prop} (hi : x_in y k = (op, a, t, u, pc)) (ho : 40 ≤ op ∧ op ≤ 42) (ha : x_arg t st b h = some (as, rest)) (hc : x_CallR t as h r1) (kk : ∀ v h1, r1 (v, h1) → x_Ev y (k + 1) ls (v.toList ++ rest) (b.1 - x_mc t, b.2 - x_ms t) h1 r) : x_Ev y k ls st b h r := by
  obtain ⟨n1, q1, hn1, hq1⟩ := hc
  obtain ⟨v, h1⟩ := q1
  obtain ⟨n, q, hn, hq⟩ := kk v h1 hq1
  refine ⟨max n n1 + 1, q, ?_, hq⟩
  unfold x_run
  rw [hi]
  dsimp only
  rw [if_pos ho, ha]
  dsimp only
  rw [x_run_le (Nat.le_max_right n n1) hn1]
  exact x_run_le (Nat.le_max_left n n1) hn
theorem e_prim {v : Int} (hi : x_in y k = (56, a, t, u, pc)) (h8 : st.length ≤ 8 ∧ x_pm = true) (kk : x_Ev y (k + 1) ls (.inl (x_thou v) :: st) b h r) : x_Ev y k ls (.inl v :: st) b h r := by
  obtain ⟨n, q, hn, hq⟩ := kk
  refine ⟨n + 1, q, ?_, hq⟩
  unfold x_run
  rw [hi]
  dsimp only
  rw [if_neg (by omega), if_neg (by omega), if_pos rfl, if_pos h8]
  exact hn
theorem x_ev_ret {op : Nat} {v : Option xV} (hi : x_in y k = (op, a, t, u, pc)) (ho : 50 ≤ op ∧ op ≤ 53) (hx : x_ret op st = some v) (hr : r (v, h)) : x_Ev y k ls st b h r := by
  refine ⟨1, (v, h), ?_, hr⟩
  unfold x_run
  rw [hi]
  dsimp only
  rw [if_neg (by omega), if_pos ho, hx]
theorem e_iret {v : Int} (hi : x_in y k = (50, a, t, u, pc)) (hr : r (some (.inl v), h)) : x_Ev y k ls [.inl v] b h r := x_ev_ret hi ⟨by omega, by omega⟩ rfl hr
theorem e_zret {v : Int} (hi : x_in y k = (51, a, t, u, pc)) (hv : v = 0 ∨ v = 1) (hr : r (some (.inl v), h)) : x_Ev y k ls [.inl v] b h r := x_ev_ret hi ⟨by omega, by omega⟩ (if_pos hv) hr
theorem e_aret {v : Int} (hi : x_in y k = (52, a, t, u, pc)) (hv : -1 ≤ v) (hr : r (some (.inr v), h)) : x_Ev y k ls [.inr v] b h r := x_ev_ret hi ⟨by omega, by omega⟩ (if_pos hv) hr
theorem e_vret (hi : x_in y k = (53, a, t, u, pc)) (hr : r (none, h)) : x_Ev y k ls [] b h r := x_ev_ret hi ⟨by omega, by omega⟩ rfl hr
theorem x_we {x : Int} (h : -2147483648 ≤ x ∧ x < 2147483648) : x_w x = x := x_w_eq h
theorem e_iconst (hi : x_in y k = (0, a, t, u, pc)) (kk : x_Ev y (k + 1) ls (.inl a :: st) b h r) : x_Ev y k ls st b h r := x_ev_stp hi (by decide) rfl kk
theorem e_iload {v : Int} (hi : x_in y k = (1, a, t, u, pc)) (hl : ls[t]? = some (.inl v)) (kk : x_Ev y (k + 1) ls (.inl v :: st) b h r) : x_Ev y k ls st b h r := x_ev_stp hi (by decide) (by show (match ls[t]? with | some (.inl v) => some (k + 1, ls, Sum.inl v :: st, b, h) | _ => none) = _; rw [hl]) kk
theorem e_aload {v : Int} (hi : x_in y k = (2, a, t, u, pc)) (hl : ls[t]? = some (.inr v)) (hv : -2 ≤ v) (kk : x_Ev y (k + 1) ls (.inr v :: st) b h r) : x_Ev y k ls st b h r := x_ev_stp hi (by decide) (by show (match ls[t]? with | some (.inr v) => (if -2 ≤ v then some (k + 1, ls, Sum.inr v :: st, b, h) else none) | _ => none) = _; rw [hl]; exact if_pos hv) kk
theorem e_istore {v : Int} (hi : x_in y k = (3, a, t, u, pc)) (hl : t < ls.length) (kk : x_Ev y (k + 1) (ls.set t (.inl v)) st b h r) : x_Ev y k ls (.inl v :: st) b h r := x_ev_stp hi (by decide) (if_pos hl) kk
theorem e_astore {v : Int} (hi : x_in y k = (4, a, t, u, pc)) (hl : t < ls.length) (hv : -2 ≤ v) (kk : x_Ev y (k + 1) (ls.set t (.inr v)) st b h r) : x_Ev y k ls (.inr v :: st) b h r := x_ev_stp hi (by decide) (if_pos ⟨hl, hv⟩) kk
theorem e_iinc {v w : Int} (hi : x_in y k = (5, a, t, u, pc)) (hl : ls[t]? = some (.inl v)) (hw : x_w (v + a) = w) (kk : x_Ev y (k + 1) (ls.set t (.inl w)) st b h r) : x_Ev y k ls st b h r := x_ev_stp hi (by decide) (by show (match ls[t]? with | some (.inl v) => some (k + 1, ls.set t (Sum.inl (x_w (v + a))), st, b, h) | _ => none) = _; rw [hl, ← hw]) kk
theorem e_iadd {i j w : Int} (hi : x_in y k = (6, a, t, u, pc)) (hw : x_w (i + j) = w) (kk : x_Ev y (k + 1) ls (.inl w :: st) b h r) : x_Ev y k ls (.inl j :: .inl i :: st) b h r := x_ev_stp hi (by decide) (by rw [← hw]; rfl) kk
theorem e_isub {i j w : Int} (hi : x_in y k = (7, a, t, u, pc)) (hw : x_w (i - j) = w) (kk : x_Ev y (k + 1) ls (.inl w :: st) b h r) : x_Ev y k ls (.inl j :: .inl i :: st) b h r := x_ev_stp hi (by decide) (by rw [← hw]; rfl) kk
theorem e_imul {i j w : Int} (hi : x_in y k = (8, a, t, u, pc)) (hw : x_w (i * j) = w) (kk : x_Ev y (k + 1) ls (.inl w :: st) b h r) : x_Ev y k ls (.inl j :: .inl i :: st) b h r := x_ev_stp hi (by decide) (by rw [← hw]; rfl) kk
theorem e_irem {i j : Int} (hi : x_in y k = (9, a, t, u, pc)) (hg : 0 ≤ i ∧ 0 < j) (kk : x_Ev y (k + 1) ls (.inl (i % j) :: st) b h r) : x_Ev y k ls (.inl j :: .inl i :: st) b h r := x_ev_stp hi (by decide) (if_pos hg) kk
theorem e_ineg {i w : Int} (hi : x_in y k = (10, a, t, u, pc)) (hw : x_w (-i) = w) (kk : x_Ev y (k + 1) ls (.inl w :: st) b h r) : x_Ev y k ls (.inl i :: st) b h r := x_ev_stp hi (by decide) (by rw [← hw]; rfl) kk
theorem e_iand {i j w : Int} (hi : x_in y k = (11, a, t, u, pc)) (hw : (Int32.ofInt i &&& Int32.ofInt j).toInt = w) (kk : x_Ev y (k + 1) ls (.inl w :: st) b h r) : x_Ev y k ls (.inl j :: .inl i :: st) b h r := x_ev_stp hi (by decide) (by rw [← hw]; rfl) kk
theorem e_ior {i j w : Int} (hi : x_in y k = (12, a, t, u, pc)) (hw : (Int32.ofInt i ||| Int32.ofInt j).toInt = w) (kk : x_Ev y (k + 1) ls (.inl w :: st) b h r) : x_Ev y k ls (.inl j :: .inl i :: st) b h r := x_ev_stp hi (by decide) (by rw [← hw]; rfl) kk
theorem e_ishl {i j w : Int} (hi : x_in y k = (13, a, t, u, pc)) (hw : (Int32.ofInt i <<< (Int32.ofInt j &&& 31)).toInt = w) (kk : x_Ev y (k + 1) ls (.inl w :: st) b h r) : x_Ev y k ls (.inl j :: .inl i :: st) b h r := x_ev_stp hi (by decide) (by rw [← hw]; rfl) kk
theorem e_ishr {i j w : Int} (hi : x_in y k = (14, a, t, u, pc)) (hw : (Int32.ofInt i >>> (Int32.ofInt j &&& 31)).toInt = w) (kk : x_Ev y (k + 1) ls (.inl w :: st) b h r) : x_Ev y k ls (.inl j :: .inl i :: st) b h r := x_ev_stp hi (by decide) (by rw [← hw]; rfl) kk

theorem e_z_eq {i : Int} (hi : x_in y k = (15, a, t, 0, pc)) (kt : (i = 0) → x_Ev y t ls st b h r) (kf : ¬ (i = 0) → x_Ev y (k + 1) ls st b h r) : x_Ev y k ls (.inl i :: st) b h r := by
  by_cases c : (i = 0)
  · exact x_ev_stp hi (by decide) (show some (if x_cond 0 i 0 = true then t else k + 1, ls, st, b, h) = some (t, ls, st, b, h) by rw [if_pos (show x_cond 0 i 0 = true from decide_eq_true c)]) (kt c)
  · exact x_ev_stp hi (by decide) (show some (if x_cond 0 i 0 = true then t else k + 1, ls, st, b, h) = some (k + 1, ls, st, b, h) by rw [if_neg (show ¬ x_cond 0 i 0 = true from fun q => c (of_decide_eq_true q))]) (kf c)
theorem e_c_eq {i j : Int} (hi : x_in y k = (16, a, t, 0, pc)) (kt : (i = j) → x_Ev y t ls st b h r) (kf : ¬ (i = j) → x_Ev y (k + 1) ls st b h r) : x_Ev y k ls (.inl j :: .inl i :: st) b h r := by
  by_cases c : (i = j)
  · exact x_ev_stp hi (by decide) (show some (if x_cond 0 i j = true then t else k + 1, ls, st, b, h) = some (t, ls, st, b, h) by rw [if_pos (show x_cond 0 i j = true from decide_eq_true c)]) (kt c)
  · exact x_ev_stp hi (by decide) (show some (if x_cond 0 i j = true then t else k + 1, ls, st, b, h) = some (k + 1, ls, st, b, h) by rw [if_neg (show ¬ x_cond 0 i j = true from fun q => c (of_decide_eq_true q))]) (kf c)
theorem e_z_ne {i : Int} (hi : x_in y k = (15, a, t, 1, pc)) (kt : (¬ i = 0) → x_Ev y t ls st b h r) (kf : ¬ (¬ i = 0) → x_Ev y (k + 1) ls st b h r) : x_Ev y k ls (.inl i :: st) b h r := by
  by_cases c : (¬ i = 0)
  · exact x_ev_stp hi (by decide) (show some (if x_cond 1 i 0 = true then t else k + 1, ls, st, b, h) = some (t, ls, st, b, h) by rw [if_pos (show x_cond 1 i 0 = true from decide_eq_true c)]) (kt c)
  · exact x_ev_stp hi (by decide) (show some (if x_cond 1 i 0 = true then t else k + 1, ls, st, b, h) = some (k + 1, ls, st, b, h) by rw [if_neg (show ¬ x_cond 1 i 0 = true from fun q => c (of_decide_eq_true q))]) (kf c)
theorem e_c_ne {i j : Int} (hi : x_in y k = (16, a, t, 1, pc)) (kt : (¬ i = j) → x_Ev y t ls st b h r) (kf : ¬ (¬ i = j) → x_Ev y (k + 1) ls st b h r) : x_Ev y k ls (.inl j :: .inl i :: st) b h r := by
  by_cases c : (¬ i = j)
  · exact x_ev_stp hi (by decide) (show some (if x_cond 1 i j = true then t else k + 1, ls, st, b, h) = some (t, ls, st, b, h) by rw [if_pos (show x_cond 1 i j = true from decide_eq_true c)]) (kt c)
  · exact x_ev_stp hi (by decide) (show some (if x_cond 1 i j = true then t else k + 1, ls, st, b, h) = some (k + 1, ls, st, b, h) by rw [if_neg (show ¬ x_cond 1 i j = true from fun q => c (of_decide_eq_true q))]) (kf c)
theorem e_z_lt {i : Int} (hi : x_in y k = (15, a, t, 2, pc)) (kt : (i < 0) → x_Ev y t ls st b h r) (kf : ¬ (i < 0) → x_Ev y (k + 1) ls st b h r) : x_Ev y k ls (.inl i :: st) b h r := by
  by_cases c : (i < 0)
  · exact x_ev_stp hi (by decide) (show some (if x_cond 2 i 0 = true then t else k + 1, ls, st, b, h) = some (t, ls, st, b, h) by rw [if_pos (show x_cond 2 i 0 = true from decide_eq_true c)]) (kt c)
  · exact x_ev_stp hi (by decide) (show some (if x_cond 2 i 0 = true then t else k + 1, ls, st, b, h) = some (k + 1, ls, st, b, h) by rw [if_neg (show ¬ x_cond 2 i 0 = true from fun q => c (of_decide_eq_true q))]) (kf c)
theorem e_c_lt {i j : Int} (hi : x_in y k = (16, a, t, 2, pc)) (kt : (i < j) → x_Ev y t ls st b h r) (kf : ¬ (i < j) → x_Ev y (k + 1) ls st b h r) : x_Ev y k ls (.inl j :: .inl i :: st) b h r := by
  by_cases c : (i < j)
  · exact x_ev_stp hi (by decide) (show some (if x_cond 2 i j = true then t else k + 1, ls, st, b, h) = some (t, ls, st, b, h) by rw [if_pos (show x_cond 2 i j = true from decide_eq_true c)]) (kt c)
  · exact x_ev_stp hi (by decide) (show some (if x_cond 2 i j = true then t else k + 1, ls, st, b, h) = some (k + 1, ls, st, b, h) by rw [if_neg (show ¬ x_cond 2 i j = true from fun q => c (of_decide_eq_true q))]) (kf c)
theorem e_z_ge {i : Int} (hi : x_in y k = (15, a, t, 3, pc)) (kt : (0 ≤ i) → x_Ev y t ls st b h r) (kf : ¬ (0 ≤ i) → x_Ev y (k + 1) ls st b h r) : x_Ev y k ls (.inl i :: st) b h r := by
  by_cases c : (0 ≤ i)
  · exact x_ev_stp hi (by decide) (show some (if x_cond 3 i 0 = true then t else k + 1, ls, st, b, h) = some (t, ls, st, b, h) by rw [if_pos (show x_cond 3 i 0 = true from decide_eq_true c)]) (kt c)
  · exact x_ev_stp hi (by decide) (show some (if x_cond 3 i 0 = true then t else k + 1, ls, st, b, h) = some (k + 1, ls, st, b, h) by rw [if_neg (show ¬ x_cond 3 i 0 = true from fun q => c (of_decide_eq_true q))]) (kf c)
theorem e_c_ge {i j : Int} (hi : x_in y k = (16, a, t, 3, pc)) (kt : (j ≤ i) → x_Ev y t ls st b h r) (kf : ¬ (j ≤ i) → x_Ev y (k + 1) ls st b h r) : x_Ev y k ls (.inl j :: .inl i :: st) b h r := by
  by_cases c : (j ≤ i)
  · exact x_ev_stp hi (by decide) (show some (if x_cond 3 i j = true then t else k + 1, ls, st, b, h) = some (t, ls, st, b, h) by rw [if_pos (show x_cond 3 i j = true from decide_eq_true c)]) (kt c)
  · exact x_ev_stp hi (by decide) (show some (if x_cond 3 i j = true then t else k + 1, ls, st, b, h) = some (k + 1, ls, st, b, h) by rw [if_neg (show ¬ x_cond 3 i j = true from fun q => c (of_decide_eq_true q))]) (kf c)
theorem e_z_gt {i : Int} (hi : x_in y k = (15, a, t, 4, pc)) (kt : (0 < i) → x_Ev y t ls st b h r) (kf : ¬ (0 < i) → x_Ev y (k + 1) ls st b h r) : x_Ev y k ls (.inl i :: st) b h r := by
  by_cases c : (0 < i)
  · exact x_ev_stp hi (by decide) (show some (if x_cond 4 i 0 = true then t else k + 1, ls, st, b, h) = some (t, ls, st, b, h) by rw [if_pos (show x_cond 4 i 0 = true from decide_eq_true c)]) (kt c)
  · exact x_ev_stp hi (by decide) (show some (if x_cond 4 i 0 = true then t else k + 1, ls, st, b, h) = some (k + 1, ls, st, b, h) by rw [if_neg (show ¬ x_cond 4 i 0 = true from fun q => c (of_decide_eq_true q))]) (kf c)
theorem e_c_gt {i j : Int} (hi : x_in y k = (16, a, t, 4, pc)) (kt : (j < i) → x_Ev y t ls st b h r) (kf : ¬ (j < i) → x_Ev y (k + 1) ls st b h r) : x_Ev y k ls (.inl j :: .inl i :: st) b h r := by
  by_cases c : (j < i)
  · exact x_ev_stp hi (by decide) (show some (if x_cond 4 i j = true then t else k + 1, ls, st, b, h) = some (t, ls, st, b, h) by rw [if_pos (show x_cond 4 i j = true from decide_eq_true c)]) (kt c)
  · exact x_ev_stp hi (by decide) (show some (if x_cond 4 i j = true then t else k + 1, ls, st, b, h) = some (k + 1, ls, st, b, h) by rw [if_neg (show ¬ x_cond 4 i j = true from fun q => c (of_decide_eq_true q))]) (kf c)
theorem e_z_le {i : Int} (hi : x_in y k = (15, a, t, 5, pc)) (kt : (i ≤ 0) → x_Ev y t ls st b h r) (kf : ¬ (i ≤ 0) → x_Ev y (k + 1) ls st b h r) : x_Ev y k ls (.inl i :: st) b h r := by
  by_cases c : (i ≤ 0)
  · exact x_ev_stp hi (by decide) (show some (if x_cond 5 i 0 = true then t else k + 1, ls, st, b, h) = some (t, ls, st, b, h) by rw [if_pos (show x_cond 5 i 0 = true from decide_eq_true c)]) (kt c)
  · exact x_ev_stp hi (by decide) (show some (if x_cond 5 i 0 = true then t else k + 1, ls, st, b, h) = some (k + 1, ls, st, b, h) by rw [if_neg (show ¬ x_cond 5 i 0 = true from fun q => c (of_decide_eq_true q))]) (kf c)
theorem e_c_le {i j : Int} (hi : x_in y k = (16, a, t, 5, pc)) (kt : (i ≤ j) → x_Ev y t ls st b h r) (kf : ¬ (i ≤ j) → x_Ev y (k + 1) ls st b h r) : x_Ev y k ls (.inl j :: .inl i :: st) b h r := by
  by_cases c : (i ≤ j)
  · exact x_ev_stp hi (by decide) (show some (if x_cond 5 i j = true then t else k + 1, ls, st, b, h) = some (t, ls, st, b, h) by rw [if_pos (show x_cond 5 i j = true from decide_eq_true c)]) (kt c)
  · exact x_ev_stp hi (by decide) (show some (if x_cond 5 i j = true then t else k + 1, ls, st, b, h) = some (k + 1, ls, st, b, h) by rw [if_neg (show ¬ x_cond 5 i j = true from fun q => c (of_decide_eq_true q))]) (kf c)
/-- a branch on a truth value -/
theorem e_b_eq {c : Prop} [Decidable c] (hi : x_in y k = (15, a, t, 0, pc)) (kf : c → x_Ev y (k + 1) ls st b h r) (kt : ¬ c → x_Ev y t ls st b h r) : x_Ev y k ls (.inl (x_b c) :: st) b h r := by
  refine e_z_eq hi (fun q => kt (fun q2 => ?_)) (fun q => kf (Classical.byContradiction fun q2 => q (if_neg q2)))
  unfold x_b at q
  rw [if_pos q2] at q
  cases q
theorem e_b_ne {c : Prop} [Decidable c] (hi : x_in y k = (15, a, t, 1, pc)) (kt : c → x_Ev y t ls st b h r) (kf : ¬ c → x_Ev y (k + 1) ls st b h r) : x_Ev y k ls (.inl (x_b c) :: st) b h r := by
  refine e_z_ne hi (fun q => kt (Classical.byContradiction fun q2 => q (if_neg q2))) (fun q => kf (fun q2 => q ?_))
  unfold x_b
  rw [if_pos q2]
  decide
theorem e_goto (hi : x_in y k = (17, a, t, u, pc)) (kk : x_Ev y t ls st b h r) : x_Ev y k ls st b h r := x_ev_stp hi (by decide) rfl kk
theorem e_ifnull {v : Int} (hi : x_in y k = (18, a, t, u, pc)) (hv : -1 ≤ v) (kt : v < 0 → x_Ev y t ls st b h r) (kf : ¬ v < 0 → x_Ev y (k + 1) ls st b h r) : x_Ev y k ls (.inr v :: st) b h r := by
  by_cases c : v < 0
  · exact x_ev_stp hi (by decide) (show (if -1 ≤ v then some (if v < 0 then t else k + 1, ls, st, b, h) else none) = some (t, ls, st, b, h) by rw [if_pos hv, if_pos c]) (kt c)
  · exact x_ev_stp hi (by decide) (show (if -1 ≤ v then some (if v < 0 then t else k + 1, ls, st, b, h) else none) = some (k + 1, ls, st, b, h) by rw [if_pos hv, if_neg c]) (kf c)
theorem e_ifnonnull {v : Int} (hi : x_in y k = (19, a, t, u, pc)) (hv : -1 ≤ v) (kt : ¬ v < 0 → x_Ev y t ls st b h r) (kf : v < 0 → x_Ev y (k + 1) ls st b h r) : x_Ev y k ls (.inr v :: st) b h r := by
  by_cases c : v < 0
  · exact x_ev_stp hi (by decide) (show (if -1 ≤ v then some (if v < 0 then k + 1 else t, ls, st, b, h) else none) = some (k + 1, ls, st, b, h) by rw [if_pos hv, if_pos c]) (kf c)
  · exact x_ev_stp hi (by decide) (show (if -1 ≤ v then some (if v < 0 then k + 1 else t, ls, st, b, h) else none) = some (t, ls, st, b, h) by rw [if_pos hv, if_neg c]) (kt c)
theorem e_null (hi : x_in y k = (20, a, t, u, pc)) (kk : x_Ev y (k + 1) ls (.inr (-1) :: st) b h r) : x_Ev y k ls st b h r := x_ev_stp hi (by decide) rfl kk
theorem e_dup {v : xV} (hi : x_in y k = (21, a, t, u, pc)) (kk : x_Ev y (k + 1) ls (v :: v :: st) b h r) : x_Ev y k ls (v :: st) b h r := x_ev_stp hi (by decide) rfl kk
theorem e_pop {v : xV} (hi : x_in y k = (22, a, t, u, pc)) (kk : x_Ev y (k + 1) ls st b h r) : x_Ev y k ls (v :: st) b h r := x_ev_stp hi (by decide) rfl kk
theorem e_dup2 {v w : xV} (hi : x_in y k = (23, a, t, u, pc)) (kk : x_Ev y (k + 1) ls (v :: w :: v :: w :: st) b h r) : x_Ev y k ls (v :: w :: st) b h r := x_ev_stp hi (by decide) rfl kk
theorem x_okb {z v : Int} {c : Nat} (h0 : 0 ≤ v) (h1 : v < z) (h2 : x_kd v = c) : x_ok z v c = true := by
  unfold x_ok
  simp [h0, h1, h2]
theorem e_getI {z v w j : Int} {P M : Int → Int → Int} (hi : x_in y k = (24, a, t, u, pc)) (ho : 0 ≤ v ∧ v < z ∧ x_kd v = t / 16) (hj : ((t % 16 : Nat) : Int) = j) (hw : M v j = w) (kk : x_Ev y (k + 1) ls (.inl w :: st) b (z, P, M) r) : x_Ev y k ls (.inr v :: st) b (z, P, M) r := x_ev_stp hi (by decide) (by rw [← hw, ← hj]; exact if_pos (x_okb ho.1 ho.2.1 ho.2.2)) kk
theorem e_getR {z v w j : Int} {P M : Int → Int → Int} (hi : x_in y k = (25, a, t, u, pc)) (ho : 0 ≤ v ∧ v < z ∧ x_kd v = t / 16) (hj : ((t % 16 : Nat) : Int) = j) (hw : P v j = w) (kk : x_Ev y (k + 1) ls (.inr w :: st) b (z, P, M) r) : x_Ev y k ls (.inr v :: st) b (z, P, M) r := x_ev_stp hi (by decide) (by rw [← hw, ← hj]; exact if_pos (x_okb ho.1 ho.2.1 ho.2.2)) kk
theorem e_putI {z v w j : Int} {P M : Int → Int → Int} (hi : x_in y k = (26, a, t, u, pc)) (ho : 0 ≤ v ∧ v < z ∧ x_kd v = t / 16) (hj : ((t % 16 : Nat) : Int) = j) (kk : x_Ev y (k + 1) ls st b (z, P, x_up M v j w) r) : x_Ev y k ls (.inl w :: .inr v :: st) b (z, P, M) r := x_ev_stp hi (by decide) (by subst hj; exact if_pos (x_okb ho.1 ho.2.1 ho.2.2)) kk
theorem e_putZ {z v w j : Int} {P M : Int → Int → Int} (hi : x_in y k = (32, a, t, u, pc)) (ho : 0 ≤ v ∧ v < z ∧ x_kd v = t / 16) (hj : ((t % 16 : Nat) : Int) = j) (hw : w = 0 ∨ w = 1) (kk : x_Ev y (k + 1) ls st b (z, P, x_up M v j w) r) : x_Ev y k ls (.inl w :: .inr v :: st) b (z, P, M) r := x_ev_stp hi (by decide) (by subst hj; exact if_pos ⟨x_okb ho.1 ho.2.1 ho.2.2, hw⟩) kk
theorem e_putR {z v w j : Int} {P M : Int → Int → Int} (hi : x_in y k = (27, a, t, u, pc)) (ho : 0 ≤ v ∧ v < z ∧ x_kd v = t / 16) (hj : ((t % 16 : Nat) : Int) = j) (hw : -1 ≤ w) (kk : x_Ev y (k + 1) ls st b (z, x_up P v j w, M) r) : x_Ev y k ls (.inr w :: .inr v :: st) b (z, P, M) r := x_ev_stp hi (by decide) (by subst hj; exact if_pos ⟨x_okb ho.1 ho.2.1 ho.2.2, hw⟩) kk
theorem e_iald {z v j w : Int} {P M : Int → Int → Int} (hi : x_in y k = (28, a, t, u, pc)) (ho : 0 ≤ v ∧ v < z ∧ x_kd v = 8) (hj : 0 ≤ j ∧ j < x_ln v) (hw : M v j = w) (kk : x_Ev y (k + 1) ls (.inl w :: st) b (z, P, M) r) : x_Ev y k ls (.inl j :: .inr v :: st) b (z, P, M) r := x_ev_stp hi (by decide) (by rw [← hw]; exact if_pos ⟨x_okb ho.1 ho.2.1 ho.2.2, hj⟩) kk
theorem e_iast {z v j w : Int} {P M : Int → Int → Int} (hi : x_in y k = (29, a, t, u, pc)) (ho : 0 ≤ v ∧ v < z ∧ x_kd v = 8) (hj : 0 ≤ j ∧ j < x_ln v) (kk : x_Ev y (k + 1) ls st b (z, P, x_up M v j w) r) : x_Ev y k ls (.inl w :: .inl j :: .inr v :: st) b (z, P, M) r := x_ev_stp hi (by decide) (if_pos ⟨x_okb ho.1 ho.2.1 ho.2.2, hj⟩) kk
theorem e_bald {z v j w : Int} {P M : Int → Int → Int} (hi : x_in y k = (33, a, t, u, pc)) (ho : 0 ≤ v ∧ v < z ∧ x_kd v = 9) (hj : 0 ≤ j ∧ j < x_ln v) (hw : M v j = w) (kk : x_Ev y (k + 1) ls (.inl w :: st) b (z, P, M) r) : x_Ev y k ls (.inl j :: .inr v :: st) b (z, P, M) r := x_ev_stp hi (by decide) (by rw [← hw]; exact if_pos ⟨x_okb ho.1 ho.2.1 ho.2.2, hj⟩) kk
theorem e_bast {z v j w : Int} {P M : Int → Int → Int} (hi : x_in y k = (34, a, t, u, pc)) (ho : 0 ≤ v ∧ v < z ∧ x_kd v = 9) (hj : 0 ≤ j ∧ j < x_ln v) (hw : w = 0 ∨ w = 1) (kk : x_Ev y (k + 1) ls st b (z, P, x_up M v j w) r) : x_Ev y k ls (.inl w :: .inl j :: .inr v :: st) b (z, P, M) r := x_ev_stp hi (by decide) (if_pos ⟨x_okb ho.1 ho.2.1 ho.2.2, hj.1, hj.2, hw⟩) kk
theorem e_aald {z v j w : Int} {P M : Int → Int → Int} (hi : x_in y k = (30, a, t, u, pc)) (ho : 0 ≤ v ∧ v < z ∧ 10 ≤ x_kd v ∧ x_kd v < 14) (hj : 0 ≤ j ∧ j < x_ln v) (hw : P v j = w) (kk : x_Ev y (k + 1) ls (.inr w :: st) b (z, P, M) r) : x_Ev y k ls (.inl j :: .inr v :: st) b (z, P, M) r := x_ev_stp hi (by decide) (by rw [← hw]; exact if_pos ⟨ho.1, ho.2.1, ho.2.2.1, ho.2.2.2, hj.1, hj.2⟩) kk
theorem e_aast {z v j w : Int} {c : Nat} {P M : Int → Int → Int} (hi : x_in y k = (31, a, t, u, pc)) (ho : 0 ≤ v ∧ v < z ∧ x_kd v = c ∧ 10 ≤ c ∧ c < 14) (hj : 0 ≤ j ∧ j < x_ln v) (hw : 0 ≤ w ∧ w < z ∧ x_kd w = [0, 2, 4, 5].getD (c - 10) 99) (kk : x_Ev y (k + 1) ls st b (z, x_up P v j w, M) r) : x_Ev y k ls (.inr w :: .inl j :: .inr v :: st) b (z, P, M) r := x_ev_stp hi (by decide) (if_pos (by rw [ho.2.2.1]; exact ⟨ho.1, ho.2.1, ho.2.2.2.1, ho.2.2.2.2, hj.1, hj.2, x_okb hw.1 hw.2.1 hw.2.2⟩)) kk
theorem e_new {z : Int} {P M : Int → Int → Int} {b1 b2 u0 : Nat} (hi : x_in y k = (35, a, t, u, pc)) (ho : x_kd z = t ∧ t < 8 ∧ xnsl t = u0) (kk : x_Ev y (k + 1) ls (.inr z :: st) (b1, b2) (z + 1, x_clr P z (-1), x_clr M z 0) r) : x_Ev y k ls st (b1 + 1, b2 + u0) (z, P, M) r := x_ev_stp hi (by decide) (b' := (b1, b2)) (by
  show (if x_kd z = t ∧ t < 8 ∧ 1 ≤ b1 + 1 ∧ xnsl t ≤ b2 + u0 then some (k + 1, ls, Sum.inr z :: st, (b1 + 1 - 1, b2 + u0 - xnsl t), _) else none) = _
  rw [if_pos ⟨ho.1, ho.2.1, by omega, by omega⟩, ho.2.2]
  simp) kk
theorem e_newI {z n : Int} {P M : Int → Int → Int} {b1 b2 u0 : Nat} (hi : x_in y k = (36, a, t, u, pc)) (ho : x_kd z = 8 ∧ x_ln z = n ∧ 0 ≤ n ∧ n ≤ 10000) (hn : n.toNat = u0) (kk : x_Ev y (k + 1) ls (.inr z :: st) (b1, b2) (z + 1, x_clr P z (-1), x_clr M z 0) r) : x_Ev y k ls (.inl n :: st) (b1 + 1, b2 + u0) (z, P, M) r := x_ev_stp hi (by decide) (b' := (b1, b2)) (by
  show (if x_kd z = 8 ∧ x_ln z = n ∧ 0 ≤ n ∧ n ≤ 10000 ∧ 1 ≤ b1 + 1 ∧ n.toNat ≤ b2 + u0 then some (k + 1, ls, Sum.inr z :: st, (b1 + 1 - 1, b2 + u0 - n.toNat), _) else none) = _
  rw [if_pos ⟨ho.1, ho.2.1, ho.2.2.1, ho.2.2.2, by omega, by omega⟩, hn]
  simp) kk
theorem e_newZ {z n : Int} {P M : Int → Int → Int} {b1 b2 u0 : Nat} (hi : x_in y k = (37, a, t, u, pc)) (ho : x_kd z = 9 ∧ x_ln z = n ∧ 0 ≤ n ∧ n ≤ 10000) (hn : n.toNat = u0) (kk : x_Ev y (k + 1) ls (.inr z :: st) (b1, b2) (z + 1, x_clr P z (-1), x_clr M z 0) r) : x_Ev y k ls (.inl n :: st) (b1 + 1, b2 + u0) (z, P, M) r := x_ev_stp hi (by decide) (b' := (b1, b2)) (by
  show (if x_kd z = 9 ∧ x_ln z = n ∧ 0 ≤ n ∧ n ≤ 10000 ∧ 1 ≤ b1 + 1 ∧ n.toNat ≤ b2 + u0 then some (k + 1, ls, Sum.inr z :: st, (b1 + 1 - 1, b2 + u0 - n.toNat), _) else none) = _
  rw [if_pos ⟨ho.1, ho.2.1, ho.2.2.1, ho.2.2.2, by omega, by omega⟩, hn]
  simp) kk
theorem e_newQ {z n : Int} {P M : Int → Int → Int} {b1 b2 u0 : Nat} (hi : x_in y k = (38, a, t, u, pc)) (ho : x_kd z = t ∧ 10 ≤ t ∧ t < 14 ∧ x_ln z = n ∧ 0 ≤ n ∧ n ≤ 10000) (hn : n.toNat = u0) (kk : x_Ev y (k + 1) ls (.inr z :: st) (b1, b2) (z + 1, x_clr P z (-1), x_clr M z 0) r) : x_Ev y k ls (.inl n :: st) (b1 + 1, b2 + u0) (z, P, M) r := x_ev_stp hi (by decide) (b' := (b1, b2)) (by
  show (if x_kd z = t ∧ 10 ≤ t ∧ t < 14 ∧ x_ln z = n ∧ 0 ≤ n ∧ n ≤ 10000 ∧ 1 ≤ b1 + 1 ∧ n.toNat ≤ b2 + u0 then some (k + 1, ls, Sum.inr z :: st, (b1 + 1 - 1, b2 + u0 - n.toNat), _) else none) = _
  rw [if_pos ⟨ho.1, ho.2.1, ho.2.2.1, ho.2.2.2.1, ho.2.2.2.2.1, ho.2.2.2.2.2, by omega, by omega⟩, hn]
  simp) kk
theorem x_b01 {c : Prop} [Decidable c] : x_b c = 0 ∨ x_b c = 1 := by
  unfold x_b
  split
  · exact Or.inr rfl
  · exact Or.inl rfl
theorem x_okt {z v : Int} {c : Nat} {as : List xV} (h : 0 ≤ v ∧ v < z ∧ x_kd v = c) : x_rc z c (.inr v :: as) = true := x_okb h.1 h.2.1 h.2.2
theorem x_ok4 {z v : Int} {c : Nat} (h : 0 ≤ v ∧ v < z ∧ x_kd v = c) (hc : 10 ≤ c ∧ c < 14) : 0 ≤ v ∧ v < z ∧ 10 ≤ x_kd v ∧ x_kd v < 14 := by
  rw [h.2.2]
  exact ⟨h.1, h.2.1, hc.1, hc.2⟩
theorem e_oinit {z v : Int} {P M : Int → Int → Int} (hi : x_in y k = (43, a, t, u, pc)) (ho : 0 ≤ v ∧ v < z ∧ st.length ≤ 8) (kk : x_Ev y (k + 1) ls st b (z, P, M) r) : x_Ev y k ls (.inr v :: st) b (z, P, M) r := x_ev_stp hi (by decide) (if_pos ho) kk
theorem e_max {i j : Int} (hi : x_in y k = (44, a, t, u, pc)) (h8 : st.length ≤ 8) (kk : x_Ev y (k + 1) ls (.inl (max i j) :: st) b h r) : x_Ev y k ls (.inl j :: .inl i :: st) b h r := x_ev_stp hi (by decide) (if_pos h8) kk
theorem e_min {i j : Int} (hi : x_in y k = (45, a, t, u, pc)) (h8 : st.length ≤ 8) (kk : x_Ev y (k + 1) ls (.inl (min i j) :: st) b h r) : x_Ev y k ls (.inl j :: .inl i :: st) b h r := x_ev_stp hi (by decide) (if_pos h8) kk
theorem e_copy {z n dp v sp v0 : Int} {P M : Int → Int → Int} (hi : x_in y k = (46, a, t, u, pc)) (ho : 0 ≤ v ∧ v < z ∧ x_kd v = 8) (ho0 : 0 ≤ v0 ∧ v0 < z ∧ x_kd v0 = 8) (hg : 0 ≤ sp ∧ 0 ≤ dp ∧ 0 ≤ n ∧ sp + n ≤ x_ln v0 ∧ dp + n ≤ x_ln v ∧ st.length ≤ 8) (kk : x_Ev y (k + 1) ls st b (z, P, x_cp M v0 sp v dp n) r) : x_Ev y k ls (.inl n :: .inl dp :: .inr v :: .inl sp :: .inr v0 :: st) b (z, P, M) r := x_ev_stp hi (by decide) (if_pos ⟨x_okb ho.1 ho.2.1 ho.2.2, x_okb ho0.1 ho0.2.1 ho0.2.2, hg⟩) kk
theorem e_sw {i : Int} {t2 : Nat} (hi : x_in y k = (47, a, t, u, pc)) (ht : x_swt u i = t2) (kk : x_Ev y t2 ls st b h r) : x_Ev y k ls (.inl i :: st) b h r := x_ev_stp hi (by decide) (by rw [← ht]; rfl) kk
theorem e_sld {z j w : Int} {P M : Int → Int → Int} (hi : x_in y k = (54, a, t, u, pc)) (hj : 0 ≤ j ∧ j < M (-2) (-1)) (hw : M (-2) j = w) (kk : x_Ev y (k + 1) ls (.inl w :: st) b (z, P, M) r) : x_Ev y k ls (.inl j :: .inr (-2) :: st) b (z, P, M) r := x_ev_stp hi (by decide) (by rw [← hw]; exact if_pos ⟨rfl, hj⟩) kk
theorem e_slen {z w : Int} {P M : Int → Int → Int} (hi : x_in y k = (55, a, t, u, pc)) (hw : M (-2) (-1) = w) (kk : x_Ev y (k + 1) ls (.inl w :: st) b (z, P, M) r) : x_Ev y k ls (.inr (-2) :: st) b (z, P, M) r := x_ev_stp hi (by decide) (by rw [← hw]; rfl) kk
end
/-- what is known of a method: its numbers of arguments, locals, cells, slots, how it is called, on what -/
def x_Mi (t np ml mc ms st rk : Nat) : Prop := x_np t = np ∧ x_ml t = ml ∧ x_mc t = mc ∧ x_ms t = ms ∧ x_st t = st ∧ x_rk t = rk
theorem x_ev_mono {y k : Nat} {ls st : List xV} {b : xB} {h : xH} {r r2 : Option xV × xH → Prop} (hr : x_Ev y k ls st b h r) (hm : ∀ q, r q → r2 q) : x_Ev y k ls st b h r2 := by
  obtain ⟨n, q, h1, h2⟩ := hr
  exact ⟨n, q, h1, hm q h2⟩
section
variable {y k : Nat} {ls rest : List xV} {h h1 : xH} {r r1 : Option xV × xH → Prop} {a : Int} {t u pc op np ml mc ms st rk c1 c2 : Nat} {v : Option xV}
/-- a method's own walk gives its call -/
theorem e_body {as ls0 : List xV} (hm : x_Mi t np ml mc ms st rk) (hl : as ++ List.replicate (ml - np) x_un = ls0) (kk : x_Ev t 0 ls0 [] (mc, ms) h r) : x_CallR t as h r := by
  obtain ⟨m1, m2, m3, m4, m5, m6⟩ := hm
  unfold x_CallR
  rw [m1, m2, m3, m4, hl]
  exact kk
/-- a call: the arguments as they lie on the stack, the last one on top -/
theorem e_callR {as sas : List xV} (hi : x_in y k = (op, a, t, u, pc)) (ho : 40 ≤ op ∧ op ≤ 42) (hm : x_Mi t np ml mc ms st rk) (hs : sas = as.reverse ++ rest) (hg : as.length = np ∧ rest.length ≤ 8 ∧ np ≤ ml) (hrc : st = 1 ∨ x_rc h.1 rk as = true) (hc : x_CallR t as h r1) (kk : ∀ v h1, r1 (v, h1) → x_Ev y (k + 1) ls (v.toList ++ rest) (c1, c2) h1 r) : x_Ev y k ls sas (c1 + mc, c2 + ms) h r := by
  obtain ⟨m1, m2, m3, m4, m5, m6⟩ := hm
  subst hs
  have e1 : (as.reverse ++ rest).take (x_np t) = as.reverse := by rw [m1, ← hg.1, ← List.length_reverse, List.take_left]
  have e2 : (as.reverse ++ rest).drop (x_np t) = rest := by rw [m1, ← hg.1, ← List.length_reverse, List.drop_left]
  refine x_ev_call (as := as) (rest := rest) hi ho ?_ hc ?_
  · unfold x_arg
    rw [e1, e2, List.reverse_reverse, if_pos]
    refine ⟨by rw [m1]; simp; omega, hg.2.1, by show x_mc t ≤ c1 + mc; omega, by show x_ms t ≤ c2 + ms; omega, by omega, ?_⟩
    rw [m5, m6]
    exact hrc
  · intro v h1 hq
    rw [m3, m4]
    simpa using kk v h1 hq
theorem e_call {as sas : List xV} (hi : x_in y k = (op, a, t, u, pc)) (ho : 40 ≤ op ∧ op ≤ 42) (hm : x_Mi t np ml mc ms st rk) (hs : sas = as.reverse ++ rest) (hg : as.length = np ∧ rest.length ≤ 8 ∧ np ≤ ml) (hrc : st = 1 ∨ x_rc h.1 rk as = true) (hc : x_Call t as h v h1) (kk : x_Ev y (k + 1) ls (v.toList ++ rest) (c1, c2) h1 r) : x_Ev y k ls sas (c1 + mc, c2 + ms) h r :=
  e_callR hi ho hm hs hg hrc hc (fun w h2 hq => by cases hq; exact kk)
end
end
section
/-! of every method its instructions and its numbers -/
theorem xr0 : xmt.drop 0 = xmt0 ++ (xmt1 ++ (xmt2 ++ (xmt3 ++ (xmt4 ++ (xmt5 ++ (xmt6)))))) := rfl
theorem xr1 : xmt.drop 26 = xmt1 ++ (xmt2 ++ (xmt3 ++ (xmt4 ++ (xmt5 ++ (xmt6))))) := by
  have h : xmt.drop 26 = (xmt.drop 0).drop 26 := by rw [List.drop_drop]
  rw [h, xr0]
  exact List.drop_left' rfl
theorem xr2 : xmt.drop 52 = xmt2 ++ (xmt3 ++ (xmt4 ++ (xmt5 ++ (xmt6)))) := by
  have h : xmt.drop 52 = (xmt.drop 26).drop 26 := by rw [List.drop_drop]
  rw [h, xr1]
  exact List.drop_left' rfl
theorem xr3 : xmt.drop 78 = xmt3 ++ (xmt4 ++ (xmt5 ++ (xmt6))) := by
  have h : xmt.drop 78 = (xmt.drop 52).drop 26 := by rw [List.drop_drop]
  rw [h, xr2]
  exact List.drop_left' rfl
theorem xr4 : xmt.drop 104 = xmt4 ++ (xmt5 ++ (xmt6)) := by
  have h : xmt.drop 104 = (xmt.drop 78).drop 26 := by rw [List.drop_drop]
  rw [h, xr3]
  exact List.drop_left' rfl
theorem xr5 : xmt.drop 130 = xmt5 ++ (xmt6) := by
  have h : xmt.drop 130 = (xmt.drop 104).drop 26 := by rw [List.drop_drop]
  rw [h, xr4]
  exact List.drop_left' rfl
theorem xr6 : xmt.drop 156 = xmt6 := by
  have h : xmt.drop 156 = (xmt.drop 130).drop 26 := by rw [List.drop_drop]
  rw [h, xr5]
  exact List.drop_left' rfl
theorem xg {y n j : Nat} {l : List XM} (h : xmt.drop n = l) (hy : y = n + j) : x_mi y = (l.drop j).headD (⟨"", "", ""⟩, 0, 0, (0, 0, 0, 0), (0, 0, 0), (0, 0, 0, 0), []) := by
  subst hy
  subst h
  unfold x_mi
  rw [x_mdr, List.drop_drop]
theorem xh {y : Nat} {me : XM} (h : x_mi y = me) : (∀ k, x_in y k = me.2.2.2.2.2.2.getD k x_63) ∧ x_Mi y me.2.2.2.2.1.1 me.2.1 me.2.2.2.1.2.2.1 me.2.2.2.1.2.2.2 me.2.2.2.2.1.2.1 me.2.2.2.2.1.2.2 := by
  subst h
  exact ⟨fun k => rfl, rfl, rfl, rfl, rfl, rfl, rfl⟩
theorem xi0 (k : Nat) : x_in 0 k = xc0.getD k x_63 := (xh (xg (n := 0) (j := 0) xr0 rfl)).1 k
theorem xm0 : x_Mi 0 2 2 1 8 2 0 := (xh (xg (n := 0) (j := 0) xr0 rfl)).2
theorem xi1 (k : Nat) : x_in 1 k = xc1.getD k x_63 := (xh (xg (n := 0) (j := 1) xr0 rfl)).1 k
theorem xm1 : x_Mi 1 3 3 0 0 0 0 := (xh (xg (n := 0) (j := 1) xr0 rfl)).2
theorem xi2 (k : Nat) : x_in 2 k = xc2.getD k x_63 := (xh (xg (n := 0) (j := 2) xr0 rfl)).1 k
theorem xm2 : x_Mi 2 2 2 0 0 0 0 := (xh (xg (n := 0) (j := 2) xr0 rfl)).2
theorem xi3 (k : Nat) : x_in 3 k = xc3.getD k x_63 := (xh (xg (n := 0) (j := 3) xr0 rfl)).1 k
theorem xm3 : x_Mi 3 2 2 0 0 0 0 := (xh (xg (n := 0) (j := 3) xr0 rfl)).2
theorem xi4 (k : Nat) : x_in 4 k = xc4.getD k x_63 := (xh (xg (n := 0) (j := 4) xr0 rfl)).1 k
theorem xm4 : x_Mi 4 2 2 0 0 0 0 := (xh (xg (n := 0) (j := 4) xr0 rfl)).2
theorem xi5 (k : Nat) : x_in 5 k = xc5.getD k x_63 := (xh (xg (n := 0) (j := 5) xr0 rfl)).1 k
theorem xm5 : x_Mi 5 2 2 0 0 0 0 := (xh (xg (n := 0) (j := 5) xr0 rfl)).2
theorem xi6 (k : Nat) : x_in 6 k = xc6.getD k x_63 := (xh (xg (n := 0) (j := 6) xr0 rfl)).1 k
theorem xm6 : x_Mi 6 2 3 0 0 0 0 := (xh (xg (n := 0) (j := 6) xr0 rfl)).2
theorem xi7 (k : Nat) : x_in 7 k = xc7.getD k x_63 := (xh (xg (n := 0) (j := 7) xr0 rfl)).1 k
theorem xm7 : x_Mi 7 1 1 2 48 2 1 := (xh (xg (n := 0) (j := 7) xr0 rfl)).2
theorem xi8 (k : Nat) : x_in 8 k = xc8.getD k x_63 := (xh (xg (n := 0) (j := 8) xr0 rfl)).1 k
theorem xm8 : x_Mi 8 1 1 0 0 1 1 := (xh (xg (n := 0) (j := 8) xr0 rfl)).2
theorem xi9 (k : Nat) : x_in 9 k = xc9.getD k x_63 := (xh (xg (n := 0) (j := 9) xr0 rfl)).1 k
theorem xm9 : x_Mi 9 1 2 0 0 0 1 := (xh (xg (n := 0) (j := 9) xr0 rfl)).2
theorem xi10 (k : Nat) : x_in 10 k = xc10.getD k x_63 := (xh (xg (n := 0) (j := 10) xr0 rfl)).1 k
theorem xm10 : x_Mi 10 2 2 0 0 0 1 := (xh (xg (n := 0) (j := 10) xr0 rfl)).2
theorem xi11 (k : Nat) : x_in 11 k = xc11.getD k x_63 := (xh (xg (n := 0) (j := 11) xr0 rfl)).1 k
theorem xm11 : x_Mi 11 4 4 0 0 0 1 := (xh (xg (n := 0) (j := 11) xr0 rfl)).2
theorem xi12 (k : Nat) : x_in 12 k = xc12.getD k x_63 := (xh (xg (n := 0) (j := 12) xr0 rfl)).1 k
theorem xm12 : x_Mi 12 4 10 0 0 0 1 := (xh (xg (n := 0) (j := 12) xr0 rfl)).2
theorem xi13 (k : Nat) : x_in 13 k = xc13.getD k x_63 := (xh (xg (n := 0) (j := 13) xr0 rfl)).1 k
theorem xm13 : x_Mi 13 2 6 0 0 0 1 := (xh (xg (n := 0) (j := 13) xr0 rfl)).2
theorem xi14 (k : Nat) : x_in 14 k = xc14.getD k x_63 := (xh (xg (n := 0) (j := 14) xr0 rfl)).1 k
theorem xm14 : x_Mi 14 2 2 6 83 2 2 := (xh (xg (n := 0) (j := 14) xr0 rfl)).2
theorem xi15 (k : Nat) : x_in 15 k = xc15.getD k x_63 := (xh (xg (n := 0) (j := 15) xr0 rfl)).1 k
theorem xm15 : x_Mi 15 2 3 0 0 0 2 := (xh (xg (n := 0) (j := 15) xr0 rfl)).2
theorem xi16 (k : Nat) : x_in 16 k = xc16.getD k x_63 := (xh (xg (n := 0) (j := 16) xr0 rfl)).1 k
theorem xm16 : x_Mi 16 2 2 0 0 0 2 := (xh (xg (n := 0) (j := 16) xr0 rfl)).2
theorem xi17 (k : Nat) : x_in 17 k = xc17.getD k x_63 := (xh (xg (n := 0) (j := 17) xr0 rfl)).1 k
theorem xm17 : x_Mi 17 2 2 0 0 0 2 := (xh (xg (n := 0) (j := 17) xr0 rfl)).2
theorem xi18 (k : Nat) : x_in 18 k = xc18.getD k x_63 := (xh (xg (n := 0) (j := 18) xr0 rfl)).1 k
theorem xm18 : x_Mi 18 2 3 0 0 0 2 := (xh (xg (n := 0) (j := 18) xr0 rfl)).2
theorem xi19 (k : Nat) : x_in 19 k = xc19.getD k x_63 := (xh (xg (n := 0) (j := 19) xr0 rfl)).1 k
theorem xm19 : x_Mi 19 2 2 0 0 0 2 := (xh (xg (n := 0) (j := 19) xr0 rfl)).2
theorem xi20 (k : Nat) : x_in 20 k = xc20.getD k x_63 := (xh (xg (n := 0) (j := 20) xr0 rfl)).1 k
theorem xm20 : x_Mi 20 2 2 0 0 0 2 := (xh (xg (n := 0) (j := 20) xr0 rfl)).2
theorem xi21 (k : Nat) : x_in 21 k = xc21.getD k x_63 := (xh (xg (n := 0) (j := 21) xr0 rfl)).1 k
theorem xm21 : x_Mi 21 2 4 0 0 0 2 := (xh (xg (n := 0) (j := 21) xr0 rfl)).2
theorem xi22 (k : Nat) : x_in 22 k = xc22.getD k x_63 := (xh (xg (n := 0) (j := 22) xr0 rfl)).1 k
theorem xm22 : x_Mi 22 1 1 0 0 0 2 := (xh (xg (n := 0) (j := 22) xr0 rfl)).2
theorem xi23 (k : Nat) : x_in 23 k = xc23.getD k x_63 := (xh (xg (n := 0) (j := 23) xr0 rfl)).1 k
theorem xm23 : x_Mi 23 1 1 0 0 0 2 := (xh (xg (n := 0) (j := 23) xr0 rfl)).2
theorem xi24 (k : Nat) : x_in 24 k = xc24.getD k x_63 := (xh (xg (n := 0) (j := 24) xr0 rfl)).1 k
theorem xm24 : x_Mi 24 3 3 0 0 0 2 := (xh (xg (n := 0) (j := 24) xr0 rfl)).2
theorem xi25 (k : Nat) : x_in 25 k = xc25.getD k x_63 := (xh (xg (n := 0) (j := 25) xr0 rfl)).1 k
theorem xm25 : x_Mi 25 2 3 0 0 0 2 := (xh (xg (n := 0) (j := 25) xr0 rfl)).2
theorem xi26 (k : Nat) : x_in 26 k = xc26.getD k x_63 := (xh (xg (n := 26) (j := 0) xr1 rfl)).1 k
theorem xm26 : x_Mi 26 4 5 0 0 0 2 := (xh (xg (n := 26) (j := 0) xr1 rfl)).2
theorem xi27 (k : Nat) : x_in 27 k = xc27.getD k x_63 := (xh (xg (n := 26) (j := 1) xr1 rfl)).1 k
theorem xm27 : x_Mi 27 1 1 5 1045 2 3 := (xh (xg (n := 26) (j := 1) xr1 rfl)).2
theorem xi28 (k : Nat) : x_in 28 k = xc28.getD k x_63 := (xh (xg (n := 26) (j := 2) xr1 rfl)).1 k
theorem xm28 : x_Mi 28 2 2 0 0 0 3 := (xh (xg (n := 26) (j := 2) xr1 rfl)).2
theorem xi29 (k : Nat) : x_in 29 k = xc29.getD k x_63 := (xh (xg (n := 26) (j := 3) xr1 rfl)).1 k
theorem xm29 : x_Mi 29 3 4 0 0 0 3 := (xh (xg (n := 26) (j := 3) xr1 rfl)).2
theorem xi30 (k : Nat) : x_in 30 k = xc30.getD k x_63 := (xh (xg (n := 26) (j := 4) xr1 rfl)).1 k
theorem xm30 : x_Mi 30 2 5 0 0 0 3 := (xh (xg (n := 26) (j := 4) xr1 rfl)).2
theorem xi31 (k : Nat) : x_in 31 k = xc31.getD k x_63 := (xh (xg (n := 26) (j := 5) xr1 rfl)).1 k
theorem xm31 : x_Mi 31 1 1 0 0 0 3 := (xh (xg (n := 26) (j := 5) xr1 rfl)).2
theorem xi32 (k : Nat) : x_in 32 k = xc32.getD k x_63 := (xh (xg (n := 26) (j := 6) xr1 rfl)).1 k
theorem xm32 : x_Mi 32 1 3 0 0 0 3 := (xh (xg (n := 26) (j := 6) xr1 rfl)).2
theorem xi33 (k : Nat) : x_in 33 k = xc33.getD k x_63 := (xh (xg (n := 26) (j := 7) xr1 rfl)).1 k
theorem xm33 : x_Mi 33 3 6 0 0 0 3 := (xh (xg (n := 26) (j := 7) xr1 rfl)).2
theorem xi34 (k : Nat) : x_in 34 k = xc34.getD k x_63 := (xh (xg (n := 26) (j := 8) xr1 rfl)).1 k
theorem xm34 : x_Mi 34 4 6 0 0 0 3 := (xh (xg (n := 26) (j := 8) xr1 rfl)).2
theorem xi35 (k : Nat) : x_in 35 k = xc35.getD k x_63 := (xh (xg (n := 26) (j := 9) xr1 rfl)).1 k
theorem xm35 : x_Mi 35 5 5 0 0 0 3 := (xh (xg (n := 26) (j := 9) xr1 rfl)).2
theorem xi36 (k : Nat) : x_in 36 k = xc36.getD k x_63 := (xh (xg (n := 26) (j := 10) xr1 rfl)).1 k
theorem xm36 : x_Mi 36 3 8 0 0 0 3 := (xh (xg (n := 26) (j := 10) xr1 rfl)).2
theorem xi37 (k : Nat) : x_in 37 k = xc37.getD k x_63 := (xh (xg (n := 26) (j := 11) xr1 rfl)).1 k
theorem xm37 : x_Mi 37 6 6 0 0 0 3 := (xh (xg (n := 26) (j := 11) xr1 rfl)).2
theorem xi38 (k : Nat) : x_in 38 k = xc38.getD k x_63 := (xh (xg (n := 26) (j := 12) xr1 rfl)).1 k
theorem xm38 : x_Mi 38 1 2 153 1824 2 4 := (xh (xg (n := 26) (j := 12) xr1 rfl)).2
theorem xi39 (k : Nat) : x_in 39 k = xc39.getD k x_63 := (xh (xg (n := 26) (j := 13) xr1 rfl)).1 k
theorem xm39 : x_Mi 39 2 3 0 0 0 4 := (xh (xg (n := 26) (j := 13) xr1 rfl)).2
theorem xi40 (k : Nat) : x_in 40 k = xc40.getD k x_63 := (xh (xg (n := 26) (j := 14) xr1 rfl)).1 k
theorem xm40 : x_Mi 40 2 2 0 0 0 4 := (xh (xg (n := 26) (j := 14) xr1 rfl)).2
theorem xi41 (k : Nat) : x_in 41 k = xc41.getD k x_63 := (xh (xg (n := 26) (j := 15) xr1 rfl)).1 k
theorem xm41 : x_Mi 41 2 2 0 0 0 4 := (xh (xg (n := 26) (j := 15) xr1 rfl)).2
theorem xi42 (k : Nat) : x_in 42 k = xc42.getD k x_63 := (xh (xg (n := 26) (j := 16) xr1 rfl)).1 k
theorem xm42 : x_Mi 42 2 2 0 0 0 4 := (xh (xg (n := 26) (j := 16) xr1 rfl)).2
theorem xi43 (k : Nat) : x_in 43 k = xc43.getD k x_63 := (xh (xg (n := 26) (j := 17) xr1 rfl)).1 k
theorem xm43 : x_Mi 43 3 4 0 0 0 4 := (xh (xg (n := 26) (j := 17) xr1 rfl)).2
theorem xi44 (k : Nat) : x_in 44 k = xc44.getD k x_63 := (xh (xg (n := 26) (j := 18) xr1 rfl)).1 k
theorem xm44 : x_Mi 44 2 2 0 0 0 4 := (xh (xg (n := 26) (j := 18) xr1 rfl)).2
theorem xi45 (k : Nat) : x_in 45 k = xc45.getD k x_63 := (xh (xg (n := 26) (j := 19) xr1 rfl)).1 k
theorem xm45 : x_Mi 45 4 5 0 0 0 4 := (xh (xg (n := 26) (j := 19) xr1 rfl)).2
theorem xi46 (k : Nat) : x_in 46 k = xc46.getD k x_63 := (xh (xg (n := 26) (j := 20) xr1 rfl)).1 k
theorem xm46 : x_Mi 46 3 3 0 0 0 4 := (xh (xg (n := 26) (j := 20) xr1 rfl)).2
theorem xi47 (k : Nat) : x_in 47 k = xc47.getD k x_63 := (xh (xg (n := 26) (j := 21) xr1 rfl)).1 k
theorem xm47 : x_Mi 47 2 4 0 0 0 4 := (xh (xg (n := 26) (j := 21) xr1 rfl)).2
theorem xi48 (k : Nat) : x_in 48 k = xc48.getD k x_63 := (xh (xg (n := 26) (j := 22) xr1 rfl)).1 k
theorem xm48 : x_Mi 48 1 3 0 0 0 4 := (xh (xg (n := 26) (j := 22) xr1 rfl)).2
theorem xi49 (k : Nat) : x_in 49 k = xc49.getD k x_63 := (xh (xg (n := 26) (j := 23) xr1 rfl)).1 k
theorem xm49 : x_Mi 49 3 5 0 0 0 4 := (xh (xg (n := 26) (j := 23) xr1 rfl)).2
theorem xi50 (k : Nat) : x_in 50 k = xc50.getD k x_63 := (xh (xg (n := 26) (j := 24) xr1 rfl)).1 k
theorem xm50 : x_Mi 50 2 4 0 0 0 4 := (xh (xg (n := 26) (j := 24) xr1 rfl)).2
theorem xi51 (k : Nat) : x_in 51 k = xc51.getD k x_63 := (xh (xg (n := 26) (j := 25) xr1 rfl)).1 k
theorem xm51 : x_Mi 51 2 2 0 0 0 4 := (xh (xg (n := 26) (j := 25) xr1 rfl)).2
theorem xi52 (k : Nat) : x_in 52 k = xc52.getD k x_63 := (xh (xg (n := 52) (j := 0) xr2 rfl)).1 k
theorem xm52 : x_Mi 52 3 4 0 0 0 4 := (xh (xg (n := 52) (j := 0) xr2 rfl)).2
theorem xi53 (k : Nat) : x_in 53 k = xc53.getD k x_63 := (xh (xg (n := 52) (j := 1) xr2 rfl)).1 k
theorem xm53 : x_Mi 53 2 4 0 0 0 4 := (xh (xg (n := 52) (j := 1) xr2 rfl)).2
theorem xi54 (k : Nat) : x_in 54 k = xc54.getD k x_63 := (xh (xg (n := 52) (j := 2) xr2 rfl)).1 k
theorem xm54 : x_Mi 54 4 4 0 0 0 4 := (xh (xg (n := 52) (j := 2) xr2 rfl)).2
theorem xi55 (k : Nat) : x_in 55 k = xc55.getD k x_63 := (xh (xg (n := 52) (j := 3) xr2 rfl)).1 k
theorem xm55 : x_Mi 55 2 3 0 0 0 4 := (xh (xg (n := 52) (j := 3) xr2 rfl)).2
theorem xi56 (k : Nat) : x_in 56 k = xc56.getD k x_63 := (xh (xg (n := 52) (j := 4) xr2 rfl)).1 k
theorem xm56 : x_Mi 56 3 5 0 0 0 4 := (xh (xg (n := 52) (j := 4) xr2 rfl)).2
theorem xi57 (k : Nat) : x_in 57 k = xc57.getD k x_63 := (xh (xg (n := 52) (j := 5) xr2 rfl)).1 k
theorem xm57 : x_Mi 57 3 3 0 0 0 4 := (xh (xg (n := 52) (j := 5) xr2 rfl)).2
theorem xi58 (k : Nat) : x_in 58 k = xc58.getD k x_63 := (xh (xg (n := 52) (j := 6) xr2 rfl)).1 k
theorem xm58 : x_Mi 58 3 9 0 0 0 4 := (xh (xg (n := 52) (j := 6) xr2 rfl)).2
theorem xi59 (k : Nat) : x_in 59 k = xc59.getD k x_63 := (xh (xg (n := 52) (j := 7) xr2 rfl)).1 k
theorem xm59 : x_Mi 59 4 6 0 0 0 4 := (xh (xg (n := 52) (j := 7) xr2 rfl)).2
theorem xi60 (k : Nat) : x_in 60 k = xc60.getD k x_63 := (xh (xg (n := 52) (j := 8) xr2 rfl)).1 k
theorem xm60 : x_Mi 60 4 4 0 0 0 4 := (xh (xg (n := 52) (j := 8) xr2 rfl)).2
theorem xi61 (k : Nat) : x_in 61 k = xc61.getD k x_63 := (xh (xg (n := 52) (j := 9) xr2 rfl)).1 k
theorem xm61 : x_Mi 61 3 3 0 0 0 4 := (xh (xg (n := 52) (j := 9) xr2 rfl)).2
theorem xi62 (k : Nat) : x_in 62 k = xc62.getD k x_63 := (xh (xg (n := 52) (j := 10) xr2 rfl)).1 k
theorem xm62 : x_Mi 62 3 3 0 0 0 4 := (xh (xg (n := 52) (j := 10) xr2 rfl)).2
theorem xi63 (k : Nat) : x_in 63 k = xc63.getD k x_63 := (xh (xg (n := 52) (j := 11) xr2 rfl)).1 k
theorem xm63 : x_Mi 63 3 5 0 0 0 4 := (xh (xg (n := 52) (j := 11) xr2 rfl)).2
theorem xi64 (k : Nat) : x_in 64 k = xc64.getD k x_63 := (xh (xg (n := 52) (j := 12) xr2 rfl)).1 k
theorem xm64 : x_Mi 64 3 7 0 0 0 4 := (xh (xg (n := 52) (j := 12) xr2 rfl)).2
theorem xi65 (k : Nat) : x_in 65 k = xc65.getD k x_63 := (xh (xg (n := 52) (j := 13) xr2 rfl)).1 k
theorem xm65 : x_Mi 65 2 2 0 0 2 5 := (xh (xg (n := 52) (j := 13) xr2 rfl)).2
theorem xi66 (k : Nat) : x_in 66 k = xc66.getD k x_63 := (xh (xg (n := 52) (j := 14) xr2 rfl)).1 k
theorem xm66 : x_Mi 66 2 2 0 0 0 5 := (xh (xg (n := 52) (j := 14) xr2 rfl)).2
theorem xi67 (k : Nat) : x_in 67 k = xc67.getD k x_63 := (xh (xg (n := 52) (j := 15) xr2 rfl)).1 k
theorem xm67 : x_Mi 67 2 2 0 0 0 5 := (xh (xg (n := 52) (j := 15) xr2 rfl)).2
theorem xi68 (k : Nat) : x_in 68 k = xc68.getD k x_63 := (xh (xg (n := 52) (j := 16) xr2 rfl)).1 k
theorem xm68 : x_Mi 68 4 4 0 0 0 5 := (xh (xg (n := 52) (j := 16) xr2 rfl)).2
theorem xi69 (k : Nat) : x_in 69 k = xc69.getD k x_63 := (xh (xg (n := 52) (j := 17) xr2 rfl)).1 k
theorem xm69 : x_Mi 69 1 1 0 0 1 5 := (xh (xg (n := 52) (j := 17) xr2 rfl)).2
theorem xi70 (k : Nat) : x_in 70 k = xc70.getD k x_63 := (xh (xg (n := 52) (j := 18) xr2 rfl)).1 k
theorem xm70 : x_Mi 70 1 1 0 0 0 5 := (xh (xg (n := 52) (j := 18) xr2 rfl)).2
theorem xi71 (k : Nat) : x_in 71 k = xc71.getD k x_63 := (xh (xg (n := 52) (j := 19) xr2 rfl)).1 k
theorem xm71 : x_Mi 71 1 1 0 0 0 5 := (xh (xg (n := 52) (j := 19) xr2 rfl)).2
theorem xi72 (k : Nat) : x_in 72 k = xc72.getD k x_63 := (xh (xg (n := 52) (j := 20) xr2 rfl)).1 k
theorem xm72 : x_Mi 72 2 2 0 0 0 5 := (xh (xg (n := 52) (j := 20) xr2 rfl)).2
theorem xi73 (k : Nat) : x_in 73 k = xc73.getD k x_63 := (xh (xg (n := 52) (j := 21) xr2 rfl)).1 k
theorem xm73 : x_Mi 73 2 2 0 0 0 5 := (xh (xg (n := 52) (j := 21) xr2 rfl)).2
theorem xi74 (k : Nat) : x_in 74 k = xc74.getD k x_63 := (xh (xg (n := 52) (j := 22) xr2 rfl)).1 k
theorem xm74 : x_Mi 74 2 2 0 0 0 5 := (xh (xg (n := 52) (j := 22) xr2 rfl)).2
theorem xi75 (k : Nat) : x_in 75 k = xc75.getD k x_63 := (xh (xg (n := 52) (j := 23) xr2 rfl)).1 k
theorem xm75 : x_Mi 75 1 1 0 0 0 5 := (xh (xg (n := 52) (j := 23) xr2 rfl)).2
theorem xi76 (k : Nat) : x_in 76 k = xc76.getD k x_63 := (xh (xg (n := 52) (j := 24) xr2 rfl)).1 k
theorem xm76 : x_Mi 76 3 3 0 0 0 5 := (xh (xg (n := 52) (j := 24) xr2 rfl)).2
theorem xi77 (k : Nat) : x_in 77 k = xc77.getD k x_63 := (xh (xg (n := 52) (j := 25) xr2 rfl)).1 k
theorem xm77 : x_Mi 77 1 1 161 2887 2 6 := (xh (xg (n := 52) (j := 25) xr2 rfl)).2
theorem xi78 (k : Nat) : x_in 78 k = xc78.getD k x_63 := (xh (xg (n := 78) (j := 0) xr3 rfl)).1 k
theorem xm78 : x_Mi 78 2 2 0 0 0 6 := (xh (xg (n := 78) (j := 0) xr3 rfl)).2
theorem xi79 (k : Nat) : x_in 79 k = xc79.getD k x_63 := (xh (xg (n := 78) (j := 1) xr3 rfl)).1 k
theorem xm79 : x_Mi 79 4 6 0 0 0 6 := (xh (xg (n := 78) (j := 1) xr3 rfl)).2
theorem xi80 (k : Nat) : x_in 80 k = xc80.getD k x_63 := (xh (xg (n := 78) (j := 2) xr3 rfl)).1 k
theorem xm80 : x_Mi 80 3 4 0 0 0 6 := (xh (xg (n := 78) (j := 2) xr3 rfl)).2
theorem xi81 (k : Nat) : x_in 81 k = xc81.getD k x_63 := (xh (xg (n := 78) (j := 3) xr3 rfl)).1 k
theorem xm81 : x_Mi 81 3 4 0 0 0 6 := (xh (xg (n := 78) (j := 3) xr3 rfl)).2
theorem xi82 (k : Nat) : x_in 82 k = xc82.getD k x_63 := (xh (xg (n := 78) (j := 4) xr3 rfl)).1 k
theorem xm82 : x_Mi 82 4 5 0 0 0 6 := (xh (xg (n := 78) (j := 4) xr3 rfl)).2
theorem xi83 (k : Nat) : x_in 83 k = xc83.getD k x_63 := (xh (xg (n := 78) (j := 5) xr3 rfl)).1 k
theorem xm83 : x_Mi 83 3 4 0 0 0 6 := (xh (xg (n := 78) (j := 5) xr3 rfl)).2
theorem xi84 (k : Nat) : x_in 84 k = xc84.getD k x_63 := (xh (xg (n := 78) (j := 6) xr3 rfl)).1 k
theorem xm84 : x_Mi 84 3 4 0 0 0 6 := (xh (xg (n := 78) (j := 6) xr3 rfl)).2
theorem xi85 (k : Nat) : x_in 85 k = xc85.getD k x_63 := (xh (xg (n := 78) (j := 7) xr3 rfl)).1 k
theorem xm85 : x_Mi 85 4 5 0 0 0 6 := (xh (xg (n := 78) (j := 7) xr3 rfl)).2
theorem xi86 (k : Nat) : x_in 86 k = xc86.getD k x_63 := (xh (xg (n := 78) (j := 8) xr3 rfl)).1 k
theorem xm86 : x_Mi 86 3 5 0 0 0 6 := (xh (xg (n := 78) (j := 8) xr3 rfl)).2
theorem xi87 (k : Nat) : x_in 87 k = xc87.getD k x_63 := (xh (xg (n := 78) (j := 9) xr3 rfl)).1 k
theorem xm87 : x_Mi 87 3 4 0 0 0 6 := (xh (xg (n := 78) (j := 9) xr3 rfl)).2
theorem xi88 (k : Nat) : x_in 88 k = xc88.getD k x_63 := (xh (xg (n := 78) (j := 10) xr3 rfl)).1 k
theorem xm88 : x_Mi 88 2 3 0 0 0 6 := (xh (xg (n := 78) (j := 10) xr3 rfl)).2
theorem xi89 (k : Nat) : x_in 89 k = xc89.getD k x_63 := (xh (xg (n := 78) (j := 11) xr3 rfl)).1 k
theorem xm89 : x_Mi 89 2 3 0 0 0 6 := (xh (xg (n := 78) (j := 11) xr3 rfl)).2
theorem xi90 (k : Nat) : x_in 90 k = xc90.getD k x_63 := (xh (xg (n := 78) (j := 12) xr3 rfl)).1 k
theorem xm90 : x_Mi 90 2 3 0 0 0 6 := (xh (xg (n := 78) (j := 12) xr3 rfl)).2
theorem xi91 (k : Nat) : x_in 91 k = xc91.getD k x_63 := (xh (xg (n := 78) (j := 13) xr3 rfl)).1 k
theorem xm91 : x_Mi 91 3 6 0 0 0 6 := (xh (xg (n := 78) (j := 13) xr3 rfl)).2
theorem xi92 (k : Nat) : x_in 92 k = xc92.getD k x_63 := (xh (xg (n := 78) (j := 14) xr3 rfl)).1 k
theorem xm92 : x_Mi 92 4 6 0 0 0 6 := (xh (xg (n := 78) (j := 14) xr3 rfl)).2
theorem xi93 (k : Nat) : x_in 93 k = xc93.getD k x_63 := (xh (xg (n := 78) (j := 15) xr3 rfl)).1 k
theorem xm93 : x_Mi 93 3 5 0 0 0 6 := (xh (xg (n := 78) (j := 15) xr3 rfl)).2
theorem xi94 (k : Nat) : x_in 94 k = xc94.getD k x_63 := (xh (xg (n := 78) (j := 16) xr3 rfl)).1 k
theorem xm94 : x_Mi 94 1 2 0 0 0 6 := (xh (xg (n := 78) (j := 16) xr3 rfl)).2
theorem xi95 (k : Nat) : x_in 95 k = xc95.getD k x_63 := (xh (xg (n := 78) (j := 17) xr3 rfl)).1 k
theorem xm95 : x_Mi 95 3 3 0 0 0 6 := (xh (xg (n := 78) (j := 17) xr3 rfl)).2
theorem xi96 (k : Nat) : x_in 96 k = xc96.getD k x_63 := (xh (xg (n := 78) (j := 18) xr3 rfl)).1 k
theorem xm96 : x_Mi 96 3 4 0 0 0 6 := (xh (xg (n := 78) (j := 18) xr3 rfl)).2
theorem xi97 (k : Nat) : x_in 97 k = xc97.getD k x_63 := (xh (xg (n := 78) (j := 19) xr3 rfl)).1 k
theorem xm97 : x_Mi 97 3 5 0 0 0 6 := (xh (xg (n := 78) (j := 19) xr3 rfl)).2
theorem xi98 (k : Nat) : x_in 98 k = xc98.getD k x_63 := (xh (xg (n := 78) (j := 20) xr3 rfl)).1 k
theorem xm98 : x_Mi 98 3 5 0 0 0 6 := (xh (xg (n := 78) (j := 20) xr3 rfl)).2
theorem xi99 (k : Nat) : x_in 99 k = xc99.getD k x_63 := (xh (xg (n := 78) (j := 21) xr3 rfl)).1 k
theorem xm99 : x_Mi 99 2 4 0 0 0 6 := (xh (xg (n := 78) (j := 21) xr3 rfl)).2
theorem xi100 (k : Nat) : x_in 100 k = xc100.getD k x_63 := (xh (xg (n := 78) (j := 22) xr3 rfl)).1 k
theorem xm100 : x_Mi 100 3 4 0 0 0 6 := (xh (xg (n := 78) (j := 22) xr3 rfl)).2
theorem xi101 (k : Nat) : x_in 101 k = xc101.getD k x_63 := (xh (xg (n := 78) (j := 23) xr3 rfl)).1 k
theorem xm101 : x_Mi 101 5 6 0 0 0 6 := (xh (xg (n := 78) (j := 23) xr3 rfl)).2
theorem xi102 (k : Nat) : x_in 102 k = xc102.getD k x_63 := (xh (xg (n := 78) (j := 24) xr3 rfl)).1 k
theorem xm102 : x_Mi 102 4 5 0 0 0 6 := (xh (xg (n := 78) (j := 24) xr3 rfl)).2
theorem xi103 (k : Nat) : x_in 103 k = xc103.getD k x_63 := (xh (xg (n := 78) (j := 25) xr3 rfl)).1 k
theorem xm103 : x_Mi 103 2 3 0 0 0 6 := (xh (xg (n := 78) (j := 25) xr3 rfl)).2
theorem xi104 (k : Nat) : x_in 104 k = xc104.getD k x_63 := (xh (xg (n := 104) (j := 0) xr4 rfl)).1 k
theorem xm104 : x_Mi 104 3 4 0 0 0 6 := (xh (xg (n := 104) (j := 0) xr4 rfl)).2
theorem xi105 (k : Nat) : x_in 105 k = xc105.getD k x_63 := (xh (xg (n := 104) (j := 1) xr4 rfl)).1 k
theorem xm105 : x_Mi 105 2 2 0 0 0 6 := (xh (xg (n := 104) (j := 1) xr4 rfl)).2
theorem xi106 (k : Nat) : x_in 106 k = xc106.getD k x_63 := (xh (xg (n := 104) (j := 2) xr4 rfl)).1 k
theorem xm106 : x_Mi 106 2 2 0 0 0 6 := (xh (xg (n := 104) (j := 2) xr4 rfl)).2
theorem xi107 (k : Nat) : x_in 107 k = xc107.getD k x_63 := (xh (xg (n := 104) (j := 3) xr4 rfl)).1 k
theorem xm107 : x_Mi 107 2 5 0 0 0 6 := (xh (xg (n := 104) (j := 3) xr4 rfl)).2
theorem xi108 (k : Nat) : x_in 108 k = xc108.getD k x_63 := (xh (xg (n := 104) (j := 4) xr4 rfl)).1 k
theorem xm108 : x_Mi 108 2 2 154 1831 0 6 := (xh (xg (n := 104) (j := 4) xr4 rfl)).2
theorem xi109 (k : Nat) : x_in 109 k = xc109.getD k x_63 := (xh (xg (n := 104) (j := 5) xr4 rfl)).1 k
theorem xm109 : x_Mi 109 2 2 0 0 0 6 := (xh (xg (n := 104) (j := 5) xr4 rfl)).2
theorem xi110 (k : Nat) : x_in 110 k = xc110.getD k x_63 := (xh (xg (n := 104) (j := 6) xr4 rfl)).1 k
theorem xm110 : x_Mi 110 2 2 0 0 0 6 := (xh (xg (n := 104) (j := 6) xr4 rfl)).2
theorem xi111 (k : Nat) : x_in 111 k = xc111.getD k x_63 := (xh (xg (n := 104) (j := 7) xr4 rfl)).1 k
theorem xm111 : x_Mi 111 1 4 0 0 1 6 := (xh (xg (n := 104) (j := 7) xr4 rfl)).2
theorem xi112 (k : Nat) : x_in 112 k = xc112.getD k x_63 := (xh (xg (n := 104) (j := 8) xr4 rfl)).1 k
theorem xm112 : x_Mi 112 1 3 7 8249 2 7 := (xh (xg (n := 104) (j := 8) xr4 rfl)).2
theorem xi113 (k : Nat) : x_in 113 k = xc113.getD k x_63 := (xh (xg (n := 104) (j := 9) xr4 rfl)).1 k
theorem xm113 : x_Mi 113 2 2 0 0 1 7 := (xh (xg (n := 104) (j := 9) xr4 rfl)).2
theorem xi114 (k : Nat) : x_in 114 k = xc114.getD k x_63 := (xh (xg (n := 104) (j := 10) xr4 rfl)).1 k
theorem xm114 : x_Mi 114 2 2 0 0 0 7 := (xh (xg (n := 104) (j := 10) xr4 rfl)).2
theorem xi115 (k : Nat) : x_in 115 k = xc115.getD k x_63 := (xh (xg (n := 104) (j := 11) xr4 rfl)).1 k
theorem xm115 : x_Mi 115 2 2 0 0 0 7 := (xh (xg (n := 104) (j := 11) xr4 rfl)).2
theorem xi116 (k : Nat) : x_in 116 k = xc116.getD k x_63 := (xh (xg (n := 104) (j := 12) xr4 rfl)).1 k
theorem xm116 : x_Mi 116 2 2 0 0 0 7 := (xh (xg (n := 104) (j := 12) xr4 rfl)).2
theorem xi117 (k : Nat) : x_in 117 k = xc117.getD k x_63 := (xh (xg (n := 104) (j := 13) xr4 rfl)).1 k
theorem xm117 : x_Mi 117 2 2 0 0 0 7 := (xh (xg (n := 104) (j := 13) xr4 rfl)).2
theorem xi118 (k : Nat) : x_in 118 k = xc118.getD k x_63 := (xh (xg (n := 104) (j := 14) xr4 rfl)).1 k
theorem xm118 : x_Mi 118 2 2 0 0 0 7 := (xh (xg (n := 104) (j := 14) xr4 rfl)).2
theorem xi119 (k : Nat) : x_in 119 k = xc119.getD k x_63 := (xh (xg (n := 104) (j := 15) xr4 rfl)).1 k
theorem xm119 : x_Mi 119 3 3 0 0 0 7 := (xh (xg (n := 104) (j := 15) xr4 rfl)).2
theorem xi120 (k : Nat) : x_in 120 k = xc120.getD k x_63 := (xh (xg (n := 104) (j := 16) xr4 rfl)).1 k
theorem xm120 : x_Mi 120 3 3 0 0 0 7 := (xh (xg (n := 104) (j := 16) xr4 rfl)).2
theorem xi121 (k : Nat) : x_in 121 k = xc121.getD k x_63 := (xh (xg (n := 104) (j := 17) xr4 rfl)).1 k
theorem xm121 : x_Mi 121 2 4 0 0 0 7 := (xh (xg (n := 104) (j := 17) xr4 rfl)).2
theorem xi122 (k : Nat) : x_in 122 k = xc122.getD k x_63 := (xh (xg (n := 104) (j := 18) xr4 rfl)).1 k
theorem xm122 : x_Mi 122 4 4 0 0 0 7 := (xh (xg (n := 104) (j := 18) xr4 rfl)).2
theorem xi123 (k : Nat) : x_in 123 k = xc123.getD k x_63 := (xh (xg (n := 104) (j := 19) xr4 rfl)).1 k
theorem xm123 : x_Mi 123 3 4 0 0 0 7 := (xh (xg (n := 104) (j := 19) xr4 rfl)).2
theorem xi124 (k : Nat) : x_in 124 k = xc124.getD k x_63 := (xh (xg (n := 104) (j := 20) xr4 rfl)).1 k
theorem xm124 : x_Mi 124 3 4 0 0 0 7 := (xh (xg (n := 104) (j := 20) xr4 rfl)).2
theorem xi125 (k : Nat) : x_in 125 k = xc125.getD k x_63 := (xh (xg (n := 104) (j := 21) xr4 rfl)).1 k
theorem xm125 : x_Mi 125 3 3 0 0 0 7 := (xh (xg (n := 104) (j := 21) xr4 rfl)).2
theorem xi126 (k : Nat) : x_in 126 k = xc126.getD k x_63 := (xh (xg (n := 104) (j := 22) xr4 rfl)).1 k
theorem xm126 : x_Mi 126 4 5 0 0 0 7 := (xh (xg (n := 104) (j := 22) xr4 rfl)).2
theorem xi127 (k : Nat) : x_in 127 k = xc127.getD k x_63 := (xh (xg (n := 104) (j := 23) xr4 rfl)).1 k
theorem xm127 : x_Mi 127 3 3 0 0 0 7 := (xh (xg (n := 104) (j := 23) xr4 rfl)).2
theorem xi128 (k : Nat) : x_in 128 k = xc128.getD k x_63 := (xh (xg (n := 104) (j := 24) xr4 rfl)).1 k
theorem xm128 : x_Mi 128 3 6 0 0 0 7 := (xh (xg (n := 104) (j := 24) xr4 rfl)).2
theorem xi129 (k : Nat) : x_in 129 k = xc129.getD k x_63 := (xh (xg (n := 104) (j := 25) xr4 rfl)).1 k
theorem xm129 : x_Mi 129 3 3 0 0 0 7 := (xh (xg (n := 104) (j := 25) xr4 rfl)).2
theorem xi130 (k : Nat) : x_in 130 k = xc130.getD k x_63 := (xh (xg (n := 130) (j := 0) xr5 rfl)).1 k
theorem xm130 : x_Mi 130 4 4 0 0 0 7 := (xh (xg (n := 130) (j := 0) xr5 rfl)).2
theorem xi131 (k : Nat) : x_in 131 k = xc131.getD k x_63 := (xh (xg (n := 130) (j := 1) xr5 rfl)).1 k
theorem xm131 : x_Mi 131 4 6 0 0 0 7 := (xh (xg (n := 130) (j := 1) xr5 rfl)).2
theorem xi132 (k : Nat) : x_in 132 k = xc132.getD k x_63 := (xh (xg (n := 130) (j := 2) xr5 rfl)).1 k
theorem xm132 : x_Mi 132 3 3 0 0 0 7 := (xh (xg (n := 130) (j := 2) xr5 rfl)).2
theorem xi133 (k : Nat) : x_in 133 k = xc133.getD k x_63 := (xh (xg (n := 130) (j := 3) xr5 rfl)).1 k
theorem xm133 : x_Mi 133 3 3 0 0 0 7 := (xh (xg (n := 130) (j := 3) xr5 rfl)).2
theorem xi134 (k : Nat) : x_in 134 k = xc134.getD k x_63 := (xh (xg (n := 130) (j := 4) xr5 rfl)).1 k
theorem xm134 : x_Mi 134 4 4 0 0 0 7 := (xh (xg (n := 130) (j := 4) xr5 rfl)).2
theorem xi135 (k : Nat) : x_in 135 k = xc135.getD k x_63 := (xh (xg (n := 130) (j := 5) xr5 rfl)).1 k
theorem xm135 : x_Mi 135 3 4 0 0 0 7 := (xh (xg (n := 130) (j := 5) xr5 rfl)).2
theorem xi136 (k : Nat) : x_in 136 k = xc136.getD k x_63 := (xh (xg (n := 130) (j := 6) xr5 rfl)).1 k
theorem xm136 : x_Mi 136 4 4 0 0 0 7 := (xh (xg (n := 130) (j := 6) xr5 rfl)).2
theorem xi137 (k : Nat) : x_in 137 k = xc137.getD k x_63 := (xh (xg (n := 130) (j := 7) xr5 rfl)).1 k
theorem xm137 : x_Mi 137 2 2 0 0 0 7 := (xh (xg (n := 130) (j := 7) xr5 rfl)).2
theorem xi138 (k : Nat) : x_in 138 k = xc138.getD k x_63 := (xh (xg (n := 130) (j := 8) xr5 rfl)).1 k
theorem xm138 : x_Mi 138 1 1 0 0 1 7 := (xh (xg (n := 130) (j := 8) xr5 rfl)).2
theorem xi139 (k : Nat) : x_in 139 k = xc139.getD k x_63 := (xh (xg (n := 130) (j := 9) xr5 rfl)).1 k
theorem xm139 : x_Mi 139 4 5 0 0 0 7 := (xh (xg (n := 130) (j := 9) xr5 rfl)).2
theorem xi140 (k : Nat) : x_in 140 k = xc140.getD k x_63 := (xh (xg (n := 130) (j := 10) xr5 rfl)).1 k
theorem xm140 : x_Mi 140 1 13 0 0 1 7 := (xh (xg (n := 130) (j := 10) xr5 rfl)).2
theorem xi141 (k : Nat) : x_in 141 k = xc141.getD k x_63 := (xh (xg (n := 130) (j := 11) xr5 rfl)).1 k
theorem xm141 : x_Mi 141 3 4 0 0 0 7 := (xh (xg (n := 130) (j := 11) xr5 rfl)).2
theorem xi142 (k : Nat) : x_in 142 k = xc142.getD k x_63 := (xh (xg (n := 130) (j := 12) xr5 rfl)).1 k
theorem xm142 : x_Mi 142 3 4 0 0 0 7 := (xh (xg (n := 130) (j := 12) xr5 rfl)).2
theorem xi143 (k : Nat) : x_in 143 k = xc143.getD k x_63 := (xh (xg (n := 130) (j := 13) xr5 rfl)).1 k
theorem xm143 : x_Mi 143 2 2 0 0 0 7 := (xh (xg (n := 130) (j := 13) xr5 rfl)).2
theorem xi144 (k : Nat) : x_in 144 k = xc144.getD k x_63 := (xh (xg (n := 130) (j := 14) xr5 rfl)).1 k
theorem xm144 : x_Mi 144 2 2 0 0 0 7 := (xh (xg (n := 130) (j := 14) xr5 rfl)).2
theorem xi145 (k : Nat) : x_in 145 k = xc145.getD k x_63 := (xh (xg (n := 130) (j := 15) xr5 rfl)).1 k
theorem xm145 : x_Mi 145 2 2 0 0 0 7 := (xh (xg (n := 130) (j := 15) xr5 rfl)).2
theorem xi146 (k : Nat) : x_in 146 k = xc146.getD k x_63 := (xh (xg (n := 130) (j := 16) xr5 rfl)).1 k
theorem xm146 : x_Mi 146 3 6 0 0 0 7 := (xh (xg (n := 130) (j := 16) xr5 rfl)).2
theorem xi147 (k : Nat) : x_in 147 k = xc147.getD k x_63 := (xh (xg (n := 130) (j := 17) xr5 rfl)).1 k
theorem xm147 : x_Mi 147 2 2 0 0 0 7 := (xh (xg (n := 130) (j := 17) xr5 rfl)).2
theorem xi148 (k : Nat) : x_in 148 k = xc148.getD k x_63 := (xh (xg (n := 130) (j := 18) xr5 rfl)).1 k
theorem xm148 : x_Mi 148 3 5 0 0 0 7 := (xh (xg (n := 130) (j := 18) xr5 rfl)).2
theorem xi149 (k : Nat) : x_in 149 k = xc149.getD k x_63 := (xh (xg (n := 130) (j := 19) xr5 rfl)).1 k
theorem xm149 : x_Mi 149 3 3 0 0 0 7 := (xh (xg (n := 130) (j := 19) xr5 rfl)).2
theorem xi150 (k : Nat) : x_in 150 k = xc150.getD k x_63 := (xh (xg (n := 130) (j := 20) xr5 rfl)).1 k
theorem xm150 : x_Mi 150 4 7 0 0 0 7 := (xh (xg (n := 130) (j := 20) xr5 rfl)).2
theorem xi151 (k : Nat) : x_in 151 k = xc151.getD k x_63 := (xh (xg (n := 130) (j := 21) xr5 rfl)).1 k
theorem xm151 : x_Mi 151 3 4 0 0 0 7 := (xh (xg (n := 130) (j := 21) xr5 rfl)).2
theorem xi152 (k : Nat) : x_in 152 k = xc152.getD k x_63 := (xh (xg (n := 130) (j := 22) xr5 rfl)).1 k
theorem xm152 : x_Mi 152 4 7 0 0 0 7 := (xh (xg (n := 130) (j := 22) xr5 rfl)).2
theorem xi153 (k : Nat) : x_in 153 k = xc153.getD k x_63 := (xh (xg (n := 130) (j := 23) xr5 rfl)).1 k
theorem xm153 : x_Mi 153 3 3 0 0 0 7 := (xh (xg (n := 130) (j := 23) xr5 rfl)).2
theorem xi154 (k : Nat) : x_in 154 k = xc154.getD k x_63 := (xh (xg (n := 130) (j := 24) xr5 rfl)).1 k
theorem xm154 : x_Mi 154 3 10 0 0 0 7 := (xh (xg (n := 130) (j := 24) xr5 rfl)).2
theorem xi155 (k : Nat) : x_in 155 k = xc155.getD k x_63 := (xh (xg (n := 130) (j := 25) xr5 rfl)).1 k
theorem xm155 : x_Mi 155 1 3 0 0 0 7 := (xh (xg (n := 130) (j := 25) xr5 rfl)).2
theorem xi156 (k : Nat) : x_in 156 k = xc156.getD k x_63 := (xh (xg (n := 156) (j := 0) xr6 rfl)).1 k
theorem xm156 : x_Mi 156 2 2 0 0 0 7 := (xh (xg (n := 156) (j := 0) xr6 rfl)).2
theorem xi157 (k : Nat) : x_in 157 k = xc157.getD k x_63 := (xh (xg (n := 156) (j := 1) xr6 rfl)).1 k
theorem xm157 : x_Mi 157 3 4 0 0 0 7 := (xh (xg (n := 156) (j := 1) xr6 rfl)).2
theorem xi158 (k : Nat) : x_in 158 k = xc158.getD k x_63 := (xh (xg (n := 156) (j := 2) xr6 rfl)).1 k
theorem xm158 : x_Mi 158 3 4 0 0 0 7 := (xh (xg (n := 156) (j := 2) xr6 rfl)).2
theorem xi159 (k : Nat) : x_in 159 k = xc159.getD k x_63 := (xh (xg (n := 156) (j := 3) xr6 rfl)).1 k
theorem xm159 : x_Mi 159 2 5 0 0 0 7 := (xh (xg (n := 156) (j := 3) xr6 rfl)).2
theorem xi160 (k : Nat) : x_in 160 k = xc160.getD k x_63 := (xh (xg (n := 156) (j := 4) xr6 rfl)).1 k
theorem xm160 : x_Mi 160 3 3 0 0 0 7 := (xh (xg (n := 156) (j := 4) xr6 rfl)).2
theorem xi161 (k : Nat) : x_in 161 k = xc161.getD k x_63 := (xh (xg (n := 156) (j := 5) xr6 rfl)).1 k
theorem xm161 : x_Mi 161 3 4 0 0 0 7 := (xh (xg (n := 156) (j := 5) xr6 rfl)).2
theorem xi162 (k : Nat) : x_in 162 k = xc162.getD k x_63 := (xh (xg (n := 156) (j := 6) xr6 rfl)).1 k
theorem xm162 : x_Mi 162 3 5 0 0 0 7 := (xh (xg (n := 156) (j := 6) xr6 rfl)).2
theorem xi163 (k : Nat) : x_in 163 k = xc163.getD k x_63 := (xh (xg (n := 156) (j := 7) xr6 rfl)).1 k
theorem xm163 : x_Mi 163 3 3 0 0 0 7 := (xh (xg (n := 156) (j := 7) xr6 rfl)).2
theorem xi164 (k : Nat) : x_in 164 k = xc164.getD k x_63 := (xh (xg (n := 156) (j := 8) xr6 rfl)).1 k
theorem xm164 : x_Mi 164 2 6 0 0 0 7 := (xh (xg (n := 156) (j := 8) xr6 rfl)).2
theorem xi165 (k : Nat) : x_in 165 k = xc165.getD k x_63 := (xh (xg (n := 156) (j := 9) xr6 rfl)).1 k
theorem xm165 : x_Mi 165 3 4 0 0 0 7 := (xh (xg (n := 156) (j := 9) xr6 rfl)).2
theorem xi166 (k : Nat) : x_in 166 k = xc166.getD k x_63 := (xh (xg (n := 156) (j := 10) xr6 rfl)).1 k
theorem xm166 : x_Mi 166 5 7 0 0 0 7 := (xh (xg (n := 156) (j := 10) xr6 rfl)).2
theorem xi167 (k : Nat) : x_in 167 k = xc167.getD k x_63 := (xh (xg (n := 156) (j := 11) xr6 rfl)).1 k
theorem xm167 : x_Mi 167 3 9 0 0 0 7 := (xh (xg (n := 156) (j := 11) xr6 rfl)).2
theorem xi168 (k : Nat) : x_in 168 k = xc168.getD k x_63 := (xh (xg (n := 156) (j := 12) xr6 rfl)).1 k
theorem xm168 : x_Mi 168 4 4 0 0 0 7 := (xh (xg (n := 156) (j := 12) xr6 rfl)).2
theorem xi169 (k : Nat) : x_in 169 k = xc169.getD k x_63 := (xh (xg (n := 156) (j := 13) xr6 rfl)).1 k
theorem xm169 : x_Mi 169 2 5 0 0 0 7 := (xh (xg (n := 156) (j := 13) xr6 rfl)).2
theorem xi170 (k : Nat) : x_in 170 k = xc170.getD k x_63 := (xh (xg (n := 156) (j := 14) xr6 rfl)).1 k
theorem xm170 : x_Mi 170 3 3 0 0 0 7 := (xh (xg (n := 156) (j := 14) xr6 rfl)).2
theorem xi171 (k : Nat) : x_in 171 k = xc171.getD k x_63 := (xh (xg (n := 156) (j := 15) xr6 rfl)).1 k
theorem xm171 : x_Mi 171 1 4 0 0 0 7 := (xh (xg (n := 156) (j := 15) xr6 rfl)).2
theorem xi172 (k : Nat) : x_in 172 k = xc172.getD k x_63 := (xh (xg (n := 156) (j := 16) xr6 rfl)).1 k
theorem xm172 : x_Mi 172 2 8 0 0 0 7 := (xh (xg (n := 156) (j := 16) xr6 rfl)).2
theorem xi173 (k : Nat) : x_in 173 k = xc173.getD k x_63 := (xh (xg (n := 156) (j := 17) xr6 rfl)).1 k
theorem xm173 : x_Mi 173 1 7 0 0 0 7 := (xh (xg (n := 156) (j := 17) xr6 rfl)).2
theorem xi174 (k : Nat) : x_in 174 k = xc174.getD k x_63 := (xh (xg (n := 156) (j := 18) xr6 rfl)).1 k
theorem xm174 : x_Mi 174 2 6 0 0 0 7 := (xh (xg (n := 156) (j := 18) xr6 rfl)).2
theorem xi175 (k : Nat) : x_in 175 k = xc175.getD k x_63 := (xh (xg (n := 156) (j := 19) xr6 rfl)).1 k
theorem xm175 : x_Mi 175 2 2 0 0 0 7 := (xh (xg (n := 156) (j := 19) xr6 rfl)).2
theorem xi176 (k : Nat) : x_in 176 k = xc176.getD k x_63 := (xh (xg (n := 156) (j := 20) xr6 rfl)).1 k
theorem xm176 : x_Mi 176 2 4 0 0 0 7 := (xh (xg (n := 156) (j := 20) xr6 rfl)).2
theorem xi177 (k : Nat) : x_in 177 k = xc177.getD k x_63 := (xh (xg (n := 156) (j := 21) xr6 rfl)).1 k
theorem xm177 : x_Mi 177 2 9 0 0 0 7 := (xh (xg (n := 156) (j := 21) xr6 rfl)).2
theorem xi178 (k : Nat) : x_in 178 k = xc178.getD k x_63 := (xh (xg (n := 156) (j := 22) xr6 rfl)).1 k
theorem xm178 : x_Mi 178 2 3 0 0 0 7 := (xh (xg (n := 156) (j := 22) xr6 rfl)).2
theorem xi179 (k : Nat) : x_in 179 k = xc179.getD k x_63 := (xh (xg (n := 156) (j := 23) xr6 rfl)).1 k
theorem xm179 : x_Mi 179 2 3 0 0 0 7 := (xh (xg (n := 156) (j := 23) xr6 rfl)).2
theorem xi180 (k : Nat) : x_in 180 k = xc180.getD k x_63 := (xh (xg (n := 156) (j := 24) xr6 rfl)).1 k
theorem xm180 : x_Mi 180 2 4 0 0 0 7 := (xh (xg (n := 156) (j := 24) xr6 rfl)).2
theorem xi181 (k : Nat) : x_in 181 k = xc181.getD k x_63 := (xh (xg (n := 156) (j := 25) xr6 rfl)).1 k
theorem xm181 : x_Mi 181 1 4 0 0 1 8 := (xh (xg (n := 156) (j := 25) xr6 rfl)).2
end
section
/-! THE SHAPE: where the cells of the two objects lie, what they point to -/
def x_TP (o : Int) (P : Int → Int → Int) : Prop := (P o 0 = o + 1 ∧ P o 2 = o + 86 ∧ P o 4 = o + 147) ∧ (∀ s, 0 ≤ s ∧ s < 12 → P (o + 1) s = o + 2 + 7 * s ∧ P (o + 2 + 7 * s) 2 = o + 3 + 7 * s ∧ P (o + 2 + 7 * s) 3 = o + 4 + 7 * s ∧ P (o + 2 + 7 * s) 4 = o + 5 + 7 * s ∧ P (o + 2 + 7 * s) 8 = o + 6 + 7 * s ∧ P (o + 6 + 7 * s) 1 = o + 7 + 7 * s ∧ P (o + 6 + 7 * s) 2 = o + 8 + 7 * s) ∧ (∀ w, 0 ≤ w ∧ w < 60 → P (o + 86) w = o + 87 + w) ∧ (∀ c, 0 ≤ c ∧ c < 3 → P (o + 147) c = o + 148 + 2 * c ∧ P (o + 148 + 2 * c) 5 = o + 149 + 2 * c)
theorem x_Pe {P : Int → Int → Int} {a k v b w : Int} (h : P a k = v) (ha : b = a) (hv : v = w) : P b k = w := by rw [ha, h, hv]
def x_Sh (z : Int) (P : Int → Int → Int) : Prop := 170 ≤ z ∧ (P 0 0 = 1 ∧ P 0 1 = 155 ∧ P 0 2 = 156) ∧ x_TP 1 P ∧ (P 156 0 = 157 ∧ P 156 2 = 158 ∧ P 156 3 = 159 ∧ P 156 5 = 160 ∧ P 156 6 = 161) ∧ (P 162 0 = 163 ∧ P 162 1 = 164 ∧ P 162 5 = 165 ∧ P 162 6 = 166 ∧ P 162 8 = 167 ∧ P 162 9 = 168 ∧ P 162 10 = 169)
theorem tk_st {i : Int} (hi : 0 ≤ i ∧ i < 12) : x_tk (2 + 7 * i) = 2 := by
  unfold x_tk
  rw [if_neg (by omega), if_neg (by omega), if_pos (by omega), if_pos (by omega)]
theorem tk_con {i : Int} (hi : 0 ≤ i ∧ i < 12) : x_tk (3 + 7 * i) = 8 := by
  unfold x_tk
  rw [if_neg (by omega), if_neg (by omega), if_pos (by omega), if_neg (by omega), if_neg (by omega)]
theorem tk_len {i : Int} (hi : 0 ≤ i ∧ i < 12) : x_tk (4 + 7 * i) = 8 := by
  unfold x_tk
  rw [if_neg (by omega), if_neg (by omega), if_pos (by omega), if_neg (by omega), if_neg (by omega)]
theorem tk_oth {i : Int} (hi : 0 ≤ i ∧ i < 12) : x_tk (5 + 7 * i) = 8 := by
  unfold x_tk
  rw [if_neg (by omega), if_neg (by omega), if_pos (by omega), if_neg (by omega), if_neg (by omega)]
theorem tk_dem {i : Int} (hi : 0 ≤ i ∧ i < 12) : x_tk (6 + 7 * i) = 1 := by
  unfold x_tk
  rw [if_neg (by omega), if_neg (by omega), if_pos (by omega), if_neg (by omega), if_pos (by omega)]
theorem tk_br {i : Int} (hi : 0 ≤ i ∧ i < 12) : x_tk (7 + 7 * i) = 8 := by
  unfold x_tk
  rw [if_neg (by omega), if_neg (by omega), if_pos (by omega), if_neg (by omega), if_neg (by omega)]
theorem tk_wa {i : Int} (hi : 0 ≤ i ∧ i < 12) : x_tk (8 + 7 * i) = 8 := by
  unfold x_tk
  rw [if_neg (by omega), if_neg (by omega), if_pos (by omega), if_neg (by omega), if_neg (by omega)]
theorem tk_wh {i : Int} (hi : 0 ≤ i ∧ i < 60) : x_tk (87 + i) = 5 := by
  unfold x_tk
  rw [if_neg (by omega), if_neg (by omega), if_neg (by omega), if_neg (by omega), if_pos (by omega)]
theorem tk_ca {i : Int} (hi : 0 ≤ i ∧ i < 3) : x_tk (148 + 2 * i) = 0 := by
  unfold x_tk
  rw [if_neg (by omega), if_neg (by omega), if_neg (by omega), if_neg (by omega), if_neg (by omega), if_neg (by omega), if_pos (by omega)]
theorem tk_row {i : Int} (hi : 0 ≤ i ∧ i < 3) : x_tk (149 + 2 * i) = 8 := by
  unfold x_tk
  rw [if_neg (by omega), if_neg (by omega), if_neg (by omega), if_neg (by omega), if_neg (by omega), if_neg (by omega), if_neg (by omega)]
theorem kd_main {a o : Int} {c : Nat} (h : x_tk o = c) (ha : a = 1 + o) (h0 : 0 ≤ o ∧ o < 154) : x_kd a = c := by
  subst ha
  unfold x_kd
  rw [if_neg (by omega), if_pos (by omega), show 1 + o - 1 = o by omega, h]
theorem kd_img {a o j : Int} {c : Nat} (h : x_tk o = c) (ha : a = 170 + 154 * j + o) (h0 : 0 ≤ o ∧ o < 154) (hj : 0 ≤ j) : x_kd a = c := by
  subst ha
  unfold x_kd
  rw [if_neg (by omega), if_neg (by omega), if_neg (by omega), if_neg (by omega), if_neg (by omega), if_neg (by omega), if_neg (by omega), if_neg (by omega), show (170 + 154 * j + o - 170) % 154 = o by omega, h]
theorem ln_main {a o n : Int} (h : x_tl o = n) (ha : a = 1 + o) (h0 : 0 ≤ o ∧ o < 154) : x_ln a = n := by
  subst ha
  unfold x_ln
  rw [if_pos (by omega), show 1 + o - 1 = o by omega, h]
theorem ln_img {a o j n : Int} (h : x_tl o = n) (ha : a = 170 + 154 * j + o) (h0 : 0 ≤ o ∧ o < 154) (hj : 0 ≤ j) : x_ln a = n := by
  subst ha
  unfold x_ln
  rw [if_neg (by omega), if_neg (by omega), if_neg (by omega), if_neg (by omega), if_neg (by omega), if_neg (by omega), if_neg (by omega), if_neg (by omega), if_neg (by omega), show (170 + 154 * j + o - 170) % 154 = o by omega, h]
theorem tl_con {i : Int} (hi : 0 ≤ i ∧ i < 12) : x_tl (3 + 7 * i) = 12 := by
  unfold x_tl
  rw [if_neg (by omega), if_pos (by omega), if_pos (by omega)]
theorem tl_len {i : Int} (hi : 0 ≤ i ∧ i < 12) : x_tl (4 + 7 * i) = 12 := by
  unfold x_tl
  rw [if_neg (by omega), if_pos (by omega), if_neg (by omega), if_pos (by omega)]
theorem tl_oth {i : Int} (hi : 0 ≤ i ∧ i < 12) : x_tl (5 + 7 * i) = 8 := by
  unfold x_tl
  rw [if_neg (by omega), if_pos (by omega), if_neg (by omega), if_neg (by omega), if_pos (by omega)]
theorem tl_br {i : Int} (hi : 0 ≤ i ∧ i < 12) : x_tl (7 + 7 * i) = 24 := by
  unfold x_tl
  rw [if_neg (by omega), if_pos (by omega), if_neg (by omega), if_neg (by omega), if_neg (by omega)]
theorem tl_wa {i : Int} (hi : 0 ≤ i ∧ i < 12) : x_tl (8 + 7 * i) = 24 := by
  unfold x_tl
  rw [if_neg (by omega), if_pos (by omega), if_neg (by omega), if_neg (by omega), if_neg (by omega)]
theorem tl_row {i : Int} (hi : 0 ≤ i ∧ i < 3) : x_tl (149 + 2 * i) = 8 := by
  unfold x_tl
  rw [if_neg (by omega), if_neg (by omega), if_neg (by omega), if_neg (by omega)]
theorem ok_st {z i : Int} {P : Int → Int → Int} (hS : x_Sh z P) (hi : 0 ≤ i ∧ i < 12) : 0 ≤ 3 + 7 * i ∧ 3 + 7 * i < z ∧ x_kd (3 + 7 * i) = 2 := ⟨by omega, by have := hS.1; omega, kd_main (tk_st hi) (by omega) (by omega)⟩
theorem ok_con {z i : Int} {P : Int → Int → Int} (hS : x_Sh z P) (hi : 0 ≤ i ∧ i < 12) : 0 ≤ 4 + 7 * i ∧ 4 + 7 * i < z ∧ x_kd (4 + 7 * i) = 8 := ⟨by omega, by have := hS.1; omega, kd_main (tk_con hi) (by omega) (by omega)⟩
theorem ok_len {z i : Int} {P : Int → Int → Int} (hS : x_Sh z P) (hi : 0 ≤ i ∧ i < 12) : 0 ≤ 5 + 7 * i ∧ 5 + 7 * i < z ∧ x_kd (5 + 7 * i) = 8 := ⟨by omega, by have := hS.1; omega, kd_main (tk_len hi) (by omega) (by omega)⟩
theorem ok_oth {z i : Int} {P : Int → Int → Int} (hS : x_Sh z P) (hi : 0 ≤ i ∧ i < 12) : 0 ≤ 6 + 7 * i ∧ 6 + 7 * i < z ∧ x_kd (6 + 7 * i) = 8 := ⟨by omega, by have := hS.1; omega, kd_main (tk_oth hi) (by omega) (by omega)⟩
theorem ok_dem {z i : Int} {P : Int → Int → Int} (hS : x_Sh z P) (hi : 0 ≤ i ∧ i < 12) : 0 ≤ 7 + 7 * i ∧ 7 + 7 * i < z ∧ x_kd (7 + 7 * i) = 1 := ⟨by omega, by have := hS.1; omega, kd_main (tk_dem hi) (by omega) (by omega)⟩
theorem ok_br {z i : Int} {P : Int → Int → Int} (hS : x_Sh z P) (hi : 0 ≤ i ∧ i < 12) : 0 ≤ 8 + 7 * i ∧ 8 + 7 * i < z ∧ x_kd (8 + 7 * i) = 8 := ⟨by omega, by have := hS.1; omega, kd_main (tk_br hi) (by omega) (by omega)⟩
theorem ok_wa {z i : Int} {P : Int → Int → Int} (hS : x_Sh z P) (hi : 0 ≤ i ∧ i < 12) : 0 ≤ 9 + 7 * i ∧ 9 + 7 * i < z ∧ x_kd (9 + 7 * i) = 8 := ⟨by omega, by have := hS.1; omega, kd_main (tk_wa hi) (by omega) (by omega)⟩
theorem ok_wh {z i : Int} {P : Int → Int → Int} (hS : x_Sh z P) (hi : 0 ≤ i ∧ i < 60) : 0 ≤ 88 + i ∧ 88 + i < z ∧ x_kd (88 + i) = 5 := ⟨by omega, by have := hS.1; omega, kd_main (tk_wh hi) (by omega) (by omega)⟩
theorem ok_ca {z i : Int} {P : Int → Int → Int} (hS : x_Sh z P) (hi : 0 ≤ i ∧ i < 3) : 0 ≤ 149 + 2 * i ∧ 149 + 2 * i < z ∧ x_kd (149 + 2 * i) = 0 := ⟨by omega, by have := hS.1; omega, kd_main (tk_ca hi) (by omega) (by omega)⟩
theorem ok_row {z i : Int} {P : Int → Int → Int} (hS : x_Sh z P) (hi : 0 ≤ i ∧ i < 3) : 0 ≤ 150 + 2 * i ∧ 150 + 2 * i < z ∧ x_kd (150 + 2 * i) = 8 := ⟨by omega, by have := hS.1; omega, kd_main (tk_row hi) (by omega) (by omega)⟩
theorem ln_con {i : Int} (hi : 0 ≤ i ∧ i < 12) : x_ln (4 + 7 * i) = 12 := ln_main (tl_con hi) (by omega) (by omega)
theorem ln_len {i : Int} (hi : 0 ≤ i ∧ i < 12) : x_ln (5 + 7 * i) = 12 := ln_main (tl_len hi) (by omega) (by omega)
theorem ln_oth {i : Int} (hi : 0 ≤ i ∧ i < 12) : x_ln (6 + 7 * i) = 8 := ln_main (tl_oth hi) (by omega) (by omega)
theorem ln_br {i : Int} (hi : 0 ≤ i ∧ i < 12) : x_ln (8 + 7 * i) = 24 := ln_main (tl_br hi) (by omega) (by omega)
theorem ln_wa {i : Int} (hi : 0 ≤ i ∧ i < 12) : x_ln (9 + 7 * i) = 24 := ln_main (tl_wa hi) (by omega) (by omega)
theorem ln_row {i : Int} (hi : 0 ≤ i ∧ i < 3) : x_ln (150 + 2 * i) = 8 := ln_main (tl_row hi) (by omega) (by omega)
theorem ok_WS {z : Int} {P : Int → Int → Int} (hS : x_Sh z P) : 0 ≤ (0 : Int) ∧ (0 : Int) < z ∧ x_kd 0 = 6 := ⟨by omega, by have := hS.1; omega, by decide⟩
theorem ok_town {z : Int} {P : Int → Int → Int} (hS : x_Sh z P) : 0 ≤ (1 : Int) ∧ (1 : Int) < z ∧ x_kd 1 = 4 := ⟨by omega, by have := hS.1; omega, by decide⟩
theorem ok_stands {z : Int} {P : Int → Int → Int} (hS : x_Sh z P) : 0 ≤ (2 : Int) ∧ (2 : Int) < z ∧ x_kd 2 = 11 := ⟨by omega, by have := hS.1; omega, by decide⟩
theorem ok_whs {z : Int} {P : Int → Int → Int} (hS : x_Sh z P) : 0 ≤ (87 : Int) ∧ (87 : Int) < z ∧ x_kd 87 = 13 := ⟨by omega, by have := hS.1; omega, by decide⟩
theorem ok_cas {z : Int} {P : Int → Int → Int} (hS : x_Sh z P) : 0 ≤ (148 : Int) ∧ (148 : Int) < z ∧ x_kd 148 = 10 := ⟨by omega, by have := hS.1; omega, by decide⟩
theorem ok_imgs {z : Int} {P : Int → Int → Int} (hS : x_Sh z P) : 0 ≤ (155 : Int) ∧ (155 : Int) < z ∧ x_kd 155 = 12 := ⟨by omega, by have := hS.1; omega, by decide⟩
theorem ok_tour {z : Int} {P : Int → Int → Int} (hS : x_Sh z P) : 0 ≤ (156 : Int) ∧ (156 : Int) < z ∧ x_kd 156 = 3 := ⟨by omega, by have := hS.1; omega, by decide⟩
theorem ok_t0 {z : Int} {P : Int → Int → Int} (hS : x_Sh z P) : 0 ≤ (157 : Int) ∧ (157 : Int) < z ∧ x_kd 157 = 8 := ⟨by omega, by have := hS.1; omega, by decide⟩
theorem ok_t2 {z : Int} {P : Int → Int → Int} (hS : x_Sh z P) : 0 ≤ (158 : Int) ∧ (158 : Int) < z ∧ x_kd 158 = 8 := ⟨by omega, by have := hS.1; omega, by decide⟩
theorem ok_t3 {z : Int} {P : Int → Int → Int} (hS : x_Sh z P) : 0 ≤ (159 : Int) ∧ (159 : Int) < z ∧ x_kd 159 = 8 := ⟨by omega, by have := hS.1; omega, by decide⟩
theorem ok_t5 {z : Int} {P : Int → Int → Int} (hS : x_Sh z P) : 0 ≤ (160 : Int) ∧ (160 : Int) < z ∧ x_kd 160 = 8 := ⟨by omega, by have := hS.1; omega, by decide⟩
theorem ok_t6 {z : Int} {P : Int → Int → Int} (hS : x_Sh z P) : 0 ≤ (161 : Int) ∧ (161 : Int) < z ∧ x_kd 161 = 8 := ⟨by omega, by have := hS.1; omega, by decide⟩
theorem ok_mo {z : Int} {P : Int → Int → Int} (hS : x_Sh z P) : 0 ≤ (162 : Int) ∧ (162 : Int) < z ∧ x_kd 162 = 7 := ⟨by omega, by have := hS.1; omega, by decide⟩
theorem ok_all {z : Int} {P : Int → Int → Int} (hS : x_Sh z P) : 0 ≤ (163 : Int) ∧ (163 : Int) < z ∧ x_kd 163 = 8 := ⟨by omega, by have := hS.1; omega, by decide⟩
theorem ok_has {z : Int} {P : Int → Int → Int} (hS : x_Sh z P) : 0 ≤ (164 : Int) ∧ (164 : Int) < z ∧ x_kd 164 = 9 := ⟨by omega, by have := hS.1; omega, by decide⟩
theorem ok_outs {z : Int} {P : Int → Int → Int} (hS : x_Sh z P) : 0 ≤ (165 : Int) ∧ (165 : Int) < z ∧ x_kd 165 = 8 := ⟨by omega, by have := hS.1; omega, by decide⟩
theorem ok_over {z : Int} {P : Int → Int → Int} (hS : x_Sh z P) : 0 ≤ (166 : Int) ∧ (166 : Int) < z ∧ x_kd 166 = 8 := ⟨by omega, by have := hS.1; omega, by decide⟩
theorem ok_tried {z : Int} {P : Int → Int → Int} (hS : x_Sh z P) : 0 ≤ (167 : Int) ∧ (167 : Int) < z ∧ x_kd 167 = 8 := ⟨by omega, by have := hS.1; omega, by decide⟩
theorem ok_best {z : Int} {P : Int → Int → Int} (hS : x_Sh z P) : 0 ≤ (168 : Int) ∧ (168 : Int) < z ∧ x_kd 168 = 8 := ⟨by omega, by have := hS.1; omega, by decide⟩
theorem ok_round {z : Int} {P : Int → Int → Int} (hS : x_Sh z P) : 0 ≤ (169 : Int) ∧ (169 : Int) < z ∧ x_kd 169 = 8 := ⟨by omega, by have := hS.1; omega, by decide⟩
theorem ln_stands : x_ln 2 = 12 := by decide
theorem ln_whs : x_ln 87 = 60 := by decide
theorem ln_cas : x_ln 148 = 3 := by decide
theorem ln_imgs : x_ln 155 = 4 := by decide
theorem ln_t0 : x_ln 157 = 7 := by decide
theorem ln_t2 : x_ln 158 = 7 := by decide
theorem ln_t3 : x_ln 159 = 7 := by decide
theorem ln_t5 : x_ln 160 = 128 := by decide
theorem ln_t6 : x_ln 161 = 896 := by decide
theorem ln_all : x_ln 163 = 8200 := by decide
theorem ln_has : x_ln 164 = 4 := by decide
theorem ln_outs : x_ln 165 = 12 := by decide
theorem ln_over : x_ln 166 = 12 := by decide
theorem ln_tried : x_ln 167 = 7 := by decide
theorem ln_best : x_ln 168 = 7 := by decide
theorem ln_round : x_ln 169 = 7 := by decide
theorem sh_town {z : Int} {P : Int → Int → Int} (hS : x_Sh z P) : P 0 0 = 1 := hS.2.1.1
theorem sh_imgs {z : Int} {P : Int → Int → Int} (hS : x_Sh z P) : P 0 1 = 155 := hS.2.1.2.1
theorem sh_tour {z : Int} {P : Int → Int → Int} (hS : x_Sh z P) : P 0 2 = 156 := hS.2.1.2.2
theorem sh_t0 {z : Int} {P : Int → Int → Int} (hS : x_Sh z P) : P 156 0 = 157 := hS.2.2.2.1.1
theorem sh_t2 {z : Int} {P : Int → Int → Int} (hS : x_Sh z P) : P 156 2 = 158 := hS.2.2.2.1.2.1
theorem sh_t3 {z : Int} {P : Int → Int → Int} (hS : x_Sh z P) : P 156 3 = 159 := hS.2.2.2.1.2.2.1
theorem sh_t5 {z : Int} {P : Int → Int → Int} (hS : x_Sh z P) : P 156 5 = 160 := hS.2.2.2.1.2.2.2.1
theorem sh_t6 {z : Int} {P : Int → Int → Int} (hS : x_Sh z P) : P 156 6 = 161 := hS.2.2.2.1.2.2.2.2
theorem sh_all {z : Int} {P : Int → Int → Int} (hS : x_Sh z P) : P 162 0 = 163 := hS.2.2.2.2.1
theorem sh_has {z : Int} {P : Int → Int → Int} (hS : x_Sh z P) : P 162 1 = 164 := hS.2.2.2.2.2.1
theorem sh_outs {z : Int} {P : Int → Int → Int} (hS : x_Sh z P) : P 162 5 = 165 := hS.2.2.2.2.2.2.1
theorem sh_over {z : Int} {P : Int → Int → Int} (hS : x_Sh z P) : P 162 6 = 166 := hS.2.2.2.2.2.2.2.1
theorem sh_tried {z : Int} {P : Int → Int → Int} (hS : x_Sh z P) : P 162 8 = 167 := hS.2.2.2.2.2.2.2.2.1
theorem sh_best {z : Int} {P : Int → Int → Int} (hS : x_Sh z P) : P 162 9 = 168 := hS.2.2.2.2.2.2.2.2.2.1
theorem sh_round {z : Int} {P : Int → Int → Int} (hS : x_Sh z P) : P 162 10 = 169 := hS.2.2.2.2.2.2.2.2.2.2
theorem sh_stands {z : Int} {P : Int → Int → Int} (hS : x_Sh z P) : P 1 0 = 2 := x_Pe hS.2.2.1.1.1 rfl (by omega)
theorem sh_whs {z : Int} {P : Int → Int → Int} (hS : x_Sh z P) : P 1 2 = 87 := x_Pe hS.2.2.1.1.2.1 rfl (by omega)
theorem sh_cas {z : Int} {P : Int → Int → Int} (hS : x_Sh z P) : P 1 4 = 148 := x_Pe hS.2.2.1.1.2.2 rfl (by omega)
theorem sh_st {z i : Int} {P : Int → Int → Int} (hS : x_Sh z P) (hi : 0 ≤ i ∧ i < 12) : P (2) (i) = 3 + 7 * i := x_Pe (hS.2.2.1.2.1 i hi).1 (by omega) (by omega)
theorem sh_con {z i : Int} {P : Int → Int → Int} (hS : x_Sh z P) (hi : 0 ≤ i ∧ i < 12) : P (3 + 7 * i) (2) = 4 + 7 * i := x_Pe (hS.2.2.1.2.1 i hi).2.1 (by omega) (by omega)
theorem sh_len {z i : Int} {P : Int → Int → Int} (hS : x_Sh z P) (hi : 0 ≤ i ∧ i < 12) : P (3 + 7 * i) (3) = 5 + 7 * i := x_Pe (hS.2.2.1.2.1 i hi).2.2.1 (by omega) (by omega)
theorem sh_oth {z i : Int} {P : Int → Int → Int} (hS : x_Sh z P) (hi : 0 ≤ i ∧ i < 12) : P (3 + 7 * i) (4) = 6 + 7 * i := x_Pe (hS.2.2.1.2.1 i hi).2.2.2.1 (by omega) (by omega)
theorem sh_dem {z i : Int} {P : Int → Int → Int} (hS : x_Sh z P) (hi : 0 ≤ i ∧ i < 12) : P (3 + 7 * i) (8) = 7 + 7 * i := x_Pe (hS.2.2.1.2.1 i hi).2.2.2.2.1 (by omega) (by omega)
theorem sh_br {z i : Int} {P : Int → Int → Int} (hS : x_Sh z P) (hi : 0 ≤ i ∧ i < 12) : P (7 + 7 * i) (1) = 8 + 7 * i := x_Pe (hS.2.2.1.2.1 i hi).2.2.2.2.2.1 (by omega) (by omega)
theorem sh_wa {z i : Int} {P : Int → Int → Int} (hS : x_Sh z P) (hi : 0 ≤ i ∧ i < 12) : P (7 + 7 * i) (2) = 9 + 7 * i := x_Pe (hS.2.2.1.2.1 i hi).2.2.2.2.2.2 (by omega) (by omega)
theorem sh_wh {z i : Int} {P : Int → Int → Int} (hS : x_Sh z P) (hi : 0 ≤ i ∧ i < 60) : P (87) (i) = 88 + i := x_Pe (hS.2.2.1.2.2.1 i hi) (by omega) (by omega)
theorem sh_ca {z i : Int} {P : Int → Int → Int} (hS : x_Sh z P) (hi : 0 ≤ i ∧ i < 3) : P (148) (i) = 149 + 2 * i := x_Pe (hS.2.2.1.2.2.2 i hi).1 (by omega) (by omega)
theorem sh_row {z i : Int} {P : Int → Int → Int} (hS : x_Sh z P) (hi : 0 ≤ i ∧ i < 3) : P (149 + 2 * i) (5) = 150 + 2 * i := x_Pe (hS.2.2.1.2.2.2 i hi).2 (by omega) (by omega)
end
section
/-! THE CLASS'S CELLS AND THE MODEL'S ROW -/
def a_up (f : Int → Int) (i v : Int) : Int → Int := fun j => if j = i then v else f j
def x_row (M : Int → Int → Int) (a : Int) (f : Int → Int) : Int → Int → Int := fun b j => if b = a then f j else M b j
def x_ct (p : Int → Prop) [DecidablePred p] : Nat → Int → Int
  | 0, _ => 0
  | n + 1, d => (if p d then 1 else 0) + x_ct p n (d + 1)
def x_fst (p : Int → Prop) [DecidablePred p] : Nat → Int → Int
  | 0, _ => -1
  | n + 1, d => if p d then d else x_fst p n (d + 1)
abbrev a_sz (k : Int) : Int := if k = 2 then 2 else 1
/-- how much of a cart's load is taken -/
def a_tkn (A : Int → Int) (c : Int) : Nat → Int
  | 0 => 0
  | n + 1 => a_tkn A c n + a_sz (A (1114 + 8 * A (1598 + 12 * c + n)))
def a_tk (A : Int → Int) (c : Int) : Int := a_tkn A c (A (1597 + 12 * c)).toNat
/-- the live part of the class's cells is what the model's row has -/
def x_RT (M : Int → Int → Int) (A : Int → Int) : Prop :=
  (M 1 1 = A 0 ∧ M 1 3 = A 1 ∧ M 1 5 = A 2 ∧ M 1 6 = A 3) ∧
  ((∀ s, 0 ≤ s ∧ s < 12 → M (3 + 7 * s) 0 = s) ∧ (∀ w, 0 ≤ w ∧ w < 60 → M (88 + w) 0 = w) ∧ ∀ c, 0 ≤ c ∧ c < 3 → M (149 + 2 * c) 0 = c) ∧
  (∀ s, 0 ≤ s ∧ s < A 0 → M (3 + 7 * s) 1 = A (10 + 80 * s) ∧ M (3 + 7 * s) 7 = A (23 + 80 * s) ∧ M (3 + 7 * s) 6 = A (24 + 80 * s) ∧ M (3 + 7 * s) 5 = A (25 + 80 * s) ∧ M (7 + 7 * s) 0 = A (34 + 80 * s)) ∧
  (∀ s d, (0 ≤ s ∧ s < A 0) → (0 ≤ d ∧ d < A (10 + 80 * s)) → M (4 + 7 * s) d = A (11 + 80 * s + d)) ∧
  (∀ s j, (0 ≤ s ∧ s < A 0) → (0 ≤ j ∧ j < 12) → M (5 + 7 * s) j = A (970 + 12 * s + j)) ∧
  (∀ s k, (0 ≤ s ∧ s < A 0) → (0 ≤ k ∧ k < A (25 + 80 * s)) → M (6 + 7 * s) k = A (26 + 80 * s + k)) ∧
  (∀ s h, (0 ≤ s ∧ s < A 0) → (0 ≤ h ∧ h < 24) → M (8 + 7 * s) h = (if A (34 + 80 * s) = 1 then A (35 + 80 * s + h) else 0) ∧ M (9 + 7 * s) h = (if A (34 + 80 * s) = 1 then A (59 + 80 * s + h) else 0)) ∧
  (∀ w, 0 ≤ w ∧ w < A 1 → M (88 + w) 1 = A (1114 + 8 * w) ∧ M (88 + w) 2 = A (1115 + 8 * w) ∧ M (88 + w) 3 = A (1116 + 8 * w) ∧ M (88 + w) 7 = x_b (0 < A (1120 + 8 * w)) ∧ M (88 + w) 8 = x_b (A (1120 + 8 * w) = 2) ∧ (A (1116 + 8 * w) ≠ 1 → M (88 + w) 4 = A (1117 + 8 * w)) ∧ (A (1116 + 8 * w) = 0 → M (88 + w) 5 = A (1118 + 8 * w)) ∧ (A (1116 + 8 * w) = 2 → M (88 + w) 9 = A (1121 + 8 * w))) ∧
  (∀ c, 0 ≤ c ∧ c < A 2 → M (149 + 2 * c) 1 = A (1594 + 12 * c) ∧ M (149 + 2 * c) 2 = A (1595 + 12 * c) ∧ M (149 + 2 * c) 4 = A (1596 + 12 * c) ∧ M (149 + 2 * c) 6 = A (1597 + 12 * c) ∧ M (149 + 2 * c) 3 = a_tk A c) ∧
  (∀ c k, (0 ≤ c ∧ c < A 2) → (0 ≤ k ∧ k < A (1597 + 12 * c)) → M (150 + 2 * c) k = A (1598 + 12 * c + k))
section
variable {M : Int → Int → Int} {A : Int → Int}
theorem rt_n (hR : x_RT M A) : M 1 1 = A 0 := hR.1.1
theorem rt_m (hR : x_RT M A) : M 1 3 = A 1 := hR.1.2.1
theorem rt_q (hR : x_RT M A) : M 1 5 = A 2 := hR.1.2.2.1
theorem rt_h (hR : x_RT M A) : M 1 6 = A 3 := hR.1.2.2.2
theorem rt_sn (hR : x_RT M A) {s : Int} (h : 0 ≤ s ∧ s < 12) : M (3 + 7 * s) 0 = s := hR.2.1.1 s h
theorem rt_wn (hR : x_RT M A) {w : Int} (h : 0 ≤ w ∧ w < 60) : M (88 + w) 0 = w := hR.2.1.2.1 w h
theorem rt_cn (hR : x_RT M A) {c : Int} (h : 0 ≤ c ∧ c < 3) : M (149 + 2 * c) 0 = c := hR.2.1.2.2 c h
theorem rt_dk (hR : x_RT M A) {s : Int} (h : 0 ≤ s ∧ s < A 0) : M (3 + 7 * s) 1 = A (10 + 80 * s) := (hR.2.2.1 s h).1
theorem rt_fl (hR : x_RT M A) {s : Int} (h : 0 ≤ s ∧ s < A 0) : M (3 + 7 * s) 7 = A (23 + 80 * s) := (hR.2.2.1 s h).2.1
theorem rt_wt (hR : x_RT M A) {s : Int} (h : 0 ≤ s ∧ s < A 0) : M (3 + 7 * s) 6 = A (24 + 80 * s) := (hR.2.2.1 s h).2.2.1
theorem rt_oc (hR : x_RT M A) {s : Int} (h : 0 ≤ s ∧ s < A 0) : M (3 + 7 * s) 5 = A (25 + 80 * s) := (hR.2.2.1 s h).2.2.2.1
theorem rt_dm (hR : x_RT M A) {s : Int} (h : 0 ≤ s ∧ s < A 0) : M (7 + 7 * s) 0 = A (34 + 80 * s) := (hR.2.2.1 s h).2.2.2.2
theorem rt_con (hR : x_RT M A) {s d : Int} (h : 0 ≤ s ∧ s < A 0) (hd : 0 ≤ d ∧ d < A (10 + 80 * s)) : M (4 + 7 * s) d = A (11 + 80 * s + d) := hR.2.2.2.1 s d h hd
theorem rt_len (hR : x_RT M A) {s j : Int} (h : 0 ≤ s ∧ s < A 0) (hd : 0 ≤ j ∧ j < 12) : M (5 + 7 * s) j = A (970 + 12 * s + j) := hR.2.2.2.2.1 s j h hd
theorem rt_oth (hR : x_RT M A) {s k : Int} (h : 0 ≤ s ∧ s < A 0) (hd : 0 ≤ k ∧ k < A (25 + 80 * s)) : M (6 + 7 * s) k = A (26 + 80 * s + k) := hR.2.2.2.2.2.1 s k h hd
theorem rt_br (hR : x_RT M A) {s j : Int} (h : 0 ≤ s ∧ s < A 0) (hd : 0 ≤ j ∧ j < 24) : M (8 + 7 * s) j = (if A (34 + 80 * s) = 1 then A (35 + 80 * s + j) else 0) := (hR.2.2.2.2.2.2.1 s j h hd).1
theorem rt_wa (hR : x_RT M A) {s j : Int} (h : 0 ≤ s ∧ s < A 0) (hd : 0 ≤ j ∧ j < 24) : M (9 + 7 * s) j = (if A (34 + 80 * s) = 1 then A (59 + 80 * s + j) else 0) := (hR.2.2.2.2.2.2.1 s j h hd).2
theorem rt_w1 (hR : x_RT M A) {w : Int} (h : 0 ≤ w ∧ w < A 1) : M (88 + w) 1 = A (1114 + 8 * w) := (hR.2.2.2.2.2.2.2.1 w h).1
theorem rt_w2 (hR : x_RT M A) {w : Int} (h : 0 ≤ w ∧ w < A 1) : M (88 + w) 2 = A (1115 + 8 * w) := (hR.2.2.2.2.2.2.2.1 w h).2.1
theorem rt_w3 (hR : x_RT M A) {w : Int} (h : 0 ≤ w ∧ w < A 1) : M (88 + w) 3 = A (1116 + 8 * w) := (hR.2.2.2.2.2.2.2.1 w h).2.2.1
theorem rt_w7 (hR : x_RT M A) {w : Int} (h : 0 ≤ w ∧ w < A 1) : M (88 + w) 7 = x_b (0 < A (1120 + 8 * w)) := (hR.2.2.2.2.2.2.2.1 w h).2.2.2.1
theorem rt_w8 (hR : x_RT M A) {w : Int} (h : 0 ≤ w ∧ w < A 1) : M (88 + w) 8 = x_b (A (1120 + 8 * w) = 2) := (hR.2.2.2.2.2.2.2.1 w h).2.2.2.2.1
theorem rt_w4 (hR : x_RT M A) {w : Int} (h : 0 ≤ w ∧ w < A 1) (hp : A (1116 + 8 * w) ≠ 1) : M (88 + w) 4 = A (1117 + 8 * w) := (hR.2.2.2.2.2.2.2.1 w h).2.2.2.2.2.1 hp
theorem rt_w5 (hR : x_RT M A) {w : Int} (h : 0 ≤ w ∧ w < A 1) (hp : A (1116 + 8 * w) = 0) : M (88 + w) 5 = A (1118 + 8 * w) := (hR.2.2.2.2.2.2.2.1 w h).2.2.2.2.2.2.1 hp
theorem rt_w9 (hR : x_RT M A) {w : Int} (h : 0 ≤ w ∧ w < A 1) (hp : A (1116 + 8 * w) = 2) : M (88 + w) 9 = A (1121 + 8 * w) := (hR.2.2.2.2.2.2.2.1 w h).2.2.2.2.2.2.2 hp
theorem rt_c1 (hR : x_RT M A) {c : Int} (h : 0 ≤ c ∧ c < A 2) : M (149 + 2 * c) 1 = A (1594 + 12 * c) := (hR.2.2.2.2.2.2.2.2.1 c h).1
theorem rt_c2 (hR : x_RT M A) {c : Int} (h : 0 ≤ c ∧ c < A 2) : M (149 + 2 * c) 2 = A (1595 + 12 * c) := (hR.2.2.2.2.2.2.2.2.1 c h).2.1
theorem rt_c4 (hR : x_RT M A) {c : Int} (h : 0 ≤ c ∧ c < A 2) : M (149 + 2 * c) 4 = A (1596 + 12 * c) := (hR.2.2.2.2.2.2.2.2.1 c h).2.2.1
theorem rt_c6 (hR : x_RT M A) {c : Int} (h : 0 ≤ c ∧ c < A 2) : M (149 + 2 * c) 6 = A (1597 + 12 * c) := (hR.2.2.2.2.2.2.2.2.1 c h).2.2.2.1
theorem rt_c3 (hR : x_RT M A) {c : Int} (h : 0 ≤ c ∧ c < A 2) : M (149 + 2 * c) 3 = a_tk A c := (hR.2.2.2.2.2.2.2.2.1 c h).2.2.2.2
theorem rt_row (hR : x_RT M A) {c k : Int} (h : 0 ≤ c ∧ c < A 2) (hd : 0 ≤ k ∧ k < A (1597 + 12 * c)) : M (150 + 2 * c) k = A (1598 + 12 * c + k) := hR.2.2.2.2.2.2.2.2.2 c k h hd
end
/-- what holds of the model's row alone -/
def x_IA (A : Int → Int) : Prop :=
  ((0 ≤ A 0 ∧ A 0 ≤ 12) ∧ (0 ≤ A 1 ∧ A 1 ≤ 60) ∧ (0 ≤ A 2 ∧ A 2 ≤ 3) ∧ (0 ≤ A 3 ∧ A 3 < 24)) ∧
  (∀ s, 0 ≤ s ∧ s < A 0 → (2 ≤ A (10 + 80 * s) ∧ A (10 + 80 * s) ≤ 12) ∧ (-1 ≤ A (24 + 80 * s) ∧ A (24 + 80 * s) ≤ 12) ∧ (-1 ≤ A (25 + 80 * s) ∧ A (25 + 80 * s) ≤ 8) ∧ (A (34 + 80 * s) = 0 ∨ A (34 + 80 * s) = 1)) ∧
  (∀ s, A 0 ≤ s ∧ s < 12 → A (23 + 80 * s) = 0 ∧ A (34 + 80 * s) = 0) ∧
  (∀ s d, (0 ≤ s ∧ s < A 0) → (0 ≤ d ∧ d < A (10 + 80 * s)) → -2 ≤ A (11 + 80 * s + d) ∧ A (11 + 80 * s + d) < A 1) ∧
  (∀ s j, (0 ≤ s ∧ s < 12) → (0 ≤ j ∧ j < 12) → (0 ≤ A (970 + 12 * s + j) ∧ A (970 + 12 * s + j) ≤ 999) ∧ (s = j → A (970 + 12 * s + j) = 0) ∧ (s ≠ j → A 0 ≤ s ∨ A 0 ≤ j → A (970 + 12 * s + j) = 999)) ∧
  (∀ s k, (0 ≤ s ∧ s < A 0) → (0 ≤ k ∧ k < A (25 + 80 * s)) → 0 ≤ A (26 + 80 * s + k) ∧ A (26 + 80 * s + k) < A 0) ∧
  (∀ s h, (0 ≤ s ∧ s < A 0) → (0 ≤ h ∧ h < 24) → A (34 + 80 * s) = 1 → (0 ≤ A (35 + 80 * s + h) ∧ A (35 + 80 * s + h) ≤ 99) ∧ (0 ≤ A (59 + 80 * s + h) ∧ A (59 + 80 * s + h) ≤ 99)) ∧
  (∀ w, 0 ≤ w ∧ w < A 1 → (0 ≤ A (1114 + 8 * w) ∧ A (1114 + 8 * w) ≤ 3) ∧ (0 ≤ A (1115 + 8 * w) ∧ A (1115 + 8 * w) ≤ 1000) ∧ (0 ≤ A (1116 + 8 * w) ∧ A (1116 + 8 * w) ≤ 3) ∧ (0 ≤ A (1120 + 8 * w) ∧ A (1120 + 8 * w) ≤ 2) ∧ (A (1116 + 8 * w) ≠ 1 → 0 ≤ A (1117 + 8 * w) ∧ A (1117 + 8 * w) < A 0) ∧ (A (1116 + 8 * w) = 0 → 0 ≤ A (1118 + 8 * w) ∧ A (1118 + 8 * w) + a_sz (A (1114 + 8 * w)) ≤ A (10 + 80 * A (1117 + 8 * w)))) ∧
  (∀ s d, (0 ≤ s ∧ s < A 0) → (0 ≤ d ∧ d < A (10 + 80 * s)) → 0 ≤ A (11 + 80 * s + d) → A (1116 + 8 * A (11 + 80 * s + d)) = 0 ∧ A (1117 + 8 * A (11 + 80 * s + d)) = s ∧ (A (1118 + 8 * A (11 + 80 * s + d)) = d ∨ (A (1114 + 8 * A (11 + 80 * s + d)) = 2 ∧ A (1118 + 8 * A (11 + 80 * s + d)) + 1 = d))) ∧
  (∀ w, (0 ≤ w ∧ w < A 1) → A (1116 + 8 * w) = 2 → -1 ≤ A (1121 + 8 * w) ∧ (A (1114 + 8 * w) = 3 → 0 ≤ A (1121 + 8 * w)) ∧ (0 ≤ A (1121 + 8 * w) → A (1121 + 8 * w) < A 1 ∧ A (1116 + 8 * A (1121 + 8 * w)) = 2 ∧ A (1121 + 8 * A (1121 + 8 * w)) = w ∧ (A (1114 + 8 * w) = 3 ↔ A (1114 + 8 * A (1121 + 8 * w)) ≠ 3))) ∧
  (∀ c, 0 ≤ c ∧ c < A 2 → (1 ≤ A (1594 + 12 * c) ∧ A (1594 + 12 * c) ≤ 8) ∧ (0 ≤ A (1595 + 12 * c) ∧ A (1595 + 12 * c) < A 0) ∧ (0 ≤ A (1597 + 12 * c)) ∧ a_tk A c ≤ A (1594 + 12 * c)) ∧
  (∀ c k, (0 ≤ c ∧ c < A 2) → (0 ≤ k ∧ k < A (1597 + 12 * c)) → (0 ≤ A (1598 + 12 * c + k) ∧ A (1598 + 12 * c + k) < A 1) ∧ A (1116 + 8 * A (1598 + 12 * c + k)) = 1 ∧ A (1117 + 8 * A (1598 + 12 * c + k)) = c) ∧
  (∀ c k j, (0 ≤ c ∧ c < A 2) → (0 ≤ k ∧ k < A (1597 + 12 * c)) → (0 ≤ j ∧ j < A (1597 + 12 * c)) → A (1598 + 12 * c + k) = A (1598 + 12 * c + j) → k = j)
section
variable {A : Int → Int}
theorem ia_n (hI : x_IA A) : 0 ≤ A 0 ∧ A 0 ≤ 12 := hI.1.1
theorem ia_m (hI : x_IA A) : 0 ≤ A 1 ∧ A 1 ≤ 60 := hI.1.2.1
theorem ia_q (hI : x_IA A) : 0 ≤ A 2 ∧ A 2 ≤ 3 := hI.1.2.2.1
theorem ia_h (hI : x_IA A) : 0 ≤ A 3 ∧ A 3 < 24 := hI.1.2.2.2
theorem ia_dk (hI : x_IA A) {s : Int} (h : 0 ≤ s ∧ s < A 0) : 2 ≤ A (10 + 80 * s) ∧ A (10 + 80 * s) ≤ 12 := (hI.2.1 s h).1
theorem ia_wt (hI : x_IA A) {s : Int} (h : 0 ≤ s ∧ s < A 0) : -1 ≤ A (24 + 80 * s) ∧ A (24 + 80 * s) ≤ 12 := (hI.2.1 s h).2.1
theorem ia_oc (hI : x_IA A) {s : Int} (h : 0 ≤ s ∧ s < A 0) : -1 ≤ A (25 + 80 * s) ∧ A (25 + 80 * s) ≤ 8 := (hI.2.1 s h).2.2.1
theorem ia_dm (hI : x_IA A) {s : Int} (h : 0 ≤ s ∧ s < A 0) : A (34 + 80 * s) = 0 ∨ A (34 + 80 * s) = 1 := (hI.2.1 s h).2.2.2
theorem ia_new (hI : x_IA A) {s : Int} (h : A 0 ≤ s ∧ s < 12) : A (23 + 80 * s) = 0 ∧ A (34 + 80 * s) = 0 := hI.2.2.1 s h
theorem ia_con (hI : x_IA A) {s d : Int} (h : 0 ≤ s ∧ s < A 0) (hd : 0 ≤ d ∧ d < A (10 + 80 * s)) : -2 ≤ A (11 + 80 * s + d) ∧ A (11 + 80 * s + d) < A 1 := hI.2.2.2.1 s d h hd
theorem ia_len (hI : x_IA A) {s j : Int} (h : 0 ≤ s ∧ s < 12) (hd : 0 ≤ j ∧ j < 12) : (0 ≤ A (970 + 12 * s + j) ∧ A (970 + 12 * s + j) ≤ 999) ∧ (s = j → A (970 + 12 * s + j) = 0) ∧ (s ≠ j → A 0 ≤ s ∨ A 0 ≤ j → A (970 + 12 * s + j) = 999) := hI.2.2.2.2.1 s j h hd
theorem ia_oth (hI : x_IA A) {s k : Int} (h : 0 ≤ s ∧ s < A 0) (hd : 0 ≤ k ∧ k < A (25 + 80 * s)) : 0 ≤ A (26 + 80 * s + k) ∧ A (26 + 80 * s + k) < A 0 := hI.2.2.2.2.2.1 s k h hd
theorem ia_dem (hI : x_IA A) {s j : Int} (h : 0 ≤ s ∧ s < A 0) (hd : 0 ≤ j ∧ j < 24) (he : A (34 + 80 * s) = 1) : (0 ≤ A (35 + 80 * s + j) ∧ A (35 + 80 * s + j) ≤ 99) ∧ (0 ≤ A (59 + 80 * s + j) ∧ A (59 + 80 * s + j) ≤ 99) := hI.2.2.2.2.2.2.1 s j h hd he
theorem ia_w (hI : x_IA A) {w : Int} (h : 0 ≤ w ∧ w < A 1) : (0 ≤ A (1114 + 8 * w) ∧ A (1114 + 8 * w) ≤ 3) ∧ (0 ≤ A (1115 + 8 * w) ∧ A (1115 + 8 * w) ≤ 1000) ∧ (0 ≤ A (1116 + 8 * w) ∧ A (1116 + 8 * w) ≤ 3) ∧ (0 ≤ A (1120 + 8 * w) ∧ A (1120 + 8 * w) ≤ 2) ∧ (A (1116 + 8 * w) ≠ 1 → 0 ≤ A (1117 + 8 * w) ∧ A (1117 + 8 * w) < A 0) ∧ (A (1116 + 8 * w) = 0 → 0 ≤ A (1118 + 8 * w) ∧ A (1118 + 8 * w) + a_sz (A (1114 + 8 * w)) ≤ A (10 + 80 * A (1117 + 8 * w))) := hI.2.2.2.2.2.2.2.1 w h
theorem ia_in (hI : x_IA A) {s d : Int} (h : 0 ≤ s ∧ s < A 0) (hd : 0 ≤ d ∧ d < A (10 + 80 * s)) (hw : 0 ≤ A (11 + 80 * s + d)) : A (1116 + 8 * A (11 + 80 * s + d)) = 0 ∧ A (1117 + 8 * A (11 + 80 * s + d)) = s ∧ (A (1118 + 8 * A (11 + 80 * s + d)) = d ∨ (A (1114 + 8 * A (11 + 80 * s + d)) = 2 ∧ A (1118 + 8 * A (11 + 80 * s + d)) + 1 = d)) := hI.2.2.2.2.2.2.2.2.1 s d h hd hw
theorem ia_pt (hI : x_IA A) {w : Int} (h : 0 ≤ w ∧ w < A 1) (hp : A (1116 + 8 * w) = 2) : -1 ≤ A (1121 + 8 * w) ∧ (A (1114 + 8 * w) = 3 → 0 ≤ A (1121 + 8 * w)) ∧ (0 ≤ A (1121 + 8 * w) → A (1121 + 8 * w) < A 1 ∧ A (1116 + 8 * A (1121 + 8 * w)) = 2 ∧ A (1121 + 8 * A (1121 + 8 * w)) = w ∧ (A (1114 + 8 * w) = 3 ↔ A (1114 + 8 * A (1121 + 8 * w)) ≠ 3)) := hI.2.2.2.2.2.2.2.2.2.1 w h hp
theorem ia_c (hI : x_IA A) {c : Int} (h : 0 ≤ c ∧ c < A 2) : (1 ≤ A (1594 + 12 * c) ∧ A (1594 + 12 * c) ≤ 8) ∧ (0 ≤ A (1595 + 12 * c) ∧ A (1595 + 12 * c) < A 0) ∧ 0 ≤ A (1597 + 12 * c) ∧ a_tk A c ≤ A (1594 + 12 * c) := hI.2.2.2.2.2.2.2.2.2.2.1 c h
theorem ia_row (hI : x_IA A) {c k : Int} (h : 0 ≤ c ∧ c < A 2) (hd : 0 ≤ k ∧ k < A (1597 + 12 * c)) : (0 ≤ A (1598 + 12 * c + k) ∧ A (1598 + 12 * c + k) < A 1) ∧ A (1116 + 8 * A (1598 + 12 * c + k)) = 1 ∧ A (1117 + 8 * A (1598 + 12 * c + k)) = c := hI.2.2.2.2.2.2.2.2.2.2.2.1 c k h hd
theorem ia_ap (hI : x_IA A) {c k j : Int} (h : 0 ≤ c ∧ c < A 2) (hk : 0 ≤ k ∧ k < A (1597 + 12 * c)) (hj : 0 ≤ j ∧ j < A (1597 + 12 * c)) (e : A (1598 + 12 * c + k) = A (1598 + 12 * c + j)) : k = j := hI.2.2.2.2.2.2.2.2.2.2.2.2 c k j h hk hj e
theorem a_tkn_le {A : Int → Int} {c : Int} (n : Nat) : (n : Int) ≤ a_tkn A c n := by
  induction n with
  | zero => exact Int.le_refl _
  | succ n ih =>
    show ((n + 1 : Nat) : Int) ≤ a_tkn A c n + (if _ then 2 else 1)
    split <;> omega
theorem ia_cnt (hI : x_IA A) {c : Int} (h : 0 ≤ c ∧ c < A 2) : A (1597 + 12 * c) ≤ a_tk A c := by
  have h1 := a_tkn_le (A := A) (c := c) (A (1597 + 12 * c)).toNat
  have h2 := (ia_c hI h).2.2.1
  unfold a_tk
  omega
theorem a_up_s {f : Int → Int} {i v : Int} : a_up f i v i = v := if_pos rfl
theorem a_up_n {f : Int → Int} {i j v : Int} (h : j ≠ i) : a_up f i v j = f j := if_neg h
end
end
section
/-! small rows for the walks; the model's small methods -/
theorem x_wn {x w : Int} (h : x = w ∧ -2147483648 ≤ w ∧ w < 2147483648) : x_w x = w := by rw [h.1]; exact x_w_eq h.2
theorem x_wr {x w : Int} (h : x = w) : x_w x = x_w w := by rw [h]
theorem x_row_up {M : Int → Int → Int} {a b k v : Int} {f : Int → Int} (h : a ≠ b) : x_up (x_row M b f) a k v = x_row (x_up M a k v) b f := by
  funext q j
  unfold x_up x_row
  by_cases h1 : q = a ∧ j = k
  · obtain ⟨rfl, rfl⟩ := h1
    simp [h]
  · by_cases h2 : q = b
    · simp [h2, h1]
      intro h3 h4
      exact absurd h3.symm h
    · simp [h2, h1]
theorem x_row_in {M : Int → Int → Int} {b k v : Int} {f : Int → Int} : x_up (x_row M b f) b k v = x_row M b (a_up f k v) := by
  funext q j
  unfold x_up x_row a_up
  by_cases h2 : q = b
  · subst h2; simp
  · simp [h2]
theorem e_iastA {y k : Nat} {ls st : List xV} {b : xB} {r : Option xV × xH → Prop} {a : Int} {t u pc : Nat} {z j w : Int} {P M : Int → Int → Int} {A : Int → Int} (hi : x_in y k = (29, a, t, u, pc)) (hS : x_Sh z P) (hj : 0 ≤ j ∧ j < 8200) (kk : x_Ev y (k + 1) ls st b (z, P, x_row M 163 (a_up A j w)) r) : x_Ev y k ls (.inl w :: .inl j :: .inr 163 :: st) b (z, P, x_row M 163 A) r := by
  refine e_iast hi (ok_all hS) (by rw [ln_all]; exact hj) ?_
  rw [x_row_in]
  exact kk
theorem x_bT {c : Prop} [Decidable c] {h : xH} (hc : c) : ((some (.inl 1), h) : Option xV × xH) = (some (.inl (x_b c)), h) := by
  unfold x_b
  rw [if_pos hc]
theorem x_bF {c : Prop} [Decidable c] {h : xH} (hc : ¬ c) : ((some (.inl 0), h) : Option xV × xH) = (some (.inl (x_b c)), h) := by
  unfold x_b
  rw [if_neg hc]
theorem x_vE {v w : Int} {h : xH} (e : v = w) : ((some (.inl v), h) : Option xV × xH) = (some (.inl w), h) := by rw [e]
theorem x_cv {t : Nat} {as : List xV} {h h' : xH} {v w : Int} (e : v = w) : x_Call t as h (some (.inl v)) h' ↔ x_Call t as h (some (.inl w)) h' := by rw [e]
theorem x_cvT {t : Nat} {as : List xV} {h h' : xH} {v w : Int} (c : x_Call t as h (some (.inl v)) h') (e : v = w) : x_Call t as h (some (.inl w)) h' := e ▸ c
theorem m_isIn {z : Int} {P M : Int → Int → Int} (v n : Int) : x_Call 113 [.inl (v), .inl (n)] (z, P, M) (some (.inl (x_b (0 ≤ v ∧ v < n)))) (z, P, M) := by
  refine e_body (ls0 := [.inl (v), .inl (n)]) xm113 rfl ?_
  refine e_iload (k := 0) (xi113 0) rfl ?_
  refine e_z_lt (k := 1) (xi113 1) (fun c0 => ?_) (fun c0 => ?_)
  · skip
    refine e_iconst (k := 7) (xi113 7) ?_
    refine e_zret (k := 8) (xi113 8) (by decide) ?_
    exact x_bF (by omega)
  · skip
    refine e_iload (k := 2) (xi113 2) rfl ?_
    refine e_iload (k := 3) (xi113 3) rfl ?_
    refine e_c_ge (k := 4) (xi113 4) (fun c1 => ?_) (fun c1 => ?_)
    · skip
      refine e_iconst (k := 7) (xi113 7) ?_
      refine e_zret (k := 8) (xi113 8) (by decide) ?_
      exact x_bF (by omega)
    · skip
      refine e_iconst (k := 5) (xi113 5) ?_
      refine e_goto (k := 6) (xi113 6) ?_
      refine e_zret (k := 8) (xi113 8) (by decide) ?_
      exact x_bT (by omega)
theorem m_isStand {z : Int} {P M : Int → Int → Int} {A : Int → Int} (hS : x_Sh z P) (v : Int) : x_Call 114 [.inr 162, .inl (v)] (z, P, (x_row M 163 A)) (some (.inl (x_b (0 ≤ v ∧ v < A 0)))) (z, P, (x_row M 163 A)) := by
  refine e_body (ls0 := [.inr 162, .inl (v)]) xm114 rfl ?_
  refine e_iload (k := 0) (xi114 0) rfl ?_
  refine e_aload (k := 1) (xi114 1) rfl (by decide) ?_
  refine e_getR (j := 0) (w := 163) (k := 2) (xi114 2) (ok_mo hS) rfl (sh_all hS) ?_
  refine e_iconst (k := 3) (xi114 3) ?_
  refine e_iald (w := A 0) (k := 4) (xi114 4) (ok_all hS) (by rw [ln_all]; omega) (((if_pos rfl).trans rfl)) ?_
  refine e_call (k := 5) (v := some (.inl (x_b (0 ≤ v ∧ v < A 0)))) (h1 := (z, P, (x_row M 163 A))) (c1 := 0) (c2 := 0) (rest := []) (as := [.inl (v), .inl (A 0)]) (xi114 5) (by decide) xm113 rfl ⟨rfl, Nat.le_of_ble_eq_true rfl, by decide⟩ (Or.inl rfl) (m_isIn v (A 0)) ?_
  refine e_zret (k := 6) (xi114 6) (x_b01) ?_
  rfl
theorem m_isWheel {z : Int} {P M : Int → Int → Int} {A : Int → Int} (hS : x_Sh z P) (v : Int) : x_Call 115 [.inr 162, .inl (v)] (z, P, (x_row M 163 A)) (some (.inl (x_b (0 ≤ v ∧ v < A 1)))) (z, P, (x_row M 163 A)) := by
  refine e_body (ls0 := [.inr 162, .inl (v)]) xm115 rfl ?_
  refine e_iload (k := 0) (xi115 0) rfl ?_
  refine e_aload (k := 1) (xi115 1) rfl (by decide) ?_
  refine e_getR (j := 0) (w := 163) (k := 2) (xi115 2) (ok_mo hS) rfl (sh_all hS) ?_
  refine e_iconst (k := 3) (xi115 3) ?_
  refine e_iald (w := A 1) (k := 4) (xi115 4) (ok_all hS) (by rw [ln_all]; omega) (((if_pos rfl).trans rfl)) ?_
  refine e_call (k := 5) (v := some (.inl (x_b (0 ≤ v ∧ v < A 1)))) (h1 := (z, P, (x_row M 163 A))) (c1 := 0) (c2 := 0) (rest := []) (as := [.inl (v), .inl (A 1)]) (xi115 5) (by decide) xm113 rfl ⟨rfl, Nat.le_of_ble_eq_true rfl, by decide⟩ (Or.inl rfl) (m_isIn v (A 1)) ?_
  refine e_zret (k := 6) (xi115 6) (x_b01) ?_
  rfl
theorem m_isCart {z : Int} {P M : Int → Int → Int} {A : Int → Int} (hS : x_Sh z P) (v : Int) : x_Call 116 [.inr 162, .inl (v)] (z, P, (x_row M 163 A)) (some (.inl (x_b (0 ≤ v ∧ v < A 2)))) (z, P, (x_row M 163 A)) := by
  refine e_body (ls0 := [.inr 162, .inl (v)]) xm116 rfl ?_
  refine e_iload (k := 0) (xi116 0) rfl ?_
  refine e_aload (k := 1) (xi116 1) rfl (by decide) ?_
  refine e_getR (j := 0) (w := 163) (k := 2) (xi116 2) (ok_mo hS) rfl (sh_all hS) ?_
  refine e_iconst (k := 3) (xi116 3) ?_
  refine e_iald (w := A 2) (k := 4) (xi116 4) (ok_all hS) (by rw [ln_all]; omega) (((if_pos rfl).trans rfl)) ?_
  refine e_call (k := 5) (v := some (.inl (x_b (0 ≤ v ∧ v < A 2)))) (h1 := (z, P, (x_row M 163 A))) (c1 := 0) (c2 := 0) (rest := []) (as := [.inl (v), .inl (A 2)]) (xi116 5) (by decide) xm113 rfl ⟨rfl, Nat.le_of_ble_eq_true rfl, by decide⟩ (Or.inl rfl) (m_isIn v (A 2)) ?_
  refine e_zret (k := 6) (xi116 6) (x_b01) ?_
  rfl
theorem m_standAt {z : Int} {P M : Int → Int → Int} {A : Int → Int} (hS : x_Sh z P) {s : Int} (hs : 0 ≤ s ∧ s < 12) : x_Call 117 [.inr 162, .inl (s)] (z, P, (x_row M 163 A)) (some (.inl (10 + 80 * s))) (z, P, (x_row M 163 A)) := by
  refine e_body (ls0 := [.inr 162, .inl (s)]) xm117 rfl ?_
  refine e_iconst (k := 0) (xi117 0) ?_
  refine e_iconst (k := 1) (xi117 1) ?_
  refine e_iload (k := 2) (xi117 2) rfl ?_
  refine e_imul (w := 80 * s) (k := 3) (xi117 3) (x_wn (by omega)) ?_
  refine e_iadd (w := 10 + 80 * s) (k := 4) (xi117 4) (x_wn (by omega)) ?_
  refine e_iret (k := 5) (xi117 5) ?_
  rfl
theorem m_wagonAt {z : Int} {P M : Int → Int → Int} {A : Int → Int} (hS : x_Sh z P) {s : Int} (hs : 0 ≤ s ∧ s < 4) : x_Call 156 [.inr 162, .inl (s)] (z, P, (x_row M 163 A)) (some (.inl (1594 + 12 * s))) (z, P, (x_row M 163 A)) := by
  refine e_body (ls0 := [.inr 162, .inl (s)]) xm156 rfl ?_
  refine e_iconst (k := 0) (xi156 0) ?_
  refine e_iconst (k := 1) (xi156 1) ?_
  refine e_iload (k := 2) (xi156 2) rfl ?_
  refine e_imul (w := 12 * s) (k := 3) (xi156 3) (x_wn (by omega)) ?_
  refine e_iadd (w := 1594 + 12 * s) (k := 4) (xi156 4) (x_wn (by omega)) ?_
  refine e_iret (k := 5) (xi156 5) ?_
  rfl
theorem m_docks {z : Int} {P M : Int → Int → Int} {A : Int → Int} (hS : x_Sh z P) {s : Int} (hs : 0 ≤ s ∧ s < 12) : x_Call 118 [.inr 162, .inl (s)] (z, P, (x_row M 163 A)) (some (.inl (A (10 + 80 * s)))) (z, P, (x_row M 163 A)) := by
  refine e_body (ls0 := [.inr 162, .inl (s)]) xm118 rfl ?_
  refine e_aload (k := 0) (xi118 0) rfl (by decide) ?_
  refine e_getR (j := 0) (w := 163) (k := 1) (xi118 1) (ok_mo hS) rfl (sh_all hS) ?_
  refine e_aload (k := 2) (xi118 2) rfl (by decide) ?_
  refine e_iload (k := 3) (xi118 3) rfl ?_
  refine e_call (k := 4) (v := some (.inl (10 + 80 * s))) (h1 := (z, P, (x_row M 163 A))) (c1 := 0) (c2 := 0) (rest := [.inr 163]) (as := [.inr 162, .inl (s)]) (xi118 4) (by decide) xm117 rfl ⟨rfl, Nat.le_of_ble_eq_true rfl, by decide⟩ (Or.inr (x_okt (ok_mo hS))) (m_standAt hS (s := s) (by omega) (M := M) (A := A)) ?_
  refine e_iald (w := A (10 + 80 * s)) (k := 5) (xi118 5) (ok_all hS) (by rw [ln_all]; omega) (((if_pos rfl).trans rfl)) ?_
  refine e_iret (k := 6) (xi118 6) ?_
  rfl
theorem m_dockAt {z : Int} {P M : Int → Int → Int} {A : Int → Int} (hS : x_Sh z P) {s d : Int} (hs : 0 ≤ s ∧ s < 12) (hd : -100 ≤ d ∧ d < 100) : x_Call 119 [.inr 162, .inl (s), .inl (d)] (z, P, (x_row M 163 A)) (some (.inl (11 + 80 * s + d))) (z, P, (x_row M 163 A)) := by
  refine e_body (ls0 := [.inr 162, .inl (s), .inl (d)]) xm119 rfl ?_
  refine e_aload (k := 0) (xi119 0) rfl (by decide) ?_
  refine e_iload (k := 1) (xi119 1) rfl ?_
  refine e_call (k := 2) (v := some (.inl (10 + 80 * s))) (h1 := (z, P, (x_row M 163 A))) (c1 := 0) (c2 := 0) (rest := []) (as := [.inr 162, .inl (s)]) (xi119 2) (by decide) xm117 rfl ⟨rfl, Nat.le_of_ble_eq_true rfl, by decide⟩ (Or.inr (x_okt (ok_mo hS))) (m_standAt hS (s := s) (by omega) (M := M) (A := A)) ?_
  refine e_iconst (k := 3) (xi119 3) ?_
  refine e_iadd (w := 11 + 80 * s) (k := 4) (xi119 4) (x_wn (by omega)) ?_
  refine e_iload (k := 5) (xi119 5) rfl ?_
  refine e_iadd (w := 11 + 80 * s + d) (k := 6) (xi119 6) (x_wn (by omega)) ?_
  refine e_iret (k := 7) (xi119 7) ?_
  rfl
theorem m_far {z : Int} {P M : Int → Int → Int} {A : Int → Int} (hS : x_Sh z P) {s t i : Int} (hs : 0 ≤ s ∧ s < 12) (ht : 0 ≤ t ∧ t < 12) (hi : 970 + 12 * s + t = i) : x_Call 120 [.inr 162, .inl (s), .inl (t)] (z, P, (x_row M 163 A)) (some (.inl (A i))) (z, P, (x_row M 163 A)) := by
  subst hi
  refine e_body (ls0 := [.inr 162, .inl (s), .inl (t)]) xm120 rfl ?_
  refine e_aload (k := 0) (xi120 0) rfl (by decide) ?_
  refine e_getR (j := 0) (w := 163) (k := 1) (xi120 1) (ok_mo hS) rfl (sh_all hS) ?_
  refine e_iconst (k := 2) (xi120 2) ?_
  refine e_iconst (k := 3) (xi120 3) ?_
  refine e_iload (k := 4) (xi120 4) rfl ?_
  refine e_imul (w := 12 * s) (k := 5) (xi120 5) (x_wn (by omega)) ?_
  refine e_iadd (w := 970 + 12 * s) (k := 6) (xi120 6) (x_wn (by omega)) ?_
  refine e_iload (k := 7) (xi120 7) rfl ?_
  refine e_iadd (w := 970 + 12 * s + t) (k := 8) (xi120 8) (x_wn (by omega)) ?_
  refine e_iald (w := A (970 + 12 * s + t)) (k := 9) (xi120 9) (ok_all hS) (by rw [ln_all]; omega) (((if_pos rfl).trans rfl)) ?_
  refine e_iret (k := 10) (xi120 10) ?_
  rfl
theorem m_of {z : Int} {P M : Int → Int → Int} {A : Int → Int} (hS : x_Sh z P) {w j i : Int} (hw : 0 ≤ w ∧ w < 60) (hj : 0 ≤ j ∧ j < 8) (hi : 1114 + 8 * w + j = i) : x_Call 129 [.inr 162, .inl (w), .inl (j)] (z, P, (x_row M 163 A)) (some (.inl (A i))) (z, P, (x_row M 163 A)) := by
  subst hi
  refine e_body (ls0 := [.inr 162, .inl (w), .inl (j)]) xm129 rfl ?_
  refine e_aload (k := 0) (xi129 0) rfl (by decide) ?_
  refine e_getR (j := 0) (w := 163) (k := 1) (xi129 1) (ok_mo hS) rfl (sh_all hS) ?_
  refine e_iconst (k := 2) (xi129 2) ?_
  refine e_iconst (k := 3) (xi129 3) ?_
  refine e_iload (k := 4) (xi129 4) rfl ?_
  refine e_imul (w := 8 * w) (k := 5) (xi129 5) (x_wn (by omega)) ?_
  refine e_iadd (w := 1114 + 8 * w) (k := 6) (xi129 6) (x_wn (by omega)) ?_
  refine e_iload (k := 7) (xi129 7) rfl ?_
  refine e_iadd (w := 1114 + 8 * w + j) (k := 8) (xi129 8) (x_wn (by omega)) ?_
  refine e_iald (w := A (1114 + 8 * w + j)) (k := 9) (xi129 9) (ok_all hS) (by rw [ln_all]; omega) (((if_pos rfl).trans rfl)) ?_
  refine e_iret (k := 10) (xi129 10) ?_
  rfl
theorem m_sets {z : Int} {P M : Int → Int → Int} {A : Int → Int} (hS : x_Sh z P) {w j i v : Int} (hw : 0 ≤ w ∧ w < 60) (hj : 0 ≤ j ∧ j < 8) (hi : 1114 + 8 * w + j = i) : x_Call 130 [.inr 162, .inl (w), .inl (j), .inl (v)] (z, P, (x_row M 163 A)) none (z, P, (x_row M 163 (a_up A i v))) := by
  subst hi
  refine e_body (ls0 := [.inr 162, .inl (w), .inl (j), .inl (v)]) xm130 rfl ?_
  refine e_aload (k := 0) (xi130 0) rfl (by decide) ?_
  refine e_getR (j := 0) (w := 163) (k := 1) (xi130 1) (ok_mo hS) rfl (sh_all hS) ?_
  refine e_iconst (k := 2) (xi130 2) ?_
  refine e_iconst (k := 3) (xi130 3) ?_
  refine e_iload (k := 4) (xi130 4) rfl ?_
  refine e_imul (w := 8 * w) (k := 5) (xi130 5) (x_wn (by omega)) ?_
  refine e_iadd (w := 1114 + 8 * w) (k := 6) (xi130 6) (x_wn (by omega)) ?_
  refine e_iload (k := 7) (xi130 7) rfl ?_
  refine e_iadd (w := 1114 + 8 * w + j) (k := 8) (xi130 8) (x_wn (by omega)) ?_
  refine e_iload (k := 9) (xi130 9) rfl ?_
  refine e_iastA (k := 10) (xi130 10) hS (by omega) ?_
  refine e_vret (k := 11) (xi130 11) ?_
  rfl
end
section
/-! CONSTRUCTORS -/
theorem x_clr_self {f : Int → Int → Int} {a v j : Int} : x_clr f a v a j = v := if_pos rfl
theorem c_dem {z a : Int} {P M : Int → Int → Int} (ha : 0 ≤ a ∧ a < z ∧ x_kd a = 1) (hz : x_kd z = 8 ∧ x_ln z = 24) (h1 : x_kd (1 + z) = 8 ∧ x_ln (1 + z) = 24) : x_CallR 7 [.inr (a)] (z, P, M) (fun q => ∃ P1 M1, q = (none, (2 + z, P1, M1)) ∧ (∀ b j, b < z → b ≠ a → P1 b j = P b j) ∧ (∀ b j, b < z → M1 b j = M b j) ∧ P1 a 1 = z ∧ P1 a 2 = 1 + z) := by
  refine e_body (ls0 := [.inr (a)]) xm7 rfl ?_
  refine e_aload (k := 0) (xi7 0) rfl (by omega) ?_
  refine e_oinit (k := 1) (xi7 1) ⟨by omega, by omega, Nat.le_of_ble_eq_true rfl⟩ ?_
  refine e_aload (k := 2) (xi7 2) rfl (by omega) ?_
  refine e_iconst (k := 3) (xi7 3) ?_
  refine e_newI (b1 := 1) (b2 := 24) (u0 := 24)  (k := 4) (xi7 4) ⟨hz.1, hz.2, by omega, by omega⟩ rfl ?_
  show x_Ev 7 5 [.inr (a)] [.inr (z), .inr (a)] (1, 24) (z + 1, (x_clr P z (-1)), (x_clr M z 0)) _
  rw [show (z + 1 : Int) = 1 + z by omega]
  refine e_putR (j := 1) (k := 5) (xi7 5) ⟨by omega, by omega, ha.2.2⟩ rfl (by omega) ?_
  refine e_aload (k := 6) (xi7 6) rfl (by omega) ?_
  refine e_iconst (k := 7) (xi7 7) ?_
  refine e_newI (b1 := 0) (b2 := 0) (u0 := 24)  (k := 8) (xi7 8) ⟨h1.1, h1.2, by omega, by omega⟩ rfl ?_
  show x_Ev 7 9 [.inr (a)] [.inr (1 + z), .inr (a)] (0, 0) (1 + z + 1, (x_clr (x_up (x_clr P z (-1)) a 1 z) (1 + z) (-1)), (x_clr (x_clr M z 0) (1 + z) 0)) _
  rw [show (1 + z + 1 : Int) = 2 + z by omega]
  refine e_putR (j := 2) (k := 9) (xi7 9) ⟨by omega, by omega, ha.2.2⟩ rfl (by omega) ?_
  refine e_vret (k := 10) (xi7 10) ?_
  refine ⟨(x_up (x_clr (x_up (x_clr P z (-1)) a 1 z) (1 + z) (-1)) a 2 (1 + z)), (x_clr (x_clr M z 0) (1 + z) 0), rfl, ?_, ?_, ?_, ?_⟩
  · intro b j h1 h2; rw [x_up_ne (by omega), x_clr_ne (by omega), x_up_ne (by omega), x_clr_ne (by omega)]
  · intro b j h1; rw [x_clr_ne (by omega), x_clr_ne (by omega)]
  · rw [x_up_nk (by omega), x_clr_ne (by omega), x_up_self]
  · rw [x_up_self]
theorem c_stand {z a n : Int} {P M : Int → Int → Int} (ha : 0 ≤ a ∧ a < z ∧ x_kd a = 2) (hz : x_kd z = 8 ∧ x_ln z = 12) (h1 : x_kd (1 + z) = 8 ∧ x_ln (1 + z) = 12) (h2 : x_kd (2 + z) = 8 ∧ x_ln (2 + z) = 8) (h3 : x_kd (3 + z) = 1) (h4 : x_kd (4 + z) = 8 ∧ x_ln (4 + z) = 24) (h5 : x_kd (1 + (4 + z)) = 8 ∧ x_ln (1 + (4 + z)) = 24) : x_CallR 14 [.inr (a), .inl (n)] (z, P, M) (fun q => ∃ P1 M1, q = (none, (6 + z, P1, M1)) ∧ (∀ b j, b < z → b ≠ a → P1 b j = P b j) ∧ (∀ b j, b < z → b ≠ a → M1 b j = M b j) ∧ P1 a 2 = z ∧ P1 a 3 = 1 + z ∧ P1 a 4 = 2 + z ∧ P1 a 8 = 3 + z ∧ P1 (3 + z) 1 = 4 + z ∧ P1 (3 + z) 2 = 5 + z ∧ M1 a 0 = n ∧ M1 (3 + z) 0 = 0) := by
  refine e_body (ls0 := [.inr (a), .inl (n)]) xm14 rfl ?_
  refine e_aload (k := 0) (xi14 0) rfl (by omega) ?_
  refine e_oinit (k := 1) (xi14 1) ⟨by omega, by omega, Nat.le_of_ble_eq_true rfl⟩ ?_
  refine e_aload (k := 2) (xi14 2) rfl (by omega) ?_
  refine e_iload (k := 3) (xi14 3) rfl ?_
  refine e_putI (j := 0) (k := 4) (xi14 4) ⟨by omega, by omega, ha.2.2⟩ rfl ?_
  refine e_aload (k := 5) (xi14 5) rfl (by omega) ?_
  refine e_iconst (k := 6) (xi14 6) ?_
  refine e_newI (b1 := 5) (b2 := 71) (u0 := 12)  (k := 7) (xi14 7) ⟨hz.1, hz.2, by omega, by omega⟩ rfl ?_
  show x_Ev 14 8 [.inr (a), .inl (n)] [.inr (z), .inr (a)] (5, 71) (z + 1, (x_clr P z (-1)), (x_clr (x_up M a 0 n) z 0)) _
  rw [show (z + 1 : Int) = 1 + z by omega]
  refine e_putR (j := 2) (k := 8) (xi14 8) ⟨by omega, by omega, ha.2.2⟩ rfl (by omega) ?_
  refine e_aload (k := 9) (xi14 9) rfl (by omega) ?_
  refine e_iconst (k := 10) (xi14 10) ?_
  refine e_newI (b1 := 4) (b2 := 59) (u0 := 12)  (k := 11) (xi14 11) ⟨h1.1, h1.2, by omega, by omega⟩ rfl ?_
  show x_Ev 14 12 [.inr (a), .inl (n)] [.inr (1 + z), .inr (a)] (4, 59) (1 + z + 1, (x_clr (x_up (x_clr P z (-1)) a 2 z) (1 + z) (-1)), (x_clr (x_clr (x_up M a 0 n) z 0) (1 + z) 0)) _
  rw [show (1 + z + 1 : Int) = 2 + z by omega]
  refine e_putR (j := 3) (k := 12) (xi14 12) ⟨by omega, by omega, ha.2.2⟩ rfl (by omega) ?_
  refine e_aload (k := 13) (xi14 13) rfl (by omega) ?_
  refine e_iconst (k := 14) (xi14 14) ?_
  refine e_newI (b1 := 3) (b2 := 51) (u0 := 8)  (k := 15) (xi14 15) ⟨h2.1, h2.2, by omega, by omega⟩ rfl ?_
  show x_Ev 14 16 [.inr (a), .inl (n)] [.inr (2 + z), .inr (a)] (3, 51) (2 + z + 1, (x_clr (x_up (x_clr (x_up (x_clr P z (-1)) a 2 z) (1 + z) (-1)) a 3 (1 + z)) (2 + z) (-1)), (x_clr (x_clr (x_clr (x_up M a 0 n) z 0) (1 + z) 0) (2 + z) 0)) _
  rw [show (2 + z + 1 : Int) = 3 + z by omega]
  refine e_putR (j := 4) (k := 16) (xi14 16) ⟨by omega, by omega, ha.2.2⟩ rfl (by omega) ?_
  refine e_aload (k := 17) (xi14 17) rfl (by omega) ?_
  refine e_new (b1 := 2) (b2 := 48) (u0 := 3)  (k := 18) (xi14 18) ⟨h3, by decide, rfl⟩ ?_
  show x_Ev 14 19 [.inr (a), .inl (n)] [.inr (3 + z), .inr (a)] (2, 48) (3 + z + 1, (x_clr (x_up (x_clr (x_up (x_clr (x_up (x_clr P z (-1)) a 2 z) (1 + z) (-1)) a 3 (1 + z)) (2 + z) (-1)) a 4 (2 + z)) (3 + z) (-1)), (x_clr (x_clr (x_clr (x_clr (x_up M a 0 n) z 0) (1 + z) 0) (2 + z) 0) (3 + z) 0)) _
  rw [show (3 + z + 1 : Int) = 4 + z by omega]
  refine e_dup (k := 19) (xi14 19) ?_
  refine e_callR (k := 20) (c1 := 0) (c2 := 0) (rest := [.inr (3 + z), .inr (a)]) (as := [.inr (3 + z)]) (xi14 20) (by decide) xm7 rfl ⟨rfl, Nat.le_of_ble_eq_true rfl, by decide⟩ (Or.inr (x_okt ⟨by omega, by omega, h3⟩)) (c_dem (z := 4 + z) (a := 3 + z) (P := (x_clr (x_up (x_clr (x_up (x_clr (x_up (x_clr P z (-1)) a 2 z) (1 + z) (-1)) a 3 (1 + z)) (2 + z) (-1)) a 4 (2 + z)) (3 + z) (-1))) (M := (x_clr (x_clr (x_clr (x_clr (x_up M a 0 n) z 0) (1 + z) 0) (2 + z) 0) (3 + z) 0)) ⟨by omega, by omega, h3⟩ h4 h5) ?_
  rintro v h1 ⟨P1, M1, hq, f1, f2, f3, f4⟩
  cases hq
  rw [show 2 + (4 + z) = 6 + z by omega]
  have f4 := f4.trans (show (1 + (4 + z) : Int) = 5 + z by omega)
  show x_Ev 14 21 [.inr (a), .inl (n)] [.inr (3 + z), .inr (a)] (0, 0) (6 + z, P1, M1) _
  refine e_putR (j := 8) (k := 21) (xi14 21) ⟨by omega, by omega, ha.2.2⟩ rfl (by omega) ?_
  refine e_vret (k := 22) (xi14 22) ?_
  refine ⟨(x_up P1 a 8 (3 + z)), M1, rfl, ?_, ?_, ?_, ?_, ?_, ?_, ?_, ?_, ?_, ?_⟩
  · intro b j h1 h2; rw [x_up_ne (by omega), f1 _ _ (by omega) (by omega), x_clr_ne (by omega), x_up_ne (by omega), x_clr_ne (by omega), x_up_ne (by omega), x_clr_ne (by omega), x_up_ne (by omega), x_clr_ne (by omega)]
  · intro b j h1 h2; rw [f2 _ _ (by omega), x_clr_ne (by omega), x_clr_ne (by omega), x_clr_ne (by omega), x_clr_ne (by omega), x_up_ne (by omega)]
  · rw [x_up_nk (by omega), f1 _ _ (by omega) (by omega), x_clr_ne (by omega), x_up_nk (by omega), x_clr_ne (by omega), x_up_nk (by omega), x_clr_ne (by omega), x_up_self]
  · rw [x_up_nk (by omega), f1 _ _ (by omega) (by omega), x_clr_ne (by omega), x_up_nk (by omega), x_clr_ne (by omega), x_up_self]
  · rw [x_up_nk (by omega), f1 _ _ (by omega) (by omega), x_clr_ne (by omega), x_up_self]
  · rw [x_up_self]
  · rw [x_up_ne (by omega), f3]
  · rw [x_up_ne (by omega), f4]
  · rw [f2 _ _ (by omega), x_clr_ne (by omega), x_clr_ne (by omega), x_clr_ne (by omega), x_clr_ne (by omega), x_up_self]
  · rw [f2 _ _ (by omega), x_clr_self]
theorem c_wheel {z a n : Int} {P M : Int → Int → Int} (ha : 0 ≤ a ∧ a < z ∧ x_kd a = 5) : x_CallR 65 [.inr (a), .inl (n)] (z, P, M) (fun q => q = (none, (z, P, (x_up M a 0 n)))) := by
  refine e_body (ls0 := [.inr (a), .inl (n)]) xm65 rfl ?_
  refine e_aload (k := 0) (xi65 0) rfl (by omega) ?_
  refine e_oinit (k := 1) (xi65 1) ⟨by omega, by omega, Nat.le_of_ble_eq_true rfl⟩ ?_
  refine e_aload (k := 2) (xi65 2) rfl (by omega) ?_
  refine e_iload (k := 3) (xi65 3) rfl ?_
  refine e_putI (j := 0) (k := 4) (xi65 4) ⟨by omega, by omega, ha.2.2⟩ rfl ?_
  refine e_vret (k := 5) (xi65 5) ?_
  rfl
theorem c_cart {z a n : Int} {P M : Int → Int → Int} (ha : 0 ≤ a ∧ a < z ∧ x_kd a = 0) (hz : x_kd z = 8 ∧ x_ln z = 8) : x_CallR 0 [.inr (a), .inl (n)] (z, P, M) (fun q => ∃ P1 M1, q = (none, (1 + z, P1, M1)) ∧ (∀ b j, b < z → b ≠ a → P1 b j = P b j) ∧ (∀ b j, b < z → b ≠ a → M1 b j = M b j) ∧ P1 a 5 = z ∧ M1 a 0 = n) := by
  refine e_body (ls0 := [.inr (a), .inl (n)]) xm0 rfl ?_
  refine e_aload (k := 0) (xi0 0) rfl (by omega) ?_
  refine e_oinit (k := 1) (xi0 1) ⟨by omega, by omega, Nat.le_of_ble_eq_true rfl⟩ ?_
  refine e_aload (k := 2) (xi0 2) rfl (by omega) ?_
  refine e_iload (k := 3) (xi0 3) rfl ?_
  refine e_putI (j := 0) (k := 4) (xi0 4) ⟨by omega, by omega, ha.2.2⟩ rfl ?_
  refine e_aload (k := 5) (xi0 5) rfl (by omega) ?_
  refine e_iconst (k := 6) (xi0 6) ?_
  refine e_newI (b1 := 0) (b2 := 0) (u0 := 8)  (k := 7) (xi0 7) ⟨hz.1, hz.2, by omega, by omega⟩ rfl ?_
  show x_Ev 0 8 [.inr (a), .inl (n)] [.inr (z), .inr (a)] (0, 0) (z + 1, (x_clr P z (-1)), (x_clr (x_up M a 0 n) z 0)) _
  rw [show (z + 1 : Int) = 1 + z by omega]
  refine e_putR (j := 5) (k := 8) (xi0 8) ⟨by omega, by omega, ha.2.2⟩ rfl (by omega) ?_
  refine e_vret (k := 9) (xi0 9) ?_
  refine ⟨(x_up (x_clr P z (-1)) a 5 z), (x_clr (x_up M a 0 n) z 0), rfl, ?_, ?_, ?_, ?_⟩
  · intro b j h1 h2; rw [x_up_ne (by omega), x_clr_ne (by omega)]
  · intro b j h1 h2; rw [x_clr_ne (by omega), x_up_ne (by omega)]
  · rw [x_up_self]
  · rw [x_clr_ne (by omega), x_up_self]
def x_HB (o : Int) : Prop := ∀ i, 0 ≤ i → i < 154 → x_kd (o + i) = x_tk i ∧ x_ln (o + i) = x_tl i
theorem hb_main : x_HB 1 := fun i h1 h2 => ⟨kd_main rfl rfl ⟨h1, h2⟩, ln_main rfl rfl ⟨h1, h2⟩⟩
theorem hb_img {j : Int} (hj : 0 ≤ j) : x_HB (170 + 154 * j) := fun i h1 h2 => ⟨kd_img rfl rfl ⟨h1, h2⟩ hj, ln_img rfl rfl ⟨h1, h2⟩ hj⟩
theorem x_kb {o a i : Int} {c : Nat} (hb : x_HB o) (h : x_tk i = c) (ha : a = o + i) (h0 : 0 ≤ i ∧ i < 154) : x_kd a = c := by rw [ha, (hb i h0.1 h0.2).1, h]
theorem x_lb {o a i c : Int} (hb : x_HB o) (h : x_tl i = c) (ha : a = o + i) (h0 : 0 ≤ i ∧ i < 154) : x_ln a = c := by rw [ha, (hb i h0.1 h0.2).2, h]
theorem x_up_no {f : Int → Int → Int} {a k v b j : Int} (h : ¬ (b = a ∧ j = k)) : x_up f a k v b j = f b j := if_neg h
def x_T1 (o n : Int) (P M P0 M0 : Int → Int → Int) : Prop := P o 0 = o + 1 ∧ (∀ s, 0 ≤ s ∧ s < n → (P (o + 1) s = o + 2 + 7 * s ∧ P (o + 2 + 7 * s) 2 = o + 3 + 7 * s ∧ P (o + 2 + 7 * s) 3 = o + 4 + 7 * s ∧ P (o + 2 + 7 * s) 4 = o + 5 + 7 * s ∧ P (o + 2 + 7 * s) 8 = o + 6 + 7 * s ∧ P (o + 6 + 7 * s) 1 = o + 7 + 7 * s ∧ P (o + 6 + 7 * s) 2 = o + 8 + 7 * s) ∧ M (o + 2 + 7 * s) 0 = s ∧ M (o + 6 + 7 * s) 0 = 0) ∧ (M o 1 = 0 ∧ M o 3 = 0 ∧ M o 5 = 0 ∧ M o 6 = 0) ∧ ∀ b j, b < o → P b j = P0 b j ∧ M b j = M0 b j
def x_T2 (o n : Int) (P M P0 M0 : Int → Int → Int) : Prop := x_T1 o 12 P M P0 M0 ∧ P o 2 = o + 86 ∧ ∀ w, 0 ≤ w ∧ w < n → P (o + 86) w = o + 87 + w ∧ M (o + 87 + w) 0 = w ∧ M (o + 87 + w) 7 = 0 ∧ M (o + 87 + w) 8 = 0
def x_T3 (o n : Int) (P M P0 M0 : Int → Int → Int) : Prop := x_T2 o 60 P M P0 M0 ∧ P o 4 = o + 147 ∧ ∀ c, 0 ≤ c ∧ c < n → (P (o + 147) c = o + 148 + 2 * c ∧ P (o + 148 + 2 * c) 5 = o + 149 + 2 * c) ∧ M (o + 148 + 2 * c) 0 = c
theorem t1_fr {o n m : Int} {P M P' M' P0 M0 : Int → Int → Int} (h : x_T1 o n P M P0 M0) (hm : 2 + 7 * n + o ≤ m) (fP : ∀ b j, b < m → ¬ (b = o ∧ 1 ≤ j) → P' b j = P b j ∨ b = 1 + o ∧ n ≤ j) (fM : ∀ b j, b < m → M' b j = M b j) (hn : 0 ≤ n) : x_T1 o n P' M' P0 M0 := by
  have g : ∀ b j, b < m → ¬ (b = o ∧ 1 ≤ j) → ¬ (b = 1 + o ∧ n ≤ j) → P' b j = P b j := fun b j h1 h2 h3 => (fP b j h1 h2).resolve_right h3
  refine ⟨(g _ _ (by omega) (by omega) (by omega)).trans h.1, fun s hs => ?_, ⟨(fM _ _ (by omega)).trans h.2.2.1.1, (fM _ _ (by omega)).trans h.2.2.1.2.1, (fM _ _ (by omega)).trans h.2.2.1.2.2.1, (fM _ _ (by omega)).trans h.2.2.1.2.2.2⟩, fun b j hb => ⟨(g _ _ (by omega) (by omega) (by omega)).trans (h.2.2.2 b j hb).1, (fM _ _ (by omega)).trans (h.2.2.2 b j hb).2⟩⟩
  obtain ⟨⟨a1, a2, a3, a4, a5, a6, a7⟩, a8⟩ := h.2.1 s hs
  exact ⟨⟨(g _ _ (by omega) (by omega) (by omega)).trans a1, (g _ _ (by omega) (by omega) (by omega)).trans a2, (g _ _ (by omega) (by omega) (by omega)).trans a3, (g _ _ (by omega) (by omega) (by omega)).trans a4, (g _ _ (by omega) (by omega) (by omega)).trans a5, (g _ _ (by omega) (by omega) (by omega)).trans a6, (g _ _ (by omega) (by omega) (by omega)).trans a7⟩, (fM _ _ (by omega)).trans a8.1, (fM _ _ (by omega)).trans a8.2⟩
theorem t2_fr {o n m : Int} {P M P' M' P0 M0 : Int → Int → Int} (h : x_T2 o n P M P0 M0) (hm : 87 + n + o ≤ m) (fP : ∀ b j, b < m → ¬ (b = o ∧ 3 ≤ j) → P' b j = P b j ∨ b = 86 + o ∧ n ≤ j) (fM : ∀ b j, b < m → M' b j = M b j) (hn : 0 ≤ n) : x_T2 o n P' M' P0 M0 := by
  have g : ∀ b j, b < m → ¬ (b = o ∧ 3 ≤ j) → ¬ (b = 86 + o ∧ n ≤ j) → P' b j = P b j := fun b j h1 h2 h3 => (fP b j h1 h2).resolve_right h3
  obtain ⟨h1, h2, h3⟩ := h
  refine ⟨?_, (g _ _ (by omega) (by omega) (by omega)).trans h2, fun w hw => ⟨(g _ _ (by omega) (by omega) (by omega)).trans (h3 w hw).1, (fM _ _ (by omega)).trans (h3 w hw).2.1, (fM _ _ (by omega)).trans (h3 w hw).2.2.1, (fM _ _ (by omega)).trans (h3 w hw).2.2.2⟩⟩
  obtain ⟨a1, a2, a3, a4⟩ := h1
  refine ⟨(g _ _ (by omega) (by omega) (by omega)).trans a1, fun s hs => ?_, ⟨(fM _ _ (by omega)).trans a3.1, (fM _ _ (by omega)).trans a3.2.1, (fM _ _ (by omega)).trans a3.2.2.1, (fM _ _ (by omega)).trans a3.2.2.2⟩, fun b j hb => ⟨(g _ _ (by omega) (by omega) (by omega)).trans (a4 b j hb).1, (fM _ _ (by omega)).trans (a4 b j hb).2⟩⟩
  obtain ⟨⟨b1, b2, b3, b4, b5, b6, b7⟩, b8⟩ := a2 s hs
  exact ⟨⟨(g _ _ (by omega) (by omega) (by omega)).trans b1, (g _ _ (by omega) (by omega) (by omega)).trans b2, (g _ _ (by omega) (by omega) (by omega)).trans b3, (g _ _ (by omega) (by omega) (by omega)).trans b4, (g _ _ (by omega) (by omega) (by omega)).trans b5, (g _ _ (by omega) (by omega) (by omega)).trans b6, (g _ _ (by omega) (by omega) (by omega)).trans b7⟩, (fM _ _ (by omega)).trans b8.1, (fM _ _ (by omega)).trans b8.2⟩
theorem c_tw1 {o : Int} {P0 M0 : Int → Int → Int} {r : Option xV × xH → Prop} (ho : 0 ≤ o ∧ x_kd o = 4) (hb : x_HB o) (kk : ∀ P M, x_T1 o 12 P M P0 M0 → x_Ev 38 21 [.inr (o), .inl 12] [] (68, 708) (86 + o, P, M) r) : ∀ (k : Nat) (i : Int) (P M : Int → Int → Int), i + k = 12 → 0 ≤ i → x_T1 o i P M P0 M0 → x_Ev 38 8 [.inr (o), .inl (i)] [] (7 * k + 68, 92 * k + 708) (2 + 7 * i + o, P, M) r := by
  have hk1 : x_kd (1 + o) = 11 := x_kb hb (show x_tk 1 = 11 by decide) (by omega) (by omega)
  have hl1 : x_ln (1 + o) = 12 := x_lb hb (show x_tl 1 = 12 by decide) (by omega) (by omega)
  intro k
  induction k with
  | zero =>
    intro i P M he hi hT
    have hi2 : i = 12 := by omega
    subst hi2
    show x_Ev 38 8 [.inr (o), .inl 12] [] (68, 708) (2 + 7 * 12 + o, P, M) _
    refine e_iload (k := 8) (xi38 8) rfl ?_
    refine e_iconst (k := 9) (xi38 9) ?_
    refine e_c_ge (k := 10) (xi38 10) (fun _ => ?_) (fun q => absurd (by omega) q)
    rw [show 2 + 7 * 12 + o = 86 + o by omega]
    exact kk _ _ hT
  | succ k ih =>
    intro i P M he hi hT
    rw [show 7 * (k + 1) + 68 = 7 * k + 68 + 6 + 1 by omega, show 92 * (k + 1) + 708 = 92 * k + 708 + 83 + 9 by omega]
    have hk0 : x_kd (2 + 7 * i + o) = 2 := (x_kb hb (tk_st (i := i) ⟨by omega, by omega⟩) (by omega) ⟨by omega, by omega⟩)
    refine e_iload (k := 8) (xi38 8) rfl ?_
    refine e_iconst (k := 9) (xi38 9) ?_
    refine e_c_ge (k := 10) (xi38 10) (fun q => absurd q (by omega)) (fun _ => ?_)
    refine e_aload (k := 11) (xi38 11) rfl (by omega) ?_
    refine e_getR (j := 0) (w := 1 + o) (k := 12) (xi38 12) ⟨by omega, by omega, ho.2⟩ rfl (hT.1.trans (by omega)) ?_
    refine e_iload (k := 13) (xi38 13) rfl ?_
    refine e_new (b1 := 7 * k + 68 + 6) (b2 := 92 * k + 708 + 83) (u0 := 9)  (k := 14) (xi38 14) ⟨hk0, by decide, rfl⟩ ?_
    show x_Ev 38 15 [.inr (o), .inl (i)] [.inr (2 + 7 * i + o), .inl (i), .inr (1 + o)] (7 * k + 68 + 6, 92 * k + 708 + 83) (2 + 7 * i + o + 1, (x_clr P (2 + 7 * i + o) (-1)), (x_clr M (2 + 7 * i + o) 0)) _
    rw [show (2 + 7 * i + o + 1 : Int) = 3 + 7 * i + o by omega]
    refine e_dup (k := 15) (xi38 15) ?_
    refine e_iload (k := 16) (xi38 16) rfl ?_
    refine e_callR (k := 17) (c1 := 7 * k + 68) (c2 := 92 * k + 708) (rest := [.inr (2 + 7 * i + o), .inl (i), .inr (1 + o)]) (as := [.inr (2 + 7 * i + o), .inl (i)]) (xi38 17) (by decide) xm14 rfl ⟨rfl, Nat.le_of_ble_eq_true rfl, by decide⟩ (Or.inr (x_okt ⟨by omega, by omega, hk0⟩)) (c_stand (z := 3 + 7 * i + o) (a := 2 + 7 * i + o) (n := i) (P := (x_clr P (2 + 7 * i + o) (-1))) (M := (x_clr M (2 + 7 * i + o) 0)) ⟨by omega, by omega, hk0⟩ ⟨(x_kb hb (tk_con (i := i) ⟨by omega, by omega⟩) (by omega) ⟨by omega, by omega⟩), (x_lb hb (tl_con (i := i) ⟨by omega, by omega⟩) (by omega) ⟨by omega, by omega⟩)⟩ ⟨(x_kb hb (tk_len (i := i) ⟨by omega, by omega⟩) (by omega) ⟨by omega, by omega⟩), (x_lb hb (tl_len (i := i) ⟨by omega, by omega⟩) (by omega) ⟨by omega, by omega⟩)⟩ ⟨(x_kb hb (tk_oth (i := i) ⟨by omega, by omega⟩) (by omega) ⟨by omega, by omega⟩), (x_lb hb (tl_oth (i := i) ⟨by omega, by omega⟩) (by omega) ⟨by omega, by omega⟩)⟩ (x_kb hb (tk_dem (i := i) ⟨by omega, by omega⟩) (by omega) ⟨by omega, by omega⟩) ⟨(x_kb hb (tk_br (i := i) ⟨by omega, by omega⟩) (by omega) ⟨by omega, by omega⟩), (x_lb hb (tl_br (i := i) ⟨by omega, by omega⟩) (by omega) ⟨by omega, by omega⟩)⟩ ⟨(x_kb hb (tk_wa (i := i) ⟨by omega, by omega⟩) (by omega) ⟨by omega, by omega⟩), (x_lb hb (tl_wa (i := i) ⟨by omega, by omega⟩) (by omega) ⟨by omega, by omega⟩)⟩) ?_
    rintro v h1 ⟨P1, M1, hq, f1, f2, g2, g3, g4, g8, g9, g10, g11, g12⟩
    cases hq
    rw [show 6 + (3 + 7 * i + o) = 9 + 7 * i + o by omega]
    show x_Ev 38 18 [.inr (o), .inl (i)] [.inr (2 + 7 * i + o), .inl (i), .inr (1 + o)] (7 * k + 68, 92 * k + 708) (9 + 7 * i + o, P1, M1) _
    refine e_aast (k := 18) (xi38 18) ⟨by omega, by omega, hk1, by decide, by decide⟩ (by rw [hl1]; omega) ⟨by omega, by omega, hk0⟩ ?_
    refine e_iinc (w := 1 + i) (k := 19) (xi38 19) rfl (x_wn (by omega)) ?_
    show x_Ev 38 20 [.inr (o), .inl (1 + i)] [] (7 * k + 68, 92 * k + 708) (9 + 7 * i + o, (x_up P1 (1 + o) i (2 + 7 * i + o)), M1) _
    refine e_goto (k := 20) (xi38 20) ?_
    rw [show 9 + 7 * i + o = 2 + 7 * (1 + i) + o by omega]
    have fP : ∀ b j, b < 2 + 7 * i + o → ¬ (b = o + 1 ∧ j = i) → (x_up P1 (1 + o) i (2 + 7 * i + o)) b j = P b j := by
      intro b j h1 h2
      rw [x_up_no (by omega), f1 _ _ (by omega) (by omega), x_clr_ne (by omega)]
    have fM : ∀ b j, b < 2 + 7 * i + o → M1 b j = M b j := by
      intro b j h1
      rw [f2 _ _ (by omega) (by omega), x_clr_ne (by omega)]
    refine ih (1 + i) _ _ (by omega) (by omega) ?_
    have hT' := t1_fr (m := 2 + 7 * i + o) hT (by omega) (fun b j h1 h2 => by
      by_cases q : b = o + 1 ∧ j = i
      · exact Or.inr (by omega)
      · exact Or.inl (fP b j h1 q)) fM hi
    refine ⟨hT'.1, fun s hs => ?_, hT'.2.2⟩
    by_cases q : s = i
    · subst q
      exact ⟨⟨x_Pe x_up_self (by omega) (by omega), x_Pe ((x_up_ne (by omega)).trans g2) (by omega) (by omega), x_Pe ((x_up_ne (by omega)).trans g3) (by omega) (by omega), x_Pe ((x_up_ne (by omega)).trans g4) (by omega) (by omega), x_Pe ((x_up_ne (by omega)).trans g8) (by omega) (by omega), x_Pe ((x_up_ne (by omega)).trans g9) (by omega) (by omega), x_Pe ((x_up_ne (by omega)).trans g10) (by omega) (by omega)⟩, x_Pe g11 (by omega) (by omega), x_Pe g12 (by omega) rfl⟩
    · exact hT'.2.1 s (by omega)
theorem c_tw2 {o : Int} {P0 M0 : Int → Int → Int} {r : Option xV × xH → Prop} (ho : 0 ≤ o ∧ x_kd o = 4) (hb : x_HB o) (kk : ∀ P M, x_T2 o 60 P M P0 M0 → x_Ev 38 40 [.inr (o), .inl 60] [] (7, 48) (147 + o, P, M) r) : ∀ (k : Nat) (i : Int) (P M : Int → Int → Int), i + k = 60 → 0 ≤ i → x_T2 o i P M P0 M0 → x_Ev 38 27 [.inr (o), .inl (i)] [] (1 * k + 7, 10 * k + 48) (87 + i + o, P, M) r := by
  have hk1 : x_kd (86 + o) = 13 := x_kb hb (show x_tk 86 = 13 by decide) (by omega) (by omega)
  have hl1 : x_ln (86 + o) = 60 := x_lb hb (show x_tl 86 = 60 by decide) (by omega) (by omega)
  intro k
  induction k with
  | zero =>
    intro i P M he hi hT
    have hi2 : i = 60 := by omega
    subst hi2
    show x_Ev 38 27 [.inr (o), .inl 60] [] (7, 48) (87 + 60 + o, P, M) _
    refine e_iload (k := 27) (xi38 27) rfl ?_
    refine e_iconst (k := 28) (xi38 28) ?_
    refine e_c_ge (k := 29) (xi38 29) (fun _ => ?_) (fun q => absurd (by omega) q)
    rw [show 87 + 60 + o = 147 + o by omega]
    exact kk _ _ hT
  | succ k ih =>
    intro i P M he hi hT
    rw [show 1 * (k + 1) + 7 = 1 * k + 7 + 0 + 1 by omega, show 10 * (k + 1) + 48 = 10 * k + 48 + 0 + 10 by omega]
    have hk0 : x_kd (87 + i + o) = 5 := (x_kb hb (tk_wh (i := i) ⟨by omega, by omega⟩) (by omega) ⟨by omega, by omega⟩)
    refine e_iload (k := 27) (xi38 27) rfl ?_
    refine e_iconst (k := 28) (xi38 28) ?_
    refine e_c_ge (k := 29) (xi38 29) (fun q => absurd q (by omega)) (fun _ => ?_)
    refine e_aload (k := 30) (xi38 30) rfl (by omega) ?_
    refine e_getR (j := 2) (w := 86 + o) (k := 31) (xi38 31) ⟨by omega, by omega, ho.2⟩ rfl (hT.2.1.trans (by omega)) ?_
    refine e_iload (k := 32) (xi38 32) rfl ?_
    refine e_new (b1 := 1 * k + 7 + 0) (b2 := 10 * k + 48 + 0) (u0 := 10)  (k := 33) (xi38 33) ⟨hk0, by decide, rfl⟩ ?_
    show x_Ev 38 34 [.inr (o), .inl (i)] [.inr (87 + i + o), .inl (i), .inr (86 + o)] (1 * k + 7 + 0, 10 * k + 48 + 0) (87 + i + o + 1, (x_clr P (87 + i + o) (-1)), (x_clr M (87 + i + o) 0)) _
    rw [show (87 + i + o + 1 : Int) = 88 + i + o by omega]
    refine e_dup (k := 34) (xi38 34) ?_
    refine e_iload (k := 35) (xi38 35) rfl ?_
    refine e_callR (k := 36) (c1 := 1 * k + 7) (c2 := 10 * k + 48) (rest := [.inr (87 + i + o), .inl (i), .inr (86 + o)]) (as := [.inr (87 + i + o), .inl (i)]) (xi38 36) (by decide) xm65 rfl ⟨rfl, Nat.le_of_ble_eq_true rfl, by decide⟩ (Or.inr (x_okt ⟨by omega, by omega, hk0⟩)) (c_wheel (z := 88 + i + o) (a := 87 + i + o) (n := i) (P := (x_clr P (87 + i + o) (-1))) (M := (x_clr M (87 + i + o) 0)) ⟨by omega, by omega, hk0⟩) ?_
    rintro v h1 hq
    cases hq
    show x_Ev 38 37 [.inr (o), .inl (i)] [.inr (87 + i + o), .inl (i), .inr (86 + o)] (1 * k + 7, 10 * k + 48) (88 + i + o, (x_clr P (87 + i + o) (-1)), (x_up (x_clr M (87 + i + o) 0) (87 + i + o) 0 i)) _
    refine e_aast (k := 37) (xi38 37) ⟨by omega, by omega, hk1, by decide, by decide⟩ (by rw [hl1]; omega) ⟨by omega, by omega, hk0⟩ ?_
    refine e_iinc (w := 1 + i) (k := 38) (xi38 38) rfl (x_wn (by omega)) ?_
    show x_Ev 38 39 [.inr (o), .inl (1 + i)] [] (1 * k + 7, 10 * k + 48) (88 + i + o, (x_up (x_clr P (87 + i + o) (-1)) (86 + o) i (87 + i + o)), (x_up (x_clr M (87 + i + o) 0) (87 + i + o) 0 i)) _
    refine e_goto (k := 39) (xi38 39) ?_
    rw [show 88 + i + o = 87 + (1 + i) + o by omega]
    have fP : ∀ b j, b < 87 + i + o → ¬ (b = o + 86 ∧ j = i) → (x_up (x_clr P (87 + i + o) (-1)) (86 + o) i (87 + i + o)) b j = P b j := by
      intro b j h1 h2
      rw [x_up_no (by omega), x_clr_ne (by omega)]
    have fM : ∀ b j, b < 87 + i + o → (x_up (x_clr M (87 + i + o) 0) (87 + i + o) 0 i) b j = M b j := by
      intro b j h1
      rw [x_up_ne (by omega), x_clr_ne (by omega)]
    refine ih (1 + i) _ _ (by omega) (by omega) ?_
    have hT' := t2_fr (m := 87 + i + o) hT (by omega) (fun b j h1 h2 => by
      by_cases q : b = o + 86 ∧ j = i
      · exact Or.inr (by omega)
      · exact Or.inl (fP b j h1 q)) fM hi
    refine ⟨hT'.1, hT'.2.1, fun s hs => ?_⟩
    by_cases q : s = i
    · subst q
      exact ⟨x_Pe x_up_self (by omega) (by omega), x_Pe x_up_self (by omega) (by omega), x_Pe ((x_up_nk (by omega)).trans x_clr_self) (by omega) rfl, x_Pe ((x_up_nk (by omega)).trans x_clr_self) (by omega) rfl⟩
    · exact hT'.2.2 s (by omega)
theorem c_tw3 {o : Int} {P0 M0 : Int → Int → Int} {r : Option xV × xH → Prop} (ho : 0 ≤ o ∧ x_kd o = 4) (hb : x_HB o) (kk : ∀ P M, x_T3 o 3 P M P0 M0 → x_Ev 38 59 [.inr (o), .inl 3] [] (0, 0) (154 + o, P, M) r) : ∀ (k : Nat) (i : Int) (P M : Int → Int → Int), i + k = 3 → 0 ≤ i → x_T3 o i P M P0 M0 → x_Ev 38 46 [.inr (o), .inl (i)] [] (2 * k + 0, 15 * k + 0) (148 + 2 * i + o, P, M) r := by
  have hk1 : x_kd (147 + o) = 10 := x_kb hb (show x_tk 147 = 10 by decide) (by omega) (by omega)
  have hl1 : x_ln (147 + o) = 3 := x_lb hb (show x_tl 147 = 3 by decide) (by omega) (by omega)
  intro k
  induction k with
  | zero =>
    intro i P M he hi hT
    have hi2 : i = 3 := by omega
    subst hi2
    show x_Ev 38 46 [.inr (o), .inl 3] [] (0, 0) (148 + 2 * 3 + o, P, M) _
    refine e_iload (k := 46) (xi38 46) rfl ?_
    refine e_iconst (k := 47) (xi38 47) ?_
    refine e_c_ge (k := 48) (xi38 48) (fun _ => ?_) (fun q => absurd (by omega) q)
    rw [show 148 + 2 * 3 + o = 154 + o by omega]
    exact kk _ _ hT
  | succ k ih =>
    intro i P M he hi hT
    rw [show 2 * (k + 1) + 0 = 2 * k + 0 + 1 + 1 by omega, show 15 * (k + 1) + 0 = 15 * k + 0 + 8 + 7 by omega]
    have hk0 : x_kd (148 + 2 * i + o) = 0 := (x_kb hb (tk_ca (i := i) ⟨by omega, by omega⟩) (by omega) ⟨by omega, by omega⟩)
    refine e_iload (k := 46) (xi38 46) rfl ?_
    refine e_iconst (k := 47) (xi38 47) ?_
    refine e_c_ge (k := 48) (xi38 48) (fun q => absurd q (by omega)) (fun _ => ?_)
    refine e_aload (k := 49) (xi38 49) rfl (by omega) ?_
    refine e_getR (j := 4) (w := 147 + o) (k := 50) (xi38 50) ⟨by omega, by omega, ho.2⟩ rfl (hT.2.1.trans (by omega)) ?_
    refine e_iload (k := 51) (xi38 51) rfl ?_
    refine e_new (b1 := 2 * k + 0 + 1) (b2 := 15 * k + 0 + 8) (u0 := 7)  (k := 52) (xi38 52) ⟨hk0, by decide, rfl⟩ ?_
    show x_Ev 38 53 [.inr (o), .inl (i)] [.inr (148 + 2 * i + o), .inl (i), .inr (147 + o)] (2 * k + 0 + 1, 15 * k + 0 + 8) (148 + 2 * i + o + 1, (x_clr P (148 + 2 * i + o) (-1)), (x_clr M (148 + 2 * i + o) 0)) _
    rw [show (148 + 2 * i + o + 1 : Int) = 149 + 2 * i + o by omega]
    refine e_dup (k := 53) (xi38 53) ?_
    refine e_iload (k := 54) (xi38 54) rfl ?_
    refine e_callR (k := 55) (c1 := 2 * k + 0) (c2 := 15 * k + 0) (rest := [.inr (148 + 2 * i + o), .inl (i), .inr (147 + o)]) (as := [.inr (148 + 2 * i + o), .inl (i)]) (xi38 55) (by decide) xm0 rfl ⟨rfl, Nat.le_of_ble_eq_true rfl, by decide⟩ (Or.inr (x_okt ⟨by omega, by omega, hk0⟩)) (c_cart (z := 149 + 2 * i + o) (a := 148 + 2 * i + o) (n := i) (P := (x_clr P (148 + 2 * i + o) (-1))) (M := (x_clr M (148 + 2 * i + o) 0)) ⟨by omega, by omega, hk0⟩ ⟨(x_kb hb (tk_row (i := i) ⟨by omega, by omega⟩) (by omega) ⟨by omega, by omega⟩), (x_lb hb (tl_row (i := i) ⟨by omega, by omega⟩) (by omega) ⟨by omega, by omega⟩)⟩) ?_
    rintro v h1 ⟨P1, M1, hq, f1, f2, g5, g6⟩
    cases hq
    rw [show 1 + (149 + 2 * i + o) = 150 + 2 * i + o by omega]
    show x_Ev 38 56 [.inr (o), .inl (i)] [.inr (148 + 2 * i + o), .inl (i), .inr (147 + o)] (2 * k + 0, 15 * k + 0) (150 + 2 * i + o, P1, M1) _
    refine e_aast (k := 56) (xi38 56) ⟨by omega, by omega, hk1, by decide, by decide⟩ (by rw [hl1]; omega) ⟨by omega, by omega, hk0⟩ ?_
    refine e_iinc (w := 1 + i) (k := 57) (xi38 57) rfl (x_wn (by omega)) ?_
    show x_Ev 38 58 [.inr (o), .inl (1 + i)] [] (2 * k + 0, 15 * k + 0) (150 + 2 * i + o, (x_up P1 (147 + o) i (148 + 2 * i + o)), M1) _
    refine e_goto (k := 58) (xi38 58) ?_
    rw [show 150 + 2 * i + o = 148 + 2 * (1 + i) + o by omega]
    have fP : ∀ b j, b < 148 + 2 * i + o → ¬ (b = o + 147 ∧ j = i) → (x_up P1 (147 + o) i (148 + 2 * i + o)) b j = P b j := by
      intro b j h1 h2
      rw [x_up_no (by omega), f1 _ _ (by omega) (by omega), x_clr_ne (by omega)]
    have fM : ∀ b j, b < 148 + 2 * i + o → M1 b j = M b j := by
      intro b j h1
      rw [f2 _ _ (by omega) (by omega), x_clr_ne (by omega)]
    refine ih (1 + i) _ _ (by omega) (by omega) ?_
    have hT' := t2_fr (m := 147 + o) hT.1 (by omega) (fun b j h1 h2 => Or.inl (fP b j (by omega) (by omega))) (fun b j h => fM b j (by omega)) (by omega)
    refine ⟨hT', (fP _ _ (by omega) (by omega)).trans hT.2.1, fun s hs => ?_⟩
    by_cases q : s = i
    · subst q
      exact ⟨⟨x_Pe x_up_self (by omega) (by omega), x_Pe ((x_up_ne (by omega)).trans g5) (by omega) (by omega)⟩, x_Pe g6 (by omega) (by omega)⟩
    · obtain ⟨⟨a1, a2⟩, a3⟩ := hT.2.2 s (by omega)
      exact ⟨⟨(fP _ _ (by omega) (by omega)).trans a1, (fP _ _ (by omega) (by omega)).trans a2⟩, (fM _ _ (by omega)).trans a3⟩
theorem c_town {o : Int} {P M : Int → Int → Int} (ho : 0 ≤ o ∧ x_kd o = 4) (hb : x_HB o) (hM : M o 1 = 0 ∧ M o 3 = 0 ∧ M o 5 = 0 ∧ M o 6 = 0) : x_CallR 38 [.inr (o)] (1 + o, P, M) (fun q => ∃ P1 M1, q = (none, (154 + o, P1, M1)) ∧ x_T3 o 3 P1 M1 P M) := by
  refine e_body (ls0 := [.inr (o), x_un]) xm38 rfl ?_
  refine e_aload (k := 0) (xi38 0) rfl (by omega) ?_
  refine e_oinit (k := 1) (xi38 1) ⟨by omega, by omega, Nat.le_of_ble_eq_true rfl⟩ ?_
  refine e_aload (k := 2) (xi38 2) rfl (by omega) ?_
  refine e_iconst (k := 3) (xi38 3) ?_
  refine e_newQ (b1 := 152) (b2 := 1812) (u0 := 12)  (k := 4) (xi38 4) ⟨(x_kb hb (show x_tk 1 = 11 by decide) (by omega) (by omega)), by decide, by decide, (x_lb hb (show x_tl 1 = 12 by decide) (by omega) (by omega)), by omega, by omega⟩ rfl ?_
  show x_Ev 38 5 [.inr (o), x_un] [.inr (1 + o), .inr (o)] (152, 1812) (1 + o + 1, (x_clr P (1 + o) (-1)), (x_clr M (1 + o) 0)) _
  rw [show (1 + o + 1 : Int) = 2 + o by omega]
  refine e_putR (j := 0) (k := 5) (xi38 5) ⟨by omega, by omega, ho.2⟩ rfl (by omega) ?_
  refine e_iconst (k := 6) (xi38 6) ?_
  refine e_istore (k := 7) (xi38 7) (Nat.le_of_ble_eq_true rfl) ?_
  show x_Ev 38 8 [.inr (o), .inl 0] [] (152, 1812) (2 + o, (x_up (x_clr P (1 + o) (-1)) o 0 (1 + o)), (x_clr M (1 + o) 0)) _
  rw [show 2 + o = 2 + 7 * 0 + o by omega]
  refine c_tw1 (P0 := P) (M0 := M) ⟨ho.1, ho.2⟩ hb (fun P1 M1 hT1 => ?_) 12 0 _ _ (by omega) (by omega) ?_
  rotate_left
  · have fM : ∀ b j, b < 1 + o → (x_clr M (1 + o) 0) b j = M b j := by
      intro b j h1
      rw [x_clr_ne (by omega)]
    refine ⟨x_Pe x_up_self (by omega) (by omega), fun s hs => absurd hs (by omega), ⟨(fM _ _ (by omega)).trans hM.1, (fM _ _ (by omega)).trans hM.2.1, (fM _ _ (by omega)).trans hM.2.2.1, (fM _ _ (by omega)).trans hM.2.2.2⟩, fun b j h => ⟨?_, fM b j (by omega)⟩⟩
    rw [x_up_ne (by omega), x_clr_ne (by omega)]
  · skip
    refine e_aload (k := 21) (xi38 21) rfl (by omega) ?_
    refine e_iconst (k := 22) (xi38 22) ?_
    refine e_newQ (b1 := 67) (b2 := 648) (u0 := 60)  (k := 23) (xi38 23) ⟨(x_kb hb (show x_tk 86 = 13 by decide) (by omega) (by omega)), by decide, by decide, (x_lb hb (show x_tl 86 = 60 by decide) (by omega) (by omega)), by omega, by omega⟩ rfl ?_
    show x_Ev 38 24 [.inr (o), .inl 12] [.inr (86 + o), .inr (o)] (67, 648) (86 + o + 1, (x_clr P1 (86 + o) (-1)), (x_clr M1 (86 + o) 0)) _
    rw [show (86 + o + 1 : Int) = 87 + o by omega]
    refine e_putR (j := 2) (k := 24) (xi38 24) ⟨by omega, by omega, ho.2⟩ rfl (by omega) ?_
    refine e_iconst (k := 25) (xi38 25) ?_
    refine e_istore (k := 26) (xi38 26) (Nat.le_of_ble_eq_true rfl) ?_
    show x_Ev 38 27 [.inr (o), .inl 0] [] (67, 648) (87 + o, (x_up (x_clr P1 (86 + o) (-1)) o 2 (86 + o)), (x_clr M1 (86 + o) 0)) _
    rw [show 87 + o = 87 + 0 + o by omega]
    refine c_tw2 (P0 := P) (M0 := M) ⟨ho.1, ho.2⟩ hb (fun P2 M2 hT2 => ?_) 60 0 _ _ (by omega) (by omega) ?_
    rotate_left
    · have hT' := t1_fr (P' := (x_up (x_clr P1 (86 + o) (-1)) o 2 (86 + o))) (M' := (x_clr M1 (86 + o) 0)) (m := 86 + o) hT1 (by omega) (fun b j h1 h2 => Or.inl (by rw [x_up_no (by omega), x_clr_ne (by omega)])) (fun b j h1 => by rw [x_clr_ne (by omega)]) (by omega)
      exact ⟨hT', x_Pe x_up_self (by omega) (by omega), fun s hs => absurd hs (by omega)⟩
    · skip
      refine e_aload (k := 40) (xi38 40) rfl (by omega) ?_
      refine e_iconst (k := 41) (xi38 41) ?_
      refine e_newQ (b1 := 6) (b2 := 45) (u0 := 3)  (k := 42) (xi38 42) ⟨(x_kb hb (show x_tk 147 = 10 by decide) (by omega) (by omega)), by decide, by decide, (x_lb hb (show x_tl 147 = 3 by decide) (by omega) (by omega)), by omega, by omega⟩ rfl ?_
      show x_Ev 38 43 [.inr (o), .inl 60] [.inr (147 + o), .inr (o)] (6, 45) (147 + o + 1, (x_clr P2 (147 + o) (-1)), (x_clr M2 (147 + o) 0)) _
      rw [show (147 + o + 1 : Int) = 148 + o by omega]
      refine e_putR (j := 4) (k := 43) (xi38 43) ⟨by omega, by omega, ho.2⟩ rfl (by omega) ?_
      refine e_iconst (k := 44) (xi38 44) ?_
      refine e_istore (k := 45) (xi38 45) (Nat.le_of_ble_eq_true rfl) ?_
      show x_Ev 38 46 [.inr (o), .inl 0] [] (6, 45) (148 + o, (x_up (x_clr P2 (147 + o) (-1)) o 4 (147 + o)), (x_clr M2 (147 + o) 0)) _
      rw [show 148 + o = 148 + 2 * 0 + o by omega]
      refine c_tw3 (P0 := P) (M0 := M) ⟨ho.1, ho.2⟩ hb (fun P3 M3 hT3 => ?_) 3 0 _ _ (by omega) (by omega) ?_
      rotate_left
      · have hT' := t2_fr (P' := (x_up (x_clr P2 (147 + o) (-1)) o 4 (147 + o))) (M' := (x_clr M2 (147 + o) 0)) (m := 147 + o) hT2 (by omega) (fun b j h1 h2 => Or.inl (by rw [x_up_no (by omega), x_clr_ne (by omega)])) (fun b j h1 => by rw [x_clr_ne (by omega)]) (by omega)
        exact ⟨hT', x_Pe x_up_self (by omega) (by omega), fun s hs => absurd hs (by omega)⟩
      · refine e_vret (k := 59) (xi38 59) ⟨P3, M3, rfl, hT3⟩
theorem t3_TP {o : Int} {P M P0 M0 : Int → Int → Int} (h : x_T3 o 3 P M P0 M0) : x_TP o P := ⟨⟨h.1.1.1, h.1.2.1, h.2.1⟩, fun s hs => (h.1.1.2.1 s hs).1, h.1.2.2 |> fun g w hw => (g w hw).1, fun c hc => (h.2.2 c hc).1⟩
/-- a town's numbers and counts, as they are at first -/
def x_TM (o : Int) (M : Int → Int → Int) : Prop := (∀ s, 0 ≤ s ∧ s < 12 → M (o + 2 + 7 * s) 0 = s) ∧ (∀ w, 0 ≤ w ∧ w < 60 → M (o + 87 + w) 0 = w) ∧ (∀ c, 0 ≤ c ∧ c < 3 → M (o + 148 + 2 * c) 0 = c)
def x_TZ (o : Int) (M : Int → Int → Int) : Prop := (∀ s, 0 ≤ s ∧ s < 12 → M (o + 6 + 7 * s) 0 = 0 ∨ M (o + 6 + 7 * s) 0 = 1) ∧ ∀ w, 0 ≤ w ∧ w < 60 → (M (o + 87 + w) 7 = 0 ∨ M (o + 87 + w) 7 = 1) ∧ (M (o + 87 + w) 8 = 0 ∨ M (o + 87 + w) 8 = 1)
theorem t3_TZ {o : Int} {P M P0 M0 : Int → Int → Int} (h : x_T3 o 3 P M P0 M0) : x_TZ o M := ⟨fun s hs => Or.inl (h.1.1.2.1 s hs).2.2, fun w hw => ⟨Or.inl (h.1.2.2 w hw).2.2.1, Or.inl (h.1.2.2 w hw).2.2.2⟩⟩
theorem tz_fr {o : Int} {M M' : Int → Int → Int} (h : x_TZ o M) (f : ∀ b j, o ≤ b → b < 154 + o → M' b j = M b j) : x_TZ o M' := by
  refine ⟨fun s hs => ?_, fun w hw => ?_⟩
  · rw [f _ _ (by omega) (by omega)]; exact h.1 s hs
  · rw [f _ _ (by omega) (by omega), f _ _ (by omega) (by omega)]; exact h.2 w hw
theorem t3_TM {o : Int} {P M P0 M0 : Int → Int → Int} (h : x_T3 o 3 P M P0 M0) : x_TM o M := ⟨fun s hs => (h.1.1.2.1 s hs).2.1, fun w hw => (h.1.2.2 w hw).2.1, fun c hc => (h.2.2 c hc).2⟩
theorem tp_fr {o : Int} {P P' : Int → Int → Int} (h : x_TP o P) (f : ∀ b j, o ≤ b → b < 154 + o → P' b j = P b j) : x_TP o P' := by
  obtain ⟨⟨a1, a2, a3⟩, b, c, d⟩ := h
  refine ⟨⟨(f _ _ (by omega) (by omega)).trans a1, (f _ _ (by omega) (by omega)).trans a2, (f _ _ (by omega) (by omega)).trans a3⟩, fun s hs => ?_, fun w hw => (f _ _ (by omega) (by omega)).trans (c w hw), fun q hq => ⟨(f _ _ (by omega) (by omega)).trans (d q hq).1, (f _ _ (by omega) (by omega)).trans (d q hq).2⟩⟩
  obtain ⟨b1, b2, b3, b4, b5, b6, b7⟩ := b s hs
  exact ⟨(f _ _ (by omega) (by omega)).trans b1, (f _ _ (by omega) (by omega)).trans b2, (f _ _ (by omega) (by omega)).trans b3, (f _ _ (by omega) (by omega)).trans b4, (f _ _ (by omega) (by omega)).trans b5, (f _ _ (by omega) (by omega)).trans b6, (f _ _ (by omega) (by omega)).trans b7⟩
theorem tm_fr {o : Int} {M M' : Int → Int → Int} (h : x_TM o M) (f : ∀ b j, o ≤ b → b < 154 + o → M' b j = M b j) : x_TM o M' := by
  obtain ⟨a, b, c⟩ := h
  exact ⟨fun s hs => (f _ _ (by omega) (by omega)).trans (a s hs), fun s hs => (f _ _ (by omega) (by omega)).trans (b s hs), fun s hs => (f _ _ (by omega) (by omega)).trans (c s hs)⟩
theorem c_tour {P M : Int → Int → Int} : x_CallR 27 [.inr (156)] (157, P, M) (fun q => ∃ P1 M1, q = (none, (162, P1, M1)) ∧ (∀ b j, b < 156 → P1 b j = P b j) ∧ (∀ b j, b < 157 → M1 b j = M b j) ∧ P1 156 0 = 157 ∧ P1 156 2 = 158 ∧ P1 156 3 = 159 ∧ P1 156 5 = 160 ∧ P1 156 6 = 161) := by
  refine e_body (ls0 := [.inr (156)]) xm27 rfl ?_
  refine e_aload (k := 0) (xi27 0) rfl (by omega) ?_
  refine e_oinit (k := 1) (xi27 1) ⟨by omega, by omega, Nat.le_of_ble_eq_true rfl⟩ ?_
  refine e_aload (k := 2) (xi27 2) rfl (by omega) ?_
  refine e_iconst (k := 3) (xi27 3) ?_
  refine e_newI (b1 := 4) (b2 := 1038) (u0 := 7)  (k := 4) (xi27 4) ⟨(by decide), (by decide), by omega, by omega⟩ rfl ?_
  show x_Ev 27 5 [.inr 156] [.inr 157, .inr 156] (4, 1038) (157 + 1, (x_clr P 157 (-1)), (x_clr M 157 0)) _
  rw [show (157 + 1 : Int) = 158 by omega]
  refine e_putR (j := 0) (k := 5) (xi27 5) ⟨by omega, by omega, (by decide)⟩ rfl (by omega) ?_
  refine e_aload (k := 6) (xi27 6) rfl (by omega) ?_
  refine e_iconst (k := 7) (xi27 7) ?_
  refine e_newI (b1 := 3) (b2 := 1031) (u0 := 7)  (k := 8) (xi27 8) ⟨(by decide), (by decide), by omega, by omega⟩ rfl ?_
  show x_Ev 27 9 [.inr 156] [.inr 158, .inr 156] (3, 1031) (158 + 1, (x_clr (x_up (x_clr P 157 (-1)) 156 0 157) 158 (-1)), (x_clr (x_clr M 157 0) 158 0)) _
  rw [show (158 + 1 : Int) = 159 by omega]
  refine e_putR (j := 2) (k := 9) (xi27 9) ⟨by omega, by omega, (by decide)⟩ rfl (by omega) ?_
  refine e_aload (k := 10) (xi27 10) rfl (by omega) ?_
  refine e_iconst (k := 11) (xi27 11) ?_
  refine e_newI (b1 := 2) (b2 := 1024) (u0 := 7)  (k := 12) (xi27 12) ⟨(by decide), (by decide), by omega, by omega⟩ rfl ?_
  show x_Ev 27 13 [.inr 156] [.inr 159, .inr 156] (2, 1024) (159 + 1, (x_clr (x_up (x_clr (x_up (x_clr P 157 (-1)) 156 0 157) 158 (-1)) 156 2 158) 159 (-1)), (x_clr (x_clr (x_clr M 157 0) 158 0) 159 0)) _
  rw [show (159 + 1 : Int) = 160 by omega]
  refine e_putR (j := 3) (k := 13) (xi27 13) ⟨by omega, by omega, (by decide)⟩ rfl (by omega) ?_
  refine e_aload (k := 14) (xi27 14) rfl (by omega) ?_
  refine e_iconst (k := 15) (xi27 15) ?_
  refine e_newI (b1 := 1) (b2 := 896) (u0 := 128)  (k := 16) (xi27 16) ⟨(by decide), (by decide), by omega, by omega⟩ rfl ?_
  show x_Ev 27 17 [.inr 156] [.inr 160, .inr 156] (1, 896) (160 + 1, (x_clr (x_up (x_clr (x_up (x_clr (x_up (x_clr P 157 (-1)) 156 0 157) 158 (-1)) 156 2 158) 159 (-1)) 156 3 159) 160 (-1)), (x_clr (x_clr (x_clr (x_clr M 157 0) 158 0) 159 0) 160 0)) _
  rw [show (160 + 1 : Int) = 161 by omega]
  refine e_putR (j := 5) (k := 17) (xi27 17) ⟨by omega, by omega, (by decide)⟩ rfl (by omega) ?_
  refine e_aload (k := 18) (xi27 18) rfl (by omega) ?_
  refine e_iconst (k := 19) (xi27 19) ?_
  refine e_newI (b1 := 0) (b2 := 0) (u0 := 896)  (k := 20) (xi27 20) ⟨(by decide), (by decide), by omega, by omega⟩ rfl ?_
  show x_Ev 27 21 [.inr 156] [.inr 161, .inr 156] (0, 0) (161 + 1, (x_clr (x_up (x_clr (x_up (x_clr (x_up (x_clr (x_up (x_clr P 157 (-1)) 156 0 157) 158 (-1)) 156 2 158) 159 (-1)) 156 3 159) 160 (-1)) 156 5 160) 161 (-1)), (x_clr (x_clr (x_clr (x_clr (x_clr M 157 0) 158 0) 159 0) 160 0) 161 0)) _
  rw [show (161 + 1 : Int) = 162 by omega]
  refine e_putR (j := 6) (k := 21) (xi27 21) ⟨by omega, by omega, (by decide)⟩ rfl (by omega) ?_
  refine e_vret (k := 22) (xi27 22) ?_
  refine ⟨(x_up (x_clr (x_up (x_clr (x_up (x_clr (x_up (x_clr (x_up (x_clr P 157 (-1)) 156 0 157) 158 (-1)) 156 2 158) 159 (-1)) 156 3 159) 160 (-1)) 156 5 160) 161 (-1)) 156 6 161), (x_clr (x_clr (x_clr (x_clr (x_clr M 157 0) 158 0) 159 0) 160 0) 161 0), rfl, ?_, ?_, ?_, ?_, ?_, ?_, ?_⟩
  · intro b j h1; rw [x_up_ne (by omega), x_clr_ne (by omega), x_up_ne (by omega), x_clr_ne (by omega), x_up_ne (by omega), x_clr_ne (by omega), x_up_ne (by omega), x_clr_ne (by omega), x_up_ne (by omega), x_clr_ne (by omega)]
  · intro b j h1; rw [x_clr_ne (by omega), x_clr_ne (by omega), x_clr_ne (by omega), x_clr_ne (by omega), x_clr_ne (by omega)]
  · rw [x_up_nk (by omega), x_clr_ne (by omega), x_up_nk (by omega), x_clr_ne (by omega), x_up_nk (by omega), x_clr_ne (by omega), x_up_nk (by omega), x_clr_ne (by omega), x_up_self]
  · rw [x_up_nk (by omega), x_clr_ne (by omega), x_up_nk (by omega), x_clr_ne (by omega), x_up_nk (by omega), x_clr_ne (by omega), x_up_self]
  · rw [x_up_nk (by omega), x_clr_ne (by omega), x_up_nk (by omega), x_clr_ne (by omega), x_up_self]
  · rw [x_up_nk (by omega), x_clr_ne (by omega), x_up_self]
  · rw [x_up_self]
theorem c_WS {P M : Int → Int → Int} : x_CallR 77 [.inr (0)] (1, P, M) (fun q => ∃ P1 M1, q = (none, (162, P1, M1)) ∧ (P1 0 0 = 1 ∧ P1 0 1 = 155 ∧ P1 0 2 = 156) ∧ x_TP 1 P1 ∧ x_TM 1 M1 ∧ x_TZ 1 M1 ∧ (P1 156 0 = 157 ∧ P1 156 2 = 158 ∧ P1 156 3 = 159 ∧ P1 156 5 = 160 ∧ P1 156 6 = 161) ∧ (M1 1 1 = 0 ∧ M1 1 3 = 0 ∧ M1 1 5 = 0 ∧ M1 1 6 = 0) ∧ (∀ k, P1 155 k = -1) ∧ M1 156 1 = 0 ∧ ∀ j b, b < 0 → M1 b j = M b j) := by
  refine e_body (ls0 := [.inr (0)]) xm77 rfl ?_
  refine e_aload (k := 0) (xi77 0) rfl (by omega) ?_
  refine e_oinit (k := 1) (xi77 1) ⟨by omega, by omega, Nat.le_of_ble_eq_true rfl⟩ ?_
  refine e_aload (k := 2) (xi77 2) rfl (by omega) ?_
  refine e_new (b1 := 160) (b2 := 2880) (u0 := 7)  (k := 3) (xi77 3) ⟨(by decide), by decide, rfl⟩ ?_
  show x_Ev 77 4 [.inr 0] [.inr 1, .inr 0] (160, 2880) (1 + 1, (x_clr P 1 (-1)), (x_clr M 1 0)) _
  rw [show (1 + 1 : Int) = 2 by omega]
  refine e_dup (k := 4) (xi77 4) ?_
  refine e_callR (k := 5) (c1 := 7) (c2 := 1056) (rest := [.inr 1, .inr 0]) (as := [.inr 1]) (xi77 5) (by decide) xm38 rfl ⟨rfl, Nat.le_of_ble_eq_true rfl, by decide⟩ (Or.inr (x_okt ⟨by omega, by omega, (by decide)⟩)) (c_town (o := 1) (P := (x_clr P 1 (-1))) (M := (x_clr M 1 0)) ⟨by omega, by decide⟩ hb_main ⟨x_clr_self, x_clr_self, x_clr_self, x_clr_self⟩) ?_
  rintro v h1 ⟨P1, M1, hq, hT⟩
  cases hq
  rw [show (154 + 1 : Int) = 155 by omega]
  show x_Ev 77 6 [.inr 0] [.inr 1, .inr 0] (7, 1056) (155, P1, M1) _
  refine e_putR (j := 0) (k := 6) (xi77 6) ⟨by omega, by omega, (by decide)⟩ rfl (by omega) ?_
  refine e_aload (k := 7) (xi77 7) rfl (by omega) ?_
  refine e_iconst (k := 8) (xi77 8) ?_
  refine e_newQ (b1 := 6) (b2 := 1052) (u0 := 4)  (k := 9) (xi77 9) ⟨(by decide), by decide, by decide, (by decide), by omega, by omega⟩ rfl ?_
  show x_Ev 77 10 [.inr 0] [.inr 155, .inr 0] (6, 1052) (155 + 1, (x_clr (x_up P1 0 0 1) 155 (-1)), (x_clr M1 155 0)) _
  rw [show (155 + 1 : Int) = 156 by omega]
  refine e_putR (j := 1) (k := 10) (xi77 10) ⟨by omega, by omega, (by decide)⟩ rfl (by omega) ?_
  refine e_aload (k := 11) (xi77 11) rfl (by omega) ?_
  refine e_new (b1 := 5) (b2 := 1045) (u0 := 7)  (k := 12) (xi77 12) ⟨(by decide), by decide, rfl⟩ ?_
  show x_Ev 77 13 [.inr 0] [.inr 156, .inr 0] (5, 1045) (156 + 1, (x_clr (x_up (x_clr (x_up P1 0 0 1) 155 (-1)) 0 1 155) 156 (-1)), (x_clr (x_clr M1 155 0) 156 0)) _
  rw [show (156 + 1 : Int) = 157 by omega]
  refine e_dup (k := 13) (xi77 13) ?_
  refine e_callR (k := 14) (c1 := 0) (c2 := 0) (rest := [.inr 156, .inr 0]) (as := [.inr 156]) (xi77 14) (by decide) xm27 rfl ⟨rfl, Nat.le_of_ble_eq_true rfl, by decide⟩ (Or.inr (x_okt ⟨by omega, by omega, (by decide)⟩)) (c_tour (P := (x_clr (x_up (x_clr (x_up P1 0 0 1) 155 (-1)) 0 1 155) 156 (-1))) (M := (x_clr (x_clr M1 155 0) 156 0))) ?_
  rintro v h1 ⟨P2, M2, hq, f1, f2, g0, g2, g3, g5, g6⟩
  cases hq
  show x_Ev 77 15 [.inr 0] [.inr 156, .inr 0] (0, 0) (162, P2, M2) _
  refine e_putR (j := 2) (k := 15) (xi77 15) ⟨by omega, by omega, (by decide)⟩ rfl (by omega) ?_
  refine e_vret (k := 16) (xi77 16) ?_
  refine ⟨(x_up P2 0 2 156), M2, rfl, ⟨(by rw [x_up_nk (by omega), f1 _ _ (by omega), x_clr_ne (by omega), x_up_nk (by omega), x_clr_ne (by omega), x_up_self]), (by rw [x_up_nk (by omega), f1 _ _ (by omega), x_clr_ne (by omega), x_up_self]), (by rw [x_up_self])⟩, tp_fr (t3_TP hT) (fun b j h1 h2 => ?_), tm_fr (t3_TM hT) (fun b j h1 h2 => ?_), tz_fr (t3_TZ hT) (fun b j h1 h2 => ?_), ⟨(x_up_ne (by omega)).trans g0, (x_up_ne (by omega)).trans g2, (x_up_ne (by omega)).trans g3, (x_up_ne (by omega)).trans g5, (x_up_ne (by omega)).trans g6⟩, ⟨?_, ?_, ?_, ?_⟩, ?_, ?_, fun j b h => ?_⟩
  · rw [x_up_ne (by omega), f1 _ _ (by omega), x_clr_ne (by omega), x_up_ne (by omega), x_clr_ne (by omega), x_up_ne (by omega)]
  · rw [f2 _ _ (by omega), x_clr_ne (by omega), x_clr_ne (by omega)]
  · rw [f2 _ _ (by omega), x_clr_ne (by omega), x_clr_ne (by omega)]
  · rw [f2 _ _ (by omega), x_clr_ne (by omega), x_clr_ne (by omega)]; exact hT.1.1.2.2.1.1
  · rw [f2 _ _ (by omega), x_clr_ne (by omega), x_clr_ne (by omega)]; exact hT.1.1.2.2.1.2.1
  · rw [f2 _ _ (by omega), x_clr_ne (by omega), x_clr_ne (by omega)]; exact hT.1.1.2.2.1.2.2.1
  · rw [f2 _ _ (by omega), x_clr_ne (by omega), x_clr_ne (by omega)]; exact hT.1.1.2.2.1.2.2.2
  · intro k
    rw [x_up_ne (by omega), f1 _ _ (by omega), x_clr_ne (by omega), x_up_ne (by omega), x_clr_self]
  · rw [f2 _ _ (by omega), x_clr_self]
  · rw [f2 _ _ (by omega), x_clr_ne (by omega), x_clr_ne (by omega), (hT.1.1.2.2.2 _ _ (by omega)).2, x_clr_ne (by omega)]
def a_F (n i : Int) : Int := if 970 ≤ i ∧ i < 970 + n ∧ ¬ (i - 970) / 12 = (i - 970) % 12 then 999 else 0
theorem a_F_up {A : Int → Int} {a b w : Int} (ha : 0 ≤ a ∧ a < 12) (hb : 0 ≤ b ∧ b < 12) (hA : ∀ i, A i = a_F (12 * a + b) i) (hw : (a = b ∧ w = 0) ∨ (¬ a = b ∧ w = 999)) : ∀ i, a_up A (970 + 12 * a + b) w i = a_F (12 * a + (1 + b)) i := by
  intro i
  have h := hA i
  unfold a_F at h ⊢
  unfold a_up
  by_cases q : i = 970 + 12 * a + b
  · rw [if_pos q]
    subst q
    rcases hw with ⟨h1, rfl⟩ | ⟨h1, rfl⟩
    · rw [if_neg (by omega)]
    · rw [if_pos ⟨by omega, by omega, by omega⟩]
  · rw [if_neg q, h]
    by_cases hp : 970 ≤ i ∧ i < 970 + (12 * a + b) ∧ ¬ (i - 970) / 12 = (i - 970) % 12
    · rw [if_pos hp, if_pos ⟨hp.1, by omega, hp.2.2⟩]
    · rw [if_neg hp, if_neg (fun q2 => hp ⟨q2.1, by omega, q2.2.2⟩)]
theorem x_row_self (M : Int → Int → Int) (a : Int) : M = x_row M a (M a) := by
  funext b j
  unfold x_row
  by_cases h : b = a
  · rw [if_pos h, h]
  · rw [if_neg h]
theorem c_mo1 {z : Int} {P M : Int → Int → Int} {r : Option xV × xH → Prop} (hS : x_Sh z P) {a : Int} (ha : 0 ≤ a ∧ a < 12) (kk : ∀ A, (∀ i, A i = a_F (12 * a + 12) i) → x_Ev 112 58 [.inr 162, .inl (a), .inl (12)] [] (0, 0) (z, P, x_row M 163 A) r) : ∀ (k : Nat) (b : Int) (A : Int → Int), b + k = 12 → (0 ≤ b ∧ b ≤ 12) → (∀ i, A i = a_F (12 * a + b) i) → x_Ev 112 37 [.inr 162, .inl (a), .inl (b)] [] (0, 0) (z, P, x_row M 163 A) r := by
  intro k
  induction k with
  | zero =>
    intro b A he hb hA
    refine e_iload (k := 37) (xi112 37) rfl ?_
    refine e_iconst (k := 38) (xi112 38) ?_
    refine e_c_ge (k := 39) (xi112 39) (fun c0 => ?_) (fun q => absurd (by omega) q)
    have hb12 : b = 12 := by omega
    subst hb12
    exact kk A hA
  | succ k ih =>
    intro b A he hb hA
    refine e_iload (k := 37) (xi112 37) rfl ?_
    refine e_iconst (k := 38) (xi112 38) ?_
    refine e_c_ge (k := 39) (xi112 39) (fun q => absurd q (by omega)) (fun c0 => ?_)
    refine e_aload (k := 40) (xi112 40) rfl (by decide) ?_
    refine e_getR (j := 0) (w := 163) (k := 41) (xi112 41) (ok_mo hS) rfl (sh_all hS) ?_
    refine e_iconst (k := 42) (xi112 42) ?_
    refine e_iconst (k := 43) (xi112 43) ?_
    refine e_iload (k := 44) (xi112 44) rfl ?_
    refine e_imul (w := 12 * a) (k := 45) (xi112 45) (x_wn (by omega)) ?_
    refine e_iadd (w := 970 + 12 * a) (k := 46) (xi112 46) (x_wn (by omega)) ?_
    refine e_iload (k := 47) (xi112 47) rfl ?_
    refine e_iadd (w := 970 + 12 * a + b) (k := 48) (xi112 48) (x_wn (by omega)) ?_
    refine e_iload (k := 49) (xi112 49) rfl ?_
    refine e_iload (k := 50) (xi112 50) rfl ?_
    refine e_c_ne (k := 51) (xi112 51) (fun c1 => ?_) (fun c1 => ?_)
    · skip
      refine e_iconst (k := 54) (xi112 54) ?_
      refine e_iastA (k := 55) (xi112 55) hS (by omega) ?_
      refine e_iinc (w := 1 + b) (k := 56) (xi112 56) rfl (x_wn (by omega)) ?_
      show x_Ev 112 57 [.inr 162, .inl (a), .inl (1 + b)] [] (0, 0) (z, P, (x_row M 163 (a_up A (970 + 12 * a + b) 999))) _
      refine e_goto (k := 57) (xi112 57) ?_
      exact ih (1 + b) _ (by omega) ⟨by omega, by omega⟩ (a_F_up ha ⟨by omega, by omega⟩ hA (Or.inr ⟨c1, rfl⟩))
    · skip
      refine e_iconst (k := 52) (xi112 52) ?_
      refine e_goto (k := 53) (xi112 53) ?_
      refine e_iastA (k := 55) (xi112 55) hS (by omega) ?_
      refine e_iinc (w := 1 + b) (k := 56) (xi112 56) rfl (x_wn (by omega)) ?_
      show x_Ev 112 57 [.inr 162, .inl (a), .inl (1 + b)] [] (0, 0) (z, P, (x_row M 163 (a_up A (970 + 12 * a + b) 0))) _
      refine e_goto (k := 57) (xi112 57) ?_
      exact ih (1 + b) _ (by omega) ⟨by omega, by omega⟩ (a_F_up ha ⟨by omega, by omega⟩ hA (Or.inl ⟨Classical.byContradiction c1, rfl⟩))
theorem c_mo2 {z : Int} {P M : Int → Int → Int} {r : Option xV × xH → Prop} (hS : x_Sh z P) (kk : ∀ v A, (∀ i, A i = a_F 144 i) → x_Ev 112 60 [.inr 162, .inl (12), v] [] (0, 0) (z, P, x_row M 163 A) r) : ∀ (k : Nat) (a : Int) (v : xV) (A : Int → Int), a + k = 12 → (0 ≤ a ∧ a ≤ 12) → (∀ i, A i = a_F (12 * a) i) → x_Ev 112 32 [.inr 162, .inl (a), v] [] (0, 0) (z, P, x_row M 163 A) r := by
  intro k
  induction k with
  | zero =>
    intro a v A he hb hA
    refine e_iload (k := 32) (xi112 32) rfl ?_
    refine e_iconst (k := 33) (xi112 33) ?_
    refine e_c_ge (k := 34) (xi112 34) (fun c0 => ?_) (fun q => absurd (by omega) q)
    have ha12 : a = 12 := by omega
    subst ha12
    exact kk _ A hA
  | succ k ih =>
    intro a v A he hb hA
    refine e_iload (k := 32) (xi112 32) rfl ?_
    refine e_iconst (k := 33) (xi112 33) ?_
    refine e_c_ge (k := 34) (xi112 34) (fun q => absurd q (by omega)) (fun c0 => ?_)
    refine e_iconst (k := 35) (xi112 35) ?_
    refine e_istore (k := 36) (xi112 36) (Nat.le_of_ble_eq_true rfl) ?_
    show x_Ev 112 37 [.inr 162, .inl (a), .inl 0] [] (0, 0) (z, P, (x_row M 163 A)) _
    exact c_mo1 hS ⟨by omega, by omega⟩ (fun A1 hA1 => by
            refine e_iinc (w := 1 + a) (k := 58) (xi112 58) rfl (x_wn (by omega)) ?_
            show x_Ev 112 59 [.inr 162, .inl (1 + a), .inl (12)] [] (0, 0) (z, P, x_row M 163 A1) _
            refine e_goto (k := 59) (xi112 59) ?_
            exact ih (1 + a) (.inl (12)) A1 (by omega) ⟨by omega, by omega⟩ (fun i => (hA1 i).trans (by rw [show 12 * a + 12 = 12 * (1 + a) by omega]))) 12 0 A (by omega) ⟨by omega, by omega⟩ (fun i => (hA i).trans (by rw [Int.add_zero]))
theorem c_model {P M : Int → Int → Int} (hC : (P 0 0 = 1 ∧ P 0 1 = 155 ∧ P 0 2 = 156) ∧ x_TP 1 P ∧ (P 156 0 = 157 ∧ P 156 2 = 158 ∧ P 156 3 = 159 ∧ P 156 5 = 160 ∧ P 156 6 = 161)) (hM : ∀ k, M 162 k = 0) : x_CallR 112 [.inr (162)] (163, P, M) (fun q => ∃ P1 M1 A, q = (none, (170, P1, x_row M1 163 A)) ∧ x_Sh 170 P1 ∧ (∀ b j, b < 162 → P1 b j = P b j) ∧ (∀ b j, b < 162 → M1 b j = M b j) ∧ (∀ i, A i = a_F 144 i) ∧ (∀ k, M1 162 k = 0) ∧ ∀ k, M1 164 k = 0) := by
  refine e_body (ls0 := [.inr (162), x_un, x_un]) xm112 rfl ?_
  refine e_aload (k := 0) (xi112 0) rfl (by omega) ?_
  refine e_oinit (k := 1) (xi112 1) ⟨by omega, by omega, Nat.le_of_ble_eq_true rfl⟩ ?_
  refine e_aload (k := 2) (xi112 2) rfl (by omega) ?_
  refine e_iconst (k := 3) (xi112 3) ?_
  refine e_newI (b1 := 6) (b2 := 49) (u0 := 8200)  (k := 4) (xi112 4) ⟨(by decide), (by decide), by omega, by omega⟩ rfl ?_
  show x_Ev 112 5 [.inr 162, x_un, x_un] [.inr 163, .inr 162] (6, 49) (163 + 1, (x_clr P 163 (-1)), (x_clr M 163 0)) _
  rw [show (163 + 1 : Int) = 164 by omega]
  refine e_putR (j := 0) (k := 5) (xi112 5) ⟨by omega, by omega, (by decide)⟩ rfl (by omega) ?_
  refine e_aload (k := 6) (xi112 6) rfl (by omega) ?_
  refine e_iconst (k := 7) (xi112 7) ?_
  refine e_newZ (b1 := 5) (b2 := 45) (u0 := 4)  (k := 8) (xi112 8) ⟨(by decide), (by decide), by omega, by omega⟩ rfl ?_
  show x_Ev 112 9 [.inr 162, x_un, x_un] [.inr 164, .inr 162] (5, 45) (164 + 1, (x_clr (x_up (x_clr P 163 (-1)) 162 0 163) 164 (-1)), (x_clr (x_clr M 163 0) 164 0)) _
  rw [show (164 + 1 : Int) = 165 by omega]
  refine e_putR (j := 1) (k := 9) (xi112 9) ⟨by omega, by omega, (by decide)⟩ rfl (by omega) ?_
  refine e_aload (k := 10) (xi112 10) rfl (by omega) ?_
  refine e_iconst (k := 11) (xi112 11) ?_
  refine e_newI (b1 := 4) (b2 := 33) (u0 := 12)  (k := 12) (xi112 12) ⟨(by decide), (by decide), by omega, by omega⟩ rfl ?_
  show x_Ev 112 13 [.inr 162, x_un, x_un] [.inr 165, .inr 162] (4, 33) (165 + 1, (x_clr (x_up (x_clr (x_up (x_clr P 163 (-1)) 162 0 163) 164 (-1)) 162 1 164) 165 (-1)), (x_clr (x_clr (x_clr M 163 0) 164 0) 165 0)) _
  rw [show (165 + 1 : Int) = 166 by omega]
  refine e_putR (j := 5) (k := 13) (xi112 13) ⟨by omega, by omega, (by decide)⟩ rfl (by omega) ?_
  refine e_aload (k := 14) (xi112 14) rfl (by omega) ?_
  refine e_iconst (k := 15) (xi112 15) ?_
  refine e_newI (b1 := 3) (b2 := 21) (u0 := 12)  (k := 16) (xi112 16) ⟨(by decide), (by decide), by omega, by omega⟩ rfl ?_
  show x_Ev 112 17 [.inr 162, x_un, x_un] [.inr 166, .inr 162] (3, 21) (166 + 1, (x_clr (x_up (x_clr (x_up (x_clr (x_up (x_clr P 163 (-1)) 162 0 163) 164 (-1)) 162 1 164) 165 (-1)) 162 5 165) 166 (-1)), (x_clr (x_clr (x_clr (x_clr M 163 0) 164 0) 165 0) 166 0)) _
  rw [show (166 + 1 : Int) = 167 by omega]
  refine e_putR (j := 6) (k := 17) (xi112 17) ⟨by omega, by omega, (by decide)⟩ rfl (by omega) ?_
  refine e_aload (k := 18) (xi112 18) rfl (by omega) ?_
  refine e_iconst (k := 19) (xi112 19) ?_
  refine e_newI (b1 := 2) (b2 := 14) (u0 := 7)  (k := 20) (xi112 20) ⟨(by decide), (by decide), by omega, by omega⟩ rfl ?_
  show x_Ev 112 21 [.inr 162, x_un, x_un] [.inr 167, .inr 162] (2, 14) (167 + 1, (x_clr (x_up (x_clr (x_up (x_clr (x_up (x_clr (x_up (x_clr P 163 (-1)) 162 0 163) 164 (-1)) 162 1 164) 165 (-1)) 162 5 165) 166 (-1)) 162 6 166) 167 (-1)), (x_clr (x_clr (x_clr (x_clr (x_clr M 163 0) 164 0) 165 0) 166 0) 167 0)) _
  rw [show (167 + 1 : Int) = 168 by omega]
  refine e_putR (j := 8) (k := 21) (xi112 21) ⟨by omega, by omega, (by decide)⟩ rfl (by omega) ?_
  refine e_aload (k := 22) (xi112 22) rfl (by omega) ?_
  refine e_iconst (k := 23) (xi112 23) ?_
  refine e_newI (b1 := 1) (b2 := 7) (u0 := 7)  (k := 24) (xi112 24) ⟨(by decide), (by decide), by omega, by omega⟩ rfl ?_
  show x_Ev 112 25 [.inr 162, x_un, x_un] [.inr 168, .inr 162] (1, 7) (168 + 1, (x_clr (x_up (x_clr (x_up (x_clr (x_up (x_clr (x_up (x_clr (x_up (x_clr P 163 (-1)) 162 0 163) 164 (-1)) 162 1 164) 165 (-1)) 162 5 165) 166 (-1)) 162 6 166) 167 (-1)) 162 8 167) 168 (-1)), (x_clr (x_clr (x_clr (x_clr (x_clr (x_clr M 163 0) 164 0) 165 0) 166 0) 167 0) 168 0)) _
  rw [show (168 + 1 : Int) = 169 by omega]
  refine e_putR (j := 9) (k := 25) (xi112 25) ⟨by omega, by omega, (by decide)⟩ rfl (by omega) ?_
  refine e_aload (k := 26) (xi112 26) rfl (by omega) ?_
  refine e_iconst (k := 27) (xi112 27) ?_
  refine e_newI (b1 := 0) (b2 := 0) (u0 := 7)  (k := 28) (xi112 28) ⟨(by decide), (by decide), by omega, by omega⟩ rfl ?_
  show x_Ev 112 29 [.inr 162, x_un, x_un] [.inr 169, .inr 162] (0, 0) (169 + 1, (x_clr (x_up (x_clr (x_up (x_clr (x_up (x_clr (x_up (x_clr (x_up (x_clr (x_up (x_clr P 163 (-1)) 162 0 163) 164 (-1)) 162 1 164) 165 (-1)) 162 5 165) 166 (-1)) 162 6 166) 167 (-1)) 162 8 167) 168 (-1)) 162 9 168) 169 (-1)), (x_clr (x_clr (x_clr (x_clr (x_clr (x_clr (x_clr M 163 0) 164 0) 165 0) 166 0) 167 0) 168 0) 169 0)) _
  rw [show (169 + 1 : Int) = 170 by omega]
  refine e_putR (j := 10) (k := 29) (xi112 29) ⟨by omega, by omega, (by decide)⟩ rfl (by omega) ?_
  refine e_iconst (k := 30) (xi112 30) ?_
  refine e_istore (k := 31) (xi112 31) (Nat.le_of_ble_eq_true rfl) ?_
  show x_Ev 112 32 [.inr 162, .inl 0, x_un] [] (0, 0) (170, (x_up (x_clr (x_up (x_clr (x_up (x_clr (x_up (x_clr (x_up (x_clr (x_up (x_clr (x_up (x_clr P 163 (-1)) 162 0 163) 164 (-1)) 162 1 164) 165 (-1)) 162 5 165) 166 (-1)) 162 6 166) 167 (-1)) 162 8 167) 168 (-1)) 162 9 168) 169 (-1)) 162 10 169), (x_clr (x_clr (x_clr (x_clr (x_clr (x_clr (x_clr M 163 0) 164 0) 165 0) 166 0) 167 0) 168 0) 169 0)) _
  have fP : ∀ b j, b < 162 → (x_up (x_clr (x_up (x_clr (x_up (x_clr (x_up (x_clr (x_up (x_clr (x_up (x_clr (x_up (x_clr P 163 (-1)) 162 0 163) 164 (-1)) 162 1 164) 165 (-1)) 162 5 165) 166 (-1)) 162 6 166) 167 (-1)) 162 8 167) 168 (-1)) 162 9 168) 169 (-1)) 162 10 169) b j = P b j := by
    intro b j h1
    rw [x_up_ne (by omega), x_clr_ne (by omega), x_up_ne (by omega), x_clr_ne (by omega), x_up_ne (by omega), x_clr_ne (by omega), x_up_ne (by omega), x_clr_ne (by omega), x_up_ne (by omega), x_clr_ne (by omega), x_up_ne (by omega), x_clr_ne (by omega), x_up_ne (by omega), x_clr_ne (by omega)]
  have fM : ∀ b j, b < 162 → (x_clr (x_clr (x_clr (x_clr (x_clr (x_clr (x_clr M 163 0) 164 0) 165 0) 166 0) 167 0) 168 0) 169 0) b j = M b j := by
    intro b j h1
    rw [x_clr_ne (by omega), x_clr_ne (by omega), x_clr_ne (by omega), x_clr_ne (by omega), x_clr_ne (by omega), x_clr_ne (by omega), x_clr_ne (by omega)]
  have hS : x_Sh 170 (x_up (x_clr (x_up (x_clr (x_up (x_clr (x_up (x_clr (x_up (x_clr (x_up (x_clr (x_up (x_clr P 163 (-1)) 162 0 163) 164 (-1)) 162 1 164) 165 (-1)) 162 5 165) 166 (-1)) 162 6 166) 167 (-1)) 162 8 167) 168 (-1)) 162 9 168) 169 (-1)) 162 10 169) := ⟨by omega, ⟨(fP _ _ (by omega)).trans hC.1.1, (fP _ _ (by omega)).trans hC.1.2.1, (fP _ _ (by omega)).trans hC.1.2.2⟩, tp_fr hC.2.1 (fun b j h1 h2 => fP b j (by omega)), ⟨(fP _ _ (by omega)).trans hC.2.2.1, (fP _ _ (by omega)).trans hC.2.2.2.1, (fP _ _ (by omega)).trans hC.2.2.2.2.1, (fP _ _ (by omega)).trans hC.2.2.2.2.2.1, (fP _ _ (by omega)).trans hC.2.2.2.2.2.2⟩, (by rw [x_up_nk (by omega), x_clr_ne (by omega), x_up_nk (by omega), x_clr_ne (by omega), x_up_nk (by omega), x_clr_ne (by omega), x_up_nk (by omega), x_clr_ne (by omega), x_up_nk (by omega), x_clr_ne (by omega), x_up_nk (by omega), x_clr_ne (by omega), x_up_self]), (by rw [x_up_nk (by omega), x_clr_ne (by omega), x_up_nk (by omega), x_clr_ne (by omega), x_up_nk (by omega), x_clr_ne (by omega), x_up_nk (by omega), x_clr_ne (by omega), x_up_nk (by omega), x_clr_ne (by omega), x_up_self]), (by rw [x_up_nk (by omega), x_clr_ne (by omega), x_up_nk (by omega), x_clr_ne (by omega), x_up_nk (by omega), x_clr_ne (by omega), x_up_nk (by omega), x_clr_ne (by omega), x_up_self]), (by rw [x_up_nk (by omega), x_clr_ne (by omega), x_up_nk (by omega), x_clr_ne (by omega), x_up_nk (by omega), x_clr_ne (by omega), x_up_self]), (by rw [x_up_nk (by omega), x_clr_ne (by omega), x_up_nk (by omega), x_clr_ne (by omega), x_up_self]), (by rw [x_up_nk (by omega), x_clr_ne (by omega), x_up_self]), (by rw [x_up_self])⟩
  rw [x_row_self (x_clr (x_clr (x_clr (x_clr (x_clr (x_clr (x_clr M 163 0) 164 0) 165 0) 166 0) 167 0) 168 0) 169 0) 163]
  refine c_mo2 hS (fun v A hA => ?_) 12 0 _ _ (by omega) (by omega) (fun i => ?_)
  · exact e_vret (k := 60) (xi112 60) ⟨_, _, A, rfl, hS, fP, fM, hA, fun k => (by rw [x_clr_ne (by omega), x_clr_ne (by omega), x_clr_ne (by omega), x_clr_ne (by omega), x_clr_ne (by omega), x_clr_ne (by omega), x_clr_ne (by omega), hM]), fun k => (by rw [x_clr_ne (by omega), x_clr_ne (by omega), x_clr_ne (by omega), x_clr_ne (by omega), x_clr_ne (by omega), x_clr_self])⟩
  · rw [x_clr_ne (by omega), x_clr_ne (by omega), x_clr_ne (by omega), x_clr_ne (by omega), x_clr_ne (by omega), x_clr_ne (by omega), x_clr_self]
    unfold a_F
    rw [if_neg (by omega)]
end
section
/-! NEW STANDS, COPIES OF TOWNS -/
theorem s_fg1 {z s : Int} {P M0 : Int → Int → Int} {r : Option xV × xH → Prop} (hS : x_Sh z P) (hs : 0 ≤ s ∧ s < 12) (kk : ∀ M, ((∀ b j, ¬ (b = 8 + 7 * s ∨ b = 9 + 7 * s) → M b j = M0 b j) ∧ ∀ h, 0 ≤ h ∧ h < 24 → M (8 + 7 * s) h = 0 ∧ M (9 + 7 * s) h = 0) → x_Ev 9 20 [.inr (7 + 7 * s), .inl 24] [] (0, 0) (z, P, M) r) : ∀ (k : Nat) (i : Int) (M : Int → Int → Int), i + k = 24 → 0 ≤ i → ((∀ b j, ¬ (b = 8 + 7 * s ∨ b = 9 + 7 * s) → M b j = M0 b j) ∧ ∀ h, 0 ≤ h ∧ h < i → M (8 + 7 * s) h = 0 ∧ M (9 + 7 * s) h = 0) → x_Ev 9 5 [.inr (7 + 7 * s), .inl (i)] [] (0, 0) (z, P, M) r := by
  intro k
  induction k with
  | zero =>
    intro i M he hi hT
    have hi2 : i = 24 := by omega
    subst hi2
    refine e_iload (k := 5) (xi9 5) rfl ?_
    refine e_iconst (k := 6) (xi9 6) ?_
    refine e_c_ge (k := 7) (xi9 7) (fun c0 => ?_) (fun q => absurd (by omega) q)
    exact kk _ hT
  | succ k ih =>
    intro i M he hi hT
    refine e_iload (k := 5) (xi9 5) rfl ?_
    refine e_iconst (k := 6) (xi9 6) ?_
    refine e_c_ge (k := 7) (xi9 7) (fun q => absurd q (by omega)) (fun c0 => ?_)
    refine e_aload (k := 8) (xi9 8) rfl (by omega) ?_
    refine e_getR (j := 1) (w := 8 + 7 * s) (k := 9) (xi9 9) (ok_dem hS hs) rfl (sh_br hS hs) ?_
    refine e_iload (k := 10) (xi9 10) rfl ?_
    refine e_iconst (k := 11) (xi9 11) ?_
    refine e_iast (k := 12) (xi9 12) (ok_br hS hs) (by rw [(ln_br hs)]; omega) ?_
    refine e_aload (k := 13) (xi9 13) rfl (by omega) ?_
    refine e_getR (j := 2) (w := 9 + 7 * s) (k := 14) (xi9 14) (ok_dem hS hs) rfl (sh_wa hS hs) ?_
    refine e_iload (k := 15) (xi9 15) rfl ?_
    refine e_iconst (k := 16) (xi9 16) ?_
    refine e_iast (k := 17) (xi9 17) (ok_wa hS hs) (by rw [(ln_wa hs)]; omega) ?_
    refine e_iinc (w := 1 + i) (k := 18) (xi9 18) rfl (x_wn (by omega)) ?_
    show x_Ev 9 19 [.inr (7 + 7 * s), .inl (1 + i)] [] (0, 0) (z, P, (x_up ((x_up M (8 + 7 * s) i 0)) (9 + 7 * s) i 0)) _
    refine e_goto (k := 19) (xi9 19) ?_
    refine ih (1 + i) _ (by omega) (by omega) ?_
    refine ⟨fun b j h => ?_, fun h hh => ?_⟩
    · rw [x_up_ne (by omega), x_up_ne (by omega)]; exact hT.1 b j h
    · by_cases q : h = i
      · subst q
        exact ⟨(x_up_ne (by omega)).trans x_up_self, x_up_self⟩
      · rw [x_up_ne (by omega), x_up_nk (by omega), x_up_nk (by omega), x_up_ne (by omega)]
        exact hT.2 h (by omega)
theorem s_forget {z s : Int} {P M : Int → Int → Int} (hS : x_Sh z P) (hs : 0 ≤ s ∧ s < 12) : x_CallR 9 [.inr (7 + 7 * s)] (z, P, M) (fun q => ∃ M1, q = (none, (z, P, M1)) ∧ (∀ b j, (b < 7 + 7 * s ∨ 10 + 7 * s ≤ b) → M1 b j = M b j) ∧ M1 (7 + 7 * s) 0 = 0 ∧ ∀ h, 0 ≤ h ∧ h < 24 → M1 (8 + 7 * s) h = 0 ∧ M1 (9 + 7 * s) h = 0) := by
  refine e_body (ls0 := [.inr (7 + 7 * s), x_un]) xm9 rfl ?_
  refine e_aload (k := 0) (xi9 0) rfl (by omega) ?_
  refine e_iconst (k := 1) (xi9 1) ?_
  refine e_putZ (j := 0) (k := 2) (xi9 2) (ok_dem hS hs) rfl (by first | decide | omega) ?_
  refine e_iconst (k := 3) (xi9 3) ?_
  refine e_istore (k := 4) (xi9 4) (Nat.le_of_ble_eq_true rfl) ?_
  show x_Ev 9 5 [.inr (7 + 7 * s), .inl 0] [] (0, 0) (z, P, (x_up M (7 + 7 * s) 0 0)) _
  refine s_fg1 (M0 := (x_up M (7 + 7 * s) 0 0)) hS hs (fun M1 hT => ?_) 24 0 _ (by omega) (by omega) ⟨fun b j h => rfl, fun h hh => absurd hh (by omega)⟩
  refine e_vret (k := 20) (xi9 20) ⟨M1, rfl, fun b j h => ?_, ?_, hT.2⟩
  · rw [hT.1 b j (by omega), x_up_ne (by omega)]
  · rw [hT.1 _ _ (by omega)]; exact x_up_self
theorem s_su1 {z s : Int} {P M0 : Int → Int → Int} {r : Option xV × xH → Prop} (hS : x_Sh z P) (hs : 0 ≤ s ∧ s < 12) {n : Int} (kk : ∀ M, ((∀ b j, b ≠ 4 + 7 * s → M b j = M0 b j) ∧ ∀ d, 0 ≤ d ∧ d < 12 → M (4 + 7 * s) d = -1) → x_Ev 15 24 [.inr (3 + 7 * s), .inl (n), .inl 12] [] (0, 0) (z, P, M) r) : ∀ (k : Nat) (i : Int) (M : Int → Int → Int), i + k = 12 → 0 ≤ i → ((∀ b j, b ≠ 4 + 7 * s → M b j = M0 b j) ∧ ∀ d, 0 ≤ d ∧ d < i → M (4 + 7 * s) d = -1) → x_Ev 15 14 [.inr (3 + 7 * s), .inl (n), .inl (i)] [] (0, 0) (z, P, M) r := by
  intro k
  induction k with
  | zero =>
    intro i M he hi hT
    have hi2 : i = 12 := by omega
    subst hi2
    refine e_iload (k := 14) (xi15 14) rfl ?_
    refine e_iconst (k := 15) (xi15 15) ?_
    refine e_c_ge (k := 16) (xi15 16) (fun c0 => ?_) (fun q => absurd (by omega) q)
    exact kk _ hT
  | succ k ih =>
    intro i M he hi hT
    refine e_iload (k := 14) (xi15 14) rfl ?_
    refine e_iconst (k := 15) (xi15 15) ?_
    refine e_c_ge (k := 16) (xi15 16) (fun q => absurd q (by omega)) (fun c0 => ?_)
    refine e_aload (k := 17) (xi15 17) rfl (by omega) ?_
    refine e_getR (j := 2) (w := 4 + 7 * s) (k := 18) (xi15 18) (ok_st hS hs) rfl (sh_con hS hs) ?_
    refine e_iload (k := 19) (xi15 19) rfl ?_
    refine e_iconst (k := 20) (xi15 20) ?_
    refine e_iast (k := 21) (xi15 21) (ok_con hS hs) (by rw [(ln_con hs)]; omega) ?_
    refine e_iinc (w := 1 + i) (k := 22) (xi15 22) rfl (x_wn (by omega)) ?_
    show x_Ev 15 23 [.inr (3 + 7 * s), .inl (n), .inl (1 + i)] [] (0, 0) (z, P, (x_up M (4 + 7 * s) i ((-1)))) _
    refine e_goto (k := 23) (xi15 23) ?_
    refine ih (1 + i) _ (by omega) (by omega) ?_
    refine ⟨fun b j h => (x_up_ne h).trans (hT.1 b j h), fun d hd => ?_⟩
    by_cases q : d = i
    · subst q; exact x_up_self
    · rw [x_up_nk q]; exact hT.2 d (by omega)
theorem s_su2 {z s : Int} {P M0 : Int → Int → Int} {r : Option xV × xH → Prop} (hS : x_Sh z P) (hs : 0 ≤ s ∧ s < 12) {n : Int} (hN : M0 (3 + 7 * s) 0 = s) (kk : ∀ M, ((∀ b j, b ≠ 5 + 7 * s → M b j = M0 b j) ∧ ∀ d, 0 ≤ d ∧ d < 12 → M (5 + 7 * s) d = if d = s then 0 else 999) → x_Ev 15 42 [.inr (3 + 7 * s), .inl (n), .inl 12] [] (0, 0) (z, P, M) r) : ∀ (k : Nat) (i : Int) (M : Int → Int → Int), i + k = 12 → 0 ≤ i → ((∀ b j, b ≠ 5 + 7 * s → M b j = M0 b j) ∧ ∀ d, 0 ≤ d ∧ d < i → M (5 + 7 * s) d = if d = s then 0 else 999) → x_Ev 15 26 [.inr (3 + 7 * s), .inl (n), .inl (i)] [] (0, 0) (z, P, M) r := by
  intro k
  induction k with
  | zero =>
    intro i M he hi hT
    have hi2 : i = 12 := by omega
    subst hi2
    refine e_iload (k := 26) (xi15 26) rfl ?_
    refine e_iconst (k := 27) (xi15 27) ?_
    refine e_c_ge (k := 28) (xi15 28) (fun c0 => ?_) (fun q => absurd (by omega) q)
    exact kk _ hT
  | succ k ih =>
    intro i M he hi hT
    refine e_iload (k := 26) (xi15 26) rfl ?_
    refine e_iconst (k := 27) (xi15 27) ?_
    refine e_c_ge (k := 28) (xi15 28) (fun q => absurd q (by omega)) (fun c0 => ?_)
    refine e_aload (k := 29) (xi15 29) rfl (by omega) ?_
    refine e_getR (j := 3) (w := 5 + 7 * s) (k := 30) (xi15 30) (ok_st hS hs) rfl (sh_len hS hs) ?_
    refine e_iload (k := 31) (xi15 31) rfl ?_
    refine e_iload (k := 32) (xi15 32) rfl ?_
    refine e_aload (k := 33) (xi15 33) rfl (by omega) ?_
    refine e_getI (j := 0) (w := s) (k := 34) (xi15 34) (ok_st hS hs) rfl (((hT.1 _ _ (by omega)).trans hN)) ?_
    refine e_c_ne (k := 35) (xi15 35) (fun c1 => ?_) (fun c1 => ?_)
    · skip
      refine e_iconst (k := 38) (xi15 38) ?_
      refine e_iast (k := 39) (xi15 39) (ok_len hS hs) (by rw [(ln_len hs)]; omega) ?_
      refine e_iinc (w := 1 + i) (k := 40) (xi15 40) rfl (x_wn (by omega)) ?_
      show x_Ev 15 41 [.inr (3 + 7 * s), .inl (n), .inl (1 + i)] [] (0, 0) (z, P, (x_up M (5 + 7 * s) i 999)) _
      refine e_goto (k := 41) (xi15 41) ?_
      refine ih (1 + i) _ (by omega) (by omega) ?_
      refine ⟨fun b j h => (x_up_ne h).trans (hT.1 b j h), fun d hd => ?_⟩
      by_cases q : d = i
      · subst q; exact x_up_self.trans (if_neg c1).symm
      · rw [x_up_nk q]; exact hT.2 d (by omega)
    · skip
      refine e_iconst (k := 36) (xi15 36) ?_
      refine e_goto (k := 37) (xi15 37) ?_
      refine e_iast (k := 39) (xi15 39) (ok_len hS hs) (by rw [(ln_len hs)]; omega) ?_
      refine e_iinc (w := 1 + i) (k := 40) (xi15 40) rfl (x_wn (by omega)) ?_
      show x_Ev 15 41 [.inr (3 + 7 * s), .inl (n), .inl (1 + i)] [] (0, 0) (z, P, (x_up M (5 + 7 * s) i 0)) _
      refine e_goto (k := 41) (xi15 41) ?_
      refine ih (1 + i) _ (by omega) (by omega) ?_
      refine ⟨fun b j h => (x_up_ne h).trans (hT.1 b j h), fun d hd => ?_⟩
      by_cases q : d = i
      · subst q; exact x_up_self.trans (if_pos (Classical.byContradiction c1)).symm
      · rw [x_up_nk q]; exact hT.2 d (by omega)
theorem s_setUp {z s : Int} {P M : Int → Int → Int} (hS : x_Sh z P) (hs : 0 ≤ s ∧ s < 12) {n : Int} (hN : M (3 + 7 * s) 0 = s) : x_CallR 15 [.inr (3 + 7 * s), .inl (n)] (z, P, M) (fun q => ∃ M1, q = (none, (z, P, M1)) ∧ (∀ b j, (b < 3 + 7 * s ∨ 10 + 7 * s ≤ b) → M1 b j = M b j) ∧ (M1 (3 + 7 * s) 0 = s ∧ M1 (3 + 7 * s) 1 = n ∧ M1 (3 + 7 * s) 5 = -1 ∧ M1 (3 + 7 * s) 6 = -1 ∧ M1 (3 + 7 * s) 7 = 0) ∧ (∀ d, 0 ≤ d ∧ d < 12 → M1 (4 + 7 * s) d = -1) ∧ (∀ d, 0 ≤ d ∧ d < 12 → M1 (5 + 7 * s) d = if d = s then 0 else 999) ∧ M1 (7 + 7 * s) 0 = 0 ∧ ∀ h, 0 ≤ h ∧ h < 24 → M1 (8 + 7 * s) h = 0 ∧ M1 (9 + 7 * s) h = 0) := by
  refine e_body (ls0 := [.inr (3 + 7 * s), .inl (n), x_un]) xm15 rfl ?_
  refine e_aload (k := 0) (xi15 0) rfl (by omega) ?_
  refine e_iload (k := 1) (xi15 1) rfl ?_
  refine e_putI (j := 1) (k := 2) (xi15 2) (ok_st hS hs) rfl ?_
  refine e_aload (k := 3) (xi15 3) rfl (by omega) ?_
  refine e_iconst (k := 4) (xi15 4) ?_
  refine e_putI (j := 5) (k := 5) (xi15 5) (ok_st hS hs) rfl ?_
  refine e_aload (k := 6) (xi15 6) rfl (by omega) ?_
  refine e_iconst (k := 7) (xi15 7) ?_
  refine e_putI (j := 6) (k := 8) (xi15 8) (ok_st hS hs) rfl ?_
  refine e_aload (k := 9) (xi15 9) rfl (by omega) ?_
  refine e_iconst (k := 10) (xi15 10) ?_
  refine e_putI (j := 7) (k := 11) (xi15 11) (ok_st hS hs) rfl ?_
  refine e_iconst (k := 12) (xi15 12) ?_
  refine e_istore (k := 13) (xi15 13) (Nat.le_of_ble_eq_true rfl) ?_
  show x_Ev 15 14 [.inr (3 + 7 * s), .inl (n), .inl 0] [] (0, 0) (z, P, (x_up ((x_up ((x_up ((x_up M (3 + 7 * s) 1 n)) (3 + 7 * s) 5 ((-1)))) (3 + 7 * s) 6 ((-1)))) (3 + 7 * s) 7 0)) _
  have hN1 : (x_up ((x_up ((x_up ((x_up M (3 + 7 * s) 1 n)) (3 + 7 * s) 5 ((-1)))) (3 + 7 * s) 6 ((-1)))) (3 + 7 * s) 7 0) (3 + 7 * s) 0 = s := by
    rw [x_up_nk (by omega), x_up_nk (by omega), x_up_nk (by omega), x_up_nk (by omega)]; exact hN
  refine s_su1 (M0 := (x_up ((x_up ((x_up ((x_up M (3 + 7 * s) 1 n)) (3 + 7 * s) 5 ((-1)))) (3 + 7 * s) 6 ((-1)))) (3 + 7 * s) 7 0)) hS hs (fun M1 hT1 => ?_) 12 0 _ (by omega) (by omega) ⟨fun b j h => rfl, fun h hh => absurd hh (by omega)⟩
  refine e_iconst (k := 24) (xi15 24) ?_
  refine e_istore (k := 25) (xi15 25) (Nat.le_of_ble_eq_true rfl) ?_
  show x_Ev 15 26 [.inr (3 + 7 * s), .inl (n), .inl 0] [] (0, 0) (z, P, M1) _
  refine s_su2 (M0 := M1) hS hs ((hT1.1 _ _ (by omega)).trans hN1) (fun M2 hT2 => ?_) 12 0 _ (by omega) (by omega) ⟨fun b j h => rfl, fun h hh => absurd hh (by omega)⟩
  have g : ∀ b j, b ≠ 4 + 7 * s → b ≠ 5 + 7 * s → M2 b j = (x_up ((x_up ((x_up ((x_up M (3 + 7 * s) 1 n)) (3 + 7 * s) 5 ((-1)))) (3 + 7 * s) 6 ((-1)))) (3 + 7 * s) 7 0) b j := fun b j h1 h2 => (hT2.1 b j h2).trans (hT1.1 b j h1)
  refine e_aload (k := 42) (xi15 42) rfl (by omega) ?_
  refine e_getR (j := 8) (w := 7 + 7 * s) (k := 43) (xi15 43) (ok_st hS hs) rfl (sh_dem hS hs) ?_
  refine e_callR (k := 44) (c1 := 0) (c2 := 0) (rest := []) (as := [.inr (7 + 7 * s)]) (xi15 44) (by decide) xm9 rfl ⟨rfl, Nat.le_of_ble_eq_true rfl, by decide⟩ (Or.inr (x_okt (ok_dem hS hs))) (s_forget hS hs) ?_
  rintro v h1 ⟨M3, hq, f, f0, f1⟩
  cases hq
  refine e_vret (k := 45) (xi15 45) ⟨M3, rfl, fun b j h => ?_, ⟨?_, ?_, ?_, ?_, ?_⟩, fun d hd => ?_, fun d hd => ?_, f0, f1⟩
  · rw [f b j (by omega), g b j (by omega) (by omega), x_up_ne (by omega), x_up_ne (by omega), x_up_ne (by omega), x_up_ne (by omega)]
  · rw [f _ _ (by omega), g _ _ (by omega) (by omega)]; exact hN1
  · rw [f _ _ (by omega), g _ _ (by omega) (by omega), x_up_nk (by omega), x_up_nk (by omega), x_up_nk (by omega), x_up_self]
  · rw [f _ _ (by omega), g _ _ (by omega) (by omega), x_up_nk (by omega), x_up_nk (by omega), x_up_self]
  · rw [f _ _ (by omega), g _ _ (by omega) (by omega), x_up_nk (by omega), x_up_self]
  · rw [f _ _ (by omega), g _ _ (by omega) (by omega), x_up_self]
  · rw [f _ _ (by omega), hT2.1 _ _ (by omega)]; exact hT1.2 d hd
  · rw [f _ _ (by omega)]; exact hT2.2 d hd
end
section
/-! COPIES -/
theorem x_cp_at {f : Int → Int → Int} {a0 a n j : Int} (h : 0 ≤ j ∧ j < n) : x_cp f a0 0 a 0 n a j = f a0 j := by
  unfold x_cp
  rw [if_pos ⟨rfl, by omega, by omega⟩]
  congr 1
  omega
theorem x_cp_ne {f : Int → Int → Int} {a0 sp a dp n b j : Int} (h : b ≠ a) : x_cp f a0 sp a dp n b j = f b j := by
  unfold x_cp
  rw [if_neg (fun q => h q.1)]
def x_KD (a : Int) : Prop := x_kd a = 1 ∧ (x_kd (1 + a) = 8 ∧ x_ln (1 + a) = 24) ∧ x_kd (2 + a) = 8 ∧ x_ln (2 + a) = 24
def x_PD (P : Int → Int → Int) (a : Int) : Prop := P a 1 = 1 + a ∧ P a 2 = 2 + a
def x_KS (a : Int) : Prop := x_kd a = 2 ∧ (x_kd (1 + a) = 8 ∧ x_ln (1 + a) = 12) ∧ (x_kd (2 + a) = 8 ∧ x_ln (2 + a) = 12) ∧ (x_kd (3 + a) = 8 ∧ x_ln (3 + a) = 8) ∧ x_KD (4 + a)
def x_PS (P : Int → Int → Int) (a : Int) : Prop := (P a 2 = 1 + a ∧ P a 3 = 2 + a ∧ P a 4 = 3 + a ∧ P a 8 = 4 + a) ∧ x_PD P (4 + a)
theorem c_cpw {z a c : Int} {P M : Int → Int → Int} (ha : 0 ≤ a ∧ a < z ∧ x_kd a = 5) (hc : 0 ≤ c ∧ c < z ∧ x_kd c = 5) (hac : ¬ a = c) (hz : (M c 7 = 0 ∨ M c 7 = 1) ∧ (M c 8 = 0 ∨ M c 8 = 1)) : x_CallR 67 [.inr (a), .inr (c)] (z, P, M) (fun q => ∃ M1, q = (none, (z, P, M1)) ∧ (∀ b j, ¬ b = a → M1 b j = M b j) ∧ M1 a 0 = M a 0 ∧ ∀ j, 1 ≤ j ∧ j ≤ 9 → M1 a j = M c j) := by
  refine e_body (ls0 := [.inr (a), .inr (c)]) xm67 rfl ?_
  refine e_aload (k := 0) (xi67 0) rfl (by omega) ?_
  refine e_aload (k := 1) (xi67 1) rfl (by omega) ?_
  refine e_getI (j := 1) (w := M c 1) (k := 2) (xi67 2) ⟨by omega, by omega, hc.2.2⟩ rfl rfl ?_
  refine e_putI (j := 1) (k := 3) (xi67 3) ⟨by omega, by omega, ha.2.2⟩ rfl ?_
  refine e_aload (k := 4) (xi67 4) rfl (by omega) ?_
  refine e_aload (k := 5) (xi67 5) rfl (by omega) ?_
  refine e_getI (j := 2) (w := M c 2) (k := 6) (xi67 6) ⟨by omega, by omega, hc.2.2⟩ rfl (by rw [x_up_ne (by omega)]) ?_
  refine e_putI (j := 2) (k := 7) (xi67 7) ⟨by omega, by omega, ha.2.2⟩ rfl ?_
  refine e_aload (k := 8) (xi67 8) rfl (by omega) ?_
  refine e_aload (k := 9) (xi67 9) rfl (by omega) ?_
  refine e_getI (j := 3) (w := M c 3) (k := 10) (xi67 10) ⟨by omega, by omega, hc.2.2⟩ rfl (by rw [x_up_ne (by omega), x_up_ne (by omega)]) ?_
  refine e_putI (j := 3) (k := 11) (xi67 11) ⟨by omega, by omega, ha.2.2⟩ rfl ?_
  refine e_aload (k := 12) (xi67 12) rfl (by omega) ?_
  refine e_aload (k := 13) (xi67 13) rfl (by omega) ?_
  refine e_getI (j := 4) (w := M c 4) (k := 14) (xi67 14) ⟨by omega, by omega, hc.2.2⟩ rfl (by rw [x_up_ne (by omega), x_up_ne (by omega), x_up_ne (by omega)]) ?_
  refine e_putI (j := 4) (k := 15) (xi67 15) ⟨by omega, by omega, ha.2.2⟩ rfl ?_
  refine e_aload (k := 16) (xi67 16) rfl (by omega) ?_
  refine e_aload (k := 17) (xi67 17) rfl (by omega) ?_
  refine e_getI (j := 5) (w := M c 5) (k := 18) (xi67 18) ⟨by omega, by omega, hc.2.2⟩ rfl (by rw [x_up_ne (by omega), x_up_ne (by omega), x_up_ne (by omega), x_up_ne (by omega)]) ?_
  refine e_putI (j := 5) (k := 19) (xi67 19) ⟨by omega, by omega, ha.2.2⟩ rfl ?_
  refine e_aload (k := 20) (xi67 20) rfl (by omega) ?_
  refine e_aload (k := 21) (xi67 21) rfl (by omega) ?_
  refine e_getI (j := 6) (w := M c 6) (k := 22) (xi67 22) ⟨by omega, by omega, hc.2.2⟩ rfl (by rw [x_up_ne (by omega), x_up_ne (by omega), x_up_ne (by omega), x_up_ne (by omega), x_up_ne (by omega)]) ?_
  refine e_putI (j := 6) (k := 23) (xi67 23) ⟨by omega, by omega, ha.2.2⟩ rfl ?_
  refine e_aload (k := 24) (xi67 24) rfl (by omega) ?_
  refine e_aload (k := 25) (xi67 25) rfl (by omega) ?_
  refine e_getI (j := 7) (w := M c 7) (k := 26) (xi67 26) ⟨by omega, by omega, hc.2.2⟩ rfl (by rw [x_up_ne (by omega), x_up_ne (by omega), x_up_ne (by omega), x_up_ne (by omega), x_up_ne (by omega), x_up_ne (by omega)]) ?_
  refine e_putZ (j := 7) (k := 27) (xi67 27) ⟨by omega, by omega, ha.2.2⟩ rfl hz.1 ?_
  refine e_aload (k := 28) (xi67 28) rfl (by omega) ?_
  refine e_aload (k := 29) (xi67 29) rfl (by omega) ?_
  refine e_getI (j := 8) (w := M c 8) (k := 30) (xi67 30) ⟨by omega, by omega, hc.2.2⟩ rfl (by rw [x_up_ne (by omega), x_up_ne (by omega), x_up_ne (by omega), x_up_ne (by omega), x_up_ne (by omega), x_up_ne (by omega), x_up_ne (by omega)]) ?_
  refine e_putZ (j := 8) (k := 31) (xi67 31) ⟨by omega, by omega, ha.2.2⟩ rfl hz.2 ?_
  refine e_aload (k := 32) (xi67 32) rfl (by omega) ?_
  refine e_aload (k := 33) (xi67 33) rfl (by omega) ?_
  refine e_getI (j := 9) (w := M c 9) (k := 34) (xi67 34) ⟨by omega, by omega, hc.2.2⟩ rfl (by rw [x_up_ne (by omega), x_up_ne (by omega), x_up_ne (by omega), x_up_ne (by omega), x_up_ne (by omega), x_up_ne (by omega), x_up_ne (by omega), x_up_ne (by omega)]) ?_
  refine e_putI (j := 9) (k := 35) (xi67 35) ⟨by omega, by omega, ha.2.2⟩ rfl ?_
  refine e_vret (k := 36) (xi67 36) ?_
  refine ⟨(x_up (x_up (x_up (x_up (x_up (x_up (x_up (x_up (x_up M a 1 (M c 1)) a 2 (M c 2)) a 3 (M c 3)) a 4 (M c 4)) a 5 (M c 5)) a 6 (M c 6)) a 7 (M c 7)) a 8 (M c 8)) a 9 (M c 9)), rfl, ?_, ?_, ?_⟩
  · intro b j h
    rw [x_up_ne (by omega), x_up_ne (by omega), x_up_ne (by omega), x_up_ne (by omega), x_up_ne (by omega), x_up_ne (by omega), x_up_ne (by omega), x_up_ne (by omega), x_up_ne (by omega)]
  · rw [x_up_nk (by omega), x_up_nk (by omega), x_up_nk (by omega), x_up_nk (by omega), x_up_nk (by omega), x_up_nk (by omega), x_up_nk (by omega), x_up_nk (by omega), x_up_nk (by omega)]
  · intro j hj
    have hjs : j = 1 ∨ j = 2 ∨ j = 3 ∨ j = 4 ∨ j = 5 ∨ j = 6 ∨ j = 7 ∨ j = 8 ∨ j = 9 := by omega
    rcases hjs with rfl | rfl | rfl | rfl | rfl | rfl | rfl | rfl | rfl
    · rw [x_up_nk (by omega), x_up_nk (by omega), x_up_nk (by omega), x_up_nk (by omega), x_up_nk (by omega), x_up_nk (by omega), x_up_nk (by omega), x_up_nk (by omega), x_up_self]
    · rw [x_up_nk (by omega), x_up_nk (by omega), x_up_nk (by omega), x_up_nk (by omega), x_up_nk (by omega), x_up_nk (by omega), x_up_nk (by omega), x_up_self]
    · rw [x_up_nk (by omega), x_up_nk (by omega), x_up_nk (by omega), x_up_nk (by omega), x_up_nk (by omega), x_up_nk (by omega), x_up_self]
    · rw [x_up_nk (by omega), x_up_nk (by omega), x_up_nk (by omega), x_up_nk (by omega), x_up_nk (by omega), x_up_self]
    · rw [x_up_nk (by omega), x_up_nk (by omega), x_up_nk (by omega), x_up_nk (by omega), x_up_self]
    · rw [x_up_nk (by omega), x_up_nk (by omega), x_up_nk (by omega), x_up_self]
    · rw [x_up_nk (by omega), x_up_nk (by omega), x_up_self]
    · rw [x_up_nk (by omega), x_up_self]
    · rw [x_up_self]
theorem c_cpc {z a c : Int} {P M : Int → Int → Int} (ha : 0 ≤ a ∧ 1 + a < z ∧ x_kd a = 0 ∧ x_kd (1 + a) = 8 ∧ x_ln (1 + a) = 8) (hc : 0 ≤ c ∧ 1 + c < z ∧ x_kd c = 0 ∧ x_kd (1 + c) = 8 ∧ x_ln (1 + c) = 8) (hp : P a 5 = 1 + a ∧ P c 5 = 1 + c) (hac : a + 2 ≤ c ∨ c + 2 ≤ a) : x_CallR 2 [.inr (a), .inr (c)] (z, P, M) (fun q => ∃ M1, q = (none, (z, P, M1)) ∧ (∀ b j, (b < a ∨ a + 1 < b) → M1 b j = M b j) ∧ M1 a 0 = M a 0 ∧ M1 a 1 = M c 1 ∧ M1 a 2 = M c 2 ∧ M1 a 3 = M c 3 ∧ M1 a 4 = M c 4 ∧ M1 a 6 = M c 6 ∧ ∀ j, 0 ≤ j ∧ j < 8 → M1 (1 + a) j = M (1 + c) j) := by
  refine e_body (ls0 := [.inr (a), .inr (c)]) xm2 rfl ?_
  refine e_aload (k := 0) (xi2 0) rfl (by omega) ?_
  refine e_aload (k := 1) (xi2 1) rfl (by omega) ?_
  refine e_getI (j := 1) (w := M c 1) (k := 2) (xi2 2) ⟨by omega, by omega, hc.2.2.1⟩ rfl rfl ?_
  refine e_putI (j := 1) (k := 3) (xi2 3) ⟨by omega, by omega, ha.2.2.1⟩ rfl ?_
  refine e_aload (k := 4) (xi2 4) rfl (by omega) ?_
  refine e_aload (k := 5) (xi2 5) rfl (by omega) ?_
  refine e_getI (j := 2) (w := M c 2) (k := 6) (xi2 6) ⟨by omega, by omega, hc.2.2.1⟩ rfl (by rw [x_up_ne (by omega)]) ?_
  refine e_putI (j := 2) (k := 7) (xi2 7) ⟨by omega, by omega, ha.2.2.1⟩ rfl ?_
  refine e_aload (k := 8) (xi2 8) rfl (by omega) ?_
  refine e_aload (k := 9) (xi2 9) rfl (by omega) ?_
  refine e_getI (j := 3) (w := M c 3) (k := 10) (xi2 10) ⟨by omega, by omega, hc.2.2.1⟩ rfl (by rw [x_up_ne (by omega), x_up_ne (by omega)]) ?_
  refine e_putI (j := 3) (k := 11) (xi2 11) ⟨by omega, by omega, ha.2.2.1⟩ rfl ?_
  refine e_aload (k := 12) (xi2 12) rfl (by omega) ?_
  refine e_aload (k := 13) (xi2 13) rfl (by omega) ?_
  refine e_getI (j := 4) (w := M c 4) (k := 14) (xi2 14) ⟨by omega, by omega, hc.2.2.1⟩ rfl (by rw [x_up_ne (by omega), x_up_ne (by omega), x_up_ne (by omega)]) ?_
  refine e_putI (j := 4) (k := 15) (xi2 15) ⟨by omega, by omega, ha.2.2.1⟩ rfl ?_
  refine e_aload (k := 16) (xi2 16) rfl (by omega) ?_
  refine e_aload (k := 17) (xi2 17) rfl (by omega) ?_
  refine e_getI (j := 6) (w := M c 6) (k := 18) (xi2 18) ⟨by omega, by omega, hc.2.2.1⟩ rfl (by rw [x_up_ne (by omega), x_up_ne (by omega), x_up_ne (by omega), x_up_ne (by omega)]) ?_
  refine e_putI (j := 6) (k := 19) (xi2 19) ⟨by omega, by omega, ha.2.2.1⟩ rfl ?_
  refine e_aload (k := 20) (xi2 20) rfl (by omega) ?_
  refine e_getR (j := 5) (w := 1 + c) (k := 21) (xi2 21) ⟨by omega, by omega, hc.2.2.1⟩ rfl hp.2 ?_
  refine e_iconst (k := 22) (xi2 22) ?_
  refine e_aload (k := 23) (xi2 23) rfl (by omega) ?_
  refine e_getR (j := 5) (w := 1 + a) (k := 24) (xi2 24) ⟨by omega, by omega, ha.2.2.1⟩ rfl hp.1 ?_
  refine e_iconst (k := 25) (xi2 25) ?_
  refine e_iconst (k := 26) (xi2 26) ?_
  refine e_copy (k := 27) (xi2 27) ⟨by omega, by omega, ha.2.2.2.1⟩ ⟨by omega, by omega, hc.2.2.2.1⟩ (by rw [hc.2.2.2.2, ha.2.2.2.2]; refine ⟨by omega, by omega, by omega, by omega, by omega, Nat.le_of_ble_eq_true rfl⟩) ?_
  refine e_vret (k := 28) (xi2 28) ?_
  refine ⟨(x_cp (x_up (x_up (x_up (x_up (x_up M a 1 (M c 1)) a 2 (M c 2)) a 3 (M c 3)) a 4 (M c 4)) a 6 (M c 6)) (1 + c) 0 (1 + a) 0 8), rfl, ?_, ?_, ?_, ?_, ?_, ?_, ?_, ?_⟩
  · intro b j h
    rw [x_cp_ne (by omega), x_up_ne (by omega), x_up_ne (by omega), x_up_ne (by omega), x_up_ne (by omega), x_up_ne (by omega)]
  · rw [x_cp_ne (by omega), x_up_nk (by omega), x_up_nk (by omega), x_up_nk (by omega), x_up_nk (by omega), x_up_nk (by omega)]
  · rw [x_cp_ne (by omega), x_up_nk (by omega), x_up_nk (by omega), x_up_nk (by omega), x_up_nk (by omega), x_up_self]
  · rw [x_cp_ne (by omega), x_up_nk (by omega), x_up_nk (by omega), x_up_nk (by omega), x_up_self]
  · rw [x_cp_ne (by omega), x_up_nk (by omega), x_up_nk (by omega), x_up_self]
  · rw [x_cp_ne (by omega), x_up_nk (by omega), x_up_self]
  · rw [x_cp_ne (by omega), x_up_self]
  · intro j hj
    rw [x_cp_at (by omega), x_up_ne (by omega), x_up_ne (by omega), x_up_ne (by omega), x_up_ne (by omega), x_up_ne (by omega)]
theorem c_cpd {z a c : Int} {P M : Int → Int → Int} (ha : 0 ≤ a ∧ 2 + a < z) (hc : 0 ≤ c ∧ 2 + c < z) (hka : x_KD a) (hkc : x_KD c) (hpa : x_PD P a) (hpc : x_PD P c) (hac : a + 3 ≤ c ∨ c + 3 ≤ a) (hz : M c 0 = 0 ∨ M c 0 = 1) : x_CallR 10 [.inr (a), .inr (c)] (z, P, M) (fun q => ∃ M1, q = (none, (z, P, M1)) ∧ (∀ b j, (b < a ∨ a + 2 < b) → M1 b j = M b j) ∧ M1 a 0 = M c 0 ∧ (∀ j, 0 ≤ j ∧ j < 24 → M1 (1 + a) j = M (1 + c) j) ∧ ∀ j, 0 ≤ j ∧ j < 24 → M1 (2 + a) j = M (2 + c) j) := by
  refine e_body (ls0 := [.inr (a), .inr (c)]) xm10 rfl ?_
  refine e_aload (k := 0) (xi10 0) rfl (by omega) ?_
  refine e_aload (k := 1) (xi10 1) rfl (by omega) ?_
  refine e_getI (j := 0) (w := M c 0) (k := 2) (xi10 2) ⟨by omega, by omega, hkc.1⟩ rfl rfl ?_
  refine e_putZ (j := 0) (k := 3) (xi10 3) ⟨by omega, by omega, hka.1⟩ rfl hz ?_
  refine e_aload (k := 4) (xi10 4) rfl (by omega) ?_
  refine e_getR (j := 1) (w := 1 + c) (k := 5) (xi10 5) ⟨by omega, by omega, hkc.1⟩ rfl hpc.1 ?_
  refine e_iconst (k := 6) (xi10 6) ?_
  refine e_aload (k := 7) (xi10 7) rfl (by omega) ?_
  refine e_getR (j := 1) (w := 1 + a) (k := 8) (xi10 8) ⟨by omega, by omega, hka.1⟩ rfl hpa.1 ?_
  refine e_iconst (k := 9) (xi10 9) ?_
  refine e_iconst (k := 10) (xi10 10) ?_
  refine e_copy (k := 11) (xi10 11) ⟨by omega, by omega, hka.2.1.1⟩ ⟨by omega, by omega, hkc.2.1.1⟩ (by rw [hkc.2.1.2, hka.2.1.2]; refine ⟨by omega, by omega, by omega, by omega, by omega, Nat.le_of_ble_eq_true rfl⟩) ?_
  refine e_aload (k := 12) (xi10 12) rfl (by omega) ?_
  refine e_getR (j := 2) (w := 2 + c) (k := 13) (xi10 13) ⟨by omega, by omega, hkc.1⟩ rfl hpc.2 ?_
  refine e_iconst (k := 14) (xi10 14) ?_
  refine e_aload (k := 15) (xi10 15) rfl (by omega) ?_
  refine e_getR (j := 2) (w := 2 + a) (k := 16) (xi10 16) ⟨by omega, by omega, hka.1⟩ rfl hpa.2 ?_
  refine e_iconst (k := 17) (xi10 17) ?_
  refine e_iconst (k := 18) (xi10 18) ?_
  refine e_copy (k := 19) (xi10 19) ⟨by omega, by omega, hka.2.2.1⟩ ⟨by omega, by omega, hkc.2.2.1⟩ (by rw [hkc.2.2.2, hka.2.2.2]; refine ⟨by omega, by omega, by omega, by omega, by omega, Nat.le_of_ble_eq_true rfl⟩) ?_
  refine e_vret (k := 20) (xi10 20) ?_
  refine ⟨(x_cp (x_cp (x_up M a 0 (M c 0)) (1 + c) 0 (1 + a) 0 24) (2 + c) 0 (2 + a) 0 24), rfl, ?_, ?_, ?_, ?_⟩
  · intro b j h
    rw [x_cp_ne (by omega), x_cp_ne (by omega), x_up_ne (by omega)]
  · rw [x_cp_ne (by omega), x_cp_ne (by omega), x_up_self]
  · intro j hj
    rw [x_cp_ne (by omega), x_cp_at (by omega), x_up_ne (by omega)]
  · intro j hj
    rw [x_cp_at (by omega), x_cp_ne (by omega), x_up_ne (by omega)]
theorem c_cps {z a c : Int} {P M : Int → Int → Int} (ha : 0 ≤ a ∧ 6 + a < z) (hc : 0 ≤ c ∧ 6 + c < z) (hka : x_KS a) (hkc : x_KS c) (hpa : x_PS P a) (hpc : x_PS P c) (hac : a + 7 ≤ c ∨ c + 7 ≤ a) (hz : M (4 + c) 0 = 0 ∨ M (4 + c) 0 = 1) : x_CallR 16 [.inr (a), .inr (c)] (z, P, M) (fun q => ∃ M1, q = (none, (z, P, M1)) ∧ (∀ b j, (b < a ∨ a + 6 < b) → M1 b j = M b j) ∧ M1 a 0 = M a 0 ∧ M1 a 1 = M c 1 ∧ M1 a 5 = M c 5 ∧ M1 a 6 = M c 6 ∧ M1 a 7 = M c 7 ∧ (∀ j, 0 ≤ j ∧ j < 12 → M1 (1 + a) j = M (1 + c) j) ∧ (∀ j, 0 ≤ j ∧ j < 12 → M1 (2 + a) j = M (2 + c) j) ∧ (∀ j, 0 ≤ j ∧ j < 8 → M1 (3 + a) j = M (3 + c) j) ∧ M1 (4 + a) 0 = M (4 + c) 0 ∧ (∀ j, 0 ≤ j ∧ j < 24 → M1 (1 + (4 + a)) j = M (1 + (4 + c)) j) ∧ ∀ j, 0 ≤ j ∧ j < 24 → M1 (2 + (4 + a)) j = M (2 + (4 + c)) j) := by
  refine e_body (ls0 := [.inr (a), .inr (c)]) xm16 rfl ?_
  refine e_aload (k := 0) (xi16 0) rfl (by omega) ?_
  refine e_aload (k := 1) (xi16 1) rfl (by omega) ?_
  refine e_getI (j := 1) (w := M c 1) (k := 2) (xi16 2) ⟨by omega, by omega, hkc.1⟩ rfl rfl ?_
  refine e_putI (j := 1) (k := 3) (xi16 3) ⟨by omega, by omega, hka.1⟩ rfl ?_
  refine e_aload (k := 4) (xi16 4) rfl (by omega) ?_
  refine e_aload (k := 5) (xi16 5) rfl (by omega) ?_
  refine e_getI (j := 5) (w := M c 5) (k := 6) (xi16 6) ⟨by omega, by omega, hkc.1⟩ rfl (by rw [x_up_ne (by omega)]) ?_
  refine e_putI (j := 5) (k := 7) (xi16 7) ⟨by omega, by omega, hka.1⟩ rfl ?_
  refine e_aload (k := 8) (xi16 8) rfl (by omega) ?_
  refine e_aload (k := 9) (xi16 9) rfl (by omega) ?_
  refine e_getI (j := 6) (w := M c 6) (k := 10) (xi16 10) ⟨by omega, by omega, hkc.1⟩ rfl (by rw [x_up_ne (by omega), x_up_ne (by omega)]) ?_
  refine e_putI (j := 6) (k := 11) (xi16 11) ⟨by omega, by omega, hka.1⟩ rfl ?_
  refine e_aload (k := 12) (xi16 12) rfl (by omega) ?_
  refine e_aload (k := 13) (xi16 13) rfl (by omega) ?_
  refine e_getI (j := 7) (w := M c 7) (k := 14) (xi16 14) ⟨by omega, by omega, hkc.1⟩ rfl (by rw [x_up_ne (by omega), x_up_ne (by omega), x_up_ne (by omega)]) ?_
  refine e_putI (j := 7) (k := 15) (xi16 15) ⟨by omega, by omega, hka.1⟩ rfl ?_
  refine e_aload (k := 16) (xi16 16) rfl (by omega) ?_
  refine e_getR (j := 2) (w := 1 + c) (k := 17) (xi16 17) ⟨by omega, by omega, hkc.1⟩ rfl hpc.1.1 ?_
  refine e_iconst (k := 18) (xi16 18) ?_
  refine e_aload (k := 19) (xi16 19) rfl (by omega) ?_
  refine e_getR (j := 2) (w := 1 + a) (k := 20) (xi16 20) ⟨by omega, by omega, hka.1⟩ rfl hpa.1.1 ?_
  refine e_iconst (k := 21) (xi16 21) ?_
  refine e_iconst (k := 22) (xi16 22) ?_
  refine e_copy (k := 23) (xi16 23) ⟨by omega, by omega, hka.2.1.1⟩ ⟨by omega, by omega, hkc.2.1.1⟩ (by rw [hkc.2.1.2, hka.2.1.2]; refine ⟨by omega, by omega, by omega, by omega, by omega, Nat.le_of_ble_eq_true rfl⟩) ?_
  refine e_aload (k := 24) (xi16 24) rfl (by omega) ?_
  refine e_getR (j := 3) (w := 2 + c) (k := 25) (xi16 25) ⟨by omega, by omega, hkc.1⟩ rfl hpc.1.2.1 ?_
  refine e_iconst (k := 26) (xi16 26) ?_
  refine e_aload (k := 27) (xi16 27) rfl (by omega) ?_
  refine e_getR (j := 3) (w := 2 + a) (k := 28) (xi16 28) ⟨by omega, by omega, hka.1⟩ rfl hpa.1.2.1 ?_
  refine e_iconst (k := 29) (xi16 29) ?_
  refine e_iconst (k := 30) (xi16 30) ?_
  refine e_copy (k := 31) (xi16 31) ⟨by omega, by omega, hka.2.2.1.1⟩ ⟨by omega, by omega, hkc.2.2.1.1⟩ (by rw [hkc.2.2.1.2, hka.2.2.1.2]; refine ⟨by omega, by omega, by omega, by omega, by omega, Nat.le_of_ble_eq_true rfl⟩) ?_
  refine e_aload (k := 32) (xi16 32) rfl (by omega) ?_
  refine e_getR (j := 4) (w := 3 + c) (k := 33) (xi16 33) ⟨by omega, by omega, hkc.1⟩ rfl hpc.1.2.2.1 ?_
  refine e_iconst (k := 34) (xi16 34) ?_
  refine e_aload (k := 35) (xi16 35) rfl (by omega) ?_
  refine e_getR (j := 4) (w := 3 + a) (k := 36) (xi16 36) ⟨by omega, by omega, hka.1⟩ rfl hpa.1.2.2.1 ?_
  refine e_iconst (k := 37) (xi16 37) ?_
  refine e_iconst (k := 38) (xi16 38) ?_
  refine e_copy (k := 39) (xi16 39) ⟨by omega, by omega, hka.2.2.2.1.1⟩ ⟨by omega, by omega, hkc.2.2.2.1.1⟩ (by rw [hkc.2.2.2.1.2, hka.2.2.2.1.2]; refine ⟨by omega, by omega, by omega, by omega, by omega, Nat.le_of_ble_eq_true rfl⟩) ?_
  refine e_aload (k := 40) (xi16 40) rfl (by omega) ?_
  refine e_getR (j := 8) (w := 4 + a) (k := 41) (xi16 41) ⟨by omega, by omega, hka.1⟩ rfl hpa.1.2.2.2 ?_
  refine e_aload (k := 42) (xi16 42) rfl (by omega) ?_
  refine e_getR (j := 8) (w := 4 + c) (k := 43) (xi16 43) ⟨by omega, by omega, hkc.1⟩ rfl hpc.1.2.2.2 ?_
  refine e_callR (k := 44) (c1 := 0) (c2 := 0) (rest := []) (as := [.inr (4 + a), .inr (4 + c)]) (xi16 44) (by decide) xm10 rfl ⟨rfl, Nat.le_of_ble_eq_true rfl, by decide⟩ (Or.inr (x_okt ⟨by omega, by omega, hka.2.2.2.2.1⟩)) (c_cpd (z := z) (a := 4 + a) (c := 4 + c) (P := P) (M := (x_cp (x_cp (x_cp (x_up (x_up (x_up (x_up M a 1 (M c 1)) a 5 (M c 5)) a 6 (M c 6)) a 7 (M c 7)) (1 + c) 0 (1 + a) 0 12) (2 + c) 0 (2 + a) 0 12) (3 + c) 0 (3 + a) 0 8)) (by omega) (by omega) hka.2.2.2.2 hkc.2.2.2.2 hpa.2 hpc.2 (by omega) (by rw [x_cp_ne (by omega), x_cp_ne (by omega), x_cp_ne (by omega), x_up_ne (by omega), x_up_ne (by omega), x_up_ne (by omega), x_up_ne (by omega)]; exact hz)) ?_
  rintro v h1 ⟨M1, hq, f1, g0, g1, g2⟩
  cases hq
  show x_Ev 16 45 [.inr (a), .inr (c)] [] (0, 0) (z, P, M1) _
  refine e_vret (k := 45) (xi16 45) ?_
  refine ⟨M1, rfl, ?_, ?_, ?_, ?_, ?_, ?_, ?_, ?_, ?_, ?_, ?_, ?_⟩
  · intro b j h
    rw [f1 _ _ (by omega), x_cp_ne (by omega), x_cp_ne (by omega), x_cp_ne (by omega), x_up_ne (by omega), x_up_ne (by omega), x_up_ne (by omega), x_up_ne (by omega)]
  · rw [f1 _ _ (by omega), x_cp_ne (by omega), x_cp_ne (by omega), x_cp_ne (by omega), x_up_nk (by omega), x_up_nk (by omega), x_up_nk (by omega), x_up_nk (by omega)]
  · rw [f1 _ _ (by omega), x_cp_ne (by omega), x_cp_ne (by omega), x_cp_ne (by omega), x_up_nk (by omega), x_up_nk (by omega), x_up_nk (by omega), x_up_self]
  · rw [f1 _ _ (by omega), x_cp_ne (by omega), x_cp_ne (by omega), x_cp_ne (by omega), x_up_nk (by omega), x_up_nk (by omega), x_up_self]
  · rw [f1 _ _ (by omega), x_cp_ne (by omega), x_cp_ne (by omega), x_cp_ne (by omega), x_up_nk (by omega), x_up_self]
  · rw [f1 _ _ (by omega), x_cp_ne (by omega), x_cp_ne (by omega), x_cp_ne (by omega), x_up_self]
  · intro j hj
    rw [f1 _ _ (by omega), x_cp_ne (by omega), x_cp_ne (by omega), x_cp_at (by omega), x_up_ne (by omega), x_up_ne (by omega), x_up_ne (by omega), x_up_ne (by omega)]
  · intro j hj
    rw [f1 _ _ (by omega), x_cp_ne (by omega), x_cp_at (by omega), x_cp_ne (by omega), x_up_ne (by omega), x_up_ne (by omega), x_up_ne (by omega), x_up_ne (by omega)]
  · intro j hj
    rw [f1 _ _ (by omega), x_cp_at (by omega), x_cp_ne (by omega), x_cp_ne (by omega), x_up_ne (by omega), x_up_ne (by omega), x_up_ne (by omega), x_up_ne (by omega)]
  · rw [g0, x_cp_ne (by omega), x_cp_ne (by omega), x_cp_ne (by omega), x_up_ne (by omega), x_up_ne (by omega), x_up_ne (by omega), x_up_ne (by omega)]
  · intro j hj
    rw [g1 j hj, x_cp_ne (by omega), x_cp_ne (by omega), x_cp_ne (by omega), x_up_ne (by omega), x_up_ne (by omega), x_up_ne (by omega), x_up_ne (by omega)]
  · intro j hj
    rw [g2 j hj, x_cp_ne (by omega), x_cp_ne (by omega), x_cp_ne (by omega), x_up_ne (by omega), x_up_ne (by omega), x_up_ne (by omega), x_up_ne (by omega)]
theorem x_P2 {f g : Int → Int → Int} {a b c d j : Int} (h : f a j = g c j) (ha : b = a) (hc : d = c) : f b j = g d j := by rw [ha, hc, h]
theorem ks_of {o i : Int} (hb : x_HB o) (hi : 0 ≤ i ∧ i < 12) : x_KS (2 + 7 * i + o) := ⟨x_kb hb (tk_st hi) (by omega) (by omega), ⟨x_kb hb (tk_con hi) (by omega) (by omega), x_lb hb (tl_con hi) (by omega) (by omega)⟩, ⟨x_kb hb (tk_len hi) (by omega) (by omega), x_lb hb (tl_len hi) (by omega) (by omega)⟩, ⟨x_kb hb (tk_oth hi) (by omega) (by omega), x_lb hb (tl_oth hi) (by omega) (by omega)⟩, x_kb hb (tk_dem hi) (by omega) (by omega), ⟨x_kb hb (tk_br hi) (by omega) (by omega), x_lb hb (tl_br hi) (by omega) (by omega)⟩, x_kb hb (tk_wa hi) (by omega) (by omega), x_lb hb (tl_wa hi) (by omega) (by omega)⟩
theorem ps_of {o i : Int} {P : Int → Int → Int} (h : x_TP o P) (hi : 0 ≤ i ∧ i < 12) : x_PS P (2 + 7 * i + o) := by
  obtain ⟨a1, a2, a3, a4, a5, a6, a7⟩ := h.2.1 i hi
  exact ⟨⟨x_Pe a2 (by omega) (by omega), x_Pe a3 (by omega) (by omega), x_Pe a4 (by omega) (by omega), x_Pe a5 (by omega) (by omega)⟩, x_Pe a6 (by omega) (by omega), x_Pe a7 (by omega) (by omega)⟩
def x_CS (o u s : Int) (M M0 : Int → Int → Int) : Prop := (M (2 + 7 * s + o) 1 = M0 (2 + 7 * s + u) 1 ∧ M (2 + 7 * s + o) 5 = M0 (2 + 7 * s + u) 5 ∧ M (2 + 7 * s + o) 6 = M0 (2 + 7 * s + u) 6 ∧ M (2 + 7 * s + o) 7 = M0 (2 + 7 * s + u) 7) ∧ (∀ j, 0 ≤ j ∧ j < 12 → M (3 + 7 * s + o) j = M0 (3 + 7 * s + u) j) ∧ (∀ j, 0 ≤ j ∧ j < 12 → M (4 + 7 * s + o) j = M0 (4 + 7 * s + u) j) ∧ (∀ j, 0 ≤ j ∧ j < 8 → M (5 + 7 * s + o) j = M0 (5 + 7 * s + u) j) ∧ M (6 + 7 * s + o) 0 = M0 (6 + 7 * s + u) 0 ∧ (∀ j, 0 ≤ j ∧ j < 24 → M (7 + 7 * s + o) j = M0 (7 + 7 * s + u) j) ∧ ∀ j, 0 ≤ j ∧ j < 24 → M (8 + 7 * s + o) j = M0 (8 + 7 * s + u) j
def x_C1 (o u n : Int) (M M0 : Int → Int → Int) : Prop := (∀ b j, (b < o ∨ 154 + o ≤ b) → M b j = M0 b j) ∧ x_TM o M ∧ (M o 1 = M0 u 1 ∧ M o 3 = M0 u 3 ∧ M o 5 = M0 u 5 ∧ M o 6 = M0 u 6) ∧ ∀ s, 0 ≤ s ∧ s < n → x_CS o u s M M0
def x_C2 (o u n : Int) (M M0 : Int → Int → Int) : Prop := x_C1 o u 12 M M0 ∧ ∀ w, 0 ≤ w ∧ w < n → ∀ j, 1 ≤ j ∧ j ≤ 9 → M (87 + w + o) j = M0 (87 + w + u) j
def x_C3 (o u n : Int) (M M0 : Int → Int → Int) : Prop := x_C2 o u 60 M M0 ∧ ∀ c, 0 ≤ c ∧ c < n → (M (148 + 2 * c + o) 1 = M0 (148 + 2 * c + u) 1 ∧ M (148 + 2 * c + o) 2 = M0 (148 + 2 * c + u) 2 ∧ M (148 + 2 * c + o) 3 = M0 (148 + 2 * c + u) 3 ∧ M (148 + 2 * c + o) 4 = M0 (148 + 2 * c + u) 4 ∧ M (148 + 2 * c + o) 6 = M0 (148 + 2 * c + u) 6) ∧ ∀ j, 0 ≤ j ∧ j < 8 → M (149 + 2 * c + o) j = M0 (149 + 2 * c + u) j
theorem cs_fr {o u s : Int} {M M' M0 : Int → Int → Int} (h : x_CS o u s M M0) (f : ∀ b j, 2 + 7 * s + o ≤ b → b ≤ 8 + 7 * s + o → M' b j = M b j) : x_CS o u s M' M0 := by
  obtain ⟨⟨a1, a2, a3, a4⟩, b1, b2, b3, b4, b5, b6⟩ := h
  exact ⟨⟨(f _ _ (by omega) (by omega)).trans a1, (f _ _ (by omega) (by omega)).trans a2, (f _ _ (by omega) (by omega)).trans a3, (f _ _ (by omega) (by omega)).trans a4⟩, fun j hj => (f _ _ (by omega) (by omega)).trans (b1 j hj), fun j hj => (f _ _ (by omega) (by omega)).trans (b2 j hj), fun j hj => (f _ _ (by omega) (by omega)).trans (b3 j hj), (f _ _ (by omega) (by omega)).trans b4, fun j hj => (f _ _ (by omega) (by omega)).trans (b5 j hj), fun j hj => (f _ _ (by omega) (by omega)).trans (b6 j hj)⟩
theorem c1_fr {o u n : Int} {M M' M0 : Int → Int → Int} (h : x_C1 o u n M M0) (hn : 0 ≤ n) (g : ∀ b j, (b < o ∨ 154 + o ≤ b) → M' b j = M b j) (f : ∀ b j, o ≤ b → b < 2 + 7 * n + o → M' b j = M b j) (hS : ∀ s, 0 ≤ s ∧ s < 12 → M' (o + 2 + 7 * s) 0 = M (o + 2 + 7 * s) 0) (hW : ∀ s, 0 ≤ s ∧ s < 60 → M' (o + 87 + s) 0 = M (o + 87 + s) 0) (hC : ∀ s, 0 ≤ s ∧ s < 3 → M' (o + 148 + 2 * s) 0 = M (o + 148 + 2 * s) 0) : x_C1 o u n M' M0 := by
  obtain ⟨h1, ⟨a1, a2, a3⟩, ⟨b1, b2, b3, b4⟩, h4⟩ := h
  exact ⟨fun b j q => (g b j q).trans (h1 b j q), ⟨fun s hs => (hS s hs).trans (a1 s hs), fun s hs => (hW s hs).trans (a2 s hs), fun s hs => (hC s hs).trans (a3 s hs)⟩, ⟨(f _ _ (by omega) (by omega)).trans b1, (f _ _ (by omega) (by omega)).trans b2, (f _ _ (by omega) (by omega)).trans b3, (f _ _ (by omega) (by omega)).trans b4⟩, fun s hs => cs_fr (h4 s hs) (fun b j q1 q2 => f b j (by omega) (by omega))⟩
theorem c_ct1 {z o u : Int} {P M0 : Int → Int → Int} {r : Option xV × xH → Prop} (ho : 0 ≤ o ∧ 154 + o ≤ z) (hu : 0 ≤ u ∧ 154 + u ≤ z) (hob : x_HB o) (hub : x_HB u) (hpo : x_TP o P) (hpu : x_TP u P) (hou : 154 + o ≤ u ∨ 154 + u ≤ o) (hz : x_TZ u M0) (kk : ∀ M, x_C1 o u 12 M M0 → x_Ev 39 32 [.inr (o), .inr (u), .inl 12] [] (0, 0) (z, P, M) r) : ∀ (k : Nat) (i : Int) (M : Int → Int → Int), i + k = 12 → 0 ≤ i → x_C1 o u i M M0 → x_Ev 39 18 [.inr (o), .inr (u), .inl (i)] [] (0, 0) (z, P, M) r := by
  intro k
  induction k with
  | zero =>
    intro i M he hi hT
    have hi2 : i = 12 := by omega
    subst hi2
    refine e_iload (k := 18) (xi39 18) rfl ?_
    refine e_iconst (k := 19) (xi39 19) ?_
    refine e_c_ge (k := 20) (xi39 20) (fun _ => ?_) (fun q => absurd (by omega) q)
    exact kk _ hT
  | succ k ih =>
    intro i M he hi hT
    have hi12 : 0 ≤ i ∧ i < 12 := by omega
    refine e_iload (k := 18) (xi39 18) rfl ?_
    refine e_iconst (k := 19) (xi39 19) ?_
    refine e_c_ge (k := 20) (xi39 20) (fun q => absurd q (by omega)) (fun _ => ?_)
    refine e_aload (k := 21) (xi39 21) rfl (by omega) ?_
    refine e_getR (j := 0) (w := 1 + o) (k := 22) (xi39 22) ⟨by omega, by omega, (x_kb hob (show x_tk 0 = 4 by decide) (by omega) (by omega))⟩ rfl (x_Pe hpo.1.1 (by omega) (by omega)) ?_
    refine e_iload (k := 23) (xi39 23) rfl ?_
    refine e_aald (w := 2 + 7 * i + o) (k := 24) (xi39 24) (x_ok4 ⟨by omega, by omega, (x_kb hob (show x_tk 1 = 11 by decide) (by omega) (by omega))⟩ (by decide)) (by rw [(x_lb hob (show x_tl 1 = 12 by decide) (by omega) (by omega))]; omega) (x_Pe (hpo.2.1 i hi12).1 (by omega) (by omega)) ?_
    refine e_aload (k := 25) (xi39 25) rfl (by omega) ?_
    refine e_getR (j := 0) (w := 1 + u) (k := 26) (xi39 26) ⟨by omega, by omega, (x_kb hub (show x_tk 0 = 4 by decide) (by omega) (by omega))⟩ rfl (x_Pe hpu.1.1 (by omega) (by omega)) ?_
    refine e_iload (k := 27) (xi39 27) rfl ?_
    refine e_aald (w := 2 + 7 * i + u) (k := 28) (xi39 28) (x_ok4 ⟨by omega, by omega, (x_kb hub (show x_tk 1 = 11 by decide) (by omega) (by omega))⟩ (by decide)) (by rw [(x_lb hub (show x_tl 1 = 12 by decide) (by omega) (by omega))]; omega) (x_Pe (hpu.2.1 i hi12).1 (by omega) (by omega)) ?_
    refine e_callR (k := 29) (c1 := 0) (c2 := 0) (rest := []) (as := [.inr (2 + 7 * i + o), .inr (2 + 7 * i + u)]) (xi39 29) (by decide) xm16 rfl ⟨rfl, Nat.le_of_ble_eq_true rfl, by decide⟩ (Or.inr (x_okt ⟨by omega, by omega, (ks_of hob hi12).1⟩)) (c_cps (z := z) (a := 2 + 7 * i + o) (c := 2 + 7 * i + u) (P := P) (M := M) (by omega) (by omega) (ks_of hob hi12) (ks_of hub hi12) (ps_of hpo hi12) (ps_of hpu hi12) (by omega) (by rw [hT.1 _ _ (by omega), show 4 + (2 + 7 * i + u) = u + 6 + 7 * i by omega]; exact hz.1 i hi12)) ?_
    rintro v h1 ⟨M1, hq, f1, g0, g1, g5, g6, g7, e1, e2, e3, d0, d1, d2⟩
    cases hq
    show x_Ev 39 30 [.inr (o), .inr (u), .inl (i)] [] (0, 0) (z, P, M1) _
    refine e_iinc (w := 1 + i) (k := 30) (xi39 30) rfl (x_wn (by omega)) ?_
    show x_Ev 39 31 [.inr (o), .inr (u), .inl (1 + i)] [] (0, 0) (z, P, M1) _
    refine e_goto (k := 31) (xi39 31) ?_
    refine ih (1 + i) _ (by omega) (by omega) ?_
    have hT' := c1_fr (M' := M1) hT hi (fun b j q => f1 b j (by omega)) (fun b j q1 q2 => f1 b j (by omega)) (fun s hs => by
      by_cases q : s = i
      · subst q; rw [show o + 2 + 7 * s = 2 + 7 * s + o by omega]; exact g0
      · exact f1 _ _ (by omega)) (fun s hs => f1 _ _ (by omega)) (fun s hs => f1 _ _ (by omega))
    refine ⟨hT'.1, hT'.2.1, hT'.2.2.1, fun s hs => ?_⟩
    by_cases q : s = i
    · subst q
      exact ⟨⟨g1.trans (hT.1 _ _ (by omega)), g5.trans (hT.1 _ _ (by omega)), g6.trans (hT.1 _ _ (by omega)), g7.trans (hT.1 _ _ (by omega))⟩, fun j hj => (x_P2 (e1 j hj) (by omega) (show 3 + 7 * s + u = _ by omega)).trans (hT.1 _ _ (by omega)), fun j hj => (x_P2 (e2 j hj) (by omega) (show 4 + 7 * s + u = _ by omega)).trans (hT.1 _ _ (by omega)), fun j hj => (x_P2 (e3 j hj) (by omega) (show 5 + 7 * s + u = _ by omega)).trans (hT.1 _ _ (by omega)), (x_P2 d0 (by omega) (show 6 + 7 * s + u = _ by omega)).trans (hT.1 _ _ (by omega)), fun j hj => (x_P2 (d1 j hj) (by omega) (show 7 + 7 * s + u = _ by omega)).trans (hT.1 _ _ (by omega)), fun j hj => (x_P2 (d2 j hj) (by omega) (show 8 + 7 * s + u = _ by omega)).trans (hT.1 _ _ (by omega))⟩
    · exact hT'.2.2.2 s (by omega)
theorem c_ct2 {z o u : Int} {P M0 : Int → Int → Int} {r : Option xV × xH → Prop} (ho : 0 ≤ o ∧ 154 + o ≤ z) (hu : 0 ≤ u ∧ 154 + u ≤ z) (hob : x_HB o) (hub : x_HB u) (hpo : x_TP o P) (hpu : x_TP u P) (hou : 154 + o ≤ u ∨ 154 + u ≤ o) (hz : x_TZ u M0) (kk : ∀ M, x_C2 o u 60 M M0 → x_Ev 39 48 [.inr (o), .inr (u), .inl 60] [] (0, 0) (z, P, M) r) : ∀ (k : Nat) (i : Int) (M : Int → Int → Int), i + k = 60 → 0 ≤ i → x_C2 o u i M M0 → x_Ev 39 34 [.inr (o), .inr (u), .inl (i)] [] (0, 0) (z, P, M) r := by
  intro k
  induction k with
  | zero =>
    intro i M he hi hT
    have hi2 : i = 60 := by omega
    subst hi2
    refine e_iload (k := 34) (xi39 34) rfl ?_
    refine e_iconst (k := 35) (xi39 35) ?_
    refine e_c_ge (k := 36) (xi39 36) (fun _ => ?_) (fun q => absurd (by omega) q)
    exact kk _ hT
  | succ k ih =>
    intro i M he hi hT
    have hi12 : 0 ≤ i ∧ i < 60 := by omega
    refine e_iload (k := 34) (xi39 34) rfl ?_
    refine e_iconst (k := 35) (xi39 35) ?_
    refine e_c_ge (k := 36) (xi39 36) (fun q => absurd q (by omega)) (fun _ => ?_)
    refine e_aload (k := 37) (xi39 37) rfl (by omega) ?_
    refine e_getR (j := 2) (w := 86 + o) (k := 38) (xi39 38) ⟨by omega, by omega, (x_kb hob (show x_tk 0 = 4 by decide) (by omega) (by omega))⟩ rfl (x_Pe hpo.1.2.1 (by omega) (by omega)) ?_
    refine e_iload (k := 39) (xi39 39) rfl ?_
    refine e_aald (w := 87 + i + o) (k := 40) (xi39 40) (x_ok4 ⟨by omega, by omega, (x_kb hob (show x_tk 86 = 13 by decide) (by omega) (by omega))⟩ (by decide)) (by rw [(x_lb hob (show x_tl 86 = 60 by decide) (by omega) (by omega))]; omega) (x_Pe (hpo.2.2.1 i hi12) (by omega) (by omega)) ?_
    refine e_aload (k := 41) (xi39 41) rfl (by omega) ?_
    refine e_getR (j := 2) (w := 86 + u) (k := 42) (xi39 42) ⟨by omega, by omega, (x_kb hub (show x_tk 0 = 4 by decide) (by omega) (by omega))⟩ rfl (x_Pe hpu.1.2.1 (by omega) (by omega)) ?_
    refine e_iload (k := 43) (xi39 43) rfl ?_
    refine e_aald (w := 87 + i + u) (k := 44) (xi39 44) (x_ok4 ⟨by omega, by omega, (x_kb hub (show x_tk 86 = 13 by decide) (by omega) (by omega))⟩ (by decide)) (by rw [(x_lb hub (show x_tl 86 = 60 by decide) (by omega) (by omega))]; omega) (x_Pe (hpu.2.2.1 i hi12) (by omega) (by omega)) ?_
    refine e_callR (k := 45) (c1 := 0) (c2 := 0) (rest := []) (as := [.inr (87 + i + o), .inr (87 + i + u)]) (xi39 45) (by decide) xm67 rfl ⟨rfl, Nat.le_of_ble_eq_true rfl, by decide⟩ (Or.inr (x_okt ⟨by omega, by omega, (x_kb hob (tk_wh hi12) (by omega) (by omega))⟩)) (c_cpw (z := z) (a := 87 + i + o) (c := 87 + i + u) (P := P) (M := M) ⟨by omega, by omega, x_kb hob (tk_wh hi12) (by omega) (by omega)⟩ ⟨by omega, by omega, x_kb hub (tk_wh hi12) (by omega) (by omega)⟩ (by omega) (by rw [hT.1.1 _ _ (by omega), hT.1.1 _ _ (by omega), show 87 + i + u = u + 87 + i by omega]; exact hz.2 i hi12)) ?_
    rintro v h1 ⟨M1, hq, f1, g0, g1⟩
    cases hq
    show x_Ev 39 46 [.inr (o), .inr (u), .inl (i)] [] (0, 0) (z, P, M1) _
    refine e_iinc (w := 1 + i) (k := 46) (xi39 46) rfl (x_wn (by omega)) ?_
    show x_Ev 39 47 [.inr (o), .inr (u), .inl (1 + i)] [] (0, 0) (z, P, M1) _
    refine e_goto (k := 47) (xi39 47) ?_
    refine ih (1 + i) _ (by omega) (by omega) ?_
    have hT' := c1_fr (M' := M1) hT.1 (by omega) (fun b j q => f1 b j (by omega)) (fun b j q1 q2 => f1 b j (by omega)) (fun s hs => f1 _ _ (by omega)) (fun s hs => by
      by_cases q : s = i
      · subst q; rw [show o + 87 + s = 87 + s + o by omega]; exact g0
      · exact f1 _ _ (by omega)) (fun s hs => f1 _ _ (by omega))
    refine ⟨hT', fun s hs j hj => ?_⟩
    by_cases q : s = i
    · subst q
      exact (g1 j hj).trans (hT.1.1 _ _ (by omega))
    · exact (f1 _ _ (by omega)).trans (hT.2 s (by omega) j hj)
theorem c_ct3 {z o u : Int} {P M0 : Int → Int → Int} {r : Option xV × xH → Prop} (ho : 0 ≤ o ∧ 154 + o ≤ z) (hu : 0 ≤ u ∧ 154 + u ≤ z) (hob : x_HB o) (hub : x_HB u) (hpo : x_TP o P) (hpu : x_TP u P) (hou : 154 + o ≤ u ∨ 154 + u ≤ o) (hz : x_TZ u M0) (kk : ∀ M, x_C3 o u 3 M M0 → x_Ev 39 64 [.inr (o), .inr (u), .inl 3] [] (0, 0) (z, P, M) r) : ∀ (k : Nat) (i : Int) (M : Int → Int → Int), i + k = 3 → 0 ≤ i → x_C3 o u i M M0 → x_Ev 39 50 [.inr (o), .inr (u), .inl (i)] [] (0, 0) (z, P, M) r := by
  intro k
  induction k with
  | zero =>
    intro i M he hi hT
    have hi2 : i = 3 := by omega
    subst hi2
    refine e_iload (k := 50) (xi39 50) rfl ?_
    refine e_iconst (k := 51) (xi39 51) ?_
    refine e_c_ge (k := 52) (xi39 52) (fun _ => ?_) (fun q => absurd (by omega) q)
    exact kk _ hT
  | succ k ih =>
    intro i M he hi hT
    have hi12 : 0 ≤ i ∧ i < 3 := by omega
    refine e_iload (k := 50) (xi39 50) rfl ?_
    refine e_iconst (k := 51) (xi39 51) ?_
    refine e_c_ge (k := 52) (xi39 52) (fun q => absurd q (by omega)) (fun _ => ?_)
    refine e_aload (k := 53) (xi39 53) rfl (by omega) ?_
    refine e_getR (j := 4) (w := 147 + o) (k := 54) (xi39 54) ⟨by omega, by omega, (x_kb hob (show x_tk 0 = 4 by decide) (by omega) (by omega))⟩ rfl (x_Pe hpo.1.2.2 (by omega) (by omega)) ?_
    refine e_iload (k := 55) (xi39 55) rfl ?_
    refine e_aald (w := 148 + 2 * i + o) (k := 56) (xi39 56) (x_ok4 ⟨by omega, by omega, (x_kb hob (show x_tk 147 = 10 by decide) (by omega) (by omega))⟩ (by decide)) (by rw [(x_lb hob (show x_tl 147 = 3 by decide) (by omega) (by omega))]; omega) (x_Pe (hpo.2.2.2 i hi12).1 (by omega) (by omega)) ?_
    refine e_aload (k := 57) (xi39 57) rfl (by omega) ?_
    refine e_getR (j := 4) (w := 147 + u) (k := 58) (xi39 58) ⟨by omega, by omega, (x_kb hub (show x_tk 0 = 4 by decide) (by omega) (by omega))⟩ rfl (x_Pe hpu.1.2.2 (by omega) (by omega)) ?_
    refine e_iload (k := 59) (xi39 59) rfl ?_
    refine e_aald (w := 148 + 2 * i + u) (k := 60) (xi39 60) (x_ok4 ⟨by omega, by omega, (x_kb hub (show x_tk 147 = 10 by decide) (by omega) (by omega))⟩ (by decide)) (by rw [(x_lb hub (show x_tl 147 = 3 by decide) (by omega) (by omega))]; omega) (x_Pe (hpu.2.2.2 i hi12).1 (by omega) (by omega)) ?_
    refine e_callR (k := 61) (c1 := 0) (c2 := 0) (rest := []) (as := [.inr (148 + 2 * i + o), .inr (148 + 2 * i + u)]) (xi39 61) (by decide) xm2 rfl ⟨rfl, Nat.le_of_ble_eq_true rfl, by decide⟩ (Or.inr (x_okt ⟨by omega, by omega, (x_kb hob (tk_ca hi12) (by omega) (by omega))⟩)) (c_cpc (z := z) (a := 148 + 2 * i + o) (c := 148 + 2 * i + u) (P := P) (M := M) ⟨by omega, by omega, x_kb hob (tk_ca hi12) (by omega) (by omega), x_kb hob (tk_row hi12) (by omega) (by omega), x_lb hob (tl_row hi12) (by omega) (by omega)⟩ ⟨by omega, by omega, x_kb hub (tk_ca hi12) (by omega) (by omega), x_kb hub (tk_row hi12) (by omega) (by omega), x_lb hub (tl_row hi12) (by omega) (by omega)⟩ ⟨x_Pe (hpo.2.2.2 i hi12).2 (by omega) (by omega), x_Pe (hpu.2.2.2 i hi12).2 (by omega) (by omega)⟩ (by omega)) ?_
    rintro v h1 ⟨M1, hq, f1, g0, g1, g2, g3, g4, g6, e1⟩
    cases hq
    show x_Ev 39 62 [.inr (o), .inr (u), .inl (i)] [] (0, 0) (z, P, M1) _
    refine e_iinc (w := 1 + i) (k := 62) (xi39 62) rfl (x_wn (by omega)) ?_
    show x_Ev 39 63 [.inr (o), .inr (u), .inl (1 + i)] [] (0, 0) (z, P, M1) _
    refine e_goto (k := 63) (xi39 63) ?_
    refine ih (1 + i) _ (by omega) (by omega) ?_
    have hT' := c1_fr (M' := M1) hT.1.1 (by omega) (fun b j q => f1 b j (by omega)) (fun b j q1 q2 => f1 b j (by omega)) (fun s hs => f1 _ _ (by omega)) (fun s hs => f1 _ _ (by omega)) (fun s hs => by
      by_cases q : s = i
      · subst q; rw [show o + 148 + 2 * s = 148 + 2 * s + o by omega]; exact g0
      · exact f1 _ _ (by omega))
    refine ⟨⟨hT', fun s hs j hj => (f1 _ _ (by omega)).trans (hT.1.2 s hs j hj)⟩, fun s hs => ?_⟩
    by_cases q : s = i
    · subst q
      exact ⟨⟨g1.trans (hT.1.1.1 _ _ (by omega)), g2.trans (hT.1.1.1 _ _ (by omega)), g3.trans (hT.1.1.1 _ _ (by omega)), g4.trans (hT.1.1.1 _ _ (by omega)), g6.trans (hT.1.1.1 _ _ (by omega))⟩, fun j hj => (x_P2 (e1 j hj) (by omega) (show 149 + 2 * s + u = _ by omega)).trans (hT.1.1.1 _ _ (by omega))⟩
    · obtain ⟨⟨a1, a2, a3, a4, a6⟩, b⟩ := hT.2 s (by omega)
      exact ⟨⟨(f1 _ _ (by omega)).trans a1, (f1 _ _ (by omega)).trans a2, (f1 _ _ (by omega)).trans a3, (f1 _ _ (by omega)).trans a4, (f1 _ _ (by omega)).trans a6⟩, fun j hj => (f1 _ _ (by omega)).trans (b j hj)⟩
theorem c_copy {z o u : Int} {P M : Int → Int → Int} (ho : 0 ≤ o ∧ 154 + o ≤ z) (hu : 0 ≤ u ∧ 154 + u ≤ z) (hob : x_HB o) (hub : x_HB u) (hpo : x_TP o P) (hpu : x_TP u P) (hou : 154 + o ≤ u ∨ 154 + u ≤ o) (hz : x_TZ u M) (hm : x_TM o M) : x_CallR 39 [.inr (o), .inr (u)] (z, P, M) (fun q => ∃ M1, q = (none, (z, P, M1)) ∧ x_C3 o u 3 M1 M) := by
  refine e_body (ls0 := [.inr (o), .inr (u), x_un]) xm39 rfl ?_
  refine e_aload (k := 0) (xi39 0) rfl (by omega) ?_
  refine e_aload (k := 1) (xi39 1) rfl (by omega) ?_
  refine e_getI (j := 1) (w := M u 1) (k := 2) (xi39 2) ⟨by omega, by omega, (x_kb hub (show x_tk 0 = 4 by decide) (by omega) (by omega))⟩ rfl rfl ?_
  refine e_putI (j := 1) (k := 3) (xi39 3) ⟨by omega, by omega, (x_kb hob (show x_tk 0 = 4 by decide) (by omega) (by omega))⟩ rfl ?_
  refine e_aload (k := 4) (xi39 4) rfl (by omega) ?_
  refine e_aload (k := 5) (xi39 5) rfl (by omega) ?_
  refine e_getI (j := 3) (w := M u 3) (k := 6) (xi39 6) ⟨by omega, by omega, (x_kb hub (show x_tk 0 = 4 by decide) (by omega) (by omega))⟩ rfl (by rw [x_up_ne (by omega)]) ?_
  refine e_putI (j := 3) (k := 7) (xi39 7) ⟨by omega, by omega, (x_kb hob (show x_tk 0 = 4 by decide) (by omega) (by omega))⟩ rfl ?_
  refine e_aload (k := 8) (xi39 8) rfl (by omega) ?_
  refine e_aload (k := 9) (xi39 9) rfl (by omega) ?_
  refine e_getI (j := 5) (w := M u 5) (k := 10) (xi39 10) ⟨by omega, by omega, (x_kb hub (show x_tk 0 = 4 by decide) (by omega) (by omega))⟩ rfl (by rw [x_up_ne (by omega), x_up_ne (by omega)]) ?_
  refine e_putI (j := 5) (k := 11) (xi39 11) ⟨by omega, by omega, (x_kb hob (show x_tk 0 = 4 by decide) (by omega) (by omega))⟩ rfl ?_
  refine e_aload (k := 12) (xi39 12) rfl (by omega) ?_
  refine e_aload (k := 13) (xi39 13) rfl (by omega) ?_
  refine e_getI (j := 6) (w := M u 6) (k := 14) (xi39 14) ⟨by omega, by omega, (x_kb hub (show x_tk 0 = 4 by decide) (by omega) (by omega))⟩ rfl (by rw [x_up_ne (by omega), x_up_ne (by omega), x_up_ne (by omega)]) ?_
  refine e_putI (j := 6) (k := 15) (xi39 15) ⟨by omega, by omega, (x_kb hob (show x_tk 0 = 4 by decide) (by omega) (by omega))⟩ rfl ?_
  refine e_iconst (k := 16) (xi39 16) ?_
  refine e_istore (k := 17) (xi39 17) (Nat.le_of_ble_eq_true rfl) ?_
  show x_Ev 39 18 [.inr (o), .inr (u), .inl 0] [] (0, 0) (z, P, (x_up (x_up (x_up (x_up M o 1 (M u 1)) o 3 (M u 3)) o 5 (M u 5)) o 6 (M u 6))) _
  refine c_ct1 (M0 := M) ho hu hob hub hpo hpu hou hz (fun M1 hT1 => ?_) 12 0 _ (by omega) (by omega) ?_
  rotate_left
  · refine ⟨fun b j h => ?_, ⟨fun s hs => ?_, fun s hs => ?_, fun s hs => ?_⟩, ⟨?_, ?_, ?_, ?_⟩, fun s hs => absurd hs (by omega)⟩
    · rw [x_up_ne (by omega), x_up_ne (by omega), x_up_ne (by omega), x_up_ne (by omega)]
    · rw [x_up_ne (by omega), x_up_ne (by omega), x_up_ne (by omega), x_up_ne (by omega)]; exact hm.1 s hs
    · rw [x_up_ne (by omega), x_up_ne (by omega), x_up_ne (by omega), x_up_ne (by omega)]; exact hm.2.1 s hs
    · rw [x_up_ne (by omega), x_up_ne (by omega), x_up_ne (by omega), x_up_ne (by omega)]; exact hm.2.2 s hs
    · rw [x_up_nk (by omega), x_up_nk (by omega), x_up_nk (by omega), x_up_self]
    · rw [x_up_nk (by omega), x_up_nk (by omega), x_up_self]
    · rw [x_up_nk (by omega), x_up_self]
    · rw [x_up_self]
  · refine e_iconst (k := 32) (xi39 32) ?_
    refine e_istore (k := 33) (xi39 33) (Nat.le_of_ble_eq_true rfl) ?_
    show x_Ev 39 34 [.inr (o), .inr (u), .inl 0] [] (0, 0) (z, P, M1) _
    refine c_ct2 (M0 := M) ho hu hob hub hpo hpu hou hz (fun M2 hT2 => ?_) 60 0 _ (by omega) (by omega) ⟨hT1, fun s hs => absurd hs (by omega)⟩
    refine e_iconst (k := 48) (xi39 48) ?_
    refine e_istore (k := 49) (xi39 49) (Nat.le_of_ble_eq_true rfl) ?_
    show x_Ev 39 50 [.inr (o), .inr (u), .inl 0] [] (0, 0) (z, P, M2) _
    refine c_ct3 (M0 := M) ho hu hob hub hpo hpu hou hz (fun M3 hT3 => ?_) 3 0 _ (by omega) (by omega) ⟨hT2, fun s hs => absurd hs (by omega)⟩
    exact e_vret (k := 64) (xi39 64) ⟨M3, rfl, hT3⟩
end
section
/-! WEAK TYPING OF THE CELLS, AND WHAT A WALK LEAVES AS IT WAS -/
def y_okt (o k v : Int) : Prop :=
  if o = 0 then (if k = 1 then 0 ≤ v ∧ v ≤ 12 else if k = 3 then 0 ≤ v ∧ v ≤ 60 else if k = 5 then 0 ≤ v ∧ v ≤ 3 else if k = 6 then 0 ≤ v ∧ v ≤ 23 else True)
  else if o = 1 then True
  else if o < 86 then (if (o - 2) % 7 = 0 then (if k = 1 then 0 ≤ v ∧ v ≤ 12 else if k = 5 then -1 ≤ v ∧ v ≤ 8 else if k = 6 then -1 ≤ v ∧ v ≤ 12 else True) else if (o - 2) % 7 = 1 then -2 ≤ v ∧ v ≤ 59 else if (o - 2) % 7 = 2 then 0 ≤ v ∧ v ≤ 999 else if (o - 2) % 7 = 3 then 0 ≤ v ∧ v ≤ 11 else if (o - 2) % 7 = 4 then (if k = 0 then 0 ≤ v ∧ v ≤ 1 else True) else 0 ≤ v ∧ v ≤ 99)
  else if o = 86 then True
  else if o < 147 then (if k = 1 then 0 ≤ v ∧ v ≤ 3 else if k = 2 then 0 ≤ v ∧ v ≤ 1000 else if k = 3 then 0 ≤ v ∧ v ≤ 3 else if k = 4 then -1 ≤ v ∧ v ≤ 11 else if k = 5 then -1 ≤ v ∧ v ≤ 11 else if k = 7 then 0 ≤ v ∧ v ≤ 1 else if k = 8 then 0 ≤ v ∧ v ≤ 1 else if k = 9 then -1 ≤ v ∧ v ≤ 59 else True)
  else if o = 147 then True
  else if (o - 148) % 2 = 0 then (if k = 1 then 0 ≤ v ∧ v ≤ 8 else if k = 2 then 0 ≤ v ∧ v ≤ 11 else if k = 6 then 0 ≤ v ∧ v ≤ 8 else True)
  else 0 ≤ v ∧ v ≤ 59
def y_oAS (o v : Int) : Prop := if o = 0 then -1 ≤ v ∧ v ≤ 12 else if o ≤ 12 then -2 ≤ v ∧ v ≤ 59 else if o = 13 then True else if o = 14 then -1 ≤ v ∧ v ≤ 12 else if o = 15 then -1 ≤ v ∧ v ≤ 8 else if o ≤ 23 then 0 ≤ v ∧ v ≤ 11 else if o = 24 then 0 ≤ v ∧ v ≤ 1 else if o ≤ 72 then 0 ≤ v ∧ v ≤ 99 else True
def y_oAW (o v : Int) : Prop := if o = 0 then 0 ≤ v ∧ v ≤ 3 else if o = 1 then 0 ≤ v ∧ v ≤ 1000 else if o = 2 then 0 ≤ v ∧ v ≤ 3 else if o = 3 then 0 ≤ v ∧ v ≤ 11 else if o = 4 then -1 ≤ v ∧ v ≤ 11 else if o = 5 then True else if o = 6 then 0 ≤ v ∧ v ≤ 2 else -1 ≤ v ∧ v ≤ 59
def y_oAC (o v : Int) : Prop := if o = 0 then 0 ≤ v ∧ v ≤ 8 else if o = 1 then 0 ≤ v ∧ v ≤ 11 else if o = 2 then True else if o = 3 then 0 ≤ v ∧ v ≤ 8 else 0 ≤ v ∧ v ≤ 59
def y_oA (i v : Int) : Prop := if i < 10 then (if i = 0 then 0 ≤ v ∧ v ≤ 12 else if i = 1 then 0 ≤ v ∧ v ≤ 60 else if i = 2 then 0 ≤ v ∧ v ≤ 3 else if i = 3 then 0 ≤ v ∧ v ≤ 23 else True) else if i < 970 then y_oAS ((i - 10) % 80) v else if i < 1114 then 0 ≤ v ∧ v ≤ 999 else if i < 1594 then y_oAW ((i - 1114) % 8) v else if i < 1630 then y_oAC ((i - 1594) % 12) v else True
def y_okm (a k v : Int) : Prop :=
  if a = 156 then (if k = 1 then 0 ≤ v ∧ v ≤ 7 else if k = 4 then 0 ≤ v ∧ v ≤ 7 else True)
  else if a = 157 then 0 ≤ v ∧ v ≤ 11
  else if a = 158 then 0 ≤ v ∧ v ≤ 11
  else if a = 159 then -12 ≤ v ∧ v ≤ 60
  else if a = 161 then 0 ≤ v ∧ v ≤ 1000000
  else if a = 162 then (if k = 7 then 0 ≤ v ∧ v ≤ 12 else if k = 11 then 0 ≤ v ∧ v ≤ 7 else True)
  else if a = 163 then y_oA (k % 1640) v
  else if a = 164 then 0 ≤ v ∧ v ≤ 1
  else if a = 165 then 0 ≤ v ∧ v ≤ 11
  else if a = 166 then -12 ≤ v ∧ v ≤ 60
  else if a = 167 then 0 ≤ v ∧ v ≤ 6
  else if a = 168 then 0 ≤ v ∧ v ≤ 11
  else if a = 169 then 0 ≤ v ∧ v ≤ 11
  else True
def y_okv (a k v : Int) : Prop := if a < 1 then True else if a < 155 then y_okt (a - 1) k v else if a < 170 then y_okm a k v else y_okt ((a - 170) % 154) k v
def y_nu (a k : Int) : Prop := k = 0 ∧ ((3 ≤ a ∧ a < 87 ∧ (a - 3) % 7 = 0) ∨ (88 ≤ a ∧ a < 148) ∨ (149 ≤ a ∧ a < 155 ∧ (a - 149) % 2 = 0))
def y_sl (a k v : Int) : Prop := y_okv a k v ∧ ¬ y_nu a k
def y_TC (M : Int → Int → Int) : Prop := (∀ a k, y_okv a k (M a k)) ∧ x_TM 1 M
/-- what the light parts look at, of the class and of the model -/
def y_lc (a k : Int) : Prop := (a = 1 ∧ (k = 1 ∨ k = 3 ∨ k = 5 ∨ k = 6)) ∨ (3 ≤ a ∧ a < 87 ∧ (((a - 3) % 7 = 0 ∧ k = 5) ∨ ((a - 3) % 7 = 4 ∧ k = 0)))
def y_lm (a k : Int) : Prop := (a = 163 ∧ (k = 0 ∨ k = 1 ∨ k = 2 ∨ k = 3 ∨ (10 ≤ k ∧ k < 970 ∧ ((k - 10) % 80 = 15 ∨ (k - 10) % 80 = 24)) ∨ 1640 ≤ k)) ∨ a = 164
/-- what stays: 0, 1: of a light walk of the class, of the model; 2, 3: of any -/
def y_fr (c : Nat) (a k : Int) : Prop := match c with
  | 0 => a < 1 ∨ 162 ≤ a ∨ y_lc a k
  | 1 => a < 162 ∨ 170 ≤ a ∨ y_lm a k
  | 2 => a < 1 ∨ 162 ≤ a
  | 4 => a < 3 ∨ 87 ≤ a
  | 5 => a < 163 ∨ 163 < a ∨ y_lm a k ∨ 1594 ≤ k
  | 6 => a ≠ 167
  | 7 => a ≠ 168
  | _ => a < 162 ∨ 170 ≤ a
def y_TL (c : Nat) (M0 M : Int → Int → Int) : Prop := y_TC M ∧ ∀ a k, y_fr c a k → M a k = M0 a k
theorem tl_refl {c : Nat} {M : Int → Int → Int} (h : y_TC M) : y_TL c M M := ⟨h, fun _ _ _ => rfl⟩
theorem tl_trans {c : Nat} {M0 M M' : Int → Int → Int} (h : y_TL c M0 M) (h2 : y_TL c M M') : y_TL c M0 M' := ⟨h2.1, fun a k q => (h2.2 a k q).trans (h.2 a k q)⟩
theorem tl_20 {M M' : Int → Int → Int} (h : y_TL 0 M M') : y_TL 2 M M' := ⟨h.1, fun a k q => h.2 a k (by
  rcases q with q | q
  · exact Or.inl q
  · exact Or.inr (Or.inl q))⟩
theorem tl_31 {M M' : Int → Int → Int} (h : y_TL 1 M M') : y_TL 3 M M' := ⟨h.1, fun a k q => h.2 a k (by
  rcases q with q | q
  · exact Or.inl q
  · exact Or.inr (Or.inl q))⟩
theorem tl_24 {M M' : Int → Int → Int} (h : y_TL 4 M M') : y_TL 2 M M' := ⟨h.1, fun a k q => h.2 a k (by
  rcases q with q | q
  · exact Or.inl (by omega)
  · exact Or.inr (by omega))⟩
theorem tl_n {M M' : Int → Int → Int} (h : y_TL 0 M M') : M' 1 1 = M 1 1 ∧ M' 1 3 = M 1 3 ∧ M' 1 5 = M 1 5 := ⟨h.2 1 1 (Or.inr (Or.inr (Or.inl (by omega)))), h.2 1 3 (Or.inr (Or.inr (Or.inl (by omega)))), h.2 1 5 (Or.inr (Or.inr (Or.inl (by omega))))⟩
theorem tl_n4 {M M' : Int → Int → Int} (h : y_TL 4 M M') : M' 1 1 = M 1 1 ∧ M' 1 3 = M 1 3 ∧ M' 1 5 = M 1 5 := ⟨h.2 1 1 (Or.inl (by omega)), h.2 1 3 (Or.inl (by omega)), h.2 1 5 (Or.inl (by omega))⟩
theorem tl_a {M M' : Int → Int → Int} (h : y_TL 1 M M') : M' 163 0 = M 163 0 ∧ M' 163 1 = M 163 1 ∧ M' 163 2 = M 163 2 := ⟨h.2 163 0 (Or.inr (Or.inr (Or.inl (by omega)))), h.2 163 1 (Or.inr (Or.inr (Or.inl (by omega)))), h.2 163 2 (Or.inr (Or.inr (Or.inl (by omega))))⟩
theorem tl_15 {M M' : Int → Int → Int} (h : y_TL 5 M M') : y_TL 1 M M' := ⟨h.1, fun a k q => h.2 a k (by
  rcases q with q | q | q
  · exact Or.inl (by omega)
  · exact Or.inr (Or.inl (by omega))
  · exact Or.inr (Or.inr (Or.inl q)))⟩
theorem tl_16 {M M' : Int → Int → Int} (h : y_TL 6 M M') : y_TL 1 M M' := ⟨h.1, fun a k q => h.2 a k (by
  show a ≠ 167
  rcases q with q | q | q
  · omega
  · omega
  · unfold y_lm at q; omega)⟩
theorem tl_17 {M M' : Int → Int → Int} (h : y_TL 7 M M') : y_TL 1 M M' := ⟨h.1, fun a k q => h.2 a k (by
  show a ≠ 168
  rcases q with q | q | q
  · omega
  · omega
  · unfold y_lm at q; omega)⟩
theorem tl_35 {M M' : Int → Int → Int} (h : y_TL 5 M M') : y_TL 3 M M' := tl_31 (tl_15 h)
theorem tl_n5 {M M' : Int → Int → Int} (h : y_TL 5 M M') : M' 163 0 = M 163 0 ∧ M' 163 1 = M 163 1 ∧ M' 163 2 = M 163 2 ∧ ∀ i, 1594 ≤ i → M' 163 i = M 163 i := ⟨h.2 163 0 (Or.inr (Or.inr (Or.inl (by unfold y_lm; omega)))), h.2 163 1 (Or.inr (Or.inr (Or.inl (by unfold y_lm; omega)))), h.2 163 2 (Or.inr (Or.inr (Or.inl (by unfold y_lm; omega)))), fun i hi => h.2 163 i (Or.inr (Or.inr (Or.inr hi)))⟩
theorem tl_n6 {M M' : Int → Int → Int} (h : y_TL 6 M M') : M' 162 7 = M 162 7 ∧ ∀ i, M' 163 i = M 163 i := ⟨h.2 162 7 (show (162 : Int) ≠ 167 by omega), fun i => h.2 163 i (show (163 : Int) ≠ 167 by omega)⟩
theorem tl_n7 {M M' : Int → Int → Int} (h : y_TL 7 M M') : M' 162 7 = M 162 7 ∧ (∀ i, M' 167 i = M 167 i) ∧ ∀ i, M' 163 i = M 163 i := ⟨h.2 162 7 (show (162 : Int) ≠ 168 by omega), fun i => h.2 167 i (show (167 : Int) ≠ 168 by omega), fun i => h.2 163 i (show (163 : Int) ≠ 168 by omega)⟩
theorem tc_up {M : Int → Int → Int} {a k v : Int} (h : y_TC M) (hs : y_sl a k v) : y_TC (x_up M a k v) := by
  refine ⟨fun b j => ?_, fun s q => ?_, fun w q => ?_, fun c q => ?_⟩
  · unfold x_up
    by_cases e : b = a ∧ j = k
    · rw [if_pos e, e.1, e.2]; exact hs.1
    · rw [if_neg e]; exact h.1 b j
  · rw [x_up_no (fun e => hs.2 ⟨by omega, Or.inl ⟨by omega, by omega, by omega⟩⟩)]; exact h.2.1 s q
  · rw [x_up_no (fun e => hs.2 ⟨by omega, Or.inr (Or.inl ⟨by omega, by omega⟩)⟩)]; exact h.2.2.1 w q
  · rw [x_up_no (fun e => hs.2 ⟨by omega, Or.inr (Or.inr ⟨by omega, by omega, by omega⟩)⟩)]; exact h.2.2.2 c q
theorem tl_up {c : Nat} {M0 M : Int → Int → Int} {a k v : Int} (h : y_TL c M0 M) (hs : y_sl a k v) (hf : ¬ y_fr c a k) : y_TL c M0 (x_up M a k v) := by
  refine ⟨tc_up h.1 hs, fun b j q => ?_⟩
  rw [x_up_no (fun e => hf (by rw [← e.1, ← e.2]; exact q))]
  exact h.2 b j q
theorem nf2 {a k : Int} (h : 1 ≤ a ∧ a < 162) : ¬ y_fr 2 a k := by
  show ¬ (a < 1 ∨ 162 ≤ a)
  omega
theorem nf3 {a k : Int} (h : 162 ≤ a ∧ a < 170) : ¬ y_fr 3 a k := by
  show ¬ (a < 162 ∨ 170 ≤ a)
  omega
theorem nf4 {a k : Int} (h : 3 ≤ a ∧ a < 87) : ¬ y_fr 4 a k := by
  show ¬ (a < 3 ∨ 87 ≤ a)
  omega
theorem nf6 {k : Int} : ¬ y_fr 6 167 k := fun h => h rfl
theorem nf7 {k : Int} : ¬ y_fr 7 168 k := fun h => h rfl
theorem nf5 {k : Int} (h : ¬ y_fr 1 163 k) (hk : k < 1594) : ¬ y_fr 5 163 k := fun q => by
  rcases q with q | q | q | q
  · omega
  · omega
  · exact h (Or.inr (Or.inr q))
  · omega
theorem okv_m {a k v : Int} (h : 1 ≤ a ∧ a < 155) : y_okv a k v = y_okt (a - 1) k v := by
  unfold y_okv
  rw [if_neg (by omega), if_pos (by omega)]
theorem okv_o {a k v : Int} (h : 155 ≤ a ∧ a < 170) : y_okv a k v = y_okm a k v := by
  unfold y_okv
  rw [if_neg (by omega), if_neg (by omega), if_pos (by omega)]
theorem ty_town1 {M : Int → Int → Int} (hT : y_TC M)  : (0 : Int) ≤ M (1) 1 ∧ M (1) 1 ≤ 12 := by
  have h := hT.1 (1) 1
  exact (by
    rw [okv_m (by omega)] at h
    unfold y_okt at h
    rw [if_pos (by omega)] at h
    rw [if_pos (by omega)] at h
    exact h)
theorem sl_town1 {v : Int}  (hv : 0 ≤ v ∧ v ≤ 12) : y_sl (1) 1 v := by
  refine ⟨?_, ?_⟩
  · rw [okv_m (by omega)]
    unfold y_okt
    rw [if_pos (by omega)]
    rw [if_pos (by omega)]
    exact hv
  · unfold y_nu; omega
theorem ty_town3 {M : Int → Int → Int} (hT : y_TC M)  : (0 : Int) ≤ M (1) 3 ∧ M (1) 3 ≤ 60 := by
  have h := hT.1 (1) 3
  exact (by
    rw [okv_m (by omega)] at h
    unfold y_okt at h
    rw [if_pos (by omega)] at h
    rw [if_neg (by omega), if_pos (by omega)] at h
    exact h)
theorem sl_town3 {v : Int}  (hv : 0 ≤ v ∧ v ≤ 60) : y_sl (1) 3 v := by
  refine ⟨?_, ?_⟩
  · rw [okv_m (by omega)]
    unfold y_okt
    rw [if_pos (by omega)]
    rw [if_neg (by omega), if_pos (by omega)]
    exact hv
  · unfold y_nu; omega
theorem ty_town5 {M : Int → Int → Int} (hT : y_TC M)  : (0 : Int) ≤ M (1) 5 ∧ M (1) 5 ≤ 3 := by
  have h := hT.1 (1) 5
  exact (by
    rw [okv_m (by omega)] at h
    unfold y_okt at h
    rw [if_pos (by omega)] at h
    rw [if_neg (by omega), if_neg (by omega), if_pos (by omega)] at h
    exact h)
theorem sl_town5 {v : Int}  (hv : 0 ≤ v ∧ v ≤ 3) : y_sl (1) 5 v := by
  refine ⟨?_, ?_⟩
  · rw [okv_m (by omega)]
    unfold y_okt
    rw [if_pos (by omega)]
    rw [if_neg (by omega), if_neg (by omega), if_pos (by omega)]
    exact hv
  · unfold y_nu; omega
theorem ty_town6 {M : Int → Int → Int} (hT : y_TC M)  : (0 : Int) ≤ M (1) 6 ∧ M (1) 6 ≤ 23 := by
  have h := hT.1 (1) 6
  exact (by
    rw [okv_m (by omega)] at h
    unfold y_okt at h
    rw [if_pos (by omega)] at h
    rw [if_neg (by omega), if_neg (by omega), if_neg (by omega), if_pos (by omega)] at h
    exact h)
theorem sl_town6 {v : Int}  (hv : 0 ≤ v ∧ v ≤ 23) : y_sl (1) 6 v := by
  refine ⟨?_, ?_⟩
  · rw [okv_m (by omega)]
    unfold y_okt
    rw [if_pos (by omega)]
    rw [if_neg (by omega), if_neg (by omega), if_neg (by omega), if_pos (by omega)]
    exact hv
  · unfold y_nu; omega
theorem ty_st1 {i : Int} {M : Int → Int → Int} (hT : y_TC M) (hi : 0 ≤ i ∧ i < 12) : (0 : Int) ≤ M (3 + 7 * i) 1 ∧ M (3 + 7 * i) 1 ≤ 12 := by
  have h := hT.1 (3 + 7 * i) 1
  exact (by
    rw [okv_m (by omega)] at h
    unfold y_okt at h
    rw [if_neg (by omega), if_neg (by omega), if_pos (by omega), if_pos (by omega)] at h
    rw [if_pos (by omega)] at h
    exact h)
theorem sl_st1 {i : Int} {v : Int} (hi : 0 ≤ i ∧ i < 12) (hv : 0 ≤ v ∧ v ≤ 12) : y_sl (3 + 7 * i) 1 v := by
  refine ⟨?_, ?_⟩
  · rw [okv_m (by omega)]
    unfold y_okt
    rw [if_neg (by omega), if_neg (by omega), if_pos (by omega), if_pos (by omega)]
    rw [if_pos (by omega)]
    exact hv
  · unfold y_nu; omega
theorem nf_st1 {i : Int} (hi : 0 ≤ i ∧ i < 12) : ¬ y_fr 0 (3 + 7 * i) 1 := by
  show ¬ (_ ∨ _ ∨ y_lc _ _)
  unfold y_lc
  omega
theorem ty_st5 {i : Int} {M : Int → Int → Int} (hT : y_TC M) (hi : 0 ≤ i ∧ i < 12) : (-1 : Int) ≤ M (3 + 7 * i) 5 ∧ M (3 + 7 * i) 5 ≤ 8 := by
  have h := hT.1 (3 + 7 * i) 5
  exact (by
    rw [okv_m (by omega)] at h
    unfold y_okt at h
    rw [if_neg (by omega), if_neg (by omega), if_pos (by omega), if_pos (by omega)] at h
    rw [if_neg (by omega), if_pos (by omega)] at h
    exact h)
theorem sl_st5 {i : Int} {v : Int} (hi : 0 ≤ i ∧ i < 12) (hv : -1 ≤ v ∧ v ≤ 8) : y_sl (3 + 7 * i) 5 v := by
  refine ⟨?_, ?_⟩
  · rw [okv_m (by omega)]
    unfold y_okt
    rw [if_neg (by omega), if_neg (by omega), if_pos (by omega), if_pos (by omega)]
    rw [if_neg (by omega), if_pos (by omega)]
    exact hv
  · unfold y_nu; omega
theorem ty_st6 {i : Int} {M : Int → Int → Int} (hT : y_TC M) (hi : 0 ≤ i ∧ i < 12) : (-1 : Int) ≤ M (3 + 7 * i) 6 ∧ M (3 + 7 * i) 6 ≤ 12 := by
  have h := hT.1 (3 + 7 * i) 6
  exact (by
    rw [okv_m (by omega)] at h
    unfold y_okt at h
    rw [if_neg (by omega), if_neg (by omega), if_pos (by omega), if_pos (by omega)] at h
    rw [if_neg (by omega), if_neg (by omega), if_pos (by omega)] at h
    exact h)
theorem sl_st6 {i : Int} {v : Int} (hi : 0 ≤ i ∧ i < 12) (hv : -1 ≤ v ∧ v ≤ 12) : y_sl (3 + 7 * i) 6 v := by
  refine ⟨?_, ?_⟩
  · rw [okv_m (by omega)]
    unfold y_okt
    rw [if_neg (by omega), if_neg (by omega), if_pos (by omega), if_pos (by omega)]
    rw [if_neg (by omega), if_neg (by omega), if_pos (by omega)]
    exact hv
  · unfold y_nu; omega
theorem nf_st6 {i : Int} (hi : 0 ≤ i ∧ i < 12) : ¬ y_fr 0 (3 + 7 * i) 6 := by
  show ¬ (_ ∨ _ ∨ y_lc _ _)
  unfold y_lc
  omega
theorem sl_st7 {i : Int} {v : Int} (hi : 0 ≤ i ∧ i < 12)  : y_sl (3 + 7 * i) 7 v := by
  refine ⟨?_, ?_⟩
  · rw [okv_m (by omega)]
    unfold y_okt
    rw [if_neg (by omega), if_neg (by omega), if_pos (by omega), if_pos (by omega)]
    rw [if_neg (by omega), if_neg (by omega), if_neg (by omega)]
    exact trivial
  · unfold y_nu; omega
theorem nf_st7 {i : Int} (hi : 0 ≤ i ∧ i < 12) : ¬ y_fr 0 (3 + 7 * i) 7 := by
  show ¬ (_ ∨ _ ∨ y_lc _ _)
  unfold y_lc
  omega
theorem ty_con {i : Int} {j : Int} {M : Int → Int → Int} (hT : y_TC M) (hi : 0 ≤ i ∧ i < 12) : (-2 : Int) ≤ M (4 + 7 * i) j ∧ M (4 + 7 * i) j ≤ 59 := by
  have h := hT.1 (4 + 7 * i) j
  rw [okv_m (by omega)] at h
  unfold y_okt at h
  rw [if_neg (by omega), if_neg (by omega), if_pos (by omega), if_neg (by omega), if_pos (by omega)] at h
  exact h
theorem sl_con {i : Int} {j v : Int} (hi : 0 ≤ i ∧ i < 12) (hv : -2 ≤ v ∧ v ≤ 59) : y_sl (4 + 7 * i) j v := by
  refine ⟨?_, ?_⟩
  · rw [okv_m (by omega)]
    unfold y_okt
    rw [if_neg (by omega), if_neg (by omega), if_pos (by omega), if_neg (by omega), if_pos (by omega)]
    exact hv
  · unfold y_nu; omega
theorem nf_con {i : Int} {j : Int} (hi : 0 ≤ i ∧ i < 12) : ¬ y_fr 0 (4 + 7 * i) j := by
  show ¬ (_ ∨ _ ∨ y_lc _ _)
  unfold y_lc
  omega
theorem ty_len {i : Int} {j : Int} {M : Int → Int → Int} (hT : y_TC M) (hi : 0 ≤ i ∧ i < 12) : (0 : Int) ≤ M (5 + 7 * i) j ∧ M (5 + 7 * i) j ≤ 999 := by
  have h := hT.1 (5 + 7 * i) j
  rw [okv_m (by omega)] at h
  unfold y_okt at h
  rw [if_neg (by omega), if_neg (by omega), if_pos (by omega), if_neg (by omega), if_neg (by omega), if_pos (by omega)] at h
  exact h
theorem sl_len {i : Int} {j v : Int} (hi : 0 ≤ i ∧ i < 12) (hv : 0 ≤ v ∧ v ≤ 999) : y_sl (5 + 7 * i) j v := by
  refine ⟨?_, ?_⟩
  · rw [okv_m (by omega)]
    unfold y_okt
    rw [if_neg (by omega), if_neg (by omega), if_pos (by omega), if_neg (by omega), if_neg (by omega), if_pos (by omega)]
    exact hv
  · unfold y_nu; omega
theorem nf_len {i : Int} {j : Int} (hi : 0 ≤ i ∧ i < 12) : ¬ y_fr 0 (5 + 7 * i) j := by
  show ¬ (_ ∨ _ ∨ y_lc _ _)
  unfold y_lc
  omega
theorem ty_oth {i : Int} {j : Int} {M : Int → Int → Int} (hT : y_TC M) (hi : 0 ≤ i ∧ i < 12) : (0 : Int) ≤ M (6 + 7 * i) j ∧ M (6 + 7 * i) j ≤ 11 := by
  have h := hT.1 (6 + 7 * i) j
  rw [okv_m (by omega)] at h
  unfold y_okt at h
  rw [if_neg (by omega), if_neg (by omega), if_pos (by omega), if_neg (by omega), if_neg (by omega), if_neg (by omega), if_pos (by omega)] at h
  exact h
theorem sl_oth {i : Int} {j v : Int} (hi : 0 ≤ i ∧ i < 12) (hv : 0 ≤ v ∧ v ≤ 11) : y_sl (6 + 7 * i) j v := by
  refine ⟨?_, ?_⟩
  · rw [okv_m (by omega)]
    unfold y_okt
    rw [if_neg (by omega), if_neg (by omega), if_pos (by omega), if_neg (by omega), if_neg (by omega), if_neg (by omega), if_pos (by omega)]
    exact hv
  · unfold y_nu; omega
theorem nf_oth {i : Int} {j : Int} (hi : 0 ≤ i ∧ i < 12) : ¬ y_fr 0 (6 + 7 * i) j := by
  show ¬ (_ ∨ _ ∨ y_lc _ _)
  unfold y_lc
  omega
theorem ty_dem0 {i : Int} {M : Int → Int → Int} (hT : y_TC M) (hi : 0 ≤ i ∧ i < 12) : (0 : Int) ≤ M (7 + 7 * i) 0 ∧ M (7 + 7 * i) 0 ≤ 1 := by
  have h := hT.1 (7 + 7 * i) 0
  exact (by
    rw [okv_m (by omega)] at h
    unfold y_okt at h
    rw [if_neg (by omega), if_neg (by omega), if_pos (by omega), if_neg (by omega), if_neg (by omega), if_neg (by omega), if_neg (by omega), if_pos (by omega)] at h
    rw [if_pos (by omega)] at h
    exact h)
theorem sl_dem0 {i : Int} {v : Int} (hi : 0 ≤ i ∧ i < 12) (hv : 0 ≤ v ∧ v ≤ 1) : y_sl (7 + 7 * i) 0 v := by
  refine ⟨?_, ?_⟩
  · rw [okv_m (by omega)]
    unfold y_okt
    rw [if_neg (by omega), if_neg (by omega), if_pos (by omega), if_neg (by omega), if_neg (by omega), if_neg (by omega), if_neg (by omega), if_pos (by omega)]
    rw [if_pos (by omega)]
    exact hv
  · unfold y_nu; omega
theorem ty_br {i : Int} {j : Int} {M : Int → Int → Int} (hT : y_TC M) (hi : 0 ≤ i ∧ i < 12) : (0 : Int) ≤ M (8 + 7 * i) j ∧ M (8 + 7 * i) j ≤ 99 := by
  have h := hT.1 (8 + 7 * i) j
  rw [okv_m (by omega)] at h
  unfold y_okt at h
  rw [if_neg (by omega), if_neg (by omega), if_pos (by omega), if_neg (by omega), if_neg (by omega), if_neg (by omega), if_neg (by omega), if_neg (by omega)] at h
  exact h
theorem sl_br {i : Int} {j v : Int} (hi : 0 ≤ i ∧ i < 12) (hv : 0 ≤ v ∧ v ≤ 99) : y_sl (8 + 7 * i) j v := by
  refine ⟨?_, ?_⟩
  · rw [okv_m (by omega)]
    unfold y_okt
    rw [if_neg (by omega), if_neg (by omega), if_pos (by omega), if_neg (by omega), if_neg (by omega), if_neg (by omega), if_neg (by omega), if_neg (by omega)]
    exact hv
  · unfold y_nu; omega
theorem nf_br {i : Int} {j : Int} (hi : 0 ≤ i ∧ i < 12) : ¬ y_fr 0 (8 + 7 * i) j := by
  show ¬ (_ ∨ _ ∨ y_lc _ _)
  unfold y_lc
  omega
theorem ty_wa {i : Int} {j : Int} {M : Int → Int → Int} (hT : y_TC M) (hi : 0 ≤ i ∧ i < 12) : (0 : Int) ≤ M (9 + 7 * i) j ∧ M (9 + 7 * i) j ≤ 99 := by
  have h := hT.1 (9 + 7 * i) j
  rw [okv_m (by omega)] at h
  unfold y_okt at h
  rw [if_neg (by omega), if_neg (by omega), if_pos (by omega), if_neg (by omega), if_neg (by omega), if_neg (by omega), if_neg (by omega), if_neg (by omega)] at h
  exact h
theorem sl_wa {i : Int} {j v : Int} (hi : 0 ≤ i ∧ i < 12) (hv : 0 ≤ v ∧ v ≤ 99) : y_sl (9 + 7 * i) j v := by
  refine ⟨?_, ?_⟩
  · rw [okv_m (by omega)]
    unfold y_okt
    rw [if_neg (by omega), if_neg (by omega), if_pos (by omega), if_neg (by omega), if_neg (by omega), if_neg (by omega), if_neg (by omega), if_neg (by omega)]
    exact hv
  · unfold y_nu; omega
theorem nf_wa {i : Int} {j : Int} (hi : 0 ≤ i ∧ i < 12) : ¬ y_fr 0 (9 + 7 * i) j := by
  show ¬ (_ ∨ _ ∨ y_lc _ _)
  unfold y_lc
  omega
theorem ty_wh1 {i : Int} {M : Int → Int → Int} (hT : y_TC M) (hi : 0 ≤ i ∧ i < 60) : (0 : Int) ≤ M (88 + i) 1 ∧ M (88 + i) 1 ≤ 3 := by
  have h := hT.1 (88 + i) 1
  exact (by
    rw [okv_m (by omega)] at h
    unfold y_okt at h
    rw [if_neg (by omega), if_neg (by omega), if_neg (by omega), if_neg (by omega), if_pos (by omega)] at h
    rw [if_pos (by omega)] at h
    exact h)
theorem sl_wh1 {i : Int} {v : Int} (hi : 0 ≤ i ∧ i < 60) (hv : 0 ≤ v ∧ v ≤ 3) : y_sl (88 + i) 1 v := by
  refine ⟨?_, ?_⟩
  · rw [okv_m (by omega)]
    unfold y_okt
    rw [if_neg (by omega), if_neg (by omega), if_neg (by omega), if_neg (by omega), if_pos (by omega)]
    rw [if_pos (by omega)]
    exact hv
  · unfold y_nu; omega
theorem nf_wh1 {i : Int} (hi : 0 ≤ i ∧ i < 60) : ¬ y_fr 0 (88 + i) 1 := by
  show ¬ (_ ∨ _ ∨ y_lc _ _)
  unfold y_lc
  omega
theorem ty_wh2 {i : Int} {M : Int → Int → Int} (hT : y_TC M) (hi : 0 ≤ i ∧ i < 60) : (0 : Int) ≤ M (88 + i) 2 ∧ M (88 + i) 2 ≤ 1000 := by
  have h := hT.1 (88 + i) 2
  exact (by
    rw [okv_m (by omega)] at h
    unfold y_okt at h
    rw [if_neg (by omega), if_neg (by omega), if_neg (by omega), if_neg (by omega), if_pos (by omega)] at h
    rw [if_neg (by omega), if_pos (by omega)] at h
    exact h)
theorem sl_wh2 {i : Int} {v : Int} (hi : 0 ≤ i ∧ i < 60) (hv : 0 ≤ v ∧ v ≤ 1000) : y_sl (88 + i) 2 v := by
  refine ⟨?_, ?_⟩
  · rw [okv_m (by omega)]
    unfold y_okt
    rw [if_neg (by omega), if_neg (by omega), if_neg (by omega), if_neg (by omega), if_pos (by omega)]
    rw [if_neg (by omega), if_pos (by omega)]
    exact hv
  · unfold y_nu; omega
theorem nf_wh2 {i : Int} (hi : 0 ≤ i ∧ i < 60) : ¬ y_fr 0 (88 + i) 2 := by
  show ¬ (_ ∨ _ ∨ y_lc _ _)
  unfold y_lc
  omega
theorem ty_wh3 {i : Int} {M : Int → Int → Int} (hT : y_TC M) (hi : 0 ≤ i ∧ i < 60) : (0 : Int) ≤ M (88 + i) 3 ∧ M (88 + i) 3 ≤ 3 := by
  have h := hT.1 (88 + i) 3
  exact (by
    rw [okv_m (by omega)] at h
    unfold y_okt at h
    rw [if_neg (by omega), if_neg (by omega), if_neg (by omega), if_neg (by omega), if_pos (by omega)] at h
    rw [if_neg (by omega), if_neg (by omega), if_pos (by omega)] at h
    exact h)
theorem sl_wh3 {i : Int} {v : Int} (hi : 0 ≤ i ∧ i < 60) (hv : 0 ≤ v ∧ v ≤ 3) : y_sl (88 + i) 3 v := by
  refine ⟨?_, ?_⟩
  · rw [okv_m (by omega)]
    unfold y_okt
    rw [if_neg (by omega), if_neg (by omega), if_neg (by omega), if_neg (by omega), if_pos (by omega)]
    rw [if_neg (by omega), if_neg (by omega), if_pos (by omega)]
    exact hv
  · unfold y_nu; omega
theorem nf_wh3 {i : Int} (hi : 0 ≤ i ∧ i < 60) : ¬ y_fr 0 (88 + i) 3 := by
  show ¬ (_ ∨ _ ∨ y_lc _ _)
  unfold y_lc
  omega
theorem ty_wh4 {i : Int} {M : Int → Int → Int} (hT : y_TC M) (hi : 0 ≤ i ∧ i < 60) : (-1 : Int) ≤ M (88 + i) 4 ∧ M (88 + i) 4 ≤ 11 := by
  have h := hT.1 (88 + i) 4
  exact (by
    rw [okv_m (by omega)] at h
    unfold y_okt at h
    rw [if_neg (by omega), if_neg (by omega), if_neg (by omega), if_neg (by omega), if_pos (by omega)] at h
    rw [if_neg (by omega), if_neg (by omega), if_neg (by omega), if_pos (by omega)] at h
    exact h)
theorem sl_wh4 {i : Int} {v : Int} (hi : 0 ≤ i ∧ i < 60) (hv : -1 ≤ v ∧ v ≤ 11) : y_sl (88 + i) 4 v := by
  refine ⟨?_, ?_⟩
  · rw [okv_m (by omega)]
    unfold y_okt
    rw [if_neg (by omega), if_neg (by omega), if_neg (by omega), if_neg (by omega), if_pos (by omega)]
    rw [if_neg (by omega), if_neg (by omega), if_neg (by omega), if_pos (by omega)]
    exact hv
  · unfold y_nu; omega
theorem nf_wh4 {i : Int} (hi : 0 ≤ i ∧ i < 60) : ¬ y_fr 0 (88 + i) 4 := by
  show ¬ (_ ∨ _ ∨ y_lc _ _)
  unfold y_lc
  omega
theorem ty_wh5 {i : Int} {M : Int → Int → Int} (hT : y_TC M) (hi : 0 ≤ i ∧ i < 60) : (-1 : Int) ≤ M (88 + i) 5 ∧ M (88 + i) 5 ≤ 11 := by
  have h := hT.1 (88 + i) 5
  exact (by
    rw [okv_m (by omega)] at h
    unfold y_okt at h
    rw [if_neg (by omega), if_neg (by omega), if_neg (by omega), if_neg (by omega), if_pos (by omega)] at h
    rw [if_neg (by omega), if_neg (by omega), if_neg (by omega), if_neg (by omega), if_pos (by omega)] at h
    exact h)
theorem sl_wh5 {i : Int} {v : Int} (hi : 0 ≤ i ∧ i < 60) (hv : -1 ≤ v ∧ v ≤ 11) : y_sl (88 + i) 5 v := by
  refine ⟨?_, ?_⟩
  · rw [okv_m (by omega)]
    unfold y_okt
    rw [if_neg (by omega), if_neg (by omega), if_neg (by omega), if_neg (by omega), if_pos (by omega)]
    rw [if_neg (by omega), if_neg (by omega), if_neg (by omega), if_neg (by omega), if_pos (by omega)]
    exact hv
  · unfold y_nu; omega
theorem nf_wh5 {i : Int} (hi : 0 ≤ i ∧ i < 60) : ¬ y_fr 0 (88 + i) 5 := by
  show ¬ (_ ∨ _ ∨ y_lc _ _)
  unfold y_lc
  omega
theorem sl_wh6 {i : Int} {v : Int} (hi : 0 ≤ i ∧ i < 60)  : y_sl (88 + i) 6 v := by
  refine ⟨?_, ?_⟩
  · rw [okv_m (by omega)]
    unfold y_okt
    rw [if_neg (by omega), if_neg (by omega), if_neg (by omega), if_neg (by omega), if_pos (by omega)]
    rw [if_neg (by omega), if_neg (by omega), if_neg (by omega), if_neg (by omega), if_neg (by omega), if_neg (by omega), if_neg (by omega), if_neg (by omega)]
    exact trivial
  · unfold y_nu; omega
theorem nf_wh6 {i : Int} (hi : 0 ≤ i ∧ i < 60) : ¬ y_fr 0 (88 + i) 6 := by
  show ¬ (_ ∨ _ ∨ y_lc _ _)
  unfold y_lc
  omega
theorem ty_wh7 {i : Int} {M : Int → Int → Int} (hT : y_TC M) (hi : 0 ≤ i ∧ i < 60) : (0 : Int) ≤ M (88 + i) 7 ∧ M (88 + i) 7 ≤ 1 := by
  have h := hT.1 (88 + i) 7
  exact (by
    rw [okv_m (by omega)] at h
    unfold y_okt at h
    rw [if_neg (by omega), if_neg (by omega), if_neg (by omega), if_neg (by omega), if_pos (by omega)] at h
    rw [if_neg (by omega), if_neg (by omega), if_neg (by omega), if_neg (by omega), if_neg (by omega), if_pos (by omega)] at h
    exact h)
theorem sl_wh7 {i : Int} {v : Int} (hi : 0 ≤ i ∧ i < 60) (hv : 0 ≤ v ∧ v ≤ 1) : y_sl (88 + i) 7 v := by
  refine ⟨?_, ?_⟩
  · rw [okv_m (by omega)]
    unfold y_okt
    rw [if_neg (by omega), if_neg (by omega), if_neg (by omega), if_neg (by omega), if_pos (by omega)]
    rw [if_neg (by omega), if_neg (by omega), if_neg (by omega), if_neg (by omega), if_neg (by omega), if_pos (by omega)]
    exact hv
  · unfold y_nu; omega
theorem nf_wh7 {i : Int} (hi : 0 ≤ i ∧ i < 60) : ¬ y_fr 0 (88 + i) 7 := by
  show ¬ (_ ∨ _ ∨ y_lc _ _)
  unfold y_lc
  omega
theorem ty_wh8 {i : Int} {M : Int → Int → Int} (hT : y_TC M) (hi : 0 ≤ i ∧ i < 60) : (0 : Int) ≤ M (88 + i) 8 ∧ M (88 + i) 8 ≤ 1 := by
  have h := hT.1 (88 + i) 8
  exact (by
    rw [okv_m (by omega)] at h
    unfold y_okt at h
    rw [if_neg (by omega), if_neg (by omega), if_neg (by omega), if_neg (by omega), if_pos (by omega)] at h
    rw [if_neg (by omega), if_neg (by omega), if_neg (by omega), if_neg (by omega), if_neg (by omega), if_neg (by omega), if_pos (by omega)] at h
    exact h)
theorem sl_wh8 {i : Int} {v : Int} (hi : 0 ≤ i ∧ i < 60) (hv : 0 ≤ v ∧ v ≤ 1) : y_sl (88 + i) 8 v := by
  refine ⟨?_, ?_⟩
  · rw [okv_m (by omega)]
    unfold y_okt
    rw [if_neg (by omega), if_neg (by omega), if_neg (by omega), if_neg (by omega), if_pos (by omega)]
    rw [if_neg (by omega), if_neg (by omega), if_neg (by omega), if_neg (by omega), if_neg (by omega), if_neg (by omega), if_pos (by omega)]
    exact hv
  · unfold y_nu; omega
theorem nf_wh8 {i : Int} (hi : 0 ≤ i ∧ i < 60) : ¬ y_fr 0 (88 + i) 8 := by
  show ¬ (_ ∨ _ ∨ y_lc _ _)
  unfold y_lc
  omega
theorem ty_wh9 {i : Int} {M : Int → Int → Int} (hT : y_TC M) (hi : 0 ≤ i ∧ i < 60) : (-1 : Int) ≤ M (88 + i) 9 ∧ M (88 + i) 9 ≤ 59 := by
  have h := hT.1 (88 + i) 9
  exact (by
    rw [okv_m (by omega)] at h
    unfold y_okt at h
    rw [if_neg (by omega), if_neg (by omega), if_neg (by omega), if_neg (by omega), if_pos (by omega)] at h
    rw [if_neg (by omega), if_neg (by omega), if_neg (by omega), if_neg (by omega), if_neg (by omega), if_neg (by omega), if_neg (by omega), if_pos (by omega)] at h
    exact h)
theorem sl_wh9 {i : Int} {v : Int} (hi : 0 ≤ i ∧ i < 60) (hv : -1 ≤ v ∧ v ≤ 59) : y_sl (88 + i) 9 v := by
  refine ⟨?_, ?_⟩
  · rw [okv_m (by omega)]
    unfold y_okt
    rw [if_neg (by omega), if_neg (by omega), if_neg (by omega), if_neg (by omega), if_pos (by omega)]
    rw [if_neg (by omega), if_neg (by omega), if_neg (by omega), if_neg (by omega), if_neg (by omega), if_neg (by omega), if_neg (by omega), if_pos (by omega)]
    exact hv
  · unfold y_nu; omega
theorem nf_wh9 {i : Int} (hi : 0 ≤ i ∧ i < 60) : ¬ y_fr 0 (88 + i) 9 := by
  show ¬ (_ ∨ _ ∨ y_lc _ _)
  unfold y_lc
  omega
theorem ty_ca1 {i : Int} {M : Int → Int → Int} (hT : y_TC M) (hi : 0 ≤ i ∧ i < 3) : (0 : Int) ≤ M (149 + 2 * i) 1 ∧ M (149 + 2 * i) 1 ≤ 8 := by
  have h := hT.1 (149 + 2 * i) 1
  exact (by
    rw [okv_m (by omega)] at h
    unfold y_okt at h
    rw [if_neg (by omega), if_neg (by omega), if_neg (by omega), if_neg (by omega), if_neg (by omega), if_neg (by omega), if_pos (by omega)] at h
    rw [if_pos (by omega)] at h
    exact h)
theorem sl_ca1 {i : Int} {v : Int} (hi : 0 ≤ i ∧ i < 3) (hv : 0 ≤ v ∧ v ≤ 8) : y_sl (149 + 2 * i) 1 v := by
  refine ⟨?_, ?_⟩
  · rw [okv_m (by omega)]
    unfold y_okt
    rw [if_neg (by omega), if_neg (by omega), if_neg (by omega), if_neg (by omega), if_neg (by omega), if_neg (by omega), if_pos (by omega)]
    rw [if_pos (by omega)]
    exact hv
  · unfold y_nu; omega
theorem nf_ca1 {i : Int} (hi : 0 ≤ i ∧ i < 3) : ¬ y_fr 0 (149 + 2 * i) 1 := by
  show ¬ (_ ∨ _ ∨ y_lc _ _)
  unfold y_lc
  omega
theorem ty_ca2 {i : Int} {M : Int → Int → Int} (hT : y_TC M) (hi : 0 ≤ i ∧ i < 3) : (0 : Int) ≤ M (149 + 2 * i) 2 ∧ M (149 + 2 * i) 2 ≤ 11 := by
  have h := hT.1 (149 + 2 * i) 2
  exact (by
    rw [okv_m (by omega)] at h
    unfold y_okt at h
    rw [if_neg (by omega), if_neg (by omega), if_neg (by omega), if_neg (by omega), if_neg (by omega), if_neg (by omega), if_pos (by omega)] at h
    rw [if_neg (by omega), if_pos (by omega)] at h
    exact h)
theorem sl_ca2 {i : Int} {v : Int} (hi : 0 ≤ i ∧ i < 3) (hv : 0 ≤ v ∧ v ≤ 11) : y_sl (149 + 2 * i) 2 v := by
  refine ⟨?_, ?_⟩
  · rw [okv_m (by omega)]
    unfold y_okt
    rw [if_neg (by omega), if_neg (by omega), if_neg (by omega), if_neg (by omega), if_neg (by omega), if_neg (by omega), if_pos (by omega)]
    rw [if_neg (by omega), if_pos (by omega)]
    exact hv
  · unfold y_nu; omega
theorem nf_ca2 {i : Int} (hi : 0 ≤ i ∧ i < 3) : ¬ y_fr 0 (149 + 2 * i) 2 := by
  show ¬ (_ ∨ _ ∨ y_lc _ _)
  unfold y_lc
  omega
theorem sl_ca3 {i : Int} {v : Int} (hi : 0 ≤ i ∧ i < 3)  : y_sl (149 + 2 * i) 3 v := by
  refine ⟨?_, ?_⟩
  · rw [okv_m (by omega)]
    unfold y_okt
    rw [if_neg (by omega), if_neg (by omega), if_neg (by omega), if_neg (by omega), if_neg (by omega), if_neg (by omega), if_pos (by omega)]
    rw [if_neg (by omega), if_neg (by omega), if_neg (by omega)]
    exact trivial
  · unfold y_nu; omega
theorem nf_ca3 {i : Int} (hi : 0 ≤ i ∧ i < 3) : ¬ y_fr 0 (149 + 2 * i) 3 := by
  show ¬ (_ ∨ _ ∨ y_lc _ _)
  unfold y_lc
  omega
theorem sl_ca4 {i : Int} {v : Int} (hi : 0 ≤ i ∧ i < 3)  : y_sl (149 + 2 * i) 4 v := by
  refine ⟨?_, ?_⟩
  · rw [okv_m (by omega)]
    unfold y_okt
    rw [if_neg (by omega), if_neg (by omega), if_neg (by omega), if_neg (by omega), if_neg (by omega), if_neg (by omega), if_pos (by omega)]
    rw [if_neg (by omega), if_neg (by omega), if_neg (by omega)]
    exact trivial
  · unfold y_nu; omega
theorem nf_ca4 {i : Int} (hi : 0 ≤ i ∧ i < 3) : ¬ y_fr 0 (149 + 2 * i) 4 := by
  show ¬ (_ ∨ _ ∨ y_lc _ _)
  unfold y_lc
  omega
theorem ty_ca6 {i : Int} {M : Int → Int → Int} (hT : y_TC M) (hi : 0 ≤ i ∧ i < 3) : (0 : Int) ≤ M (149 + 2 * i) 6 ∧ M (149 + 2 * i) 6 ≤ 8 := by
  have h := hT.1 (149 + 2 * i) 6
  exact (by
    rw [okv_m (by omega)] at h
    unfold y_okt at h
    rw [if_neg (by omega), if_neg (by omega), if_neg (by omega), if_neg (by omega), if_neg (by omega), if_neg (by omega), if_pos (by omega)] at h
    rw [if_neg (by omega), if_neg (by omega), if_pos (by omega)] at h
    exact h)
theorem sl_ca6 {i : Int} {v : Int} (hi : 0 ≤ i ∧ i < 3) (hv : 0 ≤ v ∧ v ≤ 8) : y_sl (149 + 2 * i) 6 v := by
  refine ⟨?_, ?_⟩
  · rw [okv_m (by omega)]
    unfold y_okt
    rw [if_neg (by omega), if_neg (by omega), if_neg (by omega), if_neg (by omega), if_neg (by omega), if_neg (by omega), if_pos (by omega)]
    rw [if_neg (by omega), if_neg (by omega), if_pos (by omega)]
    exact hv
  · unfold y_nu; omega
theorem nf_ca6 {i : Int} (hi : 0 ≤ i ∧ i < 3) : ¬ y_fr 0 (149 + 2 * i) 6 := by
  show ¬ (_ ∨ _ ∨ y_lc _ _)
  unfold y_lc
  omega
theorem ty_row {i : Int} {j : Int} {M : Int → Int → Int} (hT : y_TC M) (hi : 0 ≤ i ∧ i < 3) : (0 : Int) ≤ M (150 + 2 * i) j ∧ M (150 + 2 * i) j ≤ 59 := by
  have h := hT.1 (150 + 2 * i) j
  rw [okv_m (by omega)] at h
  unfold y_okt at h
  rw [if_neg (by omega), if_neg (by omega), if_neg (by omega), if_neg (by omega), if_neg (by omega), if_neg (by omega), if_neg (by omega)] at h
  exact h
theorem sl_row {i : Int} {j v : Int} (hi : 0 ≤ i ∧ i < 3) (hv : 0 ≤ v ∧ v ≤ 59) : y_sl (150 + 2 * i) j v := by
  refine ⟨?_, ?_⟩
  · rw [okv_m (by omega)]
    unfold y_okt
    rw [if_neg (by omega), if_neg (by omega), if_neg (by omega), if_neg (by omega), if_neg (by omega), if_neg (by omega), if_neg (by omega)]
    exact hv
  · unfold y_nu; omega
theorem nf_row {i : Int} {j : Int} (hi : 0 ≤ i ∧ i < 3) : ¬ y_fr 0 (150 + 2 * i) j := by
  show ¬ (_ ∨ _ ∨ y_lc _ _)
  unfold y_lc
  omega
theorem nu_st {i : Int} {M : Int → Int → Int} (hT : y_TC M) (hi : 0 ≤ i ∧ i < 12) : M (3 + 7 * i) 0 = i := x_Pe (hT.2.1 i hi) (by omega) rfl
theorem nu_wh {i : Int} {M : Int → Int → Int} (hT : y_TC M) (hi : 0 ≤ i ∧ i < 60) : M (88 + i) 0 = i := x_Pe (hT.2.2.1 i hi) (by omega) rfl
theorem nu_ca {i : Int} {M : Int → Int → Int} (hT : y_TC M) (hi : 0 ≤ i ∧ i < 3) : M (149 + 2 * i) 0 = i := x_Pe (hT.2.2.2 i hi) (by omega) rfl
theorem ty_tour1 {M : Int → Int → Int} (hT : y_TC M) : (0 : Int) ≤ M 156 1 ∧ M 156 1 ≤ 7 := by
  have h := hT.1 156 1
  rw [okv_o (by omega)] at h
  simpa [y_okm] using h
theorem sl_tour1 {v : Int} (hv : 0 ≤ v ∧ v ≤ 7) : y_sl 156 1 v := by
  refine ⟨?_, ?_⟩
  · rw [okv_o (by omega)]
    simp [y_okm]
    exact hv
  · unfold y_nu; omega
theorem nf_tour1 : ¬ y_fr 0 156 1 := by
  show ¬ (_ ∨ _ ∨ y_lc _ _)
  unfold y_lc
  omega
theorem ty_tour4 {M : Int → Int → Int} (hT : y_TC M) : (0 : Int) ≤ M 156 4 ∧ M 156 4 ≤ 7 := by
  have h := hT.1 156 4
  rw [okv_o (by omega)] at h
  simpa [y_okm] using h
theorem sl_tour4 {v : Int} (hv : 0 ≤ v ∧ v ≤ 7) : y_sl 156 4 v := by
  refine ⟨?_, ?_⟩
  · rw [okv_o (by omega)]
    simp [y_okm]
    exact hv
  · unfold y_nu; omega
theorem nf_tour4 : ¬ y_fr 0 156 4 := by
  show ¬ (_ ∨ _ ∨ y_lc _ _)
  unfold y_lc
  omega
theorem sl_mo2 {v : Int}  : y_sl 162 2 v := by
  refine ⟨?_, ?_⟩
  · rw [okv_o (by omega)]
    simp [y_okm]
  · unfold y_nu; omega
theorem nf_mo2 : ¬ y_fr 1 162 2 := by
  show ¬ (_ ∨ _ ∨ y_lm _ _)
  unfold y_lm
  omega
theorem sl_mo3 {v : Int}  : y_sl 162 3 v := by
  refine ⟨?_, ?_⟩
  · rw [okv_o (by omega)]
    simp [y_okm]
  · unfold y_nu; omega
theorem nf_mo3 : ¬ y_fr 1 162 3 := by
  show ¬ (_ ∨ _ ∨ y_lm _ _)
  unfold y_lm
  omega
theorem sl_mo4 {v : Int}  : y_sl 162 4 v := by
  refine ⟨?_, ?_⟩
  · rw [okv_o (by omega)]
    simp [y_okm]
  · unfold y_nu; omega
theorem nf_mo4 : ¬ y_fr 1 162 4 := by
  show ¬ (_ ∨ _ ∨ y_lm _ _)
  unfold y_lm
  omega
theorem ty_mo7 {M : Int → Int → Int} (hT : y_TC M) : (0 : Int) ≤ M 162 7 ∧ M 162 7 ≤ 12 := by
  have h := hT.1 162 7
  rw [okv_o (by omega)] at h
  simpa [y_okm] using h
theorem sl_mo7 {v : Int} (hv : 0 ≤ v ∧ v ≤ 12) : y_sl 162 7 v := by
  refine ⟨?_, ?_⟩
  · rw [okv_o (by omega)]
    simp [y_okm]
    exact hv
  · unfold y_nu; omega
theorem nf_mo7 : ¬ y_fr 1 162 7 := by
  show ¬ (_ ∨ _ ∨ y_lm _ _)
  unfold y_lm
  omega
theorem ty_mo11 {M : Int → Int → Int} (hT : y_TC M) : (0 : Int) ≤ M 162 11 ∧ M 162 11 ≤ 7 := by
  have h := hT.1 162 11
  rw [okv_o (by omega)] at h
  simpa [y_okm] using h
theorem sl_mo11 {v : Int} (hv : 0 ≤ v ∧ v ≤ 7) : y_sl 162 11 v := by
  refine ⟨?_, ?_⟩
  · rw [okv_o (by omega)]
    simp [y_okm]
    exact hv
  · unfold y_nu; omega
theorem nf_mo11 : ¬ y_fr 1 162 11 := by
  show ¬ (_ ∨ _ ∨ y_lm _ _)
  unfold y_lm
  omega
theorem ty_t0 {j : Int} {M : Int → Int → Int} (hT : y_TC M) : (0 : Int) ≤ M 157 j ∧ M 157 j ≤ 11 := by
  have h := hT.1 157 j
  rw [okv_o (by omega)] at h
  simpa [y_okm] using h
theorem sl_t0 {j v : Int} (hv : 0 ≤ v ∧ v ≤ 11) : y_sl 157 j v := by
  refine ⟨?_, ?_⟩
  · rw [okv_o (by omega)]
    simp [y_okm]
    exact hv
  · unfold y_nu; omega
theorem nf_t0 {j : Int} : ¬ y_fr 0 157 j := by
  show ¬ (_ ∨ _ ∨ y_lc _ _)
  unfold y_lc
  omega
theorem ty_t2 {j : Int} {M : Int → Int → Int} (hT : y_TC M) : (0 : Int) ≤ M 158 j ∧ M 158 j ≤ 11 := by
  have h := hT.1 158 j
  rw [okv_o (by omega)] at h
  simpa [y_okm] using h
theorem sl_t2 {j v : Int} (hv : 0 ≤ v ∧ v ≤ 11) : y_sl 158 j v := by
  refine ⟨?_, ?_⟩
  · rw [okv_o (by omega)]
    simp [y_okm]
    exact hv
  · unfold y_nu; omega
theorem nf_t2 {j : Int} : ¬ y_fr 0 158 j := by
  show ¬ (_ ∨ _ ∨ y_lc _ _)
  unfold y_lc
  omega
theorem ty_t3 {j : Int} {M : Int → Int → Int} (hT : y_TC M) : (-12 : Int) ≤ M 159 j ∧ M 159 j ≤ 60 := by
  have h := hT.1 159 j
  rw [okv_o (by omega)] at h
  simpa [y_okm] using h
theorem sl_t3 {j v : Int} (hv : -12 ≤ v ∧ v ≤ 60) : y_sl 159 j v := by
  refine ⟨?_, ?_⟩
  · rw [okv_o (by omega)]
    simp [y_okm]
    exact hv
  · unfold y_nu; omega
theorem nf_t3 {j : Int} : ¬ y_fr 0 159 j := by
  show ¬ (_ ∨ _ ∨ y_lc _ _)
  unfold y_lc
  omega
theorem sl_t5 {j v : Int}  : y_sl 160 j v := by
  refine ⟨?_, ?_⟩
  · rw [okv_o (by omega)]
    simp [y_okm]
  · unfold y_nu; omega
theorem nf_t5 {j : Int} : ¬ y_fr 0 160 j := by
  show ¬ (_ ∨ _ ∨ y_lc _ _)
  unfold y_lc
  omega
theorem ty_t6 {j : Int} {M : Int → Int → Int} (hT : y_TC M) : (0 : Int) ≤ M 161 j ∧ M 161 j ≤ 1000000 := by
  have h := hT.1 161 j
  rw [okv_o (by omega)] at h
  simpa [y_okm] using h
theorem sl_t6 {j v : Int} (hv : 0 ≤ v ∧ v ≤ 1000000) : y_sl 161 j v := by
  refine ⟨?_, ?_⟩
  · rw [okv_o (by omega)]
    simp [y_okm]
    exact hv
  · unfold y_nu; omega
theorem nf_t6 {j : Int} : ¬ y_fr 0 161 j := by
  show ¬ (_ ∨ _ ∨ y_lc _ _)
  unfold y_lc
  omega
theorem ty_outs {j : Int} {M : Int → Int → Int} (hT : y_TC M) : (0 : Int) ≤ M 165 j ∧ M 165 j ≤ 11 := by
  have h := hT.1 165 j
  rw [okv_o (by omega)] at h
  simpa [y_okm] using h
theorem sl_outs {j v : Int} (hv : 0 ≤ v ∧ v ≤ 11) : y_sl 165 j v := by
  refine ⟨?_, ?_⟩
  · rw [okv_o (by omega)]
    simp [y_okm]
    exact hv
  · unfold y_nu; omega
theorem nf_outs {j : Int} : ¬ y_fr 1 165 j := by
  show ¬ (_ ∨ _ ∨ y_lm _ _)
  unfold y_lm
  omega
theorem ty_over {j : Int} {M : Int → Int → Int} (hT : y_TC M) : (-12 : Int) ≤ M 166 j ∧ M 166 j ≤ 60 := by
  have h := hT.1 166 j
  rw [okv_o (by omega)] at h
  simpa [y_okm] using h
theorem sl_over {j v : Int} (hv : -12 ≤ v ∧ v ≤ 60) : y_sl 166 j v := by
  refine ⟨?_, ?_⟩
  · rw [okv_o (by omega)]
    simp [y_okm]
    exact hv
  · unfold y_nu; omega
theorem nf_over {j : Int} : ¬ y_fr 1 166 j := by
  show ¬ (_ ∨ _ ∨ y_lm _ _)
  unfold y_lm
  omega
theorem ty_tried {j : Int} {M : Int → Int → Int} (hT : y_TC M) : (0 : Int) ≤ M 167 j ∧ M 167 j ≤ 6 := by
  have h := hT.1 167 j
  rw [okv_o (by omega)] at h
  simpa [y_okm] using h
theorem sl_tried {j v : Int} (hv : 0 ≤ v ∧ v ≤ 6) : y_sl 167 j v := by
  refine ⟨?_, ?_⟩
  · rw [okv_o (by omega)]
    simp [y_okm]
    exact hv
  · unfold y_nu; omega
theorem nf_tried {j : Int} : ¬ y_fr 1 167 j := by
  show ¬ (_ ∨ _ ∨ y_lm _ _)
  unfold y_lm
  omega
theorem ty_best {j : Int} {M : Int → Int → Int} (hT : y_TC M) : (0 : Int) ≤ M 168 j ∧ M 168 j ≤ 11 := by
  have h := hT.1 168 j
  rw [okv_o (by omega)] at h
  simpa [y_okm] using h
theorem sl_best {j v : Int} (hv : 0 ≤ v ∧ v ≤ 11) : y_sl 168 j v := by
  refine ⟨?_, ?_⟩
  · rw [okv_o (by omega)]
    simp [y_okm]
    exact hv
  · unfold y_nu; omega
theorem nf_best {j : Int} : ¬ y_fr 1 168 j := by
  show ¬ (_ ∨ _ ∨ y_lm _ _)
  unfold y_lm
  omega
theorem ty_round {j : Int} {M : Int → Int → Int} (hT : y_TC M) : (0 : Int) ≤ M 169 j ∧ M 169 j ≤ 11 := by
  have h := hT.1 169 j
  rw [okv_o (by omega)] at h
  simpa [y_okm] using h
theorem sl_round {j v : Int} (hv : 0 ≤ v ∧ v ≤ 11) : y_sl 169 j v := by
  refine ⟨?_, ?_⟩
  · rw [okv_o (by omega)]
    simp [y_okm]
    exact hv
  · unfold y_nu; omega
theorem nf_round {j : Int} : ¬ y_fr 1 169 j := by
  show ¬ (_ ∨ _ ∨ y_lm _ _)
  unfold y_lm
  omega
theorem okv_A {i v : Int} (h : 0 ≤ i ∧ i < 1640) : y_okv 163 i v = y_oA i v := by
  rw [okv_o (by omega)]
  unfold y_okm
  rw [if_neg (by omega), if_neg (by omega), if_neg (by omega), if_neg (by omega), if_neg (by omega), if_neg (by omega), if_pos rfl, show i % 1640 = i by omega]
theorem sl_A {i v : Int} (h : 0 ≤ i ∧ i < 1640) (hv : y_oA i v) : y_sl 163 i v := ⟨by rw [okv_A h]; exact hv, by unfold y_nu; omega⟩
theorem ty_A {i : Int} {M : Int → Int → Int} (hT : y_TC M) (h : 0 ≤ i ∧ i < 1640) : y_oA i (M 163 i) := by
  have q := hT.1 163 i
  rw [okv_A h] at q
  exact q
theorem ty_a0 {M : Int → Int → Int} (hT : y_TC M) : (0 : Int) ≤ M 163 0 ∧ M 163 0 ≤ 12 := by
  have h := ty_A (i := 0) hT (by omega)
  unfold y_oA at h
  rw [if_pos (by omega), if_pos (by omega)] at h
  exact h
theorem sl_a0 {v : Int} (hv : 0 ≤ v ∧ v ≤ 12) : y_sl 163 0 v := sl_A (by omega) (by
  unfold y_oA
  rw [if_pos (by omega), if_pos (by omega)]
  exact hv)
theorem ty_a1 {M : Int → Int → Int} (hT : y_TC M) : (0 : Int) ≤ M 163 1 ∧ M 163 1 ≤ 60 := by
  have h := ty_A (i := 1) hT (by omega)
  unfold y_oA at h
  rw [if_pos (by omega), if_neg (by omega), if_pos (by omega)] at h
  exact h
theorem sl_a1 {v : Int} (hv : 0 ≤ v ∧ v ≤ 60) : y_sl 163 1 v := sl_A (by omega) (by
  unfold y_oA
  rw [if_pos (by omega), if_neg (by omega), if_pos (by omega)]
  exact hv)
theorem ty_a2 {M : Int → Int → Int} (hT : y_TC M) : (0 : Int) ≤ M 163 2 ∧ M 163 2 ≤ 3 := by
  have h := ty_A (i := 2) hT (by omega)
  unfold y_oA at h
  rw [if_pos (by omega), if_neg (by omega), if_neg (by omega), if_pos (by omega)] at h
  exact h
theorem sl_a2 {v : Int} (hv : 0 ≤ v ∧ v ≤ 3) : y_sl 163 2 v := sl_A (by omega) (by
  unfold y_oA
  rw [if_pos (by omega), if_neg (by omega), if_neg (by omega), if_pos (by omega)]
  exact hv)
theorem ty_a3 {M : Int → Int → Int} (hT : y_TC M) : (0 : Int) ≤ M 163 3 ∧ M 163 3 ≤ 23 := by
  have h := ty_A (i := 3) hT (by omega)
  unfold y_oA at h
  rw [if_pos (by omega), if_neg (by omega), if_neg (by omega), if_neg (by omega), if_pos (by omega)] at h
  exact h
theorem sl_a3 {v : Int} (hv : 0 ≤ v ∧ v ≤ 23) : y_sl 163 3 v := sl_A (by omega) (by
  unfold y_oA
  rw [if_pos (by omega), if_neg (by omega), if_neg (by omega), if_neg (by omega), if_pos (by omega)]
  exact hv)
theorem ty_aD {i s : Int} {M : Int → Int → Int} (hT : y_TC M) (hs : 0 ≤ s ∧ s < 12) (hi : i = 10 + 80 * s) : (-1 : Int) ≤ M 163 i ∧ M 163 i ≤ 12 := by
  have h := ty_A (i := i) hT (by omega)
  unfold y_oA at h
  rw [if_neg (by omega), if_pos (by omega)] at h
  rw [show (i - 10) % 80 = 0 by omega] at h
  unfold y_oAS at h
  rw [if_pos (by omega)] at h
  exact h
theorem sl_aD {i s v : Int} (hs : 0 ≤ s ∧ s < 12) (hi : i = 10 + 80 * s) (hv : -1 ≤ v ∧ v ≤ 12) : y_sl 163 i v := sl_A (by omega) (by
  unfold y_oA
  rw [if_neg (by omega), if_pos (by omega)]
  rw [show (i - 10) % 80 = 0 by omega]
  unfold y_oAS
  rw [if_pos (by omega)]
  exact hv)
theorem nf_aD {i s : Int} (hs : 0 ≤ s ∧ s < 12) (hi : i = 10 + 80 * s) : ¬ y_fr 1 163 i := by
  show ¬ (_ ∨ _ ∨ y_lm _ _)
  unfold y_lm
  omega
theorem sl_aF {i s v : Int} (hs : 0 ≤ s ∧ s < 12) (hi : i = 23 + 80 * s)  : y_sl 163 i v := sl_A (by omega) (by
  unfold y_oA
  rw [if_neg (by omega), if_pos (by omega)]
  rw [show (i - 10) % 80 = 13 by omega]
  unfold y_oAS
  rw [if_neg (by omega), if_neg (by omega), if_pos (by omega)]
  exact trivial)
theorem nf_aF {i s : Int} (hs : 0 ≤ s ∧ s < 12) (hi : i = 23 + 80 * s) : ¬ y_fr 1 163 i := by
  show ¬ (_ ∨ _ ∨ y_lm _ _)
  unfold y_lm
  omega
theorem ty_aWt {i s : Int} {M : Int → Int → Int} (hT : y_TC M) (hs : 0 ≤ s ∧ s < 12) (hi : i = 24 + 80 * s) : (-1 : Int) ≤ M 163 i ∧ M 163 i ≤ 12 := by
  have h := ty_A (i := i) hT (by omega)
  unfold y_oA at h
  rw [if_neg (by omega), if_pos (by omega)] at h
  rw [show (i - 10) % 80 = 14 by omega] at h
  unfold y_oAS at h
  rw [if_neg (by omega), if_neg (by omega), if_neg (by omega), if_pos (by omega)] at h
  exact h
theorem sl_aWt {i s v : Int} (hs : 0 ≤ s ∧ s < 12) (hi : i = 24 + 80 * s) (hv : -1 ≤ v ∧ v ≤ 12) : y_sl 163 i v := sl_A (by omega) (by
  unfold y_oA
  rw [if_neg (by omega), if_pos (by omega)]
  rw [show (i - 10) % 80 = 14 by omega]
  unfold y_oAS
  rw [if_neg (by omega), if_neg (by omega), if_neg (by omega), if_pos (by omega)]
  exact hv)
theorem nf_aWt {i s : Int} (hs : 0 ≤ s ∧ s < 12) (hi : i = 24 + 80 * s) : ¬ y_fr 1 163 i := by
  show ¬ (_ ∨ _ ∨ y_lm _ _)
  unfold y_lm
  omega
theorem ty_aOc {i s : Int} {M : Int → Int → Int} (hT : y_TC M) (hs : 0 ≤ s ∧ s < 12) (hi : i = 25 + 80 * s) : (-1 : Int) ≤ M 163 i ∧ M 163 i ≤ 8 := by
  have h := ty_A (i := i) hT (by omega)
  unfold y_oA at h
  rw [if_neg (by omega), if_pos (by omega)] at h
  rw [show (i - 10) % 80 = 15 by omega] at h
  unfold y_oAS at h
  rw [if_neg (by omega), if_neg (by omega), if_neg (by omega), if_neg (by omega), if_pos (by omega)] at h
  exact h
theorem sl_aOc {i s v : Int} (hs : 0 ≤ s ∧ s < 12) (hi : i = 25 + 80 * s) (hv : -1 ≤ v ∧ v ≤ 8) : y_sl 163 i v := sl_A (by omega) (by
  unfold y_oA
  rw [if_neg (by omega), if_pos (by omega)]
  rw [show (i - 10) % 80 = 15 by omega]
  unfold y_oAS
  rw [if_neg (by omega), if_neg (by omega), if_neg (by omega), if_neg (by omega), if_pos (by omega)]
  exact hv)
theorem ty_aFl {i s : Int} {M : Int → Int → Int} (hT : y_TC M) (hs : 0 ≤ s ∧ s < 12) (hi : i = 34 + 80 * s) : (0 : Int) ≤ M 163 i ∧ M 163 i ≤ 1 := by
  have h := ty_A (i := i) hT (by omega)
  unfold y_oA at h
  rw [if_neg (by omega), if_pos (by omega)] at h
  rw [show (i - 10) % 80 = 24 by omega] at h
  unfold y_oAS at h
  rw [if_neg (by omega), if_neg (by omega), if_neg (by omega), if_neg (by omega), if_neg (by omega), if_neg (by omega), if_pos (by omega)] at h
  exact h
theorem sl_aFl {i s v : Int} (hs : 0 ≤ s ∧ s < 12) (hi : i = 34 + 80 * s) (hv : 0 ≤ v ∧ v ≤ 1) : y_sl 163 i v := sl_A (by omega) (by
  unfold y_oA
  rw [if_neg (by omega), if_pos (by omega)]
  rw [show (i - 10) % 80 = 24 by omega]
  unfold y_oAS
  rw [if_neg (by omega), if_neg (by omega), if_neg (by omega), if_neg (by omega), if_neg (by omega), if_neg (by omega), if_pos (by omega)]
  exact hv)
theorem ty_aC {i s d : Int} {M : Int → Int → Int} (hT : y_TC M) (hs : 0 ≤ s ∧ s < 12) (hd : 0 ≤ d ∧ d < 12) (hi : i = 11 + 80 * s + d) : (-2 : Int) ≤ M 163 i ∧ M 163 i ≤ 59 := by
  have h := ty_A (i := i) hT (by omega)
  unfold y_oA at h
  rw [if_neg (by omega), if_pos (by omega)] at h
  rw [show (i - 10) % 80 = 1 + d by omega] at h
  unfold y_oAS at h
  rw [if_neg (by omega), if_pos (by omega)] at h
  exact h
theorem sl_aC {i s d v : Int} (hs : 0 ≤ s ∧ s < 12) (hd : 0 ≤ d ∧ d < 12) (hi : i = 11 + 80 * s + d) (hv : -2 ≤ v ∧ v ≤ 59) : y_sl 163 i v := sl_A (by omega) (by
  unfold y_oA
  rw [if_neg (by omega), if_pos (by omega)]
  rw [show (i - 10) % 80 = 1 + d by omega]
  unfold y_oAS
  rw [if_neg (by omega), if_pos (by omega)]
  exact hv)
theorem nf_aC {i s d : Int} (hs : 0 ≤ s ∧ s < 12) (hd : 0 ≤ d ∧ d < 12) (hi : i = 11 + 80 * s + d) : ¬ y_fr 1 163 i := by
  show ¬ (_ ∨ _ ∨ y_lm _ _)
  unfold y_lm
  omega
theorem ty_aO {i s d : Int} {M : Int → Int → Int} (hT : y_TC M) (hs : 0 ≤ s ∧ s < 12) (hd : 0 ≤ d ∧ d < 8) (hi : i = 26 + 80 * s + d) : (0 : Int) ≤ M 163 i ∧ M 163 i ≤ 11 := by
  have h := ty_A (i := i) hT (by omega)
  unfold y_oA at h
  rw [if_neg (by omega), if_pos (by omega)] at h
  rw [show (i - 10) % 80 = 16 + d by omega] at h
  unfold y_oAS at h
  rw [if_neg (by omega), if_neg (by omega), if_neg (by omega), if_neg (by omega), if_neg (by omega), if_pos (by omega)] at h
  exact h
theorem sl_aO {i s d v : Int} (hs : 0 ≤ s ∧ s < 12) (hd : 0 ≤ d ∧ d < 8) (hi : i = 26 + 80 * s + d) (hv : 0 ≤ v ∧ v ≤ 11) : y_sl 163 i v := sl_A (by omega) (by
  unfold y_oA
  rw [if_neg (by omega), if_pos (by omega)]
  rw [show (i - 10) % 80 = 16 + d by omega]
  unfold y_oAS
  rw [if_neg (by omega), if_neg (by omega), if_neg (by omega), if_neg (by omega), if_neg (by omega), if_pos (by omega)]
  exact hv)
theorem nf_aO {i s d : Int} (hs : 0 ≤ s ∧ s < 12) (hd : 0 ≤ d ∧ d < 8) (hi : i = 26 + 80 * s + d) : ¬ y_fr 1 163 i := by
  show ¬ (_ ∨ _ ∨ y_lm _ _)
  unfold y_lm
  omega
theorem ty_aB {i s d : Int} {M : Int → Int → Int} (hT : y_TC M) (hs : 0 ≤ s ∧ s < 12) (hd : 0 ≤ d ∧ d < 48) (hi : i = 35 + 80 * s + d) : (0 : Int) ≤ M 163 i ∧ M 163 i ≤ 99 := by
  have h := ty_A (i := i) hT (by omega)
  unfold y_oA at h
  rw [if_neg (by omega), if_pos (by omega)] at h
  rw [show (i - 10) % 80 = 25 + d by omega] at h
  unfold y_oAS at h
  rw [if_neg (by omega), if_neg (by omega), if_neg (by omega), if_neg (by omega), if_neg (by omega), if_neg (by omega), if_neg (by omega), if_pos (by omega)] at h
  exact h
theorem sl_aB {i s d v : Int} (hs : 0 ≤ s ∧ s < 12) (hd : 0 ≤ d ∧ d < 48) (hi : i = 35 + 80 * s + d) (hv : 0 ≤ v ∧ v ≤ 99) : y_sl 163 i v := sl_A (by omega) (by
  unfold y_oA
  rw [if_neg (by omega), if_pos (by omega)]
  rw [show (i - 10) % 80 = 25 + d by omega]
  unfold y_oAS
  rw [if_neg (by omega), if_neg (by omega), if_neg (by omega), if_neg (by omega), if_neg (by omega), if_neg (by omega), if_neg (by omega), if_pos (by omega)]
  exact hv)
theorem nf_aB {i s d : Int} (hs : 0 ≤ s ∧ s < 12) (hd : 0 ≤ d ∧ d < 48) (hi : i = 35 + 80 * s + d) : ¬ y_fr 1 163 i := by
  show ¬ (_ ∨ _ ∨ y_lm _ _)
  unfold y_lm
  omega
theorem ty_aL {i a b : Int} {M : Int → Int → Int} (hT : y_TC M) (ha : 0 ≤ a ∧ a < 12) (hb : 0 ≤ b ∧ b < 12) (hi : i = 970 + 12 * a + b) : (0 : Int) ≤ M 163 i ∧ M 163 i ≤ 999 := by
  have h := ty_A (i := i) hT (by omega)
  unfold y_oA at h
  rw [if_neg (by omega), if_neg (by omega), if_pos (by omega)] at h
  exact h
theorem sl_aL {i a b v : Int} (ha : 0 ≤ a ∧ a < 12) (hb : 0 ≤ b ∧ b < 12) (hi : i = 970 + 12 * a + b) (hv : 0 ≤ v ∧ v ≤ 999) : y_sl 163 i v := sl_A (by omega) (by
  unfold y_oA
  rw [if_neg (by omega), if_neg (by omega), if_pos (by omega)]
  exact hv)
theorem nf_aL {i a b : Int} (ha : 0 ≤ a ∧ a < 12) (hb : 0 ≤ b ∧ b < 12) (hi : i = 970 + 12 * a + b) : ¬ y_fr 1 163 i := by
  show ¬ (_ ∨ _ ∨ y_lm _ _)
  unfold y_lm
  omega
theorem ty_aW0 {i w : Int} {M : Int → Int → Int} (hT : y_TC M) (hw : 0 ≤ w ∧ w < 60) (hi : i = 1114 + 8 * w) : (0 : Int) ≤ M 163 i ∧ M 163 i ≤ 3 := by
  have h := ty_A (i := i) hT (by omega)
  unfold y_oA at h
  rw [if_neg (by omega), if_neg (by omega), if_neg (by omega), if_pos (by omega)] at h
  rw [show (i - 1114) % 8 = 0 by omega] at h
  unfold y_oAW at h
  rw [if_pos (by omega)] at h
  exact h
theorem sl_aW0 {i w v : Int} (hw : 0 ≤ w ∧ w < 60) (hi : i = 1114 + 8 * w) (hv : 0 ≤ v ∧ v ≤ 3) : y_sl 163 i v := sl_A (by omega) (by
  unfold y_oA
  rw [if_neg (by omega), if_neg (by omega), if_neg (by omega), if_pos (by omega)]
  rw [show (i - 1114) % 8 = 0 by omega]
  unfold y_oAW
  rw [if_pos (by omega)]
  exact hv)
theorem nf_aW0 {i w : Int} (hw : 0 ≤ w ∧ w < 60) (hi : i = 1114 + 8 * w) : ¬ y_fr 1 163 i := by
  show ¬ (_ ∨ _ ∨ y_lm _ _)
  unfold y_lm
  omega
theorem ty_aW1 {i w : Int} {M : Int → Int → Int} (hT : y_TC M) (hw : 0 ≤ w ∧ w < 60) (hi : i = 1115 + 8 * w) : (0 : Int) ≤ M 163 i ∧ M 163 i ≤ 1000 := by
  have h := ty_A (i := i) hT (by omega)
  unfold y_oA at h
  rw [if_neg (by omega), if_neg (by omega), if_neg (by omega), if_pos (by omega)] at h
  rw [show (i - 1114) % 8 = 1 by omega] at h
  unfold y_oAW at h
  rw [if_neg (by omega), if_pos (by omega)] at h
  exact h
theorem sl_aW1 {i w v : Int} (hw : 0 ≤ w ∧ w < 60) (hi : i = 1115 + 8 * w) (hv : 0 ≤ v ∧ v ≤ 1000) : y_sl 163 i v := sl_A (by omega) (by
  unfold y_oA
  rw [if_neg (by omega), if_neg (by omega), if_neg (by omega), if_pos (by omega)]
  rw [show (i - 1114) % 8 = 1 by omega]
  unfold y_oAW
  rw [if_neg (by omega), if_pos (by omega)]
  exact hv)
theorem nf_aW1 {i w : Int} (hw : 0 ≤ w ∧ w < 60) (hi : i = 1115 + 8 * w) : ¬ y_fr 1 163 i := by
  show ¬ (_ ∨ _ ∨ y_lm _ _)
  unfold y_lm
  omega
theorem ty_aW2 {i w : Int} {M : Int → Int → Int} (hT : y_TC M) (hw : 0 ≤ w ∧ w < 60) (hi : i = 1116 + 8 * w) : (0 : Int) ≤ M 163 i ∧ M 163 i ≤ 3 := by
  have h := ty_A (i := i) hT (by omega)
  unfold y_oA at h
  rw [if_neg (by omega), if_neg (by omega), if_neg (by omega), if_pos (by omega)] at h
  rw [show (i - 1114) % 8 = 2 by omega] at h
  unfold y_oAW at h
  rw [if_neg (by omega), if_neg (by omega), if_pos (by omega)] at h
  exact h
theorem sl_aW2 {i w v : Int} (hw : 0 ≤ w ∧ w < 60) (hi : i = 1116 + 8 * w) (hv : 0 ≤ v ∧ v ≤ 3) : y_sl 163 i v := sl_A (by omega) (by
  unfold y_oA
  rw [if_neg (by omega), if_neg (by omega), if_neg (by omega), if_pos (by omega)]
  rw [show (i - 1114) % 8 = 2 by omega]
  unfold y_oAW
  rw [if_neg (by omega), if_neg (by omega), if_pos (by omega)]
  exact hv)
theorem nf_aW2 {i w : Int} (hw : 0 ≤ w ∧ w < 60) (hi : i = 1116 + 8 * w) : ¬ y_fr 1 163 i := by
  show ¬ (_ ∨ _ ∨ y_lm _ _)
  unfold y_lm
  omega
theorem ty_aW3 {i w : Int} {M : Int → Int → Int} (hT : y_TC M) (hw : 0 ≤ w ∧ w < 60) (hi : i = 1117 + 8 * w) : (0 : Int) ≤ M 163 i ∧ M 163 i ≤ 11 := by
  have h := ty_A (i := i) hT (by omega)
  unfold y_oA at h
  rw [if_neg (by omega), if_neg (by omega), if_neg (by omega), if_pos (by omega)] at h
  rw [show (i - 1114) % 8 = 3 by omega] at h
  unfold y_oAW at h
  rw [if_neg (by omega), if_neg (by omega), if_neg (by omega), if_pos (by omega)] at h
  exact h
theorem sl_aW3 {i w v : Int} (hw : 0 ≤ w ∧ w < 60) (hi : i = 1117 + 8 * w) (hv : 0 ≤ v ∧ v ≤ 11) : y_sl 163 i v := sl_A (by omega) (by
  unfold y_oA
  rw [if_neg (by omega), if_neg (by omega), if_neg (by omega), if_pos (by omega)]
  rw [show (i - 1114) % 8 = 3 by omega]
  unfold y_oAW
  rw [if_neg (by omega), if_neg (by omega), if_neg (by omega), if_pos (by omega)]
  exact hv)
theorem nf_aW3 {i w : Int} (hw : 0 ≤ w ∧ w < 60) (hi : i = 1117 + 8 * w) : ¬ y_fr 1 163 i := by
  show ¬ (_ ∨ _ ∨ y_lm _ _)
  unfold y_lm
  omega
theorem ty_aW4 {i w : Int} {M : Int → Int → Int} (hT : y_TC M) (hw : 0 ≤ w ∧ w < 60) (hi : i = 1118 + 8 * w) : (-1 : Int) ≤ M 163 i ∧ M 163 i ≤ 11 := by
  have h := ty_A (i := i) hT (by omega)
  unfold y_oA at h
  rw [if_neg (by omega), if_neg (by omega), if_neg (by omega), if_pos (by omega)] at h
  rw [show (i - 1114) % 8 = 4 by omega] at h
  unfold y_oAW at h
  rw [if_neg (by omega), if_neg (by omega), if_neg (by omega), if_neg (by omega), if_pos (by omega)] at h
  exact h
theorem sl_aW4 {i w v : Int} (hw : 0 ≤ w ∧ w < 60) (hi : i = 1118 + 8 * w) (hv : -1 ≤ v ∧ v ≤ 11) : y_sl 163 i v := sl_A (by omega) (by
  unfold y_oA
  rw [if_neg (by omega), if_neg (by omega), if_neg (by omega), if_pos (by omega)]
  rw [show (i - 1114) % 8 = 4 by omega]
  unfold y_oAW
  rw [if_neg (by omega), if_neg (by omega), if_neg (by omega), if_neg (by omega), if_pos (by omega)]
  exact hv)
theorem nf_aW4 {i w : Int} (hw : 0 ≤ w ∧ w < 60) (hi : i = 1118 + 8 * w) : ¬ y_fr 1 163 i := by
  show ¬ (_ ∨ _ ∨ y_lm _ _)
  unfold y_lm
  omega
theorem sl_aW5 {i w v : Int} (hw : 0 ≤ w ∧ w < 60) (hi : i = 1119 + 8 * w)  : y_sl 163 i v := sl_A (by omega) (by
  unfold y_oA
  rw [if_neg (by omega), if_neg (by omega), if_neg (by omega), if_pos (by omega)]
  rw [show (i - 1114) % 8 = 5 by omega]
  unfold y_oAW
  rw [if_neg (by omega), if_neg (by omega), if_neg (by omega), if_neg (by omega), if_neg (by omega), if_pos (by omega)]
  exact trivial)
theorem nf_aW5 {i w : Int} (hw : 0 ≤ w ∧ w < 60) (hi : i = 1119 + 8 * w) : ¬ y_fr 1 163 i := by
  show ¬ (_ ∨ _ ∨ y_lm _ _)
  unfold y_lm
  omega
theorem ty_aW6 {i w : Int} {M : Int → Int → Int} (hT : y_TC M) (hw : 0 ≤ w ∧ w < 60) (hi : i = 1120 + 8 * w) : (0 : Int) ≤ M 163 i ∧ M 163 i ≤ 2 := by
  have h := ty_A (i := i) hT (by omega)
  unfold y_oA at h
  rw [if_neg (by omega), if_neg (by omega), if_neg (by omega), if_pos (by omega)] at h
  rw [show (i - 1114) % 8 = 6 by omega] at h
  unfold y_oAW at h
  rw [if_neg (by omega), if_neg (by omega), if_neg (by omega), if_neg (by omega), if_neg (by omega), if_neg (by omega), if_pos (by omega)] at h
  exact h
theorem sl_aW6 {i w v : Int} (hw : 0 ≤ w ∧ w < 60) (hi : i = 1120 + 8 * w) (hv : 0 ≤ v ∧ v ≤ 2) : y_sl 163 i v := sl_A (by omega) (by
  unfold y_oA
  rw [if_neg (by omega), if_neg (by omega), if_neg (by omega), if_pos (by omega)]
  rw [show (i - 1114) % 8 = 6 by omega]
  unfold y_oAW
  rw [if_neg (by omega), if_neg (by omega), if_neg (by omega), if_neg (by omega), if_neg (by omega), if_neg (by omega), if_pos (by omega)]
  exact hv)
theorem nf_aW6 {i w : Int} (hw : 0 ≤ w ∧ w < 60) (hi : i = 1120 + 8 * w) : ¬ y_fr 1 163 i := by
  show ¬ (_ ∨ _ ∨ y_lm _ _)
  unfold y_lm
  omega
theorem ty_aW7 {i w : Int} {M : Int → Int → Int} (hT : y_TC M) (hw : 0 ≤ w ∧ w < 60) (hi : i = 1121 + 8 * w) : (-1 : Int) ≤ M 163 i ∧ M 163 i ≤ 59 := by
  have h := ty_A (i := i) hT (by omega)
  unfold y_oA at h
  rw [if_neg (by omega), if_neg (by omega), if_neg (by omega), if_pos (by omega)] at h
  rw [show (i - 1114) % 8 = 7 by omega] at h
  unfold y_oAW at h
  rw [if_neg (by omega), if_neg (by omega), if_neg (by omega), if_neg (by omega), if_neg (by omega), if_neg (by omega), if_neg (by omega)] at h
  exact h
theorem sl_aW7 {i w v : Int} (hw : 0 ≤ w ∧ w < 60) (hi : i = 1121 + 8 * w) (hv : -1 ≤ v ∧ v ≤ 59) : y_sl 163 i v := sl_A (by omega) (by
  unfold y_oA
  rw [if_neg (by omega), if_neg (by omega), if_neg (by omega), if_pos (by omega)]
  rw [show (i - 1114) % 8 = 7 by omega]
  unfold y_oAW
  rw [if_neg (by omega), if_neg (by omega), if_neg (by omega), if_neg (by omega), if_neg (by omega), if_neg (by omega), if_neg (by omega)]
  exact hv)
theorem nf_aW7 {i w : Int} (hw : 0 ≤ w ∧ w < 60) (hi : i = 1121 + 8 * w) : ¬ y_fr 1 163 i := by
  show ¬ (_ ∨ _ ∨ y_lm _ _)
  unfold y_lm
  omega
theorem ty_aG0 {i c : Int} {M : Int → Int → Int} (hT : y_TC M) (hc : 0 ≤ c ∧ c < 3) (hi : i = 1594 + 12 * c) : (0 : Int) ≤ M 163 i ∧ M 163 i ≤ 8 := by
  have h := ty_A (i := i) hT (by omega)
  unfold y_oA at h
  rw [if_neg (by omega), if_neg (by omega), if_neg (by omega), if_neg (by omega), if_pos (by omega)] at h
  rw [show (i - 1594) % 12 = 0 by omega] at h
  unfold y_oAC at h
  rw [if_pos (by omega)] at h
  exact h
theorem sl_aG0 {i c v : Int} (hc : 0 ≤ c ∧ c < 3) (hi : i = 1594 + 12 * c) (hv : 0 ≤ v ∧ v ≤ 8) : y_sl 163 i v := sl_A (by omega) (by
  unfold y_oA
  rw [if_neg (by omega), if_neg (by omega), if_neg (by omega), if_neg (by omega), if_pos (by omega)]
  rw [show (i - 1594) % 12 = 0 by omega]
  unfold y_oAC
  rw [if_pos (by omega)]
  exact hv)
theorem nf_aG0 {i c : Int} (hc : 0 ≤ c ∧ c < 3) (hi : i = 1594 + 12 * c) : ¬ y_fr 1 163 i := by
  show ¬ (_ ∨ _ ∨ y_lm _ _)
  unfold y_lm
  omega
theorem ty_aG1 {i c : Int} {M : Int → Int → Int} (hT : y_TC M) (hc : 0 ≤ c ∧ c < 3) (hi : i = 1595 + 12 * c) : (0 : Int) ≤ M 163 i ∧ M 163 i ≤ 11 := by
  have h := ty_A (i := i) hT (by omega)
  unfold y_oA at h
  rw [if_neg (by omega), if_neg (by omega), if_neg (by omega), if_neg (by omega), if_pos (by omega)] at h
  rw [show (i - 1594) % 12 = 1 by omega] at h
  unfold y_oAC at h
  rw [if_neg (by omega), if_pos (by omega)] at h
  exact h
theorem sl_aG1 {i c v : Int} (hc : 0 ≤ c ∧ c < 3) (hi : i = 1595 + 12 * c) (hv : 0 ≤ v ∧ v ≤ 11) : y_sl 163 i v := sl_A (by omega) (by
  unfold y_oA
  rw [if_neg (by omega), if_neg (by omega), if_neg (by omega), if_neg (by omega), if_pos (by omega)]
  rw [show (i - 1594) % 12 = 1 by omega]
  unfold y_oAC
  rw [if_neg (by omega), if_pos (by omega)]
  exact hv)
theorem nf_aG1 {i c : Int} (hc : 0 ≤ c ∧ c < 3) (hi : i = 1595 + 12 * c) : ¬ y_fr 1 163 i := by
  show ¬ (_ ∨ _ ∨ y_lm _ _)
  unfold y_lm
  omega
theorem sl_aG2 {i c v : Int} (hc : 0 ≤ c ∧ c < 3) (hi : i = 1596 + 12 * c)  : y_sl 163 i v := sl_A (by omega) (by
  unfold y_oA
  rw [if_neg (by omega), if_neg (by omega), if_neg (by omega), if_neg (by omega), if_pos (by omega)]
  rw [show (i - 1594) % 12 = 2 by omega]
  unfold y_oAC
  rw [if_neg (by omega), if_neg (by omega), if_pos (by omega)]
  exact trivial)
theorem nf_aG2 {i c : Int} (hc : 0 ≤ c ∧ c < 3) (hi : i = 1596 + 12 * c) : ¬ y_fr 1 163 i := by
  show ¬ (_ ∨ _ ∨ y_lm _ _)
  unfold y_lm
  omega
theorem ty_aG3 {i c : Int} {M : Int → Int → Int} (hT : y_TC M) (hc : 0 ≤ c ∧ c < 3) (hi : i = 1597 + 12 * c) : (0 : Int) ≤ M 163 i ∧ M 163 i ≤ 8 := by
  have h := ty_A (i := i) hT (by omega)
  unfold y_oA at h
  rw [if_neg (by omega), if_neg (by omega), if_neg (by omega), if_neg (by omega), if_pos (by omega)] at h
  rw [show (i - 1594) % 12 = 3 by omega] at h
  unfold y_oAC at h
  rw [if_neg (by omega), if_neg (by omega), if_neg (by omega), if_pos (by omega)] at h
  exact h
theorem sl_aG3 {i c v : Int} (hc : 0 ≤ c ∧ c < 3) (hi : i = 1597 + 12 * c) (hv : 0 ≤ v ∧ v ≤ 8) : y_sl 163 i v := sl_A (by omega) (by
  unfold y_oA
  rw [if_neg (by omega), if_neg (by omega), if_neg (by omega), if_neg (by omega), if_pos (by omega)]
  rw [show (i - 1594) % 12 = 3 by omega]
  unfold y_oAC
  rw [if_neg (by omega), if_neg (by omega), if_neg (by omega), if_pos (by omega)]
  exact hv)
theorem nf_aG3 {i c : Int} (hc : 0 ≤ c ∧ c < 3) (hi : i = 1597 + 12 * c) : ¬ y_fr 1 163 i := by
  show ¬ (_ ∨ _ ∨ y_lm _ _)
  unfold y_lm
  omega
theorem ty_aR {i c d : Int} {M : Int → Int → Int} (hT : y_TC M) (hc : 0 ≤ c ∧ c < 3) (hd : 0 ≤ d ∧ d < 8) (hi : i = 1598 + 12 * c + d) : (0 : Int) ≤ M 163 i ∧ M 163 i ≤ 59 := by
  have h := ty_A (i := i) hT (by omega)
  unfold y_oA at h
  rw [if_neg (by omega), if_neg (by omega), if_neg (by omega), if_neg (by omega), if_pos (by omega)] at h
  rw [show (i - 1594) % 12 = 4 + d by omega] at h
  unfold y_oAC at h
  rw [if_neg (by omega), if_neg (by omega), if_neg (by omega), if_neg (by omega)] at h
  exact h
theorem sl_aR {i c d v : Int} (hc : 0 ≤ c ∧ c < 3) (hd : 0 ≤ d ∧ d < 8) (hi : i = 1598 + 12 * c + d) (hv : 0 ≤ v ∧ v ≤ 59) : y_sl 163 i v := sl_A (by omega) (by
  unfold y_oA
  rw [if_neg (by omega), if_neg (by omega), if_neg (by omega), if_neg (by omega), if_pos (by omega)]
  rw [show (i - 1594) % 12 = 4 + d by omega]
  unfold y_oAC
  rw [if_neg (by omega), if_neg (by omega), if_neg (by omega), if_neg (by omega)]
  exact hv)
theorem nf_aR {i c d : Int} (hc : 0 ≤ c ∧ c < 3) (hd : 0 ≤ d ∧ d < 8) (hi : i = 1598 + 12 * c + d) : ¬ y_fr 1 163 i := by
  show ¬ (_ ∨ _ ∨ y_lm _ _)
  unfold y_lm
  omega
theorem sl_aX {i s d : Int} (hs : 0 ≤ s ∧ s < 12) (hd : -1 ≤ d ∧ d < 13) (hi : i = 11 + 80 * s + d) : y_sl 163 i (-1) := by
  refine sl_A (by omega) ?_
  unfold y_oA
  rw [if_neg (by omega), if_pos (by omega), show (i - 10) % 80 = 1 + d by omega]
  unfold y_oAS
  by_cases q : 1 + d = 0
  · rw [if_pos q]; omega
  · rw [if_neg q]
    by_cases q2 : 1 + d ≤ 12
    · rw [if_pos q2]; omega
    · rw [if_neg q2, if_pos (by omega)]; trivial
theorem sl_aZ {i s d v : Int} (hs : 0 ≤ s ∧ s < 12) (hd : 0 ≤ d ∧ d < 13) (hi : i = 11 + 80 * s + d) (hv : -2 ≤ v ∧ v ≤ 59) : y_sl 163 i v := by
  refine sl_A (by omega) ?_
  unfold y_oA
  rw [if_neg (by omega), if_pos (by omega), show (i - 10) % 80 = 1 + d by omega]
  unfold y_oAS
  rw [if_neg (by omega)]
  by_cases q2 : 1 + d ≤ 12
  · rw [if_pos q2]; exact hv
  · rw [if_neg q2, if_pos (by omega)]; trivial
theorem nf_aZ {i s d : Int} (hs : 0 ≤ s ∧ s < 12) (hd : 0 ≤ d ∧ d < 13) (hi : i = 11 + 80 * s + d) : ¬ y_fr 1 163 i := by
  show ¬ (_ ∨ _ ∨ y_lm _ _)
  unfold y_lm
  omega
theorem y_cpI {M : Int → Int → Int} {i j a : Int} (hT : y_TC M) (h : 0 ≤ i ∧ i < 1640) (ha : 0 ≤ a) (hj : j = 1640 + 1640 * a + i) : y_sl 163 j (M 163 i) := by
  have q := ty_A (i := i) hT h
  refine ⟨?_, by unfold y_nu; omega⟩
  rw [okv_o (by omega)]
  unfold y_okm
  rw [if_neg (by omega), if_neg (by omega), if_neg (by omega), if_neg (by omega), if_neg (by omega), if_neg (by omega), if_pos rfl, show j % 1640 = i by omega]
  exact q
theorem y_cpA {M : Int → Int → Int} {i j a : Int} (hT : y_TC M) (h : 0 ≤ i ∧ i < 1640) (ha : 0 ≤ a) (hj : j = 1640 + 1640 * a + i) : y_sl 163 i (M 163 j) := by
  have q := hT.1 163 j
  rw [okv_o (by omega)] at q
  unfold y_okm at q
  rw [if_neg (by omega), if_neg (by omega), if_neg (by omega), if_neg (by omega), if_neg (by omega), if_neg (by omega), if_pos rfl, show j % 1640 = i by omega] at q
  exact sl_A h q
theorem nf_aX {i s d : Int} (hs : 0 ≤ s ∧ s < 12) (hd : -1 ≤ d ∧ d < 13) (hi : i = 11 + 80 * s + d) : ¬ y_fr 1 163 i := by
  show ¬ (_ ∨ _ ∨ y_lm _ _)
  unfold y_lm
  omega
theorem x_vB {c d : Prop} [Decidable c] [Decidable d] {h : xH} (e : c ↔ d) : ((some (.inl (x_b c)), h) : Option xV × xH) = (some (.inl (x_b d)), h) := by
  unfold x_b
  by_cases q : c
  · rw [if_pos q, if_pos (e.mp q)]
  · rw [if_neg q, if_neg (fun p => q (e.mpr p))]
theorem x_vR {v w : Int} {h : xH} (e : v = w) : ((some (.inr v), h) : Option xV × xH) = (some (.inr w), h) := by rw [e]
theorem y_fV {v v' : Int} {h : xH} {Q : Int → Prop} (ev : v' = v) (q : Q v) : ((some (.inl v), h) : Option xV × xH) = (some (.inl v'), h) ∧ Q v' := by rw [ev]; exact ⟨rfl, q⟩
theorem y_fU {c : Nat} {z : Int} {P M0 m m' : Int → Int → Int} (eu : m' = m) (tl : y_TL c M0 m) : ((none, (z, P, m)) : Option xV × xH) = (none, (z, P, m')) ∧ y_TL c M0 m' := by rw [eu]; exact ⟨rfl, tl⟩
theorem y_fW {c : Nat} {v v' : Int} {z : Int} {P M0 m m' : Int → Int → Int} {Q : Int → Prop} (ev : v' = v) (eu : m' = m) (tl : y_TL c M0 m) (q : Q v) : ((some (.inl v), (z, P, m)) : Option xV × xH) = (some (.inl v'), (z, P, m')) ∧ y_TL c M0 m' ∧ Q v' := by rw [ev, eu]; exact ⟨rfl, tl, q⟩
end
section
/-! THE MODEL'S METHODS -/
theorem y_mul_in {f l : Int} (hf : f = 0 ∨ f = 2 ∨ f = 3) (hl : 0 ≤ l ∧ l ≤ 999) : 0 ≤ f * l ∧ f * l ≤ 2997 := by
  rcases hf with rfl | rfl | rfl <;> omega
theorem k_isIn {z : Int} {P M : Int → Int → Int} (hS : x_Sh z P) (hT : y_TC M) (v : Int) (n : Int)   : x_Call 113 [.inl (v), .inl (n)] (z, P, M) (some (.inl (x_b (0 ≤ v ∧ v < n)))) (z, P, M) := by
  refine e_body (ls0 := [.inl (v), .inl (n)]) xm113 rfl ?_
  refine e_iload (k := 0) (xi113 0) rfl ?_
  refine e_z_lt (k := 1) (xi113 1) (fun c0 => ?_) (fun c0 => ?_)
  · skip
    refine e_iconst (k := 7) (xi113 7) ?_
    refine e_zret (k := 8) (xi113 8) (by first | decide | omega) ?_
    exact x_bF (by omega)
  · skip
    refine e_iload (k := 2) (xi113 2) rfl ?_
    refine e_iload (k := 3) (xi113 3) rfl ?_
    refine e_c_ge (k := 4) (xi113 4) (fun c1 => ?_) (fun c1 => ?_)
    · skip
      refine e_iconst (k := 7) (xi113 7) ?_
      refine e_zret (k := 8) (xi113 8) (by first | decide | omega) ?_
      exact x_bF (by omega)
    · skip
      refine e_iconst (k := 5) (xi113 5) ?_
      refine e_goto (k := 6) (xi113 6) ?_
      refine e_zret (k := 8) (xi113 8) (by first | decide | omega) ?_
      exact x_bT (by omega)
theorem k_isStand {z : Int} {P M : Int → Int → Int} (hS : x_Sh z P) (hT : y_TC M) (v : Int)   : x_Call 114 [.inr 162, .inl (v)] (z, P, M) (some (.inl (x_b (0 ≤ v ∧ v < M 163 0)))) (z, P, M) := by
  refine e_body (ls0 := [.inr 162, .inl (v)]) xm114 rfl ?_
  refine e_iload (k := 0) (xi114 0) rfl ?_
  refine e_aload (k := 1) (xi114 1) rfl (by decide) ?_
  refine e_getR (j := 0) (w := 163) (k := 2) (xi114 2) (ok_mo hS) rfl (sh_all hS) ?_
  refine e_iconst (k := 3) (xi114 3) ?_
  have t1 := ty_a0 hT
  refine e_iald (w := M 163 0) (k := 4) (xi114 4) (ok_all hS) (by rw [ln_all]; omega) rfl ?_
  refine e_call (k := 5) (v := some (.inl (x_b (0 ≤ v ∧ v < (M 163 0))))) (h1 := (z, P, M)) (c1 := 0) (c2 := 0) (rest := []) (as := [.inl (v), .inl (M 163 0)]) (xi114 5) (by decide) xm113 rfl ⟨rfl, Nat.le_of_ble_eq_true rfl, by decide⟩ (Or.inl rfl) (k_isIn hS hT v (M 163 0)  ) ?_
  refine e_zret (k := 6) (xi114 6) (x_b01) ?_
  exact x_vB (by omega)
theorem k_isWheel {z : Int} {P M : Int → Int → Int} (hS : x_Sh z P) (hT : y_TC M) (v : Int)   : x_Call 115 [.inr 162, .inl (v)] (z, P, M) (some (.inl (x_b (0 ≤ v ∧ v < M 163 1)))) (z, P, M) := by
  refine e_body (ls0 := [.inr 162, .inl (v)]) xm115 rfl ?_
  refine e_iload (k := 0) (xi115 0) rfl ?_
  refine e_aload (k := 1) (xi115 1) rfl (by decide) ?_
  refine e_getR (j := 0) (w := 163) (k := 2) (xi115 2) (ok_mo hS) rfl (sh_all hS) ?_
  refine e_iconst (k := 3) (xi115 3) ?_
  have t1 := ty_a1 hT
  refine e_iald (w := M 163 1) (k := 4) (xi115 4) (ok_all hS) (by rw [ln_all]; omega) rfl ?_
  refine e_call (k := 5) (v := some (.inl (x_b (0 ≤ v ∧ v < (M 163 1))))) (h1 := (z, P, M)) (c1 := 0) (c2 := 0) (rest := []) (as := [.inl (v), .inl (M 163 1)]) (xi115 5) (by decide) xm113 rfl ⟨rfl, Nat.le_of_ble_eq_true rfl, by decide⟩ (Or.inl rfl) (k_isIn hS hT v (M 163 1)  ) ?_
  refine e_zret (k := 6) (xi115 6) (x_b01) ?_
  exact x_vB (by omega)
theorem k_isCart {z : Int} {P M : Int → Int → Int} (hS : x_Sh z P) (hT : y_TC M) (v : Int)   : x_Call 116 [.inr 162, .inl (v)] (z, P, M) (some (.inl (x_b (0 ≤ v ∧ v < M 163 2)))) (z, P, M) := by
  refine e_body (ls0 := [.inr 162, .inl (v)]) xm116 rfl ?_
  refine e_iload (k := 0) (xi116 0) rfl ?_
  refine e_aload (k := 1) (xi116 1) rfl (by decide) ?_
  refine e_getR (j := 0) (w := 163) (k := 2) (xi116 2) (ok_mo hS) rfl (sh_all hS) ?_
  refine e_iconst (k := 3) (xi116 3) ?_
  have t1 := ty_a2 hT
  refine e_iald (w := M 163 2) (k := 4) (xi116 4) (ok_all hS) (by rw [ln_all]; omega) rfl ?_
  refine e_call (k := 5) (v := some (.inl (x_b (0 ≤ v ∧ v < (M 163 2))))) (h1 := (z, P, M)) (c1 := 0) (c2 := 0) (rest := []) (as := [.inl (v), .inl (M 163 2)]) (xi116 5) (by decide) xm113 rfl ⟨rfl, Nat.le_of_ble_eq_true rfl, by decide⟩ (Or.inl rfl) (k_isIn hS hT v (M 163 2)  ) ?_
  refine e_zret (k := 6) (xi116 6) (x_b01) ?_
  exact x_vB (by omega)
theorem k_mstandAt {z : Int} {P M : Int → Int → Int} (hS : x_Sh z P) (hT : y_TC M) (s : Int) (hs : -100 ≤ s ∧ s ≤ 100) : x_Call 117 [.inr 162, .inl (s)] (z, P, M) (some (.inl (10 + 80 * s))) (z, P, M) := by
  refine e_body (ls0 := [.inr 162, .inl (s)]) xm117 rfl ?_
  refine e_iconst (k := 0) (xi117 0) ?_
  refine e_iconst (k := 1) (xi117 1) ?_
  refine e_iload (k := 2) (xi117 2) rfl ?_
  refine e_imul (w := 80 * s) (k := 3) (xi117 3) (x_wn (by omega)) ?_
  refine e_iadd (w := 10 + 80 * s) (k := 4) (xi117 4) (x_wn (by omega)) ?_
  refine e_iret (k := 5) (xi117 5) ?_
  rfl
theorem k_mwagonAt {z : Int} {P M : Int → Int → Int} (hS : x_Sh z P) (hT : y_TC M) (c : Int) (hs : -100 ≤ c ∧ c ≤ 100) : x_Call 156 [.inr 162, .inl (c)] (z, P, M) (some (.inl (1594 + 12 * c))) (z, P, M) := by
  refine e_body (ls0 := [.inr 162, .inl (c)]) xm156 rfl ?_
  refine e_iconst (k := 0) (xi156 0) ?_
  refine e_iconst (k := 1) (xi156 1) ?_
  refine e_iload (k := 2) (xi156 2) rfl ?_
  refine e_imul (w := 12 * c) (k := 3) (xi156 3) (x_wn (by omega)) ?_
  refine e_iadd (w := 1594 + 12 * c) (k := 4) (xi156 4) (x_wn (by omega)) ?_
  refine e_iret (k := 5) (xi156 5) ?_
  rfl
theorem k_mdocks {z : Int} {P M : Int → Int → Int} (hS : x_Sh z P) (hT : y_TC M) (s : Int) (i : Int) (hs : 0 ≤ s ∧ s < 12) (hi : 10 + 80 * s = i) : x_Call 118 [.inr 162, .inl (s)] (z, P, M) (some (.inl (M 163 i))) (z, P, M) := by
  subst hi
  refine e_body (ls0 := [.inr 162, .inl (s)]) xm118 rfl ?_
  refine e_aload (k := 0) (xi118 0) rfl (by decide) ?_
  refine e_getR (j := 0) (w := 163) (k := 1) (xi118 1) (ok_mo hS) rfl (sh_all hS) ?_
  refine e_aload (k := 2) (xi118 2) rfl (by decide) ?_
  refine e_iload (k := 3) (xi118 3) rfl ?_
  refine e_call (k := 4) (v := some (.inl (10 + 80 * s))) (h1 := (z, P, M)) (c1 := 0) (c2 := 0) (rest := [.inr 163]) (as := [.inr 162, .inl (s)]) (xi118 4) (by decide) xm117 rfl ⟨rfl, Nat.le_of_ble_eq_true rfl, by decide⟩ (Or.inr (x_okt (ok_mo hS))) (k_mstandAt hS hT s (by omega)) ?_
  have t1 := ty_aD hT (i := 10 + 80 * s) (s := s) (by omega) (by omega)
  refine e_iald (w := M 163 (10 + 80 * s)) (k := 5) (xi118 5) (ok_all hS) (by rw [ln_all]; omega) rfl ?_
  refine e_iret (k := 6) (xi118 6) ?_
  rfl
theorem k_mdockAt {z : Int} {P M : Int → Int → Int} (hS : x_Sh z P) (hT : y_TC M) (s : Int) (d : Int) (hs : -100 ≤ s ∧ s ≤ 100) (hd : -100 ≤ d ∧ d ≤ 100) : x_Call 119 [.inr 162, .inl (s), .inl (d)] (z, P, M) (some (.inl (11 + 80 * s + d))) (z, P, M) := by
  refine e_body (ls0 := [.inr 162, .inl (s), .inl (d)]) xm119 rfl ?_
  refine e_aload (k := 0) (xi119 0) rfl (by decide) ?_
  refine e_iload (k := 1) (xi119 1) rfl ?_
  refine e_call (k := 2) (v := some (.inl (10 + 80 * s))) (h1 := (z, P, M)) (c1 := 0) (c2 := 0) (rest := []) (as := [.inr 162, .inl (s)]) (xi119 2) (by decide) xm117 rfl ⟨rfl, Nat.le_of_ble_eq_true rfl, by decide⟩ (Or.inr (x_okt (ok_mo hS))) (k_mstandAt hS hT s (by omega)) ?_
  refine e_iconst (k := 3) (xi119 3) ?_
  refine e_iadd (w := 11 + 80 * s) (k := 4) (xi119 4) (x_wn (by omega)) ?_
  refine e_iload (k := 5) (xi119 5) rfl ?_
  refine e_iadd (w := 11 + 80 * s + d) (k := 6) (xi119 6) (x_wn (by omega)) ?_
  refine e_iret (k := 7) (xi119 7) ?_
  rfl
theorem k_mfar {z : Int} {P M : Int → Int → Int} (hS : x_Sh z P) (hT : y_TC M) (a : Int) (b : Int) (i : Int) (ha : 0 ≤ a ∧ a < 12) (hb : 0 ≤ b ∧ b < 12) (hi : 970 + 12 * a + b = i) : x_Call 120 [.inr 162, .inl (a), .inl (b)] (z, P, M) (some (.inl (M 163 i))) (z, P, M) := by
  subst hi
  refine e_body (ls0 := [.inr 162, .inl (a), .inl (b)]) xm120 rfl ?_
  refine e_aload (k := 0) (xi120 0) rfl (by decide) ?_
  refine e_getR (j := 0) (w := 163) (k := 1) (xi120 1) (ok_mo hS) rfl (sh_all hS) ?_
  refine e_iconst (k := 2) (xi120 2) ?_
  refine e_iconst (k := 3) (xi120 3) ?_
  refine e_iload (k := 4) (xi120 4) rfl ?_
  refine e_imul (w := 12 * a) (k := 5) (xi120 5) (x_wn (by omega)) ?_
  refine e_iadd (w := 970 + 12 * a) (k := 6) (xi120 6) (x_wn (by omega)) ?_
  refine e_iload (k := 7) (xi120 7) rfl ?_
  refine e_iadd (w := 970 + 12 * a + b) (k := 8) (xi120 8) (x_wn (by omega)) ?_
  have t1 := ty_aL hT (i := 970 + 12 * a + b) (a := a) (b := b) (by omega) (by omega) (by omega)
  refine e_iald (w := M 163 (970 + 12 * a + b)) (k := 9) (xi120 9) (ok_all hS) (by rw [ln_all]; omega) rfl ?_
  refine e_iret (k := 10) (xi120 10) ?_
  rfl
theorem k_mof {z : Int} {P M : Int → Int → Int} (hS : x_Sh z P) (hT : y_TC M) (w : Int) (j : Int) (i : Int) (hw : 0 ≤ w ∧ w < 60) (hj : 0 ≤ j ∧ j < 8) (hi : 1114 + 8 * w + j = i) : x_Call 129 [.inr 162, .inl (w), .inl (j)] (z, P, M) (some (.inl (M 163 i))) (z, P, M) := by
  subst hi
  refine e_body (ls0 := [.inr 162, .inl (w), .inl (j)]) xm129 rfl ?_
  refine e_aload (k := 0) (xi129 0) rfl (by decide) ?_
  refine e_getR (j := 0) (w := 163) (k := 1) (xi129 1) (ok_mo hS) rfl (sh_all hS) ?_
  refine e_iconst (k := 2) (xi129 2) ?_
  refine e_iconst (k := 3) (xi129 3) ?_
  refine e_iload (k := 4) (xi129 4) rfl ?_
  refine e_imul (w := 8 * w) (k := 5) (xi129 5) (x_wn (by omega)) ?_
  refine e_iadd (w := 1114 + 8 * w) (k := 6) (xi129 6) (x_wn (by omega)) ?_
  refine e_iload (k := 7) (xi129 7) rfl ?_
  refine e_iadd (w := 1114 + 8 * w + j) (k := 8) (xi129 8) (x_wn (by omega)) ?_
  refine e_iald (w := M 163 (1114 + 8 * w + j)) (k := 9) (xi129 9) (ok_all hS) (by rw [ln_all]; omega) rfl ?_
  refine e_iret (k := 10) (xi129 10) ?_
  rfl
theorem k_msets {z : Int} {P M : Int → Int → Int} (hS : x_Sh z P) (w j v i : Int) (hw : 0 ≤ w ∧ w < 60) (hj : 0 ≤ j ∧ j < 8) (hi : 1114 + 8 * w + j = i) : x_Call 130 [.inr 162, .inl (w), .inl (j), .inl (v)] (z, P, M) none (z, P, x_up M 163 i v) := by
  subst hi
  refine e_body (ls0 := [.inr 162, .inl (w), .inl (j), .inl (v)]) xm130 rfl ?_
  refine e_aload (k := 0) (xi130 0) rfl (by decide) ?_
  refine e_getR (j := 0) (w := 163) (k := 1) (xi130 1) (ok_mo hS) rfl (sh_all hS) ?_
  refine e_iconst (k := 2) (xi130 2) ?_
  refine e_iconst (k := 3) (xi130 3) ?_
  refine e_iload (k := 4) (xi130 4) rfl ?_
  refine e_imul (w := 8 * w) (k := 5) (xi130 5) (x_wn (by omega)) ?_
  refine e_iadd (w := 1114 + 8 * w) (k := 6) (xi130 6) (x_wn (by omega)) ?_
  refine e_iload (k := 7) (xi130 7) rfl ?_
  refine e_iadd (w := 1114 + 8 * w + j) (k := 8) (xi130 8) (x_wn (by omega)) ?_
  refine e_iload (k := 9) (xi130 9) rfl ?_
  refine e_iast (k := 10) (xi130 10) (ok_all hS) (by rw [ln_all]; omega) ?_
  refine e_vret (k := 11) (xi130 11) ?_
  rfl
theorem k_misDock {z : Int} {P M : Int → Int → Int} (hS : x_Sh z P) (hT : y_TC M) (s : Int) (d : Int)   : x_Call 125 [.inr 162, .inl (s), .inl (d)] (z, P, M) (some (.inl (x_b ((0 ≤ s ∧ s < M 163 0) ∧ 0 ≤ d ∧ d < M 163 (10 + 80 * s))))) (z, P, M) := by
  refine e_body (ls0 := [.inr 162, .inl (s), .inl (d)]) xm125 rfl ?_
  refine e_aload (k := 0) (xi125 0) rfl (by decide) ?_
  refine e_iload (k := 1) (xi125 1) rfl ?_
  have t1 := ty_a0 hT
  refine e_call (k := 2) (v := some (.inl (x_b (0 ≤ s ∧ s < M 163 0)))) (h1 := (z, P, M)) (c1 := 0) (c2 := 0) (rest := []) (as := [.inr 162, .inl (s)]) (xi125 2) (by decide) xm114 rfl ⟨rfl, Nat.le_of_ble_eq_true rfl, by decide⟩ (Or.inr (x_okt (ok_mo hS))) (k_isStand hS hT s  ) ?_
  refine e_b_eq (k := 3) (xi125 3) (fun c0 => ?_) (fun c0 => ?_)
  · skip
    refine e_iload (k := 4) (xi125 4) rfl ?_
    refine e_aload (k := 5) (xi125 5) rfl (by decide) ?_
    refine e_iload (k := 6) (xi125 6) rfl ?_
    have t2 := ty_aD hT (i := 10 + 80 * s) (s := s) (by omega) (by omega)
    refine e_call (k := 7) (v := some (.inl (M 163 (10 + 80 * s)))) (h1 := (z, P, M)) (c1 := 0) (c2 := 0) (rest := [.inl (d)]) (as := [.inr 162, .inl (s)]) (xi125 7) (by decide) xm118 rfl ⟨rfl, Nat.le_of_ble_eq_true rfl, by decide⟩ (Or.inr (x_okt (ok_mo hS))) (k_mdocks hS hT s (10 + 80 * s) (by omega) (by omega)) ?_
    refine e_call (k := 8) (v := some (.inl (x_b (0 ≤ d ∧ d < (M 163 (10 + 80 * s)))))) (h1 := (z, P, M)) (c1 := 0) (c2 := 0) (rest := []) (as := [.inl (d), .inl (M 163 (10 + 80 * s))]) (xi125 8) (by decide) xm113 rfl ⟨rfl, Nat.le_of_ble_eq_true rfl, by decide⟩ (Or.inl rfl) (k_isIn hS hT d (M 163 (10 + 80 * s))  ) ?_
    refine e_b_eq (k := 9) (xi125 9) (fun c1 => ?_) (fun c1 => ?_)
    · skip
      refine e_iconst (k := 10) (xi125 10) ?_
      refine e_goto (k := 11) (xi125 11) ?_
      refine e_zret (k := 13) (xi125 13) (by first | decide | omega) ?_
      exact x_bT (by omega)
    · skip
      refine e_iconst (k := 12) (xi125 12) ?_
      refine e_zret (k := 13) (xi125 13) (by first | decide | omega) ?_
      exact x_bF (by omega)
  · skip
    refine e_iconst (k := 12) (xi125 12) ?_
    refine e_zret (k := 13) (xi125 13) (by first | decide | omega) ?_
    exact x_bF (by omega)
theorem k_misFree {z : Int} {P M : Int → Int → Int} (hS : x_Sh z P) (hT : y_TC M) (s : Int) (d : Int) (i : Int) (hi : 11 + 80 * s + d = i) : x_Call 133 [.inr 162, .inl (s), .inl (d)] (z, P, M) (some (.inl (x_b (((0 ≤ s ∧ s < M 163 0) ∧ 0 ≤ d ∧ d < M 163 (10 + 80 * s)) ∧ M 163 i = -1)))) (z, P, M) := by
  subst hi
  refine e_body (ls0 := [.inr 162, .inl (s), .inl (d)]) xm133 rfl ?_
  refine e_aload (k := 0) (xi133 0) rfl (by decide) ?_
  refine e_iload (k := 1) (xi133 1) rfl ?_
  refine e_iload (k := 2) (xi133 2) rfl ?_
  have t1 := ty_a0 hT
  refine e_call (k := 3) (v := some (.inl (x_b ((0 ≤ s ∧ s < M 163 0) ∧ 0 ≤ d ∧ d < M 163 (10 + 80 * s))))) (h1 := (z, P, M)) (c1 := 0) (c2 := 0) (rest := []) (as := [.inr 162, .inl (s), .inl (d)]) (xi133 3) (by decide) xm125 rfl ⟨rfl, Nat.le_of_ble_eq_true rfl, by decide⟩ (Or.inr (x_okt (ok_mo hS))) (k_misDock hS hT s d  ) ?_
  refine e_b_eq (k := 4) (xi133 4) (fun c0 => ?_) (fun c0 => ?_)
  · skip
    have t2 := ty_aD hT (i := 10 + 80 * s) (s := s) (by omega) (by omega)
    refine e_aload (k := 5) (xi133 5) rfl (by decide) ?_
    refine e_getR (j := 0) (w := 163) (k := 6) (xi133 6) (ok_mo hS) rfl (sh_all hS) ?_
    refine e_aload (k := 7) (xi133 7) rfl (by decide) ?_
    refine e_iload (k := 8) (xi133 8) rfl ?_
    refine e_iload (k := 9) (xi133 9) rfl ?_
    refine e_call (k := 10) (v := some (.inl (11 + 80 * s + d))) (h1 := (z, P, M)) (c1 := 0) (c2 := 0) (rest := [.inr 163]) (as := [.inr 162, .inl (s), .inl (d)]) (xi133 10) (by decide) xm119 rfl ⟨rfl, Nat.le_of_ble_eq_true rfl, by decide⟩ (Or.inr (x_okt (ok_mo hS))) (k_mdockAt hS hT s d (by omega) (by omega)) ?_
    have t3 := ty_aC hT (i := 11 + 80 * s + d) (s := s) (d := d) (by omega) (by omega) (by omega)
    refine e_iald (w := M 163 (11 + 80 * s + d)) (k := 11) (xi133 11) (ok_all hS) (by rw [ln_all]; omega) rfl ?_
    refine e_iconst (k := 12) (xi133 12) ?_
    refine e_c_ne (k := 13) (xi133 13) (fun c1 => ?_) (fun c1 => ?_)
    · skip
      refine e_iconst (k := 16) (xi133 16) ?_
      refine e_zret (k := 17) (xi133 17) (by first | decide | omega) ?_
      exact x_bF (by omega)
    · skip
      refine e_iconst (k := 14) (xi133 14) ?_
      refine e_goto (k := 15) (xi133 15) ?_
      refine e_zret (k := 17) (xi133 17) (by first | decide | omega) ?_
      exact x_bT (by omega)
  · skip
    refine e_iconst (k := 16) (xi133 16) ?_
    refine e_zret (k := 17) (xi133 17) (by first | decide | omega) ?_
    exact x_bF (by omega)
theorem k_mfits {z : Int} {P M : Int → Int → Int} (hS : x_Sh z P) (hT : y_TC M) (kd : Int) (s : Int) (d : Int) (i j : Int) (hi : 11 + 80 * s + d = i) (hj : 12 + 80 * s + d = j) : x_Call 134 [.inr 162, .inl (kd), .inl (s), .inl (d)] (z, P, M) (some (.inl (x_b ((((0 ≤ s ∧ s < M 163 0) ∧ 0 ≤ d ∧ d < M 163 (10 + 80 * s)) ∧ M 163 i = -1) ∧ (kd = 2 → 1 + d < M 163 (10 + 80 * s) ∧ M 163 j = -1))))) (z, P, M) := by
  subst hi hj
  refine e_body (ls0 := [.inr 162, .inl (kd), .inl (s), .inl (d)]) xm134 rfl ?_
  refine e_aload (k := 0) (xi134 0) rfl (by decide) ?_
  refine e_iload (k := 1) (xi134 1) rfl ?_
  refine e_iload (k := 2) (xi134 2) rfl ?_
  have t1 := ty_a0 hT
  refine e_call (k := 3) (v := some (.inl (x_b (((0 ≤ s ∧ s < M 163 0) ∧ 0 ≤ d ∧ d < M 163 (10 + 80 * s)) ∧ M 163 (11 + 80 * s + d) = -1)))) (h1 := (z, P, M)) (c1 := 0) (c2 := 0) (rest := []) (as := [.inr 162, .inl (s), .inl (d)]) (xi134 3) (by decide) xm133 rfl ⟨rfl, Nat.le_of_ble_eq_true rfl, by decide⟩ (Or.inr (x_okt (ok_mo hS))) (k_misFree hS hT s d (11 + 80 * s + d) (by omega)) ?_
  refine e_b_eq (k := 4) (xi134 4) (fun c0 => ?_) (fun c0 => ?_)
  · skip
    have t2 := ty_aD hT (i := 10 + 80 * s) (s := s) (by omega) (by omega)
    refine e_iload (k := 5) (xi134 5) rfl ?_
    refine e_iconst (k := 6) (xi134 6) ?_
    refine e_c_ne (k := 7) (xi134 7) (fun c1 => ?_) (fun c1 => ?_)
    · skip
      refine e_iconst (k := 15) (xi134 15) ?_
      refine e_goto (k := 16) (xi134 16) ?_
      refine e_zret (k := 18) (xi134 18) (by first | decide | omega) ?_
      exact x_bT (by omega)
    · skip
      refine e_aload (k := 8) (xi134 8) rfl (by decide) ?_
      refine e_iload (k := 9) (xi134 9) rfl ?_
      refine e_iload (k := 10) (xi134 10) rfl ?_
      refine e_iconst (k := 11) (xi134 11) ?_
      refine e_iadd (w := 1 + d) (k := 12) (xi134 12) (x_wn (by omega)) ?_
      refine e_call (k := 13) (v := some (.inl (x_b (((0 ≤ s ∧ s < M 163 0) ∧ 0 ≤ 1 + d ∧ 1 + d < M 163 (10 + 80 * s)) ∧ M 163 (12 + 80 * s + d) = -1)))) (h1 := (z, P, M)) (c1 := 0) (c2 := 0) (rest := []) (as := [.inr 162, .inl (s), .inl (1 + d)]) (xi134 13) (by decide) xm133 rfl ⟨rfl, Nat.le_of_ble_eq_true rfl, by decide⟩ (Or.inr (x_okt (ok_mo hS))) (k_misFree hS hT s (1 + d) (12 + 80 * s + d) (by omega)) ?_
      refine e_b_eq (k := 14) (xi134 14) (fun c2 => ?_) (fun c2 => ?_)
      · skip
        refine e_iconst (k := 15) (xi134 15) ?_
        refine e_goto (k := 16) (xi134 16) ?_
        refine e_zret (k := 18) (xi134 18) (by first | decide | omega) ?_
        exact x_bT (by omega)
      · skip
        refine e_iconst (k := 17) (xi134 17) ?_
        refine e_zret (k := 18) (xi134 18) (by first | decide | omega) ?_
        exact x_bF (by omega)
  · skip
    refine e_iconst (k := 17) (xi134 17) ?_
    refine e_zret (k := 18) (xi134 18) (by first | decide | omega) ?_
    exact x_bF (by omega)
def w_m_room_a (kd s : Int) (M : Int → Int → Int) : Nat → Int → Int
  | 0, d => 0
  | k + 1, d => if M 163 (10 + 80 * s) ≤ d then (-1) else if (((0 ≤ s ∧ s < M 163 0) ∧ 0 ≤ d ∧ d < M 163 (10 + 80 * s)) ∧ M 163 (11 + 80 * s + d) = -1) ∧ (kd = 2 → 1 + d < M 163 (10 + 80 * s) ∧ M 163 (12 + 80 * s + d) = -1) then d else w_m_room_a kd s M k (1 + d)
theorem kw_m_room_a {z : Int} {P M : Int → Int → Int} (hS : x_Sh z P) (hT : y_TC M) (kd : Int) (s : Int)   (hs : 0 ≤ s ∧ s < 12) : ∀ k : Nat, ∀ d : Int, (0 ≤ d ∧ d ≤ 12) → 12 - d < (k : Int) → x_Ev 135 2 [.inr 162, .inl (kd), .inl (s), .inl (d)] [] (0, 0) (z, P, M) (fun q => q = (some (.inl (w_m_room_a kd s M k d)), (z, P, M)) ∧ (fun v => (-1 ≤ v ∧ v ≤ 11) ∧ (kd = 2 → v ≤ 10)) (w_m_room_a kd s M k d)) := by
  have kd0 := ty_aD hT (i := 10 + 80 * s) (s := s) (by omega) (by omega)
  intro k
  induction k with
  | zero => intro d hi hm; omega
  | succ k ih =>
    intro d hi hm
    refine e_iload (k := 2) (xi135 2) rfl ?_
    refine e_aload (k := 3) (xi135 3) rfl (by decide) ?_
    refine e_iload (k := 4) (xi135 4) rfl ?_
    have t1 := ty_aD hT (i := 10 + 80 * s) (s := s) (by omega) (by omega)
    refine e_call (k := 5) (v := some (.inl (M 163 (10 + 80 * s)))) (h1 := (z, P, M)) (c1 := 0) (c2 := 0) (rest := [.inl (d)]) (as := [.inr 162, .inl (s)]) (xi135 5) (by decide) xm118 rfl ⟨rfl, Nat.le_of_ble_eq_true rfl, by decide⟩ (Or.inr (x_okt (ok_mo hS))) (k_mdocks hS hT s (10 + 80 * s) (by omega) (by omega)) ?_
    refine e_c_ge (k := 6) (xi135 6) (fun c0 => ?_) (fun c0 => ?_)
    · skip
      refine e_iconst (k := 17) (xi135 17) ?_
      refine e_iret (k := 18) (xi135 18) ?_
      exact y_fV (Q := fun v => (-1 ≤ v ∧ v ≤ 11) ∧ (kd = 2 → v ≤ 10)) (show w_m_room_a kd s M (k + 1) d = (-1) from by rw [w_m_room_a, if_pos c0]) (by omega)
    · skip
      refine e_aload (k := 7) (xi135 7) rfl (by decide) ?_
      refine e_iload (k := 8) (xi135 8) rfl ?_
      refine e_iload (k := 9) (xi135 9) rfl ?_
      refine e_iload (k := 10) (xi135 10) rfl ?_
      have t2 := ty_a0 hT
      refine e_call (k := 11) (v := some (.inl (x_b ((((0 ≤ s ∧ s < M 163 0) ∧ 0 ≤ d ∧ d < M 163 (10 + 80 * s)) ∧ M 163 (11 + 80 * s + d) = -1) ∧ (kd = 2 → 1 + d < M 163 (10 + 80 * s) ∧ M 163 (12 + 80 * s + d) = -1))))) (h1 := (z, P, M)) (c1 := 0) (c2 := 0) (rest := []) (as := [.inr 162, .inl (kd), .inl (s), .inl (d)]) (xi135 11) (by decide) xm134 rfl ⟨rfl, Nat.le_of_ble_eq_true rfl, by decide⟩ (Or.inr (x_okt (ok_mo hS))) (k_mfits hS hT kd s d (11 + 80 * s + d) (12 + 80 * s + d) (by omega) (by omega)) ?_
      refine e_b_eq (k := 12) (xi135 12) (fun c1 => ?_) (fun c1 => ?_)
      · skip
        refine e_iload (k := 13) (xi135 13) rfl ?_
        refine e_iret (k := 14) (xi135 14) ?_
        exact y_fV (Q := fun v => (-1 ≤ v ∧ v ≤ 11) ∧ (kd = 2 → v ≤ 10)) (show w_m_room_a kd s M (k + 1) d = d from by rw [w_m_room_a, if_neg c0, if_pos c1]) (by omega)
      · skip
        refine e_iinc (w := 1 + d) (k := 15) (xi135 15) rfl (x_wn (by omega)) ?_
        show x_Ev 135 16 [.inr 162, .inl (kd), .inl (s), .inl (1 + d)] [] (0, 0) (z, P, M) _
        refine e_goto (k := 16) (xi135 16) ?_
        rw [(show w_m_room_a kd s M (k + 1) d = w_m_room_a kd s M k (1 + d) from by rw [w_m_room_a, if_neg c0, if_neg c1])]
        exact ih (1 + d) (by omega) (by omega)
def v_m_room (kd s : Int) (M : Int → Int → Int) : Int := w_m_room_a kd s M 13 0
theorem k_m_room {z : Int} {P M : Int → Int → Int} (hS : x_Sh z P) (hT : y_TC M) (kd : Int) (s : Int)  (hs : 0 ≤ s ∧ s < 12) : x_CallR 135 [.inr 162, .inl (kd), .inl (s)] (z, P, M) (fun q => q = (some (.inl (v_m_room kd s M)), (z, P, M)) ∧ (fun v => (-1 ≤ v ∧ v ≤ 11) ∧ (kd = 2 → v ≤ 10)) (v_m_room kd s M)) := by
  refine e_body (ls0 := [.inr 162, .inl (kd), .inl (s), x_un]) xm135 rfl ?_
  refine e_iconst (k := 0) (xi135 0) ?_
  refine e_istore (k := 1) (xi135 1) (Nat.le_of_ble_eq_true rfl) ?_
  show x_Ev 135 2 [.inr 162, .inl (kd), .inl (s), .inl 0] [] (0, 0) (z, P, M) _
  refine x_ev_mono (kw_m_room_a hS hT kd s    (by omega) 13 0 (by omega) (by omega)) ?_
  rintro _ ⟨e1, q3⟩
  cases e1
  exact y_fV (Q := fun v => (-1 ≤ v ∧ v ≤ 11) ∧ (kd = 2 → v ≤ 10)) (show v_m_room kd s M = w_m_room_a kd s M 13 0 from rfl) (by omega)
def l_m_cntD_a (s x : Int) (M : Int → Int → Int) : Nat → Int → Int → Int × Int
  | 0, n, d => (n, d)
  | k + 1, n, d => if M 163 (10 + 80 * s) ≤ d then (n, d) else if ¬ x = (-1) then (if M 163 (11 + 80 * s + d) = (-2) then l_m_cntD_a s x M k n (1 + d) else l_m_cntD_a s x M k (1 + n) (1 + d)) else if ¬ M 163 (11 + 80 * s + d) = (-1) then l_m_cntD_a s x M k n (1 + d) else l_m_cntD_a s x M k (1 + n) (1 + d)
theorem kl_m_cntD_a {z : Int} {P M : Int → Int → Int} {r : Option xV × xH → Prop} (hS : x_Sh z P) (hT : y_TC M) (s : Int) (x : Int)   (hs : 0 ≤ s ∧ s < 12) : ∀ k : Nat, ∀ x5 : xV, ∀ n : Int, ∀ d : Int, (0 ≤ n ∧ n ≤ d ∧ d ≤ 12) → 12 - d < (k : Int) → (∀ x5 : xV, 0 ≤ ((l_m_cntD_a s x M k n d).1) ∧ ((l_m_cntD_a s x M k n d).1) ≤ 12 → x_Ev 128 38 [.inr 162, .inl (s), .inl (x), .inl ((l_m_cntD_a s x M k n d).1), .inl ((l_m_cntD_a s x M k n d).2), x5] [] (0, 0) (z, P, M) r) → x_Ev 128 4 [.inr 162, .inl (s), .inl (x), .inl (n), .inl (d), x5] [] (0, 0) (z, P, M) r := by
  have kd0 := ty_aD hT (i := 10 + 80 * s) (s := s) (by omega) (by omega)
  intro k
  induction k with
  | zero => intro x5 n d hi hm; omega
  | succ k ih =>
    intro x5 n d hi hm kk
    refine e_iload (k := 4) (xi128 4) rfl ?_
    refine e_aload (k := 5) (xi128 5) rfl (by decide) ?_
    refine e_iload (k := 6) (xi128 6) rfl ?_
    have t1 := ty_aD hT (i := 10 + 80 * s) (s := s) (by omega) (by omega)
    refine e_call (k := 7) (v := some (.inl (M 163 (10 + 80 * s)))) (h1 := (z, P, M)) (c1 := 0) (c2 := 0) (rest := [.inl (d)]) (as := [.inr 162, .inl (s)]) (xi128 7) (by decide) xm118 rfl ⟨rfl, Nat.le_of_ble_eq_true rfl, by decide⟩ (Or.inr (x_okt (ok_mo hS))) (k_mdocks hS hT s (10 + 80 * s) (by omega) (by omega)) ?_
    refine e_c_ge (k := 8) (xi128 8) (fun c0 => ?_) (fun c0 => ?_)
    · skip
      rw [(show l_m_cntD_a s x M (k + 1) n d = (n, d) from by rw [l_m_cntD_a, if_pos c0])] at kk
      try dsimp only at kk
      exact kk _ (by first | exact trivial | omega)
    · skip
      refine e_aload (k := 9) (xi128 9) rfl (by decide) ?_
      refine e_getR (j := 0) (w := 163) (k := 10) (xi128 10) (ok_mo hS) rfl (sh_all hS) ?_
      refine e_aload (k := 11) (xi128 11) rfl (by decide) ?_
      refine e_iload (k := 12) (xi128 12) rfl ?_
      refine e_iload (k := 13) (xi128 13) rfl ?_
      refine e_call (k := 14) (v := some (.inl (11 + 80 * s + d))) (h1 := (z, P, M)) (c1 := 0) (c2 := 0) (rest := [.inr 163]) (as := [.inr 162, .inl (s), .inl (d)]) (xi128 14) (by decide) xm119 rfl ⟨rfl, Nat.le_of_ble_eq_true rfl, by decide⟩ (Or.inr (x_okt (ok_mo hS))) (k_mdockAt hS hT s d (by omega) (by omega)) ?_
      have t2 := ty_aC hT (i := 11 + 80 * s + d) (s := s) (d := d) (by omega) (by omega) (by omega)
      refine e_iald (w := M 163 (11 + 80 * s + d)) (k := 15) (xi128 15) (ok_all hS) (by rw [ln_all]; omega) rfl ?_
      refine e_istore (k := 16) (xi128 16) (Nat.le_of_ble_eq_true rfl) ?_
      show x_Ev 128 17 [.inr 162, .inl (s), .inl (x), .inl (n), .inl (d), .inl (M 163 (11 + 80 * s + d))] [] (0, 0) (z, P, M) _
      refine e_iload (k := 17) (xi128 17) rfl ?_
      refine e_iload (k := 18) (xi128 18) rfl ?_
      refine e_iconst (k := 19) (xi128 19) ?_
      refine e_c_ne (k := 20) (xi128 20) (fun c1 => ?_) (fun c1 => ?_)
      · skip
        refine e_iload (k := 28) (xi128 28) rfl ?_
        refine e_iconst (k := 29) (xi128 29) ?_
        refine e_c_eq (k := 30) (xi128 30) (fun c2 => ?_) (fun c2 => ?_)
        · skip
          refine e_iconst (k := 33) (xi128 33) ?_
          refine e_iadd (w := n) (k := 34) (xi128 34) (x_wn (by omega)) ?_
          refine e_istore (k := 35) (xi128 35) (Nat.le_of_ble_eq_true rfl) ?_
          show x_Ev 128 36 [.inr 162, .inl (s), .inl (x), .inl (n), .inl (d), .inl (M 163 (11 + 80 * s + d))] [] (0, 0) (z, P, M) _
          refine e_iinc (w := 1 + d) (k := 36) (xi128 36) rfl (x_wn (by omega)) ?_
          show x_Ev 128 37 [.inr 162, .inl (s), .inl (x), .inl (n), .inl (1 + d), .inl (M 163 (11 + 80 * s + d))] [] (0, 0) (z, P, M) _
          refine e_goto (k := 37) (xi128 37) ?_
          rw [(show l_m_cntD_a s x M (k + 1) n d = l_m_cntD_a s x M k n (1 + d) from by rw [l_m_cntD_a, if_neg c0, if_pos c1, if_pos c2])] at kk
          exact ih _ n (1 + d) (by omega) (by omega) kk
        · skip
          refine e_iconst (k := 31) (xi128 31) ?_
          refine e_goto (k := 32) (xi128 32) ?_
          refine e_iadd (w := 1 + n) (k := 34) (xi128 34) (x_wn (by omega)) ?_
          refine e_istore (k := 35) (xi128 35) (Nat.le_of_ble_eq_true rfl) ?_
          show x_Ev 128 36 [.inr 162, .inl (s), .inl (x), .inl (1 + n), .inl (d), .inl (M 163 (11 + 80 * s + d))] [] (0, 0) (z, P, M) _
          refine e_iinc (w := 1 + d) (k := 36) (xi128 36) rfl (x_wn (by omega)) ?_
          show x_Ev 128 37 [.inr 162, .inl (s), .inl (x), .inl (1 + n), .inl (1 + d), .inl (M 163 (11 + 80 * s + d))] [] (0, 0) (z, P, M) _
          refine e_goto (k := 37) (xi128 37) ?_
          rw [(show l_m_cntD_a s x M (k + 1) n d = l_m_cntD_a s x M k (1 + n) (1 + d) from by rw [l_m_cntD_a, if_neg c0, if_pos c1, if_neg c2])] at kk
          exact ih _ (1 + n) (1 + d) (by omega) (by omega) kk
      · skip
        refine e_iload (k := 21) (xi128 21) rfl ?_
        refine e_iconst (k := 22) (xi128 22) ?_
        refine e_c_ne (k := 23) (xi128 23) (fun c3 => ?_) (fun c3 => ?_)
        · skip
          refine e_iconst (k := 26) (xi128 26) ?_
          refine e_goto (k := 27) (xi128 27) ?_
          refine e_iadd (w := n) (k := 34) (xi128 34) (x_wn (by omega)) ?_
          refine e_istore (k := 35) (xi128 35) (Nat.le_of_ble_eq_true rfl) ?_
          show x_Ev 128 36 [.inr 162, .inl (s), .inl (x), .inl (n), .inl (d), .inl (M 163 (11 + 80 * s + d))] [] (0, 0) (z, P, M) _
          refine e_iinc (w := 1 + d) (k := 36) (xi128 36) rfl (x_wn (by omega)) ?_
          show x_Ev 128 37 [.inr 162, .inl (s), .inl (x), .inl (n), .inl (1 + d), .inl (M 163 (11 + 80 * s + d))] [] (0, 0) (z, P, M) _
          refine e_goto (k := 37) (xi128 37) ?_
          rw [(show l_m_cntD_a s x M (k + 1) n d = l_m_cntD_a s x M k n (1 + d) from by rw [l_m_cntD_a, if_neg c0, if_neg c1, if_pos c3])] at kk
          exact ih _ n (1 + d) (by omega) (by omega) kk
        · skip
          refine e_iconst (k := 24) (xi128 24) ?_
          refine e_goto (k := 25) (xi128 25) ?_
          refine e_iadd (w := 1 + n) (k := 34) (xi128 34) (x_wn (by omega)) ?_
          refine e_istore (k := 35) (xi128 35) (Nat.le_of_ble_eq_true rfl) ?_
          show x_Ev 128 36 [.inr 162, .inl (s), .inl (x), .inl (1 + n), .inl (d), .inl (M 163 (11 + 80 * s + d))] [] (0, 0) (z, P, M) _
          refine e_iinc (w := 1 + d) (k := 36) (xi128 36) rfl (x_wn (by omega)) ?_
          show x_Ev 128 37 [.inr 162, .inl (s), .inl (x), .inl (1 + n), .inl (1 + d), .inl (M 163 (11 + 80 * s + d))] [] (0, 0) (z, P, M) _
          refine e_goto (k := 37) (xi128 37) ?_
          rw [(show l_m_cntD_a s x M (k + 1) n d = l_m_cntD_a s x M k (1 + n) (1 + d) from by rw [l_m_cntD_a, if_neg c0, if_neg c1, if_neg c3])] at kk
          exact ih _ (1 + n) (1 + d) (by omega) (by omega) kk
def v_m_cntD (s x : Int) (M : Int → Int → Int) : Int := (l_m_cntD_a s x M 13 0 0).1
theorem k_m_cntD {z : Int} {P M : Int → Int → Int} (hS : x_Sh z P) (hT : y_TC M) (s : Int) (x : Int)  (hs : 0 ≤ s ∧ s < 12) : x_CallR 128 [.inr 162, .inl (s), .inl (x)] (z, P, M) (fun q => q = (some (.inl (v_m_cntD s x M)), (z, P, M)) ∧ (fun v => 0 ≤ v ∧ v ≤ 12) (v_m_cntD s x M)) := by
  refine e_body (ls0 := [.inr 162, .inl (s), .inl (x), x_un, x_un, x_un]) xm128 rfl ?_
  refine e_iconst (k := 0) (xi128 0) ?_
  refine e_istore (k := 1) (xi128 1) (Nat.le_of_ble_eq_true rfl) ?_
  show x_Ev 128 2 [.inr 162, .inl (s), .inl (x), .inl 0, x_un, x_un] [] (0, 0) (z, P, M) _
  refine e_iconst (k := 2) (xi128 2) ?_
  refine e_istore (k := 3) (xi128 3) (Nat.le_of_ble_eq_true rfl) ?_
  show x_Ev 128 4 [.inr 162, .inl (s), .inl (x), .inl 0, .inl 0, x_un] [] (0, 0) (z, P, M) _
  refine kl_m_cntD_a hS hT s x    (by omega) 13 _ 0 0 (by omega) (by omega) ?_
  intro x3 q2
  show x_Ev 128 38 [.inr 162, .inl (s), .inl (x), .inl ((l_m_cntD_a s x M 13 0 0).1), .inl ((l_m_cntD_a s x M 13 0 0).2), x3] [] (0, 0) (z, P, M) _
  refine e_iload (k := 38) (xi128 38) rfl ?_
  refine e_iret (k := 39) (xi128 39) ?_
  exact y_fV (Q := fun v => 0 ≤ v ∧ v ≤ 12) (show v_m_cntD s x M = (l_m_cntD_a s x M 13 0 0).1 from rfl) (by omega)
def l_m_cntW_a (s wh mv : Int) (M : Int → Int → Int) : Nat → Int → Int → Int × Int
  | 0, n, w => (n, w)
  | k + 1, n, w => if M 163 1 ≤ w then (n, w) else if ¬ M 163 (1116 + 8 * w) = wh then l_m_cntW_a s wh mv M k n (1 + w) else if ¬ M 163 (1117 + 8 * w) = s then l_m_cntW_a s wh mv M k n (1 + w) else if mv = 0 then l_m_cntW_a s wh mv M k (1 + n) (1 + w) else if M 163 (1114 + 8 * w) = 2 then l_m_cntW_a s wh mv M k n (1 + w) else l_m_cntW_a s wh mv M k (1 + n) (1 + w)
theorem kl_m_cntW_a {z : Int} {P M : Int → Int → Int} {r : Option xV × xH → Prop} (hS : x_Sh z P) (hT : y_TC M) (s : Int) (wh : Int) (mv : Int)    : ∀ k : Nat, ∀ n : Int, ∀ w : Int, (0 ≤ n ∧ n ≤ w ∧ w ≤ 60) → 60 - w < (k : Int) → (0 ≤ ((l_m_cntW_a s wh mv M k n w).1) ∧ ((l_m_cntW_a s wh mv M k n w).1) ≤ 60 → x_Ev 131 38 [.inr 162, .inl (s), .inl (wh), .inl (mv), .inl ((l_m_cntW_a s wh mv M k n w).1), .inl ((l_m_cntW_a s wh mv M k n w).2)] [] (0, 0) (z, P, M) r) → x_Ev 131 4 [.inr 162, .inl (s), .inl (wh), .inl (mv), .inl (n), .inl (w)] [] (0, 0) (z, P, M) r := by
  intro k
  induction k with
  | zero => intro n w hi hm; omega
  | succ k ih =>
    intro n w hi hm kk
    refine e_iload (k := 4) (xi131 4) rfl ?_
    refine e_aload (k := 5) (xi131 5) rfl (by decide) ?_
    refine e_getR (j := 0) (w := 163) (k := 6) (xi131 6) (ok_mo hS) rfl (sh_all hS) ?_
    refine e_iconst (k := 7) (xi131 7) ?_
    have t1 := ty_a1 hT
    refine e_iald (w := M 163 1) (k := 8) (xi131 8) (ok_all hS) (by rw [ln_all]; omega) rfl ?_
    refine e_c_ge (k := 9) (xi131 9) (fun c0 => ?_) (fun c0 => ?_)
    · skip
      rw [(show l_m_cntW_a s wh mv M (k + 1) n w = (n, w) from by rw [l_m_cntW_a, if_pos c0])] at kk
      try dsimp only at kk
      exact kk (by first | exact trivial | omega)
    · skip
      refine e_iload (k := 10) (xi131 10) rfl ?_
      refine e_aload (k := 11) (xi131 11) rfl (by decide) ?_
      refine e_iload (k := 12) (xi131 12) rfl ?_
      refine e_iconst (k := 13) (xi131 13) ?_
      have t2 := ty_aW2 hT (i := 1116 + 8 * w) (w := w) (by omega) (by omega)
      refine e_call (k := 14) (v := some (.inl (M 163 (1116 + 8 * w)))) (h1 := (z, P, M)) (c1 := 0) (c2 := 0) (rest := [.inl (n)]) (as := [.inr 162, .inl (w), .inl 2]) (xi131 14) (by decide) xm129 rfl ⟨rfl, Nat.le_of_ble_eq_true rfl, by decide⟩ (Or.inr (x_okt (ok_mo hS))) (k_mof hS hT w 2 (1116 + 8 * w) (by omega) (by omega) (by omega)) ?_
      refine e_iload (k := 15) (xi131 15) rfl ?_
      refine e_c_ne (k := 16) (xi131 16) (fun c1 => ?_) (fun c1 => ?_)
      · skip
        refine e_iconst (k := 33) (xi131 33) ?_
        refine e_iadd (w := n) (k := 34) (xi131 34) (x_wn (by omega)) ?_
        refine e_istore (k := 35) (xi131 35) (Nat.le_of_ble_eq_true rfl) ?_
        show x_Ev 131 36 [.inr 162, .inl (s), .inl (wh), .inl (mv), .inl (n), .inl (w)] [] (0, 0) (z, P, M) _
        refine e_iinc (w := 1 + w) (k := 36) (xi131 36) rfl (x_wn (by omega)) ?_
        show x_Ev 131 37 [.inr 162, .inl (s), .inl (wh), .inl (mv), .inl (n), .inl (1 + w)] [] (0, 0) (z, P, M) _
        refine e_goto (k := 37) (xi131 37) ?_
        rw [(show l_m_cntW_a s wh mv M (k + 1) n w = l_m_cntW_a s wh mv M k n (1 + w) from by rw [l_m_cntW_a, if_neg c0, if_pos c1])] at kk
        exact ih n (1 + w) (by omega) (by omega) kk
      · skip
        refine e_aload (k := 17) (xi131 17) rfl (by decide) ?_
        refine e_iload (k := 18) (xi131 18) rfl ?_
        refine e_iconst (k := 19) (xi131 19) ?_
        have t3 := ty_aW3 hT (i := 1117 + 8 * w) (w := w) (by omega) (by omega)
        refine e_call (k := 20) (v := some (.inl (M 163 (1117 + 8 * w)))) (h1 := (z, P, M)) (c1 := 0) (c2 := 0) (rest := [.inl (n)]) (as := [.inr 162, .inl (w), .inl 3]) (xi131 20) (by decide) xm129 rfl ⟨rfl, Nat.le_of_ble_eq_true rfl, by decide⟩ (Or.inr (x_okt (ok_mo hS))) (k_mof hS hT w 3 (1117 + 8 * w) (by omega) (by omega) (by omega)) ?_
        refine e_iload (k := 21) (xi131 21) rfl ?_
        refine e_c_ne (k := 22) (xi131 22) (fun c2 => ?_) (fun c2 => ?_)
        · skip
          refine e_iconst (k := 33) (xi131 33) ?_
          refine e_iadd (w := n) (k := 34) (xi131 34) (x_wn (by omega)) ?_
          refine e_istore (k := 35) (xi131 35) (Nat.le_of_ble_eq_true rfl) ?_
          show x_Ev 131 36 [.inr 162, .inl (s), .inl (wh), .inl (mv), .inl (n), .inl (w)] [] (0, 0) (z, P, M) _
          refine e_iinc (w := 1 + w) (k := 36) (xi131 36) rfl (x_wn (by omega)) ?_
          show x_Ev 131 37 [.inr 162, .inl (s), .inl (wh), .inl (mv), .inl (n), .inl (1 + w)] [] (0, 0) (z, P, M) _
          refine e_goto (k := 37) (xi131 37) ?_
          rw [(show l_m_cntW_a s wh mv M (k + 1) n w = l_m_cntW_a s wh mv M k n (1 + w) from by rw [l_m_cntW_a, if_neg c0, if_neg c1, if_pos c2])] at kk
          exact ih n (1 + w) (by omega) (by omega) kk
        · skip
          refine e_iload (k := 23) (xi131 23) rfl ?_
          refine e_z_eq (k := 24) (xi131 24) (fun c3 => ?_) (fun c3 => ?_)
          · skip
            refine e_iconst (k := 31) (xi131 31) ?_
            refine e_goto (k := 32) (xi131 32) ?_
            refine e_iadd (w := 1 + n) (k := 34) (xi131 34) (x_wn (by omega)) ?_
            refine e_istore (k := 35) (xi131 35) (Nat.le_of_ble_eq_true rfl) ?_
            show x_Ev 131 36 [.inr 162, .inl (s), .inl (wh), .inl (mv), .inl (1 + n), .inl (w)] [] (0, 0) (z, P, M) _
            refine e_iinc (w := 1 + w) (k := 36) (xi131 36) rfl (x_wn (by omega)) ?_
            show x_Ev 131 37 [.inr 162, .inl (s), .inl (wh), .inl (mv), .inl (1 + n), .inl (1 + w)] [] (0, 0) (z, P, M) _
            refine e_goto (k := 37) (xi131 37) ?_
            rw [(show l_m_cntW_a s wh mv M (k + 1) n w = l_m_cntW_a s wh mv M k (1 + n) (1 + w) from by rw [l_m_cntW_a, if_neg c0, if_neg c1, if_neg c2, if_pos c3])] at kk
            exact ih (1 + n) (1 + w) (by omega) (by omega) kk
          · skip
            refine e_aload (k := 25) (xi131 25) rfl (by decide) ?_
            refine e_iload (k := 26) (xi131 26) rfl ?_
            refine e_iconst (k := 27) (xi131 27) ?_
            have t4 := ty_aW0 hT (i := 1114 + 8 * w) (w := w) (by omega) (by omega)
            refine e_call (k := 28) (v := some (.inl (M 163 (1114 + 8 * w)))) (h1 := (z, P, M)) (c1 := 0) (c2 := 0) (rest := [.inl (n)]) (as := [.inr 162, .inl (w), .inl 0]) (xi131 28) (by decide) xm129 rfl ⟨rfl, Nat.le_of_ble_eq_true rfl, by decide⟩ (Or.inr (x_okt (ok_mo hS))) (k_mof hS hT w 0 (1114 + 8 * w) (by omega) (by omega) (by omega)) ?_
            refine e_iconst (k := 29) (xi131 29) ?_
            refine e_c_eq (k := 30) (xi131 30) (fun c4 => ?_) (fun c4 => ?_)
            · skip
              refine e_iconst (k := 33) (xi131 33) ?_
              refine e_iadd (w := n) (k := 34) (xi131 34) (x_wn (by omega)) ?_
              refine e_istore (k := 35) (xi131 35) (Nat.le_of_ble_eq_true rfl) ?_
              show x_Ev 131 36 [.inr 162, .inl (s), .inl (wh), .inl (mv), .inl (n), .inl (w)] [] (0, 0) (z, P, M) _
              refine e_iinc (w := 1 + w) (k := 36) (xi131 36) rfl (x_wn (by omega)) ?_
              show x_Ev 131 37 [.inr 162, .inl (s), .inl (wh), .inl (mv), .inl (n), .inl (1 + w)] [] (0, 0) (z, P, M) _
              refine e_goto (k := 37) (xi131 37) ?_
              rw [(show l_m_cntW_a s wh mv M (k + 1) n w = l_m_cntW_a s wh mv M k n (1 + w) from by rw [l_m_cntW_a, if_neg c0, if_neg c1, if_neg c2, if_neg c3, if_pos c4])] at kk
              exact ih n (1 + w) (by omega) (by omega) kk
            · skip
              refine e_iconst (k := 31) (xi131 31) ?_
              refine e_goto (k := 32) (xi131 32) ?_
              refine e_iadd (w := 1 + n) (k := 34) (xi131 34) (x_wn (by omega)) ?_
              refine e_istore (k := 35) (xi131 35) (Nat.le_of_ble_eq_true rfl) ?_
              show x_Ev 131 36 [.inr 162, .inl (s), .inl (wh), .inl (mv), .inl (1 + n), .inl (w)] [] (0, 0) (z, P, M) _
              refine e_iinc (w := 1 + w) (k := 36) (xi131 36) rfl (x_wn (by omega)) ?_
              show x_Ev 131 37 [.inr 162, .inl (s), .inl (wh), .inl (mv), .inl (1 + n), .inl (1 + w)] [] (0, 0) (z, P, M) _
              refine e_goto (k := 37) (xi131 37) ?_
              rw [(show l_m_cntW_a s wh mv M (k + 1) n w = l_m_cntW_a s wh mv M k (1 + n) (1 + w) from by rw [l_m_cntW_a, if_neg c0, if_neg c1, if_neg c2, if_neg c3, if_neg c4])] at kk
              exact ih (1 + n) (1 + w) (by omega) (by omega) kk
def v_m_cntW (s wh mv : Int) (M : Int → Int → Int) : Int := (l_m_cntW_a s wh mv M 61 0 0).1
theorem k_m_cntW {z : Int} {P M : Int → Int → Int} (hS : x_Sh z P) (hT : y_TC M) (s : Int) (wh : Int) (mv : Int)   : x_CallR 131 [.inr 162, .inl (s), .inl (wh), .inl (mv)] (z, P, M) (fun q => q = (some (.inl (v_m_cntW s wh mv M)), (z, P, M)) ∧ (fun v => 0 ≤ v ∧ v ≤ 60) (v_m_cntW s wh mv M)) := by
  have ka1 := ty_a1 hT
  refine e_body (ls0 := [.inr 162, .inl (s), .inl (wh), .inl (mv), x_un, x_un]) xm131 rfl ?_
  refine e_iconst (k := 0) (xi131 0) ?_
  refine e_istore (k := 1) (xi131 1) (Nat.le_of_ble_eq_true rfl) ?_
  show x_Ev 131 2 [.inr 162, .inl (s), .inl (wh), .inl (mv), .inl 0, x_un] [] (0, 0) (z, P, M) _
  refine e_iconst (k := 2) (xi131 2) ?_
  refine e_istore (k := 3) (xi131 3) (Nat.le_of_ble_eq_true rfl) ?_
  show x_Ev 131 4 [.inr 162, .inl (s), .inl (wh), .inl (mv), .inl 0, .inl 0] [] (0, 0) (z, P, M) _
  refine kl_m_cntW_a hS hT s wh mv     61 0 0 (by omega) (by omega) ?_
  intro q2
  show x_Ev 131 38 [.inr 162, .inl (s), .inl (wh), .inl (mv), .inl ((l_m_cntW_a s wh mv M 61 0 0).1), .inl ((l_m_cntW_a s wh mv M 61 0 0).2)] [] (0, 0) (z, P, M) _
  refine e_iload (k := 38) (xi131 38) rfl ?_
  refine e_iret (k := 39) (xi131 39) ?_
  exact y_fV (Q := fun v => 0 ≤ v ∧ v ≤ 60) (show v_m_cntW s wh mv M = (l_m_cntW_a s wh mv M 61 0 0).1 from rfl) (by omega)
def u_m_comes (w s d : Int) (M : Int → Int → Int) : Int → Int → Int := if ¬ M 163 (1114 + 8 * w) = 2 then (x_up ((x_up ((x_up ((x_up M 163 (11 + 80 * s + d) w)) 163 (1116 + 8 * w) 0)) 163 (1117 + 8 * w) s)) 163 (1118 + 8 * w) d) else (x_up ((x_up ((x_up ((x_up ((x_up M 163 (11 + 80 * s + d) w)) 163 (12 + 80 * s + d) w)) 163 (1116 + 8 * w) 0)) 163 (1117 + 8 * w) s)) 163 (1118 + 8 * w) d)
theorem k_m_comes {z : Int} {P M : Int → Int → Int} (hS : x_Sh z P) (hT : y_TC M) (w : Int) (s : Int) (d : Int)  (hw : 0 ≤ w ∧ w < 60) (hs : 0 ≤ s ∧ s < 12) (hd : 0 ≤ d ∧ d < 12) : x_CallR 136 [.inr 162, .inl (w), .inl (s), .inl (d)] (z, P, M) (fun q => q = (none, (z, P, u_m_comes w s d M)) ∧ y_TL 5 M (u_m_comes w s d M)) := by
  have tl0 : y_TL 5 M M := tl_refl hT
  refine e_body (ls0 := [.inr 162, .inl (w), .inl (s), .inl (d)]) xm136 rfl ?_
  refine e_aload (k := 0) (xi136 0) rfl (by decide) ?_
  refine e_getR (j := 0) (w := 163) (k := 1) (xi136 1) (ok_mo hS) rfl (sh_all hS) ?_
  refine e_aload (k := 2) (xi136 2) rfl (by decide) ?_
  refine e_iload (k := 3) (xi136 3) rfl ?_
  refine e_iload (k := 4) (xi136 4) rfl ?_
  refine e_call (k := 5) (v := some (.inl (11 + 80 * s + d))) (h1 := (z, P, M)) (c1 := 0) (c2 := 0) (rest := [.inr 163]) (as := [.inr 162, .inl (s), .inl (d)]) (xi136 5) (by decide) xm119 rfl ⟨rfl, Nat.le_of_ble_eq_true rfl, by decide⟩ (Or.inr (x_okt (ok_mo hS))) (k_mdockAt hS tl0.1 s d (by omega) (by omega)) ?_
  refine e_iload (k := 6) (xi136 6) rfl ?_
  refine e_iast (k := 7) (xi136 7) (ok_all hS) (by rw [ln_all]; omega) ?_
  have tl1 : y_TL 5 M (x_up M 163 (11 + 80 * s + d) w) := tl_up tl0 (sl_aZ (i := 11 + 80 * s + d) (s := s) (d := d) (by omega) (by omega) (by omega) (by omega)) (nf5 (nf_aZ (i := 11 + 80 * s + d) (s := s) (d := d) (by omega) (by omega) (by omega)) (by omega))
  refine e_aload (k := 8) (xi136 8) rfl (by decide) ?_
  refine e_iload (k := 9) (xi136 9) rfl ?_
  refine e_iconst (k := 10) (xi136 10) ?_
  have t2 := ty_aW0 tl0.1 (i := 1114 + 8 * w) (w := w) (by omega) (by omega)
  refine e_call (k := 11) (v := some (.inl (M 163 (1114 + 8 * w)))) (h1 := (z, P, (x_up M 163 (11 + 80 * s + d) w))) (c1 := 0) (c2 := 0) (rest := []) (as := [.inr 162, .inl (w), .inl 0]) (xi136 11) (by decide) xm129 rfl ⟨rfl, Nat.le_of_ble_eq_true rfl, by decide⟩ (Or.inr (x_okt (ok_mo hS))) (x_cvT (k_mof hS tl1.1 w 0 (1114 + 8 * w) (by omega) (by omega) (by omega)) (((x_up_nk (by omega)).trans rfl))) ?_
  refine e_iconst (k := 12) (xi136 12) ?_
  refine e_c_ne (k := 13) (xi136 13) (fun c0 => ?_) (fun c0 => ?_)
  · skip
    refine e_aload (k := 24) (xi136 24) rfl (by decide) ?_
    refine e_iload (k := 25) (xi136 25) rfl ?_
    refine e_iconst (k := 26) (xi136 26) ?_
    refine e_iconst (k := 27) (xi136 27) ?_
    have tl3 : y_TL 5 M (x_up ((x_up M 163 (11 + 80 * s + d) w)) 163 (1116 + 8 * w) 0) := tl_up tl1 (sl_aW2 (i := 1116 + 8 * w) (w := w) (by omega) (by omega) (by omega)) (nf5 (nf_aW2 (i := 1116 + 8 * w) (w := w) (by omega) (by omega)) (by omega))
    refine e_call (k := 28) (v := none) (h1 := (z, P, (x_up ((x_up M 163 (11 + 80 * s + d) w)) 163 (1116 + 8 * w) 0))) (c1 := 0) (c2 := 0) (rest := []) (as := [.inr 162, .inl (w), .inl 2, .inl 0]) (xi136 28) (by decide) xm130 rfl ⟨rfl, Nat.le_of_ble_eq_true rfl, by decide⟩ (Or.inr (x_okt (ok_mo hS))) (k_msets hS w 2 0 (1116 + 8 * w) (by omega) (by omega) (by omega)) ?_
    refine e_aload (k := 29) (xi136 29) rfl (by decide) ?_
    refine e_iload (k := 30) (xi136 30) rfl ?_
    refine e_iconst (k := 31) (xi136 31) ?_
    refine e_iload (k := 32) (xi136 32) rfl ?_
    have tl4 : y_TL 5 M (x_up ((x_up ((x_up M 163 (11 + 80 * s + d) w)) 163 (1116 + 8 * w) 0)) 163 (1117 + 8 * w) s) := tl_up tl3 (sl_aW3 (i := 1117 + 8 * w) (w := w) (by omega) (by omega) (by omega)) (nf5 (nf_aW3 (i := 1117 + 8 * w) (w := w) (by omega) (by omega)) (by omega))
    refine e_call (k := 33) (v := none) (h1 := (z, P, (x_up ((x_up ((x_up M 163 (11 + 80 * s + d) w)) 163 (1116 + 8 * w) 0)) 163 (1117 + 8 * w) s))) (c1 := 0) (c2 := 0) (rest := []) (as := [.inr 162, .inl (w), .inl 3, .inl (s)]) (xi136 33) (by decide) xm130 rfl ⟨rfl, Nat.le_of_ble_eq_true rfl, by decide⟩ (Or.inr (x_okt (ok_mo hS))) (k_msets hS w 3 s (1117 + 8 * w) (by omega) (by omega) (by omega)) ?_
    refine e_aload (k := 34) (xi136 34) rfl (by decide) ?_
    refine e_iload (k := 35) (xi136 35) rfl ?_
    refine e_iconst (k := 36) (xi136 36) ?_
    refine e_iload (k := 37) (xi136 37) rfl ?_
    have tl5 : y_TL 5 M (x_up ((x_up ((x_up ((x_up M 163 (11 + 80 * s + d) w)) 163 (1116 + 8 * w) 0)) 163 (1117 + 8 * w) s)) 163 (1118 + 8 * w) d) := tl_up tl4 (sl_aW4 (i := 1118 + 8 * w) (w := w) (by omega) (by omega) (by omega)) (nf5 (nf_aW4 (i := 1118 + 8 * w) (w := w) (by omega) (by omega)) (by omega))
    refine e_call (k := 38) (v := none) (h1 := (z, P, (x_up ((x_up ((x_up ((x_up M 163 (11 + 80 * s + d) w)) 163 (1116 + 8 * w) 0)) 163 (1117 + 8 * w) s)) 163 (1118 + 8 * w) d))) (c1 := 0) (c2 := 0) (rest := []) (as := [.inr 162, .inl (w), .inl 4, .inl (d)]) (xi136 38) (by decide) xm130 rfl ⟨rfl, Nat.le_of_ble_eq_true rfl, by decide⟩ (Or.inr (x_okt (ok_mo hS))) (k_msets hS w 4 d (1118 + 8 * w) (by omega) (by omega) (by omega)) ?_
    refine e_vret (k := 39) (xi136 39) ?_
    exact y_fU (show u_m_comes w s d M = (x_up ((x_up ((x_up ((x_up M 163 (11 + 80 * s + d) w)) 163 (1116 + 8 * w) 0)) 163 (1117 + 8 * w) s)) 163 (1118 + 8 * w) d) from by rw [u_m_comes, if_pos c0]) tl5
  · skip
    refine e_aload (k := 14) (xi136 14) rfl (by decide) ?_
    refine e_getR (j := 0) (w := 163) (k := 15) (xi136 15) (ok_mo hS) rfl (sh_all hS) ?_
    refine e_aload (k := 16) (xi136 16) rfl (by decide) ?_
    refine e_iload (k := 17) (xi136 17) rfl ?_
    refine e_iload (k := 18) (xi136 18) rfl ?_
    refine e_iconst (k := 19) (xi136 19) ?_
    refine e_iadd (w := 1 + d) (k := 20) (xi136 20) (x_wn (by omega)) ?_
    refine e_call (k := 21) (v := some (.inl (12 + 80 * s + d))) (h1 := (z, P, (x_up M 163 (11 + 80 * s + d) w))) (c1 := 0) (c2 := 0) (rest := [.inr 163]) (as := [.inr 162, .inl (s), .inl (1 + d)]) (xi136 21) (by decide) xm119 rfl ⟨rfl, Nat.le_of_ble_eq_true rfl, by decide⟩ (Or.inr (x_okt (ok_mo hS))) (x_cvT (k_mdockAt hS tl1.1 s (1 + d) (by omega) (by omega)) (by omega)) ?_
    refine e_iload (k := 22) (xi136 22) rfl ?_
    refine e_iast (k := 23) (xi136 23) (ok_all hS) (by rw [ln_all]; omega) ?_
    have tl6 : y_TL 5 M (x_up ((x_up M 163 (11 + 80 * s + d) w)) 163 (12 + 80 * s + d) w) := tl_up tl1 (sl_aZ (i := 12 + 80 * s + d) (s := s) (d := 1 + d) (by omega) (by omega) (by omega) (by omega)) (nf5 (nf_aZ (i := 12 + 80 * s + d) (s := s) (d := 1 + d) (by omega) (by omega) (by omega)) (by omega))
    refine e_aload (k := 24) (xi136 24) rfl (by decide) ?_
    refine e_iload (k := 25) (xi136 25) rfl ?_
    refine e_iconst (k := 26) (xi136 26) ?_
    refine e_iconst (k := 27) (xi136 27) ?_
    have tl7 : y_TL 5 M (x_up ((x_up ((x_up M 163 (11 + 80 * s + d) w)) 163 (12 + 80 * s + d) w)) 163 (1116 + 8 * w) 0) := tl_up tl6 (sl_aW2 (i := 1116 + 8 * w) (w := w) (by omega) (by omega) (by omega)) (nf5 (nf_aW2 (i := 1116 + 8 * w) (w := w) (by omega) (by omega)) (by omega))
    refine e_call (k := 28) (v := none) (h1 := (z, P, (x_up ((x_up ((x_up M 163 (11 + 80 * s + d) w)) 163 (12 + 80 * s + d) w)) 163 (1116 + 8 * w) 0))) (c1 := 0) (c2 := 0) (rest := []) (as := [.inr 162, .inl (w), .inl 2, .inl 0]) (xi136 28) (by decide) xm130 rfl ⟨rfl, Nat.le_of_ble_eq_true rfl, by decide⟩ (Or.inr (x_okt (ok_mo hS))) (k_msets hS w 2 0 (1116 + 8 * w) (by omega) (by omega) (by omega)) ?_
    refine e_aload (k := 29) (xi136 29) rfl (by decide) ?_
    refine e_iload (k := 30) (xi136 30) rfl ?_
    refine e_iconst (k := 31) (xi136 31) ?_
    refine e_iload (k := 32) (xi136 32) rfl ?_
    have tl8 : y_TL 5 M (x_up ((x_up ((x_up ((x_up M 163 (11 + 80 * s + d) w)) 163 (12 + 80 * s + d) w)) 163 (1116 + 8 * w) 0)) 163 (1117 + 8 * w) s) := tl_up tl7 (sl_aW3 (i := 1117 + 8 * w) (w := w) (by omega) (by omega) (by omega)) (nf5 (nf_aW3 (i := 1117 + 8 * w) (w := w) (by omega) (by omega)) (by omega))
    refine e_call (k := 33) (v := none) (h1 := (z, P, (x_up ((x_up ((x_up ((x_up M 163 (11 + 80 * s + d) w)) 163 (12 + 80 * s + d) w)) 163 (1116 + 8 * w) 0)) 163 (1117 + 8 * w) s))) (c1 := 0) (c2 := 0) (rest := []) (as := [.inr 162, .inl (w), .inl 3, .inl (s)]) (xi136 33) (by decide) xm130 rfl ⟨rfl, Nat.le_of_ble_eq_true rfl, by decide⟩ (Or.inr (x_okt (ok_mo hS))) (k_msets hS w 3 s (1117 + 8 * w) (by omega) (by omega) (by omega)) ?_
    refine e_aload (k := 34) (xi136 34) rfl (by decide) ?_
    refine e_iload (k := 35) (xi136 35) rfl ?_
    refine e_iconst (k := 36) (xi136 36) ?_
    refine e_iload (k := 37) (xi136 37) rfl ?_
    have tl9 : y_TL 5 M (x_up ((x_up ((x_up ((x_up ((x_up M 163 (11 + 80 * s + d) w)) 163 (12 + 80 * s + d) w)) 163 (1116 + 8 * w) 0)) 163 (1117 + 8 * w) s)) 163 (1118 + 8 * w) d) := tl_up tl8 (sl_aW4 (i := 1118 + 8 * w) (w := w) (by omega) (by omega) (by omega)) (nf5 (nf_aW4 (i := 1118 + 8 * w) (w := w) (by omega) (by omega)) (by omega))
    refine e_call (k := 38) (v := none) (h1 := (z, P, (x_up ((x_up ((x_up ((x_up ((x_up M 163 (11 + 80 * s + d) w)) 163 (12 + 80 * s + d) w)) 163 (1116 + 8 * w) 0)) 163 (1117 + 8 * w) s)) 163 (1118 + 8 * w) d))) (c1 := 0) (c2 := 0) (rest := []) (as := [.inr 162, .inl (w), .inl 4, .inl (d)]) (xi136 38) (by decide) xm130 rfl ⟨rfl, Nat.le_of_ble_eq_true rfl, by decide⟩ (Or.inr (x_okt (ok_mo hS))) (k_msets hS w 4 d (1118 + 8 * w) (by omega) (by omega) (by omega)) ?_
    refine e_vret (k := 39) (xi136 39) ?_
    exact y_fU (show u_m_comes w s d M = (x_up ((x_up ((x_up ((x_up ((x_up M 163 (11 + 80 * s + d) w)) 163 (12 + 80 * s + d) w)) 163 (1116 + 8 * w) 0)) 163 (1117 + 8 * w) s)) 163 (1118 + 8 * w) d) from by rw [u_m_comes, if_neg c0]) tl9
def u_m_leaves (w : Int) (M : Int → Int → Int) : Int → Int → Int := if ¬ M 163 (1114 + 8 * w) = 2 then (x_up M 163 (11 + 80 * M 163 (1117 + 8 * w) + M 163 (1118 + 8 * w)) ((-1))) else (x_up ((x_up M 163 (11 + 80 * M 163 (1117 + 8 * w) + M 163 (1118 + 8 * w)) ((-1)))) 163 (12 + 80 * M 163 (1117 + 8 * w) + M 163 (1118 + 8 * w)) ((-1)))
theorem k_m_leaves {z : Int} {P M : Int → Int → Int} (hS : x_Sh z P) (hT : y_TC M) (w : Int)  (hw : 0 ≤ w ∧ w < 60) : x_CallR 137 [.inr 162, .inl (w)] (z, P, M) (fun q => q = (none, (z, P, u_m_leaves w M)) ∧ y_TL 5 M (u_m_leaves w M)) := by
  have tl0 : y_TL 5 M M := tl_refl hT
  refine e_body (ls0 := [.inr 162, .inl (w)]) xm137 rfl ?_
  refine e_aload (k := 0) (xi137 0) rfl (by decide) ?_
  refine e_getR (j := 0) (w := 163) (k := 1) (xi137 1) (ok_mo hS) rfl (sh_all hS) ?_
  refine e_aload (k := 2) (xi137 2) rfl (by decide) ?_
  refine e_aload (k := 3) (xi137 3) rfl (by decide) ?_
  refine e_iload (k := 4) (xi137 4) rfl ?_
  refine e_iconst (k := 5) (xi137 5) ?_
  have t1 := ty_aW3 tl0.1 (i := 1117 + 8 * w) (w := w) (by omega) (by omega)
  refine e_call (k := 6) (v := some (.inl (M 163 (1117 + 8 * w)))) (h1 := (z, P, M)) (c1 := 0) (c2 := 0) (rest := [.inr 162, .inr 163]) (as := [.inr 162, .inl (w), .inl 3]) (xi137 6) (by decide) xm129 rfl ⟨rfl, Nat.le_of_ble_eq_true rfl, by decide⟩ (Or.inr (x_okt (ok_mo hS))) (k_mof hS tl0.1 w 3 (1117 + 8 * w) (by omega) (by omega) (by omega)) ?_
  refine e_aload (k := 7) (xi137 7) rfl (by decide) ?_
  refine e_iload (k := 8) (xi137 8) rfl ?_
  refine e_iconst (k := 9) (xi137 9) ?_
  have t2 := ty_aW4 tl0.1 (i := 1118 + 8 * w) (w := w) (by omega) (by omega)
  refine e_call (k := 10) (v := some (.inl (M 163 (1118 + 8 * w)))) (h1 := (z, P, M)) (c1 := 0) (c2 := 0) (rest := [.inl (M 163 (1117 + 8 * w)), .inr 162, .inr 163]) (as := [.inr 162, .inl (w), .inl 4]) (xi137 10) (by decide) xm129 rfl ⟨rfl, Nat.le_of_ble_eq_true rfl, by decide⟩ (Or.inr (x_okt (ok_mo hS))) (k_mof hS tl0.1 w 4 (1118 + 8 * w) (by omega) (by omega) (by omega)) ?_
  refine e_call (k := 11) (v := some (.inl (11 + 80 * M 163 (1117 + 8 * w) + M 163 (1118 + 8 * w)))) (h1 := (z, P, M)) (c1 := 0) (c2 := 0) (rest := [.inr 163]) (as := [.inr 162, .inl (M 163 (1117 + 8 * w)), .inl (M 163 (1118 + 8 * w))]) (xi137 11) (by decide) xm119 rfl ⟨rfl, Nat.le_of_ble_eq_true rfl, by decide⟩ (Or.inr (x_okt (ok_mo hS))) (k_mdockAt hS tl0.1 (M 163 (1117 + 8 * w)) (M 163 (1118 + 8 * w)) (by omega) (by omega)) ?_
  refine e_iconst (k := 12) (xi137 12) ?_
  refine e_iast (k := 13) (xi137 13) (ok_all hS) (by rw [ln_all]; omega) ?_
  have tl3 : y_TL 5 M (x_up M 163 (11 + 80 * M 163 (1117 + 8 * w) + M 163 (1118 + 8 * w)) ((-1))) := tl_up tl0 (sl_aX (i := 11 + 80 * M 163 (1117 + 8 * w) + M 163 (1118 + 8 * w)) (s := M 163 (1117 + 8 * w)) (d := M 163 (1118 + 8 * w)) (by omega) (by omega) (by omega)) (nf5 (nf_aX (i := 11 + 80 * M 163 (1117 + 8 * w) + M 163 (1118 + 8 * w)) (s := M 163 (1117 + 8 * w)) (d := M 163 (1118 + 8 * w)) (by omega) (by omega) (by omega)) (by omega))
  refine e_aload (k := 14) (xi137 14) rfl (by decide) ?_
  refine e_iload (k := 15) (xi137 15) rfl ?_
  refine e_iconst (k := 16) (xi137 16) ?_
  have t4 := ty_aW0 tl0.1 (i := 1114 + 8 * w) (w := w) (by omega) (by omega)
  refine e_call (k := 17) (v := some (.inl (M 163 (1114 + 8 * w)))) (h1 := (z, P, (x_up M 163 (11 + 80 * M 163 (1117 + 8 * w) + M 163 (1118 + 8 * w)) ((-1))))) (c1 := 0) (c2 := 0) (rest := []) (as := [.inr 162, .inl (w), .inl 0]) (xi137 17) (by decide) xm129 rfl ⟨rfl, Nat.le_of_ble_eq_true rfl, by decide⟩ (Or.inr (x_okt (ok_mo hS))) (x_cvT (k_mof hS tl3.1 w 0 (1114 + 8 * w) (by omega) (by omega) (by omega)) (((x_up_nk (by omega)).trans rfl))) ?_
  refine e_iconst (k := 18) (xi137 18) ?_
  refine e_c_ne (k := 19) (xi137 19) (fun c0 => ?_) (fun c0 => ?_)
  · skip
    refine e_vret (k := 36) (xi137 36) ?_
    exact y_fU (show u_m_leaves w M = (x_up M 163 (11 + 80 * M 163 (1117 + 8 * w) + M 163 (1118 + 8 * w)) ((-1))) from by rw [u_m_leaves, if_pos c0]) tl3
  · skip
    refine e_aload (k := 20) (xi137 20) rfl (by decide) ?_
    refine e_getR (j := 0) (w := 163) (k := 21) (xi137 21) (ok_mo hS) rfl (sh_all hS) ?_
    refine e_aload (k := 22) (xi137 22) rfl (by decide) ?_
    refine e_aload (k := 23) (xi137 23) rfl (by decide) ?_
    refine e_iload (k := 24) (xi137 24) rfl ?_
    refine e_iconst (k := 25) (xi137 25) ?_
    refine e_call (k := 26) (v := some (.inl (M 163 (1117 + 8 * w)))) (h1 := (z, P, (x_up M 163 (11 + 80 * M 163 (1117 + 8 * w) + M 163 (1118 + 8 * w)) ((-1))))) (c1 := 0) (c2 := 0) (rest := [.inr 162, .inr 163]) (as := [.inr 162, .inl (w), .inl 3]) (xi137 26) (by decide) xm129 rfl ⟨rfl, Nat.le_of_ble_eq_true rfl, by decide⟩ (Or.inr (x_okt (ok_mo hS))) (x_cvT (k_mof hS tl3.1 w 3 (1117 + 8 * w) (by omega) (by omega) (by omega)) (((x_up_nk (by omega)).trans rfl))) ?_
    refine e_aload (k := 27) (xi137 27) rfl (by decide) ?_
    refine e_iload (k := 28) (xi137 28) rfl ?_
    refine e_iconst (k := 29) (xi137 29) ?_
    refine e_call (k := 30) (v := some (.inl (M 163 (1118 + 8 * w)))) (h1 := (z, P, (x_up M 163 (11 + 80 * M 163 (1117 + 8 * w) + M 163 (1118 + 8 * w)) ((-1))))) (c1 := 0) (c2 := 0) (rest := [.inl (M 163 (1117 + 8 * w)), .inr 162, .inr 163]) (as := [.inr 162, .inl (w), .inl 4]) (xi137 30) (by decide) xm129 rfl ⟨rfl, Nat.le_of_ble_eq_true rfl, by decide⟩ (Or.inr (x_okt (ok_mo hS))) (x_cvT (k_mof hS tl3.1 w 4 (1118 + 8 * w) (by omega) (by omega) (by omega)) (((x_up_nk (by omega)).trans rfl))) ?_
    refine e_iconst (k := 31) (xi137 31) ?_
    refine e_iadd (w := 1 + M 163 (1118 + 8 * w)) (k := 32) (xi137 32) (x_wn (by omega)) ?_
    refine e_call (k := 33) (v := some (.inl (12 + 80 * M 163 (1117 + 8 * w) + M 163 (1118 + 8 * w)))) (h1 := (z, P, (x_up M 163 (11 + 80 * M 163 (1117 + 8 * w) + M 163 (1118 + 8 * w)) ((-1))))) (c1 := 0) (c2 := 0) (rest := [.inr 163]) (as := [.inr 162, .inl (M 163 (1117 + 8 * w)), .inl (1 + M 163 (1118 + 8 * w))]) (xi137 33) (by decide) xm119 rfl ⟨rfl, Nat.le_of_ble_eq_true rfl, by decide⟩ (Or.inr (x_okt (ok_mo hS))) (x_cvT (k_mdockAt hS tl3.1 (M 163 (1117 + 8 * w)) (1 + M 163 (1118 + 8 * w)) (by omega) (by omega)) (by omega)) ?_
    refine e_iconst (k := 34) (xi137 34) ?_
    refine e_iast (k := 35) (xi137 35) (ok_all hS) (by rw [ln_all]; omega) ?_
    have tl5 : y_TL 5 M (x_up ((x_up M 163 (11 + 80 * M 163 (1117 + 8 * w) + M 163 (1118 + 8 * w)) ((-1)))) 163 (12 + 80 * M 163 (1117 + 8 * w) + M 163 (1118 + 8 * w)) ((-1))) := tl_up tl3 (sl_aX (i := 12 + 80 * M 163 (1117 + 8 * w) + M 163 (1118 + 8 * w)) (s := M 163 (1117 + 8 * w)) (d := 1 + M 163 (1118 + 8 * w)) (by omega) (by omega) (by omega)) (nf5 (nf_aX (i := 12 + 80 * M 163 (1117 + 8 * w) + M 163 (1118 + 8 * w)) (s := M 163 (1117 + 8 * w)) (d := 1 + M 163 (1118 + 8 * w)) (by omega) (by omega) (by omega)) (by omega))
    refine e_vret (k := 36) (xi137 36) ?_
    exact y_fU (show u_m_leaves w M = (x_up ((x_up M 163 (11 + 80 * M 163 (1117 + 8 * w) + M 163 (1118 + 8 * w)) ((-1)))) 163 (12 + 80 * M 163 (1117 + 8 * w) + M 163 (1118 + 8 * w)) ((-1))) from by rw [u_m_leaves, if_neg c0]) tl5
theorem k_mhasCharge {z : Int} {P M : Int → Int → Int} (hS : x_Sh z P) (hT : y_TC M) (kd : Int)   : x_Call 138 [.inl (kd)] (z, P, M) (some (.inl (x_b (kd = 1 ∨ kd = 2)))) (z, P, M) := by
  refine e_body (ls0 := [.inl (kd)]) xm138 rfl ?_
  refine e_iload (k := 0) (xi138 0) rfl ?_
  refine e_iconst (k := 1) (xi138 1) ?_
  refine e_c_eq (k := 2) (xi138 2) (fun c0 => ?_) (fun c0 => ?_)
  · skip
    refine e_iconst (k := 6) (xi138 6) ?_
    refine e_goto (k := 7) (xi138 7) ?_
    refine e_zret (k := 9) (xi138 9) (by first | decide | omega) ?_
    exact x_bT (by omega)
  · skip
    refine e_iload (k := 3) (xi138 3) rfl ?_
    refine e_iconst (k := 4) (xi138 4) ?_
    refine e_c_ne (k := 5) (xi138 5) (fun c1 => ?_) (fun c1 => ?_)
    · skip
      refine e_iconst (k := 8) (xi138 8) ?_
      refine e_zret (k := 9) (xi138 9) (by first | decide | omega) ?_
      exact x_bF (by omega)
    · skip
      refine e_iconst (k := 6) (xi138 6) ?_
      refine e_goto (k := 7) (xi138 7) ?_
      refine e_zret (k := 9) (xi138 9) (by first | decide | omega) ?_
      exact x_bT (by omega)
def v_m_falls (kd : Int) (M : Int → Int → Int) : Int := if ¬ kd = 2 then (if ¬ kd = 1 then 0 else 2) else 3
theorem k_m_falls {z : Int} {P M : Int → Int → Int} (hS : x_Sh z P) (hT : y_TC M) (kd : Int)   : x_CallR 147 [.inr 162, .inl (kd)] (z, P, M) (fun q => q = (some (.inl (v_m_falls kd M)), (z, P, M)) ∧ (fun v => v = 0 ∨ v = 2 ∨ v = 3) (v_m_falls kd M)) := by
  refine e_body (ls0 := [.inr 162, .inl (kd)]) xm147 rfl ?_
  refine e_iload (k := 0) (xi147 0) rfl ?_
  refine e_iconst (k := 1) (xi147 1) ?_
  refine e_c_ne (k := 2) (xi147 2) (fun c0 => ?_) (fun c0 => ?_)
  · skip
    refine e_iload (k := 5) (xi147 5) rfl ?_
    refine e_iconst (k := 6) (xi147 6) ?_
    refine e_c_ne (k := 7) (xi147 7) (fun c1 => ?_) (fun c1 => ?_)
    · skip
      refine e_iconst (k := 10) (xi147 10) ?_
      refine e_iret (k := 11) (xi147 11) ?_
      exact y_fV (Q := fun v => v = 0 ∨ v = 2 ∨ v = 3) (show v_m_falls kd M = 0 from by rw [v_m_falls, if_pos c0, if_pos c1]) (by omega)
    · skip
      refine e_iconst (k := 8) (xi147 8) ?_
      refine e_goto (k := 9) (xi147 9) ?_
      refine e_iret (k := 11) (xi147 11) ?_
      exact y_fV (Q := fun v => v = 0 ∨ v = 2 ∨ v = 3) (show v_m_falls kd M = 2 from by rw [v_m_falls, if_pos c0, if_neg c1]) (by omega)
  · skip
    refine e_iconst (k := 3) (xi147 3) ?_
    refine e_goto (k := 4) (xi147 4) ?_
    refine e_iret (k := 11) (xi147 11) ?_
    exact y_fV (Q := fun v => v = 0 ∨ v = 2 ∨ v = 3) (show v_m_falls kd M = 3 from by rw [v_m_falls, if_neg c0]) (by omega)
def l_m_enough_a (w s : Int) (M : Int → Int → Int) : Nat → Int → Int → Int × Int
  | 0, le, t => (le, t)
  | k + 1, le, t => if M 163 0 ≤ t then (le, t) else if t = s then l_m_enough_a w s M k le (1 + t) else if le < 0 then l_m_enough_a w s M k (M 163 (970 + 12 * s + t)) (1 + t) else if le ≤ M 163 (970 + 12 * s + t) then l_m_enough_a w s M k le (1 + t) else l_m_enough_a w s M k (M 163 (970 + 12 * s + t)) (1 + t)
theorem kl_m_enough_a {z : Int} {P M : Int → Int → Int} {r : Option xV × xH → Prop} (hS : x_Sh z P) (hT : y_TC M) (w : Int) (s : Int)   (hw : 0 ≤ w ∧ w < 60) (hs : 0 ≤ s ∧ s < 12) : ∀ k : Nat, ∀ le : Int, ∀ t : Int, ((-1 ≤ le ∧ le ≤ 999) ∧ 0 ≤ t ∧ t ≤ 12) → 12 - t < (k : Int) → (-1 ≤ ((l_m_enough_a w s M k le t).1) ∧ ((l_m_enough_a w s M k le t).1) ≤ 999 → x_Ev 148 28 [.inr 162, .inl (w), .inl (s), .inl ((l_m_enough_a w s M k le t).1), .inl ((l_m_enough_a w s M k le t).2)] [] (0, 0) (z, P, M) r) → x_Ev 148 4 [.inr 162, .inl (w), .inl (s), .inl (le), .inl (t)] [] (0, 0) (z, P, M) r := by
  intro k
  induction k with
  | zero => intro le t hi hm; omega
  | succ k ih =>
    intro le t hi hm kk
    refine e_iload (k := 4) (xi148 4) rfl ?_
    refine e_aload (k := 5) (xi148 5) rfl (by decide) ?_
    refine e_getR (j := 0) (w := 163) (k := 6) (xi148 6) (ok_mo hS) rfl (sh_all hS) ?_
    refine e_iconst (k := 7) (xi148 7) ?_
    have t1 := ty_a0 hT
    refine e_iald (w := M 163 0) (k := 8) (xi148 8) (ok_all hS) (by rw [ln_all]; omega) rfl ?_
    refine e_c_ge (k := 9) (xi148 9) (fun c0 => ?_) (fun c0 => ?_)
    · skip
      rw [(show l_m_enough_a w s M (k + 1) le t = (le, t) from by rw [l_m_enough_a, if_pos c0])] at kk
      try dsimp only at kk
      exact kk (by first | exact trivial | omega)
    · skip
      refine e_iload (k := 10) (xi148 10) rfl ?_
      refine e_iload (k := 11) (xi148 11) rfl ?_
      refine e_c_eq (k := 12) (xi148 12) (fun c1 => ?_) (fun c1 => ?_)
      · skip
        refine e_iinc (w := 1 + t) (k := 26) (xi148 26) rfl (x_wn (by omega)) ?_
        show x_Ev 148 27 [.inr 162, .inl (w), .inl (s), .inl (le), .inl (1 + t)] [] (0, 0) (z, P, M) _
        refine e_goto (k := 27) (xi148 27) ?_
        rw [(show l_m_enough_a w s M (k + 1) le t = l_m_enough_a w s M k le (1 + t) from by rw [l_m_enough_a, if_neg c0, if_pos c1])] at kk
        exact ih le (1 + t) (by omega) (by omega) kk
      · skip
        refine e_iload (k := 13) (xi148 13) rfl ?_
        refine e_z_lt (k := 14) (xi148 14) (fun c2 => ?_) (fun c2 => ?_)
        · skip
          refine e_aload (k := 21) (xi148 21) rfl (by decide) ?_
          refine e_iload (k := 22) (xi148 22) rfl ?_
          refine e_iload (k := 23) (xi148 23) rfl ?_
          have t2 := ty_aL hT (i := 970 + 12 * s + t) (a := s) (b := t) (by omega) (by omega) (by omega)
          refine e_call (k := 24) (v := some (.inl (M 163 (970 + 12 * s + t)))) (h1 := (z, P, M)) (c1 := 0) (c2 := 0) (rest := []) (as := [.inr 162, .inl (s), .inl (t)]) (xi148 24) (by decide) xm120 rfl ⟨rfl, Nat.le_of_ble_eq_true rfl, by decide⟩ (Or.inr (x_okt (ok_mo hS))) (k_mfar hS hT s t (970 + 12 * s + t) (by omega) (by omega) (by omega)) ?_
          refine e_istore (k := 25) (xi148 25) (Nat.le_of_ble_eq_true rfl) ?_
          show x_Ev 148 26 [.inr 162, .inl (w), .inl (s), .inl (M 163 (970 + 12 * s + t)), .inl (t)] [] (0, 0) (z, P, M) _
          refine e_iinc (w := 1 + t) (k := 26) (xi148 26) rfl (x_wn (by omega)) ?_
          show x_Ev 148 27 [.inr 162, .inl (w), .inl (s), .inl (M 163 (970 + 12 * s + t)), .inl (1 + t)] [] (0, 0) (z, P, M) _
          refine e_goto (k := 27) (xi148 27) ?_
          rw [(show l_m_enough_a w s M (k + 1) le t = l_m_enough_a w s M k (M 163 (970 + 12 * s + t)) (1 + t) from by rw [l_m_enough_a, if_neg c0, if_neg c1, if_pos c2])] at kk
          exact ih (M 163 (970 + 12 * s + t)) (1 + t) (by omega) (by omega) kk
        · skip
          refine e_aload (k := 15) (xi148 15) rfl (by decide) ?_
          refine e_iload (k := 16) (xi148 16) rfl ?_
          refine e_iload (k := 17) (xi148 17) rfl ?_
          have t3 := ty_aL hT (i := 970 + 12 * s + t) (a := s) (b := t) (by omega) (by omega) (by omega)
          refine e_call (k := 18) (v := some (.inl (M 163 (970 + 12 * s + t)))) (h1 := (z, P, M)) (c1 := 0) (c2 := 0) (rest := []) (as := [.inr 162, .inl (s), .inl (t)]) (xi148 18) (by decide) xm120 rfl ⟨rfl, Nat.le_of_ble_eq_true rfl, by decide⟩ (Or.inr (x_okt (ok_mo hS))) (k_mfar hS hT s t (970 + 12 * s + t) (by omega) (by omega) (by omega)) ?_
          refine e_iload (k := 19) (xi148 19) rfl ?_
          refine e_c_ge (k := 20) (xi148 20) (fun c3 => ?_) (fun c3 => ?_)
          · skip
            refine e_iinc (w := 1 + t) (k := 26) (xi148 26) rfl (x_wn (by omega)) ?_
            show x_Ev 148 27 [.inr 162, .inl (w), .inl (s), .inl (le), .inl (1 + t)] [] (0, 0) (z, P, M) _
            refine e_goto (k := 27) (xi148 27) ?_
            rw [(show l_m_enough_a w s M (k + 1) le t = l_m_enough_a w s M k le (1 + t) from by rw [l_m_enough_a, if_neg c0, if_neg c1, if_neg c2, if_pos c3])] at kk
            exact ih le (1 + t) (by omega) (by omega) kk
          · skip
            refine e_aload (k := 21) (xi148 21) rfl (by decide) ?_
            refine e_iload (k := 22) (xi148 22) rfl ?_
            refine e_iload (k := 23) (xi148 23) rfl ?_
            refine e_call (k := 24) (v := some (.inl (M 163 (970 + 12 * s + t)))) (h1 := (z, P, M)) (c1 := 0) (c2 := 0) (rest := []) (as := [.inr 162, .inl (s), .inl (t)]) (xi148 24) (by decide) xm120 rfl ⟨rfl, Nat.le_of_ble_eq_true rfl, by decide⟩ (Or.inr (x_okt (ok_mo hS))) (k_mfar hS hT s t (970 + 12 * s + t) (by omega) (by omega) (by omega)) ?_
            refine e_istore (k := 25) (xi148 25) (Nat.le_of_ble_eq_true rfl) ?_
            show x_Ev 148 26 [.inr 162, .inl (w), .inl (s), .inl (M 163 (970 + 12 * s + t)), .inl (t)] [] (0, 0) (z, P, M) _
            refine e_iinc (w := 1 + t) (k := 26) (xi148 26) rfl (x_wn (by omega)) ?_
            show x_Ev 148 27 [.inr 162, .inl (w), .inl (s), .inl (M 163 (970 + 12 * s + t)), .inl (1 + t)] [] (0, 0) (z, P, M) _
            refine e_goto (k := 27) (xi148 27) ?_
            rw [(show l_m_enough_a w s M (k + 1) le t = l_m_enough_a w s M k (M 163 (970 + 12 * s + t)) (1 + t) from by rw [l_m_enough_a, if_neg c0, if_neg c1, if_neg c2, if_neg c3])] at kk
            exact ih (M 163 (970 + 12 * s + t)) (1 + t) (by omega) (by omega) kk
def v_m_enough (w s : Int) (M : Int → Int → Int) : Int := if (l_m_enough_a w s M 13 ((-1)) 0).1 < 0 then 1 else if x_w (v_m_falls (M 163 (1114 + 8 * w)) M * ((l_m_enough_a w s M 13 ((-1)) 0).1)) ≤ M 163 (1115 + 8 * w) then 1 else if (M 163 (1114 + 8 * w)) = 1 ∨ (M 163 (1114 + 8 * w)) = 2 then 0 else 1
theorem k_m_enough {z : Int} {P M : Int → Int → Int} (hS : x_Sh z P) (hT : y_TC M) (w : Int) (s : Int)  (hw : 0 ≤ w ∧ w < 60) (hs : 0 ≤ s ∧ s < 12) : x_CallR 148 [.inr 162, .inl (w), .inl (s)] (z, P, M) (fun q => q = (some (.inl (v_m_enough w s M)), (z, P, M)) ∧ (fun v => 0 ≤ v ∧ v ≤ 1) (v_m_enough w s M)) := by
  refine e_body (ls0 := [.inr 162, .inl (w), .inl (s), x_un, x_un]) xm148 rfl ?_
  refine e_iconst (k := 0) (xi148 0) ?_
  refine e_istore (k := 1) (xi148 1) (Nat.le_of_ble_eq_true rfl) ?_
  show x_Ev 148 2 [.inr 162, .inl (w), .inl (s), .inl ((-1)), x_un] [] (0, 0) (z, P, M) _
  refine e_iconst (k := 2) (xi148 2) ?_
  refine e_istore (k := 3) (xi148 3) (Nat.le_of_ble_eq_true rfl) ?_
  show x_Ev 148 4 [.inr 162, .inl (w), .inl (s), .inl ((-1)), .inl 0] [] (0, 0) (z, P, M) _
  refine kl_m_enough_a hS hT w s    (by omega) (by omega) 13 ((-1)) 0 (by omega) (by omega) ?_
  intro q2
  show x_Ev 148 28 [.inr 162, .inl (w), .inl (s), .inl ((l_m_enough_a w s M 13 ((-1)) 0).1), .inl ((l_m_enough_a w s M 13 ((-1)) 0).2)] [] (0, 0) (z, P, M) _
  refine e_iload (k := 28) (xi148 28) rfl ?_
  refine e_z_lt (k := 29) (xi148 29) (fun c0 => ?_) (fun c0 => ?_)
  · skip
    refine e_iconst (k := 49) (xi148 49) ?_
    refine e_goto (k := 50) (xi148 50) ?_
    refine e_zret (k := 52) (xi148 52) (by first | decide | omega) ?_
    exact y_fV (Q := fun v => 0 ≤ v ∧ v ≤ 1) (show v_m_enough w s M = 1 from by rw [v_m_enough, if_pos c0]) (by omega)
  · skip
    refine e_aload (k := 30) (xi148 30) rfl (by decide) ?_
    refine e_iload (k := 31) (xi148 31) rfl ?_
    refine e_iconst (k := 32) (xi148 32) ?_
    have t3 := ty_aW1 hT (i := 1115 + 8 * w) (w := w) (by omega) (by omega)
    refine e_call (k := 33) (v := some (.inl (M 163 (1115 + 8 * w)))) (h1 := (z, P, M)) (c1 := 0) (c2 := 0) (rest := []) (as := [.inr 162, .inl (w), .inl 1]) (xi148 33) (by decide) xm129 rfl ⟨rfl, Nat.le_of_ble_eq_true rfl, by decide⟩ (Or.inr (x_okt (ok_mo hS))) (k_mof hS hT w 1 (1115 + 8 * w) (by omega) (by omega) (by omega)) ?_
    refine e_aload (k := 34) (xi148 34) rfl (by decide) ?_
    refine e_aload (k := 35) (xi148 35) rfl (by decide) ?_
    refine e_iload (k := 36) (xi148 36) rfl ?_
    refine e_iconst (k := 37) (xi148 37) ?_
    have t4 := ty_aW0 hT (i := 1114 + 8 * w) (w := w) (by omega) (by omega)
    refine e_call (k := 38) (v := some (.inl (M 163 (1114 + 8 * w)))) (h1 := (z, P, M)) (c1 := 0) (c2 := 0) (rest := [.inr 162, .inl (M 163 (1115 + 8 * w))]) (as := [.inr 162, .inl (w), .inl 0]) (xi148 38) (by decide) xm129 rfl ⟨rfl, Nat.le_of_ble_eq_true rfl, by decide⟩ (Or.inr (x_okt (ok_mo hS))) (k_mof hS hT w 0 (1114 + 8 * w) (by omega) (by omega) (by omega)) ?_
    refine e_callR (k := 39) (c1 := 0) (c2 := 0) (rest := [.inl (M 163 (1115 + 8 * w))]) (as := [.inr 162, .inl (M 163 (1114 + 8 * w))]) (xi148 39) (by decide) xm147 rfl ⟨rfl, Nat.le_of_ble_eq_true rfl, by decide⟩ (Or.inr (x_okt (ok_mo hS))) (k_m_falls hS hT (M 163 (1114 + 8 * w))  ) ?_
    rintro v_ h_ ⟨e5, q7⟩
    cases e5
    show x_Ev 148 40 [.inr 162, .inl (w), .inl (s), .inl ((l_m_enough_a w s M 13 ((-1)) 0).1), .inl ((l_m_enough_a w s M 13 ((-1)) 0).2)] [.inl (v_m_falls (M 163 (1114 + 8 * w)) M), .inl (M 163 (1115 + 8 * w))] (0, 0) (z, P, M) _
    refine e_iload (k := 40) (xi148 40) rfl ?_
    refine e_imul (w := x_w (v_m_falls (M 163 (1114 + 8 * w)) M * ((l_m_enough_a w s M 13 ((-1)) 0).1))) (k := 41) (xi148 41) (x_wr (by omega)) ?_
    refine e_c_ge (k := 42) (xi148 42) (fun c1 => ?_) (fun c1 => ?_)
    · skip
      refine e_iconst (k := 49) (xi148 49) ?_
      refine e_goto (k := 50) (xi148 50) ?_
      refine e_zret (k := 52) (xi148 52) (by first | decide | omega) ?_
      exact y_fV (Q := fun v => 0 ≤ v ∧ v ≤ 1) (show v_m_enough w s M = 1 from by rw [v_m_enough, if_neg c0, if_pos c1]) (by omega)
    · skip
      refine e_aload (k := 43) (xi148 43) rfl (by decide) ?_
      refine e_iload (k := 44) (xi148 44) rfl ?_
      refine e_iconst (k := 45) (xi148 45) ?_
      refine e_call (k := 46) (v := some (.inl (M 163 (1114 + 8 * w)))) (h1 := (z, P, M)) (c1 := 0) (c2 := 0) (rest := []) (as := [.inr 162, .inl (w), .inl 0]) (xi148 46) (by decide) xm129 rfl ⟨rfl, Nat.le_of_ble_eq_true rfl, by decide⟩ (Or.inr (x_okt (ok_mo hS))) (k_mof hS hT w 0 (1114 + 8 * w) (by omega) (by omega) (by omega)) ?_
      refine e_call (k := 47) (v := some (.inl (x_b ((M 163 (1114 + 8 * w)) = 1 ∨ (M 163 (1114 + 8 * w)) = 2)))) (h1 := (z, P, M)) (c1 := 0) (c2 := 0) (rest := []) (as := [.inl (M 163 (1114 + 8 * w))]) (xi148 47) (by decide) xm138 rfl ⟨rfl, Nat.le_of_ble_eq_true rfl, by decide⟩ (Or.inl rfl) (k_mhasCharge hS hT (M 163 (1114 + 8 * w))  ) ?_
      refine e_b_ne (k := 48) (xi148 48) (fun c2 => ?_) (fun c2 => ?_)
      · skip
        refine e_iconst (k := 51) (xi148 51) ?_
        refine e_zret (k := 52) (xi148 52) (by first | decide | omega) ?_
        exact y_fV (Q := fun v => 0 ≤ v ∧ v ≤ 1) (show v_m_enough w s M = 0 from by rw [v_m_enough, if_neg c0, if_neg c1, if_pos c2]) (by omega)
      · skip
        refine e_iconst (k := 49) (xi148 49) ?_
        refine e_goto (k := 50) (xi148 50) ?_
        refine e_zret (k := 52) (xi148 52) (by first | decide | omega) ?_
        exact y_fV (Q := fun v => 0 ≤ v ∧ v ≤ 1) (show v_m_enough w s M = 1 from by rw [v_m_enough, if_neg c0, if_neg c1, if_neg c2]) (by omega)
def u_m_hired (w x : Int) (M : Int → Int → Int) : Int → Int → Int := (x_up ((x_up ((x_up ((x_up ((u_m_leaves w M)) 163 (1116 + 8 * w) 2)) 163 (1118 + 8 * w) ((-1)))) 163 (1119 + 8 * w) 0)) 163 (1121 + 8 * w) x)
theorem k_m_hired {z : Int} {P M : Int → Int → Int} (hS : x_Sh z P) (hT : y_TC M) (w : Int) (x : Int)  (hw : 0 ≤ w ∧ w < 60) (hx : -1 ≤ x ∧ x ≤ 59) : x_CallR 149 [.inr 162, .inl (w), .inl (x)] (z, P, M) (fun q => q = (none, (z, P, u_m_hired w x M)) ∧ y_TL 5 M (u_m_hired w x M)) := by
  have tl0 : y_TL 5 M M := tl_refl hT
  refine e_body (ls0 := [.inr 162, .inl (w), .inl (x)]) xm149 rfl ?_
  refine e_aload (k := 0) (xi149 0) rfl (by decide) ?_
  refine e_iload (k := 1) (xi149 1) rfl ?_
  refine e_callR (k := 2) (c1 := 0) (c2 := 0) (rest := []) (as := [.inr 162, .inl (w)]) (xi149 2) (by decide) xm137 rfl ⟨rfl, Nat.le_of_ble_eq_true rfl, by decide⟩ (Or.inr (x_okt (ok_mo hS))) (k_m_leaves hS tl0.1 w  (by omega)) ?_
  rintro v_ h_ ⟨e1, tl2⟩
  cases e1
  have tl4 := tl_trans tl0 (tl2)
  have n5 := tl_n5 tl2
  show x_Ev 149 3 [.inr 162, .inl (w), .inl (x)] [] (0, 0) (z, P, (u_m_leaves w M)) _
  refine e_aload (k := 3) (xi149 3) rfl (by decide) ?_
  refine e_iload (k := 4) (xi149 4) rfl ?_
  refine e_iconst (k := 5) (xi149 5) ?_
  refine e_iconst (k := 6) (xi149 6) ?_
  have tl6 : y_TL 5 M (x_up ((u_m_leaves w M)) 163 (1116 + 8 * w) 2) := tl_up tl4 (sl_aW2 (i := 1116 + 8 * w) (w := w) (by omega) (by omega) (by omega)) (nf5 (nf_aW2 (i := 1116 + 8 * w) (w := w) (by omega) (by omega)) (by omega))
  refine e_call (k := 7) (v := none) (h1 := (z, P, (x_up ((u_m_leaves w M)) 163 (1116 + 8 * w) 2))) (c1 := 0) (c2 := 0) (rest := []) (as := [.inr 162, .inl (w), .inl 2, .inl 2]) (xi149 7) (by decide) xm130 rfl ⟨rfl, Nat.le_of_ble_eq_true rfl, by decide⟩ (Or.inr (x_okt (ok_mo hS))) (k_msets hS w 2 2 (1116 + 8 * w) (by omega) (by omega) (by omega)) ?_
  refine e_aload (k := 8) (xi149 8) rfl (by decide) ?_
  refine e_iload (k := 9) (xi149 9) rfl ?_
  refine e_iconst (k := 10) (xi149 10) ?_
  refine e_iconst (k := 11) (xi149 11) ?_
  have tl7 : y_TL 5 M (x_up ((x_up ((u_m_leaves w M)) 163 (1116 + 8 * w) 2)) 163 (1118 + 8 * w) ((-1))) := tl_up tl6 (sl_aW4 (i := 1118 + 8 * w) (w := w) (by omega) (by omega) (by omega)) (nf5 (nf_aW4 (i := 1118 + 8 * w) (w := w) (by omega) (by omega)) (by omega))
  refine e_call (k := 12) (v := none) (h1 := (z, P, (x_up ((x_up ((u_m_leaves w M)) 163 (1116 + 8 * w) 2)) 163 (1118 + 8 * w) ((-1))))) (c1 := 0) (c2 := 0) (rest := []) (as := [.inr 162, .inl (w), .inl 4, .inl ((-1))]) (xi149 12) (by decide) xm130 rfl ⟨rfl, Nat.le_of_ble_eq_true rfl, by decide⟩ (Or.inr (x_okt (ok_mo hS))) (k_msets hS w 4 ((-1)) (1118 + 8 * w) (by omega) (by omega) (by omega)) ?_
  refine e_aload (k := 13) (xi149 13) rfl (by decide) ?_
  refine e_iload (k := 14) (xi149 14) rfl ?_
  refine e_iconst (k := 15) (xi149 15) ?_
  refine e_iconst (k := 16) (xi149 16) ?_
  have tl8 : y_TL 5 M (x_up ((x_up ((x_up ((u_m_leaves w M)) 163 (1116 + 8 * w) 2)) 163 (1118 + 8 * w) ((-1)))) 163 (1119 + 8 * w) 0) := tl_up tl7 (sl_aW5 (i := 1119 + 8 * w) (w := w) (by omega) (by omega)) (nf5 (nf_aW5 (i := 1119 + 8 * w) (w := w) (by omega) (by omega)) (by omega))
  refine e_call (k := 17) (v := none) (h1 := (z, P, (x_up ((x_up ((x_up ((u_m_leaves w M)) 163 (1116 + 8 * w) 2)) 163 (1118 + 8 * w) ((-1)))) 163 (1119 + 8 * w) 0))) (c1 := 0) (c2 := 0) (rest := []) (as := [.inr 162, .inl (w), .inl 5, .inl 0]) (xi149 17) (by decide) xm130 rfl ⟨rfl, Nat.le_of_ble_eq_true rfl, by decide⟩ (Or.inr (x_okt (ok_mo hS))) (k_msets hS w 5 0 (1119 + 8 * w) (by omega) (by omega) (by omega)) ?_
  refine e_aload (k := 18) (xi149 18) rfl (by decide) ?_
  refine e_iload (k := 19) (xi149 19) rfl ?_
  refine e_iconst (k := 20) (xi149 20) ?_
  refine e_iload (k := 21) (xi149 21) rfl ?_
  have tl9 : y_TL 5 M (x_up ((x_up ((x_up ((x_up ((u_m_leaves w M)) 163 (1116 + 8 * w) 2)) 163 (1118 + 8 * w) ((-1)))) 163 (1119 + 8 * w) 0)) 163 (1121 + 8 * w) x) := tl_up tl8 (sl_aW7 (i := 1121 + 8 * w) (w := w) (by omega) (by omega) (by omega)) (nf5 (nf_aW7 (i := 1121 + 8 * w) (w := w) (by omega) (by omega)) (by omega))
  refine e_call (k := 22) (v := none) (h1 := (z, P, (x_up ((x_up ((x_up ((x_up ((u_m_leaves w M)) 163 (1116 + 8 * w) 2)) 163 (1118 + 8 * w) ((-1)))) 163 (1119 + 8 * w) 0)) 163 (1121 + 8 * w) x))) (c1 := 0) (c2 := 0) (rest := []) (as := [.inr 162, .inl (w), .inl 7, .inl (x)]) (xi149 22) (by decide) xm130 rfl ⟨rfl, Nat.le_of_ble_eq_true rfl, by decide⟩ (Or.inr (x_okt (ok_mo hS))) (k_msets hS w 7 x (1121 + 8 * w) (by omega) (by omega) (by omega)) ?_
  refine e_vret (k := 23) (xi149 23) ?_
  exact y_fU (show u_m_hired w x M = (x_up ((x_up ((x_up ((x_up ((u_m_leaves w M)) 163 (1116 + 8 * w) 2)) 163 (1118 + 8 * w) ((-1)))) 163 (1119 + 8 * w) 0)) 163 (1121 + 8 * w) x) from rfl) tl9
def u_m_goes (w l : Int) (M : Int → Int → Int) : Int → Int → Int := if 0 ≤ M 163 (1115 + 8 * w) - v_m_falls (M 163 (1114 + 8 * w)) M * l then (x_up M 163 (1115 + 8 * w) (M 163 (1115 + 8 * w) - v_m_falls (M 163 (1114 + 8 * w)) M * l)) else (x_up M 163 (1115 + 8 * w) 0)
theorem k_m_goes {z : Int} {P M : Int → Int → Int} (hS : x_Sh z P) (hT : y_TC M) (w : Int) (l : Int)  (hw : 0 ≤ w ∧ w < 60) (hl : 0 ≤ l ∧ l ≤ 999) : x_CallR 151 [.inr 162, .inl (w), .inl (l)] (z, P, M) (fun q => q = (none, (z, P, u_m_goes w l M)) ∧ y_TL 5 M (u_m_goes w l M)) := by
  have tl0 : y_TL 5 M M := tl_refl hT
  have k1 := ty_aW1 hT (i := 1115 + 8 * w) (w := w) (by omega) (by omega)
  refine e_body (ls0 := [.inr 162, .inl (w), .inl (l), x_un]) xm151 rfl ?_
  refine e_aload (k := 0) (xi151 0) rfl (by decide) ?_
  refine e_iload (k := 1) (xi151 1) rfl ?_
  refine e_iconst (k := 2) (xi151 2) ?_
  have t1 := ty_aW1 tl0.1 (i := 1115 + 8 * w) (w := w) (by omega) (by omega)
  refine e_call (k := 3) (v := some (.inl (M 163 (1115 + 8 * w)))) (h1 := (z, P, M)) (c1 := 0) (c2 := 0) (rest := []) (as := [.inr 162, .inl (w), .inl 1]) (xi151 3) (by decide) xm129 rfl ⟨rfl, Nat.le_of_ble_eq_true rfl, by decide⟩ (Or.inr (x_okt (ok_mo hS))) (k_mof hS tl0.1 w 1 (1115 + 8 * w) (by omega) (by omega) (by omega)) ?_
  refine e_aload (k := 4) (xi151 4) rfl (by decide) ?_
  refine e_aload (k := 5) (xi151 5) rfl (by decide) ?_
  refine e_iload (k := 6) (xi151 6) rfl ?_
  refine e_iconst (k := 7) (xi151 7) ?_
  have t2 := ty_aW0 tl0.1 (i := 1114 + 8 * w) (w := w) (by omega) (by omega)
  refine e_call (k := 8) (v := some (.inl (M 163 (1114 + 8 * w)))) (h1 := (z, P, M)) (c1 := 0) (c2 := 0) (rest := [.inr 162, .inl (M 163 (1115 + 8 * w))]) (as := [.inr 162, .inl (w), .inl 0]) (xi151 8) (by decide) xm129 rfl ⟨rfl, Nat.le_of_ble_eq_true rfl, by decide⟩ (Or.inr (x_okt (ok_mo hS))) (k_mof hS tl0.1 w 0 (1114 + 8 * w) (by omega) (by omega) (by omega)) ?_
  refine e_callR (k := 9) (c1 := 0) (c2 := 0) (rest := [.inl (M 163 (1115 + 8 * w))]) (as := [.inr 162, .inl (M 163 (1114 + 8 * w))]) (xi151 9) (by decide) xm147 rfl ⟨rfl, Nat.le_of_ble_eq_true rfl, by decide⟩ (Or.inr (x_okt (ok_mo hS))) (k_m_falls hS tl0.1 (M 163 (1114 + 8 * w))  ) ?_
  rintro v_ h_ ⟨e3, q5⟩
  cases e3
  show x_Ev 151 10 [.inr 162, .inl (w), .inl (l), x_un] [.inl (v_m_falls (M 163 (1114 + 8 * w)) M), .inl (M 163 (1115 + 8 * w))] (0, 0) (z, P, M) _
  refine e_iload (k := 10) (xi151 10) rfl ?_
  have m6 := y_mul_in (f := v_m_falls (M 163 (1114 + 8 * w)) M) (l := l) (by omega) (by omega)
  refine e_imul (w := v_m_falls (M 163 (1114 + 8 * w)) M * l) (k := 11) (xi151 11) (x_wn (by omega)) ?_
  refine e_isub (w := M 163 (1115 + 8 * w) - v_m_falls (M 163 (1114 + 8 * w)) M * l) (k := 12) (xi151 12) (x_wn (by omega)) ?_
  refine e_istore (k := 13) (xi151 13) (Nat.le_of_ble_eq_true rfl) ?_
  show x_Ev 151 14 [.inr 162, .inl (w), .inl (l), .inl (M 163 (1115 + 8 * w) - v_m_falls (M 163 (1114 + 8 * w)) M * l)] [] (0, 0) (z, P, M) _
  refine e_aload (k := 14) (xi151 14) rfl (by decide) ?_
  refine e_iload (k := 15) (xi151 15) rfl ?_
  refine e_iconst (k := 16) (xi151 16) ?_
  refine e_iload (k := 17) (xi151 17) rfl ?_
  refine e_z_ge (k := 18) (xi151 18) (fun c0 => ?_) (fun c0 => ?_)
  · skip
    refine e_iload (k := 21) (xi151 21) rfl ?_
    have tl7 : y_TL 5 M (x_up M 163 (1115 + 8 * w) (M 163 (1115 + 8 * w) - v_m_falls (M 163 (1114 + 8 * w)) M * l)) := tl_up tl0 (sl_aW1 (i := 1115 + 8 * w) (w := w) (by omega) (by omega) (by omega)) (nf5 (nf_aW1 (i := 1115 + 8 * w) (w := w) (by omega) (by omega)) (by omega))
    refine e_call (k := 22) (v := none) (h1 := (z, P, (x_up M 163 (1115 + 8 * w) (M 163 (1115 + 8 * w) - v_m_falls (M 163 (1114 + 8 * w)) M * l)))) (c1 := 0) (c2 := 0) (rest := []) (as := [.inr 162, .inl (w), .inl 1, .inl (M 163 (1115 + 8 * w) - v_m_falls (M 163 (1114 + 8 * w)) M * l)]) (xi151 22) (by decide) xm130 rfl ⟨rfl, Nat.le_of_ble_eq_true rfl, by decide⟩ (Or.inr (x_okt (ok_mo hS))) (k_msets hS w 1 (M 163 (1115 + 8 * w) - v_m_falls (M 163 (1114 + 8 * w)) M * l) (1115 + 8 * w) (by omega) (by omega) (by omega)) ?_
    refine e_vret (k := 23) (xi151 23) ?_
    exact y_fU (show u_m_goes w l M = (x_up M 163 (1115 + 8 * w) (M 163 (1115 + 8 * w) - v_m_falls (M 163 (1114 + 8 * w)) M * l)) from by rw [u_m_goes, if_pos c0]) tl7
  · skip
    refine e_iconst (k := 19) (xi151 19) ?_
    refine e_goto (k := 20) (xi151 20) ?_
    have tl8 : y_TL 5 M (x_up M 163 (1115 + 8 * w) 0) := tl_up tl0 (sl_aW1 (i := 1115 + 8 * w) (w := w) (by omega) (by omega) (by omega)) (nf5 (nf_aW1 (i := 1115 + 8 * w) (w := w) (by omega) (by omega)) (by omega))
    refine e_call (k := 22) (v := none) (h1 := (z, P, (x_up M 163 (1115 + 8 * w) 0))) (c1 := 0) (c2 := 0) (rest := []) (as := [.inr 162, .inl (w), .inl 1, .inl 0]) (xi151 22) (by decide) xm130 rfl ⟨rfl, Nat.le_of_ble_eq_true rfl, by decide⟩ (Or.inr (x_okt (ok_mo hS))) (k_msets hS w 1 0 (1115 + 8 * w) (by omega) (by omega) (by omega)) ?_
    refine e_vret (k := 23) (xi151 23) ?_
    exact y_fU (show u_m_goes w l M = (x_up M 163 (1115 + 8 * w) 0) from by rw [u_m_goes, if_neg c0]) tl8
def u_m_streets (w s : Int) (M : Int → Int → Int) : Int → Int → Int := (x_up ((x_up ((x_up M 163 (1116 + 8 * w) 3)) 163 (1117 + 8 * w) s)) 163 (1118 + 8 * w) ((-1)))
theorem k_m_streets {z : Int} {P M : Int → Int → Int} (hS : x_Sh z P) (hT : y_TC M) (w : Int) (s : Int)  (hw : 0 ≤ w ∧ w < 60) (hs : 0 ≤ s ∧ s < 12) : x_CallR 153 [.inr 162, .inl (w), .inl (s)] (z, P, M) (fun q => q = (none, (z, P, u_m_streets w s M)) ∧ y_TL 5 M (u_m_streets w s M)) := by
  have tl0 : y_TL 5 M M := tl_refl hT
  refine e_body (ls0 := [.inr 162, .inl (w), .inl (s)]) xm153 rfl ?_
  refine e_aload (k := 0) (xi153 0) rfl (by decide) ?_
  refine e_iload (k := 1) (xi153 1) rfl ?_
  refine e_iconst (k := 2) (xi153 2) ?_
  refine e_iconst (k := 3) (xi153 3) ?_
  have tl1 : y_TL 5 M (x_up M 163 (1116 + 8 * w) 3) := tl_up tl0 (sl_aW2 (i := 1116 + 8 * w) (w := w) (by omega) (by omega) (by omega)) (nf5 (nf_aW2 (i := 1116 + 8 * w) (w := w) (by omega) (by omega)) (by omega))
  refine e_call (k := 4) (v := none) (h1 := (z, P, (x_up M 163 (1116 + 8 * w) 3))) (c1 := 0) (c2 := 0) (rest := []) (as := [.inr 162, .inl (w), .inl 2, .inl 3]) (xi153 4) (by decide) xm130 rfl ⟨rfl, Nat.le_of_ble_eq_true rfl, by decide⟩ (Or.inr (x_okt (ok_mo hS))) (k_msets hS w 2 3 (1116 + 8 * w) (by omega) (by omega) (by omega)) ?_
  refine e_aload (k := 5) (xi153 5) rfl (by decide) ?_
  refine e_iload (k := 6) (xi153 6) rfl ?_
  refine e_iconst (k := 7) (xi153 7) ?_
  refine e_iload (k := 8) (xi153 8) rfl ?_
  have tl2 : y_TL 5 M (x_up ((x_up M 163 (1116 + 8 * w) 3)) 163 (1117 + 8 * w) s) := tl_up tl1 (sl_aW3 (i := 1117 + 8 * w) (w := w) (by omega) (by omega) (by omega)) (nf5 (nf_aW3 (i := 1117 + 8 * w) (w := w) (by omega) (by omega)) (by omega))
  refine e_call (k := 9) (v := none) (h1 := (z, P, (x_up ((x_up M 163 (1116 + 8 * w) 3)) 163 (1117 + 8 * w) s))) (c1 := 0) (c2 := 0) (rest := []) (as := [.inr 162, .inl (w), .inl 3, .inl (s)]) (xi153 9) (by decide) xm130 rfl ⟨rfl, Nat.le_of_ble_eq_true rfl, by decide⟩ (Or.inr (x_okt (ok_mo hS))) (k_msets hS w 3 s (1117 + 8 * w) (by omega) (by omega) (by omega)) ?_
  refine e_aload (k := 10) (xi153 10) rfl (by decide) ?_
  refine e_iload (k := 11) (xi153 11) rfl ?_
  refine e_iconst (k := 12) (xi153 12) ?_
  refine e_iconst (k := 13) (xi153 13) ?_
  have tl3 : y_TL 5 M (x_up ((x_up ((x_up M 163 (1116 + 8 * w) 3)) 163 (1117 + 8 * w) s)) 163 (1118 + 8 * w) ((-1))) := tl_up tl2 (sl_aW4 (i := 1118 + 8 * w) (w := w) (by omega) (by omega) (by omega)) (nf5 (nf_aW4 (i := 1118 + 8 * w) (w := w) (by omega) (by omega)) (by omega))
  refine e_call (k := 14) (v := none) (h1 := (z, P, (x_up ((x_up ((x_up M 163 (1116 + 8 * w) 3)) 163 (1117 + 8 * w) s)) 163 (1118 + 8 * w) ((-1))))) (c1 := 0) (c2 := 0) (rest := []) (as := [.inr 162, .inl (w), .inl 4, .inl ((-1))]) (xi153 14) (by decide) xm130 rfl ⟨rfl, Nat.le_of_ble_eq_true rfl, by decide⟩ (Or.inr (x_okt (ok_mo hS))) (k_msets hS w 4 ((-1)) (1118 + 8 * w) (by omega) (by omega) (by omega)) ?_
  refine e_vret (k := 15) (xi153 15) ?_
  exact y_fU (show u_m_streets w s M = (x_up ((x_up ((x_up M 163 (1116 + 8 * w) 3)) 163 (1117 + 8 * w) s)) 163 (1118 + 8 * w) ((-1))) from rfl) tl3
def v_m_arrives (w c s : Int) (M : Int → Int → Int) : Int := if 0 ≤ v_m_room (M 163 (1114 + 8 * w)) s M then (if 0 ≤ c then (if 0 ≤ v_m_room 3 s ((u_m_comes w s (v_m_room (M 163 (1114 + 8 * w)) s M) M)) then (if c < 0 then 1 else 1) else 0) else if c < 0 then 1 else 1) else 0
def u_m_arrives (w c s : Int) (M : Int → Int → Int) : Int → Int → Int := if 0 ≤ v_m_room (M 163 (1114 + 8 * w)) s M then (if 0 ≤ c then (if 0 ≤ v_m_room 3 s ((u_m_comes w s (v_m_room (M 163 (1114 + 8 * w)) s M) M)) then (if c < 0 then (u_m_comes w s (v_m_room (M 163 (1114 + 8 * w)) s M) M) else (u_m_comes c s (v_m_room 3 s ((u_m_comes w s (v_m_room (M 163 (1114 + 8 * w)) s M) M))) ((u_m_comes w s (v_m_room (M 163 (1114 + 8 * w)) s M) M)))) else (x_up ((x_up ((x_up ((u_m_leaves w ((u_m_comes w s (v_m_room (M 163 (1114 + 8 * w)) s M) M)))) 163 (1116 + 8 * w) 2)) 163 (1117 + 8 * w) (M 163 (1117 + 8 * w)))) 163 (1118 + 8 * w) ((-1)))) else if c < 0 then (u_m_comes w s (v_m_room (M 163 (1114 + 8 * w)) s M) M) else (u_m_comes c s 0 ((u_m_comes w s (v_m_room (M 163 (1114 + 8 * w)) s M) M)))) else M
theorem k_m_arrives {z : Int} {P M : Int → Int → Int} (hS : x_Sh z P) (hT : y_TC M) (w : Int) (c : Int) (s : Int)  (hw : 0 ≤ w ∧ w < 60) (hc : -1 ≤ c ∧ c ≤ 59) (hs : 0 ≤ s ∧ s < 12) : x_CallR 152 [.inr 162, .inl (w), .inl (c), .inl (s)] (z, P, M) (fun q => q = (some (.inl (v_m_arrives w c s M)), (z, P, u_m_arrives w c s M)) ∧ y_TL 5 M (u_m_arrives w c s M) ∧ (fun v => 0 ≤ v ∧ v ≤ 1) (v_m_arrives w c s M)) := by
  have tl0 : y_TL 5 M M := tl_refl hT
  refine e_body (ls0 := [.inr 162, .inl (w), .inl (c), .inl (s), x_un, x_un, x_un]) xm152 rfl ?_
  refine e_aload (k := 0) (xi152 0) rfl (by decide) ?_
  refine e_aload (k := 1) (xi152 1) rfl (by decide) ?_
  refine e_iload (k := 2) (xi152 2) rfl ?_
  refine e_iconst (k := 3) (xi152 3) ?_
  have t1 := ty_aW0 tl0.1 (i := 1114 + 8 * w) (w := w) (by omega) (by omega)
  refine e_call (k := 4) (v := some (.inl (M 163 (1114 + 8 * w)))) (h1 := (z, P, M)) (c1 := 0) (c2 := 0) (rest := [.inr 162]) (as := [.inr 162, .inl (w), .inl 0]) (xi152 4) (by decide) xm129 rfl ⟨rfl, Nat.le_of_ble_eq_true rfl, by decide⟩ (Or.inr (x_okt (ok_mo hS))) (k_mof hS tl0.1 w 0 (1114 + 8 * w) (by omega) (by omega) (by omega)) ?_
  refine e_iload (k := 5) (xi152 5) rfl ?_
  refine e_callR (k := 6) (c1 := 0) (c2 := 0) (rest := []) (as := [.inr 162, .inl (M 163 (1114 + 8 * w)), .inl (s)]) (xi152 6) (by decide) xm135 rfl ⟨rfl, Nat.le_of_ble_eq_true rfl, by decide⟩ (Or.inr (x_okt (ok_mo hS))) (k_m_room hS tl0.1 (M 163 (1114 + 8 * w)) s  (by omega)) ?_
  rintro v_ h_ ⟨e2, q4⟩
  cases e2
  show x_Ev 152 7 [.inr 162, .inl (w), .inl (c), .inl (s), x_un, x_un, x_un] [.inl (v_m_room (M 163 (1114 + 8 * w)) s M)] (0, 0) (z, P, M) _
  refine e_istore (k := 7) (xi152 7) (Nat.le_of_ble_eq_true rfl) ?_
  show x_Ev 152 8 [.inr 162, .inl (w), .inl (c), .inl (s), .inl (v_m_room (M 163 (1114 + 8 * w)) s M), x_un, x_un] [] (0, 0) (z, P, M) _
  refine e_iload (k := 8) (xi152 8) rfl ?_
  refine e_z_ge (k := 9) (xi152 9) (fun c0 => ?_) (fun c0 => ?_)
  · skip
    refine e_aload (k := 12) (xi152 12) rfl (by decide) ?_
    refine e_iload (k := 13) (xi152 13) rfl ?_
    refine e_iconst (k := 14) (xi152 14) ?_
    have t5 := ty_aW3 tl0.1 (i := 1117 + 8 * w) (w := w) (by omega) (by omega)
    refine e_call (k := 15) (v := some (.inl (M 163 (1117 + 8 * w)))) (h1 := (z, P, M)) (c1 := 0) (c2 := 0) (rest := []) (as := [.inr 162, .inl (w), .inl 3]) (xi152 15) (by decide) xm129 rfl ⟨rfl, Nat.le_of_ble_eq_true rfl, by decide⟩ (Or.inr (x_okt (ok_mo hS))) (k_mof hS tl0.1 w 3 (1117 + 8 * w) (by omega) (by omega) (by omega)) ?_
    refine e_istore (k := 16) (xi152 16) (Nat.le_of_ble_eq_true rfl) ?_
    show x_Ev 152 17 [.inr 162, .inl (w), .inl (c), .inl (s), .inl (v_m_room (M 163 (1114 + 8 * w)) s M), .inl (M 163 (1117 + 8 * w)), x_un] [] (0, 0) (z, P, M) _
    refine e_aload (k := 17) (xi152 17) rfl (by decide) ?_
    refine e_iload (k := 18) (xi152 18) rfl ?_
    refine e_iload (k := 19) (xi152 19) rfl ?_
    refine e_iload (k := 20) (xi152 20) rfl ?_
    refine e_callR (k := 21) (c1 := 0) (c2 := 0) (rest := []) (as := [.inr 162, .inl (w), .inl (s), .inl (v_m_room (M 163 (1114 + 8 * w)) s M)]) (xi152 21) (by decide) xm136 rfl ⟨rfl, Nat.le_of_ble_eq_true rfl, by decide⟩ (Or.inr (x_okt (ok_mo hS))) (k_m_comes hS tl0.1 w s (v_m_room (M 163 (1114 + 8 * w)) s M)  (by omega) (by omega) (by omega)) ?_
    rintro v_ h_ ⟨e6, tl7⟩
    cases e6
    have tl9 := tl_trans tl0 (tl7)
    have n10 := tl_n5 tl7
    show x_Ev 152 22 [.inr 162, .inl (w), .inl (c), .inl (s), .inl (v_m_room (M 163 (1114 + 8 * w)) s M), .inl (M 163 (1117 + 8 * w)), x_un] [] (0, 0) (z, P, (u_m_comes w s (v_m_room (M 163 (1114 + 8 * w)) s M) M)) _
    refine e_iload (k := 22) (xi152 22) rfl ?_
    refine e_z_ge (k := 23) (xi152 23) (fun c1 => ?_) (fun c1 => ?_)
    · skip
      refine e_aload (k := 26) (xi152 26) rfl (by decide) ?_
      refine e_iconst (k := 27) (xi152 27) ?_
      refine e_iload (k := 28) (xi152 28) rfl ?_
      refine e_callR (k := 29) (c1 := 0) (c2 := 0) (rest := []) (as := [.inr 162, .inl 3, .inl (s)]) (xi152 29) (by decide) xm135 rfl ⟨rfl, Nat.le_of_ble_eq_true rfl, by decide⟩ (Or.inr (x_okt (ok_mo hS))) (k_m_room hS tl9.1 3 s  (by omega)) ?_
      rintro v_ h_ ⟨e11, q13⟩
      cases e11
      show x_Ev 152 30 [.inr 162, .inl (w), .inl (c), .inl (s), .inl (v_m_room (M 163 (1114 + 8 * w)) s M), .inl (M 163 (1117 + 8 * w)), x_un] [.inl (v_m_room 3 s ((u_m_comes w s (v_m_room (M 163 (1114 + 8 * w)) s M) M)))] (0, 0) (z, P, (u_m_comes w s (v_m_room (M 163 (1114 + 8 * w)) s M) M)) _
      refine e_istore (k := 30) (xi152 30) (Nat.le_of_ble_eq_true rfl) ?_
      show x_Ev 152 31 [.inr 162, .inl (w), .inl (c), .inl (s), .inl (v_m_room (M 163 (1114 + 8 * w)) s M), .inl (M 163 (1117 + 8 * w)), .inl (v_m_room 3 s ((u_m_comes w s (v_m_room (M 163 (1114 + 8 * w)) s M) M)))] [] (0, 0) (z, P, (u_m_comes w s (v_m_room (M 163 (1114 + 8 * w)) s M) M)) _
      refine e_iload (k := 31) (xi152 31) rfl ?_
      refine e_z_ge (k := 32) (xi152 32) (fun c2 => ?_) (fun c2 => ?_)
      · skip
        refine e_iload (k := 53) (xi152 53) rfl ?_
        refine e_z_lt (k := 54) (xi152 54) (fun c3 => ?_) (fun c3 => ?_)
        · skip
          refine e_iconst (k := 60) (xi152 60) ?_
          refine e_zret (k := 61) (xi152 61) (by first | decide | omega) ?_
          exact y_fW (Q := fun v => 0 ≤ v ∧ v ≤ 1) (show v_m_arrives w c s M = 1 from by rw [v_m_arrives, if_pos c0, if_pos c1, if_pos c2, if_pos c3]) (show u_m_arrives w c s M = (u_m_comes w s (v_m_room (M 163 (1114 + 8 * w)) s M) M) from by rw [u_m_arrives, if_pos c0, if_pos c1, if_pos c2, if_pos c3]) tl9 (by omega)
        · skip
          refine e_aload (k := 55) (xi152 55) rfl (by decide) ?_
          refine e_iload (k := 56) (xi152 56) rfl ?_
          refine e_iload (k := 57) (xi152 57) rfl ?_
          refine e_iload (k := 58) (xi152 58) rfl ?_
          refine e_callR (k := 59) (c1 := 0) (c2 := 0) (rest := []) (as := [.inr 162, .inl (c), .inl (s), .inl (v_m_room 3 s ((u_m_comes w s (v_m_room (M 163 (1114 + 8 * w)) s M) M)))]) (xi152 59) (by decide) xm136 rfl ⟨rfl, Nat.le_of_ble_eq_true rfl, by decide⟩ (Or.inr (x_okt (ok_mo hS))) (k_m_comes hS tl9.1 c s (v_m_room 3 s ((u_m_comes w s (v_m_room (M 163 (1114 + 8 * w)) s M) M)))  (by omega) (by omega) (by omega)) ?_
          rintro v_ h_ ⟨e14, tl15⟩
          cases e14
          have tl17 := tl_trans tl9 (tl15)
          have n18 := tl_n5 tl15
          show x_Ev 152 60 [.inr 162, .inl (w), .inl (c), .inl (s), .inl (v_m_room (M 163 (1114 + 8 * w)) s M), .inl (M 163 (1117 + 8 * w)), .inl (v_m_room 3 s ((u_m_comes w s (v_m_room (M 163 (1114 + 8 * w)) s M) M)))] [] (0, 0) (z, P, (u_m_comes c s (v_m_room 3 s ((u_m_comes w s (v_m_room (M 163 (1114 + 8 * w)) s M) M))) ((u_m_comes w s (v_m_room (M 163 (1114 + 8 * w)) s M) M)))) _
          refine e_iconst (k := 60) (xi152 60) ?_
          refine e_zret (k := 61) (xi152 61) (by first | decide | omega) ?_
          exact y_fW (Q := fun v => 0 ≤ v ∧ v ≤ 1) (show v_m_arrives w c s M = 1 from by rw [v_m_arrives, if_pos c0, if_pos c1, if_pos c2, if_neg c3]) (show u_m_arrives w c s M = (u_m_comes c s (v_m_room 3 s ((u_m_comes w s (v_m_room (M 163 (1114 + 8 * w)) s M) M))) ((u_m_comes w s (v_m_room (M 163 (1114 + 8 * w)) s M) M))) from by rw [u_m_arrives, if_pos c0, if_pos c1, if_pos c2, if_neg c3]) tl17 (by omega)
      · skip
        refine e_aload (k := 33) (xi152 33) rfl (by decide) ?_
        refine e_iload (k := 34) (xi152 34) rfl ?_
        refine e_callR (k := 35) (c1 := 0) (c2 := 0) (rest := []) (as := [.inr 162, .inl (w)]) (xi152 35) (by decide) xm137 rfl ⟨rfl, Nat.le_of_ble_eq_true rfl, by decide⟩ (Or.inr (x_okt (ok_mo hS))) (k_m_leaves hS tl9.1 w  (by omega)) ?_
        rintro v_ h_ ⟨e19, tl20⟩
        cases e19
        have tl22 := tl_trans tl9 (tl20)
        have n23 := tl_n5 tl20
        show x_Ev 152 36 [.inr 162, .inl (w), .inl (c), .inl (s), .inl (v_m_room (M 163 (1114 + 8 * w)) s M), .inl (M 163 (1117 + 8 * w)), .inl (v_m_room 3 s ((u_m_comes w s (v_m_room (M 163 (1114 + 8 * w)) s M) M)))] [] (0, 0) (z, P, (u_m_leaves w ((u_m_comes w s (v_m_room (M 163 (1114 + 8 * w)) s M) M)))) _
        refine e_aload (k := 36) (xi152 36) rfl (by decide) ?_
        refine e_iload (k := 37) (xi152 37) rfl ?_
        refine e_iconst (k := 38) (xi152 38) ?_
        refine e_iconst (k := 39) (xi152 39) ?_
        have tl24 : y_TL 5 M (x_up ((u_m_leaves w ((u_m_comes w s (v_m_room (M 163 (1114 + 8 * w)) s M) M)))) 163 (1116 + 8 * w) 2) := tl_up tl22 (sl_aW2 (i := 1116 + 8 * w) (w := w) (by omega) (by omega) (by omega)) (nf5 (nf_aW2 (i := 1116 + 8 * w) (w := w) (by omega) (by omega)) (by omega))
        refine e_call (k := 40) (v := none) (h1 := (z, P, (x_up ((u_m_leaves w ((u_m_comes w s (v_m_room (M 163 (1114 + 8 * w)) s M) M)))) 163 (1116 + 8 * w) 2))) (c1 := 0) (c2 := 0) (rest := []) (as := [.inr 162, .inl (w), .inl 2, .inl 2]) (xi152 40) (by decide) xm130 rfl ⟨rfl, Nat.le_of_ble_eq_true rfl, by decide⟩ (Or.inr (x_okt (ok_mo hS))) (k_msets hS w 2 2 (1116 + 8 * w) (by omega) (by omega) (by omega)) ?_
        refine e_aload (k := 41) (xi152 41) rfl (by decide) ?_
        refine e_iload (k := 42) (xi152 42) rfl ?_
        refine e_iconst (k := 43) (xi152 43) ?_
        refine e_iload (k := 44) (xi152 44) rfl ?_
        have tl25 : y_TL 5 M (x_up ((x_up ((u_m_leaves w ((u_m_comes w s (v_m_room (M 163 (1114 + 8 * w)) s M) M)))) 163 (1116 + 8 * w) 2)) 163 (1117 + 8 * w) (M 163 (1117 + 8 * w))) := tl_up tl24 (sl_aW3 (i := 1117 + 8 * w) (w := w) (by omega) (by omega) (by omega)) (nf5 (nf_aW3 (i := 1117 + 8 * w) (w := w) (by omega) (by omega)) (by omega))
        refine e_call (k := 45) (v := none) (h1 := (z, P, (x_up ((x_up ((u_m_leaves w ((u_m_comes w s (v_m_room (M 163 (1114 + 8 * w)) s M) M)))) 163 (1116 + 8 * w) 2)) 163 (1117 + 8 * w) (M 163 (1117 + 8 * w))))) (c1 := 0) (c2 := 0) (rest := []) (as := [.inr 162, .inl (w), .inl 3, .inl (M 163 (1117 + 8 * w))]) (xi152 45) (by decide) xm130 rfl ⟨rfl, Nat.le_of_ble_eq_true rfl, by decide⟩ (Or.inr (x_okt (ok_mo hS))) (k_msets hS w 3 (M 163 (1117 + 8 * w)) (1117 + 8 * w) (by omega) (by omega) (by omega)) ?_
        refine e_aload (k := 46) (xi152 46) rfl (by decide) ?_
        refine e_iload (k := 47) (xi152 47) rfl ?_
        refine e_iconst (k := 48) (xi152 48) ?_
        refine e_iconst (k := 49) (xi152 49) ?_
        have tl26 : y_TL 5 M (x_up ((x_up ((x_up ((u_m_leaves w ((u_m_comes w s (v_m_room (M 163 (1114 + 8 * w)) s M) M)))) 163 (1116 + 8 * w) 2)) 163 (1117 + 8 * w) (M 163 (1117 + 8 * w)))) 163 (1118 + 8 * w) ((-1))) := tl_up tl25 (sl_aW4 (i := 1118 + 8 * w) (w := w) (by omega) (by omega) (by omega)) (nf5 (nf_aW4 (i := 1118 + 8 * w) (w := w) (by omega) (by omega)) (by omega))
        refine e_call (k := 50) (v := none) (h1 := (z, P, (x_up ((x_up ((x_up ((u_m_leaves w ((u_m_comes w s (v_m_room (M 163 (1114 + 8 * w)) s M) M)))) 163 (1116 + 8 * w) 2)) 163 (1117 + 8 * w) (M 163 (1117 + 8 * w)))) 163 (1118 + 8 * w) ((-1))))) (c1 := 0) (c2 := 0) (rest := []) (as := [.inr 162, .inl (w), .inl 4, .inl ((-1))]) (xi152 50) (by decide) xm130 rfl ⟨rfl, Nat.le_of_ble_eq_true rfl, by decide⟩ (Or.inr (x_okt (ok_mo hS))) (k_msets hS w 4 ((-1)) (1118 + 8 * w) (by omega) (by omega) (by omega)) ?_
        refine e_iconst (k := 51) (xi152 51) ?_
        refine e_zret (k := 52) (xi152 52) (by first | decide | omega) ?_
        exact y_fW (Q := fun v => 0 ≤ v ∧ v ≤ 1) (show v_m_arrives w c s M = 0 from by rw [v_m_arrives, if_pos c0, if_pos c1, if_neg c2]) (show u_m_arrives w c s M = (x_up ((x_up ((x_up ((u_m_leaves w ((u_m_comes w s (v_m_room (M 163 (1114 + 8 * w)) s M) M)))) 163 (1116 + 8 * w) 2)) 163 (1117 + 8 * w) (M 163 (1117 + 8 * w)))) 163 (1118 + 8 * w) ((-1))) from by rw [u_m_arrives, if_pos c0, if_pos c1, if_neg c2]) tl26 (by omega)
    · skip
      refine e_iconst (k := 24) (xi152 24) ?_
      refine e_goto (k := 25) (xi152 25) ?_
      refine e_istore (k := 30) (xi152 30) (Nat.le_of_ble_eq_true rfl) ?_
      show x_Ev 152 31 [.inr 162, .inl (w), .inl (c), .inl (s), .inl (v_m_room (M 163 (1114 + 8 * w)) s M), .inl (M 163 (1117 + 8 * w)), .inl 0] [] (0, 0) (z, P, (u_m_comes w s (v_m_room (M 163 (1114 + 8 * w)) s M) M)) _
      refine e_iload (k := 31) (xi152 31) rfl ?_
      refine e_z_ge (k := 32) (xi152 32) (fun c4 => ?_) (fun q => absurd (by decide) q)
      refine e_iload (k := 53) (xi152 53) rfl ?_
      refine e_z_lt (k := 54) (xi152 54) (fun c5 => ?_) (fun c5 => ?_)
      · skip
        refine e_iconst (k := 60) (xi152 60) ?_
        refine e_zret (k := 61) (xi152 61) (by first | decide | omega) ?_
        exact y_fW (Q := fun v => 0 ≤ v ∧ v ≤ 1) (show v_m_arrives w c s M = 1 from by rw [v_m_arrives, if_pos c0, if_neg c1, if_pos c5]) (show u_m_arrives w c s M = (u_m_comes w s (v_m_room (M 163 (1114 + 8 * w)) s M) M) from by rw [u_m_arrives, if_pos c0, if_neg c1, if_pos c5]) tl9 (by omega)
      · skip
        refine e_aload (k := 55) (xi152 55) rfl (by decide) ?_
        refine e_iload (k := 56) (xi152 56) rfl ?_
        refine e_iload (k := 57) (xi152 57) rfl ?_
        refine e_iload (k := 58) (xi152 58) rfl ?_
        refine e_callR (k := 59) (c1 := 0) (c2 := 0) (rest := []) (as := [.inr 162, .inl (c), .inl (s), .inl 0]) (xi152 59) (by decide) xm136 rfl ⟨rfl, Nat.le_of_ble_eq_true rfl, by decide⟩ (Or.inr (x_okt (ok_mo hS))) (k_m_comes hS tl9.1 c s 0  (by omega) (by omega) (by omega)) ?_
        rintro v_ h_ ⟨e27, tl28⟩
        cases e27
        have tl30 := tl_trans tl9 (tl28)
        have n31 := tl_n5 tl28
        show x_Ev 152 60 [.inr 162, .inl (w), .inl (c), .inl (s), .inl (v_m_room (M 163 (1114 + 8 * w)) s M), .inl (M 163 (1117 + 8 * w)), .inl 0] [] (0, 0) (z, P, (u_m_comes c s 0 ((u_m_comes w s (v_m_room (M 163 (1114 + 8 * w)) s M) M)))) _
        refine e_iconst (k := 60) (xi152 60) ?_
        refine e_zret (k := 61) (xi152 61) (by first | decide | omega) ?_
        exact y_fW (Q := fun v => 0 ≤ v ∧ v ≤ 1) (show v_m_arrives w c s M = 1 from by rw [v_m_arrives, if_pos c0, if_neg c1, if_neg c5]) (show u_m_arrives w c s M = (u_m_comes c s 0 ((u_m_comes w s (v_m_room (M 163 (1114 + 8 * w)) s M) M))) from by rw [u_m_arrives, if_pos c0, if_neg c1, if_neg c5]) tl30 (by omega)
  · skip
    refine e_iconst (k := 10) (xi152 10) ?_
    refine e_zret (k := 11) (xi152 11) (by first | decide | omega) ?_
    exact y_fW (Q := fun v => 0 ≤ v ∧ v ≤ 1) (show v_m_arrives w c s M = 0 from by rw [v_m_arrives, if_neg c0]) (show u_m_arrives w c s M = M from by rw [u_m_arrives, if_neg c0]) tl0 (by omega)
end
