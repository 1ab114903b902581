section
-- ===== PART A: goes FIRST, ahead of the names: the tables' words, and 'selects' of the private methods out of them =====
/-- a private method of a class that the tables say can be made, by its rows of tables_1 -/
def lw_okq (q : MethodName × Nat) : Prop := (q.1.cls ≠ "java/lang/invoke/MethodHandle" ∧ q.1.cls ≠ "java/lang/invoke/VarHandle") ∧ Cond.instantiable q.1.cls q.2 ∈ tables_1 ∧ Cond.privateMethod q.1 ∈ tables_1 ∧ Cond.instanceMethod q.1 ∈ tables_1
theorem lw_p0 : lw_okq (⟨"DockingMonitor$History", "dropOldest", "()V"⟩, 2) := ⟨⟨by decide +kernel, by decide +kernel⟩, List.mem_of_getElem? (i := 154) (by decide +kernel), List.mem_of_getElem? (i := 218) (by decide +kernel), List.mem_of_getElem? (i := 219) (by decide +kernel)⟩
theorem lw_p1 : lw_okq (⟨"DockingMonitor$State", "enter", "(I)V"⟩, 14) := ⟨⟨by decide +kernel, by decide +kernel⟩, List.mem_of_getElem? (i := 19) (by decide +kernel), List.mem_of_getElem? (i := 245) (by decide +kernel), List.mem_of_getElem? (i := 246) (by decide +kernel)⟩
theorem lw_p2 : lw_okq (⟨"DockingMonitor$Profile", "indexFor", "(I)I"⟩, 3) := ⟨⟨by decide +kernel, by decide +kernel⟩, List.mem_of_getElem? (i := 31) (by decide +kernel), List.mem_of_getElem? (i := 293) (by decide +kernel), List.mem_of_getElem? (i := 294) (by decide +kernel)⟩
theorem lw_p3 : lw_okq (⟨"DockingMonitor", "actRecorded", "(II)I"⟩, 6) := ⟨⟨by decide +kernel, by decide +kernel⟩, List.mem_of_getElem? (i := 11) (by decide +kernel), List.mem_of_getElem? (i := 317) (by decide +kernel), List.mem_of_getElem? (i := 318) (by decide +kernel)⟩
theorem lw_p4 : lw_okq (⟨"DockingMonitor$State", "hasArrived", "()Z"⟩, 14) := ⟨⟨by decide +kernel, by decide +kernel⟩, List.mem_of_getElem? (i := 19) (by decide +kernel), List.mem_of_getElem? (i := 325) (by decide +kernel), List.mem_of_getElem? (i := 326) (by decide +kernel)⟩
theorem lw_p5 : lw_okq (⟨"DockingMonitor$State", "startApproach", "()V"⟩, 14) := ⟨⟨by decide +kernel, by decide +kernel⟩, List.mem_of_getElem? (i := 19) (by decide +kernel), List.mem_of_getElem? (i := 341) (by decide +kernel), List.mem_of_getElem? (i := 342) (by decide +kernel)⟩
theorem lw_p6 : lw_okq (⟨"DockingMonitor$State", "wantedSpeed", "()F"⟩, 14) := ⟨⟨by decide +kernel, by decide +kernel⟩, List.mem_of_getElem? (i := 19) (by decide +kernel), List.mem_of_getElem? (i := 358) (by decide +kernel), List.mem_of_getElem? (i := 359) (by decide +kernel)⟩
theorem lw_p7 : lw_okq (⟨"DockingMonitor$State", "accelerationAlong", "(F)F"⟩, 14) := ⟨⟨by decide +kernel, by decide +kernel⟩, List.mem_of_getElem? (i := 19) (by decide +kernel), List.mem_of_getElem? (i := 387) (by decide +kernel), List.mem_of_getElem? (i := 388) (by decide +kernel)⟩
theorem lw_p8 : lw_okq (⟨"DockingMonitor$State", "heldToGreatest", "(F)F"⟩, 14) := ⟨⟨by decide +kernel, by decide +kernel⟩, List.mem_of_getElem? (i := 19) (by decide +kernel), List.mem_of_getElem? (i := 391) (by decide +kernel), List.mem_of_getElem? (i := 392) (by decide +kernel)⟩
theorem lw_p9 : lw_okq (⟨"DockingMonitor$State", "accelerationAcross", "()F"⟩, 14) := ⟨⟨by decide +kernel, by decide +kernel⟩, List.mem_of_getElem? (i := 19) (by decide +kernel), List.mem_of_getElem? (i := 395) (by decide +kernel), List.mem_of_getElem? (i := 396) (by decide +kernel)⟩
theorem lw_p10 : lw_okq (⟨"DockingMonitor$State", "arrive", "()V"⟩, 14) := ⟨⟨by decide +kernel, by decide +kernel⟩, List.mem_of_getElem? (i := 19) (by decide +kernel), List.mem_of_getElem? (i := 400) (by decide +kernel), List.mem_of_getElem? (i := 401) (by decide +kernel)⟩
theorem lw_p11 : lw_okq (⟨"DockingMonitor$State", "holdAtStopReached", "()V"⟩, 14) := ⟨⟨by decide +kernel, by decide +kernel⟩, List.mem_of_getElem? (i := 19) (by decide +kernel), List.mem_of_getElem? (i := 411) (by decide +kernel), List.mem_of_getElem? (i := 412) (by decide +kernel)⟩
theorem lw_p12 : lw_okq (⟨"DockingMonitor$State", "hold", "(IF)V"⟩, 14) := ⟨⟨by decide +kernel, by decide +kernel⟩, List.mem_of_getElem? (i := 19) (by decide +kernel), List.mem_of_getElem? (i := 421) (by decide +kernel), List.mem_of_getElem? (i := 422) (by decide +kernel)⟩
theorem lw_p13 : lw_okq (⟨"DockingMonitor$State", "countStrikes", "(I)V"⟩, 14) := ⟨⟨by decide +kernel, by decide +kernel⟩, List.mem_of_getElem? (i := 19) (by decide +kernel), List.mem_of_getElem? (i := 425) (by decide +kernel), List.mem_of_getElem? (i := 426) (by decide +kernel)⟩
theorem lw_p14 : lw_okq (⟨"DockingMonitor$ActText", "digitsAt", "(I)I"⟩, 2) := ⟨⟨by decide +kernel, by decide +kernel⟩, List.mem_of_getElem? (i := 171) (by decide +kernel), List.mem_of_getElem? (i := 469) (by decide +kernel), List.mem_of_getElem? (i := 470) (by decide +kernel)⟩
theorem lw_p15 : lw_okq (⟨"DockingMonitor", "numberOfShip", "(I)F"⟩, 6) := ⟨⟨by decide +kernel, by decide +kernel⟩, List.mem_of_getElem? (i := 11) (by decide +kernel), List.mem_of_getElem? (i := 514) (by decide +kernel), List.mem_of_getElem? (i := 515) (by decide +kernel)⟩
def lw_privs_1 : List (MethodName × Nat) := [(⟨"DockingMonitor$History", "dropOldest", "()V"⟩, 2), (⟨"DockingMonitor$State", "enter", "(I)V"⟩, 14), (⟨"DockingMonitor$Profile", "indexFor", "(I)I"⟩, 3), (⟨"DockingMonitor", "actRecorded", "(II)I"⟩, 6), (⟨"DockingMonitor$State", "hasArrived", "()Z"⟩, 14), (⟨"DockingMonitor$State", "startApproach", "()V"⟩, 14), (⟨"DockingMonitor$State", "wantedSpeed", "()F"⟩, 14), (⟨"DockingMonitor$State", "accelerationAlong", "(F)F"⟩, 14), (⟨"DockingMonitor$State", "heldToGreatest", "(F)F"⟩, 14), (⟨"DockingMonitor$State", "accelerationAcross", "()F"⟩, 14), (⟨"DockingMonitor$State", "arrive", "()V"⟩, 14), (⟨"DockingMonitor$State", "holdAtStopReached", "()V"⟩, 14), (⟨"DockingMonitor$State", "hold", "(IF)V"⟩, 14), (⟨"DockingMonitor$State", "countStrikes", "(I)V"⟩, 14), (⟨"DockingMonitor$ActText", "digitsAt", "(I)I"⟩, 2), (⟨"DockingMonitor", "numberOfShip", "(I)F"⟩, 6)]
theorem lw_r1 : ∀ q ∈ lw_privs_1, lw_okq q := List.forall_mem_cons.mpr ⟨lw_p0, List.forall_mem_cons.mpr ⟨lw_p1, List.forall_mem_cons.mpr ⟨lw_p2, List.forall_mem_cons.mpr ⟨lw_p3, List.forall_mem_cons.mpr ⟨lw_p4, List.forall_mem_cons.mpr ⟨lw_p5, List.forall_mem_cons.mpr ⟨lw_p6, List.forall_mem_cons.mpr ⟨lw_p7, List.forall_mem_cons.mpr ⟨lw_p8, List.forall_mem_cons.mpr ⟨lw_p9, List.forall_mem_cons.mpr ⟨lw_p10, List.forall_mem_cons.mpr ⟨lw_p11, List.forall_mem_cons.mpr ⟨lw_p12, List.forall_mem_cons.mpr ⟨lw_p13, List.forall_mem_cons.mpr ⟨lw_p14, List.forall_mem_cons.mpr ⟨lw_p15, fun _ h => absurd h List.not_mem_nil⟩⟩⟩⟩⟩⟩⟩⟩⟩⟩⟩⟩⟩⟩⟩⟩
theorem lw_p16 : lw_okq (⟨"DockingMonitor", "settingAt", "(I)I"⟩, 6) := ⟨⟨by decide +kernel, by decide +kernel⟩, List.mem_of_getElem? (i := 11) (by decide +kernel), List.mem_of_getElem? (i := 555) (by decide +kernel), List.mem_of_getElem? (i := 556) (by decide +kernel)⟩
theorem lw_p17 : lw_okq (⟨"DockingMonitorModel", "brings", "(I)V"⟩, 11) := ⟨⟨by decide +kernel, by decide +kernel⟩, List.mem_of_getElem? (i := 582) (by decide +kernel), List.mem_of_getElem? (i := 628) (by decide +kernel), List.mem_of_getElem? (i := 629) (by decide +kernel)⟩
theorem lw_p18 : lw_okq (⟨"DockingMonitorModel", "keeps", "(I)V"⟩, 11) := ⟨⟨by decide +kernel, by decide +kernel⟩, List.mem_of_getElem? (i := 582) (by decide +kernel), List.mem_of_getElem? (i := 639) (by decide +kernel), List.mem_of_getElem? (i := 640) (by decide +kernel)⟩
theorem lw_p19 : lw_okq (⟨"DockingMonitorModel", "records", "()V"⟩, 11) := ⟨⟨by decide +kernel, by decide +kernel⟩, List.mem_of_getElem? (i := 582) (by decide +kernel), List.mem_of_getElem? (i := 647) (by decide +kernel), List.mem_of_getElem? (i := 648) (by decide +kernel)⟩
theorem lw_p20 : lw_okq (⟨"DockingMonitorModel", "judged", "()I"⟩, 11) := ⟨⟨by decide +kernel, by decide +kernel⟩, List.mem_of_getElem? (i := 582) (by decide +kernel), List.mem_of_getElem? (i := 664) (by decide +kernel), List.mem_of_getElem? (i := 665) (by decide +kernel)⟩
theorem lw_p21 : lw_okq (⟨"DockingMonitorModel", "isOff", "(FF)Z"⟩, 11) := ⟨⟨by decide +kernel, by decide +kernel⟩, List.mem_of_getElem? (i := 582) (by decide +kernel), List.mem_of_getElem? (i := 668) (by decide +kernel), List.mem_of_getElem? (i := 669) (by decide +kernel)⟩
theorem lw_p22 : lw_okq (⟨"DockingMonitorModel", "isTooFast", "(F)Z"⟩, 11) := ⟨⟨by decide +kernel, by decide +kernel⟩, List.mem_of_getElem? (i := 582) (by decide +kernel), List.mem_of_getElem? (i := 675) (by decide +kernel), List.mem_of_getElem? (i := 676) (by decide +kernel)⟩
theorem lw_p23 : lw_okq (⟨"DockingMonitorModel", "limitAt", "(F)F"⟩, 11) := ⟨⟨by decide +kernel, by decide +kernel⟩, List.mem_of_getElem? (i := 582) (by decide +kernel), List.mem_of_getElem? (i := 679) (by decide +kernel), List.mem_of_getElem? (i := 680) (by decide +kernel)⟩
theorem lw_p24 : lw_okq (⟨"DockingMonitorModel", "distanceOf", "(I)I"⟩, 11) := ⟨⟨by decide +kernel, by decide +kernel⟩, List.mem_of_getElem? (i := 582) (by decide +kernel), List.mem_of_getElem? (i := 684) (by decide +kernel), List.mem_of_getElem? (i := 685) (by decide +kernel)⟩
theorem lw_p25 : lw_okq (⟨"DockingMonitorModel", "speedOf", "(I)F"⟩, 11) := ⟨⟨by decide +kernel, by decide +kernel⟩, List.mem_of_getElem? (i := 582) (by decide +kernel), List.mem_of_getElem? (i := 688) (by decide +kernel), List.mem_of_getElem? (i := 689) (by decide +kernel)⟩
theorem lw_p26 : lw_okq (⟨"DockingMonitorModel", "isUnsafe", "(F)Z"⟩, 11) := ⟨⟨by decide +kernel, by decide +kernel⟩, List.mem_of_getElem? (i := 582) (by decide +kernel), List.mem_of_getElem? (i := 693) (by decide +kernel), List.mem_of_getElem? (i := 694) (by decide +kernel)⟩
theorem lw_p27 : lw_okq (⟨"DockingMonitorModel", "changesTo", "(I)I"⟩, 11) := ⟨⟨by decide +kernel, by decide +kernel⟩, List.mem_of_getElem? (i := 582) (by decide +kernel), List.mem_of_getElem? (i := 723) (by decide +kernel), List.mem_of_getElem? (i := 724) (by decide +kernel)⟩
theorem lw_p28 : lw_okq (⟨"DockingMonitorModel", "modeError", "(I)I"⟩, 11) := ⟨⟨by decide +kernel, by decide +kernel⟩, List.mem_of_getElem? (i := 582) (by decide +kernel), List.mem_of_getElem? (i := 727) (by decide +kernel), List.mem_of_getElem? (i := 728) (by decide +kernel)⟩
theorem lw_p29 : lw_okq (⟨"DockingMonitorModel", "becomes", "(I)I"⟩, 11) := ⟨⟨by decide +kernel, by decide +kernel⟩, List.mem_of_getElem? (i := 582) (by decide +kernel), List.mem_of_getElem? (i := 731) (by decide +kernel), List.mem_of_getElem? (i := 732) (by decide +kernel)⟩
theorem lw_p30 : lw_okq (⟨"DockingMonitorModel", "openError", "(I)I"⟩, 11) := ⟨⟨by decide +kernel, by decide +kernel⟩, List.mem_of_getElem? (i := 582) (by decide +kernel), List.mem_of_getElem? (i := 747) (by decide +kernel), List.mem_of_getElem? (i := 748) (by decide +kernel)⟩
theorem lw_p31 : lw_okq (⟨"DockingMonitorModel", "isClosed", "(I)Z"⟩, 11) := ⟨⟨by decide +kernel, by decide +kernel⟩, List.mem_of_getElem? (i := 582) (by decide +kernel), List.mem_of_getElem? (i := 751) (by decide +kernel), List.mem_of_getElem? (i := 752) (by decide +kernel)⟩
def lw_privs_2 : List (MethodName × Nat) := [(⟨"DockingMonitor", "settingAt", "(I)I"⟩, 6), (⟨"DockingMonitorModel", "brings", "(I)V"⟩, 11), (⟨"DockingMonitorModel", "keeps", "(I)V"⟩, 11), (⟨"DockingMonitorModel", "records", "()V"⟩, 11), (⟨"DockingMonitorModel", "judged", "()I"⟩, 11), (⟨"DockingMonitorModel", "isOff", "(FF)Z"⟩, 11), (⟨"DockingMonitorModel", "isTooFast", "(F)Z"⟩, 11), (⟨"DockingMonitorModel", "limitAt", "(F)F"⟩, 11), (⟨"DockingMonitorModel", "distanceOf", "(I)I"⟩, 11), (⟨"DockingMonitorModel", "speedOf", "(I)F"⟩, 11), (⟨"DockingMonitorModel", "isUnsafe", "(F)Z"⟩, 11), (⟨"DockingMonitorModel", "changesTo", "(I)I"⟩, 11), (⟨"DockingMonitorModel", "modeError", "(I)I"⟩, 11), (⟨"DockingMonitorModel", "becomes", "(I)I"⟩, 11), (⟨"DockingMonitorModel", "openError", "(I)I"⟩, 11), (⟨"DockingMonitorModel", "isClosed", "(I)Z"⟩, 11)]
theorem lw_r2 : ∀ q ∈ lw_privs_2, lw_okq q := List.forall_mem_cons.mpr ⟨lw_p16, List.forall_mem_cons.mpr ⟨lw_p17, List.forall_mem_cons.mpr ⟨lw_p18, List.forall_mem_cons.mpr ⟨lw_p19, List.forall_mem_cons.mpr ⟨lw_p20, List.forall_mem_cons.mpr ⟨lw_p21, List.forall_mem_cons.mpr ⟨lw_p22, List.forall_mem_cons.mpr ⟨lw_p23, List.forall_mem_cons.mpr ⟨lw_p24, List.forall_mem_cons.mpr ⟨lw_p25, List.forall_mem_cons.mpr ⟨lw_p26, List.forall_mem_cons.mpr ⟨lw_p27, List.forall_mem_cons.mpr ⟨lw_p28, List.forall_mem_cons.mpr ⟨lw_p29, List.forall_mem_cons.mpr ⟨lw_p30, List.forall_mem_cons.mpr ⟨lw_p31, fun _ h => absurd h List.not_mem_nil⟩⟩⟩⟩⟩⟩⟩⟩⟩⟩⟩⟩⟩⟩⟩⟩
theorem lw_p32 : lw_okq (⟨"DockingMonitorModel", "opens", "(I)I"⟩, 11) := ⟨⟨by decide +kernel, by decide +kernel⟩, List.mem_of_getElem? (i := 582) (by decide +kernel), List.mem_of_getElem? (i := 755) (by decide +kernel), List.mem_of_getElem? (i := 756) (by decide +kernel)⟩
theorem lw_p33 : lw_okq (⟨"DockingMonitorModel", "closed", "()I"⟩, 11) := ⟨⟨by decide +kernel, by decide +kernel⟩, List.mem_of_getElem? (i := 582) (by decide +kernel), List.mem_of_getElem? (i := 759) (by decide +kernel), List.mem_of_getElem? (i := 760) (by decide +kernel)⟩
theorem lw_p34 : lw_okq (⟨"DockingMonitorModel", "passes", "(I)I"⟩, 11) := ⟨⟨by decide +kernel, by decide +kernel⟩, List.mem_of_getElem? (i := 582) (by decide +kernel), List.mem_of_getElem? (i := 767) (by decide +kernel), List.mem_of_getElem? (i := 768) (by decide +kernel)⟩
theorem lw_p35 : lw_okq (⟨"DockingMonitorModel", "passesSecond", "()V"⟩, 11) := ⟨⟨by decide +kernel, by decide +kernel⟩, List.mem_of_getElem? (i := 582) (by decide +kernel), List.mem_of_getElem? (i := 771) (by decide +kernel), List.mem_of_getElem? (i := 772) (by decide +kernel)⟩
theorem lw_p36 : lw_okq (⟨"DockingMonitorModel", "moves", "(FF)V"⟩, 11) := ⟨⟨by decide +kernel, by decide +kernel⟩, List.mem_of_getElem? (i := 582) (by decide +kernel), List.mem_of_getElem? (i := 775) (by decide +kernel), List.mem_of_getElem? (i := 776) (by decide +kernel)⟩
theorem lw_p37 : lw_okq (⟨"DockingMonitorModel", "guides", "()V"⟩, 11) := ⟨⟨by decide +kernel, by decide +kernel⟩, List.mem_of_getElem? (i := 582) (by decide +kernel), List.mem_of_getElem? (i := 779) (by decide +kernel), List.mem_of_getElem? (i := 780) (by decide +kernel)⟩
theorem lw_p38 : lw_okq (⟨"DockingMonitorModel", "wanted", "()F"⟩, 11) := ⟨⟨by decide +kernel, by decide +kernel⟩, List.mem_of_getElem? (i := 582) (by decide +kernel), List.mem_of_getElem? (i := 783) (by decide +kernel), List.mem_of_getElem? (i := 784) (by decide +kernel)⟩
theorem lw_p39 : lw_okq (⟨"DockingMonitorModel", "measured", "(I)F"⟩, 11) := ⟨⟨by decide +kernel, by decide +kernel⟩, List.mem_of_getElem? (i := 582) (by decide +kernel), List.mem_of_getElem? (i := 787) (by decide +kernel), List.mem_of_getElem? (i := 788) (by decide +kernel)⟩
theorem lw_p40 : lw_okq (⟨"DockingMonitorModel", "stopAt", "(I)F"⟩, 11) := ⟨⟨by decide +kernel, by decide +kernel⟩, List.mem_of_getElem? (i := 582) (by decide +kernel), List.mem_of_getElem? (i := 791) (by decide +kernel), List.mem_of_getElem? (i := 792) (by decide +kernel)⟩
theorem lw_p41 : lw_okq (⟨"DockingMonitorModel", "nextStop", "()I"⟩, 11) := ⟨⟨by decide +kernel, by decide +kernel⟩, List.mem_of_getElem? (i := 582) (by decide +kernel), List.mem_of_getElem? (i := 796) (by decide +kernel), List.mem_of_getElem? (i := 797) (by decide +kernel)⟩
theorem lw_p42 : lw_okq (⟨"DockingMonitorModel", "arrives", "()V"⟩, 11) := ⟨⟨by decide +kernel, by decide +kernel⟩, List.mem_of_getElem? (i := 582) (by decide +kernel), List.mem_of_getElem? (i := 804) (by decide +kernel), List.mem_of_getElem? (i := 805) (by decide +kernel)⟩
theorem lw_p43 : lw_okq (⟨"DockingMonitorModel", "senses", "()V"⟩, 11) := ⟨⟨by decide +kernel, by decide +kernel⟩, List.mem_of_getElem? (i := 582) (by decide +kernel), List.mem_of_getElem? (i := 808) (by decide +kernel), List.mem_of_getElem? (i := 809) (by decide +kernel)⟩
theorem lw_p44 : lw_okq (⟨"DockingMonitorModel", "isSeen", "()Z"⟩, 11) := ⟨⟨by decide +kernel, by decide +kernel⟩, List.mem_of_getElem? (i := 582) (by decide +kernel), List.mem_of_getElem? (i := 812) (by decide +kernel), List.mem_of_getElem? (i := 813) (by decide +kernel)⟩
theorem lw_p45 : lw_okq (⟨"DockingMonitorModel", "stops", "()V"⟩, 11) := ⟨⟨by decide +kernel, by decide +kernel⟩, List.mem_of_getElem? (i := 582) (by decide +kernel), List.mem_of_getElem? (i := 817) (by decide +kernel), List.mem_of_getElem? (i := 818) (by decide +kernel)⟩
theorem lw_p46 : lw_okq (⟨"DockingMonitorModel", "judges", "()V"⟩, 11) := ⟨⟨by decide +kernel, by decide +kernel⟩, List.mem_of_getElem? (i := 582) (by decide +kernel), List.mem_of_getElem? (i := 822) (by decide +kernel), List.mem_of_getElem? (i := 823) (by decide +kernel)⟩
theorem lw_p47 : lw_okq (⟨"DockingMonitorModel", "passesAct", "()Z"⟩, 11) := ⟨⟨by decide +kernel, by decide +kernel⟩, List.mem_of_getElem? (i := 582) (by decide +kernel), List.mem_of_getElem? (i := 839) (by decide +kernel), List.mem_of_getElem? (i := 840) (by decide +kernel)⟩
def lw_privs_3 : List (MethodName × Nat) := [(⟨"DockingMonitorModel", "opens", "(I)I"⟩, 11), (⟨"DockingMonitorModel", "closed", "()I"⟩, 11), (⟨"DockingMonitorModel", "passes", "(I)I"⟩, 11), (⟨"DockingMonitorModel", "passesSecond", "()V"⟩, 11), (⟨"DockingMonitorModel", "moves", "(FF)V"⟩, 11), (⟨"DockingMonitorModel", "guides", "()V"⟩, 11), (⟨"DockingMonitorModel", "wanted", "()F"⟩, 11), (⟨"DockingMonitorModel", "measured", "(I)F"⟩, 11), (⟨"DockingMonitorModel", "stopAt", "(I)F"⟩, 11), (⟨"DockingMonitorModel", "nextStop", "()I"⟩, 11), (⟨"DockingMonitorModel", "arrives", "()V"⟩, 11), (⟨"DockingMonitorModel", "senses", "()V"⟩, 11), (⟨"DockingMonitorModel", "isSeen", "()Z"⟩, 11), (⟨"DockingMonitorModel", "stops", "()V"⟩, 11), (⟨"DockingMonitorModel", "judges", "()V"⟩, 11), (⟨"DockingMonitorModel", "passesAct", "()Z"⟩, 11)]
theorem lw_r3 : ∀ q ∈ lw_privs_3, lw_okq q := List.forall_mem_cons.mpr ⟨lw_p32, List.forall_mem_cons.mpr ⟨lw_p33, List.forall_mem_cons.mpr ⟨lw_p34, List.forall_mem_cons.mpr ⟨lw_p35, List.forall_mem_cons.mpr ⟨lw_p36, List.forall_mem_cons.mpr ⟨lw_p37, List.forall_mem_cons.mpr ⟨lw_p38, List.forall_mem_cons.mpr ⟨lw_p39, List.forall_mem_cons.mpr ⟨lw_p40, List.forall_mem_cons.mpr ⟨lw_p41, List.forall_mem_cons.mpr ⟨lw_p42, List.forall_mem_cons.mpr ⟨lw_p43, List.forall_mem_cons.mpr ⟨lw_p44, List.forall_mem_cons.mpr ⟨lw_p45, List.forall_mem_cons.mpr ⟨lw_p46, List.forall_mem_cons.mpr ⟨lw_p47, fun _ h => absurd h List.not_mem_nil⟩⟩⟩⟩⟩⟩⟩⟩⟩⟩⟩⟩⟩⟩⟩⟩
theorem lw_p48 : lw_okq (⟨"DockingMonitorModel", "passesNumber", "(II)Z"⟩, 11) := ⟨⟨by decide +kernel, by decide +kernel⟩, List.mem_of_getElem? (i := 582) (by decide +kernel), List.mem_of_getElem? (i := 843) (by decide +kernel), List.mem_of_getElem? (i := 844) (by decide +kernel)⟩
theorem lw_p49 : lw_okq (⟨"DockingMonitorModel", "isDigitHere", "()Z"⟩, 11) := ⟨⟨by decide +kernel, by decide +kernel⟩, List.mem_of_getElem? (i := 582) (by decide +kernel), List.mem_of_getElem? (i := 847) (by decide +kernel), List.mem_of_getElem? (i := 848) (by decide +kernel)⟩
theorem lw_p50 : lw_okq (⟨"DockingMonitorModel", "does", "()Z"⟩, 11) := ⟨⟨by decide +kernel, by decide +kernel⟩, List.mem_of_getElem? (i := 582) (by decide +kernel), List.mem_of_getElem? (i := 856) (by decide +kernel), List.mem_of_getElem? (i := 857) (by decide +kernel)⟩
theorem lw_p51 : lw_okq (⟨"DockingMonitorModel", "told", "(I)F"⟩, 11) := ⟨⟨by decide +kernel, by decide +kernel⟩, List.mem_of_getElem? (i := 582) (by decide +kernel), List.mem_of_getElem? (i := 864) (by decide +kernel), List.mem_of_getElem? (i := 865) (by decide +kernel)⟩
def lw_privs_4 : List (MethodName × Nat) := [(⟨"DockingMonitorModel", "passesNumber", "(II)Z"⟩, 11), (⟨"DockingMonitorModel", "isDigitHere", "()Z"⟩, 11), (⟨"DockingMonitorModel", "does", "()Z"⟩, 11), (⟨"DockingMonitorModel", "told", "(I)F"⟩, 11)]
theorem lw_r4 : ∀ q ∈ lw_privs_4, lw_okq q := List.forall_mem_cons.mpr ⟨lw_p48, List.forall_mem_cons.mpr ⟨lw_p49, List.forall_mem_cons.mpr ⟨lw_p50, List.forall_mem_cons.mpr ⟨lw_p51, fun _ h => absurd h List.not_mem_nil⟩⟩⟩⟩
def lw_privs : List (MethodName × Nat) := lw_privs_1 ++ (lw_privs_2 ++ (lw_privs_3 ++ (lw_privs_4)))
def lw_tbl : List Cond := k2_sels lw_privs ++ tables_1
theorem lw_privs_ok : ∀ q ∈ lw_privs, lw_okq q := by
  show ∀ q ∈ lw_privs_1 ++ (lw_privs_2 ++ (lw_privs_3 ++ (lw_privs_4))), lw_okq q
  exact List.forall_mem_append.mpr ⟨lw_r1, List.forall_mem_append.mpr ⟨lw_r2, List.forall_mem_append.mpr ⟨lw_r3, lw_r4⟩⟩⟩
/-- the streams that the claim lets the run draw from -/
abbrev lw_cs : List Choice := [Jvm.Choice.named "NaN.bits"]
theorem lw_bits : nanBits ∈ lw_cs := by first | decide | exact List.mem_cons_self | simp [lw_cs, nanBits]
-- ===== end of PART A; then your names; then what follows =====
end
section
/-! ===== BEGIN words of one list among another's, by their places ===== -/
theorem goodIn_r {big : List Cond} (ws : List Cond) (ps : List Nat) (hp : ws = ps.filterMap (fun i => big[i]?)) (h : ws.all goodWord = true) : GoodIn big ws := by
  intro w hw
  have h1 := List.all_eq_true.mp h w hw
  rw [hp] at hw
  obtain ⟨i, -, hi⟩ := List.mem_filterMap.mp hw
  have hm : w ∈ big := by first | exact List.mem_of_getElem? hi | exact List.getElem?_mem hi
  exact ⟨hm, good_of_word h1⟩
theorem goodIn_app {big a b : List Cond} (ha : GoodIn big a) (hb : GoodIn big b) : GoodIn big (a ++ b) := fun w h => (List.mem_append.mp h).elim (ha w) (hb w)
theorem goodIn_ca {big a b : List Cond} {c : Cond} (ha : GoodIn big (c :: a)) (hb : GoodIn big b) : GoodIn big (c :: (a ++ b)) := fun w h => (List.mem_cons.mp h).elim (fun e => ha w (List.mem_cons.mpr (Or.inl e))) (fun h => (List.mem_append.mp h).elim (fun h => ha w (List.mem_cons.mpr (Or.inr h))) (hb w))
theorem goodIn_sub {big ws : List Cond} (hm : ∀ w ∈ ws, w ∈ big) (h : ws.all goodWord = true) : GoodIn big ws := fun w hw => ⟨hm w hw, good_of_word (List.all_eq_true.mp h w hw)⟩
/-! ===== END ===== -/

/-! ===== BEGIN printed: names, fields, word lists, decode rows ===== -/
def RX0 : String := "DockingMonitor$ActText"
def TX0 : u_T := fun k => match k with
  | 0 => ("DockingMonitor$ActText", "length", "I", false)
  | _ => ("DockingMonitor$ActText", "bytes", "[B", true)
def tyX0 : Nat → FieldType := fun k => match k with
  | 0 => .int
  | _ => .array .byte
abbrev wsX00 : List Cond := u_ws RX0 TX0 2
theorem nmX0 : ∀ a, a < 2 → ∀ b, b < 2 → a ≠ b → (TX0 a).2.1 ≠ (TX0 b).2.1 := by decide +kernel
theorem tyX0_ok : ∀ k, k < 2 → parseFieldDescriptor (TX0 k).2.2.1 = some (tyX0 k) := by decide +kernel
abbrev cX0_init : ByteArray := prog_2_method_1_code
def yX0_init : MethodName := ⟨RX0, "<init>", "()V"⟩
abbrev cX0_byteAt : ByteArray := prog_2_method_2_code
def yX0_byteAt : MethodName := ⟨RX0, "byteAt", "(I)I"⟩
abbrev cX0_fault : ByteArray := prog_2_method_3_code
def yX0_fault : MethodName := ⟨RX0, "fault", "()I"⟩
abbrev cX0_behindAct : ByteArray := prog_2_method_4_code
def yX0_behindAct : MethodName := ⟨RX0, "behindAct", "(I)I"⟩
abbrev cX0_numberAt : ByteArray := prog_2_method_5_code
def yX0_numberAt : MethodName := ⟨RX0, "numberAt", "(I)I"⟩
abbrev cX0_digitsAt : ByteArray := prog_2_method_6_code
def yX0_digitsAt : MethodName := ⟨RX0, "digitsAt", "(I)I"⟩
abbrev cX0_isDigit : ByteArray := prog_2_method_7_code
def yX0_isDigit : MethodName := ⟨RX0, "isDigit", "(I)Z"⟩
abbrev cX0_isAct : ByteArray := prog_2_method_8_code
def yX0_isAct : MethodName := ⟨RX0, "isAct", "(I)Z"⟩
abbrev cX0_isInRange : ByteArray := prog_2_method_9_code
def yX0_isInRange : MethodName := ⟨RX0, "isInRange", "(II)Z"⟩
def RX1 : String := "DockingMonitor$History"
def TX1 : u_T := fun k => match k with
  | 0 => ("DockingMonitor$History", "count", "I", false)
  | _ => ("DockingMonitor$History", "rows", "[LDockingMonitor$State;", true)
def tyX1 : Nat → FieldType := fun k => match k with
  | 0 => .int
  | _ => .array (.object "DockingMonitor$State")
abbrev wsX10 : List Cond := u_ws RX1 TX1 2
theorem nmX1 : ∀ a, a < 2 → ∀ b, b < 2 → a ≠ b → (TX1 a).2.1 ≠ (TX1 b).2.1 := by decide +kernel
theorem tyX1_ok : ∀ k, k < 2 → parseFieldDescriptor (TX1 k).2.2.1 = some (tyX1 k) := by decide +kernel
abbrev cX1_init : ByteArray := prog_3_method_1_code
def yX1_init : MethodName := ⟨RX1, "<init>", "()V"⟩
abbrev cX1_keep : ByteArray := prog_3_method_2_code
def yX1_keep : MethodName := ⟨RX1, "keep", "(LDockingMonitor$State;)V"⟩
abbrev cX1_dropOldest : ByteArray := prog_3_method_3_code
def yX1_dropOldest : MethodName := ⟨RX1, "dropOldest", "()V"⟩
abbrev cX1_takeLatest : ByteArray := prog_3_method_4_code
def yX1_takeLatest : MethodName := ⟨RX1, "takeLatest", "(LDockingMonitor$State;)V"⟩
def RX2 : String := "DockingMonitor$Profile"
def TX2 : u_T := fun k => match k with
  | 0 => ("DockingMonitor$Profile", "count", "I", false)
  | 1 => ("DockingMonitor$Profile", "distances", "[I", true)
  | _ => ("DockingMonitor$Profile", "speeds", "[I", true)
def tyX2 : Nat → FieldType := fun k => match k with
  | 0 => .int
  | 1 => .array .int
  | _ => .array .int
abbrev wsX20 : List Cond := u_ws RX2 TX2 3
theorem nmX2 : ∀ a, a < 3 → ∀ b, b < 3 → a ≠ b → (TX2 a).2.1 ≠ (TX2 b).2.1 := by decide +kernel
theorem tyX2_ok : ∀ k, k < 3 → parseFieldDescriptor (TX2 k).2.2.1 = some (tyX2 k) := by decide +kernel
abbrev cX2_init : ByteArray := prog_4_method_1_code
def yX2_init : MethodName := ⟨RX2, "<init>", "()V"⟩
abbrev cX2_copyFrom : ByteArray := prog_4_method_2_code
def yX2_copyFrom : MethodName := ⟨RX2, "copyFrom", "(LDockingMonitor$Profile;)V"⟩
abbrev cX2_hasRoomFor : ByteArray := prog_4_method_3_code
def yX2_hasRoomFor : MethodName := ⟨RX2, "hasRoomFor", "(I)Z"⟩
abbrev cX2_put : ByteArray := prog_4_method_4_code
def yX2_put : MethodName := ⟨RX2, "put", "(II)V"⟩
abbrev cX2_indexFor : ByteArray := prog_4_method_5_code
def yX2_indexFor : MethodName := ⟨RX2, "indexFor", "(I)I"⟩
abbrev cX2_limitAt : ByteArray := prog_4_method_6_code
def yX2_limitAt : MethodName := ⟨RX2, "limitAt", "(F)F"⟩
def RX3 : String := "DockingMonitor$Sensors"
def TX3 : u_T := fun k => match k with
  | 0 => ("DockingMonitor$Sensors", "farBias", "I", false)
  | 1 => ("DockingMonitor$Sensors", "nearBias", "I", false)
  | 2 => ("DockingMonitor$Sensors", "nearInUse", "Z", false)
  | 3 => ("DockingMonitor$Sensors", "agreements", "I", false)
  | _ => ("DockingMonitor$Sensors", "changes", "I", false)
def tyX3 : Nat → FieldType := fun k => match k with
  | 0 => .int
  | 1 => .int
  | 2 => .boolean
  | 3 => .int
  | _ => .int
abbrev wsX30 : List Cond := u_ws RX3 TX3 5
theorem nmX3 : ∀ a, a < 5 → ∀ b, b < 5 → a ≠ b → (TX3 a).2.1 ≠ (TX3 b).2.1 := by decide +kernel
theorem tyX3_ok : ∀ k, k < 5 → parseFieldDescriptor (TX3 k).2.2.1 = some (tyX3 k) := by decide +kernel
abbrev cX3_init : ByteArray := prog_5_method_1_code
def yX3_init : MethodName := ⟨RX3, "<init>", "()V"⟩
abbrev cX3_copyFrom : ByteArray := prog_5_method_2_code
def yX3_copyFrom : MethodName := ⟨RX3, "copyFrom", "(LDockingMonitor$Sensors;)V"⟩
abbrev cX3_startFar : ByteArray := prog_5_method_3_code
def yX3_startFar : MethodName := ⟨RX3, "startFar", "()V"⟩
abbrev cX3_farMeasured : ByteArray := prog_5_method_4_code
def yX3_farMeasured : MethodName := ⟨RX3, "farMeasured", "(F)F"⟩
abbrev cX3_nearMeasured : ByteArray := prog_5_method_5_code
def yX3_nearMeasured : MethodName := ⟨RX3, "nearMeasured", "(F)F"⟩
abbrev cX3_measured : ByteArray := prog_5_method_6_code
def yX3_measured : MethodName := ⟨RX3, "measured", "(F)F"⟩
abbrev cX3_compare : ByteArray := prog_5_method_7_code
def yX3_compare : MethodName := ⟨RX3, "compare", "(F)V"⟩
def RX4 : String := "DockingMonitor$State"
def TX4 : u_T := fun k => match k with
  | 0 => ("DockingMonitor$State", "x", "F", false)
  | 1 => ("DockingMonitor$State", "y", "F", false)
  | 2 => ("DockingMonitor$State", "vx", "F", false)
  | 3 => ("DockingMonitor$State", "vy", "F", false)
  | 4 => ("DockingMonitor$State", "mode", "I", false)
  | 5 => ("DockingMonitor$State", "heldStop", "I", false)
  | 6 => ("DockingMonitor$State", "holdDistance", "F", false)
  | 7 => ("DockingMonitor$State", "strikes", "I", false)
  | 8 => ("DockingMonitor$State", "seconds", "I", false)
  | 9 => ("DockingMonitor$State", "judgedRetreats", "I", false)
  | 10 => ("DockingMonitor$State", "settings", "[I", true)
  | 11 => ("DockingMonitor$State", "profile", "LDockingMonitor$Profile;", true)
  | 12 => ("DockingMonitor$State", "stops", "LDockingMonitor$Stops;", true)
  | _ => ("DockingMonitor$State", "sensors", "LDockingMonitor$Sensors;", true)
def tyX4 : Nat → FieldType := fun k => match k with
  | 0 => .float
  | 1 => .float
  | 2 => .float
  | 3 => .float
  | 4 => .int
  | 5 => .int
  | 6 => .float
  | 7 => .int
  | 8 => .int
  | 9 => .int
  | 10 => .array .int
  | 11 => .object "DockingMonitor$Profile"
  | 12 => .object "DockingMonitor$Stops"
  | _ => .object "DockingMonitor$Sensors"
abbrev wsX40 : List Cond := u_ws RX4 TX4 14
theorem nmX4 : ∀ a, a < 14 → ∀ b, b < 14 → a ≠ b → (TX4 a).2.1 ≠ (TX4 b).2.1 := by decide +kernel
theorem tyX4_ok : ∀ k, k < 14 → parseFieldDescriptor (TX4 k).2.2.1 = some (tyX4 k) := by decide +kernel
abbrev cX4_init : ByteArray := prog_6_method_1_code
def yX4_init : MethodName := ⟨RX4, "<init>", "()V"⟩
abbrev cX4_copyFrom : ByteArray := prog_6_method_2_code
def yX4_copyFrom : MethodName := ⟨RX4, "copyFrom", "(LDockingMonitor$State;)V"⟩
abbrev cX4_putShip : ByteArray := prog_6_method_3_code
def yX4_putShip : MethodName := ⟨RX4, "putShip", "(FFFF)V"⟩
abbrev cX4_enter : ByteArray := prog_6_method_4_code
def yX4_enter : MethodName := ⟨RX4, "enter", "(I)V"⟩
abbrev cX4_startApproach : ByteArray := prog_6_method_5_code
def yX4_startApproach : MethodName := ⟨RX4, "startApproach", "()V"⟩
abbrev cX4_hold : ByteArray := prog_6_method_6_code
def yX4_hold : MethodName := ⟨RX4, "hold", "(IF)V"⟩
abbrev cX4_hasArrived : ByteArray := prog_6_method_7_code
def yX4_hasArrived : MethodName := ⟨RX4, "hasArrived", "()Z"⟩
abbrev cX4_errorOf : ByteArray := prog_6_method_8_code
def yX4_errorOf : MethodName := ⟨RX4, "errorOf", "(II)I"⟩
abbrev cX4_carryOut : ByteArray := prog_6_method_9_code
def yX4_carryOut : MethodName := ⟨RX4, "carryOut", "(II)I"⟩
abbrev cX4_passSecond : ByteArray := prog_6_method_10_code
def yX4_passSecond : MethodName := ⟨RX4, "passSecond", "()V"⟩
abbrev cX4_accelerationAlong : ByteArray := prog_6_method_11_code
def yX4_accelerationAlong : MethodName := ⟨RX4, "accelerationAlong", "(F)F"⟩
abbrev cX4_accelerationAcross : ByteArray := prog_6_method_12_code
def yX4_accelerationAcross : MethodName := ⟨RX4, "accelerationAcross", "()F"⟩
abbrev cX4_heldToGreatest : ByteArray := prog_6_method_13_code
def yX4_heldToGreatest : MethodName := ⟨RX4, "heldToGreatest", "(F)F"⟩
abbrev cX4_wantedSpeed : ByteArray := prog_6_method_14_code
def yX4_wantedSpeed : MethodName := ⟨RX4, "wantedSpeed", "()F"⟩
abbrev cX4_arrive : ByteArray := prog_6_method_15_code
def yX4_arrive : MethodName := ⟨RX4, "arrive", "()V"⟩
abbrev cX4_holdAtStopReached : ByteArray := prog_6_method_16_code
def yX4_holdAtStopReached : MethodName := ⟨RX4, "holdAtStopReached", "()V"⟩
abbrev cX4_countStrikes : ByteArray := prog_6_method_17_code
def yX4_countStrikes : MethodName := ⟨RX4, "countStrikes", "(I)V"⟩
abbrev cX4_judge : ByteArray := prog_6_method_18_code
def yX4_judge : MethodName := ⟨RX4, "judge", "()I"⟩
abbrev cX4_isTooFast : ByteArray := prog_6_method_19_code
def yX4_isTooFast : MethodName := ⟨RX4, "isTooFast", "(F)Z"⟩
abbrev cX4_hasUnsafeDrift : ByteArray := prog_6_method_20_code
def yX4_hasUnsafeDrift : MethodName := ⟨RX4, "hasUnsafeDrift", "(F)Z"⟩
abbrev cX4_leastSquare : ByteArray := prog_6_method_21_code
def yX4_leastSquare : MethodName := ⟨RX4, "leastSquare", "(I)F"⟩
def RX5 : String := "DockingMonitor$Stops"
def TX5 : u_T := fun k => match k with
  | 0 => ("DockingMonitor$Stops", "count", "I", false)
  | 1 => ("DockingMonitor$Stops", "distances", "[I", true)
  | _ => ("DockingMonitor$Stops", "opened", "[Z", true)
def tyX5 : Nat → FieldType := fun k => match k with
  | 0 => .int
  | 1 => .array .int
  | _ => .array .boolean
abbrev wsX50 : List Cond := u_ws RX5 TX5 3
theorem nmX5 : ∀ a, a < 3 → ∀ b, b < 3 → a ≠ b → (TX5 a).2.1 ≠ (TX5 b).2.1 := by decide +kernel
theorem tyX5_ok : ∀ k, k < 3 → parseFieldDescriptor (TX5 k).2.2.1 = some (tyX5 k) := by decide +kernel
abbrev cX5_init : ByteArray := prog_7_method_1_code
def yX5_init : MethodName := ⟨RX5, "<init>", "()V"⟩
abbrev cX5_copyFrom : ByteArray := prog_7_method_2_code
def yX5_copyFrom : MethodName := ⟨RX5, "copyFrom", "(LDockingMonitor$Stops;)V"⟩
abbrev cX5_has : ByteArray := prog_7_method_3_code
def yX5_has : MethodName := ⟨RX5, "has", "(I)Z"⟩
abbrev cX5_metres : ByteArray := prog_7_method_4_code
def yX5_metres : MethodName := ⟨RX5, "metres", "(I)F"⟩
abbrev cX5_addClosed : ByteArray := prog_7_method_5_code
def yX5_addClosed : MethodName := ⟨RX5, "addClosed", "(I)I"⟩
abbrev cX5_errorOfOpening : ByteArray := prog_7_method_6_code
def yX5_errorOfOpening : MethodName := ⟨RX5, "errorOfOpening", "(I)I"⟩
abbrev cX5_markOpen : ByteArray := prog_7_method_7_code
def yX5_markOpen : MethodName := ⟨RX5, "markOpen", "(I)V"⟩
abbrev cX5_countClosed : ByteArray := prog_7_method_8_code
def yX5_countClosed : MethodName := ⟨RX5, "countClosed", "()I"⟩
abbrev cX5_nextBelow : ByteArray := prog_7_method_9_code
def yX5_nextBelow : MethodName := ⟨RX5, "nextBelow", "(F)I"⟩
abbrev cX5_closedNear : ByteArray := prog_7_method_10_code
def yX5_closedNear : MethodName := ⟨RX5, "closedNear", "(F)I"⟩
def RX6 : String := "DockingMonitor"
def TX6 : u_T := fun k => match k with
  | 0 => ("DockingMonitor", "present", "LDockingMonitor$State;", true)
  | 1 => ("DockingMonitor", "forecast", "LDockingMonitor$State;", true)
  | 2 => ("DockingMonitor", "history", "LDockingMonitor$History;", true)
  | 3 => ("DockingMonitor", "slots", "[LDockingMonitor$State;", true)
  | 4 => ("DockingMonitor", "slotFilled", "[Z", true)
  | _ => ("DockingMonitor", "text", "LDockingMonitor$ActText;", true)
def tyX6 : Nat → FieldType := fun k => match k with
  | 0 => .object "DockingMonitor$State"
  | 1 => .object "DockingMonitor$State"
  | 2 => .object "DockingMonitor$History"
  | 3 => .array (.object "DockingMonitor$State")
  | 4 => .array .boolean
  | _ => .object "DockingMonitor$ActText"
abbrev wsX60 : List Cond := u_ws RX6 TX6 6
theorem nmX6 : ∀ a, a < 6 → ∀ b, b < 6 → a ≠ b → (TX6 a).2.1 ≠ (TX6 b).2.1 := by decide +kernel
theorem tyX6_ok : ∀ k, k < 6 → parseFieldDescriptor (TX6 k).2.2.1 = some (tyX6 k) := by decide +kernel
abbrev cX6_init : ByteArray := prog_1_method_1_code
def yX6_init : MethodName := ⟨RX6, "<init>", "()V"⟩
abbrev cX6_place : ByteArray := prog_1_method_2_code
def yX6_place : MethodName := ⟨RX6, "place", "(IIII)I"⟩
abbrev cX6_set : ByteArray := prog_1_method_3_code
def yX6_set : MethodName := ⟨RX6, "set", "(II)I"⟩
abbrev cX6_setPoint : ByteArray := prog_1_method_4_code
def yX6_setPoint : MethodName := ⟨RX6, "setPoint", "(II)I"⟩
abbrev cX6_addStop : ByteArray := prog_1_method_5_code
def yX6_addStop : MethodName := ⟨RX6, "addStop", "(I)I"⟩
abbrev cX6_setBias : ByteArray := prog_1_method_6_code
def yX6_setBias : MethodName := ⟨RX6, "setBias", "(ZI)I"⟩
abbrev cX6_approach : ByteArray := prog_1_method_7_code
def yX6_approach : MethodName := ⟨RX6, "approach", "()I"⟩
abbrev cX6_release : ByteArray := prog_1_method_8_code
def yX6_release : MethodName := ⟨RX6, "release", "()I"⟩
abbrev cX6_retreat : ByteArray := prog_1_method_9_code
def yX6_retreat : MethodName := ⟨RX6, "retreat", "()I"⟩
abbrev cX6_open : ByteArray := prog_1_method_10_code
def yX6_open : MethodName := ⟨RX6, "open", "(I)I"⟩
abbrev cX6_pass : ByteArray := prog_1_method_11_code
def yX6_pass : MethodName := ⟨RX6, "pass", "(I)I"⟩
abbrev cX6_append : ByteArray := prog_1_method_12_code
def yX6_append : MethodName := ⟨RX6, "append", "(I)I"⟩
abbrev cX6_clearText : ByteArray := prog_1_method_13_code
def yX6_clearText : MethodName := ⟨RX6, "clearText", "()I"⟩
abbrev cX6_faultPosition : ByteArray := prog_1_method_14_code
def yX6_faultPosition : MethodName := ⟨RX6, "faultPosition", "()I"⟩
abbrev cX6_run : ByteArray := prog_1_method_15_code
def yX6_run : MethodName := ⟨RX6, "run", "()I"⟩
abbrev cX6_undo : ByteArray := prog_1_method_16_code
def yX6_undo : MethodName := ⟨RX6, "undo", "()I"⟩
abbrev cX6_save : ByteArray := prog_1_method_17_code
def yX6_save : MethodName := ⟨RX6, "save", "(I)I"⟩
abbrev cX6_restore : ByteArray := prog_1_method_18_code
def yX6_restore : MethodName := ⟨RX6, "restore", "(I)I"⟩
abbrev cX6_bits : ByteArray := prog_1_method_19_code
def yX6_bits : MethodName := ⟨RX6, "bits", "(I)I"⟩
abbrev cX6_thousandths : ByteArray := prog_1_method_20_code
def yX6_thousandths : MethodName := ⟨RX6, "thousandths", "(I)I"⟩
abbrev cX6_limit : ByteArray := prog_1_method_21_code
def yX6_limit : MethodName := ⟨RX6, "limit", "(I)I"⟩
abbrev cX6_judgement : ByteArray := prog_1_method_22_code
def yX6_judgement : MethodName := ⟨RX6, "judgement", "()I"⟩
abbrev cX6_stop : ByteArray := prog_1_method_23_code
def yX6_stop : MethodName := ⟨RX6, "stop", "(II)I"⟩
abbrev cX6_point : ByteArray := prog_1_method_24_code
def yX6_point : MethodName := ⟨RX6, "point", "(II)I"⟩
abbrev cX6_total : ByteArray := prog_1_method_25_code
def yX6_total : MethodName := ⟨RX6, "total", "(I)I"⟩
abbrev cX6_modeIn : ByteArray := prog_1_method_26_code
def yX6_modeIn : MethodName := ⟨RX6, "modeIn", "(I)I"⟩
abbrev cX6_secondsTo : ByteArray := prog_1_method_27_code
def yX6_secondsTo : MethodName := ⟨RX6, "secondsTo", "(I)I"⟩
abbrev cX6_closest : ByteArray := prog_1_method_28_code
def yX6_closest : MethodName := ⟨RX6, "closest", "(I)I"⟩
abbrev cX6_safeSpeed : ByteArray := prog_1_method_29_code
def yX6_safeSpeed : MethodName := ⟨RX6, "safeSpeed", "()I"⟩
abbrev cX6_actRecorded : ByteArray := prog_1_method_30_code
def yX6_actRecorded : MethodName := ⟨RX6, "actRecorded", "(II)I"⟩
abbrev cX6_settingAt : ByteArray := prog_1_method_31_code
def yX6_settingAt : MethodName := ⟨RX6, "settingAt", "(I)I"⟩
abbrev cX6_numberOfShip : ByteArray := prog_1_method_32_code
def yX6_numberOfShip : MethodName := ⟨RX6, "numberOfShip", "(I)F"⟩
abbrev cX6_isBeyond : ByteArray := prog_1_method_33_code
def yX6_isBeyond : MethodName := ⟨RX6, "isBeyond", "(II)Z"⟩
abbrev cX6_size : ByteArray := prog_1_method_34_code
def yX6_size : MethodName := ⟨RX6, "size", "(F)F"⟩
abbrev cX6_bitsOf : ByteArray := prog_1_method_35_code
def yX6_bitsOf : MethodName := ⟨RX6, "bitsOf", "(F)I"⟩
def RX7 : String := "DockingMonitorModel"
def TX7 : u_T := fun k => match k with
  | 0 => ("DockingMonitorModel", "now", "[I", true)
  | 1 => ("DockingMonitorModel", "ship", "[F", true)
  | 2 => ("DockingMonitorModel", "kept", "[I", true)
  | 3 => ("DockingMonitorModel", "keptShip", "[F", true)
  | 4 => ("DockingMonitorModel", "isSaved", "[I", true)
  | 5 => ("DockingMonitorModel", "states", "I", false)
  | 6 => ("DockingMonitorModel", "text", "[I", true)
  | 7 => ("DockingMonitorModel", "length", "I", false)
  | 8 => ("DockingMonitorModel", "at", "I", false)
  | 9 => ("DockingMonitorModel", "number", "I", false)
  | _ => ("DockingMonitorModel", "act", "I", false)
def tyX7 : Nat → FieldType := fun k => match k with
  | 0 => .array .int
  | 1 => .array .float
  | 2 => .array .int
  | 3 => .array .float
  | 4 => .array .int
  | 5 => .int
  | 6 => .array .int
  | 7 => .int
  | 8 => .int
  | 9 => .int
  | _ => .int
abbrev wsX70 : List Cond := u_ws RX7 TX7 11
theorem nmX7 : ∀ a, a < 11 → ∀ b, b < 11 → a ≠ b → (TX7 a).2.1 ≠ (TX7 b).2.1 := by decide +kernel
theorem tyX7_ok : ∀ k, k < 11 → parseFieldDescriptor (TX7 k).2.2.1 = some (tyX7 k) := by decide +kernel
abbrev cX7_init : ByteArray := prog_9_method_1_code
def yX7_init : MethodName := ⟨RX7, "<init>", "()V"⟩
abbrev cX7_isIn : ByteArray := prog_9_method_2_code
def yX7_isIn : MethodName := ⟨RX7, "isIn", "(III)Z"⟩
abbrev cX7_metres : ByteArray := prog_9_method_3_code
def yX7_metres : MethodName := ⟨RX7, "metres", "(I)F"⟩
abbrev cX7_thousandth : ByteArray := prog_9_method_4_code
def yX7_thousandth : MethodName := ⟨RX7, "thousandth", "(I)F"⟩
abbrev cX7_sizeOf : ByteArray := prog_9_method_5_code
def yX7_sizeOf : MethodName := ⟨RX7, "sizeOf", "(F)F"⟩
abbrev cX7_held : ByteArray := prog_9_method_6_code
def yX7_held : MethodName := ⟨RX7, "held", "(FFF)F"⟩
abbrev cX7_keeps : ByteArray := prog_9_method_7_code
def yX7_keeps : MethodName := ⟨RX7, "keeps", "(I)V"⟩
abbrev cX7_brings : ByteArray := prog_9_method_8_code
def yX7_brings : MethodName := ⟨RX7, "brings", "(I)V"⟩
abbrev cX7_records : ByteArray := prog_9_method_9_code
def yX7_records : MethodName := ⟨RX7, "records", "()V"⟩
abbrev cX7_undo : ByteArray := prog_9_method_10_code
def yX7_undo : MethodName := ⟨RX7, "undo", "()I"⟩
abbrev cX7_save : ByteArray := prog_9_method_11_code
def yX7_save : MethodName := ⟨RX7, "save", "(I)I"⟩
abbrev cX7_restore : ByteArray := prog_9_method_12_code
def yX7_restore : MethodName := ⟨RX7, "restore", "(I)I"⟩
abbrev cX7_place : ByteArray := prog_9_method_13_code
def yX7_place : MethodName := ⟨RX7, "place", "(IIII)I"⟩
abbrev cX7_leastOf : ByteArray := prog_9_method_14_code
def yX7_leastOf : MethodName := ⟨RX7, "leastOf", "(I)I"⟩
abbrev cX7_mostOf : ByteArray := prog_9_method_15_code
def yX7_mostOf : MethodName := ⟨RX7, "mostOf", "(I)I"⟩
abbrev cX7_set : ByteArray := prog_9_method_16_code
def yX7_set : MethodName := ⟨RX7, "set", "(II)I"⟩
abbrev cX7_distanceOf : ByteArray := prog_9_method_17_code
def yX7_distanceOf : MethodName := ⟨RX7, "distanceOf", "(I)I"⟩
abbrev cX7_setPoint : ByteArray := prog_9_method_18_code
def yX7_setPoint : MethodName := ⟨RX7, "setPoint", "(II)I"⟩
abbrev cX7_addStop : ByteArray := prog_9_method_19_code
def yX7_addStop : MethodName := ⟨RX7, "addStop", "(I)I"⟩
abbrev cX7_setBias : ByteArray := prog_9_method_20_code
def yX7_setBias : MethodName := ⟨RX7, "setBias", "(ZI)I"⟩
abbrev cX7_speedOf : ByteArray := prog_9_method_21_code
def yX7_speedOf : MethodName := ⟨RX7, "speedOf", "(I)F"⟩
abbrev cX7_limitAt : ByteArray := prog_9_method_22_code
def yX7_limitAt : MethodName := ⟨RX7, "limitAt", "(F)F"⟩
abbrev cX7_isClosed : ByteArray := prog_9_method_23_code
def yX7_isClosed : MethodName := ⟨RX7, "isClosed", "(I)Z"⟩
abbrev cX7_stopAt : ByteArray := prog_9_method_24_code
def yX7_stopAt : MethodName := ⟨RX7, "stopAt", "(I)F"⟩
abbrev cX7_nextStop : ByteArray := prog_9_method_25_code
def yX7_nextStop : MethodName := ⟨RX7, "nextStop", "()I"⟩
abbrev cX7_measured : ByteArray := prog_9_method_26_code
def yX7_measured : MethodName := ⟨RX7, "measured", "(I)F"⟩
abbrev cX7_isSeen : ByteArray := prog_9_method_27_code
def yX7_isSeen : MethodName := ⟨RX7, "isSeen", "()Z"⟩
abbrev cX7_isOff : ByteArray := prog_9_method_28_code
def yX7_isOff : MethodName := ⟨RX7, "isOff", "(FF)Z"⟩
abbrev cX7_isTooFast : ByteArray := prog_9_method_29_code
def yX7_isTooFast : MethodName := ⟨RX7, "isTooFast", "(F)Z"⟩
abbrev cX7_isUnsafe : ByteArray := prog_9_method_30_code
def yX7_isUnsafe : MethodName := ⟨RX7, "isUnsafe", "(F)Z"⟩
abbrev cX7_judged : ByteArray := prog_9_method_31_code
def yX7_judged : MethodName := ⟨RX7, "judged", "()I"⟩
abbrev cX7_wanted : ByteArray := prog_9_method_32_code
def yX7_wanted : MethodName := ⟨RX7, "wanted", "()F"⟩
abbrev cX7_moves : ByteArray := prog_9_method_33_code
def yX7_moves : MethodName := ⟨RX7, "moves", "(FF)V"⟩
abbrev cX7_guides : ByteArray := prog_9_method_34_code
def yX7_guides : MethodName := ⟨RX7, "guides", "()V"⟩
abbrev cX7_arrives : ByteArray := prog_9_method_35_code
def yX7_arrives : MethodName := ⟨RX7, "arrives", "()V"⟩
abbrev cX7_senses : ByteArray := prog_9_method_36_code
def yX7_senses : MethodName := ⟨RX7, "senses", "()V"⟩
abbrev cX7_stops : ByteArray := prog_9_method_37_code
def yX7_stops : MethodName := ⟨RX7, "stops", "()V"⟩
abbrev cX7_judges : ByteArray := prog_9_method_38_code
def yX7_judges : MethodName := ⟨RX7, "judges", "()V"⟩
abbrev cX7_passesSecond : ByteArray := prog_9_method_39_code
def yX7_passesSecond : MethodName := ⟨RX7, "passesSecond", "()V"⟩
abbrev cX7_modeError : ByteArray := prog_9_method_40_code
def yX7_modeError : MethodName := ⟨RX7, "modeError", "(I)I"⟩
abbrev cX7_becomes : ByteArray := prog_9_method_41_code
def yX7_becomes : MethodName := ⟨RX7, "becomes", "(I)I"⟩
abbrev cX7_changesTo : ByteArray := prog_9_method_42_code
def yX7_changesTo : MethodName := ⟨RX7, "changesTo", "(I)I"⟩
abbrev cX7_approach : ByteArray := prog_9_method_43_code
def yX7_approach : MethodName := ⟨RX7, "approach", "()I"⟩
abbrev cX7_release : ByteArray := prog_9_method_44_code
def yX7_release : MethodName := ⟨RX7, "release", "()I"⟩
abbrev cX7_retreat : ByteArray := prog_9_method_45_code
def yX7_retreat : MethodName := ⟨RX7, "retreat", "()I"⟩
abbrev cX7_openError : ByteArray := prog_9_method_46_code
def yX7_openError : MethodName := ⟨RX7, "openError", "(I)I"⟩
abbrev cX7_closed : ByteArray := prog_9_method_47_code
def yX7_closed : MethodName := ⟨RX7, "closed", "()I"⟩
abbrev cX7_opens : ByteArray := prog_9_method_48_code
def yX7_opens : MethodName := ⟨RX7, "opens", "(I)I"⟩
abbrev cX7_open : ByteArray := prog_9_method_49_code
def yX7_open : MethodName := ⟨RX7, "open", "(I)I"⟩
abbrev cX7_passes : ByteArray := prog_9_method_50_code
def yX7_passes : MethodName := ⟨RX7, "passes", "(I)I"⟩
abbrev cX7_pass : ByteArray := prog_9_method_51_code
def yX7_pass : MethodName := ⟨RX7, "pass", "(I)I"⟩
abbrev cX7_append : ByteArray := prog_9_method_52_code
def yX7_append : MethodName := ⟨RX7, "append", "(I)I"⟩
abbrev cX7_clearText : ByteArray := prog_9_method_53_code
def yX7_clearText : MethodName := ⟨RX7, "clearText", "()I"⟩
abbrev cX7_isDigitHere : ByteArray := prog_9_method_54_code
def yX7_isDigitHere : MethodName := ⟨RX7, "isDigitHere", "()Z"⟩
abbrev cX7_passesNumber : ByteArray := prog_9_method_55_code
def yX7_passesNumber : MethodName := ⟨RX7, "passesNumber", "(II)Z"⟩
abbrev cX7_passesAct : ByteArray := prog_9_method_56_code
def yX7_passesAct : MethodName := ⟨RX7, "passesAct", "()Z"⟩
abbrev cX7_faultPosition : ByteArray := prog_9_method_57_code
def yX7_faultPosition : MethodName := ⟨RX7, "faultPosition", "()I"⟩
abbrev cX7_does : ByteArray := prog_9_method_58_code
def yX7_does : MethodName := ⟨RX7, "does", "()Z"⟩
abbrev cX7_run : ByteArray := prog_9_method_59_code
def yX7_run : MethodName := ⟨RX7, "run", "()I"⟩
abbrev cX7_bitsOf : ByteArray := prog_9_method_60_code
def yX7_bitsOf : MethodName := ⟨RX7, "bitsOf", "(F)I"⟩
abbrev cX7_told : ByteArray := prog_9_method_61_code
def yX7_told : MethodName := ⟨RX7, "told", "(I)F"⟩
abbrev cX7_bits : ByteArray := prog_9_method_62_code
def yX7_bits : MethodName := ⟨RX7, "bits", "(I)I"⟩
abbrev cX7_thousandths : ByteArray := prog_9_method_63_code
def yX7_thousandths : MethodName := ⟨RX7, "thousandths", "(I)I"⟩
abbrev cX7_limit : ByteArray := prog_9_method_64_code
def yX7_limit : MethodName := ⟨RX7, "limit", "(I)I"⟩
abbrev cX7_judgement : ByteArray := prog_9_method_65_code
def yX7_judgement : MethodName := ⟨RX7, "judgement", "()I"⟩
abbrev cX7_stop : ByteArray := prog_9_method_66_code
def yX7_stop : MethodName := ⟨RX7, "stop", "(II)I"⟩
abbrev cX7_point : ByteArray := prog_9_method_67_code
def yX7_point : MethodName := ⟨RX7, "point", "(II)I"⟩
abbrev cX7_total : ByteArray := prog_9_method_68_code
def yX7_total : MethodName := ⟨RX7, "total", "(I)I"⟩
abbrev cX7_modeIn : ByteArray := prog_9_method_69_code
def yX7_modeIn : MethodName := ⟨RX7, "modeIn", "(I)I"⟩
abbrev cX7_secondsTo : ByteArray := prog_9_method_70_code
def yX7_secondsTo : MethodName := ⟨RX7, "secondsTo", "(I)I"⟩
abbrev cX7_closest : ByteArray := prog_9_method_71_code
def yX7_closest : MethodName := ⟨RX7, "closest", "(I)I"⟩
abbrev cX7_safeSpeed : ByteArray := prog_9_method_72_code
def yX7_safeSpeed : MethodName := ⟨RX7, "safeSpeed", "()I"⟩
def RJ10 : String := "java/lang/System"
def TJ10 : u_T := fun k => match k with
  | _ => ("", "", "", false)
def tyJ10 : Nat → FieldType := fun k => match k with
  | _ => .int
abbrev wsJ100 : List Cond := u_ws RJ10 TJ10 0
theorem nmJ10 : ∀ a, a < 0 → ∀ b, b < 0 → a ≠ b → (TJ10 a).2.1 ≠ (TJ10 b).2.1 := by decide +kernel
theorem tyJ10_ok : ∀ k, k < 0 → parseFieldDescriptor (TJ10 k).2.2.1 = some (tyJ10 k) := by decide +kernel
def RL : String := "DockingMonitorLaw"
abbrev cL_law : ByteArray := code
def yL_law : MethodName := ⟨RL, "law", "([I)Z"⟩
def wsL_law_r1 : List Cond := [Cond.classLink RL 7 RX6, Cond.instantiable RX6 6, Cond.initialized RX6, Cond.classLink RL 10 RX7, Cond.instantiable RX7 11, Cond.initialized RX7, Cond.methodLink RL 9 yX6_init, Cond.instanceMethod yX6_init, Cond.code yX6_init cX6_init 2 none, Cond.methodLink RX6 1 objectInit, Cond.instanceMethod objectInit, Cond.code objectInit ⟨#[0xb1]⟩ 1 none, Cond.classLink RX6 7 RX4, Cond.instantiable RX4 14, Cond.initialized RX4, Cond.fieldLink RX6 10 "DockingMonitor" "present" "LDockingMonitor$State;", Cond.fieldLink RX6 16 "DockingMonitor" "forecast" "LDockingMonitor$State;", Cond.classLink RX6 19 RX1, Cond.instantiable RX1 2, Cond.initialized RX1, Cond.fieldLink RX6 22 "DockingMonitor" "history" "LDockingMonitor$History;", Cond.fieldLink RX6 26 "DockingMonitor" "slots" "[LDockingMonitor$State;", Cond.arrayClass .boolean, Cond.fieldLink RX6 30 "DockingMonitor" "slotFilled" "[Z"]
def wsL_law_r2 : List Cond := [Cond.classLink RX6 34 RX0, Cond.instantiable RX0 2, Cond.initialized RX0, Cond.fieldLink RX6 37 "DockingMonitor" "text" "LDockingMonitor$ActText;", Cond.methodLink RX6 9 yX4_init, Cond.instanceMethod yX4_init, Cond.code yX4_init cX4_init 1 none, Cond.methodLink RX4 3 objectInit, Cond.constantFloat RX4 9 (1120403456), Cond.fieldLink RX4 10 "DockingMonitor$State" "x" "F", Cond.fieldLink RX4 16 "DockingMonitor$State" "heldStop" "I", Cond.arrayClass .int, Cond.fieldLink RX4 20 "DockingMonitor$State" "settings" "[I", Cond.methodLink RX4 27 arraycopyName, Cond.native arraycopyName, Cond.static arraycopyName, Cond.initialized "java/lang/System", Cond.classLink RX4 33 RX2, Cond.instantiable RX2 3, Cond.initialized RX2, Cond.fieldLink RX4 36 "DockingMonitor$State" "profile" "LDockingMonitor$Profile;", Cond.classLink RX4 40 RX5, Cond.instantiable RX5 3, Cond.initialized RX5]
def wsL_law_r3 : List Cond := [Cond.fieldLink RX4 43 "DockingMonitor$State" "stops" "LDockingMonitor$Stops;", Cond.classLink RX4 47 RX3, Cond.instantiable RX3 5, Cond.initialized RX3, Cond.fieldLink RX4 50 "DockingMonitor$State" "sensors" "LDockingMonitor$Sensors;", Cond.methodLink RX4 35 yX2_init, Cond.instanceMethod yX2_init, Cond.code yX2_init cX2_init 1 none, Cond.methodLink RX2 3 objectInit, Cond.fieldLink RX2 9 "DockingMonitor$Profile" "distances" "[I", Cond.fieldLink RX2 15 "DockingMonitor$Profile" "speeds" "[I", Cond.methodLink RX4 42 yX5_init, Cond.instanceMethod yX5_init, Cond.code yX5_init cX5_init 1 none, Cond.methodLink RX5 3 objectInit, Cond.fieldLink RX5 9 "DockingMonitor$Stops" "distances" "[I", Cond.fieldLink RX5 15 "DockingMonitor$Stops" "opened" "[Z", Cond.instanceMethod yX3_init, Cond.code yX3_init cX3_init 1 none, Cond.methodLink RX3 1 objectInit, Cond.methodLink RX6 21 yX1_init, Cond.instanceMethod yX1_init, Cond.code yX1_init cX1_init 2 none, Cond.methodLink RX1 3 objectInit]
def wsL_law_r4 : List Cond := [Cond.classLink RX1 9 RX4, Cond.fieldLink RX1 11 "DockingMonitor$History" "rows" "[LDockingMonitor$State;", Cond.methodLink RX1 17 yX4_init, Cond.methodLink RX6 36 yX0_init, Cond.instanceMethod yX0_init, Cond.code yX0_init cX0_init 1 none, Cond.methodLink RX0 3 objectInit, Cond.arrayClass .byte, Cond.fieldLink RX0 9 "DockingMonitor$ActText" "bytes" "[B", Cond.methodLink RL 12 yX7_init, Cond.instanceMethod yX7_init, Cond.code yX7_init cX7_init 1 none, Cond.methodLink RX7 1 objectInit, Cond.fieldLink RX7 7 "DockingMonitorModel" "now" "[I", Cond.arrayClass .float, Cond.fieldLink RX7 13 "DockingMonitorModel" "ship" "[F", Cond.fieldLink RX7 17 "DockingMonitorModel" "kept" "[I", Cond.fieldLink RX7 20 "DockingMonitorModel" "keptShip" "[F", Cond.fieldLink RX7 23 "DockingMonitorModel" "isSaved" "[I", Cond.fieldLink RX7 26 "DockingMonitorModel" "text" "[I", Cond.constantFloat RX7 29 (1120403456), Cond.methodLink RL 13 yX6_place, Cond.instanceMethod yX6_place, Cond.selects RX6 yX6_place yX6_place]
def wsL_law_r5 : List Cond := [Cond.code yX6_place cX6_place 5 (some .int), Cond.constant RX6 41 (100000), Cond.constantFloat RX6 50 (1120403456), Cond.constantFloat RX6 51 (1148846080), Cond.methodLink RX6 42 yX6_isBeyond, Cond.static yX6_isBeyond, Cond.code yX6_isBeyond cX6_isBeyond 2 (some .boolean), Cond.methodLink RX6 46 yX1_keep, Cond.instanceMethod yX1_keep, Cond.selects RX1 yX1_keep yX1_keep, Cond.code yX1_keep cX1_keep 2 none, Cond.fieldLink RX1 18 "DockingMonitor$History" "count" "I", Cond.methodLink RX1 22 yX1_dropOldest, Cond.instanceMethod yX1_dropOldest, Cond.selects RX1 yX1_dropOldest yX1_dropOldest, Cond.code yX1_dropOldest cX1_dropOldest 3 none, Cond.methodLink RX1 25 yX4_copyFrom, Cond.instanceMethod yX4_copyFrom, Cond.selects RX4 yX4_copyFrom yX4_copyFrom, Cond.code yX4_copyFrom cX4_copyFrom 2 none, Cond.fieldLink RX4 54 "DockingMonitor$State" "y" "F", Cond.fieldLink RX4 57 "DockingMonitor$State" "vx" "F", Cond.fieldLink RX4 60 "DockingMonitor$State" "vy" "F", Cond.fieldLink RX4 63 "DockingMonitor$State" "mode" "I"]
def wsL_law_r6 : List Cond := [Cond.fieldLink RX4 66 "DockingMonitor$State" "holdDistance" "F", Cond.fieldLink RX4 69 "DockingMonitor$State" "strikes" "I", Cond.fieldLink RX4 72 "DockingMonitor$State" "seconds" "I", Cond.fieldLink RX4 75 "DockingMonitor$State" "judgedRetreats" "I", Cond.methodLink RX4 78 yX2_copyFrom, Cond.instanceMethod yX2_copyFrom, Cond.selects RX2 yX2_copyFrom yX2_copyFrom, Cond.code yX2_copyFrom cX2_copyFrom 2 none, Cond.fieldLink RX2 18 "DockingMonitor$Profile" "count" "I", Cond.methodLink RX2 22 arraycopyName, Cond.methodLink RX4 82 yX5_copyFrom, Cond.instanceMethod yX5_copyFrom, Cond.selects RX5 yX5_copyFrom yX5_copyFrom, Cond.code yX5_copyFrom cX5_copyFrom 3 none, Cond.fieldLink RX5 19 "DockingMonitor$Stops" "count" "I", Cond.methodLink RX4 85 yX3_copyFrom, Cond.instanceMethod yX3_copyFrom, Cond.selects RX3 yX3_copyFrom yX3_copyFrom, Cond.code yX3_copyFrom cX3_copyFrom 2 none, Cond.fieldLink RX3 7 "DockingMonitor$Sensors" "farBias" "I", Cond.fieldLink RX3 13 "DockingMonitor$Sensors" "nearBias" "I", Cond.fieldLink RX3 16 "DockingMonitor$Sensors" "nearInUse" "Z", Cond.fieldLink RX3 20 "DockingMonitor$Sensors" "agreements" "I", Cond.fieldLink RX3 23 "DockingMonitor$Sensors" "changes" "I"]
def wsL_law_r7 : List Cond := [Cond.methodLink RX6 52 yX4_putShip, Cond.instanceMethod yX4_putShip, Cond.selects RX4 yX4_putShip yX4_putShip, Cond.code yX4_putShip cX4_putShip 5 none, Cond.methodLink RX4 88 yX4_enter, Cond.instanceMethod yX4_enter, Cond.selects RX4 yX4_enter yX4_enter, Cond.code yX4_enter cX4_enter 2 none, Cond.methodLink RX4 92 yX3_startFar, Cond.instanceMethod yX3_startFar, Cond.selects RX3 yX3_startFar yX3_startFar, Cond.code yX3_startFar cX3_startFar 1 none, Cond.methodLink RX6 56 yX4_judge, Cond.instanceMethod yX4_judge, Cond.selects RX4 yX4_judge yX4_judge, Cond.code yX4_judge cX4_judge 2 (some .int), Cond.constantFloat RX4 151 (1148846080), Cond.static yX6_size, Cond.code yX6_size cX6_size 1 (some .float), Cond.methodLink RX4 178 yX4_isTooFast, Cond.instanceMethod yX4_isTooFast, Cond.selects RX4 yX4_isTooFast yX4_isTooFast, Cond.code yX4_isTooFast cX4_isTooFast 2 (some .boolean), Cond.constantFloat RX4 185 (1008981770)]
def wsL_law_r8 : List Cond := [Cond.methodLink RX4 157 yX2_limitAt, Cond.instanceMethod yX2_limitAt, Cond.selects RX2 yX2_limitAt yX2_limitAt, Cond.code yX2_limitAt cX2_limitAt 7 (some .float), Cond.constantFloat RX2 32 (1056964608), Cond.constantFloat RX2 33 (1120403456), Cond.constantFloat RX2 34 (1148846080), Cond.methodLink RX4 182 yX4_hasUnsafeDrift, Cond.instanceMethod yX4_hasUnsafeDrift, Cond.selects RX4 yX4_hasUnsafeDrift yX4_hasUnsafeDrift, Cond.code yX4_hasUnsafeDrift cX4_hasUnsafeDrift 9 (some .boolean), Cond.methodLink RL 17 yX7_place, Cond.instanceMethod yX7_place, Cond.selects RX7 yX7_place yX7_place, Cond.code yX7_place cX7_place 6 (some .int), Cond.constant RX7 49 (100000), Cond.constant RX7 50 (-100000), Cond.methodLink RX7 42 yX7_isIn, Cond.static yX7_isIn, Cond.code yX7_isIn cX7_isIn 3 (some .boolean), Cond.methodLink RX7 46 yX7_records, Cond.instanceMethod yX7_records, Cond.selects RX7 yX7_records yX7_records, Cond.code yX7_records cX7_records 2 none]
def wsL_law_r9 : List Cond := [Cond.fieldLink RX7 31 "DockingMonitorModel" "states" "I", Cond.methodLink RX7 35 yX7_keeps, Cond.instanceMethod yX7_keeps, Cond.selects RX7 yX7_keeps yX7_keeps, Cond.code yX7_keeps cX7_keeps 3 none, Cond.methodLink RX7 51 yX7_metres, Cond.static yX7_metres, Cond.code yX7_metres cX7_metres 1 (some .float), Cond.methodLink RX7 55 yX7_thousandth, Cond.static yX7_thousandth, Cond.code yX7_thousandth cX7_thousandth 1 (some .float), Cond.constantFloat RX7 30 (1148846080), Cond.methodLink RX7 58 yX7_judged, Cond.instanceMethod yX7_judged, Cond.selects RX7 yX7_judged yX7_judged, Cond.code yX7_judged cX7_judged 1 (some .int), Cond.methodLink RX7 92 yX7_isOff, Cond.instanceMethod yX7_isOff, Cond.selects RX7 yX7_isOff yX7_isOff, Cond.code yX7_isOff cX7_isOff 3 (some .boolean), Cond.methodLink RX7 84 yX7_sizeOf, Cond.static yX7_sizeOf, Cond.code yX7_sizeOf cX7_sizeOf 1 (some .float), Cond.methodLink RX7 96 yX7_isTooFast]
def wsL_law_r10 : List Cond := [Cond.instanceMethod yX7_isTooFast, Cond.selects RX7 yX7_isTooFast yX7_isTooFast, Cond.code yX7_isTooFast cX7_isTooFast 2 (some .boolean), Cond.constantFloat RX7 91 (1008981770), Cond.methodLink RX7 88 yX7_limitAt, Cond.instanceMethod yX7_limitAt, Cond.selects RX7 yX7_limitAt yX7_limitAt, Cond.code yX7_limitAt cX7_limitAt 8 (some .float), Cond.constantFloat RX7 72 (1056964608), Cond.methodLink RX7 69 yX7_distanceOf, Cond.instanceMethod yX7_distanceOf, Cond.selects RX7 yX7_distanceOf yX7_distanceOf, Cond.code yX7_distanceOf cX7_distanceOf 2 (some .int), Cond.methodLink RX7 73 yX7_speedOf, Cond.instanceMethod yX7_speedOf, Cond.selects RX7 yX7_speedOf yX7_speedOf, Cond.code yX7_speedOf cX7_speedOf 2 (some .float), Cond.methodLink RX7 100 yX7_isUnsafe, Cond.instanceMethod yX7_isUnsafe, Cond.selects RX7 yX7_isUnsafe yX7_isUnsafe, Cond.code yX7_isUnsafe cX7_isUnsafe 7 (some .boolean), Cond.methodLink RL 18 yX6_set, Cond.instanceMethod yX6_set, Cond.selects RX6 yX6_set yX6_set]
def wsL_law_r11 : List Cond := [Cond.code yX6_set cX6_set 4 (some .int), Cond.fieldLink RX6 60 "DockingMonitor" "SETTING_LEAST" "[I", Cond.fieldLink RX6 64 "DockingMonitor" "SETTING_GREATEST" "[I", Cond.fieldLink RX6 67 "DockingMonitor$State" "settings" "[I", Cond.methodLink RL 22 yX7_set, Cond.instanceMethod yX7_set, Cond.selects RX7 yX7_set yX7_set, Cond.code yX7_set cX7_set 4 (some .int), Cond.methodLink RX7 62 yX7_leastOf, Cond.static yX7_leastOf, Cond.code yX7_leastOf cX7_leastOf 1 (some .int), Cond.methodLink RX7 66 yX7_mostOf, Cond.static yX7_mostOf, Cond.code yX7_mostOf cX7_mostOf 1 (some .int), Cond.methodLink RL 23 yX6_setPoint, Cond.instanceMethod yX6_setPoint, Cond.selects RX6 yX6_setPoint yX6_setPoint, Cond.code yX6_setPoint cX6_setPoint 3 (some .int), Cond.fieldLink RX6 70 "DockingMonitor$State" "profile" "LDockingMonitor$Profile;", Cond.fieldLink RX6 84 "DockingMonitor$Profile" "count" "I", Cond.methodLink RX6 74 yX2_hasRoomFor, Cond.instanceMethod yX2_hasRoomFor, Cond.selects RX2 yX2_hasRoomFor yX2_hasRoomFor, Cond.code yX2_hasRoomFor cX2_hasRoomFor 3 (some .boolean)]
def wsL_law_r12 : List Cond := [Cond.methodLink RX2 28 yX2_indexFor, Cond.instanceMethod yX2_indexFor, Cond.selects RX2 yX2_indexFor yX2_indexFor, Cond.code yX2_indexFor cX2_indexFor 3 (some .int), Cond.methodLink RX6 80 yX2_put, Cond.instanceMethod yX2_put, Cond.selects RX2 yX2_put yX2_put, Cond.code yX2_put cX2_put 5 none, Cond.methodLink RL 26 yX7_setPoint, Cond.instanceMethod yX7_setPoint, Cond.selects RX7 yX7_setPoint yX7_setPoint, Cond.code yX7_setPoint cX7_setPoint 6 (some .int), Cond.methodLink RL 27 yX6_addStop, Cond.instanceMethod yX6_addStop, Cond.selects RX6 yX6_addStop yX6_addStop, Cond.code yX6_addStop cX6_addStop 2 (some .int), Cond.fieldLink RX6 88 "DockingMonitor$State" "stops" "LDockingMonitor$Stops;", Cond.fieldLink RX6 92 "DockingMonitor$Stops" "count" "I", Cond.methodLink RX6 95 yX5_addClosed, Cond.instanceMethod yX5_addClosed, Cond.selects RX5 yX5_addClosed yX5_addClosed, Cond.code yX5_addClosed cX5_addClosed 3 (some .int), Cond.methodLink RL 31 yX7_addStop, Cond.instanceMethod yX7_addStop]
def wsL_law_r13 : List Cond := [Cond.selects RX7 yX7_addStop yX7_addStop, Cond.code yX7_addStop cX7_addStop 2 (some .int), Cond.methodLink RL 32 yX6_setBias, Cond.instanceMethod yX6_setBias, Cond.selects RX6 yX6_setBias yX6_setBias, Cond.code yX6_setBias cX6_setBias 4 (some .int), Cond.fieldLink RX6 99 "DockingMonitor$State" "sensors" "LDockingMonitor$Sensors;", Cond.fieldLink RX6 103 "DockingMonitor$Sensors" "nearBias" "I", Cond.fieldLink RX6 108 "DockingMonitor$Sensors" "farBias" "I", Cond.fieldLink RX6 111 "DockingMonitor$Sensors" "nearInUse" "Z", Cond.methodLink RL 36 yX7_setBias, Cond.instanceMethod yX7_setBias, Cond.selects RX7 yX7_setBias yX7_setBias, Cond.code yX7_setBias cX7_setBias 3 (some .int), Cond.methodLink RL 37 yX6_approach, Cond.instanceMethod yX6_approach, Cond.selects RX6 yX6_approach yX6_approach, Cond.code yX6_approach cX6_approach 1 (some .int), Cond.methodLink RX6 115 yX6_actRecorded, Cond.instanceMethod yX6_actRecorded, Cond.selects RX6 yX6_actRecorded yX6_actRecorded, Cond.code yX6_actRecorded cX6_actRecorded 4 (some .int), Cond.methodLink RX6 135 yX4_errorOf, Cond.instanceMethod yX4_errorOf]
def wsL_law_r14 : List Cond := [Cond.selects RX4 yX4_errorOf yX4_errorOf, Cond.code yX4_errorOf cX4_errorOf 3 (some .int), Cond.methodLink RX4 95 yX4_hasArrived, Cond.instanceMethod yX4_hasArrived, Cond.selects RX4 yX4_hasArrived yX4_hasArrived, Cond.code yX4_hasArrived cX4_hasArrived 1 (some .boolean), Cond.methodLink RX4 99 yX5_errorOfOpening, Cond.instanceMethod yX5_errorOfOpening, Cond.selects RX5 yX5_errorOfOpening yX5_errorOfOpening, Cond.code yX5_errorOfOpening cX5_errorOfOpening 2 (some .int), Cond.methodLink RX5 24 yX5_has, Cond.instanceMethod yX5_has, Cond.selects RX5 yX5_has yX5_has, Cond.code yX5_has cX5_has 2 (some .boolean), Cond.methodLink RX6 138 yX4_carryOut, Cond.instanceMethod yX4_carryOut, Cond.selects RX4 yX4_carryOut yX4_carryOut, Cond.code yX4_carryOut cX4_carryOut 4 (some .int), Cond.methodLink RX4 103 yX4_startApproach, Cond.instanceMethod yX4_startApproach, Cond.selects RX4 yX4_startApproach yX4_startApproach, Cond.code yX4_startApproach cX4_startApproach 1 none, Cond.methodLink RX4 106 yX4_judge, Cond.methodLink RX4 110 yX5_markOpen]
def wsL_law_r15 : List Cond := [Cond.instanceMethod yX5_markOpen, Cond.selects RX5 yX5_markOpen yX5_markOpen, Cond.code yX5_markOpen cX5_markOpen 2 none, Cond.methodLink RX4 113 yX5_countClosed, Cond.instanceMethod yX5_countClosed, Cond.selects RX5 yX5_countClosed yX5_countClosed, Cond.code yX5_countClosed cX5_countClosed 3 (some .int), Cond.methodLink RX4 116 yX4_passSecond, Cond.instanceMethod yX4_passSecond, Cond.selects RX4 yX4_passSecond yX4_passSecond, Cond.code yX4_passSecond cX4_passSecond 3 none, Cond.constantFloat RX4 143 (1112014848), Cond.methodLink RX4 119 yX4_wantedSpeed, Cond.instanceMethod yX4_wantedSpeed, Cond.selects RX4 yX4_wantedSpeed yX4_wantedSpeed, Cond.code yX4_wantedSpeed cX4_wantedSpeed 4 (some .float), Cond.constantFloat RX4 153 (1036831949), Cond.methodLink RX4 154 yX3_measured, Cond.instanceMethod yX3_measured, Cond.selects RX3 yX3_measured yX3_measured, Cond.code yX3_measured cX3_measured 2 (some .float), Cond.methodLink RX3 27 yX3_nearMeasured, Cond.instanceMethod yX3_nearMeasured, Cond.selects RX3 yX3_nearMeasured yX3_nearMeasured]
def wsL_law_r16 : List Cond := [Cond.code yX3_nearMeasured cX3_nearMeasured 2 (some .float), Cond.constantFloat RX3 26 (1120403456), Cond.methodLink RX3 31 yX3_farMeasured, Cond.instanceMethod yX3_farMeasured, Cond.selects RX3 yX3_farMeasured yX3_farMeasured, Cond.code yX3_farMeasured cX3_farMeasured 2 (some .float), Cond.methodLink RX4 160 yX5_nextBelow, Cond.instanceMethod yX5_nextBelow, Cond.selects RX5 yX5_nextBelow yX5_nextBelow, Cond.code yX5_nextBelow cX5_nextBelow 5 (some .int), Cond.methodLink RX5 28 yX5_metres, Cond.instanceMethod yX5_metres, Cond.selects RX5 yX5_metres yX5_metres, Cond.code yX5_metres cX5_metres 2 (some .float), Cond.constantFloat RX5 23 (1120403456), Cond.methodLink RX4 164 yX5_has, Cond.methodLink RX4 168 yX5_metres, Cond.methodLink RX4 123 yX4_accelerationAlong, Cond.instanceMethod yX4_accelerationAlong, Cond.selects RX4 yX4_accelerationAlong yX4_accelerationAlong, Cond.code yX4_accelerationAlong cX4_accelerationAlong 4 (some .float), Cond.methodLink RX4 148 yX4_heldToGreatest, Cond.instanceMethod yX4_heldToGreatest, Cond.selects RX4 yX4_heldToGreatest yX4_heldToGreatest]
def wsL_law_r17 : List Cond := [Cond.code yX4_heldToGreatest cX4_heldToGreatest 3 (some .float), Cond.methodLink RX4 127 yX4_accelerationAcross, Cond.instanceMethod yX4_accelerationAcross, Cond.selects RX4 yX4_accelerationAcross yX4_accelerationAcross, Cond.code yX4_accelerationAcross cX4_accelerationAcross 1 (some .float), Cond.constantFloat RX4 152 (1028443341), Cond.methodLink RX4 130 yX4_arrive, Cond.instanceMethod yX4_arrive, Cond.selects RX4 yX4_arrive yX4_arrive, Cond.code yX4_arrive cX4_arrive 2 none, Cond.methodLink RX4 133 yX3_compare, Cond.instanceMethod yX3_compare, Cond.selects RX3 yX3_compare yX3_compare, Cond.code yX3_compare cX3_compare 4 none, Cond.constantFloat RX3 34 (1106247680), Cond.constantFloat RX3 40 (1056964608), Cond.methodLink RX4 137 yX4_holdAtStopReached, Cond.instanceMethod yX4_holdAtStopReached, Cond.selects RX4 yX4_holdAtStopReached yX4_holdAtStopReached, Cond.code yX4_holdAtStopReached cX4_holdAtStopReached 2 none, Cond.methodLink RX4 175 yX5_closedNear, Cond.instanceMethod yX5_closedNear, Cond.selects RX5 yX5_closedNear yX5_closedNear, Cond.code yX5_closedNear cX5_closedNear 3 (some .int)]
def wsL_law_r18 : List Cond := [Cond.constantFloat RX5 36 (1045220557), Cond.methodLink RX4 144 yX4_hold, Cond.instanceMethod yX4_hold, Cond.selects RX4 yX4_hold yX4_hold, Cond.code yX4_hold cX4_hold 3 none, Cond.methodLink RX4 140 yX4_countStrikes, Cond.instanceMethod yX4_countStrikes, Cond.selects RX4 yX4_countStrikes yX4_countStrikes, Cond.code yX4_countStrikes cX4_countStrikes 2 none, Cond.methodLink RL 41 yX7_approach, Cond.instanceMethod yX7_approach, Cond.selects RX7 yX7_approach yX7_approach, Cond.code yX7_approach cX7_approach 1 (some .int), Cond.methodLink RX7 150 yX7_changesTo, Cond.instanceMethod yX7_changesTo, Cond.selects RX7 yX7_changesTo yX7_changesTo, Cond.code yX7_changesTo cX7_changesTo 3 (some .int), Cond.methodLink RX7 144 yX7_modeError, Cond.instanceMethod yX7_modeError, Cond.selects RX7 yX7_modeError yX7_modeError, Cond.code yX7_modeError cX7_modeError 2 (some .int), Cond.methodLink RX7 147 yX7_becomes, Cond.instanceMethod yX7_becomes, Cond.selects RX7 yX7_becomes yX7_becomes]
def wsL_law_r19 : List Cond := [Cond.code yX7_becomes cX7_becomes 2 (some .int), Cond.methodLink RL 42 yX6_release, Cond.instanceMethod yX6_release, Cond.selects RX6 yX6_release yX6_release, Cond.code yX6_release cX6_release 1 (some .int), Cond.methodLink RL 45 yX7_release, Cond.instanceMethod yX7_release, Cond.selects RX7 yX7_release yX7_release, Cond.code yX7_release cX7_release 1 (some .int), Cond.methodLink RL 46 yX6_retreat, Cond.instanceMethod yX6_retreat, Cond.selects RX6 yX6_retreat yX6_retreat, Cond.code yX6_retreat cX6_retreat 1 (some .int), Cond.methodLink RL 49 yX7_retreat, Cond.instanceMethod yX7_retreat, Cond.selects RX7 yX7_retreat yX7_retreat, Cond.code yX7_retreat cX7_retreat 1 (some .int), Cond.methodLink RL 50 yX6_open, Cond.instanceMethod yX6_open, Cond.selects RX6 yX6_open yX6_open, Cond.code yX6_open cX6_open 2 (some .int), Cond.methodLink RL 53 yX7_open, Cond.instanceMethod yX7_open, Cond.selects RX7 yX7_open yX7_open]
def wsL_law_r20 : List Cond := [Cond.code yX7_open cX7_open 3 (some .int), Cond.methodLink RX7 156 yX7_openError, Cond.instanceMethod yX7_openError, Cond.selects RX7 yX7_openError yX7_openError, Cond.code yX7_openError cX7_openError 2 (some .int), Cond.methodLink RX7 76 yX7_isClosed, Cond.instanceMethod yX7_isClosed, Cond.selects RX7 yX7_isClosed yX7_isClosed, Cond.code yX7_isClosed cX7_isClosed 2 (some .boolean), Cond.methodLink RX7 159 yX7_opens, Cond.instanceMethod yX7_opens, Cond.selects RX7 yX7_opens yX7_opens, Cond.code yX7_opens cX7_opens 2 (some .int), Cond.methodLink RX7 153 yX7_closed, Cond.instanceMethod yX7_closed, Cond.selects RX7 yX7_closed yX7_closed, Cond.code yX7_closed cX7_closed 3 (some .int), Cond.methodLink RL 54 yX6_pass, Cond.instanceMethod yX6_pass, Cond.selects RX6 yX6_pass yX6_pass, Cond.code yX6_pass cX6_pass 2 (some .int), Cond.methodLink RL 57 yX7_pass, Cond.instanceMethod yX7_pass, Cond.selects RX7 yX7_pass yX7_pass]
def wsL_law_r21 : List Cond := [Cond.code yX7_pass cX7_pass 2 (some .int), Cond.methodLink RX7 165 yX7_passes, Cond.instanceMethod yX7_passes, Cond.selects RX7 yX7_passes yX7_passes, Cond.code yX7_passes cX7_passes 3 (some .int), Cond.methodLink RX7 162 yX7_passesSecond, Cond.instanceMethod yX7_passesSecond, Cond.selects RX7 yX7_passesSecond yX7_passesSecond, Cond.code yX7_passesSecond cX7_passesSecond 1 none, Cond.methodLink RX7 119 yX7_moves, Cond.instanceMethod yX7_moves, Cond.selects RX7 yX7_moves yX7_moves, Cond.code yX7_moves cX7_moves 3 none, Cond.methodLink RX7 129 yX7_guides, Cond.instanceMethod yX7_guides, Cond.selects RX7 yX7_guides yX7_guides, Cond.code yX7_guides cX7_guides 5 none, Cond.constantFloat RX7 118 (1028443341), Cond.methodLink RX7 110 yX7_wanted, Cond.instanceMethod yX7_wanted, Cond.selects RX7 yX7_wanted yX7_wanted, Cond.code yX7_wanted cX7_wanted 5 (some .float), Cond.constantFloat RX7 106 (1036831949), Cond.methodLink RX7 103 yX7_measured]
def wsL_law_r22 : List Cond := [Cond.instanceMethod yX7_measured, Cond.selects RX7 yX7_measured yX7_measured, Cond.code yX7_measured cX7_measured 2 (some .float), Cond.methodLink RX7 80 yX7_stopAt, Cond.instanceMethod yX7_stopAt, Cond.selects RX7 yX7_stopAt yX7_stopAt, Cond.code yX7_stopAt cX7_stopAt 2 (some .float), Cond.methodLink RX7 107 yX7_nextStop, Cond.instanceMethod yX7_nextStop, Cond.selects RX7 yX7_nextStop yX7_nextStop, Cond.code yX7_nextStop cX7_nextStop 4 (some .int), Cond.methodLink RX7 114 yX7_held, Cond.static yX7_held, Cond.code yX7_held cX7_held 3 (some .float), Cond.methodLink RX7 132 yX7_arrives, Cond.instanceMethod yX7_arrives, Cond.selects RX7 yX7_arrives yX7_arrives, Cond.code yX7_arrives cX7_arrives 3 none, Cond.methodLink RX7 135 yX7_senses, Cond.instanceMethod yX7_senses, Cond.selects RX7 yX7_senses yX7_senses, Cond.code yX7_senses cX7_senses 2 none, Cond.methodLink RX7 123 yX7_isSeen, Cond.instanceMethod yX7_isSeen]
def wsL_law_r23 : List Cond := [Cond.selects RX7 yX7_isSeen yX7_isSeen, Cond.code yX7_isSeen cX7_isSeen 1 (some .boolean), Cond.constantFloat RX7 83 (1106247680), Cond.methodLink RX7 138 yX7_stops, Cond.instanceMethod yX7_stops, Cond.selects RX7 yX7_stops yX7_stops, Cond.code yX7_stops cX7_stops 2 none, Cond.constantFloat RX7 127 (1045220557), Cond.methodLink RX7 141 yX7_judges, Cond.instanceMethod yX7_judges, Cond.selects RX7 yX7_judges yX7_judges, Cond.code yX7_judges cX7_judges 2 none, Cond.constantFloat RX7 128 (1112014848), Cond.methodLink RL 58 yX6_append, Cond.instanceMethod yX6_append, Cond.selects RX6 yX6_append yX6_append, Cond.code yX6_append cX6_append 2 (some .int), Cond.fieldLink RX6 119 "DockingMonitor$ActText" "length" "I", Cond.fieldLink RX6 122 "DockingMonitor$ActText" "bytes" "[B", Cond.methodLink RL 61 yX7_append, Cond.instanceMethod yX7_append, Cond.selects RX7 yX7_append yX7_append, Cond.code yX7_append cX7_append 2 (some .int), Cond.fieldLink RX7 168 "DockingMonitorModel" "length" "I"]
def wsL_law_r24 : List Cond := [Cond.methodLink RL 62 yX6_clearText, Cond.instanceMethod yX6_clearText, Cond.selects RX6 yX6_clearText yX6_clearText, Cond.code yX6_clearText cX6_clearText 2 (some .int), Cond.methodLink RL 65 yX7_clearText, Cond.instanceMethod yX7_clearText, Cond.selects RX7 yX7_clearText yX7_clearText, Cond.code yX7_clearText cX7_clearText 2 (some .int), Cond.methodLink RL 66 yX6_faultPosition, Cond.instanceMethod yX6_faultPosition, Cond.selects RX6 yX6_faultPosition yX6_faultPosition, Cond.code yX6_faultPosition cX6_faultPosition 1 (some .int), Cond.methodLink RX6 126 yX0_fault, Cond.instanceMethod yX0_fault, Cond.selects RX0 yX0_fault yX0_fault, Cond.code yX0_fault cX0_fault 5 (some .int), Cond.fieldLink RX0 15 "DockingMonitor$ActText" "length" "I", Cond.methodLink RX0 19 yX0_byteAt, Cond.instanceMethod yX0_byteAt, Cond.selects RX0 yX0_byteAt yX0_byteAt, Cond.code yX0_byteAt cX0_byteAt 2 (some .int), Cond.methodLink RX0 23 yX0_isAct, Cond.static yX0_isAct, Cond.code yX0_isAct cX0_isAct 1 (some .boolean)]
def wsL_law_r25 : List Cond := [Cond.methodLink RX0 27 yX0_digitsAt, Cond.instanceMethod yX0_digitsAt, Cond.selects RX0 yX0_digitsAt yX0_digitsAt, Cond.code yX0_digitsAt cX0_digitsAt 3 (some .int), Cond.methodLink RX0 37 yX0_isDigit, Cond.static yX0_isDigit, Cond.code yX0_isDigit cX0_isDigit 1 (some .boolean), Cond.methodLink RX0 30 yX0_numberAt, Cond.instanceMethod yX0_numberAt, Cond.selects RX0 yX0_numberAt yX0_numberAt, Cond.code yX0_numberAt cX0_numberAt 5 (some .int), Cond.methodLink RX0 33 yX0_isInRange, Cond.static yX0_isInRange, Cond.code yX0_isInRange cX0_isInRange 2 (some .boolean), Cond.methodLink RL 69 yX7_faultPosition, Cond.instanceMethod yX7_faultPosition, Cond.selects RX7 yX7_faultPosition yX7_faultPosition, Cond.code yX7_faultPosition cX7_faultPosition 1 (some .int), Cond.fieldLink RX7 171 "DockingMonitorModel" "at" "I", Cond.methodLink RX7 187 yX7_passesAct, Cond.instanceMethod yX7_passesAct, Cond.selects RX7 yX7_passesAct yX7_passesAct, Cond.code yX7_passesAct cX7_passesAct 1 (some .boolean), Cond.fieldLink RX7 180 "DockingMonitorModel" "act" "I"]
def wsL_law_r26 : List Cond := [Cond.methodLink RX7 183 yX7_passesNumber, Cond.instanceMethod yX7_passesNumber, Cond.selects RX7 yX7_passesNumber yX7_passesNumber, Cond.code yX7_passesNumber cX7_passesNumber 6 (some .boolean), Cond.fieldLink RX7 177 "DockingMonitorModel" "number" "I", Cond.methodLink RX7 174 yX7_isDigitHere, Cond.instanceMethod yX7_isDigitHere, Cond.selects RX7 yX7_isDigitHere yX7_isDigitHere, Cond.code yX7_isDigitHere cX7_isDigitHere 1 (some .boolean), Cond.methodLink RL 70 yX6_run, Cond.instanceMethod yX6_run, Cond.selects RX6 yX6_run yX6_run, Cond.code yX6_run cX6_run 5 (some .int), Cond.methodLink RX6 129 yX0_byteAt, Cond.methodLink RX6 132 yX0_numberAt, Cond.methodLink RX6 141 yX0_behindAct, Cond.instanceMethod yX0_behindAct, Cond.selects RX0 yX0_behindAct yX0_behindAct, Cond.code yX0_behindAct cX0_behindAct 2 (some .int), Cond.methodLink RL 73 yX7_run, Cond.instanceMethod yX7_run, Cond.selects RX7 yX7_run yX7_run, Cond.code yX7_run cX7_run 3 (some .int), Cond.methodLink RX7 190 yX7_faultPosition]
def wsL_law_r27 : List Cond := [Cond.methodLink RX7 193 yX7_does, Cond.instanceMethod yX7_does, Cond.selects RX7 yX7_does yX7_does, Cond.code yX7_does cX7_does 2 (some .boolean), Cond.methodLink RL 74 yX6_undo, Cond.instanceMethod yX6_undo, Cond.selects RX6 yX6_undo yX6_undo, Cond.code yX6_undo cX6_undo 1 (some .int), Cond.fieldLink RX6 144 "DockingMonitor$History" "count" "I", Cond.methodLink RX6 145 yX1_takeLatest, Cond.instanceMethod yX1_takeLatest, Cond.selects RX1 yX1_takeLatest yX1_takeLatest, Cond.code yX1_takeLatest cX1_takeLatest 2 none, Cond.methodLink RL 77 yX7_undo, Cond.instanceMethod yX7_undo, Cond.selects RX7 yX7_undo yX7_undo, Cond.code yX7_undo cX7_undo 1 (some .int), Cond.methodLink RX7 39 yX7_brings, Cond.instanceMethod yX7_brings, Cond.selects RX7 yX7_brings yX7_brings, Cond.code yX7_brings cX7_brings 3 none, Cond.methodLink RL 78 yX6_save, Cond.instanceMethod yX6_save, Cond.selects RX6 yX6_save yX6_save]
def wsL_law_r28 : List Cond := [Cond.code yX6_save cX6_save 2 (some .int), Cond.fieldLink RX6 151 "DockingMonitor$State" "mode" "I", Cond.methodLink RX6 148 yX4_copyFrom, Cond.methodLink RL 81 yX7_save, Cond.instanceMethod yX7_save, Cond.selects RX7 yX7_save yX7_save, Cond.code yX7_save cX7_save 2 (some .int), Cond.methodLink RL 82 yX6_restore, Cond.instanceMethod yX6_restore, Cond.selects RX6 yX6_restore yX6_restore, Cond.code yX6_restore cX6_restore 2 (some .int), Cond.methodLink RL 85 yX7_restore, Cond.instanceMethod yX7_restore, Cond.selects RX7 yX7_restore yX7_restore, Cond.code yX7_restore cX7_restore 2 (some .int), Cond.methodLink RL 86 yX6_bits, Cond.instanceMethod yX6_bits, Cond.selects RX6 yX6_bits yX6_bits, Cond.code yX6_bits cX6_bits 2 (some .int), Cond.methodLink RX6 154 yX6_numberOfShip, Cond.instanceMethod yX6_numberOfShip, Cond.selects RX6 yX6_numberOfShip yX6_numberOfShip, Cond.code yX6_numberOfShip cX6_numberOfShip 3 (some .float), Cond.fieldLink RX6 223 "DockingMonitor$State" "y" "F"]
def wsL_law_r29 : List Cond := [Cond.fieldLink RX6 226 "DockingMonitor$State" "vx" "F", Cond.fieldLink RX6 229 "DockingMonitor$State" "vy" "F", Cond.fieldLink RX6 191 "DockingMonitor$State" "x" "F", Cond.methodLink RX6 232 yX3_measured, Cond.methodLink RX6 162 yX2_limitAt, Cond.methodLink RX6 235 yX3_farMeasured, Cond.methodLink RX6 238 yX3_nearMeasured, Cond.methodLink RX6 158 yX6_bitsOf, Cond.static yX6_bitsOf, Cond.code yX6_bitsOf cX6_bitsOf 4 (some .int), Cond.constantFloat RX6 244 (1258291200), Cond.constant RX6 245 (-2147483648), Cond.methodLink RX6 241 yX6_size, Cond.methodLink RL 89 yX7_bits, Cond.instanceMethod yX7_bits, Cond.selects RX7 yX7_bits yX7_bits, Cond.code yX7_bits cX7_bits 2 (some .int), Cond.methodLink RX7 198 yX7_told, Cond.instanceMethod yX7_told, Cond.selects RX7 yX7_told yX7_told, Cond.code yX7_told cX7_told 2 (some .float), Cond.methodLink RX7 201 yX7_bitsOf, Cond.static yX7_bitsOf, Cond.code yX7_bitsOf cX7_bitsOf 6 (some .int)]
def wsL_law_r30 : List Cond := [Cond.constant RX7 196 (-2147483648), Cond.constantFloat RX7 197 (1258291200), Cond.methodLink RL 90 yX6_thousandths, Cond.instanceMethod yX6_thousandths, Cond.selects RX6 yX6_thousandths yX6_thousandths, Cond.code yX6_thousandths cX6_thousandths 2 (some .int), Cond.methodLink RL 93 yX7_thousandths, Cond.instanceMethod yX7_thousandths, Cond.selects RX7 yX7_thousandths yX7_thousandths, Cond.code yX7_thousandths cX7_thousandths 2 (some .int), Cond.methodLink RL 94 yX6_limit, Cond.instanceMethod yX6_limit, Cond.selects RX6 yX6_limit yX6_limit, Cond.code yX6_limit cX6_limit 2 (some .int), Cond.methodLink RL 97 yX7_limit, Cond.instanceMethod yX7_limit, Cond.selects RX7 yX7_limit yX7_limit, Cond.code yX7_limit cX7_limit 2 (some .int), Cond.methodLink RL 98 yX6_judgement, Cond.instanceMethod yX6_judgement, Cond.selects RX6 yX6_judgement yX6_judgement, Cond.code yX6_judgement cX6_judgement 1 (some .int), Cond.methodLink RL 101 yX7_judgement, Cond.instanceMethod yX7_judgement]
def wsL_law_r31 : List Cond := [Cond.selects RX7 yX7_judgement yX7_judgement, Cond.code yX7_judgement cX7_judgement 1 (some .int), Cond.methodLink RL 102 yX6_stop, Cond.instanceMethod yX6_stop, Cond.selects RX6 yX6_stop yX6_stop, Cond.code yX6_stop cX6_stop 4 (some .int), Cond.fieldLink RX6 169 "DockingMonitor$Stops" "distances" "[I", Cond.fieldLink RX6 172 "DockingMonitor$Stops" "opened" "[Z", Cond.fieldLink RX6 175 "DockingMonitor$State" "heldStop" "I", Cond.methodLink RX6 166 yX5_has, Cond.methodLink RL 105 yX7_stop, Cond.instanceMethod yX7_stop, Cond.selects RX7 yX7_stop yX7_stop, Cond.code yX7_stop cX7_stop 3 (some .int), Cond.methodLink RL 106 yX6_point, Cond.instanceMethod yX6_point, Cond.selects RX6 yX6_point yX6_point, Cond.code yX6_point cX6_point 4 (some .int), Cond.fieldLink RX6 178 "DockingMonitor$Profile" "distances" "[I", Cond.fieldLink RX6 179 "DockingMonitor$Profile" "speeds" "[I", Cond.methodLink RL 109 yX7_point, Cond.instanceMethod yX7_point, Cond.selects RX7 yX7_point yX7_point, Cond.code yX7_point cX7_point 3 (some .int)]
def wsL_law_r32 : List Cond := [Cond.methodLink RL 110 yX6_total, Cond.instanceMethod yX6_total, Cond.selects RX6 yX6_total yX6_total, Cond.code yX6_total cX6_total 2 (some .int), Cond.fieldLink RX6 182 "DockingMonitor$State" "seconds" "I", Cond.fieldLink RX6 185 "DockingMonitor$State" "strikes" "I", Cond.fieldLink RX6 188 "DockingMonitor$Sensors" "agreements" "I", Cond.fieldLink RX6 201 "DockingMonitor$State" "judgedRetreats" "I", Cond.fieldLink RX6 204 "DockingMonitor$Sensors" "changes" "I", Cond.methodLink RX6 195 yX5_nextBelow, Cond.methodLink RX6 198 yX5_countClosed, Cond.methodLink RX6 207 yX6_settingAt, Cond.instanceMethod yX6_settingAt, Cond.selects RX6 yX6_settingAt yX6_settingAt, Cond.code yX6_settingAt cX6_settingAt 2 (some .int), Cond.methodLink RL 113 yX7_total, Cond.instanceMethod yX7_total, Cond.selects RX7 yX7_total yX7_total, Cond.code yX7_total cX7_total 2 (some .int), Cond.methodLink RL 114 yX6_modeIn, Cond.instanceMethod yX6_modeIn, Cond.selects RX6 yX6_modeIn yX6_modeIn, Cond.code yX6_modeIn cX6_modeIn 3 (some .int), Cond.methodLink RX6 210 yX4_passSecond]
def wsL_law_r33 : List Cond := [Cond.methodLink RL 117 yX7_modeIn, Cond.instanceMethod yX7_modeIn, Cond.selects RX7 yX7_modeIn yX7_modeIn, Cond.code yX7_modeIn cX7_modeIn 3 (some .int), Cond.methodLink RL 118 yX6_secondsTo, Cond.instanceMethod yX6_secondsTo, Cond.selects RX6 yX6_secondsTo yX6_secondsTo, Cond.code yX6_secondsTo cX6_secondsTo 3 (some .int), Cond.methodLink RL 121 yX7_secondsTo, Cond.instanceMethod yX7_secondsTo, Cond.selects RX7 yX7_secondsTo yX7_secondsTo, Cond.code yX7_secondsTo cX7_secondsTo 3 (some .int), Cond.methodLink RL 122 yX6_closest, Cond.instanceMethod yX6_closest, Cond.selects RX6 yX6_closest yX6_closest, Cond.code yX6_closest cX6_closest 2 (some .int), Cond.methodLink RX6 213 yX4_leastSquare, Cond.instanceMethod yX4_leastSquare, Cond.selects RX4 yX4_leastSquare yX4_leastSquare, Cond.code yX4_leastSquare cX4_leastSquare 7 (some .float), Cond.methodLink RL 125 yX7_closest, Cond.instanceMethod yX7_closest, Cond.selects RX7 yX7_closest yX7_closest, Cond.code yX7_closest cX7_closest 7 (some .int)]
def wsL_law_r34 : List Cond := [Cond.methodLink RL 126 yX6_safeSpeed, Cond.instanceMethod yX6_safeSpeed, Cond.selects RX6 yX6_safeSpeed yX6_safeSpeed, Cond.code yX6_safeSpeed cX6_safeSpeed 3 (some .int), Cond.methodLink RX6 216 yX4_isTooFast, Cond.methodLink RX6 220 yX4_hasUnsafeDrift, Cond.methodLink RL 129 yX7_safeSpeed, Cond.instanceMethod yX7_safeSpeed, Cond.selects RX7 yX7_safeSpeed yX7_safeSpeed, Cond.code yX7_safeSpeed cX7_safeSpeed 3 (some .int)]
def wsL_law : List Cond := (wsL_law_r1 ++ (wsL_law_r2 ++ (wsL_law_r3 ++ (wsL_law_r4 ++ (wsL_law_r5 ++ (wsL_law_r6 ++ (wsL_law_r7 ++ (wsL_law_r8 ++ (wsL_law_r9 ++ (wsL_law_r10 ++ (wsL_law_r11 ++ (wsL_law_r12 ++ (wsL_law_r13 ++ (wsL_law_r14 ++ (wsL_law_r15 ++ (wsL_law_r16 ++ (wsL_law_r17 ++ (wsL_law_r18 ++ (wsL_law_r19 ++ (wsL_law_r20 ++ (wsL_law_r21 ++ (wsL_law_r22 ++ (wsL_law_r23 ++ (wsL_law_r24 ++ (wsL_law_r25 ++ (wsL_law_r26 ++ (wsL_law_r27 ++ (wsL_law_r28 ++ (wsL_law_r29 ++ (wsL_law_r30 ++ (wsL_law_r31 ++ (wsL_law_r32 ++ (wsL_law_r33 ++ wsL_law_r34))))))))))))))))))))))))))))))))) ++ wsX60 ++ wsX70 ++ wsX40 ++ wsX10 ++ wsX00 ++ wsX20 ++ wsX50 ++ wsX30 ++ ([] : List Cond)
set_option maxRecDepth 20000 in
theorem inlX0 : ∀ w ∈ wsX00, w ∈ wsL_law := fun _ h => List.mem_append_left _ (List.mem_append_left _ (List.mem_append_left _ (List.mem_append_left _ (List.mem_append_right _ h))))
theorem inlX1 : ∀ w ∈ wsX10, w ∈ wsL_law := fun _ h => List.mem_append_left _ (List.mem_append_left _ (List.mem_append_left _ (List.mem_append_left _ (List.mem_append_left _ (List.mem_append_right _ h)))))
theorem inlX2 : ∀ w ∈ wsX20, w ∈ wsL_law := fun _ h => List.mem_append_left _ (List.mem_append_left _ (List.mem_append_left _ (List.mem_append_right _ h)))
theorem inlX3 : ∀ w ∈ wsX30, w ∈ wsL_law := fun _ h => List.mem_append_left _ (List.mem_append_right _ h)
theorem inlX4 : ∀ w ∈ wsX40, w ∈ wsL_law := fun _ h => List.mem_append_left _ (List.mem_append_left _ (List.mem_append_left _ (List.mem_append_left _ (List.mem_append_left _ (List.mem_append_left _ (List.mem_append_right _ h))))))
theorem inlX5 : ∀ w ∈ wsX50, w ∈ wsL_law := fun _ h => List.mem_append_left _ (List.mem_append_left _ (List.mem_append_right _ h))
theorem inlX6 : ∀ w ∈ wsX60, w ∈ wsL_law := fun _ h => List.mem_append_left _ (List.mem_append_left _ (List.mem_append_left _ (List.mem_append_left _ (List.mem_append_left _ (List.mem_append_left _ (List.mem_append_left _ (List.mem_append_left _ (List.mem_append_right _ h))))))))
theorem inlX7 : ∀ w ∈ wsX70, w ∈ wsL_law := fun _ h => List.mem_append_left _ (List.mem_append_left _ (List.mem_append_left _ (List.mem_append_left _ (List.mem_append_left _ (List.mem_append_left _ (List.mem_append_left _ (List.mem_append_right _ h)))))))
abbrev vwCl : List vw_C := [(RX0, TX0, 2), (RX1, TX1, 2), (RX2, TX2, 3), (RX3, TX3, 5), (RX4, TX4, 14), (RX5, TX5, 3), (RX6, TX6, 6), (RX7, TX7, 11)]
end
section
theorem qr_1 : ∀ w ∈ wsL_law_r1, w ∈ wsL_law := fun _ h => List.mem_append_left _ (List.mem_append_left _ (List.mem_append_left _ (List.mem_append_left _ (List.mem_append_left _ (List.mem_append_left _ (List.mem_append_left _ (List.mem_append_left _ (List.mem_append_left _ (List.mem_append_left _ h)))))))))
theorem qr_2 : ∀ w ∈ wsL_law_r2, w ∈ wsL_law := fun _ h => List.mem_append_left _ (List.mem_append_left _ (List.mem_append_left _ (List.mem_append_left _ (List.mem_append_left _ (List.mem_append_left _ (List.mem_append_left _ (List.mem_append_left _ (List.mem_append_left _ (List.mem_append_right _ (List.mem_append_left _ h))))))))))
theorem qr_3 : ∀ w ∈ wsL_law_r3, w ∈ wsL_law := fun _ h => List.mem_append_left _ (List.mem_append_left _ (List.mem_append_left _ (List.mem_append_left _ (List.mem_append_left _ (List.mem_append_left _ (List.mem_append_left _ (List.mem_append_left _ (List.mem_append_left _ (List.mem_append_right _ (List.mem_append_right _ (List.mem_append_left _ h)))))))))))
theorem qr_4 : ∀ w ∈ wsL_law_r4, w ∈ wsL_law := fun _ h => List.mem_append_left _ (List.mem_append_left _ (List.mem_append_left _ (List.mem_append_left _ (List.mem_append_left _ (List.mem_append_left _ (List.mem_append_left _ (List.mem_append_left _ (List.mem_append_left _ (List.mem_append_right _ (List.mem_append_right _ (List.mem_append_right _ (List.mem_append_left _ h))))))))))))
theorem qr_5 : ∀ w ∈ wsL_law_r5, w ∈ wsL_law := fun _ h => List.mem_append_left _ (List.mem_append_left _ (List.mem_append_left _ (List.mem_append_left _ (List.mem_append_left _ (List.mem_append_left _ (List.mem_append_left _ (List.mem_append_left _ (List.mem_append_left _ (List.mem_append_right _ (List.mem_append_right _ (List.mem_append_right _ (List.mem_append_right _ (List.mem_append_left _ h)))))))))))))
theorem qr_6 : ∀ w ∈ wsL_law_r6, w ∈ wsL_law := fun _ h => List.mem_append_left _ (List.mem_append_left _ (List.mem_append_left _ (List.mem_append_left _ (List.mem_append_left _ (List.mem_append_left _ (List.mem_append_left _ (List.mem_append_left _ (List.mem_append_left _ (List.mem_append_right _ (List.mem_append_right _ (List.mem_append_right _ (List.mem_append_right _ (List.mem_append_right _ (List.mem_append_left _ h))))))))))))))
theorem qr_7 : ∀ w ∈ wsL_law_r7, w ∈ wsL_law := fun _ h => List.mem_append_left _ (List.mem_append_left _ (List.mem_append_left _ (List.mem_append_left _ (List.mem_append_left _ (List.mem_append_left _ (List.mem_append_left _ (List.mem_append_left _ (List.mem_append_left _ (List.mem_append_right _ (List.mem_append_right _ (List.mem_append_right _ (List.mem_append_right _ (List.mem_append_right _ (List.mem_append_right _ (List.mem_append_left _ h)))))))))))))))
theorem qr_8 : ∀ w ∈ wsL_law_r8, w ∈ wsL_law := fun _ h => List.mem_append_left _ (List.mem_append_left _ (List.mem_append_left _ (List.mem_append_left _ (List.mem_append_left _ (List.mem_append_left _ (List.mem_append_left _ (List.mem_append_left _ (List.mem_append_left _ (List.mem_append_right _ (List.mem_append_right _ (List.mem_append_right _ (List.mem_append_right _ (List.mem_append_right _ (List.mem_append_right _ (List.mem_append_right _ (List.mem_append_left _ h))))))))))))))))
theorem qr_9 : ∀ w ∈ wsL_law_r9, w ∈ wsL_law := fun _ h => List.mem_append_left _ (List.mem_append_left _ (List.mem_append_left _ (List.mem_append_left _ (List.mem_append_left _ (List.mem_append_left _ (List.mem_append_left _ (List.mem_append_left _ (List.mem_append_left _ (List.mem_append_right _ (List.mem_append_right _ (List.mem_append_right _ (List.mem_append_right _ (List.mem_append_right _ (List.mem_append_right _ (List.mem_append_right _ (List.mem_append_right _ (List.mem_append_left _ h)))))))))))))))))
theorem qr_10 : ∀ w ∈ wsL_law_r10, w ∈ wsL_law := fun _ h => List.mem_append_left _ (List.mem_append_left _ (List.mem_append_left _ (List.mem_append_left _ (List.mem_append_left _ (List.mem_append_left _ (List.mem_append_left _ (List.mem_append_left _ (List.mem_append_left _ (List.mem_append_right _ (List.mem_append_right _ (List.mem_append_right _ (List.mem_append_right _ (List.mem_append_right _ (List.mem_append_right _ (List.mem_append_right _ (List.mem_append_right _ (List.mem_append_right _ (List.mem_append_left _ h))))))))))))))))))
theorem qr_11 : ∀ w ∈ wsL_law_r11, w ∈ wsL_law := fun _ h => List.mem_append_left _ (List.mem_append_left _ (List.mem_append_left _ (List.mem_append_left _ (List.mem_append_left _ (List.mem_append_left _ (List.mem_append_left _ (List.mem_append_left _ (List.mem_append_left _ (List.mem_append_right _ (List.mem_append_right _ (List.mem_append_right _ (List.mem_append_right _ (List.mem_append_right _ (List.mem_append_right _ (List.mem_append_right _ (List.mem_append_right _ (List.mem_append_right _ (List.mem_append_right _ (List.mem_append_left _ h)))))))))))))))))))
theorem qr_12 : ∀ w ∈ wsL_law_r12, w ∈ wsL_law := fun _ h => List.mem_append_left _ (List.mem_append_left _ (List.mem_append_left _ (List.mem_append_left _ (List.mem_append_left _ (List.mem_append_left _ (List.mem_append_left _ (List.mem_append_left _ (List.mem_append_left _ (List.mem_append_right _ (List.mem_append_right _ (List.mem_append_right _ (List.mem_append_right _ (List.mem_append_right _ (List.mem_append_right _ (List.mem_append_right _ (List.mem_append_right _ (List.mem_append_right _ (List.mem_append_right _ (List.mem_append_right _ (List.mem_append_left _ h))))))))))))))))))))
theorem qr_13 : ∀ w ∈ wsL_law_r13, w ∈ wsL_law := fun _ h => List.mem_append_left _ (List.mem_append_left _ (List.mem_append_left _ (List.mem_append_left _ (List.mem_append_left _ (List.mem_append_left _ (List.mem_append_left _ (List.mem_append_left _ (List.mem_append_left _ (List.mem_append_right _ (List.mem_append_right _ (List.mem_append_right _ (List.mem_append_right _ (List.mem_append_right _ (List.mem_append_right _ (List.mem_append_right _ (List.mem_append_right _ (List.mem_append_right _ (List.mem_append_right _ (List.mem_append_right _ (List.mem_append_right _ (List.mem_append_left _ h)))))))))))))))))))))
theorem qr_14 : ∀ w ∈ wsL_law_r14, w ∈ wsL_law := fun _ h => List.mem_append_left _ (List.mem_append_left _ (List.mem_append_left _ (List.mem_append_left _ (List.mem_append_left _ (List.mem_append_left _ (List.mem_append_left _ (List.mem_append_left _ (List.mem_append_left _ (List.mem_append_right _ (List.mem_append_right _ (List.mem_append_right _ (List.mem_append_right _ (List.mem_append_right _ (List.mem_append_right _ (List.mem_append_right _ (List.mem_append_right _ (List.mem_append_right _ (List.mem_append_right _ (List.mem_append_right _ (List.mem_append_right _ (List.mem_append_right _ (List.mem_append_left _ h))))))))))))))))))))))
theorem qr_15 : ∀ w ∈ wsL_law_r15, w ∈ wsL_law := fun _ h => List.mem_append_left _ (List.mem_append_left _ (List.mem_append_left _ (List.mem_append_left _ (List.mem_append_left _ (List.mem_append_left _ (List.mem_append_left _ (List.mem_append_left _ (List.mem_append_left _ (List.mem_append_right _ (List.mem_append_right _ (List.mem_append_right _ (List.mem_append_right _ (List.mem_append_right _ (List.mem_append_right _ (List.mem_append_right _ (List.mem_append_right _ (List.mem_append_right _ (List.mem_append_right _ (List.mem_append_right _ (List.mem_append_right _ (List.mem_append_right _ (List.mem_append_right _ (List.mem_append_left _ h)))))))))))))))))))))))
theorem qr_16 : ∀ w ∈ wsL_law_r16, w ∈ wsL_law := fun _ h => List.mem_append_left _ (List.mem_append_left _ (List.mem_append_left _ (List.mem_append_left _ (List.mem_append_left _ (List.mem_append_left _ (List.mem_append_left _ (List.mem_append_left _ (List.mem_append_left _ (List.mem_append_right _ (List.mem_append_right _ (List.mem_append_right _ (List.mem_append_right _ (List.mem_append_right _ (List.mem_append_right _ (List.mem_append_right _ (List.mem_append_right _ (List.mem_append_right _ (List.mem_append_right _ (List.mem_append_right _ (List.mem_append_right _ (List.mem_append_right _ (List.mem_append_right _ (List.mem_append_right _ (List.mem_append_left _ h))))))))))))))))))))))))
theorem qr_17 : ∀ w ∈ wsL_law_r17, w ∈ wsL_law := fun _ h => List.mem_append_left _ (List.mem_append_left _ (List.mem_append_left _ (List.mem_append_left _ (List.mem_append_left _ (List.mem_append_left _ (List.mem_append_left _ (List.mem_append_left _ (List.mem_append_left _ (List.mem_append_right _ (List.mem_append_right _ (List.mem_append_right _ (List.mem_append_right _ (List.mem_append_right _ (List.mem_append_right _ (List.mem_append_right _ (List.mem_append_right _ (List.mem_append_right _ (List.mem_append_right _ (List.mem_append_right _ (List.mem_append_right _ (List.mem_append_right _ (List.mem_append_right _ (List.mem_append_right _ (List.mem_append_right _ (List.mem_append_left _ h)))))))))))))))))))))))))
theorem qr_18 : ∀ w ∈ wsL_law_r18, w ∈ wsL_law := fun _ h => List.mem_append_left _ (List.mem_append_left _ (List.mem_append_left _ (List.mem_append_left _ (List.mem_append_left _ (List.mem_append_left _ (List.mem_append_left _ (List.mem_append_left _ (List.mem_append_left _ (List.mem_append_right _ (List.mem_append_right _ (List.mem_append_right _ (List.mem_append_right _ (List.mem_append_right _ (List.mem_append_right _ (List.mem_append_right _ (List.mem_append_right _ (List.mem_append_right _ (List.mem_append_right _ (List.mem_append_right _ (List.mem_append_right _ (List.mem_append_right _ (List.mem_append_right _ (List.mem_append_right _ (List.mem_append_right _ (List.mem_append_right _ (List.mem_append_left _ h))))))))))))))))))))))))))
theorem qr_19 : ∀ w ∈ wsL_law_r19, w ∈ wsL_law := fun _ h => List.mem_append_left _ (List.mem_append_left _ (List.mem_append_left _ (List.mem_append_left _ (List.mem_append_left _ (List.mem_append_left _ (List.mem_append_left _ (List.mem_append_left _ (List.mem_append_left _ (List.mem_append_right _ (List.mem_append_right _ (List.mem_append_right _ (List.mem_append_right _ (List.mem_append_right _ (List.mem_append_right _ (List.mem_append_right _ (List.mem_append_right _ (List.mem_append_right _ (List.mem_append_right _ (List.mem_append_right _ (List.mem_append_right _ (List.mem_append_right _ (List.mem_append_right _ (List.mem_append_right _ (List.mem_append_right _ (List.mem_append_right _ (List.mem_append_right _ (List.mem_append_left _ h)))))))))))))))))))))))))))
theorem qr_20 : ∀ w ∈ wsL_law_r20, w ∈ wsL_law := fun _ h => List.mem_append_left _ (List.mem_append_left _ (List.mem_append_left _ (List.mem_append_left _ (List.mem_append_left _ (List.mem_append_left _ (List.mem_append_left _ (List.mem_append_left _ (List.mem_append_left _ (List.mem_append_right _ (List.mem_append_right _ (List.mem_append_right _ (List.mem_append_right _ (List.mem_append_right _ (List.mem_append_right _ (List.mem_append_right _ (List.mem_append_right _ (List.mem_append_right _ (List.mem_append_right _ (List.mem_append_right _ (List.mem_append_right _ (List.mem_append_right _ (List.mem_append_right _ (List.mem_append_right _ (List.mem_append_right _ (List.mem_append_right _ (List.mem_append_right _ (List.mem_append_right _ (List.mem_append_left _ h))))))))))))))))))))))))))))
theorem qr_21 : ∀ w ∈ wsL_law_r21, w ∈ wsL_law := fun _ h => List.mem_append_left _ (List.mem_append_left _ (List.mem_append_left _ (List.mem_append_left _ (List.mem_append_left _ (List.mem_append_left _ (List.mem_append_left _ (List.mem_append_left _ (List.mem_append_left _ (List.mem_append_right _ (List.mem_append_right _ (List.mem_append_right _ (List.mem_append_right _ (List.mem_append_right _ (List.mem_append_right _ (List.mem_append_right _ (List.mem_append_right _ (List.mem_append_right _ (List.mem_append_right _ (List.mem_append_right _ (List.mem_append_right _ (List.mem_append_right _ (List.mem_append_right _ (List.mem_append_right _ (List.mem_append_right _ (List.mem_append_right _ (List.mem_append_right _ (List.mem_append_right _ (List.mem_append_right _ (List.mem_append_left _ h)))))))))))))))))))))))))))))
theorem qr_22 : ∀ w ∈ wsL_law_r22, w ∈ wsL_law := fun _ h => List.mem_append_left _ (List.mem_append_left _ (List.mem_append_left _ (List.mem_append_left _ (List.mem_append_left _ (List.mem_append_left _ (List.mem_append_left _ (List.mem_append_left _ (List.mem_append_left _ (List.mem_append_right _ (List.mem_append_right _ (List.mem_append_right _ (List.mem_append_right _ (List.mem_append_right _ (List.mem_append_right _ (List.mem_append_right _ (List.mem_append_right _ (List.mem_append_right _ (List.mem_append_right _ (List.mem_append_right _ (List.mem_append_right _ (List.mem_append_right _ (List.mem_append_right _ (List.mem_append_right _ (List.mem_append_right _ (List.mem_append_right _ (List.mem_append_right _ (List.mem_append_right _ (List.mem_append_right _ (List.mem_append_right _ (List.mem_append_left _ h))))))))))))))))))))))))))))))
theorem qr_23 : ∀ w ∈ wsL_law_r23, w ∈ wsL_law := fun _ h => List.mem_append_left _ (List.mem_append_left _ (List.mem_append_left _ (List.mem_append_left _ (List.mem_append_left _ (List.mem_append_left _ (List.mem_append_left _ (List.mem_append_left _ (List.mem_append_left _ (List.mem_append_right _ (List.mem_append_right _ (List.mem_append_right _ (List.mem_append_right _ (List.mem_append_right _ (List.mem_append_right _ (List.mem_append_right _ (List.mem_append_right _ (List.mem_append_right _ (List.mem_append_right _ (List.mem_append_right _ (List.mem_append_right _ (List.mem_append_right _ (List.mem_append_right _ (List.mem_append_right _ (List.mem_append_right _ (List.mem_append_right _ (List.mem_append_right _ (List.mem_append_right _ (List.mem_append_right _ (List.mem_append_right _ (List.mem_append_right _ (List.mem_append_left _ h)))))))))))))))))))))))))))))))
theorem qr_24 : ∀ w ∈ wsL_law_r24, w ∈ wsL_law := fun _ h => List.mem_append_left _ (List.mem_append_left _ (List.mem_append_left _ (List.mem_append_left _ (List.mem_append_left _ (List.mem_append_left _ (List.mem_append_left _ (List.mem_append_left _ (List.mem_append_left _ (List.mem_append_right _ (List.mem_append_right _ (List.mem_append_right _ (List.mem_append_right _ (List.mem_append_right _ (List.mem_append_right _ (List.mem_append_right _ (List.mem_append_right _ (List.mem_append_right _ (List.mem_append_right _ (List.mem_append_right _ (List.mem_append_right _ (List.mem_append_right _ (List.mem_append_right _ (List.mem_append_right _ (List.mem_append_right _ (List.mem_append_right _ (List.mem_append_right _ (List.mem_append_right _ (List.mem_append_right _ (List.mem_append_right _ (List.mem_append_right _ (List.mem_append_right _ (List.mem_append_left _ h))))))))))))))))))))))))))))))))
theorem qr_25 : ∀ w ∈ wsL_law_r25, w ∈ wsL_law := fun _ h => List.mem_append_left _ (List.mem_append_left _ (List.mem_append_left _ (List.mem_append_left _ (List.mem_append_left _ (List.mem_append_left _ (List.mem_append_left _ (List.mem_append_left _ (List.mem_append_left _ (List.mem_append_right _ (List.mem_append_right _ (List.mem_append_right _ (List.mem_append_right _ (List.mem_append_right _ (List.mem_append_right _ (List.mem_append_right _ (List.mem_append_right _ (List.mem_append_right _ (List.mem_append_right _ (List.mem_append_right _ (List.mem_append_right _ (List.mem_append_right _ (List.mem_append_right _ (List.mem_append_right _ (List.mem_append_right _ (List.mem_append_right _ (List.mem_append_right _ (List.mem_append_right _ (List.mem_append_right _ (List.mem_append_right _ (List.mem_append_right _ (List.mem_append_right _ (List.mem_append_right _ (List.mem_append_left _ h)))))))))))))))))))))))))))))))))
theorem qr_26 : ∀ w ∈ wsL_law_r26, w ∈ wsL_law := fun _ h => List.mem_append_left _ (List.mem_append_left _ (List.mem_append_left _ (List.mem_append_left _ (List.mem_append_left _ (List.mem_append_left _ (List.mem_append_left _ (List.mem_append_left _ (List.mem_append_left _ (List.mem_append_right _ (List.mem_append_right _ (List.mem_append_right _ (List.mem_append_right _ (List.mem_append_right _ (List.mem_append_right _ (List.mem_append_right _ (List.mem_append_right _ (List.mem_append_right _ (List.mem_append_right _ (List.mem_append_right _ (List.mem_append_right _ (List.mem_append_right _ (List.mem_append_right _ (List.mem_append_right _ (List.mem_append_right _ (List.mem_append_right _ (List.mem_append_right _ (List.mem_append_right _ (List.mem_append_right _ (List.mem_append_right _ (List.mem_append_right _ (List.mem_append_right _ (List.mem_append_right _ (List.mem_append_right _ (List.mem_append_left _ h))))))))))))))))))))))))))))))))))
theorem qr_27 : ∀ w ∈ wsL_law_r27, w ∈ wsL_law := fun _ h => List.mem_append_left _ (List.mem_append_left _ (List.mem_append_left _ (List.mem_append_left _ (List.mem_append_left _ (List.mem_append_left _ (List.mem_append_left _ (List.mem_append_left _ (List.mem_append_left _ (List.mem_append_right _ (List.mem_append_right _ (List.mem_append_right _ (List.mem_append_right _ (List.mem_append_right _ (List.mem_append_right _ (List.mem_append_right _ (List.mem_append_right _ (List.mem_append_right _ (List.mem_append_right _ (List.mem_append_right _ (List.mem_append_right _ (List.mem_append_right _ (List.mem_append_right _ (List.mem_append_right _ (List.mem_append_right _ (List.mem_append_right _ (List.mem_append_right _ (List.mem_append_right _ (List.mem_append_right _ (List.mem_append_right _ (List.mem_append_right _ (List.mem_append_right _ (List.mem_append_right _ (List.mem_append_right _ (List.mem_append_right _ (List.mem_append_left _ h)))))))))))))))))))))))))))))))))))
theorem qr_28 : ∀ w ∈ wsL_law_r28, w ∈ wsL_law := fun _ h => List.mem_append_left _ (List.mem_append_left _ (List.mem_append_left _ (List.mem_append_left _ (List.mem_append_left _ (List.mem_append_left _ (List.mem_append_left _ (List.mem_append_left _ (List.mem_append_left _ (List.mem_append_right _ (List.mem_append_right _ (List.mem_append_right _ (List.mem_append_right _ (List.mem_append_right _ (List.mem_append_right _ (List.mem_append_right _ (List.mem_append_right _ (List.mem_append_right _ (List.mem_append_right _ (List.mem_append_right _ (List.mem_append_right _ (List.mem_append_right _ (List.mem_append_right _ (List.mem_append_right _ (List.mem_append_right _ (List.mem_append_right _ (List.mem_append_right _ (List.mem_append_right _ (List.mem_append_right _ (List.mem_append_right _ (List.mem_append_right _ (List.mem_append_right _ (List.mem_append_right _ (List.mem_append_right _ (List.mem_append_right _ (List.mem_append_right _ (List.mem_append_left _ h))))))))))))))))))))))))))))))))))))
theorem qr_29 : ∀ w ∈ wsL_law_r29, w ∈ wsL_law := fun _ h => List.mem_append_left _ (List.mem_append_left _ (List.mem_append_left _ (List.mem_append_left _ (List.mem_append_left _ (List.mem_append_left _ (List.mem_append_left _ (List.mem_append_left _ (List.mem_append_left _ (List.mem_append_right _ (List.mem_append_right _ (List.mem_append_right _ (List.mem_append_right _ (List.mem_append_right _ (List.mem_append_right _ (List.mem_append_right _ (List.mem_append_right _ (List.mem_append_right _ (List.mem_append_right _ (List.mem_append_right _ (List.mem_append_right _ (List.mem_append_right _ (List.mem_append_right _ (List.mem_append_right _ (List.mem_append_right _ (List.mem_append_right _ (List.mem_append_right _ (List.mem_append_right _ (List.mem_append_right _ (List.mem_append_right _ (List.mem_append_right _ (List.mem_append_right _ (List.mem_append_right _ (List.mem_append_right _ (List.mem_append_right _ (List.mem_append_right _ (List.mem_append_right _ (List.mem_append_left _ h)))))))))))))))))))))))))))))))))))))
theorem qr_30 : ∀ w ∈ wsL_law_r30, w ∈ wsL_law := fun _ h => List.mem_append_left _ (List.mem_append_left _ (List.mem_append_left _ (List.mem_append_left _ (List.mem_append_left _ (List.mem_append_left _ (List.mem_append_left _ (List.mem_append_left _ (List.mem_append_left _ (List.mem_append_right _ (List.mem_append_right _ (List.mem_append_right _ (List.mem_append_right _ (List.mem_append_right _ (List.mem_append_right _ (List.mem_append_right _ (List.mem_append_right _ (List.mem_append_right _ (List.mem_append_right _ (List.mem_append_right _ (List.mem_append_right _ (List.mem_append_right _ (List.mem_append_right _ (List.mem_append_right _ (List.mem_append_right _ (List.mem_append_right _ (List.mem_append_right _ (List.mem_append_right _ (List.mem_append_right _ (List.mem_append_right _ (List.mem_append_right _ (List.mem_append_right _ (List.mem_append_right _ (List.mem_append_right _ (List.mem_append_right _ (List.mem_append_right _ (List.mem_append_right _ (List.mem_append_right _ (List.mem_append_left _ h))))))))))))))))))))))))))))))))))))))
theorem qr_31 : ∀ w ∈ wsL_law_r31, w ∈ wsL_law := fun _ h => List.mem_append_left _ (List.mem_append_left _ (List.mem_append_left _ (List.mem_append_left _ (List.mem_append_left _ (List.mem_append_left _ (List.mem_append_left _ (List.mem_append_left _ (List.mem_append_left _ (List.mem_append_right _ (List.mem_append_right _ (List.mem_append_right _ (List.mem_append_right _ (List.mem_append_right _ (List.mem_append_right _ (List.mem_append_right _ (List.mem_append_right _ (List.mem_append_right _ (List.mem_append_right _ (List.mem_append_right _ (List.mem_append_right _ (List.mem_append_right _ (List.mem_append_right _ (List.mem_append_right _ (List.mem_append_right _ (List.mem_append_right _ (List.mem_append_right _ (List.mem_append_right _ (List.mem_append_right _ (List.mem_append_right _ (List.mem_append_right _ (List.mem_append_right _ (List.mem_append_right _ (List.mem_append_right _ (List.mem_append_right _ (List.mem_append_right _ (List.mem_append_right _ (List.mem_append_right _ (List.mem_append_right _ (List.mem_append_left _ h)))))))))))))))))))))))))))))))))))))))
theorem qr_32 : ∀ w ∈ wsL_law_r32, w ∈ wsL_law := fun _ h => List.mem_append_left _ (List.mem_append_left _ (List.mem_append_left _ (List.mem_append_left _ (List.mem_append_left _ (List.mem_append_left _ (List.mem_append_left _ (List.mem_append_left _ (List.mem_append_left _ (List.mem_append_right _ (List.mem_append_right _ (List.mem_append_right _ (List.mem_append_right _ (List.mem_append_right _ (List.mem_append_right _ (List.mem_append_right _ (List.mem_append_right _ (List.mem_append_right _ (List.mem_append_right _ (List.mem_append_right _ (List.mem_append_right _ (List.mem_append_right _ (List.mem_append_right _ (List.mem_append_right _ (List.mem_append_right _ (List.mem_append_right _ (List.mem_append_right _ (List.mem_append_right _ (List.mem_append_right _ (List.mem_append_right _ (List.mem_append_right _ (List.mem_append_right _ (List.mem_append_right _ (List.mem_append_right _ (List.mem_append_right _ (List.mem_append_right _ (List.mem_append_right _ (List.mem_append_right _ (List.mem_append_right _ (List.mem_append_right _ (List.mem_append_left _ h))))))))))))))))))))))))))))))))))))))))
theorem qr_33 : ∀ w ∈ wsL_law_r33, w ∈ wsL_law := fun _ h => List.mem_append_left _ (List.mem_append_left _ (List.mem_append_left _ (List.mem_append_left _ (List.mem_append_left _ (List.mem_append_left _ (List.mem_append_left _ (List.mem_append_left _ (List.mem_append_left _ (List.mem_append_right _ (List.mem_append_right _ (List.mem_append_right _ (List.mem_append_right _ (List.mem_append_right _ (List.mem_append_right _ (List.mem_append_right _ (List.mem_append_right _ (List.mem_append_right _ (List.mem_append_right _ (List.mem_append_right _ (List.mem_append_right _ (List.mem_append_right _ (List.mem_append_right _ (List.mem_append_right _ (List.mem_append_right _ (List.mem_append_right _ (List.mem_append_right _ (List.mem_append_right _ (List.mem_append_right _ (List.mem_append_right _ (List.mem_append_right _ (List.mem_append_right _ (List.mem_append_right _ (List.mem_append_right _ (List.mem_append_right _ (List.mem_append_right _ (List.mem_append_right _ (List.mem_append_right _ (List.mem_append_right _ (List.mem_append_right _ (List.mem_append_right _ (List.mem_append_left _ h)))))))))))))))))))))))))))))))))))))))))
theorem qr_34 : ∀ w ∈ wsL_law_r34, w ∈ wsL_law := fun _ h => List.mem_append_left _ (List.mem_append_left _ (List.mem_append_left _ (List.mem_append_left _ (List.mem_append_left _ (List.mem_append_left _ (List.mem_append_left _ (List.mem_append_left _ (List.mem_append_left _ (List.mem_append_right _ (List.mem_append_right _ (List.mem_append_right _ (List.mem_append_right _ (List.mem_append_right _ (List.mem_append_right _ (List.mem_append_right _ (List.mem_append_right _ (List.mem_append_right _ (List.mem_append_right _ (List.mem_append_right _ (List.mem_append_right _ (List.mem_append_right _ (List.mem_append_right _ (List.mem_append_right _ (List.mem_append_right _ (List.mem_append_right _ (List.mem_append_right _ (List.mem_append_right _ (List.mem_append_right _ (List.mem_append_right _ (List.mem_append_right _ (List.mem_append_right _ (List.mem_append_right _ (List.mem_append_right _ (List.mem_append_right _ (List.mem_append_right _ (List.mem_append_right _ (List.mem_append_right _ (List.mem_append_right _ (List.mem_append_right _ (List.mem_append_right _ (List.mem_append_right _ (h))))))))))))))))))))))))))))))))))))))))))
theorem q_1_0 : Cond.classLink RL 7 RX6 ∈ wsL_law := qr_1 _ (List.mem_of_getElem? (i := 0) rfl)
theorem q_1_1 : Cond.instantiable RX6 6 ∈ wsL_law := qr_1 _ (List.mem_of_getElem? (i := 1) rfl)
theorem q_1_2 : Cond.initialized RX6 ∈ wsL_law := qr_1 _ (List.mem_of_getElem? (i := 2) rfl)
theorem q_1_3 : Cond.classLink RL 10 RX7 ∈ wsL_law := qr_1 _ (List.mem_of_getElem? (i := 3) rfl)
theorem q_1_4 : Cond.instantiable RX7 11 ∈ wsL_law := qr_1 _ (List.mem_of_getElem? (i := 4) rfl)
theorem q_1_5 : Cond.initialized RX7 ∈ wsL_law := qr_1 _ (List.mem_of_getElem? (i := 5) rfl)
theorem q_1_6 : Cond.methodLink RL 9 yX6_init ∈ wsL_law := qr_1 _ (List.mem_of_getElem? (i := 6) rfl)
theorem q_1_7 : Cond.instanceMethod yX6_init ∈ wsL_law := qr_1 _ (List.mem_of_getElem? (i := 7) rfl)
theorem q_1_8 : Cond.code yX6_init cX6_init 2 none ∈ wsL_law := qr_1 _ (List.mem_of_getElem? (i := 8) rfl)
theorem q_1_9 : Cond.methodLink RX6 1 objectInit ∈ wsL_law := qr_1 _ (List.mem_of_getElem? (i := 9) rfl)
theorem q_1_10 : Cond.instanceMethod objectInit ∈ wsL_law := qr_1 _ (List.mem_of_getElem? (i := 10) rfl)
theorem q_1_11 : Cond.code objectInit ⟨#[0xb1]⟩ 1 none ∈ wsL_law := qr_1 _ (List.mem_of_getElem? (i := 11) rfl)
theorem q_1_12 : Cond.classLink RX6 7 RX4 ∈ wsL_law := qr_1 _ (List.mem_of_getElem? (i := 12) rfl)
theorem q_1_13 : Cond.instantiable RX4 14 ∈ wsL_law := qr_1 _ (List.mem_of_getElem? (i := 13) rfl)
theorem q_1_14 : Cond.initialized RX4 ∈ wsL_law := qr_1 _ (List.mem_of_getElem? (i := 14) rfl)
theorem q_1_15 : Cond.fieldLink RX6 10 "DockingMonitor" "present" "LDockingMonitor$State;" ∈ wsL_law := qr_1 _ (List.mem_of_getElem? (i := 15) rfl)
theorem q_1_16 : Cond.fieldLink RX6 16 "DockingMonitor" "forecast" "LDockingMonitor$State;" ∈ wsL_law := qr_1 _ (List.mem_of_getElem? (i := 16) rfl)
theorem q_1_17 : Cond.classLink RX6 19 RX1 ∈ wsL_law := qr_1 _ (List.mem_of_getElem? (i := 17) rfl)
theorem q_1_18 : Cond.instantiable RX1 2 ∈ wsL_law := qr_1 _ (List.mem_of_getElem? (i := 18) rfl)
theorem q_1_19 : Cond.initialized RX1 ∈ wsL_law := qr_1 _ (List.mem_of_getElem? (i := 19) rfl)
theorem q_1_20 : Cond.fieldLink RX6 22 "DockingMonitor" "history" "LDockingMonitor$History;" ∈ wsL_law := qr_1 _ (List.mem_of_getElem? (i := 20) rfl)
theorem q_1_21 : Cond.fieldLink RX6 26 "DockingMonitor" "slots" "[LDockingMonitor$State;" ∈ wsL_law := qr_1 _ (List.mem_of_getElem? (i := 21) rfl)
theorem q_1_22 : Cond.arrayClass .boolean ∈ wsL_law := qr_1 _ (List.mem_of_getElem? (i := 22) rfl)
theorem q_1_23 : Cond.fieldLink RX6 30 "DockingMonitor" "slotFilled" "[Z" ∈ wsL_law := qr_1 _ (List.mem_of_getElem? (i := 23) rfl)
theorem q_2_0 : Cond.classLink RX6 34 RX0 ∈ wsL_law := qr_2 _ (List.mem_of_getElem? (i := 0) rfl)
theorem q_2_1 : Cond.instantiable RX0 2 ∈ wsL_law := qr_2 _ (List.mem_of_getElem? (i := 1) rfl)
theorem q_2_2 : Cond.initialized RX0 ∈ wsL_law := qr_2 _ (List.mem_of_getElem? (i := 2) rfl)
theorem q_2_3 : Cond.fieldLink RX6 37 "DockingMonitor" "text" "LDockingMonitor$ActText;" ∈ wsL_law := qr_2 _ (List.mem_of_getElem? (i := 3) rfl)
theorem q_2_4 : Cond.methodLink RX6 9 yX4_init ∈ wsL_law := qr_2 _ (List.mem_of_getElem? (i := 4) rfl)
theorem q_2_5 : Cond.instanceMethod yX4_init ∈ wsL_law := qr_2 _ (List.mem_of_getElem? (i := 5) rfl)
theorem q_2_6 : Cond.code yX4_init cX4_init 1 none ∈ wsL_law := qr_2 _ (List.mem_of_getElem? (i := 6) rfl)
theorem q_2_7 : Cond.methodLink RX4 3 objectInit ∈ wsL_law := qr_2 _ (List.mem_of_getElem? (i := 7) rfl)
theorem q_2_8 : Cond.constantFloat RX4 9 (1120403456) ∈ wsL_law := qr_2 _ (List.mem_of_getElem? (i := 8) rfl)
theorem q_2_9 : Cond.fieldLink RX4 10 "DockingMonitor$State" "x" "F" ∈ wsL_law := qr_2 _ (List.mem_of_getElem? (i := 9) rfl)
theorem q_2_10 : Cond.fieldLink RX4 16 "DockingMonitor$State" "heldStop" "I" ∈ wsL_law := qr_2 _ (List.mem_of_getElem? (i := 10) rfl)
theorem q_2_11 : Cond.arrayClass .int ∈ wsL_law := qr_2 _ (List.mem_of_getElem? (i := 11) rfl)
theorem q_2_12 : Cond.fieldLink RX4 20 "DockingMonitor$State" "settings" "[I" ∈ wsL_law := qr_2 _ (List.mem_of_getElem? (i := 12) rfl)
theorem q_2_13 : Cond.methodLink RX4 27 arraycopyName ∈ wsL_law := qr_2 _ (List.mem_of_getElem? (i := 13) rfl)
theorem q_2_14 : Cond.native arraycopyName ∈ wsL_law := qr_2 _ (List.mem_of_getElem? (i := 14) rfl)
theorem q_2_15 : Cond.static arraycopyName ∈ wsL_law := qr_2 _ (List.mem_of_getElem? (i := 15) rfl)
theorem q_2_16 : Cond.initialized "java/lang/System" ∈ wsL_law := qr_2 _ (List.mem_of_getElem? (i := 16) rfl)
theorem q_2_17 : Cond.classLink RX4 33 RX2 ∈ wsL_law := qr_2 _ (List.mem_of_getElem? (i := 17) rfl)
theorem q_2_18 : Cond.instantiable RX2 3 ∈ wsL_law := qr_2 _ (List.mem_of_getElem? (i := 18) rfl)
theorem q_2_19 : Cond.initialized RX2 ∈ wsL_law := qr_2 _ (List.mem_of_getElem? (i := 19) rfl)
theorem q_2_20 : Cond.fieldLink RX4 36 "DockingMonitor$State" "profile" "LDockingMonitor$Profile;" ∈ wsL_law := qr_2 _ (List.mem_of_getElem? (i := 20) rfl)
theorem q_2_21 : Cond.classLink RX4 40 RX5 ∈ wsL_law := qr_2 _ (List.mem_of_getElem? (i := 21) rfl)
theorem q_2_22 : Cond.instantiable RX5 3 ∈ wsL_law := qr_2 _ (List.mem_of_getElem? (i := 22) rfl)
theorem q_2_23 : Cond.initialized RX5 ∈ wsL_law := qr_2 _ (List.mem_of_getElem? (i := 23) rfl)
theorem q_3_0 : Cond.fieldLink RX4 43 "DockingMonitor$State" "stops" "LDockingMonitor$Stops;" ∈ wsL_law := qr_3 _ (List.mem_of_getElem? (i := 0) rfl)
theorem q_3_1 : Cond.classLink RX4 47 RX3 ∈ wsL_law := qr_3 _ (List.mem_of_getElem? (i := 1) rfl)
theorem q_3_2 : Cond.instantiable RX3 5 ∈ wsL_law := qr_3 _ (List.mem_of_getElem? (i := 2) rfl)
theorem q_3_3 : Cond.initialized RX3 ∈ wsL_law := qr_3 _ (List.mem_of_getElem? (i := 3) rfl)
theorem q_3_4 : Cond.fieldLink RX4 50 "DockingMonitor$State" "sensors" "LDockingMonitor$Sensors;" ∈ wsL_law := qr_3 _ (List.mem_of_getElem? (i := 4) rfl)
theorem q_3_5 : Cond.methodLink RX4 35 yX2_init ∈ wsL_law := qr_3 _ (List.mem_of_getElem? (i := 5) rfl)
theorem q_3_6 : Cond.instanceMethod yX2_init ∈ wsL_law := qr_3 _ (List.mem_of_getElem? (i := 6) rfl)
theorem q_3_7 : Cond.code yX2_init cX2_init 1 none ∈ wsL_law := qr_3 _ (List.mem_of_getElem? (i := 7) rfl)
theorem q_3_8 : Cond.methodLink RX2 3 objectInit ∈ wsL_law := qr_3 _ (List.mem_of_getElem? (i := 8) rfl)
theorem q_3_9 : Cond.fieldLink RX2 9 "DockingMonitor$Profile" "distances" "[I" ∈ wsL_law := qr_3 _ (List.mem_of_getElem? (i := 9) rfl)
theorem q_3_10 : Cond.fieldLink RX2 15 "DockingMonitor$Profile" "speeds" "[I" ∈ wsL_law := qr_3 _ (List.mem_of_getElem? (i := 10) rfl)
theorem q_3_11 : Cond.methodLink RX4 42 yX5_init ∈ wsL_law := qr_3 _ (List.mem_of_getElem? (i := 11) rfl)
theorem q_3_12 : Cond.instanceMethod yX5_init ∈ wsL_law := qr_3 _ (List.mem_of_getElem? (i := 12) rfl)
theorem q_3_13 : Cond.code yX5_init cX5_init 1 none ∈ wsL_law := qr_3 _ (List.mem_of_getElem? (i := 13) rfl)
theorem q_3_14 : Cond.methodLink RX5 3 objectInit ∈ wsL_law := qr_3 _ (List.mem_of_getElem? (i := 14) rfl)
theorem q_3_15 : Cond.fieldLink RX5 9 "DockingMonitor$Stops" "distances" "[I" ∈ wsL_law := qr_3 _ (List.mem_of_getElem? (i := 15) rfl)
theorem q_3_16 : Cond.fieldLink RX5 15 "DockingMonitor$Stops" "opened" "[Z" ∈ wsL_law := qr_3 _ (List.mem_of_getElem? (i := 16) rfl)
theorem q_3_17 : Cond.instanceMethod yX3_init ∈ wsL_law := qr_3 _ (List.mem_of_getElem? (i := 17) rfl)
theorem q_3_18 : Cond.code yX3_init cX3_init 1 none ∈ wsL_law := qr_3 _ (List.mem_of_getElem? (i := 18) rfl)
theorem q_3_19 : Cond.methodLink RX3 1 objectInit ∈ wsL_law := qr_3 _ (List.mem_of_getElem? (i := 19) rfl)
theorem q_3_20 : Cond.methodLink RX6 21 yX1_init ∈ wsL_law := qr_3 _ (List.mem_of_getElem? (i := 20) rfl)
theorem q_3_21 : Cond.instanceMethod yX1_init ∈ wsL_law := qr_3 _ (List.mem_of_getElem? (i := 21) rfl)
theorem q_3_22 : Cond.code yX1_init cX1_init 2 none ∈ wsL_law := qr_3 _ (List.mem_of_getElem? (i := 22) rfl)
theorem q_3_23 : Cond.methodLink RX1 3 objectInit ∈ wsL_law := qr_3 _ (List.mem_of_getElem? (i := 23) rfl)
theorem q_4_0 : Cond.classLink RX1 9 RX4 ∈ wsL_law := qr_4 _ (List.mem_of_getElem? (i := 0) rfl)
theorem q_4_1 : Cond.fieldLink RX1 11 "DockingMonitor$History" "rows" "[LDockingMonitor$State;" ∈ wsL_law := qr_4 _ (List.mem_of_getElem? (i := 1) rfl)
theorem q_4_2 : Cond.methodLink RX1 17 yX4_init ∈ wsL_law := qr_4 _ (List.mem_of_getElem? (i := 2) rfl)
theorem q_4_3 : Cond.methodLink RX6 36 yX0_init ∈ wsL_law := qr_4 _ (List.mem_of_getElem? (i := 3) rfl)
theorem q_4_4 : Cond.instanceMethod yX0_init ∈ wsL_law := qr_4 _ (List.mem_of_getElem? (i := 4) rfl)
theorem q_4_5 : Cond.code yX0_init cX0_init 1 none ∈ wsL_law := qr_4 _ (List.mem_of_getElem? (i := 5) rfl)
theorem q_4_6 : Cond.methodLink RX0 3 objectInit ∈ wsL_law := qr_4 _ (List.mem_of_getElem? (i := 6) rfl)
theorem q_4_7 : Cond.arrayClass .byte ∈ wsL_law := qr_4 _ (List.mem_of_getElem? (i := 7) rfl)
theorem q_4_8 : Cond.fieldLink RX0 9 "DockingMonitor$ActText" "bytes" "[B" ∈ wsL_law := qr_4 _ (List.mem_of_getElem? (i := 8) rfl)
theorem q_4_9 : Cond.methodLink RL 12 yX7_init ∈ wsL_law := qr_4 _ (List.mem_of_getElem? (i := 9) rfl)
theorem q_4_10 : Cond.instanceMethod yX7_init ∈ wsL_law := qr_4 _ (List.mem_of_getElem? (i := 10) rfl)
theorem q_4_11 : Cond.code yX7_init cX7_init 1 none ∈ wsL_law := qr_4 _ (List.mem_of_getElem? (i := 11) rfl)
theorem q_4_12 : Cond.methodLink RX7 1 objectInit ∈ wsL_law := qr_4 _ (List.mem_of_getElem? (i := 12) rfl)
theorem q_4_13 : Cond.fieldLink RX7 7 "DockingMonitorModel" "now" "[I" ∈ wsL_law := qr_4 _ (List.mem_of_getElem? (i := 13) rfl)
theorem q_4_14 : Cond.arrayClass .float ∈ wsL_law := qr_4 _ (List.mem_of_getElem? (i := 14) rfl)
theorem q_4_15 : Cond.fieldLink RX7 13 "DockingMonitorModel" "ship" "[F" ∈ wsL_law := qr_4 _ (List.mem_of_getElem? (i := 15) rfl)
theorem q_4_16 : Cond.fieldLink RX7 17 "DockingMonitorModel" "kept" "[I" ∈ wsL_law := qr_4 _ (List.mem_of_getElem? (i := 16) rfl)
theorem q_4_17 : Cond.fieldLink RX7 20 "DockingMonitorModel" "keptShip" "[F" ∈ wsL_law := qr_4 _ (List.mem_of_getElem? (i := 17) rfl)
theorem q_4_18 : Cond.fieldLink RX7 23 "DockingMonitorModel" "isSaved" "[I" ∈ wsL_law := qr_4 _ (List.mem_of_getElem? (i := 18) rfl)
theorem q_4_19 : Cond.fieldLink RX7 26 "DockingMonitorModel" "text" "[I" ∈ wsL_law := qr_4 _ (List.mem_of_getElem? (i := 19) rfl)
theorem q_4_20 : Cond.constantFloat RX7 29 (1120403456) ∈ wsL_law := qr_4 _ (List.mem_of_getElem? (i := 20) rfl)
theorem q_4_21 : Cond.methodLink RL 13 yX6_place ∈ wsL_law := qr_4 _ (List.mem_of_getElem? (i := 21) rfl)
theorem q_4_22 : Cond.instanceMethod yX6_place ∈ wsL_law := qr_4 _ (List.mem_of_getElem? (i := 22) rfl)
theorem q_4_23 : Cond.selects RX6 yX6_place yX6_place ∈ wsL_law := qr_4 _ (List.mem_of_getElem? (i := 23) rfl)
theorem q_5_0 : Cond.code yX6_place cX6_place 5 (some .int) ∈ wsL_law := qr_5 _ (List.mem_of_getElem? (i := 0) rfl)
theorem q_5_1 : Cond.constant RX6 41 (100000) ∈ wsL_law := qr_5 _ (List.mem_of_getElem? (i := 1) rfl)
theorem q_5_2 : Cond.constantFloat RX6 50 (1120403456) ∈ wsL_law := qr_5 _ (List.mem_of_getElem? (i := 2) rfl)
theorem q_5_3 : Cond.constantFloat RX6 51 (1148846080) ∈ wsL_law := qr_5 _ (List.mem_of_getElem? (i := 3) rfl)
theorem q_5_4 : Cond.methodLink RX6 42 yX6_isBeyond ∈ wsL_law := qr_5 _ (List.mem_of_getElem? (i := 4) rfl)
theorem q_5_5 : Cond.static yX6_isBeyond ∈ wsL_law := qr_5 _ (List.mem_of_getElem? (i := 5) rfl)
theorem q_5_6 : Cond.code yX6_isBeyond cX6_isBeyond 2 (some .boolean) ∈ wsL_law := qr_5 _ (List.mem_of_getElem? (i := 6) rfl)
theorem q_5_7 : Cond.methodLink RX6 46 yX1_keep ∈ wsL_law := qr_5 _ (List.mem_of_getElem? (i := 7) rfl)
theorem q_5_8 : Cond.instanceMethod yX1_keep ∈ wsL_law := qr_5 _ (List.mem_of_getElem? (i := 8) rfl)
theorem q_5_9 : Cond.selects RX1 yX1_keep yX1_keep ∈ wsL_law := qr_5 _ (List.mem_of_getElem? (i := 9) rfl)
theorem q_5_10 : Cond.code yX1_keep cX1_keep 2 none ∈ wsL_law := qr_5 _ (List.mem_of_getElem? (i := 10) rfl)
theorem q_5_11 : Cond.fieldLink RX1 18 "DockingMonitor$History" "count" "I" ∈ wsL_law := qr_5 _ (List.mem_of_getElem? (i := 11) rfl)
theorem q_5_12 : Cond.methodLink RX1 22 yX1_dropOldest ∈ wsL_law := qr_5 _ (List.mem_of_getElem? (i := 12) rfl)
theorem q_5_13 : Cond.instanceMethod yX1_dropOldest ∈ wsL_law := qr_5 _ (List.mem_of_getElem? (i := 13) rfl)
theorem q_5_14 : Cond.selects RX1 yX1_dropOldest yX1_dropOldest ∈ wsL_law := qr_5 _ (List.mem_of_getElem? (i := 14) rfl)
theorem q_5_15 : Cond.code yX1_dropOldest cX1_dropOldest 3 none ∈ wsL_law := qr_5 _ (List.mem_of_getElem? (i := 15) rfl)
theorem q_5_16 : Cond.methodLink RX1 25 yX4_copyFrom ∈ wsL_law := qr_5 _ (List.mem_of_getElem? (i := 16) rfl)
theorem q_5_17 : Cond.instanceMethod yX4_copyFrom ∈ wsL_law := qr_5 _ (List.mem_of_getElem? (i := 17) rfl)
theorem q_5_18 : Cond.selects RX4 yX4_copyFrom yX4_copyFrom ∈ wsL_law := qr_5 _ (List.mem_of_getElem? (i := 18) rfl)
theorem q_5_19 : Cond.code yX4_copyFrom cX4_copyFrom 2 none ∈ wsL_law := qr_5 _ (List.mem_of_getElem? (i := 19) rfl)
theorem q_5_20 : Cond.fieldLink RX4 54 "DockingMonitor$State" "y" "F" ∈ wsL_law := qr_5 _ (List.mem_of_getElem? (i := 20) rfl)
theorem q_5_21 : Cond.fieldLink RX4 57 "DockingMonitor$State" "vx" "F" ∈ wsL_law := qr_5 _ (List.mem_of_getElem? (i := 21) rfl)
theorem q_5_22 : Cond.fieldLink RX4 60 "DockingMonitor$State" "vy" "F" ∈ wsL_law := qr_5 _ (List.mem_of_getElem? (i := 22) rfl)
theorem q_5_23 : Cond.fieldLink RX4 63 "DockingMonitor$State" "mode" "I" ∈ wsL_law := qr_5 _ (List.mem_of_getElem? (i := 23) rfl)
theorem q_6_0 : Cond.fieldLink RX4 66 "DockingMonitor$State" "holdDistance" "F" ∈ wsL_law := qr_6 _ (List.mem_of_getElem? (i := 0) rfl)
theorem q_6_1 : Cond.fieldLink RX4 69 "DockingMonitor$State" "strikes" "I" ∈ wsL_law := qr_6 _ (List.mem_of_getElem? (i := 1) rfl)
theorem q_6_2 : Cond.fieldLink RX4 72 "DockingMonitor$State" "seconds" "I" ∈ wsL_law := qr_6 _ (List.mem_of_getElem? (i := 2) rfl)
theorem q_6_3 : Cond.fieldLink RX4 75 "DockingMonitor$State" "judgedRetreats" "I" ∈ wsL_law := qr_6 _ (List.mem_of_getElem? (i := 3) rfl)
theorem q_6_4 : Cond.methodLink RX4 78 yX2_copyFrom ∈ wsL_law := qr_6 _ (List.mem_of_getElem? (i := 4) rfl)
theorem q_6_5 : Cond.instanceMethod yX2_copyFrom ∈ wsL_law := qr_6 _ (List.mem_of_getElem? (i := 5) rfl)
theorem q_6_6 : Cond.selects RX2 yX2_copyFrom yX2_copyFrom ∈ wsL_law := qr_6 _ (List.mem_of_getElem? (i := 6) rfl)
theorem q_6_7 : Cond.code yX2_copyFrom cX2_copyFrom 2 none ∈ wsL_law := qr_6 _ (List.mem_of_getElem? (i := 7) rfl)
theorem q_6_8 : Cond.fieldLink RX2 18 "DockingMonitor$Profile" "count" "I" ∈ wsL_law := qr_6 _ (List.mem_of_getElem? (i := 8) rfl)
theorem q_6_9 : Cond.methodLink RX2 22 arraycopyName ∈ wsL_law := qr_6 _ (List.mem_of_getElem? (i := 9) rfl)
theorem q_6_10 : Cond.methodLink RX4 82 yX5_copyFrom ∈ wsL_law := qr_6 _ (List.mem_of_getElem? (i := 10) rfl)
theorem q_6_11 : Cond.instanceMethod yX5_copyFrom ∈ wsL_law := qr_6 _ (List.mem_of_getElem? (i := 11) rfl)
theorem q_6_12 : Cond.selects RX5 yX5_copyFrom yX5_copyFrom ∈ wsL_law := qr_6 _ (List.mem_of_getElem? (i := 12) rfl)
theorem q_6_13 : Cond.code yX5_copyFrom cX5_copyFrom 3 none ∈ wsL_law := qr_6 _ (List.mem_of_getElem? (i := 13) rfl)
theorem q_6_14 : Cond.fieldLink RX5 19 "DockingMonitor$Stops" "count" "I" ∈ wsL_law := qr_6 _ (List.mem_of_getElem? (i := 14) rfl)
theorem q_6_15 : Cond.methodLink RX4 85 yX3_copyFrom ∈ wsL_law := qr_6 _ (List.mem_of_getElem? (i := 15) rfl)
theorem q_6_16 : Cond.instanceMethod yX3_copyFrom ∈ wsL_law := qr_6 _ (List.mem_of_getElem? (i := 16) rfl)
theorem q_6_17 : Cond.selects RX3 yX3_copyFrom yX3_copyFrom ∈ wsL_law := qr_6 _ (List.mem_of_getElem? (i := 17) rfl)
theorem q_6_18 : Cond.code yX3_copyFrom cX3_copyFrom 2 none ∈ wsL_law := qr_6 _ (List.mem_of_getElem? (i := 18) rfl)
theorem q_6_19 : Cond.fieldLink RX3 7 "DockingMonitor$Sensors" "farBias" "I" ∈ wsL_law := qr_6 _ (List.mem_of_getElem? (i := 19) rfl)
theorem q_6_20 : Cond.fieldLink RX3 13 "DockingMonitor$Sensors" "nearBias" "I" ∈ wsL_law := qr_6 _ (List.mem_of_getElem? (i := 20) rfl)
theorem q_6_21 : Cond.fieldLink RX3 16 "DockingMonitor$Sensors" "nearInUse" "Z" ∈ wsL_law := qr_6 _ (List.mem_of_getElem? (i := 21) rfl)
theorem q_6_22 : Cond.fieldLink RX3 20 "DockingMonitor$Sensors" "agreements" "I" ∈ wsL_law := qr_6 _ (List.mem_of_getElem? (i := 22) rfl)
theorem q_6_23 : Cond.fieldLink RX3 23 "DockingMonitor$Sensors" "changes" "I" ∈ wsL_law := qr_6 _ (List.mem_of_getElem? (i := 23) rfl)
theorem q_7_0 : Cond.methodLink RX6 52 yX4_putShip ∈ wsL_law := qr_7 _ (List.mem_of_getElem? (i := 0) rfl)
theorem q_7_1 : Cond.instanceMethod yX4_putShip ∈ wsL_law := qr_7 _ (List.mem_of_getElem? (i := 1) rfl)
theorem q_7_2 : Cond.selects RX4 yX4_putShip yX4_putShip ∈ wsL_law := qr_7 _ (List.mem_of_getElem? (i := 2) rfl)
theorem q_7_3 : Cond.code yX4_putShip cX4_putShip 5 none ∈ wsL_law := qr_7 _ (List.mem_of_getElem? (i := 3) rfl)
theorem q_7_4 : Cond.methodLink RX4 88 yX4_enter ∈ wsL_law := qr_7 _ (List.mem_of_getElem? (i := 4) rfl)
theorem q_7_5 : Cond.instanceMethod yX4_enter ∈ wsL_law := qr_7 _ (List.mem_of_getElem? (i := 5) rfl)
theorem q_7_6 : Cond.selects RX4 yX4_enter yX4_enter ∈ wsL_law := qr_7 _ (List.mem_of_getElem? (i := 6) rfl)
theorem q_7_7 : Cond.code yX4_enter cX4_enter 2 none ∈ wsL_law := qr_7 _ (List.mem_of_getElem? (i := 7) rfl)
theorem q_7_8 : Cond.methodLink RX4 92 yX3_startFar ∈ wsL_law := qr_7 _ (List.mem_of_getElem? (i := 8) rfl)
theorem q_7_9 : Cond.instanceMethod yX3_startFar ∈ wsL_law := qr_7 _ (List.mem_of_getElem? (i := 9) rfl)
theorem q_7_10 : Cond.selects RX3 yX3_startFar yX3_startFar ∈ wsL_law := qr_7 _ (List.mem_of_getElem? (i := 10) rfl)
theorem q_7_11 : Cond.code yX3_startFar cX3_startFar 1 none ∈ wsL_law := qr_7 _ (List.mem_of_getElem? (i := 11) rfl)
theorem q_7_12 : Cond.methodLink RX6 56 yX4_judge ∈ wsL_law := qr_7 _ (List.mem_of_getElem? (i := 12) rfl)
theorem q_7_13 : Cond.instanceMethod yX4_judge ∈ wsL_law := qr_7 _ (List.mem_of_getElem? (i := 13) rfl)
theorem q_7_14 : Cond.selects RX4 yX4_judge yX4_judge ∈ wsL_law := qr_7 _ (List.mem_of_getElem? (i := 14) rfl)
theorem q_7_15 : Cond.code yX4_judge cX4_judge 2 (some .int) ∈ wsL_law := qr_7 _ (List.mem_of_getElem? (i := 15) rfl)
theorem q_7_16 : Cond.constantFloat RX4 151 (1148846080) ∈ wsL_law := qr_7 _ (List.mem_of_getElem? (i := 16) rfl)
theorem q_7_17 : Cond.static yX6_size ∈ wsL_law := qr_7 _ (List.mem_of_getElem? (i := 17) rfl)
theorem q_7_18 : Cond.code yX6_size cX6_size 1 (some .float) ∈ wsL_law := qr_7 _ (List.mem_of_getElem? (i := 18) rfl)
theorem q_7_19 : Cond.methodLink RX4 178 yX4_isTooFast ∈ wsL_law := qr_7 _ (List.mem_of_getElem? (i := 19) rfl)
theorem q_7_20 : Cond.instanceMethod yX4_isTooFast ∈ wsL_law := qr_7 _ (List.mem_of_getElem? (i := 20) rfl)
theorem q_7_21 : Cond.selects RX4 yX4_isTooFast yX4_isTooFast ∈ wsL_law := qr_7 _ (List.mem_of_getElem? (i := 21) rfl)
theorem q_7_22 : Cond.code yX4_isTooFast cX4_isTooFast 2 (some .boolean) ∈ wsL_law := qr_7 _ (List.mem_of_getElem? (i := 22) rfl)
theorem q_7_23 : Cond.constantFloat RX4 185 (1008981770) ∈ wsL_law := qr_7 _ (List.mem_of_getElem? (i := 23) rfl)
theorem q_8_0 : Cond.methodLink RX4 157 yX2_limitAt ∈ wsL_law := qr_8 _ (List.mem_of_getElem? (i := 0) rfl)
theorem q_8_1 : Cond.instanceMethod yX2_limitAt ∈ wsL_law := qr_8 _ (List.mem_of_getElem? (i := 1) rfl)
theorem q_8_2 : Cond.selects RX2 yX2_limitAt yX2_limitAt ∈ wsL_law := qr_8 _ (List.mem_of_getElem? (i := 2) rfl)
theorem q_8_3 : Cond.code yX2_limitAt cX2_limitAt 7 (some .float) ∈ wsL_law := qr_8 _ (List.mem_of_getElem? (i := 3) rfl)
theorem q_8_4 : Cond.constantFloat RX2 32 (1056964608) ∈ wsL_law := qr_8 _ (List.mem_of_getElem? (i := 4) rfl)
theorem q_8_5 : Cond.constantFloat RX2 33 (1120403456) ∈ wsL_law := qr_8 _ (List.mem_of_getElem? (i := 5) rfl)
theorem q_8_6 : Cond.constantFloat RX2 34 (1148846080) ∈ wsL_law := qr_8 _ (List.mem_of_getElem? (i := 6) rfl)
theorem q_8_7 : Cond.methodLink RX4 182 yX4_hasUnsafeDrift ∈ wsL_law := qr_8 _ (List.mem_of_getElem? (i := 7) rfl)
theorem q_8_8 : Cond.instanceMethod yX4_hasUnsafeDrift ∈ wsL_law := qr_8 _ (List.mem_of_getElem? (i := 8) rfl)
theorem q_8_9 : Cond.selects RX4 yX4_hasUnsafeDrift yX4_hasUnsafeDrift ∈ wsL_law := qr_8 _ (List.mem_of_getElem? (i := 9) rfl)
theorem q_8_10 : Cond.code yX4_hasUnsafeDrift cX4_hasUnsafeDrift 9 (some .boolean) ∈ wsL_law := qr_8 _ (List.mem_of_getElem? (i := 10) rfl)
theorem q_8_11 : Cond.methodLink RL 17 yX7_place ∈ wsL_law := qr_8 _ (List.mem_of_getElem? (i := 11) rfl)
theorem q_8_12 : Cond.instanceMethod yX7_place ∈ wsL_law := qr_8 _ (List.mem_of_getElem? (i := 12) rfl)
theorem q_8_13 : Cond.selects RX7 yX7_place yX7_place ∈ wsL_law := qr_8 _ (List.mem_of_getElem? (i := 13) rfl)
theorem q_8_14 : Cond.code yX7_place cX7_place 6 (some .int) ∈ wsL_law := qr_8 _ (List.mem_of_getElem? (i := 14) rfl)
theorem q_8_15 : Cond.constant RX7 49 (100000) ∈ wsL_law := qr_8 _ (List.mem_of_getElem? (i := 15) rfl)
theorem q_8_16 : Cond.constant RX7 50 (-100000) ∈ wsL_law := qr_8 _ (List.mem_of_getElem? (i := 16) rfl)
theorem q_8_17 : Cond.methodLink RX7 42 yX7_isIn ∈ wsL_law := qr_8 _ (List.mem_of_getElem? (i := 17) rfl)
theorem q_8_18 : Cond.static yX7_isIn ∈ wsL_law := qr_8 _ (List.mem_of_getElem? (i := 18) rfl)
theorem q_8_19 : Cond.code yX7_isIn cX7_isIn 3 (some .boolean) ∈ wsL_law := qr_8 _ (List.mem_of_getElem? (i := 19) rfl)
theorem q_8_20 : Cond.methodLink RX7 46 yX7_records ∈ wsL_law := qr_8 _ (List.mem_of_getElem? (i := 20) rfl)
theorem q_8_21 : Cond.instanceMethod yX7_records ∈ wsL_law := qr_8 _ (List.mem_of_getElem? (i := 21) rfl)
theorem q_8_22 : Cond.selects RX7 yX7_records yX7_records ∈ wsL_law := qr_8 _ (List.mem_of_getElem? (i := 22) rfl)
theorem q_8_23 : Cond.code yX7_records cX7_records 2 none ∈ wsL_law := qr_8 _ (List.mem_of_getElem? (i := 23) rfl)
theorem q_9_0 : Cond.fieldLink RX7 31 "DockingMonitorModel" "states" "I" ∈ wsL_law := qr_9 _ (List.mem_of_getElem? (i := 0) rfl)
theorem q_9_1 : Cond.methodLink RX7 35 yX7_keeps ∈ wsL_law := qr_9 _ (List.mem_of_getElem? (i := 1) rfl)
theorem q_9_2 : Cond.instanceMethod yX7_keeps ∈ wsL_law := qr_9 _ (List.mem_of_getElem? (i := 2) rfl)
theorem q_9_3 : Cond.selects RX7 yX7_keeps yX7_keeps ∈ wsL_law := qr_9 _ (List.mem_of_getElem? (i := 3) rfl)
theorem q_9_4 : Cond.code yX7_keeps cX7_keeps 3 none ∈ wsL_law := qr_9 _ (List.mem_of_getElem? (i := 4) rfl)
theorem q_9_5 : Cond.methodLink RX7 51 yX7_metres ∈ wsL_law := qr_9 _ (List.mem_of_getElem? (i := 5) rfl)
theorem q_9_6 : Cond.static yX7_metres ∈ wsL_law := qr_9 _ (List.mem_of_getElem? (i := 6) rfl)
theorem q_9_7 : Cond.code yX7_metres cX7_metres 1 (some .float) ∈ wsL_law := qr_9 _ (List.mem_of_getElem? (i := 7) rfl)
theorem q_9_8 : Cond.methodLink RX7 55 yX7_thousandth ∈ wsL_law := qr_9 _ (List.mem_of_getElem? (i := 8) rfl)
theorem q_9_9 : Cond.static yX7_thousandth ∈ wsL_law := qr_9 _ (List.mem_of_getElem? (i := 9) rfl)
theorem q_9_10 : Cond.code yX7_thousandth cX7_thousandth 1 (some .float) ∈ wsL_law := qr_9 _ (List.mem_of_getElem? (i := 10) rfl)
theorem q_9_11 : Cond.constantFloat RX7 30 (1148846080) ∈ wsL_law := qr_9 _ (List.mem_of_getElem? (i := 11) rfl)
theorem q_9_12 : Cond.methodLink RX7 58 yX7_judged ∈ wsL_law := qr_9 _ (List.mem_of_getElem? (i := 12) rfl)
theorem q_9_13 : Cond.instanceMethod yX7_judged ∈ wsL_law := qr_9 _ (List.mem_of_getElem? (i := 13) rfl)
theorem q_9_14 : Cond.selects RX7 yX7_judged yX7_judged ∈ wsL_law := qr_9 _ (List.mem_of_getElem? (i := 14) rfl)
theorem q_9_15 : Cond.code yX7_judged cX7_judged 1 (some .int) ∈ wsL_law := qr_9 _ (List.mem_of_getElem? (i := 15) rfl)
theorem q_9_16 : Cond.methodLink RX7 92 yX7_isOff ∈ wsL_law := qr_9 _ (List.mem_of_getElem? (i := 16) rfl)
theorem q_9_17 : Cond.instanceMethod yX7_isOff ∈ wsL_law := qr_9 _ (List.mem_of_getElem? (i := 17) rfl)
theorem q_9_18 : Cond.selects RX7 yX7_isOff yX7_isOff ∈ wsL_law := qr_9 _ (List.mem_of_getElem? (i := 18) rfl)
theorem q_9_19 : Cond.code yX7_isOff cX7_isOff 3 (some .boolean) ∈ wsL_law := qr_9 _ (List.mem_of_getElem? (i := 19) rfl)
theorem q_9_20 : Cond.methodLink RX7 84 yX7_sizeOf ∈ wsL_law := qr_9 _ (List.mem_of_getElem? (i := 20) rfl)
theorem q_9_21 : Cond.static yX7_sizeOf ∈ wsL_law := qr_9 _ (List.mem_of_getElem? (i := 21) rfl)
theorem q_9_22 : Cond.code yX7_sizeOf cX7_sizeOf 1 (some .float) ∈ wsL_law := qr_9 _ (List.mem_of_getElem? (i := 22) rfl)
theorem q_9_23 : Cond.methodLink RX7 96 yX7_isTooFast ∈ wsL_law := qr_9 _ (List.mem_of_getElem? (i := 23) rfl)
theorem q_10_0 : Cond.instanceMethod yX7_isTooFast ∈ wsL_law := qr_10 _ (List.mem_of_getElem? (i := 0) rfl)
theorem q_10_1 : Cond.selects RX7 yX7_isTooFast yX7_isTooFast ∈ wsL_law := qr_10 _ (List.mem_of_getElem? (i := 1) rfl)
theorem q_10_2 : Cond.code yX7_isTooFast cX7_isTooFast 2 (some .boolean) ∈ wsL_law := qr_10 _ (List.mem_of_getElem? (i := 2) rfl)
theorem q_10_3 : Cond.constantFloat RX7 91 (1008981770) ∈ wsL_law := qr_10 _ (List.mem_of_getElem? (i := 3) rfl)
theorem q_10_4 : Cond.methodLink RX7 88 yX7_limitAt ∈ wsL_law := qr_10 _ (List.mem_of_getElem? (i := 4) rfl)
theorem q_10_5 : Cond.instanceMethod yX7_limitAt ∈ wsL_law := qr_10 _ (List.mem_of_getElem? (i := 5) rfl)
theorem q_10_6 : Cond.selects RX7 yX7_limitAt yX7_limitAt ∈ wsL_law := qr_10 _ (List.mem_of_getElem? (i := 6) rfl)
theorem q_10_7 : Cond.code yX7_limitAt cX7_limitAt 8 (some .float) ∈ wsL_law := qr_10 _ (List.mem_of_getElem? (i := 7) rfl)
theorem q_10_8 : Cond.constantFloat RX7 72 (1056964608) ∈ wsL_law := qr_10 _ (List.mem_of_getElem? (i := 8) rfl)
theorem q_10_9 : Cond.methodLink RX7 69 yX7_distanceOf ∈ wsL_law := qr_10 _ (List.mem_of_getElem? (i := 9) rfl)
theorem q_10_10 : Cond.instanceMethod yX7_distanceOf ∈ wsL_law := qr_10 _ (List.mem_of_getElem? (i := 10) rfl)
theorem q_10_11 : Cond.selects RX7 yX7_distanceOf yX7_distanceOf ∈ wsL_law := qr_10 _ (List.mem_of_getElem? (i := 11) rfl)
theorem q_10_12 : Cond.code yX7_distanceOf cX7_distanceOf 2 (some .int) ∈ wsL_law := qr_10 _ (List.mem_of_getElem? (i := 12) rfl)
theorem q_10_13 : Cond.methodLink RX7 73 yX7_speedOf ∈ wsL_law := qr_10 _ (List.mem_of_getElem? (i := 13) rfl)
theorem q_10_14 : Cond.instanceMethod yX7_speedOf ∈ wsL_law := qr_10 _ (List.mem_of_getElem? (i := 14) rfl)
theorem q_10_15 : Cond.selects RX7 yX7_speedOf yX7_speedOf ∈ wsL_law := qr_10 _ (List.mem_of_getElem? (i := 15) rfl)
theorem q_10_16 : Cond.code yX7_speedOf cX7_speedOf 2 (some .float) ∈ wsL_law := qr_10 _ (List.mem_of_getElem? (i := 16) rfl)
theorem q_10_17 : Cond.methodLink RX7 100 yX7_isUnsafe ∈ wsL_law := qr_10 _ (List.mem_of_getElem? (i := 17) rfl)
theorem q_10_18 : Cond.instanceMethod yX7_isUnsafe ∈ wsL_law := qr_10 _ (List.mem_of_getElem? (i := 18) rfl)
theorem q_10_19 : Cond.selects RX7 yX7_isUnsafe yX7_isUnsafe ∈ wsL_law := qr_10 _ (List.mem_of_getElem? (i := 19) rfl)
theorem q_10_20 : Cond.code yX7_isUnsafe cX7_isUnsafe 7 (some .boolean) ∈ wsL_law := qr_10 _ (List.mem_of_getElem? (i := 20) rfl)
theorem q_10_21 : Cond.methodLink RL 18 yX6_set ∈ wsL_law := qr_10 _ (List.mem_of_getElem? (i := 21) rfl)
theorem q_10_22 : Cond.instanceMethod yX6_set ∈ wsL_law := qr_10 _ (List.mem_of_getElem? (i := 22) rfl)
theorem q_10_23 : Cond.selects RX6 yX6_set yX6_set ∈ wsL_law := qr_10 _ (List.mem_of_getElem? (i := 23) rfl)
theorem q_11_0 : Cond.code yX6_set cX6_set 4 (some .int) ∈ wsL_law := qr_11 _ (List.mem_of_getElem? (i := 0) rfl)
theorem q_11_1 : Cond.fieldLink RX6 60 "DockingMonitor" "SETTING_LEAST" "[I" ∈ wsL_law := qr_11 _ (List.mem_of_getElem? (i := 1) rfl)
theorem q_11_2 : Cond.fieldLink RX6 64 "DockingMonitor" "SETTING_GREATEST" "[I" ∈ wsL_law := qr_11 _ (List.mem_of_getElem? (i := 2) rfl)
theorem q_11_3 : Cond.fieldLink RX6 67 "DockingMonitor$State" "settings" "[I" ∈ wsL_law := qr_11 _ (List.mem_of_getElem? (i := 3) rfl)
theorem q_11_4 : Cond.methodLink RL 22 yX7_set ∈ wsL_law := qr_11 _ (List.mem_of_getElem? (i := 4) rfl)
theorem q_11_5 : Cond.instanceMethod yX7_set ∈ wsL_law := qr_11 _ (List.mem_of_getElem? (i := 5) rfl)
theorem q_11_6 : Cond.selects RX7 yX7_set yX7_set ∈ wsL_law := qr_11 _ (List.mem_of_getElem? (i := 6) rfl)
theorem q_11_7 : Cond.code yX7_set cX7_set 4 (some .int) ∈ wsL_law := qr_11 _ (List.mem_of_getElem? (i := 7) rfl)
theorem q_11_8 : Cond.methodLink RX7 62 yX7_leastOf ∈ wsL_law := qr_11 _ (List.mem_of_getElem? (i := 8) rfl)
theorem q_11_9 : Cond.static yX7_leastOf ∈ wsL_law := qr_11 _ (List.mem_of_getElem? (i := 9) rfl)
theorem q_11_10 : Cond.code yX7_leastOf cX7_leastOf 1 (some .int) ∈ wsL_law := qr_11 _ (List.mem_of_getElem? (i := 10) rfl)
theorem q_11_11 : Cond.methodLink RX7 66 yX7_mostOf ∈ wsL_law := qr_11 _ (List.mem_of_getElem? (i := 11) rfl)
theorem q_11_12 : Cond.static yX7_mostOf ∈ wsL_law := qr_11 _ (List.mem_of_getElem? (i := 12) rfl)
theorem q_11_13 : Cond.code yX7_mostOf cX7_mostOf 1 (some .int) ∈ wsL_law := qr_11 _ (List.mem_of_getElem? (i := 13) rfl)
theorem q_11_14 : Cond.methodLink RL 23 yX6_setPoint ∈ wsL_law := qr_11 _ (List.mem_of_getElem? (i := 14) rfl)
theorem q_11_15 : Cond.instanceMethod yX6_setPoint ∈ wsL_law := qr_11 _ (List.mem_of_getElem? (i := 15) rfl)
theorem q_11_16 : Cond.selects RX6 yX6_setPoint yX6_setPoint ∈ wsL_law := qr_11 _ (List.mem_of_getElem? (i := 16) rfl)
theorem q_11_17 : Cond.code yX6_setPoint cX6_setPoint 3 (some .int) ∈ wsL_law := qr_11 _ (List.mem_of_getElem? (i := 17) rfl)
theorem q_11_18 : Cond.fieldLink RX6 70 "DockingMonitor$State" "profile" "LDockingMonitor$Profile;" ∈ wsL_law := qr_11 _ (List.mem_of_getElem? (i := 18) rfl)
theorem q_11_19 : Cond.fieldLink RX6 84 "DockingMonitor$Profile" "count" "I" ∈ wsL_law := qr_11 _ (List.mem_of_getElem? (i := 19) rfl)
theorem q_11_20 : Cond.methodLink RX6 74 yX2_hasRoomFor ∈ wsL_law := qr_11 _ (List.mem_of_getElem? (i := 20) rfl)
theorem q_11_21 : Cond.instanceMethod yX2_hasRoomFor ∈ wsL_law := qr_11 _ (List.mem_of_getElem? (i := 21) rfl)
theorem q_11_22 : Cond.selects RX2 yX2_hasRoomFor yX2_hasRoomFor ∈ wsL_law := qr_11 _ (List.mem_of_getElem? (i := 22) rfl)
theorem q_11_23 : Cond.code yX2_hasRoomFor cX2_hasRoomFor 3 (some .boolean) ∈ wsL_law := qr_11 _ (List.mem_of_getElem? (i := 23) rfl)
theorem q_12_0 : Cond.methodLink RX2 28 yX2_indexFor ∈ wsL_law := qr_12 _ (List.mem_of_getElem? (i := 0) rfl)
theorem q_12_1 : Cond.instanceMethod yX2_indexFor ∈ wsL_law := qr_12 _ (List.mem_of_getElem? (i := 1) rfl)
theorem q_12_2 : Cond.selects RX2 yX2_indexFor yX2_indexFor ∈ wsL_law := qr_12 _ (List.mem_of_getElem? (i := 2) rfl)
theorem q_12_3 : Cond.code yX2_indexFor cX2_indexFor 3 (some .int) ∈ wsL_law := qr_12 _ (List.mem_of_getElem? (i := 3) rfl)
theorem q_12_4 : Cond.methodLink RX6 80 yX2_put ∈ wsL_law := qr_12 _ (List.mem_of_getElem? (i := 4) rfl)
theorem q_12_5 : Cond.instanceMethod yX2_put ∈ wsL_law := qr_12 _ (List.mem_of_getElem? (i := 5) rfl)
theorem q_12_6 : Cond.selects RX2 yX2_put yX2_put ∈ wsL_law := qr_12 _ (List.mem_of_getElem? (i := 6) rfl)
theorem q_12_7 : Cond.code yX2_put cX2_put 5 none ∈ wsL_law := qr_12 _ (List.mem_of_getElem? (i := 7) rfl)
theorem q_12_8 : Cond.methodLink RL 26 yX7_setPoint ∈ wsL_law := qr_12 _ (List.mem_of_getElem? (i := 8) rfl)
theorem q_12_9 : Cond.instanceMethod yX7_setPoint ∈ wsL_law := qr_12 _ (List.mem_of_getElem? (i := 9) rfl)
theorem q_12_10 : Cond.selects RX7 yX7_setPoint yX7_setPoint ∈ wsL_law := qr_12 _ (List.mem_of_getElem? (i := 10) rfl)
theorem q_12_11 : Cond.code yX7_setPoint cX7_setPoint 6 (some .int) ∈ wsL_law := qr_12 _ (List.mem_of_getElem? (i := 11) rfl)
theorem q_12_12 : Cond.methodLink RL 27 yX6_addStop ∈ wsL_law := qr_12 _ (List.mem_of_getElem? (i := 12) rfl)
theorem q_12_13 : Cond.instanceMethod yX6_addStop ∈ wsL_law := qr_12 _ (List.mem_of_getElem? (i := 13) rfl)
theorem q_12_14 : Cond.selects RX6 yX6_addStop yX6_addStop ∈ wsL_law := qr_12 _ (List.mem_of_getElem? (i := 14) rfl)
theorem q_12_15 : Cond.code yX6_addStop cX6_addStop 2 (some .int) ∈ wsL_law := qr_12 _ (List.mem_of_getElem? (i := 15) rfl)
theorem q_12_16 : Cond.fieldLink RX6 88 "DockingMonitor$State" "stops" "LDockingMonitor$Stops;" ∈ wsL_law := qr_12 _ (List.mem_of_getElem? (i := 16) rfl)
theorem q_12_17 : Cond.fieldLink RX6 92 "DockingMonitor$Stops" "count" "I" ∈ wsL_law := qr_12 _ (List.mem_of_getElem? (i := 17) rfl)
theorem q_12_18 : Cond.methodLink RX6 95 yX5_addClosed ∈ wsL_law := qr_12 _ (List.mem_of_getElem? (i := 18) rfl)
theorem q_12_19 : Cond.instanceMethod yX5_addClosed ∈ wsL_law := qr_12 _ (List.mem_of_getElem? (i := 19) rfl)
theorem q_12_20 : Cond.selects RX5 yX5_addClosed yX5_addClosed ∈ wsL_law := qr_12 _ (List.mem_of_getElem? (i := 20) rfl)
theorem q_12_21 : Cond.code yX5_addClosed cX5_addClosed 3 (some .int) ∈ wsL_law := qr_12 _ (List.mem_of_getElem? (i := 21) rfl)
theorem q_12_22 : Cond.methodLink RL 31 yX7_addStop ∈ wsL_law := qr_12 _ (List.mem_of_getElem? (i := 22) rfl)
theorem q_12_23 : Cond.instanceMethod yX7_addStop ∈ wsL_law := qr_12 _ (List.mem_of_getElem? (i := 23) rfl)
theorem q_13_0 : Cond.selects RX7 yX7_addStop yX7_addStop ∈ wsL_law := qr_13 _ (List.mem_of_getElem? (i := 0) rfl)
theorem q_13_1 : Cond.code yX7_addStop cX7_addStop 2 (some .int) ∈ wsL_law := qr_13 _ (List.mem_of_getElem? (i := 1) rfl)
theorem q_13_2 : Cond.methodLink RL 32 yX6_setBias ∈ wsL_law := qr_13 _ (List.mem_of_getElem? (i := 2) rfl)
theorem q_13_3 : Cond.instanceMethod yX6_setBias ∈ wsL_law := qr_13 _ (List.mem_of_getElem? (i := 3) rfl)
theorem q_13_4 : Cond.selects RX6 yX6_setBias yX6_setBias ∈ wsL_law := qr_13 _ (List.mem_of_getElem? (i := 4) rfl)
theorem q_13_5 : Cond.code yX6_setBias cX6_setBias 4 (some .int) ∈ wsL_law := qr_13 _ (List.mem_of_getElem? (i := 5) rfl)
theorem q_13_6 : Cond.fieldLink RX6 99 "DockingMonitor$State" "sensors" "LDockingMonitor$Sensors;" ∈ wsL_law := qr_13 _ (List.mem_of_getElem? (i := 6) rfl)
theorem q_13_7 : Cond.fieldLink RX6 103 "DockingMonitor$Sensors" "nearBias" "I" ∈ wsL_law := qr_13 _ (List.mem_of_getElem? (i := 7) rfl)
theorem q_13_8 : Cond.fieldLink RX6 108 "DockingMonitor$Sensors" "farBias" "I" ∈ wsL_law := qr_13 _ (List.mem_of_getElem? (i := 8) rfl)
theorem q_13_9 : Cond.fieldLink RX6 111 "DockingMonitor$Sensors" "nearInUse" "Z" ∈ wsL_law := qr_13 _ (List.mem_of_getElem? (i := 9) rfl)
theorem q_13_10 : Cond.methodLink RL 36 yX7_setBias ∈ wsL_law := qr_13 _ (List.mem_of_getElem? (i := 10) rfl)
theorem q_13_11 : Cond.instanceMethod yX7_setBias ∈ wsL_law := qr_13 _ (List.mem_of_getElem? (i := 11) rfl)
theorem q_13_12 : Cond.selects RX7 yX7_setBias yX7_setBias ∈ wsL_law := qr_13 _ (List.mem_of_getElem? (i := 12) rfl)
theorem q_13_13 : Cond.code yX7_setBias cX7_setBias 3 (some .int) ∈ wsL_law := qr_13 _ (List.mem_of_getElem? (i := 13) rfl)
theorem q_13_14 : Cond.methodLink RL 37 yX6_approach ∈ wsL_law := qr_13 _ (List.mem_of_getElem? (i := 14) rfl)
theorem q_13_15 : Cond.instanceMethod yX6_approach ∈ wsL_law := qr_13 _ (List.mem_of_getElem? (i := 15) rfl)
theorem q_13_16 : Cond.selects RX6 yX6_approach yX6_approach ∈ wsL_law := qr_13 _ (List.mem_of_getElem? (i := 16) rfl)
theorem q_13_17 : Cond.code yX6_approach cX6_approach 1 (some .int) ∈ wsL_law := qr_13 _ (List.mem_of_getElem? (i := 17) rfl)
theorem q_13_18 : Cond.methodLink RX6 115 yX6_actRecorded ∈ wsL_law := qr_13 _ (List.mem_of_getElem? (i := 18) rfl)
theorem q_13_19 : Cond.instanceMethod yX6_actRecorded ∈ wsL_law := qr_13 _ (List.mem_of_getElem? (i := 19) rfl)
theorem q_13_20 : Cond.selects RX6 yX6_actRecorded yX6_actRecorded ∈ wsL_law := qr_13 _ (List.mem_of_getElem? (i := 20) rfl)
theorem q_13_21 : Cond.code yX6_actRecorded cX6_actRecorded 4 (some .int) ∈ wsL_law := qr_13 _ (List.mem_of_getElem? (i := 21) rfl)
theorem q_13_22 : Cond.methodLink RX6 135 yX4_errorOf ∈ wsL_law := qr_13 _ (List.mem_of_getElem? (i := 22) rfl)
theorem q_13_23 : Cond.instanceMethod yX4_errorOf ∈ wsL_law := qr_13 _ (List.mem_of_getElem? (i := 23) rfl)
theorem q_14_0 : Cond.selects RX4 yX4_errorOf yX4_errorOf ∈ wsL_law := qr_14 _ (List.mem_of_getElem? (i := 0) rfl)
theorem q_14_1 : Cond.code yX4_errorOf cX4_errorOf 3 (some .int) ∈ wsL_law := qr_14 _ (List.mem_of_getElem? (i := 1) rfl)
theorem q_14_2 : Cond.methodLink RX4 95 yX4_hasArrived ∈ wsL_law := qr_14 _ (List.mem_of_getElem? (i := 2) rfl)
theorem q_14_3 : Cond.instanceMethod yX4_hasArrived ∈ wsL_law := qr_14 _ (List.mem_of_getElem? (i := 3) rfl)
theorem q_14_4 : Cond.selects RX4 yX4_hasArrived yX4_hasArrived ∈ wsL_law := qr_14 _ (List.mem_of_getElem? (i := 4) rfl)
theorem q_14_5 : Cond.code yX4_hasArrived cX4_hasArrived 1 (some .boolean) ∈ wsL_law := qr_14 _ (List.mem_of_getElem? (i := 5) rfl)
theorem q_14_6 : Cond.methodLink RX4 99 yX5_errorOfOpening ∈ wsL_law := qr_14 _ (List.mem_of_getElem? (i := 6) rfl)
theorem q_14_7 : Cond.instanceMethod yX5_errorOfOpening ∈ wsL_law := qr_14 _ (List.mem_of_getElem? (i := 7) rfl)
theorem q_14_8 : Cond.selects RX5 yX5_errorOfOpening yX5_errorOfOpening ∈ wsL_law := qr_14 _ (List.mem_of_getElem? (i := 8) rfl)
theorem q_14_9 : Cond.code yX5_errorOfOpening cX5_errorOfOpening 2 (some .int) ∈ wsL_law := qr_14 _ (List.mem_of_getElem? (i := 9) rfl)
theorem q_14_10 : Cond.methodLink RX5 24 yX5_has ∈ wsL_law := qr_14 _ (List.mem_of_getElem? (i := 10) rfl)
theorem q_14_11 : Cond.instanceMethod yX5_has ∈ wsL_law := qr_14 _ (List.mem_of_getElem? (i := 11) rfl)
theorem q_14_12 : Cond.selects RX5 yX5_has yX5_has ∈ wsL_law := qr_14 _ (List.mem_of_getElem? (i := 12) rfl)
theorem q_14_13 : Cond.code yX5_has cX5_has 2 (some .boolean) ∈ wsL_law := qr_14 _ (List.mem_of_getElem? (i := 13) rfl)
theorem q_14_14 : Cond.methodLink RX6 138 yX4_carryOut ∈ wsL_law := qr_14 _ (List.mem_of_getElem? (i := 14) rfl)
theorem q_14_15 : Cond.instanceMethod yX4_carryOut ∈ wsL_law := qr_14 _ (List.mem_of_getElem? (i := 15) rfl)
theorem q_14_16 : Cond.selects RX4 yX4_carryOut yX4_carryOut ∈ wsL_law := qr_14 _ (List.mem_of_getElem? (i := 16) rfl)
theorem q_14_17 : Cond.code yX4_carryOut cX4_carryOut 4 (some .int) ∈ wsL_law := qr_14 _ (List.mem_of_getElem? (i := 17) rfl)
theorem q_14_18 : Cond.methodLink RX4 103 yX4_startApproach ∈ wsL_law := qr_14 _ (List.mem_of_getElem? (i := 18) rfl)
theorem q_14_19 : Cond.instanceMethod yX4_startApproach ∈ wsL_law := qr_14 _ (List.mem_of_getElem? (i := 19) rfl)
theorem q_14_20 : Cond.selects RX4 yX4_startApproach yX4_startApproach ∈ wsL_law := qr_14 _ (List.mem_of_getElem? (i := 20) rfl)
theorem q_14_21 : Cond.code yX4_startApproach cX4_startApproach 1 none ∈ wsL_law := qr_14 _ (List.mem_of_getElem? (i := 21) rfl)
theorem q_14_22 : Cond.methodLink RX4 106 yX4_judge ∈ wsL_law := qr_14 _ (List.mem_of_getElem? (i := 22) rfl)
theorem q_14_23 : Cond.methodLink RX4 110 yX5_markOpen ∈ wsL_law := qr_14 _ (List.mem_of_getElem? (i := 23) rfl)
theorem q_15_0 : Cond.instanceMethod yX5_markOpen ∈ wsL_law := qr_15 _ (List.mem_of_getElem? (i := 0) rfl)
theorem q_15_1 : Cond.selects RX5 yX5_markOpen yX5_markOpen ∈ wsL_law := qr_15 _ (List.mem_of_getElem? (i := 1) rfl)
theorem q_15_2 : Cond.code yX5_markOpen cX5_markOpen 2 none ∈ wsL_law := qr_15 _ (List.mem_of_getElem? (i := 2) rfl)
theorem q_15_3 : Cond.methodLink RX4 113 yX5_countClosed ∈ wsL_law := qr_15 _ (List.mem_of_getElem? (i := 3) rfl)
theorem q_15_4 : Cond.instanceMethod yX5_countClosed ∈ wsL_law := qr_15 _ (List.mem_of_getElem? (i := 4) rfl)
theorem q_15_5 : Cond.selects RX5 yX5_countClosed yX5_countClosed ∈ wsL_law := qr_15 _ (List.mem_of_getElem? (i := 5) rfl)
theorem q_15_6 : Cond.code yX5_countClosed cX5_countClosed 3 (some .int) ∈ wsL_law := qr_15 _ (List.mem_of_getElem? (i := 6) rfl)
theorem q_15_7 : Cond.methodLink RX4 116 yX4_passSecond ∈ wsL_law := qr_15 _ (List.mem_of_getElem? (i := 7) rfl)
theorem q_15_8 : Cond.instanceMethod yX4_passSecond ∈ wsL_law := qr_15 _ (List.mem_of_getElem? (i := 8) rfl)
theorem q_15_9 : Cond.selects RX4 yX4_passSecond yX4_passSecond ∈ wsL_law := qr_15 _ (List.mem_of_getElem? (i := 9) rfl)
theorem q_15_10 : Cond.code yX4_passSecond cX4_passSecond 3 none ∈ wsL_law := qr_15 _ (List.mem_of_getElem? (i := 10) rfl)
theorem q_15_11 : Cond.constantFloat RX4 143 (1112014848) ∈ wsL_law := qr_15 _ (List.mem_of_getElem? (i := 11) rfl)
theorem q_15_12 : Cond.methodLink RX4 119 yX4_wantedSpeed ∈ wsL_law := qr_15 _ (List.mem_of_getElem? (i := 12) rfl)
theorem q_15_13 : Cond.instanceMethod yX4_wantedSpeed ∈ wsL_law := qr_15 _ (List.mem_of_getElem? (i := 13) rfl)
theorem q_15_14 : Cond.selects RX4 yX4_wantedSpeed yX4_wantedSpeed ∈ wsL_law := qr_15 _ (List.mem_of_getElem? (i := 14) rfl)
theorem q_15_15 : Cond.code yX4_wantedSpeed cX4_wantedSpeed 4 (some .float) ∈ wsL_law := qr_15 _ (List.mem_of_getElem? (i := 15) rfl)
theorem q_15_16 : Cond.constantFloat RX4 153 (1036831949) ∈ wsL_law := qr_15 _ (List.mem_of_getElem? (i := 16) rfl)
theorem q_15_17 : Cond.methodLink RX4 154 yX3_measured ∈ wsL_law := qr_15 _ (List.mem_of_getElem? (i := 17) rfl)
theorem q_15_18 : Cond.instanceMethod yX3_measured ∈ wsL_law := qr_15 _ (List.mem_of_getElem? (i := 18) rfl)
theorem q_15_19 : Cond.selects RX3 yX3_measured yX3_measured ∈ wsL_law := qr_15 _ (List.mem_of_getElem? (i := 19) rfl)
theorem q_15_20 : Cond.code yX3_measured cX3_measured 2 (some .float) ∈ wsL_law := qr_15 _ (List.mem_of_getElem? (i := 20) rfl)
theorem q_15_21 : Cond.methodLink RX3 27 yX3_nearMeasured ∈ wsL_law := qr_15 _ (List.mem_of_getElem? (i := 21) rfl)
theorem q_15_22 : Cond.instanceMethod yX3_nearMeasured ∈ wsL_law := qr_15 _ (List.mem_of_getElem? (i := 22) rfl)
theorem q_15_23 : Cond.selects RX3 yX3_nearMeasured yX3_nearMeasured ∈ wsL_law := qr_15 _ (List.mem_of_getElem? (i := 23) rfl)
theorem q_16_0 : Cond.code yX3_nearMeasured cX3_nearMeasured 2 (some .float) ∈ wsL_law := qr_16 _ (List.mem_of_getElem? (i := 0) rfl)
theorem q_16_1 : Cond.constantFloat RX3 26 (1120403456) ∈ wsL_law := qr_16 _ (List.mem_of_getElem? (i := 1) rfl)
theorem q_16_2 : Cond.methodLink RX3 31 yX3_farMeasured ∈ wsL_law := qr_16 _ (List.mem_of_getElem? (i := 2) rfl)
theorem q_16_3 : Cond.instanceMethod yX3_farMeasured ∈ wsL_law := qr_16 _ (List.mem_of_getElem? (i := 3) rfl)
theorem q_16_4 : Cond.selects RX3 yX3_farMeasured yX3_farMeasured ∈ wsL_law := qr_16 _ (List.mem_of_getElem? (i := 4) rfl)
theorem q_16_5 : Cond.code yX3_farMeasured cX3_farMeasured 2 (some .float) ∈ wsL_law := qr_16 _ (List.mem_of_getElem? (i := 5) rfl)
theorem q_16_6 : Cond.methodLink RX4 160 yX5_nextBelow ∈ wsL_law := qr_16 _ (List.mem_of_getElem? (i := 6) rfl)
theorem q_16_7 : Cond.instanceMethod yX5_nextBelow ∈ wsL_law := qr_16 _ (List.mem_of_getElem? (i := 7) rfl)
theorem q_16_8 : Cond.selects RX5 yX5_nextBelow yX5_nextBelow ∈ wsL_law := qr_16 _ (List.mem_of_getElem? (i := 8) rfl)
theorem q_16_9 : Cond.code yX5_nextBelow cX5_nextBelow 5 (some .int) ∈ wsL_law := qr_16 _ (List.mem_of_getElem? (i := 9) rfl)
theorem q_16_10 : Cond.methodLink RX5 28 yX5_metres ∈ wsL_law := qr_16 _ (List.mem_of_getElem? (i := 10) rfl)
theorem q_16_11 : Cond.instanceMethod yX5_metres ∈ wsL_law := qr_16 _ (List.mem_of_getElem? (i := 11) rfl)
theorem q_16_12 : Cond.selects RX5 yX5_metres yX5_metres ∈ wsL_law := qr_16 _ (List.mem_of_getElem? (i := 12) rfl)
theorem q_16_13 : Cond.code yX5_metres cX5_metres 2 (some .float) ∈ wsL_law := qr_16 _ (List.mem_of_getElem? (i := 13) rfl)
theorem q_16_14 : Cond.constantFloat RX5 23 (1120403456) ∈ wsL_law := qr_16 _ (List.mem_of_getElem? (i := 14) rfl)
theorem q_16_15 : Cond.methodLink RX4 164 yX5_has ∈ wsL_law := qr_16 _ (List.mem_of_getElem? (i := 15) rfl)
theorem q_16_16 : Cond.methodLink RX4 168 yX5_metres ∈ wsL_law := qr_16 _ (List.mem_of_getElem? (i := 16) rfl)
theorem q_16_17 : Cond.methodLink RX4 123 yX4_accelerationAlong ∈ wsL_law := qr_16 _ (List.mem_of_getElem? (i := 17) rfl)
theorem q_16_18 : Cond.instanceMethod yX4_accelerationAlong ∈ wsL_law := qr_16 _ (List.mem_of_getElem? (i := 18) rfl)
theorem q_16_19 : Cond.selects RX4 yX4_accelerationAlong yX4_accelerationAlong ∈ wsL_law := qr_16 _ (List.mem_of_getElem? (i := 19) rfl)
theorem q_16_20 : Cond.code yX4_accelerationAlong cX4_accelerationAlong 4 (some .float) ∈ wsL_law := qr_16 _ (List.mem_of_getElem? (i := 20) rfl)
theorem q_16_21 : Cond.methodLink RX4 148 yX4_heldToGreatest ∈ wsL_law := qr_16 _ (List.mem_of_getElem? (i := 21) rfl)
theorem q_16_22 : Cond.instanceMethod yX4_heldToGreatest ∈ wsL_law := qr_16 _ (List.mem_of_getElem? (i := 22) rfl)
theorem q_16_23 : Cond.selects RX4 yX4_heldToGreatest yX4_heldToGreatest ∈ wsL_law := qr_16 _ (List.mem_of_getElem? (i := 23) rfl)
theorem q_17_0 : Cond.code yX4_heldToGreatest cX4_heldToGreatest 3 (some .float) ∈ wsL_law := qr_17 _ (List.mem_of_getElem? (i := 0) rfl)
theorem q_17_1 : Cond.methodLink RX4 127 yX4_accelerationAcross ∈ wsL_law := qr_17 _ (List.mem_of_getElem? (i := 1) rfl)
theorem q_17_2 : Cond.instanceMethod yX4_accelerationAcross ∈ wsL_law := qr_17 _ (List.mem_of_getElem? (i := 2) rfl)
theorem q_17_3 : Cond.selects RX4 yX4_accelerationAcross yX4_accelerationAcross ∈ wsL_law := qr_17 _ (List.mem_of_getElem? (i := 3) rfl)
theorem q_17_4 : Cond.code yX4_accelerationAcross cX4_accelerationAcross 1 (some .float) ∈ wsL_law := qr_17 _ (List.mem_of_getElem? (i := 4) rfl)
theorem q_17_5 : Cond.constantFloat RX4 152 (1028443341) ∈ wsL_law := qr_17 _ (List.mem_of_getElem? (i := 5) rfl)
theorem q_17_6 : Cond.methodLink RX4 130 yX4_arrive ∈ wsL_law := qr_17 _ (List.mem_of_getElem? (i := 6) rfl)
theorem q_17_7 : Cond.instanceMethod yX4_arrive ∈ wsL_law := qr_17 _ (List.mem_of_getElem? (i := 7) rfl)
theorem q_17_8 : Cond.selects RX4 yX4_arrive yX4_arrive ∈ wsL_law := qr_17 _ (List.mem_of_getElem? (i := 8) rfl)
theorem q_17_9 : Cond.code yX4_arrive cX4_arrive 2 none ∈ wsL_law := qr_17 _ (List.mem_of_getElem? (i := 9) rfl)
theorem q_17_10 : Cond.methodLink RX4 133 yX3_compare ∈ wsL_law := qr_17 _ (List.mem_of_getElem? (i := 10) rfl)
theorem q_17_11 : Cond.instanceMethod yX3_compare ∈ wsL_law := qr_17 _ (List.mem_of_getElem? (i := 11) rfl)
theorem q_17_12 : Cond.selects RX3 yX3_compare yX3_compare ∈ wsL_law := qr_17 _ (List.mem_of_getElem? (i := 12) rfl)
theorem q_17_13 : Cond.code yX3_compare cX3_compare 4 none ∈ wsL_law := qr_17 _ (List.mem_of_getElem? (i := 13) rfl)
theorem q_17_14 : Cond.constantFloat RX3 34 (1106247680) ∈ wsL_law := qr_17 _ (List.mem_of_getElem? (i := 14) rfl)
theorem q_17_15 : Cond.constantFloat RX3 40 (1056964608) ∈ wsL_law := qr_17 _ (List.mem_of_getElem? (i := 15) rfl)
theorem q_17_16 : Cond.methodLink RX4 137 yX4_holdAtStopReached ∈ wsL_law := qr_17 _ (List.mem_of_getElem? (i := 16) rfl)
theorem q_17_17 : Cond.instanceMethod yX4_holdAtStopReached ∈ wsL_law := qr_17 _ (List.mem_of_getElem? (i := 17) rfl)
theorem q_17_18 : Cond.selects RX4 yX4_holdAtStopReached yX4_holdAtStopReached ∈ wsL_law := qr_17 _ (List.mem_of_getElem? (i := 18) rfl)
theorem q_17_19 : Cond.code yX4_holdAtStopReached cX4_holdAtStopReached 2 none ∈ wsL_law := qr_17 _ (List.mem_of_getElem? (i := 19) rfl)
theorem q_17_20 : Cond.methodLink RX4 175 yX5_closedNear ∈ wsL_law := qr_17 _ (List.mem_of_getElem? (i := 20) rfl)
theorem q_17_21 : Cond.instanceMethod yX5_closedNear ∈ wsL_law := qr_17 _ (List.mem_of_getElem? (i := 21) rfl)
theorem q_17_22 : Cond.selects RX5 yX5_closedNear yX5_closedNear ∈ wsL_law := qr_17 _ (List.mem_of_getElem? (i := 22) rfl)
theorem q_17_23 : Cond.code yX5_closedNear cX5_closedNear 3 (some .int) ∈ wsL_law := qr_17 _ (List.mem_of_getElem? (i := 23) rfl)
theorem q_18_0 : Cond.constantFloat RX5 36 (1045220557) ∈ wsL_law := qr_18 _ (List.mem_of_getElem? (i := 0) rfl)
theorem q_18_1 : Cond.methodLink RX4 144 yX4_hold ∈ wsL_law := qr_18 _ (List.mem_of_getElem? (i := 1) rfl)
theorem q_18_2 : Cond.instanceMethod yX4_hold ∈ wsL_law := qr_18 _ (List.mem_of_getElem? (i := 2) rfl)
theorem q_18_3 : Cond.selects RX4 yX4_hold yX4_hold ∈ wsL_law := qr_18 _ (List.mem_of_getElem? (i := 3) rfl)
theorem q_18_4 : Cond.code yX4_hold cX4_hold 3 none ∈ wsL_law := qr_18 _ (List.mem_of_getElem? (i := 4) rfl)
theorem q_18_5 : Cond.methodLink RX4 140 yX4_countStrikes ∈ wsL_law := qr_18 _ (List.mem_of_getElem? (i := 5) rfl)
theorem q_18_6 : Cond.instanceMethod yX4_countStrikes ∈ wsL_law := qr_18 _ (List.mem_of_getElem? (i := 6) rfl)
theorem q_18_7 : Cond.selects RX4 yX4_countStrikes yX4_countStrikes ∈ wsL_law := qr_18 _ (List.mem_of_getElem? (i := 7) rfl)
theorem q_18_8 : Cond.code yX4_countStrikes cX4_countStrikes 2 none ∈ wsL_law := qr_18 _ (List.mem_of_getElem? (i := 8) rfl)
theorem q_18_9 : Cond.methodLink RL 41 yX7_approach ∈ wsL_law := qr_18 _ (List.mem_of_getElem? (i := 9) rfl)
theorem q_18_10 : Cond.instanceMethod yX7_approach ∈ wsL_law := qr_18 _ (List.mem_of_getElem? (i := 10) rfl)
theorem q_18_11 : Cond.selects RX7 yX7_approach yX7_approach ∈ wsL_law := qr_18 _ (List.mem_of_getElem? (i := 11) rfl)
theorem q_18_12 : Cond.code yX7_approach cX7_approach 1 (some .int) ∈ wsL_law := qr_18 _ (List.mem_of_getElem? (i := 12) rfl)
theorem q_18_13 : Cond.methodLink RX7 150 yX7_changesTo ∈ wsL_law := qr_18 _ (List.mem_of_getElem? (i := 13) rfl)
theorem q_18_14 : Cond.instanceMethod yX7_changesTo ∈ wsL_law := qr_18 _ (List.mem_of_getElem? (i := 14) rfl)
theorem q_18_15 : Cond.selects RX7 yX7_changesTo yX7_changesTo ∈ wsL_law := qr_18 _ (List.mem_of_getElem? (i := 15) rfl)
theorem q_18_16 : Cond.code yX7_changesTo cX7_changesTo 3 (some .int) ∈ wsL_law := qr_18 _ (List.mem_of_getElem? (i := 16) rfl)
theorem q_18_17 : Cond.methodLink RX7 144 yX7_modeError ∈ wsL_law := qr_18 _ (List.mem_of_getElem? (i := 17) rfl)
theorem q_18_18 : Cond.instanceMethod yX7_modeError ∈ wsL_law := qr_18 _ (List.mem_of_getElem? (i := 18) rfl)
theorem q_18_19 : Cond.selects RX7 yX7_modeError yX7_modeError ∈ wsL_law := qr_18 _ (List.mem_of_getElem? (i := 19) rfl)
theorem q_18_20 : Cond.code yX7_modeError cX7_modeError 2 (some .int) ∈ wsL_law := qr_18 _ (List.mem_of_getElem? (i := 20) rfl)
theorem q_18_21 : Cond.methodLink RX7 147 yX7_becomes ∈ wsL_law := qr_18 _ (List.mem_of_getElem? (i := 21) rfl)
theorem q_18_22 : Cond.instanceMethod yX7_becomes ∈ wsL_law := qr_18 _ (List.mem_of_getElem? (i := 22) rfl)
theorem q_18_23 : Cond.selects RX7 yX7_becomes yX7_becomes ∈ wsL_law := qr_18 _ (List.mem_of_getElem? (i := 23) rfl)
theorem q_19_0 : Cond.code yX7_becomes cX7_becomes 2 (some .int) ∈ wsL_law := qr_19 _ (List.mem_of_getElem? (i := 0) rfl)
theorem q_19_1 : Cond.methodLink RL 42 yX6_release ∈ wsL_law := qr_19 _ (List.mem_of_getElem? (i := 1) rfl)
theorem q_19_2 : Cond.instanceMethod yX6_release ∈ wsL_law := qr_19 _ (List.mem_of_getElem? (i := 2) rfl)
theorem q_19_3 : Cond.selects RX6 yX6_release yX6_release ∈ wsL_law := qr_19 _ (List.mem_of_getElem? (i := 3) rfl)
theorem q_19_4 : Cond.code yX6_release cX6_release 1 (some .int) ∈ wsL_law := qr_19 _ (List.mem_of_getElem? (i := 4) rfl)
theorem q_19_5 : Cond.methodLink RL 45 yX7_release ∈ wsL_law := qr_19 _ (List.mem_of_getElem? (i := 5) rfl)
theorem q_19_6 : Cond.instanceMethod yX7_release ∈ wsL_law := qr_19 _ (List.mem_of_getElem? (i := 6) rfl)
theorem q_19_7 : Cond.selects RX7 yX7_release yX7_release ∈ wsL_law := qr_19 _ (List.mem_of_getElem? (i := 7) rfl)
theorem q_19_8 : Cond.code yX7_release cX7_release 1 (some .int) ∈ wsL_law := qr_19 _ (List.mem_of_getElem? (i := 8) rfl)
theorem q_19_9 : Cond.methodLink RL 46 yX6_retreat ∈ wsL_law := qr_19 _ (List.mem_of_getElem? (i := 9) rfl)
theorem q_19_10 : Cond.instanceMethod yX6_retreat ∈ wsL_law := qr_19 _ (List.mem_of_getElem? (i := 10) rfl)
theorem q_19_11 : Cond.selects RX6 yX6_retreat yX6_retreat ∈ wsL_law := qr_19 _ (List.mem_of_getElem? (i := 11) rfl)
theorem q_19_12 : Cond.code yX6_retreat cX6_retreat 1 (some .int) ∈ wsL_law := qr_19 _ (List.mem_of_getElem? (i := 12) rfl)
theorem q_19_13 : Cond.methodLink RL 49 yX7_retreat ∈ wsL_law := qr_19 _ (List.mem_of_getElem? (i := 13) rfl)
theorem q_19_14 : Cond.instanceMethod yX7_retreat ∈ wsL_law := qr_19 _ (List.mem_of_getElem? (i := 14) rfl)
theorem q_19_15 : Cond.selects RX7 yX7_retreat yX7_retreat ∈ wsL_law := qr_19 _ (List.mem_of_getElem? (i := 15) rfl)
theorem q_19_16 : Cond.code yX7_retreat cX7_retreat 1 (some .int) ∈ wsL_law := qr_19 _ (List.mem_of_getElem? (i := 16) rfl)
theorem q_19_17 : Cond.methodLink RL 50 yX6_open ∈ wsL_law := qr_19 _ (List.mem_of_getElem? (i := 17) rfl)
theorem q_19_18 : Cond.instanceMethod yX6_open ∈ wsL_law := qr_19 _ (List.mem_of_getElem? (i := 18) rfl)
theorem q_19_19 : Cond.selects RX6 yX6_open yX6_open ∈ wsL_law := qr_19 _ (List.mem_of_getElem? (i := 19) rfl)
theorem q_19_20 : Cond.code yX6_open cX6_open 2 (some .int) ∈ wsL_law := qr_19 _ (List.mem_of_getElem? (i := 20) rfl)
theorem q_19_21 : Cond.methodLink RL 53 yX7_open ∈ wsL_law := qr_19 _ (List.mem_of_getElem? (i := 21) rfl)
theorem q_19_22 : Cond.instanceMethod yX7_open ∈ wsL_law := qr_19 _ (List.mem_of_getElem? (i := 22) rfl)
theorem q_19_23 : Cond.selects RX7 yX7_open yX7_open ∈ wsL_law := qr_19 _ (List.mem_of_getElem? (i := 23) rfl)
theorem q_20_0 : Cond.code yX7_open cX7_open 3 (some .int) ∈ wsL_law := qr_20 _ (List.mem_of_getElem? (i := 0) rfl)
theorem q_20_1 : Cond.methodLink RX7 156 yX7_openError ∈ wsL_law := qr_20 _ (List.mem_of_getElem? (i := 1) rfl)
theorem q_20_2 : Cond.instanceMethod yX7_openError ∈ wsL_law := qr_20 _ (List.mem_of_getElem? (i := 2) rfl)
theorem q_20_3 : Cond.selects RX7 yX7_openError yX7_openError ∈ wsL_law := qr_20 _ (List.mem_of_getElem? (i := 3) rfl)
theorem q_20_4 : Cond.code yX7_openError cX7_openError 2 (some .int) ∈ wsL_law := qr_20 _ (List.mem_of_getElem? (i := 4) rfl)
theorem q_20_5 : Cond.methodLink RX7 76 yX7_isClosed ∈ wsL_law := qr_20 _ (List.mem_of_getElem? (i := 5) rfl)
theorem q_20_6 : Cond.instanceMethod yX7_isClosed ∈ wsL_law := qr_20 _ (List.mem_of_getElem? (i := 6) rfl)
theorem q_20_7 : Cond.selects RX7 yX7_isClosed yX7_isClosed ∈ wsL_law := qr_20 _ (List.mem_of_getElem? (i := 7) rfl)
theorem q_20_8 : Cond.code yX7_isClosed cX7_isClosed 2 (some .boolean) ∈ wsL_law := qr_20 _ (List.mem_of_getElem? (i := 8) rfl)
theorem q_20_9 : Cond.methodLink RX7 159 yX7_opens ∈ wsL_law := qr_20 _ (List.mem_of_getElem? (i := 9) rfl)
theorem q_20_10 : Cond.instanceMethod yX7_opens ∈ wsL_law := qr_20 _ (List.mem_of_getElem? (i := 10) rfl)
theorem q_20_11 : Cond.selects RX7 yX7_opens yX7_opens ∈ wsL_law := qr_20 _ (List.mem_of_getElem? (i := 11) rfl)
theorem q_20_12 : Cond.code yX7_opens cX7_opens 2 (some .int) ∈ wsL_law := qr_20 _ (List.mem_of_getElem? (i := 12) rfl)
theorem q_20_13 : Cond.methodLink RX7 153 yX7_closed ∈ wsL_law := qr_20 _ (List.mem_of_getElem? (i := 13) rfl)
theorem q_20_14 : Cond.instanceMethod yX7_closed ∈ wsL_law := qr_20 _ (List.mem_of_getElem? (i := 14) rfl)
theorem q_20_15 : Cond.selects RX7 yX7_closed yX7_closed ∈ wsL_law := qr_20 _ (List.mem_of_getElem? (i := 15) rfl)
theorem q_20_16 : Cond.code yX7_closed cX7_closed 3 (some .int) ∈ wsL_law := qr_20 _ (List.mem_of_getElem? (i := 16) rfl)
theorem q_20_17 : Cond.methodLink RL 54 yX6_pass ∈ wsL_law := qr_20 _ (List.mem_of_getElem? (i := 17) rfl)
theorem q_20_18 : Cond.instanceMethod yX6_pass ∈ wsL_law := qr_20 _ (List.mem_of_getElem? (i := 18) rfl)
theorem q_20_19 : Cond.selects RX6 yX6_pass yX6_pass ∈ wsL_law := qr_20 _ (List.mem_of_getElem? (i := 19) rfl)
theorem q_20_20 : Cond.code yX6_pass cX6_pass 2 (some .int) ∈ wsL_law := qr_20 _ (List.mem_of_getElem? (i := 20) rfl)
theorem q_20_21 : Cond.methodLink RL 57 yX7_pass ∈ wsL_law := qr_20 _ (List.mem_of_getElem? (i := 21) rfl)
theorem q_20_22 : Cond.instanceMethod yX7_pass ∈ wsL_law := qr_20 _ (List.mem_of_getElem? (i := 22) rfl)
theorem q_20_23 : Cond.selects RX7 yX7_pass yX7_pass ∈ wsL_law := qr_20 _ (List.mem_of_getElem? (i := 23) rfl)
theorem q_21_0 : Cond.code yX7_pass cX7_pass 2 (some .int) ∈ wsL_law := qr_21 _ (List.mem_of_getElem? (i := 0) rfl)
theorem q_21_1 : Cond.methodLink RX7 165 yX7_passes ∈ wsL_law := qr_21 _ (List.mem_of_getElem? (i := 1) rfl)
theorem q_21_2 : Cond.instanceMethod yX7_passes ∈ wsL_law := qr_21 _ (List.mem_of_getElem? (i := 2) rfl)
theorem q_21_3 : Cond.selects RX7 yX7_passes yX7_passes ∈ wsL_law := qr_21 _ (List.mem_of_getElem? (i := 3) rfl)
theorem q_21_4 : Cond.code yX7_passes cX7_passes 3 (some .int) ∈ wsL_law := qr_21 _ (List.mem_of_getElem? (i := 4) rfl)
theorem q_21_5 : Cond.methodLink RX7 162 yX7_passesSecond ∈ wsL_law := qr_21 _ (List.mem_of_getElem? (i := 5) rfl)
theorem q_21_6 : Cond.instanceMethod yX7_passesSecond ∈ wsL_law := qr_21 _ (List.mem_of_getElem? (i := 6) rfl)
theorem q_21_7 : Cond.selects RX7 yX7_passesSecond yX7_passesSecond ∈ wsL_law := qr_21 _ (List.mem_of_getElem? (i := 7) rfl)
theorem q_21_8 : Cond.code yX7_passesSecond cX7_passesSecond 1 none ∈ wsL_law := qr_21 _ (List.mem_of_getElem? (i := 8) rfl)
theorem q_21_9 : Cond.methodLink RX7 119 yX7_moves ∈ wsL_law := qr_21 _ (List.mem_of_getElem? (i := 9) rfl)
theorem q_21_10 : Cond.instanceMethod yX7_moves ∈ wsL_law := qr_21 _ (List.mem_of_getElem? (i := 10) rfl)
theorem q_21_11 : Cond.selects RX7 yX7_moves yX7_moves ∈ wsL_law := qr_21 _ (List.mem_of_getElem? (i := 11) rfl)
theorem q_21_12 : Cond.code yX7_moves cX7_moves 3 none ∈ wsL_law := qr_21 _ (List.mem_of_getElem? (i := 12) rfl)
theorem q_21_13 : Cond.methodLink RX7 129 yX7_guides ∈ wsL_law := qr_21 _ (List.mem_of_getElem? (i := 13) rfl)
theorem q_21_14 : Cond.instanceMethod yX7_guides ∈ wsL_law := qr_21 _ (List.mem_of_getElem? (i := 14) rfl)
theorem q_21_15 : Cond.selects RX7 yX7_guides yX7_guides ∈ wsL_law := qr_21 _ (List.mem_of_getElem? (i := 15) rfl)
theorem q_21_16 : Cond.code yX7_guides cX7_guides 5 none ∈ wsL_law := qr_21 _ (List.mem_of_getElem? (i := 16) rfl)
theorem q_21_17 : Cond.constantFloat RX7 118 (1028443341) ∈ wsL_law := qr_21 _ (List.mem_of_getElem? (i := 17) rfl)
theorem q_21_18 : Cond.methodLink RX7 110 yX7_wanted ∈ wsL_law := qr_21 _ (List.mem_of_getElem? (i := 18) rfl)
theorem q_21_19 : Cond.instanceMethod yX7_wanted ∈ wsL_law := qr_21 _ (List.mem_of_getElem? (i := 19) rfl)
theorem q_21_20 : Cond.selects RX7 yX7_wanted yX7_wanted ∈ wsL_law := qr_21 _ (List.mem_of_getElem? (i := 20) rfl)
theorem q_21_21 : Cond.code yX7_wanted cX7_wanted 5 (some .float) ∈ wsL_law := qr_21 _ (List.mem_of_getElem? (i := 21) rfl)
theorem q_21_22 : Cond.constantFloat RX7 106 (1036831949) ∈ wsL_law := qr_21 _ (List.mem_of_getElem? (i := 22) rfl)
theorem q_21_23 : Cond.methodLink RX7 103 yX7_measured ∈ wsL_law := qr_21 _ (List.mem_of_getElem? (i := 23) rfl)
theorem q_22_0 : Cond.instanceMethod yX7_measured ∈ wsL_law := qr_22 _ (List.mem_of_getElem? (i := 0) rfl)
theorem q_22_1 : Cond.selects RX7 yX7_measured yX7_measured ∈ wsL_law := qr_22 _ (List.mem_of_getElem? (i := 1) rfl)
theorem q_22_2 : Cond.code yX7_measured cX7_measured 2 (some .float) ∈ wsL_law := qr_22 _ (List.mem_of_getElem? (i := 2) rfl)
theorem q_22_3 : Cond.methodLink RX7 80 yX7_stopAt ∈ wsL_law := qr_22 _ (List.mem_of_getElem? (i := 3) rfl)
theorem q_22_4 : Cond.instanceMethod yX7_stopAt ∈ wsL_law := qr_22 _ (List.mem_of_getElem? (i := 4) rfl)
theorem q_22_5 : Cond.selects RX7 yX7_stopAt yX7_stopAt ∈ wsL_law := qr_22 _ (List.mem_of_getElem? (i := 5) rfl)
theorem q_22_6 : Cond.code yX7_stopAt cX7_stopAt 2 (some .float) ∈ wsL_law := qr_22 _ (List.mem_of_getElem? (i := 6) rfl)
theorem q_22_7 : Cond.methodLink RX7 107 yX7_nextStop ∈ wsL_law := qr_22 _ (List.mem_of_getElem? (i := 7) rfl)
theorem q_22_8 : Cond.instanceMethod yX7_nextStop ∈ wsL_law := qr_22 _ (List.mem_of_getElem? (i := 8) rfl)
theorem q_22_9 : Cond.selects RX7 yX7_nextStop yX7_nextStop ∈ wsL_law := qr_22 _ (List.mem_of_getElem? (i := 9) rfl)
theorem q_22_10 : Cond.code yX7_nextStop cX7_nextStop 4 (some .int) ∈ wsL_law := qr_22 _ (List.mem_of_getElem? (i := 10) rfl)
theorem q_22_11 : Cond.methodLink RX7 114 yX7_held ∈ wsL_law := qr_22 _ (List.mem_of_getElem? (i := 11) rfl)
theorem q_22_12 : Cond.static yX7_held ∈ wsL_law := qr_22 _ (List.mem_of_getElem? (i := 12) rfl)
theorem q_22_13 : Cond.code yX7_held cX7_held 3 (some .float) ∈ wsL_law := qr_22 _ (List.mem_of_getElem? (i := 13) rfl)
theorem q_22_14 : Cond.methodLink RX7 132 yX7_arrives ∈ wsL_law := qr_22 _ (List.mem_of_getElem? (i := 14) rfl)
theorem q_22_15 : Cond.instanceMethod yX7_arrives ∈ wsL_law := qr_22 _ (List.mem_of_getElem? (i := 15) rfl)
theorem q_22_16 : Cond.selects RX7 yX7_arrives yX7_arrives ∈ wsL_law := qr_22 _ (List.mem_of_getElem? (i := 16) rfl)
theorem q_22_17 : Cond.code yX7_arrives cX7_arrives 3 none ∈ wsL_law := qr_22 _ (List.mem_of_getElem? (i := 17) rfl)
theorem q_22_18 : Cond.methodLink RX7 135 yX7_senses ∈ wsL_law := qr_22 _ (List.mem_of_getElem? (i := 18) rfl)
theorem q_22_19 : Cond.instanceMethod yX7_senses ∈ wsL_law := qr_22 _ (List.mem_of_getElem? (i := 19) rfl)
theorem q_22_20 : Cond.selects RX7 yX7_senses yX7_senses ∈ wsL_law := qr_22 _ (List.mem_of_getElem? (i := 20) rfl)
theorem q_22_21 : Cond.code yX7_senses cX7_senses 2 none ∈ wsL_law := qr_22 _ (List.mem_of_getElem? (i := 21) rfl)
theorem q_22_22 : Cond.methodLink RX7 123 yX7_isSeen ∈ wsL_law := qr_22 _ (List.mem_of_getElem? (i := 22) rfl)
theorem q_22_23 : Cond.instanceMethod yX7_isSeen ∈ wsL_law := qr_22 _ (List.mem_of_getElem? (i := 23) rfl)
theorem q_23_0 : Cond.selects RX7 yX7_isSeen yX7_isSeen ∈ wsL_law := qr_23 _ (List.mem_of_getElem? (i := 0) rfl)
theorem q_23_1 : Cond.code yX7_isSeen cX7_isSeen 1 (some .boolean) ∈ wsL_law := qr_23 _ (List.mem_of_getElem? (i := 1) rfl)
theorem q_23_2 : Cond.constantFloat RX7 83 (1106247680) ∈ wsL_law := qr_23 _ (List.mem_of_getElem? (i := 2) rfl)
theorem q_23_3 : Cond.methodLink RX7 138 yX7_stops ∈ wsL_law := qr_23 _ (List.mem_of_getElem? (i := 3) rfl)
theorem q_23_4 : Cond.instanceMethod yX7_stops ∈ wsL_law := qr_23 _ (List.mem_of_getElem? (i := 4) rfl)
theorem q_23_5 : Cond.selects RX7 yX7_stops yX7_stops ∈ wsL_law := qr_23 _ (List.mem_of_getElem? (i := 5) rfl)
theorem q_23_6 : Cond.code yX7_stops cX7_stops 2 none ∈ wsL_law := qr_23 _ (List.mem_of_getElem? (i := 6) rfl)
theorem q_23_7 : Cond.constantFloat RX7 127 (1045220557) ∈ wsL_law := qr_23 _ (List.mem_of_getElem? (i := 7) rfl)
theorem q_23_8 : Cond.methodLink RX7 141 yX7_judges ∈ wsL_law := qr_23 _ (List.mem_of_getElem? (i := 8) rfl)
theorem q_23_9 : Cond.instanceMethod yX7_judges ∈ wsL_law := qr_23 _ (List.mem_of_getElem? (i := 9) rfl)
theorem q_23_10 : Cond.selects RX7 yX7_judges yX7_judges ∈ wsL_law := qr_23 _ (List.mem_of_getElem? (i := 10) rfl)
theorem q_23_11 : Cond.code yX7_judges cX7_judges 2 none ∈ wsL_law := qr_23 _ (List.mem_of_getElem? (i := 11) rfl)
theorem q_23_12 : Cond.constantFloat RX7 128 (1112014848) ∈ wsL_law := qr_23 _ (List.mem_of_getElem? (i := 12) rfl)
theorem q_23_13 : Cond.methodLink RL 58 yX6_append ∈ wsL_law := qr_23 _ (List.mem_of_getElem? (i := 13) rfl)
theorem q_23_14 : Cond.instanceMethod yX6_append ∈ wsL_law := qr_23 _ (List.mem_of_getElem? (i := 14) rfl)
theorem q_23_15 : Cond.selects RX6 yX6_append yX6_append ∈ wsL_law := qr_23 _ (List.mem_of_getElem? (i := 15) rfl)
theorem q_23_16 : Cond.code yX6_append cX6_append 2 (some .int) ∈ wsL_law := qr_23 _ (List.mem_of_getElem? (i := 16) rfl)
theorem q_23_17 : Cond.fieldLink RX6 119 "DockingMonitor$ActText" "length" "I" ∈ wsL_law := qr_23 _ (List.mem_of_getElem? (i := 17) rfl)
theorem q_23_18 : Cond.fieldLink RX6 122 "DockingMonitor$ActText" "bytes" "[B" ∈ wsL_law := qr_23 _ (List.mem_of_getElem? (i := 18) rfl)
theorem q_23_19 : Cond.methodLink RL 61 yX7_append ∈ wsL_law := qr_23 _ (List.mem_of_getElem? (i := 19) rfl)
theorem q_23_20 : Cond.instanceMethod yX7_append ∈ wsL_law := qr_23 _ (List.mem_of_getElem? (i := 20) rfl)
theorem q_23_21 : Cond.selects RX7 yX7_append yX7_append ∈ wsL_law := qr_23 _ (List.mem_of_getElem? (i := 21) rfl)
theorem q_23_22 : Cond.code yX7_append cX7_append 2 (some .int) ∈ wsL_law := qr_23 _ (List.mem_of_getElem? (i := 22) rfl)
theorem q_23_23 : Cond.fieldLink RX7 168 "DockingMonitorModel" "length" "I" ∈ wsL_law := qr_23 _ (List.mem_of_getElem? (i := 23) rfl)
theorem q_24_0 : Cond.methodLink RL 62 yX6_clearText ∈ wsL_law := qr_24 _ (List.mem_of_getElem? (i := 0) rfl)
theorem q_24_1 : Cond.instanceMethod yX6_clearText ∈ wsL_law := qr_24 _ (List.mem_of_getElem? (i := 1) rfl)
theorem q_24_2 : Cond.selects RX6 yX6_clearText yX6_clearText ∈ wsL_law := qr_24 _ (List.mem_of_getElem? (i := 2) rfl)
theorem q_24_3 : Cond.code yX6_clearText cX6_clearText 2 (some .int) ∈ wsL_law := qr_24 _ (List.mem_of_getElem? (i := 3) rfl)
theorem q_24_4 : Cond.methodLink RL 65 yX7_clearText ∈ wsL_law := qr_24 _ (List.mem_of_getElem? (i := 4) rfl)
theorem q_24_5 : Cond.instanceMethod yX7_clearText ∈ wsL_law := qr_24 _ (List.mem_of_getElem? (i := 5) rfl)
theorem q_24_6 : Cond.selects RX7 yX7_clearText yX7_clearText ∈ wsL_law := qr_24 _ (List.mem_of_getElem? (i := 6) rfl)
theorem q_24_7 : Cond.code yX7_clearText cX7_clearText 2 (some .int) ∈ wsL_law := qr_24 _ (List.mem_of_getElem? (i := 7) rfl)
theorem q_24_8 : Cond.methodLink RL 66 yX6_faultPosition ∈ wsL_law := qr_24 _ (List.mem_of_getElem? (i := 8) rfl)
theorem q_24_9 : Cond.instanceMethod yX6_faultPosition ∈ wsL_law := qr_24 _ (List.mem_of_getElem? (i := 9) rfl)
theorem q_24_10 : Cond.selects RX6 yX6_faultPosition yX6_faultPosition ∈ wsL_law := qr_24 _ (List.mem_of_getElem? (i := 10) rfl)
theorem q_24_11 : Cond.code yX6_faultPosition cX6_faultPosition 1 (some .int) ∈ wsL_law := qr_24 _ (List.mem_of_getElem? (i := 11) rfl)
theorem q_24_12 : Cond.methodLink RX6 126 yX0_fault ∈ wsL_law := qr_24 _ (List.mem_of_getElem? (i := 12) rfl)
theorem q_24_13 : Cond.instanceMethod yX0_fault ∈ wsL_law := qr_24 _ (List.mem_of_getElem? (i := 13) rfl)
theorem q_24_14 : Cond.selects RX0 yX0_fault yX0_fault ∈ wsL_law := qr_24 _ (List.mem_of_getElem? (i := 14) rfl)
theorem q_24_15 : Cond.code yX0_fault cX0_fault 5 (some .int) ∈ wsL_law := qr_24 _ (List.mem_of_getElem? (i := 15) rfl)
theorem q_24_16 : Cond.fieldLink RX0 15 "DockingMonitor$ActText" "length" "I" ∈ wsL_law := qr_24 _ (List.mem_of_getElem? (i := 16) rfl)
theorem q_24_17 : Cond.methodLink RX0 19 yX0_byteAt ∈ wsL_law := qr_24 _ (List.mem_of_getElem? (i := 17) rfl)
theorem q_24_18 : Cond.instanceMethod yX0_byteAt ∈ wsL_law := qr_24 _ (List.mem_of_getElem? (i := 18) rfl)
theorem q_24_19 : Cond.selects RX0 yX0_byteAt yX0_byteAt ∈ wsL_law := qr_24 _ (List.mem_of_getElem? (i := 19) rfl)
theorem q_24_20 : Cond.code yX0_byteAt cX0_byteAt 2 (some .int) ∈ wsL_law := qr_24 _ (List.mem_of_getElem? (i := 20) rfl)
theorem q_24_21 : Cond.methodLink RX0 23 yX0_isAct ∈ wsL_law := qr_24 _ (List.mem_of_getElem? (i := 21) rfl)
theorem q_24_22 : Cond.static yX0_isAct ∈ wsL_law := qr_24 _ (List.mem_of_getElem? (i := 22) rfl)
theorem q_24_23 : Cond.code yX0_isAct cX0_isAct 1 (some .boolean) ∈ wsL_law := qr_24 _ (List.mem_of_getElem? (i := 23) rfl)
theorem q_25_0 : Cond.methodLink RX0 27 yX0_digitsAt ∈ wsL_law := qr_25 _ (List.mem_of_getElem? (i := 0) rfl)
theorem q_25_1 : Cond.instanceMethod yX0_digitsAt ∈ wsL_law := qr_25 _ (List.mem_of_getElem? (i := 1) rfl)
theorem q_25_2 : Cond.selects RX0 yX0_digitsAt yX0_digitsAt ∈ wsL_law := qr_25 _ (List.mem_of_getElem? (i := 2) rfl)
theorem q_25_3 : Cond.code yX0_digitsAt cX0_digitsAt 3 (some .int) ∈ wsL_law := qr_25 _ (List.mem_of_getElem? (i := 3) rfl)
theorem q_25_4 : Cond.methodLink RX0 37 yX0_isDigit ∈ wsL_law := qr_25 _ (List.mem_of_getElem? (i := 4) rfl)
theorem q_25_5 : Cond.static yX0_isDigit ∈ wsL_law := qr_25 _ (List.mem_of_getElem? (i := 5) rfl)
theorem q_25_6 : Cond.code yX0_isDigit cX0_isDigit 1 (some .boolean) ∈ wsL_law := qr_25 _ (List.mem_of_getElem? (i := 6) rfl)
theorem q_25_7 : Cond.methodLink RX0 30 yX0_numberAt ∈ wsL_law := qr_25 _ (List.mem_of_getElem? (i := 7) rfl)
theorem q_25_8 : Cond.instanceMethod yX0_numberAt ∈ wsL_law := qr_25 _ (List.mem_of_getElem? (i := 8) rfl)
theorem q_25_9 : Cond.selects RX0 yX0_numberAt yX0_numberAt ∈ wsL_law := qr_25 _ (List.mem_of_getElem? (i := 9) rfl)
theorem q_25_10 : Cond.code yX0_numberAt cX0_numberAt 5 (some .int) ∈ wsL_law := qr_25 _ (List.mem_of_getElem? (i := 10) rfl)
theorem q_25_11 : Cond.methodLink RX0 33 yX0_isInRange ∈ wsL_law := qr_25 _ (List.mem_of_getElem? (i := 11) rfl)
theorem q_25_12 : Cond.static yX0_isInRange ∈ wsL_law := qr_25 _ (List.mem_of_getElem? (i := 12) rfl)
theorem q_25_13 : Cond.code yX0_isInRange cX0_isInRange 2 (some .boolean) ∈ wsL_law := qr_25 _ (List.mem_of_getElem? (i := 13) rfl)
theorem q_25_14 : Cond.methodLink RL 69 yX7_faultPosition ∈ wsL_law := qr_25 _ (List.mem_of_getElem? (i := 14) rfl)
theorem q_25_15 : Cond.instanceMethod yX7_faultPosition ∈ wsL_law := qr_25 _ (List.mem_of_getElem? (i := 15) rfl)
theorem q_25_16 : Cond.selects RX7 yX7_faultPosition yX7_faultPosition ∈ wsL_law := qr_25 _ (List.mem_of_getElem? (i := 16) rfl)
theorem q_25_17 : Cond.code yX7_faultPosition cX7_faultPosition 1 (some .int) ∈ wsL_law := qr_25 _ (List.mem_of_getElem? (i := 17) rfl)
theorem q_25_18 : Cond.fieldLink RX7 171 "DockingMonitorModel" "at" "I" ∈ wsL_law := qr_25 _ (List.mem_of_getElem? (i := 18) rfl)
theorem q_25_19 : Cond.methodLink RX7 187 yX7_passesAct ∈ wsL_law := qr_25 _ (List.mem_of_getElem? (i := 19) rfl)
theorem q_25_20 : Cond.instanceMethod yX7_passesAct ∈ wsL_law := qr_25 _ (List.mem_of_getElem? (i := 20) rfl)
theorem q_25_21 : Cond.selects RX7 yX7_passesAct yX7_passesAct ∈ wsL_law := qr_25 _ (List.mem_of_getElem? (i := 21) rfl)
theorem q_25_22 : Cond.code yX7_passesAct cX7_passesAct 1 (some .boolean) ∈ wsL_law := qr_25 _ (List.mem_of_getElem? (i := 22) rfl)
theorem q_25_23 : Cond.fieldLink RX7 180 "DockingMonitorModel" "act" "I" ∈ wsL_law := qr_25 _ (List.mem_of_getElem? (i := 23) rfl)
theorem q_26_0 : Cond.methodLink RX7 183 yX7_passesNumber ∈ wsL_law := qr_26 _ (List.mem_of_getElem? (i := 0) rfl)
theorem q_26_1 : Cond.instanceMethod yX7_passesNumber ∈ wsL_law := qr_26 _ (List.mem_of_getElem? (i := 1) rfl)
theorem q_26_2 : Cond.selects RX7 yX7_passesNumber yX7_passesNumber ∈ wsL_law := qr_26 _ (List.mem_of_getElem? (i := 2) rfl)
theorem q_26_3 : Cond.code yX7_passesNumber cX7_passesNumber 6 (some .boolean) ∈ wsL_law := qr_26 _ (List.mem_of_getElem? (i := 3) rfl)
theorem q_26_4 : Cond.fieldLink RX7 177 "DockingMonitorModel" "number" "I" ∈ wsL_law := qr_26 _ (List.mem_of_getElem? (i := 4) rfl)
theorem q_26_5 : Cond.methodLink RX7 174 yX7_isDigitHere ∈ wsL_law := qr_26 _ (List.mem_of_getElem? (i := 5) rfl)
theorem q_26_6 : Cond.instanceMethod yX7_isDigitHere ∈ wsL_law := qr_26 _ (List.mem_of_getElem? (i := 6) rfl)
theorem q_26_7 : Cond.selects RX7 yX7_isDigitHere yX7_isDigitHere ∈ wsL_law := qr_26 _ (List.mem_of_getElem? (i := 7) rfl)
theorem q_26_8 : Cond.code yX7_isDigitHere cX7_isDigitHere 1 (some .boolean) ∈ wsL_law := qr_26 _ (List.mem_of_getElem? (i := 8) rfl)
theorem q_26_9 : Cond.methodLink RL 70 yX6_run ∈ wsL_law := qr_26 _ (List.mem_of_getElem? (i := 9) rfl)
theorem q_26_10 : Cond.instanceMethod yX6_run ∈ wsL_law := qr_26 _ (List.mem_of_getElem? (i := 10) rfl)
theorem q_26_11 : Cond.selects RX6 yX6_run yX6_run ∈ wsL_law := qr_26 _ (List.mem_of_getElem? (i := 11) rfl)
theorem q_26_12 : Cond.code yX6_run cX6_run 5 (some .int) ∈ wsL_law := qr_26 _ (List.mem_of_getElem? (i := 12) rfl)
theorem q_26_13 : Cond.methodLink RX6 129 yX0_byteAt ∈ wsL_law := qr_26 _ (List.mem_of_getElem? (i := 13) rfl)
theorem q_26_14 : Cond.methodLink RX6 132 yX0_numberAt ∈ wsL_law := qr_26 _ (List.mem_of_getElem? (i := 14) rfl)
theorem q_26_15 : Cond.methodLink RX6 141 yX0_behindAct ∈ wsL_law := qr_26 _ (List.mem_of_getElem? (i := 15) rfl)
theorem q_26_16 : Cond.instanceMethod yX0_behindAct ∈ wsL_law := qr_26 _ (List.mem_of_getElem? (i := 16) rfl)
theorem q_26_17 : Cond.selects RX0 yX0_behindAct yX0_behindAct ∈ wsL_law := qr_26 _ (List.mem_of_getElem? (i := 17) rfl)
theorem q_26_18 : Cond.code yX0_behindAct cX0_behindAct 2 (some .int) ∈ wsL_law := qr_26 _ (List.mem_of_getElem? (i := 18) rfl)
theorem q_26_19 : Cond.methodLink RL 73 yX7_run ∈ wsL_law := qr_26 _ (List.mem_of_getElem? (i := 19) rfl)
theorem q_26_20 : Cond.instanceMethod yX7_run ∈ wsL_law := qr_26 _ (List.mem_of_getElem? (i := 20) rfl)
theorem q_26_21 : Cond.selects RX7 yX7_run yX7_run ∈ wsL_law := qr_26 _ (List.mem_of_getElem? (i := 21) rfl)
theorem q_26_22 : Cond.code yX7_run cX7_run 3 (some .int) ∈ wsL_law := qr_26 _ (List.mem_of_getElem? (i := 22) rfl)
theorem q_26_23 : Cond.methodLink RX7 190 yX7_faultPosition ∈ wsL_law := qr_26 _ (List.mem_of_getElem? (i := 23) rfl)
theorem q_27_0 : Cond.methodLink RX7 193 yX7_does ∈ wsL_law := qr_27 _ (List.mem_of_getElem? (i := 0) rfl)
theorem q_27_1 : Cond.instanceMethod yX7_does ∈ wsL_law := qr_27 _ (List.mem_of_getElem? (i := 1) rfl)
theorem q_27_2 : Cond.selects RX7 yX7_does yX7_does ∈ wsL_law := qr_27 _ (List.mem_of_getElem? (i := 2) rfl)
theorem q_27_3 : Cond.code yX7_does cX7_does 2 (some .boolean) ∈ wsL_law := qr_27 _ (List.mem_of_getElem? (i := 3) rfl)
theorem q_27_4 : Cond.methodLink RL 74 yX6_undo ∈ wsL_law := qr_27 _ (List.mem_of_getElem? (i := 4) rfl)
theorem q_27_5 : Cond.instanceMethod yX6_undo ∈ wsL_law := qr_27 _ (List.mem_of_getElem? (i := 5) rfl)
theorem q_27_6 : Cond.selects RX6 yX6_undo yX6_undo ∈ wsL_law := qr_27 _ (List.mem_of_getElem? (i := 6) rfl)
theorem q_27_7 : Cond.code yX6_undo cX6_undo 1 (some .int) ∈ wsL_law := qr_27 _ (List.mem_of_getElem? (i := 7) rfl)
theorem q_27_8 : Cond.fieldLink RX6 144 "DockingMonitor$History" "count" "I" ∈ wsL_law := qr_27 _ (List.mem_of_getElem? (i := 8) rfl)
theorem q_27_9 : Cond.methodLink RX6 145 yX1_takeLatest ∈ wsL_law := qr_27 _ (List.mem_of_getElem? (i := 9) rfl)
theorem q_27_10 : Cond.instanceMethod yX1_takeLatest ∈ wsL_law := qr_27 _ (List.mem_of_getElem? (i := 10) rfl)
theorem q_27_11 : Cond.selects RX1 yX1_takeLatest yX1_takeLatest ∈ wsL_law := qr_27 _ (List.mem_of_getElem? (i := 11) rfl)
theorem q_27_12 : Cond.code yX1_takeLatest cX1_takeLatest 2 none ∈ wsL_law := qr_27 _ (List.mem_of_getElem? (i := 12) rfl)
theorem q_27_13 : Cond.methodLink RL 77 yX7_undo ∈ wsL_law := qr_27 _ (List.mem_of_getElem? (i := 13) rfl)
theorem q_27_14 : Cond.instanceMethod yX7_undo ∈ wsL_law := qr_27 _ (List.mem_of_getElem? (i := 14) rfl)
theorem q_27_15 : Cond.selects RX7 yX7_undo yX7_undo ∈ wsL_law := qr_27 _ (List.mem_of_getElem? (i := 15) rfl)
theorem q_27_16 : Cond.code yX7_undo cX7_undo 1 (some .int) ∈ wsL_law := qr_27 _ (List.mem_of_getElem? (i := 16) rfl)
theorem q_27_17 : Cond.methodLink RX7 39 yX7_brings ∈ wsL_law := qr_27 _ (List.mem_of_getElem? (i := 17) rfl)
theorem q_27_18 : Cond.instanceMethod yX7_brings ∈ wsL_law := qr_27 _ (List.mem_of_getElem? (i := 18) rfl)
theorem q_27_19 : Cond.selects RX7 yX7_brings yX7_brings ∈ wsL_law := qr_27 _ (List.mem_of_getElem? (i := 19) rfl)
theorem q_27_20 : Cond.code yX7_brings cX7_brings 3 none ∈ wsL_law := qr_27 _ (List.mem_of_getElem? (i := 20) rfl)
theorem q_27_21 : Cond.methodLink RL 78 yX6_save ∈ wsL_law := qr_27 _ (List.mem_of_getElem? (i := 21) rfl)
theorem q_27_22 : Cond.instanceMethod yX6_save ∈ wsL_law := qr_27 _ (List.mem_of_getElem? (i := 22) rfl)
theorem q_27_23 : Cond.selects RX6 yX6_save yX6_save ∈ wsL_law := qr_27 _ (List.mem_of_getElem? (i := 23) rfl)
theorem q_28_0 : Cond.code yX6_save cX6_save 2 (some .int) ∈ wsL_law := qr_28 _ (List.mem_of_getElem? (i := 0) rfl)
theorem q_28_1 : Cond.fieldLink RX6 151 "DockingMonitor$State" "mode" "I" ∈ wsL_law := qr_28 _ (List.mem_of_getElem? (i := 1) rfl)
theorem q_28_2 : Cond.methodLink RX6 148 yX4_copyFrom ∈ wsL_law := qr_28 _ (List.mem_of_getElem? (i := 2) rfl)
theorem q_28_3 : Cond.methodLink RL 81 yX7_save ∈ wsL_law := qr_28 _ (List.mem_of_getElem? (i := 3) rfl)
theorem q_28_4 : Cond.instanceMethod yX7_save ∈ wsL_law := qr_28 _ (List.mem_of_getElem? (i := 4) rfl)
theorem q_28_5 : Cond.selects RX7 yX7_save yX7_save ∈ wsL_law := qr_28 _ (List.mem_of_getElem? (i := 5) rfl)
theorem q_28_6 : Cond.code yX7_save cX7_save 2 (some .int) ∈ wsL_law := qr_28 _ (List.mem_of_getElem? (i := 6) rfl)
theorem q_28_7 : Cond.methodLink RL 82 yX6_restore ∈ wsL_law := qr_28 _ (List.mem_of_getElem? (i := 7) rfl)
theorem q_28_8 : Cond.instanceMethod yX6_restore ∈ wsL_law := qr_28 _ (List.mem_of_getElem? (i := 8) rfl)
theorem q_28_9 : Cond.selects RX6 yX6_restore yX6_restore ∈ wsL_law := qr_28 _ (List.mem_of_getElem? (i := 9) rfl)
theorem q_28_10 : Cond.code yX6_restore cX6_restore 2 (some .int) ∈ wsL_law := qr_28 _ (List.mem_of_getElem? (i := 10) rfl)
theorem q_28_11 : Cond.methodLink RL 85 yX7_restore ∈ wsL_law := qr_28 _ (List.mem_of_getElem? (i := 11) rfl)
theorem q_28_12 : Cond.instanceMethod yX7_restore ∈ wsL_law := qr_28 _ (List.mem_of_getElem? (i := 12) rfl)
theorem q_28_13 : Cond.selects RX7 yX7_restore yX7_restore ∈ wsL_law := qr_28 _ (List.mem_of_getElem? (i := 13) rfl)
theorem q_28_14 : Cond.code yX7_restore cX7_restore 2 (some .int) ∈ wsL_law := qr_28 _ (List.mem_of_getElem? (i := 14) rfl)
theorem q_28_15 : Cond.methodLink RL 86 yX6_bits ∈ wsL_law := qr_28 _ (List.mem_of_getElem? (i := 15) rfl)
theorem q_28_16 : Cond.instanceMethod yX6_bits ∈ wsL_law := qr_28 _ (List.mem_of_getElem? (i := 16) rfl)
theorem q_28_17 : Cond.selects RX6 yX6_bits yX6_bits ∈ wsL_law := qr_28 _ (List.mem_of_getElem? (i := 17) rfl)
theorem q_28_18 : Cond.code yX6_bits cX6_bits 2 (some .int) ∈ wsL_law := qr_28 _ (List.mem_of_getElem? (i := 18) rfl)
theorem q_28_19 : Cond.methodLink RX6 154 yX6_numberOfShip ∈ wsL_law := qr_28 _ (List.mem_of_getElem? (i := 19) rfl)
theorem q_28_20 : Cond.instanceMethod yX6_numberOfShip ∈ wsL_law := qr_28 _ (List.mem_of_getElem? (i := 20) rfl)
theorem q_28_21 : Cond.selects RX6 yX6_numberOfShip yX6_numberOfShip ∈ wsL_law := qr_28 _ (List.mem_of_getElem? (i := 21) rfl)
theorem q_28_22 : Cond.code yX6_numberOfShip cX6_numberOfShip 3 (some .float) ∈ wsL_law := qr_28 _ (List.mem_of_getElem? (i := 22) rfl)
theorem q_28_23 : Cond.fieldLink RX6 223 "DockingMonitor$State" "y" "F" ∈ wsL_law := qr_28 _ (List.mem_of_getElem? (i := 23) rfl)
theorem q_29_0 : Cond.fieldLink RX6 226 "DockingMonitor$State" "vx" "F" ∈ wsL_law := qr_29 _ (List.mem_of_getElem? (i := 0) rfl)
theorem q_29_1 : Cond.fieldLink RX6 229 "DockingMonitor$State" "vy" "F" ∈ wsL_law := qr_29 _ (List.mem_of_getElem? (i := 1) rfl)
theorem q_29_2 : Cond.fieldLink RX6 191 "DockingMonitor$State" "x" "F" ∈ wsL_law := qr_29 _ (List.mem_of_getElem? (i := 2) rfl)
theorem q_29_3 : Cond.methodLink RX6 232 yX3_measured ∈ wsL_law := qr_29 _ (List.mem_of_getElem? (i := 3) rfl)
theorem q_29_4 : Cond.methodLink RX6 162 yX2_limitAt ∈ wsL_law := qr_29 _ (List.mem_of_getElem? (i := 4) rfl)
theorem q_29_5 : Cond.methodLink RX6 235 yX3_farMeasured ∈ wsL_law := qr_29 _ (List.mem_of_getElem? (i := 5) rfl)
theorem q_29_6 : Cond.methodLink RX6 238 yX3_nearMeasured ∈ wsL_law := qr_29 _ (List.mem_of_getElem? (i := 6) rfl)
theorem q_29_7 : Cond.methodLink RX6 158 yX6_bitsOf ∈ wsL_law := qr_29 _ (List.mem_of_getElem? (i := 7) rfl)
theorem q_29_8 : Cond.static yX6_bitsOf ∈ wsL_law := qr_29 _ (List.mem_of_getElem? (i := 8) rfl)
theorem q_29_9 : Cond.code yX6_bitsOf cX6_bitsOf 4 (some .int) ∈ wsL_law := qr_29 _ (List.mem_of_getElem? (i := 9) rfl)
theorem q_29_10 : Cond.constantFloat RX6 244 (1258291200) ∈ wsL_law := qr_29 _ (List.mem_of_getElem? (i := 10) rfl)
theorem q_29_11 : Cond.constant RX6 245 (-2147483648) ∈ wsL_law := qr_29 _ (List.mem_of_getElem? (i := 11) rfl)
theorem q_29_12 : Cond.methodLink RX6 241 yX6_size ∈ wsL_law := qr_29 _ (List.mem_of_getElem? (i := 12) rfl)
theorem q_29_13 : Cond.methodLink RL 89 yX7_bits ∈ wsL_law := qr_29 _ (List.mem_of_getElem? (i := 13) rfl)
theorem q_29_14 : Cond.instanceMethod yX7_bits ∈ wsL_law := qr_29 _ (List.mem_of_getElem? (i := 14) rfl)
theorem q_29_15 : Cond.selects RX7 yX7_bits yX7_bits ∈ wsL_law := qr_29 _ (List.mem_of_getElem? (i := 15) rfl)
theorem q_29_16 : Cond.code yX7_bits cX7_bits 2 (some .int) ∈ wsL_law := qr_29 _ (List.mem_of_getElem? (i := 16) rfl)
theorem q_29_17 : Cond.methodLink RX7 198 yX7_told ∈ wsL_law := qr_29 _ (List.mem_of_getElem? (i := 17) rfl)
theorem q_29_18 : Cond.instanceMethod yX7_told ∈ wsL_law := qr_29 _ (List.mem_of_getElem? (i := 18) rfl)
theorem q_29_19 : Cond.selects RX7 yX7_told yX7_told ∈ wsL_law := qr_29 _ (List.mem_of_getElem? (i := 19) rfl)
theorem q_29_20 : Cond.code yX7_told cX7_told 2 (some .float) ∈ wsL_law := qr_29 _ (List.mem_of_getElem? (i := 20) rfl)
theorem q_29_21 : Cond.methodLink RX7 201 yX7_bitsOf ∈ wsL_law := qr_29 _ (List.mem_of_getElem? (i := 21) rfl)
theorem q_29_22 : Cond.static yX7_bitsOf ∈ wsL_law := qr_29 _ (List.mem_of_getElem? (i := 22) rfl)
theorem q_29_23 : Cond.code yX7_bitsOf cX7_bitsOf 6 (some .int) ∈ wsL_law := qr_29 _ (List.mem_of_getElem? (i := 23) rfl)
theorem q_30_0 : Cond.constant RX7 196 (-2147483648) ∈ wsL_law := qr_30 _ (List.mem_of_getElem? (i := 0) rfl)
theorem q_30_1 : Cond.constantFloat RX7 197 (1258291200) ∈ wsL_law := qr_30 _ (List.mem_of_getElem? (i := 1) rfl)
theorem q_30_2 : Cond.methodLink RL 90 yX6_thousandths ∈ wsL_law := qr_30 _ (List.mem_of_getElem? (i := 2) rfl)
theorem q_30_3 : Cond.instanceMethod yX6_thousandths ∈ wsL_law := qr_30 _ (List.mem_of_getElem? (i := 3) rfl)
theorem q_30_4 : Cond.selects RX6 yX6_thousandths yX6_thousandths ∈ wsL_law := qr_30 _ (List.mem_of_getElem? (i := 4) rfl)
theorem q_30_5 : Cond.code yX6_thousandths cX6_thousandths 2 (some .int) ∈ wsL_law := qr_30 _ (List.mem_of_getElem? (i := 5) rfl)
theorem q_30_6 : Cond.methodLink RL 93 yX7_thousandths ∈ wsL_law := qr_30 _ (List.mem_of_getElem? (i := 6) rfl)
theorem q_30_7 : Cond.instanceMethod yX7_thousandths ∈ wsL_law := qr_30 _ (List.mem_of_getElem? (i := 7) rfl)
theorem q_30_8 : Cond.selects RX7 yX7_thousandths yX7_thousandths ∈ wsL_law := qr_30 _ (List.mem_of_getElem? (i := 8) rfl)
theorem q_30_9 : Cond.code yX7_thousandths cX7_thousandths 2 (some .int) ∈ wsL_law := qr_30 _ (List.mem_of_getElem? (i := 9) rfl)
theorem q_30_10 : Cond.methodLink RL 94 yX6_limit ∈ wsL_law := qr_30 _ (List.mem_of_getElem? (i := 10) rfl)
theorem q_30_11 : Cond.instanceMethod yX6_limit ∈ wsL_law := qr_30 _ (List.mem_of_getElem? (i := 11) rfl)
theorem q_30_12 : Cond.selects RX6 yX6_limit yX6_limit ∈ wsL_law := qr_30 _ (List.mem_of_getElem? (i := 12) rfl)
theorem q_30_13 : Cond.code yX6_limit cX6_limit 2 (some .int) ∈ wsL_law := qr_30 _ (List.mem_of_getElem? (i := 13) rfl)
theorem q_30_14 : Cond.methodLink RL 97 yX7_limit ∈ wsL_law := qr_30 _ (List.mem_of_getElem? (i := 14) rfl)
theorem q_30_15 : Cond.instanceMethod yX7_limit ∈ wsL_law := qr_30 _ (List.mem_of_getElem? (i := 15) rfl)
theorem q_30_16 : Cond.selects RX7 yX7_limit yX7_limit ∈ wsL_law := qr_30 _ (List.mem_of_getElem? (i := 16) rfl)
theorem q_30_17 : Cond.code yX7_limit cX7_limit 2 (some .int) ∈ wsL_law := qr_30 _ (List.mem_of_getElem? (i := 17) rfl)
theorem q_30_18 : Cond.methodLink RL 98 yX6_judgement ∈ wsL_law := qr_30 _ (List.mem_of_getElem? (i := 18) rfl)
theorem q_30_19 : Cond.instanceMethod yX6_judgement ∈ wsL_law := qr_30 _ (List.mem_of_getElem? (i := 19) rfl)
theorem q_30_20 : Cond.selects RX6 yX6_judgement yX6_judgement ∈ wsL_law := qr_30 _ (List.mem_of_getElem? (i := 20) rfl)
theorem q_30_21 : Cond.code yX6_judgement cX6_judgement 1 (some .int) ∈ wsL_law := qr_30 _ (List.mem_of_getElem? (i := 21) rfl)
theorem q_30_22 : Cond.methodLink RL 101 yX7_judgement ∈ wsL_law := qr_30 _ (List.mem_of_getElem? (i := 22) rfl)
theorem q_30_23 : Cond.instanceMethod yX7_judgement ∈ wsL_law := qr_30 _ (List.mem_of_getElem? (i := 23) rfl)
theorem q_31_0 : Cond.selects RX7 yX7_judgement yX7_judgement ∈ wsL_law := qr_31 _ (List.mem_of_getElem? (i := 0) rfl)
theorem q_31_1 : Cond.code yX7_judgement cX7_judgement 1 (some .int) ∈ wsL_law := qr_31 _ (List.mem_of_getElem? (i := 1) rfl)
theorem q_31_2 : Cond.methodLink RL 102 yX6_stop ∈ wsL_law := qr_31 _ (List.mem_of_getElem? (i := 2) rfl)
theorem q_31_3 : Cond.instanceMethod yX6_stop ∈ wsL_law := qr_31 _ (List.mem_of_getElem? (i := 3) rfl)
theorem q_31_4 : Cond.selects RX6 yX6_stop yX6_stop ∈ wsL_law := qr_31 _ (List.mem_of_getElem? (i := 4) rfl)
theorem q_31_5 : Cond.code yX6_stop cX6_stop 4 (some .int) ∈ wsL_law := qr_31 _ (List.mem_of_getElem? (i := 5) rfl)
theorem q_31_6 : Cond.fieldLink RX6 169 "DockingMonitor$Stops" "distances" "[I" ∈ wsL_law := qr_31 _ (List.mem_of_getElem? (i := 6) rfl)
theorem q_31_7 : Cond.fieldLink RX6 172 "DockingMonitor$Stops" "opened" "[Z" ∈ wsL_law := qr_31 _ (List.mem_of_getElem? (i := 7) rfl)
theorem q_31_8 : Cond.fieldLink RX6 175 "DockingMonitor$State" "heldStop" "I" ∈ wsL_law := qr_31 _ (List.mem_of_getElem? (i := 8) rfl)
theorem q_31_9 : Cond.methodLink RX6 166 yX5_has ∈ wsL_law := qr_31 _ (List.mem_of_getElem? (i := 9) rfl)
theorem q_31_10 : Cond.methodLink RL 105 yX7_stop ∈ wsL_law := qr_31 _ (List.mem_of_getElem? (i := 10) rfl)
theorem q_31_11 : Cond.instanceMethod yX7_stop ∈ wsL_law := qr_31 _ (List.mem_of_getElem? (i := 11) rfl)
theorem q_31_12 : Cond.selects RX7 yX7_stop yX7_stop ∈ wsL_law := qr_31 _ (List.mem_of_getElem? (i := 12) rfl)
theorem q_31_13 : Cond.code yX7_stop cX7_stop 3 (some .int) ∈ wsL_law := qr_31 _ (List.mem_of_getElem? (i := 13) rfl)
theorem q_31_14 : Cond.methodLink RL 106 yX6_point ∈ wsL_law := qr_31 _ (List.mem_of_getElem? (i := 14) rfl)
theorem q_31_15 : Cond.instanceMethod yX6_point ∈ wsL_law := qr_31 _ (List.mem_of_getElem? (i := 15) rfl)
theorem q_31_16 : Cond.selects RX6 yX6_point yX6_point ∈ wsL_law := qr_31 _ (List.mem_of_getElem? (i := 16) rfl)
theorem q_31_17 : Cond.code yX6_point cX6_point 4 (some .int) ∈ wsL_law := qr_31 _ (List.mem_of_getElem? (i := 17) rfl)
theorem q_31_18 : Cond.fieldLink RX6 178 "DockingMonitor$Profile" "distances" "[I" ∈ wsL_law := qr_31 _ (List.mem_of_getElem? (i := 18) rfl)
theorem q_31_19 : Cond.fieldLink RX6 179 "DockingMonitor$Profile" "speeds" "[I" ∈ wsL_law := qr_31 _ (List.mem_of_getElem? (i := 19) rfl)
theorem q_31_20 : Cond.methodLink RL 109 yX7_point ∈ wsL_law := qr_31 _ (List.mem_of_getElem? (i := 20) rfl)
theorem q_31_21 : Cond.instanceMethod yX7_point ∈ wsL_law := qr_31 _ (List.mem_of_getElem? (i := 21) rfl)
theorem q_31_22 : Cond.selects RX7 yX7_point yX7_point ∈ wsL_law := qr_31 _ (List.mem_of_getElem? (i := 22) rfl)
theorem q_31_23 : Cond.code yX7_point cX7_point 3 (some .int) ∈ wsL_law := qr_31 _ (List.mem_of_getElem? (i := 23) rfl)
theorem q_32_0 : Cond.methodLink RL 110 yX6_total ∈ wsL_law := qr_32 _ (List.mem_of_getElem? (i := 0) rfl)
theorem q_32_1 : Cond.instanceMethod yX6_total ∈ wsL_law := qr_32 _ (List.mem_of_getElem? (i := 1) rfl)
theorem q_32_2 : Cond.selects RX6 yX6_total yX6_total ∈ wsL_law := qr_32 _ (List.mem_of_getElem? (i := 2) rfl)
theorem q_32_3 : Cond.code yX6_total cX6_total 2 (some .int) ∈ wsL_law := qr_32 _ (List.mem_of_getElem? (i := 3) rfl)
theorem q_32_4 : Cond.fieldLink RX6 182 "DockingMonitor$State" "seconds" "I" ∈ wsL_law := qr_32 _ (List.mem_of_getElem? (i := 4) rfl)
theorem q_32_5 : Cond.fieldLink RX6 185 "DockingMonitor$State" "strikes" "I" ∈ wsL_law := qr_32 _ (List.mem_of_getElem? (i := 5) rfl)
theorem q_32_6 : Cond.fieldLink RX6 188 "DockingMonitor$Sensors" "agreements" "I" ∈ wsL_law := qr_32 _ (List.mem_of_getElem? (i := 6) rfl)
theorem q_32_7 : Cond.fieldLink RX6 201 "DockingMonitor$State" "judgedRetreats" "I" ∈ wsL_law := qr_32 _ (List.mem_of_getElem? (i := 7) rfl)
theorem q_32_8 : Cond.fieldLink RX6 204 "DockingMonitor$Sensors" "changes" "I" ∈ wsL_law := qr_32 _ (List.mem_of_getElem? (i := 8) rfl)
theorem q_32_9 : Cond.methodLink RX6 195 yX5_nextBelow ∈ wsL_law := qr_32 _ (List.mem_of_getElem? (i := 9) rfl)
theorem q_32_10 : Cond.methodLink RX6 198 yX5_countClosed ∈ wsL_law := qr_32 _ (List.mem_of_getElem? (i := 10) rfl)
theorem q_32_11 : Cond.methodLink RX6 207 yX6_settingAt ∈ wsL_law := qr_32 _ (List.mem_of_getElem? (i := 11) rfl)
theorem q_32_12 : Cond.instanceMethod yX6_settingAt ∈ wsL_law := qr_32 _ (List.mem_of_getElem? (i := 12) rfl)
theorem q_32_13 : Cond.selects RX6 yX6_settingAt yX6_settingAt ∈ wsL_law := qr_32 _ (List.mem_of_getElem? (i := 13) rfl)
theorem q_32_14 : Cond.code yX6_settingAt cX6_settingAt 2 (some .int) ∈ wsL_law := qr_32 _ (List.mem_of_getElem? (i := 14) rfl)
theorem q_32_15 : Cond.methodLink RL 113 yX7_total ∈ wsL_law := qr_32 _ (List.mem_of_getElem? (i := 15) rfl)
theorem q_32_16 : Cond.instanceMethod yX7_total ∈ wsL_law := qr_32 _ (List.mem_of_getElem? (i := 16) rfl)
theorem q_32_17 : Cond.selects RX7 yX7_total yX7_total ∈ wsL_law := qr_32 _ (List.mem_of_getElem? (i := 17) rfl)
theorem q_32_18 : Cond.code yX7_total cX7_total 2 (some .int) ∈ wsL_law := qr_32 _ (List.mem_of_getElem? (i := 18) rfl)
theorem q_32_19 : Cond.methodLink RL 114 yX6_modeIn ∈ wsL_law := qr_32 _ (List.mem_of_getElem? (i := 19) rfl)
theorem q_32_20 : Cond.instanceMethod yX6_modeIn ∈ wsL_law := qr_32 _ (List.mem_of_getElem? (i := 20) rfl)
theorem q_32_21 : Cond.selects RX6 yX6_modeIn yX6_modeIn ∈ wsL_law := qr_32 _ (List.mem_of_getElem? (i := 21) rfl)
theorem q_32_22 : Cond.code yX6_modeIn cX6_modeIn 3 (some .int) ∈ wsL_law := qr_32 _ (List.mem_of_getElem? (i := 22) rfl)
theorem q_32_23 : Cond.methodLink RX6 210 yX4_passSecond ∈ wsL_law := qr_32 _ (List.mem_of_getElem? (i := 23) rfl)
theorem q_33_0 : Cond.methodLink RL 117 yX7_modeIn ∈ wsL_law := qr_33 _ (List.mem_of_getElem? (i := 0) rfl)
theorem q_33_1 : Cond.instanceMethod yX7_modeIn ∈ wsL_law := qr_33 _ (List.mem_of_getElem? (i := 1) rfl)
theorem q_33_2 : Cond.selects RX7 yX7_modeIn yX7_modeIn ∈ wsL_law := qr_33 _ (List.mem_of_getElem? (i := 2) rfl)
theorem q_33_3 : Cond.code yX7_modeIn cX7_modeIn 3 (some .int) ∈ wsL_law := qr_33 _ (List.mem_of_getElem? (i := 3) rfl)
theorem q_33_4 : Cond.methodLink RL 118 yX6_secondsTo ∈ wsL_law := qr_33 _ (List.mem_of_getElem? (i := 4) rfl)
theorem q_33_5 : Cond.instanceMethod yX6_secondsTo ∈ wsL_law := qr_33 _ (List.mem_of_getElem? (i := 5) rfl)
theorem q_33_6 : Cond.selects RX6 yX6_secondsTo yX6_secondsTo ∈ wsL_law := qr_33 _ (List.mem_of_getElem? (i := 6) rfl)
theorem q_33_7 : Cond.code yX6_secondsTo cX6_secondsTo 3 (some .int) ∈ wsL_law := qr_33 _ (List.mem_of_getElem? (i := 7) rfl)
theorem q_33_8 : Cond.methodLink RL 121 yX7_secondsTo ∈ wsL_law := qr_33 _ (List.mem_of_getElem? (i := 8) rfl)
theorem q_33_9 : Cond.instanceMethod yX7_secondsTo ∈ wsL_law := qr_33 _ (List.mem_of_getElem? (i := 9) rfl)
theorem q_33_10 : Cond.selects RX7 yX7_secondsTo yX7_secondsTo ∈ wsL_law := qr_33 _ (List.mem_of_getElem? (i := 10) rfl)
theorem q_33_11 : Cond.code yX7_secondsTo cX7_secondsTo 3 (some .int) ∈ wsL_law := qr_33 _ (List.mem_of_getElem? (i := 11) rfl)
theorem q_33_12 : Cond.methodLink RL 122 yX6_closest ∈ wsL_law := qr_33 _ (List.mem_of_getElem? (i := 12) rfl)
theorem q_33_13 : Cond.instanceMethod yX6_closest ∈ wsL_law := qr_33 _ (List.mem_of_getElem? (i := 13) rfl)
theorem q_33_14 : Cond.selects RX6 yX6_closest yX6_closest ∈ wsL_law := qr_33 _ (List.mem_of_getElem? (i := 14) rfl)
theorem q_33_15 : Cond.code yX6_closest cX6_closest 2 (some .int) ∈ wsL_law := qr_33 _ (List.mem_of_getElem? (i := 15) rfl)
theorem q_33_16 : Cond.methodLink RX6 213 yX4_leastSquare ∈ wsL_law := qr_33 _ (List.mem_of_getElem? (i := 16) rfl)
theorem q_33_17 : Cond.instanceMethod yX4_leastSquare ∈ wsL_law := qr_33 _ (List.mem_of_getElem? (i := 17) rfl)
theorem q_33_18 : Cond.selects RX4 yX4_leastSquare yX4_leastSquare ∈ wsL_law := qr_33 _ (List.mem_of_getElem? (i := 18) rfl)
theorem q_33_19 : Cond.code yX4_leastSquare cX4_leastSquare 7 (some .float) ∈ wsL_law := qr_33 _ (List.mem_of_getElem? (i := 19) rfl)
theorem q_33_20 : Cond.methodLink RL 125 yX7_closest ∈ wsL_law := qr_33 _ (List.mem_of_getElem? (i := 20) rfl)
theorem q_33_21 : Cond.instanceMethod yX7_closest ∈ wsL_law := qr_33 _ (List.mem_of_getElem? (i := 21) rfl)
theorem q_33_22 : Cond.selects RX7 yX7_closest yX7_closest ∈ wsL_law := qr_33 _ (List.mem_of_getElem? (i := 22) rfl)
theorem q_33_23 : Cond.code yX7_closest cX7_closest 7 (some .int) ∈ wsL_law := qr_33 _ (List.mem_of_getElem? (i := 23) rfl)
theorem q_34_0 : Cond.methodLink RL 126 yX6_safeSpeed ∈ wsL_law := qr_34 _ (List.mem_of_getElem? (i := 0) rfl)
theorem q_34_1 : Cond.instanceMethod yX6_safeSpeed ∈ wsL_law := qr_34 _ (List.mem_of_getElem? (i := 1) rfl)
theorem q_34_2 : Cond.selects RX6 yX6_safeSpeed yX6_safeSpeed ∈ wsL_law := qr_34 _ (List.mem_of_getElem? (i := 2) rfl)
theorem q_34_3 : Cond.code yX6_safeSpeed cX6_safeSpeed 3 (some .int) ∈ wsL_law := qr_34 _ (List.mem_of_getElem? (i := 3) rfl)
theorem q_34_4 : Cond.methodLink RX6 216 yX4_isTooFast ∈ wsL_law := qr_34 _ (List.mem_of_getElem? (i := 4) rfl)
theorem q_34_5 : Cond.methodLink RX6 220 yX4_hasUnsafeDrift ∈ wsL_law := qr_34 _ (List.mem_of_getElem? (i := 5) rfl)
theorem q_34_6 : Cond.methodLink RL 129 yX7_safeSpeed ∈ wsL_law := qr_34 _ (List.mem_of_getElem? (i := 6) rfl)
theorem q_34_7 : Cond.instanceMethod yX7_safeSpeed ∈ wsL_law := qr_34 _ (List.mem_of_getElem? (i := 7) rfl)
theorem q_34_8 : Cond.selects RX7 yX7_safeSpeed yX7_safeSpeed ∈ wsL_law := qr_34 _ (List.mem_of_getElem? (i := 8) rfl)
theorem q_34_9 : Cond.code yX7_safeSpeed cX7_safeSpeed 3 (some .int) ∈ wsL_law := qr_34 _ (List.mem_of_getElem? (i := 9) rfl)
end
section
theorem dL_law_0 : decode cL_law 0 = .ok (.new 7, 3) := by decide +kernel
theorem dL_law_3 : decode cL_law 3 = .ok (.dup, 1) := by decide +kernel
theorem dL_law_4 : decode cL_law 4 = .ok (.invokespecial 9, 3) := by decide +kernel
theorem dL_law_7 : decode cL_law 7 = .ok (.astore_n 1, 1) := by decide +kernel
theorem dL_law_8 : decode cL_law 8 = .ok (.new 10, 3) := by decide +kernel
theorem dL_law_11 : decode cL_law 11 = .ok (.dup, 1) := by decide +kernel
theorem dL_law_12 : decode cL_law 12 = .ok (.invokespecial 12, 3) := by decide +kernel
theorem dL_law_15 : decode cL_law 15 = .ok (.astore_n 2, 1) := by decide +kernel
theorem dL_law_16 : decode cL_law 16 = .ok (.iconst 0, 1) := by decide +kernel
theorem dL_law_17 : decode cL_law 17 = .ok (.istore_n 3, 1) := by decide +kernel
theorem dL_law_18 : decode cL_law 18 = .ok (.iload_n 3, 1) := by decide +kernel
theorem dL_law_19 : decode cL_law 19 = .ok (.aload_n 0, 1) := by decide +kernel
theorem dL_law_20 : decode cL_law 20 = .ok (.arraylength, 1) := by decide +kernel
theorem dL_law_21 : decode cL_law 21 = .ok (.iconst 5, 1) := by decide +kernel
theorem dL_law_22 : decode cL_law 22 = .ok (.isub, 1) := by decide +kernel
theorem dL_law_23 : decode cL_law 23 = .ok (.if_icmp .gt 793, 3) := by decide +kernel
theorem dL_law_26 : decode cL_law 26 = .ok (.aload_n 0, 1) := by decide +kernel
theorem dL_law_27 : decode cL_law 27 = .ok (.iload_n 3, 1) := by decide +kernel
theorem dL_law_28 : decode cL_law 28 = .ok (.iaload, 1) := by decide +kernel
theorem dL_law_29 : decode cL_law 29 = .ok (.bipush 31, 2) := by decide +kernel
theorem dL_law_31 : decode cL_law 31 = .ok (.iand, 1) := by decide +kernel
theorem dL_law_32 : decode cL_law 32 = .ok (.tableswitch 778 0 27 #[128, 181, 214, 247, 270, 319, 332, 345, 358, 381, 404, 427, 440, 453, 466, 479, 502, 525, 548, 571, 594, 607, 640, 673, 696, 719, 742, 765], 128) := by decide +kernel
theorem dL_law_160 : decode cL_law 160 = .ok (.aload_n 1, 1) := by decide +kernel
theorem dL_law_161 : decode cL_law 161 = .ok (.aload_n 0, 1) := by decide +kernel
theorem dL_law_162 : decode cL_law 162 = .ok (.iload_n 3, 1) := by decide +kernel
theorem dL_law_163 : decode cL_law 163 = .ok (.iconst 1, 1) := by decide +kernel
theorem dL_law_164 : decode cL_law 164 = .ok (.iadd, 1) := by decide +kernel
theorem dL_law_165 : decode cL_law 165 = .ok (.iaload, 1) := by decide +kernel
theorem dL_law_166 : decode cL_law 166 = .ok (.aload_n 0, 1) := by decide +kernel
theorem dL_law_167 : decode cL_law 167 = .ok (.iload_n 3, 1) := by decide +kernel
theorem dL_law_168 : decode cL_law 168 = .ok (.iconst 2, 1) := by decide +kernel
theorem dL_law_169 : decode cL_law 169 = .ok (.iadd, 1) := by decide +kernel
theorem dL_law_170 : decode cL_law 170 = .ok (.iaload, 1) := by decide +kernel
theorem dL_law_171 : decode cL_law 171 = .ok (.aload_n 0, 1) := by decide +kernel
theorem dL_law_172 : decode cL_law 172 = .ok (.iload_n 3, 1) := by decide +kernel
theorem dL_law_173 : decode cL_law 173 = .ok (.iconst 3, 1) := by decide +kernel
theorem dL_law_174 : decode cL_law 174 = .ok (.iadd, 1) := by decide +kernel
theorem dL_law_175 : decode cL_law 175 = .ok (.iaload, 1) := by decide +kernel
theorem dL_law_176 : decode cL_law 176 = .ok (.aload_n 0, 1) := by decide +kernel
theorem dL_law_177 : decode cL_law 177 = .ok (.iload_n 3, 1) := by decide +kernel
theorem dL_law_178 : decode cL_law 178 = .ok (.iconst 4, 1) := by decide +kernel
theorem dL_law_179 : decode cL_law 179 = .ok (.iadd, 1) := by decide +kernel
theorem dL_law_180 : decode cL_law 180 = .ok (.iaload, 1) := by decide +kernel
theorem dL_law_181 : decode cL_law 181 = .ok (.invokevirtual 13, 3) := by decide +kernel
theorem dL_law_184 : decode cL_law 184 = .ok (.aload_n 2, 1) := by decide +kernel
theorem dL_law_185 : decode cL_law 185 = .ok (.aload_n 0, 1) := by decide +kernel
theorem dL_law_186 : decode cL_law 186 = .ok (.iload_n 3, 1) := by decide +kernel
theorem dL_law_187 : decode cL_law 187 = .ok (.iconst 1, 1) := by decide +kernel
theorem dL_law_188 : decode cL_law 188 = .ok (.iadd, 1) := by decide +kernel
theorem dL_law_189 : decode cL_law 189 = .ok (.iaload, 1) := by decide +kernel
theorem dL_law_190 : decode cL_law 190 = .ok (.aload_n 0, 1) := by decide +kernel
theorem dL_law_191 : decode cL_law 191 = .ok (.iload_n 3, 1) := by decide +kernel
theorem dL_law_192 : decode cL_law 192 = .ok (.iconst 2, 1) := by decide +kernel
theorem dL_law_193 : decode cL_law 193 = .ok (.iadd, 1) := by decide +kernel
theorem dL_law_194 : decode cL_law 194 = .ok (.iaload, 1) := by decide +kernel
theorem dL_law_195 : decode cL_law 195 = .ok (.aload_n 0, 1) := by decide +kernel
theorem dL_law_196 : decode cL_law 196 = .ok (.iload_n 3, 1) := by decide +kernel
theorem dL_law_197 : decode cL_law 197 = .ok (.iconst 3, 1) := by decide +kernel
theorem dL_law_198 : decode cL_law 198 = .ok (.iadd, 1) := by decide +kernel
theorem dL_law_199 : decode cL_law 199 = .ok (.iaload, 1) := by decide +kernel
theorem dL_law_200 : decode cL_law 200 = .ok (.aload_n 0, 1) := by decide +kernel
theorem dL_law_201 : decode cL_law 201 = .ok (.iload_n 3, 1) := by decide +kernel
theorem dL_law_202 : decode cL_law 202 = .ok (.iconst 4, 1) := by decide +kernel
theorem dL_law_203 : decode cL_law 203 = .ok (.iadd, 1) := by decide +kernel
theorem dL_law_204 : decode cL_law 204 = .ok (.iaload, 1) := by decide +kernel
theorem dL_law_205 : decode cL_law 205 = .ok (.invokevirtual 17, 3) := by decide +kernel
theorem dL_law_208 : decode cL_law 208 = .ok (.if_icmp .eq 602, 3) := by decide +kernel
theorem dL_law_211 : decode cL_law 211 = .ok (.iconst 0, 1) := by decide +kernel
theorem dL_law_212 : decode cL_law 212 = .ok (.ireturn, 1) := by decide +kernel
theorem dL_law_213 : decode cL_law 213 = .ok (.aload_n 1, 1) := by decide +kernel
theorem dL_law_214 : decode cL_law 214 = .ok (.aload_n 0, 1) := by decide +kernel
theorem dL_law_215 : decode cL_law 215 = .ok (.iload_n 3, 1) := by decide +kernel
theorem dL_law_216 : decode cL_law 216 = .ok (.iconst 1, 1) := by decide +kernel
theorem dL_law_217 : decode cL_law 217 = .ok (.iadd, 1) := by decide +kernel
theorem dL_law_218 : decode cL_law 218 = .ok (.iaload, 1) := by decide +kernel
theorem dL_law_219 : decode cL_law 219 = .ok (.aload_n 0, 1) := by decide +kernel
theorem dL_law_220 : decode cL_law 220 = .ok (.iload_n 3, 1) := by decide +kernel
theorem dL_law_221 : decode cL_law 221 = .ok (.iconst 2, 1) := by decide +kernel
theorem dL_law_222 : decode cL_law 222 = .ok (.iadd, 1) := by decide +kernel
theorem dL_law_223 : decode cL_law 223 = .ok (.iaload, 1) := by decide +kernel
theorem dL_law_224 : decode cL_law 224 = .ok (.invokevirtual 18, 3) := by decide +kernel
theorem dL_law_227 : decode cL_law 227 = .ok (.aload_n 2, 1) := by decide +kernel
theorem dL_law_228 : decode cL_law 228 = .ok (.aload_n 0, 1) := by decide +kernel
theorem dL_law_229 : decode cL_law 229 = .ok (.iload_n 3, 1) := by decide +kernel
theorem dL_law_230 : decode cL_law 230 = .ok (.iconst 1, 1) := by decide +kernel
theorem dL_law_231 : decode cL_law 231 = .ok (.iadd, 1) := by decide +kernel
theorem dL_law_232 : decode cL_law 232 = .ok (.iaload, 1) := by decide +kernel
theorem dL_law_233 : decode cL_law 233 = .ok (.aload_n 0, 1) := by decide +kernel
theorem dL_law_234 : decode cL_law 234 = .ok (.iload_n 3, 1) := by decide +kernel
theorem dL_law_235 : decode cL_law 235 = .ok (.iconst 2, 1) := by decide +kernel
theorem dL_law_236 : decode cL_law 236 = .ok (.iadd, 1) := by decide +kernel
theorem dL_law_237 : decode cL_law 237 = .ok (.iaload, 1) := by decide +kernel
theorem dL_law_238 : decode cL_law 238 = .ok (.invokevirtual 22, 3) := by decide +kernel
theorem dL_law_241 : decode cL_law 241 = .ok (.if_icmp .eq 569, 3) := by decide +kernel
theorem dL_law_244 : decode cL_law 244 = .ok (.iconst 0, 1) := by decide +kernel
theorem dL_law_245 : decode cL_law 245 = .ok (.ireturn, 1) := by decide +kernel
theorem dL_law_246 : decode cL_law 246 = .ok (.aload_n 1, 1) := by decide +kernel
theorem dL_law_247 : decode cL_law 247 = .ok (.aload_n 0, 1) := by decide +kernel
theorem dL_law_248 : decode cL_law 248 = .ok (.iload_n 3, 1) := by decide +kernel
theorem dL_law_249 : decode cL_law 249 = .ok (.iconst 1, 1) := by decide +kernel
theorem dL_law_250 : decode cL_law 250 = .ok (.iadd, 1) := by decide +kernel
theorem dL_law_251 : decode cL_law 251 = .ok (.iaload, 1) := by decide +kernel
theorem dL_law_252 : decode cL_law 252 = .ok (.aload_n 0, 1) := by decide +kernel
theorem dL_law_253 : decode cL_law 253 = .ok (.iload_n 3, 1) := by decide +kernel
theorem dL_law_254 : decode cL_law 254 = .ok (.iconst 2, 1) := by decide +kernel
theorem dL_law_255 : decode cL_law 255 = .ok (.iadd, 1) := by decide +kernel
theorem dL_law_256 : decode cL_law 256 = .ok (.iaload, 1) := by decide +kernel
theorem dL_law_257 : decode cL_law 257 = .ok (.invokevirtual 23, 3) := by decide +kernel
theorem dL_law_260 : decode cL_law 260 = .ok (.aload_n 2, 1) := by decide +kernel
theorem dL_law_261 : decode cL_law 261 = .ok (.aload_n 0, 1) := by decide +kernel
theorem dL_law_262 : decode cL_law 262 = .ok (.iload_n 3, 1) := by decide +kernel
theorem dL_law_263 : decode cL_law 263 = .ok (.iconst 1, 1) := by decide +kernel
theorem dL_law_264 : decode cL_law 264 = .ok (.iadd, 1) := by decide +kernel
theorem dL_law_265 : decode cL_law 265 = .ok (.iaload, 1) := by decide +kernel
theorem dL_law_266 : decode cL_law 266 = .ok (.aload_n 0, 1) := by decide +kernel
theorem dL_law_267 : decode cL_law 267 = .ok (.iload_n 3, 1) := by decide +kernel
theorem dL_law_268 : decode cL_law 268 = .ok (.iconst 2, 1) := by decide +kernel
theorem dL_law_269 : decode cL_law 269 = .ok (.iadd, 1) := by decide +kernel
theorem dL_law_270 : decode cL_law 270 = .ok (.iaload, 1) := by decide +kernel
theorem dL_law_271 : decode cL_law 271 = .ok (.invokevirtual 26, 3) := by decide +kernel
theorem dL_law_274 : decode cL_law 274 = .ok (.if_icmp .eq 536, 3) := by decide +kernel
theorem dL_law_277 : decode cL_law 277 = .ok (.iconst 0, 1) := by decide +kernel
theorem dL_law_278 : decode cL_law 278 = .ok (.ireturn, 1) := by decide +kernel
theorem dL_law_279 : decode cL_law 279 = .ok (.aload_n 1, 1) := by decide +kernel
theorem dL_law_280 : decode cL_law 280 = .ok (.aload_n 0, 1) := by decide +kernel
theorem dL_law_281 : decode cL_law 281 = .ok (.iload_n 3, 1) := by decide +kernel
theorem dL_law_282 : decode cL_law 282 = .ok (.iconst 1, 1) := by decide +kernel
theorem dL_law_283 : decode cL_law 283 = .ok (.iadd, 1) := by decide +kernel
theorem dL_law_284 : decode cL_law 284 = .ok (.iaload, 1) := by decide +kernel
theorem dL_law_285 : decode cL_law 285 = .ok (.invokevirtual 27, 3) := by decide +kernel
theorem dL_law_288 : decode cL_law 288 = .ok (.aload_n 2, 1) := by decide +kernel
theorem dL_law_289 : decode cL_law 289 = .ok (.aload_n 0, 1) := by decide +kernel
theorem dL_law_290 : decode cL_law 290 = .ok (.iload_n 3, 1) := by decide +kernel
theorem dL_law_291 : decode cL_law 291 = .ok (.iconst 1, 1) := by decide +kernel
theorem dL_law_292 : decode cL_law 292 = .ok (.iadd, 1) := by decide +kernel
theorem dL_law_293 : decode cL_law 293 = .ok (.iaload, 1) := by decide +kernel
theorem dL_law_294 : decode cL_law 294 = .ok (.invokevirtual 31, 3) := by decide +kernel
theorem dL_law_297 : decode cL_law 297 = .ok (.if_icmp .eq 513, 3) := by decide +kernel
theorem dL_law_300 : decode cL_law 300 = .ok (.iconst 0, 1) := by decide +kernel
theorem dL_law_301 : decode cL_law 301 = .ok (.ireturn, 1) := by decide +kernel
theorem dL_law_302 : decode cL_law 302 = .ok (.aload_n 1, 1) := by decide +kernel
theorem dL_law_303 : decode cL_law 303 = .ok (.aload_n 0, 1) := by decide +kernel
theorem dL_law_304 : decode cL_law 304 = .ok (.iload_n 3, 1) := by decide +kernel
theorem dL_law_305 : decode cL_law 305 = .ok (.iconst 1, 1) := by decide +kernel
theorem dL_law_306 : decode cL_law 306 = .ok (.iadd, 1) := by decide +kernel
theorem dL_law_307 : decode cL_law 307 = .ok (.iaload, 1) := by decide +kernel
theorem dL_law_308 : decode cL_law 308 = .ok (.ifCond .eq 7, 3) := by decide +kernel
theorem dL_law_311 : decode cL_law 311 = .ok (.iconst 1, 1) := by decide +kernel
theorem dL_law_312 : decode cL_law 312 = .ok (.goto 4, 3) := by decide +kernel
theorem dL_law_315 : decode cL_law 315 = .ok (.iconst 0, 1) := by decide +kernel
theorem dL_law_316 : decode cL_law 316 = .ok (.aload_n 0, 1) := by decide +kernel
theorem dL_law_317 : decode cL_law 317 = .ok (.iload_n 3, 1) := by decide +kernel
theorem dL_law_318 : decode cL_law 318 = .ok (.iconst 2, 1) := by decide +kernel
theorem dL_law_319 : decode cL_law 319 = .ok (.iadd, 1) := by decide +kernel
theorem dL_law_320 : decode cL_law 320 = .ok (.iaload, 1) := by decide +kernel
theorem dL_law_321 : decode cL_law 321 = .ok (.invokevirtual 32, 3) := by decide +kernel
theorem dL_law_324 : decode cL_law 324 = .ok (.aload_n 2, 1) := by decide +kernel
theorem dL_law_325 : decode cL_law 325 = .ok (.aload_n 0, 1) := by decide +kernel
theorem dL_law_326 : decode cL_law 326 = .ok (.iload_n 3, 1) := by decide +kernel
theorem dL_law_327 : decode cL_law 327 = .ok (.iconst 1, 1) := by decide +kernel
theorem dL_law_328 : decode cL_law 328 = .ok (.iadd, 1) := by decide +kernel
theorem dL_law_329 : decode cL_law 329 = .ok (.iaload, 1) := by decide +kernel
theorem dL_law_330 : decode cL_law 330 = .ok (.ifCond .eq 7, 3) := by decide +kernel
theorem dL_law_333 : decode cL_law 333 = .ok (.iconst 1, 1) := by decide +kernel
theorem dL_law_334 : decode cL_law 334 = .ok (.goto 4, 3) := by decide +kernel
theorem dL_law_337 : decode cL_law 337 = .ok (.iconst 0, 1) := by decide +kernel
theorem dL_law_338 : decode cL_law 338 = .ok (.aload_n 0, 1) := by decide +kernel
theorem dL_law_339 : decode cL_law 339 = .ok (.iload_n 3, 1) := by decide +kernel
theorem dL_law_340 : decode cL_law 340 = .ok (.iconst 2, 1) := by decide +kernel
theorem dL_law_341 : decode cL_law 341 = .ok (.iadd, 1) := by decide +kernel
theorem dL_law_342 : decode cL_law 342 = .ok (.iaload, 1) := by decide +kernel
theorem dL_law_343 : decode cL_law 343 = .ok (.invokevirtual 36, 3) := by decide +kernel
theorem dL_law_346 : decode cL_law 346 = .ok (.if_icmp .eq 464, 3) := by decide +kernel
theorem dL_law_349 : decode cL_law 349 = .ok (.iconst 0, 1) := by decide +kernel
theorem dL_law_350 : decode cL_law 350 = .ok (.ireturn, 1) := by decide +kernel
theorem dL_law_351 : decode cL_law 351 = .ok (.aload_n 1, 1) := by decide +kernel
theorem dL_law_352 : decode cL_law 352 = .ok (.invokevirtual 37, 3) := by decide +kernel
theorem dL_law_355 : decode cL_law 355 = .ok (.aload_n 2, 1) := by decide +kernel
theorem dL_law_356 : decode cL_law 356 = .ok (.invokevirtual 41, 3) := by decide +kernel
theorem dL_law_359 : decode cL_law 359 = .ok (.if_icmp .eq 451, 3) := by decide +kernel
theorem dL_law_362 : decode cL_law 362 = .ok (.iconst 0, 1) := by decide +kernel
theorem dL_law_363 : decode cL_law 363 = .ok (.ireturn, 1) := by decide +kernel
theorem dL_law_364 : decode cL_law 364 = .ok (.aload_n 1, 1) := by decide +kernel
theorem dL_law_365 : decode cL_law 365 = .ok (.invokevirtual 42, 3) := by decide +kernel
theorem dL_law_368 : decode cL_law 368 = .ok (.aload_n 2, 1) := by decide +kernel
theorem dL_law_369 : decode cL_law 369 = .ok (.invokevirtual 45, 3) := by decide +kernel
theorem dL_law_372 : decode cL_law 372 = .ok (.if_icmp .eq 438, 3) := by decide +kernel
theorem dL_law_375 : decode cL_law 375 = .ok (.iconst 0, 1) := by decide +kernel
theorem dL_law_376 : decode cL_law 376 = .ok (.ireturn, 1) := by decide +kernel
theorem dL_law_377 : decode cL_law 377 = .ok (.aload_n 1, 1) := by decide +kernel
theorem dL_law_378 : decode cL_law 378 = .ok (.invokevirtual 46, 3) := by decide +kernel
theorem dL_law_381 : decode cL_law 381 = .ok (.aload_n 2, 1) := by decide +kernel
theorem dL_law_382 : decode cL_law 382 = .ok (.invokevirtual 49, 3) := by decide +kernel
theorem dL_law_385 : decode cL_law 385 = .ok (.if_icmp .eq 425, 3) := by decide +kernel
theorem dL_law_388 : decode cL_law 388 = .ok (.iconst 0, 1) := by decide +kernel
theorem dL_law_389 : decode cL_law 389 = .ok (.ireturn, 1) := by decide +kernel
theorem dL_law_390 : decode cL_law 390 = .ok (.aload_n 1, 1) := by decide +kernel
theorem dL_law_391 : decode cL_law 391 = .ok (.aload_n 0, 1) := by decide +kernel
theorem dL_law_392 : decode cL_law 392 = .ok (.iload_n 3, 1) := by decide +kernel
theorem dL_law_393 : decode cL_law 393 = .ok (.iconst 1, 1) := by decide +kernel
theorem dL_law_394 : decode cL_law 394 = .ok (.iadd, 1) := by decide +kernel
theorem dL_law_395 : decode cL_law 395 = .ok (.iaload, 1) := by decide +kernel
theorem dL_law_396 : decode cL_law 396 = .ok (.invokevirtual 50, 3) := by decide +kernel
theorem dL_law_399 : decode cL_law 399 = .ok (.aload_n 2, 1) := by decide +kernel
theorem dL_law_400 : decode cL_law 400 = .ok (.aload_n 0, 1) := by decide +kernel
theorem dL_law_401 : decode cL_law 401 = .ok (.iload_n 3, 1) := by decide +kernel
theorem dL_law_402 : decode cL_law 402 = .ok (.iconst 1, 1) := by decide +kernel
theorem dL_law_403 : decode cL_law 403 = .ok (.iadd, 1) := by decide +kernel
theorem dL_law_404 : decode cL_law 404 = .ok (.iaload, 1) := by decide +kernel
theorem dL_law_405 : decode cL_law 405 = .ok (.invokevirtual 53, 3) := by decide +kernel
theorem dL_law_408 : decode cL_law 408 = .ok (.if_icmp .eq 402, 3) := by decide +kernel
theorem dL_law_411 : decode cL_law 411 = .ok (.iconst 0, 1) := by decide +kernel
theorem dL_law_412 : decode cL_law 412 = .ok (.ireturn, 1) := by decide +kernel
theorem dL_law_413 : decode cL_law 413 = .ok (.aload_n 1, 1) := by decide +kernel
theorem dL_law_414 : decode cL_law 414 = .ok (.aload_n 0, 1) := by decide +kernel
theorem dL_law_415 : decode cL_law 415 = .ok (.iload_n 3, 1) := by decide +kernel
theorem dL_law_416 : decode cL_law 416 = .ok (.iconst 1, 1) := by decide +kernel
theorem dL_law_417 : decode cL_law 417 = .ok (.iadd, 1) := by decide +kernel
theorem dL_law_418 : decode cL_law 418 = .ok (.iaload, 1) := by decide +kernel
theorem dL_law_419 : decode cL_law 419 = .ok (.invokevirtual 54, 3) := by decide +kernel
theorem dL_law_422 : decode cL_law 422 = .ok (.aload_n 2, 1) := by decide +kernel
theorem dL_law_423 : decode cL_law 423 = .ok (.aload_n 0, 1) := by decide +kernel
theorem dL_law_424 : decode cL_law 424 = .ok (.iload_n 3, 1) := by decide +kernel
theorem dL_law_425 : decode cL_law 425 = .ok (.iconst 1, 1) := by decide +kernel
theorem dL_law_426 : decode cL_law 426 = .ok (.iadd, 1) := by decide +kernel
theorem dL_law_427 : decode cL_law 427 = .ok (.iaload, 1) := by decide +kernel
theorem dL_law_428 : decode cL_law 428 = .ok (.invokevirtual 57, 3) := by decide +kernel
theorem dL_law_431 : decode cL_law 431 = .ok (.if_icmp .eq 379, 3) := by decide +kernel
theorem dL_law_434 : decode cL_law 434 = .ok (.iconst 0, 1) := by decide +kernel
theorem dL_law_435 : decode cL_law 435 = .ok (.ireturn, 1) := by decide +kernel
theorem dL_law_436 : decode cL_law 436 = .ok (.aload_n 1, 1) := by decide +kernel
theorem dL_law_437 : decode cL_law 437 = .ok (.aload_n 0, 1) := by decide +kernel
theorem dL_law_438 : decode cL_law 438 = .ok (.iload_n 3, 1) := by decide +kernel
theorem dL_law_439 : decode cL_law 439 = .ok (.iconst 1, 1) := by decide +kernel
theorem dL_law_440 : decode cL_law 440 = .ok (.iadd, 1) := by decide +kernel
theorem dL_law_441 : decode cL_law 441 = .ok (.iaload, 1) := by decide +kernel
theorem dL_law_442 : decode cL_law 442 = .ok (.invokevirtual 58, 3) := by decide +kernel
theorem dL_law_445 : decode cL_law 445 = .ok (.aload_n 2, 1) := by decide +kernel
theorem dL_law_446 : decode cL_law 446 = .ok (.aload_n 0, 1) := by decide +kernel
theorem dL_law_447 : decode cL_law 447 = .ok (.iload_n 3, 1) := by decide +kernel
theorem dL_law_448 : decode cL_law 448 = .ok (.iconst 1, 1) := by decide +kernel
theorem dL_law_449 : decode cL_law 449 = .ok (.iadd, 1) := by decide +kernel
theorem dL_law_450 : decode cL_law 450 = .ok (.iaload, 1) := by decide +kernel
theorem dL_law_451 : decode cL_law 451 = .ok (.invokevirtual 61, 3) := by decide +kernel
theorem dL_law_454 : decode cL_law 454 = .ok (.if_icmp .eq 356, 3) := by decide +kernel
theorem dL_law_457 : decode cL_law 457 = .ok (.iconst 0, 1) := by decide +kernel
theorem dL_law_458 : decode cL_law 458 = .ok (.ireturn, 1) := by decide +kernel
theorem dL_law_459 : decode cL_law 459 = .ok (.aload_n 1, 1) := by decide +kernel
theorem dL_law_460 : decode cL_law 460 = .ok (.invokevirtual 62, 3) := by decide +kernel
theorem dL_law_463 : decode cL_law 463 = .ok (.aload_n 2, 1) := by decide +kernel
theorem dL_law_464 : decode cL_law 464 = .ok (.invokevirtual 65, 3) := by decide +kernel
theorem dL_law_467 : decode cL_law 467 = .ok (.if_icmp .eq 343, 3) := by decide +kernel
theorem dL_law_470 : decode cL_law 470 = .ok (.iconst 0, 1) := by decide +kernel
theorem dL_law_471 : decode cL_law 471 = .ok (.ireturn, 1) := by decide +kernel
theorem dL_law_472 : decode cL_law 472 = .ok (.aload_n 1, 1) := by decide +kernel
theorem dL_law_473 : decode cL_law 473 = .ok (.invokevirtual 66, 3) := by decide +kernel
theorem dL_law_476 : decode cL_law 476 = .ok (.aload_n 2, 1) := by decide +kernel
theorem dL_law_477 : decode cL_law 477 = .ok (.invokevirtual 69, 3) := by decide +kernel
theorem dL_law_480 : decode cL_law 480 = .ok (.if_icmp .eq 330, 3) := by decide +kernel
theorem dL_law_483 : decode cL_law 483 = .ok (.iconst 0, 1) := by decide +kernel
theorem dL_law_484 : decode cL_law 484 = .ok (.ireturn, 1) := by decide +kernel
theorem dL_law_485 : decode cL_law 485 = .ok (.aload_n 1, 1) := by decide +kernel
theorem dL_law_486 : decode cL_law 486 = .ok (.invokevirtual 70, 3) := by decide +kernel
theorem dL_law_489 : decode cL_law 489 = .ok (.aload_n 2, 1) := by decide +kernel
theorem dL_law_490 : decode cL_law 490 = .ok (.invokevirtual 73, 3) := by decide +kernel
theorem dL_law_493 : decode cL_law 493 = .ok (.if_icmp .eq 317, 3) := by decide +kernel
theorem dL_law_496 : decode cL_law 496 = .ok (.iconst 0, 1) := by decide +kernel
theorem dL_law_497 : decode cL_law 497 = .ok (.ireturn, 1) := by decide +kernel
theorem dL_law_498 : decode cL_law 498 = .ok (.aload_n 1, 1) := by decide +kernel
theorem dL_law_499 : decode cL_law 499 = .ok (.invokevirtual 74, 3) := by decide +kernel
theorem dL_law_502 : decode cL_law 502 = .ok (.aload_n 2, 1) := by decide +kernel
theorem dL_law_503 : decode cL_law 503 = .ok (.invokevirtual 77, 3) := by decide +kernel
theorem dL_law_506 : decode cL_law 506 = .ok (.if_icmp .eq 304, 3) := by decide +kernel
theorem dL_law_509 : decode cL_law 509 = .ok (.iconst 0, 1) := by decide +kernel
theorem dL_law_510 : decode cL_law 510 = .ok (.ireturn, 1) := by decide +kernel
theorem dL_law_511 : decode cL_law 511 = .ok (.aload_n 1, 1) := by decide +kernel
theorem dL_law_512 : decode cL_law 512 = .ok (.aload_n 0, 1) := by decide +kernel
theorem dL_law_513 : decode cL_law 513 = .ok (.iload_n 3, 1) := by decide +kernel
theorem dL_law_514 : decode cL_law 514 = .ok (.iconst 1, 1) := by decide +kernel
theorem dL_law_515 : decode cL_law 515 = .ok (.iadd, 1) := by decide +kernel
theorem dL_law_516 : decode cL_law 516 = .ok (.iaload, 1) := by decide +kernel
theorem dL_law_517 : decode cL_law 517 = .ok (.invokevirtual 78, 3) := by decide +kernel
theorem dL_law_520 : decode cL_law 520 = .ok (.aload_n 2, 1) := by decide +kernel
theorem dL_law_521 : decode cL_law 521 = .ok (.aload_n 0, 1) := by decide +kernel
theorem dL_law_522 : decode cL_law 522 = .ok (.iload_n 3, 1) := by decide +kernel
theorem dL_law_523 : decode cL_law 523 = .ok (.iconst 1, 1) := by decide +kernel
theorem dL_law_524 : decode cL_law 524 = .ok (.iadd, 1) := by decide +kernel
theorem dL_law_525 : decode cL_law 525 = .ok (.iaload, 1) := by decide +kernel
theorem dL_law_526 : decode cL_law 526 = .ok (.invokevirtual 81, 3) := by decide +kernel
theorem dL_law_529 : decode cL_law 529 = .ok (.if_icmp .eq 281, 3) := by decide +kernel
theorem dL_law_532 : decode cL_law 532 = .ok (.iconst 0, 1) := by decide +kernel
theorem dL_law_533 : decode cL_law 533 = .ok (.ireturn, 1) := by decide +kernel
theorem dL_law_534 : decode cL_law 534 = .ok (.aload_n 1, 1) := by decide +kernel
theorem dL_law_535 : decode cL_law 535 = .ok (.aload_n 0, 1) := by decide +kernel
theorem dL_law_536 : decode cL_law 536 = .ok (.iload_n 3, 1) := by decide +kernel
theorem dL_law_537 : decode cL_law 537 = .ok (.iconst 1, 1) := by decide +kernel
theorem dL_law_538 : decode cL_law 538 = .ok (.iadd, 1) := by decide +kernel
theorem dL_law_539 : decode cL_law 539 = .ok (.iaload, 1) := by decide +kernel
theorem dL_law_540 : decode cL_law 540 = .ok (.invokevirtual 82, 3) := by decide +kernel
theorem dL_law_543 : decode cL_law 543 = .ok (.aload_n 2, 1) := by decide +kernel
theorem dL_law_544 : decode cL_law 544 = .ok (.aload_n 0, 1) := by decide +kernel
theorem dL_law_545 : decode cL_law 545 = .ok (.iload_n 3, 1) := by decide +kernel
theorem dL_law_546 : decode cL_law 546 = .ok (.iconst 1, 1) := by decide +kernel
theorem dL_law_547 : decode cL_law 547 = .ok (.iadd, 1) := by decide +kernel
theorem dL_law_548 : decode cL_law 548 = .ok (.iaload, 1) := by decide +kernel
theorem dL_law_549 : decode cL_law 549 = .ok (.invokevirtual 85, 3) := by decide +kernel
theorem dL_law_552 : decode cL_law 552 = .ok (.if_icmp .eq 258, 3) := by decide +kernel
theorem dL_law_555 : decode cL_law 555 = .ok (.iconst 0, 1) := by decide +kernel
theorem dL_law_556 : decode cL_law 556 = .ok (.ireturn, 1) := by decide +kernel
theorem dL_law_557 : decode cL_law 557 = .ok (.aload_n 1, 1) := by decide +kernel
theorem dL_law_558 : decode cL_law 558 = .ok (.aload_n 0, 1) := by decide +kernel
theorem dL_law_559 : decode cL_law 559 = .ok (.iload_n 3, 1) := by decide +kernel
theorem dL_law_560 : decode cL_law 560 = .ok (.iconst 1, 1) := by decide +kernel
theorem dL_law_561 : decode cL_law 561 = .ok (.iadd, 1) := by decide +kernel
theorem dL_law_562 : decode cL_law 562 = .ok (.iaload, 1) := by decide +kernel
theorem dL_law_563 : decode cL_law 563 = .ok (.invokevirtual 86, 3) := by decide +kernel
theorem dL_law_566 : decode cL_law 566 = .ok (.aload_n 2, 1) := by decide +kernel
theorem dL_law_567 : decode cL_law 567 = .ok (.aload_n 0, 1) := by decide +kernel
theorem dL_law_568 : decode cL_law 568 = .ok (.iload_n 3, 1) := by decide +kernel
theorem dL_law_569 : decode cL_law 569 = .ok (.iconst 1, 1) := by decide +kernel
theorem dL_law_570 : decode cL_law 570 = .ok (.iadd, 1) := by decide +kernel
theorem dL_law_571 : decode cL_law 571 = .ok (.iaload, 1) := by decide +kernel
theorem dL_law_572 : decode cL_law 572 = .ok (.invokevirtual 89, 3) := by decide +kernel
theorem dL_law_575 : decode cL_law 575 = .ok (.if_icmp .eq 235, 3) := by decide +kernel
theorem dL_law_578 : decode cL_law 578 = .ok (.iconst 0, 1) := by decide +kernel
theorem dL_law_579 : decode cL_law 579 = .ok (.ireturn, 1) := by decide +kernel
theorem dL_law_580 : decode cL_law 580 = .ok (.aload_n 1, 1) := by decide +kernel
theorem dL_law_581 : decode cL_law 581 = .ok (.aload_n 0, 1) := by decide +kernel
theorem dL_law_582 : decode cL_law 582 = .ok (.iload_n 3, 1) := by decide +kernel
theorem dL_law_583 : decode cL_law 583 = .ok (.iconst 1, 1) := by decide +kernel
theorem dL_law_584 : decode cL_law 584 = .ok (.iadd, 1) := by decide +kernel
theorem dL_law_585 : decode cL_law 585 = .ok (.iaload, 1) := by decide +kernel
theorem dL_law_586 : decode cL_law 586 = .ok (.invokevirtual 90, 3) := by decide +kernel
theorem dL_law_589 : decode cL_law 589 = .ok (.aload_n 2, 1) := by decide +kernel
theorem dL_law_590 : decode cL_law 590 = .ok (.aload_n 0, 1) := by decide +kernel
theorem dL_law_591 : decode cL_law 591 = .ok (.iload_n 3, 1) := by decide +kernel
theorem dL_law_592 : decode cL_law 592 = .ok (.iconst 1, 1) := by decide +kernel
theorem dL_law_593 : decode cL_law 593 = .ok (.iadd, 1) := by decide +kernel
theorem dL_law_594 : decode cL_law 594 = .ok (.iaload, 1) := by decide +kernel
theorem dL_law_595 : decode cL_law 595 = .ok (.invokevirtual 93, 3) := by decide +kernel
theorem dL_law_598 : decode cL_law 598 = .ok (.if_icmp .eq 212, 3) := by decide +kernel
theorem dL_law_601 : decode cL_law 601 = .ok (.iconst 0, 1) := by decide +kernel
theorem dL_law_602 : decode cL_law 602 = .ok (.ireturn, 1) := by decide +kernel
theorem dL_law_603 : decode cL_law 603 = .ok (.aload_n 1, 1) := by decide +kernel
theorem dL_law_604 : decode cL_law 604 = .ok (.aload_n 0, 1) := by decide +kernel
theorem dL_law_605 : decode cL_law 605 = .ok (.iload_n 3, 1) := by decide +kernel
theorem dL_law_606 : decode cL_law 606 = .ok (.iconst 1, 1) := by decide +kernel
theorem dL_law_607 : decode cL_law 607 = .ok (.iadd, 1) := by decide +kernel
theorem dL_law_608 : decode cL_law 608 = .ok (.iaload, 1) := by decide +kernel
theorem dL_law_609 : decode cL_law 609 = .ok (.invokevirtual 94, 3) := by decide +kernel
theorem dL_law_612 : decode cL_law 612 = .ok (.aload_n 2, 1) := by decide +kernel
theorem dL_law_613 : decode cL_law 613 = .ok (.aload_n 0, 1) := by decide +kernel
theorem dL_law_614 : decode cL_law 614 = .ok (.iload_n 3, 1) := by decide +kernel
theorem dL_law_615 : decode cL_law 615 = .ok (.iconst 1, 1) := by decide +kernel
theorem dL_law_616 : decode cL_law 616 = .ok (.iadd, 1) := by decide +kernel
theorem dL_law_617 : decode cL_law 617 = .ok (.iaload, 1) := by decide +kernel
theorem dL_law_618 : decode cL_law 618 = .ok (.invokevirtual 97, 3) := by decide +kernel
theorem dL_law_621 : decode cL_law 621 = .ok (.if_icmp .eq 189, 3) := by decide +kernel
theorem dL_law_624 : decode cL_law 624 = .ok (.iconst 0, 1) := by decide +kernel
theorem dL_law_625 : decode cL_law 625 = .ok (.ireturn, 1) := by decide +kernel
theorem dL_law_626 : decode cL_law 626 = .ok (.aload_n 1, 1) := by decide +kernel
theorem dL_law_627 : decode cL_law 627 = .ok (.invokevirtual 98, 3) := by decide +kernel
theorem dL_law_630 : decode cL_law 630 = .ok (.aload_n 2, 1) := by decide +kernel
theorem dL_law_631 : decode cL_law 631 = .ok (.invokevirtual 101, 3) := by decide +kernel
theorem dL_law_634 : decode cL_law 634 = .ok (.if_icmp .eq 176, 3) := by decide +kernel
theorem dL_law_637 : decode cL_law 637 = .ok (.iconst 0, 1) := by decide +kernel
theorem dL_law_638 : decode cL_law 638 = .ok (.ireturn, 1) := by decide +kernel
theorem dL_law_639 : decode cL_law 639 = .ok (.aload_n 1, 1) := by decide +kernel
theorem dL_law_640 : decode cL_law 640 = .ok (.aload_n 0, 1) := by decide +kernel
theorem dL_law_641 : decode cL_law 641 = .ok (.iload_n 3, 1) := by decide +kernel
theorem dL_law_642 : decode cL_law 642 = .ok (.iconst 1, 1) := by decide +kernel
theorem dL_law_643 : decode cL_law 643 = .ok (.iadd, 1) := by decide +kernel
theorem dL_law_644 : decode cL_law 644 = .ok (.iaload, 1) := by decide +kernel
theorem dL_law_645 : decode cL_law 645 = .ok (.aload_n 0, 1) := by decide +kernel
theorem dL_law_646 : decode cL_law 646 = .ok (.iload_n 3, 1) := by decide +kernel
theorem dL_law_647 : decode cL_law 647 = .ok (.iconst 2, 1) := by decide +kernel
theorem dL_law_648 : decode cL_law 648 = .ok (.iadd, 1) := by decide +kernel
theorem dL_law_649 : decode cL_law 649 = .ok (.iaload, 1) := by decide +kernel
theorem dL_law_650 : decode cL_law 650 = .ok (.invokevirtual 102, 3) := by decide +kernel
theorem dL_law_653 : decode cL_law 653 = .ok (.aload_n 2, 1) := by decide +kernel
theorem dL_law_654 : decode cL_law 654 = .ok (.aload_n 0, 1) := by decide +kernel
theorem dL_law_655 : decode cL_law 655 = .ok (.iload_n 3, 1) := by decide +kernel
theorem dL_law_656 : decode cL_law 656 = .ok (.iconst 1, 1) := by decide +kernel
theorem dL_law_657 : decode cL_law 657 = .ok (.iadd, 1) := by decide +kernel
theorem dL_law_658 : decode cL_law 658 = .ok (.iaload, 1) := by decide +kernel
theorem dL_law_659 : decode cL_law 659 = .ok (.aload_n 0, 1) := by decide +kernel
theorem dL_law_660 : decode cL_law 660 = .ok (.iload_n 3, 1) := by decide +kernel
theorem dL_law_661 : decode cL_law 661 = .ok (.iconst 2, 1) := by decide +kernel
theorem dL_law_662 : decode cL_law 662 = .ok (.iadd, 1) := by decide +kernel
theorem dL_law_663 : decode cL_law 663 = .ok (.iaload, 1) := by decide +kernel
theorem dL_law_664 : decode cL_law 664 = .ok (.invokevirtual 105, 3) := by decide +kernel
theorem dL_law_667 : decode cL_law 667 = .ok (.if_icmp .eq 143, 3) := by decide +kernel
theorem dL_law_670 : decode cL_law 670 = .ok (.iconst 0, 1) := by decide +kernel
theorem dL_law_671 : decode cL_law 671 = .ok (.ireturn, 1) := by decide +kernel
theorem dL_law_672 : decode cL_law 672 = .ok (.aload_n 1, 1) := by decide +kernel
theorem dL_law_673 : decode cL_law 673 = .ok (.aload_n 0, 1) := by decide +kernel
theorem dL_law_674 : decode cL_law 674 = .ok (.iload_n 3, 1) := by decide +kernel
theorem dL_law_675 : decode cL_law 675 = .ok (.iconst 1, 1) := by decide +kernel
theorem dL_law_676 : decode cL_law 676 = .ok (.iadd, 1) := by decide +kernel
theorem dL_law_677 : decode cL_law 677 = .ok (.iaload, 1) := by decide +kernel
theorem dL_law_678 : decode cL_law 678 = .ok (.aload_n 0, 1) := by decide +kernel
theorem dL_law_679 : decode cL_law 679 = .ok (.iload_n 3, 1) := by decide +kernel
theorem dL_law_680 : decode cL_law 680 = .ok (.iconst 2, 1) := by decide +kernel
theorem dL_law_681 : decode cL_law 681 = .ok (.iadd, 1) := by decide +kernel
theorem dL_law_682 : decode cL_law 682 = .ok (.iaload, 1) := by decide +kernel
theorem dL_law_683 : decode cL_law 683 = .ok (.invokevirtual 106, 3) := by decide +kernel
theorem dL_law_686 : decode cL_law 686 = .ok (.aload_n 2, 1) := by decide +kernel
theorem dL_law_687 : decode cL_law 687 = .ok (.aload_n 0, 1) := by decide +kernel
theorem dL_law_688 : decode cL_law 688 = .ok (.iload_n 3, 1) := by decide +kernel
theorem dL_law_689 : decode cL_law 689 = .ok (.iconst 1, 1) := by decide +kernel
theorem dL_law_690 : decode cL_law 690 = .ok (.iadd, 1) := by decide +kernel
theorem dL_law_691 : decode cL_law 691 = .ok (.iaload, 1) := by decide +kernel
theorem dL_law_692 : decode cL_law 692 = .ok (.aload_n 0, 1) := by decide +kernel
theorem dL_law_693 : decode cL_law 693 = .ok (.iload_n 3, 1) := by decide +kernel
theorem dL_law_694 : decode cL_law 694 = .ok (.iconst 2, 1) := by decide +kernel
theorem dL_law_695 : decode cL_law 695 = .ok (.iadd, 1) := by decide +kernel
theorem dL_law_696 : decode cL_law 696 = .ok (.iaload, 1) := by decide +kernel
theorem dL_law_697 : decode cL_law 697 = .ok (.invokevirtual 109, 3) := by decide +kernel
theorem dL_law_700 : decode cL_law 700 = .ok (.if_icmp .eq 110, 3) := by decide +kernel
theorem dL_law_703 : decode cL_law 703 = .ok (.iconst 0, 1) := by decide +kernel
theorem dL_law_704 : decode cL_law 704 = .ok (.ireturn, 1) := by decide +kernel
theorem dL_law_705 : decode cL_law 705 = .ok (.aload_n 1, 1) := by decide +kernel
theorem dL_law_706 : decode cL_law 706 = .ok (.aload_n 0, 1) := by decide +kernel
theorem dL_law_707 : decode cL_law 707 = .ok (.iload_n 3, 1) := by decide +kernel
theorem dL_law_708 : decode cL_law 708 = .ok (.iconst 1, 1) := by decide +kernel
theorem dL_law_709 : decode cL_law 709 = .ok (.iadd, 1) := by decide +kernel
theorem dL_law_710 : decode cL_law 710 = .ok (.iaload, 1) := by decide +kernel
theorem dL_law_711 : decode cL_law 711 = .ok (.invokevirtual 110, 3) := by decide +kernel
theorem dL_law_714 : decode cL_law 714 = .ok (.aload_n 2, 1) := by decide +kernel
theorem dL_law_715 : decode cL_law 715 = .ok (.aload_n 0, 1) := by decide +kernel
theorem dL_law_716 : decode cL_law 716 = .ok (.iload_n 3, 1) := by decide +kernel
theorem dL_law_717 : decode cL_law 717 = .ok (.iconst 1, 1) := by decide +kernel
theorem dL_law_718 : decode cL_law 718 = .ok (.iadd, 1) := by decide +kernel
theorem dL_law_719 : decode cL_law 719 = .ok (.iaload, 1) := by decide +kernel
theorem dL_law_720 : decode cL_law 720 = .ok (.invokevirtual 113, 3) := by decide +kernel
theorem dL_law_723 : decode cL_law 723 = .ok (.if_icmp .eq 87, 3) := by decide +kernel
theorem dL_law_726 : decode cL_law 726 = .ok (.iconst 0, 1) := by decide +kernel
theorem dL_law_727 : decode cL_law 727 = .ok (.ireturn, 1) := by decide +kernel
theorem dL_law_728 : decode cL_law 728 = .ok (.aload_n 1, 1) := by decide +kernel
theorem dL_law_729 : decode cL_law 729 = .ok (.aload_n 0, 1) := by decide +kernel
theorem dL_law_730 : decode cL_law 730 = .ok (.iload_n 3, 1) := by decide +kernel
theorem dL_law_731 : decode cL_law 731 = .ok (.iconst 1, 1) := by decide +kernel
theorem dL_law_732 : decode cL_law 732 = .ok (.iadd, 1) := by decide +kernel
theorem dL_law_733 : decode cL_law 733 = .ok (.iaload, 1) := by decide +kernel
theorem dL_law_734 : decode cL_law 734 = .ok (.invokevirtual 114, 3) := by decide +kernel
theorem dL_law_737 : decode cL_law 737 = .ok (.aload_n 2, 1) := by decide +kernel
theorem dL_law_738 : decode cL_law 738 = .ok (.aload_n 0, 1) := by decide +kernel
theorem dL_law_739 : decode cL_law 739 = .ok (.iload_n 3, 1) := by decide +kernel
theorem dL_law_740 : decode cL_law 740 = .ok (.iconst 1, 1) := by decide +kernel
theorem dL_law_741 : decode cL_law 741 = .ok (.iadd, 1) := by decide +kernel
theorem dL_law_742 : decode cL_law 742 = .ok (.iaload, 1) := by decide +kernel
theorem dL_law_743 : decode cL_law 743 = .ok (.invokevirtual 117, 3) := by decide +kernel
theorem dL_law_746 : decode cL_law 746 = .ok (.if_icmp .eq 64, 3) := by decide +kernel
theorem dL_law_749 : decode cL_law 749 = .ok (.iconst 0, 1) := by decide +kernel
theorem dL_law_750 : decode cL_law 750 = .ok (.ireturn, 1) := by decide +kernel
theorem dL_law_751 : decode cL_law 751 = .ok (.aload_n 1, 1) := by decide +kernel
theorem dL_law_752 : decode cL_law 752 = .ok (.aload_n 0, 1) := by decide +kernel
theorem dL_law_753 : decode cL_law 753 = .ok (.iload_n 3, 1) := by decide +kernel
theorem dL_law_754 : decode cL_law 754 = .ok (.iconst 1, 1) := by decide +kernel
theorem dL_law_755 : decode cL_law 755 = .ok (.iadd, 1) := by decide +kernel
theorem dL_law_756 : decode cL_law 756 = .ok (.iaload, 1) := by decide +kernel
theorem dL_law_757 : decode cL_law 757 = .ok (.invokevirtual 118, 3) := by decide +kernel
theorem dL_law_760 : decode cL_law 760 = .ok (.aload_n 2, 1) := by decide +kernel
theorem dL_law_761 : decode cL_law 761 = .ok (.aload_n 0, 1) := by decide +kernel
theorem dL_law_762 : decode cL_law 762 = .ok (.iload_n 3, 1) := by decide +kernel
theorem dL_law_763 : decode cL_law 763 = .ok (.iconst 1, 1) := by decide +kernel
theorem dL_law_764 : decode cL_law 764 = .ok (.iadd, 1) := by decide +kernel
theorem dL_law_765 : decode cL_law 765 = .ok (.iaload, 1) := by decide +kernel
theorem dL_law_766 : decode cL_law 766 = .ok (.invokevirtual 121, 3) := by decide +kernel
theorem dL_law_769 : decode cL_law 769 = .ok (.if_icmp .eq 41, 3) := by decide +kernel
theorem dL_law_772 : decode cL_law 772 = .ok (.iconst 0, 1) := by decide +kernel
theorem dL_law_773 : decode cL_law 773 = .ok (.ireturn, 1) := by decide +kernel
theorem dL_law_774 : decode cL_law 774 = .ok (.aload_n 1, 1) := by decide +kernel
theorem dL_law_775 : decode cL_law 775 = .ok (.aload_n 0, 1) := by decide +kernel
theorem dL_law_776 : decode cL_law 776 = .ok (.iload_n 3, 1) := by decide +kernel
theorem dL_law_777 : decode cL_law 777 = .ok (.iconst 1, 1) := by decide +kernel
theorem dL_law_778 : decode cL_law 778 = .ok (.iadd, 1) := by decide +kernel
theorem dL_law_779 : decode cL_law 779 = .ok (.iaload, 1) := by decide +kernel
theorem dL_law_780 : decode cL_law 780 = .ok (.invokevirtual 122, 3) := by decide +kernel
theorem dL_law_783 : decode cL_law 783 = .ok (.aload_n 2, 1) := by decide +kernel
theorem dL_law_784 : decode cL_law 784 = .ok (.aload_n 0, 1) := by decide +kernel
theorem dL_law_785 : decode cL_law 785 = .ok (.iload_n 3, 1) := by decide +kernel
theorem dL_law_786 : decode cL_law 786 = .ok (.iconst 1, 1) := by decide +kernel
theorem dL_law_787 : decode cL_law 787 = .ok (.iadd, 1) := by decide +kernel
theorem dL_law_788 : decode cL_law 788 = .ok (.iaload, 1) := by decide +kernel
theorem dL_law_789 : decode cL_law 789 = .ok (.invokevirtual 125, 3) := by decide +kernel
theorem dL_law_792 : decode cL_law 792 = .ok (.if_icmp .eq 18, 3) := by decide +kernel
theorem dL_law_795 : decode cL_law 795 = .ok (.iconst 0, 1) := by decide +kernel
theorem dL_law_796 : decode cL_law 796 = .ok (.ireturn, 1) := by decide +kernel
theorem dL_law_797 : decode cL_law 797 = .ok (.aload_n 1, 1) := by decide +kernel
theorem dL_law_798 : decode cL_law 798 = .ok (.invokevirtual 126, 3) := by decide +kernel
theorem dL_law_801 : decode cL_law 801 = .ok (.aload_n 2, 1) := by decide +kernel
theorem dL_law_802 : decode cL_law 802 = .ok (.invokevirtual 129, 3) := by decide +kernel
theorem dL_law_805 : decode cL_law 805 = .ok (.if_icmp .eq 5, 3) := by decide +kernel
theorem dL_law_808 : decode cL_law 808 = .ok (.iconst 0, 1) := by decide +kernel
theorem dL_law_809 : decode cL_law 809 = .ok (.ireturn, 1) := by decide +kernel
theorem dL_law_810 : decode cL_law 810 = .ok (.iinc 3 5, 3) := by decide +kernel
theorem dL_law_813 : decode cL_law 813 = .ok (.goto (-795), 3) := by decide +kernel
theorem dL_law_816 : decode cL_law 816 = .ok (.iconst 1, 1) := by decide +kernel
theorem dL_law_817 : decode cL_law 817 = .ok (.ireturn, 1) := by decide +kernel
theorem dX0_init_0 : decode cX0_init 0 = .ok (.aload_n 0, 1) := by decide +kernel
theorem dX0_init_1 : decode cX0_init 1 = .ok (.invokespecial 3, 3) := by decide +kernel
theorem dX0_init_4 : decode cX0_init 4 = .ok (.aload_n 0, 1) := by decide +kernel
theorem dX0_init_5 : decode cX0_init 5 = .ok (.bipush 80, 2) := by decide +kernel
theorem dX0_init_7 : decode cX0_init 7 = .ok (.newarray .byte, 2) := by decide +kernel
theorem dX0_init_9 : decode cX0_init 9 = .ok (.putfield 9, 3) := by decide +kernel
theorem dX0_init_12 : decode cX0_init 12 = .ok (.return_, 1) := by decide +kernel
theorem dX0_byteAt_0 : decode cX0_byteAt 0 = .ok (.iload_n 1, 1) := by decide +kernel
theorem dX0_byteAt_1 : decode cX0_byteAt 1 = .ok (.ifCond .lt 20, 3) := by decide +kernel
theorem dX0_byteAt_4 : decode cX0_byteAt 4 = .ok (.iload_n 1, 1) := by decide +kernel
theorem dX0_byteAt_5 : decode cX0_byteAt 5 = .ok (.aload_n 0, 1) := by decide +kernel
theorem dX0_byteAt_6 : decode cX0_byteAt 6 = .ok (.getfield 15, 3) := by decide +kernel
theorem dX0_byteAt_9 : decode cX0_byteAt 9 = .ok (.if_icmp .ge 12, 3) := by decide +kernel
theorem dX0_byteAt_12 : decode cX0_byteAt 12 = .ok (.aload_n 0, 1) := by decide +kernel
theorem dX0_byteAt_13 : decode cX0_byteAt 13 = .ok (.getfield 9, 3) := by decide +kernel
theorem dX0_byteAt_16 : decode cX0_byteAt 16 = .ok (.iload_n 1, 1) := by decide +kernel
theorem dX0_byteAt_17 : decode cX0_byteAt 17 = .ok (.baload, 1) := by decide +kernel
theorem dX0_byteAt_18 : decode cX0_byteAt 18 = .ok (.goto 5, 3) := by decide +kernel
theorem dX0_byteAt_21 : decode cX0_byteAt 21 = .ok (.bipush (-5), 2) := by decide +kernel
theorem dX0_byteAt_23 : decode cX0_byteAt 23 = .ok (.ireturn, 1) := by decide +kernel
theorem dX0_fault_0 : decode cX0_fault 0 = .ok (.iconst 0, 1) := by decide +kernel
theorem dX0_fault_1 : decode cX0_fault 1 = .ok (.istore_n 1, 1) := by decide +kernel
theorem dX0_fault_2 : decode cX0_fault 2 = .ok (.iload_n 1, 1) := by decide +kernel
theorem dX0_fault_3 : decode cX0_fault 3 = .ok (.aload_n 0, 1) := by decide +kernel
theorem dX0_fault_4 : decode cX0_fault 4 = .ok (.getfield 15, 3) := by decide +kernel
theorem dX0_fault_7 : decode cX0_fault 7 = .ok (.if_icmp .ge 91, 3) := by decide +kernel
theorem dX0_fault_10 : decode cX0_fault 10 = .ok (.aload_n 0, 1) := by decide +kernel
theorem dX0_fault_11 : decode cX0_fault 11 = .ok (.iload_n 1, 1) := by decide +kernel
theorem dX0_fault_12 : decode cX0_fault 12 = .ok (.invokevirtual 19, 3) := by decide +kernel
theorem dX0_fault_15 : decode cX0_fault 15 = .ok (.istore_n 2, 1) := by decide +kernel
theorem dX0_fault_16 : decode cX0_fault 16 = .ok (.iload_n 2, 1) := by decide +kernel
theorem dX0_fault_17 : decode cX0_fault 17 = .ok (.invokestatic 23, 3) := by decide +kernel
theorem dX0_fault_20 : decode cX0_fault 20 = .ok (.ifCond .ne 5, 3) := by decide +kernel
theorem dX0_fault_23 : decode cX0_fault 23 = .ok (.iload_n 1, 1) := by decide +kernel
theorem dX0_fault_24 : decode cX0_fault 24 = .ok (.ireturn, 1) := by decide +kernel
theorem dX0_fault_25 : decode cX0_fault 25 = .ok (.iconst 0, 1) := by decide +kernel
theorem dX0_fault_26 : decode cX0_fault 26 = .ok (.istore_n 3, 1) := by decide +kernel
theorem dX0_fault_27 : decode cX0_fault 27 = .ok (.iload_n 2, 1) := by decide +kernel
theorem dX0_fault_28 : decode cX0_fault 28 = .ok (.bipush 111, 2) := by decide +kernel
theorem dX0_fault_30 : decode cX0_fault 30 = .ok (.if_icmp .eq 9, 3) := by decide +kernel
theorem dX0_fault_33 : decode cX0_fault 33 = .ok (.iload_n 2, 1) := by decide +kernel
theorem dX0_fault_34 : decode cX0_fault 34 = .ok (.bipush 116, 2) := by decide +kernel
theorem dX0_fault_36 : decode cX0_fault 36 = .ok (.if_icmp .ne 33, 3) := by decide +kernel
theorem dX0_fault_39 : decode cX0_fault 39 = .ok (.aload_n 0, 1) := by decide +kernel
theorem dX0_fault_40 : decode cX0_fault 40 = .ok (.iload_n 1, 1) := by decide +kernel
theorem dX0_fault_41 : decode cX0_fault 41 = .ok (.iconst 1, 1) := by decide +kernel
theorem dX0_fault_42 : decode cX0_fault 42 = .ok (.iadd, 1) := by decide +kernel
theorem dX0_fault_43 : decode cX0_fault 43 = .ok (.invokevirtual 27, 3) := by decide +kernel
theorem dX0_fault_46 : decode cX0_fault 46 = .ok (.istore_n 3, 1) := by decide +kernel
theorem dX0_fault_47 : decode cX0_fault 47 = .ok (.iload_n 3, 1) := by decide +kernel
theorem dX0_fault_48 : decode cX0_fault 48 = .ok (.ifCond .eq 17, 3) := by decide +kernel
theorem dX0_fault_51 : decode cX0_fault 51 = .ok (.iload_n 2, 1) := by decide +kernel
theorem dX0_fault_52 : decode cX0_fault 52 = .ok (.aload_n 0, 1) := by decide +kernel
theorem dX0_fault_53 : decode cX0_fault 53 = .ok (.iload_n 1, 1) := by decide +kernel
theorem dX0_fault_54 : decode cX0_fault 54 = .ok (.iconst 1, 1) := by decide +kernel
theorem dX0_fault_55 : decode cX0_fault 55 = .ok (.iadd, 1) := by decide +kernel
theorem dX0_fault_56 : decode cX0_fault 56 = .ok (.invokevirtual 30, 3) := by decide +kernel
theorem dX0_fault_59 : decode cX0_fault 59 = .ok (.invokestatic 33, 3) := by decide +kernel
theorem dX0_fault_62 : decode cX0_fault 62 = .ok (.ifCond .ne 7, 3) := by decide +kernel
theorem dX0_fault_65 : decode cX0_fault 65 = .ok (.iload_n 1, 1) := by decide +kernel
theorem dX0_fault_66 : decode cX0_fault 66 = .ok (.iconst 1, 1) := by decide +kernel
theorem dX0_fault_67 : decode cX0_fault 67 = .ok (.iadd, 1) := by decide +kernel
theorem dX0_fault_68 : decode cX0_fault 68 = .ok (.ireturn, 1) := by decide +kernel
theorem dX0_fault_69 : decode cX0_fault 69 = .ok (.iload_n 1, 1) := by decide +kernel
theorem dX0_fault_70 : decode cX0_fault 70 = .ok (.iconst 1, 1) := by decide +kernel
theorem dX0_fault_71 : decode cX0_fault 71 = .ok (.iadd, 1) := by decide +kernel
theorem dX0_fault_72 : decode cX0_fault 72 = .ok (.iload_n 3, 1) := by decide +kernel
theorem dX0_fault_73 : decode cX0_fault 73 = .ok (.iadd, 1) := by decide +kernel
theorem dX0_fault_74 : decode cX0_fault 74 = .ok (.istore 4, 2) := by decide +kernel
theorem dX0_fault_76 : decode cX0_fault 76 = .ok (.aload_n 0, 1) := by decide +kernel
theorem dX0_fault_77 : decode cX0_fault 77 = .ok (.iload 4, 2) := by decide +kernel
theorem dX0_fault_79 : decode cX0_fault 79 = .ok (.invokevirtual 19, 3) := by decide +kernel
theorem dX0_fault_82 : decode cX0_fault 82 = .ok (.bipush 59, 2) := by decide +kernel
theorem dX0_fault_84 : decode cX0_fault 84 = .ok (.if_icmp .eq 6, 3) := by decide +kernel
theorem dX0_fault_87 : decode cX0_fault 87 = .ok (.iload 4, 2) := by decide +kernel
theorem dX0_fault_89 : decode cX0_fault 89 = .ok (.ireturn, 1) := by decide +kernel
theorem dX0_fault_90 : decode cX0_fault 90 = .ok (.iload 4, 2) := by decide +kernel
theorem dX0_fault_92 : decode cX0_fault 92 = .ok (.iconst 1, 1) := by decide +kernel
theorem dX0_fault_93 : decode cX0_fault 93 = .ok (.iadd, 1) := by decide +kernel
theorem dX0_fault_94 : decode cX0_fault 94 = .ok (.istore_n 1, 1) := by decide +kernel
theorem dX0_fault_95 : decode cX0_fault 95 = .ok (.goto (-93), 3) := by decide +kernel
theorem dX0_fault_98 : decode cX0_fault 98 = .ok (.bipush (-5), 2) := by decide +kernel
theorem dX0_fault_100 : decode cX0_fault 100 = .ok (.ireturn, 1) := by decide +kernel
theorem dX0_behindAct_0 : decode cX0_behindAct 0 = .ok (.iload_n 1, 1) := by decide +kernel
theorem dX0_behindAct_1 : decode cX0_behindAct 1 = .ok (.iconst 1, 1) := by decide +kernel
theorem dX0_behindAct_2 : decode cX0_behindAct 2 = .ok (.iadd, 1) := by decide +kernel
theorem dX0_behindAct_3 : decode cX0_behindAct 3 = .ok (.aload_n 0, 1) := by decide +kernel
theorem dX0_behindAct_4 : decode cX0_behindAct 4 = .ok (.iload_n 1, 1) := by decide +kernel
theorem dX0_behindAct_5 : decode cX0_behindAct 5 = .ok (.iconst 1, 1) := by decide +kernel
theorem dX0_behindAct_6 : decode cX0_behindAct 6 = .ok (.iadd, 1) := by decide +kernel
theorem dX0_behindAct_7 : decode cX0_behindAct 7 = .ok (.invokevirtual 27, 3) := by decide +kernel
theorem dX0_behindAct_10 : decode cX0_behindAct 10 = .ok (.iadd, 1) := by decide +kernel
theorem dX0_behindAct_11 : decode cX0_behindAct 11 = .ok (.iconst 1, 1) := by decide +kernel
theorem dX0_behindAct_12 : decode cX0_behindAct 12 = .ok (.iadd, 1) := by decide +kernel
theorem dX0_behindAct_13 : decode cX0_behindAct 13 = .ok (.ireturn, 1) := by decide +kernel
theorem dX0_numberAt_0 : decode cX0_numberAt 0 = .ok (.aload_n 0, 1) := by decide +kernel
theorem dX0_numberAt_1 : decode cX0_numberAt 1 = .ok (.iload_n 1, 1) := by decide +kernel
theorem dX0_numberAt_2 : decode cX0_numberAt 2 = .ok (.invokevirtual 27, 3) := by decide +kernel
theorem dX0_numberAt_5 : decode cX0_numberAt 5 = .ok (.istore_n 2, 1) := by decide +kernel
theorem dX0_numberAt_6 : decode cX0_numberAt 6 = .ok (.iconst 0, 1) := by decide +kernel
theorem dX0_numberAt_7 : decode cX0_numberAt 7 = .ok (.istore_n 3, 1) := by decide +kernel
theorem dX0_numberAt_8 : decode cX0_numberAt 8 = .ok (.iconst 0, 1) := by decide +kernel
theorem dX0_numberAt_9 : decode cX0_numberAt 9 = .ok (.istore 4, 2) := by decide +kernel
theorem dX0_numberAt_11 : decode cX0_numberAt 11 = .ok (.iload 4, 2) := by decide +kernel
theorem dX0_numberAt_13 : decode cX0_numberAt 13 = .ok (.iload_n 2, 1) := by decide +kernel
theorem dX0_numberAt_14 : decode cX0_numberAt 14 = .ok (.if_icmp .ge 26, 3) := by decide +kernel
theorem dX0_numberAt_17 : decode cX0_numberAt 17 = .ok (.iload_n 3, 1) := by decide +kernel
theorem dX0_numberAt_18 : decode cX0_numberAt 18 = .ok (.bipush 10, 2) := by decide +kernel
theorem dX0_numberAt_20 : decode cX0_numberAt 20 = .ok (.imul, 1) := by decide +kernel
theorem dX0_numberAt_21 : decode cX0_numberAt 21 = .ok (.aload_n 0, 1) := by decide +kernel
theorem dX0_numberAt_22 : decode cX0_numberAt 22 = .ok (.iload_n 1, 1) := by decide +kernel
theorem dX0_numberAt_23 : decode cX0_numberAt 23 = .ok (.iload 4, 2) := by decide +kernel
theorem dX0_numberAt_25 : decode cX0_numberAt 25 = .ok (.iadd, 1) := by decide +kernel
theorem dX0_numberAt_26 : decode cX0_numberAt 26 = .ok (.invokevirtual 19, 3) := by decide +kernel
theorem dX0_numberAt_29 : decode cX0_numberAt 29 = .ok (.iadd, 1) := by decide +kernel
theorem dX0_numberAt_30 : decode cX0_numberAt 30 = .ok (.bipush 48, 2) := by decide +kernel
theorem dX0_numberAt_32 : decode cX0_numberAt 32 = .ok (.isub, 1) := by decide +kernel
theorem dX0_numberAt_33 : decode cX0_numberAt 33 = .ok (.istore_n 3, 1) := by decide +kernel
theorem dX0_numberAt_34 : decode cX0_numberAt 34 = .ok (.iinc 4 1, 3) := by decide +kernel
theorem dX0_numberAt_37 : decode cX0_numberAt 37 = .ok (.goto (-26), 3) := by decide +kernel
theorem dX0_numberAt_40 : decode cX0_numberAt 40 = .ok (.iload_n 3, 1) := by decide +kernel
theorem dX0_numberAt_41 : decode cX0_numberAt 41 = .ok (.ireturn, 1) := by decide +kernel
theorem dX0_digitsAt_0 : decode cX0_digitsAt 0 = .ok (.aload_n 0, 1) := by decide +kernel
theorem dX0_digitsAt_1 : decode cX0_digitsAt 1 = .ok (.iload_n 1, 1) := by decide +kernel
theorem dX0_digitsAt_2 : decode cX0_digitsAt 2 = .ok (.invokevirtual 19, 3) := by decide +kernel
theorem dX0_digitsAt_5 : decode cX0_digitsAt 5 = .ok (.bipush 48, 2) := by decide +kernel
theorem dX0_digitsAt_7 : decode cX0_digitsAt 7 = .ok (.if_icmp .ne 5, 3) := by decide +kernel
theorem dX0_digitsAt_10 : decode cX0_digitsAt 10 = .ok (.iconst 1, 1) := by decide +kernel
theorem dX0_digitsAt_11 : decode cX0_digitsAt 11 = .ok (.ireturn, 1) := by decide +kernel
theorem dX0_digitsAt_12 : decode cX0_digitsAt 12 = .ok (.iconst 0, 1) := by decide +kernel
theorem dX0_digitsAt_13 : decode cX0_digitsAt 13 = .ok (.istore_n 2, 1) := by decide +kernel
theorem dX0_digitsAt_14 : decode cX0_digitsAt 14 = .ok (.iload_n 2, 1) := by decide +kernel
theorem dX0_digitsAt_15 : decode cX0_digitsAt 15 = .ok (.iconst 3, 1) := by decide +kernel
theorem dX0_digitsAt_16 : decode cX0_digitsAt 16 = .ok (.if_icmp .ge 22, 3) := by decide +kernel
theorem dX0_digitsAt_19 : decode cX0_digitsAt 19 = .ok (.aload_n 0, 1) := by decide +kernel
theorem dX0_digitsAt_20 : decode cX0_digitsAt 20 = .ok (.iload_n 1, 1) := by decide +kernel
theorem dX0_digitsAt_21 : decode cX0_digitsAt 21 = .ok (.iload_n 2, 1) := by decide +kernel
theorem dX0_digitsAt_22 : decode cX0_digitsAt 22 = .ok (.iadd, 1) := by decide +kernel
theorem dX0_digitsAt_23 : decode cX0_digitsAt 23 = .ok (.invokevirtual 19, 3) := by decide +kernel
theorem dX0_digitsAt_26 : decode cX0_digitsAt 26 = .ok (.invokestatic 37, 3) := by decide +kernel
theorem dX0_digitsAt_29 : decode cX0_digitsAt 29 = .ok (.ifCond .eq 9, 3) := by decide +kernel
theorem dX0_digitsAt_32 : decode cX0_digitsAt 32 = .ok (.iinc 2 1, 3) := by decide +kernel
theorem dX0_digitsAt_35 : decode cX0_digitsAt 35 = .ok (.goto (-21), 3) := by decide +kernel
theorem dX0_digitsAt_38 : decode cX0_digitsAt 38 = .ok (.iload_n 2, 1) := by decide +kernel
theorem dX0_digitsAt_39 : decode cX0_digitsAt 39 = .ok (.ireturn, 1) := by decide +kernel
theorem dX0_isDigit_0 : decode cX0_isDigit 0 = .ok (.iload_n 0, 1) := by decide +kernel
theorem dX0_isDigit_1 : decode cX0_isDigit 1 = .ok (.bipush 48, 2) := by decide +kernel
theorem dX0_isDigit_3 : decode cX0_isDigit 3 = .ok (.if_icmp .lt 13, 3) := by decide +kernel
theorem dX0_isDigit_6 : decode cX0_isDigit 6 = .ok (.iload_n 0, 1) := by decide +kernel
theorem dX0_isDigit_7 : decode cX0_isDigit 7 = .ok (.bipush 57, 2) := by decide +kernel
theorem dX0_isDigit_9 : decode cX0_isDigit 9 = .ok (.if_icmp .gt 7, 3) := by decide +kernel
theorem dX0_isDigit_12 : decode cX0_isDigit 12 = .ok (.iconst 1, 1) := by decide +kernel
theorem dX0_isDigit_13 : decode cX0_isDigit 13 = .ok (.goto 4, 3) := by decide +kernel
theorem dX0_isDigit_16 : decode cX0_isDigit 16 = .ok (.iconst 0, 1) := by decide +kernel
theorem dX0_isDigit_17 : decode cX0_isDigit 17 = .ok (.ireturn, 1) := by decide +kernel
theorem dX0_isAct_0 : decode cX0_isAct 0 = .ok (.iload_n 0, 1) := by decide +kernel
theorem dX0_isAct_1 : decode cX0_isAct 1 = .ok (.bipush 103, 2) := by decide +kernel
theorem dX0_isAct_3 : decode cX0_isAct 3 = .ok (.if_icmp .eq 27, 3) := by decide +kernel
theorem dX0_isAct_6 : decode cX0_isAct 6 = .ok (.iload_n 0, 1) := by decide +kernel
theorem dX0_isAct_7 : decode cX0_isAct 7 = .ok (.bipush 102, 2) := by decide +kernel
theorem dX0_isAct_9 : decode cX0_isAct 9 = .ok (.if_icmp .eq 21, 3) := by decide +kernel
theorem dX0_isAct_12 : decode cX0_isAct 12 = .ok (.iload_n 0, 1) := by decide +kernel
theorem dX0_isAct_13 : decode cX0_isAct 13 = .ok (.bipush 98, 2) := by decide +kernel
theorem dX0_isAct_15 : decode cX0_isAct 15 = .ok (.if_icmp .eq 15, 3) := by decide +kernel
theorem dX0_isAct_18 : decode cX0_isAct 18 = .ok (.iload_n 0, 1) := by decide +kernel
theorem dX0_isAct_19 : decode cX0_isAct 19 = .ok (.bipush 111, 2) := by decide +kernel
theorem dX0_isAct_21 : decode cX0_isAct 21 = .ok (.if_icmp .eq 9, 3) := by decide +kernel
theorem dX0_isAct_24 : decode cX0_isAct 24 = .ok (.iload_n 0, 1) := by decide +kernel
theorem dX0_isAct_25 : decode cX0_isAct 25 = .ok (.bipush 116, 2) := by decide +kernel
theorem dX0_isAct_27 : decode cX0_isAct 27 = .ok (.if_icmp .ne 7, 3) := by decide +kernel
theorem dX0_isAct_30 : decode cX0_isAct 30 = .ok (.iconst 1, 1) := by decide +kernel
theorem dX0_isAct_31 : decode cX0_isAct 31 = .ok (.goto 4, 3) := by decide +kernel
theorem dX0_isAct_34 : decode cX0_isAct 34 = .ok (.iconst 0, 1) := by decide +kernel
theorem dX0_isAct_35 : decode cX0_isAct 35 = .ok (.ireturn, 1) := by decide +kernel
theorem dX0_isInRange_0 : decode cX0_isInRange 0 = .ok (.iload_n 0, 1) := by decide +kernel
theorem dX0_isInRange_1 : decode cX0_isInRange 1 = .ok (.bipush 111, 2) := by decide +kernel
theorem dX0_isInRange_3 : decode cX0_isInRange 3 = .ok (.if_icmp .ne 16, 3) := by decide +kernel
theorem dX0_isInRange_6 : decode cX0_isInRange 6 = .ok (.iload_n 1, 1) := by decide +kernel
theorem dX0_isInRange_7 : decode cX0_isInRange 7 = .ok (.iconst 4, 1) := by decide +kernel
theorem dX0_isInRange_8 : decode cX0_isInRange 8 = .ok (.if_icmp .ge 7, 3) := by decide +kernel
theorem dX0_isInRange_11 : decode cX0_isInRange 11 = .ok (.iconst 1, 1) := by decide +kernel
theorem dX0_isInRange_12 : decode cX0_isInRange 12 = .ok (.goto 24, 3) := by decide +kernel
theorem dX0_isInRange_15 : decode cX0_isInRange 15 = .ok (.iconst 0, 1) := by decide +kernel
theorem dX0_isInRange_16 : decode cX0_isInRange 16 = .ok (.goto 20, 3) := by decide +kernel
theorem dX0_isInRange_19 : decode cX0_isInRange 19 = .ok (.iload_n 1, 1) := by decide +kernel
theorem dX0_isInRange_20 : decode cX0_isInRange 20 = .ok (.iconst 1, 1) := by decide +kernel
theorem dX0_isInRange_21 : decode cX0_isInRange 21 = .ok (.if_icmp .lt 14, 3) := by decide +kernel
theorem dX0_isInRange_24 : decode cX0_isInRange 24 = .ok (.iload_n 1, 1) := by decide +kernel
theorem dX0_isInRange_25 : decode cX0_isInRange 25 = .ok (.sipush 200, 3) := by decide +kernel
theorem dX0_isInRange_28 : decode cX0_isInRange 28 = .ok (.if_icmp .gt 7, 3) := by decide +kernel
theorem dX0_isInRange_31 : decode cX0_isInRange 31 = .ok (.iconst 1, 1) := by decide +kernel
theorem dX0_isInRange_32 : decode cX0_isInRange 32 = .ok (.goto 4, 3) := by decide +kernel
theorem dX0_isInRange_35 : decode cX0_isInRange 35 = .ok (.iconst 0, 1) := by decide +kernel
theorem dX0_isInRange_36 : decode cX0_isInRange 36 = .ok (.ireturn, 1) := by decide +kernel
theorem dX1_init_0 : decode cX1_init 0 = .ok (.aload_n 0, 1) := by decide +kernel
theorem dX1_init_1 : decode cX1_init 1 = .ok (.invokespecial 3, 3) := by decide +kernel
theorem dX1_init_4 : decode cX1_init 4 = .ok (.aload_n 0, 1) := by decide +kernel
theorem dX1_init_5 : decode cX1_init 5 = .ok (.iconst 5, 1) := by decide +kernel
theorem dX1_init_6 : decode cX1_init 6 = .ok (.anewarray 9, 3) := by decide +kernel
theorem dX1_init_9 : decode cX1_init 9 = .ok (.putfield 11, 3) := by decide +kernel
end
section
theorem dX1_init_12 : decode cX1_init 12 = .ok (.iconst 0, 1) := by decide +kernel
theorem dX1_init_13 : decode cX1_init 13 = .ok (.istore_n 1, 1) := by decide +kernel
theorem dX1_init_14 : decode cX1_init 14 = .ok (.iload_n 1, 1) := by decide +kernel
theorem dX1_init_15 : decode cX1_init 15 = .ok (.iconst 5, 1) := by decide +kernel
theorem dX1_init_16 : decode cX1_init 16 = .ok (.if_icmp .ge 22, 3) := by decide +kernel
theorem dX1_init_19 : decode cX1_init 19 = .ok (.aload_n 0, 1) := by decide +kernel
theorem dX1_init_20 : decode cX1_init 20 = .ok (.getfield 11, 3) := by decide +kernel
theorem dX1_init_23 : decode cX1_init 23 = .ok (.iload_n 1, 1) := by decide +kernel
theorem dX1_init_24 : decode cX1_init 24 = .ok (.new 9, 3) := by decide +kernel
theorem dX1_init_27 : decode cX1_init 27 = .ok (.dup, 1) := by decide +kernel
theorem dX1_init_28 : decode cX1_init 28 = .ok (.invokespecial 17, 3) := by decide +kernel
theorem dX1_init_31 : decode cX1_init 31 = .ok (.aastore, 1) := by decide +kernel
theorem dX1_init_32 : decode cX1_init 32 = .ok (.iinc 1 1, 3) := by decide +kernel
theorem dX1_init_35 : decode cX1_init 35 = .ok (.goto (-21), 3) := by decide +kernel
theorem dX1_init_38 : decode cX1_init 38 = .ok (.return_, 1) := by decide +kernel
theorem dX1_keep_0 : decode cX1_keep 0 = .ok (.aload_n 0, 1) := by decide +kernel
theorem dX1_keep_1 : decode cX1_keep 1 = .ok (.getfield 18, 3) := by decide +kernel
theorem dX1_keep_4 : decode cX1_keep 4 = .ok (.iconst 5, 1) := by decide +kernel
theorem dX1_keep_5 : decode cX1_keep 5 = .ok (.if_icmp .lt 7, 3) := by decide +kernel
theorem dX1_keep_8 : decode cX1_keep 8 = .ok (.aload_n 0, 1) := by decide +kernel
theorem dX1_keep_9 : decode cX1_keep 9 = .ok (.invokevirtual 22, 3) := by decide +kernel
theorem dX1_keep_12 : decode cX1_keep 12 = .ok (.aload_n 0, 1) := by decide +kernel
theorem dX1_keep_13 : decode cX1_keep 13 = .ok (.getfield 11, 3) := by decide +kernel
theorem dX1_keep_16 : decode cX1_keep 16 = .ok (.aload_n 0, 1) := by decide +kernel
theorem dX1_keep_17 : decode cX1_keep 17 = .ok (.getfield 18, 3) := by decide +kernel
theorem dX1_keep_20 : decode cX1_keep 20 = .ok (.aaload, 1) := by decide +kernel
theorem dX1_keep_21 : decode cX1_keep 21 = .ok (.aload_n 1, 1) := by decide +kernel
theorem dX1_keep_22 : decode cX1_keep 22 = .ok (.invokevirtual 25, 3) := by decide +kernel
theorem dX1_keep_25 : decode cX1_keep 25 = .ok (.aload_n 0, 1) := by decide +kernel
theorem dX1_keep_26 : decode cX1_keep 26 = .ok (.dup, 1) := by decide +kernel
theorem dX1_keep_27 : decode cX1_keep 27 = .ok (.getfield 18, 3) := by decide +kernel
theorem dX1_keep_30 : decode cX1_keep 30 = .ok (.iconst 1, 1) := by decide +kernel
theorem dX1_keep_31 : decode cX1_keep 31 = .ok (.iadd, 1) := by decide +kernel
theorem dX1_keep_32 : decode cX1_keep 32 = .ok (.putfield 18, 3) := by decide +kernel
theorem dX1_keep_35 : decode cX1_keep 35 = .ok (.return_, 1) := by decide +kernel
theorem dX1_dropOldest_0 : decode cX1_dropOldest 0 = .ok (.aload_n 0, 1) := by decide +kernel
theorem dX1_dropOldest_1 : decode cX1_dropOldest 1 = .ok (.getfield 11, 3) := by decide +kernel
theorem dX1_dropOldest_4 : decode cX1_dropOldest 4 = .ok (.iconst 0, 1) := by decide +kernel
theorem dX1_dropOldest_5 : decode cX1_dropOldest 5 = .ok (.aaload, 1) := by decide +kernel
theorem dX1_dropOldest_6 : decode cX1_dropOldest 6 = .ok (.astore_n 1, 1) := by decide +kernel
theorem dX1_dropOldest_7 : decode cX1_dropOldest 7 = .ok (.iconst 1, 1) := by decide +kernel
theorem dX1_dropOldest_8 : decode cX1_dropOldest 8 = .ok (.istore_n 2, 1) := by decide +kernel
theorem dX1_dropOldest_9 : decode cX1_dropOldest 9 = .ok (.iload_n 2, 1) := by decide +kernel
theorem dX1_dropOldest_10 : decode cX1_dropOldest 10 = .ok (.iconst 5, 1) := by decide +kernel
theorem dX1_dropOldest_11 : decode cX1_dropOldest 11 = .ok (.if_icmp .ge 23, 3) := by decide +kernel
theorem dX1_dropOldest_14 : decode cX1_dropOldest 14 = .ok (.aload_n 0, 1) := by decide +kernel
theorem dX1_dropOldest_15 : decode cX1_dropOldest 15 = .ok (.getfield 11, 3) := by decide +kernel
theorem dX1_dropOldest_18 : decode cX1_dropOldest 18 = .ok (.iload_n 2, 1) := by decide +kernel
theorem dX1_dropOldest_19 : decode cX1_dropOldest 19 = .ok (.iconst 1, 1) := by decide +kernel
theorem dX1_dropOldest_20 : decode cX1_dropOldest 20 = .ok (.isub, 1) := by decide +kernel
theorem dX1_dropOldest_21 : decode cX1_dropOldest 21 = .ok (.aload_n 0, 1) := by decide +kernel
theorem dX1_dropOldest_22 : decode cX1_dropOldest 22 = .ok (.getfield 11, 3) := by decide +kernel
theorem dX1_dropOldest_25 : decode cX1_dropOldest 25 = .ok (.iload_n 2, 1) := by decide +kernel
theorem dX1_dropOldest_26 : decode cX1_dropOldest 26 = .ok (.aaload, 1) := by decide +kernel
theorem dX1_dropOldest_27 : decode cX1_dropOldest 27 = .ok (.aastore, 1) := by decide +kernel
theorem dX1_dropOldest_28 : decode cX1_dropOldest 28 = .ok (.iinc 2 1, 3) := by decide +kernel
theorem dX1_dropOldest_31 : decode cX1_dropOldest 31 = .ok (.goto (-22), 3) := by decide +kernel
theorem dX1_dropOldest_34 : decode cX1_dropOldest 34 = .ok (.aload_n 0, 1) := by decide +kernel
theorem dX1_dropOldest_35 : decode cX1_dropOldest 35 = .ok (.getfield 11, 3) := by decide +kernel
theorem dX1_dropOldest_38 : decode cX1_dropOldest 38 = .ok (.iconst 4, 1) := by decide +kernel
theorem dX1_dropOldest_39 : decode cX1_dropOldest 39 = .ok (.aload_n 1, 1) := by decide +kernel
theorem dX1_dropOldest_40 : decode cX1_dropOldest 40 = .ok (.aastore, 1) := by decide +kernel
theorem dX1_dropOldest_41 : decode cX1_dropOldest 41 = .ok (.aload_n 0, 1) := by decide +kernel
theorem dX1_dropOldest_42 : decode cX1_dropOldest 42 = .ok (.iconst 4, 1) := by decide +kernel
theorem dX1_dropOldest_43 : decode cX1_dropOldest 43 = .ok (.putfield 18, 3) := by decide +kernel
theorem dX1_dropOldest_46 : decode cX1_dropOldest 46 = .ok (.return_, 1) := by decide +kernel
theorem dX1_takeLatest_0 : decode cX1_takeLatest 0 = .ok (.aload_n 0, 1) := by decide +kernel
theorem dX1_takeLatest_1 : decode cX1_takeLatest 1 = .ok (.dup, 1) := by decide +kernel
theorem dX1_takeLatest_2 : decode cX1_takeLatest 2 = .ok (.getfield 18, 3) := by decide +kernel
theorem dX1_takeLatest_5 : decode cX1_takeLatest 5 = .ok (.iconst 1, 1) := by decide +kernel
theorem dX1_takeLatest_6 : decode cX1_takeLatest 6 = .ok (.isub, 1) := by decide +kernel
theorem dX1_takeLatest_7 : decode cX1_takeLatest 7 = .ok (.putfield 18, 3) := by decide +kernel
theorem dX1_takeLatest_10 : decode cX1_takeLatest 10 = .ok (.aload_n 1, 1) := by decide +kernel
theorem dX1_takeLatest_11 : decode cX1_takeLatest 11 = .ok (.aload_n 0, 1) := by decide +kernel
theorem dX1_takeLatest_12 : decode cX1_takeLatest 12 = .ok (.getfield 11, 3) := by decide +kernel
theorem dX1_takeLatest_15 : decode cX1_takeLatest 15 = .ok (.aload_n 0, 1) := by decide +kernel
theorem dX1_takeLatest_16 : decode cX1_takeLatest 16 = .ok (.getfield 18, 3) := by decide +kernel
theorem dX1_takeLatest_19 : decode cX1_takeLatest 19 = .ok (.aaload, 1) := by decide +kernel
theorem dX1_takeLatest_20 : decode cX1_takeLatest 20 = .ok (.invokevirtual 25, 3) := by decide +kernel
theorem dX1_takeLatest_23 : decode cX1_takeLatest 23 = .ok (.return_, 1) := by decide +kernel
theorem dX2_init_0 : decode cX2_init 0 = .ok (.aload_n 0, 1) := by decide +kernel
theorem dX2_init_1 : decode cX2_init 1 = .ok (.invokespecial 3, 3) := by decide +kernel
theorem dX2_init_4 : decode cX2_init 4 = .ok (.aload_n 0, 1) := by decide +kernel
theorem dX2_init_5 : decode cX2_init 5 = .ok (.bipush 6, 2) := by decide +kernel
theorem dX2_init_7 : decode cX2_init 7 = .ok (.newarray .int, 2) := by decide +kernel
theorem dX2_init_9 : decode cX2_init 9 = .ok (.putfield 9, 3) := by decide +kernel
theorem dX2_init_12 : decode cX2_init 12 = .ok (.aload_n 0, 1) := by decide +kernel
theorem dX2_init_13 : decode cX2_init 13 = .ok (.bipush 6, 2) := by decide +kernel
theorem dX2_init_15 : decode cX2_init 15 = .ok (.newarray .int, 2) := by decide +kernel
theorem dX2_init_17 : decode cX2_init 17 = .ok (.putfield 15, 3) := by decide +kernel
theorem dX2_init_20 : decode cX2_init 20 = .ok (.return_, 1) := by decide +kernel
theorem dX2_copyFrom_0 : decode cX2_copyFrom 0 = .ok (.aload_n 0, 1) := by decide +kernel
theorem dX2_copyFrom_1 : decode cX2_copyFrom 1 = .ok (.aload_n 1, 1) := by decide +kernel
theorem dX2_copyFrom_2 : decode cX2_copyFrom 2 = .ok (.getfield 18, 3) := by decide +kernel
theorem dX2_copyFrom_5 : decode cX2_copyFrom 5 = .ok (.putfield 18, 3) := by decide +kernel
theorem dX2_copyFrom_8 : decode cX2_copyFrom 8 = .ok (.aload_n 1, 1) := by decide +kernel
theorem dX2_copyFrom_9 : decode cX2_copyFrom 9 = .ok (.getfield 9, 3) := by decide +kernel
theorem dX2_copyFrom_12 : decode cX2_copyFrom 12 = .ok (.iconst 0, 1) := by decide +kernel
theorem dX2_copyFrom_13 : decode cX2_copyFrom 13 = .ok (.aload_n 0, 1) := by decide +kernel
theorem dX2_copyFrom_14 : decode cX2_copyFrom 14 = .ok (.getfield 9, 3) := by decide +kernel
theorem dX2_copyFrom_17 : decode cX2_copyFrom 17 = .ok (.iconst 0, 1) := by decide +kernel
theorem dX2_copyFrom_18 : decode cX2_copyFrom 18 = .ok (.bipush 6, 2) := by decide +kernel
theorem dX2_copyFrom_20 : decode cX2_copyFrom 20 = .ok (.invokestatic 22, 3) := by decide +kernel
theorem dX2_copyFrom_23 : decode cX2_copyFrom 23 = .ok (.aload_n 1, 1) := by decide +kernel
theorem dX2_copyFrom_24 : decode cX2_copyFrom 24 = .ok (.getfield 15, 3) := by decide +kernel
theorem dX2_copyFrom_27 : decode cX2_copyFrom 27 = .ok (.iconst 0, 1) := by decide +kernel
theorem dX2_copyFrom_28 : decode cX2_copyFrom 28 = .ok (.aload_n 0, 1) := by decide +kernel
theorem dX2_copyFrom_29 : decode cX2_copyFrom 29 = .ok (.getfield 15, 3) := by decide +kernel
theorem dX2_copyFrom_32 : decode cX2_copyFrom 32 = .ok (.iconst 0, 1) := by decide +kernel
theorem dX2_copyFrom_33 : decode cX2_copyFrom 33 = .ok (.bipush 6, 2) := by decide +kernel
theorem dX2_copyFrom_35 : decode cX2_copyFrom 35 = .ok (.invokestatic 22, 3) := by decide +kernel
theorem dX2_copyFrom_38 : decode cX2_copyFrom 38 = .ok (.return_, 1) := by decide +kernel
theorem dX2_hasRoomFor_0 : decode cX2_hasRoomFor 0 = .ok (.aload_n 0, 1) := by decide +kernel
theorem dX2_hasRoomFor_1 : decode cX2_hasRoomFor 1 = .ok (.iload_n 1, 1) := by decide +kernel
theorem dX2_hasRoomFor_2 : decode cX2_hasRoomFor 2 = .ok (.invokevirtual 28, 3) := by decide +kernel
theorem dX2_hasRoomFor_5 : decode cX2_hasRoomFor 5 = .ok (.istore_n 2, 1) := by decide +kernel
theorem dX2_hasRoomFor_6 : decode cX2_hasRoomFor 6 = .ok (.aload_n 0, 1) := by decide +kernel
theorem dX2_hasRoomFor_7 : decode cX2_hasRoomFor 7 = .ok (.getfield 18, 3) := by decide +kernel
theorem dX2_hasRoomFor_10 : decode cX2_hasRoomFor 10 = .ok (.bipush 6, 2) := by decide +kernel
theorem dX2_hasRoomFor_12 : decode cX2_hasRoomFor 12 = .ok (.if_icmp .lt 21, 3) := by decide +kernel
theorem dX2_hasRoomFor_15 : decode cX2_hasRoomFor 15 = .ok (.iload_n 2, 1) := by decide +kernel
theorem dX2_hasRoomFor_16 : decode cX2_hasRoomFor 16 = .ok (.aload_n 0, 1) := by decide +kernel
theorem dX2_hasRoomFor_17 : decode cX2_hasRoomFor 17 = .ok (.getfield 18, 3) := by decide +kernel
theorem dX2_hasRoomFor_20 : decode cX2_hasRoomFor 20 = .ok (.if_icmp .ge 17, 3) := by decide +kernel
theorem dX2_hasRoomFor_23 : decode cX2_hasRoomFor 23 = .ok (.aload_n 0, 1) := by decide +kernel
theorem dX2_hasRoomFor_24 : decode cX2_hasRoomFor 24 = .ok (.getfield 9, 3) := by decide +kernel
theorem dX2_hasRoomFor_27 : decode cX2_hasRoomFor 27 = .ok (.iload_n 2, 1) := by decide +kernel
theorem dX2_hasRoomFor_28 : decode cX2_hasRoomFor 28 = .ok (.iaload, 1) := by decide +kernel
theorem dX2_hasRoomFor_29 : decode cX2_hasRoomFor 29 = .ok (.iload_n 1, 1) := by decide +kernel
theorem dX2_hasRoomFor_30 : decode cX2_hasRoomFor 30 = .ok (.if_icmp .ne 7, 3) := by decide +kernel
theorem dX2_hasRoomFor_33 : decode cX2_hasRoomFor 33 = .ok (.iconst 1, 1) := by decide +kernel
theorem dX2_hasRoomFor_34 : decode cX2_hasRoomFor 34 = .ok (.goto 4, 3) := by decide +kernel
theorem dX2_hasRoomFor_37 : decode cX2_hasRoomFor 37 = .ok (.iconst 0, 1) := by decide +kernel
theorem dX2_hasRoomFor_38 : decode cX2_hasRoomFor 38 = .ok (.ireturn, 1) := by decide +kernel
theorem dX2_put_0 : decode cX2_put 0 = .ok (.aload_n 0, 1) := by decide +kernel
theorem dX2_put_1 : decode cX2_put 1 = .ok (.iload_n 1, 1) := by decide +kernel
theorem dX2_put_2 : decode cX2_put 2 = .ok (.invokevirtual 28, 3) := by decide +kernel
theorem dX2_put_5 : decode cX2_put 5 = .ok (.istore_n 3, 1) := by decide +kernel
theorem dX2_put_6 : decode cX2_put 6 = .ok (.iload_n 3, 1) := by decide +kernel
theorem dX2_put_7 : decode cX2_put 7 = .ok (.aload_n 0, 1) := by decide +kernel
theorem dX2_put_8 : decode cX2_put 8 = .ok (.getfield 18, 3) := by decide +kernel
theorem dX2_put_11 : decode cX2_put 11 = .ok (.if_icmp .ge 13, 3) := by decide +kernel
theorem dX2_put_14 : decode cX2_put 14 = .ok (.aload_n 0, 1) := by decide +kernel
theorem dX2_put_15 : decode cX2_put 15 = .ok (.getfield 9, 3) := by decide +kernel
theorem dX2_put_18 : decode cX2_put 18 = .ok (.iload_n 3, 1) := by decide +kernel
theorem dX2_put_19 : decode cX2_put 19 = .ok (.iaload, 1) := by decide +kernel
theorem dX2_put_20 : decode cX2_put 20 = .ok (.iload_n 1, 1) := by decide +kernel
theorem dX2_put_21 : decode cX2_put 21 = .ok (.if_icmp .eq 63, 3) := by decide +kernel
theorem dX2_put_24 : decode cX2_put 24 = .ok (.aload_n 0, 1) := by decide +kernel
theorem dX2_put_25 : decode cX2_put 25 = .ok (.getfield 18, 3) := by decide +kernel
theorem dX2_put_28 : decode cX2_put 28 = .ok (.istore 4, 2) := by decide +kernel
theorem dX2_put_30 : decode cX2_put 30 = .ok (.iload 4, 2) := by decide +kernel
theorem dX2_put_32 : decode cX2_put 32 = .ok (.iload_n 3, 1) := by decide +kernel
theorem dX2_put_33 : decode cX2_put 33 = .ok (.if_icmp .le 41, 3) := by decide +kernel
theorem dX2_put_36 : decode cX2_put 36 = .ok (.aload_n 0, 1) := by decide +kernel
theorem dX2_put_37 : decode cX2_put 37 = .ok (.getfield 9, 3) := by decide +kernel
theorem dX2_put_40 : decode cX2_put 40 = .ok (.iload 4, 2) := by decide +kernel
theorem dX2_put_42 : decode cX2_put 42 = .ok (.aload_n 0, 1) := by decide +kernel
theorem dX2_put_43 : decode cX2_put 43 = .ok (.getfield 9, 3) := by decide +kernel
theorem dX2_put_46 : decode cX2_put 46 = .ok (.iload 4, 2) := by decide +kernel
theorem dX2_put_48 : decode cX2_put 48 = .ok (.iconst 1, 1) := by decide +kernel
theorem dX2_put_49 : decode cX2_put 49 = .ok (.isub, 1) := by decide +kernel
theorem dX2_put_50 : decode cX2_put 50 = .ok (.iaload, 1) := by decide +kernel
theorem dX2_put_51 : decode cX2_put 51 = .ok (.iastore, 1) := by decide +kernel
theorem dX2_put_52 : decode cX2_put 52 = .ok (.aload_n 0, 1) := by decide +kernel
theorem dX2_put_53 : decode cX2_put 53 = .ok (.getfield 15, 3) := by decide +kernel
theorem dX2_put_56 : decode cX2_put 56 = .ok (.iload 4, 2) := by decide +kernel
theorem dX2_put_58 : decode cX2_put 58 = .ok (.aload_n 0, 1) := by decide +kernel
theorem dX2_put_59 : decode cX2_put 59 = .ok (.getfield 15, 3) := by decide +kernel
theorem dX2_put_62 : decode cX2_put 62 = .ok (.iload 4, 2) := by decide +kernel
theorem dX2_put_64 : decode cX2_put 64 = .ok (.iconst 1, 1) := by decide +kernel
theorem dX2_put_65 : decode cX2_put 65 = .ok (.isub, 1) := by decide +kernel
theorem dX2_put_66 : decode cX2_put 66 = .ok (.iaload, 1) := by decide +kernel
theorem dX2_put_67 : decode cX2_put 67 = .ok (.iastore, 1) := by decide +kernel
theorem dX2_put_68 : decode cX2_put 68 = .ok (.iinc 4 (-1), 3) := by decide +kernel
theorem dX2_put_71 : decode cX2_put 71 = .ok (.goto (-41), 3) := by decide +kernel
theorem dX2_put_74 : decode cX2_put 74 = .ok (.aload_n 0, 1) := by decide +kernel
theorem dX2_put_75 : decode cX2_put 75 = .ok (.dup, 1) := by decide +kernel
theorem dX2_put_76 : decode cX2_put 76 = .ok (.getfield 18, 3) := by decide +kernel
theorem dX2_put_79 : decode cX2_put 79 = .ok (.iconst 1, 1) := by decide +kernel
theorem dX2_put_80 : decode cX2_put 80 = .ok (.iadd, 1) := by decide +kernel
theorem dX2_put_81 : decode cX2_put 81 = .ok (.putfield 18, 3) := by decide +kernel
theorem dX2_put_84 : decode cX2_put 84 = .ok (.aload_n 0, 1) := by decide +kernel
theorem dX2_put_85 : decode cX2_put 85 = .ok (.getfield 9, 3) := by decide +kernel
theorem dX2_put_88 : decode cX2_put 88 = .ok (.iload_n 3, 1) := by decide +kernel
theorem dX2_put_89 : decode cX2_put 89 = .ok (.iload_n 1, 1) := by decide +kernel
theorem dX2_put_90 : decode cX2_put 90 = .ok (.iastore, 1) := by decide +kernel
theorem dX2_put_91 : decode cX2_put 91 = .ok (.aload_n 0, 1) := by decide +kernel
theorem dX2_put_92 : decode cX2_put 92 = .ok (.getfield 15, 3) := by decide +kernel
theorem dX2_put_95 : decode cX2_put 95 = .ok (.iload_n 3, 1) := by decide +kernel
theorem dX2_put_96 : decode cX2_put 96 = .ok (.iload_n 2, 1) := by decide +kernel
theorem dX2_put_97 : decode cX2_put 97 = .ok (.iastore, 1) := by decide +kernel
theorem dX2_put_98 : decode cX2_put 98 = .ok (.return_, 1) := by decide +kernel
theorem dX2_indexFor_0 : decode cX2_indexFor 0 = .ok (.iconst 0, 1) := by decide +kernel
theorem dX2_indexFor_1 : decode cX2_indexFor 1 = .ok (.istore_n 2, 1) := by decide +kernel
theorem dX2_indexFor_2 : decode cX2_indexFor 2 = .ok (.iload_n 2, 1) := by decide +kernel
theorem dX2_indexFor_3 : decode cX2_indexFor 3 = .ok (.aload_n 0, 1) := by decide +kernel
theorem dX2_indexFor_4 : decode cX2_indexFor 4 = .ok (.getfield 18, 3) := by decide +kernel
theorem dX2_indexFor_7 : decode cX2_indexFor 7 = .ok (.if_icmp .ge 19, 3) := by decide +kernel
theorem dX2_indexFor_10 : decode cX2_indexFor 10 = .ok (.aload_n 0, 1) := by decide +kernel
theorem dX2_indexFor_11 : decode cX2_indexFor 11 = .ok (.getfield 9, 3) := by decide +kernel
theorem dX2_indexFor_14 : decode cX2_indexFor 14 = .ok (.iload_n 2, 1) := by decide +kernel
theorem dX2_indexFor_15 : decode cX2_indexFor 15 = .ok (.iaload, 1) := by decide +kernel
theorem dX2_indexFor_16 : decode cX2_indexFor 16 = .ok (.iload_n 1, 1) := by decide +kernel
theorem dX2_indexFor_17 : decode cX2_indexFor 17 = .ok (.if_icmp .ge 9, 3) := by decide +kernel
theorem dX2_indexFor_20 : decode cX2_indexFor 20 = .ok (.iinc 2 1, 3) := by decide +kernel
theorem dX2_indexFor_23 : decode cX2_indexFor 23 = .ok (.goto (-21), 3) := by decide +kernel
theorem dX2_indexFor_26 : decode cX2_indexFor 26 = .ok (.iload_n 2, 1) := by decide +kernel
theorem dX2_indexFor_27 : decode cX2_indexFor 27 = .ok (.ireturn, 1) := by decide +kernel
theorem dX2_limitAt_0 : decode cX2_limitAt 0 = .ok (.aload_n 0, 1) := by decide +kernel
theorem dX2_limitAt_1 : decode cX2_limitAt 1 = .ok (.getfield 18, 3) := by decide +kernel
theorem dX2_limitAt_4 : decode cX2_limitAt 4 = .ok (.ifCond .ne 6, 3) := by decide +kernel
theorem dX2_limitAt_7 : decode cX2_limitAt 7 = .ok (.ldc 32, 2) := by decide +kernel
theorem dX2_limitAt_9 : decode cX2_limitAt 9 = .ok (.freturn, 1) := by decide +kernel
theorem dX2_limitAt_10 : decode cX2_limitAt 10 = .ok (.fload_n 1, 1) := by decide +kernel
theorem dX2_limitAt_11 : decode cX2_limitAt 11 = .ok (.aload_n 0, 1) := by decide +kernel
theorem dX2_limitAt_12 : decode cX2_limitAt 12 = .ok (.getfield 9, 3) := by decide +kernel
theorem dX2_limitAt_15 : decode cX2_limitAt 15 = .ok (.iconst 0, 1) := by decide +kernel
theorem dX2_limitAt_16 : decode cX2_limitAt 16 = .ok (.iaload, 1) := by decide +kernel
theorem dX2_limitAt_17 : decode cX2_limitAt 17 = .ok (.i2f, 1) := by decide +kernel
theorem dX2_limitAt_18 : decode cX2_limitAt 18 = .ok (.ldc 33, 2) := by decide +kernel
theorem dX2_limitAt_20 : decode cX2_limitAt 20 = .ok (.fdiv, 1) := by decide +kernel
theorem dX2_limitAt_21 : decode cX2_limitAt 21 = .ok (.fcmp .g, 1) := by decide +kernel
theorem dX2_limitAt_22 : decode cX2_limitAt 22 = .ok (.ifCond .gt 14, 3) := by decide +kernel
theorem dX2_limitAt_25 : decode cX2_limitAt 25 = .ok (.aload_n 0, 1) := by decide +kernel
theorem dX2_limitAt_26 : decode cX2_limitAt 26 = .ok (.getfield 15, 3) := by decide +kernel
theorem dX2_limitAt_29 : decode cX2_limitAt 29 = .ok (.iconst 0, 1) := by decide +kernel
theorem dX2_limitAt_30 : decode cX2_limitAt 30 = .ok (.iaload, 1) := by decide +kernel
theorem dX2_limitAt_31 : decode cX2_limitAt 31 = .ok (.i2f, 1) := by decide +kernel
theorem dX2_limitAt_32 : decode cX2_limitAt 32 = .ok (.ldc 34, 2) := by decide +kernel
theorem dX2_limitAt_34 : decode cX2_limitAt 34 = .ok (.fdiv, 1) := by decide +kernel
theorem dX2_limitAt_35 : decode cX2_limitAt 35 = .ok (.freturn, 1) := by decide +kernel
theorem dX2_limitAt_36 : decode cX2_limitAt 36 = .ok (.iconst 1, 1) := by decide +kernel
theorem dX2_limitAt_37 : decode cX2_limitAt 37 = .ok (.istore_n 2, 1) := by decide +kernel
theorem dX2_limitAt_38 : decode cX2_limitAt 38 = .ok (.iload_n 2, 1) := by decide +kernel
theorem dX2_limitAt_39 : decode cX2_limitAt 39 = .ok (.aload_n 0, 1) := by decide +kernel
theorem dX2_limitAt_40 : decode cX2_limitAt 40 = .ok (.getfield 18, 3) := by decide +kernel
theorem dX2_limitAt_43 : decode cX2_limitAt 43 = .ok (.if_icmp .ge 92, 3) := by decide +kernel
theorem dX2_limitAt_46 : decode cX2_limitAt 46 = .ok (.aload_n 0, 1) := by decide +kernel
theorem dX2_limitAt_47 : decode cX2_limitAt 47 = .ok (.getfield 9, 3) := by decide +kernel
theorem dX2_limitAt_50 : decode cX2_limitAt 50 = .ok (.iload_n 2, 1) := by decide +kernel
theorem dX2_limitAt_51 : decode cX2_limitAt 51 = .ok (.iconst 1, 1) := by decide +kernel
theorem dX2_limitAt_52 : decode cX2_limitAt 52 = .ok (.isub, 1) := by decide +kernel
theorem dX2_limitAt_53 : decode cX2_limitAt 53 = .ok (.iaload, 1) := by decide +kernel
theorem dX2_limitAt_54 : decode cX2_limitAt 54 = .ok (.i2f, 1) := by decide +kernel
theorem dX2_limitAt_55 : decode cX2_limitAt 55 = .ok (.ldc 33, 2) := by decide +kernel
theorem dX2_limitAt_57 : decode cX2_limitAt 57 = .ok (.fdiv, 1) := by decide +kernel
theorem dX2_limitAt_58 : decode cX2_limitAt 58 = .ok (.fstore_n 3, 1) := by decide +kernel
theorem dX2_limitAt_59 : decode cX2_limitAt 59 = .ok (.aload_n 0, 1) := by decide +kernel
theorem dX2_limitAt_60 : decode cX2_limitAt 60 = .ok (.getfield 9, 3) := by decide +kernel
theorem dX2_limitAt_63 : decode cX2_limitAt 63 = .ok (.iload_n 2, 1) := by decide +kernel
theorem dX2_limitAt_64 : decode cX2_limitAt 64 = .ok (.iaload, 1) := by decide +kernel
theorem dX2_limitAt_65 : decode cX2_limitAt 65 = .ok (.i2f, 1) := by decide +kernel
theorem dX2_limitAt_66 : decode cX2_limitAt 66 = .ok (.ldc 33, 2) := by decide +kernel
theorem dX2_limitAt_68 : decode cX2_limitAt 68 = .ok (.fdiv, 1) := by decide +kernel
theorem dX2_limitAt_69 : decode cX2_limitAt 69 = .ok (.fstore 4, 2) := by decide +kernel
theorem dX2_limitAt_71 : decode cX2_limitAt 71 = .ok (.fload_n 1, 1) := by decide +kernel
theorem dX2_limitAt_72 : decode cX2_limitAt 72 = .ok (.fload 4, 2) := by decide +kernel
theorem dX2_limitAt_74 : decode cX2_limitAt 74 = .ok (.fcmp .g, 1) := by decide +kernel
theorem dX2_limitAt_75 : decode cX2_limitAt 75 = .ok (.ifCond .ge 54, 3) := by decide +kernel
theorem dX2_limitAt_78 : decode cX2_limitAt 78 = .ok (.fload_n 3, 1) := by decide +kernel
theorem dX2_limitAt_79 : decode cX2_limitAt 79 = .ok (.fload 4, 2) := by decide +kernel
theorem dX2_limitAt_81 : decode cX2_limitAt 81 = .ok (.fcmp .g, 1) := by decide +kernel
theorem dX2_limitAt_82 : decode cX2_limitAt 82 = .ok (.ifCond .ge 47, 3) := by decide +kernel
theorem dX2_limitAt_85 : decode cX2_limitAt 85 = .ok (.aload_n 0, 1) := by decide +kernel
theorem dX2_limitAt_86 : decode cX2_limitAt 86 = .ok (.getfield 15, 3) := by decide +kernel
theorem dX2_limitAt_89 : decode cX2_limitAt 89 = .ok (.iload_n 2, 1) := by decide +kernel
theorem dX2_limitAt_90 : decode cX2_limitAt 90 = .ok (.iconst 1, 1) := by decide +kernel
theorem dX2_limitAt_91 : decode cX2_limitAt 91 = .ok (.isub, 1) := by decide +kernel
theorem dX2_limitAt_92 : decode cX2_limitAt 92 = .ok (.iaload, 1) := by decide +kernel
theorem dX2_limitAt_93 : decode cX2_limitAt 93 = .ok (.i2f, 1) := by decide +kernel
theorem dX2_limitAt_94 : decode cX2_limitAt 94 = .ok (.ldc 34, 2) := by decide +kernel
theorem dX2_limitAt_96 : decode cX2_limitAt 96 = .ok (.fdiv, 1) := by decide +kernel
theorem dX2_limitAt_97 : decode cX2_limitAt 97 = .ok (.fstore 5, 2) := by decide +kernel
theorem dX2_limitAt_99 : decode cX2_limitAt 99 = .ok (.aload_n 0, 1) := by decide +kernel
theorem dX2_limitAt_100 : decode cX2_limitAt 100 = .ok (.getfield 15, 3) := by decide +kernel
theorem dX2_limitAt_103 : decode cX2_limitAt 103 = .ok (.iload_n 2, 1) := by decide +kernel
theorem dX2_limitAt_104 : decode cX2_limitAt 104 = .ok (.iaload, 1) := by decide +kernel
theorem dX2_limitAt_105 : decode cX2_limitAt 105 = .ok (.i2f, 1) := by decide +kernel
theorem dX2_limitAt_106 : decode cX2_limitAt 106 = .ok (.ldc 34, 2) := by decide +kernel
theorem dX2_limitAt_108 : decode cX2_limitAt 108 = .ok (.fdiv, 1) := by decide +kernel
theorem dX2_limitAt_109 : decode cX2_limitAt 109 = .ok (.fstore 6, 2) := by decide +kernel
theorem dX2_limitAt_111 : decode cX2_limitAt 111 = .ok (.fload 5, 2) := by decide +kernel
theorem dX2_limitAt_113 : decode cX2_limitAt 113 = .ok (.fload 6, 2) := by decide +kernel
theorem dX2_limitAt_115 : decode cX2_limitAt 115 = .ok (.fload 5, 2) := by decide +kernel
theorem dX2_limitAt_117 : decode cX2_limitAt 117 = .ok (.fsub, 1) := by decide +kernel
theorem dX2_limitAt_118 : decode cX2_limitAt 118 = .ok (.fload_n 1, 1) := by decide +kernel
theorem dX2_limitAt_119 : decode cX2_limitAt 119 = .ok (.fload_n 3, 1) := by decide +kernel
theorem dX2_limitAt_120 : decode cX2_limitAt 120 = .ok (.fsub, 1) := by decide +kernel
theorem dX2_limitAt_121 : decode cX2_limitAt 121 = .ok (.fload 4, 2) := by decide +kernel
theorem dX2_limitAt_123 : decode cX2_limitAt 123 = .ok (.fload_n 3, 1) := by decide +kernel
theorem dX2_limitAt_124 : decode cX2_limitAt 124 = .ok (.fsub, 1) := by decide +kernel
theorem dX2_limitAt_125 : decode cX2_limitAt 125 = .ok (.fdiv, 1) := by decide +kernel
theorem dX2_limitAt_126 : decode cX2_limitAt 126 = .ok (.fmul, 1) := by decide +kernel
theorem dX2_limitAt_127 : decode cX2_limitAt 127 = .ok (.fadd, 1) := by decide +kernel
theorem dX2_limitAt_128 : decode cX2_limitAt 128 = .ok (.freturn, 1) := by decide +kernel
theorem dX2_limitAt_129 : decode cX2_limitAt 129 = .ok (.iinc 2 1, 3) := by decide +kernel
theorem dX2_limitAt_132 : decode cX2_limitAt 132 = .ok (.goto (-94), 3) := by decide +kernel
theorem dX2_limitAt_135 : decode cX2_limitAt 135 = .ok (.aload_n 0, 1) := by decide +kernel
theorem dX2_limitAt_136 : decode cX2_limitAt 136 = .ok (.getfield 15, 3) := by decide +kernel
theorem dX2_limitAt_139 : decode cX2_limitAt 139 = .ok (.aload_n 0, 1) := by decide +kernel
theorem dX2_limitAt_140 : decode cX2_limitAt 140 = .ok (.getfield 18, 3) := by decide +kernel
theorem dX2_limitAt_143 : decode cX2_limitAt 143 = .ok (.iconst 1, 1) := by decide +kernel
theorem dX2_limitAt_144 : decode cX2_limitAt 144 = .ok (.isub, 1) := by decide +kernel
theorem dX2_limitAt_145 : decode cX2_limitAt 145 = .ok (.iaload, 1) := by decide +kernel
theorem dX2_limitAt_146 : decode cX2_limitAt 146 = .ok (.i2f, 1) := by decide +kernel
theorem dX2_limitAt_147 : decode cX2_limitAt 147 = .ok (.ldc 34, 2) := by decide +kernel
theorem dX2_limitAt_149 : decode cX2_limitAt 149 = .ok (.fdiv, 1) := by decide +kernel
theorem dX2_limitAt_150 : decode cX2_limitAt 150 = .ok (.freturn, 1) := by decide +kernel
theorem dX3_init_0 : decode cX3_init 0 = .ok (.aload_n 0, 1) := by decide +kernel
theorem dX3_init_1 : decode cX3_init 1 = .ok (.invokespecial 1, 3) := by decide +kernel
theorem dX3_init_4 : decode cX3_init 4 = .ok (.return_, 1) := by decide +kernel
theorem dX3_copyFrom_0 : decode cX3_copyFrom 0 = .ok (.aload_n 0, 1) := by decide +kernel
theorem dX3_copyFrom_1 : decode cX3_copyFrom 1 = .ok (.aload_n 1, 1) := by decide +kernel
theorem dX3_copyFrom_2 : decode cX3_copyFrom 2 = .ok (.getfield 7, 3) := by decide +kernel
theorem dX3_copyFrom_5 : decode cX3_copyFrom 5 = .ok (.putfield 7, 3) := by decide +kernel
theorem dX3_copyFrom_8 : decode cX3_copyFrom 8 = .ok (.aload_n 0, 1) := by decide +kernel
theorem dX3_copyFrom_9 : decode cX3_copyFrom 9 = .ok (.aload_n 1, 1) := by decide +kernel
theorem dX3_copyFrom_10 : decode cX3_copyFrom 10 = .ok (.getfield 13, 3) := by decide +kernel
theorem dX3_copyFrom_13 : decode cX3_copyFrom 13 = .ok (.putfield 13, 3) := by decide +kernel
theorem dX3_copyFrom_16 : decode cX3_copyFrom 16 = .ok (.aload_n 0, 1) := by decide +kernel
theorem dX3_copyFrom_17 : decode cX3_copyFrom 17 = .ok (.aload_n 1, 1) := by decide +kernel
theorem dX3_copyFrom_18 : decode cX3_copyFrom 18 = .ok (.getfield 16, 3) := by decide +kernel
theorem dX3_copyFrom_21 : decode cX3_copyFrom 21 = .ok (.putfield 16, 3) := by decide +kernel
theorem dX3_copyFrom_24 : decode cX3_copyFrom 24 = .ok (.aload_n 0, 1) := by decide +kernel
theorem dX3_copyFrom_25 : decode cX3_copyFrom 25 = .ok (.aload_n 1, 1) := by decide +kernel
theorem dX3_copyFrom_26 : decode cX3_copyFrom 26 = .ok (.getfield 20, 3) := by decide +kernel
theorem dX3_copyFrom_29 : decode cX3_copyFrom 29 = .ok (.putfield 20, 3) := by decide +kernel
theorem dX3_copyFrom_32 : decode cX3_copyFrom 32 = .ok (.aload_n 0, 1) := by decide +kernel
theorem dX3_copyFrom_33 : decode cX3_copyFrom 33 = .ok (.aload_n 1, 1) := by decide +kernel
theorem dX3_copyFrom_34 : decode cX3_copyFrom 34 = .ok (.getfield 23, 3) := by decide +kernel
theorem dX3_copyFrom_37 : decode cX3_copyFrom 37 = .ok (.putfield 23, 3) := by decide +kernel
theorem dX3_copyFrom_40 : decode cX3_copyFrom 40 = .ok (.return_, 1) := by decide +kernel
theorem dX3_startFar_0 : decode cX3_startFar 0 = .ok (.aload_n 0, 1) := by decide +kernel
theorem dX3_startFar_1 : decode cX3_startFar 1 = .ok (.iconst 0, 1) := by decide +kernel
theorem dX3_startFar_2 : decode cX3_startFar 2 = .ok (.putfield 16, 3) := by decide +kernel
theorem dX3_startFar_5 : decode cX3_startFar 5 = .ok (.aload_n 0, 1) := by decide +kernel
theorem dX3_startFar_6 : decode cX3_startFar 6 = .ok (.iconst 0, 1) := by decide +kernel
theorem dX3_startFar_7 : decode cX3_startFar 7 = .ok (.putfield 20, 3) := by decide +kernel
theorem dX3_startFar_10 : decode cX3_startFar 10 = .ok (.return_, 1) := by decide +kernel
theorem dX3_farMeasured_0 : decode cX3_farMeasured 0 = .ok (.fload_n 1, 1) := by decide +kernel
theorem dX3_farMeasured_1 : decode cX3_farMeasured 1 = .ok (.aload_n 0, 1) := by decide +kernel
theorem dX3_farMeasured_2 : decode cX3_farMeasured 2 = .ok (.getfield 7, 3) := by decide +kernel
theorem dX3_farMeasured_5 : decode cX3_farMeasured 5 = .ok (.i2f, 1) := by decide +kernel
theorem dX3_farMeasured_6 : decode cX3_farMeasured 6 = .ok (.ldc 26, 2) := by decide +kernel
theorem dX3_farMeasured_8 : decode cX3_farMeasured 8 = .ok (.fdiv, 1) := by decide +kernel
theorem dX3_farMeasured_9 : decode cX3_farMeasured 9 = .ok (.fadd, 1) := by decide +kernel
theorem dX3_farMeasured_10 : decode cX3_farMeasured 10 = .ok (.freturn, 1) := by decide +kernel
theorem dX3_nearMeasured_0 : decode cX3_nearMeasured 0 = .ok (.fload_n 1, 1) := by decide +kernel
theorem dX3_nearMeasured_1 : decode cX3_nearMeasured 1 = .ok (.aload_n 0, 1) := by decide +kernel
theorem dX3_nearMeasured_2 : decode cX3_nearMeasured 2 = .ok (.getfield 13, 3) := by decide +kernel
theorem dX3_nearMeasured_5 : decode cX3_nearMeasured 5 = .ok (.i2f, 1) := by decide +kernel
theorem dX3_nearMeasured_6 : decode cX3_nearMeasured 6 = .ok (.ldc 26, 2) := by decide +kernel
theorem dX3_nearMeasured_8 : decode cX3_nearMeasured 8 = .ok (.fdiv, 1) := by decide +kernel
theorem dX3_nearMeasured_9 : decode cX3_nearMeasured 9 = .ok (.fadd, 1) := by decide +kernel
theorem dX3_nearMeasured_10 : decode cX3_nearMeasured 10 = .ok (.freturn, 1) := by decide +kernel
theorem dX3_measured_0 : decode cX3_measured 0 = .ok (.aload_n 0, 1) := by decide +kernel
theorem dX3_measured_1 : decode cX3_measured 1 = .ok (.getfield 16, 3) := by decide +kernel
theorem dX3_measured_4 : decode cX3_measured 4 = .ok (.ifCond .eq 11, 3) := by decide +kernel
theorem dX3_measured_7 : decode cX3_measured 7 = .ok (.aload_n 0, 1) := by decide +kernel
theorem dX3_measured_8 : decode cX3_measured 8 = .ok (.fload_n 1, 1) := by decide +kernel
theorem dX3_measured_9 : decode cX3_measured 9 = .ok (.invokevirtual 27, 3) := by decide +kernel
theorem dX3_measured_12 : decode cX3_measured 12 = .ok (.goto 8, 3) := by decide +kernel
theorem dX3_measured_15 : decode cX3_measured 15 = .ok (.aload_n 0, 1) := by decide +kernel
theorem dX3_measured_16 : decode cX3_measured 16 = .ok (.fload_n 1, 1) := by decide +kernel
theorem dX3_measured_17 : decode cX3_measured 17 = .ok (.invokevirtual 31, 3) := by decide +kernel
theorem dX3_measured_20 : decode cX3_measured 20 = .ok (.freturn, 1) := by decide +kernel
theorem dX3_compare_0 : decode cX3_compare 0 = .ok (.fload_n 1, 1) := by decide +kernel
theorem dX3_compare_1 : decode cX3_compare 1 = .ok (.ldc 34, 2) := by decide +kernel
theorem dX3_compare_3 : decode cX3_compare 3 = .ok (.fcmp .g, 1) := by decide +kernel
theorem dX3_compare_4 : decode cX3_compare 4 = .ok (.ifCond .gt 7, 3) := by decide +kernel
theorem dX3_compare_7 : decode cX3_compare 7 = .ok (.iconst 1, 1) := by decide +kernel
theorem dX3_compare_8 : decode cX3_compare 8 = .ok (.goto 4, 3) := by decide +kernel
theorem dX3_compare_11 : decode cX3_compare 11 = .ok (.iconst 0, 1) := by decide +kernel
theorem dX3_compare_12 : decode cX3_compare 12 = .ok (.istore_n 2, 1) := by decide +kernel
theorem dX3_compare_13 : decode cX3_compare 13 = .ok (.aload_n 0, 1) := by decide +kernel
theorem dX3_compare_14 : decode cX3_compare 14 = .ok (.getfield 16, 3) := by decide +kernel
theorem dX3_compare_17 : decode cX3_compare 17 = .ok (.ifCond .ne 31, 3) := by decide +kernel
theorem dX3_compare_20 : decode cX3_compare 20 = .ok (.iload_n 2, 1) := by decide +kernel
theorem dX3_compare_21 : decode cX3_compare 21 = .ok (.ifCond .eq 27, 3) := by decide +kernel
theorem dX3_compare_24 : decode cX3_compare 24 = .ok (.aload_n 0, 1) := by decide +kernel
theorem dX3_compare_25 : decode cX3_compare 25 = .ok (.fload_n 1, 1) := by decide +kernel
theorem dX3_compare_26 : decode cX3_compare 26 = .ok (.invokevirtual 31, 3) := by decide +kernel
theorem dX3_compare_29 : decode cX3_compare 29 = .ok (.aload_n 0, 1) := by decide +kernel
theorem dX3_compare_30 : decode cX3_compare 30 = .ok (.fload_n 1, 1) := by decide +kernel
theorem dX3_compare_31 : decode cX3_compare 31 = .ok (.invokevirtual 27, 3) := by decide +kernel
theorem dX3_compare_34 : decode cX3_compare 34 = .ok (.fsub, 1) := by decide +kernel
theorem dX3_compare_35 : decode cX3_compare 35 = .ok (.invokestatic 35, 3) := by decide +kernel
theorem dX3_compare_38 : decode cX3_compare 38 = .ok (.ldc 40, 2) := by decide +kernel
theorem dX3_compare_40 : decode cX3_compare 40 = .ok (.fcmp .g, 1) := by decide +kernel
theorem dX3_compare_41 : decode cX3_compare 41 = .ok (.ifCond .ge 7, 3) := by decide +kernel
theorem dX3_compare_44 : decode cX3_compare 44 = .ok (.iconst 1, 1) := by decide +kernel
theorem dX3_compare_45 : decode cX3_compare 45 = .ok (.goto 4, 3) := by decide +kernel
theorem dX3_compare_48 : decode cX3_compare 48 = .ok (.iconst 0, 1) := by decide +kernel
theorem dX3_compare_49 : decode cX3_compare 49 = .ok (.istore_n 3, 1) := by decide +kernel
theorem dX3_compare_50 : decode cX3_compare 50 = .ok (.aload_n 0, 1) := by decide +kernel
theorem dX3_compare_51 : decode cX3_compare 51 = .ok (.iload_n 3, 1) := by decide +kernel
theorem dX3_compare_52 : decode cX3_compare 52 = .ok (.ifCond .eq 12, 3) := by decide +kernel
theorem dX3_compare_55 : decode cX3_compare 55 = .ok (.aload_n 0, 1) := by decide +kernel
theorem dX3_compare_56 : decode cX3_compare 56 = .ok (.getfield 20, 3) := by decide +kernel
theorem dX3_compare_59 : decode cX3_compare 59 = .ok (.iconst 1, 1) := by decide +kernel
theorem dX3_compare_60 : decode cX3_compare 60 = .ok (.iadd, 1) := by decide +kernel
theorem dX3_compare_61 : decode cX3_compare 61 = .ok (.goto 4, 3) := by decide +kernel
theorem dX3_compare_64 : decode cX3_compare 64 = .ok (.iconst 0, 1) := by decide +kernel
theorem dX3_compare_65 : decode cX3_compare 65 = .ok (.putfield 20, 3) := by decide +kernel
theorem dX3_compare_68 : decode cX3_compare 68 = .ok (.aload_n 0, 1) := by decide +kernel
theorem dX3_compare_69 : decode cX3_compare 69 = .ok (.getfield 20, 3) := by decide +kernel
theorem dX3_compare_72 : decode cX3_compare 72 = .ok (.iconst 3, 1) := by decide +kernel
theorem dX3_compare_73 : decode cX3_compare 73 = .ok (.if_icmp .ne 26, 3) := by decide +kernel
theorem dX3_compare_76 : decode cX3_compare 76 = .ok (.aload_n 0, 1) := by decide +kernel
theorem dX3_compare_77 : decode cX3_compare 77 = .ok (.iconst 1, 1) := by decide +kernel
theorem dX3_compare_78 : decode cX3_compare 78 = .ok (.putfield 16, 3) := by decide +kernel
theorem dX3_compare_81 : decode cX3_compare 81 = .ok (.aload_n 0, 1) := by decide +kernel
theorem dX3_compare_82 : decode cX3_compare 82 = .ok (.iconst 0, 1) := by decide +kernel
theorem dX3_compare_83 : decode cX3_compare 83 = .ok (.putfield 20, 3) := by decide +kernel
theorem dX3_compare_86 : decode cX3_compare 86 = .ok (.aload_n 0, 1) := by decide +kernel
theorem dX3_compare_87 : decode cX3_compare 87 = .ok (.dup, 1) := by decide +kernel
theorem dX3_compare_88 : decode cX3_compare 88 = .ok (.getfield 23, 3) := by decide +kernel
theorem dX3_compare_91 : decode cX3_compare 91 = .ok (.iconst 1, 1) := by decide +kernel
theorem dX3_compare_92 : decode cX3_compare 92 = .ok (.iadd, 1) := by decide +kernel
theorem dX3_compare_93 : decode cX3_compare 93 = .ok (.putfield 23, 3) := by decide +kernel
theorem dX3_compare_96 : decode cX3_compare 96 = .ok (.goto 29, 3) := by decide +kernel
theorem dX3_compare_99 : decode cX3_compare 99 = .ok (.aload_n 0, 1) := by decide +kernel
theorem dX3_compare_100 : decode cX3_compare 100 = .ok (.getfield 16, 3) := by decide +kernel
theorem dX3_compare_103 : decode cX3_compare 103 = .ok (.ifCond .eq 22, 3) := by decide +kernel
theorem dX3_compare_106 : decode cX3_compare 106 = .ok (.iload_n 2, 1) := by decide +kernel
theorem dX3_compare_107 : decode cX3_compare 107 = .ok (.ifCond .ne 18, 3) := by decide +kernel
theorem dX3_compare_110 : decode cX3_compare 110 = .ok (.aload_n 0, 1) := by decide +kernel
theorem dX3_compare_111 : decode cX3_compare 111 = .ok (.iconst 0, 1) := by decide +kernel
theorem dX3_compare_112 : decode cX3_compare 112 = .ok (.putfield 16, 3) := by decide +kernel
theorem dX3_compare_115 : decode cX3_compare 115 = .ok (.aload_n 0, 1) := by decide +kernel
theorem dX3_compare_116 : decode cX3_compare 116 = .ok (.dup, 1) := by decide +kernel
theorem dX3_compare_117 : decode cX3_compare 117 = .ok (.getfield 23, 3) := by decide +kernel
theorem dX3_compare_120 : decode cX3_compare 120 = .ok (.iconst 1, 1) := by decide +kernel
theorem dX3_compare_121 : decode cX3_compare 121 = .ok (.iadd, 1) := by decide +kernel
theorem dX3_compare_122 : decode cX3_compare 122 = .ok (.putfield 23, 3) := by decide +kernel
theorem dX3_compare_125 : decode cX3_compare 125 = .ok (.return_, 1) := by decide +kernel
theorem dX4_init_0 : decode cX4_init 0 = .ok (.aload_n 0, 1) := by decide +kernel
theorem dX4_init_1 : decode cX4_init 1 = .ok (.invokespecial 3, 3) := by decide +kernel
theorem dX4_init_4 : decode cX4_init 4 = .ok (.aload_n 0, 1) := by decide +kernel
theorem dX4_init_5 : decode cX4_init 5 = .ok (.ldc 9, 2) := by decide +kernel
theorem dX4_init_7 : decode cX4_init 7 = .ok (.putfield 10, 3) := by decide +kernel
theorem dX4_init_10 : decode cX4_init 10 = .ok (.aload_n 0, 1) := by decide +kernel
theorem dX4_init_11 : decode cX4_init 11 = .ok (.bipush (-5), 2) := by decide +kernel
theorem dX4_init_13 : decode cX4_init 13 = .ok (.putfield 16, 3) := by decide +kernel
theorem dX4_init_16 : decode cX4_init 16 = .ok (.aload_n 0, 1) := by decide +kernel
theorem dX4_init_17 : decode cX4_init 17 = .ok (.bipush 8, 2) := by decide +kernel
theorem dX4_init_19 : decode cX4_init 19 = .ok (.newarray .int, 2) := by decide +kernel
theorem dX4_init_21 : decode cX4_init 21 = .ok (.putfield 20, 3) := by decide +kernel
theorem dX4_init_24 : decode cX4_init 24 = .ok (.getstatic 24, 3) := by decide +kernel
theorem dX4_init_27 : decode cX4_init 27 = .ok (.iconst 0, 1) := by decide +kernel
theorem dX4_init_28 : decode cX4_init 28 = .ok (.aload_n 0, 1) := by decide +kernel
theorem dX4_init_29 : decode cX4_init 29 = .ok (.getfield 20, 3) := by decide +kernel
theorem dX4_init_32 : decode cX4_init 32 = .ok (.iconst 0, 1) := by decide +kernel
theorem dX4_init_33 : decode cX4_init 33 = .ok (.bipush 8, 2) := by decide +kernel
theorem dX4_init_35 : decode cX4_init 35 = .ok (.invokestatic 27, 3) := by decide +kernel
theorem dX4_init_38 : decode cX4_init 38 = .ok (.aload_n 0, 1) := by decide +kernel
theorem dX4_init_39 : decode cX4_init 39 = .ok (.new 33, 3) := by decide +kernel
theorem dX4_init_42 : decode cX4_init 42 = .ok (.dup, 1) := by decide +kernel
theorem dX4_init_43 : decode cX4_init 43 = .ok (.invokespecial 35, 3) := by decide +kernel
theorem dX4_init_46 : decode cX4_init 46 = .ok (.putfield 36, 3) := by decide +kernel
theorem dX4_init_49 : decode cX4_init 49 = .ok (.aload_n 0, 1) := by decide +kernel
theorem dX4_init_50 : decode cX4_init 50 = .ok (.new 40, 3) := by decide +kernel
theorem dX4_init_53 : decode cX4_init 53 = .ok (.dup, 1) := by decide +kernel
theorem dX4_init_54 : decode cX4_init 54 = .ok (.invokespecial 42, 3) := by decide +kernel
theorem dX4_init_57 : decode cX4_init 57 = .ok (.putfield 43, 3) := by decide +kernel
theorem dX4_init_60 : decode cX4_init 60 = .ok (.aload_n 0, 1) := by decide +kernel
theorem dX4_init_61 : decode cX4_init 61 = .ok (.new 47, 3) := by decide +kernel
theorem dX4_init_64 : decode cX4_init 64 = .ok (.dup, 1) := by decide +kernel
theorem dX4_init_65 : decode cX4_init 65 = .ok (.invokespecial 49, 3) := by decide +kernel
theorem dX4_init_68 : decode cX4_init 68 = .ok (.putfield 50, 3) := by decide +kernel
theorem dX4_init_71 : decode cX4_init 71 = .ok (.return_, 1) := by decide +kernel
theorem dX4_copyFrom_0 : decode cX4_copyFrom 0 = .ok (.aload_n 0, 1) := by decide +kernel
theorem dX4_copyFrom_1 : decode cX4_copyFrom 1 = .ok (.aload_n 1, 1) := by decide +kernel
theorem dX4_copyFrom_2 : decode cX4_copyFrom 2 = .ok (.getfield 10, 3) := by decide +kernel
theorem dX4_copyFrom_5 : decode cX4_copyFrom 5 = .ok (.putfield 10, 3) := by decide +kernel
theorem dX4_copyFrom_8 : decode cX4_copyFrom 8 = .ok (.aload_n 0, 1) := by decide +kernel
theorem dX4_copyFrom_9 : decode cX4_copyFrom 9 = .ok (.aload_n 1, 1) := by decide +kernel
theorem dX4_copyFrom_10 : decode cX4_copyFrom 10 = .ok (.getfield 54, 3) := by decide +kernel
theorem dX4_copyFrom_13 : decode cX4_copyFrom 13 = .ok (.putfield 54, 3) := by decide +kernel
theorem dX4_copyFrom_16 : decode cX4_copyFrom 16 = .ok (.aload_n 0, 1) := by decide +kernel
theorem dX4_copyFrom_17 : decode cX4_copyFrom 17 = .ok (.aload_n 1, 1) := by decide +kernel
theorem dX4_copyFrom_18 : decode cX4_copyFrom 18 = .ok (.getfield 57, 3) := by decide +kernel
theorem dX4_copyFrom_21 : decode cX4_copyFrom 21 = .ok (.putfield 57, 3) := by decide +kernel
theorem dX4_copyFrom_24 : decode cX4_copyFrom 24 = .ok (.aload_n 0, 1) := by decide +kernel
theorem dX4_copyFrom_25 : decode cX4_copyFrom 25 = .ok (.aload_n 1, 1) := by decide +kernel
theorem dX4_copyFrom_26 : decode cX4_copyFrom 26 = .ok (.getfield 60, 3) := by decide +kernel
theorem dX4_copyFrom_29 : decode cX4_copyFrom 29 = .ok (.putfield 60, 3) := by decide +kernel
theorem dX4_copyFrom_32 : decode cX4_copyFrom 32 = .ok (.aload_n 0, 1) := by decide +kernel
theorem dX4_copyFrom_33 : decode cX4_copyFrom 33 = .ok (.aload_n 1, 1) := by decide +kernel
theorem dX4_copyFrom_34 : decode cX4_copyFrom 34 = .ok (.getfield 63, 3) := by decide +kernel
theorem dX4_copyFrom_37 : decode cX4_copyFrom 37 = .ok (.putfield 63, 3) := by decide +kernel
theorem dX4_copyFrom_40 : decode cX4_copyFrom 40 = .ok (.aload_n 0, 1) := by decide +kernel
theorem dX4_copyFrom_41 : decode cX4_copyFrom 41 = .ok (.aload_n 1, 1) := by decide +kernel
theorem dX4_copyFrom_42 : decode cX4_copyFrom 42 = .ok (.getfield 16, 3) := by decide +kernel
theorem dX4_copyFrom_45 : decode cX4_copyFrom 45 = .ok (.putfield 16, 3) := by decide +kernel
theorem dX4_copyFrom_48 : decode cX4_copyFrom 48 = .ok (.aload_n 0, 1) := by decide +kernel
theorem dX4_copyFrom_49 : decode cX4_copyFrom 49 = .ok (.aload_n 1, 1) := by decide +kernel
theorem dX4_copyFrom_50 : decode cX4_copyFrom 50 = .ok (.getfield 66, 3) := by decide +kernel
theorem dX4_copyFrom_53 : decode cX4_copyFrom 53 = .ok (.putfield 66, 3) := by decide +kernel
theorem dX4_copyFrom_56 : decode cX4_copyFrom 56 = .ok (.aload_n 0, 1) := by decide +kernel
theorem dX4_copyFrom_57 : decode cX4_copyFrom 57 = .ok (.aload_n 1, 1) := by decide +kernel
theorem dX4_copyFrom_58 : decode cX4_copyFrom 58 = .ok (.getfield 69, 3) := by decide +kernel
theorem dX4_copyFrom_61 : decode cX4_copyFrom 61 = .ok (.putfield 69, 3) := by decide +kernel
theorem dX4_copyFrom_64 : decode cX4_copyFrom 64 = .ok (.aload_n 0, 1) := by decide +kernel
theorem dX4_copyFrom_65 : decode cX4_copyFrom 65 = .ok (.aload_n 1, 1) := by decide +kernel
theorem dX4_copyFrom_66 : decode cX4_copyFrom 66 = .ok (.getfield 72, 3) := by decide +kernel
theorem dX4_copyFrom_69 : decode cX4_copyFrom 69 = .ok (.putfield 72, 3) := by decide +kernel
theorem dX4_copyFrom_72 : decode cX4_copyFrom 72 = .ok (.aload_n 0, 1) := by decide +kernel
theorem dX4_copyFrom_73 : decode cX4_copyFrom 73 = .ok (.aload_n 1, 1) := by decide +kernel
theorem dX4_copyFrom_74 : decode cX4_copyFrom 74 = .ok (.getfield 75, 3) := by decide +kernel
theorem dX4_copyFrom_77 : decode cX4_copyFrom 77 = .ok (.putfield 75, 3) := by decide +kernel
theorem dX4_copyFrom_80 : decode cX4_copyFrom 80 = .ok (.aload_n 1, 1) := by decide +kernel
theorem dX4_copyFrom_81 : decode cX4_copyFrom 81 = .ok (.getfield 20, 3) := by decide +kernel
theorem dX4_copyFrom_84 : decode cX4_copyFrom 84 = .ok (.iconst 0, 1) := by decide +kernel
theorem dX4_copyFrom_85 : decode cX4_copyFrom 85 = .ok (.aload_n 0, 1) := by decide +kernel
theorem dX4_copyFrom_86 : decode cX4_copyFrom 86 = .ok (.getfield 20, 3) := by decide +kernel
theorem dX4_copyFrom_89 : decode cX4_copyFrom 89 = .ok (.iconst 0, 1) := by decide +kernel
theorem dX4_copyFrom_90 : decode cX4_copyFrom 90 = .ok (.bipush 8, 2) := by decide +kernel
theorem dX4_copyFrom_92 : decode cX4_copyFrom 92 = .ok (.invokestatic 27, 3) := by decide +kernel
theorem dX4_copyFrom_95 : decode cX4_copyFrom 95 = .ok (.aload_n 0, 1) := by decide +kernel
theorem dX4_copyFrom_96 : decode cX4_copyFrom 96 = .ok (.getfield 36, 3) := by decide +kernel
theorem dX4_copyFrom_99 : decode cX4_copyFrom 99 = .ok (.aload_n 1, 1) := by decide +kernel
theorem dX4_copyFrom_100 : decode cX4_copyFrom 100 = .ok (.getfield 36, 3) := by decide +kernel
theorem dX4_copyFrom_103 : decode cX4_copyFrom 103 = .ok (.invokevirtual 78, 3) := by decide +kernel
theorem dX4_copyFrom_106 : decode cX4_copyFrom 106 = .ok (.aload_n 0, 1) := by decide +kernel
theorem dX4_copyFrom_107 : decode cX4_copyFrom 107 = .ok (.getfield 43, 3) := by decide +kernel
theorem dX4_copyFrom_110 : decode cX4_copyFrom 110 = .ok (.aload_n 1, 1) := by decide +kernel
theorem dX4_copyFrom_111 : decode cX4_copyFrom 111 = .ok (.getfield 43, 3) := by decide +kernel
theorem dX4_copyFrom_114 : decode cX4_copyFrom 114 = .ok (.invokevirtual 82, 3) := by decide +kernel
theorem dX4_copyFrom_117 : decode cX4_copyFrom 117 = .ok (.aload_n 0, 1) := by decide +kernel
theorem dX4_copyFrom_118 : decode cX4_copyFrom 118 = .ok (.getfield 50, 3) := by decide +kernel
theorem dX4_copyFrom_121 : decode cX4_copyFrom 121 = .ok (.aload_n 1, 1) := by decide +kernel
theorem dX4_copyFrom_122 : decode cX4_copyFrom 122 = .ok (.getfield 50, 3) := by decide +kernel
theorem dX4_copyFrom_125 : decode cX4_copyFrom 125 = .ok (.invokevirtual 85, 3) := by decide +kernel
theorem dX4_copyFrom_128 : decode cX4_copyFrom 128 = .ok (.return_, 1) := by decide +kernel
theorem dX4_putShip_0 : decode cX4_putShip 0 = .ok (.aload_n 0, 1) := by decide +kernel
theorem dX4_putShip_1 : decode cX4_putShip 1 = .ok (.fload_n 1, 1) := by decide +kernel
theorem dX4_putShip_2 : decode cX4_putShip 2 = .ok (.putfield 10, 3) := by decide +kernel
theorem dX4_putShip_5 : decode cX4_putShip 5 = .ok (.aload_n 0, 1) := by decide +kernel
theorem dX4_putShip_6 : decode cX4_putShip 6 = .ok (.fload_n 2, 1) := by decide +kernel
theorem dX4_putShip_7 : decode cX4_putShip 7 = .ok (.putfield 54, 3) := by decide +kernel
theorem dX4_putShip_10 : decode cX4_putShip 10 = .ok (.aload_n 0, 1) := by decide +kernel
theorem dX4_putShip_11 : decode cX4_putShip 11 = .ok (.fload_n 3, 1) := by decide +kernel
theorem dX4_putShip_12 : decode cX4_putShip 12 = .ok (.putfield 57, 3) := by decide +kernel
theorem dX4_putShip_15 : decode cX4_putShip 15 = .ok (.aload_n 0, 1) := by decide +kernel
theorem dX4_putShip_16 : decode cX4_putShip 16 = .ok (.fload 4, 2) := by decide +kernel
theorem dX4_putShip_18 : decode cX4_putShip 18 = .ok (.putfield 60, 3) := by decide +kernel
theorem dX4_putShip_21 : decode cX4_putShip 21 = .ok (.aload_n 0, 1) := by decide +kernel
theorem dX4_putShip_22 : decode cX4_putShip 22 = .ok (.iconst 0, 1) := by decide +kernel
theorem dX4_putShip_23 : decode cX4_putShip 23 = .ok (.invokevirtual 88, 3) := by decide +kernel
theorem dX4_putShip_26 : decode cX4_putShip 26 = .ok (.aload_n 0, 1) := by decide +kernel
theorem dX4_putShip_27 : decode cX4_putShip 27 = .ok (.iconst 0, 1) := by decide +kernel
theorem dX4_putShip_28 : decode cX4_putShip 28 = .ok (.putfield 69, 3) := by decide +kernel
theorem dX4_putShip_31 : decode cX4_putShip 31 = .ok (.aload_n 0, 1) := by decide +kernel
theorem dX4_putShip_32 : decode cX4_putShip 32 = .ok (.getfield 50, 3) := by decide +kernel
theorem dX4_putShip_35 : decode cX4_putShip 35 = .ok (.invokevirtual 92, 3) := by decide +kernel
theorem dX4_putShip_38 : decode cX4_putShip 38 = .ok (.return_, 1) := by decide +kernel
theorem dX4_enter_0 : decode cX4_enter 0 = .ok (.aload_n 0, 1) := by decide +kernel
theorem dX4_enter_1 : decode cX4_enter 1 = .ok (.iload_n 1, 1) := by decide +kernel
theorem dX4_enter_2 : decode cX4_enter 2 = .ok (.putfield 63, 3) := by decide +kernel
theorem dX4_enter_5 : decode cX4_enter 5 = .ok (.aload_n 0, 1) := by decide +kernel
theorem dX4_enter_6 : decode cX4_enter 6 = .ok (.bipush (-5), 2) := by decide +kernel
theorem dX4_enter_8 : decode cX4_enter 8 = .ok (.putfield 16, 3) := by decide +kernel
theorem dX4_enter_11 : decode cX4_enter 11 = .ok (.return_, 1) := by decide +kernel
theorem dX4_startApproach_0 : decode cX4_startApproach 0 = .ok (.aload_n 0, 1) := by decide +kernel
theorem dX4_startApproach_1 : decode cX4_startApproach 1 = .ok (.iconst 1, 1) := by decide +kernel
theorem dX4_startApproach_2 : decode cX4_startApproach 2 = .ok (.invokevirtual 88, 3) := by decide +kernel
theorem dX4_startApproach_5 : decode cX4_startApproach 5 = .ok (.aload_n 0, 1) := by decide +kernel
theorem dX4_startApproach_6 : decode cX4_startApproach 6 = .ok (.iconst 0, 1) := by decide +kernel
theorem dX4_startApproach_7 : decode cX4_startApproach 7 = .ok (.putfield 69, 3) := by decide +kernel
theorem dX4_startApproach_10 : decode cX4_startApproach 10 = .ok (.return_, 1) := by decide +kernel
theorem dX4_hold_0 : decode cX4_hold 0 = .ok (.aload_n 0, 1) := by decide +kernel
theorem dX4_hold_1 : decode cX4_hold 1 = .ok (.iconst 2, 1) := by decide +kernel
theorem dX4_hold_2 : decode cX4_hold 2 = .ok (.putfield 63, 3) := by decide +kernel
theorem dX4_hold_5 : decode cX4_hold 5 = .ok (.aload_n 0, 1) := by decide +kernel
theorem dX4_hold_6 : decode cX4_hold 6 = .ok (.iload_n 1, 1) := by decide +kernel
theorem dX4_hold_7 : decode cX4_hold 7 = .ok (.putfield 16, 3) := by decide +kernel
theorem dX4_hold_10 : decode cX4_hold 10 = .ok (.aload_n 0, 1) := by decide +kernel
theorem dX4_hold_11 : decode cX4_hold 11 = .ok (.fload_n 2, 1) := by decide +kernel
theorem dX4_hold_12 : decode cX4_hold 12 = .ok (.putfield 66, 3) := by decide +kernel
theorem dX4_hold_15 : decode cX4_hold 15 = .ok (.return_, 1) := by decide +kernel
theorem dX4_hasArrived_0 : decode cX4_hasArrived 0 = .ok (.aload_n 0, 1) := by decide +kernel
theorem dX4_hasArrived_1 : decode cX4_hasArrived 1 = .ok (.getfield 63, 3) := by decide +kernel
theorem dX4_hasArrived_4 : decode cX4_hasArrived 4 = .ok (.iconst 4, 1) := by decide +kernel
theorem dX4_hasArrived_5 : decode cX4_hasArrived 5 = .ok (.if_icmp .eq 11, 3) := by decide +kernel
theorem dX4_hasArrived_8 : decode cX4_hasArrived 8 = .ok (.aload_n 0, 1) := by decide +kernel
theorem dX4_hasArrived_9 : decode cX4_hasArrived 9 = .ok (.getfield 63, 3) := by decide +kernel
theorem dX4_hasArrived_12 : decode cX4_hasArrived 12 = .ok (.iconst 5, 1) := by decide +kernel
theorem dX4_hasArrived_13 : decode cX4_hasArrived 13 = .ok (.if_icmp .ne 7, 3) := by decide +kernel
theorem dX4_hasArrived_16 : decode cX4_hasArrived 16 = .ok (.iconst 1, 1) := by decide +kernel
theorem dX4_hasArrived_17 : decode cX4_hasArrived 17 = .ok (.goto 4, 3) := by decide +kernel
theorem dX4_hasArrived_20 : decode cX4_hasArrived 20 = .ok (.iconst 0, 1) := by decide +kernel
theorem dX4_hasArrived_21 : decode cX4_hasArrived 21 = .ok (.ireturn, 1) := by decide +kernel
theorem dX4_errorOf_0 : decode cX4_errorOf 0 = .ok (.iload_n 1, 1) := by decide +kernel
theorem dX4_errorOf_1 : decode cX4_errorOf 1 = .ok (.lookupswitch 117 #[(98, 86), (102, 65), (103, 43), (111, 108)], 43) := by decide +kernel
theorem dX4_errorOf_44 : decode cX4_errorOf 44 = .ok (.aload_n 0, 1) := by decide +kernel
theorem dX4_errorOf_45 : decode cX4_errorOf 45 = .ok (.invokevirtual 95, 3) := by decide +kernel
theorem dX4_errorOf_48 : decode cX4_errorOf 48 = .ok (.ifCond .ne 11, 3) := by decide +kernel
theorem dX4_errorOf_51 : decode cX4_errorOf 51 = .ok (.aload_n 0, 1) := by decide +kernel
theorem dX4_errorOf_52 : decode cX4_errorOf 52 = .ok (.getfield 63, 3) := by decide +kernel
theorem dX4_errorOf_55 : decode cX4_errorOf 55 = .ok (.iconst 1, 1) := by decide +kernel
theorem dX4_errorOf_56 : decode cX4_errorOf 56 = .ok (.if_icmp .ne 8, 3) := by decide +kernel
theorem dX4_errorOf_59 : decode cX4_errorOf 59 = .ok (.bipush (-3), 2) := by decide +kernel
theorem dX4_errorOf_61 : decode cX4_errorOf 61 = .ok (.goto 4, 3) := by decide +kernel
theorem dX4_errorOf_64 : decode cX4_errorOf 64 = .ok (.iconst 0, 1) := by decide +kernel
theorem dX4_errorOf_65 : decode cX4_errorOf 65 = .ok (.ireturn, 1) := by decide +kernel
theorem dX4_errorOf_66 : decode cX4_errorOf 66 = .ok (.aload_n 0, 1) := by decide +kernel
theorem dX4_errorOf_67 : decode cX4_errorOf 67 = .ok (.invokevirtual 95, 3) := by decide +kernel
theorem dX4_errorOf_70 : decode cX4_errorOf 70 = .ok (.ifCond .ne 10, 3) := by decide +kernel
theorem dX4_errorOf_73 : decode cX4_errorOf 73 = .ok (.aload_n 0, 1) := by decide +kernel
theorem dX4_errorOf_74 : decode cX4_errorOf 74 = .ok (.getfield 63, 3) := by decide +kernel
theorem dX4_errorOf_77 : decode cX4_errorOf 77 = .ok (.ifCond .ne 8, 3) := by decide +kernel
theorem dX4_errorOf_80 : decode cX4_errorOf 80 = .ok (.bipush (-3), 2) := by decide +kernel
theorem dX4_errorOf_82 : decode cX4_errorOf 82 = .ok (.goto 4, 3) := by decide +kernel
theorem dX4_errorOf_85 : decode cX4_errorOf 85 = .ok (.iconst 0, 1) := by decide +kernel
theorem dX4_errorOf_86 : decode cX4_errorOf 86 = .ok (.ireturn, 1) := by decide +kernel
theorem dX4_errorOf_87 : decode cX4_errorOf 87 = .ok (.aload_n 0, 1) := by decide +kernel
theorem dX4_errorOf_88 : decode cX4_errorOf 88 = .ok (.invokevirtual 95, 3) := by decide +kernel
theorem dX4_errorOf_91 : decode cX4_errorOf 91 = .ok (.ifCond .ne 11, 3) := by decide +kernel
theorem dX4_errorOf_94 : decode cX4_errorOf 94 = .ok (.aload_n 0, 1) := by decide +kernel
theorem dX4_errorOf_95 : decode cX4_errorOf 95 = .ok (.getfield 63, 3) := by decide +kernel
theorem dX4_errorOf_98 : decode cX4_errorOf 98 = .ok (.iconst 3, 1) := by decide +kernel
theorem dX4_errorOf_99 : decode cX4_errorOf 99 = .ok (.if_icmp .ne 8, 3) := by decide +kernel
theorem dX4_errorOf_102 : decode cX4_errorOf 102 = .ok (.bipush (-3), 2) := by decide +kernel
theorem dX4_errorOf_104 : decode cX4_errorOf 104 = .ok (.goto 4, 3) := by decide +kernel
theorem dX4_errorOf_107 : decode cX4_errorOf 107 = .ok (.iconst 0, 1) := by decide +kernel
theorem dX4_errorOf_108 : decode cX4_errorOf 108 = .ok (.ireturn, 1) := by decide +kernel
theorem dX4_errorOf_109 : decode cX4_errorOf 109 = .ok (.aload_n 0, 1) := by decide +kernel
theorem dX4_errorOf_110 : decode cX4_errorOf 110 = .ok (.getfield 43, 3) := by decide +kernel
theorem dX4_errorOf_113 : decode cX4_errorOf 113 = .ok (.iload_n 2, 1) := by decide +kernel
theorem dX4_errorOf_114 : decode cX4_errorOf 114 = .ok (.invokevirtual 99, 3) := by decide +kernel
theorem dX4_errorOf_117 : decode cX4_errorOf 117 = .ok (.ireturn, 1) := by decide +kernel
theorem dX4_errorOf_118 : decode cX4_errorOf 118 = .ok (.iload_n 2, 1) := by decide +kernel
theorem dX4_errorOf_119 : decode cX4_errorOf 119 = .ok (.iconst 1, 1) := by decide +kernel
theorem dX4_errorOf_120 : decode cX4_errorOf 120 = .ok (.if_icmp .lt 10, 3) := by decide +kernel
theorem dX4_errorOf_123 : decode cX4_errorOf 123 = .ok (.iload_n 2, 1) := by decide +kernel
theorem dX4_errorOf_124 : decode cX4_errorOf 124 = .ok (.sipush 200, 3) := by decide +kernel
theorem dX4_errorOf_127 : decode cX4_errorOf 127 = .ok (.if_icmp .le 8, 3) := by decide +kernel
theorem dX4_errorOf_130 : decode cX4_errorOf 130 = .ok (.bipush (-2), 2) := by decide +kernel
theorem dX4_errorOf_132 : decode cX4_errorOf 132 = .ok (.goto 4, 3) := by decide +kernel
theorem dX4_errorOf_135 : decode cX4_errorOf 135 = .ok (.iconst 0, 1) := by decide +kernel
theorem dX4_errorOf_136 : decode cX4_errorOf 136 = .ok (.ireturn, 1) := by decide +kernel
theorem dX4_carryOut_0 : decode cX4_carryOut 0 = .ok (.iload_n 1, 1) := by decide +kernel
theorem dX4_carryOut_1 : decode cX4_carryOut 1 = .ok (.lookupswitch 100 #[(98, 62), (102, 52), (103, 43), (111, 72)], 43) := by decide +kernel
theorem dX4_carryOut_44 : decode cX4_carryOut 44 = .ok (.aload_n 0, 1) := by decide +kernel
theorem dX4_carryOut_45 : decode cX4_carryOut 45 = .ok (.invokevirtual 103, 3) := by decide +kernel
theorem dX4_carryOut_48 : decode cX4_carryOut 48 = .ok (.aload_n 0, 1) := by decide +kernel
theorem dX4_carryOut_49 : decode cX4_carryOut 49 = .ok (.invokevirtual 106, 3) := by decide +kernel
theorem dX4_carryOut_52 : decode cX4_carryOut 52 = .ok (.ireturn, 1) := by decide +kernel
theorem dX4_carryOut_53 : decode cX4_carryOut 53 = .ok (.aload_n 0, 1) := by decide +kernel
theorem dX4_carryOut_54 : decode cX4_carryOut 54 = .ok (.iconst 0, 1) := by decide +kernel
theorem dX4_carryOut_55 : decode cX4_carryOut 55 = .ok (.invokevirtual 88, 3) := by decide +kernel
theorem dX4_carryOut_58 : decode cX4_carryOut 58 = .ok (.aload_n 0, 1) := by decide +kernel
theorem dX4_carryOut_59 : decode cX4_carryOut 59 = .ok (.invokevirtual 106, 3) := by decide +kernel
theorem dX4_carryOut_62 : decode cX4_carryOut 62 = .ok (.ireturn, 1) := by decide +kernel
theorem dX4_carryOut_63 : decode cX4_carryOut 63 = .ok (.aload_n 0, 1) := by decide +kernel
theorem dX4_carryOut_64 : decode cX4_carryOut 64 = .ok (.iconst 3, 1) := by decide +kernel
theorem dX4_carryOut_65 : decode cX4_carryOut 65 = .ok (.invokevirtual 88, 3) := by decide +kernel
theorem dX4_carryOut_68 : decode cX4_carryOut 68 = .ok (.aload_n 0, 1) := by decide +kernel
theorem dX4_carryOut_69 : decode cX4_carryOut 69 = .ok (.invokevirtual 106, 3) := by decide +kernel
theorem dX4_carryOut_72 : decode cX4_carryOut 72 = .ok (.ireturn, 1) := by decide +kernel
theorem dX4_carryOut_73 : decode cX4_carryOut 73 = .ok (.aload_n 0, 1) := by decide +kernel
theorem dX4_carryOut_74 : decode cX4_carryOut 74 = .ok (.getfield 43, 3) := by decide +kernel
theorem dX4_carryOut_77 : decode cX4_carryOut 77 = .ok (.iload_n 2, 1) := by decide +kernel
theorem dX4_carryOut_78 : decode cX4_carryOut 78 = .ok (.invokevirtual 110, 3) := by decide +kernel
theorem dX4_carryOut_81 : decode cX4_carryOut 81 = .ok (.aload_n 0, 1) := by decide +kernel
theorem dX4_carryOut_82 : decode cX4_carryOut 82 = .ok (.getfield 16, 3) := by decide +kernel
theorem dX4_carryOut_85 : decode cX4_carryOut 85 = .ok (.iload_n 2, 1) := by decide +kernel
theorem dX4_carryOut_86 : decode cX4_carryOut 86 = .ok (.if_icmp .ne 7, 3) := by decide +kernel
theorem dX4_carryOut_89 : decode cX4_carryOut 89 = .ok (.aload_n 0, 1) := by decide +kernel
theorem dX4_carryOut_90 : decode cX4_carryOut 90 = .ok (.invokevirtual 103, 3) := by decide +kernel
theorem dX4_carryOut_93 : decode cX4_carryOut 93 = .ok (.aload_n 0, 1) := by decide +kernel
theorem dX4_carryOut_94 : decode cX4_carryOut 94 = .ok (.getfield 43, 3) := by decide +kernel
theorem dX4_carryOut_97 : decode cX4_carryOut 97 = .ok (.invokevirtual 113, 3) := by decide +kernel
theorem dX4_carryOut_100 : decode cX4_carryOut 100 = .ok (.ireturn, 1) := by decide +kernel
theorem dX4_carryOut_101 : decode cX4_carryOut 101 = .ok (.iconst 0, 1) := by decide +kernel
theorem dX4_carryOut_102 : decode cX4_carryOut 102 = .ok (.istore_n 3, 1) := by decide +kernel
theorem dX4_carryOut_103 : decode cX4_carryOut 103 = .ok (.iload_n 3, 1) := by decide +kernel
theorem dX4_carryOut_104 : decode cX4_carryOut 104 = .ok (.iload_n 2, 1) := by decide +kernel
theorem dX4_carryOut_105 : decode cX4_carryOut 105 = .ok (.if_icmp .ge 13, 3) := by decide +kernel
theorem dX4_carryOut_108 : decode cX4_carryOut 108 = .ok (.aload_n 0, 1) := by decide +kernel
theorem dX4_carryOut_109 : decode cX4_carryOut 109 = .ok (.invokevirtual 116, 3) := by decide +kernel
theorem dX4_carryOut_112 : decode cX4_carryOut 112 = .ok (.iinc 3 1, 3) := by decide +kernel
theorem dX4_carryOut_115 : decode cX4_carryOut 115 = .ok (.goto (-12), 3) := by decide +kernel
theorem dX4_carryOut_118 : decode cX4_carryOut 118 = .ok (.aload_n 0, 1) := by decide +kernel
theorem dX4_carryOut_119 : decode cX4_carryOut 119 = .ok (.getfield 63, 3) := by decide +kernel
theorem dX4_carryOut_122 : decode cX4_carryOut 122 = .ok (.ireturn, 1) := by decide +kernel
theorem dX4_passSecond_0 : decode cX4_passSecond 0 = .ok (.aload_n 0, 1) := by decide +kernel
theorem dX4_passSecond_1 : decode cX4_passSecond 1 = .ok (.dup, 1) := by decide +kernel
theorem dX4_passSecond_2 : decode cX4_passSecond 2 = .ok (.getfield 72, 3) := by decide +kernel
theorem dX4_passSecond_5 : decode cX4_passSecond 5 = .ok (.iconst 1, 1) := by decide +kernel
theorem dX4_passSecond_6 : decode cX4_passSecond 6 = .ok (.iadd, 1) := by decide +kernel
theorem dX4_passSecond_7 : decode cX4_passSecond 7 = .ok (.putfield 72, 3) := by decide +kernel
theorem dX4_passSecond_10 : decode cX4_passSecond 10 = .ok (.aload_n 0, 1) := by decide +kernel
theorem dX4_passSecond_11 : decode cX4_passSecond 11 = .ok (.invokevirtual 95, 3) := by decide +kernel
theorem dX4_passSecond_14 : decode cX4_passSecond 14 = .ok (.ifCond .eq 4, 3) := by decide +kernel
theorem dX4_passSecond_17 : decode cX4_passSecond 17 = .ok (.return_, 1) := by decide +kernel
theorem dX4_passSecond_18 : decode cX4_passSecond 18 = .ok (.aload_n 0, 1) := by decide +kernel
theorem dX4_passSecond_19 : decode cX4_passSecond 19 = .ok (.getfield 63, 3) := by decide +kernel
end
section
theorem dX4_passSecond_22 : decode cX4_passSecond 22 = .ok (.ifCond .ne 7, 3) := by decide +kernel
theorem dX4_passSecond_25 : decode cX4_passSecond 25 = .ok (.fconst 0, 1) := by decide +kernel
theorem dX4_passSecond_26 : decode cX4_passSecond 26 = .ok (.goto 11, 3) := by decide +kernel
theorem dX4_passSecond_29 : decode cX4_passSecond 29 = .ok (.aload_n 0, 1) := by decide +kernel
theorem dX4_passSecond_30 : decode cX4_passSecond 30 = .ok (.aload_n 0, 1) := by decide +kernel
theorem dX4_passSecond_31 : decode cX4_passSecond 31 = .ok (.invokevirtual 119, 3) := by decide +kernel
theorem dX4_passSecond_34 : decode cX4_passSecond 34 = .ok (.invokevirtual 123, 3) := by decide +kernel
theorem dX4_passSecond_37 : decode cX4_passSecond 37 = .ok (.fstore_n 1, 1) := by decide +kernel
theorem dX4_passSecond_38 : decode cX4_passSecond 38 = .ok (.aload_n 0, 1) := by decide +kernel
theorem dX4_passSecond_39 : decode cX4_passSecond 39 = .ok (.getfield 63, 3) := by decide +kernel
theorem dX4_passSecond_42 : decode cX4_passSecond 42 = .ok (.ifCond .ne 7, 3) := by decide +kernel
theorem dX4_passSecond_45 : decode cX4_passSecond 45 = .ok (.fconst 0, 1) := by decide +kernel
theorem dX4_passSecond_46 : decode cX4_passSecond 46 = .ok (.goto 7, 3) := by decide +kernel
theorem dX4_passSecond_49 : decode cX4_passSecond 49 = .ok (.aload_n 0, 1) := by decide +kernel
theorem dX4_passSecond_50 : decode cX4_passSecond 50 = .ok (.invokevirtual 127, 3) := by decide +kernel
theorem dX4_passSecond_53 : decode cX4_passSecond 53 = .ok (.fstore_n 2, 1) := by decide +kernel
theorem dX4_passSecond_54 : decode cX4_passSecond 54 = .ok (.aload_n 0, 1) := by decide +kernel
theorem dX4_passSecond_55 : decode cX4_passSecond 55 = .ok (.aload_n 0, 1) := by decide +kernel
theorem dX4_passSecond_56 : decode cX4_passSecond 56 = .ok (.getfield 57, 3) := by decide +kernel
theorem dX4_passSecond_59 : decode cX4_passSecond 59 = .ok (.fload_n 1, 1) := by decide +kernel
theorem dX4_passSecond_60 : decode cX4_passSecond 60 = .ok (.fadd, 1) := by decide +kernel
theorem dX4_passSecond_61 : decode cX4_passSecond 61 = .ok (.putfield 57, 3) := by decide +kernel
theorem dX4_passSecond_64 : decode cX4_passSecond 64 = .ok (.aload_n 0, 1) := by decide +kernel
theorem dX4_passSecond_65 : decode cX4_passSecond 65 = .ok (.aload_n 0, 1) := by decide +kernel
theorem dX4_passSecond_66 : decode cX4_passSecond 66 = .ok (.getfield 60, 3) := by decide +kernel
theorem dX4_passSecond_69 : decode cX4_passSecond 69 = .ok (.fload_n 2, 1) := by decide +kernel
theorem dX4_passSecond_70 : decode cX4_passSecond 70 = .ok (.fadd, 1) := by decide +kernel
theorem dX4_passSecond_71 : decode cX4_passSecond 71 = .ok (.putfield 60, 3) := by decide +kernel
theorem dX4_passSecond_74 : decode cX4_passSecond 74 = .ok (.aload_n 0, 1) := by decide +kernel
theorem dX4_passSecond_75 : decode cX4_passSecond 75 = .ok (.aload_n 0, 1) := by decide +kernel
theorem dX4_passSecond_76 : decode cX4_passSecond 76 = .ok (.getfield 10, 3) := by decide +kernel
theorem dX4_passSecond_79 : decode cX4_passSecond 79 = .ok (.aload_n 0, 1) := by decide +kernel
theorem dX4_passSecond_80 : decode cX4_passSecond 80 = .ok (.getfield 57, 3) := by decide +kernel
theorem dX4_passSecond_83 : decode cX4_passSecond 83 = .ok (.fadd, 1) := by decide +kernel
theorem dX4_passSecond_84 : decode cX4_passSecond 84 = .ok (.putfield 10, 3) := by decide +kernel
theorem dX4_passSecond_87 : decode cX4_passSecond 87 = .ok (.aload_n 0, 1) := by decide +kernel
theorem dX4_passSecond_88 : decode cX4_passSecond 88 = .ok (.aload_n 0, 1) := by decide +kernel
theorem dX4_passSecond_89 : decode cX4_passSecond 89 = .ok (.getfield 54, 3) := by decide +kernel
theorem dX4_passSecond_92 : decode cX4_passSecond 92 = .ok (.aload_n 0, 1) := by decide +kernel
theorem dX4_passSecond_93 : decode cX4_passSecond 93 = .ok (.getfield 60, 3) := by decide +kernel
theorem dX4_passSecond_96 : decode cX4_passSecond 96 = .ok (.fadd, 1) := by decide +kernel
theorem dX4_passSecond_97 : decode cX4_passSecond 97 = .ok (.putfield 54, 3) := by decide +kernel
theorem dX4_passSecond_100 : decode cX4_passSecond 100 = .ok (.aload_n 0, 1) := by decide +kernel
theorem dX4_passSecond_101 : decode cX4_passSecond 101 = .ok (.getfield 10, 3) := by decide +kernel
theorem dX4_passSecond_104 : decode cX4_passSecond 104 = .ok (.fconst 0, 1) := by decide +kernel
theorem dX4_passSecond_105 : decode cX4_passSecond 105 = .ok (.fcmp .g, 1) := by decide +kernel
theorem dX4_passSecond_106 : decode cX4_passSecond 106 = .ok (.ifCond .gt 8, 3) := by decide +kernel
theorem dX4_passSecond_109 : decode cX4_passSecond 109 = .ok (.aload_n 0, 1) := by decide +kernel
theorem dX4_passSecond_110 : decode cX4_passSecond 110 = .ok (.invokevirtual 130, 3) := by decide +kernel
theorem dX4_passSecond_113 : decode cX4_passSecond 113 = .ok (.return_, 1) := by decide +kernel
theorem dX4_passSecond_114 : decode cX4_passSecond 114 = .ok (.aload_n 0, 1) := by decide +kernel
theorem dX4_passSecond_115 : decode cX4_passSecond 115 = .ok (.getfield 50, 3) := by decide +kernel
theorem dX4_passSecond_118 : decode cX4_passSecond 118 = .ok (.aload_n 0, 1) := by decide +kernel
theorem dX4_passSecond_119 : decode cX4_passSecond 119 = .ok (.getfield 10, 3) := by decide +kernel
theorem dX4_passSecond_122 : decode cX4_passSecond 122 = .ok (.invokevirtual 133, 3) := by decide +kernel
theorem dX4_passSecond_125 : decode cX4_passSecond 125 = .ok (.aload_n 0, 1) := by decide +kernel
theorem dX4_passSecond_126 : decode cX4_passSecond 126 = .ok (.getfield 63, 3) := by decide +kernel
theorem dX4_passSecond_129 : decode cX4_passSecond 129 = .ok (.iconst 1, 1) := by decide +kernel
theorem dX4_passSecond_130 : decode cX4_passSecond 130 = .ok (.if_icmp .ne 7, 3) := by decide +kernel
theorem dX4_passSecond_133 : decode cX4_passSecond 133 = .ok (.aload_n 0, 1) := by decide +kernel
theorem dX4_passSecond_134 : decode cX4_passSecond 134 = .ok (.invokevirtual 137, 3) := by decide +kernel
theorem dX4_passSecond_137 : decode cX4_passSecond 137 = .ok (.aload_n 0, 1) := by decide +kernel
theorem dX4_passSecond_138 : decode cX4_passSecond 138 = .ok (.getfield 63, 3) := by decide +kernel
theorem dX4_passSecond_141 : decode cX4_passSecond 141 = .ok (.iconst 1, 1) := by decide +kernel
theorem dX4_passSecond_142 : decode cX4_passSecond 142 = .ok (.if_icmp .ne 14, 3) := by decide +kernel
theorem dX4_passSecond_145 : decode cX4_passSecond 145 = .ok (.aload_n 0, 1) := by decide +kernel
theorem dX4_passSecond_146 : decode cX4_passSecond 146 = .ok (.aload_n 0, 1) := by decide +kernel
theorem dX4_passSecond_147 : decode cX4_passSecond 147 = .ok (.invokevirtual 106, 3) := by decide +kernel
theorem dX4_passSecond_150 : decode cX4_passSecond 150 = .ok (.invokevirtual 140, 3) := by decide +kernel
theorem dX4_passSecond_153 : decode cX4_passSecond 153 = .ok (.goto 38, 3) := by decide +kernel
theorem dX4_passSecond_156 : decode cX4_passSecond 156 = .ok (.aload_n 0, 1) := by decide +kernel
theorem dX4_passSecond_157 : decode cX4_passSecond 157 = .ok (.getfield 63, 3) := by decide +kernel
theorem dX4_passSecond_160 : decode cX4_passSecond 160 = .ok (.iconst 3, 1) := by decide +kernel
theorem dX4_passSecond_161 : decode cX4_passSecond 161 = .ok (.if_icmp .ne 30, 3) := by decide +kernel
theorem dX4_passSecond_164 : decode cX4_passSecond 164 = .ok (.aload_n 0, 1) := by decide +kernel
theorem dX4_passSecond_165 : decode cX4_passSecond 165 = .ok (.getfield 10, 3) := by decide +kernel
theorem dX4_passSecond_168 : decode cX4_passSecond 168 = .ok (.ldc 143, 2) := by decide +kernel
theorem dX4_passSecond_170 : decode cX4_passSecond 170 = .ok (.fcmp .l, 1) := by decide +kernel
theorem dX4_passSecond_171 : decode cX4_passSecond 171 = .ok (.ifCond .le 20, 3) := by decide +kernel
theorem dX4_passSecond_174 : decode cX4_passSecond 174 = .ok (.aload_n 0, 1) := by decide +kernel
theorem dX4_passSecond_175 : decode cX4_passSecond 175 = .ok (.invokevirtual 106, 3) := by decide +kernel
theorem dX4_passSecond_178 : decode cX4_passSecond 178 = .ok (.ifCond .ne 13, 3) := by decide +kernel
theorem dX4_passSecond_181 : decode cX4_passSecond 181 = .ok (.aload_n 0, 1) := by decide +kernel
theorem dX4_passSecond_182 : decode cX4_passSecond 182 = .ok (.bipush (-5), 2) := by decide +kernel
theorem dX4_passSecond_184 : decode cX4_passSecond 184 = .ok (.aload_n 0, 1) := by decide +kernel
theorem dX4_passSecond_185 : decode cX4_passSecond 185 = .ok (.getfield 10, 3) := by decide +kernel
theorem dX4_passSecond_188 : decode cX4_passSecond 188 = .ok (.invokevirtual 144, 3) := by decide +kernel
theorem dX4_passSecond_191 : decode cX4_passSecond 191 = .ok (.return_, 1) := by decide +kernel
theorem dX4_accelerationAlong_0 : decode cX4_accelerationAlong 0 = .ok (.aload_n 0, 1) := by decide +kernel
theorem dX4_accelerationAlong_1 : decode cX4_accelerationAlong 1 = .ok (.fload_n 1, 1) := by decide +kernel
theorem dX4_accelerationAlong_2 : decode cX4_accelerationAlong 2 = .ok (.aload_n 0, 1) := by decide +kernel
theorem dX4_accelerationAlong_3 : decode cX4_accelerationAlong 3 = .ok (.getfield 57, 3) := by decide +kernel
theorem dX4_accelerationAlong_6 : decode cX4_accelerationAlong 6 = .ok (.fsub, 1) := by decide +kernel
theorem dX4_accelerationAlong_7 : decode cX4_accelerationAlong 7 = .ok (.invokevirtual 148, 3) := by decide +kernel
theorem dX4_accelerationAlong_10 : decode cX4_accelerationAlong 10 = .ok (.fstore_n 2, 1) := by decide +kernel
theorem dX4_accelerationAlong_11 : decode cX4_accelerationAlong 11 = .ok (.aload_n 0, 1) := by decide +kernel
theorem dX4_accelerationAlong_12 : decode cX4_accelerationAlong 12 = .ok (.getfield 20, 3) := by decide +kernel
theorem dX4_accelerationAlong_15 : decode cX4_accelerationAlong 15 = .ok (.iconst 5, 1) := by decide +kernel
theorem dX4_accelerationAlong_16 : decode cX4_accelerationAlong 16 = .ok (.iaload, 1) := by decide +kernel
theorem dX4_accelerationAlong_17 : decode cX4_accelerationAlong 17 = .ok (.i2f, 1) := by decide +kernel
theorem dX4_accelerationAlong_18 : decode cX4_accelerationAlong 18 = .ok (.ldc 151, 2) := by decide +kernel
theorem dX4_accelerationAlong_20 : decode cX4_accelerationAlong 20 = .ok (.fdiv, 1) := by decide +kernel
theorem dX4_accelerationAlong_21 : decode cX4_accelerationAlong 21 = .ok (.fstore_n 3, 1) := by decide +kernel
theorem dX4_accelerationAlong_22 : decode cX4_accelerationAlong 22 = .ok (.fload_n 2, 1) := by decide +kernel
theorem dX4_accelerationAlong_23 : decode cX4_accelerationAlong 23 = .ok (.fload_n 3, 1) := by decide +kernel
theorem dX4_accelerationAlong_24 : decode cX4_accelerationAlong 24 = .ok (.fcmp .l, 1) := by decide +kernel
theorem dX4_accelerationAlong_25 : decode cX4_accelerationAlong 25 = .ok (.ifCond .le 25, 3) := by decide +kernel
theorem dX4_accelerationAlong_28 : decode cX4_accelerationAlong 28 = .ok (.aload_n 0, 1) := by decide +kernel
theorem dX4_accelerationAlong_29 : decode cX4_accelerationAlong 29 = .ok (.getfield 10, 3) := by decide +kernel
theorem dX4_accelerationAlong_32 : decode cX4_accelerationAlong 32 = .ok (.aload_n 0, 1) := by decide +kernel
theorem dX4_accelerationAlong_33 : decode cX4_accelerationAlong 33 = .ok (.getfield 20, 3) := by decide +kernel
theorem dX4_accelerationAlong_36 : decode cX4_accelerationAlong 36 = .ok (.iconst 3, 1) := by decide +kernel
theorem dX4_accelerationAlong_37 : decode cX4_accelerationAlong 37 = .ok (.iaload, 1) := by decide +kernel
theorem dX4_accelerationAlong_38 : decode cX4_accelerationAlong 38 = .ok (.i2f, 1) := by decide +kernel
theorem dX4_accelerationAlong_39 : decode cX4_accelerationAlong 39 = .ok (.ldc 9, 2) := by decide +kernel
theorem dX4_accelerationAlong_41 : decode cX4_accelerationAlong 41 = .ok (.fdiv, 1) := by decide +kernel
theorem dX4_accelerationAlong_42 : decode cX4_accelerationAlong 42 = .ok (.fcmp .g, 1) := by decide +kernel
theorem dX4_accelerationAlong_43 : decode cX4_accelerationAlong 43 = .ok (.ifCond .ge 7, 3) := by decide +kernel
theorem dX4_accelerationAlong_46 : decode cX4_accelerationAlong 46 = .ok (.fload_n 3, 1) := by decide +kernel
theorem dX4_accelerationAlong_47 : decode cX4_accelerationAlong 47 = .ok (.goto 4, 3) := by decide +kernel
theorem dX4_accelerationAlong_50 : decode cX4_accelerationAlong 50 = .ok (.fload_n 2, 1) := by decide +kernel
theorem dX4_accelerationAlong_51 : decode cX4_accelerationAlong 51 = .ok (.freturn, 1) := by decide +kernel
theorem dX4_accelerationAcross_0 : decode cX4_accelerationAcross 0 = .ok (.aload_n 0, 1) := by decide +kernel
theorem dX4_accelerationAcross_1 : decode cX4_accelerationAcross 1 = .ok (.fconst 0, 1) := by decide +kernel
theorem dX4_accelerationAcross_2 : decode cX4_accelerationAcross 2 = .ok (.aload_n 0, 1) := by decide +kernel
theorem dX4_accelerationAcross_3 : decode cX4_accelerationAcross 3 = .ok (.getfield 54, 3) := by decide +kernel
theorem dX4_accelerationAcross_6 : decode cX4_accelerationAcross 6 = .ok (.ldc 152, 2) := by decide +kernel
theorem dX4_accelerationAcross_8 : decode cX4_accelerationAcross 8 = .ok (.fmul, 1) := by decide +kernel
theorem dX4_accelerationAcross_9 : decode cX4_accelerationAcross 9 = .ok (.fsub, 1) := by decide +kernel
theorem dX4_accelerationAcross_10 : decode cX4_accelerationAcross 10 = .ok (.aload_n 0, 1) := by decide +kernel
theorem dX4_accelerationAcross_11 : decode cX4_accelerationAcross 11 = .ok (.getfield 60, 3) := by decide +kernel
theorem dX4_accelerationAcross_14 : decode cX4_accelerationAcross 14 = .ok (.fsub, 1) := by decide +kernel
theorem dX4_accelerationAcross_15 : decode cX4_accelerationAcross 15 = .ok (.invokevirtual 148, 3) := by decide +kernel
theorem dX4_accelerationAcross_18 : decode cX4_accelerationAcross 18 = .ok (.freturn, 1) := by decide +kernel
theorem dX4_heldToGreatest_0 : decode cX4_heldToGreatest 0 = .ok (.aload_n 0, 1) := by decide +kernel
theorem dX4_heldToGreatest_1 : decode cX4_heldToGreatest 1 = .ok (.getfield 20, 3) := by decide +kernel
theorem dX4_heldToGreatest_4 : decode cX4_heldToGreatest 4 = .ok (.iconst 4, 1) := by decide +kernel
theorem dX4_heldToGreatest_5 : decode cX4_heldToGreatest 5 = .ok (.iaload, 1) := by decide +kernel
theorem dX4_heldToGreatest_6 : decode cX4_heldToGreatest 6 = .ok (.i2f, 1) := by decide +kernel
theorem dX4_heldToGreatest_7 : decode cX4_heldToGreatest 7 = .ok (.ldc 151, 2) := by decide +kernel
theorem dX4_heldToGreatest_9 : decode cX4_heldToGreatest 9 = .ok (.fdiv, 1) := by decide +kernel
theorem dX4_heldToGreatest_10 : decode cX4_heldToGreatest 10 = .ok (.fstore_n 2, 1) := by decide +kernel
theorem dX4_heldToGreatest_11 : decode cX4_heldToGreatest 11 = .ok (.fload_n 1, 1) := by decide +kernel
theorem dX4_heldToGreatest_12 : decode cX4_heldToGreatest 12 = .ok (.fload_n 2, 1) := by decide +kernel
theorem dX4_heldToGreatest_13 : decode cX4_heldToGreatest 13 = .ok (.fneg, 1) := by decide +kernel
theorem dX4_heldToGreatest_14 : decode cX4_heldToGreatest 14 = .ok (.fcmp .g, 1) := by decide +kernel
theorem dX4_heldToGreatest_15 : decode cX4_heldToGreatest 15 = .ok (.ifCond .ge 6, 3) := by decide +kernel
theorem dX4_heldToGreatest_18 : decode cX4_heldToGreatest 18 = .ok (.fload_n 2, 1) := by decide +kernel
theorem dX4_heldToGreatest_19 : decode cX4_heldToGreatest 19 = .ok (.fneg, 1) := by decide +kernel
theorem dX4_heldToGreatest_20 : decode cX4_heldToGreatest 20 = .ok (.freturn, 1) := by decide +kernel
theorem dX4_heldToGreatest_21 : decode cX4_heldToGreatest 21 = .ok (.fload_n 1, 1) := by decide +kernel
theorem dX4_heldToGreatest_22 : decode cX4_heldToGreatest 22 = .ok (.fload_n 2, 1) := by decide +kernel
theorem dX4_heldToGreatest_23 : decode cX4_heldToGreatest 23 = .ok (.fcmp .l, 1) := by decide +kernel
theorem dX4_heldToGreatest_24 : decode cX4_heldToGreatest 24 = .ok (.ifCond .le 7, 3) := by decide +kernel
theorem dX4_heldToGreatest_27 : decode cX4_heldToGreatest 27 = .ok (.fload_n 2, 1) := by decide +kernel
theorem dX4_heldToGreatest_28 : decode cX4_heldToGreatest 28 = .ok (.goto 4, 3) := by decide +kernel
theorem dX4_heldToGreatest_31 : decode cX4_heldToGreatest 31 = .ok (.fload_n 1, 1) := by decide +kernel
theorem dX4_heldToGreatest_32 : decode cX4_heldToGreatest 32 = .ok (.freturn, 1) := by decide +kernel
theorem dX4_wantedSpeed_0 : decode cX4_wantedSpeed 0 = .ok (.aload_n 0, 1) := by decide +kernel
theorem dX4_wantedSpeed_1 : decode cX4_wantedSpeed 1 = .ok (.getfield 63, 3) := by decide +kernel
theorem dX4_wantedSpeed_4 : decode cX4_wantedSpeed 4 = .ok (.iconst 2, 1) := by decide +kernel
theorem dX4_wantedSpeed_5 : decode cX4_wantedSpeed 5 = .ok (.if_icmp .ne 16, 3) := by decide +kernel
theorem dX4_wantedSpeed_8 : decode cX4_wantedSpeed 8 = .ok (.aload_n 0, 1) := by decide +kernel
theorem dX4_wantedSpeed_9 : decode cX4_wantedSpeed 9 = .ok (.getfield 66, 3) := by decide +kernel
theorem dX4_wantedSpeed_12 : decode cX4_wantedSpeed 12 = .ok (.aload_n 0, 1) := by decide +kernel
theorem dX4_wantedSpeed_13 : decode cX4_wantedSpeed 13 = .ok (.getfield 10, 3) := by decide +kernel
theorem dX4_wantedSpeed_16 : decode cX4_wantedSpeed 16 = .ok (.fsub, 1) := by decide +kernel
theorem dX4_wantedSpeed_17 : decode cX4_wantedSpeed 17 = .ok (.ldc 153, 2) := by decide +kernel
theorem dX4_wantedSpeed_19 : decode cX4_wantedSpeed 19 = .ok (.fmul, 1) := by decide +kernel
theorem dX4_wantedSpeed_20 : decode cX4_wantedSpeed 20 = .ok (.freturn, 1) := by decide +kernel
theorem dX4_wantedSpeed_21 : decode cX4_wantedSpeed 21 = .ok (.aload_n 0, 1) := by decide +kernel
theorem dX4_wantedSpeed_22 : decode cX4_wantedSpeed 22 = .ok (.getfield 36, 3) := by decide +kernel
theorem dX4_wantedSpeed_25 : decode cX4_wantedSpeed 25 = .ok (.aload_n 0, 1) := by decide +kernel
theorem dX4_wantedSpeed_26 : decode cX4_wantedSpeed 26 = .ok (.getfield 50, 3) := by decide +kernel
theorem dX4_wantedSpeed_29 : decode cX4_wantedSpeed 29 = .ok (.aload_n 0, 1) := by decide +kernel
theorem dX4_wantedSpeed_30 : decode cX4_wantedSpeed 30 = .ok (.getfield 10, 3) := by decide +kernel
theorem dX4_wantedSpeed_33 : decode cX4_wantedSpeed 33 = .ok (.invokevirtual 154, 3) := by decide +kernel
theorem dX4_wantedSpeed_36 : decode cX4_wantedSpeed 36 = .ok (.invokevirtual 157, 3) := by decide +kernel
theorem dX4_wantedSpeed_39 : decode cX4_wantedSpeed 39 = .ok (.fstore_n 1, 1) := by decide +kernel
theorem dX4_wantedSpeed_40 : decode cX4_wantedSpeed 40 = .ok (.aload_n 0, 1) := by decide +kernel
theorem dX4_wantedSpeed_41 : decode cX4_wantedSpeed 41 = .ok (.getfield 63, 3) := by decide +kernel
theorem dX4_wantedSpeed_44 : decode cX4_wantedSpeed 44 = .ok (.iconst 3, 1) := by decide +kernel
theorem dX4_wantedSpeed_45 : decode cX4_wantedSpeed 45 = .ok (.if_icmp .ne 5, 3) := by decide +kernel
theorem dX4_wantedSpeed_48 : decode cX4_wantedSpeed 48 = .ok (.fload_n 1, 1) := by decide +kernel
theorem dX4_wantedSpeed_49 : decode cX4_wantedSpeed 49 = .ok (.freturn, 1) := by decide +kernel
theorem dX4_wantedSpeed_50 : decode cX4_wantedSpeed 50 = .ok (.aload_n 0, 1) := by decide +kernel
theorem dX4_wantedSpeed_51 : decode cX4_wantedSpeed 51 = .ok (.getfield 43, 3) := by decide +kernel
theorem dX4_wantedSpeed_54 : decode cX4_wantedSpeed 54 = .ok (.aload_n 0, 1) := by decide +kernel
theorem dX4_wantedSpeed_55 : decode cX4_wantedSpeed 55 = .ok (.getfield 10, 3) := by decide +kernel
theorem dX4_wantedSpeed_58 : decode cX4_wantedSpeed 58 = .ok (.invokevirtual 160, 3) := by decide +kernel
theorem dX4_wantedSpeed_61 : decode cX4_wantedSpeed 61 = .ok (.istore_n 2, 1) := by decide +kernel
theorem dX4_wantedSpeed_62 : decode cX4_wantedSpeed 62 = .ok (.aload_n 0, 1) := by decide +kernel
theorem dX4_wantedSpeed_63 : decode cX4_wantedSpeed 63 = .ok (.getfield 43, 3) := by decide +kernel
theorem dX4_wantedSpeed_66 : decode cX4_wantedSpeed 66 = .ok (.iload_n 2, 1) := by decide +kernel
theorem dX4_wantedSpeed_67 : decode cX4_wantedSpeed 67 = .ok (.invokevirtual 164, 3) := by decide +kernel
theorem dX4_wantedSpeed_70 : decode cX4_wantedSpeed 70 = .ok (.ifCond .ne 6, 3) := by decide +kernel
theorem dX4_wantedSpeed_73 : decode cX4_wantedSpeed 73 = .ok (.fload_n 1, 1) := by decide +kernel
theorem dX4_wantedSpeed_74 : decode cX4_wantedSpeed 74 = .ok (.fneg, 1) := by decide +kernel
theorem dX4_wantedSpeed_75 : decode cX4_wantedSpeed 75 = .ok (.freturn, 1) := by decide +kernel
theorem dX4_wantedSpeed_76 : decode cX4_wantedSpeed 76 = .ok (.fconst 0, 1) := by decide +kernel
theorem dX4_wantedSpeed_77 : decode cX4_wantedSpeed 77 = .ok (.aload_n 0, 1) := by decide +kernel
theorem dX4_wantedSpeed_78 : decode cX4_wantedSpeed 78 = .ok (.getfield 10, 3) := by decide +kernel
theorem dX4_wantedSpeed_81 : decode cX4_wantedSpeed 81 = .ok (.aload_n 0, 1) := by decide +kernel
theorem dX4_wantedSpeed_82 : decode cX4_wantedSpeed 82 = .ok (.getfield 43, 3) := by decide +kernel
theorem dX4_wantedSpeed_85 : decode cX4_wantedSpeed 85 = .ok (.iload_n 2, 1) := by decide +kernel
theorem dX4_wantedSpeed_86 : decode cX4_wantedSpeed 86 = .ok (.invokevirtual 168, 3) := by decide +kernel
theorem dX4_wantedSpeed_89 : decode cX4_wantedSpeed 89 = .ok (.fsub, 1) := by decide +kernel
theorem dX4_wantedSpeed_90 : decode cX4_wantedSpeed 90 = .ok (.ldc 153, 2) := by decide +kernel
theorem dX4_wantedSpeed_92 : decode cX4_wantedSpeed 92 = .ok (.fmul, 1) := by decide +kernel
theorem dX4_wantedSpeed_93 : decode cX4_wantedSpeed 93 = .ok (.fsub, 1) := by decide +kernel
theorem dX4_wantedSpeed_94 : decode cX4_wantedSpeed 94 = .ok (.fstore_n 3, 1) := by decide +kernel
theorem dX4_wantedSpeed_95 : decode cX4_wantedSpeed 95 = .ok (.fload_n 3, 1) := by decide +kernel
theorem dX4_wantedSpeed_96 : decode cX4_wantedSpeed 96 = .ok (.fload_n 1, 1) := by decide +kernel
theorem dX4_wantedSpeed_97 : decode cX4_wantedSpeed 97 = .ok (.fneg, 1) := by decide +kernel
theorem dX4_wantedSpeed_98 : decode cX4_wantedSpeed 98 = .ok (.fcmp .l, 1) := by decide +kernel
theorem dX4_wantedSpeed_99 : decode cX4_wantedSpeed 99 = .ok (.ifCond .le 7, 3) := by decide +kernel
theorem dX4_wantedSpeed_102 : decode cX4_wantedSpeed 102 = .ok (.fload_n 3, 1) := by decide +kernel
theorem dX4_wantedSpeed_103 : decode cX4_wantedSpeed 103 = .ok (.goto 5, 3) := by decide +kernel
theorem dX4_wantedSpeed_106 : decode cX4_wantedSpeed 106 = .ok (.fload_n 1, 1) := by decide +kernel
theorem dX4_wantedSpeed_107 : decode cX4_wantedSpeed 107 = .ok (.fneg, 1) := by decide +kernel
theorem dX4_wantedSpeed_108 : decode cX4_wantedSpeed 108 = .ok (.freturn, 1) := by decide +kernel
theorem dX4_arrive_0 : decode cX4_arrive 0 = .ok (.aload_n 0, 1) := by decide +kernel
theorem dX4_arrive_1 : decode cX4_arrive 1 = .ok (.getfield 57, 3) := by decide +kernel
theorem dX4_arrive_4 : decode cX4_arrive 4 = .ok (.invokestatic 172, 3) := by decide +kernel
theorem dX4_arrive_7 : decode cX4_arrive 7 = .ok (.aload_n 0, 1) := by decide +kernel
theorem dX4_arrive_8 : decode cX4_arrive 8 = .ok (.getfield 20, 3) := by decide +kernel
theorem dX4_arrive_11 : decode cX4_arrive 11 = .ok (.bipush 7, 2) := by decide +kernel
theorem dX4_arrive_13 : decode cX4_arrive 13 = .ok (.iaload, 1) := by decide +kernel
theorem dX4_arrive_14 : decode cX4_arrive 14 = .ok (.i2f, 1) := by decide +kernel
theorem dX4_arrive_15 : decode cX4_arrive 15 = .ok (.ldc 151, 2) := by decide +kernel
theorem dX4_arrive_17 : decode cX4_arrive 17 = .ok (.fdiv, 1) := by decide +kernel
theorem dX4_arrive_18 : decode cX4_arrive 18 = .ok (.fcmp .g, 1) := by decide +kernel
theorem dX4_arrive_19 : decode cX4_arrive 19 = .ok (.ifCond .gt 28, 3) := by decide +kernel
theorem dX4_arrive_22 : decode cX4_arrive 22 = .ok (.aload_n 0, 1) := by decide +kernel
theorem dX4_arrive_23 : decode cX4_arrive 23 = .ok (.getfield 54, 3) := by decide +kernel
theorem dX4_arrive_26 : decode cX4_arrive 26 = .ok (.invokestatic 172, 3) := by decide +kernel
theorem dX4_arrive_29 : decode cX4_arrive 29 = .ok (.aload_n 0, 1) := by decide +kernel
theorem dX4_arrive_30 : decode cX4_arrive 30 = .ok (.getfield 20, 3) := by decide +kernel
theorem dX4_arrive_33 : decode cX4_arrive 33 = .ok (.iconst 1, 1) := by decide +kernel
theorem dX4_arrive_34 : decode cX4_arrive 34 = .ok (.iaload, 1) := by decide +kernel
theorem dX4_arrive_35 : decode cX4_arrive 35 = .ok (.i2f, 1) := by decide +kernel
theorem dX4_arrive_36 : decode cX4_arrive 36 = .ok (.ldc 9, 2) := by decide +kernel
theorem dX4_arrive_38 : decode cX4_arrive 38 = .ok (.fdiv, 1) := by decide +kernel
theorem dX4_arrive_39 : decode cX4_arrive 39 = .ok (.fcmp .g, 1) := by decide +kernel
theorem dX4_arrive_40 : decode cX4_arrive 40 = .ok (.ifCond .gt 7, 3) := by decide +kernel
theorem dX4_arrive_43 : decode cX4_arrive 43 = .ok (.iconst 1, 1) := by decide +kernel
theorem dX4_arrive_44 : decode cX4_arrive 44 = .ok (.goto 4, 3) := by decide +kernel
theorem dX4_arrive_47 : decode cX4_arrive 47 = .ok (.iconst 0, 1) := by decide +kernel
theorem dX4_arrive_48 : decode cX4_arrive 48 = .ok (.istore_n 1, 1) := by decide +kernel
theorem dX4_arrive_49 : decode cX4_arrive 49 = .ok (.aload_n 0, 1) := by decide +kernel
theorem dX4_arrive_50 : decode cX4_arrive 50 = .ok (.iload_n 1, 1) := by decide +kernel
theorem dX4_arrive_51 : decode cX4_arrive 51 = .ok (.ifCond .eq 7, 3) := by decide +kernel
theorem dX4_arrive_54 : decode cX4_arrive 54 = .ok (.iconst 4, 1) := by decide +kernel
theorem dX4_arrive_55 : decode cX4_arrive 55 = .ok (.goto 4, 3) := by decide +kernel
theorem dX4_arrive_58 : decode cX4_arrive 58 = .ok (.iconst 5, 1) := by decide +kernel
theorem dX4_arrive_59 : decode cX4_arrive 59 = .ok (.invokevirtual 88, 3) := by decide +kernel
theorem dX4_arrive_62 : decode cX4_arrive 62 = .ok (.aload_n 0, 1) := by decide +kernel
theorem dX4_arrive_63 : decode cX4_arrive 63 = .ok (.fconst 0, 1) := by decide +kernel
theorem dX4_arrive_64 : decode cX4_arrive 64 = .ok (.putfield 10, 3) := by decide +kernel
theorem dX4_arrive_67 : decode cX4_arrive 67 = .ok (.aload_n 0, 1) := by decide +kernel
theorem dX4_arrive_68 : decode cX4_arrive 68 = .ok (.fconst 0, 1) := by decide +kernel
theorem dX4_arrive_69 : decode cX4_arrive 69 = .ok (.putfield 57, 3) := by decide +kernel
theorem dX4_arrive_72 : decode cX4_arrive 72 = .ok (.aload_n 0, 1) := by decide +kernel
theorem dX4_arrive_73 : decode cX4_arrive 73 = .ok (.fconst 0, 1) := by decide +kernel
theorem dX4_arrive_74 : decode cX4_arrive 74 = .ok (.putfield 60, 3) := by decide +kernel
theorem dX4_arrive_77 : decode cX4_arrive 77 = .ok (.return_, 1) := by decide +kernel
theorem dX4_holdAtStopReached_0 : decode cX4_holdAtStopReached 0 = .ok (.aload_n 0, 1) := by decide +kernel
theorem dX4_holdAtStopReached_1 : decode cX4_holdAtStopReached 1 = .ok (.getfield 57, 3) := by decide +kernel
theorem dX4_holdAtStopReached_4 : decode cX4_holdAtStopReached 4 = .ok (.invokestatic 172, 3) := by decide +kernel
theorem dX4_holdAtStopReached_7 : decode cX4_holdAtStopReached 7 = .ok (.ldc 152, 2) := by decide +kernel
theorem dX4_holdAtStopReached_9 : decode cX4_holdAtStopReached 9 = .ok (.fcmp .g, 1) := by decide +kernel
theorem dX4_holdAtStopReached_10 : decode cX4_holdAtStopReached 10 = .ok (.ifCond .ge 17, 3) := by decide +kernel
theorem dX4_holdAtStopReached_13 : decode cX4_holdAtStopReached 13 = .ok (.aload_n 0, 1) := by decide +kernel
theorem dX4_holdAtStopReached_14 : decode cX4_holdAtStopReached 14 = .ok (.getfield 43, 3) := by decide +kernel
theorem dX4_holdAtStopReached_17 : decode cX4_holdAtStopReached 17 = .ok (.aload_n 0, 1) := by decide +kernel
theorem dX4_holdAtStopReached_18 : decode cX4_holdAtStopReached 18 = .ok (.getfield 10, 3) := by decide +kernel
theorem dX4_holdAtStopReached_21 : decode cX4_holdAtStopReached 21 = .ok (.invokevirtual 175, 3) := by decide +kernel
theorem dX4_holdAtStopReached_24 : decode cX4_holdAtStopReached 24 = .ok (.goto 5, 3) := by decide +kernel
theorem dX4_holdAtStopReached_27 : decode cX4_holdAtStopReached 27 = .ok (.bipush (-5), 2) := by decide +kernel
theorem dX4_holdAtStopReached_29 : decode cX4_holdAtStopReached 29 = .ok (.istore_n 1, 1) := by decide +kernel
theorem dX4_holdAtStopReached_30 : decode cX4_holdAtStopReached 30 = .ok (.aload_n 0, 1) := by decide +kernel
theorem dX4_holdAtStopReached_31 : decode cX4_holdAtStopReached 31 = .ok (.getfield 43, 3) := by decide +kernel
theorem dX4_holdAtStopReached_34 : decode cX4_holdAtStopReached 34 = .ok (.iload_n 1, 1) := by decide +kernel
theorem dX4_holdAtStopReached_35 : decode cX4_holdAtStopReached 35 = .ok (.invokevirtual 164, 3) := by decide +kernel
theorem dX4_holdAtStopReached_38 : decode cX4_holdAtStopReached 38 = .ok (.ifCond .eq 16, 3) := by decide +kernel
theorem dX4_holdAtStopReached_41 : decode cX4_holdAtStopReached 41 = .ok (.aload_n 0, 1) := by decide +kernel
theorem dX4_holdAtStopReached_42 : decode cX4_holdAtStopReached 42 = .ok (.iload_n 1, 1) := by decide +kernel
theorem dX4_holdAtStopReached_43 : decode cX4_holdAtStopReached 43 = .ok (.aload_n 0, 1) := by decide +kernel
theorem dX4_holdAtStopReached_44 : decode cX4_holdAtStopReached 44 = .ok (.getfield 43, 3) := by decide +kernel
theorem dX4_holdAtStopReached_47 : decode cX4_holdAtStopReached 47 = .ok (.iload_n 1, 1) := by decide +kernel
theorem dX4_holdAtStopReached_48 : decode cX4_holdAtStopReached 48 = .ok (.invokevirtual 168, 3) := by decide +kernel
theorem dX4_holdAtStopReached_51 : decode cX4_holdAtStopReached 51 = .ok (.invokevirtual 144, 3) := by decide +kernel
theorem dX4_holdAtStopReached_54 : decode cX4_holdAtStopReached 54 = .ok (.return_, 1) := by decide +kernel
theorem dX4_countStrikes_0 : decode cX4_countStrikes 0 = .ok (.aload_n 0, 1) := by decide +kernel
theorem dX4_countStrikes_1 : decode cX4_countStrikes 1 = .ok (.iload_n 1, 1) := by decide +kernel
theorem dX4_countStrikes_2 : decode cX4_countStrikes 2 = .ok (.ifCond .ne 7, 3) := by decide +kernel
theorem dX4_countStrikes_5 : decode cX4_countStrikes 5 = .ok (.iconst 0, 1) := by decide +kernel
theorem dX4_countStrikes_6 : decode cX4_countStrikes 6 = .ok (.goto 9, 3) := by decide +kernel
theorem dX4_countStrikes_9 : decode cX4_countStrikes 9 = .ok (.aload_n 0, 1) := by decide +kernel
theorem dX4_countStrikes_10 : decode cX4_countStrikes 10 = .ok (.getfield 69, 3) := by decide +kernel
theorem dX4_countStrikes_13 : decode cX4_countStrikes 13 = .ok (.iconst 1, 1) := by decide +kernel
theorem dX4_countStrikes_14 : decode cX4_countStrikes 14 = .ok (.iadd, 1) := by decide +kernel
theorem dX4_countStrikes_15 : decode cX4_countStrikes 15 = .ok (.putfield 69, 3) := by decide +kernel
theorem dX4_countStrikes_18 : decode cX4_countStrikes 18 = .ok (.aload_n 0, 1) := by decide +kernel
theorem dX4_countStrikes_19 : decode cX4_countStrikes 19 = .ok (.getfield 69, 3) := by decide +kernel
theorem dX4_countStrikes_22 : decode cX4_countStrikes 22 = .ok (.iconst 2, 1) := by decide +kernel
theorem dX4_countStrikes_23 : decode cX4_countStrikes 23 = .ok (.if_icmp .ne 23, 3) := by decide +kernel
theorem dX4_countStrikes_26 : decode cX4_countStrikes 26 = .ok (.aload_n 0, 1) := by decide +kernel
theorem dX4_countStrikes_27 : decode cX4_countStrikes 27 = .ok (.iconst 3, 1) := by decide +kernel
theorem dX4_countStrikes_28 : decode cX4_countStrikes 28 = .ok (.invokevirtual 88, 3) := by decide +kernel
theorem dX4_countStrikes_31 : decode cX4_countStrikes 31 = .ok (.aload_n 0, 1) := by decide +kernel
theorem dX4_countStrikes_32 : decode cX4_countStrikes 32 = .ok (.iconst 0, 1) := by decide +kernel
theorem dX4_countStrikes_33 : decode cX4_countStrikes 33 = .ok (.putfield 69, 3) := by decide +kernel
theorem dX4_countStrikes_36 : decode cX4_countStrikes 36 = .ok (.aload_n 0, 1) := by decide +kernel
theorem dX4_countStrikes_37 : decode cX4_countStrikes 37 = .ok (.dup, 1) := by decide +kernel
theorem dX4_countStrikes_38 : decode cX4_countStrikes 38 = .ok (.getfield 75, 3) := by decide +kernel
theorem dX4_countStrikes_41 : decode cX4_countStrikes 41 = .ok (.iconst 1, 1) := by decide +kernel
theorem dX4_countStrikes_42 : decode cX4_countStrikes 42 = .ok (.iadd, 1) := by decide +kernel
theorem dX4_countStrikes_43 : decode cX4_countStrikes 43 = .ok (.putfield 75, 3) := by decide +kernel
theorem dX4_countStrikes_46 : decode cX4_countStrikes 46 = .ok (.return_, 1) := by decide +kernel
theorem dX4_judge_0 : decode cX4_judge 0 = .ok (.iconst 0, 1) := by decide +kernel
theorem dX4_judge_1 : decode cX4_judge 1 = .ok (.istore_n 1, 1) := by decide +kernel
theorem dX4_judge_2 : decode cX4_judge 2 = .ok (.aload_n 0, 1) := by decide +kernel
theorem dX4_judge_3 : decode cX4_judge 3 = .ok (.getfield 54, 3) := by decide +kernel
theorem dX4_judge_6 : decode cX4_judge 6 = .ok (.invokestatic 172, 3) := by decide +kernel
theorem dX4_judge_9 : decode cX4_judge 9 = .ok (.aload_n 0, 1) := by decide +kernel
theorem dX4_judge_10 : decode cX4_judge 10 = .ok (.getfield 10, 3) := by decide +kernel
theorem dX4_judge_13 : decode cX4_judge 13 = .ok (.aload_n 0, 1) := by decide +kernel
theorem dX4_judge_14 : decode cX4_judge 14 = .ok (.getfield 20, 3) := by decide +kernel
theorem dX4_judge_17 : decode cX4_judge 17 = .ok (.iconst 0, 1) := by decide +kernel
theorem dX4_judge_18 : decode cX4_judge 18 = .ok (.iaload, 1) := by decide +kernel
theorem dX4_judge_19 : decode cX4_judge 19 = .ok (.i2f, 1) := by decide +kernel
theorem dX4_judge_20 : decode cX4_judge 20 = .ok (.ldc 151, 2) := by decide +kernel
theorem dX4_judge_22 : decode cX4_judge 22 = .ok (.fdiv, 1) := by decide +kernel
theorem dX4_judge_23 : decode cX4_judge 23 = .ok (.fmul, 1) := by decide +kernel
theorem dX4_judge_24 : decode cX4_judge 24 = .ok (.aload_n 0, 1) := by decide +kernel
theorem dX4_judge_25 : decode cX4_judge 25 = .ok (.getfield 20, 3) := by decide +kernel
theorem dX4_judge_28 : decode cX4_judge 28 = .ok (.iconst 1, 1) := by decide +kernel
theorem dX4_judge_29 : decode cX4_judge 29 = .ok (.iaload, 1) := by decide +kernel
theorem dX4_judge_30 : decode cX4_judge 30 = .ok (.i2f, 1) := by decide +kernel
theorem dX4_judge_31 : decode cX4_judge 31 = .ok (.ldc 9, 2) := by decide +kernel
theorem dX4_judge_33 : decode cX4_judge 33 = .ok (.fdiv, 1) := by decide +kernel
theorem dX4_judge_34 : decode cX4_judge 34 = .ok (.fadd, 1) := by decide +kernel
theorem dX4_judge_35 : decode cX4_judge 35 = .ok (.fcmp .l, 1) := by decide +kernel
theorem dX4_judge_36 : decode cX4_judge 36 = .ok (.ifCond .le 7, 3) := by decide +kernel
theorem dX4_judge_39 : decode cX4_judge 39 = .ok (.iload_n 1, 1) := by decide +kernel
theorem dX4_judge_40 : decode cX4_judge 40 = .ok (.iconst 1, 1) := by decide +kernel
theorem dX4_judge_41 : decode cX4_judge 41 = .ok (.iadd, 1) := by decide +kernel
theorem dX4_judge_42 : decode cX4_judge 42 = .ok (.istore_n 1, 1) := by decide +kernel
theorem dX4_judge_43 : decode cX4_judge 43 = .ok (.aload_n 0, 1) := by decide +kernel
theorem dX4_judge_44 : decode cX4_judge 44 = .ok (.aload_n 0, 1) := by decide +kernel
theorem dX4_judge_45 : decode cX4_judge 45 = .ok (.getfield 57, 3) := by decide +kernel
theorem dX4_judge_48 : decode cX4_judge 48 = .ok (.invokevirtual 178, 3) := by decide +kernel
theorem dX4_judge_51 : decode cX4_judge 51 = .ok (.ifCond .eq 7, 3) := by decide +kernel
theorem dX4_judge_54 : decode cX4_judge 54 = .ok (.iload_n 1, 1) := by decide +kernel
theorem dX4_judge_55 : decode cX4_judge 55 = .ok (.iconst 2, 1) := by decide +kernel
theorem dX4_judge_56 : decode cX4_judge 56 = .ok (.iadd, 1) := by decide +kernel
theorem dX4_judge_57 : decode cX4_judge 57 = .ok (.istore_n 1, 1) := by decide +kernel
theorem dX4_judge_58 : decode cX4_judge 58 = .ok (.aload_n 0, 1) := by decide +kernel
theorem dX4_judge_59 : decode cX4_judge 59 = .ok (.aload_n 0, 1) := by decide +kernel
theorem dX4_judge_60 : decode cX4_judge 60 = .ok (.getfield 57, 3) := by decide +kernel
theorem dX4_judge_63 : decode cX4_judge 63 = .ok (.invokevirtual 182, 3) := by decide +kernel
theorem dX4_judge_66 : decode cX4_judge 66 = .ok (.ifCond .eq 7, 3) := by decide +kernel
theorem dX4_judge_69 : decode cX4_judge 69 = .ok (.iload_n 1, 1) := by decide +kernel
theorem dX4_judge_70 : decode cX4_judge 70 = .ok (.iconst 4, 1) := by decide +kernel
theorem dX4_judge_71 : decode cX4_judge 71 = .ok (.iadd, 1) := by decide +kernel
theorem dX4_judge_72 : decode cX4_judge 72 = .ok (.istore_n 1, 1) := by decide +kernel
theorem dX4_judge_73 : decode cX4_judge 73 = .ok (.iload_n 1, 1) := by decide +kernel
theorem dX4_judge_74 : decode cX4_judge 74 = .ok (.ireturn, 1) := by decide +kernel
theorem dX4_isTooFast_0 : decode cX4_isTooFast 0 = .ok (.fconst 0, 1) := by decide +kernel
theorem dX4_isTooFast_1 : decode cX4_isTooFast 1 = .ok (.fload_n 1, 1) := by decide +kernel
theorem dX4_isTooFast_2 : decode cX4_isTooFast 2 = .ok (.fsub, 1) := by decide +kernel
theorem dX4_isTooFast_3 : decode cX4_isTooFast 3 = .ok (.aload_n 0, 1) := by decide +kernel
theorem dX4_isTooFast_4 : decode cX4_isTooFast 4 = .ok (.getfield 36, 3) := by decide +kernel
theorem dX4_isTooFast_7 : decode cX4_isTooFast 7 = .ok (.aload_n 0, 1) := by decide +kernel
theorem dX4_isTooFast_8 : decode cX4_isTooFast 8 = .ok (.getfield 10, 3) := by decide +kernel
theorem dX4_isTooFast_11 : decode cX4_isTooFast 11 = .ok (.invokevirtual 157, 3) := by decide +kernel
theorem dX4_isTooFast_14 : decode cX4_isTooFast 14 = .ok (.ldc 185, 2) := by decide +kernel
theorem dX4_isTooFast_16 : decode cX4_isTooFast 16 = .ok (.fadd, 1) := by decide +kernel
theorem dX4_isTooFast_17 : decode cX4_isTooFast 17 = .ok (.fcmp .l, 1) := by decide +kernel
theorem dX4_isTooFast_18 : decode cX4_isTooFast 18 = .ok (.ifCond .le 7, 3) := by decide +kernel
theorem dX4_isTooFast_21 : decode cX4_isTooFast 21 = .ok (.iconst 1, 1) := by decide +kernel
theorem dX4_isTooFast_22 : decode cX4_isTooFast 22 = .ok (.goto 4, 3) := by decide +kernel
theorem dX4_isTooFast_25 : decode cX4_isTooFast 25 = .ok (.iconst 0, 1) := by decide +kernel
theorem dX4_isTooFast_26 : decode cX4_isTooFast 26 = .ok (.ireturn, 1) := by decide +kernel
theorem dX4_hasUnsafeDrift_0 : decode cX4_hasUnsafeDrift 0 = .ok (.aload_n 0, 1) := by decide +kernel
theorem dX4_hasUnsafeDrift_1 : decode cX4_hasUnsafeDrift 1 = .ok (.getfield 20, 3) := by decide +kernel
theorem dX4_hasUnsafeDrift_4 : decode cX4_hasUnsafeDrift 4 = .ok (.iconst 0, 1) := by decide +kernel
theorem dX4_hasUnsafeDrift_5 : decode cX4_hasUnsafeDrift 5 = .ok (.iaload, 1) := by decide +kernel
theorem dX4_hasUnsafeDrift_6 : decode cX4_hasUnsafeDrift 6 = .ok (.i2f, 1) := by decide +kernel
theorem dX4_hasUnsafeDrift_7 : decode cX4_hasUnsafeDrift 7 = .ok (.ldc 151, 2) := by decide +kernel
theorem dX4_hasUnsafeDrift_9 : decode cX4_hasUnsafeDrift 9 = .ok (.fdiv, 1) := by decide +kernel
theorem dX4_hasUnsafeDrift_10 : decode cX4_hasUnsafeDrift 10 = .ok (.fstore_n 2, 1) := by decide +kernel
theorem dX4_hasUnsafeDrift_11 : decode cX4_hasUnsafeDrift 11 = .ok (.aload_n 0, 1) := by decide +kernel
theorem dX4_hasUnsafeDrift_12 : decode cX4_hasUnsafeDrift 12 = .ok (.getfield 20, 3) := by decide +kernel
theorem dX4_hasUnsafeDrift_15 : decode cX4_hasUnsafeDrift 15 = .ok (.iconst 1, 1) := by decide +kernel
theorem dX4_hasUnsafeDrift_16 : decode cX4_hasUnsafeDrift 16 = .ok (.iaload, 1) := by decide +kernel
theorem dX4_hasUnsafeDrift_17 : decode cX4_hasUnsafeDrift 17 = .ok (.i2f, 1) := by decide +kernel
theorem dX4_hasUnsafeDrift_18 : decode cX4_hasUnsafeDrift 18 = .ok (.ldc 9, 2) := by decide +kernel
theorem dX4_hasUnsafeDrift_20 : decode cX4_hasUnsafeDrift 20 = .ok (.fdiv, 1) := by decide +kernel
theorem dX4_hasUnsafeDrift_21 : decode cX4_hasUnsafeDrift 21 = .ok (.fstore_n 3, 1) := by decide +kernel
theorem dX4_hasUnsafeDrift_22 : decode cX4_hasUnsafeDrift 22 = .ok (.aload_n 0, 1) := by decide +kernel
theorem dX4_hasUnsafeDrift_23 : decode cX4_hasUnsafeDrift 23 = .ok (.getfield 20, 3) := by decide +kernel
theorem dX4_hasUnsafeDrift_26 : decode cX4_hasUnsafeDrift 26 = .ok (.iconst 2, 1) := by decide +kernel
theorem dX4_hasUnsafeDrift_27 : decode cX4_hasUnsafeDrift 27 = .ok (.iaload, 1) := by decide +kernel
theorem dX4_hasUnsafeDrift_28 : decode cX4_hasUnsafeDrift 28 = .ok (.i2f, 1) := by decide +kernel
theorem dX4_hasUnsafeDrift_29 : decode cX4_hasUnsafeDrift 29 = .ok (.ldc 9, 2) := by decide +kernel
theorem dX4_hasUnsafeDrift_31 : decode cX4_hasUnsafeDrift 31 = .ok (.fdiv, 1) := by decide +kernel
theorem dX4_hasUnsafeDrift_32 : decode cX4_hasUnsafeDrift 32 = .ok (.fstore 4, 2) := by decide +kernel
theorem dX4_hasUnsafeDrift_34 : decode cX4_hasUnsafeDrift 34 = .ok (.fload 4, 2) := by decide +kernel
theorem dX4_hasUnsafeDrift_36 : decode cX4_hasUnsafeDrift 36 = .ok (.fload 4, 2) := by decide +kernel
theorem dX4_hasUnsafeDrift_38 : decode cX4_hasUnsafeDrift 38 = .ok (.fmul, 1) := by decide +kernel
theorem dX4_hasUnsafeDrift_39 : decode cX4_hasUnsafeDrift 39 = .ok (.fstore 5, 2) := by decide +kernel
theorem dX4_hasUnsafeDrift_41 : decode cX4_hasUnsafeDrift 41 = .ok (.aload_n 0, 1) := by decide +kernel
theorem dX4_hasUnsafeDrift_42 : decode cX4_hasUnsafeDrift 42 = .ok (.getfield 10, 3) := by decide +kernel
theorem dX4_hasUnsafeDrift_45 : decode cX4_hasUnsafeDrift 45 = .ok (.fstore 6, 2) := by decide +kernel
theorem dX4_hasUnsafeDrift_47 : decode cX4_hasUnsafeDrift 47 = .ok (.aload_n 0, 1) := by decide +kernel
theorem dX4_hasUnsafeDrift_48 : decode cX4_hasUnsafeDrift 48 = .ok (.getfield 54, 3) := by decide +kernel
theorem dX4_hasUnsafeDrift_51 : decode cX4_hasUnsafeDrift 51 = .ok (.fstore 7, 2) := by decide +kernel
theorem dX4_hasUnsafeDrift_53 : decode cX4_hasUnsafeDrift 53 = .ok (.iconst 0, 1) := by decide +kernel
theorem dX4_hasUnsafeDrift_54 : decode cX4_hasUnsafeDrift 54 = .ok (.istore 8, 2) := by decide +kernel
theorem dX4_hasUnsafeDrift_56 : decode cX4_hasUnsafeDrift 56 = .ok (.iload 8, 2) := by decide +kernel
theorem dX4_hasUnsafeDrift_58 : decode cX4_hasUnsafeDrift 58 = .ok (.aload_n 0, 1) := by decide +kernel
theorem dX4_hasUnsafeDrift_59 : decode cX4_hasUnsafeDrift 59 = .ok (.getfield 20, 3) := by decide +kernel
theorem dX4_hasUnsafeDrift_62 : decode cX4_hasUnsafeDrift 62 = .ok (.bipush 6, 2) := by decide +kernel
theorem dX4_hasUnsafeDrift_64 : decode cX4_hasUnsafeDrift 64 = .ok (.iaload, 1) := by decide +kernel
theorem dX4_hasUnsafeDrift_65 : decode cX4_hasUnsafeDrift 65 = .ok (.if_icmp .ge 65, 3) := by decide +kernel
theorem dX4_hasUnsafeDrift_68 : decode cX4_hasUnsafeDrift 68 = .ok (.fload 6, 2) := by decide +kernel
theorem dX4_hasUnsafeDrift_70 : decode cX4_hasUnsafeDrift 70 = .ok (.fload_n 1, 1) := by decide +kernel
theorem dX4_hasUnsafeDrift_71 : decode cX4_hasUnsafeDrift 71 = .ok (.fadd, 1) := by decide +kernel
theorem dX4_hasUnsafeDrift_72 : decode cX4_hasUnsafeDrift 72 = .ok (.fstore 6, 2) := by decide +kernel
theorem dX4_hasUnsafeDrift_74 : decode cX4_hasUnsafeDrift 74 = .ok (.fload 7, 2) := by decide +kernel
theorem dX4_hasUnsafeDrift_76 : decode cX4_hasUnsafeDrift 76 = .ok (.aload_n 0, 1) := by decide +kernel
theorem dX4_hasUnsafeDrift_77 : decode cX4_hasUnsafeDrift 77 = .ok (.getfield 60, 3) := by decide +kernel
theorem dX4_hasUnsafeDrift_80 : decode cX4_hasUnsafeDrift 80 = .ok (.fadd, 1) := by decide +kernel
theorem dX4_hasUnsafeDrift_81 : decode cX4_hasUnsafeDrift 81 = .ok (.fstore 7, 2) := by decide +kernel
theorem dX4_hasUnsafeDrift_83 : decode cX4_hasUnsafeDrift 83 = .ok (.fload 6, 2) := by decide +kernel
theorem dX4_hasUnsafeDrift_85 : decode cX4_hasUnsafeDrift 85 = .ok (.fload 6, 2) := by decide +kernel
theorem dX4_hasUnsafeDrift_87 : decode cX4_hasUnsafeDrift 87 = .ok (.fmul, 1) := by decide +kernel
theorem dX4_hasUnsafeDrift_88 : decode cX4_hasUnsafeDrift 88 = .ok (.fload 7, 2) := by decide +kernel
theorem dX4_hasUnsafeDrift_90 : decode cX4_hasUnsafeDrift 90 = .ok (.fload 7, 2) := by decide +kernel
theorem dX4_hasUnsafeDrift_92 : decode cX4_hasUnsafeDrift 92 = .ok (.fmul, 1) := by decide +kernel
theorem dX4_hasUnsafeDrift_93 : decode cX4_hasUnsafeDrift 93 = .ok (.fadd, 1) := by decide +kernel
theorem dX4_hasUnsafeDrift_94 : decode cX4_hasUnsafeDrift 94 = .ok (.fload 5, 2) := by decide +kernel
theorem dX4_hasUnsafeDrift_96 : decode cX4_hasUnsafeDrift 96 = .ok (.fcmp .g, 1) := by decide +kernel
theorem dX4_hasUnsafeDrift_97 : decode cX4_hasUnsafeDrift 97 = .ok (.ifCond .ge 27, 3) := by decide +kernel
theorem dX4_hasUnsafeDrift_100 : decode cX4_hasUnsafeDrift 100 = .ok (.fload 7, 2) := by decide +kernel
theorem dX4_hasUnsafeDrift_102 : decode cX4_hasUnsafeDrift 102 = .ok (.invokestatic 172, 3) := by decide +kernel
theorem dX4_hasUnsafeDrift_105 : decode cX4_hasUnsafeDrift 105 = .ok (.fload 6, 2) := by decide +kernel
theorem dX4_hasUnsafeDrift_107 : decode cX4_hasUnsafeDrift 107 = .ok (.fload_n 2, 1) := by decide +kernel
theorem dX4_hasUnsafeDrift_108 : decode cX4_hasUnsafeDrift 108 = .ok (.fmul, 1) := by decide +kernel
theorem dX4_hasUnsafeDrift_109 : decode cX4_hasUnsafeDrift 109 = .ok (.fload_n 3, 1) := by decide +kernel
theorem dX4_hasUnsafeDrift_110 : decode cX4_hasUnsafeDrift 110 = .ok (.fadd, 1) := by decide +kernel
theorem dX4_hasUnsafeDrift_111 : decode cX4_hasUnsafeDrift 111 = .ok (.fcmp .l, 1) := by decide +kernel
theorem dX4_hasUnsafeDrift_112 : decode cX4_hasUnsafeDrift 112 = .ok (.ifCond .gt 10, 3) := by decide +kernel
theorem dX4_hasUnsafeDrift_115 : decode cX4_hasUnsafeDrift 115 = .ok (.fload 6, 2) := by decide +kernel
theorem dX4_hasUnsafeDrift_117 : decode cX4_hasUnsafeDrift 117 = .ok (.fconst 0, 1) := by decide +kernel
theorem dX4_hasUnsafeDrift_118 : decode cX4_hasUnsafeDrift 118 = .ok (.fcmp .g, 1) := by decide +kernel
theorem dX4_hasUnsafeDrift_119 : decode cX4_hasUnsafeDrift 119 = .ok (.ifCond .ge 5, 3) := by decide +kernel
theorem dX4_hasUnsafeDrift_122 : decode cX4_hasUnsafeDrift 122 = .ok (.iconst 1, 1) := by decide +kernel
theorem dX4_hasUnsafeDrift_123 : decode cX4_hasUnsafeDrift 123 = .ok (.ireturn, 1) := by decide +kernel
theorem dX4_hasUnsafeDrift_124 : decode cX4_hasUnsafeDrift 124 = .ok (.iinc 8 1, 3) := by decide +kernel
theorem dX4_hasUnsafeDrift_127 : decode cX4_hasUnsafeDrift 127 = .ok (.goto (-71), 3) := by decide +kernel
theorem dX4_hasUnsafeDrift_130 : decode cX4_hasUnsafeDrift 130 = .ok (.iconst 0, 1) := by decide +kernel
theorem dX4_hasUnsafeDrift_131 : decode cX4_hasUnsafeDrift 131 = .ok (.ireturn, 1) := by decide +kernel
theorem dX4_leastSquare_0 : decode cX4_leastSquare 0 = .ok (.aload_n 0, 1) := by decide +kernel
theorem dX4_leastSquare_1 : decode cX4_leastSquare 1 = .ok (.getfield 10, 3) := by decide +kernel
theorem dX4_leastSquare_4 : decode cX4_leastSquare 4 = .ok (.fstore_n 2, 1) := by decide +kernel
theorem dX4_leastSquare_5 : decode cX4_leastSquare 5 = .ok (.aload_n 0, 1) := by decide +kernel
theorem dX4_leastSquare_6 : decode cX4_leastSquare 6 = .ok (.getfield 54, 3) := by decide +kernel
theorem dX4_leastSquare_9 : decode cX4_leastSquare 9 = .ok (.fstore_n 3, 1) := by decide +kernel
theorem dX4_leastSquare_10 : decode cX4_leastSquare 10 = .ok (.fload_n 2, 1) := by decide +kernel
theorem dX4_leastSquare_11 : decode cX4_leastSquare 11 = .ok (.fload_n 2, 1) := by decide +kernel
theorem dX4_leastSquare_12 : decode cX4_leastSquare 12 = .ok (.fmul, 1) := by decide +kernel
theorem dX4_leastSquare_13 : decode cX4_leastSquare 13 = .ok (.fload_n 3, 1) := by decide +kernel
theorem dX4_leastSquare_14 : decode cX4_leastSquare 14 = .ok (.fload_n 3, 1) := by decide +kernel
theorem dX4_leastSquare_15 : decode cX4_leastSquare 15 = .ok (.fmul, 1) := by decide +kernel
theorem dX4_leastSquare_16 : decode cX4_leastSquare 16 = .ok (.fadd, 1) := by decide +kernel
theorem dX4_leastSquare_17 : decode cX4_leastSquare 17 = .ok (.fstore 4, 2) := by decide +kernel
theorem dX4_leastSquare_19 : decode cX4_leastSquare 19 = .ok (.iconst 0, 1) := by decide +kernel
theorem dX4_leastSquare_20 : decode cX4_leastSquare 20 = .ok (.istore 5, 2) := by decide +kernel
theorem dX4_leastSquare_22 : decode cX4_leastSquare 22 = .ok (.iload 5, 2) := by decide +kernel
theorem dX4_leastSquare_24 : decode cX4_leastSquare 24 = .ok (.iload_n 1, 1) := by decide +kernel
theorem dX4_leastSquare_25 : decode cX4_leastSquare 25 = .ok (.if_icmp .ge 49, 3) := by decide +kernel
theorem dX4_leastSquare_28 : decode cX4_leastSquare 28 = .ok (.fload_n 2, 1) := by decide +kernel
theorem dX4_leastSquare_29 : decode cX4_leastSquare 29 = .ok (.aload_n 0, 1) := by decide +kernel
theorem dX4_leastSquare_30 : decode cX4_leastSquare 30 = .ok (.getfield 57, 3) := by decide +kernel
theorem dX4_leastSquare_33 : decode cX4_leastSquare 33 = .ok (.fadd, 1) := by decide +kernel
theorem dX4_leastSquare_34 : decode cX4_leastSquare 34 = .ok (.fstore_n 2, 1) := by decide +kernel
theorem dX4_leastSquare_35 : decode cX4_leastSquare 35 = .ok (.fload_n 3, 1) := by decide +kernel
theorem dX4_leastSquare_36 : decode cX4_leastSquare 36 = .ok (.aload_n 0, 1) := by decide +kernel
theorem dX4_leastSquare_37 : decode cX4_leastSquare 37 = .ok (.getfield 60, 3) := by decide +kernel
theorem dX4_leastSquare_40 : decode cX4_leastSquare 40 = .ok (.fadd, 1) := by decide +kernel
theorem dX4_leastSquare_41 : decode cX4_leastSquare 41 = .ok (.fstore_n 3, 1) := by decide +kernel
theorem dX4_leastSquare_42 : decode cX4_leastSquare 42 = .ok (.fload_n 2, 1) := by decide +kernel
theorem dX4_leastSquare_43 : decode cX4_leastSquare 43 = .ok (.fload_n 2, 1) := by decide +kernel
theorem dX4_leastSquare_44 : decode cX4_leastSquare 44 = .ok (.fmul, 1) := by decide +kernel
theorem dX4_leastSquare_45 : decode cX4_leastSquare 45 = .ok (.fload_n 3, 1) := by decide +kernel
theorem dX4_leastSquare_46 : decode cX4_leastSquare 46 = .ok (.fload_n 3, 1) := by decide +kernel
theorem dX4_leastSquare_47 : decode cX4_leastSquare 47 = .ok (.fmul, 1) := by decide +kernel
theorem dX4_leastSquare_48 : decode cX4_leastSquare 48 = .ok (.fadd, 1) := by decide +kernel
theorem dX4_leastSquare_49 : decode cX4_leastSquare 49 = .ok (.fstore 6, 2) := by decide +kernel
theorem dX4_leastSquare_51 : decode cX4_leastSquare 51 = .ok (.fload 6, 2) := by decide +kernel
theorem dX4_leastSquare_53 : decode cX4_leastSquare 53 = .ok (.fload 4, 2) := by decide +kernel
theorem dX4_leastSquare_55 : decode cX4_leastSquare 55 = .ok (.fcmp .g, 1) := by decide +kernel
theorem dX4_leastSquare_56 : decode cX4_leastSquare 56 = .ok (.ifCond .ge 8, 3) := by decide +kernel
theorem dX4_leastSquare_59 : decode cX4_leastSquare 59 = .ok (.fload 6, 2) := by decide +kernel
theorem dX4_leastSquare_61 : decode cX4_leastSquare 61 = .ok (.goto 5, 3) := by decide +kernel
theorem dX4_leastSquare_64 : decode cX4_leastSquare 64 = .ok (.fload 4, 2) := by decide +kernel
theorem dX4_leastSquare_66 : decode cX4_leastSquare 66 = .ok (.fstore 4, 2) := by decide +kernel
theorem dX4_leastSquare_68 : decode cX4_leastSquare 68 = .ok (.iinc 5 1, 3) := by decide +kernel
theorem dX4_leastSquare_71 : decode cX4_leastSquare 71 = .ok (.goto (-49), 3) := by decide +kernel
theorem dX4_leastSquare_74 : decode cX4_leastSquare 74 = .ok (.fload 4, 2) := by decide +kernel
theorem dX4_leastSquare_76 : decode cX4_leastSquare 76 = .ok (.freturn, 1) := by decide +kernel
theorem dX5_init_0 : decode cX5_init 0 = .ok (.aload_n 0, 1) := by decide +kernel
theorem dX5_init_1 : decode cX5_init 1 = .ok (.invokespecial 3, 3) := by decide +kernel
theorem dX5_init_4 : decode cX5_init 4 = .ok (.aload_n 0, 1) := by decide +kernel
theorem dX5_init_5 : decode cX5_init 5 = .ok (.iconst 4, 1) := by decide +kernel
theorem dX5_init_6 : decode cX5_init 6 = .ok (.newarray .int, 2) := by decide +kernel
theorem dX5_init_8 : decode cX5_init 8 = .ok (.putfield 9, 3) := by decide +kernel
theorem dX5_init_11 : decode cX5_init 11 = .ok (.aload_n 0, 1) := by decide +kernel
theorem dX5_init_12 : decode cX5_init 12 = .ok (.iconst 4, 1) := by decide +kernel
theorem dX5_init_13 : decode cX5_init 13 = .ok (.newarray .boolean, 2) := by decide +kernel
theorem dX5_init_15 : decode cX5_init 15 = .ok (.putfield 15, 3) := by decide +kernel
theorem dX5_init_18 : decode cX5_init 18 = .ok (.return_, 1) := by decide +kernel
theorem dX5_copyFrom_0 : decode cX5_copyFrom 0 = .ok (.aload_n 0, 1) := by decide +kernel
theorem dX5_copyFrom_1 : decode cX5_copyFrom 1 = .ok (.aload_n 1, 1) := by decide +kernel
theorem dX5_copyFrom_2 : decode cX5_copyFrom 2 = .ok (.getfield 19, 3) := by decide +kernel
theorem dX5_copyFrom_5 : decode cX5_copyFrom 5 = .ok (.putfield 19, 3) := by decide +kernel
theorem dX5_copyFrom_8 : decode cX5_copyFrom 8 = .ok (.iconst 0, 1) := by decide +kernel
theorem dX5_copyFrom_9 : decode cX5_copyFrom 9 = .ok (.istore_n 2, 1) := by decide +kernel
theorem dX5_copyFrom_10 : decode cX5_copyFrom 10 = .ok (.iload_n 2, 1) := by decide +kernel
theorem dX5_copyFrom_11 : decode cX5_copyFrom 11 = .ok (.iconst 4, 1) := by decide +kernel
theorem dX5_copyFrom_12 : decode cX5_copyFrom 12 = .ok (.if_icmp .ge 33, 3) := by decide +kernel
theorem dX5_copyFrom_15 : decode cX5_copyFrom 15 = .ok (.aload_n 0, 1) := by decide +kernel
theorem dX5_copyFrom_16 : decode cX5_copyFrom 16 = .ok (.getfield 9, 3) := by decide +kernel
theorem dX5_copyFrom_19 : decode cX5_copyFrom 19 = .ok (.iload_n 2, 1) := by decide +kernel
theorem dX5_copyFrom_20 : decode cX5_copyFrom 20 = .ok (.aload_n 1, 1) := by decide +kernel
theorem dX5_copyFrom_21 : decode cX5_copyFrom 21 = .ok (.getfield 9, 3) := by decide +kernel
theorem dX5_copyFrom_24 : decode cX5_copyFrom 24 = .ok (.iload_n 2, 1) := by decide +kernel
theorem dX5_copyFrom_25 : decode cX5_copyFrom 25 = .ok (.iaload, 1) := by decide +kernel
theorem dX5_copyFrom_26 : decode cX5_copyFrom 26 = .ok (.iastore, 1) := by decide +kernel
theorem dX5_copyFrom_27 : decode cX5_copyFrom 27 = .ok (.aload_n 0, 1) := by decide +kernel
theorem dX5_copyFrom_28 : decode cX5_copyFrom 28 = .ok (.getfield 15, 3) := by decide +kernel
theorem dX5_copyFrom_31 : decode cX5_copyFrom 31 = .ok (.iload_n 2, 1) := by decide +kernel
theorem dX5_copyFrom_32 : decode cX5_copyFrom 32 = .ok (.aload_n 1, 1) := by decide +kernel
theorem dX5_copyFrom_33 : decode cX5_copyFrom 33 = .ok (.getfield 15, 3) := by decide +kernel
theorem dX5_copyFrom_36 : decode cX5_copyFrom 36 = .ok (.iload_n 2, 1) := by decide +kernel
theorem dX5_copyFrom_37 : decode cX5_copyFrom 37 = .ok (.baload, 1) := by decide +kernel
theorem dX5_copyFrom_38 : decode cX5_copyFrom 38 = .ok (.bastore, 1) := by decide +kernel
theorem dX5_copyFrom_39 : decode cX5_copyFrom 39 = .ok (.iinc 2 1, 3) := by decide +kernel
theorem dX5_copyFrom_42 : decode cX5_copyFrom 42 = .ok (.goto (-32), 3) := by decide +kernel
theorem dX5_copyFrom_45 : decode cX5_copyFrom 45 = .ok (.return_, 1) := by decide +kernel
theorem dX5_has_0 : decode cX5_has 0 = .ok (.iload_n 1, 1) := by decide +kernel
theorem dX5_has_1 : decode cX5_has 1 = .ok (.ifCond .lt 15, 3) := by decide +kernel
theorem dX5_has_4 : decode cX5_has 4 = .ok (.iload_n 1, 1) := by decide +kernel
theorem dX5_has_5 : decode cX5_has 5 = .ok (.aload_n 0, 1) := by decide +kernel
theorem dX5_has_6 : decode cX5_has 6 = .ok (.getfield 19, 3) := by decide +kernel
theorem dX5_has_9 : decode cX5_has 9 = .ok (.if_icmp .ge 7, 3) := by decide +kernel
theorem dX5_has_12 : decode cX5_has 12 = .ok (.iconst 1, 1) := by decide +kernel
theorem dX5_has_13 : decode cX5_has 13 = .ok (.goto 4, 3) := by decide +kernel
theorem dX5_has_16 : decode cX5_has 16 = .ok (.iconst 0, 1) := by decide +kernel
theorem dX5_has_17 : decode cX5_has 17 = .ok (.ireturn, 1) := by decide +kernel
theorem dX5_metres_0 : decode cX5_metres 0 = .ok (.aload_n 0, 1) := by decide +kernel
theorem dX5_metres_1 : decode cX5_metres 1 = .ok (.getfield 9, 3) := by decide +kernel
theorem dX5_metres_4 : decode cX5_metres 4 = .ok (.iload_n 1, 1) := by decide +kernel
theorem dX5_metres_5 : decode cX5_metres 5 = .ok (.iaload, 1) := by decide +kernel
theorem dX5_metres_6 : decode cX5_metres 6 = .ok (.i2f, 1) := by decide +kernel
theorem dX5_metres_7 : decode cX5_metres 7 = .ok (.ldc 23, 2) := by decide +kernel
theorem dX5_metres_9 : decode cX5_metres 9 = .ok (.fdiv, 1) := by decide +kernel
theorem dX5_metres_10 : decode cX5_metres 10 = .ok (.freturn, 1) := by decide +kernel
theorem dX5_addClosed_0 : decode cX5_addClosed 0 = .ok (.aload_n 0, 1) := by decide +kernel
theorem dX5_addClosed_1 : decode cX5_addClosed 1 = .ok (.getfield 19, 3) := by decide +kernel
theorem dX5_addClosed_4 : decode cX5_addClosed 4 = .ok (.istore_n 2, 1) := by decide +kernel
theorem dX5_addClosed_5 : decode cX5_addClosed 5 = .ok (.aload_n 0, 1) := by decide +kernel
theorem dX5_addClosed_6 : decode cX5_addClosed 6 = .ok (.getfield 9, 3) := by decide +kernel
theorem dX5_addClosed_9 : decode cX5_addClosed 9 = .ok (.iload_n 2, 1) := by decide +kernel
theorem dX5_addClosed_10 : decode cX5_addClosed 10 = .ok (.iload_n 1, 1) := by decide +kernel
theorem dX5_addClosed_11 : decode cX5_addClosed 11 = .ok (.iastore, 1) := by decide +kernel
theorem dX5_addClosed_12 : decode cX5_addClosed 12 = .ok (.aload_n 0, 1) := by decide +kernel
theorem dX5_addClosed_13 : decode cX5_addClosed 13 = .ok (.getfield 15, 3) := by decide +kernel
theorem dX5_addClosed_16 : decode cX5_addClosed 16 = .ok (.iload_n 2, 1) := by decide +kernel
theorem dX5_addClosed_17 : decode cX5_addClosed 17 = .ok (.iconst 0, 1) := by decide +kernel
theorem dX5_addClosed_18 : decode cX5_addClosed 18 = .ok (.bastore, 1) := by decide +kernel
theorem dX5_addClosed_19 : decode cX5_addClosed 19 = .ok (.aload_n 0, 1) := by decide +kernel
theorem dX5_addClosed_20 : decode cX5_addClosed 20 = .ok (.dup, 1) := by decide +kernel
theorem dX5_addClosed_21 : decode cX5_addClosed 21 = .ok (.getfield 19, 3) := by decide +kernel
theorem dX5_addClosed_24 : decode cX5_addClosed 24 = .ok (.iconst 1, 1) := by decide +kernel
theorem dX5_addClosed_25 : decode cX5_addClosed 25 = .ok (.iadd, 1) := by decide +kernel
theorem dX5_addClosed_26 : decode cX5_addClosed 26 = .ok (.putfield 19, 3) := by decide +kernel
theorem dX5_addClosed_29 : decode cX5_addClosed 29 = .ok (.iload_n 2, 1) := by decide +kernel
theorem dX5_addClosed_30 : decode cX5_addClosed 30 = .ok (.ireturn, 1) := by decide +kernel
theorem dX5_errorOfOpening_0 : decode cX5_errorOfOpening 0 = .ok (.aload_n 0, 1) := by decide +kernel
theorem dX5_errorOfOpening_1 : decode cX5_errorOfOpening 1 = .ok (.iload_n 1, 1) := by decide +kernel
theorem dX5_errorOfOpening_2 : decode cX5_errorOfOpening 2 = .ok (.invokevirtual 24, 3) := by decide +kernel
theorem dX5_errorOfOpening_5 : decode cX5_errorOfOpening 5 = .ok (.ifCond .ne 5, 3) := by decide +kernel
theorem dX5_errorOfOpening_8 : decode cX5_errorOfOpening 8 = .ok (.iconst (-1), 1) := by decide +kernel
theorem dX5_errorOfOpening_9 : decode cX5_errorOfOpening 9 = .ok (.ireturn, 1) := by decide +kernel
theorem dX5_errorOfOpening_10 : decode cX5_errorOfOpening 10 = .ok (.aload_n 0, 1) := by decide +kernel
theorem dX5_errorOfOpening_11 : decode cX5_errorOfOpening 11 = .ok (.getfield 15, 3) := by decide +kernel
theorem dX5_errorOfOpening_14 : decode cX5_errorOfOpening 14 = .ok (.iload_n 1, 1) := by decide +kernel
theorem dX5_errorOfOpening_15 : decode cX5_errorOfOpening 15 = .ok (.baload, 1) := by decide +kernel
theorem dX5_errorOfOpening_16 : decode cX5_errorOfOpening 16 = .ok (.ifCond .eq 8, 3) := by decide +kernel
theorem dX5_errorOfOpening_19 : decode cX5_errorOfOpening 19 = .ok (.bipush (-3), 2) := by decide +kernel
theorem dX5_errorOfOpening_21 : decode cX5_errorOfOpening 21 = .ok (.goto 4, 3) := by decide +kernel
theorem dX5_errorOfOpening_24 : decode cX5_errorOfOpening 24 = .ok (.iconst 0, 1) := by decide +kernel
theorem dX5_errorOfOpening_25 : decode cX5_errorOfOpening 25 = .ok (.ireturn, 1) := by decide +kernel
theorem dX5_markOpen_0 : decode cX5_markOpen 0 = .ok (.aload_n 0, 1) := by decide +kernel
theorem dX5_markOpen_1 : decode cX5_markOpen 1 = .ok (.getfield 15, 3) := by decide +kernel
theorem dX5_markOpen_4 : decode cX5_markOpen 4 = .ok (.iload_n 1, 1) := by decide +kernel
theorem dX5_markOpen_5 : decode cX5_markOpen 5 = .ok (.iconst 1, 1) := by decide +kernel
theorem dX5_markOpen_6 : decode cX5_markOpen 6 = .ok (.bastore, 1) := by decide +kernel
theorem dX5_markOpen_7 : decode cX5_markOpen 7 = .ok (.return_, 1) := by decide +kernel
theorem dX5_countClosed_0 : decode cX5_countClosed 0 = .ok (.iconst 0, 1) := by decide +kernel
theorem dX5_countClosed_1 : decode cX5_countClosed 1 = .ok (.istore_n 1, 1) := by decide +kernel
theorem dX5_countClosed_2 : decode cX5_countClosed 2 = .ok (.iconst 0, 1) := by decide +kernel
theorem dX5_countClosed_3 : decode cX5_countClosed 3 = .ok (.istore_n 2, 1) := by decide +kernel
theorem dX5_countClosed_4 : decode cX5_countClosed 4 = .ok (.iload_n 2, 1) := by decide +kernel
theorem dX5_countClosed_5 : decode cX5_countClosed 5 = .ok (.aload_n 0, 1) := by decide +kernel
theorem dX5_countClosed_6 : decode cX5_countClosed 6 = .ok (.getfield 19, 3) := by decide +kernel
theorem dX5_countClosed_9 : decode cX5_countClosed 9 = .ok (.if_icmp .ge 21, 3) := by decide +kernel
theorem dX5_countClosed_12 : decode cX5_countClosed 12 = .ok (.aload_n 0, 1) := by decide +kernel
theorem dX5_countClosed_13 : decode cX5_countClosed 13 = .ok (.getfield 15, 3) := by decide +kernel
theorem dX5_countClosed_16 : decode cX5_countClosed 16 = .ok (.iload_n 2, 1) := by decide +kernel
theorem dX5_countClosed_17 : decode cX5_countClosed 17 = .ok (.baload, 1) := by decide +kernel
theorem dX5_countClosed_18 : decode cX5_countClosed 18 = .ok (.ifCond .ne 6, 3) := by decide +kernel
theorem dX5_countClosed_21 : decode cX5_countClosed 21 = .ok (.iinc 1 1, 3) := by decide +kernel
theorem dX5_countClosed_24 : decode cX5_countClosed 24 = .ok (.iinc 2 1, 3) := by decide +kernel
theorem dX5_countClosed_27 : decode cX5_countClosed 27 = .ok (.goto (-23), 3) := by decide +kernel
theorem dX5_countClosed_30 : decode cX5_countClosed 30 = .ok (.iload_n 1, 1) := by decide +kernel
theorem dX5_countClosed_31 : decode cX5_countClosed 31 = .ok (.ireturn, 1) := by decide +kernel
theorem dX5_nextBelow_0 : decode cX5_nextBelow 0 = .ok (.bipush (-5), 2) := by decide +kernel
theorem dX5_nextBelow_2 : decode cX5_nextBelow 2 = .ok (.istore_n 2, 1) := by decide +kernel
theorem dX5_nextBelow_3 : decode cX5_nextBelow 3 = .ok (.iconst 0, 1) := by decide +kernel
theorem dX5_nextBelow_4 : decode cX5_nextBelow 4 = .ok (.istore_n 3, 1) := by decide +kernel
theorem dX5_nextBelow_5 : decode cX5_nextBelow 5 = .ok (.iconst 0, 1) := by decide +kernel
theorem dX5_nextBelow_6 : decode cX5_nextBelow 6 = .ok (.istore 4, 2) := by decide +kernel
theorem dX5_nextBelow_8 : decode cX5_nextBelow 8 = .ok (.iload 4, 2) := by decide +kernel
theorem dX5_nextBelow_10 : decode cX5_nextBelow 10 = .ok (.aload_n 0, 1) := by decide +kernel
theorem dX5_nextBelow_11 : decode cX5_nextBelow 11 = .ok (.getfield 19, 3) := by decide +kernel
theorem dX5_nextBelow_14 : decode cX5_nextBelow 14 = .ok (.if_icmp .ge 52, 3) := by decide +kernel
theorem dX5_nextBelow_17 : decode cX5_nextBelow 17 = .ok (.aload_n 0, 1) := by decide +kernel
theorem dX5_nextBelow_18 : decode cX5_nextBelow 18 = .ok (.getfield 15, 3) := by decide +kernel
theorem dX5_nextBelow_21 : decode cX5_nextBelow 21 = .ok (.iload 4, 2) := by decide +kernel
theorem dX5_nextBelow_23 : decode cX5_nextBelow 23 = .ok (.baload, 1) := by decide +kernel
theorem dX5_nextBelow_24 : decode cX5_nextBelow 24 = .ok (.ifCond .ne 36, 3) := by decide +kernel
theorem dX5_nextBelow_27 : decode cX5_nextBelow 27 = .ok (.aload_n 0, 1) := by decide +kernel
theorem dX5_nextBelow_28 : decode cX5_nextBelow 28 = .ok (.getfield 9, 3) := by decide +kernel
theorem dX5_nextBelow_31 : decode cX5_nextBelow 31 = .ok (.iload 4, 2) := by decide +kernel
theorem dX5_nextBelow_33 : decode cX5_nextBelow 33 = .ok (.iaload, 1) := by decide +kernel
theorem dX5_nextBelow_34 : decode cX5_nextBelow 34 = .ok (.iload_n 3, 1) := by decide +kernel
theorem dX5_nextBelow_35 : decode cX5_nextBelow 35 = .ok (.if_icmp .le 25, 3) := by decide +kernel
theorem dX5_nextBelow_38 : decode cX5_nextBelow 38 = .ok (.aload_n 0, 1) := by decide +kernel
theorem dX5_nextBelow_39 : decode cX5_nextBelow 39 = .ok (.iload 4, 2) := by decide +kernel
theorem dX5_nextBelow_41 : decode cX5_nextBelow 41 = .ok (.invokevirtual 28, 3) := by decide +kernel
theorem dX5_nextBelow_44 : decode cX5_nextBelow 44 = .ok (.fload_n 1, 1) := by decide +kernel
theorem dX5_nextBelow_45 : decode cX5_nextBelow 45 = .ok (.fcmp .g, 1) := by decide +kernel
theorem dX5_nextBelow_46 : decode cX5_nextBelow 46 = .ok (.ifCond .ge 14, 3) := by decide +kernel
theorem dX5_nextBelow_49 : decode cX5_nextBelow 49 = .ok (.iload 4, 2) := by decide +kernel
theorem dX5_nextBelow_51 : decode cX5_nextBelow 51 = .ok (.istore_n 2, 1) := by decide +kernel
theorem dX5_nextBelow_52 : decode cX5_nextBelow 52 = .ok (.aload_n 0, 1) := by decide +kernel
theorem dX5_nextBelow_53 : decode cX5_nextBelow 53 = .ok (.getfield 9, 3) := by decide +kernel
theorem dX5_nextBelow_56 : decode cX5_nextBelow 56 = .ok (.iload 4, 2) := by decide +kernel
theorem dX5_nextBelow_58 : decode cX5_nextBelow 58 = .ok (.iaload, 1) := by decide +kernel
theorem dX5_nextBelow_59 : decode cX5_nextBelow 59 = .ok (.istore_n 3, 1) := by decide +kernel
theorem dX5_nextBelow_60 : decode cX5_nextBelow 60 = .ok (.iinc 4 1, 3) := by decide +kernel
theorem dX5_nextBelow_63 : decode cX5_nextBelow 63 = .ok (.goto (-55), 3) := by decide +kernel
theorem dX5_nextBelow_66 : decode cX5_nextBelow 66 = .ok (.iload_n 2, 1) := by decide +kernel
theorem dX5_nextBelow_67 : decode cX5_nextBelow 67 = .ok (.ireturn, 1) := by decide +kernel
theorem dX5_closedNear_0 : decode cX5_closedNear 0 = .ok (.iconst 0, 1) := by decide +kernel
theorem dX5_closedNear_1 : decode cX5_closedNear 1 = .ok (.istore_n 2, 1) := by decide +kernel
theorem dX5_closedNear_2 : decode cX5_closedNear 2 = .ok (.iload_n 2, 1) := by decide +kernel
theorem dX5_closedNear_3 : decode cX5_closedNear 3 = .ok (.aload_n 0, 1) := by decide +kernel
theorem dX5_closedNear_4 : decode cX5_closedNear 4 = .ok (.getfield 19, 3) := by decide +kernel
theorem dX5_closedNear_7 : decode cX5_closedNear 7 = .ok (.if_icmp .ge 36, 3) := by decide +kernel
theorem dX5_closedNear_10 : decode cX5_closedNear 10 = .ok (.aload_n 0, 1) := by decide +kernel
theorem dX5_closedNear_11 : decode cX5_closedNear 11 = .ok (.getfield 15, 3) := by decide +kernel
theorem dX5_closedNear_14 : decode cX5_closedNear 14 = .ok (.iload_n 2, 1) := by decide +kernel
theorem dX5_closedNear_15 : decode cX5_closedNear 15 = .ok (.baload, 1) := by decide +kernel
theorem dX5_closedNear_16 : decode cX5_closedNear 16 = .ok (.ifCond .ne 21, 3) := by decide +kernel
theorem dX5_closedNear_19 : decode cX5_closedNear 19 = .ok (.fload_n 1, 1) := by decide +kernel
theorem dX5_closedNear_20 : decode cX5_closedNear 20 = .ok (.aload_n 0, 1) := by decide +kernel
theorem dX5_closedNear_21 : decode cX5_closedNear 21 = .ok (.iload_n 2, 1) := by decide +kernel
theorem dX5_closedNear_22 : decode cX5_closedNear 22 = .ok (.invokevirtual 28, 3) := by decide +kernel
theorem dX5_closedNear_25 : decode cX5_closedNear 25 = .ok (.fsub, 1) := by decide +kernel
theorem dX5_closedNear_26 : decode cX5_closedNear 26 = .ok (.invokestatic 32, 3) := by decide +kernel
theorem dX5_closedNear_29 : decode cX5_closedNear 29 = .ok (.ldc 36, 2) := by decide +kernel
theorem dX5_closedNear_31 : decode cX5_closedNear 31 = .ok (.fcmp .g, 1) := by decide +kernel
theorem dX5_closedNear_32 : decode cX5_closedNear 32 = .ok (.ifCond .ge 5, 3) := by decide +kernel
theorem dX5_closedNear_35 : decode cX5_closedNear 35 = .ok (.iload_n 2, 1) := by decide +kernel
theorem dX5_closedNear_36 : decode cX5_closedNear 36 = .ok (.ireturn, 1) := by decide +kernel
theorem dX5_closedNear_37 : decode cX5_closedNear 37 = .ok (.iinc 2 1, 3) := by decide +kernel
theorem dX5_closedNear_40 : decode cX5_closedNear 40 = .ok (.goto (-38), 3) := by decide +kernel
theorem dX5_closedNear_43 : decode cX5_closedNear 43 = .ok (.bipush (-5), 2) := by decide +kernel
theorem dX5_closedNear_45 : decode cX5_closedNear 45 = .ok (.ireturn, 1) := by decide +kernel
theorem dX6_init_0 : decode cX6_init 0 = .ok (.aload_n 0, 1) := by decide +kernel
theorem dX6_init_1 : decode cX6_init 1 = .ok (.invokespecial 1, 3) := by decide +kernel
theorem dX6_init_4 : decode cX6_init 4 = .ok (.aload_n 0, 1) := by decide +kernel
theorem dX6_init_5 : decode cX6_init 5 = .ok (.new 7, 3) := by decide +kernel
theorem dX6_init_8 : decode cX6_init 8 = .ok (.dup, 1) := by decide +kernel
end
section
theorem dX6_init_9 : decode cX6_init 9 = .ok (.invokespecial 9, 3) := by decide +kernel
theorem dX6_init_12 : decode cX6_init 12 = .ok (.putfield 10, 3) := by decide +kernel
theorem dX6_init_15 : decode cX6_init 15 = .ok (.aload_n 0, 1) := by decide +kernel
theorem dX6_init_16 : decode cX6_init 16 = .ok (.new 7, 3) := by decide +kernel
theorem dX6_init_19 : decode cX6_init 19 = .ok (.dup, 1) := by decide +kernel
theorem dX6_init_20 : decode cX6_init 20 = .ok (.invokespecial 9, 3) := by decide +kernel
theorem dX6_init_23 : decode cX6_init 23 = .ok (.putfield 16, 3) := by decide +kernel
theorem dX6_init_26 : decode cX6_init 26 = .ok (.aload_n 0, 1) := by decide +kernel
theorem dX6_init_27 : decode cX6_init 27 = .ok (.new 19, 3) := by decide +kernel
theorem dX6_init_30 : decode cX6_init 30 = .ok (.dup, 1) := by decide +kernel
theorem dX6_init_31 : decode cX6_init 31 = .ok (.invokespecial 21, 3) := by decide +kernel
theorem dX6_init_34 : decode cX6_init 34 = .ok (.putfield 22, 3) := by decide +kernel
theorem dX6_init_37 : decode cX6_init 37 = .ok (.aload_n 0, 1) := by decide +kernel
theorem dX6_init_38 : decode cX6_init 38 = .ok (.iconst 2, 1) := by decide +kernel
theorem dX6_init_39 : decode cX6_init 39 = .ok (.anewarray 7, 3) := by decide +kernel
theorem dX6_init_42 : decode cX6_init 42 = .ok (.putfield 26, 3) := by decide +kernel
theorem dX6_init_45 : decode cX6_init 45 = .ok (.iconst 0, 1) := by decide +kernel
theorem dX6_init_46 : decode cX6_init 46 = .ok (.istore_n 1, 1) := by decide +kernel
theorem dX6_init_47 : decode cX6_init 47 = .ok (.iload_n 1, 1) := by decide +kernel
theorem dX6_init_48 : decode cX6_init 48 = .ok (.iconst 2, 1) := by decide +kernel
theorem dX6_init_49 : decode cX6_init 49 = .ok (.if_icmp .ge 22, 3) := by decide +kernel
theorem dX6_init_52 : decode cX6_init 52 = .ok (.aload_n 0, 1) := by decide +kernel
theorem dX6_init_53 : decode cX6_init 53 = .ok (.getfield 26, 3) := by decide +kernel
theorem dX6_init_56 : decode cX6_init 56 = .ok (.iload_n 1, 1) := by decide +kernel
theorem dX6_init_57 : decode cX6_init 57 = .ok (.new 7, 3) := by decide +kernel
theorem dX6_init_60 : decode cX6_init 60 = .ok (.dup, 1) := by decide +kernel
theorem dX6_init_61 : decode cX6_init 61 = .ok (.invokespecial 9, 3) := by decide +kernel
theorem dX6_init_64 : decode cX6_init 64 = .ok (.aastore, 1) := by decide +kernel
theorem dX6_init_65 : decode cX6_init 65 = .ok (.iinc 1 1, 3) := by decide +kernel
theorem dX6_init_68 : decode cX6_init 68 = .ok (.goto (-21), 3) := by decide +kernel
theorem dX6_init_71 : decode cX6_init 71 = .ok (.aload_n 0, 1) := by decide +kernel
theorem dX6_init_72 : decode cX6_init 72 = .ok (.iconst 2, 1) := by decide +kernel
theorem dX6_init_73 : decode cX6_init 73 = .ok (.newarray .boolean, 2) := by decide +kernel
theorem dX6_init_75 : decode cX6_init 75 = .ok (.putfield 30, 3) := by decide +kernel
theorem dX6_init_78 : decode cX6_init 78 = .ok (.aload_n 0, 1) := by decide +kernel
theorem dX6_init_79 : decode cX6_init 79 = .ok (.new 34, 3) := by decide +kernel
theorem dX6_init_82 : decode cX6_init 82 = .ok (.dup, 1) := by decide +kernel
theorem dX6_init_83 : decode cX6_init 83 = .ok (.invokespecial 36, 3) := by decide +kernel
theorem dX6_init_86 : decode cX6_init 86 = .ok (.putfield 37, 3) := by decide +kernel
theorem dX6_init_89 : decode cX6_init 89 = .ok (.return_, 1) := by decide +kernel
theorem dX6_place_0 : decode cX6_place 0 = .ok (.iload_n 1, 1) := by decide +kernel
theorem dX6_place_1 : decode cX6_place 1 = .ok (.iconst 1, 1) := by decide +kernel
theorem dX6_place_2 : decode cX6_place 2 = .ok (.if_icmp .lt 39, 3) := by decide +kernel
theorem dX6_place_5 : decode cX6_place 5 = .ok (.iload_n 1, 1) := by decide +kernel
theorem dX6_place_6 : decode cX6_place 6 = .ok (.ldc 41, 2) := by decide +kernel
theorem dX6_place_8 : decode cX6_place 8 = .ok (.if_icmp .gt 33, 3) := by decide +kernel
theorem dX6_place_11 : decode cX6_place 11 = .ok (.iload_n 2, 1) := by decide +kernel
theorem dX6_place_12 : decode cX6_place 12 = .ok (.ldc 41, 2) := by decide +kernel
theorem dX6_place_14 : decode cX6_place 14 = .ok (.invokestatic 42, 3) := by decide +kernel
theorem dX6_place_17 : decode cX6_place 17 = .ok (.ifCond .ne 24, 3) := by decide +kernel
theorem dX6_place_20 : decode cX6_place 20 = .ok (.iload_n 3, 1) := by decide +kernel
theorem dX6_place_21 : decode cX6_place 21 = .ok (.sipush 5000, 3) := by decide +kernel
theorem dX6_place_24 : decode cX6_place 24 = .ok (.invokestatic 42, 3) := by decide +kernel
theorem dX6_place_27 : decode cX6_place 27 = .ok (.ifCond .ne 14, 3) := by decide +kernel
theorem dX6_place_30 : decode cX6_place 30 = .ok (.iload 4, 2) := by decide +kernel
theorem dX6_place_32 : decode cX6_place 32 = .ok (.sipush 5000, 3) := by decide +kernel
theorem dX6_place_35 : decode cX6_place 35 = .ok (.invokestatic 42, 3) := by decide +kernel
theorem dX6_place_38 : decode cX6_place 38 = .ok (.ifCond .eq 6, 3) := by decide +kernel
theorem dX6_place_41 : decode cX6_place 41 = .ok (.bipush (-2), 2) := by decide +kernel
theorem dX6_place_43 : decode cX6_place 43 = .ok (.ireturn, 1) := by decide +kernel
theorem dX6_place_44 : decode cX6_place 44 = .ok (.aload_n 0, 1) := by decide +kernel
theorem dX6_place_45 : decode cX6_place 45 = .ok (.getfield 22, 3) := by decide +kernel
theorem dX6_place_48 : decode cX6_place 48 = .ok (.aload_n 0, 1) := by decide +kernel
theorem dX6_place_49 : decode cX6_place 49 = .ok (.getfield 10, 3) := by decide +kernel
theorem dX6_place_52 : decode cX6_place 52 = .ok (.invokevirtual 46, 3) := by decide +kernel
theorem dX6_place_55 : decode cX6_place 55 = .ok (.aload_n 0, 1) := by decide +kernel
theorem dX6_place_56 : decode cX6_place 56 = .ok (.getfield 10, 3) := by decide +kernel
theorem dX6_place_59 : decode cX6_place 59 = .ok (.iload_n 1, 1) := by decide +kernel
theorem dX6_place_60 : decode cX6_place 60 = .ok (.i2f, 1) := by decide +kernel
theorem dX6_place_61 : decode cX6_place 61 = .ok (.ldc 50, 2) := by decide +kernel
theorem dX6_place_63 : decode cX6_place 63 = .ok (.fdiv, 1) := by decide +kernel
theorem dX6_place_64 : decode cX6_place 64 = .ok (.iload_n 2, 1) := by decide +kernel
theorem dX6_place_65 : decode cX6_place 65 = .ok (.i2f, 1) := by decide +kernel
theorem dX6_place_66 : decode cX6_place 66 = .ok (.ldc 50, 2) := by decide +kernel
theorem dX6_place_68 : decode cX6_place 68 = .ok (.fdiv, 1) := by decide +kernel
theorem dX6_place_69 : decode cX6_place 69 = .ok (.iload_n 3, 1) := by decide +kernel
theorem dX6_place_70 : decode cX6_place 70 = .ok (.i2f, 1) := by decide +kernel
theorem dX6_place_71 : decode cX6_place 71 = .ok (.ldc 51, 2) := by decide +kernel
theorem dX6_place_73 : decode cX6_place 73 = .ok (.fdiv, 1) := by decide +kernel
theorem dX6_place_74 : decode cX6_place 74 = .ok (.iload 4, 2) := by decide +kernel
theorem dX6_place_76 : decode cX6_place 76 = .ok (.i2f, 1) := by decide +kernel
theorem dX6_place_77 : decode cX6_place 77 = .ok (.ldc 51, 2) := by decide +kernel
theorem dX6_place_79 : decode cX6_place 79 = .ok (.fdiv, 1) := by decide +kernel
theorem dX6_place_80 : decode cX6_place 80 = .ok (.invokevirtual 52, 3) := by decide +kernel
theorem dX6_place_83 : decode cX6_place 83 = .ok (.aload_n 0, 1) := by decide +kernel
theorem dX6_place_84 : decode cX6_place 84 = .ok (.getfield 10, 3) := by decide +kernel
theorem dX6_place_87 : decode cX6_place 87 = .ok (.invokevirtual 56, 3) := by decide +kernel
theorem dX6_place_90 : decode cX6_place 90 = .ok (.ireturn, 1) := by decide +kernel
theorem dX6_set_0 : decode cX6_set 0 = .ok (.iload_n 1, 1) := by decide +kernel
theorem dX6_set_1 : decode cX6_set 1 = .ok (.ifCond .lt 9, 3) := by decide +kernel
theorem dX6_set_4 : decode cX6_set 4 = .ok (.iload_n 1, 1) := by decide +kernel
theorem dX6_set_5 : decode cX6_set 5 = .ok (.bipush 8, 2) := by decide +kernel
theorem dX6_set_7 : decode cX6_set 7 = .ok (.if_icmp .lt 5, 3) := by decide +kernel
theorem dX6_set_10 : decode cX6_set 10 = .ok (.iconst (-1), 1) := by decide +kernel
theorem dX6_set_11 : decode cX6_set 11 = .ok (.ireturn, 1) := by decide +kernel
theorem dX6_set_12 : decode cX6_set 12 = .ok (.iload_n 2, 1) := by decide +kernel
theorem dX6_set_13 : decode cX6_set 13 = .ok (.getstatic 60, 3) := by decide +kernel
theorem dX6_set_16 : decode cX6_set 16 = .ok (.iload_n 1, 1) := by decide +kernel
theorem dX6_set_17 : decode cX6_set 17 = .ok (.iaload, 1) := by decide +kernel
theorem dX6_set_18 : decode cX6_set 18 = .ok (.if_icmp .lt 12, 3) := by decide +kernel
theorem dX6_set_21 : decode cX6_set 21 = .ok (.iload_n 2, 1) := by decide +kernel
theorem dX6_set_22 : decode cX6_set 22 = .ok (.getstatic 64, 3) := by decide +kernel
theorem dX6_set_25 : decode cX6_set 25 = .ok (.iload_n 1, 1) := by decide +kernel
theorem dX6_set_26 : decode cX6_set 26 = .ok (.iaload, 1) := by decide +kernel
theorem dX6_set_27 : decode cX6_set 27 = .ok (.if_icmp .le 6, 3) := by decide +kernel
theorem dX6_set_30 : decode cX6_set 30 = .ok (.bipush (-2), 2) := by decide +kernel
theorem dX6_set_32 : decode cX6_set 32 = .ok (.ireturn, 1) := by decide +kernel
theorem dX6_set_33 : decode cX6_set 33 = .ok (.aload_n 0, 1) := by decide +kernel
theorem dX6_set_34 : decode cX6_set 34 = .ok (.getfield 22, 3) := by decide +kernel
theorem dX6_set_37 : decode cX6_set 37 = .ok (.aload_n 0, 1) := by decide +kernel
theorem dX6_set_38 : decode cX6_set 38 = .ok (.getfield 10, 3) := by decide +kernel
theorem dX6_set_41 : decode cX6_set 41 = .ok (.invokevirtual 46, 3) := by decide +kernel
theorem dX6_set_44 : decode cX6_set 44 = .ok (.aload_n 0, 1) := by decide +kernel
theorem dX6_set_45 : decode cX6_set 45 = .ok (.getfield 10, 3) := by decide +kernel
theorem dX6_set_48 : decode cX6_set 48 = .ok (.getfield 67, 3) := by decide +kernel
theorem dX6_set_51 : decode cX6_set 51 = .ok (.iload_n 1, 1) := by decide +kernel
theorem dX6_set_52 : decode cX6_set 52 = .ok (.iaload, 1) := by decide +kernel
theorem dX6_set_53 : decode cX6_set 53 = .ok (.istore_n 3, 1) := by decide +kernel
theorem dX6_set_54 : decode cX6_set 54 = .ok (.aload_n 0, 1) := by decide +kernel
theorem dX6_set_55 : decode cX6_set 55 = .ok (.getfield 10, 3) := by decide +kernel
theorem dX6_set_58 : decode cX6_set 58 = .ok (.getfield 67, 3) := by decide +kernel
theorem dX6_set_61 : decode cX6_set 61 = .ok (.iload_n 1, 1) := by decide +kernel
theorem dX6_set_62 : decode cX6_set 62 = .ok (.iload_n 2, 1) := by decide +kernel
theorem dX6_set_63 : decode cX6_set 63 = .ok (.iastore, 1) := by decide +kernel
theorem dX6_set_64 : decode cX6_set 64 = .ok (.iload_n 3, 1) := by decide +kernel
theorem dX6_set_65 : decode cX6_set 65 = .ok (.ireturn, 1) := by decide +kernel
theorem dX6_setPoint_0 : decode cX6_setPoint 0 = .ok (.iload_n 1, 1) := by decide +kernel
theorem dX6_setPoint_1 : decode cX6_setPoint 1 = .ok (.ifCond .lt 21, 3) := by decide +kernel
theorem dX6_setPoint_4 : decode cX6_setPoint 4 = .ok (.iload_n 1, 1) := by decide +kernel
theorem dX6_setPoint_5 : decode cX6_setPoint 5 = .ok (.ldc 41, 2) := by decide +kernel
theorem dX6_setPoint_7 : decode cX6_setPoint 7 = .ok (.if_icmp .gt 15, 3) := by decide +kernel
theorem dX6_setPoint_10 : decode cX6_setPoint 10 = .ok (.iload_n 2, 1) := by decide +kernel
theorem dX6_setPoint_11 : decode cX6_setPoint 11 = .ok (.iconst 1, 1) := by decide +kernel
theorem dX6_setPoint_12 : decode cX6_setPoint 12 = .ok (.if_icmp .lt 10, 3) := by decide +kernel
theorem dX6_setPoint_15 : decode cX6_setPoint 15 = .ok (.iload_n 2, 1) := by decide +kernel
theorem dX6_setPoint_16 : decode cX6_setPoint 16 = .ok (.sipush 5000, 3) := by decide +kernel
theorem dX6_setPoint_19 : decode cX6_setPoint 19 = .ok (.if_icmp .le 6, 3) := by decide +kernel
theorem dX6_setPoint_22 : decode cX6_setPoint 22 = .ok (.bipush (-2), 2) := by decide +kernel
theorem dX6_setPoint_24 : decode cX6_setPoint 24 = .ok (.ireturn, 1) := by decide +kernel
theorem dX6_setPoint_25 : decode cX6_setPoint 25 = .ok (.aload_n 0, 1) := by decide +kernel
theorem dX6_setPoint_26 : decode cX6_setPoint 26 = .ok (.getfield 10, 3) := by decide +kernel
theorem dX6_setPoint_29 : decode cX6_setPoint 29 = .ok (.getfield 70, 3) := by decide +kernel
theorem dX6_setPoint_32 : decode cX6_setPoint 32 = .ok (.iload_n 1, 1) := by decide +kernel
theorem dX6_setPoint_33 : decode cX6_setPoint 33 = .ok (.invokevirtual 74, 3) := by decide +kernel
theorem dX6_setPoint_36 : decode cX6_setPoint 36 = .ok (.ifCond .ne 6, 3) := by decide +kernel
theorem dX6_setPoint_39 : decode cX6_setPoint 39 = .ok (.bipush (-4), 2) := by decide +kernel
theorem dX6_setPoint_41 : decode cX6_setPoint 41 = .ok (.ireturn, 1) := by decide +kernel
theorem dX6_setPoint_42 : decode cX6_setPoint 42 = .ok (.aload_n 0, 1) := by decide +kernel
theorem dX6_setPoint_43 : decode cX6_setPoint 43 = .ok (.getfield 22, 3) := by decide +kernel
theorem dX6_setPoint_46 : decode cX6_setPoint 46 = .ok (.aload_n 0, 1) := by decide +kernel
theorem dX6_setPoint_47 : decode cX6_setPoint 47 = .ok (.getfield 10, 3) := by decide +kernel
theorem dX6_setPoint_50 : decode cX6_setPoint 50 = .ok (.invokevirtual 46, 3) := by decide +kernel
theorem dX6_setPoint_53 : decode cX6_setPoint 53 = .ok (.aload_n 0, 1) := by decide +kernel
theorem dX6_setPoint_54 : decode cX6_setPoint 54 = .ok (.getfield 10, 3) := by decide +kernel
theorem dX6_setPoint_57 : decode cX6_setPoint 57 = .ok (.getfield 70, 3) := by decide +kernel
theorem dX6_setPoint_60 : decode cX6_setPoint 60 = .ok (.iload_n 1, 1) := by decide +kernel
theorem dX6_setPoint_61 : decode cX6_setPoint 61 = .ok (.iload_n 2, 1) := by decide +kernel
theorem dX6_setPoint_62 : decode cX6_setPoint 62 = .ok (.invokevirtual 80, 3) := by decide +kernel
theorem dX6_setPoint_65 : decode cX6_setPoint 65 = .ok (.aload_n 0, 1) := by decide +kernel
theorem dX6_setPoint_66 : decode cX6_setPoint 66 = .ok (.getfield 10, 3) := by decide +kernel
theorem dX6_setPoint_69 : decode cX6_setPoint 69 = .ok (.getfield 70, 3) := by decide +kernel
theorem dX6_setPoint_72 : decode cX6_setPoint 72 = .ok (.getfield 84, 3) := by decide +kernel
theorem dX6_setPoint_75 : decode cX6_setPoint 75 = .ok (.ireturn, 1) := by decide +kernel
theorem dX6_addStop_0 : decode cX6_addStop 0 = .ok (.iload_n 1, 1) := by decide +kernel
theorem dX6_addStop_1 : decode cX6_addStop 1 = .ok (.iconst 1, 1) := by decide +kernel
theorem dX6_addStop_2 : decode cX6_addStop 2 = .ok (.if_icmp .lt 9, 3) := by decide +kernel
theorem dX6_addStop_5 : decode cX6_addStop 5 = .ok (.iload_n 1, 1) := by decide +kernel
theorem dX6_addStop_6 : decode cX6_addStop 6 = .ok (.ldc 41, 2) := by decide +kernel
theorem dX6_addStop_8 : decode cX6_addStop 8 = .ok (.if_icmp .le 6, 3) := by decide +kernel
theorem dX6_addStop_11 : decode cX6_addStop 11 = .ok (.bipush (-2), 2) := by decide +kernel
theorem dX6_addStop_13 : decode cX6_addStop 13 = .ok (.ireturn, 1) := by decide +kernel
theorem dX6_addStop_14 : decode cX6_addStop 14 = .ok (.aload_n 0, 1) := by decide +kernel
theorem dX6_addStop_15 : decode cX6_addStop 15 = .ok (.getfield 10, 3) := by decide +kernel
theorem dX6_addStop_18 : decode cX6_addStop 18 = .ok (.getfield 88, 3) := by decide +kernel
theorem dX6_addStop_21 : decode cX6_addStop 21 = .ok (.getfield 92, 3) := by decide +kernel
theorem dX6_addStop_24 : decode cX6_addStop 24 = .ok (.iconst 4, 1) := by decide +kernel
theorem dX6_addStop_25 : decode cX6_addStop 25 = .ok (.if_icmp .lt 6, 3) := by decide +kernel
theorem dX6_addStop_28 : decode cX6_addStop 28 = .ok (.bipush (-4), 2) := by decide +kernel
theorem dX6_addStop_30 : decode cX6_addStop 30 = .ok (.ireturn, 1) := by decide +kernel
theorem dX6_addStop_31 : decode cX6_addStop 31 = .ok (.aload_n 0, 1) := by decide +kernel
theorem dX6_addStop_32 : decode cX6_addStop 32 = .ok (.getfield 22, 3) := by decide +kernel
theorem dX6_addStop_35 : decode cX6_addStop 35 = .ok (.aload_n 0, 1) := by decide +kernel
theorem dX6_addStop_36 : decode cX6_addStop 36 = .ok (.getfield 10, 3) := by decide +kernel
theorem dX6_addStop_39 : decode cX6_addStop 39 = .ok (.invokevirtual 46, 3) := by decide +kernel
theorem dX6_addStop_42 : decode cX6_addStop 42 = .ok (.aload_n 0, 1) := by decide +kernel
theorem dX6_addStop_43 : decode cX6_addStop 43 = .ok (.getfield 10, 3) := by decide +kernel
theorem dX6_addStop_46 : decode cX6_addStop 46 = .ok (.getfield 88, 3) := by decide +kernel
theorem dX6_addStop_49 : decode cX6_addStop 49 = .ok (.iload_n 1, 1) := by decide +kernel
theorem dX6_addStop_50 : decode cX6_addStop 50 = .ok (.invokevirtual 95, 3) := by decide +kernel
theorem dX6_addStop_53 : decode cX6_addStop 53 = .ok (.ireturn, 1) := by decide +kernel
theorem dX6_setBias_0 : decode cX6_setBias 0 = .ok (.iload_n 2, 1) := by decide +kernel
theorem dX6_setBias_1 : decode cX6_setBias 1 = .ok (.sipush 500, 3) := by decide +kernel
theorem dX6_setBias_4 : decode cX6_setBias 4 = .ok (.invokestatic 42, 3) := by decide +kernel
theorem dX6_setBias_7 : decode cX6_setBias 7 = .ok (.ifCond .eq 6, 3) := by decide +kernel
theorem dX6_setBias_10 : decode cX6_setBias 10 = .ok (.bipush (-2), 2) := by decide +kernel
theorem dX6_setBias_12 : decode cX6_setBias 12 = .ok (.ireturn, 1) := by decide +kernel
theorem dX6_setBias_13 : decode cX6_setBias 13 = .ok (.aload_n 0, 1) := by decide +kernel
theorem dX6_setBias_14 : decode cX6_setBias 14 = .ok (.getfield 22, 3) := by decide +kernel
theorem dX6_setBias_17 : decode cX6_setBias 17 = .ok (.aload_n 0, 1) := by decide +kernel
theorem dX6_setBias_18 : decode cX6_setBias 18 = .ok (.getfield 10, 3) := by decide +kernel
theorem dX6_setBias_21 : decode cX6_setBias 21 = .ok (.invokevirtual 46, 3) := by decide +kernel
theorem dX6_setBias_24 : decode cX6_setBias 24 = .ok (.aload_n 0, 1) := by decide +kernel
theorem dX6_setBias_25 : decode cX6_setBias 25 = .ok (.getfield 10, 3) := by decide +kernel
theorem dX6_setBias_28 : decode cX6_setBias 28 = .ok (.getfield 99, 3) := by decide +kernel
theorem dX6_setBias_31 : decode cX6_setBias 31 = .ok (.astore_n 3, 1) := by decide +kernel
theorem dX6_setBias_32 : decode cX6_setBias 32 = .ok (.iload_n 1, 1) := by decide +kernel
theorem dX6_setBias_33 : decode cX6_setBias 33 = .ok (.ifCond .eq 11, 3) := by decide +kernel
theorem dX6_setBias_36 : decode cX6_setBias 36 = .ok (.aload_n 3, 1) := by decide +kernel
theorem dX6_setBias_37 : decode cX6_setBias 37 = .ok (.iload_n 2, 1) := by decide +kernel
theorem dX6_setBias_38 : decode cX6_setBias 38 = .ok (.putfield 103, 3) := by decide +kernel
theorem dX6_setBias_41 : decode cX6_setBias 41 = .ok (.goto 8, 3) := by decide +kernel
theorem dX6_setBias_44 : decode cX6_setBias 44 = .ok (.aload_n 3, 1) := by decide +kernel
theorem dX6_setBias_45 : decode cX6_setBias 45 = .ok (.iload_n 2, 1) := by decide +kernel
theorem dX6_setBias_46 : decode cX6_setBias 46 = .ok (.putfield 108, 3) := by decide +kernel
theorem dX6_setBias_49 : decode cX6_setBias 49 = .ok (.aload_n 3, 1) := by decide +kernel
theorem dX6_setBias_50 : decode cX6_setBias 50 = .ok (.getfield 111, 3) := by decide +kernel
theorem dX6_setBias_53 : decode cX6_setBias 53 = .ok (.iload_n 1, 1) := by decide +kernel
theorem dX6_setBias_54 : decode cX6_setBias 54 = .ok (.if_icmp .ne 7, 3) := by decide +kernel
theorem dX6_setBias_57 : decode cX6_setBias 57 = .ok (.iconst 1, 1) := by decide +kernel
theorem dX6_setBias_58 : decode cX6_setBias 58 = .ok (.goto 4, 3) := by decide +kernel
theorem dX6_setBias_61 : decode cX6_setBias 61 = .ok (.iconst 0, 1) := by decide +kernel
theorem dX6_setBias_62 : decode cX6_setBias 62 = .ok (.ireturn, 1) := by decide +kernel
theorem dX6_approach_0 : decode cX6_approach 0 = .ok (.aload_n 0, 1) := by decide +kernel
theorem dX6_approach_1 : decode cX6_approach 1 = .ok (.bipush 103, 2) := by decide +kernel
theorem dX6_approach_3 : decode cX6_approach 3 = .ok (.iconst 0, 1) := by decide +kernel
theorem dX6_approach_4 : decode cX6_approach 4 = .ok (.invokevirtual 115, 3) := by decide +kernel
theorem dX6_approach_7 : decode cX6_approach 7 = .ok (.ireturn, 1) := by decide +kernel
theorem dX6_release_0 : decode cX6_release 0 = .ok (.aload_n 0, 1) := by decide +kernel
theorem dX6_release_1 : decode cX6_release 1 = .ok (.bipush 102, 2) := by decide +kernel
theorem dX6_release_3 : decode cX6_release 3 = .ok (.iconst 0, 1) := by decide +kernel
theorem dX6_release_4 : decode cX6_release 4 = .ok (.invokevirtual 115, 3) := by decide +kernel
theorem dX6_release_7 : decode cX6_release 7 = .ok (.ireturn, 1) := by decide +kernel
theorem dX6_retreat_0 : decode cX6_retreat 0 = .ok (.aload_n 0, 1) := by decide +kernel
theorem dX6_retreat_1 : decode cX6_retreat 1 = .ok (.bipush 98, 2) := by decide +kernel
theorem dX6_retreat_3 : decode cX6_retreat 3 = .ok (.iconst 0, 1) := by decide +kernel
theorem dX6_retreat_4 : decode cX6_retreat 4 = .ok (.invokevirtual 115, 3) := by decide +kernel
theorem dX6_retreat_7 : decode cX6_retreat 7 = .ok (.ireturn, 1) := by decide +kernel
theorem dX6_open_0 : decode cX6_open 0 = .ok (.aload_n 0, 1) := by decide +kernel
theorem dX6_open_1 : decode cX6_open 1 = .ok (.bipush 111, 2) := by decide +kernel
theorem dX6_open_3 : decode cX6_open 3 = .ok (.iload_n 1, 1) := by decide +kernel
theorem dX6_open_4 : decode cX6_open 4 = .ok (.invokevirtual 115, 3) := by decide +kernel
theorem dX6_open_7 : decode cX6_open 7 = .ok (.ireturn, 1) := by decide +kernel
theorem dX6_pass_0 : decode cX6_pass 0 = .ok (.aload_n 0, 1) := by decide +kernel
theorem dX6_pass_1 : decode cX6_pass 1 = .ok (.bipush 116, 2) := by decide +kernel
theorem dX6_pass_3 : decode cX6_pass 3 = .ok (.iload_n 1, 1) := by decide +kernel
theorem dX6_pass_4 : decode cX6_pass 4 = .ok (.invokevirtual 115, 3) := by decide +kernel
theorem dX6_pass_7 : decode cX6_pass 7 = .ok (.ireturn, 1) := by decide +kernel
theorem dX6_append_0 : decode cX6_append 0 = .ok (.iload_n 1, 1) := by decide +kernel
theorem dX6_append_1 : decode cX6_append 1 = .ok (.bipush 32, 2) := by decide +kernel
theorem dX6_append_3 : decode cX6_append 3 = .ok (.if_icmp .lt 9, 3) := by decide +kernel
theorem dX6_append_6 : decode cX6_append 6 = .ok (.iload_n 1, 1) := by decide +kernel
theorem dX6_append_7 : decode cX6_append 7 = .ok (.bipush 126, 2) := by decide +kernel
theorem dX6_append_9 : decode cX6_append 9 = .ok (.if_icmp .le 6, 3) := by decide +kernel
theorem dX6_append_12 : decode cX6_append 12 = .ok (.bipush (-2), 2) := by decide +kernel
theorem dX6_append_14 : decode cX6_append 14 = .ok (.ireturn, 1) := by decide +kernel
theorem dX6_append_15 : decode cX6_append 15 = .ok (.aload_n 0, 1) := by decide +kernel
theorem dX6_append_16 : decode cX6_append 16 = .ok (.getfield 37, 3) := by decide +kernel
theorem dX6_append_19 : decode cX6_append 19 = .ok (.getfield 119, 3) := by decide +kernel
theorem dX6_append_22 : decode cX6_append 22 = .ok (.bipush 80, 2) := by decide +kernel
theorem dX6_append_24 : decode cX6_append 24 = .ok (.if_icmp .lt 6, 3) := by decide +kernel
theorem dX6_append_27 : decode cX6_append 27 = .ok (.bipush (-4), 2) := by decide +kernel
theorem dX6_append_29 : decode cX6_append 29 = .ok (.ireturn, 1) := by decide +kernel
theorem dX6_append_30 : decode cX6_append 30 = .ok (.aload_n 0, 1) := by decide +kernel
theorem dX6_append_31 : decode cX6_append 31 = .ok (.getfield 37, 3) := by decide +kernel
theorem dX6_append_34 : decode cX6_append 34 = .ok (.getfield 122, 3) := by decide +kernel
theorem dX6_append_37 : decode cX6_append 37 = .ok (.aload_n 0, 1) := by decide +kernel
theorem dX6_append_38 : decode cX6_append 38 = .ok (.getfield 37, 3) := by decide +kernel
theorem dX6_append_41 : decode cX6_append 41 = .ok (.getfield 119, 3) := by decide +kernel
theorem dX6_append_44 : decode cX6_append 44 = .ok (.iload_n 1, 1) := by decide +kernel
theorem dX6_append_45 : decode cX6_append 45 = .ok (.i2b, 1) := by decide +kernel
theorem dX6_append_46 : decode cX6_append 46 = .ok (.bastore, 1) := by decide +kernel
theorem dX6_append_47 : decode cX6_append 47 = .ok (.aload_n 0, 1) := by decide +kernel
theorem dX6_append_48 : decode cX6_append 48 = .ok (.getfield 37, 3) := by decide +kernel
theorem dX6_append_51 : decode cX6_append 51 = .ok (.dup, 1) := by decide +kernel
theorem dX6_append_52 : decode cX6_append 52 = .ok (.getfield 119, 3) := by decide +kernel
theorem dX6_append_55 : decode cX6_append 55 = .ok (.iconst 1, 1) := by decide +kernel
theorem dX6_append_56 : decode cX6_append 56 = .ok (.iadd, 1) := by decide +kernel
theorem dX6_append_57 : decode cX6_append 57 = .ok (.putfield 119, 3) := by decide +kernel
theorem dX6_append_60 : decode cX6_append 60 = .ok (.aload_n 0, 1) := by decide +kernel
theorem dX6_append_61 : decode cX6_append 61 = .ok (.getfield 37, 3) := by decide +kernel
theorem dX6_append_64 : decode cX6_append 64 = .ok (.getfield 119, 3) := by decide +kernel
theorem dX6_append_67 : decode cX6_append 67 = .ok (.ireturn, 1) := by decide +kernel
theorem dX6_clearText_0 : decode cX6_clearText 0 = .ok (.aload_n 0, 1) := by decide +kernel
theorem dX6_clearText_1 : decode cX6_clearText 1 = .ok (.getfield 37, 3) := by decide +kernel
theorem dX6_clearText_4 : decode cX6_clearText 4 = .ok (.getfield 119, 3) := by decide +kernel
theorem dX6_clearText_7 : decode cX6_clearText 7 = .ok (.istore_n 1, 1) := by decide +kernel
theorem dX6_clearText_8 : decode cX6_clearText 8 = .ok (.aload_n 0, 1) := by decide +kernel
theorem dX6_clearText_9 : decode cX6_clearText 9 = .ok (.getfield 37, 3) := by decide +kernel
theorem dX6_clearText_12 : decode cX6_clearText 12 = .ok (.iconst 0, 1) := by decide +kernel
theorem dX6_clearText_13 : decode cX6_clearText 13 = .ok (.putfield 119, 3) := by decide +kernel
theorem dX6_clearText_16 : decode cX6_clearText 16 = .ok (.iload_n 1, 1) := by decide +kernel
theorem dX6_clearText_17 : decode cX6_clearText 17 = .ok (.ireturn, 1) := by decide +kernel
theorem dX6_faultPosition_0 : decode cX6_faultPosition 0 = .ok (.aload_n 0, 1) := by decide +kernel
theorem dX6_faultPosition_1 : decode cX6_faultPosition 1 = .ok (.getfield 37, 3) := by decide +kernel
theorem dX6_faultPosition_4 : decode cX6_faultPosition 4 = .ok (.invokevirtual 126, 3) := by decide +kernel
theorem dX6_faultPosition_7 : decode cX6_faultPosition 7 = .ok (.ireturn, 1) := by decide +kernel
theorem dX6_run_0 : decode cX6_run 0 = .ok (.aload_n 0, 1) := by decide +kernel
theorem dX6_run_1 : decode cX6_run 1 = .ok (.getfield 37, 3) := by decide +kernel
theorem dX6_run_4 : decode cX6_run 4 = .ok (.invokevirtual 126, 3) := by decide +kernel
theorem dX6_run_7 : decode cX6_run 7 = .ok (.bipush (-5), 2) := by decide +kernel
theorem dX6_run_9 : decode cX6_run 9 = .ok (.if_icmp .eq 6, 3) := by decide +kernel
theorem dX6_run_12 : decode cX6_run 12 = .ok (.bipush (-3), 2) := by decide +kernel
theorem dX6_run_14 : decode cX6_run 14 = .ok (.ireturn, 1) := by decide +kernel
theorem dX6_run_15 : decode cX6_run 15 = .ok (.aload_n 0, 1) := by decide +kernel
theorem dX6_run_16 : decode cX6_run 16 = .ok (.getfield 22, 3) := by decide +kernel
theorem dX6_run_19 : decode cX6_run 19 = .ok (.aload_n 0, 1) := by decide +kernel
theorem dX6_run_20 : decode cX6_run 20 = .ok (.getfield 10, 3) := by decide +kernel
theorem dX6_run_23 : decode cX6_run 23 = .ok (.invokevirtual 46, 3) := by decide +kernel
theorem dX6_run_26 : decode cX6_run 26 = .ok (.iconst 0, 1) := by decide +kernel
theorem dX6_run_27 : decode cX6_run 27 = .ok (.istore_n 1, 1) := by decide +kernel
theorem dX6_run_28 : decode cX6_run 28 = .ok (.iconst 0, 1) := by decide +kernel
theorem dX6_run_29 : decode cX6_run 29 = .ok (.istore_n 2, 1) := by decide +kernel
theorem dX6_run_30 : decode cX6_run 30 = .ok (.iload_n 1, 1) := by decide +kernel
theorem dX6_run_31 : decode cX6_run 31 = .ok (.bipush 80, 2) := by decide +kernel
theorem dX6_run_33 : decode cX6_run 33 = .ok (.if_icmp .ge 76, 3) := by decide +kernel
theorem dX6_run_36 : decode cX6_run 36 = .ok (.iload_n 2, 1) := by decide +kernel
theorem dX6_run_37 : decode cX6_run 37 = .ok (.aload_n 0, 1) := by decide +kernel
theorem dX6_run_38 : decode cX6_run 38 = .ok (.getfield 37, 3) := by decide +kernel
theorem dX6_run_41 : decode cX6_run 41 = .ok (.getfield 119, 3) := by decide +kernel
theorem dX6_run_44 : decode cX6_run 44 = .ok (.if_icmp .ge 65, 3) := by decide +kernel
theorem dX6_run_47 : decode cX6_run 47 = .ok (.aload_n 0, 1) := by decide +kernel
theorem dX6_run_48 : decode cX6_run 48 = .ok (.getfield 37, 3) := by decide +kernel
theorem dX6_run_51 : decode cX6_run 51 = .ok (.iload_n 2, 1) := by decide +kernel
theorem dX6_run_52 : decode cX6_run 52 = .ok (.invokevirtual 129, 3) := by decide +kernel
theorem dX6_run_55 : decode cX6_run 55 = .ok (.istore_n 3, 1) := by decide +kernel
theorem dX6_run_56 : decode cX6_run 56 = .ok (.aload_n 0, 1) := by decide +kernel
theorem dX6_run_57 : decode cX6_run 57 = .ok (.getfield 37, 3) := by decide +kernel
theorem dX6_run_60 : decode cX6_run 60 = .ok (.iload_n 2, 1) := by decide +kernel
theorem dX6_run_61 : decode cX6_run 61 = .ok (.iconst 1, 1) := by decide +kernel
theorem dX6_run_62 : decode cX6_run 62 = .ok (.iadd, 1) := by decide +kernel
theorem dX6_run_63 : decode cX6_run 63 = .ok (.invokevirtual 132, 3) := by decide +kernel
theorem dX6_run_66 : decode cX6_run 66 = .ok (.istore 4, 2) := by decide +kernel
theorem dX6_run_68 : decode cX6_run 68 = .ok (.aload_n 0, 1) := by decide +kernel
theorem dX6_run_69 : decode cX6_run 69 = .ok (.getfield 10, 3) := by decide +kernel
theorem dX6_run_72 : decode cX6_run 72 = .ok (.iload_n 3, 1) := by decide +kernel
theorem dX6_run_73 : decode cX6_run 73 = .ok (.iload 4, 2) := by decide +kernel
theorem dX6_run_75 : decode cX6_run 75 = .ok (.invokevirtual 135, 3) := by decide +kernel
theorem dX6_run_78 : decode cX6_run 78 = .ok (.ifCond .eq 5, 3) := by decide +kernel
theorem dX6_run_81 : decode cX6_run 81 = .ok (.iload_n 1, 1) := by decide +kernel
theorem dX6_run_82 : decode cX6_run 82 = .ok (.ireturn, 1) := by decide +kernel
theorem dX6_run_83 : decode cX6_run 83 = .ok (.aload_n 0, 1) := by decide +kernel
theorem dX6_run_84 : decode cX6_run 84 = .ok (.getfield 10, 3) := by decide +kernel
theorem dX6_run_87 : decode cX6_run 87 = .ok (.iload_n 3, 1) := by decide +kernel
theorem dX6_run_88 : decode cX6_run 88 = .ok (.iload 4, 2) := by decide +kernel
theorem dX6_run_90 : decode cX6_run 90 = .ok (.invokevirtual 138, 3) := by decide +kernel
theorem dX6_run_93 : decode cX6_run 93 = .ok (.pop, 1) := by decide +kernel
theorem dX6_run_94 : decode cX6_run 94 = .ok (.iinc 1 1, 3) := by decide +kernel
theorem dX6_run_97 : decode cX6_run 97 = .ok (.aload_n 0, 1) := by decide +kernel
theorem dX6_run_98 : decode cX6_run 98 = .ok (.getfield 37, 3) := by decide +kernel
theorem dX6_run_101 : decode cX6_run 101 = .ok (.iload_n 2, 1) := by decide +kernel
theorem dX6_run_102 : decode cX6_run 102 = .ok (.invokevirtual 141, 3) := by decide +kernel
theorem dX6_run_105 : decode cX6_run 105 = .ok (.istore_n 2, 1) := by decide +kernel
theorem dX6_run_106 : decode cX6_run 106 = .ok (.goto (-76), 3) := by decide +kernel
theorem dX6_run_109 : decode cX6_run 109 = .ok (.iload_n 1, 1) := by decide +kernel
theorem dX6_run_110 : decode cX6_run 110 = .ok (.ireturn, 1) := by decide +kernel
theorem dX6_undo_0 : decode cX6_undo 0 = .ok (.aload_n 0, 1) := by decide +kernel
theorem dX6_undo_1 : decode cX6_undo 1 = .ok (.getfield 22, 3) := by decide +kernel
theorem dX6_undo_4 : decode cX6_undo 4 = .ok (.getfield 144, 3) := by decide +kernel
theorem dX6_undo_7 : decode cX6_undo 7 = .ok (.iconst 1, 1) := by decide +kernel
theorem dX6_undo_8 : decode cX6_undo 8 = .ok (.if_icmp .ge 6, 3) := by decide +kernel
theorem dX6_undo_11 : decode cX6_undo 11 = .ok (.bipush (-3), 2) := by decide +kernel
theorem dX6_undo_13 : decode cX6_undo 13 = .ok (.ireturn, 1) := by decide +kernel
theorem dX6_undo_14 : decode cX6_undo 14 = .ok (.aload_n 0, 1) := by decide +kernel
theorem dX6_undo_15 : decode cX6_undo 15 = .ok (.getfield 22, 3) := by decide +kernel
theorem dX6_undo_18 : decode cX6_undo 18 = .ok (.aload_n 0, 1) := by decide +kernel
theorem dX6_undo_19 : decode cX6_undo 19 = .ok (.getfield 10, 3) := by decide +kernel
theorem dX6_undo_22 : decode cX6_undo 22 = .ok (.invokevirtual 145, 3) := by decide +kernel
theorem dX6_undo_25 : decode cX6_undo 25 = .ok (.aload_n 0, 1) := by decide +kernel
theorem dX6_undo_26 : decode cX6_undo 26 = .ok (.getfield 22, 3) := by decide +kernel
theorem dX6_undo_29 : decode cX6_undo 29 = .ok (.getfield 144, 3) := by decide +kernel
theorem dX6_undo_32 : decode cX6_undo 32 = .ok (.ireturn, 1) := by decide +kernel
theorem dX6_save_0 : decode cX6_save 0 = .ok (.iload_n 1, 1) := by decide +kernel
theorem dX6_save_1 : decode cX6_save 1 = .ok (.ifCond .lt 8, 3) := by decide +kernel
theorem dX6_save_4 : decode cX6_save 4 = .ok (.iload_n 1, 1) := by decide +kernel
theorem dX6_save_5 : decode cX6_save 5 = .ok (.iconst 2, 1) := by decide +kernel
theorem dX6_save_6 : decode cX6_save 6 = .ok (.if_icmp .lt 5, 3) := by decide +kernel
theorem dX6_save_9 : decode cX6_save 9 = .ok (.iconst (-1), 1) := by decide +kernel
theorem dX6_save_10 : decode cX6_save 10 = .ok (.ireturn, 1) := by decide +kernel
theorem dX6_save_11 : decode cX6_save 11 = .ok (.aload_n 0, 1) := by decide +kernel
theorem dX6_save_12 : decode cX6_save 12 = .ok (.getfield 26, 3) := by decide +kernel
theorem dX6_save_15 : decode cX6_save 15 = .ok (.iload_n 1, 1) := by decide +kernel
theorem dX6_save_16 : decode cX6_save 16 = .ok (.aaload, 1) := by decide +kernel
theorem dX6_save_17 : decode cX6_save 17 = .ok (.aload_n 0, 1) := by decide +kernel
theorem dX6_save_18 : decode cX6_save 18 = .ok (.getfield 10, 3) := by decide +kernel
theorem dX6_save_21 : decode cX6_save 21 = .ok (.invokevirtual 148, 3) := by decide +kernel
theorem dX6_save_24 : decode cX6_save 24 = .ok (.aload_n 0, 1) := by decide +kernel
theorem dX6_save_25 : decode cX6_save 25 = .ok (.getfield 30, 3) := by decide +kernel
theorem dX6_save_28 : decode cX6_save 28 = .ok (.iload_n 1, 1) := by decide +kernel
theorem dX6_save_29 : decode cX6_save 29 = .ok (.iconst 1, 1) := by decide +kernel
theorem dX6_save_30 : decode cX6_save 30 = .ok (.bastore, 1) := by decide +kernel
theorem dX6_save_31 : decode cX6_save 31 = .ok (.aload_n 0, 1) := by decide +kernel
theorem dX6_save_32 : decode cX6_save 32 = .ok (.getfield 10, 3) := by decide +kernel
theorem dX6_save_35 : decode cX6_save 35 = .ok (.getfield 151, 3) := by decide +kernel
theorem dX6_save_38 : decode cX6_save 38 = .ok (.ireturn, 1) := by decide +kernel
theorem dX6_restore_0 : decode cX6_restore 0 = .ok (.iload_n 1, 1) := by decide +kernel
theorem dX6_restore_1 : decode cX6_restore 1 = .ok (.ifCond .lt 8, 3) := by decide +kernel
theorem dX6_restore_4 : decode cX6_restore 4 = .ok (.iload_n 1, 1) := by decide +kernel
theorem dX6_restore_5 : decode cX6_restore 5 = .ok (.iconst 2, 1) := by decide +kernel
theorem dX6_restore_6 : decode cX6_restore 6 = .ok (.if_icmp .lt 5, 3) := by decide +kernel
theorem dX6_restore_9 : decode cX6_restore 9 = .ok (.iconst (-1), 1) := by decide +kernel
theorem dX6_restore_10 : decode cX6_restore 10 = .ok (.ireturn, 1) := by decide +kernel
theorem dX6_restore_11 : decode cX6_restore 11 = .ok (.aload_n 0, 1) := by decide +kernel
theorem dX6_restore_12 : decode cX6_restore 12 = .ok (.getfield 30, 3) := by decide +kernel
theorem dX6_restore_15 : decode cX6_restore 15 = .ok (.iload_n 1, 1) := by decide +kernel
theorem dX6_restore_16 : decode cX6_restore 16 = .ok (.baload, 1) := by decide +kernel
theorem dX6_restore_17 : decode cX6_restore 17 = .ok (.ifCond .ne 6, 3) := by decide +kernel
theorem dX6_restore_20 : decode cX6_restore 20 = .ok (.bipush (-3), 2) := by decide +kernel
theorem dX6_restore_22 : decode cX6_restore 22 = .ok (.ireturn, 1) := by decide +kernel
theorem dX6_restore_23 : decode cX6_restore 23 = .ok (.aload_n 0, 1) := by decide +kernel
theorem dX6_restore_24 : decode cX6_restore 24 = .ok (.getfield 22, 3) := by decide +kernel
theorem dX6_restore_27 : decode cX6_restore 27 = .ok (.aload_n 0, 1) := by decide +kernel
theorem dX6_restore_28 : decode cX6_restore 28 = .ok (.getfield 10, 3) := by decide +kernel
theorem dX6_restore_31 : decode cX6_restore 31 = .ok (.invokevirtual 46, 3) := by decide +kernel
theorem dX6_restore_34 : decode cX6_restore 34 = .ok (.aload_n 0, 1) := by decide +kernel
theorem dX6_restore_35 : decode cX6_restore 35 = .ok (.getfield 10, 3) := by decide +kernel
theorem dX6_restore_38 : decode cX6_restore 38 = .ok (.aload_n 0, 1) := by decide +kernel
theorem dX6_restore_39 : decode cX6_restore 39 = .ok (.getfield 26, 3) := by decide +kernel
theorem dX6_restore_42 : decode cX6_restore 42 = .ok (.iload_n 1, 1) := by decide +kernel
theorem dX6_restore_43 : decode cX6_restore 43 = .ok (.aaload, 1) := by decide +kernel
theorem dX6_restore_44 : decode cX6_restore 44 = .ok (.invokevirtual 148, 3) := by decide +kernel
theorem dX6_restore_47 : decode cX6_restore 47 = .ok (.aload_n 0, 1) := by decide +kernel
theorem dX6_restore_48 : decode cX6_restore 48 = .ok (.getfield 10, 3) := by decide +kernel
theorem dX6_restore_51 : decode cX6_restore 51 = .ok (.getfield 151, 3) := by decide +kernel
theorem dX6_restore_54 : decode cX6_restore 54 = .ok (.ireturn, 1) := by decide +kernel
theorem dX6_bits_0 : decode cX6_bits 0 = .ok (.aload_n 0, 1) := by decide +kernel
theorem dX6_bits_1 : decode cX6_bits 1 = .ok (.iload_n 1, 1) := by decide +kernel
theorem dX6_bits_2 : decode cX6_bits 2 = .ok (.invokevirtual 154, 3) := by decide +kernel
theorem dX6_bits_5 : decode cX6_bits 5 = .ok (.invokestatic 158, 3) := by decide +kernel
theorem dX6_bits_8 : decode cX6_bits 8 = .ok (.ireturn, 1) := by decide +kernel
theorem dX6_thousandths_0 : decode cX6_thousandths 0 = .ok (.aload_n 0, 1) := by decide +kernel
theorem dX6_thousandths_1 : decode cX6_thousandths 1 = .ok (.iload_n 1, 1) := by decide +kernel
theorem dX6_thousandths_2 : decode cX6_thousandths 2 = .ok (.invokevirtual 154, 3) := by decide +kernel
theorem dX6_thousandths_5 : decode cX6_thousandths 5 = .ok (.ldc 51, 2) := by decide +kernel
theorem dX6_thousandths_7 : decode cX6_thousandths 7 = .ok (.fmul, 1) := by decide +kernel
theorem dX6_thousandths_8 : decode cX6_thousandths 8 = .ok (.f2i, 1) := by decide +kernel
theorem dX6_thousandths_9 : decode cX6_thousandths 9 = .ok (.ireturn, 1) := by decide +kernel
theorem dX6_limit_0 : decode cX6_limit 0 = .ok (.iload_n 1, 1) := by decide +kernel
theorem dX6_limit_1 : decode cX6_limit 1 = .ok (.ifCond .lt 9, 3) := by decide +kernel
theorem dX6_limit_4 : decode cX6_limit 4 = .ok (.iload_n 1, 1) := by decide +kernel
theorem dX6_limit_5 : decode cX6_limit 5 = .ok (.ldc 41, 2) := by decide +kernel
theorem dX6_limit_7 : decode cX6_limit 7 = .ok (.if_icmp .le 6, 3) := by decide +kernel
theorem dX6_limit_10 : decode cX6_limit 10 = .ok (.bipush (-2), 2) := by decide +kernel
theorem dX6_limit_12 : decode cX6_limit 12 = .ok (.ireturn, 1) := by decide +kernel
theorem dX6_limit_13 : decode cX6_limit 13 = .ok (.aload_n 0, 1) := by decide +kernel
theorem dX6_limit_14 : decode cX6_limit 14 = .ok (.getfield 10, 3) := by decide +kernel
theorem dX6_limit_17 : decode cX6_limit 17 = .ok (.getfield 70, 3) := by decide +kernel
theorem dX6_limit_20 : decode cX6_limit 20 = .ok (.iload_n 1, 1) := by decide +kernel
theorem dX6_limit_21 : decode cX6_limit 21 = .ok (.i2f, 1) := by decide +kernel
theorem dX6_limit_22 : decode cX6_limit 22 = .ok (.ldc 50, 2) := by decide +kernel
theorem dX6_limit_24 : decode cX6_limit 24 = .ok (.fdiv, 1) := by decide +kernel
theorem dX6_limit_25 : decode cX6_limit 25 = .ok (.invokevirtual 162, 3) := by decide +kernel
theorem dX6_limit_28 : decode cX6_limit 28 = .ok (.invokestatic 158, 3) := by decide +kernel
theorem dX6_limit_31 : decode cX6_limit 31 = .ok (.ireturn, 1) := by decide +kernel
theorem dX6_judgement_0 : decode cX6_judgement 0 = .ok (.aload_n 0, 1) := by decide +kernel
theorem dX6_judgement_1 : decode cX6_judgement 1 = .ok (.getfield 10, 3) := by decide +kernel
theorem dX6_judgement_4 : decode cX6_judgement 4 = .ok (.invokevirtual 56, 3) := by decide +kernel
theorem dX6_judgement_7 : decode cX6_judgement 7 = .ok (.ireturn, 1) := by decide +kernel
theorem dX6_stop_0 : decode cX6_stop 0 = .ok (.aload_n 0, 1) := by decide +kernel
theorem dX6_stop_1 : decode cX6_stop 1 = .ok (.getfield 10, 3) := by decide +kernel
theorem dX6_stop_4 : decode cX6_stop 4 = .ok (.getfield 88, 3) := by decide +kernel
theorem dX6_stop_7 : decode cX6_stop 7 = .ok (.astore_n 3, 1) := by decide +kernel
theorem dX6_stop_8 : decode cX6_stop 8 = .ok (.aload_n 3, 1) := by decide +kernel
theorem dX6_stop_9 : decode cX6_stop 9 = .ok (.iload_n 1, 1) := by decide +kernel
theorem dX6_stop_10 : decode cX6_stop 10 = .ok (.invokevirtual 166, 3) := by decide +kernel
theorem dX6_stop_13 : decode cX6_stop 13 = .ok (.ifCond .ne 5, 3) := by decide +kernel
theorem dX6_stop_16 : decode cX6_stop 16 = .ok (.iconst (-1), 1) := by decide +kernel
theorem dX6_stop_17 : decode cX6_stop 17 = .ok (.ireturn, 1) := by decide +kernel
theorem dX6_stop_18 : decode cX6_stop 18 = .ok (.iload_n 2, 1) := by decide +kernel
theorem dX6_stop_19 : decode cX6_stop 19 = .ok (.tableswitch 64 0 2 #[25, 32, 47], 25) := by decide +kernel
theorem dX6_stop_44 : decode cX6_stop 44 = .ok (.aload_n 3, 1) := by decide +kernel
theorem dX6_stop_45 : decode cX6_stop 45 = .ok (.getfield 169, 3) := by decide +kernel
theorem dX6_stop_48 : decode cX6_stop 48 = .ok (.iload_n 1, 1) := by decide +kernel
theorem dX6_stop_49 : decode cX6_stop 49 = .ok (.iaload, 1) := by decide +kernel
theorem dX6_stop_50 : decode cX6_stop 50 = .ok (.ireturn, 1) := by decide +kernel
theorem dX6_stop_51 : decode cX6_stop 51 = .ok (.aload_n 3, 1) := by decide +kernel
theorem dX6_stop_52 : decode cX6_stop 52 = .ok (.getfield 172, 3) := by decide +kernel
theorem dX6_stop_55 : decode cX6_stop 55 = .ok (.iload_n 1, 1) := by decide +kernel
theorem dX6_stop_56 : decode cX6_stop 56 = .ok (.baload, 1) := by decide +kernel
theorem dX6_stop_57 : decode cX6_stop 57 = .ok (.ifCond .eq 7, 3) := by decide +kernel
theorem dX6_stop_60 : decode cX6_stop 60 = .ok (.iconst 1, 1) := by decide +kernel
theorem dX6_stop_61 : decode cX6_stop 61 = .ok (.goto 4, 3) := by decide +kernel
theorem dX6_stop_64 : decode cX6_stop 64 = .ok (.iconst 0, 1) := by decide +kernel
theorem dX6_stop_65 : decode cX6_stop 65 = .ok (.ireturn, 1) := by decide +kernel
theorem dX6_stop_66 : decode cX6_stop 66 = .ok (.aload_n 0, 1) := by decide +kernel
theorem dX6_stop_67 : decode cX6_stop 67 = .ok (.getfield 10, 3) := by decide +kernel
theorem dX6_stop_70 : decode cX6_stop 70 = .ok (.getfield 175, 3) := by decide +kernel
theorem dX6_stop_73 : decode cX6_stop 73 = .ok (.iload_n 1, 1) := by decide +kernel
theorem dX6_stop_74 : decode cX6_stop 74 = .ok (.if_icmp .ne 7, 3) := by decide +kernel
theorem dX6_stop_77 : decode cX6_stop 77 = .ok (.iconst 1, 1) := by decide +kernel
theorem dX6_stop_78 : decode cX6_stop 78 = .ok (.goto 4, 3) := by decide +kernel
theorem dX6_stop_81 : decode cX6_stop 81 = .ok (.iconst 0, 1) := by decide +kernel
theorem dX6_stop_82 : decode cX6_stop 82 = .ok (.ireturn, 1) := by decide +kernel
theorem dX6_stop_83 : decode cX6_stop 83 = .ok (.bipush (-2), 2) := by decide +kernel
theorem dX6_stop_85 : decode cX6_stop 85 = .ok (.ireturn, 1) := by decide +kernel
theorem dX6_point_0 : decode cX6_point 0 = .ok (.aload_n 0, 1) := by decide +kernel
theorem dX6_point_1 : decode cX6_point 1 = .ok (.getfield 10, 3) := by decide +kernel
theorem dX6_point_4 : decode cX6_point 4 = .ok (.getfield 70, 3) := by decide +kernel
theorem dX6_point_7 : decode cX6_point 7 = .ok (.astore_n 3, 1) := by decide +kernel
theorem dX6_point_8 : decode cX6_point 8 = .ok (.iload_n 1, 1) := by decide +kernel
theorem dX6_point_9 : decode cX6_point 9 = .ok (.ifCond .lt 11, 3) := by decide +kernel
theorem dX6_point_12 : decode cX6_point 12 = .ok (.iload_n 1, 1) := by decide +kernel
theorem dX6_point_13 : decode cX6_point 13 = .ok (.aload_n 3, 1) := by decide +kernel
theorem dX6_point_14 : decode cX6_point 14 = .ok (.getfield 84, 3) := by decide +kernel
theorem dX6_point_17 : decode cX6_point 17 = .ok (.if_icmp .lt 5, 3) := by decide +kernel
theorem dX6_point_20 : decode cX6_point 20 = .ok (.iconst (-1), 1) := by decide +kernel
theorem dX6_point_21 : decode cX6_point 21 = .ok (.ireturn, 1) := by decide +kernel
theorem dX6_point_22 : decode cX6_point 22 = .ok (.iload_n 2, 1) := by decide +kernel
theorem dX6_point_23 : decode cX6_point 23 = .ok (.lookupswitch 39 #[(0, 25), (1, 32)], 25) := by decide +kernel
theorem dX6_point_48 : decode cX6_point 48 = .ok (.aload_n 3, 1) := by decide +kernel
theorem dX6_point_49 : decode cX6_point 49 = .ok (.getfield 178, 3) := by decide +kernel
theorem dX6_point_52 : decode cX6_point 52 = .ok (.iload_n 1, 1) := by decide +kernel
theorem dX6_point_53 : decode cX6_point 53 = .ok (.iaload, 1) := by decide +kernel
theorem dX6_point_54 : decode cX6_point 54 = .ok (.ireturn, 1) := by decide +kernel
theorem dX6_point_55 : decode cX6_point 55 = .ok (.aload_n 3, 1) := by decide +kernel
theorem dX6_point_56 : decode cX6_point 56 = .ok (.getfield 179, 3) := by decide +kernel
theorem dX6_point_59 : decode cX6_point 59 = .ok (.iload_n 1, 1) := by decide +kernel
theorem dX6_point_60 : decode cX6_point 60 = .ok (.iaload, 1) := by decide +kernel
theorem dX6_point_61 : decode cX6_point 61 = .ok (.ireturn, 1) := by decide +kernel
theorem dX6_point_62 : decode cX6_point 62 = .ok (.bipush (-2), 2) := by decide +kernel
theorem dX6_point_64 : decode cX6_point 64 = .ok (.ireturn, 1) := by decide +kernel
theorem dX6_total_0 : decode cX6_total 0 = .ok (.iload_n 1, 1) := by decide +kernel
theorem dX6_total_1 : decode cX6_total 1 = .ok (.tableswitch 207 0 12 #[67, 75, 83, 91, 102, 121, 139, 150, 161, 172, 180, 188, 196], 67) := by decide +kernel
theorem dX6_total_68 : decode cX6_total 68 = .ok (.aload_n 0, 1) := by decide +kernel
theorem dX6_total_69 : decode cX6_total 69 = .ok (.getfield 10, 3) := by decide +kernel
theorem dX6_total_72 : decode cX6_total 72 = .ok (.getfield 151, 3) := by decide +kernel
theorem dX6_total_75 : decode cX6_total 75 = .ok (.ireturn, 1) := by decide +kernel
theorem dX6_total_76 : decode cX6_total 76 = .ok (.aload_n 0, 1) := by decide +kernel
theorem dX6_total_77 : decode cX6_total 77 = .ok (.getfield 10, 3) := by decide +kernel
theorem dX6_total_80 : decode cX6_total 80 = .ok (.getfield 182, 3) := by decide +kernel
theorem dX6_total_83 : decode cX6_total 83 = .ok (.ireturn, 1) := by decide +kernel
theorem dX6_total_84 : decode cX6_total 84 = .ok (.aload_n 0, 1) := by decide +kernel
theorem dX6_total_85 : decode cX6_total 85 = .ok (.getfield 10, 3) := by decide +kernel
theorem dX6_total_88 : decode cX6_total 88 = .ok (.getfield 185, 3) := by decide +kernel
theorem dX6_total_91 : decode cX6_total 91 = .ok (.ireturn, 1) := by decide +kernel
theorem dX6_total_92 : decode cX6_total 92 = .ok (.aload_n 0, 1) := by decide +kernel
theorem dX6_total_93 : decode cX6_total 93 = .ok (.getfield 10, 3) := by decide +kernel
theorem dX6_total_96 : decode cX6_total 96 = .ok (.getfield 99, 3) := by decide +kernel
theorem dX6_total_99 : decode cX6_total 99 = .ok (.getfield 188, 3) := by decide +kernel
theorem dX6_total_102 : decode cX6_total 102 = .ok (.ireturn, 1) := by decide +kernel
theorem dX6_total_103 : decode cX6_total 103 = .ok (.aload_n 0, 1) := by decide +kernel
theorem dX6_total_104 : decode cX6_total 104 = .ok (.getfield 10, 3) := by decide +kernel
theorem dX6_total_107 : decode cX6_total 107 = .ok (.getfield 99, 3) := by decide +kernel
theorem dX6_total_110 : decode cX6_total 110 = .ok (.getfield 111, 3) := by decide +kernel
theorem dX6_total_113 : decode cX6_total 113 = .ok (.ifCond .eq 7, 3) := by decide +kernel
theorem dX6_total_116 : decode cX6_total 116 = .ok (.iconst 1, 1) := by decide +kernel
theorem dX6_total_117 : decode cX6_total 117 = .ok (.goto 4, 3) := by decide +kernel
theorem dX6_total_120 : decode cX6_total 120 = .ok (.iconst 0, 1) := by decide +kernel
theorem dX6_total_121 : decode cX6_total 121 = .ok (.ireturn, 1) := by decide +kernel
theorem dX6_total_122 : decode cX6_total 122 = .ok (.aload_n 0, 1) := by decide +kernel
theorem dX6_total_123 : decode cX6_total 123 = .ok (.getfield 10, 3) := by decide +kernel
theorem dX6_total_126 : decode cX6_total 126 = .ok (.getfield 88, 3) := by decide +kernel
theorem dX6_total_129 : decode cX6_total 129 = .ok (.aload_n 0, 1) := by decide +kernel
theorem dX6_total_130 : decode cX6_total 130 = .ok (.getfield 10, 3) := by decide +kernel
theorem dX6_total_133 : decode cX6_total 133 = .ok (.getfield 191, 3) := by decide +kernel
theorem dX6_total_136 : decode cX6_total 136 = .ok (.invokevirtual 195, 3) := by decide +kernel
theorem dX6_total_139 : decode cX6_total 139 = .ok (.ireturn, 1) := by decide +kernel
theorem dX6_total_140 : decode cX6_total 140 = .ok (.aload_n 0, 1) := by decide +kernel
theorem dX6_total_141 : decode cX6_total 141 = .ok (.getfield 10, 3) := by decide +kernel
theorem dX6_total_144 : decode cX6_total 144 = .ok (.getfield 70, 3) := by decide +kernel
theorem dX6_total_147 : decode cX6_total 147 = .ok (.getfield 84, 3) := by decide +kernel
theorem dX6_total_150 : decode cX6_total 150 = .ok (.ireturn, 1) := by decide +kernel
theorem dX6_total_151 : decode cX6_total 151 = .ok (.aload_n 0, 1) := by decide +kernel
theorem dX6_total_152 : decode cX6_total 152 = .ok (.getfield 10, 3) := by decide +kernel
theorem dX6_total_155 : decode cX6_total 155 = .ok (.getfield 88, 3) := by decide +kernel
theorem dX6_total_158 : decode cX6_total 158 = .ok (.getfield 92, 3) := by decide +kernel
theorem dX6_total_161 : decode cX6_total 161 = .ok (.ireturn, 1) := by decide +kernel
theorem dX6_total_162 : decode cX6_total 162 = .ok (.aload_n 0, 1) := by decide +kernel
theorem dX6_total_163 : decode cX6_total 163 = .ok (.getfield 10, 3) := by decide +kernel
theorem dX6_total_166 : decode cX6_total 166 = .ok (.getfield 88, 3) := by decide +kernel
theorem dX6_total_169 : decode cX6_total 169 = .ok (.invokevirtual 198, 3) := by decide +kernel
theorem dX6_total_172 : decode cX6_total 172 = .ok (.ireturn, 1) := by decide +kernel
theorem dX6_total_173 : decode cX6_total 173 = .ok (.aload_n 0, 1) := by decide +kernel
theorem dX6_total_174 : decode cX6_total 174 = .ok (.getfield 22, 3) := by decide +kernel
theorem dX6_total_177 : decode cX6_total 177 = .ok (.getfield 144, 3) := by decide +kernel
theorem dX6_total_180 : decode cX6_total 180 = .ok (.ireturn, 1) := by decide +kernel
theorem dX6_total_181 : decode cX6_total 181 = .ok (.aload_n 0, 1) := by decide +kernel
theorem dX6_total_182 : decode cX6_total 182 = .ok (.getfield 37, 3) := by decide +kernel
theorem dX6_total_185 : decode cX6_total 185 = .ok (.getfield 119, 3) := by decide +kernel
theorem dX6_total_188 : decode cX6_total 188 = .ok (.ireturn, 1) := by decide +kernel
theorem dX6_total_189 : decode cX6_total 189 = .ok (.aload_n 0, 1) := by decide +kernel
theorem dX6_total_190 : decode cX6_total 190 = .ok (.getfield 10, 3) := by decide +kernel
theorem dX6_total_193 : decode cX6_total 193 = .ok (.getfield 201, 3) := by decide +kernel
theorem dX6_total_196 : decode cX6_total 196 = .ok (.ireturn, 1) := by decide +kernel
theorem dX6_total_197 : decode cX6_total 197 = .ok (.aload_n 0, 1) := by decide +kernel
theorem dX6_total_198 : decode cX6_total 198 = .ok (.getfield 10, 3) := by decide +kernel
theorem dX6_total_201 : decode cX6_total 201 = .ok (.getfield 99, 3) := by decide +kernel
theorem dX6_total_204 : decode cX6_total 204 = .ok (.getfield 204, 3) := by decide +kernel
theorem dX6_total_207 : decode cX6_total 207 = .ok (.ireturn, 1) := by decide +kernel
theorem dX6_total_208 : decode cX6_total 208 = .ok (.aload_n 0, 1) := by decide +kernel
theorem dX6_total_209 : decode cX6_total 209 = .ok (.iload_n 1, 1) := by decide +kernel
theorem dX6_total_210 : decode cX6_total 210 = .ok (.bipush 13, 2) := by decide +kernel
theorem dX6_total_212 : decode cX6_total 212 = .ok (.isub, 1) := by decide +kernel
theorem dX6_total_213 : decode cX6_total 213 = .ok (.invokevirtual 207, 3) := by decide +kernel
theorem dX6_total_216 : decode cX6_total 216 = .ok (.ireturn, 1) := by decide +kernel
theorem dX6_modeIn_0 : decode cX6_modeIn 0 = .ok (.iload_n 1, 1) := by decide +kernel
theorem dX6_modeIn_1 : decode cX6_modeIn 1 = .ok (.ifCond .lt 10, 3) := by decide +kernel
theorem dX6_modeIn_4 : decode cX6_modeIn 4 = .ok (.iload_n 1, 1) := by decide +kernel
theorem dX6_modeIn_5 : decode cX6_modeIn 5 = .ok (.sipush 500, 3) := by decide +kernel
theorem dX6_modeIn_8 : decode cX6_modeIn 8 = .ok (.if_icmp .le 6, 3) := by decide +kernel
theorem dX6_modeIn_11 : decode cX6_modeIn 11 = .ok (.bipush (-2), 2) := by decide +kernel
theorem dX6_modeIn_13 : decode cX6_modeIn 13 = .ok (.ireturn, 1) := by decide +kernel
theorem dX6_modeIn_14 : decode cX6_modeIn 14 = .ok (.aload_n 0, 1) := by decide +kernel
theorem dX6_modeIn_15 : decode cX6_modeIn 15 = .ok (.getfield 16, 3) := by decide +kernel
theorem dX6_modeIn_18 : decode cX6_modeIn 18 = .ok (.aload_n 0, 1) := by decide +kernel
theorem dX6_modeIn_19 : decode cX6_modeIn 19 = .ok (.getfield 10, 3) := by decide +kernel
theorem dX6_modeIn_22 : decode cX6_modeIn 22 = .ok (.invokevirtual 148, 3) := by decide +kernel
theorem dX6_modeIn_25 : decode cX6_modeIn 25 = .ok (.iconst 0, 1) := by decide +kernel
theorem dX6_modeIn_26 : decode cX6_modeIn 26 = .ok (.istore_n 2, 1) := by decide +kernel
theorem dX6_modeIn_27 : decode cX6_modeIn 27 = .ok (.iload_n 2, 1) := by decide +kernel
theorem dX6_modeIn_28 : decode cX6_modeIn 28 = .ok (.iload_n 1, 1) := by decide +kernel
theorem dX6_modeIn_29 : decode cX6_modeIn 29 = .ok (.if_icmp .ge 16, 3) := by decide +kernel
theorem dX6_modeIn_32 : decode cX6_modeIn 32 = .ok (.aload_n 0, 1) := by decide +kernel
theorem dX6_modeIn_33 : decode cX6_modeIn 33 = .ok (.getfield 16, 3) := by decide +kernel
theorem dX6_modeIn_36 : decode cX6_modeIn 36 = .ok (.invokevirtual 210, 3) := by decide +kernel
theorem dX6_modeIn_39 : decode cX6_modeIn 39 = .ok (.iinc 2 1, 3) := by decide +kernel
theorem dX6_modeIn_42 : decode cX6_modeIn 42 = .ok (.goto (-15), 3) := by decide +kernel
theorem dX6_modeIn_45 : decode cX6_modeIn 45 = .ok (.aload_n 0, 1) := by decide +kernel
theorem dX6_modeIn_46 : decode cX6_modeIn 46 = .ok (.getfield 16, 3) := by decide +kernel
theorem dX6_modeIn_49 : decode cX6_modeIn 49 = .ok (.getfield 151, 3) := by decide +kernel
theorem dX6_modeIn_52 : decode cX6_modeIn 52 = .ok (.ireturn, 1) := by decide +kernel
theorem dX6_secondsTo_0 : decode cX6_secondsTo 0 = .ok (.iload_n 1, 1) := by decide +kernel
theorem dX6_secondsTo_1 : decode cX6_secondsTo 1 = .ok (.ifCond .lt 8, 3) := by decide +kernel
theorem dX6_secondsTo_4 : decode cX6_secondsTo 4 = .ok (.iload_n 1, 1) := by decide +kernel
theorem dX6_secondsTo_5 : decode cX6_secondsTo 5 = .ok (.iconst 5, 1) := by decide +kernel
theorem dX6_secondsTo_6 : decode cX6_secondsTo 6 = .ok (.if_icmp .le 6, 3) := by decide +kernel
theorem dX6_secondsTo_9 : decode cX6_secondsTo 9 = .ok (.bipush (-2), 2) := by decide +kernel
theorem dX6_secondsTo_11 : decode cX6_secondsTo 11 = .ok (.ireturn, 1) := by decide +kernel
theorem dX6_secondsTo_12 : decode cX6_secondsTo 12 = .ok (.aload_n 0, 1) := by decide +kernel
theorem dX6_secondsTo_13 : decode cX6_secondsTo 13 = .ok (.getfield 16, 3) := by decide +kernel
theorem dX6_secondsTo_16 : decode cX6_secondsTo 16 = .ok (.aload_n 0, 1) := by decide +kernel
theorem dX6_secondsTo_17 : decode cX6_secondsTo 17 = .ok (.getfield 10, 3) := by decide +kernel
theorem dX6_secondsTo_20 : decode cX6_secondsTo 20 = .ok (.invokevirtual 148, 3) := by decide +kernel
theorem dX6_secondsTo_23 : decode cX6_secondsTo 23 = .ok (.iconst 0, 1) := by decide +kernel
theorem dX6_secondsTo_24 : decode cX6_secondsTo 24 = .ok (.istore_n 2, 1) := by decide +kernel
theorem dX6_secondsTo_25 : decode cX6_secondsTo 25 = .ok (.iload_n 2, 1) := by decide +kernel
theorem dX6_secondsTo_26 : decode cX6_secondsTo 26 = .ok (.sipush 500, 3) := by decide +kernel
theorem dX6_secondsTo_29 : decode cX6_secondsTo 29 = .ok (.if_icmp .ge 29, 3) := by decide +kernel
theorem dX6_secondsTo_32 : decode cX6_secondsTo 32 = .ok (.aload_n 0, 1) := by decide +kernel
theorem dX6_secondsTo_33 : decode cX6_secondsTo 33 = .ok (.getfield 16, 3) := by decide +kernel
theorem dX6_secondsTo_36 : decode cX6_secondsTo 36 = .ok (.getfield 151, 3) := by decide +kernel
theorem dX6_secondsTo_39 : decode cX6_secondsTo 39 = .ok (.iload_n 1, 1) := by decide +kernel
theorem dX6_secondsTo_40 : decode cX6_secondsTo 40 = .ok (.if_icmp .ne 5, 3) := by decide +kernel
theorem dX6_secondsTo_43 : decode cX6_secondsTo 43 = .ok (.iload_n 2, 1) := by decide +kernel
theorem dX6_secondsTo_44 : decode cX6_secondsTo 44 = .ok (.ireturn, 1) := by decide +kernel
theorem dX6_secondsTo_45 : decode cX6_secondsTo 45 = .ok (.aload_n 0, 1) := by decide +kernel
theorem dX6_secondsTo_46 : decode cX6_secondsTo 46 = .ok (.getfield 16, 3) := by decide +kernel
theorem dX6_secondsTo_49 : decode cX6_secondsTo 49 = .ok (.invokevirtual 210, 3) := by decide +kernel
theorem dX6_secondsTo_52 : decode cX6_secondsTo 52 = .ok (.iinc 2 1, 3) := by decide +kernel
theorem dX6_secondsTo_55 : decode cX6_secondsTo 55 = .ok (.goto (-30), 3) := by decide +kernel
theorem dX6_secondsTo_58 : decode cX6_secondsTo 58 = .ok (.aload_n 0, 1) := by decide +kernel
theorem dX6_secondsTo_59 : decode cX6_secondsTo 59 = .ok (.getfield 16, 3) := by decide +kernel
theorem dX6_secondsTo_62 : decode cX6_secondsTo 62 = .ok (.getfield 151, 3) := by decide +kernel
theorem dX6_secondsTo_65 : decode cX6_secondsTo 65 = .ok (.iload_n 1, 1) := by decide +kernel
theorem dX6_secondsTo_66 : decode cX6_secondsTo 66 = .ok (.if_icmp .ne 9, 3) := by decide +kernel
theorem dX6_secondsTo_69 : decode cX6_secondsTo 69 = .ok (.sipush 500, 3) := by decide +kernel
theorem dX6_secondsTo_72 : decode cX6_secondsTo 72 = .ok (.goto 5, 3) := by decide +kernel
theorem dX6_secondsTo_75 : decode cX6_secondsTo 75 = .ok (.bipush (-5), 2) := by decide +kernel
theorem dX6_secondsTo_77 : decode cX6_secondsTo 77 = .ok (.ireturn, 1) := by decide +kernel
theorem dX6_closest_0 : decode cX6_closest 0 = .ok (.iload_n 1, 1) := by decide +kernel
theorem dX6_closest_1 : decode cX6_closest 1 = .ok (.ifCond .lt 10, 3) := by decide +kernel
theorem dX6_closest_4 : decode cX6_closest 4 = .ok (.iload_n 1, 1) := by decide +kernel
theorem dX6_closest_5 : decode cX6_closest 5 = .ok (.sipush 500, 3) := by decide +kernel
theorem dX6_closest_8 : decode cX6_closest 8 = .ok (.if_icmp .le 6, 3) := by decide +kernel
theorem dX6_closest_11 : decode cX6_closest 11 = .ok (.bipush (-2), 2) := by decide +kernel
theorem dX6_closest_13 : decode cX6_closest 13 = .ok (.ireturn, 1) := by decide +kernel
theorem dX6_closest_14 : decode cX6_closest 14 = .ok (.aload_n 0, 1) := by decide +kernel
theorem dX6_closest_15 : decode cX6_closest 15 = .ok (.getfield 10, 3) := by decide +kernel
theorem dX6_closest_18 : decode cX6_closest 18 = .ok (.iload_n 1, 1) := by decide +kernel
theorem dX6_closest_19 : decode cX6_closest 19 = .ok (.invokevirtual 213, 3) := by decide +kernel
theorem dX6_closest_22 : decode cX6_closest 22 = .ok (.invokestatic 158, 3) := by decide +kernel
theorem dX6_closest_25 : decode cX6_closest 25 = .ok (.ireturn, 1) := by decide +kernel
theorem dX6_safeSpeed_0 : decode cX6_safeSpeed 0 = .ok (.sipush 5000, 3) := by decide +kernel
theorem dX6_safeSpeed_3 : decode cX6_safeSpeed 3 = .ok (.istore_n 1, 1) := by decide +kernel
theorem dX6_safeSpeed_4 : decode cX6_safeSpeed 4 = .ok (.iload_n 1, 1) := by decide +kernel
theorem dX6_safeSpeed_5 : decode cX6_safeSpeed 5 = .ok (.ifCond .lt 41, 3) := by decide +kernel
theorem dX6_safeSpeed_8 : decode cX6_safeSpeed 8 = .ok (.fconst 0, 1) := by decide +kernel
theorem dX6_safeSpeed_9 : decode cX6_safeSpeed 9 = .ok (.iload_n 1, 1) := by decide +kernel
theorem dX6_safeSpeed_10 : decode cX6_safeSpeed 10 = .ok (.i2f, 1) := by decide +kernel
theorem dX6_safeSpeed_11 : decode cX6_safeSpeed 11 = .ok (.ldc 51, 2) := by decide +kernel
theorem dX6_safeSpeed_13 : decode cX6_safeSpeed 13 = .ok (.fdiv, 1) := by decide +kernel
theorem dX6_safeSpeed_14 : decode cX6_safeSpeed 14 = .ok (.fsub, 1) := by decide +kernel
theorem dX6_safeSpeed_15 : decode cX6_safeSpeed 15 = .ok (.fstore_n 2, 1) := by decide +kernel
theorem dX6_safeSpeed_16 : decode cX6_safeSpeed 16 = .ok (.aload_n 0, 1) := by decide +kernel
theorem dX6_safeSpeed_17 : decode cX6_safeSpeed 17 = .ok (.getfield 10, 3) := by decide +kernel
theorem dX6_safeSpeed_20 : decode cX6_safeSpeed 20 = .ok (.fload_n 2, 1) := by decide +kernel
theorem dX6_safeSpeed_21 : decode cX6_safeSpeed 21 = .ok (.invokevirtual 216, 3) := by decide +kernel
theorem dX6_safeSpeed_24 : decode cX6_safeSpeed 24 = .ok (.ifCond .ne 16, 3) := by decide +kernel
theorem dX6_safeSpeed_27 : decode cX6_safeSpeed 27 = .ok (.aload_n 0, 1) := by decide +kernel
theorem dX6_safeSpeed_28 : decode cX6_safeSpeed 28 = .ok (.getfield 10, 3) := by decide +kernel
theorem dX6_safeSpeed_31 : decode cX6_safeSpeed 31 = .ok (.fload_n 2, 1) := by decide +kernel
theorem dX6_safeSpeed_32 : decode cX6_safeSpeed 32 = .ok (.invokevirtual 220, 3) := by decide +kernel
theorem dX6_safeSpeed_35 : decode cX6_safeSpeed 35 = .ok (.ifCond .ne 5, 3) := by decide +kernel
theorem dX6_safeSpeed_38 : decode cX6_safeSpeed 38 = .ok (.iload_n 1, 1) := by decide +kernel
theorem dX6_safeSpeed_39 : decode cX6_safeSpeed 39 = .ok (.ireturn, 1) := by decide +kernel
theorem dX6_safeSpeed_40 : decode cX6_safeSpeed 40 = .ok (.iinc 1 (-1), 3) := by decide +kernel
theorem dX6_safeSpeed_43 : decode cX6_safeSpeed 43 = .ok (.goto (-39), 3) := by decide +kernel
theorem dX6_safeSpeed_46 : decode cX6_safeSpeed 46 = .ok (.bipush (-5), 2) := by decide +kernel
theorem dX6_safeSpeed_48 : decode cX6_safeSpeed 48 = .ok (.ireturn, 1) := by decide +kernel
theorem dX6_actRecorded_0 : decode cX6_actRecorded 0 = .ok (.aload_n 0, 1) := by decide +kernel
theorem dX6_actRecorded_1 : decode cX6_actRecorded 1 = .ok (.getfield 10, 3) := by decide +kernel
end
section
theorem dX6_actRecorded_4 : decode cX6_actRecorded 4 = .ok (.iload_n 1, 1) := by decide +kernel
theorem dX6_actRecorded_5 : decode cX6_actRecorded 5 = .ok (.iload_n 2, 1) := by decide +kernel
theorem dX6_actRecorded_6 : decode cX6_actRecorded 6 = .ok (.invokevirtual 135, 3) := by decide +kernel
theorem dX6_actRecorded_9 : decode cX6_actRecorded 9 = .ok (.istore_n 3, 1) := by decide +kernel
theorem dX6_actRecorded_10 : decode cX6_actRecorded 10 = .ok (.iload_n 3, 1) := by decide +kernel
theorem dX6_actRecorded_11 : decode cX6_actRecorded 11 = .ok (.ifCond .eq 5, 3) := by decide +kernel
theorem dX6_actRecorded_14 : decode cX6_actRecorded 14 = .ok (.iload_n 3, 1) := by decide +kernel
theorem dX6_actRecorded_15 : decode cX6_actRecorded 15 = .ok (.ireturn, 1) := by decide +kernel
theorem dX6_actRecorded_16 : decode cX6_actRecorded 16 = .ok (.aload_n 0, 1) := by decide +kernel
theorem dX6_actRecorded_17 : decode cX6_actRecorded 17 = .ok (.getfield 22, 3) := by decide +kernel
theorem dX6_actRecorded_20 : decode cX6_actRecorded 20 = .ok (.aload_n 0, 1) := by decide +kernel
theorem dX6_actRecorded_21 : decode cX6_actRecorded 21 = .ok (.getfield 10, 3) := by decide +kernel
theorem dX6_actRecorded_24 : decode cX6_actRecorded 24 = .ok (.invokevirtual 46, 3) := by decide +kernel
theorem dX6_actRecorded_27 : decode cX6_actRecorded 27 = .ok (.aload_n 0, 1) := by decide +kernel
theorem dX6_actRecorded_28 : decode cX6_actRecorded 28 = .ok (.getfield 10, 3) := by decide +kernel
theorem dX6_actRecorded_31 : decode cX6_actRecorded 31 = .ok (.iload_n 1, 1) := by decide +kernel
theorem dX6_actRecorded_32 : decode cX6_actRecorded 32 = .ok (.iload_n 2, 1) := by decide +kernel
theorem dX6_actRecorded_33 : decode cX6_actRecorded 33 = .ok (.invokevirtual 138, 3) := by decide +kernel
theorem dX6_actRecorded_36 : decode cX6_actRecorded 36 = .ok (.ireturn, 1) := by decide +kernel
theorem dX6_settingAt_0 : decode cX6_settingAt 0 = .ok (.iload_n 1, 1) := by decide +kernel
theorem dX6_settingAt_1 : decode cX6_settingAt 1 = .ok (.ifCond .lt 9, 3) := by decide +kernel
theorem dX6_settingAt_4 : decode cX6_settingAt 4 = .ok (.iload_n 1, 1) := by decide +kernel
theorem dX6_settingAt_5 : decode cX6_settingAt 5 = .ok (.bipush 8, 2) := by decide +kernel
theorem dX6_settingAt_7 : decode cX6_settingAt 7 = .ok (.if_icmp .lt 8, 3) := by decide +kernel
theorem dX6_settingAt_10 : decode cX6_settingAt 10 = .ok (.bipush (-2), 2) := by decide +kernel
theorem dX6_settingAt_12 : decode cX6_settingAt 12 = .ok (.goto 12, 3) := by decide +kernel
theorem dX6_settingAt_15 : decode cX6_settingAt 15 = .ok (.aload_n 0, 1) := by decide +kernel
theorem dX6_settingAt_16 : decode cX6_settingAt 16 = .ok (.getfield 10, 3) := by decide +kernel
theorem dX6_settingAt_19 : decode cX6_settingAt 19 = .ok (.getfield 67, 3) := by decide +kernel
theorem dX6_settingAt_22 : decode cX6_settingAt 22 = .ok (.iload_n 1, 1) := by decide +kernel
theorem dX6_settingAt_23 : decode cX6_settingAt 23 = .ok (.iaload, 1) := by decide +kernel
theorem dX6_settingAt_24 : decode cX6_settingAt 24 = .ok (.ireturn, 1) := by decide +kernel
theorem dX6_numberOfShip_0 : decode cX6_numberOfShip 0 = .ok (.aload_n 0, 1) := by decide +kernel
theorem dX6_numberOfShip_1 : decode cX6_numberOfShip 1 = .ok (.getfield 10, 3) := by decide +kernel
theorem dX6_numberOfShip_4 : decode cX6_numberOfShip 4 = .ok (.getfield 99, 3) := by decide +kernel
theorem dX6_numberOfShip_7 : decode cX6_numberOfShip 7 = .ok (.astore_n 2, 1) := by decide +kernel
theorem dX6_numberOfShip_8 : decode cX6_numberOfShip 8 = .ok (.iload_n 1, 1) := by decide +kernel
theorem dX6_numberOfShip_9 : decode cX6_numberOfShip 9 = .ok (.tableswitch 125 1 7 #[43, 51, 59, 67, 79, 101, 113], 43) := by decide +kernel
theorem dX6_numberOfShip_52 : decode cX6_numberOfShip 52 = .ok (.aload_n 0, 1) := by decide +kernel
theorem dX6_numberOfShip_53 : decode cX6_numberOfShip 53 = .ok (.getfield 10, 3) := by decide +kernel
theorem dX6_numberOfShip_56 : decode cX6_numberOfShip 56 = .ok (.getfield 223, 3) := by decide +kernel
theorem dX6_numberOfShip_59 : decode cX6_numberOfShip 59 = .ok (.freturn, 1) := by decide +kernel
theorem dX6_numberOfShip_60 : decode cX6_numberOfShip 60 = .ok (.aload_n 0, 1) := by decide +kernel
theorem dX6_numberOfShip_61 : decode cX6_numberOfShip 61 = .ok (.getfield 10, 3) := by decide +kernel
theorem dX6_numberOfShip_64 : decode cX6_numberOfShip 64 = .ok (.getfield 226, 3) := by decide +kernel
theorem dX6_numberOfShip_67 : decode cX6_numberOfShip 67 = .ok (.freturn, 1) := by decide +kernel
theorem dX6_numberOfShip_68 : decode cX6_numberOfShip 68 = .ok (.aload_n 0, 1) := by decide +kernel
theorem dX6_numberOfShip_69 : decode cX6_numberOfShip 69 = .ok (.getfield 10, 3) := by decide +kernel
theorem dX6_numberOfShip_72 : decode cX6_numberOfShip 72 = .ok (.getfield 229, 3) := by decide +kernel
theorem dX6_numberOfShip_75 : decode cX6_numberOfShip 75 = .ok (.freturn, 1) := by decide +kernel
theorem dX6_numberOfShip_76 : decode cX6_numberOfShip 76 = .ok (.aload_n 2, 1) := by decide +kernel
theorem dX6_numberOfShip_77 : decode cX6_numberOfShip 77 = .ok (.aload_n 0, 1) := by decide +kernel
theorem dX6_numberOfShip_78 : decode cX6_numberOfShip 78 = .ok (.getfield 10, 3) := by decide +kernel
theorem dX6_numberOfShip_81 : decode cX6_numberOfShip 81 = .ok (.getfield 191, 3) := by decide +kernel
theorem dX6_numberOfShip_84 : decode cX6_numberOfShip 84 = .ok (.invokevirtual 232, 3) := by decide +kernel
theorem dX6_numberOfShip_87 : decode cX6_numberOfShip 87 = .ok (.freturn, 1) := by decide +kernel
theorem dX6_numberOfShip_88 : decode cX6_numberOfShip 88 = .ok (.aload_n 0, 1) := by decide +kernel
theorem dX6_numberOfShip_89 : decode cX6_numberOfShip 89 = .ok (.getfield 10, 3) := by decide +kernel
theorem dX6_numberOfShip_92 : decode cX6_numberOfShip 92 = .ok (.getfield 70, 3) := by decide +kernel
theorem dX6_numberOfShip_95 : decode cX6_numberOfShip 95 = .ok (.aload_n 2, 1) := by decide +kernel
theorem dX6_numberOfShip_96 : decode cX6_numberOfShip 96 = .ok (.aload_n 0, 1) := by decide +kernel
theorem dX6_numberOfShip_97 : decode cX6_numberOfShip 97 = .ok (.getfield 10, 3) := by decide +kernel
theorem dX6_numberOfShip_100 : decode cX6_numberOfShip 100 = .ok (.getfield 191, 3) := by decide +kernel
theorem dX6_numberOfShip_103 : decode cX6_numberOfShip 103 = .ok (.invokevirtual 232, 3) := by decide +kernel
theorem dX6_numberOfShip_106 : decode cX6_numberOfShip 106 = .ok (.invokevirtual 162, 3) := by decide +kernel
theorem dX6_numberOfShip_109 : decode cX6_numberOfShip 109 = .ok (.freturn, 1) := by decide +kernel
theorem dX6_numberOfShip_110 : decode cX6_numberOfShip 110 = .ok (.aload_n 2, 1) := by decide +kernel
theorem dX6_numberOfShip_111 : decode cX6_numberOfShip 111 = .ok (.aload_n 0, 1) := by decide +kernel
theorem dX6_numberOfShip_112 : decode cX6_numberOfShip 112 = .ok (.getfield 10, 3) := by decide +kernel
theorem dX6_numberOfShip_115 : decode cX6_numberOfShip 115 = .ok (.getfield 191, 3) := by decide +kernel
theorem dX6_numberOfShip_118 : decode cX6_numberOfShip 118 = .ok (.invokevirtual 235, 3) := by decide +kernel
theorem dX6_numberOfShip_121 : decode cX6_numberOfShip 121 = .ok (.freturn, 1) := by decide +kernel
theorem dX6_numberOfShip_122 : decode cX6_numberOfShip 122 = .ok (.aload_n 2, 1) := by decide +kernel
theorem dX6_numberOfShip_123 : decode cX6_numberOfShip 123 = .ok (.aload_n 0, 1) := by decide +kernel
theorem dX6_numberOfShip_124 : decode cX6_numberOfShip 124 = .ok (.getfield 10, 3) := by decide +kernel
theorem dX6_numberOfShip_127 : decode cX6_numberOfShip 127 = .ok (.getfield 191, 3) := by decide +kernel
theorem dX6_numberOfShip_130 : decode cX6_numberOfShip 130 = .ok (.invokevirtual 238, 3) := by decide +kernel
theorem dX6_numberOfShip_133 : decode cX6_numberOfShip 133 = .ok (.freturn, 1) := by decide +kernel
theorem dX6_numberOfShip_134 : decode cX6_numberOfShip 134 = .ok (.aload_n 0, 1) := by decide +kernel
theorem dX6_numberOfShip_135 : decode cX6_numberOfShip 135 = .ok (.getfield 10, 3) := by decide +kernel
theorem dX6_numberOfShip_138 : decode cX6_numberOfShip 138 = .ok (.getfield 191, 3) := by decide +kernel
theorem dX6_numberOfShip_141 : decode cX6_numberOfShip 141 = .ok (.freturn, 1) := by decide +kernel
theorem dX6_isBeyond_0 : decode cX6_isBeyond 0 = .ok (.iload_n 0, 1) := by decide +kernel
theorem dX6_isBeyond_1 : decode cX6_isBeyond 1 = .ok (.iload_n 1, 1) := by decide +kernel
theorem dX6_isBeyond_2 : decode cX6_isBeyond 2 = .ok (.ineg, 1) := by decide +kernel
theorem dX6_isBeyond_3 : decode cX6_isBeyond 3 = .ok (.if_icmp .lt 8, 3) := by decide +kernel
theorem dX6_isBeyond_6 : decode cX6_isBeyond 6 = .ok (.iload_n 0, 1) := by decide +kernel
theorem dX6_isBeyond_7 : decode cX6_isBeyond 7 = .ok (.iload_n 1, 1) := by decide +kernel
theorem dX6_isBeyond_8 : decode cX6_isBeyond 8 = .ok (.if_icmp .le 7, 3) := by decide +kernel
theorem dX6_isBeyond_11 : decode cX6_isBeyond 11 = .ok (.iconst 1, 1) := by decide +kernel
theorem dX6_isBeyond_12 : decode cX6_isBeyond 12 = .ok (.goto 4, 3) := by decide +kernel
theorem dX6_isBeyond_15 : decode cX6_isBeyond 15 = .ok (.iconst 0, 1) := by decide +kernel
theorem dX6_isBeyond_16 : decode cX6_isBeyond 16 = .ok (.ireturn, 1) := by decide +kernel
theorem dX6_size_0 : decode cX6_size 0 = .ok (.fload_n 0, 1) := by decide +kernel
theorem dX6_size_1 : decode cX6_size 1 = .ok (.fconst 0, 1) := by decide +kernel
theorem dX6_size_2 : decode cX6_size 2 = .ok (.fcmp .g, 1) := by decide +kernel
theorem dX6_size_3 : decode cX6_size 3 = .ok (.ifCond .ge 8, 3) := by decide +kernel
theorem dX6_size_6 : decode cX6_size 6 = .ok (.fload_n 0, 1) := by decide +kernel
theorem dX6_size_7 : decode cX6_size 7 = .ok (.fneg, 1) := by decide +kernel
theorem dX6_size_8 : decode cX6_size 8 = .ok (.goto 4, 3) := by decide +kernel
theorem dX6_size_11 : decode cX6_size 11 = .ok (.fload_n 0, 1) := by decide +kernel
theorem dX6_size_12 : decode cX6_size 12 = .ok (.freturn, 1) := by decide +kernel
theorem dX6_bitsOf_0 : decode cX6_bitsOf 0 = .ok (.fload_n 0, 1) := by decide +kernel
theorem dX6_bitsOf_1 : decode cX6_bitsOf 1 = .ok (.invokestatic 241, 3) := by decide +kernel
theorem dX6_bitsOf_4 : decode cX6_bitsOf 4 = .ok (.fstore_n 1, 1) := by decide +kernel
theorem dX6_bitsOf_5 : decode cX6_bitsOf 5 = .ok (.bipush 127, 2) := by decide +kernel
theorem dX6_bitsOf_7 : decode cX6_bitsOf 7 = .ok (.istore_n 2, 1) := by decide +kernel
theorem dX6_bitsOf_8 : decode cX6_bitsOf 8 = .ok (.fload_n 1, 1) := by decide +kernel
theorem dX6_bitsOf_9 : decode cX6_bitsOf 9 = .ok (.fconst 2, 1) := by decide +kernel
theorem dX6_bitsOf_10 : decode cX6_bitsOf 10 = .ok (.fcmp .l, 1) := by decide +kernel
theorem dX6_bitsOf_11 : decode cX6_bitsOf 11 = .ok (.ifCond .lt 20, 3) := by decide +kernel
theorem dX6_bitsOf_14 : decode cX6_bitsOf 14 = .ok (.iload_n 2, 1) := by decide +kernel
theorem dX6_bitsOf_15 : decode cX6_bitsOf 15 = .ok (.sipush 254, 3) := by decide +kernel
theorem dX6_bitsOf_18 : decode cX6_bitsOf 18 = .ok (.if_icmp .ge 13, 3) := by decide +kernel
theorem dX6_bitsOf_21 : decode cX6_bitsOf 21 = .ok (.fload_n 1, 1) := by decide +kernel
theorem dX6_bitsOf_22 : decode cX6_bitsOf 22 = .ok (.fconst 2, 1) := by decide +kernel
theorem dX6_bitsOf_23 : decode cX6_bitsOf 23 = .ok (.fdiv, 1) := by decide +kernel
theorem dX6_bitsOf_24 : decode cX6_bitsOf 24 = .ok (.fstore_n 1, 1) := by decide +kernel
theorem dX6_bitsOf_25 : decode cX6_bitsOf 25 = .ok (.iinc 2 1, 3) := by decide +kernel
theorem dX6_bitsOf_28 : decode cX6_bitsOf 28 = .ok (.goto (-20), 3) := by decide +kernel
theorem dX6_bitsOf_31 : decode cX6_bitsOf 31 = .ok (.fload_n 1, 1) := by decide +kernel
theorem dX6_bitsOf_32 : decode cX6_bitsOf 32 = .ok (.fconst 1, 1) := by decide +kernel
theorem dX6_bitsOf_33 : decode cX6_bitsOf 33 = .ok (.fcmp .g, 1) := by decide +kernel
theorem dX6_bitsOf_34 : decode cX6_bitsOf 34 = .ok (.ifCond .ge 18, 3) := by decide +kernel
theorem dX6_bitsOf_37 : decode cX6_bitsOf 37 = .ok (.iload_n 2, 1) := by decide +kernel
theorem dX6_bitsOf_38 : decode cX6_bitsOf 38 = .ok (.iconst 1, 1) := by decide +kernel
theorem dX6_bitsOf_39 : decode cX6_bitsOf 39 = .ok (.if_icmp .le 13, 3) := by decide +kernel
theorem dX6_bitsOf_42 : decode cX6_bitsOf 42 = .ok (.fload_n 1, 1) := by decide +kernel
theorem dX6_bitsOf_43 : decode cX6_bitsOf 43 = .ok (.fconst 2, 1) := by decide +kernel
theorem dX6_bitsOf_44 : decode cX6_bitsOf 44 = .ok (.fmul, 1) := by decide +kernel
theorem dX6_bitsOf_45 : decode cX6_bitsOf 45 = .ok (.fstore_n 1, 1) := by decide +kernel
theorem dX6_bitsOf_46 : decode cX6_bitsOf 46 = .ok (.iinc 2 (-1), 3) := by decide +kernel
theorem dX6_bitsOf_49 : decode cX6_bitsOf 49 = .ok (.goto (-18), 3) := by decide +kernel
theorem dX6_bitsOf_52 : decode cX6_bitsOf 52 = .ok (.iload_n 2, 1) := by decide +kernel
theorem dX6_bitsOf_53 : decode cX6_bitsOf 53 = .ok (.iconst 1, 1) := by decide +kernel
theorem dX6_bitsOf_54 : decode cX6_bitsOf 54 = .ok (.isub, 1) := by decide +kernel
theorem dX6_bitsOf_55 : decode cX6_bitsOf 55 = .ok (.bipush 23, 2) := by decide +kernel
theorem dX6_bitsOf_57 : decode cX6_bitsOf 57 = .ok (.ishl, 1) := by decide +kernel
theorem dX6_bitsOf_58 : decode cX6_bitsOf 58 = .ok (.fload_n 1, 1) := by decide +kernel
theorem dX6_bitsOf_59 : decode cX6_bitsOf 59 = .ok (.ldc 244, 2) := by decide +kernel
theorem dX6_bitsOf_61 : decode cX6_bitsOf 61 = .ok (.fmul, 1) := by decide +kernel
theorem dX6_bitsOf_62 : decode cX6_bitsOf 62 = .ok (.f2i, 1) := by decide +kernel
theorem dX6_bitsOf_63 : decode cX6_bitsOf 63 = .ok (.iadd, 1) := by decide +kernel
theorem dX6_bitsOf_64 : decode cX6_bitsOf 64 = .ok (.istore_n 3, 1) := by decide +kernel
theorem dX6_bitsOf_65 : decode cX6_bitsOf 65 = .ok (.fload_n 0, 1) := by decide +kernel
theorem dX6_bitsOf_66 : decode cX6_bitsOf 66 = .ok (.fconst 0, 1) := by decide +kernel
theorem dX6_bitsOf_67 : decode cX6_bitsOf 67 = .ok (.fcmp .g, 1) := by decide +kernel
theorem dX6_bitsOf_68 : decode cX6_bitsOf 68 = .ok (.ifCond .ge 10, 3) := by decide +kernel
theorem dX6_bitsOf_71 : decode cX6_bitsOf 71 = .ok (.iload_n 3, 1) := by decide +kernel
theorem dX6_bitsOf_72 : decode cX6_bitsOf 72 = .ok (.ldc 245, 2) := by decide +kernel
theorem dX6_bitsOf_74 : decode cX6_bitsOf 74 = .ok (.ior, 1) := by decide +kernel
theorem dX6_bitsOf_75 : decode cX6_bitsOf 75 = .ok (.goto 4, 3) := by decide +kernel
theorem dX6_bitsOf_78 : decode cX6_bitsOf 78 = .ok (.iload_n 3, 1) := by decide +kernel
theorem dX6_bitsOf_79 : decode cX6_bitsOf 79 = .ok (.ireturn, 1) := by decide +kernel
theorem dX7_init_0 : decode cX7_init 0 = .ok (.aload_n 0, 1) := by decide +kernel
theorem dX7_init_1 : decode cX7_init 1 = .ok (.invokespecial 1, 3) := by decide +kernel
theorem dX7_init_4 : decode cX7_init 4 = .ok (.aload_n 0, 1) := by decide +kernel
theorem dX7_init_5 : decode cX7_init 5 = .ok (.bipush 40, 2) := by decide +kernel
theorem dX7_init_7 : decode cX7_init 7 = .ok (.newarray .int, 2) := by decide +kernel
theorem dX7_init_9 : decode cX7_init 9 = .ok (.putfield 7, 3) := by decide +kernel
theorem dX7_init_12 : decode cX7_init 12 = .ok (.aload_n 0, 1) := by decide +kernel
theorem dX7_init_13 : decode cX7_init 13 = .ok (.iconst 5, 1) := by decide +kernel
theorem dX7_init_14 : decode cX7_init 14 = .ok (.newarray .float, 2) := by decide +kernel
theorem dX7_init_16 : decode cX7_init 16 = .ok (.putfield 13, 3) := by decide +kernel
theorem dX7_init_19 : decode cX7_init 19 = .ok (.aload_n 0, 1) := by decide +kernel
theorem dX7_init_20 : decode cX7_init 20 = .ok (.sipush 320, 3) := by decide +kernel
theorem dX7_init_23 : decode cX7_init 23 = .ok (.newarray .int, 2) := by decide +kernel
theorem dX7_init_25 : decode cX7_init 25 = .ok (.putfield 17, 3) := by decide +kernel
theorem dX7_init_28 : decode cX7_init 28 = .ok (.aload_n 0, 1) := by decide +kernel
theorem dX7_init_29 : decode cX7_init 29 = .ok (.bipush 40, 2) := by decide +kernel
theorem dX7_init_31 : decode cX7_init 31 = .ok (.newarray .float, 2) := by decide +kernel
theorem dX7_init_33 : decode cX7_init 33 = .ok (.putfield 20, 3) := by decide +kernel
theorem dX7_init_36 : decode cX7_init 36 = .ok (.aload_n 0, 1) := by decide +kernel
theorem dX7_init_37 : decode cX7_init 37 = .ok (.iconst 2, 1) := by decide +kernel
theorem dX7_init_38 : decode cX7_init 38 = .ok (.newarray .int, 2) := by decide +kernel
theorem dX7_init_40 : decode cX7_init 40 = .ok (.putfield 23, 3) := by decide +kernel
theorem dX7_init_43 : decode cX7_init 43 = .ok (.aload_n 0, 1) := by decide +kernel
theorem dX7_init_44 : decode cX7_init 44 = .ok (.bipush 80, 2) := by decide +kernel
theorem dX7_init_46 : decode cX7_init 46 = .ok (.newarray .int, 2) := by decide +kernel
theorem dX7_init_48 : decode cX7_init 48 = .ok (.putfield 26, 3) := by decide +kernel
theorem dX7_init_51 : decode cX7_init 51 = .ok (.aload_n 0, 1) := by decide +kernel
theorem dX7_init_52 : decode cX7_init 52 = .ok (.getfield 13, 3) := by decide +kernel
theorem dX7_init_55 : decode cX7_init 55 = .ok (.iconst 0, 1) := by decide +kernel
theorem dX7_init_56 : decode cX7_init 56 = .ok (.ldc 29, 2) := by decide +kernel
theorem dX7_init_58 : decode cX7_init 58 = .ok (.fastore, 1) := by decide +kernel
theorem dX7_init_59 : decode cX7_init 59 = .ok (.aload_n 0, 1) := by decide +kernel
theorem dX7_init_60 : decode cX7_init 60 = .ok (.getfield 7, 3) := by decide +kernel
theorem dX7_init_63 : decode cX7_init 63 = .ok (.iconst 5, 1) := by decide +kernel
theorem dX7_init_64 : decode cX7_init 64 = .ok (.bipush (-5), 2) := by decide +kernel
theorem dX7_init_66 : decode cX7_init 66 = .ok (.iastore, 1) := by decide +kernel
theorem dX7_init_67 : decode cX7_init 67 = .ok (.aload_n 0, 1) := by decide +kernel
theorem dX7_init_68 : decode cX7_init 68 = .ok (.getfield 7, 3) := by decide +kernel
theorem dX7_init_71 : decode cX7_init 71 = .ok (.bipush 12, 2) := by decide +kernel
theorem dX7_init_73 : decode cX7_init 73 = .ok (.sipush 200, 3) := by decide +kernel
theorem dX7_init_76 : decode cX7_init 76 = .ok (.iastore, 1) := by decide +kernel
theorem dX7_init_77 : decode cX7_init 77 = .ok (.aload_n 0, 1) := by decide +kernel
theorem dX7_init_78 : decode cX7_init 78 = .ok (.getfield 7, 3) := by decide +kernel
theorem dX7_init_81 : decode cX7_init 81 = .ok (.bipush 13, 2) := by decide +kernel
theorem dX7_init_83 : decode cX7_init 83 = .ok (.bipush 50, 2) := by decide +kernel
theorem dX7_init_85 : decode cX7_init 85 = .ok (.iastore, 1) := by decide +kernel
theorem dX7_init_86 : decode cX7_init 86 = .ok (.aload_n 0, 1) := by decide +kernel
theorem dX7_init_87 : decode cX7_init 87 = .ok (.getfield 7, 3) := by decide +kernel
theorem dX7_init_90 : decode cX7_init 90 = .ok (.bipush 14, 2) := by decide +kernel
theorem dX7_init_92 : decode cX7_init 92 = .ok (.sipush 500, 3) := by decide +kernel
theorem dX7_init_95 : decode cX7_init 95 = .ok (.iastore, 1) := by decide +kernel
theorem dX7_init_96 : decode cX7_init 96 = .ok (.aload_n 0, 1) := by decide +kernel
theorem dX7_init_97 : decode cX7_init 97 = .ok (.getfield 7, 3) := by decide +kernel
theorem dX7_init_100 : decode cX7_init 100 = .ok (.bipush 15, 2) := by decide +kernel
theorem dX7_init_102 : decode cX7_init 102 = .ok (.sipush 1000, 3) := by decide +kernel
theorem dX7_init_105 : decode cX7_init 105 = .ok (.iastore, 1) := by decide +kernel
theorem dX7_init_106 : decode cX7_init 106 = .ok (.aload_n 0, 1) := by decide +kernel
theorem dX7_init_107 : decode cX7_init 107 = .ok (.getfield 7, 3) := by decide +kernel
theorem dX7_init_110 : decode cX7_init 110 = .ok (.bipush 16, 2) := by decide +kernel
theorem dX7_init_112 : decode cX7_init 112 = .ok (.bipush 50, 2) := by decide +kernel
theorem dX7_init_114 : decode cX7_init 114 = .ok (.iastore, 1) := by decide +kernel
theorem dX7_init_115 : decode cX7_init 115 = .ok (.aload_n 0, 1) := by decide +kernel
theorem dX7_init_116 : decode cX7_init 116 = .ok (.getfield 7, 3) := by decide +kernel
theorem dX7_init_119 : decode cX7_init 119 = .ok (.bipush 17, 2) := by decide +kernel
theorem dX7_init_121 : decode cX7_init 121 = .ok (.bipush 10, 2) := by decide +kernel
theorem dX7_init_123 : decode cX7_init 123 = .ok (.iastore, 1) := by decide +kernel
theorem dX7_init_124 : decode cX7_init 124 = .ok (.aload_n 0, 1) := by decide +kernel
theorem dX7_init_125 : decode cX7_init 125 = .ok (.getfield 7, 3) := by decide +kernel
theorem dX7_init_128 : decode cX7_init 128 = .ok (.bipush 18, 2) := by decide +kernel
theorem dX7_init_130 : decode cX7_init 130 = .ok (.bipush 30, 2) := by decide +kernel
theorem dX7_init_132 : decode cX7_init 132 = .ok (.iastore, 1) := by decide +kernel
theorem dX7_init_133 : decode cX7_init 133 = .ok (.aload_n 0, 1) := by decide +kernel
theorem dX7_init_134 : decode cX7_init 134 = .ok (.getfield 7, 3) := by decide +kernel
theorem dX7_init_137 : decode cX7_init 137 = .ok (.bipush 19, 2) := by decide +kernel
theorem dX7_init_139 : decode cX7_init 139 = .ok (.bipush 50, 2) := by decide +kernel
theorem dX7_init_141 : decode cX7_init 141 = .ok (.iastore, 1) := by decide +kernel
theorem dX7_init_142 : decode cX7_init 142 = .ok (.return_, 1) := by decide +kernel
theorem dX7_isIn_0 : decode cX7_isIn 0 = .ok (.iload_n 0, 1) := by decide +kernel
theorem dX7_isIn_1 : decode cX7_isIn 1 = .ok (.iload_n 1, 1) := by decide +kernel
theorem dX7_isIn_2 : decode cX7_isIn 2 = .ok (.if_icmp .lt 12, 3) := by decide +kernel
theorem dX7_isIn_5 : decode cX7_isIn 5 = .ok (.iload_n 0, 1) := by decide +kernel
theorem dX7_isIn_6 : decode cX7_isIn 6 = .ok (.iload_n 2, 1) := by decide +kernel
theorem dX7_isIn_7 : decode cX7_isIn 7 = .ok (.if_icmp .gt 7, 3) := by decide +kernel
theorem dX7_isIn_10 : decode cX7_isIn 10 = .ok (.iconst 1, 1) := by decide +kernel
theorem dX7_isIn_11 : decode cX7_isIn 11 = .ok (.goto 4, 3) := by decide +kernel
theorem dX7_isIn_14 : decode cX7_isIn 14 = .ok (.iconst 0, 1) := by decide +kernel
theorem dX7_isIn_15 : decode cX7_isIn 15 = .ok (.ireturn, 1) := by decide +kernel
theorem dX7_metres_0 : decode cX7_metres 0 = .ok (.iload_n 0, 1) := by decide +kernel
theorem dX7_metres_1 : decode cX7_metres 1 = .ok (.i2f, 1) := by decide +kernel
theorem dX7_metres_2 : decode cX7_metres 2 = .ok (.ldc 29, 2) := by decide +kernel
theorem dX7_metres_4 : decode cX7_metres 4 = .ok (.fdiv, 1) := by decide +kernel
theorem dX7_metres_5 : decode cX7_metres 5 = .ok (.freturn, 1) := by decide +kernel
theorem dX7_thousandth_0 : decode cX7_thousandth 0 = .ok (.iload_n 0, 1) := by decide +kernel
theorem dX7_thousandth_1 : decode cX7_thousandth 1 = .ok (.i2f, 1) := by decide +kernel
theorem dX7_thousandth_2 : decode cX7_thousandth 2 = .ok (.ldc 30, 2) := by decide +kernel
theorem dX7_thousandth_4 : decode cX7_thousandth 4 = .ok (.fdiv, 1) := by decide +kernel
theorem dX7_thousandth_5 : decode cX7_thousandth 5 = .ok (.freturn, 1) := by decide +kernel
theorem dX7_sizeOf_0 : decode cX7_sizeOf 0 = .ok (.fload_n 0, 1) := by decide +kernel
theorem dX7_sizeOf_1 : decode cX7_sizeOf 1 = .ok (.fconst 0, 1) := by decide +kernel
theorem dX7_sizeOf_2 : decode cX7_sizeOf 2 = .ok (.fcmp .g, 1) := by decide +kernel
theorem dX7_sizeOf_3 : decode cX7_sizeOf 3 = .ok (.ifCond .ge 8, 3) := by decide +kernel
theorem dX7_sizeOf_6 : decode cX7_sizeOf 6 = .ok (.fload_n 0, 1) := by decide +kernel
theorem dX7_sizeOf_7 : decode cX7_sizeOf 7 = .ok (.fneg, 1) := by decide +kernel
theorem dX7_sizeOf_8 : decode cX7_sizeOf 8 = .ok (.goto 4, 3) := by decide +kernel
theorem dX7_sizeOf_11 : decode cX7_sizeOf 11 = .ok (.fload_n 0, 1) := by decide +kernel
theorem dX7_sizeOf_12 : decode cX7_sizeOf 12 = .ok (.freturn, 1) := by decide +kernel
theorem dX7_held_0 : decode cX7_held 0 = .ok (.fload_n 0, 1) := by decide +kernel
theorem dX7_held_1 : decode cX7_held 1 = .ok (.fload_n 1, 1) := by decide +kernel
theorem dX7_held_2 : decode cX7_held 2 = .ok (.fcmp .g, 1) := by decide +kernel
theorem dX7_held_3 : decode cX7_held 3 = .ok (.ifCond .ge 7, 3) := by decide +kernel
theorem dX7_held_6 : decode cX7_held 6 = .ok (.fload_n 1, 1) := by decide +kernel
theorem dX7_held_7 : decode cX7_held 7 = .ok (.goto 14, 3) := by decide +kernel
theorem dX7_held_10 : decode cX7_held 10 = .ok (.fload_n 0, 1) := by decide +kernel
theorem dX7_held_11 : decode cX7_held 11 = .ok (.fload_n 2, 1) := by decide +kernel
theorem dX7_held_12 : decode cX7_held 12 = .ok (.fcmp .l, 1) := by decide +kernel
theorem dX7_held_13 : decode cX7_held 13 = .ok (.ifCond .le 7, 3) := by decide +kernel
theorem dX7_held_16 : decode cX7_held 16 = .ok (.fload_n 2, 1) := by decide +kernel
theorem dX7_held_17 : decode cX7_held 17 = .ok (.goto 4, 3) := by decide +kernel
theorem dX7_held_20 : decode cX7_held 20 = .ok (.fload_n 0, 1) := by decide +kernel
theorem dX7_held_21 : decode cX7_held 21 = .ok (.freturn, 1) := by decide +kernel
theorem dX7_keeps_0 : decode cX7_keeps 0 = .ok (.iconst 0, 1) := by decide +kernel
theorem dX7_keeps_1 : decode cX7_keeps 1 = .ok (.istore_n 2, 1) := by decide +kernel
theorem dX7_keeps_2 : decode cX7_keeps 2 = .ok (.iload_n 2, 1) := by decide +kernel
theorem dX7_keeps_3 : decode cX7_keeps 3 = .ok (.bipush 40, 2) := by decide +kernel
theorem dX7_keeps_5 : decode cX7_keeps 5 = .ok (.if_icmp .ge 26, 3) := by decide +kernel
theorem dX7_keeps_8 : decode cX7_keeps 8 = .ok (.aload_n 0, 1) := by decide +kernel
theorem dX7_keeps_9 : decode cX7_keeps 9 = .ok (.getfield 17, 3) := by decide +kernel
theorem dX7_keeps_12 : decode cX7_keeps 12 = .ok (.iload_n 1, 1) := by decide +kernel
theorem dX7_keeps_13 : decode cX7_keeps 13 = .ok (.bipush 40, 2) := by decide +kernel
theorem dX7_keeps_15 : decode cX7_keeps 15 = .ok (.imul, 1) := by decide +kernel
theorem dX7_keeps_16 : decode cX7_keeps 16 = .ok (.iload_n 2, 1) := by decide +kernel
theorem dX7_keeps_17 : decode cX7_keeps 17 = .ok (.iadd, 1) := by decide +kernel
theorem dX7_keeps_18 : decode cX7_keeps 18 = .ok (.aload_n 0, 1) := by decide +kernel
theorem dX7_keeps_19 : decode cX7_keeps 19 = .ok (.getfield 7, 3) := by decide +kernel
theorem dX7_keeps_22 : decode cX7_keeps 22 = .ok (.iload_n 2, 1) := by decide +kernel
theorem dX7_keeps_23 : decode cX7_keeps 23 = .ok (.iaload, 1) := by decide +kernel
theorem dX7_keeps_24 : decode cX7_keeps 24 = .ok (.iastore, 1) := by decide +kernel
theorem dX7_keeps_25 : decode cX7_keeps 25 = .ok (.iinc 2 1, 3) := by decide +kernel
theorem dX7_keeps_28 : decode cX7_keeps 28 = .ok (.goto (-26), 3) := by decide +kernel
theorem dX7_keeps_31 : decode cX7_keeps 31 = .ok (.iconst 0, 1) := by decide +kernel
theorem dX7_keeps_32 : decode cX7_keeps 32 = .ok (.istore_n 2, 1) := by decide +kernel
theorem dX7_keeps_33 : decode cX7_keeps 33 = .ok (.iload_n 2, 1) := by decide +kernel
theorem dX7_keeps_34 : decode cX7_keeps 34 = .ok (.iconst 5, 1) := by decide +kernel
theorem dX7_keeps_35 : decode cX7_keeps 35 = .ok (.if_icmp .ge 25, 3) := by decide +kernel
theorem dX7_keeps_38 : decode cX7_keeps 38 = .ok (.aload_n 0, 1) := by decide +kernel
theorem dX7_keeps_39 : decode cX7_keeps 39 = .ok (.getfield 20, 3) := by decide +kernel
theorem dX7_keeps_42 : decode cX7_keeps 42 = .ok (.iconst 5, 1) := by decide +kernel
theorem dX7_keeps_43 : decode cX7_keeps 43 = .ok (.iload_n 1, 1) := by decide +kernel
theorem dX7_keeps_44 : decode cX7_keeps 44 = .ok (.imul, 1) := by decide +kernel
theorem dX7_keeps_45 : decode cX7_keeps 45 = .ok (.iload_n 2, 1) := by decide +kernel
theorem dX7_keeps_46 : decode cX7_keeps 46 = .ok (.iadd, 1) := by decide +kernel
theorem dX7_keeps_47 : decode cX7_keeps 47 = .ok (.aload_n 0, 1) := by decide +kernel
theorem dX7_keeps_48 : decode cX7_keeps 48 = .ok (.getfield 13, 3) := by decide +kernel
theorem dX7_keeps_51 : decode cX7_keeps 51 = .ok (.iload_n 2, 1) := by decide +kernel
theorem dX7_keeps_52 : decode cX7_keeps 52 = .ok (.faload, 1) := by decide +kernel
theorem dX7_keeps_53 : decode cX7_keeps 53 = .ok (.fastore, 1) := by decide +kernel
theorem dX7_keeps_54 : decode cX7_keeps 54 = .ok (.iinc 2 1, 3) := by decide +kernel
theorem dX7_keeps_57 : decode cX7_keeps 57 = .ok (.goto (-24), 3) := by decide +kernel
theorem dX7_keeps_60 : decode cX7_keeps 60 = .ok (.return_, 1) := by decide +kernel
theorem dX7_brings_0 : decode cX7_brings 0 = .ok (.iconst 0, 1) := by decide +kernel
theorem dX7_brings_1 : decode cX7_brings 1 = .ok (.istore_n 2, 1) := by decide +kernel
theorem dX7_brings_2 : decode cX7_brings 2 = .ok (.iload_n 2, 1) := by decide +kernel
theorem dX7_brings_3 : decode cX7_brings 3 = .ok (.bipush 40, 2) := by decide +kernel
theorem dX7_brings_5 : decode cX7_brings 5 = .ok (.if_icmp .ge 26, 3) := by decide +kernel
theorem dX7_brings_8 : decode cX7_brings 8 = .ok (.aload_n 0, 1) := by decide +kernel
theorem dX7_brings_9 : decode cX7_brings 9 = .ok (.getfield 7, 3) := by decide +kernel
theorem dX7_brings_12 : decode cX7_brings 12 = .ok (.iload_n 2, 1) := by decide +kernel
theorem dX7_brings_13 : decode cX7_brings 13 = .ok (.aload_n 0, 1) := by decide +kernel
theorem dX7_brings_14 : decode cX7_brings 14 = .ok (.getfield 17, 3) := by decide +kernel
theorem dX7_brings_17 : decode cX7_brings 17 = .ok (.iload_n 1, 1) := by decide +kernel
theorem dX7_brings_18 : decode cX7_brings 18 = .ok (.bipush 40, 2) := by decide +kernel
theorem dX7_brings_20 : decode cX7_brings 20 = .ok (.imul, 1) := by decide +kernel
theorem dX7_brings_21 : decode cX7_brings 21 = .ok (.iload_n 2, 1) := by decide +kernel
theorem dX7_brings_22 : decode cX7_brings 22 = .ok (.iadd, 1) := by decide +kernel
theorem dX7_brings_23 : decode cX7_brings 23 = .ok (.iaload, 1) := by decide +kernel
theorem dX7_brings_24 : decode cX7_brings 24 = .ok (.iastore, 1) := by decide +kernel
theorem dX7_brings_25 : decode cX7_brings 25 = .ok (.iinc 2 1, 3) := by decide +kernel
theorem dX7_brings_28 : decode cX7_brings 28 = .ok (.goto (-26), 3) := by decide +kernel
theorem dX7_brings_31 : decode cX7_brings 31 = .ok (.iconst 0, 1) := by decide +kernel
theorem dX7_brings_32 : decode cX7_brings 32 = .ok (.istore_n 2, 1) := by decide +kernel
theorem dX7_brings_33 : decode cX7_brings 33 = .ok (.iload_n 2, 1) := by decide +kernel
theorem dX7_brings_34 : decode cX7_brings 34 = .ok (.iconst 5, 1) := by decide +kernel
theorem dX7_brings_35 : decode cX7_brings 35 = .ok (.if_icmp .ge 25, 3) := by decide +kernel
theorem dX7_brings_38 : decode cX7_brings 38 = .ok (.aload_n 0, 1) := by decide +kernel
theorem dX7_brings_39 : decode cX7_brings 39 = .ok (.getfield 13, 3) := by decide +kernel
theorem dX7_brings_42 : decode cX7_brings 42 = .ok (.iload_n 2, 1) := by decide +kernel
theorem dX7_brings_43 : decode cX7_brings 43 = .ok (.aload_n 0, 1) := by decide +kernel
theorem dX7_brings_44 : decode cX7_brings 44 = .ok (.getfield 20, 3) := by decide +kernel
theorem dX7_brings_47 : decode cX7_brings 47 = .ok (.iconst 5, 1) := by decide +kernel
theorem dX7_brings_48 : decode cX7_brings 48 = .ok (.iload_n 1, 1) := by decide +kernel
theorem dX7_brings_49 : decode cX7_brings 49 = .ok (.imul, 1) := by decide +kernel
theorem dX7_brings_50 : decode cX7_brings 50 = .ok (.iload_n 2, 1) := by decide +kernel
theorem dX7_brings_51 : decode cX7_brings 51 = .ok (.iadd, 1) := by decide +kernel
theorem dX7_brings_52 : decode cX7_brings 52 = .ok (.faload, 1) := by decide +kernel
theorem dX7_brings_53 : decode cX7_brings 53 = .ok (.fastore, 1) := by decide +kernel
theorem dX7_brings_54 : decode cX7_brings 54 = .ok (.iinc 2 1, 3) := by decide +kernel
theorem dX7_brings_57 : decode cX7_brings 57 = .ok (.goto (-24), 3) := by decide +kernel
theorem dX7_brings_60 : decode cX7_brings 60 = .ok (.return_, 1) := by decide +kernel
theorem dX7_records_0 : decode cX7_records 0 = .ok (.aload_n 0, 1) := by decide +kernel
theorem dX7_records_1 : decode cX7_records 1 = .ok (.getfield 31, 3) := by decide +kernel
theorem dX7_records_4 : decode cX7_records 4 = .ok (.iconst 5, 1) := by decide +kernel
theorem dX7_records_5 : decode cX7_records 5 = .ok (.if_icmp .ne 71, 3) := by decide +kernel
theorem dX7_records_8 : decode cX7_records 8 = .ok (.iconst 0, 1) := by decide +kernel
theorem dX7_records_9 : decode cX7_records 9 = .ok (.istore_n 1, 1) := by decide +kernel
theorem dX7_records_10 : decode cX7_records 10 = .ok (.iload_n 1, 1) := by decide +kernel
theorem dX7_records_11 : decode cX7_records 11 = .ok (.sipush 160, 3) := by decide +kernel
theorem dX7_records_14 : decode cX7_records 14 = .ok (.if_icmp .ge 24, 3) := by decide +kernel
theorem dX7_records_17 : decode cX7_records 17 = .ok (.aload_n 0, 1) := by decide +kernel
theorem dX7_records_18 : decode cX7_records 18 = .ok (.getfield 17, 3) := by decide +kernel
theorem dX7_records_21 : decode cX7_records 21 = .ok (.iload_n 1, 1) := by decide +kernel
theorem dX7_records_22 : decode cX7_records 22 = .ok (.aload_n 0, 1) := by decide +kernel
theorem dX7_records_23 : decode cX7_records 23 = .ok (.getfield 17, 3) := by decide +kernel
theorem dX7_records_26 : decode cX7_records 26 = .ok (.iload_n 1, 1) := by decide +kernel
theorem dX7_records_27 : decode cX7_records 27 = .ok (.bipush 40, 2) := by decide +kernel
theorem dX7_records_29 : decode cX7_records 29 = .ok (.iadd, 1) := by decide +kernel
theorem dX7_records_30 : decode cX7_records 30 = .ok (.iaload, 1) := by decide +kernel
theorem dX7_records_31 : decode cX7_records 31 = .ok (.iastore, 1) := by decide +kernel
theorem dX7_records_32 : decode cX7_records 32 = .ok (.iinc 1 1, 3) := by decide +kernel
theorem dX7_records_35 : decode cX7_records 35 = .ok (.goto (-25), 3) := by decide +kernel
theorem dX7_records_38 : decode cX7_records 38 = .ok (.iconst 0, 1) := by decide +kernel
theorem dX7_records_39 : decode cX7_records 39 = .ok (.istore_n 1, 1) := by decide +kernel
theorem dX7_records_40 : decode cX7_records 40 = .ok (.iload_n 1, 1) := by decide +kernel
theorem dX7_records_41 : decode cX7_records 41 = .ok (.bipush 20, 2) := by decide +kernel
theorem dX7_records_43 : decode cX7_records 43 = .ok (.if_icmp .ge 23, 3) := by decide +kernel
theorem dX7_records_46 : decode cX7_records 46 = .ok (.aload_n 0, 1) := by decide +kernel
theorem dX7_records_47 : decode cX7_records 47 = .ok (.getfield 20, 3) := by decide +kernel
theorem dX7_records_50 : decode cX7_records 50 = .ok (.iload_n 1, 1) := by decide +kernel
theorem dX7_records_51 : decode cX7_records 51 = .ok (.aload_n 0, 1) := by decide +kernel
theorem dX7_records_52 : decode cX7_records 52 = .ok (.getfield 20, 3) := by decide +kernel
theorem dX7_records_55 : decode cX7_records 55 = .ok (.iload_n 1, 1) := by decide +kernel
theorem dX7_records_56 : decode cX7_records 56 = .ok (.iconst 5, 1) := by decide +kernel
theorem dX7_records_57 : decode cX7_records 57 = .ok (.iadd, 1) := by decide +kernel
theorem dX7_records_58 : decode cX7_records 58 = .ok (.faload, 1) := by decide +kernel
theorem dX7_records_59 : decode cX7_records 59 = .ok (.fastore, 1) := by decide +kernel
theorem dX7_records_60 : decode cX7_records 60 = .ok (.iinc 1 1, 3) := by decide +kernel
theorem dX7_records_63 : decode cX7_records 63 = .ok (.goto (-23), 3) := by decide +kernel
theorem dX7_records_66 : decode cX7_records 66 = .ok (.aload_n 0, 1) := by decide +kernel
theorem dX7_records_67 : decode cX7_records 67 = .ok (.dup, 1) := by decide +kernel
theorem dX7_records_68 : decode cX7_records 68 = .ok (.getfield 31, 3) := by decide +kernel
theorem dX7_records_71 : decode cX7_records 71 = .ok (.iconst 1, 1) := by decide +kernel
theorem dX7_records_72 : decode cX7_records 72 = .ok (.isub, 1) := by decide +kernel
theorem dX7_records_73 : decode cX7_records 73 = .ok (.putfield 31, 3) := by decide +kernel
theorem dX7_records_76 : decode cX7_records 76 = .ok (.aload_n 0, 1) := by decide +kernel
theorem dX7_records_77 : decode cX7_records 77 = .ok (.aload_n 0, 1) := by decide +kernel
theorem dX7_records_78 : decode cX7_records 78 = .ok (.getfield 31, 3) := by decide +kernel
theorem dX7_records_81 : decode cX7_records 81 = .ok (.invokevirtual 35, 3) := by decide +kernel
theorem dX7_records_84 : decode cX7_records 84 = .ok (.aload_n 0, 1) := by decide +kernel
theorem dX7_records_85 : decode cX7_records 85 = .ok (.dup, 1) := by decide +kernel
theorem dX7_records_86 : decode cX7_records 86 = .ok (.getfield 31, 3) := by decide +kernel
theorem dX7_records_89 : decode cX7_records 89 = .ok (.iconst 1, 1) := by decide +kernel
theorem dX7_records_90 : decode cX7_records 90 = .ok (.iadd, 1) := by decide +kernel
theorem dX7_records_91 : decode cX7_records 91 = .ok (.putfield 31, 3) := by decide +kernel
theorem dX7_records_94 : decode cX7_records 94 = .ok (.return_, 1) := by decide +kernel
theorem dX7_undo_0 : decode cX7_undo 0 = .ok (.aload_n 0, 1) := by decide +kernel
theorem dX7_undo_1 : decode cX7_undo 1 = .ok (.getfield 31, 3) := by decide +kernel
theorem dX7_undo_4 : decode cX7_undo 4 = .ok (.ifCond .ne 6, 3) := by decide +kernel
theorem dX7_undo_7 : decode cX7_undo 7 = .ok (.bipush (-3), 2) := by decide +kernel
theorem dX7_undo_9 : decode cX7_undo 9 = .ok (.ireturn, 1) := by decide +kernel
theorem dX7_undo_10 : decode cX7_undo 10 = .ok (.aload_n 0, 1) := by decide +kernel
theorem dX7_undo_11 : decode cX7_undo 11 = .ok (.dup, 1) := by decide +kernel
theorem dX7_undo_12 : decode cX7_undo 12 = .ok (.getfield 31, 3) := by decide +kernel
theorem dX7_undo_15 : decode cX7_undo 15 = .ok (.iconst 1, 1) := by decide +kernel
theorem dX7_undo_16 : decode cX7_undo 16 = .ok (.isub, 1) := by decide +kernel
theorem dX7_undo_17 : decode cX7_undo 17 = .ok (.putfield 31, 3) := by decide +kernel
theorem dX7_undo_20 : decode cX7_undo 20 = .ok (.aload_n 0, 1) := by decide +kernel
theorem dX7_undo_21 : decode cX7_undo 21 = .ok (.aload_n 0, 1) := by decide +kernel
theorem dX7_undo_22 : decode cX7_undo 22 = .ok (.getfield 31, 3) := by decide +kernel
theorem dX7_undo_25 : decode cX7_undo 25 = .ok (.invokevirtual 39, 3) := by decide +kernel
theorem dX7_undo_28 : decode cX7_undo 28 = .ok (.aload_n 0, 1) := by decide +kernel
theorem dX7_undo_29 : decode cX7_undo 29 = .ok (.getfield 31, 3) := by decide +kernel
theorem dX7_undo_32 : decode cX7_undo 32 = .ok (.ireturn, 1) := by decide +kernel
theorem dX7_save_0 : decode cX7_save 0 = .ok (.iload_n 1, 1) := by decide +kernel
theorem dX7_save_1 : decode cX7_save 1 = .ok (.iconst 0, 1) := by decide +kernel
theorem dX7_save_2 : decode cX7_save 2 = .ok (.iconst 1, 1) := by decide +kernel
theorem dX7_save_3 : decode cX7_save 3 = .ok (.invokestatic 42, 3) := by decide +kernel
theorem dX7_save_6 : decode cX7_save 6 = .ok (.ifCond .ne 5, 3) := by decide +kernel
theorem dX7_save_9 : decode cX7_save 9 = .ok (.iconst (-1), 1) := by decide +kernel
theorem dX7_save_10 : decode cX7_save 10 = .ok (.ireturn, 1) := by decide +kernel
theorem dX7_save_11 : decode cX7_save 11 = .ok (.aload_n 0, 1) := by decide +kernel
theorem dX7_save_12 : decode cX7_save 12 = .ok (.iconst 5, 1) := by decide +kernel
theorem dX7_save_13 : decode cX7_save 13 = .ok (.iload_n 1, 1) := by decide +kernel
theorem dX7_save_14 : decode cX7_save 14 = .ok (.iadd, 1) := by decide +kernel
theorem dX7_save_15 : decode cX7_save 15 = .ok (.invokevirtual 35, 3) := by decide +kernel
theorem dX7_save_18 : decode cX7_save 18 = .ok (.aload_n 0, 1) := by decide +kernel
theorem dX7_save_19 : decode cX7_save 19 = .ok (.getfield 23, 3) := by decide +kernel
theorem dX7_save_22 : decode cX7_save 22 = .ok (.iload_n 1, 1) := by decide +kernel
theorem dX7_save_23 : decode cX7_save 23 = .ok (.iconst 1, 1) := by decide +kernel
theorem dX7_save_24 : decode cX7_save 24 = .ok (.iastore, 1) := by decide +kernel
theorem dX7_save_25 : decode cX7_save 25 = .ok (.aload_n 0, 1) := by decide +kernel
theorem dX7_save_26 : decode cX7_save 26 = .ok (.getfield 7, 3) := by decide +kernel
theorem dX7_save_29 : decode cX7_save 29 = .ok (.iconst 0, 1) := by decide +kernel
theorem dX7_save_30 : decode cX7_save 30 = .ok (.iaload, 1) := by decide +kernel
theorem dX7_save_31 : decode cX7_save 31 = .ok (.ireturn, 1) := by decide +kernel
theorem dX7_restore_0 : decode cX7_restore 0 = .ok (.iload_n 1, 1) := by decide +kernel
theorem dX7_restore_1 : decode cX7_restore 1 = .ok (.iconst 0, 1) := by decide +kernel
theorem dX7_restore_2 : decode cX7_restore 2 = .ok (.iconst 1, 1) := by decide +kernel
theorem dX7_restore_3 : decode cX7_restore 3 = .ok (.invokestatic 42, 3) := by decide +kernel
theorem dX7_restore_6 : decode cX7_restore 6 = .ok (.ifCond .ne 5, 3) := by decide +kernel
theorem dX7_restore_9 : decode cX7_restore 9 = .ok (.iconst (-1), 1) := by decide +kernel
theorem dX7_restore_10 : decode cX7_restore 10 = .ok (.ireturn, 1) := by decide +kernel
theorem dX7_restore_11 : decode cX7_restore 11 = .ok (.aload_n 0, 1) := by decide +kernel
theorem dX7_restore_12 : decode cX7_restore 12 = .ok (.getfield 23, 3) := by decide +kernel
theorem dX7_restore_15 : decode cX7_restore 15 = .ok (.iload_n 1, 1) := by decide +kernel
theorem dX7_restore_16 : decode cX7_restore 16 = .ok (.iaload, 1) := by decide +kernel
theorem dX7_restore_17 : decode cX7_restore 17 = .ok (.ifCond .ne 6, 3) := by decide +kernel
theorem dX7_restore_20 : decode cX7_restore 20 = .ok (.bipush (-3), 2) := by decide +kernel
theorem dX7_restore_22 : decode cX7_restore 22 = .ok (.ireturn, 1) := by decide +kernel
theorem dX7_restore_23 : decode cX7_restore 23 = .ok (.aload_n 0, 1) := by decide +kernel
theorem dX7_restore_24 : decode cX7_restore 24 = .ok (.invokevirtual 46, 3) := by decide +kernel
theorem dX7_restore_27 : decode cX7_restore 27 = .ok (.aload_n 0, 1) := by decide +kernel
theorem dX7_restore_28 : decode cX7_restore 28 = .ok (.iconst 5, 1) := by decide +kernel
theorem dX7_restore_29 : decode cX7_restore 29 = .ok (.iload_n 1, 1) := by decide +kernel
theorem dX7_restore_30 : decode cX7_restore 30 = .ok (.iadd, 1) := by decide +kernel
theorem dX7_restore_31 : decode cX7_restore 31 = .ok (.invokevirtual 39, 3) := by decide +kernel
theorem dX7_restore_34 : decode cX7_restore 34 = .ok (.aload_n 0, 1) := by decide +kernel
theorem dX7_restore_35 : decode cX7_restore 35 = .ok (.getfield 7, 3) := by decide +kernel
theorem dX7_restore_38 : decode cX7_restore 38 = .ok (.iconst 0, 1) := by decide +kernel
theorem dX7_restore_39 : decode cX7_restore 39 = .ok (.iaload, 1) := by decide +kernel
theorem dX7_restore_40 : decode cX7_restore 40 = .ok (.ireturn, 1) := by decide +kernel
theorem dX7_place_0 : decode cX7_place 0 = .ok (.iload_n 1, 1) := by decide +kernel
theorem dX7_place_1 : decode cX7_place 1 = .ok (.iconst 1, 1) := by decide +kernel
theorem dX7_place_2 : decode cX7_place 2 = .ok (.ldc 49, 2) := by decide +kernel
theorem dX7_place_4 : decode cX7_place 4 = .ok (.invokestatic 42, 3) := by decide +kernel
theorem dX7_place_7 : decode cX7_place 7 = .ok (.ifCond .eq 18, 3) := by decide +kernel
theorem dX7_place_10 : decode cX7_place 10 = .ok (.iload_n 2, 1) := by decide +kernel
theorem dX7_place_11 : decode cX7_place 11 = .ok (.ldc 50, 2) := by decide +kernel
theorem dX7_place_13 : decode cX7_place 13 = .ok (.ldc 49, 2) := by decide +kernel
theorem dX7_place_15 : decode cX7_place 15 = .ok (.invokestatic 42, 3) := by decide +kernel
theorem dX7_place_18 : decode cX7_place 18 = .ok (.ifCond .eq 7, 3) := by decide +kernel
theorem dX7_place_21 : decode cX7_place 21 = .ok (.iconst 1, 1) := by decide +kernel
theorem dX7_place_22 : decode cX7_place 22 = .ok (.goto 4, 3) := by decide +kernel
theorem dX7_place_25 : decode cX7_place 25 = .ok (.iconst 0, 1) := by decide +kernel
theorem dX7_place_26 : decode cX7_place 26 = .ok (.istore 5, 2) := by decide +kernel
theorem dX7_place_28 : decode cX7_place 28 = .ok (.iload 5, 2) := by decide +kernel
theorem dX7_place_30 : decode cX7_place 30 = .ok (.ifCond .eq 30, 3) := by decide +kernel
theorem dX7_place_33 : decode cX7_place 33 = .ok (.iload_n 3, 1) := by decide +kernel
theorem dX7_place_34 : decode cX7_place 34 = .ok (.sipush (-5000), 3) := by decide +kernel
theorem dX7_place_37 : decode cX7_place 37 = .ok (.sipush 5000, 3) := by decide +kernel
theorem dX7_place_40 : decode cX7_place 40 = .ok (.invokestatic 42, 3) := by decide +kernel
theorem dX7_place_43 : decode cX7_place 43 = .ok (.ifCond .eq 17, 3) := by decide +kernel
theorem dX7_place_46 : decode cX7_place 46 = .ok (.iload 4, 2) := by decide +kernel
theorem dX7_place_48 : decode cX7_place 48 = .ok (.sipush (-5000), 3) := by decide +kernel
theorem dX7_place_51 : decode cX7_place 51 = .ok (.sipush 5000, 3) := by decide +kernel
theorem dX7_place_54 : decode cX7_place 54 = .ok (.invokestatic 42, 3) := by decide +kernel
theorem dX7_place_57 : decode cX7_place 57 = .ok (.ifCond .ne 6, 3) := by decide +kernel
theorem dX7_place_60 : decode cX7_place 60 = .ok (.bipush (-2), 2) := by decide +kernel
theorem dX7_place_62 : decode cX7_place 62 = .ok (.ireturn, 1) := by decide +kernel
theorem dX7_place_63 : decode cX7_place 63 = .ok (.aload_n 0, 1) := by decide +kernel
theorem dX7_place_64 : decode cX7_place 64 = .ok (.invokevirtual 46, 3) := by decide +kernel
theorem dX7_place_67 : decode cX7_place 67 = .ok (.aload_n 0, 1) := by decide +kernel
theorem dX7_place_68 : decode cX7_place 68 = .ok (.getfield 13, 3) := by decide +kernel
theorem dX7_place_71 : decode cX7_place 71 = .ok (.iconst 0, 1) := by decide +kernel
theorem dX7_place_72 : decode cX7_place 72 = .ok (.iload_n 1, 1) := by decide +kernel
theorem dX7_place_73 : decode cX7_place 73 = .ok (.invokestatic 51, 3) := by decide +kernel
theorem dX7_place_76 : decode cX7_place 76 = .ok (.fastore, 1) := by decide +kernel
theorem dX7_place_77 : decode cX7_place 77 = .ok (.aload_n 0, 1) := by decide +kernel
theorem dX7_place_78 : decode cX7_place 78 = .ok (.getfield 13, 3) := by decide +kernel
theorem dX7_place_81 : decode cX7_place 81 = .ok (.iconst 1, 1) := by decide +kernel
theorem dX7_place_82 : decode cX7_place 82 = .ok (.iload_n 2, 1) := by decide +kernel
theorem dX7_place_83 : decode cX7_place 83 = .ok (.invokestatic 51, 3) := by decide +kernel
theorem dX7_place_86 : decode cX7_place 86 = .ok (.fastore, 1) := by decide +kernel
theorem dX7_place_87 : decode cX7_place 87 = .ok (.aload_n 0, 1) := by decide +kernel
theorem dX7_place_88 : decode cX7_place 88 = .ok (.getfield 13, 3) := by decide +kernel
theorem dX7_place_91 : decode cX7_place 91 = .ok (.iconst 2, 1) := by decide +kernel
theorem dX7_place_92 : decode cX7_place 92 = .ok (.iload_n 3, 1) := by decide +kernel
theorem dX7_place_93 : decode cX7_place 93 = .ok (.invokestatic 55, 3) := by decide +kernel
theorem dX7_place_96 : decode cX7_place 96 = .ok (.fastore, 1) := by decide +kernel
theorem dX7_place_97 : decode cX7_place 97 = .ok (.aload_n 0, 1) := by decide +kernel
theorem dX7_place_98 : decode cX7_place 98 = .ok (.getfield 13, 3) := by decide +kernel
theorem dX7_place_101 : decode cX7_place 101 = .ok (.iconst 3, 1) := by decide +kernel
theorem dX7_place_102 : decode cX7_place 102 = .ok (.iload 4, 2) := by decide +kernel
theorem dX7_place_104 : decode cX7_place 104 = .ok (.invokestatic 55, 3) := by decide +kernel
theorem dX7_place_107 : decode cX7_place 107 = .ok (.fastore, 1) := by decide +kernel
theorem dX7_place_108 : decode cX7_place 108 = .ok (.aload_n 0, 1) := by decide +kernel
theorem dX7_place_109 : decode cX7_place 109 = .ok (.getfield 7, 3) := by decide +kernel
theorem dX7_place_112 : decode cX7_place 112 = .ok (.iconst 0, 1) := by decide +kernel
theorem dX7_place_113 : decode cX7_place 113 = .ok (.iconst 0, 1) := by decide +kernel
theorem dX7_place_114 : decode cX7_place 114 = .ok (.iastore, 1) := by decide +kernel
theorem dX7_place_115 : decode cX7_place 115 = .ok (.aload_n 0, 1) := by decide +kernel
theorem dX7_place_116 : decode cX7_place 116 = .ok (.getfield 7, 3) := by decide +kernel
theorem dX7_place_119 : decode cX7_place 119 = .ok (.iconst 2, 1) := by decide +kernel
theorem dX7_place_120 : decode cX7_place 120 = .ok (.iconst 0, 1) := by decide +kernel
theorem dX7_place_121 : decode cX7_place 121 = .ok (.iastore, 1) := by decide +kernel
theorem dX7_place_122 : decode cX7_place 122 = .ok (.aload_n 0, 1) := by decide +kernel
theorem dX7_place_123 : decode cX7_place 123 = .ok (.getfield 7, 3) := by decide +kernel
theorem dX7_place_126 : decode cX7_place 126 = .ok (.iconst 3, 1) := by decide +kernel
theorem dX7_place_127 : decode cX7_place 127 = .ok (.iconst 0, 1) := by decide +kernel
theorem dX7_place_128 : decode cX7_place 128 = .ok (.iastore, 1) := by decide +kernel
theorem dX7_place_129 : decode cX7_place 129 = .ok (.aload_n 0, 1) := by decide +kernel
theorem dX7_place_130 : decode cX7_place 130 = .ok (.getfield 7, 3) := by decide +kernel
theorem dX7_place_133 : decode cX7_place 133 = .ok (.iconst 4, 1) := by decide +kernel
theorem dX7_place_134 : decode cX7_place 134 = .ok (.iconst 0, 1) := by decide +kernel
theorem dX7_place_135 : decode cX7_place 135 = .ok (.iastore, 1) := by decide +kernel
theorem dX7_place_136 : decode cX7_place 136 = .ok (.aload_n 0, 1) := by decide +kernel
theorem dX7_place_137 : decode cX7_place 137 = .ok (.getfield 7, 3) := by decide +kernel
theorem dX7_place_140 : decode cX7_place 140 = .ok (.iconst 5, 1) := by decide +kernel
theorem dX7_place_141 : decode cX7_place 141 = .ok (.bipush (-5), 2) := by decide +kernel
theorem dX7_place_143 : decode cX7_place 143 = .ok (.iastore, 1) := by decide +kernel
theorem dX7_place_144 : decode cX7_place 144 = .ok (.aload_n 0, 1) := by decide +kernel
theorem dX7_place_145 : decode cX7_place 145 = .ok (.invokevirtual 58, 3) := by decide +kernel
theorem dX7_place_148 : decode cX7_place 148 = .ok (.ireturn, 1) := by decide +kernel
theorem dX7_leastOf_0 : decode cX7_leastOf 0 = .ok (.iload_n 0, 1) := by decide +kernel
theorem dX7_leastOf_1 : decode cX7_leastOf 1 = .ok (.tableswitch 55 0 7 #[47, 55, 50, 55, 53, 55, 53, 47], 47) := by decide +kernel
theorem dX7_leastOf_48 : decode cX7_leastOf 48 = .ok (.bipush 10, 2) := by decide +kernel
theorem dX7_leastOf_50 : decode cX7_leastOf 50 = .ok (.ireturn, 1) := by decide +kernel
theorem dX7_leastOf_51 : decode cX7_leastOf 51 = .ok (.bipush 100, 2) := by decide +kernel
theorem dX7_leastOf_53 : decode cX7_leastOf 53 = .ok (.ireturn, 1) := by decide +kernel
theorem dX7_leastOf_54 : decode cX7_leastOf 54 = .ok (.iconst 1, 1) := by decide +kernel
theorem dX7_leastOf_55 : decode cX7_leastOf 55 = .ok (.ireturn, 1) := by decide +kernel
theorem dX7_leastOf_56 : decode cX7_leastOf 56 = .ok (.iconst 0, 1) := by decide +kernel
theorem dX7_leastOf_57 : decode cX7_leastOf 57 = .ok (.ireturn, 1) := by decide +kernel
theorem dX7_mostOf_0 : decode cX7_mostOf 0 = .ok (.iload_n 0, 1) := by decide +kernel
theorem dX7_mostOf_1 : decode cX7_mostOf 1 = .ok (.tableswitch 58 0 6 #[43, 58, 47, 51, 58, 58, 55], 43) := by decide +kernel
theorem dX7_mostOf_44 : decode cX7_mostOf 44 = .ok (.sipush 1000, 3) := by decide +kernel
theorem dX7_mostOf_47 : decode cX7_mostOf 47 = .ok (.ireturn, 1) := by decide +kernel
theorem dX7_mostOf_48 : decode cX7_mostOf 48 = .ok (.sipush 5000, 3) := by decide +kernel
theorem dX7_mostOf_51 : decode cX7_mostOf 51 = .ok (.ireturn, 1) := by decide +kernel
theorem dX7_mostOf_52 : decode cX7_mostOf 52 = .ok (.sipush 10000, 3) := by decide +kernel
theorem dX7_mostOf_55 : decode cX7_mostOf 55 = .ok (.ireturn, 1) := by decide +kernel
theorem dX7_mostOf_56 : decode cX7_mostOf 56 = .ok (.bipush 60, 2) := by decide +kernel
theorem dX7_mostOf_58 : decode cX7_mostOf 58 = .ok (.ireturn, 1) := by decide +kernel
theorem dX7_mostOf_59 : decode cX7_mostOf 59 = .ok (.sipush 500, 3) := by decide +kernel
theorem dX7_mostOf_62 : decode cX7_mostOf 62 = .ok (.ireturn, 1) := by decide +kernel
theorem dX7_set_0 : decode cX7_set 0 = .ok (.iload_n 1, 1) := by decide +kernel
theorem dX7_set_1 : decode cX7_set 1 = .ok (.iconst 0, 1) := by decide +kernel
theorem dX7_set_2 : decode cX7_set 2 = .ok (.bipush 7, 2) := by decide +kernel
theorem dX7_set_4 : decode cX7_set 4 = .ok (.invokestatic 42, 3) := by decide +kernel
theorem dX7_set_7 : decode cX7_set 7 = .ok (.ifCond .ne 5, 3) := by decide +kernel
theorem dX7_set_10 : decode cX7_set 10 = .ok (.iconst (-1), 1) := by decide +kernel
theorem dX7_set_11 : decode cX7_set 11 = .ok (.ireturn, 1) := by decide +kernel
theorem dX7_set_12 : decode cX7_set 12 = .ok (.iload_n 2, 1) := by decide +kernel
theorem dX7_set_13 : decode cX7_set 13 = .ok (.iload_n 1, 1) := by decide +kernel
theorem dX7_set_14 : decode cX7_set 14 = .ok (.invokestatic 62, 3) := by decide +kernel
theorem dX7_set_17 : decode cX7_set 17 = .ok (.iload_n 1, 1) := by decide +kernel
theorem dX7_set_18 : decode cX7_set 18 = .ok (.invokestatic 66, 3) := by decide +kernel
theorem dX7_set_21 : decode cX7_set 21 = .ok (.invokestatic 42, 3) := by decide +kernel
theorem dX7_set_24 : decode cX7_set 24 = .ok (.ifCond .ne 6, 3) := by decide +kernel
theorem dX7_set_27 : decode cX7_set 27 = .ok (.bipush (-2), 2) := by decide +kernel
theorem dX7_set_29 : decode cX7_set 29 = .ok (.ireturn, 1) := by decide +kernel
theorem dX7_set_30 : decode cX7_set 30 = .ok (.aload_n 0, 1) := by decide +kernel
theorem dX7_set_31 : decode cX7_set 31 = .ok (.invokevirtual 46, 3) := by decide +kernel
theorem dX7_set_34 : decode cX7_set 34 = .ok (.aload_n 0, 1) := by decide +kernel
theorem dX7_set_35 : decode cX7_set 35 = .ok (.getfield 7, 3) := by decide +kernel
theorem dX7_set_38 : decode cX7_set 38 = .ok (.bipush 12, 2) := by decide +kernel
theorem dX7_set_40 : decode cX7_set 40 = .ok (.iload_n 1, 1) := by decide +kernel
theorem dX7_set_41 : decode cX7_set 41 = .ok (.iadd, 1) := by decide +kernel
theorem dX7_set_42 : decode cX7_set 42 = .ok (.iaload, 1) := by decide +kernel
theorem dX7_set_43 : decode cX7_set 43 = .ok (.istore_n 3, 1) := by decide +kernel
theorem dX7_set_44 : decode cX7_set 44 = .ok (.aload_n 0, 1) := by decide +kernel
theorem dX7_set_45 : decode cX7_set 45 = .ok (.getfield 7, 3) := by decide +kernel
theorem dX7_set_48 : decode cX7_set 48 = .ok (.bipush 12, 2) := by decide +kernel
theorem dX7_set_50 : decode cX7_set 50 = .ok (.iload_n 1, 1) := by decide +kernel
theorem dX7_set_51 : decode cX7_set 51 = .ok (.iadd, 1) := by decide +kernel
theorem dX7_set_52 : decode cX7_set 52 = .ok (.iload_n 2, 1) := by decide +kernel
theorem dX7_set_53 : decode cX7_set 53 = .ok (.iastore, 1) := by decide +kernel
theorem dX7_set_54 : decode cX7_set 54 = .ok (.iload_n 3, 1) := by decide +kernel
theorem dX7_set_55 : decode cX7_set 55 = .ok (.ireturn, 1) := by decide +kernel
theorem dX7_distanceOf_0 : decode cX7_distanceOf 0 = .ok (.aload_n 0, 1) := by decide +kernel
theorem dX7_distanceOf_1 : decode cX7_distanceOf 1 = .ok (.getfield 7, 3) := by decide +kernel
theorem dX7_distanceOf_4 : decode cX7_distanceOf 4 = .ok (.bipush 20, 2) := by decide +kernel
theorem dX7_distanceOf_6 : decode cX7_distanceOf 6 = .ok (.iconst 2, 1) := by decide +kernel
theorem dX7_distanceOf_7 : decode cX7_distanceOf 7 = .ok (.iload_n 1, 1) := by decide +kernel
theorem dX7_distanceOf_8 : decode cX7_distanceOf 8 = .ok (.imul, 1) := by decide +kernel
theorem dX7_distanceOf_9 : decode cX7_distanceOf 9 = .ok (.iadd, 1) := by decide +kernel
theorem dX7_distanceOf_10 : decode cX7_distanceOf 10 = .ok (.iaload, 1) := by decide +kernel
theorem dX7_distanceOf_11 : decode cX7_distanceOf 11 = .ok (.ireturn, 1) := by decide +kernel
theorem dX7_setPoint_0 : decode cX7_setPoint 0 = .ok (.iload_n 1, 1) := by decide +kernel
theorem dX7_setPoint_1 : decode cX7_setPoint 1 = .ok (.iconst 0, 1) := by decide +kernel
theorem dX7_setPoint_2 : decode cX7_setPoint 2 = .ok (.ldc 49, 2) := by decide +kernel
theorem dX7_setPoint_4 : decode cX7_setPoint 4 = .ok (.invokestatic 42, 3) := by decide +kernel
theorem dX7_setPoint_7 : decode cX7_setPoint 7 = .ok (.ifCond .eq 14, 3) := by decide +kernel
theorem dX7_setPoint_10 : decode cX7_setPoint 10 = .ok (.iload_n 2, 1) := by decide +kernel
theorem dX7_setPoint_11 : decode cX7_setPoint 11 = .ok (.iconst 1, 1) := by decide +kernel
theorem dX7_setPoint_12 : decode cX7_setPoint 12 = .ok (.sipush 5000, 3) := by decide +kernel
theorem dX7_setPoint_15 : decode cX7_setPoint 15 = .ok (.invokestatic 42, 3) := by decide +kernel
theorem dX7_setPoint_18 : decode cX7_setPoint 18 = .ok (.ifCond .ne 6, 3) := by decide +kernel
theorem dX7_setPoint_21 : decode cX7_setPoint 21 = .ok (.bipush (-2), 2) := by decide +kernel
theorem dX7_setPoint_23 : decode cX7_setPoint 23 = .ok (.ireturn, 1) := by decide +kernel
theorem dX7_setPoint_24 : decode cX7_setPoint 24 = .ok (.iconst 0, 1) := by decide +kernel
theorem dX7_setPoint_25 : decode cX7_setPoint 25 = .ok (.istore_n 3, 1) := by decide +kernel
theorem dX7_setPoint_26 : decode cX7_setPoint 26 = .ok (.iload_n 3, 1) := by decide +kernel
theorem dX7_setPoint_27 : decode cX7_setPoint 27 = .ok (.aload_n 0, 1) := by decide +kernel
theorem dX7_setPoint_28 : decode cX7_setPoint 28 = .ok (.getfield 7, 3) := by decide +kernel
theorem dX7_setPoint_31 : decode cX7_setPoint 31 = .ok (.bipush 10, 2) := by decide +kernel
theorem dX7_setPoint_33 : decode cX7_setPoint 33 = .ok (.iaload, 1) := by decide +kernel
theorem dX7_setPoint_34 : decode cX7_setPoint 34 = .ok (.if_icmp .ge 18, 3) := by decide +kernel
theorem dX7_setPoint_37 : decode cX7_setPoint 37 = .ok (.aload_n 0, 1) := by decide +kernel
theorem dX7_setPoint_38 : decode cX7_setPoint 38 = .ok (.iload_n 3, 1) := by decide +kernel
theorem dX7_setPoint_39 : decode cX7_setPoint 39 = .ok (.invokevirtual 69, 3) := by decide +kernel
theorem dX7_setPoint_42 : decode cX7_setPoint 42 = .ok (.iload_n 1, 1) := by decide +kernel
theorem dX7_setPoint_43 : decode cX7_setPoint 43 = .ok (.if_icmp .ge 9, 3) := by decide +kernel
theorem dX7_setPoint_46 : decode cX7_setPoint 46 = .ok (.iinc 3 1, 3) := by decide +kernel
theorem dX7_setPoint_49 : decode cX7_setPoint 49 = .ok (.goto (-23), 3) := by decide +kernel
theorem dX7_setPoint_52 : decode cX7_setPoint 52 = .ok (.iload_n 3, 1) := by decide +kernel
theorem dX7_setPoint_53 : decode cX7_setPoint 53 = .ok (.aload_n 0, 1) := by decide +kernel
theorem dX7_setPoint_54 : decode cX7_setPoint 54 = .ok (.getfield 7, 3) := by decide +kernel
theorem dX7_setPoint_57 : decode cX7_setPoint 57 = .ok (.bipush 10, 2) := by decide +kernel
theorem dX7_setPoint_59 : decode cX7_setPoint 59 = .ok (.iaload, 1) := by decide +kernel
theorem dX7_setPoint_60 : decode cX7_setPoint 60 = .ok (.if_icmp .ge 16, 3) := by decide +kernel
theorem dX7_setPoint_63 : decode cX7_setPoint 63 = .ok (.aload_n 0, 1) := by decide +kernel
theorem dX7_setPoint_64 : decode cX7_setPoint 64 = .ok (.iload_n 3, 1) := by decide +kernel
theorem dX7_setPoint_65 : decode cX7_setPoint 65 = .ok (.invokevirtual 69, 3) := by decide +kernel
theorem dX7_setPoint_68 : decode cX7_setPoint 68 = .ok (.iload_n 1, 1) := by decide +kernel
theorem dX7_setPoint_69 : decode cX7_setPoint 69 = .ok (.if_icmp .ne 7, 3) := by decide +kernel
theorem dX7_setPoint_72 : decode cX7_setPoint 72 = .ok (.iconst 1, 1) := by decide +kernel
theorem dX7_setPoint_73 : decode cX7_setPoint 73 = .ok (.goto 4, 3) := by decide +kernel
theorem dX7_setPoint_76 : decode cX7_setPoint 76 = .ok (.iconst 0, 1) := by decide +kernel
theorem dX7_setPoint_77 : decode cX7_setPoint 77 = .ok (.istore 4, 2) := by decide +kernel
theorem dX7_setPoint_79 : decode cX7_setPoint 79 = .ok (.iload 4, 2) := by decide +kernel
theorem dX7_setPoint_81 : decode cX7_setPoint 81 = .ok (.ifCond .ne 18, 3) := by decide +kernel
theorem dX7_setPoint_84 : decode cX7_setPoint 84 = .ok (.aload_n 0, 1) := by decide +kernel
theorem dX7_setPoint_85 : decode cX7_setPoint 85 = .ok (.getfield 7, 3) := by decide +kernel
theorem dX7_setPoint_88 : decode cX7_setPoint 88 = .ok (.bipush 10, 2) := by decide +kernel
theorem dX7_setPoint_90 : decode cX7_setPoint 90 = .ok (.iaload, 1) := by decide +kernel
theorem dX7_setPoint_91 : decode cX7_setPoint 91 = .ok (.bipush 6, 2) := by decide +kernel
theorem dX7_setPoint_93 : decode cX7_setPoint 93 = .ok (.if_icmp .ne 6, 3) := by decide +kernel
theorem dX7_setPoint_96 : decode cX7_setPoint 96 = .ok (.bipush (-4), 2) := by decide +kernel
theorem dX7_setPoint_98 : decode cX7_setPoint 98 = .ok (.ireturn, 1) := by decide +kernel
theorem dX7_setPoint_99 : decode cX7_setPoint 99 = .ok (.aload_n 0, 1) := by decide +kernel
theorem dX7_setPoint_100 : decode cX7_setPoint 100 = .ok (.invokevirtual 46, 3) := by decide +kernel
theorem dX7_setPoint_103 : decode cX7_setPoint 103 = .ok (.iload 4, 2) := by decide +kernel
theorem dX7_setPoint_105 : decode cX7_setPoint 105 = .ok (.ifCond .ne 63, 3) := by decide +kernel
theorem dX7_setPoint_108 : decode cX7_setPoint 108 = .ok (.iconst 2, 1) := by decide +kernel
theorem dX7_setPoint_109 : decode cX7_setPoint 109 = .ok (.aload_n 0, 1) := by decide +kernel
theorem dX7_setPoint_110 : decode cX7_setPoint 110 = .ok (.getfield 7, 3) := by decide +kernel
theorem dX7_setPoint_113 : decode cX7_setPoint 113 = .ok (.bipush 10, 2) := by decide +kernel
theorem dX7_setPoint_115 : decode cX7_setPoint 115 = .ok (.iaload, 1) := by decide +kernel
theorem dX7_setPoint_116 : decode cX7_setPoint 116 = .ok (.imul, 1) := by decide +kernel
theorem dX7_setPoint_117 : decode cX7_setPoint 117 = .ok (.iconst 1, 1) := by decide +kernel
theorem dX7_setPoint_118 : decode cX7_setPoint 118 = .ok (.isub, 1) := by decide +kernel
theorem dX7_setPoint_119 : decode cX7_setPoint 119 = .ok (.istore 5, 2) := by decide +kernel
theorem dX7_setPoint_121 : decode cX7_setPoint 121 = .ok (.iload 5, 2) := by decide +kernel
theorem dX7_setPoint_123 : decode cX7_setPoint 123 = .ok (.iconst 2, 1) := by decide +kernel
theorem dX7_setPoint_124 : decode cX7_setPoint 124 = .ok (.iload_n 3, 1) := by decide +kernel
theorem dX7_setPoint_125 : decode cX7_setPoint 125 = .ok (.imul, 1) := by decide +kernel
theorem dX7_setPoint_126 : decode cX7_setPoint 126 = .ok (.if_icmp .lt 31, 3) := by decide +kernel
theorem dX7_setPoint_129 : decode cX7_setPoint 129 = .ok (.aload_n 0, 1) := by decide +kernel
theorem dX7_setPoint_130 : decode cX7_setPoint 130 = .ok (.getfield 7, 3) := by decide +kernel
theorem dX7_setPoint_133 : decode cX7_setPoint 133 = .ok (.bipush 20, 2) := by decide +kernel
theorem dX7_setPoint_135 : decode cX7_setPoint 135 = .ok (.iload 5, 2) := by decide +kernel
theorem dX7_setPoint_137 : decode cX7_setPoint 137 = .ok (.iadd, 1) := by decide +kernel
theorem dX7_setPoint_138 : decode cX7_setPoint 138 = .ok (.iconst 2, 1) := by decide +kernel
theorem dX7_setPoint_139 : decode cX7_setPoint 139 = .ok (.iadd, 1) := by decide +kernel
theorem dX7_setPoint_140 : decode cX7_setPoint 140 = .ok (.aload_n 0, 1) := by decide +kernel
theorem dX7_setPoint_141 : decode cX7_setPoint 141 = .ok (.getfield 7, 3) := by decide +kernel
theorem dX7_setPoint_144 : decode cX7_setPoint 144 = .ok (.bipush 20, 2) := by decide +kernel
end
section
theorem dX7_setPoint_146 : decode cX7_setPoint 146 = .ok (.iload 5, 2) := by decide +kernel
theorem dX7_setPoint_148 : decode cX7_setPoint 148 = .ok (.iadd, 1) := by decide +kernel
theorem dX7_setPoint_149 : decode cX7_setPoint 149 = .ok (.iaload, 1) := by decide +kernel
theorem dX7_setPoint_150 : decode cX7_setPoint 150 = .ok (.iastore, 1) := by decide +kernel
theorem dX7_setPoint_151 : decode cX7_setPoint 151 = .ok (.iinc 5 (-1), 3) := by decide +kernel
theorem dX7_setPoint_154 : decode cX7_setPoint 154 = .ok (.goto (-33), 3) := by decide +kernel
theorem dX7_setPoint_157 : decode cX7_setPoint 157 = .ok (.aload_n 0, 1) := by decide +kernel
theorem dX7_setPoint_158 : decode cX7_setPoint 158 = .ok (.getfield 7, 3) := by decide +kernel
theorem dX7_setPoint_161 : decode cX7_setPoint 161 = .ok (.bipush 10, 2) := by decide +kernel
theorem dX7_setPoint_163 : decode cX7_setPoint 163 = .ok (.dup2, 1) := by decide +kernel
theorem dX7_setPoint_164 : decode cX7_setPoint 164 = .ok (.iaload, 1) := by decide +kernel
theorem dX7_setPoint_165 : decode cX7_setPoint 165 = .ok (.iconst 1, 1) := by decide +kernel
theorem dX7_setPoint_166 : decode cX7_setPoint 166 = .ok (.iadd, 1) := by decide +kernel
theorem dX7_setPoint_167 : decode cX7_setPoint 167 = .ok (.iastore, 1) := by decide +kernel
theorem dX7_setPoint_168 : decode cX7_setPoint 168 = .ok (.aload_n 0, 1) := by decide +kernel
theorem dX7_setPoint_169 : decode cX7_setPoint 169 = .ok (.getfield 7, 3) := by decide +kernel
theorem dX7_setPoint_172 : decode cX7_setPoint 172 = .ok (.bipush 20, 2) := by decide +kernel
theorem dX7_setPoint_174 : decode cX7_setPoint 174 = .ok (.iconst 2, 1) := by decide +kernel
theorem dX7_setPoint_175 : decode cX7_setPoint 175 = .ok (.iload_n 3, 1) := by decide +kernel
theorem dX7_setPoint_176 : decode cX7_setPoint 176 = .ok (.imul, 1) := by decide +kernel
theorem dX7_setPoint_177 : decode cX7_setPoint 177 = .ok (.iadd, 1) := by decide +kernel
theorem dX7_setPoint_178 : decode cX7_setPoint 178 = .ok (.iload_n 1, 1) := by decide +kernel
theorem dX7_setPoint_179 : decode cX7_setPoint 179 = .ok (.iastore, 1) := by decide +kernel
theorem dX7_setPoint_180 : decode cX7_setPoint 180 = .ok (.aload_n 0, 1) := by decide +kernel
theorem dX7_setPoint_181 : decode cX7_setPoint 181 = .ok (.getfield 7, 3) := by decide +kernel
theorem dX7_setPoint_184 : decode cX7_setPoint 184 = .ok (.bipush 20, 2) := by decide +kernel
theorem dX7_setPoint_186 : decode cX7_setPoint 186 = .ok (.iconst 2, 1) := by decide +kernel
theorem dX7_setPoint_187 : decode cX7_setPoint 187 = .ok (.iload_n 3, 1) := by decide +kernel
theorem dX7_setPoint_188 : decode cX7_setPoint 188 = .ok (.imul, 1) := by decide +kernel
theorem dX7_setPoint_189 : decode cX7_setPoint 189 = .ok (.iadd, 1) := by decide +kernel
theorem dX7_setPoint_190 : decode cX7_setPoint 190 = .ok (.iconst 1, 1) := by decide +kernel
theorem dX7_setPoint_191 : decode cX7_setPoint 191 = .ok (.iadd, 1) := by decide +kernel
theorem dX7_setPoint_192 : decode cX7_setPoint 192 = .ok (.iload_n 2, 1) := by decide +kernel
theorem dX7_setPoint_193 : decode cX7_setPoint 193 = .ok (.iastore, 1) := by decide +kernel
theorem dX7_setPoint_194 : decode cX7_setPoint 194 = .ok (.aload_n 0, 1) := by decide +kernel
theorem dX7_setPoint_195 : decode cX7_setPoint 195 = .ok (.getfield 7, 3) := by decide +kernel
theorem dX7_setPoint_198 : decode cX7_setPoint 198 = .ok (.bipush 10, 2) := by decide +kernel
theorem dX7_setPoint_200 : decode cX7_setPoint 200 = .ok (.iaload, 1) := by decide +kernel
theorem dX7_setPoint_201 : decode cX7_setPoint 201 = .ok (.ireturn, 1) := by decide +kernel
theorem dX7_addStop_0 : decode cX7_addStop 0 = .ok (.iload_n 1, 1) := by decide +kernel
theorem dX7_addStop_1 : decode cX7_addStop 1 = .ok (.iconst 1, 1) := by decide +kernel
theorem dX7_addStop_2 : decode cX7_addStop 2 = .ok (.ldc 49, 2) := by decide +kernel
theorem dX7_addStop_4 : decode cX7_addStop 4 = .ok (.invokestatic 42, 3) := by decide +kernel
theorem dX7_addStop_7 : decode cX7_addStop 7 = .ok (.ifCond .ne 6, 3) := by decide +kernel
theorem dX7_addStop_10 : decode cX7_addStop 10 = .ok (.bipush (-2), 2) := by decide +kernel
theorem dX7_addStop_12 : decode cX7_addStop 12 = .ok (.ireturn, 1) := by decide +kernel
theorem dX7_addStop_13 : decode cX7_addStop 13 = .ok (.aload_n 0, 1) := by decide +kernel
theorem dX7_addStop_14 : decode cX7_addStop 14 = .ok (.getfield 7, 3) := by decide +kernel
theorem dX7_addStop_17 : decode cX7_addStop 17 = .ok (.bipush 11, 2) := by decide +kernel
theorem dX7_addStop_19 : decode cX7_addStop 19 = .ok (.iaload, 1) := by decide +kernel
theorem dX7_addStop_20 : decode cX7_addStop 20 = .ok (.iconst 4, 1) := by decide +kernel
theorem dX7_addStop_21 : decode cX7_addStop 21 = .ok (.if_icmp .ne 6, 3) := by decide +kernel
theorem dX7_addStop_24 : decode cX7_addStop 24 = .ok (.bipush (-4), 2) := by decide +kernel
theorem dX7_addStop_26 : decode cX7_addStop 26 = .ok (.ireturn, 1) := by decide +kernel
theorem dX7_addStop_27 : decode cX7_addStop 27 = .ok (.aload_n 0, 1) := by decide +kernel
theorem dX7_addStop_28 : decode cX7_addStop 28 = .ok (.invokevirtual 46, 3) := by decide +kernel
theorem dX7_addStop_31 : decode cX7_addStop 31 = .ok (.aload_n 0, 1) := by decide +kernel
theorem dX7_addStop_32 : decode cX7_addStop 32 = .ok (.getfield 7, 3) := by decide +kernel
theorem dX7_addStop_35 : decode cX7_addStop 35 = .ok (.bipush 32, 2) := by decide +kernel
theorem dX7_addStop_37 : decode cX7_addStop 37 = .ok (.iconst 2, 1) := by decide +kernel
theorem dX7_addStop_38 : decode cX7_addStop 38 = .ok (.aload_n 0, 1) := by decide +kernel
theorem dX7_addStop_39 : decode cX7_addStop 39 = .ok (.getfield 7, 3) := by decide +kernel
theorem dX7_addStop_42 : decode cX7_addStop 42 = .ok (.bipush 11, 2) := by decide +kernel
theorem dX7_addStop_44 : decode cX7_addStop 44 = .ok (.iaload, 1) := by decide +kernel
theorem dX7_addStop_45 : decode cX7_addStop 45 = .ok (.imul, 1) := by decide +kernel
theorem dX7_addStop_46 : decode cX7_addStop 46 = .ok (.iadd, 1) := by decide +kernel
theorem dX7_addStop_47 : decode cX7_addStop 47 = .ok (.iload_n 1, 1) := by decide +kernel
theorem dX7_addStop_48 : decode cX7_addStop 48 = .ok (.iastore, 1) := by decide +kernel
theorem dX7_addStop_49 : decode cX7_addStop 49 = .ok (.aload_n 0, 1) := by decide +kernel
theorem dX7_addStop_50 : decode cX7_addStop 50 = .ok (.getfield 7, 3) := by decide +kernel
theorem dX7_addStop_53 : decode cX7_addStop 53 = .ok (.bipush 32, 2) := by decide +kernel
theorem dX7_addStop_55 : decode cX7_addStop 55 = .ok (.iconst 2, 1) := by decide +kernel
theorem dX7_addStop_56 : decode cX7_addStop 56 = .ok (.aload_n 0, 1) := by decide +kernel
theorem dX7_addStop_57 : decode cX7_addStop 57 = .ok (.getfield 7, 3) := by decide +kernel
theorem dX7_addStop_60 : decode cX7_addStop 60 = .ok (.bipush 11, 2) := by decide +kernel
theorem dX7_addStop_62 : decode cX7_addStop 62 = .ok (.iaload, 1) := by decide +kernel
theorem dX7_addStop_63 : decode cX7_addStop 63 = .ok (.imul, 1) := by decide +kernel
theorem dX7_addStop_64 : decode cX7_addStop 64 = .ok (.iadd, 1) := by decide +kernel
theorem dX7_addStop_65 : decode cX7_addStop 65 = .ok (.iconst 1, 1) := by decide +kernel
theorem dX7_addStop_66 : decode cX7_addStop 66 = .ok (.iadd, 1) := by decide +kernel
theorem dX7_addStop_67 : decode cX7_addStop 67 = .ok (.iconst 0, 1) := by decide +kernel
theorem dX7_addStop_68 : decode cX7_addStop 68 = .ok (.iastore, 1) := by decide +kernel
theorem dX7_addStop_69 : decode cX7_addStop 69 = .ok (.aload_n 0, 1) := by decide +kernel
theorem dX7_addStop_70 : decode cX7_addStop 70 = .ok (.getfield 7, 3) := by decide +kernel
theorem dX7_addStop_73 : decode cX7_addStop 73 = .ok (.bipush 11, 2) := by decide +kernel
theorem dX7_addStop_75 : decode cX7_addStop 75 = .ok (.dup2, 1) := by decide +kernel
theorem dX7_addStop_76 : decode cX7_addStop 76 = .ok (.iaload, 1) := by decide +kernel
theorem dX7_addStop_77 : decode cX7_addStop 77 = .ok (.iconst 1, 1) := by decide +kernel
theorem dX7_addStop_78 : decode cX7_addStop 78 = .ok (.iadd, 1) := by decide +kernel
theorem dX7_addStop_79 : decode cX7_addStop 79 = .ok (.iastore, 1) := by decide +kernel
theorem dX7_addStop_80 : decode cX7_addStop 80 = .ok (.aload_n 0, 1) := by decide +kernel
theorem dX7_addStop_81 : decode cX7_addStop 81 = .ok (.getfield 7, 3) := by decide +kernel
theorem dX7_addStop_84 : decode cX7_addStop 84 = .ok (.bipush 11, 2) := by decide +kernel
theorem dX7_addStop_86 : decode cX7_addStop 86 = .ok (.iaload, 1) := by decide +kernel
theorem dX7_addStop_87 : decode cX7_addStop 87 = .ok (.iconst 1, 1) := by decide +kernel
theorem dX7_addStop_88 : decode cX7_addStop 88 = .ok (.isub, 1) := by decide +kernel
theorem dX7_addStop_89 : decode cX7_addStop 89 = .ok (.ireturn, 1) := by decide +kernel
theorem dX7_setBias_0 : decode cX7_setBias 0 = .ok (.iload_n 2, 1) := by decide +kernel
theorem dX7_setBias_1 : decode cX7_setBias 1 = .ok (.sipush (-500), 3) := by decide +kernel
theorem dX7_setBias_4 : decode cX7_setBias 4 = .ok (.sipush 500, 3) := by decide +kernel
theorem dX7_setBias_7 : decode cX7_setBias 7 = .ok (.invokestatic 42, 3) := by decide +kernel
theorem dX7_setBias_10 : decode cX7_setBias 10 = .ok (.ifCond .ne 6, 3) := by decide +kernel
theorem dX7_setBias_13 : decode cX7_setBias 13 = .ok (.bipush (-2), 2) := by decide +kernel
theorem dX7_setBias_15 : decode cX7_setBias 15 = .ok (.ireturn, 1) := by decide +kernel
theorem dX7_setBias_16 : decode cX7_setBias 16 = .ok (.aload_n 0, 1) := by decide +kernel
theorem dX7_setBias_17 : decode cX7_setBias 17 = .ok (.invokevirtual 46, 3) := by decide +kernel
theorem dX7_setBias_20 : decode cX7_setBias 20 = .ok (.aload_n 0, 1) := by decide +kernel
theorem dX7_setBias_21 : decode cX7_setBias 21 = .ok (.getfield 7, 3) := by decide +kernel
theorem dX7_setBias_24 : decode cX7_setBias 24 = .ok (.bipush 6, 2) := by decide +kernel
theorem dX7_setBias_26 : decode cX7_setBias 26 = .ok (.iload_n 1, 1) := by decide +kernel
theorem dX7_setBias_27 : decode cX7_setBias 27 = .ok (.ifCond .eq 7, 3) := by decide +kernel
theorem dX7_setBias_30 : decode cX7_setBias 30 = .ok (.iconst 1, 1) := by decide +kernel
theorem dX7_setBias_31 : decode cX7_setBias 31 = .ok (.goto 4, 3) := by decide +kernel
theorem dX7_setBias_34 : decode cX7_setBias 34 = .ok (.iconst 0, 1) := by decide +kernel
theorem dX7_setBias_35 : decode cX7_setBias 35 = .ok (.iadd, 1) := by decide +kernel
theorem dX7_setBias_36 : decode cX7_setBias 36 = .ok (.iload_n 2, 1) := by decide +kernel
theorem dX7_setBias_37 : decode cX7_setBias 37 = .ok (.iastore, 1) := by decide +kernel
theorem dX7_setBias_38 : decode cX7_setBias 38 = .ok (.iload_n 1, 1) := by decide +kernel
theorem dX7_setBias_39 : decode cX7_setBias 39 = .ok (.aload_n 0, 1) := by decide +kernel
theorem dX7_setBias_40 : decode cX7_setBias 40 = .ok (.getfield 7, 3) := by decide +kernel
theorem dX7_setBias_43 : decode cX7_setBias 43 = .ok (.iconst 4, 1) := by decide +kernel
theorem dX7_setBias_44 : decode cX7_setBias 44 = .ok (.iaload, 1) := by decide +kernel
theorem dX7_setBias_45 : decode cX7_setBias 45 = .ok (.iconst 1, 1) := by decide +kernel
theorem dX7_setBias_46 : decode cX7_setBias 46 = .ok (.if_icmp .ne 7, 3) := by decide +kernel
theorem dX7_setBias_49 : decode cX7_setBias 49 = .ok (.iconst 1, 1) := by decide +kernel
theorem dX7_setBias_50 : decode cX7_setBias 50 = .ok (.goto 4, 3) := by decide +kernel
theorem dX7_setBias_53 : decode cX7_setBias 53 = .ok (.iconst 0, 1) := by decide +kernel
theorem dX7_setBias_54 : decode cX7_setBias 54 = .ok (.if_icmp .ne 7, 3) := by decide +kernel
theorem dX7_setBias_57 : decode cX7_setBias 57 = .ok (.iconst 1, 1) := by decide +kernel
theorem dX7_setBias_58 : decode cX7_setBias 58 = .ok (.goto 4, 3) := by decide +kernel
theorem dX7_setBias_61 : decode cX7_setBias 61 = .ok (.iconst 0, 1) := by decide +kernel
theorem dX7_setBias_62 : decode cX7_setBias 62 = .ok (.ireturn, 1) := by decide +kernel
theorem dX7_speedOf_0 : decode cX7_speedOf 0 = .ok (.aload_n 0, 1) := by decide +kernel
theorem dX7_speedOf_1 : decode cX7_speedOf 1 = .ok (.getfield 7, 3) := by decide +kernel
theorem dX7_speedOf_4 : decode cX7_speedOf 4 = .ok (.bipush 20, 2) := by decide +kernel
theorem dX7_speedOf_6 : decode cX7_speedOf 6 = .ok (.iconst 2, 1) := by decide +kernel
theorem dX7_speedOf_7 : decode cX7_speedOf 7 = .ok (.iload_n 1, 1) := by decide +kernel
theorem dX7_speedOf_8 : decode cX7_speedOf 8 = .ok (.imul, 1) := by decide +kernel
theorem dX7_speedOf_9 : decode cX7_speedOf 9 = .ok (.iadd, 1) := by decide +kernel
theorem dX7_speedOf_10 : decode cX7_speedOf 10 = .ok (.iconst 1, 1) := by decide +kernel
theorem dX7_speedOf_11 : decode cX7_speedOf 11 = .ok (.iadd, 1) := by decide +kernel
theorem dX7_speedOf_12 : decode cX7_speedOf 12 = .ok (.iaload, 1) := by decide +kernel
theorem dX7_speedOf_13 : decode cX7_speedOf 13 = .ok (.invokestatic 55, 3) := by decide +kernel
theorem dX7_speedOf_16 : decode cX7_speedOf 16 = .ok (.freturn, 1) := by decide +kernel
theorem dX7_limitAt_0 : decode cX7_limitAt 0 = .ok (.aload_n 0, 1) := by decide +kernel
theorem dX7_limitAt_1 : decode cX7_limitAt 1 = .ok (.getfield 7, 3) := by decide +kernel
theorem dX7_limitAt_4 : decode cX7_limitAt 4 = .ok (.bipush 10, 2) := by decide +kernel
theorem dX7_limitAt_6 : decode cX7_limitAt 6 = .ok (.iaload, 1) := by decide +kernel
theorem dX7_limitAt_7 : decode cX7_limitAt 7 = .ok (.iconst 1, 1) := by decide +kernel
theorem dX7_limitAt_8 : decode cX7_limitAt 8 = .ok (.isub, 1) := by decide +kernel
theorem dX7_limitAt_9 : decode cX7_limitAt 9 = .ok (.istore_n 2, 1) := by decide +kernel
theorem dX7_limitAt_10 : decode cX7_limitAt 10 = .ok (.iload_n 2, 1) := by decide +kernel
theorem dX7_limitAt_11 : decode cX7_limitAt 11 = .ok (.ifCond .ge 6, 3) := by decide +kernel
theorem dX7_limitAt_14 : decode cX7_limitAt 14 = .ok (.ldc 72, 2) := by decide +kernel
theorem dX7_limitAt_16 : decode cX7_limitAt 16 = .ok (.freturn, 1) := by decide +kernel
theorem dX7_limitAt_17 : decode cX7_limitAt 17 = .ok (.fload_n 1, 1) := by decide +kernel
theorem dX7_limitAt_18 : decode cX7_limitAt 18 = .ok (.aload_n 0, 1) := by decide +kernel
theorem dX7_limitAt_19 : decode cX7_limitAt 19 = .ok (.iconst 0, 1) := by decide +kernel
theorem dX7_limitAt_20 : decode cX7_limitAt 20 = .ok (.invokevirtual 69, 3) := by decide +kernel
theorem dX7_limitAt_23 : decode cX7_limitAt 23 = .ok (.invokestatic 51, 3) := by decide +kernel
theorem dX7_limitAt_26 : decode cX7_limitAt 26 = .ok (.fcmp .g, 1) := by decide +kernel
theorem dX7_limitAt_27 : decode cX7_limitAt 27 = .ok (.ifCond .gt 9, 3) := by decide +kernel
theorem dX7_limitAt_30 : decode cX7_limitAt 30 = .ok (.aload_n 0, 1) := by decide +kernel
theorem dX7_limitAt_31 : decode cX7_limitAt 31 = .ok (.iconst 0, 1) := by decide +kernel
theorem dX7_limitAt_32 : decode cX7_limitAt 32 = .ok (.invokevirtual 73, 3) := by decide +kernel
theorem dX7_limitAt_35 : decode cX7_limitAt 35 = .ok (.freturn, 1) := by decide +kernel
theorem dX7_limitAt_36 : decode cX7_limitAt 36 = .ok (.fload_n 1, 1) := by decide +kernel
theorem dX7_limitAt_37 : decode cX7_limitAt 37 = .ok (.aload_n 0, 1) := by decide +kernel
theorem dX7_limitAt_38 : decode cX7_limitAt 38 = .ok (.iload_n 2, 1) := by decide +kernel
theorem dX7_limitAt_39 : decode cX7_limitAt 39 = .ok (.invokevirtual 69, 3) := by decide +kernel
theorem dX7_limitAt_42 : decode cX7_limitAt 42 = .ok (.invokestatic 51, 3) := by decide +kernel
theorem dX7_limitAt_45 : decode cX7_limitAt 45 = .ok (.fcmp .l, 1) := by decide +kernel
theorem dX7_limitAt_46 : decode cX7_limitAt 46 = .ok (.ifCond .lt 9, 3) := by decide +kernel
theorem dX7_limitAt_49 : decode cX7_limitAt 49 = .ok (.aload_n 0, 1) := by decide +kernel
theorem dX7_limitAt_50 : decode cX7_limitAt 50 = .ok (.iload_n 2, 1) := by decide +kernel
theorem dX7_limitAt_51 : decode cX7_limitAt 51 = .ok (.invokevirtual 73, 3) := by decide +kernel
theorem dX7_limitAt_54 : decode cX7_limitAt 54 = .ok (.freturn, 1) := by decide +kernel
theorem dX7_limitAt_55 : decode cX7_limitAt 55 = .ok (.iconst 0, 1) := by decide +kernel
theorem dX7_limitAt_56 : decode cX7_limitAt 56 = .ok (.istore_n 3, 1) := by decide +kernel
theorem dX7_limitAt_57 : decode cX7_limitAt 57 = .ok (.fload_n 1, 1) := by decide +kernel
theorem dX7_limitAt_58 : decode cX7_limitAt 58 = .ok (.aload_n 0, 1) := by decide +kernel
theorem dX7_limitAt_59 : decode cX7_limitAt 59 = .ok (.iload_n 3, 1) := by decide +kernel
theorem dX7_limitAt_60 : decode cX7_limitAt 60 = .ok (.iconst 1, 1) := by decide +kernel
theorem dX7_limitAt_61 : decode cX7_limitAt 61 = .ok (.iadd, 1) := by decide +kernel
theorem dX7_limitAt_62 : decode cX7_limitAt 62 = .ok (.invokevirtual 69, 3) := by decide +kernel
theorem dX7_limitAt_65 : decode cX7_limitAt 65 = .ok (.invokestatic 51, 3) := by decide +kernel
theorem dX7_limitAt_68 : decode cX7_limitAt 68 = .ok (.fcmp .l, 1) := by decide +kernel
theorem dX7_limitAt_69 : decode cX7_limitAt 69 = .ok (.ifCond .lt 9, 3) := by decide +kernel
theorem dX7_limitAt_72 : decode cX7_limitAt 72 = .ok (.iinc 3 1, 3) := by decide +kernel
theorem dX7_limitAt_75 : decode cX7_limitAt 75 = .ok (.goto (-18), 3) := by decide +kernel
theorem dX7_limitAt_78 : decode cX7_limitAt 78 = .ok (.aload_n 0, 1) := by decide +kernel
theorem dX7_limitAt_79 : decode cX7_limitAt 79 = .ok (.iload_n 3, 1) := by decide +kernel
theorem dX7_limitAt_80 : decode cX7_limitAt 80 = .ok (.invokevirtual 69, 3) := by decide +kernel
theorem dX7_limitAt_83 : decode cX7_limitAt 83 = .ok (.invokestatic 51, 3) := by decide +kernel
theorem dX7_limitAt_86 : decode cX7_limitAt 86 = .ok (.fstore 4, 2) := by decide +kernel
theorem dX7_limitAt_88 : decode cX7_limitAt 88 = .ok (.aload_n 0, 1) := by decide +kernel
theorem dX7_limitAt_89 : decode cX7_limitAt 89 = .ok (.iload_n 3, 1) := by decide +kernel
theorem dX7_limitAt_90 : decode cX7_limitAt 90 = .ok (.iconst 1, 1) := by decide +kernel
theorem dX7_limitAt_91 : decode cX7_limitAt 91 = .ok (.iadd, 1) := by decide +kernel
theorem dX7_limitAt_92 : decode cX7_limitAt 92 = .ok (.invokevirtual 69, 3) := by decide +kernel
theorem dX7_limitAt_95 : decode cX7_limitAt 95 = .ok (.invokestatic 51, 3) := by decide +kernel
theorem dX7_limitAt_98 : decode cX7_limitAt 98 = .ok (.fstore 5, 2) := by decide +kernel
theorem dX7_limitAt_100 : decode cX7_limitAt 100 = .ok (.aload_n 0, 1) := by decide +kernel
theorem dX7_limitAt_101 : decode cX7_limitAt 101 = .ok (.iload_n 3, 1) := by decide +kernel
theorem dX7_limitAt_102 : decode cX7_limitAt 102 = .ok (.invokevirtual 73, 3) := by decide +kernel
theorem dX7_limitAt_105 : decode cX7_limitAt 105 = .ok (.fstore 6, 2) := by decide +kernel
theorem dX7_limitAt_107 : decode cX7_limitAt 107 = .ok (.aload_n 0, 1) := by decide +kernel
theorem dX7_limitAt_108 : decode cX7_limitAt 108 = .ok (.iload_n 3, 1) := by decide +kernel
theorem dX7_limitAt_109 : decode cX7_limitAt 109 = .ok (.iconst 1, 1) := by decide +kernel
theorem dX7_limitAt_110 : decode cX7_limitAt 110 = .ok (.iadd, 1) := by decide +kernel
theorem dX7_limitAt_111 : decode cX7_limitAt 111 = .ok (.invokevirtual 73, 3) := by decide +kernel
theorem dX7_limitAt_114 : decode cX7_limitAt 114 = .ok (.fstore 7, 2) := by decide +kernel
theorem dX7_limitAt_116 : decode cX7_limitAt 116 = .ok (.fload 6, 2) := by decide +kernel
theorem dX7_limitAt_118 : decode cX7_limitAt 118 = .ok (.fload 7, 2) := by decide +kernel
theorem dX7_limitAt_120 : decode cX7_limitAt 120 = .ok (.fload 6, 2) := by decide +kernel
theorem dX7_limitAt_122 : decode cX7_limitAt 122 = .ok (.fsub, 1) := by decide +kernel
theorem dX7_limitAt_123 : decode cX7_limitAt 123 = .ok (.fload_n 1, 1) := by decide +kernel
theorem dX7_limitAt_124 : decode cX7_limitAt 124 = .ok (.fload 4, 2) := by decide +kernel
theorem dX7_limitAt_126 : decode cX7_limitAt 126 = .ok (.fsub, 1) := by decide +kernel
theorem dX7_limitAt_127 : decode cX7_limitAt 127 = .ok (.fload 5, 2) := by decide +kernel
theorem dX7_limitAt_129 : decode cX7_limitAt 129 = .ok (.fload 4, 2) := by decide +kernel
theorem dX7_limitAt_131 : decode cX7_limitAt 131 = .ok (.fsub, 1) := by decide +kernel
theorem dX7_limitAt_132 : decode cX7_limitAt 132 = .ok (.fdiv, 1) := by decide +kernel
theorem dX7_limitAt_133 : decode cX7_limitAt 133 = .ok (.fmul, 1) := by decide +kernel
theorem dX7_limitAt_134 : decode cX7_limitAt 134 = .ok (.fadd, 1) := by decide +kernel
theorem dX7_limitAt_135 : decode cX7_limitAt 135 = .ok (.freturn, 1) := by decide +kernel
theorem dX7_isClosed_0 : decode cX7_isClosed 0 = .ok (.aload_n 0, 1) := by decide +kernel
theorem dX7_isClosed_1 : decode cX7_isClosed 1 = .ok (.getfield 7, 3) := by decide +kernel
theorem dX7_isClosed_4 : decode cX7_isClosed 4 = .ok (.bipush 32, 2) := by decide +kernel
theorem dX7_isClosed_6 : decode cX7_isClosed 6 = .ok (.iconst 2, 1) := by decide +kernel
theorem dX7_isClosed_7 : decode cX7_isClosed 7 = .ok (.iload_n 1, 1) := by decide +kernel
theorem dX7_isClosed_8 : decode cX7_isClosed 8 = .ok (.imul, 1) := by decide +kernel
theorem dX7_isClosed_9 : decode cX7_isClosed 9 = .ok (.iadd, 1) := by decide +kernel
theorem dX7_isClosed_10 : decode cX7_isClosed 10 = .ok (.iconst 1, 1) := by decide +kernel
theorem dX7_isClosed_11 : decode cX7_isClosed 11 = .ok (.iadd, 1) := by decide +kernel
theorem dX7_isClosed_12 : decode cX7_isClosed 12 = .ok (.iaload, 1) := by decide +kernel
theorem dX7_isClosed_13 : decode cX7_isClosed 13 = .ok (.ifCond .ne 7, 3) := by decide +kernel
theorem dX7_isClosed_16 : decode cX7_isClosed 16 = .ok (.iconst 1, 1) := by decide +kernel
theorem dX7_isClosed_17 : decode cX7_isClosed 17 = .ok (.goto 4, 3) := by decide +kernel
theorem dX7_isClosed_20 : decode cX7_isClosed 20 = .ok (.iconst 0, 1) := by decide +kernel
theorem dX7_isClosed_21 : decode cX7_isClosed 21 = .ok (.ireturn, 1) := by decide +kernel
theorem dX7_stopAt_0 : decode cX7_stopAt 0 = .ok (.aload_n 0, 1) := by decide +kernel
theorem dX7_stopAt_1 : decode cX7_stopAt 1 = .ok (.getfield 7, 3) := by decide +kernel
theorem dX7_stopAt_4 : decode cX7_stopAt 4 = .ok (.bipush 32, 2) := by decide +kernel
theorem dX7_stopAt_6 : decode cX7_stopAt 6 = .ok (.iconst 2, 1) := by decide +kernel
theorem dX7_stopAt_7 : decode cX7_stopAt 7 = .ok (.iload_n 1, 1) := by decide +kernel
theorem dX7_stopAt_8 : decode cX7_stopAt 8 = .ok (.imul, 1) := by decide +kernel
theorem dX7_stopAt_9 : decode cX7_stopAt 9 = .ok (.iadd, 1) := by decide +kernel
theorem dX7_stopAt_10 : decode cX7_stopAt 10 = .ok (.iaload, 1) := by decide +kernel
theorem dX7_stopAt_11 : decode cX7_stopAt 11 = .ok (.invokestatic 51, 3) := by decide +kernel
theorem dX7_stopAt_14 : decode cX7_stopAt 14 = .ok (.freturn, 1) := by decide +kernel
theorem dX7_nextStop_0 : decode cX7_nextStop 0 = .ok (.bipush (-5), 2) := by decide +kernel
theorem dX7_nextStop_2 : decode cX7_nextStop 2 = .ok (.istore_n 1, 1) := by decide +kernel
theorem dX7_nextStop_3 : decode cX7_nextStop 3 = .ok (.iconst 0, 1) := by decide +kernel
theorem dX7_nextStop_4 : decode cX7_nextStop 4 = .ok (.istore_n 2, 1) := by decide +kernel
theorem dX7_nextStop_5 : decode cX7_nextStop 5 = .ok (.iload_n 2, 1) := by decide +kernel
theorem dX7_nextStop_6 : decode cX7_nextStop 6 = .ok (.aload_n 0, 1) := by decide +kernel
theorem dX7_nextStop_7 : decode cX7_nextStop 7 = .ok (.getfield 7, 3) := by decide +kernel
theorem dX7_nextStop_10 : decode cX7_nextStop 10 = .ok (.bipush 11, 2) := by decide +kernel
theorem dX7_nextStop_12 : decode cX7_nextStop 12 = .ok (.iaload, 1) := by decide +kernel
theorem dX7_nextStop_13 : decode cX7_nextStop 13 = .ok (.if_icmp .ge 79, 3) := by decide +kernel
theorem dX7_nextStop_16 : decode cX7_nextStop 16 = .ok (.aload_n 0, 1) := by decide +kernel
theorem dX7_nextStop_17 : decode cX7_nextStop 17 = .ok (.iload_n 2, 1) := by decide +kernel
theorem dX7_nextStop_18 : decode cX7_nextStop 18 = .ok (.invokevirtual 76, 3) := by decide +kernel
theorem dX7_nextStop_21 : decode cX7_nextStop 21 = .ok (.ifCond .eq 22, 3) := by decide +kernel
theorem dX7_nextStop_24 : decode cX7_nextStop 24 = .ok (.aload_n 0, 1) := by decide +kernel
theorem dX7_nextStop_25 : decode cX7_nextStop 25 = .ok (.iload_n 2, 1) := by decide +kernel
theorem dX7_nextStop_26 : decode cX7_nextStop 26 = .ok (.invokevirtual 80, 3) := by decide +kernel
theorem dX7_nextStop_29 : decode cX7_nextStop 29 = .ok (.aload_n 0, 1) := by decide +kernel
theorem dX7_nextStop_30 : decode cX7_nextStop 30 = .ok (.getfield 13, 3) := by decide +kernel
theorem dX7_nextStop_33 : decode cX7_nextStop 33 = .ok (.iconst 0, 1) := by decide +kernel
theorem dX7_nextStop_34 : decode cX7_nextStop 34 = .ok (.faload, 1) := by decide +kernel
theorem dX7_nextStop_35 : decode cX7_nextStop 35 = .ok (.fcmp .g, 1) := by decide +kernel
theorem dX7_nextStop_36 : decode cX7_nextStop 36 = .ok (.ifCond .ge 7, 3) := by decide +kernel
theorem dX7_nextStop_39 : decode cX7_nextStop 39 = .ok (.iconst 1, 1) := by decide +kernel
theorem dX7_nextStop_40 : decode cX7_nextStop 40 = .ok (.goto 4, 3) := by decide +kernel
theorem dX7_nextStop_43 : decode cX7_nextStop 43 = .ok (.iconst 0, 1) := by decide +kernel
theorem dX7_nextStop_44 : decode cX7_nextStop 44 = .ok (.istore_n 3, 1) := by decide +kernel
theorem dX7_nextStop_45 : decode cX7_nextStop 45 = .ok (.iload_n 3, 1) := by decide +kernel
theorem dX7_nextStop_46 : decode cX7_nextStop 46 = .ok (.ifCond .eq 38, 3) := by decide +kernel
theorem dX7_nextStop_49 : decode cX7_nextStop 49 = .ok (.iload_n 1, 1) := by decide +kernel
theorem dX7_nextStop_50 : decode cX7_nextStop 50 = .ok (.bipush (-5), 2) := by decide +kernel
theorem dX7_nextStop_52 : decode cX7_nextStop 52 = .ok (.if_icmp .eq 28, 3) := by decide +kernel
theorem dX7_nextStop_55 : decode cX7_nextStop 55 = .ok (.aload_n 0, 1) := by decide +kernel
theorem dX7_nextStop_56 : decode cX7_nextStop 56 = .ok (.getfield 7, 3) := by decide +kernel
theorem dX7_nextStop_59 : decode cX7_nextStop 59 = .ok (.bipush 32, 2) := by decide +kernel
theorem dX7_nextStop_61 : decode cX7_nextStop 61 = .ok (.iconst 2, 1) := by decide +kernel
theorem dX7_nextStop_62 : decode cX7_nextStop 62 = .ok (.iload_n 2, 1) := by decide +kernel
theorem dX7_nextStop_63 : decode cX7_nextStop 63 = .ok (.imul, 1) := by decide +kernel
theorem dX7_nextStop_64 : decode cX7_nextStop 64 = .ok (.iadd, 1) := by decide +kernel
theorem dX7_nextStop_65 : decode cX7_nextStop 65 = .ok (.iaload, 1) := by decide +kernel
theorem dX7_nextStop_66 : decode cX7_nextStop 66 = .ok (.aload_n 0, 1) := by decide +kernel
theorem dX7_nextStop_67 : decode cX7_nextStop 67 = .ok (.getfield 7, 3) := by decide +kernel
theorem dX7_nextStop_70 : decode cX7_nextStop 70 = .ok (.bipush 32, 2) := by decide +kernel
theorem dX7_nextStop_72 : decode cX7_nextStop 72 = .ok (.iconst 2, 1) := by decide +kernel
theorem dX7_nextStop_73 : decode cX7_nextStop 73 = .ok (.iload_n 1, 1) := by decide +kernel
theorem dX7_nextStop_74 : decode cX7_nextStop 74 = .ok (.imul, 1) := by decide +kernel
theorem dX7_nextStop_75 : decode cX7_nextStop 75 = .ok (.iadd, 1) := by decide +kernel
theorem dX7_nextStop_76 : decode cX7_nextStop 76 = .ok (.iaload, 1) := by decide +kernel
theorem dX7_nextStop_77 : decode cX7_nextStop 77 = .ok (.if_icmp .le 7, 3) := by decide +kernel
theorem dX7_nextStop_80 : decode cX7_nextStop 80 = .ok (.iload_n 2, 1) := by decide +kernel
theorem dX7_nextStop_81 : decode cX7_nextStop 81 = .ok (.goto 4, 3) := by decide +kernel
theorem dX7_nextStop_84 : decode cX7_nextStop 84 = .ok (.iload_n 1, 1) := by decide +kernel
theorem dX7_nextStop_85 : decode cX7_nextStop 85 = .ok (.istore_n 1, 1) := by decide +kernel
theorem dX7_nextStop_86 : decode cX7_nextStop 86 = .ok (.iinc 2 1, 3) := by decide +kernel
theorem dX7_nextStop_89 : decode cX7_nextStop 89 = .ok (.goto (-84), 3) := by decide +kernel
theorem dX7_nextStop_92 : decode cX7_nextStop 92 = .ok (.iload_n 1, 1) := by decide +kernel
theorem dX7_nextStop_93 : decode cX7_nextStop 93 = .ok (.ireturn, 1) := by decide +kernel
theorem dX7_measured_0 : decode cX7_measured 0 = .ok (.aload_n 0, 1) := by decide +kernel
theorem dX7_measured_1 : decode cX7_measured 1 = .ok (.getfield 13, 3) := by decide +kernel
theorem dX7_measured_4 : decode cX7_measured 4 = .ok (.iconst 0, 1) := by decide +kernel
theorem dX7_measured_5 : decode cX7_measured 5 = .ok (.faload, 1) := by decide +kernel
theorem dX7_measured_6 : decode cX7_measured 6 = .ok (.aload_n 0, 1) := by decide +kernel
theorem dX7_measured_7 : decode cX7_measured 7 = .ok (.getfield 7, 3) := by decide +kernel
theorem dX7_measured_10 : decode cX7_measured 10 = .ok (.bipush 6, 2) := by decide +kernel
theorem dX7_measured_12 : decode cX7_measured 12 = .ok (.iload_n 1, 1) := by decide +kernel
theorem dX7_measured_13 : decode cX7_measured 13 = .ok (.iadd, 1) := by decide +kernel
theorem dX7_measured_14 : decode cX7_measured 14 = .ok (.iaload, 1) := by decide +kernel
theorem dX7_measured_15 : decode cX7_measured 15 = .ok (.invokestatic 51, 3) := by decide +kernel
theorem dX7_measured_18 : decode cX7_measured 18 = .ok (.fadd, 1) := by decide +kernel
theorem dX7_measured_19 : decode cX7_measured 19 = .ok (.freturn, 1) := by decide +kernel
theorem dX7_isSeen_0 : decode cX7_isSeen 0 = .ok (.aload_n 0, 1) := by decide +kernel
theorem dX7_isSeen_1 : decode cX7_isSeen 1 = .ok (.getfield 13, 3) := by decide +kernel
theorem dX7_isSeen_4 : decode cX7_isSeen 4 = .ok (.iconst 0, 1) := by decide +kernel
theorem dX7_isSeen_5 : decode cX7_isSeen 5 = .ok (.faload, 1) := by decide +kernel
theorem dX7_isSeen_6 : decode cX7_isSeen 6 = .ok (.ldc 83, 2) := by decide +kernel
theorem dX7_isSeen_8 : decode cX7_isSeen 8 = .ok (.fcmp .g, 1) := by decide +kernel
theorem dX7_isSeen_9 : decode cX7_isSeen 9 = .ok (.ifCond .gt 7, 3) := by decide +kernel
theorem dX7_isSeen_12 : decode cX7_isSeen 12 = .ok (.iconst 1, 1) := by decide +kernel
theorem dX7_isSeen_13 : decode cX7_isSeen 13 = .ok (.goto 4, 3) := by decide +kernel
theorem dX7_isSeen_16 : decode cX7_isSeen 16 = .ok (.iconst 0, 1) := by decide +kernel
theorem dX7_isSeen_17 : decode cX7_isSeen 17 = .ok (.ireturn, 1) := by decide +kernel
theorem dX7_isOff_0 : decode cX7_isOff 0 = .ok (.fload_n 2, 1) := by decide +kernel
theorem dX7_isOff_1 : decode cX7_isOff 1 = .ok (.invokestatic 84, 3) := by decide +kernel
theorem dX7_isOff_4 : decode cX7_isOff 4 = .ok (.fload_n 1, 1) := by decide +kernel
theorem dX7_isOff_5 : decode cX7_isOff 5 = .ok (.aload_n 0, 1) := by decide +kernel
theorem dX7_isOff_6 : decode cX7_isOff 6 = .ok (.getfield 7, 3) := by decide +kernel
theorem dX7_isOff_9 : decode cX7_isOff 9 = .ok (.bipush 12, 2) := by decide +kernel
theorem dX7_isOff_11 : decode cX7_isOff 11 = .ok (.iaload, 1) := by decide +kernel
theorem dX7_isOff_12 : decode cX7_isOff 12 = .ok (.invokestatic 55, 3) := by decide +kernel
theorem dX7_isOff_15 : decode cX7_isOff 15 = .ok (.fmul, 1) := by decide +kernel
theorem dX7_isOff_16 : decode cX7_isOff 16 = .ok (.aload_n 0, 1) := by decide +kernel
theorem dX7_isOff_17 : decode cX7_isOff 17 = .ok (.getfield 7, 3) := by decide +kernel
theorem dX7_isOff_20 : decode cX7_isOff 20 = .ok (.bipush 13, 2) := by decide +kernel
theorem dX7_isOff_22 : decode cX7_isOff 22 = .ok (.iaload, 1) := by decide +kernel
theorem dX7_isOff_23 : decode cX7_isOff 23 = .ok (.invokestatic 51, 3) := by decide +kernel
theorem dX7_isOff_26 : decode cX7_isOff 26 = .ok (.fadd, 1) := by decide +kernel
theorem dX7_isOff_27 : decode cX7_isOff 27 = .ok (.fcmp .l, 1) := by decide +kernel
theorem dX7_isOff_28 : decode cX7_isOff 28 = .ok (.ifCond .le 7, 3) := by decide +kernel
theorem dX7_isOff_31 : decode cX7_isOff 31 = .ok (.iconst 1, 1) := by decide +kernel
theorem dX7_isOff_32 : decode cX7_isOff 32 = .ok (.goto 4, 3) := by decide +kernel
theorem dX7_isOff_35 : decode cX7_isOff 35 = .ok (.iconst 0, 1) := by decide +kernel
theorem dX7_isOff_36 : decode cX7_isOff 36 = .ok (.ireturn, 1) := by decide +kernel
theorem dX7_isTooFast_0 : decode cX7_isTooFast 0 = .ok (.fconst 0, 1) := by decide +kernel
theorem dX7_isTooFast_1 : decode cX7_isTooFast 1 = .ok (.fload_n 1, 1) := by decide +kernel
theorem dX7_isTooFast_2 : decode cX7_isTooFast 2 = .ok (.fsub, 1) := by decide +kernel
theorem dX7_isTooFast_3 : decode cX7_isTooFast 3 = .ok (.aload_n 0, 1) := by decide +kernel
theorem dX7_isTooFast_4 : decode cX7_isTooFast 4 = .ok (.aload_n 0, 1) := by decide +kernel
theorem dX7_isTooFast_5 : decode cX7_isTooFast 5 = .ok (.getfield 13, 3) := by decide +kernel
theorem dX7_isTooFast_8 : decode cX7_isTooFast 8 = .ok (.iconst 0, 1) := by decide +kernel
theorem dX7_isTooFast_9 : decode cX7_isTooFast 9 = .ok (.faload, 1) := by decide +kernel
theorem dX7_isTooFast_10 : decode cX7_isTooFast 10 = .ok (.invokevirtual 88, 3) := by decide +kernel
theorem dX7_isTooFast_13 : decode cX7_isTooFast 13 = .ok (.ldc 91, 2) := by decide +kernel
theorem dX7_isTooFast_15 : decode cX7_isTooFast 15 = .ok (.fadd, 1) := by decide +kernel
theorem dX7_isTooFast_16 : decode cX7_isTooFast 16 = .ok (.fcmp .l, 1) := by decide +kernel
theorem dX7_isTooFast_17 : decode cX7_isTooFast 17 = .ok (.ifCond .le 7, 3) := by decide +kernel
theorem dX7_isTooFast_20 : decode cX7_isTooFast 20 = .ok (.iconst 1, 1) := by decide +kernel
theorem dX7_isTooFast_21 : decode cX7_isTooFast 21 = .ok (.goto 4, 3) := by decide +kernel
theorem dX7_isTooFast_24 : decode cX7_isTooFast 24 = .ok (.iconst 0, 1) := by decide +kernel
theorem dX7_isTooFast_25 : decode cX7_isTooFast 25 = .ok (.ireturn, 1) := by decide +kernel
theorem dX7_isUnsafe_0 : decode cX7_isUnsafe 0 = .ok (.aload_n 0, 1) := by decide +kernel
theorem dX7_isUnsafe_1 : decode cX7_isUnsafe 1 = .ok (.getfield 7, 3) := by decide +kernel
theorem dX7_isUnsafe_4 : decode cX7_isUnsafe 4 = .ok (.bipush 14, 2) := by decide +kernel
theorem dX7_isUnsafe_6 : decode cX7_isUnsafe 6 = .ok (.iaload, 1) := by decide +kernel
theorem dX7_isUnsafe_7 : decode cX7_isUnsafe 7 = .ok (.invokestatic 51, 3) := by decide +kernel
theorem dX7_isUnsafe_10 : decode cX7_isUnsafe 10 = .ok (.fstore_n 2, 1) := by decide +kernel
theorem dX7_isUnsafe_11 : decode cX7_isUnsafe 11 = .ok (.aload_n 0, 1) := by decide +kernel
theorem dX7_isUnsafe_12 : decode cX7_isUnsafe 12 = .ok (.getfield 13, 3) := by decide +kernel
theorem dX7_isUnsafe_15 : decode cX7_isUnsafe 15 = .ok (.iconst 0, 1) := by decide +kernel
theorem dX7_isUnsafe_16 : decode cX7_isUnsafe 16 = .ok (.faload, 1) := by decide +kernel
theorem dX7_isUnsafe_17 : decode cX7_isUnsafe 17 = .ok (.fstore_n 3, 1) := by decide +kernel
theorem dX7_isUnsafe_18 : decode cX7_isUnsafe 18 = .ok (.aload_n 0, 1) := by decide +kernel
theorem dX7_isUnsafe_19 : decode cX7_isUnsafe 19 = .ok (.getfield 13, 3) := by decide +kernel
theorem dX7_isUnsafe_22 : decode cX7_isUnsafe 22 = .ok (.iconst 1, 1) := by decide +kernel
theorem dX7_isUnsafe_23 : decode cX7_isUnsafe 23 = .ok (.faload, 1) := by decide +kernel
theorem dX7_isUnsafe_24 : decode cX7_isUnsafe 24 = .ok (.fstore 4, 2) := by decide +kernel
theorem dX7_isUnsafe_26 : decode cX7_isUnsafe 26 = .ok (.iconst 0, 1) := by decide +kernel
theorem dX7_isUnsafe_27 : decode cX7_isUnsafe 27 = .ok (.istore 5, 2) := by decide +kernel
theorem dX7_isUnsafe_29 : decode cX7_isUnsafe 29 = .ok (.iconst 0, 1) := by decide +kernel
theorem dX7_isUnsafe_30 : decode cX7_isUnsafe 30 = .ok (.istore 6, 2) := by decide +kernel
theorem dX7_isUnsafe_32 : decode cX7_isUnsafe 32 = .ok (.iload 6, 2) := by decide +kernel
theorem dX7_isUnsafe_34 : decode cX7_isUnsafe 34 = .ok (.aload_n 0, 1) := by decide +kernel
theorem dX7_isUnsafe_35 : decode cX7_isUnsafe 35 = .ok (.getfield 7, 3) := by decide +kernel
theorem dX7_isUnsafe_38 : decode cX7_isUnsafe 38 = .ok (.bipush 18, 2) := by decide +kernel
theorem dX7_isUnsafe_40 : decode cX7_isUnsafe 40 = .ok (.iaload, 1) := by decide +kernel
theorem dX7_isUnsafe_41 : decode cX7_isUnsafe 41 = .ok (.if_icmp .ge 68, 3) := by decide +kernel
theorem dX7_isUnsafe_44 : decode cX7_isUnsafe 44 = .ok (.iload 5, 2) := by decide +kernel
theorem dX7_isUnsafe_46 : decode cX7_isUnsafe 46 = .ok (.ifCond .ne 63, 3) := by decide +kernel
theorem dX7_isUnsafe_49 : decode cX7_isUnsafe 49 = .ok (.fload_n 3, 1) := by decide +kernel
theorem dX7_isUnsafe_50 : decode cX7_isUnsafe 50 = .ok (.fload_n 1, 1) := by decide +kernel
theorem dX7_isUnsafe_51 : decode cX7_isUnsafe 51 = .ok (.fadd, 1) := by decide +kernel
theorem dX7_isUnsafe_52 : decode cX7_isUnsafe 52 = .ok (.fstore_n 3, 1) := by decide +kernel
theorem dX7_isUnsafe_53 : decode cX7_isUnsafe 53 = .ok (.fload 4, 2) := by decide +kernel
theorem dX7_isUnsafe_55 : decode cX7_isUnsafe 55 = .ok (.aload_n 0, 1) := by decide +kernel
theorem dX7_isUnsafe_56 : decode cX7_isUnsafe 56 = .ok (.getfield 13, 3) := by decide +kernel
theorem dX7_isUnsafe_59 : decode cX7_isUnsafe 59 = .ok (.iconst 3, 1) := by decide +kernel
theorem dX7_isUnsafe_60 : decode cX7_isUnsafe 60 = .ok (.faload, 1) := by decide +kernel
theorem dX7_isUnsafe_61 : decode cX7_isUnsafe 61 = .ok (.fadd, 1) := by decide +kernel
theorem dX7_isUnsafe_62 : decode cX7_isUnsafe 62 = .ok (.fstore 4, 2) := by decide +kernel
theorem dX7_isUnsafe_64 : decode cX7_isUnsafe 64 = .ok (.fload_n 3, 1) := by decide +kernel
theorem dX7_isUnsafe_65 : decode cX7_isUnsafe 65 = .ok (.fload_n 3, 1) := by decide +kernel
theorem dX7_isUnsafe_66 : decode cX7_isUnsafe 66 = .ok (.fmul, 1) := by decide +kernel
theorem dX7_isUnsafe_67 : decode cX7_isUnsafe 67 = .ok (.fload 4, 2) := by decide +kernel
theorem dX7_isUnsafe_69 : decode cX7_isUnsafe 69 = .ok (.fload 4, 2) := by decide +kernel
theorem dX7_isUnsafe_71 : decode cX7_isUnsafe 71 = .ok (.fmul, 1) := by decide +kernel
theorem dX7_isUnsafe_72 : decode cX7_isUnsafe 72 = .ok (.fadd, 1) := by decide +kernel
theorem dX7_isUnsafe_73 : decode cX7_isUnsafe 73 = .ok (.fload_n 2, 1) := by decide +kernel
theorem dX7_isUnsafe_74 : decode cX7_isUnsafe 74 = .ok (.fload_n 2, 1) := by decide +kernel
theorem dX7_isUnsafe_75 : decode cX7_isUnsafe 75 = .ok (.fmul, 1) := by decide +kernel
theorem dX7_isUnsafe_76 : decode cX7_isUnsafe 76 = .ok (.fcmp .g, 1) := by decide +kernel
theorem dX7_isUnsafe_77 : decode cX7_isUnsafe 77 = .ok (.ifCond .ge 23, 3) := by decide +kernel
theorem dX7_isUnsafe_80 : decode cX7_isUnsafe 80 = .ok (.aload_n 0, 1) := by decide +kernel
theorem dX7_isUnsafe_81 : decode cX7_isUnsafe 81 = .ok (.fload_n 3, 1) := by decide +kernel
theorem dX7_isUnsafe_82 : decode cX7_isUnsafe 82 = .ok (.fload 4, 2) := by decide +kernel
theorem dX7_isUnsafe_84 : decode cX7_isUnsafe 84 = .ok (.invokevirtual 92, 3) := by decide +kernel
theorem dX7_isUnsafe_87 : decode cX7_isUnsafe 87 = .ok (.ifCond .ne 9, 3) := by decide +kernel
theorem dX7_isUnsafe_90 : decode cX7_isUnsafe 90 = .ok (.fload_n 3, 1) := by decide +kernel
theorem dX7_isUnsafe_91 : decode cX7_isUnsafe 91 = .ok (.fconst 0, 1) := by decide +kernel
theorem dX7_isUnsafe_92 : decode cX7_isUnsafe 92 = .ok (.fcmp .g, 1) := by decide +kernel
theorem dX7_isUnsafe_93 : decode cX7_isUnsafe 93 = .ok (.ifCond .ge 7, 3) := by decide +kernel
theorem dX7_isUnsafe_96 : decode cX7_isUnsafe 96 = .ok (.iconst 1, 1) := by decide +kernel
theorem dX7_isUnsafe_97 : decode cX7_isUnsafe 97 = .ok (.goto 4, 3) := by decide +kernel
theorem dX7_isUnsafe_100 : decode cX7_isUnsafe 100 = .ok (.iconst 0, 1) := by decide +kernel
theorem dX7_isUnsafe_101 : decode cX7_isUnsafe 101 = .ok (.istore 5, 2) := by decide +kernel
theorem dX7_isUnsafe_103 : decode cX7_isUnsafe 103 = .ok (.iinc 6 1, 3) := by decide +kernel
theorem dX7_isUnsafe_106 : decode cX7_isUnsafe 106 = .ok (.goto (-74), 3) := by decide +kernel
theorem dX7_isUnsafe_109 : decode cX7_isUnsafe 109 = .ok (.iload 5, 2) := by decide +kernel
theorem dX7_isUnsafe_111 : decode cX7_isUnsafe 111 = .ok (.ireturn, 1) := by decide +kernel
theorem dX7_judged_0 : decode cX7_judged 0 = .ok (.aload_n 0, 1) := by decide +kernel
theorem dX7_judged_1 : decode cX7_judged 1 = .ok (.aload_n 0, 1) := by decide +kernel
theorem dX7_judged_2 : decode cX7_judged 2 = .ok (.getfield 13, 3) := by decide +kernel
theorem dX7_judged_5 : decode cX7_judged 5 = .ok (.iconst 0, 1) := by decide +kernel
theorem dX7_judged_6 : decode cX7_judged 6 = .ok (.faload, 1) := by decide +kernel
theorem dX7_judged_7 : decode cX7_judged 7 = .ok (.aload_n 0, 1) := by decide +kernel
theorem dX7_judged_8 : decode cX7_judged 8 = .ok (.getfield 13, 3) := by decide +kernel
theorem dX7_judged_11 : decode cX7_judged 11 = .ok (.iconst 1, 1) := by decide +kernel
theorem dX7_judged_12 : decode cX7_judged 12 = .ok (.faload, 1) := by decide +kernel
theorem dX7_judged_13 : decode cX7_judged 13 = .ok (.invokevirtual 92, 3) := by decide +kernel
theorem dX7_judged_16 : decode cX7_judged 16 = .ok (.ifCond .eq 7, 3) := by decide +kernel
theorem dX7_judged_19 : decode cX7_judged 19 = .ok (.iconst 1, 1) := by decide +kernel
theorem dX7_judged_20 : decode cX7_judged 20 = .ok (.goto 4, 3) := by decide +kernel
theorem dX7_judged_23 : decode cX7_judged 23 = .ok (.iconst 0, 1) := by decide +kernel
theorem dX7_judged_24 : decode cX7_judged 24 = .ok (.aload_n 0, 1) := by decide +kernel
theorem dX7_judged_25 : decode cX7_judged 25 = .ok (.aload_n 0, 1) := by decide +kernel
theorem dX7_judged_26 : decode cX7_judged 26 = .ok (.getfield 13, 3) := by decide +kernel
theorem dX7_judged_29 : decode cX7_judged 29 = .ok (.iconst 2, 1) := by decide +kernel
theorem dX7_judged_30 : decode cX7_judged 30 = .ok (.faload, 1) := by decide +kernel
theorem dX7_judged_31 : decode cX7_judged 31 = .ok (.invokevirtual 96, 3) := by decide +kernel
theorem dX7_judged_34 : decode cX7_judged 34 = .ok (.ifCond .eq 7, 3) := by decide +kernel
theorem dX7_judged_37 : decode cX7_judged 37 = .ok (.iconst 2, 1) := by decide +kernel
theorem dX7_judged_38 : decode cX7_judged 38 = .ok (.goto 4, 3) := by decide +kernel
theorem dX7_judged_41 : decode cX7_judged 41 = .ok (.iconst 0, 1) := by decide +kernel
theorem dX7_judged_42 : decode cX7_judged 42 = .ok (.iadd, 1) := by decide +kernel
theorem dX7_judged_43 : decode cX7_judged 43 = .ok (.aload_n 0, 1) := by decide +kernel
theorem dX7_judged_44 : decode cX7_judged 44 = .ok (.aload_n 0, 1) := by decide +kernel
theorem dX7_judged_45 : decode cX7_judged 45 = .ok (.getfield 13, 3) := by decide +kernel
theorem dX7_judged_48 : decode cX7_judged 48 = .ok (.iconst 2, 1) := by decide +kernel
theorem dX7_judged_49 : decode cX7_judged 49 = .ok (.faload, 1) := by decide +kernel
theorem dX7_judged_50 : decode cX7_judged 50 = .ok (.invokevirtual 100, 3) := by decide +kernel
theorem dX7_judged_53 : decode cX7_judged 53 = .ok (.ifCond .eq 7, 3) := by decide +kernel
theorem dX7_judged_56 : decode cX7_judged 56 = .ok (.iconst 4, 1) := by decide +kernel
theorem dX7_judged_57 : decode cX7_judged 57 = .ok (.goto 4, 3) := by decide +kernel
theorem dX7_judged_60 : decode cX7_judged 60 = .ok (.iconst 0, 1) := by decide +kernel
theorem dX7_judged_61 : decode cX7_judged 61 = .ok (.iadd, 1) := by decide +kernel
theorem dX7_judged_62 : decode cX7_judged 62 = .ok (.ireturn, 1) := by decide +kernel
theorem dX7_wanted_0 : decode cX7_wanted 0 = .ok (.aload_n 0, 1) := by decide +kernel
theorem dX7_wanted_1 : decode cX7_wanted 1 = .ok (.aload_n 0, 1) := by decide +kernel
theorem dX7_wanted_2 : decode cX7_wanted 2 = .ok (.getfield 7, 3) := by decide +kernel
theorem dX7_wanted_5 : decode cX7_wanted 5 = .ok (.iconst 4, 1) := by decide +kernel
theorem dX7_wanted_6 : decode cX7_wanted 6 = .ok (.iaload, 1) := by decide +kernel
theorem dX7_wanted_7 : decode cX7_wanted 7 = .ok (.invokevirtual 103, 3) := by decide +kernel
theorem dX7_wanted_10 : decode cX7_wanted 10 = .ok (.fstore_n 1, 1) := by decide +kernel
theorem dX7_wanted_11 : decode cX7_wanted 11 = .ok (.aload_n 0, 1) := by decide +kernel
theorem dX7_wanted_12 : decode cX7_wanted 12 = .ok (.getfield 7, 3) := by decide +kernel
theorem dX7_wanted_15 : decode cX7_wanted 15 = .ok (.iconst 0, 1) := by decide +kernel
theorem dX7_wanted_16 : decode cX7_wanted 16 = .ok (.iaload, 1) := by decide +kernel
theorem dX7_wanted_17 : decode cX7_wanted 17 = .ok (.iconst 3, 1) := by decide +kernel
theorem dX7_wanted_18 : decode cX7_wanted 18 = .ok (.if_icmp .ne 9, 3) := by decide +kernel
theorem dX7_wanted_21 : decode cX7_wanted 21 = .ok (.aload_n 0, 1) := by decide +kernel
theorem dX7_wanted_22 : decode cX7_wanted 22 = .ok (.fload_n 1, 1) := by decide +kernel
theorem dX7_wanted_23 : decode cX7_wanted 23 = .ok (.invokevirtual 88, 3) := by decide +kernel
theorem dX7_wanted_26 : decode cX7_wanted 26 = .ok (.freturn, 1) := by decide +kernel
theorem dX7_wanted_27 : decode cX7_wanted 27 = .ok (.aload_n 0, 1) := by decide +kernel
theorem dX7_wanted_28 : decode cX7_wanted 28 = .ok (.getfield 7, 3) := by decide +kernel
theorem dX7_wanted_31 : decode cX7_wanted 31 = .ok (.iconst 0, 1) := by decide +kernel
theorem dX7_wanted_32 : decode cX7_wanted 32 = .ok (.iaload, 1) := by decide +kernel
theorem dX7_wanted_33 : decode cX7_wanted 33 = .ok (.iconst 2, 1) := by decide +kernel
theorem dX7_wanted_34 : decode cX7_wanted 34 = .ok (.if_icmp .ne 46, 3) := by decide +kernel
theorem dX7_wanted_37 : decode cX7_wanted 37 = .ok (.aload_n 0, 1) := by decide +kernel
theorem dX7_wanted_38 : decode cX7_wanted 38 = .ok (.getfield 7, 3) := by decide +kernel
theorem dX7_wanted_41 : decode cX7_wanted 41 = .ok (.iconst 5, 1) := by decide +kernel
theorem dX7_wanted_42 : decode cX7_wanted 42 = .ok (.iaload, 1) := by decide +kernel
theorem dX7_wanted_43 : decode cX7_wanted 43 = .ok (.bipush (-5), 2) := by decide +kernel
theorem dX7_wanted_45 : decode cX7_wanted 45 = .ok (.if_icmp .ne 12, 3) := by decide +kernel
theorem dX7_wanted_48 : decode cX7_wanted 48 = .ok (.aload_n 0, 1) := by decide +kernel
theorem dX7_wanted_49 : decode cX7_wanted 49 = .ok (.getfield 13, 3) := by decide +kernel
theorem dX7_wanted_52 : decode cX7_wanted 52 = .ok (.iconst 4, 1) := by decide +kernel
theorem dX7_wanted_53 : decode cX7_wanted 53 = .ok (.faload, 1) := by decide +kernel
theorem dX7_wanted_54 : decode cX7_wanted 54 = .ok (.goto 13, 3) := by decide +kernel
theorem dX7_wanted_57 : decode cX7_wanted 57 = .ok (.aload_n 0, 1) := by decide +kernel
theorem dX7_wanted_58 : decode cX7_wanted 58 = .ok (.aload_n 0, 1) := by decide +kernel
theorem dX7_wanted_59 : decode cX7_wanted 59 = .ok (.getfield 7, 3) := by decide +kernel
theorem dX7_wanted_62 : decode cX7_wanted 62 = .ok (.iconst 5, 1) := by decide +kernel
theorem dX7_wanted_63 : decode cX7_wanted 63 = .ok (.iaload, 1) := by decide +kernel
theorem dX7_wanted_64 : decode cX7_wanted 64 = .ok (.invokevirtual 80, 3) := by decide +kernel
theorem dX7_wanted_67 : decode cX7_wanted 67 = .ok (.fstore_n 2, 1) := by decide +kernel
theorem dX7_wanted_68 : decode cX7_wanted 68 = .ok (.fload_n 2, 1) := by decide +kernel
theorem dX7_wanted_69 : decode cX7_wanted 69 = .ok (.aload_n 0, 1) := by decide +kernel
theorem dX7_wanted_70 : decode cX7_wanted 70 = .ok (.getfield 13, 3) := by decide +kernel
theorem dX7_wanted_73 : decode cX7_wanted 73 = .ok (.iconst 0, 1) := by decide +kernel
theorem dX7_wanted_74 : decode cX7_wanted 74 = .ok (.faload, 1) := by decide +kernel
theorem dX7_wanted_75 : decode cX7_wanted 75 = .ok (.fsub, 1) := by decide +kernel
theorem dX7_wanted_76 : decode cX7_wanted 76 = .ok (.ldc 106, 2) := by decide +kernel
theorem dX7_wanted_78 : decode cX7_wanted 78 = .ok (.fmul, 1) := by decide +kernel
theorem dX7_wanted_79 : decode cX7_wanted 79 = .ok (.freturn, 1) := by decide +kernel
theorem dX7_wanted_80 : decode cX7_wanted 80 = .ok (.aload_n 0, 1) := by decide +kernel
theorem dX7_wanted_81 : decode cX7_wanted 81 = .ok (.fload_n 1, 1) := by decide +kernel
theorem dX7_wanted_82 : decode cX7_wanted 82 = .ok (.invokevirtual 88, 3) := by decide +kernel
theorem dX7_wanted_85 : decode cX7_wanted 85 = .ok (.fneg, 1) := by decide +kernel
theorem dX7_wanted_86 : decode cX7_wanted 86 = .ok (.fstore_n 2, 1) := by decide +kernel
theorem dX7_wanted_87 : decode cX7_wanted 87 = .ok (.aload_n 0, 1) := by decide +kernel
theorem dX7_wanted_88 : decode cX7_wanted 88 = .ok (.invokevirtual 107, 3) := by decide +kernel
theorem dX7_wanted_91 : decode cX7_wanted 91 = .ok (.istore_n 3, 1) := by decide +kernel
theorem dX7_wanted_92 : decode cX7_wanted 92 = .ok (.iload_n 3, 1) := by decide +kernel
theorem dX7_wanted_93 : decode cX7_wanted 93 = .ok (.bipush (-5), 2) := by decide +kernel
theorem dX7_wanted_95 : decode cX7_wanted 95 = .ok (.if_icmp .eq 36, 3) := by decide +kernel
theorem dX7_wanted_98 : decode cX7_wanted 98 = .ok (.fconst 0, 1) := by decide +kernel
theorem dX7_wanted_99 : decode cX7_wanted 99 = .ok (.aload_n 0, 1) := by decide +kernel
theorem dX7_wanted_100 : decode cX7_wanted 100 = .ok (.getfield 13, 3) := by decide +kernel
theorem dX7_wanted_103 : decode cX7_wanted 103 = .ok (.iconst 0, 1) := by decide +kernel
theorem dX7_wanted_104 : decode cX7_wanted 104 = .ok (.faload, 1) := by decide +kernel
theorem dX7_wanted_105 : decode cX7_wanted 105 = .ok (.aload_n 0, 1) := by decide +kernel
theorem dX7_wanted_106 : decode cX7_wanted 106 = .ok (.iload_n 3, 1) := by decide +kernel
theorem dX7_wanted_107 : decode cX7_wanted 107 = .ok (.invokevirtual 80, 3) := by decide +kernel
theorem dX7_wanted_110 : decode cX7_wanted 110 = .ok (.fsub, 1) := by decide +kernel
theorem dX7_wanted_111 : decode cX7_wanted 111 = .ok (.ldc 106, 2) := by decide +kernel
theorem dX7_wanted_113 : decode cX7_wanted 113 = .ok (.fmul, 1) := by decide +kernel
theorem dX7_wanted_114 : decode cX7_wanted 114 = .ok (.fsub, 1) := by decide +kernel
theorem dX7_wanted_115 : decode cX7_wanted 115 = .ok (.fstore 4, 2) := by decide +kernel
theorem dX7_wanted_117 : decode cX7_wanted 117 = .ok (.fload 4, 2) := by decide +kernel
theorem dX7_wanted_119 : decode cX7_wanted 119 = .ok (.fload_n 2, 1) := by decide +kernel
theorem dX7_wanted_120 : decode cX7_wanted 120 = .ok (.fcmp .l, 1) := by decide +kernel
theorem dX7_wanted_121 : decode cX7_wanted 121 = .ok (.ifCond .le 8, 3) := by decide +kernel
theorem dX7_wanted_124 : decode cX7_wanted 124 = .ok (.fload 4, 2) := by decide +kernel
theorem dX7_wanted_126 : decode cX7_wanted 126 = .ok (.goto 4, 3) := by decide +kernel
theorem dX7_wanted_129 : decode cX7_wanted 129 = .ok (.fload_n 2, 1) := by decide +kernel
theorem dX7_wanted_130 : decode cX7_wanted 130 = .ok (.fstore_n 2, 1) := by decide +kernel
theorem dX7_wanted_131 : decode cX7_wanted 131 = .ok (.fload_n 2, 1) := by decide +kernel
theorem dX7_wanted_132 : decode cX7_wanted 132 = .ok (.freturn, 1) := by decide +kernel
theorem dX7_moves_0 : decode cX7_moves 0 = .ok (.aload_n 0, 1) := by decide +kernel
theorem dX7_moves_1 : decode cX7_moves 1 = .ok (.getfield 13, 3) := by decide +kernel
theorem dX7_moves_4 : decode cX7_moves 4 = .ok (.iconst 2, 1) := by decide +kernel
theorem dX7_moves_5 : decode cX7_moves 5 = .ok (.aload_n 0, 1) := by decide +kernel
theorem dX7_moves_6 : decode cX7_moves 6 = .ok (.getfield 13, 3) := by decide +kernel
theorem dX7_moves_9 : decode cX7_moves 9 = .ok (.iconst 2, 1) := by decide +kernel
theorem dX7_moves_10 : decode cX7_moves 10 = .ok (.faload, 1) := by decide +kernel
theorem dX7_moves_11 : decode cX7_moves 11 = .ok (.fload_n 1, 1) := by decide +kernel
theorem dX7_moves_12 : decode cX7_moves 12 = .ok (.fadd, 1) := by decide +kernel
theorem dX7_moves_13 : decode cX7_moves 13 = .ok (.fastore, 1) := by decide +kernel
theorem dX7_moves_14 : decode cX7_moves 14 = .ok (.aload_n 0, 1) := by decide +kernel
theorem dX7_moves_15 : decode cX7_moves 15 = .ok (.getfield 13, 3) := by decide +kernel
theorem dX7_moves_18 : decode cX7_moves 18 = .ok (.iconst 3, 1) := by decide +kernel
theorem dX7_moves_19 : decode cX7_moves 19 = .ok (.aload_n 0, 1) := by decide +kernel
theorem dX7_moves_20 : decode cX7_moves 20 = .ok (.getfield 13, 3) := by decide +kernel
theorem dX7_moves_23 : decode cX7_moves 23 = .ok (.iconst 3, 1) := by decide +kernel
theorem dX7_moves_24 : decode cX7_moves 24 = .ok (.faload, 1) := by decide +kernel
theorem dX7_moves_25 : decode cX7_moves 25 = .ok (.fload_n 2, 1) := by decide +kernel
theorem dX7_moves_26 : decode cX7_moves 26 = .ok (.fadd, 1) := by decide +kernel
theorem dX7_moves_27 : decode cX7_moves 27 = .ok (.fastore, 1) := by decide +kernel
theorem dX7_moves_28 : decode cX7_moves 28 = .ok (.aload_n 0, 1) := by decide +kernel
theorem dX7_moves_29 : decode cX7_moves 29 = .ok (.getfield 13, 3) := by decide +kernel
theorem dX7_moves_32 : decode cX7_moves 32 = .ok (.iconst 0, 1) := by decide +kernel
theorem dX7_moves_33 : decode cX7_moves 33 = .ok (.aload_n 0, 1) := by decide +kernel
theorem dX7_moves_34 : decode cX7_moves 34 = .ok (.getfield 13, 3) := by decide +kernel
theorem dX7_moves_37 : decode cX7_moves 37 = .ok (.iconst 0, 1) := by decide +kernel
theorem dX7_moves_38 : decode cX7_moves 38 = .ok (.faload, 1) := by decide +kernel
theorem dX7_moves_39 : decode cX7_moves 39 = .ok (.aload_n 0, 1) := by decide +kernel
theorem dX7_moves_40 : decode cX7_moves 40 = .ok (.getfield 13, 3) := by decide +kernel
theorem dX7_moves_43 : decode cX7_moves 43 = .ok (.iconst 2, 1) := by decide +kernel
theorem dX7_moves_44 : decode cX7_moves 44 = .ok (.faload, 1) := by decide +kernel
theorem dX7_moves_45 : decode cX7_moves 45 = .ok (.fadd, 1) := by decide +kernel
theorem dX7_moves_46 : decode cX7_moves 46 = .ok (.fastore, 1) := by decide +kernel
theorem dX7_moves_47 : decode cX7_moves 47 = .ok (.aload_n 0, 1) := by decide +kernel
theorem dX7_moves_48 : decode cX7_moves 48 = .ok (.getfield 13, 3) := by decide +kernel
theorem dX7_moves_51 : decode cX7_moves 51 = .ok (.iconst 1, 1) := by decide +kernel
theorem dX7_moves_52 : decode cX7_moves 52 = .ok (.aload_n 0, 1) := by decide +kernel
theorem dX7_moves_53 : decode cX7_moves 53 = .ok (.getfield 13, 3) := by decide +kernel
theorem dX7_moves_56 : decode cX7_moves 56 = .ok (.iconst 1, 1) := by decide +kernel
theorem dX7_moves_57 : decode cX7_moves 57 = .ok (.faload, 1) := by decide +kernel
theorem dX7_moves_58 : decode cX7_moves 58 = .ok (.aload_n 0, 1) := by decide +kernel
theorem dX7_moves_59 : decode cX7_moves 59 = .ok (.getfield 13, 3) := by decide +kernel
theorem dX7_moves_62 : decode cX7_moves 62 = .ok (.iconst 3, 1) := by decide +kernel
theorem dX7_moves_63 : decode cX7_moves 63 = .ok (.faload, 1) := by decide +kernel
theorem dX7_moves_64 : decode cX7_moves 64 = .ok (.fadd, 1) := by decide +kernel
theorem dX7_moves_65 : decode cX7_moves 65 = .ok (.fastore, 1) := by decide +kernel
theorem dX7_moves_66 : decode cX7_moves 66 = .ok (.return_, 1) := by decide +kernel
theorem dX7_guides_0 : decode cX7_guides 0 = .ok (.aload_n 0, 1) := by decide +kernel
theorem dX7_guides_1 : decode cX7_guides 1 = .ok (.getfield 7, 3) := by decide +kernel
theorem dX7_guides_4 : decode cX7_guides 4 = .ok (.bipush 16, 2) := by decide +kernel
theorem dX7_guides_6 : decode cX7_guides 6 = .ok (.iaload, 1) := by decide +kernel
theorem dX7_guides_7 : decode cX7_guides 7 = .ok (.invokestatic 55, 3) := by decide +kernel
theorem dX7_guides_10 : decode cX7_guides 10 = .ok (.fstore_n 1, 1) := by decide +kernel
theorem dX7_guides_11 : decode cX7_guides 11 = .ok (.aload_n 0, 1) := by decide +kernel
theorem dX7_guides_12 : decode cX7_guides 12 = .ok (.getfield 7, 3) := by decide +kernel
theorem dX7_guides_15 : decode cX7_guides 15 = .ok (.bipush 17, 2) := by decide +kernel
theorem dX7_guides_17 : decode cX7_guides 17 = .ok (.iaload, 1) := by decide +kernel
theorem dX7_guides_18 : decode cX7_guides 18 = .ok (.invokestatic 55, 3) := by decide +kernel
theorem dX7_guides_21 : decode cX7_guides 21 = .ok (.fstore_n 2, 1) := by decide +kernel
theorem dX7_guides_22 : decode cX7_guides 22 = .ok (.aload_n 0, 1) := by decide +kernel
theorem dX7_guides_23 : decode cX7_guides 23 = .ok (.invokevirtual 110, 3) := by decide +kernel
theorem dX7_guides_26 : decode cX7_guides 26 = .ok (.aload_n 0, 1) := by decide +kernel
theorem dX7_guides_27 : decode cX7_guides 27 = .ok (.getfield 13, 3) := by decide +kernel
theorem dX7_guides_30 : decode cX7_guides 30 = .ok (.iconst 2, 1) := by decide +kernel
theorem dX7_guides_31 : decode cX7_guides 31 = .ok (.faload, 1) := by decide +kernel
theorem dX7_guides_32 : decode cX7_guides 32 = .ok (.fsub, 1) := by decide +kernel
theorem dX7_guides_33 : decode cX7_guides 33 = .ok (.fload_n 1, 1) := by decide +kernel
theorem dX7_guides_34 : decode cX7_guides 34 = .ok (.fneg, 1) := by decide +kernel
theorem dX7_guides_35 : decode cX7_guides 35 = .ok (.fload_n 1, 1) := by decide +kernel
theorem dX7_guides_36 : decode cX7_guides 36 = .ok (.invokestatic 114, 3) := by decide +kernel
theorem dX7_guides_39 : decode cX7_guides 39 = .ok (.fstore_n 3, 1) := by decide +kernel
theorem dX7_guides_40 : decode cX7_guides 40 = .ok (.fload_n 3, 1) := by decide +kernel
theorem dX7_guides_41 : decode cX7_guides 41 = .ok (.fload_n 2, 1) := by decide +kernel
theorem dX7_guides_42 : decode cX7_guides 42 = .ok (.fcmp .l, 1) := by decide +kernel
theorem dX7_guides_43 : decode cX7_guides 43 = .ok (.ifCond .le 25, 3) := by decide +kernel
theorem dX7_guides_46 : decode cX7_guides 46 = .ok (.aload_n 0, 1) := by decide +kernel
theorem dX7_guides_47 : decode cX7_guides 47 = .ok (.getfield 13, 3) := by decide +kernel
theorem dX7_guides_50 : decode cX7_guides 50 = .ok (.iconst 0, 1) := by decide +kernel
theorem dX7_guides_51 : decode cX7_guides 51 = .ok (.faload, 1) := by decide +kernel
theorem dX7_guides_52 : decode cX7_guides 52 = .ok (.aload_n 0, 1) := by decide +kernel
theorem dX7_guides_53 : decode cX7_guides 53 = .ok (.getfield 7, 3) := by decide +kernel
theorem dX7_guides_56 : decode cX7_guides 56 = .ok (.bipush 15, 2) := by decide +kernel
theorem dX7_guides_58 : decode cX7_guides 58 = .ok (.iaload, 1) := by decide +kernel
theorem dX7_guides_59 : decode cX7_guides 59 = .ok (.invokestatic 51, 3) := by decide +kernel
theorem dX7_guides_62 : decode cX7_guides 62 = .ok (.fcmp .g, 1) := by decide +kernel
theorem dX7_guides_63 : decode cX7_guides 63 = .ok (.ifCond .ge 5, 3) := by decide +kernel
theorem dX7_guides_66 : decode cX7_guides 66 = .ok (.fload_n 2, 1) := by decide +kernel
theorem dX7_guides_67 : decode cX7_guides 67 = .ok (.fstore_n 3, 1) := by decide +kernel
theorem dX7_guides_68 : decode cX7_guides 68 = .ok (.fconst 0, 1) := by decide +kernel
theorem dX7_guides_69 : decode cX7_guides 69 = .ok (.aload_n 0, 1) := by decide +kernel
theorem dX7_guides_70 : decode cX7_guides 70 = .ok (.getfield 13, 3) := by decide +kernel
theorem dX7_guides_73 : decode cX7_guides 73 = .ok (.iconst 1, 1) := by decide +kernel
theorem dX7_guides_74 : decode cX7_guides 74 = .ok (.faload, 1) := by decide +kernel
theorem dX7_guides_75 : decode cX7_guides 75 = .ok (.ldc 118, 2) := by decide +kernel
theorem dX7_guides_77 : decode cX7_guides 77 = .ok (.fmul, 1) := by decide +kernel
theorem dX7_guides_78 : decode cX7_guides 78 = .ok (.fsub, 1) := by decide +kernel
theorem dX7_guides_79 : decode cX7_guides 79 = .ok (.aload_n 0, 1) := by decide +kernel
theorem dX7_guides_80 : decode cX7_guides 80 = .ok (.getfield 13, 3) := by decide +kernel
theorem dX7_guides_83 : decode cX7_guides 83 = .ok (.iconst 3, 1) := by decide +kernel
theorem dX7_guides_84 : decode cX7_guides 84 = .ok (.faload, 1) := by decide +kernel
theorem dX7_guides_85 : decode cX7_guides 85 = .ok (.fsub, 1) := by decide +kernel
theorem dX7_guides_86 : decode cX7_guides 86 = .ok (.fload_n 1, 1) := by decide +kernel
theorem dX7_guides_87 : decode cX7_guides 87 = .ok (.fneg, 1) := by decide +kernel
theorem dX7_guides_88 : decode cX7_guides 88 = .ok (.fload_n 1, 1) := by decide +kernel
theorem dX7_guides_89 : decode cX7_guides 89 = .ok (.invokestatic 114, 3) := by decide +kernel
theorem dX7_guides_92 : decode cX7_guides 92 = .ok (.fstore 4, 2) := by decide +kernel
theorem dX7_guides_94 : decode cX7_guides 94 = .ok (.aload_n 0, 1) := by decide +kernel
theorem dX7_guides_95 : decode cX7_guides 95 = .ok (.fload_n 3, 1) := by decide +kernel
theorem dX7_guides_96 : decode cX7_guides 96 = .ok (.fload 4, 2) := by decide +kernel
theorem dX7_guides_98 : decode cX7_guides 98 = .ok (.invokevirtual 119, 3) := by decide +kernel
theorem dX7_guides_101 : decode cX7_guides 101 = .ok (.return_, 1) := by decide +kernel
theorem dX7_arrives_0 : decode cX7_arrives 0 = .ok (.aload_n 0, 1) := by decide +kernel
theorem dX7_arrives_1 : decode cX7_arrives 1 = .ok (.getfield 13, 3) := by decide +kernel
theorem dX7_arrives_4 : decode cX7_arrives 4 = .ok (.iconst 2, 1) := by decide +kernel
theorem dX7_arrives_5 : decode cX7_arrives 5 = .ok (.faload, 1) := by decide +kernel
theorem dX7_arrives_6 : decode cX7_arrives 6 = .ok (.invokestatic 84, 3) := by decide +kernel
theorem dX7_arrives_9 : decode cX7_arrives 9 = .ok (.aload_n 0, 1) := by decide +kernel
theorem dX7_arrives_10 : decode cX7_arrives 10 = .ok (.getfield 7, 3) := by decide +kernel
theorem dX7_arrives_13 : decode cX7_arrives 13 = .ok (.bipush 19, 2) := by decide +kernel
theorem dX7_arrives_15 : decode cX7_arrives 15 = .ok (.iaload, 1) := by decide +kernel
theorem dX7_arrives_16 : decode cX7_arrives 16 = .ok (.invokestatic 55, 3) := by decide +kernel
theorem dX7_arrives_19 : decode cX7_arrives 19 = .ok (.fcmp .g, 1) := by decide +kernel
theorem dX7_arrives_20 : decode cX7_arrives 20 = .ok (.ifCond .gt 7, 3) := by decide +kernel
theorem dX7_arrives_23 : decode cX7_arrives 23 = .ok (.iconst 1, 1) := by decide +kernel
theorem dX7_arrives_24 : decode cX7_arrives 24 = .ok (.goto 4, 3) := by decide +kernel
theorem dX7_arrives_27 : decode cX7_arrives 27 = .ok (.iconst 0, 1) := by decide +kernel
theorem dX7_arrives_28 : decode cX7_arrives 28 = .ok (.istore_n 1, 1) := by decide +kernel
theorem dX7_arrives_29 : decode cX7_arrives 29 = .ok (.iload_n 1, 1) := by decide +kernel
theorem dX7_arrives_30 : decode cX7_arrives 30 = .ok (.ifCond .eq 30, 3) := by decide +kernel
theorem dX7_arrives_33 : decode cX7_arrives 33 = .ok (.aload_n 0, 1) := by decide +kernel
theorem dX7_arrives_34 : decode cX7_arrives 34 = .ok (.getfield 13, 3) := by decide +kernel
theorem dX7_arrives_37 : decode cX7_arrives 37 = .ok (.iconst 1, 1) := by decide +kernel
theorem dX7_arrives_38 : decode cX7_arrives 38 = .ok (.faload, 1) := by decide +kernel
theorem dX7_arrives_39 : decode cX7_arrives 39 = .ok (.invokestatic 84, 3) := by decide +kernel
theorem dX7_arrives_42 : decode cX7_arrives 42 = .ok (.aload_n 0, 1) := by decide +kernel
theorem dX7_arrives_43 : decode cX7_arrives 43 = .ok (.getfield 7, 3) := by decide +kernel
theorem dX7_arrives_46 : decode cX7_arrives 46 = .ok (.bipush 13, 2) := by decide +kernel
theorem dX7_arrives_48 : decode cX7_arrives 48 = .ok (.iaload, 1) := by decide +kernel
theorem dX7_arrives_49 : decode cX7_arrives 49 = .ok (.invokestatic 51, 3) := by decide +kernel
theorem dX7_arrives_52 : decode cX7_arrives 52 = .ok (.fcmp .g, 1) := by decide +kernel
theorem dX7_arrives_53 : decode cX7_arrives 53 = .ok (.ifCond .gt 7, 3) := by decide +kernel
end
section
theorem dX7_arrives_56 : decode cX7_arrives 56 = .ok (.iconst 1, 1) := by decide +kernel
theorem dX7_arrives_57 : decode cX7_arrives 57 = .ok (.goto 4, 3) := by decide +kernel
theorem dX7_arrives_60 : decode cX7_arrives 60 = .ok (.iconst 0, 1) := by decide +kernel
theorem dX7_arrives_61 : decode cX7_arrives 61 = .ok (.istore_n 2, 1) := by decide +kernel
theorem dX7_arrives_62 : decode cX7_arrives 62 = .ok (.aload_n 0, 1) := by decide +kernel
theorem dX7_arrives_63 : decode cX7_arrives 63 = .ok (.getfield 7, 3) := by decide +kernel
theorem dX7_arrives_66 : decode cX7_arrives 66 = .ok (.iconst 0, 1) := by decide +kernel
theorem dX7_arrives_67 : decode cX7_arrives 67 = .ok (.iload_n 2, 1) := by decide +kernel
theorem dX7_arrives_68 : decode cX7_arrives 68 = .ok (.ifCond .eq 7, 3) := by decide +kernel
theorem dX7_arrives_71 : decode cX7_arrives 71 = .ok (.iconst 4, 1) := by decide +kernel
theorem dX7_arrives_72 : decode cX7_arrives 72 = .ok (.goto 4, 3) := by decide +kernel
theorem dX7_arrives_75 : decode cX7_arrives 75 = .ok (.iconst 5, 1) := by decide +kernel
theorem dX7_arrives_76 : decode cX7_arrives 76 = .ok (.iastore, 1) := by decide +kernel
theorem dX7_arrives_77 : decode cX7_arrives 77 = .ok (.aload_n 0, 1) := by decide +kernel
theorem dX7_arrives_78 : decode cX7_arrives 78 = .ok (.getfield 7, 3) := by decide +kernel
theorem dX7_arrives_81 : decode cX7_arrives 81 = .ok (.iconst 5, 1) := by decide +kernel
theorem dX7_arrives_82 : decode cX7_arrives 82 = .ok (.bipush (-5), 2) := by decide +kernel
theorem dX7_arrives_84 : decode cX7_arrives 84 = .ok (.iastore, 1) := by decide +kernel
theorem dX7_arrives_85 : decode cX7_arrives 85 = .ok (.aload_n 0, 1) := by decide +kernel
theorem dX7_arrives_86 : decode cX7_arrives 86 = .ok (.getfield 13, 3) := by decide +kernel
theorem dX7_arrives_89 : decode cX7_arrives 89 = .ok (.iconst 0, 1) := by decide +kernel
theorem dX7_arrives_90 : decode cX7_arrives 90 = .ok (.fconst 0, 1) := by decide +kernel
theorem dX7_arrives_91 : decode cX7_arrives 91 = .ok (.fastore, 1) := by decide +kernel
theorem dX7_arrives_92 : decode cX7_arrives 92 = .ok (.aload_n 0, 1) := by decide +kernel
theorem dX7_arrives_93 : decode cX7_arrives 93 = .ok (.getfield 13, 3) := by decide +kernel
theorem dX7_arrives_96 : decode cX7_arrives 96 = .ok (.iconst 2, 1) := by decide +kernel
theorem dX7_arrives_97 : decode cX7_arrives 97 = .ok (.fconst 0, 1) := by decide +kernel
theorem dX7_arrives_98 : decode cX7_arrives 98 = .ok (.fastore, 1) := by decide +kernel
theorem dX7_arrives_99 : decode cX7_arrives 99 = .ok (.aload_n 0, 1) := by decide +kernel
theorem dX7_arrives_100 : decode cX7_arrives 100 = .ok (.getfield 13, 3) := by decide +kernel
theorem dX7_arrives_103 : decode cX7_arrives 103 = .ok (.iconst 3, 1) := by decide +kernel
theorem dX7_arrives_104 : decode cX7_arrives 104 = .ok (.fconst 0, 1) := by decide +kernel
theorem dX7_arrives_105 : decode cX7_arrives 105 = .ok (.fastore, 1) := by decide +kernel
theorem dX7_arrives_106 : decode cX7_arrives 106 = .ok (.return_, 1) := by decide +kernel
theorem dX7_senses_0 : decode cX7_senses 0 = .ok (.aload_n 0, 1) := by decide +kernel
theorem dX7_senses_1 : decode cX7_senses 1 = .ok (.getfield 7, 3) := by decide +kernel
theorem dX7_senses_4 : decode cX7_senses 4 = .ok (.iconst 4, 1) := by decide +kernel
theorem dX7_senses_5 : decode cX7_senses 5 = .ok (.iaload, 1) := by decide +kernel
theorem dX7_senses_6 : decode cX7_senses 6 = .ok (.ifCond .ne 34, 3) := by decide +kernel
theorem dX7_senses_9 : decode cX7_senses 9 = .ok (.aload_n 0, 1) := by decide +kernel
theorem dX7_senses_10 : decode cX7_senses 10 = .ok (.invokevirtual 123, 3) := by decide +kernel
theorem dX7_senses_13 : decode cX7_senses 13 = .ok (.ifCond .eq 27, 3) := by decide +kernel
theorem dX7_senses_16 : decode cX7_senses 16 = .ok (.aload_n 0, 1) := by decide +kernel
theorem dX7_senses_17 : decode cX7_senses 17 = .ok (.iconst 0, 1) := by decide +kernel
theorem dX7_senses_18 : decode cX7_senses 18 = .ok (.invokevirtual 103, 3) := by decide +kernel
theorem dX7_senses_21 : decode cX7_senses 21 = .ok (.aload_n 0, 1) := by decide +kernel
theorem dX7_senses_22 : decode cX7_senses 22 = .ok (.iconst 1, 1) := by decide +kernel
theorem dX7_senses_23 : decode cX7_senses 23 = .ok (.invokevirtual 103, 3) := by decide +kernel
theorem dX7_senses_26 : decode cX7_senses 26 = .ok (.fsub, 1) := by decide +kernel
theorem dX7_senses_27 : decode cX7_senses 27 = .ok (.invokestatic 84, 3) := by decide +kernel
theorem dX7_senses_30 : decode cX7_senses 30 = .ok (.ldc 72, 2) := by decide +kernel
theorem dX7_senses_32 : decode cX7_senses 32 = .ok (.fcmp .g, 1) := by decide +kernel
theorem dX7_senses_33 : decode cX7_senses 33 = .ok (.ifCond .ge 7, 3) := by decide +kernel
theorem dX7_senses_36 : decode cX7_senses 36 = .ok (.iconst 1, 1) := by decide +kernel
theorem dX7_senses_37 : decode cX7_senses 37 = .ok (.goto 4, 3) := by decide +kernel
theorem dX7_senses_40 : decode cX7_senses 40 = .ok (.iconst 0, 1) := by decide +kernel
theorem dX7_senses_41 : decode cX7_senses 41 = .ok (.istore_n 1, 1) := by decide +kernel
theorem dX7_senses_42 : decode cX7_senses 42 = .ok (.aload_n 0, 1) := by decide +kernel
theorem dX7_senses_43 : decode cX7_senses 43 = .ok (.getfield 7, 3) := by decide +kernel
theorem dX7_senses_46 : decode cX7_senses 46 = .ok (.iconst 3, 1) := by decide +kernel
theorem dX7_senses_47 : decode cX7_senses 47 = .ok (.iload_n 1, 1) := by decide +kernel
theorem dX7_senses_48 : decode cX7_senses 48 = .ok (.ifCond .eq 14, 3) := by decide +kernel
theorem dX7_senses_51 : decode cX7_senses 51 = .ok (.aload_n 0, 1) := by decide +kernel
theorem dX7_senses_52 : decode cX7_senses 52 = .ok (.getfield 7, 3) := by decide +kernel
theorem dX7_senses_55 : decode cX7_senses 55 = .ok (.iconst 3, 1) := by decide +kernel
theorem dX7_senses_56 : decode cX7_senses 56 = .ok (.iaload, 1) := by decide +kernel
theorem dX7_senses_57 : decode cX7_senses 57 = .ok (.iconst 1, 1) := by decide +kernel
theorem dX7_senses_58 : decode cX7_senses 58 = .ok (.iadd, 1) := by decide +kernel
theorem dX7_senses_59 : decode cX7_senses 59 = .ok (.goto 4, 3) := by decide +kernel
theorem dX7_senses_62 : decode cX7_senses 62 = .ok (.iconst 0, 1) := by decide +kernel
theorem dX7_senses_63 : decode cX7_senses 63 = .ok (.iastore, 1) := by decide +kernel
theorem dX7_senses_64 : decode cX7_senses 64 = .ok (.aload_n 0, 1) := by decide +kernel
theorem dX7_senses_65 : decode cX7_senses 65 = .ok (.getfield 7, 3) := by decide +kernel
theorem dX7_senses_68 : decode cX7_senses 68 = .ok (.iconst 3, 1) := by decide +kernel
theorem dX7_senses_69 : decode cX7_senses 69 = .ok (.iaload, 1) := by decide +kernel
theorem dX7_senses_70 : decode cX7_senses 70 = .ok (.iconst 3, 1) := by decide +kernel
theorem dX7_senses_71 : decode cX7_senses 71 = .ok (.if_icmp .ne 28, 3) := by decide +kernel
theorem dX7_senses_74 : decode cX7_senses 74 = .ok (.aload_n 0, 1) := by decide +kernel
theorem dX7_senses_75 : decode cX7_senses 75 = .ok (.getfield 7, 3) := by decide +kernel
theorem dX7_senses_78 : decode cX7_senses 78 = .ok (.iconst 4, 1) := by decide +kernel
theorem dX7_senses_79 : decode cX7_senses 79 = .ok (.iconst 1, 1) := by decide +kernel
theorem dX7_senses_80 : decode cX7_senses 80 = .ok (.iastore, 1) := by decide +kernel
theorem dX7_senses_81 : decode cX7_senses 81 = .ok (.aload_n 0, 1) := by decide +kernel
theorem dX7_senses_82 : decode cX7_senses 82 = .ok (.getfield 7, 3) := by decide +kernel
theorem dX7_senses_85 : decode cX7_senses 85 = .ok (.iconst 3, 1) := by decide +kernel
theorem dX7_senses_86 : decode cX7_senses 86 = .ok (.iconst 0, 1) := by decide +kernel
theorem dX7_senses_87 : decode cX7_senses 87 = .ok (.iastore, 1) := by decide +kernel
theorem dX7_senses_88 : decode cX7_senses 88 = .ok (.aload_n 0, 1) := by decide +kernel
theorem dX7_senses_89 : decode cX7_senses 89 = .ok (.getfield 7, 3) := by decide +kernel
theorem dX7_senses_92 : decode cX7_senses 92 = .ok (.bipush 9, 2) := by decide +kernel
theorem dX7_senses_94 : decode cX7_senses 94 = .ok (.dup2, 1) := by decide +kernel
theorem dX7_senses_95 : decode cX7_senses 95 = .ok (.iaload, 1) := by decide +kernel
theorem dX7_senses_96 : decode cX7_senses 96 = .ok (.iconst 1, 1) := by decide +kernel
theorem dX7_senses_97 : decode cX7_senses 97 = .ok (.iadd, 1) := by decide +kernel
theorem dX7_senses_98 : decode cX7_senses 98 = .ok (.iastore, 1) := by decide +kernel
theorem dX7_senses_99 : decode cX7_senses 99 = .ok (.aload_n 0, 1) := by decide +kernel
theorem dX7_senses_100 : decode cX7_senses 100 = .ok (.getfield 7, 3) := by decide +kernel
theorem dX7_senses_103 : decode cX7_senses 103 = .ok (.iconst 4, 1) := by decide +kernel
theorem dX7_senses_104 : decode cX7_senses 104 = .ok (.iaload, 1) := by decide +kernel
theorem dX7_senses_105 : decode cX7_senses 105 = .ok (.iconst 1, 1) := by decide +kernel
theorem dX7_senses_106 : decode cX7_senses 106 = .ok (.if_icmp .ne 28, 3) := by decide +kernel
theorem dX7_senses_109 : decode cX7_senses 109 = .ok (.aload_n 0, 1) := by decide +kernel
theorem dX7_senses_110 : decode cX7_senses 110 = .ok (.invokevirtual 123, 3) := by decide +kernel
theorem dX7_senses_113 : decode cX7_senses 113 = .ok (.ifCond .ne 21, 3) := by decide +kernel
theorem dX7_senses_116 : decode cX7_senses 116 = .ok (.aload_n 0, 1) := by decide +kernel
theorem dX7_senses_117 : decode cX7_senses 117 = .ok (.getfield 7, 3) := by decide +kernel
theorem dX7_senses_120 : decode cX7_senses 120 = .ok (.iconst 4, 1) := by decide +kernel
theorem dX7_senses_121 : decode cX7_senses 121 = .ok (.iconst 0, 1) := by decide +kernel
theorem dX7_senses_122 : decode cX7_senses 122 = .ok (.iastore, 1) := by decide +kernel
theorem dX7_senses_123 : decode cX7_senses 123 = .ok (.aload_n 0, 1) := by decide +kernel
theorem dX7_senses_124 : decode cX7_senses 124 = .ok (.getfield 7, 3) := by decide +kernel
theorem dX7_senses_127 : decode cX7_senses 127 = .ok (.bipush 9, 2) := by decide +kernel
theorem dX7_senses_129 : decode cX7_senses 129 = .ok (.dup2, 1) := by decide +kernel
theorem dX7_senses_130 : decode cX7_senses 130 = .ok (.iaload, 1) := by decide +kernel
theorem dX7_senses_131 : decode cX7_senses 131 = .ok (.iconst 1, 1) := by decide +kernel
theorem dX7_senses_132 : decode cX7_senses 132 = .ok (.iadd, 1) := by decide +kernel
theorem dX7_senses_133 : decode cX7_senses 133 = .ok (.iastore, 1) := by decide +kernel
theorem dX7_senses_134 : decode cX7_senses 134 = .ok (.return_, 1) := by decide +kernel
theorem dX7_stops_0 : decode cX7_stops 0 = .ok (.aload_n 0, 1) := by decide +kernel
theorem dX7_stops_1 : decode cX7_stops 1 = .ok (.getfield 7, 3) := by decide +kernel
theorem dX7_stops_4 : decode cX7_stops 4 = .ok (.bipush 11, 2) := by decide +kernel
theorem dX7_stops_6 : decode cX7_stops 6 = .ok (.iaload, 1) := by decide +kernel
theorem dX7_stops_7 : decode cX7_stops 7 = .ok (.iconst 1, 1) := by decide +kernel
theorem dX7_stops_8 : decode cX7_stops 8 = .ok (.isub, 1) := by decide +kernel
theorem dX7_stops_9 : decode cX7_stops 9 = .ok (.istore_n 1, 1) := by decide +kernel
theorem dX7_stops_10 : decode cX7_stops 10 = .ok (.iload_n 1, 1) := by decide +kernel
theorem dX7_stops_11 : decode cX7_stops 11 = .ok (.ifCond .lt 67, 3) := by decide +kernel
theorem dX7_stops_14 : decode cX7_stops 14 = .ok (.aload_n 0, 1) := by decide +kernel
theorem dX7_stops_15 : decode cX7_stops 15 = .ok (.iload_n 1, 1) := by decide +kernel
theorem dX7_stops_16 : decode cX7_stops 16 = .ok (.invokevirtual 76, 3) := by decide +kernel
theorem dX7_stops_19 : decode cX7_stops 19 = .ok (.ifCond .eq 53, 3) := by decide +kernel
theorem dX7_stops_22 : decode cX7_stops 22 = .ok (.aload_n 0, 1) := by decide +kernel
theorem dX7_stops_23 : decode cX7_stops 23 = .ok (.getfield 13, 3) := by decide +kernel
theorem dX7_stops_26 : decode cX7_stops 26 = .ok (.iconst 0, 1) := by decide +kernel
theorem dX7_stops_27 : decode cX7_stops 27 = .ok (.faload, 1) := by decide +kernel
theorem dX7_stops_28 : decode cX7_stops 28 = .ok (.aload_n 0, 1) := by decide +kernel
theorem dX7_stops_29 : decode cX7_stops 29 = .ok (.iload_n 1, 1) := by decide +kernel
theorem dX7_stops_30 : decode cX7_stops 30 = .ok (.invokevirtual 80, 3) := by decide +kernel
theorem dX7_stops_33 : decode cX7_stops 33 = .ok (.fsub, 1) := by decide +kernel
theorem dX7_stops_34 : decode cX7_stops 34 = .ok (.invokestatic 84, 3) := by decide +kernel
theorem dX7_stops_37 : decode cX7_stops 37 = .ok (.ldc 127, 2) := by decide +kernel
theorem dX7_stops_39 : decode cX7_stops 39 = .ok (.fcmp .g, 1) := by decide +kernel
theorem dX7_stops_40 : decode cX7_stops 40 = .ok (.ifCond .ge 32, 3) := by decide +kernel
theorem dX7_stops_43 : decode cX7_stops 43 = .ok (.aload_n 0, 1) := by decide +kernel
theorem dX7_stops_44 : decode cX7_stops 44 = .ok (.getfield 13, 3) := by decide +kernel
theorem dX7_stops_47 : decode cX7_stops 47 = .ok (.iconst 2, 1) := by decide +kernel
theorem dX7_stops_48 : decode cX7_stops 48 = .ok (.faload, 1) := by decide +kernel
theorem dX7_stops_49 : decode cX7_stops 49 = .ok (.invokestatic 84, 3) := by decide +kernel
theorem dX7_stops_52 : decode cX7_stops 52 = .ok (.ldc 118, 2) := by decide +kernel
theorem dX7_stops_54 : decode cX7_stops 54 = .ok (.fcmp .g, 1) := by decide +kernel
theorem dX7_stops_55 : decode cX7_stops 55 = .ok (.ifCond .ge 17, 3) := by decide +kernel
theorem dX7_stops_58 : decode cX7_stops 58 = .ok (.aload_n 0, 1) := by decide +kernel
theorem dX7_stops_59 : decode cX7_stops 59 = .ok (.getfield 7, 3) := by decide +kernel
theorem dX7_stops_62 : decode cX7_stops 62 = .ok (.iconst 0, 1) := by decide +kernel
theorem dX7_stops_63 : decode cX7_stops 63 = .ok (.iconst 2, 1) := by decide +kernel
theorem dX7_stops_64 : decode cX7_stops 64 = .ok (.iastore, 1) := by decide +kernel
theorem dX7_stops_65 : decode cX7_stops 65 = .ok (.aload_n 0, 1) := by decide +kernel
theorem dX7_stops_66 : decode cX7_stops 66 = .ok (.getfield 7, 3) := by decide +kernel
theorem dX7_stops_69 : decode cX7_stops 69 = .ok (.iconst 5, 1) := by decide +kernel
theorem dX7_stops_70 : decode cX7_stops 70 = .ok (.iload_n 1, 1) := by decide +kernel
theorem dX7_stops_71 : decode cX7_stops 71 = .ok (.iastore, 1) := by decide +kernel
theorem dX7_stops_72 : decode cX7_stops 72 = .ok (.iinc 1 (-1), 3) := by decide +kernel
theorem dX7_stops_75 : decode cX7_stops 75 = .ok (.goto (-65), 3) := by decide +kernel
theorem dX7_stops_78 : decode cX7_stops 78 = .ok (.return_, 1) := by decide +kernel
theorem dX7_judges_0 : decode cX7_judges 0 = .ok (.aload_n 0, 1) := by decide +kernel
theorem dX7_judges_1 : decode cX7_judges 1 = .ok (.invokevirtual 58, 3) := by decide +kernel
theorem dX7_judges_4 : decode cX7_judges 4 = .ok (.istore_n 1, 1) := by decide +kernel
theorem dX7_judges_5 : decode cX7_judges 5 = .ok (.aload_n 0, 1) := by decide +kernel
theorem dX7_judges_6 : decode cX7_judges 6 = .ok (.getfield 7, 3) := by decide +kernel
theorem dX7_judges_9 : decode cX7_judges 9 = .ok (.iconst 0, 1) := by decide +kernel
theorem dX7_judges_10 : decode cX7_judges 10 = .ok (.iaload, 1) := by decide +kernel
theorem dX7_judges_11 : decode cX7_judges 11 = .ok (.iconst 1, 1) := by decide +kernel
theorem dX7_judges_12 : decode cX7_judges 12 = .ok (.if_icmp .ne 60, 3) := by decide +kernel
theorem dX7_judges_15 : decode cX7_judges 15 = .ok (.aload_n 0, 1) := by decide +kernel
theorem dX7_judges_16 : decode cX7_judges 16 = .ok (.getfield 7, 3) := by decide +kernel
theorem dX7_judges_19 : decode cX7_judges 19 = .ok (.iconst 2, 1) := by decide +kernel
theorem dX7_judges_20 : decode cX7_judges 20 = .ok (.iload_n 1, 1) := by decide +kernel
theorem dX7_judges_21 : decode cX7_judges 21 = .ok (.ifCond .ne 7, 3) := by decide +kernel
theorem dX7_judges_24 : decode cX7_judges 24 = .ok (.iconst 0, 1) := by decide +kernel
theorem dX7_judges_25 : decode cX7_judges 25 = .ok (.goto 11, 3) := by decide +kernel
theorem dX7_judges_28 : decode cX7_judges 28 = .ok (.aload_n 0, 1) := by decide +kernel
theorem dX7_judges_29 : decode cX7_judges 29 = .ok (.getfield 7, 3) := by decide +kernel
theorem dX7_judges_32 : decode cX7_judges 32 = .ok (.iconst 2, 1) := by decide +kernel
theorem dX7_judges_33 : decode cX7_judges 33 = .ok (.iaload, 1) := by decide +kernel
theorem dX7_judges_34 : decode cX7_judges 34 = .ok (.iconst 1, 1) := by decide +kernel
theorem dX7_judges_35 : decode cX7_judges 35 = .ok (.iadd, 1) := by decide +kernel
theorem dX7_judges_36 : decode cX7_judges 36 = .ok (.iastore, 1) := by decide +kernel
theorem dX7_judges_37 : decode cX7_judges 37 = .ok (.aload_n 0, 1) := by decide +kernel
theorem dX7_judges_38 : decode cX7_judges 38 = .ok (.getfield 7, 3) := by decide +kernel
theorem dX7_judges_41 : decode cX7_judges 41 = .ok (.iconst 2, 1) := by decide +kernel
theorem dX7_judges_42 : decode cX7_judges 42 = .ok (.iaload, 1) := by decide +kernel
theorem dX7_judges_43 : decode cX7_judges 43 = .ok (.iconst 2, 1) := by decide +kernel
theorem dX7_judges_44 : decode cX7_judges 44 = .ok (.if_icmp .ne 28, 3) := by decide +kernel
theorem dX7_judges_47 : decode cX7_judges 47 = .ok (.aload_n 0, 1) := by decide +kernel
theorem dX7_judges_48 : decode cX7_judges 48 = .ok (.getfield 7, 3) := by decide +kernel
theorem dX7_judges_51 : decode cX7_judges 51 = .ok (.iconst 0, 1) := by decide +kernel
theorem dX7_judges_52 : decode cX7_judges 52 = .ok (.iconst 3, 1) := by decide +kernel
theorem dX7_judges_53 : decode cX7_judges 53 = .ok (.iastore, 1) := by decide +kernel
theorem dX7_judges_54 : decode cX7_judges 54 = .ok (.aload_n 0, 1) := by decide +kernel
theorem dX7_judges_55 : decode cX7_judges 55 = .ok (.getfield 7, 3) := by decide +kernel
theorem dX7_judges_58 : decode cX7_judges 58 = .ok (.iconst 2, 1) := by decide +kernel
theorem dX7_judges_59 : decode cX7_judges 59 = .ok (.iconst 0, 1) := by decide +kernel
theorem dX7_judges_60 : decode cX7_judges 60 = .ok (.iastore, 1) := by decide +kernel
theorem dX7_judges_61 : decode cX7_judges 61 = .ok (.aload_n 0, 1) := by decide +kernel
theorem dX7_judges_62 : decode cX7_judges 62 = .ok (.getfield 7, 3) := by decide +kernel
theorem dX7_judges_65 : decode cX7_judges 65 = .ok (.bipush 8, 2) := by decide +kernel
theorem dX7_judges_67 : decode cX7_judges 67 = .ok (.dup2, 1) := by decide +kernel
theorem dX7_judges_68 : decode cX7_judges 68 = .ok (.iaload, 1) := by decide +kernel
theorem dX7_judges_69 : decode cX7_judges 69 = .ok (.iconst 1, 1) := by decide +kernel
theorem dX7_judges_70 : decode cX7_judges 70 = .ok (.iadd, 1) := by decide +kernel
theorem dX7_judges_71 : decode cX7_judges 71 = .ok (.iastore, 1) := by decide +kernel
theorem dX7_judges_72 : decode cX7_judges 72 = .ok (.aload_n 0, 1) := by decide +kernel
theorem dX7_judges_73 : decode cX7_judges 73 = .ok (.getfield 7, 3) := by decide +kernel
theorem dX7_judges_76 : decode cX7_judges 76 = .ok (.iconst 0, 1) := by decide +kernel
theorem dX7_judges_77 : decode cX7_judges 77 = .ok (.iaload, 1) := by decide +kernel
theorem dX7_judges_78 : decode cX7_judges 78 = .ok (.iconst 3, 1) := by decide +kernel
theorem dX7_judges_79 : decode cX7_judges 79 = .ok (.if_icmp .ne 46, 3) := by decide +kernel
theorem dX7_judges_82 : decode cX7_judges 82 = .ok (.iload_n 1, 1) := by decide +kernel
theorem dX7_judges_83 : decode cX7_judges 83 = .ok (.ifCond .ne 42, 3) := by decide +kernel
theorem dX7_judges_86 : decode cX7_judges 86 = .ok (.aload_n 0, 1) := by decide +kernel
theorem dX7_judges_87 : decode cX7_judges 87 = .ok (.getfield 13, 3) := by decide +kernel
theorem dX7_judges_90 : decode cX7_judges 90 = .ok (.iconst 0, 1) := by decide +kernel
theorem dX7_judges_91 : decode cX7_judges 91 = .ok (.faload, 1) := by decide +kernel
theorem dX7_judges_92 : decode cX7_judges 92 = .ok (.ldc 128, 2) := by decide +kernel
theorem dX7_judges_94 : decode cX7_judges 94 = .ok (.fcmp .l, 1) := by decide +kernel
theorem dX7_judges_95 : decode cX7_judges 95 = .ok (.ifCond .le 30, 3) := by decide +kernel
theorem dX7_judges_98 : decode cX7_judges 98 = .ok (.aload_n 0, 1) := by decide +kernel
theorem dX7_judges_99 : decode cX7_judges 99 = .ok (.getfield 7, 3) := by decide +kernel
theorem dX7_judges_102 : decode cX7_judges 102 = .ok (.iconst 0, 1) := by decide +kernel
theorem dX7_judges_103 : decode cX7_judges 103 = .ok (.iconst 2, 1) := by decide +kernel
theorem dX7_judges_104 : decode cX7_judges 104 = .ok (.iastore, 1) := by decide +kernel
theorem dX7_judges_105 : decode cX7_judges 105 = .ok (.aload_n 0, 1) := by decide +kernel
theorem dX7_judges_106 : decode cX7_judges 106 = .ok (.getfield 7, 3) := by decide +kernel
theorem dX7_judges_109 : decode cX7_judges 109 = .ok (.iconst 5, 1) := by decide +kernel
theorem dX7_judges_110 : decode cX7_judges 110 = .ok (.bipush (-5), 2) := by decide +kernel
theorem dX7_judges_112 : decode cX7_judges 112 = .ok (.iastore, 1) := by decide +kernel
theorem dX7_judges_113 : decode cX7_judges 113 = .ok (.aload_n 0, 1) := by decide +kernel
theorem dX7_judges_114 : decode cX7_judges 114 = .ok (.getfield 13, 3) := by decide +kernel
theorem dX7_judges_117 : decode cX7_judges 117 = .ok (.iconst 4, 1) := by decide +kernel
theorem dX7_judges_118 : decode cX7_judges 118 = .ok (.aload_n 0, 1) := by decide +kernel
theorem dX7_judges_119 : decode cX7_judges 119 = .ok (.getfield 13, 3) := by decide +kernel
theorem dX7_judges_122 : decode cX7_judges 122 = .ok (.iconst 0, 1) := by decide +kernel
theorem dX7_judges_123 : decode cX7_judges 123 = .ok (.faload, 1) := by decide +kernel
theorem dX7_judges_124 : decode cX7_judges 124 = .ok (.fastore, 1) := by decide +kernel
theorem dX7_judges_125 : decode cX7_judges 125 = .ok (.return_, 1) := by decide +kernel
theorem dX7_passesSecond_0 : decode cX7_passesSecond 0 = .ok (.aload_n 0, 1) := by decide +kernel
theorem dX7_passesSecond_1 : decode cX7_passesSecond 1 = .ok (.getfield 7, 3) := by decide +kernel
theorem dX7_passesSecond_4 : decode cX7_passesSecond 4 = .ok (.iconst 1, 1) := by decide +kernel
theorem dX7_passesSecond_5 : decode cX7_passesSecond 5 = .ok (.dup2, 1) := by decide +kernel
theorem dX7_passesSecond_6 : decode cX7_passesSecond 6 = .ok (.iaload, 1) := by decide +kernel
theorem dX7_passesSecond_7 : decode cX7_passesSecond 7 = .ok (.iconst 1, 1) := by decide +kernel
theorem dX7_passesSecond_8 : decode cX7_passesSecond 8 = .ok (.iadd, 1) := by decide +kernel
theorem dX7_passesSecond_9 : decode cX7_passesSecond 9 = .ok (.iastore, 1) := by decide +kernel
theorem dX7_passesSecond_10 : decode cX7_passesSecond 10 = .ok (.aload_n 0, 1) := by decide +kernel
theorem dX7_passesSecond_11 : decode cX7_passesSecond 11 = .ok (.getfield 7, 3) := by decide +kernel
theorem dX7_passesSecond_14 : decode cX7_passesSecond 14 = .ok (.iconst 0, 1) := by decide +kernel
theorem dX7_passesSecond_15 : decode cX7_passesSecond 15 = .ok (.iaload, 1) := by decide +kernel
theorem dX7_passesSecond_16 : decode cX7_passesSecond 16 = .ok (.iconst 4, 1) := by decide +kernel
theorem dX7_passesSecond_17 : decode cX7_passesSecond 17 = .ok (.if_icmp .lt 4, 3) := by decide +kernel
theorem dX7_passesSecond_20 : decode cX7_passesSecond 20 = .ok (.return_, 1) := by decide +kernel
theorem dX7_passesSecond_21 : decode cX7_passesSecond 21 = .ok (.aload_n 0, 1) := by decide +kernel
theorem dX7_passesSecond_22 : decode cX7_passesSecond 22 = .ok (.getfield 7, 3) := by decide +kernel
theorem dX7_passesSecond_25 : decode cX7_passesSecond 25 = .ok (.iconst 0, 1) := by decide +kernel
theorem dX7_passesSecond_26 : decode cX7_passesSecond 26 = .ok (.iaload, 1) := by decide +kernel
theorem dX7_passesSecond_27 : decode cX7_passesSecond 27 = .ok (.ifCond .ne 12, 3) := by decide +kernel
theorem dX7_passesSecond_30 : decode cX7_passesSecond 30 = .ok (.aload_n 0, 1) := by decide +kernel
theorem dX7_passesSecond_31 : decode cX7_passesSecond 31 = .ok (.fconst 0, 1) := by decide +kernel
theorem dX7_passesSecond_32 : decode cX7_passesSecond 32 = .ok (.fconst 0, 1) := by decide +kernel
theorem dX7_passesSecond_33 : decode cX7_passesSecond 33 = .ok (.invokevirtual 119, 3) := by decide +kernel
theorem dX7_passesSecond_36 : decode cX7_passesSecond 36 = .ok (.goto 7, 3) := by decide +kernel
theorem dX7_passesSecond_39 : decode cX7_passesSecond 39 = .ok (.aload_n 0, 1) := by decide +kernel
theorem dX7_passesSecond_40 : decode cX7_passesSecond 40 = .ok (.invokevirtual 129, 3) := by decide +kernel
theorem dX7_passesSecond_43 : decode cX7_passesSecond 43 = .ok (.aload_n 0, 1) := by decide +kernel
theorem dX7_passesSecond_44 : decode cX7_passesSecond 44 = .ok (.getfield 13, 3) := by decide +kernel
theorem dX7_passesSecond_47 : decode cX7_passesSecond 47 = .ok (.iconst 0, 1) := by decide +kernel
theorem dX7_passesSecond_48 : decode cX7_passesSecond 48 = .ok (.faload, 1) := by decide +kernel
theorem dX7_passesSecond_49 : decode cX7_passesSecond 49 = .ok (.fconst 0, 1) := by decide +kernel
theorem dX7_passesSecond_50 : decode cX7_passesSecond 50 = .ok (.fcmp .g, 1) := by decide +kernel
theorem dX7_passesSecond_51 : decode cX7_passesSecond 51 = .ok (.ifCond .gt 8, 3) := by decide +kernel
theorem dX7_passesSecond_54 : decode cX7_passesSecond 54 = .ok (.aload_n 0, 1) := by decide +kernel
theorem dX7_passesSecond_55 : decode cX7_passesSecond 55 = .ok (.invokevirtual 132, 3) := by decide +kernel
theorem dX7_passesSecond_58 : decode cX7_passesSecond 58 = .ok (.return_, 1) := by decide +kernel
theorem dX7_passesSecond_59 : decode cX7_passesSecond 59 = .ok (.aload_n 0, 1) := by decide +kernel
theorem dX7_passesSecond_60 : decode cX7_passesSecond 60 = .ok (.invokevirtual 135, 3) := by decide +kernel
theorem dX7_passesSecond_63 : decode cX7_passesSecond 63 = .ok (.aload_n 0, 1) := by decide +kernel
theorem dX7_passesSecond_64 : decode cX7_passesSecond 64 = .ok (.getfield 7, 3) := by decide +kernel
theorem dX7_passesSecond_67 : decode cX7_passesSecond 67 = .ok (.iconst 0, 1) := by decide +kernel
theorem dX7_passesSecond_68 : decode cX7_passesSecond 68 = .ok (.iaload, 1) := by decide +kernel
theorem dX7_passesSecond_69 : decode cX7_passesSecond 69 = .ok (.iconst 1, 1) := by decide +kernel
theorem dX7_passesSecond_70 : decode cX7_passesSecond 70 = .ok (.if_icmp .ne 7, 3) := by decide +kernel
theorem dX7_passesSecond_73 : decode cX7_passesSecond 73 = .ok (.aload_n 0, 1) := by decide +kernel
theorem dX7_passesSecond_74 : decode cX7_passesSecond 74 = .ok (.invokevirtual 138, 3) := by decide +kernel
theorem dX7_passesSecond_77 : decode cX7_passesSecond 77 = .ok (.aload_n 0, 1) := by decide +kernel
theorem dX7_passesSecond_78 : decode cX7_passesSecond 78 = .ok (.getfield 7, 3) := by decide +kernel
theorem dX7_passesSecond_81 : decode cX7_passesSecond 81 = .ok (.iconst 0, 1) := by decide +kernel
theorem dX7_passesSecond_82 : decode cX7_passesSecond 82 = .ok (.iaload, 1) := by decide +kernel
theorem dX7_passesSecond_83 : decode cX7_passesSecond 83 = .ok (.iconst 1, 1) := by decide +kernel
theorem dX7_passesSecond_84 : decode cX7_passesSecond 84 = .ok (.if_icmp .eq 13, 3) := by decide +kernel
theorem dX7_passesSecond_87 : decode cX7_passesSecond 87 = .ok (.aload_n 0, 1) := by decide +kernel
theorem dX7_passesSecond_88 : decode cX7_passesSecond 88 = .ok (.getfield 7, 3) := by decide +kernel
theorem dX7_passesSecond_91 : decode cX7_passesSecond 91 = .ok (.iconst 0, 1) := by decide +kernel
theorem dX7_passesSecond_92 : decode cX7_passesSecond 92 = .ok (.iaload, 1) := by decide +kernel
theorem dX7_passesSecond_93 : decode cX7_passesSecond 93 = .ok (.iconst 3, 1) := by decide +kernel
theorem dX7_passesSecond_94 : decode cX7_passesSecond 94 = .ok (.if_icmp .ne 7, 3) := by decide +kernel
theorem dX7_passesSecond_97 : decode cX7_passesSecond 97 = .ok (.aload_n 0, 1) := by decide +kernel
theorem dX7_passesSecond_98 : decode cX7_passesSecond 98 = .ok (.invokevirtual 141, 3) := by decide +kernel
theorem dX7_passesSecond_101 : decode cX7_passesSecond 101 = .ok (.return_, 1) := by decide +kernel
theorem dX7_modeError_0 : decode cX7_modeError 0 = .ok (.aload_n 0, 1) := by decide +kernel
theorem dX7_modeError_1 : decode cX7_modeError 1 = .ok (.getfield 7, 3) := by decide +kernel
theorem dX7_modeError_4 : decode cX7_modeError 4 = .ok (.iconst 0, 1) := by decide +kernel
theorem dX7_modeError_5 : decode cX7_modeError 5 = .ok (.iaload, 1) := by decide +kernel
theorem dX7_modeError_6 : decode cX7_modeError 6 = .ok (.iload_n 1, 1) := by decide +kernel
theorem dX7_modeError_7 : decode cX7_modeError 7 = .ok (.if_icmp .eq 13, 3) := by decide +kernel
theorem dX7_modeError_10 : decode cX7_modeError 10 = .ok (.aload_n 0, 1) := by decide +kernel
theorem dX7_modeError_11 : decode cX7_modeError 11 = .ok (.getfield 7, 3) := by decide +kernel
theorem dX7_modeError_14 : decode cX7_modeError 14 = .ok (.iconst 0, 1) := by decide +kernel
theorem dX7_modeError_15 : decode cX7_modeError 15 = .ok (.iaload, 1) := by decide +kernel
theorem dX7_modeError_16 : decode cX7_modeError 16 = .ok (.iconst 4, 1) := by decide +kernel
theorem dX7_modeError_17 : decode cX7_modeError 17 = .ok (.if_icmp .lt 8, 3) := by decide +kernel
theorem dX7_modeError_20 : decode cX7_modeError 20 = .ok (.bipush (-3), 2) := by decide +kernel
theorem dX7_modeError_22 : decode cX7_modeError 22 = .ok (.goto 4, 3) := by decide +kernel
theorem dX7_modeError_25 : decode cX7_modeError 25 = .ok (.iconst 0, 1) := by decide +kernel
theorem dX7_modeError_26 : decode cX7_modeError 26 = .ok (.ireturn, 1) := by decide +kernel
theorem dX7_becomes_0 : decode cX7_becomes 0 = .ok (.aload_n 0, 1) := by decide +kernel
theorem dX7_becomes_1 : decode cX7_becomes 1 = .ok (.getfield 7, 3) := by decide +kernel
theorem dX7_becomes_4 : decode cX7_becomes 4 = .ok (.iconst 0, 1) := by decide +kernel
theorem dX7_becomes_5 : decode cX7_becomes 5 = .ok (.iload_n 1, 1) := by decide +kernel
theorem dX7_becomes_6 : decode cX7_becomes 6 = .ok (.iastore, 1) := by decide +kernel
theorem dX7_becomes_7 : decode cX7_becomes 7 = .ok (.aload_n 0, 1) := by decide +kernel
theorem dX7_becomes_8 : decode cX7_becomes 8 = .ok (.getfield 7, 3) := by decide +kernel
theorem dX7_becomes_11 : decode cX7_becomes 11 = .ok (.iconst 5, 1) := by decide +kernel
theorem dX7_becomes_12 : decode cX7_becomes 12 = .ok (.bipush (-5), 2) := by decide +kernel
theorem dX7_becomes_14 : decode cX7_becomes 14 = .ok (.iastore, 1) := by decide +kernel
theorem dX7_becomes_15 : decode cX7_becomes 15 = .ok (.aload_n 0, 1) := by decide +kernel
theorem dX7_becomes_16 : decode cX7_becomes 16 = .ok (.getfield 7, 3) := by decide +kernel
theorem dX7_becomes_19 : decode cX7_becomes 19 = .ok (.iconst 2, 1) := by decide +kernel
theorem dX7_becomes_20 : decode cX7_becomes 20 = .ok (.iload_n 1, 1) := by decide +kernel
theorem dX7_becomes_21 : decode cX7_becomes 21 = .ok (.iconst 1, 1) := by decide +kernel
theorem dX7_becomes_22 : decode cX7_becomes 22 = .ok (.if_icmp .ne 7, 3) := by decide +kernel
theorem dX7_becomes_25 : decode cX7_becomes 25 = .ok (.iconst 0, 1) := by decide +kernel
theorem dX7_becomes_26 : decode cX7_becomes 26 = .ok (.goto 9, 3) := by decide +kernel
theorem dX7_becomes_29 : decode cX7_becomes 29 = .ok (.aload_n 0, 1) := by decide +kernel
theorem dX7_becomes_30 : decode cX7_becomes 30 = .ok (.getfield 7, 3) := by decide +kernel
theorem dX7_becomes_33 : decode cX7_becomes 33 = .ok (.iconst 2, 1) := by decide +kernel
theorem dX7_becomes_34 : decode cX7_becomes 34 = .ok (.iaload, 1) := by decide +kernel
theorem dX7_becomes_35 : decode cX7_becomes 35 = .ok (.iastore, 1) := by decide +kernel
theorem dX7_becomes_36 : decode cX7_becomes 36 = .ok (.aload_n 0, 1) := by decide +kernel
theorem dX7_becomes_37 : decode cX7_becomes 37 = .ok (.invokevirtual 58, 3) := by decide +kernel
theorem dX7_becomes_40 : decode cX7_becomes 40 = .ok (.ireturn, 1) := by decide +kernel
theorem dX7_changesTo_0 : decode cX7_changesTo 0 = .ok (.aload_n 0, 1) := by decide +kernel
theorem dX7_changesTo_1 : decode cX7_changesTo 1 = .ok (.iload_n 1, 1) := by decide +kernel
theorem dX7_changesTo_2 : decode cX7_changesTo 2 = .ok (.invokevirtual 144, 3) := by decide +kernel
theorem dX7_changesTo_5 : decode cX7_changesTo 5 = .ok (.istore_n 2, 1) := by decide +kernel
theorem dX7_changesTo_6 : decode cX7_changesTo 6 = .ok (.iload_n 2, 1) := by decide +kernel
theorem dX7_changesTo_7 : decode cX7_changesTo 7 = .ok (.ifCond .eq 5, 3) := by decide +kernel
theorem dX7_changesTo_10 : decode cX7_changesTo 10 = .ok (.iload_n 2, 1) := by decide +kernel
theorem dX7_changesTo_11 : decode cX7_changesTo 11 = .ok (.ireturn, 1) := by decide +kernel
theorem dX7_changesTo_12 : decode cX7_changesTo 12 = .ok (.aload_n 0, 1) := by decide +kernel
theorem dX7_changesTo_13 : decode cX7_changesTo 13 = .ok (.invokevirtual 46, 3) := by decide +kernel
theorem dX7_changesTo_16 : decode cX7_changesTo 16 = .ok (.aload_n 0, 1) := by decide +kernel
theorem dX7_changesTo_17 : decode cX7_changesTo 17 = .ok (.iload_n 1, 1) := by decide +kernel
theorem dX7_changesTo_18 : decode cX7_changesTo 18 = .ok (.invokevirtual 147, 3) := by decide +kernel
theorem dX7_changesTo_21 : decode cX7_changesTo 21 = .ok (.ireturn, 1) := by decide +kernel
theorem dX7_approach_0 : decode cX7_approach 0 = .ok (.aload_n 0, 1) := by decide +kernel
theorem dX7_approach_1 : decode cX7_approach 1 = .ok (.iconst 1, 1) := by decide +kernel
theorem dX7_approach_2 : decode cX7_approach 2 = .ok (.invokevirtual 150, 3) := by decide +kernel
theorem dX7_approach_5 : decode cX7_approach 5 = .ok (.ireturn, 1) := by decide +kernel
theorem dX7_release_0 : decode cX7_release 0 = .ok (.aload_n 0, 1) := by decide +kernel
theorem dX7_release_1 : decode cX7_release 1 = .ok (.iconst 0, 1) := by decide +kernel
theorem dX7_release_2 : decode cX7_release 2 = .ok (.invokevirtual 150, 3) := by decide +kernel
theorem dX7_release_5 : decode cX7_release 5 = .ok (.ireturn, 1) := by decide +kernel
theorem dX7_retreat_0 : decode cX7_retreat 0 = .ok (.aload_n 0, 1) := by decide +kernel
theorem dX7_retreat_1 : decode cX7_retreat 1 = .ok (.iconst 3, 1) := by decide +kernel
theorem dX7_retreat_2 : decode cX7_retreat 2 = .ok (.invokevirtual 150, 3) := by decide +kernel
theorem dX7_retreat_5 : decode cX7_retreat 5 = .ok (.ireturn, 1) := by decide +kernel
theorem dX7_openError_0 : decode cX7_openError 0 = .ok (.iload_n 1, 1) := by decide +kernel
theorem dX7_openError_1 : decode cX7_openError 1 = .ok (.iconst 0, 1) := by decide +kernel
theorem dX7_openError_2 : decode cX7_openError 2 = .ok (.aload_n 0, 1) := by decide +kernel
theorem dX7_openError_3 : decode cX7_openError 3 = .ok (.getfield 7, 3) := by decide +kernel
theorem dX7_openError_6 : decode cX7_openError 6 = .ok (.bipush 11, 2) := by decide +kernel
theorem dX7_openError_8 : decode cX7_openError 8 = .ok (.iaload, 1) := by decide +kernel
theorem dX7_openError_9 : decode cX7_openError 9 = .ok (.iconst 1, 1) := by decide +kernel
theorem dX7_openError_10 : decode cX7_openError 10 = .ok (.isub, 1) := by decide +kernel
theorem dX7_openError_11 : decode cX7_openError 11 = .ok (.invokestatic 42, 3) := by decide +kernel
theorem dX7_openError_14 : decode cX7_openError 14 = .ok (.ifCond .ne 5, 3) := by decide +kernel
theorem dX7_openError_17 : decode cX7_openError 17 = .ok (.iconst (-1), 1) := by decide +kernel
theorem dX7_openError_18 : decode cX7_openError 18 = .ok (.ireturn, 1) := by decide +kernel
theorem dX7_openError_19 : decode cX7_openError 19 = .ok (.aload_n 0, 1) := by decide +kernel
theorem dX7_openError_20 : decode cX7_openError 20 = .ok (.iload_n 1, 1) := by decide +kernel
theorem dX7_openError_21 : decode cX7_openError 21 = .ok (.invokevirtual 76, 3) := by decide +kernel
theorem dX7_openError_24 : decode cX7_openError 24 = .ok (.ifCond .eq 7, 3) := by decide +kernel
theorem dX7_openError_27 : decode cX7_openError 27 = .ok (.iconst 0, 1) := by decide +kernel
theorem dX7_openError_28 : decode cX7_openError 28 = .ok (.goto 5, 3) := by decide +kernel
theorem dX7_openError_31 : decode cX7_openError 31 = .ok (.bipush (-3), 2) := by decide +kernel
theorem dX7_openError_33 : decode cX7_openError 33 = .ok (.ireturn, 1) := by decide +kernel
theorem dX7_closed_0 : decode cX7_closed 0 = .ok (.iconst 0, 1) := by decide +kernel
theorem dX7_closed_1 : decode cX7_closed 1 = .ok (.istore_n 1, 1) := by decide +kernel
theorem dX7_closed_2 : decode cX7_closed 2 = .ok (.iconst 0, 1) := by decide +kernel
theorem dX7_closed_3 : decode cX7_closed 3 = .ok (.istore_n 2, 1) := by decide +kernel
theorem dX7_closed_4 : decode cX7_closed 4 = .ok (.iload_n 2, 1) := by decide +kernel
theorem dX7_closed_5 : decode cX7_closed 5 = .ok (.aload_n 0, 1) := by decide +kernel
theorem dX7_closed_6 : decode cX7_closed 6 = .ok (.getfield 7, 3) := by decide +kernel
theorem dX7_closed_9 : decode cX7_closed 9 = .ok (.bipush 11, 2) := by decide +kernel
theorem dX7_closed_11 : decode cX7_closed 11 = .ok (.iaload, 1) := by decide +kernel
theorem dX7_closed_12 : decode cX7_closed 12 = .ok (.if_icmp .ge 25, 3) := by decide +kernel
theorem dX7_closed_15 : decode cX7_closed 15 = .ok (.iload_n 1, 1) := by decide +kernel
theorem dX7_closed_16 : decode cX7_closed 16 = .ok (.aload_n 0, 1) := by decide +kernel
theorem dX7_closed_17 : decode cX7_closed 17 = .ok (.iload_n 2, 1) := by decide +kernel
theorem dX7_closed_18 : decode cX7_closed 18 = .ok (.invokevirtual 76, 3) := by decide +kernel
theorem dX7_closed_21 : decode cX7_closed 21 = .ok (.ifCond .eq 7, 3) := by decide +kernel
theorem dX7_closed_24 : decode cX7_closed 24 = .ok (.iconst 1, 1) := by decide +kernel
theorem dX7_closed_25 : decode cX7_closed 25 = .ok (.goto 4, 3) := by decide +kernel
theorem dX7_closed_28 : decode cX7_closed 28 = .ok (.iconst 0, 1) := by decide +kernel
theorem dX7_closed_29 : decode cX7_closed 29 = .ok (.iadd, 1) := by decide +kernel
theorem dX7_closed_30 : decode cX7_closed 30 = .ok (.istore_n 1, 1) := by decide +kernel
theorem dX7_closed_31 : decode cX7_closed 31 = .ok (.iinc 2 1, 3) := by decide +kernel
theorem dX7_closed_34 : decode cX7_closed 34 = .ok (.goto (-30), 3) := by decide +kernel
theorem dX7_closed_37 : decode cX7_closed 37 = .ok (.iload_n 1, 1) := by decide +kernel
theorem dX7_closed_38 : decode cX7_closed 38 = .ok (.ireturn, 1) := by decide +kernel
theorem dX7_opens_0 : decode cX7_opens 0 = .ok (.aload_n 0, 1) := by decide +kernel
theorem dX7_opens_1 : decode cX7_opens 1 = .ok (.getfield 7, 3) := by decide +kernel
theorem dX7_opens_4 : decode cX7_opens 4 = .ok (.bipush 32, 2) := by decide +kernel
theorem dX7_opens_6 : decode cX7_opens 6 = .ok (.iconst 2, 1) := by decide +kernel
theorem dX7_opens_7 : decode cX7_opens 7 = .ok (.iload_n 1, 1) := by decide +kernel
theorem dX7_opens_8 : decode cX7_opens 8 = .ok (.imul, 1) := by decide +kernel
theorem dX7_opens_9 : decode cX7_opens 9 = .ok (.iadd, 1) := by decide +kernel
theorem dX7_opens_10 : decode cX7_opens 10 = .ok (.iconst 1, 1) := by decide +kernel
theorem dX7_opens_11 : decode cX7_opens 11 = .ok (.iadd, 1) := by decide +kernel
theorem dX7_opens_12 : decode cX7_opens 12 = .ok (.iconst 1, 1) := by decide +kernel
theorem dX7_opens_13 : decode cX7_opens 13 = .ok (.iastore, 1) := by decide +kernel
theorem dX7_opens_14 : decode cX7_opens 14 = .ok (.aload_n 0, 1) := by decide +kernel
theorem dX7_opens_15 : decode cX7_opens 15 = .ok (.getfield 7, 3) := by decide +kernel
theorem dX7_opens_18 : decode cX7_opens 18 = .ok (.iconst 0, 1) := by decide +kernel
theorem dX7_opens_19 : decode cX7_opens 19 = .ok (.iaload, 1) := by decide +kernel
theorem dX7_opens_20 : decode cX7_opens 20 = .ok (.iconst 2, 1) := by decide +kernel
theorem dX7_opens_21 : decode cX7_opens 21 = .ok (.if_icmp .ne 35, 3) := by decide +kernel
theorem dX7_opens_24 : decode cX7_opens 24 = .ok (.aload_n 0, 1) := by decide +kernel
theorem dX7_opens_25 : decode cX7_opens 25 = .ok (.getfield 7, 3) := by decide +kernel
theorem dX7_opens_28 : decode cX7_opens 28 = .ok (.iconst 5, 1) := by decide +kernel
theorem dX7_opens_29 : decode cX7_opens 29 = .ok (.iaload, 1) := by decide +kernel
theorem dX7_opens_30 : decode cX7_opens 30 = .ok (.iload_n 1, 1) := by decide +kernel
theorem dX7_opens_31 : decode cX7_opens 31 = .ok (.if_icmp .ne 25, 3) := by decide +kernel
theorem dX7_opens_34 : decode cX7_opens 34 = .ok (.aload_n 0, 1) := by decide +kernel
theorem dX7_opens_35 : decode cX7_opens 35 = .ok (.getfield 7, 3) := by decide +kernel
theorem dX7_opens_38 : decode cX7_opens 38 = .ok (.iconst 0, 1) := by decide +kernel
theorem dX7_opens_39 : decode cX7_opens 39 = .ok (.iconst 1, 1) := by decide +kernel
theorem dX7_opens_40 : decode cX7_opens 40 = .ok (.iastore, 1) := by decide +kernel
theorem dX7_opens_41 : decode cX7_opens 41 = .ok (.aload_n 0, 1) := by decide +kernel
theorem dX7_opens_42 : decode cX7_opens 42 = .ok (.getfield 7, 3) := by decide +kernel
theorem dX7_opens_45 : decode cX7_opens 45 = .ok (.iconst 5, 1) := by decide +kernel
theorem dX7_opens_46 : decode cX7_opens 46 = .ok (.bipush (-5), 2) := by decide +kernel
theorem dX7_opens_48 : decode cX7_opens 48 = .ok (.iastore, 1) := by decide +kernel
theorem dX7_opens_49 : decode cX7_opens 49 = .ok (.aload_n 0, 1) := by decide +kernel
theorem dX7_opens_50 : decode cX7_opens 50 = .ok (.getfield 7, 3) := by decide +kernel
theorem dX7_opens_53 : decode cX7_opens 53 = .ok (.iconst 2, 1) := by decide +kernel
theorem dX7_opens_54 : decode cX7_opens 54 = .ok (.iconst 0, 1) := by decide +kernel
theorem dX7_opens_55 : decode cX7_opens 55 = .ok (.iastore, 1) := by decide +kernel
theorem dX7_opens_56 : decode cX7_opens 56 = .ok (.aload_n 0, 1) := by decide +kernel
theorem dX7_opens_57 : decode cX7_opens 57 = .ok (.invokevirtual 153, 3) := by decide +kernel
theorem dX7_opens_60 : decode cX7_opens 60 = .ok (.ireturn, 1) := by decide +kernel
theorem dX7_open_0 : decode cX7_open 0 = .ok (.aload_n 0, 1) := by decide +kernel
theorem dX7_open_1 : decode cX7_open 1 = .ok (.iload_n 1, 1) := by decide +kernel
theorem dX7_open_2 : decode cX7_open 2 = .ok (.invokevirtual 156, 3) := by decide +kernel
theorem dX7_open_5 : decode cX7_open 5 = .ok (.istore_n 2, 1) := by decide +kernel
theorem dX7_open_6 : decode cX7_open 6 = .ok (.iload_n 2, 1) := by decide +kernel
theorem dX7_open_7 : decode cX7_open 7 = .ok (.ifCond .eq 5, 3) := by decide +kernel
theorem dX7_open_10 : decode cX7_open 10 = .ok (.iload_n 2, 1) := by decide +kernel
theorem dX7_open_11 : decode cX7_open 11 = .ok (.ireturn, 1) := by decide +kernel
theorem dX7_open_12 : decode cX7_open 12 = .ok (.aload_n 0, 1) := by decide +kernel
theorem dX7_open_13 : decode cX7_open 13 = .ok (.invokevirtual 46, 3) := by decide +kernel
theorem dX7_open_16 : decode cX7_open 16 = .ok (.aload_n 0, 1) := by decide +kernel
theorem dX7_open_17 : decode cX7_open 17 = .ok (.iload_n 1, 1) := by decide +kernel
theorem dX7_open_18 : decode cX7_open 18 = .ok (.invokevirtual 159, 3) := by decide +kernel
theorem dX7_open_21 : decode cX7_open 21 = .ok (.ireturn, 1) := by decide +kernel
theorem dX7_passes_0 : decode cX7_passes 0 = .ok (.iconst 0, 1) := by decide +kernel
theorem dX7_passes_1 : decode cX7_passes 1 = .ok (.istore_n 2, 1) := by decide +kernel
theorem dX7_passes_2 : decode cX7_passes 2 = .ok (.iload_n 2, 1) := by decide +kernel
theorem dX7_passes_3 : decode cX7_passes 3 = .ok (.iload_n 1, 1) := by decide +kernel
theorem dX7_passes_4 : decode cX7_passes 4 = .ok (.if_icmp .ge 13, 3) := by decide +kernel
theorem dX7_passes_7 : decode cX7_passes 7 = .ok (.aload_n 0, 1) := by decide +kernel
theorem dX7_passes_8 : decode cX7_passes 8 = .ok (.invokevirtual 162, 3) := by decide +kernel
theorem dX7_passes_11 : decode cX7_passes 11 = .ok (.iinc 2 1, 3) := by decide +kernel
theorem dX7_passes_14 : decode cX7_passes 14 = .ok (.goto (-12), 3) := by decide +kernel
theorem dX7_passes_17 : decode cX7_passes 17 = .ok (.aload_n 0, 1) := by decide +kernel
theorem dX7_passes_18 : decode cX7_passes 18 = .ok (.getfield 7, 3) := by decide +kernel
theorem dX7_passes_21 : decode cX7_passes 21 = .ok (.iconst 0, 1) := by decide +kernel
theorem dX7_passes_22 : decode cX7_passes 22 = .ok (.iaload, 1) := by decide +kernel
theorem dX7_passes_23 : decode cX7_passes 23 = .ok (.ireturn, 1) := by decide +kernel
theorem dX7_pass_0 : decode cX7_pass 0 = .ok (.iload_n 1, 1) := by decide +kernel
theorem dX7_pass_1 : decode cX7_pass 1 = .ok (.iconst 1, 1) := by decide +kernel
theorem dX7_pass_2 : decode cX7_pass 2 = .ok (.sipush 200, 3) := by decide +kernel
theorem dX7_pass_5 : decode cX7_pass 5 = .ok (.invokestatic 42, 3) := by decide +kernel
theorem dX7_pass_8 : decode cX7_pass 8 = .ok (.ifCond .ne 6, 3) := by decide +kernel
theorem dX7_pass_11 : decode cX7_pass 11 = .ok (.bipush (-2), 2) := by decide +kernel
theorem dX7_pass_13 : decode cX7_pass 13 = .ok (.ireturn, 1) := by decide +kernel
theorem dX7_pass_14 : decode cX7_pass 14 = .ok (.aload_n 0, 1) := by decide +kernel
theorem dX7_pass_15 : decode cX7_pass 15 = .ok (.invokevirtual 46, 3) := by decide +kernel
theorem dX7_pass_18 : decode cX7_pass 18 = .ok (.aload_n 0, 1) := by decide +kernel
theorem dX7_pass_19 : decode cX7_pass 19 = .ok (.iload_n 1, 1) := by decide +kernel
theorem dX7_pass_20 : decode cX7_pass 20 = .ok (.invokevirtual 165, 3) := by decide +kernel
theorem dX7_pass_23 : decode cX7_pass 23 = .ok (.ireturn, 1) := by decide +kernel
theorem dX7_append_0 : decode cX7_append 0 = .ok (.iload_n 1, 1) := by decide +kernel
theorem dX7_append_1 : decode cX7_append 1 = .ok (.bipush 32, 2) := by decide +kernel
theorem dX7_append_3 : decode cX7_append 3 = .ok (.bipush 126, 2) := by decide +kernel
theorem dX7_append_5 : decode cX7_append 5 = .ok (.invokestatic 42, 3) := by decide +kernel
theorem dX7_append_8 : decode cX7_append 8 = .ok (.ifCond .ne 6, 3) := by decide +kernel
theorem dX7_append_11 : decode cX7_append 11 = .ok (.bipush (-2), 2) := by decide +kernel
theorem dX7_append_13 : decode cX7_append 13 = .ok (.ireturn, 1) := by decide +kernel
theorem dX7_append_14 : decode cX7_append 14 = .ok (.aload_n 0, 1) := by decide +kernel
theorem dX7_append_15 : decode cX7_append 15 = .ok (.getfield 168, 3) := by decide +kernel
theorem dX7_append_18 : decode cX7_append 18 = .ok (.bipush 80, 2) := by decide +kernel
theorem dX7_append_20 : decode cX7_append 20 = .ok (.if_icmp .ne 6, 3) := by decide +kernel
theorem dX7_append_23 : decode cX7_append 23 = .ok (.bipush (-4), 2) := by decide +kernel
theorem dX7_append_25 : decode cX7_append 25 = .ok (.ireturn, 1) := by decide +kernel
theorem dX7_append_26 : decode cX7_append 26 = .ok (.aload_n 0, 1) := by decide +kernel
theorem dX7_append_27 : decode cX7_append 27 = .ok (.getfield 26, 3) := by decide +kernel
theorem dX7_append_30 : decode cX7_append 30 = .ok (.aload_n 0, 1) := by decide +kernel
theorem dX7_append_31 : decode cX7_append 31 = .ok (.getfield 168, 3) := by decide +kernel
theorem dX7_append_34 : decode cX7_append 34 = .ok (.iload_n 1, 1) := by decide +kernel
theorem dX7_append_35 : decode cX7_append 35 = .ok (.iastore, 1) := by decide +kernel
theorem dX7_append_36 : decode cX7_append 36 = .ok (.aload_n 0, 1) := by decide +kernel
theorem dX7_append_37 : decode cX7_append 37 = .ok (.dup, 1) := by decide +kernel
theorem dX7_append_38 : decode cX7_append 38 = .ok (.getfield 168, 3) := by decide +kernel
theorem dX7_append_41 : decode cX7_append 41 = .ok (.iconst 1, 1) := by decide +kernel
theorem dX7_append_42 : decode cX7_append 42 = .ok (.iadd, 1) := by decide +kernel
theorem dX7_append_43 : decode cX7_append 43 = .ok (.putfield 168, 3) := by decide +kernel
theorem dX7_append_46 : decode cX7_append 46 = .ok (.aload_n 0, 1) := by decide +kernel
theorem dX7_append_47 : decode cX7_append 47 = .ok (.getfield 168, 3) := by decide +kernel
theorem dX7_append_50 : decode cX7_append 50 = .ok (.ireturn, 1) := by decide +kernel
theorem dX7_clearText_0 : decode cX7_clearText 0 = .ok (.aload_n 0, 1) := by decide +kernel
theorem dX7_clearText_1 : decode cX7_clearText 1 = .ok (.getfield 168, 3) := by decide +kernel
theorem dX7_clearText_4 : decode cX7_clearText 4 = .ok (.istore_n 1, 1) := by decide +kernel
theorem dX7_clearText_5 : decode cX7_clearText 5 = .ok (.aload_n 0, 1) := by decide +kernel
theorem dX7_clearText_6 : decode cX7_clearText 6 = .ok (.iconst 0, 1) := by decide +kernel
theorem dX7_clearText_7 : decode cX7_clearText 7 = .ok (.putfield 168, 3) := by decide +kernel
theorem dX7_clearText_10 : decode cX7_clearText 10 = .ok (.iload_n 1, 1) := by decide +kernel
theorem dX7_clearText_11 : decode cX7_clearText 11 = .ok (.ireturn, 1) := by decide +kernel
theorem dX7_isDigitHere_0 : decode cX7_isDigitHere 0 = .ok (.aload_n 0, 1) := by decide +kernel
theorem dX7_isDigitHere_1 : decode cX7_isDigitHere 1 = .ok (.getfield 171, 3) := by decide +kernel
theorem dX7_isDigitHere_4 : decode cX7_isDigitHere 4 = .ok (.aload_n 0, 1) := by decide +kernel
theorem dX7_isDigitHere_5 : decode cX7_isDigitHere 5 = .ok (.getfield 168, 3) := by decide +kernel
theorem dX7_isDigitHere_8 : decode cX7_isDigitHere 8 = .ok (.if_icmp .ge 26, 3) := by decide +kernel
theorem dX7_isDigitHere_11 : decode cX7_isDigitHere 11 = .ok (.aload_n 0, 1) := by decide +kernel
theorem dX7_isDigitHere_12 : decode cX7_isDigitHere 12 = .ok (.getfield 26, 3) := by decide +kernel
theorem dX7_isDigitHere_15 : decode cX7_isDigitHere 15 = .ok (.aload_n 0, 1) := by decide +kernel
theorem dX7_isDigitHere_16 : decode cX7_isDigitHere 16 = .ok (.getfield 171, 3) := by decide +kernel
theorem dX7_isDigitHere_19 : decode cX7_isDigitHere 19 = .ok (.iaload, 1) := by decide +kernel
theorem dX7_isDigitHere_20 : decode cX7_isDigitHere 20 = .ok (.bipush 48, 2) := by decide +kernel
theorem dX7_isDigitHere_22 : decode cX7_isDigitHere 22 = .ok (.bipush 57, 2) := by decide +kernel
theorem dX7_isDigitHere_24 : decode cX7_isDigitHere 24 = .ok (.invokestatic 42, 3) := by decide +kernel
theorem dX7_isDigitHere_27 : decode cX7_isDigitHere 27 = .ok (.ifCond .eq 7, 3) := by decide +kernel
theorem dX7_isDigitHere_30 : decode cX7_isDigitHere 30 = .ok (.iconst 1, 1) := by decide +kernel
theorem dX7_isDigitHere_31 : decode cX7_isDigitHere 31 = .ok (.goto 4, 3) := by decide +kernel
theorem dX7_isDigitHere_34 : decode cX7_isDigitHere 34 = .ok (.iconst 0, 1) := by decide +kernel
theorem dX7_isDigitHere_35 : decode cX7_isDigitHere 35 = .ok (.ireturn, 1) := by decide +kernel
theorem dX7_passesNumber_0 : decode cX7_passesNumber 0 = .ok (.aload_n 0, 1) := by decide +kernel
theorem dX7_passesNumber_1 : decode cX7_passesNumber 1 = .ok (.invokevirtual 174, 3) := by decide +kernel
theorem dX7_passesNumber_4 : decode cX7_passesNumber 4 = .ok (.ifCond .ne 5, 3) := by decide +kernel
theorem dX7_passesNumber_7 : decode cX7_passesNumber 7 = .ok (.iconst 0, 1) := by decide +kernel
theorem dX7_passesNumber_8 : decode cX7_passesNumber 8 = .ok (.ireturn, 1) := by decide +kernel
theorem dX7_passesNumber_9 : decode cX7_passesNumber 9 = .ok (.aload_n 0, 1) := by decide +kernel
theorem dX7_passesNumber_10 : decode cX7_passesNumber 10 = .ok (.getfield 171, 3) := by decide +kernel
theorem dX7_passesNumber_13 : decode cX7_passesNumber 13 = .ok (.istore_n 3, 1) := by decide +kernel
theorem dX7_passesNumber_14 : decode cX7_passesNumber 14 = .ok (.aload_n 0, 1) := by decide +kernel
theorem dX7_passesNumber_15 : decode cX7_passesNumber 15 = .ok (.getfield 26, 3) := by decide +kernel
theorem dX7_passesNumber_18 : decode cX7_passesNumber 18 = .ok (.aload_n 0, 1) := by decide +kernel
theorem dX7_passesNumber_19 : decode cX7_passesNumber 19 = .ok (.getfield 171, 3) := by decide +kernel
theorem dX7_passesNumber_22 : decode cX7_passesNumber 22 = .ok (.iaload, 1) := by decide +kernel
theorem dX7_passesNumber_23 : decode cX7_passesNumber 23 = .ok (.bipush 48, 2) := by decide +kernel
theorem dX7_passesNumber_25 : decode cX7_passesNumber 25 = .ok (.isub, 1) := by decide +kernel
theorem dX7_passesNumber_26 : decode cX7_passesNumber 26 = .ok (.istore 4, 2) := by decide +kernel
theorem dX7_passesNumber_28 : decode cX7_passesNumber 28 = .ok (.aload_n 0, 1) := by decide +kernel
theorem dX7_passesNumber_29 : decode cX7_passesNumber 29 = .ok (.dup, 1) := by decide +kernel
theorem dX7_passesNumber_30 : decode cX7_passesNumber 30 = .ok (.getfield 171, 3) := by decide +kernel
theorem dX7_passesNumber_33 : decode cX7_passesNumber 33 = .ok (.iconst 1, 1) := by decide +kernel
theorem dX7_passesNumber_34 : decode cX7_passesNumber 34 = .ok (.iadd, 1) := by decide +kernel
theorem dX7_passesNumber_35 : decode cX7_passesNumber 35 = .ok (.putfield 171, 3) := by decide +kernel
theorem dX7_passesNumber_38 : decode cX7_passesNumber 38 = .ok (.iconst 1, 1) := by decide +kernel
theorem dX7_passesNumber_39 : decode cX7_passesNumber 39 = .ok (.istore 5, 2) := by decide +kernel
theorem dX7_passesNumber_41 : decode cX7_passesNumber 41 = .ok (.iload 5, 2) := by decide +kernel
theorem dX7_passesNumber_43 : decode cX7_passesNumber 43 = .ok (.iconst 3, 1) := by decide +kernel
theorem dX7_passesNumber_44 : decode cX7_passesNumber 44 = .ok (.if_icmp .ge 51, 3) := by decide +kernel
theorem dX7_passesNumber_47 : decode cX7_passesNumber 47 = .ok (.iload 4, 2) := by decide +kernel
theorem dX7_passesNumber_49 : decode cX7_passesNumber 49 = .ok (.ifCond .le 46, 3) := by decide +kernel
theorem dX7_passesNumber_52 : decode cX7_passesNumber 52 = .ok (.aload_n 0, 1) := by decide +kernel
theorem dX7_passesNumber_53 : decode cX7_passesNumber 53 = .ok (.invokevirtual 174, 3) := by decide +kernel
theorem dX7_passesNumber_56 : decode cX7_passesNumber 56 = .ok (.ifCond .eq 39, 3) := by decide +kernel
theorem dX7_passesNumber_59 : decode cX7_passesNumber 59 = .ok (.bipush 10, 2) := by decide +kernel
theorem dX7_passesNumber_61 : decode cX7_passesNumber 61 = .ok (.iload 4, 2) := by decide +kernel
theorem dX7_passesNumber_63 : decode cX7_passesNumber 63 = .ok (.imul, 1) := by decide +kernel
theorem dX7_passesNumber_64 : decode cX7_passesNumber 64 = .ok (.aload_n 0, 1) := by decide +kernel
theorem dX7_passesNumber_65 : decode cX7_passesNumber 65 = .ok (.getfield 26, 3) := by decide +kernel
theorem dX7_passesNumber_68 : decode cX7_passesNumber 68 = .ok (.aload_n 0, 1) := by decide +kernel
theorem dX7_passesNumber_69 : decode cX7_passesNumber 69 = .ok (.getfield 171, 3) := by decide +kernel
theorem dX7_passesNumber_72 : decode cX7_passesNumber 72 = .ok (.iaload, 1) := by decide +kernel
theorem dX7_passesNumber_73 : decode cX7_passesNumber 73 = .ok (.iadd, 1) := by decide +kernel
theorem dX7_passesNumber_74 : decode cX7_passesNumber 74 = .ok (.bipush 48, 2) := by decide +kernel
theorem dX7_passesNumber_76 : decode cX7_passesNumber 76 = .ok (.isub, 1) := by decide +kernel
theorem dX7_passesNumber_77 : decode cX7_passesNumber 77 = .ok (.istore 4, 2) := by decide +kernel
theorem dX7_passesNumber_79 : decode cX7_passesNumber 79 = .ok (.aload_n 0, 1) := by decide +kernel
theorem dX7_passesNumber_80 : decode cX7_passesNumber 80 = .ok (.dup, 1) := by decide +kernel
theorem dX7_passesNumber_81 : decode cX7_passesNumber 81 = .ok (.getfield 171, 3) := by decide +kernel
theorem dX7_passesNumber_84 : decode cX7_passesNumber 84 = .ok (.iconst 1, 1) := by decide +kernel
theorem dX7_passesNumber_85 : decode cX7_passesNumber 85 = .ok (.iadd, 1) := by decide +kernel
theorem dX7_passesNumber_86 : decode cX7_passesNumber 86 = .ok (.putfield 171, 3) := by decide +kernel
theorem dX7_passesNumber_89 : decode cX7_passesNumber 89 = .ok (.iinc 5 1, 3) := by decide +kernel
theorem dX7_passesNumber_92 : decode cX7_passesNumber 92 = .ok (.goto (-51), 3) := by decide +kernel
theorem dX7_passesNumber_95 : decode cX7_passesNumber 95 = .ok (.aload_n 0, 1) := by decide +kernel
theorem dX7_passesNumber_96 : decode cX7_passesNumber 96 = .ok (.iload 4, 2) := by decide +kernel
theorem dX7_passesNumber_98 : decode cX7_passesNumber 98 = .ok (.putfield 177, 3) := by decide +kernel
theorem dX7_passesNumber_101 : decode cX7_passesNumber 101 = .ok (.iload 4, 2) := by decide +kernel
theorem dX7_passesNumber_103 : decode cX7_passesNumber 103 = .ok (.iload_n 1, 1) := by decide +kernel
theorem dX7_passesNumber_104 : decode cX7_passesNumber 104 = .ok (.iload_n 2, 1) := by decide +kernel
theorem dX7_passesNumber_105 : decode cX7_passesNumber 105 = .ok (.invokestatic 42, 3) := by decide +kernel
theorem dX7_passesNumber_108 : decode cX7_passesNumber 108 = .ok (.ifCond .ne 10, 3) := by decide +kernel
theorem dX7_passesNumber_111 : decode cX7_passesNumber 111 = .ok (.aload_n 0, 1) := by decide +kernel
theorem dX7_passesNumber_112 : decode cX7_passesNumber 112 = .ok (.iload_n 3, 1) := by decide +kernel
theorem dX7_passesNumber_113 : decode cX7_passesNumber 113 = .ok (.putfield 171, 3) := by decide +kernel
theorem dX7_passesNumber_116 : decode cX7_passesNumber 116 = .ok (.iconst 0, 1) := by decide +kernel
theorem dX7_passesNumber_117 : decode cX7_passesNumber 117 = .ok (.ireturn, 1) := by decide +kernel
theorem dX7_passesNumber_118 : decode cX7_passesNumber 118 = .ok (.iconst 1, 1) := by decide +kernel
theorem dX7_passesNumber_119 : decode cX7_passesNumber 119 = .ok (.ireturn, 1) := by decide +kernel
theorem dX7_passesAct_0 : decode cX7_passesAct 0 = .ok (.aload_n 0, 1) := by decide +kernel
theorem dX7_passesAct_1 : decode cX7_passesAct 1 = .ok (.aload_n 0, 1) := by decide +kernel
theorem dX7_passesAct_2 : decode cX7_passesAct 2 = .ok (.getfield 171, 3) := by decide +kernel
theorem dX7_passesAct_5 : decode cX7_passesAct 5 = .ok (.aload_n 0, 1) := by decide +kernel
theorem dX7_passesAct_6 : decode cX7_passesAct 6 = .ok (.getfield 168, 3) := by decide +kernel
theorem dX7_passesAct_9 : decode cX7_passesAct 9 = .ok (.if_icmp .ge 15, 3) := by decide +kernel
theorem dX7_passesAct_12 : decode cX7_passesAct 12 = .ok (.aload_n 0, 1) := by decide +kernel
theorem dX7_passesAct_13 : decode cX7_passesAct 13 = .ok (.getfield 26, 3) := by decide +kernel
theorem dX7_passesAct_16 : decode cX7_passesAct 16 = .ok (.aload_n 0, 1) := by decide +kernel
theorem dX7_passesAct_17 : decode cX7_passesAct 17 = .ok (.getfield 171, 3) := by decide +kernel
theorem dX7_passesAct_20 : decode cX7_passesAct 20 = .ok (.iaload, 1) := by decide +kernel
theorem dX7_passesAct_21 : decode cX7_passesAct 21 = .ok (.goto 4, 3) := by decide +kernel
theorem dX7_passesAct_24 : decode cX7_passesAct 24 = .ok (.iconst 0, 1) := by decide +kernel
theorem dX7_passesAct_25 : decode cX7_passesAct 25 = .ok (.putfield 180, 3) := by decide +kernel
theorem dX7_passesAct_28 : decode cX7_passesAct 28 = .ok (.aload_n 0, 1) := by decide +kernel
theorem dX7_passesAct_29 : decode cX7_passesAct 29 = .ok (.getfield 180, 3) := by decide +kernel
theorem dX7_passesAct_32 : decode cX7_passesAct 32 = .ok (.bipush 103, 2) := by decide +kernel
theorem dX7_passesAct_34 : decode cX7_passesAct 34 = .ok (.if_icmp .eq 41, 3) := by decide +kernel
theorem dX7_passesAct_37 : decode cX7_passesAct 37 = .ok (.aload_n 0, 1) := by decide +kernel
theorem dX7_passesAct_38 : decode cX7_passesAct 38 = .ok (.getfield 180, 3) := by decide +kernel
theorem dX7_passesAct_41 : decode cX7_passesAct 41 = .ok (.bipush 102, 2) := by decide +kernel
theorem dX7_passesAct_43 : decode cX7_passesAct 43 = .ok (.if_icmp .eq 32, 3) := by decide +kernel
theorem dX7_passesAct_46 : decode cX7_passesAct 46 = .ok (.aload_n 0, 1) := by decide +kernel
theorem dX7_passesAct_47 : decode cX7_passesAct 47 = .ok (.getfield 180, 3) := by decide +kernel
theorem dX7_passesAct_50 : decode cX7_passesAct 50 = .ok (.bipush 98, 2) := by decide +kernel
theorem dX7_passesAct_52 : decode cX7_passesAct 52 = .ok (.if_icmp .eq 23, 3) := by decide +kernel
theorem dX7_passesAct_55 : decode cX7_passesAct 55 = .ok (.aload_n 0, 1) := by decide +kernel
theorem dX7_passesAct_56 : decode cX7_passesAct 56 = .ok (.getfield 180, 3) := by decide +kernel
theorem dX7_passesAct_59 : decode cX7_passesAct 59 = .ok (.bipush 111, 2) := by decide +kernel
theorem dX7_passesAct_61 : decode cX7_passesAct 61 = .ok (.if_icmp .eq 14, 3) := by decide +kernel
theorem dX7_passesAct_64 : decode cX7_passesAct 64 = .ok (.aload_n 0, 1) := by decide +kernel
theorem dX7_passesAct_65 : decode cX7_passesAct 65 = .ok (.getfield 180, 3) := by decide +kernel
theorem dX7_passesAct_68 : decode cX7_passesAct 68 = .ok (.bipush 116, 2) := by decide +kernel
theorem dX7_passesAct_70 : decode cX7_passesAct 70 = .ok (.if_icmp .eq 5, 3) := by decide +kernel
theorem dX7_passesAct_73 : decode cX7_passesAct 73 = .ok (.iconst 0, 1) := by decide +kernel
theorem dX7_passesAct_74 : decode cX7_passesAct 74 = .ok (.ireturn, 1) := by decide +kernel
theorem dX7_passesAct_75 : decode cX7_passesAct 75 = .ok (.aload_n 0, 1) := by decide +kernel
theorem dX7_passesAct_76 : decode cX7_passesAct 76 = .ok (.dup, 1) := by decide +kernel
theorem dX7_passesAct_77 : decode cX7_passesAct 77 = .ok (.getfield 171, 3) := by decide +kernel
theorem dX7_passesAct_80 : decode cX7_passesAct 80 = .ok (.iconst 1, 1) := by decide +kernel
theorem dX7_passesAct_81 : decode cX7_passesAct 81 = .ok (.iadd, 1) := by decide +kernel
theorem dX7_passesAct_82 : decode cX7_passesAct 82 = .ok (.putfield 171, 3) := by decide +kernel
theorem dX7_passesAct_85 : decode cX7_passesAct 85 = .ok (.aload_n 0, 1) := by decide +kernel
theorem dX7_passesAct_86 : decode cX7_passesAct 86 = .ok (.getfield 180, 3) := by decide +kernel
theorem dX7_passesAct_89 : decode cX7_passesAct 89 = .ok (.bipush 111, 2) := by decide +kernel
theorem dX7_passesAct_91 : decode cX7_passesAct 91 = .ok (.if_icmp .ne 12, 3) := by decide +kernel
theorem dX7_passesAct_94 : decode cX7_passesAct 94 = .ok (.aload_n 0, 1) := by decide +kernel
theorem dX7_passesAct_95 : decode cX7_passesAct 95 = .ok (.iconst 0, 1) := by decide +kernel
theorem dX7_passesAct_96 : decode cX7_passesAct 96 = .ok (.iconst 3, 1) := by decide +kernel
theorem dX7_passesAct_97 : decode cX7_passesAct 97 = .ok (.invokevirtual 183, 3) := by decide +kernel
theorem dX7_passesAct_100 : decode cX7_passesAct 100 = .ok (.ifCond .eq 23, 3) := by decide +kernel
theorem dX7_passesAct_103 : decode cX7_passesAct 103 = .ok (.aload_n 0, 1) := by decide +kernel
theorem dX7_passesAct_104 : decode cX7_passesAct 104 = .ok (.getfield 180, 3) := by decide +kernel
theorem dX7_passesAct_107 : decode cX7_passesAct 107 = .ok (.bipush 116, 2) := by decide +kernel
theorem dX7_passesAct_109 : decode cX7_passesAct 109 = .ok (.if_icmp .ne 16, 3) := by decide +kernel
theorem dX7_passesAct_112 : decode cX7_passesAct 112 = .ok (.aload_n 0, 1) := by decide +kernel
theorem dX7_passesAct_113 : decode cX7_passesAct 113 = .ok (.iconst 1, 1) := by decide +kernel
theorem dX7_passesAct_114 : decode cX7_passesAct 114 = .ok (.sipush 200, 3) := by decide +kernel
theorem dX7_passesAct_117 : decode cX7_passesAct 117 = .ok (.invokevirtual 183, 3) := by decide +kernel
theorem dX7_passesAct_120 : decode cX7_passesAct 120 = .ok (.ifCond .ne 5, 3) := by decide +kernel
theorem dX7_passesAct_123 : decode cX7_passesAct 123 = .ok (.iconst 0, 1) := by decide +kernel
theorem dX7_passesAct_124 : decode cX7_passesAct 124 = .ok (.ireturn, 1) := by decide +kernel
theorem dX7_passesAct_125 : decode cX7_passesAct 125 = .ok (.aload_n 0, 1) := by decide +kernel
theorem dX7_passesAct_126 : decode cX7_passesAct 126 = .ok (.getfield 171, 3) := by decide +kernel
theorem dX7_passesAct_129 : decode cX7_passesAct 129 = .ok (.aload_n 0, 1) := by decide +kernel
theorem dX7_passesAct_130 : decode cX7_passesAct 130 = .ok (.getfield 168, 3) := by decide +kernel
theorem dX7_passesAct_133 : decode cX7_passesAct 133 = .ok (.if_icmp .eq 17, 3) := by decide +kernel
theorem dX7_passesAct_136 : decode cX7_passesAct 136 = .ok (.aload_n 0, 1) := by decide +kernel
theorem dX7_passesAct_137 : decode cX7_passesAct 137 = .ok (.getfield 26, 3) := by decide +kernel
theorem dX7_passesAct_140 : decode cX7_passesAct 140 = .ok (.aload_n 0, 1) := by decide +kernel
theorem dX7_passesAct_141 : decode cX7_passesAct 141 = .ok (.getfield 171, 3) := by decide +kernel
theorem dX7_passesAct_144 : decode cX7_passesAct 144 = .ok (.iaload, 1) := by decide +kernel
theorem dX7_passesAct_145 : decode cX7_passesAct 145 = .ok (.bipush 59, 2) := by decide +kernel
theorem dX7_passesAct_147 : decode cX7_passesAct 147 = .ok (.if_icmp .eq 5, 3) := by decide +kernel
theorem dX7_passesAct_150 : decode cX7_passesAct 150 = .ok (.iconst 0, 1) := by decide +kernel
theorem dX7_passesAct_151 : decode cX7_passesAct 151 = .ok (.ireturn, 1) := by decide +kernel
theorem dX7_passesAct_152 : decode cX7_passesAct 152 = .ok (.aload_n 0, 1) := by decide +kernel
theorem dX7_passesAct_153 : decode cX7_passesAct 153 = .ok (.dup, 1) := by decide +kernel
end
section
theorem dX7_passesAct_154 : decode cX7_passesAct 154 = .ok (.getfield 171, 3) := by decide +kernel
theorem dX7_passesAct_157 : decode cX7_passesAct 157 = .ok (.iconst 1, 1) := by decide +kernel
theorem dX7_passesAct_158 : decode cX7_passesAct 158 = .ok (.iadd, 1) := by decide +kernel
theorem dX7_passesAct_159 : decode cX7_passesAct 159 = .ok (.putfield 171, 3) := by decide +kernel
theorem dX7_passesAct_162 : decode cX7_passesAct 162 = .ok (.iconst 1, 1) := by decide +kernel
theorem dX7_passesAct_163 : decode cX7_passesAct 163 = .ok (.ireturn, 1) := by decide +kernel
theorem dX7_faultPosition_0 : decode cX7_faultPosition 0 = .ok (.aload_n 0, 1) := by decide +kernel
theorem dX7_faultPosition_1 : decode cX7_faultPosition 1 = .ok (.iconst 0, 1) := by decide +kernel
theorem dX7_faultPosition_2 : decode cX7_faultPosition 2 = .ok (.putfield 171, 3) := by decide +kernel
theorem dX7_faultPosition_5 : decode cX7_faultPosition 5 = .ok (.aload_n 0, 1) := by decide +kernel
theorem dX7_faultPosition_6 : decode cX7_faultPosition 6 = .ok (.getfield 171, 3) := by decide +kernel
theorem dX7_faultPosition_9 : decode cX7_faultPosition 9 = .ok (.aload_n 0, 1) := by decide +kernel
theorem dX7_faultPosition_10 : decode cX7_faultPosition 10 = .ok (.getfield 168, 3) := by decide +kernel
theorem dX7_faultPosition_13 : decode cX7_faultPosition 13 = .ok (.if_icmp .ge 15, 3) := by decide +kernel
theorem dX7_faultPosition_16 : decode cX7_faultPosition 16 = .ok (.aload_n 0, 1) := by decide +kernel
theorem dX7_faultPosition_17 : decode cX7_faultPosition 17 = .ok (.invokevirtual 187, 3) := by decide +kernel
theorem dX7_faultPosition_20 : decode cX7_faultPosition 20 = .ok (.ifCond .ne (-15), 3) := by decide +kernel
theorem dX7_faultPosition_23 : decode cX7_faultPosition 23 = .ok (.aload_n 0, 1) := by decide +kernel
theorem dX7_faultPosition_24 : decode cX7_faultPosition 24 = .ok (.getfield 171, 3) := by decide +kernel
theorem dX7_faultPosition_27 : decode cX7_faultPosition 27 = .ok (.ireturn, 1) := by decide +kernel
theorem dX7_faultPosition_28 : decode cX7_faultPosition 28 = .ok (.bipush (-5), 2) := by decide +kernel
theorem dX7_faultPosition_30 : decode cX7_faultPosition 30 = .ok (.ireturn, 1) := by decide +kernel
theorem dX7_does_0 : decode cX7_does 0 = .ok (.aload_n 0, 1) := by decide +kernel
theorem dX7_does_1 : decode cX7_does 1 = .ok (.getfield 180, 3) := by decide +kernel
theorem dX7_does_4 : decode cX7_does 4 = .ok (.bipush 111, 2) := by decide +kernel
theorem dX7_does_6 : decode cX7_does 6 = .ok (.if_icmp .ne 31, 3) := by decide +kernel
theorem dX7_does_9 : decode cX7_does 9 = .ok (.aload_n 0, 1) := by decide +kernel
theorem dX7_does_10 : decode cX7_does 10 = .ok (.aload_n 0, 1) := by decide +kernel
theorem dX7_does_11 : decode cX7_does 11 = .ok (.getfield 177, 3) := by decide +kernel
theorem dX7_does_14 : decode cX7_does 14 = .ok (.invokevirtual 156, 3) := by decide +kernel
theorem dX7_does_17 : decode cX7_does 17 = .ok (.ifCond .ne 18, 3) := by decide +kernel
theorem dX7_does_20 : decode cX7_does 20 = .ok (.aload_n 0, 1) := by decide +kernel
theorem dX7_does_21 : decode cX7_does 21 = .ok (.aload_n 0, 1) := by decide +kernel
theorem dX7_does_22 : decode cX7_does 22 = .ok (.getfield 177, 3) := by decide +kernel
theorem dX7_does_25 : decode cX7_does 25 = .ok (.invokevirtual 159, 3) := by decide +kernel
theorem dX7_does_28 : decode cX7_does 28 = .ok (.ifCond .lt 7, 3) := by decide +kernel
theorem dX7_does_31 : decode cX7_does 31 = .ok (.iconst 1, 1) := by decide +kernel
theorem dX7_does_32 : decode cX7_does 32 = .ok (.goto 4, 3) := by decide +kernel
theorem dX7_does_35 : decode cX7_does 35 = .ok (.iconst 0, 1) := by decide +kernel
theorem dX7_does_36 : decode cX7_does 36 = .ok (.ireturn, 1) := by decide +kernel
theorem dX7_does_37 : decode cX7_does 37 = .ok (.aload_n 0, 1) := by decide +kernel
theorem dX7_does_38 : decode cX7_does 38 = .ok (.getfield 180, 3) := by decide +kernel
theorem dX7_does_41 : decode cX7_does 41 = .ok (.bipush 116, 2) := by decide +kernel
theorem dX7_does_43 : decode cX7_does 43 = .ok (.if_icmp .ne 20, 3) := by decide +kernel
theorem dX7_does_46 : decode cX7_does 46 = .ok (.aload_n 0, 1) := by decide +kernel
theorem dX7_does_47 : decode cX7_does 47 = .ok (.aload_n 0, 1) := by decide +kernel
theorem dX7_does_48 : decode cX7_does 48 = .ok (.getfield 177, 3) := by decide +kernel
theorem dX7_does_51 : decode cX7_does 51 = .ok (.invokevirtual 165, 3) := by decide +kernel
theorem dX7_does_54 : decode cX7_does 54 = .ok (.ifCond .lt 7, 3) := by decide +kernel
theorem dX7_does_57 : decode cX7_does 57 = .ok (.iconst 1, 1) := by decide +kernel
theorem dX7_does_58 : decode cX7_does 58 = .ok (.goto 4, 3) := by decide +kernel
theorem dX7_does_61 : decode cX7_does 61 = .ok (.iconst 0, 1) := by decide +kernel
theorem dX7_does_62 : decode cX7_does 62 = .ok (.ireturn, 1) := by decide +kernel
theorem dX7_does_63 : decode cX7_does 63 = .ok (.aload_n 0, 1) := by decide +kernel
theorem dX7_does_64 : decode cX7_does 64 = .ok (.getfield 180, 3) := by decide +kernel
theorem dX7_does_67 : decode cX7_does 67 = .ok (.bipush 103, 2) := by decide +kernel
theorem dX7_does_69 : decode cX7_does 69 = .ok (.if_icmp .ne 7, 3) := by decide +kernel
theorem dX7_does_72 : decode cX7_does 72 = .ok (.iconst 1, 1) := by decide +kernel
theorem dX7_does_73 : decode cX7_does 73 = .ok (.goto 17, 3) := by decide +kernel
theorem dX7_does_76 : decode cX7_does 76 = .ok (.aload_n 0, 1) := by decide +kernel
theorem dX7_does_77 : decode cX7_does 77 = .ok (.getfield 180, 3) := by decide +kernel
theorem dX7_does_80 : decode cX7_does 80 = .ok (.bipush 102, 2) := by decide +kernel
theorem dX7_does_82 : decode cX7_does 82 = .ok (.if_icmp .ne 7, 3) := by decide +kernel
theorem dX7_does_85 : decode cX7_does 85 = .ok (.iconst 0, 1) := by decide +kernel
theorem dX7_does_86 : decode cX7_does 86 = .ok (.goto 4, 3) := by decide +kernel
theorem dX7_does_89 : decode cX7_does 89 = .ok (.iconst 3, 1) := by decide +kernel
theorem dX7_does_90 : decode cX7_does 90 = .ok (.istore_n 1, 1) := by decide +kernel
theorem dX7_does_91 : decode cX7_does 91 = .ok (.aload_n 0, 1) := by decide +kernel
theorem dX7_does_92 : decode cX7_does 92 = .ok (.iload_n 1, 1) := by decide +kernel
theorem dX7_does_93 : decode cX7_does 93 = .ok (.invokevirtual 144, 3) := by decide +kernel
theorem dX7_does_96 : decode cX7_does 96 = .ok (.ifCond .ne 15, 3) := by decide +kernel
theorem dX7_does_99 : decode cX7_does 99 = .ok (.aload_n 0, 1) := by decide +kernel
theorem dX7_does_100 : decode cX7_does 100 = .ok (.iload_n 1, 1) := by decide +kernel
theorem dX7_does_101 : decode cX7_does 101 = .ok (.invokevirtual 147, 3) := by decide +kernel
theorem dX7_does_104 : decode cX7_does 104 = .ok (.ifCond .lt 7, 3) := by decide +kernel
theorem dX7_does_107 : decode cX7_does 107 = .ok (.iconst 1, 1) := by decide +kernel
theorem dX7_does_108 : decode cX7_does 108 = .ok (.goto 4, 3) := by decide +kernel
theorem dX7_does_111 : decode cX7_does 111 = .ok (.iconst 0, 1) := by decide +kernel
theorem dX7_does_112 : decode cX7_does 112 = .ok (.ireturn, 1) := by decide +kernel
theorem dX7_run_0 : decode cX7_run 0 = .ok (.aload_n 0, 1) := by decide +kernel
theorem dX7_run_1 : decode cX7_run 1 = .ok (.invokevirtual 190, 3) := by decide +kernel
theorem dX7_run_4 : decode cX7_run 4 = .ok (.bipush (-5), 2) := by decide +kernel
theorem dX7_run_6 : decode cX7_run 6 = .ok (.if_icmp .eq 6, 3) := by decide +kernel
theorem dX7_run_9 : decode cX7_run 9 = .ok (.bipush (-3), 2) := by decide +kernel
theorem dX7_run_11 : decode cX7_run 11 = .ok (.ireturn, 1) := by decide +kernel
theorem dX7_run_12 : decode cX7_run 12 = .ok (.aload_n 0, 1) := by decide +kernel
theorem dX7_run_13 : decode cX7_run 13 = .ok (.invokevirtual 46, 3) := by decide +kernel
theorem dX7_run_16 : decode cX7_run 16 = .ok (.iconst 0, 1) := by decide +kernel
theorem dX7_run_17 : decode cX7_run 17 = .ok (.istore_n 1, 1) := by decide +kernel
theorem dX7_run_18 : decode cX7_run 18 = .ok (.aload_n 0, 1) := by decide +kernel
theorem dX7_run_19 : decode cX7_run 19 = .ok (.iconst 0, 1) := by decide +kernel
theorem dX7_run_20 : decode cX7_run 20 = .ok (.putfield 171, 3) := by decide +kernel
theorem dX7_run_23 : decode cX7_run 23 = .ok (.aload_n 0, 1) := by decide +kernel
theorem dX7_run_24 : decode cX7_run 24 = .ok (.getfield 168, 3) := by decide +kernel
theorem dX7_run_27 : decode cX7_run 27 = .ok (.ifCond .le 7, 3) := by decide +kernel
theorem dX7_run_30 : decode cX7_run 30 = .ok (.iconst 1, 1) := by decide +kernel
theorem dX7_run_31 : decode cX7_run 31 = .ok (.goto 4, 3) := by decide +kernel
theorem dX7_run_34 : decode cX7_run 34 = .ok (.iconst 0, 1) := by decide +kernel
theorem dX7_run_35 : decode cX7_run 35 = .ok (.istore_n 2, 1) := by decide +kernel
theorem dX7_run_36 : decode cX7_run 36 = .ok (.iload_n 2, 1) := by decide +kernel
theorem dX7_run_37 : decode cX7_run 37 = .ok (.ifCond .eq 59, 3) := by decide +kernel
theorem dX7_run_40 : decode cX7_run 40 = .ok (.aload_n 0, 1) := by decide +kernel
theorem dX7_run_41 : decode cX7_run 41 = .ok (.invokevirtual 187, 3) := by decide +kernel
theorem dX7_run_44 : decode cX7_run 44 = .ok (.ifCond .eq 14, 3) := by decide +kernel
theorem dX7_run_47 : decode cX7_run 47 = .ok (.aload_n 0, 1) := by decide +kernel
theorem dX7_run_48 : decode cX7_run 48 = .ok (.invokevirtual 193, 3) := by decide +kernel
theorem dX7_run_51 : decode cX7_run 51 = .ok (.ifCond .eq 7, 3) := by decide +kernel
theorem dX7_run_54 : decode cX7_run 54 = .ok (.iconst 1, 1) := by decide +kernel
theorem dX7_run_55 : decode cX7_run 55 = .ok (.goto 4, 3) := by decide +kernel
theorem dX7_run_58 : decode cX7_run 58 = .ok (.iconst 0, 1) := by decide +kernel
theorem dX7_run_59 : decode cX7_run 59 = .ok (.istore_n 2, 1) := by decide +kernel
theorem dX7_run_60 : decode cX7_run 60 = .ok (.iload_n 1, 1) := by decide +kernel
theorem dX7_run_61 : decode cX7_run 61 = .ok (.iload_n 2, 1) := by decide +kernel
theorem dX7_run_62 : decode cX7_run 62 = .ok (.ifCond .eq 7, 3) := by decide +kernel
theorem dX7_run_65 : decode cX7_run 65 = .ok (.iconst 1, 1) := by decide +kernel
theorem dX7_run_66 : decode cX7_run 66 = .ok (.goto 4, 3) := by decide +kernel
theorem dX7_run_69 : decode cX7_run 69 = .ok (.iconst 0, 1) := by decide +kernel
theorem dX7_run_70 : decode cX7_run 70 = .ok (.iadd, 1) := by decide +kernel
theorem dX7_run_71 : decode cX7_run 71 = .ok (.istore_n 1, 1) := by decide +kernel
theorem dX7_run_72 : decode cX7_run 72 = .ok (.iload_n 2, 1) := by decide +kernel
theorem dX7_run_73 : decode cX7_run 73 = .ok (.ifCond .eq 18, 3) := by decide +kernel
theorem dX7_run_76 : decode cX7_run 76 = .ok (.aload_n 0, 1) := by decide +kernel
theorem dX7_run_77 : decode cX7_run 77 = .ok (.getfield 171, 3) := by decide +kernel
theorem dX7_run_80 : decode cX7_run 80 = .ok (.aload_n 0, 1) := by decide +kernel
theorem dX7_run_81 : decode cX7_run 81 = .ok (.getfield 168, 3) := by decide +kernel
theorem dX7_run_84 : decode cX7_run 84 = .ok (.if_icmp .ge 7, 3) := by decide +kernel
theorem dX7_run_87 : decode cX7_run 87 = .ok (.iconst 1, 1) := by decide +kernel
theorem dX7_run_88 : decode cX7_run 88 = .ok (.goto 4, 3) := by decide +kernel
theorem dX7_run_91 : decode cX7_run 91 = .ok (.iconst 0, 1) := by decide +kernel
theorem dX7_run_92 : decode cX7_run 92 = .ok (.istore_n 2, 1) := by decide +kernel
theorem dX7_run_93 : decode cX7_run 93 = .ok (.goto (-57), 3) := by decide +kernel
theorem dX7_run_96 : decode cX7_run 96 = .ok (.iload_n 1, 1) := by decide +kernel
theorem dX7_run_97 : decode cX7_run 97 = .ok (.ireturn, 1) := by decide +kernel
theorem dX7_bitsOf_0 : decode cX7_bitsOf 0 = .ok (.fload_n 0, 1) := by decide +kernel
theorem dX7_bitsOf_1 : decode cX7_bitsOf 1 = .ok (.fconst 0, 1) := by decide +kernel
theorem dX7_bitsOf_2 : decode cX7_bitsOf 2 = .ok (.fcmp .g, 1) := by decide +kernel
theorem dX7_bitsOf_3 : decode cX7_bitsOf 3 = .ok (.ifCond .lt 17, 3) := by decide +kernel
theorem dX7_bitsOf_6 : decode cX7_bitsOf 6 = .ok (.fload_n 0, 1) := by decide +kernel
theorem dX7_bitsOf_7 : decode cX7_bitsOf 7 = .ok (.fconst 0, 1) := by decide +kernel
theorem dX7_bitsOf_8 : decode cX7_bitsOf 8 = .ok (.fcmp .l, 1) := by decide +kernel
theorem dX7_bitsOf_9 : decode cX7_bitsOf 9 = .ok (.ifCond .ne 16, 3) := by decide +kernel
theorem dX7_bitsOf_12 : decode cX7_bitsOf 12 = .ok (.fconst 1, 1) := by decide +kernel
theorem dX7_bitsOf_13 : decode cX7_bitsOf 13 = .ok (.fload_n 0, 1) := by decide +kernel
theorem dX7_bitsOf_14 : decode cX7_bitsOf 14 = .ok (.fdiv, 1) := by decide +kernel
theorem dX7_bitsOf_15 : decode cX7_bitsOf 15 = .ok (.fconst 0, 1) := by decide +kernel
theorem dX7_bitsOf_16 : decode cX7_bitsOf 16 = .ok (.fcmp .g, 1) := by decide +kernel
theorem dX7_bitsOf_17 : decode cX7_bitsOf 17 = .ok (.ifCond .ge 8, 3) := by decide +kernel
theorem dX7_bitsOf_20 : decode cX7_bitsOf 20 = .ok (.ldc 196, 2) := by decide +kernel
theorem dX7_bitsOf_22 : decode cX7_bitsOf 22 = .ok (.goto 4, 3) := by decide +kernel
theorem dX7_bitsOf_25 : decode cX7_bitsOf 25 = .ok (.iconst 0, 1) := by decide +kernel
theorem dX7_bitsOf_26 : decode cX7_bitsOf 26 = .ok (.istore_n 1, 1) := by decide +kernel
theorem dX7_bitsOf_27 : decode cX7_bitsOf 27 = .ok (.fload_n 0, 1) := by decide +kernel
theorem dX7_bitsOf_28 : decode cX7_bitsOf 28 = .ok (.invokestatic 84, 3) := by decide +kernel
theorem dX7_bitsOf_31 : decode cX7_bitsOf 31 = .ok (.fstore_n 2, 1) := by decide +kernel
theorem dX7_bitsOf_32 : decode cX7_bitsOf 32 = .ok (.fload_n 2, 1) := by decide +kernel
theorem dX7_bitsOf_33 : decode cX7_bitsOf 33 = .ok (.fconst 0, 1) := by decide +kernel
theorem dX7_bitsOf_34 : decode cX7_bitsOf 34 = .ok (.fcmp .l, 1) := by decide +kernel
theorem dX7_bitsOf_35 : decode cX7_bitsOf 35 = .ok (.ifCond .ne 5, 3) := by decide +kernel
theorem dX7_bitsOf_38 : decode cX7_bitsOf 38 = .ok (.iload_n 1, 1) := by decide +kernel
theorem dX7_bitsOf_39 : decode cX7_bitsOf 39 = .ok (.ireturn, 1) := by decide +kernel
theorem dX7_bitsOf_40 : decode cX7_bitsOf 40 = .ok (.bipush 127, 2) := by decide +kernel
theorem dX7_bitsOf_42 : decode cX7_bitsOf 42 = .ok (.istore_n 3, 1) := by decide +kernel
theorem dX7_bitsOf_43 : decode cX7_bitsOf 43 = .ok (.fload_n 2, 1) := by decide +kernel
theorem dX7_bitsOf_44 : decode cX7_bitsOf 44 = .ok (.fconst 2, 1) := by decide +kernel
theorem dX7_bitsOf_45 : decode cX7_bitsOf 45 = .ok (.fcmp .l, 1) := by decide +kernel
theorem dX7_bitsOf_46 : decode cX7_bitsOf 46 = .ok (.ifCond .lt 13, 3) := by decide +kernel
theorem dX7_bitsOf_49 : decode cX7_bitsOf 49 = .ok (.fload_n 2, 1) := by decide +kernel
theorem dX7_bitsOf_50 : decode cX7_bitsOf 50 = .ok (.fconst 2, 1) := by decide +kernel
theorem dX7_bitsOf_51 : decode cX7_bitsOf 51 = .ok (.fdiv, 1) := by decide +kernel
theorem dX7_bitsOf_52 : decode cX7_bitsOf 52 = .ok (.fstore_n 2, 1) := by decide +kernel
theorem dX7_bitsOf_53 : decode cX7_bitsOf 53 = .ok (.iinc 3 1, 3) := by decide +kernel
theorem dX7_bitsOf_56 : decode cX7_bitsOf 56 = .ok (.goto (-13), 3) := by decide +kernel
theorem dX7_bitsOf_59 : decode cX7_bitsOf 59 = .ok (.fload_n 2, 1) := by decide +kernel
theorem dX7_bitsOf_60 : decode cX7_bitsOf 60 = .ok (.fconst 1, 1) := by decide +kernel
theorem dX7_bitsOf_61 : decode cX7_bitsOf 61 = .ok (.fcmp .g, 1) := by decide +kernel
theorem dX7_bitsOf_62 : decode cX7_bitsOf 62 = .ok (.ifCond .ge 18, 3) := by decide +kernel
theorem dX7_bitsOf_65 : decode cX7_bitsOf 65 = .ok (.iload_n 3, 1) := by decide +kernel
theorem dX7_bitsOf_66 : decode cX7_bitsOf 66 = .ok (.iconst 1, 1) := by decide +kernel
theorem dX7_bitsOf_67 : decode cX7_bitsOf 67 = .ok (.if_icmp .le 13, 3) := by decide +kernel
theorem dX7_bitsOf_70 : decode cX7_bitsOf 70 = .ok (.fload_n 2, 1) := by decide +kernel
theorem dX7_bitsOf_71 : decode cX7_bitsOf 71 = .ok (.fconst 2, 1) := by decide +kernel
theorem dX7_bitsOf_72 : decode cX7_bitsOf 72 = .ok (.fmul, 1) := by decide +kernel
theorem dX7_bitsOf_73 : decode cX7_bitsOf 73 = .ok (.fstore_n 2, 1) := by decide +kernel
theorem dX7_bitsOf_74 : decode cX7_bitsOf 74 = .ok (.iinc 3 (-1), 3) := by decide +kernel
theorem dX7_bitsOf_77 : decode cX7_bitsOf 77 = .ok (.goto (-18), 3) := by decide +kernel
theorem dX7_bitsOf_80 : decode cX7_bitsOf 80 = .ok (.fload_n 2, 1) := by decide +kernel
theorem dX7_bitsOf_81 : decode cX7_bitsOf 81 = .ok (.fconst 1, 1) := by decide +kernel
theorem dX7_bitsOf_82 : decode cX7_bitsOf 82 = .ok (.fcmp .g, 1) := by decide +kernel
theorem dX7_bitsOf_83 : decode cX7_bitsOf 83 = .ok (.ifCond .ge 7, 3) := by decide +kernel
theorem dX7_bitsOf_86 : decode cX7_bitsOf 86 = .ok (.iconst 0, 1) := by decide +kernel
theorem dX7_bitsOf_87 : decode cX7_bitsOf 87 = .ok (.goto 7, 3) := by decide +kernel
theorem dX7_bitsOf_90 : decode cX7_bitsOf 90 = .ok (.iload_n 3, 1) := by decide +kernel
theorem dX7_bitsOf_91 : decode cX7_bitsOf 91 = .ok (.bipush 23, 2) := by decide +kernel
theorem dX7_bitsOf_93 : decode cX7_bitsOf 93 = .ok (.ishl, 1) := by decide +kernel
theorem dX7_bitsOf_94 : decode cX7_bitsOf 94 = .ok (.istore 4, 2) := by decide +kernel
theorem dX7_bitsOf_96 : decode cX7_bitsOf 96 = .ok (.fload_n 2, 1) := by decide +kernel
theorem dX7_bitsOf_97 : decode cX7_bitsOf 97 = .ok (.fconst 1, 1) := by decide +kernel
theorem dX7_bitsOf_98 : decode cX7_bitsOf 98 = .ok (.fcmp .g, 1) := by decide +kernel
theorem dX7_bitsOf_99 : decode cX7_bitsOf 99 = .ok (.ifCond .ge 7, 3) := by decide +kernel
theorem dX7_bitsOf_102 : decode cX7_bitsOf 102 = .ok (.fload_n 2, 1) := by decide +kernel
theorem dX7_bitsOf_103 : decode cX7_bitsOf 103 = .ok (.goto 6, 3) := by decide +kernel
theorem dX7_bitsOf_106 : decode cX7_bitsOf 106 = .ok (.fload_n 2, 1) := by decide +kernel
theorem dX7_bitsOf_107 : decode cX7_bitsOf 107 = .ok (.fconst 1, 1) := by decide +kernel
theorem dX7_bitsOf_108 : decode cX7_bitsOf 108 = .ok (.fsub, 1) := by decide +kernel
theorem dX7_bitsOf_109 : decode cX7_bitsOf 109 = .ok (.fstore 5, 2) := by decide +kernel
theorem dX7_bitsOf_111 : decode cX7_bitsOf 111 = .ok (.iload_n 1, 1) := by decide +kernel
theorem dX7_bitsOf_112 : decode cX7_bitsOf 112 = .ok (.iload 4, 2) := by decide +kernel
theorem dX7_bitsOf_114 : decode cX7_bitsOf 114 = .ok (.ior, 1) := by decide +kernel
theorem dX7_bitsOf_115 : decode cX7_bitsOf 115 = .ok (.fload 5, 2) := by decide +kernel
theorem dX7_bitsOf_117 : decode cX7_bitsOf 117 = .ok (.ldc 197, 2) := by decide +kernel
theorem dX7_bitsOf_119 : decode cX7_bitsOf 119 = .ok (.fmul, 1) := by decide +kernel
theorem dX7_bitsOf_120 : decode cX7_bitsOf 120 = .ok (.f2i, 1) := by decide +kernel
theorem dX7_bitsOf_121 : decode cX7_bitsOf 121 = .ok (.ior, 1) := by decide +kernel
theorem dX7_bitsOf_122 : decode cX7_bitsOf 122 = .ok (.ireturn, 1) := by decide +kernel
theorem dX7_told_0 : decode cX7_told 0 = .ok (.iload_n 1, 1) := by decide +kernel
theorem dX7_told_1 : decode cX7_told 1 = .ok (.tableswitch 102 1 7 #[43, 50, 57, 64, 75, 90, 96], 43) := by decide +kernel
theorem dX7_told_44 : decode cX7_told 44 = .ok (.aload_n 0, 1) := by decide +kernel
theorem dX7_told_45 : decode cX7_told 45 = .ok (.getfield 13, 3) := by decide +kernel
theorem dX7_told_48 : decode cX7_told 48 = .ok (.iconst 1, 1) := by decide +kernel
theorem dX7_told_49 : decode cX7_told 49 = .ok (.faload, 1) := by decide +kernel
theorem dX7_told_50 : decode cX7_told 50 = .ok (.freturn, 1) := by decide +kernel
theorem dX7_told_51 : decode cX7_told 51 = .ok (.aload_n 0, 1) := by decide +kernel
theorem dX7_told_52 : decode cX7_told 52 = .ok (.getfield 13, 3) := by decide +kernel
theorem dX7_told_55 : decode cX7_told 55 = .ok (.iconst 2, 1) := by decide +kernel
theorem dX7_told_56 : decode cX7_told 56 = .ok (.faload, 1) := by decide +kernel
theorem dX7_told_57 : decode cX7_told 57 = .ok (.freturn, 1) := by decide +kernel
theorem dX7_told_58 : decode cX7_told 58 = .ok (.aload_n 0, 1) := by decide +kernel
theorem dX7_told_59 : decode cX7_told 59 = .ok (.getfield 13, 3) := by decide +kernel
theorem dX7_told_62 : decode cX7_told 62 = .ok (.iconst 3, 1) := by decide +kernel
theorem dX7_told_63 : decode cX7_told 63 = .ok (.faload, 1) := by decide +kernel
theorem dX7_told_64 : decode cX7_told 64 = .ok (.freturn, 1) := by decide +kernel
theorem dX7_told_65 : decode cX7_told 65 = .ok (.aload_n 0, 1) := by decide +kernel
theorem dX7_told_66 : decode cX7_told 66 = .ok (.aload_n 0, 1) := by decide +kernel
theorem dX7_told_67 : decode cX7_told 67 = .ok (.getfield 7, 3) := by decide +kernel
theorem dX7_told_70 : decode cX7_told 70 = .ok (.iconst 4, 1) := by decide +kernel
theorem dX7_told_71 : decode cX7_told 71 = .ok (.iaload, 1) := by decide +kernel
theorem dX7_told_72 : decode cX7_told 72 = .ok (.invokevirtual 103, 3) := by decide +kernel
theorem dX7_told_75 : decode cX7_told 75 = .ok (.freturn, 1) := by decide +kernel
theorem dX7_told_76 : decode cX7_told 76 = .ok (.aload_n 0, 1) := by decide +kernel
theorem dX7_told_77 : decode cX7_told 77 = .ok (.aload_n 0, 1) := by decide +kernel
theorem dX7_told_78 : decode cX7_told 78 = .ok (.aload_n 0, 1) := by decide +kernel
theorem dX7_told_79 : decode cX7_told 79 = .ok (.getfield 7, 3) := by decide +kernel
theorem dX7_told_82 : decode cX7_told 82 = .ok (.iconst 4, 1) := by decide +kernel
theorem dX7_told_83 : decode cX7_told 83 = .ok (.iaload, 1) := by decide +kernel
theorem dX7_told_84 : decode cX7_told 84 = .ok (.invokevirtual 103, 3) := by decide +kernel
theorem dX7_told_87 : decode cX7_told 87 = .ok (.invokevirtual 88, 3) := by decide +kernel
theorem dX7_told_90 : decode cX7_told 90 = .ok (.freturn, 1) := by decide +kernel
theorem dX7_told_91 : decode cX7_told 91 = .ok (.aload_n 0, 1) := by decide +kernel
theorem dX7_told_92 : decode cX7_told 92 = .ok (.iconst 0, 1) := by decide +kernel
theorem dX7_told_93 : decode cX7_told 93 = .ok (.invokevirtual 103, 3) := by decide +kernel
theorem dX7_told_96 : decode cX7_told 96 = .ok (.freturn, 1) := by decide +kernel
theorem dX7_told_97 : decode cX7_told 97 = .ok (.aload_n 0, 1) := by decide +kernel
theorem dX7_told_98 : decode cX7_told 98 = .ok (.iconst 1, 1) := by decide +kernel
theorem dX7_told_99 : decode cX7_told 99 = .ok (.invokevirtual 103, 3) := by decide +kernel
theorem dX7_told_102 : decode cX7_told 102 = .ok (.freturn, 1) := by decide +kernel
theorem dX7_told_103 : decode cX7_told 103 = .ok (.aload_n 0, 1) := by decide +kernel
theorem dX7_told_104 : decode cX7_told 104 = .ok (.getfield 13, 3) := by decide +kernel
theorem dX7_told_107 : decode cX7_told 107 = .ok (.iconst 0, 1) := by decide +kernel
theorem dX7_told_108 : decode cX7_told 108 = .ok (.faload, 1) := by decide +kernel
theorem dX7_told_109 : decode cX7_told 109 = .ok (.freturn, 1) := by decide +kernel
theorem dX7_bits_0 : decode cX7_bits 0 = .ok (.aload_n 0, 1) := by decide +kernel
theorem dX7_bits_1 : decode cX7_bits 1 = .ok (.iload_n 1, 1) := by decide +kernel
theorem dX7_bits_2 : decode cX7_bits 2 = .ok (.invokevirtual 198, 3) := by decide +kernel
theorem dX7_bits_5 : decode cX7_bits 5 = .ok (.invokestatic 201, 3) := by decide +kernel
theorem dX7_bits_8 : decode cX7_bits 8 = .ok (.ireturn, 1) := by decide +kernel
theorem dX7_thousandths_0 : decode cX7_thousandths 0 = .ok (.aload_n 0, 1) := by decide +kernel
theorem dX7_thousandths_1 : decode cX7_thousandths 1 = .ok (.iload_n 1, 1) := by decide +kernel
theorem dX7_thousandths_2 : decode cX7_thousandths 2 = .ok (.invokevirtual 198, 3) := by decide +kernel
theorem dX7_thousandths_5 : decode cX7_thousandths 5 = .ok (.ldc 30, 2) := by decide +kernel
theorem dX7_thousandths_7 : decode cX7_thousandths 7 = .ok (.fmul, 1) := by decide +kernel
theorem dX7_thousandths_8 : decode cX7_thousandths 8 = .ok (.f2i, 1) := by decide +kernel
theorem dX7_thousandths_9 : decode cX7_thousandths 9 = .ok (.ireturn, 1) := by decide +kernel
theorem dX7_limit_0 : decode cX7_limit 0 = .ok (.iload_n 1, 1) := by decide +kernel
theorem dX7_limit_1 : decode cX7_limit 1 = .ok (.iconst 0, 1) := by decide +kernel
theorem dX7_limit_2 : decode cX7_limit 2 = .ok (.ldc 49, 2) := by decide +kernel
theorem dX7_limit_4 : decode cX7_limit 4 = .ok (.invokestatic 42, 3) := by decide +kernel
theorem dX7_limit_7 : decode cX7_limit 7 = .ok (.ifCond .eq 17, 3) := by decide +kernel
theorem dX7_limit_10 : decode cX7_limit 10 = .ok (.aload_n 0, 1) := by decide +kernel
theorem dX7_limit_11 : decode cX7_limit 11 = .ok (.iload_n 1, 1) := by decide +kernel
theorem dX7_limit_12 : decode cX7_limit 12 = .ok (.invokestatic 51, 3) := by decide +kernel
theorem dX7_limit_15 : decode cX7_limit 15 = .ok (.invokevirtual 88, 3) := by decide +kernel
theorem dX7_limit_18 : decode cX7_limit 18 = .ok (.invokestatic 201, 3) := by decide +kernel
theorem dX7_limit_21 : decode cX7_limit 21 = .ok (.goto 5, 3) := by decide +kernel
theorem dX7_limit_24 : decode cX7_limit 24 = .ok (.bipush (-2), 2) := by decide +kernel
theorem dX7_limit_26 : decode cX7_limit 26 = .ok (.ireturn, 1) := by decide +kernel
theorem dX7_judgement_0 : decode cX7_judgement 0 = .ok (.aload_n 0, 1) := by decide +kernel
theorem dX7_judgement_1 : decode cX7_judgement 1 = .ok (.invokevirtual 58, 3) := by decide +kernel
theorem dX7_judgement_4 : decode cX7_judgement 4 = .ok (.ireturn, 1) := by decide +kernel
theorem dX7_stop_0 : decode cX7_stop 0 = .ok (.iload_n 1, 1) := by decide +kernel
theorem dX7_stop_1 : decode cX7_stop 1 = .ok (.iconst 0, 1) := by decide +kernel
theorem dX7_stop_2 : decode cX7_stop 2 = .ok (.aload_n 0, 1) := by decide +kernel
theorem dX7_stop_3 : decode cX7_stop 3 = .ok (.getfield 7, 3) := by decide +kernel
theorem dX7_stop_6 : decode cX7_stop 6 = .ok (.bipush 11, 2) := by decide +kernel
theorem dX7_stop_8 : decode cX7_stop 8 = .ok (.iaload, 1) := by decide +kernel
theorem dX7_stop_9 : decode cX7_stop 9 = .ok (.iconst 1, 1) := by decide +kernel
theorem dX7_stop_10 : decode cX7_stop 10 = .ok (.isub, 1) := by decide +kernel
theorem dX7_stop_11 : decode cX7_stop 11 = .ok (.invokestatic 42, 3) := by decide +kernel
theorem dX7_stop_14 : decode cX7_stop 14 = .ok (.ifCond .ne 5, 3) := by decide +kernel
theorem dX7_stop_17 : decode cX7_stop 17 = .ok (.iconst (-1), 1) := by decide +kernel
theorem dX7_stop_18 : decode cX7_stop 18 = .ok (.ireturn, 1) := by decide +kernel
theorem dX7_stop_19 : decode cX7_stop 19 = .ok (.iload_n 2, 1) := by decide +kernel
theorem dX7_stop_20 : decode cX7_stop 20 = .ok (.tableswitch 58 0 2 #[28, 28, 42], 28) := by decide +kernel
theorem dX7_stop_48 : decode cX7_stop 48 = .ok (.aload_n 0, 1) := by decide +kernel
theorem dX7_stop_49 : decode cX7_stop 49 = .ok (.getfield 7, 3) := by decide +kernel
theorem dX7_stop_52 : decode cX7_stop 52 = .ok (.bipush 32, 2) := by decide +kernel
theorem dX7_stop_54 : decode cX7_stop 54 = .ok (.iconst 2, 1) := by decide +kernel
theorem dX7_stop_55 : decode cX7_stop 55 = .ok (.iload_n 1, 1) := by decide +kernel
theorem dX7_stop_56 : decode cX7_stop 56 = .ok (.imul, 1) := by decide +kernel
theorem dX7_stop_57 : decode cX7_stop 57 = .ok (.iadd, 1) := by decide +kernel
theorem dX7_stop_58 : decode cX7_stop 58 = .ok (.iload_n 2, 1) := by decide +kernel
theorem dX7_stop_59 : decode cX7_stop 59 = .ok (.iadd, 1) := by decide +kernel
theorem dX7_stop_60 : decode cX7_stop 60 = .ok (.iaload, 1) := by decide +kernel
theorem dX7_stop_61 : decode cX7_stop 61 = .ok (.ireturn, 1) := by decide +kernel
theorem dX7_stop_62 : decode cX7_stop 62 = .ok (.aload_n 0, 1) := by decide +kernel
theorem dX7_stop_63 : decode cX7_stop 63 = .ok (.getfield 7, 3) := by decide +kernel
theorem dX7_stop_66 : decode cX7_stop 66 = .ok (.iconst 5, 1) := by decide +kernel
theorem dX7_stop_67 : decode cX7_stop 67 = .ok (.iaload, 1) := by decide +kernel
theorem dX7_stop_68 : decode cX7_stop 68 = .ok (.iload_n 1, 1) := by decide +kernel
theorem dX7_stop_69 : decode cX7_stop 69 = .ok (.if_icmp .ne 7, 3) := by decide +kernel
theorem dX7_stop_72 : decode cX7_stop 72 = .ok (.iconst 1, 1) := by decide +kernel
theorem dX7_stop_73 : decode cX7_stop 73 = .ok (.goto 4, 3) := by decide +kernel
theorem dX7_stop_76 : decode cX7_stop 76 = .ok (.iconst 0, 1) := by decide +kernel
theorem dX7_stop_77 : decode cX7_stop 77 = .ok (.ireturn, 1) := by decide +kernel
theorem dX7_stop_78 : decode cX7_stop 78 = .ok (.bipush (-2), 2) := by decide +kernel
theorem dX7_stop_80 : decode cX7_stop 80 = .ok (.ireturn, 1) := by decide +kernel
theorem dX7_point_0 : decode cX7_point 0 = .ok (.iload_n 1, 1) := by decide +kernel
theorem dX7_point_1 : decode cX7_point 1 = .ok (.iconst 0, 1) := by decide +kernel
theorem dX7_point_2 : decode cX7_point 2 = .ok (.aload_n 0, 1) := by decide +kernel
theorem dX7_point_3 : decode cX7_point 3 = .ok (.getfield 7, 3) := by decide +kernel
theorem dX7_point_6 : decode cX7_point 6 = .ok (.bipush 10, 2) := by decide +kernel
theorem dX7_point_8 : decode cX7_point 8 = .ok (.iaload, 1) := by decide +kernel
theorem dX7_point_9 : decode cX7_point 9 = .ok (.iconst 1, 1) := by decide +kernel
theorem dX7_point_10 : decode cX7_point 10 = .ok (.isub, 1) := by decide +kernel
theorem dX7_point_11 : decode cX7_point 11 = .ok (.invokestatic 42, 3) := by decide +kernel
theorem dX7_point_14 : decode cX7_point 14 = .ok (.ifCond .ne 5, 3) := by decide +kernel
theorem dX7_point_17 : decode cX7_point 17 = .ok (.iconst (-1), 1) := by decide +kernel
theorem dX7_point_18 : decode cX7_point 18 = .ok (.ireturn, 1) := by decide +kernel
theorem dX7_point_19 : decode cX7_point 19 = .ok (.iload_n 2, 1) := by decide +kernel
theorem dX7_point_20 : decode cX7_point 20 = .ok (.iconst 0, 1) := by decide +kernel
theorem dX7_point_21 : decode cX7_point 21 = .ok (.iconst 1, 1) := by decide +kernel
theorem dX7_point_22 : decode cX7_point 22 = .ok (.invokestatic 42, 3) := by decide +kernel
theorem dX7_point_25 : decode cX7_point 25 = .ok (.ifCond .eq 19, 3) := by decide +kernel
theorem dX7_point_28 : decode cX7_point 28 = .ok (.aload_n 0, 1) := by decide +kernel
theorem dX7_point_29 : decode cX7_point 29 = .ok (.getfield 7, 3) := by decide +kernel
theorem dX7_point_32 : decode cX7_point 32 = .ok (.bipush 20, 2) := by decide +kernel
theorem dX7_point_34 : decode cX7_point 34 = .ok (.iconst 2, 1) := by decide +kernel
theorem dX7_point_35 : decode cX7_point 35 = .ok (.iload_n 1, 1) := by decide +kernel
theorem dX7_point_36 : decode cX7_point 36 = .ok (.imul, 1) := by decide +kernel
theorem dX7_point_37 : decode cX7_point 37 = .ok (.iadd, 1) := by decide +kernel
theorem dX7_point_38 : decode cX7_point 38 = .ok (.iload_n 2, 1) := by decide +kernel
theorem dX7_point_39 : decode cX7_point 39 = .ok (.iadd, 1) := by decide +kernel
theorem dX7_point_40 : decode cX7_point 40 = .ok (.iaload, 1) := by decide +kernel
theorem dX7_point_41 : decode cX7_point 41 = .ok (.goto 5, 3) := by decide +kernel
theorem dX7_point_44 : decode cX7_point 44 = .ok (.bipush (-2), 2) := by decide +kernel
theorem dX7_point_46 : decode cX7_point 46 = .ok (.ireturn, 1) := by decide +kernel
theorem dX7_total_0 : decode cX7_total 0 = .ok (.iload_n 1, 1) := by decide +kernel
theorem dX7_total_1 : decode cX7_total 1 = .ok (.bipush 13, 2) := by decide +kernel
theorem dX7_total_3 : decode cX7_total 3 = .ok (.bipush 20, 2) := by decide +kernel
theorem dX7_total_5 : decode cX7_total 5 = .ok (.invokestatic 42, 3) := by decide +kernel
theorem dX7_total_8 : decode cX7_total 8 = .ok (.ifCond .eq 16, 3) := by decide +kernel
theorem dX7_total_11 : decode cX7_total 11 = .ok (.aload_n 0, 1) := by decide +kernel
theorem dX7_total_12 : decode cX7_total 12 = .ok (.getfield 7, 3) := by decide +kernel
theorem dX7_total_15 : decode cX7_total 15 = .ok (.bipush 12, 2) := by decide +kernel
theorem dX7_total_17 : decode cX7_total 17 = .ok (.iload_n 1, 1) := by decide +kernel
theorem dX7_total_18 : decode cX7_total 18 = .ok (.iadd, 1) := by decide +kernel
theorem dX7_total_19 : decode cX7_total 19 = .ok (.bipush 13, 2) := by decide +kernel
theorem dX7_total_21 : decode cX7_total 21 = .ok (.isub, 1) := by decide +kernel
theorem dX7_total_22 : decode cX7_total 22 = .ok (.iaload, 1) := by decide +kernel
theorem dX7_total_23 : decode cX7_total 23 = .ok (.ireturn, 1) := by decide +kernel
theorem dX7_total_24 : decode cX7_total 24 = .ok (.iload_n 1, 1) := by decide +kernel
theorem dX7_total_25 : decode cX7_total 25 = .ok (.tableswitch 112 0 12 #[67, 67, 67, 67, 67, 74, 79, 79, 88, 93, 98, 103, 103], 67) := by decide +kernel
theorem dX7_total_92 : decode cX7_total 92 = .ok (.aload_n 0, 1) := by decide +kernel
theorem dX7_total_93 : decode cX7_total 93 = .ok (.getfield 7, 3) := by decide +kernel
theorem dX7_total_96 : decode cX7_total 96 = .ok (.iload_n 1, 1) := by decide +kernel
theorem dX7_total_97 : decode cX7_total 97 = .ok (.iaload, 1) := by decide +kernel
theorem dX7_total_98 : decode cX7_total 98 = .ok (.ireturn, 1) := by decide +kernel
theorem dX7_total_99 : decode cX7_total 99 = .ok (.aload_n 0, 1) := by decide +kernel
theorem dX7_total_100 : decode cX7_total 100 = .ok (.invokevirtual 107, 3) := by decide +kernel
theorem dX7_total_103 : decode cX7_total 103 = .ok (.ireturn, 1) := by decide +kernel
theorem dX7_total_104 : decode cX7_total 104 = .ok (.aload_n 0, 1) := by decide +kernel
theorem dX7_total_105 : decode cX7_total 105 = .ok (.getfield 7, 3) := by decide +kernel
theorem dX7_total_108 : decode cX7_total 108 = .ok (.iload_n 1, 1) := by decide +kernel
theorem dX7_total_109 : decode cX7_total 109 = .ok (.iconst 4, 1) := by decide +kernel
theorem dX7_total_110 : decode cX7_total 110 = .ok (.iadd, 1) := by decide +kernel
theorem dX7_total_111 : decode cX7_total 111 = .ok (.iaload, 1) := by decide +kernel
theorem dX7_total_112 : decode cX7_total 112 = .ok (.ireturn, 1) := by decide +kernel
theorem dX7_total_113 : decode cX7_total 113 = .ok (.aload_n 0, 1) := by decide +kernel
theorem dX7_total_114 : decode cX7_total 114 = .ok (.invokevirtual 153, 3) := by decide +kernel
theorem dX7_total_117 : decode cX7_total 117 = .ok (.ireturn, 1) := by decide +kernel
theorem dX7_total_118 : decode cX7_total 118 = .ok (.aload_n 0, 1) := by decide +kernel
theorem dX7_total_119 : decode cX7_total 119 = .ok (.getfield 31, 3) := by decide +kernel
theorem dX7_total_122 : decode cX7_total 122 = .ok (.ireturn, 1) := by decide +kernel
theorem dX7_total_123 : decode cX7_total 123 = .ok (.aload_n 0, 1) := by decide +kernel
theorem dX7_total_124 : decode cX7_total 124 = .ok (.getfield 168, 3) := by decide +kernel
theorem dX7_total_127 : decode cX7_total 127 = .ok (.ireturn, 1) := by decide +kernel
theorem dX7_total_128 : decode cX7_total 128 = .ok (.aload_n 0, 1) := by decide +kernel
theorem dX7_total_129 : decode cX7_total 129 = .ok (.getfield 7, 3) := by decide +kernel
theorem dX7_total_132 : decode cX7_total 132 = .ok (.iload_n 1, 1) := by decide +kernel
theorem dX7_total_133 : decode cX7_total 133 = .ok (.iconst 3, 1) := by decide +kernel
theorem dX7_total_134 : decode cX7_total 134 = .ok (.isub, 1) := by decide +kernel
theorem dX7_total_135 : decode cX7_total 135 = .ok (.iaload, 1) := by decide +kernel
theorem dX7_total_136 : decode cX7_total 136 = .ok (.ireturn, 1) := by decide +kernel
theorem dX7_total_137 : decode cX7_total 137 = .ok (.bipush (-2), 2) := by decide +kernel
theorem dX7_total_139 : decode cX7_total 139 = .ok (.ireturn, 1) := by decide +kernel
theorem dX7_modeIn_0 : decode cX7_modeIn 0 = .ok (.iload_n 1, 1) := by decide +kernel
theorem dX7_modeIn_1 : decode cX7_modeIn 1 = .ok (.iconst 0, 1) := by decide +kernel
theorem dX7_modeIn_2 : decode cX7_modeIn 2 = .ok (.sipush 500, 3) := by decide +kernel
theorem dX7_modeIn_5 : decode cX7_modeIn 5 = .ok (.invokestatic 42, 3) := by decide +kernel
theorem dX7_modeIn_8 : decode cX7_modeIn 8 = .ok (.ifCond .ne 6, 3) := by decide +kernel
theorem dX7_modeIn_11 : decode cX7_modeIn 11 = .ok (.bipush (-2), 2) := by decide +kernel
theorem dX7_modeIn_13 : decode cX7_modeIn 13 = .ok (.ireturn, 1) := by decide +kernel
theorem dX7_modeIn_14 : decode cX7_modeIn 14 = .ok (.aload_n 0, 1) := by decide +kernel
theorem dX7_modeIn_15 : decode cX7_modeIn 15 = .ok (.bipush 7, 2) := by decide +kernel
theorem dX7_modeIn_17 : decode cX7_modeIn 17 = .ok (.invokevirtual 35, 3) := by decide +kernel
theorem dX7_modeIn_20 : decode cX7_modeIn 20 = .ok (.aload_n 0, 1) := by decide +kernel
theorem dX7_modeIn_21 : decode cX7_modeIn 21 = .ok (.iload_n 1, 1) := by decide +kernel
theorem dX7_modeIn_22 : decode cX7_modeIn 22 = .ok (.invokevirtual 165, 3) := by decide +kernel
theorem dX7_modeIn_25 : decode cX7_modeIn 25 = .ok (.istore_n 2, 1) := by decide +kernel
theorem dX7_modeIn_26 : decode cX7_modeIn 26 = .ok (.aload_n 0, 1) := by decide +kernel
theorem dX7_modeIn_27 : decode cX7_modeIn 27 = .ok (.bipush 7, 2) := by decide +kernel
theorem dX7_modeIn_29 : decode cX7_modeIn 29 = .ok (.invokevirtual 39, 3) := by decide +kernel
theorem dX7_modeIn_32 : decode cX7_modeIn 32 = .ok (.iload_n 2, 1) := by decide +kernel
theorem dX7_modeIn_33 : decode cX7_modeIn 33 = .ok (.ireturn, 1) := by decide +kernel
theorem dX7_secondsTo_0 : decode cX7_secondsTo 0 = .ok (.iload_n 1, 1) := by decide +kernel
theorem dX7_secondsTo_1 : decode cX7_secondsTo 1 = .ok (.iconst 0, 1) := by decide +kernel
theorem dX7_secondsTo_2 : decode cX7_secondsTo 2 = .ok (.iconst 5, 1) := by decide +kernel
theorem dX7_secondsTo_3 : decode cX7_secondsTo 3 = .ok (.invokestatic 42, 3) := by decide +kernel
theorem dX7_secondsTo_6 : decode cX7_secondsTo 6 = .ok (.ifCond .ne 6, 3) := by decide +kernel
theorem dX7_secondsTo_9 : decode cX7_secondsTo 9 = .ok (.bipush (-2), 2) := by decide +kernel
theorem dX7_secondsTo_11 : decode cX7_secondsTo 11 = .ok (.ireturn, 1) := by decide +kernel
theorem dX7_secondsTo_12 : decode cX7_secondsTo 12 = .ok (.aload_n 0, 1) := by decide +kernel
theorem dX7_secondsTo_13 : decode cX7_secondsTo 13 = .ok (.bipush 7, 2) := by decide +kernel
theorem dX7_secondsTo_15 : decode cX7_secondsTo 15 = .ok (.invokevirtual 35, 3) := by decide +kernel
theorem dX7_secondsTo_18 : decode cX7_secondsTo 18 = .ok (.iconst 0, 1) := by decide +kernel
theorem dX7_secondsTo_19 : decode cX7_secondsTo 19 = .ok (.istore_n 2, 1) := by decide +kernel
theorem dX7_secondsTo_20 : decode cX7_secondsTo 20 = .ok (.aload_n 0, 1) := by decide +kernel
theorem dX7_secondsTo_21 : decode cX7_secondsTo 21 = .ok (.getfield 7, 3) := by decide +kernel
theorem dX7_secondsTo_24 : decode cX7_secondsTo 24 = .ok (.iconst 0, 1) := by decide +kernel
theorem dX7_secondsTo_25 : decode cX7_secondsTo 25 = .ok (.iaload, 1) := by decide +kernel
theorem dX7_secondsTo_26 : decode cX7_secondsTo 26 = .ok (.iload_n 1, 1) := by decide +kernel
theorem dX7_secondsTo_27 : decode cX7_secondsTo 27 = .ok (.if_icmp .eq 20, 3) := by decide +kernel
theorem dX7_secondsTo_30 : decode cX7_secondsTo 30 = .ok (.iload_n 2, 1) := by decide +kernel
theorem dX7_secondsTo_31 : decode cX7_secondsTo 31 = .ok (.sipush 500, 3) := by decide +kernel
theorem dX7_secondsTo_34 : decode cX7_secondsTo 34 = .ok (.if_icmp .gt 13, 3) := by decide +kernel
theorem dX7_secondsTo_37 : decode cX7_secondsTo 37 = .ok (.aload_n 0, 1) := by decide +kernel
theorem dX7_secondsTo_38 : decode cX7_secondsTo 38 = .ok (.invokevirtual 162, 3) := by decide +kernel
theorem dX7_secondsTo_41 : decode cX7_secondsTo 41 = .ok (.iinc 2 1, 3) := by decide +kernel
theorem dX7_secondsTo_44 : decode cX7_secondsTo 44 = .ok (.goto (-24), 3) := by decide +kernel
theorem dX7_secondsTo_47 : decode cX7_secondsTo 47 = .ok (.aload_n 0, 1) := by decide +kernel
theorem dX7_secondsTo_48 : decode cX7_secondsTo 48 = .ok (.bipush 7, 2) := by decide +kernel
theorem dX7_secondsTo_50 : decode cX7_secondsTo 50 = .ok (.invokevirtual 39, 3) := by decide +kernel
theorem dX7_secondsTo_53 : decode cX7_secondsTo 53 = .ok (.iload_n 2, 1) := by decide +kernel
theorem dX7_secondsTo_54 : decode cX7_secondsTo 54 = .ok (.sipush 500, 3) := by decide +kernel
theorem dX7_secondsTo_57 : decode cX7_secondsTo 57 = .ok (.if_icmp .le 8, 3) := by decide +kernel
theorem dX7_secondsTo_60 : decode cX7_secondsTo 60 = .ok (.bipush (-5), 2) := by decide +kernel
theorem dX7_secondsTo_62 : decode cX7_secondsTo 62 = .ok (.goto 4, 3) := by decide +kernel
theorem dX7_secondsTo_65 : decode cX7_secondsTo 65 = .ok (.iload_n 2, 1) := by decide +kernel
theorem dX7_secondsTo_66 : decode cX7_secondsTo 66 = .ok (.ireturn, 1) := by decide +kernel
theorem dX7_closest_0 : decode cX7_closest 0 = .ok (.iload_n 1, 1) := by decide +kernel
theorem dX7_closest_1 : decode cX7_closest 1 = .ok (.iconst 0, 1) := by decide +kernel
theorem dX7_closest_2 : decode cX7_closest 2 = .ok (.sipush 500, 3) := by decide +kernel
theorem dX7_closest_5 : decode cX7_closest 5 = .ok (.invokestatic 42, 3) := by decide +kernel
theorem dX7_closest_8 : decode cX7_closest 8 = .ok (.ifCond .ne 6, 3) := by decide +kernel
theorem dX7_closest_11 : decode cX7_closest 11 = .ok (.bipush (-2), 2) := by decide +kernel
theorem dX7_closest_13 : decode cX7_closest 13 = .ok (.ireturn, 1) := by decide +kernel
theorem dX7_closest_14 : decode cX7_closest 14 = .ok (.aload_n 0, 1) := by decide +kernel
theorem dX7_closest_15 : decode cX7_closest 15 = .ok (.getfield 13, 3) := by decide +kernel
theorem dX7_closest_18 : decode cX7_closest 18 = .ok (.iconst 0, 1) := by decide +kernel
theorem dX7_closest_19 : decode cX7_closest 19 = .ok (.faload, 1) := by decide +kernel
theorem dX7_closest_20 : decode cX7_closest 20 = .ok (.fstore_n 2, 1) := by decide +kernel
theorem dX7_closest_21 : decode cX7_closest 21 = .ok (.aload_n 0, 1) := by decide +kernel
theorem dX7_closest_22 : decode cX7_closest 22 = .ok (.getfield 13, 3) := by decide +kernel
theorem dX7_closest_25 : decode cX7_closest 25 = .ok (.iconst 1, 1) := by decide +kernel
theorem dX7_closest_26 : decode cX7_closest 26 = .ok (.faload, 1) := by decide +kernel
theorem dX7_closest_27 : decode cX7_closest 27 = .ok (.fstore_n 3, 1) := by decide +kernel
theorem dX7_closest_28 : decode cX7_closest 28 = .ok (.fload_n 2, 1) := by decide +kernel
theorem dX7_closest_29 : decode cX7_closest 29 = .ok (.fload_n 2, 1) := by decide +kernel
theorem dX7_closest_30 : decode cX7_closest 30 = .ok (.fmul, 1) := by decide +kernel
theorem dX7_closest_31 : decode cX7_closest 31 = .ok (.fload_n 3, 1) := by decide +kernel
theorem dX7_closest_32 : decode cX7_closest 32 = .ok (.fload_n 3, 1) := by decide +kernel
theorem dX7_closest_33 : decode cX7_closest 33 = .ok (.fmul, 1) := by decide +kernel
theorem dX7_closest_34 : decode cX7_closest 34 = .ok (.fadd, 1) := by decide +kernel
theorem dX7_closest_35 : decode cX7_closest 35 = .ok (.fstore 4, 2) := by decide +kernel
theorem dX7_closest_37 : decode cX7_closest 37 = .ok (.iconst 0, 1) := by decide +kernel
theorem dX7_closest_38 : decode cX7_closest 38 = .ok (.istore 5, 2) := by decide +kernel
theorem dX7_closest_40 : decode cX7_closest 40 = .ok (.iload 5, 2) := by decide +kernel
theorem dX7_closest_42 : decode cX7_closest 42 = .ok (.iload_n 1, 1) := by decide +kernel
theorem dX7_closest_43 : decode cX7_closest 43 = .ok (.if_icmp .ge 53, 3) := by decide +kernel
theorem dX7_closest_46 : decode cX7_closest 46 = .ok (.fload_n 2, 1) := by decide +kernel
theorem dX7_closest_47 : decode cX7_closest 47 = .ok (.aload_n 0, 1) := by decide +kernel
theorem dX7_closest_48 : decode cX7_closest 48 = .ok (.getfield 13, 3) := by decide +kernel
theorem dX7_closest_51 : decode cX7_closest 51 = .ok (.iconst 2, 1) := by decide +kernel
theorem dX7_closest_52 : decode cX7_closest 52 = .ok (.faload, 1) := by decide +kernel
theorem dX7_closest_53 : decode cX7_closest 53 = .ok (.fadd, 1) := by decide +kernel
theorem dX7_closest_54 : decode cX7_closest 54 = .ok (.fstore_n 2, 1) := by decide +kernel
theorem dX7_closest_55 : decode cX7_closest 55 = .ok (.fload_n 3, 1) := by decide +kernel
theorem dX7_closest_56 : decode cX7_closest 56 = .ok (.aload_n 0, 1) := by decide +kernel
theorem dX7_closest_57 : decode cX7_closest 57 = .ok (.getfield 13, 3) := by decide +kernel
theorem dX7_closest_60 : decode cX7_closest 60 = .ok (.iconst 3, 1) := by decide +kernel
theorem dX7_closest_61 : decode cX7_closest 61 = .ok (.faload, 1) := by decide +kernel
theorem dX7_closest_62 : decode cX7_closest 62 = .ok (.fadd, 1) := by decide +kernel
theorem dX7_closest_63 : decode cX7_closest 63 = .ok (.fstore_n 3, 1) := by decide +kernel
theorem dX7_closest_64 : decode cX7_closest 64 = .ok (.fload_n 2, 1) := by decide +kernel
theorem dX7_closest_65 : decode cX7_closest 65 = .ok (.fload_n 2, 1) := by decide +kernel
theorem dX7_closest_66 : decode cX7_closest 66 = .ok (.fmul, 1) := by decide +kernel
theorem dX7_closest_67 : decode cX7_closest 67 = .ok (.fload_n 3, 1) := by decide +kernel
theorem dX7_closest_68 : decode cX7_closest 68 = .ok (.fload_n 3, 1) := by decide +kernel
theorem dX7_closest_69 : decode cX7_closest 69 = .ok (.fmul, 1) := by decide +kernel
theorem dX7_closest_70 : decode cX7_closest 70 = .ok (.fadd, 1) := by decide +kernel
theorem dX7_closest_71 : decode cX7_closest 71 = .ok (.fstore 6, 2) := by decide +kernel
theorem dX7_closest_73 : decode cX7_closest 73 = .ok (.fload 6, 2) := by decide +kernel
theorem dX7_closest_75 : decode cX7_closest 75 = .ok (.fload 4, 2) := by decide +kernel
theorem dX7_closest_77 : decode cX7_closest 77 = .ok (.fcmp .g, 1) := by decide +kernel
theorem dX7_closest_78 : decode cX7_closest 78 = .ok (.ifCond .ge 8, 3) := by decide +kernel
theorem dX7_closest_81 : decode cX7_closest 81 = .ok (.fload 6, 2) := by decide +kernel
theorem dX7_closest_83 : decode cX7_closest 83 = .ok (.goto 5, 3) := by decide +kernel
theorem dX7_closest_86 : decode cX7_closest 86 = .ok (.fload 4, 2) := by decide +kernel
theorem dX7_closest_88 : decode cX7_closest 88 = .ok (.fstore 4, 2) := by decide +kernel
theorem dX7_closest_90 : decode cX7_closest 90 = .ok (.iinc 5 1, 3) := by decide +kernel
theorem dX7_closest_93 : decode cX7_closest 93 = .ok (.goto (-53), 3) := by decide +kernel
theorem dX7_closest_96 : decode cX7_closest 96 = .ok (.fload 4, 2) := by decide +kernel
theorem dX7_closest_98 : decode cX7_closest 98 = .ok (.invokestatic 201, 3) := by decide +kernel
theorem dX7_closest_101 : decode cX7_closest 101 = .ok (.ireturn, 1) := by decide +kernel
theorem dX7_safeSpeed_0 : decode cX7_safeSpeed 0 = .ok (.sipush 5000, 3) := by decide +kernel
theorem dX7_safeSpeed_3 : decode cX7_safeSpeed 3 = .ok (.istore_n 1, 1) := by decide +kernel
theorem dX7_safeSpeed_4 : decode cX7_safeSpeed 4 = .ok (.iload_n 1, 1) := by decide +kernel
theorem dX7_safeSpeed_5 : decode cX7_safeSpeed 5 = .ok (.ifCond .lt 34, 3) := by decide +kernel
theorem dX7_safeSpeed_8 : decode cX7_safeSpeed 8 = .ok (.fconst 0, 1) := by decide +kernel
theorem dX7_safeSpeed_9 : decode cX7_safeSpeed 9 = .ok (.iload_n 1, 1) := by decide +kernel
theorem dX7_safeSpeed_10 : decode cX7_safeSpeed 10 = .ok (.invokestatic 55, 3) := by decide +kernel
theorem dX7_safeSpeed_13 : decode cX7_safeSpeed 13 = .ok (.fsub, 1) := by decide +kernel
theorem dX7_safeSpeed_14 : decode cX7_safeSpeed 14 = .ok (.fstore_n 2, 1) := by decide +kernel
theorem dX7_safeSpeed_15 : decode cX7_safeSpeed 15 = .ok (.aload_n 0, 1) := by decide +kernel
theorem dX7_safeSpeed_16 : decode cX7_safeSpeed 16 = .ok (.fload_n 2, 1) := by decide +kernel
theorem dX7_safeSpeed_17 : decode cX7_safeSpeed 17 = .ok (.invokevirtual 96, 3) := by decide +kernel
theorem dX7_safeSpeed_20 : decode cX7_safeSpeed 20 = .ok (.ifCond .ne 13, 3) := by decide +kernel
theorem dX7_safeSpeed_23 : decode cX7_safeSpeed 23 = .ok (.aload_n 0, 1) := by decide +kernel
theorem dX7_safeSpeed_24 : decode cX7_safeSpeed 24 = .ok (.fload_n 2, 1) := by decide +kernel
theorem dX7_safeSpeed_25 : decode cX7_safeSpeed 25 = .ok (.invokevirtual 100, 3) := by decide +kernel
theorem dX7_safeSpeed_28 : decode cX7_safeSpeed 28 = .ok (.ifCond .ne 5, 3) := by decide +kernel
theorem dX7_safeSpeed_31 : decode cX7_safeSpeed 31 = .ok (.iload_n 1, 1) := by decide +kernel
theorem dX7_safeSpeed_32 : decode cX7_safeSpeed 32 = .ok (.ireturn, 1) := by decide +kernel
theorem dX7_safeSpeed_33 : decode cX7_safeSpeed 33 = .ok (.iinc 1 (-1), 3) := by decide +kernel
theorem dX7_safeSpeed_36 : decode cX7_safeSpeed 36 = .ok (.goto (-32), 3) := by decide +kernel
theorem dX7_safeSpeed_39 : decode cX7_safeSpeed 39 = .ok (.bipush (-5), 2) := by decide +kernel
theorem dX7_safeSpeed_41 : decode cX7_safeSpeed 41 = .ok (.ireturn, 1) := by decide +kernel
end
section
/-! words: every method's list is its own code and all that the law links -/
abbrev ws_ (y : MethodName) (c : ByteArray) (n : Nat) (r : Option FieldType) : List Cond := Cond.code y c n r :: wsL_law
set_option maxRecDepth 100000 in
theorem go_all : wsL_law.all goodWord = true := by decide +kernel
theorem go_in {ws : List Cond} (h : ∀ w ∈ ws, w ∈ wsL_law) : GoodIn wsL_law ws := fun w hw => ⟨h w hw, good_of_word (List.all_eq_true.mp go_all w (h w hw))⟩
theorem go_ws {y : MethodName} {c : ByteArray} {n : Nat} {r : Option FieldType} (g5 : Cond.code y c n r ∈ wsL_law) : ∀ w ∈ ws_ y c n r, w ∈ wsL_law := by
  intro w hw
  rcases List.mem_cons.mp hw with rfl | hw
  · exact g5
  · exact hw
theorem go_V {own C : String} {idx : Nat} {y : MethodName} {c : ByteArray} {n : Nat} {r : Option FieldType} (g1 : Cond.methodLink own idx y ∈ wsL_law) (g2 : Cond.instanceMethod y ∈ wsL_law) (g3 : Cond.selects C y y ∈ wsL_law) (g4 : Cond.initialized C ∈ wsL_law) (g5 : Cond.code y c n r ∈ wsL_law) : GoodIn wsL_law (wsV own idx C y (ws_ y c n r)) := go_in (by
  intro w hw
  rcases List.mem_append.mp hw with hw | hw
  · simp only [List.mem_cons, List.not_mem_nil, or_false] at hw
    rcases hw with rfl | rfl | rfl | rfl <;> assumption
  · exact go_ws g5 w hw)
theorem go_S {own : String} {idx : Nat} {y : MethodName} {c : ByteArray} {n : Nat} {r : Option FieldType} (g1 : Cond.methodLink own idx y ∈ wsL_law) (g2 : Cond.static y ∈ wsL_law) (g4 : Cond.initialized y.cls ∈ wsL_law) (g5 : Cond.code y c n r ∈ wsL_law) : GoodIn wsL_law (va_wsS own idx y (ws_ y c n r)) := go_in (by
  intro w hw
  rcases List.mem_append.mp hw with hw | hw
  · simp only [List.mem_cons, List.not_mem_nil, or_false] at hw
    rcases hw with rfl | rfl | rfl <;> assumption
  · exact go_ws g5 w hw)
/-! what holds of the launch's tables, in every method -/
def EV (G : va_G) (cy : Nat → ClassId) (U : State) : Prop := va_K G vwCl [(cy 0, .int), (cy 1, .float), (cy 2, .byte), (cy 3, .boolean), (cy 4, .object RX4)] U ∧ va_Nw (.methodLinkNest RX3 35 yX6_size RX6) U ∧ va_Nw (.methodLinkNest RX4 172 yX6_size RX6) U ∧ va_Nw (.methodLinkNest RX5 32 yX6_size RX6) U ∧ va_Nw (.methodLinkNest RX4 49 yX3_init RX6) U
theorem EV.warm {G : va_G} {cy : Nat → ClassId} {s U : State} (h : EV G cy s) (hW : s.WarmedH U.vm) : EV G cy U := ⟨va_K.moved hW.alike h.1, va_Nw.warmM hW h.2.1, va_Nw.warmM hW h.2.2.1, va_Nw.warmM hW h.2.2.2.1, va_Nw.warmM hW h.2.2.2.2⟩
theorem EV.calling {G : va_G} {cy : Nat → ClassId} {U : State} {g : JFrame} {mk : MethodId} {a : Array Value} (h : EV G cy U) : EV G cy (U.calling g mk a) := ⟨va_K.moved (u := U) (U := U.calling g mk a) (Vm.Alike.refl U.vm) h.1, va_Nw.same rfl rfl h.2.1, va_Nw.same rfl rfl h.2.2.1, va_Nw.same rfl rfl h.2.2.2.1, va_Nw.same rfl rfl h.2.2.2.2⟩
/-- a method's start: its arguments, its world -/
def CP (G : va_G) (cy : Nat → ClassId) (av : List Value) (w0 : va_W) : Array Value → State → Prop := va_Pc av (fun U => va_P G vwCl w0 U.heap ∧ EV G cy U ∧ va_D (fun _ => True) w0)
theorem CP.blind {G : va_G} {cy : Nat → ClassId} {av : List Value} {w0 : va_W} : FrameBlind (CP G cy av w0) := fun _ _ _ _ q => ⟨q.1, q.2.1, EV.calling q.2.2.1, q.2.2.2⟩
/-- the cells of a world -/
def A1 (w : va_W) : Nat → Prop := fun q => ∃ (k : Nat) (e : va_E), w[k]? = some (q, e)
theorem va_D.own {A : Nat → Prop} {w : va_W} (h : va_D A w) : va_D (A1 w) w := ⟨h.1, fun k q hk => ⟨k, q.2, hk⟩⟩
theorem va_D.any {A : Nat → Prop} {w : va_W} (h : va_D A w) : va_D (fun _ => True) w := ⟨h.1, fun _ _ _ => trivial⟩
theorem va_D.re {A : Nat → Prop} {w w1 : va_W} (h : va_D A w) (ha : w1.map Prod.fst = w.map Prod.fst) : va_D A w1 := by
  have key : ∀ (k : Nat) (q : Nat × va_E), w1[k]? = some q → ∃ q0, w[k]? = some q0 ∧ q0.1 = q.1 := by
    intro k q hk
    have h1 : (w1.map Prod.fst)[k]? = some q.1 := by rw [List.getElem?_map, hk]; rfl
    rw [ha, List.getElem?_map] at h1
    cases hq : w[k]? with
    | none => rw [hq] at h1; cases h1
    | some q0 => rw [hq] at h1; exact ⟨q0, rfl, Option.some.inj h1⟩
  refine ⟨fun i j x y hi hj hxy => ?_, fun k q hk => ?_⟩
  · obtain ⟨x0, h1, h2⟩ := key i x hi
    obtain ⟨y0, h3, h4⟩ := key j y hj
    exact h.1 i j x0 y0 h1 h3 (h2.trans (hxy.trans h4.symm))
  · obtain ⟨q0, h1, h2⟩ := key k q hk
    rw [← h2]
    exact h.2 k q0 h1
theorem va_P.mid {G : va_G} {L w0 R : va_W} {H : Heap} (h : va_P G vwCl (L ++ (w0 ++ R)) H) : va_P G vwCl w0 H := by
  intro k q hk
  have hl := (List.getElem?_eq_some_iff.mp hk).1
  refine h (L.length + k) q ?_
  rw [List.getElem?_append_right (by omega), Nat.add_sub_cancel_left, List.getElem?_append_left hl]
  exact hk
theorem va_D.mid {A : Nat → Prop} {L w0 R : va_W} (h : va_D A (L ++ (w0 ++ R))) : va_D A w0 := by
  have key : ∀ (k : Nat) (q : Nat × va_E), w0[k]? = some q → (L ++ (w0 ++ R))[L.length + k]? = some q := by
    intro k q hk
    have hl := (List.getElem?_eq_some_iff.mp hk).1
    rw [List.getElem?_append_right (by omega), Nat.add_sub_cancel_left, List.getElem?_append_left hl]
    exact hk
  refine ⟨fun i j x y hi hj hxy => ?_, fun k q hk => h.2 _ q (key k q hk)⟩
  have := h.1 _ _ x y (key i x hi) (key j y hj) hxy
  omega
theorem fx_free {A : Nat → Prop} {w0 : va_W} (h : va_D A w0) : ∀ q, A1 w0 q → A q := fun q hq => by
  obtain ⟨k, e, hk⟩ := hq
  exact h.2 k _ hk
/-- behind a call on the cells in the middle: the others are as they were -/
theorem fx_join {A0 : Nat → Prop} {G : va_G} {L w0 R w1 : va_W} {H H1 : Heap} (hP : va_P G vwCl (L ++ (w0 ++ R)) H) (hD : va_D A0 (L ++ (w0 ++ R))) (hk : ∀ q : Nat, q < H.size → ¬ A1 w0 q → H1[q]? = H[q]?) (hP1 : va_P G vwCl w1 H1) (ha : w1.map Prod.fst = w0.map Prod.fst) : va_P G vwCl (L ++ (w1 ++ R)) H1 ∧ va_D A0 (L ++ (w1 ++ R)) := by
  have hlen : w1.length = w0.length := by have := congrArg List.length ha; simpa using this
  refine ⟨fun k q hq => ?_, hD.re (by simp only [List.map_append, ha])⟩
  have apart : ∀ (i : Nat), (L ++ (w0 ++ R))[i]? = some q → (i < L.length ∨ L.length + w0.length ≤ i) → va_at G vwCl q H1 := by
    intro i hi hz
    refine (hP i q hi).kept (hk q.1 (hP i q hi).lt ?_)
    rintro ⟨j, e, hj⟩
    have hl := (List.getElem?_eq_some_iff.mp hj).1
    have h2 : (L ++ (w0 ++ R))[L.length + j]? = some (q.1, e) := by
      rw [List.getElem?_append_right (by omega), Nat.add_sub_cancel_left, List.getElem?_append_left hl]
      exact hj
    have := hD.1 _ _ _ _ hi h2 rfl
    omega
  rcases Nat.lt_or_ge k L.length with h1 | h1
  · refine apart k ?_ (Or.inl h1)
    rw [List.getElem?_append_left h1] at hq ⊢
    exact hq
  · rw [List.getElem?_append_right h1] at hq
    rcases Nat.lt_or_ge (k - L.length) w1.length with h2 | h2
    · rw [List.getElem?_append_left h2] at hq
      exact hP1 _ q hq
    · rw [List.getElem?_append_right h2] at hq
      refine apart k ?_ (Or.inr (by omega))
      rw [List.getElem?_append_right h1, List.getElem?_append_right (by omega), ← hlen]
      exact hq
abbrev RI {σ : Type} (G : va_G) (K : Int32 → σ → Prop) (Wd : σ → va_W) (A : Nat → Prop) : Array Value → State → Outcome → State → Prop := va_Qi K (fun u t => va_P G vwCl (Wd u) t.heap) A
abbrev RF {σ : Type} (G : va_G) (K : UInt32 → σ → Prop) (Wd : σ → va_W) (A : Nat → Prop) : Array Value → State → Outcome → State → Prop := va_Qf K (fun u t => va_P G vwCl (Wd u) t.heap) A
abbrev RV {σ : Type} (G : va_G) (K : σ → Prop) (Wd : σ → va_W) (A : Nat → Prop) : Array Value → State → Outcome → State → Prop := va_Qv K (fun u t => va_P G vwCl (Wd u) t.heap) A
/-- a loop: so many turns at most -/
def lp {α : Type} (F : (α → Prop) → α → Prop) : Nat → α → Prop
  | 0, _ => False
  | k + 1, a => F (lp F k) a
theorem lp_of {α : Type} {F : (α → Prop) → α → Prop} (I : α → Prop) (μ : α → Nat) (hs : ∀ (B : α → Prop) (a : α), I a → (∀ b, I b → μ b < μ a → B b) → F B a) : ∀ (k : Nat) (a : α), I a → μ a < k → lp F k a := by
  intro k
  induction k with
  | zero => intro a _ h; omega
  | succ k ih => intro a hi hk; exact hs _ a hi (fun b hb hm => ih b hb (by omega))
theorem lp_ex {α : Type} {F : (α → Prop) → α → Prop} (I : α → Prop) (μ : α → Nat) (a : α) (h : I a) (hs : ∀ (B : α → Prop) (a : α), I a → (∀ b, I b → μ b < μ a → B b) → F B a) : ∃ k, lp F k a := ⟨_, lp_of I μ hs (μ a + 1) a h (by omega)⟩
/-- the head of every method -/
theorem hd_go {l : Launch} {G : va_G} {cy : Nat → ClassId} {y : MethodName} {cc : ByteArray} {mL : Nat} {ret : Option FieldType} {rm : Room} {av : List Value} {w0 : va_W} {Qf : (Nat → Prop) → Array Value → State → Outcome → State → Prop}
    (hy : plainName y.cls = true) (hn : (lg_sl av).length ≤ mL)
    (body : ∀ (p : Program) (e : Env) (s : State) (m : MethodId) (below : List Frame) (meth : Method) (c : Code) (ls : Array Slot) (A : Nat → Prop), p.tables.exec = Jvm.exec → c.code = cc → meth.sig.returnType = ret → meth.locks = false → CallFix p m c cc mL s av.toArray wsL_law y.cls → EV G cy s → va_P G vwCl w0 s.heap → va_D A w0 → va_S A s.heap s.heap [] → lv_has ls mL (lv_args 0 av) →
      W p l e (headSpec (ws_ y cc mL ret) rm).room s m av.toArray below meth c s.heap [] 0 0 (MQ below (Qf A) av.toArray s 0 0 A) (F0 m 0 ls [])) :
    Met l y (ws_ y cc mL ret) rm (CP G cy av w0) (Qf (A1 w0)) 0 0 (A1 w0) := by
  refine Met.ofW (cc := cc) (maxL := mL) (ret := ret) hy rfl ?_
  intro p e s m args below meth c s₁ B hml hv
  obtain ⟨rfl, hP, hE, hD0⟩ := hv
  have hts0 := atoms_spec (ws := ws_ y cc mL ret) B.pre
  have hts : ∀ w ∈ wsL_law, w.before av.toArray s = true := fun w hw => hts0 w (List.mem_cons_of_mem _ hw)
  have hown : s.vm.findClass y.cls = some m.cls := findClass_of_methodNamed B.named
  have hl := lv_entry av (n := mL) hn
  rw [lg_entry_eq]
  exact body p e s m below meth c _ (A1 w0) B.exec B.bytes B.returns B.notSynchronized ⟨B.exec, B.bytes, hml, hown, hts⟩ hE hP hD0.own va_S.rf hl
section KC
variable {p : Program} {l : Launch} {e : Env} {R : Room} {s : State} {m : MethodId} {args : Array Value} {below : List Frame} {meth : Method} {c : Code} {H : Heap} {locs : List Loc} {cells slots : Nat} {Q : State → Prop}
variable {G : va_G} {cy : Nat → ClassId} {own C : String} {T : u_T} {N ci index mL nL n : Nat} {y : MethodName} {bc cc : ByteArray} {ret : Option FieldType} {rm : Room} {As fs rest st0 : List Value} {b pc : Nat} {ls : Array Slot} {L w0 R' ws : va_W} {H0 : Heap} {A0 A : Nat → Prop} {a : Nat}
theorem kg (S : CallFix p m c cc nL s args wsL_law own) (hE : EV G cy s) (hP : va_P G vwCl ws H) (q0 : Nat) (he : ws[q0]? = some (a, .inr (ci, fs))) (hc : vwCl[ci]? = some (C, T, N)) (k : Nat) (hk : k < N) {ref : String} (hlink : Cond.fieldLink own index ref (T k).2.1 (T k).2.2.1 ∈ wsL_law) (hsame : (T k).1 = ref) {v : Value} (hv : fs[k]? = some v) (hin : ∀ w ∈ u_ws C T N, w ∈ wsL_law) (hdg : decode cc pc = .ok (.getfield index, 3))
    (kk : W p l e R s m args below meth c H locs cells slots Q (F0 m (pc + 3) ls (v :: rest))) : W p l e R s m args below meth c H locs cells slots Q (F0 m pc ls (.ref a :: rest)) :=
  va_get S.1 S.2.1 S.2.2.2.2 hin S.2.2.2.1 hE.1 hP q0 he hc k hk (S.2.2.2.2 _ hlink) (fun _ h9 => by rw [hsame] at h9; exact h9) hv hdg kk
theorem kp (S : CallFix p m c cc nL s args wsL_law own) (hE : EV G cy s) (hP : va_P G vwCl ws H) (hD : va_D A ws) (hS0 : va_S A H0 H locs) (q0 : Nat) (he : ws[q0]? = some (a, .inr (ci, fs))) (hc : vwCl[ci]? = some (C, T, N)) (k : Nat) (hk : k < N) {ref : String} (hlink : Cond.fieldLink own index ref (T k).2.1 (T k).2.2.1 ∈ wsL_law) (hsame : (T k).1 = ref) (hfin : (T k).2.2.2 = false) {ty0 : Nat → FieldType} (hty : ∀ k, k < N → parseFieldDescriptor (T k).2.2.1 = some (ty0 k)) (hnm : ∀ a, a < N → ∀ b, b < N → a ≠ b → (T a).2.1 ≠ (T b).2.1) (hin : ∀ w ∈ u_ws C T N, w ∈ wsL_law) {v : Value} (hn : narrow (ty0 k) v = v) (hfit : fits (ty0 k) v = true) (hl : k < fs.length) (hdg : decode cc pc = .ok (.putfield index, 3))
    (kk : ∀ (H1 : Heap) (locs1 : List Loc), va_P G vwCl (ws.set q0 (a, .inr (ci, fs.set k v))) H1 → va_D A (ws.set q0 (a, .inr (ci, fs.set k v))) → va_S A H0 H1 locs1 → W p l e R s m args below meth c H1 locs1 cells slots Q (F0 m (pc + 3) ls rest)) : W p l e R s m args below meth c H locs cells slots Q (F0 m pc ls (v :: .ref a :: rest)) :=
  va_put S.1 S.2.1 S.2.2.2.2 hin ty0 hty hnm S.2.2.2.1 hE.1 hP hD hS0 q0 he hc k hk (S.2.2.2.2 _ hlink) (fun _ h9 => by rw [hsame] at h9; exact h9) hfin (hty k hk) hn hfit hl hdg kk
theorem kc_Vi {σ : Type} {K : Int32 → σ → Prop} {Wd : σ → va_W} (S : CallFix p m c cc nL s args wsL_law own) (hE : EV G cy s) (hM : Met l y (ws_ y bc mL ret) rm (CP G cy (.ref b :: As) w0) (RI G K Wd (A1 w0)) 0 0 (A1 w0)) (g1 : Cond.methodLink own index y ∈ wsL_law) (g2 : Cond.instanceMethod y ∈ wsL_law) (g3 : Cond.selects C y y ∈ wsL_law) (g4 : Cond.initialized C ∈ wsL_law) (g5 : Cond.code y bc mL ret ∈ wsL_law) (hyC : y.cls = C) (q0 : Nat) (he : w0[q0]? = some (b, .inr (ci, fs))) (hc : vwCl[ci]? = some (C, T, N)) (hd : y.cls ≠ "java/lang/invoke/MethodHandle" ∧ y.cls ≠ "java/lang/invoke/VarHandle" ∧ (parseMethodDescriptor y.desc).map (fun d => d.parameters.length) = some n) (hR : (rm.cells = 0 ∧ rm.slots = 0) ∧ (rm.frames + 1 ≤ R.frames ∧ 8 + (mL + 11) + rm.locals ≤ R.locals)) (hcs : cells ≤ R.cells ∧ slots ≤ R.slots) (hP : va_P G vwCl (L ++ (w0 ++ R')) H) (hD : va_D A0 (L ++ (w0 ++ R'))) (hS : va_S A0 H0 H locs) (ha : ∀ u, (Wd u).map Prod.fst = w0.map Prod.fst) (hn : As.length = n) (hsz : ls.size = nL) (hst : st0 = As.reverse ++ .ref b :: rest) (hw8 : (rest.map fun v => v.category).sum ≤ 8) (hdg : decode cc pc = .ok (.invokevirtual index, 3))
    (kk : ∀ (r : Int32) (u : σ) (H1 : Heap) (locs1 : List Loc), K r u → va_P G vwCl (L ++ (Wd u ++ R')) H1 → va_D A0 (L ++ (Wd u ++ R')) → va_S A0 H0 H1 locs1 → W p l e R s m args below meth c H1 locs1 cells slots Q (F0 m (pc + 3) ls (.int r :: rest))) : W p l e R s m args below meth c H locs cells slots Q (F0 m pc ls st0) := by
  have hP0 := hP.mid
  have hD0 := hD.mid
  have hF := fx_free hD0
  refine va_calli (va_runV (As := As) (rest := rest) S hM (cwV n S.2.2.2.2 (go_V g1 g2 g3 g4 g5) rfl hR.1.1 hR.1.2 ⟨hyC, hd⟩ hR.2) ⟨CP.blind, va_recv hE.1 hP0 hc he, fun U hU hW => ⟨rfl, by rw [hU]; exact hP0, hE.warm hW, hD0.any⟩⟩ rfl hn hsz hst (lv_room hw8) hdg ⟨hcs.1, hcs.2⟩) hS (fun q _ h => hF q h) hF (fun r u t H1 locs1 ht hvm hk hB hz hkp hS1 => ?_)
  rw [ht] at hB
  obtain ⟨hP1, hD1⟩ := fx_join hP hD hkp hB (ha u)
  exact kk r u H1 locs1 hk hP1 hD1 hS1
theorem kc_Vi0 {σ : Type} {K : Int32 → σ → Prop} {Wd : σ → va_W} (S : CallFix p m c cc nL s args wsL_law own) (hE : EV G cy s) (hM : Met l y (ws_ y bc mL ret) rm (CP G cy (.ref b :: As) w0) (RI G K Wd (A1 w0)) 0 0 (A1 w0)) (g1 : Cond.methodLink own index y ∈ wsL_law) (g2 : Cond.instanceMethod y ∈ wsL_law) (g3 : Cond.selects C y y ∈ wsL_law) (g4 : Cond.initialized C ∈ wsL_law) (g5 : Cond.code y bc mL ret ∈ wsL_law) (hyC : y.cls = C) (q0 : Nat) (he : w0[q0]? = some (b, .inr (ci, fs))) (hc : vwCl[ci]? = some (C, T, N)) (hd : y.cls ≠ "java/lang/invoke/MethodHandle" ∧ y.cls ≠ "java/lang/invoke/VarHandle" ∧ (parseMethodDescriptor y.desc).map (fun d => d.parameters.length) = some n) (hR : (rm.cells = 0 ∧ rm.slots = 0) ∧ (rm.frames + 1 ≤ R.frames ∧ 8 + (mL + 11) + rm.locals ≤ R.locals)) (hcs : cells ≤ R.cells ∧ slots ≤ R.slots) (hP : va_P G vwCl w0 H) (hD : va_D A0 w0) (hS : va_S A0 H0 H locs) (ha : ∀ u, (Wd u).map Prod.fst = w0.map Prod.fst) (hn : As.length = n) (hsz : ls.size = nL) (hst : st0 = As.reverse ++ .ref b :: rest) (hw8 : (rest.map fun v => v.category).sum ≤ 8) (hdg : decode cc pc = .ok (.invokevirtual index, 3))
    (kk : ∀ (r : Int32) (u : σ) (H1 : Heap) (locs1 : List Loc), K r u → va_P G vwCl (Wd u) H1 → va_D A0 (Wd u) → va_S A0 H0 H1 locs1 → W p l e R s m args below meth c H1 locs1 cells slots Q (F0 m (pc + 3) ls (.int r :: rest))) : W p l e R s m args below meth c H locs cells slots Q (F0 m pc ls st0) := by
  refine kc_Vi (L := []) (R' := []) S hE hM g1 g2 g3 g4 g5 hyC q0 he hc hd hR hcs (by simpa using hP) (by simpa using hD) hS ha hn hsz hst hw8 hdg (fun r u H1 locs1 hk hP1 hD1 hS1 => ?_)
  exact kk r u H1 locs1 hk (by simpa using hP1) (by simpa using hD1) hS1
theorem kc_Si {σ : Type} {K : Int32 → σ → Prop} {Wd : σ → va_W} (S : CallFix p m c cc nL s args wsL_law own) (hE : EV G cy s) (hM : Met l y (ws_ y bc mL ret) rm (CP G cy As w0) (RI G K Wd (A1 w0)) 0 0 (A1 w0)) (g1 : Cond.methodLink own index y ∈ wsL_law) (g2 : Cond.static y ∈ wsL_law) (g4 : Cond.initialized y.cls ∈ wsL_law) (g5 : Cond.code y bc mL ret ∈ wsL_law) (hd : y.cls ≠ "java/lang/invoke/MethodHandle" ∧ y.cls ≠ "java/lang/invoke/VarHandle" ∧ (parseMethodDescriptor y.desc).map (fun d => d.parameters.length) = some n) (hR : (rm.cells = 0 ∧ rm.slots = 0) ∧ (rm.frames + 1 ≤ R.frames ∧ 8 + (mL + 11) + rm.locals ≤ R.locals)) (hcs : cells ≤ R.cells ∧ slots ≤ R.slots) (hP : va_P G vwCl (L ++ (w0 ++ R')) H) (hD : va_D A0 (L ++ (w0 ++ R'))) (hS : va_S A0 H0 H locs) (ha : ∀ u, (Wd u).map Prod.fst = w0.map Prod.fst) (hn : As.length = n) (hsz : ls.size = nL) (hst : st0 = As.reverse ++ rest) (hw8 : (rest.map fun v => v.category).sum ≤ 8) (hdg : decode cc pc = .ok (.invokestatic index, 3))
    (kk : ∀ (r : Int32) (u : σ) (H1 : Heap) (locs1 : List Loc), K r u → va_P G vwCl (L ++ (Wd u ++ R')) H1 → va_D A0 (L ++ (Wd u ++ R')) → va_S A0 H0 H1 locs1 → W p l e R s m args below meth c H1 locs1 cells slots Q (F0 m (pc + 3) ls (.int r :: rest))) : W p l e R s m args below meth c H locs cells slots Q (F0 m pc ls st0) := by
  have hP0 := hP.mid
  have hD0 := hD.mid
  have hF := fx_free hD0
  refine va_calli (va_runS (As := As) (rest := rest) S hM (va_cwS n S.2.2.2.2 (go_S g1 g2 g4 g5) rfl hR.1.1 hR.1.2 hd hR.2) ⟨CP.blind, fun U hU hW => ⟨rfl, by rw [hU]; exact hP0, hE.warm hW, hD0.any⟩⟩ rfl hn hsz hst (lv_room hw8) hdg ⟨hcs.1, hcs.2⟩) hS (fun q _ h => hF q h) hF (fun r u t H1 locs1 ht hvm hk hB hz hkp hS1 => ?_)
  rw [ht] at hB
  obtain ⟨hP1, hD1⟩ := fx_join hP hD hkp hB (ha u)
  exact kk r u H1 locs1 hk hP1 hD1 hS1
theorem kc_Si0 {σ : Type} {K : Int32 → σ → Prop} {Wd : σ → va_W} (S : CallFix p m c cc nL s args wsL_law own) (hE : EV G cy s) (hM : Met l y (ws_ y bc mL ret) rm (CP G cy As w0) (RI G K Wd (A1 w0)) 0 0 (A1 w0)) (g1 : Cond.methodLink own index y ∈ wsL_law) (g2 : Cond.static y ∈ wsL_law) (g4 : Cond.initialized y.cls ∈ wsL_law) (g5 : Cond.code y bc mL ret ∈ wsL_law) (hd : y.cls ≠ "java/lang/invoke/MethodHandle" ∧ y.cls ≠ "java/lang/invoke/VarHandle" ∧ (parseMethodDescriptor y.desc).map (fun d => d.parameters.length) = some n) (hR : (rm.cells = 0 ∧ rm.slots = 0) ∧ (rm.frames + 1 ≤ R.frames ∧ 8 + (mL + 11) + rm.locals ≤ R.locals)) (hcs : cells ≤ R.cells ∧ slots ≤ R.slots) (hP : va_P G vwCl w0 H) (hD : va_D A0 w0) (hS : va_S A0 H0 H locs) (ha : ∀ u, (Wd u).map Prod.fst = w0.map Prod.fst) (hn : As.length = n) (hsz : ls.size = nL) (hst : st0 = As.reverse ++ rest) (hw8 : (rest.map fun v => v.category).sum ≤ 8) (hdg : decode cc pc = .ok (.invokestatic index, 3))
    (kk : ∀ (r : Int32) (u : σ) (H1 : Heap) (locs1 : List Loc), K r u → va_P G vwCl (Wd u) H1 → va_D A0 (Wd u) → va_S A0 H0 H1 locs1 → W p l e R s m args below meth c H1 locs1 cells slots Q (F0 m (pc + 3) ls (.int r :: rest))) : W p l e R s m args below meth c H locs cells slots Q (F0 m pc ls st0) := by
  refine kc_Si (L := []) (R' := []) S hE hM g1 g2 g4 g5 hd hR hcs (by simpa using hP) (by simpa using hD) hS ha hn hsz hst hw8 hdg (fun r u H1 locs1 hk hP1 hD1 hS1 => ?_)
  exact kk r u H1 locs1 hk (by simpa using hP1) (by simpa using hD1) hS1
theorem kc_SiE {σ : Type} {K : Int32 → σ → Prop} {Wd : σ → va_W} (S : CallFix p m c cc nL s args wsL_law own) (hE : EV G cy s) (hM : Met l y (ws_ y bc mL ret) rm (CP G cy As []) (RI G K Wd (A1 [])) 0 0 (A1 [])) (g1 : Cond.methodLink own index y ∈ wsL_law) (g2 : Cond.static y ∈ wsL_law) (g4 : Cond.initialized y.cls ∈ wsL_law) (g5 : Cond.code y bc mL ret ∈ wsL_law) (hd : y.cls ≠ "java/lang/invoke/MethodHandle" ∧ y.cls ≠ "java/lang/invoke/VarHandle" ∧ (parseMethodDescriptor y.desc).map (fun d => d.parameters.length) = some n) (hR : (rm.cells = 0 ∧ rm.slots = 0) ∧ (rm.frames + 1 ≤ R.frames ∧ 8 + (mL + 11) + rm.locals ≤ R.locals)) (hcs : cells ≤ R.cells ∧ slots ≤ R.slots) (hP : va_P G vwCl ws H) (hD : va_D A0 ws) (hS : va_S A0 H0 H locs) (ha : ∀ u, Wd u = []) (hn : As.length = n) (hsz : ls.size = nL) (hst : st0 = As.reverse ++ rest) (hw8 : (rest.map fun v => v.category).sum ≤ 8) (hdg : decode cc pc = .ok (.invokestatic index, 3))
    (kk : ∀ (r : Int32) (u : σ) (H1 : Heap) (locs1 : List Loc), K r u → va_P G vwCl ws H1 → va_D A0 ws → va_S A0 H0 H1 locs1 → W p l e R s m args below meth c H1 locs1 cells slots Q (F0 m (pc + 3) ls (.int r :: rest))) : W p l e R s m args below meth c H locs cells slots Q (F0 m pc ls st0) := by
  refine kc_Si (L := []) (w0 := []) (R' := ws) S hE hM g1 g2 g4 g5 hd hR hcs hP hD hS (fun u => by rw [ha u]) hn hsz hst hw8 hdg (fun r u H1 locs1 hk hP1 hD1 hS1 => ?_)
  rw [ha u] at hP1 hD1
  exact kk r u H1 locs1 hk hP1 hD1 hS1
theorem kc_Vf {σ : Type} {K : UInt32 → σ → Prop} {Wd : σ → va_W} (S : CallFix p m c cc nL s args wsL_law own) (hE : EV G cy s) (hM : Met l y (ws_ y bc mL ret) rm (CP G cy (.ref b :: As) w0) (RF G K Wd (A1 w0)) 0 0 (A1 w0)) (g1 : Cond.methodLink own index y ∈ wsL_law) (g2 : Cond.instanceMethod y ∈ wsL_law) (g3 : Cond.selects C y y ∈ wsL_law) (g4 : Cond.initialized C ∈ wsL_law) (g5 : Cond.code y bc mL ret ∈ wsL_law) (hyC : y.cls = C) (q0 : Nat) (he : w0[q0]? = some (b, .inr (ci, fs))) (hc : vwCl[ci]? = some (C, T, N)) (hd : y.cls ≠ "java/lang/invoke/MethodHandle" ∧ y.cls ≠ "java/lang/invoke/VarHandle" ∧ (parseMethodDescriptor y.desc).map (fun d => d.parameters.length) = some n) (hR : (rm.cells = 0 ∧ rm.slots = 0) ∧ (rm.frames + 1 ≤ R.frames ∧ 8 + (mL + 11) + rm.locals ≤ R.locals)) (hcs : cells ≤ R.cells ∧ slots ≤ R.slots) (hP : va_P G vwCl (L ++ (w0 ++ R')) H) (hD : va_D A0 (L ++ (w0 ++ R'))) (hS : va_S A0 H0 H locs) (ha : ∀ u, (Wd u).map Prod.fst = w0.map Prod.fst) (hn : As.length = n) (hsz : ls.size = nL) (hst : st0 = As.reverse ++ .ref b :: rest) (hw8 : (rest.map fun v => v.category).sum ≤ 8) (hdg : decode cc pc = .ok (.invokevirtual index, 3))
    (kk : ∀ (r : UInt32) (u : σ) (H1 : Heap) (locs1 : List Loc), K r u → va_P G vwCl (L ++ (Wd u ++ R')) H1 → va_D A0 (L ++ (Wd u ++ R')) → va_S A0 H0 H1 locs1 → W p l e R s m args below meth c H1 locs1 cells slots Q (F0 m (pc + 3) ls (.float r :: rest))) : W p l e R s m args below meth c H locs cells slots Q (F0 m pc ls st0) := by
  have hP0 := hP.mid
  have hD0 := hD.mid
  have hF := fx_free hD0
  refine va_callf (va_runV (As := As) (rest := rest) S hM (cwV n S.2.2.2.2 (go_V g1 g2 g3 g4 g5) rfl hR.1.1 hR.1.2 ⟨hyC, hd⟩ hR.2) ⟨CP.blind, va_recv hE.1 hP0 hc he, fun U hU hW => ⟨rfl, by rw [hU]; exact hP0, hE.warm hW, hD0.any⟩⟩ rfl hn hsz hst (lv_room hw8) hdg ⟨hcs.1, hcs.2⟩) hS (fun q _ h => hF q h) hF (fun r u t H1 locs1 ht hvm hk hB hz hkp hS1 => ?_)
  rw [ht] at hB
  obtain ⟨hP1, hD1⟩ := fx_join hP hD hkp hB (ha u)
  exact kk r u H1 locs1 hk hP1 hD1 hS1
theorem kc_Vf0 {σ : Type} {K : UInt32 → σ → Prop} {Wd : σ → va_W} (S : CallFix p m c cc nL s args wsL_law own) (hE : EV G cy s) (hM : Met l y (ws_ y bc mL ret) rm (CP G cy (.ref b :: As) w0) (RF G K Wd (A1 w0)) 0 0 (A1 w0)) (g1 : Cond.methodLink own index y ∈ wsL_law) (g2 : Cond.instanceMethod y ∈ wsL_law) (g3 : Cond.selects C y y ∈ wsL_law) (g4 : Cond.initialized C ∈ wsL_law) (g5 : Cond.code y bc mL ret ∈ wsL_law) (hyC : y.cls = C) (q0 : Nat) (he : w0[q0]? = some (b, .inr (ci, fs))) (hc : vwCl[ci]? = some (C, T, N)) (hd : y.cls ≠ "java/lang/invoke/MethodHandle" ∧ y.cls ≠ "java/lang/invoke/VarHandle" ∧ (parseMethodDescriptor y.desc).map (fun d => d.parameters.length) = some n) (hR : (rm.cells = 0 ∧ rm.slots = 0) ∧ (rm.frames + 1 ≤ R.frames ∧ 8 + (mL + 11) + rm.locals ≤ R.locals)) (hcs : cells ≤ R.cells ∧ slots ≤ R.slots) (hP : va_P G vwCl w0 H) (hD : va_D A0 w0) (hS : va_S A0 H0 H locs) (ha : ∀ u, (Wd u).map Prod.fst = w0.map Prod.fst) (hn : As.length = n) (hsz : ls.size = nL) (hst : st0 = As.reverse ++ .ref b :: rest) (hw8 : (rest.map fun v => v.category).sum ≤ 8) (hdg : decode cc pc = .ok (.invokevirtual index, 3))
    (kk : ∀ (r : UInt32) (u : σ) (H1 : Heap) (locs1 : List Loc), K r u → va_P G vwCl (Wd u) H1 → va_D A0 (Wd u) → va_S A0 H0 H1 locs1 → W p l e R s m args below meth c H1 locs1 cells slots Q (F0 m (pc + 3) ls (.float r :: rest))) : W p l e R s m args below meth c H locs cells slots Q (F0 m pc ls st0) := by
  refine kc_Vf (L := []) (R' := []) S hE hM g1 g2 g3 g4 g5 hyC q0 he hc hd hR hcs (by simpa using hP) (by simpa using hD) hS ha hn hsz hst hw8 hdg (fun r u H1 locs1 hk hP1 hD1 hS1 => ?_)
  exact kk r u H1 locs1 hk (by simpa using hP1) (by simpa using hD1) hS1
theorem kc_Sf {σ : Type} {K : UInt32 → σ → Prop} {Wd : σ → va_W} (S : CallFix p m c cc nL s args wsL_law own) (hE : EV G cy s) (hM : Met l y (ws_ y bc mL ret) rm (CP G cy As w0) (RF G K Wd (A1 w0)) 0 0 (A1 w0)) (g1 : Cond.methodLink own index y ∈ wsL_law) (g2 : Cond.static y ∈ wsL_law) (g4 : Cond.initialized y.cls ∈ wsL_law) (g5 : Cond.code y bc mL ret ∈ wsL_law) (hd : y.cls ≠ "java/lang/invoke/MethodHandle" ∧ y.cls ≠ "java/lang/invoke/VarHandle" ∧ (parseMethodDescriptor y.desc).map (fun d => d.parameters.length) = some n) (hR : (rm.cells = 0 ∧ rm.slots = 0) ∧ (rm.frames + 1 ≤ R.frames ∧ 8 + (mL + 11) + rm.locals ≤ R.locals)) (hcs : cells ≤ R.cells ∧ slots ≤ R.slots) (hP : va_P G vwCl (L ++ (w0 ++ R')) H) (hD : va_D A0 (L ++ (w0 ++ R'))) (hS : va_S A0 H0 H locs) (ha : ∀ u, (Wd u).map Prod.fst = w0.map Prod.fst) (hn : As.length = n) (hsz : ls.size = nL) (hst : st0 = As.reverse ++ rest) (hw8 : (rest.map fun v => v.category).sum ≤ 8) (hdg : decode cc pc = .ok (.invokestatic index, 3))
    (kk : ∀ (r : UInt32) (u : σ) (H1 : Heap) (locs1 : List Loc), K r u → va_P G vwCl (L ++ (Wd u ++ R')) H1 → va_D A0 (L ++ (Wd u ++ R')) → va_S A0 H0 H1 locs1 → W p l e R s m args below meth c H1 locs1 cells slots Q (F0 m (pc + 3) ls (.float r :: rest))) : W p l e R s m args below meth c H locs cells slots Q (F0 m pc ls st0) := by
  have hP0 := hP.mid
  have hD0 := hD.mid
  have hF := fx_free hD0
  refine va_callf (va_runS (As := As) (rest := rest) S hM (va_cwS n S.2.2.2.2 (go_S g1 g2 g4 g5) rfl hR.1.1 hR.1.2 hd hR.2) ⟨CP.blind, fun U hU hW => ⟨rfl, by rw [hU]; exact hP0, hE.warm hW, hD0.any⟩⟩ rfl hn hsz hst (lv_room hw8) hdg ⟨hcs.1, hcs.2⟩) hS (fun q _ h => hF q h) hF (fun r u t H1 locs1 ht hvm hk hB hz hkp hS1 => ?_)
  rw [ht] at hB
  obtain ⟨hP1, hD1⟩ := fx_join hP hD hkp hB (ha u)
  exact kk r u H1 locs1 hk hP1 hD1 hS1
theorem kc_Sf0 {σ : Type} {K : UInt32 → σ → Prop} {Wd : σ → va_W} (S : CallFix p m c cc nL s args wsL_law own) (hE : EV G cy s) (hM : Met l y (ws_ y bc mL ret) rm (CP G cy As w0) (RF G K Wd (A1 w0)) 0 0 (A1 w0)) (g1 : Cond.methodLink own index y ∈ wsL_law) (g2 : Cond.static y ∈ wsL_law) (g4 : Cond.initialized y.cls ∈ wsL_law) (g5 : Cond.code y bc mL ret ∈ wsL_law) (hd : y.cls ≠ "java/lang/invoke/MethodHandle" ∧ y.cls ≠ "java/lang/invoke/VarHandle" ∧ (parseMethodDescriptor y.desc).map (fun d => d.parameters.length) = some n) (hR : (rm.cells = 0 ∧ rm.slots = 0) ∧ (rm.frames + 1 ≤ R.frames ∧ 8 + (mL + 11) + rm.locals ≤ R.locals)) (hcs : cells ≤ R.cells ∧ slots ≤ R.slots) (hP : va_P G vwCl w0 H) (hD : va_D A0 w0) (hS : va_S A0 H0 H locs) (ha : ∀ u, (Wd u).map Prod.fst = w0.map Prod.fst) (hn : As.length = n) (hsz : ls.size = nL) (hst : st0 = As.reverse ++ rest) (hw8 : (rest.map fun v => v.category).sum ≤ 8) (hdg : decode cc pc = .ok (.invokestatic index, 3))
    (kk : ∀ (r : UInt32) (u : σ) (H1 : Heap) (locs1 : List Loc), K r u → va_P G vwCl (Wd u) H1 → va_D A0 (Wd u) → va_S A0 H0 H1 locs1 → W p l e R s m args below meth c H1 locs1 cells slots Q (F0 m (pc + 3) ls (.float r :: rest))) : W p l e R s m args below meth c H locs cells slots Q (F0 m pc ls st0) := by
  refine kc_Sf (L := []) (R' := []) S hE hM g1 g2 g4 g5 hd hR hcs (by simpa using hP) (by simpa using hD) hS ha hn hsz hst hw8 hdg (fun r u H1 locs1 hk hP1 hD1 hS1 => ?_)
  exact kk r u H1 locs1 hk (by simpa using hP1) (by simpa using hD1) hS1
theorem kc_SfE {σ : Type} {K : UInt32 → σ → Prop} {Wd : σ → va_W} (S : CallFix p m c cc nL s args wsL_law own) (hE : EV G cy s) (hM : Met l y (ws_ y bc mL ret) rm (CP G cy As []) (RF G K Wd (A1 [])) 0 0 (A1 [])) (g1 : Cond.methodLink own index y ∈ wsL_law) (g2 : Cond.static y ∈ wsL_law) (g4 : Cond.initialized y.cls ∈ wsL_law) (g5 : Cond.code y bc mL ret ∈ wsL_law) (hd : y.cls ≠ "java/lang/invoke/MethodHandle" ∧ y.cls ≠ "java/lang/invoke/VarHandle" ∧ (parseMethodDescriptor y.desc).map (fun d => d.parameters.length) = some n) (hR : (rm.cells = 0 ∧ rm.slots = 0) ∧ (rm.frames + 1 ≤ R.frames ∧ 8 + (mL + 11) + rm.locals ≤ R.locals)) (hcs : cells ≤ R.cells ∧ slots ≤ R.slots) (hP : va_P G vwCl ws H) (hD : va_D A0 ws) (hS : va_S A0 H0 H locs) (ha : ∀ u, Wd u = []) (hn : As.length = n) (hsz : ls.size = nL) (hst : st0 = As.reverse ++ rest) (hw8 : (rest.map fun v => v.category).sum ≤ 8) (hdg : decode cc pc = .ok (.invokestatic index, 3))
    (kk : ∀ (r : UInt32) (u : σ) (H1 : Heap) (locs1 : List Loc), K r u → va_P G vwCl ws H1 → va_D A0 ws → va_S A0 H0 H1 locs1 → W p l e R s m args below meth c H1 locs1 cells slots Q (F0 m (pc + 3) ls (.float r :: rest))) : W p l e R s m args below meth c H locs cells slots Q (F0 m pc ls st0) := by
  refine kc_Sf (L := []) (w0 := []) (R' := ws) S hE hM g1 g2 g4 g5 hd hR hcs hP hD hS (fun u => by rw [ha u]) hn hsz hst hw8 hdg (fun r u H1 locs1 hk hP1 hD1 hS1 => ?_)
  rw [ha u] at hP1 hD1
  exact kk r u H1 locs1 hk hP1 hD1 hS1
theorem kc_Nf {σ : Type} {K : UInt32 → σ → Prop} {Wd : σ → va_W} (S : CallFix p m c cc nL s args wsL_law own) (hE : EV G cy s) (hM : Met l y (ws_ y bc mL ret) rm (CP G cy As w0) (RF G K Wd (A1 w0)) 0 0 (A1 w0)) {host : String} (g1 : va_Nw (.methodLinkNest own index y host) s) (g2 : Cond.static y ∈ wsL_law) (g4 : Cond.initialized y.cls ∈ wsL_law) (g5 : Cond.code y bc mL ret ∈ wsL_law) (hd : y.cls ≠ "java/lang/invoke/MethodHandle" ∧ y.cls ≠ "java/lang/invoke/VarHandle" ∧ (parseMethodDescriptor y.desc).map (fun d => d.parameters.length) = some n) (hR : (rm.cells = 0 ∧ rm.slots = 0) ∧ (rm.frames + 1 ≤ R.frames ∧ 8 + (mL + 11) + rm.locals ≤ R.locals)) (hcs : cells ≤ R.cells ∧ slots ≤ R.slots) (hP : va_P G vwCl (L ++ (w0 ++ R')) H) (hD : va_D A0 (L ++ (w0 ++ R'))) (hS : va_S A0 H0 H locs) (ha : ∀ u, (Wd u).map Prod.fst = w0.map Prod.fst) (hn : As.length = n) (hsz : ls.size = nL) (hst : st0 = As.reverse ++ rest) (hw8 : (rest.map fun v => v.category).sum ≤ 8) (hdg : decode cc pc = .ok (.invokestatic index, 3))
    (kk : ∀ (r : UInt32) (u : σ) (H1 : Heap) (locs1 : List Loc), K r u → va_P G vwCl (L ++ (Wd u ++ R')) H1 → va_D A0 (L ++ (Wd u ++ R')) → va_S A0 H0 H1 locs1 → W p l e R s m args below meth c H1 locs1 cells slots Q (F0 m (pc + 3) ls (.float r :: rest))) : W p l e R s m args below meth c H locs cells slots Q (F0 m pc ls st0) := by
  have hP0 := hP.mid
  have hD0 := hD.mid
  have hF := fx_free hD0
  refine va_callf (va_runSN (As := As) (rest := rest) S hM ⟨va_cnB n S.2.2.2.2 (go_in (go_ws g5)) rfl hR.1.1 hR.1.2 g1 (S.2.2.2.2 _ g4) hd hR.2, S.2.2.2.2 _ g2, trivial⟩ ⟨CP.blind, fun U hU hW => ⟨rfl, by rw [hU]; exact hP0, hE.warm hW, hD0.any⟩⟩ rfl hn hsz hst (lv_room hw8) hdg ⟨hcs.1, hcs.2⟩) hS (fun q _ h => hF q h) hF (fun r u t H1 locs1 ht hvm hk hB hz hkp hS1 => ?_)
  rw [ht] at hB
  obtain ⟨hP1, hD1⟩ := fx_join hP hD hkp hB (ha u)
  exact kk r u H1 locs1 hk hP1 hD1 hS1
theorem kc_Nf0 {σ : Type} {K : UInt32 → σ → Prop} {Wd : σ → va_W} (S : CallFix p m c cc nL s args wsL_law own) (hE : EV G cy s) (hM : Met l y (ws_ y bc mL ret) rm (CP G cy As w0) (RF G K Wd (A1 w0)) 0 0 (A1 w0)) {host : String} (g1 : va_Nw (.methodLinkNest own index y host) s) (g2 : Cond.static y ∈ wsL_law) (g4 : Cond.initialized y.cls ∈ wsL_law) (g5 : Cond.code y bc mL ret ∈ wsL_law) (hd : y.cls ≠ "java/lang/invoke/MethodHandle" ∧ y.cls ≠ "java/lang/invoke/VarHandle" ∧ (parseMethodDescriptor y.desc).map (fun d => d.parameters.length) = some n) (hR : (rm.cells = 0 ∧ rm.slots = 0) ∧ (rm.frames + 1 ≤ R.frames ∧ 8 + (mL + 11) + rm.locals ≤ R.locals)) (hcs : cells ≤ R.cells ∧ slots ≤ R.slots) (hP : va_P G vwCl w0 H) (hD : va_D A0 w0) (hS : va_S A0 H0 H locs) (ha : ∀ u, (Wd u).map Prod.fst = w0.map Prod.fst) (hn : As.length = n) (hsz : ls.size = nL) (hst : st0 = As.reverse ++ rest) (hw8 : (rest.map fun v => v.category).sum ≤ 8) (hdg : decode cc pc = .ok (.invokestatic index, 3))
    (kk : ∀ (r : UInt32) (u : σ) (H1 : Heap) (locs1 : List Loc), K r u → va_P G vwCl (Wd u) H1 → va_D A0 (Wd u) → va_S A0 H0 H1 locs1 → W p l e R s m args below meth c H1 locs1 cells slots Q (F0 m (pc + 3) ls (.float r :: rest))) : W p l e R s m args below meth c H locs cells slots Q (F0 m pc ls st0) := by
  refine kc_Nf (L := []) (R' := []) S hE hM g1 g2 g4 g5 hd hR hcs (by simpa using hP) (by simpa using hD) hS ha hn hsz hst hw8 hdg (fun r u H1 locs1 hk hP1 hD1 hS1 => ?_)
  exact kk r u H1 locs1 hk (by simpa using hP1) (by simpa using hD1) hS1
theorem kc_NfE {σ : Type} {K : UInt32 → σ → Prop} {Wd : σ → va_W} (S : CallFix p m c cc nL s args wsL_law own) (hE : EV G cy s) (hM : Met l y (ws_ y bc mL ret) rm (CP G cy As []) (RF G K Wd (A1 [])) 0 0 (A1 [])) {host : String} (g1 : va_Nw (.methodLinkNest own index y host) s) (g2 : Cond.static y ∈ wsL_law) (g4 : Cond.initialized y.cls ∈ wsL_law) (g5 : Cond.code y bc mL ret ∈ wsL_law) (hd : y.cls ≠ "java/lang/invoke/MethodHandle" ∧ y.cls ≠ "java/lang/invoke/VarHandle" ∧ (parseMethodDescriptor y.desc).map (fun d => d.parameters.length) = some n) (hR : (rm.cells = 0 ∧ rm.slots = 0) ∧ (rm.frames + 1 ≤ R.frames ∧ 8 + (mL + 11) + rm.locals ≤ R.locals)) (hcs : cells ≤ R.cells ∧ slots ≤ R.slots) (hP : va_P G vwCl ws H) (hD : va_D A0 ws) (hS : va_S A0 H0 H locs) (ha : ∀ u, Wd u = []) (hn : As.length = n) (hsz : ls.size = nL) (hst : st0 = As.reverse ++ rest) (hw8 : (rest.map fun v => v.category).sum ≤ 8) (hdg : decode cc pc = .ok (.invokestatic index, 3))
    (kk : ∀ (r : UInt32) (u : σ) (H1 : Heap) (locs1 : List Loc), K r u → va_P G vwCl ws H1 → va_D A0 ws → va_S A0 H0 H1 locs1 → W p l e R s m args below meth c H1 locs1 cells slots Q (F0 m (pc + 3) ls (.float r :: rest))) : W p l e R s m args below meth c H locs cells slots Q (F0 m pc ls st0) := by
  refine kc_Nf (L := []) (w0 := []) (R' := ws) S hE hM g1 g2 g4 g5 hd hR hcs hP hD hS (fun u => by rw [ha u]) hn hsz hst hw8 hdg (fun r u H1 locs1 hk hP1 hD1 hS1 => ?_)
  rw [ha u] at hP1 hD1
  exact kk r u H1 locs1 hk hP1 hD1 hS1
theorem kc_Vv {σ : Type} {K : σ → Prop} {Wd : σ → va_W} (S : CallFix p m c cc nL s args wsL_law own) (hE : EV G cy s) (hM : Met l y (ws_ y bc mL ret) rm (CP G cy (.ref b :: As) w0) (RV G K Wd (A1 w0)) 0 0 (A1 w0)) (g1 : Cond.methodLink own index y ∈ wsL_law) (g2 : Cond.instanceMethod y ∈ wsL_law) (g3 : Cond.selects C y y ∈ wsL_law) (g4 : Cond.initialized C ∈ wsL_law) (g5 : Cond.code y bc mL ret ∈ wsL_law) (hyC : y.cls = C) (q0 : Nat) (he : w0[q0]? = some (b, .inr (ci, fs))) (hc : vwCl[ci]? = some (C, T, N)) (hd : y.cls ≠ "java/lang/invoke/MethodHandle" ∧ y.cls ≠ "java/lang/invoke/VarHandle" ∧ (parseMethodDescriptor y.desc).map (fun d => d.parameters.length) = some n) (hR : (rm.cells = 0 ∧ rm.slots = 0) ∧ (rm.frames + 1 ≤ R.frames ∧ 8 + (mL + 11) + rm.locals ≤ R.locals)) (hcs : cells ≤ R.cells ∧ slots ≤ R.slots) (hP : va_P G vwCl (L ++ (w0 ++ R')) H) (hD : va_D A0 (L ++ (w0 ++ R'))) (hS : va_S A0 H0 H locs) (ha : ∀ u, (Wd u).map Prod.fst = w0.map Prod.fst) (hn : As.length = n) (hsz : ls.size = nL) (hst : st0 = As.reverse ++ .ref b :: rest) (hw8 : (rest.map fun v => v.category).sum ≤ 8) (hdg : decode cc pc = .ok (.invokevirtual index, 3))
    (kk : ∀ (u : σ) (H1 : Heap) (locs1 : List Loc), K u → va_P G vwCl (L ++ (Wd u ++ R')) H1 → va_D A0 (L ++ (Wd u ++ R')) → va_S A0 H0 H1 locs1 → W p l e R s m args below meth c H1 locs1 cells slots Q (F0 m (pc + 3) ls (rest))) : W p l e R s m args below meth c H locs cells slots Q (F0 m pc ls st0) := by
  have hP0 := hP.mid
  have hD0 := hD.mid
  have hF := fx_free hD0
  refine va_callv (va_runV (As := As) (rest := rest) S hM (cwV n S.2.2.2.2 (go_V g1 g2 g3 g4 g5) rfl hR.1.1 hR.1.2 ⟨hyC, hd⟩ hR.2) ⟨CP.blind, va_recv hE.1 hP0 hc he, fun U hU hW => ⟨rfl, by rw [hU]; exact hP0, hE.warm hW, hD0.any⟩⟩ rfl hn hsz hst (lv_room hw8) hdg ⟨hcs.1, hcs.2⟩) hS (fun q _ h => hF q h) hF (fun u t H1 locs1 ht hvm hk hB hz hkp hS1 => ?_)
  rw [ht] at hB
  obtain ⟨hP1, hD1⟩ := fx_join hP hD hkp hB (ha u)
  exact kk u H1 locs1 hk hP1 hD1 hS1
theorem kc_Vv0 {σ : Type} {K : σ → Prop} {Wd : σ → va_W} (S : CallFix p m c cc nL s args wsL_law own) (hE : EV G cy s) (hM : Met l y (ws_ y bc mL ret) rm (CP G cy (.ref b :: As) w0) (RV G K Wd (A1 w0)) 0 0 (A1 w0)) (g1 : Cond.methodLink own index y ∈ wsL_law) (g2 : Cond.instanceMethod y ∈ wsL_law) (g3 : Cond.selects C y y ∈ wsL_law) (g4 : Cond.initialized C ∈ wsL_law) (g5 : Cond.code y bc mL ret ∈ wsL_law) (hyC : y.cls = C) (q0 : Nat) (he : w0[q0]? = some (b, .inr (ci, fs))) (hc : vwCl[ci]? = some (C, T, N)) (hd : y.cls ≠ "java/lang/invoke/MethodHandle" ∧ y.cls ≠ "java/lang/invoke/VarHandle" ∧ (parseMethodDescriptor y.desc).map (fun d => d.parameters.length) = some n) (hR : (rm.cells = 0 ∧ rm.slots = 0) ∧ (rm.frames + 1 ≤ R.frames ∧ 8 + (mL + 11) + rm.locals ≤ R.locals)) (hcs : cells ≤ R.cells ∧ slots ≤ R.slots) (hP : va_P G vwCl w0 H) (hD : va_D A0 w0) (hS : va_S A0 H0 H locs) (ha : ∀ u, (Wd u).map Prod.fst = w0.map Prod.fst) (hn : As.length = n) (hsz : ls.size = nL) (hst : st0 = As.reverse ++ .ref b :: rest) (hw8 : (rest.map fun v => v.category).sum ≤ 8) (hdg : decode cc pc = .ok (.invokevirtual index, 3))
    (kk : ∀ (u : σ) (H1 : Heap) (locs1 : List Loc), K u → va_P G vwCl (Wd u) H1 → va_D A0 (Wd u) → va_S A0 H0 H1 locs1 → W p l e R s m args below meth c H1 locs1 cells slots Q (F0 m (pc + 3) ls (rest))) : W p l e R s m args below meth c H locs cells slots Q (F0 m pc ls st0) := by
  refine kc_Vv (L := []) (R' := []) S hE hM g1 g2 g3 g4 g5 hyC q0 he hc hd hR hcs (by simpa using hP) (by simpa using hD) hS ha hn hsz hst hw8 hdg (fun u H1 locs1 hk hP1 hD1 hS1 => ?_)
  exact kk u H1 locs1 hk (by simpa using hP1) (by simpa using hD1) hS1
theorem kc_Sv {σ : Type} {K : σ → Prop} {Wd : σ → va_W} (S : CallFix p m c cc nL s args wsL_law own) (hE : EV G cy s) (hM : Met l y (ws_ y bc mL ret) rm (CP G cy As w0) (RV G K Wd (A1 w0)) 0 0 (A1 w0)) (g1 : Cond.methodLink own index y ∈ wsL_law) (g2 : Cond.static y ∈ wsL_law) (g4 : Cond.initialized y.cls ∈ wsL_law) (g5 : Cond.code y bc mL ret ∈ wsL_law) (hd : y.cls ≠ "java/lang/invoke/MethodHandle" ∧ y.cls ≠ "java/lang/invoke/VarHandle" ∧ (parseMethodDescriptor y.desc).map (fun d => d.parameters.length) = some n) (hR : (rm.cells = 0 ∧ rm.slots = 0) ∧ (rm.frames + 1 ≤ R.frames ∧ 8 + (mL + 11) + rm.locals ≤ R.locals)) (hcs : cells ≤ R.cells ∧ slots ≤ R.slots) (hP : va_P G vwCl (L ++ (w0 ++ R')) H) (hD : va_D A0 (L ++ (w0 ++ R'))) (hS : va_S A0 H0 H locs) (ha : ∀ u, (Wd u).map Prod.fst = w0.map Prod.fst) (hn : As.length = n) (hsz : ls.size = nL) (hst : st0 = As.reverse ++ rest) (hw8 : (rest.map fun v => v.category).sum ≤ 8) (hdg : decode cc pc = .ok (.invokestatic index, 3))
    (kk : ∀ (u : σ) (H1 : Heap) (locs1 : List Loc), K u → va_P G vwCl (L ++ (Wd u ++ R')) H1 → va_D A0 (L ++ (Wd u ++ R')) → va_S A0 H0 H1 locs1 → W p l e R s m args below meth c H1 locs1 cells slots Q (F0 m (pc + 3) ls (rest))) : W p l e R s m args below meth c H locs cells slots Q (F0 m pc ls st0) := by
  have hP0 := hP.mid
  have hD0 := hD.mid
  have hF := fx_free hD0
  refine va_callv (va_runS (As := As) (rest := rest) S hM (va_cwS n S.2.2.2.2 (go_S g1 g2 g4 g5) rfl hR.1.1 hR.1.2 hd hR.2) ⟨CP.blind, fun U hU hW => ⟨rfl, by rw [hU]; exact hP0, hE.warm hW, hD0.any⟩⟩ rfl hn hsz hst (lv_room hw8) hdg ⟨hcs.1, hcs.2⟩) hS (fun q _ h => hF q h) hF (fun u t H1 locs1 ht hvm hk hB hz hkp hS1 => ?_)
  rw [ht] at hB
  obtain ⟨hP1, hD1⟩ := fx_join hP hD hkp hB (ha u)
  exact kk u H1 locs1 hk hP1 hD1 hS1
theorem kc_Sv0 {σ : Type} {K : σ → Prop} {Wd : σ → va_W} (S : CallFix p m c cc nL s args wsL_law own) (hE : EV G cy s) (hM : Met l y (ws_ y bc mL ret) rm (CP G cy As w0) (RV G K Wd (A1 w0)) 0 0 (A1 w0)) (g1 : Cond.methodLink own index y ∈ wsL_law) (g2 : Cond.static y ∈ wsL_law) (g4 : Cond.initialized y.cls ∈ wsL_law) (g5 : Cond.code y bc mL ret ∈ wsL_law) (hd : y.cls ≠ "java/lang/invoke/MethodHandle" ∧ y.cls ≠ "java/lang/invoke/VarHandle" ∧ (parseMethodDescriptor y.desc).map (fun d => d.parameters.length) = some n) (hR : (rm.cells = 0 ∧ rm.slots = 0) ∧ (rm.frames + 1 ≤ R.frames ∧ 8 + (mL + 11) + rm.locals ≤ R.locals)) (hcs : cells ≤ R.cells ∧ slots ≤ R.slots) (hP : va_P G vwCl w0 H) (hD : va_D A0 w0) (hS : va_S A0 H0 H locs) (ha : ∀ u, (Wd u).map Prod.fst = w0.map Prod.fst) (hn : As.length = n) (hsz : ls.size = nL) (hst : st0 = As.reverse ++ rest) (hw8 : (rest.map fun v => v.category).sum ≤ 8) (hdg : decode cc pc = .ok (.invokestatic index, 3))
    (kk : ∀ (u : σ) (H1 : Heap) (locs1 : List Loc), K u → va_P G vwCl (Wd u) H1 → va_D A0 (Wd u) → va_S A0 H0 H1 locs1 → W p l e R s m args below meth c H1 locs1 cells slots Q (F0 m (pc + 3) ls (rest))) : W p l e R s m args below meth c H locs cells slots Q (F0 m pc ls st0) := by
  refine kc_Sv (L := []) (R' := []) S hE hM g1 g2 g4 g5 hd hR hcs (by simpa using hP) (by simpa using hD) hS ha hn hsz hst hw8 hdg (fun u H1 locs1 hk hP1 hD1 hS1 => ?_)
  exact kk u H1 locs1 hk (by simpa using hP1) (by simpa using hD1) hS1
theorem kc_SvE {σ : Type} {K : σ → Prop} {Wd : σ → va_W} (S : CallFix p m c cc nL s args wsL_law own) (hE : EV G cy s) (hM : Met l y (ws_ y bc mL ret) rm (CP G cy As []) (RV G K Wd (A1 [])) 0 0 (A1 [])) (g1 : Cond.methodLink own index y ∈ wsL_law) (g2 : Cond.static y ∈ wsL_law) (g4 : Cond.initialized y.cls ∈ wsL_law) (g5 : Cond.code y bc mL ret ∈ wsL_law) (hd : y.cls ≠ "java/lang/invoke/MethodHandle" ∧ y.cls ≠ "java/lang/invoke/VarHandle" ∧ (parseMethodDescriptor y.desc).map (fun d => d.parameters.length) = some n) (hR : (rm.cells = 0 ∧ rm.slots = 0) ∧ (rm.frames + 1 ≤ R.frames ∧ 8 + (mL + 11) + rm.locals ≤ R.locals)) (hcs : cells ≤ R.cells ∧ slots ≤ R.slots) (hP : va_P G vwCl ws H) (hD : va_D A0 ws) (hS : va_S A0 H0 H locs) (ha : ∀ u, Wd u = []) (hn : As.length = n) (hsz : ls.size = nL) (hst : st0 = As.reverse ++ rest) (hw8 : (rest.map fun v => v.category).sum ≤ 8) (hdg : decode cc pc = .ok (.invokestatic index, 3))
    (kk : ∀ (u : σ) (H1 : Heap) (locs1 : List Loc), K u → va_P G vwCl ws H1 → va_D A0 ws → va_S A0 H0 H1 locs1 → W p l e R s m args below meth c H1 locs1 cells slots Q (F0 m (pc + 3) ls (rest))) : W p l e R s m args below meth c H locs cells slots Q (F0 m pc ls st0) := by
  refine kc_Sv (L := []) (w0 := []) (R' := ws) S hE hM g1 g2 g4 g5 hd hR hcs hP hD hS (fun u => by rw [ha u]) hn hsz hst hw8 hdg (fun u H1 locs1 hk hP1 hD1 hS1 => ?_)
  rw [ha u] at hP1 hD1
  exact kk u H1 locs1 hk hP1 hD1 hS1
end KC
/-! worlds -/
abbrev st_W (cy : Nat → ClassId) (a : Nat → Nat) (vn : Nat → Int32) (vf : Nat → UInt32) (vs vp vq vd vo : Nat → Int32) : va_W := [(a 0, .inr (4, [.float (vf 0), .float (vf 1), .float (vf 2), .float (vf 3), .int (vn 0), .int (vn 5), .float (vf 4), .int (vn 2), .int (vn 1), .int (vn 8), .ref (a 1), .ref (a 2), .ref (a 5), .ref (a 8)])), (a 1, .inl (cy 0, 8, .inl vs)), (a 2, .inr (2, [.int (vn 10), .ref (a 3), .ref (a 4)])), (a 3, .inl (cy 0, 6, .inl vp)), (a 4, .inl (cy 0, 6, .inl vq)), (a 5, .inr (5, [.int (vn 11), .ref (a 6), .ref (a 7)])), (a 6, .inl (cy 0, 4, .inl vd)), (a 7, .inl (cy 3, 4, .inl vo)), (a 8, .inr (3, [.int (vn 6), .int (vn 7), .int (vn 4), .int (vn 3), .int (vn 9)]))]
abbrev tx_W (cy : Nat → ClassId) (a : Nat → Nat) (tm tx : Nat → Int32) : va_W := [(a 0, .inr (0, [.int (tm 0), .ref (a 1)])), (a 1, .inl (cy 2, 80, .inl tx))]
abbrev md_W (cy : Nat → ClassId) (a : Nat → Nat) (mn : Nat → Int32) (mf : Nat → UInt32) (mk : Nat → Int32) (mg : Nat → UInt32) (mv mt mm : Nat → Int32) : va_W := [(a 0, .inr (7, [.ref (a 1), .ref (a 2), .ref (a 3), .ref (a 4), .ref (a 5), .int (mm 0), .ref (a 6), .int (mm 1), .int (mm 2), .int (mm 3), .int (mm 4)])), (a 1, .inl (cy 0, 40, .inl mn)), (a 2, .inl (cy 1, 5, .inr (.inr (.inl mf)))), (a 3, .inl (cy 0, 320, .inl mk)), (a 4, .inl (cy 1, 40, .inr (.inr (.inl mg)))), (a 5, .inl (cy 0, 2, .inl mv)), (a 6, .inl (cy 0, 80, .inl mt))]
end
section
theorem zz_last : True := trivial
end
