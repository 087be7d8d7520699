-- ===== PART A: goes FIRST, ahead of the names: the tables' words, and 'selects' of the private methods out of them =====
/-- a private method of a class that the tables say can be made, by its rows of tables_1 -/
def lw_okq (q : MethodName × Nat) : Prop := (q.1.cls ≠ "java/lang/invoke/MethodHandle" ∧ q.1.cls ≠ "java/lang/invoke/VarHandle") ∧ Cond.instantiable q.1.cls q.2 ∈ tables_1 ∧ Cond.privateMethod q.1 ∈ tables_1 ∧ Cond.instanceMethod q.1 ∈ tables_1
theorem lw_p0 : lw_okq (⟨"SunRows", "answer", "(I)I"⟩, 10) := ⟨⟨by decide +kernel, by decide +kernel⟩, List.mem_of_getElem? (i := 15) (by decide +kernel), List.mem_of_getElem? (i := 295) (by decide +kernel), List.mem_of_getElem? (i := 296) (by decide +kernel)⟩
theorem lw_p1 : lw_okq (⟨"SunRows", "isRow", "(I)Z"⟩, 10) := ⟨⟨by decide +kernel, by decide +kernel⟩, List.mem_of_getElem? (i := 15) (by decide +kernel), List.mem_of_getElem? (i := 318) (by decide +kernel), List.mem_of_getElem? (i := 319) (by decide +kernel)⟩
theorem lw_p2 : lw_okq (⟨"SunRows$Field", "isFreeAt", "(III)Z"⟩, 7) := ⟨⟨by decide +kernel, by decide +kernel⟩, List.mem_of_getElem? (i := 23) (by decide +kernel), List.mem_of_getElem? (i := 386) (by decide +kernel), List.mem_of_getElem? (i := 387) (by decide +kernel)⟩
theorem lw_p3 : lw_okq (⟨"SunRows$Field", "firstAhead", "(I)I"⟩, 7) := ⟨⟨by decide +kernel, by decide +kernel⟩, List.mem_of_getElem? (i := 23) (by decide +kernel), List.mem_of_getElem? (i := 405) (by decide +kernel), List.mem_of_getElem? (i := 406) (by decide +kernel)⟩
theorem lw_p4 : lw_okq (⟨"SunRows$Field", "lastAhead", "(I)I"⟩, 7) := ⟨⟨by decide +kernel, by decide +kernel⟩, List.mem_of_getElem? (i := 23) (by decide +kernel), List.mem_of_getElem? (i := 409) (by decide +kernel), List.mem_of_getElem? (i := 410) (by decide +kernel)⟩
theorem lw_p5 : lw_okq (⟨"SunRows$Looks", "shadeStart", "(II)J"⟩, 5) := ⟨⟨by decide +kernel, by decide +kernel⟩, List.mem_of_getElem? (i := 31) (by decide +kernel), List.mem_of_getElem? (i := 417) (by decide +kernel), List.mem_of_getElem? (i := 418) (by decide +kernel)⟩
theorem lw_p6 : lw_okq (⟨"SunRows$Looks", "shadeEnd", "(II)J"⟩, 5) := ⟨⟨by decide +kernel, by decide +kernel⟩, List.mem_of_getElem? (i := 31) (by decide +kernel), List.mem_of_getElem? (i := 427) (by decide +kernel), List.mem_of_getElem? (i := 428) (by decide +kernel)⟩
theorem lw_p7 : lw_okq (⟨"SunRows", "findingOfSight", "(II)I"⟩, 10) := ⟨⟨by decide +kernel, by decide +kernel⟩, List.mem_of_getElem? (i := 15) (by decide +kernel), List.mem_of_getElem? (i := 435) (by decide +kernel), List.mem_of_getElem? (i := 436) (by decide +kernel)⟩
theorem lw_p8 : lw_okq (⟨"SunRows", "lookFrom", "(I)V"⟩, 10) := ⟨⟨by decide +kernel, by decide +kernel⟩, List.mem_of_getElem? (i := 15) (by decide +kernel), List.mem_of_getElem? (i := 439) (by decide +kernel), List.mem_of_getElem? (i := 440) (by decide +kernel)⟩
theorem lw_p9 : lw_okq (⟨"SunRows", "findingOfShade", "(II)I"⟩, 10) := ⟨⟨by decide +kernel, by decide +kernel⟩, List.mem_of_getElem? (i := 15) (by decide +kernel), List.mem_of_getElem? (i := 455) (by decide +kernel), List.mem_of_getElem? (i := 456) (by decide +kernel)⟩
theorem lw_p10 : lw_okq (⟨"SunRows$Looks", "addPiece", "(JJ)V"⟩, 5) := ⟨⟨by decide +kernel, by decide +kernel⟩, List.mem_of_getElem? (i := 31) (by decide +kernel), List.mem_of_getElem? (i := 468) (by decide +kernel), List.mem_of_getElem? (i := 469) (by decide +kernel)⟩
theorem lw_p11 : lw_okq (⟨"SunRows$Strings", "insert", "(I)V"⟩, 3) := ⟨⟨by decide +kernel, by decide +kernel⟩, List.mem_of_getElem? (i := 148) (by decide +kernel), List.mem_of_getElem? (i := 529) (by decide +kernel), List.mem_of_getElem? (i := 530) (by decide +kernel)⟩
theorem lw_p12 : lw_okq (⟨"SunRows", "passHour", "()V"⟩, 10) := ⟨⟨by decide +kernel, by decide +kernel⟩, List.mem_of_getElem? (i := 15) (by decide +kernel), List.mem_of_getElem? (i := 556) (by decide +kernel), List.mem_of_getElem? (i := 557) (by decide +kernel)⟩
theorem lw_p13 : lw_okq (⟨"SunRows", "targetStep", "(II)I"⟩, 10) := ⟨⟨by decide +kernel, by decide +kernel⟩, List.mem_of_getElem? (i := 15) (by decide +kernel), List.mem_of_getElem? (i := 567) (by decide +kernel), List.mem_of_getElem? (i := 568) (by decide +kernel)⟩
theorem lw_p14 : lw_okq (⟨"SunRows$Strings", "sumOfRanked", "()I"⟩, 3) := ⟨⟨by decide +kernel, by decide +kernel⟩, List.mem_of_getElem? (i := 148) (by decide +kernel), List.mem_of_getElem? (i := 590) (by decide +kernel), List.mem_of_getElem? (i := 591) (by decide +kernel)⟩
theorem lw_p15 : lw_okq (⟨"SunRows$Washing", "take", "(JI)V"⟩, 2) := ⟨⟨by decide +kernel, by decide +kernel⟩, List.mem_of_getElem? (i := 220) (by decide +kernel), List.mem_of_getElem? (i := 637) (by decide +kernel), List.mem_of_getElem? (i := 638) (by decide +kernel)⟩
def lw_privs_1 : List (MethodName × Nat) := [(⟨"SunRows", "answer", "(I)I"⟩, 10), (⟨"SunRows", "isRow", "(I)Z"⟩, 10), (⟨"SunRows$Field", "isFreeAt", "(III)Z"⟩, 7), (⟨"SunRows$Field", "firstAhead", "(I)I"⟩, 7), (⟨"SunRows$Field", "lastAhead", "(I)I"⟩, 7), (⟨"SunRows$Looks", "shadeStart", "(II)J"⟩, 5), (⟨"SunRows$Looks", "shadeEnd", "(II)J"⟩, 5), (⟨"SunRows", "findingOfSight", "(II)I"⟩, 10), (⟨"SunRows", "lookFrom", "(I)V"⟩, 10), (⟨"SunRows", "findingOfShade", "(II)I"⟩, 10), (⟨"SunRows$Looks", "addPiece", "(JJ)V"⟩, 5), (⟨"SunRows$Strings", "insert", "(I)V"⟩, 3), (⟨"SunRows", "passHour", "()V"⟩, 10), (⟨"SunRows", "targetStep", "(II)I"⟩, 10), (⟨"SunRows$Strings", "sumOfRanked", "()I"⟩, 3), (⟨"SunRows$Washing", "take", "(JI)V"⟩, 2)]
theorem lw_r1 : ∀ q ∈ lw_privs_1, lw_okq q := List.forall_mem_cons.mpr ⟨lw_p0, List.forall_mem_cons.mpr ⟨lw_p1, List.forall_mem_cons.mpr ⟨lw_p2, List.forall_mem_cons.mpr ⟨lw_p3, List.forall_mem_cons.mpr ⟨lw_p4, List.forall_mem_cons.mpr ⟨lw_p5, List.forall_mem_cons.mpr ⟨lw_p6, List.forall_mem_cons.mpr ⟨lw_p7, List.forall_mem_cons.mpr ⟨lw_p8, List.forall_mem_cons.mpr ⟨lw_p9, List.forall_mem_cons.mpr ⟨lw_p10, List.forall_mem_cons.mpr ⟨lw_p11, List.forall_mem_cons.mpr ⟨lw_p12, List.forall_mem_cons.mpr ⟨lw_p13, List.forall_mem_cons.mpr ⟨lw_p14, List.forall_mem_cons.mpr ⟨lw_p15, fun _ h => absurd h List.not_mem_nil⟩⟩⟩⟩⟩⟩⟩⟩⟩⟩⟩⟩⟩⟩⟩⟩
theorem lw_p16 : lw_okq (⟨"SunRowsModel", "finding", "(I)I"⟩, 28) := ⟨⟨by decide +kernel, by decide +kernel⟩, List.mem_of_getElem? (i := 678) (by decide +kernel), List.mem_of_getElem? (i := 781) (by decide +kernel), List.mem_of_getElem? (i := 782) (by decide +kernel)⟩
theorem lw_p17 : lw_okq (⟨"SunRowsModel", "isRow", "(I)Z"⟩, 28) := ⟨⟨by decide +kernel, by decide +kernel⟩, List.mem_of_getElem? (i := 678) (by decide +kernel), List.mem_of_getElem? (i := 797) (by decide +kernel), List.mem_of_getElem? (i := 798) (by decide +kernel)⟩
theorem lw_p18 : lw_okq (⟨"SunRowsModel", "setSun", "(III)V"⟩, 28) := ⟨⟨by decide +kernel, by decide +kernel⟩, List.mem_of_getElem? (i := 678) (by decide +kernel), List.mem_of_getElem? (i := 824) (by decide +kernel), List.mem_of_getElem? (i := 825) (by decide +kernel)⟩
theorem lw_p19 : lw_okq (⟨"SunRowsModel", "isNight", "(I)Z"⟩, 28) := ⟨⟨by decide +kernel, by decide +kernel⟩, List.mem_of_getElem? (i := 678) (by decide +kernel), List.mem_of_getElem? (i := 836) (by decide +kernel), List.mem_of_getElem? (i := 837) (by decide +kernel)⟩
theorem lw_p20 : lw_okq (⟨"SunRowsModel", "idealOf", "(I)I"⟩, 28) := ⟨⟨by decide +kernel, by decide +kernel⟩, List.mem_of_getElem? (i := 678) (by decide +kernel), List.mem_of_getElem? (i := 840) (by decide +kernel), List.mem_of_getElem? (i := 841) (by decide +kernel)⟩
theorem lw_p21 : lw_okq (⟨"SunRowsModel", "backOf", "(I)I"⟩, 28) := ⟨⟨by decide +kernel, by decide +kernel⟩, List.mem_of_getElem? (i := 678) (by decide +kernel), List.mem_of_getElem? (i := 872) (by decide +kernel), List.mem_of_getElem? (i := 873) (by decide +kernel)⟩
theorem lw_p22 : lw_okq (⟨"SunRowsModel", "isClear", "(II)Z"⟩, 28) := ⟨⟨by decide +kernel, by decide +kernel⟩, List.mem_of_getElem? (i := 678) (by decide +kernel), List.mem_of_getElem? (i := 876) (by decide +kernel), List.mem_of_getElem? (i := 877) (by decide +kernel)⟩
theorem lw_p23 : lw_okq (⟨"SunRowsModel", "breadthOf", "(II)J"⟩, 28) := ⟨⟨by decide +kernel, by decide +kernel⟩, List.mem_of_getElem? (i := 678) (by decide +kernel), List.mem_of_getElem? (i := 880) (by decide +kernel), List.mem_of_getElem? (i := 881) (by decide +kernel)⟩
theorem lw_p24 : lw_okq (⟨"SunRowsModel", "look", "(III)J"⟩, 28) := ⟨⟨by decide +kernel, by decide +kernel⟩, List.mem_of_getElem? (i := 678) (by decide +kernel), List.mem_of_getElem? (i := 884) (by decide +kernel), List.mem_of_getElem? (i := 885) (by decide +kernel)⟩
theorem lw_p25 : lw_okq (⟨"SunRowsModel", "stepAt", "(I)I"⟩, 28) := ⟨⟨by decide +kernel, by decide +kernel⟩, List.mem_of_getElem? (i := 678) (by decide +kernel), List.mem_of_getElem? (i := 888) (by decide +kernel), List.mem_of_getElem? (i := 889) (by decide +kernel)⟩
theorem lw_p26 : lw_okq (⟨"SunRowsModel", "shadeOf", "(II)J"⟩, 28) := ⟨⟨by decide +kernel, by decide +kernel⟩, List.mem_of_getElem? (i := 678) (by decide +kernel), List.mem_of_getElem? (i := 894) (by decide +kernel), List.mem_of_getElem? (i := 895) (by decide +kernel)⟩
theorem lw_p27 : lw_okq (⟨"SunRowsModel", "shaded", "(IIJJ)J"⟩, 28) := ⟨⟨by decide +kernel, by decide +kernel⟩, List.mem_of_getElem? (i := 678) (by decide +kernel), List.mem_of_getElem? (i := 899) (by decide +kernel), List.mem_of_getElem? (i := 900) (by decide +kernel)⟩
theorem lw_p28 : lw_okq (⟨"SunRowsModel", "isAhead", "(III)Z"⟩, 28) := ⟨⟨by decide +kernel, by decide +kernel⟩, List.mem_of_getElem? (i := 678) (by decide +kernel), List.mem_of_getElem? (i := 903) (by decide +kernel), List.mem_of_getElem? (i := 904) (by decide +kernel)⟩
theorem lw_p29 : lw_okq (⟨"SunRowsModel", "unseen", "(II)I"⟩, 28) := ⟨⟨by decide +kernel, by decide +kernel⟩, List.mem_of_getElem? (i := 678) (by decide +kernel), List.mem_of_getElem? (i := 911) (by decide +kernel), List.mem_of_getElem? (i := 912) (by decide +kernel)⟩
theorem lw_p30 : lw_okq (⟨"SunRowsModel", "unlit", "(II)I"⟩, 28) := ⟨⟨by decide +kernel, by decide +kernel⟩, List.mem_of_getElem? (i := 678) (by decide +kernel), List.mem_of_getElem? (i := 919) (by decide +kernel), List.mem_of_getElem? (i := 920) (by decide +kernel)⟩
theorem lw_p31 : lw_okq (⟨"SunRowsModel", "darkOf", "(II)I"⟩, 28) := ⟨⟨by decide +kernel, by decide +kernel⟩, List.mem_of_getElem? (i := 678) (by decide +kernel), List.mem_of_getElem? (i := 927) (by decide +kernel), List.mem_of_getElem? (i := 928) (by decide +kernel)⟩
def lw_privs_2 : List (MethodName × Nat) := [(⟨"SunRowsModel", "finding", "(I)I"⟩, 28), (⟨"SunRowsModel", "isRow", "(I)Z"⟩, 28), (⟨"SunRowsModel", "setSun", "(III)V"⟩, 28), (⟨"SunRowsModel", "isNight", "(I)Z"⟩, 28), (⟨"SunRowsModel", "idealOf", "(I)I"⟩, 28), (⟨"SunRowsModel", "backOf", "(I)I"⟩, 28), (⟨"SunRowsModel", "isClear", "(II)Z"⟩, 28), (⟨"SunRowsModel", "breadthOf", "(II)J"⟩, 28), (⟨"SunRowsModel", "look", "(III)J"⟩, 28), (⟨"SunRowsModel", "stepAt", "(I)I"⟩, 28), (⟨"SunRowsModel", "shadeOf", "(II)J"⟩, 28), (⟨"SunRowsModel", "shaded", "(IIJJ)J"⟩, 28), (⟨"SunRowsModel", "isAhead", "(III)Z"⟩, 28), (⟨"SunRowsModel", "unseen", "(II)I"⟩, 28), (⟨"SunRowsModel", "unlit", "(II)I"⟩, 28), (⟨"SunRowsModel", "darkOf", "(II)I"⟩, 28)]
theorem lw_r2 : ∀ q ∈ lw_privs_2, lw_okq q := List.forall_mem_cons.mpr ⟨lw_p16, List.forall_mem_cons.mpr ⟨lw_p17, List.forall_mem_cons.mpr ⟨lw_p18, List.forall_mem_cons.mpr ⟨lw_p19, List.forall_mem_cons.mpr ⟨lw_p20, List.forall_mem_cons.mpr ⟨lw_p21, List.forall_mem_cons.mpr ⟨lw_p22, List.forall_mem_cons.mpr ⟨lw_p23, List.forall_mem_cons.mpr ⟨lw_p24, List.forall_mem_cons.mpr ⟨lw_p25, List.forall_mem_cons.mpr ⟨lw_p26, List.forall_mem_cons.mpr ⟨lw_p27, List.forall_mem_cons.mpr ⟨lw_p28, List.forall_mem_cons.mpr ⟨lw_p29, List.forall_mem_cons.mpr ⟨lw_p30, List.forall_mem_cons.mpr ⟨lw_p31, fun _ h => absurd h List.not_mem_nil⟩⟩⟩⟩⟩⟩⟩⟩⟩⟩⟩⟩⟩⟩⟩⟩
theorem lw_p32 : lw_okq (⟨"SunRowsModel", "currentOf", "(II)J"⟩, 28) := ⟨⟨by decide +kernel, by decide +kernel⟩, List.mem_of_getElem? (i := 678) (by decide +kernel), List.mem_of_getElem? (i := 946) (by decide +kernel), List.mem_of_getElem? (i := 947) (by decide +kernel)⟩
theorem lw_p33 : lw_okq (⟨"SunRowsModel", "clean", "(II)J"⟩, 28) := ⟨⟨by decide +kernel, by decide +kernel⟩, List.mem_of_getElem? (i := 678) (by decide +kernel), List.mem_of_getElem? (i := 950) (by decide +kernel), List.mem_of_getElem? (i := 951) (by decide +kernel)⟩
theorem lw_p34 : lw_okq (⟨"SunRowsModel", "dusted", "(II)J"⟩, 28) := ⟨⟨by decide +kernel, by decide +kernel⟩, List.mem_of_getElem? (i := 678) (by decide +kernel), List.mem_of_getElem? (i := 955) (by decide +kernel), List.mem_of_getElem? (i := 956) (by decide +kernel)⟩
theorem lw_p35 : lw_okq (⟨"SunRowsModel", "givesOf", "(II)J"⟩, 28) := ⟨⟨by decide +kernel, by decide +kernel⟩, List.mem_of_getElem? (i := 678) (by decide +kernel), List.mem_of_getElem? (i := 964) (by decide +kernel), List.mem_of_getElem? (i := 965) (by decide +kernel)⟩
theorem lw_p36 : lw_okq (⟨"SunRowsModel", "findState", "(I)V"⟩, 28) := ⟨⟨by decide +kernel, by decide +kernel⟩, List.mem_of_getElem? (i := 678) (by decide +kernel), List.mem_of_getElem? (i := 984) (by decide +kernel), List.mem_of_getElem? (i := 985) (by decide +kernel)⟩
theorem lw_p37 : lw_okq (⟨"SunRowsModel", "setSteps", "(I)V"⟩, 28) := ⟨⟨by decide +kernel, by decide +kernel⟩, List.mem_of_getElem? (i := 678) (by decide +kernel), List.mem_of_getElem? (i := 988) (by decide +kernel), List.mem_of_getElem? (i := 989) (by decide +kernel)⟩
theorem lw_p38 : lw_okq (⟨"SunRowsModel", "stepFor", "(I)I"⟩, 28) := ⟨⟨by decide +kernel, by decide +kernel⟩, List.mem_of_getElem? (i := 678) (by decide +kernel), List.mem_of_getElem? (i := 992) (by decide +kernel), List.mem_of_getElem? (i := 993) (by decide +kernel)⟩
theorem lw_p39 : lw_okq (⟨"SunRowsModel", "writeBook", "(I)V"⟩, 28) := ⟨⟨by decide +kernel, by decide +kernel⟩, List.mem_of_getElem? (i := 678) (by decide +kernel), List.mem_of_getElem? (i := 996) (by decide +kernel), List.mem_of_getElem? (i := 997) (by decide +kernel)⟩
theorem lw_p40 : lw_okq (⟨"SunRowsModel", "bestWorth", "(II)J"⟩, 28) := ⟨⟨by decide +kernel, by decide +kernel⟩, List.mem_of_getElem? (i := 678) (by decide +kernel), List.mem_of_getElem? (i := 1024) (by decide +kernel), List.mem_of_getElem? (i := 1025) (by decide +kernel)⟩
def lw_privs_3 : List (MethodName × Nat) := [(⟨"SunRowsModel", "currentOf", "(II)J"⟩, 28), (⟨"SunRowsModel", "clean", "(II)J"⟩, 28), (⟨"SunRowsModel", "dusted", "(II)J"⟩, 28), (⟨"SunRowsModel", "givesOf", "(II)J"⟩, 28), (⟨"SunRowsModel", "findState", "(I)V"⟩, 28), (⟨"SunRowsModel", "setSteps", "(I)V"⟩, 28), (⟨"SunRowsModel", "stepFor", "(I)I"⟩, 28), (⟨"SunRowsModel", "writeBook", "(I)V"⟩, 28), (⟨"SunRowsModel", "bestWorth", "(II)J"⟩, 28)]
theorem lw_r3 : ∀ q ∈ lw_privs_3, lw_okq q := List.forall_mem_cons.mpr ⟨lw_p32, List.forall_mem_cons.mpr ⟨lw_p33, List.forall_mem_cons.mpr ⟨lw_p34, List.forall_mem_cons.mpr ⟨lw_p35, List.forall_mem_cons.mpr ⟨lw_p36, List.forall_mem_cons.mpr ⟨lw_p37, List.forall_mem_cons.mpr ⟨lw_p38, List.forall_mem_cons.mpr ⟨lw_p39, List.forall_mem_cons.mpr ⟨lw_p40, fun _ h => absurd h List.not_mem_nil⟩⟩⟩⟩⟩⟩⟩⟩⟩
def lw_privs : List (MethodName × Nat) := lw_privs_1 ++ (lw_privs_2 ++ (lw_privs_3))
def lw_tbl : List Cond := k2_sels lw_privs ++ tables_1
theorem lw_privs_ok : ∀ q ∈ lw_privs, lw_okq q := by
  show ∀ q ∈ lw_privs_1 ++ (lw_privs_2 ++ (lw_privs_3)), lw_okq q
  exact List.forall_mem_append.mpr ⟨lw_r1, List.forall_mem_append.mpr ⟨lw_r2, lw_r3⟩⟩
def RX0 : String := "SunRows$Field"
def TX0 : u_T := fun k => match k with
  | 0 => ("SunRows$Field", "rows", "[LSunRows$Row;", true)
  | 1 => ("SunRows$Field", "looks", "LSunRows$Looks;", true)
  | 2 => ("SunRows$Field", "unshaded", "[J", true)
  | 3 => ("SunRows$Field", "taken", "[J", true)
  | 4 => ("SunRows$Field", "currents", "[I", true)
  | 5 => ("SunRows$Field", "count", "I", false)
  | _ => ("SunRows$Field", "sunX", "I", false)
def tyX0 : Nat → FieldType := fun k => match k with
  | 0 => .array (.object "SunRows$Row")
  | 1 => .object "SunRows$Looks"
  | 2 => .array .long
  | 3 => .array .long
  | 4 => .array .int
  | 5 => .int
  | _ => .int
abbrev wsX00 : List Cond := u_ws RX0 TX0 7
theorem nmX0 : ∀ a, a < 7 → ∀ b, b < 7 → a ≠ b → (TX0 a).2.1 ≠ (TX0 b).2.1 := by decide +kernel
theorem tyX0_ok : ∀ k, k < 7 → parseFieldDescriptor (TX0 k).2.2.1 = some (tyX0 k) := by decide +kernel
abbrev cX0_init : ByteArray := prog_2_method_1_code
def yX0_init : MethodName := ⟨RX0, "<init>", "()V"⟩
abbrev cX0_isAboveLast : ByteArray := prog_2_method_2_code
def yX0_isAboveLast : MethodName := ⟨RX0, "isAboveLast", "(I)Z"⟩
abbrev cX0_idealStep : ByteArray := prog_2_method_3_code
def yX0_idealStep : MethodName := ⟨RX0, "idealStep", "(II)I"⟩
abbrev cX0_backStep : ByteArray := prog_2_method_4_code
def yX0_backStep : MethodName := ⟨RX0, "backStep", "(II)I"⟩
abbrev cX0_isFreeAt : ByteArray := prog_2_method_5_code
def yX0_isFreeAt : MethodName := ⟨RX0, "isFreeAt", "(III)Z"⟩
abbrev cX0_lookAsTurned : ByteArray := prog_2_method_6_code
def yX0_lookAsTurned : MethodName := ⟨RX0, "lookAsTurned", "(II)V"⟩
abbrev cX0_firstAhead : ByteArray := prog_2_method_7_code
def yX0_firstAhead : MethodName := ⟨RX0, "firstAhead", "(I)I"⟩
abbrev cX0_lastAhead : ByteArray := prog_2_method_8_code
def yX0_lastAhead : MethodName := ⟨RX0, "lastAhead", "(I)I"⟩
abbrev cX0_castShade : ByteArray := prog_2_method_9_code
def yX0_castShade : MethodName := ⟨RX0, "castShade", "(I)V"⟩
abbrev cX0_weighAll : ByteArray := prog_2_method_10_code
def yX0_weighAll : MethodName := ⟨RX0, "weighAll", "()V"⟩
abbrev cX0_weigh : ByteArray := prog_2_method_11_code
def yX0_weigh : MethodName := ⟨RX0, "weigh", "(I)V"⟩
abbrev cX0_turnTo : ByteArray := prog_2_method_12_code
def yX0_turnTo : MethodName := ⟨RX0, "turnTo", "(II)V"⟩
abbrev cX0_washAll : ByteArray := prog_2_method_13_code
def yX0_washAll : MethodName := ⟨RX0, "washAll", "()V"⟩
abbrev cX0_washRows : ByteArray := prog_2_method_14_code
def yX0_washRows : MethodName := ⟨RX0, "washRows", "(I)I"⟩
abbrev cX0_addDust : ByteArray := prog_2_method_15_code
def yX0_addDust : MethodName := ⟨RX0, "addDust", "(I)I"⟩
def RX1 : String := "SunRows$Ledger"
def TX1 : u_T := fun k => match k with
  | 0 => ("SunRows$Ledger", "latest", "[J", true)
  | 1 => ("SunRows$Ledger", "sums", "[J", true)
  | 2 => ("SunRows$Ledger", "isBegun", "Z", false)
  | 3 => ("SunRows$Ledger", "state", "I", false)
  | _ => ("SunRows$Ledger", "whichHour", "I", false)
def tyX1 : Nat → FieldType := fun k => match k with
  | 0 => .array .long
  | 1 => .array .long
  | 2 => .boolean
  | 3 => .int
  | _ => .int
abbrev wsX10 : List Cond := u_ws RX1 TX1 5
theorem nmX1 : ∀ a, a < 5 → ∀ b, b < 5 → a ≠ b → (TX1 a).2.1 ≠ (TX1 b).2.1 := by decide +kernel
theorem tyX1_ok : ∀ k, k < 5 → parseFieldDescriptor (TX1 k).2.2.1 = some (tyX1 k) := by decide +kernel
abbrev cX1_init : ByteArray := prog_3_method_1_code
def yX1_init : MethodName := ⟨RX1, "<init>", "()V"⟩
abbrev cX1_begin : ByteArray := prog_3_method_2_code
def yX1_begin : MethodName := ⟨RX1, "begin", "(II)V"⟩
abbrev cX1_addToSums : ByteArray := prog_3_method_3_code
def yX1_addToSums : MethodName := ⟨RX1, "addToSums", "()V"⟩
def RX2 : String := "SunRows$Looks"
def TX2 : u_T := fun k => match k with
  | 0 => ("SunRows$Looks", "start", "[J", true)
  | 1 => ("SunRows$Looks", "end", "[J", true)
  | 2 => ("SunRows$Looks", "from", "[J", true)
  | 3 => ("SunRows$Looks", "to", "[J", true)
  | _ => ("SunRows$Looks", "pieces", "I", false)
def tyX2 : Nat → FieldType := fun k => match k with
  | 0 => .array .long
  | 1 => .array .long
  | 2 => .array .long
  | 3 => .array .long
  | _ => .int
abbrev wsX20 : List Cond := u_ws RX2 TX2 5
theorem nmX2 : ∀ a, a < 5 → ∀ b, b < 5 → a ≠ b → (TX2 a).2.1 ≠ (TX2 b).2.1 := by decide +kernel
theorem tyX2_ok : ∀ k, k < 5 → parseFieldDescriptor (TX2 k).2.2.1 = some (tyX2 k) := by decide +kernel
abbrev cX2_init : ByteArray := prog_4_method_1_code
def yX2_init : MethodName := ⟨RX2, "<init>", "()V"⟩
abbrev cX2_put : ByteArray := prog_4_method_2_code
def yX2_put : MethodName := ⟨RX2, "put", "(ILSunRows$Row;III)V"⟩
abbrev cX2_stretch : ByteArray := prog_4_method_3_code
def yX2_stretch : MethodName := ⟨RX2, "stretch", "(I)J"⟩
abbrev cX2_isLit : ByteArray := prog_4_method_4_code
def yX2_isLit : MethodName := ⟨RX2, "isLit", "(I)Z"⟩
abbrev cX2_isShaded : ByteArray := prog_4_method_5_code
def yX2_isShaded : MethodName := ⟨RX2, "isShaded", "(III)Z"⟩
abbrev cX2_cast : ByteArray := prog_4_method_6_code
def yX2_cast : MethodName := ⟨RX2, "cast", "(III)V"⟩
abbrev cX2_shadeStart : ByteArray := prog_4_method_7_code
def yX2_shadeStart : MethodName := ⟨RX2, "shadeStart", "(II)J"⟩
abbrev cX2_shadeEnd : ByteArray := prog_4_method_8_code
def yX2_shadeEnd : MethodName := ⟨RX2, "shadeEnd", "(II)J"⟩
abbrev cX2_addPiece : ByteArray := prog_4_method_9_code
def yX2_addPiece : MethodName := ⟨RX2, "addPiece", "(JJ)V"⟩
abbrev cX2_shaded : ByteArray := prog_4_method_10_code
def yX2_shaded : MethodName := ⟨RX2, "shaded", "()J"⟩
abbrev cX2_darkGroups : ByteArray := prog_4_method_11_code
def yX2_darkGroups : MethodName := ⟨RX2, "darkGroups", "(I)I"⟩
def RX3 : String := "SunRows$Row"
def TX3 : u_T := fun k => match k with
  | 0 => ("SunRows$Row", "kind", "I", false)
  | 1 => ("SunRows$Row", "place", "I", false)
  | 2 => ("SunRows$Row", "height", "I", false)
  | 3 => ("SunRows$Row", "width", "I", false)
  | 4 => ("SunRows$Row", "dirt", "I", false)
  | 5 => ("SunRows$Row", "step", "I", false)
  | _ => ("SunRows$Row", "inString", "I", false)
def tyX3 : Nat → FieldType := fun k => match k with
  | 0 => .int
  | 1 => .int
  | 2 => .int
  | 3 => .int
  | 4 => .int
  | 5 => .int
  | _ => .int
abbrev wsX30 : List Cond := u_ws RX3 TX3 7
theorem nmX3 : ∀ a, a < 7 → ∀ b, b < 7 → a ≠ b → (TX3 a).2.1 ≠ (TX3 b).2.1 := by decide +kernel
theorem tyX3_ok : ∀ k, k < 7 → parseFieldDescriptor (TX3 k).2.2.1 = some (tyX3 k) := by decide +kernel
abbrev cX3_init : ByteArray := prog_5_method_1_code
def yX3_init : MethodName := ⟨RX3, "<init>", "()V"⟩
abbrev cX3_begin : ByteArray := prog_5_method_2_code
def yX3_begin : MethodName := ⟨RX3, "begin", "(IIIII)V"⟩
abbrev cX3_isOf : ByteArray := prog_5_method_3_code
def yX3_isOf : MethodName := ⟨RX3, "isOf", "(I)Z"⟩
abbrev cX3_loseDust : ByteArray := prog_5_method_4_code
def yX3_loseDust : MethodName := ⟨RX3, "loseDust", "()Z"⟩
def RX4 : String := "SunRows$Sky"
def TX4 : u_T := fun k => match k with
  | 0 => ("SunRows$Sky", "x", "[I", true)
  | _ => ("SunRows$Sky", "y", "[I", true)
def tyX4 : Nat → FieldType := fun k => match k with
  | 0 => .array .int
  | _ => .array .int
abbrev wsX40 : List Cond := u_ws RX4 TX4 2
theorem nmX4 : ∀ a, a < 2 → ∀ b, b < 2 → a ≠ b → (TX4 a).2.1 ≠ (TX4 b).2.1 := by decide +kernel
theorem tyX4_ok : ∀ k, k < 2 → parseFieldDescriptor (TX4 k).2.2.1 = some (tyX4 k) := by decide +kernel
abbrev cX4_init : ByteArray := prog_6_method_1_code
def yX4_init : MethodName := ⟨RX4, "<init>", "()V"⟩
abbrev cX4_put : ByteArray := prog_6_method_2_code
def yX4_put : MethodName := ⟨RX4, "put", "(III)V"⟩
abbrev cX4_isNight : ByteArray := prog_6_method_3_code
def yX4_isNight : MethodName := ⟨RX4, "isNight", "(I)Z"⟩
def RX5 : String := "SunRows$Strings"
def TX5 : u_T := fun k => match k with
  | 0 => ("SunRows$Strings", "ceilings", "[I", true)
  | 1 => ("SunRows$Strings", "ranked", "[I", true)
  | _ => ("SunRows$Strings", "members", "I", false)
def tyX5 : Nat → FieldType := fun k => match k with
  | 0 => .array .int
  | 1 => .array .int
  | _ => .int
abbrev wsX50 : List Cond := u_ws RX5 TX5 3
theorem nmX5 : ∀ a, a < 3 → ∀ b, b < 3 → a ≠ b → (TX5 a).2.1 ≠ (TX5 b).2.1 := by decide +kernel
theorem tyX5_ok : ∀ k, k < 3 → parseFieldDescriptor (TX5 k).2.2.1 = some (tyX5 k) := by decide +kernel
abbrev cX5_init : ByteArray := prog_7_method_1_code
def yX5_init : MethodName := ⟨RX5, "<init>", "()V"⟩
abbrev cX5_rank : ByteArray := prog_7_method_2_code
def yX5_rank : MethodName := ⟨RX5, "rank", "(LSunRows$Field;I)V"⟩
abbrev cX5_insert : ByteArray := prog_7_method_3_code
def yX5_insert : MethodName := ⟨RX5, "insert", "(I)V"⟩
abbrev cX5_best : ByteArray := prog_7_method_4_code
def yX5_best : MethodName := ⟨RX5, "best", "()I"⟩
abbrev cX5_sumOfRanked : ByteArray := prog_7_method_5_code
def yX5_sumOfRanked : MethodName := ⟨RX5, "sumOfRanked", "()I"⟩
abbrev cX5_bookInto : ByteArray := prog_7_method_6_code
def yX5_bookInto : MethodName := ⟨RX5, "bookInto", "(LSunRows$Ledger;LSunRows$Field;)V"⟩
def RX6 : String := "SunRows$Tape"
def TX6 : u_T := fun k => match k with
  | 0 => ("SunRows$Tape", "numbers", "[I", true)
  | _ => ("SunRows$Tape", "size", "I", false)
def tyX6 : Nat → FieldType := fun k => match k with
  | 0 => .array .int
  | _ => .int
abbrev wsX60 : List Cond := u_ws RX6 TX6 2
theorem nmX6 : ∀ a, a < 2 → ∀ b, b < 2 → a ≠ b → (TX6 a).2.1 ≠ (TX6 b).2.1 := by decide +kernel
theorem tyX6_ok : ∀ k, k < 2 → parseFieldDescriptor (TX6 k).2.2.1 = some (tyX6 k) := by decide +kernel
abbrev cX6_init : ByteArray := prog_8_method_1_code
def yX6_init : MethodName := ⟨RX6, "<init>", "()V"⟩
abbrev cX6_append : ByteArray := prog_8_method_2_code
def yX6_append : MethodName := ⟨RX6, "append", "(I)V"⟩
abbrev cX6_clear : ByteArray := prog_8_method_3_code
def yX6_clear : MethodName := ⟨RX6, "clear", "()V"⟩
def RX7 : String := "SunRows$Washing"
def TX7 : u_T := fun k => match k with
  | 0 => ("SunRows$Washing", "bestSet", "I", false)
  | _ => ("SunRows$Washing", "bestValue", "J", false)
def tyX7 : Nat → FieldType := fun k => match k with
  | 0 => .int
  | _ => .long
abbrev wsX70 : List Cond := u_ws RX7 TX7 2
theorem nmX7 : ∀ a, a < 2 → ∀ b, b < 2 → a ≠ b → (TX7 a).2.1 ≠ (TX7 b).2.1 := by decide +kernel
theorem tyX7_ok : ∀ k, k < 2 → parseFieldDescriptor (TX7 k).2.2.1 = some (tyX7 k) := by decide +kernel
abbrev cX7_init : ByteArray := prog_9_method_1_code
def yX7_init : MethodName := ⟨RX7, "<init>", "()V"⟩
abbrev cX7_choose : ByteArray := prog_9_method_2_code
def yX7_choose : MethodName := ⟨RX7, "choose", "(LSunRows$Field;II)V"⟩
abbrev cX7_gain : ByteArray := prog_9_method_3_code
def yX7_gain : MethodName := ⟨RX7, "gain", "(LSunRows$Row;II)J"⟩
abbrev cX7_take : ByteArray := prog_9_method_4_code
def yX7_take : MethodName := ⟨RX7, "take", "(JI)V"⟩
def RX8 : String := "SunRows$Weather"
def TX8 : u_T := fun k => match k with
  | 0 => ("SunRows$Weather", "readings", "[I", true)
  | 1 => ("SunRows$Weather", "cleans", "[Z", true)
  | 2 => ("SunRows$Weather", "stowAt", "I", false)
  | 3 => ("SunRows$Weather", "lostInARow", "I", false)
  | _ => ("SunRows$Weather", "isStowed", "Z", false)
def tyX8 : Nat → FieldType := fun k => match k with
  | 0 => .array .int
  | 1 => .array .boolean
  | 2 => .int
  | 3 => .int
  | _ => .boolean
abbrev wsX80 : List Cond := u_ws RX8 TX8 5
theorem nmX8 : ∀ a, a < 5 → ∀ b, b < 5 → a ≠ b → (TX8 a).2.1 ≠ (TX8 b).2.1 := by decide +kernel
theorem tyX8_ok : ∀ k, k < 5 → parseFieldDescriptor (TX8 k).2.2.1 = some (tyX8 k) := by decide +kernel
abbrev cX8_init : ByteArray := prog_10_method_1_code
def yX8_init : MethodName := ⟨RX8, "<init>", "()V"⟩
abbrev cX8_stateAt : ByteArray := prog_10_method_2_code
def yX8_stateAt : MethodName := ⟨RX8, "stateAt", "(I)I"⟩
def RX9 : String := "SunRows"
def TX9 : u_T := fun k => match k with
  | 0 => ("SunRows", "field", "LSunRows$Field;", true)
  | 1 => ("SunRows", "sky", "LSunRows$Sky;", true)
  | 2 => ("SunRows", "strings", "LSunRows$Strings;", true)
  | 3 => ("SunRows", "weather", "LSunRows$Weather;", true)
  | 4 => ("SunRows", "ledger", "LSunRows$Ledger;", true)
  | 5 => ("SunRows", "washing", "LSunRows$Washing;", true)
  | 6 => ("SunRows", "tape", "LSunRows$Tape;", true)
  | 7 => ("SunRows", "answered", "[I", true)
  | 8 => ("SunRows", "nextHour", "I", false)
  | _ => ("SunRows", "latestTarget", "I", false)
def tyX9 : Nat → FieldType := fun k => match k with
  | 0 => .object "SunRows$Field"
  | 1 => .object "SunRows$Sky"
  | 2 => .object "SunRows$Strings"
  | 3 => .object "SunRows$Weather"
  | 4 => .object "SunRows$Ledger"
  | 5 => .object "SunRows$Washing"
  | 6 => .object "SunRows$Tape"
  | 7 => .array .int
  | 8 => .int
  | _ => .int
abbrev wsX90 : List Cond := u_ws RX9 TX9 10
theorem nmX9 : ∀ a, a < 10 → ∀ b, b < 10 → a ≠ b → (TX9 a).2.1 ≠ (TX9 b).2.1 := by decide +kernel
theorem tyX9_ok : ∀ k, k < 10 → parseFieldDescriptor (TX9 k).2.2.1 = some (tyX9 k) := by decide +kernel
abbrev cX9_init : ByteArray := prog_1_method_1_code
def yX9_init : MethodName := ⟨RX9, "<init>", "()V"⟩
abbrev cX9_row : ByteArray := prog_1_method_2_code
def yX9_row : MethodName := ⟨RX9, "row", "(IIIII)I"⟩
abbrev cX9_drop : ByteArray := prog_1_method_3_code
def yX9_drop : MethodName := ⟨RX9, "drop", "()I"⟩
abbrev cX9_about : ByteArray := prog_1_method_4_code
def yX9_about : MethodName := ⟨RX9, "about", "(II)I"⟩
abbrev cX9_as : ByteArray := prog_1_method_5_code
def yX9_as : MethodName := ⟨RX9, "as", "(II)I"⟩
abbrev cX9_turn : ByteArray := prog_1_method_6_code
def yX9_turn : MethodName := ⟨RX9, "turn", "(II)I"⟩
abbrev cX9_dust : ByteArray := prog_1_method_7_code
def yX9_dust : MethodName := ⟨RX9, "dust", "(II)I"⟩
abbrev cX9_sun : ByteArray := prog_1_method_8_code
def yX9_sun : MethodName := ⟨RX9, "sun", "(III)I"⟩
abbrev cX9_suns : ByteArray := prog_1_method_9_code
def yX9_suns : MethodName := ⟨RX9, "suns", "()I"⟩
abbrev cX9_ideal : ByteArray := prog_1_method_10_code
def yX9_ideal : MethodName := ⟨RX9, "ideal", "(I)I"⟩
abbrev cX9_back : ByteArray := prog_1_method_11_code
def yX9_back : MethodName := ⟨RX9, "back", "(I)I"⟩
abbrev cX9_breadth : ByteArray := prog_1_method_12_code
def yX9_breadth : MethodName := ⟨RX9, "breadth", "(II)J"⟩
abbrev cX9_shade : ByteArray := prog_1_method_13_code
def yX9_shade : MethodName := ⟨RX9, "shade", "(II)J"⟩
abbrev cX9_dark : ByteArray := prog_1_method_14_code
def yX9_dark : MethodName := ⟨RX9, "dark", "(II)I"⟩
abbrev cX9_string : ByteArray := prog_1_method_15_code
def yX9_string : MethodName := ⟨RX9, "string", "(II)I"⟩
abbrev cX9_ceiling : ByteArray := prog_1_method_16_code
def yX9_ceiling : MethodName := ⟨RX9, "ceiling", "(II)I"⟩
abbrev cX9_current : ByteArray := prog_1_method_17_code
def yX9_current : MethodName := ⟨RX9, "current", "(II)I"⟩
abbrev cX9_gives : ByteArray := prog_1_method_18_code
def yX9_gives : MethodName := ⟨RX9, "gives", "(II)I"⟩
abbrev cX9_wind : ByteArray := prog_1_method_19_code
def yX9_wind : MethodName := ⟨RX9, "wind", "(II)I"⟩
abbrev cX9_limit : ByteArray := prog_1_method_20_code
def yX9_limit : MethodName := ⟨RX9, "limit", "(I)I"⟩
abbrev cX9_cleaning : ByteArray := prog_1_method_21_code
def yX9_cleaning : MethodName := ⟨RX9, "cleaning", "(IZ)I"⟩
abbrev cX9_hour : ByteArray := prog_1_method_22_code
def yX9_hour : MethodName := ⟨RX9, "hour", "()I"⟩
abbrev cX9_hours : ByteArray := prog_1_method_23_code
def yX9_hours : MethodName := ⟨RX9, "hours", "(I)J"⟩
abbrev cX9_book : ByteArray := prog_1_method_24_code
def yX9_book : MethodName := ⟨RX9, "book", "(I)J"⟩
abbrev cX9_all : ByteArray := prog_1_method_25_code
def yX9_all : MethodName := ⟨RX9, "all", "(I)J"⟩
abbrev cX9_next : ByteArray := prog_1_method_26_code
def yX9_next : MethodName := ⟨RX9, "next", "()I"⟩
abbrev cX9_plan : ByteArray := prog_1_method_27_code
def yX9_plan : MethodName := ⟨RX9, "plan", "(II)I"⟩
abbrev cX9_worth : ByteArray := prog_1_method_28_code
def yX9_worth : MethodName := ⟨RX9, "worth", "(II)J"⟩
abbrev cX9_wash : ByteArray := prog_1_method_29_code
def yX9_wash : MethodName := ⟨RX9, "wash", "(I)I"⟩
abbrev cX9_storm : ByteArray := prog_1_method_30_code
def yX9_storm : MethodName := ⟨RX9, "storm", "(I)I"⟩
abbrev cX9_tell : ByteArray := prog_1_method_31_code
def yX9_tell : MethodName := ⟨RX9, "tell", "(I)I"⟩
abbrev cX9_check : ByteArray := prog_1_method_32_code
def yX9_check : MethodName := ⟨RX9, "check", "()I"⟩
abbrev cX9_found : ByteArray := prog_1_method_33_code
def yX9_found : MethodName := ⟨RX9, "found", "(I)I"⟩
abbrev cX9_answer : ByteArray := prog_1_method_34_code
def yX9_answer : MethodName := ⟨RX9, "answer", "(I)I"⟩
abbrev cX9_findingOfSight : ByteArray := prog_1_method_35_code
def yX9_findingOfSight : MethodName := ⟨RX9, "findingOfSight", "(II)I"⟩
abbrev cX9_findingOfShade : ByteArray := prog_1_method_36_code
def yX9_findingOfShade : MethodName := ⟨RX9, "findingOfShade", "(II)I"⟩
abbrev cX9_isRow : ByteArray := prog_1_method_37_code
def yX9_isRow : MethodName := ⟨RX9, "isRow", "(I)Z"⟩
abbrev cX9_isWithin : ByteArray := prog_1_method_38_code
def yX9_isWithin : MethodName := ⟨RX9, "isWithin", "(III)Z"⟩
abbrev cX9_isKind : ByteArray := prog_1_method_39_code
def yX9_isKind : MethodName := ⟨RX9, "isKind", "(I)Z"⟩
abbrev cX9_isStep : ByteArray := prog_1_method_40_code
def yX9_isStep : MethodName := ⟨RX9, "isStep", "(I)Z"⟩
abbrev cX9_isHour : ByteArray := prog_1_method_41_code
def yX9_isHour : MethodName := ⟨RX9, "isHour", "(I)Z"⟩
abbrev cX9_isString : ByteArray := prog_1_method_42_code
def yX9_isString : MethodName := ⟨RX9, "isString", "(I)Z"⟩
abbrev cX9_isSunWay : ByteArray := prog_1_method_43_code
def yX9_isSunWay : MethodName := ⟨RX9, "isSunWay", "(III)Z"⟩
abbrev cX9_isWashPlan : ByteArray := prog_1_method_44_code
def yX9_isWashPlan : MethodName := ⟨RX9, "isWashPlan", "(II)Z"⟩
abbrev cX9_lookFrom : ByteArray := prog_1_method_45_code
def yX9_lookFrom : MethodName := ⟨RX9, "lookFrom", "(I)V"⟩
abbrev cX9_passHour : ByteArray := prog_1_method_46_code
def yX9_passHour : MethodName := ⟨RX9, "passHour", "()V"⟩
abbrev cX9_targetStep : ByteArray := prog_1_method_47_code
def yX9_targetStep : MethodName := ⟨RX9, "targetStep", "(II)I"⟩
def RX10 : String := "SunRowsModel"
def TX10 : u_T := fun k => match k with
  | 0 => ("SunRowsModel", "rows", "I", false)
  | 1 => ("SunRowsModel", "kindOf", "[I", true)
  | 2 => ("SunRowsModel", "placeOf", "[I", true)
  | 3 => ("SunRowsModel", "heightOf", "[I", true)
  | 4 => ("SunRowsModel", "widthOf", "[I", true)
  | 5 => ("SunRowsModel", "dustOf", "[I", true)
  | 6 => ("SunRowsModel", "stepOf", "[I", true)
  | 7 => ("SunRowsModel", "stringOf", "[I", true)
  | 8 => ("SunRowsModel", "sunX", "[I", true)
  | 9 => ("SunRowsModel", "sunY", "[I", true)
  | 10 => ("SunRowsModel", "windOf", "[I", true)
  | 11 => ("SunRowsModel", "cleans", "[Z", true)
  | 12 => ("SunRowsModel", "ceilings", "[I", true)
  | 13 => ("SunRowsModel", "limit", "I", false)
  | 14 => ("SunRowsModel", "nextHour", "I", false)
  | 15 => ("SunRowsModel", "state", "I", false)
  | 16 => ("SunRowsModel", "lostRow", "I", false)
  | 17 => ("SunRowsModel", "went", "Z", false)
  | 18 => ("SunRowsModel", "lastStep", "I", false)
  | 19 => ("SunRowsModel", "lastState", "I", false)
  | 20 => ("SunRowsModel", "book", "[J", true)
  | 21 => ("SunRowsModel", "all", "[J", true)
  | 22 => ("SunRowsModel", "taped", "I", false)
  | 23 => ("SunRowsModel", "tape", "[I", true)
  | 24 => ("SunRowsModel", "findings", "[I", true)
  | 25 => ("SunRowsModel", "tried", "I", false)
  | 26 => ("SunRowsModel", "currents", "[J", true)
  | _ => ("SunRowsModel", "bestSet", "I", false)
def tyX10 : Nat → FieldType := fun k => match k with
  | 0 => .int
  | 1 => .array .int
  | 2 => .array .int
  | 3 => .array .int
  | 4 => .array .int
  | 5 => .array .int
  | 6 => .array .int
  | 7 => .array .int
  | 8 => .array .int
  | 9 => .array .int
  | 10 => .array .int
  | 11 => .array .boolean
  | 12 => .array .int
  | 13 => .int
  | 14 => .int
  | 15 => .int
  | 16 => .int
  | 17 => .boolean
  | 18 => .int
  | 19 => .int
  | 20 => .array .long
  | 21 => .array .long
  | 22 => .int
  | 23 => .array .int
  | 24 => .array .int
  | 25 => .int
  | 26 => .array .long
  | _ => .int
abbrev wsX100 : List Cond := u_ws RX10 TX10 28
theorem nmX10 : ∀ a, a < 28 → ∀ b, b < 28 → a ≠ b → (TX10 a).2.1 ≠ (TX10 b).2.1 := by decide +kernel
theorem tyX10_ok : ∀ k, k < 28 → parseFieldDescriptor (TX10 k).2.2.1 = some (tyX10 k) := by decide +kernel
abbrev cX10_init : ByteArray := prog_12_method_1_code
def yX10_init : MethodName := ⟨RX10, "<init>", "()V"⟩
abbrev cX10_finding : ByteArray := prog_12_method_2_code
def yX10_finding : MethodName := ⟨RX10, "finding", "(I)I"⟩
abbrev cX10_in : ByteArray := prog_12_method_3_code
def yX10_in : MethodName := ⟨RX10, "in", "(III)Z"⟩
abbrev cX10_isRow : ByteArray := prog_12_method_4_code
def yX10_isRow : MethodName := ⟨RX10, "isRow", "(I)Z"⟩
abbrev cX10_isHour : ByteArray := prog_12_method_5_code
def yX10_isHour : MethodName := ⟨RX10, "isHour", "(I)Z"⟩
abbrev cX10_isStep : ByteArray := prog_12_method_6_code
def yX10_isStep : MethodName := ⟨RX10, "isStep", "(I)Z"⟩
abbrev cX10_isNight : ByteArray := prog_12_method_7_code
def yX10_isNight : MethodName := ⟨RX10, "isNight", "(I)Z"⟩
abbrev cX10_cosine : ByteArray := prog_12_method_8_code
def yX10_cosine : MethodName := ⟨RX10, "cosine", "(I)J"⟩
abbrev cX10_sine : ByteArray := prog_12_method_9_code
def yX10_sine : MethodName := ⟨RX10, "sine", "(I)J"⟩
abbrev cX10_row : ByteArray := prog_12_method_10_code
def yX10_row : MethodName := ⟨RX10, "row", "(IIIII)I"⟩
abbrev cX10_drop : ByteArray := prog_12_method_11_code
def yX10_drop : MethodName := ⟨RX10, "drop", "()I"⟩
abbrev cX10_about : ByteArray := prog_12_method_12_code
def yX10_about : MethodName := ⟨RX10, "about", "(II)I"⟩
abbrev cX10_as : ByteArray := prog_12_method_13_code
def yX10_as : MethodName := ⟨RX10, "as", "(II)I"⟩
abbrev cX10_turn : ByteArray := prog_12_method_14_code
def yX10_turn : MethodName := ⟨RX10, "turn", "(II)I"⟩
abbrev cX10_dust : ByteArray := prog_12_method_15_code
def yX10_dust : MethodName := ⟨RX10, "dust", "(II)I"⟩
abbrev cX10_isSun : ByteArray := prog_12_method_16_code
def yX10_isSun : MethodName := ⟨RX10, "isSun", "(III)Z"⟩
abbrev cX10_setSun : ByteArray := prog_12_method_17_code
def yX10_setSun : MethodName := ⟨RX10, "setSun", "(III)V"⟩
abbrev cX10_sun : ByteArray := prog_12_method_18_code
def yX10_sun : MethodName := ⟨RX10, "sun", "(III)I"⟩
abbrev cX10_suns : ByteArray := prog_12_method_19_code
def yX10_suns : MethodName := ⟨RX10, "suns", "()I"⟩
abbrev cX10_stepAt : ByteArray := prog_12_method_20_code
def yX10_stepAt : MethodName := ⟨RX10, "stepAt", "(I)I"⟩
abbrev cX10_look : ByteArray := prog_12_method_21_code
def yX10_look : MethodName := ⟨RX10, "look", "(III)J"⟩
abbrev cX10_breadthOf : ByteArray := prog_12_method_22_code
def yX10_breadthOf : MethodName := ⟨RX10, "breadthOf", "(II)J"⟩
abbrev cX10_isAhead : ByteArray := prog_12_method_23_code
def yX10_isAhead : MethodName := ⟨RX10, "isAhead", "(III)Z"⟩
abbrev cX10_shaded : ByteArray := prog_12_method_24_code
def yX10_shaded : MethodName := ⟨RX10, "shaded", "(IIJJ)J"⟩
abbrev cX10_shadeOf : ByteArray := prog_12_method_25_code
def yX10_shadeOf : MethodName := ⟨RX10, "shadeOf", "(II)J"⟩
abbrev cX10_darkOf : ByteArray := prog_12_method_26_code
def yX10_darkOf : MethodName := ⟨RX10, "darkOf", "(II)I"⟩
abbrev cX10_idealOf : ByteArray := prog_12_method_27_code
def yX10_idealOf : MethodName := ⟨RX10, "idealOf", "(I)I"⟩
abbrev cX10_isClear : ByteArray := prog_12_method_28_code
def yX10_isClear : MethodName := ⟨RX10, "isClear", "(II)Z"⟩
abbrev cX10_backOf : ByteArray := prog_12_method_29_code
def yX10_backOf : MethodName := ⟨RX10, "backOf", "(I)I"⟩
abbrev cX10_ideal : ByteArray := prog_12_method_30_code
def yX10_ideal : MethodName := ⟨RX10, "ideal", "(I)I"⟩
abbrev cX10_back : ByteArray := prog_12_method_31_code
def yX10_back : MethodName := ⟨RX10, "back", "(I)I"⟩
abbrev cX10_unseen : ByteArray := prog_12_method_32_code
def yX10_unseen : MethodName := ⟨RX10, "unseen", "(II)I"⟩
abbrev cX10_breadth : ByteArray := prog_12_method_33_code
def yX10_breadth : MethodName := ⟨RX10, "breadth", "(II)J"⟩
abbrev cX10_unlit : ByteArray := prog_12_method_34_code
def yX10_unlit : MethodName := ⟨RX10, "unlit", "(II)I"⟩
abbrev cX10_shade : ByteArray := prog_12_method_35_code
def yX10_shade : MethodName := ⟨RX10, "shade", "(II)J"⟩
abbrev cX10_dark : ByteArray := prog_12_method_36_code
def yX10_dark : MethodName := ⟨RX10, "dark", "(II)I"⟩
abbrev cX10_isString : ByteArray := prog_12_method_37_code
def yX10_isString : MethodName := ⟨RX10, "isString", "(I)Z"⟩
abbrev cX10_string : ByteArray := prog_12_method_38_code
def yX10_string : MethodName := ⟨RX10, "string", "(II)I"⟩
abbrev cX10_ceiling : ByteArray := prog_12_method_39_code
def yX10_ceiling : MethodName := ⟨RX10, "ceiling", "(II)I"⟩
abbrev cX10_clean : ByteArray := prog_12_method_40_code
def yX10_clean : MethodName := ⟨RX10, "clean", "(II)J"⟩
abbrev cX10_dusted : ByteArray := prog_12_method_41_code
def yX10_dusted : MethodName := ⟨RX10, "dusted", "(II)J"⟩
abbrev cX10_currentOf : ByteArray := prog_12_method_42_code
def yX10_currentOf : MethodName := ⟨RX10, "currentOf", "(II)J"⟩
abbrev cX10_givesOf : ByteArray := prog_12_method_43_code
def yX10_givesOf : MethodName := ⟨RX10, "givesOf", "(II)J"⟩
abbrev cX10_current : ByteArray := prog_12_method_44_code
def yX10_current : MethodName := ⟨RX10, "current", "(II)I"⟩
abbrev cX10_gives : ByteArray := prog_12_method_45_code
def yX10_gives : MethodName := ⟨RX10, "gives", "(II)I"⟩
abbrev cX10_wind : ByteArray := prog_12_method_46_code
def yX10_wind : MethodName := ⟨RX10, "wind", "(II)I"⟩
abbrev cX10_limit : ByteArray := prog_12_method_47_code
def yX10_limit : MethodName := ⟨RX10, "limit", "(I)I"⟩
abbrev cX10_cleaning : ByteArray := prog_12_method_48_code
def yX10_cleaning : MethodName := ⟨RX10, "cleaning", "(IZ)I"⟩
abbrev cX10_findState : ByteArray := prog_12_method_49_code
def yX10_findState : MethodName := ⟨RX10, "findState", "(I)V"⟩
abbrev cX10_stepFor : ByteArray := prog_12_method_50_code
def yX10_stepFor : MethodName := ⟨RX10, "stepFor", "(I)I"⟩
abbrev cX10_setSteps : ByteArray := prog_12_method_51_code
def yX10_setSteps : MethodName := ⟨RX10, "setSteps", "(I)V"⟩
abbrev cX10_writeBook : ByteArray := prog_12_method_52_code
def yX10_writeBook : MethodName := ⟨RX10, "writeBook", "(I)V"⟩
abbrev cX10_hour : ByteArray := prog_12_method_53_code
def yX10_hour : MethodName := ⟨RX10, "hour", "()I"⟩
abbrev cX10_hours : ByteArray := prog_12_method_54_code
def yX10_hours : MethodName := ⟨RX10, "hours", "(I)J"⟩
abbrev cX10_book : ByteArray := prog_12_method_55_code
def yX10_book : MethodName := ⟨RX10, "book", "(I)J"⟩
abbrev cX10_all : ByteArray := prog_12_method_56_code
def yX10_all : MethodName := ⟨RX10, "all", "(I)J"⟩
abbrev cX10_next : ByteArray := prog_12_method_57_code
def yX10_next : MethodName := ⟨RX10, "next", "()I"⟩
abbrev cX10_bestWorth : ByteArray := prog_12_method_58_code
def yX10_bestWorth : MethodName := ⟨RX10, "bestWorth", "(II)J"⟩
abbrev cX10_isPlan : ByteArray := prog_12_method_59_code
def yX10_isPlan : MethodName := ⟨RX10, "isPlan", "(II)Z"⟩
abbrev cX10_plan : ByteArray := prog_12_method_60_code
def yX10_plan : MethodName := ⟨RX10, "plan", "(II)I"⟩
abbrev cX10_worth : ByteArray := prog_12_method_61_code
def yX10_worth : MethodName := ⟨RX10, "worth", "(II)J"⟩
abbrev cX10_wash : ByteArray := prog_12_method_62_code
def yX10_wash : MethodName := ⟨RX10, "wash", "(I)I"⟩
abbrev cX10_storm : ByteArray := prog_12_method_63_code
def yX10_storm : MethodName := ⟨RX10, "storm", "(I)I"⟩
abbrev cX10_tell : ByteArray := prog_12_method_64_code
def yX10_tell : MethodName := ⟨RX10, "tell", "(I)I"⟩
abbrev cX10_check : ByteArray := prog_12_method_65_code
def yX10_check : MethodName := ⟨RX10, "check", "()I"⟩
abbrev cX10_found : ByteArray := prog_12_method_66_code
def yX10_found : MethodName := ⟨RX10, "found", "(I)I"⟩
def RJ6 : String := "java/lang/Integer"
def TJ6 : u_T := fun k => match k with
  | _ => ("", "", "", false)
def tyJ6 : Nat → FieldType := fun k => match k with
  | _ => .int
abbrev wsJ60 : List Cond := u_ws RJ6 TJ6 0
theorem nmJ6 : ∀ a, a < 0 → ∀ b, b < 0 → a ≠ b → (TJ6 a).2.1 ≠ (TJ6 b).2.1 := by decide +kernel
theorem tyJ6_ok : ∀ k, k < 0 → parseFieldDescriptor (TJ6 k).2.2.1 = some (tyJ6 k) := by decide +kernel
abbrev cJ6_bitCount_0f7a4 : ByteArray := prog_13_method_49_code
def yJ6_bitCount_0f7a4 : MethodName := ⟨RJ6, "bitCount", "(I)I"⟩
def RJ9 : String := "java/lang/Math"
def TJ9 : u_T := fun k => match k with
  | _ => ("", "", "", false)
def tyJ9 : Nat → FieldType := fun k => match k with
  | _ => .int
abbrev wsJ90 : List Cond := u_ws RJ9 TJ9 0
theorem nmJ9 : ∀ a, a < 0 → ∀ b, b < 0 → a ≠ b → (TJ9 a).2.1 ≠ (TJ9 b).2.1 := by decide +kernel
theorem tyJ9_ok : ∀ k, k < 0 → parseFieldDescriptor (TJ9 k).2.2.1 = some (tyJ9 k) := by decide +kernel
abbrev cJ9_abs_0f7a4 : ByteArray := prog_14_method_59_code
def yJ9_abs_0f7a4 : MethodName := ⟨RJ9, "abs", "(I)I"⟩
abbrev cJ9_max_7cf53 : ByteArray := prog_14_method_65_code
def yJ9_max_7cf53 : MethodName := ⟨RJ9, "max", "(II)I"⟩
abbrev cJ9_max_f86c9 : ByteArray := prog_14_method_66_code
def yJ9_max_f86c9 : MethodName := ⟨RJ9, "max", "(JJ)J"⟩
abbrev cJ9_min_7cf53 : ByteArray := prog_14_method_69_code
def yJ9_min_7cf53 : MethodName := ⟨RJ9, "min", "(II)I"⟩
abbrev cJ9_min_f86c9 : ByteArray := prog_14_method_70_code
def yJ9_min_f86c9 : MethodName := ⟨RJ9, "min", "(JJ)J"⟩
def RL : String := "SunRowsLaw"
abbrev cL_law : ByteArray := code
def yL_law : MethodName := ⟨RL, "law", "([I)Z"⟩
abbrev vwCl : List vw_C := [(RX0, TX0, 7), (RX1, TX1, 5), (RX2, TX2, 5), (RX3, TX3, 7), (RX4, TX4, 2), (RX5, TX5, 3), (RX6, TX6, 2), (RX7, TX7, 2), (RX8, TX8, 5), (RX9, TX9, 10), (RX10, TX10, 28)]
