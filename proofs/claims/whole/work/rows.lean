section
-- ===== PART A: goes FIRST, ahead of the names: the tables' words, and 'selects' of the private methods out of them =====
/-- a private method of a class that the tables say can be made, by its rows of tables_1 -/
def lw_okq (q : MethodName × Nat) : Prop := (q.1.cls ≠ "java/lang/invoke/MethodHandle" ∧ q.1.cls ≠ "java/lang/invoke/VarHandle") ∧ Cond.instantiable q.1.cls q.2 ∈ tables_1 ∧ Cond.privateMethod q.1 ∈ tables_1 ∧ Cond.instanceMethod q.1 ∈ tables_1
theorem lw_p0 : lw_okq (⟨"SunRows", "answer", "(I)I"⟩, 10) := ⟨⟨by decide +kernel, by decide +kernel⟩, List.mem_of_getElem? (i := 15) (by decide +kernel), List.mem_of_getElem? (i := 295) (by decide +kernel), List.mem_of_getElem? (i := 296) (by decide +kernel)⟩
theorem lw_p1 : lw_okq (⟨"SunRows", "isRow", "(I)Z"⟩, 10) := ⟨⟨by decide +kernel, by decide +kernel⟩, List.mem_of_getElem? (i := 15) (by decide +kernel), List.mem_of_getElem? (i := 318) (by decide +kernel), List.mem_of_getElem? (i := 319) (by decide +kernel)⟩
theorem lw_p2 : lw_okq (⟨"SunRows$Field", "isFreeAt", "(III)Z"⟩, 7) := ⟨⟨by decide +kernel, by decide +kernel⟩, List.mem_of_getElem? (i := 23) (by decide +kernel), List.mem_of_getElem? (i := 386) (by decide +kernel), List.mem_of_getElem? (i := 387) (by decide +kernel)⟩
theorem lw_p3 : lw_okq (⟨"SunRows$Field", "firstAhead", "(I)I"⟩, 7) := ⟨⟨by decide +kernel, by decide +kernel⟩, List.mem_of_getElem? (i := 23) (by decide +kernel), List.mem_of_getElem? (i := 405) (by decide +kernel), List.mem_of_getElem? (i := 406) (by decide +kernel)⟩
theorem lw_p4 : lw_okq (⟨"SunRows$Field", "lastAhead", "(I)I"⟩, 7) := ⟨⟨by decide +kernel, by decide +kernel⟩, List.mem_of_getElem? (i := 23) (by decide +kernel), List.mem_of_getElem? (i := 409) (by decide +kernel), List.mem_of_getElem? (i := 410) (by decide +kernel)⟩
theorem lw_p5 : lw_okq (⟨"SunRows$Looks", "shadeStart", "(II)J"⟩, 5) := ⟨⟨by decide +kernel, by decide +kernel⟩, List.mem_of_getElem? (i := 31) (by decide +kernel), List.mem_of_getElem? (i := 417) (by decide +kernel), List.mem_of_getElem? (i := 418) (by decide +kernel)⟩
theorem lw_p6 : lw_okq (⟨"SunRows$Looks", "shadeEnd", "(II)J"⟩, 5) := ⟨⟨by decide +kernel, by decide +kernel⟩, List.mem_of_getElem? (i := 31) (by decide +kernel), List.mem_of_getElem? (i := 427) (by decide +kernel), List.mem_of_getElem? (i := 428) (by decide +kernel)⟩
theorem lw_p7 : lw_okq (⟨"SunRows", "findingOfSight", "(II)I"⟩, 10) := ⟨⟨by decide +kernel, by decide +kernel⟩, List.mem_of_getElem? (i := 15) (by decide +kernel), List.mem_of_getElem? (i := 435) (by decide +kernel), List.mem_of_getElem? (i := 436) (by decide +kernel)⟩
theorem lw_p8 : lw_okq (⟨"SunRows", "lookFrom", "(I)V"⟩, 10) := ⟨⟨by decide +kernel, by decide +kernel⟩, List.mem_of_getElem? (i := 15) (by decide +kernel), List.mem_of_getElem? (i := 439) (by decide +kernel), List.mem_of_getElem? (i := 440) (by decide +kernel)⟩
theorem lw_p9 : lw_okq (⟨"SunRows", "findingOfShade", "(II)I"⟩, 10) := ⟨⟨by decide +kernel, by decide +kernel⟩, List.mem_of_getElem? (i := 15) (by decide +kernel), List.mem_of_getElem? (i := 455) (by decide +kernel), List.mem_of_getElem? (i := 456) (by decide +kernel)⟩
theorem lw_p10 : lw_okq (⟨"SunRows$Looks", "addPiece", "(JJ)V"⟩, 5) := ⟨⟨by decide +kernel, by decide +kernel⟩, List.mem_of_getElem? (i := 31) (by decide +kernel), List.mem_of_getElem? (i := 468) (by decide +kernel), List.mem_of_getElem? (i := 469) (by decide +kernel)⟩
theorem lw_p11 : lw_okq (⟨"SunRows$Strings", "insert", "(I)V"⟩, 3) := ⟨⟨by decide +kernel, by decide +kernel⟩, List.mem_of_getElem? (i := 148) (by decide +kernel), List.mem_of_getElem? (i := 529) (by decide +kernel), List.mem_of_getElem? (i := 530) (by decide +kernel)⟩
theorem lw_p12 : lw_okq (⟨"SunRows", "passHour", "()V"⟩, 10) := ⟨⟨by decide +kernel, by decide +kernel⟩, List.mem_of_getElem? (i := 15) (by decide +kernel), List.mem_of_getElem? (i := 556) (by decide +kernel), List.mem_of_getElem? (i := 557) (by decide +kernel)⟩
theorem lw_p13 : lw_okq (⟨"SunRows", "targetStep", "(II)I"⟩, 10) := ⟨⟨by decide +kernel, by decide +kernel⟩, List.mem_of_getElem? (i := 15) (by decide +kernel), List.mem_of_getElem? (i := 567) (by decide +kernel), List.mem_of_getElem? (i := 568) (by decide +kernel)⟩
theorem lw_p14 : lw_okq (⟨"SunRows$Strings", "sumOfRanked", "()I"⟩, 3) := ⟨⟨by decide +kernel, by decide +kernel⟩, List.mem_of_getElem? (i := 148) (by decide +kernel), List.mem_of_getElem? (i := 590) (by decide +kernel), List.mem_of_getElem? (i := 591) (by decide +kernel)⟩
theorem lw_p15 : lw_okq (⟨"SunRows$Washing", "take", "(JI)V"⟩, 2) := ⟨⟨by decide +kernel, by decide +kernel⟩, List.mem_of_getElem? (i := 220) (by decide +kernel), List.mem_of_getElem? (i := 637) (by decide +kernel), List.mem_of_getElem? (i := 638) (by decide +kernel)⟩
def lw_privs_1 : List (MethodName × Nat) := [(⟨"SunRows", "answer", "(I)I"⟩, 10), (⟨"SunRows", "isRow", "(I)Z"⟩, 10), (⟨"SunRows$Field", "isFreeAt", "(III)Z"⟩, 7), (⟨"SunRows$Field", "firstAhead", "(I)I"⟩, 7), (⟨"SunRows$Field", "lastAhead", "(I)I"⟩, 7), (⟨"SunRows$Looks", "shadeStart", "(II)J"⟩, 5), (⟨"SunRows$Looks", "shadeEnd", "(II)J"⟩, 5), (⟨"SunRows", "findingOfSight", "(II)I"⟩, 10), (⟨"SunRows", "lookFrom", "(I)V"⟩, 10), (⟨"SunRows", "findingOfShade", "(II)I"⟩, 10), (⟨"SunRows$Looks", "addPiece", "(JJ)V"⟩, 5), (⟨"SunRows$Strings", "insert", "(I)V"⟩, 3), (⟨"SunRows", "passHour", "()V"⟩, 10), (⟨"SunRows", "targetStep", "(II)I"⟩, 10), (⟨"SunRows$Strings", "sumOfRanked", "()I"⟩, 3), (⟨"SunRows$Washing", "take", "(JI)V"⟩, 2)]
theorem lw_r1 : ∀ q ∈ lw_privs_1, lw_okq q := List.forall_mem_cons.mpr ⟨lw_p0, List.forall_mem_cons.mpr ⟨lw_p1, List.forall_mem_cons.mpr ⟨lw_p2, List.forall_mem_cons.mpr ⟨lw_p3, List.forall_mem_cons.mpr ⟨lw_p4, List.forall_mem_cons.mpr ⟨lw_p5, List.forall_mem_cons.mpr ⟨lw_p6, List.forall_mem_cons.mpr ⟨lw_p7, List.forall_mem_cons.mpr ⟨lw_p8, List.forall_mem_cons.mpr ⟨lw_p9, List.forall_mem_cons.mpr ⟨lw_p10, List.forall_mem_cons.mpr ⟨lw_p11, List.forall_mem_cons.mpr ⟨lw_p12, List.forall_mem_cons.mpr ⟨lw_p13, List.forall_mem_cons.mpr ⟨lw_p14, List.forall_mem_cons.mpr ⟨lw_p15, fun _ h => absurd h List.not_mem_nil⟩⟩⟩⟩⟩⟩⟩⟩⟩⟩⟩⟩⟩⟩⟩⟩
theorem lw_p16 : lw_okq (⟨"SunRowsModel", "finding", "(I)I"⟩, 28) := ⟨⟨by decide +kernel, by decide +kernel⟩, List.mem_of_getElem? (i := 678) (by decide +kernel), List.mem_of_getElem? (i := 781) (by decide +kernel), List.mem_of_getElem? (i := 782) (by decide +kernel)⟩
theorem lw_p17 : lw_okq (⟨"SunRowsModel", "isRow", "(I)Z"⟩, 28) := ⟨⟨by decide +kernel, by decide +kernel⟩, List.mem_of_getElem? (i := 678) (by decide +kernel), List.mem_of_getElem? (i := 797) (by decide +kernel), List.mem_of_getElem? (i := 798) (by decide +kernel)⟩
theorem lw_p18 : lw_okq (⟨"SunRowsModel", "setSun", "(III)V"⟩, 28) := ⟨⟨by decide +kernel, by decide +kernel⟩, List.mem_of_getElem? (i := 678) (by decide +kernel), List.mem_of_getElem? (i := 824) (by decide +kernel), List.mem_of_getElem? (i := 825) (by decide +kernel)⟩
theorem lw_p19 : lw_okq (⟨"SunRowsModel", "isNight", "(I)Z"⟩, 28) := ⟨⟨by decide +kernel, by decide +kernel⟩, List.mem_of_getElem? (i := 678) (by decide +kernel), List.mem_of_getElem? (i := 836) (by decide +kernel), List.mem_of_getElem? (i := 837) (by decide +kernel)⟩
theorem lw_p20 : lw_okq (⟨"SunRowsModel", "idealOf", "(I)I"⟩, 28) := ⟨⟨by decide +kernel, by decide +kernel⟩, List.mem_of_getElem? (i := 678) (by decide +kernel), List.mem_of_getElem? (i := 840) (by decide +kernel), List.mem_of_getElem? (i := 841) (by decide +kernel)⟩
theorem lw_p21 : lw_okq (⟨"SunRowsModel", "backOf", "(I)I"⟩, 28) := ⟨⟨by decide +kernel, by decide +kernel⟩, List.mem_of_getElem? (i := 678) (by decide +kernel), List.mem_of_getElem? (i := 872) (by decide +kernel), List.mem_of_getElem? (i := 873) (by decide +kernel)⟩
theorem lw_p22 : lw_okq (⟨"SunRowsModel", "isClear", "(II)Z"⟩, 28) := ⟨⟨by decide +kernel, by decide +kernel⟩, List.mem_of_getElem? (i := 678) (by decide +kernel), List.mem_of_getElem? (i := 876) (by decide +kernel), List.mem_of_getElem? (i := 877) (by decide +kernel)⟩
theorem lw_p23 : lw_okq (⟨"SunRowsModel", "breadthOf", "(II)J"⟩, 28) := ⟨⟨by decide +kernel, by decide +kernel⟩, List.mem_of_getElem? (i := 678) (by decide +kernel), List.mem_of_getElem? (i := 880) (by decide +kernel), List.mem_of_getElem? (i := 881) (by decide +kernel)⟩
theorem lw_p24 : lw_okq (⟨"SunRowsModel", "look", "(III)J"⟩, 28) := ⟨⟨by decide +kernel, by decide +kernel⟩, List.mem_of_getElem? (i := 678) (by decide +kernel), List.mem_of_getElem? (i := 884) (by decide +kernel), List.mem_of_getElem? (i := 885) (by decide +kernel)⟩
theorem lw_p25 : lw_okq (⟨"SunRowsModel", "stepAt", "(I)I"⟩, 28) := ⟨⟨by decide +kernel, by decide +kernel⟩, List.mem_of_getElem? (i := 678) (by decide +kernel), List.mem_of_getElem? (i := 888) (by decide +kernel), List.mem_of_getElem? (i := 889) (by decide +kernel)⟩
theorem lw_p26 : lw_okq (⟨"SunRowsModel", "shadeOf", "(II)J"⟩, 28) := ⟨⟨by decide +kernel, by decide +kernel⟩, List.mem_of_getElem? (i := 678) (by decide +kernel), List.mem_of_getElem? (i := 894) (by decide +kernel), List.mem_of_getElem? (i := 895) (by decide +kernel)⟩
theorem lw_p27 : lw_okq (⟨"SunRowsModel", "shaded", "(IIJJ)J"⟩, 28) := ⟨⟨by decide +kernel, by decide +kernel⟩, List.mem_of_getElem? (i := 678) (by decide +kernel), List.mem_of_getElem? (i := 899) (by decide +kernel), List.mem_of_getElem? (i := 900) (by decide +kernel)⟩
theorem lw_p28 : lw_okq (⟨"SunRowsModel", "isAhead", "(III)Z"⟩, 28) := ⟨⟨by decide +kernel, by decide +kernel⟩, List.mem_of_getElem? (i := 678) (by decide +kernel), List.mem_of_getElem? (i := 903) (by decide +kernel), List.mem_of_getElem? (i := 904) (by decide +kernel)⟩
theorem lw_p29 : lw_okq (⟨"SunRowsModel", "unseen", "(II)I"⟩, 28) := ⟨⟨by decide +kernel, by decide +kernel⟩, List.mem_of_getElem? (i := 678) (by decide +kernel), List.mem_of_getElem? (i := 911) (by decide +kernel), List.mem_of_getElem? (i := 912) (by decide +kernel)⟩
theorem lw_p30 : lw_okq (⟨"SunRowsModel", "unlit", "(II)I"⟩, 28) := ⟨⟨by decide +kernel, by decide +kernel⟩, List.mem_of_getElem? (i := 678) (by decide +kernel), List.mem_of_getElem? (i := 919) (by decide +kernel), List.mem_of_getElem? (i := 920) (by decide +kernel)⟩
theorem lw_p31 : lw_okq (⟨"SunRowsModel", "darkOf", "(II)I"⟩, 28) := ⟨⟨by decide +kernel, by decide +kernel⟩, List.mem_of_getElem? (i := 678) (by decide +kernel), List.mem_of_getElem? (i := 927) (by decide +kernel), List.mem_of_getElem? (i := 928) (by decide +kernel)⟩
def lw_privs_2 : List (MethodName × Nat) := [(⟨"SunRowsModel", "finding", "(I)I"⟩, 28), (⟨"SunRowsModel", "isRow", "(I)Z"⟩, 28), (⟨"SunRowsModel", "setSun", "(III)V"⟩, 28), (⟨"SunRowsModel", "isNight", "(I)Z"⟩, 28), (⟨"SunRowsModel", "idealOf", "(I)I"⟩, 28), (⟨"SunRowsModel", "backOf", "(I)I"⟩, 28), (⟨"SunRowsModel", "isClear", "(II)Z"⟩, 28), (⟨"SunRowsModel", "breadthOf", "(II)J"⟩, 28), (⟨"SunRowsModel", "look", "(III)J"⟩, 28), (⟨"SunRowsModel", "stepAt", "(I)I"⟩, 28), (⟨"SunRowsModel", "shadeOf", "(II)J"⟩, 28), (⟨"SunRowsModel", "shaded", "(IIJJ)J"⟩, 28), (⟨"SunRowsModel", "isAhead", "(III)Z"⟩, 28), (⟨"SunRowsModel", "unseen", "(II)I"⟩, 28), (⟨"SunRowsModel", "unlit", "(II)I"⟩, 28), (⟨"SunRowsModel", "darkOf", "(II)I"⟩, 28)]
theorem lw_r2 : ∀ q ∈ lw_privs_2, lw_okq q := List.forall_mem_cons.mpr ⟨lw_p16, List.forall_mem_cons.mpr ⟨lw_p17, List.forall_mem_cons.mpr ⟨lw_p18, List.forall_mem_cons.mpr ⟨lw_p19, List.forall_mem_cons.mpr ⟨lw_p20, List.forall_mem_cons.mpr ⟨lw_p21, List.forall_mem_cons.mpr ⟨lw_p22, List.forall_mem_cons.mpr ⟨lw_p23, List.forall_mem_cons.mpr ⟨lw_p24, List.forall_mem_cons.mpr ⟨lw_p25, List.forall_mem_cons.mpr ⟨lw_p26, List.forall_mem_cons.mpr ⟨lw_p27, List.forall_mem_cons.mpr ⟨lw_p28, List.forall_mem_cons.mpr ⟨lw_p29, List.forall_mem_cons.mpr ⟨lw_p30, List.forall_mem_cons.mpr ⟨lw_p31, fun _ h => absurd h List.not_mem_nil⟩⟩⟩⟩⟩⟩⟩⟩⟩⟩⟩⟩⟩⟩⟩⟩
theorem lw_p32 : lw_okq (⟨"SunRowsModel", "currentOf", "(II)J"⟩, 28) := ⟨⟨by decide +kernel, by decide +kernel⟩, List.mem_of_getElem? (i := 678) (by decide +kernel), List.mem_of_getElem? (i := 946) (by decide +kernel), List.mem_of_getElem? (i := 947) (by decide +kernel)⟩
theorem lw_p33 : lw_okq (⟨"SunRowsModel", "clean", "(II)J"⟩, 28) := ⟨⟨by decide +kernel, by decide +kernel⟩, List.mem_of_getElem? (i := 678) (by decide +kernel), List.mem_of_getElem? (i := 950) (by decide +kernel), List.mem_of_getElem? (i := 951) (by decide +kernel)⟩
theorem lw_p34 : lw_okq (⟨"SunRowsModel", "dusted", "(II)J"⟩, 28) := ⟨⟨by decide +kernel, by decide +kernel⟩, List.mem_of_getElem? (i := 678) (by decide +kernel), List.mem_of_getElem? (i := 955) (by decide +kernel), List.mem_of_getElem? (i := 956) (by decide +kernel)⟩
theorem lw_p35 : lw_okq (⟨"SunRowsModel", "givesOf", "(II)J"⟩, 28) := ⟨⟨by decide +kernel, by decide +kernel⟩, List.mem_of_getElem? (i := 678) (by decide +kernel), List.mem_of_getElem? (i := 964) (by decide +kernel), List.mem_of_getElem? (i := 965) (by decide +kernel)⟩
theorem lw_p36 : lw_okq (⟨"SunRowsModel", "findState", "(I)V"⟩, 28) := ⟨⟨by decide +kernel, by decide +kernel⟩, List.mem_of_getElem? (i := 678) (by decide +kernel), List.mem_of_getElem? (i := 984) (by decide +kernel), List.mem_of_getElem? (i := 985) (by decide +kernel)⟩
theorem lw_p37 : lw_okq (⟨"SunRowsModel", "setSteps", "(I)V"⟩, 28) := ⟨⟨by decide +kernel, by decide +kernel⟩, List.mem_of_getElem? (i := 678) (by decide +kernel), List.mem_of_getElem? (i := 988) (by decide +kernel), List.mem_of_getElem? (i := 989) (by decide +kernel)⟩
theorem lw_p38 : lw_okq (⟨"SunRowsModel", "stepFor", "(I)I"⟩, 28) := ⟨⟨by decide +kernel, by decide +kernel⟩, List.mem_of_getElem? (i := 678) (by decide +kernel), List.mem_of_getElem? (i := 992) (by decide +kernel), List.mem_of_getElem? (i := 993) (by decide +kernel)⟩
theorem lw_p39 : lw_okq (⟨"SunRowsModel", "writeBook", "(I)V"⟩, 28) := ⟨⟨by decide +kernel, by decide +kernel⟩, List.mem_of_getElem? (i := 678) (by decide +kernel), List.mem_of_getElem? (i := 996) (by decide +kernel), List.mem_of_getElem? (i := 997) (by decide +kernel)⟩
theorem lw_p40 : lw_okq (⟨"SunRowsModel", "bestWorth", "(II)J"⟩, 28) := ⟨⟨by decide +kernel, by decide +kernel⟩, List.mem_of_getElem? (i := 678) (by decide +kernel), List.mem_of_getElem? (i := 1024) (by decide +kernel), List.mem_of_getElem? (i := 1025) (by decide +kernel)⟩
def lw_privs_3 : List (MethodName × Nat) := [(⟨"SunRowsModel", "currentOf", "(II)J"⟩, 28), (⟨"SunRowsModel", "clean", "(II)J"⟩, 28), (⟨"SunRowsModel", "dusted", "(II)J"⟩, 28), (⟨"SunRowsModel", "givesOf", "(II)J"⟩, 28), (⟨"SunRowsModel", "findState", "(I)V"⟩, 28), (⟨"SunRowsModel", "setSteps", "(I)V"⟩, 28), (⟨"SunRowsModel", "stepFor", "(I)I"⟩, 28), (⟨"SunRowsModel", "writeBook", "(I)V"⟩, 28), (⟨"SunRowsModel", "bestWorth", "(II)J"⟩, 28)]
theorem lw_r3 : ∀ q ∈ lw_privs_3, lw_okq q := List.forall_mem_cons.mpr ⟨lw_p32, List.forall_mem_cons.mpr ⟨lw_p33, List.forall_mem_cons.mpr ⟨lw_p34, List.forall_mem_cons.mpr ⟨lw_p35, List.forall_mem_cons.mpr ⟨lw_p36, List.forall_mem_cons.mpr ⟨lw_p37, List.forall_mem_cons.mpr ⟨lw_p38, List.forall_mem_cons.mpr ⟨lw_p39, List.forall_mem_cons.mpr ⟨lw_p40, fun _ h => absurd h List.not_mem_nil⟩⟩⟩⟩⟩⟩⟩⟩⟩
def lw_privs : List (MethodName × Nat) := lw_privs_1 ++ (lw_privs_2 ++ (lw_privs_3))
def lw_tbl : List Cond := k2_sels lw_privs ++ tables_1
theorem lw_privs_ok : ∀ q ∈ lw_privs, lw_okq q := by
  show ∀ q ∈ lw_privs_1 ++ (lw_privs_2 ++ (lw_privs_3)), lw_okq q
  exact List.forall_mem_append.mpr ⟨lw_r1, List.forall_mem_append.mpr ⟨lw_r2, lw_r3⟩⟩
def RX0 : String := "SunRows$Field"
def TX0 : u_T := fun k => match k with
  | 0 => ("SunRows$Field", "rows", "[LSunRows$Row;", true)
  | 1 => ("SunRows$Field", "looks", "LSunRows$Looks;", true)
  | 2 => ("SunRows$Field", "unshaded", "[J", true)
  | 3 => ("SunRows$Field", "taken", "[J", true)
  | 4 => ("SunRows$Field", "currents", "[I", true)
  | 5 => ("SunRows$Field", "count", "I", false)
  | _ => ("SunRows$Field", "sunX", "I", false)
def tyX0 : Nat → FieldType := fun k => match k with
  | 0 => .array (.object "SunRows$Row")
  | 1 => .object "SunRows$Looks"
  | 2 => .array .long
  | 3 => .array .long
  | 4 => .array .int
  | 5 => .int
  | _ => .int
abbrev wsX00 : List Cond := u_ws RX0 TX0 7
theorem nmX0 : ∀ a, a < 7 → ∀ b, b < 7 → a ≠ b → (TX0 a).2.1 ≠ (TX0 b).2.1 := by decide +kernel
theorem tyX0_ok : ∀ k, k < 7 → parseFieldDescriptor (TX0 k).2.2.1 = some (tyX0 k) := by decide +kernel
abbrev cX0_init : ByteArray := prog_2_method_1_code
def yX0_init : MethodName := ⟨RX0, "<init>", "()V"⟩
abbrev cX0_isAboveLast : ByteArray := prog_2_method_2_code
def yX0_isAboveLast : MethodName := ⟨RX0, "isAboveLast", "(I)Z"⟩
abbrev cX0_idealStep : ByteArray := prog_2_method_3_code
def yX0_idealStep : MethodName := ⟨RX0, "idealStep", "(II)I"⟩
abbrev cX0_backStep : ByteArray := prog_2_method_4_code
def yX0_backStep : MethodName := ⟨RX0, "backStep", "(II)I"⟩
abbrev cX0_isFreeAt : ByteArray := prog_2_method_5_code
def yX0_isFreeAt : MethodName := ⟨RX0, "isFreeAt", "(III)Z"⟩
abbrev cX0_lookAsTurned : ByteArray := prog_2_method_6_code
def yX0_lookAsTurned : MethodName := ⟨RX0, "lookAsTurned", "(II)V"⟩
abbrev cX0_firstAhead : ByteArray := prog_2_method_7_code
def yX0_firstAhead : MethodName := ⟨RX0, "firstAhead", "(I)I"⟩
abbrev cX0_lastAhead : ByteArray := prog_2_method_8_code
def yX0_lastAhead : MethodName := ⟨RX0, "lastAhead", "(I)I"⟩
abbrev cX0_castShade : ByteArray := prog_2_method_9_code
def yX0_castShade : MethodName := ⟨RX0, "castShade", "(I)V"⟩
abbrev cX0_weighAll : ByteArray := prog_2_method_10_code
def yX0_weighAll : MethodName := ⟨RX0, "weighAll", "()V"⟩
abbrev cX0_weigh : ByteArray := prog_2_method_11_code
def yX0_weigh : MethodName := ⟨RX0, "weigh", "(I)V"⟩
abbrev cX0_turnTo : ByteArray := prog_2_method_12_code
def yX0_turnTo : MethodName := ⟨RX0, "turnTo", "(II)V"⟩
abbrev cX0_washAll : ByteArray := prog_2_method_13_code
def yX0_washAll : MethodName := ⟨RX0, "washAll", "()V"⟩
abbrev cX0_washRows : ByteArray := prog_2_method_14_code
def yX0_washRows : MethodName := ⟨RX0, "washRows", "(I)I"⟩
abbrev cX0_addDust : ByteArray := prog_2_method_15_code
def yX0_addDust : MethodName := ⟨RX0, "addDust", "(I)I"⟩
def RX1 : String := "SunRows$Ledger"
def TX1 : u_T := fun k => match k with
  | 0 => ("SunRows$Ledger", "latest", "[J", true)
  | 1 => ("SunRows$Ledger", "sums", "[J", true)
  | 2 => ("SunRows$Ledger", "isBegun", "Z", false)
  | 3 => ("SunRows$Ledger", "state", "I", false)
  | _ => ("SunRows$Ledger", "whichHour", "I", false)
def tyX1 : Nat → FieldType := fun k => match k with
  | 0 => .array .long
  | 1 => .array .long
  | 2 => .boolean
  | 3 => .int
  | _ => .int
abbrev wsX10 : List Cond := u_ws RX1 TX1 5
theorem nmX1 : ∀ a, a < 5 → ∀ b, b < 5 → a ≠ b → (TX1 a).2.1 ≠ (TX1 b).2.1 := by decide +kernel
theorem tyX1_ok : ∀ k, k < 5 → parseFieldDescriptor (TX1 k).2.2.1 = some (tyX1 k) := by decide +kernel
abbrev cX1_init : ByteArray := prog_3_method_1_code
def yX1_init : MethodName := ⟨RX1, "<init>", "()V"⟩
abbrev cX1_begin : ByteArray := prog_3_method_2_code
def yX1_begin : MethodName := ⟨RX1, "begin", "(II)V"⟩
abbrev cX1_addToSums : ByteArray := prog_3_method_3_code
def yX1_addToSums : MethodName := ⟨RX1, "addToSums", "()V"⟩
def RX2 : String := "SunRows$Looks"
def TX2 : u_T := fun k => match k with
  | 0 => ("SunRows$Looks", "start", "[J", true)
  | 1 => ("SunRows$Looks", "end", "[J", true)
  | 2 => ("SunRows$Looks", "from", "[J", true)
  | 3 => ("SunRows$Looks", "to", "[J", true)
  | _ => ("SunRows$Looks", "pieces", "I", false)
def tyX2 : Nat → FieldType := fun k => match k with
  | 0 => .array .long
  | 1 => .array .long
  | 2 => .array .long
  | 3 => .array .long
  | _ => .int
abbrev wsX20 : List Cond := u_ws RX2 TX2 5
theorem nmX2 : ∀ a, a < 5 → ∀ b, b < 5 → a ≠ b → (TX2 a).2.1 ≠ (TX2 b).2.1 := by decide +kernel
theorem tyX2_ok : ∀ k, k < 5 → parseFieldDescriptor (TX2 k).2.2.1 = some (tyX2 k) := by decide +kernel
abbrev cX2_init : ByteArray := prog_4_method_1_code
def yX2_init : MethodName := ⟨RX2, "<init>", "()V"⟩
abbrev cX2_put : ByteArray := prog_4_method_2_code
def yX2_put : MethodName := ⟨RX2, "put", "(ILSunRows$Row;III)V"⟩
abbrev cX2_stretch : ByteArray := prog_4_method_3_code
def yX2_stretch : MethodName := ⟨RX2, "stretch", "(I)J"⟩
abbrev cX2_isLit : ByteArray := prog_4_method_4_code
def yX2_isLit : MethodName := ⟨RX2, "isLit", "(I)Z"⟩
abbrev cX2_isShaded : ByteArray := prog_4_method_5_code
def yX2_isShaded : MethodName := ⟨RX2, "isShaded", "(III)Z"⟩
abbrev cX2_cast : ByteArray := prog_4_method_6_code
def yX2_cast : MethodName := ⟨RX2, "cast", "(III)V"⟩
abbrev cX2_shadeStart : ByteArray := prog_4_method_7_code
def yX2_shadeStart : MethodName := ⟨RX2, "shadeStart", "(II)J"⟩
abbrev cX2_shadeEnd : ByteArray := prog_4_method_8_code
def yX2_shadeEnd : MethodName := ⟨RX2, "shadeEnd", "(II)J"⟩
abbrev cX2_addPiece : ByteArray := prog_4_method_9_code
def yX2_addPiece : MethodName := ⟨RX2, "addPiece", "(JJ)V"⟩
abbrev cX2_shaded : ByteArray := prog_4_method_10_code
def yX2_shaded : MethodName := ⟨RX2, "shaded", "()J"⟩
abbrev cX2_darkGroups : ByteArray := prog_4_method_11_code
def yX2_darkGroups : MethodName := ⟨RX2, "darkGroups", "(I)I"⟩
def RX3 : String := "SunRows$Row"
def TX3 : u_T := fun k => match k with
  | 0 => ("SunRows$Row", "kind", "I", false)
  | 1 => ("SunRows$Row", "place", "I", false)
  | 2 => ("SunRows$Row", "height", "I", false)
  | 3 => ("SunRows$Row", "width", "I", false)
  | 4 => ("SunRows$Row", "dirt", "I", false)
  | 5 => ("SunRows$Row", "step", "I", false)
  | _ => ("SunRows$Row", "inString", "I", false)
def tyX3 : Nat → FieldType := fun k => match k with
  | 0 => .int
  | 1 => .int
  | 2 => .int
  | 3 => .int
  | 4 => .int
  | 5 => .int
  | _ => .int
abbrev wsX30 : List Cond := u_ws RX3 TX3 7
theorem nmX3 : ∀ a, a < 7 → ∀ b, b < 7 → a ≠ b → (TX3 a).2.1 ≠ (TX3 b).2.1 := by decide +kernel
theorem tyX3_ok : ∀ k, k < 7 → parseFieldDescriptor (TX3 k).2.2.1 = some (tyX3 k) := by decide +kernel
abbrev cX3_init : ByteArray := prog_5_method_1_code
def yX3_init : MethodName := ⟨RX3, "<init>", "()V"⟩
abbrev cX3_begin : ByteArray := prog_5_method_2_code
def yX3_begin : MethodName := ⟨RX3, "begin", "(IIIII)V"⟩
abbrev cX3_isOf : ByteArray := prog_5_method_3_code
def yX3_isOf : MethodName := ⟨RX3, "isOf", "(I)Z"⟩
abbrev cX3_loseDust : ByteArray := prog_5_method_4_code
def yX3_loseDust : MethodName := ⟨RX3, "loseDust", "()Z"⟩
def RX4 : String := "SunRows$Sky"
def TX4 : u_T := fun k => match k with
  | 0 => ("SunRows$Sky", "x", "[I", true)
  | _ => ("SunRows$Sky", "y", "[I", true)
def tyX4 : Nat → FieldType := fun k => match k with
  | 0 => .array .int
  | _ => .array .int
abbrev wsX40 : List Cond := u_ws RX4 TX4 2
theorem nmX4 : ∀ a, a < 2 → ∀ b, b < 2 → a ≠ b → (TX4 a).2.1 ≠ (TX4 b).2.1 := by decide +kernel
theorem tyX4_ok : ∀ k, k < 2 → parseFieldDescriptor (TX4 k).2.2.1 = some (tyX4 k) := by decide +kernel
abbrev cX4_init : ByteArray := prog_6_method_1_code
def yX4_init : MethodName := ⟨RX4, "<init>", "()V"⟩
abbrev cX4_put : ByteArray := prog_6_method_2_code
def yX4_put : MethodName := ⟨RX4, "put", "(III)V"⟩
abbrev cX4_isNight : ByteArray := prog_6_method_3_code
def yX4_isNight : MethodName := ⟨RX4, "isNight", "(I)Z"⟩
def RX5 : String := "SunRows$Strings"
def TX5 : u_T := fun k => match k with
  | 0 => ("SunRows$Strings", "ceilings", "[I", true)
  | 1 => ("SunRows$Strings", "ranked", "[I", true)
  | _ => ("SunRows$Strings", "members", "I", false)
def tyX5 : Nat → FieldType := fun k => match k with
  | 0 => .array .int
  | 1 => .array .int
  | _ => .int
abbrev wsX50 : List Cond := u_ws RX5 TX5 3
theorem nmX5 : ∀ a, a < 3 → ∀ b, b < 3 → a ≠ b → (TX5 a).2.1 ≠ (TX5 b).2.1 := by decide +kernel
theorem tyX5_ok : ∀ k, k < 3 → parseFieldDescriptor (TX5 k).2.2.1 = some (tyX5 k) := by decide +kernel
abbrev cX5_init : ByteArray := prog_7_method_1_code
def yX5_init : MethodName := ⟨RX5, "<init>", "()V"⟩
abbrev cX5_rank : ByteArray := prog_7_method_2_code
def yX5_rank : MethodName := ⟨RX5, "rank", "(LSunRows$Field;I)V"⟩
abbrev cX5_insert : ByteArray := prog_7_method_3_code
def yX5_insert : MethodName := ⟨RX5, "insert", "(I)V"⟩
abbrev cX5_best : ByteArray := prog_7_method_4_code
def yX5_best : MethodName := ⟨RX5, "best", "()I"⟩
abbrev cX5_sumOfRanked : ByteArray := prog_7_method_5_code
def yX5_sumOfRanked : MethodName := ⟨RX5, "sumOfRanked", "()I"⟩
abbrev cX5_bookInto : ByteArray := prog_7_method_6_code
def yX5_bookInto : MethodName := ⟨RX5, "bookInto", "(LSunRows$Ledger;LSunRows$Field;)V"⟩
def RX6 : String := "SunRows$Tape"
def TX6 : u_T := fun k => match k with
  | 0 => ("SunRows$Tape", "numbers", "[I", true)
  | _ => ("SunRows$Tape", "size", "I", false)
def tyX6 : Nat → FieldType := fun k => match k with
  | 0 => .array .int
  | _ => .int
abbrev wsX60 : List Cond := u_ws RX6 TX6 2
theorem nmX6 : ∀ a, a < 2 → ∀ b, b < 2 → a ≠ b → (TX6 a).2.1 ≠ (TX6 b).2.1 := by decide +kernel
theorem tyX6_ok : ∀ k, k < 2 → parseFieldDescriptor (TX6 k).2.2.1 = some (tyX6 k) := by decide +kernel
abbrev cX6_init : ByteArray := prog_8_method_1_code
def yX6_init : MethodName := ⟨RX6, "<init>", "()V"⟩
abbrev cX6_append : ByteArray := prog_8_method_2_code
def yX6_append : MethodName := ⟨RX6, "append", "(I)V"⟩
abbrev cX6_clear : ByteArray := prog_8_method_3_code
def yX6_clear : MethodName := ⟨RX6, "clear", "()V"⟩
def RX7 : String := "SunRows$Washing"
def TX7 : u_T := fun k => match k with
  | 0 => ("SunRows$Washing", "bestSet", "I", false)
  | _ => ("SunRows$Washing", "bestValue", "J", false)
def tyX7 : Nat → FieldType := fun k => match k with
  | 0 => .int
  | _ => .long
abbrev wsX70 : List Cond := u_ws RX7 TX7 2
theorem nmX7 : ∀ a, a < 2 → ∀ b, b < 2 → a ≠ b → (TX7 a).2.1 ≠ (TX7 b).2.1 := by decide +kernel
theorem tyX7_ok : ∀ k, k < 2 → parseFieldDescriptor (TX7 k).2.2.1 = some (tyX7 k) := by decide +kernel
abbrev cX7_init : ByteArray := prog_9_method_1_code
def yX7_init : MethodName := ⟨RX7, "<init>", "()V"⟩
abbrev cX7_choose : ByteArray := prog_9_method_2_code
def yX7_choose : MethodName := ⟨RX7, "choose", "(LSunRows$Field;II)V"⟩
abbrev cX7_gain : ByteArray := prog_9_method_3_code
def yX7_gain : MethodName := ⟨RX7, "gain", "(LSunRows$Row;II)J"⟩
abbrev cX7_take : ByteArray := prog_9_method_4_code
def yX7_take : MethodName := ⟨RX7, "take", "(JI)V"⟩
def RX8 : String := "SunRows$Weather"
def TX8 : u_T := fun k => match k with
  | 0 => ("SunRows$Weather", "readings", "[I", true)
  | 1 => ("SunRows$Weather", "cleans", "[Z", true)
  | 2 => ("SunRows$Weather", "stowAt", "I", false)
  | 3 => ("SunRows$Weather", "lostInARow", "I", false)
  | _ => ("SunRows$Weather", "isStowed", "Z", false)
def tyX8 : Nat → FieldType := fun k => match k with
  | 0 => .array .int
  | 1 => .array .boolean
  | 2 => .int
  | 3 => .int
  | _ => .boolean
abbrev wsX80 : List Cond := u_ws RX8 TX8 5
theorem nmX8 : ∀ a, a < 5 → ∀ b, b < 5 → a ≠ b → (TX8 a).2.1 ≠ (TX8 b).2.1 := by decide +kernel
theorem tyX8_ok : ∀ k, k < 5 → parseFieldDescriptor (TX8 k).2.2.1 = some (tyX8 k) := by decide +kernel
abbrev cX8_init : ByteArray := prog_10_method_1_code
def yX8_init : MethodName := ⟨RX8, "<init>", "()V"⟩
abbrev cX8_stateAt : ByteArray := prog_10_method_2_code
def yX8_stateAt : MethodName := ⟨RX8, "stateAt", "(I)I"⟩
def RX9 : String := "SunRows"
def TX9 : u_T := fun k => match k with
  | 0 => ("SunRows", "field", "LSunRows$Field;", true)
  | 1 => ("SunRows", "sky", "LSunRows$Sky;", true)
  | 2 => ("SunRows", "strings", "LSunRows$Strings;", true)
  | 3 => ("SunRows", "weather", "LSunRows$Weather;", true)
  | 4 => ("SunRows", "ledger", "LSunRows$Ledger;", true)
  | 5 => ("SunRows", "washing", "LSunRows$Washing;", true)
  | 6 => ("SunRows", "tape", "LSunRows$Tape;", true)
  | 7 => ("SunRows", "answered", "[I", true)
  | 8 => ("SunRows", "nextHour", "I", false)
  | _ => ("SunRows", "latestTarget", "I", false)
def tyX9 : Nat → FieldType := fun k => match k with
  | 0 => .object "SunRows$Field"
  | 1 => .object "SunRows$Sky"
  | 2 => .object "SunRows$Strings"
  | 3 => .object "SunRows$Weather"
  | 4 => .object "SunRows$Ledger"
  | 5 => .object "SunRows$Washing"
  | 6 => .object "SunRows$Tape"
  | 7 => .array .int
  | 8 => .int
  | _ => .int
abbrev wsX90 : List Cond := u_ws RX9 TX9 10
theorem nmX9 : ∀ a, a < 10 → ∀ b, b < 10 → a ≠ b → (TX9 a).2.1 ≠ (TX9 b).2.1 := by decide +kernel
theorem tyX9_ok : ∀ k, k < 10 → parseFieldDescriptor (TX9 k).2.2.1 = some (tyX9 k) := by decide +kernel
abbrev cX9_init : ByteArray := prog_1_method_1_code
def yX9_init : MethodName := ⟨RX9, "<init>", "()V"⟩
abbrev cX9_row : ByteArray := prog_1_method_2_code
def yX9_row : MethodName := ⟨RX9, "row", "(IIIII)I"⟩
abbrev cX9_drop : ByteArray := prog_1_method_3_code
def yX9_drop : MethodName := ⟨RX9, "drop", "()I"⟩
abbrev cX9_about : ByteArray := prog_1_method_4_code
def yX9_about : MethodName := ⟨RX9, "about", "(II)I"⟩
abbrev cX9_as : ByteArray := prog_1_method_5_code
def yX9_as : MethodName := ⟨RX9, "as", "(II)I"⟩
abbrev cX9_turn : ByteArray := prog_1_method_6_code
def yX9_turn : MethodName := ⟨RX9, "turn", "(II)I"⟩
abbrev cX9_dust : ByteArray := prog_1_method_7_code
def yX9_dust : MethodName := ⟨RX9, "dust", "(II)I"⟩
abbrev cX9_sun : ByteArray := prog_1_method_8_code
def yX9_sun : MethodName := ⟨RX9, "sun", "(III)I"⟩
abbrev cX9_suns : ByteArray := prog_1_method_9_code
def yX9_suns : MethodName := ⟨RX9, "suns", "()I"⟩
abbrev cX9_ideal : ByteArray := prog_1_method_10_code
def yX9_ideal : MethodName := ⟨RX9, "ideal", "(I)I"⟩
abbrev cX9_back : ByteArray := prog_1_method_11_code
def yX9_back : MethodName := ⟨RX9, "back", "(I)I"⟩
abbrev cX9_breadth : ByteArray := prog_1_method_12_code
def yX9_breadth : MethodName := ⟨RX9, "breadth", "(II)J"⟩
abbrev cX9_shade : ByteArray := prog_1_method_13_code
def yX9_shade : MethodName := ⟨RX9, "shade", "(II)J"⟩
abbrev cX9_dark : ByteArray := prog_1_method_14_code
def yX9_dark : MethodName := ⟨RX9, "dark", "(II)I"⟩
abbrev cX9_string : ByteArray := prog_1_method_15_code
def yX9_string : MethodName := ⟨RX9, "string", "(II)I"⟩
abbrev cX9_ceiling : ByteArray := prog_1_method_16_code
def yX9_ceiling : MethodName := ⟨RX9, "ceiling", "(II)I"⟩
abbrev cX9_current : ByteArray := prog_1_method_17_code
def yX9_current : MethodName := ⟨RX9, "current", "(II)I"⟩
abbrev cX9_gives : ByteArray := prog_1_method_18_code
def yX9_gives : MethodName := ⟨RX9, "gives", "(II)I"⟩
abbrev cX9_wind : ByteArray := prog_1_method_19_code
def yX9_wind : MethodName := ⟨RX9, "wind", "(II)I"⟩
abbrev cX9_limit : ByteArray := prog_1_method_20_code
def yX9_limit : MethodName := ⟨RX9, "limit", "(I)I"⟩
abbrev cX9_cleaning : ByteArray := prog_1_method_21_code
def yX9_cleaning : MethodName := ⟨RX9, "cleaning", "(IZ)I"⟩
abbrev cX9_hour : ByteArray := prog_1_method_22_code
def yX9_hour : MethodName := ⟨RX9, "hour", "()I"⟩
abbrev cX9_hours : ByteArray := prog_1_method_23_code
def yX9_hours : MethodName := ⟨RX9, "hours", "(I)J"⟩
abbrev cX9_book : ByteArray := prog_1_method_24_code
def yX9_book : MethodName := ⟨RX9, "book", "(I)J"⟩
abbrev cX9_all : ByteArray := prog_1_method_25_code
def yX9_all : MethodName := ⟨RX9, "all", "(I)J"⟩
abbrev cX9_next : ByteArray := prog_1_method_26_code
def yX9_next : MethodName := ⟨RX9, "next", "()I"⟩
abbrev cX9_plan : ByteArray := prog_1_method_27_code
def yX9_plan : MethodName := ⟨RX9, "plan", "(II)I"⟩
abbrev cX9_worth : ByteArray := prog_1_method_28_code
def yX9_worth : MethodName := ⟨RX9, "worth", "(II)J"⟩
abbrev cX9_wash : ByteArray := prog_1_method_29_code
def yX9_wash : MethodName := ⟨RX9, "wash", "(I)I"⟩
abbrev cX9_storm : ByteArray := prog_1_method_30_code
def yX9_storm : MethodName := ⟨RX9, "storm", "(I)I"⟩
abbrev cX9_tell : ByteArray := prog_1_method_31_code
def yX9_tell : MethodName := ⟨RX9, "tell", "(I)I"⟩
abbrev cX9_check : ByteArray := prog_1_method_32_code
def yX9_check : MethodName := ⟨RX9, "check", "()I"⟩
abbrev cX9_found : ByteArray := prog_1_method_33_code
def yX9_found : MethodName := ⟨RX9, "found", "(I)I"⟩
abbrev cX9_answer : ByteArray := prog_1_method_34_code
def yX9_answer : MethodName := ⟨RX9, "answer", "(I)I"⟩
abbrev cX9_findingOfSight : ByteArray := prog_1_method_35_code
def yX9_findingOfSight : MethodName := ⟨RX9, "findingOfSight", "(II)I"⟩
abbrev cX9_findingOfShade : ByteArray := prog_1_method_36_code
def yX9_findingOfShade : MethodName := ⟨RX9, "findingOfShade", "(II)I"⟩
abbrev cX9_isRow : ByteArray := prog_1_method_37_code
def yX9_isRow : MethodName := ⟨RX9, "isRow", "(I)Z"⟩
abbrev cX9_isWithin : ByteArray := prog_1_method_38_code
def yX9_isWithin : MethodName := ⟨RX9, "isWithin", "(III)Z"⟩
abbrev cX9_isKind : ByteArray := prog_1_method_39_code
def yX9_isKind : MethodName := ⟨RX9, "isKind", "(I)Z"⟩
abbrev cX9_isStep : ByteArray := prog_1_method_40_code
def yX9_isStep : MethodName := ⟨RX9, "isStep", "(I)Z"⟩
abbrev cX9_isHour : ByteArray := prog_1_method_41_code
def yX9_isHour : MethodName := ⟨RX9, "isHour", "(I)Z"⟩
abbrev cX9_isString : ByteArray := prog_1_method_42_code
def yX9_isString : MethodName := ⟨RX9, "isString", "(I)Z"⟩
abbrev cX9_isSunWay : ByteArray := prog_1_method_43_code
def yX9_isSunWay : MethodName := ⟨RX9, "isSunWay", "(III)Z"⟩
abbrev cX9_isWashPlan : ByteArray := prog_1_method_44_code
def yX9_isWashPlan : MethodName := ⟨RX9, "isWashPlan", "(II)Z"⟩
abbrev cX9_lookFrom : ByteArray := prog_1_method_45_code
def yX9_lookFrom : MethodName := ⟨RX9, "lookFrom", "(I)V"⟩
abbrev cX9_passHour : ByteArray := prog_1_method_46_code
def yX9_passHour : MethodName := ⟨RX9, "passHour", "()V"⟩
abbrev cX9_targetStep : ByteArray := prog_1_method_47_code
def yX9_targetStep : MethodName := ⟨RX9, "targetStep", "(II)I"⟩
def RX10 : String := "SunRowsModel"
def TX10 : u_T := fun k => match k with
  | 0 => ("SunRowsModel", "rows", "I", false)
  | 1 => ("SunRowsModel", "kindOf", "[I", true)
  | 2 => ("SunRowsModel", "placeOf", "[I", true)
  | 3 => ("SunRowsModel", "heightOf", "[I", true)
  | 4 => ("SunRowsModel", "widthOf", "[I", true)
  | 5 => ("SunRowsModel", "dustOf", "[I", true)
  | 6 => ("SunRowsModel", "stepOf", "[I", true)
  | 7 => ("SunRowsModel", "stringOf", "[I", true)
  | 8 => ("SunRowsModel", "sunX", "[I", true)
  | 9 => ("SunRowsModel", "sunY", "[I", true)
  | 10 => ("SunRowsModel", "windOf", "[I", true)
  | 11 => ("SunRowsModel", "cleans", "[Z", true)
  | 12 => ("SunRowsModel", "ceilings", "[I", true)
  | 13 => ("SunRowsModel", "limit", "I", false)
  | 14 => ("SunRowsModel", "nextHour", "I", false)
  | 15 => ("SunRowsModel", "state", "I", false)
  | 16 => ("SunRowsModel", "lostRow", "I", false)
  | 17 => ("SunRowsModel", "went", "Z", false)
  | 18 => ("SunRowsModel", "lastStep", "I", false)
  | 19 => ("SunRowsModel", "lastState", "I", false)
  | 20 => ("SunRowsModel", "book", "[J", true)
  | 21 => ("SunRowsModel", "all", "[J", true)
  | 22 => ("SunRowsModel", "taped", "I", false)
  | 23 => ("SunRowsModel", "tape", "[I", true)
  | 24 => ("SunRowsModel", "findings", "[I", true)
  | 25 => ("SunRowsModel", "tried", "I", false)
  | 26 => ("SunRowsModel", "currents", "[J", true)
  | _ => ("SunRowsModel", "bestSet", "I", false)
def tyX10 : Nat → FieldType := fun k => match k with
  | 0 => .int
  | 1 => .array .int
  | 2 => .array .int
  | 3 => .array .int
  | 4 => .array .int
  | 5 => .array .int
  | 6 => .array .int
  | 7 => .array .int
  | 8 => .array .int
  | 9 => .array .int
  | 10 => .array .int
  | 11 => .array .boolean
  | 12 => .array .int
  | 13 => .int
  | 14 => .int
  | 15 => .int
  | 16 => .int
  | 17 => .boolean
  | 18 => .int
  | 19 => .int
  | 20 => .array .long
  | 21 => .array .long
  | 22 => .int
  | 23 => .array .int
  | 24 => .array .int
  | 25 => .int
  | 26 => .array .long
  | _ => .int
abbrev wsX100 : List Cond := u_ws RX10 TX10 28
theorem nmX10 : ∀ a, a < 28 → ∀ b, b < 28 → a ≠ b → (TX10 a).2.1 ≠ (TX10 b).2.1 := by decide +kernel
theorem tyX10_ok : ∀ k, k < 28 → parseFieldDescriptor (TX10 k).2.2.1 = some (tyX10 k) := by decide +kernel
abbrev cX10_init : ByteArray := prog_12_method_1_code
def yX10_init : MethodName := ⟨RX10, "<init>", "()V"⟩
abbrev cX10_finding : ByteArray := prog_12_method_2_code
def yX10_finding : MethodName := ⟨RX10, "finding", "(I)I"⟩
abbrev cX10_in : ByteArray := prog_12_method_3_code
def yX10_in : MethodName := ⟨RX10, "in", "(III)Z"⟩
abbrev cX10_isRow : ByteArray := prog_12_method_4_code
def yX10_isRow : MethodName := ⟨RX10, "isRow", "(I)Z"⟩
abbrev cX10_isHour : ByteArray := prog_12_method_5_code
def yX10_isHour : MethodName := ⟨RX10, "isHour", "(I)Z"⟩
abbrev cX10_isStep : ByteArray := prog_12_method_6_code
def yX10_isStep : MethodName := ⟨RX10, "isStep", "(I)Z"⟩
abbrev cX10_isNight : ByteArray := prog_12_method_7_code
def yX10_isNight : MethodName := ⟨RX10, "isNight", "(I)Z"⟩
abbrev cX10_cosine : ByteArray := prog_12_method_8_code
def yX10_cosine : MethodName := ⟨RX10, "cosine", "(I)J"⟩
abbrev cX10_sine : ByteArray := prog_12_method_9_code
def yX10_sine : MethodName := ⟨RX10, "sine", "(I)J"⟩
abbrev cX10_row : ByteArray := prog_12_method_10_code
def yX10_row : MethodName := ⟨RX10, "row", "(IIIII)I"⟩
abbrev cX10_drop : ByteArray := prog_12_method_11_code
def yX10_drop : MethodName := ⟨RX10, "drop", "()I"⟩
abbrev cX10_about : ByteArray := prog_12_method_12_code
def yX10_about : MethodName := ⟨RX10, "about", "(II)I"⟩
abbrev cX10_as : ByteArray := prog_12_method_13_code
def yX10_as : MethodName := ⟨RX10, "as", "(II)I"⟩
abbrev cX10_turn : ByteArray := prog_12_method_14_code
def yX10_turn : MethodName := ⟨RX10, "turn", "(II)I"⟩
abbrev cX10_dust : ByteArray := prog_12_method_15_code
def yX10_dust : MethodName := ⟨RX10, "dust", "(II)I"⟩
abbrev cX10_isSun : ByteArray := prog_12_method_16_code
def yX10_isSun : MethodName := ⟨RX10, "isSun", "(III)Z"⟩
abbrev cX10_setSun : ByteArray := prog_12_method_17_code
def yX10_setSun : MethodName := ⟨RX10, "setSun", "(III)V"⟩
abbrev cX10_sun : ByteArray := prog_12_method_18_code
def yX10_sun : MethodName := ⟨RX10, "sun", "(III)I"⟩
abbrev cX10_suns : ByteArray := prog_12_method_19_code
def yX10_suns : MethodName := ⟨RX10, "suns", "()I"⟩
abbrev cX10_stepAt : ByteArray := prog_12_method_20_code
def yX10_stepAt : MethodName := ⟨RX10, "stepAt", "(I)I"⟩
abbrev cX10_look : ByteArray := prog_12_method_21_code
def yX10_look : MethodName := ⟨RX10, "look", "(III)J"⟩
abbrev cX10_breadthOf : ByteArray := prog_12_method_22_code
def yX10_breadthOf : MethodName := ⟨RX10, "breadthOf", "(II)J"⟩
abbrev cX10_isAhead : ByteArray := prog_12_method_23_code
def yX10_isAhead : MethodName := ⟨RX10, "isAhead", "(III)Z"⟩
abbrev cX10_shaded : ByteArray := prog_12_method_24_code
def yX10_shaded : MethodName := ⟨RX10, "shaded", "(IIJJ)J"⟩
abbrev cX10_shadeOf : ByteArray := prog_12_method_25_code
def yX10_shadeOf : MethodName := ⟨RX10, "shadeOf", "(II)J"⟩
abbrev cX10_darkOf : ByteArray := prog_12_method_26_code
def yX10_darkOf : MethodName := ⟨RX10, "darkOf", "(II)I"⟩
abbrev cX10_idealOf : ByteArray := prog_12_method_27_code
def yX10_idealOf : MethodName := ⟨RX10, "idealOf", "(I)I"⟩
abbrev cX10_isClear : ByteArray := prog_12_method_28_code
def yX10_isClear : MethodName := ⟨RX10, "isClear", "(II)Z"⟩
abbrev cX10_backOf : ByteArray := prog_12_method_29_code
def yX10_backOf : MethodName := ⟨RX10, "backOf", "(I)I"⟩
abbrev cX10_ideal : ByteArray := prog_12_method_30_code
def yX10_ideal : MethodName := ⟨RX10, "ideal", "(I)I"⟩
abbrev cX10_back : ByteArray := prog_12_method_31_code
def yX10_back : MethodName := ⟨RX10, "back", "(I)I"⟩
abbrev cX10_unseen : ByteArray := prog_12_method_32_code
def yX10_unseen : MethodName := ⟨RX10, "unseen", "(II)I"⟩
abbrev cX10_breadth : ByteArray := prog_12_method_33_code
def yX10_breadth : MethodName := ⟨RX10, "breadth", "(II)J"⟩
abbrev cX10_unlit : ByteArray := prog_12_method_34_code
def yX10_unlit : MethodName := ⟨RX10, "unlit", "(II)I"⟩
abbrev cX10_shade : ByteArray := prog_12_method_35_code
def yX10_shade : MethodName := ⟨RX10, "shade", "(II)J"⟩
abbrev cX10_dark : ByteArray := prog_12_method_36_code
def yX10_dark : MethodName := ⟨RX10, "dark", "(II)I"⟩
abbrev cX10_isString : ByteArray := prog_12_method_37_code
def yX10_isString : MethodName := ⟨RX10, "isString", "(I)Z"⟩
abbrev cX10_string : ByteArray := prog_12_method_38_code
def yX10_string : MethodName := ⟨RX10, "string", "(II)I"⟩
abbrev cX10_ceiling : ByteArray := prog_12_method_39_code
def yX10_ceiling : MethodName := ⟨RX10, "ceiling", "(II)I"⟩
abbrev cX10_clean : ByteArray := prog_12_method_40_code
def yX10_clean : MethodName := ⟨RX10, "clean", "(II)J"⟩
abbrev cX10_dusted : ByteArray := prog_12_method_41_code
def yX10_dusted : MethodName := ⟨RX10, "dusted", "(II)J"⟩
abbrev cX10_currentOf : ByteArray := prog_12_method_42_code
def yX10_currentOf : MethodName := ⟨RX10, "currentOf", "(II)J"⟩
abbrev cX10_givesOf : ByteArray := prog_12_method_43_code
def yX10_givesOf : MethodName := ⟨RX10, "givesOf", "(II)J"⟩
abbrev cX10_current : ByteArray := prog_12_method_44_code
def yX10_current : MethodName := ⟨RX10, "current", "(II)I"⟩
abbrev cX10_gives : ByteArray := prog_12_method_45_code
def yX10_gives : MethodName := ⟨RX10, "gives", "(II)I"⟩
abbrev cX10_wind : ByteArray := prog_12_method_46_code
def yX10_wind : MethodName := ⟨RX10, "wind", "(II)I"⟩
abbrev cX10_limit : ByteArray := prog_12_method_47_code
def yX10_limit : MethodName := ⟨RX10, "limit", "(I)I"⟩
abbrev cX10_cleaning : ByteArray := prog_12_method_48_code
def yX10_cleaning : MethodName := ⟨RX10, "cleaning", "(IZ)I"⟩
abbrev cX10_findState : ByteArray := prog_12_method_49_code
def yX10_findState : MethodName := ⟨RX10, "findState", "(I)V"⟩
abbrev cX10_stepFor : ByteArray := prog_12_method_50_code
def yX10_stepFor : MethodName := ⟨RX10, "stepFor", "(I)I"⟩
abbrev cX10_setSteps : ByteArray := prog_12_method_51_code
def yX10_setSteps : MethodName := ⟨RX10, "setSteps", "(I)V"⟩
abbrev cX10_writeBook : ByteArray := prog_12_method_52_code
def yX10_writeBook : MethodName := ⟨RX10, "writeBook", "(I)V"⟩
abbrev cX10_hour : ByteArray := prog_12_method_53_code
def yX10_hour : MethodName := ⟨RX10, "hour", "()I"⟩
abbrev cX10_hours : ByteArray := prog_12_method_54_code
def yX10_hours : MethodName := ⟨RX10, "hours", "(I)J"⟩
abbrev cX10_book : ByteArray := prog_12_method_55_code
def yX10_book : MethodName := ⟨RX10, "book", "(I)J"⟩
abbrev cX10_all : ByteArray := prog_12_method_56_code
def yX10_all : MethodName := ⟨RX10, "all", "(I)J"⟩
abbrev cX10_next : ByteArray := prog_12_method_57_code
def yX10_next : MethodName := ⟨RX10, "next", "()I"⟩
abbrev cX10_bestWorth : ByteArray := prog_12_method_58_code
def yX10_bestWorth : MethodName := ⟨RX10, "bestWorth", "(II)J"⟩
abbrev cX10_isPlan : ByteArray := prog_12_method_59_code
def yX10_isPlan : MethodName := ⟨RX10, "isPlan", "(II)Z"⟩
abbrev cX10_plan : ByteArray := prog_12_method_60_code
def yX10_plan : MethodName := ⟨RX10, "plan", "(II)I"⟩
abbrev cX10_worth : ByteArray := prog_12_method_61_code
def yX10_worth : MethodName := ⟨RX10, "worth", "(II)J"⟩
abbrev cX10_wash : ByteArray := prog_12_method_62_code
def yX10_wash : MethodName := ⟨RX10, "wash", "(I)I"⟩
abbrev cX10_storm : ByteArray := prog_12_method_63_code
def yX10_storm : MethodName := ⟨RX10, "storm", "(I)I"⟩
abbrev cX10_tell : ByteArray := prog_12_method_64_code
def yX10_tell : MethodName := ⟨RX10, "tell", "(I)I"⟩
abbrev cX10_check : ByteArray := prog_12_method_65_code
def yX10_check : MethodName := ⟨RX10, "check", "()I"⟩
abbrev cX10_found : ByteArray := prog_12_method_66_code
def yX10_found : MethodName := ⟨RX10, "found", "(I)I"⟩
def RJ6 : String := "java/lang/Integer"
def TJ6 : u_T := fun k => match k with
  | _ => ("", "", "", false)
def tyJ6 : Nat → FieldType := fun k => match k with
  | _ => .int
abbrev wsJ60 : List Cond := u_ws RJ6 TJ6 0
theorem nmJ6 : ∀ a, a < 0 → ∀ b, b < 0 → a ≠ b → (TJ6 a).2.1 ≠ (TJ6 b).2.1 := by decide +kernel
theorem tyJ6_ok : ∀ k, k < 0 → parseFieldDescriptor (TJ6 k).2.2.1 = some (tyJ6 k) := by decide +kernel
abbrev cJ6_bitCount_0f7a4 : ByteArray := prog_13_method_49_code
def yJ6_bitCount_0f7a4 : MethodName := ⟨RJ6, "bitCount", "(I)I"⟩
def RJ9 : String := "java/lang/Math"
def TJ9 : u_T := fun k => match k with
  | _ => ("", "", "", false)
def tyJ9 : Nat → FieldType := fun k => match k with
  | _ => .int
abbrev wsJ90 : List Cond := u_ws RJ9 TJ9 0
theorem nmJ9 : ∀ a, a < 0 → ∀ b, b < 0 → a ≠ b → (TJ9 a).2.1 ≠ (TJ9 b).2.1 := by decide +kernel
theorem tyJ9_ok : ∀ k, k < 0 → parseFieldDescriptor (TJ9 k).2.2.1 = some (tyJ9 k) := by decide +kernel
abbrev cJ9_abs_0f7a4 : ByteArray := prog_14_method_59_code
def yJ9_abs_0f7a4 : MethodName := ⟨RJ9, "abs", "(I)I"⟩
abbrev cJ9_max_7cf53 : ByteArray := prog_14_method_65_code
def yJ9_max_7cf53 : MethodName := ⟨RJ9, "max", "(II)I"⟩
abbrev cJ9_max_f86c9 : ByteArray := prog_14_method_66_code
def yJ9_max_f86c9 : MethodName := ⟨RJ9, "max", "(JJ)J"⟩
abbrev cJ9_min_7cf53 : ByteArray := prog_14_method_69_code
def yJ9_min_7cf53 : MethodName := ⟨RJ9, "min", "(II)I"⟩
abbrev cJ9_min_f86c9 : ByteArray := prog_14_method_70_code
def yJ9_min_f86c9 : MethodName := ⟨RJ9, "min", "(JJ)J"⟩
def RL : String := "SunRowsLaw"
abbrev cL_law : ByteArray := code
def yL_law : MethodName := ⟨RL, "law", "([I)Z"⟩
abbrev vwCl : List vw_C := [(RX0, TX0, 7), (RX1, TX1, 5), (RX2, TX2, 5), (RX3, TX3, 7), (RX4, TX4, 2), (RX5, TX5, 3), (RX6, TX6, 2), (RX7, TX7, 2), (RX8, TX8, 5), (RX9, TX9, 10), (RX10, TX10, 28)]
end
section
theorem dX0_init_0 : decode cX0_init 0 = .ok (.aload_n 0, 1) := by decide +kernel
theorem dX0_init_1 : decode cX0_init 1 = .ok (.invokespecial 3, 3) := by decide +kernel
theorem dX0_init_4 : decode cX0_init 4 = .ok (.aload_n 0, 1) := by decide +kernel
theorem dX0_init_5 : decode cX0_init 5 = .ok (.bipush 10, 2) := by decide +kernel
theorem dX0_init_7 : decode cX0_init 7 = .ok (.anewarray 9, 3) := by decide +kernel
theorem dX0_init_10 : decode cX0_init 10 = .ok (.putfield 11, 3) := by decide +kernel
theorem dX0_init_13 : decode cX0_init 13 = .ok (.aload_n 0, 1) := by decide +kernel
theorem dX0_init_14 : decode cX0_init 14 = .ok (.new 17, 3) := by decide +kernel
theorem dX0_init_17 : decode cX0_init 17 = .ok (.dup, 1) := by decide +kernel
theorem dX0_init_18 : decode cX0_init 18 = .ok (.invokespecial 19, 3) := by decide +kernel
theorem dX0_init_21 : decode cX0_init 21 = .ok (.putfield 20, 3) := by decide +kernel
theorem dX0_init_24 : decode cX0_init 24 = .ok (.aload_n 0, 1) := by decide +kernel
theorem dX0_init_25 : decode cX0_init 25 = .ok (.bipush 10, 2) := by decide +kernel
theorem dX0_init_27 : decode cX0_init 27 = .ok (.newarray .long, 2) := by decide +kernel
theorem dX0_init_29 : decode cX0_init 29 = .ok (.putfield 24, 3) := by decide +kernel
theorem dX0_init_32 : decode cX0_init 32 = .ok (.aload_n 0, 1) := by decide +kernel
theorem dX0_init_33 : decode cX0_init 33 = .ok (.bipush 10, 2) := by decide +kernel
theorem dX0_init_35 : decode cX0_init 35 = .ok (.newarray .long, 2) := by decide +kernel
theorem dX0_init_37 : decode cX0_init 37 = .ok (.putfield 28, 3) := by decide +kernel
theorem dX0_init_40 : decode cX0_init 40 = .ok (.aload_n 0, 1) := by decide +kernel
theorem dX0_init_41 : decode cX0_init 41 = .ok (.bipush 10, 2) := by decide +kernel
theorem dX0_init_43 : decode cX0_init 43 = .ok (.newarray .int, 2) := by decide +kernel
theorem dX0_init_45 : decode cX0_init 45 = .ok (.putfield 31, 3) := by decide +kernel
theorem dX0_init_48 : decode cX0_init 48 = .ok (.aload_n 0, 1) := by decide +kernel
theorem dX0_init_49 : decode cX0_init 49 = .ok (.iconst 0, 1) := by decide +kernel
theorem dX0_init_50 : decode cX0_init 50 = .ok (.putfield 35, 3) := by decide +kernel
theorem dX0_init_53 : decode cX0_init 53 = .ok (.aload_n 0, 1) := by decide +kernel
theorem dX0_init_54 : decode cX0_init 54 = .ok (.iconst 0, 1) := by decide +kernel
theorem dX0_init_55 : decode cX0_init 55 = .ok (.putfield 39, 3) := by decide +kernel
theorem dX0_init_58 : decode cX0_init 58 = .ok (.iconst 0, 1) := by decide +kernel
theorem dX0_init_59 : decode cX0_init 59 = .ok (.istore_n 1, 1) := by decide +kernel
theorem dX0_init_60 : decode cX0_init 60 = .ok (.iload_n 1, 1) := by decide +kernel
theorem dX0_init_61 : decode cX0_init 61 = .ok (.bipush 10, 2) := by decide +kernel
theorem dX0_init_63 : decode cX0_init 63 = .ok (.if_icmp .ge 22, 3) := by decide +kernel
theorem dX0_init_66 : decode cX0_init 66 = .ok (.aload_n 0, 1) := by decide +kernel
theorem dX0_init_67 : decode cX0_init 67 = .ok (.getfield 11, 3) := by decide +kernel
theorem dX0_init_70 : decode cX0_init 70 = .ok (.iload_n 1, 1) := by decide +kernel
theorem dX0_init_71 : decode cX0_init 71 = .ok (.new 9, 3) := by decide +kernel
theorem dX0_init_74 : decode cX0_init 74 = .ok (.dup, 1) := by decide +kernel
theorem dX0_init_75 : decode cX0_init 75 = .ok (.invokespecial 42, 3) := by decide +kernel
theorem dX0_init_78 : decode cX0_init 78 = .ok (.aastore, 1) := by decide +kernel
theorem dX0_init_79 : decode cX0_init 79 = .ok (.iinc 1 1, 3) := by decide +kernel
theorem dX0_init_82 : decode cX0_init 82 = .ok (.goto (-22), 3) := by decide +kernel
theorem dX0_init_85 : decode cX0_init 85 = .ok (.return_, 1) := by decide +kernel
theorem dX0_isAboveLast_0 : decode cX0_isAboveLast 0 = .ok (.aload_n 0, 1) := by decide +kernel
theorem dX0_isAboveLast_1 : decode cX0_isAboveLast 1 = .ok (.getfield 35, 3) := by decide +kernel
theorem dX0_isAboveLast_4 : decode cX0_isAboveLast 4 = .ok (.ifCond .le 21, 3) := by decide +kernel
theorem dX0_isAboveLast_7 : decode cX0_isAboveLast 7 = .ok (.iload_n 1, 1) := by decide +kernel
theorem dX0_isAboveLast_8 : decode cX0_isAboveLast 8 = .ok (.aload_n 0, 1) := by decide +kernel
theorem dX0_isAboveLast_9 : decode cX0_isAboveLast 9 = .ok (.getfield 11, 3) := by decide +kernel
theorem dX0_isAboveLast_12 : decode cX0_isAboveLast 12 = .ok (.aload_n 0, 1) := by decide +kernel
theorem dX0_isAboveLast_13 : decode cX0_isAboveLast 13 = .ok (.getfield 35, 3) := by decide +kernel
theorem dX0_isAboveLast_16 : decode cX0_isAboveLast 16 = .ok (.iconst 1, 1) := by decide +kernel
theorem dX0_isAboveLast_17 : decode cX0_isAboveLast 17 = .ok (.isub, 1) := by decide +kernel
theorem dX0_isAboveLast_18 : decode cX0_isAboveLast 18 = .ok (.aaload, 1) := by decide +kernel
theorem dX0_isAboveLast_19 : decode cX0_isAboveLast 19 = .ok (.getfield 43, 3) := by decide +kernel
theorem dX0_isAboveLast_22 : decode cX0_isAboveLast 22 = .ok (.if_icmp .le 7, 3) := by decide +kernel
theorem dX0_isAboveLast_25 : decode cX0_isAboveLast 25 = .ok (.iconst 1, 1) := by decide +kernel
theorem dX0_isAboveLast_26 : decode cX0_isAboveLast 26 = .ok (.goto 4, 3) := by decide +kernel
theorem dX0_isAboveLast_29 : decode cX0_isAboveLast 29 = .ok (.iconst 0, 1) := by decide +kernel
theorem dX0_isAboveLast_30 : decode cX0_isAboveLast 30 = .ok (.ireturn, 1) := by decide +kernel
theorem dX0_idealStep_0 : decode cX0_idealStep 0 = .ok (.iconst 0, 1) := by decide +kernel
theorem dX0_idealStep_1 : decode cX0_idealStep 1 = .ok (.istore_n 3, 1) := by decide +kernel
theorem dX0_idealStep_2 : decode cX0_idealStep 2 = .ok (.getstatic 46, 3) := by decide +kernel
theorem dX0_idealStep_5 : decode cX0_idealStep 5 = .ok (.iconst 0, 1) := by decide +kernel
theorem dX0_idealStep_6 : decode cX0_idealStep 6 = .ok (.iaload, 1) := by decide +kernel
theorem dX0_idealStep_7 : decode cX0_idealStep 7 = .ok (.i2l, 1) := by decide +kernel
theorem dX0_idealStep_8 : decode cX0_idealStep 8 = .ok (.iload_n 2, 1) := by decide +kernel
theorem dX0_idealStep_9 : decode cX0_idealStep 9 = .ok (.i2l, 1) := by decide +kernel
theorem dX0_idealStep_10 : decode cX0_idealStep 10 = .ok (.lmul, 1) := by decide +kernel
theorem dX0_idealStep_11 : decode cX0_idealStep 11 = .ok (.lstore 4, 2) := by decide +kernel
theorem dX0_idealStep_13 : decode cX0_idealStep 13 = .ok (.iconst 1, 1) := by decide +kernel
theorem dX0_idealStep_14 : decode cX0_idealStep 14 = .ok (.istore 6, 2) := by decide +kernel
theorem dX0_idealStep_16 : decode cX0_idealStep 16 = .ok (.iload 6, 2) := by decide +kernel
theorem dX0_idealStep_18 : decode cX0_idealStep 18 = .ok (.bipush 12, 2) := by decide +kernel
theorem dX0_idealStep_20 : decode cX0_idealStep 20 = .ok (.if_icmp .gt 76, 3) := by decide +kernel
theorem dX0_idealStep_23 : decode cX0_idealStep 23 = .ok (.getstatic 46, 3) := by decide +kernel
theorem dX0_idealStep_26 : decode cX0_idealStep 26 = .ok (.iload 6, 2) := by decide +kernel
theorem dX0_idealStep_28 : decode cX0_idealStep 28 = .ok (.iaload, 1) := by decide +kernel
theorem dX0_idealStep_29 : decode cX0_idealStep 29 = .ok (.i2l, 1) := by decide +kernel
theorem dX0_idealStep_30 : decode cX0_idealStep 30 = .ok (.iload_n 2, 1) := by decide +kernel
theorem dX0_idealStep_31 : decode cX0_idealStep 31 = .ok (.i2l, 1) := by decide +kernel
theorem dX0_idealStep_32 : decode cX0_idealStep 32 = .ok (.lmul, 1) := by decide +kernel
theorem dX0_idealStep_33 : decode cX0_idealStep 33 = .ok (.lstore 7, 2) := by decide +kernel
theorem dX0_idealStep_35 : decode cX0_idealStep 35 = .ok (.getstatic 49, 3) := by decide +kernel
theorem dX0_idealStep_38 : decode cX0_idealStep 38 = .ok (.iload 6, 2) := by decide +kernel
theorem dX0_idealStep_40 : decode cX0_idealStep 40 = .ok (.iaload, 1) := by decide +kernel
theorem dX0_idealStep_41 : decode cX0_idealStep 41 = .ok (.i2l, 1) := by decide +kernel
theorem dX0_idealStep_42 : decode cX0_idealStep 42 = .ok (.iload_n 1, 1) := by decide +kernel
theorem dX0_idealStep_43 : decode cX0_idealStep 43 = .ok (.i2l, 1) := by decide +kernel
theorem dX0_idealStep_44 : decode cX0_idealStep 44 = .ok (.lmul, 1) := by decide +kernel
theorem dX0_idealStep_45 : decode cX0_idealStep 45 = .ok (.lstore 9, 2) := by decide +kernel
theorem dX0_idealStep_47 : decode cX0_idealStep 47 = .ok (.lload 7, 2) := by decide +kernel
theorem dX0_idealStep_49 : decode cX0_idealStep 49 = .ok (.lload 9, 2) := by decide +kernel
theorem dX0_idealStep_51 : decode cX0_idealStep 51 = .ok (.ladd, 1) := by decide +kernel
theorem dX0_idealStep_52 : decode cX0_idealStep 52 = .ok (.lload 4, 2) := by decide +kernel
theorem dX0_idealStep_54 : decode cX0_idealStep 54 = .ok (.lcmp, 1) := by decide +kernel
theorem dX0_idealStep_55 : decode cX0_idealStep 55 = .ok (.ifCond .le 14, 3) := by decide +kernel
theorem dX0_idealStep_58 : decode cX0_idealStep 58 = .ok (.lload 7, 2) := by decide +kernel
theorem dX0_idealStep_60 : decode cX0_idealStep 60 = .ok (.lload 9, 2) := by decide +kernel
theorem dX0_idealStep_62 : decode cX0_idealStep 62 = .ok (.ladd, 1) := by decide +kernel
theorem dX0_idealStep_63 : decode cX0_idealStep 63 = .ok (.lstore 4, 2) := by decide +kernel
theorem dX0_idealStep_65 : decode cX0_idealStep 65 = .ok (.iload 6, 2) := by decide +kernel
theorem dX0_idealStep_67 : decode cX0_idealStep 67 = .ok (.ineg, 1) := by decide +kernel
theorem dX0_idealStep_68 : decode cX0_idealStep 68 = .ok (.istore_n 3, 1) := by decide +kernel
theorem dX0_idealStep_69 : decode cX0_idealStep 69 = .ok (.lload 7, 2) := by decide +kernel
theorem dX0_idealStep_71 : decode cX0_idealStep 71 = .ok (.lload 9, 2) := by decide +kernel
theorem dX0_idealStep_73 : decode cX0_idealStep 73 = .ok (.lsub, 1) := by decide +kernel
theorem dX0_idealStep_74 : decode cX0_idealStep 74 = .ok (.lload 4, 2) := by decide +kernel
theorem dX0_idealStep_76 : decode cX0_idealStep 76 = .ok (.lcmp, 1) := by decide +kernel
theorem dX0_idealStep_77 : decode cX0_idealStep 77 = .ok (.ifCond .le 13, 3) := by decide +kernel
theorem dX0_idealStep_80 : decode cX0_idealStep 80 = .ok (.lload 7, 2) := by decide +kernel
theorem dX0_idealStep_82 : decode cX0_idealStep 82 = .ok (.lload 9, 2) := by decide +kernel
theorem dX0_idealStep_84 : decode cX0_idealStep 84 = .ok (.lsub, 1) := by decide +kernel
theorem dX0_idealStep_85 : decode cX0_idealStep 85 = .ok (.lstore 4, 2) := by decide +kernel
theorem dX0_idealStep_87 : decode cX0_idealStep 87 = .ok (.iload 6, 2) := by decide +kernel
theorem dX0_idealStep_89 : decode cX0_idealStep 89 = .ok (.istore_n 3, 1) := by decide +kernel
theorem dX0_idealStep_90 : decode cX0_idealStep 90 = .ok (.iinc 6 1, 3) := by decide +kernel
theorem dX0_idealStep_93 : decode cX0_idealStep 93 = .ok (.goto (-77), 3) := by decide +kernel
theorem dX0_idealStep_96 : decode cX0_idealStep 96 = .ok (.iload_n 3, 1) := by decide +kernel
theorem dX0_idealStep_97 : decode cX0_idealStep 97 = .ok (.ireturn, 1) := by decide +kernel
theorem dX0_backStep_0 : decode cX0_backStep 0 = .ok (.aload_n 0, 1) := by decide +kernel
theorem dX0_backStep_1 : decode cX0_backStep 1 = .ok (.iload_n 1, 1) := by decide +kernel
theorem dX0_backStep_2 : decode cX0_backStep 2 = .ok (.iload_n 2, 1) := by decide +kernel
theorem dX0_backStep_3 : decode cX0_backStep 3 = .ok (.invokevirtual 52, 3) := by decide +kernel
theorem dX0_backStep_6 : decode cX0_backStep 6 = .ok (.istore_n 3, 1) := by decide +kernel
theorem dX0_backStep_7 : decode cX0_backStep 7 = .ok (.iconst 0, 1) := by decide +kernel
theorem dX0_backStep_8 : decode cX0_backStep 8 = .ok (.istore 4, 2) := by decide +kernel
theorem dX0_backStep_10 : decode cX0_backStep 10 = .ok (.iload 4, 2) := by decide +kernel
theorem dX0_backStep_12 : decode cX0_backStep 12 = .ok (.bipush 24, 2) := by decide +kernel
theorem dX0_backStep_14 : decode cX0_backStep 14 = .ok (.if_icmp .gt 45, 3) := by decide +kernel
theorem dX0_backStep_17 : decode cX0_backStep 17 = .ok (.aload_n 0, 1) := by decide +kernel
theorem dX0_backStep_18 : decode cX0_backStep 18 = .ok (.iload_n 3, 1) := by decide +kernel
theorem dX0_backStep_19 : decode cX0_backStep 19 = .ok (.iload 4, 2) := by decide +kernel
theorem dX0_backStep_21 : decode cX0_backStep 21 = .ok (.isub, 1) := by decide +kernel
theorem dX0_backStep_22 : decode cX0_backStep 22 = .ok (.iload_n 1, 1) := by decide +kernel
theorem dX0_backStep_23 : decode cX0_backStep 23 = .ok (.iload_n 2, 1) := by decide +kernel
theorem dX0_backStep_24 : decode cX0_backStep 24 = .ok (.invokevirtual 56, 3) := by decide +kernel
theorem dX0_backStep_27 : decode cX0_backStep 27 = .ok (.ifCond .eq 8, 3) := by decide +kernel
theorem dX0_backStep_30 : decode cX0_backStep 30 = .ok (.iload_n 3, 1) := by decide +kernel
theorem dX0_backStep_31 : decode cX0_backStep 31 = .ok (.iload 4, 2) := by decide +kernel
theorem dX0_backStep_33 : decode cX0_backStep 33 = .ok (.isub, 1) := by decide +kernel
theorem dX0_backStep_34 : decode cX0_backStep 34 = .ok (.ireturn, 1) := by decide +kernel
theorem dX0_backStep_35 : decode cX0_backStep 35 = .ok (.aload_n 0, 1) := by decide +kernel
theorem dX0_backStep_36 : decode cX0_backStep 36 = .ok (.iload_n 3, 1) := by decide +kernel
theorem dX0_backStep_37 : decode cX0_backStep 37 = .ok (.iload 4, 2) := by decide +kernel
theorem dX0_backStep_39 : decode cX0_backStep 39 = .ok (.iadd, 1) := by decide +kernel
theorem dX0_backStep_40 : decode cX0_backStep 40 = .ok (.iload_n 1, 1) := by decide +kernel
theorem dX0_backStep_41 : decode cX0_backStep 41 = .ok (.iload_n 2, 1) := by decide +kernel
theorem dX0_backStep_42 : decode cX0_backStep 42 = .ok (.invokevirtual 56, 3) := by decide +kernel
theorem dX0_backStep_45 : decode cX0_backStep 45 = .ok (.ifCond .eq 8, 3) := by decide +kernel
theorem dX0_backStep_48 : decode cX0_backStep 48 = .ok (.iload_n 3, 1) := by decide +kernel
theorem dX0_backStep_49 : decode cX0_backStep 49 = .ok (.iload 4, 2) := by decide +kernel
theorem dX0_backStep_51 : decode cX0_backStep 51 = .ok (.iadd, 1) := by decide +kernel
theorem dX0_backStep_52 : decode cX0_backStep 52 = .ok (.ireturn, 1) := by decide +kernel
theorem dX0_backStep_53 : decode cX0_backStep 53 = .ok (.iinc 4 1, 3) := by decide +kernel
theorem dX0_backStep_56 : decode cX0_backStep 56 = .ok (.goto (-46), 3) := by decide +kernel
theorem dX0_backStep_59 : decode cX0_backStep 59 = .ok (.bipush 99, 2) := by decide +kernel
theorem dX0_backStep_61 : decode cX0_backStep 61 = .ok (.ireturn, 1) := by decide +kernel
theorem dX0_isFreeAt_0 : decode cX0_isFreeAt 0 = .ok (.iload_n 1, 1) := by decide +kernel
theorem dX0_isFreeAt_1 : decode cX0_isFreeAt 1 = .ok (.invokestatic 60, 3) := by decide +kernel
theorem dX0_isFreeAt_4 : decode cX0_isFreeAt 4 = .ok (.ifCond .ne 5, 3) := by decide +kernel
theorem dX0_isFreeAt_7 : decode cX0_isFreeAt 7 = .ok (.iconst 0, 1) := by decide +kernel
theorem dX0_isFreeAt_8 : decode cX0_isFreeAt 8 = .ok (.ireturn, 1) := by decide +kernel
theorem dX0_isFreeAt_9 : decode cX0_isFreeAt 9 = .ok (.aload_n 0, 1) := by decide +kernel
theorem dX0_isFreeAt_10 : decode cX0_isFreeAt 10 = .ok (.iload_n 2, 1) := by decide +kernel
theorem dX0_isFreeAt_11 : decode cX0_isFreeAt 11 = .ok (.putfield 39, 3) := by decide +kernel
theorem dX0_isFreeAt_14 : decode cX0_isFreeAt 14 = .ok (.iconst 0, 1) := by decide +kernel
theorem dX0_isFreeAt_15 : decode cX0_isFreeAt 15 = .ok (.istore 4, 2) := by decide +kernel
theorem dX0_isFreeAt_17 : decode cX0_isFreeAt 17 = .ok (.iload 4, 2) := by decide +kernel
theorem dX0_isFreeAt_19 : decode cX0_isFreeAt 19 = .ok (.aload_n 0, 1) := by decide +kernel
theorem dX0_isFreeAt_20 : decode cX0_isFreeAt 20 = .ok (.getfield 35, 3) := by decide +kernel
theorem dX0_isFreeAt_23 : decode cX0_isFreeAt 23 = .ok (.if_icmp .ge 49, 3) := by decide +kernel
theorem dX0_isFreeAt_26 : decode cX0_isFreeAt 26 = .ok (.aload_n 0, 1) := by decide +kernel
theorem dX0_isFreeAt_27 : decode cX0_isFreeAt 27 = .ok (.getfield 11, 3) := by decide +kernel
theorem dX0_isFreeAt_30 : decode cX0_isFreeAt 30 = .ok (.iload 4, 2) := by decide +kernel
theorem dX0_isFreeAt_32 : decode cX0_isFreeAt 32 = .ok (.aaload, 1) := by decide +kernel
theorem dX0_isFreeAt_33 : decode cX0_isFreeAt 33 = .ok (.astore 5, 2) := by decide +kernel
theorem dX0_isFreeAt_35 : decode cX0_isFreeAt 35 = .ok (.aload_n 0, 1) := by decide +kernel
theorem dX0_isFreeAt_36 : decode cX0_isFreeAt 36 = .ok (.getfield 20, 3) := by decide +kernel
theorem dX0_isFreeAt_39 : decode cX0_isFreeAt 39 = .ok (.iload 4, 2) := by decide +kernel
theorem dX0_isFreeAt_41 : decode cX0_isFreeAt 41 = .ok (.aload 5, 2) := by decide +kernel
theorem dX0_isFreeAt_43 : decode cX0_isFreeAt 43 = .ok (.aload 5, 2) := by decide +kernel
theorem dX0_isFreeAt_45 : decode cX0_isFreeAt 45 = .ok (.getfield 64, 3) := by decide +kernel
theorem dX0_isFreeAt_48 : decode cX0_isFreeAt 48 = .ok (.iconst 1, 1) := by decide +kernel
theorem dX0_isFreeAt_49 : decode cX0_isFreeAt 49 = .ok (.if_icmp .ne 11, 3) := by decide +kernel
theorem dX0_isFreeAt_52 : decode cX0_isFreeAt 52 = .ok (.aload 5, 2) := by decide +kernel
theorem dX0_isFreeAt_54 : decode cX0_isFreeAt 54 = .ok (.getfield 67, 3) := by decide +kernel
theorem dX0_isFreeAt_57 : decode cX0_isFreeAt 57 = .ok (.goto 4, 3) := by decide +kernel
theorem dX0_isFreeAt_60 : decode cX0_isFreeAt 60 = .ok (.iload_n 1, 1) := by decide +kernel
theorem dX0_isFreeAt_61 : decode cX0_isFreeAt 61 = .ok (.iload_n 2, 1) := by decide +kernel
theorem dX0_isFreeAt_62 : decode cX0_isFreeAt 62 = .ok (.iload_n 3, 1) := by decide +kernel
theorem dX0_isFreeAt_63 : decode cX0_isFreeAt 63 = .ok (.invokevirtual 70, 3) := by decide +kernel
theorem dX0_isFreeAt_66 : decode cX0_isFreeAt 66 = .ok (.iinc 4 1, 3) := by decide +kernel
theorem dX0_isFreeAt_69 : decode cX0_isFreeAt 69 = .ok (.goto (-52), 3) := by decide +kernel
theorem dX0_isFreeAt_72 : decode cX0_isFreeAt 72 = .ok (.iconst 0, 1) := by decide +kernel
theorem dX0_isFreeAt_73 : decode cX0_isFreeAt 73 = .ok (.istore 4, 2) := by decide +kernel
theorem dX0_isFreeAt_75 : decode cX0_isFreeAt 75 = .ok (.iload 4, 2) := by decide +kernel
theorem dX0_isFreeAt_77 : decode cX0_isFreeAt 77 = .ok (.aload_n 0, 1) := by decide +kernel
theorem dX0_isFreeAt_78 : decode cX0_isFreeAt 78 = .ok (.getfield 35, 3) := by decide +kernel
theorem dX0_isFreeAt_81 : decode cX0_isFreeAt 81 = .ok (.if_icmp .ge 61, 3) := by decide +kernel
theorem dX0_isFreeAt_84 : decode cX0_isFreeAt 84 = .ok (.aload_n 0, 1) := by decide +kernel
theorem dX0_isFreeAt_85 : decode cX0_isFreeAt 85 = .ok (.getfield 11, 3) := by decide +kernel
theorem dX0_isFreeAt_88 : decode cX0_isFreeAt 88 = .ok (.iload 4, 2) := by decide +kernel
theorem dX0_isFreeAt_90 : decode cX0_isFreeAt 90 = .ok (.aaload, 1) := by decide +kernel
theorem dX0_isFreeAt_91 : decode cX0_isFreeAt 91 = .ok (.getfield 64, 3) := by decide +kernel
theorem dX0_isFreeAt_94 : decode cX0_isFreeAt 94 = .ok (.iconst 1, 1) := by decide +kernel
theorem dX0_isFreeAt_95 : decode cX0_isFreeAt 95 = .ok (.if_icmp .eq 41, 3) := by decide +kernel
theorem dX0_isFreeAt_98 : decode cX0_isFreeAt 98 = .ok (.aload_n 0, 1) := by decide +kernel
theorem dX0_isFreeAt_99 : decode cX0_isFreeAt 99 = .ok (.getfield 20, 3) := by decide +kernel
theorem dX0_isFreeAt_102 : decode cX0_isFreeAt 102 = .ok (.iload 4, 2) := by decide +kernel
theorem dX0_isFreeAt_104 : decode cX0_isFreeAt 104 = .ok (.invokevirtual 74, 3) := by decide +kernel
theorem dX0_isFreeAt_107 : decode cX0_isFreeAt 107 = .ok (.ifCond .eq 29, 3) := by decide +kernel
theorem dX0_isFreeAt_110 : decode cX0_isFreeAt 110 = .ok (.aload_n 0, 1) := by decide +kernel
theorem dX0_isFreeAt_111 : decode cX0_isFreeAt 111 = .ok (.getfield 20, 3) := by decide +kernel
theorem dX0_isFreeAt_114 : decode cX0_isFreeAt 114 = .ok (.iload 4, 2) := by decide +kernel
theorem dX0_isFreeAt_116 : decode cX0_isFreeAt 116 = .ok (.aload_n 0, 1) := by decide +kernel
theorem dX0_isFreeAt_117 : decode cX0_isFreeAt 117 = .ok (.iload 4, 2) := by decide +kernel
theorem dX0_isFreeAt_119 : decode cX0_isFreeAt 119 = .ok (.invokevirtual 77, 3) := by decide +kernel
theorem dX0_isFreeAt_122 : decode cX0_isFreeAt 122 = .ok (.aload_n 0, 1) := by decide +kernel
theorem dX0_isFreeAt_123 : decode cX0_isFreeAt 123 = .ok (.iload 4, 2) := by decide +kernel
theorem dX0_isFreeAt_125 : decode cX0_isFreeAt 125 = .ok (.invokevirtual 81, 3) := by decide +kernel
theorem dX0_isFreeAt_128 : decode cX0_isFreeAt 128 = .ok (.invokevirtual 84, 3) := by decide +kernel
theorem dX0_isFreeAt_131 : decode cX0_isFreeAt 131 = .ok (.ifCond .eq 5, 3) := by decide +kernel
theorem dX0_isFreeAt_134 : decode cX0_isFreeAt 134 = .ok (.iconst 0, 1) := by decide +kernel
theorem dX0_isFreeAt_135 : decode cX0_isFreeAt 135 = .ok (.ireturn, 1) := by decide +kernel
theorem dX0_isFreeAt_136 : decode cX0_isFreeAt 136 = .ok (.iinc 4 1, 3) := by decide +kernel
theorem dX0_isFreeAt_139 : decode cX0_isFreeAt 139 = .ok (.goto (-64), 3) := by decide +kernel
theorem dX0_isFreeAt_142 : decode cX0_isFreeAt 142 = .ok (.iconst 1, 1) := by decide +kernel
theorem dX0_isFreeAt_143 : decode cX0_isFreeAt 143 = .ok (.ireturn, 1) := by decide +kernel
theorem dX0_lookAsTurned_0 : decode cX0_lookAsTurned 0 = .ok (.aload_n 0, 1) := by decide +kernel
theorem dX0_lookAsTurned_1 : decode cX0_lookAsTurned 1 = .ok (.iload_n 1, 1) := by decide +kernel
theorem dX0_lookAsTurned_2 : decode cX0_lookAsTurned 2 = .ok (.putfield 39, 3) := by decide +kernel
theorem dX0_lookAsTurned_5 : decode cX0_lookAsTurned 5 = .ok (.iconst 0, 1) := by decide +kernel
theorem dX0_lookAsTurned_6 : decode cX0_lookAsTurned 6 = .ok (.istore_n 3, 1) := by decide +kernel
theorem dX0_lookAsTurned_7 : decode cX0_lookAsTurned 7 = .ok (.iload_n 3, 1) := by decide +kernel
theorem dX0_lookAsTurned_8 : decode cX0_lookAsTurned 8 = .ok (.aload_n 0, 1) := by decide +kernel
theorem dX0_lookAsTurned_9 : decode cX0_lookAsTurned 9 = .ok (.getfield 35, 3) := by decide +kernel
theorem dX0_lookAsTurned_12 : decode cX0_lookAsTurned 12 = .ok (.if_icmp .ge 34, 3) := by decide +kernel
theorem dX0_lookAsTurned_15 : decode cX0_lookAsTurned 15 = .ok (.aload_n 0, 1) := by decide +kernel
theorem dX0_lookAsTurned_16 : decode cX0_lookAsTurned 16 = .ok (.getfield 20, 3) := by decide +kernel
theorem dX0_lookAsTurned_19 : decode cX0_lookAsTurned 19 = .ok (.iload_n 3, 1) := by decide +kernel
theorem dX0_lookAsTurned_20 : decode cX0_lookAsTurned 20 = .ok (.aload_n 0, 1) := by decide +kernel
theorem dX0_lookAsTurned_21 : decode cX0_lookAsTurned 21 = .ok (.getfield 11, 3) := by decide +kernel
theorem dX0_lookAsTurned_24 : decode cX0_lookAsTurned 24 = .ok (.iload_n 3, 1) := by decide +kernel
theorem dX0_lookAsTurned_25 : decode cX0_lookAsTurned 25 = .ok (.aaload, 1) := by decide +kernel
theorem dX0_lookAsTurned_26 : decode cX0_lookAsTurned 26 = .ok (.aload_n 0, 1) := by decide +kernel
theorem dX0_lookAsTurned_27 : decode cX0_lookAsTurned 27 = .ok (.getfield 11, 3) := by decide +kernel
theorem dX0_lookAsTurned_30 : decode cX0_lookAsTurned 30 = .ok (.iload_n 3, 1) := by decide +kernel
theorem dX0_lookAsTurned_31 : decode cX0_lookAsTurned 31 = .ok (.aaload, 1) := by decide +kernel
theorem dX0_lookAsTurned_32 : decode cX0_lookAsTurned 32 = .ok (.getfield 67, 3) := by decide +kernel
theorem dX0_lookAsTurned_35 : decode cX0_lookAsTurned 35 = .ok (.iload_n 1, 1) := by decide +kernel
theorem dX0_lookAsTurned_36 : decode cX0_lookAsTurned 36 = .ok (.iload_n 2, 1) := by decide +kernel
theorem dX0_lookAsTurned_37 : decode cX0_lookAsTurned 37 = .ok (.invokevirtual 70, 3) := by decide +kernel
theorem dX0_lookAsTurned_40 : decode cX0_lookAsTurned 40 = .ok (.iinc 3 1, 3) := by decide +kernel
theorem dX0_lookAsTurned_43 : decode cX0_lookAsTurned 43 = .ok (.goto (-36), 3) := by decide +kernel
theorem dX0_lookAsTurned_46 : decode cX0_lookAsTurned 46 = .ok (.return_, 1) := by decide +kernel
theorem dX0_firstAhead_0 : decode cX0_firstAhead 0 = .ok (.aload_n 0, 1) := by decide +kernel
theorem dX0_firstAhead_1 : decode cX0_firstAhead 1 = .ok (.getfield 39, 3) := by decide +kernel
theorem dX0_firstAhead_4 : decode cX0_firstAhead 4 = .ok (.ifCond .le 9, 3) := by decide +kernel
theorem dX0_firstAhead_7 : decode cX0_firstAhead 7 = .ok (.iload_n 1, 1) := by decide +kernel
theorem dX0_firstAhead_8 : decode cX0_firstAhead 8 = .ok (.iconst 1, 1) := by decide +kernel
theorem dX0_firstAhead_9 : decode cX0_firstAhead 9 = .ok (.iadd, 1) := by decide +kernel
theorem dX0_firstAhead_10 : decode cX0_firstAhead 10 = .ok (.goto 4, 3) := by decide +kernel
theorem dX0_firstAhead_13 : decode cX0_firstAhead 13 = .ok (.iconst 0, 1) := by decide +kernel
theorem dX0_firstAhead_14 : decode cX0_firstAhead 14 = .ok (.ireturn, 1) := by decide +kernel
theorem dX0_lastAhead_0 : decode cX0_lastAhead 0 = .ok (.aload_n 0, 1) := by decide +kernel
theorem dX0_lastAhead_1 : decode cX0_lastAhead 1 = .ok (.getfield 39, 3) := by decide +kernel
theorem dX0_lastAhead_4 : decode cX0_lastAhead 4 = .ok (.ifCond .ne 5, 3) := by decide +kernel
theorem dX0_lastAhead_7 : decode cX0_lastAhead 7 = .ok (.iconst (-1), 1) := by decide +kernel
theorem dX0_lastAhead_8 : decode cX0_lastAhead 8 = .ok (.ireturn, 1) := by decide +kernel
theorem dX0_lastAhead_9 : decode cX0_lastAhead 9 = .ok (.aload_n 0, 1) := by decide +kernel
theorem dX0_lastAhead_10 : decode cX0_lastAhead 10 = .ok (.getfield 39, 3) := by decide +kernel
theorem dX0_lastAhead_13 : decode cX0_lastAhead 13 = .ok (.ifCond .le 12, 3) := by decide +kernel
theorem dX0_lastAhead_16 : decode cX0_lastAhead 16 = .ok (.aload_n 0, 1) := by decide +kernel
theorem dX0_lastAhead_17 : decode cX0_lastAhead 17 = .ok (.getfield 35, 3) := by decide +kernel
theorem dX0_lastAhead_20 : decode cX0_lastAhead 20 = .ok (.iconst 1, 1) := by decide +kernel
theorem dX0_lastAhead_21 : decode cX0_lastAhead 21 = .ok (.isub, 1) := by decide +kernel
theorem dX0_lastAhead_22 : decode cX0_lastAhead 22 = .ok (.goto 6, 3) := by decide +kernel
theorem dX0_lastAhead_25 : decode cX0_lastAhead 25 = .ok (.iload_n 1, 1) := by decide +kernel
theorem dX0_lastAhead_26 : decode cX0_lastAhead 26 = .ok (.iconst 1, 1) := by decide +kernel
theorem dX0_lastAhead_27 : decode cX0_lastAhead 27 = .ok (.isub, 1) := by decide +kernel
theorem dX0_lastAhead_28 : decode cX0_lastAhead 28 = .ok (.ireturn, 1) := by decide +kernel
theorem dX0_castShade_0 : decode cX0_castShade 0 = .ok (.aload_n 0, 1) := by decide +kernel
theorem dX0_castShade_1 : decode cX0_castShade 1 = .ok (.getfield 20, 3) := by decide +kernel
theorem dX0_castShade_4 : decode cX0_castShade 4 = .ok (.iload_n 1, 1) := by decide +kernel
theorem dX0_castShade_5 : decode cX0_castShade 5 = .ok (.aload_n 0, 1) := by decide +kernel
theorem dX0_castShade_6 : decode cX0_castShade 6 = .ok (.iload_n 1, 1) := by decide +kernel
theorem dX0_castShade_7 : decode cX0_castShade 7 = .ok (.invokevirtual 77, 3) := by decide +kernel
theorem dX0_castShade_10 : decode cX0_castShade 10 = .ok (.aload_n 0, 1) := by decide +kernel
theorem dX0_castShade_11 : decode cX0_castShade 11 = .ok (.iload_n 1, 1) := by decide +kernel
theorem dX0_castShade_12 : decode cX0_castShade 12 = .ok (.invokevirtual 81, 3) := by decide +kernel
theorem dX0_castShade_15 : decode cX0_castShade 15 = .ok (.invokevirtual 87, 3) := by decide +kernel
theorem dX0_castShade_18 : decode cX0_castShade 18 = .ok (.return_, 1) := by decide +kernel
theorem dX0_weighAll_0 : decode cX0_weighAll 0 = .ok (.iconst 0, 1) := by decide +kernel
theorem dX0_weighAll_1 : decode cX0_weighAll 1 = .ok (.istore_n 1, 1) := by decide +kernel
theorem dX0_weighAll_2 : decode cX0_weighAll 2 = .ok (.iload_n 1, 1) := by decide +kernel
theorem dX0_weighAll_3 : decode cX0_weighAll 3 = .ok (.aload_n 0, 1) := by decide +kernel
theorem dX0_weighAll_4 : decode cX0_weighAll 4 = .ok (.getfield 35, 3) := by decide +kernel
theorem dX0_weighAll_7 : decode cX0_weighAll 7 = .ok (.if_icmp .ge 14, 3) := by decide +kernel
theorem dX0_weighAll_10 : decode cX0_weighAll 10 = .ok (.aload_n 0, 1) := by decide +kernel
theorem dX0_weighAll_11 : decode cX0_weighAll 11 = .ok (.iload_n 1, 1) := by decide +kernel
theorem dX0_weighAll_12 : decode cX0_weighAll 12 = .ok (.invokevirtual 91, 3) := by decide +kernel
theorem dX0_weighAll_15 : decode cX0_weighAll 15 = .ok (.iinc 1 1, 3) := by decide +kernel
theorem dX0_weighAll_18 : decode cX0_weighAll 18 = .ok (.goto (-16), 3) := by decide +kernel
theorem dX0_weighAll_21 : decode cX0_weighAll 21 = .ok (.return_, 1) := by decide +kernel
theorem dX0_weigh_0 : decode cX0_weigh 0 = .ok (.aload_n 0, 1) := by decide +kernel
theorem dX0_weigh_1 : decode cX0_weigh 1 = .ok (.getfield 24, 3) := by decide +kernel
theorem dX0_weigh_4 : decode cX0_weigh 4 = .ok (.iload_n 1, 1) := by decide +kernel
theorem dX0_weigh_5 : decode cX0_weigh 5 = .ok (.lconst 0, 1) := by decide +kernel
theorem dX0_weigh_6 : decode cX0_weigh 6 = .ok (.lastore, 1) := by decide +kernel
theorem dX0_weigh_7 : decode cX0_weigh 7 = .ok (.aload_n 0, 1) := by decide +kernel
theorem dX0_weigh_8 : decode cX0_weigh 8 = .ok (.getfield 28, 3) := by decide +kernel
theorem dX0_weigh_11 : decode cX0_weigh 11 = .ok (.iload_n 1, 1) := by decide +kernel
theorem dX0_weigh_12 : decode cX0_weigh 12 = .ok (.lconst 0, 1) := by decide +kernel
theorem dX0_weigh_13 : decode cX0_weigh 13 = .ok (.lastore, 1) := by decide +kernel
theorem dX0_weigh_14 : decode cX0_weigh 14 = .ok (.aload_n 0, 1) := by decide +kernel
theorem dX0_weigh_15 : decode cX0_weigh 15 = .ok (.getfield 31, 3) := by decide +kernel
theorem dX0_weigh_18 : decode cX0_weigh 18 = .ok (.iload_n 1, 1) := by decide +kernel
theorem dX0_weigh_19 : decode cX0_weigh 19 = .ok (.iconst 0, 1) := by decide +kernel
theorem dX0_weigh_20 : decode cX0_weigh 20 = .ok (.iastore, 1) := by decide +kernel
theorem dX0_weigh_21 : decode cX0_weigh 21 = .ok (.aload_n 0, 1) := by decide +kernel
theorem dX0_weigh_22 : decode cX0_weigh 22 = .ok (.getfield 20, 3) := by decide +kernel
theorem dX0_weigh_25 : decode cX0_weigh 25 = .ok (.iload_n 1, 1) := by decide +kernel
theorem dX0_weigh_26 : decode cX0_weigh 26 = .ok (.invokevirtual 74, 3) := by decide +kernel
theorem dX0_weigh_29 : decode cX0_weigh 29 = .ok (.ifCond .ne 4, 3) := by decide +kernel
theorem dX0_weigh_32 : decode cX0_weigh 32 = .ok (.return_, 1) := by decide +kernel
theorem dX0_weigh_33 : decode cX0_weigh 33 = .ok (.aload_n 0, 1) := by decide +kernel
theorem dX0_weigh_34 : decode cX0_weigh 34 = .ok (.iload_n 1, 1) := by decide +kernel
theorem dX0_weigh_35 : decode cX0_weigh 35 = .ok (.invokevirtual 95, 3) := by decide +kernel
theorem dX0_weigh_38 : decode cX0_weigh 38 = .ok (.iconst 3, 1) := by decide +kernel
theorem dX0_weigh_39 : decode cX0_weigh 39 = .ok (.aload_n 0, 1) := by decide +kernel
theorem dX0_weigh_40 : decode cX0_weigh 40 = .ok (.getfield 20, 3) := by decide +kernel
theorem dX0_weigh_43 : decode cX0_weigh 43 = .ok (.iload_n 1, 1) := by decide +kernel
theorem dX0_weigh_44 : decode cX0_weigh 44 = .ok (.invokevirtual 98, 3) := by decide +kernel
theorem dX0_weigh_47 : decode cX0_weigh 47 = .ok (.invokestatic 101, 3) := by decide +kernel
theorem dX0_weigh_50 : decode cX0_weigh 50 = .ok (.isub, 1) := by decide +kernel
theorem dX0_weigh_51 : decode cX0_weigh 51 = .ok (.istore_n 2, 1) := by decide +kernel
theorem dX0_weigh_52 : decode cX0_weigh 52 = .ok (.aload_n 0, 1) := by decide +kernel
theorem dX0_weigh_53 : decode cX0_weigh 53 = .ok (.getfield 24, 3) := by decide +kernel
theorem dX0_weigh_56 : decode cX0_weigh 56 = .ok (.iload_n 1, 1) := by decide +kernel
theorem dX0_weigh_57 : decode cX0_weigh 57 = .ok (.iload_n 2, 1) := by decide +kernel
theorem dX0_weigh_58 : decode cX0_weigh 58 = .ok (.i2l, 1) := by decide +kernel
theorem dX0_weigh_59 : decode cX0_weigh 59 = .ok (.aload_n 0, 1) := by decide +kernel
theorem dX0_weigh_60 : decode cX0_weigh 60 = .ok (.getfield 20, 3) := by decide +kernel
theorem dX0_weigh_63 : decode cX0_weigh 63 = .ok (.iload_n 1, 1) := by decide +kernel
theorem dX0_weigh_64 : decode cX0_weigh 64 = .ok (.invokevirtual 106, 3) := by decide +kernel
theorem dX0_weigh_67 : decode cX0_weigh 67 = .ok (.lmul, 1) := by decide +kernel
theorem dX0_weigh_68 : decode cX0_weigh 68 = .ok (.ldc2_w 110, 3) := by decide +kernel
theorem dX0_weigh_71 : decode cX0_weigh 71 = .ok (.ldiv, 1) := by decide +kernel
theorem dX0_weigh_72 : decode cX0_weigh 72 = .ok (.lastore, 1) := by decide +kernel
theorem dX0_weigh_73 : decode cX0_weigh 73 = .ok (.aload_n 0, 1) := by decide +kernel
theorem dX0_weigh_74 : decode cX0_weigh 74 = .ok (.getfield 28, 3) := by decide +kernel
theorem dX0_weigh_77 : decode cX0_weigh 77 = .ok (.iload_n 1, 1) := by decide +kernel
theorem dX0_weigh_78 : decode cX0_weigh 78 = .ok (.aload_n 0, 1) := by decide +kernel
theorem dX0_weigh_79 : decode cX0_weigh 79 = .ok (.getfield 24, 3) := by decide +kernel
theorem dX0_weigh_82 : decode cX0_weigh 82 = .ok (.iload_n 1, 1) := by decide +kernel
theorem dX0_weigh_83 : decode cX0_weigh 83 = .ok (.laload, 1) := by decide +kernel
theorem dX0_weigh_84 : decode cX0_weigh 84 = .ok (.aload_n 0, 1) := by decide +kernel
theorem dX0_weigh_85 : decode cX0_weigh 85 = .ok (.getfield 11, 3) := by decide +kernel
theorem dX0_weigh_88 : decode cX0_weigh 88 = .ok (.iload_n 1, 1) := by decide +kernel
theorem dX0_weigh_89 : decode cX0_weigh 89 = .ok (.aaload, 1) := by decide +kernel
theorem dX0_weigh_90 : decode cX0_weigh 90 = .ok (.getfield 112, 3) := by decide +kernel
theorem dX0_weigh_93 : decode cX0_weigh 93 = .ok (.i2l, 1) := by decide +kernel
theorem dX0_weigh_94 : decode cX0_weigh 94 = .ok (.lmul, 1) := by decide +kernel
theorem dX0_weigh_95 : decode cX0_weigh 95 = .ok (.ldc2_w 115, 3) := by decide +kernel
theorem dX0_weigh_98 : decode cX0_weigh 98 = .ok (.ldiv, 1) := by decide +kernel
theorem dX0_weigh_99 : decode cX0_weigh 99 = .ok (.lastore, 1) := by decide +kernel
theorem dX0_weigh_100 : decode cX0_weigh 100 = .ok (.aload_n 0, 1) := by decide +kernel
theorem dX0_weigh_101 : decode cX0_weigh 101 = .ok (.getfield 31, 3) := by decide +kernel
theorem dX0_weigh_104 : decode cX0_weigh 104 = .ok (.iload_n 1, 1) := by decide +kernel
theorem dX0_weigh_105 : decode cX0_weigh 105 = .ok (.aload_n 0, 1) := by decide +kernel
theorem dX0_weigh_106 : decode cX0_weigh 106 = .ok (.getfield 24, 3) := by decide +kernel
theorem dX0_weigh_109 : decode cX0_weigh 109 = .ok (.iload_n 1, 1) := by decide +kernel
theorem dX0_weigh_110 : decode cX0_weigh 110 = .ok (.laload, 1) := by decide +kernel
theorem dX0_weigh_111 : decode cX0_weigh 111 = .ok (.aload_n 0, 1) := by decide +kernel
theorem dX0_weigh_112 : decode cX0_weigh 112 = .ok (.getfield 28, 3) := by decide +kernel
theorem dX0_weigh_115 : decode cX0_weigh 115 = .ok (.iload_n 1, 1) := by decide +kernel
theorem dX0_weigh_116 : decode cX0_weigh 116 = .ok (.laload, 1) := by decide +kernel
theorem dX0_weigh_117 : decode cX0_weigh 117 = .ok (.lsub, 1) := by decide +kernel
theorem dX0_weigh_118 : decode cX0_weigh 118 = .ok (.l2i, 1) := by decide +kernel
theorem dX0_weigh_119 : decode cX0_weigh 119 = .ok (.iastore, 1) := by decide +kernel
theorem dX0_weigh_120 : decode cX0_weigh 120 = .ok (.return_, 1) := by decide +kernel
theorem dX0_turnTo_0 : decode cX0_turnTo 0 = .ok (.iconst 0, 1) := by decide +kernel
theorem dX0_turnTo_1 : decode cX0_turnTo 1 = .ok (.istore_n 3, 1) := by decide +kernel
theorem dX0_turnTo_2 : decode cX0_turnTo 2 = .ok (.iload_n 3, 1) := by decide +kernel
theorem dX0_turnTo_3 : decode cX0_turnTo 3 = .ok (.aload_n 0, 1) := by decide +kernel
theorem dX0_turnTo_4 : decode cX0_turnTo 4 = .ok (.getfield 35, 3) := by decide +kernel
theorem dX0_turnTo_7 : decode cX0_turnTo 7 = .ok (.if_icmp .ge 45, 3) := by decide +kernel
theorem dX0_turnTo_10 : decode cX0_turnTo 10 = .ok (.aload_n 0, 1) := by decide +kernel
theorem dX0_turnTo_11 : decode cX0_turnTo 11 = .ok (.getfield 11, 3) := by decide +kernel
theorem dX0_turnTo_14 : decode cX0_turnTo 14 = .ok (.iload_n 3, 1) := by decide +kernel
theorem dX0_turnTo_15 : decode cX0_turnTo 15 = .ok (.aaload, 1) := by decide +kernel
theorem dX0_turnTo_16 : decode cX0_turnTo 16 = .ok (.astore 4, 2) := by decide +kernel
theorem dX0_turnTo_18 : decode cX0_turnTo 18 = .ok (.aload 4, 2) := by decide +kernel
theorem dX0_turnTo_20 : decode cX0_turnTo 20 = .ok (.getfield 64, 3) := by decide +kernel
theorem dX0_turnTo_23 : decode cX0_turnTo 23 = .ok (.iconst 1, 1) := by decide +kernel
theorem dX0_turnTo_24 : decode cX0_turnTo 24 = .ok (.if_icmp .eq 22, 3) := by decide +kernel
theorem dX0_turnTo_27 : decode cX0_turnTo 27 = .ok (.aload 4, 2) := by decide +kernel
theorem dX0_turnTo_29 : decode cX0_turnTo 29 = .ok (.aload 4, 2) := by decide +kernel
theorem dX0_turnTo_31 : decode cX0_turnTo 31 = .ok (.getfield 64, 3) := by decide +kernel
theorem dX0_turnTo_34 : decode cX0_turnTo 34 = .ok (.iconst 2, 1) := by decide +kernel
theorem dX0_turnTo_35 : decode cX0_turnTo 35 = .ok (.if_icmp .ne 7, 3) := by decide +kernel
theorem dX0_turnTo_38 : decode cX0_turnTo 38 = .ok (.iload_n 2, 1) := by decide +kernel
theorem dX0_turnTo_39 : decode cX0_turnTo 39 = .ok (.goto 4, 3) := by decide +kernel
theorem dX0_turnTo_42 : decode cX0_turnTo 42 = .ok (.iload_n 1, 1) := by decide +kernel
theorem dX0_turnTo_43 : decode cX0_turnTo 43 = .ok (.putfield 67, 3) := by decide +kernel
theorem dX0_turnTo_46 : decode cX0_turnTo 46 = .ok (.iinc 3 1, 3) := by decide +kernel
theorem dX0_turnTo_49 : decode cX0_turnTo 49 = .ok (.goto (-47), 3) := by decide +kernel
theorem dX0_turnTo_52 : decode cX0_turnTo 52 = .ok (.return_, 1) := by decide +kernel
theorem dX0_washAll_0 : decode cX0_washAll 0 = .ok (.iconst 0, 1) := by decide +kernel
theorem dX0_washAll_1 : decode cX0_washAll 1 = .ok (.istore_n 1, 1) := by decide +kernel
theorem dX0_washAll_2 : decode cX0_washAll 2 = .ok (.iload_n 1, 1) := by decide +kernel
theorem dX0_washAll_3 : decode cX0_washAll 3 = .ok (.aload_n 0, 1) := by decide +kernel
theorem dX0_washAll_4 : decode cX0_washAll 4 = .ok (.getfield 35, 3) := by decide +kernel
theorem dX0_washAll_7 : decode cX0_washAll 7 = .ok (.if_icmp .ge 19, 3) := by decide +kernel
theorem dX0_washAll_10 : decode cX0_washAll 10 = .ok (.aload_n 0, 1) := by decide +kernel
theorem dX0_washAll_11 : decode cX0_washAll 11 = .ok (.getfield 11, 3) := by decide +kernel
theorem dX0_washAll_14 : decode cX0_washAll 14 = .ok (.iload_n 1, 1) := by decide +kernel
theorem dX0_washAll_15 : decode cX0_washAll 15 = .ok (.aaload, 1) := by decide +kernel
theorem dX0_washAll_16 : decode cX0_washAll 16 = .ok (.invokevirtual 117, 3) := by decide +kernel
theorem dX0_washAll_19 : decode cX0_washAll 19 = .ok (.pop, 1) := by decide +kernel
theorem dX0_washAll_20 : decode cX0_washAll 20 = .ok (.iinc 1 1, 3) := by decide +kernel
theorem dX0_washAll_23 : decode cX0_washAll 23 = .ok (.goto (-21), 3) := by decide +kernel
theorem dX0_washAll_26 : decode cX0_washAll 26 = .ok (.return_, 1) := by decide +kernel
theorem dX0_washRows_0 : decode cX0_washRows 0 = .ok (.iconst 0, 1) := by decide +kernel
theorem dX0_washRows_1 : decode cX0_washRows 1 = .ok (.istore_n 2, 1) := by decide +kernel
theorem dX0_washRows_2 : decode cX0_washRows 2 = .ok (.iconst 0, 1) := by decide +kernel
theorem dX0_washRows_3 : decode cX0_washRows 3 = .ok (.istore_n 3, 1) := by decide +kernel
theorem dX0_washRows_4 : decode cX0_washRows 4 = .ok (.iload_n 3, 1) := by decide +kernel
theorem dX0_washRows_5 : decode cX0_washRows 5 = .ok (.aload_n 0, 1) := by decide +kernel
theorem dX0_washRows_6 : decode cX0_washRows 6 = .ok (.getfield 35, 3) := by decide +kernel
theorem dX0_washRows_9 : decode cX0_washRows 9 = .ok (.if_icmp .ge 33, 3) := by decide +kernel
theorem dX0_washRows_12 : decode cX0_washRows 12 = .ok (.iload_n 1, 1) := by decide +kernel
theorem dX0_washRows_13 : decode cX0_washRows 13 = .ok (.iload_n 3, 1) := by decide +kernel
theorem dX0_washRows_14 : decode cX0_washRows 14 = .ok (.ishr, 1) := by decide +kernel
theorem dX0_washRows_15 : decode cX0_washRows 15 = .ok (.iconst 1, 1) := by decide +kernel
theorem dX0_washRows_16 : decode cX0_washRows 16 = .ok (.iand, 1) := by decide +kernel
theorem dX0_washRows_17 : decode cX0_washRows 17 = .ok (.iconst 1, 1) := by decide +kernel
theorem dX0_washRows_18 : decode cX0_washRows 18 = .ok (.if_icmp .ne 18, 3) := by decide +kernel
theorem dX0_washRows_21 : decode cX0_washRows 21 = .ok (.aload_n 0, 1) := by decide +kernel
theorem dX0_washRows_22 : decode cX0_washRows 22 = .ok (.getfield 11, 3) := by decide +kernel
theorem dX0_washRows_25 : decode cX0_washRows 25 = .ok (.iload_n 3, 1) := by decide +kernel
theorem dX0_washRows_26 : decode cX0_washRows 26 = .ok (.aaload, 1) := by decide +kernel
theorem dX0_washRows_27 : decode cX0_washRows 27 = .ok (.invokevirtual 117, 3) := by decide +kernel
theorem dX0_washRows_30 : decode cX0_washRows 30 = .ok (.ifCond .eq 6, 3) := by decide +kernel
theorem dX0_washRows_33 : decode cX0_washRows 33 = .ok (.iinc 2 1, 3) := by decide +kernel
theorem dX0_washRows_36 : decode cX0_washRows 36 = .ok (.iinc 3 1, 3) := by decide +kernel
theorem dX0_washRows_39 : decode cX0_washRows 39 = .ok (.goto (-35), 3) := by decide +kernel
theorem dX0_washRows_42 : decode cX0_washRows 42 = .ok (.iload_n 2, 1) := by decide +kernel
theorem dX0_washRows_43 : decode cX0_washRows 43 = .ok (.ireturn, 1) := by decide +kernel
theorem dX0_addDust_0 : decode cX0_addDust 0 = .ok (.iconst 0, 1) := by decide +kernel
theorem dX0_addDust_1 : decode cX0_addDust 1 = .ok (.istore_n 2, 1) := by decide +kernel
theorem dX0_addDust_2 : decode cX0_addDust 2 = .ok (.iconst 0, 1) := by decide +kernel
theorem dX0_addDust_3 : decode cX0_addDust 3 = .ok (.istore_n 3, 1) := by decide +kernel
theorem dX0_addDust_4 : decode cX0_addDust 4 = .ok (.iload_n 3, 1) := by decide +kernel
theorem dX0_addDust_5 : decode cX0_addDust 5 = .ok (.aload_n 0, 1) := by decide +kernel
theorem dX0_addDust_6 : decode cX0_addDust 6 = .ok (.getfield 35, 3) := by decide +kernel
theorem dX0_addDust_9 : decode cX0_addDust 9 = .ok (.if_icmp .ge 47, 3) := by decide +kernel
theorem dX0_addDust_12 : decode cX0_addDust 12 = .ok (.aload_n 0, 1) := by decide +kernel
theorem dX0_addDust_13 : decode cX0_addDust 13 = .ok (.getfield 11, 3) := by decide +kernel
theorem dX0_addDust_16 : decode cX0_addDust 16 = .ok (.iload_n 3, 1) := by decide +kernel
theorem dX0_addDust_17 : decode cX0_addDust 17 = .ok (.aaload, 1) := by decide +kernel
theorem dX0_addDust_18 : decode cX0_addDust 18 = .ok (.sipush 1000, 3) := by decide +kernel
theorem dX0_addDust_21 : decode cX0_addDust 21 = .ok (.aload_n 0, 1) := by decide +kernel
theorem dX0_addDust_22 : decode cX0_addDust 22 = .ok (.getfield 11, 3) := by decide +kernel
theorem dX0_addDust_25 : decode cX0_addDust 25 = .ok (.iload_n 3, 1) := by decide +kernel
theorem dX0_addDust_26 : decode cX0_addDust 26 = .ok (.aaload, 1) := by decide +kernel
theorem dX0_addDust_27 : decode cX0_addDust 27 = .ok (.getfield 112, 3) := by decide +kernel
theorem dX0_addDust_30 : decode cX0_addDust 30 = .ok (.iload_n 1, 1) := by decide +kernel
theorem dX0_addDust_31 : decode cX0_addDust 31 = .ok (.iadd, 1) := by decide +kernel
theorem dX0_addDust_32 : decode cX0_addDust 32 = .ok (.invokestatic 121, 3) := by decide +kernel
theorem dX0_addDust_35 : decode cX0_addDust 35 = .ok (.putfield 112, 3) := by decide +kernel
theorem dX0_addDust_38 : decode cX0_addDust 38 = .ok (.iload_n 2, 1) := by decide +kernel
theorem dX0_addDust_39 : decode cX0_addDust 39 = .ok (.aload_n 0, 1) := by decide +kernel
theorem dX0_addDust_40 : decode cX0_addDust 40 = .ok (.getfield 11, 3) := by decide +kernel
theorem dX0_addDust_43 : decode cX0_addDust 43 = .ok (.iload_n 3, 1) := by decide +kernel
theorem dX0_addDust_44 : decode cX0_addDust 44 = .ok (.aaload, 1) := by decide +kernel
theorem dX0_addDust_45 : decode cX0_addDust 45 = .ok (.getfield 112, 3) := by decide +kernel
theorem dX0_addDust_48 : decode cX0_addDust 48 = .ok (.iadd, 1) := by decide +kernel
theorem dX0_addDust_49 : decode cX0_addDust 49 = .ok (.istore_n 2, 1) := by decide +kernel
theorem dX0_addDust_50 : decode cX0_addDust 50 = .ok (.iinc 3 1, 3) := by decide +kernel
theorem dX0_addDust_53 : decode cX0_addDust 53 = .ok (.goto (-49), 3) := by decide +kernel
theorem dX0_addDust_56 : decode cX0_addDust 56 = .ok (.iload_n 2, 1) := by decide +kernel
theorem dX0_addDust_57 : decode cX0_addDust 57 = .ok (.ireturn, 1) := by decide +kernel
theorem dX1_init_0 : decode cX1_init 0 = .ok (.aload_n 0, 1) := by decide +kernel
theorem dX1_init_1 : decode cX1_init 1 = .ok (.invokespecial 3, 3) := by decide +kernel
theorem dX1_init_4 : decode cX1_init 4 = .ok (.aload_n 0, 1) := by decide +kernel
theorem dX1_init_5 : decode cX1_init 5 = .ok (.bipush 6, 2) := by decide +kernel
theorem dX1_init_7 : decode cX1_init 7 = .ok (.newarray .long, 2) := by decide +kernel
theorem dX1_init_9 : decode cX1_init 9 = .ok (.putfield 9, 3) := by decide +kernel
theorem dX1_init_12 : decode cX1_init 12 = .ok (.aload_n 0, 1) := by decide +kernel
theorem dX1_init_13 : decode cX1_init 13 = .ok (.bipush 6, 2) := by decide +kernel
theorem dX1_init_15 : decode cX1_init 15 = .ok (.newarray .long, 2) := by decide +kernel
theorem dX1_init_17 : decode cX1_init 17 = .ok (.putfield 15, 3) := by decide +kernel
theorem dX1_init_20 : decode cX1_init 20 = .ok (.aload_n 0, 1) := by decide +kernel
theorem dX1_init_21 : decode cX1_init 21 = .ok (.iconst 0, 1) := by decide +kernel
theorem dX1_init_22 : decode cX1_init 22 = .ok (.putfield 18, 3) := by decide +kernel
theorem dX1_init_25 : decode cX1_init 25 = .ok (.aload_n 0, 1) := by decide +kernel
theorem dX1_init_26 : decode cX1_init 26 = .ok (.iconst 0, 1) := by decide +kernel
theorem dX1_init_27 : decode cX1_init 27 = .ok (.putfield 22, 3) := by decide +kernel
theorem dX1_init_30 : decode cX1_init 30 = .ok (.aload_n 0, 1) := by decide +kernel
theorem dX1_init_31 : decode cX1_init 31 = .ok (.iconst 0, 1) := by decide +kernel
theorem dX1_init_32 : decode cX1_init 32 = .ok (.putfield 26, 3) := by decide +kernel
theorem dX1_init_35 : decode cX1_init 35 = .ok (.return_, 1) := by decide +kernel
theorem dX1_begin_0 : decode cX1_begin 0 = .ok (.aload_n 0, 1) := by decide +kernel
theorem dX1_begin_1 : decode cX1_begin 1 = .ok (.iconst 1, 1) := by decide +kernel
theorem dX1_begin_2 : decode cX1_begin 2 = .ok (.putfield 18, 3) := by decide +kernel
theorem dX1_begin_5 : decode cX1_begin 5 = .ok (.aload_n 0, 1) := by decide +kernel
theorem dX1_begin_6 : decode cX1_begin 6 = .ok (.iload_n 1, 1) := by decide +kernel
theorem dX1_begin_7 : decode cX1_begin 7 = .ok (.putfield 26, 3) := by decide +kernel
theorem dX1_begin_10 : decode cX1_begin 10 = .ok (.aload_n 0, 1) := by decide +kernel
theorem dX1_begin_11 : decode cX1_begin 11 = .ok (.iload_n 2, 1) := by decide +kernel
theorem dX1_begin_12 : decode cX1_begin 12 = .ok (.putfield 22, 3) := by decide +kernel
theorem dX1_begin_15 : decode cX1_begin 15 = .ok (.iconst 0, 1) := by decide +kernel
theorem dX1_begin_16 : decode cX1_begin 16 = .ok (.istore_n 3, 1) := by decide +kernel
theorem dX1_begin_17 : decode cX1_begin 17 = .ok (.iload_n 3, 1) := by decide +kernel
theorem dX1_begin_18 : decode cX1_begin 18 = .ok (.bipush 6, 2) := by decide +kernel
theorem dX1_begin_20 : decode cX1_begin 20 = .ok (.if_icmp .ge 16, 3) := by decide +kernel
theorem dX1_begin_23 : decode cX1_begin 23 = .ok (.aload_n 0, 1) := by decide +kernel
theorem dX1_begin_24 : decode cX1_begin 24 = .ok (.getfield 9, 3) := by decide +kernel
theorem dX1_begin_27 : decode cX1_begin 27 = .ok (.iload_n 3, 1) := by decide +kernel
theorem dX1_begin_28 : decode cX1_begin 28 = .ok (.lconst 0, 1) := by decide +kernel
theorem dX1_begin_29 : decode cX1_begin 29 = .ok (.lastore, 1) := by decide +kernel
theorem dX1_begin_30 : decode cX1_begin 30 = .ok (.iinc 3 1, 3) := by decide +kernel
theorem dX1_begin_33 : decode cX1_begin 33 = .ok (.goto (-16), 3) := by decide +kernel
theorem dX1_begin_36 : decode cX1_begin 36 = .ok (.return_, 1) := by decide +kernel
theorem dX1_addToSums_0 : decode cX1_addToSums 0 = .ok (.iconst 0, 1) := by decide +kernel
theorem dX1_addToSums_1 : decode cX1_addToSums 1 = .ok (.istore_n 1, 1) := by decide +kernel
theorem dX1_addToSums_2 : decode cX1_addToSums 2 = .ok (.iload_n 1, 1) := by decide +kernel
theorem dX1_addToSums_3 : decode cX1_addToSums 3 = .ok (.bipush 6, 2) := by decide +kernel
theorem dX1_addToSums_5 : decode cX1_addToSums 5 = .ok (.if_icmp .ge 24, 3) := by decide +kernel
theorem dX1_addToSums_8 : decode cX1_addToSums 8 = .ok (.aload_n 0, 1) := by decide +kernel
theorem dX1_addToSums_9 : decode cX1_addToSums 9 = .ok (.getfield 15, 3) := by decide +kernel
theorem dX1_addToSums_12 : decode cX1_addToSums 12 = .ok (.iload_n 1, 1) := by decide +kernel
theorem dX1_addToSums_13 : decode cX1_addToSums 13 = .ok (.dup2, 1) := by decide +kernel
theorem dX1_addToSums_14 : decode cX1_addToSums 14 = .ok (.laload, 1) := by decide +kernel
theorem dX1_addToSums_15 : decode cX1_addToSums 15 = .ok (.aload_n 0, 1) := by decide +kernel
theorem dX1_addToSums_16 : decode cX1_addToSums 16 = .ok (.getfield 9, 3) := by decide +kernel
theorem dX1_addToSums_19 : decode cX1_addToSums 19 = .ok (.iload_n 1, 1) := by decide +kernel
theorem dX1_addToSums_20 : decode cX1_addToSums 20 = .ok (.laload, 1) := by decide +kernel
theorem dX1_addToSums_21 : decode cX1_addToSums 21 = .ok (.ladd, 1) := by decide +kernel
theorem dX1_addToSums_22 : decode cX1_addToSums 22 = .ok (.lastore, 1) := by decide +kernel
theorem dX1_addToSums_23 : decode cX1_addToSums 23 = .ok (.iinc 1 1, 3) := by decide +kernel
theorem dX1_addToSums_26 : decode cX1_addToSums 26 = .ok (.goto (-24), 3) := by decide +kernel
theorem dX1_addToSums_29 : decode cX1_addToSums 29 = .ok (.return_, 1) := by decide +kernel
theorem dX2_init_0 : decode cX2_init 0 = .ok (.aload_n 0, 1) := by decide +kernel
theorem dX2_init_1 : decode cX2_init 1 = .ok (.invokespecial 3, 3) := by decide +kernel
theorem dX2_init_4 : decode cX2_init 4 = .ok (.aload_n 0, 1) := by decide +kernel
theorem dX2_init_5 : decode cX2_init 5 = .ok (.bipush 10, 2) := by decide +kernel
theorem dX2_init_7 : decode cX2_init 7 = .ok (.newarray .long, 2) := by decide +kernel
theorem dX2_init_9 : decode cX2_init 9 = .ok (.putfield 9, 3) := by decide +kernel
theorem dX2_init_12 : decode cX2_init 12 = .ok (.aload_n 0, 1) := by decide +kernel
theorem dX2_init_13 : decode cX2_init 13 = .ok (.bipush 10, 2) := by decide +kernel
theorem dX2_init_15 : decode cX2_init 15 = .ok (.newarray .long, 2) := by decide +kernel
theorem dX2_init_17 : decode cX2_init 17 = .ok (.putfield 15, 3) := by decide +kernel
theorem dX2_init_20 : decode cX2_init 20 = .ok (.aload_n 0, 1) := by decide +kernel
theorem dX2_init_21 : decode cX2_init 21 = .ok (.bipush 10, 2) := by decide +kernel
theorem dX2_init_23 : decode cX2_init 23 = .ok (.newarray .long, 2) := by decide +kernel
theorem dX2_init_25 : decode cX2_init 25 = .ok (.putfield 18, 3) := by decide +kernel
theorem dX2_init_28 : decode cX2_init 28 = .ok (.aload_n 0, 1) := by decide +kernel
theorem dX2_init_29 : decode cX2_init 29 = .ok (.bipush 10, 2) := by decide +kernel
theorem dX2_init_31 : decode cX2_init 31 = .ok (.newarray .long, 2) := by decide +kernel
theorem dX2_init_33 : decode cX2_init 33 = .ok (.putfield 21, 3) := by decide +kernel
theorem dX2_init_36 : decode cX2_init 36 = .ok (.return_, 1) := by decide +kernel
theorem dX2_put_0 : decode cX2_put 0 = .ok (.getstatic 24, 3) := by decide +kernel
theorem dX2_put_3 : decode cX2_put 3 = .ok (.iload_n 3, 1) := by decide +kernel
theorem dX2_put_4 : decode cX2_put 4 = .ok (.invokestatic 28, 3) := by decide +kernel
theorem dX2_put_7 : decode cX2_put 7 = .ok (.iaload, 1) := by decide +kernel
theorem dX2_put_8 : decode cX2_put 8 = .ok (.i2l, 1) := by decide +kernel
theorem dX2_put_9 : decode cX2_put 9 = .ok (.lstore 6, 2) := by decide +kernel
theorem dX2_put_11 : decode cX2_put 11 = .ok (.iload_n 3, 1) := by decide +kernel
theorem dX2_put_12 : decode cX2_put 12 = .ok (.ifCond .ge 14, 3) := by decide +kernel
theorem dX2_put_15 : decode cX2_put 15 = .ok (.getstatic 34, 3) := by decide +kernel
theorem dX2_put_18 : decode cX2_put 18 = .ok (.iload_n 3, 1) := by decide +kernel
theorem dX2_put_19 : decode cX2_put 19 = .ok (.ineg, 1) := by decide +kernel
theorem dX2_put_20 : decode cX2_put 20 = .ok (.iaload, 1) := by decide +kernel
theorem dX2_put_21 : decode cX2_put 21 = .ok (.ineg, 1) := by decide +kernel
theorem dX2_put_22 : decode cX2_put 22 = .ok (.i2l, 1) := by decide +kernel
theorem dX2_put_23 : decode cX2_put 23 = .ok (.goto 9, 3) := by decide +kernel
theorem dX2_put_26 : decode cX2_put 26 = .ok (.getstatic 34, 3) := by decide +kernel
theorem dX2_put_29 : decode cX2_put 29 = .ok (.iload_n 3, 1) := by decide +kernel
theorem dX2_put_30 : decode cX2_put 30 = .ok (.iaload, 1) := by decide +kernel
theorem dX2_put_31 : decode cX2_put 31 = .ok (.i2l, 1) := by decide +kernel
theorem dX2_put_32 : decode cX2_put 32 = .ok (.lstore 8, 2) := by decide +kernel
theorem dX2_put_34 : decode cX2_put 34 = .ok (.ldc2_w 37, 3) := by decide +kernel
theorem dX2_put_37 : decode cX2_put 37 = .ok (.aload_n 2, 1) := by decide +kernel
theorem dX2_put_38 : decode cX2_put 38 = .ok (.getfield 39, 3) := by decide +kernel
theorem dX2_put_41 : decode cX2_put 41 = .ok (.i2l, 1) := by decide +kernel
theorem dX2_put_42 : decode cX2_put 42 = .ok (.lmul, 1) := by decide +kernel
theorem dX2_put_43 : decode cX2_put 43 = .ok (.iload 5, 2) := by decide +kernel
theorem dX2_put_45 : decode cX2_put 45 = .ok (.i2l, 1) := by decide +kernel
theorem dX2_put_46 : decode cX2_put 46 = .ok (.lmul, 1) := by decide +kernel
theorem dX2_put_47 : decode cX2_put 47 = .ok (.ldc2_w 37, 3) := by decide +kernel
theorem dX2_put_50 : decode cX2_put 50 = .ok (.aload_n 2, 1) := by decide +kernel
theorem dX2_put_51 : decode cX2_put 51 = .ok (.getfield 45, 3) := by decide +kernel
theorem dX2_put_54 : decode cX2_put 54 = .ok (.i2l, 1) := by decide +kernel
theorem dX2_put_55 : decode cX2_put 55 = .ok (.lmul, 1) := by decide +kernel
theorem dX2_put_56 : decode cX2_put 56 = .ok (.iload 4, 2) := by decide +kernel
theorem dX2_put_58 : decode cX2_put 58 = .ok (.i2l, 1) := by decide +kernel
theorem dX2_put_59 : decode cX2_put 59 = .ok (.lmul, 1) := by decide +kernel
theorem dX2_put_60 : decode cX2_put 60 = .ok (.lsub, 1) := by decide +kernel
theorem dX2_put_61 : decode cX2_put 61 = .ok (.lstore 10, 2) := by decide +kernel
theorem dX2_put_63 : decode cX2_put 63 = .ok (.aload_n 2, 1) := by decide +kernel
theorem dX2_put_64 : decode cX2_put 64 = .ok (.getfield 48, 3) := by decide +kernel
theorem dX2_put_67 : decode cX2_put 67 = .ok (.i2l, 1) := by decide +kernel
theorem dX2_put_68 : decode cX2_put 68 = .ok (.lload 6, 2) := by decide +kernel
theorem dX2_put_70 : decode cX2_put 70 = .ok (.iload 5, 2) := by decide +kernel
theorem dX2_put_72 : decode cX2_put 72 = .ok (.i2l, 1) := by decide +kernel
theorem dX2_put_73 : decode cX2_put 73 = .ok (.lmul, 1) := by decide +kernel
theorem dX2_put_74 : decode cX2_put 74 = .ok (.lload 8, 2) := by decide +kernel
theorem dX2_put_76 : decode cX2_put 76 = .ok (.iload 4, 2) := by decide +kernel
theorem dX2_put_78 : decode cX2_put 78 = .ok (.i2l, 1) := by decide +kernel
theorem dX2_put_79 : decode cX2_put 79 = .ok (.lmul, 1) := by decide +kernel
theorem dX2_put_80 : decode cX2_put 80 = .ok (.lsub, 1) := by decide +kernel
theorem dX2_put_81 : decode cX2_put 81 = .ok (.lmul, 1) := by decide +kernel
theorem dX2_put_82 : decode cX2_put 82 = .ok (.lstore 12, 2) := by decide +kernel
theorem dX2_put_84 : decode cX2_put 84 = .ok (.aload_n 0, 1) := by decide +kernel
theorem dX2_put_85 : decode cX2_put 85 = .ok (.getfield 9, 3) := by decide +kernel
theorem dX2_put_88 : decode cX2_put 88 = .ok (.iload_n 1, 1) := by decide +kernel
theorem dX2_put_89 : decode cX2_put 89 = .ok (.lload 10, 2) := by decide +kernel
theorem dX2_put_91 : decode cX2_put 91 = .ok (.lload 12, 2) := by decide +kernel
theorem dX2_put_93 : decode cX2_put 93 = .ok (.lsub, 1) := by decide +kernel
theorem dX2_put_94 : decode cX2_put 94 = .ok (.lastore, 1) := by decide +kernel
theorem dX2_put_95 : decode cX2_put 95 = .ok (.aload_n 0, 1) := by decide +kernel
theorem dX2_put_96 : decode cX2_put 96 = .ok (.getfield 15, 3) := by decide +kernel
theorem dX2_put_99 : decode cX2_put 99 = .ok (.iload_n 1, 1) := by decide +kernel
theorem dX2_put_100 : decode cX2_put 100 = .ok (.lload 10, 2) := by decide +kernel
theorem dX2_put_102 : decode cX2_put 102 = .ok (.lload 12, 2) := by decide +kernel
theorem dX2_put_104 : decode cX2_put 104 = .ok (.ladd, 1) := by decide +kernel
theorem dX2_put_105 : decode cX2_put 105 = .ok (.lastore, 1) := by decide +kernel
theorem dX2_put_106 : decode cX2_put 106 = .ok (.return_, 1) := by decide +kernel
theorem dX2_stretch_0 : decode cX2_stretch 0 = .ok (.aload_n 0, 1) := by decide +kernel
theorem dX2_stretch_1 : decode cX2_stretch 1 = .ok (.getfield 15, 3) := by decide +kernel
theorem dX2_stretch_4 : decode cX2_stretch 4 = .ok (.iload_n 1, 1) := by decide +kernel
theorem dX2_stretch_5 : decode cX2_stretch 5 = .ok (.laload, 1) := by decide +kernel
theorem dX2_stretch_6 : decode cX2_stretch 6 = .ok (.aload_n 0, 1) := by decide +kernel
theorem dX2_stretch_7 : decode cX2_stretch 7 = .ok (.getfield 9, 3) := by decide +kernel
theorem dX2_stretch_10 : decode cX2_stretch 10 = .ok (.iload_n 1, 1) := by decide +kernel
theorem dX2_stretch_11 : decode cX2_stretch 11 = .ok (.laload, 1) := by decide +kernel
theorem dX2_stretch_12 : decode cX2_stretch 12 = .ok (.lsub, 1) := by decide +kernel
theorem dX2_stretch_13 : decode cX2_stretch 13 = .ok (.lreturn, 1) := by decide +kernel
theorem dX2_isLit_0 : decode cX2_isLit 0 = .ok (.aload_n 0, 1) := by decide +kernel
theorem dX2_isLit_1 : decode cX2_isLit 1 = .ok (.getfield 15, 3) := by decide +kernel
theorem dX2_isLit_4 : decode cX2_isLit 4 = .ok (.iload_n 1, 1) := by decide +kernel
theorem dX2_isLit_5 : decode cX2_isLit 5 = .ok (.laload, 1) := by decide +kernel
theorem dX2_isLit_6 : decode cX2_isLit 6 = .ok (.aload_n 0, 1) := by decide +kernel
theorem dX2_isLit_7 : decode cX2_isLit 7 = .ok (.getfield 9, 3) := by decide +kernel
theorem dX2_isLit_10 : decode cX2_isLit 10 = .ok (.iload_n 1, 1) := by decide +kernel
theorem dX2_isLit_11 : decode cX2_isLit 11 = .ok (.laload, 1) := by decide +kernel
theorem dX2_isLit_12 : decode cX2_isLit 12 = .ok (.lcmp, 1) := by decide +kernel
theorem dX2_isLit_13 : decode cX2_isLit 13 = .ok (.ifCond .le 7, 3) := by decide +kernel
theorem dX2_isLit_16 : decode cX2_isLit 16 = .ok (.iconst 1, 1) := by decide +kernel
theorem dX2_isLit_17 : decode cX2_isLit 17 = .ok (.goto 4, 3) := by decide +kernel
theorem dX2_isLit_20 : decode cX2_isLit 20 = .ok (.iconst 0, 1) := by decide +kernel
theorem dX2_isLit_21 : decode cX2_isLit 21 = .ok (.ireturn, 1) := by decide +kernel
theorem dX2_isShaded_0 : decode cX2_isShaded 0 = .ok (.iload_n 2, 1) := by decide +kernel
theorem dX2_isShaded_1 : decode cX2_isShaded 1 = .ok (.istore 4, 2) := by decide +kernel
theorem dX2_isShaded_3 : decode cX2_isShaded 3 = .ok (.iload 4, 2) := by decide +kernel
theorem dX2_isShaded_5 : decode cX2_isShaded 5 = .ok (.iload_n 3, 1) := by decide +kernel
theorem dX2_isShaded_6 : decode cX2_isShaded 6 = .ok (.if_icmp .gt 29, 3) := by decide +kernel
theorem dX2_isShaded_9 : decode cX2_isShaded 9 = .ok (.aload_n 0, 1) := by decide +kernel
theorem dX2_isShaded_10 : decode cX2_isShaded 10 = .ok (.iload_n 1, 1) := by decide +kernel
theorem dX2_isShaded_11 : decode cX2_isShaded 11 = .ok (.iload 4, 2) := by decide +kernel
theorem dX2_isShaded_13 : decode cX2_isShaded 13 = .ok (.invokevirtual 51, 3) := by decide +kernel
theorem dX2_isShaded_16 : decode cX2_isShaded 16 = .ok (.aload_n 0, 1) := by decide +kernel
theorem dX2_isShaded_17 : decode cX2_isShaded 17 = .ok (.iload_n 1, 1) := by decide +kernel
theorem dX2_isShaded_18 : decode cX2_isShaded 18 = .ok (.iload 4, 2) := by decide +kernel
theorem dX2_isShaded_20 : decode cX2_isShaded 20 = .ok (.invokevirtual 55, 3) := by decide +kernel
theorem dX2_isShaded_23 : decode cX2_isShaded 23 = .ok (.lcmp, 1) := by decide +kernel
theorem dX2_isShaded_24 : decode cX2_isShaded 24 = .ok (.ifCond .ge 5, 3) := by decide +kernel
theorem dX2_isShaded_27 : decode cX2_isShaded 27 = .ok (.iconst 1, 1) := by decide +kernel
theorem dX2_isShaded_28 : decode cX2_isShaded 28 = .ok (.ireturn, 1) := by decide +kernel
theorem dX2_isShaded_29 : decode cX2_isShaded 29 = .ok (.iinc 4 1, 3) := by decide +kernel
theorem dX2_isShaded_32 : decode cX2_isShaded 32 = .ok (.goto (-29), 3) := by decide +kernel
theorem dX2_isShaded_35 : decode cX2_isShaded 35 = .ok (.iconst 0, 1) := by decide +kernel
theorem dX2_isShaded_36 : decode cX2_isShaded 36 = .ok (.ireturn, 1) := by decide +kernel
theorem dX2_cast_0 : decode cX2_cast 0 = .ok (.aload_n 0, 1) := by decide +kernel
theorem dX2_cast_1 : decode cX2_cast 1 = .ok (.iconst 0, 1) := by decide +kernel
theorem dX2_cast_2 : decode cX2_cast 2 = .ok (.putfield 58, 3) := by decide +kernel
theorem dX2_cast_5 : decode cX2_cast 5 = .ok (.iload_n 2, 1) := by decide +kernel
theorem dX2_cast_6 : decode cX2_cast 6 = .ok (.istore 4, 2) := by decide +kernel
theorem dX2_cast_8 : decode cX2_cast 8 = .ok (.iload 4, 2) := by decide +kernel
theorem dX2_cast_10 : decode cX2_cast 10 = .ok (.iload_n 3, 1) := by decide +kernel
theorem dX2_cast_11 : decode cX2_cast 11 = .ok (.if_icmp .gt 27, 3) := by decide +kernel
theorem dX2_cast_14 : decode cX2_cast 14 = .ok (.aload_n 0, 1) := by decide +kernel
theorem dX2_cast_15 : decode cX2_cast 15 = .ok (.aload_n 0, 1) := by decide +kernel
theorem dX2_cast_16 : decode cX2_cast 16 = .ok (.iload_n 1, 1) := by decide +kernel
theorem dX2_cast_17 : decode cX2_cast 17 = .ok (.iload 4, 2) := by decide +kernel
theorem dX2_cast_19 : decode cX2_cast 19 = .ok (.invokevirtual 51, 3) := by decide +kernel
theorem dX2_cast_22 : decode cX2_cast 22 = .ok (.aload_n 0, 1) := by decide +kernel
theorem dX2_cast_23 : decode cX2_cast 23 = .ok (.iload_n 1, 1) := by decide +kernel
theorem dX2_cast_24 : decode cX2_cast 24 = .ok (.iload 4, 2) := by decide +kernel
theorem dX2_cast_26 : decode cX2_cast 26 = .ok (.invokevirtual 55, 3) := by decide +kernel
theorem dX2_cast_29 : decode cX2_cast 29 = .ok (.invokevirtual 61, 3) := by decide +kernel
theorem dX2_cast_32 : decode cX2_cast 32 = .ok (.iinc 4 1, 3) := by decide +kernel
theorem dX2_cast_35 : decode cX2_cast 35 = .ok (.goto (-27), 3) := by decide +kernel
theorem dX2_cast_38 : decode cX2_cast 38 = .ok (.return_, 1) := by decide +kernel
theorem dX2_shadeStart_0 : decode cX2_shadeStart 0 = .ok (.aload_n 0, 1) := by decide +kernel
theorem dX2_shadeStart_1 : decode cX2_shadeStart 1 = .ok (.getfield 9, 3) := by decide +kernel
theorem dX2_shadeStart_4 : decode cX2_shadeStart 4 = .ok (.iload_n 1, 1) := by decide +kernel
theorem dX2_shadeStart_5 : decode cX2_shadeStart 5 = .ok (.laload, 1) := by decide +kernel
theorem dX2_shadeStart_6 : decode cX2_shadeStart 6 = .ok (.aload_n 0, 1) := by decide +kernel
theorem dX2_shadeStart_7 : decode cX2_shadeStart 7 = .ok (.getfield 9, 3) := by decide +kernel
theorem dX2_shadeStart_10 : decode cX2_shadeStart 10 = .ok (.iload_n 2, 1) := by decide +kernel
theorem dX2_shadeStart_11 : decode cX2_shadeStart 11 = .ok (.laload, 1) := by decide +kernel
theorem dX2_shadeStart_12 : decode cX2_shadeStart 12 = .ok (.aload_n 0, 1) := by decide +kernel
theorem dX2_shadeStart_13 : decode cX2_shadeStart 13 = .ok (.getfield 15, 3) := by decide +kernel
theorem dX2_shadeStart_16 : decode cX2_shadeStart 16 = .ok (.iload_n 2, 1) := by decide +kernel
theorem dX2_shadeStart_17 : decode cX2_shadeStart 17 = .ok (.laload, 1) := by decide +kernel
theorem dX2_shadeStart_18 : decode cX2_shadeStart 18 = .ok (.invokestatic 65, 3) := by decide +kernel
theorem dX2_shadeStart_21 : decode cX2_shadeStart 21 = .ok (.invokestatic 69, 3) := by decide +kernel
theorem dX2_shadeStart_24 : decode cX2_shadeStart 24 = .ok (.lreturn, 1) := by decide +kernel
theorem dX2_shadeEnd_0 : decode cX2_shadeEnd 0 = .ok (.aload_n 0, 1) := by decide +kernel
theorem dX2_shadeEnd_1 : decode cX2_shadeEnd 1 = .ok (.getfield 15, 3) := by decide +kernel
theorem dX2_shadeEnd_4 : decode cX2_shadeEnd 4 = .ok (.iload_n 1, 1) := by decide +kernel
theorem dX2_shadeEnd_5 : decode cX2_shadeEnd 5 = .ok (.laload, 1) := by decide +kernel
theorem dX2_shadeEnd_6 : decode cX2_shadeEnd 6 = .ok (.aload_n 0, 1) := by decide +kernel
theorem dX2_shadeEnd_7 : decode cX2_shadeEnd 7 = .ok (.getfield 9, 3) := by decide +kernel
theorem dX2_shadeEnd_10 : decode cX2_shadeEnd 10 = .ok (.iload_n 2, 1) := by decide +kernel
theorem dX2_shadeEnd_11 : decode cX2_shadeEnd 11 = .ok (.laload, 1) := by decide +kernel
theorem dX2_shadeEnd_12 : decode cX2_shadeEnd 12 = .ok (.aload_n 0, 1) := by decide +kernel
theorem dX2_shadeEnd_13 : decode cX2_shadeEnd 13 = .ok (.getfield 15, 3) := by decide +kernel
theorem dX2_shadeEnd_16 : decode cX2_shadeEnd 16 = .ok (.iload_n 2, 1) := by decide +kernel
theorem dX2_shadeEnd_17 : decode cX2_shadeEnd 17 = .ok (.laload, 1) := by decide +kernel
theorem dX2_shadeEnd_18 : decode cX2_shadeEnd 18 = .ok (.invokestatic 69, 3) := by decide +kernel
theorem dX2_shadeEnd_21 : decode cX2_shadeEnd 21 = .ok (.invokestatic 65, 3) := by decide +kernel
theorem dX2_shadeEnd_24 : decode cX2_shadeEnd 24 = .ok (.lreturn, 1) := by decide +kernel
theorem dX2_addPiece_0 : decode cX2_addPiece 0 = .ok (.lload_n 1, 1) := by decide +kernel
theorem dX2_addPiece_1 : decode cX2_addPiece 1 = .ok (.lload_n 3, 1) := by decide +kernel
theorem dX2_addPiece_2 : decode cX2_addPiece 2 = .ok (.lcmp, 1) := by decide +kernel
theorem dX2_addPiece_3 : decode cX2_addPiece 3 = .ok (.ifCond .ge 12, 3) := by decide +kernel
theorem dX2_addPiece_6 : decode cX2_addPiece 6 = .ok (.aload_n 0, 1) := by decide +kernel
theorem dX2_addPiece_7 : decode cX2_addPiece 7 = .ok (.getfield 58, 3) := by decide +kernel
theorem dX2_addPiece_10 : decode cX2_addPiece 10 = .ok (.bipush 10, 2) := by decide +kernel
theorem dX2_addPiece_12 : decode cX2_addPiece 12 = .ok (.if_icmp .lt 4, 3) := by decide +kernel
theorem dX2_addPiece_15 : decode cX2_addPiece 15 = .ok (.return_, 1) := by decide +kernel
theorem dX2_addPiece_16 : decode cX2_addPiece 16 = .ok (.aload_n 0, 1) := by decide +kernel
theorem dX2_addPiece_17 : decode cX2_addPiece 17 = .ok (.getfield 58, 3) := by decide +kernel
theorem dX2_addPiece_20 : decode cX2_addPiece 20 = .ok (.istore 5, 2) := by decide +kernel
theorem dX2_addPiece_22 : decode cX2_addPiece 22 = .ok (.iload 5, 2) := by decide +kernel
theorem dX2_addPiece_24 : decode cX2_addPiece 24 = .ok (.ifCond .le 55, 3) := by decide +kernel
theorem dX2_addPiece_27 : decode cX2_addPiece 27 = .ok (.aload_n 0, 1) := by decide +kernel
theorem dX2_addPiece_28 : decode cX2_addPiece 28 = .ok (.getfield 18, 3) := by decide +kernel
theorem dX2_addPiece_31 : decode cX2_addPiece 31 = .ok (.iload 5, 2) := by decide +kernel
theorem dX2_addPiece_33 : decode cX2_addPiece 33 = .ok (.iconst 1, 1) := by decide +kernel
theorem dX2_addPiece_34 : decode cX2_addPiece 34 = .ok (.isub, 1) := by decide +kernel
theorem dX2_addPiece_35 : decode cX2_addPiece 35 = .ok (.laload, 1) := by decide +kernel
theorem dX2_addPiece_36 : decode cX2_addPiece 36 = .ok (.lload_n 1, 1) := by decide +kernel
theorem dX2_addPiece_37 : decode cX2_addPiece 37 = .ok (.lcmp, 1) := by decide +kernel
theorem dX2_addPiece_38 : decode cX2_addPiece 38 = .ok (.ifCond .le 41, 3) := by decide +kernel
theorem dX2_addPiece_41 : decode cX2_addPiece 41 = .ok (.aload_n 0, 1) := by decide +kernel
theorem dX2_addPiece_42 : decode cX2_addPiece 42 = .ok (.getfield 18, 3) := by decide +kernel
theorem dX2_addPiece_45 : decode cX2_addPiece 45 = .ok (.iload 5, 2) := by decide +kernel
theorem dX2_addPiece_47 : decode cX2_addPiece 47 = .ok (.aload_n 0, 1) := by decide +kernel
theorem dX2_addPiece_48 : decode cX2_addPiece 48 = .ok (.getfield 18, 3) := by decide +kernel
theorem dX2_addPiece_51 : decode cX2_addPiece 51 = .ok (.iload 5, 2) := by decide +kernel
theorem dX2_addPiece_53 : decode cX2_addPiece 53 = .ok (.iconst 1, 1) := by decide +kernel
theorem dX2_addPiece_54 : decode cX2_addPiece 54 = .ok (.isub, 1) := by decide +kernel
theorem dX2_addPiece_55 : decode cX2_addPiece 55 = .ok (.laload, 1) := by decide +kernel
theorem dX2_addPiece_56 : decode cX2_addPiece 56 = .ok (.lastore, 1) := by decide +kernel
theorem dX2_addPiece_57 : decode cX2_addPiece 57 = .ok (.aload_n 0, 1) := by decide +kernel
theorem dX2_addPiece_58 : decode cX2_addPiece 58 = .ok (.getfield 21, 3) := by decide +kernel
theorem dX2_addPiece_61 : decode cX2_addPiece 61 = .ok (.iload 5, 2) := by decide +kernel
theorem dX2_addPiece_63 : decode cX2_addPiece 63 = .ok (.aload_n 0, 1) := by decide +kernel
theorem dX2_addPiece_64 : decode cX2_addPiece 64 = .ok (.getfield 21, 3) := by decide +kernel
theorem dX2_addPiece_67 : decode cX2_addPiece 67 = .ok (.iload 5, 2) := by decide +kernel
theorem dX2_addPiece_69 : decode cX2_addPiece 69 = .ok (.iconst 1, 1) := by decide +kernel
theorem dX2_addPiece_70 : decode cX2_addPiece 70 = .ok (.isub, 1) := by decide +kernel
theorem dX2_addPiece_71 : decode cX2_addPiece 71 = .ok (.laload, 1) := by decide +kernel
theorem dX2_addPiece_72 : decode cX2_addPiece 72 = .ok (.lastore, 1) := by decide +kernel
theorem dX2_addPiece_73 : decode cX2_addPiece 73 = .ok (.iinc 5 (-1), 3) := by decide +kernel
theorem dX2_addPiece_76 : decode cX2_addPiece 76 = .ok (.goto (-54), 3) := by decide +kernel
theorem dX2_addPiece_79 : decode cX2_addPiece 79 = .ok (.aload_n 0, 1) := by decide +kernel
theorem dX2_addPiece_80 : decode cX2_addPiece 80 = .ok (.getfield 18, 3) := by decide +kernel
theorem dX2_addPiece_83 : decode cX2_addPiece 83 = .ok (.iload 5, 2) := by decide +kernel
theorem dX2_addPiece_85 : decode cX2_addPiece 85 = .ok (.lload_n 1, 1) := by decide +kernel
theorem dX2_addPiece_86 : decode cX2_addPiece 86 = .ok (.lastore, 1) := by decide +kernel
theorem dX2_addPiece_87 : decode cX2_addPiece 87 = .ok (.aload_n 0, 1) := by decide +kernel
theorem dX2_addPiece_88 : decode cX2_addPiece 88 = .ok (.getfield 21, 3) := by decide +kernel
theorem dX2_addPiece_91 : decode cX2_addPiece 91 = .ok (.iload 5, 2) := by decide +kernel
theorem dX2_addPiece_93 : decode cX2_addPiece 93 = .ok (.lload_n 3, 1) := by decide +kernel
theorem dX2_addPiece_94 : decode cX2_addPiece 94 = .ok (.lastore, 1) := by decide +kernel
theorem dX2_addPiece_95 : decode cX2_addPiece 95 = .ok (.aload_n 0, 1) := by decide +kernel
theorem dX2_addPiece_96 : decode cX2_addPiece 96 = .ok (.dup, 1) := by decide +kernel
theorem dX2_addPiece_97 : decode cX2_addPiece 97 = .ok (.getfield 58, 3) := by decide +kernel
theorem dX2_addPiece_100 : decode cX2_addPiece 100 = .ok (.iconst 1, 1) := by decide +kernel
theorem dX2_addPiece_101 : decode cX2_addPiece 101 = .ok (.iadd, 1) := by decide +kernel
theorem dX2_addPiece_102 : decode cX2_addPiece 102 = .ok (.putfield 58, 3) := by decide +kernel
theorem dX2_addPiece_105 : decode cX2_addPiece 105 = .ok (.return_, 1) := by decide +kernel
theorem dX2_shaded_0 : decode cX2_shaded 0 = .ok (.aload_n 0, 1) := by decide +kernel
theorem dX2_shaded_1 : decode cX2_shaded 1 = .ok (.getfield 58, 3) := by decide +kernel
theorem dX2_shaded_4 : decode cX2_shaded 4 = .ok (.ifCond .ne 5, 3) := by decide +kernel
theorem dX2_shaded_7 : decode cX2_shaded 7 = .ok (.lconst 0, 1) := by decide +kernel
theorem dX2_shaded_8 : decode cX2_shaded 8 = .ok (.lreturn, 1) := by decide +kernel
theorem dX2_shaded_9 : decode cX2_shaded 9 = .ok (.lconst 0, 1) := by decide +kernel
theorem dX2_shaded_10 : decode cX2_shaded 10 = .ok (.lstore_n 1, 1) := by decide +kernel
theorem dX2_shaded_11 : decode cX2_shaded 11 = .ok (.aload_n 0, 1) := by decide +kernel
theorem dX2_shaded_12 : decode cX2_shaded 12 = .ok (.getfield 18, 3) := by decide +kernel
theorem dX2_shaded_15 : decode cX2_shaded 15 = .ok (.iconst 0, 1) := by decide +kernel
theorem dX2_shaded_16 : decode cX2_shaded 16 = .ok (.laload, 1) := by decide +kernel
theorem dX2_shaded_17 : decode cX2_shaded 17 = .ok (.lstore_n 3, 1) := by decide +kernel
theorem dX2_shaded_18 : decode cX2_shaded 18 = .ok (.iconst 0, 1) := by decide +kernel
theorem dX2_shaded_19 : decode cX2_shaded 19 = .ok (.istore 5, 2) := by decide +kernel
theorem dX2_shaded_21 : decode cX2_shaded 21 = .ok (.iload 5, 2) := by decide +kernel
theorem dX2_shaded_23 : decode cX2_shaded 23 = .ok (.aload_n 0, 1) := by decide +kernel
theorem dX2_shaded_24 : decode cX2_shaded 24 = .ok (.getfield 58, 3) := by decide +kernel
theorem dX2_shaded_27 : decode cX2_shaded 27 = .ok (.if_icmp .ge 56, 3) := by decide +kernel
theorem dX2_shaded_30 : decode cX2_shaded 30 = .ok (.lload_n 3, 1) := by decide +kernel
theorem dX2_shaded_31 : decode cX2_shaded 31 = .ok (.aload_n 0, 1) := by decide +kernel
theorem dX2_shaded_32 : decode cX2_shaded 32 = .ok (.getfield 18, 3) := by decide +kernel
theorem dX2_shaded_35 : decode cX2_shaded 35 = .ok (.iload 5, 2) := by decide +kernel
theorem dX2_shaded_37 : decode cX2_shaded 37 = .ok (.laload, 1) := by decide +kernel
theorem dX2_shaded_38 : decode cX2_shaded 38 = .ok (.invokestatic 69, 3) := by decide +kernel
theorem dX2_shaded_41 : decode cX2_shaded 41 = .ok (.lstore 6, 2) := by decide +kernel
theorem dX2_shaded_43 : decode cX2_shaded 43 = .ok (.aload_n 0, 1) := by decide +kernel
theorem dX2_shaded_44 : decode cX2_shaded 44 = .ok (.getfield 21, 3) := by decide +kernel
theorem dX2_shaded_47 : decode cX2_shaded 47 = .ok (.iload 5, 2) := by decide +kernel
theorem dX2_shaded_49 : decode cX2_shaded 49 = .ok (.laload, 1) := by decide +kernel
theorem dX2_shaded_50 : decode cX2_shaded 50 = .ok (.lload 6, 2) := by decide +kernel
theorem dX2_shaded_52 : decode cX2_shaded 52 = .ok (.lcmp, 1) := by decide +kernel
theorem dX2_shaded_53 : decode cX2_shaded 53 = .ok (.ifCond .le 24, 3) := by decide +kernel
theorem dX2_shaded_56 : decode cX2_shaded 56 = .ok (.lload_n 1, 1) := by decide +kernel
theorem dX2_shaded_57 : decode cX2_shaded 57 = .ok (.aload_n 0, 1) := by decide +kernel
theorem dX2_shaded_58 : decode cX2_shaded 58 = .ok (.getfield 21, 3) := by decide +kernel
theorem dX2_shaded_61 : decode cX2_shaded 61 = .ok (.iload 5, 2) := by decide +kernel
theorem dX2_shaded_63 : decode cX2_shaded 63 = .ok (.laload, 1) := by decide +kernel
theorem dX2_shaded_64 : decode cX2_shaded 64 = .ok (.lload 6, 2) := by decide +kernel
theorem dX2_shaded_66 : decode cX2_shaded 66 = .ok (.lsub, 1) := by decide +kernel
theorem dX2_shaded_67 : decode cX2_shaded 67 = .ok (.ladd, 1) := by decide +kernel
theorem dX2_shaded_68 : decode cX2_shaded 68 = .ok (.lstore_n 1, 1) := by decide +kernel
theorem dX2_shaded_69 : decode cX2_shaded 69 = .ok (.aload_n 0, 1) := by decide +kernel
theorem dX2_shaded_70 : decode cX2_shaded 70 = .ok (.getfield 21, 3) := by decide +kernel
theorem dX2_shaded_73 : decode cX2_shaded 73 = .ok (.iload 5, 2) := by decide +kernel
theorem dX2_shaded_75 : decode cX2_shaded 75 = .ok (.laload, 1) := by decide +kernel
theorem dX2_shaded_76 : decode cX2_shaded 76 = .ok (.lstore_n 3, 1) := by decide +kernel
theorem dX2_shaded_77 : decode cX2_shaded 77 = .ok (.iinc 5 1, 3) := by decide +kernel
theorem dX2_shaded_80 : decode cX2_shaded 80 = .ok (.goto (-59), 3) := by decide +kernel
theorem dX2_shaded_83 : decode cX2_shaded 83 = .ok (.lload_n 1, 1) := by decide +kernel
theorem dX2_shaded_84 : decode cX2_shaded 84 = .ok (.lreturn, 1) := by decide +kernel
theorem dX2_darkGroups_0 : decode cX2_darkGroups 0 = .ok (.aload_n 0, 1) := by decide +kernel
theorem dX2_darkGroups_1 : decode cX2_darkGroups 1 = .ok (.getfield 15, 3) := by decide +kernel
theorem dX2_darkGroups_4 : decode cX2_darkGroups 4 = .ok (.iload_n 1, 1) := by decide +kernel
theorem dX2_darkGroups_5 : decode cX2_darkGroups 5 = .ok (.laload, 1) := by decide +kernel
theorem dX2_darkGroups_6 : decode cX2_darkGroups 6 = .ok (.aload_n 0, 1) := by decide +kernel
theorem dX2_darkGroups_7 : decode cX2_darkGroups 7 = .ok (.getfield 9, 3) := by decide +kernel
theorem dX2_darkGroups_10 : decode cX2_darkGroups 10 = .ok (.iload_n 1, 1) := by decide +kernel
theorem dX2_darkGroups_11 : decode cX2_darkGroups 11 = .ok (.laload, 1) := by decide +kernel
theorem dX2_darkGroups_12 : decode cX2_darkGroups 12 = .ok (.lsub, 1) := by decide +kernel
theorem dX2_darkGroups_13 : decode cX2_darkGroups 13 = .ok (.lstore_n 2, 1) := by decide +kernel
theorem dX2_darkGroups_14 : decode cX2_darkGroups 14 = .ok (.iconst 0, 1) := by decide +kernel
theorem dX2_darkGroups_15 : decode cX2_darkGroups 15 = .ok (.istore 4, 2) := by decide +kernel
theorem dX2_darkGroups_17 : decode cX2_darkGroups 17 = .ok (.iconst 0, 1) := by decide +kernel
theorem dX2_darkGroups_18 : decode cX2_darkGroups 18 = .ok (.istore 5, 2) := by decide +kernel
theorem dX2_darkGroups_20 : decode cX2_darkGroups 20 = .ok (.iload 5, 2) := by decide +kernel
theorem dX2_darkGroups_22 : decode cX2_darkGroups 22 = .ok (.iconst 3, 1) := by decide +kernel
theorem dX2_darkGroups_23 : decode cX2_darkGroups 23 = .ok (.if_icmp .ge 94, 3) := by decide +kernel
theorem dX2_darkGroups_26 : decode cX2_darkGroups 26 = .ok (.ldc2_w 72, 3) := by decide +kernel
theorem dX2_darkGroups_29 : decode cX2_darkGroups 29 = .ok (.aload_n 0, 1) := by decide +kernel
theorem dX2_darkGroups_30 : decode cX2_darkGroups 30 = .ok (.getfield 9, 3) := by decide +kernel
theorem dX2_darkGroups_33 : decode cX2_darkGroups 33 = .ok (.iload_n 1, 1) := by decide +kernel
theorem dX2_darkGroups_34 : decode cX2_darkGroups 34 = .ok (.laload, 1) := by decide +kernel
theorem dX2_darkGroups_35 : decode cX2_darkGroups 35 = .ok (.lmul, 1) := by decide +kernel
theorem dX2_darkGroups_36 : decode cX2_darkGroups 36 = .ok (.iload 5, 2) := by decide +kernel
theorem dX2_darkGroups_38 : decode cX2_darkGroups 38 = .ok (.i2l, 1) := by decide +kernel
theorem dX2_darkGroups_39 : decode cX2_darkGroups 39 = .ok (.lload_n 2, 1) := by decide +kernel
theorem dX2_darkGroups_40 : decode cX2_darkGroups 40 = .ok (.lmul, 1) := by decide +kernel
theorem dX2_darkGroups_41 : decode cX2_darkGroups 41 = .ok (.ladd, 1) := by decide +kernel
theorem dX2_darkGroups_42 : decode cX2_darkGroups 42 = .ok (.lstore 6, 2) := by decide +kernel
theorem dX2_darkGroups_44 : decode cX2_darkGroups 44 = .ok (.lload 6, 2) := by decide +kernel
theorem dX2_darkGroups_46 : decode cX2_darkGroups 46 = .ok (.lload_n 2, 1) := by decide +kernel
theorem dX2_darkGroups_47 : decode cX2_darkGroups 47 = .ok (.ladd, 1) := by decide +kernel
theorem dX2_darkGroups_48 : decode cX2_darkGroups 48 = .ok (.lstore 8, 2) := by decide +kernel
theorem dX2_darkGroups_50 : decode cX2_darkGroups 50 = .ok (.iconst 0, 1) := by decide +kernel
theorem dX2_darkGroups_51 : decode cX2_darkGroups 51 = .ok (.istore 10, 2) := by decide +kernel
theorem dX2_darkGroups_53 : decode cX2_darkGroups 53 = .ok (.iload 10, 2) := by decide +kernel
theorem dX2_darkGroups_55 : decode cX2_darkGroups 55 = .ok (.aload_n 0, 1) := by decide +kernel
theorem dX2_darkGroups_56 : decode cX2_darkGroups 56 = .ok (.getfield 58, 3) := by decide +kernel
theorem dX2_darkGroups_59 : decode cX2_darkGroups 59 = .ok (.if_icmp .ge 52, 3) := by decide +kernel
theorem dX2_darkGroups_62 : decode cX2_darkGroups 62 = .ok (.ldc2_w 72, 3) := by decide +kernel
theorem dX2_darkGroups_65 : decode cX2_darkGroups 65 = .ok (.aload_n 0, 1) := by decide +kernel
theorem dX2_darkGroups_66 : decode cX2_darkGroups 66 = .ok (.getfield 18, 3) := by decide +kernel
theorem dX2_darkGroups_69 : decode cX2_darkGroups 69 = .ok (.iload 10, 2) := by decide +kernel
theorem dX2_darkGroups_71 : decode cX2_darkGroups 71 = .ok (.laload, 1) := by decide +kernel
theorem dX2_darkGroups_72 : decode cX2_darkGroups 72 = .ok (.lmul, 1) := by decide +kernel
theorem dX2_darkGroups_73 : decode cX2_darkGroups 73 = .ok (.lload 8, 2) := by decide +kernel
theorem dX2_darkGroups_75 : decode cX2_darkGroups 75 = .ok (.lcmp, 1) := by decide +kernel
theorem dX2_darkGroups_76 : decode cX2_darkGroups 76 = .ok (.ifCond .ge 29, 3) := by decide +kernel
theorem dX2_darkGroups_79 : decode cX2_darkGroups 79 = .ok (.ldc2_w 72, 3) := by decide +kernel
theorem dX2_darkGroups_82 : decode cX2_darkGroups 82 = .ok (.aload_n 0, 1) := by decide +kernel
theorem dX2_darkGroups_83 : decode cX2_darkGroups 83 = .ok (.getfield 21, 3) := by decide +kernel
theorem dX2_darkGroups_86 : decode cX2_darkGroups 86 = .ok (.iload 10, 2) := by decide +kernel
theorem dX2_darkGroups_88 : decode cX2_darkGroups 88 = .ok (.laload, 1) := by decide +kernel
theorem dX2_darkGroups_89 : decode cX2_darkGroups 89 = .ok (.lmul, 1) := by decide +kernel
theorem dX2_darkGroups_90 : decode cX2_darkGroups 90 = .ok (.lload 6, 2) := by decide +kernel
theorem dX2_darkGroups_92 : decode cX2_darkGroups 92 = .ok (.lcmp, 1) := by decide +kernel
theorem dX2_darkGroups_93 : decode cX2_darkGroups 93 = .ok (.ifCond .le 12, 3) := by decide +kernel
theorem dX2_darkGroups_96 : decode cX2_darkGroups 96 = .ok (.iload 4, 2) := by decide +kernel
theorem dX2_darkGroups_98 : decode cX2_darkGroups 98 = .ok (.iconst 1, 1) := by decide +kernel
theorem dX2_darkGroups_99 : decode cX2_darkGroups 99 = .ok (.iload 5, 2) := by decide +kernel
theorem dX2_darkGroups_101 : decode cX2_darkGroups 101 = .ok (.ishl, 1) := by decide +kernel
theorem dX2_darkGroups_102 : decode cX2_darkGroups 102 = .ok (.ior, 1) := by decide +kernel
theorem dX2_darkGroups_103 : decode cX2_darkGroups 103 = .ok (.istore 4, 2) := by decide +kernel
theorem dX2_darkGroups_105 : decode cX2_darkGroups 105 = .ok (.iinc 10 1, 3) := by decide +kernel
theorem dX2_darkGroups_108 : decode cX2_darkGroups 108 = .ok (.goto (-55), 3) := by decide +kernel
theorem dX2_darkGroups_111 : decode cX2_darkGroups 111 = .ok (.iinc 5 1, 3) := by decide +kernel
theorem dX2_darkGroups_114 : decode cX2_darkGroups 114 = .ok (.goto (-94), 3) := by decide +kernel
theorem dX2_darkGroups_117 : decode cX2_darkGroups 117 = .ok (.iload 4, 2) := by decide +kernel
theorem dX2_darkGroups_119 : decode cX2_darkGroups 119 = .ok (.ireturn, 1) := by decide +kernel
theorem dX3_init_0 : decode cX3_init 0 = .ok (.aload_n 0, 1) := by decide +kernel
theorem dX3_init_1 : decode cX3_init 1 = .ok (.invokespecial 3, 3) := by decide +kernel
theorem dX3_init_4 : decode cX3_init 4 = .ok (.aload_n 0, 1) := by decide +kernel
theorem dX3_init_5 : decode cX3_init 5 = .ok (.iconst (-1), 1) := by decide +kernel
theorem dX3_init_6 : decode cX3_init 6 = .ok (.putfield 9, 3) := by decide +kernel
theorem dX3_init_9 : decode cX3_init 9 = .ok (.return_, 1) := by decide +kernel
theorem dX3_begin_0 : decode cX3_begin 0 = .ok (.aload_n 0, 1) := by decide +kernel
theorem dX3_begin_1 : decode cX3_begin 1 = .ok (.iload_n 1, 1) := by decide +kernel
theorem dX3_begin_2 : decode cX3_begin 2 = .ok (.putfield 15, 3) := by decide +kernel
theorem dX3_begin_5 : decode cX3_begin 5 = .ok (.aload_n 0, 1) := by decide +kernel
theorem dX3_begin_6 : decode cX3_begin 6 = .ok (.iload_n 2, 1) := by decide +kernel
theorem dX3_begin_7 : decode cX3_begin 7 = .ok (.putfield 18, 3) := by decide +kernel
theorem dX3_begin_10 : decode cX3_begin 10 = .ok (.aload_n 0, 1) := by decide +kernel
theorem dX3_begin_11 : decode cX3_begin 11 = .ok (.iload_n 3, 1) := by decide +kernel
theorem dX3_begin_12 : decode cX3_begin 12 = .ok (.putfield 21, 3) := by decide +kernel
theorem dX3_begin_15 : decode cX3_begin 15 = .ok (.aload_n 0, 1) := by decide +kernel
theorem dX3_begin_16 : decode cX3_begin 16 = .ok (.iload 4, 2) := by decide +kernel
theorem dX3_begin_18 : decode cX3_begin 18 = .ok (.putfield 24, 3) := by decide +kernel
theorem dX3_begin_21 : decode cX3_begin 21 = .ok (.aload_n 0, 1) := by decide +kernel
theorem dX3_begin_22 : decode cX3_begin 22 = .ok (.iconst 0, 1) := by decide +kernel
theorem dX3_begin_23 : decode cX3_begin 23 = .ok (.putfield 27, 3) := by decide +kernel
theorem dX3_begin_26 : decode cX3_begin 26 = .ok (.aload_n 0, 1) := by decide +kernel
theorem dX3_begin_27 : decode cX3_begin 27 = .ok (.iload_n 1, 1) := by decide +kernel
theorem dX3_begin_28 : decode cX3_begin 28 = .ok (.iconst 1, 1) := by decide +kernel
theorem dX3_begin_29 : decode cX3_begin 29 = .ok (.if_icmp .ne 8, 3) := by decide +kernel
theorem dX3_begin_32 : decode cX3_begin 32 = .ok (.iload 5, 2) := by decide +kernel
theorem dX3_begin_34 : decode cX3_begin 34 = .ok (.goto 4, 3) := by decide +kernel
theorem dX3_begin_37 : decode cX3_begin 37 = .ok (.iconst 0, 1) := by decide +kernel
theorem dX3_begin_38 : decode cX3_begin 38 = .ok (.putfield 30, 3) := by decide +kernel
theorem dX3_begin_41 : decode cX3_begin 41 = .ok (.aload_n 0, 1) := by decide +kernel
theorem dX3_begin_42 : decode cX3_begin 42 = .ok (.iconst (-1), 1) := by decide +kernel
theorem dX3_begin_43 : decode cX3_begin 43 = .ok (.putfield 9, 3) := by decide +kernel
theorem dX3_begin_46 : decode cX3_begin 46 = .ok (.return_, 1) := by decide +kernel
theorem dX3_isOf_0 : decode cX3_isOf 0 = .ok (.iload_n 1, 1) := by decide +kernel
theorem dX3_isOf_1 : decode cX3_isOf 1 = .ok (.ifCond .eq 11, 3) := by decide +kernel
theorem dX3_isOf_4 : decode cX3_isOf 4 = .ok (.iload_n 1, 1) := by decide +kernel
theorem dX3_isOf_5 : decode cX3_isOf 5 = .ok (.aload_n 0, 1) := by decide +kernel
theorem dX3_isOf_6 : decode cX3_isOf 6 = .ok (.getfield 15, 3) := by decide +kernel
theorem dX3_isOf_9 : decode cX3_isOf 9 = .ok (.if_icmp .ne 7, 3) := by decide +kernel
theorem dX3_isOf_12 : decode cX3_isOf 12 = .ok (.iconst 1, 1) := by decide +kernel
theorem dX3_isOf_13 : decode cX3_isOf 13 = .ok (.goto 4, 3) := by decide +kernel
theorem dX3_isOf_16 : decode cX3_isOf 16 = .ok (.iconst 0, 1) := by decide +kernel
theorem dX3_isOf_17 : decode cX3_isOf 17 = .ok (.ireturn, 1) := by decide +kernel
theorem dX3_loseDust_0 : decode cX3_loseDust 0 = .ok (.aload_n 0, 1) := by decide +kernel
theorem dX3_loseDust_1 : decode cX3_loseDust 1 = .ok (.getfield 27, 3) := by decide +kernel
theorem dX3_loseDust_4 : decode cX3_loseDust 4 = .ok (.ifCond .le 7, 3) := by decide +kernel
theorem dX3_loseDust_7 : decode cX3_loseDust 7 = .ok (.iconst 1, 1) := by decide +kernel
theorem dX3_loseDust_8 : decode cX3_loseDust 8 = .ok (.goto 4, 3) := by decide +kernel
theorem dX3_loseDust_11 : decode cX3_loseDust 11 = .ok (.iconst 0, 1) := by decide +kernel
theorem dX3_loseDust_12 : decode cX3_loseDust 12 = .ok (.istore_n 1, 1) := by decide +kernel
theorem dX3_loseDust_13 : decode cX3_loseDust 13 = .ok (.aload_n 0, 1) := by decide +kernel
theorem dX3_loseDust_14 : decode cX3_loseDust 14 = .ok (.iconst 0, 1) := by decide +kernel
theorem dX3_loseDust_15 : decode cX3_loseDust 15 = .ok (.putfield 27, 3) := by decide +kernel
theorem dX3_loseDust_18 : decode cX3_loseDust 18 = .ok (.iload_n 1, 1) := by decide +kernel
theorem dX3_loseDust_19 : decode cX3_loseDust 19 = .ok (.ireturn, 1) := by decide +kernel
theorem dX4_init_0 : decode cX4_init 0 = .ok (.aload_n 0, 1) := by decide +kernel
theorem dX4_init_1 : decode cX4_init 1 = .ok (.invokespecial 3, 3) := by decide +kernel
theorem dX4_init_4 : decode cX4_init 4 = .ok (.aload_n 0, 1) := by decide +kernel
theorem dX4_init_5 : decode cX4_init 5 = .ok (.bipush 24, 2) := by decide +kernel
theorem dX4_init_7 : decode cX4_init 7 = .ok (.newarray .int, 2) := by decide +kernel
theorem dX4_init_9 : decode cX4_init 9 = .ok (.putfield 9, 3) := by decide +kernel
theorem dX4_init_12 : decode cX4_init 12 = .ok (.aload_n 0, 1) := by decide +kernel
theorem dX4_init_13 : decode cX4_init 13 = .ok (.bipush 24, 2) := by decide +kernel
theorem dX4_init_15 : decode cX4_init 15 = .ok (.newarray .int, 2) := by decide +kernel
theorem dX4_init_17 : decode cX4_init 17 = .ok (.putfield 15, 3) := by decide +kernel
theorem dX4_init_20 : decode cX4_init 20 = .ok (.return_, 1) := by decide +kernel
theorem dX4_put_0 : decode cX4_put 0 = .ok (.aload_n 0, 1) := by decide +kernel
theorem dX4_put_1 : decode cX4_put 1 = .ok (.getfield 9, 3) := by decide +kernel
theorem dX4_put_4 : decode cX4_put 4 = .ok (.iload_n 1, 1) := by decide +kernel
theorem dX4_put_5 : decode cX4_put 5 = .ok (.iload_n 2, 1) := by decide +kernel
theorem dX4_put_6 : decode cX4_put 6 = .ok (.iastore, 1) := by decide +kernel
theorem dX4_put_7 : decode cX4_put 7 = .ok (.aload_n 0, 1) := by decide +kernel
theorem dX4_put_8 : decode cX4_put 8 = .ok (.getfield 15, 3) := by decide +kernel
theorem dX4_put_11 : decode cX4_put 11 = .ok (.iload_n 1, 1) := by decide +kernel
theorem dX4_put_12 : decode cX4_put 12 = .ok (.iload_n 3, 1) := by decide +kernel
theorem dX4_put_13 : decode cX4_put 13 = .ok (.iastore, 1) := by decide +kernel
theorem dX4_put_14 : decode cX4_put 14 = .ok (.return_, 1) := by decide +kernel
theorem dX4_isNight_0 : decode cX4_isNight 0 = .ok (.aload_n 0, 1) := by decide +kernel
theorem dX4_isNight_1 : decode cX4_isNight 1 = .ok (.getfield 15, 3) := by decide +kernel
theorem dX4_isNight_4 : decode cX4_isNight 4 = .ok (.iload_n 1, 1) := by decide +kernel
theorem dX4_isNight_5 : decode cX4_isNight 5 = .ok (.iaload, 1) := by decide +kernel
theorem dX4_isNight_6 : decode cX4_isNight 6 = .ok (.ifCond .ne 7, 3) := by decide +kernel
theorem dX4_isNight_9 : decode cX4_isNight 9 = .ok (.iconst 1, 1) := by decide +kernel
theorem dX4_isNight_10 : decode cX4_isNight 10 = .ok (.goto 4, 3) := by decide +kernel
theorem dX4_isNight_13 : decode cX4_isNight 13 = .ok (.iconst 0, 1) := by decide +kernel
theorem dX4_isNight_14 : decode cX4_isNight 14 = .ok (.ireturn, 1) := by decide +kernel
theorem dX5_init_0 : decode cX5_init 0 = .ok (.aload_n 0, 1) := by decide +kernel
theorem dX5_init_1 : decode cX5_init 1 = .ok (.invokespecial 3, 3) := by decide +kernel
theorem dX5_init_4 : decode cX5_init 4 = .ok (.aload_n 0, 1) := by decide +kernel
theorem dX5_init_5 : decode cX5_init 5 = .ok (.iconst 4, 1) := by decide +kernel
theorem dX5_init_6 : decode cX5_init 6 = .ok (.newarray .int, 2) := by decide +kernel
theorem dX5_init_8 : decode cX5_init 8 = .ok (.putfield 9, 3) := by decide +kernel
theorem dX5_init_11 : decode cX5_init 11 = .ok (.aload_n 0, 1) := by decide +kernel
theorem dX5_init_12 : decode cX5_init 12 = .ok (.bipush 10, 2) := by decide +kernel
theorem dX5_init_14 : decode cX5_init 14 = .ok (.newarray .int, 2) := by decide +kernel
theorem dX5_init_16 : decode cX5_init 16 = .ok (.putfield 15, 3) := by decide +kernel
theorem dX5_init_19 : decode cX5_init 19 = .ok (.aload_n 0, 1) := by decide +kernel
theorem dX5_init_20 : decode cX5_init 20 = .ok (.iconst 0, 1) := by decide +kernel
theorem dX5_init_21 : decode cX5_init 21 = .ok (.putfield 18, 3) := by decide +kernel
theorem dX5_init_24 : decode cX5_init 24 = .ok (.iconst 0, 1) := by decide +kernel
theorem dX5_init_25 : decode cX5_init 25 = .ok (.istore_n 1, 1) := by decide +kernel
theorem dX5_init_26 : decode cX5_init 26 = .ok (.iload_n 1, 1) := by decide +kernel
theorem dX5_init_27 : decode cX5_init 27 = .ok (.iconst 4, 1) := by decide +kernel
theorem dX5_init_28 : decode cX5_init 28 = .ok (.if_icmp .ge 17, 3) := by decide +kernel
theorem dX5_init_31 : decode cX5_init 31 = .ok (.aload_n 0, 1) := by decide +kernel
theorem dX5_init_32 : decode cX5_init 32 = .ok (.getfield 9, 3) := by decide +kernel
theorem dX5_init_35 : decode cX5_init 35 = .ok (.iload_n 1, 1) := by decide +kernel
theorem dX5_init_36 : decode cX5_init 36 = .ok (.ldc 22, 2) := by decide +kernel
theorem dX5_init_38 : decode cX5_init 38 = .ok (.iastore, 1) := by decide +kernel
theorem dX5_init_39 : decode cX5_init 39 = .ok (.iinc 1 1, 3) := by decide +kernel
theorem dX5_init_42 : decode cX5_init 42 = .ok (.goto (-16), 3) := by decide +kernel
theorem dX5_init_45 : decode cX5_init 45 = .ok (.return_, 1) := by decide +kernel
theorem dX5_rank_0 : decode cX5_rank 0 = .ok (.aload_n 0, 1) := by decide +kernel
theorem dX5_rank_1 : decode cX5_rank 1 = .ok (.iconst 0, 1) := by decide +kernel
theorem dX5_rank_2 : decode cX5_rank 2 = .ok (.putfield 18, 3) := by decide +kernel
theorem dX5_rank_5 : decode cX5_rank 5 = .ok (.iconst 0, 1) := by decide +kernel
theorem dX5_rank_6 : decode cX5_rank 6 = .ok (.istore_n 3, 1) := by decide +kernel
theorem dX5_rank_7 : decode cX5_rank 7 = .ok (.iload_n 3, 1) := by decide +kernel
theorem dX5_rank_8 : decode cX5_rank 8 = .ok (.aload_n 1, 1) := by decide +kernel
theorem dX5_rank_9 : decode cX5_rank 9 = .ok (.getfield 23, 3) := by decide +kernel
theorem dX5_rank_12 : decode cX5_rank 12 = .ok (.if_icmp .ge 32, 3) := by decide +kernel
theorem dX5_rank_15 : decode cX5_rank 15 = .ok (.aload_n 1, 1) := by decide +kernel
theorem dX5_rank_16 : decode cX5_rank 16 = .ok (.getfield 28, 3) := by decide +kernel
theorem dX5_rank_19 : decode cX5_rank 19 = .ok (.iload_n 3, 1) := by decide +kernel
theorem dX5_rank_20 : decode cX5_rank 20 = .ok (.aaload, 1) := by decide +kernel
theorem dX5_rank_21 : decode cX5_rank 21 = .ok (.getfield 32, 3) := by decide +kernel
theorem dX5_rank_24 : decode cX5_rank 24 = .ok (.iload_n 2, 1) := by decide +kernel
theorem dX5_rank_25 : decode cX5_rank 25 = .ok (.if_icmp .ne 13, 3) := by decide +kernel
theorem dX5_rank_28 : decode cX5_rank 28 = .ok (.aload_n 0, 1) := by decide +kernel
theorem dX5_rank_29 : decode cX5_rank 29 = .ok (.aload_n 1, 1) := by decide +kernel
theorem dX5_rank_30 : decode cX5_rank 30 = .ok (.getfield 37, 3) := by decide +kernel
theorem dX5_rank_33 : decode cX5_rank 33 = .ok (.iload_n 3, 1) := by decide +kernel
theorem dX5_rank_34 : decode cX5_rank 34 = .ok (.iaload, 1) := by decide +kernel
theorem dX5_rank_35 : decode cX5_rank 35 = .ok (.invokevirtual 40, 3) := by decide +kernel
theorem dX5_rank_38 : decode cX5_rank 38 = .ok (.iinc 3 1, 3) := by decide +kernel
theorem dX5_rank_41 : decode cX5_rank 41 = .ok (.goto (-34), 3) := by decide +kernel
theorem dX5_rank_44 : decode cX5_rank 44 = .ok (.return_, 1) := by decide +kernel
theorem dX5_insert_0 : decode cX5_insert 0 = .ok (.aload_n 0, 1) := by decide +kernel
theorem dX5_insert_1 : decode cX5_insert 1 = .ok (.getfield 18, 3) := by decide +kernel
theorem dX5_insert_4 : decode cX5_insert 4 = .ok (.bipush 10, 2) := by decide +kernel
theorem dX5_insert_6 : decode cX5_insert 6 = .ok (.if_icmp .lt 4, 3) := by decide +kernel
theorem dX5_insert_9 : decode cX5_insert 9 = .ok (.return_, 1) := by decide +kernel
theorem dX5_insert_10 : decode cX5_insert 10 = .ok (.aload_n 0, 1) := by decide +kernel
theorem dX5_insert_11 : decode cX5_insert 11 = .ok (.getfield 18, 3) := by decide +kernel
theorem dX5_insert_14 : decode cX5_insert 14 = .ok (.istore_n 2, 1) := by decide +kernel
theorem dX5_insert_15 : decode cX5_insert 15 = .ok (.iload_n 2, 1) := by decide +kernel
theorem dX5_insert_16 : decode cX5_insert 16 = .ok (.ifCond .le 35, 3) := by decide +kernel
theorem dX5_insert_19 : decode cX5_insert 19 = .ok (.aload_n 0, 1) := by decide +kernel
theorem dX5_insert_20 : decode cX5_insert 20 = .ok (.getfield 15, 3) := by decide +kernel
theorem dX5_insert_23 : decode cX5_insert 23 = .ok (.iload_n 2, 1) := by decide +kernel
theorem dX5_insert_24 : decode cX5_insert 24 = .ok (.iconst 1, 1) := by decide +kernel
theorem dX5_insert_25 : decode cX5_insert 25 = .ok (.isub, 1) := by decide +kernel
theorem dX5_insert_26 : decode cX5_insert 26 = .ok (.iaload, 1) := by decide +kernel
theorem dX5_insert_27 : decode cX5_insert 27 = .ok (.iload_n 1, 1) := by decide +kernel
theorem dX5_insert_28 : decode cX5_insert 28 = .ok (.if_icmp .ge 23, 3) := by decide +kernel
theorem dX5_insert_31 : decode cX5_insert 31 = .ok (.aload_n 0, 1) := by decide +kernel
theorem dX5_insert_32 : decode cX5_insert 32 = .ok (.getfield 15, 3) := by decide +kernel
theorem dX5_insert_35 : decode cX5_insert 35 = .ok (.iload_n 2, 1) := by decide +kernel
theorem dX5_insert_36 : decode cX5_insert 36 = .ok (.aload_n 0, 1) := by decide +kernel
theorem dX5_insert_37 : decode cX5_insert 37 = .ok (.getfield 15, 3) := by decide +kernel
theorem dX5_insert_40 : decode cX5_insert 40 = .ok (.iload_n 2, 1) := by decide +kernel
theorem dX5_insert_41 : decode cX5_insert 41 = .ok (.iconst 1, 1) := by decide +kernel
theorem dX5_insert_42 : decode cX5_insert 42 = .ok (.isub, 1) := by decide +kernel
theorem dX5_insert_43 : decode cX5_insert 43 = .ok (.iaload, 1) := by decide +kernel
theorem dX5_insert_44 : decode cX5_insert 44 = .ok (.iastore, 1) := by decide +kernel
theorem dX5_insert_45 : decode cX5_insert 45 = .ok (.iinc 2 (-1), 3) := by decide +kernel
theorem dX5_insert_48 : decode cX5_insert 48 = .ok (.goto (-33), 3) := by decide +kernel
theorem dX5_insert_51 : decode cX5_insert 51 = .ok (.aload_n 0, 1) := by decide +kernel
theorem dX5_insert_52 : decode cX5_insert 52 = .ok (.getfield 15, 3) := by decide +kernel
theorem dX5_insert_55 : decode cX5_insert 55 = .ok (.iload_n 2, 1) := by decide +kernel
theorem dX5_insert_56 : decode cX5_insert 56 = .ok (.iload_n 1, 1) := by decide +kernel
theorem dX5_insert_57 : decode cX5_insert 57 = .ok (.iastore, 1) := by decide +kernel
theorem dX5_insert_58 : decode cX5_insert 58 = .ok (.aload_n 0, 1) := by decide +kernel
theorem dX5_insert_59 : decode cX5_insert 59 = .ok (.dup, 1) := by decide +kernel
theorem dX5_insert_60 : decode cX5_insert 60 = .ok (.getfield 18, 3) := by decide +kernel
theorem dX5_insert_63 : decode cX5_insert 63 = .ok (.iconst 1, 1) := by decide +kernel
theorem dX5_insert_64 : decode cX5_insert 64 = .ok (.iadd, 1) := by decide +kernel
theorem dX5_insert_65 : decode cX5_insert 65 = .ok (.putfield 18, 3) := by decide +kernel
theorem dX5_insert_68 : decode cX5_insert 68 = .ok (.return_, 1) := by decide +kernel
theorem dX5_best_0 : decode cX5_best 0 = .ok (.iconst 0, 1) := by decide +kernel
theorem dX5_best_1 : decode cX5_best 1 = .ok (.istore_n 1, 1) := by decide +kernel
theorem dX5_best_2 : decode cX5_best 2 = .ok (.iconst 0, 1) := by decide +kernel
theorem dX5_best_3 : decode cX5_best 3 = .ok (.istore_n 2, 1) := by decide +kernel
theorem dX5_best_4 : decode cX5_best 4 = .ok (.iload_n 2, 1) := by decide +kernel
theorem dX5_best_5 : decode cX5_best 5 = .ok (.aload_n 0, 1) := by decide +kernel
theorem dX5_best_6 : decode cX5_best 6 = .ok (.getfield 18, 3) := by decide +kernel
theorem dX5_best_9 : decode cX5_best 9 = .ok (.if_icmp .ge 24, 3) := by decide +kernel
theorem dX5_best_12 : decode cX5_best 12 = .ok (.iload_n 1, 1) := by decide +kernel
theorem dX5_best_13 : decode cX5_best 13 = .ok (.iload_n 2, 1) := by decide +kernel
theorem dX5_best_14 : decode cX5_best 14 = .ok (.iconst 1, 1) := by decide +kernel
theorem dX5_best_15 : decode cX5_best 15 = .ok (.iadd, 1) := by decide +kernel
theorem dX5_best_16 : decode cX5_best 16 = .ok (.aload_n 0, 1) := by decide +kernel
theorem dX5_best_17 : decode cX5_best 17 = .ok (.getfield 15, 3) := by decide +kernel
theorem dX5_best_20 : decode cX5_best 20 = .ok (.iload_n 2, 1) := by decide +kernel
theorem dX5_best_21 : decode cX5_best 21 = .ok (.iaload, 1) := by decide +kernel
theorem dX5_best_22 : decode cX5_best 22 = .ok (.imul, 1) := by decide +kernel
theorem dX5_best_23 : decode cX5_best 23 = .ok (.invokestatic 44, 3) := by decide +kernel
theorem dX5_best_26 : decode cX5_best 26 = .ok (.istore_n 1, 1) := by decide +kernel
theorem dX5_best_27 : decode cX5_best 27 = .ok (.iinc 2 1, 3) := by decide +kernel
theorem dX5_best_30 : decode cX5_best 30 = .ok (.goto (-26), 3) := by decide +kernel
theorem dX5_best_33 : decode cX5_best 33 = .ok (.iload_n 1, 1) := by decide +kernel
theorem dX5_best_34 : decode cX5_best 34 = .ok (.ireturn, 1) := by decide +kernel
theorem dX5_sumOfRanked_0 : decode cX5_sumOfRanked 0 = .ok (.iconst 0, 1) := by decide +kernel
theorem dX5_sumOfRanked_1 : decode cX5_sumOfRanked 1 = .ok (.istore_n 1, 1) := by decide +kernel
theorem dX5_sumOfRanked_2 : decode cX5_sumOfRanked 2 = .ok (.iconst 0, 1) := by decide +kernel
theorem dX5_sumOfRanked_3 : decode cX5_sumOfRanked 3 = .ok (.istore_n 2, 1) := by decide +kernel
theorem dX5_sumOfRanked_4 : decode cX5_sumOfRanked 4 = .ok (.iload_n 2, 1) := by decide +kernel
theorem dX5_sumOfRanked_5 : decode cX5_sumOfRanked 5 = .ok (.aload_n 0, 1) := by decide +kernel
theorem dX5_sumOfRanked_6 : decode cX5_sumOfRanked 6 = .ok (.getfield 18, 3) := by decide +kernel
theorem dX5_sumOfRanked_9 : decode cX5_sumOfRanked 9 = .ok (.if_icmp .ge 18, 3) := by decide +kernel
theorem dX5_sumOfRanked_12 : decode cX5_sumOfRanked 12 = .ok (.iload_n 1, 1) := by decide +kernel
theorem dX5_sumOfRanked_13 : decode cX5_sumOfRanked 13 = .ok (.aload_n 0, 1) := by decide +kernel
theorem dX5_sumOfRanked_14 : decode cX5_sumOfRanked 14 = .ok (.getfield 15, 3) := by decide +kernel
theorem dX5_sumOfRanked_17 : decode cX5_sumOfRanked 17 = .ok (.iload_n 2, 1) := by decide +kernel
theorem dX5_sumOfRanked_18 : decode cX5_sumOfRanked 18 = .ok (.iaload, 1) := by decide +kernel
theorem dX5_sumOfRanked_19 : decode cX5_sumOfRanked 19 = .ok (.iadd, 1) := by decide +kernel
theorem dX5_sumOfRanked_20 : decode cX5_sumOfRanked 20 = .ok (.istore_n 1, 1) := by decide +kernel
theorem dX5_sumOfRanked_21 : decode cX5_sumOfRanked 21 = .ok (.iinc 2 1, 3) := by decide +kernel
theorem dX5_sumOfRanked_24 : decode cX5_sumOfRanked 24 = .ok (.goto (-20), 3) := by decide +kernel
theorem dX5_sumOfRanked_27 : decode cX5_sumOfRanked 27 = .ok (.iload_n 1, 1) := by decide +kernel
theorem dX5_sumOfRanked_28 : decode cX5_sumOfRanked 28 = .ok (.ireturn, 1) := by decide +kernel
theorem dX5_bookInto_0 : decode cX5_bookInto 0 = .ok (.iconst 0, 1) := by decide +kernel
theorem dX5_bookInto_1 : decode cX5_bookInto 1 = .ok (.istore_n 3, 1) := by decide +kernel
theorem dX5_bookInto_2 : decode cX5_bookInto 2 = .ok (.iload_n 3, 1) := by decide +kernel
theorem dX5_bookInto_3 : decode cX5_bookInto 3 = .ok (.aload_n 2, 1) := by decide +kernel
theorem dX5_bookInto_4 : decode cX5_bookInto 4 = .ok (.getfield 23, 3) := by decide +kernel
theorem dX5_bookInto_7 : decode cX5_bookInto 7 = .ok (.if_icmp .ge 95, 3) := by decide +kernel
theorem dX5_bookInto_10 : decode cX5_bookInto 10 = .ok (.aload_n 2, 1) := by decide +kernel
theorem dX5_bookInto_11 : decode cX5_bookInto 11 = .ok (.getfield 28, 3) := by decide +kernel
theorem dX5_bookInto_14 : decode cX5_bookInto 14 = .ok (.iload_n 3, 1) := by decide +kernel
theorem dX5_bookInto_15 : decode cX5_bookInto 15 = .ok (.aaload, 1) := by decide +kernel
theorem dX5_bookInto_16 : decode cX5_bookInto 16 = .ok (.getfield 32, 3) := by decide +kernel
theorem dX5_bookInto_19 : decode cX5_bookInto 19 = .ok (.iconst (-1), 1) := by decide +kernel
theorem dX5_bookInto_20 : decode cX5_bookInto 20 = .ok (.if_icmp .eq 76, 3) := by decide +kernel
theorem dX5_bookInto_23 : decode cX5_bookInto 23 = .ok (.aload_n 2, 1) := by decide +kernel
theorem dX5_bookInto_24 : decode cX5_bookInto 24 = .ok (.getfield 50, 3) := by decide +kernel
theorem dX5_bookInto_27 : decode cX5_bookInto 27 = .ok (.iload_n 3, 1) := by decide +kernel
theorem dX5_bookInto_28 : decode cX5_bookInto 28 = .ok (.invokevirtual 54, 3) := by decide +kernel
theorem dX5_bookInto_31 : decode cX5_bookInto 31 = .ok (.ifCond .eq 65, 3) := by decide +kernel
theorem dX5_bookInto_34 : decode cX5_bookInto 34 = .ok (.ldc2_w 60, 3) := by decide +kernel
theorem dX5_bookInto_37 : decode cX5_bookInto 37 = .ok (.aload_n 2, 1) := by decide +kernel
theorem dX5_bookInto_38 : decode cX5_bookInto 38 = .ok (.getfield 50, 3) := by decide +kernel
theorem dX5_bookInto_41 : decode cX5_bookInto 41 = .ok (.iload_n 3, 1) := by decide +kernel
theorem dX5_bookInto_42 : decode cX5_bookInto 42 = .ok (.invokevirtual 62, 3) := by decide +kernel
theorem dX5_bookInto_45 : decode cX5_bookInto 45 = .ok (.lmul, 1) := by decide +kernel
theorem dX5_bookInto_46 : decode cX5_bookInto 46 = .ok (.ldc2_w 66, 3) := by decide +kernel
theorem dX5_bookInto_49 : decode cX5_bookInto 49 = .ok (.ldiv, 1) := by decide +kernel
theorem dX5_bookInto_50 : decode cX5_bookInto 50 = .ok (.lstore 4, 2) := by decide +kernel
theorem dX5_bookInto_52 : decode cX5_bookInto 52 = .ok (.aload_n 1, 1) := by decide +kernel
theorem dX5_bookInto_53 : decode cX5_bookInto 53 = .ok (.getfield 68, 3) := by decide +kernel
theorem dX5_bookInto_56 : decode cX5_bookInto 56 = .ok (.iconst 0, 1) := by decide +kernel
theorem dX5_bookInto_57 : decode cX5_bookInto 57 = .ok (.dup2, 1) := by decide +kernel
theorem dX5_bookInto_58 : decode cX5_bookInto 58 = .ok (.laload, 1) := by decide +kernel
theorem dX5_bookInto_59 : decode cX5_bookInto 59 = .ok (.lload 4, 2) := by decide +kernel
theorem dX5_bookInto_61 : decode cX5_bookInto 61 = .ok (.ladd, 1) := by decide +kernel
theorem dX5_bookInto_62 : decode cX5_bookInto 62 = .ok (.lastore, 1) := by decide +kernel
theorem dX5_bookInto_63 : decode cX5_bookInto 63 = .ok (.aload_n 1, 1) := by decide +kernel
theorem dX5_bookInto_64 : decode cX5_bookInto 64 = .ok (.getfield 68, 3) := by decide +kernel
theorem dX5_bookInto_67 : decode cX5_bookInto 67 = .ok (.iconst 1, 1) := by decide +kernel
theorem dX5_bookInto_68 : decode cX5_bookInto 68 = .ok (.dup2, 1) := by decide +kernel
theorem dX5_bookInto_69 : decode cX5_bookInto 69 = .ok (.laload, 1) := by decide +kernel
theorem dX5_bookInto_70 : decode cX5_bookInto 70 = .ok (.lload 4, 2) := by decide +kernel
theorem dX5_bookInto_72 : decode cX5_bookInto 72 = .ok (.aload_n 2, 1) := by decide +kernel
theorem dX5_bookInto_73 : decode cX5_bookInto 73 = .ok (.getfield 74, 3) := by decide +kernel
theorem dX5_bookInto_76 : decode cX5_bookInto 76 = .ok (.iload_n 3, 1) := by decide +kernel
theorem dX5_bookInto_77 : decode cX5_bookInto 77 = .ok (.laload, 1) := by decide +kernel
theorem dX5_bookInto_78 : decode cX5_bookInto 78 = .ok (.lsub, 1) := by decide +kernel
theorem dX5_bookInto_79 : decode cX5_bookInto 79 = .ok (.ladd, 1) := by decide +kernel
theorem dX5_bookInto_80 : decode cX5_bookInto 80 = .ok (.lastore, 1) := by decide +kernel
theorem dX5_bookInto_81 : decode cX5_bookInto 81 = .ok (.aload_n 1, 1) := by decide +kernel
theorem dX5_bookInto_82 : decode cX5_bookInto 82 = .ok (.getfield 68, 3) := by decide +kernel
theorem dX5_bookInto_85 : decode cX5_bookInto 85 = .ok (.iconst 2, 1) := by decide +kernel
theorem dX5_bookInto_86 : decode cX5_bookInto 86 = .ok (.dup2, 1) := by decide +kernel
theorem dX5_bookInto_87 : decode cX5_bookInto 87 = .ok (.laload, 1) := by decide +kernel
theorem dX5_bookInto_88 : decode cX5_bookInto 88 = .ok (.aload_n 2, 1) := by decide +kernel
theorem dX5_bookInto_89 : decode cX5_bookInto 89 = .ok (.getfield 77, 3) := by decide +kernel
theorem dX5_bookInto_92 : decode cX5_bookInto 92 = .ok (.iload_n 3, 1) := by decide +kernel
theorem dX5_bookInto_93 : decode cX5_bookInto 93 = .ok (.laload, 1) := by decide +kernel
theorem dX5_bookInto_94 : decode cX5_bookInto 94 = .ok (.ladd, 1) := by decide +kernel
theorem dX5_bookInto_95 : decode cX5_bookInto 95 = .ok (.lastore, 1) := by decide +kernel
theorem dX5_bookInto_96 : decode cX5_bookInto 96 = .ok (.iinc 3 1, 3) := by decide +kernel
theorem dX5_bookInto_99 : decode cX5_bookInto 99 = .ok (.goto (-97), 3) := by decide +kernel
theorem dX5_bookInto_102 : decode cX5_bookInto 102 = .ok (.iconst 0, 1) := by decide +kernel
theorem dX5_bookInto_103 : decode cX5_bookInto 103 = .ok (.istore_n 3, 1) := by decide +kernel
theorem dX5_bookInto_104 : decode cX5_bookInto 104 = .ok (.iload_n 3, 1) := by decide +kernel
theorem dX5_bookInto_105 : decode cX5_bookInto 105 = .ok (.iconst 4, 1) := by decide +kernel
theorem dX5_bookInto_106 : decode cX5_bookInto 106 = .ok (.if_icmp .ge 78, 3) := by decide +kernel
theorem dX5_bookInto_109 : decode cX5_bookInto 109 = .ok (.aload_n 0, 1) := by decide +kernel
theorem dX5_bookInto_110 : decode cX5_bookInto 110 = .ok (.aload_n 2, 1) := by decide +kernel
theorem dX5_bookInto_111 : decode cX5_bookInto 111 = .ok (.iload_n 3, 1) := by decide +kernel
theorem dX5_bookInto_112 : decode cX5_bookInto 112 = .ok (.invokevirtual 80, 3) := by decide +kernel
theorem dX5_bookInto_115 : decode cX5_bookInto 115 = .ok (.aload_n 0, 1) := by decide +kernel
theorem dX5_bookInto_116 : decode cX5_bookInto 116 = .ok (.invokevirtual 84, 3) := by decide +kernel
theorem dX5_bookInto_119 : decode cX5_bookInto 119 = .ok (.istore 4, 2) := by decide +kernel
theorem dX5_bookInto_121 : decode cX5_bookInto 121 = .ok (.iload 4, 2) := by decide +kernel
theorem dX5_bookInto_123 : decode cX5_bookInto 123 = .ok (.aload_n 0, 1) := by decide +kernel
theorem dX5_bookInto_124 : decode cX5_bookInto 124 = .ok (.getfield 9, 3) := by decide +kernel
theorem dX5_bookInto_127 : decode cX5_bookInto 127 = .ok (.iload_n 3, 1) := by decide +kernel
theorem dX5_bookInto_128 : decode cX5_bookInto 128 = .ok (.iaload, 1) := by decide +kernel
theorem dX5_bookInto_129 : decode cX5_bookInto 129 = .ok (.invokestatic 88, 3) := by decide +kernel
theorem dX5_bookInto_132 : decode cX5_bookInto 132 = .ok (.istore 5, 2) := by decide +kernel
theorem dX5_bookInto_134 : decode cX5_bookInto 134 = .ok (.aload_n 1, 1) := by decide +kernel
theorem dX5_bookInto_135 : decode cX5_bookInto 135 = .ok (.getfield 68, 3) := by decide +kernel
theorem dX5_bookInto_138 : decode cX5_bookInto 138 = .ok (.iconst 3, 1) := by decide +kernel
theorem dX5_bookInto_139 : decode cX5_bookInto 139 = .ok (.dup2, 1) := by decide +kernel
theorem dX5_bookInto_140 : decode cX5_bookInto 140 = .ok (.laload, 1) := by decide +kernel
theorem dX5_bookInto_141 : decode cX5_bookInto 141 = .ok (.aload_n 0, 1) := by decide +kernel
theorem dX5_bookInto_142 : decode cX5_bookInto 142 = .ok (.invokevirtual 91, 3) := by decide +kernel
theorem dX5_bookInto_145 : decode cX5_bookInto 145 = .ok (.iload 4, 2) := by decide +kernel
theorem dX5_bookInto_147 : decode cX5_bookInto 147 = .ok (.isub, 1) := by decide +kernel
theorem dX5_bookInto_148 : decode cX5_bookInto 148 = .ok (.i2l, 1) := by decide +kernel
theorem dX5_bookInto_149 : decode cX5_bookInto 149 = .ok (.ladd, 1) := by decide +kernel
theorem dX5_bookInto_150 : decode cX5_bookInto 150 = .ok (.lastore, 1) := by decide +kernel
theorem dX5_bookInto_151 : decode cX5_bookInto 151 = .ok (.aload_n 1, 1) := by decide +kernel
theorem dX5_bookInto_152 : decode cX5_bookInto 152 = .ok (.getfield 68, 3) := by decide +kernel
theorem dX5_bookInto_155 : decode cX5_bookInto 155 = .ok (.iconst 4, 1) := by decide +kernel
theorem dX5_bookInto_156 : decode cX5_bookInto 156 = .ok (.dup2, 1) := by decide +kernel
theorem dX5_bookInto_157 : decode cX5_bookInto 157 = .ok (.laload, 1) := by decide +kernel
theorem dX5_bookInto_158 : decode cX5_bookInto 158 = .ok (.iload 4, 2) := by decide +kernel
theorem dX5_bookInto_160 : decode cX5_bookInto 160 = .ok (.iload 5, 2) := by decide +kernel
theorem dX5_bookInto_162 : decode cX5_bookInto 162 = .ok (.isub, 1) := by decide +kernel
theorem dX5_bookInto_163 : decode cX5_bookInto 163 = .ok (.i2l, 1) := by decide +kernel
theorem dX5_bookInto_164 : decode cX5_bookInto 164 = .ok (.ladd, 1) := by decide +kernel
theorem dX5_bookInto_165 : decode cX5_bookInto 165 = .ok (.lastore, 1) := by decide +kernel
theorem dX5_bookInto_166 : decode cX5_bookInto 166 = .ok (.aload_n 1, 1) := by decide +kernel
theorem dX5_bookInto_167 : decode cX5_bookInto 167 = .ok (.getfield 68, 3) := by decide +kernel
theorem dX5_bookInto_170 : decode cX5_bookInto 170 = .ok (.iconst 5, 1) := by decide +kernel
theorem dX5_bookInto_171 : decode cX5_bookInto 171 = .ok (.dup2, 1) := by decide +kernel
theorem dX5_bookInto_172 : decode cX5_bookInto 172 = .ok (.laload, 1) := by decide +kernel
theorem dX5_bookInto_173 : decode cX5_bookInto 173 = .ok (.iload 5, 2) := by decide +kernel
theorem dX5_bookInto_175 : decode cX5_bookInto 175 = .ok (.i2l, 1) := by decide +kernel
theorem dX5_bookInto_176 : decode cX5_bookInto 176 = .ok (.ladd, 1) := by decide +kernel
theorem dX5_bookInto_177 : decode cX5_bookInto 177 = .ok (.lastore, 1) := by decide +kernel
theorem dX5_bookInto_178 : decode cX5_bookInto 178 = .ok (.iinc 3 1, 3) := by decide +kernel
theorem dX5_bookInto_181 : decode cX5_bookInto 181 = .ok (.goto (-77), 3) := by decide +kernel
theorem dX5_bookInto_184 : decode cX5_bookInto 184 = .ok (.return_, 1) := by decide +kernel
theorem dX6_init_0 : decode cX6_init 0 = .ok (.aload_n 0, 1) := by decide +kernel
theorem dX6_init_1 : decode cX6_init 1 = .ok (.invokespecial 3, 3) := by decide +kernel
theorem dX6_init_4 : decode cX6_init 4 = .ok (.aload_n 0, 1) := by decide +kernel
theorem dX6_init_5 : decode cX6_init 5 = .ok (.bipush 72, 2) := by decide +kernel
theorem dX6_init_7 : decode cX6_init 7 = .ok (.newarray .int, 2) := by decide +kernel
theorem dX6_init_9 : decode cX6_init 9 = .ok (.putfield 9, 3) := by decide +kernel
theorem dX6_init_12 : decode cX6_init 12 = .ok (.aload_n 0, 1) := by decide +kernel
theorem dX6_init_13 : decode cX6_init 13 = .ok (.iconst 0, 1) := by decide +kernel
theorem dX6_init_14 : decode cX6_init 14 = .ok (.putfield 15, 3) := by decide +kernel
theorem dX6_init_17 : decode cX6_init 17 = .ok (.return_, 1) := by decide +kernel
theorem dX6_append_0 : decode cX6_append 0 = .ok (.aload_n 0, 1) := by decide +kernel
theorem dX6_append_1 : decode cX6_append 1 = .ok (.getfield 15, 3) := by decide +kernel
theorem dX6_append_4 : decode cX6_append 4 = .ok (.bipush 72, 2) := by decide +kernel
theorem dX6_append_6 : decode cX6_append 6 = .ok (.if_icmp .ge 23, 3) := by decide +kernel
theorem dX6_append_9 : decode cX6_append 9 = .ok (.aload_n 0, 1) := by decide +kernel
theorem dX6_append_10 : decode cX6_append 10 = .ok (.getfield 9, 3) := by decide +kernel
theorem dX6_append_13 : decode cX6_append 13 = .ok (.aload_n 0, 1) := by decide +kernel
theorem dX6_append_14 : decode cX6_append 14 = .ok (.getfield 15, 3) := by decide +kernel
theorem dX6_append_17 : decode cX6_append 17 = .ok (.iload_n 1, 1) := by decide +kernel
theorem dX6_append_18 : decode cX6_append 18 = .ok (.iastore, 1) := by decide +kernel
theorem dX6_append_19 : decode cX6_append 19 = .ok (.aload_n 0, 1) := by decide +kernel
theorem dX6_append_20 : decode cX6_append 20 = .ok (.dup, 1) := by decide +kernel
theorem dX6_append_21 : decode cX6_append 21 = .ok (.getfield 15, 3) := by decide +kernel
theorem dX6_append_24 : decode cX6_append 24 = .ok (.iconst 1, 1) := by decide +kernel
theorem dX6_append_25 : decode cX6_append 25 = .ok (.iadd, 1) := by decide +kernel
theorem dX6_append_26 : decode cX6_append 26 = .ok (.putfield 15, 3) := by decide +kernel
theorem dX6_append_29 : decode cX6_append 29 = .ok (.return_, 1) := by decide +kernel
theorem dX6_clear_0 : decode cX6_clear 0 = .ok (.aload_n 0, 1) := by decide +kernel
theorem dX6_clear_1 : decode cX6_clear 1 = .ok (.iconst 0, 1) := by decide +kernel
theorem dX6_clear_2 : decode cX6_clear 2 = .ok (.putfield 15, 3) := by decide +kernel
theorem dX6_clear_5 : decode cX6_clear 5 = .ok (.return_, 1) := by decide +kernel
theorem dX7_init_0 : decode cX7_init 0 = .ok (.aload_n 0, 1) := by decide +kernel
theorem dX7_init_1 : decode cX7_init 1 = .ok (.invokespecial 1, 3) := by decide +kernel
theorem dX7_init_4 : decode cX7_init 4 = .ok (.aload_n 0, 1) := by decide +kernel
theorem dX7_init_5 : decode cX7_init 5 = .ok (.iconst 0, 1) := by decide +kernel
theorem dX7_init_6 : decode cX7_init 6 = .ok (.putfield 7, 3) := by decide +kernel
theorem dX7_init_9 : decode cX7_init 9 = .ok (.aload_n 0, 1) := by decide +kernel
theorem dX7_init_10 : decode cX7_init 10 = .ok (.lconst 0, 1) := by decide +kernel
theorem dX7_init_11 : decode cX7_init 11 = .ok (.putfield 13, 3) := by decide +kernel
theorem dX7_init_14 : decode cX7_init 14 = .ok (.return_, 1) := by decide +kernel
theorem dX7_choose_0 : decode cX7_choose 0 = .ok (.aload_n 0, 1) := by decide +kernel
theorem dX7_choose_1 : decode cX7_choose 1 = .ok (.iconst 0, 1) := by decide +kernel
theorem dX7_choose_2 : decode cX7_choose 2 = .ok (.putfield 7, 3) := by decide +kernel
theorem dX7_choose_5 : decode cX7_choose 5 = .ok (.aload_n 0, 1) := by decide +kernel
theorem dX7_choose_6 : decode cX7_choose 6 = .ok (.lconst 0, 1) := by decide +kernel
theorem dX7_choose_7 : decode cX7_choose 7 = .ok (.putfield 13, 3) := by decide +kernel
theorem dX7_choose_10 : decode cX7_choose 10 = .ok (.iconst 0, 1) := by decide +kernel
theorem dX7_choose_11 : decode cX7_choose 11 = .ok (.istore 4, 2) := by decide +kernel
theorem dX7_choose_13 : decode cX7_choose 13 = .ok (.iload 4, 2) := by decide +kernel
theorem dX7_choose_15 : decode cX7_choose 15 = .ok (.aload_n 1, 1) := by decide +kernel
theorem dX7_choose_16 : decode cX7_choose 16 = .ok (.getfield 17, 3) := by decide +kernel
theorem dX7_choose_19 : decode cX7_choose 19 = .ok (.if_icmp .ge 138, 3) := by decide +kernel
theorem dX7_choose_22 : decode cX7_choose 22 = .ok (.lconst 0, 1) := by decide +kernel
theorem dX7_choose_23 : decode cX7_choose 23 = .ok (.lstore 5, 2) := by decide +kernel
theorem dX7_choose_25 : decode cX7_choose 25 = .ok (.iconst 0, 1) := by decide +kernel
theorem dX7_choose_26 : decode cX7_choose 26 = .ok (.istore 7, 2) := by decide +kernel
theorem dX7_choose_28 : decode cX7_choose 28 = .ok (.aload_n 1, 1) := by decide +kernel
theorem dX7_choose_29 : decode cX7_choose 29 = .ok (.getfield 22, 3) := by decide +kernel
theorem dX7_choose_32 : decode cX7_choose 32 = .ok (.iload 4, 2) := by decide +kernel
theorem dX7_choose_34 : decode cX7_choose 34 = .ok (.aaload, 1) := by decide +kernel
theorem dX7_choose_35 : decode cX7_choose 35 = .ok (.iload_n 2, 1) := by decide +kernel
theorem dX7_choose_36 : decode cX7_choose 36 = .ok (.iload_n 3, 1) := by decide +kernel
theorem dX7_choose_37 : decode cX7_choose 37 = .ok (.invokestatic 26, 3) := by decide +kernel
theorem dX7_choose_40 : decode cX7_choose 40 = .ok (.lstore 8, 2) := by decide +kernel
theorem dX7_choose_42 : decode cX7_choose 42 = .ok (.aload_n 0, 1) := by decide +kernel
theorem dX7_choose_43 : decode cX7_choose 43 = .ok (.lload 8, 2) := by decide +kernel
theorem dX7_choose_45 : decode cX7_choose 45 = .ok (.ldc2_w 30, 3) := by decide +kernel
theorem dX7_choose_48 : decode cX7_choose 48 = .ok (.lsub, 1) := by decide +kernel
theorem dX7_choose_49 : decode cX7_choose 49 = .ok (.iconst 1, 1) := by decide +kernel
theorem dX7_choose_50 : decode cX7_choose 50 = .ok (.iload 4, 2) := by decide +kernel
theorem dX7_choose_52 : decode cX7_choose 52 = .ok (.ishl, 1) := by decide +kernel
theorem dX7_choose_53 : decode cX7_choose 53 = .ok (.invokevirtual 32, 3) := by decide +kernel
theorem dX7_choose_56 : decode cX7_choose 56 = .ok (.iload 4, 2) := by decide +kernel
theorem dX7_choose_58 : decode cX7_choose 58 = .ok (.iconst 1, 1) := by decide +kernel
theorem dX7_choose_59 : decode cX7_choose 59 = .ok (.iadd, 1) := by decide +kernel
theorem dX7_choose_60 : decode cX7_choose 60 = .ok (.istore 10, 2) := by decide +kernel
theorem dX7_choose_62 : decode cX7_choose 62 = .ok (.iload 10, 2) := by decide +kernel
theorem dX7_choose_64 : decode cX7_choose 64 = .ok (.aload_n 1, 1) := by decide +kernel
theorem dX7_choose_65 : decode cX7_choose 65 = .ok (.getfield 17, 3) := by decide +kernel
theorem dX7_choose_68 : decode cX7_choose 68 = .ok (.if_icmp .ge 83, 3) := by decide +kernel
theorem dX7_choose_71 : decode cX7_choose 71 = .ok (.aload_n 1, 1) := by decide +kernel
theorem dX7_choose_72 : decode cX7_choose 72 = .ok (.getfield 22, 3) := by decide +kernel
theorem dX7_choose_75 : decode cX7_choose 75 = .ok (.iload 10, 2) := by decide +kernel
theorem dX7_choose_77 : decode cX7_choose 77 = .ok (.aaload, 1) := by decide +kernel
theorem dX7_choose_78 : decode cX7_choose 78 = .ok (.iload_n 2, 1) := by decide +kernel
theorem dX7_choose_79 : decode cX7_choose 79 = .ok (.iload_n 3, 1) := by decide +kernel
theorem dX7_choose_80 : decode cX7_choose 80 = .ok (.invokestatic 26, 3) := by decide +kernel
theorem dX7_choose_83 : decode cX7_choose 83 = .ok (.lstore 11, 2) := by decide +kernel
theorem dX7_choose_85 : decode cX7_choose 85 = .ok (.aload_n 0, 1) := by decide +kernel
theorem dX7_choose_86 : decode cX7_choose 86 = .ok (.lload 8, 2) := by decide +kernel
theorem dX7_choose_88 : decode cX7_choose 88 = .ok (.lload 5, 2) := by decide +kernel
theorem dX7_choose_90 : decode cX7_choose 90 = .ok (.ladd, 1) := by decide +kernel
theorem dX7_choose_91 : decode cX7_choose 91 = .ok (.lload 11, 2) := by decide +kernel
theorem dX7_choose_93 : decode cX7_choose 93 = .ok (.ladd, 1) := by decide +kernel
theorem dX7_choose_94 : decode cX7_choose 94 = .ok (.ldc2_w 30, 3) := by decide +kernel
theorem dX7_choose_97 : decode cX7_choose 97 = .ok (.iload 10, 2) := by decide +kernel
theorem dX7_choose_99 : decode cX7_choose 99 = .ok (.iload 4, 2) := by decide +kernel
theorem dX7_choose_101 : decode cX7_choose 101 = .ok (.isub, 1) := by decide +kernel
theorem dX7_choose_102 : decode cX7_choose 102 = .ok (.iconst 1, 1) := by decide +kernel
theorem dX7_choose_103 : decode cX7_choose 103 = .ok (.iadd, 1) := by decide +kernel
theorem dX7_choose_104 : decode cX7_choose 104 = .ok (.i2l, 1) := by decide +kernel
theorem dX7_choose_105 : decode cX7_choose 105 = .ok (.lmul, 1) := by decide +kernel
theorem dX7_choose_106 : decode cX7_choose 106 = .ok (.lsub, 1) := by decide +kernel
theorem dX7_choose_107 : decode cX7_choose 107 = .ok (.iconst 1, 1) := by decide +kernel
theorem dX7_choose_108 : decode cX7_choose 108 = .ok (.iload 4, 2) := by decide +kernel
theorem dX7_choose_110 : decode cX7_choose 110 = .ok (.ishl, 1) := by decide +kernel
theorem dX7_choose_111 : decode cX7_choose 111 = .ok (.iload 7, 2) := by decide +kernel
theorem dX7_choose_113 : decode cX7_choose 113 = .ok (.ior, 1) := by decide +kernel
theorem dX7_choose_114 : decode cX7_choose 114 = .ok (.iconst 1, 1) := by decide +kernel
theorem dX7_choose_115 : decode cX7_choose 115 = .ok (.iload 10, 2) := by decide +kernel
theorem dX7_choose_117 : decode cX7_choose 117 = .ok (.ishl, 1) := by decide +kernel
theorem dX7_choose_118 : decode cX7_choose 118 = .ok (.ior, 1) := by decide +kernel
theorem dX7_choose_119 : decode cX7_choose 119 = .ok (.invokevirtual 32, 3) := by decide +kernel
theorem dX7_choose_122 : decode cX7_choose 122 = .ok (.lload 11, 2) := by decide +kernel
theorem dX7_choose_124 : decode cX7_choose 124 = .ok (.lconst 0, 1) := by decide +kernel
theorem dX7_choose_125 : decode cX7_choose 125 = .ok (.lcmp, 1) := by decide +kernel
theorem dX7_choose_126 : decode cX7_choose 126 = .ok (.ifCond .le 19, 3) := by decide +kernel
theorem dX7_choose_129 : decode cX7_choose 129 = .ok (.lload 5, 2) := by decide +kernel
theorem dX7_choose_131 : decode cX7_choose 131 = .ok (.lload 11, 2) := by decide +kernel
theorem dX7_choose_133 : decode cX7_choose 133 = .ok (.ladd, 1) := by decide +kernel
theorem dX7_choose_134 : decode cX7_choose 134 = .ok (.lstore 5, 2) := by decide +kernel
theorem dX7_choose_136 : decode cX7_choose 136 = .ok (.iload 7, 2) := by decide +kernel
theorem dX7_choose_138 : decode cX7_choose 138 = .ok (.iconst 1, 1) := by decide +kernel
theorem dX7_choose_139 : decode cX7_choose 139 = .ok (.iload 10, 2) := by decide +kernel
theorem dX7_choose_141 : decode cX7_choose 141 = .ok (.ishl, 1) := by decide +kernel
theorem dX7_choose_142 : decode cX7_choose 142 = .ok (.ior, 1) := by decide +kernel
theorem dX7_choose_143 : decode cX7_choose 143 = .ok (.istore 7, 2) := by decide +kernel
theorem dX7_choose_145 : decode cX7_choose 145 = .ok (.iinc 10 1, 3) := by decide +kernel
theorem dX7_choose_148 : decode cX7_choose 148 = .ok (.goto (-86), 3) := by decide +kernel
theorem dX7_choose_151 : decode cX7_choose 151 = .ok (.iinc 4 1, 3) := by decide +kernel
theorem dX7_choose_154 : decode cX7_choose 154 = .ok (.goto (-141), 3) := by decide +kernel
theorem dX7_choose_157 : decode cX7_choose 157 = .ok (.return_, 1) := by decide +kernel
theorem dX7_gain_0 : decode cX7_gain 0 = .ok (.aload_n 0, 1) := by decide +kernel
theorem dX7_gain_1 : decode cX7_gain 1 = .ok (.getfield 36, 3) := by decide +kernel
theorem dX7_gain_4 : decode cX7_gain 4 = .ok (.i2l, 1) := by decide +kernel
theorem dX7_gain_5 : decode cX7_gain 5 = .ok (.aload_n 0, 1) := by decide +kernel
theorem dX7_gain_6 : decode cX7_gain 6 = .ok (.getfield 41, 3) := by decide +kernel
theorem dX7_gain_9 : decode cX7_gain 9 = .ok (.i2l, 1) := by decide +kernel
theorem dX7_gain_10 : decode cX7_gain 10 = .ok (.lmul, 1) := by decide +kernel
theorem dX7_gain_11 : decode cX7_gain 11 = .ok (.iload_n 1, 1) := by decide +kernel
theorem dX7_gain_12 : decode cX7_gain 12 = .ok (.i2l, 1) := by decide +kernel
theorem dX7_gain_13 : decode cX7_gain 13 = .ok (.lmul, 1) := by decide +kernel
theorem dX7_gain_14 : decode cX7_gain 14 = .ok (.iload_n 2, 1) := by decide +kernel
theorem dX7_gain_15 : decode cX7_gain 15 = .ok (.i2l, 1) := by decide +kernel
theorem dX7_gain_16 : decode cX7_gain 16 = .ok (.lsub, 1) := by decide +kernel
theorem dX7_gain_17 : decode cX7_gain 17 = .ok (.lreturn, 1) := by decide +kernel
theorem dX7_take_0 : decode cX7_take 0 = .ok (.lload_n 1, 1) := by decide +kernel
theorem dX7_take_1 : decode cX7_take 1 = .ok (.aload_n 0, 1) := by decide +kernel
theorem dX7_take_2 : decode cX7_take 2 = .ok (.getfield 13, 3) := by decide +kernel
theorem dX7_take_5 : decode cX7_take 5 = .ok (.lcmp, 1) := by decide +kernel
theorem dX7_take_6 : decode cX7_take 6 = .ok (.ifCond .gt 20, 3) := by decide +kernel
theorem dX7_take_9 : decode cX7_take 9 = .ok (.lload_n 1, 1) := by decide +kernel
theorem dX7_take_10 : decode cX7_take 10 = .ok (.aload_n 0, 1) := by decide +kernel
theorem dX7_take_11 : decode cX7_take 11 = .ok (.getfield 13, 3) := by decide +kernel
theorem dX7_take_14 : decode cX7_take 14 = .ok (.lcmp, 1) := by decide +kernel
theorem dX7_take_15 : decode cX7_take 15 = .ok (.ifCond .ne 21, 3) := by decide +kernel
theorem dX7_take_18 : decode cX7_take 18 = .ok (.iload_n 3, 1) := by decide +kernel
theorem dX7_take_19 : decode cX7_take 19 = .ok (.aload_n 0, 1) := by decide +kernel
theorem dX7_take_20 : decode cX7_take 20 = .ok (.getfield 7, 3) := by decide +kernel
theorem dX7_take_23 : decode cX7_take 23 = .ok (.if_icmp .ge 13, 3) := by decide +kernel
theorem dX7_take_26 : decode cX7_take 26 = .ok (.aload_n 0, 1) := by decide +kernel
theorem dX7_take_27 : decode cX7_take 27 = .ok (.lload_n 1, 1) := by decide +kernel
theorem dX7_take_28 : decode cX7_take 28 = .ok (.putfield 13, 3) := by decide +kernel
theorem dX7_take_31 : decode cX7_take 31 = .ok (.aload_n 0, 1) := by decide +kernel
theorem dX7_take_32 : decode cX7_take 32 = .ok (.iload_n 3, 1) := by decide +kernel
theorem dX7_take_33 : decode cX7_take 33 = .ok (.putfield 7, 3) := by decide +kernel
theorem dX7_take_36 : decode cX7_take 36 = .ok (.return_, 1) := by decide +kernel
theorem dX8_init_0 : decode cX8_init 0 = .ok (.aload_n 0, 1) := by decide +kernel
theorem dX8_init_1 : decode cX8_init 1 = .ok (.invokespecial 3, 3) := by decide +kernel
theorem dX8_init_4 : decode cX8_init 4 = .ok (.aload_n 0, 1) := by decide +kernel
theorem dX8_init_5 : decode cX8_init 5 = .ok (.bipush 24, 2) := by decide +kernel
theorem dX8_init_7 : decode cX8_init 7 = .ok (.newarray .int, 2) := by decide +kernel
theorem dX8_init_9 : decode cX8_init 9 = .ok (.putfield 9, 3) := by decide +kernel
theorem dX8_init_12 : decode cX8_init 12 = .ok (.aload_n 0, 1) := by decide +kernel
theorem dX8_init_13 : decode cX8_init 13 = .ok (.bipush 24, 2) := by decide +kernel
theorem dX8_init_15 : decode cX8_init 15 = .ok (.newarray .boolean, 2) := by decide +kernel
theorem dX8_init_17 : decode cX8_init 17 = .ok (.putfield 15, 3) := by decide +kernel
theorem dX8_init_20 : decode cX8_init 20 = .ok (.aload_n 0, 1) := by decide +kernel
theorem dX8_init_21 : decode cX8_init 21 = .ok (.bipush 50, 2) := by decide +kernel
theorem dX8_init_23 : decode cX8_init 23 = .ok (.putfield 19, 3) := by decide +kernel
theorem dX8_init_26 : decode cX8_init 26 = .ok (.aload_n 0, 1) := by decide +kernel
theorem dX8_init_27 : decode cX8_init 27 = .ok (.iconst 0, 1) := by decide +kernel
theorem dX8_init_28 : decode cX8_init 28 = .ok (.putfield 23, 3) := by decide +kernel
theorem dX8_init_31 : decode cX8_init 31 = .ok (.aload_n 0, 1) := by decide +kernel
theorem dX8_init_32 : decode cX8_init 32 = .ok (.iconst 0, 1) := by decide +kernel
theorem dX8_init_33 : decode cX8_init 33 = .ok (.putfield 26, 3) := by decide +kernel
theorem dX8_init_36 : decode cX8_init 36 = .ok (.iconst 0, 1) := by decide +kernel
theorem dX8_init_37 : decode cX8_init 37 = .ok (.istore_n 1, 1) := by decide +kernel
theorem dX8_init_38 : decode cX8_init 38 = .ok (.iload_n 1, 1) := by decide +kernel
theorem dX8_init_39 : decode cX8_init 39 = .ok (.bipush 24, 2) := by decide +kernel
theorem dX8_init_41 : decode cX8_init 41 = .ok (.if_icmp .ge 16, 3) := by decide +kernel
theorem dX8_init_44 : decode cX8_init 44 = .ok (.aload_n 0, 1) := by decide +kernel
theorem dX8_init_45 : decode cX8_init 45 = .ok (.getfield 9, 3) := by decide +kernel
theorem dX8_init_48 : decode cX8_init 48 = .ok (.iload_n 1, 1) := by decide +kernel
theorem dX8_init_49 : decode cX8_init 49 = .ok (.iconst (-1), 1) := by decide +kernel
theorem dX8_init_50 : decode cX8_init 50 = .ok (.iastore, 1) := by decide +kernel
theorem dX8_init_51 : decode cX8_init 51 = .ok (.iinc 1 1, 3) := by decide +kernel
theorem dX8_init_54 : decode cX8_init 54 = .ok (.goto (-16), 3) := by decide +kernel
theorem dX8_init_57 : decode cX8_init 57 = .ok (.return_, 1) := by decide +kernel
theorem dX8_stateAt_0 : decode cX8_stateAt 0 = .ok (.aload_n 0, 1) := by decide +kernel
theorem dX8_stateAt_1 : decode cX8_stateAt 1 = .ok (.getfield 9, 3) := by decide +kernel
theorem dX8_stateAt_4 : decode cX8_stateAt 4 = .ok (.iload_n 1, 1) := by decide +kernel
theorem dX8_stateAt_5 : decode cX8_stateAt 5 = .ok (.iaload, 1) := by decide +kernel
theorem dX8_stateAt_6 : decode cX8_stateAt 6 = .ok (.istore_n 2, 1) := by decide +kernel
theorem dX8_stateAt_7 : decode cX8_stateAt 7 = .ok (.aload_n 0, 1) := by decide +kernel
theorem dX8_stateAt_8 : decode cX8_stateAt 8 = .ok (.iload_n 2, 1) := by decide +kernel
theorem dX8_stateAt_9 : decode cX8_stateAt 9 = .ok (.iconst (-1), 1) := by decide +kernel
theorem dX8_stateAt_10 : decode cX8_stateAt 10 = .ok (.if_icmp .ne 16, 3) := by decide +kernel
theorem dX8_stateAt_13 : decode cX8_stateAt 13 = .ok (.aload_n 0, 1) := by decide +kernel
theorem dX8_stateAt_14 : decode cX8_stateAt 14 = .ok (.getfield 23, 3) := by decide +kernel
theorem dX8_stateAt_17 : decode cX8_stateAt 17 = .ok (.iconst 1, 1) := by decide +kernel
theorem dX8_stateAt_18 : decode cX8_stateAt 18 = .ok (.iadd, 1) := by decide +kernel
theorem dX8_stateAt_19 : decode cX8_stateAt 19 = .ok (.iconst 3, 1) := by decide +kernel
theorem dX8_stateAt_20 : decode cX8_stateAt 20 = .ok (.invokestatic 30, 3) := by decide +kernel
theorem dX8_stateAt_23 : decode cX8_stateAt 23 = .ok (.goto 4, 3) := by decide +kernel
theorem dX8_stateAt_26 : decode cX8_stateAt 26 = .ok (.iconst 0, 1) := by decide +kernel
theorem dX8_stateAt_27 : decode cX8_stateAt 27 = .ok (.putfield 23, 3) := by decide +kernel
theorem dX8_stateAt_30 : decode cX8_stateAt 30 = .ok (.iload_n 2, 1) := by decide +kernel
theorem dX8_stateAt_31 : decode cX8_stateAt 31 = .ok (.aload_n 0, 1) := by decide +kernel
theorem dX8_stateAt_32 : decode cX8_stateAt 32 = .ok (.getfield 19, 3) := by decide +kernel
theorem dX8_stateAt_35 : decode cX8_stateAt 35 = .ok (.if_icmp .ge 11, 3) := by decide +kernel
theorem dX8_stateAt_38 : decode cX8_stateAt 38 = .ok (.aload_n 0, 1) := by decide +kernel
theorem dX8_stateAt_39 : decode cX8_stateAt 39 = .ok (.getfield 23, 3) := by decide +kernel
theorem dX8_stateAt_42 : decode cX8_stateAt 42 = .ok (.iconst 3, 1) := by decide +kernel
theorem dX8_stateAt_43 : decode cX8_stateAt 43 = .ok (.if_icmp .lt 11, 3) := by decide +kernel
theorem dX8_stateAt_46 : decode cX8_stateAt 46 = .ok (.aload_n 0, 1) := by decide +kernel
theorem dX8_stateAt_47 : decode cX8_stateAt 47 = .ok (.iconst 1, 1) := by decide +kernel
theorem dX8_stateAt_48 : decode cX8_stateAt 48 = .ok (.putfield 26, 3) := by decide +kernel
theorem dX8_stateAt_51 : decode cX8_stateAt 51 = .ok (.goto 23, 3) := by decide +kernel
theorem dX8_stateAt_54 : decode cX8_stateAt 54 = .ok (.iload_n 2, 1) := by decide +kernel
theorem dX8_stateAt_55 : decode cX8_stateAt 55 = .ok (.iconst (-1), 1) := by decide +kernel
theorem dX8_stateAt_56 : decode cX8_stateAt 56 = .ok (.if_icmp .eq 18, 3) := by decide +kernel
theorem dX8_stateAt_59 : decode cX8_stateAt 59 = .ok (.iload_n 2, 1) := by decide +kernel
theorem dX8_stateAt_60 : decode cX8_stateAt 60 = .ok (.aload_n 0, 1) := by decide +kernel
theorem dX8_stateAt_61 : decode cX8_stateAt 61 = .ok (.getfield 19, 3) := by decide +kernel
theorem dX8_stateAt_64 : decode cX8_stateAt 64 = .ok (.iconst 2, 1) := by decide +kernel
theorem dX8_stateAt_65 : decode cX8_stateAt 65 = .ok (.idiv, 1) := by decide +kernel
theorem dX8_stateAt_66 : decode cX8_stateAt 66 = .ok (.if_icmp .ge 8, 3) := by decide +kernel
theorem dX8_stateAt_69 : decode cX8_stateAt 69 = .ok (.aload_n 0, 1) := by decide +kernel
theorem dX8_stateAt_70 : decode cX8_stateAt 70 = .ok (.iconst 0, 1) := by decide +kernel
theorem dX8_stateAt_71 : decode cX8_stateAt 71 = .ok (.putfield 26, 3) := by decide +kernel
theorem dX8_stateAt_74 : decode cX8_stateAt 74 = .ok (.aload_n 0, 1) := by decide +kernel
theorem dX8_stateAt_75 : decode cX8_stateAt 75 = .ok (.getfield 26, 3) := by decide +kernel
theorem dX8_stateAt_78 : decode cX8_stateAt 78 = .ok (.ifCond .eq 5, 3) := by decide +kernel
theorem dX8_stateAt_81 : decode cX8_stateAt 81 = .ok (.iconst 2, 1) := by decide +kernel
theorem dX8_stateAt_82 : decode cX8_stateAt 82 = .ok (.ireturn, 1) := by decide +kernel
theorem dX8_stateAt_83 : decode cX8_stateAt 83 = .ok (.aload_n 0, 1) := by decide +kernel
theorem dX8_stateAt_84 : decode cX8_stateAt 84 = .ok (.getfield 15, 3) := by decide +kernel
theorem dX8_stateAt_87 : decode cX8_stateAt 87 = .ok (.iload_n 1, 1) := by decide +kernel
theorem dX8_stateAt_88 : decode cX8_stateAt 88 = .ok (.baload, 1) := by decide +kernel
theorem dX8_stateAt_89 : decode cX8_stateAt 89 = .ok (.ifCond .eq 7, 3) := by decide +kernel
theorem dX8_stateAt_92 : decode cX8_stateAt 92 = .ok (.iconst 1, 1) := by decide +kernel
theorem dX8_stateAt_93 : decode cX8_stateAt 93 = .ok (.goto 4, 3) := by decide +kernel
theorem dX8_stateAt_96 : decode cX8_stateAt 96 = .ok (.iconst 0, 1) := by decide +kernel
theorem dX8_stateAt_97 : decode cX8_stateAt 97 = .ok (.ireturn, 1) := by decide +kernel
theorem dX9_init_0 : decode cX9_init 0 = .ok (.aload_n 0, 1) := by decide +kernel
theorem dX9_init_1 : decode cX9_init 1 = .ok (.invokespecial 1, 3) := by decide +kernel
theorem dX9_init_4 : decode cX9_init 4 = .ok (.aload_n 0, 1) := by decide +kernel
theorem dX9_init_5 : decode cX9_init 5 = .ok (.new 7, 3) := by decide +kernel
theorem dX9_init_8 : decode cX9_init 8 = .ok (.dup, 1) := by decide +kernel
theorem dX9_init_9 : decode cX9_init 9 = .ok (.invokespecial 9, 3) := by decide +kernel
theorem dX9_init_12 : decode cX9_init 12 = .ok (.putfield 10, 3) := by decide +kernel
theorem dX9_init_15 : decode cX9_init 15 = .ok (.aload_n 0, 1) := by decide +kernel
theorem dX9_init_16 : decode cX9_init 16 = .ok (.new 16, 3) := by decide +kernel
theorem dX9_init_19 : decode cX9_init 19 = .ok (.dup, 1) := by decide +kernel
theorem dX9_init_20 : decode cX9_init 20 = .ok (.invokespecial 18, 3) := by decide +kernel
theorem dX9_init_23 : decode cX9_init 23 = .ok (.putfield 19, 3) := by decide +kernel
theorem dX9_init_26 : decode cX9_init 26 = .ok (.aload_n 0, 1) := by decide +kernel
theorem dX9_init_27 : decode cX9_init 27 = .ok (.new 23, 3) := by decide +kernel
theorem dX9_init_30 : decode cX9_init 30 = .ok (.dup, 1) := by decide +kernel
theorem dX9_init_31 : decode cX9_init 31 = .ok (.invokespecial 25, 3) := by decide +kernel
theorem dX9_init_34 : decode cX9_init 34 = .ok (.putfield 26, 3) := by decide +kernel
theorem dX9_init_37 : decode cX9_init 37 = .ok (.aload_n 0, 1) := by decide +kernel
theorem dX9_init_38 : decode cX9_init 38 = .ok (.new 30, 3) := by decide +kernel
theorem dX9_init_41 : decode cX9_init 41 = .ok (.dup, 1) := by decide +kernel
theorem dX9_init_42 : decode cX9_init 42 = .ok (.invokespecial 32, 3) := by decide +kernel
theorem dX9_init_45 : decode cX9_init 45 = .ok (.putfield 33, 3) := by decide +kernel
theorem dX9_init_48 : decode cX9_init 48 = .ok (.aload_n 0, 1) := by decide +kernel
theorem dX9_init_49 : decode cX9_init 49 = .ok (.new 37, 3) := by decide +kernel
theorem dX9_init_52 : decode cX9_init 52 = .ok (.dup, 1) := by decide +kernel
theorem dX9_init_53 : decode cX9_init 53 = .ok (.invokespecial 39, 3) := by decide +kernel
theorem dX9_init_56 : decode cX9_init 56 = .ok (.putfield 40, 3) := by decide +kernel
theorem dX9_init_59 : decode cX9_init 59 = .ok (.aload_n 0, 1) := by decide +kernel
theorem dX9_init_60 : decode cX9_init 60 = .ok (.new 44, 3) := by decide +kernel
theorem dX9_init_63 : decode cX9_init 63 = .ok (.dup, 1) := by decide +kernel
theorem dX9_init_64 : decode cX9_init 64 = .ok (.invokespecial 46, 3) := by decide +kernel
theorem dX9_init_67 : decode cX9_init 67 = .ok (.putfield 47, 3) := by decide +kernel
theorem dX9_init_70 : decode cX9_init 70 = .ok (.aload_n 0, 1) := by decide +kernel
theorem dX9_init_71 : decode cX9_init 71 = .ok (.new 51, 3) := by decide +kernel
theorem dX9_init_74 : decode cX9_init 74 = .ok (.dup, 1) := by decide +kernel
theorem dX9_init_75 : decode cX9_init 75 = .ok (.invokespecial 53, 3) := by decide +kernel
theorem dX9_init_78 : decode cX9_init 78 = .ok (.putfield 54, 3) := by decide +kernel
theorem dX9_init_81 : decode cX9_init 81 = .ok (.aload_n 0, 1) := by decide +kernel
theorem dX9_init_82 : decode cX9_init 82 = .ok (.iconst 5, 1) := by decide +kernel
theorem dX9_init_83 : decode cX9_init 83 = .ok (.newarray .int, 2) := by decide +kernel
theorem dX9_init_85 : decode cX9_init 85 = .ok (.putfield 58, 3) := by decide +kernel
theorem dX9_init_88 : decode cX9_init 88 = .ok (.aload_n 0, 1) := by decide +kernel
theorem dX9_init_89 : decode cX9_init 89 = .ok (.iconst 0, 1) := by decide +kernel
theorem dX9_init_90 : decode cX9_init 90 = .ok (.putfield 62, 3) := by decide +kernel
theorem dX9_init_93 : decode cX9_init 93 = .ok (.aload_n 0, 1) := by decide +kernel
theorem dX9_init_94 : decode cX9_init 94 = .ok (.iconst 0, 1) := by decide +kernel
theorem dX9_init_95 : decode cX9_init 95 = .ok (.putfield 66, 3) := by decide +kernel
theorem dX9_init_98 : decode cX9_init 98 = .ok (.return_, 1) := by decide +kernel
theorem dX9_row_0 : decode cX9_row 0 = .ok (.iload_n 1, 1) := by decide +kernel
theorem dX9_row_1 : decode cX9_row 1 = .ok (.invokestatic 69, 3) := by decide +kernel
theorem dX9_row_4 : decode cX9_row 4 = .ok (.ifCond .eq 53, 3) := by decide +kernel
theorem dX9_row_7 : decode cX9_row 7 = .ok (.iload_n 3, 1) := by decide +kernel
theorem dX9_row_8 : decode cX9_row 8 = .ok (.sipush (-1000), 3) := by decide +kernel
theorem dX9_row_11 : decode cX9_row 11 = .ok (.sipush 1000, 3) := by decide +kernel
theorem dX9_row_14 : decode cX9_row 14 = .ok (.invokestatic 73, 3) := by decide +kernel
theorem dX9_row_17 : decode cX9_row 17 = .ok (.ifCond .eq 40, 3) := by decide +kernel
theorem dX9_row_20 : decode cX9_row 20 = .ok (.iload 4, 2) := by decide +kernel
theorem dX9_row_22 : decode cX9_row 22 = .ok (.bipush 10, 2) := by decide +kernel
theorem dX9_row_24 : decode cX9_row 24 = .ok (.sipush 400, 3) := by decide +kernel
theorem dX9_row_27 : decode cX9_row 27 = .ok (.invokestatic 73, 3) := by decide +kernel
theorem dX9_row_30 : decode cX9_row 30 = .ok (.ifCond .eq 27, 3) := by decide +kernel
theorem dX9_row_33 : decode cX9_row 33 = .ok (.iload_n 1, 1) := by decide +kernel
theorem dX9_row_34 : decode cX9_row 34 = .ok (.iconst 1, 1) := by decide +kernel
theorem dX9_row_35 : decode cX9_row 35 = .ok (.if_icmp .ne 11, 3) := by decide +kernel
theorem dX9_row_38 : decode cX9_row 38 = .ok (.iload 5, 2) := by decide +kernel
theorem dX9_row_40 : decode cX9_row 40 = .ok (.invokestatic 77, 3) := by decide +kernel
theorem dX9_row_43 : decode cX9_row 43 = .ok (.ifCond .eq 14, 3) := by decide +kernel
theorem dX9_row_46 : decode cX9_row 46 = .ok (.iload_n 2, 1) := by decide +kernel
theorem dX9_row_47 : decode cX9_row 47 = .ok (.iconst 0, 1) := by decide +kernel
theorem dX9_row_48 : decode cX9_row 48 = .ok (.sipush 10000, 3) := by decide +kernel
theorem dX9_row_51 : decode cX9_row 51 = .ok (.invokestatic 73, 3) := by decide +kernel
theorem dX9_row_54 : decode cX9_row 54 = .ok (.ifCond .ne 10, 3) := by decide +kernel
theorem dX9_row_57 : decode cX9_row 57 = .ok (.aload_n 0, 1) := by decide +kernel
theorem dX9_row_58 : decode cX9_row 58 = .ok (.ldc 80, 2) := by decide +kernel
theorem dX9_row_60 : decode cX9_row 60 = .ok (.invokevirtual 81, 3) := by decide +kernel
theorem dX9_row_63 : decode cX9_row 63 = .ok (.ireturn, 1) := by decide +kernel
theorem dX9_row_64 : decode cX9_row 64 = .ok (.aload_n 0, 1) := by decide +kernel
theorem dX9_row_65 : decode cX9_row 65 = .ok (.getfield 10, 3) := by decide +kernel
theorem dX9_row_68 : decode cX9_row 68 = .ok (.iload_n 2, 1) := by decide +kernel
theorem dX9_row_69 : decode cX9_row 69 = .ok (.invokevirtual 85, 3) := by decide +kernel
theorem dX9_row_72 : decode cX9_row 72 = .ok (.ifCond .ne 10, 3) := by decide +kernel
theorem dX9_row_75 : decode cX9_row 75 = .ok (.aload_n 0, 1) := by decide +kernel
theorem dX9_row_76 : decode cX9_row 76 = .ok (.ldc 88, 2) := by decide +kernel
theorem dX9_row_78 : decode cX9_row 78 = .ok (.invokevirtual 81, 3) := by decide +kernel
theorem dX9_row_81 : decode cX9_row 81 = .ok (.ireturn, 1) := by decide +kernel
theorem dX9_row_82 : decode cX9_row 82 = .ok (.aload_n 0, 1) := by decide +kernel
theorem dX9_row_83 : decode cX9_row 83 = .ok (.getfield 10, 3) := by decide +kernel
theorem dX9_row_86 : decode cX9_row 86 = .ok (.getfield 89, 3) := by decide +kernel
theorem dX9_row_89 : decode cX9_row 89 = .ok (.bipush 10, 2) := by decide +kernel
theorem dX9_row_91 : decode cX9_row 91 = .ok (.if_icmp .lt 10, 3) := by decide +kernel
theorem dX9_row_94 : decode cX9_row 94 = .ok (.aload_n 0, 1) := by decide +kernel
theorem dX9_row_95 : decode cX9_row 95 = .ok (.ldc 92, 2) := by decide +kernel
theorem dX9_row_97 : decode cX9_row 97 = .ok (.invokevirtual 81, 3) := by decide +kernel
theorem dX9_row_100 : decode cX9_row 100 = .ok (.ireturn, 1) := by decide +kernel
theorem dX9_row_101 : decode cX9_row 101 = .ok (.aload_n 0, 1) := by decide +kernel
theorem dX9_row_102 : decode cX9_row 102 = .ok (.getfield 10, 3) := by decide +kernel
theorem dX9_row_105 : decode cX9_row 105 = .ok (.getfield 93, 3) := by decide +kernel
theorem dX9_row_108 : decode cX9_row 108 = .ok (.aload_n 0, 1) := by decide +kernel
theorem dX9_row_109 : decode cX9_row 109 = .ok (.getfield 10, 3) := by decide +kernel
theorem dX9_row_112 : decode cX9_row 112 = .ok (.getfield 89, 3) := by decide +kernel
theorem dX9_row_115 : decode cX9_row 115 = .ok (.aaload, 1) := by decide +kernel
theorem dX9_row_116 : decode cX9_row 116 = .ok (.astore 6, 2) := by decide +kernel
theorem dX9_row_118 : decode cX9_row 118 = .ok (.aload 6, 2) := by decide +kernel
theorem dX9_row_120 : decode cX9_row 120 = .ok (.iload_n 1, 1) := by decide +kernel
theorem dX9_row_121 : decode cX9_row 121 = .ok (.iload_n 2, 1) := by decide +kernel
theorem dX9_row_122 : decode cX9_row 122 = .ok (.iload_n 3, 1) := by decide +kernel
theorem dX9_row_123 : decode cX9_row 123 = .ok (.iload 4, 2) := by decide +kernel
theorem dX9_row_125 : decode cX9_row 125 = .ok (.iload 5, 2) := by decide +kernel
theorem dX9_row_127 : decode cX9_row 127 = .ok (.invokevirtual 97, 3) := by decide +kernel
theorem dX9_row_130 : decode cX9_row 130 = .ok (.aload_n 0, 1) := by decide +kernel
theorem dX9_row_131 : decode cX9_row 131 = .ok (.getfield 10, 3) := by decide +kernel
theorem dX9_row_134 : decode cX9_row 134 = .ok (.dup, 1) := by decide +kernel
theorem dX9_row_135 : decode cX9_row 135 = .ok (.getfield 89, 3) := by decide +kernel
theorem dX9_row_138 : decode cX9_row 138 = .ok (.iconst 1, 1) := by decide +kernel
theorem dX9_row_139 : decode cX9_row 139 = .ok (.iadd, 1) := by decide +kernel
theorem dX9_row_140 : decode cX9_row 140 = .ok (.putfield 89, 3) := by decide +kernel
theorem dX9_row_143 : decode cX9_row 143 = .ok (.aload_n 0, 1) := by decide +kernel
theorem dX9_row_144 : decode cX9_row 144 = .ok (.getfield 10, 3) := by decide +kernel
theorem dX9_row_147 : decode cX9_row 147 = .ok (.getfield 89, 3) := by decide +kernel
theorem dX9_row_150 : decode cX9_row 150 = .ok (.iconst 1, 1) := by decide +kernel
theorem dX9_row_151 : decode cX9_row 151 = .ok (.isub, 1) := by decide +kernel
theorem dX9_row_152 : decode cX9_row 152 = .ok (.ireturn, 1) := by decide +kernel
theorem dX9_drop_0 : decode cX9_drop 0 = .ok (.aload_n 0, 1) := by decide +kernel
theorem dX9_drop_1 : decode cX9_drop 1 = .ok (.getfield 10, 3) := by decide +kernel
theorem dX9_drop_4 : decode cX9_drop 4 = .ok (.getfield 89, 3) := by decide +kernel
theorem dX9_drop_7 : decode cX9_drop 7 = .ok (.ifCond .gt 10, 3) := by decide +kernel
theorem dX9_drop_10 : decode cX9_drop 10 = .ok (.aload_n 0, 1) := by decide +kernel
theorem dX9_drop_11 : decode cX9_drop 11 = .ok (.ldc 103, 2) := by decide +kernel
theorem dX9_drop_13 : decode cX9_drop 13 = .ok (.invokevirtual 81, 3) := by decide +kernel
theorem dX9_drop_16 : decode cX9_drop 16 = .ok (.ireturn, 1) := by decide +kernel
theorem dX9_drop_17 : decode cX9_drop 17 = .ok (.aload_n 0, 1) := by decide +kernel
theorem dX9_drop_18 : decode cX9_drop 18 = .ok (.getfield 10, 3) := by decide +kernel
theorem dX9_drop_21 : decode cX9_drop 21 = .ok (.dup, 1) := by decide +kernel
theorem dX9_drop_22 : decode cX9_drop 22 = .ok (.getfield 89, 3) := by decide +kernel
theorem dX9_drop_25 : decode cX9_drop 25 = .ok (.iconst 1, 1) := by decide +kernel
theorem dX9_drop_26 : decode cX9_drop 26 = .ok (.isub, 1) := by decide +kernel
theorem dX9_drop_27 : decode cX9_drop 27 = .ok (.putfield 89, 3) := by decide +kernel
theorem dX9_drop_30 : decode cX9_drop 30 = .ok (.aload_n 0, 1) := by decide +kernel
theorem dX9_drop_31 : decode cX9_drop 31 = .ok (.getfield 10, 3) := by decide +kernel
theorem dX9_drop_34 : decode cX9_drop 34 = .ok (.getfield 89, 3) := by decide +kernel
theorem dX9_drop_37 : decode cX9_drop 37 = .ok (.ireturn, 1) := by decide +kernel
theorem dX9_about_0 : decode cX9_about 0 = .ok (.aload_n 0, 1) := by decide +kernel
theorem dX9_about_1 : decode cX9_about 1 = .ok (.iload_n 1, 1) := by decide +kernel
theorem dX9_about_2 : decode cX9_about 2 = .ok (.invokevirtual 104, 3) := by decide +kernel
theorem dX9_about_5 : decode cX9_about 5 = .ok (.ifCond .ne 10, 3) := by decide +kernel
theorem dX9_about_8 : decode cX9_about 8 = .ok (.aload_n 0, 1) := by decide +kernel
theorem dX9_about_9 : decode cX9_about 9 = .ok (.ldc 80, 2) := by decide +kernel
theorem dX9_about_11 : decode cX9_about 11 = .ok (.invokevirtual 81, 3) := by decide +kernel
theorem dX9_about_14 : decode cX9_about 14 = .ok (.ireturn, 1) := by decide +kernel
theorem dX9_about_15 : decode cX9_about 15 = .ok (.aload_n 0, 1) := by decide +kernel
theorem dX9_about_16 : decode cX9_about 16 = .ok (.getfield 10, 3) := by decide +kernel
theorem dX9_about_19 : decode cX9_about 19 = .ok (.getfield 93, 3) := by decide +kernel
theorem dX9_about_22 : decode cX9_about 22 = .ok (.iload_n 1, 1) := by decide +kernel
theorem dX9_about_23 : decode cX9_about 23 = .ok (.aaload, 1) := by decide +kernel
theorem dX9_about_24 : decode cX9_about 24 = .ok (.astore_n 3, 1) := by decide +kernel
theorem dX9_about_25 : decode cX9_about 25 = .ok (.iload_n 2, 1) := by decide +kernel
theorem dX9_about_26 : decode cX9_about 26 = .ok (.tableswitch 77 0 6 #[42, 47, 52, 57, 62, 67, 72], 42) := by decide +kernel
theorem dX9_about_68 : decode cX9_about 68 = .ok (.aload_n 3, 1) := by decide +kernel
theorem dX9_about_69 : decode cX9_about 69 = .ok (.getfield 107, 3) := by decide +kernel
theorem dX9_about_72 : decode cX9_about 72 = .ok (.ireturn, 1) := by decide +kernel
theorem dX9_about_73 : decode cX9_about 73 = .ok (.aload_n 3, 1) := by decide +kernel
theorem dX9_about_74 : decode cX9_about 74 = .ok (.getfield 110, 3) := by decide +kernel
theorem dX9_about_77 : decode cX9_about 77 = .ok (.ireturn, 1) := by decide +kernel
theorem dX9_about_78 : decode cX9_about 78 = .ok (.aload_n 3, 1) := by decide +kernel
theorem dX9_about_79 : decode cX9_about 79 = .ok (.getfield 113, 3) := by decide +kernel
theorem dX9_about_82 : decode cX9_about 82 = .ok (.ireturn, 1) := by decide +kernel
theorem dX9_about_83 : decode cX9_about 83 = .ok (.aload_n 3, 1) := by decide +kernel
theorem dX9_about_84 : decode cX9_about 84 = .ok (.getfield 116, 3) := by decide +kernel
theorem dX9_about_87 : decode cX9_about 87 = .ok (.ireturn, 1) := by decide +kernel
theorem dX9_about_88 : decode cX9_about 88 = .ok (.aload_n 3, 1) := by decide +kernel
theorem dX9_about_89 : decode cX9_about 89 = .ok (.getfield 119, 3) := by decide +kernel
theorem dX9_about_92 : decode cX9_about 92 = .ok (.ireturn, 1) := by decide +kernel
theorem dX9_about_93 : decode cX9_about 93 = .ok (.aload_n 3, 1) := by decide +kernel
theorem dX9_about_94 : decode cX9_about 94 = .ok (.getfield 122, 3) := by decide +kernel
theorem dX9_about_97 : decode cX9_about 97 = .ok (.ireturn, 1) := by decide +kernel
theorem dX9_about_98 : decode cX9_about 98 = .ok (.aload_n 3, 1) := by decide +kernel
theorem dX9_about_99 : decode cX9_about 99 = .ok (.getfield 125, 3) := by decide +kernel
theorem dX9_about_102 : decode cX9_about 102 = .ok (.ireturn, 1) := by decide +kernel
theorem dX9_about_103 : decode cX9_about 103 = .ok (.aload_n 0, 1) := by decide +kernel
theorem dX9_about_104 : decode cX9_about 104 = .ok (.ldc 80, 2) := by decide +kernel
theorem dX9_about_106 : decode cX9_about 106 = .ok (.invokevirtual 81, 3) := by decide +kernel
theorem dX9_about_109 : decode cX9_about 109 = .ok (.ireturn, 1) := by decide +kernel
theorem dX9_as_0 : decode cX9_as 0 = .ok (.aload_n 0, 1) := by decide +kernel
theorem dX9_as_1 : decode cX9_as 1 = .ok (.iload_n 1, 1) := by decide +kernel
theorem dX9_as_2 : decode cX9_as 2 = .ok (.invokevirtual 104, 3) := by decide +kernel
theorem dX9_as_5 : decode cX9_as 5 = .ok (.ifCond .eq 10, 3) := by decide +kernel
theorem dX9_as_8 : decode cX9_as 8 = .ok (.iload_n 2, 1) := by decide +kernel
theorem dX9_as_9 : decode cX9_as 9 = .ok (.invokestatic 69, 3) := by decide +kernel
theorem dX9_as_12 : decode cX9_as 12 = .ok (.ifCond .ne 10, 3) := by decide +kernel
theorem dX9_as_15 : decode cX9_as 15 = .ok (.aload_n 0, 1) := by decide +kernel
theorem dX9_as_16 : decode cX9_as 16 = .ok (.ldc 80, 2) := by decide +kernel
theorem dX9_as_18 : decode cX9_as 18 = .ok (.invokevirtual 81, 3) := by decide +kernel
theorem dX9_as_21 : decode cX9_as 21 = .ok (.ireturn, 1) := by decide +kernel
theorem dX9_as_22 : decode cX9_as 22 = .ok (.aload_n 0, 1) := by decide +kernel
theorem dX9_as_23 : decode cX9_as 23 = .ok (.getfield 10, 3) := by decide +kernel
theorem dX9_as_26 : decode cX9_as 26 = .ok (.getfield 93, 3) := by decide +kernel
theorem dX9_as_29 : decode cX9_as 29 = .ok (.iload_n 1, 1) := by decide +kernel
theorem dX9_as_30 : decode cX9_as 30 = .ok (.aaload, 1) := by decide +kernel
theorem dX9_as_31 : decode cX9_as 31 = .ok (.astore_n 3, 1) := by decide +kernel
theorem dX9_as_32 : decode cX9_as 32 = .ok (.aload_n 3, 1) := by decide +kernel
theorem dX9_as_33 : decode cX9_as 33 = .ok (.iload_n 2, 1) := by decide +kernel
theorem dX9_as_34 : decode cX9_as 34 = .ok (.invokevirtual 128, 3) := by decide +kernel
theorem dX9_as_37 : decode cX9_as 37 = .ok (.ifCond .ne 10, 3) := by decide +kernel
theorem dX9_as_40 : decode cX9_as 40 = .ok (.aload_n 0, 1) := by decide +kernel
theorem dX9_as_41 : decode cX9_as 41 = .ok (.ldc 131, 2) := by decide +kernel
theorem dX9_as_43 : decode cX9_as 43 = .ok (.invokevirtual 81, 3) := by decide +kernel
theorem dX9_as_46 : decode cX9_as 46 = .ok (.ireturn, 1) := by decide +kernel
theorem dX9_as_47 : decode cX9_as 47 = .ok (.aload_n 3, 1) := by decide +kernel
theorem dX9_as_48 : decode cX9_as 48 = .ok (.getfield 122, 3) := by decide +kernel
theorem dX9_as_51 : decode cX9_as 51 = .ok (.ireturn, 1) := by decide +kernel
theorem dX9_turn_0 : decode cX9_turn 0 = .ok (.aload_n 0, 1) := by decide +kernel
theorem dX9_turn_1 : decode cX9_turn 1 = .ok (.iload_n 1, 1) := by decide +kernel
theorem dX9_turn_2 : decode cX9_turn 2 = .ok (.invokevirtual 104, 3) := by decide +kernel
theorem dX9_turn_5 : decode cX9_turn 5 = .ok (.ifCond .eq 10, 3) := by decide +kernel
theorem dX9_turn_8 : decode cX9_turn 8 = .ok (.iload_n 2, 1) := by decide +kernel
theorem dX9_turn_9 : decode cX9_turn 9 = .ok (.invokestatic 77, 3) := by decide +kernel
theorem dX9_turn_12 : decode cX9_turn 12 = .ok (.ifCond .ne 10, 3) := by decide +kernel
theorem dX9_turn_15 : decode cX9_turn 15 = .ok (.aload_n 0, 1) := by decide +kernel
theorem dX9_turn_16 : decode cX9_turn 16 = .ok (.ldc 80, 2) := by decide +kernel
theorem dX9_turn_18 : decode cX9_turn 18 = .ok (.invokevirtual 81, 3) := by decide +kernel
theorem dX9_turn_21 : decode cX9_turn 21 = .ok (.ireturn, 1) := by decide +kernel
theorem dX9_turn_22 : decode cX9_turn 22 = .ok (.aload_n 0, 1) := by decide +kernel
theorem dX9_turn_23 : decode cX9_turn 23 = .ok (.getfield 10, 3) := by decide +kernel
theorem dX9_turn_26 : decode cX9_turn 26 = .ok (.getfield 93, 3) := by decide +kernel
theorem dX9_turn_29 : decode cX9_turn 29 = .ok (.iload_n 1, 1) := by decide +kernel
theorem dX9_turn_30 : decode cX9_turn 30 = .ok (.aaload, 1) := by decide +kernel
theorem dX9_turn_31 : decode cX9_turn 31 = .ok (.astore_n 3, 1) := by decide +kernel
theorem dX9_turn_32 : decode cX9_turn 32 = .ok (.aload_n 3, 1) := by decide +kernel
theorem dX9_turn_33 : decode cX9_turn 33 = .ok (.getfield 107, 3) := by decide +kernel
theorem dX9_turn_36 : decode cX9_turn 36 = .ok (.iconst 1, 1) := by decide +kernel
theorem dX9_turn_37 : decode cX9_turn 37 = .ok (.if_icmp .ne 10, 3) := by decide +kernel
theorem dX9_turn_40 : decode cX9_turn 40 = .ok (.aload_n 0, 1) := by decide +kernel
theorem dX9_turn_41 : decode cX9_turn 41 = .ok (.ldc 131, 2) := by decide +kernel
theorem dX9_turn_43 : decode cX9_turn 43 = .ok (.invokevirtual 81, 3) := by decide +kernel
theorem dX9_turn_46 : decode cX9_turn 46 = .ok (.ireturn, 1) := by decide +kernel
theorem dX9_turn_47 : decode cX9_turn 47 = .ok (.aload_n 3, 1) := by decide +kernel
theorem dX9_turn_48 : decode cX9_turn 48 = .ok (.getfield 122, 3) := by decide +kernel
theorem dX9_turn_51 : decode cX9_turn 51 = .ok (.istore 4, 2) := by decide +kernel
theorem dX9_turn_53 : decode cX9_turn 53 = .ok (.aload_n 3, 1) := by decide +kernel
theorem dX9_turn_54 : decode cX9_turn 54 = .ok (.iload_n 2, 1) := by decide +kernel
theorem dX9_turn_55 : decode cX9_turn 55 = .ok (.putfield 122, 3) := by decide +kernel
theorem dX9_turn_58 : decode cX9_turn 58 = .ok (.iload 4, 2) := by decide +kernel
theorem dX9_turn_60 : decode cX9_turn 60 = .ok (.ireturn, 1) := by decide +kernel
theorem dX9_dust_0 : decode cX9_dust 0 = .ok (.aload_n 0, 1) := by decide +kernel
theorem dX9_dust_1 : decode cX9_dust 1 = .ok (.iload_n 1, 1) := by decide +kernel
theorem dX9_dust_2 : decode cX9_dust 2 = .ok (.invokevirtual 104, 3) := by decide +kernel
theorem dX9_dust_5 : decode cX9_dust 5 = .ok (.ifCond .eq 14, 3) := by decide +kernel
theorem dX9_dust_8 : decode cX9_dust 8 = .ok (.iload_n 2, 1) := by decide +kernel
theorem dX9_dust_9 : decode cX9_dust 9 = .ok (.iconst 0, 1) := by decide +kernel
theorem dX9_dust_10 : decode cX9_dust 10 = .ok (.sipush 1000, 3) := by decide +kernel
theorem dX9_dust_13 : decode cX9_dust 13 = .ok (.invokestatic 73, 3) := by decide +kernel
theorem dX9_dust_16 : decode cX9_dust 16 = .ok (.ifCond .ne 10, 3) := by decide +kernel
theorem dX9_dust_19 : decode cX9_dust 19 = .ok (.aload_n 0, 1) := by decide +kernel
theorem dX9_dust_20 : decode cX9_dust 20 = .ok (.ldc 80, 2) := by decide +kernel
theorem dX9_dust_22 : decode cX9_dust 22 = .ok (.invokevirtual 81, 3) := by decide +kernel
theorem dX9_dust_25 : decode cX9_dust 25 = .ok (.ireturn, 1) := by decide +kernel
theorem dX9_dust_26 : decode cX9_dust 26 = .ok (.aload_n 0, 1) := by decide +kernel
theorem dX9_dust_27 : decode cX9_dust 27 = .ok (.getfield 10, 3) := by decide +kernel
theorem dX9_dust_30 : decode cX9_dust 30 = .ok (.getfield 93, 3) := by decide +kernel
theorem dX9_dust_33 : decode cX9_dust 33 = .ok (.iload_n 1, 1) := by decide +kernel
theorem dX9_dust_34 : decode cX9_dust 34 = .ok (.aaload, 1) := by decide +kernel
theorem dX9_dust_35 : decode cX9_dust 35 = .ok (.astore_n 3, 1) := by decide +kernel
theorem dX9_dust_36 : decode cX9_dust 36 = .ok (.aload_n 3, 1) := by decide +kernel
theorem dX9_dust_37 : decode cX9_dust 37 = .ok (.getfield 119, 3) := by decide +kernel
theorem dX9_dust_40 : decode cX9_dust 40 = .ok (.istore 4, 2) := by decide +kernel
theorem dX9_dust_42 : decode cX9_dust 42 = .ok (.aload_n 3, 1) := by decide +kernel
theorem dX9_dust_43 : decode cX9_dust 43 = .ok (.iload_n 2, 1) := by decide +kernel
theorem dX9_dust_44 : decode cX9_dust 44 = .ok (.putfield 119, 3) := by decide +kernel
theorem dX9_dust_47 : decode cX9_dust 47 = .ok (.iload 4, 2) := by decide +kernel
theorem dX9_dust_49 : decode cX9_dust 49 = .ok (.ireturn, 1) := by decide +kernel
theorem dX9_sun_0 : decode cX9_sun 0 = .ok (.iload_n 1, 1) := by decide +kernel
theorem dX9_sun_1 : decode cX9_sun 1 = .ok (.iload_n 2, 1) := by decide +kernel
theorem dX9_sun_2 : decode cX9_sun 2 = .ok (.iload_n 3, 1) := by decide +kernel
theorem dX9_sun_3 : decode cX9_sun 3 = .ok (.invokestatic 132, 3) := by decide +kernel
theorem dX9_sun_6 : decode cX9_sun 6 = .ok (.ifCond .ne 10, 3) := by decide +kernel
theorem dX9_sun_9 : decode cX9_sun 9 = .ok (.aload_n 0, 1) := by decide +kernel
theorem dX9_sun_10 : decode cX9_sun 10 = .ok (.ldc 80, 2) := by decide +kernel
theorem dX9_sun_12 : decode cX9_sun 12 = .ok (.invokevirtual 81, 3) := by decide +kernel
theorem dX9_sun_15 : decode cX9_sun 15 = .ok (.ireturn, 1) := by decide +kernel
theorem dX9_sun_16 : decode cX9_sun 16 = .ok (.aload_n 0, 1) := by decide +kernel
theorem dX9_sun_17 : decode cX9_sun 17 = .ok (.getfield 19, 3) := by decide +kernel
theorem dX9_sun_20 : decode cX9_sun 20 = .ok (.iload_n 1, 1) := by decide +kernel
theorem dX9_sun_21 : decode cX9_sun 21 = .ok (.iload_n 2, 1) := by decide +kernel
theorem dX9_sun_22 : decode cX9_sun 22 = .ok (.iload_n 3, 1) := by decide +kernel
theorem dX9_sun_23 : decode cX9_sun 23 = .ok (.invokevirtual 135, 3) := by decide +kernel
theorem dX9_sun_26 : decode cX9_sun 26 = .ok (.aload_n 0, 1) := by decide +kernel
theorem dX9_sun_27 : decode cX9_sun 27 = .ok (.getfield 19, 3) := by decide +kernel
theorem dX9_sun_30 : decode cX9_sun 30 = .ok (.iload_n 1, 1) := by decide +kernel
theorem dX9_sun_31 : decode cX9_sun 31 = .ok (.invokevirtual 139, 3) := by decide +kernel
theorem dX9_sun_34 : decode cX9_sun 34 = .ok (.ifCond .eq 7, 3) := by decide +kernel
theorem dX9_sun_37 : decode cX9_sun 37 = .ok (.iconst 0, 1) := by decide +kernel
theorem dX9_sun_38 : decode cX9_sun 38 = .ok (.goto 4, 3) := by decide +kernel
theorem dX9_sun_41 : decode cX9_sun 41 = .ok (.iconst 1, 1) := by decide +kernel
theorem dX9_sun_42 : decode cX9_sun 42 = .ok (.ireturn, 1) := by decide +kernel
theorem dX9_suns_0 : decode cX9_suns 0 = .ok (.aload_n 0, 1) := by decide +kernel
theorem dX9_suns_1 : decode cX9_suns 1 = .ok (.getfield 54, 3) := by decide +kernel
theorem dX9_suns_4 : decode cX9_suns 4 = .ok (.getfield 142, 3) := by decide +kernel
theorem dX9_suns_7 : decode cX9_suns 7 = .ok (.istore_n 1, 1) := by decide +kernel
theorem dX9_suns_8 : decode cX9_suns 8 = .ok (.iload_n 1, 1) := by decide +kernel
theorem dX9_suns_9 : decode cX9_suns 9 = .ok (.iconst 3, 1) := by decide +kernel
theorem dX9_suns_10 : decode cX9_suns 10 = .ok (.irem, 1) := by decide +kernel
theorem dX9_suns_11 : decode cX9_suns 11 = .ok (.ifCond .eq 10, 3) := by decide +kernel
theorem dX9_suns_14 : decode cX9_suns 14 = .ok (.aload_n 0, 1) := by decide +kernel
theorem dX9_suns_15 : decode cX9_suns 15 = .ok (.ldc 88, 2) := by decide +kernel
theorem dX9_suns_17 : decode cX9_suns 17 = .ok (.invokevirtual 81, 3) := by decide +kernel
theorem dX9_suns_20 : decode cX9_suns 20 = .ok (.ireturn, 1) := by decide +kernel
theorem dX9_suns_21 : decode cX9_suns 21 = .ok (.aload_n 0, 1) := by decide +kernel
theorem dX9_suns_22 : decode cX9_suns 22 = .ok (.getfield 54, 3) := by decide +kernel
theorem dX9_suns_25 : decode cX9_suns 25 = .ok (.invokevirtual 145, 3) := by decide +kernel
theorem dX9_suns_28 : decode cX9_suns 28 = .ok (.iconst 0, 1) := by decide +kernel
theorem dX9_suns_29 : decode cX9_suns 29 = .ok (.istore_n 2, 1) := by decide +kernel
theorem dX9_suns_30 : decode cX9_suns 30 = .ok (.iload_n 2, 1) := by decide +kernel
theorem dX9_suns_31 : decode cX9_suns 31 = .ok (.iconst 2, 1) := by decide +kernel
theorem dX9_suns_32 : decode cX9_suns 32 = .ok (.iadd, 1) := by decide +kernel
theorem dX9_suns_33 : decode cX9_suns 33 = .ok (.iload_n 1, 1) := by decide +kernel
theorem dX9_suns_34 : decode cX9_suns 34 = .ok (.if_icmp .ge 53, 3) := by decide +kernel
theorem dX9_suns_37 : decode cX9_suns 37 = .ok (.aload_n 0, 1) := by decide +kernel
theorem dX9_suns_38 : decode cX9_suns 38 = .ok (.getfield 54, 3) := by decide +kernel
theorem dX9_suns_41 : decode cX9_suns 41 = .ok (.getfield 148, 3) := by decide +kernel
theorem dX9_suns_44 : decode cX9_suns 44 = .ok (.iload_n 2, 1) := by decide +kernel
theorem dX9_suns_45 : decode cX9_suns 45 = .ok (.iaload, 1) := by decide +kernel
theorem dX9_suns_46 : decode cX9_suns 46 = .ok (.aload_n 0, 1) := by decide +kernel
theorem dX9_suns_47 : decode cX9_suns 47 = .ok (.getfield 54, 3) := by decide +kernel
theorem dX9_suns_50 : decode cX9_suns 50 = .ok (.getfield 148, 3) := by decide +kernel
theorem dX9_suns_53 : decode cX9_suns 53 = .ok (.iload_n 2, 1) := by decide +kernel
theorem dX9_suns_54 : decode cX9_suns 54 = .ok (.iconst 1, 1) := by decide +kernel
theorem dX9_suns_55 : decode cX9_suns 55 = .ok (.iadd, 1) := by decide +kernel
theorem dX9_suns_56 : decode cX9_suns 56 = .ok (.iaload, 1) := by decide +kernel
theorem dX9_suns_57 : decode cX9_suns 57 = .ok (.aload_n 0, 1) := by decide +kernel
theorem dX9_suns_58 : decode cX9_suns 58 = .ok (.getfield 54, 3) := by decide +kernel
theorem dX9_suns_61 : decode cX9_suns 61 = .ok (.getfield 148, 3) := by decide +kernel
theorem dX9_suns_64 : decode cX9_suns 64 = .ok (.iload_n 2, 1) := by decide +kernel
theorem dX9_suns_65 : decode cX9_suns 65 = .ok (.iconst 2, 1) := by decide +kernel
theorem dX9_suns_66 : decode cX9_suns 66 = .ok (.iadd, 1) := by decide +kernel
theorem dX9_suns_67 : decode cX9_suns 67 = .ok (.iaload, 1) := by decide +kernel
theorem dX9_suns_68 : decode cX9_suns 68 = .ok (.invokestatic 132, 3) := by decide +kernel
theorem dX9_suns_71 : decode cX9_suns 71 = .ok (.ifCond .ne 10, 3) := by decide +kernel
theorem dX9_suns_74 : decode cX9_suns 74 = .ok (.aload_n 0, 1) := by decide +kernel
theorem dX9_suns_75 : decode cX9_suns 75 = .ok (.ldc 80, 2) := by decide +kernel
theorem dX9_suns_77 : decode cX9_suns 77 = .ok (.invokevirtual 81, 3) := by decide +kernel
theorem dX9_suns_80 : decode cX9_suns 80 = .ok (.ireturn, 1) := by decide +kernel
theorem dX9_suns_81 : decode cX9_suns 81 = .ok (.iinc 2 3, 3) := by decide +kernel
theorem dX9_suns_84 : decode cX9_suns 84 = .ok (.goto (-54), 3) := by decide +kernel
theorem dX9_suns_87 : decode cX9_suns 87 = .ok (.iconst 0, 1) := by decide +kernel
theorem dX9_suns_88 : decode cX9_suns 88 = .ok (.istore_n 2, 1) := by decide +kernel
theorem dX9_suns_89 : decode cX9_suns 89 = .ok (.iload_n 2, 1) := by decide +kernel
theorem dX9_suns_90 : decode cX9_suns 90 = .ok (.iconst 2, 1) := by decide +kernel
theorem dX9_suns_91 : decode cX9_suns 91 = .ok (.iadd, 1) := by decide +kernel
theorem dX9_suns_92 : decode cX9_suns 92 = .ok (.iload_n 1, 1) := by decide +kernel
theorem dX9_suns_93 : decode cX9_suns 93 = .ok (.if_icmp .ge 47, 3) := by decide +kernel
theorem dX9_suns_96 : decode cX9_suns 96 = .ok (.aload_n 0, 1) := by decide +kernel
theorem dX9_suns_97 : decode cX9_suns 97 = .ok (.getfield 19, 3) := by decide +kernel
theorem dX9_suns_100 : decode cX9_suns 100 = .ok (.aload_n 0, 1) := by decide +kernel
theorem dX9_suns_101 : decode cX9_suns 101 = .ok (.getfield 54, 3) := by decide +kernel
theorem dX9_suns_104 : decode cX9_suns 104 = .ok (.getfield 148, 3) := by decide +kernel
theorem dX9_suns_107 : decode cX9_suns 107 = .ok (.iload_n 2, 1) := by decide +kernel
theorem dX9_suns_108 : decode cX9_suns 108 = .ok (.iaload, 1) := by decide +kernel
theorem dX9_suns_109 : decode cX9_suns 109 = .ok (.aload_n 0, 1) := by decide +kernel
theorem dX9_suns_110 : decode cX9_suns 110 = .ok (.getfield 54, 3) := by decide +kernel
theorem dX9_suns_113 : decode cX9_suns 113 = .ok (.getfield 148, 3) := by decide +kernel
theorem dX9_suns_116 : decode cX9_suns 116 = .ok (.iload_n 2, 1) := by decide +kernel
theorem dX9_suns_117 : decode cX9_suns 117 = .ok (.iconst 1, 1) := by decide +kernel
theorem dX9_suns_118 : decode cX9_suns 118 = .ok (.iadd, 1) := by decide +kernel
theorem dX9_suns_119 : decode cX9_suns 119 = .ok (.iaload, 1) := by decide +kernel
theorem dX9_suns_120 : decode cX9_suns 120 = .ok (.aload_n 0, 1) := by decide +kernel
theorem dX9_suns_121 : decode cX9_suns 121 = .ok (.getfield 54, 3) := by decide +kernel
theorem dX9_suns_124 : decode cX9_suns 124 = .ok (.getfield 148, 3) := by decide +kernel
theorem dX9_suns_127 : decode cX9_suns 127 = .ok (.iload_n 2, 1) := by decide +kernel
theorem dX9_suns_128 : decode cX9_suns 128 = .ok (.iconst 2, 1) := by decide +kernel
theorem dX9_suns_129 : decode cX9_suns 129 = .ok (.iadd, 1) := by decide +kernel
theorem dX9_suns_130 : decode cX9_suns 130 = .ok (.iaload, 1) := by decide +kernel
theorem dX9_suns_131 : decode cX9_suns 131 = .ok (.invokevirtual 135, 3) := by decide +kernel
theorem dX9_suns_134 : decode cX9_suns 134 = .ok (.iinc 2 3, 3) := by decide +kernel
theorem dX9_suns_137 : decode cX9_suns 137 = .ok (.goto (-48), 3) := by decide +kernel
theorem dX9_suns_140 : decode cX9_suns 140 = .ok (.iload_n 1, 1) := by decide +kernel
theorem dX9_suns_141 : decode cX9_suns 141 = .ok (.iconst 3, 1) := by decide +kernel
theorem dX9_suns_142 : decode cX9_suns 142 = .ok (.idiv, 1) := by decide +kernel
theorem dX9_suns_143 : decode cX9_suns 143 = .ok (.ireturn, 1) := by decide +kernel
theorem dX9_ideal_0 : decode cX9_ideal 0 = .ok (.iload_n 1, 1) := by decide +kernel
theorem dX9_ideal_1 : decode cX9_ideal 1 = .ok (.invokestatic 151, 3) := by decide +kernel
theorem dX9_ideal_4 : decode cX9_ideal 4 = .ok (.ifCond .ne 10, 3) := by decide +kernel
theorem dX9_ideal_7 : decode cX9_ideal 7 = .ok (.aload_n 0, 1) := by decide +kernel
theorem dX9_ideal_8 : decode cX9_ideal 8 = .ok (.ldc 80, 2) := by decide +kernel
theorem dX9_ideal_10 : decode cX9_ideal 10 = .ok (.invokevirtual 81, 3) := by decide +kernel
theorem dX9_ideal_13 : decode cX9_ideal 13 = .ok (.ireturn, 1) := by decide +kernel
theorem dX9_ideal_14 : decode cX9_ideal 14 = .ok (.aload_n 0, 1) := by decide +kernel
theorem dX9_ideal_15 : decode cX9_ideal 15 = .ok (.getfield 19, 3) := by decide +kernel
theorem dX9_ideal_18 : decode cX9_ideal 18 = .ok (.iload_n 1, 1) := by decide +kernel
theorem dX9_ideal_19 : decode cX9_ideal 19 = .ok (.invokevirtual 139, 3) := by decide +kernel
theorem dX9_ideal_22 : decode cX9_ideal 22 = .ok (.ifCond .eq 10, 3) := by decide +kernel
theorem dX9_ideal_25 : decode cX9_ideal 25 = .ok (.aload_n 0, 1) := by decide +kernel
theorem dX9_ideal_26 : decode cX9_ideal 26 = .ok (.ldc 103, 2) := by decide +kernel
theorem dX9_ideal_28 : decode cX9_ideal 28 = .ok (.invokevirtual 81, 3) := by decide +kernel
theorem dX9_ideal_31 : decode cX9_ideal 31 = .ok (.ireturn, 1) := by decide +kernel
theorem dX9_ideal_32 : decode cX9_ideal 32 = .ok (.aload_n 0, 1) := by decide +kernel
theorem dX9_ideal_33 : decode cX9_ideal 33 = .ok (.getfield 10, 3) := by decide +kernel
theorem dX9_ideal_36 : decode cX9_ideal 36 = .ok (.aload_n 0, 1) := by decide +kernel
theorem dX9_ideal_37 : decode cX9_ideal 37 = .ok (.getfield 19, 3) := by decide +kernel
theorem dX9_ideal_40 : decode cX9_ideal 40 = .ok (.getfield 154, 3) := by decide +kernel
theorem dX9_ideal_43 : decode cX9_ideal 43 = .ok (.iload_n 1, 1) := by decide +kernel
theorem dX9_ideal_44 : decode cX9_ideal 44 = .ok (.iaload, 1) := by decide +kernel
theorem dX9_ideal_45 : decode cX9_ideal 45 = .ok (.aload_n 0, 1) := by decide +kernel
theorem dX9_ideal_46 : decode cX9_ideal 46 = .ok (.getfield 19, 3) := by decide +kernel
theorem dX9_ideal_49 : decode cX9_ideal 49 = .ok (.getfield 157, 3) := by decide +kernel
theorem dX9_ideal_52 : decode cX9_ideal 52 = .ok (.iload_n 1, 1) := by decide +kernel
theorem dX9_ideal_53 : decode cX9_ideal 53 = .ok (.iaload, 1) := by decide +kernel
theorem dX9_ideal_54 : decode cX9_ideal 54 = .ok (.invokevirtual 160, 3) := by decide +kernel
theorem dX9_ideal_57 : decode cX9_ideal 57 = .ok (.ireturn, 1) := by decide +kernel
theorem dX9_back_0 : decode cX9_back 0 = .ok (.iload_n 1, 1) := by decide +kernel
theorem dX9_back_1 : decode cX9_back 1 = .ok (.invokestatic 151, 3) := by decide +kernel
theorem dX9_back_4 : decode cX9_back 4 = .ok (.ifCond .ne 10, 3) := by decide +kernel
theorem dX9_back_7 : decode cX9_back 7 = .ok (.aload_n 0, 1) := by decide +kernel
theorem dX9_back_8 : decode cX9_back 8 = .ok (.ldc 80, 2) := by decide +kernel
theorem dX9_back_10 : decode cX9_back 10 = .ok (.invokevirtual 81, 3) := by decide +kernel
theorem dX9_back_13 : decode cX9_back 13 = .ok (.ireturn, 1) := by decide +kernel
theorem dX9_back_14 : decode cX9_back 14 = .ok (.aload_n 0, 1) := by decide +kernel
theorem dX9_back_15 : decode cX9_back 15 = .ok (.getfield 19, 3) := by decide +kernel
theorem dX9_back_18 : decode cX9_back 18 = .ok (.iload_n 1, 1) := by decide +kernel
theorem dX9_back_19 : decode cX9_back 19 = .ok (.invokevirtual 139, 3) := by decide +kernel
theorem dX9_back_22 : decode cX9_back 22 = .ok (.ifCond .eq 10, 3) := by decide +kernel
theorem dX9_back_25 : decode cX9_back 25 = .ok (.aload_n 0, 1) := by decide +kernel
theorem dX9_back_26 : decode cX9_back 26 = .ok (.ldc 131, 2) := by decide +kernel
theorem dX9_back_28 : decode cX9_back 28 = .ok (.invokevirtual 81, 3) := by decide +kernel
theorem dX9_back_31 : decode cX9_back 31 = .ok (.ireturn, 1) := by decide +kernel
theorem dX9_back_32 : decode cX9_back 32 = .ok (.aload_n 0, 1) := by decide +kernel
theorem dX9_back_33 : decode cX9_back 33 = .ok (.getfield 10, 3) := by decide +kernel
theorem dX9_back_36 : decode cX9_back 36 = .ok (.aload_n 0, 1) := by decide +kernel
theorem dX9_back_37 : decode cX9_back 37 = .ok (.getfield 19, 3) := by decide +kernel
theorem dX9_back_40 : decode cX9_back 40 = .ok (.getfield 154, 3) := by decide +kernel
theorem dX9_back_43 : decode cX9_back 43 = .ok (.iload_n 1, 1) := by decide +kernel
theorem dX9_back_44 : decode cX9_back 44 = .ok (.iaload, 1) := by decide +kernel
theorem dX9_back_45 : decode cX9_back 45 = .ok (.aload_n 0, 1) := by decide +kernel
theorem dX9_back_46 : decode cX9_back 46 = .ok (.getfield 19, 3) := by decide +kernel
theorem dX9_back_49 : decode cX9_back 49 = .ok (.getfield 157, 3) := by decide +kernel
theorem dX9_back_52 : decode cX9_back 52 = .ok (.iload_n 1, 1) := by decide +kernel
theorem dX9_back_53 : decode cX9_back 53 = .ok (.iaload, 1) := by decide +kernel
theorem dX9_back_54 : decode cX9_back 54 = .ok (.invokevirtual 164, 3) := by decide +kernel
theorem dX9_back_57 : decode cX9_back 57 = .ok (.istore_n 2, 1) := by decide +kernel
theorem dX9_back_58 : decode cX9_back 58 = .ok (.iload_n 2, 1) := by decide +kernel
theorem dX9_back_59 : decode cX9_back 59 = .ok (.bipush 99, 2) := by decide +kernel
theorem dX9_back_61 : decode cX9_back 61 = .ok (.if_icmp .ne 12, 3) := by decide +kernel
theorem dX9_back_64 : decode cX9_back 64 = .ok (.aload_n 0, 1) := by decide +kernel
theorem dX9_back_65 : decode cX9_back 65 = .ok (.ldc 103, 2) := by decide +kernel
theorem dX9_back_67 : decode cX9_back 67 = .ok (.invokevirtual 81, 3) := by decide +kernel
theorem dX9_back_70 : decode cX9_back 70 = .ok (.goto 4, 3) := by decide +kernel
theorem dX9_back_73 : decode cX9_back 73 = .ok (.iload_n 2, 1) := by decide +kernel
theorem dX9_back_74 : decode cX9_back 74 = .ok (.ireturn, 1) := by decide +kernel
theorem dX9_breadth_0 : decode cX9_breadth 0 = .ok (.aload_n 0, 1) := by decide +kernel
theorem dX9_breadth_1 : decode cX9_breadth 1 = .ok (.iload_n 1, 1) := by decide +kernel
theorem dX9_breadth_2 : decode cX9_breadth 2 = .ok (.iload_n 2, 1) := by decide +kernel
theorem dX9_breadth_3 : decode cX9_breadth 3 = .ok (.invokevirtual 167, 3) := by decide +kernel
theorem dX9_breadth_6 : decode cX9_breadth 6 = .ok (.istore_n 3, 1) := by decide +kernel
theorem dX9_breadth_7 : decode cX9_breadth 7 = .ok (.iload_n 3, 1) := by decide +kernel
theorem dX9_breadth_8 : decode cX9_breadth 8 = .ok (.ifCond .eq 10, 3) := by decide +kernel
theorem dX9_breadth_11 : decode cX9_breadth 11 = .ok (.aload_n 0, 1) := by decide +kernel
theorem dX9_breadth_12 : decode cX9_breadth 12 = .ok (.iload_n 3, 1) := by decide +kernel
theorem dX9_breadth_13 : decode cX9_breadth 13 = .ok (.invokevirtual 81, 3) := by decide +kernel
theorem dX9_breadth_16 : decode cX9_breadth 16 = .ok (.i2l, 1) := by decide +kernel
theorem dX9_breadth_17 : decode cX9_breadth 17 = .ok (.lreturn, 1) := by decide +kernel
theorem dX9_breadth_18 : decode cX9_breadth 18 = .ok (.aload_n 0, 1) := by decide +kernel
theorem dX9_breadth_19 : decode cX9_breadth 19 = .ok (.iload_n 2, 1) := by decide +kernel
theorem dX9_breadth_20 : decode cX9_breadth 20 = .ok (.invokevirtual 170, 3) := by decide +kernel
theorem dX9_breadth_23 : decode cX9_breadth 23 = .ok (.aload_n 0, 1) := by decide +kernel
theorem dX9_breadth_24 : decode cX9_breadth 24 = .ok (.getfield 10, 3) := by decide +kernel
theorem dX9_breadth_27 : decode cX9_breadth 27 = .ok (.getfield 174, 3) := by decide +kernel
theorem dX9_breadth_30 : decode cX9_breadth 30 = .ok (.iload_n 1, 1) := by decide +kernel
theorem dX9_breadth_31 : decode cX9_breadth 31 = .ok (.invokevirtual 178, 3) := by decide +kernel
theorem dX9_breadth_34 : decode cX9_breadth 34 = .ok (.lreturn, 1) := by decide +kernel
theorem dX9_shade_0 : decode cX9_shade 0 = .ok (.aload_n 0, 1) := by decide +kernel
theorem dX9_shade_1 : decode cX9_shade 1 = .ok (.iload_n 1, 1) := by decide +kernel
theorem dX9_shade_2 : decode cX9_shade 2 = .ok (.iload_n 2, 1) := by decide +kernel
theorem dX9_shade_3 : decode cX9_shade 3 = .ok (.invokevirtual 184, 3) := by decide +kernel
theorem dX9_shade_6 : decode cX9_shade 6 = .ok (.istore_n 3, 1) := by decide +kernel
theorem dX9_shade_7 : decode cX9_shade 7 = .ok (.iload_n 3, 1) := by decide +kernel
theorem dX9_shade_8 : decode cX9_shade 8 = .ok (.ifCond .eq 10, 3) := by decide +kernel
theorem dX9_shade_11 : decode cX9_shade 11 = .ok (.aload_n 0, 1) := by decide +kernel
theorem dX9_shade_12 : decode cX9_shade 12 = .ok (.iload_n 3, 1) := by decide +kernel
theorem dX9_shade_13 : decode cX9_shade 13 = .ok (.invokevirtual 81, 3) := by decide +kernel
theorem dX9_shade_16 : decode cX9_shade 16 = .ok (.i2l, 1) := by decide +kernel
theorem dX9_shade_17 : decode cX9_shade 17 = .ok (.lreturn, 1) := by decide +kernel
theorem dX9_shade_18 : decode cX9_shade 18 = .ok (.aload_n 0, 1) := by decide +kernel
theorem dX9_shade_19 : decode cX9_shade 19 = .ok (.getfield 10, 3) := by decide +kernel
theorem dX9_shade_22 : decode cX9_shade 22 = .ok (.iload_n 1, 1) := by decide +kernel
theorem dX9_shade_23 : decode cX9_shade 23 = .ok (.invokevirtual 187, 3) := by decide +kernel
theorem dX9_shade_26 : decode cX9_shade 26 = .ok (.aload_n 0, 1) := by decide +kernel
theorem dX9_shade_27 : decode cX9_shade 27 = .ok (.getfield 10, 3) := by decide +kernel
theorem dX9_shade_30 : decode cX9_shade 30 = .ok (.getfield 174, 3) := by decide +kernel
theorem dX9_shade_33 : decode cX9_shade 33 = .ok (.invokevirtual 190, 3) := by decide +kernel
theorem dX9_shade_36 : decode cX9_shade 36 = .ok (.lreturn, 1) := by decide +kernel
theorem dX9_dark_0 : decode cX9_dark 0 = .ok (.aload_n 0, 1) := by decide +kernel
theorem dX9_dark_1 : decode cX9_dark 1 = .ok (.iload_n 1, 1) := by decide +kernel
theorem dX9_dark_2 : decode cX9_dark 2 = .ok (.iload_n 2, 1) := by decide +kernel
theorem dX9_dark_3 : decode cX9_dark 3 = .ok (.invokevirtual 184, 3) := by decide +kernel
theorem dX9_dark_6 : decode cX9_dark 6 = .ok (.istore_n 3, 1) := by decide +kernel
theorem dX9_dark_7 : decode cX9_dark 7 = .ok (.iload_n 3, 1) := by decide +kernel
theorem dX9_dark_8 : decode cX9_dark 8 = .ok (.ifCond .eq 9, 3) := by decide +kernel
theorem dX9_dark_11 : decode cX9_dark 11 = .ok (.aload_n 0, 1) := by decide +kernel
theorem dX9_dark_12 : decode cX9_dark 12 = .ok (.iload_n 3, 1) := by decide +kernel
theorem dX9_dark_13 : decode cX9_dark 13 = .ok (.invokevirtual 81, 3) := by decide +kernel
theorem dX9_dark_16 : decode cX9_dark 16 = .ok (.ireturn, 1) := by decide +kernel
end
section
theorem dX9_dark_17 : decode cX9_dark 17 = .ok (.aload_n 0, 1) := by decide +kernel
theorem dX9_dark_18 : decode cX9_dark 18 = .ok (.getfield 10, 3) := by decide +kernel
theorem dX9_dark_21 : decode cX9_dark 21 = .ok (.iload_n 1, 1) := by decide +kernel
theorem dX9_dark_22 : decode cX9_dark 22 = .ok (.invokevirtual 187, 3) := by decide +kernel
theorem dX9_dark_25 : decode cX9_dark 25 = .ok (.aload_n 0, 1) := by decide +kernel
theorem dX9_dark_26 : decode cX9_dark 26 = .ok (.getfield 10, 3) := by decide +kernel
theorem dX9_dark_29 : decode cX9_dark 29 = .ok (.getfield 174, 3) := by decide +kernel
theorem dX9_dark_32 : decode cX9_dark 32 = .ok (.iload_n 1, 1) := by decide +kernel
theorem dX9_dark_33 : decode cX9_dark 33 = .ok (.invokevirtual 194, 3) := by decide +kernel
theorem dX9_dark_36 : decode cX9_dark 36 = .ok (.ireturn, 1) := by decide +kernel
theorem dX9_string_0 : decode cX9_string 0 = .ok (.aload_n 0, 1) := by decide +kernel
theorem dX9_string_1 : decode cX9_string 1 = .ok (.iload_n 1, 1) := by decide +kernel
theorem dX9_string_2 : decode cX9_string 2 = .ok (.invokevirtual 104, 3) := by decide +kernel
theorem dX9_string_5 : decode cX9_string 5 = .ok (.ifCond .eq 12, 3) := by decide +kernel
theorem dX9_string_8 : decode cX9_string 8 = .ok (.iload_n 2, 1) := by decide +kernel
theorem dX9_string_9 : decode cX9_string 9 = .ok (.iconst (-1), 1) := by decide +kernel
theorem dX9_string_10 : decode cX9_string 10 = .ok (.iconst 3, 1) := by decide +kernel
theorem dX9_string_11 : decode cX9_string 11 = .ok (.invokestatic 73, 3) := by decide +kernel
theorem dX9_string_14 : decode cX9_string 14 = .ok (.ifCond .ne 10, 3) := by decide +kernel
theorem dX9_string_17 : decode cX9_string 17 = .ok (.aload_n 0, 1) := by decide +kernel
theorem dX9_string_18 : decode cX9_string 18 = .ok (.ldc 80, 2) := by decide +kernel
theorem dX9_string_20 : decode cX9_string 20 = .ok (.invokevirtual 81, 3) := by decide +kernel
theorem dX9_string_23 : decode cX9_string 23 = .ok (.ireturn, 1) := by decide +kernel
theorem dX9_string_24 : decode cX9_string 24 = .ok (.aload_n 0, 1) := by decide +kernel
theorem dX9_string_25 : decode cX9_string 25 = .ok (.getfield 10, 3) := by decide +kernel
theorem dX9_string_28 : decode cX9_string 28 = .ok (.getfield 93, 3) := by decide +kernel
theorem dX9_string_31 : decode cX9_string 31 = .ok (.iload_n 1, 1) := by decide +kernel
theorem dX9_string_32 : decode cX9_string 32 = .ok (.aaload, 1) := by decide +kernel
theorem dX9_string_33 : decode cX9_string 33 = .ok (.astore_n 3, 1) := by decide +kernel
theorem dX9_string_34 : decode cX9_string 34 = .ok (.aload_n 3, 1) := by decide +kernel
theorem dX9_string_35 : decode cX9_string 35 = .ok (.getfield 125, 3) := by decide +kernel
theorem dX9_string_38 : decode cX9_string 38 = .ok (.istore 4, 2) := by decide +kernel
theorem dX9_string_40 : decode cX9_string 40 = .ok (.aload_n 3, 1) := by decide +kernel
theorem dX9_string_41 : decode cX9_string 41 = .ok (.iload_n 2, 1) := by decide +kernel
theorem dX9_string_42 : decode cX9_string 42 = .ok (.putfield 125, 3) := by decide +kernel
theorem dX9_string_45 : decode cX9_string 45 = .ok (.iload 4, 2) := by decide +kernel
theorem dX9_string_47 : decode cX9_string 47 = .ok (.ireturn, 1) := by decide +kernel
theorem dX9_ceiling_0 : decode cX9_ceiling 0 = .ok (.iload_n 1, 1) := by decide +kernel
theorem dX9_ceiling_1 : decode cX9_ceiling 1 = .ok (.invokestatic 197, 3) := by decide +kernel
theorem dX9_ceiling_4 : decode cX9_ceiling 4 = .ok (.ifCond .eq 13, 3) := by decide +kernel
theorem dX9_ceiling_7 : decode cX9_ceiling 7 = .ok (.iload_n 2, 1) := by decide +kernel
theorem dX9_ceiling_8 : decode cX9_ceiling 8 = .ok (.iconst 0, 1) := by decide +kernel
theorem dX9_ceiling_9 : decode cX9_ceiling 9 = .ok (.ldc 200, 2) := by decide +kernel
theorem dX9_ceiling_11 : decode cX9_ceiling 11 = .ok (.invokestatic 73, 3) := by decide +kernel
theorem dX9_ceiling_14 : decode cX9_ceiling 14 = .ok (.ifCond .ne 10, 3) := by decide +kernel
theorem dX9_ceiling_17 : decode cX9_ceiling 17 = .ok (.aload_n 0, 1) := by decide +kernel
theorem dX9_ceiling_18 : decode cX9_ceiling 18 = .ok (.ldc 80, 2) := by decide +kernel
theorem dX9_ceiling_20 : decode cX9_ceiling 20 = .ok (.invokevirtual 81, 3) := by decide +kernel
theorem dX9_ceiling_23 : decode cX9_ceiling 23 = .ok (.ireturn, 1) := by decide +kernel
theorem dX9_ceiling_24 : decode cX9_ceiling 24 = .ok (.aload_n 0, 1) := by decide +kernel
theorem dX9_ceiling_25 : decode cX9_ceiling 25 = .ok (.getfield 26, 3) := by decide +kernel
theorem dX9_ceiling_28 : decode cX9_ceiling 28 = .ok (.getfield 201, 3) := by decide +kernel
theorem dX9_ceiling_31 : decode cX9_ceiling 31 = .ok (.iload_n 1, 1) := by decide +kernel
theorem dX9_ceiling_32 : decode cX9_ceiling 32 = .ok (.iaload, 1) := by decide +kernel
theorem dX9_ceiling_33 : decode cX9_ceiling 33 = .ok (.istore_n 3, 1) := by decide +kernel
theorem dX9_ceiling_34 : decode cX9_ceiling 34 = .ok (.aload_n 0, 1) := by decide +kernel
theorem dX9_ceiling_35 : decode cX9_ceiling 35 = .ok (.getfield 26, 3) := by decide +kernel
theorem dX9_ceiling_38 : decode cX9_ceiling 38 = .ok (.getfield 201, 3) := by decide +kernel
theorem dX9_ceiling_41 : decode cX9_ceiling 41 = .ok (.iload_n 1, 1) := by decide +kernel
theorem dX9_ceiling_42 : decode cX9_ceiling 42 = .ok (.iload_n 2, 1) := by decide +kernel
theorem dX9_ceiling_43 : decode cX9_ceiling 43 = .ok (.iastore, 1) := by decide +kernel
theorem dX9_ceiling_44 : decode cX9_ceiling 44 = .ok (.iload_n 3, 1) := by decide +kernel
theorem dX9_ceiling_45 : decode cX9_ceiling 45 = .ok (.ireturn, 1) := by decide +kernel
theorem dX9_current_0 : decode cX9_current 0 = .ok (.aload_n 0, 1) := by decide +kernel
theorem dX9_current_1 : decode cX9_current 1 = .ok (.iload_n 1, 1) := by decide +kernel
theorem dX9_current_2 : decode cX9_current 2 = .ok (.iload_n 2, 1) := by decide +kernel
theorem dX9_current_3 : decode cX9_current 3 = .ok (.invokevirtual 167, 3) := by decide +kernel
theorem dX9_current_6 : decode cX9_current 6 = .ok (.istore_n 3, 1) := by decide +kernel
theorem dX9_current_7 : decode cX9_current 7 = .ok (.iload_n 3, 1) := by decide +kernel
theorem dX9_current_8 : decode cX9_current 8 = .ok (.ifCond .eq 9, 3) := by decide +kernel
theorem dX9_current_11 : decode cX9_current 11 = .ok (.aload_n 0, 1) := by decide +kernel
theorem dX9_current_12 : decode cX9_current 12 = .ok (.iload_n 3, 1) := by decide +kernel
theorem dX9_current_13 : decode cX9_current 13 = .ok (.invokevirtual 81, 3) := by decide +kernel
theorem dX9_current_16 : decode cX9_current 16 = .ok (.ireturn, 1) := by decide +kernel
theorem dX9_current_17 : decode cX9_current 17 = .ok (.aload_n 0, 1) := by decide +kernel
theorem dX9_current_18 : decode cX9_current 18 = .ok (.iload_n 2, 1) := by decide +kernel
theorem dX9_current_19 : decode cX9_current 19 = .ok (.invokevirtual 170, 3) := by decide +kernel
theorem dX9_current_22 : decode cX9_current 22 = .ok (.aload_n 0, 1) := by decide +kernel
theorem dX9_current_23 : decode cX9_current 23 = .ok (.getfield 10, 3) := by decide +kernel
theorem dX9_current_26 : decode cX9_current 26 = .ok (.iload_n 1, 1) := by decide +kernel
theorem dX9_current_27 : decode cX9_current 27 = .ok (.invokevirtual 204, 3) := by decide +kernel
theorem dX9_current_30 : decode cX9_current 30 = .ok (.aload_n 0, 1) := by decide +kernel
theorem dX9_current_31 : decode cX9_current 31 = .ok (.getfield 10, 3) := by decide +kernel
theorem dX9_current_34 : decode cX9_current 34 = .ok (.getfield 207, 3) := by decide +kernel
theorem dX9_current_37 : decode cX9_current 37 = .ok (.iload_n 1, 1) := by decide +kernel
theorem dX9_current_38 : decode cX9_current 38 = .ok (.iaload, 1) := by decide +kernel
theorem dX9_current_39 : decode cX9_current 39 = .ok (.ireturn, 1) := by decide +kernel
theorem dX9_gives_0 : decode cX9_gives 0 = .ok (.iload_n 1, 1) := by decide +kernel
theorem dX9_gives_1 : decode cX9_gives 1 = .ok (.invokestatic 197, 3) := by decide +kernel
theorem dX9_gives_4 : decode cX9_gives 4 = .ok (.ifCond .eq 10, 3) := by decide +kernel
theorem dX9_gives_7 : decode cX9_gives 7 = .ok (.iload_n 2, 1) := by decide +kernel
theorem dX9_gives_8 : decode cX9_gives 8 = .ok (.invokestatic 151, 3) := by decide +kernel
theorem dX9_gives_11 : decode cX9_gives 11 = .ok (.ifCond .ne 10, 3) := by decide +kernel
theorem dX9_gives_14 : decode cX9_gives 14 = .ok (.aload_n 0, 1) := by decide +kernel
theorem dX9_gives_15 : decode cX9_gives 15 = .ok (.ldc 80, 2) := by decide +kernel
theorem dX9_gives_17 : decode cX9_gives 17 = .ok (.invokevirtual 81, 3) := by decide +kernel
theorem dX9_gives_20 : decode cX9_gives 20 = .ok (.ireturn, 1) := by decide +kernel
theorem dX9_gives_21 : decode cX9_gives 21 = .ok (.aload_n 0, 1) := by decide +kernel
theorem dX9_gives_22 : decode cX9_gives 22 = .ok (.getfield 19, 3) := by decide +kernel
theorem dX9_gives_25 : decode cX9_gives 25 = .ok (.iload_n 2, 1) := by decide +kernel
theorem dX9_gives_26 : decode cX9_gives 26 = .ok (.invokevirtual 139, 3) := by decide +kernel
theorem dX9_gives_29 : decode cX9_gives 29 = .ok (.ifCond .eq 10, 3) := by decide +kernel
theorem dX9_gives_32 : decode cX9_gives 32 = .ok (.aload_n 0, 1) := by decide +kernel
theorem dX9_gives_33 : decode cX9_gives 33 = .ok (.ldc 103, 2) := by decide +kernel
theorem dX9_gives_35 : decode cX9_gives 35 = .ok (.invokevirtual 81, 3) := by decide +kernel
theorem dX9_gives_38 : decode cX9_gives 38 = .ok (.ireturn, 1) := by decide +kernel
theorem dX9_gives_39 : decode cX9_gives 39 = .ok (.aload_n 0, 1) := by decide +kernel
theorem dX9_gives_40 : decode cX9_gives 40 = .ok (.iload_n 2, 1) := by decide +kernel
theorem dX9_gives_41 : decode cX9_gives 41 = .ok (.invokevirtual 170, 3) := by decide +kernel
theorem dX9_gives_44 : decode cX9_gives 44 = .ok (.aload_n 0, 1) := by decide +kernel
theorem dX9_gives_45 : decode cX9_gives 45 = .ok (.getfield 10, 3) := by decide +kernel
theorem dX9_gives_48 : decode cX9_gives 48 = .ok (.invokevirtual 210, 3) := by decide +kernel
theorem dX9_gives_51 : decode cX9_gives 51 = .ok (.aload_n 0, 1) := by decide +kernel
theorem dX9_gives_52 : decode cX9_gives 52 = .ok (.getfield 26, 3) := by decide +kernel
theorem dX9_gives_55 : decode cX9_gives 55 = .ok (.aload_n 0, 1) := by decide +kernel
theorem dX9_gives_56 : decode cX9_gives 56 = .ok (.getfield 10, 3) := by decide +kernel
theorem dX9_gives_59 : decode cX9_gives 59 = .ok (.iload_n 1, 1) := by decide +kernel
theorem dX9_gives_60 : decode cX9_gives 60 = .ok (.invokevirtual 213, 3) := by decide +kernel
theorem dX9_gives_63 : decode cX9_gives 63 = .ok (.aload_n 0, 1) := by decide +kernel
theorem dX9_gives_64 : decode cX9_gives 64 = .ok (.getfield 26, 3) := by decide +kernel
theorem dX9_gives_67 : decode cX9_gives 67 = .ok (.invokevirtual 217, 3) := by decide +kernel
theorem dX9_gives_70 : decode cX9_gives 70 = .ok (.ireturn, 1) := by decide +kernel
theorem dX9_wind_0 : decode cX9_wind 0 = .ok (.iload_n 1, 1) := by decide +kernel
theorem dX9_wind_1 : decode cX9_wind 1 = .ok (.invokestatic 151, 3) := by decide +kernel
theorem dX9_wind_4 : decode cX9_wind 4 = .ok (.ifCond .eq 14, 3) := by decide +kernel
theorem dX9_wind_7 : decode cX9_wind 7 = .ok (.iload_n 2, 1) := by decide +kernel
theorem dX9_wind_8 : decode cX9_wind 8 = .ok (.iconst (-1), 1) := by decide +kernel
theorem dX9_wind_9 : decode cX9_wind 9 = .ok (.sipush 200, 3) := by decide +kernel
theorem dX9_wind_12 : decode cX9_wind 12 = .ok (.invokestatic 73, 3) := by decide +kernel
theorem dX9_wind_15 : decode cX9_wind 15 = .ok (.ifCond .ne 10, 3) := by decide +kernel
theorem dX9_wind_18 : decode cX9_wind 18 = .ok (.aload_n 0, 1) := by decide +kernel
theorem dX9_wind_19 : decode cX9_wind 19 = .ok (.ldc 80, 2) := by decide +kernel
theorem dX9_wind_21 : decode cX9_wind 21 = .ok (.invokevirtual 81, 3) := by decide +kernel
theorem dX9_wind_24 : decode cX9_wind 24 = .ok (.ireturn, 1) := by decide +kernel
theorem dX9_wind_25 : decode cX9_wind 25 = .ok (.aload_n 0, 1) := by decide +kernel
theorem dX9_wind_26 : decode cX9_wind 26 = .ok (.getfield 33, 3) := by decide +kernel
theorem dX9_wind_29 : decode cX9_wind 29 = .ok (.getfield 221, 3) := by decide +kernel
theorem dX9_wind_32 : decode cX9_wind 32 = .ok (.iload_n 1, 1) := by decide +kernel
theorem dX9_wind_33 : decode cX9_wind 33 = .ok (.iload_n 2, 1) := by decide +kernel
theorem dX9_wind_34 : decode cX9_wind 34 = .ok (.iastore, 1) := by decide +kernel
theorem dX9_wind_35 : decode cX9_wind 35 = .ok (.iload_n 2, 1) := by decide +kernel
theorem dX9_wind_36 : decode cX9_wind 36 = .ok (.iconst (-1), 1) := by decide +kernel
theorem dX9_wind_37 : decode cX9_wind 37 = .ok (.if_icmp .ne 7, 3) := by decide +kernel
theorem dX9_wind_40 : decode cX9_wind 40 = .ok (.iconst 0, 1) := by decide +kernel
theorem dX9_wind_41 : decode cX9_wind 41 = .ok (.goto 4, 3) := by decide +kernel
theorem dX9_wind_44 : decode cX9_wind 44 = .ok (.iconst 1, 1) := by decide +kernel
theorem dX9_wind_45 : decode cX9_wind 45 = .ok (.ireturn, 1) := by decide +kernel
theorem dX9_limit_0 : decode cX9_limit 0 = .ok (.iload_n 1, 1) := by decide +kernel
theorem dX9_limit_1 : decode cX9_limit 1 = .ok (.iconst 1, 1) := by decide +kernel
theorem dX9_limit_2 : decode cX9_limit 2 = .ok (.sipush 200, 3) := by decide +kernel
theorem dX9_limit_5 : decode cX9_limit 5 = .ok (.invokestatic 73, 3) := by decide +kernel
theorem dX9_limit_8 : decode cX9_limit 8 = .ok (.ifCond .ne 10, 3) := by decide +kernel
theorem dX9_limit_11 : decode cX9_limit 11 = .ok (.aload_n 0, 1) := by decide +kernel
theorem dX9_limit_12 : decode cX9_limit 12 = .ok (.ldc 80, 2) := by decide +kernel
theorem dX9_limit_14 : decode cX9_limit 14 = .ok (.invokevirtual 81, 3) := by decide +kernel
theorem dX9_limit_17 : decode cX9_limit 17 = .ok (.ireturn, 1) := by decide +kernel
theorem dX9_limit_18 : decode cX9_limit 18 = .ok (.aload_n 0, 1) := by decide +kernel
theorem dX9_limit_19 : decode cX9_limit 19 = .ok (.getfield 33, 3) := by decide +kernel
theorem dX9_limit_22 : decode cX9_limit 22 = .ok (.getfield 224, 3) := by decide +kernel
theorem dX9_limit_25 : decode cX9_limit 25 = .ok (.istore_n 2, 1) := by decide +kernel
theorem dX9_limit_26 : decode cX9_limit 26 = .ok (.aload_n 0, 1) := by decide +kernel
theorem dX9_limit_27 : decode cX9_limit 27 = .ok (.getfield 33, 3) := by decide +kernel
theorem dX9_limit_30 : decode cX9_limit 30 = .ok (.iload_n 1, 1) := by decide +kernel
theorem dX9_limit_31 : decode cX9_limit 31 = .ok (.putfield 224, 3) := by decide +kernel
theorem dX9_limit_34 : decode cX9_limit 34 = .ok (.iload_n 2, 1) := by decide +kernel
theorem dX9_limit_35 : decode cX9_limit 35 = .ok (.ireturn, 1) := by decide +kernel
theorem dX9_cleaning_0 : decode cX9_cleaning 0 = .ok (.iload_n 1, 1) := by decide +kernel
theorem dX9_cleaning_1 : decode cX9_cleaning 1 = .ok (.invokestatic 151, 3) := by decide +kernel
theorem dX9_cleaning_4 : decode cX9_cleaning 4 = .ok (.ifCond .ne 10, 3) := by decide +kernel
theorem dX9_cleaning_7 : decode cX9_cleaning 7 = .ok (.aload_n 0, 1) := by decide +kernel
theorem dX9_cleaning_8 : decode cX9_cleaning 8 = .ok (.ldc 80, 2) := by decide +kernel
theorem dX9_cleaning_10 : decode cX9_cleaning 10 = .ok (.invokevirtual 81, 3) := by decide +kernel
theorem dX9_cleaning_13 : decode cX9_cleaning 13 = .ok (.ireturn, 1) := by decide +kernel
theorem dX9_cleaning_14 : decode cX9_cleaning 14 = .ok (.aload_n 0, 1) := by decide +kernel
theorem dX9_cleaning_15 : decode cX9_cleaning 15 = .ok (.getfield 33, 3) := by decide +kernel
theorem dX9_cleaning_18 : decode cX9_cleaning 18 = .ok (.getfield 227, 3) := by decide +kernel
theorem dX9_cleaning_21 : decode cX9_cleaning 21 = .ok (.iload_n 1, 1) := by decide +kernel
theorem dX9_cleaning_22 : decode cX9_cleaning 22 = .ok (.baload, 1) := by decide +kernel
theorem dX9_cleaning_23 : decode cX9_cleaning 23 = .ok (.iload_n 2, 1) := by decide +kernel
theorem dX9_cleaning_24 : decode cX9_cleaning 24 = .ok (.if_icmp .eq 7, 3) := by decide +kernel
theorem dX9_cleaning_27 : decode cX9_cleaning 27 = .ok (.iconst 1, 1) := by decide +kernel
theorem dX9_cleaning_28 : decode cX9_cleaning 28 = .ok (.goto 4, 3) := by decide +kernel
theorem dX9_cleaning_31 : decode cX9_cleaning 31 = .ok (.iconst 0, 1) := by decide +kernel
theorem dX9_cleaning_32 : decode cX9_cleaning 32 = .ok (.istore_n 3, 1) := by decide +kernel
theorem dX9_cleaning_33 : decode cX9_cleaning 33 = .ok (.aload_n 0, 1) := by decide +kernel
theorem dX9_cleaning_34 : decode cX9_cleaning 34 = .ok (.getfield 33, 3) := by decide +kernel
theorem dX9_cleaning_37 : decode cX9_cleaning 37 = .ok (.getfield 227, 3) := by decide +kernel
theorem dX9_cleaning_40 : decode cX9_cleaning 40 = .ok (.iload_n 1, 1) := by decide +kernel
theorem dX9_cleaning_41 : decode cX9_cleaning 41 = .ok (.iload_n 2, 1) := by decide +kernel
theorem dX9_cleaning_42 : decode cX9_cleaning 42 = .ok (.bastore, 1) := by decide +kernel
theorem dX9_cleaning_43 : decode cX9_cleaning 43 = .ok (.iload_n 3, 1) := by decide +kernel
theorem dX9_cleaning_44 : decode cX9_cleaning 44 = .ok (.ifCond .eq 7, 3) := by decide +kernel
theorem dX9_cleaning_47 : decode cX9_cleaning 47 = .ok (.iconst 1, 1) := by decide +kernel
theorem dX9_cleaning_48 : decode cX9_cleaning 48 = .ok (.goto 4, 3) := by decide +kernel
theorem dX9_cleaning_51 : decode cX9_cleaning 51 = .ok (.iconst 0, 1) := by decide +kernel
theorem dX9_cleaning_52 : decode cX9_cleaning 52 = .ok (.ireturn, 1) := by decide +kernel
theorem dX9_hour_0 : decode cX9_hour 0 = .ok (.aload_n 0, 1) := by decide +kernel
theorem dX9_hour_1 : decode cX9_hour 1 = .ok (.invokevirtual 231, 3) := by decide +kernel
theorem dX9_hour_4 : decode cX9_hour 4 = .ok (.aload_n 0, 1) := by decide +kernel
theorem dX9_hour_5 : decode cX9_hour 5 = .ok (.getfield 40, 3) := by decide +kernel
theorem dX9_hour_8 : decode cX9_hour 8 = .ok (.getfield 234, 3) := by decide +kernel
theorem dX9_hour_11 : decode cX9_hour 11 = .ok (.ireturn, 1) := by decide +kernel
theorem dX9_hours_0 : decode cX9_hours 0 = .ok (.iload_n 1, 1) := by decide +kernel
theorem dX9_hours_1 : decode cX9_hours 1 = .ok (.iconst 1, 1) := by decide +kernel
theorem dX9_hours_2 : decode cX9_hours 2 = .ok (.bipush 48, 2) := by decide +kernel
theorem dX9_hours_4 : decode cX9_hours 4 = .ok (.invokestatic 73, 3) := by decide +kernel
theorem dX9_hours_7 : decode cX9_hours 7 = .ok (.ifCond .ne 11, 3) := by decide +kernel
theorem dX9_hours_10 : decode cX9_hours 10 = .ok (.aload_n 0, 1) := by decide +kernel
theorem dX9_hours_11 : decode cX9_hours 11 = .ok (.ldc 80, 2) := by decide +kernel
theorem dX9_hours_13 : decode cX9_hours 13 = .ok (.invokevirtual 81, 3) := by decide +kernel
theorem dX9_hours_16 : decode cX9_hours 16 = .ok (.i2l, 1) := by decide +kernel
theorem dX9_hours_17 : decode cX9_hours 17 = .ok (.lreturn, 1) := by decide +kernel
theorem dX9_hours_18 : decode cX9_hours 18 = .ok (.lconst 0, 1) := by decide +kernel
theorem dX9_hours_19 : decode cX9_hours 19 = .ok (.lstore_n 2, 1) := by decide +kernel
theorem dX9_hours_20 : decode cX9_hours 20 = .ok (.iconst 0, 1) := by decide +kernel
theorem dX9_hours_21 : decode cX9_hours 21 = .ok (.istore 4, 2) := by decide +kernel
theorem dX9_hours_23 : decode cX9_hours 23 = .ok (.iload 4, 2) := by decide +kernel
theorem dX9_hours_25 : decode cX9_hours 25 = .ok (.iload_n 1, 1) := by decide +kernel
theorem dX9_hours_26 : decode cX9_hours 26 = .ok (.if_icmp .ge 25, 3) := by decide +kernel
theorem dX9_hours_29 : decode cX9_hours 29 = .ok (.aload_n 0, 1) := by decide +kernel
theorem dX9_hours_30 : decode cX9_hours 30 = .ok (.invokevirtual 231, 3) := by decide +kernel
theorem dX9_hours_33 : decode cX9_hours 33 = .ok (.lload_n 2, 1) := by decide +kernel
theorem dX9_hours_34 : decode cX9_hours 34 = .ok (.aload_n 0, 1) := by decide +kernel
theorem dX9_hours_35 : decode cX9_hours 35 = .ok (.getfield 40, 3) := by decide +kernel
theorem dX9_hours_38 : decode cX9_hours 38 = .ok (.getfield 237, 3) := by decide +kernel
theorem dX9_hours_41 : decode cX9_hours 41 = .ok (.iconst 5, 1) := by decide +kernel
theorem dX9_hours_42 : decode cX9_hours 42 = .ok (.laload, 1) := by decide +kernel
theorem dX9_hours_43 : decode cX9_hours 43 = .ok (.ladd, 1) := by decide +kernel
theorem dX9_hours_44 : decode cX9_hours 44 = .ok (.lstore_n 2, 1) := by decide +kernel
theorem dX9_hours_45 : decode cX9_hours 45 = .ok (.iinc 4 1, 3) := by decide +kernel
theorem dX9_hours_48 : decode cX9_hours 48 = .ok (.goto (-25), 3) := by decide +kernel
theorem dX9_hours_51 : decode cX9_hours 51 = .ok (.lload_n 2, 1) := by decide +kernel
theorem dX9_hours_52 : decode cX9_hours 52 = .ok (.lreturn, 1) := by decide +kernel
theorem dX9_book_0 : decode cX9_book 0 = .ok (.aload_n 0, 1) := by decide +kernel
theorem dX9_book_1 : decode cX9_book 1 = .ok (.getfield 40, 3) := by decide +kernel
theorem dX9_book_4 : decode cX9_book 4 = .ok (.getfield 241, 3) := by decide +kernel
theorem dX9_book_7 : decode cX9_book 7 = .ok (.ifCond .ne 11, 3) := by decide +kernel
theorem dX9_book_10 : decode cX9_book 10 = .ok (.aload_n 0, 1) := by decide +kernel
theorem dX9_book_11 : decode cX9_book 11 = .ok (.ldc 103, 2) := by decide +kernel
theorem dX9_book_13 : decode cX9_book 13 = .ok (.invokevirtual 81, 3) := by decide +kernel
theorem dX9_book_16 : decode cX9_book 16 = .ok (.i2l, 1) := by decide +kernel
theorem dX9_book_17 : decode cX9_book 17 = .ok (.lreturn, 1) := by decide +kernel
theorem dX9_book_18 : decode cX9_book 18 = .ok (.iload_n 1, 1) := by decide +kernel
theorem dX9_book_19 : decode cX9_book 19 = .ok (.iconst 0, 1) := by decide +kernel
theorem dX9_book_20 : decode cX9_book 20 = .ok (.iconst 5, 1) := by decide +kernel
theorem dX9_book_21 : decode cX9_book 21 = .ok (.invokestatic 73, 3) := by decide +kernel
theorem dX9_book_24 : decode cX9_book 24 = .ok (.ifCond .eq 13, 3) := by decide +kernel
theorem dX9_book_27 : decode cX9_book 27 = .ok (.aload_n 0, 1) := by decide +kernel
theorem dX9_book_28 : decode cX9_book 28 = .ok (.getfield 40, 3) := by decide +kernel
theorem dX9_book_31 : decode cX9_book 31 = .ok (.getfield 237, 3) := by decide +kernel
theorem dX9_book_34 : decode cX9_book 34 = .ok (.iload_n 1, 1) := by decide +kernel
theorem dX9_book_35 : decode cX9_book 35 = .ok (.laload, 1) := by decide +kernel
theorem dX9_book_36 : decode cX9_book 36 = .ok (.lreturn, 1) := by decide +kernel
theorem dX9_book_37 : decode cX9_book 37 = .ok (.iload_n 1, 1) := by decide +kernel
theorem dX9_book_38 : decode cX9_book 38 = .ok (.bipush 6, 2) := by decide +kernel
theorem dX9_book_40 : decode cX9_book 40 = .ok (.if_icmp .ne 12, 3) := by decide +kernel
theorem dX9_book_43 : decode cX9_book 43 = .ok (.aload_n 0, 1) := by decide +kernel
theorem dX9_book_44 : decode cX9_book 44 = .ok (.getfield 40, 3) := by decide +kernel
theorem dX9_book_47 : decode cX9_book 47 = .ok (.getfield 234, 3) := by decide +kernel
theorem dX9_book_50 : decode cX9_book 50 = .ok (.i2l, 1) := by decide +kernel
theorem dX9_book_51 : decode cX9_book 51 = .ok (.lreturn, 1) := by decide +kernel
theorem dX9_book_52 : decode cX9_book 52 = .ok (.iload_n 1, 1) := by decide +kernel
theorem dX9_book_53 : decode cX9_book 53 = .ok (.bipush 7, 2) := by decide +kernel
theorem dX9_book_55 : decode cX9_book 55 = .ok (.if_icmp .ne 12, 3) := by decide +kernel
theorem dX9_book_58 : decode cX9_book 58 = .ok (.aload_n 0, 1) := by decide +kernel
theorem dX9_book_59 : decode cX9_book 59 = .ok (.getfield 40, 3) := by decide +kernel
theorem dX9_book_62 : decode cX9_book 62 = .ok (.getfield 245, 3) := by decide +kernel
theorem dX9_book_65 : decode cX9_book 65 = .ok (.i2l, 1) := by decide +kernel
theorem dX9_book_66 : decode cX9_book 66 = .ok (.lreturn, 1) := by decide +kernel
theorem dX9_book_67 : decode cX9_book 67 = .ok (.aload_n 0, 1) := by decide +kernel
theorem dX9_book_68 : decode cX9_book 68 = .ok (.ldc 80, 2) := by decide +kernel
theorem dX9_book_70 : decode cX9_book 70 = .ok (.invokevirtual 81, 3) := by decide +kernel
theorem dX9_book_73 : decode cX9_book 73 = .ok (.i2l, 1) := by decide +kernel
theorem dX9_book_74 : decode cX9_book 74 = .ok (.lreturn, 1) := by decide +kernel
theorem dX9_all_0 : decode cX9_all 0 = .ok (.iload_n 1, 1) := by decide +kernel
theorem dX9_all_1 : decode cX9_all 1 = .ok (.iconst 0, 1) := by decide +kernel
theorem dX9_all_2 : decode cX9_all 2 = .ok (.iconst 5, 1) := by decide +kernel
theorem dX9_all_3 : decode cX9_all 3 = .ok (.invokestatic 73, 3) := by decide +kernel
theorem dX9_all_6 : decode cX9_all 6 = .ok (.ifCond .ne 11, 3) := by decide +kernel
theorem dX9_all_9 : decode cX9_all 9 = .ok (.aload_n 0, 1) := by decide +kernel
theorem dX9_all_10 : decode cX9_all 10 = .ok (.ldc 80, 2) := by decide +kernel
theorem dX9_all_12 : decode cX9_all 12 = .ok (.invokevirtual 81, 3) := by decide +kernel
theorem dX9_all_15 : decode cX9_all 15 = .ok (.i2l, 1) := by decide +kernel
theorem dX9_all_16 : decode cX9_all 16 = .ok (.lreturn, 1) := by decide +kernel
theorem dX9_all_17 : decode cX9_all 17 = .ok (.aload_n 0, 1) := by decide +kernel
theorem dX9_all_18 : decode cX9_all 18 = .ok (.getfield 40, 3) := by decide +kernel
theorem dX9_all_21 : decode cX9_all 21 = .ok (.getfield 248, 3) := by decide +kernel
theorem dX9_all_24 : decode cX9_all 24 = .ok (.iload_n 1, 1) := by decide +kernel
theorem dX9_all_25 : decode cX9_all 25 = .ok (.laload, 1) := by decide +kernel
theorem dX9_all_26 : decode cX9_all 26 = .ok (.lreturn, 1) := by decide +kernel
theorem dX9_next_0 : decode cX9_next 0 = .ok (.aload_n 0, 1) := by decide +kernel
theorem dX9_next_1 : decode cX9_next 1 = .ok (.getfield 62, 3) := by decide +kernel
theorem dX9_next_4 : decode cX9_next 4 = .ok (.ireturn, 1) := by decide +kernel
theorem dX9_plan_0 : decode cX9_plan 0 = .ok (.iload_n 1, 1) := by decide +kernel
theorem dX9_plan_1 : decode cX9_plan 1 = .ok (.iload_n 2, 1) := by decide +kernel
theorem dX9_plan_2 : decode cX9_plan 2 = .ok (.invokestatic 251, 3) := by decide +kernel
theorem dX9_plan_5 : decode cX9_plan 5 = .ok (.ifCond .ne 10, 3) := by decide +kernel
theorem dX9_plan_8 : decode cX9_plan 8 = .ok (.aload_n 0, 1) := by decide +kernel
theorem dX9_plan_9 : decode cX9_plan 9 = .ok (.ldc 80, 2) := by decide +kernel
theorem dX9_plan_11 : decode cX9_plan 11 = .ok (.invokevirtual 81, 3) := by decide +kernel
theorem dX9_plan_14 : decode cX9_plan 14 = .ok (.ireturn, 1) := by decide +kernel
theorem dX9_plan_15 : decode cX9_plan 15 = .ok (.aload_n 0, 1) := by decide +kernel
theorem dX9_plan_16 : decode cX9_plan 16 = .ok (.getfield 47, 3) := by decide +kernel
theorem dX9_plan_19 : decode cX9_plan 19 = .ok (.aload_n 0, 1) := by decide +kernel
theorem dX9_plan_20 : decode cX9_plan 20 = .ok (.getfield 10, 3) := by decide +kernel
theorem dX9_plan_23 : decode cX9_plan 23 = .ok (.iload_n 1, 1) := by decide +kernel
theorem dX9_plan_24 : decode cX9_plan 24 = .ok (.iload_n 2, 1) := by decide +kernel
theorem dX9_plan_25 : decode cX9_plan 25 = .ok (.invokevirtual 255, 3) := by decide +kernel
theorem dX9_plan_28 : decode cX9_plan 28 = .ok (.aload_n 0, 1) := by decide +kernel
theorem dX9_plan_29 : decode cX9_plan 29 = .ok (.getfield 47, 3) := by decide +kernel
theorem dX9_plan_32 : decode cX9_plan 32 = .ok (.getfield 259, 3) := by decide +kernel
theorem dX9_plan_35 : decode cX9_plan 35 = .ok (.ireturn, 1) := by decide +kernel
theorem dX9_worth_0 : decode cX9_worth 0 = .ok (.iload_n 1, 1) := by decide +kernel
theorem dX9_worth_1 : decode cX9_worth 1 = .ok (.iload_n 2, 1) := by decide +kernel
theorem dX9_worth_2 : decode cX9_worth 2 = .ok (.invokestatic 251, 3) := by decide +kernel
theorem dX9_worth_5 : decode cX9_worth 5 = .ok (.ifCond .ne 11, 3) := by decide +kernel
theorem dX9_worth_8 : decode cX9_worth 8 = .ok (.aload_n 0, 1) := by decide +kernel
theorem dX9_worth_9 : decode cX9_worth 9 = .ok (.ldc 80, 2) := by decide +kernel
theorem dX9_worth_11 : decode cX9_worth 11 = .ok (.invokevirtual 81, 3) := by decide +kernel
theorem dX9_worth_14 : decode cX9_worth 14 = .ok (.i2l, 1) := by decide +kernel
theorem dX9_worth_15 : decode cX9_worth 15 = .ok (.lreturn, 1) := by decide +kernel
theorem dX9_worth_16 : decode cX9_worth 16 = .ok (.aload_n 0, 1) := by decide +kernel
theorem dX9_worth_17 : decode cX9_worth 17 = .ok (.getfield 47, 3) := by decide +kernel
theorem dX9_worth_20 : decode cX9_worth 20 = .ok (.aload_n 0, 1) := by decide +kernel
theorem dX9_worth_21 : decode cX9_worth 21 = .ok (.getfield 10, 3) := by decide +kernel
theorem dX9_worth_24 : decode cX9_worth 24 = .ok (.iload_n 1, 1) := by decide +kernel
theorem dX9_worth_25 : decode cX9_worth 25 = .ok (.iload_n 2, 1) := by decide +kernel
theorem dX9_worth_26 : decode cX9_worth 26 = .ok (.invokevirtual 255, 3) := by decide +kernel
theorem dX9_worth_29 : decode cX9_worth 29 = .ok (.aload_n 0, 1) := by decide +kernel
theorem dX9_worth_30 : decode cX9_worth 30 = .ok (.getfield 47, 3) := by decide +kernel
theorem dX9_worth_33 : decode cX9_worth 33 = .ok (.getfield 262, 3) := by decide +kernel
theorem dX9_worth_36 : decode cX9_worth 36 = .ok (.lreturn, 1) := by decide +kernel
theorem dX9_wash_0 : decode cX9_wash 0 = .ok (.iload_n 1, 1) := by decide +kernel
theorem dX9_wash_1 : decode cX9_wash 1 = .ok (.ifCond .lt 15, 3) := by decide +kernel
theorem dX9_wash_4 : decode cX9_wash 4 = .ok (.iload_n 1, 1) := by decide +kernel
theorem dX9_wash_5 : decode cX9_wash 5 = .ok (.aload_n 0, 1) := by decide +kernel
theorem dX9_wash_6 : decode cX9_wash 6 = .ok (.getfield 10, 3) := by decide +kernel
theorem dX9_wash_9 : decode cX9_wash 9 = .ok (.getfield 89, 3) := by decide +kernel
theorem dX9_wash_12 : decode cX9_wash 12 = .ok (.ishr, 1) := by decide +kernel
theorem dX9_wash_13 : decode cX9_wash 13 = .ok (.ifCond .eq 10, 3) := by decide +kernel
theorem dX9_wash_16 : decode cX9_wash 16 = .ok (.aload_n 0, 1) := by decide +kernel
theorem dX9_wash_17 : decode cX9_wash 17 = .ok (.ldc 80, 2) := by decide +kernel
theorem dX9_wash_19 : decode cX9_wash 19 = .ok (.invokevirtual 81, 3) := by decide +kernel
theorem dX9_wash_22 : decode cX9_wash 22 = .ok (.ireturn, 1) := by decide +kernel
theorem dX9_wash_23 : decode cX9_wash 23 = .ok (.aload_n 0, 1) := by decide +kernel
theorem dX9_wash_24 : decode cX9_wash 24 = .ok (.getfield 10, 3) := by decide +kernel
theorem dX9_wash_27 : decode cX9_wash 27 = .ok (.iload_n 1, 1) := by decide +kernel
theorem dX9_wash_28 : decode cX9_wash 28 = .ok (.invokevirtual 266, 3) := by decide +kernel
theorem dX9_wash_31 : decode cX9_wash 31 = .ok (.ireturn, 1) := by decide +kernel
theorem dX9_storm_0 : decode cX9_storm 0 = .ok (.iload_n 1, 1) := by decide +kernel
theorem dX9_storm_1 : decode cX9_storm 1 = .ok (.iconst 0, 1) := by decide +kernel
theorem dX9_storm_2 : decode cX9_storm 2 = .ok (.sipush 1000, 3) := by decide +kernel
theorem dX9_storm_5 : decode cX9_storm 5 = .ok (.invokestatic 73, 3) := by decide +kernel
theorem dX9_storm_8 : decode cX9_storm 8 = .ok (.ifCond .ne 10, 3) := by decide +kernel
theorem dX9_storm_11 : decode cX9_storm 11 = .ok (.aload_n 0, 1) := by decide +kernel
theorem dX9_storm_12 : decode cX9_storm 12 = .ok (.ldc 80, 2) := by decide +kernel
theorem dX9_storm_14 : decode cX9_storm 14 = .ok (.invokevirtual 81, 3) := by decide +kernel
theorem dX9_storm_17 : decode cX9_storm 17 = .ok (.ireturn, 1) := by decide +kernel
theorem dX9_storm_18 : decode cX9_storm 18 = .ok (.aload_n 0, 1) := by decide +kernel
theorem dX9_storm_19 : decode cX9_storm 19 = .ok (.getfield 10, 3) := by decide +kernel
theorem dX9_storm_22 : decode cX9_storm 22 = .ok (.iload_n 1, 1) := by decide +kernel
theorem dX9_storm_23 : decode cX9_storm 23 = .ok (.invokevirtual 269, 3) := by decide +kernel
theorem dX9_storm_26 : decode cX9_storm 26 = .ok (.ireturn, 1) := by decide +kernel
theorem dX9_tell_0 : decode cX9_tell 0 = .ok (.aload_n 0, 1) := by decide +kernel
theorem dX9_tell_1 : decode cX9_tell 1 = .ok (.getfield 54, 3) := by decide +kernel
theorem dX9_tell_4 : decode cX9_tell 4 = .ok (.getfield 142, 3) := by decide +kernel
theorem dX9_tell_7 : decode cX9_tell 7 = .ok (.bipush 72, 2) := by decide +kernel
theorem dX9_tell_9 : decode cX9_tell 9 = .ok (.if_icmp .lt 10, 3) := by decide +kernel
theorem dX9_tell_12 : decode cX9_tell 12 = .ok (.aload_n 0, 1) := by decide +kernel
theorem dX9_tell_13 : decode cX9_tell 13 = .ok (.ldc 92, 2) := by decide +kernel
theorem dX9_tell_15 : decode cX9_tell 15 = .ok (.invokevirtual 81, 3) := by decide +kernel
theorem dX9_tell_18 : decode cX9_tell 18 = .ok (.ireturn, 1) := by decide +kernel
theorem dX9_tell_19 : decode cX9_tell 19 = .ok (.aload_n 0, 1) := by decide +kernel
theorem dX9_tell_20 : decode cX9_tell 20 = .ok (.getfield 54, 3) := by decide +kernel
theorem dX9_tell_23 : decode cX9_tell 23 = .ok (.iload_n 1, 1) := by decide +kernel
theorem dX9_tell_24 : decode cX9_tell 24 = .ok (.invokevirtual 272, 3) := by decide +kernel
theorem dX9_tell_27 : decode cX9_tell 27 = .ok (.aload_n 0, 1) := by decide +kernel
theorem dX9_tell_28 : decode cX9_tell 28 = .ok (.getfield 54, 3) := by decide +kernel
theorem dX9_tell_31 : decode cX9_tell 31 = .ok (.getfield 142, 3) := by decide +kernel
theorem dX9_tell_34 : decode cX9_tell 34 = .ok (.ireturn, 1) := by decide +kernel
theorem dX9_check_0 : decode cX9_check 0 = .ok (.aload_n 0, 1) := by decide +kernel
theorem dX9_check_1 : decode cX9_check 1 = .ok (.getfield 54, 3) := by decide +kernel
theorem dX9_check_4 : decode cX9_check 4 = .ok (.getfield 142, 3) := by decide +kernel
theorem dX9_check_7 : decode cX9_check 7 = .ok (.istore_n 1, 1) := by decide +kernel
theorem dX9_check_8 : decode cX9_check 8 = .ok (.aload_n 0, 1) := by decide +kernel
theorem dX9_check_9 : decode cX9_check 9 = .ok (.getfield 54, 3) := by decide +kernel
theorem dX9_check_12 : decode cX9_check 12 = .ok (.invokevirtual 145, 3) := by decide +kernel
theorem dX9_check_15 : decode cX9_check 15 = .ok (.aload_n 0, 1) := by decide +kernel
theorem dX9_check_16 : decode cX9_check 16 = .ok (.getfield 40, 3) := by decide +kernel
theorem dX9_check_19 : decode cX9_check 19 = .ok (.getfield 241, 3) := by decide +kernel
theorem dX9_check_22 : decode cX9_check 22 = .ok (.ifCond .ne 10, 3) := by decide +kernel
theorem dX9_check_25 : decode cX9_check 25 = .ok (.aload_n 0, 1) := by decide +kernel
theorem dX9_check_26 : decode cX9_check 26 = .ok (.ldc 103, 2) := by decide +kernel
theorem dX9_check_28 : decode cX9_check 28 = .ok (.invokevirtual 81, 3) := by decide +kernel
theorem dX9_check_31 : decode cX9_check 31 = .ok (.ireturn, 1) := by decide +kernel
theorem dX9_check_32 : decode cX9_check 32 = .ok (.iconst 0, 1) := by decide +kernel
theorem dX9_check_33 : decode cX9_check 33 = .ok (.istore_n 2, 1) := by decide +kernel
theorem dX9_check_34 : decode cX9_check 34 = .ok (.iload_n 2, 1) := by decide +kernel
theorem dX9_check_35 : decode cX9_check 35 = .ok (.bipush 6, 2) := by decide +kernel
theorem dX9_check_37 : decode cX9_check 37 = .ok (.if_icmp .ge 41, 3) := by decide +kernel
theorem dX9_check_40 : decode cX9_check 40 = .ok (.iload_n 2, 1) := by decide +kernel
theorem dX9_check_41 : decode cX9_check 41 = .ok (.iload_n 1, 1) := by decide +kernel
theorem dX9_check_42 : decode cX9_check 42 = .ok (.if_icmp .ge 26, 3) := by decide +kernel
theorem dX9_check_45 : decode cX9_check 45 = .ok (.aload_n 0, 1) := by decide +kernel
theorem dX9_check_46 : decode cX9_check 46 = .ok (.getfield 54, 3) := by decide +kernel
theorem dX9_check_49 : decode cX9_check 49 = .ok (.getfield 148, 3) := by decide +kernel
theorem dX9_check_52 : decode cX9_check 52 = .ok (.iload_n 2, 1) := by decide +kernel
theorem dX9_check_53 : decode cX9_check 53 = .ok (.iaload, 1) := by decide +kernel
theorem dX9_check_54 : decode cX9_check 54 = .ok (.i2l, 1) := by decide +kernel
theorem dX9_check_55 : decode cX9_check 55 = .ok (.aload_n 0, 1) := by decide +kernel
theorem dX9_check_56 : decode cX9_check 56 = .ok (.getfield 40, 3) := by decide +kernel
theorem dX9_check_59 : decode cX9_check 59 = .ok (.getfield 237, 3) := by decide +kernel
theorem dX9_check_62 : decode cX9_check 62 = .ok (.iload_n 2, 1) := by decide +kernel
theorem dX9_check_63 : decode cX9_check 63 = .ok (.laload, 1) := by decide +kernel
theorem dX9_check_64 : decode cX9_check 64 = .ok (.lcmp, 1) := by decide +kernel
theorem dX9_check_65 : decode cX9_check 65 = .ok (.ifCond .eq 7, 3) := by decide +kernel
theorem dX9_check_68 : decode cX9_check 68 = .ok (.iconst 1, 1) := by decide +kernel
theorem dX9_check_69 : decode cX9_check 69 = .ok (.iload_n 2, 1) := by decide +kernel
theorem dX9_check_70 : decode cX9_check 70 = .ok (.iadd, 1) := by decide +kernel
theorem dX9_check_71 : decode cX9_check 71 = .ok (.ireturn, 1) := by decide +kernel
theorem dX9_check_72 : decode cX9_check 72 = .ok (.iinc 2 1, 3) := by decide +kernel
theorem dX9_check_75 : decode cX9_check 75 = .ok (.goto (-41), 3) := by decide +kernel
theorem dX9_check_78 : decode cX9_check 78 = .ok (.iload_n 1, 1) := by decide +kernel
theorem dX9_check_79 : decode cX9_check 79 = .ok (.bipush 6, 2) := by decide +kernel
theorem dX9_check_81 : decode cX9_check 81 = .ok (.if_icmp .le 8, 3) := by decide +kernel
theorem dX9_check_84 : decode cX9_check 84 = .ok (.bipush 99, 2) := by decide +kernel
theorem dX9_check_86 : decode cX9_check 86 = .ok (.goto 4, 3) := by decide +kernel
theorem dX9_check_89 : decode cX9_check 89 = .ok (.iconst 0, 1) := by decide +kernel
theorem dX9_check_90 : decode cX9_check 90 = .ok (.ireturn, 1) := by decide +kernel
theorem dX9_found_0 : decode cX9_found 0 = .ok (.iload_n 1, 1) := by decide +kernel
theorem dX9_found_1 : decode cX9_found 1 = .ok (.ldc 88, 2) := by decide +kernel
theorem dX9_found_3 : decode cX9_found 3 = .ok (.ldc 80, 2) := by decide +kernel
theorem dX9_found_5 : decode cX9_found 5 = .ok (.invokestatic 73, 3) := by decide +kernel
theorem dX9_found_8 : decode cX9_found 8 = .ok (.ifCond .ne 10, 3) := by decide +kernel
theorem dX9_found_11 : decode cX9_found 11 = .ok (.aload_n 0, 1) := by decide +kernel
theorem dX9_found_12 : decode cX9_found 12 = .ok (.ldc 80, 2) := by decide +kernel
theorem dX9_found_14 : decode cX9_found 14 = .ok (.invokevirtual 81, 3) := by decide +kernel
theorem dX9_found_17 : decode cX9_found 17 = .ok (.ireturn, 1) := by decide +kernel
theorem dX9_found_18 : decode cX9_found 18 = .ok (.aload_n 0, 1) := by decide +kernel
theorem dX9_found_19 : decode cX9_found 19 = .ok (.getfield 58, 3) := by decide +kernel
theorem dX9_found_22 : decode cX9_found 22 = .ok (.ldc 80, 2) := by decide +kernel
theorem dX9_found_24 : decode cX9_found 24 = .ok (.iload_n 1, 1) := by decide +kernel
theorem dX9_found_25 : decode cX9_found 25 = .ok (.isub, 1) := by decide +kernel
theorem dX9_found_26 : decode cX9_found 26 = .ok (.iaload, 1) := by decide +kernel
theorem dX9_found_27 : decode cX9_found 27 = .ok (.ireturn, 1) := by decide +kernel
theorem dX9_answer_0 : decode cX9_answer 0 = .ok (.aload_n 0, 1) := by decide +kernel
theorem dX9_answer_1 : decode cX9_answer 1 = .ok (.getfield 58, 3) := by decide +kernel
theorem dX9_answer_4 : decode cX9_answer 4 = .ok (.ldc 80, 2) := by decide +kernel
theorem dX9_answer_6 : decode cX9_answer 6 = .ok (.iload_n 1, 1) := by decide +kernel
theorem dX9_answer_7 : decode cX9_answer 7 = .ok (.isub, 1) := by decide +kernel
theorem dX9_answer_8 : decode cX9_answer 8 = .ok (.dup2, 1) := by decide +kernel
theorem dX9_answer_9 : decode cX9_answer 9 = .ok (.iaload, 1) := by decide +kernel
theorem dX9_answer_10 : decode cX9_answer 10 = .ok (.iconst 1, 1) := by decide +kernel
theorem dX9_answer_11 : decode cX9_answer 11 = .ok (.iadd, 1) := by decide +kernel
theorem dX9_answer_12 : decode cX9_answer 12 = .ok (.iastore, 1) := by decide +kernel
theorem dX9_answer_13 : decode cX9_answer 13 = .ok (.iload_n 1, 1) := by decide +kernel
theorem dX9_answer_14 : decode cX9_answer 14 = .ok (.ireturn, 1) := by decide +kernel
theorem dX9_findingOfSight_0 : decode cX9_findingOfSight 0 = .ok (.aload_n 0, 1) := by decide +kernel
theorem dX9_findingOfSight_1 : decode cX9_findingOfSight 1 = .ok (.iload_n 1, 1) := by decide +kernel
theorem dX9_findingOfSight_2 : decode cX9_findingOfSight 2 = .ok (.invokevirtual 104, 3) := by decide +kernel
theorem dX9_findingOfSight_5 : decode cX9_findingOfSight 5 = .ok (.ifCond .eq 10, 3) := by decide +kernel
theorem dX9_findingOfSight_8 : decode cX9_findingOfSight 8 = .ok (.iload_n 2, 1) := by decide +kernel
theorem dX9_findingOfSight_9 : decode cX9_findingOfSight 9 = .ok (.invokestatic 151, 3) := by decide +kernel
theorem dX9_findingOfSight_12 : decode cX9_findingOfSight 12 = .ok (.ifCond .ne 6, 3) := by decide +kernel
theorem dX9_findingOfSight_15 : decode cX9_findingOfSight 15 = .ok (.ldc 80, 2) := by decide +kernel
theorem dX9_findingOfSight_17 : decode cX9_findingOfSight 17 = .ok (.ireturn, 1) := by decide +kernel
theorem dX9_findingOfSight_18 : decode cX9_findingOfSight 18 = .ok (.aload_n 0, 1) := by decide +kernel
theorem dX9_findingOfSight_19 : decode cX9_findingOfSight 19 = .ok (.getfield 19, 3) := by decide +kernel
theorem dX9_findingOfSight_22 : decode cX9_findingOfSight 22 = .ok (.iload_n 2, 1) := by decide +kernel
theorem dX9_findingOfSight_23 : decode cX9_findingOfSight 23 = .ok (.invokevirtual 139, 3) := by decide +kernel
theorem dX9_findingOfSight_26 : decode cX9_findingOfSight 26 = .ok (.ifCond .eq 8, 3) := by decide +kernel
theorem dX9_findingOfSight_29 : decode cX9_findingOfSight 29 = .ok (.ldc 103, 2) := by decide +kernel
theorem dX9_findingOfSight_31 : decode cX9_findingOfSight 31 = .ok (.goto 4, 3) := by decide +kernel
theorem dX9_findingOfSight_34 : decode cX9_findingOfSight 34 = .ok (.iconst 0, 1) := by decide +kernel
theorem dX9_findingOfSight_35 : decode cX9_findingOfSight 35 = .ok (.ireturn, 1) := by decide +kernel
theorem dX9_findingOfShade_0 : decode cX9_findingOfShade 0 = .ok (.aload_n 0, 1) := by decide +kernel
theorem dX9_findingOfShade_1 : decode cX9_findingOfShade 1 = .ok (.iload_n 1, 1) := by decide +kernel
theorem dX9_findingOfShade_2 : decode cX9_findingOfShade 2 = .ok (.iload_n 2, 1) := by decide +kernel
theorem dX9_findingOfShade_3 : decode cX9_findingOfShade 3 = .ok (.invokevirtual 167, 3) := by decide +kernel
theorem dX9_findingOfShade_6 : decode cX9_findingOfShade 6 = .ok (.istore_n 3, 1) := by decide +kernel
theorem dX9_findingOfShade_7 : decode cX9_findingOfShade 7 = .ok (.iload_n 3, 1) := by decide +kernel
theorem dX9_findingOfShade_8 : decode cX9_findingOfShade 8 = .ok (.ifCond .eq 5, 3) := by decide +kernel
theorem dX9_findingOfShade_11 : decode cX9_findingOfShade 11 = .ok (.iload_n 3, 1) := by decide +kernel
theorem dX9_findingOfShade_12 : decode cX9_findingOfShade 12 = .ok (.ireturn, 1) := by decide +kernel
theorem dX9_findingOfShade_13 : decode cX9_findingOfShade 13 = .ok (.aload_n 0, 1) := by decide +kernel
theorem dX9_findingOfShade_14 : decode cX9_findingOfShade 14 = .ok (.iload_n 2, 1) := by decide +kernel
theorem dX9_findingOfShade_15 : decode cX9_findingOfShade 15 = .ok (.invokevirtual 170, 3) := by decide +kernel
theorem dX9_findingOfShade_18 : decode cX9_findingOfShade 18 = .ok (.aload_n 0, 1) := by decide +kernel
theorem dX9_findingOfShade_19 : decode cX9_findingOfShade 19 = .ok (.getfield 10, 3) := by decide +kernel
theorem dX9_findingOfShade_22 : decode cX9_findingOfShade 22 = .ok (.getfield 174, 3) := by decide +kernel
theorem dX9_findingOfShade_25 : decode cX9_findingOfShade 25 = .ok (.iload_n 1, 1) := by decide +kernel
theorem dX9_findingOfShade_26 : decode cX9_findingOfShade 26 = .ok (.invokevirtual 275, 3) := by decide +kernel
theorem dX9_findingOfShade_29 : decode cX9_findingOfShade 29 = .ok (.ifCond .eq 7, 3) := by decide +kernel
theorem dX9_findingOfShade_32 : decode cX9_findingOfShade 32 = .ok (.iconst 0, 1) := by decide +kernel
theorem dX9_findingOfShade_33 : decode cX9_findingOfShade 33 = .ok (.goto 5, 3) := by decide +kernel
theorem dX9_findingOfShade_36 : decode cX9_findingOfShade 36 = .ok (.ldc 131, 2) := by decide +kernel
theorem dX9_findingOfShade_38 : decode cX9_findingOfShade 38 = .ok (.ireturn, 1) := by decide +kernel
theorem dX9_isRow_0 : decode cX9_isRow 0 = .ok (.iload_n 1, 1) := by decide +kernel
theorem dX9_isRow_1 : decode cX9_isRow 1 = .ok (.iconst 0, 1) := by decide +kernel
theorem dX9_isRow_2 : decode cX9_isRow 2 = .ok (.aload_n 0, 1) := by decide +kernel
theorem dX9_isRow_3 : decode cX9_isRow 3 = .ok (.getfield 10, 3) := by decide +kernel
theorem dX9_isRow_6 : decode cX9_isRow 6 = .ok (.getfield 89, 3) := by decide +kernel
theorem dX9_isRow_9 : decode cX9_isRow 9 = .ok (.iconst 1, 1) := by decide +kernel
theorem dX9_isRow_10 : decode cX9_isRow 10 = .ok (.isub, 1) := by decide +kernel
theorem dX9_isRow_11 : decode cX9_isRow 11 = .ok (.invokestatic 73, 3) := by decide +kernel
theorem dX9_isRow_14 : decode cX9_isRow 14 = .ok (.ireturn, 1) := by decide +kernel
theorem dX9_isWithin_0 : decode cX9_isWithin 0 = .ok (.iload_n 0, 1) := by decide +kernel
theorem dX9_isWithin_1 : decode cX9_isWithin 1 = .ok (.iload_n 1, 1) := by decide +kernel
theorem dX9_isWithin_2 : decode cX9_isWithin 2 = .ok (.if_icmp .lt 12, 3) := by decide +kernel
theorem dX9_isWithin_5 : decode cX9_isWithin 5 = .ok (.iload_n 0, 1) := by decide +kernel
theorem dX9_isWithin_6 : decode cX9_isWithin 6 = .ok (.iload_n 2, 1) := by decide +kernel
theorem dX9_isWithin_7 : decode cX9_isWithin 7 = .ok (.if_icmp .gt 7, 3) := by decide +kernel
theorem dX9_isWithin_10 : decode cX9_isWithin 10 = .ok (.iconst 1, 1) := by decide +kernel
theorem dX9_isWithin_11 : decode cX9_isWithin 11 = .ok (.goto 4, 3) := by decide +kernel
theorem dX9_isWithin_14 : decode cX9_isWithin 14 = .ok (.iconst 0, 1) := by decide +kernel
theorem dX9_isWithin_15 : decode cX9_isWithin 15 = .ok (.ireturn, 1) := by decide +kernel
theorem dX9_isKind_0 : decode cX9_isKind 0 = .ok (.iload_n 0, 1) := by decide +kernel
theorem dX9_isKind_1 : decode cX9_isKind 1 = .ok (.iconst 0, 1) := by decide +kernel
theorem dX9_isKind_2 : decode cX9_isKind 2 = .ok (.iconst 2, 1) := by decide +kernel
theorem dX9_isKind_3 : decode cX9_isKind 3 = .ok (.invokestatic 73, 3) := by decide +kernel
theorem dX9_isKind_6 : decode cX9_isKind 6 = .ok (.ireturn, 1) := by decide +kernel
theorem dX9_isStep_0 : decode cX9_isStep 0 = .ok (.iload_n 0, 1) := by decide +kernel
theorem dX9_isStep_1 : decode cX9_isStep 1 = .ok (.bipush (-12), 2) := by decide +kernel
theorem dX9_isStep_3 : decode cX9_isStep 3 = .ok (.bipush 12, 2) := by decide +kernel
theorem dX9_isStep_5 : decode cX9_isStep 5 = .ok (.invokestatic 73, 3) := by decide +kernel
theorem dX9_isStep_8 : decode cX9_isStep 8 = .ok (.ireturn, 1) := by decide +kernel
theorem dX9_isHour_0 : decode cX9_isHour 0 = .ok (.iload_n 0, 1) := by decide +kernel
theorem dX9_isHour_1 : decode cX9_isHour 1 = .ok (.iconst 0, 1) := by decide +kernel
theorem dX9_isHour_2 : decode cX9_isHour 2 = .ok (.bipush 23, 2) := by decide +kernel
theorem dX9_isHour_4 : decode cX9_isHour 4 = .ok (.invokestatic 73, 3) := by decide +kernel
theorem dX9_isHour_7 : decode cX9_isHour 7 = .ok (.ireturn, 1) := by decide +kernel
theorem dX9_isString_0 : decode cX9_isString 0 = .ok (.iload_n 0, 1) := by decide +kernel
theorem dX9_isString_1 : decode cX9_isString 1 = .ok (.iconst 0, 1) := by decide +kernel
theorem dX9_isString_2 : decode cX9_isString 2 = .ok (.iconst 3, 1) := by decide +kernel
theorem dX9_isString_3 : decode cX9_isString 3 = .ok (.invokestatic 73, 3) := by decide +kernel
theorem dX9_isString_6 : decode cX9_isString 6 = .ok (.ireturn, 1) := by decide +kernel
theorem dX9_isSunWay_0 : decode cX9_isSunWay 0 = .ok (.iload_n 0, 1) := by decide +kernel
theorem dX9_isSunWay_1 : decode cX9_isSunWay 1 = .ok (.invokestatic 151, 3) := by decide +kernel
theorem dX9_isSunWay_4 : decode cX9_isSunWay 4 = .ok (.ifCond .eq 31, 3) := by decide +kernel
theorem dX9_isSunWay_7 : decode cX9_isSunWay 7 = .ok (.iload_n 1, 1) := by decide +kernel
theorem dX9_isSunWay_8 : decode cX9_isSunWay 8 = .ok (.sipush (-1000), 3) := by decide +kernel
theorem dX9_isSunWay_11 : decode cX9_isSunWay 11 = .ok (.sipush 1000, 3) := by decide +kernel
theorem dX9_isSunWay_14 : decode cX9_isSunWay 14 = .ok (.invokestatic 73, 3) := by decide +kernel
theorem dX9_isSunWay_17 : decode cX9_isSunWay 17 = .ok (.ifCond .eq 18, 3) := by decide +kernel
theorem dX9_isSunWay_20 : decode cX9_isSunWay 20 = .ok (.iload_n 2, 1) := by decide +kernel
theorem dX9_isSunWay_21 : decode cX9_isSunWay 21 = .ok (.iconst 0, 1) := by decide +kernel
theorem dX9_isSunWay_22 : decode cX9_isSunWay 22 = .ok (.sipush 1000, 3) := by decide +kernel
theorem dX9_isSunWay_25 : decode cX9_isSunWay 25 = .ok (.invokestatic 73, 3) := by decide +kernel
theorem dX9_isSunWay_28 : decode cX9_isSunWay 28 = .ok (.ifCond .eq 7, 3) := by decide +kernel
theorem dX9_isSunWay_31 : decode cX9_isSunWay 31 = .ok (.iconst 1, 1) := by decide +kernel
theorem dX9_isSunWay_32 : decode cX9_isSunWay 32 = .ok (.goto 4, 3) := by decide +kernel
theorem dX9_isSunWay_35 : decode cX9_isSunWay 35 = .ok (.iconst 0, 1) := by decide +kernel
theorem dX9_isSunWay_36 : decode cX9_isSunWay 36 = .ok (.ireturn, 1) := by decide +kernel
theorem dX9_isWashPlan_0 : decode cX9_isWashPlan 0 = .ok (.iload_n 0, 1) := by decide +kernel
theorem dX9_isWashPlan_1 : decode cX9_isWashPlan 1 = .ok (.iconst 1, 1) := by decide +kernel
theorem dX9_isWashPlan_2 : decode cX9_isWashPlan 2 = .ok (.bipush 100, 2) := by decide +kernel
theorem dX9_isWashPlan_4 : decode cX9_isWashPlan 4 = .ok (.invokestatic 73, 3) := by decide +kernel
theorem dX9_isWashPlan_7 : decode cX9_isWashPlan 7 = .ok (.ifCond .eq 17, 3) := by decide +kernel
theorem dX9_isWashPlan_10 : decode cX9_isWashPlan 10 = .ok (.iload_n 1, 1) := by decide +kernel
theorem dX9_isWashPlan_11 : decode cX9_isWashPlan 11 = .ok (.iconst 0, 1) := by decide +kernel
theorem dX9_isWashPlan_12 : decode cX9_isWashPlan 12 = .ok (.ldc 200, 2) := by decide +kernel
theorem dX9_isWashPlan_14 : decode cX9_isWashPlan 14 = .ok (.invokestatic 73, 3) := by decide +kernel
theorem dX9_isWashPlan_17 : decode cX9_isWashPlan 17 = .ok (.ifCond .eq 7, 3) := by decide +kernel
theorem dX9_isWashPlan_20 : decode cX9_isWashPlan 20 = .ok (.iconst 1, 1) := by decide +kernel
theorem dX9_isWashPlan_21 : decode cX9_isWashPlan 21 = .ok (.goto 4, 3) := by decide +kernel
theorem dX9_isWashPlan_24 : decode cX9_isWashPlan 24 = .ok (.iconst 0, 1) := by decide +kernel
theorem dX9_isWashPlan_25 : decode cX9_isWashPlan 25 = .ok (.ireturn, 1) := by decide +kernel
theorem dX9_lookFrom_0 : decode cX9_lookFrom 0 = .ok (.aload_n 0, 1) := by decide +kernel
theorem dX9_lookFrom_1 : decode cX9_lookFrom 1 = .ok (.getfield 10, 3) := by decide +kernel
theorem dX9_lookFrom_4 : decode cX9_lookFrom 4 = .ok (.aload_n 0, 1) := by decide +kernel
theorem dX9_lookFrom_5 : decode cX9_lookFrom 5 = .ok (.getfield 19, 3) := by decide +kernel
theorem dX9_lookFrom_8 : decode cX9_lookFrom 8 = .ok (.getfield 154, 3) := by decide +kernel
theorem dX9_lookFrom_11 : decode cX9_lookFrom 11 = .ok (.iload_n 1, 1) := by decide +kernel
theorem dX9_lookFrom_12 : decode cX9_lookFrom 12 = .ok (.iaload, 1) := by decide +kernel
theorem dX9_lookFrom_13 : decode cX9_lookFrom 13 = .ok (.aload_n 0, 1) := by decide +kernel
theorem dX9_lookFrom_14 : decode cX9_lookFrom 14 = .ok (.getfield 19, 3) := by decide +kernel
theorem dX9_lookFrom_17 : decode cX9_lookFrom 17 = .ok (.getfield 157, 3) := by decide +kernel
theorem dX9_lookFrom_20 : decode cX9_lookFrom 20 = .ok (.iload_n 1, 1) := by decide +kernel
theorem dX9_lookFrom_21 : decode cX9_lookFrom 21 = .ok (.iaload, 1) := by decide +kernel
theorem dX9_lookFrom_22 : decode cX9_lookFrom 22 = .ok (.invokevirtual 278, 3) := by decide +kernel
theorem dX9_lookFrom_25 : decode cX9_lookFrom 25 = .ok (.return_, 1) := by decide +kernel
theorem dX9_passHour_0 : decode cX9_passHour 0 = .ok (.aload_n 0, 1) := by decide +kernel
theorem dX9_passHour_1 : decode cX9_passHour 1 = .ok (.getfield 62, 3) := by decide +kernel
theorem dX9_passHour_4 : decode cX9_passHour 4 = .ok (.istore_n 1, 1) := by decide +kernel
theorem dX9_passHour_5 : decode cX9_passHour 5 = .ok (.aload_n 0, 1) := by decide +kernel
theorem dX9_passHour_6 : decode cX9_passHour 6 = .ok (.getfield 40, 3) := by decide +kernel
theorem dX9_passHour_9 : decode cX9_passHour 9 = .ok (.getfield 241, 3) := by decide +kernel
theorem dX9_passHour_12 : decode cX9_passHour 12 = .ok (.ifCond .eq 18, 3) := by decide +kernel
theorem dX9_passHour_15 : decode cX9_passHour 15 = .ok (.aload_n 0, 1) := by decide +kernel
theorem dX9_passHour_16 : decode cX9_passHour 16 = .ok (.getfield 40, 3) := by decide +kernel
theorem dX9_passHour_19 : decode cX9_passHour 19 = .ok (.getfield 234, 3) := by decide +kernel
theorem dX9_passHour_22 : decode cX9_passHour 22 = .ok (.iconst 2, 1) := by decide +kernel
theorem dX9_passHour_23 : decode cX9_passHour 23 = .ok (.if_icmp .eq 7, 3) := by decide +kernel
theorem dX9_passHour_26 : decode cX9_passHour 26 = .ok (.iconst 1, 1) := by decide +kernel
theorem dX9_passHour_27 : decode cX9_passHour 27 = .ok (.goto 4, 3) := by decide +kernel
theorem dX9_passHour_30 : decode cX9_passHour 30 = .ok (.iconst 0, 1) := by decide +kernel
theorem dX9_passHour_31 : decode cX9_passHour 31 = .ok (.istore_n 2, 1) := by decide +kernel
theorem dX9_passHour_32 : decode cX9_passHour 32 = .ok (.aload_n 0, 1) := by decide +kernel
theorem dX9_passHour_33 : decode cX9_passHour 33 = .ok (.getfield 33, 3) := by decide +kernel
theorem dX9_passHour_36 : decode cX9_passHour 36 = .ok (.iload_n 1, 1) := by decide +kernel
theorem dX9_passHour_37 : decode cX9_passHour 37 = .ok (.invokevirtual 282, 3) := by decide +kernel
theorem dX9_passHour_40 : decode cX9_passHour 40 = .ok (.istore_n 3, 1) := by decide +kernel
theorem dX9_passHour_41 : decode cX9_passHour 41 = .ok (.aload_n 0, 1) := by decide +kernel
theorem dX9_passHour_42 : decode cX9_passHour 42 = .ok (.iload_n 1, 1) := by decide +kernel
theorem dX9_passHour_43 : decode cX9_passHour 43 = .ok (.iload_n 3, 1) := by decide +kernel
theorem dX9_passHour_44 : decode cX9_passHour 44 = .ok (.invokevirtual 285, 3) := by decide +kernel
theorem dX9_passHour_47 : decode cX9_passHour 47 = .ok (.istore 4, 2) := by decide +kernel
theorem dX9_passHour_49 : decode cX9_passHour 49 = .ok (.aload_n 0, 1) := by decide +kernel
theorem dX9_passHour_50 : decode cX9_passHour 50 = .ok (.getfield 10, 3) := by decide +kernel
theorem dX9_passHour_53 : decode cX9_passHour 53 = .ok (.iload 4, 2) := by decide +kernel
theorem dX9_passHour_55 : decode cX9_passHour 55 = .ok (.iload_n 2, 1) := by decide +kernel
theorem dX9_passHour_56 : decode cX9_passHour 56 = .ok (.ifCond .eq 15, 3) := by decide +kernel
theorem dX9_passHour_59 : decode cX9_passHour 59 = .ok (.iload_n 3, 1) := by decide +kernel
theorem dX9_passHour_60 : decode cX9_passHour 60 = .ok (.iconst 2, 1) := by decide +kernel
theorem dX9_passHour_61 : decode cX9_passHour 61 = .ok (.if_icmp .eq 10, 3) := by decide +kernel
theorem dX9_passHour_64 : decode cX9_passHour 64 = .ok (.aload_n 0, 1) := by decide +kernel
theorem dX9_passHour_65 : decode cX9_passHour 65 = .ok (.getfield 66, 3) := by decide +kernel
theorem dX9_passHour_68 : decode cX9_passHour 68 = .ok (.goto 5, 3) := by decide +kernel
theorem dX9_passHour_71 : decode cX9_passHour 71 = .ok (.iload 4, 2) := by decide +kernel
theorem dX9_passHour_73 : decode cX9_passHour 73 = .ok (.invokevirtual 288, 3) := by decide +kernel
theorem dX9_passHour_76 : decode cX9_passHour 76 = .ok (.aload_n 0, 1) := by decide +kernel
theorem dX9_passHour_77 : decode cX9_passHour 77 = .ok (.getfield 40, 3) := by decide +kernel
theorem dX9_passHour_80 : decode cX9_passHour 80 = .ok (.iload_n 1, 1) := by decide +kernel
theorem dX9_passHour_81 : decode cX9_passHour 81 = .ok (.iload_n 3, 1) := by decide +kernel
theorem dX9_passHour_82 : decode cX9_passHour 82 = .ok (.invokevirtual 291, 3) := by decide +kernel
theorem dX9_passHour_85 : decode cX9_passHour 85 = .ok (.aload_n 0, 1) := by decide +kernel
theorem dX9_passHour_86 : decode cX9_passHour 86 = .ok (.getfield 19, 3) := by decide +kernel
theorem dX9_passHour_89 : decode cX9_passHour 89 = .ok (.iload_n 1, 1) := by decide +kernel
theorem dX9_passHour_90 : decode cX9_passHour 90 = .ok (.invokevirtual 139, 3) := by decide +kernel
theorem dX9_passHour_93 : decode cX9_passHour 93 = .ok (.ifCond .ne 30, 3) := by decide +kernel
theorem dX9_passHour_96 : decode cX9_passHour 96 = .ok (.aload_n 0, 1) := by decide +kernel
theorem dX9_passHour_97 : decode cX9_passHour 97 = .ok (.iload_n 1, 1) := by decide +kernel
theorem dX9_passHour_98 : decode cX9_passHour 98 = .ok (.invokevirtual 170, 3) := by decide +kernel
theorem dX9_passHour_101 : decode cX9_passHour 101 = .ok (.aload_n 0, 1) := by decide +kernel
theorem dX9_passHour_102 : decode cX9_passHour 102 = .ok (.getfield 10, 3) := by decide +kernel
theorem dX9_passHour_105 : decode cX9_passHour 105 = .ok (.invokevirtual 210, 3) := by decide +kernel
theorem dX9_passHour_108 : decode cX9_passHour 108 = .ok (.aload_n 0, 1) := by decide +kernel
theorem dX9_passHour_109 : decode cX9_passHour 109 = .ok (.getfield 26, 3) := by decide +kernel
theorem dX9_passHour_112 : decode cX9_passHour 112 = .ok (.aload_n 0, 1) := by decide +kernel
theorem dX9_passHour_113 : decode cX9_passHour 113 = .ok (.getfield 40, 3) := by decide +kernel
theorem dX9_passHour_116 : decode cX9_passHour 116 = .ok (.aload_n 0, 1) := by decide +kernel
theorem dX9_passHour_117 : decode cX9_passHour 117 = .ok (.getfield 10, 3) := by decide +kernel
theorem dX9_passHour_120 : decode cX9_passHour 120 = .ok (.invokevirtual 293, 3) := by decide +kernel
theorem dX9_passHour_123 : decode cX9_passHour 123 = .ok (.aload_n 0, 1) := by decide +kernel
theorem dX9_passHour_124 : decode cX9_passHour 124 = .ok (.getfield 40, 3) := by decide +kernel
theorem dX9_passHour_127 : decode cX9_passHour 127 = .ok (.invokevirtual 297, 3) := by decide +kernel
theorem dX9_passHour_130 : decode cX9_passHour 130 = .ok (.iload_n 3, 1) := by decide +kernel
theorem dX9_passHour_131 : decode cX9_passHour 131 = .ok (.iconst 1, 1) := by decide +kernel
theorem dX9_passHour_132 : decode cX9_passHour 132 = .ok (.if_icmp .ne 10, 3) := by decide +kernel
theorem dX9_passHour_135 : decode cX9_passHour 135 = .ok (.aload_n 0, 1) := by decide +kernel
theorem dX9_passHour_136 : decode cX9_passHour 136 = .ok (.getfield 10, 3) := by decide +kernel
theorem dX9_passHour_139 : decode cX9_passHour 139 = .ok (.invokevirtual 300, 3) := by decide +kernel
theorem dX9_passHour_142 : decode cX9_passHour 142 = .ok (.aload_n 0, 1) := by decide +kernel
theorem dX9_passHour_143 : decode cX9_passHour 143 = .ok (.iload 4, 2) := by decide +kernel
theorem dX9_passHour_145 : decode cX9_passHour 145 = .ok (.putfield 66, 3) := by decide +kernel
theorem dX9_passHour_148 : decode cX9_passHour 148 = .ok (.aload_n 0, 1) := by decide +kernel
theorem dX9_passHour_149 : decode cX9_passHour 149 = .ok (.iload_n 1, 1) := by decide +kernel
theorem dX9_passHour_150 : decode cX9_passHour 150 = .ok (.iconst 1, 1) := by decide +kernel
theorem dX9_passHour_151 : decode cX9_passHour 151 = .ok (.iadd, 1) := by decide +kernel
theorem dX9_passHour_152 : decode cX9_passHour 152 = .ok (.bipush 24, 2) := by decide +kernel
theorem dX9_passHour_154 : decode cX9_passHour 154 = .ok (.irem, 1) := by decide +kernel
theorem dX9_passHour_155 : decode cX9_passHour 155 = .ok (.putfield 62, 3) := by decide +kernel
theorem dX9_passHour_158 : decode cX9_passHour 158 = .ok (.return_, 1) := by decide +kernel
theorem dX9_targetStep_0 : decode cX9_targetStep 0 = .ok (.iload_n 2, 1) := by decide +kernel
theorem dX9_targetStep_1 : decode cX9_targetStep 1 = .ok (.iconst 1, 1) := by decide +kernel
theorem dX9_targetStep_2 : decode cX9_targetStep 2 = .ok (.if_icmp .ne 6, 3) := by decide +kernel
theorem dX9_targetStep_5 : decode cX9_targetStep 5 = .ok (.bipush (-12), 2) := by decide +kernel
theorem dX9_targetStep_7 : decode cX9_targetStep 7 = .ok (.ireturn, 1) := by decide +kernel
theorem dX9_targetStep_8 : decode cX9_targetStep 8 = .ok (.iload_n 2, 1) := by decide +kernel
theorem dX9_targetStep_9 : decode cX9_targetStep 9 = .ok (.iconst 2, 1) := by decide +kernel
theorem dX9_targetStep_10 : decode cX9_targetStep 10 = .ok (.if_icmp .eq 14, 3) := by decide +kernel
theorem dX9_targetStep_13 : decode cX9_targetStep 13 = .ok (.aload_n 0, 1) := by decide +kernel
theorem dX9_targetStep_14 : decode cX9_targetStep 14 = .ok (.getfield 19, 3) := by decide +kernel
theorem dX9_targetStep_17 : decode cX9_targetStep 17 = .ok (.iload_n 1, 1) := by decide +kernel
theorem dX9_targetStep_18 : decode cX9_targetStep 18 = .ok (.invokevirtual 139, 3) := by decide +kernel
theorem dX9_targetStep_21 : decode cX9_targetStep 21 = .ok (.ifCond .eq 5, 3) := by decide +kernel
theorem dX9_targetStep_24 : decode cX9_targetStep 24 = .ok (.iconst 0, 1) := by decide +kernel
theorem dX9_targetStep_25 : decode cX9_targetStep 25 = .ok (.ireturn, 1) := by decide +kernel
theorem dX9_targetStep_26 : decode cX9_targetStep 26 = .ok (.aload_n 0, 1) := by decide +kernel
theorem dX9_targetStep_27 : decode cX9_targetStep 27 = .ok (.getfield 10, 3) := by decide +kernel
theorem dX9_targetStep_30 : decode cX9_targetStep 30 = .ok (.aload_n 0, 1) := by decide +kernel
theorem dX9_targetStep_31 : decode cX9_targetStep 31 = .ok (.getfield 19, 3) := by decide +kernel
theorem dX9_targetStep_34 : decode cX9_targetStep 34 = .ok (.getfield 154, 3) := by decide +kernel
theorem dX9_targetStep_37 : decode cX9_targetStep 37 = .ok (.iload_n 1, 1) := by decide +kernel
theorem dX9_targetStep_38 : decode cX9_targetStep 38 = .ok (.iaload, 1) := by decide +kernel
theorem dX9_targetStep_39 : decode cX9_targetStep 39 = .ok (.aload_n 0, 1) := by decide +kernel
theorem dX9_targetStep_40 : decode cX9_targetStep 40 = .ok (.getfield 19, 3) := by decide +kernel
theorem dX9_targetStep_43 : decode cX9_targetStep 43 = .ok (.getfield 157, 3) := by decide +kernel
theorem dX9_targetStep_46 : decode cX9_targetStep 46 = .ok (.iload_n 1, 1) := by decide +kernel
theorem dX9_targetStep_47 : decode cX9_targetStep 47 = .ok (.iaload, 1) := by decide +kernel
theorem dX9_targetStep_48 : decode cX9_targetStep 48 = .ok (.invokevirtual 164, 3) := by decide +kernel
theorem dX9_targetStep_51 : decode cX9_targetStep 51 = .ok (.istore_n 3, 1) := by decide +kernel
theorem dX9_targetStep_52 : decode cX9_targetStep 52 = .ok (.iload_n 3, 1) := by decide +kernel
theorem dX9_targetStep_53 : decode cX9_targetStep 53 = .ok (.bipush 99, 2) := by decide +kernel
theorem dX9_targetStep_55 : decode cX9_targetStep 55 = .ok (.if_icmp .ne 31, 3) := by decide +kernel
theorem dX9_targetStep_58 : decode cX9_targetStep 58 = .ok (.aload_n 0, 1) := by decide +kernel
theorem dX9_targetStep_59 : decode cX9_targetStep 59 = .ok (.getfield 10, 3) := by decide +kernel
theorem dX9_targetStep_62 : decode cX9_targetStep 62 = .ok (.aload_n 0, 1) := by decide +kernel
theorem dX9_targetStep_63 : decode cX9_targetStep 63 = .ok (.getfield 19, 3) := by decide +kernel
theorem dX9_targetStep_66 : decode cX9_targetStep 66 = .ok (.getfield 154, 3) := by decide +kernel
theorem dX9_targetStep_69 : decode cX9_targetStep 69 = .ok (.iload_n 1, 1) := by decide +kernel
theorem dX9_targetStep_70 : decode cX9_targetStep 70 = .ok (.iaload, 1) := by decide +kernel
theorem dX9_targetStep_71 : decode cX9_targetStep 71 = .ok (.aload_n 0, 1) := by decide +kernel
theorem dX9_targetStep_72 : decode cX9_targetStep 72 = .ok (.getfield 19, 3) := by decide +kernel
theorem dX9_targetStep_75 : decode cX9_targetStep 75 = .ok (.getfield 157, 3) := by decide +kernel
theorem dX9_targetStep_78 : decode cX9_targetStep 78 = .ok (.iload_n 1, 1) := by decide +kernel
theorem dX9_targetStep_79 : decode cX9_targetStep 79 = .ok (.iaload, 1) := by decide +kernel
theorem dX9_targetStep_80 : decode cX9_targetStep 80 = .ok (.invokevirtual 160, 3) := by decide +kernel
theorem dX9_targetStep_83 : decode cX9_targetStep 83 = .ok (.goto 4, 3) := by decide +kernel
theorem dX9_targetStep_86 : decode cX9_targetStep 86 = .ok (.iload_n 3, 1) := by decide +kernel
theorem dX9_targetStep_87 : decode cX9_targetStep 87 = .ok (.ireturn, 1) := by decide +kernel
theorem dX10_init_0 : decode cX10_init 0 = .ok (.aload_n 0, 1) := by decide +kernel
theorem dX10_init_1 : decode cX10_init 1 = .ok (.invokespecial 1, 3) := by decide +kernel
theorem dX10_init_4 : decode cX10_init 4 = .ok (.aload_n 0, 1) := by decide +kernel
theorem dX10_init_5 : decode cX10_init 5 = .ok (.bipush 10, 2) := by decide +kernel
theorem dX10_init_7 : decode cX10_init 7 = .ok (.newarray .int, 2) := by decide +kernel
theorem dX10_init_9 : decode cX10_init 9 = .ok (.putfield 9, 3) := by decide +kernel
theorem dX10_init_12 : decode cX10_init 12 = .ok (.aload_n 0, 1) := by decide +kernel
theorem dX10_init_13 : decode cX10_init 13 = .ok (.bipush 10, 2) := by decide +kernel
theorem dX10_init_15 : decode cX10_init 15 = .ok (.newarray .int, 2) := by decide +kernel
theorem dX10_init_17 : decode cX10_init 17 = .ok (.putfield 13, 3) := by decide +kernel
theorem dX10_init_20 : decode cX10_init 20 = .ok (.aload_n 0, 1) := by decide +kernel
theorem dX10_init_21 : decode cX10_init 21 = .ok (.bipush 10, 2) := by decide +kernel
theorem dX10_init_23 : decode cX10_init 23 = .ok (.newarray .int, 2) := by decide +kernel
theorem dX10_init_25 : decode cX10_init 25 = .ok (.putfield 16, 3) := by decide +kernel
theorem dX10_init_28 : decode cX10_init 28 = .ok (.aload_n 0, 1) := by decide +kernel
theorem dX10_init_29 : decode cX10_init 29 = .ok (.bipush 10, 2) := by decide +kernel
theorem dX10_init_31 : decode cX10_init 31 = .ok (.newarray .int, 2) := by decide +kernel
theorem dX10_init_33 : decode cX10_init 33 = .ok (.putfield 19, 3) := by decide +kernel
theorem dX10_init_36 : decode cX10_init 36 = .ok (.aload_n 0, 1) := by decide +kernel
theorem dX10_init_37 : decode cX10_init 37 = .ok (.bipush 10, 2) := by decide +kernel
theorem dX10_init_39 : decode cX10_init 39 = .ok (.newarray .int, 2) := by decide +kernel
theorem dX10_init_41 : decode cX10_init 41 = .ok (.putfield 22, 3) := by decide +kernel
theorem dX10_init_44 : decode cX10_init 44 = .ok (.aload_n 0, 1) := by decide +kernel
theorem dX10_init_45 : decode cX10_init 45 = .ok (.bipush 10, 2) := by decide +kernel
theorem dX10_init_47 : decode cX10_init 47 = .ok (.newarray .int, 2) := by decide +kernel
theorem dX10_init_49 : decode cX10_init 49 = .ok (.putfield 25, 3) := by decide +kernel
theorem dX10_init_52 : decode cX10_init 52 = .ok (.aload_n 0, 1) := by decide +kernel
theorem dX10_init_53 : decode cX10_init 53 = .ok (.bipush 10, 2) := by decide +kernel
theorem dX10_init_55 : decode cX10_init 55 = .ok (.newarray .int, 2) := by decide +kernel
theorem dX10_init_57 : decode cX10_init 57 = .ok (.putfield 28, 3) := by decide +kernel
theorem dX10_init_60 : decode cX10_init 60 = .ok (.aload_n 0, 1) := by decide +kernel
theorem dX10_init_61 : decode cX10_init 61 = .ok (.bipush 24, 2) := by decide +kernel
theorem dX10_init_63 : decode cX10_init 63 = .ok (.newarray .int, 2) := by decide +kernel
theorem dX10_init_65 : decode cX10_init 65 = .ok (.putfield 31, 3) := by decide +kernel
theorem dX10_init_68 : decode cX10_init 68 = .ok (.aload_n 0, 1) := by decide +kernel
theorem dX10_init_69 : decode cX10_init 69 = .ok (.bipush 24, 2) := by decide +kernel
theorem dX10_init_71 : decode cX10_init 71 = .ok (.newarray .int, 2) := by decide +kernel
theorem dX10_init_73 : decode cX10_init 73 = .ok (.putfield 34, 3) := by decide +kernel
theorem dX10_init_76 : decode cX10_init 76 = .ok (.aload_n 0, 1) := by decide +kernel
theorem dX10_init_77 : decode cX10_init 77 = .ok (.bipush 24, 2) := by decide +kernel
theorem dX10_init_79 : decode cX10_init 79 = .ok (.newarray .int, 2) := by decide +kernel
theorem dX10_init_81 : decode cX10_init 81 = .ok (.putfield 37, 3) := by decide +kernel
theorem dX10_init_84 : decode cX10_init 84 = .ok (.aload_n 0, 1) := by decide +kernel
theorem dX10_init_85 : decode cX10_init 85 = .ok (.bipush 24, 2) := by decide +kernel
theorem dX10_init_87 : decode cX10_init 87 = .ok (.newarray .boolean, 2) := by decide +kernel
theorem dX10_init_89 : decode cX10_init 89 = .ok (.putfield 40, 3) := by decide +kernel
theorem dX10_init_92 : decode cX10_init 92 = .ok (.aload_n 0, 1) := by decide +kernel
theorem dX10_init_93 : decode cX10_init 93 = .ok (.iconst 4, 1) := by decide +kernel
theorem dX10_init_94 : decode cX10_init 94 = .ok (.newarray .int, 2) := by decide +kernel
theorem dX10_init_96 : decode cX10_init 96 = .ok (.putfield 44, 3) := by decide +kernel
theorem dX10_init_99 : decode cX10_init 99 = .ok (.aload_n 0, 1) := by decide +kernel
theorem dX10_init_100 : decode cX10_init 100 = .ok (.bipush 50, 2) := by decide +kernel
theorem dX10_init_102 : decode cX10_init 102 = .ok (.putfield 47, 3) := by decide +kernel
theorem dX10_init_105 : decode cX10_init 105 = .ok (.aload_n 0, 1) := by decide +kernel
theorem dX10_init_106 : decode cX10_init 106 = .ok (.bipush 8, 2) := by decide +kernel
theorem dX10_init_108 : decode cX10_init 108 = .ok (.newarray .long, 2) := by decide +kernel
theorem dX10_init_110 : decode cX10_init 110 = .ok (.putfield 51, 3) := by decide +kernel
theorem dX10_init_113 : decode cX10_init 113 = .ok (.aload_n 0, 1) := by decide +kernel
theorem dX10_init_114 : decode cX10_init 114 = .ok (.bipush 6, 2) := by decide +kernel
theorem dX10_init_116 : decode cX10_init 116 = .ok (.newarray .long, 2) := by decide +kernel
theorem dX10_init_118 : decode cX10_init 118 = .ok (.putfield 55, 3) := by decide +kernel
theorem dX10_init_121 : decode cX10_init 121 = .ok (.aload_n 0, 1) := by decide +kernel
theorem dX10_init_122 : decode cX10_init 122 = .ok (.bipush 72, 2) := by decide +kernel
theorem dX10_init_124 : decode cX10_init 124 = .ok (.newarray .int, 2) := by decide +kernel
theorem dX10_init_126 : decode cX10_init 126 = .ok (.putfield 58, 3) := by decide +kernel
theorem dX10_init_129 : decode cX10_init 129 = .ok (.aload_n 0, 1) := by decide +kernel
theorem dX10_init_130 : decode cX10_init 130 = .ok (.bipush 6, 2) := by decide +kernel
theorem dX10_init_132 : decode cX10_init 132 = .ok (.newarray .int, 2) := by decide +kernel
theorem dX10_init_134 : decode cX10_init 134 = .ok (.putfield 61, 3) := by decide +kernel
theorem dX10_init_137 : decode cX10_init 137 = .ok (.aload_n 0, 1) := by decide +kernel
theorem dX10_init_138 : decode cX10_init 138 = .ok (.bipush 99, 2) := by decide +kernel
theorem dX10_init_140 : decode cX10_init 140 = .ok (.putfield 64, 3) := by decide +kernel
theorem dX10_init_143 : decode cX10_init 143 = .ok (.aload_n 0, 1) := by decide +kernel
theorem dX10_init_144 : decode cX10_init 144 = .ok (.bipush 10, 2) := by decide +kernel
theorem dX10_init_146 : decode cX10_init 146 = .ok (.newarray .long, 2) := by decide +kernel
theorem dX10_init_148 : decode cX10_init 148 = .ok (.putfield 67, 3) := by decide +kernel
theorem dX10_init_151 : decode cX10_init 151 = .ok (.iconst 0, 1) := by decide +kernel
theorem dX10_init_152 : decode cX10_init 152 = .ok (.istore_n 1, 1) := by decide +kernel
theorem dX10_init_153 : decode cX10_init 153 = .ok (.iload_n 1, 1) := by decide +kernel
theorem dX10_init_154 : decode cX10_init 154 = .ok (.bipush 24, 2) := by decide +kernel
theorem dX10_init_156 : decode cX10_init 156 = .ok (.if_icmp .ge 16, 3) := by decide +kernel
theorem dX10_init_159 : decode cX10_init 159 = .ok (.aload_n 0, 1) := by decide +kernel
theorem dX10_init_160 : decode cX10_init 160 = .ok (.getfield 37, 3) := by decide +kernel
theorem dX10_init_163 : decode cX10_init 163 = .ok (.iload_n 1, 1) := by decide +kernel
theorem dX10_init_164 : decode cX10_init 164 = .ok (.iconst (-1), 1) := by decide +kernel
theorem dX10_init_165 : decode cX10_init 165 = .ok (.iastore, 1) := by decide +kernel
theorem dX10_init_166 : decode cX10_init 166 = .ok (.iinc 1 1, 3) := by decide +kernel
theorem dX10_init_169 : decode cX10_init 169 = .ok (.goto (-16), 3) := by decide +kernel
theorem dX10_init_172 : decode cX10_init 172 = .ok (.iconst 0, 1) := by decide +kernel
theorem dX10_init_173 : decode cX10_init 173 = .ok (.istore_n 1, 1) := by decide +kernel
theorem dX10_init_174 : decode cX10_init 174 = .ok (.iload_n 1, 1) := by decide +kernel
theorem dX10_init_175 : decode cX10_init 175 = .ok (.iconst 4, 1) := by decide +kernel
theorem dX10_init_176 : decode cX10_init 176 = .ok (.if_icmp .ge 17, 3) := by decide +kernel
theorem dX10_init_179 : decode cX10_init 179 = .ok (.aload_n 0, 1) := by decide +kernel
theorem dX10_init_180 : decode cX10_init 180 = .ok (.getfield 44, 3) := by decide +kernel
theorem dX10_init_183 : decode cX10_init 183 = .ok (.iload_n 1, 1) := by decide +kernel
theorem dX10_init_184 : decode cX10_init 184 = .ok (.ldc 70, 2) := by decide +kernel
theorem dX10_init_186 : decode cX10_init 186 = .ok (.iastore, 1) := by decide +kernel
theorem dX10_init_187 : decode cX10_init 187 = .ok (.iinc 1 1, 3) := by decide +kernel
theorem dX10_init_190 : decode cX10_init 190 = .ok (.goto (-16), 3) := by decide +kernel
theorem dX10_init_193 : decode cX10_init 193 = .ok (.return_, 1) := by decide +kernel
theorem dX10_finding_0 : decode cX10_finding 0 = .ok (.aload_n 0, 1) := by decide +kernel
theorem dX10_finding_1 : decode cX10_finding 1 = .ok (.getfield 61, 3) := by decide +kernel
theorem dX10_finding_4 : decode cX10_finding 4 = .ok (.ldc 71, 2) := by decide +kernel
theorem dX10_finding_6 : decode cX10_finding 6 = .ok (.iload_n 1, 1) := by decide +kernel
theorem dX10_finding_7 : decode cX10_finding 7 = .ok (.isub, 1) := by decide +kernel
theorem dX10_finding_8 : decode cX10_finding 8 = .ok (.dup2, 1) := by decide +kernel
theorem dX10_finding_9 : decode cX10_finding 9 = .ok (.iaload, 1) := by decide +kernel
theorem dX10_finding_10 : decode cX10_finding 10 = .ok (.iconst 1, 1) := by decide +kernel
theorem dX10_finding_11 : decode cX10_finding 11 = .ok (.iadd, 1) := by decide +kernel
theorem dX10_finding_12 : decode cX10_finding 12 = .ok (.iastore, 1) := by decide +kernel
theorem dX10_finding_13 : decode cX10_finding 13 = .ok (.iload_n 1, 1) := by decide +kernel
theorem dX10_finding_14 : decode cX10_finding 14 = .ok (.ireturn, 1) := by decide +kernel
theorem dX10_in_0 : decode cX10_in 0 = .ok (.iload_n 0, 1) := by decide +kernel
theorem dX10_in_1 : decode cX10_in 1 = .ok (.iload_n 1, 1) := by decide +kernel
theorem dX10_in_2 : decode cX10_in 2 = .ok (.if_icmp .lt 12, 3) := by decide +kernel
theorem dX10_in_5 : decode cX10_in 5 = .ok (.iload_n 0, 1) := by decide +kernel
theorem dX10_in_6 : decode cX10_in 6 = .ok (.iload_n 2, 1) := by decide +kernel
theorem dX10_in_7 : decode cX10_in 7 = .ok (.if_icmp .gt 7, 3) := by decide +kernel
theorem dX10_in_10 : decode cX10_in 10 = .ok (.iconst 1, 1) := by decide +kernel
theorem dX10_in_11 : decode cX10_in 11 = .ok (.goto 4, 3) := by decide +kernel
theorem dX10_in_14 : decode cX10_in 14 = .ok (.iconst 0, 1) := by decide +kernel
theorem dX10_in_15 : decode cX10_in 15 = .ok (.ireturn, 1) := by decide +kernel
theorem dX10_isRow_0 : decode cX10_isRow 0 = .ok (.iload_n 1, 1) := by decide +kernel
theorem dX10_isRow_1 : decode cX10_isRow 1 = .ok (.iconst 0, 1) := by decide +kernel
theorem dX10_isRow_2 : decode cX10_isRow 2 = .ok (.aload_n 0, 1) := by decide +kernel
theorem dX10_isRow_3 : decode cX10_isRow 3 = .ok (.getfield 72, 3) := by decide +kernel
theorem dX10_isRow_6 : decode cX10_isRow 6 = .ok (.iconst 1, 1) := by decide +kernel
theorem dX10_isRow_7 : decode cX10_isRow 7 = .ok (.isub, 1) := by decide +kernel
theorem dX10_isRow_8 : decode cX10_isRow 8 = .ok (.invokestatic 75, 3) := by decide +kernel
theorem dX10_isRow_11 : decode cX10_isRow 11 = .ok (.ireturn, 1) := by decide +kernel
theorem dX10_isHour_0 : decode cX10_isHour 0 = .ok (.iload_n 0, 1) := by decide +kernel
theorem dX10_isHour_1 : decode cX10_isHour 1 = .ok (.iconst 0, 1) := by decide +kernel
theorem dX10_isHour_2 : decode cX10_isHour 2 = .ok (.bipush 23, 2) := by decide +kernel
theorem dX10_isHour_4 : decode cX10_isHour 4 = .ok (.invokestatic 75, 3) := by decide +kernel
theorem dX10_isHour_7 : decode cX10_isHour 7 = .ok (.ireturn, 1) := by decide +kernel
theorem dX10_isStep_0 : decode cX10_isStep 0 = .ok (.iload_n 0, 1) := by decide +kernel
theorem dX10_isStep_1 : decode cX10_isStep 1 = .ok (.bipush (-12), 2) := by decide +kernel
theorem dX10_isStep_3 : decode cX10_isStep 3 = .ok (.bipush 12, 2) := by decide +kernel
theorem dX10_isStep_5 : decode cX10_isStep 5 = .ok (.invokestatic 75, 3) := by decide +kernel
theorem dX10_isStep_8 : decode cX10_isStep 8 = .ok (.ireturn, 1) := by decide +kernel
theorem dX10_isNight_0 : decode cX10_isNight 0 = .ok (.aload_n 0, 1) := by decide +kernel
theorem dX10_isNight_1 : decode cX10_isNight 1 = .ok (.getfield 34, 3) := by decide +kernel
theorem dX10_isNight_4 : decode cX10_isNight 4 = .ok (.iload_n 1, 1) := by decide +kernel
theorem dX10_isNight_5 : decode cX10_isNight 5 = .ok (.iaload, 1) := by decide +kernel
theorem dX10_isNight_6 : decode cX10_isNight 6 = .ok (.ifCond .ne 7, 3) := by decide +kernel
theorem dX10_isNight_9 : decode cX10_isNight 9 = .ok (.iconst 1, 1) := by decide +kernel
theorem dX10_isNight_10 : decode cX10_isNight 10 = .ok (.goto 4, 3) := by decide +kernel
theorem dX10_isNight_13 : decode cX10_isNight 13 = .ok (.iconst 0, 1) := by decide +kernel
theorem dX10_isNight_14 : decode cX10_isNight 14 = .ok (.ireturn, 1) := by decide +kernel
theorem dX10_cosine_0 : decode cX10_cosine 0 = .ok (.iload_n 0, 1) := by decide +kernel
theorem dX10_cosine_1 : decode cX10_cosine 1 = .ok (.ifCond .ge 8, 3) := by decide +kernel
theorem dX10_cosine_4 : decode cX10_cosine 4 = .ok (.iload_n 0, 1) := by decide +kernel
theorem dX10_cosine_5 : decode cX10_cosine 5 = .ok (.ineg, 1) := by decide +kernel
theorem dX10_cosine_6 : decode cX10_cosine 6 = .ok (.goto 4, 3) := by decide +kernel
theorem dX10_cosine_9 : decode cX10_cosine 9 = .ok (.iload_n 0, 1) := by decide +kernel
theorem dX10_cosine_10 : decode cX10_cosine 10 = .ok (.tableswitch 110 0 11 #[62, 66, 70, 74, 78, 82, 86, 90, 94, 98, 102, 106], 62) := by decide +kernel
theorem dX10_cosine_72 : decode cX10_cosine 72 = .ok (.ldc2_w 79, 3) := by decide +kernel
theorem dX10_cosine_75 : decode cX10_cosine 75 = .ok (.lreturn, 1) := by decide +kernel
theorem dX10_cosine_76 : decode cX10_cosine 76 = .ok (.ldc2_w 81, 3) := by decide +kernel
theorem dX10_cosine_79 : decode cX10_cosine 79 = .ok (.lreturn, 1) := by decide +kernel
theorem dX10_cosine_80 : decode cX10_cosine 80 = .ok (.ldc2_w 83, 3) := by decide +kernel
theorem dX10_cosine_83 : decode cX10_cosine 83 = .ok (.lreturn, 1) := by decide +kernel
theorem dX10_cosine_84 : decode cX10_cosine 84 = .ok (.ldc2_w 85, 3) := by decide +kernel
theorem dX10_cosine_87 : decode cX10_cosine 87 = .ok (.lreturn, 1) := by decide +kernel
theorem dX10_cosine_88 : decode cX10_cosine 88 = .ok (.ldc2_w 87, 3) := by decide +kernel
theorem dX10_cosine_91 : decode cX10_cosine 91 = .ok (.lreturn, 1) := by decide +kernel
theorem dX10_cosine_92 : decode cX10_cosine 92 = .ok (.ldc2_w 89, 3) := by decide +kernel
theorem dX10_cosine_95 : decode cX10_cosine 95 = .ok (.lreturn, 1) := by decide +kernel
theorem dX10_cosine_96 : decode cX10_cosine 96 = .ok (.ldc2_w 91, 3) := by decide +kernel
theorem dX10_cosine_99 : decode cX10_cosine 99 = .ok (.lreturn, 1) := by decide +kernel
theorem dX10_cosine_100 : decode cX10_cosine 100 = .ok (.ldc2_w 93, 3) := by decide +kernel
theorem dX10_cosine_103 : decode cX10_cosine 103 = .ok (.lreturn, 1) := by decide +kernel
theorem dX10_cosine_104 : decode cX10_cosine 104 = .ok (.ldc2_w 95, 3) := by decide +kernel
theorem dX10_cosine_107 : decode cX10_cosine 107 = .ok (.lreturn, 1) := by decide +kernel
theorem dX10_cosine_108 : decode cX10_cosine 108 = .ok (.ldc2_w 97, 3) := by decide +kernel
theorem dX10_cosine_111 : decode cX10_cosine 111 = .ok (.lreturn, 1) := by decide +kernel
theorem dX10_cosine_112 : decode cX10_cosine 112 = .ok (.ldc2_w 99, 3) := by decide +kernel
theorem dX10_cosine_115 : decode cX10_cosine 115 = .ok (.lreturn, 1) := by decide +kernel
theorem dX10_cosine_116 : decode cX10_cosine 116 = .ok (.ldc2_w 101, 3) := by decide +kernel
theorem dX10_cosine_119 : decode cX10_cosine 119 = .ok (.lreturn, 1) := by decide +kernel
theorem dX10_cosine_120 : decode cX10_cosine 120 = .ok (.ldc2_w 103, 3) := by decide +kernel
theorem dX10_cosine_123 : decode cX10_cosine 123 = .ok (.lreturn, 1) := by decide +kernel
theorem dX10_sine_0 : decode cX10_sine 0 = .ok (.iload_n 0, 1) := by decide +kernel
theorem dX10_sine_1 : decode cX10_sine 1 = .ok (.ifCond .ge 8, 3) := by decide +kernel
theorem dX10_sine_4 : decode cX10_sine 4 = .ok (.iload_n 0, 1) := by decide +kernel
theorem dX10_sine_5 : decode cX10_sine 5 = .ok (.ineg, 1) := by decide +kernel
theorem dX10_sine_6 : decode cX10_sine 6 = .ok (.goto 4, 3) := by decide +kernel
theorem dX10_sine_9 : decode cX10_sine 9 = .ok (.iload_n 0, 1) := by decide +kernel
theorem dX10_sine_10 : decode cX10_sine 10 = .ok (.tableswitch 144 0 11 #[62, 67, 74, 81, 88, 95, 102, 109, 116, 123, 130, 137], 62) := by decide +kernel
theorem dX10_sine_72 : decode cX10_sine 72 = .ok (.lconst 0, 1) := by decide +kernel
theorem dX10_sine_73 : decode cX10_sine 73 = .ok (.lstore_n 1, 1) := by decide +kernel
theorem dX10_sine_74 : decode cX10_sine 74 = .ok (.goto 84, 3) := by decide +kernel
theorem dX10_sine_77 : decode cX10_sine 77 = .ok (.ldc2_w 105, 3) := by decide +kernel
theorem dX10_sine_80 : decode cX10_sine 80 = .ok (.lstore_n 1, 1) := by decide +kernel
theorem dX10_sine_81 : decode cX10_sine 81 = .ok (.goto 77, 3) := by decide +kernel
theorem dX10_sine_84 : decode cX10_sine 84 = .ok (.ldc2_w 107, 3) := by decide +kernel
theorem dX10_sine_87 : decode cX10_sine 87 = .ok (.lstore_n 1, 1) := by decide +kernel
theorem dX10_sine_88 : decode cX10_sine 88 = .ok (.goto 70, 3) := by decide +kernel
theorem dX10_sine_91 : decode cX10_sine 91 = .ok (.ldc2_w 109, 3) := by decide +kernel
theorem dX10_sine_94 : decode cX10_sine 94 = .ok (.lstore_n 1, 1) := by decide +kernel
theorem dX10_sine_95 : decode cX10_sine 95 = .ok (.goto 63, 3) := by decide +kernel
theorem dX10_sine_98 : decode cX10_sine 98 = .ok (.ldc2_w 111, 3) := by decide +kernel
theorem dX10_sine_101 : decode cX10_sine 101 = .ok (.lstore_n 1, 1) := by decide +kernel
theorem dX10_sine_102 : decode cX10_sine 102 = .ok (.goto 56, 3) := by decide +kernel
theorem dX10_sine_105 : decode cX10_sine 105 = .ok (.ldc2_w 113, 3) := by decide +kernel
theorem dX10_sine_108 : decode cX10_sine 108 = .ok (.lstore_n 1, 1) := by decide +kernel
theorem dX10_sine_109 : decode cX10_sine 109 = .ok (.goto 49, 3) := by decide +kernel
theorem dX10_sine_112 : decode cX10_sine 112 = .ok (.ldc2_w 103, 3) := by decide +kernel
theorem dX10_sine_115 : decode cX10_sine 115 = .ok (.lstore_n 1, 1) := by decide +kernel
theorem dX10_sine_116 : decode cX10_sine 116 = .ok (.goto 42, 3) := by decide +kernel
theorem dX10_sine_119 : decode cX10_sine 119 = .ok (.ldc2_w 101, 3) := by decide +kernel
theorem dX10_sine_122 : decode cX10_sine 122 = .ok (.lstore_n 1, 1) := by decide +kernel
theorem dX10_sine_123 : decode cX10_sine 123 = .ok (.goto 35, 3) := by decide +kernel
theorem dX10_sine_126 : decode cX10_sine 126 = .ok (.ldc2_w 99, 3) := by decide +kernel
theorem dX10_sine_129 : decode cX10_sine 129 = .ok (.lstore_n 1, 1) := by decide +kernel
theorem dX10_sine_130 : decode cX10_sine 130 = .ok (.goto 28, 3) := by decide +kernel
theorem dX10_sine_133 : decode cX10_sine 133 = .ok (.ldc2_w 97, 3) := by decide +kernel
theorem dX10_sine_136 : decode cX10_sine 136 = .ok (.lstore_n 1, 1) := by decide +kernel
theorem dX10_sine_137 : decode cX10_sine 137 = .ok (.goto 21, 3) := by decide +kernel
theorem dX10_sine_140 : decode cX10_sine 140 = .ok (.ldc2_w 95, 3) := by decide +kernel
theorem dX10_sine_143 : decode cX10_sine 143 = .ok (.lstore_n 1, 1) := by decide +kernel
theorem dX10_sine_144 : decode cX10_sine 144 = .ok (.goto 14, 3) := by decide +kernel
theorem dX10_sine_147 : decode cX10_sine 147 = .ok (.ldc2_w 93, 3) := by decide +kernel
theorem dX10_sine_150 : decode cX10_sine 150 = .ok (.lstore_n 1, 1) := by decide +kernel
theorem dX10_sine_151 : decode cX10_sine 151 = .ok (.goto 7, 3) := by decide +kernel
theorem dX10_sine_154 : decode cX10_sine 154 = .ok (.ldc2_w 91, 3) := by decide +kernel
theorem dX10_sine_157 : decode cX10_sine 157 = .ok (.lstore_n 1, 1) := by decide +kernel
theorem dX10_sine_158 : decode cX10_sine 158 = .ok (.iload_n 0, 1) := by decide +kernel
theorem dX10_sine_159 : decode cX10_sine 159 = .ok (.ifCond .ge 8, 3) := by decide +kernel
theorem dX10_sine_162 : decode cX10_sine 162 = .ok (.lload_n 1, 1) := by decide +kernel
theorem dX10_sine_163 : decode cX10_sine 163 = .ok (.lneg, 1) := by decide +kernel
theorem dX10_sine_164 : decode cX10_sine 164 = .ok (.goto 4, 3) := by decide +kernel
theorem dX10_sine_167 : decode cX10_sine 167 = .ok (.lload_n 1, 1) := by decide +kernel
theorem dX10_sine_168 : decode cX10_sine 168 = .ok (.lreturn, 1) := by decide +kernel
theorem dX10_row_0 : decode cX10_row 0 = .ok (.iload_n 1, 1) := by decide +kernel
theorem dX10_row_1 : decode cX10_row 1 = .ok (.iconst 0, 1) := by decide +kernel
theorem dX10_row_2 : decode cX10_row 2 = .ok (.iconst 2, 1) := by decide +kernel
theorem dX10_row_3 : decode cX10_row 3 = .ok (.invokestatic 75, 3) := by decide +kernel
theorem dX10_row_6 : decode cX10_row 6 = .ok (.ifCond .eq 53, 3) := by decide +kernel
theorem dX10_row_9 : decode cX10_row 9 = .ok (.iload_n 3, 1) := by decide +kernel
theorem dX10_row_10 : decode cX10_row 10 = .ok (.sipush (-1000), 3) := by decide +kernel
theorem dX10_row_13 : decode cX10_row 13 = .ok (.sipush 1000, 3) := by decide +kernel
theorem dX10_row_16 : decode cX10_row 16 = .ok (.invokestatic 75, 3) := by decide +kernel
theorem dX10_row_19 : decode cX10_row 19 = .ok (.ifCond .eq 40, 3) := by decide +kernel
theorem dX10_row_22 : decode cX10_row 22 = .ok (.iload 4, 2) := by decide +kernel
theorem dX10_row_24 : decode cX10_row 24 = .ok (.bipush 10, 2) := by decide +kernel
theorem dX10_row_26 : decode cX10_row 26 = .ok (.sipush 400, 3) := by decide +kernel
theorem dX10_row_29 : decode cX10_row 29 = .ok (.invokestatic 75, 3) := by decide +kernel
theorem dX10_row_32 : decode cX10_row 32 = .ok (.ifCond .eq 27, 3) := by decide +kernel
theorem dX10_row_35 : decode cX10_row 35 = .ok (.iload_n 1, 1) := by decide +kernel
theorem dX10_row_36 : decode cX10_row 36 = .ok (.iconst 1, 1) := by decide +kernel
theorem dX10_row_37 : decode cX10_row 37 = .ok (.if_icmp .ne 11, 3) := by decide +kernel
theorem dX10_row_40 : decode cX10_row 40 = .ok (.iload 5, 2) := by decide +kernel
theorem dX10_row_42 : decode cX10_row 42 = .ok (.invokestatic 115, 3) := by decide +kernel
theorem dX10_row_45 : decode cX10_row 45 = .ok (.ifCond .eq 14, 3) := by decide +kernel
theorem dX10_row_48 : decode cX10_row 48 = .ok (.iload_n 2, 1) := by decide +kernel
theorem dX10_row_49 : decode cX10_row 49 = .ok (.iconst 0, 1) := by decide +kernel
theorem dX10_row_50 : decode cX10_row 50 = .ok (.sipush 10000, 3) := by decide +kernel
theorem dX10_row_53 : decode cX10_row 53 = .ok (.invokestatic 75, 3) := by decide +kernel
theorem dX10_row_56 : decode cX10_row 56 = .ok (.ifCond .ne 10, 3) := by decide +kernel
theorem dX10_row_59 : decode cX10_row 59 = .ok (.aload_n 0, 1) := by decide +kernel
theorem dX10_row_60 : decode cX10_row 60 = .ok (.ldc 119, 2) := by decide +kernel
theorem dX10_row_62 : decode cX10_row 62 = .ok (.invokevirtual 120, 3) := by decide +kernel
theorem dX10_row_65 : decode cX10_row 65 = .ok (.ireturn, 1) := by decide +kernel
theorem dX10_row_66 : decode cX10_row 66 = .ok (.aload_n 0, 1) := by decide +kernel
theorem dX10_row_67 : decode cX10_row 67 = .ok (.getfield 72, 3) := by decide +kernel
theorem dX10_row_70 : decode cX10_row 70 = .ok (.ifCond .le 25, 3) := by decide +kernel
theorem dX10_row_73 : decode cX10_row 73 = .ok (.iload_n 2, 1) := by decide +kernel
theorem dX10_row_74 : decode cX10_row 74 = .ok (.aload_n 0, 1) := by decide +kernel
theorem dX10_row_75 : decode cX10_row 75 = .ok (.getfield 13, 3) := by decide +kernel
theorem dX10_row_78 : decode cX10_row 78 = .ok (.aload_n 0, 1) := by decide +kernel
theorem dX10_row_79 : decode cX10_row 79 = .ok (.getfield 72, 3) := by decide +kernel
theorem dX10_row_82 : decode cX10_row 82 = .ok (.iconst 1, 1) := by decide +kernel
theorem dX10_row_83 : decode cX10_row 83 = .ok (.isub, 1) := by decide +kernel
theorem dX10_row_84 : decode cX10_row 84 = .ok (.iaload, 1) := by decide +kernel
theorem dX10_row_85 : decode cX10_row 85 = .ok (.if_icmp .gt 10, 3) := by decide +kernel
theorem dX10_row_88 : decode cX10_row 88 = .ok (.aload_n 0, 1) := by decide +kernel
theorem dX10_row_89 : decode cX10_row 89 = .ok (.ldc 124, 2) := by decide +kernel
theorem dX10_row_91 : decode cX10_row 91 = .ok (.invokevirtual 120, 3) := by decide +kernel
theorem dX10_row_94 : decode cX10_row 94 = .ok (.ireturn, 1) := by decide +kernel
theorem dX10_row_95 : decode cX10_row 95 = .ok (.aload_n 0, 1) := by decide +kernel
theorem dX10_row_96 : decode cX10_row 96 = .ok (.getfield 72, 3) := by decide +kernel
theorem dX10_row_99 : decode cX10_row 99 = .ok (.bipush 10, 2) := by decide +kernel
theorem dX10_row_101 : decode cX10_row 101 = .ok (.if_icmp .ne 10, 3) := by decide +kernel
theorem dX10_row_104 : decode cX10_row 104 = .ok (.aload_n 0, 1) := by decide +kernel
theorem dX10_row_105 : decode cX10_row 105 = .ok (.ldc 125, 2) := by decide +kernel
theorem dX10_row_107 : decode cX10_row 107 = .ok (.invokevirtual 120, 3) := by decide +kernel
theorem dX10_row_110 : decode cX10_row 110 = .ok (.ireturn, 1) := by decide +kernel
theorem dX10_row_111 : decode cX10_row 111 = .ok (.aload_n 0, 1) := by decide +kernel
theorem dX10_row_112 : decode cX10_row 112 = .ok (.getfield 9, 3) := by decide +kernel
theorem dX10_row_115 : decode cX10_row 115 = .ok (.aload_n 0, 1) := by decide +kernel
theorem dX10_row_116 : decode cX10_row 116 = .ok (.getfield 72, 3) := by decide +kernel
theorem dX10_row_119 : decode cX10_row 119 = .ok (.iload_n 1, 1) := by decide +kernel
theorem dX10_row_120 : decode cX10_row 120 = .ok (.iastore, 1) := by decide +kernel
theorem dX10_row_121 : decode cX10_row 121 = .ok (.aload_n 0, 1) := by decide +kernel
theorem dX10_row_122 : decode cX10_row 122 = .ok (.getfield 13, 3) := by decide +kernel
theorem dX10_row_125 : decode cX10_row 125 = .ok (.aload_n 0, 1) := by decide +kernel
theorem dX10_row_126 : decode cX10_row 126 = .ok (.getfield 72, 3) := by decide +kernel
theorem dX10_row_129 : decode cX10_row 129 = .ok (.iload_n 2, 1) := by decide +kernel
theorem dX10_row_130 : decode cX10_row 130 = .ok (.iastore, 1) := by decide +kernel
theorem dX10_row_131 : decode cX10_row 131 = .ok (.aload_n 0, 1) := by decide +kernel
theorem dX10_row_132 : decode cX10_row 132 = .ok (.getfield 16, 3) := by decide +kernel
theorem dX10_row_135 : decode cX10_row 135 = .ok (.aload_n 0, 1) := by decide +kernel
theorem dX10_row_136 : decode cX10_row 136 = .ok (.getfield 72, 3) := by decide +kernel
theorem dX10_row_139 : decode cX10_row 139 = .ok (.iload_n 3, 1) := by decide +kernel
theorem dX10_row_140 : decode cX10_row 140 = .ok (.iastore, 1) := by decide +kernel
theorem dX10_row_141 : decode cX10_row 141 = .ok (.aload_n 0, 1) := by decide +kernel
theorem dX10_row_142 : decode cX10_row 142 = .ok (.getfield 19, 3) := by decide +kernel
theorem dX10_row_145 : decode cX10_row 145 = .ok (.aload_n 0, 1) := by decide +kernel
theorem dX10_row_146 : decode cX10_row 146 = .ok (.getfield 72, 3) := by decide +kernel
theorem dX10_row_149 : decode cX10_row 149 = .ok (.iload 4, 2) := by decide +kernel
theorem dX10_row_151 : decode cX10_row 151 = .ok (.iastore, 1) := by decide +kernel
theorem dX10_row_152 : decode cX10_row 152 = .ok (.aload_n 0, 1) := by decide +kernel
theorem dX10_row_153 : decode cX10_row 153 = .ok (.getfield 22, 3) := by decide +kernel
theorem dX10_row_156 : decode cX10_row 156 = .ok (.aload_n 0, 1) := by decide +kernel
theorem dX10_row_157 : decode cX10_row 157 = .ok (.getfield 72, 3) := by decide +kernel
theorem dX10_row_160 : decode cX10_row 160 = .ok (.iconst 0, 1) := by decide +kernel
theorem dX10_row_161 : decode cX10_row 161 = .ok (.iastore, 1) := by decide +kernel
theorem dX10_row_162 : decode cX10_row 162 = .ok (.aload_n 0, 1) := by decide +kernel
theorem dX10_row_163 : decode cX10_row 163 = .ok (.getfield 25, 3) := by decide +kernel
theorem dX10_row_166 : decode cX10_row 166 = .ok (.aload_n 0, 1) := by decide +kernel
theorem dX10_row_167 : decode cX10_row 167 = .ok (.getfield 72, 3) := by decide +kernel
theorem dX10_row_170 : decode cX10_row 170 = .ok (.iload_n 1, 1) := by decide +kernel
theorem dX10_row_171 : decode cX10_row 171 = .ok (.iconst 1, 1) := by decide +kernel
theorem dX10_row_172 : decode cX10_row 172 = .ok (.if_icmp .ne 8, 3) := by decide +kernel
theorem dX10_row_175 : decode cX10_row 175 = .ok (.iload 5, 2) := by decide +kernel
theorem dX10_row_177 : decode cX10_row 177 = .ok (.goto 4, 3) := by decide +kernel
theorem dX10_row_180 : decode cX10_row 180 = .ok (.iconst 0, 1) := by decide +kernel
theorem dX10_row_181 : decode cX10_row 181 = .ok (.iastore, 1) := by decide +kernel
theorem dX10_row_182 : decode cX10_row 182 = .ok (.aload_n 0, 1) := by decide +kernel
theorem dX10_row_183 : decode cX10_row 183 = .ok (.getfield 28, 3) := by decide +kernel
theorem dX10_row_186 : decode cX10_row 186 = .ok (.aload_n 0, 1) := by decide +kernel
theorem dX10_row_187 : decode cX10_row 187 = .ok (.getfield 72, 3) := by decide +kernel
theorem dX10_row_190 : decode cX10_row 190 = .ok (.iconst (-1), 1) := by decide +kernel
theorem dX10_row_191 : decode cX10_row 191 = .ok (.iastore, 1) := by decide +kernel
theorem dX10_row_192 : decode cX10_row 192 = .ok (.aload_n 0, 1) := by decide +kernel
theorem dX10_row_193 : decode cX10_row 193 = .ok (.dup, 1) := by decide +kernel
theorem dX10_row_194 : decode cX10_row 194 = .ok (.getfield 72, 3) := by decide +kernel
theorem dX10_row_197 : decode cX10_row 197 = .ok (.iconst 1, 1) := by decide +kernel
theorem dX10_row_198 : decode cX10_row 198 = .ok (.iadd, 1) := by decide +kernel
theorem dX10_row_199 : decode cX10_row 199 = .ok (.putfield 72, 3) := by decide +kernel
theorem dX10_row_202 : decode cX10_row 202 = .ok (.aload_n 0, 1) := by decide +kernel
theorem dX10_row_203 : decode cX10_row 203 = .ok (.getfield 72, 3) := by decide +kernel
theorem dX10_row_206 : decode cX10_row 206 = .ok (.iconst 1, 1) := by decide +kernel
theorem dX10_row_207 : decode cX10_row 207 = .ok (.isub, 1) := by decide +kernel
theorem dX10_row_208 : decode cX10_row 208 = .ok (.ireturn, 1) := by decide +kernel
theorem dX10_drop_0 : decode cX10_drop 0 = .ok (.aload_n 0, 1) := by decide +kernel
theorem dX10_drop_1 : decode cX10_drop 1 = .ok (.getfield 72, 3) := by decide +kernel
theorem dX10_drop_4 : decode cX10_drop 4 = .ok (.ifCond .ne 10, 3) := by decide +kernel
theorem dX10_drop_7 : decode cX10_drop 7 = .ok (.aload_n 0, 1) := by decide +kernel
theorem dX10_drop_8 : decode cX10_drop 8 = .ok (.ldc 126, 2) := by decide +kernel
theorem dX10_drop_10 : decode cX10_drop 10 = .ok (.invokevirtual 120, 3) := by decide +kernel
theorem dX10_drop_13 : decode cX10_drop 13 = .ok (.ireturn, 1) := by decide +kernel
theorem dX10_drop_14 : decode cX10_drop 14 = .ok (.aload_n 0, 1) := by decide +kernel
theorem dX10_drop_15 : decode cX10_drop 15 = .ok (.dup, 1) := by decide +kernel
theorem dX10_drop_16 : decode cX10_drop 16 = .ok (.getfield 72, 3) := by decide +kernel
theorem dX10_drop_19 : decode cX10_drop 19 = .ok (.iconst 1, 1) := by decide +kernel
theorem dX10_drop_20 : decode cX10_drop 20 = .ok (.isub, 1) := by decide +kernel
theorem dX10_drop_21 : decode cX10_drop 21 = .ok (.putfield 72, 3) := by decide +kernel
theorem dX10_drop_24 : decode cX10_drop 24 = .ok (.aload_n 0, 1) := by decide +kernel
theorem dX10_drop_25 : decode cX10_drop 25 = .ok (.getfield 72, 3) := by decide +kernel
theorem dX10_drop_28 : decode cX10_drop 28 = .ok (.ireturn, 1) := by decide +kernel
theorem dX10_about_0 : decode cX10_about 0 = .ok (.aload_n 0, 1) := by decide +kernel
theorem dX10_about_1 : decode cX10_about 1 = .ok (.iload_n 1, 1) := by decide +kernel
theorem dX10_about_2 : decode cX10_about 2 = .ok (.invokevirtual 127, 3) := by decide +kernel
theorem dX10_about_5 : decode cX10_about 5 = .ok (.ifCond .eq 13, 3) := by decide +kernel
theorem dX10_about_8 : decode cX10_about 8 = .ok (.iload_n 2, 1) := by decide +kernel
theorem dX10_about_9 : decode cX10_about 9 = .ok (.iconst 0, 1) := by decide +kernel
theorem dX10_about_10 : decode cX10_about 10 = .ok (.bipush 6, 2) := by decide +kernel
theorem dX10_about_12 : decode cX10_about 12 = .ok (.invokestatic 75, 3) := by decide +kernel
theorem dX10_about_15 : decode cX10_about 15 = .ok (.ifCond .ne 10, 3) := by decide +kernel
theorem dX10_about_18 : decode cX10_about 18 = .ok (.aload_n 0, 1) := by decide +kernel
theorem dX10_about_19 : decode cX10_about 19 = .ok (.ldc 119, 2) := by decide +kernel
theorem dX10_about_21 : decode cX10_about 21 = .ok (.invokevirtual 120, 3) := by decide +kernel
theorem dX10_about_24 : decode cX10_about 24 = .ok (.ireturn, 1) := by decide +kernel
theorem dX10_about_25 : decode cX10_about 25 = .ok (.iload_n 2, 1) := by decide +kernel
theorem dX10_about_26 : decode cX10_about 26 = .ok (.tableswitch 80 0 5 #[38, 45, 52, 59, 66, 73], 38) := by decide +kernel
theorem dX10_about_64 : decode cX10_about 64 = .ok (.aload_n 0, 1) := by decide +kernel
theorem dX10_about_65 : decode cX10_about 65 = .ok (.getfield 9, 3) := by decide +kernel
theorem dX10_about_68 : decode cX10_about 68 = .ok (.iload_n 1, 1) := by decide +kernel
theorem dX10_about_69 : decode cX10_about 69 = .ok (.iaload, 1) := by decide +kernel
theorem dX10_about_70 : decode cX10_about 70 = .ok (.ireturn, 1) := by decide +kernel
theorem dX10_about_71 : decode cX10_about 71 = .ok (.aload_n 0, 1) := by decide +kernel
theorem dX10_about_72 : decode cX10_about 72 = .ok (.getfield 13, 3) := by decide +kernel
theorem dX10_about_75 : decode cX10_about 75 = .ok (.iload_n 1, 1) := by decide +kernel
theorem dX10_about_76 : decode cX10_about 76 = .ok (.iaload, 1) := by decide +kernel
theorem dX10_about_77 : decode cX10_about 77 = .ok (.ireturn, 1) := by decide +kernel
theorem dX10_about_78 : decode cX10_about 78 = .ok (.aload_n 0, 1) := by decide +kernel
theorem dX10_about_79 : decode cX10_about 79 = .ok (.getfield 16, 3) := by decide +kernel
theorem dX10_about_82 : decode cX10_about 82 = .ok (.iload_n 1, 1) := by decide +kernel
theorem dX10_about_83 : decode cX10_about 83 = .ok (.iaload, 1) := by decide +kernel
theorem dX10_about_84 : decode cX10_about 84 = .ok (.ireturn, 1) := by decide +kernel
theorem dX10_about_85 : decode cX10_about 85 = .ok (.aload_n 0, 1) := by decide +kernel
theorem dX10_about_86 : decode cX10_about 86 = .ok (.getfield 19, 3) := by decide +kernel
theorem dX10_about_89 : decode cX10_about 89 = .ok (.iload_n 1, 1) := by decide +kernel
theorem dX10_about_90 : decode cX10_about 90 = .ok (.iaload, 1) := by decide +kernel
theorem dX10_about_91 : decode cX10_about 91 = .ok (.ireturn, 1) := by decide +kernel
theorem dX10_about_92 : decode cX10_about 92 = .ok (.aload_n 0, 1) := by decide +kernel
theorem dX10_about_93 : decode cX10_about 93 = .ok (.getfield 22, 3) := by decide +kernel
theorem dX10_about_96 : decode cX10_about 96 = .ok (.iload_n 1, 1) := by decide +kernel
theorem dX10_about_97 : decode cX10_about 97 = .ok (.iaload, 1) := by decide +kernel
theorem dX10_about_98 : decode cX10_about 98 = .ok (.ireturn, 1) := by decide +kernel
theorem dX10_about_99 : decode cX10_about 99 = .ok (.aload_n 0, 1) := by decide +kernel
theorem dX10_about_100 : decode cX10_about 100 = .ok (.getfield 25, 3) := by decide +kernel
theorem dX10_about_103 : decode cX10_about 103 = .ok (.iload_n 1, 1) := by decide +kernel
theorem dX10_about_104 : decode cX10_about 104 = .ok (.iaload, 1) := by decide +kernel
theorem dX10_about_105 : decode cX10_about 105 = .ok (.ireturn, 1) := by decide +kernel
theorem dX10_about_106 : decode cX10_about 106 = .ok (.aload_n 0, 1) := by decide +kernel
theorem dX10_about_107 : decode cX10_about 107 = .ok (.getfield 28, 3) := by decide +kernel
theorem dX10_about_110 : decode cX10_about 110 = .ok (.iload_n 1, 1) := by decide +kernel
theorem dX10_about_111 : decode cX10_about 111 = .ok (.iaload, 1) := by decide +kernel
theorem dX10_about_112 : decode cX10_about 112 = .ok (.ireturn, 1) := by decide +kernel
theorem dX10_as_0 : decode cX10_as 0 = .ok (.aload_n 0, 1) := by decide +kernel
theorem dX10_as_1 : decode cX10_as 1 = .ok (.iload_n 1, 1) := by decide +kernel
theorem dX10_as_2 : decode cX10_as 2 = .ok (.invokevirtual 127, 3) := by decide +kernel
theorem dX10_as_5 : decode cX10_as 5 = .ok (.ifCond .eq 12, 3) := by decide +kernel
theorem dX10_as_8 : decode cX10_as 8 = .ok (.iload_n 2, 1) := by decide +kernel
theorem dX10_as_9 : decode cX10_as 9 = .ok (.iconst 0, 1) := by decide +kernel
theorem dX10_as_10 : decode cX10_as 10 = .ok (.iconst 2, 1) := by decide +kernel
theorem dX10_as_11 : decode cX10_as 11 = .ok (.invokestatic 75, 3) := by decide +kernel
theorem dX10_as_14 : decode cX10_as 14 = .ok (.ifCond .ne 10, 3) := by decide +kernel
theorem dX10_as_17 : decode cX10_as 17 = .ok (.aload_n 0, 1) := by decide +kernel
theorem dX10_as_18 : decode cX10_as 18 = .ok (.ldc 119, 2) := by decide +kernel
theorem dX10_as_20 : decode cX10_as 20 = .ok (.invokevirtual 120, 3) := by decide +kernel
theorem dX10_as_23 : decode cX10_as 23 = .ok (.ireturn, 1) := by decide +kernel
theorem dX10_as_24 : decode cX10_as 24 = .ok (.iload_n 2, 1) := by decide +kernel
theorem dX10_as_25 : decode cX10_as 25 = .ok (.ifCond .eq 13, 3) := by decide +kernel
theorem dX10_as_28 : decode cX10_as 28 = .ok (.aload_n 0, 1) := by decide +kernel
theorem dX10_as_29 : decode cX10_as 29 = .ok (.getfield 9, 3) := by decide +kernel
theorem dX10_as_32 : decode cX10_as 32 = .ok (.iload_n 1, 1) := by decide +kernel
theorem dX10_as_33 : decode cX10_as 33 = .ok (.iaload, 1) := by decide +kernel
theorem dX10_as_34 : decode cX10_as 34 = .ok (.iload_n 2, 1) := by decide +kernel
theorem dX10_as_35 : decode cX10_as 35 = .ok (.if_icmp .ne 12, 3) := by decide +kernel
theorem dX10_as_38 : decode cX10_as 38 = .ok (.aload_n 0, 1) := by decide +kernel
theorem dX10_as_39 : decode cX10_as 39 = .ok (.getfield 25, 3) := by decide +kernel
theorem dX10_as_42 : decode cX10_as 42 = .ok (.iload_n 1, 1) := by decide +kernel
theorem dX10_as_43 : decode cX10_as 43 = .ok (.iaload, 1) := by decide +kernel
theorem dX10_as_44 : decode cX10_as 44 = .ok (.goto 9, 3) := by decide +kernel
theorem dX10_as_47 : decode cX10_as 47 = .ok (.aload_n 0, 1) := by decide +kernel
theorem dX10_as_48 : decode cX10_as 48 = .ok (.ldc 130, 2) := by decide +kernel
theorem dX10_as_50 : decode cX10_as 50 = .ok (.invokevirtual 120, 3) := by decide +kernel
theorem dX10_as_53 : decode cX10_as 53 = .ok (.ireturn, 1) := by decide +kernel
theorem dX10_turn_0 : decode cX10_turn 0 = .ok (.aload_n 0, 1) := by decide +kernel
theorem dX10_turn_1 : decode cX10_turn 1 = .ok (.iload_n 1, 1) := by decide +kernel
theorem dX10_turn_2 : decode cX10_turn 2 = .ok (.invokevirtual 127, 3) := by decide +kernel
theorem dX10_turn_5 : decode cX10_turn 5 = .ok (.ifCond .eq 10, 3) := by decide +kernel
theorem dX10_turn_8 : decode cX10_turn 8 = .ok (.iload_n 2, 1) := by decide +kernel
theorem dX10_turn_9 : decode cX10_turn 9 = .ok (.invokestatic 115, 3) := by decide +kernel
theorem dX10_turn_12 : decode cX10_turn 12 = .ok (.ifCond .ne 10, 3) := by decide +kernel
theorem dX10_turn_15 : decode cX10_turn 15 = .ok (.aload_n 0, 1) := by decide +kernel
theorem dX10_turn_16 : decode cX10_turn 16 = .ok (.ldc 119, 2) := by decide +kernel
theorem dX10_turn_18 : decode cX10_turn 18 = .ok (.invokevirtual 120, 3) := by decide +kernel
theorem dX10_turn_21 : decode cX10_turn 21 = .ok (.ireturn, 1) := by decide +kernel
theorem dX10_turn_22 : decode cX10_turn 22 = .ok (.aload_n 0, 1) := by decide +kernel
theorem dX10_turn_23 : decode cX10_turn 23 = .ok (.getfield 9, 3) := by decide +kernel
theorem dX10_turn_26 : decode cX10_turn 26 = .ok (.iload_n 1, 1) := by decide +kernel
theorem dX10_turn_27 : decode cX10_turn 27 = .ok (.iaload, 1) := by decide +kernel
theorem dX10_turn_28 : decode cX10_turn 28 = .ok (.iconst 1, 1) := by decide +kernel
theorem dX10_turn_29 : decode cX10_turn 29 = .ok (.if_icmp .ne 10, 3) := by decide +kernel
theorem dX10_turn_32 : decode cX10_turn 32 = .ok (.aload_n 0, 1) := by decide +kernel
theorem dX10_turn_33 : decode cX10_turn 33 = .ok (.ldc 130, 2) := by decide +kernel
theorem dX10_turn_35 : decode cX10_turn 35 = .ok (.invokevirtual 120, 3) := by decide +kernel
theorem dX10_turn_38 : decode cX10_turn 38 = .ok (.ireturn, 1) := by decide +kernel
theorem dX10_turn_39 : decode cX10_turn 39 = .ok (.aload_n 0, 1) := by decide +kernel
theorem dX10_turn_40 : decode cX10_turn 40 = .ok (.getfield 25, 3) := by decide +kernel
theorem dX10_turn_43 : decode cX10_turn 43 = .ok (.iload_n 1, 1) := by decide +kernel
theorem dX10_turn_44 : decode cX10_turn 44 = .ok (.iaload, 1) := by decide +kernel
theorem dX10_turn_45 : decode cX10_turn 45 = .ok (.istore_n 3, 1) := by decide +kernel
theorem dX10_turn_46 : decode cX10_turn 46 = .ok (.aload_n 0, 1) := by decide +kernel
theorem dX10_turn_47 : decode cX10_turn 47 = .ok (.getfield 25, 3) := by decide +kernel
theorem dX10_turn_50 : decode cX10_turn 50 = .ok (.iload_n 1, 1) := by decide +kernel
theorem dX10_turn_51 : decode cX10_turn 51 = .ok (.iload_n 2, 1) := by decide +kernel
theorem dX10_turn_52 : decode cX10_turn 52 = .ok (.iastore, 1) := by decide +kernel
theorem dX10_turn_53 : decode cX10_turn 53 = .ok (.iload_n 3, 1) := by decide +kernel
theorem dX10_turn_54 : decode cX10_turn 54 = .ok (.ireturn, 1) := by decide +kernel
theorem dX10_dust_0 : decode cX10_dust 0 = .ok (.aload_n 0, 1) := by decide +kernel
theorem dX10_dust_1 : decode cX10_dust 1 = .ok (.iload_n 1, 1) := by decide +kernel
theorem dX10_dust_2 : decode cX10_dust 2 = .ok (.invokevirtual 127, 3) := by decide +kernel
theorem dX10_dust_5 : decode cX10_dust 5 = .ok (.ifCond .eq 14, 3) := by decide +kernel
theorem dX10_dust_8 : decode cX10_dust 8 = .ok (.iload_n 2, 1) := by decide +kernel
theorem dX10_dust_9 : decode cX10_dust 9 = .ok (.iconst 0, 1) := by decide +kernel
theorem dX10_dust_10 : decode cX10_dust 10 = .ok (.sipush 1000, 3) := by decide +kernel
theorem dX10_dust_13 : decode cX10_dust 13 = .ok (.invokestatic 75, 3) := by decide +kernel
theorem dX10_dust_16 : decode cX10_dust 16 = .ok (.ifCond .ne 10, 3) := by decide +kernel
theorem dX10_dust_19 : decode cX10_dust 19 = .ok (.aload_n 0, 1) := by decide +kernel
theorem dX10_dust_20 : decode cX10_dust 20 = .ok (.ldc 119, 2) := by decide +kernel
theorem dX10_dust_22 : decode cX10_dust 22 = .ok (.invokevirtual 120, 3) := by decide +kernel
theorem dX10_dust_25 : decode cX10_dust 25 = .ok (.ireturn, 1) := by decide +kernel
theorem dX10_dust_26 : decode cX10_dust 26 = .ok (.aload_n 0, 1) := by decide +kernel
theorem dX10_dust_27 : decode cX10_dust 27 = .ok (.getfield 22, 3) := by decide +kernel
theorem dX10_dust_30 : decode cX10_dust 30 = .ok (.iload_n 1, 1) := by decide +kernel
theorem dX10_dust_31 : decode cX10_dust 31 = .ok (.iaload, 1) := by decide +kernel
theorem dX10_dust_32 : decode cX10_dust 32 = .ok (.istore_n 3, 1) := by decide +kernel
theorem dX10_dust_33 : decode cX10_dust 33 = .ok (.aload_n 0, 1) := by decide +kernel
theorem dX10_dust_34 : decode cX10_dust 34 = .ok (.getfield 22, 3) := by decide +kernel
theorem dX10_dust_37 : decode cX10_dust 37 = .ok (.iload_n 1, 1) := by decide +kernel
theorem dX10_dust_38 : decode cX10_dust 38 = .ok (.iload_n 2, 1) := by decide +kernel
theorem dX10_dust_39 : decode cX10_dust 39 = .ok (.iastore, 1) := by decide +kernel
theorem dX10_dust_40 : decode cX10_dust 40 = .ok (.iload_n 3, 1) := by decide +kernel
theorem dX10_dust_41 : decode cX10_dust 41 = .ok (.ireturn, 1) := by decide +kernel
theorem dX10_isSun_0 : decode cX10_isSun 0 = .ok (.iload_n 0, 1) := by decide +kernel
theorem dX10_isSun_1 : decode cX10_isSun 1 = .ok (.invokestatic 131, 3) := by decide +kernel
theorem dX10_isSun_4 : decode cX10_isSun 4 = .ok (.ifCond .eq 31, 3) := by decide +kernel
theorem dX10_isSun_7 : decode cX10_isSun 7 = .ok (.iload_n 1, 1) := by decide +kernel
theorem dX10_isSun_8 : decode cX10_isSun 8 = .ok (.sipush (-1000), 3) := by decide +kernel
theorem dX10_isSun_11 : decode cX10_isSun 11 = .ok (.sipush 1000, 3) := by decide +kernel
theorem dX10_isSun_14 : decode cX10_isSun 14 = .ok (.invokestatic 75, 3) := by decide +kernel
theorem dX10_isSun_17 : decode cX10_isSun 17 = .ok (.ifCond .eq 18, 3) := by decide +kernel
theorem dX10_isSun_20 : decode cX10_isSun 20 = .ok (.iload_n 2, 1) := by decide +kernel
theorem dX10_isSun_21 : decode cX10_isSun 21 = .ok (.iconst 0, 1) := by decide +kernel
theorem dX10_isSun_22 : decode cX10_isSun 22 = .ok (.sipush 1000, 3) := by decide +kernel
theorem dX10_isSun_25 : decode cX10_isSun 25 = .ok (.invokestatic 75, 3) := by decide +kernel
theorem dX10_isSun_28 : decode cX10_isSun 28 = .ok (.ifCond .eq 7, 3) := by decide +kernel
theorem dX10_isSun_31 : decode cX10_isSun 31 = .ok (.iconst 1, 1) := by decide +kernel
theorem dX10_isSun_32 : decode cX10_isSun 32 = .ok (.goto 4, 3) := by decide +kernel
theorem dX10_isSun_35 : decode cX10_isSun 35 = .ok (.iconst 0, 1) := by decide +kernel
theorem dX10_isSun_36 : decode cX10_isSun 36 = .ok (.ireturn, 1) := by decide +kernel
theorem dX10_setSun_0 : decode cX10_setSun 0 = .ok (.aload_n 0, 1) := by decide +kernel
theorem dX10_setSun_1 : decode cX10_setSun 1 = .ok (.getfield 31, 3) := by decide +kernel
theorem dX10_setSun_4 : decode cX10_setSun 4 = .ok (.iload_n 1, 1) := by decide +kernel
theorem dX10_setSun_5 : decode cX10_setSun 5 = .ok (.iload_n 2, 1) := by decide +kernel
theorem dX10_setSun_6 : decode cX10_setSun 6 = .ok (.iastore, 1) := by decide +kernel
theorem dX10_setSun_7 : decode cX10_setSun 7 = .ok (.aload_n 0, 1) := by decide +kernel
theorem dX10_setSun_8 : decode cX10_setSun 8 = .ok (.getfield 34, 3) := by decide +kernel
theorem dX10_setSun_11 : decode cX10_setSun 11 = .ok (.iload_n 1, 1) := by decide +kernel
theorem dX10_setSun_12 : decode cX10_setSun 12 = .ok (.iload_n 3, 1) := by decide +kernel
theorem dX10_setSun_13 : decode cX10_setSun 13 = .ok (.iastore, 1) := by decide +kernel
theorem dX10_setSun_14 : decode cX10_setSun 14 = .ok (.return_, 1) := by decide +kernel
theorem dX10_sun_0 : decode cX10_sun 0 = .ok (.iload_n 1, 1) := by decide +kernel
theorem dX10_sun_1 : decode cX10_sun 1 = .ok (.iload_n 2, 1) := by decide +kernel
theorem dX10_sun_2 : decode cX10_sun 2 = .ok (.iload_n 3, 1) := by decide +kernel
theorem dX10_sun_3 : decode cX10_sun 3 = .ok (.invokestatic 134, 3) := by decide +kernel
theorem dX10_sun_6 : decode cX10_sun 6 = .ok (.ifCond .ne 10, 3) := by decide +kernel
theorem dX10_sun_9 : decode cX10_sun 9 = .ok (.aload_n 0, 1) := by decide +kernel
theorem dX10_sun_10 : decode cX10_sun 10 = .ok (.ldc 119, 2) := by decide +kernel
theorem dX10_sun_12 : decode cX10_sun 12 = .ok (.invokevirtual 120, 3) := by decide +kernel
theorem dX10_sun_15 : decode cX10_sun 15 = .ok (.ireturn, 1) := by decide +kernel
theorem dX10_sun_16 : decode cX10_sun 16 = .ok (.aload_n 0, 1) := by decide +kernel
theorem dX10_sun_17 : decode cX10_sun 17 = .ok (.iload_n 1, 1) := by decide +kernel
theorem dX10_sun_18 : decode cX10_sun 18 = .ok (.iload_n 2, 1) := by decide +kernel
theorem dX10_sun_19 : decode cX10_sun 19 = .ok (.iload_n 3, 1) := by decide +kernel
theorem dX10_sun_20 : decode cX10_sun 20 = .ok (.invokevirtual 137, 3) := by decide +kernel
theorem dX10_sun_23 : decode cX10_sun 23 = .ok (.iload_n 3, 1) := by decide +kernel
theorem dX10_sun_24 : decode cX10_sun 24 = .ok (.ifCond .le 7, 3) := by decide +kernel
theorem dX10_sun_27 : decode cX10_sun 27 = .ok (.iconst 1, 1) := by decide +kernel
theorem dX10_sun_28 : decode cX10_sun 28 = .ok (.goto 4, 3) := by decide +kernel
theorem dX10_sun_31 : decode cX10_sun 31 = .ok (.iconst 0, 1) := by decide +kernel
theorem dX10_sun_32 : decode cX10_sun 32 = .ok (.ireturn, 1) := by decide +kernel
theorem dX10_suns_0 : decode cX10_suns 0 = .ok (.aload_n 0, 1) := by decide +kernel
theorem dX10_suns_1 : decode cX10_suns 1 = .ok (.getfield 141, 3) := by decide +kernel
theorem dX10_suns_4 : decode cX10_suns 4 = .ok (.istore_n 1, 1) := by decide +kernel
theorem dX10_suns_5 : decode cX10_suns 5 = .ok (.iload_n 1, 1) := by decide +kernel
theorem dX10_suns_6 : decode cX10_suns 6 = .ok (.iconst 3, 1) := by decide +kernel
theorem dX10_suns_7 : decode cX10_suns 7 = .ok (.irem, 1) := by decide +kernel
theorem dX10_suns_8 : decode cX10_suns 8 = .ok (.ifCond .eq 10, 3) := by decide +kernel
theorem dX10_suns_11 : decode cX10_suns 11 = .ok (.aload_n 0, 1) := by decide +kernel
theorem dX10_suns_12 : decode cX10_suns 12 = .ok (.ldc 124, 2) := by decide +kernel
theorem dX10_suns_14 : decode cX10_suns 14 = .ok (.invokevirtual 120, 3) := by decide +kernel
theorem dX10_suns_17 : decode cX10_suns 17 = .ok (.ireturn, 1) := by decide +kernel
theorem dX10_suns_18 : decode cX10_suns 18 = .ok (.aload_n 0, 1) := by decide +kernel
theorem dX10_suns_19 : decode cX10_suns 19 = .ok (.iconst 0, 1) := by decide +kernel
theorem dX10_suns_20 : decode cX10_suns 20 = .ok (.putfield 141, 3) := by decide +kernel
theorem dX10_suns_23 : decode cX10_suns 23 = .ok (.iconst 0, 1) := by decide +kernel
theorem dX10_suns_24 : decode cX10_suns 24 = .ok (.istore_n 2, 1) := by decide +kernel
theorem dX10_suns_25 : decode cX10_suns 25 = .ok (.iload_n 2, 1) := by decide +kernel
theorem dX10_suns_26 : decode cX10_suns 26 = .ok (.iload_n 1, 1) := by decide +kernel
theorem dX10_suns_27 : decode cX10_suns 27 = .ok (.if_icmp .ge 44, 3) := by decide +kernel
theorem dX10_suns_30 : decode cX10_suns 30 = .ok (.aload_n 0, 1) := by decide +kernel
theorem dX10_suns_31 : decode cX10_suns 31 = .ok (.getfield 58, 3) := by decide +kernel
theorem dX10_suns_34 : decode cX10_suns 34 = .ok (.iload_n 2, 1) := by decide +kernel
theorem dX10_suns_35 : decode cX10_suns 35 = .ok (.iaload, 1) := by decide +kernel
theorem dX10_suns_36 : decode cX10_suns 36 = .ok (.aload_n 0, 1) := by decide +kernel
theorem dX10_suns_37 : decode cX10_suns 37 = .ok (.getfield 58, 3) := by decide +kernel
theorem dX10_suns_40 : decode cX10_suns 40 = .ok (.iload_n 2, 1) := by decide +kernel
theorem dX10_suns_41 : decode cX10_suns 41 = .ok (.iconst 1, 1) := by decide +kernel
theorem dX10_suns_42 : decode cX10_suns 42 = .ok (.iadd, 1) := by decide +kernel
theorem dX10_suns_43 : decode cX10_suns 43 = .ok (.iaload, 1) := by decide +kernel
theorem dX10_suns_44 : decode cX10_suns 44 = .ok (.aload_n 0, 1) := by decide +kernel
theorem dX10_suns_45 : decode cX10_suns 45 = .ok (.getfield 58, 3) := by decide +kernel
theorem dX10_suns_48 : decode cX10_suns 48 = .ok (.iload_n 2, 1) := by decide +kernel
theorem dX10_suns_49 : decode cX10_suns 49 = .ok (.iconst 2, 1) := by decide +kernel
theorem dX10_suns_50 : decode cX10_suns 50 = .ok (.iadd, 1) := by decide +kernel
theorem dX10_suns_51 : decode cX10_suns 51 = .ok (.iaload, 1) := by decide +kernel
theorem dX10_suns_52 : decode cX10_suns 52 = .ok (.invokestatic 134, 3) := by decide +kernel
theorem dX10_suns_55 : decode cX10_suns 55 = .ok (.ifCond .ne 10, 3) := by decide +kernel
theorem dX10_suns_58 : decode cX10_suns 58 = .ok (.aload_n 0, 1) := by decide +kernel
theorem dX10_suns_59 : decode cX10_suns 59 = .ok (.ldc 119, 2) := by decide +kernel
theorem dX10_suns_61 : decode cX10_suns 61 = .ok (.invokevirtual 120, 3) := by decide +kernel
theorem dX10_suns_64 : decode cX10_suns 64 = .ok (.ireturn, 1) := by decide +kernel
theorem dX10_suns_65 : decode cX10_suns 65 = .ok (.iinc 2 3, 3) := by decide +kernel
theorem dX10_suns_68 : decode cX10_suns 68 = .ok (.goto (-43), 3) := by decide +kernel
theorem dX10_suns_71 : decode cX10_suns 71 = .ok (.iconst 0, 1) := by decide +kernel
theorem dX10_suns_72 : decode cX10_suns 72 = .ok (.istore_n 2, 1) := by decide +kernel
theorem dX10_suns_73 : decode cX10_suns 73 = .ok (.iload_n 2, 1) := by decide +kernel
theorem dX10_suns_74 : decode cX10_suns 74 = .ok (.iload_n 1, 1) := by decide +kernel
theorem dX10_suns_75 : decode cX10_suns 75 = .ok (.if_icmp .ge 35, 3) := by decide +kernel
theorem dX10_suns_78 : decode cX10_suns 78 = .ok (.aload_n 0, 1) := by decide +kernel
theorem dX10_suns_79 : decode cX10_suns 79 = .ok (.aload_n 0, 1) := by decide +kernel
theorem dX10_suns_80 : decode cX10_suns 80 = .ok (.getfield 58, 3) := by decide +kernel
theorem dX10_suns_83 : decode cX10_suns 83 = .ok (.iload_n 2, 1) := by decide +kernel
theorem dX10_suns_84 : decode cX10_suns 84 = .ok (.iaload, 1) := by decide +kernel
theorem dX10_suns_85 : decode cX10_suns 85 = .ok (.aload_n 0, 1) := by decide +kernel
theorem dX10_suns_86 : decode cX10_suns 86 = .ok (.getfield 58, 3) := by decide +kernel
theorem dX10_suns_89 : decode cX10_suns 89 = .ok (.iload_n 2, 1) := by decide +kernel
theorem dX10_suns_90 : decode cX10_suns 90 = .ok (.iconst 1, 1) := by decide +kernel
theorem dX10_suns_91 : decode cX10_suns 91 = .ok (.iadd, 1) := by decide +kernel
theorem dX10_suns_92 : decode cX10_suns 92 = .ok (.iaload, 1) := by decide +kernel
theorem dX10_suns_93 : decode cX10_suns 93 = .ok (.aload_n 0, 1) := by decide +kernel
theorem dX10_suns_94 : decode cX10_suns 94 = .ok (.getfield 58, 3) := by decide +kernel
theorem dX10_suns_97 : decode cX10_suns 97 = .ok (.iload_n 2, 1) := by decide +kernel
theorem dX10_suns_98 : decode cX10_suns 98 = .ok (.iconst 2, 1) := by decide +kernel
theorem dX10_suns_99 : decode cX10_suns 99 = .ok (.iadd, 1) := by decide +kernel
theorem dX10_suns_100 : decode cX10_suns 100 = .ok (.iaload, 1) := by decide +kernel
theorem dX10_suns_101 : decode cX10_suns 101 = .ok (.invokevirtual 137, 3) := by decide +kernel
theorem dX10_suns_104 : decode cX10_suns 104 = .ok (.iinc 2 3, 3) := by decide +kernel
theorem dX10_suns_107 : decode cX10_suns 107 = .ok (.goto (-34), 3) := by decide +kernel
theorem dX10_suns_110 : decode cX10_suns 110 = .ok (.iload_n 1, 1) := by decide +kernel
theorem dX10_suns_111 : decode cX10_suns 111 = .ok (.iconst 3, 1) := by decide +kernel
theorem dX10_suns_112 : decode cX10_suns 112 = .ok (.idiv, 1) := by decide +kernel
theorem dX10_suns_113 : decode cX10_suns 113 = .ok (.ireturn, 1) := by decide +kernel
theorem dX10_stepAt_0 : decode cX10_stepAt 0 = .ok (.aload_n 0, 1) := by decide +kernel
theorem dX10_stepAt_1 : decode cX10_stepAt 1 = .ok (.getfield 64, 3) := by decide +kernel
theorem dX10_stepAt_4 : decode cX10_stepAt 4 = .ok (.bipush 99, 2) := by decide +kernel
theorem dX10_stepAt_6 : decode cX10_stepAt 6 = .ok (.if_icmp .eq 13, 3) := by decide +kernel
theorem dX10_stepAt_9 : decode cX10_stepAt 9 = .ok (.aload_n 0, 1) := by decide +kernel
theorem dX10_stepAt_10 : decode cX10_stepAt 10 = .ok (.getfield 9, 3) := by decide +kernel
theorem dX10_stepAt_13 : decode cX10_stepAt 13 = .ok (.iload_n 1, 1) := by decide +kernel
theorem dX10_stepAt_14 : decode cX10_stepAt 14 = .ok (.iaload, 1) := by decide +kernel
theorem dX10_stepAt_15 : decode cX10_stepAt 15 = .ok (.iconst 1, 1) := by decide +kernel
theorem dX10_stepAt_16 : decode cX10_stepAt 16 = .ok (.if_icmp .ne 12, 3) := by decide +kernel
theorem dX10_stepAt_19 : decode cX10_stepAt 19 = .ok (.aload_n 0, 1) := by decide +kernel
theorem dX10_stepAt_20 : decode cX10_stepAt 20 = .ok (.getfield 25, 3) := by decide +kernel
theorem dX10_stepAt_23 : decode cX10_stepAt 23 = .ok (.iload_n 1, 1) := by decide +kernel
theorem dX10_stepAt_24 : decode cX10_stepAt 24 = .ok (.iaload, 1) := by decide +kernel
theorem dX10_stepAt_25 : decode cX10_stepAt 25 = .ok (.goto 7, 3) := by decide +kernel
theorem dX10_stepAt_28 : decode cX10_stepAt 28 = .ok (.aload_n 0, 1) := by decide +kernel
theorem dX10_stepAt_29 : decode cX10_stepAt 29 = .ok (.getfield 64, 3) := by decide +kernel
theorem dX10_stepAt_32 : decode cX10_stepAt 32 = .ok (.ireturn, 1) := by decide +kernel
theorem dX10_look_0 : decode cX10_look 0 = .ok (.aload_n 0, 1) := by decide +kernel
theorem dX10_look_1 : decode cX10_look 1 = .ok (.iload_n 1, 1) := by decide +kernel
theorem dX10_look_2 : decode cX10_look 2 = .ok (.invokevirtual 144, 3) := by decide +kernel
theorem dX10_look_5 : decode cX10_look 5 = .ok (.istore 4, 2) := by decide +kernel
theorem dX10_look_7 : decode cX10_look 7 = .ok (.iload_n 2, 1) := by decide +kernel
theorem dX10_look_8 : decode cX10_look 8 = .ok (.ifCond .ne 9, 3) := by decide +kernel
theorem dX10_look_11 : decode cX10_look 11 = .ok (.ldc2_w 147, 3) := by decide +kernel
theorem dX10_look_14 : decode cX10_look 14 = .ok (.goto 4, 3) := by decide +kernel
theorem dX10_look_17 : decode cX10_look 17 = .ok (.lconst 1, 1) := by decide +kernel
theorem dX10_look_18 : decode cX10_look 18 = .ok (.lstore 5, 2) := by decide +kernel
theorem dX10_look_20 : decode cX10_look 20 = .ok (.ldc2_w 149, 3) := by decide +kernel
theorem dX10_look_23 : decode cX10_look 23 = .ok (.aload_n 0, 1) := by decide +kernel
theorem dX10_look_24 : decode cX10_look 24 = .ok (.getfield 13, 3) := by decide +kernel
theorem dX10_look_27 : decode cX10_look 27 = .ok (.iload_n 1, 1) := by decide +kernel
theorem dX10_look_28 : decode cX10_look 28 = .ok (.iaload, 1) := by decide +kernel
theorem dX10_look_29 : decode cX10_look 29 = .ok (.i2l, 1) := by decide +kernel
theorem dX10_look_30 : decode cX10_look 30 = .ok (.lmul, 1) := by decide +kernel
theorem dX10_look_31 : decode cX10_look 31 = .ok (.lload 5, 2) := by decide +kernel
theorem dX10_look_33 : decode cX10_look 33 = .ok (.aload_n 0, 1) := by decide +kernel
theorem dX10_look_34 : decode cX10_look 34 = .ok (.getfield 19, 3) := by decide +kernel
theorem dX10_look_37 : decode cX10_look 37 = .ok (.iload_n 1, 1) := by decide +kernel
theorem dX10_look_38 : decode cX10_look 38 = .ok (.iaload, 1) := by decide +kernel
theorem dX10_look_39 : decode cX10_look 39 = .ok (.i2l, 1) := by decide +kernel
theorem dX10_look_40 : decode cX10_look 40 = .ok (.lmul, 1) := by decide +kernel
theorem dX10_look_41 : decode cX10_look 41 = .ok (.iload 4, 2) := by decide +kernel
theorem dX10_look_43 : decode cX10_look 43 = .ok (.invokestatic 151, 3) := by decide +kernel
theorem dX10_look_46 : decode cX10_look 46 = .ok (.lmul, 1) := by decide +kernel
theorem dX10_look_47 : decode cX10_look 47 = .ok (.ladd, 1) := by decide +kernel
theorem dX10_look_48 : decode cX10_look 48 = .ok (.lstore 7, 2) := by decide +kernel
theorem dX10_look_50 : decode cX10_look 50 = .ok (.ldc2_w 149, 3) := by decide +kernel
theorem dX10_look_53 : decode cX10_look 53 = .ok (.aload_n 0, 1) := by decide +kernel
theorem dX10_look_54 : decode cX10_look 54 = .ok (.getfield 16, 3) := by decide +kernel
theorem dX10_look_57 : decode cX10_look 57 = .ok (.iload_n 1, 1) := by decide +kernel
theorem dX10_look_58 : decode cX10_look 58 = .ok (.iaload, 1) := by decide +kernel
theorem dX10_look_59 : decode cX10_look 59 = .ok (.i2l, 1) := by decide +kernel
theorem dX10_look_60 : decode cX10_look 60 = .ok (.lmul, 1) := by decide +kernel
theorem dX10_look_61 : decode cX10_look 61 = .ok (.lload 5, 2) := by decide +kernel
theorem dX10_look_63 : decode cX10_look 63 = .ok (.aload_n 0, 1) := by decide +kernel
theorem dX10_look_64 : decode cX10_look 64 = .ok (.getfield 19, 3) := by decide +kernel
theorem dX10_look_67 : decode cX10_look 67 = .ok (.iload_n 1, 1) := by decide +kernel
theorem dX10_look_68 : decode cX10_look 68 = .ok (.iaload, 1) := by decide +kernel
theorem dX10_look_69 : decode cX10_look 69 = .ok (.i2l, 1) := by decide +kernel
theorem dX10_look_70 : decode cX10_look 70 = .ok (.lmul, 1) := by decide +kernel
theorem dX10_look_71 : decode cX10_look 71 = .ok (.iload 4, 2) := by decide +kernel
theorem dX10_look_73 : decode cX10_look 73 = .ok (.invokestatic 155, 3) := by decide +kernel
theorem dX10_look_76 : decode cX10_look 76 = .ok (.lmul, 1) := by decide +kernel
theorem dX10_look_77 : decode cX10_look 77 = .ok (.ladd, 1) := by decide +kernel
theorem dX10_look_78 : decode cX10_look 78 = .ok (.lstore 9, 2) := by decide +kernel
theorem dX10_look_80 : decode cX10_look 80 = .ok (.lload 7, 2) := by decide +kernel
theorem dX10_look_82 : decode cX10_look 82 = .ok (.aload_n 0, 1) := by decide +kernel
theorem dX10_look_83 : decode cX10_look 83 = .ok (.getfield 34, 3) := by decide +kernel
theorem dX10_look_86 : decode cX10_look 86 = .ok (.iload_n 3, 1) := by decide +kernel
theorem dX10_look_87 : decode cX10_look 87 = .ok (.iaload, 1) := by decide +kernel
theorem dX10_look_88 : decode cX10_look 88 = .ok (.i2l, 1) := by decide +kernel
theorem dX10_look_89 : decode cX10_look 89 = .ok (.lmul, 1) := by decide +kernel
theorem dX10_look_90 : decode cX10_look 90 = .ok (.lload 9, 2) := by decide +kernel
theorem dX10_look_92 : decode cX10_look 92 = .ok (.aload_n 0, 1) := by decide +kernel
theorem dX10_look_93 : decode cX10_look 93 = .ok (.getfield 31, 3) := by decide +kernel
theorem dX10_look_96 : decode cX10_look 96 = .ok (.iload_n 3, 1) := by decide +kernel
theorem dX10_look_97 : decode cX10_look 97 = .ok (.iaload, 1) := by decide +kernel
theorem dX10_look_98 : decode cX10_look 98 = .ok (.i2l, 1) := by decide +kernel
theorem dX10_look_99 : decode cX10_look 99 = .ok (.lmul, 1) := by decide +kernel
theorem dX10_look_100 : decode cX10_look 100 = .ok (.lsub, 1) := by decide +kernel
theorem dX10_look_101 : decode cX10_look 101 = .ok (.lreturn, 1) := by decide +kernel
theorem dX10_breadthOf_0 : decode cX10_breadthOf 0 = .ok (.aload_n 0, 1) := by decide +kernel
theorem dX10_breadthOf_1 : decode cX10_breadthOf 1 = .ok (.iload_n 1, 1) := by decide +kernel
theorem dX10_breadthOf_2 : decode cX10_breadthOf 2 = .ok (.iconst 1, 1) := by decide +kernel
theorem dX10_breadthOf_3 : decode cX10_breadthOf 3 = .ok (.iload_n 2, 1) := by decide +kernel
theorem dX10_breadthOf_4 : decode cX10_breadthOf 4 = .ok (.invokevirtual 158, 3) := by decide +kernel
theorem dX10_breadthOf_7 : decode cX10_breadthOf 7 = .ok (.aload_n 0, 1) := by decide +kernel
theorem dX10_breadthOf_8 : decode cX10_breadthOf 8 = .ok (.iload_n 1, 1) := by decide +kernel
theorem dX10_breadthOf_9 : decode cX10_breadthOf 9 = .ok (.iconst 0, 1) := by decide +kernel
theorem dX10_breadthOf_10 : decode cX10_breadthOf 10 = .ok (.iload_n 2, 1) := by decide +kernel
theorem dX10_breadthOf_11 : decode cX10_breadthOf 11 = .ok (.invokevirtual 158, 3) := by decide +kernel
theorem dX10_breadthOf_14 : decode cX10_breadthOf 14 = .ok (.lsub, 1) := by decide +kernel
theorem dX10_breadthOf_15 : decode cX10_breadthOf 15 = .ok (.lreturn, 1) := by decide +kernel
theorem dX10_isAhead_0 : decode cX10_isAhead 0 = .ok (.aload_n 0, 1) := by decide +kernel
theorem dX10_isAhead_1 : decode cX10_isAhead 1 = .ok (.getfield 31, 3) := by decide +kernel
theorem dX10_isAhead_4 : decode cX10_isAhead 4 = .ok (.iload_n 3, 1) := by decide +kernel
theorem dX10_isAhead_5 : decode cX10_isAhead 5 = .ok (.iaload, 1) := by decide +kernel
theorem dX10_isAhead_6 : decode cX10_isAhead 6 = .ok (.ifCond .le 16, 3) := by decide +kernel
theorem dX10_isAhead_9 : decode cX10_isAhead 9 = .ok (.iload_n 1, 1) := by decide +kernel
theorem dX10_isAhead_10 : decode cX10_isAhead 10 = .ok (.iload_n 2, 1) := by decide +kernel
theorem dX10_isAhead_11 : decode cX10_isAhead 11 = .ok (.if_icmp .le 7, 3) := by decide +kernel
theorem dX10_isAhead_14 : decode cX10_isAhead 14 = .ok (.iconst 1, 1) := by decide +kernel
theorem dX10_isAhead_15 : decode cX10_isAhead 15 = .ok (.goto 26, 3) := by decide +kernel
theorem dX10_isAhead_18 : decode cX10_isAhead 18 = .ok (.iconst 0, 1) := by decide +kernel
theorem dX10_isAhead_19 : decode cX10_isAhead 19 = .ok (.goto 22, 3) := by decide +kernel
theorem dX10_isAhead_22 : decode cX10_isAhead 22 = .ok (.aload_n 0, 1) := by decide +kernel
theorem dX10_isAhead_23 : decode cX10_isAhead 23 = .ok (.getfield 31, 3) := by decide +kernel
theorem dX10_isAhead_26 : decode cX10_isAhead 26 = .ok (.iload_n 3, 1) := by decide +kernel
theorem dX10_isAhead_27 : decode cX10_isAhead 27 = .ok (.iaload, 1) := by decide +kernel
theorem dX10_isAhead_28 : decode cX10_isAhead 28 = .ok (.ifCond .ge 12, 3) := by decide +kernel
theorem dX10_isAhead_31 : decode cX10_isAhead 31 = .ok (.iload_n 1, 1) := by decide +kernel
theorem dX10_isAhead_32 : decode cX10_isAhead 32 = .ok (.iload_n 2, 1) := by decide +kernel
theorem dX10_isAhead_33 : decode cX10_isAhead 33 = .ok (.if_icmp .ge 7, 3) := by decide +kernel
theorem dX10_isAhead_36 : decode cX10_isAhead 36 = .ok (.iconst 1, 1) := by decide +kernel
theorem dX10_isAhead_37 : decode cX10_isAhead 37 = .ok (.goto 4, 3) := by decide +kernel
theorem dX10_isAhead_40 : decode cX10_isAhead 40 = .ok (.iconst 0, 1) := by decide +kernel
theorem dX10_isAhead_41 : decode cX10_isAhead 41 = .ok (.ireturn, 1) := by decide +kernel
theorem dX10_shaded_0 : decode cX10_shaded 0 = .ok (.lconst 0, 1) := by decide +kernel
theorem dX10_shaded_1 : decode cX10_shaded 1 = .ok (.lstore 7, 2) := by decide +kernel
theorem dX10_shaded_3 : decode cX10_shaded 3 = .ok (.lload_n 3, 1) := by decide +kernel
theorem dX10_shaded_4 : decode cX10_shaded 4 = .ok (.lstore 9, 2) := by decide +kernel
theorem dX10_shaded_6 : decode cX10_shaded 6 = .ok (.lload 9, 2) := by decide +kernel
theorem dX10_shaded_8 : decode cX10_shaded 8 = .ok (.lload 5, 2) := by decide +kernel
theorem dX10_shaded_10 : decode cX10_shaded 10 = .ok (.lcmp, 1) := by decide +kernel
theorem dX10_shaded_11 : decode cX10_shaded 11 = .ok (.ifCond .ge 202, 3) := by decide +kernel
theorem dX10_shaded_14 : decode cX10_shaded 14 = .ok (.lload 9, 2) := by decide +kernel
theorem dX10_shaded_16 : decode cX10_shaded 16 = .ok (.lstore 11, 2) := by decide +kernel
theorem dX10_shaded_18 : decode cX10_shaded 18 = .ok (.lload 5, 2) := by decide +kernel
theorem dX10_shaded_20 : decode cX10_shaded 20 = .ok (.lstore 13, 2) := by decide +kernel
theorem dX10_shaded_22 : decode cX10_shaded 22 = .ok (.iconst 0, 1) := by decide +kernel
theorem dX10_shaded_23 : decode cX10_shaded 23 = .ok (.istore 15, 2) := by decide +kernel
theorem dX10_shaded_25 : decode cX10_shaded 25 = .ok (.iload 15, 2) := by decide +kernel
theorem dX10_shaded_27 : decode cX10_shaded 27 = .ok (.aload_n 0, 1) := by decide +kernel
theorem dX10_shaded_28 : decode cX10_shaded 28 = .ok (.getfield 72, 3) := by decide +kernel
theorem dX10_shaded_31 : decode cX10_shaded 31 = .ok (.if_icmp .ge 133, 3) := by decide +kernel
theorem dX10_shaded_34 : decode cX10_shaded 34 = .ok (.aload_n 0, 1) := by decide +kernel
theorem dX10_shaded_35 : decode cX10_shaded 35 = .ok (.iload 15, 2) := by decide +kernel
theorem dX10_shaded_37 : decode cX10_shaded 37 = .ok (.iload_n 1, 1) := by decide +kernel
theorem dX10_shaded_38 : decode cX10_shaded 38 = .ok (.iload_n 2, 1) := by decide +kernel
theorem dX10_shaded_39 : decode cX10_shaded 39 = .ok (.invokevirtual 162, 3) := by decide +kernel
theorem dX10_shaded_42 : decode cX10_shaded 42 = .ok (.ifCond .ne 6, 3) := by decide +kernel
theorem dX10_shaded_45 : decode cX10_shaded 45 = .ok (.goto 113, 3) := by decide +kernel
theorem dX10_shaded_48 : decode cX10_shaded 48 = .ok (.ldc2_w 165, 3) := by decide +kernel
theorem dX10_shaded_51 : decode cX10_shaded 51 = .ok (.aload_n 0, 1) := by decide +kernel
theorem dX10_shaded_52 : decode cX10_shaded 52 = .ok (.iload 15, 2) := by decide +kernel
theorem dX10_shaded_54 : decode cX10_shaded 54 = .ok (.iconst 0, 1) := by decide +kernel
theorem dX10_shaded_55 : decode cX10_shaded 55 = .ok (.iload_n 2, 1) := by decide +kernel
theorem dX10_shaded_56 : decode cX10_shaded 56 = .ok (.invokevirtual 158, 3) := by decide +kernel
theorem dX10_shaded_59 : decode cX10_shaded 59 = .ok (.lmul, 1) := by decide +kernel
theorem dX10_shaded_60 : decode cX10_shaded 60 = .ok (.lstore 16, 2) := by decide +kernel
theorem dX10_shaded_62 : decode cX10_shaded 62 = .ok (.ldc2_w 165, 3) := by decide +kernel
theorem dX10_shaded_65 : decode cX10_shaded 65 = .ok (.aload_n 0, 1) := by decide +kernel
theorem dX10_shaded_66 : decode cX10_shaded 66 = .ok (.iload 15, 2) := by decide +kernel
theorem dX10_shaded_68 : decode cX10_shaded 68 = .ok (.iconst 1, 1) := by decide +kernel
theorem dX10_shaded_69 : decode cX10_shaded 69 = .ok (.iload_n 2, 1) := by decide +kernel
theorem dX10_shaded_70 : decode cX10_shaded 70 = .ok (.invokevirtual 158, 3) := by decide +kernel
theorem dX10_shaded_73 : decode cX10_shaded 73 = .ok (.lmul, 1) := by decide +kernel
theorem dX10_shaded_74 : decode cX10_shaded 74 = .ok (.lstore 18, 2) := by decide +kernel
theorem dX10_shaded_76 : decode cX10_shaded 76 = .ok (.lload 16, 2) := by decide +kernel
theorem dX10_shaded_78 : decode cX10_shaded 78 = .ok (.lload 18, 2) := by decide +kernel
theorem dX10_shaded_80 : decode cX10_shaded 80 = .ok (.lcmp, 1) := by decide +kernel
theorem dX10_shaded_81 : decode cX10_shaded 81 = .ok (.ifCond .ge 8, 3) := by decide +kernel
theorem dX10_shaded_84 : decode cX10_shaded 84 = .ok (.lload 16, 2) := by decide +kernel
theorem dX10_shaded_86 : decode cX10_shaded 86 = .ok (.goto 5, 3) := by decide +kernel
theorem dX10_shaded_89 : decode cX10_shaded 89 = .ok (.lload 18, 2) := by decide +kernel
theorem dX10_shaded_91 : decode cX10_shaded 91 = .ok (.lstore 20, 2) := by decide +kernel
theorem dX10_shaded_93 : decode cX10_shaded 93 = .ok (.lload 16, 2) := by decide +kernel
theorem dX10_shaded_95 : decode cX10_shaded 95 = .ok (.lload 18, 2) := by decide +kernel
theorem dX10_shaded_97 : decode cX10_shaded 97 = .ok (.lcmp, 1) := by decide +kernel
theorem dX10_shaded_98 : decode cX10_shaded 98 = .ok (.ifCond .ge 8, 3) := by decide +kernel
theorem dX10_shaded_101 : decode cX10_shaded 101 = .ok (.lload 18, 2) := by decide +kernel
theorem dX10_shaded_103 : decode cX10_shaded 103 = .ok (.goto 5, 3) := by decide +kernel
theorem dX10_shaded_106 : decode cX10_shaded 106 = .ok (.lload 16, 2) := by decide +kernel
theorem dX10_shaded_108 : decode cX10_shaded 108 = .ok (.lstore 22, 2) := by decide +kernel
theorem dX10_shaded_110 : decode cX10_shaded 110 = .ok (.lload 20, 2) := by decide +kernel
theorem dX10_shaded_112 : decode cX10_shaded 112 = .ok (.lload 9, 2) := by decide +kernel
theorem dX10_shaded_114 : decode cX10_shaded 114 = .ok (.lcmp, 1) := by decide +kernel
theorem dX10_shaded_115 : decode cX10_shaded 115 = .ok (.ifCond .gt 15, 3) := by decide +kernel
theorem dX10_shaded_118 : decode cX10_shaded 118 = .ok (.lload 22, 2) := by decide +kernel
theorem dX10_shaded_120 : decode cX10_shaded 120 = .ok (.lload 11, 2) := by decide +kernel
theorem dX10_shaded_122 : decode cX10_shaded 122 = .ok (.lcmp, 1) := by decide +kernel
theorem dX10_shaded_123 : decode cX10_shaded 123 = .ok (.ifCond .le 7, 3) := by decide +kernel
theorem dX10_shaded_126 : decode cX10_shaded 126 = .ok (.lload 22, 2) := by decide +kernel
theorem dX10_shaded_128 : decode cX10_shaded 128 = .ok (.lstore 11, 2) := by decide +kernel
theorem dX10_shaded_130 : decode cX10_shaded 130 = .ok (.lload 20, 2) := by decide +kernel
theorem dX10_shaded_132 : decode cX10_shaded 132 = .ok (.lload 9, 2) := by decide +kernel
theorem dX10_shaded_134 : decode cX10_shaded 134 = .ok (.lcmp, 1) := by decide +kernel
theorem dX10_shaded_135 : decode cX10_shaded 135 = .ok (.ifCond .le 23, 3) := by decide +kernel
theorem dX10_shaded_138 : decode cX10_shaded 138 = .ok (.lload 20, 2) := by decide +kernel
theorem dX10_shaded_140 : decode cX10_shaded 140 = .ok (.lload 13, 2) := by decide +kernel
theorem dX10_shaded_142 : decode cX10_shaded 142 = .ok (.lcmp, 1) := by decide +kernel
theorem dX10_shaded_143 : decode cX10_shaded 143 = .ok (.ifCond .ge 15, 3) := by decide +kernel
theorem dX10_shaded_146 : decode cX10_shaded 146 = .ok (.lload 20, 2) := by decide +kernel
theorem dX10_shaded_148 : decode cX10_shaded 148 = .ok (.lload 22, 2) := by decide +kernel
theorem dX10_shaded_150 : decode cX10_shaded 150 = .ok (.lcmp, 1) := by decide +kernel
theorem dX10_shaded_151 : decode cX10_shaded 151 = .ok (.ifCond .ge 7, 3) := by decide +kernel
theorem dX10_shaded_154 : decode cX10_shaded 154 = .ok (.lload 20, 2) := by decide +kernel
theorem dX10_shaded_156 : decode cX10_shaded 156 = .ok (.lstore 13, 2) := by decide +kernel
theorem dX10_shaded_158 : decode cX10_shaded 158 = .ok (.iinc 15 1, 3) := by decide +kernel
theorem dX10_shaded_161 : decode cX10_shaded 161 = .ok (.goto (-136), 3) := by decide +kernel
theorem dX10_shaded_164 : decode cX10_shaded 164 = .ok (.lload 11, 2) := by decide +kernel
theorem dX10_shaded_166 : decode cX10_shaded 166 = .ok (.lload 9, 2) := by decide +kernel
theorem dX10_shaded_168 : decode cX10_shaded 168 = .ok (.lcmp, 1) := by decide +kernel
theorem dX10_shaded_169 : decode cX10_shaded 169 = .ok (.ifCond .le 37, 3) := by decide +kernel
theorem dX10_shaded_172 : decode cX10_shaded 172 = .ok (.lload 11, 2) := by decide +kernel
theorem dX10_shaded_174 : decode cX10_shaded 174 = .ok (.lload 5, 2) := by decide +kernel
theorem dX10_shaded_176 : decode cX10_shaded 176 = .ok (.lcmp, 1) := by decide +kernel
theorem dX10_shaded_177 : decode cX10_shaded 177 = .ok (.ifCond .ge 8, 3) := by decide +kernel
theorem dX10_shaded_180 : decode cX10_shaded 180 = .ok (.lload 11, 2) := by decide +kernel
theorem dX10_shaded_182 : decode cX10_shaded 182 = .ok (.goto 5, 3) := by decide +kernel
theorem dX10_shaded_185 : decode cX10_shaded 185 = .ok (.lload 5, 2) := by decide +kernel
theorem dX10_shaded_187 : decode cX10_shaded 187 = .ok (.lstore 15, 2) := by decide +kernel
theorem dX10_shaded_189 : decode cX10_shaded 189 = .ok (.lload 7, 2) := by decide +kernel
theorem dX10_shaded_191 : decode cX10_shaded 191 = .ok (.lload 15, 2) := by decide +kernel
theorem dX10_shaded_193 : decode cX10_shaded 193 = .ok (.lload 9, 2) := by decide +kernel
theorem dX10_shaded_195 : decode cX10_shaded 195 = .ok (.lsub, 1) := by decide +kernel
theorem dX10_shaded_196 : decode cX10_shaded 196 = .ok (.ladd, 1) := by decide +kernel
theorem dX10_shaded_197 : decode cX10_shaded 197 = .ok (.lstore 7, 2) := by decide +kernel
theorem dX10_shaded_199 : decode cX10_shaded 199 = .ok (.lload 15, 2) := by decide +kernel
theorem dX10_shaded_201 : decode cX10_shaded 201 = .ok (.lstore 9, 2) := by decide +kernel
theorem dX10_shaded_203 : decode cX10_shaded 203 = .ok (.goto 7, 3) := by decide +kernel
theorem dX10_shaded_206 : decode cX10_shaded 206 = .ok (.lload 13, 2) := by decide +kernel
theorem dX10_shaded_208 : decode cX10_shaded 208 = .ok (.lstore 9, 2) := by decide +kernel
theorem dX10_shaded_210 : decode cX10_shaded 210 = .ok (.goto (-204), 3) := by decide +kernel
theorem dX10_shaded_213 : decode cX10_shaded 213 = .ok (.lload 7, 2) := by decide +kernel
theorem dX10_shaded_215 : decode cX10_shaded 215 = .ok (.lreturn, 1) := by decide +kernel
theorem dX10_shadeOf_0 : decode cX10_shadeOf 0 = .ok (.aload_n 0, 1) := by decide +kernel
theorem dX10_shadeOf_1 : decode cX10_shadeOf 1 = .ok (.iload_n 1, 1) := by decide +kernel
theorem dX10_shadeOf_2 : decode cX10_shadeOf 2 = .ok (.iload_n 2, 1) := by decide +kernel
theorem dX10_shadeOf_3 : decode cX10_shadeOf 3 = .ok (.ldc2_w 165, 3) := by decide +kernel
theorem dX10_shadeOf_6 : decode cX10_shadeOf 6 = .ok (.aload_n 0, 1) := by decide +kernel
theorem dX10_shadeOf_7 : decode cX10_shadeOf 7 = .ok (.iload_n 1, 1) := by decide +kernel
theorem dX10_shadeOf_8 : decode cX10_shadeOf 8 = .ok (.iconst 0, 1) := by decide +kernel
theorem dX10_shadeOf_9 : decode cX10_shadeOf 9 = .ok (.iload_n 2, 1) := by decide +kernel
theorem dX10_shadeOf_10 : decode cX10_shadeOf 10 = .ok (.invokevirtual 158, 3) := by decide +kernel
theorem dX10_shadeOf_13 : decode cX10_shadeOf 13 = .ok (.lmul, 1) := by decide +kernel
theorem dX10_shadeOf_14 : decode cX10_shadeOf 14 = .ok (.ldc2_w 165, 3) := by decide +kernel
theorem dX10_shadeOf_17 : decode cX10_shadeOf 17 = .ok (.aload_n 0, 1) := by decide +kernel
theorem dX10_shadeOf_18 : decode cX10_shadeOf 18 = .ok (.iload_n 1, 1) := by decide +kernel
theorem dX10_shadeOf_19 : decode cX10_shadeOf 19 = .ok (.iconst 1, 1) := by decide +kernel
theorem dX10_shadeOf_20 : decode cX10_shadeOf 20 = .ok (.iload_n 2, 1) := by decide +kernel
theorem dX10_shadeOf_21 : decode cX10_shadeOf 21 = .ok (.invokevirtual 158, 3) := by decide +kernel
theorem dX10_shadeOf_24 : decode cX10_shadeOf 24 = .ok (.lmul, 1) := by decide +kernel
theorem dX10_shadeOf_25 : decode cX10_shadeOf 25 = .ok (.invokevirtual 167, 3) := by decide +kernel
theorem dX10_shadeOf_28 : decode cX10_shadeOf 28 = .ok (.ldc2_w 165, 3) := by decide +kernel
theorem dX10_shadeOf_31 : decode cX10_shadeOf 31 = .ok (.ldiv, 1) := by decide +kernel
theorem dX10_shadeOf_32 : decode cX10_shadeOf 32 = .ok (.lreturn, 1) := by decide +kernel
theorem dX10_darkOf_0 : decode cX10_darkOf 0 = .ok (.ldc2_w 165, 3) := by decide +kernel
theorem dX10_darkOf_3 : decode cX10_darkOf 3 = .ok (.aload_n 0, 1) := by decide +kernel
theorem dX10_darkOf_4 : decode cX10_darkOf 4 = .ok (.iload_n 1, 1) := by decide +kernel
theorem dX10_darkOf_5 : decode cX10_darkOf 5 = .ok (.iconst 0, 1) := by decide +kernel
theorem dX10_darkOf_6 : decode cX10_darkOf 6 = .ok (.iload_n 2, 1) := by decide +kernel
theorem dX10_darkOf_7 : decode cX10_darkOf 7 = .ok (.invokevirtual 158, 3) := by decide +kernel
theorem dX10_darkOf_10 : decode cX10_darkOf 10 = .ok (.lmul, 1) := by decide +kernel
theorem dX10_darkOf_11 : decode cX10_darkOf 11 = .ok (.lstore_n 3, 1) := by decide +kernel
theorem dX10_darkOf_12 : decode cX10_darkOf 12 = .ok (.aload_n 0, 1) := by decide +kernel
theorem dX10_darkOf_13 : decode cX10_darkOf 13 = .ok (.iload_n 1, 1) := by decide +kernel
theorem dX10_darkOf_14 : decode cX10_darkOf 14 = .ok (.iload_n 2, 1) := by decide +kernel
theorem dX10_darkOf_15 : decode cX10_darkOf 15 = .ok (.invokevirtual 171, 3) := by decide +kernel
theorem dX10_darkOf_18 : decode cX10_darkOf 18 = .ok (.lstore 5, 2) := by decide +kernel
theorem dX10_darkOf_20 : decode cX10_darkOf 20 = .ok (.iconst 0, 1) := by decide +kernel
theorem dX10_darkOf_21 : decode cX10_darkOf 21 = .ok (.istore 7, 2) := by decide +kernel
theorem dX10_darkOf_23 : decode cX10_darkOf 23 = .ok (.iconst 0, 1) := by decide +kernel
theorem dX10_darkOf_24 : decode cX10_darkOf 24 = .ok (.istore 8, 2) := by decide +kernel
theorem dX10_darkOf_26 : decode cX10_darkOf 26 = .ok (.iload 8, 2) := by decide +kernel
theorem dX10_darkOf_28 : decode cX10_darkOf 28 = .ok (.iconst 3, 1) := by decide +kernel
theorem dX10_darkOf_29 : decode cX10_darkOf 29 = .ok (.if_icmp .ge 51, 3) := by decide +kernel
theorem dX10_darkOf_32 : decode cX10_darkOf 32 = .ok (.iload 7, 2) := by decide +kernel
theorem dX10_darkOf_34 : decode cX10_darkOf 34 = .ok (.aload_n 0, 1) := by decide +kernel
theorem dX10_darkOf_35 : decode cX10_darkOf 35 = .ok (.iload_n 1, 1) := by decide +kernel
theorem dX10_darkOf_36 : decode cX10_darkOf 36 = .ok (.iload_n 2, 1) := by decide +kernel
theorem dX10_darkOf_37 : decode cX10_darkOf 37 = .ok (.lload_n 3, 1) := by decide +kernel
theorem dX10_darkOf_38 : decode cX10_darkOf 38 = .ok (.iload 8, 2) := by decide +kernel
theorem dX10_darkOf_40 : decode cX10_darkOf 40 = .ok (.i2l, 1) := by decide +kernel
theorem dX10_darkOf_41 : decode cX10_darkOf 41 = .ok (.lload 5, 2) := by decide +kernel
theorem dX10_darkOf_43 : decode cX10_darkOf 43 = .ok (.lmul, 1) := by decide +kernel
theorem dX10_darkOf_44 : decode cX10_darkOf 44 = .ok (.ladd, 1) := by decide +kernel
theorem dX10_darkOf_45 : decode cX10_darkOf 45 = .ok (.lload_n 3, 1) := by decide +kernel
theorem dX10_darkOf_46 : decode cX10_darkOf 46 = .ok (.iload 8, 2) := by decide +kernel
theorem dX10_darkOf_48 : decode cX10_darkOf 48 = .ok (.iconst 1, 1) := by decide +kernel
theorem dX10_darkOf_49 : decode cX10_darkOf 49 = .ok (.iadd, 1) := by decide +kernel
theorem dX10_darkOf_50 : decode cX10_darkOf 50 = .ok (.i2l, 1) := by decide +kernel
theorem dX10_darkOf_51 : decode cX10_darkOf 51 = .ok (.lload 5, 2) := by decide +kernel
theorem dX10_darkOf_53 : decode cX10_darkOf 53 = .ok (.lmul, 1) := by decide +kernel
theorem dX10_darkOf_54 : decode cX10_darkOf 54 = .ok (.ladd, 1) := by decide +kernel
theorem dX10_darkOf_55 : decode cX10_darkOf 55 = .ok (.invokevirtual 167, 3) := by decide +kernel
theorem dX10_darkOf_58 : decode cX10_darkOf 58 = .ok (.lconst 0, 1) := by decide +kernel
theorem dX10_darkOf_59 : decode cX10_darkOf 59 = .ok (.lcmp, 1) := by decide +kernel
theorem dX10_darkOf_60 : decode cX10_darkOf 60 = .ok (.ifCond .le 10, 3) := by decide +kernel
theorem dX10_darkOf_63 : decode cX10_darkOf 63 = .ok (.iconst 1, 1) := by decide +kernel
theorem dX10_darkOf_64 : decode cX10_darkOf 64 = .ok (.iload 8, 2) := by decide +kernel
theorem dX10_darkOf_66 : decode cX10_darkOf 66 = .ok (.ishl, 1) := by decide +kernel
theorem dX10_darkOf_67 : decode cX10_darkOf 67 = .ok (.goto 4, 3) := by decide +kernel
theorem dX10_darkOf_70 : decode cX10_darkOf 70 = .ok (.iconst 0, 1) := by decide +kernel
theorem dX10_darkOf_71 : decode cX10_darkOf 71 = .ok (.ior, 1) := by decide +kernel
theorem dX10_darkOf_72 : decode cX10_darkOf 72 = .ok (.istore 7, 2) := by decide +kernel
theorem dX10_darkOf_74 : decode cX10_darkOf 74 = .ok (.iinc 8 1, 3) := by decide +kernel
theorem dX10_darkOf_77 : decode cX10_darkOf 77 = .ok (.goto (-51), 3) := by decide +kernel
theorem dX10_darkOf_80 : decode cX10_darkOf 80 = .ok (.iload 7, 2) := by decide +kernel
theorem dX10_darkOf_82 : decode cX10_darkOf 82 = .ok (.ireturn, 1) := by decide +kernel
theorem dX10_idealOf_0 : decode cX10_idealOf 0 = .ok (.iconst 0, 1) := by decide +kernel
theorem dX10_idealOf_1 : decode cX10_idealOf 1 = .ok (.istore_n 2, 1) := by decide +kernel
theorem dX10_idealOf_2 : decode cX10_idealOf 2 = .ok (.lconst 0, 1) := by decide +kernel
theorem dX10_idealOf_3 : decode cX10_idealOf 3 = .ok (.lstore_n 3, 1) := by decide +kernel
theorem dX10_idealOf_4 : decode cX10_idealOf 4 = .ok (.bipush (-12), 2) := by decide +kernel
theorem dX10_idealOf_6 : decode cX10_idealOf 6 = .ok (.istore 5, 2) := by decide +kernel
theorem dX10_idealOf_8 : decode cX10_idealOf 8 = .ok (.iload 5, 2) := by decide +kernel
theorem dX10_idealOf_10 : decode cX10_idealOf 10 = .ok (.bipush 12, 2) := by decide +kernel
theorem dX10_idealOf_12 : decode cX10_idealOf 12 = .ok (.if_icmp .gt 99, 3) := by decide +kernel
theorem dX10_idealOf_15 : decode cX10_idealOf 15 = .ok (.iload 5, 2) := by decide +kernel
theorem dX10_idealOf_17 : decode cX10_idealOf 17 = .ok (.invokestatic 151, 3) := by decide +kernel
theorem dX10_idealOf_20 : decode cX10_idealOf 20 = .ok (.aload_n 0, 1) := by decide +kernel
theorem dX10_idealOf_21 : decode cX10_idealOf 21 = .ok (.getfield 34, 3) := by decide +kernel
theorem dX10_idealOf_24 : decode cX10_idealOf 24 = .ok (.iload_n 1, 1) := by decide +kernel
theorem dX10_idealOf_25 : decode cX10_idealOf 25 = .ok (.iaload, 1) := by decide +kernel
theorem dX10_idealOf_26 : decode cX10_idealOf 26 = .ok (.i2l, 1) := by decide +kernel
theorem dX10_idealOf_27 : decode cX10_idealOf 27 = .ok (.lmul, 1) := by decide +kernel
theorem dX10_idealOf_28 : decode cX10_idealOf 28 = .ok (.iload 5, 2) := by decide +kernel
theorem dX10_idealOf_30 : decode cX10_idealOf 30 = .ok (.invokestatic 155, 3) := by decide +kernel
theorem dX10_idealOf_33 : decode cX10_idealOf 33 = .ok (.aload_n 0, 1) := by decide +kernel
theorem dX10_idealOf_34 : decode cX10_idealOf 34 = .ok (.getfield 31, 3) := by decide +kernel
theorem dX10_idealOf_37 : decode cX10_idealOf 37 = .ok (.iload_n 1, 1) := by decide +kernel
theorem dX10_idealOf_38 : decode cX10_idealOf 38 = .ok (.iaload, 1) := by decide +kernel
theorem dX10_idealOf_39 : decode cX10_idealOf 39 = .ok (.i2l, 1) := by decide +kernel
theorem dX10_idealOf_40 : decode cX10_idealOf 40 = .ok (.lmul, 1) := by decide +kernel
theorem dX10_idealOf_41 : decode cX10_idealOf 41 = .ok (.lsub, 1) := by decide +kernel
theorem dX10_idealOf_42 : decode cX10_idealOf 42 = .ok (.lstore 6, 2) := by decide +kernel
theorem dX10_idealOf_44 : decode cX10_idealOf 44 = .ok (.iload 5, 2) := by decide +kernel
theorem dX10_idealOf_46 : decode cX10_idealOf 46 = .ok (.ifCond .ge 9, 3) := by decide +kernel
theorem dX10_idealOf_49 : decode cX10_idealOf 49 = .ok (.iload 5, 2) := by decide +kernel
theorem dX10_idealOf_51 : decode cX10_idealOf 51 = .ok (.ineg, 1) := by decide +kernel
theorem dX10_idealOf_52 : decode cX10_idealOf 52 = .ok (.goto 5, 3) := by decide +kernel
theorem dX10_idealOf_55 : decode cX10_idealOf 55 = .ok (.iload 5, 2) := by decide +kernel
theorem dX10_idealOf_57 : decode cX10_idealOf 57 = .ok (.istore 8, 2) := by decide +kernel
theorem dX10_idealOf_59 : decode cX10_idealOf 59 = .ok (.iload_n 2, 1) := by decide +kernel
theorem dX10_idealOf_60 : decode cX10_idealOf 60 = .ok (.ifCond .ge 8, 3) := by decide +kernel
theorem dX10_idealOf_63 : decode cX10_idealOf 63 = .ok (.iload_n 2, 1) := by decide +kernel
theorem dX10_idealOf_64 : decode cX10_idealOf 64 = .ok (.ineg, 1) := by decide +kernel
theorem dX10_idealOf_65 : decode cX10_idealOf 65 = .ok (.goto 4, 3) := by decide +kernel
theorem dX10_idealOf_68 : decode cX10_idealOf 68 = .ok (.iload_n 2, 1) := by decide +kernel
theorem dX10_idealOf_69 : decode cX10_idealOf 69 = .ok (.istore 9, 2) := by decide +kernel
theorem dX10_idealOf_71 : decode cX10_idealOf 71 = .ok (.iload 5, 2) := by decide +kernel
theorem dX10_idealOf_73 : decode cX10_idealOf 73 = .ok (.bipush (-12), 2) := by decide +kernel
theorem dX10_idealOf_75 : decode cX10_idealOf 75 = .ok (.if_icmp .eq 24, 3) := by decide +kernel
theorem dX10_idealOf_78 : decode cX10_idealOf 78 = .ok (.lload 6, 2) := by decide +kernel
theorem dX10_idealOf_80 : decode cX10_idealOf 80 = .ok (.lload_n 3, 1) := by decide +kernel
theorem dX10_idealOf_81 : decode cX10_idealOf 81 = .ok (.lcmp, 1) := by decide +kernel
theorem dX10_idealOf_82 : decode cX10_idealOf 82 = .ok (.ifCond .gt 17, 3) := by decide +kernel
theorem dX10_idealOf_85 : decode cX10_idealOf 85 = .ok (.lload 6, 2) := by decide +kernel
theorem dX10_idealOf_87 : decode cX10_idealOf 87 = .ok (.lload_n 3, 1) := by decide +kernel
theorem dX10_idealOf_88 : decode cX10_idealOf 88 = .ok (.lcmp, 1) := by decide +kernel
theorem dX10_idealOf_89 : decode cX10_idealOf 89 = .ok (.ifCond .ne 16, 3) := by decide +kernel
theorem dX10_idealOf_92 : decode cX10_idealOf 92 = .ok (.iload 8, 2) := by decide +kernel
theorem dX10_idealOf_94 : decode cX10_idealOf 94 = .ok (.iload 9, 2) := by decide +kernel
theorem dX10_idealOf_96 : decode cX10_idealOf 96 = .ok (.if_icmp .ge 9, 3) := by decide +kernel
theorem dX10_idealOf_99 : decode cX10_idealOf 99 = .ok (.iload 5, 2) := by decide +kernel
theorem dX10_idealOf_101 : decode cX10_idealOf 101 = .ok (.istore_n 2, 1) := by decide +kernel
theorem dX10_idealOf_102 : decode cX10_idealOf 102 = .ok (.lload 6, 2) := by decide +kernel
theorem dX10_idealOf_104 : decode cX10_idealOf 104 = .ok (.lstore_n 3, 1) := by decide +kernel
theorem dX10_idealOf_105 : decode cX10_idealOf 105 = .ok (.iinc 5 1, 3) := by decide +kernel
theorem dX10_idealOf_108 : decode cX10_idealOf 108 = .ok (.goto (-100), 3) := by decide +kernel
theorem dX10_idealOf_111 : decode cX10_idealOf 111 = .ok (.iload_n 2, 1) := by decide +kernel
theorem dX10_idealOf_112 : decode cX10_idealOf 112 = .ok (.ireturn, 1) := by decide +kernel
theorem dX10_isClear_0 : decode cX10_isClear 0 = .ok (.aload_n 0, 1) := by decide +kernel
theorem dX10_isClear_1 : decode cX10_isClear 1 = .ok (.iload_n 1, 1) := by decide +kernel
theorem dX10_isClear_2 : decode cX10_isClear 2 = .ok (.putfield 64, 3) := by decide +kernel
theorem dX10_isClear_5 : decode cX10_isClear 5 = .ok (.iconst 1, 1) := by decide +kernel
theorem dX10_isClear_6 : decode cX10_isClear 6 = .ok (.istore_n 3, 1) := by decide +kernel
theorem dX10_isClear_7 : decode cX10_isClear 7 = .ok (.iconst 0, 1) := by decide +kernel
theorem dX10_isClear_8 : decode cX10_isClear 8 = .ok (.istore 4, 2) := by decide +kernel
theorem dX10_isClear_10 : decode cX10_isClear 10 = .ok (.iload 4, 2) := by decide +kernel
theorem dX10_isClear_12 : decode cX10_isClear 12 = .ok (.aload_n 0, 1) := by decide +kernel
theorem dX10_isClear_13 : decode cX10_isClear 13 = .ok (.getfield 72, 3) := by decide +kernel
theorem dX10_isClear_16 : decode cX10_isClear 16 = .ok (.if_icmp .ge 46, 3) := by decide +kernel
theorem dX10_isClear_19 : decode cX10_isClear 19 = .ok (.aload_n 0, 1) := by decide +kernel
theorem dX10_isClear_20 : decode cX10_isClear 20 = .ok (.getfield 9, 3) := by decide +kernel
theorem dX10_isClear_23 : decode cX10_isClear 23 = .ok (.iload 4, 2) := by decide +kernel
theorem dX10_isClear_25 : decode cX10_isClear 25 = .ok (.iaload, 1) := by decide +kernel
theorem dX10_isClear_26 : decode cX10_isClear 26 = .ok (.iconst 1, 1) := by decide +kernel
theorem dX10_isClear_27 : decode cX10_isClear 27 = .ok (.if_icmp .eq 29, 3) := by decide +kernel
theorem dX10_isClear_30 : decode cX10_isClear 30 = .ok (.aload_n 0, 1) := by decide +kernel
theorem dX10_isClear_31 : decode cX10_isClear 31 = .ok (.iload 4, 2) := by decide +kernel
theorem dX10_isClear_33 : decode cX10_isClear 33 = .ok (.iload_n 2, 1) := by decide +kernel
theorem dX10_isClear_34 : decode cX10_isClear 34 = .ok (.invokevirtual 171, 3) := by decide +kernel
theorem dX10_isClear_37 : decode cX10_isClear 37 = .ok (.lconst 0, 1) := by decide +kernel
theorem dX10_isClear_38 : decode cX10_isClear 38 = .ok (.lcmp, 1) := by decide +kernel
theorem dX10_isClear_39 : decode cX10_isClear 39 = .ok (.ifCond .le 17, 3) := by decide +kernel
theorem dX10_isClear_42 : decode cX10_isClear 42 = .ok (.aload_n 0, 1) := by decide +kernel
theorem dX10_isClear_43 : decode cX10_isClear 43 = .ok (.iload 4, 2) := by decide +kernel
theorem dX10_isClear_45 : decode cX10_isClear 45 = .ok (.iload_n 2, 1) := by decide +kernel
theorem dX10_isClear_46 : decode cX10_isClear 46 = .ok (.invokevirtual 175, 3) := by decide +kernel
theorem dX10_isClear_49 : decode cX10_isClear 49 = .ok (.lconst 0, 1) := by decide +kernel
theorem dX10_isClear_50 : decode cX10_isClear 50 = .ok (.lcmp, 1) := by decide +kernel
theorem dX10_isClear_51 : decode cX10_isClear 51 = .ok (.ifCond .le 5, 3) := by decide +kernel
theorem dX10_isClear_54 : decode cX10_isClear 54 = .ok (.iconst 0, 1) := by decide +kernel
theorem dX10_isClear_55 : decode cX10_isClear 55 = .ok (.istore_n 3, 1) := by decide +kernel
theorem dX10_isClear_56 : decode cX10_isClear 56 = .ok (.iinc 4 1, 3) := by decide +kernel
theorem dX10_isClear_59 : decode cX10_isClear 59 = .ok (.goto (-49), 3) := by decide +kernel
theorem dX10_isClear_62 : decode cX10_isClear 62 = .ok (.aload_n 0, 1) := by decide +kernel
theorem dX10_isClear_63 : decode cX10_isClear 63 = .ok (.bipush 99, 2) := by decide +kernel
theorem dX10_isClear_65 : decode cX10_isClear 65 = .ok (.putfield 64, 3) := by decide +kernel
theorem dX10_isClear_68 : decode cX10_isClear 68 = .ok (.iload_n 3, 1) := by decide +kernel
theorem dX10_isClear_69 : decode cX10_isClear 69 = .ok (.ireturn, 1) := by decide +kernel
theorem dX10_backOf_0 : decode cX10_backOf 0 = .ok (.aload_n 0, 1) := by decide +kernel
theorem dX10_backOf_1 : decode cX10_backOf 1 = .ok (.iload_n 1, 1) := by decide +kernel
theorem dX10_backOf_2 : decode cX10_backOf 2 = .ok (.invokevirtual 178, 3) := by decide +kernel
theorem dX10_backOf_5 : decode cX10_backOf 5 = .ok (.istore_n 2, 1) := by decide +kernel
theorem dX10_backOf_6 : decode cX10_backOf 6 = .ok (.iconst 0, 1) := by decide +kernel
theorem dX10_backOf_7 : decode cX10_backOf 7 = .ok (.istore_n 3, 1) := by decide +kernel
theorem dX10_backOf_8 : decode cX10_backOf 8 = .ok (.iload_n 3, 1) := by decide +kernel
theorem dX10_backOf_9 : decode cX10_backOf 9 = .ok (.bipush 24, 2) := by decide +kernel
theorem dX10_backOf_11 : decode cX10_backOf 11 = .ok (.if_icmp .gt 57, 3) := by decide +kernel
theorem dX10_backOf_14 : decode cX10_backOf 14 = .ok (.iload_n 2, 1) := by decide +kernel
theorem dX10_backOf_15 : decode cX10_backOf 15 = .ok (.iload_n 3, 1) := by decide +kernel
theorem dX10_backOf_16 : decode cX10_backOf 16 = .ok (.isub, 1) := by decide +kernel
theorem dX10_backOf_17 : decode cX10_backOf 17 = .ok (.invokestatic 115, 3) := by decide +kernel
theorem dX10_backOf_20 : decode cX10_backOf 20 = .ok (.ifCond .eq 18, 3) := by decide +kernel
theorem dX10_backOf_23 : decode cX10_backOf 23 = .ok (.aload_n 0, 1) := by decide +kernel
theorem dX10_backOf_24 : decode cX10_backOf 24 = .ok (.iload_n 2, 1) := by decide +kernel
theorem dX10_backOf_25 : decode cX10_backOf 25 = .ok (.iload_n 3, 1) := by decide +kernel
theorem dX10_backOf_26 : decode cX10_backOf 26 = .ok (.isub, 1) := by decide +kernel
theorem dX10_backOf_27 : decode cX10_backOf 27 = .ok (.iload_n 1, 1) := by decide +kernel
theorem dX10_backOf_28 : decode cX10_backOf 28 = .ok (.invokevirtual 181, 3) := by decide +kernel
theorem dX10_backOf_31 : decode cX10_backOf 31 = .ok (.ifCond .eq 7, 3) := by decide +kernel
theorem dX10_backOf_34 : decode cX10_backOf 34 = .ok (.iload_n 2, 1) := by decide +kernel
theorem dX10_backOf_35 : decode cX10_backOf 35 = .ok (.iload_n 3, 1) := by decide +kernel
theorem dX10_backOf_36 : decode cX10_backOf 36 = .ok (.isub, 1) := by decide +kernel
theorem dX10_backOf_37 : decode cX10_backOf 37 = .ok (.ireturn, 1) := by decide +kernel
theorem dX10_backOf_38 : decode cX10_backOf 38 = .ok (.iload_n 2, 1) := by decide +kernel
theorem dX10_backOf_39 : decode cX10_backOf 39 = .ok (.iload_n 3, 1) := by decide +kernel
theorem dX10_backOf_40 : decode cX10_backOf 40 = .ok (.iadd, 1) := by decide +kernel
theorem dX10_backOf_41 : decode cX10_backOf 41 = .ok (.invokestatic 115, 3) := by decide +kernel
theorem dX10_backOf_44 : decode cX10_backOf 44 = .ok (.ifCond .eq 18, 3) := by decide +kernel
theorem dX10_backOf_47 : decode cX10_backOf 47 = .ok (.aload_n 0, 1) := by decide +kernel
theorem dX10_backOf_48 : decode cX10_backOf 48 = .ok (.iload_n 2, 1) := by decide +kernel
theorem dX10_backOf_49 : decode cX10_backOf 49 = .ok (.iload_n 3, 1) := by decide +kernel
theorem dX10_backOf_50 : decode cX10_backOf 50 = .ok (.iadd, 1) := by decide +kernel
theorem dX10_backOf_51 : decode cX10_backOf 51 = .ok (.iload_n 1, 1) := by decide +kernel
theorem dX10_backOf_52 : decode cX10_backOf 52 = .ok (.invokevirtual 181, 3) := by decide +kernel
theorem dX10_backOf_55 : decode cX10_backOf 55 = .ok (.ifCond .eq 7, 3) := by decide +kernel
theorem dX10_backOf_58 : decode cX10_backOf 58 = .ok (.iload_n 2, 1) := by decide +kernel
theorem dX10_backOf_59 : decode cX10_backOf 59 = .ok (.iload_n 3, 1) := by decide +kernel
theorem dX10_backOf_60 : decode cX10_backOf 60 = .ok (.iadd, 1) := by decide +kernel
theorem dX10_backOf_61 : decode cX10_backOf 61 = .ok (.ireturn, 1) := by decide +kernel
theorem dX10_backOf_62 : decode cX10_backOf 62 = .ok (.iinc 3 1, 3) := by decide +kernel
theorem dX10_backOf_65 : decode cX10_backOf 65 = .ok (.goto (-57), 3) := by decide +kernel
theorem dX10_backOf_68 : decode cX10_backOf 68 = .ok (.bipush 99, 2) := by decide +kernel
theorem dX10_backOf_70 : decode cX10_backOf 70 = .ok (.ireturn, 1) := by decide +kernel
theorem dX10_ideal_0 : decode cX10_ideal 0 = .ok (.iload_n 1, 1) := by decide +kernel
theorem dX10_ideal_1 : decode cX10_ideal 1 = .ok (.invokestatic 131, 3) := by decide +kernel
theorem dX10_ideal_4 : decode cX10_ideal 4 = .ok (.ifCond .ne 10, 3) := by decide +kernel
theorem dX10_ideal_7 : decode cX10_ideal 7 = .ok (.aload_n 0, 1) := by decide +kernel
theorem dX10_ideal_8 : decode cX10_ideal 8 = .ok (.ldc 119, 2) := by decide +kernel
theorem dX10_ideal_10 : decode cX10_ideal 10 = .ok (.invokevirtual 120, 3) := by decide +kernel
theorem dX10_ideal_13 : decode cX10_ideal 13 = .ok (.ireturn, 1) := by decide +kernel
theorem dX10_ideal_14 : decode cX10_ideal 14 = .ok (.aload_n 0, 1) := by decide +kernel
theorem dX10_ideal_15 : decode cX10_ideal 15 = .ok (.iload_n 1, 1) := by decide +kernel
theorem dX10_ideal_16 : decode cX10_ideal 16 = .ok (.invokevirtual 185, 3) := by decide +kernel
theorem dX10_ideal_19 : decode cX10_ideal 19 = .ok (.ifCond .eq 12, 3) := by decide +kernel
theorem dX10_ideal_22 : decode cX10_ideal 22 = .ok (.aload_n 0, 1) := by decide +kernel
theorem dX10_ideal_23 : decode cX10_ideal 23 = .ok (.ldc 126, 2) := by decide +kernel
theorem dX10_ideal_25 : decode cX10_ideal 25 = .ok (.invokevirtual 120, 3) := by decide +kernel
theorem dX10_ideal_28 : decode cX10_ideal 28 = .ok (.goto 8, 3) := by decide +kernel
theorem dX10_ideal_31 : decode cX10_ideal 31 = .ok (.aload_n 0, 1) := by decide +kernel
theorem dX10_ideal_32 : decode cX10_ideal 32 = .ok (.iload_n 1, 1) := by decide +kernel
theorem dX10_ideal_33 : decode cX10_ideal 33 = .ok (.invokevirtual 178, 3) := by decide +kernel
theorem dX10_ideal_36 : decode cX10_ideal 36 = .ok (.ireturn, 1) := by decide +kernel
theorem dX10_back_0 : decode cX10_back 0 = .ok (.iload_n 1, 1) := by decide +kernel
theorem dX10_back_1 : decode cX10_back 1 = .ok (.invokestatic 131, 3) := by decide +kernel
theorem dX10_back_4 : decode cX10_back 4 = .ok (.ifCond .ne 10, 3) := by decide +kernel
theorem dX10_back_7 : decode cX10_back 7 = .ok (.aload_n 0, 1) := by decide +kernel
theorem dX10_back_8 : decode cX10_back 8 = .ok (.ldc 119, 2) := by decide +kernel
theorem dX10_back_10 : decode cX10_back 10 = .ok (.invokevirtual 120, 3) := by decide +kernel
theorem dX10_back_13 : decode cX10_back 13 = .ok (.ireturn, 1) := by decide +kernel
theorem dX10_back_14 : decode cX10_back 14 = .ok (.aload_n 0, 1) := by decide +kernel
theorem dX10_back_15 : decode cX10_back 15 = .ok (.iload_n 1, 1) := by decide +kernel
theorem dX10_back_16 : decode cX10_back 16 = .ok (.invokevirtual 185, 3) := by decide +kernel
theorem dX10_back_19 : decode cX10_back 19 = .ok (.ifCond .eq 10, 3) := by decide +kernel
theorem dX10_back_22 : decode cX10_back 22 = .ok (.aload_n 0, 1) := by decide +kernel
theorem dX10_back_23 : decode cX10_back 23 = .ok (.ldc 130, 2) := by decide +kernel
theorem dX10_back_25 : decode cX10_back 25 = .ok (.invokevirtual 120, 3) := by decide +kernel
theorem dX10_back_28 : decode cX10_back 28 = .ok (.ireturn, 1) := by decide +kernel
theorem dX10_back_29 : decode cX10_back 29 = .ok (.aload_n 0, 1) := by decide +kernel
theorem dX10_back_30 : decode cX10_back 30 = .ok (.iload_n 1, 1) := by decide +kernel
theorem dX10_back_31 : decode cX10_back 31 = .ok (.invokevirtual 188, 3) := by decide +kernel
theorem dX10_back_34 : decode cX10_back 34 = .ok (.istore_n 2, 1) := by decide +kernel
theorem dX10_back_35 : decode cX10_back 35 = .ok (.iload_n 2, 1) := by decide +kernel
theorem dX10_back_36 : decode cX10_back 36 = .ok (.bipush 99, 2) := by decide +kernel
theorem dX10_back_38 : decode cX10_back 38 = .ok (.if_icmp .ne 12, 3) := by decide +kernel
theorem dX10_back_41 : decode cX10_back 41 = .ok (.aload_n 0, 1) := by decide +kernel
theorem dX10_back_42 : decode cX10_back 42 = .ok (.ldc 126, 2) := by decide +kernel
theorem dX10_back_44 : decode cX10_back 44 = .ok (.invokevirtual 120, 3) := by decide +kernel
theorem dX10_back_47 : decode cX10_back 47 = .ok (.goto 4, 3) := by decide +kernel
theorem dX10_back_50 : decode cX10_back 50 = .ok (.iload_n 2, 1) := by decide +kernel
theorem dX10_back_51 : decode cX10_back 51 = .ok (.ireturn, 1) := by decide +kernel
theorem dX10_unseen_0 : decode cX10_unseen 0 = .ok (.aload_n 0, 1) := by decide +kernel
theorem dX10_unseen_1 : decode cX10_unseen 1 = .ok (.iload_n 1, 1) := by decide +kernel
theorem dX10_unseen_2 : decode cX10_unseen 2 = .ok (.invokevirtual 127, 3) := by decide +kernel
theorem dX10_unseen_5 : decode cX10_unseen 5 = .ok (.ifCond .eq 10, 3) := by decide +kernel
theorem dX10_unseen_8 : decode cX10_unseen 8 = .ok (.iload_n 2, 1) := by decide +kernel
theorem dX10_unseen_9 : decode cX10_unseen 9 = .ok (.invokestatic 131, 3) := by decide +kernel
theorem dX10_unseen_12 : decode cX10_unseen 12 = .ok (.ifCond .ne 8, 3) := by decide +kernel
theorem dX10_unseen_15 : decode cX10_unseen 15 = .ok (.ldc 119, 2) := by decide +kernel
theorem dX10_unseen_17 : decode cX10_unseen 17 = .ok (.goto 17, 3) := by decide +kernel
theorem dX10_unseen_20 : decode cX10_unseen 20 = .ok (.aload_n 0, 1) := by decide +kernel
theorem dX10_unseen_21 : decode cX10_unseen 21 = .ok (.iload_n 2, 1) := by decide +kernel
theorem dX10_unseen_22 : decode cX10_unseen 22 = .ok (.invokevirtual 185, 3) := by decide +kernel
theorem dX10_unseen_25 : decode cX10_unseen 25 = .ok (.ifCond .eq 8, 3) := by decide +kernel
theorem dX10_unseen_28 : decode cX10_unseen 28 = .ok (.ldc 126, 2) := by decide +kernel
theorem dX10_unseen_30 : decode cX10_unseen 30 = .ok (.goto 4, 3) := by decide +kernel
theorem dX10_unseen_33 : decode cX10_unseen 33 = .ok (.iconst 0, 1) := by decide +kernel
theorem dX10_unseen_34 : decode cX10_unseen 34 = .ok (.ireturn, 1) := by decide +kernel
theorem dX10_breadth_0 : decode cX10_breadth 0 = .ok (.aload_n 0, 1) := by decide +kernel
theorem dX10_breadth_1 : decode cX10_breadth 1 = .ok (.iload_n 1, 1) := by decide +kernel
theorem dX10_breadth_2 : decode cX10_breadth 2 = .ok (.iload_n 2, 1) := by decide +kernel
theorem dX10_breadth_3 : decode cX10_breadth 3 = .ok (.invokevirtual 191, 3) := by decide +kernel
theorem dX10_breadth_6 : decode cX10_breadth 6 = .ok (.istore_n 3, 1) := by decide +kernel
theorem dX10_breadth_7 : decode cX10_breadth 7 = .ok (.iload_n 3, 1) := by decide +kernel
theorem dX10_breadth_8 : decode cX10_breadth 8 = .ok (.ifCond .ge 12, 3) := by decide +kernel
theorem dX10_breadth_11 : decode cX10_breadth 11 = .ok (.aload_n 0, 1) := by decide +kernel
theorem dX10_breadth_12 : decode cX10_breadth 12 = .ok (.iload_n 3, 1) := by decide +kernel
theorem dX10_breadth_13 : decode cX10_breadth 13 = .ok (.invokevirtual 120, 3) := by decide +kernel
theorem dX10_breadth_16 : decode cX10_breadth 16 = .ok (.i2l, 1) := by decide +kernel
theorem dX10_breadth_17 : decode cX10_breadth 17 = .ok (.goto 9, 3) := by decide +kernel
theorem dX10_breadth_20 : decode cX10_breadth 20 = .ok (.aload_n 0, 1) := by decide +kernel
theorem dX10_breadth_21 : decode cX10_breadth 21 = .ok (.iload_n 1, 1) := by decide +kernel
theorem dX10_breadth_22 : decode cX10_breadth 22 = .ok (.iload_n 2, 1) := by decide +kernel
theorem dX10_breadth_23 : decode cX10_breadth 23 = .ok (.invokevirtual 171, 3) := by decide +kernel
theorem dX10_breadth_26 : decode cX10_breadth 26 = .ok (.lreturn, 1) := by decide +kernel
theorem dX10_unlit_0 : decode cX10_unlit 0 = .ok (.aload_n 0, 1) := by decide +kernel
theorem dX10_unlit_1 : decode cX10_unlit 1 = .ok (.iload_n 1, 1) := by decide +kernel
theorem dX10_unlit_2 : decode cX10_unlit 2 = .ok (.iload_n 2, 1) := by decide +kernel
theorem dX10_unlit_3 : decode cX10_unlit 3 = .ok (.invokevirtual 191, 3) := by decide +kernel
theorem dX10_unlit_6 : decode cX10_unlit 6 = .ok (.istore_n 3, 1) := by decide +kernel
theorem dX10_unlit_7 : decode cX10_unlit 7 = .ok (.iload_n 3, 1) := by decide +kernel
theorem dX10_unlit_8 : decode cX10_unlit 8 = .ok (.ifCond .ge 7, 3) := by decide +kernel
theorem dX10_unlit_11 : decode cX10_unlit 11 = .ok (.iload_n 3, 1) := by decide +kernel
theorem dX10_unlit_12 : decode cX10_unlit 12 = .ok (.goto 20, 3) := by decide +kernel
theorem dX10_unlit_15 : decode cX10_unlit 15 = .ok (.aload_n 0, 1) := by decide +kernel
theorem dX10_unlit_16 : decode cX10_unlit 16 = .ok (.iload_n 1, 1) := by decide +kernel
theorem dX10_unlit_17 : decode cX10_unlit 17 = .ok (.iload_n 2, 1) := by decide +kernel
theorem dX10_unlit_18 : decode cX10_unlit 18 = .ok (.invokevirtual 171, 3) := by decide +kernel
theorem dX10_unlit_21 : decode cX10_unlit 21 = .ok (.lconst 0, 1) := by decide +kernel
theorem dX10_unlit_22 : decode cX10_unlit 22 = .ok (.lcmp, 1) := by decide +kernel
theorem dX10_unlit_23 : decode cX10_unlit 23 = .ok (.ifCond .le 7, 3) := by decide +kernel
theorem dX10_unlit_26 : decode cX10_unlit 26 = .ok (.iconst 0, 1) := by decide +kernel
theorem dX10_unlit_27 : decode cX10_unlit 27 = .ok (.goto 5, 3) := by decide +kernel
theorem dX10_unlit_30 : decode cX10_unlit 30 = .ok (.ldc 130, 2) := by decide +kernel
theorem dX10_unlit_32 : decode cX10_unlit 32 = .ok (.ireturn, 1) := by decide +kernel
theorem dX10_shade_0 : decode cX10_shade 0 = .ok (.aload_n 0, 1) := by decide +kernel
theorem dX10_shade_1 : decode cX10_shade 1 = .ok (.iload_n 1, 1) := by decide +kernel
theorem dX10_shade_2 : decode cX10_shade 2 = .ok (.iload_n 2, 1) := by decide +kernel
theorem dX10_shade_3 : decode cX10_shade 3 = .ok (.invokevirtual 195, 3) := by decide +kernel
theorem dX10_shade_6 : decode cX10_shade 6 = .ok (.istore_n 3, 1) := by decide +kernel
theorem dX10_shade_7 : decode cX10_shade 7 = .ok (.iload_n 3, 1) := by decide +kernel
theorem dX10_shade_8 : decode cX10_shade 8 = .ok (.ifCond .ge 12, 3) := by decide +kernel
theorem dX10_shade_11 : decode cX10_shade 11 = .ok (.aload_n 0, 1) := by decide +kernel
theorem dX10_shade_12 : decode cX10_shade 12 = .ok (.iload_n 3, 1) := by decide +kernel
theorem dX10_shade_13 : decode cX10_shade 13 = .ok (.invokevirtual 120, 3) := by decide +kernel
theorem dX10_shade_16 : decode cX10_shade 16 = .ok (.i2l, 1) := by decide +kernel
theorem dX10_shade_17 : decode cX10_shade 17 = .ok (.goto 9, 3) := by decide +kernel
theorem dX10_shade_20 : decode cX10_shade 20 = .ok (.aload_n 0, 1) := by decide +kernel
theorem dX10_shade_21 : decode cX10_shade 21 = .ok (.iload_n 1, 1) := by decide +kernel
theorem dX10_shade_22 : decode cX10_shade 22 = .ok (.iload_n 2, 1) := by decide +kernel
theorem dX10_shade_23 : decode cX10_shade 23 = .ok (.invokevirtual 175, 3) := by decide +kernel
theorem dX10_shade_26 : decode cX10_shade 26 = .ok (.lreturn, 1) := by decide +kernel
theorem dX10_dark_0 : decode cX10_dark 0 = .ok (.aload_n 0, 1) := by decide +kernel
theorem dX10_dark_1 : decode cX10_dark 1 = .ok (.iload_n 1, 1) := by decide +kernel
theorem dX10_dark_2 : decode cX10_dark 2 = .ok (.iload_n 2, 1) := by decide +kernel
theorem dX10_dark_3 : decode cX10_dark 3 = .ok (.invokevirtual 195, 3) := by decide +kernel
theorem dX10_dark_6 : decode cX10_dark 6 = .ok (.istore_n 3, 1) := by decide +kernel
theorem dX10_dark_7 : decode cX10_dark 7 = .ok (.iload_n 3, 1) := by decide +kernel
theorem dX10_dark_8 : decode cX10_dark 8 = .ok (.ifCond .ge 11, 3) := by decide +kernel
theorem dX10_dark_11 : decode cX10_dark 11 = .ok (.aload_n 0, 1) := by decide +kernel
theorem dX10_dark_12 : decode cX10_dark 12 = .ok (.iload_n 3, 1) := by decide +kernel
theorem dX10_dark_13 : decode cX10_dark 13 = .ok (.invokevirtual 120, 3) := by decide +kernel
theorem dX10_dark_16 : decode cX10_dark 16 = .ok (.goto 9, 3) := by decide +kernel
theorem dX10_dark_19 : decode cX10_dark 19 = .ok (.aload_n 0, 1) := by decide +kernel
theorem dX10_dark_20 : decode cX10_dark 20 = .ok (.iload_n 1, 1) := by decide +kernel
theorem dX10_dark_21 : decode cX10_dark 21 = .ok (.iload_n 2, 1) := by decide +kernel
theorem dX10_dark_22 : decode cX10_dark 22 = .ok (.invokevirtual 198, 3) := by decide +kernel
theorem dX10_dark_25 : decode cX10_dark 25 = .ok (.ireturn, 1) := by decide +kernel
theorem dX10_isString_0 : decode cX10_isString 0 = .ok (.iload_n 0, 1) := by decide +kernel
theorem dX10_isString_1 : decode cX10_isString 1 = .ok (.iconst 0, 1) := by decide +kernel
theorem dX10_isString_2 : decode cX10_isString 2 = .ok (.iconst 3, 1) := by decide +kernel
theorem dX10_isString_3 : decode cX10_isString 3 = .ok (.invokestatic 75, 3) := by decide +kernel
theorem dX10_isString_6 : decode cX10_isString 6 = .ok (.ireturn, 1) := by decide +kernel
theorem dX10_string_0 : decode cX10_string 0 = .ok (.aload_n 0, 1) := by decide +kernel
theorem dX10_string_1 : decode cX10_string 1 = .ok (.iload_n 1, 1) := by decide +kernel
theorem dX10_string_2 : decode cX10_string 2 = .ok (.invokevirtual 127, 3) := by decide +kernel
theorem dX10_string_5 : decode cX10_string 5 = .ok (.ifCond .eq 15, 3) := by decide +kernel
theorem dX10_string_8 : decode cX10_string 8 = .ok (.iload_n 2, 1) := by decide +kernel
theorem dX10_string_9 : decode cX10_string 9 = .ok (.iconst (-1), 1) := by decide +kernel
theorem dX10_string_10 : decode cX10_string 10 = .ok (.if_icmp .eq 17, 3) := by decide +kernel
theorem dX10_string_13 : decode cX10_string 13 = .ok (.iload_n 2, 1) := by decide +kernel
theorem dX10_string_14 : decode cX10_string 14 = .ok (.invokestatic 201, 3) := by decide +kernel
theorem dX10_string_17 : decode cX10_string 17 = .ok (.ifCond .ne 10, 3) := by decide +kernel
theorem dX10_string_20 : decode cX10_string 20 = .ok (.aload_n 0, 1) := by decide +kernel
theorem dX10_string_21 : decode cX10_string 21 = .ok (.ldc 119, 2) := by decide +kernel
theorem dX10_string_23 : decode cX10_string 23 = .ok (.invokevirtual 120, 3) := by decide +kernel
theorem dX10_string_26 : decode cX10_string 26 = .ok (.ireturn, 1) := by decide +kernel
theorem dX10_string_27 : decode cX10_string 27 = .ok (.aload_n 0, 1) := by decide +kernel
theorem dX10_string_28 : decode cX10_string 28 = .ok (.getfield 28, 3) := by decide +kernel
theorem dX10_string_31 : decode cX10_string 31 = .ok (.iload_n 1, 1) := by decide +kernel
theorem dX10_string_32 : decode cX10_string 32 = .ok (.iaload, 1) := by decide +kernel
theorem dX10_string_33 : decode cX10_string 33 = .ok (.istore_n 3, 1) := by decide +kernel
theorem dX10_string_34 : decode cX10_string 34 = .ok (.aload_n 0, 1) := by decide +kernel
theorem dX10_string_35 : decode cX10_string 35 = .ok (.getfield 28, 3) := by decide +kernel
theorem dX10_string_38 : decode cX10_string 38 = .ok (.iload_n 1, 1) := by decide +kernel
theorem dX10_string_39 : decode cX10_string 39 = .ok (.iload_n 2, 1) := by decide +kernel
theorem dX10_string_40 : decode cX10_string 40 = .ok (.iastore, 1) := by decide +kernel
theorem dX10_string_41 : decode cX10_string 41 = .ok (.iload_n 3, 1) := by decide +kernel
theorem dX10_string_42 : decode cX10_string 42 = .ok (.ireturn, 1) := by decide +kernel
theorem dX10_ceiling_0 : decode cX10_ceiling 0 = .ok (.iload_n 1, 1) := by decide +kernel
theorem dX10_ceiling_1 : decode cX10_ceiling 1 = .ok (.invokestatic 201, 3) := by decide +kernel
theorem dX10_ceiling_4 : decode cX10_ceiling 4 = .ok (.ifCond .eq 13, 3) := by decide +kernel
theorem dX10_ceiling_7 : decode cX10_ceiling 7 = .ok (.iload_n 2, 1) := by decide +kernel
theorem dX10_ceiling_8 : decode cX10_ceiling 8 = .ok (.iconst 0, 1) := by decide +kernel
theorem dX10_ceiling_9 : decode cX10_ceiling 9 = .ok (.ldc 70, 2) := by decide +kernel
theorem dX10_ceiling_11 : decode cX10_ceiling 11 = .ok (.invokestatic 75, 3) := by decide +kernel
theorem dX10_ceiling_14 : decode cX10_ceiling 14 = .ok (.ifCond .ne 10, 3) := by decide +kernel
theorem dX10_ceiling_17 : decode cX10_ceiling 17 = .ok (.aload_n 0, 1) := by decide +kernel
theorem dX10_ceiling_18 : decode cX10_ceiling 18 = .ok (.ldc 119, 2) := by decide +kernel
theorem dX10_ceiling_20 : decode cX10_ceiling 20 = .ok (.invokevirtual 120, 3) := by decide +kernel
theorem dX10_ceiling_23 : decode cX10_ceiling 23 = .ok (.ireturn, 1) := by decide +kernel
theorem dX10_ceiling_24 : decode cX10_ceiling 24 = .ok (.aload_n 0, 1) := by decide +kernel
theorem dX10_ceiling_25 : decode cX10_ceiling 25 = .ok (.getfield 44, 3) := by decide +kernel
theorem dX10_ceiling_28 : decode cX10_ceiling 28 = .ok (.iload_n 1, 1) := by decide +kernel
theorem dX10_ceiling_29 : decode cX10_ceiling 29 = .ok (.iaload, 1) := by decide +kernel
theorem dX10_ceiling_30 : decode cX10_ceiling 30 = .ok (.istore_n 3, 1) := by decide +kernel
theorem dX10_ceiling_31 : decode cX10_ceiling 31 = .ok (.aload_n 0, 1) := by decide +kernel
theorem dX10_ceiling_32 : decode cX10_ceiling 32 = .ok (.getfield 44, 3) := by decide +kernel
theorem dX10_ceiling_35 : decode cX10_ceiling 35 = .ok (.iload_n 1, 1) := by decide +kernel
theorem dX10_ceiling_36 : decode cX10_ceiling 36 = .ok (.iload_n 2, 1) := by decide +kernel
theorem dX10_ceiling_37 : decode cX10_ceiling 37 = .ok (.iastore, 1) := by decide +kernel
theorem dX10_ceiling_38 : decode cX10_ceiling 38 = .ok (.iload_n 3, 1) := by decide +kernel
theorem dX10_ceiling_39 : decode cX10_ceiling 39 = .ok (.ireturn, 1) := by decide +kernel
theorem dX10_clean_0 : decode cX10_clean 0 = .ok (.aload_n 0, 1) := by decide +kernel
theorem dX10_clean_1 : decode cX10_clean 1 = .ok (.iload_n 1, 1) := by decide +kernel
theorem dX10_clean_2 : decode cX10_clean 2 = .ok (.iload_n 2, 1) := by decide +kernel
theorem dX10_clean_3 : decode cX10_clean 3 = .ok (.invokevirtual 171, 3) := by decide +kernel
theorem dX10_clean_6 : decode cX10_clean 6 = .ok (.lstore_n 3, 1) := by decide +kernel
theorem dX10_clean_7 : decode cX10_clean 7 = .ok (.lload_n 3, 1) := by decide +kernel
theorem dX10_clean_8 : decode cX10_clean 8 = .ok (.lconst 0, 1) := by decide +kernel
theorem dX10_clean_9 : decode cX10_clean 9 = .ok (.lcmp, 1) := by decide +kernel
theorem dX10_clean_10 : decode cX10_clean 10 = .ok (.ifCond .gt 5, 3) := by decide +kernel
theorem dX10_clean_13 : decode cX10_clean 13 = .ok (.lconst 0, 1) := by decide +kernel
theorem dX10_clean_14 : decode cX10_clean 14 = .ok (.lreturn, 1) := by decide +kernel
theorem dX10_clean_15 : decode cX10_clean 15 = .ok (.aload_n 0, 1) := by decide +kernel
theorem dX10_clean_16 : decode cX10_clean 16 = .ok (.iload_n 1, 1) := by decide +kernel
theorem dX10_clean_17 : decode cX10_clean 17 = .ok (.iload_n 2, 1) := by decide +kernel
theorem dX10_clean_18 : decode cX10_clean 18 = .ok (.invokevirtual 198, 3) := by decide +kernel
theorem dX10_clean_21 : decode cX10_clean 21 = .ok (.istore 5, 2) := by decide +kernel
theorem dX10_clean_23 : decode cX10_clean 23 = .ok (.iconst 3, 1) := by decide +kernel
theorem dX10_clean_24 : decode cX10_clean 24 = .ok (.iload 5, 2) := by decide +kernel
theorem dX10_clean_26 : decode cX10_clean 26 = .ok (.iconst 1, 1) := by decide +kernel
theorem dX10_clean_27 : decode cX10_clean 27 = .ok (.iand, 1) := by decide +kernel
theorem dX10_clean_28 : decode cX10_clean 28 = .ok (.isub, 1) := by decide +kernel
theorem dX10_clean_29 : decode cX10_clean 29 = .ok (.iload 5, 2) := by decide +kernel
theorem dX10_clean_31 : decode cX10_clean 31 = .ok (.iconst 1, 1) := by decide +kernel
theorem dX10_clean_32 : decode cX10_clean 32 = .ok (.ishr, 1) := by decide +kernel
theorem dX10_clean_33 : decode cX10_clean 33 = .ok (.iconst 1, 1) := by decide +kernel
theorem dX10_clean_34 : decode cX10_clean 34 = .ok (.iand, 1) := by decide +kernel
theorem dX10_clean_35 : decode cX10_clean 35 = .ok (.isub, 1) := by decide +kernel
theorem dX10_clean_36 : decode cX10_clean 36 = .ok (.iload 5, 2) := by decide +kernel
theorem dX10_clean_38 : decode cX10_clean 38 = .ok (.iconst 2, 1) := by decide +kernel
theorem dX10_clean_39 : decode cX10_clean 39 = .ok (.ishr, 1) := by decide +kernel
end
section
theorem dX10_clean_40 : decode cX10_clean 40 = .ok (.iconst 1, 1) := by decide +kernel
theorem dX10_clean_41 : decode cX10_clean 41 = .ok (.iand, 1) := by decide +kernel
theorem dX10_clean_42 : decode cX10_clean 42 = .ok (.isub, 1) := by decide +kernel
theorem dX10_clean_43 : decode cX10_clean 43 = .ok (.istore 6, 2) := by decide +kernel
theorem dX10_clean_45 : decode cX10_clean 45 = .ok (.iload 6, 2) := by decide +kernel
theorem dX10_clean_47 : decode cX10_clean 47 = .ok (.i2l, 1) := by decide +kernel
theorem dX10_clean_48 : decode cX10_clean 48 = .ok (.lload_n 3, 1) := by decide +kernel
theorem dX10_clean_49 : decode cX10_clean 49 = .ok (.lmul, 1) := by decide +kernel
theorem dX10_clean_50 : decode cX10_clean 50 = .ok (.ldc2_w 204, 3) := by decide +kernel
theorem dX10_clean_53 : decode cX10_clean 53 = .ok (.ldiv, 1) := by decide +kernel
theorem dX10_clean_54 : decode cX10_clean 54 = .ok (.lreturn, 1) := by decide +kernel
theorem dX10_dusted_0 : decode cX10_dusted 0 = .ok (.aload_n 0, 1) := by decide +kernel
theorem dX10_dusted_1 : decode cX10_dusted 1 = .ok (.iload_n 1, 1) := by decide +kernel
theorem dX10_dusted_2 : decode cX10_dusted 2 = .ok (.iload_n 2, 1) := by decide +kernel
theorem dX10_dusted_3 : decode cX10_dusted 3 = .ok (.invokevirtual 206, 3) := by decide +kernel
theorem dX10_dusted_6 : decode cX10_dusted 6 = .ok (.aload_n 0, 1) := by decide +kernel
theorem dX10_dusted_7 : decode cX10_dusted 7 = .ok (.getfield 22, 3) := by decide +kernel
theorem dX10_dusted_10 : decode cX10_dusted 10 = .ok (.iload_n 1, 1) := by decide +kernel
theorem dX10_dusted_11 : decode cX10_dusted 11 = .ok (.iaload, 1) := by decide +kernel
theorem dX10_dusted_12 : decode cX10_dusted 12 = .ok (.i2l, 1) := by decide +kernel
theorem dX10_dusted_13 : decode cX10_dusted 13 = .ok (.lmul, 1) := by decide +kernel
theorem dX10_dusted_14 : decode cX10_dusted 14 = .ok (.ldc2_w 209, 3) := by decide +kernel
theorem dX10_dusted_17 : decode cX10_dusted 17 = .ok (.ldiv, 1) := by decide +kernel
theorem dX10_dusted_18 : decode cX10_dusted 18 = .ok (.lreturn, 1) := by decide +kernel
theorem dX10_currentOf_0 : decode cX10_currentOf 0 = .ok (.aload_n 0, 1) := by decide +kernel
theorem dX10_currentOf_1 : decode cX10_currentOf 1 = .ok (.iload_n 1, 1) := by decide +kernel
theorem dX10_currentOf_2 : decode cX10_currentOf 2 = .ok (.iload_n 2, 1) := by decide +kernel
theorem dX10_currentOf_3 : decode cX10_currentOf 3 = .ok (.invokevirtual 206, 3) := by decide +kernel
theorem dX10_currentOf_6 : decode cX10_currentOf 6 = .ok (.aload_n 0, 1) := by decide +kernel
theorem dX10_currentOf_7 : decode cX10_currentOf 7 = .ok (.iload_n 1, 1) := by decide +kernel
theorem dX10_currentOf_8 : decode cX10_currentOf 8 = .ok (.iload_n 2, 1) := by decide +kernel
theorem dX10_currentOf_9 : decode cX10_currentOf 9 = .ok (.invokevirtual 211, 3) := by decide +kernel
theorem dX10_currentOf_12 : decode cX10_currentOf 12 = .ok (.lsub, 1) := by decide +kernel
theorem dX10_currentOf_13 : decode cX10_currentOf 13 = .ok (.lreturn, 1) := by decide +kernel
theorem dX10_givesOf_0 : decode cX10_givesOf 0 = .ok (.iconst 0, 1) := by decide +kernel
theorem dX10_givesOf_1 : decode cX10_givesOf 1 = .ok (.istore_n 3, 1) := by decide +kernel
theorem dX10_givesOf_2 : decode cX10_givesOf 2 = .ok (.iload_n 3, 1) := by decide +kernel
theorem dX10_givesOf_3 : decode cX10_givesOf 3 = .ok (.aload_n 0, 1) := by decide +kernel
theorem dX10_givesOf_4 : decode cX10_givesOf 4 = .ok (.getfield 72, 3) := by decide +kernel
theorem dX10_givesOf_7 : decode cX10_givesOf 7 = .ok (.if_icmp .ge 37, 3) := by decide +kernel
theorem dX10_givesOf_10 : decode cX10_givesOf 10 = .ok (.aload_n 0, 1) := by decide +kernel
theorem dX10_givesOf_11 : decode cX10_givesOf 11 = .ok (.getfield 67, 3) := by decide +kernel
theorem dX10_givesOf_14 : decode cX10_givesOf 14 = .ok (.iload_n 3, 1) := by decide +kernel
theorem dX10_givesOf_15 : decode cX10_givesOf 15 = .ok (.aload_n 0, 1) := by decide +kernel
theorem dX10_givesOf_16 : decode cX10_givesOf 16 = .ok (.getfield 28, 3) := by decide +kernel
theorem dX10_givesOf_19 : decode cX10_givesOf 19 = .ok (.iload_n 3, 1) := by decide +kernel
theorem dX10_givesOf_20 : decode cX10_givesOf 20 = .ok (.iaload, 1) := by decide +kernel
theorem dX10_givesOf_21 : decode cX10_givesOf 21 = .ok (.iload_n 1, 1) := by decide +kernel
theorem dX10_givesOf_22 : decode cX10_givesOf 22 = .ok (.if_icmp .ne 12, 3) := by decide +kernel
theorem dX10_givesOf_25 : decode cX10_givesOf 25 = .ok (.aload_n 0, 1) := by decide +kernel
theorem dX10_givesOf_26 : decode cX10_givesOf 26 = .ok (.iload_n 3, 1) := by decide +kernel
theorem dX10_givesOf_27 : decode cX10_givesOf 27 = .ok (.iload_n 2, 1) := by decide +kernel
theorem dX10_givesOf_28 : decode cX10_givesOf 28 = .ok (.invokevirtual 214, 3) := by decide +kernel
theorem dX10_givesOf_31 : decode cX10_givesOf 31 = .ok (.goto 6, 3) := by decide +kernel
theorem dX10_givesOf_34 : decode cX10_givesOf 34 = .ok (.ldc2_w 147, 3) := by decide +kernel
theorem dX10_givesOf_37 : decode cX10_givesOf 37 = .ok (.lastore, 1) := by decide +kernel
theorem dX10_givesOf_38 : decode cX10_givesOf 38 = .ok (.iinc 3 1, 3) := by decide +kernel
theorem dX10_givesOf_41 : decode cX10_givesOf 41 = .ok (.goto (-39), 3) := by decide +kernel
theorem dX10_givesOf_44 : decode cX10_givesOf 44 = .ok (.lconst 0, 1) := by decide +kernel
theorem dX10_givesOf_45 : decode cX10_givesOf 45 = .ok (.lstore_n 3, 1) := by decide +kernel
theorem dX10_givesOf_46 : decode cX10_givesOf 46 = .ok (.iconst 0, 1) := by decide +kernel
theorem dX10_givesOf_47 : decode cX10_givesOf 47 = .ok (.istore 5, 2) := by decide +kernel
theorem dX10_givesOf_49 : decode cX10_givesOf 49 = .ok (.iload 5, 2) := by decide +kernel
theorem dX10_givesOf_51 : decode cX10_givesOf 51 = .ok (.aload_n 0, 1) := by decide +kernel
theorem dX10_givesOf_52 : decode cX10_givesOf 52 = .ok (.getfield 72, 3) := by decide +kernel
theorem dX10_givesOf_55 : decode cX10_givesOf 55 = .ok (.if_icmp .ge 102, 3) := by decide +kernel
theorem dX10_givesOf_58 : decode cX10_givesOf 58 = .ok (.iconst 0, 1) := by decide +kernel
theorem dX10_givesOf_59 : decode cX10_givesOf 59 = .ok (.istore 6, 2) := by decide +kernel
theorem dX10_givesOf_61 : decode cX10_givesOf 61 = .ok (.iconst 0, 1) := by decide +kernel
theorem dX10_givesOf_62 : decode cX10_givesOf 62 = .ok (.istore 7, 2) := by decide +kernel
theorem dX10_givesOf_64 : decode cX10_givesOf 64 = .ok (.iload 7, 2) := by decide +kernel
theorem dX10_givesOf_66 : decode cX10_givesOf 66 = .ok (.aload_n 0, 1) := by decide +kernel
theorem dX10_givesOf_67 : decode cX10_givesOf 67 = .ok (.getfield 72, 3) := by decide +kernel
theorem dX10_givesOf_70 : decode cX10_givesOf 70 = .ok (.if_icmp .ge 49, 3) := by decide +kernel
theorem dX10_givesOf_73 : decode cX10_givesOf 73 = .ok (.iload 6, 2) := by decide +kernel
theorem dX10_givesOf_75 : decode cX10_givesOf 75 = .ok (.aload_n 0, 1) := by decide +kernel
theorem dX10_givesOf_76 : decode cX10_givesOf 76 = .ok (.getfield 67, 3) := by decide +kernel
theorem dX10_givesOf_79 : decode cX10_givesOf 79 = .ok (.iload 5, 2) := by decide +kernel
theorem dX10_givesOf_81 : decode cX10_givesOf 81 = .ok (.laload, 1) := by decide +kernel
theorem dX10_givesOf_82 : decode cX10_givesOf 82 = .ok (.lconst 0, 1) := by decide +kernel
theorem dX10_givesOf_83 : decode cX10_givesOf 83 = .ok (.lcmp, 1) := by decide +kernel
theorem dX10_givesOf_84 : decode cX10_givesOf 84 = .ok (.ifCond .lt 25, 3) := by decide +kernel
theorem dX10_givesOf_87 : decode cX10_givesOf 87 = .ok (.aload_n 0, 1) := by decide +kernel
theorem dX10_givesOf_88 : decode cX10_givesOf 88 = .ok (.getfield 67, 3) := by decide +kernel
theorem dX10_givesOf_91 : decode cX10_givesOf 91 = .ok (.iload 7, 2) := by decide +kernel
theorem dX10_givesOf_93 : decode cX10_givesOf 93 = .ok (.laload, 1) := by decide +kernel
theorem dX10_givesOf_94 : decode cX10_givesOf 94 = .ok (.aload_n 0, 1) := by decide +kernel
theorem dX10_givesOf_95 : decode cX10_givesOf 95 = .ok (.getfield 67, 3) := by decide +kernel
theorem dX10_givesOf_98 : decode cX10_givesOf 98 = .ok (.iload 5, 2) := by decide +kernel
theorem dX10_givesOf_100 : decode cX10_givesOf 100 = .ok (.laload, 1) := by decide +kernel
theorem dX10_givesOf_101 : decode cX10_givesOf 101 = .ok (.lcmp, 1) := by decide +kernel
theorem dX10_givesOf_102 : decode cX10_givesOf 102 = .ok (.ifCond .lt 7, 3) := by decide +kernel
theorem dX10_givesOf_105 : decode cX10_givesOf 105 = .ok (.iconst 1, 1) := by decide +kernel
theorem dX10_givesOf_106 : decode cX10_givesOf 106 = .ok (.goto 4, 3) := by decide +kernel
theorem dX10_givesOf_109 : decode cX10_givesOf 109 = .ok (.iconst 0, 1) := by decide +kernel
theorem dX10_givesOf_110 : decode cX10_givesOf 110 = .ok (.iadd, 1) := by decide +kernel
theorem dX10_givesOf_111 : decode cX10_givesOf 111 = .ok (.istore 6, 2) := by decide +kernel
theorem dX10_givesOf_113 : decode cX10_givesOf 113 = .ok (.iinc 7 1, 3) := by decide +kernel
theorem dX10_givesOf_116 : decode cX10_givesOf 116 = .ok (.goto (-52), 3) := by decide +kernel
theorem dX10_givesOf_119 : decode cX10_givesOf 119 = .ok (.iload 6, 2) := by decide +kernel
theorem dX10_givesOf_121 : decode cX10_givesOf 121 = .ok (.i2l, 1) := by decide +kernel
theorem dX10_givesOf_122 : decode cX10_givesOf 122 = .ok (.aload_n 0, 1) := by decide +kernel
theorem dX10_givesOf_123 : decode cX10_givesOf 123 = .ok (.getfield 67, 3) := by decide +kernel
theorem dX10_givesOf_126 : decode cX10_givesOf 126 = .ok (.iload 5, 2) := by decide +kernel
theorem dX10_givesOf_128 : decode cX10_givesOf 128 = .ok (.laload, 1) := by decide +kernel
theorem dX10_givesOf_129 : decode cX10_givesOf 129 = .ok (.lmul, 1) := by decide +kernel
theorem dX10_givesOf_130 : decode cX10_givesOf 130 = .ok (.lload_n 3, 1) := by decide +kernel
theorem dX10_givesOf_131 : decode cX10_givesOf 131 = .ok (.lcmp, 1) := by decide +kernel
theorem dX10_givesOf_132 : decode cX10_givesOf 132 = .ok (.ifCond .le 17, 3) := by decide +kernel
theorem dX10_givesOf_135 : decode cX10_givesOf 135 = .ok (.iload 6, 2) := by decide +kernel
theorem dX10_givesOf_137 : decode cX10_givesOf 137 = .ok (.i2l, 1) := by decide +kernel
theorem dX10_givesOf_138 : decode cX10_givesOf 138 = .ok (.aload_n 0, 1) := by decide +kernel
theorem dX10_givesOf_139 : decode cX10_givesOf 139 = .ok (.getfield 67, 3) := by decide +kernel
theorem dX10_givesOf_142 : decode cX10_givesOf 142 = .ok (.iload 5, 2) := by decide +kernel
theorem dX10_givesOf_144 : decode cX10_givesOf 144 = .ok (.laload, 1) := by decide +kernel
theorem dX10_givesOf_145 : decode cX10_givesOf 145 = .ok (.lmul, 1) := by decide +kernel
theorem dX10_givesOf_146 : decode cX10_givesOf 146 = .ok (.goto 4, 3) := by decide +kernel
theorem dX10_givesOf_149 : decode cX10_givesOf 149 = .ok (.lload_n 3, 1) := by decide +kernel
theorem dX10_givesOf_150 : decode cX10_givesOf 150 = .ok (.lstore_n 3, 1) := by decide +kernel
theorem dX10_givesOf_151 : decode cX10_givesOf 151 = .ok (.iinc 5 1, 3) := by decide +kernel
theorem dX10_givesOf_154 : decode cX10_givesOf 154 = .ok (.goto (-105), 3) := by decide +kernel
theorem dX10_givesOf_157 : decode cX10_givesOf 157 = .ok (.lload_n 3, 1) := by decide +kernel
theorem dX10_givesOf_158 : decode cX10_givesOf 158 = .ok (.lreturn, 1) := by decide +kernel
theorem dX10_current_0 : decode cX10_current 0 = .ok (.aload_n 0, 1) := by decide +kernel
theorem dX10_current_1 : decode cX10_current 1 = .ok (.iload_n 1, 1) := by decide +kernel
theorem dX10_current_2 : decode cX10_current 2 = .ok (.iload_n 2, 1) := by decide +kernel
theorem dX10_current_3 : decode cX10_current 3 = .ok (.invokevirtual 191, 3) := by decide +kernel
theorem dX10_current_6 : decode cX10_current 6 = .ok (.istore_n 3, 1) := by decide +kernel
theorem dX10_current_7 : decode cX10_current 7 = .ok (.iload_n 3, 1) := by decide +kernel
theorem dX10_current_8 : decode cX10_current 8 = .ok (.ifCond .ge 11, 3) := by decide +kernel
theorem dX10_current_11 : decode cX10_current 11 = .ok (.aload_n 0, 1) := by decide +kernel
theorem dX10_current_12 : decode cX10_current 12 = .ok (.iload_n 3, 1) := by decide +kernel
theorem dX10_current_13 : decode cX10_current 13 = .ok (.invokevirtual 120, 3) := by decide +kernel
theorem dX10_current_16 : decode cX10_current 16 = .ok (.goto 10, 3) := by decide +kernel
theorem dX10_current_19 : decode cX10_current 19 = .ok (.aload_n 0, 1) := by decide +kernel
theorem dX10_current_20 : decode cX10_current 20 = .ok (.iload_n 1, 1) := by decide +kernel
theorem dX10_current_21 : decode cX10_current 21 = .ok (.iload_n 2, 1) := by decide +kernel
theorem dX10_current_22 : decode cX10_current 22 = .ok (.invokevirtual 214, 3) := by decide +kernel
theorem dX10_current_25 : decode cX10_current 25 = .ok (.l2i, 1) := by decide +kernel
theorem dX10_current_26 : decode cX10_current 26 = .ok (.ireturn, 1) := by decide +kernel
theorem dX10_gives_0 : decode cX10_gives 0 = .ok (.iload_n 1, 1) := by decide +kernel
theorem dX10_gives_1 : decode cX10_gives 1 = .ok (.invokestatic 201, 3) := by decide +kernel
theorem dX10_gives_4 : decode cX10_gives 4 = .ok (.ifCond .eq 10, 3) := by decide +kernel
theorem dX10_gives_7 : decode cX10_gives 7 = .ok (.iload_n 2, 1) := by decide +kernel
theorem dX10_gives_8 : decode cX10_gives 8 = .ok (.invokestatic 131, 3) := by decide +kernel
theorem dX10_gives_11 : decode cX10_gives 11 = .ok (.ifCond .ne 10, 3) := by decide +kernel
theorem dX10_gives_14 : decode cX10_gives 14 = .ok (.aload_n 0, 1) := by decide +kernel
theorem dX10_gives_15 : decode cX10_gives 15 = .ok (.ldc 119, 2) := by decide +kernel
theorem dX10_gives_17 : decode cX10_gives 17 = .ok (.invokevirtual 120, 3) := by decide +kernel
theorem dX10_gives_20 : decode cX10_gives 20 = .ok (.ireturn, 1) := by decide +kernel
theorem dX10_gives_21 : decode cX10_gives 21 = .ok (.aload_n 0, 1) := by decide +kernel
theorem dX10_gives_22 : decode cX10_gives 22 = .ok (.iload_n 2, 1) := by decide +kernel
theorem dX10_gives_23 : decode cX10_gives 23 = .ok (.invokevirtual 185, 3) := by decide +kernel
theorem dX10_gives_26 : decode cX10_gives 26 = .ok (.ifCond .eq 12, 3) := by decide +kernel
theorem dX10_gives_29 : decode cX10_gives 29 = .ok (.aload_n 0, 1) := by decide +kernel
theorem dX10_gives_30 : decode cX10_gives 30 = .ok (.ldc 126, 2) := by decide +kernel
theorem dX10_gives_32 : decode cX10_gives 32 = .ok (.invokevirtual 120, 3) := by decide +kernel
theorem dX10_gives_35 : decode cX10_gives 35 = .ok (.goto 10, 3) := by decide +kernel
theorem dX10_gives_38 : decode cX10_gives 38 = .ok (.aload_n 0, 1) := by decide +kernel
theorem dX10_gives_39 : decode cX10_gives 39 = .ok (.iload_n 1, 1) := by decide +kernel
theorem dX10_gives_40 : decode cX10_gives 40 = .ok (.iload_n 2, 1) := by decide +kernel
theorem dX10_gives_41 : decode cX10_gives 41 = .ok (.invokevirtual 217, 3) := by decide +kernel
theorem dX10_gives_44 : decode cX10_gives 44 = .ok (.l2i, 1) := by decide +kernel
theorem dX10_gives_45 : decode cX10_gives 45 = .ok (.ireturn, 1) := by decide +kernel
theorem dX10_wind_0 : decode cX10_wind 0 = .ok (.iload_n 1, 1) := by decide +kernel
theorem dX10_wind_1 : decode cX10_wind 1 = .ok (.invokestatic 131, 3) := by decide +kernel
theorem dX10_wind_4 : decode cX10_wind 4 = .ok (.ifCond .eq 14, 3) := by decide +kernel
theorem dX10_wind_7 : decode cX10_wind 7 = .ok (.iload_n 2, 1) := by decide +kernel
theorem dX10_wind_8 : decode cX10_wind 8 = .ok (.iconst (-1), 1) := by decide +kernel
theorem dX10_wind_9 : decode cX10_wind 9 = .ok (.sipush 200, 3) := by decide +kernel
theorem dX10_wind_12 : decode cX10_wind 12 = .ok (.invokestatic 75, 3) := by decide +kernel
theorem dX10_wind_15 : decode cX10_wind 15 = .ok (.ifCond .ne 10, 3) := by decide +kernel
theorem dX10_wind_18 : decode cX10_wind 18 = .ok (.aload_n 0, 1) := by decide +kernel
theorem dX10_wind_19 : decode cX10_wind 19 = .ok (.ldc 119, 2) := by decide +kernel
theorem dX10_wind_21 : decode cX10_wind 21 = .ok (.invokevirtual 120, 3) := by decide +kernel
theorem dX10_wind_24 : decode cX10_wind 24 = .ok (.ireturn, 1) := by decide +kernel
theorem dX10_wind_25 : decode cX10_wind 25 = .ok (.aload_n 0, 1) := by decide +kernel
theorem dX10_wind_26 : decode cX10_wind 26 = .ok (.getfield 37, 3) := by decide +kernel
theorem dX10_wind_29 : decode cX10_wind 29 = .ok (.iload_n 1, 1) := by decide +kernel
theorem dX10_wind_30 : decode cX10_wind 30 = .ok (.iload_n 2, 1) := by decide +kernel
theorem dX10_wind_31 : decode cX10_wind 31 = .ok (.iastore, 1) := by decide +kernel
theorem dX10_wind_32 : decode cX10_wind 32 = .ok (.iload_n 2, 1) := by decide +kernel
theorem dX10_wind_33 : decode cX10_wind 33 = .ok (.iconst (-1), 1) := by decide +kernel
theorem dX10_wind_34 : decode cX10_wind 34 = .ok (.if_icmp .ne 7, 3) := by decide +kernel
theorem dX10_wind_37 : decode cX10_wind 37 = .ok (.iconst 0, 1) := by decide +kernel
theorem dX10_wind_38 : decode cX10_wind 38 = .ok (.goto 4, 3) := by decide +kernel
theorem dX10_wind_41 : decode cX10_wind 41 = .ok (.iconst 1, 1) := by decide +kernel
theorem dX10_wind_42 : decode cX10_wind 42 = .ok (.ireturn, 1) := by decide +kernel
theorem dX10_limit_0 : decode cX10_limit 0 = .ok (.iload_n 1, 1) := by decide +kernel
theorem dX10_limit_1 : decode cX10_limit 1 = .ok (.iconst 1, 1) := by decide +kernel
theorem dX10_limit_2 : decode cX10_limit 2 = .ok (.sipush 200, 3) := by decide +kernel
theorem dX10_limit_5 : decode cX10_limit 5 = .ok (.invokestatic 75, 3) := by decide +kernel
theorem dX10_limit_8 : decode cX10_limit 8 = .ok (.ifCond .ne 10, 3) := by decide +kernel
theorem dX10_limit_11 : decode cX10_limit 11 = .ok (.aload_n 0, 1) := by decide +kernel
theorem dX10_limit_12 : decode cX10_limit 12 = .ok (.ldc 119, 2) := by decide +kernel
theorem dX10_limit_14 : decode cX10_limit 14 = .ok (.invokevirtual 120, 3) := by decide +kernel
theorem dX10_limit_17 : decode cX10_limit 17 = .ok (.ireturn, 1) := by decide +kernel
theorem dX10_limit_18 : decode cX10_limit 18 = .ok (.aload_n 0, 1) := by decide +kernel
theorem dX10_limit_19 : decode cX10_limit 19 = .ok (.getfield 47, 3) := by decide +kernel
theorem dX10_limit_22 : decode cX10_limit 22 = .ok (.istore_n 2, 1) := by decide +kernel
theorem dX10_limit_23 : decode cX10_limit 23 = .ok (.aload_n 0, 1) := by decide +kernel
theorem dX10_limit_24 : decode cX10_limit 24 = .ok (.iload_n 1, 1) := by decide +kernel
theorem dX10_limit_25 : decode cX10_limit 25 = .ok (.putfield 47, 3) := by decide +kernel
theorem dX10_limit_28 : decode cX10_limit 28 = .ok (.iload_n 2, 1) := by decide +kernel
theorem dX10_limit_29 : decode cX10_limit 29 = .ok (.ireturn, 1) := by decide +kernel
theorem dX10_cleaning_0 : decode cX10_cleaning 0 = .ok (.iload_n 1, 1) := by decide +kernel
theorem dX10_cleaning_1 : decode cX10_cleaning 1 = .ok (.invokestatic 131, 3) := by decide +kernel
theorem dX10_cleaning_4 : decode cX10_cleaning 4 = .ok (.ifCond .ne 10, 3) := by decide +kernel
theorem dX10_cleaning_7 : decode cX10_cleaning 7 = .ok (.aload_n 0, 1) := by decide +kernel
theorem dX10_cleaning_8 : decode cX10_cleaning 8 = .ok (.ldc 119, 2) := by decide +kernel
theorem dX10_cleaning_10 : decode cX10_cleaning 10 = .ok (.invokevirtual 120, 3) := by decide +kernel
theorem dX10_cleaning_13 : decode cX10_cleaning 13 = .ok (.ireturn, 1) := by decide +kernel
theorem dX10_cleaning_14 : decode cX10_cleaning 14 = .ok (.aload_n 0, 1) := by decide +kernel
theorem dX10_cleaning_15 : decode cX10_cleaning 15 = .ok (.getfield 40, 3) := by decide +kernel
theorem dX10_cleaning_18 : decode cX10_cleaning 18 = .ok (.iload_n 1, 1) := by decide +kernel
theorem dX10_cleaning_19 : decode cX10_cleaning 19 = .ok (.baload, 1) := by decide +kernel
theorem dX10_cleaning_20 : decode cX10_cleaning 20 = .ok (.istore_n 3, 1) := by decide +kernel
theorem dX10_cleaning_21 : decode cX10_cleaning 21 = .ok (.aload_n 0, 1) := by decide +kernel
theorem dX10_cleaning_22 : decode cX10_cleaning 22 = .ok (.getfield 40, 3) := by decide +kernel
theorem dX10_cleaning_25 : decode cX10_cleaning 25 = .ok (.iload_n 1, 1) := by decide +kernel
theorem dX10_cleaning_26 : decode cX10_cleaning 26 = .ok (.iload_n 2, 1) := by decide +kernel
theorem dX10_cleaning_27 : decode cX10_cleaning 27 = .ok (.bastore, 1) := by decide +kernel
theorem dX10_cleaning_28 : decode cX10_cleaning 28 = .ok (.iload_n 3, 1) := by decide +kernel
theorem dX10_cleaning_29 : decode cX10_cleaning 29 = .ok (.iload_n 2, 1) := by decide +kernel
theorem dX10_cleaning_30 : decode cX10_cleaning 30 = .ok (.if_icmp .ne 7, 3) := by decide +kernel
theorem dX10_cleaning_33 : decode cX10_cleaning 33 = .ok (.iconst 0, 1) := by decide +kernel
theorem dX10_cleaning_34 : decode cX10_cleaning 34 = .ok (.goto 4, 3) := by decide +kernel
theorem dX10_cleaning_37 : decode cX10_cleaning 37 = .ok (.iconst 1, 1) := by decide +kernel
theorem dX10_cleaning_38 : decode cX10_cleaning 38 = .ok (.ireturn, 1) := by decide +kernel
theorem dX10_findState_0 : decode cX10_findState 0 = .ok (.aload_n 0, 1) := by decide +kernel
theorem dX10_findState_1 : decode cX10_findState 1 = .ok (.getfield 37, 3) := by decide +kernel
theorem dX10_findState_4 : decode cX10_findState 4 = .ok (.iload_n 1, 1) := by decide +kernel
theorem dX10_findState_5 : decode cX10_findState 5 = .ok (.iaload, 1) := by decide +kernel
theorem dX10_findState_6 : decode cX10_findState 6 = .ok (.istore_n 2, 1) := by decide +kernel
theorem dX10_findState_7 : decode cX10_findState 7 = .ok (.aload_n 0, 1) := by decide +kernel
theorem dX10_findState_8 : decode cX10_findState 8 = .ok (.iload_n 2, 1) := by decide +kernel
theorem dX10_findState_9 : decode cX10_findState 9 = .ok (.iconst (-1), 1) := by decide +kernel
theorem dX10_findState_10 : decode cX10_findState 10 = .ok (.if_icmp .ne 12, 3) := by decide +kernel
theorem dX10_findState_13 : decode cX10_findState 13 = .ok (.aload_n 0, 1) := by decide +kernel
theorem dX10_findState_14 : decode cX10_findState 14 = .ok (.getfield 220, 3) := by decide +kernel
theorem dX10_findState_17 : decode cX10_findState 17 = .ok (.iconst 1, 1) := by decide +kernel
theorem dX10_findState_18 : decode cX10_findState 18 = .ok (.iadd, 1) := by decide +kernel
theorem dX10_findState_19 : decode cX10_findState 19 = .ok (.goto 4, 3) := by decide +kernel
theorem dX10_findState_22 : decode cX10_findState 22 = .ok (.iconst 0, 1) := by decide +kernel
theorem dX10_findState_23 : decode cX10_findState 23 = .ok (.putfield 220, 3) := by decide +kernel
theorem dX10_findState_26 : decode cX10_findState 26 = .ok (.aload_n 0, 1) := by decide +kernel
theorem dX10_findState_27 : decode cX10_findState 27 = .ok (.getfield 223, 3) := by decide +kernel
theorem dX10_findState_30 : decode cX10_findState 30 = .ok (.iconst 2, 1) := by decide +kernel
theorem dX10_findState_31 : decode cX10_findState 31 = .ok (.if_icmp .ne 7, 3) := by decide +kernel
theorem dX10_findState_34 : decode cX10_findState 34 = .ok (.iconst 1, 1) := by decide +kernel
theorem dX10_findState_35 : decode cX10_findState 35 = .ok (.goto 4, 3) := by decide +kernel
theorem dX10_findState_38 : decode cX10_findState 38 = .ok (.iconst 0, 1) := by decide +kernel
theorem dX10_findState_39 : decode cX10_findState 39 = .ok (.istore_n 3, 1) := by decide +kernel
theorem dX10_findState_40 : decode cX10_findState 40 = .ok (.iload_n 2, 1) := by decide +kernel
theorem dX10_findState_41 : decode cX10_findState 41 = .ok (.aload_n 0, 1) := by decide +kernel
theorem dX10_findState_42 : decode cX10_findState 42 = .ok (.getfield 47, 3) := by decide +kernel
theorem dX10_findState_45 : decode cX10_findState 45 = .ok (.if_icmp .ge 11, 3) := by decide +kernel
theorem dX10_findState_48 : decode cX10_findState 48 = .ok (.aload_n 0, 1) := by decide +kernel
theorem dX10_findState_49 : decode cX10_findState 49 = .ok (.getfield 220, 3) := by decide +kernel
theorem dX10_findState_52 : decode cX10_findState 52 = .ok (.iconst 3, 1) := by decide +kernel
theorem dX10_findState_53 : decode cX10_findState 53 = .ok (.if_icmp .lt 8, 3) := by decide +kernel
theorem dX10_findState_56 : decode cX10_findState 56 = .ok (.iconst 1, 1) := by decide +kernel
theorem dX10_findState_57 : decode cX10_findState 57 = .ok (.istore_n 3, 1) := by decide +kernel
theorem dX10_findState_58 : decode cX10_findState 58 = .ok (.goto 20, 3) := by decide +kernel
theorem dX10_findState_61 : decode cX10_findState 61 = .ok (.iload_n 2, 1) := by decide +kernel
theorem dX10_findState_62 : decode cX10_findState 62 = .ok (.iconst (-1), 1) := by decide +kernel
theorem dX10_findState_63 : decode cX10_findState 63 = .ok (.if_icmp .eq 15, 3) := by decide +kernel
theorem dX10_findState_66 : decode cX10_findState 66 = .ok (.iload_n 2, 1) := by decide +kernel
theorem dX10_findState_67 : decode cX10_findState 67 = .ok (.aload_n 0, 1) := by decide +kernel
theorem dX10_findState_68 : decode cX10_findState 68 = .ok (.getfield 47, 3) := by decide +kernel
theorem dX10_findState_71 : decode cX10_findState 71 = .ok (.iconst 2, 1) := by decide +kernel
theorem dX10_findState_72 : decode cX10_findState 72 = .ok (.idiv, 1) := by decide +kernel
theorem dX10_findState_73 : decode cX10_findState 73 = .ok (.if_icmp .ge 5, 3) := by decide +kernel
theorem dX10_findState_76 : decode cX10_findState 76 = .ok (.iconst 0, 1) := by decide +kernel
theorem dX10_findState_77 : decode cX10_findState 77 = .ok (.istore_n 3, 1) := by decide +kernel
theorem dX10_findState_78 : decode cX10_findState 78 = .ok (.aload_n 0, 1) := by decide +kernel
theorem dX10_findState_79 : decode cX10_findState 79 = .ok (.iload_n 3, 1) := by decide +kernel
theorem dX10_findState_80 : decode cX10_findState 80 = .ok (.ifCond .eq 7, 3) := by decide +kernel
theorem dX10_findState_83 : decode cX10_findState 83 = .ok (.iconst 2, 1) := by decide +kernel
theorem dX10_findState_84 : decode cX10_findState 84 = .ok (.goto 17, 3) := by decide +kernel
theorem dX10_findState_87 : decode cX10_findState 87 = .ok (.aload_n 0, 1) := by decide +kernel
theorem dX10_findState_88 : decode cX10_findState 88 = .ok (.getfield 40, 3) := by decide +kernel
theorem dX10_findState_91 : decode cX10_findState 91 = .ok (.iload_n 1, 1) := by decide +kernel
theorem dX10_findState_92 : decode cX10_findState 92 = .ok (.baload, 1) := by decide +kernel
theorem dX10_findState_93 : decode cX10_findState 93 = .ok (.ifCond .eq 7, 3) := by decide +kernel
theorem dX10_findState_96 : decode cX10_findState 96 = .ok (.iconst 1, 1) := by decide +kernel
theorem dX10_findState_97 : decode cX10_findState 97 = .ok (.goto 4, 3) := by decide +kernel
theorem dX10_findState_100 : decode cX10_findState 100 = .ok (.iconst 0, 1) := by decide +kernel
theorem dX10_findState_101 : decode cX10_findState 101 = .ok (.putfield 223, 3) := by decide +kernel
theorem dX10_findState_104 : decode cX10_findState 104 = .ok (.return_, 1) := by decide +kernel
theorem dX10_stepFor_0 : decode cX10_stepFor 0 = .ok (.aload_n 0, 1) := by decide +kernel
theorem dX10_stepFor_1 : decode cX10_stepFor 1 = .ok (.getfield 223, 3) := by decide +kernel
theorem dX10_stepFor_4 : decode cX10_stepFor 4 = .ok (.ifCond .eq 18, 3) := by decide +kernel
theorem dX10_stepFor_7 : decode cX10_stepFor 7 = .ok (.aload_n 0, 1) := by decide +kernel
theorem dX10_stepFor_8 : decode cX10_stepFor 8 = .ok (.getfield 223, 3) := by decide +kernel
theorem dX10_stepFor_11 : decode cX10_stepFor 11 = .ok (.iconst 2, 1) := by decide +kernel
theorem dX10_stepFor_12 : decode cX10_stepFor 12 = .ok (.if_icmp .ne 7, 3) := by decide +kernel
theorem dX10_stepFor_15 : decode cX10_stepFor 15 = .ok (.iconst 0, 1) := by decide +kernel
theorem dX10_stepFor_16 : decode cX10_stepFor 16 = .ok (.goto 5, 3) := by decide +kernel
theorem dX10_stepFor_19 : decode cX10_stepFor 19 = .ok (.bipush (-12), 2) := by decide +kernel
theorem dX10_stepFor_21 : decode cX10_stepFor 21 = .ok (.ireturn, 1) := by decide +kernel
theorem dX10_stepFor_22 : decode cX10_stepFor 22 = .ok (.aload_n 0, 1) := by decide +kernel
theorem dX10_stepFor_23 : decode cX10_stepFor 23 = .ok (.iload_n 1, 1) := by decide +kernel
theorem dX10_stepFor_24 : decode cX10_stepFor 24 = .ok (.invokevirtual 185, 3) := by decide +kernel
theorem dX10_stepFor_27 : decode cX10_stepFor 27 = .ok (.ifCond .eq 5, 3) := by decide +kernel
theorem dX10_stepFor_30 : decode cX10_stepFor 30 = .ok (.iconst 0, 1) := by decide +kernel
theorem dX10_stepFor_31 : decode cX10_stepFor 31 = .ok (.ireturn, 1) := by decide +kernel
theorem dX10_stepFor_32 : decode cX10_stepFor 32 = .ok (.aload_n 0, 1) := by decide +kernel
theorem dX10_stepFor_33 : decode cX10_stepFor 33 = .ok (.iload_n 1, 1) := by decide +kernel
theorem dX10_stepFor_34 : decode cX10_stepFor 34 = .ok (.invokevirtual 188, 3) := by decide +kernel
theorem dX10_stepFor_37 : decode cX10_stepFor 37 = .ok (.istore_n 2, 1) := by decide +kernel
theorem dX10_stepFor_38 : decode cX10_stepFor 38 = .ok (.iload_n 2, 1) := by decide +kernel
theorem dX10_stepFor_39 : decode cX10_stepFor 39 = .ok (.bipush 99, 2) := by decide +kernel
theorem dX10_stepFor_41 : decode cX10_stepFor 41 = .ok (.if_icmp .ne 11, 3) := by decide +kernel
theorem dX10_stepFor_44 : decode cX10_stepFor 44 = .ok (.aload_n 0, 1) := by decide +kernel
theorem dX10_stepFor_45 : decode cX10_stepFor 45 = .ok (.iload_n 1, 1) := by decide +kernel
theorem dX10_stepFor_46 : decode cX10_stepFor 46 = .ok (.invokevirtual 178, 3) := by decide +kernel
theorem dX10_stepFor_49 : decode cX10_stepFor 49 = .ok (.goto 4, 3) := by decide +kernel
theorem dX10_stepFor_52 : decode cX10_stepFor 52 = .ok (.iload_n 2, 1) := by decide +kernel
theorem dX10_stepFor_53 : decode cX10_stepFor 53 = .ok (.ireturn, 1) := by decide +kernel
theorem dX10_setSteps_0 : decode cX10_setSteps 0 = .ok (.aload_n 0, 1) := by decide +kernel
theorem dX10_setSteps_1 : decode cX10_setSteps 1 = .ok (.iload_n 1, 1) := by decide +kernel
theorem dX10_setSteps_2 : decode cX10_setSteps 2 = .ok (.invokevirtual 226, 3) := by decide +kernel
theorem dX10_setSteps_5 : decode cX10_setSteps 5 = .ok (.istore_n 2, 1) := by decide +kernel
theorem dX10_setSteps_6 : decode cX10_setSteps 6 = .ok (.aload_n 0, 1) := by decide +kernel
theorem dX10_setSteps_7 : decode cX10_setSteps 7 = .ok (.getfield 229, 3) := by decide +kernel
theorem dX10_setSteps_10 : decode cX10_setSteps 10 = .ok (.ifCond .eq 23, 3) := by decide +kernel
theorem dX10_setSteps_13 : decode cX10_setSteps 13 = .ok (.aload_n 0, 1) := by decide +kernel
theorem dX10_setSteps_14 : decode cX10_setSteps 14 = .ok (.getfield 233, 3) := by decide +kernel
theorem dX10_setSteps_17 : decode cX10_setSteps 17 = .ok (.iconst 2, 1) := by decide +kernel
theorem dX10_setSteps_18 : decode cX10_setSteps 18 = .ok (.if_icmp .eq 15, 3) := by decide +kernel
theorem dX10_setSteps_21 : decode cX10_setSteps 21 = .ok (.aload_n 0, 1) := by decide +kernel
theorem dX10_setSteps_22 : decode cX10_setSteps 22 = .ok (.getfield 223, 3) := by decide +kernel
theorem dX10_setSteps_25 : decode cX10_setSteps 25 = .ok (.iconst 2, 1) := by decide +kernel
theorem dX10_setSteps_26 : decode cX10_setSteps 26 = .ok (.if_icmp .eq 7, 3) := by decide +kernel
theorem dX10_setSteps_29 : decode cX10_setSteps 29 = .ok (.iconst 1, 1) := by decide +kernel
theorem dX10_setSteps_30 : decode cX10_setSteps 30 = .ok (.goto 4, 3) := by decide +kernel
theorem dX10_setSteps_33 : decode cX10_setSteps 33 = .ok (.iconst 0, 1) := by decide +kernel
theorem dX10_setSteps_34 : decode cX10_setSteps 34 = .ok (.istore_n 3, 1) := by decide +kernel
theorem dX10_setSteps_35 : decode cX10_setSteps 35 = .ok (.iconst 0, 1) := by decide +kernel
theorem dX10_setSteps_36 : decode cX10_setSteps 36 = .ok (.istore 4, 2) := by decide +kernel
theorem dX10_setSteps_38 : decode cX10_setSteps 38 = .ok (.iload 4, 2) := by decide +kernel
theorem dX10_setSteps_40 : decode cX10_setSteps 40 = .ok (.aload_n 0, 1) := by decide +kernel
theorem dX10_setSteps_41 : decode cX10_setSteps 41 = .ok (.getfield 72, 3) := by decide +kernel
theorem dX10_setSteps_44 : decode cX10_setSteps 44 = .ok (.if_icmp .ge 50, 3) := by decide +kernel
theorem dX10_setSteps_47 : decode cX10_setSteps 47 = .ok (.aload_n 0, 1) := by decide +kernel
theorem dX10_setSteps_48 : decode cX10_setSteps 48 = .ok (.getfield 9, 3) := by decide +kernel
theorem dX10_setSteps_51 : decode cX10_setSteps 51 = .ok (.iload 4, 2) := by decide +kernel
theorem dX10_setSteps_53 : decode cX10_setSteps 53 = .ok (.iaload, 1) := by decide +kernel
theorem dX10_setSteps_54 : decode cX10_setSteps 54 = .ok (.iconst 1, 1) := by decide +kernel
theorem dX10_setSteps_55 : decode cX10_setSteps 55 = .ok (.if_icmp .eq 33, 3) := by decide +kernel
theorem dX10_setSteps_58 : decode cX10_setSteps 58 = .ok (.aload_n 0, 1) := by decide +kernel
theorem dX10_setSteps_59 : decode cX10_setSteps 59 = .ok (.getfield 25, 3) := by decide +kernel
theorem dX10_setSteps_62 : decode cX10_setSteps 62 = .ok (.iload 4, 2) := by decide +kernel
theorem dX10_setSteps_64 : decode cX10_setSteps 64 = .ok (.aload_n 0, 1) := by decide +kernel
theorem dX10_setSteps_65 : decode cX10_setSteps 65 = .ok (.getfield 9, 3) := by decide +kernel
theorem dX10_setSteps_68 : decode cX10_setSteps 68 = .ok (.iload 4, 2) := by decide +kernel
theorem dX10_setSteps_70 : decode cX10_setSteps 70 = .ok (.iaload, 1) := by decide +kernel
theorem dX10_setSteps_71 : decode cX10_setSteps 71 = .ok (.iconst 2, 1) := by decide +kernel
theorem dX10_setSteps_72 : decode cX10_setSteps 72 = .ok (.if_icmp .ne 14, 3) := by decide +kernel
theorem dX10_setSteps_75 : decode cX10_setSteps 75 = .ok (.iload_n 3, 1) := by decide +kernel
theorem dX10_setSteps_76 : decode cX10_setSteps 76 = .ok (.ifCond .eq 10, 3) := by decide +kernel
theorem dX10_setSteps_79 : decode cX10_setSteps 79 = .ok (.aload_n 0, 1) := by decide +kernel
theorem dX10_setSteps_80 : decode cX10_setSteps 80 = .ok (.getfield 236, 3) := by decide +kernel
theorem dX10_setSteps_83 : decode cX10_setSteps 83 = .ok (.goto 4, 3) := by decide +kernel
theorem dX10_setSteps_86 : decode cX10_setSteps 86 = .ok (.iload_n 2, 1) := by decide +kernel
theorem dX10_setSteps_87 : decode cX10_setSteps 87 = .ok (.iastore, 1) := by decide +kernel
theorem dX10_setSteps_88 : decode cX10_setSteps 88 = .ok (.iinc 4 1, 3) := by decide +kernel
theorem dX10_setSteps_91 : decode cX10_setSteps 91 = .ok (.goto (-53), 3) := by decide +kernel
theorem dX10_setSteps_94 : decode cX10_setSteps 94 = .ok (.aload_n 0, 1) := by decide +kernel
theorem dX10_setSteps_95 : decode cX10_setSteps 95 = .ok (.iload_n 2, 1) := by decide +kernel
theorem dX10_setSteps_96 : decode cX10_setSteps 96 = .ok (.putfield 236, 3) := by decide +kernel
theorem dX10_setSteps_99 : decode cX10_setSteps 99 = .ok (.aload_n 0, 1) := by decide +kernel
theorem dX10_setSteps_100 : decode cX10_setSteps 100 = .ok (.aload_n 0, 1) := by decide +kernel
theorem dX10_setSteps_101 : decode cX10_setSteps 101 = .ok (.getfield 223, 3) := by decide +kernel
theorem dX10_setSteps_104 : decode cX10_setSteps 104 = .ok (.putfield 233, 3) := by decide +kernel
theorem dX10_setSteps_107 : decode cX10_setSteps 107 = .ok (.return_, 1) := by decide +kernel
theorem dX10_writeBook_0 : decode cX10_writeBook 0 = .ok (.iconst 0, 1) := by decide +kernel
theorem dX10_writeBook_1 : decode cX10_writeBook 1 = .ok (.istore_n 2, 1) := by decide +kernel
theorem dX10_writeBook_2 : decode cX10_writeBook 2 = .ok (.iload_n 2, 1) := by decide +kernel
theorem dX10_writeBook_3 : decode cX10_writeBook 3 = .ok (.bipush 6, 2) := by decide +kernel
theorem dX10_writeBook_5 : decode cX10_writeBook 5 = .ok (.if_icmp .ge 16, 3) := by decide +kernel
theorem dX10_writeBook_8 : decode cX10_writeBook 8 = .ok (.aload_n 0, 1) := by decide +kernel
theorem dX10_writeBook_9 : decode cX10_writeBook 9 = .ok (.getfield 51, 3) := by decide +kernel
theorem dX10_writeBook_12 : decode cX10_writeBook 12 = .ok (.iload_n 2, 1) := by decide +kernel
theorem dX10_writeBook_13 : decode cX10_writeBook 13 = .ok (.lconst 0, 1) := by decide +kernel
theorem dX10_writeBook_14 : decode cX10_writeBook 14 = .ok (.lastore, 1) := by decide +kernel
theorem dX10_writeBook_15 : decode cX10_writeBook 15 = .ok (.iinc 2 1, 3) := by decide +kernel
theorem dX10_writeBook_18 : decode cX10_writeBook 18 = .ok (.goto (-16), 3) := by decide +kernel
theorem dX10_writeBook_21 : decode cX10_writeBook 21 = .ok (.aload_n 0, 1) := by decide +kernel
theorem dX10_writeBook_22 : decode cX10_writeBook 22 = .ok (.getfield 51, 3) := by decide +kernel
theorem dX10_writeBook_25 : decode cX10_writeBook 25 = .ok (.bipush 6, 2) := by decide +kernel
theorem dX10_writeBook_27 : decode cX10_writeBook 27 = .ok (.aload_n 0, 1) := by decide +kernel
theorem dX10_writeBook_28 : decode cX10_writeBook 28 = .ok (.getfield 223, 3) := by decide +kernel
theorem dX10_writeBook_31 : decode cX10_writeBook 31 = .ok (.i2l, 1) := by decide +kernel
theorem dX10_writeBook_32 : decode cX10_writeBook 32 = .ok (.lastore, 1) := by decide +kernel
theorem dX10_writeBook_33 : decode cX10_writeBook 33 = .ok (.aload_n 0, 1) := by decide +kernel
theorem dX10_writeBook_34 : decode cX10_writeBook 34 = .ok (.getfield 51, 3) := by decide +kernel
theorem dX10_writeBook_37 : decode cX10_writeBook 37 = .ok (.bipush 7, 2) := by decide +kernel
theorem dX10_writeBook_39 : decode cX10_writeBook 39 = .ok (.iload_n 1, 1) := by decide +kernel
theorem dX10_writeBook_40 : decode cX10_writeBook 40 = .ok (.i2l, 1) := by decide +kernel
theorem dX10_writeBook_41 : decode cX10_writeBook 41 = .ok (.lastore, 1) := by decide +kernel
theorem dX10_writeBook_42 : decode cX10_writeBook 42 = .ok (.aload_n 0, 1) := by decide +kernel
theorem dX10_writeBook_43 : decode cX10_writeBook 43 = .ok (.iload_n 1, 1) := by decide +kernel
theorem dX10_writeBook_44 : decode cX10_writeBook 44 = .ok (.invokevirtual 185, 3) := by decide +kernel
theorem dX10_writeBook_47 : decode cX10_writeBook 47 = .ok (.ifCond .eq 4, 3) := by decide +kernel
theorem dX10_writeBook_50 : decode cX10_writeBook 50 = .ok (.return_, 1) := by decide +kernel
theorem dX10_writeBook_51 : decode cX10_writeBook 51 = .ok (.iconst 0, 1) := by decide +kernel
theorem dX10_writeBook_52 : decode cX10_writeBook 52 = .ok (.istore_n 2, 1) := by decide +kernel
theorem dX10_writeBook_53 : decode cX10_writeBook 53 = .ok (.iload_n 2, 1) := by decide +kernel
theorem dX10_writeBook_54 : decode cX10_writeBook 54 = .ok (.aload_n 0, 1) := by decide +kernel
theorem dX10_writeBook_55 : decode cX10_writeBook 55 = .ok (.getfield 72, 3) := by decide +kernel
theorem dX10_writeBook_58 : decode cX10_writeBook 58 = .ok (.if_icmp .ge 104, 3) := by decide +kernel
theorem dX10_writeBook_61 : decode cX10_writeBook 61 = .ok (.aload_n 0, 1) := by decide +kernel
theorem dX10_writeBook_62 : decode cX10_writeBook 62 = .ok (.getfield 28, 3) := by decide +kernel
theorem dX10_writeBook_65 : decode cX10_writeBook 65 = .ok (.iload_n 2, 1) := by decide +kernel
theorem dX10_writeBook_66 : decode cX10_writeBook 66 = .ok (.iaload, 1) := by decide +kernel
theorem dX10_writeBook_67 : decode cX10_writeBook 67 = .ok (.ifCond .lt 89, 3) := by decide +kernel
theorem dX10_writeBook_70 : decode cX10_writeBook 70 = .ok (.aload_n 0, 1) := by decide +kernel
theorem dX10_writeBook_71 : decode cX10_writeBook 71 = .ok (.iload_n 2, 1) := by decide +kernel
theorem dX10_writeBook_72 : decode cX10_writeBook 72 = .ok (.iload_n 1, 1) := by decide +kernel
theorem dX10_writeBook_73 : decode cX10_writeBook 73 = .ok (.invokevirtual 171, 3) := by decide +kernel
theorem dX10_writeBook_76 : decode cX10_writeBook 76 = .ok (.lconst 0, 1) := by decide +kernel
theorem dX10_writeBook_77 : decode cX10_writeBook 77 = .ok (.lcmp, 1) := by decide +kernel
theorem dX10_writeBook_78 : decode cX10_writeBook 78 = .ok (.ifCond .gt 6, 3) := by decide +kernel
theorem dX10_writeBook_81 : decode cX10_writeBook 81 = .ok (.goto 75, 3) := by decide +kernel
theorem dX10_writeBook_84 : decode cX10_writeBook 84 = .ok (.ldc2_w 165, 3) := by decide +kernel
theorem dX10_writeBook_87 : decode cX10_writeBook 87 = .ok (.aload_n 0, 1) := by decide +kernel
theorem dX10_writeBook_88 : decode cX10_writeBook 88 = .ok (.iload_n 2, 1) := by decide +kernel
theorem dX10_writeBook_89 : decode cX10_writeBook 89 = .ok (.iload_n 1, 1) := by decide +kernel
theorem dX10_writeBook_90 : decode cX10_writeBook 90 = .ok (.invokevirtual 171, 3) := by decide +kernel
theorem dX10_writeBook_93 : decode cX10_writeBook 93 = .ok (.lmul, 1) := by decide +kernel
theorem dX10_writeBook_94 : decode cX10_writeBook 94 = .ok (.ldc2_w 204, 3) := by decide +kernel
theorem dX10_writeBook_97 : decode cX10_writeBook 97 = .ok (.ldiv, 1) := by decide +kernel
theorem dX10_writeBook_98 : decode cX10_writeBook 98 = .ok (.lstore_n 3, 1) := by decide +kernel
theorem dX10_writeBook_99 : decode cX10_writeBook 99 = .ok (.aload_n 0, 1) := by decide +kernel
theorem dX10_writeBook_100 : decode cX10_writeBook 100 = .ok (.getfield 51, 3) := by decide +kernel
theorem dX10_writeBook_103 : decode cX10_writeBook 103 = .ok (.iconst 0, 1) := by decide +kernel
theorem dX10_writeBook_104 : decode cX10_writeBook 104 = .ok (.dup2, 1) := by decide +kernel
theorem dX10_writeBook_105 : decode cX10_writeBook 105 = .ok (.laload, 1) := by decide +kernel
theorem dX10_writeBook_106 : decode cX10_writeBook 106 = .ok (.lload_n 3, 1) := by decide +kernel
theorem dX10_writeBook_107 : decode cX10_writeBook 107 = .ok (.ladd, 1) := by decide +kernel
theorem dX10_writeBook_108 : decode cX10_writeBook 108 = .ok (.lastore, 1) := by decide +kernel
theorem dX10_writeBook_109 : decode cX10_writeBook 109 = .ok (.aload_n 0, 1) := by decide +kernel
theorem dX10_writeBook_110 : decode cX10_writeBook 110 = .ok (.getfield 51, 3) := by decide +kernel
theorem dX10_writeBook_113 : decode cX10_writeBook 113 = .ok (.iconst 1, 1) := by decide +kernel
theorem dX10_writeBook_114 : decode cX10_writeBook 114 = .ok (.dup2, 1) := by decide +kernel
theorem dX10_writeBook_115 : decode cX10_writeBook 115 = .ok (.laload, 1) := by decide +kernel
theorem dX10_writeBook_116 : decode cX10_writeBook 116 = .ok (.lload_n 3, 1) := by decide +kernel
theorem dX10_writeBook_117 : decode cX10_writeBook 117 = .ok (.aload_n 0, 1) := by decide +kernel
theorem dX10_writeBook_118 : decode cX10_writeBook 118 = .ok (.iload_n 2, 1) := by decide +kernel
theorem dX10_writeBook_119 : decode cX10_writeBook 119 = .ok (.iload_n 1, 1) := by decide +kernel
theorem dX10_writeBook_120 : decode cX10_writeBook 120 = .ok (.invokevirtual 206, 3) := by decide +kernel
theorem dX10_writeBook_123 : decode cX10_writeBook 123 = .ok (.lsub, 1) := by decide +kernel
theorem dX10_writeBook_124 : decode cX10_writeBook 124 = .ok (.ladd, 1) := by decide +kernel
theorem dX10_writeBook_125 : decode cX10_writeBook 125 = .ok (.lastore, 1) := by decide +kernel
theorem dX10_writeBook_126 : decode cX10_writeBook 126 = .ok (.aload_n 0, 1) := by decide +kernel
theorem dX10_writeBook_127 : decode cX10_writeBook 127 = .ok (.getfield 51, 3) := by decide +kernel
theorem dX10_writeBook_130 : decode cX10_writeBook 130 = .ok (.iconst 2, 1) := by decide +kernel
theorem dX10_writeBook_131 : decode cX10_writeBook 131 = .ok (.dup2, 1) := by decide +kernel
theorem dX10_writeBook_132 : decode cX10_writeBook 132 = .ok (.laload, 1) := by decide +kernel
theorem dX10_writeBook_133 : decode cX10_writeBook 133 = .ok (.aload_n 0, 1) := by decide +kernel
theorem dX10_writeBook_134 : decode cX10_writeBook 134 = .ok (.iload_n 2, 1) := by decide +kernel
theorem dX10_writeBook_135 : decode cX10_writeBook 135 = .ok (.iload_n 1, 1) := by decide +kernel
theorem dX10_writeBook_136 : decode cX10_writeBook 136 = .ok (.invokevirtual 211, 3) := by decide +kernel
theorem dX10_writeBook_139 : decode cX10_writeBook 139 = .ok (.ladd, 1) := by decide +kernel
theorem dX10_writeBook_140 : decode cX10_writeBook 140 = .ok (.lastore, 1) := by decide +kernel
theorem dX10_writeBook_141 : decode cX10_writeBook 141 = .ok (.aload_n 0, 1) := by decide +kernel
theorem dX10_writeBook_142 : decode cX10_writeBook 142 = .ok (.getfield 51, 3) := by decide +kernel
theorem dX10_writeBook_145 : decode cX10_writeBook 145 = .ok (.iconst 3, 1) := by decide +kernel
theorem dX10_writeBook_146 : decode cX10_writeBook 146 = .ok (.dup2, 1) := by decide +kernel
theorem dX10_writeBook_147 : decode cX10_writeBook 147 = .ok (.laload, 1) := by decide +kernel
theorem dX10_writeBook_148 : decode cX10_writeBook 148 = .ok (.aload_n 0, 1) := by decide +kernel
theorem dX10_writeBook_149 : decode cX10_writeBook 149 = .ok (.iload_n 2, 1) := by decide +kernel
theorem dX10_writeBook_150 : decode cX10_writeBook 150 = .ok (.iload_n 1, 1) := by decide +kernel
theorem dX10_writeBook_151 : decode cX10_writeBook 151 = .ok (.invokevirtual 214, 3) := by decide +kernel
theorem dX10_writeBook_154 : decode cX10_writeBook 154 = .ok (.ladd, 1) := by decide +kernel
theorem dX10_writeBook_155 : decode cX10_writeBook 155 = .ok (.lastore, 1) := by decide +kernel
theorem dX10_writeBook_156 : decode cX10_writeBook 156 = .ok (.iinc 2 1, 3) := by decide +kernel
theorem dX10_writeBook_159 : decode cX10_writeBook 159 = .ok (.goto (-106), 3) := by decide +kernel
theorem dX10_writeBook_162 : decode cX10_writeBook 162 = .ok (.iconst 0, 1) := by decide +kernel
theorem dX10_writeBook_163 : decode cX10_writeBook 163 = .ok (.istore_n 2, 1) := by decide +kernel
theorem dX10_writeBook_164 : decode cX10_writeBook 164 = .ok (.iload_n 2, 1) := by decide +kernel
theorem dX10_writeBook_165 : decode cX10_writeBook 165 = .ok (.iconst 4, 1) := by decide +kernel
theorem dX10_writeBook_166 : decode cX10_writeBook 166 = .ok (.if_icmp .ge 77, 3) := by decide +kernel
theorem dX10_writeBook_169 : decode cX10_writeBook 169 = .ok (.aload_n 0, 1) := by decide +kernel
theorem dX10_writeBook_170 : decode cX10_writeBook 170 = .ok (.iload_n 2, 1) := by decide +kernel
theorem dX10_writeBook_171 : decode cX10_writeBook 171 = .ok (.iload_n 1, 1) := by decide +kernel
theorem dX10_writeBook_172 : decode cX10_writeBook 172 = .ok (.invokevirtual 217, 3) := by decide +kernel
theorem dX10_writeBook_175 : decode cX10_writeBook 175 = .ok (.lstore_n 3, 1) := by decide +kernel
theorem dX10_writeBook_176 : decode cX10_writeBook 176 = .ok (.lload_n 3, 1) := by decide +kernel
theorem dX10_writeBook_177 : decode cX10_writeBook 177 = .ok (.aload_n 0, 1) := by decide +kernel
theorem dX10_writeBook_178 : decode cX10_writeBook 178 = .ok (.getfield 44, 3) := by decide +kernel
theorem dX10_writeBook_181 : decode cX10_writeBook 181 = .ok (.iload_n 2, 1) := by decide +kernel
theorem dX10_writeBook_182 : decode cX10_writeBook 182 = .ok (.iaload, 1) := by decide +kernel
theorem dX10_writeBook_183 : decode cX10_writeBook 183 = .ok (.i2l, 1) := by decide +kernel
theorem dX10_writeBook_184 : decode cX10_writeBook 184 = .ok (.lcmp, 1) := by decide +kernel
theorem dX10_writeBook_185 : decode cX10_writeBook 185 = .ok (.ifCond .le 15, 3) := by decide +kernel
theorem dX10_writeBook_188 : decode cX10_writeBook 188 = .ok (.lload_n 3, 1) := by decide +kernel
theorem dX10_writeBook_189 : decode cX10_writeBook 189 = .ok (.aload_n 0, 1) := by decide +kernel
theorem dX10_writeBook_190 : decode cX10_writeBook 190 = .ok (.getfield 44, 3) := by decide +kernel
theorem dX10_writeBook_193 : decode cX10_writeBook 193 = .ok (.iload_n 2, 1) := by decide +kernel
theorem dX10_writeBook_194 : decode cX10_writeBook 194 = .ok (.iaload, 1) := by decide +kernel
theorem dX10_writeBook_195 : decode cX10_writeBook 195 = .ok (.i2l, 1) := by decide +kernel
theorem dX10_writeBook_196 : decode cX10_writeBook 196 = .ok (.lsub, 1) := by decide +kernel
theorem dX10_writeBook_197 : decode cX10_writeBook 197 = .ok (.goto 4, 3) := by decide +kernel
theorem dX10_writeBook_200 : decode cX10_writeBook 200 = .ok (.lconst 0, 1) := by decide +kernel
theorem dX10_writeBook_201 : decode cX10_writeBook 201 = .ok (.lstore 5, 2) := by decide +kernel
theorem dX10_writeBook_203 : decode cX10_writeBook 203 = .ok (.aload_n 0, 1) := by decide +kernel
theorem dX10_writeBook_204 : decode cX10_writeBook 204 = .ok (.getfield 51, 3) := by decide +kernel
theorem dX10_writeBook_207 : decode cX10_writeBook 207 = .ok (.iconst 3, 1) := by decide +kernel
theorem dX10_writeBook_208 : decode cX10_writeBook 208 = .ok (.dup2, 1) := by decide +kernel
theorem dX10_writeBook_209 : decode cX10_writeBook 209 = .ok (.laload, 1) := by decide +kernel
theorem dX10_writeBook_210 : decode cX10_writeBook 210 = .ok (.lload_n 3, 1) := by decide +kernel
theorem dX10_writeBook_211 : decode cX10_writeBook 211 = .ok (.lsub, 1) := by decide +kernel
theorem dX10_writeBook_212 : decode cX10_writeBook 212 = .ok (.lastore, 1) := by decide +kernel
theorem dX10_writeBook_213 : decode cX10_writeBook 213 = .ok (.aload_n 0, 1) := by decide +kernel
theorem dX10_writeBook_214 : decode cX10_writeBook 214 = .ok (.getfield 51, 3) := by decide +kernel
theorem dX10_writeBook_217 : decode cX10_writeBook 217 = .ok (.iconst 4, 1) := by decide +kernel
theorem dX10_writeBook_218 : decode cX10_writeBook 218 = .ok (.dup2, 1) := by decide +kernel
theorem dX10_writeBook_219 : decode cX10_writeBook 219 = .ok (.laload, 1) := by decide +kernel
theorem dX10_writeBook_220 : decode cX10_writeBook 220 = .ok (.lload 5, 2) := by decide +kernel
theorem dX10_writeBook_222 : decode cX10_writeBook 222 = .ok (.ladd, 1) := by decide +kernel
theorem dX10_writeBook_223 : decode cX10_writeBook 223 = .ok (.lastore, 1) := by decide +kernel
theorem dX10_writeBook_224 : decode cX10_writeBook 224 = .ok (.aload_n 0, 1) := by decide +kernel
theorem dX10_writeBook_225 : decode cX10_writeBook 225 = .ok (.getfield 51, 3) := by decide +kernel
theorem dX10_writeBook_228 : decode cX10_writeBook 228 = .ok (.iconst 5, 1) := by decide +kernel
theorem dX10_writeBook_229 : decode cX10_writeBook 229 = .ok (.dup2, 1) := by decide +kernel
theorem dX10_writeBook_230 : decode cX10_writeBook 230 = .ok (.laload, 1) := by decide +kernel
theorem dX10_writeBook_231 : decode cX10_writeBook 231 = .ok (.lload_n 3, 1) := by decide +kernel
theorem dX10_writeBook_232 : decode cX10_writeBook 232 = .ok (.lload 5, 2) := by decide +kernel
theorem dX10_writeBook_234 : decode cX10_writeBook 234 = .ok (.lsub, 1) := by decide +kernel
theorem dX10_writeBook_235 : decode cX10_writeBook 235 = .ok (.ladd, 1) := by decide +kernel
theorem dX10_writeBook_236 : decode cX10_writeBook 236 = .ok (.lastore, 1) := by decide +kernel
theorem dX10_writeBook_237 : decode cX10_writeBook 237 = .ok (.iinc 2 1, 3) := by decide +kernel
theorem dX10_writeBook_240 : decode cX10_writeBook 240 = .ok (.goto (-76), 3) := by decide +kernel
theorem dX10_writeBook_243 : decode cX10_writeBook 243 = .ok (.iconst 0, 1) := by decide +kernel
theorem dX10_writeBook_244 : decode cX10_writeBook 244 = .ok (.istore_n 2, 1) := by decide +kernel
theorem dX10_writeBook_245 : decode cX10_writeBook 245 = .ok (.iload_n 2, 1) := by decide +kernel
theorem dX10_writeBook_246 : decode cX10_writeBook 246 = .ok (.bipush 6, 2) := by decide +kernel
theorem dX10_writeBook_248 : decode cX10_writeBook 248 = .ok (.if_icmp .ge 24, 3) := by decide +kernel
theorem dX10_writeBook_251 : decode cX10_writeBook 251 = .ok (.aload_n 0, 1) := by decide +kernel
theorem dX10_writeBook_252 : decode cX10_writeBook 252 = .ok (.getfield 55, 3) := by decide +kernel
theorem dX10_writeBook_255 : decode cX10_writeBook 255 = .ok (.iload_n 2, 1) := by decide +kernel
theorem dX10_writeBook_256 : decode cX10_writeBook 256 = .ok (.dup2, 1) := by decide +kernel
theorem dX10_writeBook_257 : decode cX10_writeBook 257 = .ok (.laload, 1) := by decide +kernel
theorem dX10_writeBook_258 : decode cX10_writeBook 258 = .ok (.aload_n 0, 1) := by decide +kernel
theorem dX10_writeBook_259 : decode cX10_writeBook 259 = .ok (.getfield 51, 3) := by decide +kernel
theorem dX10_writeBook_262 : decode cX10_writeBook 262 = .ok (.iload_n 2, 1) := by decide +kernel
theorem dX10_writeBook_263 : decode cX10_writeBook 263 = .ok (.laload, 1) := by decide +kernel
theorem dX10_writeBook_264 : decode cX10_writeBook 264 = .ok (.ladd, 1) := by decide +kernel
theorem dX10_writeBook_265 : decode cX10_writeBook 265 = .ok (.lastore, 1) := by decide +kernel
theorem dX10_writeBook_266 : decode cX10_writeBook 266 = .ok (.iinc 2 1, 3) := by decide +kernel
theorem dX10_writeBook_269 : decode cX10_writeBook 269 = .ok (.goto (-24), 3) := by decide +kernel
theorem dX10_writeBook_272 : decode cX10_writeBook 272 = .ok (.return_, 1) := by decide +kernel
theorem dX10_hour_0 : decode cX10_hour 0 = .ok (.aload_n 0, 1) := by decide +kernel
theorem dX10_hour_1 : decode cX10_hour 1 = .ok (.getfield 239, 3) := by decide +kernel
theorem dX10_hour_4 : decode cX10_hour 4 = .ok (.istore_n 1, 1) := by decide +kernel
theorem dX10_hour_5 : decode cX10_hour 5 = .ok (.aload_n 0, 1) := by decide +kernel
theorem dX10_hour_6 : decode cX10_hour 6 = .ok (.iload_n 1, 1) := by decide +kernel
theorem dX10_hour_7 : decode cX10_hour 7 = .ok (.invokevirtual 242, 3) := by decide +kernel
theorem dX10_hour_10 : decode cX10_hour 10 = .ok (.aload_n 0, 1) := by decide +kernel
theorem dX10_hour_11 : decode cX10_hour 11 = .ok (.iload_n 1, 1) := by decide +kernel
theorem dX10_hour_12 : decode cX10_hour 12 = .ok (.invokevirtual 246, 3) := by decide +kernel
theorem dX10_hour_15 : decode cX10_hour 15 = .ok (.aload_n 0, 1) := by decide +kernel
theorem dX10_hour_16 : decode cX10_hour 16 = .ok (.iload_n 1, 1) := by decide +kernel
theorem dX10_hour_17 : decode cX10_hour 17 = .ok (.invokevirtual 249, 3) := by decide +kernel
theorem dX10_hour_20 : decode cX10_hour 20 = .ok (.iconst 0, 1) := by decide +kernel
theorem dX10_hour_21 : decode cX10_hour 21 = .ok (.istore_n 2, 1) := by decide +kernel
theorem dX10_hour_22 : decode cX10_hour 22 = .ok (.iload_n 2, 1) := by decide +kernel
theorem dX10_hour_23 : decode cX10_hour 23 = .ok (.aload_n 0, 1) := by decide +kernel
theorem dX10_hour_24 : decode cX10_hour 24 = .ok (.getfield 72, 3) := by decide +kernel
theorem dX10_hour_27 : decode cX10_hour 27 = .ok (.if_icmp .ge 24, 3) := by decide +kernel
theorem dX10_hour_30 : decode cX10_hour 30 = .ok (.aload_n 0, 1) := by decide +kernel
theorem dX10_hour_31 : decode cX10_hour 31 = .ok (.getfield 223, 3) := by decide +kernel
theorem dX10_hour_34 : decode cX10_hour 34 = .ok (.iconst 1, 1) := by decide +kernel
theorem dX10_hour_35 : decode cX10_hour 35 = .ok (.if_icmp .ne 16, 3) := by decide +kernel
theorem dX10_hour_38 : decode cX10_hour 38 = .ok (.aload_n 0, 1) := by decide +kernel
theorem dX10_hour_39 : decode cX10_hour 39 = .ok (.getfield 22, 3) := by decide +kernel
theorem dX10_hour_42 : decode cX10_hour 42 = .ok (.iload_n 2, 1) := by decide +kernel
theorem dX10_hour_43 : decode cX10_hour 43 = .ok (.iconst 0, 1) := by decide +kernel
theorem dX10_hour_44 : decode cX10_hour 44 = .ok (.iastore, 1) := by decide +kernel
theorem dX10_hour_45 : decode cX10_hour 45 = .ok (.iinc 2 1, 3) := by decide +kernel
theorem dX10_hour_48 : decode cX10_hour 48 = .ok (.goto (-26), 3) := by decide +kernel
theorem dX10_hour_51 : decode cX10_hour 51 = .ok (.aload_n 0, 1) := by decide +kernel
theorem dX10_hour_52 : decode cX10_hour 52 = .ok (.iconst 1, 1) := by decide +kernel
theorem dX10_hour_53 : decode cX10_hour 53 = .ok (.putfield 229, 3) := by decide +kernel
theorem dX10_hour_56 : decode cX10_hour 56 = .ok (.aload_n 0, 1) := by decide +kernel
theorem dX10_hour_57 : decode cX10_hour 57 = .ok (.iload_n 1, 1) := by decide +kernel
theorem dX10_hour_58 : decode cX10_hour 58 = .ok (.iconst 1, 1) := by decide +kernel
theorem dX10_hour_59 : decode cX10_hour 59 = .ok (.iadd, 1) := by decide +kernel
theorem dX10_hour_60 : decode cX10_hour 60 = .ok (.bipush 24, 2) := by decide +kernel
theorem dX10_hour_62 : decode cX10_hour 62 = .ok (.irem, 1) := by decide +kernel
theorem dX10_hour_63 : decode cX10_hour 63 = .ok (.putfield 239, 3) := by decide +kernel
theorem dX10_hour_66 : decode cX10_hour 66 = .ok (.aload_n 0, 1) := by decide +kernel
theorem dX10_hour_67 : decode cX10_hour 67 = .ok (.getfield 223, 3) := by decide +kernel
theorem dX10_hour_70 : decode cX10_hour 70 = .ok (.ireturn, 1) := by decide +kernel
theorem dX10_hours_0 : decode cX10_hours 0 = .ok (.iload_n 1, 1) := by decide +kernel
theorem dX10_hours_1 : decode cX10_hours 1 = .ok (.iconst 1, 1) := by decide +kernel
theorem dX10_hours_2 : decode cX10_hours 2 = .ok (.bipush 48, 2) := by decide +kernel
theorem dX10_hours_4 : decode cX10_hours 4 = .ok (.invokestatic 75, 3) := by decide +kernel
theorem dX10_hours_7 : decode cX10_hours 7 = .ok (.ifCond .ne 11, 3) := by decide +kernel
theorem dX10_hours_10 : decode cX10_hours 10 = .ok (.aload_n 0, 1) := by decide +kernel
theorem dX10_hours_11 : decode cX10_hours 11 = .ok (.ldc 119, 2) := by decide +kernel
theorem dX10_hours_13 : decode cX10_hours 13 = .ok (.invokevirtual 120, 3) := by decide +kernel
theorem dX10_hours_16 : decode cX10_hours 16 = .ok (.i2l, 1) := by decide +kernel
theorem dX10_hours_17 : decode cX10_hours 17 = .ok (.lreturn, 1) := by decide +kernel
theorem dX10_hours_18 : decode cX10_hours 18 = .ok (.lconst 0, 1) := by decide +kernel
theorem dX10_hours_19 : decode cX10_hours 19 = .ok (.lstore_n 2, 1) := by decide +kernel
theorem dX10_hours_20 : decode cX10_hours 20 = .ok (.iconst 0, 1) := by decide +kernel
theorem dX10_hours_21 : decode cX10_hours 21 = .ok (.istore 4, 2) := by decide +kernel
theorem dX10_hours_23 : decode cX10_hours 23 = .ok (.iload 4, 2) := by decide +kernel
theorem dX10_hours_25 : decode cX10_hours 25 = .ok (.iload_n 1, 1) := by decide +kernel
theorem dX10_hours_26 : decode cX10_hours 26 = .ok (.if_icmp .ge 24, 3) := by decide +kernel
theorem dX10_hours_29 : decode cX10_hours 29 = .ok (.aload_n 0, 1) := by decide +kernel
theorem dX10_hours_30 : decode cX10_hours 30 = .ok (.invokevirtual 252, 3) := by decide +kernel
theorem dX10_hours_33 : decode cX10_hours 33 = .ok (.istore 5, 2) := by decide +kernel
theorem dX10_hours_35 : decode cX10_hours 35 = .ok (.lload_n 2, 1) := by decide +kernel
theorem dX10_hours_36 : decode cX10_hours 36 = .ok (.aload_n 0, 1) := by decide +kernel
theorem dX10_hours_37 : decode cX10_hours 37 = .ok (.getfield 51, 3) := by decide +kernel
theorem dX10_hours_40 : decode cX10_hours 40 = .ok (.iconst 5, 1) := by decide +kernel
theorem dX10_hours_41 : decode cX10_hours 41 = .ok (.laload, 1) := by decide +kernel
theorem dX10_hours_42 : decode cX10_hours 42 = .ok (.ladd, 1) := by decide +kernel
theorem dX10_hours_43 : decode cX10_hours 43 = .ok (.lstore_n 2, 1) := by decide +kernel
theorem dX10_hours_44 : decode cX10_hours 44 = .ok (.iinc 4 1, 3) := by decide +kernel
theorem dX10_hours_47 : decode cX10_hours 47 = .ok (.goto (-24), 3) := by decide +kernel
theorem dX10_hours_50 : decode cX10_hours 50 = .ok (.lload_n 2, 1) := by decide +kernel
theorem dX10_hours_51 : decode cX10_hours 51 = .ok (.lreturn, 1) := by decide +kernel
theorem dX10_book_0 : decode cX10_book 0 = .ok (.aload_n 0, 1) := by decide +kernel
theorem dX10_book_1 : decode cX10_book 1 = .ok (.getfield 229, 3) := by decide +kernel
theorem dX10_book_4 : decode cX10_book 4 = .ok (.ifCond .ne 11, 3) := by decide +kernel
theorem dX10_book_7 : decode cX10_book 7 = .ok (.aload_n 0, 1) := by decide +kernel
theorem dX10_book_8 : decode cX10_book 8 = .ok (.ldc 126, 2) := by decide +kernel
theorem dX10_book_10 : decode cX10_book 10 = .ok (.invokevirtual 120, 3) := by decide +kernel
theorem dX10_book_13 : decode cX10_book 13 = .ok (.i2l, 1) := by decide +kernel
theorem dX10_book_14 : decode cX10_book 14 = .ok (.lreturn, 1) := by decide +kernel
theorem dX10_book_15 : decode cX10_book 15 = .ok (.iload_n 1, 1) := by decide +kernel
theorem dX10_book_16 : decode cX10_book 16 = .ok (.iconst 0, 1) := by decide +kernel
theorem dX10_book_17 : decode cX10_book 17 = .ok (.bipush 7, 2) := by decide +kernel
theorem dX10_book_19 : decode cX10_book 19 = .ok (.invokestatic 75, 3) := by decide +kernel
theorem dX10_book_22 : decode cX10_book 22 = .ok (.ifCond .eq 12, 3) := by decide +kernel
theorem dX10_book_25 : decode cX10_book 25 = .ok (.aload_n 0, 1) := by decide +kernel
theorem dX10_book_26 : decode cX10_book 26 = .ok (.getfield 51, 3) := by decide +kernel
theorem dX10_book_29 : decode cX10_book 29 = .ok (.iload_n 1, 1) := by decide +kernel
theorem dX10_book_30 : decode cX10_book 30 = .ok (.laload, 1) := by decide +kernel
theorem dX10_book_31 : decode cX10_book 31 = .ok (.goto 10, 3) := by decide +kernel
theorem dX10_book_34 : decode cX10_book 34 = .ok (.aload_n 0, 1) := by decide +kernel
theorem dX10_book_35 : decode cX10_book 35 = .ok (.ldc 119, 2) := by decide +kernel
theorem dX10_book_37 : decode cX10_book 37 = .ok (.invokevirtual 120, 3) := by decide +kernel
theorem dX10_book_40 : decode cX10_book 40 = .ok (.i2l, 1) := by decide +kernel
theorem dX10_book_41 : decode cX10_book 41 = .ok (.lreturn, 1) := by decide +kernel
theorem dX10_all_0 : decode cX10_all 0 = .ok (.iload_n 1, 1) := by decide +kernel
theorem dX10_all_1 : decode cX10_all 1 = .ok (.iconst 0, 1) := by decide +kernel
theorem dX10_all_2 : decode cX10_all 2 = .ok (.iconst 5, 1) := by decide +kernel
theorem dX10_all_3 : decode cX10_all 3 = .ok (.invokestatic 75, 3) := by decide +kernel
theorem dX10_all_6 : decode cX10_all 6 = .ok (.ifCond .eq 12, 3) := by decide +kernel
theorem dX10_all_9 : decode cX10_all 9 = .ok (.aload_n 0, 1) := by decide +kernel
theorem dX10_all_10 : decode cX10_all 10 = .ok (.getfield 55, 3) := by decide +kernel
theorem dX10_all_13 : decode cX10_all 13 = .ok (.iload_n 1, 1) := by decide +kernel
theorem dX10_all_14 : decode cX10_all 14 = .ok (.laload, 1) := by decide +kernel
theorem dX10_all_15 : decode cX10_all 15 = .ok (.goto 10, 3) := by decide +kernel
theorem dX10_all_18 : decode cX10_all 18 = .ok (.aload_n 0, 1) := by decide +kernel
theorem dX10_all_19 : decode cX10_all 19 = .ok (.ldc 119, 2) := by decide +kernel
theorem dX10_all_21 : decode cX10_all 21 = .ok (.invokevirtual 120, 3) := by decide +kernel
theorem dX10_all_24 : decode cX10_all 24 = .ok (.i2l, 1) := by decide +kernel
theorem dX10_all_25 : decode cX10_all 25 = .ok (.lreturn, 1) := by decide +kernel
theorem dX10_next_0 : decode cX10_next 0 = .ok (.aload_n 0, 1) := by decide +kernel
theorem dX10_next_1 : decode cX10_next 1 = .ok (.getfield 239, 3) := by decide +kernel
theorem dX10_next_4 : decode cX10_next 4 = .ok (.ireturn, 1) := by decide +kernel
theorem dX10_bestWorth_0 : decode cX10_bestWorth 0 = .ok (.lconst 0, 1) := by decide +kernel
theorem dX10_bestWorth_1 : decode cX10_bestWorth 1 = .ok (.lstore_n 3, 1) := by decide +kernel
theorem dX10_bestWorth_2 : decode cX10_bestWorth 2 = .ok (.aload_n 0, 1) := by decide +kernel
theorem dX10_bestWorth_3 : decode cX10_bestWorth 3 = .ok (.iconst 0, 1) := by decide +kernel
theorem dX10_bestWorth_4 : decode cX10_bestWorth 4 = .ok (.putfield 256, 3) := by decide +kernel
theorem dX10_bestWorth_7 : decode cX10_bestWorth 7 = .ok (.iconst 1, 1) := by decide +kernel
theorem dX10_bestWorth_8 : decode cX10_bestWorth 8 = .ok (.istore 5, 2) := by decide +kernel
theorem dX10_bestWorth_10 : decode cX10_bestWorth 10 = .ok (.iload 5, 2) := by decide +kernel
theorem dX10_bestWorth_12 : decode cX10_bestWorth 12 = .ok (.iconst 1, 1) := by decide +kernel
theorem dX10_bestWorth_13 : decode cX10_bestWorth 13 = .ok (.aload_n 0, 1) := by decide +kernel
theorem dX10_bestWorth_14 : decode cX10_bestWorth 14 = .ok (.getfield 72, 3) := by decide +kernel
theorem dX10_bestWorth_17 : decode cX10_bestWorth 17 = .ok (.ishl, 1) := by decide +kernel
theorem dX10_bestWorth_18 : decode cX10_bestWorth 18 = .ok (.if_icmp .ge 126, 3) := by decide +kernel
theorem dX10_bestWorth_21 : decode cX10_bestWorth 21 = .ok (.lconst 0, 1) := by decide +kernel
theorem dX10_bestWorth_22 : decode cX10_bestWorth 22 = .ok (.lstore 6, 2) := by decide +kernel
theorem dX10_bestWorth_24 : decode cX10_bestWorth 24 = .ok (.iconst (-1), 1) := by decide +kernel
theorem dX10_bestWorth_25 : decode cX10_bestWorth 25 = .ok (.istore 8, 2) := by decide +kernel
theorem dX10_bestWorth_27 : decode cX10_bestWorth 27 = .ok (.iconst (-1), 1) := by decide +kernel
theorem dX10_bestWorth_28 : decode cX10_bestWorth 28 = .ok (.istore 9, 2) := by decide +kernel
theorem dX10_bestWorth_30 : decode cX10_bestWorth 30 = .ok (.iconst 0, 1) := by decide +kernel
theorem dX10_bestWorth_31 : decode cX10_bestWorth 31 = .ok (.istore 10, 2) := by decide +kernel
theorem dX10_bestWorth_33 : decode cX10_bestWorth 33 = .ok (.iload 10, 2) := by decide +kernel
theorem dX10_bestWorth_35 : decode cX10_bestWorth 35 = .ok (.aload_n 0, 1) := by decide +kernel
theorem dX10_bestWorth_36 : decode cX10_bestWorth 36 = .ok (.getfield 72, 3) := by decide +kernel
theorem dX10_bestWorth_39 : decode cX10_bestWorth 39 = .ok (.if_icmp .ge 66, 3) := by decide +kernel
theorem dX10_bestWorth_42 : decode cX10_bestWorth 42 = .ok (.iload 5, 2) := by decide +kernel
theorem dX10_bestWorth_44 : decode cX10_bestWorth 44 = .ok (.iload 10, 2) := by decide +kernel
theorem dX10_bestWorth_46 : decode cX10_bestWorth 46 = .ok (.ishr, 1) := by decide +kernel
theorem dX10_bestWorth_47 : decode cX10_bestWorth 47 = .ok (.iconst 1, 1) := by decide +kernel
theorem dX10_bestWorth_48 : decode cX10_bestWorth 48 = .ok (.iand, 1) := by decide +kernel
theorem dX10_bestWorth_49 : decode cX10_bestWorth 49 = .ok (.iconst 1, 1) := by decide +kernel
theorem dX10_bestWorth_50 : decode cX10_bestWorth 50 = .ok (.if_icmp .ne 49, 3) := by decide +kernel
theorem dX10_bestWorth_53 : decode cX10_bestWorth 53 = .ok (.lload 6, 2) := by decide +kernel
theorem dX10_bestWorth_55 : decode cX10_bestWorth 55 = .ok (.aload_n 0, 1) := by decide +kernel
theorem dX10_bestWorth_56 : decode cX10_bestWorth 56 = .ok (.getfield 22, 3) := by decide +kernel
theorem dX10_bestWorth_59 : decode cX10_bestWorth 59 = .ok (.iload 10, 2) := by decide +kernel
theorem dX10_bestWorth_61 : decode cX10_bestWorth 61 = .ok (.iaload, 1) := by decide +kernel
theorem dX10_bestWorth_62 : decode cX10_bestWorth 62 = .ok (.i2l, 1) := by decide +kernel
theorem dX10_bestWorth_63 : decode cX10_bestWorth 63 = .ok (.aload_n 0, 1) := by decide +kernel
theorem dX10_bestWorth_64 : decode cX10_bestWorth 64 = .ok (.getfield 19, 3) := by decide +kernel
theorem dX10_bestWorth_67 : decode cX10_bestWorth 67 = .ok (.iload 10, 2) := by decide +kernel
theorem dX10_bestWorth_69 : decode cX10_bestWorth 69 = .ok (.iaload, 1) := by decide +kernel
theorem dX10_bestWorth_70 : decode cX10_bestWorth 70 = .ok (.i2l, 1) := by decide +kernel
theorem dX10_bestWorth_71 : decode cX10_bestWorth 71 = .ok (.lmul, 1) := by decide +kernel
theorem dX10_bestWorth_72 : decode cX10_bestWorth 72 = .ok (.iload_n 1, 1) := by decide +kernel
theorem dX10_bestWorth_73 : decode cX10_bestWorth 73 = .ok (.i2l, 1) := by decide +kernel
theorem dX10_bestWorth_74 : decode cX10_bestWorth 74 = .ok (.lmul, 1) := by decide +kernel
theorem dX10_bestWorth_75 : decode cX10_bestWorth 75 = .ok (.iload_n 2, 1) := by decide +kernel
theorem dX10_bestWorth_76 : decode cX10_bestWorth 76 = .ok (.i2l, 1) := by decide +kernel
theorem dX10_bestWorth_77 : decode cX10_bestWorth 77 = .ok (.lsub, 1) := by decide +kernel
theorem dX10_bestWorth_78 : decode cX10_bestWorth 78 = .ok (.ladd, 1) := by decide +kernel
theorem dX10_bestWorth_79 : decode cX10_bestWorth 79 = .ok (.lstore 6, 2) := by decide +kernel
theorem dX10_bestWorth_81 : decode cX10_bestWorth 81 = .ok (.iload 8, 2) := by decide +kernel
theorem dX10_bestWorth_83 : decode cX10_bestWorth 83 = .ok (.ifCond .ge 8, 3) := by decide +kernel
theorem dX10_bestWorth_86 : decode cX10_bestWorth 86 = .ok (.iload 10, 2) := by decide +kernel
theorem dX10_bestWorth_88 : decode cX10_bestWorth 88 = .ok (.goto 5, 3) := by decide +kernel
theorem dX10_bestWorth_91 : decode cX10_bestWorth 91 = .ok (.iload 8, 2) := by decide +kernel
theorem dX10_bestWorth_93 : decode cX10_bestWorth 93 = .ok (.istore 8, 2) := by decide +kernel
theorem dX10_bestWorth_95 : decode cX10_bestWorth 95 = .ok (.iload 10, 2) := by decide +kernel
theorem dX10_bestWorth_97 : decode cX10_bestWorth 97 = .ok (.istore 9, 2) := by decide +kernel
theorem dX10_bestWorth_99 : decode cX10_bestWorth 99 = .ok (.iinc 10 1, 3) := by decide +kernel
theorem dX10_bestWorth_102 : decode cX10_bestWorth 102 = .ok (.goto (-69), 3) := by decide +kernel
theorem dX10_bestWorth_105 : decode cX10_bestWorth 105 = .ok (.lload 6, 2) := by decide +kernel
theorem dX10_bestWorth_107 : decode cX10_bestWorth 107 = .ok (.ldc2_w 259, 3) := by decide +kernel
theorem dX10_bestWorth_110 : decode cX10_bestWorth 110 = .ok (.iload 9, 2) := by decide +kernel
theorem dX10_bestWorth_112 : decode cX10_bestWorth 112 = .ok (.iload 8, 2) := by decide +kernel
theorem dX10_bestWorth_114 : decode cX10_bestWorth 114 = .ok (.isub, 1) := by decide +kernel
theorem dX10_bestWorth_115 : decode cX10_bestWorth 115 = .ok (.iconst 1, 1) := by decide +kernel
theorem dX10_bestWorth_116 : decode cX10_bestWorth 116 = .ok (.iadd, 1) := by decide +kernel
theorem dX10_bestWorth_117 : decode cX10_bestWorth 117 = .ok (.i2l, 1) := by decide +kernel
theorem dX10_bestWorth_118 : decode cX10_bestWorth 118 = .ok (.lmul, 1) := by decide +kernel
theorem dX10_bestWorth_119 : decode cX10_bestWorth 119 = .ok (.lsub, 1) := by decide +kernel
theorem dX10_bestWorth_120 : decode cX10_bestWorth 120 = .ok (.lstore 6, 2) := by decide +kernel
theorem dX10_bestWorth_122 : decode cX10_bestWorth 122 = .ok (.lload 6, 2) := by decide +kernel
theorem dX10_bestWorth_124 : decode cX10_bestWorth 124 = .ok (.lload_n 3, 1) := by decide +kernel
theorem dX10_bestWorth_125 : decode cX10_bestWorth 125 = .ok (.lcmp, 1) := by decide +kernel
theorem dX10_bestWorth_126 : decode cX10_bestWorth 126 = .ok (.ifCond .le 12, 3) := by decide +kernel
theorem dX10_bestWorth_129 : decode cX10_bestWorth 129 = .ok (.lload 6, 2) := by decide +kernel
theorem dX10_bestWorth_131 : decode cX10_bestWorth 131 = .ok (.lstore_n 3, 1) := by decide +kernel
theorem dX10_bestWorth_132 : decode cX10_bestWorth 132 = .ok (.aload_n 0, 1) := by decide +kernel
theorem dX10_bestWorth_133 : decode cX10_bestWorth 133 = .ok (.iload 5, 2) := by decide +kernel
theorem dX10_bestWorth_135 : decode cX10_bestWorth 135 = .ok (.putfield 256, 3) := by decide +kernel
theorem dX10_bestWorth_138 : decode cX10_bestWorth 138 = .ok (.iinc 5 1, 3) := by decide +kernel
theorem dX10_bestWorth_141 : decode cX10_bestWorth 141 = .ok (.goto (-131), 3) := by decide +kernel
theorem dX10_bestWorth_144 : decode cX10_bestWorth 144 = .ok (.lload_n 3, 1) := by decide +kernel
theorem dX10_bestWorth_145 : decode cX10_bestWorth 145 = .ok (.lreturn, 1) := by decide +kernel
theorem dX10_isPlan_0 : decode cX10_isPlan 0 = .ok (.iload_n 0, 1) := by decide +kernel
theorem dX10_isPlan_1 : decode cX10_isPlan 1 = .ok (.iconst 1, 1) := by decide +kernel
theorem dX10_isPlan_2 : decode cX10_isPlan 2 = .ok (.bipush 100, 2) := by decide +kernel
theorem dX10_isPlan_4 : decode cX10_isPlan 4 = .ok (.invokestatic 75, 3) := by decide +kernel
theorem dX10_isPlan_7 : decode cX10_isPlan 7 = .ok (.ifCond .eq 17, 3) := by decide +kernel
theorem dX10_isPlan_10 : decode cX10_isPlan 10 = .ok (.iload_n 1, 1) := by decide +kernel
theorem dX10_isPlan_11 : decode cX10_isPlan 11 = .ok (.iconst 0, 1) := by decide +kernel
theorem dX10_isPlan_12 : decode cX10_isPlan 12 = .ok (.ldc 70, 2) := by decide +kernel
theorem dX10_isPlan_14 : decode cX10_isPlan 14 = .ok (.invokestatic 75, 3) := by decide +kernel
theorem dX10_isPlan_17 : decode cX10_isPlan 17 = .ok (.ifCond .eq 7, 3) := by decide +kernel
theorem dX10_isPlan_20 : decode cX10_isPlan 20 = .ok (.iconst 1, 1) := by decide +kernel
theorem dX10_isPlan_21 : decode cX10_isPlan 21 = .ok (.goto 4, 3) := by decide +kernel
theorem dX10_isPlan_24 : decode cX10_isPlan 24 = .ok (.iconst 0, 1) := by decide +kernel
theorem dX10_isPlan_25 : decode cX10_isPlan 25 = .ok (.ireturn, 1) := by decide +kernel
theorem dX10_plan_0 : decode cX10_plan 0 = .ok (.iload_n 1, 1) := by decide +kernel
theorem dX10_plan_1 : decode cX10_plan 1 = .ok (.iload_n 2, 1) := by decide +kernel
theorem dX10_plan_2 : decode cX10_plan 2 = .ok (.invokestatic 261, 3) := by decide +kernel
theorem dX10_plan_5 : decode cX10_plan 5 = .ok (.ifCond .ne 10, 3) := by decide +kernel
theorem dX10_plan_8 : decode cX10_plan 8 = .ok (.aload_n 0, 1) := by decide +kernel
theorem dX10_plan_9 : decode cX10_plan 9 = .ok (.ldc 119, 2) := by decide +kernel
theorem dX10_plan_11 : decode cX10_plan 11 = .ok (.invokevirtual 120, 3) := by decide +kernel
theorem dX10_plan_14 : decode cX10_plan 14 = .ok (.ireturn, 1) := by decide +kernel
theorem dX10_plan_15 : decode cX10_plan 15 = .ok (.aload_n 0, 1) := by decide +kernel
theorem dX10_plan_16 : decode cX10_plan 16 = .ok (.iload_n 1, 1) := by decide +kernel
theorem dX10_plan_17 : decode cX10_plan 17 = .ok (.iload_n 2, 1) := by decide +kernel
theorem dX10_plan_18 : decode cX10_plan 18 = .ok (.invokevirtual 264, 3) := by decide +kernel
theorem dX10_plan_21 : decode cX10_plan 21 = .ok (.lstore_n 3, 1) := by decide +kernel
theorem dX10_plan_22 : decode cX10_plan 22 = .ok (.aload_n 0, 1) := by decide +kernel
theorem dX10_plan_23 : decode cX10_plan 23 = .ok (.getfield 256, 3) := by decide +kernel
theorem dX10_plan_26 : decode cX10_plan 26 = .ok (.ireturn, 1) := by decide +kernel
theorem dX10_worth_0 : decode cX10_worth 0 = .ok (.iload_n 1, 1) := by decide +kernel
theorem dX10_worth_1 : decode cX10_worth 1 = .ok (.iload_n 2, 1) := by decide +kernel
theorem dX10_worth_2 : decode cX10_worth 2 = .ok (.invokestatic 261, 3) := by decide +kernel
theorem dX10_worth_5 : decode cX10_worth 5 = .ok (.ifCond .eq 12, 3) := by decide +kernel
theorem dX10_worth_8 : decode cX10_worth 8 = .ok (.aload_n 0, 1) := by decide +kernel
theorem dX10_worth_9 : decode cX10_worth 9 = .ok (.iload_n 1, 1) := by decide +kernel
theorem dX10_worth_10 : decode cX10_worth 10 = .ok (.iload_n 2, 1) := by decide +kernel
theorem dX10_worth_11 : decode cX10_worth 11 = .ok (.invokevirtual 264, 3) := by decide +kernel
theorem dX10_worth_14 : decode cX10_worth 14 = .ok (.goto 10, 3) := by decide +kernel
theorem dX10_worth_17 : decode cX10_worth 17 = .ok (.aload_n 0, 1) := by decide +kernel
theorem dX10_worth_18 : decode cX10_worth 18 = .ok (.ldc 119, 2) := by decide +kernel
theorem dX10_worth_20 : decode cX10_worth 20 = .ok (.invokevirtual 120, 3) := by decide +kernel
theorem dX10_worth_23 : decode cX10_worth 23 = .ok (.i2l, 1) := by decide +kernel
theorem dX10_worth_24 : decode cX10_worth 24 = .ok (.lreturn, 1) := by decide +kernel
theorem dX10_wash_0 : decode cX10_wash 0 = .ok (.iload_n 1, 1) := by decide +kernel
theorem dX10_wash_1 : decode cX10_wash 1 = .ok (.iconst 0, 1) := by decide +kernel
theorem dX10_wash_2 : decode cX10_wash 2 = .ok (.iconst 1, 1) := by decide +kernel
theorem dX10_wash_3 : decode cX10_wash 3 = .ok (.aload_n 0, 1) := by decide +kernel
theorem dX10_wash_4 : decode cX10_wash 4 = .ok (.getfield 72, 3) := by decide +kernel
theorem dX10_wash_7 : decode cX10_wash 7 = .ok (.ishl, 1) := by decide +kernel
theorem dX10_wash_8 : decode cX10_wash 8 = .ok (.iconst 1, 1) := by decide +kernel
theorem dX10_wash_9 : decode cX10_wash 9 = .ok (.isub, 1) := by decide +kernel
theorem dX10_wash_10 : decode cX10_wash 10 = .ok (.invokestatic 75, 3) := by decide +kernel
theorem dX10_wash_13 : decode cX10_wash 13 = .ok (.ifCond .ne 10, 3) := by decide +kernel
theorem dX10_wash_16 : decode cX10_wash 16 = .ok (.aload_n 0, 1) := by decide +kernel
theorem dX10_wash_17 : decode cX10_wash 17 = .ok (.ldc 119, 2) := by decide +kernel
theorem dX10_wash_19 : decode cX10_wash 19 = .ok (.invokevirtual 120, 3) := by decide +kernel
theorem dX10_wash_22 : decode cX10_wash 22 = .ok (.ireturn, 1) := by decide +kernel
theorem dX10_wash_23 : decode cX10_wash 23 = .ok (.iconst 0, 1) := by decide +kernel
theorem dX10_wash_24 : decode cX10_wash 24 = .ok (.istore_n 2, 1) := by decide +kernel
theorem dX10_wash_25 : decode cX10_wash 25 = .ok (.iconst 0, 1) := by decide +kernel
theorem dX10_wash_26 : decode cX10_wash 26 = .ok (.istore_n 3, 1) := by decide +kernel
theorem dX10_wash_27 : decode cX10_wash 27 = .ok (.iload_n 3, 1) := by decide +kernel
theorem dX10_wash_28 : decode cX10_wash 28 = .ok (.aload_n 0, 1) := by decide +kernel
theorem dX10_wash_29 : decode cX10_wash 29 = .ok (.getfield 72, 3) := by decide +kernel
theorem dX10_wash_32 : decode cX10_wash 32 = .ok (.if_icmp .ge 42, 3) := by decide +kernel
theorem dX10_wash_35 : decode cX10_wash 35 = .ok (.iload_n 1, 1) := by decide +kernel
theorem dX10_wash_36 : decode cX10_wash 36 = .ok (.iload_n 3, 1) := by decide +kernel
theorem dX10_wash_37 : decode cX10_wash 37 = .ok (.ishr, 1) := by decide +kernel
theorem dX10_wash_38 : decode cX10_wash 38 = .ok (.iconst 1, 1) := by decide +kernel
theorem dX10_wash_39 : decode cX10_wash 39 = .ok (.iand, 1) := by decide +kernel
theorem dX10_wash_40 : decode cX10_wash 40 = .ok (.iconst 1, 1) := by decide +kernel
theorem dX10_wash_41 : decode cX10_wash 41 = .ok (.if_icmp .ne 27, 3) := by decide +kernel
theorem dX10_wash_44 : decode cX10_wash 44 = .ok (.iload_n 2, 1) := by decide +kernel
theorem dX10_wash_45 : decode cX10_wash 45 = .ok (.aload_n 0, 1) := by decide +kernel
theorem dX10_wash_46 : decode cX10_wash 46 = .ok (.getfield 22, 3) := by decide +kernel
theorem dX10_wash_49 : decode cX10_wash 49 = .ok (.iload_n 3, 1) := by decide +kernel
theorem dX10_wash_50 : decode cX10_wash 50 = .ok (.iaload, 1) := by decide +kernel
theorem dX10_wash_51 : decode cX10_wash 51 = .ok (.ifCond .le 7, 3) := by decide +kernel
theorem dX10_wash_54 : decode cX10_wash 54 = .ok (.iconst 1, 1) := by decide +kernel
theorem dX10_wash_55 : decode cX10_wash 55 = .ok (.goto 4, 3) := by decide +kernel
theorem dX10_wash_58 : decode cX10_wash 58 = .ok (.iconst 0, 1) := by decide +kernel
theorem dX10_wash_59 : decode cX10_wash 59 = .ok (.iadd, 1) := by decide +kernel
theorem dX10_wash_60 : decode cX10_wash 60 = .ok (.istore_n 2, 1) := by decide +kernel
theorem dX10_wash_61 : decode cX10_wash 61 = .ok (.aload_n 0, 1) := by decide +kernel
theorem dX10_wash_62 : decode cX10_wash 62 = .ok (.getfield 22, 3) := by decide +kernel
theorem dX10_wash_65 : decode cX10_wash 65 = .ok (.iload_n 3, 1) := by decide +kernel
theorem dX10_wash_66 : decode cX10_wash 66 = .ok (.iconst 0, 1) := by decide +kernel
theorem dX10_wash_67 : decode cX10_wash 67 = .ok (.iastore, 1) := by decide +kernel
theorem dX10_wash_68 : decode cX10_wash 68 = .ok (.iinc 3 1, 3) := by decide +kernel
theorem dX10_wash_71 : decode cX10_wash 71 = .ok (.goto (-44), 3) := by decide +kernel
theorem dX10_wash_74 : decode cX10_wash 74 = .ok (.iload_n 2, 1) := by decide +kernel
theorem dX10_wash_75 : decode cX10_wash 75 = .ok (.ireturn, 1) := by decide +kernel
theorem dX10_storm_0 : decode cX10_storm 0 = .ok (.iload_n 1, 1) := by decide +kernel
theorem dX10_storm_1 : decode cX10_storm 1 = .ok (.iconst 0, 1) := by decide +kernel
theorem dX10_storm_2 : decode cX10_storm 2 = .ok (.sipush 1000, 3) := by decide +kernel
theorem dX10_storm_5 : decode cX10_storm 5 = .ok (.invokestatic 75, 3) := by decide +kernel
theorem dX10_storm_8 : decode cX10_storm 8 = .ok (.ifCond .ne 10, 3) := by decide +kernel
theorem dX10_storm_11 : decode cX10_storm 11 = .ok (.aload_n 0, 1) := by decide +kernel
theorem dX10_storm_12 : decode cX10_storm 12 = .ok (.ldc 119, 2) := by decide +kernel
theorem dX10_storm_14 : decode cX10_storm 14 = .ok (.invokevirtual 120, 3) := by decide +kernel
theorem dX10_storm_17 : decode cX10_storm 17 = .ok (.ireturn, 1) := by decide +kernel
theorem dX10_storm_18 : decode cX10_storm 18 = .ok (.iconst 0, 1) := by decide +kernel
theorem dX10_storm_19 : decode cX10_storm 19 = .ok (.istore_n 2, 1) := by decide +kernel
theorem dX10_storm_20 : decode cX10_storm 20 = .ok (.iconst 0, 1) := by decide +kernel
theorem dX10_storm_21 : decode cX10_storm 21 = .ok (.istore_n 3, 1) := by decide +kernel
theorem dX10_storm_22 : decode cX10_storm 22 = .ok (.iload_n 3, 1) := by decide +kernel
theorem dX10_storm_23 : decode cX10_storm 23 = .ok (.aload_n 0, 1) := by decide +kernel
theorem dX10_storm_24 : decode cX10_storm 24 = .ok (.getfield 72, 3) := by decide +kernel
theorem dX10_storm_27 : decode cX10_storm 27 = .ok (.if_icmp .ge 52, 3) := by decide +kernel
theorem dX10_storm_30 : decode cX10_storm 30 = .ok (.aload_n 0, 1) := by decide +kernel
theorem dX10_storm_31 : decode cX10_storm 31 = .ok (.getfield 22, 3) := by decide +kernel
theorem dX10_storm_34 : decode cX10_storm 34 = .ok (.iload_n 3, 1) := by decide +kernel
theorem dX10_storm_35 : decode cX10_storm 35 = .ok (.aload_n 0, 1) := by decide +kernel
theorem dX10_storm_36 : decode cX10_storm 36 = .ok (.getfield 22, 3) := by decide +kernel
theorem dX10_storm_39 : decode cX10_storm 39 = .ok (.iload_n 3, 1) := by decide +kernel
theorem dX10_storm_40 : decode cX10_storm 40 = .ok (.iaload, 1) := by decide +kernel
theorem dX10_storm_41 : decode cX10_storm 41 = .ok (.iload_n 1, 1) := by decide +kernel
theorem dX10_storm_42 : decode cX10_storm 42 = .ok (.iadd, 1) := by decide +kernel
theorem dX10_storm_43 : decode cX10_storm 43 = .ok (.sipush 1000, 3) := by decide +kernel
theorem dX10_storm_46 : decode cX10_storm 46 = .ok (.if_icmp .le 9, 3) := by decide +kernel
theorem dX10_storm_49 : decode cX10_storm 49 = .ok (.sipush 1000, 3) := by decide +kernel
theorem dX10_storm_52 : decode cX10_storm 52 = .ok (.goto 11, 3) := by decide +kernel
theorem dX10_storm_55 : decode cX10_storm 55 = .ok (.aload_n 0, 1) := by decide +kernel
theorem dX10_storm_56 : decode cX10_storm 56 = .ok (.getfield 22, 3) := by decide +kernel
theorem dX10_storm_59 : decode cX10_storm 59 = .ok (.iload_n 3, 1) := by decide +kernel
theorem dX10_storm_60 : decode cX10_storm 60 = .ok (.iaload, 1) := by decide +kernel
theorem dX10_storm_61 : decode cX10_storm 61 = .ok (.iload_n 1, 1) := by decide +kernel
theorem dX10_storm_62 : decode cX10_storm 62 = .ok (.iadd, 1) := by decide +kernel
theorem dX10_storm_63 : decode cX10_storm 63 = .ok (.iastore, 1) := by decide +kernel
theorem dX10_storm_64 : decode cX10_storm 64 = .ok (.iload_n 2, 1) := by decide +kernel
theorem dX10_storm_65 : decode cX10_storm 65 = .ok (.aload_n 0, 1) := by decide +kernel
theorem dX10_storm_66 : decode cX10_storm 66 = .ok (.getfield 22, 3) := by decide +kernel
theorem dX10_storm_69 : decode cX10_storm 69 = .ok (.iload_n 3, 1) := by decide +kernel
theorem dX10_storm_70 : decode cX10_storm 70 = .ok (.iaload, 1) := by decide +kernel
theorem dX10_storm_71 : decode cX10_storm 71 = .ok (.iadd, 1) := by decide +kernel
theorem dX10_storm_72 : decode cX10_storm 72 = .ok (.istore_n 2, 1) := by decide +kernel
theorem dX10_storm_73 : decode cX10_storm 73 = .ok (.iinc 3 1, 3) := by decide +kernel
theorem dX10_storm_76 : decode cX10_storm 76 = .ok (.goto (-54), 3) := by decide +kernel
theorem dX10_storm_79 : decode cX10_storm 79 = .ok (.iload_n 2, 1) := by decide +kernel
theorem dX10_storm_80 : decode cX10_storm 80 = .ok (.ireturn, 1) := by decide +kernel
theorem dX10_tell_0 : decode cX10_tell 0 = .ok (.aload_n 0, 1) := by decide +kernel
theorem dX10_tell_1 : decode cX10_tell 1 = .ok (.getfield 141, 3) := by decide +kernel
theorem dX10_tell_4 : decode cX10_tell 4 = .ok (.bipush 72, 2) := by decide +kernel
theorem dX10_tell_6 : decode cX10_tell 6 = .ok (.if_icmp .ne 10, 3) := by decide +kernel
theorem dX10_tell_9 : decode cX10_tell 9 = .ok (.aload_n 0, 1) := by decide +kernel
theorem dX10_tell_10 : decode cX10_tell 10 = .ok (.ldc 125, 2) := by decide +kernel
theorem dX10_tell_12 : decode cX10_tell 12 = .ok (.invokevirtual 120, 3) := by decide +kernel
theorem dX10_tell_15 : decode cX10_tell 15 = .ok (.ireturn, 1) := by decide +kernel
theorem dX10_tell_16 : decode cX10_tell 16 = .ok (.aload_n 0, 1) := by decide +kernel
theorem dX10_tell_17 : decode cX10_tell 17 = .ok (.getfield 58, 3) := by decide +kernel
theorem dX10_tell_20 : decode cX10_tell 20 = .ok (.aload_n 0, 1) := by decide +kernel
theorem dX10_tell_21 : decode cX10_tell 21 = .ok (.getfield 141, 3) := by decide +kernel
theorem dX10_tell_24 : decode cX10_tell 24 = .ok (.iload_n 1, 1) := by decide +kernel
theorem dX10_tell_25 : decode cX10_tell 25 = .ok (.iastore, 1) := by decide +kernel
theorem dX10_tell_26 : decode cX10_tell 26 = .ok (.aload_n 0, 1) := by decide +kernel
theorem dX10_tell_27 : decode cX10_tell 27 = .ok (.dup, 1) := by decide +kernel
theorem dX10_tell_28 : decode cX10_tell 28 = .ok (.getfield 141, 3) := by decide +kernel
theorem dX10_tell_31 : decode cX10_tell 31 = .ok (.iconst 1, 1) := by decide +kernel
theorem dX10_tell_32 : decode cX10_tell 32 = .ok (.iadd, 1) := by decide +kernel
theorem dX10_tell_33 : decode cX10_tell 33 = .ok (.putfield 141, 3) := by decide +kernel
theorem dX10_tell_36 : decode cX10_tell 36 = .ok (.aload_n 0, 1) := by decide +kernel
theorem dX10_tell_37 : decode cX10_tell 37 = .ok (.getfield 141, 3) := by decide +kernel
theorem dX10_tell_40 : decode cX10_tell 40 = .ok (.ireturn, 1) := by decide +kernel
theorem dX10_check_0 : decode cX10_check 0 = .ok (.aload_n 0, 1) := by decide +kernel
theorem dX10_check_1 : decode cX10_check 1 = .ok (.getfield 141, 3) := by decide +kernel
theorem dX10_check_4 : decode cX10_check 4 = .ok (.istore_n 1, 1) := by decide +kernel
theorem dX10_check_5 : decode cX10_check 5 = .ok (.aload_n 0, 1) := by decide +kernel
theorem dX10_check_6 : decode cX10_check 6 = .ok (.iconst 0, 1) := by decide +kernel
theorem dX10_check_7 : decode cX10_check 7 = .ok (.putfield 141, 3) := by decide +kernel
theorem dX10_check_10 : decode cX10_check 10 = .ok (.aload_n 0, 1) := by decide +kernel
theorem dX10_check_11 : decode cX10_check 11 = .ok (.getfield 229, 3) := by decide +kernel
theorem dX10_check_14 : decode cX10_check 14 = .ok (.ifCond .ne 10, 3) := by decide +kernel
theorem dX10_check_17 : decode cX10_check 17 = .ok (.aload_n 0, 1) := by decide +kernel
theorem dX10_check_18 : decode cX10_check 18 = .ok (.ldc 126, 2) := by decide +kernel
theorem dX10_check_20 : decode cX10_check 20 = .ok (.invokevirtual 120, 3) := by decide +kernel
theorem dX10_check_23 : decode cX10_check 23 = .ok (.ireturn, 1) := by decide +kernel
theorem dX10_check_24 : decode cX10_check 24 = .ok (.iconst 0, 1) := by decide +kernel
theorem dX10_check_25 : decode cX10_check 25 = .ok (.istore_n 2, 1) := by decide +kernel
theorem dX10_check_26 : decode cX10_check 26 = .ok (.iload_n 2, 1) := by decide +kernel
theorem dX10_check_27 : decode cX10_check 27 = .ok (.bipush 6, 2) := by decide +kernel
theorem dX10_check_29 : decode cX10_check 29 = .ok (.if_icmp .ge 35, 3) := by decide +kernel
theorem dX10_check_32 : decode cX10_check 32 = .ok (.iload_n 2, 1) := by decide +kernel
theorem dX10_check_33 : decode cX10_check 33 = .ok (.iload_n 1, 1) := by decide +kernel
theorem dX10_check_34 : decode cX10_check 34 = .ok (.if_icmp .ge 20, 3) := by decide +kernel
theorem dX10_check_37 : decode cX10_check 37 = .ok (.aload_n 0, 1) := by decide +kernel
theorem dX10_check_38 : decode cX10_check 38 = .ok (.getfield 58, 3) := by decide +kernel
theorem dX10_check_41 : decode cX10_check 41 = .ok (.iload_n 2, 1) := by decide +kernel
theorem dX10_check_42 : decode cX10_check 42 = .ok (.iaload, 1) := by decide +kernel
theorem dX10_check_43 : decode cX10_check 43 = .ok (.i2l, 1) := by decide +kernel
theorem dX10_check_44 : decode cX10_check 44 = .ok (.aload_n 0, 1) := by decide +kernel
theorem dX10_check_45 : decode cX10_check 45 = .ok (.getfield 51, 3) := by decide +kernel
theorem dX10_check_48 : decode cX10_check 48 = .ok (.iload_n 2, 1) := by decide +kernel
theorem dX10_check_49 : decode cX10_check 49 = .ok (.laload, 1) := by decide +kernel
theorem dX10_check_50 : decode cX10_check 50 = .ok (.lcmp, 1) := by decide +kernel
theorem dX10_check_51 : decode cX10_check 51 = .ok (.ifCond .eq 7, 3) := by decide +kernel
theorem dX10_check_54 : decode cX10_check 54 = .ok (.iconst 1, 1) := by decide +kernel
theorem dX10_check_55 : decode cX10_check 55 = .ok (.iload_n 2, 1) := by decide +kernel
theorem dX10_check_56 : decode cX10_check 56 = .ok (.iadd, 1) := by decide +kernel
theorem dX10_check_57 : decode cX10_check 57 = .ok (.ireturn, 1) := by decide +kernel
theorem dX10_check_58 : decode cX10_check 58 = .ok (.iinc 2 1, 3) := by decide +kernel
theorem dX10_check_61 : decode cX10_check 61 = .ok (.goto (-35), 3) := by decide +kernel
theorem dX10_check_64 : decode cX10_check 64 = .ok (.iload_n 1, 1) := by decide +kernel
theorem dX10_check_65 : decode cX10_check 65 = .ok (.bipush 6, 2) := by decide +kernel
theorem dX10_check_67 : decode cX10_check 67 = .ok (.if_icmp .le 8, 3) := by decide +kernel
theorem dX10_check_70 : decode cX10_check 70 = .ok (.bipush 99, 2) := by decide +kernel
theorem dX10_check_72 : decode cX10_check 72 = .ok (.goto 4, 3) := by decide +kernel
theorem dX10_check_75 : decode cX10_check 75 = .ok (.iconst 0, 1) := by decide +kernel
theorem dX10_check_76 : decode cX10_check 76 = .ok (.ireturn, 1) := by decide +kernel
theorem dX10_found_0 : decode cX10_found 0 = .ok (.iload_n 1, 1) := by decide +kernel
theorem dX10_found_1 : decode cX10_found 1 = .ok (.ldc 124, 2) := by decide +kernel
theorem dX10_found_3 : decode cX10_found 3 = .ok (.ldc 119, 2) := by decide +kernel
theorem dX10_found_5 : decode cX10_found 5 = .ok (.invokestatic 75, 3) := by decide +kernel
theorem dX10_found_8 : decode cX10_found 8 = .ok (.ifCond .eq 15, 3) := by decide +kernel
theorem dX10_found_11 : decode cX10_found 11 = .ok (.aload_n 0, 1) := by decide +kernel
theorem dX10_found_12 : decode cX10_found 12 = .ok (.getfield 61, 3) := by decide +kernel
theorem dX10_found_15 : decode cX10_found 15 = .ok (.ldc 71, 2) := by decide +kernel
theorem dX10_found_17 : decode cX10_found 17 = .ok (.iload_n 1, 1) := by decide +kernel
theorem dX10_found_18 : decode cX10_found 18 = .ok (.isub, 1) := by decide +kernel
theorem dX10_found_19 : decode cX10_found 19 = .ok (.iaload, 1) := by decide +kernel
theorem dX10_found_20 : decode cX10_found 20 = .ok (.goto 9, 3) := by decide +kernel
theorem dX10_found_23 : decode cX10_found 23 = .ok (.aload_n 0, 1) := by decide +kernel
theorem dX10_found_24 : decode cX10_found 24 = .ok (.ldc 119, 2) := by decide +kernel
theorem dX10_found_26 : decode cX10_found 26 = .ok (.invokevirtual 120, 3) := by decide +kernel
theorem dX10_found_29 : decode cX10_found 29 = .ok (.ireturn, 1) := by decide +kernel
theorem dJ6_bitCount_0f7a4_0 : decode cJ6_bitCount_0f7a4 0 = .ok (.iload_n 0, 1) := by decide +kernel
theorem dJ6_bitCount_0f7a4_1 : decode cJ6_bitCount_0f7a4 1 = .ok (.iload_n 0, 1) := by decide +kernel
theorem dJ6_bitCount_0f7a4_2 : decode cJ6_bitCount_0f7a4 2 = .ok (.iconst 1, 1) := by decide +kernel
theorem dJ6_bitCount_0f7a4_3 : decode cJ6_bitCount_0f7a4 3 = .ok (.iushr, 1) := by decide +kernel
theorem dJ6_bitCount_0f7a4_4 : decode cJ6_bitCount_0f7a4 4 = .ok (.ldc_w 265, 3) := by decide +kernel
theorem dJ6_bitCount_0f7a4_7 : decode cJ6_bitCount_0f7a4 7 = .ok (.iand, 1) := by decide +kernel
theorem dJ6_bitCount_0f7a4_8 : decode cJ6_bitCount_0f7a4 8 = .ok (.isub, 1) := by decide +kernel
theorem dJ6_bitCount_0f7a4_9 : decode cJ6_bitCount_0f7a4 9 = .ok (.istore_n 0, 1) := by decide +kernel
theorem dJ6_bitCount_0f7a4_10 : decode cJ6_bitCount_0f7a4 10 = .ok (.iload_n 0, 1) := by decide +kernel
theorem dJ6_bitCount_0f7a4_11 : decode cJ6_bitCount_0f7a4 11 = .ok (.ldc_w 266, 3) := by decide +kernel
theorem dJ6_bitCount_0f7a4_14 : decode cJ6_bitCount_0f7a4 14 = .ok (.iand, 1) := by decide +kernel
theorem dJ6_bitCount_0f7a4_15 : decode cJ6_bitCount_0f7a4 15 = .ok (.iload_n 0, 1) := by decide +kernel
theorem dJ6_bitCount_0f7a4_16 : decode cJ6_bitCount_0f7a4 16 = .ok (.iconst 2, 1) := by decide +kernel
theorem dJ6_bitCount_0f7a4_17 : decode cJ6_bitCount_0f7a4 17 = .ok (.iushr, 1) := by decide +kernel
theorem dJ6_bitCount_0f7a4_18 : decode cJ6_bitCount_0f7a4 18 = .ok (.ldc_w 266, 3) := by decide +kernel
theorem dJ6_bitCount_0f7a4_21 : decode cJ6_bitCount_0f7a4 21 = .ok (.iand, 1) := by decide +kernel
theorem dJ6_bitCount_0f7a4_22 : decode cJ6_bitCount_0f7a4 22 = .ok (.iadd, 1) := by decide +kernel
theorem dJ6_bitCount_0f7a4_23 : decode cJ6_bitCount_0f7a4 23 = .ok (.istore_n 0, 1) := by decide +kernel
theorem dJ6_bitCount_0f7a4_24 : decode cJ6_bitCount_0f7a4 24 = .ok (.iload_n 0, 1) := by decide +kernel
theorem dJ6_bitCount_0f7a4_25 : decode cJ6_bitCount_0f7a4 25 = .ok (.iload_n 0, 1) := by decide +kernel
theorem dJ6_bitCount_0f7a4_26 : decode cJ6_bitCount_0f7a4 26 = .ok (.iconst 4, 1) := by decide +kernel
theorem dJ6_bitCount_0f7a4_27 : decode cJ6_bitCount_0f7a4 27 = .ok (.iushr, 1) := by decide +kernel
theorem dJ6_bitCount_0f7a4_28 : decode cJ6_bitCount_0f7a4 28 = .ok (.iadd, 1) := by decide +kernel
theorem dJ6_bitCount_0f7a4_29 : decode cJ6_bitCount_0f7a4 29 = .ok (.ldc_w 267, 3) := by decide +kernel
theorem dJ6_bitCount_0f7a4_32 : decode cJ6_bitCount_0f7a4 32 = .ok (.iand, 1) := by decide +kernel
theorem dJ6_bitCount_0f7a4_33 : decode cJ6_bitCount_0f7a4 33 = .ok (.istore_n 0, 1) := by decide +kernel
theorem dJ6_bitCount_0f7a4_34 : decode cJ6_bitCount_0f7a4 34 = .ok (.iload_n 0, 1) := by decide +kernel
theorem dJ6_bitCount_0f7a4_35 : decode cJ6_bitCount_0f7a4 35 = .ok (.iload_n 0, 1) := by decide +kernel
theorem dJ6_bitCount_0f7a4_36 : decode cJ6_bitCount_0f7a4 36 = .ok (.bipush 8, 2) := by decide +kernel
theorem dJ6_bitCount_0f7a4_38 : decode cJ6_bitCount_0f7a4 38 = .ok (.iushr, 1) := by decide +kernel
theorem dJ6_bitCount_0f7a4_39 : decode cJ6_bitCount_0f7a4 39 = .ok (.iadd, 1) := by decide +kernel
theorem dJ6_bitCount_0f7a4_40 : decode cJ6_bitCount_0f7a4 40 = .ok (.istore_n 0, 1) := by decide +kernel
theorem dJ6_bitCount_0f7a4_41 : decode cJ6_bitCount_0f7a4 41 = .ok (.iload_n 0, 1) := by decide +kernel
theorem dJ6_bitCount_0f7a4_42 : decode cJ6_bitCount_0f7a4 42 = .ok (.iload_n 0, 1) := by decide +kernel
theorem dJ6_bitCount_0f7a4_43 : decode cJ6_bitCount_0f7a4 43 = .ok (.bipush 16, 2) := by decide +kernel
theorem dJ6_bitCount_0f7a4_45 : decode cJ6_bitCount_0f7a4 45 = .ok (.iushr, 1) := by decide +kernel
theorem dJ6_bitCount_0f7a4_46 : decode cJ6_bitCount_0f7a4 46 = .ok (.iadd, 1) := by decide +kernel
theorem dJ6_bitCount_0f7a4_47 : decode cJ6_bitCount_0f7a4 47 = .ok (.istore_n 0, 1) := by decide +kernel
theorem dJ6_bitCount_0f7a4_48 : decode cJ6_bitCount_0f7a4 48 = .ok (.iload_n 0, 1) := by decide +kernel
theorem dJ6_bitCount_0f7a4_49 : decode cJ6_bitCount_0f7a4 49 = .ok (.bipush 63, 2) := by decide +kernel
theorem dJ6_bitCount_0f7a4_51 : decode cJ6_bitCount_0f7a4 51 = .ok (.iand, 1) := by decide +kernel
theorem dJ6_bitCount_0f7a4_52 : decode cJ6_bitCount_0f7a4 52 = .ok (.ireturn, 1) := by decide +kernel
theorem dJ9_abs_0f7a4_0 : decode cJ9_abs_0f7a4 0 = .ok (.iload_n 0, 1) := by decide +kernel
theorem dJ9_abs_0f7a4_1 : decode cJ9_abs_0f7a4 1 = .ok (.ifCond .ge 8, 3) := by decide +kernel
theorem dJ9_abs_0f7a4_4 : decode cJ9_abs_0f7a4 4 = .ok (.iload_n 0, 1) := by decide +kernel
theorem dJ9_abs_0f7a4_5 : decode cJ9_abs_0f7a4 5 = .ok (.ineg, 1) := by decide +kernel
theorem dJ9_abs_0f7a4_6 : decode cJ9_abs_0f7a4 6 = .ok (.goto 4, 3) := by decide +kernel
theorem dJ9_abs_0f7a4_9 : decode cJ9_abs_0f7a4 9 = .ok (.iload_n 0, 1) := by decide +kernel
theorem dJ9_abs_0f7a4_10 : decode cJ9_abs_0f7a4 10 = .ok (.ireturn, 1) := by decide +kernel
theorem dJ9_max_7cf53_0 : decode cJ9_max_7cf53 0 = .ok (.iload_n 0, 1) := by decide +kernel
theorem dJ9_max_7cf53_1 : decode cJ9_max_7cf53 1 = .ok (.iload_n 1, 1) := by decide +kernel
theorem dJ9_max_7cf53_2 : decode cJ9_max_7cf53 2 = .ok (.if_icmp .lt 7, 3) := by decide +kernel
theorem dJ9_max_7cf53_5 : decode cJ9_max_7cf53 5 = .ok (.iload_n 0, 1) := by decide +kernel
theorem dJ9_max_7cf53_6 : decode cJ9_max_7cf53 6 = .ok (.goto 4, 3) := by decide +kernel
theorem dJ9_max_7cf53_9 : decode cJ9_max_7cf53 9 = .ok (.iload_n 1, 1) := by decide +kernel
theorem dJ9_max_7cf53_10 : decode cJ9_max_7cf53 10 = .ok (.ireturn, 1) := by decide +kernel
theorem dJ9_max_f86c9_0 : decode cJ9_max_f86c9 0 = .ok (.lload_n 0, 1) := by decide +kernel
theorem dJ9_max_f86c9_1 : decode cJ9_max_f86c9 1 = .ok (.lload_n 2, 1) := by decide +kernel
theorem dJ9_max_f86c9_2 : decode cJ9_max_f86c9 2 = .ok (.lcmp, 1) := by decide +kernel
theorem dJ9_max_f86c9_3 : decode cJ9_max_f86c9 3 = .ok (.ifCond .lt 7, 3) := by decide +kernel
theorem dJ9_max_f86c9_6 : decode cJ9_max_f86c9 6 = .ok (.lload_n 0, 1) := by decide +kernel
theorem dJ9_max_f86c9_7 : decode cJ9_max_f86c9 7 = .ok (.goto 4, 3) := by decide +kernel
theorem dJ9_max_f86c9_10 : decode cJ9_max_f86c9 10 = .ok (.lload_n 2, 1) := by decide +kernel
theorem dJ9_max_f86c9_11 : decode cJ9_max_f86c9 11 = .ok (.lreturn, 1) := by decide +kernel
theorem dJ9_min_7cf53_0 : decode cJ9_min_7cf53 0 = .ok (.iload_n 0, 1) := by decide +kernel
theorem dJ9_min_7cf53_1 : decode cJ9_min_7cf53 1 = .ok (.iload_n 1, 1) := by decide +kernel
theorem dJ9_min_7cf53_2 : decode cJ9_min_7cf53 2 = .ok (.if_icmp .gt 7, 3) := by decide +kernel
theorem dJ9_min_7cf53_5 : decode cJ9_min_7cf53 5 = .ok (.iload_n 0, 1) := by decide +kernel
theorem dJ9_min_7cf53_6 : decode cJ9_min_7cf53 6 = .ok (.goto 4, 3) := by decide +kernel
theorem dJ9_min_7cf53_9 : decode cJ9_min_7cf53 9 = .ok (.iload_n 1, 1) := by decide +kernel
theorem dJ9_min_7cf53_10 : decode cJ9_min_7cf53 10 = .ok (.ireturn, 1) := by decide +kernel
theorem dJ9_min_f86c9_0 : decode cJ9_min_f86c9 0 = .ok (.lload_n 0, 1) := by decide +kernel
theorem dJ9_min_f86c9_1 : decode cJ9_min_f86c9 1 = .ok (.lload_n 2, 1) := by decide +kernel
theorem dJ9_min_f86c9_2 : decode cJ9_min_f86c9 2 = .ok (.lcmp, 1) := by decide +kernel
theorem dJ9_min_f86c9_3 : decode cJ9_min_f86c9 3 = .ok (.ifCond .gt 7, 3) := by decide +kernel
theorem dJ9_min_f86c9_6 : decode cJ9_min_f86c9 6 = .ok (.lload_n 0, 1) := by decide +kernel
theorem dJ9_min_f86c9_7 : decode cJ9_min_f86c9 7 = .ok (.goto 4, 3) := by decide +kernel
theorem dJ9_min_f86c9_10 : decode cJ9_min_f86c9 10 = .ok (.lload_n 2, 1) := by decide +kernel
theorem dJ9_min_f86c9_11 : decode cJ9_min_f86c9 11 = .ok (.lreturn, 1) := by decide +kernel
theorem dL_law_0 : decode cL_law 0 = .ok (.new 7, 3) := by decide +kernel
theorem dL_law_3 : decode cL_law 3 = .ok (.dup, 1) := by decide +kernel
theorem dL_law_4 : decode cL_law 4 = .ok (.invokespecial 9, 3) := by decide +kernel
theorem dL_law_7 : decode cL_law 7 = .ok (.astore_n 1, 1) := by decide +kernel
theorem dL_law_8 : decode cL_law 8 = .ok (.new 10, 3) := by decide +kernel
theorem dL_law_11 : decode cL_law 11 = .ok (.dup, 1) := by decide +kernel
theorem dL_law_12 : decode cL_law 12 = .ok (.invokespecial 12, 3) := by decide +kernel
theorem dL_law_15 : decode cL_law 15 = .ok (.astore_n 2, 1) := by decide +kernel
theorem dL_law_16 : decode cL_law 16 = .ok (.iconst 0, 1) := by decide +kernel
theorem dL_law_17 : decode cL_law 17 = .ok (.istore_n 3, 1) := by decide +kernel
theorem dL_law_18 : decode cL_law 18 = .ok (.iload_n 3, 1) := by decide +kernel
theorem dL_law_19 : decode cL_law 19 = .ok (.aload_n 0, 1) := by decide +kernel
theorem dL_law_20 : decode cL_law 20 = .ok (.arraylength, 1) := by decide +kernel
theorem dL_law_21 : decode cL_law 21 = .ok (.bipush 6, 2) := by decide +kernel
theorem dL_law_23 : decode cL_law 23 = .ok (.isub, 1) := by decide +kernel
theorem dL_law_24 : decode cL_law 24 = .ok (.if_icmp .gt 1076, 3) := by decide +kernel
theorem dL_law_27 : decode cL_law 27 = .ok (.aload_n 0, 1) := by decide +kernel
theorem dL_law_28 : decode cL_law 28 = .ok (.iload_n 3, 1) := by decide +kernel
theorem dL_law_29 : decode cL_law 29 = .ok (.iaload, 1) := by decide +kernel
theorem dL_law_30 : decode cL_law 30 = .ok (.bipush 31, 2) := by decide +kernel
theorem dL_law_32 : decode cL_law 32 = .ok (.iand, 1) := by decide +kernel
theorem dL_law_33 : decode cL_law 33 = .ok (.tableswitch 1061 0 31 #[143, 206, 219, 252, 285, 318, 351, 394, 407, 430, 453, 487, 521, 554, 587, 620, 653, 686, 719, 742, 791, 804, 828, 852, 876, 889, 922, 956, 979, 1002, 1025, 1038], 143) := by decide +kernel
theorem dL_law_176 : decode cL_law 176 = .ok (.aload_n 1, 1) := by decide +kernel
theorem dL_law_177 : decode cL_law 177 = .ok (.aload_n 0, 1) := by decide +kernel
theorem dL_law_178 : decode cL_law 178 = .ok (.iload_n 3, 1) := by decide +kernel
theorem dL_law_179 : decode cL_law 179 = .ok (.iconst 1, 1) := by decide +kernel
theorem dL_law_180 : decode cL_law 180 = .ok (.iadd, 1) := by decide +kernel
theorem dL_law_181 : decode cL_law 181 = .ok (.iaload, 1) := by decide +kernel
theorem dL_law_182 : decode cL_law 182 = .ok (.aload_n 0, 1) := by decide +kernel
theorem dL_law_183 : decode cL_law 183 = .ok (.iload_n 3, 1) := by decide +kernel
theorem dL_law_184 : decode cL_law 184 = .ok (.iconst 2, 1) := by decide +kernel
theorem dL_law_185 : decode cL_law 185 = .ok (.iadd, 1) := by decide +kernel
theorem dL_law_186 : decode cL_law 186 = .ok (.iaload, 1) := by decide +kernel
theorem dL_law_187 : decode cL_law 187 = .ok (.aload_n 0, 1) := by decide +kernel
theorem dL_law_188 : decode cL_law 188 = .ok (.iload_n 3, 1) := by decide +kernel
theorem dL_law_189 : decode cL_law 189 = .ok (.iconst 3, 1) := by decide +kernel
theorem dL_law_190 : decode cL_law 190 = .ok (.iadd, 1) := by decide +kernel
theorem dL_law_191 : decode cL_law 191 = .ok (.iaload, 1) := by decide +kernel
theorem dL_law_192 : decode cL_law 192 = .ok (.aload_n 0, 1) := by decide +kernel
theorem dL_law_193 : decode cL_law 193 = .ok (.iload_n 3, 1) := by decide +kernel
theorem dL_law_194 : decode cL_law 194 = .ok (.iconst 4, 1) := by decide +kernel
theorem dL_law_195 : decode cL_law 195 = .ok (.iadd, 1) := by decide +kernel
theorem dL_law_196 : decode cL_law 196 = .ok (.iaload, 1) := by decide +kernel
theorem dL_law_197 : decode cL_law 197 = .ok (.aload_n 0, 1) := by decide +kernel
theorem dL_law_198 : decode cL_law 198 = .ok (.iload_n 3, 1) := by decide +kernel
theorem dL_law_199 : decode cL_law 199 = .ok (.iconst 5, 1) := by decide +kernel
theorem dL_law_200 : decode cL_law 200 = .ok (.iadd, 1) := by decide +kernel
theorem dL_law_201 : decode cL_law 201 = .ok (.iaload, 1) := by decide +kernel
theorem dL_law_202 : decode cL_law 202 = .ok (.invokevirtual 13, 3) := by decide +kernel
theorem dL_law_205 : decode cL_law 205 = .ok (.aload_n 2, 1) := by decide +kernel
theorem dL_law_206 : decode cL_law 206 = .ok (.aload_n 0, 1) := by decide +kernel
theorem dL_law_207 : decode cL_law 207 = .ok (.iload_n 3, 1) := by decide +kernel
theorem dL_law_208 : decode cL_law 208 = .ok (.iconst 1, 1) := by decide +kernel
theorem dL_law_209 : decode cL_law 209 = .ok (.iadd, 1) := by decide +kernel
theorem dL_law_210 : decode cL_law 210 = .ok (.iaload, 1) := by decide +kernel
theorem dL_law_211 : decode cL_law 211 = .ok (.aload_n 0, 1) := by decide +kernel
theorem dL_law_212 : decode cL_law 212 = .ok (.iload_n 3, 1) := by decide +kernel
theorem dL_law_213 : decode cL_law 213 = .ok (.iconst 2, 1) := by decide +kernel
theorem dL_law_214 : decode cL_law 214 = .ok (.iadd, 1) := by decide +kernel
theorem dL_law_215 : decode cL_law 215 = .ok (.iaload, 1) := by decide +kernel
theorem dL_law_216 : decode cL_law 216 = .ok (.aload_n 0, 1) := by decide +kernel
theorem dL_law_217 : decode cL_law 217 = .ok (.iload_n 3, 1) := by decide +kernel
theorem dL_law_218 : decode cL_law 218 = .ok (.iconst 3, 1) := by decide +kernel
theorem dL_law_219 : decode cL_law 219 = .ok (.iadd, 1) := by decide +kernel
theorem dL_law_220 : decode cL_law 220 = .ok (.iaload, 1) := by decide +kernel
theorem dL_law_221 : decode cL_law 221 = .ok (.aload_n 0, 1) := by decide +kernel
theorem dL_law_222 : decode cL_law 222 = .ok (.iload_n 3, 1) := by decide +kernel
theorem dL_law_223 : decode cL_law 223 = .ok (.iconst 4, 1) := by decide +kernel
theorem dL_law_224 : decode cL_law 224 = .ok (.iadd, 1) := by decide +kernel
theorem dL_law_225 : decode cL_law 225 = .ok (.iaload, 1) := by decide +kernel
theorem dL_law_226 : decode cL_law 226 = .ok (.aload_n 0, 1) := by decide +kernel
theorem dL_law_227 : decode cL_law 227 = .ok (.iload_n 3, 1) := by decide +kernel
theorem dL_law_228 : decode cL_law 228 = .ok (.iconst 5, 1) := by decide +kernel
theorem dL_law_229 : decode cL_law 229 = .ok (.iadd, 1) := by decide +kernel
theorem dL_law_230 : decode cL_law 230 = .ok (.iaload, 1) := by decide +kernel
theorem dL_law_231 : decode cL_law 231 = .ok (.invokevirtual 17, 3) := by decide +kernel
theorem dL_law_234 : decode cL_law 234 = .ok (.if_icmp .eq 860, 3) := by decide +kernel
theorem dL_law_237 : decode cL_law 237 = .ok (.iconst 0, 1) := by decide +kernel
theorem dL_law_238 : decode cL_law 238 = .ok (.ireturn, 1) := by decide +kernel
theorem dL_law_239 : decode cL_law 239 = .ok (.aload_n 1, 1) := by decide +kernel
theorem dL_law_240 : decode cL_law 240 = .ok (.invokevirtual 18, 3) := by decide +kernel
theorem dL_law_243 : decode cL_law 243 = .ok (.aload_n 2, 1) := by decide +kernel
theorem dL_law_244 : decode cL_law 244 = .ok (.invokevirtual 22, 3) := by decide +kernel
theorem dL_law_247 : decode cL_law 247 = .ok (.if_icmp .eq 847, 3) := by decide +kernel
theorem dL_law_250 : decode cL_law 250 = .ok (.iconst 0, 1) := by decide +kernel
theorem dL_law_251 : decode cL_law 251 = .ok (.ireturn, 1) := by decide +kernel
theorem dL_law_252 : decode cL_law 252 = .ok (.aload_n 1, 1) := by decide +kernel
theorem dL_law_253 : decode cL_law 253 = .ok (.aload_n 0, 1) := by decide +kernel
theorem dL_law_254 : decode cL_law 254 = .ok (.iload_n 3, 1) := by decide +kernel
theorem dL_law_255 : decode cL_law 255 = .ok (.iconst 1, 1) := by decide +kernel
theorem dL_law_256 : decode cL_law 256 = .ok (.iadd, 1) := by decide +kernel
theorem dL_law_257 : decode cL_law 257 = .ok (.iaload, 1) := by decide +kernel
theorem dL_law_258 : decode cL_law 258 = .ok (.aload_n 0, 1) := by decide +kernel
theorem dL_law_259 : decode cL_law 259 = .ok (.iload_n 3, 1) := by decide +kernel
theorem dL_law_260 : decode cL_law 260 = .ok (.iconst 2, 1) := by decide +kernel
theorem dL_law_261 : decode cL_law 261 = .ok (.iadd, 1) := by decide +kernel
theorem dL_law_262 : decode cL_law 262 = .ok (.iaload, 1) := by decide +kernel
theorem dL_law_263 : decode cL_law 263 = .ok (.invokevirtual 23, 3) := by decide +kernel
theorem dL_law_266 : decode cL_law 266 = .ok (.aload_n 2, 1) := by decide +kernel
theorem dL_law_267 : decode cL_law 267 = .ok (.aload_n 0, 1) := by decide +kernel
theorem dL_law_268 : decode cL_law 268 = .ok (.iload_n 3, 1) := by decide +kernel
theorem dL_law_269 : decode cL_law 269 = .ok (.iconst 1, 1) := by decide +kernel
theorem dL_law_270 : decode cL_law 270 = .ok (.iadd, 1) := by decide +kernel
theorem dL_law_271 : decode cL_law 271 = .ok (.iaload, 1) := by decide +kernel
theorem dL_law_272 : decode cL_law 272 = .ok (.aload_n 0, 1) := by decide +kernel
theorem dL_law_273 : decode cL_law 273 = .ok (.iload_n 3, 1) := by decide +kernel
theorem dL_law_274 : decode cL_law 274 = .ok (.iconst 2, 1) := by decide +kernel
theorem dL_law_275 : decode cL_law 275 = .ok (.iadd, 1) := by decide +kernel
theorem dL_law_276 : decode cL_law 276 = .ok (.iaload, 1) := by decide +kernel
theorem dL_law_277 : decode cL_law 277 = .ok (.invokevirtual 27, 3) := by decide +kernel
theorem dL_law_280 : decode cL_law 280 = .ok (.if_icmp .eq 814, 3) := by decide +kernel
theorem dL_law_283 : decode cL_law 283 = .ok (.iconst 0, 1) := by decide +kernel
theorem dL_law_284 : decode cL_law 284 = .ok (.ireturn, 1) := by decide +kernel
theorem dL_law_285 : decode cL_law 285 = .ok (.aload_n 1, 1) := by decide +kernel
theorem dL_law_286 : decode cL_law 286 = .ok (.aload_n 0, 1) := by decide +kernel
theorem dL_law_287 : decode cL_law 287 = .ok (.iload_n 3, 1) := by decide +kernel
theorem dL_law_288 : decode cL_law 288 = .ok (.iconst 1, 1) := by decide +kernel
theorem dL_law_289 : decode cL_law 289 = .ok (.iadd, 1) := by decide +kernel
theorem dL_law_290 : decode cL_law 290 = .ok (.iaload, 1) := by decide +kernel
theorem dL_law_291 : decode cL_law 291 = .ok (.aload_n 0, 1) := by decide +kernel
theorem dL_law_292 : decode cL_law 292 = .ok (.iload_n 3, 1) := by decide +kernel
theorem dL_law_293 : decode cL_law 293 = .ok (.iconst 2, 1) := by decide +kernel
theorem dL_law_294 : decode cL_law 294 = .ok (.iadd, 1) := by decide +kernel
theorem dL_law_295 : decode cL_law 295 = .ok (.iaload, 1) := by decide +kernel
theorem dL_law_296 : decode cL_law 296 = .ok (.invokevirtual 28, 3) := by decide +kernel
theorem dL_law_299 : decode cL_law 299 = .ok (.aload_n 2, 1) := by decide +kernel
theorem dL_law_300 : decode cL_law 300 = .ok (.aload_n 0, 1) := by decide +kernel
theorem dL_law_301 : decode cL_law 301 = .ok (.iload_n 3, 1) := by decide +kernel
theorem dL_law_302 : decode cL_law 302 = .ok (.iconst 1, 1) := by decide +kernel
theorem dL_law_303 : decode cL_law 303 = .ok (.iadd, 1) := by decide +kernel
theorem dL_law_304 : decode cL_law 304 = .ok (.iaload, 1) := by decide +kernel
theorem dL_law_305 : decode cL_law 305 = .ok (.aload_n 0, 1) := by decide +kernel
theorem dL_law_306 : decode cL_law 306 = .ok (.iload_n 3, 1) := by decide +kernel
theorem dL_law_307 : decode cL_law 307 = .ok (.iconst 2, 1) := by decide +kernel
theorem dL_law_308 : decode cL_law 308 = .ok (.iadd, 1) := by decide +kernel
theorem dL_law_309 : decode cL_law 309 = .ok (.iaload, 1) := by decide +kernel
theorem dL_law_310 : decode cL_law 310 = .ok (.invokevirtual 31, 3) := by decide +kernel
theorem dL_law_313 : decode cL_law 313 = .ok (.if_icmp .eq 781, 3) := by decide +kernel
theorem dL_law_316 : decode cL_law 316 = .ok (.iconst 0, 1) := by decide +kernel
theorem dL_law_317 : decode cL_law 317 = .ok (.ireturn, 1) := by decide +kernel
theorem dL_law_318 : decode cL_law 318 = .ok (.aload_n 1, 1) := by decide +kernel
theorem dL_law_319 : decode cL_law 319 = .ok (.aload_n 0, 1) := by decide +kernel
theorem dL_law_320 : decode cL_law 320 = .ok (.iload_n 3, 1) := by decide +kernel
theorem dL_law_321 : decode cL_law 321 = .ok (.iconst 1, 1) := by decide +kernel
theorem dL_law_322 : decode cL_law 322 = .ok (.iadd, 1) := by decide +kernel
theorem dL_law_323 : decode cL_law 323 = .ok (.iaload, 1) := by decide +kernel
theorem dL_law_324 : decode cL_law 324 = .ok (.aload_n 0, 1) := by decide +kernel
theorem dL_law_325 : decode cL_law 325 = .ok (.iload_n 3, 1) := by decide +kernel
theorem dL_law_326 : decode cL_law 326 = .ok (.iconst 2, 1) := by decide +kernel
theorem dL_law_327 : decode cL_law 327 = .ok (.iadd, 1) := by decide +kernel
theorem dL_law_328 : decode cL_law 328 = .ok (.iaload, 1) := by decide +kernel
theorem dL_law_329 : decode cL_law 329 = .ok (.invokevirtual 32, 3) := by decide +kernel
theorem dL_law_332 : decode cL_law 332 = .ok (.aload_n 2, 1) := by decide +kernel
theorem dL_law_333 : decode cL_law 333 = .ok (.aload_n 0, 1) := by decide +kernel
theorem dL_law_334 : decode cL_law 334 = .ok (.iload_n 3, 1) := by decide +kernel
theorem dL_law_335 : decode cL_law 335 = .ok (.iconst 1, 1) := by decide +kernel
theorem dL_law_336 : decode cL_law 336 = .ok (.iadd, 1) := by decide +kernel
theorem dL_law_337 : decode cL_law 337 = .ok (.iaload, 1) := by decide +kernel
theorem dL_law_338 : decode cL_law 338 = .ok (.aload_n 0, 1) := by decide +kernel
theorem dL_law_339 : decode cL_law 339 = .ok (.iload_n 3, 1) := by decide +kernel
theorem dL_law_340 : decode cL_law 340 = .ok (.iconst 2, 1) := by decide +kernel
theorem dL_law_341 : decode cL_law 341 = .ok (.iadd, 1) := by decide +kernel
theorem dL_law_342 : decode cL_law 342 = .ok (.iaload, 1) := by decide +kernel
theorem dL_law_343 : decode cL_law 343 = .ok (.invokevirtual 35, 3) := by decide +kernel
theorem dL_law_346 : decode cL_law 346 = .ok (.if_icmp .eq 748, 3) := by decide +kernel
theorem dL_law_349 : decode cL_law 349 = .ok (.iconst 0, 1) := by decide +kernel
theorem dL_law_350 : decode cL_law 350 = .ok (.ireturn, 1) := by decide +kernel
theorem dL_law_351 : decode cL_law 351 = .ok (.aload_n 1, 1) := by decide +kernel
theorem dL_law_352 : decode cL_law 352 = .ok (.aload_n 0, 1) := by decide +kernel
theorem dL_law_353 : decode cL_law 353 = .ok (.iload_n 3, 1) := by decide +kernel
theorem dL_law_354 : decode cL_law 354 = .ok (.iconst 1, 1) := by decide +kernel
theorem dL_law_355 : decode cL_law 355 = .ok (.iadd, 1) := by decide +kernel
theorem dL_law_356 : decode cL_law 356 = .ok (.iaload, 1) := by decide +kernel
theorem dL_law_357 : decode cL_law 357 = .ok (.aload_n 0, 1) := by decide +kernel
theorem dL_law_358 : decode cL_law 358 = .ok (.iload_n 3, 1) := by decide +kernel
theorem dL_law_359 : decode cL_law 359 = .ok (.iconst 2, 1) := by decide +kernel
theorem dL_law_360 : decode cL_law 360 = .ok (.iadd, 1) := by decide +kernel
theorem dL_law_361 : decode cL_law 361 = .ok (.iaload, 1) := by decide +kernel
theorem dL_law_362 : decode cL_law 362 = .ok (.invokevirtual 36, 3) := by decide +kernel
theorem dL_law_365 : decode cL_law 365 = .ok (.aload_n 2, 1) := by decide +kernel
theorem dL_law_366 : decode cL_law 366 = .ok (.aload_n 0, 1) := by decide +kernel
theorem dL_law_367 : decode cL_law 367 = .ok (.iload_n 3, 1) := by decide +kernel
theorem dL_law_368 : decode cL_law 368 = .ok (.iconst 1, 1) := by decide +kernel
theorem dL_law_369 : decode cL_law 369 = .ok (.iadd, 1) := by decide +kernel
theorem dL_law_370 : decode cL_law 370 = .ok (.iaload, 1) := by decide +kernel
theorem dL_law_371 : decode cL_law 371 = .ok (.aload_n 0, 1) := by decide +kernel
theorem dL_law_372 : decode cL_law 372 = .ok (.iload_n 3, 1) := by decide +kernel
theorem dL_law_373 : decode cL_law 373 = .ok (.iconst 2, 1) := by decide +kernel
theorem dL_law_374 : decode cL_law 374 = .ok (.iadd, 1) := by decide +kernel
theorem dL_law_375 : decode cL_law 375 = .ok (.iaload, 1) := by decide +kernel
theorem dL_law_376 : decode cL_law 376 = .ok (.invokevirtual 39, 3) := by decide +kernel
theorem dL_law_379 : decode cL_law 379 = .ok (.if_icmp .eq 715, 3) := by decide +kernel
theorem dL_law_382 : decode cL_law 382 = .ok (.iconst 0, 1) := by decide +kernel
theorem dL_law_383 : decode cL_law 383 = .ok (.ireturn, 1) := by decide +kernel
theorem dL_law_384 : decode cL_law 384 = .ok (.aload_n 1, 1) := by decide +kernel
theorem dL_law_385 : decode cL_law 385 = .ok (.aload_n 0, 1) := by decide +kernel
theorem dL_law_386 : decode cL_law 386 = .ok (.iload_n 3, 1) := by decide +kernel
theorem dL_law_387 : decode cL_law 387 = .ok (.iconst 1, 1) := by decide +kernel
theorem dL_law_388 : decode cL_law 388 = .ok (.iadd, 1) := by decide +kernel
theorem dL_law_389 : decode cL_law 389 = .ok (.iaload, 1) := by decide +kernel
theorem dL_law_390 : decode cL_law 390 = .ok (.aload_n 0, 1) := by decide +kernel
theorem dL_law_391 : decode cL_law 391 = .ok (.iload_n 3, 1) := by decide +kernel
theorem dL_law_392 : decode cL_law 392 = .ok (.iconst 2, 1) := by decide +kernel
theorem dL_law_393 : decode cL_law 393 = .ok (.iadd, 1) := by decide +kernel
theorem dL_law_394 : decode cL_law 394 = .ok (.iaload, 1) := by decide +kernel
theorem dL_law_395 : decode cL_law 395 = .ok (.aload_n 0, 1) := by decide +kernel
theorem dL_law_396 : decode cL_law 396 = .ok (.iload_n 3, 1) := by decide +kernel
theorem dL_law_397 : decode cL_law 397 = .ok (.iconst 3, 1) := by decide +kernel
theorem dL_law_398 : decode cL_law 398 = .ok (.iadd, 1) := by decide +kernel
theorem dL_law_399 : decode cL_law 399 = .ok (.iaload, 1) := by decide +kernel
theorem dL_law_400 : decode cL_law 400 = .ok (.invokevirtual 40, 3) := by decide +kernel
theorem dL_law_403 : decode cL_law 403 = .ok (.aload_n 2, 1) := by decide +kernel
theorem dL_law_404 : decode cL_law 404 = .ok (.aload_n 0, 1) := by decide +kernel
theorem dL_law_405 : decode cL_law 405 = .ok (.iload_n 3, 1) := by decide +kernel
theorem dL_law_406 : decode cL_law 406 = .ok (.iconst 1, 1) := by decide +kernel
theorem dL_law_407 : decode cL_law 407 = .ok (.iadd, 1) := by decide +kernel
theorem dL_law_408 : decode cL_law 408 = .ok (.iaload, 1) := by decide +kernel
theorem dL_law_409 : decode cL_law 409 = .ok (.aload_n 0, 1) := by decide +kernel
theorem dL_law_410 : decode cL_law 410 = .ok (.iload_n 3, 1) := by decide +kernel
theorem dL_law_411 : decode cL_law 411 = .ok (.iconst 2, 1) := by decide +kernel
theorem dL_law_412 : decode cL_law 412 = .ok (.iadd, 1) := by decide +kernel
theorem dL_law_413 : decode cL_law 413 = .ok (.iaload, 1) := by decide +kernel
theorem dL_law_414 : decode cL_law 414 = .ok (.aload_n 0, 1) := by decide +kernel
theorem dL_law_415 : decode cL_law 415 = .ok (.iload_n 3, 1) := by decide +kernel
theorem dL_law_416 : decode cL_law 416 = .ok (.iconst 3, 1) := by decide +kernel
theorem dL_law_417 : decode cL_law 417 = .ok (.iadd, 1) := by decide +kernel
theorem dL_law_418 : decode cL_law 418 = .ok (.iaload, 1) := by decide +kernel
theorem dL_law_419 : decode cL_law 419 = .ok (.invokevirtual 44, 3) := by decide +kernel
theorem dL_law_422 : decode cL_law 422 = .ok (.if_icmp .eq 672, 3) := by decide +kernel
theorem dL_law_425 : decode cL_law 425 = .ok (.iconst 0, 1) := by decide +kernel
theorem dL_law_426 : decode cL_law 426 = .ok (.ireturn, 1) := by decide +kernel
theorem dL_law_427 : decode cL_law 427 = .ok (.aload_n 1, 1) := by decide +kernel
theorem dL_law_428 : decode cL_law 428 = .ok (.invokevirtual 45, 3) := by decide +kernel
theorem dL_law_431 : decode cL_law 431 = .ok (.aload_n 2, 1) := by decide +kernel
theorem dL_law_432 : decode cL_law 432 = .ok (.invokevirtual 48, 3) := by decide +kernel
theorem dL_law_435 : decode cL_law 435 = .ok (.if_icmp .eq 659, 3) := by decide +kernel
theorem dL_law_438 : decode cL_law 438 = .ok (.iconst 0, 1) := by decide +kernel
theorem dL_law_439 : decode cL_law 439 = .ok (.ireturn, 1) := by decide +kernel
theorem dL_law_440 : decode cL_law 440 = .ok (.aload_n 1, 1) := by decide +kernel
theorem dL_law_441 : decode cL_law 441 = .ok (.aload_n 0, 1) := by decide +kernel
theorem dL_law_442 : decode cL_law 442 = .ok (.iload_n 3, 1) := by decide +kernel
theorem dL_law_443 : decode cL_law 443 = .ok (.iconst 1, 1) := by decide +kernel
theorem dL_law_444 : decode cL_law 444 = .ok (.iadd, 1) := by decide +kernel
theorem dL_law_445 : decode cL_law 445 = .ok (.iaload, 1) := by decide +kernel
theorem dL_law_446 : decode cL_law 446 = .ok (.invokevirtual 49, 3) := by decide +kernel
theorem dL_law_449 : decode cL_law 449 = .ok (.aload_n 2, 1) := by decide +kernel
theorem dL_law_450 : decode cL_law 450 = .ok (.aload_n 0, 1) := by decide +kernel
theorem dL_law_451 : decode cL_law 451 = .ok (.iload_n 3, 1) := by decide +kernel
theorem dL_law_452 : decode cL_law 452 = .ok (.iconst 1, 1) := by decide +kernel
theorem dL_law_453 : decode cL_law 453 = .ok (.iadd, 1) := by decide +kernel
theorem dL_law_454 : decode cL_law 454 = .ok (.iaload, 1) := by decide +kernel
theorem dL_law_455 : decode cL_law 455 = .ok (.invokevirtual 53, 3) := by decide +kernel
theorem dL_law_458 : decode cL_law 458 = .ok (.if_icmp .eq 636, 3) := by decide +kernel
theorem dL_law_461 : decode cL_law 461 = .ok (.iconst 0, 1) := by decide +kernel
theorem dL_law_462 : decode cL_law 462 = .ok (.ireturn, 1) := by decide +kernel
theorem dL_law_463 : decode cL_law 463 = .ok (.aload_n 1, 1) := by decide +kernel
theorem dL_law_464 : decode cL_law 464 = .ok (.aload_n 0, 1) := by decide +kernel
theorem dL_law_465 : decode cL_law 465 = .ok (.iload_n 3, 1) := by decide +kernel
theorem dL_law_466 : decode cL_law 466 = .ok (.iconst 1, 1) := by decide +kernel
theorem dL_law_467 : decode cL_law 467 = .ok (.iadd, 1) := by decide +kernel
theorem dL_law_468 : decode cL_law 468 = .ok (.iaload, 1) := by decide +kernel
theorem dL_law_469 : decode cL_law 469 = .ok (.invokevirtual 54, 3) := by decide +kernel
theorem dL_law_472 : decode cL_law 472 = .ok (.aload_n 2, 1) := by decide +kernel
theorem dL_law_473 : decode cL_law 473 = .ok (.aload_n 0, 1) := by decide +kernel
theorem dL_law_474 : decode cL_law 474 = .ok (.iload_n 3, 1) := by decide +kernel
theorem dL_law_475 : decode cL_law 475 = .ok (.iconst 1, 1) := by decide +kernel
theorem dL_law_476 : decode cL_law 476 = .ok (.iadd, 1) := by decide +kernel
theorem dL_law_477 : decode cL_law 477 = .ok (.iaload, 1) := by decide +kernel
theorem dL_law_478 : decode cL_law 478 = .ok (.invokevirtual 57, 3) := by decide +kernel
theorem dL_law_481 : decode cL_law 481 = .ok (.if_icmp .eq 613, 3) := by decide +kernel
theorem dL_law_484 : decode cL_law 484 = .ok (.iconst 0, 1) := by decide +kernel
theorem dL_law_485 : decode cL_law 485 = .ok (.ireturn, 1) := by decide +kernel
theorem dL_law_486 : decode cL_law 486 = .ok (.aload_n 1, 1) := by decide +kernel
theorem dL_law_487 : decode cL_law 487 = .ok (.aload_n 0, 1) := by decide +kernel
theorem dL_law_488 : decode cL_law 488 = .ok (.iload_n 3, 1) := by decide +kernel
theorem dL_law_489 : decode cL_law 489 = .ok (.iconst 1, 1) := by decide +kernel
theorem dL_law_490 : decode cL_law 490 = .ok (.iadd, 1) := by decide +kernel
theorem dL_law_491 : decode cL_law 491 = .ok (.iaload, 1) := by decide +kernel
theorem dL_law_492 : decode cL_law 492 = .ok (.aload_n 0, 1) := by decide +kernel
theorem dL_law_493 : decode cL_law 493 = .ok (.iload_n 3, 1) := by decide +kernel
theorem dL_law_494 : decode cL_law 494 = .ok (.iconst 2, 1) := by decide +kernel
theorem dL_law_495 : decode cL_law 495 = .ok (.iadd, 1) := by decide +kernel
theorem dL_law_496 : decode cL_law 496 = .ok (.iaload, 1) := by decide +kernel
theorem dL_law_497 : decode cL_law 497 = .ok (.invokevirtual 58, 3) := by decide +kernel
theorem dL_law_500 : decode cL_law 500 = .ok (.aload_n 2, 1) := by decide +kernel
theorem dL_law_501 : decode cL_law 501 = .ok (.aload_n 0, 1) := by decide +kernel
theorem dL_law_502 : decode cL_law 502 = .ok (.iload_n 3, 1) := by decide +kernel
theorem dL_law_503 : decode cL_law 503 = .ok (.iconst 1, 1) := by decide +kernel
theorem dL_law_504 : decode cL_law 504 = .ok (.iadd, 1) := by decide +kernel
theorem dL_law_505 : decode cL_law 505 = .ok (.iaload, 1) := by decide +kernel
theorem dL_law_506 : decode cL_law 506 = .ok (.aload_n 0, 1) := by decide +kernel
theorem dL_law_507 : decode cL_law 507 = .ok (.iload_n 3, 1) := by decide +kernel
theorem dL_law_508 : decode cL_law 508 = .ok (.iconst 2, 1) := by decide +kernel
theorem dL_law_509 : decode cL_law 509 = .ok (.iadd, 1) := by decide +kernel
theorem dL_law_510 : decode cL_law 510 = .ok (.iaload, 1) := by decide +kernel
theorem dL_law_511 : decode cL_law 511 = .ok (.invokevirtual 62, 3) := by decide +kernel
theorem dL_law_514 : decode cL_law 514 = .ok (.lcmp, 1) := by decide +kernel
theorem dL_law_515 : decode cL_law 515 = .ok (.ifCond .eq 579, 3) := by decide +kernel
theorem dL_law_518 : decode cL_law 518 = .ok (.iconst 0, 1) := by decide +kernel
theorem dL_law_519 : decode cL_law 519 = .ok (.ireturn, 1) := by decide +kernel
theorem dL_law_520 : decode cL_law 520 = .ok (.aload_n 1, 1) := by decide +kernel
theorem dL_law_521 : decode cL_law 521 = .ok (.aload_n 0, 1) := by decide +kernel
theorem dL_law_522 : decode cL_law 522 = .ok (.iload_n 3, 1) := by decide +kernel
theorem dL_law_523 : decode cL_law 523 = .ok (.iconst 1, 1) := by decide +kernel
theorem dL_law_524 : decode cL_law 524 = .ok (.iadd, 1) := by decide +kernel
theorem dL_law_525 : decode cL_law 525 = .ok (.iaload, 1) := by decide +kernel
theorem dL_law_526 : decode cL_law 526 = .ok (.aload_n 0, 1) := by decide +kernel
theorem dL_law_527 : decode cL_law 527 = .ok (.iload_n 3, 1) := by decide +kernel
theorem dL_law_528 : decode cL_law 528 = .ok (.iconst 2, 1) := by decide +kernel
theorem dL_law_529 : decode cL_law 529 = .ok (.iadd, 1) := by decide +kernel
theorem dL_law_530 : decode cL_law 530 = .ok (.iaload, 1) := by decide +kernel
theorem dL_law_531 : decode cL_law 531 = .ok (.invokevirtual 63, 3) := by decide +kernel
theorem dL_law_534 : decode cL_law 534 = .ok (.aload_n 2, 1) := by decide +kernel
theorem dL_law_535 : decode cL_law 535 = .ok (.aload_n 0, 1) := by decide +kernel
theorem dL_law_536 : decode cL_law 536 = .ok (.iload_n 3, 1) := by decide +kernel
theorem dL_law_537 : decode cL_law 537 = .ok (.iconst 1, 1) := by decide +kernel
theorem dL_law_538 : decode cL_law 538 = .ok (.iadd, 1) := by decide +kernel
theorem dL_law_539 : decode cL_law 539 = .ok (.iaload, 1) := by decide +kernel
theorem dL_law_540 : decode cL_law 540 = .ok (.aload_n 0, 1) := by decide +kernel
theorem dL_law_541 : decode cL_law 541 = .ok (.iload_n 3, 1) := by decide +kernel
theorem dL_law_542 : decode cL_law 542 = .ok (.iconst 2, 1) := by decide +kernel
theorem dL_law_543 : decode cL_law 543 = .ok (.iadd, 1) := by decide +kernel
theorem dL_law_544 : decode cL_law 544 = .ok (.iaload, 1) := by decide +kernel
theorem dL_law_545 : decode cL_law 545 = .ok (.invokevirtual 66, 3) := by decide +kernel
theorem dL_law_548 : decode cL_law 548 = .ok (.lcmp, 1) := by decide +kernel
theorem dL_law_549 : decode cL_law 549 = .ok (.ifCond .eq 545, 3) := by decide +kernel
theorem dL_law_552 : decode cL_law 552 = .ok (.iconst 0, 1) := by decide +kernel
theorem dL_law_553 : decode cL_law 553 = .ok (.ireturn, 1) := by decide +kernel
theorem dL_law_554 : decode cL_law 554 = .ok (.aload_n 1, 1) := by decide +kernel
theorem dL_law_555 : decode cL_law 555 = .ok (.aload_n 0, 1) := by decide +kernel
theorem dL_law_556 : decode cL_law 556 = .ok (.iload_n 3, 1) := by decide +kernel
theorem dL_law_557 : decode cL_law 557 = .ok (.iconst 1, 1) := by decide +kernel
theorem dL_law_558 : decode cL_law 558 = .ok (.iadd, 1) := by decide +kernel
theorem dL_law_559 : decode cL_law 559 = .ok (.iaload, 1) := by decide +kernel
theorem dL_law_560 : decode cL_law 560 = .ok (.aload_n 0, 1) := by decide +kernel
theorem dL_law_561 : decode cL_law 561 = .ok (.iload_n 3, 1) := by decide +kernel
theorem dL_law_562 : decode cL_law 562 = .ok (.iconst 2, 1) := by decide +kernel
theorem dL_law_563 : decode cL_law 563 = .ok (.iadd, 1) := by decide +kernel
theorem dL_law_564 : decode cL_law 564 = .ok (.iaload, 1) := by decide +kernel
theorem dL_law_565 : decode cL_law 565 = .ok (.invokevirtual 67, 3) := by decide +kernel
theorem dL_law_568 : decode cL_law 568 = .ok (.aload_n 2, 1) := by decide +kernel
theorem dL_law_569 : decode cL_law 569 = .ok (.aload_n 0, 1) := by decide +kernel
theorem dL_law_570 : decode cL_law 570 = .ok (.iload_n 3, 1) := by decide +kernel
theorem dL_law_571 : decode cL_law 571 = .ok (.iconst 1, 1) := by decide +kernel
theorem dL_law_572 : decode cL_law 572 = .ok (.iadd, 1) := by decide +kernel
theorem dL_law_573 : decode cL_law 573 = .ok (.iaload, 1) := by decide +kernel
theorem dL_law_574 : decode cL_law 574 = .ok (.aload_n 0, 1) := by decide +kernel
theorem dL_law_575 : decode cL_law 575 = .ok (.iload_n 3, 1) := by decide +kernel
theorem dL_law_576 : decode cL_law 576 = .ok (.iconst 2, 1) := by decide +kernel
theorem dL_law_577 : decode cL_law 577 = .ok (.iadd, 1) := by decide +kernel
theorem dL_law_578 : decode cL_law 578 = .ok (.iaload, 1) := by decide +kernel
theorem dL_law_579 : decode cL_law 579 = .ok (.invokevirtual 70, 3) := by decide +kernel
theorem dL_law_582 : decode cL_law 582 = .ok (.if_icmp .eq 512, 3) := by decide +kernel
theorem dL_law_585 : decode cL_law 585 = .ok (.iconst 0, 1) := by decide +kernel
theorem dL_law_586 : decode cL_law 586 = .ok (.ireturn, 1) := by decide +kernel
theorem dL_law_587 : decode cL_law 587 = .ok (.aload_n 1, 1) := by decide +kernel
theorem dL_law_588 : decode cL_law 588 = .ok (.aload_n 0, 1) := by decide +kernel
theorem dL_law_589 : decode cL_law 589 = .ok (.iload_n 3, 1) := by decide +kernel
theorem dL_law_590 : decode cL_law 590 = .ok (.iconst 1, 1) := by decide +kernel
theorem dL_law_591 : decode cL_law 591 = .ok (.iadd, 1) := by decide +kernel
theorem dL_law_592 : decode cL_law 592 = .ok (.iaload, 1) := by decide +kernel
theorem dL_law_593 : decode cL_law 593 = .ok (.aload_n 0, 1) := by decide +kernel
theorem dL_law_594 : decode cL_law 594 = .ok (.iload_n 3, 1) := by decide +kernel
theorem dL_law_595 : decode cL_law 595 = .ok (.iconst 2, 1) := by decide +kernel
theorem dL_law_596 : decode cL_law 596 = .ok (.iadd, 1) := by decide +kernel
theorem dL_law_597 : decode cL_law 597 = .ok (.iaload, 1) := by decide +kernel
theorem dL_law_598 : decode cL_law 598 = .ok (.invokevirtual 71, 3) := by decide +kernel
theorem dL_law_601 : decode cL_law 601 = .ok (.aload_n 2, 1) := by decide +kernel
theorem dL_law_602 : decode cL_law 602 = .ok (.aload_n 0, 1) := by decide +kernel
theorem dL_law_603 : decode cL_law 603 = .ok (.iload_n 3, 1) := by decide +kernel
theorem dL_law_604 : decode cL_law 604 = .ok (.iconst 1, 1) := by decide +kernel
theorem dL_law_605 : decode cL_law 605 = .ok (.iadd, 1) := by decide +kernel
theorem dL_law_606 : decode cL_law 606 = .ok (.iaload, 1) := by decide +kernel
theorem dL_law_607 : decode cL_law 607 = .ok (.aload_n 0, 1) := by decide +kernel
theorem dL_law_608 : decode cL_law 608 = .ok (.iload_n 3, 1) := by decide +kernel
theorem dL_law_609 : decode cL_law 609 = .ok (.iconst 2, 1) := by decide +kernel
theorem dL_law_610 : decode cL_law 610 = .ok (.iadd, 1) := by decide +kernel
theorem dL_law_611 : decode cL_law 611 = .ok (.iaload, 1) := by decide +kernel
theorem dL_law_612 : decode cL_law 612 = .ok (.invokevirtual 74, 3) := by decide +kernel
theorem dL_law_615 : decode cL_law 615 = .ok (.if_icmp .eq 479, 3) := by decide +kernel
theorem dL_law_618 : decode cL_law 618 = .ok (.iconst 0, 1) := by decide +kernel
theorem dL_law_619 : decode cL_law 619 = .ok (.ireturn, 1) := by decide +kernel
theorem dL_law_620 : decode cL_law 620 = .ok (.aload_n 1, 1) := by decide +kernel
theorem dL_law_621 : decode cL_law 621 = .ok (.aload_n 0, 1) := by decide +kernel
theorem dL_law_622 : decode cL_law 622 = .ok (.iload_n 3, 1) := by decide +kernel
theorem dL_law_623 : decode cL_law 623 = .ok (.iconst 1, 1) := by decide +kernel
theorem dL_law_624 : decode cL_law 624 = .ok (.iadd, 1) := by decide +kernel
theorem dL_law_625 : decode cL_law 625 = .ok (.iaload, 1) := by decide +kernel
theorem dL_law_626 : decode cL_law 626 = .ok (.aload_n 0, 1) := by decide +kernel
theorem dL_law_627 : decode cL_law 627 = .ok (.iload_n 3, 1) := by decide +kernel
theorem dL_law_628 : decode cL_law 628 = .ok (.iconst 2, 1) := by decide +kernel
theorem dL_law_629 : decode cL_law 629 = .ok (.iadd, 1) := by decide +kernel
theorem dL_law_630 : decode cL_law 630 = .ok (.iaload, 1) := by decide +kernel
theorem dL_law_631 : decode cL_law 631 = .ok (.invokevirtual 75, 3) := by decide +kernel
theorem dL_law_634 : decode cL_law 634 = .ok (.aload_n 2, 1) := by decide +kernel
theorem dL_law_635 : decode cL_law 635 = .ok (.aload_n 0, 1) := by decide +kernel
theorem dL_law_636 : decode cL_law 636 = .ok (.iload_n 3, 1) := by decide +kernel
theorem dL_law_637 : decode cL_law 637 = .ok (.iconst 1, 1) := by decide +kernel
theorem dL_law_638 : decode cL_law 638 = .ok (.iadd, 1) := by decide +kernel
theorem dL_law_639 : decode cL_law 639 = .ok (.iaload, 1) := by decide +kernel
theorem dL_law_640 : decode cL_law 640 = .ok (.aload_n 0, 1) := by decide +kernel
theorem dL_law_641 : decode cL_law 641 = .ok (.iload_n 3, 1) := by decide +kernel
theorem dL_law_642 : decode cL_law 642 = .ok (.iconst 2, 1) := by decide +kernel
theorem dL_law_643 : decode cL_law 643 = .ok (.iadd, 1) := by decide +kernel
theorem dL_law_644 : decode cL_law 644 = .ok (.iaload, 1) := by decide +kernel
theorem dL_law_645 : decode cL_law 645 = .ok (.invokevirtual 78, 3) := by decide +kernel
theorem dL_law_648 : decode cL_law 648 = .ok (.if_icmp .eq 446, 3) := by decide +kernel
theorem dL_law_651 : decode cL_law 651 = .ok (.iconst 0, 1) := by decide +kernel
theorem dL_law_652 : decode cL_law 652 = .ok (.ireturn, 1) := by decide +kernel
theorem dL_law_653 : decode cL_law 653 = .ok (.aload_n 1, 1) := by decide +kernel
theorem dL_law_654 : decode cL_law 654 = .ok (.aload_n 0, 1) := by decide +kernel
theorem dL_law_655 : decode cL_law 655 = .ok (.iload_n 3, 1) := by decide +kernel
theorem dL_law_656 : decode cL_law 656 = .ok (.iconst 1, 1) := by decide +kernel
theorem dL_law_657 : decode cL_law 657 = .ok (.iadd, 1) := by decide +kernel
theorem dL_law_658 : decode cL_law 658 = .ok (.iaload, 1) := by decide +kernel
theorem dL_law_659 : decode cL_law 659 = .ok (.aload_n 0, 1) := by decide +kernel
theorem dL_law_660 : decode cL_law 660 = .ok (.iload_n 3, 1) := by decide +kernel
theorem dL_law_661 : decode cL_law 661 = .ok (.iconst 2, 1) := by decide +kernel
theorem dL_law_662 : decode cL_law 662 = .ok (.iadd, 1) := by decide +kernel
theorem dL_law_663 : decode cL_law 663 = .ok (.iaload, 1) := by decide +kernel
theorem dL_law_664 : decode cL_law 664 = .ok (.invokevirtual 79, 3) := by decide +kernel
theorem dL_law_667 : decode cL_law 667 = .ok (.aload_n 2, 1) := by decide +kernel
theorem dL_law_668 : decode cL_law 668 = .ok (.aload_n 0, 1) := by decide +kernel
theorem dL_law_669 : decode cL_law 669 = .ok (.iload_n 3, 1) := by decide +kernel
theorem dL_law_670 : decode cL_law 670 = .ok (.iconst 1, 1) := by decide +kernel
theorem dL_law_671 : decode cL_law 671 = .ok (.iadd, 1) := by decide +kernel
theorem dL_law_672 : decode cL_law 672 = .ok (.iaload, 1) := by decide +kernel
theorem dL_law_673 : decode cL_law 673 = .ok (.aload_n 0, 1) := by decide +kernel
theorem dL_law_674 : decode cL_law 674 = .ok (.iload_n 3, 1) := by decide +kernel
theorem dL_law_675 : decode cL_law 675 = .ok (.iconst 2, 1) := by decide +kernel
theorem dL_law_676 : decode cL_law 676 = .ok (.iadd, 1) := by decide +kernel
theorem dL_law_677 : decode cL_law 677 = .ok (.iaload, 1) := by decide +kernel
theorem dL_law_678 : decode cL_law 678 = .ok (.invokevirtual 82, 3) := by decide +kernel
theorem dL_law_681 : decode cL_law 681 = .ok (.if_icmp .eq 413, 3) := by decide +kernel
theorem dL_law_684 : decode cL_law 684 = .ok (.iconst 0, 1) := by decide +kernel
theorem dL_law_685 : decode cL_law 685 = .ok (.ireturn, 1) := by decide +kernel
theorem dL_law_686 : decode cL_law 686 = .ok (.aload_n 1, 1) := by decide +kernel
theorem dL_law_687 : decode cL_law 687 = .ok (.aload_n 0, 1) := by decide +kernel
theorem dL_law_688 : decode cL_law 688 = .ok (.iload_n 3, 1) := by decide +kernel
theorem dL_law_689 : decode cL_law 689 = .ok (.iconst 1, 1) := by decide +kernel
theorem dL_law_690 : decode cL_law 690 = .ok (.iadd, 1) := by decide +kernel
theorem dL_law_691 : decode cL_law 691 = .ok (.iaload, 1) := by decide +kernel
theorem dL_law_692 : decode cL_law 692 = .ok (.aload_n 0, 1) := by decide +kernel
theorem dL_law_693 : decode cL_law 693 = .ok (.iload_n 3, 1) := by decide +kernel
theorem dL_law_694 : decode cL_law 694 = .ok (.iconst 2, 1) := by decide +kernel
theorem dL_law_695 : decode cL_law 695 = .ok (.iadd, 1) := by decide +kernel
theorem dL_law_696 : decode cL_law 696 = .ok (.iaload, 1) := by decide +kernel
theorem dL_law_697 : decode cL_law 697 = .ok (.invokevirtual 83, 3) := by decide +kernel
theorem dL_law_700 : decode cL_law 700 = .ok (.aload_n 2, 1) := by decide +kernel
theorem dL_law_701 : decode cL_law 701 = .ok (.aload_n 0, 1) := by decide +kernel
theorem dL_law_702 : decode cL_law 702 = .ok (.iload_n 3, 1) := by decide +kernel
theorem dL_law_703 : decode cL_law 703 = .ok (.iconst 1, 1) := by decide +kernel
theorem dL_law_704 : decode cL_law 704 = .ok (.iadd, 1) := by decide +kernel
theorem dL_law_705 : decode cL_law 705 = .ok (.iaload, 1) := by decide +kernel
theorem dL_law_706 : decode cL_law 706 = .ok (.aload_n 0, 1) := by decide +kernel
theorem dL_law_707 : decode cL_law 707 = .ok (.iload_n 3, 1) := by decide +kernel
theorem dL_law_708 : decode cL_law 708 = .ok (.iconst 2, 1) := by decide +kernel
theorem dL_law_709 : decode cL_law 709 = .ok (.iadd, 1) := by decide +kernel
theorem dL_law_710 : decode cL_law 710 = .ok (.iaload, 1) := by decide +kernel
theorem dL_law_711 : decode cL_law 711 = .ok (.invokevirtual 86, 3) := by decide +kernel
theorem dL_law_714 : decode cL_law 714 = .ok (.if_icmp .eq 380, 3) := by decide +kernel
theorem dL_law_717 : decode cL_law 717 = .ok (.iconst 0, 1) := by decide +kernel
theorem dL_law_718 : decode cL_law 718 = .ok (.ireturn, 1) := by decide +kernel
theorem dL_law_719 : decode cL_law 719 = .ok (.aload_n 1, 1) := by decide +kernel
theorem dL_law_720 : decode cL_law 720 = .ok (.aload_n 0, 1) := by decide +kernel
theorem dL_law_721 : decode cL_law 721 = .ok (.iload_n 3, 1) := by decide +kernel
theorem dL_law_722 : decode cL_law 722 = .ok (.iconst 1, 1) := by decide +kernel
theorem dL_law_723 : decode cL_law 723 = .ok (.iadd, 1) := by decide +kernel
theorem dL_law_724 : decode cL_law 724 = .ok (.iaload, 1) := by decide +kernel
theorem dL_law_725 : decode cL_law 725 = .ok (.aload_n 0, 1) := by decide +kernel
theorem dL_law_726 : decode cL_law 726 = .ok (.iload_n 3, 1) := by decide +kernel
theorem dL_law_727 : decode cL_law 727 = .ok (.iconst 2, 1) := by decide +kernel
theorem dL_law_728 : decode cL_law 728 = .ok (.iadd, 1) := by decide +kernel
theorem dL_law_729 : decode cL_law 729 = .ok (.iaload, 1) := by decide +kernel
theorem dL_law_730 : decode cL_law 730 = .ok (.invokevirtual 87, 3) := by decide +kernel
theorem dL_law_733 : decode cL_law 733 = .ok (.aload_n 2, 1) := by decide +kernel
theorem dL_law_734 : decode cL_law 734 = .ok (.aload_n 0, 1) := by decide +kernel
theorem dL_law_735 : decode cL_law 735 = .ok (.iload_n 3, 1) := by decide +kernel
theorem dL_law_736 : decode cL_law 736 = .ok (.iconst 1, 1) := by decide +kernel
theorem dL_law_737 : decode cL_law 737 = .ok (.iadd, 1) := by decide +kernel
theorem dL_law_738 : decode cL_law 738 = .ok (.iaload, 1) := by decide +kernel
theorem dL_law_739 : decode cL_law 739 = .ok (.aload_n 0, 1) := by decide +kernel
theorem dL_law_740 : decode cL_law 740 = .ok (.iload_n 3, 1) := by decide +kernel
theorem dL_law_741 : decode cL_law 741 = .ok (.iconst 2, 1) := by decide +kernel
theorem dL_law_742 : decode cL_law 742 = .ok (.iadd, 1) := by decide +kernel
theorem dL_law_743 : decode cL_law 743 = .ok (.iaload, 1) := by decide +kernel
theorem dL_law_744 : decode cL_law 744 = .ok (.invokevirtual 90, 3) := by decide +kernel
theorem dL_law_747 : decode cL_law 747 = .ok (.if_icmp .eq 347, 3) := by decide +kernel
theorem dL_law_750 : decode cL_law 750 = .ok (.iconst 0, 1) := by decide +kernel
theorem dL_law_751 : decode cL_law 751 = .ok (.ireturn, 1) := by decide +kernel
theorem dL_law_752 : decode cL_law 752 = .ok (.aload_n 1, 1) := by decide +kernel
theorem dL_law_753 : decode cL_law 753 = .ok (.aload_n 0, 1) := by decide +kernel
theorem dL_law_754 : decode cL_law 754 = .ok (.iload_n 3, 1) := by decide +kernel
theorem dL_law_755 : decode cL_law 755 = .ok (.iconst 1, 1) := by decide +kernel
theorem dL_law_756 : decode cL_law 756 = .ok (.iadd, 1) := by decide +kernel
theorem dL_law_757 : decode cL_law 757 = .ok (.iaload, 1) := by decide +kernel
theorem dL_law_758 : decode cL_law 758 = .ok (.invokevirtual 91, 3) := by decide +kernel
theorem dL_law_761 : decode cL_law 761 = .ok (.aload_n 2, 1) := by decide +kernel
theorem dL_law_762 : decode cL_law 762 = .ok (.aload_n 0, 1) := by decide +kernel
theorem dL_law_763 : decode cL_law 763 = .ok (.iload_n 3, 1) := by decide +kernel
theorem dL_law_764 : decode cL_law 764 = .ok (.iconst 1, 1) := by decide +kernel
theorem dL_law_765 : decode cL_law 765 = .ok (.iadd, 1) := by decide +kernel
theorem dL_law_766 : decode cL_law 766 = .ok (.iaload, 1) := by decide +kernel
theorem dL_law_767 : decode cL_law 767 = .ok (.invokevirtual 94, 3) := by decide +kernel
theorem dL_law_770 : decode cL_law 770 = .ok (.if_icmp .eq 324, 3) := by decide +kernel
theorem dL_law_773 : decode cL_law 773 = .ok (.iconst 0, 1) := by decide +kernel
theorem dL_law_774 : decode cL_law 774 = .ok (.ireturn, 1) := by decide +kernel
theorem dL_law_775 : decode cL_law 775 = .ok (.aload_n 1, 1) := by decide +kernel
theorem dL_law_776 : decode cL_law 776 = .ok (.aload_n 0, 1) := by decide +kernel
theorem dL_law_777 : decode cL_law 777 = .ok (.iload_n 3, 1) := by decide +kernel
theorem dL_law_778 : decode cL_law 778 = .ok (.iconst 1, 1) := by decide +kernel
theorem dL_law_779 : decode cL_law 779 = .ok (.iadd, 1) := by decide +kernel
theorem dL_law_780 : decode cL_law 780 = .ok (.iaload, 1) := by decide +kernel
theorem dL_law_781 : decode cL_law 781 = .ok (.aload_n 0, 1) := by decide +kernel
theorem dL_law_782 : decode cL_law 782 = .ok (.iload_n 3, 1) := by decide +kernel
theorem dL_law_783 : decode cL_law 783 = .ok (.iconst 2, 1) := by decide +kernel
theorem dL_law_784 : decode cL_law 784 = .ok (.iadd, 1) := by decide +kernel
theorem dL_law_785 : decode cL_law 785 = .ok (.iaload, 1) := by decide +kernel
theorem dL_law_786 : decode cL_law 786 = .ok (.ifCond .eq 7, 3) := by decide +kernel
theorem dL_law_789 : decode cL_law 789 = .ok (.iconst 1, 1) := by decide +kernel
theorem dL_law_790 : decode cL_law 790 = .ok (.goto 4, 3) := by decide +kernel
theorem dL_law_793 : decode cL_law 793 = .ok (.iconst 0, 1) := by decide +kernel
theorem dL_law_794 : decode cL_law 794 = .ok (.invokevirtual 95, 3) := by decide +kernel
theorem dL_law_797 : decode cL_law 797 = .ok (.aload_n 2, 1) := by decide +kernel
theorem dL_law_798 : decode cL_law 798 = .ok (.aload_n 0, 1) := by decide +kernel
theorem dL_law_799 : decode cL_law 799 = .ok (.iload_n 3, 1) := by decide +kernel
theorem dL_law_800 : decode cL_law 800 = .ok (.iconst 1, 1) := by decide +kernel
theorem dL_law_801 : decode cL_law 801 = .ok (.iadd, 1) := by decide +kernel
theorem dL_law_802 : decode cL_law 802 = .ok (.iaload, 1) := by decide +kernel
theorem dL_law_803 : decode cL_law 803 = .ok (.aload_n 0, 1) := by decide +kernel
theorem dL_law_804 : decode cL_law 804 = .ok (.iload_n 3, 1) := by decide +kernel
theorem dL_law_805 : decode cL_law 805 = .ok (.iconst 2, 1) := by decide +kernel
theorem dL_law_806 : decode cL_law 806 = .ok (.iadd, 1) := by decide +kernel
theorem dL_law_807 : decode cL_law 807 = .ok (.iaload, 1) := by decide +kernel
theorem dL_law_808 : decode cL_law 808 = .ok (.ifCond .eq 7, 3) := by decide +kernel
theorem dL_law_811 : decode cL_law 811 = .ok (.iconst 1, 1) := by decide +kernel
theorem dL_law_812 : decode cL_law 812 = .ok (.goto 4, 3) := by decide +kernel
theorem dL_law_815 : decode cL_law 815 = .ok (.iconst 0, 1) := by decide +kernel
theorem dL_law_816 : decode cL_law 816 = .ok (.invokevirtual 99, 3) := by decide +kernel
theorem dL_law_819 : decode cL_law 819 = .ok (.if_icmp .eq 275, 3) := by decide +kernel
theorem dL_law_822 : decode cL_law 822 = .ok (.iconst 0, 1) := by decide +kernel
theorem dL_law_823 : decode cL_law 823 = .ok (.ireturn, 1) := by decide +kernel
theorem dL_law_824 : decode cL_law 824 = .ok (.aload_n 1, 1) := by decide +kernel
theorem dL_law_825 : decode cL_law 825 = .ok (.invokevirtual 100, 3) := by decide +kernel
theorem dL_law_828 : decode cL_law 828 = .ok (.aload_n 2, 1) := by decide +kernel
theorem dL_law_829 : decode cL_law 829 = .ok (.invokevirtual 103, 3) := by decide +kernel
theorem dL_law_832 : decode cL_law 832 = .ok (.if_icmp .eq 262, 3) := by decide +kernel
theorem dL_law_835 : decode cL_law 835 = .ok (.iconst 0, 1) := by decide +kernel
theorem dL_law_836 : decode cL_law 836 = .ok (.ireturn, 1) := by decide +kernel
theorem dL_law_837 : decode cL_law 837 = .ok (.aload_n 1, 1) := by decide +kernel
theorem dL_law_838 : decode cL_law 838 = .ok (.aload_n 0, 1) := by decide +kernel
theorem dL_law_839 : decode cL_law 839 = .ok (.iload_n 3, 1) := by decide +kernel
theorem dL_law_840 : decode cL_law 840 = .ok (.iconst 1, 1) := by decide +kernel
theorem dL_law_841 : decode cL_law 841 = .ok (.iadd, 1) := by decide +kernel
theorem dL_law_842 : decode cL_law 842 = .ok (.iaload, 1) := by decide +kernel
theorem dL_law_843 : decode cL_law 843 = .ok (.invokevirtual 104, 3) := by decide +kernel
theorem dL_law_846 : decode cL_law 846 = .ok (.aload_n 2, 1) := by decide +kernel
theorem dL_law_847 : decode cL_law 847 = .ok (.aload_n 0, 1) := by decide +kernel
theorem dL_law_848 : decode cL_law 848 = .ok (.iload_n 3, 1) := by decide +kernel
theorem dL_law_849 : decode cL_law 849 = .ok (.iconst 1, 1) := by decide +kernel
theorem dL_law_850 : decode cL_law 850 = .ok (.iadd, 1) := by decide +kernel
theorem dL_law_851 : decode cL_law 851 = .ok (.iaload, 1) := by decide +kernel
theorem dL_law_852 : decode cL_law 852 = .ok (.invokevirtual 108, 3) := by decide +kernel
theorem dL_law_855 : decode cL_law 855 = .ok (.lcmp, 1) := by decide +kernel
theorem dL_law_856 : decode cL_law 856 = .ok (.ifCond .eq 238, 3) := by decide +kernel
theorem dL_law_859 : decode cL_law 859 = .ok (.iconst 0, 1) := by decide +kernel
theorem dL_law_860 : decode cL_law 860 = .ok (.ireturn, 1) := by decide +kernel
theorem dL_law_861 : decode cL_law 861 = .ok (.aload_n 1, 1) := by decide +kernel
theorem dL_law_862 : decode cL_law 862 = .ok (.aload_n 0, 1) := by decide +kernel
theorem dL_law_863 : decode cL_law 863 = .ok (.iload_n 3, 1) := by decide +kernel
theorem dL_law_864 : decode cL_law 864 = .ok (.iconst 1, 1) := by decide +kernel
theorem dL_law_865 : decode cL_law 865 = .ok (.iadd, 1) := by decide +kernel
theorem dL_law_866 : decode cL_law 866 = .ok (.iaload, 1) := by decide +kernel
theorem dL_law_867 : decode cL_law 867 = .ok (.invokevirtual 109, 3) := by decide +kernel
theorem dL_law_870 : decode cL_law 870 = .ok (.aload_n 2, 1) := by decide +kernel
theorem dL_law_871 : decode cL_law 871 = .ok (.aload_n 0, 1) := by decide +kernel
theorem dL_law_872 : decode cL_law 872 = .ok (.iload_n 3, 1) := by decide +kernel
theorem dL_law_873 : decode cL_law 873 = .ok (.iconst 1, 1) := by decide +kernel
theorem dL_law_874 : decode cL_law 874 = .ok (.iadd, 1) := by decide +kernel
theorem dL_law_875 : decode cL_law 875 = .ok (.iaload, 1) := by decide +kernel
theorem dL_law_876 : decode cL_law 876 = .ok (.invokevirtual 112, 3) := by decide +kernel
theorem dL_law_879 : decode cL_law 879 = .ok (.lcmp, 1) := by decide +kernel
theorem dL_law_880 : decode cL_law 880 = .ok (.ifCond .eq 214, 3) := by decide +kernel
theorem dL_law_883 : decode cL_law 883 = .ok (.iconst 0, 1) := by decide +kernel
theorem dL_law_884 : decode cL_law 884 = .ok (.ireturn, 1) := by decide +kernel
theorem dL_law_885 : decode cL_law 885 = .ok (.aload_n 1, 1) := by decide +kernel
theorem dL_law_886 : decode cL_law 886 = .ok (.aload_n 0, 1) := by decide +kernel
theorem dL_law_887 : decode cL_law 887 = .ok (.iload_n 3, 1) := by decide +kernel
theorem dL_law_888 : decode cL_law 888 = .ok (.iconst 1, 1) := by decide +kernel
theorem dL_law_889 : decode cL_law 889 = .ok (.iadd, 1) := by decide +kernel
theorem dL_law_890 : decode cL_law 890 = .ok (.iaload, 1) := by decide +kernel
theorem dL_law_891 : decode cL_law 891 = .ok (.invokevirtual 113, 3) := by decide +kernel
theorem dL_law_894 : decode cL_law 894 = .ok (.aload_n 2, 1) := by decide +kernel
theorem dL_law_895 : decode cL_law 895 = .ok (.aload_n 0, 1) := by decide +kernel
theorem dL_law_896 : decode cL_law 896 = .ok (.iload_n 3, 1) := by decide +kernel
theorem dL_law_897 : decode cL_law 897 = .ok (.iconst 1, 1) := by decide +kernel
theorem dL_law_898 : decode cL_law 898 = .ok (.iadd, 1) := by decide +kernel
theorem dL_law_899 : decode cL_law 899 = .ok (.iaload, 1) := by decide +kernel
theorem dL_law_900 : decode cL_law 900 = .ok (.invokevirtual 116, 3) := by decide +kernel
theorem dL_law_903 : decode cL_law 903 = .ok (.lcmp, 1) := by decide +kernel
theorem dL_law_904 : decode cL_law 904 = .ok (.ifCond .eq 190, 3) := by decide +kernel
theorem dL_law_907 : decode cL_law 907 = .ok (.iconst 0, 1) := by decide +kernel
theorem dL_law_908 : decode cL_law 908 = .ok (.ireturn, 1) := by decide +kernel
theorem dL_law_909 : decode cL_law 909 = .ok (.aload_n 1, 1) := by decide +kernel
theorem dL_law_910 : decode cL_law 910 = .ok (.invokevirtual 117, 3) := by decide +kernel
theorem dL_law_913 : decode cL_law 913 = .ok (.aload_n 2, 1) := by decide +kernel
theorem dL_law_914 : decode cL_law 914 = .ok (.invokevirtual 120, 3) := by decide +kernel
theorem dL_law_917 : decode cL_law 917 = .ok (.if_icmp .eq 177, 3) := by decide +kernel
theorem dL_law_920 : decode cL_law 920 = .ok (.iconst 0, 1) := by decide +kernel
theorem dL_law_921 : decode cL_law 921 = .ok (.ireturn, 1) := by decide +kernel
theorem dL_law_922 : decode cL_law 922 = .ok (.aload_n 1, 1) := by decide +kernel
theorem dL_law_923 : decode cL_law 923 = .ok (.aload_n 0, 1) := by decide +kernel
theorem dL_law_924 : decode cL_law 924 = .ok (.iload_n 3, 1) := by decide +kernel
theorem dL_law_925 : decode cL_law 925 = .ok (.iconst 1, 1) := by decide +kernel
theorem dL_law_926 : decode cL_law 926 = .ok (.iadd, 1) := by decide +kernel
theorem dL_law_927 : decode cL_law 927 = .ok (.iaload, 1) := by decide +kernel
theorem dL_law_928 : decode cL_law 928 = .ok (.aload_n 0, 1) := by decide +kernel
theorem dL_law_929 : decode cL_law 929 = .ok (.iload_n 3, 1) := by decide +kernel
theorem dL_law_930 : decode cL_law 930 = .ok (.iconst 2, 1) := by decide +kernel
theorem dL_law_931 : decode cL_law 931 = .ok (.iadd, 1) := by decide +kernel
theorem dL_law_932 : decode cL_law 932 = .ok (.iaload, 1) := by decide +kernel
theorem dL_law_933 : decode cL_law 933 = .ok (.invokevirtual 121, 3) := by decide +kernel
theorem dL_law_936 : decode cL_law 936 = .ok (.aload_n 2, 1) := by decide +kernel
theorem dL_law_937 : decode cL_law 937 = .ok (.aload_n 0, 1) := by decide +kernel
theorem dL_law_938 : decode cL_law 938 = .ok (.iload_n 3, 1) := by decide +kernel
theorem dL_law_939 : decode cL_law 939 = .ok (.iconst 1, 1) := by decide +kernel
theorem dL_law_940 : decode cL_law 940 = .ok (.iadd, 1) := by decide +kernel
theorem dL_law_941 : decode cL_law 941 = .ok (.iaload, 1) := by decide +kernel
theorem dL_law_942 : decode cL_law 942 = .ok (.aload_n 0, 1) := by decide +kernel
theorem dL_law_943 : decode cL_law 943 = .ok (.iload_n 3, 1) := by decide +kernel
theorem dL_law_944 : decode cL_law 944 = .ok (.iconst 2, 1) := by decide +kernel
theorem dL_law_945 : decode cL_law 945 = .ok (.iadd, 1) := by decide +kernel
theorem dL_law_946 : decode cL_law 946 = .ok (.iaload, 1) := by decide +kernel
theorem dL_law_947 : decode cL_law 947 = .ok (.invokevirtual 124, 3) := by decide +kernel
theorem dL_law_950 : decode cL_law 950 = .ok (.if_icmp .eq 144, 3) := by decide +kernel
theorem dL_law_953 : decode cL_law 953 = .ok (.iconst 0, 1) := by decide +kernel
theorem dL_law_954 : decode cL_law 954 = .ok (.ireturn, 1) := by decide +kernel
theorem dL_law_955 : decode cL_law 955 = .ok (.aload_n 1, 1) := by decide +kernel
theorem dL_law_956 : decode cL_law 956 = .ok (.aload_n 0, 1) := by decide +kernel
theorem dL_law_957 : decode cL_law 957 = .ok (.iload_n 3, 1) := by decide +kernel
theorem dL_law_958 : decode cL_law 958 = .ok (.iconst 1, 1) := by decide +kernel
theorem dL_law_959 : decode cL_law 959 = .ok (.iadd, 1) := by decide +kernel
theorem dL_law_960 : decode cL_law 960 = .ok (.iaload, 1) := by decide +kernel
theorem dL_law_961 : decode cL_law 961 = .ok (.aload_n 0, 1) := by decide +kernel
theorem dL_law_962 : decode cL_law 962 = .ok (.iload_n 3, 1) := by decide +kernel
theorem dL_law_963 : decode cL_law 963 = .ok (.iconst 2, 1) := by decide +kernel
theorem dL_law_964 : decode cL_law 964 = .ok (.iadd, 1) := by decide +kernel
theorem dL_law_965 : decode cL_law 965 = .ok (.iaload, 1) := by decide +kernel
theorem dL_law_966 : decode cL_law 966 = .ok (.invokevirtual 125, 3) := by decide +kernel
theorem dL_law_969 : decode cL_law 969 = .ok (.aload_n 2, 1) := by decide +kernel
theorem dL_law_970 : decode cL_law 970 = .ok (.aload_n 0, 1) := by decide +kernel
theorem dL_law_971 : decode cL_law 971 = .ok (.iload_n 3, 1) := by decide +kernel
theorem dL_law_972 : decode cL_law 972 = .ok (.iconst 1, 1) := by decide +kernel
theorem dL_law_973 : decode cL_law 973 = .ok (.iadd, 1) := by decide +kernel
theorem dL_law_974 : decode cL_law 974 = .ok (.iaload, 1) := by decide +kernel
theorem dL_law_975 : decode cL_law 975 = .ok (.aload_n 0, 1) := by decide +kernel
theorem dL_law_976 : decode cL_law 976 = .ok (.iload_n 3, 1) := by decide +kernel
theorem dL_law_977 : decode cL_law 977 = .ok (.iconst 2, 1) := by decide +kernel
theorem dL_law_978 : decode cL_law 978 = .ok (.iadd, 1) := by decide +kernel
theorem dL_law_979 : decode cL_law 979 = .ok (.iaload, 1) := by decide +kernel
theorem dL_law_980 : decode cL_law 980 = .ok (.invokevirtual 128, 3) := by decide +kernel
theorem dL_law_983 : decode cL_law 983 = .ok (.lcmp, 1) := by decide +kernel
theorem dL_law_984 : decode cL_law 984 = .ok (.ifCond .eq 110, 3) := by decide +kernel
theorem dL_law_987 : decode cL_law 987 = .ok (.iconst 0, 1) := by decide +kernel
theorem dL_law_988 : decode cL_law 988 = .ok (.ireturn, 1) := by decide +kernel
theorem dL_law_989 : decode cL_law 989 = .ok (.aload_n 1, 1) := by decide +kernel
theorem dL_law_990 : decode cL_law 990 = .ok (.aload_n 0, 1) := by decide +kernel
theorem dL_law_991 : decode cL_law 991 = .ok (.iload_n 3, 1) := by decide +kernel
theorem dL_law_992 : decode cL_law 992 = .ok (.iconst 1, 1) := by decide +kernel
theorem dL_law_993 : decode cL_law 993 = .ok (.iadd, 1) := by decide +kernel
theorem dL_law_994 : decode cL_law 994 = .ok (.iaload, 1) := by decide +kernel
theorem dL_law_995 : decode cL_law 995 = .ok (.invokevirtual 129, 3) := by decide +kernel
theorem dL_law_998 : decode cL_law 998 = .ok (.aload_n 2, 1) := by decide +kernel
theorem dL_law_999 : decode cL_law 999 = .ok (.aload_n 0, 1) := by decide +kernel
theorem dL_law_1000 : decode cL_law 1000 = .ok (.iload_n 3, 1) := by decide +kernel
theorem dL_law_1001 : decode cL_law 1001 = .ok (.iconst 1, 1) := by decide +kernel
theorem dL_law_1002 : decode cL_law 1002 = .ok (.iadd, 1) := by decide +kernel
theorem dL_law_1003 : decode cL_law 1003 = .ok (.iaload, 1) := by decide +kernel
theorem dL_law_1004 : decode cL_law 1004 = .ok (.invokevirtual 132, 3) := by decide +kernel
theorem dL_law_1007 : decode cL_law 1007 = .ok (.if_icmp .eq 87, 3) := by decide +kernel
theorem dL_law_1010 : decode cL_law 1010 = .ok (.iconst 0, 1) := by decide +kernel
theorem dL_law_1011 : decode cL_law 1011 = .ok (.ireturn, 1) := by decide +kernel
theorem dL_law_1012 : decode cL_law 1012 = .ok (.aload_n 1, 1) := by decide +kernel
theorem dL_law_1013 : decode cL_law 1013 = .ok (.aload_n 0, 1) := by decide +kernel
theorem dL_law_1014 : decode cL_law 1014 = .ok (.iload_n 3, 1) := by decide +kernel
theorem dL_law_1015 : decode cL_law 1015 = .ok (.iconst 1, 1) := by decide +kernel
theorem dL_law_1016 : decode cL_law 1016 = .ok (.iadd, 1) := by decide +kernel
theorem dL_law_1017 : decode cL_law 1017 = .ok (.iaload, 1) := by decide +kernel
theorem dL_law_1018 : decode cL_law 1018 = .ok (.invokevirtual 133, 3) := by decide +kernel
theorem dL_law_1021 : decode cL_law 1021 = .ok (.aload_n 2, 1) := by decide +kernel
theorem dL_law_1022 : decode cL_law 1022 = .ok (.aload_n 0, 1) := by decide +kernel
theorem dL_law_1023 : decode cL_law 1023 = .ok (.iload_n 3, 1) := by decide +kernel
theorem dL_law_1024 : decode cL_law 1024 = .ok (.iconst 1, 1) := by decide +kernel
theorem dL_law_1025 : decode cL_law 1025 = .ok (.iadd, 1) := by decide +kernel
theorem dL_law_1026 : decode cL_law 1026 = .ok (.iaload, 1) := by decide +kernel
theorem dL_law_1027 : decode cL_law 1027 = .ok (.invokevirtual 136, 3) := by decide +kernel
theorem dL_law_1030 : decode cL_law 1030 = .ok (.if_icmp .eq 64, 3) := by decide +kernel
theorem dL_law_1033 : decode cL_law 1033 = .ok (.iconst 0, 1) := by decide +kernel
theorem dL_law_1034 : decode cL_law 1034 = .ok (.ireturn, 1) := by decide +kernel
theorem dL_law_1035 : decode cL_law 1035 = .ok (.aload_n 1, 1) := by decide +kernel
theorem dL_law_1036 : decode cL_law 1036 = .ok (.aload_n 0, 1) := by decide +kernel
theorem dL_law_1037 : decode cL_law 1037 = .ok (.iload_n 3, 1) := by decide +kernel
theorem dL_law_1038 : decode cL_law 1038 = .ok (.iconst 1, 1) := by decide +kernel
theorem dL_law_1039 : decode cL_law 1039 = .ok (.iadd, 1) := by decide +kernel
theorem dL_law_1040 : decode cL_law 1040 = .ok (.iaload, 1) := by decide +kernel
theorem dL_law_1041 : decode cL_law 1041 = .ok (.invokevirtual 137, 3) := by decide +kernel
theorem dL_law_1044 : decode cL_law 1044 = .ok (.aload_n 2, 1) := by decide +kernel
theorem dL_law_1045 : decode cL_law 1045 = .ok (.aload_n 0, 1) := by decide +kernel
theorem dL_law_1046 : decode cL_law 1046 = .ok (.iload_n 3, 1) := by decide +kernel
theorem dL_law_1047 : decode cL_law 1047 = .ok (.iconst 1, 1) := by decide +kernel
theorem dL_law_1048 : decode cL_law 1048 = .ok (.iadd, 1) := by decide +kernel
theorem dL_law_1049 : decode cL_law 1049 = .ok (.iaload, 1) := by decide +kernel
theorem dL_law_1050 : decode cL_law 1050 = .ok (.invokevirtual 140, 3) := by decide +kernel
theorem dL_law_1053 : decode cL_law 1053 = .ok (.if_icmp .eq 41, 3) := by decide +kernel
theorem dL_law_1056 : decode cL_law 1056 = .ok (.iconst 0, 1) := by decide +kernel
theorem dL_law_1057 : decode cL_law 1057 = .ok (.ireturn, 1) := by decide +kernel
theorem dL_law_1058 : decode cL_law 1058 = .ok (.aload_n 1, 1) := by decide +kernel
theorem dL_law_1059 : decode cL_law 1059 = .ok (.invokevirtual 141, 3) := by decide +kernel
theorem dL_law_1062 : decode cL_law 1062 = .ok (.aload_n 2, 1) := by decide +kernel
theorem dL_law_1063 : decode cL_law 1063 = .ok (.invokevirtual 144, 3) := by decide +kernel
theorem dL_law_1066 : decode cL_law 1066 = .ok (.if_icmp .eq 28, 3) := by decide +kernel
theorem dL_law_1069 : decode cL_law 1069 = .ok (.iconst 0, 1) := by decide +kernel
theorem dL_law_1070 : decode cL_law 1070 = .ok (.ireturn, 1) := by decide +kernel
theorem dL_law_1071 : decode cL_law 1071 = .ok (.aload_n 1, 1) := by decide +kernel
theorem dL_law_1072 : decode cL_law 1072 = .ok (.aload_n 0, 1) := by decide +kernel
theorem dL_law_1073 : decode cL_law 1073 = .ok (.iload_n 3, 1) := by decide +kernel
theorem dL_law_1074 : decode cL_law 1074 = .ok (.iconst 1, 1) := by decide +kernel
theorem dL_law_1075 : decode cL_law 1075 = .ok (.iadd, 1) := by decide +kernel
theorem dL_law_1076 : decode cL_law 1076 = .ok (.iaload, 1) := by decide +kernel
theorem dL_law_1077 : decode cL_law 1077 = .ok (.invokevirtual 145, 3) := by decide +kernel
theorem dL_law_1080 : decode cL_law 1080 = .ok (.aload_n 2, 1) := by decide +kernel
theorem dL_law_1081 : decode cL_law 1081 = .ok (.aload_n 0, 1) := by decide +kernel
theorem dL_law_1082 : decode cL_law 1082 = .ok (.iload_n 3, 1) := by decide +kernel
theorem dL_law_1083 : decode cL_law 1083 = .ok (.iconst 1, 1) := by decide +kernel
theorem dL_law_1084 : decode cL_law 1084 = .ok (.iadd, 1) := by decide +kernel
theorem dL_law_1085 : decode cL_law 1085 = .ok (.iaload, 1) := by decide +kernel
theorem dL_law_1086 : decode cL_law 1086 = .ok (.invokevirtual 148, 3) := by decide +kernel
theorem dL_law_1089 : decode cL_law 1089 = .ok (.if_icmp .eq 5, 3) := by decide +kernel
theorem dL_law_1092 : decode cL_law 1092 = .ok (.iconst 0, 1) := by decide +kernel
theorem dL_law_1093 : decode cL_law 1093 = .ok (.ireturn, 1) := by decide +kernel
theorem dL_law_1094 : decode cL_law 1094 = .ok (.iinc 3 6, 3) := by decide +kernel
theorem dL_law_1097 : decode cL_law 1097 = .ok (.goto (-1079), 3) := by decide +kernel
theorem dL_law_1100 : decode cL_law 1100 = .ok (.iconst 1, 1) := by decide +kernel
theorem dL_law_1101 : decode cL_law 1101 = .ok (.ireturn, 1) := by decide +kernel
end
section
/-! the state of both (class and reference), and the cells that hold it -/
abbrev St : Type := (Nat → Int32) × (Nat → Int64) × (Nat → Nat → Int32) × (Nat → Nat → Int64)
def gI (σ : St) (k : Nat) : Int32 := σ.1 k
def gJ (σ : St) (k : Nat) : Int64 := σ.2.1 k
def gA (σ : St) (k : Nat) : Nat → Int32 := σ.2.2.1 k
def gB (σ : St) (k : Nat) : Nat → Int64 := σ.2.2.2 k
def uI (σ : St) (k : Nat) (v : Int32) : St := (fun j => if j = k then v else σ.1 j, σ.2)
def uJ (σ : St) (k : Nat) (v : Int64) : St := (σ.1, fun j => if j = k then v else σ.2.1 j, σ.2.2)
def uA (σ : St) (k i : Nat) (v : Int32) : St := (σ.1, σ.2.1, fun j => if j = k then upd (σ.2.2.1 k) i v else σ.2.2.1 j, σ.2.2.2)
def uB (σ : St) (k i : Nat) (v : Int64) : St := (σ.1, σ.2.1, σ.2.2.1, fun j => if j = k then vp_updL (σ.2.2.2 k) i v else σ.2.2.2 j)
theorem gI_uI (σ : St) (k j : Nat) (v : Int32) : gI (uI σ k v) j = if j = k then v else gI σ j := rfl
theorem gI_uJ (σ : St) (k j : Nat) (v : Int64) : gI (uJ σ k v) j = gI σ j := rfl
theorem gI_uA (σ : St) (k i j : Nat) (v : Int32) : gI (uA σ k i v) j = gI σ j := rfl
theorem gI_uB (σ : St) (k i j : Nat) (v : Int64) : gI (uB σ k i v) j = gI σ j := rfl
theorem gJ_uI (σ : St) (k j : Nat) (v : Int32) : gJ (uI σ k v) j = gJ σ j := rfl
theorem gJ_uJ (σ : St) (k j : Nat) (v : Int64) : gJ (uJ σ k v) j = if j = k then v else gJ σ j := rfl
theorem gJ_uA (σ : St) (k i j : Nat) (v : Int32) : gJ (uA σ k i v) j = gJ σ j := rfl
theorem gJ_uB (σ : St) (k i j : Nat) (v : Int64) : gJ (uB σ k i v) j = gJ σ j := rfl
theorem gA_uI (σ : St) (k j : Nat) (v : Int32) : gA (uI σ k v) j = gA σ j := rfl
theorem gA_uJ (σ : St) (k j : Nat) (v : Int64) : gA (uJ σ k v) j = gA σ j := rfl
theorem gA_uA (σ : St) (k i j : Nat) (v : Int32) : gA (uA σ k i v) j = if j = k then upd (gA σ k) i v else gA σ j := rfl
theorem gA_uB (σ : St) (k i j : Nat) (v : Int64) : gA (uB σ k i v) j = gA σ j := rfl
theorem gB_uI (σ : St) (k j : Nat) (v : Int32) : gB (uI σ k v) j = gB σ j := rfl
theorem gB_uJ (σ : St) (k j : Nat) (v : Int64) : gB (uJ σ k v) j = gB σ j := rfl
theorem gB_uA (σ : St) (k i j : Nat) (v : Int32) : gB (uA σ k i v) j = gB σ j := rfl
theorem gB_uB (σ : St) (k i j : Nat) (v : Int64) : gB (uB σ k i v) j = if j = k then vp_updL (gB σ k) i v else gB σ j := rfl
/-- the layout: addresses of the cells; classes of int, long, boolean arrays and of Row[]; classes' numbers and slots; the heap's size at the start; the two tables' addresses -/
abbrev LY : Type := (Nat → Nat) × (ClassId × ClassId × ClassId × ClassId) × va_G × (Nat × Nat × Nat)
def adr (Λ : LY) (k : Nat) : Nat := Λ.1 k
def cI (Λ : LY) : ClassId := Λ.2.1.1
def cJ (Λ : LY) : ClassId := Λ.2.1.2.1
def cZ (Λ : LY) : ClassId := Λ.2.1.2.2.1
def cR (Λ : LY) : ClassId := Λ.2.1.2.2.2
def dG (Λ : LY) : va_G := Λ.2.2.1
def s0 (Λ : LY) : Nat := Λ.2.2.2.1
def bC (Λ : LY) : Nat := Λ.2.2.2.2.1
def bS (Λ : LY) : Nat := Λ.2.2.2.2.2
def AA (Λ : LY) : Nat → Prop := fun q => s0 Λ ≤ q
def tyL (Λ : LY) : List (ClassId × FieldType) := [(cI Λ, .int), (cJ Λ, .long), (cZ Λ, .boolean), (cR Λ, .object "SunRows$Row")]
def Wd (Λ : LY) (σ : St) : va_W := [
  (adr Λ 0, .inr (9, [.ref (adr Λ 1), .ref (adr Λ 2), .ref (adr Λ 3), .ref (adr Λ 4), .ref (adr Λ 5), .ref (adr Λ 6), .ref (adr Λ 7), .ref (adr Λ 8), .int (gI σ 0), .int (gI σ 1)])),
  (adr Λ 1, .inr (0, [.ref (adr Λ 9), .ref (adr Λ 10), .ref (adr Λ 11), .ref (adr Λ 12), .ref (adr Λ 13), .int (gI σ 2), .int (gI σ 3)])),
  (adr Λ 2, .inr (4, [.ref (adr Λ 14), .ref (adr Λ 15)])),
  (adr Λ 3, .inr (5, [.ref (adr Λ 16), .ref (adr Λ 17), .int (gI σ 4)])),
  (adr Λ 4, .inr (8, [.ref (adr Λ 18), .ref (adr Λ 19), .int (gI σ 5), .int (gI σ 6), .int (gI σ 7)])),
  (adr Λ 5, .inr (1, [.ref (adr Λ 20), .ref (adr Λ 21), .int (gI σ 8), .int (gI σ 9), .int (gI σ 10)])),
  (adr Λ 6, .inr (7, [.int (gI σ 11), .long (gJ σ 0)])),
  (adr Λ 7, .inr (6, [.ref (adr Λ 22), .int (gI σ 12)])),
  (adr Λ 8, .inl (cI Λ, 5, .inl (gA σ 0))),
  (adr Λ 9, .inl (cR Λ, 10, .inr (.inr (.inr (.inr (fun i => some (adr Λ (27 + i)))))))),
  (adr Λ 10, .inr (2, [.ref (adr Λ 23), .ref (adr Λ 24), .ref (adr Λ 25), .ref (adr Λ 26), .int (gI σ 13)])),
  (adr Λ 11, .inl (cJ Λ, 10, .inr (.inl (gB σ 0)))),
  (adr Λ 12, .inl (cJ Λ, 10, .inr (.inl (gB σ 1)))),
  (adr Λ 13, .inl (cI Λ, 10, .inl (gA σ 1))),
  (adr Λ 14, .inl (cI Λ, 24, .inl (gA σ 2))),
  (adr Λ 15, .inl (cI Λ, 24, .inl (gA σ 3))),
  (adr Λ 16, .inl (cI Λ, 4, .inl (gA σ 4))),
  (adr Λ 17, .inl (cI Λ, 10, .inl (gA σ 5))),
  (adr Λ 18, .inl (cI Λ, 24, .inl (gA σ 6))),
  (adr Λ 19, .inl (cZ Λ, 24, .inl (gA σ 7))),
  (adr Λ 20, .inl (cJ Λ, 6, .inr (.inl (gB σ 2)))),
  (adr Λ 21, .inl (cJ Λ, 6, .inr (.inl (gB σ 3)))),
  (adr Λ 22, .inl (cI Λ, 72, .inl (gA σ 8))),
  (adr Λ 23, .inl (cJ Λ, 10, .inr (.inl (gB σ 4)))),
  (adr Λ 24, .inl (cJ Λ, 10, .inr (.inl (gB σ 5)))),
  (adr Λ 25, .inl (cJ Λ, 10, .inr (.inl (gB σ 6)))),
  (adr Λ 26, .inl (cJ Λ, 10, .inr (.inl (gB σ 7)))),
  (adr Λ 27, .inr (3, [.int (gA σ 10 0), .int (gA σ 11 0), .int (gA σ 12 0), .int (gA σ 13 0), .int (gA σ 14 0), .int (gA σ 15 0), .int (gA σ 16 0)])),
  (adr Λ 28, .inr (3, [.int (gA σ 10 1), .int (gA σ 11 1), .int (gA σ 12 1), .int (gA σ 13 1), .int (gA σ 14 1), .int (gA σ 15 1), .int (gA σ 16 1)])),
  (adr Λ 29, .inr (3, [.int (gA σ 10 2), .int (gA σ 11 2), .int (gA σ 12 2), .int (gA σ 13 2), .int (gA σ 14 2), .int (gA σ 15 2), .int (gA σ 16 2)])),
  (adr Λ 30, .inr (3, [.int (gA σ 10 3), .int (gA σ 11 3), .int (gA σ 12 3), .int (gA σ 13 3), .int (gA σ 14 3), .int (gA σ 15 3), .int (gA σ 16 3)])),
  (adr Λ 31, .inr (3, [.int (gA σ 10 4), .int (gA σ 11 4), .int (gA σ 12 4), .int (gA σ 13 4), .int (gA σ 14 4), .int (gA σ 15 4), .int (gA σ 16 4)])),
  (adr Λ 32, .inr (3, [.int (gA σ 10 5), .int (gA σ 11 5), .int (gA σ 12 5), .int (gA σ 13 5), .int (gA σ 14 5), .int (gA σ 15 5), .int (gA σ 16 5)])),
  (adr Λ 33, .inr (3, [.int (gA σ 10 6), .int (gA σ 11 6), .int (gA σ 12 6), .int (gA σ 13 6), .int (gA σ 14 6), .int (gA σ 15 6), .int (gA σ 16 6)])),
  (adr Λ 34, .inr (3, [.int (gA σ 10 7), .int (gA σ 11 7), .int (gA σ 12 7), .int (gA σ 13 7), .int (gA σ 14 7), .int (gA σ 15 7), .int (gA σ 16 7)])),
  (adr Λ 35, .inr (3, [.int (gA σ 10 8), .int (gA σ 11 8), .int (gA σ 12 8), .int (gA σ 13 8), .int (gA σ 14 8), .int (gA σ 15 8), .int (gA σ 16 8)])),
  (adr Λ 36, .inr (3, [.int (gA σ 10 9), .int (gA σ 11 9), .int (gA σ 12 9), .int (gA σ 13 9), .int (gA σ 14 9), .int (gA σ 15 9), .int (gA σ 16 9)])),
  (adr Λ 37, .inr (10, [.int (gI σ 20), .ref (adr Λ 38), .ref (adr Λ 39), .ref (adr Λ 40), .ref (adr Λ 41), .ref (adr Λ 42), .ref (adr Λ 43), .ref (adr Λ 44), .ref (adr Λ 45), .ref (adr Λ 46), .ref (adr Λ 47), .ref (adr Λ 48), .ref (adr Λ 49), .int (gI σ 21), .int (gI σ 22), .int (gI σ 23), .int (gI σ 24), .int (gI σ 25), .int (gI σ 26), .int (gI σ 27), .ref (adr Λ 50), .ref (adr Λ 51), .int (gI σ 28), .ref (adr Λ 52), .ref (adr Λ 53), .int (gI σ 29), .ref (adr Λ 54), .int (gI σ 30)])),
  (adr Λ 38, .inl (cI Λ, 10, .inl (gA σ 20))),
  (adr Λ 39, .inl (cI Λ, 10, .inl (gA σ 21))),
  (adr Λ 40, .inl (cI Λ, 10, .inl (gA σ 22))),
  (adr Λ 41, .inl (cI Λ, 10, .inl (gA σ 23))),
  (adr Λ 42, .inl (cI Λ, 10, .inl (gA σ 24))),
  (adr Λ 43, .inl (cI Λ, 10, .inl (gA σ 25))),
  (adr Λ 44, .inl (cI Λ, 10, .inl (gA σ 26))),
  (adr Λ 45, .inl (cI Λ, 24, .inl (gA σ 27))),
  (adr Λ 46, .inl (cI Λ, 24, .inl (gA σ 28))),
  (adr Λ 47, .inl (cI Λ, 24, .inl (gA σ 29))),
  (adr Λ 48, .inl (cZ Λ, 24, .inl (gA σ 30))),
  (adr Λ 49, .inl (cI Λ, 4, .inl (gA σ 31))),
  (adr Λ 50, .inl (cJ Λ, 8, .inr (.inl (gB σ 10)))),
  (adr Λ 51, .inl (cJ Λ, 6, .inr (.inl (gB σ 11)))),
  (adr Λ 52, .inl (cI Λ, 72, .inl (gA σ 32))),
  (adr Λ 53, .inl (cI Λ, 6, .inl (gA σ 33))),
  (adr Λ 54, .inl (cJ Λ, 10, .inr (.inl (gB σ 12))))]
theorem wd0 (Λ : LY) (σ : St) : (Wd Λ σ)[0]? = some (adr Λ 0, .inr (9, [.ref (adr Λ 1), .ref (adr Λ 2), .ref (adr Λ 3), .ref (adr Λ 4), .ref (adr Λ 5), .ref (adr Λ 6), .ref (adr Λ 7), .ref (adr Λ 8), .int (gI σ 0), .int (gI σ 1)])) := rfl
theorem wd1 (Λ : LY) (σ : St) : (Wd Λ σ)[1]? = some (adr Λ 1, .inr (0, [.ref (adr Λ 9), .ref (adr Λ 10), .ref (adr Λ 11), .ref (adr Λ 12), .ref (adr Λ 13), .int (gI σ 2), .int (gI σ 3)])) := rfl
theorem wd2 (Λ : LY) (σ : St) : (Wd Λ σ)[2]? = some (adr Λ 2, .inr (4, [.ref (adr Λ 14), .ref (adr Λ 15)])) := rfl
theorem wd3 (Λ : LY) (σ : St) : (Wd Λ σ)[3]? = some (adr Λ 3, .inr (5, [.ref (adr Λ 16), .ref (adr Λ 17), .int (gI σ 4)])) := rfl
theorem wd4 (Λ : LY) (σ : St) : (Wd Λ σ)[4]? = some (adr Λ 4, .inr (8, [.ref (adr Λ 18), .ref (adr Λ 19), .int (gI σ 5), .int (gI σ 6), .int (gI σ 7)])) := rfl
theorem wd5 (Λ : LY) (σ : St) : (Wd Λ σ)[5]? = some (adr Λ 5, .inr (1, [.ref (adr Λ 20), .ref (adr Λ 21), .int (gI σ 8), .int (gI σ 9), .int (gI σ 10)])) := rfl
theorem wd6 (Λ : LY) (σ : St) : (Wd Λ σ)[6]? = some (adr Λ 6, .inr (7, [.int (gI σ 11), .long (gJ σ 0)])) := rfl
theorem wd7 (Λ : LY) (σ : St) : (Wd Λ σ)[7]? = some (adr Λ 7, .inr (6, [.ref (adr Λ 22), .int (gI σ 12)])) := rfl
theorem wd8 (Λ : LY) (σ : St) : (Wd Λ σ)[8]? = some (adr Λ 8, .inl (cI Λ, 5, .inl (gA σ 0))) := rfl
theorem wd9 (Λ : LY) (σ : St) : (Wd Λ σ)[9]? = some (adr Λ 9, .inl (cR Λ, 10, .inr (.inr (.inr (.inr (fun i => some (adr Λ (27 + i)))))))) := rfl
theorem wd10 (Λ : LY) (σ : St) : (Wd Λ σ)[10]? = some (adr Λ 10, .inr (2, [.ref (adr Λ 23), .ref (adr Λ 24), .ref (adr Λ 25), .ref (adr Λ 26), .int (gI σ 13)])) := rfl
theorem wd11 (Λ : LY) (σ : St) : (Wd Λ σ)[11]? = some (adr Λ 11, .inl (cJ Λ, 10, .inr (.inl (gB σ 0)))) := rfl
theorem wd12 (Λ : LY) (σ : St) : (Wd Λ σ)[12]? = some (adr Λ 12, .inl (cJ Λ, 10, .inr (.inl (gB σ 1)))) := rfl
theorem wd13 (Λ : LY) (σ : St) : (Wd Λ σ)[13]? = some (adr Λ 13, .inl (cI Λ, 10, .inl (gA σ 1))) := rfl
theorem wd14 (Λ : LY) (σ : St) : (Wd Λ σ)[14]? = some (adr Λ 14, .inl (cI Λ, 24, .inl (gA σ 2))) := rfl
theorem wd15 (Λ : LY) (σ : St) : (Wd Λ σ)[15]? = some (adr Λ 15, .inl (cI Λ, 24, .inl (gA σ 3))) := rfl
theorem wd16 (Λ : LY) (σ : St) : (Wd Λ σ)[16]? = some (adr Λ 16, .inl (cI Λ, 4, .inl (gA σ 4))) := rfl
theorem wd17 (Λ : LY) (σ : St) : (Wd Λ σ)[17]? = some (adr Λ 17, .inl (cI Λ, 10, .inl (gA σ 5))) := rfl
theorem wd18 (Λ : LY) (σ : St) : (Wd Λ σ)[18]? = some (adr Λ 18, .inl (cI Λ, 24, .inl (gA σ 6))) := rfl
theorem wd19 (Λ : LY) (σ : St) : (Wd Λ σ)[19]? = some (adr Λ 19, .inl (cZ Λ, 24, .inl (gA σ 7))) := rfl
theorem wd20 (Λ : LY) (σ : St) : (Wd Λ σ)[20]? = some (adr Λ 20, .inl (cJ Λ, 6, .inr (.inl (gB σ 2)))) := rfl
theorem wd21 (Λ : LY) (σ : St) : (Wd Λ σ)[21]? = some (adr Λ 21, .inl (cJ Λ, 6, .inr (.inl (gB σ 3)))) := rfl
theorem wd22 (Λ : LY) (σ : St) : (Wd Λ σ)[22]? = some (adr Λ 22, .inl (cI Λ, 72, .inl (gA σ 8))) := rfl
theorem wd23 (Λ : LY) (σ : St) : (Wd Λ σ)[23]? = some (adr Λ 23, .inl (cJ Λ, 10, .inr (.inl (gB σ 4)))) := rfl
theorem wd24 (Λ : LY) (σ : St) : (Wd Λ σ)[24]? = some (adr Λ 24, .inl (cJ Λ, 10, .inr (.inl (gB σ 5)))) := rfl
theorem wd25 (Λ : LY) (σ : St) : (Wd Λ σ)[25]? = some (adr Λ 25, .inl (cJ Λ, 10, .inr (.inl (gB σ 6)))) := rfl
theorem wd26 (Λ : LY) (σ : St) : (Wd Λ σ)[26]? = some (adr Λ 26, .inl (cJ Λ, 10, .inr (.inl (gB σ 7)))) := rfl
theorem wd37 (Λ : LY) (σ : St) : (Wd Λ σ)[37]? = some (adr Λ 37, .inr (10, [.int (gI σ 20), .ref (adr Λ 38), .ref (adr Λ 39), .ref (adr Λ 40), .ref (adr Λ 41), .ref (adr Λ 42), .ref (adr Λ 43), .ref (adr Λ 44), .ref (adr Λ 45), .ref (adr Λ 46), .ref (adr Λ 47), .ref (adr Λ 48), .ref (adr Λ 49), .int (gI σ 21), .int (gI σ 22), .int (gI σ 23), .int (gI σ 24), .int (gI σ 25), .int (gI σ 26), .int (gI σ 27), .ref (adr Λ 50), .ref (adr Λ 51), .int (gI σ 28), .ref (adr Λ 52), .ref (adr Λ 53), .int (gI σ 29), .ref (adr Λ 54), .int (gI σ 30)])) := rfl
theorem wd38 (Λ : LY) (σ : St) : (Wd Λ σ)[38]? = some (adr Λ 38, .inl (cI Λ, 10, .inl (gA σ 20))) := rfl
theorem wd39 (Λ : LY) (σ : St) : (Wd Λ σ)[39]? = some (adr Λ 39, .inl (cI Λ, 10, .inl (gA σ 21))) := rfl
theorem wd40 (Λ : LY) (σ : St) : (Wd Λ σ)[40]? = some (adr Λ 40, .inl (cI Λ, 10, .inl (gA σ 22))) := rfl
theorem wd41 (Λ : LY) (σ : St) : (Wd Λ σ)[41]? = some (adr Λ 41, .inl (cI Λ, 10, .inl (gA σ 23))) := rfl
theorem wd42 (Λ : LY) (σ : St) : (Wd Λ σ)[42]? = some (adr Λ 42, .inl (cI Λ, 10, .inl (gA σ 24))) := rfl
theorem wd43 (Λ : LY) (σ : St) : (Wd Λ σ)[43]? = some (adr Λ 43, .inl (cI Λ, 10, .inl (gA σ 25))) := rfl
theorem wd44 (Λ : LY) (σ : St) : (Wd Λ σ)[44]? = some (adr Λ 44, .inl (cI Λ, 10, .inl (gA σ 26))) := rfl
theorem wd45 (Λ : LY) (σ : St) : (Wd Λ σ)[45]? = some (adr Λ 45, .inl (cI Λ, 24, .inl (gA σ 27))) := rfl
theorem wd46 (Λ : LY) (σ : St) : (Wd Λ σ)[46]? = some (adr Λ 46, .inl (cI Λ, 24, .inl (gA σ 28))) := rfl
theorem wd47 (Λ : LY) (σ : St) : (Wd Λ σ)[47]? = some (adr Λ 47, .inl (cI Λ, 24, .inl (gA σ 29))) := rfl
theorem wd48 (Λ : LY) (σ : St) : (Wd Λ σ)[48]? = some (adr Λ 48, .inl (cZ Λ, 24, .inl (gA σ 30))) := rfl
theorem wd49 (Λ : LY) (σ : St) : (Wd Λ σ)[49]? = some (adr Λ 49, .inl (cI Λ, 4, .inl (gA σ 31))) := rfl
theorem wd50 (Λ : LY) (σ : St) : (Wd Λ σ)[50]? = some (adr Λ 50, .inl (cJ Λ, 8, .inr (.inl (gB σ 10)))) := rfl
theorem wd51 (Λ : LY) (σ : St) : (Wd Λ σ)[51]? = some (adr Λ 51, .inl (cJ Λ, 6, .inr (.inl (gB σ 11)))) := rfl
theorem wd52 (Λ : LY) (σ : St) : (Wd Λ σ)[52]? = some (adr Λ 52, .inl (cI Λ, 72, .inl (gA σ 32))) := rfl
theorem wd53 (Λ : LY) (σ : St) : (Wd Λ σ)[53]? = some (adr Λ 53, .inl (cI Λ, 6, .inl (gA σ 33))) := rfl
theorem wd54 (Λ : LY) (σ : St) : (Wd Λ σ)[54]? = some (adr Λ 54, .inl (cJ Λ, 10, .inr (.inl (gB σ 12)))) := rfl
theorem wdR (Λ : LY) (σ : St) : ∀ i : Nat, i < 10 → (Wd Λ σ)[27 + i]? = some (adr Λ (27 + i), .inr (3, [.int (gA σ 10 i), .int (gA σ 11 i), .int (gA σ 12 i), .int (gA σ 13 i), .int (gA σ 14 i), .int (gA σ 15 i), .int (gA σ 16 i)]))
  | 0, _ => rfl
  | 1, _ => rfl
  | 2, _ => rfl
  | 3, _ => rfl
  | 4, _ => rfl
  | 5, _ => rfl
  | 6, _ => rfl
  | 7, _ => rfl
  | 8, _ => rfl
  | 9, _ => rfl
  | n + 10, h => absurd h (by omega)
theorem ws0_8 (Λ : LY) (σ : St) (v : Int32) : (Wd Λ σ).set 0 (adr Λ 0, .inr (9, ([.ref (adr Λ 1), .ref (adr Λ 2), .ref (adr Λ 3), .ref (adr Λ 4), .ref (adr Λ 5), .ref (adr Λ 6), .ref (adr Λ 7), .ref (adr Λ 8), .int (gI σ 0), .int (gI σ 1)] : List Value).set 8 (.int v))) = Wd Λ (uI σ 0 v) := rfl
theorem ws0_9 (Λ : LY) (σ : St) (v : Int32) : (Wd Λ σ).set 0 (adr Λ 0, .inr (9, ([.ref (adr Λ 1), .ref (adr Λ 2), .ref (adr Λ 3), .ref (adr Λ 4), .ref (adr Λ 5), .ref (adr Λ 6), .ref (adr Λ 7), .ref (adr Λ 8), .int (gI σ 0), .int (gI σ 1)] : List Value).set 9 (.int v))) = Wd Λ (uI σ 1 v) := rfl
theorem ws1_5 (Λ : LY) (σ : St) (v : Int32) : (Wd Λ σ).set 1 (adr Λ 1, .inr (0, ([.ref (adr Λ 9), .ref (adr Λ 10), .ref (adr Λ 11), .ref (adr Λ 12), .ref (adr Λ 13), .int (gI σ 2), .int (gI σ 3)] : List Value).set 5 (.int v))) = Wd Λ (uI σ 2 v) := rfl
theorem ws1_6 (Λ : LY) (σ : St) (v : Int32) : (Wd Λ σ).set 1 (adr Λ 1, .inr (0, ([.ref (adr Λ 9), .ref (adr Λ 10), .ref (adr Λ 11), .ref (adr Λ 12), .ref (adr Λ 13), .int (gI σ 2), .int (gI σ 3)] : List Value).set 6 (.int v))) = Wd Λ (uI σ 3 v) := rfl
theorem ws3_2 (Λ : LY) (σ : St) (v : Int32) : (Wd Λ σ).set 3 (adr Λ 3, .inr (5, ([.ref (adr Λ 16), .ref (adr Λ 17), .int (gI σ 4)] : List Value).set 2 (.int v))) = Wd Λ (uI σ 4 v) := rfl
theorem ws4_2 (Λ : LY) (σ : St) (v : Int32) : (Wd Λ σ).set 4 (adr Λ 4, .inr (8, ([.ref (adr Λ 18), .ref (adr Λ 19), .int (gI σ 5), .int (gI σ 6), .int (gI σ 7)] : List Value).set 2 (.int v))) = Wd Λ (uI σ 5 v) := rfl
theorem ws4_3 (Λ : LY) (σ : St) (v : Int32) : (Wd Λ σ).set 4 (adr Λ 4, .inr (8, ([.ref (adr Λ 18), .ref (adr Λ 19), .int (gI σ 5), .int (gI σ 6), .int (gI σ 7)] : List Value).set 3 (.int v))) = Wd Λ (uI σ 6 v) := rfl
theorem ws4_4 (Λ : LY) (σ : St) (v : Int32) : (Wd Λ σ).set 4 (adr Λ 4, .inr (8, ([.ref (adr Λ 18), .ref (adr Λ 19), .int (gI σ 5), .int (gI σ 6), .int (gI σ 7)] : List Value).set 4 (.int v))) = Wd Λ (uI σ 7 v) := rfl
theorem ws5_2 (Λ : LY) (σ : St) (v : Int32) : (Wd Λ σ).set 5 (adr Λ 5, .inr (1, ([.ref (adr Λ 20), .ref (adr Λ 21), .int (gI σ 8), .int (gI σ 9), .int (gI σ 10)] : List Value).set 2 (.int v))) = Wd Λ (uI σ 8 v) := rfl
theorem ws5_3 (Λ : LY) (σ : St) (v : Int32) : (Wd Λ σ).set 5 (adr Λ 5, .inr (1, ([.ref (adr Λ 20), .ref (adr Λ 21), .int (gI σ 8), .int (gI σ 9), .int (gI σ 10)] : List Value).set 3 (.int v))) = Wd Λ (uI σ 9 v) := rfl
theorem ws5_4 (Λ : LY) (σ : St) (v : Int32) : (Wd Λ σ).set 5 (adr Λ 5, .inr (1, ([.ref (adr Λ 20), .ref (adr Λ 21), .int (gI σ 8), .int (gI σ 9), .int (gI σ 10)] : List Value).set 4 (.int v))) = Wd Λ (uI σ 10 v) := rfl
theorem ws6_0 (Λ : LY) (σ : St) (v : Int32) : (Wd Λ σ).set 6 (adr Λ 6, .inr (7, ([.int (gI σ 11), .long (gJ σ 0)] : List Value).set 0 (.int v))) = Wd Λ (uI σ 11 v) := rfl
theorem ws6_1 (Λ : LY) (σ : St) (v : Int64) : (Wd Λ σ).set 6 (adr Λ 6, .inr (7, ([.int (gI σ 11), .long (gJ σ 0)] : List Value).set 1 (.long v))) = Wd Λ (uJ σ 0 v) := rfl
theorem ws7_1 (Λ : LY) (σ : St) (v : Int32) : (Wd Λ σ).set 7 (adr Λ 7, .inr (6, ([.ref (adr Λ 22), .int (gI σ 12)] : List Value).set 1 (.int v))) = Wd Λ (uI σ 12 v) := rfl
theorem ws8 (Λ : LY) (σ : St) (i : Nat) (v : Int32) : (Wd Λ σ).set 8 (adr Λ 8, .inl (cI Λ, 5, .inl (upd (gA σ 0) i v))) = Wd Λ (uA σ 0 i v) := rfl
theorem ws10_4 (Λ : LY) (σ : St) (v : Int32) : (Wd Λ σ).set 10 (adr Λ 10, .inr (2, ([.ref (adr Λ 23), .ref (adr Λ 24), .ref (adr Λ 25), .ref (adr Λ 26), .int (gI σ 13)] : List Value).set 4 (.int v))) = Wd Λ (uI σ 13 v) := rfl
theorem ws11 (Λ : LY) (σ : St) (i : Nat) (v : Int64) : (Wd Λ σ).set 11 (adr Λ 11, .inl (cJ Λ, 10, .inr (.inl (vp_updL (gB σ 0) i v)))) = Wd Λ (uB σ 0 i v) := rfl
theorem ws12 (Λ : LY) (σ : St) (i : Nat) (v : Int64) : (Wd Λ σ).set 12 (adr Λ 12, .inl (cJ Λ, 10, .inr (.inl (vp_updL (gB σ 1) i v)))) = Wd Λ (uB σ 1 i v) := rfl
theorem ws13 (Λ : LY) (σ : St) (i : Nat) (v : Int32) : (Wd Λ σ).set 13 (adr Λ 13, .inl (cI Λ, 10, .inl (upd (gA σ 1) i v))) = Wd Λ (uA σ 1 i v) := rfl
theorem ws14 (Λ : LY) (σ : St) (i : Nat) (v : Int32) : (Wd Λ σ).set 14 (adr Λ 14, .inl (cI Λ, 24, .inl (upd (gA σ 2) i v))) = Wd Λ (uA σ 2 i v) := rfl
theorem ws15 (Λ : LY) (σ : St) (i : Nat) (v : Int32) : (Wd Λ σ).set 15 (adr Λ 15, .inl (cI Λ, 24, .inl (upd (gA σ 3) i v))) = Wd Λ (uA σ 3 i v) := rfl
theorem ws16 (Λ : LY) (σ : St) (i : Nat) (v : Int32) : (Wd Λ σ).set 16 (adr Λ 16, .inl (cI Λ, 4, .inl (upd (gA σ 4) i v))) = Wd Λ (uA σ 4 i v) := rfl
theorem ws17 (Λ : LY) (σ : St) (i : Nat) (v : Int32) : (Wd Λ σ).set 17 (adr Λ 17, .inl (cI Λ, 10, .inl (upd (gA σ 5) i v))) = Wd Λ (uA σ 5 i v) := rfl
theorem ws18 (Λ : LY) (σ : St) (i : Nat) (v : Int32) : (Wd Λ σ).set 18 (adr Λ 18, .inl (cI Λ, 24, .inl (upd (gA σ 6) i v))) = Wd Λ (uA σ 6 i v) := rfl
theorem ws19 (Λ : LY) (σ : St) (i : Nat) (v : Int32) : (Wd Λ σ).set 19 (adr Λ 19, .inl (cZ Λ, 24, .inl (upd (gA σ 7) i v))) = Wd Λ (uA σ 7 i v) := rfl
theorem ws20 (Λ : LY) (σ : St) (i : Nat) (v : Int64) : (Wd Λ σ).set 20 (adr Λ 20, .inl (cJ Λ, 6, .inr (.inl (vp_updL (gB σ 2) i v)))) = Wd Λ (uB σ 2 i v) := rfl
theorem ws21 (Λ : LY) (σ : St) (i : Nat) (v : Int64) : (Wd Λ σ).set 21 (adr Λ 21, .inl (cJ Λ, 6, .inr (.inl (vp_updL (gB σ 3) i v)))) = Wd Λ (uB σ 3 i v) := rfl
theorem ws22 (Λ : LY) (σ : St) (i : Nat) (v : Int32) : (Wd Λ σ).set 22 (adr Λ 22, .inl (cI Λ, 72, .inl (upd (gA σ 8) i v))) = Wd Λ (uA σ 8 i v) := rfl
theorem ws23 (Λ : LY) (σ : St) (i : Nat) (v : Int64) : (Wd Λ σ).set 23 (adr Λ 23, .inl (cJ Λ, 10, .inr (.inl (vp_updL (gB σ 4) i v)))) = Wd Λ (uB σ 4 i v) := rfl
theorem ws24 (Λ : LY) (σ : St) (i : Nat) (v : Int64) : (Wd Λ σ).set 24 (adr Λ 24, .inl (cJ Λ, 10, .inr (.inl (vp_updL (gB σ 5) i v)))) = Wd Λ (uB σ 5 i v) := rfl
theorem ws25 (Λ : LY) (σ : St) (i : Nat) (v : Int64) : (Wd Λ σ).set 25 (adr Λ 25, .inl (cJ Λ, 10, .inr (.inl (vp_updL (gB σ 6) i v)))) = Wd Λ (uB σ 6 i v) := rfl
theorem ws26 (Λ : LY) (σ : St) (i : Nat) (v : Int64) : (Wd Λ σ).set 26 (adr Λ 26, .inl (cJ Λ, 10, .inr (.inl (vp_updL (gB σ 7) i v)))) = Wd Λ (uB σ 7 i v) := rfl
theorem ws37_0 (Λ : LY) (σ : St) (v : Int32) : (Wd Λ σ).set 37 (adr Λ 37, .inr (10, ([.int (gI σ 20), .ref (adr Λ 38), .ref (adr Λ 39), .ref (adr Λ 40), .ref (adr Λ 41), .ref (adr Λ 42), .ref (adr Λ 43), .ref (adr Λ 44), .ref (adr Λ 45), .ref (adr Λ 46), .ref (adr Λ 47), .ref (adr Λ 48), .ref (adr Λ 49), .int (gI σ 21), .int (gI σ 22), .int (gI σ 23), .int (gI σ 24), .int (gI σ 25), .int (gI σ 26), .int (gI σ 27), .ref (adr Λ 50), .ref (adr Λ 51), .int (gI σ 28), .ref (adr Λ 52), .ref (adr Λ 53), .int (gI σ 29), .ref (adr Λ 54), .int (gI σ 30)] : List Value).set 0 (.int v))) = Wd Λ (uI σ 20 v) := rfl
theorem ws37_13 (Λ : LY) (σ : St) (v : Int32) : (Wd Λ σ).set 37 (adr Λ 37, .inr (10, ([.int (gI σ 20), .ref (adr Λ 38), .ref (adr Λ 39), .ref (adr Λ 40), .ref (adr Λ 41), .ref (adr Λ 42), .ref (adr Λ 43), .ref (adr Λ 44), .ref (adr Λ 45), .ref (adr Λ 46), .ref (adr Λ 47), .ref (adr Λ 48), .ref (adr Λ 49), .int (gI σ 21), .int (gI σ 22), .int (gI σ 23), .int (gI σ 24), .int (gI σ 25), .int (gI σ 26), .int (gI σ 27), .ref (adr Λ 50), .ref (adr Λ 51), .int (gI σ 28), .ref (adr Λ 52), .ref (adr Λ 53), .int (gI σ 29), .ref (adr Λ 54), .int (gI σ 30)] : List Value).set 13 (.int v))) = Wd Λ (uI σ 21 v) := rfl
theorem ws37_14 (Λ : LY) (σ : St) (v : Int32) : (Wd Λ σ).set 37 (adr Λ 37, .inr (10, ([.int (gI σ 20), .ref (adr Λ 38), .ref (adr Λ 39), .ref (adr Λ 40), .ref (adr Λ 41), .ref (adr Λ 42), .ref (adr Λ 43), .ref (adr Λ 44), .ref (adr Λ 45), .ref (adr Λ 46), .ref (adr Λ 47), .ref (adr Λ 48), .ref (adr Λ 49), .int (gI σ 21), .int (gI σ 22), .int (gI σ 23), .int (gI σ 24), .int (gI σ 25), .int (gI σ 26), .int (gI σ 27), .ref (adr Λ 50), .ref (adr Λ 51), .int (gI σ 28), .ref (adr Λ 52), .ref (adr Λ 53), .int (gI σ 29), .ref (adr Λ 54), .int (gI σ 30)] : List Value).set 14 (.int v))) = Wd Λ (uI σ 22 v) := rfl
theorem ws37_15 (Λ : LY) (σ : St) (v : Int32) : (Wd Λ σ).set 37 (adr Λ 37, .inr (10, ([.int (gI σ 20), .ref (adr Λ 38), .ref (adr Λ 39), .ref (adr Λ 40), .ref (adr Λ 41), .ref (adr Λ 42), .ref (adr Λ 43), .ref (adr Λ 44), .ref (adr Λ 45), .ref (adr Λ 46), .ref (adr Λ 47), .ref (adr Λ 48), .ref (adr Λ 49), .int (gI σ 21), .int (gI σ 22), .int (gI σ 23), .int (gI σ 24), .int (gI σ 25), .int (gI σ 26), .int (gI σ 27), .ref (adr Λ 50), .ref (adr Λ 51), .int (gI σ 28), .ref (adr Λ 52), .ref (adr Λ 53), .int (gI σ 29), .ref (adr Λ 54), .int (gI σ 30)] : List Value).set 15 (.int v))) = Wd Λ (uI σ 23 v) := rfl
theorem ws37_16 (Λ : LY) (σ : St) (v : Int32) : (Wd Λ σ).set 37 (adr Λ 37, .inr (10, ([.int (gI σ 20), .ref (adr Λ 38), .ref (adr Λ 39), .ref (adr Λ 40), .ref (adr Λ 41), .ref (adr Λ 42), .ref (adr Λ 43), .ref (adr Λ 44), .ref (adr Λ 45), .ref (adr Λ 46), .ref (adr Λ 47), .ref (adr Λ 48), .ref (adr Λ 49), .int (gI σ 21), .int (gI σ 22), .int (gI σ 23), .int (gI σ 24), .int (gI σ 25), .int (gI σ 26), .int (gI σ 27), .ref (adr Λ 50), .ref (adr Λ 51), .int (gI σ 28), .ref (adr Λ 52), .ref (adr Λ 53), .int (gI σ 29), .ref (adr Λ 54), .int (gI σ 30)] : List Value).set 16 (.int v))) = Wd Λ (uI σ 24 v) := rfl
theorem ws37_17 (Λ : LY) (σ : St) (v : Int32) : (Wd Λ σ).set 37 (adr Λ 37, .inr (10, ([.int (gI σ 20), .ref (adr Λ 38), .ref (adr Λ 39), .ref (adr Λ 40), .ref (adr Λ 41), .ref (adr Λ 42), .ref (adr Λ 43), .ref (adr Λ 44), .ref (adr Λ 45), .ref (adr Λ 46), .ref (adr Λ 47), .ref (adr Λ 48), .ref (adr Λ 49), .int (gI σ 21), .int (gI σ 22), .int (gI σ 23), .int (gI σ 24), .int (gI σ 25), .int (gI σ 26), .int (gI σ 27), .ref (adr Λ 50), .ref (adr Λ 51), .int (gI σ 28), .ref (adr Λ 52), .ref (adr Λ 53), .int (gI σ 29), .ref (adr Λ 54), .int (gI σ 30)] : List Value).set 17 (.int v))) = Wd Λ (uI σ 25 v) := rfl
theorem ws37_18 (Λ : LY) (σ : St) (v : Int32) : (Wd Λ σ).set 37 (adr Λ 37, .inr (10, ([.int (gI σ 20), .ref (adr Λ 38), .ref (adr Λ 39), .ref (adr Λ 40), .ref (adr Λ 41), .ref (adr Λ 42), .ref (adr Λ 43), .ref (adr Λ 44), .ref (adr Λ 45), .ref (adr Λ 46), .ref (adr Λ 47), .ref (adr Λ 48), .ref (adr Λ 49), .int (gI σ 21), .int (gI σ 22), .int (gI σ 23), .int (gI σ 24), .int (gI σ 25), .int (gI σ 26), .int (gI σ 27), .ref (adr Λ 50), .ref (adr Λ 51), .int (gI σ 28), .ref (adr Λ 52), .ref (adr Λ 53), .int (gI σ 29), .ref (adr Λ 54), .int (gI σ 30)] : List Value).set 18 (.int v))) = Wd Λ (uI σ 26 v) := rfl
theorem ws37_19 (Λ : LY) (σ : St) (v : Int32) : (Wd Λ σ).set 37 (adr Λ 37, .inr (10, ([.int (gI σ 20), .ref (adr Λ 38), .ref (adr Λ 39), .ref (adr Λ 40), .ref (adr Λ 41), .ref (adr Λ 42), .ref (adr Λ 43), .ref (adr Λ 44), .ref (adr Λ 45), .ref (adr Λ 46), .ref (adr Λ 47), .ref (adr Λ 48), .ref (adr Λ 49), .int (gI σ 21), .int (gI σ 22), .int (gI σ 23), .int (gI σ 24), .int (gI σ 25), .int (gI σ 26), .int (gI σ 27), .ref (adr Λ 50), .ref (adr Λ 51), .int (gI σ 28), .ref (adr Λ 52), .ref (adr Λ 53), .int (gI σ 29), .ref (adr Λ 54), .int (gI σ 30)] : List Value).set 19 (.int v))) = Wd Λ (uI σ 27 v) := rfl
theorem ws37_22 (Λ : LY) (σ : St) (v : Int32) : (Wd Λ σ).set 37 (adr Λ 37, .inr (10, ([.int (gI σ 20), .ref (adr Λ 38), .ref (adr Λ 39), .ref (adr Λ 40), .ref (adr Λ 41), .ref (adr Λ 42), .ref (adr Λ 43), .ref (adr Λ 44), .ref (adr Λ 45), .ref (adr Λ 46), .ref (adr Λ 47), .ref (adr Λ 48), .ref (adr Λ 49), .int (gI σ 21), .int (gI σ 22), .int (gI σ 23), .int (gI σ 24), .int (gI σ 25), .int (gI σ 26), .int (gI σ 27), .ref (adr Λ 50), .ref (adr Λ 51), .int (gI σ 28), .ref (adr Λ 52), .ref (adr Λ 53), .int (gI σ 29), .ref (adr Λ 54), .int (gI σ 30)] : List Value).set 22 (.int v))) = Wd Λ (uI σ 28 v) := rfl
theorem ws37_25 (Λ : LY) (σ : St) (v : Int32) : (Wd Λ σ).set 37 (adr Λ 37, .inr (10, ([.int (gI σ 20), .ref (adr Λ 38), .ref (adr Λ 39), .ref (adr Λ 40), .ref (adr Λ 41), .ref (adr Λ 42), .ref (adr Λ 43), .ref (adr Λ 44), .ref (adr Λ 45), .ref (adr Λ 46), .ref (adr Λ 47), .ref (adr Λ 48), .ref (adr Λ 49), .int (gI σ 21), .int (gI σ 22), .int (gI σ 23), .int (gI σ 24), .int (gI σ 25), .int (gI σ 26), .int (gI σ 27), .ref (adr Λ 50), .ref (adr Λ 51), .int (gI σ 28), .ref (adr Λ 52), .ref (adr Λ 53), .int (gI σ 29), .ref (adr Λ 54), .int (gI σ 30)] : List Value).set 25 (.int v))) = Wd Λ (uI σ 29 v) := rfl
theorem ws37_27 (Λ : LY) (σ : St) (v : Int32) : (Wd Λ σ).set 37 (adr Λ 37, .inr (10, ([.int (gI σ 20), .ref (adr Λ 38), .ref (adr Λ 39), .ref (adr Λ 40), .ref (adr Λ 41), .ref (adr Λ 42), .ref (adr Λ 43), .ref (adr Λ 44), .ref (adr Λ 45), .ref (adr Λ 46), .ref (adr Λ 47), .ref (adr Λ 48), .ref (adr Λ 49), .int (gI σ 21), .int (gI σ 22), .int (gI σ 23), .int (gI σ 24), .int (gI σ 25), .int (gI σ 26), .int (gI σ 27), .ref (adr Λ 50), .ref (adr Λ 51), .int (gI σ 28), .ref (adr Λ 52), .ref (adr Λ 53), .int (gI σ 29), .ref (adr Λ 54), .int (gI σ 30)] : List Value).set 27 (.int v))) = Wd Λ (uI σ 30 v) := rfl
theorem ws38 (Λ : LY) (σ : St) (i : Nat) (v : Int32) : (Wd Λ σ).set 38 (adr Λ 38, .inl (cI Λ, 10, .inl (upd (gA σ 20) i v))) = Wd Λ (uA σ 20 i v) := rfl
theorem ws39 (Λ : LY) (σ : St) (i : Nat) (v : Int32) : (Wd Λ σ).set 39 (adr Λ 39, .inl (cI Λ, 10, .inl (upd (gA σ 21) i v))) = Wd Λ (uA σ 21 i v) := rfl
theorem ws40 (Λ : LY) (σ : St) (i : Nat) (v : Int32) : (Wd Λ σ).set 40 (adr Λ 40, .inl (cI Λ, 10, .inl (upd (gA σ 22) i v))) = Wd Λ (uA σ 22 i v) := rfl
theorem ws41 (Λ : LY) (σ : St) (i : Nat) (v : Int32) : (Wd Λ σ).set 41 (adr Λ 41, .inl (cI Λ, 10, .inl (upd (gA σ 23) i v))) = Wd Λ (uA σ 23 i v) := rfl
theorem ws42 (Λ : LY) (σ : St) (i : Nat) (v : Int32) : (Wd Λ σ).set 42 (adr Λ 42, .inl (cI Λ, 10, .inl (upd (gA σ 24) i v))) = Wd Λ (uA σ 24 i v) := rfl
theorem ws43 (Λ : LY) (σ : St) (i : Nat) (v : Int32) : (Wd Λ σ).set 43 (adr Λ 43, .inl (cI Λ, 10, .inl (upd (gA σ 25) i v))) = Wd Λ (uA σ 25 i v) := rfl
theorem ws44 (Λ : LY) (σ : St) (i : Nat) (v : Int32) : (Wd Λ σ).set 44 (adr Λ 44, .inl (cI Λ, 10, .inl (upd (gA σ 26) i v))) = Wd Λ (uA σ 26 i v) := rfl
theorem ws45 (Λ : LY) (σ : St) (i : Nat) (v : Int32) : (Wd Λ σ).set 45 (adr Λ 45, .inl (cI Λ, 24, .inl (upd (gA σ 27) i v))) = Wd Λ (uA σ 27 i v) := rfl
theorem ws46 (Λ : LY) (σ : St) (i : Nat) (v : Int32) : (Wd Λ σ).set 46 (adr Λ 46, .inl (cI Λ, 24, .inl (upd (gA σ 28) i v))) = Wd Λ (uA σ 28 i v) := rfl
theorem ws47 (Λ : LY) (σ : St) (i : Nat) (v : Int32) : (Wd Λ σ).set 47 (adr Λ 47, .inl (cI Λ, 24, .inl (upd (gA σ 29) i v))) = Wd Λ (uA σ 29 i v) := rfl
theorem ws48 (Λ : LY) (σ : St) (i : Nat) (v : Int32) : (Wd Λ σ).set 48 (adr Λ 48, .inl (cZ Λ, 24, .inl (upd (gA σ 30) i v))) = Wd Λ (uA σ 30 i v) := rfl
theorem ws49 (Λ : LY) (σ : St) (i : Nat) (v : Int32) : (Wd Λ σ).set 49 (adr Λ 49, .inl (cI Λ, 4, .inl (upd (gA σ 31) i v))) = Wd Λ (uA σ 31 i v) := rfl
theorem ws50 (Λ : LY) (σ : St) (i : Nat) (v : Int64) : (Wd Λ σ).set 50 (adr Λ 50, .inl (cJ Λ, 8, .inr (.inl (vp_updL (gB σ 10) i v)))) = Wd Λ (uB σ 10 i v) := rfl
theorem ws51 (Λ : LY) (σ : St) (i : Nat) (v : Int64) : (Wd Λ σ).set 51 (adr Λ 51, .inl (cJ Λ, 6, .inr (.inl (vp_updL (gB σ 11) i v)))) = Wd Λ (uB σ 11 i v) := rfl
theorem ws52 (Λ : LY) (σ : St) (i : Nat) (v : Int32) : (Wd Λ σ).set 52 (adr Λ 52, .inl (cI Λ, 72, .inl (upd (gA σ 32) i v))) = Wd Λ (uA σ 32 i v) := rfl
theorem ws53 (Λ : LY) (σ : St) (i : Nat) (v : Int32) : (Wd Λ σ).set 53 (adr Λ 53, .inl (cI Λ, 6, .inl (upd (gA σ 33) i v))) = Wd Λ (uA σ 33 i v) := rfl
theorem ws54 (Λ : LY) (σ : St) (i : Nat) (v : Int64) : (Wd Λ σ).set 54 (adr Λ 54, .inl (cJ Λ, 10, .inr (.inl (vp_updL (gB σ 12) i v)))) = Wd Λ (uB σ 12 i v) := rfl
theorem wsR_0 (Λ : LY) (σ : St) (v : Int32) : ∀ i : Nat, i < 10 → (Wd Λ σ).set (27 + i) (adr Λ (27 + i), .inr (3, ([.int (gA σ 10 i), .int (gA σ 11 i), .int (gA σ 12 i), .int (gA σ 13 i), .int (gA σ 14 i), .int (gA σ 15 i), .int (gA σ 16 i)] : List Value).set 0 (.int v))) = Wd Λ (uA σ 10 i v)
  | 0, _ => rfl
  | 1, _ => rfl
  | 2, _ => rfl
  | 3, _ => rfl
  | 4, _ => rfl
  | 5, _ => rfl
  | 6, _ => rfl
  | 7, _ => rfl
  | 8, _ => rfl
  | 9, _ => rfl
  | n + 10, h => absurd h (by omega)
theorem wsR_1 (Λ : LY) (σ : St) (v : Int32) : ∀ i : Nat, i < 10 → (Wd Λ σ).set (27 + i) (adr Λ (27 + i), .inr (3, ([.int (gA σ 10 i), .int (gA σ 11 i), .int (gA σ 12 i), .int (gA σ 13 i), .int (gA σ 14 i), .int (gA σ 15 i), .int (gA σ 16 i)] : List Value).set 1 (.int v))) = Wd Λ (uA σ 11 i v)
  | 0, _ => rfl
  | 1, _ => rfl
  | 2, _ => rfl
  | 3, _ => rfl
  | 4, _ => rfl
  | 5, _ => rfl
  | 6, _ => rfl
  | 7, _ => rfl
  | 8, _ => rfl
  | 9, _ => rfl
  | n + 10, h => absurd h (by omega)
theorem wsR_2 (Λ : LY) (σ : St) (v : Int32) : ∀ i : Nat, i < 10 → (Wd Λ σ).set (27 + i) (adr Λ (27 + i), .inr (3, ([.int (gA σ 10 i), .int (gA σ 11 i), .int (gA σ 12 i), .int (gA σ 13 i), .int (gA σ 14 i), .int (gA σ 15 i), .int (gA σ 16 i)] : List Value).set 2 (.int v))) = Wd Λ (uA σ 12 i v)
  | 0, _ => rfl
  | 1, _ => rfl
  | 2, _ => rfl
  | 3, _ => rfl
  | 4, _ => rfl
  | 5, _ => rfl
  | 6, _ => rfl
  | 7, _ => rfl
  | 8, _ => rfl
  | 9, _ => rfl
  | n + 10, h => absurd h (by omega)
theorem wsR_3 (Λ : LY) (σ : St) (v : Int32) : ∀ i : Nat, i < 10 → (Wd Λ σ).set (27 + i) (adr Λ (27 + i), .inr (3, ([.int (gA σ 10 i), .int (gA σ 11 i), .int (gA σ 12 i), .int (gA σ 13 i), .int (gA σ 14 i), .int (gA σ 15 i), .int (gA σ 16 i)] : List Value).set 3 (.int v))) = Wd Λ (uA σ 13 i v)
  | 0, _ => rfl
  | 1, _ => rfl
  | 2, _ => rfl
  | 3, _ => rfl
  | 4, _ => rfl
  | 5, _ => rfl
  | 6, _ => rfl
  | 7, _ => rfl
  | 8, _ => rfl
  | 9, _ => rfl
  | n + 10, h => absurd h (by omega)
theorem wsR_4 (Λ : LY) (σ : St) (v : Int32) : ∀ i : Nat, i < 10 → (Wd Λ σ).set (27 + i) (adr Λ (27 + i), .inr (3, ([.int (gA σ 10 i), .int (gA σ 11 i), .int (gA σ 12 i), .int (gA σ 13 i), .int (gA σ 14 i), .int (gA σ 15 i), .int (gA σ 16 i)] : List Value).set 4 (.int v))) = Wd Λ (uA σ 14 i v)
  | 0, _ => rfl
  | 1, _ => rfl
  | 2, _ => rfl
  | 3, _ => rfl
  | 4, _ => rfl
  | 5, _ => rfl
  | 6, _ => rfl
  | 7, _ => rfl
  | 8, _ => rfl
  | 9, _ => rfl
  | n + 10, h => absurd h (by omega)
theorem wsR_5 (Λ : LY) (σ : St) (v : Int32) : ∀ i : Nat, i < 10 → (Wd Λ σ).set (27 + i) (adr Λ (27 + i), .inr (3, ([.int (gA σ 10 i), .int (gA σ 11 i), .int (gA σ 12 i), .int (gA σ 13 i), .int (gA σ 14 i), .int (gA σ 15 i), .int (gA σ 16 i)] : List Value).set 5 (.int v))) = Wd Λ (uA σ 15 i v)
  | 0, _ => rfl
  | 1, _ => rfl
  | 2, _ => rfl
  | 3, _ => rfl
  | 4, _ => rfl
  | 5, _ => rfl
  | 6, _ => rfl
  | 7, _ => rfl
  | 8, _ => rfl
  | 9, _ => rfl
  | n + 10, h => absurd h (by omega)
theorem wsR_6 (Λ : LY) (σ : St) (v : Int32) : ∀ i : Nat, i < 10 → (Wd Λ σ).set (27 + i) (adr Λ (27 + i), .inr (3, ([.int (gA σ 10 i), .int (gA σ 11 i), .int (gA σ 12 i), .int (gA σ 13 i), .int (gA σ 14 i), .int (gA σ 15 i), .int (gA σ 16 i)] : List Value).set 6 (.int v))) = Wd Λ (uA σ 16 i v)
  | 0, _ => rfl
  | 1, _ => rfl
  | 2, _ => rfl
  | 3, _ => rfl
  | 4, _ => rfl
  | 5, _ => rfl
  | 6, _ => rfl
  | 7, _ => rfl
  | 8, _ => rfl
  | 9, _ => rfl
  | n + 10, h => absurd h (by omega)
end
section
/-! words of the tables that calls may hand on -/
def wsG : List Cond := lw_tbl.filter goodWord
theorem wm {c : Cond} (i : Nat) (h : tables_1[i]? = some c) (hg : goodWord c = true) : c ∈ wsG :=
  List.mem_filter.mpr ⟨List.mem_append_right _ (List.mem_of_getElem? h), hg⟩
theorem wmS {c : Cond} (i : Nat) (h : (k2_sels lw_privs)[i]? = some c) (hg : goodWord c = true) : c ∈ wsG :=
  List.mem_filter.mpr ⟨List.mem_append_left _ (List.mem_of_getElem? h), hg⟩
theorem goodG {ws : List Cond} (h : ∀ w ∈ ws, w ∈ wsG) : GoodIn wsG ws := fun w hw => ⟨h w hw, good_of_word (List.mem_filter.mp (h w hw)).2⟩
/-- the words of private members across the nest -/
def nestW : List Cond := [.fieldLinkNest RX0 46 RX9 "COSINES" "[I" RX9, .fieldLinkNest RX0 49 RX9 "SINES" "[I" RX9, .fieldLinkNest RX2 24 RX9 "COSINES" "[I" RX9, .fieldLinkNest RX2 34 RX9 "SINES" "[I" RX9, .methodLinkNest RX0 60 yX9_isStep RX9]
def cosL : List Int32 := [10000, 9962, 9848, 9659, 9397, 9063, 8660, 8192, 7660, 7071, 6428, 5736, 5000]
def sinL : List Int32 := [0, 872, 1736, 2588, 3420, 4226, 5000, 5736, 6428, 7071, 7660, 8192, 8660]
def cosF (k : Nat) : Int32 := cosL.getD k 0
def sinF (k : Nat) : Int32 := sinL.getD k 0
/-- what the statics and the nest's words say at a state -/
def ST (Λ : LY) (U : State) (H : Heap) : Prop :=
  va_Z RX9 "COSINES" "[I" (.ref (bC Λ)) (AA Λ) U H ∧ va_Z RX9 "SINES" "[I" (.ref (bS Λ)) (AA Λ) U H ∧ va_T .int (bC Λ) 13 (fun k => .int (cosF k)) (AA Λ) U H ∧ va_T .int (bS Λ) 13 (fun k => .int (sinF k)) (AA Λ) U H ∧ ∀ w ∈ nestW, va_Nw w U
theorem nestW_warm {s U : State} (hW : s.WarmedH U.vm) (h : ∀ w ∈ nestW, va_Nw w s) : ∀ w ∈ nestW, va_Nw w U := by
  intro w hw
  have h1 := h w hw
  simp only [nestW, List.mem_cons, List.mem_nil_iff, or_false] at hw
  rcases hw with rfl | rfl | rfl | rfl | rfl
  · exact va_Nw.warmF hW h1
  · exact va_Nw.warmF hW h1
  · exact va_Nw.warmF hW h1
  · exact va_Nw.warmF hW h1
  · exact va_Nw.warmM hW h1
theorem nestW_same {u U : State} (hvm : u.vm = U.vm) (h : ∀ w ∈ nestW, va_Nw w u) : ∀ w ∈ nestW, va_Nw w U := by
  intro w hw
  have h1 := h w hw
  simp only [nestW, List.mem_cons, List.mem_nil_iff, or_false] at hw
  rcases hw with rfl | rfl | rfl | rfl | rfl <;> exact va_Nw.same rfl hvm h1
theorem ST.go {Λ : LY} {s t : State} {H : Heap} {locs : List Loc} (h : ST Λ s s.heap) (hS : va_S (AA Λ) s.heap H locs) (ht : t.heap = H) (hW : s.WarmedH t.vm) : ST Λ t t.heap := by
  obtain ⟨h1, h2, h3, h4, h5⟩ := h
  have hk : ∀ a : Nat, a < s.heap.size → ¬ AA Λ a → t.heap[a]? = s.heap[a]? := fun a x y => by rw [ht]; exact hS.2.1 a x y
  exact ⟨va_Z.moved hW.alike (h1.kept hk), va_Z.moved hW.alike (h2.kept hk), va_T.moved hW.alike (h3.kept hk), va_T.moved hW.alike (h4.kept hk), nestW_warm hW h5⟩
/-- what holds of a state at a method's start and end -/
def BW (Λ : LY) (σ : St) (U : State) : Prop := s0 Λ ≤ U.heap.size ∧ va_P (dG Λ) vwCl (Wd Λ σ) U.heap ∧ va_K (dG Λ) vwCl (tyL Λ) U ∧ (∀ σ2, va_D (AA Λ) (Wd Λ σ2)) ∧ ST Λ U U.heap
def QR (Λ : LY) (rv : Option Value) (σ : St) : Array Value → State → Outcome → State → Prop := fun _ st oc t => oc = .returned rv ∧ BW Λ σ t ∧ va_F (AA Λ) st t
/-- a contract: from the state σ the method comes to the answer rv and the state σ2 -/
def CT (l : Launch) (Λ : LY) (y : MethodName) (cc : ByteArray) (nL : Nat) (ret : Option FieldType) (fr lo : Nat) (av : List Value) (σ : St) (rv : Option Value) (σ2 : St) : Prop :=
  Met l y (Cond.code y cc nL ret :: wsG) ({ frames := fr, cells := 0, slots := 0, locals := lo }) (va_Pc av (BW Λ σ)) (QR Λ rv σ2) 0 0 (AA Λ)
/-- a walk's fixed things: p, l, e, R, s, m, args, below, meth, c, cells, slots, Q -/
abbrev CX : Type := Program × Launch × Env × Room × State × MethodId × Array Value × List Frame × Method × Code × Nat × Nat × (State → Prop)
abbrev xp (X : CX) := X.1
abbrev xl (X : CX) := X.2.1
abbrev xe (X : CX) := X.2.2.1
abbrev xR (X : CX) := X.2.2.2.1
abbrev xs (X : CX) := X.2.2.2.2.1
abbrev xm (X : CX) := X.2.2.2.2.2.1
abbrev xa (X : CX) := X.2.2.2.2.2.2.1
abbrev xb (X : CX) := X.2.2.2.2.2.2.2.1
abbrev xh (X : CX) := X.2.2.2.2.2.2.2.2.1
abbrev xc (X : CX) := X.2.2.2.2.2.2.2.2.2.1
abbrev xn (X : CX) := X.2.2.2.2.2.2.2.2.2.2.1
abbrev xk (X : CX) := X.2.2.2.2.2.2.2.2.2.2.2.1
abbrev xQ (X : CX) := X.2.2.2.2.2.2.2.2.2.2.2.2
def VV (X : CX) (Λ : LY) (nL : Nat) (pc : Nat) (lv : List (Nat × Value)) (st : List Value) (σ : St) : Prop :=
  ∀ (ls : Array Slot) (H : Heap) (locs : List Loc), lv_has ls nL lv → va_P (dG Λ) vwCl (Wd Λ σ) H → va_S (AA Λ) (xs X).heap H locs →
    W (xp X) (xl X) (xe X) (xR X) (xs X) (xm X) (xa X) (xb X) (xh X) (xc X) H locs (xn X) (xk X) (xQ X) (F0 (xm X) pc ls st)
/-- what holds throughout a walk -/
def OK (X : CX) (Λ : LY) (cc : ByteArray) (nL : Nat) (own : String) (fr lo : Nat) : Prop :=
  (xp X).tables.exec = Jvm.exec ∧ (xc X).code = cc ∧ (xc X).maxLocals = nL ∧ (xs X).vm.findClass own = some (xm X).cls ∧ (∀ w ∈ wsG, w.before (xa X) (xs X) = true) ∧ (xh X).locks = false ∧
  va_K (dG Λ) vwCl (tyL Λ) (xs X) ∧ (∀ σ2, va_D (AA Λ) (Wd Λ σ2)) ∧ ST Λ (xs X) (xs X).heap ∧ s0 Λ ≤ (xs X).heap.size ∧ (xR X).frames = fr ∧ (xR X).locals = lo ∧ xn X ≤ (xR X).cells ∧ xk X ≤ (xR X).slots
def EN (X : CX) (Λ : LY) (ret : Option FieldType) (rv : Option Value) (σ : St) : Prop :=
  (xh X).sig.returnType = ret ∧ xQ X = MQ (xb X) (QR Λ rv σ) (xa X) (xs X) (xn X) (xk X) (AA Λ)
section VVR
variable {X : CX} {Λ : LY} {cc : ByteArray} {nL fr lo : Nat} {own : String} {pc pc2 : Nat} {lv lv2 : List (Nat × Value)} {st : List Value} {σ σ2 : St}
theorem OK.bw (C : OK X Λ cc nL own fr lo) {H : Heap} {locs : List Loc} (hP : va_P (dG Λ) vwCl (Wd Λ σ) H) (hS : va_S (AA Λ) (xs X).heap H locs) {t : State} (ht : t.heap = H) (hW : (xs X).WarmedH t.vm) : BW Λ σ t := by
  obtain ⟨-, -, -, -, -, -, hK, hD, hT, h0, -⟩ := C
  exact ⟨by rw [ht]; exact Nat.le_trans h0 hS.1, by rw [ht]; exact hP, va_K.moved hW.alike hK, hD, hT.go hS ht hW⟩
theorem v_lv (ks : List Nat) (h : lv_pick lv ks = lv2) (k : VV X Λ nL pc lv2 st σ) : VV X Λ nL pc lv st σ := fun ls H locs hl hP hS => k ls H locs (lv_sub hl ks h) hP hS
theorem v_st {st2 : List Value} (h : st = st2) (k : VV X Λ nL pc lv st2 σ) : VV X Λ nL pc lv st σ := h ▸ k
theorem v_sg (h : σ = σ2) (k : VV X Λ nL pc lv st σ2) : VV X Λ nL pc lv st σ := h ▸ k
theorem v_iret (C : OK X Λ cc nL own fr lo) {v : Int32} (E : EN X Λ (some .int) (some (.int v)) σ) (hd : decode cc pc = .ok (.ireturn, 1)) : VV X Λ nL pc lv [.int v] σ := by
  intro ls H locs hl hP hS
  rw [E.2]
  exact W.iret C.1 C.2.1 E.1 (fun t ht hW => ⟨rfl, C.bw hP hS ht hW, hS.F ht⟩) hS.2.2 hd C.2.2.2.2.2.1
theorem v_zret (C : OK X Λ cc nL own fr lo) {v : Int32} (E : EN X Λ (some .boolean) (some (.int v)) σ) (hn : v = 0 ∨ v = 1) (hd : decode cc pc = .ok (.ireturn, 1)) : VV X Λ nL pc lv [.int v] σ := by
  intro ls H locs hl hP hS
  rw [E.2]
  exact W.zret C.1 C.2.1 E.1 (by rcases hn with rfl | rfl <;> decide +kernel) (fun t ht hW => ⟨rfl, C.bw hP hS ht hW, hS.F ht⟩) hS.2.2 hd C.2.2.2.2.2.1
theorem v_lret (C : OK X Λ cc nL own fr lo) {v : Int64} (E : EN X Λ (some .long) (some (.long v)) σ) (hd : decode cc pc = .ok (.lreturn, 1)) : VV X Λ nL pc lv [.long v] σ := by
  intro ls H locs hl hP hS
  rw [E.2]
  exact W.lret C.1 C.2.1 E.1 (fun t ht hW => ⟨rfl, C.bw hP hS ht hW, hS.F ht⟩) hS.2.2 hd C.2.2.2.2.2.1
theorem v_vret (C : OK X Λ cc nL own fr lo) (E : EN X Λ none none σ) (hd : decode cc pc = .ok (.return_, 1)) : VV X Λ nL pc lv [] σ := by
  intro ls H locs hl hP hS
  rw [E.2]
  exact W.vret C.1 C.2.1 E.1 (fun t ht hW => ⟨rfl, C.bw hP hS ht hW, hS.F ht⟩) hS.2.2 hd C.2.2.2.2.2.1
/-! ends of stateful and of pure methods -/
theorem r_iS (C : OK X Λ cc nL own fr lo) {v : Int32} {res : Int32 × St} (E : EN X Λ (some .int) (some (.int res.1)) res.2) (h : (v, σ) = res) (hd : decode cc pc = .ok (.ireturn, 1)) : VV X Λ nL pc lv [.int v] σ := by subst h; exact v_iret C E hd
theorem r_iP (C : OK X Λ cc nL own fr lo) {v res : Int32} (E : EN X Λ (some .int) (some (.int res)) σ) (h : v = res) (hd : decode cc pc = .ok (.ireturn, 1)) : VV X Λ nL pc lv [.int v] σ := by subst h; exact v_iret C E hd
theorem r_zS (C : OK X Λ cc nL own fr lo) {v : Int32} {res : Int32 × St} (E : EN X Λ (some .boolean) (some (.int res.1)) res.2) (hn : v = 0 ∨ v = 1) (h : (v, σ) = res) (hd : decode cc pc = .ok (.ireturn, 1)) : VV X Λ nL pc lv [.int v] σ := by subst h; exact v_zret C E hn hd
theorem r_zP (C : OK X Λ cc nL own fr lo) {v res : Int32} (E : EN X Λ (some .boolean) (some (.int res)) σ) (hn : v = 0 ∨ v = 1) (h : v = res) (hd : decode cc pc = .ok (.ireturn, 1)) : VV X Λ nL pc lv [.int v] σ := by subst h; exact v_zret C E hn hd
theorem r_lS (C : OK X Λ cc nL own fr lo) {v : Int64} {res : Int64 × St} (E : EN X Λ (some .long) (some (.long res.1)) res.2) (h : (v, σ) = res) (hd : decode cc pc = .ok (.lreturn, 1)) : VV X Λ nL pc lv [.long v] σ := by subst h; exact v_lret C E hd
theorem r_lP (C : OK X Λ cc nL own fr lo) {v res : Int64} (E : EN X Λ (some .long) (some (.long res)) σ) (h : v = res) (hd : decode cc pc = .ok (.lreturn, 1)) : VV X Λ nL pc lv [.long v] σ := by subst h; exact v_lret C E hd
theorem r_vS (C : OK X Λ cc nL own fr lo) {res : St} (E : EN X Λ none none res) (h : σ = res) (hd : decode cc pc = .ok (.return_, 1)) : VV X Λ nL pc lv [] σ := by subst h; exact v_vret C E hd
/-! constants, locals -/
theorem v_iconst (C : OK X Λ cc nL own fr lo) {n : Int} {v : Int32} (hd : decode cc pc = .ok (.iconst n, 1)) (hv : Int32.ofInt n = v) (hp : pc2 = pc + 1) (k : VV X Λ nL pc2 lv (.int v :: st) σ) : VV X Λ nL pc lv st σ := by
  subst hp; intro ls H locs hl hP hS; exact lv_iconst C.1 C.2.1 hd hv (k ls H locs hl hP hS)
theorem v_bipush (C : OK X Λ cc nL own fr lo) {n : Int} {v : Int32} (hd : decode cc pc = .ok (.bipush n, 2)) (hv : (Int8.ofInt n).toInt32 = v) (hp : pc2 = pc + 2) (k : VV X Λ nL pc2 lv (.int v :: st) σ) : VV X Λ nL pc lv st σ := by
  subst hp; intro ls H locs hl hP hS; exact lv_bipush C.1 C.2.1 hd hv (k ls H locs hl hP hS)
theorem v_sipush (C : OK X Λ cc nL own fr lo) {n : Int} {v : Int32} (hd : decode cc pc = .ok (.sipush n, 3)) (hv : (Int16.ofInt n).toInt32 = v) (hp : pc2 = pc + 3) (k : VV X Λ nL pc2 lv (.int v :: st) σ) : VV X Λ nL pc lv st σ := by
  subst hp; intro ls H locs hl hP hS; exact lv_sipush C.1 C.2.1 hd hv (k ls H locs hl hP hS)
theorem v_lconst (C : OK X Λ cc nL own fr lo) {n : Fin 2} {v : Int64} (hd : decode cc pc = .ok (.lconst n, 1)) (hv : Int64.ofNat (n : Nat) = v) (hp : pc2 = pc + 1) (k : VV X Λ nL pc2 lv (.long v :: st) σ) : VV X Λ nL pc lv st σ := by
  subst hp; intro ls H locs hl hP hS; exact lv_lconst C.1 C.2.1 hd hv (k ls H locs hl hP hS)
theorem v_ldc (C : OK X Λ cc nL own fr lo) {i : Nat} {v : Int32} (hw : Cond.constant own i v ∈ wsG) (hd : decode cc pc = .ok (.ldc i, 2)) (hp : pc2 = pc + 2) (k : VV X Λ nL pc2 lv (.int v :: st) σ) : VV X Λ nL pc lv st σ := by
  subst hp; intro ls H locs hl hP hS; exact lv_ldc C.1 C.2.1 C.2.2.2.1 (C.2.2.2.2.1 _ hw) hd (k ls H locs hl hP hS)
theorem v_ldcw (C : OK X Λ cc nL own fr lo) {i : Nat} {v : Int32} (hw : Cond.constant own i v ∈ wsG) (hd : decode cc pc = .ok (.ldc_w i, 3)) (hp : pc2 = pc + 3) (k : VV X Λ nL pc2 lv (.int v :: st) σ) : VV X Λ nL pc lv st σ := by
  subst hp; intro ls H locs hl hP hS; exact lv_ldcw C.1 C.2.1 C.2.2.2.1 (C.2.2.2.2.1 _ hw) hd (k ls H locs hl hP hS)
theorem v_ldc2 (C : OK X Λ cc nL own fr lo) {i : Nat} {v : Int64} (hw : Cond.constantLong own i v ∈ wsG) (hd : decode cc pc = .ok (.ldc2_w i, 3)) (hp : pc2 = pc + 3) (k : VV X Λ nL pc2 lv (.long v :: st) σ) : VV X Λ nL pc lv st σ := by
  subst hp; intro ls H locs hl hP hS; exact lv_ldc2 C.1 C.2.1 C.2.2.2.1 (C.2.2.2.2.1 _ hw) hd (k ls H locs hl hP hS)
theorem v_iload_n (C : OK X Λ cc nL own fr lo) (j : Nat) {i : Fin 4} {x : Int32} (hd : decode cc pc = .ok (.iload_n i, 1)) (hj : lv[j]? = some (i.val, .int x)) (hp : pc2 = pc + 1) (k : VV X Λ nL pc2 lv (.int x :: st) σ) : VV X Λ nL pc lv st σ := by
  subst hp; intro ls H locs hl hP hS; exact lv_iload_n C.1 C.2.1 hd rfl (lv_at hl j hj) (k ls H locs hl hP hS)
theorem v_iload (C : OK X Λ cc nL own fr lo) (j : Nat) {i : Nat} {x : Int32} (hd : decode cc pc = .ok (.iload i, 2)) (hj : lv[j]? = some (i, .int x)) (hp : pc2 = pc + 2) (k : VV X Λ nL pc2 lv (.int x :: st) σ) : VV X Λ nL pc lv st σ := by
  subst hp; intro ls H locs hl hP hS; exact lv_iload C.1 C.2.1 hd (lv_at hl j hj) (k ls H locs hl hP hS)
theorem v_lload_n (C : OK X Λ cc nL own fr lo) (j : Nat) {i : Fin 4} {x : Int64} (hd : decode cc pc = .ok (.lload_n i, 1)) (hj : lv[j]? = some (i.val, .long x)) (hp : pc2 = pc + 1) (k : VV X Λ nL pc2 lv (.long x :: st) σ) : VV X Λ nL pc lv st σ := by
  subst hp; intro ls H locs hl hP hS; exact lv_lload_n C.1 C.2.1 hd rfl (lv_at hl j hj) (k ls H locs hl hP hS)
theorem v_lload (C : OK X Λ cc nL own fr lo) (j : Nat) {i : Nat} {x : Int64} (hd : decode cc pc = .ok (.lload i, 2)) (hj : lv[j]? = some (i, .long x)) (hp : pc2 = pc + 2) (k : VV X Λ nL pc2 lv (.long x :: st) σ) : VV X Λ nL pc lv st σ := by
  subst hp; intro ls H locs hl hP hS; exact lv_lload C.1 C.2.1 hd (lv_at hl j hj) (k ls H locs hl hP hS)
theorem v_aload_n (C : OK X Λ cc nL own fr lo) (j : Nat) {i : Fin 4} {x : Nat} (hd : decode cc pc = .ok (.aload_n i, 1)) (hj : lv[j]? = some (i.val, .ref x)) (hp : pc2 = pc + 1) (k : VV X Λ nL pc2 lv (.ref x :: st) σ) : VV X Λ nL pc lv st σ := by
  subst hp; intro ls H locs hl hP hS; exact lv_aload_n C.1 C.2.1 hd rfl (lv_at hl j hj) (k ls H locs hl hP hS)
theorem v_aload (C : OK X Λ cc nL own fr lo) (j : Nat) {i : Nat} {x : Nat} (hd : decode cc pc = .ok (.aload i, 2)) (hj : lv[j]? = some (i, .ref x)) (hp : pc2 = pc + 2) (k : VV X Λ nL pc2 lv (.ref x :: st) σ) : VV X Λ nL pc lv st σ := by
  subst hp; intro ls H locs hl hP hS; exact lv_aload C.1 C.2.1 hd (lv_at hl j hj) (k ls H locs hl hP hS)
theorem v_istore_n (C : OK X Λ cc nL own fr lo) {i : Fin 4} {x : Int32} (hd : decode cc pc = .ok (.istore_n i, 1)) (hn : i.val < nL) (h2 : (i.val, Value.int x) :: lv.filter (fun q => !(q.1 == i.val) && !(q.1 + 1 == i.val && q.2.category == 2)) = lv2) (hp : pc2 = pc + 1) (k : VV X Λ nL pc2 lv2 st σ) : VV X Λ nL pc lv (.int x :: st) σ := by
  subst hp; intro ls H locs hl hP hS; exact lv_istore_n C.1 C.2.1 hd rfl hl hn h2 (fun ls2 hl2 => k ls2 H locs hl2 hP hS)
theorem v_istore (C : OK X Λ cc nL own fr lo) {i : Nat} {x : Int32} (hd : decode cc pc = .ok (.istore i, 2)) (hn : i < nL) (h2 : (i, Value.int x) :: lv.filter (fun q => !(q.1 == i) && !(q.1 + 1 == i && q.2.category == 2)) = lv2) (hp : pc2 = pc + 2) (k : VV X Λ nL pc2 lv2 st σ) : VV X Λ nL pc lv (.int x :: st) σ := by
  subst hp; intro ls H locs hl hP hS; exact lv_istore C.1 C.2.1 hd hl hn h2 (fun ls2 hl2 => k ls2 H locs hl2 hP hS)
theorem v_astore_n (C : OK X Λ cc nL own fr lo) {i : Fin 4} {x : Nat} (hd : decode cc pc = .ok (.astore_n i, 1)) (hn : i.val < nL) (h2 : (i.val, Value.ref x) :: lv.filter (fun q => !(q.1 == i.val) && !(q.1 + 1 == i.val && q.2.category == 2)) = lv2) (hp : pc2 = pc + 1) (k : VV X Λ nL pc2 lv2 st σ) : VV X Λ nL pc lv (.ref x :: st) σ := by
  subst hp; intro ls H locs hl hP hS; exact lv_astore_n C.1 C.2.1 hd rfl hl hn h2 (fun ls2 hl2 => k ls2 H locs hl2 hP hS)
theorem v_astore (C : OK X Λ cc nL own fr lo) {i : Nat} {x : Nat} (hd : decode cc pc = .ok (.astore i, 2)) (hn : i < nL) (h2 : (i, Value.ref x) :: lv.filter (fun q => !(q.1 == i) && !(q.1 + 1 == i && q.2.category == 2)) = lv2) (hp : pc2 = pc + 2) (k : VV X Λ nL pc2 lv2 st σ) : VV X Λ nL pc lv (.ref x :: st) σ := by
  subst hp; intro ls H locs hl hP hS; exact lv_astore C.1 C.2.1 hd hl hn h2 (fun ls2 hl2 => k ls2 H locs hl2 hP hS)
theorem v_lstore_n (C : OK X Λ cc nL own fr lo) {i : Fin 4} {x : Int64} (hd : decode cc pc = .ok (.lstore_n i, 1)) (hn : i.val + 1 < nL) (h2 : (i.val, Value.long x) :: lv.filter (fun q => !(q.1 == i.val) && (!(q.1 == i.val + 1) && !(q.1 + 1 == i.val && q.2.category == 2))) = lv2) (hp : pc2 = pc + 1) (k : VV X Λ nL pc2 lv2 st σ) : VV X Λ nL pc lv (.long x :: st) σ := by
  subst hp; intro ls H locs hl hP hS; exact lv_lstore_n C.1 C.2.1 hd rfl hl hn h2 (fun ls2 hl2 => k ls2 H locs hl2 hP hS)
theorem v_lstore (C : OK X Λ cc nL own fr lo) {i : Nat} {x : Int64} (hd : decode cc pc = .ok (.lstore i, 2)) (hn : i + 1 < nL) (h2 : (i, Value.long x) :: lv.filter (fun q => !(q.1 == i) && (!(q.1 == i + 1) && !(q.1 + 1 == i && q.2.category == 2))) = lv2) (hp : pc2 = pc + 2) (k : VV X Λ nL pc2 lv2 st σ) : VV X Λ nL pc lv (.long x :: st) σ := by
  subst hp; intro ls H locs hl hP hS; exact lv_lstore C.1 C.2.1 hd hl hn h2 (fun ls2 hl2 => k ls2 H locs hl2 hP hS)
theorem v_iinc (C : OK X Λ cc nL own fr lo) (j : Nat) {i : Nat} {n : Int} {x d : Int32} (hd : decode cc pc = .ok (.iinc i n, 3)) (hj : lv[j]? = some (i, .int x)) (hv : Int32.ofInt n = d) (hn : i < nL) (h2 : (i, Value.int (x + d)) :: lv.filter (fun q => !(q.1 == i) && !(q.1 + 1 == i && q.2.category == 2)) = lv2) (hp : pc2 = pc + 3) (k : VV X Λ nL pc2 lv2 st σ) : VV X Λ nL pc lv st σ := by
  subst hp; intro ls H locs hl hP hS; exact lv_iinc C.1 C.2.1 hd hl hj (by rw [hv]) hn h2 (fun ls2 hl2 => k ls2 H locs hl2 hP hS)
/-! arithmetic -/
theorem v_iadd (C : OK X Λ cc nL own fr lo) {x y : Int32} (hd : decode cc pc = .ok (.iadd, 1)) (hp : pc2 = pc + 1) (k : VV X Λ nL pc2 lv (.int (x + y) :: st) σ) : VV X Λ nL pc lv (.int y :: .int x :: st) σ := by
  subst hp; intro ls H locs hl hP hS; exact lv_iadd C.1 C.2.1 hd (k ls H locs hl hP hS)
theorem v_isub (C : OK X Λ cc nL own fr lo) {x y : Int32} (hd : decode cc pc = .ok (.isub, 1)) (hp : pc2 = pc + 1) (k : VV X Λ nL pc2 lv (.int (x - y) :: st) σ) : VV X Λ nL pc lv (.int y :: .int x :: st) σ := by
  subst hp; intro ls H locs hl hP hS; exact lv_isub C.1 C.2.1 hd (k ls H locs hl hP hS)
theorem v_imul (C : OK X Λ cc nL own fr lo) {x y : Int32} (hd : decode cc pc = .ok (.imul, 1)) (hp : pc2 = pc + 1) (k : VV X Λ nL pc2 lv (.int (x * y) :: st) σ) : VV X Λ nL pc lv (.int y :: .int x :: st) σ := by
  subst hp; intro ls H locs hl hP hS; exact lv_imul C.1 C.2.1 hd (k ls H locs hl hP hS)
theorem v_iand (C : OK X Λ cc nL own fr lo) {x y : Int32} (hd : decode cc pc = .ok (.iand, 1)) (hp : pc2 = pc + 1) (k : VV X Λ nL pc2 lv (.int (x &&& y) :: st) σ) : VV X Λ nL pc lv (.int y :: .int x :: st) σ := by
  subst hp; intro ls H locs hl hP hS; exact lv_iand C.1 C.2.1 hd (k ls H locs hl hP hS)
theorem v_ior (C : OK X Λ cc nL own fr lo) {x y : Int32} (hd : decode cc pc = .ok (.ior, 1)) (hp : pc2 = pc + 1) (k : VV X Λ nL pc2 lv (.int (x ||| y) :: st) σ) : VV X Λ nL pc lv (.int y :: .int x :: st) σ := by
  subst hp; intro ls H locs hl hP hS; exact lv_ior C.1 C.2.1 hd (k ls H locs hl hP hS)
theorem v_idiv (C : OK X Λ cc nL own fr lo) {x y : Int32} (hd : decode cc pc = .ok (.idiv, 1)) (hne : ¬ y = 0) (hp : pc2 = pc + 1) (k : VV X Λ nL pc2 lv (.int (x / y) :: st) σ) : VV X Λ nL pc lv (.int y :: .int x :: st) σ := by
  subst hp; intro ls H locs hl hP hS; exact lv_idiv C.1 C.2.1 hd hne (k ls H locs hl hP hS)
theorem v_irem (C : OK X Λ cc nL own fr lo) {x y : Int32} (hd : decode cc pc = .ok (.irem, 1)) (hne : ¬ y = 0) (hp : pc2 = pc + 1) (k : VV X Λ nL pc2 lv (.int (x - x / y * y) :: st) σ) : VV X Λ nL pc lv (.int y :: .int x :: st) σ := by
  subst hp; intro ls H locs hl hP hS; exact lv_irem C.1 C.2.1 hd hne (k ls H locs hl hP hS)
theorem v_ineg (C : OK X Λ cc nL own fr lo) {x : Int32} (hd : decode cc pc = .ok (.ineg, 1)) (hp : pc2 = pc + 1) (k : VV X Λ nL pc2 lv (.int (-x) :: st) σ) : VV X Λ nL pc lv (.int x :: st) σ := by
  subst hp; intro ls H locs hl hP hS; exact lv_ineg C.1 C.2.1 hd (k ls H locs hl hP hS)
theorem v_ladd (C : OK X Λ cc nL own fr lo) {x y : Int64} (hd : decode cc pc = .ok (.ladd, 1)) (hp : pc2 = pc + 1) (k : VV X Λ nL pc2 lv (.long (x + y) :: st) σ) : VV X Λ nL pc lv (.long y :: .long x :: st) σ := by
  subst hp; intro ls H locs hl hP hS; exact lv_ladd C.1 C.2.1 hd (k ls H locs hl hP hS)
theorem v_lsub (C : OK X Λ cc nL own fr lo) {x y : Int64} (hd : decode cc pc = .ok (.lsub, 1)) (hp : pc2 = pc + 1) (k : VV X Λ nL pc2 lv (.long (x - y) :: st) σ) : VV X Λ nL pc lv (.long y :: .long x :: st) σ := by
  subst hp; intro ls H locs hl hP hS; exact lv_lsub C.1 C.2.1 hd (k ls H locs hl hP hS)
theorem v_lmul (C : OK X Λ cc nL own fr lo) {x y : Int64} (hd : decode cc pc = .ok (.lmul, 1)) (hp : pc2 = pc + 1) (k : VV X Λ nL pc2 lv (.long (x * y) :: st) σ) : VV X Λ nL pc lv (.long y :: .long x :: st) σ := by
  subst hp; intro ls H locs hl hP hS; exact lv_lmul C.1 C.2.1 hd (k ls H locs hl hP hS)
theorem v_ldiv (C : OK X Λ cc nL own fr lo) {x y : Int64} (hd : decode cc pc = .ok (.ldiv, 1)) (hne : ¬ y = 0) (hp : pc2 = pc + 1) (k : VV X Λ nL pc2 lv (.long (x / y) :: st) σ) : VV X Λ nL pc lv (.long y :: .long x :: st) σ := by
  subst hp; intro ls H locs hl hP hS; exact lv_ldiv C.1 C.2.1 hd hne (k ls H locs hl hP hS)
theorem v_lneg (C : OK X Λ cc nL own fr lo) {x : Int64} (hd : decode cc pc = .ok (.lneg, 1)) (hp : pc2 = pc + 1) (k : VV X Λ nL pc2 lv (.long (-x) :: st) σ) : VV X Λ nL pc lv (.long x :: st) σ := by
  subst hp; intro ls H locs hl hP hS; exact lv_lneg C.1 C.2.1 hd (k ls H locs hl hP hS)
theorem v_ishl (C : OK X Λ cc nL own fr lo) {x y : Int32} (hd : decode cc pc = .ok (.ishl, 1)) (hp : pc2 = pc + 1) (k : VV X Λ nL pc2 lv (.int (x <<< (y &&& 31)) :: st) σ) : VV X Λ nL pc lv (.int y :: .int x :: st) σ := by
  subst hp; intro ls H locs hl hP hS; exact lv_ishl C.1 C.2.1 hd (k ls H locs hl hP hS)
theorem v_ishr (C : OK X Λ cc nL own fr lo) {x y : Int32} (hd : decode cc pc = .ok (.ishr, 1)) (hp : pc2 = pc + 1) (k : VV X Λ nL pc2 lv (.int (x >>> (y &&& 31)) :: st) σ) : VV X Λ nL pc lv (.int y :: .int x :: st) σ := by
  subst hp; intro ls H locs hl hP hS; exact lv_ishr C.1 C.2.1 hd (k ls H locs hl hP hS)
theorem v_iushr (C : OK X Λ cc nL own fr lo) {x y : Int32} (hd : decode cc pc = .ok (.iushr, 1)) (hp : pc2 = pc + 1) (k : VV X Λ nL pc2 lv (.int (x.toUInt32 >>> (y.toUInt32 &&& Int32.toUInt32 31)).toInt32 :: st) σ) : VV X Λ nL pc lv (.int y :: .int x :: st) σ := by
  subst hp; intro ls H locs hl hP hS; exact lv_iushr C.1 C.2.1 hd rfl (k ls H locs hl hP hS)
theorem v_i2l (C : OK X Λ cc nL own fr lo) {x : Int32} (hd : decode cc pc = .ok (.i2l, 1)) (hp : pc2 = pc + 1) (k : VV X Λ nL pc2 lv (.long x.toInt64 :: st) σ) : VV X Λ nL pc lv (.int x :: st) σ := by
  subst hp; intro ls H locs hl hP hS; exact lv_i2l C.1 C.2.1 hd rfl (k ls H locs hl hP hS)
theorem v_l2i (C : OK X Λ cc nL own fr lo) {x : Int64} (hd : decode cc pc = .ok (.l2i, 1)) (hp : pc2 = pc + 1) (k : VV X Λ nL pc2 lv (.int x.toInt32 :: st) σ) : VV X Λ nL pc lv (.long x :: st) σ := by
  subst hp; intro ls H locs hl hP hS; exact lv_l2i C.1 C.2.1 hd rfl (k ls H locs hl hP hS)
theorem v_dup (C : OK X Λ cc nL own fr lo) {a : Value} (hd : decode cc pc = .ok (.dup, 1)) (ha : a.category = 1) (hp : pc2 = pc + 1) (k : VV X Λ nL pc2 lv (a :: a :: st) σ) : VV X Λ nL pc lv (a :: st) σ := by
  subst hp; intro ls H locs hl hP hS; exact lv_dup C.1 C.2.1 hd ha (k ls H locs hl hP hS)
theorem v_dup2 (C : OK X Λ cc nL own fr lo) {a b : Value} (hd : decode cc pc = .ok (.dup2, 1)) (ha : a.category = 1) (hb : b.category = 1) (hp : pc2 = pc + 1) (k : VV X Λ nL pc2 lv (a :: b :: a :: b :: st) σ) : VV X Λ nL pc lv (a :: b :: st) σ := by
  subst hp; intro ls H locs hl hP hS; exact lv_dup2_11 C.1 C.2.1 hd ha hb (k ls H locs hl hP hS)
theorem v_pop (C : OK X Λ cc nL own fr lo) {a : Value} (hd : decode cc pc = .ok (.pop, 1)) (ha : a.category = 1) (hp : pc2 = pc + 1) (k : VV X Λ nL pc2 lv st σ) : VV X Λ nL pc lv (a :: st) σ := by
  subst hp; intro ls H locs hl hP hS; exact lv_pop C.1 C.2.1 hd ha (k ls H locs hl hP hS)
/-! jumps -/
theorem v_goto (C : OK X Λ cc nL own fr lo) {off : Int} (hd : decode cc pc = .ok (.goto off, 3)) (ht : (pc : Int) + off = (pc2 : Int)) (k : VV X Λ nL pc2 lv st σ) : VV X Λ nL pc lv st σ := by
  intro ls H locs hl hP hS; exact lv_goto C.1 C.2.1 hd ht (k ls H locs hl hP hS)
variable {pc3 : Nat}
theorem v_ifeq (C : OK X Λ cc nL own fr lo) {x : Int32} {off : Int} (hd : decode cc pc = .ok (.ifCond .eq off, 3)) (ht : (pc : Int) + off = (pc2 : Int)) (hp : pc3 = pc + 3) (kt : x = 0 → VV X Λ nL pc2 lv st σ) (kf : ¬ x = 0 → VV X Λ nL pc3 lv st σ) : VV X Λ nL pc lv (.int x :: st) σ := by
  subst hp; intro ls H locs hl hP hS; exact lv_if_eq C.1 C.2.1 hd ht (fun h => kt h ls H locs hl hP hS) (fun h => kf h ls H locs hl hP hS)
theorem v_ifne (C : OK X Λ cc nL own fr lo) {x : Int32} {off : Int} (hd : decode cc pc = .ok (.ifCond .ne off, 3)) (ht : (pc : Int) + off = (pc2 : Int)) (hp : pc3 = pc + 3) (kt : ¬ x = 0 → VV X Λ nL pc2 lv st σ) (kf : x = 0 → VV X Λ nL pc3 lv st σ) : VV X Λ nL pc lv (.int x :: st) σ := by
  subst hp; intro ls H locs hl hP hS; exact lv_if_ne C.1 C.2.1 hd ht (fun h => kt (by first | exact h | simpa using h) ls H locs hl hP hS) (fun h => kf (by first | exact h | simpa using h) ls H locs hl hP hS)
theorem v_iflt (C : OK X Λ cc nL own fr lo) {x : Int32} {off : Int} (hd : decode cc pc = .ok (.ifCond .lt off, 3)) (ht : (pc : Int) + off = (pc2 : Int)) (hp : pc3 = pc + 3) (kt : x < 0 → VV X Λ nL pc2 lv st σ) (kf : ¬ x < 0 → VV X Λ nL pc3 lv st σ) : VV X Λ nL pc lv (.int x :: st) σ := by
  subst hp; intro ls H locs hl hP hS; exact lv_if_lt C.1 C.2.1 hd ht (fun h => kt h ls H locs hl hP hS) (fun h => kf h ls H locs hl hP hS)
theorem v_ifge (C : OK X Λ cc nL own fr lo) {x : Int32} {off : Int} (hd : decode cc pc = .ok (.ifCond .ge off, 3)) (ht : (pc : Int) + off = (pc2 : Int)) (hp : pc3 = pc + 3) (kt : 0 ≤ x → VV X Λ nL pc2 lv st σ) (kf : ¬ 0 ≤ x → VV X Λ nL pc3 lv st σ) : VV X Λ nL pc lv (.int x :: st) σ := by
  subst hp; intro ls H locs hl hP hS; exact lv_if_ge C.1 C.2.1 hd ht (fun h => kt h ls H locs hl hP hS) (fun h => kf h ls H locs hl hP hS)
theorem v_ifgt (C : OK X Λ cc nL own fr lo) {x : Int32} {off : Int} (hd : decode cc pc = .ok (.ifCond .gt off, 3)) (ht : (pc : Int) + off = (pc2 : Int)) (hp : pc3 = pc + 3) (kt : 0 < x → VV X Λ nL pc2 lv st σ) (kf : ¬ 0 < x → VV X Λ nL pc3 lv st σ) : VV X Λ nL pc lv (.int x :: st) σ := by
  subst hp; intro ls H locs hl hP hS; exact lv_if_gt C.1 C.2.1 hd ht (fun h => kt h ls H locs hl hP hS) (fun h => kf h ls H locs hl hP hS)
theorem v_ifle (C : OK X Λ cc nL own fr lo) {x : Int32} {off : Int} (hd : decode cc pc = .ok (.ifCond .le off, 3)) (ht : (pc : Int) + off = (pc2 : Int)) (hp : pc3 = pc + 3) (kt : x ≤ 0 → VV X Λ nL pc2 lv st σ) (kf : ¬ x ≤ 0 → VV X Λ nL pc3 lv st σ) : VV X Λ nL pc lv (.int x :: st) σ := by
  subst hp; intro ls H locs hl hP hS; exact lv_if_le C.1 C.2.1 hd ht (fun h => kt h ls H locs hl hP hS) (fun h => kf h ls H locs hl hP hS)
theorem v_icmpeq (C : OK X Λ cc nL own fr lo) {x y : Int32} {off : Int} (hd : decode cc pc = .ok (.if_icmp .eq off, 3)) (ht : (pc : Int) + off = (pc2 : Int)) (hp : pc3 = pc + 3) (kt : x = y → VV X Λ nL pc2 lv st σ) (kf : ¬ x = y → VV X Λ nL pc3 lv st σ) : VV X Λ nL pc lv (.int y :: .int x :: st) σ := by
  subst hp; intro ls H locs hl hP hS; exact lv_icmp_eq C.1 C.2.1 hd ht (fun h => kt h ls H locs hl hP hS) (fun h => kf h ls H locs hl hP hS)
theorem v_icmpne (C : OK X Λ cc nL own fr lo) {x y : Int32} {off : Int} (hd : decode cc pc = .ok (.if_icmp .ne off, 3)) (ht : (pc : Int) + off = (pc2 : Int)) (hp : pc3 = pc + 3) (kt : ¬ x = y → VV X Λ nL pc2 lv st σ) (kf : x = y → VV X Λ nL pc3 lv st σ) : VV X Λ nL pc lv (.int y :: .int x :: st) σ := by
  subst hp; intro ls H locs hl hP hS; exact lv_icmp_ne C.1 C.2.1 hd ht (fun h => kt (by first | exact h | simpa using h) ls H locs hl hP hS) (fun h => kf (by first | exact h | simpa using h) ls H locs hl hP hS)
theorem v_icmplt (C : OK X Λ cc nL own fr lo) {x y : Int32} {off : Int} (hd : decode cc pc = .ok (.if_icmp .lt off, 3)) (ht : (pc : Int) + off = (pc2 : Int)) (hp : pc3 = pc + 3) (kt : x < y → VV X Λ nL pc2 lv st σ) (kf : ¬ x < y → VV X Λ nL pc3 lv st σ) : VV X Λ nL pc lv (.int y :: .int x :: st) σ := by
  subst hp; intro ls H locs hl hP hS; exact lv_icmp_lt C.1 C.2.1 hd ht (fun h => kt h ls H locs hl hP hS) (fun h => kf h ls H locs hl hP hS)
theorem v_icmpge (C : OK X Λ cc nL own fr lo) {x y : Int32} {off : Int} (hd : decode cc pc = .ok (.if_icmp .ge off, 3)) (ht : (pc : Int) + off = (pc2 : Int)) (hp : pc3 = pc + 3) (kt : y ≤ x → VV X Λ nL pc2 lv st σ) (kf : ¬ y ≤ x → VV X Λ nL pc3 lv st σ) : VV X Λ nL pc lv (.int y :: .int x :: st) σ := by
  subst hp; intro ls H locs hl hP hS; exact lv_icmp_ge C.1 C.2.1 hd ht (fun h => kt h ls H locs hl hP hS) (fun h => kf h ls H locs hl hP hS)
theorem v_icmpgt (C : OK X Λ cc nL own fr lo) {x y : Int32} {off : Int} (hd : decode cc pc = .ok (.if_icmp .gt off, 3)) (ht : (pc : Int) + off = (pc2 : Int)) (hp : pc3 = pc + 3) (kt : y < x → VV X Λ nL pc2 lv st σ) (kf : ¬ y < x → VV X Λ nL pc3 lv st σ) : VV X Λ nL pc lv (.int y :: .int x :: st) σ := by
  subst hp; intro ls H locs hl hP hS; exact lv_icmp_gt C.1 C.2.1 hd ht (fun h => kt h ls H locs hl hP hS) (fun h => kf h ls H locs hl hP hS)
theorem v_icmple (C : OK X Λ cc nL own fr lo) {x y : Int32} {off : Int} (hd : decode cc pc = .ok (.if_icmp .le off, 3)) (ht : (pc : Int) + off = (pc2 : Int)) (hp : pc3 = pc + 3) (kt : x ≤ y → VV X Λ nL pc2 lv st σ) (kf : ¬ x ≤ y → VV X Λ nL pc3 lv st σ) : VV X Λ nL pc lv (.int y :: .int x :: st) σ := by
  subst hp; intro ls H locs hl hP hS; exact lv_icmp_le C.1 C.2.1 hd ht (fun h => kt h ls H locs hl hP hS) (fun h => kf h ls H locs hl hP hS)
theorem v_lcmp (C : OK X Λ cc nL own fr lo) {x y : Int64} (hd : decode cc pc = .ok (.lcmp, 1)) (hp : pc2 = pc + 1) (k : VV X Λ nL pc2 lv (.int (lg_cmp x y) :: st) σ) : VV X Λ nL pc lv (.long y :: .long x :: st) σ := by
  subst hp; intro ls H locs hl hP hS; exact W.lcmp C.1 C.2.1 hd (k ls H locs hl hP hS)
theorem lc_eq (x y : Int64) : lg_cmp x y = 0 ↔ x = y := by
  unfold lg_cmp
  simp only [gt_iff_lt, Int64.lt_iff_toInt_lt, ← Int64.toInt_inj]
  split
  · rename_i h; constructor
    · intro q; exact absurd q (by decide)
    · intro q; omega
  · split
    · rename_i h1 h2; simp [h2]
    · rename_i h1 h2; simp [h2]
theorem lc_lt (x y : Int64) : lg_cmp x y < 0 ↔ x < y := by
  unfold lg_cmp
  simp only [gt_iff_lt, Int64.lt_iff_toInt_lt, ← Int64.toInt_inj]
  split
  · rename_i h; constructor
    · intro q; exact absurd q (by decide)
    · intro q; omega
  · split
    · rename_i h1 h2; constructor
      · intro q; exact absurd q (by decide)
      · intro q; omega
    · rename_i h1 h2; constructor
      · intro q; omega
      · intro q; decide
theorem lc_gt (x y : Int64) : 0 < lg_cmp x y ↔ y < x := by
  unfold lg_cmp
  simp only [gt_iff_lt, Int64.lt_iff_toInt_lt, ← Int64.toInt_inj]
  split
  · rename_i h; constructor
    · intro q; exact h
    · intro q; decide
  · split
    · rename_i h1 h2; constructor
      · intro q; exact absurd q (by decide)
      · intro q; omega
    · rename_i h1 h2; constructor
      · intro q; exact absurd q (by decide)
      · intro q; omega
theorem lc_le (x y : Int64) : lg_cmp x y ≤ 0 ↔ x ≤ y := by
  have h := lc_gt x y
  rw [Int32.lt_iff_toInt_lt, Int64.lt_iff_toInt_lt] at h
  rw [Int32.le_iff_toInt_le, Int64.le_iff_toInt_le]
  omega
theorem lc_ge (x y : Int64) : 0 ≤ lg_cmp x y ↔ y ≤ x := lg_cmp_ge x y
theorem v_lceq (C : OK X Λ cc nL own fr lo) {x y : Int64} {off : Int} (hc : decode cc pc = .ok (.lcmp, 1)) (hd : decode cc (pc + 1) = .ok (.ifCond .eq off, 3)) (ht : ((pc + 1 : Nat) : Int) + off = (pc2 : Int)) (hp : pc3 = pc + 4) (kt : x = y → VV X Λ nL pc2 lv st σ) (kf : ¬ x = y → VV X Λ nL pc3 lv st σ) : VV X Λ nL pc lv (.long y :: .long x :: st) σ :=
  v_lcmp C hc rfl (v_ifeq C hd ht (by rw [hp]) (fun h => kt ((lc_eq x y).mp h)) (fun h => kf (fun q => h ((lc_eq x y).mpr q))))
theorem v_lcne (C : OK X Λ cc nL own fr lo) {x y : Int64} {off : Int} (hc : decode cc pc = .ok (.lcmp, 1)) (hd : decode cc (pc + 1) = .ok (.ifCond .ne off, 3)) (ht : ((pc + 1 : Nat) : Int) + off = (pc2 : Int)) (hp : pc3 = pc + 4) (kt : ¬ x = y → VV X Λ nL pc2 lv st σ) (kf : x = y → VV X Λ nL pc3 lv st σ) : VV X Λ nL pc lv (.long y :: .long x :: st) σ :=
  v_lcmp C hc rfl (v_ifne C hd ht (by rw [hp]) (fun h => kt (fun q => h ((lc_eq x y).mpr q))) (fun h => kf ((lc_eq x y).mp h)))
theorem v_lclt (C : OK X Λ cc nL own fr lo) {x y : Int64} {off : Int} (hc : decode cc pc = .ok (.lcmp, 1)) (hd : decode cc (pc + 1) = .ok (.ifCond .lt off, 3)) (ht : ((pc + 1 : Nat) : Int) + off = (pc2 : Int)) (hp : pc3 = pc + 4) (kt : x < y → VV X Λ nL pc2 lv st σ) (kf : ¬ x < y → VV X Λ nL pc3 lv st σ) : VV X Λ nL pc lv (.long y :: .long x :: st) σ :=
  v_lcmp C hc rfl (v_iflt C hd ht (by rw [hp]) (fun h => kt ((lc_lt x y).mp h)) (fun h => kf (fun q => h ((lc_lt x y).mpr q))))
theorem v_lcge (C : OK X Λ cc nL own fr lo) {x y : Int64} {off : Int} (hc : decode cc pc = .ok (.lcmp, 1)) (hd : decode cc (pc + 1) = .ok (.ifCond .ge off, 3)) (ht : ((pc + 1 : Nat) : Int) + off = (pc2 : Int)) (hp : pc3 = pc + 4) (kt : y ≤ x → VV X Λ nL pc2 lv st σ) (kf : ¬ y ≤ x → VV X Λ nL pc3 lv st σ) : VV X Λ nL pc lv (.long y :: .long x :: st) σ :=
  v_lcmp C hc rfl (v_ifge C hd ht (by rw [hp]) (fun h => kt ((lc_ge x y).mp h)) (fun h => kf (fun q => h ((lc_ge x y).mpr q))))
theorem v_lcgt (C : OK X Λ cc nL own fr lo) {x y : Int64} {off : Int} (hc : decode cc pc = .ok (.lcmp, 1)) (hd : decode cc (pc + 1) = .ok (.ifCond .gt off, 3)) (ht : ((pc + 1 : Nat) : Int) + off = (pc2 : Int)) (hp : pc3 = pc + 4) (kt : y < x → VV X Λ nL pc2 lv st σ) (kf : ¬ y < x → VV X Λ nL pc3 lv st σ) : VV X Λ nL pc lv (.long y :: .long x :: st) σ :=
  v_lcmp C hc rfl (v_ifgt C hd ht (by rw [hp]) (fun h => kt ((lc_gt x y).mp h)) (fun h => kf (fun q => h ((lc_gt x y).mpr q))))
theorem v_lcle (C : OK X Λ cc nL own fr lo) {x y : Int64} {off : Int} (hc : decode cc pc = .ok (.lcmp, 1)) (hd : decode cc (pc + 1) = .ok (.ifCond .le off, 3)) (ht : ((pc + 1 : Nat) : Int) + off = (pc2 : Int)) (hp : pc3 = pc + 4) (kt : x ≤ y → VV X Λ nL pc2 lv st σ) (kf : ¬ x ≤ y → VV X Λ nL pc3 lv st σ) : VV X Λ nL pc lv (.long y :: .long x :: st) σ :=
  v_lcmp C hc rfl (v_ifle C hd ht (by rw [hp]) (fun h => kt ((lc_le x y).mp h)) (fun h => kf (fun q => h ((lc_le x y).mpr q))))
end VVR
end
section
/-! classes' words among wsG -/
def wsOK : Prop := True
theorem inG0 : ∀ w ∈ wsX00, w ∈ wsG := by decide +kernel
theorem inG1 : ∀ w ∈ wsX10, w ∈ wsG := by decide +kernel
theorem inG2 : ∀ w ∈ wsX20, w ∈ wsG := by decide +kernel
theorem inG3 : ∀ w ∈ wsX30, w ∈ wsG := by decide +kernel
theorem inG4 : ∀ w ∈ wsX40, w ∈ wsG := by decide +kernel
theorem inG5 : ∀ w ∈ wsX50, w ∈ wsG := by decide +kernel
theorem inG6 : ∀ w ∈ wsX60, w ∈ wsG := by decide +kernel
theorem inG7 : ∀ w ∈ wsX70, w ∈ wsG := by decide +kernel
theorem inG8 : ∀ w ∈ wsX80, w ∈ wsG := by decide +kernel
theorem inG9 : ∀ w ∈ wsX90, w ∈ wsG := by decide +kernel
theorem inG10 : ∀ w ∈ wsX100, w ∈ wsG := by decide +kernel
section VVH
variable {X : CX} {Λ : LY} {cc : ByteArray} {nL fr lo : Nat} {own : String} {pc pc2 : Nat} {lv lv2 : List (Nat × Value)} {st : List Value} {σ σ2 : St}
theorem v_get (C : OK X Λ cc nL own fr lo) {Cn : String} {T : u_T} {N ci index a : Nat} (hin : ∀ w ∈ u_ws Cn T N, w ∈ wsG) (q0 : Nat) {fs : List Value} (he : (Wd Λ σ)[q0]? = some (a, .inr (ci, fs))) (hc : vwCl[ci]? = some (Cn, T, N)) (j : Nat) (hj : j < N) (hT : (T j).1 = Cn)
    (hlink : Cond.fieldLink own index Cn (T j).2.1 (T j).2.2.1 ∈ wsG) {v : Value} (hv : fs[j]? = some v) (hd : decode cc pc = .ok (.getfield index, 3)) (hp : pc2 = pc + 3) (k : VV X Λ nL pc2 lv (v :: st) σ) : VV X Λ nL pc lv (.ref a :: st) σ := by
  subst hp; intro ls H locs hl hP hS
  exact va_get C.1 C.2.1 C.2.2.2.2.1 hin C.2.2.2.1 C.2.2.2.2.2.2.1 hP q0 he hc j hj (C.2.2.2.2.1 _ hlink) (fun x hx => by rw [hT] at hx; exact hx) hv hd (k ls H locs hl hP hS)
theorem v_put (C : OK X Λ cc nL own fr lo) {Cn : String} {T : u_T} {N ci index a : Nat} (hin : ∀ w ∈ u_ws Cn T N, w ∈ wsG) (ty0 : Nat → FieldType) (hty : ∀ k, k < N → parseFieldDescriptor (T k).2.2.1 = some (ty0 k)) (hnm : ∀ a, a < N → ∀ b, b < N → a ≠ b → (T a).2.1 ≠ (T b).2.1)
    (q0 : Nat) {fs : List Value} (he : (Wd Λ σ)[q0]? = some (a, .inr (ci, fs))) (hc : vwCl[ci]? = some (Cn, T, N)) (j : Nat) (hj : j < N) (hT : (T j).1 = Cn)
    (hlink : Cond.fieldLink own index Cn (T j).2.1 (T j).2.2.1 ∈ wsG) (hfin : (T j).2.2.2 = false) {ty : FieldType} {v : Value} (hdd : parseFieldDescriptor (T j).2.2.1 = some ty) (hn : narrow ty v = v) (hfit : fits ty v = true) (hl2 : j < fs.length)
    (hset : (Wd Λ σ).set q0 (a, .inr (ci, fs.set j v)) = Wd Λ σ2) (hd : decode cc pc = .ok (.putfield index, 3)) (hp : pc2 = pc + 3) (k : VV X Λ nL pc2 lv st σ2) : VV X Λ nL pc lv (v :: .ref a :: st) σ := by
  subst hp; intro ls H locs hl hP hS
  exact va_put C.1 C.2.1 C.2.2.2.2.1 hin ty0 hty hnm C.2.2.2.1 C.2.2.2.2.2.2.1 hP (C.2.2.2.2.2.2.2.1 σ) hS q0 he hc j hj (C.2.2.2.2.1 _ hlink) (fun x hx => by rw [hT] at hx; exact hx) hfin hdd hn hfit hl2 hd (fun H1 locs1 hP1 _ hS1 => k ls H1 locs1 hl (by rw [hset] at hP1; exact hP1) hS1)
theorem v_iald (C : OK X Λ cc nL own fr lo) (q0 : Nat) {a n : Nat} {f : Nat → Int32} (ha : (Wd Λ σ)[q0]? = some (a, .inl (cI Λ, n, .inl f))) {i : Int32} (hin : vp_in i n) (hd : decode cc pc = .ok (.iaload, 1)) (hp : pc2 = pc + 1) (k : VV X Λ nL pc2 lv (.int (f i.toNatClampNeg) :: st) σ) : VV X Λ nL pc lv (.int i :: .ref a :: st) σ := by
  subst hp; intro ls H locs hl hP hS
  exact va_iald C.1 C.2.1 C.2.2.2.2.2.2.1 hP q0 0 ha rfl hin hd (k ls H locs hl hP hS)
theorem v_zald (C : OK X Λ cc nL own fr lo) (q0 : Nat) {a n : Nat} {f : Nat → Int32} (ha : (Wd Λ σ)[q0]? = some (a, .inl (cZ Λ, n, .inl f))) {i : Int32} (hin : vp_in i n) (hd : decode cc pc = .ok (.baload, 1)) (hp : pc2 = pc + 1) (k : VV X Λ nL pc2 lv (.int (f i.toNatClampNeg) :: st) σ) : VV X Λ nL pc lv (.int i :: .ref a :: st) σ := by
  subst hp; intro ls H locs hl hP hS
  exact va_zald C.1 C.2.1 C.2.2.2.2.2.2.1 hP q0 2 ha rfl hin hd (k ls H locs hl hP hS)
theorem v_lald (C : OK X Λ cc nL own fr lo) (q0 : Nat) {a n : Nat} {f : Nat → Int64} (ha : (Wd Λ σ)[q0]? = some (a, .inl (cJ Λ, n, .inr (.inl f)))) {i : Int32} (hin : vp_in i n) (hd : decode cc pc = .ok (.laload, 1)) (hp : pc2 = pc + 1) (k : VV X Λ nL pc2 lv (.long (f i.toNatClampNeg) :: st) σ) : VV X Λ nL pc lv (.int i :: .ref a :: st) σ := by
  subst hp; intro ls H locs hl hP hS
  exact va_lald C.1 C.2.1 C.2.2.2.2.2.2.1 hP q0 1 ha rfl hin hd (k ls H locs hl hP hS)
theorem v_aald (C : OK X Λ cc nL own fr lo) {i : Int32} (hin : vp_in i 10) (hd : decode cc pc = .ok (.aaload, 1)) (hp : pc2 = pc + 1) (k : VV X Λ nL pc2 lv (.ref (adr Λ (27 + i.toNatClampNeg)) :: st) σ) : VV X Λ nL pc lv (.int i :: .ref (adr Λ 9) :: st) σ := by
  subst hp; intro ls H locs hl hP hS
  exact va_aldq C.1 C.2.1 C.2.2.2.2.2.2.1 hP 9 3 (wd9 Λ σ) rfl hin hd (k ls H locs hl hP hS)
theorem v_iast (C : OK X Λ cc nL own fr lo) (q0 : Nat) {a n : Nat} {f : Nat → Int32} (ha : (Wd Λ σ)[q0]? = some (a, .inl (cI Λ, n, .inl f))) {i x : Int32} (hin : vp_in i n) (hset : (Wd Λ σ).set q0 (a, .inl (cI Λ, n, .inl (upd f i.toNatClampNeg x))) = Wd Λ σ2) (hd : decode cc pc = .ok (.iastore, 1)) (hp : pc2 = pc + 1) (k : VV X Λ nL pc2 lv st σ2) : VV X Λ nL pc lv (.int x :: .int i :: .ref a :: st) σ := by
  subst hp; intro ls H locs hl hP hS
  exact va_iast C.1 C.2.1 C.2.2.2.2.2.2.1 hP (C.2.2.2.2.2.2.2.1 σ) hS q0 0 ha rfl hin hd (fun H1 locs1 hP1 _ hS1 => k ls H1 locs1 hl (by rw [hset] at hP1; exact hP1) hS1)
theorem v_zast (C : OK X Λ cc nL own fr lo) (q0 : Nat) {a n : Nat} {f : Nat → Int32} (ha : (Wd Λ σ)[q0]? = some (a, .inl (cZ Λ, n, .inl f))) {i x : Int32} (hin : vp_in i n) (hset : (Wd Λ σ).set q0 (a, .inl (cZ Λ, n, .inl (upd f i.toNatClampNeg (vp_nar .boolean x)))) = Wd Λ σ2) (hd : decode cc pc = .ok (.bastore, 1)) (hp : pc2 = pc + 1) (k : VV X Λ nL pc2 lv st σ2) : VV X Λ nL pc lv (.int x :: .int i :: .ref a :: st) σ := by
  subst hp; intro ls H locs hl hP hS
  exact va_zast C.1 C.2.1 C.2.2.2.2.2.2.1 hP (C.2.2.2.2.2.2.2.1 σ) hS q0 2 ha rfl hin hd (fun H1 locs1 hP1 _ hS1 => k ls H1 locs1 hl (by rw [hset] at hP1; exact hP1) hS1)
theorem v_last (C : OK X Λ cc nL own fr lo) (q0 : Nat) {a n : Nat} {f : Nat → Int64} (ha : (Wd Λ σ)[q0]? = some (a, .inl (cJ Λ, n, .inr (.inl f)))) {i : Int32} {x : Int64} (hin : vp_in i n) (hset : (Wd Λ σ).set q0 (a, .inl (cJ Λ, n, .inr (.inl (vp_updL f i.toNatClampNeg x)))) = Wd Λ σ2) (hd : decode cc pc = .ok (.lastore, 1)) (hp : pc2 = pc + 1) (k : VV X Λ nL pc2 lv st σ2) : VV X Λ nL pc lv (.long x :: .int i :: .ref a :: st) σ := by
  subst hp; intro ls H locs hl hP hS
  exact va_last C.1 C.2.1 C.2.2.2.2.2.2.1 hP (C.2.2.2.2.2.2.2.1 σ) hS q0 1 ha rfl hin hd (fun H1 locs1 hP1 _ hS1 => k ls H1 locs1 hl (by rw [hset] at hP1; exact hP1) hS1)
/-! the two tables -/
theorem v_cos (C : OK X Λ cc nL own fr lo) {index : Nat} (hw : Cond.fieldLinkNest own index RX9 "COSINES" "[I" RX9 ∈ nestW) (hd : decode cc pc = .ok (.getstatic index, 3)) (hp : pc2 = pc + 3) (k : VV X Λ nL pc2 lv (.ref (bC Λ) :: st) σ) : VV X Λ nL pc lv st σ := by
  subst hp; intro ls H locs hl hP hS
  obtain ⟨h1, h2, h3, h4, h5⟩ := C.2.2.2.2.2.2.2.2.1
  exact va_getsN C.1 C.2.1 h1 hS C.2.2.2.1 (va_Nw.use rfl (h5 _ hw)) (fun _ h => h) hd (k ls H locs hl hP hS)
theorem v_sin (C : OK X Λ cc nL own fr lo) {index : Nat} (hw : Cond.fieldLinkNest own index RX9 "SINES" "[I" RX9 ∈ nestW) (hd : decode cc pc = .ok (.getstatic index, 3)) (hp : pc2 = pc + 3) (k : VV X Λ nL pc2 lv (.ref (bS Λ) :: st) σ) : VV X Λ nL pc lv st σ := by
  subst hp; intro ls H locs hl hP hS
  obtain ⟨h1, h2, h3, h4, h5⟩ := C.2.2.2.2.2.2.2.2.1
  exact va_getsN C.1 C.2.1 h2 hS C.2.2.2.1 (va_Nw.use rfl (h5 _ hw)) (fun _ h => h) hd (k ls H locs hl hP hS)
theorem v_cosld (C : OK X Λ cc nL own fr lo) {i : Int32} (hin : vp_in i 13) (hd : decode cc pc = .ok (.iaload, 1)) (hp : pc2 = pc + 1) (k : VV X Λ nL pc2 lv (.int (cosF i.toNatClampNeg) :: st) σ) : VV X Λ nL pc lv (.int i :: .ref (bC Λ) :: st) σ := by
  subst hp; intro ls H locs hl hP hS
  obtain ⟨h1, h2, h3, h4, h5⟩ := C.2.2.2.2.2.2.2.2.1
  exact va_ti C.1 C.2.1 h3 hS hin rfl hd (k ls H locs hl hP hS)
theorem v_sinld (C : OK X Λ cc nL own fr lo) {i : Int32} (hin : vp_in i 13) (hd : decode cc pc = .ok (.iaload, 1)) (hp : pc2 = pc + 1) (k : VV X Λ nL pc2 lv (.int (sinF i.toNatClampNeg) :: st) σ) : VV X Λ nL pc lv (.int i :: .ref (bS Λ) :: st) σ := by
  subst hp; intro ls H locs hl hP hS
  obtain ⟨h1, h2, h3, h4, h5⟩ := C.2.2.2.2.2.2.2.2.1
  exact va_ti C.1 C.2.1 h4 hS hin rfl hd (k ls H locs hl hP hS)
/-! calls -/
theorem blind_BW {Λ : LY} {av : List Value} {σ : St} : FrameBlind (va_Pc av (BW Λ σ)) := by
  intro a U g mk ⟨h0, h1, h2, h3, h4, h5, h6, h7, h8, h9⟩
  exact ⟨h0, h1, h2, va_K.moved (u := U) (U := U.calling g mk a) (Vm.Alike.refl U.vm) h3, h4, va_Z.moved (u := U) (U := U.calling g mk a) (Vm.Alike.refl U.vm) h5, va_Z.moved (u := U) (U := U.calling g mk a) (Vm.Alike.refl U.vm) h6, va_T.moved (u := U) (U := U.calling g mk a) (Vm.Alike.refl U.vm) h7, va_T.moved (u := U) (U := U.calling g mk a) (Vm.Alike.refl U.vm) h8, nestW_same (u := U) (U := U.calling g mk a) rfl h9⟩
def KV (own : String) (idx : Nat) (Cn : String) (y : MethodName) (cc : ByteArray) (nL : Nat) (ret : Option FieldType) (n : Nat) : Prop :=
  GoodIn wsG (wsV own idx Cn y (Cond.code y cc nL ret :: wsG)) ∧ (y.cls = Cn ∧ y.cls ≠ "java/lang/invoke/MethodHandle" ∧ y.cls ≠ "java/lang/invoke/VarHandle" ∧ (parseMethodDescriptor y.desc).map (fun d => d.parameters.length) = some n)
theorem KV.mk {own : String} {idx : Nat} {Cn : String} {y : MethodName} {cc : ByteArray} {nL : Nat} {ret : Option FieldType} {n : Nat} (h1 : Cond.methodLink own idx y ∈ wsG) (h2 : Cond.instanceMethod y ∈ wsG) (h3 : Cond.selects Cn y y ∈ wsG) (h4 : Cond.initialized Cn ∈ wsG) (h5 : Cond.code y cc nL ret ∈ wsG)
    (h6 : (y.cls = Cn ∧ y.cls ≠ "java/lang/invoke/MethodHandle" ∧ y.cls ≠ "java/lang/invoke/VarHandle" ∧ (parseMethodDescriptor y.desc).map (fun d => d.parameters.length) = some n)) : KV own idx Cn y cc nL ret n := by
  refine ⟨goodG (fun w hw => ?_), h6⟩
  simp only [wsV, List.cons_append, List.nil_append, List.mem_cons] at hw
  rcases hw with rfl | rfl | rfl | rfl | rfl | h <;> assumption
def KS (own : String) (idx : Nat) (y : MethodName) (cc : ByteArray) (nL : Nat) (ret : Option FieldType) (n : Nat) : Prop :=
  GoodIn wsG (va_wsS own idx y (Cond.code y cc nL ret :: wsG)) ∧ (y.cls ≠ "java/lang/invoke/MethodHandle" ∧ y.cls ≠ "java/lang/invoke/VarHandle" ∧ (parseMethodDescriptor y.desc).map (fun d => d.parameters.length) = some n)
theorem KS.mk {own : String} {idx : Nat} {y : MethodName} {cc : ByteArray} {nL : Nat} {ret : Option FieldType} {n : Nat} (h1 : Cond.methodLink own idx y ∈ wsG) (h2 : Cond.static y ∈ wsG) (h4 : Cond.initialized y.cls ∈ wsG) (h5 : Cond.code y cc nL ret ∈ wsG)
    (h6 : (y.cls ≠ "java/lang/invoke/MethodHandle" ∧ y.cls ≠ "java/lang/invoke/VarHandle" ∧ (parseMethodDescriptor y.desc).map (fun d => d.parameters.length) = some n)) : KS own idx y cc nL ret n := by
  refine ⟨goodG (fun w hw => ?_), h6⟩
  simp only [va_wsS, List.cons_append, List.nil_append, List.mem_cons] at hw
  rcases hw with rfl | rfl | rfl | rfl | h <;> assumption
def KN (own : String) (idx : Nat) (y : MethodName) (cc : ByteArray) (nL : Nat) (ret : Option FieldType) (n : Nat) : Prop :=
  Cond.methodLinkNest own idx y RX9 ∈ nestW ∧ Cond.static y ∈ wsG ∧ Cond.initialized y.cls ∈ wsG ∧ Cond.code y cc nL ret ∈ wsG ∧ (y.cls ≠ "java/lang/invoke/MethodHandle" ∧ y.cls ≠ "java/lang/invoke/VarHandle" ∧ (parseMethodDescriptor y.desc).map (fun d => d.parameters.length) = some n)
/-- behind a call -/
theorem v_after (C : OK X Λ cc nL own fr lo) {rv : Option Value} {rest : List Value} {a : Array Value} {H : Heap} {locs : List Loc} {ls : Array Slot} (hl : lv_has ls nL lv) (hS : va_S (AA Λ) (xs X).heap H locs)
    (hr : va_Run (xp X) (xl X) (xe X) (xR X) (xs X) (xm X) (xa X) (xb X) (xh X) (xc X) H locs (xn X) (xk X) 0 0 (F0 (xm X) pc ls st) rest (QR Λ rv σ2 a) (AA Λ)) (k : VV X Λ nL (pc + 3) lv (rv.toList ++ rest) σ2) :
    W (xp X) (xl X) (xe X) (xR X) (xs X) (xm X) (xa X) (xb X) (xh X) (xc X) H locs (xn X) (xk X) (xQ X) (F0 (xm X) pc ls st) := by
  intro T hT Y
  obtain ⟨v, st₀, t, T', L, h0, Y', hL, e1, e2, ⟨hv, hB, hz, hk⟩, go⟩ := hr T hT Y
  cases hv
  rw [h0] at hz hk
  have hS1 : va_S (AA Λ) (xs X).heap T'.heap (locs ++ L) :=
    ⟨Nat.le_trans hS.1 (by rw [e1]; exact hz), fun q g1 g2 => by rw [e1, hk q (Nat.lt_of_lt_of_le g1 hS.1) g2]; exact hS.2.1 q g1 g2, fun q hq => by
      rcases List.mem_append.mp hq with g | g
      · exact hS.2.2 q g
      · exact hL q g⟩
  obtain ⟨t2, a1, b1⟩ := k ls T'.heap (locs ++ L) hl (by rw [e1]; exact hB.2.1) hS1 T' rfl Y'
  exact ⟨t2, go t2 a1, b1⟩
theorem v_callV (C : OK X Λ cc nL own fr lo) {idx n ci q0 b N : Nat} {Cn : String} {T : u_T} {fs : List Value} {y : MethodName} {c2 : ByteArray} {n2 fr2 lo2 : Nat} {ret : Option FieldType} {As rest : List Value} {rv : Option Value} (K : KV own idx Cn y c2 n2 ret n) (hM : CT (xl X) Λ y c2 n2 ret fr2 lo2 (.ref b :: As) σ rv σ2)
    (he : (Wd Λ σ)[q0]? = some (b, .inr (ci, fs))) (hc : vwCl[ci]? = some (Cn, T, N)) (hR : fr2 + 1 ≤ fr ∧ 8 + (n2 + 11) + lo2 ≤ lo) (hst : st = As.reverse ++ .ref b :: rest) (hn : As.length = n) (hcat : (rest.map fun v => v.category).sum ≤ 8) (hd : decode cc pc = .ok (.invokevirtual idx, 3)) (hp : pc2 = pc + 3) (k : VV X Λ nL pc2 lv (rv.toList ++ rest) σ2) : VV X Λ nL pc lv st σ := by
  subst hp; intro ls H locs hl hP hS
  obtain ⟨h1, h2, h3, h4, h5, h6, h7, h8, h9, h10, h11, h12, h13, h14⟩ := C
  have C2 : OK X Λ cc nL own fr lo := ⟨h1, h2, h3, h4, h5, h6, h7, h8, h9, h10, h11, h12, h13, h14⟩
  refine v_after C2 hl hS (va_runV (C := Cn) (b := b) (As := As) (rest := rest) ⟨h1, h2, h3, h4, h5⟩ hM (cwV n h5 K.1 rfl rfl rfl K.2 (by rw [h11, h12]; exact hR)) ⟨blind_BW, ?_, fun U hU hW => ⟨rfl, C2.bw hP hS hU hW⟩⟩ rfl hn hl.1 hst (lv_room hcat) hd ⟨h13, h14⟩) k
  obtain ⟨cell, g1, g2, g3⟩ := va_recv h7 hP hc he
  exact ⟨cell, g1, g2, g3⟩
theorem v_callS (C : OK X Λ cc nL own fr lo) {idx n : Nat} {y : MethodName} {c2 : ByteArray} {n2 fr2 lo2 : Nat} {ret : Option FieldType} {As rest : List Value} {rv : Option Value} (K : KS own idx y c2 n2 ret n) (hM : CT (xl X) Λ y c2 n2 ret fr2 lo2 As σ rv σ2)
    (hR : fr2 + 1 ≤ fr ∧ 8 + (n2 + 11) + lo2 ≤ lo) (hst : st = As.reverse ++ rest) (hn : As.length = n) (hcat : (rest.map fun v => v.category).sum ≤ 8) (hd : decode cc pc = .ok (.invokestatic idx, 3)) (hp : pc2 = pc + 3) (k : VV X Λ nL pc2 lv (rv.toList ++ rest) σ2) : VV X Λ nL pc lv st σ := by
  subst hp; intro ls H locs hl hP hS
  obtain ⟨h1, h2, h3, h4, h5, h6, h7, h8, h9, h10, h11, h12, h13, h14⟩ := C
  have C2 : OK X Λ cc nL own fr lo := ⟨h1, h2, h3, h4, h5, h6, h7, h8, h9, h10, h11, h12, h13, h14⟩
  exact v_after C2 hl hS (va_runS (As := As) (rest := rest) ⟨h1, h2, h3, h4, h5⟩ hM (va_cwS n h5 K.1 rfl rfl rfl K.2 (by rw [h11, h12]; exact hR)) ⟨blind_BW, fun U hU hW => ⟨rfl, C2.bw hP hS hU hW⟩⟩ rfl hn hl.1 hst (lv_room hcat) hd ⟨h13, h14⟩) k
theorem v_callN (C : OK X Λ cc nL own fr lo) {idx n : Nat} {y : MethodName} {c2 : ByteArray} {n2 fr2 lo2 : Nat} {ret : Option FieldType} {As rest : List Value} {rv : Option Value} (K : KN own idx y c2 n2 ret n) (hM : CT (xl X) Λ y c2 n2 ret fr2 lo2 As σ rv σ2)
    (hR : fr2 + 1 ≤ fr ∧ 8 + (n2 + 11) + lo2 ≤ lo) (hst : st = As.reverse ++ rest) (hn : As.length = n) (hcat : (rest.map fun v => v.category).sum ≤ 8) (hd : decode cc pc = .ok (.invokestatic idx, 3)) (hp : pc2 = pc + 3) (k : VV X Λ nL pc2 lv (rv.toList ++ rest) σ2) : VV X Λ nL pc lv st σ := by
  subst hp; intro ls H locs hl hP hS
  obtain ⟨h1, h2, h3, h4, h5, h6, h7, h8, h9, h10, h11, h12, h13, h14⟩ := C
  have C2 : OK X Λ cc nL own fr lo := ⟨h1, h2, h3, h4, h5, h6, h7, h8, h9, h10, h11, h12, h13, h14⟩
  obtain ⟨k1, k2, k3, k4, k5⟩ := K
  have hG : GoodIn wsG (Cond.code y c2 n2 ret :: wsG) := goodG (fun w hw => by rcases List.mem_cons.mp hw with rfl | g; exact k4; exact g)
  exact v_after C2 hl hS (va_runSN (As := As) (rest := rest) ⟨h1, h2, h3, h4, h5⟩ hM ⟨va_cnB n h5 hG rfl rfl rfl (h9.2.2.2.2 _ k1) (h5 _ k3) k5 (by rw [h11, h12]; exact hR), h5 _ k2, trivial⟩ ⟨blind_BW, fun U hU hW => ⟨rfl, C2.bw hP hS hU hW⟩⟩ rfl hn hl.1 hst (lv_room hcat) hd ⟨h13, h14⟩) k
/-! Math -/
theorem v_mmax (C : OK X Λ cc nL own fr lo) {idx : Nat} (w1 : Cond.methodLink own idx Lib.Math.max.name ∈ wsG) (w2 : Cond.static Lib.Math.max.name ∈ wsG) (w3 : Cond.initialized "java/lang/Math" ∈ wsG) (w4 : Cond.code Lib.Math.max.name Lib.Math.max.code 2 (some .int) ∈ wsG) (hf : 1 ≤ fr) (hlo : (st.map fun v => v.category).sum + 13 ≤ lo) {x y : Int32} (hd : decode cc pc = .ok (.invokestatic idx, 3)) (hp : pc2 = pc + 3) (k : VV X Λ nL pc2 lv (.int (if x < y then y else x) :: st) σ) : VV X Λ nL pc lv (.int y :: .int x :: st) σ := by
  subst hp; intro ls H locs hl hP hS
  obtain ⟨h1, h2, h3, h4, h5, h6, h7, h8, h9, h10, h11, h12, h13, h14⟩ := C
  exact va_mmax h1 h2 (h3.trans hl.1.symm) h4 (h5 _ w1) (h5 _ w2) (h5 _ w3) (h5 _ w4) (by rw [h11]; exact hf) (by rw [h12]; exact hlo) h13 h14 hd (k ls H locs hl hP hS)
theorem v_mmin (C : OK X Λ cc nL own fr lo) {idx : Nat} (w1 : Cond.methodLink own idx Lib.Math.min.name ∈ wsG) (w2 : Cond.static Lib.Math.min.name ∈ wsG) (w3 : Cond.initialized "java/lang/Math" ∈ wsG) (w4 : Cond.code Lib.Math.min.name Lib.Math.min.code 2 (some .int) ∈ wsG) (hf : 1 ≤ fr) (hlo : (st.map fun v => v.category).sum + 13 ≤ lo) {x y : Int32} (hd : decode cc pc = .ok (.invokestatic idx, 3)) (hp : pc2 = pc + 3) (k : VV X Λ nL pc2 lv (.int (if y < x then y else x) :: st) σ) : VV X Λ nL pc lv (.int y :: .int x :: st) σ := by
  subst hp; intro ls H locs hl hP hS
  obtain ⟨h1, h2, h3, h4, h5, h6, h7, h8, h9, h10, h11, h12, h13, h14⟩ := C
  exact va_mmin h1 h2 (h3.trans hl.1.symm) h4 (h5 _ w1) (h5 _ w2) (h5 _ w3) (h5 _ w4) (by rw [h11]; exact hf) (by rw [h12]; exact hlo) h13 h14 hd (k ls H locs hl hP hS)
theorem v_mabs (C : OK X Λ cc nL own fr lo) {idx : Nat} (w1 : Cond.methodLink own idx Lib.Math.abs.name ∈ wsG) (w2 : Cond.static Lib.Math.abs.name ∈ wsG) (w3 : Cond.initialized "java/lang/Math" ∈ wsG) (w4 : Cond.code Lib.Math.abs.name Lib.Math.abs.code 1 (some .int) ∈ wsG) (hf : 1 ≤ fr) (hlo : (st.map fun v => v.category).sum + 13 ≤ lo) {x : Int32} (hd : decode cc pc = .ok (.invokestatic idx, 3)) (hp : pc2 = pc + 3) (k : VV X Λ nL pc2 lv (.int (if 0 ≤ x then x else 0 - x) :: st) σ) : VV X Λ nL pc lv (.int x :: st) σ := by
  subst hp; intro ls H locs hl hP hS
  obtain ⟨h1, h2, h3, h4, h5, h6, h7, h8, h9, h10, h11, h12, h13, h14⟩ := C
  exact va_mabs h1 h2 (h3.trans hl.1.symm) h4 (h5 _ w1) (h5 _ w2) (h5 _ w3) (h5 _ w4) (by rw [h11]; exact hf) (by rw [h12]; exact hlo) h13 h14 hd (k ls H locs hl hP hS)
theorem v_lmax (C : OK X Λ cc nL own fr lo) {idx : Nat} (w1 : Cond.methodLink own idx Lib.MathLoose.max_long.x ∈ wsG) (w2 : Cond.static Lib.MathLoose.max_long.x ∈ wsG) (w3 : Cond.initialized "java/lang/Math" ∈ wsG) (w4 : Cond.code Lib.MathLoose.max_long.x Lib.MathLoose.max_long.code 4 (some .long) ∈ wsG) (hf : 1 ≤ fr) (hlo : (st.map fun v => v.category).sum + 15 ≤ lo) {x y : Int64} (hd : decode cc pc = .ok (.invokestatic idx, 3)) (hp : pc2 = pc + 3) (k : VV X Λ nL pc2 lv (.long (if y < x then x else y) :: st) σ) : VV X Λ nL pc lv (.long y :: .long x :: st) σ := by
  subst hp; intro ls H locs hl hP hS
  obtain ⟨h1, h2, h3, h4, h5, h6, h7, h8, h9, h10, h11, h12, h13, h14⟩ := C
  exact va_mmax_long h1 h2 (h3.trans hl.1.symm) h4 (h5 _ w1) (h5 _ w2) (h5 _ w3) (h5 _ w4) (by rw [h11]; exact hf) (by rw [h12]; exact hlo) h13 h14 hd (k ls H locs hl hP hS)
theorem v_lmin (C : OK X Λ cc nL own fr lo) {idx : Nat} (w1 : Cond.methodLink own idx Lib.MathLoose.min_long.x ∈ wsG) (w2 : Cond.static Lib.MathLoose.min_long.x ∈ wsG) (w3 : Cond.initialized "java/lang/Math" ∈ wsG) (w4 : Cond.code Lib.MathLoose.min_long.x Lib.MathLoose.min_long.code 4 (some .long) ∈ wsG) (hf : 1 ≤ fr) (hlo : (st.map fun v => v.category).sum + 15 ≤ lo) {x y : Int64} (hd : decode cc pc = .ok (.invokestatic idx, 3)) (hp : pc2 = pc + 3) (k : VV X Λ nL pc2 lv (.long (if y < x then y else x) :: st) σ) : VV X Λ nL pc lv (.long y :: .long x :: st) σ := by
  subst hp; intro ls H locs hl hP hS
  obtain ⟨h1, h2, h3, h4, h5, h6, h7, h8, h9, h10, h11, h12, h13, h14⟩ := C
  exact va_mmin_long h1 h2 (h3.trans hl.1.symm) h4 (h5 _ w1) (h5 _ w2) (h5 _ w3) (h5 _ w4) (by rw [h11]; exact hf) (by rw [h12]; exact hlo) h13 h14 hd (k ls H locs hl hP hS)
end VVH
/-- a contract out of a walk -/
theorem CT_of {l : Launch} {Λ : LY} {y : MethodName} {cc : ByteArray} {nL : Nat} {ret : Option FieldType} {fr lo : Nat} {av : List Value} {σ : St} {rv : Option Value} {σ2 : St} (hy : plainName y.cls = true) (hlen : (lg_sl av).length ≤ nL)
    (body : ∀ X : CX, xl X = l → OK X Λ cc nL y.cls fr lo → EN X Λ ret rv σ2 → VV X Λ nL 0 (lv_args 0 av) [] σ) : CT l Λ y cc nL ret fr lo av σ rv σ2 := by
  refine Met.ofW (cc := cc) (maxL := nL) (ret := ret) hy rfl ?_
  intro p e s m args below meth c s₁ B hml hv
  obtain ⟨rfl, h0, hP, hK, hD, hT⟩ := hv
  have hts := atoms_spec (ws := Cond.code y cc nL ret :: wsG) B.pre
  have hown : s.vm.findClass y.cls = some m.cls := findClass_of_methodNamed B.named
  rw [lg_entry_eq]
  have hl := lv_entry av (n := nL) hlen
  exact body (p, l, e, { frames := fr, cells := 0, slots := 0, locals := lo }, s, m, av.toArray, below, meth, c, 0, 0, MQ below (QR Λ rv σ2) av.toArray s 0 0 (AA Λ)) rfl
    ⟨B.exec, B.bytes, hml, hown, fun w hw => hts w (List.mem_cons_of_mem _ hw), B.notSynchronized, hK, hD, hT, h0, rfl, rfl, Nat.le_refl _, Nat.le_refl _⟩ ⟨B.returns, rfl⟩ _ s.heap [] hl hP va_S.rf
end
section
section FLD
variable {X : CX} {Λ : LY} {cc : ByteArray} {nL fr lo : Nat} {own : String} {pc pc2 : Nat} {lv lv2 : List (Nat × Value)} {st : List Value} {σ σ2 : St}
theorem vg_X9_field (C : OK X Λ cc nL own fr lo) {idx : Nat} (hw : Cond.fieldLink own idx RX9 "field" "LSunRows$Field;" ∈ wsG) (hd : decode cc pc = .ok (.getfield idx, 3)) (hp : pc2 = pc + 3) (k : VV X Λ nL pc2 lv (.ref (adr Λ 1) :: st) σ) : VV X Λ nL pc lv (.ref (adr Λ 0) :: st) σ := v_get C inG9 0 (wd0 Λ σ) rfl 0 (by decide) rfl hw rfl hd hp k
theorem vg_X9_sky (C : OK X Λ cc nL own fr lo) {idx : Nat} (hw : Cond.fieldLink own idx RX9 "sky" "LSunRows$Sky;" ∈ wsG) (hd : decode cc pc = .ok (.getfield idx, 3)) (hp : pc2 = pc + 3) (k : VV X Λ nL pc2 lv (.ref (adr Λ 2) :: st) σ) : VV X Λ nL pc lv (.ref (adr Λ 0) :: st) σ := v_get C inG9 0 (wd0 Λ σ) rfl 1 (by decide) rfl hw rfl hd hp k
theorem vg_X9_strings (C : OK X Λ cc nL own fr lo) {idx : Nat} (hw : Cond.fieldLink own idx RX9 "strings" "LSunRows$Strings;" ∈ wsG) (hd : decode cc pc = .ok (.getfield idx, 3)) (hp : pc2 = pc + 3) (k : VV X Λ nL pc2 lv (.ref (adr Λ 3) :: st) σ) : VV X Λ nL pc lv (.ref (adr Λ 0) :: st) σ := v_get C inG9 0 (wd0 Λ σ) rfl 2 (by decide) rfl hw rfl hd hp k
theorem vg_X9_weather (C : OK X Λ cc nL own fr lo) {idx : Nat} (hw : Cond.fieldLink own idx RX9 "weather" "LSunRows$Weather;" ∈ wsG) (hd : decode cc pc = .ok (.getfield idx, 3)) (hp : pc2 = pc + 3) (k : VV X Λ nL pc2 lv (.ref (adr Λ 4) :: st) σ) : VV X Λ nL pc lv (.ref (adr Λ 0) :: st) σ := v_get C inG9 0 (wd0 Λ σ) rfl 3 (by decide) rfl hw rfl hd hp k
theorem vg_X9_ledger (C : OK X Λ cc nL own fr lo) {idx : Nat} (hw : Cond.fieldLink own idx RX9 "ledger" "LSunRows$Ledger;" ∈ wsG) (hd : decode cc pc = .ok (.getfield idx, 3)) (hp : pc2 = pc + 3) (k : VV X Λ nL pc2 lv (.ref (adr Λ 5) :: st) σ) : VV X Λ nL pc lv (.ref (adr Λ 0) :: st) σ := v_get C inG9 0 (wd0 Λ σ) rfl 4 (by decide) rfl hw rfl hd hp k
theorem vg_X9_washing (C : OK X Λ cc nL own fr lo) {idx : Nat} (hw : Cond.fieldLink own idx RX9 "washing" "LSunRows$Washing;" ∈ wsG) (hd : decode cc pc = .ok (.getfield idx, 3)) (hp : pc2 = pc + 3) (k : VV X Λ nL pc2 lv (.ref (adr Λ 6) :: st) σ) : VV X Λ nL pc lv (.ref (adr Λ 0) :: st) σ := v_get C inG9 0 (wd0 Λ σ) rfl 5 (by decide) rfl hw rfl hd hp k
theorem vg_X9_tape (C : OK X Λ cc nL own fr lo) {idx : Nat} (hw : Cond.fieldLink own idx RX9 "tape" "LSunRows$Tape;" ∈ wsG) (hd : decode cc pc = .ok (.getfield idx, 3)) (hp : pc2 = pc + 3) (k : VV X Λ nL pc2 lv (.ref (adr Λ 7) :: st) σ) : VV X Λ nL pc lv (.ref (adr Λ 0) :: st) σ := v_get C inG9 0 (wd0 Λ σ) rfl 6 (by decide) rfl hw rfl hd hp k
theorem vg_X9_answered (C : OK X Λ cc nL own fr lo) {idx : Nat} (hw : Cond.fieldLink own idx RX9 "answered" "[I" ∈ wsG) (hd : decode cc pc = .ok (.getfield idx, 3)) (hp : pc2 = pc + 3) (k : VV X Λ nL pc2 lv (.ref (adr Λ 8) :: st) σ) : VV X Λ nL pc lv (.ref (adr Λ 0) :: st) σ := v_get C inG9 0 (wd0 Λ σ) rfl 7 (by decide) rfl hw rfl hd hp k
theorem vg_X9_nextHour (C : OK X Λ cc nL own fr lo) {idx : Nat} (hw : Cond.fieldLink own idx RX9 "nextHour" "I" ∈ wsG) (hd : decode cc pc = .ok (.getfield idx, 3)) (hp : pc2 = pc + 3) (k : VV X Λ nL pc2 lv (.int (gI σ 0) :: st) σ) : VV X Λ nL pc lv (.ref (adr Λ 0) :: st) σ := v_get C inG9 0 (wd0 Λ σ) rfl 8 (by decide) rfl hw rfl hd hp k
theorem vp_X9_nextHour (C : OK X Λ cc nL own fr lo) {idx : Nat} {v : Int32} (hw : Cond.fieldLink own idx RX9 "nextHour" "I" ∈ wsG) (hd : decode cc pc = .ok (.putfield idx, 3)) (hp : pc2 = pc + 3) (k : VV X Λ nL pc2 lv st (uI σ 0 v)) : VV X Λ nL pc lv (.int v :: .ref (adr Λ 0) :: st) σ := v_put C inG9 tyX9 tyX9_ok nmX9 0 (wd0 Λ σ) rfl 8 (by decide) rfl hw rfl (ty := .int) (by decide +kernel) rfl rfl (by decide : 8 < 10) (ws0_8 Λ σ v) hd hp k
theorem vg_X9_latestTarget (C : OK X Λ cc nL own fr lo) {idx : Nat} (hw : Cond.fieldLink own idx RX9 "latestTarget" "I" ∈ wsG) (hd : decode cc pc = .ok (.getfield idx, 3)) (hp : pc2 = pc + 3) (k : VV X Λ nL pc2 lv (.int (gI σ 1) :: st) σ) : VV X Λ nL pc lv (.ref (adr Λ 0) :: st) σ := v_get C inG9 0 (wd0 Λ σ) rfl 9 (by decide) rfl hw rfl hd hp k
theorem vp_X9_latestTarget (C : OK X Λ cc nL own fr lo) {idx : Nat} {v : Int32} (hw : Cond.fieldLink own idx RX9 "latestTarget" "I" ∈ wsG) (hd : decode cc pc = .ok (.putfield idx, 3)) (hp : pc2 = pc + 3) (k : VV X Λ nL pc2 lv st (uI σ 1 v)) : VV X Λ nL pc lv (.int v :: .ref (adr Λ 0) :: st) σ := v_put C inG9 tyX9 tyX9_ok nmX9 0 (wd0 Λ σ) rfl 9 (by decide) rfl hw rfl (ty := .int) (by decide +kernel) rfl rfl (by decide : 9 < 10) (ws0_9 Λ σ v) hd hp k
theorem vg_X0_rows (C : OK X Λ cc nL own fr lo) {idx : Nat} (hw : Cond.fieldLink own idx RX0 "rows" "[LSunRows$Row;" ∈ wsG) (hd : decode cc pc = .ok (.getfield idx, 3)) (hp : pc2 = pc + 3) (k : VV X Λ nL pc2 lv (.ref (adr Λ 9) :: st) σ) : VV X Λ nL pc lv (.ref (adr Λ 1) :: st) σ := v_get C inG0 1 (wd1 Λ σ) rfl 0 (by decide) rfl hw rfl hd hp k
theorem vg_X0_looks (C : OK X Λ cc nL own fr lo) {idx : Nat} (hw : Cond.fieldLink own idx RX0 "looks" "LSunRows$Looks;" ∈ wsG) (hd : decode cc pc = .ok (.getfield idx, 3)) (hp : pc2 = pc + 3) (k : VV X Λ nL pc2 lv (.ref (adr Λ 10) :: st) σ) : VV X Λ nL pc lv (.ref (adr Λ 1) :: st) σ := v_get C inG0 1 (wd1 Λ σ) rfl 1 (by decide) rfl hw rfl hd hp k
theorem vg_X0_unshaded (C : OK X Λ cc nL own fr lo) {idx : Nat} (hw : Cond.fieldLink own idx RX0 "unshaded" "[J" ∈ wsG) (hd : decode cc pc = .ok (.getfield idx, 3)) (hp : pc2 = pc + 3) (k : VV X Λ nL pc2 lv (.ref (adr Λ 11) :: st) σ) : VV X Λ nL pc lv (.ref (adr Λ 1) :: st) σ := v_get C inG0 1 (wd1 Λ σ) rfl 2 (by decide) rfl hw rfl hd hp k
theorem vg_X0_taken (C : OK X Λ cc nL own fr lo) {idx : Nat} (hw : Cond.fieldLink own idx RX0 "taken" "[J" ∈ wsG) (hd : decode cc pc = .ok (.getfield idx, 3)) (hp : pc2 = pc + 3) (k : VV X Λ nL pc2 lv (.ref (adr Λ 12) :: st) σ) : VV X Λ nL pc lv (.ref (adr Λ 1) :: st) σ := v_get C inG0 1 (wd1 Λ σ) rfl 3 (by decide) rfl hw rfl hd hp k
theorem vg_X0_currents (C : OK X Λ cc nL own fr lo) {idx : Nat} (hw : Cond.fieldLink own idx RX0 "currents" "[I" ∈ wsG) (hd : decode cc pc = .ok (.getfield idx, 3)) (hp : pc2 = pc + 3) (k : VV X Λ nL pc2 lv (.ref (adr Λ 13) :: st) σ) : VV X Λ nL pc lv (.ref (adr Λ 1) :: st) σ := v_get C inG0 1 (wd1 Λ σ) rfl 4 (by decide) rfl hw rfl hd hp k
theorem vg_X0_count (C : OK X Λ cc nL own fr lo) {idx : Nat} (hw : Cond.fieldLink own idx RX0 "count" "I" ∈ wsG) (hd : decode cc pc = .ok (.getfield idx, 3)) (hp : pc2 = pc + 3) (k : VV X Λ nL pc2 lv (.int (gI σ 2) :: st) σ) : VV X Λ nL pc lv (.ref (adr Λ 1) :: st) σ := v_get C inG0 1 (wd1 Λ σ) rfl 5 (by decide) rfl hw rfl hd hp k
theorem vp_X0_count (C : OK X Λ cc nL own fr lo) {idx : Nat} {v : Int32} (hw : Cond.fieldLink own idx RX0 "count" "I" ∈ wsG) (hd : decode cc pc = .ok (.putfield idx, 3)) (hp : pc2 = pc + 3) (k : VV X Λ nL pc2 lv st (uI σ 2 v)) : VV X Λ nL pc lv (.int v :: .ref (adr Λ 1) :: st) σ := v_put C inG0 tyX0 tyX0_ok nmX0 1 (wd1 Λ σ) rfl 5 (by decide) rfl hw rfl (ty := .int) (by decide +kernel) rfl rfl (by decide : 5 < 7) (ws1_5 Λ σ v) hd hp k
theorem vg_X0_sunX (C : OK X Λ cc nL own fr lo) {idx : Nat} (hw : Cond.fieldLink own idx RX0 "sunX" "I" ∈ wsG) (hd : decode cc pc = .ok (.getfield idx, 3)) (hp : pc2 = pc + 3) (k : VV X Λ nL pc2 lv (.int (gI σ 3) :: st) σ) : VV X Λ nL pc lv (.ref (adr Λ 1) :: st) σ := v_get C inG0 1 (wd1 Λ σ) rfl 6 (by decide) rfl hw rfl hd hp k
theorem vp_X0_sunX (C : OK X Λ cc nL own fr lo) {idx : Nat} {v : Int32} (hw : Cond.fieldLink own idx RX0 "sunX" "I" ∈ wsG) (hd : decode cc pc = .ok (.putfield idx, 3)) (hp : pc2 = pc + 3) (k : VV X Λ nL pc2 lv st (uI σ 3 v)) : VV X Λ nL pc lv (.int v :: .ref (adr Λ 1) :: st) σ := v_put C inG0 tyX0 tyX0_ok nmX0 1 (wd1 Λ σ) rfl 6 (by decide) rfl hw rfl (ty := .int) (by decide +kernel) rfl rfl (by decide : 6 < 7) (ws1_6 Λ σ v) hd hp k
theorem vg_X4_x (C : OK X Λ cc nL own fr lo) {idx : Nat} (hw : Cond.fieldLink own idx RX4 "x" "[I" ∈ wsG) (hd : decode cc pc = .ok (.getfield idx, 3)) (hp : pc2 = pc + 3) (k : VV X Λ nL pc2 lv (.ref (adr Λ 14) :: st) σ) : VV X Λ nL pc lv (.ref (adr Λ 2) :: st) σ := v_get C inG4 2 (wd2 Λ σ) rfl 0 (by decide) rfl hw rfl hd hp k
theorem vg_X4_y (C : OK X Λ cc nL own fr lo) {idx : Nat} (hw : Cond.fieldLink own idx RX4 "y" "[I" ∈ wsG) (hd : decode cc pc = .ok (.getfield idx, 3)) (hp : pc2 = pc + 3) (k : VV X Λ nL pc2 lv (.ref (adr Λ 15) :: st) σ) : VV X Λ nL pc lv (.ref (adr Λ 2) :: st) σ := v_get C inG4 2 (wd2 Λ σ) rfl 1 (by decide) rfl hw rfl hd hp k
theorem vg_X5_ceilings (C : OK X Λ cc nL own fr lo) {idx : Nat} (hw : Cond.fieldLink own idx RX5 "ceilings" "[I" ∈ wsG) (hd : decode cc pc = .ok (.getfield idx, 3)) (hp : pc2 = pc + 3) (k : VV X Λ nL pc2 lv (.ref (adr Λ 16) :: st) σ) : VV X Λ nL pc lv (.ref (adr Λ 3) :: st) σ := v_get C inG5 3 (wd3 Λ σ) rfl 0 (by decide) rfl hw rfl hd hp k
theorem vg_X5_ranked (C : OK X Λ cc nL own fr lo) {idx : Nat} (hw : Cond.fieldLink own idx RX5 "ranked" "[I" ∈ wsG) (hd : decode cc pc = .ok (.getfield idx, 3)) (hp : pc2 = pc + 3) (k : VV X Λ nL pc2 lv (.ref (adr Λ 17) :: st) σ) : VV X Λ nL pc lv (.ref (adr Λ 3) :: st) σ := v_get C inG5 3 (wd3 Λ σ) rfl 1 (by decide) rfl hw rfl hd hp k
theorem vg_X5_members (C : OK X Λ cc nL own fr lo) {idx : Nat} (hw : Cond.fieldLink own idx RX5 "members" "I" ∈ wsG) (hd : decode cc pc = .ok (.getfield idx, 3)) (hp : pc2 = pc + 3) (k : VV X Λ nL pc2 lv (.int (gI σ 4) :: st) σ) : VV X Λ nL pc lv (.ref (adr Λ 3) :: st) σ := v_get C inG5 3 (wd3 Λ σ) rfl 2 (by decide) rfl hw rfl hd hp k
theorem vp_X5_members (C : OK X Λ cc nL own fr lo) {idx : Nat} {v : Int32} (hw : Cond.fieldLink own idx RX5 "members" "I" ∈ wsG) (hd : decode cc pc = .ok (.putfield idx, 3)) (hp : pc2 = pc + 3) (k : VV X Λ nL pc2 lv st (uI σ 4 v)) : VV X Λ nL pc lv (.int v :: .ref (adr Λ 3) :: st) σ := v_put C inG5 tyX5 tyX5_ok nmX5 3 (wd3 Λ σ) rfl 2 (by decide) rfl hw rfl (ty := .int) (by decide +kernel) rfl rfl (by decide : 2 < 3) (ws3_2 Λ σ v) hd hp k
theorem vg_X8_readings (C : OK X Λ cc nL own fr lo) {idx : Nat} (hw : Cond.fieldLink own idx RX8 "readings" "[I" ∈ wsG) (hd : decode cc pc = .ok (.getfield idx, 3)) (hp : pc2 = pc + 3) (k : VV X Λ nL pc2 lv (.ref (adr Λ 18) :: st) σ) : VV X Λ nL pc lv (.ref (adr Λ 4) :: st) σ := v_get C inG8 4 (wd4 Λ σ) rfl 0 (by decide) rfl hw rfl hd hp k
theorem vg_X8_cleans (C : OK X Λ cc nL own fr lo) {idx : Nat} (hw : Cond.fieldLink own idx RX8 "cleans" "[Z" ∈ wsG) (hd : decode cc pc = .ok (.getfield idx, 3)) (hp : pc2 = pc + 3) (k : VV X Λ nL pc2 lv (.ref (adr Λ 19) :: st) σ) : VV X Λ nL pc lv (.ref (adr Λ 4) :: st) σ := v_get C inG8 4 (wd4 Λ σ) rfl 1 (by decide) rfl hw rfl hd hp k
theorem vg_X8_stowAt (C : OK X Λ cc nL own fr lo) {idx : Nat} (hw : Cond.fieldLink own idx RX8 "stowAt" "I" ∈ wsG) (hd : decode cc pc = .ok (.getfield idx, 3)) (hp : pc2 = pc + 3) (k : VV X Λ nL pc2 lv (.int (gI σ 5) :: st) σ) : VV X Λ nL pc lv (.ref (adr Λ 4) :: st) σ := v_get C inG8 4 (wd4 Λ σ) rfl 2 (by decide) rfl hw rfl hd hp k
theorem vp_X8_stowAt (C : OK X Λ cc nL own fr lo) {idx : Nat} {v : Int32} (hw : Cond.fieldLink own idx RX8 "stowAt" "I" ∈ wsG) (hd : decode cc pc = .ok (.putfield idx, 3)) (hp : pc2 = pc + 3) (k : VV X Λ nL pc2 lv st (uI σ 5 v)) : VV X Λ nL pc lv (.int v :: .ref (adr Λ 4) :: st) σ := v_put C inG8 tyX8 tyX8_ok nmX8 4 (wd4 Λ σ) rfl 2 (by decide) rfl hw rfl (ty := .int) (by decide +kernel) rfl rfl (by decide : 2 < 5) (ws4_2 Λ σ v) hd hp k
theorem vg_X8_lostInARow (C : OK X Λ cc nL own fr lo) {idx : Nat} (hw : Cond.fieldLink own idx RX8 "lostInARow" "I" ∈ wsG) (hd : decode cc pc = .ok (.getfield idx, 3)) (hp : pc2 = pc + 3) (k : VV X Λ nL pc2 lv (.int (gI σ 6) :: st) σ) : VV X Λ nL pc lv (.ref (adr Λ 4) :: st) σ := v_get C inG8 4 (wd4 Λ σ) rfl 3 (by decide) rfl hw rfl hd hp k
theorem vp_X8_lostInARow (C : OK X Λ cc nL own fr lo) {idx : Nat} {v : Int32} (hw : Cond.fieldLink own idx RX8 "lostInARow" "I" ∈ wsG) (hd : decode cc pc = .ok (.putfield idx, 3)) (hp : pc2 = pc + 3) (k : VV X Λ nL pc2 lv st (uI σ 6 v)) : VV X Λ nL pc lv (.int v :: .ref (adr Λ 4) :: st) σ := v_put C inG8 tyX8 tyX8_ok nmX8 4 (wd4 Λ σ) rfl 3 (by decide) rfl hw rfl (ty := .int) (by decide +kernel) rfl rfl (by decide : 3 < 5) (ws4_3 Λ σ v) hd hp k
theorem vg_X8_isStowed (C : OK X Λ cc nL own fr lo) {idx : Nat} (hw : Cond.fieldLink own idx RX8 "isStowed" "Z" ∈ wsG) (hd : decode cc pc = .ok (.getfield idx, 3)) (hp : pc2 = pc + 3) (k : VV X Λ nL pc2 lv (.int (gI σ 7) :: st) σ) : VV X Λ nL pc lv (.ref (adr Λ 4) :: st) σ := v_get C inG8 4 (wd4 Λ σ) rfl 4 (by decide) rfl hw rfl hd hp k
theorem vp_X8_isStowed (C : OK X Λ cc nL own fr lo) {idx : Nat} {v : Int32} (hv : v = 0 ∨ v = 1) (hw : Cond.fieldLink own idx RX8 "isStowed" "Z" ∈ wsG) (hd : decode cc pc = .ok (.putfield idx, 3)) (hp : pc2 = pc + 3) (k : VV X Λ nL pc2 lv st (uI σ 7 v)) : VV X Λ nL pc lv (.int v :: .ref (adr Λ 4) :: st) σ := v_put C inG8 tyX8 tyX8_ok nmX8 4 (wd4 Λ σ) rfl 4 (by decide) rfl hw rfl (ty := .boolean) (by decide +kernel) (by rcases hv with rfl | rfl <;> decide +kernel) (by rcases hv with rfl | rfl <;> decide +kernel) (by decide : 4 < 5) (ws4_4 Λ σ v) hd hp k
theorem vg_X1_latest (C : OK X Λ cc nL own fr lo) {idx : Nat} (hw : Cond.fieldLink own idx RX1 "latest" "[J" ∈ wsG) (hd : decode cc pc = .ok (.getfield idx, 3)) (hp : pc2 = pc + 3) (k : VV X Λ nL pc2 lv (.ref (adr Λ 20) :: st) σ) : VV X Λ nL pc lv (.ref (adr Λ 5) :: st) σ := v_get C inG1 5 (wd5 Λ σ) rfl 0 (by decide) rfl hw rfl hd hp k
theorem vg_X1_sums (C : OK X Λ cc nL own fr lo) {idx : Nat} (hw : Cond.fieldLink own idx RX1 "sums" "[J" ∈ wsG) (hd : decode cc pc = .ok (.getfield idx, 3)) (hp : pc2 = pc + 3) (k : VV X Λ nL pc2 lv (.ref (adr Λ 21) :: st) σ) : VV X Λ nL pc lv (.ref (adr Λ 5) :: st) σ := v_get C inG1 5 (wd5 Λ σ) rfl 1 (by decide) rfl hw rfl hd hp k
theorem vg_X1_isBegun (C : OK X Λ cc nL own fr lo) {idx : Nat} (hw : Cond.fieldLink own idx RX1 "isBegun" "Z" ∈ wsG) (hd : decode cc pc = .ok (.getfield idx, 3)) (hp : pc2 = pc + 3) (k : VV X Λ nL pc2 lv (.int (gI σ 8) :: st) σ) : VV X Λ nL pc lv (.ref (adr Λ 5) :: st) σ := v_get C inG1 5 (wd5 Λ σ) rfl 2 (by decide) rfl hw rfl hd hp k
theorem vp_X1_isBegun (C : OK X Λ cc nL own fr lo) {idx : Nat} {v : Int32} (hv : v = 0 ∨ v = 1) (hw : Cond.fieldLink own idx RX1 "isBegun" "Z" ∈ wsG) (hd : decode cc pc = .ok (.putfield idx, 3)) (hp : pc2 = pc + 3) (k : VV X Λ nL pc2 lv st (uI σ 8 v)) : VV X Λ nL pc lv (.int v :: .ref (adr Λ 5) :: st) σ := v_put C inG1 tyX1 tyX1_ok nmX1 5 (wd5 Λ σ) rfl 2 (by decide) rfl hw rfl (ty := .boolean) (by decide +kernel) (by rcases hv with rfl | rfl <;> decide +kernel) (by rcases hv with rfl | rfl <;> decide +kernel) (by decide : 2 < 5) (ws5_2 Λ σ v) hd hp k
theorem vg_X1_state (C : OK X Λ cc nL own fr lo) {idx : Nat} (hw : Cond.fieldLink own idx RX1 "state" "I" ∈ wsG) (hd : decode cc pc = .ok (.getfield idx, 3)) (hp : pc2 = pc + 3) (k : VV X Λ nL pc2 lv (.int (gI σ 9) :: st) σ) : VV X Λ nL pc lv (.ref (adr Λ 5) :: st) σ := v_get C inG1 5 (wd5 Λ σ) rfl 3 (by decide) rfl hw rfl hd hp k
theorem vp_X1_state (C : OK X Λ cc nL own fr lo) {idx : Nat} {v : Int32} (hw : Cond.fieldLink own idx RX1 "state" "I" ∈ wsG) (hd : decode cc pc = .ok (.putfield idx, 3)) (hp : pc2 = pc + 3) (k : VV X Λ nL pc2 lv st (uI σ 9 v)) : VV X Λ nL pc lv (.int v :: .ref (adr Λ 5) :: st) σ := v_put C inG1 tyX1 tyX1_ok nmX1 5 (wd5 Λ σ) rfl 3 (by decide) rfl hw rfl (ty := .int) (by decide +kernel) rfl rfl (by decide : 3 < 5) (ws5_3 Λ σ v) hd hp k
theorem vg_X1_whichHour (C : OK X Λ cc nL own fr lo) {idx : Nat} (hw : Cond.fieldLink own idx RX1 "whichHour" "I" ∈ wsG) (hd : decode cc pc = .ok (.getfield idx, 3)) (hp : pc2 = pc + 3) (k : VV X Λ nL pc2 lv (.int (gI σ 10) :: st) σ) : VV X Λ nL pc lv (.ref (adr Λ 5) :: st) σ := v_get C inG1 5 (wd5 Λ σ) rfl 4 (by decide) rfl hw rfl hd hp k
theorem vp_X1_whichHour (C : OK X Λ cc nL own fr lo) {idx : Nat} {v : Int32} (hw : Cond.fieldLink own idx RX1 "whichHour" "I" ∈ wsG) (hd : decode cc pc = .ok (.putfield idx, 3)) (hp : pc2 = pc + 3) (k : VV X Λ nL pc2 lv st (uI σ 10 v)) : VV X Λ nL pc lv (.int v :: .ref (adr Λ 5) :: st) σ := v_put C inG1 tyX1 tyX1_ok nmX1 5 (wd5 Λ σ) rfl 4 (by decide) rfl hw rfl (ty := .int) (by decide +kernel) rfl rfl (by decide : 4 < 5) (ws5_4 Λ σ v) hd hp k
theorem vg_X7_bestSet (C : OK X Λ cc nL own fr lo) {idx : Nat} (hw : Cond.fieldLink own idx RX7 "bestSet" "I" ∈ wsG) (hd : decode cc pc = .ok (.getfield idx, 3)) (hp : pc2 = pc + 3) (k : VV X Λ nL pc2 lv (.int (gI σ 11) :: st) σ) : VV X Λ nL pc lv (.ref (adr Λ 6) :: st) σ := v_get C inG7 6 (wd6 Λ σ) rfl 0 (by decide) rfl hw rfl hd hp k
theorem vp_X7_bestSet (C : OK X Λ cc nL own fr lo) {idx : Nat} {v : Int32} (hw : Cond.fieldLink own idx RX7 "bestSet" "I" ∈ wsG) (hd : decode cc pc = .ok (.putfield idx, 3)) (hp : pc2 = pc + 3) (k : VV X Λ nL pc2 lv st (uI σ 11 v)) : VV X Λ nL pc lv (.int v :: .ref (adr Λ 6) :: st) σ := v_put C inG7 tyX7 tyX7_ok nmX7 6 (wd6 Λ σ) rfl 0 (by decide) rfl hw rfl (ty := .int) (by decide +kernel) rfl rfl (by decide : 0 < 2) (ws6_0 Λ σ v) hd hp k
theorem vg_X7_bestValue (C : OK X Λ cc nL own fr lo) {idx : Nat} (hw : Cond.fieldLink own idx RX7 "bestValue" "J" ∈ wsG) (hd : decode cc pc = .ok (.getfield idx, 3)) (hp : pc2 = pc + 3) (k : VV X Λ nL pc2 lv (.long (gJ σ 0) :: st) σ) : VV X Λ nL pc lv (.ref (adr Λ 6) :: st) σ := v_get C inG7 6 (wd6 Λ σ) rfl 1 (by decide) rfl hw rfl hd hp k
theorem vp_X7_bestValue (C : OK X Λ cc nL own fr lo) {idx : Nat} {v : Int64} (hw : Cond.fieldLink own idx RX7 "bestValue" "J" ∈ wsG) (hd : decode cc pc = .ok (.putfield idx, 3)) (hp : pc2 = pc + 3) (k : VV X Λ nL pc2 lv st (uJ σ 0 v)) : VV X Λ nL pc lv (.long v :: .ref (adr Λ 6) :: st) σ := v_put C inG7 tyX7 tyX7_ok nmX7 6 (wd6 Λ σ) rfl 1 (by decide) rfl hw rfl (ty := .long) (by decide +kernel) rfl rfl (by decide : 1 < 2) (ws6_1 Λ σ v) hd hp k
theorem vg_X6_numbers (C : OK X Λ cc nL own fr lo) {idx : Nat} (hw : Cond.fieldLink own idx RX6 "numbers" "[I" ∈ wsG) (hd : decode cc pc = .ok (.getfield idx, 3)) (hp : pc2 = pc + 3) (k : VV X Λ nL pc2 lv (.ref (adr Λ 22) :: st) σ) : VV X Λ nL pc lv (.ref (adr Λ 7) :: st) σ := v_get C inG6 7 (wd7 Λ σ) rfl 0 (by decide) rfl hw rfl hd hp k
theorem vg_X6_size (C : OK X Λ cc nL own fr lo) {idx : Nat} (hw : Cond.fieldLink own idx RX6 "size" "I" ∈ wsG) (hd : decode cc pc = .ok (.getfield idx, 3)) (hp : pc2 = pc + 3) (k : VV X Λ nL pc2 lv (.int (gI σ 12) :: st) σ) : VV X Λ nL pc lv (.ref (adr Λ 7) :: st) σ := v_get C inG6 7 (wd7 Λ σ) rfl 1 (by decide) rfl hw rfl hd hp k
theorem vp_X6_size (C : OK X Λ cc nL own fr lo) {idx : Nat} {v : Int32} (hw : Cond.fieldLink own idx RX6 "size" "I" ∈ wsG) (hd : decode cc pc = .ok (.putfield idx, 3)) (hp : pc2 = pc + 3) (k : VV X Λ nL pc2 lv st (uI σ 12 v)) : VV X Λ nL pc lv (.int v :: .ref (adr Λ 7) :: st) σ := v_put C inG6 tyX6 tyX6_ok nmX6 7 (wd7 Λ σ) rfl 1 (by decide) rfl hw rfl (ty := .int) (by decide +kernel) rfl rfl (by decide : 1 < 2) (ws7_1 Λ σ v) hd hp k
theorem vg_X2_start (C : OK X Λ cc nL own fr lo) {idx : Nat} (hw : Cond.fieldLink own idx RX2 "start" "[J" ∈ wsG) (hd : decode cc pc = .ok (.getfield idx, 3)) (hp : pc2 = pc + 3) (k : VV X Λ nL pc2 lv (.ref (adr Λ 23) :: st) σ) : VV X Λ nL pc lv (.ref (adr Λ 10) :: st) σ := v_get C inG2 10 (wd10 Λ σ) rfl 0 (by decide) rfl hw rfl hd hp k
theorem vg_X2_end (C : OK X Λ cc nL own fr lo) {idx : Nat} (hw : Cond.fieldLink own idx RX2 "end" "[J" ∈ wsG) (hd : decode cc pc = .ok (.getfield idx, 3)) (hp : pc2 = pc + 3) (k : VV X Λ nL pc2 lv (.ref (adr Λ 24) :: st) σ) : VV X Λ nL pc lv (.ref (adr Λ 10) :: st) σ := v_get C inG2 10 (wd10 Λ σ) rfl 1 (by decide) rfl hw rfl hd hp k
theorem vg_X2_from (C : OK X Λ cc nL own fr lo) {idx : Nat} (hw : Cond.fieldLink own idx RX2 "from" "[J" ∈ wsG) (hd : decode cc pc = .ok (.getfield idx, 3)) (hp : pc2 = pc + 3) (k : VV X Λ nL pc2 lv (.ref (adr Λ 25) :: st) σ) : VV X Λ nL pc lv (.ref (adr Λ 10) :: st) σ := v_get C inG2 10 (wd10 Λ σ) rfl 2 (by decide) rfl hw rfl hd hp k
theorem vg_X2_to (C : OK X Λ cc nL own fr lo) {idx : Nat} (hw : Cond.fieldLink own idx RX2 "to" "[J" ∈ wsG) (hd : decode cc pc = .ok (.getfield idx, 3)) (hp : pc2 = pc + 3) (k : VV X Λ nL pc2 lv (.ref (adr Λ 26) :: st) σ) : VV X Λ nL pc lv (.ref (adr Λ 10) :: st) σ := v_get C inG2 10 (wd10 Λ σ) rfl 3 (by decide) rfl hw rfl hd hp k
theorem vg_X2_pieces (C : OK X Λ cc nL own fr lo) {idx : Nat} (hw : Cond.fieldLink own idx RX2 "pieces" "I" ∈ wsG) (hd : decode cc pc = .ok (.getfield idx, 3)) (hp : pc2 = pc + 3) (k : VV X Λ nL pc2 lv (.int (gI σ 13) :: st) σ) : VV X Λ nL pc lv (.ref (adr Λ 10) :: st) σ := v_get C inG2 10 (wd10 Λ σ) rfl 4 (by decide) rfl hw rfl hd hp k
theorem vp_X2_pieces (C : OK X Λ cc nL own fr lo) {idx : Nat} {v : Int32} (hw : Cond.fieldLink own idx RX2 "pieces" "I" ∈ wsG) (hd : decode cc pc = .ok (.putfield idx, 3)) (hp : pc2 = pc + 3) (k : VV X Λ nL pc2 lv st (uI σ 13 v)) : VV X Λ nL pc lv (.int v :: .ref (adr Λ 10) :: st) σ := v_put C inG2 tyX2 tyX2_ok nmX2 10 (wd10 Λ σ) rfl 4 (by decide) rfl hw rfl (ty := .int) (by decide +kernel) rfl rfl (by decide : 4 < 5) (ws10_4 Λ σ v) hd hp k
theorem vg_X10_rows (C : OK X Λ cc nL own fr lo) {idx : Nat} (hw : Cond.fieldLink own idx RX10 "rows" "I" ∈ wsG) (hd : decode cc pc = .ok (.getfield idx, 3)) (hp : pc2 = pc + 3) (k : VV X Λ nL pc2 lv (.int (gI σ 20) :: st) σ) : VV X Λ nL pc lv (.ref (adr Λ 37) :: st) σ := v_get C inG10 37 (wd37 Λ σ) rfl 0 (by decide) rfl hw rfl hd hp k
theorem vp_X10_rows (C : OK X Λ cc nL own fr lo) {idx : Nat} {v : Int32} (hw : Cond.fieldLink own idx RX10 "rows" "I" ∈ wsG) (hd : decode cc pc = .ok (.putfield idx, 3)) (hp : pc2 = pc + 3) (k : VV X Λ nL pc2 lv st (uI σ 20 v)) : VV X Λ nL pc lv (.int v :: .ref (adr Λ 37) :: st) σ := v_put C inG10 tyX10 tyX10_ok nmX10 37 (wd37 Λ σ) rfl 0 (by decide) rfl hw rfl (ty := .int) (by decide +kernel) rfl rfl (by decide : 0 < 28) (ws37_0 Λ σ v) hd hp k
theorem vg_X10_kindOf (C : OK X Λ cc nL own fr lo) {idx : Nat} (hw : Cond.fieldLink own idx RX10 "kindOf" "[I" ∈ wsG) (hd : decode cc pc = .ok (.getfield idx, 3)) (hp : pc2 = pc + 3) (k : VV X Λ nL pc2 lv (.ref (adr Λ 38) :: st) σ) : VV X Λ nL pc lv (.ref (adr Λ 37) :: st) σ := v_get C inG10 37 (wd37 Λ σ) rfl 1 (by decide) rfl hw rfl hd hp k
theorem vg_X10_placeOf (C : OK X Λ cc nL own fr lo) {idx : Nat} (hw : Cond.fieldLink own idx RX10 "placeOf" "[I" ∈ wsG) (hd : decode cc pc = .ok (.getfield idx, 3)) (hp : pc2 = pc + 3) (k : VV X Λ nL pc2 lv (.ref (adr Λ 39) :: st) σ) : VV X Λ nL pc lv (.ref (adr Λ 37) :: st) σ := v_get C inG10 37 (wd37 Λ σ) rfl 2 (by decide) rfl hw rfl hd hp k
theorem vg_X10_heightOf (C : OK X Λ cc nL own fr lo) {idx : Nat} (hw : Cond.fieldLink own idx RX10 "heightOf" "[I" ∈ wsG) (hd : decode cc pc = .ok (.getfield idx, 3)) (hp : pc2 = pc + 3) (k : VV X Λ nL pc2 lv (.ref (adr Λ 40) :: st) σ) : VV X Λ nL pc lv (.ref (adr Λ 37) :: st) σ := v_get C inG10 37 (wd37 Λ σ) rfl 3 (by decide) rfl hw rfl hd hp k
theorem vg_X10_widthOf (C : OK X Λ cc nL own fr lo) {idx : Nat} (hw : Cond.fieldLink own idx RX10 "widthOf" "[I" ∈ wsG) (hd : decode cc pc = .ok (.getfield idx, 3)) (hp : pc2 = pc + 3) (k : VV X Λ nL pc2 lv (.ref (adr Λ 41) :: st) σ) : VV X Λ nL pc lv (.ref (adr Λ 37) :: st) σ := v_get C inG10 37 (wd37 Λ σ) rfl 4 (by decide) rfl hw rfl hd hp k
theorem vg_X10_dustOf (C : OK X Λ cc nL own fr lo) {idx : Nat} (hw : Cond.fieldLink own idx RX10 "dustOf" "[I" ∈ wsG) (hd : decode cc pc = .ok (.getfield idx, 3)) (hp : pc2 = pc + 3) (k : VV X Λ nL pc2 lv (.ref (adr Λ 42) :: st) σ) : VV X Λ nL pc lv (.ref (adr Λ 37) :: st) σ := v_get C inG10 37 (wd37 Λ σ) rfl 5 (by decide) rfl hw rfl hd hp k
theorem vg_X10_stepOf (C : OK X Λ cc nL own fr lo) {idx : Nat} (hw : Cond.fieldLink own idx RX10 "stepOf" "[I" ∈ wsG) (hd : decode cc pc = .ok (.getfield idx, 3)) (hp : pc2 = pc + 3) (k : VV X Λ nL pc2 lv (.ref (adr Λ 43) :: st) σ) : VV X Λ nL pc lv (.ref (adr Λ 37) :: st) σ := v_get C inG10 37 (wd37 Λ σ) rfl 6 (by decide) rfl hw rfl hd hp k
theorem vg_X10_stringOf (C : OK X Λ cc nL own fr lo) {idx : Nat} (hw : Cond.fieldLink own idx RX10 "stringOf" "[I" ∈ wsG) (hd : decode cc pc = .ok (.getfield idx, 3)) (hp : pc2 = pc + 3) (k : VV X Λ nL pc2 lv (.ref (adr Λ 44) :: st) σ) : VV X Λ nL pc lv (.ref (adr Λ 37) :: st) σ := v_get C inG10 37 (wd37 Λ σ) rfl 7 (by decide) rfl hw rfl hd hp k
theorem vg_X10_sunX (C : OK X Λ cc nL own fr lo) {idx : Nat} (hw : Cond.fieldLink own idx RX10 "sunX" "[I" ∈ wsG) (hd : decode cc pc = .ok (.getfield idx, 3)) (hp : pc2 = pc + 3) (k : VV X Λ nL pc2 lv (.ref (adr Λ 45) :: st) σ) : VV X Λ nL pc lv (.ref (adr Λ 37) :: st) σ := v_get C inG10 37 (wd37 Λ σ) rfl 8 (by decide) rfl hw rfl hd hp k
theorem vg_X10_sunY (C : OK X Λ cc nL own fr lo) {idx : Nat} (hw : Cond.fieldLink own idx RX10 "sunY" "[I" ∈ wsG) (hd : decode cc pc = .ok (.getfield idx, 3)) (hp : pc2 = pc + 3) (k : VV X Λ nL pc2 lv (.ref (adr Λ 46) :: st) σ) : VV X Λ nL pc lv (.ref (adr Λ 37) :: st) σ := v_get C inG10 37 (wd37 Λ σ) rfl 9 (by decide) rfl hw rfl hd hp k
theorem vg_X10_windOf (C : OK X Λ cc nL own fr lo) {idx : Nat} (hw : Cond.fieldLink own idx RX10 "windOf" "[I" ∈ wsG) (hd : decode cc pc = .ok (.getfield idx, 3)) (hp : pc2 = pc + 3) (k : VV X Λ nL pc2 lv (.ref (adr Λ 47) :: st) σ) : VV X Λ nL pc lv (.ref (adr Λ 37) :: st) σ := v_get C inG10 37 (wd37 Λ σ) rfl 10 (by decide) rfl hw rfl hd hp k
theorem vg_X10_cleans (C : OK X Λ cc nL own fr lo) {idx : Nat} (hw : Cond.fieldLink own idx RX10 "cleans" "[Z" ∈ wsG) (hd : decode cc pc = .ok (.getfield idx, 3)) (hp : pc2 = pc + 3) (k : VV X Λ nL pc2 lv (.ref (adr Λ 48) :: st) σ) : VV X Λ nL pc lv (.ref (adr Λ 37) :: st) σ := v_get C inG10 37 (wd37 Λ σ) rfl 11 (by decide) rfl hw rfl hd hp k
theorem vg_X10_ceilings (C : OK X Λ cc nL own fr lo) {idx : Nat} (hw : Cond.fieldLink own idx RX10 "ceilings" "[I" ∈ wsG) (hd : decode cc pc = .ok (.getfield idx, 3)) (hp : pc2 = pc + 3) (k : VV X Λ nL pc2 lv (.ref (adr Λ 49) :: st) σ) : VV X Λ nL pc lv (.ref (adr Λ 37) :: st) σ := v_get C inG10 37 (wd37 Λ σ) rfl 12 (by decide) rfl hw rfl hd hp k
theorem vg_X10_limit (C : OK X Λ cc nL own fr lo) {idx : Nat} (hw : Cond.fieldLink own idx RX10 "limit" "I" ∈ wsG) (hd : decode cc pc = .ok (.getfield idx, 3)) (hp : pc2 = pc + 3) (k : VV X Λ nL pc2 lv (.int (gI σ 21) :: st) σ) : VV X Λ nL pc lv (.ref (adr Λ 37) :: st) σ := v_get C inG10 37 (wd37 Λ σ) rfl 13 (by decide) rfl hw rfl hd hp k
theorem vp_X10_limit (C : OK X Λ cc nL own fr lo) {idx : Nat} {v : Int32} (hw : Cond.fieldLink own idx RX10 "limit" "I" ∈ wsG) (hd : decode cc pc = .ok (.putfield idx, 3)) (hp : pc2 = pc + 3) (k : VV X Λ nL pc2 lv st (uI σ 21 v)) : VV X Λ nL pc lv (.int v :: .ref (adr Λ 37) :: st) σ := v_put C inG10 tyX10 tyX10_ok nmX10 37 (wd37 Λ σ) rfl 13 (by decide) rfl hw rfl (ty := .int) (by decide +kernel) rfl rfl (by decide : 13 < 28) (ws37_13 Λ σ v) hd hp k
theorem vg_X10_nextHour (C : OK X Λ cc nL own fr lo) {idx : Nat} (hw : Cond.fieldLink own idx RX10 "nextHour" "I" ∈ wsG) (hd : decode cc pc = .ok (.getfield idx, 3)) (hp : pc2 = pc + 3) (k : VV X Λ nL pc2 lv (.int (gI σ 22) :: st) σ) : VV X Λ nL pc lv (.ref (adr Λ 37) :: st) σ := v_get C inG10 37 (wd37 Λ σ) rfl 14 (by decide) rfl hw rfl hd hp k
theorem vp_X10_nextHour (C : OK X Λ cc nL own fr lo) {idx : Nat} {v : Int32} (hw : Cond.fieldLink own idx RX10 "nextHour" "I" ∈ wsG) (hd : decode cc pc = .ok (.putfield idx, 3)) (hp : pc2 = pc + 3) (k : VV X Λ nL pc2 lv st (uI σ 22 v)) : VV X Λ nL pc lv (.int v :: .ref (adr Λ 37) :: st) σ := v_put C inG10 tyX10 tyX10_ok nmX10 37 (wd37 Λ σ) rfl 14 (by decide) rfl hw rfl (ty := .int) (by decide +kernel) rfl rfl (by decide : 14 < 28) (ws37_14 Λ σ v) hd hp k
theorem vg_X10_state (C : OK X Λ cc nL own fr lo) {idx : Nat} (hw : Cond.fieldLink own idx RX10 "state" "I" ∈ wsG) (hd : decode cc pc = .ok (.getfield idx, 3)) (hp : pc2 = pc + 3) (k : VV X Λ nL pc2 lv (.int (gI σ 23) :: st) σ) : VV X Λ nL pc lv (.ref (adr Λ 37) :: st) σ := v_get C inG10 37 (wd37 Λ σ) rfl 15 (by decide) rfl hw rfl hd hp k
theorem vp_X10_state (C : OK X Λ cc nL own fr lo) {idx : Nat} {v : Int32} (hw : Cond.fieldLink own idx RX10 "state" "I" ∈ wsG) (hd : decode cc pc = .ok (.putfield idx, 3)) (hp : pc2 = pc + 3) (k : VV X Λ nL pc2 lv st (uI σ 23 v)) : VV X Λ nL pc lv (.int v :: .ref (adr Λ 37) :: st) σ := v_put C inG10 tyX10 tyX10_ok nmX10 37 (wd37 Λ σ) rfl 15 (by decide) rfl hw rfl (ty := .int) (by decide +kernel) rfl rfl (by decide : 15 < 28) (ws37_15 Λ σ v) hd hp k
theorem vg_X10_lostRow (C : OK X Λ cc nL own fr lo) {idx : Nat} (hw : Cond.fieldLink own idx RX10 "lostRow" "I" ∈ wsG) (hd : decode cc pc = .ok (.getfield idx, 3)) (hp : pc2 = pc + 3) (k : VV X Λ nL pc2 lv (.int (gI σ 24) :: st) σ) : VV X Λ nL pc lv (.ref (adr Λ 37) :: st) σ := v_get C inG10 37 (wd37 Λ σ) rfl 16 (by decide) rfl hw rfl hd hp k
theorem vp_X10_lostRow (C : OK X Λ cc nL own fr lo) {idx : Nat} {v : Int32} (hw : Cond.fieldLink own idx RX10 "lostRow" "I" ∈ wsG) (hd : decode cc pc = .ok (.putfield idx, 3)) (hp : pc2 = pc + 3) (k : VV X Λ nL pc2 lv st (uI σ 24 v)) : VV X Λ nL pc lv (.int v :: .ref (adr Λ 37) :: st) σ := v_put C inG10 tyX10 tyX10_ok nmX10 37 (wd37 Λ σ) rfl 16 (by decide) rfl hw rfl (ty := .int) (by decide +kernel) rfl rfl (by decide : 16 < 28) (ws37_16 Λ σ v) hd hp k
theorem vg_X10_went (C : OK X Λ cc nL own fr lo) {idx : Nat} (hw : Cond.fieldLink own idx RX10 "went" "Z" ∈ wsG) (hd : decode cc pc = .ok (.getfield idx, 3)) (hp : pc2 = pc + 3) (k : VV X Λ nL pc2 lv (.int (gI σ 25) :: st) σ) : VV X Λ nL pc lv (.ref (adr Λ 37) :: st) σ := v_get C inG10 37 (wd37 Λ σ) rfl 17 (by decide) rfl hw rfl hd hp k
theorem vp_X10_went (C : OK X Λ cc nL own fr lo) {idx : Nat} {v : Int32} (hv : v = 0 ∨ v = 1) (hw : Cond.fieldLink own idx RX10 "went" "Z" ∈ wsG) (hd : decode cc pc = .ok (.putfield idx, 3)) (hp : pc2 = pc + 3) (k : VV X Λ nL pc2 lv st (uI σ 25 v)) : VV X Λ nL pc lv (.int v :: .ref (adr Λ 37) :: st) σ := v_put C inG10 tyX10 tyX10_ok nmX10 37 (wd37 Λ σ) rfl 17 (by decide) rfl hw rfl (ty := .boolean) (by decide +kernel) (by rcases hv with rfl | rfl <;> decide +kernel) (by rcases hv with rfl | rfl <;> decide +kernel) (by decide : 17 < 28) (ws37_17 Λ σ v) hd hp k
theorem vg_X10_lastStep (C : OK X Λ cc nL own fr lo) {idx : Nat} (hw : Cond.fieldLink own idx RX10 "lastStep" "I" ∈ wsG) (hd : decode cc pc = .ok (.getfield idx, 3)) (hp : pc2 = pc + 3) (k : VV X Λ nL pc2 lv (.int (gI σ 26) :: st) σ) : VV X Λ nL pc lv (.ref (adr Λ 37) :: st) σ := v_get C inG10 37 (wd37 Λ σ) rfl 18 (by decide) rfl hw rfl hd hp k
theorem vp_X10_lastStep (C : OK X Λ cc nL own fr lo) {idx : Nat} {v : Int32} (hw : Cond.fieldLink own idx RX10 "lastStep" "I" ∈ wsG) (hd : decode cc pc = .ok (.putfield idx, 3)) (hp : pc2 = pc + 3) (k : VV X Λ nL pc2 lv st (uI σ 26 v)) : VV X Λ nL pc lv (.int v :: .ref (adr Λ 37) :: st) σ := v_put C inG10 tyX10 tyX10_ok nmX10 37 (wd37 Λ σ) rfl 18 (by decide) rfl hw rfl (ty := .int) (by decide +kernel) rfl rfl (by decide : 18 < 28) (ws37_18 Λ σ v) hd hp k
theorem vg_X10_lastState (C : OK X Λ cc nL own fr lo) {idx : Nat} (hw : Cond.fieldLink own idx RX10 "lastState" "I" ∈ wsG) (hd : decode cc pc = .ok (.getfield idx, 3)) (hp : pc2 = pc + 3) (k : VV X Λ nL pc2 lv (.int (gI σ 27) :: st) σ) : VV X Λ nL pc lv (.ref (adr Λ 37) :: st) σ := v_get C inG10 37 (wd37 Λ σ) rfl 19 (by decide) rfl hw rfl hd hp k
theorem vp_X10_lastState (C : OK X Λ cc nL own fr lo) {idx : Nat} {v : Int32} (hw : Cond.fieldLink own idx RX10 "lastState" "I" ∈ wsG) (hd : decode cc pc = .ok (.putfield idx, 3)) (hp : pc2 = pc + 3) (k : VV X Λ nL pc2 lv st (uI σ 27 v)) : VV X Λ nL pc lv (.int v :: .ref (adr Λ 37) :: st) σ := v_put C inG10 tyX10 tyX10_ok nmX10 37 (wd37 Λ σ) rfl 19 (by decide) rfl hw rfl (ty := .int) (by decide +kernel) rfl rfl (by decide : 19 < 28) (ws37_19 Λ σ v) hd hp k
theorem vg_X10_book (C : OK X Λ cc nL own fr lo) {idx : Nat} (hw : Cond.fieldLink own idx RX10 "book" "[J" ∈ wsG) (hd : decode cc pc = .ok (.getfield idx, 3)) (hp : pc2 = pc + 3) (k : VV X Λ nL pc2 lv (.ref (adr Λ 50) :: st) σ) : VV X Λ nL pc lv (.ref (adr Λ 37) :: st) σ := v_get C inG10 37 (wd37 Λ σ) rfl 20 (by decide) rfl hw rfl hd hp k
theorem vg_X10_all (C : OK X Λ cc nL own fr lo) {idx : Nat} (hw : Cond.fieldLink own idx RX10 "all" "[J" ∈ wsG) (hd : decode cc pc = .ok (.getfield idx, 3)) (hp : pc2 = pc + 3) (k : VV X Λ nL pc2 lv (.ref (adr Λ 51) :: st) σ) : VV X Λ nL pc lv (.ref (adr Λ 37) :: st) σ := v_get C inG10 37 (wd37 Λ σ) rfl 21 (by decide) rfl hw rfl hd hp k
theorem vg_X10_taped (C : OK X Λ cc nL own fr lo) {idx : Nat} (hw : Cond.fieldLink own idx RX10 "taped" "I" ∈ wsG) (hd : decode cc pc = .ok (.getfield idx, 3)) (hp : pc2 = pc + 3) (k : VV X Λ nL pc2 lv (.int (gI σ 28) :: st) σ) : VV X Λ nL pc lv (.ref (adr Λ 37) :: st) σ := v_get C inG10 37 (wd37 Λ σ) rfl 22 (by decide) rfl hw rfl hd hp k
theorem vp_X10_taped (C : OK X Λ cc nL own fr lo) {idx : Nat} {v : Int32} (hw : Cond.fieldLink own idx RX10 "taped" "I" ∈ wsG) (hd : decode cc pc = .ok (.putfield idx, 3)) (hp : pc2 = pc + 3) (k : VV X Λ nL pc2 lv st (uI σ 28 v)) : VV X Λ nL pc lv (.int v :: .ref (adr Λ 37) :: st) σ := v_put C inG10 tyX10 tyX10_ok nmX10 37 (wd37 Λ σ) rfl 22 (by decide) rfl hw rfl (ty := .int) (by decide +kernel) rfl rfl (by decide : 22 < 28) (ws37_22 Λ σ v) hd hp k
theorem vg_X10_tape (C : OK X Λ cc nL own fr lo) {idx : Nat} (hw : Cond.fieldLink own idx RX10 "tape" "[I" ∈ wsG) (hd : decode cc pc = .ok (.getfield idx, 3)) (hp : pc2 = pc + 3) (k : VV X Λ nL pc2 lv (.ref (adr Λ 52) :: st) σ) : VV X Λ nL pc lv (.ref (adr Λ 37) :: st) σ := v_get C inG10 37 (wd37 Λ σ) rfl 23 (by decide) rfl hw rfl hd hp k
theorem vg_X10_findings (C : OK X Λ cc nL own fr lo) {idx : Nat} (hw : Cond.fieldLink own idx RX10 "findings" "[I" ∈ wsG) (hd : decode cc pc = .ok (.getfield idx, 3)) (hp : pc2 = pc + 3) (k : VV X Λ nL pc2 lv (.ref (adr Λ 53) :: st) σ) : VV X Λ nL pc lv (.ref (adr Λ 37) :: st) σ := v_get C inG10 37 (wd37 Λ σ) rfl 24 (by decide) rfl hw rfl hd hp k
theorem vg_X10_tried (C : OK X Λ cc nL own fr lo) {idx : Nat} (hw : Cond.fieldLink own idx RX10 "tried" "I" ∈ wsG) (hd : decode cc pc = .ok (.getfield idx, 3)) (hp : pc2 = pc + 3) (k : VV X Λ nL pc2 lv (.int (gI σ 29) :: st) σ) : VV X Λ nL pc lv (.ref (adr Λ 37) :: st) σ := v_get C inG10 37 (wd37 Λ σ) rfl 25 (by decide) rfl hw rfl hd hp k
theorem vp_X10_tried (C : OK X Λ cc nL own fr lo) {idx : Nat} {v : Int32} (hw : Cond.fieldLink own idx RX10 "tried" "I" ∈ wsG) (hd : decode cc pc = .ok (.putfield idx, 3)) (hp : pc2 = pc + 3) (k : VV X Λ nL pc2 lv st (uI σ 29 v)) : VV X Λ nL pc lv (.int v :: .ref (adr Λ 37) :: st) σ := v_put C inG10 tyX10 tyX10_ok nmX10 37 (wd37 Λ σ) rfl 25 (by decide) rfl hw rfl (ty := .int) (by decide +kernel) rfl rfl (by decide : 25 < 28) (ws37_25 Λ σ v) hd hp k
theorem vg_X10_currents (C : OK X Λ cc nL own fr lo) {idx : Nat} (hw : Cond.fieldLink own idx RX10 "currents" "[J" ∈ wsG) (hd : decode cc pc = .ok (.getfield idx, 3)) (hp : pc2 = pc + 3) (k : VV X Λ nL pc2 lv (.ref (adr Λ 54) :: st) σ) : VV X Λ nL pc lv (.ref (adr Λ 37) :: st) σ := v_get C inG10 37 (wd37 Λ σ) rfl 26 (by decide) rfl hw rfl hd hp k
theorem vg_X10_bestSet (C : OK X Λ cc nL own fr lo) {idx : Nat} (hw : Cond.fieldLink own idx RX10 "bestSet" "I" ∈ wsG) (hd : decode cc pc = .ok (.getfield idx, 3)) (hp : pc2 = pc + 3) (k : VV X Λ nL pc2 lv (.int (gI σ 30) :: st) σ) : VV X Λ nL pc lv (.ref (adr Λ 37) :: st) σ := v_get C inG10 37 (wd37 Λ σ) rfl 27 (by decide) rfl hw rfl hd hp k
theorem vp_X10_bestSet (C : OK X Λ cc nL own fr lo) {idx : Nat} {v : Int32} (hw : Cond.fieldLink own idx RX10 "bestSet" "I" ∈ wsG) (hd : decode cc pc = .ok (.putfield idx, 3)) (hp : pc2 = pc + 3) (k : VV X Λ nL pc2 lv st (uI σ 30 v)) : VV X Λ nL pc lv (.int v :: .ref (adr Λ 37) :: st) σ := v_put C inG10 tyX10 tyX10_ok nmX10 37 (wd37 Λ σ) rfl 27 (by decide) rfl hw rfl (ty := .int) (by decide +kernel) rfl rfl (by decide : 27 < 28) (ws37_27 Λ σ v) hd hp k
theorem vg_X3_kind (C : OK X Λ cc nL own fr lo) {idx i : Nat} (hi : i < 10) (hw : Cond.fieldLink own idx RX3 "kind" "I" ∈ wsG) (hd : decode cc pc = .ok (.getfield idx, 3)) (hp : pc2 = pc + 3) (k : VV X Λ nL pc2 lv (.int (gA σ 10 i) :: st) σ) : VV X Λ nL pc lv (.ref (adr Λ (27 + i)) :: st) σ := v_get C inG3 (27 + i) (wdR Λ σ i hi) rfl 0 (by decide) rfl hw rfl hd hp k
theorem vp_X3_kind (C : OK X Λ cc nL own fr lo) {idx i : Nat} {v : Int32} (hi : i < 10) (hw : Cond.fieldLink own idx RX3 "kind" "I" ∈ wsG) (hd : decode cc pc = .ok (.putfield idx, 3)) (hp : pc2 = pc + 3) (k : VV X Λ nL pc2 lv st (uA σ 10 i v)) : VV X Λ nL pc lv (.int v :: .ref (adr Λ (27 + i)) :: st) σ := v_put C inG3 tyX3 tyX3_ok nmX3 (27 + i) (wdR Λ σ i hi) rfl 0 (by decide) rfl hw rfl (ty := .int) (by decide +kernel) rfl rfl (by decide : 0 < 7) (wsR_0 Λ σ v i hi) hd hp k
theorem vg_X3_place (C : OK X Λ cc nL own fr lo) {idx i : Nat} (hi : i < 10) (hw : Cond.fieldLink own idx RX3 "place" "I" ∈ wsG) (hd : decode cc pc = .ok (.getfield idx, 3)) (hp : pc2 = pc + 3) (k : VV X Λ nL pc2 lv (.int (gA σ 11 i) :: st) σ) : VV X Λ nL pc lv (.ref (adr Λ (27 + i)) :: st) σ := v_get C inG3 (27 + i) (wdR Λ σ i hi) rfl 1 (by decide) rfl hw rfl hd hp k
theorem vp_X3_place (C : OK X Λ cc nL own fr lo) {idx i : Nat} {v : Int32} (hi : i < 10) (hw : Cond.fieldLink own idx RX3 "place" "I" ∈ wsG) (hd : decode cc pc = .ok (.putfield idx, 3)) (hp : pc2 = pc + 3) (k : VV X Λ nL pc2 lv st (uA σ 11 i v)) : VV X Λ nL pc lv (.int v :: .ref (adr Λ (27 + i)) :: st) σ := v_put C inG3 tyX3 tyX3_ok nmX3 (27 + i) (wdR Λ σ i hi) rfl 1 (by decide) rfl hw rfl (ty := .int) (by decide +kernel) rfl rfl (by decide : 1 < 7) (wsR_1 Λ σ v i hi) hd hp k
theorem vg_X3_height (C : OK X Λ cc nL own fr lo) {idx i : Nat} (hi : i < 10) (hw : Cond.fieldLink own idx RX3 "height" "I" ∈ wsG) (hd : decode cc pc = .ok (.getfield idx, 3)) (hp : pc2 = pc + 3) (k : VV X Λ nL pc2 lv (.int (gA σ 12 i) :: st) σ) : VV X Λ nL pc lv (.ref (adr Λ (27 + i)) :: st) σ := v_get C inG3 (27 + i) (wdR Λ σ i hi) rfl 2 (by decide) rfl hw rfl hd hp k
theorem vp_X3_height (C : OK X Λ cc nL own fr lo) {idx i : Nat} {v : Int32} (hi : i < 10) (hw : Cond.fieldLink own idx RX3 "height" "I" ∈ wsG) (hd : decode cc pc = .ok (.putfield idx, 3)) (hp : pc2 = pc + 3) (k : VV X Λ nL pc2 lv st (uA σ 12 i v)) : VV X Λ nL pc lv (.int v :: .ref (adr Λ (27 + i)) :: st) σ := v_put C inG3 tyX3 tyX3_ok nmX3 (27 + i) (wdR Λ σ i hi) rfl 2 (by decide) rfl hw rfl (ty := .int) (by decide +kernel) rfl rfl (by decide : 2 < 7) (wsR_2 Λ σ v i hi) hd hp k
theorem vg_X3_width (C : OK X Λ cc nL own fr lo) {idx i : Nat} (hi : i < 10) (hw : Cond.fieldLink own idx RX3 "width" "I" ∈ wsG) (hd : decode cc pc = .ok (.getfield idx, 3)) (hp : pc2 = pc + 3) (k : VV X Λ nL pc2 lv (.int (gA σ 13 i) :: st) σ) : VV X Λ nL pc lv (.ref (adr Λ (27 + i)) :: st) σ := v_get C inG3 (27 + i) (wdR Λ σ i hi) rfl 3 (by decide) rfl hw rfl hd hp k
theorem vp_X3_width (C : OK X Λ cc nL own fr lo) {idx i : Nat} {v : Int32} (hi : i < 10) (hw : Cond.fieldLink own idx RX3 "width" "I" ∈ wsG) (hd : decode cc pc = .ok (.putfield idx, 3)) (hp : pc2 = pc + 3) (k : VV X Λ nL pc2 lv st (uA σ 13 i v)) : VV X Λ nL pc lv (.int v :: .ref (adr Λ (27 + i)) :: st) σ := v_put C inG3 tyX3 tyX3_ok nmX3 (27 + i) (wdR Λ σ i hi) rfl 3 (by decide) rfl hw rfl (ty := .int) (by decide +kernel) rfl rfl (by decide : 3 < 7) (wsR_3 Λ σ v i hi) hd hp k
theorem vg_X3_dirt (C : OK X Λ cc nL own fr lo) {idx i : Nat} (hi : i < 10) (hw : Cond.fieldLink own idx RX3 "dirt" "I" ∈ wsG) (hd : decode cc pc = .ok (.getfield idx, 3)) (hp : pc2 = pc + 3) (k : VV X Λ nL pc2 lv (.int (gA σ 14 i) :: st) σ) : VV X Λ nL pc lv (.ref (adr Λ (27 + i)) :: st) σ := v_get C inG3 (27 + i) (wdR Λ σ i hi) rfl 4 (by decide) rfl hw rfl hd hp k
theorem vp_X3_dirt (C : OK X Λ cc nL own fr lo) {idx i : Nat} {v : Int32} (hi : i < 10) (hw : Cond.fieldLink own idx RX3 "dirt" "I" ∈ wsG) (hd : decode cc pc = .ok (.putfield idx, 3)) (hp : pc2 = pc + 3) (k : VV X Λ nL pc2 lv st (uA σ 14 i v)) : VV X Λ nL pc lv (.int v :: .ref (adr Λ (27 + i)) :: st) σ := v_put C inG3 tyX3 tyX3_ok nmX3 (27 + i) (wdR Λ σ i hi) rfl 4 (by decide) rfl hw rfl (ty := .int) (by decide +kernel) rfl rfl (by decide : 4 < 7) (wsR_4 Λ σ v i hi) hd hp k
theorem vg_X3_step (C : OK X Λ cc nL own fr lo) {idx i : Nat} (hi : i < 10) (hw : Cond.fieldLink own idx RX3 "step" "I" ∈ wsG) (hd : decode cc pc = .ok (.getfield idx, 3)) (hp : pc2 = pc + 3) (k : VV X Λ nL pc2 lv (.int (gA σ 15 i) :: st) σ) : VV X Λ nL pc lv (.ref (adr Λ (27 + i)) :: st) σ := v_get C inG3 (27 + i) (wdR Λ σ i hi) rfl 5 (by decide) rfl hw rfl hd hp k
theorem vp_X3_step (C : OK X Λ cc nL own fr lo) {idx i : Nat} {v : Int32} (hi : i < 10) (hw : Cond.fieldLink own idx RX3 "step" "I" ∈ wsG) (hd : decode cc pc = .ok (.putfield idx, 3)) (hp : pc2 = pc + 3) (k : VV X Λ nL pc2 lv st (uA σ 15 i v)) : VV X Λ nL pc lv (.int v :: .ref (adr Λ (27 + i)) :: st) σ := v_put C inG3 tyX3 tyX3_ok nmX3 (27 + i) (wdR Λ σ i hi) rfl 5 (by decide) rfl hw rfl (ty := .int) (by decide +kernel) rfl rfl (by decide : 5 < 7) (wsR_5 Λ σ v i hi) hd hp k
theorem vg_X3_inString (C : OK X Λ cc nL own fr lo) {idx i : Nat} (hi : i < 10) (hw : Cond.fieldLink own idx RX3 "inString" "I" ∈ wsG) (hd : decode cc pc = .ok (.getfield idx, 3)) (hp : pc2 = pc + 3) (k : VV X Λ nL pc2 lv (.int (gA σ 16 i) :: st) σ) : VV X Λ nL pc lv (.ref (adr Λ (27 + i)) :: st) σ := v_get C inG3 (27 + i) (wdR Λ σ i hi) rfl 6 (by decide) rfl hw rfl hd hp k
theorem vp_X3_inString (C : OK X Λ cc nL own fr lo) {idx i : Nat} {v : Int32} (hi : i < 10) (hw : Cond.fieldLink own idx RX3 "inString" "I" ∈ wsG) (hd : decode cc pc = .ok (.putfield idx, 3)) (hp : pc2 = pc + 3) (k : VV X Λ nL pc2 lv st (uA σ 16 i v)) : VV X Λ nL pc lv (.int v :: .ref (adr Λ (27 + i)) :: st) σ := v_put C inG3 tyX3 tyX3_ok nmX3 (27 + i) (wdR Λ σ i hi) rfl 6 (by decide) rfl hw rfl (ty := .int) (by decide +kernel) rfl rfl (by decide : 6 < 7) (wsR_6 Λ σ v i hi) hd hp k
theorem al8 (C : OK X Λ cc nL own fr lo) {i : Int32} (hin : vp_in i 5) (hd : decode cc pc = .ok (.iaload, 1)) (hp : pc2 = pc + 1) (k : VV X Λ nL pc2 lv (.int (gA σ 0 i.toNatClampNeg) :: st) σ) : VV X Λ nL pc lv (.int i :: .ref (adr Λ 8) :: st) σ := v_iald C 8 (wd8 Λ σ) hin hd hp k
theorem as8 (C : OK X Λ cc nL own fr lo) {i x : Int32} (hin : vp_in i 5) (hd : decode cc pc = .ok (.iastore, 1)) (hp : pc2 = pc + 1) (k : VV X Λ nL pc2 lv st (uA σ 0 i.toNatClampNeg x)) : VV X Λ nL pc lv (.int x :: .int i :: .ref (adr Λ 8) :: st) σ := v_iast C 8 (wd8 Λ σ) hin (ws8 Λ σ _ _) hd hp k
theorem al11 (C : OK X Λ cc nL own fr lo) {i : Int32} (hin : vp_in i 10) (hd : decode cc pc = .ok (.laload, 1)) (hp : pc2 = pc + 1) (k : VV X Λ nL pc2 lv (.long (gB σ 0 i.toNatClampNeg) :: st) σ) : VV X Λ nL pc lv (.int i :: .ref (adr Λ 11) :: st) σ := v_lald C 11 (wd11 Λ σ) hin hd hp k
theorem as11 (C : OK X Λ cc nL own fr lo) {i : Int32} {x : Int64} (hin : vp_in i 10) (hd : decode cc pc = .ok (.lastore, 1)) (hp : pc2 = pc + 1) (k : VV X Λ nL pc2 lv st (uB σ 0 i.toNatClampNeg x)) : VV X Λ nL pc lv (.long x :: .int i :: .ref (adr Λ 11) :: st) σ := v_last C 11 (wd11 Λ σ) hin (ws11 Λ σ _ _) hd hp k
theorem al12 (C : OK X Λ cc nL own fr lo) {i : Int32} (hin : vp_in i 10) (hd : decode cc pc = .ok (.laload, 1)) (hp : pc2 = pc + 1) (k : VV X Λ nL pc2 lv (.long (gB σ 1 i.toNatClampNeg) :: st) σ) : VV X Λ nL pc lv (.int i :: .ref (adr Λ 12) :: st) σ := v_lald C 12 (wd12 Λ σ) hin hd hp k
theorem as12 (C : OK X Λ cc nL own fr lo) {i : Int32} {x : Int64} (hin : vp_in i 10) (hd : decode cc pc = .ok (.lastore, 1)) (hp : pc2 = pc + 1) (k : VV X Λ nL pc2 lv st (uB σ 1 i.toNatClampNeg x)) : VV X Λ nL pc lv (.long x :: .int i :: .ref (adr Λ 12) :: st) σ := v_last C 12 (wd12 Λ σ) hin (ws12 Λ σ _ _) hd hp k
theorem al13 (C : OK X Λ cc nL own fr lo) {i : Int32} (hin : vp_in i 10) (hd : decode cc pc = .ok (.iaload, 1)) (hp : pc2 = pc + 1) (k : VV X Λ nL pc2 lv (.int (gA σ 1 i.toNatClampNeg) :: st) σ) : VV X Λ nL pc lv (.int i :: .ref (adr Λ 13) :: st) σ := v_iald C 13 (wd13 Λ σ) hin hd hp k
theorem as13 (C : OK X Λ cc nL own fr lo) {i x : Int32} (hin : vp_in i 10) (hd : decode cc pc = .ok (.iastore, 1)) (hp : pc2 = pc + 1) (k : VV X Λ nL pc2 lv st (uA σ 1 i.toNatClampNeg x)) : VV X Λ nL pc lv (.int x :: .int i :: .ref (adr Λ 13) :: st) σ := v_iast C 13 (wd13 Λ σ) hin (ws13 Λ σ _ _) hd hp k
theorem al14 (C : OK X Λ cc nL own fr lo) {i : Int32} (hin : vp_in i 24) (hd : decode cc pc = .ok (.iaload, 1)) (hp : pc2 = pc + 1) (k : VV X Λ nL pc2 lv (.int (gA σ 2 i.toNatClampNeg) :: st) σ) : VV X Λ nL pc lv (.int i :: .ref (adr Λ 14) :: st) σ := v_iald C 14 (wd14 Λ σ) hin hd hp k
theorem as14 (C : OK X Λ cc nL own fr lo) {i x : Int32} (hin : vp_in i 24) (hd : decode cc pc = .ok (.iastore, 1)) (hp : pc2 = pc + 1) (k : VV X Λ nL pc2 lv st (uA σ 2 i.toNatClampNeg x)) : VV X Λ nL pc lv (.int x :: .int i :: .ref (adr Λ 14) :: st) σ := v_iast C 14 (wd14 Λ σ) hin (ws14 Λ σ _ _) hd hp k
theorem al15 (C : OK X Λ cc nL own fr lo) {i : Int32} (hin : vp_in i 24) (hd : decode cc pc = .ok (.iaload, 1)) (hp : pc2 = pc + 1) (k : VV X Λ nL pc2 lv (.int (gA σ 3 i.toNatClampNeg) :: st) σ) : VV X Λ nL pc lv (.int i :: .ref (adr Λ 15) :: st) σ := v_iald C 15 (wd15 Λ σ) hin hd hp k
theorem as15 (C : OK X Λ cc nL own fr lo) {i x : Int32} (hin : vp_in i 24) (hd : decode cc pc = .ok (.iastore, 1)) (hp : pc2 = pc + 1) (k : VV X Λ nL pc2 lv st (uA σ 3 i.toNatClampNeg x)) : VV X Λ nL pc lv (.int x :: .int i :: .ref (adr Λ 15) :: st) σ := v_iast C 15 (wd15 Λ σ) hin (ws15 Λ σ _ _) hd hp k
theorem al16 (C : OK X Λ cc nL own fr lo) {i : Int32} (hin : vp_in i 4) (hd : decode cc pc = .ok (.iaload, 1)) (hp : pc2 = pc + 1) (k : VV X Λ nL pc2 lv (.int (gA σ 4 i.toNatClampNeg) :: st) σ) : VV X Λ nL pc lv (.int i :: .ref (adr Λ 16) :: st) σ := v_iald C 16 (wd16 Λ σ) hin hd hp k
theorem as16 (C : OK X Λ cc nL own fr lo) {i x : Int32} (hin : vp_in i 4) (hd : decode cc pc = .ok (.iastore, 1)) (hp : pc2 = pc + 1) (k : VV X Λ nL pc2 lv st (uA σ 4 i.toNatClampNeg x)) : VV X Λ nL pc lv (.int x :: .int i :: .ref (adr Λ 16) :: st) σ := v_iast C 16 (wd16 Λ σ) hin (ws16 Λ σ _ _) hd hp k
theorem al17 (C : OK X Λ cc nL own fr lo) {i : Int32} (hin : vp_in i 10) (hd : decode cc pc = .ok (.iaload, 1)) (hp : pc2 = pc + 1) (k : VV X Λ nL pc2 lv (.int (gA σ 5 i.toNatClampNeg) :: st) σ) : VV X Λ nL pc lv (.int i :: .ref (adr Λ 17) :: st) σ := v_iald C 17 (wd17 Λ σ) hin hd hp k
theorem as17 (C : OK X Λ cc nL own fr lo) {i x : Int32} (hin : vp_in i 10) (hd : decode cc pc = .ok (.iastore, 1)) (hp : pc2 = pc + 1) (k : VV X Λ nL pc2 lv st (uA σ 5 i.toNatClampNeg x)) : VV X Λ nL pc lv (.int x :: .int i :: .ref (adr Λ 17) :: st) σ := v_iast C 17 (wd17 Λ σ) hin (ws17 Λ σ _ _) hd hp k
theorem al18 (C : OK X Λ cc nL own fr lo) {i : Int32} (hin : vp_in i 24) (hd : decode cc pc = .ok (.iaload, 1)) (hp : pc2 = pc + 1) (k : VV X Λ nL pc2 lv (.int (gA σ 6 i.toNatClampNeg) :: st) σ) : VV X Λ nL pc lv (.int i :: .ref (adr Λ 18) :: st) σ := v_iald C 18 (wd18 Λ σ) hin hd hp k
theorem as18 (C : OK X Λ cc nL own fr lo) {i x : Int32} (hin : vp_in i 24) (hd : decode cc pc = .ok (.iastore, 1)) (hp : pc2 = pc + 1) (k : VV X Λ nL pc2 lv st (uA σ 6 i.toNatClampNeg x)) : VV X Λ nL pc lv (.int x :: .int i :: .ref (adr Λ 18) :: st) σ := v_iast C 18 (wd18 Λ σ) hin (ws18 Λ σ _ _) hd hp k
theorem al19 (C : OK X Λ cc nL own fr lo) {i : Int32} (hin : vp_in i 24) (hd : decode cc pc = .ok (.baload, 1)) (hp : pc2 = pc + 1) (k : VV X Λ nL pc2 lv (.int (gA σ 7 i.toNatClampNeg) :: st) σ) : VV X Λ nL pc lv (.int i :: .ref (adr Λ 19) :: st) σ := v_zald C 19 (wd19 Λ σ) hin hd hp k
theorem as19 (C : OK X Λ cc nL own fr lo) {i x : Int32} (hin : vp_in i 24) (hd : decode cc pc = .ok (.bastore, 1)) (hp : pc2 = pc + 1) (k : VV X Λ nL pc2 lv st (uA σ 7 i.toNatClampNeg (vp_nar .boolean x))) : VV X Λ nL pc lv (.int x :: .int i :: .ref (adr Λ 19) :: st) σ := v_zast C 19 (wd19 Λ σ) hin (ws19 Λ σ _ _) hd hp k
theorem al20 (C : OK X Λ cc nL own fr lo) {i : Int32} (hin : vp_in i 6) (hd : decode cc pc = .ok (.laload, 1)) (hp : pc2 = pc + 1) (k : VV X Λ nL pc2 lv (.long (gB σ 2 i.toNatClampNeg) :: st) σ) : VV X Λ nL pc lv (.int i :: .ref (adr Λ 20) :: st) σ := v_lald C 20 (wd20 Λ σ) hin hd hp k
theorem as20 (C : OK X Λ cc nL own fr lo) {i : Int32} {x : Int64} (hin : vp_in i 6) (hd : decode cc pc = .ok (.lastore, 1)) (hp : pc2 = pc + 1) (k : VV X Λ nL pc2 lv st (uB σ 2 i.toNatClampNeg x)) : VV X Λ nL pc lv (.long x :: .int i :: .ref (adr Λ 20) :: st) σ := v_last C 20 (wd20 Λ σ) hin (ws20 Λ σ _ _) hd hp k
theorem al21 (C : OK X Λ cc nL own fr lo) {i : Int32} (hin : vp_in i 6) (hd : decode cc pc = .ok (.laload, 1)) (hp : pc2 = pc + 1) (k : VV X Λ nL pc2 lv (.long (gB σ 3 i.toNatClampNeg) :: st) σ) : VV X Λ nL pc lv (.int i :: .ref (adr Λ 21) :: st) σ := v_lald C 21 (wd21 Λ σ) hin hd hp k
theorem as21 (C : OK X Λ cc nL own fr lo) {i : Int32} {x : Int64} (hin : vp_in i 6) (hd : decode cc pc = .ok (.lastore, 1)) (hp : pc2 = pc + 1) (k : VV X Λ nL pc2 lv st (uB σ 3 i.toNatClampNeg x)) : VV X Λ nL pc lv (.long x :: .int i :: .ref (adr Λ 21) :: st) σ := v_last C 21 (wd21 Λ σ) hin (ws21 Λ σ _ _) hd hp k
theorem al22 (C : OK X Λ cc nL own fr lo) {i : Int32} (hin : vp_in i 72) (hd : decode cc pc = .ok (.iaload, 1)) (hp : pc2 = pc + 1) (k : VV X Λ nL pc2 lv (.int (gA σ 8 i.toNatClampNeg) :: st) σ) : VV X Λ nL pc lv (.int i :: .ref (adr Λ 22) :: st) σ := v_iald C 22 (wd22 Λ σ) hin hd hp k
theorem as22 (C : OK X Λ cc nL own fr lo) {i x : Int32} (hin : vp_in i 72) (hd : decode cc pc = .ok (.iastore, 1)) (hp : pc2 = pc + 1) (k : VV X Λ nL pc2 lv st (uA σ 8 i.toNatClampNeg x)) : VV X Λ nL pc lv (.int x :: .int i :: .ref (adr Λ 22) :: st) σ := v_iast C 22 (wd22 Λ σ) hin (ws22 Λ σ _ _) hd hp k
theorem al23 (C : OK X Λ cc nL own fr lo) {i : Int32} (hin : vp_in i 10) (hd : decode cc pc = .ok (.laload, 1)) (hp : pc2 = pc + 1) (k : VV X Λ nL pc2 lv (.long (gB σ 4 i.toNatClampNeg) :: st) σ) : VV X Λ nL pc lv (.int i :: .ref (adr Λ 23) :: st) σ := v_lald C 23 (wd23 Λ σ) hin hd hp k
theorem as23 (C : OK X Λ cc nL own fr lo) {i : Int32} {x : Int64} (hin : vp_in i 10) (hd : decode cc pc = .ok (.lastore, 1)) (hp : pc2 = pc + 1) (k : VV X Λ nL pc2 lv st (uB σ 4 i.toNatClampNeg x)) : VV X Λ nL pc lv (.long x :: .int i :: .ref (adr Λ 23) :: st) σ := v_last C 23 (wd23 Λ σ) hin (ws23 Λ σ _ _) hd hp k
theorem al24 (C : OK X Λ cc nL own fr lo) {i : Int32} (hin : vp_in i 10) (hd : decode cc pc = .ok (.laload, 1)) (hp : pc2 = pc + 1) (k : VV X Λ nL pc2 lv (.long (gB σ 5 i.toNatClampNeg) :: st) σ) : VV X Λ nL pc lv (.int i :: .ref (adr Λ 24) :: st) σ := v_lald C 24 (wd24 Λ σ) hin hd hp k
theorem as24 (C : OK X Λ cc nL own fr lo) {i : Int32} {x : Int64} (hin : vp_in i 10) (hd : decode cc pc = .ok (.lastore, 1)) (hp : pc2 = pc + 1) (k : VV X Λ nL pc2 lv st (uB σ 5 i.toNatClampNeg x)) : VV X Λ nL pc lv (.long x :: .int i :: .ref (adr Λ 24) :: st) σ := v_last C 24 (wd24 Λ σ) hin (ws24 Λ σ _ _) hd hp k
theorem al25 (C : OK X Λ cc nL own fr lo) {i : Int32} (hin : vp_in i 10) (hd : decode cc pc = .ok (.laload, 1)) (hp : pc2 = pc + 1) (k : VV X Λ nL pc2 lv (.long (gB σ 6 i.toNatClampNeg) :: st) σ) : VV X Λ nL pc lv (.int i :: .ref (adr Λ 25) :: st) σ := v_lald C 25 (wd25 Λ σ) hin hd hp k
theorem as25 (C : OK X Λ cc nL own fr lo) {i : Int32} {x : Int64} (hin : vp_in i 10) (hd : decode cc pc = .ok (.lastore, 1)) (hp : pc2 = pc + 1) (k : VV X Λ nL pc2 lv st (uB σ 6 i.toNatClampNeg x)) : VV X Λ nL pc lv (.long x :: .int i :: .ref (adr Λ 25) :: st) σ := v_last C 25 (wd25 Λ σ) hin (ws25 Λ σ _ _) hd hp k
theorem al26 (C : OK X Λ cc nL own fr lo) {i : Int32} (hin : vp_in i 10) (hd : decode cc pc = .ok (.laload, 1)) (hp : pc2 = pc + 1) (k : VV X Λ nL pc2 lv (.long (gB σ 7 i.toNatClampNeg) :: st) σ) : VV X Λ nL pc lv (.int i :: .ref (adr Λ 26) :: st) σ := v_lald C 26 (wd26 Λ σ) hin hd hp k
theorem as26 (C : OK X Λ cc nL own fr lo) {i : Int32} {x : Int64} (hin : vp_in i 10) (hd : decode cc pc = .ok (.lastore, 1)) (hp : pc2 = pc + 1) (k : VV X Λ nL pc2 lv st (uB σ 7 i.toNatClampNeg x)) : VV X Λ nL pc lv (.long x :: .int i :: .ref (adr Λ 26) :: st) σ := v_last C 26 (wd26 Λ σ) hin (ws26 Λ σ _ _) hd hp k
theorem al38 (C : OK X Λ cc nL own fr lo) {i : Int32} (hin : vp_in i 10) (hd : decode cc pc = .ok (.iaload, 1)) (hp : pc2 = pc + 1) (k : VV X Λ nL pc2 lv (.int (gA σ 20 i.toNatClampNeg) :: st) σ) : VV X Λ nL pc lv (.int i :: .ref (adr Λ 38) :: st) σ := v_iald C 38 (wd38 Λ σ) hin hd hp k
theorem as38 (C : OK X Λ cc nL own fr lo) {i x : Int32} (hin : vp_in i 10) (hd : decode cc pc = .ok (.iastore, 1)) (hp : pc2 = pc + 1) (k : VV X Λ nL pc2 lv st (uA σ 20 i.toNatClampNeg x)) : VV X Λ nL pc lv (.int x :: .int i :: .ref (adr Λ 38) :: st) σ := v_iast C 38 (wd38 Λ σ) hin (ws38 Λ σ _ _) hd hp k
theorem al39 (C : OK X Λ cc nL own fr lo) {i : Int32} (hin : vp_in i 10) (hd : decode cc pc = .ok (.iaload, 1)) (hp : pc2 = pc + 1) (k : VV X Λ nL pc2 lv (.int (gA σ 21 i.toNatClampNeg) :: st) σ) : VV X Λ nL pc lv (.int i :: .ref (adr Λ 39) :: st) σ := v_iald C 39 (wd39 Λ σ) hin hd hp k
theorem as39 (C : OK X Λ cc nL own fr lo) {i x : Int32} (hin : vp_in i 10) (hd : decode cc pc = .ok (.iastore, 1)) (hp : pc2 = pc + 1) (k : VV X Λ nL pc2 lv st (uA σ 21 i.toNatClampNeg x)) : VV X Λ nL pc lv (.int x :: .int i :: .ref (adr Λ 39) :: st) σ := v_iast C 39 (wd39 Λ σ) hin (ws39 Λ σ _ _) hd hp k
theorem al40 (C : OK X Λ cc nL own fr lo) {i : Int32} (hin : vp_in i 10) (hd : decode cc pc = .ok (.iaload, 1)) (hp : pc2 = pc + 1) (k : VV X Λ nL pc2 lv (.int (gA σ 22 i.toNatClampNeg) :: st) σ) : VV X Λ nL pc lv (.int i :: .ref (adr Λ 40) :: st) σ := v_iald C 40 (wd40 Λ σ) hin hd hp k
theorem as40 (C : OK X Λ cc nL own fr lo) {i x : Int32} (hin : vp_in i 10) (hd : decode cc pc = .ok (.iastore, 1)) (hp : pc2 = pc + 1) (k : VV X Λ nL pc2 lv st (uA σ 22 i.toNatClampNeg x)) : VV X Λ nL pc lv (.int x :: .int i :: .ref (adr Λ 40) :: st) σ := v_iast C 40 (wd40 Λ σ) hin (ws40 Λ σ _ _) hd hp k
theorem al41 (C : OK X Λ cc nL own fr lo) {i : Int32} (hin : vp_in i 10) (hd : decode cc pc = .ok (.iaload, 1)) (hp : pc2 = pc + 1) (k : VV X Λ nL pc2 lv (.int (gA σ 23 i.toNatClampNeg) :: st) σ) : VV X Λ nL pc lv (.int i :: .ref (adr Λ 41) :: st) σ := v_iald C 41 (wd41 Λ σ) hin hd hp k
theorem as41 (C : OK X Λ cc nL own fr lo) {i x : Int32} (hin : vp_in i 10) (hd : decode cc pc = .ok (.iastore, 1)) (hp : pc2 = pc + 1) (k : VV X Λ nL pc2 lv st (uA σ 23 i.toNatClampNeg x)) : VV X Λ nL pc lv (.int x :: .int i :: .ref (adr Λ 41) :: st) σ := v_iast C 41 (wd41 Λ σ) hin (ws41 Λ σ _ _) hd hp k
theorem al42 (C : OK X Λ cc nL own fr lo) {i : Int32} (hin : vp_in i 10) (hd : decode cc pc = .ok (.iaload, 1)) (hp : pc2 = pc + 1) (k : VV X Λ nL pc2 lv (.int (gA σ 24 i.toNatClampNeg) :: st) σ) : VV X Λ nL pc lv (.int i :: .ref (adr Λ 42) :: st) σ := v_iald C 42 (wd42 Λ σ) hin hd hp k
theorem as42 (C : OK X Λ cc nL own fr lo) {i x : Int32} (hin : vp_in i 10) (hd : decode cc pc = .ok (.iastore, 1)) (hp : pc2 = pc + 1) (k : VV X Λ nL pc2 lv st (uA σ 24 i.toNatClampNeg x)) : VV X Λ nL pc lv (.int x :: .int i :: .ref (adr Λ 42) :: st) σ := v_iast C 42 (wd42 Λ σ) hin (ws42 Λ σ _ _) hd hp k
theorem al43 (C : OK X Λ cc nL own fr lo) {i : Int32} (hin : vp_in i 10) (hd : decode cc pc = .ok (.iaload, 1)) (hp : pc2 = pc + 1) (k : VV X Λ nL pc2 lv (.int (gA σ 25 i.toNatClampNeg) :: st) σ) : VV X Λ nL pc lv (.int i :: .ref (adr Λ 43) :: st) σ := v_iald C 43 (wd43 Λ σ) hin hd hp k
theorem as43 (C : OK X Λ cc nL own fr lo) {i x : Int32} (hin : vp_in i 10) (hd : decode cc pc = .ok (.iastore, 1)) (hp : pc2 = pc + 1) (k : VV X Λ nL pc2 lv st (uA σ 25 i.toNatClampNeg x)) : VV X Λ nL pc lv (.int x :: .int i :: .ref (adr Λ 43) :: st) σ := v_iast C 43 (wd43 Λ σ) hin (ws43 Λ σ _ _) hd hp k
theorem al44 (C : OK X Λ cc nL own fr lo) {i : Int32} (hin : vp_in i 10) (hd : decode cc pc = .ok (.iaload, 1)) (hp : pc2 = pc + 1) (k : VV X Λ nL pc2 lv (.int (gA σ 26 i.toNatClampNeg) :: st) σ) : VV X Λ nL pc lv (.int i :: .ref (adr Λ 44) :: st) σ := v_iald C 44 (wd44 Λ σ) hin hd hp k
theorem as44 (C : OK X Λ cc nL own fr lo) {i x : Int32} (hin : vp_in i 10) (hd : decode cc pc = .ok (.iastore, 1)) (hp : pc2 = pc + 1) (k : VV X Λ nL pc2 lv st (uA σ 26 i.toNatClampNeg x)) : VV X Λ nL pc lv (.int x :: .int i :: .ref (adr Λ 44) :: st) σ := v_iast C 44 (wd44 Λ σ) hin (ws44 Λ σ _ _) hd hp k
theorem al45 (C : OK X Λ cc nL own fr lo) {i : Int32} (hin : vp_in i 24) (hd : decode cc pc = .ok (.iaload, 1)) (hp : pc2 = pc + 1) (k : VV X Λ nL pc2 lv (.int (gA σ 27 i.toNatClampNeg) :: st) σ) : VV X Λ nL pc lv (.int i :: .ref (adr Λ 45) :: st) σ := v_iald C 45 (wd45 Λ σ) hin hd hp k
theorem as45 (C : OK X Λ cc nL own fr lo) {i x : Int32} (hin : vp_in i 24) (hd : decode cc pc = .ok (.iastore, 1)) (hp : pc2 = pc + 1) (k : VV X Λ nL pc2 lv st (uA σ 27 i.toNatClampNeg x)) : VV X Λ nL pc lv (.int x :: .int i :: .ref (adr Λ 45) :: st) σ := v_iast C 45 (wd45 Λ σ) hin (ws45 Λ σ _ _) hd hp k
theorem al46 (C : OK X Λ cc nL own fr lo) {i : Int32} (hin : vp_in i 24) (hd : decode cc pc = .ok (.iaload, 1)) (hp : pc2 = pc + 1) (k : VV X Λ nL pc2 lv (.int (gA σ 28 i.toNatClampNeg) :: st) σ) : VV X Λ nL pc lv (.int i :: .ref (adr Λ 46) :: st) σ := v_iald C 46 (wd46 Λ σ) hin hd hp k
theorem as46 (C : OK X Λ cc nL own fr lo) {i x : Int32} (hin : vp_in i 24) (hd : decode cc pc = .ok (.iastore, 1)) (hp : pc2 = pc + 1) (k : VV X Λ nL pc2 lv st (uA σ 28 i.toNatClampNeg x)) : VV X Λ nL pc lv (.int x :: .int i :: .ref (adr Λ 46) :: st) σ := v_iast C 46 (wd46 Λ σ) hin (ws46 Λ σ _ _) hd hp k
theorem al47 (C : OK X Λ cc nL own fr lo) {i : Int32} (hin : vp_in i 24) (hd : decode cc pc = .ok (.iaload, 1)) (hp : pc2 = pc + 1) (k : VV X Λ nL pc2 lv (.int (gA σ 29 i.toNatClampNeg) :: st) σ) : VV X Λ nL pc lv (.int i :: .ref (adr Λ 47) :: st) σ := v_iald C 47 (wd47 Λ σ) hin hd hp k
theorem as47 (C : OK X Λ cc nL own fr lo) {i x : Int32} (hin : vp_in i 24) (hd : decode cc pc = .ok (.iastore, 1)) (hp : pc2 = pc + 1) (k : VV X Λ nL pc2 lv st (uA σ 29 i.toNatClampNeg x)) : VV X Λ nL pc lv (.int x :: .int i :: .ref (adr Λ 47) :: st) σ := v_iast C 47 (wd47 Λ σ) hin (ws47 Λ σ _ _) hd hp k
theorem al48 (C : OK X Λ cc nL own fr lo) {i : Int32} (hin : vp_in i 24) (hd : decode cc pc = .ok (.baload, 1)) (hp : pc2 = pc + 1) (k : VV X Λ nL pc2 lv (.int (gA σ 30 i.toNatClampNeg) :: st) σ) : VV X Λ nL pc lv (.int i :: .ref (adr Λ 48) :: st) σ := v_zald C 48 (wd48 Λ σ) hin hd hp k
theorem as48 (C : OK X Λ cc nL own fr lo) {i x : Int32} (hin : vp_in i 24) (hd : decode cc pc = .ok (.bastore, 1)) (hp : pc2 = pc + 1) (k : VV X Λ nL pc2 lv st (uA σ 30 i.toNatClampNeg (vp_nar .boolean x))) : VV X Λ nL pc lv (.int x :: .int i :: .ref (adr Λ 48) :: st) σ := v_zast C 48 (wd48 Λ σ) hin (ws48 Λ σ _ _) hd hp k
theorem al49 (C : OK X Λ cc nL own fr lo) {i : Int32} (hin : vp_in i 4) (hd : decode cc pc = .ok (.iaload, 1)) (hp : pc2 = pc + 1) (k : VV X Λ nL pc2 lv (.int (gA σ 31 i.toNatClampNeg) :: st) σ) : VV X Λ nL pc lv (.int i :: .ref (adr Λ 49) :: st) σ := v_iald C 49 (wd49 Λ σ) hin hd hp k
theorem as49 (C : OK X Λ cc nL own fr lo) {i x : Int32} (hin : vp_in i 4) (hd : decode cc pc = .ok (.iastore, 1)) (hp : pc2 = pc + 1) (k : VV X Λ nL pc2 lv st (uA σ 31 i.toNatClampNeg x)) : VV X Λ nL pc lv (.int x :: .int i :: .ref (adr Λ 49) :: st) σ := v_iast C 49 (wd49 Λ σ) hin (ws49 Λ σ _ _) hd hp k
theorem al50 (C : OK X Λ cc nL own fr lo) {i : Int32} (hin : vp_in i 8) (hd : decode cc pc = .ok (.laload, 1)) (hp : pc2 = pc + 1) (k : VV X Λ nL pc2 lv (.long (gB σ 10 i.toNatClampNeg) :: st) σ) : VV X Λ nL pc lv (.int i :: .ref (adr Λ 50) :: st) σ := v_lald C 50 (wd50 Λ σ) hin hd hp k
theorem as50 (C : OK X Λ cc nL own fr lo) {i : Int32} {x : Int64} (hin : vp_in i 8) (hd : decode cc pc = .ok (.lastore, 1)) (hp : pc2 = pc + 1) (k : VV X Λ nL pc2 lv st (uB σ 10 i.toNatClampNeg x)) : VV X Λ nL pc lv (.long x :: .int i :: .ref (adr Λ 50) :: st) σ := v_last C 50 (wd50 Λ σ) hin (ws50 Λ σ _ _) hd hp k
theorem al51 (C : OK X Λ cc nL own fr lo) {i : Int32} (hin : vp_in i 6) (hd : decode cc pc = .ok (.laload, 1)) (hp : pc2 = pc + 1) (k : VV X Λ nL pc2 lv (.long (gB σ 11 i.toNatClampNeg) :: st) σ) : VV X Λ nL pc lv (.int i :: .ref (adr Λ 51) :: st) σ := v_lald C 51 (wd51 Λ σ) hin hd hp k
theorem as51 (C : OK X Λ cc nL own fr lo) {i : Int32} {x : Int64} (hin : vp_in i 6) (hd : decode cc pc = .ok (.lastore, 1)) (hp : pc2 = pc + 1) (k : VV X Λ nL pc2 lv st (uB σ 11 i.toNatClampNeg x)) : VV X Λ nL pc lv (.long x :: .int i :: .ref (adr Λ 51) :: st) σ := v_last C 51 (wd51 Λ σ) hin (ws51 Λ σ _ _) hd hp k
theorem al52 (C : OK X Λ cc nL own fr lo) {i : Int32} (hin : vp_in i 72) (hd : decode cc pc = .ok (.iaload, 1)) (hp : pc2 = pc + 1) (k : VV X Λ nL pc2 lv (.int (gA σ 32 i.toNatClampNeg) :: st) σ) : VV X Λ nL pc lv (.int i :: .ref (adr Λ 52) :: st) σ := v_iald C 52 (wd52 Λ σ) hin hd hp k
theorem as52 (C : OK X Λ cc nL own fr lo) {i x : Int32} (hin : vp_in i 72) (hd : decode cc pc = .ok (.iastore, 1)) (hp : pc2 = pc + 1) (k : VV X Λ nL pc2 lv st (uA σ 32 i.toNatClampNeg x)) : VV X Λ nL pc lv (.int x :: .int i :: .ref (adr Λ 52) :: st) σ := v_iast C 52 (wd52 Λ σ) hin (ws52 Λ σ _ _) hd hp k
theorem al53 (C : OK X Λ cc nL own fr lo) {i : Int32} (hin : vp_in i 6) (hd : decode cc pc = .ok (.iaload, 1)) (hp : pc2 = pc + 1) (k : VV X Λ nL pc2 lv (.int (gA σ 33 i.toNatClampNeg) :: st) σ) : VV X Λ nL pc lv (.int i :: .ref (adr Λ 53) :: st) σ := v_iald C 53 (wd53 Λ σ) hin hd hp k
theorem as53 (C : OK X Λ cc nL own fr lo) {i x : Int32} (hin : vp_in i 6) (hd : decode cc pc = .ok (.iastore, 1)) (hp : pc2 = pc + 1) (k : VV X Λ nL pc2 lv st (uA σ 33 i.toNatClampNeg x)) : VV X Λ nL pc lv (.int x :: .int i :: .ref (adr Λ 53) :: st) σ := v_iast C 53 (wd53 Λ σ) hin (ws53 Λ σ _ _) hd hp k
theorem al54 (C : OK X Λ cc nL own fr lo) {i : Int32} (hin : vp_in i 10) (hd : decode cc pc = .ok (.laload, 1)) (hp : pc2 = pc + 1) (k : VV X Λ nL pc2 lv (.long (gB σ 12 i.toNatClampNeg) :: st) σ) : VV X Λ nL pc lv (.int i :: .ref (adr Λ 54) :: st) σ := v_lald C 54 (wd54 Λ σ) hin hd hp k
theorem as54 (C : OK X Λ cc nL own fr lo) {i : Int32} {x : Int64} (hin : vp_in i 10) (hd : decode cc pc = .ok (.lastore, 1)) (hp : pc2 = pc + 1) (k : VV X Λ nL pc2 lv st (uB σ 12 i.toNatClampNeg x)) : VV X Λ nL pc lv (.long x :: .int i :: .ref (adr Λ 54) :: st) σ := v_last C 54 (wd54 Λ σ) hin (ws54 Λ σ _ _) hd hp k
theorem v_cVi (C : OK X Λ cc nL own fr lo) {idx n : Nat} {ci q0 b N : Nat} {Cn : String} {T : u_T} {fs : List Value} {y : MethodName} {c2 : ByteArray} {n2 fr2 lo2 : Nat} {ret : Option FieldType} {As rest : List Value} {r : Int32} (K : KV own idx Cn y c2 n2 ret n) (hM : CT (xl X) Λ y c2 n2 ret fr2 lo2 (.ref b :: As) σ (some (.int r)) σ2) (he : (Wd Λ σ)[q0]? = some (b, .inr (ci, fs))) (hc : vwCl[ci]? = some (Cn, T, N)) (hR : fr2 + 1 ≤ fr ∧ 8 + (n2 + 11) + lo2 ≤ lo) (hst : st = As.reverse ++ .ref b :: rest) (hn : As.length = n) (hcat : (rest.map fun v => v.category).sum ≤ 8) (hd : decode cc pc = .ok (.invokevirtual idx, 3)) (hp : pc2 = pc + 3) (k : VV X Λ nL pc2 lv (.int r :: rest) σ2) : VV X Λ nL pc lv st σ := v_callV C K hM he hc hR hst hn hcat hd hp k
theorem v_cVl (C : OK X Λ cc nL own fr lo) {idx n : Nat} {ci q0 b N : Nat} {Cn : String} {T : u_T} {fs : List Value} {y : MethodName} {c2 : ByteArray} {n2 fr2 lo2 : Nat} {ret : Option FieldType} {As rest : List Value} {r : Int64} (K : KV own idx Cn y c2 n2 ret n) (hM : CT (xl X) Λ y c2 n2 ret fr2 lo2 (.ref b :: As) σ (some (.long r)) σ2) (he : (Wd Λ σ)[q0]? = some (b, .inr (ci, fs))) (hc : vwCl[ci]? = some (Cn, T, N)) (hR : fr2 + 1 ≤ fr ∧ 8 + (n2 + 11) + lo2 ≤ lo) (hst : st = As.reverse ++ .ref b :: rest) (hn : As.length = n) (hcat : (rest.map fun v => v.category).sum ≤ 8) (hd : decode cc pc = .ok (.invokevirtual idx, 3)) (hp : pc2 = pc + 3) (k : VV X Λ nL pc2 lv (.long r :: rest) σ2) : VV X Λ nL pc lv st σ := v_callV C K hM he hc hR hst hn hcat hd hp k
theorem v_cVv (C : OK X Λ cc nL own fr lo) {idx n : Nat} {ci q0 b N : Nat} {Cn : String} {T : u_T} {fs : List Value} {y : MethodName} {c2 : ByteArray} {n2 fr2 lo2 : Nat} {ret : Option FieldType} {As rest : List Value} (K : KV own idx Cn y c2 n2 ret n) (hM : CT (xl X) Λ y c2 n2 ret fr2 lo2 (.ref b :: As) σ none σ2) (he : (Wd Λ σ)[q0]? = some (b, .inr (ci, fs))) (hc : vwCl[ci]? = some (Cn, T, N)) (hR : fr2 + 1 ≤ fr ∧ 8 + (n2 + 11) + lo2 ≤ lo) (hst : st = As.reverse ++ .ref b :: rest) (hn : As.length = n) (hcat : (rest.map fun v => v.category).sum ≤ 8) (hd : decode cc pc = .ok (.invokevirtual idx, 3)) (hp : pc2 = pc + 3) (k : VV X Λ nL pc2 lv (rest) σ2) : VV X Λ nL pc lv st σ := v_callV C K hM he hc hR hst hn hcat hd hp k
theorem v_cSi (C : OK X Λ cc nL own fr lo) {idx n : Nat} {y : MethodName} {c2 : ByteArray} {n2 fr2 lo2 : Nat} {ret : Option FieldType} {As rest : List Value} {r : Int32} (K : KS own idx y c2 n2 ret n) (hM : CT (xl X) Λ y c2 n2 ret fr2 lo2 As σ (some (.int r)) σ2) (hR : fr2 + 1 ≤ fr ∧ 8 + (n2 + 11) + lo2 ≤ lo) (hst : st = As.reverse ++ rest) (hn : As.length = n) (hcat : (rest.map fun v => v.category).sum ≤ 8) (hd : decode cc pc = .ok (.invokestatic idx, 3)) (hp : pc2 = pc + 3) (k : VV X Λ nL pc2 lv (.int r :: rest) σ2) : VV X Λ nL pc lv st σ := v_callS C K hM hR hst hn hcat hd hp k
theorem v_cSl (C : OK X Λ cc nL own fr lo) {idx n : Nat} {y : MethodName} {c2 : ByteArray} {n2 fr2 lo2 : Nat} {ret : Option FieldType} {As rest : List Value} {r : Int64} (K : KS own idx y c2 n2 ret n) (hM : CT (xl X) Λ y c2 n2 ret fr2 lo2 As σ (some (.long r)) σ2) (hR : fr2 + 1 ≤ fr ∧ 8 + (n2 + 11) + lo2 ≤ lo) (hst : st = As.reverse ++ rest) (hn : As.length = n) (hcat : (rest.map fun v => v.category).sum ≤ 8) (hd : decode cc pc = .ok (.invokestatic idx, 3)) (hp : pc2 = pc + 3) (k : VV X Λ nL pc2 lv (.long r :: rest) σ2) : VV X Λ nL pc lv st σ := v_callS C K hM hR hst hn hcat hd hp k
theorem v_cSv (C : OK X Λ cc nL own fr lo) {idx n : Nat} {y : MethodName} {c2 : ByteArray} {n2 fr2 lo2 : Nat} {ret : Option FieldType} {As rest : List Value} (K : KS own idx y c2 n2 ret n) (hM : CT (xl X) Λ y c2 n2 ret fr2 lo2 As σ none σ2) (hR : fr2 + 1 ≤ fr ∧ 8 + (n2 + 11) + lo2 ≤ lo) (hst : st = As.reverse ++ rest) (hn : As.length = n) (hcat : (rest.map fun v => v.category).sum ≤ 8) (hd : decode cc pc = .ok (.invokestatic idx, 3)) (hp : pc2 = pc + 3) (k : VV X Λ nL pc2 lv (rest) σ2) : VV X Λ nL pc lv st σ := v_callS C K hM hR hst hn hcat hd hp k
theorem v_cNi (C : OK X Λ cc nL own fr lo) {idx n : Nat} {y : MethodName} {c2 : ByteArray} {n2 fr2 lo2 : Nat} {ret : Option FieldType} {As rest : List Value} {r : Int32} (K : KN own idx y c2 n2 ret n) (hM : CT (xl X) Λ y c2 n2 ret fr2 lo2 As σ (some (.int r)) σ2) (hR : fr2 + 1 ≤ fr ∧ 8 + (n2 + 11) + lo2 ≤ lo) (hst : st = As.reverse ++ rest) (hn : As.length = n) (hcat : (rest.map fun v => v.category).sum ≤ 8) (hd : decode cc pc = .ok (.invokestatic idx, 3)) (hp : pc2 = pc + 3) (k : VV X Λ nL pc2 lv (.int r :: rest) σ2) : VV X Λ nL pc lv st σ := v_callN C K hM hR hst hn hcat hd hp k
theorem v_cNl (C : OK X Λ cc nL own fr lo) {idx n : Nat} {y : MethodName} {c2 : ByteArray} {n2 fr2 lo2 : Nat} {ret : Option FieldType} {As rest : List Value} {r : Int64} (K : KN own idx y c2 n2 ret n) (hM : CT (xl X) Λ y c2 n2 ret fr2 lo2 As σ (some (.long r)) σ2) (hR : fr2 + 1 ≤ fr ∧ 8 + (n2 + 11) + lo2 ≤ lo) (hst : st = As.reverse ++ rest) (hn : As.length = n) (hcat : (rest.map fun v => v.category).sum ≤ 8) (hd : decode cc pc = .ok (.invokestatic idx, 3)) (hp : pc2 = pc + 3) (k : VV X Λ nL pc2 lv (.long r :: rest) σ2) : VV X Λ nL pc lv st σ := v_callN C K hM hR hst hn hcat hd hp k
theorem v_cNv (C : OK X Λ cc nL own fr lo) {idx n : Nat} {y : MethodName} {c2 : ByteArray} {n2 fr2 lo2 : Nat} {ret : Option FieldType} {As rest : List Value} (K : KN own idx y c2 n2 ret n) (hM : CT (xl X) Λ y c2 n2 ret fr2 lo2 As σ none σ2) (hR : fr2 + 1 ≤ fr ∧ 8 + (n2 + 11) + lo2 ≤ lo) (hst : st = As.reverse ++ rest) (hn : As.length = n) (hcat : (rest.map fun v => v.category).sum ≤ 8) (hd : decode cc pc = .ok (.invokestatic idx, 3)) (hp : pc2 = pc + 3) (k : VV X Λ nL pc2 lv (rest) σ2) : VV X Λ nL pc lv st σ := v_callN C K hM hR hst hn hcat hd hp k
theorem v_tabI (C : OK X Λ cc nL own fr lo) {dflt hi : Int} {offs : Array Int} {len j : Nat} {x v : Int32} {off : Int} (hd : decode cc pc = .ok (.tableswitch dflt 0 hi offs, len)) (h : x = v) (hv : v.toInt = (j : Int)) (hj : (j : Int) ≤ hi) (ho : offs[j]? = some off) (ht : (pc : Int) + off = (pc2 : Int)) (k : VV X Λ nL pc2 lv st σ) : VV X Λ nL pc lv (.int x :: st) σ := by
  intro ls H locs hl hP hS
  subst h
  exact lv_tableIn C.1 C.2.1 hd (by rw [hv]; omega) (by rw [hv]; omega) (by rw [hv]; simpa using ho) ht (k ls H locs hl hP hS)
theorem v_tabO (C : OK X Λ cc nL own fr lo) {dflt hi : Int} {offs : Array Int} {len : Nat} {x : Int32} (hd : decode cc pc = .ok (.tableswitch dflt 0 hi offs, len)) (h : x.toInt < 0 ∨ hi < x.toInt) (ht : (pc : Int) + dflt = (pc2 : Int)) (k : VV X Λ nL pc2 lv st σ) : VV X Λ nL pc lv (.int x :: st) σ := by
  intro ls H locs hl hP hS
  exact lv_tableOut C.1 C.2.1 hd h ht (k ls H locs hl hP hS)
end FLD
theorem i_le {a b : Int32} : a ≤ b ↔ a.toInt ≤ b.toInt := Int32.le_iff_toInt_le
theorem i_lt {a b : Int32} : a < b ↔ a.toInt < b.toInt := Int32.lt_iff_toInt_lt
theorem i_eq {a b : Int32} : a = b ↔ a.toInt = b.toInt := Int32.toInt_inj.symm
theorem t_le {a b : Int32} {m n : Int} (h : a ≤ b) (ha : a.toInt = m) (hb : b.toInt = n) : m ≤ n := by rw [i_le] at h; omega
theorem t_nle {a b : Int32} {m n : Int} (h : ¬ a ≤ b) (ha : a.toInt = m) (hb : b.toInt = n) : n < m := by rw [i_le] at h; omega
theorem t_lt {a b : Int32} {m n : Int} (h : a < b) (ha : a.toInt = m) (hb : b.toInt = n) : m < n := by rw [i_lt] at h; omega
theorem t_nlt {a b : Int32} {m n : Int} (h : ¬ a < b) (ha : a.toInt = m) (hb : b.toInt = n) : n ≤ m := by rw [i_lt] at h; omega
theorem t_eq {a b : Int32} {m n : Int} (h : a = b) (ha : a.toInt = m) (hb : b.toInt = n) : m = n := by rw [i_eq] at h; omega
theorem t_neq {a b : Int32} {m n : Int} (h : ¬ a = b) (ha : a.toInt = m) (hb : b.toInt = n) : ¬ m = n := by rw [i_eq] at h; omega
theorem vin {i : Int32} {n : Nat} (h0 : 0 ≤ i.toInt) (h1 : i.toInt < n) : vp_in i n := vp_in_iff.mpr ⟨h0, h1⟩
theorem vlt {i : Int32} {n : Nat} (h : vp_in i n) : i.toNatClampNeg < n := Nat.not_le.mp fun q => h (Or.inr q)
theorem kb_m12 : (Int8.ofInt (-12)).toInt32 = (-12 : Int32) := by decide +kernel
theorem kb_6 : (Int8.ofInt (6)).toInt32 = (6 : Int32) := by decide +kernel
theorem kb_7 : (Int8.ofInt (7)).toInt32 = (7 : Int32) := by decide +kernel
theorem kb_8 : (Int8.ofInt (8)).toInt32 = (8 : Int32) := by decide +kernel
theorem kb_10 : (Int8.ofInt (10)).toInt32 = (10 : Int32) := by decide +kernel
theorem kb_12 : (Int8.ofInt (12)).toInt32 = (12 : Int32) := by decide +kernel
theorem kb_16 : (Int8.ofInt (16)).toInt32 = (16 : Int32) := by decide +kernel
theorem kb_23 : (Int8.ofInt (23)).toInt32 = (23 : Int32) := by decide +kernel
theorem kb_24 : (Int8.ofInt (24)).toInt32 = (24 : Int32) := by decide +kernel
theorem kb_31 : (Int8.ofInt (31)).toInt32 = (31 : Int32) := by decide +kernel
theorem kb_48 : (Int8.ofInt (48)).toInt32 = (48 : Int32) := by decide +kernel
theorem kb_50 : (Int8.ofInt (50)).toInt32 = (50 : Int32) := by decide +kernel
theorem kb_63 : (Int8.ofInt (63)).toInt32 = (63 : Int32) := by decide +kernel
theorem kb_72 : (Int8.ofInt (72)).toInt32 = (72 : Int32) := by decide +kernel
theorem kb_99 : (Int8.ofInt (99)).toInt32 = (99 : Int32) := by decide +kernel
theorem kb_100 : (Int8.ofInt (100)).toInt32 = (100 : Int32) := by decide +kernel
theorem ki_m1 : Int32.ofInt (-1) = (-1 : Int32) := by decide +kernel
theorem ki_0 : Int32.ofInt (0) = (0 : Int32) := by decide +kernel
theorem ki_1 : Int32.ofInt (1) = (1 : Int32) := by decide +kernel
theorem ki_2 : Int32.ofInt (2) = (2 : Int32) := by decide +kernel
theorem ki_3 : Int32.ofInt (3) = (3 : Int32) := by decide +kernel
theorem ki_4 : Int32.ofInt (4) = (4 : Int32) := by decide +kernel
theorem ki_5 : Int32.ofInt (5) = (5 : Int32) := by decide +kernel
theorem ki_6 : Int32.ofInt (6) = (6 : Int32) := by decide +kernel
theorem ks_m1000 : (Int16.ofInt (-1000)).toInt32 = (-1000 : Int32) := by decide +kernel
theorem ks_200 : (Int16.ofInt (200)).toInt32 = (200 : Int32) := by decide +kernel
theorem ks_400 : (Int16.ofInt (400)).toInt32 = (400 : Int32) := by decide +kernel
theorem ks_1000 : (Int16.ofInt (1000)).toInt32 = (1000 : Int32) := by decide +kernel
theorem ks_10000 : (Int16.ofInt (10000)).toInt32 = (10000 : Int32) := by decide +kernel
theorem lit_m1000000005 : (-1000000005 : Int32).toInt = -1000000005 := by decide +kernel
theorem lit_m1000000004 : (-1000000004 : Int32).toInt = -1000000004 := by decide +kernel
theorem lit_m1000000003 : (-1000000003 : Int32).toInt = -1000000003 := by decide +kernel
theorem lit_m1000000002 : (-1000000002 : Int32).toInt = -1000000002 := by decide +kernel
theorem lit_m1000000001 : (-1000000001 : Int32).toInt = -1000000001 := by decide +kernel
theorem lit_m1000000000 : (-1000000000 : Int32).toInt = -1000000000 := by decide +kernel
theorem lit_m1000 : (-1000 : Int32).toInt = -1000 := by decide +kernel
theorem lit_m12 : (-12 : Int32).toInt = -12 := by decide +kernel
theorem lit_m1 : (-1 : Int32).toInt = -1 := by decide +kernel
theorem lit_0 : (0 : Int32).toInt = 0 := by decide +kernel
theorem lit_1 : (1 : Int32).toInt = 1 := by decide +kernel
theorem lit_2 : (2 : Int32).toInt = 2 := by decide +kernel
theorem lit_3 : (3 : Int32).toInt = 3 := by decide +kernel
theorem lit_4 : (4 : Int32).toInt = 4 := by decide +kernel
theorem lit_5 : (5 : Int32).toInt = 5 := by decide +kernel
theorem lit_6 : (6 : Int32).toInt = 6 := by decide +kernel
theorem lit_7 : (7 : Int32).toInt = 7 := by decide +kernel
theorem lit_8 : (8 : Int32).toInt = 8 := by decide +kernel
theorem lit_10 : (10 : Int32).toInt = 10 := by decide +kernel
theorem lit_12 : (12 : Int32).toInt = 12 := by decide +kernel
theorem lit_16 : (16 : Int32).toInt = 16 := by decide +kernel
theorem lit_23 : (23 : Int32).toInt = 23 := by decide +kernel
theorem lit_24 : (24 : Int32).toInt = 24 := by decide +kernel
theorem lit_31 : (31 : Int32).toInt = 31 := by decide +kernel
theorem lit_48 : (48 : Int32).toInt = 48 := by decide +kernel
theorem lit_50 : (50 : Int32).toInt = 50 := by decide +kernel
theorem lit_63 : (63 : Int32).toInt = 63 := by decide +kernel
theorem lit_72 : (72 : Int32).toInt = 72 := by decide +kernel
theorem lit_99 : (99 : Int32).toInt = 99 := by decide +kernel
theorem lit_100 : (100 : Int32).toInt = 100 := by decide +kernel
theorem lit_200 : (200 : Int32).toInt = 200 := by decide +kernel
theorem lit_400 : (400 : Int32).toInt = 400 := by decide +kernel
theorem lit_1000 : (1000 : Int32).toInt = 1000 := by decide +kernel
theorem lit_10000 : (10000 : Int32).toInt = 10000 := by decide +kernel
theorem lit_1000000 : (1000000 : Int32).toInt = 1000000 := by decide +kernel
theorem lit_252645135 : (252645135 : Int32).toInt = 252645135 := by decide +kernel
theorem lit_858993459 : (858993459 : Int32).toInt = 858993459 := by decide +kernel
theorem lit_1431655765 : (1431655765 : Int32).toInt = 1431655765 := by decide +kernel
theorem kl_0 : Int64.ofNat ((0 : Fin 2) : Nat) = (0 : Int64) := by decide +kernel
theorem kl_1 : Int64.ofNat ((1 : Fin 2) : Nat) = (1 : Int64) := by decide +kernel
set_option maxRecDepth 100000 in
theorem lf_X2_9 : Cond.fieldLink RX2 9 RX2 "start" "[J" ∈ wsG := wm 36 rfl rfl
set_option maxRecDepth 100000 in
theorem lf_X2_15 : Cond.fieldLink RX2 15 RX2 "end" "[J" ∈ wsG := wm 37 rfl rfl
set_option maxRecDepth 100000 in
theorem lf_X2_18 : Cond.fieldLink RX2 18 RX2 "from" "[J" ∈ wsG := wm 38 rfl rfl
set_option maxRecDepth 100000 in
theorem lf_X2_21 : Cond.fieldLink RX2 21 RX2 "to" "[J" ∈ wsG := wm 39 rfl rfl
set_option maxRecDepth 100000 in
theorem lf_X2_58 : Cond.fieldLink RX2 58 RX2 "pieces" "I" ∈ wsG := wm 40 rfl rfl
set_option maxRecDepth 100000 in
theorem lf_X3_15 : Cond.fieldLink RX3 15 RX3 "kind" "I" ∈ wsG := wm 58 rfl rfl
set_option maxRecDepth 100000 in
theorem lf_X9_107 : Cond.fieldLink RX9 107 RX3 "kind" "I" ∈ wsG := wm 59 rfl rfl
set_option maxRecDepth 100000 in
theorem lf_X0_64 : Cond.fieldLink RX0 64 RX3 "kind" "I" ∈ wsG := wm 60 rfl rfl
set_option maxRecDepth 100000 in
theorem lf_X3_18 : Cond.fieldLink RX3 18 RX3 "place" "I" ∈ wsG := wm 61 rfl rfl
set_option maxRecDepth 100000 in
theorem lf_X0_43 : Cond.fieldLink RX0 43 RX3 "place" "I" ∈ wsG := wm 62 rfl rfl
set_option maxRecDepth 100000 in
theorem lf_X2_39 : Cond.fieldLink RX2 39 RX3 "place" "I" ∈ wsG := wm 63 rfl rfl
set_option maxRecDepth 100000 in
theorem lf_X9_110 : Cond.fieldLink RX9 110 RX3 "place" "I" ∈ wsG := wm 64 rfl rfl
set_option maxRecDepth 100000 in
theorem lf_X3_21 : Cond.fieldLink RX3 21 RX3 "height" "I" ∈ wsG := wm 65 rfl rfl
set_option maxRecDepth 100000 in
theorem lf_X2_45 : Cond.fieldLink RX2 45 RX3 "height" "I" ∈ wsG := wm 66 rfl rfl
set_option maxRecDepth 100000 in
theorem lf_X9_113 : Cond.fieldLink RX9 113 RX3 "height" "I" ∈ wsG := wm 67 rfl rfl
set_option maxRecDepth 100000 in
theorem lf_X3_24 : Cond.fieldLink RX3 24 RX3 "width" "I" ∈ wsG := wm 68 rfl rfl
set_option maxRecDepth 100000 in
theorem lf_X2_48 : Cond.fieldLink RX2 48 RX3 "width" "I" ∈ wsG := wm 69 rfl rfl
set_option maxRecDepth 100000 in
theorem lf_X7_41 : Cond.fieldLink RX7 41 RX3 "width" "I" ∈ wsG := wm 70 rfl rfl
set_option maxRecDepth 100000 in
theorem lf_X9_116 : Cond.fieldLink RX9 116 RX3 "width" "I" ∈ wsG := wm 71 rfl rfl
set_option maxRecDepth 100000 in
theorem lf_X3_27 : Cond.fieldLink RX3 27 RX3 "dirt" "I" ∈ wsG := wm 72 rfl rfl
set_option maxRecDepth 100000 in
theorem lf_X7_36 : Cond.fieldLink RX7 36 RX3 "dirt" "I" ∈ wsG := wm 73 rfl rfl
set_option maxRecDepth 100000 in
theorem lf_X9_119 : Cond.fieldLink RX9 119 RX3 "dirt" "I" ∈ wsG := wm 74 rfl rfl
set_option maxRecDepth 100000 in
theorem lf_X0_112 : Cond.fieldLink RX0 112 RX3 "dirt" "I" ∈ wsG := wm 75 rfl rfl
set_option maxRecDepth 100000 in
theorem lf_X3_30 : Cond.fieldLink RX3 30 RX3 "step" "I" ∈ wsG := wm 76 rfl rfl
set_option maxRecDepth 100000 in
theorem lf_X9_122 : Cond.fieldLink RX9 122 RX3 "step" "I" ∈ wsG := wm 77 rfl rfl
set_option maxRecDepth 100000 in
theorem lf_X0_67 : Cond.fieldLink RX0 67 RX3 "step" "I" ∈ wsG := wm 78 rfl rfl
set_option maxRecDepth 100000 in
theorem lf_X3_9 : Cond.fieldLink RX3 9 RX3 "inString" "I" ∈ wsG := wm 79 rfl rfl
set_option maxRecDepth 100000 in
theorem lf_X5_32 : Cond.fieldLink RX5 32 RX3 "inString" "I" ∈ wsG := wm 80 rfl rfl
set_option maxRecDepth 100000 in
theorem lf_X9_125 : Cond.fieldLink RX9 125 RX3 "inString" "I" ∈ wsG := wm 81 rfl rfl
set_option maxRecDepth 100000 in
theorem lf_X0_11 : Cond.fieldLink RX0 11 RX0 "rows" "[LSunRows$Row;" ∈ wsG := wm 98 rfl rfl
set_option maxRecDepth 100000 in
theorem lf_X5_28 : Cond.fieldLink RX5 28 RX0 "rows" "[LSunRows$Row;" ∈ wsG := wm 99 rfl rfl
set_option maxRecDepth 100000 in
theorem lf_X7_22 : Cond.fieldLink RX7 22 RX0 "rows" "[LSunRows$Row;" ∈ wsG := wm 100 rfl rfl
set_option maxRecDepth 100000 in
theorem lf_X9_93 : Cond.fieldLink RX9 93 RX0 "rows" "[LSunRows$Row;" ∈ wsG := wm 101 rfl rfl
set_option maxRecDepth 100000 in
theorem lf_X0_20 : Cond.fieldLink RX0 20 RX0 "looks" "LSunRows$Looks;" ∈ wsG := wm 102 rfl rfl
set_option maxRecDepth 100000 in
theorem lf_X5_50 : Cond.fieldLink RX5 50 RX0 "looks" "LSunRows$Looks;" ∈ wsG := wm 103 rfl rfl
set_option maxRecDepth 100000 in
theorem lf_X9_174 : Cond.fieldLink RX9 174 RX0 "looks" "LSunRows$Looks;" ∈ wsG := wm 104 rfl rfl
set_option maxRecDepth 100000 in
theorem lf_X0_24 : Cond.fieldLink RX0 24 RX0 "unshaded" "[J" ∈ wsG := wm 105 rfl rfl
set_option maxRecDepth 100000 in
theorem lf_X5_74 : Cond.fieldLink RX5 74 RX0 "unshaded" "[J" ∈ wsG := wm 106 rfl rfl
set_option maxRecDepth 100000 in
theorem lf_X0_28 : Cond.fieldLink RX0 28 RX0 "taken" "[J" ∈ wsG := wm 107 rfl rfl
set_option maxRecDepth 100000 in
theorem lf_X5_77 : Cond.fieldLink RX5 77 RX0 "taken" "[J" ∈ wsG := wm 108 rfl rfl
set_option maxRecDepth 100000 in
theorem lf_X0_31 : Cond.fieldLink RX0 31 RX0 "currents" "[I" ∈ wsG := wm 109 rfl rfl
set_option maxRecDepth 100000 in
theorem lf_X5_37 : Cond.fieldLink RX5 37 RX0 "currents" "[I" ∈ wsG := wm 110 rfl rfl
set_option maxRecDepth 100000 in
theorem lf_X9_207 : Cond.fieldLink RX9 207 RX0 "currents" "[I" ∈ wsG := wm 111 rfl rfl
set_option maxRecDepth 100000 in
theorem lf_X0_35 : Cond.fieldLink RX0 35 RX0 "count" "I" ∈ wsG := wm 112 rfl rfl
set_option maxRecDepth 100000 in
theorem lf_X5_23 : Cond.fieldLink RX5 23 RX0 "count" "I" ∈ wsG := wm 113 rfl rfl
set_option maxRecDepth 100000 in
theorem lf_X7_17 : Cond.fieldLink RX7 17 RX0 "count" "I" ∈ wsG := wm 114 rfl rfl
set_option maxRecDepth 100000 in
theorem lf_X9_89 : Cond.fieldLink RX9 89 RX0 "count" "I" ∈ wsG := wm 115 rfl rfl
set_option maxRecDepth 100000 in
theorem lf_X0_39 : Cond.fieldLink RX0 39 RX0 "sunX" "I" ∈ wsG := wm 116 rfl rfl
set_option maxRecDepth 100000 in
theorem lf_X4_9 : Cond.fieldLink RX4 9 RX4 "x" "[I" ∈ wsG := wm 138 rfl rfl
set_option maxRecDepth 100000 in
theorem lf_X9_154 : Cond.fieldLink RX9 154 RX4 "x" "[I" ∈ wsG := wm 139 rfl rfl
set_option maxRecDepth 100000 in
theorem lf_X4_15 : Cond.fieldLink RX4 15 RX4 "y" "[I" ∈ wsG := wm 140 rfl rfl
set_option maxRecDepth 100000 in
theorem lf_X9_157 : Cond.fieldLink RX9 157 RX4 "y" "[I" ∈ wsG := wm 141 rfl rfl
set_option maxRecDepth 100000 in
theorem lc_X5_22 : Cond.constant RX5 22 (1000000) ∈ wsG := wm 153 rfl rfl
set_option maxRecDepth 100000 in
theorem lf_X5_9 : Cond.fieldLink RX5 9 RX5 "ceilings" "[I" ∈ wsG := wm 154 rfl rfl
set_option maxRecDepth 100000 in
theorem lf_X9_201 : Cond.fieldLink RX9 201 RX5 "ceilings" "[I" ∈ wsG := wm 155 rfl rfl
set_option maxRecDepth 100000 in
theorem lf_X5_15 : Cond.fieldLink RX5 15 RX5 "ranked" "[I" ∈ wsG := wm 156 rfl rfl
set_option maxRecDepth 100000 in
theorem lf_X5_18 : Cond.fieldLink RX5 18 RX5 "members" "I" ∈ wsG := wm 157 rfl rfl
set_option maxRecDepth 100000 in
theorem lf_X8_9 : Cond.fieldLink RX8 9 RX8 "readings" "[I" ∈ wsG := wm 171 rfl rfl
set_option maxRecDepth 100000 in
theorem lf_X9_221 : Cond.fieldLink RX9 221 RX8 "readings" "[I" ∈ wsG := wm 172 rfl rfl
set_option maxRecDepth 100000 in
theorem lf_X8_15 : Cond.fieldLink RX8 15 RX8 "cleans" "[Z" ∈ wsG := wm 173 rfl rfl
set_option maxRecDepth 100000 in
theorem lf_X9_227 : Cond.fieldLink RX9 227 RX8 "cleans" "[Z" ∈ wsG := wm 174 rfl rfl
set_option maxRecDepth 100000 in
theorem lf_X8_19 : Cond.fieldLink RX8 19 RX8 "stowAt" "I" ∈ wsG := wm 175 rfl rfl
set_option maxRecDepth 100000 in
theorem lf_X9_224 : Cond.fieldLink RX9 224 RX8 "stowAt" "I" ∈ wsG := wm 176 rfl rfl
set_option maxRecDepth 100000 in
theorem lf_X8_23 : Cond.fieldLink RX8 23 RX8 "lostInARow" "I" ∈ wsG := wm 177 rfl rfl
set_option maxRecDepth 100000 in
theorem lf_X8_26 : Cond.fieldLink RX8 26 RX8 "isStowed" "Z" ∈ wsG := wm 178 rfl rfl
set_option maxRecDepth 100000 in
theorem lf_X1_9 : Cond.fieldLink RX1 9 RX1 "latest" "[J" ∈ wsG := wm 197 rfl rfl
set_option maxRecDepth 100000 in
theorem lf_X5_68 : Cond.fieldLink RX5 68 RX1 "latest" "[J" ∈ wsG := wm 198 rfl rfl
set_option maxRecDepth 100000 in
theorem lf_X9_237 : Cond.fieldLink RX9 237 RX1 "latest" "[J" ∈ wsG := wm 199 rfl rfl
set_option maxRecDepth 100000 in
theorem lf_X1_15 : Cond.fieldLink RX1 15 RX1 "sums" "[J" ∈ wsG := wm 200 rfl rfl
set_option maxRecDepth 100000 in
theorem lf_X9_248 : Cond.fieldLink RX9 248 RX1 "sums" "[J" ∈ wsG := wm 201 rfl rfl
set_option maxRecDepth 100000 in
theorem lf_X1_18 : Cond.fieldLink RX1 18 RX1 "isBegun" "Z" ∈ wsG := wm 202 rfl rfl
set_option maxRecDepth 100000 in
theorem lf_X9_241 : Cond.fieldLink RX9 241 RX1 "isBegun" "Z" ∈ wsG := wm 203 rfl rfl
set_option maxRecDepth 100000 in
theorem lf_X1_22 : Cond.fieldLink RX1 22 RX1 "state" "I" ∈ wsG := wm 204 rfl rfl
set_option maxRecDepth 100000 in
theorem lf_X9_234 : Cond.fieldLink RX9 234 RX1 "state" "I" ∈ wsG := wm 205 rfl rfl
set_option maxRecDepth 100000 in
theorem lf_X1_26 : Cond.fieldLink RX1 26 RX1 "whichHour" "I" ∈ wsG := wm 206 rfl rfl
set_option maxRecDepth 100000 in
theorem lf_X9_245 : Cond.fieldLink RX9 245 RX1 "whichHour" "I" ∈ wsG := wm 207 rfl rfl
set_option maxRecDepth 100000 in
theorem lf_X7_7 : Cond.fieldLink RX7 7 RX7 "bestSet" "I" ∈ wsG := wm 225 rfl rfl
set_option maxRecDepth 100000 in
theorem lf_X9_259 : Cond.fieldLink RX9 259 RX7 "bestSet" "I" ∈ wsG := wm 226 rfl rfl
set_option maxRecDepth 100000 in
theorem lf_X7_13 : Cond.fieldLink RX7 13 RX7 "bestValue" "J" ∈ wsG := wm 227 rfl rfl
set_option maxRecDepth 100000 in
theorem lf_X9_262 : Cond.fieldLink RX9 262 RX7 "bestValue" "J" ∈ wsG := wm 228 rfl rfl
set_option maxRecDepth 100000 in
theorem lf_X6_9 : Cond.fieldLink RX6 9 RX6 "numbers" "[I" ∈ wsG := wm 240 rfl rfl
set_option maxRecDepth 100000 in
theorem lf_X9_148 : Cond.fieldLink RX9 148 RX6 "numbers" "[I" ∈ wsG := wm 241 rfl rfl
set_option maxRecDepth 100000 in
theorem lf_X6_15 : Cond.fieldLink RX6 15 RX6 "size" "I" ∈ wsG := wm 242 rfl rfl
set_option maxRecDepth 100000 in
theorem lf_X9_142 : Cond.fieldLink RX9 142 RX6 "size" "I" ∈ wsG := wm 243 rfl rfl
set_option maxRecDepth 100000 in
theorem lf_X9_10 : Cond.fieldLink RX9 10 RX9 "field" "LSunRows$Field;" ∈ wsG := wm 249 rfl rfl
set_option maxRecDepth 100000 in
theorem lf_X9_19 : Cond.fieldLink RX9 19 RX9 "sky" "LSunRows$Sky;" ∈ wsG := wm 250 rfl rfl
set_option maxRecDepth 100000 in
theorem lf_X9_26 : Cond.fieldLink RX9 26 RX9 "strings" "LSunRows$Strings;" ∈ wsG := wm 251 rfl rfl
set_option maxRecDepth 100000 in
theorem lf_X9_33 : Cond.fieldLink RX9 33 RX9 "weather" "LSunRows$Weather;" ∈ wsG := wm 252 rfl rfl
set_option maxRecDepth 100000 in
theorem lf_X9_40 : Cond.fieldLink RX9 40 RX9 "ledger" "LSunRows$Ledger;" ∈ wsG := wm 253 rfl rfl
set_option maxRecDepth 100000 in
theorem lf_X9_47 : Cond.fieldLink RX9 47 RX9 "washing" "LSunRows$Washing;" ∈ wsG := wm 254 rfl rfl
set_option maxRecDepth 100000 in
theorem lf_X9_54 : Cond.fieldLink RX9 54 RX9 "tape" "LSunRows$Tape;" ∈ wsG := wm 255 rfl rfl
set_option maxRecDepth 100000 in
theorem lf_X9_58 : Cond.fieldLink RX9 58 RX9 "answered" "[I" ∈ wsG := wm 256 rfl rfl
set_option maxRecDepth 100000 in
theorem lf_X9_62 : Cond.fieldLink RX9 62 RX9 "nextHour" "I" ∈ wsG := wm 257 rfl rfl
set_option maxRecDepth 100000 in
theorem lf_X9_66 : Cond.fieldLink RX9 66 RX9 "latestTarget" "I" ∈ wsG := wm 258 rfl rfl
set_option maxRecDepth 100000 in
theorem lc_X9_80 : Cond.constant RX9 80 (-1000000001) ∈ wsG := wm 293 rfl rfl
set_option maxRecDepth 100000 in
theorem lc_X9_88 : Cond.constant RX9 88 (-1000000005) ∈ wsG := wm 302 rfl rfl
set_option maxRecDepth 100000 in
theorem lc_X9_92 : Cond.constant RX9 92 (-1000000004) ∈ wsG := wm 303 rfl rfl
set_option maxRecDepth 100000 in
theorem lc_X9_103 : Cond.constant RX9 103 (-1000000002) ∈ wsG := wm 312 rfl rfl
set_option maxRecDepth 100000 in
theorem lc_X9_131 : Cond.constant RX9 131 (-1000000003) ∈ wsG := wm 329 rfl rfl
set_option maxRecDepth 100000 in
theorem lc_X2_37 : Cond.constantLong RX2 37 (20000) ∈ wsG := wm 399 rfl rfl
set_option maxRecDepth 100000 in
theorem lc_X2_72 : Cond.constantLong RX2 72 (3) ∈ wsG := wm 483 rfl rfl
set_option maxRecDepth 100000 in
theorem lc_X9_200 : Cond.constant RX9 200 (1000000) ∈ wsG := wm 495 rfl rfl
set_option maxRecDepth 100000 in
theorem lc_J6_265 : Cond.constant RJ6 265 (1431655765) ∈ wsG := wm 509 rfl rfl
set_option maxRecDepth 100000 in
theorem lc_J6_266 : Cond.constant RJ6 266 (858993459) ∈ wsG := wm 510 rfl rfl
set_option maxRecDepth 100000 in
theorem lc_J6_267 : Cond.constant RJ6 267 (252645135) ∈ wsG := wm 511 rfl rfl
set_option maxRecDepth 100000 in
theorem lc_X0_110 : Cond.constantLong RX0 110 (3000000) ∈ wsG := wm 513 rfl rfl
set_option maxRecDepth 100000 in
theorem lc_X0_115 : Cond.constantLong RX0 115 (1000) ∈ wsG := wm 514 rfl rfl
set_option maxRecDepth 100000 in
theorem lc_X5_60 : Cond.constantLong RX5 60 (3) ∈ wsG := wm 583 rfl rfl
set_option maxRecDepth 100000 in
theorem lc_X5_66 : Cond.constantLong RX5 66 (3000000) ∈ wsG := wm 585 rfl rfl
set_option maxRecDepth 100000 in
theorem lc_X7_30 : Cond.constantLong RX7 30 (10) ∈ wsG := wm 635 rfl rfl
set_option maxRecDepth 100000 in
theorem lc_X10_70 : Cond.constant RX10 70 (1000000) ∈ wsG := wm 683 rfl rfl
set_option maxRecDepth 100000 in
theorem lf_X10_72 : Cond.fieldLink RX10 72 RX10 "rows" "I" ∈ wsG := wm 684 rfl rfl
set_option maxRecDepth 100000 in
theorem lf_X10_9 : Cond.fieldLink RX10 9 RX10 "kindOf" "[I" ∈ wsG := wm 685 rfl rfl
set_option maxRecDepth 100000 in
theorem lf_X10_13 : Cond.fieldLink RX10 13 RX10 "placeOf" "[I" ∈ wsG := wm 686 rfl rfl
set_option maxRecDepth 100000 in
theorem lf_X10_16 : Cond.fieldLink RX10 16 RX10 "heightOf" "[I" ∈ wsG := wm 687 rfl rfl
set_option maxRecDepth 100000 in
theorem lf_X10_19 : Cond.fieldLink RX10 19 RX10 "widthOf" "[I" ∈ wsG := wm 688 rfl rfl
set_option maxRecDepth 100000 in
theorem lf_X10_22 : Cond.fieldLink RX10 22 RX10 "dustOf" "[I" ∈ wsG := wm 689 rfl rfl
set_option maxRecDepth 100000 in
theorem lf_X10_25 : Cond.fieldLink RX10 25 RX10 "stepOf" "[I" ∈ wsG := wm 690 rfl rfl
set_option maxRecDepth 100000 in
theorem lf_X10_28 : Cond.fieldLink RX10 28 RX10 "stringOf" "[I" ∈ wsG := wm 691 rfl rfl
set_option maxRecDepth 100000 in
theorem lf_X10_31 : Cond.fieldLink RX10 31 RX10 "sunX" "[I" ∈ wsG := wm 692 rfl rfl
set_option maxRecDepth 100000 in
theorem lf_X10_34 : Cond.fieldLink RX10 34 RX10 "sunY" "[I" ∈ wsG := wm 693 rfl rfl
set_option maxRecDepth 100000 in
theorem lf_X10_37 : Cond.fieldLink RX10 37 RX10 "windOf" "[I" ∈ wsG := wm 694 rfl rfl
set_option maxRecDepth 100000 in
theorem lf_X10_40 : Cond.fieldLink RX10 40 RX10 "cleans" "[Z" ∈ wsG := wm 695 rfl rfl
set_option maxRecDepth 100000 in
theorem lf_X10_44 : Cond.fieldLink RX10 44 RX10 "ceilings" "[I" ∈ wsG := wm 696 rfl rfl
set_option maxRecDepth 100000 in
theorem lf_X10_47 : Cond.fieldLink RX10 47 RX10 "limit" "I" ∈ wsG := wm 697 rfl rfl
set_option maxRecDepth 100000 in
theorem lf_X10_239 : Cond.fieldLink RX10 239 RX10 "nextHour" "I" ∈ wsG := wm 698 rfl rfl
set_option maxRecDepth 100000 in
theorem lf_X10_223 : Cond.fieldLink RX10 223 RX10 "state" "I" ∈ wsG := wm 699 rfl rfl
set_option maxRecDepth 100000 in
theorem lf_X10_220 : Cond.fieldLink RX10 220 RX10 "lostRow" "I" ∈ wsG := wm 700 rfl rfl
set_option maxRecDepth 100000 in
theorem lf_X10_229 : Cond.fieldLink RX10 229 RX10 "went" "Z" ∈ wsG := wm 701 rfl rfl
set_option maxRecDepth 100000 in
theorem lf_X10_236 : Cond.fieldLink RX10 236 RX10 "lastStep" "I" ∈ wsG := wm 702 rfl rfl
set_option maxRecDepth 100000 in
theorem lf_X10_233 : Cond.fieldLink RX10 233 RX10 "lastState" "I" ∈ wsG := wm 703 rfl rfl
set_option maxRecDepth 100000 in
theorem lf_X10_51 : Cond.fieldLink RX10 51 RX10 "book" "[J" ∈ wsG := wm 704 rfl rfl
set_option maxRecDepth 100000 in
theorem lf_X10_55 : Cond.fieldLink RX10 55 RX10 "all" "[J" ∈ wsG := wm 705 rfl rfl
set_option maxRecDepth 100000 in
theorem lf_X10_141 : Cond.fieldLink RX10 141 RX10 "taped" "I" ∈ wsG := wm 706 rfl rfl
set_option maxRecDepth 100000 in
theorem lf_X10_58 : Cond.fieldLink RX10 58 RX10 "tape" "[I" ∈ wsG := wm 707 rfl rfl
set_option maxRecDepth 100000 in
theorem lf_X10_61 : Cond.fieldLink RX10 61 RX10 "findings" "[I" ∈ wsG := wm 708 rfl rfl
set_option maxRecDepth 100000 in
theorem lf_X10_64 : Cond.fieldLink RX10 64 RX10 "tried" "I" ∈ wsG := wm 709 rfl rfl
set_option maxRecDepth 100000 in
theorem lf_X10_67 : Cond.fieldLink RX10 67 RX10 "currents" "[J" ∈ wsG := wm 710 rfl rfl
set_option maxRecDepth 100000 in
theorem lf_X10_256 : Cond.fieldLink RX10 256 RX10 "bestSet" "I" ∈ wsG := wm 711 rfl rfl
set_option maxRecDepth 100000 in
theorem lc_X10_119 : Cond.constant RX10 119 (-1000000001) ∈ wsG := wm 779 rfl rfl
set_option maxRecDepth 100000 in
theorem lc_X10_71 : Cond.constant RX10 71 (-1000000000) ∈ wsG := wm 784 rfl rfl
set_option maxRecDepth 100000 in
theorem lc_X10_124 : Cond.constant RX10 124 (-1000000005) ∈ wsG := wm 785 rfl rfl
set_option maxRecDepth 100000 in
theorem lc_X10_125 : Cond.constant RX10 125 (-1000000004) ∈ wsG := wm 786 rfl rfl
set_option maxRecDepth 100000 in
theorem lc_X10_126 : Cond.constant RX10 126 (-1000000002) ∈ wsG := wm 791 rfl rfl
set_option maxRecDepth 100000 in
theorem lc_X10_130 : Cond.constant RX10 130 (-1000000003) ∈ wsG := wm 804 rfl rfl
set_option maxRecDepth 100000 in
theorem lc_X10_79 : Cond.constantLong RX10 79 (10000) ∈ wsG := wm 846 rfl rfl
set_option maxRecDepth 100000 in
theorem lc_X10_81 : Cond.constantLong RX10 81 (9962) ∈ wsG := wm 847 rfl rfl
set_option maxRecDepth 100000 in
theorem lc_X10_83 : Cond.constantLong RX10 83 (9848) ∈ wsG := wm 848 rfl rfl
set_option maxRecDepth 100000 in
theorem lc_X10_85 : Cond.constantLong RX10 85 (9659) ∈ wsG := wm 849 rfl rfl
set_option maxRecDepth 100000 in
theorem lc_X10_87 : Cond.constantLong RX10 87 (9397) ∈ wsG := wm 850 rfl rfl
set_option maxRecDepth 100000 in
theorem lc_X10_89 : Cond.constantLong RX10 89 (9063) ∈ wsG := wm 851 rfl rfl
set_option maxRecDepth 100000 in
theorem lc_X10_91 : Cond.constantLong RX10 91 (8660) ∈ wsG := wm 852 rfl rfl
set_option maxRecDepth 100000 in
theorem lc_X10_93 : Cond.constantLong RX10 93 (8192) ∈ wsG := wm 853 rfl rfl
set_option maxRecDepth 100000 in
theorem lc_X10_95 : Cond.constantLong RX10 95 (7660) ∈ wsG := wm 854 rfl rfl
set_option maxRecDepth 100000 in
theorem lc_X10_97 : Cond.constantLong RX10 97 (7071) ∈ wsG := wm 855 rfl rfl
set_option maxRecDepth 100000 in
theorem lc_X10_99 : Cond.constantLong RX10 99 (6428) ∈ wsG := wm 856 rfl rfl
set_option maxRecDepth 100000 in
theorem lc_X10_101 : Cond.constantLong RX10 101 (5736) ∈ wsG := wm 857 rfl rfl
set_option maxRecDepth 100000 in
theorem lc_X10_103 : Cond.constantLong RX10 103 (5000) ∈ wsG := wm 858 rfl rfl
set_option maxRecDepth 100000 in
theorem lc_X10_105 : Cond.constantLong RX10 105 (872) ∈ wsG := wm 862 rfl rfl
set_option maxRecDepth 100000 in
theorem lc_X10_107 : Cond.constantLong RX10 107 (1736) ∈ wsG := wm 863 rfl rfl
set_option maxRecDepth 100000 in
theorem lc_X10_109 : Cond.constantLong RX10 109 (2588) ∈ wsG := wm 864 rfl rfl
set_option maxRecDepth 100000 in
theorem lc_X10_111 : Cond.constantLong RX10 111 (3420) ∈ wsG := wm 865 rfl rfl
set_option maxRecDepth 100000 in
theorem lc_X10_113 : Cond.constantLong RX10 113 (4226) ∈ wsG := wm 866 rfl rfl
set_option maxRecDepth 100000 in
theorem lc_X10_147 : Cond.constantLong RX10 147 (-1) ∈ wsG := wm 891 rfl rfl
set_option maxRecDepth 100000 in
theorem lc_X10_149 : Cond.constantLong RX10 149 (20000) ∈ wsG := wm 892 rfl rfl
set_option maxRecDepth 100000 in
theorem lc_X10_165 : Cond.constantLong RX10 165 (3) ∈ wsG := wm 897 rfl rfl
set_option maxRecDepth 100000 in
theorem lc_X10_204 : Cond.constantLong RX10 204 (3000000) ∈ wsG := wm 953 rfl rfl
set_option maxRecDepth 100000 in
theorem lc_X10_209 : Cond.constantLong RX10 209 (1000) ∈ wsG := wm 958 rfl rfl
set_option maxRecDepth 100000 in
theorem lc_X10_259 : Cond.constantLong RX10 259 (10) ∈ wsG := wm 1027 rfl rfl
set_option maxRecDepth 100000 in
theorem mi_Math : Cond.initialized "java/lang/Math" ∈ wsG := wm 12 rfl rfl
set_option maxRecDepth 100000 in
theorem ms_mabs : Cond.static Lib.Math.abs.name ∈ wsG := wm 396 rfl rfl
set_option maxRecDepth 100000 in
theorem mc_mabs : Cond.code Lib.Math.abs.name Lib.Math.abs.code 1 (some .int) ∈ wsG := wm 397 rfl rfl
set_option maxRecDepth 100000 in
theorem ms_mmax : Cond.static Lib.Math.max.name ∈ wsG := wm 537 rfl rfl
set_option maxRecDepth 100000 in
theorem mc_mmax : Cond.code Lib.Math.max.name Lib.Math.max.code 2 (some .int) ∈ wsG := wm 538 rfl rfl
set_option maxRecDepth 100000 in
theorem ms_mmin : Cond.static Lib.Math.min.name ∈ wsG := wm 564 rfl rfl
set_option maxRecDepth 100000 in
theorem mc_mmin : Cond.code Lib.Math.min.name Lib.Math.min.code 2 (some .int) ∈ wsG := wm 565 rfl rfl
set_option maxRecDepth 100000 in
theorem ms_lmax : Cond.static Lib.MathLoose.max_long.x ∈ wsG := wm 424 rfl rfl
set_option maxRecDepth 100000 in
theorem mc_lmax : Cond.code Lib.MathLoose.max_long.x Lib.MathLoose.max_long.code 4 (some .long) ∈ wsG := wm 425 rfl rfl
set_option maxRecDepth 100000 in
theorem ms_lmin : Cond.static Lib.MathLoose.min_long.x ∈ wsG := wm 421 rfl rfl
set_option maxRecDepth 100000 in
theorem mc_lmin : Cond.code Lib.MathLoose.min_long.x Lib.MathLoose.min_long.code 4 (some .long) ∈ wsG := wm 422 rfl rfl
set_option maxRecDepth 100000 in
theorem kc_L_13 : KV RL 13 RX9 yX9_row cX9_row 7 (some .int) 5 := KV.mk (wm 280 rfl rfl) (wm 281 rfl rfl) (wm 282 rfl rfl) (wm 1 rfl rfl) (wm 283 rfl rfl) (by decide +kernel)
set_option maxRecDepth 100000 in
theorem kc_X9_69 : KS RX9 69 yX9_isKind cX9_isKind 1 (some .boolean) 1 := KS.mk (wm 284 rfl rfl) (wm 285 rfl rfl) (wm 1 rfl rfl) (wm 286 rfl rfl) (by decide +kernel)
set_option maxRecDepth 100000 in
theorem kc_X9_73 : KS RX9 73 yX9_isWithin cX9_isWithin 3 (some .boolean) 3 := KS.mk (wm 287 rfl rfl) (wm 288 rfl rfl) (wm 1 rfl rfl) (wm 289 rfl rfl) (by decide +kernel)
set_option maxRecDepth 100000 in
theorem kc_X9_77 : KS RX9 77 yX9_isStep cX9_isStep 1 (some .boolean) 1 := KS.mk (wm 290 rfl rfl) (wm 291 rfl rfl) (wm 1 rfl rfl) (wm 292 rfl rfl) (by decide +kernel)
set_option maxRecDepth 100000 in
theorem kc_X9_81 : KV RX9 81 RX9 yX9_answer cX9_answer 2 (some .int) 1 := KV.mk (wm 294 rfl rfl) (wm 296 rfl rfl) (wmS 0 rfl rfl) (wm 1 rfl rfl) (wm 297 rfl rfl) (by decide +kernel)
set_option maxRecDepth 100000 in
theorem kc_X9_85 : KV RX9 85 RX0 yX0_isAboveLast cX0_isAboveLast 2 (some .boolean) 1 := KV.mk (wm 298 rfl rfl) (wm 299 rfl rfl) (wm 300 rfl rfl) (wm 2 rfl rfl) (wm 301 rfl rfl) (by decide +kernel)
set_option maxRecDepth 100000 in
theorem kc_X9_97 : KV RX9 97 RX3 yX3_begin cX3_begin 6 none 5 := KV.mk (wm 304 rfl rfl) (wm 305 rfl rfl) (wm 306 rfl rfl) (wm 4 rfl rfl) (wm 307 rfl rfl) (by decide +kernel)
set_option maxRecDepth 100000 in
theorem kc_L_18 : KV RL 18 RX9 yX9_drop cX9_drop 1 (some .int) 0 := KV.mk (wm 308 rfl rfl) (wm 309 rfl rfl) (wm 310 rfl rfl) (wm 1 rfl rfl) (wm 311 rfl rfl) (by decide +kernel)
set_option maxRecDepth 100000 in
theorem kc_L_23 : KV RL 23 RX9 yX9_about cX9_about 4 (some .int) 2 := KV.mk (wm 313 rfl rfl) (wm 314 rfl rfl) (wm 315 rfl rfl) (wm 1 rfl rfl) (wm 316 rfl rfl) (by decide +kernel)
set_option maxRecDepth 100000 in
theorem kc_X9_104 : KV RX9 104 RX9 yX9_isRow cX9_isRow 2 (some .boolean) 1 := KV.mk (wm 317 rfl rfl) (wm 319 rfl rfl) (wmS 1 rfl rfl) (wm 1 rfl rfl) (wm 320 rfl rfl) (by decide +kernel)
set_option maxRecDepth 100000 in
theorem kc_L_28 : KV RL 28 RX9 yX9_as cX9_as 4 (some .int) 2 := KV.mk (wm 321 rfl rfl) (wm 322 rfl rfl) (wm 323 rfl rfl) (wm 1 rfl rfl) (wm 324 rfl rfl) (by decide +kernel)
set_option maxRecDepth 100000 in
theorem kc_X9_128 : KV RX9 128 RX3 yX3_isOf cX3_isOf 2 (some .boolean) 1 := KV.mk (wm 325 rfl rfl) (wm 326 rfl rfl) (wm 327 rfl rfl) (wm 4 rfl rfl) (wm 328 rfl rfl) (by decide +kernel)
set_option maxRecDepth 100000 in
theorem kc_L_32 : KV RL 32 RX9 yX9_turn cX9_turn 5 (some .int) 2 := KV.mk (wm 330 rfl rfl) (wm 331 rfl rfl) (wm 332 rfl rfl) (wm 1 rfl rfl) (wm 333 rfl rfl) (by decide +kernel)
set_option maxRecDepth 100000 in
theorem kc_L_36 : KV RL 36 RX9 yX9_dust cX9_dust 5 (some .int) 2 := KV.mk (wm 334 rfl rfl) (wm 335 rfl rfl) (wm 336 rfl rfl) (wm 1 rfl rfl) (wm 337 rfl rfl) (by decide +kernel)
set_option maxRecDepth 100000 in
theorem kc_L_40 : KV RL 40 RX9 yX9_sun cX9_sun 4 (some .int) 3 := KV.mk (wm 338 rfl rfl) (wm 339 rfl rfl) (wm 340 rfl rfl) (wm 1 rfl rfl) (wm 341 rfl rfl) (by decide +kernel)
set_option maxRecDepth 100000 in
theorem kc_X9_132 : KS RX9 132 yX9_isSunWay cX9_isSunWay 3 (some .boolean) 3 := KS.mk (wm 342 rfl rfl) (wm 343 rfl rfl) (wm 1 rfl rfl) (wm 344 rfl rfl) (by decide +kernel)
set_option maxRecDepth 100000 in
theorem kc_X9_151 : KS RX9 151 yX9_isHour cX9_isHour 1 (some .boolean) 1 := KS.mk (wm 345 rfl rfl) (wm 346 rfl rfl) (wm 1 rfl rfl) (wm 347 rfl rfl) (by decide +kernel)
set_option maxRecDepth 100000 in
theorem kc_X9_135 : KV RX9 135 RX4 yX4_put cX4_put 4 none 3 := KV.mk (wm 348 rfl rfl) (wm 349 rfl rfl) (wm 350 rfl rfl) (wm 5 rfl rfl) (wm 351 rfl rfl) (by decide +kernel)
set_option maxRecDepth 100000 in
theorem kc_X9_139 : KV RX9 139 RX4 yX4_isNight cX4_isNight 2 (some .boolean) 1 := KV.mk (wm 352 rfl rfl) (wm 353 rfl rfl) (wm 354 rfl rfl) (wm 5 rfl rfl) (wm 355 rfl rfl) (by decide +kernel)
set_option maxRecDepth 100000 in
theorem kc_L_45 : KV RL 45 RX9 yX9_suns cX9_suns 3 (some .int) 0 := KV.mk (wm 356 rfl rfl) (wm 357 rfl rfl) (wm 358 rfl rfl) (wm 1 rfl rfl) (wm 359 rfl rfl) (by decide +kernel)
set_option maxRecDepth 100000 in
theorem kc_X9_145 : KV RX9 145 RX6 yX6_clear cX6_clear 1 none 0 := KV.mk (wm 360 rfl rfl) (wm 361 rfl rfl) (wm 362 rfl rfl) (wm 10 rfl rfl) (wm 363 rfl rfl) (by decide +kernel)
set_option maxRecDepth 100000 in
theorem kc_L_49 : KV RL 49 RX9 yX9_ideal cX9_ideal 2 (some .int) 1 := KV.mk (wm 364 rfl rfl) (wm 365 rfl rfl) (wm 366 rfl rfl) (wm 1 rfl rfl) (wm 367 rfl rfl) (by decide +kernel)
set_option maxRecDepth 100000 in
theorem kc_X9_160 : KV RX9 160 RX0 yX0_idealStep cX0_idealStep 11 (some .int) 2 := KV.mk (wm 368 rfl rfl) (wm 369 rfl rfl) (wm 370 rfl rfl) (wm 2 rfl rfl) (wm 371 rfl rfl) (by decide +kernel)
set_option maxRecDepth 100000 in
theorem kc_L_54 : KV RL 54 RX9 yX9_back cX9_back 3 (some .int) 1 := KV.mk (wm 376 rfl rfl) (wm 377 rfl rfl) (wm 378 rfl rfl) (wm 1 rfl rfl) (wm 379 rfl rfl) (by decide +kernel)
set_option maxRecDepth 100000 in
theorem kc_X9_164 : KV RX9 164 RX0 yX0_backStep cX0_backStep 5 (some .int) 2 := KV.mk (wm 380 rfl rfl) (wm 381 rfl rfl) (wm 382 rfl rfl) (wm 2 rfl rfl) (wm 383 rfl rfl) (by decide +kernel)
set_option maxRecDepth 100000 in
theorem kc_X0_52 : KV RX0 52 RX0 yX0_idealStep cX0_idealStep 11 (some .int) 2 := KV.mk (wm 384 rfl rfl) (wm 369 rfl rfl) (wm 370 rfl rfl) (wm 2 rfl rfl) (wm 371 rfl rfl) (by decide +kernel)
set_option maxRecDepth 100000 in
theorem kc_X0_56 : KV RX0 56 RX0 yX0_isFreeAt cX0_isFreeAt 6 (some .boolean) 3 := KV.mk (wm 385 rfl rfl) (wm 387 rfl rfl) (wmS 2 rfl rfl) (wm 2 rfl rfl) (wm 388 rfl rfl) (by decide +kernel)
set_option maxRecDepth 100000 in
theorem kc_X0_60 : KN RX0 60 yX9_isStep cX9_isStep 1 (some .boolean) 1 := ⟨by decide +kernel, wm 291 rfl rfl, wm 1 rfl rfl, wm 292 rfl rfl, by decide +kernel⟩
set_option maxRecDepth 100000 in
theorem kc_X0_70 : KV RX0 70 RX2 yX2_put cX2_put 14 none 5 := KV.mk (wm 390 rfl rfl) (wm 391 rfl rfl) (wm 392 rfl rfl) (wm 3 rfl rfl) (wm 393 rfl rfl) (by decide +kernel)
set_option maxRecDepth 100000 in
theorem ml_X2_28 : Cond.methodLink RX2 28 Lib.Math.abs.name ∈ wsG := wm 395 rfl rfl
set_option maxRecDepth 100000 in
theorem kc_X0_74 : KV RX0 74 RX2 yX2_isLit cX2_isLit 2 (some .boolean) 1 := KV.mk (wm 400 rfl rfl) (wm 401 rfl rfl) (wm 402 rfl rfl) (wm 3 rfl rfl) (wm 403 rfl rfl) (by decide +kernel)
set_option maxRecDepth 100000 in
theorem kc_X0_77 : KV RX0 77 RX0 yX0_firstAhead cX0_firstAhead 2 (some .int) 1 := KV.mk (wm 404 rfl rfl) (wm 406 rfl rfl) (wmS 3 rfl rfl) (wm 2 rfl rfl) (wm 407 rfl rfl) (by decide +kernel)
set_option maxRecDepth 100000 in
theorem kc_X0_81 : KV RX0 81 RX0 yX0_lastAhead cX0_lastAhead 2 (some .int) 1 := KV.mk (wm 408 rfl rfl) (wm 410 rfl rfl) (wmS 4 rfl rfl) (wm 2 rfl rfl) (wm 411 rfl rfl) (by decide +kernel)
set_option maxRecDepth 100000 in
theorem kc_X0_84 : KV RX0 84 RX2 yX2_isShaded cX2_isShaded 5 (some .boolean) 3 := KV.mk (wm 412 rfl rfl) (wm 413 rfl rfl) (wm 414 rfl rfl) (wm 3 rfl rfl) (wm 415 rfl rfl) (by decide +kernel)
set_option maxRecDepth 100000 in
theorem kc_X2_51 : KV RX2 51 RX2 yX2_shadeStart cX2_shadeStart 3 (some .long) 2 := KV.mk (wm 416 rfl rfl) (wm 418 rfl rfl) (wmS 5 rfl rfl) (wm 3 rfl rfl) (wm 419 rfl rfl) (by decide +kernel)
set_option maxRecDepth 100000 in
theorem ml_X2_65 : Cond.methodLink RX2 65 Lib.MathLoose.min_long.x ∈ wsG := wm 420 rfl rfl
set_option maxRecDepth 100000 in
theorem ml_X2_69 : Cond.methodLink RX2 69 Lib.MathLoose.max_long.x ∈ wsG := wm 423 rfl rfl
set_option maxRecDepth 100000 in
theorem kc_X2_55 : KV RX2 55 RX2 yX2_shadeEnd cX2_shadeEnd 3 (some .long) 2 := KV.mk (wm 426 rfl rfl) (wm 428 rfl rfl) (wmS 6 rfl rfl) (wm 3 rfl rfl) (wm 429 rfl rfl) (by decide +kernel)
set_option maxRecDepth 100000 in
theorem kc_L_58 : KV RL 58 RX9 yX9_breadth cX9_breadth 4 (some .long) 2 := KV.mk (wm 430 rfl rfl) (wm 431 rfl rfl) (wm 432 rfl rfl) (wm 1 rfl rfl) (wm 433 rfl rfl) (by decide +kernel)
set_option maxRecDepth 100000 in
theorem kc_X9_167 : KV RX9 167 RX9 yX9_findingOfSight cX9_findingOfSight 3 (some .int) 2 := KV.mk (wm 434 rfl rfl) (wm 436 rfl rfl) (wmS 7 rfl rfl) (wm 1 rfl rfl) (wm 437 rfl rfl) (by decide +kernel)
set_option maxRecDepth 100000 in
theorem kc_X9_170 : KV RX9 170 RX9 yX9_lookFrom cX9_lookFrom 2 none 1 := KV.mk (wm 438 rfl rfl) (wm 440 rfl rfl) (wmS 8 rfl rfl) (wm 1 rfl rfl) (wm 441 rfl rfl) (by decide +kernel)
set_option maxRecDepth 100000 in
theorem kc_X9_278 : KV RX9 278 RX0 yX0_lookAsTurned cX0_lookAsTurned 4 none 2 := KV.mk (wm 442 rfl rfl) (wm 443 rfl rfl) (wm 444 rfl rfl) (wm 2 rfl rfl) (wm 445 rfl rfl) (by decide +kernel)
set_option maxRecDepth 100000 in
theorem kc_X9_178 : KV RX9 178 RX2 yX2_stretch cX2_stretch 2 (some .long) 1 := KV.mk (wm 446 rfl rfl) (wm 447 rfl rfl) (wm 448 rfl rfl) (wm 3 rfl rfl) (wm 449 rfl rfl) (by decide +kernel)
set_option maxRecDepth 100000 in
theorem kc_L_63 : KV RL 63 RX9 yX9_shade cX9_shade 4 (some .long) 2 := KV.mk (wm 450 rfl rfl) (wm 451 rfl rfl) (wm 452 rfl rfl) (wm 1 rfl rfl) (wm 453 rfl rfl) (by decide +kernel)
set_option maxRecDepth 100000 in
theorem kc_X9_184 : KV RX9 184 RX9 yX9_findingOfShade cX9_findingOfShade 4 (some .int) 2 := KV.mk (wm 454 rfl rfl) (wm 456 rfl rfl) (wmS 9 rfl rfl) (wm 1 rfl rfl) (wm 457 rfl rfl) (by decide +kernel)
set_option maxRecDepth 100000 in
theorem kc_X9_275 : KV RX9 275 RX2 yX2_isLit cX2_isLit 2 (some .boolean) 1 := KV.mk (wm 458 rfl rfl) (wm 401 rfl rfl) (wm 402 rfl rfl) (wm 3 rfl rfl) (wm 403 rfl rfl) (by decide +kernel)
set_option maxRecDepth 100000 in
theorem kc_X9_187 : KV RX9 187 RX0 yX0_castShade cX0_castShade 2 none 1 := KV.mk (wm 459 rfl rfl) (wm 460 rfl rfl) (wm 461 rfl rfl) (wm 2 rfl rfl) (wm 462 rfl rfl) (by decide +kernel)
set_option maxRecDepth 100000 in
theorem kc_X0_87 : KV RX0 87 RX2 yX2_cast cX2_cast 5 none 3 := KV.mk (wm 463 rfl rfl) (wm 464 rfl rfl) (wm 465 rfl rfl) (wm 3 rfl rfl) (wm 466 rfl rfl) (by decide +kernel)
set_option maxRecDepth 100000 in
theorem kc_X2_61 : KV RX2 61 RX2 yX2_addPiece cX2_addPiece 6 none 2 := KV.mk (wm 467 rfl rfl) (wm 469 rfl rfl) (wmS 10 rfl rfl) (wm 3 rfl rfl) (wm 470 rfl rfl) (by decide +kernel)
set_option maxRecDepth 100000 in
theorem kc_X9_190 : KV RX9 190 RX2 yX2_shaded cX2_shaded 8 (some .long) 0 := KV.mk (wm 471 rfl rfl) (wm 472 rfl rfl) (wm 473 rfl rfl) (wm 3 rfl rfl) (wm 474 rfl rfl) (by decide +kernel)
set_option maxRecDepth 100000 in
theorem kc_L_67 : KV RL 67 RX9 yX9_dark cX9_dark 4 (some .int) 2 := KV.mk (wm 475 rfl rfl) (wm 476 rfl rfl) (wm 477 rfl rfl) (wm 1 rfl rfl) (wm 478 rfl rfl) (by decide +kernel)
set_option maxRecDepth 100000 in
theorem kc_X9_194 : KV RX9 194 RX2 yX2_darkGroups cX2_darkGroups 11 (some .int) 1 := KV.mk (wm 479 rfl rfl) (wm 480 rfl rfl) (wm 481 rfl rfl) (wm 3 rfl rfl) (wm 482 rfl rfl) (by decide +kernel)
set_option maxRecDepth 100000 in
theorem kc_L_71 : KV RL 71 RX9 yX9_string cX9_string 5 (some .int) 2 := KV.mk (wm 484 rfl rfl) (wm 485 rfl rfl) (wm 486 rfl rfl) (wm 1 rfl rfl) (wm 487 rfl rfl) (by decide +kernel)
set_option maxRecDepth 100000 in
theorem kc_L_75 : KV RL 75 RX9 yX9_ceiling cX9_ceiling 4 (some .int) 2 := KV.mk (wm 488 rfl rfl) (wm 489 rfl rfl) (wm 490 rfl rfl) (wm 1 rfl rfl) (wm 491 rfl rfl) (by decide +kernel)
set_option maxRecDepth 100000 in
theorem kc_X9_197 : KS RX9 197 yX9_isString cX9_isString 1 (some .boolean) 1 := KS.mk (wm 492 rfl rfl) (wm 493 rfl rfl) (wm 1 rfl rfl) (wm 494 rfl rfl) (by decide +kernel)
set_option maxRecDepth 100000 in
theorem kc_L_79 : KV RL 79 RX9 yX9_current cX9_current 4 (some .int) 2 := KV.mk (wm 496 rfl rfl) (wm 497 rfl rfl) (wm 498 rfl rfl) (wm 1 rfl rfl) (wm 499 rfl rfl) (by decide +kernel)
set_option maxRecDepth 100000 in
theorem kc_X9_204 : KV RX9 204 RX0 yX0_weigh cX0_weigh 3 none 1 := KV.mk (wm 500 rfl rfl) (wm 501 rfl rfl) (wm 502 rfl rfl) (wm 2 rfl rfl) (wm 503 rfl rfl) (by decide +kernel)
set_option maxRecDepth 100000 in
theorem kc_X0_95 : KV RX0 95 RX0 yX0_castShade cX0_castShade 2 none 1 := KV.mk (wm 504 rfl rfl) (wm 460 rfl rfl) (wm 461 rfl rfl) (wm 2 rfl rfl) (wm 462 rfl rfl) (by decide +kernel)
set_option maxRecDepth 100000 in
theorem kc_X0_98 : KV RX0 98 RX2 yX2_darkGroups cX2_darkGroups 11 (some .int) 1 := KV.mk (wm 505 rfl rfl) (wm 480 rfl rfl) (wm 481 rfl rfl) (wm 3 rfl rfl) (wm 482 rfl rfl) (by decide +kernel)
set_option maxRecDepth 100000 in
theorem kc_X0_101 : KS RX0 101 yJ6_bitCount_0f7a4 cJ6_bitCount_0f7a4 1 (some .int) 1 := KS.mk (wm 506 rfl rfl) (wm 507 rfl rfl) (wm 13 rfl rfl) (wm 508 rfl rfl) (by decide +kernel)
set_option maxRecDepth 100000 in
theorem kc_X0_106 : KV RX0 106 RX2 yX2_stretch cX2_stretch 2 (some .long) 1 := KV.mk (wm 512 rfl rfl) (wm 447 rfl rfl) (wm 448 rfl rfl) (wm 3 rfl rfl) (wm 449 rfl rfl) (by decide +kernel)
set_option maxRecDepth 100000 in
theorem kc_L_83 : KV RL 83 RX9 yX9_gives cX9_gives 3 (some .int) 2 := KV.mk (wm 515 rfl rfl) (wm 516 rfl rfl) (wm 517 rfl rfl) (wm 1 rfl rfl) (wm 518 rfl rfl) (by decide +kernel)
set_option maxRecDepth 100000 in
theorem kc_X9_210 : KV RX9 210 RX0 yX0_weighAll cX0_weighAll 2 none 0 := KV.mk (wm 519 rfl rfl) (wm 520 rfl rfl) (wm 521 rfl rfl) (wm 2 rfl rfl) (wm 522 rfl rfl) (by decide +kernel)
set_option maxRecDepth 100000 in
theorem kc_X0_91 : KV RX0 91 RX0 yX0_weigh cX0_weigh 3 none 1 := KV.mk (wm 523 rfl rfl) (wm 501 rfl rfl) (wm 502 rfl rfl) (wm 2 rfl rfl) (wm 503 rfl rfl) (by decide +kernel)
set_option maxRecDepth 100000 in
theorem kc_X9_213 : KV RX9 213 RX5 yX5_rank cX5_rank 4 none 2 := KV.mk (wm 524 rfl rfl) (wm 525 rfl rfl) (wm 526 rfl rfl) (wm 6 rfl rfl) (wm 527 rfl rfl) (by decide +kernel)
set_option maxRecDepth 100000 in
theorem kc_X5_40 : KV RX5 40 RX5 yX5_insert cX5_insert 3 none 1 := KV.mk (wm 528 rfl rfl) (wm 530 rfl rfl) (wmS 11 rfl rfl) (wm 6 rfl rfl) (wm 531 rfl rfl) (by decide +kernel)
set_option maxRecDepth 100000 in
theorem kc_X9_217 : KV RX9 217 RX5 yX5_best cX5_best 3 (some .int) 0 := KV.mk (wm 532 rfl rfl) (wm 533 rfl rfl) (wm 534 rfl rfl) (wm 6 rfl rfl) (wm 535 rfl rfl) (by decide +kernel)
set_option maxRecDepth 100000 in
theorem ml_X5_44 : Cond.methodLink RX5 44 Lib.Math.max.name ∈ wsG := wm 536 rfl rfl
set_option maxRecDepth 100000 in
theorem kc_L_87 : KV RL 87 RX9 yX9_wind cX9_wind 3 (some .int) 2 := KV.mk (wm 539 rfl rfl) (wm 540 rfl rfl) (wm 541 rfl rfl) (wm 1 rfl rfl) (wm 542 rfl rfl) (by decide +kernel)
set_option maxRecDepth 100000 in
theorem kc_L_91 : KV RL 91 RX9 yX9_limit cX9_limit 3 (some .int) 1 := KV.mk (wm 543 rfl rfl) (wm 544 rfl rfl) (wm 545 rfl rfl) (wm 1 rfl rfl) (wm 546 rfl rfl) (by decide +kernel)
set_option maxRecDepth 100000 in
theorem kc_L_95 : KV RL 95 RX9 yX9_cleaning cX9_cleaning 4 (some .int) 2 := KV.mk (wm 547 rfl rfl) (wm 548 rfl rfl) (wm 549 rfl rfl) (wm 1 rfl rfl) (wm 550 rfl rfl) (by decide +kernel)
set_option maxRecDepth 100000 in
theorem kc_L_100 : KV RL 100 RX9 yX9_hour cX9_hour 1 (some .int) 0 := KV.mk (wm 551 rfl rfl) (wm 552 rfl rfl) (wm 553 rfl rfl) (wm 1 rfl rfl) (wm 554 rfl rfl) (by decide +kernel)
set_option maxRecDepth 100000 in
theorem kc_X9_231 : KV RX9 231 RX9 yX9_passHour cX9_passHour 5 none 0 := KV.mk (wm 555 rfl rfl) (wm 557 rfl rfl) (wmS 12 rfl rfl) (wm 1 rfl rfl) (wm 558 rfl rfl) (by decide +kernel)
set_option maxRecDepth 100000 in
theorem kc_X9_282 : KV RX9 282 RX8 yX8_stateAt cX8_stateAt 3 (some .int) 1 := KV.mk (wm 559 rfl rfl) (wm 560 rfl rfl) (wm 561 rfl rfl) (wm 7 rfl rfl) (wm 562 rfl rfl) (by decide +kernel)
set_option maxRecDepth 100000 in
theorem ml_X8_30 : Cond.methodLink RX8 30 Lib.Math.min.name ∈ wsG := wm 563 rfl rfl
set_option maxRecDepth 100000 in
theorem kc_X9_285 : KV RX9 285 RX9 yX9_targetStep cX9_targetStep 4 (some .int) 2 := KV.mk (wm 566 rfl rfl) (wm 568 rfl rfl) (wmS 13 rfl rfl) (wm 1 rfl rfl) (wm 569 rfl rfl) (by decide +kernel)
set_option maxRecDepth 100000 in
theorem kc_X9_288 : KV RX9 288 RX0 yX0_turnTo cX0_turnTo 5 none 2 := KV.mk (wm 570 rfl rfl) (wm 571 rfl rfl) (wm 572 rfl rfl) (wm 2 rfl rfl) (wm 573 rfl rfl) (by decide +kernel)
set_option maxRecDepth 100000 in
theorem kc_X9_291 : KV RX9 291 RX1 yX1_begin cX1_begin 4 none 2 := KV.mk (wm 574 rfl rfl) (wm 575 rfl rfl) (wm 576 rfl rfl) (wm 8 rfl rfl) (wm 577 rfl rfl) (by decide +kernel)
set_option maxRecDepth 100000 in
theorem kc_X9_293 : KV RX9 293 RX5 yX5_bookInto cX5_bookInto 6 none 2 := KV.mk (wm 578 rfl rfl) (wm 579 rfl rfl) (wm 580 rfl rfl) (wm 6 rfl rfl) (wm 581 rfl rfl) (by decide +kernel)
set_option maxRecDepth 100000 in
theorem kc_X5_54 : KV RX5 54 RX2 yX2_isLit cX2_isLit 2 (some .boolean) 1 := KV.mk (wm 582 rfl rfl) (wm 401 rfl rfl) (wm 402 rfl rfl) (wm 3 rfl rfl) (wm 403 rfl rfl) (by decide +kernel)
set_option maxRecDepth 100000 in
theorem kc_X5_62 : KV RX5 62 RX2 yX2_stretch cX2_stretch 2 (some .long) 1 := KV.mk (wm 584 rfl rfl) (wm 447 rfl rfl) (wm 448 rfl rfl) (wm 3 rfl rfl) (wm 449 rfl rfl) (by decide +kernel)
set_option maxRecDepth 100000 in
theorem kc_X5_80 : KV RX5 80 RX5 yX5_rank cX5_rank 4 none 2 := KV.mk (wm 586 rfl rfl) (wm 525 rfl rfl) (wm 526 rfl rfl) (wm 6 rfl rfl) (wm 527 rfl rfl) (by decide +kernel)
set_option maxRecDepth 100000 in
theorem kc_X5_84 : KV RX5 84 RX5 yX5_best cX5_best 3 (some .int) 0 := KV.mk (wm 587 rfl rfl) (wm 533 rfl rfl) (wm 534 rfl rfl) (wm 6 rfl rfl) (wm 535 rfl rfl) (by decide +kernel)
set_option maxRecDepth 100000 in
theorem ml_X5_88 : Cond.methodLink RX5 88 Lib.Math.min.name ∈ wsG := wm 588 rfl rfl
set_option maxRecDepth 100000 in
theorem kc_X5_91 : KV RX5 91 RX5 yX5_sumOfRanked cX5_sumOfRanked 3 (some .int) 0 := KV.mk (wm 589 rfl rfl) (wm 591 rfl rfl) (wmS 14 rfl rfl) (wm 6 rfl rfl) (wm 592 rfl rfl) (by decide +kernel)
set_option maxRecDepth 100000 in
theorem kc_X9_297 : KV RX9 297 RX1 yX1_addToSums cX1_addToSums 2 none 0 := KV.mk (wm 593 rfl rfl) (wm 594 rfl rfl) (wm 595 rfl rfl) (wm 8 rfl rfl) (wm 596 rfl rfl) (by decide +kernel)
set_option maxRecDepth 100000 in
theorem kc_X9_300 : KV RX9 300 RX0 yX0_washAll cX0_washAll 2 none 0 := KV.mk (wm 597 rfl rfl) (wm 598 rfl rfl) (wm 599 rfl rfl) (wm 2 rfl rfl) (wm 600 rfl rfl) (by decide +kernel)
set_option maxRecDepth 100000 in
theorem kc_X0_117 : KV RX0 117 RX3 yX3_loseDust cX3_loseDust 2 (some .boolean) 0 := KV.mk (wm 601 rfl rfl) (wm 602 rfl rfl) (wm 603 rfl rfl) (wm 4 rfl rfl) (wm 604 rfl rfl) (by decide +kernel)
set_option maxRecDepth 100000 in
theorem kc_L_104 : KV RL 104 RX9 yX9_hours cX9_hours 5 (some .long) 1 := KV.mk (wm 605 rfl rfl) (wm 606 rfl rfl) (wm 607 rfl rfl) (wm 1 rfl rfl) (wm 608 rfl rfl) (by decide +kernel)
set_option maxRecDepth 100000 in
theorem kc_L_109 : KV RL 109 RX9 yX9_book cX9_book 2 (some .long) 1 := KV.mk (wm 609 rfl rfl) (wm 610 rfl rfl) (wm 611 rfl rfl) (wm 1 rfl rfl) (wm 612 rfl rfl) (by decide +kernel)
set_option maxRecDepth 100000 in
theorem kc_L_113 : KV RL 113 RX9 yX9_all cX9_all 2 (some .long) 1 := KV.mk (wm 613 rfl rfl) (wm 614 rfl rfl) (wm 615 rfl rfl) (wm 1 rfl rfl) (wm 616 rfl rfl) (by decide +kernel)
set_option maxRecDepth 100000 in
theorem kc_L_117 : KV RL 117 RX9 yX9_next cX9_next 1 (some .int) 0 := KV.mk (wm 617 rfl rfl) (wm 618 rfl rfl) (wm 619 rfl rfl) (wm 1 rfl rfl) (wm 620 rfl rfl) (by decide +kernel)
set_option maxRecDepth 100000 in
theorem kc_L_121 : KV RL 121 RX9 yX9_plan cX9_plan 3 (some .int) 2 := KV.mk (wm 621 rfl rfl) (wm 622 rfl rfl) (wm 623 rfl rfl) (wm 1 rfl rfl) (wm 624 rfl rfl) (by decide +kernel)
set_option maxRecDepth 100000 in
theorem kc_X9_251 : KS RX9 251 yX9_isWashPlan cX9_isWashPlan 2 (some .boolean) 2 := KS.mk (wm 625 rfl rfl) (wm 626 rfl rfl) (wm 1 rfl rfl) (wm 627 rfl rfl) (by decide +kernel)
set_option maxRecDepth 100000 in
theorem kc_X9_255 : KV RX9 255 RX7 yX7_choose cX7_choose 13 none 3 := KV.mk (wm 628 rfl rfl) (wm 629 rfl rfl) (wm 630 rfl rfl) (wm 9 rfl rfl) (wm 631 rfl rfl) (by decide +kernel)
set_option maxRecDepth 100000 in
theorem kc_X7_26 : KS RX7 26 yX7_gain cX7_gain 3 (some .long) 3 := KS.mk (wm 632 rfl rfl) (wm 633 rfl rfl) (wm 9 rfl rfl) (wm 634 rfl rfl) (by decide +kernel)
set_option maxRecDepth 100000 in
theorem kc_X7_32 : KV RX7 32 RX7 yX7_take cX7_take 4 none 2 := KV.mk (wm 636 rfl rfl) (wm 638 rfl rfl) (wmS 15 rfl rfl) (wm 9 rfl rfl) (wm 639 rfl rfl) (by decide +kernel)
set_option maxRecDepth 100000 in
theorem kc_L_125 : KV RL 125 RX9 yX9_worth cX9_worth 3 (some .long) 2 := KV.mk (wm 640 rfl rfl) (wm 641 rfl rfl) (wm 642 rfl rfl) (wm 1 rfl rfl) (wm 643 rfl rfl) (by decide +kernel)
set_option maxRecDepth 100000 in
theorem kc_L_129 : KV RL 129 RX9 yX9_wash cX9_wash 2 (some .int) 1 := KV.mk (wm 644 rfl rfl) (wm 645 rfl rfl) (wm 646 rfl rfl) (wm 1 rfl rfl) (wm 647 rfl rfl) (by decide +kernel)
set_option maxRecDepth 100000 in
theorem kc_X9_266 : KV RX9 266 RX0 yX0_washRows cX0_washRows 4 (some .int) 1 := KV.mk (wm 648 rfl rfl) (wm 649 rfl rfl) (wm 650 rfl rfl) (wm 2 rfl rfl) (wm 651 rfl rfl) (by decide +kernel)
set_option maxRecDepth 100000 in
theorem kc_L_133 : KV RL 133 RX9 yX9_storm cX9_storm 2 (some .int) 1 := KV.mk (wm 652 rfl rfl) (wm 653 rfl rfl) (wm 654 rfl rfl) (wm 1 rfl rfl) (wm 655 rfl rfl) (by decide +kernel)
set_option maxRecDepth 100000 in
theorem kc_X9_269 : KV RX9 269 RX0 yX0_addDust cX0_addDust 4 (some .int) 1 := KV.mk (wm 656 rfl rfl) (wm 657 rfl rfl) (wm 658 rfl rfl) (wm 2 rfl rfl) (wm 659 rfl rfl) (by decide +kernel)
set_option maxRecDepth 100000 in
theorem ml_X0_121 : Cond.methodLink RX0 121 Lib.Math.min.name ∈ wsG := wm 660 rfl rfl
set_option maxRecDepth 100000 in
theorem kc_L_137 : KV RL 137 RX9 yX9_tell cX9_tell 2 (some .int) 1 := KV.mk (wm 661 rfl rfl) (wm 662 rfl rfl) (wm 663 rfl rfl) (wm 1 rfl rfl) (wm 664 rfl rfl) (by decide +kernel)
set_option maxRecDepth 100000 in
theorem kc_X9_272 : KV RX9 272 RX6 yX6_append cX6_append 2 none 1 := KV.mk (wm 665 rfl rfl) (wm 666 rfl rfl) (wm 667 rfl rfl) (wm 10 rfl rfl) (wm 668 rfl rfl) (by decide +kernel)
set_option maxRecDepth 100000 in
theorem kc_L_141 : KV RL 141 RX9 yX9_check cX9_check 3 (some .int) 0 := KV.mk (wm 669 rfl rfl) (wm 670 rfl rfl) (wm 671 rfl rfl) (wm 1 rfl rfl) (wm 672 rfl rfl) (by decide +kernel)
set_option maxRecDepth 100000 in
theorem kc_L_145 : KV RL 145 RX9 yX9_found cX9_found 2 (some .int) 1 := KV.mk (wm 673 rfl rfl) (wm 674 rfl rfl) (wm 675 rfl rfl) (wm 1 rfl rfl) (wm 676 rfl rfl) (by decide +kernel)
set_option maxRecDepth 100000 in
theorem kc_L_17 : KV RL 17 RX10 yX10_row cX10_row 6 (some .int) 5 := KV.mk (wm 769 rfl rfl) (wm 770 rfl rfl) (wm 771 rfl rfl) (wm 11 rfl rfl) (wm 772 rfl rfl) (by decide +kernel)
set_option maxRecDepth 100000 in
theorem kc_X10_75 : KS RX10 75 yX10_in cX10_in 3 (some .boolean) 3 := KS.mk (wm 773 rfl rfl) (wm 774 rfl rfl) (wm 11 rfl rfl) (wm 775 rfl rfl) (by decide +kernel)
set_option maxRecDepth 100000 in
theorem kc_X10_115 : KS RX10 115 yX10_isStep cX10_isStep 1 (some .boolean) 1 := KS.mk (wm 776 rfl rfl) (wm 777 rfl rfl) (wm 11 rfl rfl) (wm 778 rfl rfl) (by decide +kernel)
set_option maxRecDepth 100000 in
theorem kc_X10_120 : KV RX10 120 RX10 yX10_finding cX10_finding 2 (some .int) 1 := KV.mk (wm 780 rfl rfl) (wm 782 rfl rfl) (wmS 16 rfl rfl) (wm 11 rfl rfl) (wm 783 rfl rfl) (by decide +kernel)
set_option maxRecDepth 100000 in
theorem kc_L_22 : KV RL 22 RX10 yX10_drop cX10_drop 1 (some .int) 0 := KV.mk (wm 787 rfl rfl) (wm 788 rfl rfl) (wm 789 rfl rfl) (wm 11 rfl rfl) (wm 790 rfl rfl) (by decide +kernel)
set_option maxRecDepth 100000 in
theorem kc_L_27 : KV RL 27 RX10 yX10_about cX10_about 3 (some .int) 2 := KV.mk (wm 792 rfl rfl) (wm 793 rfl rfl) (wm 794 rfl rfl) (wm 11 rfl rfl) (wm 795 rfl rfl) (by decide +kernel)
set_option maxRecDepth 100000 in
theorem kc_X10_127 : KV RX10 127 RX10 yX10_isRow cX10_isRow 2 (some .boolean) 1 := KV.mk (wm 796 rfl rfl) (wm 798 rfl rfl) (wmS 17 rfl rfl) (wm 11 rfl rfl) (wm 799 rfl rfl) (by decide +kernel)
set_option maxRecDepth 100000 in
theorem kc_L_31 : KV RL 31 RX10 yX10_as cX10_as 3 (some .int) 2 := KV.mk (wm 800 rfl rfl) (wm 801 rfl rfl) (wm 802 rfl rfl) (wm 11 rfl rfl) (wm 803 rfl rfl) (by decide +kernel)
set_option maxRecDepth 100000 in
theorem kc_L_35 : KV RL 35 RX10 yX10_turn cX10_turn 4 (some .int) 2 := KV.mk (wm 805 rfl rfl) (wm 806 rfl rfl) (wm 807 rfl rfl) (wm 11 rfl rfl) (wm 808 rfl rfl) (by decide +kernel)
set_option maxRecDepth 100000 in
theorem kc_L_39 : KV RL 39 RX10 yX10_dust cX10_dust 4 (some .int) 2 := KV.mk (wm 809 rfl rfl) (wm 810 rfl rfl) (wm 811 rfl rfl) (wm 11 rfl rfl) (wm 812 rfl rfl) (by decide +kernel)
set_option maxRecDepth 100000 in
theorem kc_L_44 : KV RL 44 RX10 yX10_sun cX10_sun 4 (some .int) 3 := KV.mk (wm 813 rfl rfl) (wm 814 rfl rfl) (wm 815 rfl rfl) (wm 11 rfl rfl) (wm 816 rfl rfl) (by decide +kernel)
set_option maxRecDepth 100000 in
theorem kc_X10_134 : KS RX10 134 yX10_isSun cX10_isSun 3 (some .boolean) 3 := KS.mk (wm 817 rfl rfl) (wm 818 rfl rfl) (wm 11 rfl rfl) (wm 819 rfl rfl) (by decide +kernel)
set_option maxRecDepth 100000 in
theorem kc_X10_131 : KS RX10 131 yX10_isHour cX10_isHour 1 (some .boolean) 1 := KS.mk (wm 820 rfl rfl) (wm 821 rfl rfl) (wm 11 rfl rfl) (wm 822 rfl rfl) (by decide +kernel)
set_option maxRecDepth 100000 in
theorem kc_X10_137 : KV RX10 137 RX10 yX10_setSun cX10_setSun 4 none 3 := KV.mk (wm 823 rfl rfl) (wm 825 rfl rfl) (wmS 18 rfl rfl) (wm 11 rfl rfl) (wm 826 rfl rfl) (by decide +kernel)
set_option maxRecDepth 100000 in
theorem kc_L_48 : KV RL 48 RX10 yX10_suns cX10_suns 3 (some .int) 0 := KV.mk (wm 827 rfl rfl) (wm 828 rfl rfl) (wm 829 rfl rfl) (wm 11 rfl rfl) (wm 830 rfl rfl) (by decide +kernel)
set_option maxRecDepth 100000 in
theorem kc_L_53 : KV RL 53 RX10 yX10_ideal cX10_ideal 2 (some .int) 1 := KV.mk (wm 831 rfl rfl) (wm 832 rfl rfl) (wm 833 rfl rfl) (wm 11 rfl rfl) (wm 834 rfl rfl) (by decide +kernel)
set_option maxRecDepth 100000 in
theorem kc_X10_185 : KV RX10 185 RX10 yX10_isNight cX10_isNight 2 (some .boolean) 1 := KV.mk (wm 835 rfl rfl) (wm 837 rfl rfl) (wmS 19 rfl rfl) (wm 11 rfl rfl) (wm 838 rfl rfl) (by decide +kernel)
set_option maxRecDepth 100000 in
theorem kc_X10_178 : KV RX10 178 RX10 yX10_idealOf cX10_idealOf 10 (some .int) 1 := KV.mk (wm 839 rfl rfl) (wm 841 rfl rfl) (wmS 20 rfl rfl) (wm 11 rfl rfl) (wm 842 rfl rfl) (by decide +kernel)
set_option maxRecDepth 100000 in
theorem kc_X10_151 : KS RX10 151 yX10_cosine cX10_cosine 1 (some .long) 1 := KS.mk (wm 843 rfl rfl) (wm 844 rfl rfl) (wm 11 rfl rfl) (wm 845 rfl rfl) (by decide +kernel)
set_option maxRecDepth 100000 in
theorem kc_X10_155 : KS RX10 155 yX10_sine cX10_sine 3 (some .long) 1 := KS.mk (wm 859 rfl rfl) (wm 860 rfl rfl) (wm 11 rfl rfl) (wm 861 rfl rfl) (by decide +kernel)
set_option maxRecDepth 100000 in
theorem kc_L_57 : KV RL 57 RX10 yX10_back cX10_back 3 (some .int) 1 := KV.mk (wm 867 rfl rfl) (wm 868 rfl rfl) (wm 869 rfl rfl) (wm 11 rfl rfl) (wm 870 rfl rfl) (by decide +kernel)
set_option maxRecDepth 100000 in
theorem kc_X10_188 : KV RX10 188 RX10 yX10_backOf cX10_backOf 4 (some .int) 1 := KV.mk (wm 871 rfl rfl) (wm 873 rfl rfl) (wmS 21 rfl rfl) (wm 11 rfl rfl) (wm 874 rfl rfl) (by decide +kernel)
set_option maxRecDepth 100000 in
theorem kc_X10_181 : KV RX10 181 RX10 yX10_isClear cX10_isClear 5 (some .boolean) 2 := KV.mk (wm 875 rfl rfl) (wm 877 rfl rfl) (wmS 22 rfl rfl) (wm 11 rfl rfl) (wm 878 rfl rfl) (by decide +kernel)
set_option maxRecDepth 100000 in
theorem kc_X10_171 : KV RX10 171 RX10 yX10_breadthOf cX10_breadthOf 3 (some .long) 2 := KV.mk (wm 879 rfl rfl) (wm 881 rfl rfl) (wmS 23 rfl rfl) (wm 11 rfl rfl) (wm 882 rfl rfl) (by decide +kernel)
set_option maxRecDepth 100000 in
theorem kc_X10_158 : KV RX10 158 RX10 yX10_look cX10_look 11 (some .long) 3 := KV.mk (wm 883 rfl rfl) (wm 885 rfl rfl) (wmS 24 rfl rfl) (wm 11 rfl rfl) (wm 886 rfl rfl) (by decide +kernel)
set_option maxRecDepth 100000 in
theorem kc_X10_144 : KV RX10 144 RX10 yX10_stepAt cX10_stepAt 2 (some .int) 1 := KV.mk (wm 887 rfl rfl) (wm 889 rfl rfl) (wmS 25 rfl rfl) (wm 11 rfl rfl) (wm 890 rfl rfl) (by decide +kernel)
set_option maxRecDepth 100000 in
theorem kc_X10_175 : KV RX10 175 RX10 yX10_shadeOf cX10_shadeOf 3 (some .long) 2 := KV.mk (wm 893 rfl rfl) (wm 895 rfl rfl) (wmS 26 rfl rfl) (wm 11 rfl rfl) (wm 896 rfl rfl) (by decide +kernel)
set_option maxRecDepth 100000 in
theorem kc_X10_167 : KV RX10 167 RX10 yX10_shaded cX10_shaded 24 (some .long) 4 := KV.mk (wm 898 rfl rfl) (wm 900 rfl rfl) (wmS 27 rfl rfl) (wm 11 rfl rfl) (wm 901 rfl rfl) (by decide +kernel)
set_option maxRecDepth 100000 in
theorem kc_X10_162 : KV RX10 162 RX10 yX10_isAhead cX10_isAhead 4 (some .boolean) 3 := KV.mk (wm 902 rfl rfl) (wm 904 rfl rfl) (wmS 28 rfl rfl) (wm 11 rfl rfl) (wm 905 rfl rfl) (by decide +kernel)
set_option maxRecDepth 100000 in
theorem kc_L_62 : KV RL 62 RX10 yX10_breadth cX10_breadth 4 (some .long) 2 := KV.mk (wm 906 rfl rfl) (wm 907 rfl rfl) (wm 908 rfl rfl) (wm 11 rfl rfl) (wm 909 rfl rfl) (by decide +kernel)
set_option maxRecDepth 100000 in
theorem kc_X10_191 : KV RX10 191 RX10 yX10_unseen cX10_unseen 3 (some .int) 2 := KV.mk (wm 910 rfl rfl) (wm 912 rfl rfl) (wmS 29 rfl rfl) (wm 11 rfl rfl) (wm 913 rfl rfl) (by decide +kernel)
set_option maxRecDepth 100000 in
theorem kc_L_66 : KV RL 66 RX10 yX10_shade cX10_shade 4 (some .long) 2 := KV.mk (wm 914 rfl rfl) (wm 915 rfl rfl) (wm 916 rfl rfl) (wm 11 rfl rfl) (wm 917 rfl rfl) (by decide +kernel)
set_option maxRecDepth 100000 in
theorem kc_X10_195 : KV RX10 195 RX10 yX10_unlit cX10_unlit 4 (some .int) 2 := KV.mk (wm 918 rfl rfl) (wm 920 rfl rfl) (wmS 30 rfl rfl) (wm 11 rfl rfl) (wm 921 rfl rfl) (by decide +kernel)
set_option maxRecDepth 100000 in
theorem kc_L_70 : KV RL 70 RX10 yX10_dark cX10_dark 4 (some .int) 2 := KV.mk (wm 922 rfl rfl) (wm 923 rfl rfl) (wm 924 rfl rfl) (wm 11 rfl rfl) (wm 925 rfl rfl) (by decide +kernel)
set_option maxRecDepth 100000 in
theorem kc_X10_198 : KV RX10 198 RX10 yX10_darkOf cX10_darkOf 9 (some .int) 2 := KV.mk (wm 926 rfl rfl) (wm 928 rfl rfl) (wmS 31 rfl rfl) (wm 11 rfl rfl) (wm 929 rfl rfl) (by decide +kernel)
set_option maxRecDepth 100000 in
theorem kc_L_74 : KV RL 74 RX10 yX10_string cX10_string 4 (some .int) 2 := KV.mk (wm 930 rfl rfl) (wm 931 rfl rfl) (wm 932 rfl rfl) (wm 11 rfl rfl) (wm 933 rfl rfl) (by decide +kernel)
set_option maxRecDepth 100000 in
theorem kc_X10_201 : KS RX10 201 yX10_isString cX10_isString 1 (some .boolean) 1 := KS.mk (wm 934 rfl rfl) (wm 935 rfl rfl) (wm 11 rfl rfl) (wm 936 rfl rfl) (by decide +kernel)
set_option maxRecDepth 100000 in
theorem kc_L_78 : KV RL 78 RX10 yX10_ceiling cX10_ceiling 4 (some .int) 2 := KV.mk (wm 937 rfl rfl) (wm 938 rfl rfl) (wm 939 rfl rfl) (wm 11 rfl rfl) (wm 940 rfl rfl) (by decide +kernel)
set_option maxRecDepth 100000 in
theorem kc_L_82 : KV RL 82 RX10 yX10_current cX10_current 4 (some .int) 2 := KV.mk (wm 941 rfl rfl) (wm 942 rfl rfl) (wm 943 rfl rfl) (wm 11 rfl rfl) (wm 944 rfl rfl) (by decide +kernel)
set_option maxRecDepth 100000 in
theorem kc_X10_214 : KV RX10 214 RX10 yX10_currentOf cX10_currentOf 3 (some .long) 2 := KV.mk (wm 945 rfl rfl) (wm 947 rfl rfl) (wmS 32 rfl rfl) (wm 11 rfl rfl) (wm 948 rfl rfl) (by decide +kernel)
set_option maxRecDepth 100000 in
theorem kc_X10_206 : KV RX10 206 RX10 yX10_clean cX10_clean 7 (some .long) 2 := KV.mk (wm 949 rfl rfl) (wm 951 rfl rfl) (wmS 33 rfl rfl) (wm 11 rfl rfl) (wm 952 rfl rfl) (by decide +kernel)
set_option maxRecDepth 100000 in
theorem kc_X10_211 : KV RX10 211 RX10 yX10_dusted cX10_dusted 3 (some .long) 2 := KV.mk (wm 954 rfl rfl) (wm 956 rfl rfl) (wmS 34 rfl rfl) (wm 11 rfl rfl) (wm 957 rfl rfl) (by decide +kernel)
set_option maxRecDepth 100000 in
theorem kc_L_86 : KV RL 86 RX10 yX10_gives cX10_gives 3 (some .int) 2 := KV.mk (wm 959 rfl rfl) (wm 960 rfl rfl) (wm 961 rfl rfl) (wm 11 rfl rfl) (wm 962 rfl rfl) (by decide +kernel)
set_option maxRecDepth 100000 in
theorem kc_X10_217 : KV RX10 217 RX10 yX10_givesOf cX10_givesOf 8 (some .long) 2 := KV.mk (wm 963 rfl rfl) (wm 965 rfl rfl) (wmS 35 rfl rfl) (wm 11 rfl rfl) (wm 966 rfl rfl) (by decide +kernel)
set_option maxRecDepth 100000 in
theorem kc_L_90 : KV RL 90 RX10 yX10_wind cX10_wind 3 (some .int) 2 := KV.mk (wm 967 rfl rfl) (wm 968 rfl rfl) (wm 969 rfl rfl) (wm 11 rfl rfl) (wm 970 rfl rfl) (by decide +kernel)
set_option maxRecDepth 100000 in
theorem kc_L_94 : KV RL 94 RX10 yX10_limit cX10_limit 3 (some .int) 1 := KV.mk (wm 971 rfl rfl) (wm 972 rfl rfl) (wm 973 rfl rfl) (wm 11 rfl rfl) (wm 974 rfl rfl) (by decide +kernel)
set_option maxRecDepth 100000 in
theorem kc_L_99 : KV RL 99 RX10 yX10_cleaning cX10_cleaning 4 (some .int) 2 := KV.mk (wm 975 rfl rfl) (wm 976 rfl rfl) (wm 977 rfl rfl) (wm 11 rfl rfl) (wm 978 rfl rfl) (by decide +kernel)
set_option maxRecDepth 100000 in
theorem kc_L_103 : KV RL 103 RX10 yX10_hour cX10_hour 3 (some .int) 0 := KV.mk (wm 979 rfl rfl) (wm 980 rfl rfl) (wm 981 rfl rfl) (wm 11 rfl rfl) (wm 982 rfl rfl) (by decide +kernel)
set_option maxRecDepth 100000 in
theorem kc_X10_242 : KV RX10 242 RX10 yX10_findState cX10_findState 4 none 1 := KV.mk (wm 983 rfl rfl) (wm 985 rfl rfl) (wmS 36 rfl rfl) (wm 11 rfl rfl) (wm 986 rfl rfl) (by decide +kernel)
set_option maxRecDepth 100000 in
theorem kc_X10_246 : KV RX10 246 RX10 yX10_setSteps cX10_setSteps 5 none 1 := KV.mk (wm 987 rfl rfl) (wm 989 rfl rfl) (wmS 37 rfl rfl) (wm 11 rfl rfl) (wm 990 rfl rfl) (by decide +kernel)
set_option maxRecDepth 100000 in
theorem kc_X10_226 : KV RX10 226 RX10 yX10_stepFor cX10_stepFor 3 (some .int) 1 := KV.mk (wm 991 rfl rfl) (wm 993 rfl rfl) (wmS 38 rfl rfl) (wm 11 rfl rfl) (wm 994 rfl rfl) (by decide +kernel)
set_option maxRecDepth 100000 in
theorem kc_X10_249 : KV RX10 249 RX10 yX10_writeBook cX10_writeBook 7 none 1 := KV.mk (wm 995 rfl rfl) (wm 997 rfl rfl) (wmS 39 rfl rfl) (wm 11 rfl rfl) (wm 998 rfl rfl) (by decide +kernel)
set_option maxRecDepth 100000 in
theorem kc_L_108 : KV RL 108 RX10 yX10_hours cX10_hours 6 (some .long) 1 := KV.mk (wm 999 rfl rfl) (wm 1000 rfl rfl) (wm 1001 rfl rfl) (wm 11 rfl rfl) (wm 1002 rfl rfl) (by decide +kernel)
set_option maxRecDepth 100000 in
theorem kc_X10_252 : KV RX10 252 RX10 yX10_hour cX10_hour 3 (some .int) 0 := KV.mk (wm 1003 rfl rfl) (wm 980 rfl rfl) (wm 981 rfl rfl) (wm 11 rfl rfl) (wm 982 rfl rfl) (by decide +kernel)
set_option maxRecDepth 100000 in
theorem kc_L_112 : KV RL 112 RX10 yX10_book cX10_book 2 (some .long) 1 := KV.mk (wm 1004 rfl rfl) (wm 1005 rfl rfl) (wm 1006 rfl rfl) (wm 11 rfl rfl) (wm 1007 rfl rfl) (by decide +kernel)
set_option maxRecDepth 100000 in
theorem kc_L_116 : KV RL 116 RX10 yX10_all cX10_all 2 (some .long) 1 := KV.mk (wm 1008 rfl rfl) (wm 1009 rfl rfl) (wm 1010 rfl rfl) (wm 11 rfl rfl) (wm 1011 rfl rfl) (by decide +kernel)
set_option maxRecDepth 100000 in
theorem kc_L_120 : KV RL 120 RX10 yX10_next cX10_next 1 (some .int) 0 := KV.mk (wm 1012 rfl rfl) (wm 1013 rfl rfl) (wm 1014 rfl rfl) (wm 11 rfl rfl) (wm 1015 rfl rfl) (by decide +kernel)
set_option maxRecDepth 100000 in
theorem kc_L_124 : KV RL 124 RX10 yX10_plan cX10_plan 5 (some .int) 2 := KV.mk (wm 1016 rfl rfl) (wm 1017 rfl rfl) (wm 1018 rfl rfl) (wm 11 rfl rfl) (wm 1019 rfl rfl) (by decide +kernel)
set_option maxRecDepth 100000 in
theorem kc_X10_261 : KS RX10 261 yX10_isPlan cX10_isPlan 2 (some .boolean) 2 := KS.mk (wm 1020 rfl rfl) (wm 1021 rfl rfl) (wm 11 rfl rfl) (wm 1022 rfl rfl) (by decide +kernel)
set_option maxRecDepth 100000 in
theorem kc_X10_264 : KV RX10 264 RX10 yX10_bestWorth cX10_bestWorth 11 (some .long) 2 := KV.mk (wm 1023 rfl rfl) (wm 1025 rfl rfl) (wmS 40 rfl rfl) (wm 11 rfl rfl) (wm 1026 rfl rfl) (by decide +kernel)
set_option maxRecDepth 100000 in
theorem kc_L_128 : KV RL 128 RX10 yX10_worth cX10_worth 3 (some .long) 2 := KV.mk (wm 1028 rfl rfl) (wm 1029 rfl rfl) (wm 1030 rfl rfl) (wm 11 rfl rfl) (wm 1031 rfl rfl) (by decide +kernel)
set_option maxRecDepth 100000 in
theorem kc_L_132 : KV RL 132 RX10 yX10_wash cX10_wash 4 (some .int) 1 := KV.mk (wm 1032 rfl rfl) (wm 1033 rfl rfl) (wm 1034 rfl rfl) (wm 11 rfl rfl) (wm 1035 rfl rfl) (by decide +kernel)
set_option maxRecDepth 100000 in
theorem kc_L_136 : KV RL 136 RX10 yX10_storm cX10_storm 4 (some .int) 1 := KV.mk (wm 1036 rfl rfl) (wm 1037 rfl rfl) (wm 1038 rfl rfl) (wm 11 rfl rfl) (wm 1039 rfl rfl) (by decide +kernel)
set_option maxRecDepth 100000 in
theorem kc_L_140 : KV RL 140 RX10 yX10_tell cX10_tell 2 (some .int) 1 := KV.mk (wm 1040 rfl rfl) (wm 1041 rfl rfl) (wm 1042 rfl rfl) (wm 11 rfl rfl) (wm 1043 rfl rfl) (by decide +kernel)
set_option maxRecDepth 100000 in
theorem kc_L_144 : KV RL 144 RX10 yX10_check cX10_check 3 (some .int) 0 := KV.mk (wm 1044 rfl rfl) (wm 1045 rfl rfl) (wm 1046 rfl rfl) (wm 11 rfl rfl) (wm 1047 rfl rfl) (by decide +kernel)
set_option maxRecDepth 100000 in
theorem kc_L_148 : KV RL 148 RX10 yX10_found cX10_found 2 (some .int) 1 := KV.mk (wm 1048 rfl rfl) (wm 1049 rfl rfl) (wm 1050 rfl rfl) (wm 11 rfl rfl) (wm 1051 rfl rfl) (by decide +kernel)
end
section
/-! what keeps indices in their rows -/
def Safe (σ : St) : Prop :=
  (0 ≤ (gI σ 2).toInt ∧ (gI σ 2).toInt ≤ 10) ∧ (∀ i : Nat, i < 10 → -12 ≤ (gA σ 15 i).toInt ∧ (gA σ 15 i).toInt ≤ 12) ∧ (0 ≤ (gI σ 0).toInt ∧ (gI σ 0).toInt ≤ 23) ∧
  (0 ≤ (gI σ 12).toInt ∧ (gI σ 12).toInt ≤ 72) ∧ (0 ≤ (gI σ 13).toInt ∧ (gI σ 13).toInt ≤ 10) ∧ (0 ≤ (gI σ 4).toInt ∧ (gI σ 4).toInt ≤ 10) ∧
  (0 ≤ (gI σ 20).toInt ∧ (gI σ 20).toInt ≤ 10) ∧ (0 ≤ (gI σ 22).toInt ∧ (gI σ 22).toInt ≤ 23) ∧ (0 ≤ (gI σ 28).toInt ∧ (gI σ 28).toInt ≤ 72) ∧ (-12 ≤ (gI σ 1).toInt ∧ (gI σ 1).toInt ≤ 12)
theorem Safe.cnt {σ : St} (h : Safe σ) : 0 ≤ (gI σ 2).toInt ∧ (gI σ 2).toInt ≤ 10 := h.1
theorem Safe.stp {σ : St} (h : Safe σ) : ∀ i : Nat, i < 10 → -12 ≤ (gA σ 15 i).toInt ∧ (gA σ 15 i).toInt ≤ 12 := h.2.1
theorem Safe.nh {σ : St} (h : Safe σ) : 0 ≤ (gI σ 0).toInt ∧ (gI σ 0).toInt ≤ 23 := h.2.2.1
theorem Safe.sz {σ : St} (h : Safe σ) : 0 ≤ (gI σ 12).toInt ∧ (gI σ 12).toInt ≤ 72 := h.2.2.2.1
theorem Safe.pcs {σ : St} (h : Safe σ) : 0 ≤ (gI σ 13).toInt ∧ (gI σ 13).toInt ≤ 10 := h.2.2.2.2.1
theorem Safe.mem {σ : St} (h : Safe σ) : 0 ≤ (gI σ 4).toInt ∧ (gI σ 4).toInt ≤ 10 := h.2.2.2.2.2.1
theorem Safe.mrw {σ : St} (h : Safe σ) : 0 ≤ (gI σ 20).toInt ∧ (gI σ 20).toInt ≤ 10 := h.2.2.2.2.2.2.1
theorem Safe.mnh {σ : St} (h : Safe σ) : 0 ≤ (gI σ 22).toInt ∧ (gI σ 22).toInt ≤ 23 := h.2.2.2.2.2.2.2.1
theorem Safe.mtp {σ : St} (h : Safe σ) : 0 ≤ (gI σ 28).toInt ∧ (gI σ 28).toInt ≤ 72 := h.2.2.2.2.2.2.2.2.1
theorem Safe.lt {σ : St} (h : Safe σ) : -12 ≤ (gI σ 1).toInt ∧ (gI σ 1).toInt ≤ 12 := h.2.2.2.2.2.2.2.2.2
def sfk (k : Nat) : Bool := k != 0 && k != 2 && k != 4 && k != 12 && k != 13 && k != 20 && k != 22 && k != 28 && k != 1
theorem sf_I {σ : St} {k : Nat} {v : Int32} (hk : sfk k = true) (h : Safe σ) : Safe (uI σ k v) := by
  simp only [sfk, Bool.and_eq_true, bne_iff_ne, ne_eq] at hk
  obtain ⟨⟨⟨⟨⟨⟨⟨⟨k0, k2⟩, k4⟩, k12⟩, k13⟩, k20⟩, k22⟩, k28⟩, k1⟩ := hk
  unfold Safe
  simp only [gI_uI, gA_uI, if_neg (fun e => k0 (Eq.symm e) : ¬ (0 = k)), if_neg (fun e => k2 (Eq.symm e) : ¬ (2 = k)), if_neg (fun e => k4 (Eq.symm e) : ¬ (4 = k)), if_neg (fun e => k12 (Eq.symm e) : ¬ (12 = k)), if_neg (fun e => k13 (Eq.symm e) : ¬ (13 = k)), if_neg (fun e => k20 (Eq.symm e) : ¬ (20 = k)), if_neg (fun e => k22 (Eq.symm e) : ¬ (22 = k)), if_neg (fun e => k28 (Eq.symm e) : ¬ (28 = k)), if_neg (fun e => k1 (Eq.symm e) : ¬ (1 = k))]
  exact h
theorem sf_J {σ : St} {k : Nat} {v : Int64} (h : Safe σ) : Safe (uJ σ k v) := h
theorem sf_B {σ : St} {k i : Nat} {v : Int64} (h : Safe σ) : Safe (uB σ k i v) := h
theorem sf_A {σ : St} {k i : Nat} {v : Int32} (hk : (k != 15) = true) (h : Safe σ) : Safe (uA σ k i v) := by
  simp only [bne_iff_ne, ne_eq] at hk
  unfold Safe
  simp only [gI_uA, gA_uA, if_neg (fun e => hk (Eq.symm e) : ¬ (15 = k))]
  exact h
theorem sf_A15 {σ : St} {i : Nat} {v : Int32} (hv : -12 ≤ v.toInt ∧ v.toInt ≤ 12) (h : Safe σ) : Safe (uA σ 15 i v) := by
  refine ⟨h.1, fun j hj => ?_, h.2.2⟩
  show -12 ≤ (upd (gA σ 15) i v j).toInt ∧ (upd (gA σ 15) i v j).toInt ≤ 12
  unfold upd
  split
  · exact hv
  · exact h.2.1 j hj
theorem sf_I0 {σ : St} {v : Int32} (hv : 0 ≤ v.toInt ∧ v.toInt ≤ 23) (h : Safe σ) : Safe (uI σ 0 v) := ⟨h.1, h.2.1, hv, h.2.2.2⟩
theorem sf_I2 {σ : St} {v : Int32} (hv : 0 ≤ v.toInt ∧ v.toInt ≤ 10) (h : Safe σ) : Safe (uI σ 2 v) := ⟨hv, h.2⟩
theorem sf_I12 {σ : St} {v : Int32} (hv : 0 ≤ v.toInt ∧ v.toInt ≤ 72) (h : Safe σ) : Safe (uI σ 12 v) := ⟨h.1, h.2.1, h.2.2.1, hv, h.2.2.2.2⟩
theorem sf_I13 {σ : St} {v : Int32} (hv : 0 ≤ v.toInt ∧ v.toInt ≤ 10) (h : Safe σ) : Safe (uI σ 13 v) := ⟨h.1, h.2.1, h.2.2.1, h.2.2.2.1, hv, h.2.2.2.2.2⟩
theorem sf_I4 {σ : St} {v : Int32} (hv : 0 ≤ v.toInt ∧ v.toInt ≤ 10) (h : Safe σ) : Safe (uI σ 4 v) := ⟨h.1, h.2.1, h.2.2.1, h.2.2.2.1, h.2.2.2.2.1, hv, h.2.2.2.2.2.2⟩
theorem sf_I20 {σ : St} {v : Int32} (hv : 0 ≤ v.toInt ∧ v.toInt ≤ 10) (h : Safe σ) : Safe (uI σ 20 v) := ⟨h.1, h.2.1, h.2.2.1, h.2.2.2.1, h.2.2.2.2.1, h.2.2.2.2.2.1, hv, h.2.2.2.2.2.2.2⟩
theorem sf_I22 {σ : St} {v : Int32} (hv : 0 ≤ v.toInt ∧ v.toInt ≤ 23) (h : Safe σ) : Safe (uI σ 22 v) := ⟨h.1, h.2.1, h.2.2.1, h.2.2.2.1, h.2.2.2.2.1, h.2.2.2.2.2.1, h.2.2.2.2.2.2.1, hv, h.2.2.2.2.2.2.2.2⟩
theorem sf_I28 {σ : St} {v : Int32} (hv : 0 ≤ v.toInt ∧ v.toInt ≤ 72) (h : Safe σ) : Safe (uI σ 28 v) := ⟨h.1, h.2.1, h.2.2.1, h.2.2.2.1, h.2.2.2.2.1, h.2.2.2.2.2.1, h.2.2.2.2.2.2.1, h.2.2.2.2.2.2.2.1, hv, h.2.2.2.2.2.2.2.2.2⟩
theorem sf_I1 {σ : St} {v : Int32} (hv : -12 ≤ v.toInt ∧ v.toInt ≤ 12) (h : Safe σ) : Safe (uI σ 1 v) := ⟨h.1, h.2.1, h.2.2.1, h.2.2.2.1, h.2.2.2.2.1, h.2.2.2.2.2.1, h.2.2.2.2.2.2.1, h.2.2.2.2.2.2.2.1, h.2.2.2.2.2.2.2.2.1, hv⟩
/-! numbers without wrapping -/
theorem i_rng (x : Int32) : -2147483648 ≤ x.toInt ∧ x.toInt < 2147483648 := ⟨Int32.le_toInt x, Int32.toInt_lt x⟩
theorem i_add {x y : Int32} (h1 : -2147483648 ≤ x.toInt + y.toInt) (h2 : x.toInt + y.toInt < 2147483648) : (x + y).toInt = x.toInt + y.toInt := by
  rw [Int32.toInt_add]; exact Int.bmod_eq_of_le (by omega) (by omega)
theorem i_sub {x y : Int32} (h1 : -2147483648 ≤ x.toInt - y.toInt) (h2 : x.toInt - y.toInt < 2147483648) : (x - y).toInt = x.toInt - y.toInt := by
  rw [Int32.toInt_sub]; exact Int.bmod_eq_of_le (by omega) (by omega)
theorem i_mul {x y : Int32} (h1 : -2147483648 ≤ x.toInt * y.toInt) (h2 : x.toInt * y.toInt < 2147483648) : (x * y).toInt = x.toInt * y.toInt := by
  rw [Int32.toInt_mul]; exact Int.bmod_eq_of_le (by omega) (by omega)
theorem i_neg {x : Int32} (h : x.toInt ≠ -2147483648) : (-x).toInt = -x.toInt := by
  have h0 := i_rng x
  rw [Int32.toInt_neg]; exact Int.bmod_eq_of_le (by omega) (by omega)
theorem i_add1 {x : Int32} {b : Int} (h : x.toInt < b) (hb : b ≤ 2147483647) : (x + (1 : Int32)).toInt = x.toInt + 1 := by
  have h0 := i_rng x
  exact i_add (by rw [lit_1]; omega) (by rw [lit_1]; omega)
/-- a counter that goes up to at most N, with its fuel -/
def UP (N : Nat) (a : Int32) (n : Nat) : Prop := 0 ≤ a.toInt ∧ a.toInt ≤ N ∧ (N : Int) + 1 ≤ a.toInt + n
theorem UP.z {N : Nat} {a : Int32} (h : UP N a 0) : False := by obtain ⟨h1, h2, h3⟩ := h; omega
theorem UP.start {N : Nat} : UP N (0 : Int32) (N + 1) := ⟨by rw [lit_0]; omega, by rw [lit_0]; omega, by rw [lit_0]; omega⟩
theorem UP.in {N : Nat} {a : Int32} {n : Nat} (h : UP N a n) {c : Int32} (hc : ¬ c ≤ a) (hN : c.toInt ≤ N) : vp_in a N := by
  have := t_nle hc rfl rfl
  exact vin h.1 (by omega)
theorem UP.step {N : Nat} {a : Int32} {n : Nat} (h : UP N a (n + 1)) {c : Int32} (hc : ¬ c ≤ a) (hN : c.toInt ≤ N) (hB : N ≤ 1000000) : UP N (a + (1 : Int32)) n := by
  have h1 := t_nle hc rfl rfl
  have h2 := i_add1 (x := a) (b := N) (by omega) (by omega)
  obtain ⟨h3, h4, h5⟩ := h
  exact ⟨by omega, by omega, by rw [h2]; omega⟩
theorem UP.step2 {N : Nat} {a : Int32} {n : Nat} (h : UP N a (n + 1)) {c : Int32} (hc : ¬ c < a) (hN : c.toInt + 1 ≤ N) (hB : N ≤ 1000000) : UP N (a + (1 : Int32)) n := by
  have h1 := t_nlt hc rfl rfl
  have h2 := i_add1 (x := a) (b := N) (by omega) (by omega)
  obtain ⟨h3, h4, h5⟩ := h
  exact ⟨by omega, by omega, by rw [h2]; omega⟩
/-- a counter that goes up to hi (at most 9) -/
def RG (hi : Int32) (a : Int32) (n : Nat) : Prop := 0 ≤ a.toInt ∧ a.toInt ≤ 10 ∧ hi.toInt ≤ 9 ∧ hi.toInt + 1 < a.toInt + n ∧ 0 < n
theorem RG.z {hi a : Int32} (h : RG hi a 0) : False := by obtain ⟨h1, h2, h3, h4, h5⟩ := h; omega
theorem RG.in {hi a : Int32} {n : Nat} (h : RG hi a n) (hc : ¬ hi < a) : vp_in a 10 := by
  have := t_nlt hc rfl rfl
  obtain ⟨h1, h2, h3, h4, h5⟩ := h
  exact vin (by omega) (by omega)
theorem RG.step {hi a : Int32} {n : Nat} (h : RG hi a (n + 1)) (hc : ¬ hi < a) : RG hi (a + (1 : Int32)) n := by
  have h0 := t_nlt hc rfl rfl
  obtain ⟨h1, h2, h3, h4, h5⟩ := h
  have h6 := i_add1 (x := a) (b := 10) (by omega) (by omega)
  exact ⟨by omega, by omega, by omega, by omega, by omega⟩
/-- a counter that goes down to 0 -/
def DN (a : Int32) (n : Nat) : Prop := 0 ≤ a.toInt ∧ a.toInt ≤ 9 ∧ a.toInt < n
theorem DN.z {a : Int32} (h : DN a 0) : False := by obtain ⟨h1, h2, h3⟩ := h; omega
theorem DN.in {a : Int32} {n : Nat} (h : DN a n) : vp_in a 10 := vin h.1 (by have := h.2.1; omega)
theorem pred_in {a : Int32} {N : Nat} (h0 : 0 < a.toInt) (h1 : a.toInt ≤ N) : vp_in (a - (1 : Int32)) N := by
  have h2 := i_rng a
  have h3 : (a - (1 : Int32)).toInt = a.toInt - 1 := by rw [i_sub (by rw [lit_1]; omega) (by rw [lit_1]; omega), lit_1]
  exact vin (by omega) (by omega)
theorem DN.pin {a : Int32} {n : Nat} (h : DN a n) (hc : ¬ a ≤ (0 : Int32)) : vp_in (a - (1 : Int32)) 10 := pred_in (t_nle hc rfl lit_0) (by have := h.2.1; omega)
theorem DN.step {a : Int32} {n : Nat} (h : DN a (n + 1)) (hc : ¬ a ≤ (0 : Int32)) : DN (a + (-1 : Int32)) n := by
  have h0 := t_nle hc rfl lit_0
  obtain ⟨h1, h2, h3⟩ := h
  have h4 : (a + (-1 : Int32)).toInt = a.toInt - 1 := by rw [i_add (by rw [lit_m1]; omega) (by rw [lit_m1]; omega), lit_m1]; omega
  exact ⟨by omega, by omega, by omega⟩
/-- a table's index from a step -/
theorem abs_in {x : Int32} (h0 : -12 ≤ x.toInt) (h1 : x.toInt ≤ 12) : vp_in (if (0 : Int32) ≤ x then x else (0 : Int32) - x) 13 := by
  split
  · rename_i h; have := t_le h lit_0 rfl; exact vin (by omega) (by omega)
  · rename_i h
    have h2 := t_nle h lit_0 rfl
    have h3 : ((0 : Int32) - x).toInt = 0 - x.toInt := by rw [i_sub (by rw [lit_0]; omega) (by rw [lit_0]; omega), lit_0]
    exact vin (by omega) (by omega)
theorem neg_in {x : Int32} (h0 : -12 ≤ x.toInt) (h1 : x.toInt < 0) : vp_in (-x) 13 := by
  have h2 := i_neg (x := x) (by omega)
  exact vin (by omega) (by omega)
theorem an1 : vp_in ((-1000000001 : Int32) - (-1000000001 : Int32)) 5 := by unfold vp_in; decide +kernel
theorem an2 : vp_in ((-1000000001 : Int32) - (-1000000002 : Int32)) 5 := by unfold vp_in; decide +kernel
theorem an3 : vp_in ((-1000000001 : Int32) - (-1000000003 : Int32)) 5 := by unfold vp_in; decide +kernel
theorem an4 : vp_in ((-1000000001 : Int32) - (-1000000004 : Int32)) 5 := by unfold vp_in; decide +kernel
theorem an5 : vp_in ((-1000000001 : Int32) - (-1000000005 : Int32)) 5 := by unfold vp_in; decide +kernel
theorem am1 : vp_in ((-1000000000 : Int32) - (-1000000001 : Int32)) 6 := by unfold vp_in; decide +kernel
theorem am2 : vp_in ((-1000000000 : Int32) - (-1000000002 : Int32)) 6 := by unfold vp_in; decide +kernel
theorem am3 : vp_in ((-1000000000 : Int32) - (-1000000003 : Int32)) 6 := by unfold vp_in; decide +kernel
theorem am4 : vp_in ((-1000000000 : Int32) - (-1000000004 : Int32)) 6 := by unfold vp_in; decide +kernel
theorem am5 : vp_in ((-1000000000 : Int32) - (-1000000005 : Int32)) 6 := by unfold vp_in; decide +kernel
theorem in_lit {i : Int32} {N : Nat} (h : (decide (0 ≤ i.toInt) && decide (i.toInt < N)) = true) : vp_in i N := by
  simp only [Bool.and_eq_true, decide_eq_true_eq] at h
  exact vin h.1 h.2
end
section
def f9_isWithin (a1 : Int32) (a2 : Int32) (a3 : Int32) : Int32 :=
  (if a1 < a2 then (0 : Int32) else (if a3 < a1 then (0 : Int32) else (1 : Int32)))
set_option maxHeartbeats 4000000 in
set_option maxRecDepth 100000 in
theorem bf9_isWithin {X : CX} {Λ : LY} (C : OK X Λ cX9_isWithin 3 RX9 0 0) {σ : St} {res : Int32} (E : EN X Λ (some .boolean) (some (.int res)) σ) (a1 : Int32) (a2 : Int32) (a3 : Int32)  (hres : (f9_isWithin a1 a2 a3) = res) : VV X Λ 3 0 [(0, .int (a1)), (1, .int (a2)), (2, .int (a3))] [] σ := by
  unfold f9_isWithin at hres
  refine v_iload_n (pc2 := 1) C 0 dX9_isWithin_0 rfl rfl ?_
  refine v_iload_n (pc2 := 2) C 1 dX9_isWithin_1 rfl rfl ?_
  refine v_icmplt (pc2 := 14) (pc3 := 5) C dX9_isWithin_2 rfl rfl (fun h2 => ?_) (fun h2 => ?_)
  · have hres := (if_pos h2).symm.trans hres
    refine v_iconst (pc2 := 15) C dX9_isWithin_14 ki_0 rfl ?_
    exact r_zP C E (Or.inl rfl) hres dX9_isWithin_15
  · have hres := (if_neg h2).symm.trans hres
    refine v_iload_n (pc2 := 6) C 0 dX9_isWithin_5 rfl rfl ?_
    refine v_iload_n (pc2 := 7) C 2 dX9_isWithin_6 rfl rfl ?_
    refine v_icmpgt (pc2 := 14) (pc3 := 10) C dX9_isWithin_7 rfl rfl (fun h7 => ?_) (fun h7 => ?_)
    · have hres := (if_pos h7).symm.trans hres
      refine v_iconst (pc2 := 15) C dX9_isWithin_14 ki_0 rfl ?_
      exact r_zP C E (Or.inl rfl) hres dX9_isWithin_15
    · have hres := (if_neg h7).symm.trans hres
      refine v_iconst (pc2 := 11) C dX9_isWithin_10 ki_1 rfl ?_
      refine v_goto (pc2 := 15) C dX9_isWithin_11 rfl ?_
      exact r_zP C E (Or.inr rfl) hres dX9_isWithin_15
theorem mX9_isWithin (l : Launch) (Λ : LY) (σ : St) (a1 : Int32) (a2 : Int32) (a3 : Int32)  : CT l Λ yX9_isWithin cX9_isWithin 3 (some .boolean) 0 0 [.int (a1), .int (a2), .int (a3)] σ (some (.int (f9_isWithin a1 a2 a3))) σ := by
  refine CT_of (by decide +kernel) (Nat.le_of_ble_eq_true rfl) ?_
  intro X hX C E
  obtain ⟨res, hres⟩ : ∃ r, (f9_isWithin a1 a2 a3) = r := ⟨_, rfl⟩
  rw [hres] at E
  exact bf9_isWithin C E _ _ _   hres
theorem zX9_isWithin (a1 : Int32) (a2 : Int32) (a3 : Int32) : (f9_isWithin a1 a2 a3) = 0 ∨ (f9_isWithin a1 a2 a3) = 1 := by
  unfold f9_isWithin; repeat' split
  all_goals first | exact Or.inl rfl | exact Or.inr rfl
def f9_isKind (a1 : Int32) : Int32 :=
  (f9_isWithin a1 (0 : Int32) (2 : Int32))
set_option maxHeartbeats 4000000 in
set_option maxRecDepth 100000 in
theorem bf9_isKind {X : CX} {Λ : LY} (C : OK X Λ cX9_isKind 1 RX9 1 22) {σ : St} {res : Int32} (E : EN X Λ (some .boolean) (some (.int res)) σ) (a1 : Int32)  (hres : (f9_isKind a1) = res) : VV X Λ 1 0 [(0, .int (a1))] [] σ := by
  unfold f9_isKind at hres
  refine v_iload_n (pc2 := 1) C 0 dX9_isKind_0 rfl rfl ?_
  refine v_iconst (pc2 := 2) C dX9_isKind_1 ki_0 rfl ?_
  refine v_iconst (pc2 := 3) C dX9_isKind_2 ki_2 rfl ?_
  refine v_cSi (pc2 := 6) C kc_X9_73 (mX9_isWithin (xl X) Λ _ _ _ _) (by decide) rfl rfl (Nat.le_of_ble_eq_true rfl) dX9_isKind_3 rfl ?_
  exact r_zP C E (zX9_isWithin a1 (0 : Int32) (2 : Int32)) hres dX9_isKind_6
theorem mX9_isKind (l : Launch) (Λ : LY) (σ : St) (a1 : Int32)  : CT l Λ yX9_isKind cX9_isKind 1 (some .boolean) 1 22 [.int (a1)] σ (some (.int (f9_isKind a1))) σ := by
  refine CT_of (by decide +kernel) (Nat.le_of_ble_eq_true rfl) ?_
  intro X hX C E
  obtain ⟨res, hres⟩ : ∃ r, (f9_isKind a1) = r := ⟨_, rfl⟩
  rw [hres] at E
  exact bf9_isKind C E _   hres
theorem zX9_isKind (a1 : Int32) : (f9_isKind a1) = 0 ∨ (f9_isKind a1) = 1 := by
  unfold f9_isKind; repeat' split
  all_goals first | exact Or.inl rfl | exact Or.inr rfl | exact (zX9_isWithin a1 (0 : Int32) (2 : Int32))
def f9_isStep (a1 : Int32) : Int32 :=
  (f9_isWithin a1 (-12 : Int32) (12 : Int32))
set_option maxHeartbeats 4000000 in
set_option maxRecDepth 100000 in
theorem bf9_isStep {X : CX} {Λ : LY} (C : OK X Λ cX9_isStep 1 RX9 1 22) {σ : St} {res : Int32} (E : EN X Λ (some .boolean) (some (.int res)) σ) (a1 : Int32)  (hres : (f9_isStep a1) = res) : VV X Λ 1 0 [(0, .int (a1))] [] σ := by
  unfold f9_isStep at hres
  refine v_iload_n (pc2 := 1) C 0 dX9_isStep_0 rfl rfl ?_
  refine v_bipush (pc2 := 3) C dX9_isStep_1 kb_m12 rfl ?_
  refine v_bipush (pc2 := 5) C dX9_isStep_3 kb_12 rfl ?_
  refine v_cSi (pc2 := 8) C kc_X9_73 (mX9_isWithin (xl X) Λ _ _ _ _) (by decide) rfl rfl (Nat.le_of_ble_eq_true rfl) dX9_isStep_5 rfl ?_
  exact r_zP C E (zX9_isWithin a1 (-12 : Int32) (12 : Int32)) hres dX9_isStep_8
theorem mX9_isStep (l : Launch) (Λ : LY) (σ : St) (a1 : Int32)  : CT l Λ yX9_isStep cX9_isStep 1 (some .boolean) 1 22 [.int (a1)] σ (some (.int (f9_isStep a1))) σ := by
  refine CT_of (by decide +kernel) (Nat.le_of_ble_eq_true rfl) ?_
  intro X hX C E
  obtain ⟨res, hres⟩ : ∃ r, (f9_isStep a1) = r := ⟨_, rfl⟩
  rw [hres] at E
  exact bf9_isStep C E _   hres
theorem zX9_isStep (a1 : Int32) : (f9_isStep a1) = 0 ∨ (f9_isStep a1) = 1 := by
  unfold f9_isStep; repeat' split
  all_goals first | exact Or.inl rfl | exact Or.inr rfl | exact (zX9_isWithin a1 (-12 : Int32) (12 : Int32))
def f9_isHour (a1 : Int32) : Int32 :=
  (f9_isWithin a1 (0 : Int32) (23 : Int32))
set_option maxHeartbeats 4000000 in
set_option maxRecDepth 100000 in
theorem bf9_isHour {X : CX} {Λ : LY} (C : OK X Λ cX9_isHour 1 RX9 1 22) {σ : St} {res : Int32} (E : EN X Λ (some .boolean) (some (.int res)) σ) (a1 : Int32)  (hres : (f9_isHour a1) = res) : VV X Λ 1 0 [(0, .int (a1))] [] σ := by
  unfold f9_isHour at hres
  refine v_iload_n (pc2 := 1) C 0 dX9_isHour_0 rfl rfl ?_
  refine v_iconst (pc2 := 2) C dX9_isHour_1 ki_0 rfl ?_
  refine v_bipush (pc2 := 4) C dX9_isHour_2 kb_23 rfl ?_
  refine v_cSi (pc2 := 7) C kc_X9_73 (mX9_isWithin (xl X) Λ _ _ _ _) (by decide) rfl rfl (Nat.le_of_ble_eq_true rfl) dX9_isHour_4 rfl ?_
  exact r_zP C E (zX9_isWithin a1 (0 : Int32) (23 : Int32)) hres dX9_isHour_7
theorem mX9_isHour (l : Launch) (Λ : LY) (σ : St) (a1 : Int32)  : CT l Λ yX9_isHour cX9_isHour 1 (some .boolean) 1 22 [.int (a1)] σ (some (.int (f9_isHour a1))) σ := by
  refine CT_of (by decide +kernel) (Nat.le_of_ble_eq_true rfl) ?_
  intro X hX C E
  obtain ⟨res, hres⟩ : ∃ r, (f9_isHour a1) = r := ⟨_, rfl⟩
  rw [hres] at E
  exact bf9_isHour C E _   hres
theorem zX9_isHour (a1 : Int32) : (f9_isHour a1) = 0 ∨ (f9_isHour a1) = 1 := by
  unfold f9_isHour; repeat' split
  all_goals first | exact Or.inl rfl | exact Or.inr rfl | exact (zX9_isWithin a1 (0 : Int32) (23 : Int32))
def f9_isString (a1 : Int32) : Int32 :=
  (f9_isWithin a1 (0 : Int32) (3 : Int32))
set_option maxHeartbeats 4000000 in
set_option maxRecDepth 100000 in
theorem bf9_isString {X : CX} {Λ : LY} (C : OK X Λ cX9_isString 1 RX9 1 22) {σ : St} {res : Int32} (E : EN X Λ (some .boolean) (some (.int res)) σ) (a1 : Int32)  (hres : (f9_isString a1) = res) : VV X Λ 1 0 [(0, .int (a1))] [] σ := by
  unfold f9_isString at hres
  refine v_iload_n (pc2 := 1) C 0 dX9_isString_0 rfl rfl ?_
  refine v_iconst (pc2 := 2) C dX9_isString_1 ki_0 rfl ?_
  refine v_iconst (pc2 := 3) C dX9_isString_2 ki_3 rfl ?_
  refine v_cSi (pc2 := 6) C kc_X9_73 (mX9_isWithin (xl X) Λ _ _ _ _) (by decide) rfl rfl (Nat.le_of_ble_eq_true rfl) dX9_isString_3 rfl ?_
  exact r_zP C E (zX9_isWithin a1 (0 : Int32) (3 : Int32)) hres dX9_isString_6
theorem mX9_isString (l : Launch) (Λ : LY) (σ : St) (a1 : Int32)  : CT l Λ yX9_isString cX9_isString 1 (some .boolean) 1 22 [.int (a1)] σ (some (.int (f9_isString a1))) σ := by
  refine CT_of (by decide +kernel) (Nat.le_of_ble_eq_true rfl) ?_
  intro X hX C E
  obtain ⟨res, hres⟩ : ∃ r, (f9_isString a1) = r := ⟨_, rfl⟩
  rw [hres] at E
  exact bf9_isString C E _   hres
theorem zX9_isString (a1 : Int32) : (f9_isString a1) = 0 ∨ (f9_isString a1) = 1 := by
  unfold f9_isString; repeat' split
  all_goals first | exact Or.inl rfl | exact Or.inr rfl | exact (zX9_isWithin a1 (0 : Int32) (3 : Int32))
def f9_isSunWay (a1 : Int32) (a2 : Int32) (a3 : Int32) : Int32 :=
  (if (f9_isHour a1) = (0 : Int32) then (0 : Int32) else (if (f9_isWithin a2 (-1000 : Int32) (1000 : Int32)) = (0 : Int32) then (0 : Int32) else (if (f9_isWithin a3 (0 : Int32) (1000 : Int32)) = (0 : Int32) then (0 : Int32) else (1 : Int32))))
set_option maxHeartbeats 4000000 in
set_option maxRecDepth 100000 in
theorem bf9_isSunWay {X : CX} {Λ : LY} (C : OK X Λ cX9_isSunWay 3 RX9 2 42) {σ : St} {res : Int32} (E : EN X Λ (some .boolean) (some (.int res)) σ) (a1 : Int32) (a2 : Int32) (a3 : Int32)  (hres : (f9_isSunWay a1 a2 a3) = res) : VV X Λ 3 0 [(0, .int (a1)), (1, .int (a2)), (2, .int (a3))] [] σ := by
  unfold f9_isSunWay at hres
  refine v_iload_n (pc2 := 1) C 0 dX9_isSunWay_0 rfl rfl ?_
  refine v_cSi (pc2 := 4) C kc_X9_151 (mX9_isHour (xl X) Λ _ _) (by decide) rfl rfl (Nat.le_of_ble_eq_true rfl) dX9_isSunWay_1 rfl ?_
  refine v_ifeq (pc2 := 35) (pc3 := 7) C dX9_isSunWay_4 rfl rfl (fun h4 => ?_) (fun h4 => ?_)
  · have hres := (if_pos h4).symm.trans hres
    refine v_iconst (pc2 := 36) C dX9_isSunWay_35 ki_0 rfl ?_
    exact r_zP C E (Or.inl rfl) hres dX9_isSunWay_36
  · have hres := (if_neg h4).symm.trans hres
    refine v_iload_n (pc2 := 8) C 1 dX9_isSunWay_7 rfl rfl ?_
    refine v_sipush (pc2 := 11) C dX9_isSunWay_8 ks_m1000 rfl ?_
    refine v_sipush (pc2 := 14) C dX9_isSunWay_11 ks_1000 rfl ?_
    refine v_cSi (pc2 := 17) C kc_X9_73 (mX9_isWithin (xl X) Λ _ _ _ _) (by decide) rfl rfl (Nat.le_of_ble_eq_true rfl) dX9_isSunWay_14 rfl ?_
    refine v_ifeq (pc2 := 35) (pc3 := 20) C dX9_isSunWay_17 rfl rfl (fun h17 => ?_) (fun h17 => ?_)
    · have hres := (if_pos h17).symm.trans hres
      refine v_iconst (pc2 := 36) C dX9_isSunWay_35 ki_0 rfl ?_
      exact r_zP C E (Or.inl rfl) hres dX9_isSunWay_36
    · have hres := (if_neg h17).symm.trans hres
      refine v_iload_n (pc2 := 21) C 2 dX9_isSunWay_20 rfl rfl ?_
      refine v_iconst (pc2 := 22) C dX9_isSunWay_21 ki_0 rfl ?_
      refine v_sipush (pc2 := 25) C dX9_isSunWay_22 ks_1000 rfl ?_
      refine v_cSi (pc2 := 28) C kc_X9_73 (mX9_isWithin (xl X) Λ _ _ _ _) (by decide) rfl rfl (Nat.le_of_ble_eq_true rfl) dX9_isSunWay_25 rfl ?_
      refine v_ifeq (pc2 := 35) (pc3 := 31) C dX9_isSunWay_28 rfl rfl (fun h28 => ?_) (fun h28 => ?_)
      · have hres := (if_pos h28).symm.trans hres
        refine v_iconst (pc2 := 36) C dX9_isSunWay_35 ki_0 rfl ?_
        exact r_zP C E (Or.inl rfl) hres dX9_isSunWay_36
      · have hres := (if_neg h28).symm.trans hres
        refine v_iconst (pc2 := 32) C dX9_isSunWay_31 ki_1 rfl ?_
        refine v_goto (pc2 := 36) C dX9_isSunWay_32 rfl ?_
        exact r_zP C E (Or.inr rfl) hres dX9_isSunWay_36
theorem mX9_isSunWay (l : Launch) (Λ : LY) (σ : St) (a1 : Int32) (a2 : Int32) (a3 : Int32)  : CT l Λ yX9_isSunWay cX9_isSunWay 3 (some .boolean) 2 42 [.int (a1), .int (a2), .int (a3)] σ (some (.int (f9_isSunWay a1 a2 a3))) σ := by
  refine CT_of (by decide +kernel) (Nat.le_of_ble_eq_true rfl) ?_
  intro X hX C E
  obtain ⟨res, hres⟩ : ∃ r, (f9_isSunWay a1 a2 a3) = r := ⟨_, rfl⟩
  rw [hres] at E
  exact bf9_isSunWay C E _ _ _   hres
theorem zX9_isSunWay (a1 : Int32) (a2 : Int32) (a3 : Int32) : (f9_isSunWay a1 a2 a3) = 0 ∨ (f9_isSunWay a1 a2 a3) = 1 := by
  unfold f9_isSunWay; repeat' split
  all_goals first | exact Or.inl rfl | exact Or.inr rfl
def f9_isWashPlan (a1 : Int32) (a2 : Int32) : Int32 :=
  (if (f9_isWithin a1 (1 : Int32) (100 : Int32)) = (0 : Int32) then (0 : Int32) else (if (f9_isWithin a2 (0 : Int32) (1000000 : Int32)) = (0 : Int32) then (0 : Int32) else (1 : Int32)))
set_option maxHeartbeats 4000000 in
set_option maxRecDepth 100000 in
theorem bf9_isWashPlan {X : CX} {Λ : LY} (C : OK X Λ cX9_isWashPlan 2 RX9 1 22) {σ : St} {res : Int32} (E : EN X Λ (some .boolean) (some (.int res)) σ) (a1 : Int32) (a2 : Int32)  (hres : (f9_isWashPlan a1 a2) = res) : VV X Λ 2 0 [(0, .int (a1)), (1, .int (a2))] [] σ := by
  unfold f9_isWashPlan at hres
  refine v_iload_n (pc2 := 1) C 0 dX9_isWashPlan_0 rfl rfl ?_
  refine v_iconst (pc2 := 2) C dX9_isWashPlan_1 ki_1 rfl ?_
  refine v_bipush (pc2 := 4) C dX9_isWashPlan_2 kb_100 rfl ?_
  refine v_cSi (pc2 := 7) C kc_X9_73 (mX9_isWithin (xl X) Λ _ _ _ _) (by decide) rfl rfl (Nat.le_of_ble_eq_true rfl) dX9_isWashPlan_4 rfl ?_
  refine v_ifeq (pc2 := 24) (pc3 := 10) C dX9_isWashPlan_7 rfl rfl (fun h7 => ?_) (fun h7 => ?_)
  · have hres := (if_pos h7).symm.trans hres
    refine v_iconst (pc2 := 25) C dX9_isWashPlan_24 ki_0 rfl ?_
    exact r_zP C E (Or.inl rfl) hres dX9_isWashPlan_25
  · have hres := (if_neg h7).symm.trans hres
    refine v_iload_n (pc2 := 11) C 1 dX9_isWashPlan_10 rfl rfl ?_
    refine v_iconst (pc2 := 12) C dX9_isWashPlan_11 ki_0 rfl ?_
    refine v_ldc (pc2 := 14) C lc_X9_200 dX9_isWashPlan_12 rfl ?_
    refine v_cSi (pc2 := 17) C kc_X9_73 (mX9_isWithin (xl X) Λ _ _ _ _) (by decide) rfl rfl (Nat.le_of_ble_eq_true rfl) dX9_isWashPlan_14 rfl ?_
    refine v_ifeq (pc2 := 24) (pc3 := 20) C dX9_isWashPlan_17 rfl rfl (fun h17 => ?_) (fun h17 => ?_)
    · have hres := (if_pos h17).symm.trans hres
      refine v_iconst (pc2 := 25) C dX9_isWashPlan_24 ki_0 rfl ?_
      exact r_zP C E (Or.inl rfl) hres dX9_isWashPlan_25
    · have hres := (if_neg h17).symm.trans hres
      refine v_iconst (pc2 := 21) C dX9_isWashPlan_20 ki_1 rfl ?_
      refine v_goto (pc2 := 25) C dX9_isWashPlan_21 rfl ?_
      exact r_zP C E (Or.inr rfl) hres dX9_isWashPlan_25
theorem mX9_isWashPlan (l : Launch) (Λ : LY) (σ : St) (a1 : Int32) (a2 : Int32)  : CT l Λ yX9_isWashPlan cX9_isWashPlan 2 (some .boolean) 1 22 [.int (a1), .int (a2)] σ (some (.int (f9_isWashPlan a1 a2))) σ := by
  refine CT_of (by decide +kernel) (Nat.le_of_ble_eq_true rfl) ?_
  intro X hX C E
  obtain ⟨res, hres⟩ : ∃ r, (f9_isWashPlan a1 a2) = r := ⟨_, rfl⟩
  rw [hres] at E
  exact bf9_isWashPlan C E _ _   hres
theorem zX9_isWashPlan (a1 : Int32) (a2 : Int32) : (f9_isWashPlan a1 a2) = 0 ∨ (f9_isWashPlan a1 a2) = 1 := by
  unfold f9_isWashPlan; repeat' split
  all_goals first | exact Or.inl rfl | exact Or.inr rfl
def f9_isRow (σ : St) (a1 : Int32) : Int32 :=
  (f9_isWithin a1 (0 : Int32) ((gI σ 2) - (1 : Int32)))
set_option maxHeartbeats 4000000 in
set_option maxRecDepth 100000 in
theorem bf9_isRow {X : CX} {Λ : LY} (C : OK X Λ cX9_isRow 2 RX9 1 22) {σ : St} {res : Int32} (E : EN X Λ (some .boolean) (some (.int res)) σ) (a1 : Int32)  (hres : (f9_isRow σ a1) = res) : VV X Λ 2 0 [(0, .ref (adr Λ 0)), (1, .int (a1))] [] σ := by
  unfold f9_isRow at hres
  refine v_iload_n (pc2 := 1) C 1 dX9_isRow_0 rfl rfl ?_
  refine v_iconst (pc2 := 2) C dX9_isRow_1 ki_0 rfl ?_
  refine v_aload_n (pc2 := 3) C 0 dX9_isRow_2 rfl rfl ?_
  refine vg_X9_field (pc2 := 6) C lf_X9_10 dX9_isRow_3 rfl ?_
  refine vg_X0_count (pc2 := 9) C lf_X9_89 dX9_isRow_6 rfl ?_
  refine v_iconst (pc2 := 10) C dX9_isRow_9 ki_1 rfl ?_
  refine v_isub (pc2 := 11) C dX9_isRow_10 rfl ?_
  refine v_cSi (pc2 := 14) C kc_X9_73 (mX9_isWithin (xl X) Λ _ _ _ _) (by decide) rfl rfl (Nat.le_of_ble_eq_true rfl) dX9_isRow_11 rfl ?_
  exact r_zP C E (zX9_isWithin a1 (0 : Int32) ((gI σ 2) - (1 : Int32))) hres dX9_isRow_14
theorem mX9_isRow (l : Launch) (Λ : LY) (σ : St) (a1 : Int32)  : CT l Λ yX9_isRow cX9_isRow 2 (some .boolean) 1 22 [.ref (adr Λ 0), .int (a1)] σ (some (.int (f9_isRow σ a1))) σ := by
  refine CT_of (by decide +kernel) (Nat.le_of_ble_eq_true rfl) ?_
  intro X hX C E
  obtain ⟨res, hres⟩ : ∃ r, (f9_isRow σ a1) = r := ⟨_, rfl⟩
  rw [hres] at E
  exact bf9_isRow C E _   hres
theorem zX9_isRow (σ : St) (a1 : Int32) : (f9_isRow σ a1) = 0 ∨ (f9_isRow σ a1) = 1 := by
  unfold f9_isRow; repeat' split
  all_goals first | exact Or.inl rfl | exact Or.inr rfl | exact (zX9_isWithin a1 (0 : Int32) ((gI σ 2) - (1 : Int32)))
def f9_answer (σ : St) (a1 : Int32) : Int32 × St :=
  (a1, (uA σ 0 (Int32.toNatClampNeg ((-1000000001 : Int32) - a1)) ((gA σ 0 (Int32.toNatClampNeg ((-1000000001 : Int32) - a1))) + (1 : Int32))))
set_option maxHeartbeats 4000000 in
set_option maxRecDepth 100000 in
theorem bf9_answer {X : CX} {Λ : LY} (C : OK X Λ cX9_answer 2 RX9 0 0) {res : Int32 × St} (E : EN X Λ (some .int) (some (.int res.1)) res.2) (σ : St) (a1 : Int32) (h1 : vp_in ((-1000000001 : Int32) - a1) 5) (hres : (f9_answer σ a1) = res) : VV X Λ 2 0 [(0, .ref (adr Λ 0)), (1, .int (a1))] [] σ := by
  unfold f9_answer at hres
  refine v_aload_n (pc2 := 1) C 0 dX9_answer_0 rfl rfl ?_
  refine vg_X9_answered (pc2 := 4) C lf_X9_58 dX9_answer_1 rfl ?_
  refine v_ldc (pc2 := 6) C lc_X9_80 dX9_answer_4 rfl ?_
  refine v_iload_n (pc2 := 7) C 1 dX9_answer_6 rfl rfl ?_
  refine v_isub (pc2 := 8) C dX9_answer_7 rfl ?_
  refine v_dup2 (pc2 := 9) C dX9_answer_8 rfl rfl rfl ?_
  refine al8 (pc2 := 10) C h1 dX9_answer_9 rfl ?_
  refine v_iconst (pc2 := 11) C dX9_answer_10 ki_1 rfl ?_
  refine v_iadd (pc2 := 12) C dX9_answer_11 rfl ?_
  refine as8 (pc2 := 13) C h1 dX9_answer_12 rfl ?_
  refine v_iload_n (pc2 := 14) C 1 dX9_answer_13 rfl rfl ?_
  exact r_iS C E hres dX9_answer_14
theorem mX9_answer (l : Launch) (Λ : LY) (σ : St) (a1 : Int32) (h1 : vp_in ((-1000000001 : Int32) - a1) 5) : CT l Λ yX9_answer cX9_answer 2 (some .int) 0 0 [.ref (adr Λ 0), .int (a1)] σ (some (.int (f9_answer σ a1).1)) (f9_answer σ a1).2 := by
  refine CT_of (by decide +kernel) (Nat.le_of_ble_eq_true rfl) ?_
  intro X hX C E
  obtain ⟨res, hres⟩ : ∃ r, (f9_answer σ a1) = r := ⟨_, rfl⟩
  rw [hres] at E
  exact bf9_answer C E _ _  h1 hres
def f3_begin (σ : St) (i0 : Nat) (a1 : Int32) (a2 : Int32) (a3 : Int32) (a4 : Int32) (a5 : Int32) : St :=
  (if a1 = (1 : Int32) then (uA (uA (uA (uA (uA (uA (uA σ 10 i0 a1) 11 i0 a2) 12 i0 a3) 13 i0 a4) 14 i0 (0 : Int32)) 15 i0 a5) 16 i0 (-1 : Int32)) else (uA (uA (uA (uA (uA (uA (uA σ 10 i0 a1) 11 i0 a2) 12 i0 a3) 13 i0 a4) 14 i0 (0 : Int32)) 15 i0 (0 : Int32)) 16 i0 (-1 : Int32)))
set_option maxHeartbeats 4000000 in
set_option maxRecDepth 100000 in
theorem bf3_begin {X : CX} {Λ : LY} (C : OK X Λ cX3_begin 6 RX3 0 0) {res : St} (E : EN X Λ none none res) (σ : St) (i0 : Nat) (a1 : Int32) (a2 : Int32) (a3 : Int32) (a4 : Int32) (a5 : Int32) (hi0 : i0 < 10) (hres : (f3_begin σ i0 a1 a2 a3 a4 a5) = res) : VV X Λ 6 0 [(0, .ref (adr Λ (27 + i0))), (1, .int (a1)), (2, .int (a2)), (3, .int (a3)), (4, .int (a4)), (5, .int (a5))] [] σ := by
  unfold f3_begin at hres
  refine v_aload_n (pc2 := 1) C 0 dX3_begin_0 rfl rfl ?_
  refine v_iload_n (pc2 := 2) C 1 dX3_begin_1 rfl rfl ?_
  refine vp_X3_kind (pc2 := 5) C hi0 lf_X3_15 dX3_begin_2 rfl ?_
  refine v_aload_n (pc2 := 6) C 0 dX3_begin_5 rfl rfl ?_
  refine v_iload_n (pc2 := 7) C 2 dX3_begin_6 rfl rfl ?_
  refine vp_X3_place (pc2 := 10) C hi0 lf_X3_18 dX3_begin_7 rfl ?_
  refine v_aload_n (pc2 := 11) C 0 dX3_begin_10 rfl rfl ?_
  refine v_iload_n (pc2 := 12) C 3 dX3_begin_11 rfl rfl ?_
  refine vp_X3_height (pc2 := 15) C hi0 lf_X3_21 dX3_begin_12 rfl ?_
  refine v_aload_n (pc2 := 16) C 0 dX3_begin_15 rfl rfl ?_
  refine v_iload (pc2 := 18) C 4 dX3_begin_16 rfl rfl ?_
  refine vp_X3_width (pc2 := 21) C hi0 lf_X3_24 dX3_begin_18 rfl ?_
  refine v_aload_n (pc2 := 22) C 0 dX3_begin_21 rfl rfl ?_
  refine v_iconst (pc2 := 23) C dX3_begin_22 ki_0 rfl ?_
  refine vp_X3_dirt (pc2 := 26) C hi0 lf_X3_27 dX3_begin_23 rfl ?_
  refine v_aload_n (pc2 := 27) C 0 dX3_begin_26 rfl rfl ?_
  refine v_iload_n (pc2 := 28) C 1 dX3_begin_27 rfl rfl ?_
  refine v_iconst (pc2 := 29) C dX3_begin_28 ki_1 rfl ?_
  refine v_icmpne (pc2 := 37) (pc3 := 32) C dX3_begin_29 rfl rfl (fun h29 => ?_) (fun h29 => ?_)
  · have hres := (if_neg h29).symm.trans hres
    refine v_iconst (pc2 := 38) C dX3_begin_37 ki_0 rfl ?_
    refine vp_X3_step (pc2 := 41) C hi0 lf_X3_30 dX3_begin_38 rfl ?_
    refine v_aload_n (pc2 := 42) C 0 dX3_begin_41 rfl rfl ?_
    refine v_iconst (pc2 := 43) C dX3_begin_42 ki_m1 rfl ?_
    refine vp_X3_inString (pc2 := 46) C hi0 lf_X3_9 dX3_begin_43 rfl ?_
    exact r_vS C E hres dX3_begin_46
  · have hres := (if_pos h29).symm.trans hres
    refine v_iload (pc2 := 34) C 5 dX3_begin_32 rfl rfl ?_
    refine v_goto (pc2 := 38) C dX3_begin_34 rfl ?_
    refine vp_X3_step (pc2 := 41) C hi0 lf_X3_30 dX3_begin_38 rfl ?_
    refine v_aload_n (pc2 := 42) C 0 dX3_begin_41 rfl rfl ?_
    refine v_iconst (pc2 := 43) C dX3_begin_42 ki_m1 rfl ?_
    refine vp_X3_inString (pc2 := 46) C hi0 lf_X3_9 dX3_begin_43 rfl ?_
    exact r_vS C E hres dX3_begin_46
theorem mX3_begin (l : Launch) (Λ : LY) (σ : St) (i0 : Nat) (hi0 : i0 < 10) (a1 : Int32) (a2 : Int32) (a3 : Int32) (a4 : Int32) (a5 : Int32)  : CT l Λ yX3_begin cX3_begin 6 none 0 0 [.ref (adr Λ (27 + i0)), .int (a1), .int (a2), .int (a3), .int (a4), .int (a5)] σ none (f3_begin σ i0 a1 a2 a3 a4 a5) := by
  refine CT_of (by decide +kernel) (Nat.le_of_ble_eq_true rfl) ?_
  intro X hX C E
  obtain ⟨res, hres⟩ : ∃ r, (f3_begin σ i0 a1 a2 a3 a4 a5) = r := ⟨_, rfl⟩
  rw [hres] at E
  exact bf3_begin C E _ _ _ _ _ _ _ hi0  hres
def f3_isOf (σ : St) (i0 : Nat) (a1 : Int32) : Int32 :=
  (if a1 = (0 : Int32) then (1 : Int32) else (if a1 = (gA σ 10 i0) then (1 : Int32) else (0 : Int32)))
set_option maxHeartbeats 4000000 in
set_option maxRecDepth 100000 in
theorem bf3_isOf {X : CX} {Λ : LY} (C : OK X Λ cX3_isOf 2 RX3 0 0) {σ : St} {res : Int32} (E : EN X Λ (some .boolean) (some (.int res)) σ) (i0 : Nat) (a1 : Int32) (hi0 : i0 < 10) (hres : (f3_isOf σ i0 a1) = res) : VV X Λ 2 0 [(0, .ref (adr Λ (27 + i0))), (1, .int (a1))] [] σ := by
  unfold f3_isOf at hres
  refine v_iload_n (pc2 := 1) C 1 dX3_isOf_0 rfl rfl ?_
  refine v_ifeq (pc2 := 12) (pc3 := 4) C dX3_isOf_1 rfl rfl (fun h1 => ?_) (fun h1 => ?_)
  · have hres := (if_pos h1).symm.trans hres
    refine v_iconst (pc2 := 13) C dX3_isOf_12 ki_1 rfl ?_
    refine v_goto (pc2 := 17) C dX3_isOf_13 rfl ?_
    exact r_zP C E (Or.inr rfl) hres dX3_isOf_17
  · have hres := (if_neg h1).symm.trans hres
    refine v_iload_n (pc2 := 5) C 1 dX3_isOf_4 rfl rfl ?_
    refine v_aload_n (pc2 := 6) C 0 dX3_isOf_5 rfl rfl ?_
    refine vg_X3_kind (pc2 := 9) C hi0 lf_X3_15 dX3_isOf_6 rfl ?_
    refine v_icmpne (pc2 := 16) (pc3 := 12) C dX3_isOf_9 rfl rfl (fun h9 => ?_) (fun h9 => ?_)
    · have hres := (if_neg h9).symm.trans hres
      refine v_iconst (pc2 := 17) C dX3_isOf_16 ki_0 rfl ?_
      exact r_zP C E (Or.inl rfl) hres dX3_isOf_17
    · have hres := (if_pos h9).symm.trans hres
      refine v_iconst (pc2 := 13) C dX3_isOf_12 ki_1 rfl ?_
      refine v_goto (pc2 := 17) C dX3_isOf_13 rfl ?_
      exact r_zP C E (Or.inr rfl) hres dX3_isOf_17
theorem mX3_isOf (l : Launch) (Λ : LY) (σ : St) (i0 : Nat) (hi0 : i0 < 10) (a1 : Int32)  : CT l Λ yX3_isOf cX3_isOf 2 (some .boolean) 0 0 [.ref (adr Λ (27 + i0)), .int (a1)] σ (some (.int (f3_isOf σ i0 a1))) σ := by
  refine CT_of (by decide +kernel) (Nat.le_of_ble_eq_true rfl) ?_
  intro X hX C E
  obtain ⟨res, hres⟩ : ∃ r, (f3_isOf σ i0 a1) = r := ⟨_, rfl⟩
  rw [hres] at E
  exact bf3_isOf C E _ _ hi0  hres
theorem zX3_isOf (σ : St) (i0 : Nat) (a1 : Int32) : (f3_isOf σ i0 a1) = 0 ∨ (f3_isOf σ i0 a1) = 1 := by
  unfold f3_isOf; repeat' split
  all_goals first | exact Or.inl rfl | exact Or.inr rfl
def f3_loseDust (σ : St) (i0 : Nat) : Int32 × St :=
  (if (gA σ 14 i0) ≤ (0 : Int32) then ((0 : Int32), (uA σ 14 i0 (0 : Int32))) else ((1 : Int32), (uA σ 14 i0 (0 : Int32))))
set_option maxHeartbeats 4000000 in
set_option maxRecDepth 100000 in
theorem bf3_loseDust {X : CX} {Λ : LY} (C : OK X Λ cX3_loseDust 2 RX3 0 0) {res : Int32 × St} (E : EN X Λ (some .boolean) (some (.int res.1)) res.2) (σ : St) (i0 : Nat) (hi0 : i0 < 10) (hres : (f3_loseDust σ i0) = res) : VV X Λ 2 0 [(0, .ref (adr Λ (27 + i0)))] [] σ := by
  unfold f3_loseDust at hres
  refine v_aload_n (pc2 := 1) C 0 dX3_loseDust_0 rfl rfl ?_
  refine vg_X3_dirt (pc2 := 4) C hi0 lf_X3_27 dX3_loseDust_1 rfl ?_
  refine v_ifle (pc2 := 11) (pc3 := 7) C dX3_loseDust_4 rfl rfl (fun h4 => ?_) (fun h4 => ?_)
  · have hres := (if_pos h4).symm.trans hres
    refine v_iconst (pc2 := 12) C dX3_loseDust_11 ki_0 rfl ?_
    refine v_istore_n (pc2 := 13) (lv2 := [(1, _), (0, _)]) C dX3_loseDust_12 (by decide) rfl rfl ?_
    refine v_aload_n (pc2 := 14) C 1 dX3_loseDust_13 rfl rfl ?_
    refine v_iconst (pc2 := 15) C dX3_loseDust_14 ki_0 rfl ?_
    refine vp_X3_dirt (pc2 := 18) C hi0 lf_X3_27 dX3_loseDust_15 rfl ?_
    refine v_iload_n (pc2 := 19) C 0 dX3_loseDust_18 rfl rfl ?_
    exact r_zS C E (Or.inl rfl) hres dX3_loseDust_19
  · have hres := (if_neg h4).symm.trans hres
    refine v_iconst (pc2 := 8) C dX3_loseDust_7 ki_1 rfl ?_
    refine v_goto (pc2 := 12) C dX3_loseDust_8 rfl ?_
    refine v_istore_n (pc2 := 13) (lv2 := [(1, _), (0, _)]) C dX3_loseDust_12 (by decide) rfl rfl ?_
    refine v_aload_n (pc2 := 14) C 1 dX3_loseDust_13 rfl rfl ?_
    refine v_iconst (pc2 := 15) C dX3_loseDust_14 ki_0 rfl ?_
    refine vp_X3_dirt (pc2 := 18) C hi0 lf_X3_27 dX3_loseDust_15 rfl ?_
    refine v_iload_n (pc2 := 19) C 0 dX3_loseDust_18 rfl rfl ?_
    exact r_zS C E (Or.inr rfl) hres dX3_loseDust_19
theorem mX3_loseDust (l : Launch) (Λ : LY) (σ : St) (i0 : Nat) (hi0 : i0 < 10)  : CT l Λ yX3_loseDust cX3_loseDust 2 (some .boolean) 0 0 [.ref (adr Λ (27 + i0))] σ (some (.int (f3_loseDust σ i0).1)) (f3_loseDust σ i0).2 := by
  refine CT_of (by decide +kernel) (Nat.le_of_ble_eq_true rfl) ?_
  intro X hX C E
  obtain ⟨res, hres⟩ : ∃ r, (f3_loseDust σ i0) = r := ⟨_, rfl⟩
  rw [hres] at E
  exact bf3_loseDust C E _ _ hi0  hres
theorem zX3_loseDust (σ : St) (i0 : Nat) : (f3_loseDust σ i0).1 = 0 ∨ (f3_loseDust σ i0).1 = 1 := by
  unfold f3_loseDust; repeat' split
  all_goals first | exact Or.inl rfl | exact Or.inr rfl
def f6_clear (σ : St) : St :=
  (uI σ 12 (0 : Int32))
set_option maxHeartbeats 4000000 in
set_option maxRecDepth 100000 in
theorem bf6_clear {X : CX} {Λ : LY} (C : OK X Λ cX6_clear 1 RX6 0 0) {res : St} (E : EN X Λ none none res) (σ : St)  (hres : (f6_clear σ) = res) : VV X Λ 1 0 [(0, .ref (adr Λ 7))] [] σ := by
  unfold f6_clear at hres
  refine v_aload_n (pc2 := 1) C 0 dX6_clear_0 rfl rfl ?_
  refine v_iconst (pc2 := 2) C dX6_clear_1 ki_0 rfl ?_
  refine vp_X6_size (pc2 := 5) C lf_X6_15 dX6_clear_2 rfl ?_
  exact r_vS C E hres dX6_clear_5
theorem mX6_clear (l : Launch) (Λ : LY) (σ : St)  : CT l Λ yX6_clear cX6_clear 1 none 0 0 [.ref (adr Λ 7)] σ none (f6_clear σ) := by
  refine CT_of (by decide +kernel) (Nat.le_of_ble_eq_true rfl) ?_
  intro X hX C E
  obtain ⟨res, hres⟩ : ∃ r, (f6_clear σ) = r := ⟨_, rfl⟩
  rw [hres] at E
  exact bf6_clear C E _   hres
def f6_append (σ : St) (a1 : Int32) : St :=
  (if (72 : Int32) ≤ (gI σ 12) then σ else (uI (uA σ 8 (Int32.toNatClampNeg (gI σ 12)) a1) 12 ((gI (uA σ 8 (Int32.toNatClampNeg (gI σ 12)) a1) 12) + (1 : Int32))))
set_option maxHeartbeats 4000000 in
set_option maxRecDepth 100000 in
theorem bf6_append {X : CX} {Λ : LY} (C : OK X Λ cX6_append 2 RX6 0 0) {res : St} (E : EN X Λ none none res) (σ : St) (a1 : Int32) (hs : Safe σ) (hres : (f6_append σ a1) = res) : VV X Λ 2 0 [(0, .ref (adr Λ 7)), (1, .int (a1))] [] σ := by
  unfold f6_append at hres
  have hq := hs.sz
  refine v_aload_n (pc2 := 1) C 0 dX6_append_0 rfl rfl ?_
  refine vg_X6_size (pc2 := 4) C lf_X6_15 dX6_append_1 rfl ?_
  refine v_bipush (pc2 := 6) C dX6_append_4 kb_72 rfl ?_
  refine v_icmpge (pc2 := 29) (pc3 := 9) C dX6_append_6 rfl rfl (fun h6 => ?_) (fun h6 => ?_)
  · have hres := (if_pos h6).symm.trans hres
    have t6 := t_le h6 lit_72 rfl
    exact r_vS C E hres dX6_append_29
  · have hres := (if_neg h6).symm.trans hres
    have t6 := t_nle h6 lit_72 rfl
    refine v_aload_n (pc2 := 10) C 0 dX6_append_9 rfl rfl ?_
    refine vg_X6_numbers (pc2 := 13) C lf_X6_9 dX6_append_10 rfl ?_
    refine v_aload_n (pc2 := 14) C 0 dX6_append_13 rfl rfl ?_
    refine vg_X6_size (pc2 := 17) C lf_X6_15 dX6_append_14 rfl ?_
    refine v_iload_n (pc2 := 18) C 1 dX6_append_17 rfl rfl ?_
    refine as22 (pc2 := 19) C (vin (by omega) (by omega)) dX6_append_18 rfl ?_
    refine v_aload_n (pc2 := 20) C 0 dX6_append_19 rfl rfl ?_
    refine v_dup (pc2 := 21) C dX6_append_20 rfl rfl ?_
    refine vg_X6_size (pc2 := 24) C lf_X6_15 dX6_append_21 rfl ?_
    refine v_iconst (pc2 := 25) C dX6_append_24 ki_1 rfl ?_
    refine v_iadd (pc2 := 26) C dX6_append_25 rfl ?_
    refine vp_X6_size (pc2 := 29) C lf_X6_15 dX6_append_26 rfl ?_
    exact r_vS C E hres dX6_append_29
theorem mX6_append (l : Launch) (Λ : LY) (σ : St) (a1 : Int32) (hs : Safe σ) : CT l Λ yX6_append cX6_append 2 none 0 0 [.ref (adr Λ 7), .int (a1)] σ none (f6_append σ a1) := by
  refine CT_of (by decide +kernel) (Nat.le_of_ble_eq_true rfl) ?_
  intro X hX C E
  obtain ⟨res, hres⟩ : ∃ r, (f6_append σ a1) = r := ⟨_, rfl⟩
  rw [hres] at E
  exact bf6_append C E _ _  hs hres
def f4_put (σ : St) (a1 : Int32) (a2 : Int32) (a3 : Int32) : St :=
  (uA (uA σ 2 (Int32.toNatClampNeg a1) a2) 3 (Int32.toNatClampNeg a1) a3)
set_option maxHeartbeats 4000000 in
set_option maxRecDepth 100000 in
theorem bf4_put {X : CX} {Λ : LY} (C : OK X Λ cX4_put 4 RX4 0 0) {res : St} (E : EN X Λ none none res) (σ : St) (a1 : Int32) (a2 : Int32) (a3 : Int32) (h1 : vp_in a1 24) (hres : (f4_put σ a1 a2 a3) = res) : VV X Λ 4 0 [(0, .ref (adr Λ 2)), (1, .int (a1)), (2, .int (a2)), (3, .int (a3))] [] σ := by
  unfold f4_put at hres
  refine v_aload_n (pc2 := 1) C 0 dX4_put_0 rfl rfl ?_
  refine vg_X4_x (pc2 := 4) C lf_X4_9 dX4_put_1 rfl ?_
  refine v_iload_n (pc2 := 5) C 1 dX4_put_4 rfl rfl ?_
  refine v_iload_n (pc2 := 6) C 2 dX4_put_5 rfl rfl ?_
  refine as14 (pc2 := 7) C h1 dX4_put_6 rfl ?_
  refine v_aload_n (pc2 := 8) C 0 dX4_put_7 rfl rfl ?_
  refine vg_X4_y (pc2 := 11) C lf_X4_15 dX4_put_8 rfl ?_
  refine v_iload_n (pc2 := 12) C 1 dX4_put_11 rfl rfl ?_
  refine v_iload_n (pc2 := 13) C 3 dX4_put_12 rfl rfl ?_
  refine as15 (pc2 := 14) C h1 dX4_put_13 rfl ?_
  exact r_vS C E hres dX4_put_14
theorem mX4_put (l : Launch) (Λ : LY) (σ : St) (a1 : Int32) (a2 : Int32) (a3 : Int32) (h1 : vp_in a1 24) : CT l Λ yX4_put cX4_put 4 none 0 0 [.ref (adr Λ 2), .int (a1), .int (a2), .int (a3)] σ none (f4_put σ a1 a2 a3) := by
  refine CT_of (by decide +kernel) (Nat.le_of_ble_eq_true rfl) ?_
  intro X hX C E
  obtain ⟨res, hres⟩ : ∃ r, (f4_put σ a1 a2 a3) = r := ⟨_, rfl⟩
  rw [hres] at E
  exact bf4_put C E _ _ _ _  h1 hres
def f4_isNight (σ : St) (a1 : Int32) : Int32 :=
  (if (gA σ 3 (Int32.toNatClampNeg a1)) = (0 : Int32) then (1 : Int32) else (0 : Int32))
set_option maxHeartbeats 4000000 in
set_option maxRecDepth 100000 in
theorem bf4_isNight {X : CX} {Λ : LY} (C : OK X Λ cX4_isNight 2 RX4 0 0) {σ : St} {res : Int32} (E : EN X Λ (some .boolean) (some (.int res)) σ) (a1 : Int32) (h1 : vp_in a1 24) (hres : (f4_isNight σ a1) = res) : VV X Λ 2 0 [(0, .ref (adr Λ 2)), (1, .int (a1))] [] σ := by
  unfold f4_isNight at hres
  refine v_aload_n (pc2 := 1) C 0 dX4_isNight_0 rfl rfl ?_
  refine vg_X4_y (pc2 := 4) C lf_X4_15 dX4_isNight_1 rfl ?_
  refine v_iload_n (pc2 := 5) C 1 dX4_isNight_4 rfl rfl ?_
  refine al15 (pc2 := 6) C h1 dX4_isNight_5 rfl ?_
  refine v_ifne (pc2 := 13) (pc3 := 9) C dX4_isNight_6 rfl rfl (fun h6 => ?_) (fun h6 => ?_)
  · have hres := (if_neg h6).symm.trans hres
    refine v_iconst (pc2 := 14) C dX4_isNight_13 ki_0 rfl ?_
    exact r_zP C E (Or.inl rfl) hres dX4_isNight_14
  · have hres := (if_pos h6).symm.trans hres
    refine v_iconst (pc2 := 10) C dX4_isNight_9 ki_1 rfl ?_
    refine v_goto (pc2 := 14) C dX4_isNight_10 rfl ?_
    exact r_zP C E (Or.inr rfl) hres dX4_isNight_14
theorem mX4_isNight (l : Launch) (Λ : LY) (σ : St) (a1 : Int32) (h1 : vp_in a1 24) : CT l Λ yX4_isNight cX4_isNight 2 (some .boolean) 0 0 [.ref (adr Λ 2), .int (a1)] σ (some (.int (f4_isNight σ a1))) σ := by
  refine CT_of (by decide +kernel) (Nat.le_of_ble_eq_true rfl) ?_
  intro X hX C E
  obtain ⟨res, hres⟩ : ∃ r, (f4_isNight σ a1) = r := ⟨_, rfl⟩
  rw [hres] at E
  exact bf4_isNight C E _  h1 hres
theorem zX4_isNight (σ : St) (a1 : Int32) : (f4_isNight σ a1) = 0 ∨ (f4_isNight σ a1) = 1 := by
  unfold f4_isNight; repeat' split
  all_goals first | exact Or.inl rfl | exact Or.inr rfl
def f0_firstAhead (σ : St) (a1 : Int32) : Int32 :=
  (if (gI σ 3) ≤ (0 : Int32) then (0 : Int32) else (a1 + (1 : Int32)))
set_option maxHeartbeats 4000000 in
set_option maxRecDepth 100000 in
theorem bf0_firstAhead {X : CX} {Λ : LY} (C : OK X Λ cX0_firstAhead 2 RX0 0 0) {σ : St} {res : Int32} (E : EN X Λ (some .int) (some (.int res)) σ) (a1 : Int32)  (hres : (f0_firstAhead σ a1) = res) : VV X Λ 2 0 [(0, .ref (adr Λ 1)), (1, .int (a1))] [] σ := by
  unfold f0_firstAhead at hres
  refine v_aload_n (pc2 := 1) C 0 dX0_firstAhead_0 rfl rfl ?_
  refine vg_X0_sunX (pc2 := 4) C lf_X0_39 dX0_firstAhead_1 rfl ?_
  refine v_ifle (pc2 := 13) (pc3 := 7) C dX0_firstAhead_4 rfl rfl (fun h4 => ?_) (fun h4 => ?_)
  · have hres := (if_pos h4).symm.trans hres
    refine v_iconst (pc2 := 14) C dX0_firstAhead_13 ki_0 rfl ?_
    exact r_iP C E hres dX0_firstAhead_14
  · have hres := (if_neg h4).symm.trans hres
    refine v_iload_n (pc2 := 8) C 1 dX0_firstAhead_7 rfl rfl ?_
    refine v_iconst (pc2 := 9) C dX0_firstAhead_8 ki_1 rfl ?_
    refine v_iadd (pc2 := 10) C dX0_firstAhead_9 rfl ?_
    refine v_goto (pc2 := 14) C dX0_firstAhead_10 rfl ?_
    exact r_iP C E hres dX0_firstAhead_14
theorem mX0_firstAhead (l : Launch) (Λ : LY) (σ : St) (a1 : Int32)  : CT l Λ yX0_firstAhead cX0_firstAhead 2 (some .int) 0 0 [.ref (adr Λ 1), .int (a1)] σ (some (.int (f0_firstAhead σ a1))) σ := by
  refine CT_of (by decide +kernel) (Nat.le_of_ble_eq_true rfl) ?_
  intro X hX C E
  obtain ⟨res, hres⟩ : ∃ r, (f0_firstAhead σ a1) = r := ⟨_, rfl⟩
  rw [hres] at E
  exact bf0_firstAhead C E _   hres
def f0_lastAhead (σ : St) (a1 : Int32) : Int32 :=
  (if (gI σ 3) = (0 : Int32) then (-1 : Int32) else (if (gI σ 3) ≤ (0 : Int32) then (a1 - (1 : Int32)) else ((gI σ 2) - (1 : Int32))))
set_option maxHeartbeats 4000000 in
set_option maxRecDepth 100000 in
theorem bf0_lastAhead {X : CX} {Λ : LY} (C : OK X Λ cX0_lastAhead 2 RX0 0 0) {σ : St} {res : Int32} (E : EN X Λ (some .int) (some (.int res)) σ) (a1 : Int32)  (hres : (f0_lastAhead σ a1) = res) : VV X Λ 2 0 [(0, .ref (adr Λ 1)), (1, .int (a1))] [] σ := by
  unfold f0_lastAhead at hres
  refine v_aload_n (pc2 := 1) C 0 dX0_lastAhead_0 rfl rfl ?_
  refine vg_X0_sunX (pc2 := 4) C lf_X0_39 dX0_lastAhead_1 rfl ?_
  refine v_ifne (pc2 := 9) (pc3 := 7) C dX0_lastAhead_4 rfl rfl (fun h4 => ?_) (fun h4 => ?_)
  · have hres := (if_neg h4).symm.trans hres
    refine v_aload_n (pc2 := 10) C 0 dX0_lastAhead_9 rfl rfl ?_
    refine vg_X0_sunX (pc2 := 13) C lf_X0_39 dX0_lastAhead_10 rfl ?_
    refine v_ifle (pc2 := 25) (pc3 := 16) C dX0_lastAhead_13 rfl rfl (fun h13 => ?_) (fun h13 => ?_)
    · have hres := (if_pos h13).symm.trans hres
      refine v_iload_n (pc2 := 26) C 1 dX0_lastAhead_25 rfl rfl ?_
      refine v_iconst (pc2 := 27) C dX0_lastAhead_26 ki_1 rfl ?_
      refine v_isub (pc2 := 28) C dX0_lastAhead_27 rfl ?_
      exact r_iP C E hres dX0_lastAhead_28
    · have hres := (if_neg h13).symm.trans hres
      refine v_aload_n (pc2 := 17) C 0 dX0_lastAhead_16 rfl rfl ?_
      refine vg_X0_count (pc2 := 20) C lf_X0_35 dX0_lastAhead_17 rfl ?_
      refine v_iconst (pc2 := 21) C dX0_lastAhead_20 ki_1 rfl ?_
      refine v_isub (pc2 := 22) C dX0_lastAhead_21 rfl ?_
      refine v_goto (pc2 := 28) C dX0_lastAhead_22 rfl ?_
      exact r_iP C E hres dX0_lastAhead_28
  · have hres := (if_pos h4).symm.trans hres
    refine v_iconst (pc2 := 8) C dX0_lastAhead_7 ki_m1 rfl ?_
    exact r_iP C E hres dX0_lastAhead_8
theorem mX0_lastAhead (l : Launch) (Λ : LY) (σ : St) (a1 : Int32)  : CT l Λ yX0_lastAhead cX0_lastAhead 2 (some .int) 0 0 [.ref (adr Λ 1), .int (a1)] σ (some (.int (f0_lastAhead σ a1))) σ := by
  refine CT_of (by decide +kernel) (Nat.le_of_ble_eq_true rfl) ?_
  intro X hX C E
  obtain ⟨res, hres⟩ : ∃ r, (f0_lastAhead σ a1) = r := ⟨_, rfl⟩
  rw [hres] at E
  exact bf0_lastAhead C E _   hres
def f0_isAboveLast (σ : St) (a1 : Int32) : Int32 :=
  (if (gI σ 2) ≤ (0 : Int32) then (1 : Int32) else (if a1 ≤ (gA σ 11 (Int32.toNatClampNeg ((gI σ 2) - (1 : Int32)))) then (0 : Int32) else (1 : Int32)))
set_option maxHeartbeats 4000000 in
set_option maxRecDepth 100000 in
theorem bf0_isAboveLast {X : CX} {Λ : LY} (C : OK X Λ cX0_isAboveLast 2 RX0 0 0) {σ : St} {res : Int32} (E : EN X Λ (some .boolean) (some (.int res)) σ) (a1 : Int32) (hs : Safe σ) (hres : (f0_isAboveLast σ a1) = res) : VV X Λ 2 0 [(0, .ref (adr Λ 1)), (1, .int (a1))] [] σ := by
  unfold f0_isAboveLast at hres
  have hq := hs.cnt
  refine v_aload_n (pc2 := 1) C 0 dX0_isAboveLast_0 rfl rfl ?_
  refine vg_X0_count (pc2 := 4) C lf_X0_35 dX0_isAboveLast_1 rfl ?_
  refine v_ifle (pc2 := 25) (pc3 := 7) C dX0_isAboveLast_4 rfl rfl (fun h4 => ?_) (fun h4 => ?_)
  · have hres := (if_pos h4).symm.trans hres
    have t4 := t_le h4 rfl lit_0
    refine v_iconst (pc2 := 26) C dX0_isAboveLast_25 ki_1 rfl ?_
    refine v_goto (pc2 := 30) C dX0_isAboveLast_26 rfl ?_
    exact r_zP C E (Or.inr rfl) hres dX0_isAboveLast_30
  · have hres := (if_neg h4).symm.trans hres
    have t4 := t_nle h4 rfl lit_0
    refine v_iload_n (pc2 := 8) C 1 dX0_isAboveLast_7 rfl rfl ?_
    refine v_aload_n (pc2 := 9) C 0 dX0_isAboveLast_8 rfl rfl ?_
    refine vg_X0_rows (pc2 := 12) C lf_X0_11 dX0_isAboveLast_9 rfl ?_
    refine v_aload_n (pc2 := 13) C 0 dX0_isAboveLast_12 rfl rfl ?_
    refine vg_X0_count (pc2 := 16) C lf_X0_35 dX0_isAboveLast_13 rfl ?_
    refine v_iconst (pc2 := 17) C dX0_isAboveLast_16 ki_1 rfl ?_
    refine v_isub (pc2 := 18) C dX0_isAboveLast_17 rfl ?_
    have in18 : vp_in ((gI σ 2) - (1 : Int32)) 10 := (vin (by rw [i_sub (by rw [lit_1]; omega) (by rw [lit_1]; omega), lit_1]; omega) (by rw [i_sub (by rw [lit_1]; omega) (by rw [lit_1]; omega), lit_1]; omega))
    refine v_aald (pc2 := 19) C in18 dX0_isAboveLast_18 rfl ?_
    refine vg_X3_place (pc2 := 22) C (vlt in18) lf_X0_43 dX0_isAboveLast_19 rfl ?_
    refine v_icmple (pc2 := 29) (pc3 := 25) C dX0_isAboveLast_22 rfl rfl (fun h22 => ?_) (fun h22 => ?_)
    · have hres := (if_pos h22).symm.trans hres
      have t22 := t_le h22 rfl rfl
      refine v_iconst (pc2 := 30) C dX0_isAboveLast_29 ki_0 rfl ?_
      exact r_zP C E (Or.inl rfl) hres dX0_isAboveLast_30
    · have hres := (if_neg h22).symm.trans hres
      have t22 := t_nle h22 rfl rfl
      refine v_iconst (pc2 := 26) C dX0_isAboveLast_25 ki_1 rfl ?_
      refine v_goto (pc2 := 30) C dX0_isAboveLast_26 rfl ?_
      exact r_zP C E (Or.inr rfl) hres dX0_isAboveLast_30
theorem mX0_isAboveLast (l : Launch) (Λ : LY) (σ : St) (a1 : Int32) (hs : Safe σ) : CT l Λ yX0_isAboveLast cX0_isAboveLast 2 (some .boolean) 0 0 [.ref (adr Λ 1), .int (a1)] σ (some (.int (f0_isAboveLast σ a1))) σ := by
  refine CT_of (by decide +kernel) (Nat.le_of_ble_eq_true rfl) ?_
  intro X hX C E
  obtain ⟨res, hres⟩ : ∃ r, (f0_isAboveLast σ a1) = r := ⟨_, rfl⟩
  rw [hres] at E
  exact bf0_isAboveLast C E _  hs hres
theorem zX0_isAboveLast (σ : St) (a1 : Int32) : (f0_isAboveLast σ a1) = 0 ∨ (f0_isAboveLast σ a1) = 1 := by
  unfold f0_isAboveLast; repeat' split
  all_goals first | exact Or.inl rfl | exact Or.inr rfl
def f2_stretch (σ : St) (a1 : Int32) : Int64 :=
  ((gB σ 5 (Int32.toNatClampNeg a1)) - (gB σ 4 (Int32.toNatClampNeg a1)))
set_option maxHeartbeats 4000000 in
set_option maxRecDepth 100000 in
theorem bf2_stretch {X : CX} {Λ : LY} (C : OK X Λ cX2_stretch 2 RX2 0 0) {σ : St} {res : Int64} (E : EN X Λ (some .long) (some (.long res)) σ) (a1 : Int32) (h1 : vp_in a1 10) (hres : (f2_stretch σ a1) = res) : VV X Λ 2 0 [(0, .ref (adr Λ 10)), (1, .int (a1))] [] σ := by
  unfold f2_stretch at hres
  refine v_aload_n (pc2 := 1) C 0 dX2_stretch_0 rfl rfl ?_
  refine vg_X2_end (pc2 := 4) C lf_X2_15 dX2_stretch_1 rfl ?_
  refine v_iload_n (pc2 := 5) C 1 dX2_stretch_4 rfl rfl ?_
  refine al24 (pc2 := 6) C h1 dX2_stretch_5 rfl ?_
  refine v_aload_n (pc2 := 7) C 0 dX2_stretch_6 rfl rfl ?_
  refine vg_X2_start (pc2 := 10) C lf_X2_9 dX2_stretch_7 rfl ?_
  refine v_iload_n (pc2 := 11) C 1 dX2_stretch_10 rfl rfl ?_
  refine al23 (pc2 := 12) C h1 dX2_stretch_11 rfl ?_
  refine v_lsub (pc2 := 13) C dX2_stretch_12 rfl ?_
  exact r_lP C E hres dX2_stretch_13
theorem mX2_stretch (l : Launch) (Λ : LY) (σ : St) (a1 : Int32) (h1 : vp_in a1 10) : CT l Λ yX2_stretch cX2_stretch 2 (some .long) 0 0 [.ref (adr Λ 10), .int (a1)] σ (some (.long (f2_stretch σ a1))) σ := by
  refine CT_of (by decide +kernel) (Nat.le_of_ble_eq_true rfl) ?_
  intro X hX C E
  obtain ⟨res, hres⟩ : ∃ r, (f2_stretch σ a1) = r := ⟨_, rfl⟩
  rw [hres] at E
  exact bf2_stretch C E _  h1 hres
def f2_isLit (σ : St) (a1 : Int32) : Int32 :=
  (if (gB σ 5 (Int32.toNatClampNeg a1)) ≤ (gB σ 4 (Int32.toNatClampNeg a1)) then (0 : Int32) else (1 : Int32))
set_option maxHeartbeats 4000000 in
set_option maxRecDepth 100000 in
theorem bf2_isLit {X : CX} {Λ : LY} (C : OK X Λ cX2_isLit 2 RX2 0 0) {σ : St} {res : Int32} (E : EN X Λ (some .boolean) (some (.int res)) σ) (a1 : Int32) (h1 : vp_in a1 10) (hres : (f2_isLit σ a1) = res) : VV X Λ 2 0 [(0, .ref (adr Λ 10)), (1, .int (a1))] [] σ := by
  unfold f2_isLit at hres
  refine v_aload_n (pc2 := 1) C 0 dX2_isLit_0 rfl rfl ?_
  refine vg_X2_end (pc2 := 4) C lf_X2_15 dX2_isLit_1 rfl ?_
  refine v_iload_n (pc2 := 5) C 1 dX2_isLit_4 rfl rfl ?_
  refine al24 (pc2 := 6) C h1 dX2_isLit_5 rfl ?_
  refine v_aload_n (pc2 := 7) C 0 dX2_isLit_6 rfl rfl ?_
  refine vg_X2_start (pc2 := 10) C lf_X2_9 dX2_isLit_7 rfl ?_
  refine v_iload_n (pc2 := 11) C 1 dX2_isLit_10 rfl rfl ?_
  refine al23 (pc2 := 12) C h1 dX2_isLit_11 rfl ?_
  refine v_lcle (pc2 := 20) (pc3 := 16) C dX2_isLit_12 dX2_isLit_13 rfl rfl (fun h12 => ?_) (fun h12 => ?_)
  · have hres := (if_pos h12).symm.trans hres
    refine v_iconst (pc2 := 21) C dX2_isLit_20 ki_0 rfl ?_
    exact r_zP C E (Or.inl rfl) hres dX2_isLit_21
  · have hres := (if_neg h12).symm.trans hres
    refine v_iconst (pc2 := 17) C dX2_isLit_16 ki_1 rfl ?_
    refine v_goto (pc2 := 21) C dX2_isLit_17 rfl ?_
    exact r_zP C E (Or.inr rfl) hres dX2_isLit_21
theorem mX2_isLit (l : Launch) (Λ : LY) (σ : St) (a1 : Int32) (h1 : vp_in a1 10) : CT l Λ yX2_isLit cX2_isLit 2 (some .boolean) 0 0 [.ref (adr Λ 10), .int (a1)] σ (some (.int (f2_isLit σ a1))) σ := by
  refine CT_of (by decide +kernel) (Nat.le_of_ble_eq_true rfl) ?_
  intro X hX C E
  obtain ⟨res, hres⟩ : ∃ r, (f2_isLit σ a1) = r := ⟨_, rfl⟩
  rw [hres] at E
  exact bf2_isLit C E _  h1 hres
theorem zX2_isLit (σ : St) (a1 : Int32) : (f2_isLit σ a1) = 0 ∨ (f2_isLit σ a1) = 1 := by
  unfold f2_isLit; repeat' split
  all_goals first | exact Or.inl rfl | exact Or.inr rfl
def f2_shadeStart (σ : St) (a1 : Int32) (a2 : Int32) : Int64 :=
  (if (if (gB σ 5 (Int32.toNatClampNeg a2)) < (gB σ 4 (Int32.toNatClampNeg a2)) then (gB σ 5 (Int32.toNatClampNeg a2)) else (gB σ 4 (Int32.toNatClampNeg a2))) < (gB σ 4 (Int32.toNatClampNeg a1)) then (gB σ 4 (Int32.toNatClampNeg a1)) else (if (gB σ 5 (Int32.toNatClampNeg a2)) < (gB σ 4 (Int32.toNatClampNeg a2)) then (gB σ 5 (Int32.toNatClampNeg a2)) else (gB σ 4 (Int32.toNatClampNeg a2))))
set_option maxHeartbeats 4000000 in
set_option maxRecDepth 100000 in
theorem bf2_shadeStart {X : CX} {Λ : LY} (C : OK X Λ cX2_shadeStart 3 RX2 1 23) {σ : St} {res : Int64} (E : EN X Λ (some .long) (some (.long res)) σ) (a1 : Int32) (a2 : Int32) (h1 : vp_in a1 10) (h2 : vp_in a2 10) (hres : (f2_shadeStart σ a1 a2) = res) : VV X Λ 3 0 [(0, .ref (adr Λ 10)), (1, .int (a1)), (2, .int (a2))] [] σ := by
  unfold f2_shadeStart at hres
  refine v_aload_n (pc2 := 1) C 0 dX2_shadeStart_0 rfl rfl ?_
  refine vg_X2_start (pc2 := 4) C lf_X2_9 dX2_shadeStart_1 rfl ?_
  refine v_iload_n (pc2 := 5) C 1 dX2_shadeStart_4 rfl rfl ?_
  refine al23 (pc2 := 6) C h1 dX2_shadeStart_5 rfl ?_
  refine v_aload_n (pc2 := 7) C 0 dX2_shadeStart_6 rfl rfl ?_
  refine vg_X2_start (pc2 := 10) C lf_X2_9 dX2_shadeStart_7 rfl ?_
  refine v_iload_n (pc2 := 11) C 2 dX2_shadeStart_10 rfl rfl ?_
  refine al23 (pc2 := 12) C h2 dX2_shadeStart_11 rfl ?_
  refine v_aload_n (pc2 := 13) C 0 dX2_shadeStart_12 rfl rfl ?_
  refine vg_X2_end (pc2 := 16) C lf_X2_15 dX2_shadeStart_13 rfl ?_
  refine v_iload_n (pc2 := 17) C 2 dX2_shadeStart_16 rfl rfl ?_
  refine al24 (pc2 := 18) C h2 dX2_shadeStart_17 rfl ?_
  refine v_lmin (pc2 := 21) C ml_X2_65 ms_lmin mi_Math mc_lmin (by decide) (Nat.le_of_ble_eq_true rfl) dX2_shadeStart_18 rfl ?_
  refine v_lmax (pc2 := 24) C ml_X2_69 ms_lmax mi_Math mc_lmax (by decide) (Nat.le_of_ble_eq_true rfl) dX2_shadeStart_21 rfl ?_
  exact r_lP C E hres dX2_shadeStart_24
theorem mX2_shadeStart (l : Launch) (Λ : LY) (σ : St) (a1 : Int32) (a2 : Int32) (h1 : vp_in a1 10) (h2 : vp_in a2 10) : CT l Λ yX2_shadeStart cX2_shadeStart 3 (some .long) 1 23 [.ref (adr Λ 10), .int (a1), .int (a2)] σ (some (.long (f2_shadeStart σ a1 a2))) σ := by
  refine CT_of (by decide +kernel) (Nat.le_of_ble_eq_true rfl) ?_
  intro X hX C E
  obtain ⟨res, hres⟩ : ∃ r, (f2_shadeStart σ a1 a2) = r := ⟨_, rfl⟩
  rw [hres] at E
  exact bf2_shadeStart C E _ _  h1 h2 hres
def f2_shadeEnd (σ : St) (a1 : Int32) (a2 : Int32) : Int64 :=
  (if (if (gB σ 5 (Int32.toNatClampNeg a2)) < (gB σ 4 (Int32.toNatClampNeg a2)) then (gB σ 4 (Int32.toNatClampNeg a2)) else (gB σ 5 (Int32.toNatClampNeg a2))) < (gB σ 5 (Int32.toNatClampNeg a1)) then (if (gB σ 5 (Int32.toNatClampNeg a2)) < (gB σ 4 (Int32.toNatClampNeg a2)) then (gB σ 4 (Int32.toNatClampNeg a2)) else (gB σ 5 (Int32.toNatClampNeg a2))) else (gB σ 5 (Int32.toNatClampNeg a1)))
set_option maxHeartbeats 4000000 in
set_option maxRecDepth 100000 in
theorem bf2_shadeEnd {X : CX} {Λ : LY} (C : OK X Λ cX2_shadeEnd 3 RX2 1 23) {σ : St} {res : Int64} (E : EN X Λ (some .long) (some (.long res)) σ) (a1 : Int32) (a2 : Int32) (h1 : vp_in a1 10) (h2 : vp_in a2 10) (hres : (f2_shadeEnd σ a1 a2) = res) : VV X Λ 3 0 [(0, .ref (adr Λ 10)), (1, .int (a1)), (2, .int (a2))] [] σ := by
  unfold f2_shadeEnd at hres
  refine v_aload_n (pc2 := 1) C 0 dX2_shadeEnd_0 rfl rfl ?_
  refine vg_X2_end (pc2 := 4) C lf_X2_15 dX2_shadeEnd_1 rfl ?_
  refine v_iload_n (pc2 := 5) C 1 dX2_shadeEnd_4 rfl rfl ?_
  refine al24 (pc2 := 6) C h1 dX2_shadeEnd_5 rfl ?_
  refine v_aload_n (pc2 := 7) C 0 dX2_shadeEnd_6 rfl rfl ?_
  refine vg_X2_start (pc2 := 10) C lf_X2_9 dX2_shadeEnd_7 rfl ?_
  refine v_iload_n (pc2 := 11) C 2 dX2_shadeEnd_10 rfl rfl ?_
  refine al23 (pc2 := 12) C h2 dX2_shadeEnd_11 rfl ?_
  refine v_aload_n (pc2 := 13) C 0 dX2_shadeEnd_12 rfl rfl ?_
  refine vg_X2_end (pc2 := 16) C lf_X2_15 dX2_shadeEnd_13 rfl ?_
  refine v_iload_n (pc2 := 17) C 2 dX2_shadeEnd_16 rfl rfl ?_
  refine al24 (pc2 := 18) C h2 dX2_shadeEnd_17 rfl ?_
  refine v_lmax (pc2 := 21) C ml_X2_69 ms_lmax mi_Math mc_lmax (by decide) (Nat.le_of_ble_eq_true rfl) dX2_shadeEnd_18 rfl ?_
  refine v_lmin (pc2 := 24) C ml_X2_65 ms_lmin mi_Math mc_lmin (by decide) (Nat.le_of_ble_eq_true rfl) dX2_shadeEnd_21 rfl ?_
  exact r_lP C E hres dX2_shadeEnd_24
theorem mX2_shadeEnd (l : Launch) (Λ : LY) (σ : St) (a1 : Int32) (a2 : Int32) (h1 : vp_in a1 10) (h2 : vp_in a2 10) : CT l Λ yX2_shadeEnd cX2_shadeEnd 3 (some .long) 1 23 [.ref (adr Λ 10), .int (a1), .int (a2)] σ (some (.long (f2_shadeEnd σ a1 a2))) σ := by
  refine CT_of (by decide +kernel) (Nat.le_of_ble_eq_true rfl) ?_
  intro X hX C E
  obtain ⟨res, hres⟩ : ∃ r, (f2_shadeEnd σ a1 a2) = r := ⟨_, rfl⟩
  rw [hres] at E
  exact bf2_shadeEnd C E _ _  h1 h2 hres
def f7_gain (σ : St) (i1 : Nat) (a2 : Int32) (a3 : Int32) : Int64 :=
  ((((Int32.toInt64 (gA σ 14 i1)) * (Int32.toInt64 (gA σ 13 i1))) * (Int32.toInt64 a2)) - (Int32.toInt64 a3))
set_option maxHeartbeats 4000000 in
set_option maxRecDepth 100000 in
theorem bf7_gain {X : CX} {Λ : LY} (C : OK X Λ cX7_gain 3 RX7 0 0) {σ : St} {res : Int64} (E : EN X Λ (some .long) (some (.long res)) σ) (i1 : Nat) (a2 : Int32) (a3 : Int32) (hi1 : i1 < 10) (hres : (f7_gain σ i1 a2 a3) = res) : VV X Λ 3 0 [(0, .ref (adr Λ (27 + i1))), (1, .int (a2)), (2, .int (a3))] [] σ := by
  unfold f7_gain at hres
  refine v_aload_n (pc2 := 1) C 0 dX7_gain_0 rfl rfl ?_
  refine vg_X3_dirt (pc2 := 4) C hi1 lf_X7_36 dX7_gain_1 rfl ?_
  refine v_i2l (pc2 := 5) C dX7_gain_4 rfl ?_
  refine v_aload_n (pc2 := 6) C 0 dX7_gain_5 rfl rfl ?_
  refine vg_X3_width (pc2 := 9) C hi1 lf_X7_41 dX7_gain_6 rfl ?_
  refine v_i2l (pc2 := 10) C dX7_gain_9 rfl ?_
  refine v_lmul (pc2 := 11) C dX7_gain_10 rfl ?_
  refine v_iload_n (pc2 := 12) C 1 dX7_gain_11 rfl rfl ?_
  refine v_i2l (pc2 := 13) C dX7_gain_12 rfl ?_
  refine v_lmul (pc2 := 14) C dX7_gain_13 rfl ?_
  refine v_iload_n (pc2 := 15) C 2 dX7_gain_14 rfl rfl ?_
  refine v_i2l (pc2 := 16) C dX7_gain_15 rfl ?_
  refine v_lsub (pc2 := 17) C dX7_gain_16 rfl ?_
  exact r_lP C E hres dX7_gain_17
theorem mX7_gain (l : Launch) (Λ : LY) (σ : St) (i1 : Nat) (hi1 : i1 < 10) (a2 : Int32) (a3 : Int32)  : CT l Λ yX7_gain cX7_gain 3 (some .long) 0 0 [.ref (adr Λ (27 + i1)), .int (a2), .int (a3)] σ (some (.long (f7_gain σ i1 a2 a3))) σ := by
  refine CT_of (by decide +kernel) (Nat.le_of_ble_eq_true rfl) ?_
  intro X hX C E
  obtain ⟨res, hres⟩ : ∃ r, (f7_gain σ i1 a2 a3) = r := ⟨_, rfl⟩
  rw [hres] at E
  exact bf7_gain C E _ _ _ hi1  hres
def f7_take (σ : St) (a1 : Int64) (a2 : Int32) : St :=
  (if (gJ σ 0) < a1 then (uI (uJ σ 0 a1) 11 a2) else (if a1 = (gJ σ 0) then (if (gI σ 11) ≤ a2 then σ else (uI (uJ σ 0 a1) 11 a2)) else σ))
set_option maxHeartbeats 4000000 in
set_option maxRecDepth 100000 in
theorem bf7_take {X : CX} {Λ : LY} (C : OK X Λ cX7_take 4 RX7 0 0) {res : St} (E : EN X Λ none none res) (σ : St) (a1 : Int64) (a2 : Int32)  (hres : (f7_take σ a1 a2) = res) : VV X Λ 4 0 [(0, .ref (adr Λ 6)), (1, .long (a1)), (3, .int (a2))] [] σ := by
  unfold f7_take at hres
  refine v_lload_n (pc2 := 1) C 1 dX7_take_0 rfl rfl ?_
  refine v_aload_n (pc2 := 2) C 0 dX7_take_1 rfl rfl ?_
  refine vg_X7_bestValue (pc2 := 5) C lf_X7_13 dX7_take_2 rfl ?_
  refine v_lcgt (pc2 := 26) (pc3 := 9) C dX7_take_5 dX7_take_6 rfl rfl (fun h5 => ?_) (fun h5 => ?_)
  · have hres := (if_pos h5).symm.trans hres
    refine v_aload_n (pc2 := 27) C 0 dX7_take_26 rfl rfl ?_
    refine v_lload_n (pc2 := 28) C 1 dX7_take_27 rfl rfl ?_
    refine vp_X7_bestValue (pc2 := 31) C lf_X7_13 dX7_take_28 rfl ?_
    refine v_aload_n (pc2 := 32) C 0 dX7_take_31 rfl rfl ?_
    refine v_iload_n (pc2 := 33) C 2 dX7_take_32 rfl rfl ?_
    refine vp_X7_bestSet (pc2 := 36) C lf_X7_7 dX7_take_33 rfl ?_
    exact r_vS C E hres dX7_take_36
  · have hres := (if_neg h5).symm.trans hres
    refine v_lload_n (pc2 := 10) C 1 dX7_take_9 rfl rfl ?_
    refine v_aload_n (pc2 := 11) C 0 dX7_take_10 rfl rfl ?_
    refine vg_X7_bestValue (pc2 := 14) C lf_X7_13 dX7_take_11 rfl ?_
    refine v_lcne (pc2 := 36) (pc3 := 18) C dX7_take_14 dX7_take_15 rfl rfl (fun h14 => ?_) (fun h14 => ?_)
    · have hres := (if_neg h14).symm.trans hres
      exact r_vS C E hres dX7_take_36
    · have hres := (if_pos h14).symm.trans hres
      refine v_iload_n (pc2 := 19) C 2 dX7_take_18 rfl rfl ?_
      refine v_aload_n (pc2 := 20) C 0 dX7_take_19 rfl rfl ?_
      refine vg_X7_bestSet (pc2 := 23) C lf_X7_7 dX7_take_20 rfl ?_
      refine v_icmpge (pc2 := 36) (pc3 := 26) C dX7_take_23 rfl rfl (fun h23 => ?_) (fun h23 => ?_)
      · have hres := (if_pos h23).symm.trans hres
        exact r_vS C E hres dX7_take_36
      · have hres := (if_neg h23).symm.trans hres
        refine v_aload_n (pc2 := 27) C 0 dX7_take_26 rfl rfl ?_
        refine v_lload_n (pc2 := 28) C 1 dX7_take_27 rfl rfl ?_
        refine vp_X7_bestValue (pc2 := 31) C lf_X7_13 dX7_take_28 rfl ?_
        refine v_aload_n (pc2 := 32) C 0 dX7_take_31 rfl rfl ?_
        refine v_iload_n (pc2 := 33) C 2 dX7_take_32 rfl rfl ?_
        refine vp_X7_bestSet (pc2 := 36) C lf_X7_7 dX7_take_33 rfl ?_
        exact r_vS C E hres dX7_take_36
theorem mX7_take (l : Launch) (Λ : LY) (σ : St) (a1 : Int64) (a2 : Int32)  : CT l Λ yX7_take cX7_take 4 none 0 0 [.ref (adr Λ 6), .long (a1), .int (a2)] σ none (f7_take σ a1 a2) := by
  refine CT_of (by decide +kernel) (Nat.le_of_ble_eq_true rfl) ?_
  intro X hX C E
  obtain ⟨res, hres⟩ : ∃ r, (f7_take σ a1 a2) = r := ⟨_, rfl⟩
  rw [hres] at E
  exact bf7_take C E _ _ _   hres
def f8_stateAt (σ : St) (a1 : Int32) : Int32 × St :=
  (if (gA σ 6 (Int32.toNatClampNeg a1)) = (-1 : Int32) then (if (gI (uI σ 6 (if (3 : Int32) < ((gI σ 6) + (1 : Int32)) then (3 : Int32) else ((gI σ 6) + (1 : Int32)))) 5) ≤ (gA σ 6 (Int32.toNatClampNeg a1)) then (if (gI (uI (uI σ 6 (if (3 : Int32) < ((gI σ 6) + (1 : Int32)) then (3 : Int32) else ((gI σ 6) + (1 : Int32)))) 7 (1 : Int32)) 7) = (0 : Int32) then (if (gA (uI (uI σ 6 (if (3 : Int32) < ((gI σ 6) + (1 : Int32)) then (3 : Int32) else ((gI σ 6) + (1 : Int32)))) 7 (1 : Int32)) 7 (Int32.toNatClampNeg a1)) = (0 : Int32) then ((0 : Int32), (uI (uI σ 6 (if (3 : Int32) < ((gI σ 6) + (1 : Int32)) then (3 : Int32) else ((gI σ 6) + (1 : Int32)))) 7 (1 : Int32))) else ((1 : Int32), (uI (uI σ 6 (if (3 : Int32) < ((gI σ 6) + (1 : Int32)) then (3 : Int32) else ((gI σ 6) + (1 : Int32)))) 7 (1 : Int32)))) else ((2 : Int32), (uI (uI σ 6 (if (3 : Int32) < ((gI σ 6) + (1 : Int32)) then (3 : Int32) else ((gI σ 6) + (1 : Int32)))) 7 (1 : Int32)))) else (if (gI (uI σ 6 (if (3 : Int32) < ((gI σ 6) + (1 : Int32)) then (3 : Int32) else ((gI σ 6) + (1 : Int32)))) 6) < (3 : Int32) then (if (gA σ 6 (Int32.toNatClampNeg a1)) = (-1 : Int32) then (if (gI (uI σ 6 (if (3 : Int32) < ((gI σ 6) + (1 : Int32)) then (3 : Int32) else ((gI σ 6) + (1 : Int32)))) 7) = (0 : Int32) then (if (gA (uI σ 6 (if (3 : Int32) < ((gI σ 6) + (1 : Int32)) then (3 : Int32) else ((gI σ 6) + (1 : Int32)))) 7 (Int32.toNatClampNeg a1)) = (0 : Int32) then ((0 : Int32), (uI σ 6 (if (3 : Int32) < ((gI σ 6) + (1 : Int32)) then (3 : Int32) else ((gI σ 6) + (1 : Int32))))) else ((1 : Int32), (uI σ 6 (if (3 : Int32) < ((gI σ 6) + (1 : Int32)) then (3 : Int32) else ((gI σ 6) + (1 : Int32)))))) else ((2 : Int32), (uI σ 6 (if (3 : Int32) < ((gI σ 6) + (1 : Int32)) then (3 : Int32) else ((gI σ 6) + (1 : Int32)))))) else (if ((gI (uI σ 6 (if (3 : Int32) < ((gI σ 6) + (1 : Int32)) then (3 : Int32) else ((gI σ 6) + (1 : Int32)))) 5) / (2 : Int32)) ≤ (gA σ 6 (Int32.toNatClampNeg a1)) then (if (gI (uI σ 6 (if (3 : Int32) < ((gI σ 6) + (1 : Int32)) then (3 : Int32) else ((gI σ 6) + (1 : Int32)))) 7) = (0 : Int32) then (if (gA (uI σ 6 (if (3 : Int32) < ((gI σ 6) + (1 : Int32)) then (3 : Int32) else ((gI σ 6) + (1 : Int32)))) 7 (Int32.toNatClampNeg a1)) = (0 : Int32) then ((0 : Int32), (uI σ 6 (if (3 : Int32) < ((gI σ 6) + (1 : Int32)) then (3 : Int32) else ((gI σ 6) + (1 : Int32))))) else ((1 : Int32), (uI σ 6 (if (3 : Int32) < ((gI σ 6) + (1 : Int32)) then (3 : Int32) else ((gI σ 6) + (1 : Int32)))))) else ((2 : Int32), (uI σ 6 (if (3 : Int32) < ((gI σ 6) + (1 : Int32)) then (3 : Int32) else ((gI σ 6) + (1 : Int32)))))) else (if (gI (uI (uI σ 6 (if (3 : Int32) < ((gI σ 6) + (1 : Int32)) then (3 : Int32) else ((gI σ 6) + (1 : Int32)))) 7 (0 : Int32)) 7) = (0 : Int32) then (if (gA (uI (uI σ 6 (if (3 : Int32) < ((gI σ 6) + (1 : Int32)) then (3 : Int32) else ((gI σ 6) + (1 : Int32)))) 7 (0 : Int32)) 7 (Int32.toNatClampNeg a1)) = (0 : Int32) then ((0 : Int32), (uI (uI σ 6 (if (3 : Int32) < ((gI σ 6) + (1 : Int32)) then (3 : Int32) else ((gI σ 6) + (1 : Int32)))) 7 (0 : Int32))) else ((1 : Int32), (uI (uI σ 6 (if (3 : Int32) < ((gI σ 6) + (1 : Int32)) then (3 : Int32) else ((gI σ 6) + (1 : Int32)))) 7 (0 : Int32)))) else ((2 : Int32), (uI (uI σ 6 (if (3 : Int32) < ((gI σ 6) + (1 : Int32)) then (3 : Int32) else ((gI σ 6) + (1 : Int32)))) 7 (0 : Int32)))))) else (if (gI (uI (uI σ 6 (if (3 : Int32) < ((gI σ 6) + (1 : Int32)) then (3 : Int32) else ((gI σ 6) + (1 : Int32)))) 7 (1 : Int32)) 7) = (0 : Int32) then (if (gA (uI (uI σ 6 (if (3 : Int32) < ((gI σ 6) + (1 : Int32)) then (3 : Int32) else ((gI σ 6) + (1 : Int32)))) 7 (1 : Int32)) 7 (Int32.toNatClampNeg a1)) = (0 : Int32) then ((0 : Int32), (uI (uI σ 6 (if (3 : Int32) < ((gI σ 6) + (1 : Int32)) then (3 : Int32) else ((gI σ 6) + (1 : Int32)))) 7 (1 : Int32))) else ((1 : Int32), (uI (uI σ 6 (if (3 : Int32) < ((gI σ 6) + (1 : Int32)) then (3 : Int32) else ((gI σ 6) + (1 : Int32)))) 7 (1 : Int32)))) else ((2 : Int32), (uI (uI σ 6 (if (3 : Int32) < ((gI σ 6) + (1 : Int32)) then (3 : Int32) else ((gI σ 6) + (1 : Int32)))) 7 (1 : Int32)))))) else (if (gI (uI σ 6 (0 : Int32)) 5) ≤ (gA σ 6 (Int32.toNatClampNeg a1)) then (if (gI (uI (uI σ 6 (0 : Int32)) 7 (1 : Int32)) 7) = (0 : Int32) then (if (gA (uI (uI σ 6 (0 : Int32)) 7 (1 : Int32)) 7 (Int32.toNatClampNeg a1)) = (0 : Int32) then ((0 : Int32), (uI (uI σ 6 (0 : Int32)) 7 (1 : Int32))) else ((1 : Int32), (uI (uI σ 6 (0 : Int32)) 7 (1 : Int32)))) else ((2 : Int32), (uI (uI σ 6 (0 : Int32)) 7 (1 : Int32)))) else (if (gI (uI σ 6 (0 : Int32)) 6) < (3 : Int32) then (if (gA σ 6 (Int32.toNatClampNeg a1)) = (-1 : Int32) then (if (gI (uI σ 6 (0 : Int32)) 7) = (0 : Int32) then (if (gA (uI σ 6 (0 : Int32)) 7 (Int32.toNatClampNeg a1)) = (0 : Int32) then ((0 : Int32), (uI σ 6 (0 : Int32))) else ((1 : Int32), (uI σ 6 (0 : Int32)))) else ((2 : Int32), (uI σ 6 (0 : Int32)))) else (if ((gI (uI σ 6 (0 : Int32)) 5) / (2 : Int32)) ≤ (gA σ 6 (Int32.toNatClampNeg a1)) then (if (gI (uI σ 6 (0 : Int32)) 7) = (0 : Int32) then (if (gA (uI σ 6 (0 : Int32)) 7 (Int32.toNatClampNeg a1)) = (0 : Int32) then ((0 : Int32), (uI σ 6 (0 : Int32))) else ((1 : Int32), (uI σ 6 (0 : Int32)))) else ((2 : Int32), (uI σ 6 (0 : Int32)))) else (if (gI (uI (uI σ 6 (0 : Int32)) 7 (0 : Int32)) 7) = (0 : Int32) then (if (gA (uI (uI σ 6 (0 : Int32)) 7 (0 : Int32)) 7 (Int32.toNatClampNeg a1)) = (0 : Int32) then ((0 : Int32), (uI (uI σ 6 (0 : Int32)) 7 (0 : Int32))) else ((1 : Int32), (uI (uI σ 6 (0 : Int32)) 7 (0 : Int32)))) else ((2 : Int32), (uI (uI σ 6 (0 : Int32)) 7 (0 : Int32)))))) else (if (gI (uI (uI σ 6 (0 : Int32)) 7 (1 : Int32)) 7) = (0 : Int32) then (if (gA (uI (uI σ 6 (0 : Int32)) 7 (1 : Int32)) 7 (Int32.toNatClampNeg a1)) = (0 : Int32) then ((0 : Int32), (uI (uI σ 6 (0 : Int32)) 7 (1 : Int32))) else ((1 : Int32), (uI (uI σ 6 (0 : Int32)) 7 (1 : Int32)))) else ((2 : Int32), (uI (uI σ 6 (0 : Int32)) 7 (1 : Int32)))))))
set_option maxHeartbeats 4000000 in
set_option maxRecDepth 100000 in
theorem bf8_stateAt {X : CX} {Λ : LY} (C : OK X Λ cX8_stateAt 3 RX8 1 23) {res : Int32 × St} (E : EN X Λ (some .int) (some (.int res.1)) res.2) (σ : St) (a1 : Int32) (h1 : vp_in a1 24) (hres : (f8_stateAt σ a1) = res) : VV X Λ 3 0 [(0, .ref (adr Λ 4)), (1, .int (a1))] [] σ := by
  unfold f8_stateAt at hres
  refine v_aload_n (pc2 := 1) C 0 dX8_stateAt_0 rfl rfl ?_
  refine vg_X8_readings (pc2 := 4) C lf_X8_9 dX8_stateAt_1 rfl ?_
  refine v_iload_n (pc2 := 5) C 1 dX8_stateAt_4 rfl rfl ?_
  refine al18 (pc2 := 6) C h1 dX8_stateAt_5 rfl ?_
  refine v_istore_n (pc2 := 7) (lv2 := [(2, _), (0, _), (1, _)]) C dX8_stateAt_6 (by decide) rfl rfl ?_
  refine v_aload_n (pc2 := 8) C 1 dX8_stateAt_7 rfl rfl ?_
  refine v_iload_n (pc2 := 9) C 0 dX8_stateAt_8 rfl rfl ?_
  refine v_iconst (pc2 := 10) C dX8_stateAt_9 ki_m1 rfl ?_
  refine v_icmpne (pc2 := 26) (pc3 := 13) C dX8_stateAt_10 rfl rfl (fun h10 => ?_) (fun h10 => ?_)
  · have hres := (if_neg h10).symm.trans hres
    refine v_iconst (pc2 := 27) C dX8_stateAt_26 ki_0 rfl ?_
    refine vp_X8_lostInARow (pc2 := 30) C lf_X8_23 dX8_stateAt_27 rfl ?_
    refine v_iload_n (pc2 := 31) C 0 dX8_stateAt_30 rfl rfl ?_
    refine v_aload_n (pc2 := 32) C 1 dX8_stateAt_31 rfl rfl ?_
    refine vg_X8_stowAt (pc2 := 35) C lf_X8_19 dX8_stateAt_32 rfl ?_
    refine v_icmpge (pc2 := 46) (pc3 := 38) C dX8_stateAt_35 rfl rfl (fun h35 => ?_) (fun h35 => ?_)
    · have hres := (if_pos h35).symm.trans hres
      refine v_aload_n (pc2 := 47) C 1 dX8_stateAt_46 rfl rfl ?_
      refine v_iconst (pc2 := 48) C dX8_stateAt_47 ki_1 rfl ?_
      refine vp_X8_isStowed (pc2 := 51) C (Or.inr rfl) lf_X8_26 dX8_stateAt_48 rfl ?_
      refine v_goto (pc2 := 74) C dX8_stateAt_51 rfl ?_
      refine v_aload_n (pc2 := 75) C 1 dX8_stateAt_74 rfl rfl ?_
      refine vg_X8_isStowed (pc2 := 78) C lf_X8_26 dX8_stateAt_75 rfl ?_
      refine v_ifeq (pc2 := 83) (pc3 := 81) C dX8_stateAt_78 rfl rfl (fun h78 => ?_) (fun h78 => ?_)
      · have hres := (if_pos h78).symm.trans hres
        refine v_aload_n (pc2 := 84) C 1 dX8_stateAt_83 rfl rfl ?_
        refine vg_X8_cleans (pc2 := 87) C lf_X8_15 dX8_stateAt_84 rfl ?_
        refine v_iload_n (pc2 := 88) C 2 dX8_stateAt_87 rfl rfl ?_
        refine al19 (pc2 := 89) C h1 dX8_stateAt_88 rfl ?_
        refine v_ifeq (pc2 := 96) (pc3 := 92) C dX8_stateAt_89 rfl rfl (fun h89 => ?_) (fun h89 => ?_)
        · have hres := (if_pos h89).symm.trans hres
          refine v_iconst (pc2 := 97) C dX8_stateAt_96 ki_0 rfl ?_
          exact r_iS C E hres dX8_stateAt_97
        · have hres := (if_neg h89).symm.trans hres
          refine v_iconst (pc2 := 93) C dX8_stateAt_92 ki_1 rfl ?_
          refine v_goto (pc2 := 97) C dX8_stateAt_93 rfl ?_
          exact r_iS C E hres dX8_stateAt_97
      · have hres := (if_neg h78).symm.trans hres
        refine v_iconst (pc2 := 82) C dX8_stateAt_81 ki_2 rfl ?_
        exact r_iS C E hres dX8_stateAt_82
    · have hres := (if_neg h35).symm.trans hres
      refine v_aload_n (pc2 := 39) C 1 dX8_stateAt_38 rfl rfl ?_
      refine vg_X8_lostInARow (pc2 := 42) C lf_X8_23 dX8_stateAt_39 rfl ?_
      refine v_iconst (pc2 := 43) C dX8_stateAt_42 ki_3 rfl ?_
      refine v_icmplt (pc2 := 54) (pc3 := 46) C dX8_stateAt_43 rfl rfl (fun h43 => ?_) (fun h43 => ?_)
      · have hres := (if_pos h43).symm.trans hres
        refine v_iload_n (pc2 := 55) C 0 dX8_stateAt_54 rfl rfl ?_
        refine v_iconst (pc2 := 56) C dX8_stateAt_55 ki_m1 rfl ?_
        refine v_icmpeq (pc2 := 74) (pc3 := 59) C dX8_stateAt_56 rfl rfl (fun h56 => ?_) (fun h56 => ?_)
        · have hres := (if_pos h56).symm.trans hres
          refine v_aload_n (pc2 := 75) C 1 dX8_stateAt_74 rfl rfl ?_
          refine vg_X8_isStowed (pc2 := 78) C lf_X8_26 dX8_stateAt_75 rfl ?_
          refine v_ifeq (pc2 := 83) (pc3 := 81) C dX8_stateAt_78 rfl rfl (fun h78 => ?_) (fun h78 => ?_)
          · have hres := (if_pos h78).symm.trans hres
            refine v_aload_n (pc2 := 84) C 1 dX8_stateAt_83 rfl rfl ?_
            refine vg_X8_cleans (pc2 := 87) C lf_X8_15 dX8_stateAt_84 rfl ?_
            refine v_iload_n (pc2 := 88) C 2 dX8_stateAt_87 rfl rfl ?_
            refine al19 (pc2 := 89) C h1 dX8_stateAt_88 rfl ?_
            refine v_ifeq (pc2 := 96) (pc3 := 92) C dX8_stateAt_89 rfl rfl (fun h89 => ?_) (fun h89 => ?_)
            · have hres := (if_pos h89).symm.trans hres
              refine v_iconst (pc2 := 97) C dX8_stateAt_96 ki_0 rfl ?_
              exact r_iS C E hres dX8_stateAt_97
            · have hres := (if_neg h89).symm.trans hres
              refine v_iconst (pc2 := 93) C dX8_stateAt_92 ki_1 rfl ?_
              refine v_goto (pc2 := 97) C dX8_stateAt_93 rfl ?_
              exact r_iS C E hres dX8_stateAt_97
          · have hres := (if_neg h78).symm.trans hres
            refine v_iconst (pc2 := 82) C dX8_stateAt_81 ki_2 rfl ?_
            exact r_iS C E hres dX8_stateAt_82
        · have hres := (if_neg h56).symm.trans hres
          refine v_iload_n (pc2 := 60) C 0 dX8_stateAt_59 rfl rfl ?_
          refine v_aload_n (pc2 := 61) C 1 dX8_stateAt_60 rfl rfl ?_
          refine vg_X8_stowAt (pc2 := 64) C lf_X8_19 dX8_stateAt_61 rfl ?_
          refine v_iconst (pc2 := 65) C dX8_stateAt_64 ki_2 rfl ?_
          refine v_idiv (pc2 := 66) C dX8_stateAt_65 (by decide) rfl ?_
          refine v_icmpge (pc2 := 74) (pc3 := 69) C dX8_stateAt_66 rfl rfl (fun h66 => ?_) (fun h66 => ?_)
          · have hres := (if_pos h66).symm.trans hres
            refine v_aload_n (pc2 := 75) C 1 dX8_stateAt_74 rfl rfl ?_
            refine vg_X8_isStowed (pc2 := 78) C lf_X8_26 dX8_stateAt_75 rfl ?_
            refine v_ifeq (pc2 := 83) (pc3 := 81) C dX8_stateAt_78 rfl rfl (fun h78 => ?_) (fun h78 => ?_)
            · have hres := (if_pos h78).symm.trans hres
              refine v_aload_n (pc2 := 84) C 1 dX8_stateAt_83 rfl rfl ?_
              refine vg_X8_cleans (pc2 := 87) C lf_X8_15 dX8_stateAt_84 rfl ?_
              refine v_iload_n (pc2 := 88) C 2 dX8_stateAt_87 rfl rfl ?_
              refine al19 (pc2 := 89) C h1 dX8_stateAt_88 rfl ?_
              refine v_ifeq (pc2 := 96) (pc3 := 92) C dX8_stateAt_89 rfl rfl (fun h89 => ?_) (fun h89 => ?_)
              · have hres := (if_pos h89).symm.trans hres
                refine v_iconst (pc2 := 97) C dX8_stateAt_96 ki_0 rfl ?_
                exact r_iS C E hres dX8_stateAt_97
              · have hres := (if_neg h89).symm.trans hres
                refine v_iconst (pc2 := 93) C dX8_stateAt_92 ki_1 rfl ?_
                refine v_goto (pc2 := 97) C dX8_stateAt_93 rfl ?_
                exact r_iS C E hres dX8_stateAt_97
            · have hres := (if_neg h78).symm.trans hres
              refine v_iconst (pc2 := 82) C dX8_stateAt_81 ki_2 rfl ?_
              exact r_iS C E hres dX8_stateAt_82
          · have hres := (if_neg h66).symm.trans hres
            refine v_aload_n (pc2 := 70) C 1 dX8_stateAt_69 rfl rfl ?_
            refine v_iconst (pc2 := 71) C dX8_stateAt_70 ki_0 rfl ?_
            refine vp_X8_isStowed (pc2 := 74) C (Or.inl rfl) lf_X8_26 dX8_stateAt_71 rfl ?_
            refine v_aload_n (pc2 := 75) C 1 dX8_stateAt_74 rfl rfl ?_
            refine vg_X8_isStowed (pc2 := 78) C lf_X8_26 dX8_stateAt_75 rfl ?_
            refine v_ifeq (pc2 := 83) (pc3 := 81) C dX8_stateAt_78 rfl rfl (fun h78 => ?_) (fun h78 => ?_)
            · have hres := (if_pos h78).symm.trans hres
              refine v_aload_n (pc2 := 84) C 1 dX8_stateAt_83 rfl rfl ?_
              refine vg_X8_cleans (pc2 := 87) C lf_X8_15 dX8_stateAt_84 rfl ?_
              refine v_iload_n (pc2 := 88) C 2 dX8_stateAt_87 rfl rfl ?_
              refine al19 (pc2 := 89) C h1 dX8_stateAt_88 rfl ?_
              refine v_ifeq (pc2 := 96) (pc3 := 92) C dX8_stateAt_89 rfl rfl (fun h89 => ?_) (fun h89 => ?_)
              · have hres := (if_pos h89).symm.trans hres
                refine v_iconst (pc2 := 97) C dX8_stateAt_96 ki_0 rfl ?_
                exact r_iS C E hres dX8_stateAt_97
              · have hres := (if_neg h89).symm.trans hres
                refine v_iconst (pc2 := 93) C dX8_stateAt_92 ki_1 rfl ?_
                refine v_goto (pc2 := 97) C dX8_stateAt_93 rfl ?_
                exact r_iS C E hres dX8_stateAt_97
            · have hres := (if_neg h78).symm.trans hres
              refine v_iconst (pc2 := 82) C dX8_stateAt_81 ki_2 rfl ?_
              exact r_iS C E hres dX8_stateAt_82
      · have hres := (if_neg h43).symm.trans hres
        refine v_aload_n (pc2 := 47) C 1 dX8_stateAt_46 rfl rfl ?_
        refine v_iconst (pc2 := 48) C dX8_stateAt_47 ki_1 rfl ?_
        refine vp_X8_isStowed (pc2 := 51) C (Or.inr rfl) lf_X8_26 dX8_stateAt_48 rfl ?_
        refine v_goto (pc2 := 74) C dX8_stateAt_51 rfl ?_
        refine v_aload_n (pc2 := 75) C 1 dX8_stateAt_74 rfl rfl ?_
        refine vg_X8_isStowed (pc2 := 78) C lf_X8_26 dX8_stateAt_75 rfl ?_
        refine v_ifeq (pc2 := 83) (pc3 := 81) C dX8_stateAt_78 rfl rfl (fun h78 => ?_) (fun h78 => ?_)
        · have hres := (if_pos h78).symm.trans hres
          refine v_aload_n (pc2 := 84) C 1 dX8_stateAt_83 rfl rfl ?_
          refine vg_X8_cleans (pc2 := 87) C lf_X8_15 dX8_stateAt_84 rfl ?_
          refine v_iload_n (pc2 := 88) C 2 dX8_stateAt_87 rfl rfl ?_
          refine al19 (pc2 := 89) C h1 dX8_stateAt_88 rfl ?_
          refine v_ifeq (pc2 := 96) (pc3 := 92) C dX8_stateAt_89 rfl rfl (fun h89 => ?_) (fun h89 => ?_)
          · have hres := (if_pos h89).symm.trans hres
            refine v_iconst (pc2 := 97) C dX8_stateAt_96 ki_0 rfl ?_
            exact r_iS C E hres dX8_stateAt_97
          · have hres := (if_neg h89).symm.trans hres
            refine v_iconst (pc2 := 93) C dX8_stateAt_92 ki_1 rfl ?_
            refine v_goto (pc2 := 97) C dX8_stateAt_93 rfl ?_
            exact r_iS C E hres dX8_stateAt_97
        · have hres := (if_neg h78).symm.trans hres
          refine v_iconst (pc2 := 82) C dX8_stateAt_81 ki_2 rfl ?_
          exact r_iS C E hres dX8_stateAt_82
  · have hres := (if_pos h10).symm.trans hres
    refine v_aload_n (pc2 := 14) C 1 dX8_stateAt_13 rfl rfl ?_
    refine vg_X8_lostInARow (pc2 := 17) C lf_X8_23 dX8_stateAt_14 rfl ?_
    refine v_iconst (pc2 := 18) C dX8_stateAt_17 ki_1 rfl ?_
    refine v_iadd (pc2 := 19) C dX8_stateAt_18 rfl ?_
    refine v_iconst (pc2 := 20) C dX8_stateAt_19 ki_3 rfl ?_
    refine v_mmin (pc2 := 23) C ml_X8_30 ms_mmin mi_Math mc_mmin (by decide) (Nat.le_of_ble_eq_true rfl) dX8_stateAt_20 rfl ?_
    refine v_goto (pc2 := 27) C dX8_stateAt_23 rfl ?_
    refine vp_X8_lostInARow (pc2 := 30) C lf_X8_23 dX8_stateAt_27 rfl ?_
    refine v_iload_n (pc2 := 31) C 0 dX8_stateAt_30 rfl rfl ?_
    refine v_aload_n (pc2 := 32) C 1 dX8_stateAt_31 rfl rfl ?_
    refine vg_X8_stowAt (pc2 := 35) C lf_X8_19 dX8_stateAt_32 rfl ?_
    refine v_icmpge (pc2 := 46) (pc3 := 38) C dX8_stateAt_35 rfl rfl (fun h35 => ?_) (fun h35 => ?_)
    · have hres := (if_pos h35).symm.trans hres
      refine v_aload_n (pc2 := 47) C 1 dX8_stateAt_46 rfl rfl ?_
      refine v_iconst (pc2 := 48) C dX8_stateAt_47 ki_1 rfl ?_
      refine vp_X8_isStowed (pc2 := 51) C (Or.inr rfl) lf_X8_26 dX8_stateAt_48 rfl ?_
      refine v_goto (pc2 := 74) C dX8_stateAt_51 rfl ?_
      refine v_aload_n (pc2 := 75) C 1 dX8_stateAt_74 rfl rfl ?_
      refine vg_X8_isStowed (pc2 := 78) C lf_X8_26 dX8_stateAt_75 rfl ?_
      refine v_ifeq (pc2 := 83) (pc3 := 81) C dX8_stateAt_78 rfl rfl (fun h78 => ?_) (fun h78 => ?_)
      · have hres := (if_pos h78).symm.trans hres
        refine v_aload_n (pc2 := 84) C 1 dX8_stateAt_83 rfl rfl ?_
        refine vg_X8_cleans (pc2 := 87) C lf_X8_15 dX8_stateAt_84 rfl ?_
        refine v_iload_n (pc2 := 88) C 2 dX8_stateAt_87 rfl rfl ?_
        refine al19 (pc2 := 89) C h1 dX8_stateAt_88 rfl ?_
        refine v_ifeq (pc2 := 96) (pc3 := 92) C dX8_stateAt_89 rfl rfl (fun h89 => ?_) (fun h89 => ?_)
        · have hres := (if_pos h89).symm.trans hres
          refine v_iconst (pc2 := 97) C dX8_stateAt_96 ki_0 rfl ?_
          exact r_iS C E hres dX8_stateAt_97
        · have hres := (if_neg h89).symm.trans hres
          refine v_iconst (pc2 := 93) C dX8_stateAt_92 ki_1 rfl ?_
          refine v_goto (pc2 := 97) C dX8_stateAt_93 rfl ?_
          exact r_iS C E hres dX8_stateAt_97
      · have hres := (if_neg h78).symm.trans hres
        refine v_iconst (pc2 := 82) C dX8_stateAt_81 ki_2 rfl ?_
        exact r_iS C E hres dX8_stateAt_82
    · have hres := (if_neg h35).symm.trans hres
      refine v_aload_n (pc2 := 39) C 1 dX8_stateAt_38 rfl rfl ?_
      refine vg_X8_lostInARow (pc2 := 42) C lf_X8_23 dX8_stateAt_39 rfl ?_
      refine v_iconst (pc2 := 43) C dX8_stateAt_42 ki_3 rfl ?_
      refine v_icmplt (pc2 := 54) (pc3 := 46) C dX8_stateAt_43 rfl rfl (fun h43 => ?_) (fun h43 => ?_)
      · have hres := (if_pos h43).symm.trans hres
        refine v_iload_n (pc2 := 55) C 0 dX8_stateAt_54 rfl rfl ?_
        refine v_iconst (pc2 := 56) C dX8_stateAt_55 ki_m1 rfl ?_
        refine v_icmpeq (pc2 := 74) (pc3 := 59) C dX8_stateAt_56 rfl rfl (fun h56 => ?_) (fun h56 => ?_)
        · have hres := (if_pos h56).symm.trans hres
          refine v_aload_n (pc2 := 75) C 1 dX8_stateAt_74 rfl rfl ?_
          refine vg_X8_isStowed (pc2 := 78) C lf_X8_26 dX8_stateAt_75 rfl ?_
          refine v_ifeq (pc2 := 83) (pc3 := 81) C dX8_stateAt_78 rfl rfl (fun h78 => ?_) (fun h78 => ?_)
          · have hres := (if_pos h78).symm.trans hres
            refine v_aload_n (pc2 := 84) C 1 dX8_stateAt_83 rfl rfl ?_
            refine vg_X8_cleans (pc2 := 87) C lf_X8_15 dX8_stateAt_84 rfl ?_
            refine v_iload_n (pc2 := 88) C 2 dX8_stateAt_87 rfl rfl ?_
            refine al19 (pc2 := 89) C h1 dX8_stateAt_88 rfl ?_
            refine v_ifeq (pc2 := 96) (pc3 := 92) C dX8_stateAt_89 rfl rfl (fun h89 => ?_) (fun h89 => ?_)
            · have hres := (if_pos h89).symm.trans hres
              refine v_iconst (pc2 := 97) C dX8_stateAt_96 ki_0 rfl ?_
              exact r_iS C E hres dX8_stateAt_97
            · have hres := (if_neg h89).symm.trans hres
              refine v_iconst (pc2 := 93) C dX8_stateAt_92 ki_1 rfl ?_
              refine v_goto (pc2 := 97) C dX8_stateAt_93 rfl ?_
              exact r_iS C E hres dX8_stateAt_97
          · have hres := (if_neg h78).symm.trans hres
            refine v_iconst (pc2 := 82) C dX8_stateAt_81 ki_2 rfl ?_
            exact r_iS C E hres dX8_stateAt_82
        · have hres := (if_neg h56).symm.trans hres
          refine v_iload_n (pc2 := 60) C 0 dX8_stateAt_59 rfl rfl ?_
          refine v_aload_n (pc2 := 61) C 1 dX8_stateAt_60 rfl rfl ?_
          refine vg_X8_stowAt (pc2 := 64) C lf_X8_19 dX8_stateAt_61 rfl ?_
          refine v_iconst (pc2 := 65) C dX8_stateAt_64 ki_2 rfl ?_
          refine v_idiv (pc2 := 66) C dX8_stateAt_65 (by decide) rfl ?_
          refine v_icmpge (pc2 := 74) (pc3 := 69) C dX8_stateAt_66 rfl rfl (fun h66 => ?_) (fun h66 => ?_)
          · have hres := (if_pos h66).symm.trans hres
            refine v_aload_n (pc2 := 75) C 1 dX8_stateAt_74 rfl rfl ?_
            refine vg_X8_isStowed (pc2 := 78) C lf_X8_26 dX8_stateAt_75 rfl ?_
            refine v_ifeq (pc2 := 83) (pc3 := 81) C dX8_stateAt_78 rfl rfl (fun h78 => ?_) (fun h78 => ?_)
            · have hres := (if_pos h78).symm.trans hres
              refine v_aload_n (pc2 := 84) C 1 dX8_stateAt_83 rfl rfl ?_
              refine vg_X8_cleans (pc2 := 87) C lf_X8_15 dX8_stateAt_84 rfl ?_
              refine v_iload_n (pc2 := 88) C 2 dX8_stateAt_87 rfl rfl ?_
              refine al19 (pc2 := 89) C h1 dX8_stateAt_88 rfl ?_
              refine v_ifeq (pc2 := 96) (pc3 := 92) C dX8_stateAt_89 rfl rfl (fun h89 => ?_) (fun h89 => ?_)
              · have hres := (if_pos h89).symm.trans hres
                refine v_iconst (pc2 := 97) C dX8_stateAt_96 ki_0 rfl ?_
                exact r_iS C E hres dX8_stateAt_97
              · have hres := (if_neg h89).symm.trans hres
                refine v_iconst (pc2 := 93) C dX8_stateAt_92 ki_1 rfl ?_
                refine v_goto (pc2 := 97) C dX8_stateAt_93 rfl ?_
                exact r_iS C E hres dX8_stateAt_97
            · have hres := (if_neg h78).symm.trans hres
              refine v_iconst (pc2 := 82) C dX8_stateAt_81 ki_2 rfl ?_
              exact r_iS C E hres dX8_stateAt_82
          · have hres := (if_neg h66).symm.trans hres
            refine v_aload_n (pc2 := 70) C 1 dX8_stateAt_69 rfl rfl ?_
            refine v_iconst (pc2 := 71) C dX8_stateAt_70 ki_0 rfl ?_
            refine vp_X8_isStowed (pc2 := 74) C (Or.inl rfl) lf_X8_26 dX8_stateAt_71 rfl ?_
            refine v_aload_n (pc2 := 75) C 1 dX8_stateAt_74 rfl rfl ?_
            refine vg_X8_isStowed (pc2 := 78) C lf_X8_26 dX8_stateAt_75 rfl ?_
            refine v_ifeq (pc2 := 83) (pc3 := 81) C dX8_stateAt_78 rfl rfl (fun h78 => ?_) (fun h78 => ?_)
            · have hres := (if_pos h78).symm.trans hres
              refine v_aload_n (pc2 := 84) C 1 dX8_stateAt_83 rfl rfl ?_
              refine vg_X8_cleans (pc2 := 87) C lf_X8_15 dX8_stateAt_84 rfl ?_
              refine v_iload_n (pc2 := 88) C 2 dX8_stateAt_87 rfl rfl ?_
              refine al19 (pc2 := 89) C h1 dX8_stateAt_88 rfl ?_
              refine v_ifeq (pc2 := 96) (pc3 := 92) C dX8_stateAt_89 rfl rfl (fun h89 => ?_) (fun h89 => ?_)
              · have hres := (if_pos h89).symm.trans hres
                refine v_iconst (pc2 := 97) C dX8_stateAt_96 ki_0 rfl ?_
                exact r_iS C E hres dX8_stateAt_97
              · have hres := (if_neg h89).symm.trans hres
                refine v_iconst (pc2 := 93) C dX8_stateAt_92 ki_1 rfl ?_
                refine v_goto (pc2 := 97) C dX8_stateAt_93 rfl ?_
                exact r_iS C E hres dX8_stateAt_97
            · have hres := (if_neg h78).symm.trans hres
              refine v_iconst (pc2 := 82) C dX8_stateAt_81 ki_2 rfl ?_
              exact r_iS C E hres dX8_stateAt_82
      · have hres := (if_neg h43).symm.trans hres
        refine v_aload_n (pc2 := 47) C 1 dX8_stateAt_46 rfl rfl ?_
        refine v_iconst (pc2 := 48) C dX8_stateAt_47 ki_1 rfl ?_
        refine vp_X8_isStowed (pc2 := 51) C (Or.inr rfl) lf_X8_26 dX8_stateAt_48 rfl ?_
        refine v_goto (pc2 := 74) C dX8_stateAt_51 rfl ?_
        refine v_aload_n (pc2 := 75) C 1 dX8_stateAt_74 rfl rfl ?_
        refine vg_X8_isStowed (pc2 := 78) C lf_X8_26 dX8_stateAt_75 rfl ?_
        refine v_ifeq (pc2 := 83) (pc3 := 81) C dX8_stateAt_78 rfl rfl (fun h78 => ?_) (fun h78 => ?_)
        · have hres := (if_pos h78).symm.trans hres
          refine v_aload_n (pc2 := 84) C 1 dX8_stateAt_83 rfl rfl ?_
          refine vg_X8_cleans (pc2 := 87) C lf_X8_15 dX8_stateAt_84 rfl ?_
          refine v_iload_n (pc2 := 88) C 2 dX8_stateAt_87 rfl rfl ?_
          refine al19 (pc2 := 89) C h1 dX8_stateAt_88 rfl ?_
          refine v_ifeq (pc2 := 96) (pc3 := 92) C dX8_stateAt_89 rfl rfl (fun h89 => ?_) (fun h89 => ?_)
          · have hres := (if_pos h89).symm.trans hres
            refine v_iconst (pc2 := 97) C dX8_stateAt_96 ki_0 rfl ?_
            exact r_iS C E hres dX8_stateAt_97
          · have hres := (if_neg h89).symm.trans hres
            refine v_iconst (pc2 := 93) C dX8_stateAt_92 ki_1 rfl ?_
            refine v_goto (pc2 := 97) C dX8_stateAt_93 rfl ?_
            exact r_iS C E hres dX8_stateAt_97
        · have hres := (if_neg h78).symm.trans hres
          refine v_iconst (pc2 := 82) C dX8_stateAt_81 ki_2 rfl ?_
          exact r_iS C E hres dX8_stateAt_82
theorem mX8_stateAt (l : Launch) (Λ : LY) (σ : St) (a1 : Int32) (h1 : vp_in a1 24) : CT l Λ yX8_stateAt cX8_stateAt 3 (some .int) 1 23 [.ref (adr Λ 4), .int (a1)] σ (some (.int (f8_stateAt σ a1).1)) (f8_stateAt σ a1).2 := by
  refine CT_of (by decide +kernel) (Nat.le_of_ble_eq_true rfl) ?_
  intro X hX C E
  obtain ⟨res, hres⟩ : ∃ r, (f8_stateAt σ a1) = r := ⟨_, rfl⟩
  rw [hres] at E
  exact bf8_stateAt C E _ _  h1 hres
def fJ_bitCount (a1 : Int32) : Int32 :=
  ((((((((a1 - (((Int32.toUInt32 a1 >>> (Int32.toUInt32 (1 : Int32) &&& Int32.toUInt32 31)).toInt32) &&& (1431655765 : Int32))) &&& (858993459 : Int32)) + (((Int32.toUInt32 (a1 - (((Int32.toUInt32 a1 >>> (Int32.toUInt32 (1 : Int32) &&& Int32.toUInt32 31)).toInt32) &&& (1431655765 : Int32))) >>> (Int32.toUInt32 (2 : Int32) &&& Int32.toUInt32 31)).toInt32) &&& (858993459 : Int32))) + ((Int32.toUInt32 (((a1 - (((Int32.toUInt32 a1 >>> (Int32.toUInt32 (1 : Int32) &&& Int32.toUInt32 31)).toInt32) &&& (1431655765 : Int32))) &&& (858993459 : Int32)) + (((Int32.toUInt32 (a1 - (((Int32.toUInt32 a1 >>> (Int32.toUInt32 (1 : Int32) &&& Int32.toUInt32 31)).toInt32) &&& (1431655765 : Int32))) >>> (Int32.toUInt32 (2 : Int32) &&& Int32.toUInt32 31)).toInt32) &&& (858993459 : Int32))) >>> (Int32.toUInt32 (4 : Int32) &&& Int32.toUInt32 31)).toInt32)) &&& (252645135 : Int32)) + ((Int32.toUInt32 (((((a1 - (((Int32.toUInt32 a1 >>> (Int32.toUInt32 (1 : Int32) &&& Int32.toUInt32 31)).toInt32) &&& (1431655765 : Int32))) &&& (858993459 : Int32)) + (((Int32.toUInt32 (a1 - (((Int32.toUInt32 a1 >>> (Int32.toUInt32 (1 : Int32) &&& Int32.toUInt32 31)).toInt32) &&& (1431655765 : Int32))) >>> (Int32.toUInt32 (2 : Int32) &&& Int32.toUInt32 31)).toInt32) &&& (858993459 : Int32))) + ((Int32.toUInt32 (((a1 - (((Int32.toUInt32 a1 >>> (Int32.toUInt32 (1 : Int32) &&& Int32.toUInt32 31)).toInt32) &&& (1431655765 : Int32))) &&& (858993459 : Int32)) + (((Int32.toUInt32 (a1 - (((Int32.toUInt32 a1 >>> (Int32.toUInt32 (1 : Int32) &&& Int32.toUInt32 31)).toInt32) &&& (1431655765 : Int32))) >>> (Int32.toUInt32 (2 : Int32) &&& Int32.toUInt32 31)).toInt32) &&& (858993459 : Int32))) >>> (Int32.toUInt32 (4 : Int32) &&& Int32.toUInt32 31)).toInt32)) &&& (252645135 : Int32)) >>> (Int32.toUInt32 (8 : Int32) &&& Int32.toUInt32 31)).toInt32)) + ((Int32.toUInt32 ((((((a1 - (((Int32.toUInt32 a1 >>> (Int32.toUInt32 (1 : Int32) &&& Int32.toUInt32 31)).toInt32) &&& (1431655765 : Int32))) &&& (858993459 : Int32)) + (((Int32.toUInt32 (a1 - (((Int32.toUInt32 a1 >>> (Int32.toUInt32 (1 : Int32) &&& Int32.toUInt32 31)).toInt32) &&& (1431655765 : Int32))) >>> (Int32.toUInt32 (2 : Int32) &&& Int32.toUInt32 31)).toInt32) &&& (858993459 : Int32))) + ((Int32.toUInt32 (((a1 - (((Int32.toUInt32 a1 >>> (Int32.toUInt32 (1 : Int32) &&& Int32.toUInt32 31)).toInt32) &&& (1431655765 : Int32))) &&& (858993459 : Int32)) + (((Int32.toUInt32 (a1 - (((Int32.toUInt32 a1 >>> (Int32.toUInt32 (1 : Int32) &&& Int32.toUInt32 31)).toInt32) &&& (1431655765 : Int32))) >>> (Int32.toUInt32 (2 : Int32) &&& Int32.toUInt32 31)).toInt32) &&& (858993459 : Int32))) >>> (Int32.toUInt32 (4 : Int32) &&& Int32.toUInt32 31)).toInt32)) &&& (252645135 : Int32)) + ((Int32.toUInt32 (((((a1 - (((Int32.toUInt32 a1 >>> (Int32.toUInt32 (1 : Int32) &&& Int32.toUInt32 31)).toInt32) &&& (1431655765 : Int32))) &&& (858993459 : Int32)) + (((Int32.toUInt32 (a1 - (((Int32.toUInt32 a1 >>> (Int32.toUInt32 (1 : Int32) &&& Int32.toUInt32 31)).toInt32) &&& (1431655765 : Int32))) >>> (Int32.toUInt32 (2 : Int32) &&& Int32.toUInt32 31)).toInt32) &&& (858993459 : Int32))) + ((Int32.toUInt32 (((a1 - (((Int32.toUInt32 a1 >>> (Int32.toUInt32 (1 : Int32) &&& Int32.toUInt32 31)).toInt32) &&& (1431655765 : Int32))) &&& (858993459 : Int32)) + (((Int32.toUInt32 (a1 - (((Int32.toUInt32 a1 >>> (Int32.toUInt32 (1 : Int32) &&& Int32.toUInt32 31)).toInt32) &&& (1431655765 : Int32))) >>> (Int32.toUInt32 (2 : Int32) &&& Int32.toUInt32 31)).toInt32) &&& (858993459 : Int32))) >>> (Int32.toUInt32 (4 : Int32) &&& Int32.toUInt32 31)).toInt32)) &&& (252645135 : Int32)) >>> (Int32.toUInt32 (8 : Int32) &&& Int32.toUInt32 31)).toInt32)) >>> (Int32.toUInt32 (16 : Int32) &&& Int32.toUInt32 31)).toInt32)) &&& (63 : Int32))
set_option maxHeartbeats 4000000 in
set_option maxRecDepth 100000 in
theorem bfJ_bitCount {X : CX} {Λ : LY} (C : OK X Λ cJ6_bitCount_0f7a4 1 RJ6 0 0) {σ : St} {res : Int32} (E : EN X Λ (some .int) (some (.int res)) σ) (a1 : Int32)  (hres : (fJ_bitCount a1) = res) : VV X Λ 1 0 [(0, .int (a1))] [] σ := by
  unfold fJ_bitCount at hres
  refine v_iload_n (pc2 := 1) C 0 dJ6_bitCount_0f7a4_0 rfl rfl ?_
  refine v_iload_n (pc2 := 2) C 0 dJ6_bitCount_0f7a4_1 rfl rfl ?_
  refine v_iconst (pc2 := 3) C dJ6_bitCount_0f7a4_2 ki_1 rfl ?_
  refine v_iushr (pc2 := 4) C dJ6_bitCount_0f7a4_3 rfl ?_
  refine v_ldcw (pc2 := 7) C lc_J6_265 dJ6_bitCount_0f7a4_4 rfl ?_
  refine v_iand (pc2 := 8) C dJ6_bitCount_0f7a4_7 rfl ?_
  refine v_isub (pc2 := 9) C dJ6_bitCount_0f7a4_8 rfl ?_
  refine v_istore_n (pc2 := 10) (lv2 := [(0, _)]) C dJ6_bitCount_0f7a4_9 (by decide) rfl rfl ?_
  refine v_iload_n (pc2 := 11) C 0 dJ6_bitCount_0f7a4_10 rfl rfl ?_
  refine v_ldcw (pc2 := 14) C lc_J6_266 dJ6_bitCount_0f7a4_11 rfl ?_
  refine v_iand (pc2 := 15) C dJ6_bitCount_0f7a4_14 rfl ?_
  refine v_iload_n (pc2 := 16) C 0 dJ6_bitCount_0f7a4_15 rfl rfl ?_
  refine v_iconst (pc2 := 17) C dJ6_bitCount_0f7a4_16 ki_2 rfl ?_
  refine v_iushr (pc2 := 18) C dJ6_bitCount_0f7a4_17 rfl ?_
  refine v_ldcw (pc2 := 21) C lc_J6_266 dJ6_bitCount_0f7a4_18 rfl ?_
  refine v_iand (pc2 := 22) C dJ6_bitCount_0f7a4_21 rfl ?_
  refine v_iadd (pc2 := 23) C dJ6_bitCount_0f7a4_22 rfl ?_
  refine v_istore_n (pc2 := 24) (lv2 := [(0, _)]) C dJ6_bitCount_0f7a4_23 (by decide) rfl rfl ?_
  refine v_iload_n (pc2 := 25) C 0 dJ6_bitCount_0f7a4_24 rfl rfl ?_
  refine v_iload_n (pc2 := 26) C 0 dJ6_bitCount_0f7a4_25 rfl rfl ?_
  refine v_iconst (pc2 := 27) C dJ6_bitCount_0f7a4_26 ki_4 rfl ?_
  refine v_iushr (pc2 := 28) C dJ6_bitCount_0f7a4_27 rfl ?_
  refine v_iadd (pc2 := 29) C dJ6_bitCount_0f7a4_28 rfl ?_
  refine v_ldcw (pc2 := 32) C lc_J6_267 dJ6_bitCount_0f7a4_29 rfl ?_
  refine v_iand (pc2 := 33) C dJ6_bitCount_0f7a4_32 rfl ?_
  refine v_istore_n (pc2 := 34) (lv2 := [(0, _)]) C dJ6_bitCount_0f7a4_33 (by decide) rfl rfl ?_
  refine v_iload_n (pc2 := 35) C 0 dJ6_bitCount_0f7a4_34 rfl rfl ?_
  refine v_iload_n (pc2 := 36) C 0 dJ6_bitCount_0f7a4_35 rfl rfl ?_
  refine v_bipush (pc2 := 38) C dJ6_bitCount_0f7a4_36 kb_8 rfl ?_
  refine v_iushr (pc2 := 39) C dJ6_bitCount_0f7a4_38 rfl ?_
  refine v_iadd (pc2 := 40) C dJ6_bitCount_0f7a4_39 rfl ?_
  refine v_istore_n (pc2 := 41) (lv2 := [(0, _)]) C dJ6_bitCount_0f7a4_40 (by decide) rfl rfl ?_
  refine v_iload_n (pc2 := 42) C 0 dJ6_bitCount_0f7a4_41 rfl rfl ?_
  refine v_iload_n (pc2 := 43) C 0 dJ6_bitCount_0f7a4_42 rfl rfl ?_
  refine v_bipush (pc2 := 45) C dJ6_bitCount_0f7a4_43 kb_16 rfl ?_
  refine v_iushr (pc2 := 46) C dJ6_bitCount_0f7a4_45 rfl ?_
  refine v_iadd (pc2 := 47) C dJ6_bitCount_0f7a4_46 rfl ?_
  refine v_istore_n (pc2 := 48) (lv2 := [(0, _)]) C dJ6_bitCount_0f7a4_47 (by decide) rfl rfl ?_
  refine v_iload_n (pc2 := 49) C 0 dJ6_bitCount_0f7a4_48 rfl rfl ?_
  refine v_bipush (pc2 := 51) C dJ6_bitCount_0f7a4_49 kb_63 rfl ?_
  refine v_iand (pc2 := 52) C dJ6_bitCount_0f7a4_51 rfl ?_
  exact r_iP C E hres dJ6_bitCount_0f7a4_52
theorem mJ6_bitCount_0f7a4 (l : Launch) (Λ : LY) (σ : St) (a1 : Int32)  : CT l Λ yJ6_bitCount_0f7a4 cJ6_bitCount_0f7a4 1 (some .int) 0 0 [.int (a1)] σ (some (.int (fJ_bitCount a1))) σ := by
  refine CT_of (by decide +kernel) (Nat.le_of_ble_eq_true rfl) ?_
  intro X hX C E
  obtain ⟨res, hres⟩ : ∃ r, (fJ_bitCount a1) = r := ⟨_, rfl⟩
  rw [hres] at E
  exact bfJ_bitCount C E _   hres
end
section
theorem sX9_answer {σ : St} {a : Int32} (h : Safe σ) : Safe (f9_answer σ a).2 := sf_A (by decide) h
theorem sX3_loseDust {σ : St} {i : Nat} (h : Safe σ) : Safe (f3_loseDust σ i).2 := by
  unfold f3_loseDust
  split <;> exact sf_A (by decide) h
theorem sX4_put {σ : St} {a b c : Int32} (h : Safe σ) : Safe (f4_put σ a b c) := sf_A (by decide) (sf_A (by decide) h)
theorem sX7_take {σ : St} {a : Int64} {b : Int32} (h : Safe σ) : Safe (f7_take σ a b) := by
  unfold f7_take
  repeat' split
  all_goals first | exact h | exact sf_I (by decide) (sf_J h)
theorem sX8_stateAt {σ : St} {a : Int32} (h : Safe σ) : Safe (f8_stateAt σ a).2 := by
  unfold f8_stateAt
  repeat' split
  all_goals (repeat' (first | assumption | apply sf_I (by decide)))
theorem wi_t {a b c : Int32} (h : ¬ f9_isWithin a b c = 0) : b.toInt ≤ a.toInt ∧ a.toInt ≤ c.toInt := by
  unfold f9_isWithin at h
  split at h
  · exact absurd rfl h
  · rename_i h1
    split at h
    · exact absurd rfl h
    · rename_i h2
      have := t_nlt h1 rfl rfl
      have := t_nlt h2 rfl rfl
      omega
theorem isHour_in {a : Int32} (h : ¬ f9_isHour a = 0) : vp_in a 24 := by
  have h2 := wi_t h
  rw [lit_0, lit_23] at h2
  exact vin (by omega) (by omega)
theorem isString_in {a : Int32} (h : ¬ f9_isString a = 0) : vp_in a 4 := by
  have h2 := wi_t h
  rw [lit_0, lit_3] at h2
  exact vin (by omega) (by omega)
theorem isStep_rg {a : Int32} (h : ¬ f9_isStep a = 0) : -12 ≤ a.toInt ∧ a.toInt ≤ 12 := by
  have h2 := wi_t h
  rw [lit_m12, lit_12] at h2
  exact h2
theorem isRow_in {σ : St} {a : Int32} (hs : Safe σ) (h : ¬ f9_isRow σ a = 0) : vp_in a 10 := by
  have h2 := wi_t h
  have h3 := hs.cnt
  rw [lit_0, i_sub (by rw [lit_1]; omega) (by rw [lit_1]; omega), lit_1] at h2
  exact vin (by omega) (by omega)
theorem isSunWay_in {a b c : Int32} (h : ¬ f9_isSunWay a b c = 0) : vp_in a 24 := by
  unfold f9_isSunWay at h
  split at h
  · exact absurd rfl h
  · rename_i h1; exact isHour_in h1
theorem fa_rg {σ : St} {j : Int32} (h : vp_in j 10) : 0 ≤ (f0_firstAhead σ j).toInt ∧ (f0_firstAhead σ j).toInt ≤ 10 := by
  have h2 := vp_in_iff.mp h
  have h3 := i_add1 (x := j) (b := 10) (by omega) (by omega)
  unfold f0_firstAhead
  split
  · rw [lit_0]; decide
  · omega
theorem la_rg {σ : St} {j : Int32} (hs : Safe σ) (h : vp_in j 10) : (f0_lastAhead σ j).toInt ≤ 9 := by
  have h2 := vp_in_iff.mp h
  have h4 := hs.cnt
  unfold f0_lastAhead
  repeat' split
  all_goals first | (rw [lit_m1]; decide) | (rw [i_sub (by rw [lit_1]; omega) (by rw [lit_1]; omega), lit_1]; omega)
def f2_put_T (a3 : Int32) : Int64 :=
  (if (0 : Int32) ≤ a3 then (Int32.toInt64 (sinF (Int32.toNatClampNeg a3))) else (Int32.toInt64 (-(sinF (Int32.toNatClampNeg (-a3))))))
set_option maxHeartbeats 4000000 in
set_option maxRecDepth 100000 in
theorem bf2_put_T {X : CX} {Λ : LY} (C : OK X Λ cX2_put 14 RX2 1 23) (σ : St) {out : Int64} (a1 : Int32) (i2 : Nat) (a3 : Int32) (a4 : Int32) (a5 : Int32) (cs : Int64) (k : VV X Λ 14 32 [(0, .ref (adr Λ 10)), (1, .int (a1)), (2, .ref (adr Λ (27 + i2))), (3, .int (a3)), (4, .int (a4)), (5, .int (a5)), (6, .long (cs))] [.long (out)] (σ)) (h3 : -12 ≤ a3.toInt ∧ a3.toInt ≤ 12) (hres : (f2_put_T a3) = out) : VV X Λ 14 11 [(0, .ref (adr Λ 10)), (1, .int (a1)), (2, .ref (adr Λ (27 + i2))), (3, .int (a3)), (4, .int (a4)), (5, .int (a5)), (6, .long (cs))] [] σ := by
  unfold f2_put_T at hres
  refine v_iload_n (pc2 := 12) C 3 dX2_put_11 rfl rfl ?_
  refine v_ifge (pc2 := 26) (pc3 := 15) C dX2_put_12 rfl rfl (fun h12 => ?_) (fun h12 => ?_)
  · have hres := (if_pos h12).symm.trans hres
    refine v_sin (pc2 := 29) C (by decide +kernel) dX2_put_26 rfl ?_
    refine v_iload_n (pc2 := 30) C 3 dX2_put_29 rfl rfl ?_
    refine v_sinld (pc2 := 31) C (vin (by have := t_le h12 lit_0 rfl; omega) (by have := h3.2; omega)) dX2_put_30 rfl ?_
    refine v_i2l (pc2 := 32) C dX2_put_31 rfl ?_
    subst hres
    exact v_lv [0, 1, 2, 3, 4, 5, 6] rfl k
  · have hres := (if_neg h12).symm.trans hres
    refine v_sin (pc2 := 18) C (by decide +kernel) dX2_put_15 rfl ?_
    refine v_iload_n (pc2 := 19) C 3 dX2_put_18 rfl rfl ?_
    refine v_ineg (pc2 := 20) C dX2_put_19 rfl ?_
    refine v_sinld (pc2 := 21) C (neg_in h3.1 (t_nle h12 lit_0 rfl)) dX2_put_20 rfl ?_
    refine v_ineg (pc2 := 22) C dX2_put_21 rfl ?_
    refine v_i2l (pc2 := 23) C dX2_put_22 rfl ?_
    refine v_goto (pc2 := 32) C dX2_put_23 rfl ?_
    subst hres
    exact v_lv [0, 1, 2, 3, 4, 5, 6] rfl k
def f2_put (σ : St) (a1 : Int32) (i2 : Nat) (a3 : Int32) (a4 : Int32) (a5 : Int32) : St :=
  (uB (uB σ 4 (Int32.toNatClampNeg a1) (((((20000 : Int64) * (Int32.toInt64 (gA σ 11 i2))) * (Int32.toInt64 a5)) - (((20000 : Int64) * (Int32.toInt64 (gA σ 12 i2))) * (Int32.toInt64 a4))) - ((Int32.toInt64 (gA σ 13 i2)) * (((Int32.toInt64 (cosF (Int32.toNatClampNeg (if (0 : Int32) ≤ a3 then a3 else (0 : Int32) - a3)))) * (Int32.toInt64 a5)) - ((f2_put_T a3) * (Int32.toInt64 a4)))))) 5 (Int32.toNatClampNeg a1) (((((20000 : Int64) * (Int32.toInt64 (gA σ 11 i2))) * (Int32.toInt64 a5)) - (((20000 : Int64) * (Int32.toInt64 (gA σ 12 i2))) * (Int32.toInt64 a4))) + ((Int32.toInt64 (gA σ 13 i2)) * (((Int32.toInt64 (cosF (Int32.toNatClampNeg (if (0 : Int32) ≤ a3 then a3 else (0 : Int32) - a3)))) * (Int32.toInt64 a5)) - ((f2_put_T a3) * (Int32.toInt64 a4))))))
set_option maxHeartbeats 4000000 in
set_option maxRecDepth 100000 in
theorem bf2_put {X : CX} {Λ : LY} (C : OK X Λ cX2_put 14 RX2 1 23) {res : St} (E : EN X Λ none none res) (σ : St) (a1 : Int32) (i2 : Nat) (a3 : Int32) (a4 : Int32) (a5 : Int32) (hi2 : i2 < 10) (h1 : vp_in a1 10) (h3 : -12 ≤ a3.toInt ∧ a3.toInt ≤ 12) (hres : (f2_put σ a1 i2 a3 a4 a5) = res) : VV X Λ 14 0 [(0, .ref (adr Λ 10)), (1, .int (a1)), (2, .ref (adr Λ (27 + i2))), (3, .int (a3)), (4, .int (a4)), (5, .int (a5))] [] σ := by
  unfold f2_put at hres
  refine v_cos (pc2 := 3) C (by decide +kernel) dX2_put_0 rfl ?_
  refine v_iload_n (pc2 := 4) C 3 dX2_put_3 rfl rfl ?_
  refine v_mabs (pc2 := 7) C ml_X2_28 ms_mabs mi_Math mc_mabs (by decide) (Nat.le_of_ble_eq_true rfl) dX2_put_4 rfl ?_
  refine v_cosld (pc2 := 8) C (abs_in h3.1 h3.2) dX2_put_7 rfl ?_
  refine v_i2l (pc2 := 9) C dX2_put_8 rfl ?_
  refine v_lstore (pc2 := 11) (lv2 := [(6, _), (0, _), (1, _), (2, _), (3, _), (4, _), (5, _)]) C dX2_put_9 (by decide) rfl rfl ?_
  refine v_lv [1, 2, 3, 4, 5, 6, 0] rfl ?_
  refine bf2_put_T C σ a1 i2 a3 a4 a5 (Int32.toInt64 (cosF (Int32.toNatClampNeg (if (0 : Int32) ≤ a3 then a3 else (0 : Int32) - a3)))) (out := (f2_put_T a3)) ?_  h3 rfl
  refine v_lstore (pc2 := 34) (lv2 := [(8, _), (0, _), (1, _), (2, _), (3, _), (4, _), (5, _), (6, _)]) C dX2_put_32 (by decide) rfl rfl ?_
  refine v_ldc2 (pc2 := 37) C lc_X2_37 dX2_put_34 rfl ?_
  refine v_aload_n (pc2 := 38) C 3 dX2_put_37 rfl rfl ?_
  refine vg_X3_place (pc2 := 41) C hi2 lf_X2_39 dX2_put_38 rfl ?_
  refine v_i2l (pc2 := 42) C dX2_put_41 rfl ?_
  refine v_lmul (pc2 := 43) C dX2_put_42 rfl ?_
  refine v_iload (pc2 := 45) C 6 dX2_put_43 rfl rfl ?_
  refine v_i2l (pc2 := 46) C dX2_put_45 rfl ?_
  refine v_lmul (pc2 := 47) C dX2_put_46 rfl ?_
  refine v_ldc2 (pc2 := 50) C lc_X2_37 dX2_put_47 rfl ?_
  refine v_aload_n (pc2 := 51) C 3 dX2_put_50 rfl rfl ?_
  refine vg_X3_height (pc2 := 54) C hi2 lf_X2_45 dX2_put_51 rfl ?_
  refine v_i2l (pc2 := 55) C dX2_put_54 rfl ?_
  refine v_lmul (pc2 := 56) C dX2_put_55 rfl ?_
  refine v_iload (pc2 := 58) C 5 dX2_put_56 rfl rfl ?_
  refine v_i2l (pc2 := 59) C dX2_put_58 rfl ?_
  refine v_lmul (pc2 := 60) C dX2_put_59 rfl ?_
  refine v_lsub (pc2 := 61) C dX2_put_60 rfl ?_
  refine v_lstore (pc2 := 63) (lv2 := [(10, _), (8, _), (0, _), (1, _), (2, _), (3, _), (4, _), (5, _), (6, _)]) C dX2_put_61 (by decide) rfl rfl ?_
  refine v_aload_n (pc2 := 64) C 4 dX2_put_63 rfl rfl ?_
  refine vg_X3_width (pc2 := 67) C hi2 lf_X2_48 dX2_put_64 rfl ?_
  refine v_i2l (pc2 := 68) C dX2_put_67 rfl ?_
  refine v_lload (pc2 := 70) C 8 dX2_put_68 rfl rfl ?_
  refine v_iload (pc2 := 72) C 7 dX2_put_70 rfl rfl ?_
  refine v_i2l (pc2 := 73) C dX2_put_72 rfl ?_
  refine v_lmul (pc2 := 74) C dX2_put_73 rfl ?_
  refine v_lload (pc2 := 76) C 1 dX2_put_74 rfl rfl ?_
  refine v_iload (pc2 := 78) C 6 dX2_put_76 rfl rfl ?_
  refine v_i2l (pc2 := 79) C dX2_put_78 rfl ?_
  refine v_lmul (pc2 := 80) C dX2_put_79 rfl ?_
  refine v_lsub (pc2 := 81) C dX2_put_80 rfl ?_
  refine v_lmul (pc2 := 82) C dX2_put_81 rfl ?_
  refine v_lstore (pc2 := 84) (lv2 := [(12, _), (10, _), (8, _), (0, _), (1, _), (2, _), (3, _), (4, _), (5, _), (6, _)]) C dX2_put_82 (by decide) rfl rfl ?_
  refine v_aload_n (pc2 := 85) C 3 dX2_put_84 rfl rfl ?_
  refine vg_X2_start (pc2 := 88) C lf_X2_9 dX2_put_85 rfl ?_
  refine v_iload_n (pc2 := 89) C 4 dX2_put_88 rfl rfl ?_
  refine v_lload (pc2 := 91) C 1 dX2_put_89 rfl rfl ?_
  refine v_lload (pc2 := 93) C 0 dX2_put_91 rfl rfl ?_
  refine v_lsub (pc2 := 94) C dX2_put_93 rfl ?_
  refine as23 (pc2 := 95) C h1 dX2_put_94 rfl ?_
  refine v_aload_n (pc2 := 96) C 3 dX2_put_95 rfl rfl ?_
  refine vg_X2_end (pc2 := 99) C lf_X2_15 dX2_put_96 rfl ?_
  refine v_iload_n (pc2 := 100) C 4 dX2_put_99 rfl rfl ?_
  refine v_lload (pc2 := 102) C 1 dX2_put_100 rfl rfl ?_
  refine v_lload (pc2 := 104) C 0 dX2_put_102 rfl rfl ?_
  refine v_ladd (pc2 := 105) C dX2_put_104 rfl ?_
  refine as24 (pc2 := 106) C h1 dX2_put_105 rfl ?_
  exact r_vS C E hres dX2_put_106
theorem mX2_put (l : Launch) (Λ : LY) (σ : St) (a1 : Int32) (i2 : Nat) (hi2 : i2 < 10) (a3 : Int32) (a4 : Int32) (a5 : Int32) (h1 : vp_in a1 10) (h3 : -12 ≤ a3.toInt ∧ a3.toInt ≤ 12) : CT l Λ yX2_put cX2_put 14 none 1 23 [.ref (adr Λ 10), .int (a1), .ref (adr Λ (27 + i2)), .int (a3), .int (a4), .int (a5)] σ none (f2_put σ a1 i2 a3 a4 a5) := by
  refine CT_of (by decide +kernel) (Nat.le_of_ble_eq_true rfl) ?_
  intro X hX C E
  obtain ⟨res, hres⟩ : ∃ r, (f2_put σ a1 i2 a3 a4 a5) = r := ⟨_, rfl⟩
  rw [hres] at E
  exact bf2_put C E _ _ _ _ _ _ hi2 h1 h3 hres
def f2_isShaded_L (σ : St) (a1 : Int32) (a3 : Int32) : Nat → Int32 → Int32
  | 0, _ => (0)
  | n + 1, j => (if a3 < j then (0 : Int32) else (if (f2_shadeEnd σ a1 j) ≤ (f2_shadeStart σ a1 j) then (f2_isShaded_L σ a1 a3 n (j + (1 : Int32))) else (1 : Int32)))
set_option maxHeartbeats 4000000 in
set_option maxRecDepth 100000 in
theorem bf2_isShaded_L {X : CX} {Λ : LY} (C : OK X Λ cX2_isShaded 5 RX2 2 45) {σ : St} {res : Int32} (E : EN X Λ (some .boolean) (some (.int res)) σ) (a1 : Int32) (a3 : Int32)  : ∀ (n : Nat) (j : Int32), (h1 : vp_in a1 10) → (hr : RG a3 j n) → (f2_isShaded_L σ a1 a3 n j) = res → VV X Λ 5 3 [(0, .ref (adr Λ 10)), (1, .int (a1)), (3, .int (a3)), (4, .int (j))] [] σ := by
  intro n
  induction n with
  | zero => intro j h1 hr hres; exact absurd hr (fun h => h.z)
  | succ n ih =>
    intro j h1 hr hres
    rw [f2_isShaded_L] at hres
    refine v_iload (pc2 := 5) C 3 dX2_isShaded_3 rfl rfl ?_
    refine v_iload_n (pc2 := 6) C 2 dX2_isShaded_5 rfl rfl ?_
    refine v_icmpgt (pc2 := 35) (pc3 := 9) C dX2_isShaded_6 rfl rfl (fun h6 => ?_) (fun h6 => ?_)
    · have hres := (if_pos h6).symm.trans hres
      have t6 := t_lt h6 rfl rfl
      refine v_iconst (pc2 := 36) C dX2_isShaded_35 ki_0 rfl ?_
      exact r_zP C E (Or.inl rfl) hres dX2_isShaded_36
    · have hres := (if_neg h6).symm.trans hres
      have t6 := t_nlt h6 rfl rfl
      refine v_aload_n (pc2 := 10) C 0 dX2_isShaded_9 rfl rfl ?_
      refine v_iload_n (pc2 := 11) C 1 dX2_isShaded_10 rfl rfl ?_
      refine v_iload (pc2 := 13) C 3 dX2_isShaded_11 rfl rfl ?_
      refine v_cVl (pc2 := 16) C kc_X2_51 (mX2_shadeStart (xl X) Λ _ _ _ h1 (hr.in h6)) (wd10 Λ _) rfl (by decide) rfl rfl (Nat.le_of_ble_eq_true rfl) dX2_isShaded_13 rfl ?_
      refine v_aload_n (pc2 := 17) C 0 dX2_isShaded_16 rfl rfl ?_
      refine v_iload_n (pc2 := 18) C 1 dX2_isShaded_17 rfl rfl ?_
      refine v_iload (pc2 := 20) C 3 dX2_isShaded_18 rfl rfl ?_
      refine v_cVl (pc2 := 23) C kc_X2_55 (mX2_shadeEnd (xl X) Λ _ _ _ h1 (hr.in h6)) (wd10 Λ _) rfl (by decide) rfl rfl (Nat.le_of_ble_eq_true rfl) dX2_isShaded_20 rfl ?_
      refine v_lcge (pc2 := 29) (pc3 := 27) C dX2_isShaded_23 dX2_isShaded_24 rfl rfl (fun h23 => ?_) (fun h23 => ?_)
      · have hres := (if_pos h23).symm.trans hres
        refine v_iinc (pc2 := 32) (lv2 := [(4, _), (0, _), (1, _), (3, _)]) C 3 dX2_isShaded_29 rfl ki_1 (by decide) rfl rfl ?_
        refine v_goto (pc2 := 3) C dX2_isShaded_32 rfl ?_
        exact v_lv [1, 2, 3, 0] rfl (ih _ h1 (hr.step h6) hres)
      · have hres := (if_neg h23).symm.trans hres
        refine v_iconst (pc2 := 28) C dX2_isShaded_27 ki_1 rfl ?_
        exact r_zP C E (Or.inr rfl) hres dX2_isShaded_28
def f2_isShaded (σ : St) (a1 : Int32) (a2 : Int32) (a3 : Int32) : Int32 :=
  (f2_isShaded_L σ a1 a3 11 a2)
set_option maxHeartbeats 4000000 in
set_option maxRecDepth 100000 in
theorem bf2_isShaded {X : CX} {Λ : LY} (C : OK X Λ cX2_isShaded 5 RX2 2 45) {σ : St} {res : Int32} (E : EN X Λ (some .boolean) (some (.int res)) σ) (a1 : Int32) (a2 : Int32) (a3 : Int32) (h1 : vp_in a1 10) (h2 : 0 ≤ a2.toInt ∧ a2.toInt ≤ 10) (h3 : a3.toInt ≤ 9) (hres : (f2_isShaded σ a1 a2 a3) = res) : VV X Λ 5 0 [(0, .ref (adr Λ 10)), (1, .int (a1)), (2, .int (a2)), (3, .int (a3))] [] σ := by
  unfold f2_isShaded at hres
  refine v_iload_n (pc2 := 1) C 2 dX2_isShaded_0 rfl rfl ?_
  refine v_istore (pc2 := 3) (lv2 := [(4, _), (0, _), (1, _), (2, _), (3, _)]) C dX2_isShaded_1 (by decide) rfl rfl ?_
  exact v_lv [1, 2, 4, 0] rfl (bf2_isShaded_L C E _ _ 11 _ h1 ⟨h2.1, h2.2, h3, by omega, by omega⟩  hres)
theorem mX2_isShaded (l : Launch) (Λ : LY) (σ : St) (a1 : Int32) (a2 : Int32) (a3 : Int32) (h1 : vp_in a1 10) (h2 : 0 ≤ a2.toInt ∧ a2.toInt ≤ 10) (h3 : a3.toInt ≤ 9) : CT l Λ yX2_isShaded cX2_isShaded 5 (some .boolean) 2 45 [.ref (adr Λ 10), .int (a1), .int (a2), .int (a3)] σ (some (.int (f2_isShaded σ a1 a2 a3))) σ := by
  refine CT_of (by decide +kernel) (Nat.le_of_ble_eq_true rfl) ?_
  intro X hX C E
  obtain ⟨res, hres⟩ : ∃ r, (f2_isShaded σ a1 a2 a3) = r := ⟨_, rfl⟩
  rw [hres] at E
  exact bf2_isShaded C E _ _ _  h1 h2 h3 hres
theorem zX2_isShaded (σ : St) (a1 : Int32) (a2 : Int32) (a3 : Int32) : (f2_isShaded σ a1 a2 a3) = 0 ∨ (f2_isShaded σ a1 a2 a3) = 1 := by
  unfold f2_isShaded
  suffices h : ∀ n j, f2_isShaded_L σ a1 a3 n j = 0 ∨ f2_isShaded_L σ a1 a3 n j = 1 from h _ _
  intro n
  induction n with
  | zero => intro j; exact Or.inl rfl
  | succ n ih =>
    intro j; rw [f2_isShaded_L]; repeat' split
    all_goals first | exact Or.inl rfl | exact Or.inr rfl | exact ih _
def f2_addPiece_L (a1 : Int64) (a2 : Int64) : Nat → St → Int32 → St
  | 0, σ, _ => (σ)
  | n + 1, σ, j => (if j ≤ (0 : Int32) then (uI (uB (uB σ 6 (Int32.toNatClampNeg j) a1) 7 (Int32.toNatClampNeg j) a2) 13 ((gI (uB (uB σ 6 (Int32.toNatClampNeg j) a1) 7 (Int32.toNatClampNeg j) a2) 13) + (1 : Int32))) else (if (gB σ 6 (Int32.toNatClampNeg (j - (1 : Int32)))) ≤ a1 then (uI (uB (uB σ 6 (Int32.toNatClampNeg j) a1) 7 (Int32.toNatClampNeg j) a2) 13 ((gI (uB (uB σ 6 (Int32.toNatClampNeg j) a1) 7 (Int32.toNatClampNeg j) a2) 13) + (1 : Int32))) else (f2_addPiece_L a1 a2 n (uB (uB σ 6 (Int32.toNatClampNeg j) (gB σ 6 (Int32.toNatClampNeg (j - (1 : Int32))))) 7 (Int32.toNatClampNeg j) (gB (uB σ 6 (Int32.toNatClampNeg j) (gB σ 6 (Int32.toNatClampNeg (j - (1 : Int32))))) 7 (Int32.toNatClampNeg (j - (1 : Int32))))) (j + (-1 : Int32)))))
set_option maxHeartbeats 4000000 in
set_option maxRecDepth 100000 in
theorem bf2_addPiece_L {X : CX} {Λ : LY} (C : OK X Λ cX2_addPiece 6 RX2 0 0) {res : St} (E : EN X Λ none none res) (a1 : Int64) (a2 : Int64)  : ∀ (n : Nat) (σ : St) (j : Int32), (hd : DN j n) → (f2_addPiece_L a1 a2 n σ j) = res → VV X Λ 6 22 [(0, .ref (adr Λ 10)), (1, .long (a1)), (3, .long (a2)), (5, .int (j))] [] σ := by
  intro n
  induction n with
  | zero => intro σ j hd hres; exact absurd hd (fun h => h.z)
  | succ n ih =>
    intro σ j hd hres
    rw [f2_addPiece_L] at hres
    refine v_iload (pc2 := 24) C 3 dX2_addPiece_22 rfl rfl ?_
    refine v_ifle (pc2 := 79) (pc3 := 27) C dX2_addPiece_24 rfl rfl (fun h24 => ?_) (fun h24 => ?_)
    · have hres := (if_pos h24).symm.trans hres
      have t24 := t_le h24 rfl lit_0
      refine v_aload_n (pc2 := 80) C 0 dX2_addPiece_79 rfl rfl ?_
      refine vg_X2_from (pc2 := 83) C lf_X2_18 dX2_addPiece_80 rfl ?_
      refine v_iload (pc2 := 85) C 3 dX2_addPiece_83 rfl rfl ?_
      refine v_lload_n (pc2 := 86) C 1 dX2_addPiece_85 rfl rfl ?_
      refine as25 (pc2 := 87) C hd.in dX2_addPiece_86 rfl ?_
      refine v_aload_n (pc2 := 88) C 0 dX2_addPiece_87 rfl rfl ?_
      refine vg_X2_to (pc2 := 91) C lf_X2_21 dX2_addPiece_88 rfl ?_
      refine v_iload (pc2 := 93) C 3 dX2_addPiece_91 rfl rfl ?_
      refine v_lload_n (pc2 := 94) C 2 dX2_addPiece_93 rfl rfl ?_
      refine as26 (pc2 := 95) C hd.in dX2_addPiece_94 rfl ?_
      refine v_aload_n (pc2 := 96) C 0 dX2_addPiece_95 rfl rfl ?_
      refine v_dup (pc2 := 97) C dX2_addPiece_96 rfl rfl ?_
      refine vg_X2_pieces (pc2 := 100) C lf_X2_58 dX2_addPiece_97 rfl ?_
      refine v_iconst (pc2 := 101) C dX2_addPiece_100 ki_1 rfl ?_
      refine v_iadd (pc2 := 102) C dX2_addPiece_101 rfl ?_
      refine vp_X2_pieces (pc2 := 105) C lf_X2_58 dX2_addPiece_102 rfl ?_
      exact r_vS C E hres dX2_addPiece_105
    · have hres := (if_neg h24).symm.trans hres
      have t24 := t_nle h24 rfl lit_0
      refine v_aload_n (pc2 := 28) C 0 dX2_addPiece_27 rfl rfl ?_
      refine vg_X2_from (pc2 := 31) C lf_X2_18 dX2_addPiece_28 rfl ?_
      refine v_iload (pc2 := 33) C 3 dX2_addPiece_31 rfl rfl ?_
      refine v_iconst (pc2 := 34) C dX2_addPiece_33 ki_1 rfl ?_
      refine v_isub (pc2 := 35) C dX2_addPiece_34 rfl ?_
      refine al25 (pc2 := 36) C (hd.pin h24) dX2_addPiece_35 rfl ?_
      refine v_lload_n (pc2 := 37) C 1 dX2_addPiece_36 rfl rfl ?_
      refine v_lcle (pc2 := 79) (pc3 := 41) C dX2_addPiece_37 dX2_addPiece_38 rfl rfl (fun h37 => ?_) (fun h37 => ?_)
      · have hres := (if_pos h37).symm.trans hres
        refine v_aload_n (pc2 := 80) C 0 dX2_addPiece_79 rfl rfl ?_
        refine vg_X2_from (pc2 := 83) C lf_X2_18 dX2_addPiece_80 rfl ?_
        refine v_iload (pc2 := 85) C 3 dX2_addPiece_83 rfl rfl ?_
        refine v_lload_n (pc2 := 86) C 1 dX2_addPiece_85 rfl rfl ?_
        refine as25 (pc2 := 87) C hd.in dX2_addPiece_86 rfl ?_
        refine v_aload_n (pc2 := 88) C 0 dX2_addPiece_87 rfl rfl ?_
        refine vg_X2_to (pc2 := 91) C lf_X2_21 dX2_addPiece_88 rfl ?_
        refine v_iload (pc2 := 93) C 3 dX2_addPiece_91 rfl rfl ?_
        refine v_lload_n (pc2 := 94) C 2 dX2_addPiece_93 rfl rfl ?_
        refine as26 (pc2 := 95) C hd.in dX2_addPiece_94 rfl ?_
        refine v_aload_n (pc2 := 96) C 0 dX2_addPiece_95 rfl rfl ?_
        refine v_dup (pc2 := 97) C dX2_addPiece_96 rfl rfl ?_
        refine vg_X2_pieces (pc2 := 100) C lf_X2_58 dX2_addPiece_97 rfl ?_
        refine v_iconst (pc2 := 101) C dX2_addPiece_100 ki_1 rfl ?_
        refine v_iadd (pc2 := 102) C dX2_addPiece_101 rfl ?_
        refine vp_X2_pieces (pc2 := 105) C lf_X2_58 dX2_addPiece_102 rfl ?_
        exact r_vS C E hres dX2_addPiece_105
      · have hres := (if_neg h37).symm.trans hres
        refine v_aload_n (pc2 := 42) C 0 dX2_addPiece_41 rfl rfl ?_
        refine vg_X2_from (pc2 := 45) C lf_X2_18 dX2_addPiece_42 rfl ?_
        refine v_iload (pc2 := 47) C 3 dX2_addPiece_45 rfl rfl ?_
        refine v_aload_n (pc2 := 48) C 0 dX2_addPiece_47 rfl rfl ?_
        refine vg_X2_from (pc2 := 51) C lf_X2_18 dX2_addPiece_48 rfl ?_
        refine v_iload (pc2 := 53) C 3 dX2_addPiece_51 rfl rfl ?_
        refine v_iconst (pc2 := 54) C dX2_addPiece_53 ki_1 rfl ?_
        refine v_isub (pc2 := 55) C dX2_addPiece_54 rfl ?_
        refine al25 (pc2 := 56) C (hd.pin h24) dX2_addPiece_55 rfl ?_
        refine as25 (pc2 := 57) C hd.in dX2_addPiece_56 rfl ?_
        refine v_aload_n (pc2 := 58) C 0 dX2_addPiece_57 rfl rfl ?_
        refine vg_X2_to (pc2 := 61) C lf_X2_21 dX2_addPiece_58 rfl ?_
        refine v_iload (pc2 := 63) C 3 dX2_addPiece_61 rfl rfl ?_
        refine v_aload_n (pc2 := 64) C 0 dX2_addPiece_63 rfl rfl ?_
        refine vg_X2_to (pc2 := 67) C lf_X2_21 dX2_addPiece_64 rfl ?_
        refine v_iload (pc2 := 69) C 3 dX2_addPiece_67 rfl rfl ?_
        refine v_iconst (pc2 := 70) C dX2_addPiece_69 ki_1 rfl ?_
        refine v_isub (pc2 := 71) C dX2_addPiece_70 rfl ?_
        refine al26 (pc2 := 72) C (hd.pin h24) dX2_addPiece_71 rfl ?_
        refine as26 (pc2 := 73) C hd.in dX2_addPiece_72 rfl ?_
        refine v_iinc (pc2 := 76) (lv2 := [(5, _), (0, _), (1, _), (3, _)]) C 3 dX2_addPiece_73 rfl ki_m1 (by decide) rfl rfl ?_
        refine v_goto (pc2 := 22) C dX2_addPiece_76 rfl ?_
        exact v_lv [1, 2, 3, 0] rfl (ih _ _ (hd.step h24) hres)
def f2_addPiece (σ : St) (a1 : Int64) (a2 : Int64) : St :=
  (if a2 ≤ a1 then σ else (if (gI σ 13) < (10 : Int32) then (f2_addPiece_L a1 a2 11 σ (gI σ 13)) else σ))
set_option maxHeartbeats 4000000 in
set_option maxRecDepth 100000 in
theorem bf2_addPiece {X : CX} {Λ : LY} (C : OK X Λ cX2_addPiece 6 RX2 0 0) {res : St} (E : EN X Λ none none res) (σ : St) (a1 : Int64) (a2 : Int64) (hs : Safe σ) (hres : (f2_addPiece σ a1 a2) = res) : VV X Λ 6 0 [(0, .ref (adr Λ 10)), (1, .long (a1)), (3, .long (a2))] [] σ := by
  unfold f2_addPiece at hres
  have hq := hs.pcs
  refine v_lload_n (pc2 := 1) C 1 dX2_addPiece_0 rfl rfl ?_
  refine v_lload_n (pc2 := 2) C 2 dX2_addPiece_1 rfl rfl ?_
  refine v_lcge (pc2 := 15) (pc3 := 6) C dX2_addPiece_2 dX2_addPiece_3 rfl rfl (fun h2 => ?_) (fun h2 => ?_)
  · have hres := (if_pos h2).symm.trans hres
    exact r_vS C E hres dX2_addPiece_15
  · have hres := (if_neg h2).symm.trans hres
    refine v_aload_n (pc2 := 7) C 0 dX2_addPiece_6 rfl rfl ?_
    refine vg_X2_pieces (pc2 := 10) C lf_X2_58 dX2_addPiece_7 rfl ?_
    refine v_bipush (pc2 := 12) C dX2_addPiece_10 kb_10 rfl ?_
    refine v_icmplt (pc2 := 16) (pc3 := 15) C dX2_addPiece_12 rfl rfl (fun h12 => ?_) (fun h12 => ?_)
    · have hres := (if_pos h12).symm.trans hres
      have t12 := t_lt h12 rfl lit_10
      refine v_aload_n (pc2 := 17) C 0 dX2_addPiece_16 rfl rfl ?_
      refine vg_X2_pieces (pc2 := 20) C lf_X2_58 dX2_addPiece_17 rfl ?_
      refine v_istore (pc2 := 22) (lv2 := [(5, _), (0, _), (1, _), (3, _)]) C dX2_addPiece_20 (by decide) rfl rfl ?_
      exact v_lv [1, 2, 3, 0] rfl (bf2_addPiece_L C E _ _ 11 _ _ ⟨by omega, by omega, by omega⟩  hres)
    · have hres := (if_neg h12).symm.trans hres
      have t12 := t_nlt h12 rfl lit_10
      exact r_vS C E hres dX2_addPiece_15
theorem mX2_addPiece (l : Launch) (Λ : LY) (σ : St) (a1 : Int64) (a2 : Int64) (hs : Safe σ) : CT l Λ yX2_addPiece cX2_addPiece 6 none 0 0 [.ref (adr Λ 10), .long (a1), .long (a2)] σ none (f2_addPiece σ a1 a2) := by
  refine CT_of (by decide +kernel) (Nat.le_of_ble_eq_true rfl) ?_
  intro X hX C E
  obtain ⟨res, hres⟩ : ∃ r, (f2_addPiece σ a1 a2) = r := ⟨_, rfl⟩
  rw [hres] at E
  exact bf2_addPiece C E _ _ _  hs hres
theorem sX2_put {σ : St} {a : Int32} {i : Nat} {b c d : Int32} (h : Safe σ) : Safe (f2_put σ a i b c d) := sf_B (sf_B h)
theorem sX2_addPiece_L {a b : Int64} : ∀ (n : Nat) (σ : St) (j : Int32), Safe σ → (gI σ 13).toInt < 10 → Safe (f2_addPiece_L a b n σ j) := by
  intro n
  induction n with
  | zero => intro σ j h hp; exact h
  | succ n ih =>
    intro σ j h hp
    have h13 : 0 ≤ (gI σ 13 + (1 : Int32)).toInt ∧ (gI σ 13 + (1 : Int32)).toInt ≤ 10 := by
      have := h.pcs
      rw [i_add1 (b := 10) hp (by omega)]; omega
    rw [f2_addPiece_L]
    repeat' split
    all_goals first | exact sf_I13 h13 (sf_B (sf_B h)) | exact ih _ _ (sf_B (sf_B h)) hp
theorem sX2_addPiece {σ : St} {a b : Int64} (h : Safe σ) : Safe (f2_addPiece σ a b) := by
  unfold f2_addPiece
  repeat' split
  all_goals first | exact h | (rename_i h1 h2; exact sX2_addPiece_L _ _ _ h (by have := t_lt h2 rfl lit_10; omega)) | (rename_i h1; exact sX2_addPiece_L _ _ _ h (by have := t_lt h1 rfl lit_10; omega))
def f2_cast_L (a1 : Int32) (a3 : Int32) : Nat → St → Int32 → St
  | 0, σ, _ => (σ)
  | n + 1, σ, j => (if a3 < j then σ else (f2_cast_L a1 a3 n (f2_addPiece σ (f2_shadeStart σ a1 j) (f2_shadeEnd σ a1 j)) (j + (1 : Int32))))
set_option maxHeartbeats 4000000 in
set_option maxRecDepth 100000 in
theorem bf2_cast_L {X : CX} {Λ : LY} (C : OK X Λ cX2_cast 5 RX2 2 45) {res : St} (E : EN X Λ none none res) (a1 : Int32) (a3 : Int32)  : ∀ (n : Nat) (σ : St) (j : Int32), (hs : Safe σ) → (h1 : vp_in a1 10) → (hr : RG a3 j n) → (f2_cast_L a1 a3 n σ j) = res → VV X Λ 5 8 [(0, .ref (adr Λ 10)), (1, .int (a1)), (3, .int (a3)), (4, .int (j))] [] σ := by
  intro n
  induction n with
  | zero => intro σ j hs h1 hr hres; exact absurd hr (fun h => h.z)
  | succ n ih =>
    intro σ j hs h1 hr hres
    rw [f2_cast_L] at hres
    refine v_iload (pc2 := 10) C 3 dX2_cast_8 rfl rfl ?_
    refine v_iload_n (pc2 := 11) C 2 dX2_cast_10 rfl rfl ?_
    refine v_icmpgt (pc2 := 38) (pc3 := 14) C dX2_cast_11 rfl rfl (fun h11 => ?_) (fun h11 => ?_)
    · have hres := (if_pos h11).symm.trans hres
      exact r_vS C E hres dX2_cast_38
    · have hres := (if_neg h11).symm.trans hres
      refine v_aload_n (pc2 := 15) C 0 dX2_cast_14 rfl rfl ?_
      refine v_aload_n (pc2 := 16) C 0 dX2_cast_15 rfl rfl ?_
      refine v_iload_n (pc2 := 17) C 1 dX2_cast_16 rfl rfl ?_
      refine v_iload (pc2 := 19) C 3 dX2_cast_17 rfl rfl ?_
      refine v_cVl (pc2 := 22) C kc_X2_51 (mX2_shadeStart (xl X) Λ _ _ _ h1 (hr.in h11)) (wd10 Λ _) rfl (by decide) rfl rfl (Nat.le_of_ble_eq_true rfl) dX2_cast_19 rfl ?_
      refine v_aload_n (pc2 := 23) C 0 dX2_cast_22 rfl rfl ?_
      refine v_iload_n (pc2 := 24) C 1 dX2_cast_23 rfl rfl ?_
      refine v_iload (pc2 := 26) C 3 dX2_cast_24 rfl rfl ?_
      refine v_cVl (pc2 := 29) C kc_X2_55 (mX2_shadeEnd (xl X) Λ _ _ _ h1 (hr.in h11)) (wd10 Λ _) rfl (by decide) rfl rfl (Nat.le_of_ble_eq_true rfl) dX2_cast_26 rfl ?_
      refine v_cVv (pc2 := 32) C kc_X2_61 (mX2_addPiece (xl X) Λ _ _ _ hs) (wd10 Λ _) rfl (by decide) rfl rfl (Nat.le_of_ble_eq_true rfl) dX2_cast_29 rfl ?_
      refine v_iinc (pc2 := 35) (lv2 := [(4, _), (0, _), (1, _), (3, _)]) C 3 dX2_cast_32 rfl ki_1 (by decide) rfl rfl ?_
      refine v_goto (pc2 := 8) C dX2_cast_35 rfl ?_
      exact v_lv [1, 2, 3, 0] rfl (ih _ _ (sX2_addPiece hs) h1 (hr.step h11) hres)
def f2_cast (σ : St) (a1 : Int32) (a2 : Int32) (a3 : Int32) : St :=
  (f2_cast_L a1 a3 11 (uI σ 13 (0 : Int32)) a2)
set_option maxHeartbeats 4000000 in
set_option maxRecDepth 100000 in
theorem bf2_cast {X : CX} {Λ : LY} (C : OK X Λ cX2_cast 5 RX2 2 45) {res : St} (E : EN X Λ none none res) (σ : St) (a1 : Int32) (a2 : Int32) (a3 : Int32) (hs : Safe σ) (h1 : vp_in a1 10) (h2 : 0 ≤ a2.toInt ∧ a2.toInt ≤ 10) (h3 : a3.toInt ≤ 9) (hres : (f2_cast σ a1 a2 a3) = res) : VV X Λ 5 0 [(0, .ref (adr Λ 10)), (1, .int (a1)), (2, .int (a2)), (3, .int (a3))] [] σ := by
  unfold f2_cast at hres
  refine v_aload_n (pc2 := 1) C 0 dX2_cast_0 rfl rfl ?_
  refine v_iconst (pc2 := 2) C dX2_cast_1 ki_0 rfl ?_
  refine vp_X2_pieces (pc2 := 5) C lf_X2_58 dX2_cast_2 rfl ?_
  refine v_iload_n (pc2 := 6) C 2 dX2_cast_5 rfl rfl ?_
  refine v_istore (pc2 := 8) (lv2 := [(4, _), (0, _), (1, _), (2, _), (3, _)]) C dX2_cast_6 (by decide) rfl rfl ?_
  exact v_lv [1, 2, 4, 0] rfl (bf2_cast_L C E _ _ 11 _ _ (sf_I13 (by rw [lit_0]; decide) hs) h1 ⟨h2.1, h2.2, h3, by omega, by omega⟩  hres)
theorem mX2_cast (l : Launch) (Λ : LY) (σ : St) (a1 : Int32) (a2 : Int32) (a3 : Int32) (hs : Safe σ) (h1 : vp_in a1 10) (h2 : 0 ≤ a2.toInt ∧ a2.toInt ≤ 10) (h3 : a3.toInt ≤ 9) : CT l Λ yX2_cast cX2_cast 5 none 2 45 [.ref (adr Λ 10), .int (a1), .int (a2), .int (a3)] σ none (f2_cast σ a1 a2 a3) := by
  refine CT_of (by decide +kernel) (Nat.le_of_ble_eq_true rfl) ?_
  intro X hX C E
  obtain ⟨res, hres⟩ : ∃ r, (f2_cast σ a1 a2 a3) = r := ⟨_, rfl⟩
  rw [hres] at E
  exact bf2_cast C E _ _ _ _  hs h1 h2 h3 hres
theorem sX2_cast_L {a b : Int32} : ∀ (n : Nat) (σ : St) (j : Int32), Safe σ → Safe (f2_cast_L a b n σ j) := by
  intro n
  induction n with
  | zero => intro σ j h; exact h
  | succ n ih =>
    intro σ j h
    rw [f2_cast_L]
    split
    · exact h
    · exact ih _ _ (sX2_addPiece h)
theorem sX2_cast {σ : St} {a b c : Int32} (h : Safe σ) : Safe (f2_cast σ a b c) := sX2_cast_L _ _ _ (sf_I13 (by rw [lit_0]; decide) h)
def f2_shaded_L (σ : St) : Nat → Int64 → Int64 → Int32 → Int64
  | 0, _, _, _ => (0)
  | n + 1, s, r, j => (if (gI σ 13) ≤ j then s else (if (gB σ 7 (Int32.toNatClampNeg j)) ≤ (if (gB σ 6 (Int32.toNatClampNeg j)) < r then r else (gB σ 6 (Int32.toNatClampNeg j))) then (f2_shaded_L σ n s r (j + (1 : Int32))) else (f2_shaded_L σ n (s + ((gB σ 7 (Int32.toNatClampNeg j)) - (if (gB σ 6 (Int32.toNatClampNeg j)) < r then r else (gB σ 6 (Int32.toNatClampNeg j))))) (gB σ 7 (Int32.toNatClampNeg j)) (j + (1 : Int32)))))
set_option maxHeartbeats 4000000 in
set_option maxRecDepth 100000 in
theorem bf2_shaded_L {X : CX} {Λ : LY} (C : OK X Λ cX2_shaded 8 RX2 1 23) {σ : St} {res : Int64} (E : EN X Λ (some .long) (some (.long res)) σ)  : ∀ (n : Nat) (s : Int64) (r : Int64) (j : Int32), (hs : Safe σ) → (hu : UP 10 j n) → (f2_shaded_L σ n s r j) = res → VV X Λ 8 21 [(0, .ref (adr Λ 10)), (1, .long (s)), (3, .long (r)), (5, .int (j))] [] σ := by
  intro n
  induction n with
  | zero => intro s r j hs hu hres; exact absurd hu (fun h => h.z)
  | succ n ih =>
    intro s r j hs hu hres
    rw [f2_shaded_L] at hres
    refine v_iload (pc2 := 23) C 3 dX2_shaded_21 rfl rfl ?_
    refine v_aload_n (pc2 := 24) C 0 dX2_shaded_23 rfl rfl ?_
    refine vg_X2_pieces (pc2 := 27) C lf_X2_58 dX2_shaded_24 rfl ?_
    refine v_icmpge (pc2 := 83) (pc3 := 30) C dX2_shaded_27 rfl rfl (fun h27 => ?_) (fun h27 => ?_)
    · have hres := (if_pos h27).symm.trans hres
      refine v_lload_n (pc2 := 84) C 1 dX2_shaded_83 rfl rfl ?_
      exact r_lP C E hres dX2_shaded_84
    · have hres := (if_neg h27).symm.trans hres
      refine v_lload_n (pc2 := 31) C 2 dX2_shaded_30 rfl rfl ?_
      refine v_aload_n (pc2 := 32) C 0 dX2_shaded_31 rfl rfl ?_
      refine vg_X2_from (pc2 := 35) C lf_X2_18 dX2_shaded_32 rfl ?_
      refine v_iload (pc2 := 37) C 3 dX2_shaded_35 rfl rfl ?_
      refine al25 (pc2 := 38) C (hu.in h27 hs.pcs.2) dX2_shaded_37 rfl ?_
      refine v_lmax (pc2 := 41) C ml_X2_69 ms_lmax mi_Math mc_lmax (by decide) (Nat.le_of_ble_eq_true rfl) dX2_shaded_38 rfl ?_
      refine v_lstore (pc2 := 43) (lv2 := [(6, _), (0, _), (1, _), (3, _), (5, _)]) C dX2_shaded_41 (by decide) rfl rfl ?_
      refine v_aload_n (pc2 := 44) C 1 dX2_shaded_43 rfl rfl ?_
      refine vg_X2_to (pc2 := 47) C lf_X2_21 dX2_shaded_44 rfl ?_
      refine v_iload (pc2 := 49) C 4 dX2_shaded_47 rfl rfl ?_
      refine al26 (pc2 := 50) C (hu.in h27 hs.pcs.2) dX2_shaded_49 rfl ?_
      refine v_lload (pc2 := 52) C 0 dX2_shaded_50 rfl rfl ?_
      refine v_lcle (pc2 := 77) (pc3 := 56) C dX2_shaded_52 dX2_shaded_53 rfl rfl (fun h52 => ?_) (fun h52 => ?_)
      · have hres := (if_pos h52).symm.trans hres
        refine v_iinc (pc2 := 80) (lv2 := [(5, _), (6, _), (0, _), (1, _), (3, _)]) C 4 dX2_shaded_77 rfl ki_1 (by decide) rfl rfl ?_
        refine v_goto (pc2 := 21) C dX2_shaded_80 rfl ?_
        exact v_lv [2, 3, 4, 0] rfl (ih _ _ _ hs (hu.step h27 hs.pcs.2 (by decide)) hres)
      · have hres := (if_neg h52).symm.trans hres
        refine v_lload_n (pc2 := 57) C 2 dX2_shaded_56 rfl rfl ?_
        refine v_aload_n (pc2 := 58) C 1 dX2_shaded_57 rfl rfl ?_
        refine vg_X2_to (pc2 := 61) C lf_X2_21 dX2_shaded_58 rfl ?_
        refine v_iload (pc2 := 63) C 4 dX2_shaded_61 rfl rfl ?_
        refine al26 (pc2 := 64) C (hu.in h27 hs.pcs.2) dX2_shaded_63 rfl ?_
        refine v_lload (pc2 := 66) C 0 dX2_shaded_64 rfl rfl ?_
        refine v_lsub (pc2 := 67) C dX2_shaded_66 rfl ?_
        refine v_ladd (pc2 := 68) C dX2_shaded_67 rfl ?_
        refine v_lstore_n (pc2 := 69) (lv2 := [(1, _), (6, _), (0, _), (3, _), (5, _)]) C dX2_shaded_68 (by decide) rfl rfl ?_
        refine v_aload_n (pc2 := 70) C 2 dX2_shaded_69 rfl rfl ?_
        refine vg_X2_to (pc2 := 73) C lf_X2_21 dX2_shaded_70 rfl ?_
        refine v_iload (pc2 := 75) C 4 dX2_shaded_73 rfl rfl ?_
        refine al26 (pc2 := 76) C (hu.in h27 hs.pcs.2) dX2_shaded_75 rfl ?_
        refine v_lstore_n (pc2 := 77) (lv2 := [(3, _), (1, _), (6, _), (0, _), (5, _)]) C dX2_shaded_76 (by decide) rfl rfl ?_
        refine v_iinc (pc2 := 80) (lv2 := [(5, _), (3, _), (1, _), (6, _), (0, _)]) C 4 dX2_shaded_77 rfl ki_1 (by decide) rfl rfl ?_
        refine v_goto (pc2 := 21) C dX2_shaded_80 rfl ?_
        exact v_lv [4, 2, 1, 0] rfl (ih _ _ _ hs (hu.step h27 hs.pcs.2 (by decide)) hres)
def f2_shaded (σ : St) : Int64 :=
  (if (gI σ 13) = (0 : Int32) then (0 : Int64) else (f2_shaded_L σ 11 (0 : Int64) (gB σ 6 (Int32.toNatClampNeg (0 : Int32))) (0 : Int32)))
set_option maxHeartbeats 4000000 in
set_option maxRecDepth 100000 in
theorem bf2_shaded {X : CX} {Λ : LY} (C : OK X Λ cX2_shaded 8 RX2 1 23) {σ : St} {res : Int64} (E : EN X Λ (some .long) (some (.long res)) σ) (hs : Safe σ) (hres : (f2_shaded σ) = res) : VV X Λ 8 0 [(0, .ref (adr Λ 10))] [] σ := by
  unfold f2_shaded at hres
  refine v_aload_n (pc2 := 1) C 0 dX2_shaded_0 rfl rfl ?_
  refine vg_X2_pieces (pc2 := 4) C lf_X2_58 dX2_shaded_1 rfl ?_
  refine v_ifne (pc2 := 9) (pc3 := 7) C dX2_shaded_4 rfl rfl (fun h4 => ?_) (fun h4 => ?_)
  · have hres := (if_neg h4).symm.trans hres
    refine v_lconst (pc2 := 10) C dX2_shaded_9 kl_0 rfl ?_
    refine v_lstore_n (pc2 := 11) (lv2 := [(1, _), (0, _)]) C dX2_shaded_10 (by decide) rfl rfl ?_
    refine v_aload_n (pc2 := 12) C 1 dX2_shaded_11 rfl rfl ?_
    refine vg_X2_from (pc2 := 15) C lf_X2_18 dX2_shaded_12 rfl ?_
    refine v_iconst (pc2 := 16) C dX2_shaded_15 ki_0 rfl ?_
    refine al25 (pc2 := 17) C (in_lit (by decide +kernel)) dX2_shaded_16 rfl ?_
    refine v_lstore_n (pc2 := 18) (lv2 := [(3, _), (1, _), (0, _)]) C dX2_shaded_17 (by decide) rfl rfl ?_
    refine v_iconst (pc2 := 19) C dX2_shaded_18 ki_0 rfl ?_
    refine v_istore (pc2 := 21) (lv2 := [(5, _), (3, _), (1, _), (0, _)]) C dX2_shaded_19 (by decide) rfl rfl ?_
    exact v_lv [3, 2, 1, 0] rfl (bf2_shaded_L C E  11 _ _ _ hs UP.start  hres)
  · have hres := (if_pos h4).symm.trans hres
    refine v_lconst (pc2 := 8) C dX2_shaded_7 kl_0 rfl ?_
    exact r_lP C E hres dX2_shaded_8
theorem mX2_shaded (l : Launch) (Λ : LY) (σ : St) (hs : Safe σ) : CT l Λ yX2_shaded cX2_shaded 8 (some .long) 1 23 [.ref (adr Λ 10)] σ (some (.long (f2_shaded σ))) σ := by
  refine CT_of (by decide +kernel) (Nat.le_of_ble_eq_true rfl) ?_
  intro X hX C E
  obtain ⟨res, hres⟩ : ∃ r, (f2_shaded σ) = r := ⟨_, rfl⟩
  rw [hres] at E
  exact bf2_shaded C E   hs hres
def f2_darkGroups_I (σ : St) (q : Int32) (bg : Int64) (sp : Int64) : Nat → Int32 → Int32 → Int32
  | 0, _, _ => (0)
  | n + 1, b, j => (if (gI σ 13) ≤ j then b else (if sp ≤ ((3 : Int64) * (gB σ 6 (Int32.toNatClampNeg j))) then (f2_darkGroups_I σ q bg sp n b (j + (1 : Int32))) else (if ((3 : Int64) * (gB σ 7 (Int32.toNatClampNeg j))) ≤ bg then (f2_darkGroups_I σ q bg sp n b (j + (1 : Int32))) else (f2_darkGroups_I σ q bg sp n (b ||| ((1 : Int32) <<< (q &&& 31))) (j + (1 : Int32))))))
set_option maxHeartbeats 4000000 in
set_option maxRecDepth 100000 in
theorem bf2_darkGroups_I {X : CX} {Λ : LY} (C : OK X Λ cX2_darkGroups 11 RX2 0 0) (σ : St) {out : Int32} (a1 : Int32) (th : Int64) (q : Int32) (bg : Int64) (sp : Int64) (k : VV X Λ 11 111 [(0, .ref (adr Λ 10)), (1, .int (a1)), (2, .long (th)), (4, .int (out)), (5, .int (q))] [] (σ)) : ∀ (n : Nat) (b : Int32) (j : Int32), (hs : Safe σ) → (hu : UP 10 j n) → (f2_darkGroups_I σ q bg sp n b j) = out → VV X Λ 11 53 [(0, .ref (adr Λ 10)), (1, .int (a1)), (2, .long (th)), (4, .int (b)), (5, .int (q)), (6, .long (bg)), (8, .long (sp)), (10, .int (j))] [] σ := by
  intro n
  induction n with
  | zero => intro b j hs hu hres; exact absurd hu (fun h => h.z)
  | succ n ih =>
    intro b j hs hu hres
    rw [f2_darkGroups_I] at hres
    refine v_iload (pc2 := 55) C 7 dX2_darkGroups_53 rfl rfl ?_
    refine v_aload_n (pc2 := 56) C 0 dX2_darkGroups_55 rfl rfl ?_
    refine vg_X2_pieces (pc2 := 59) C lf_X2_58 dX2_darkGroups_56 rfl ?_
    refine v_icmpge (pc2 := 111) (pc3 := 62) C dX2_darkGroups_59 rfl rfl (fun h59 => ?_) (fun h59 => ?_)
    · have hres := (if_pos h59).symm.trans hres
      subst hres
      exact v_lv [0, 1, 2, 3, 4] rfl k
    · have hres := (if_neg h59).symm.trans hres
      refine v_ldc2 (pc2 := 65) C lc_X2_72 dX2_darkGroups_62 rfl ?_
      refine v_aload_n (pc2 := 66) C 0 dX2_darkGroups_65 rfl rfl ?_
      refine vg_X2_from (pc2 := 69) C lf_X2_18 dX2_darkGroups_66 rfl ?_
      refine v_iload (pc2 := 71) C 7 dX2_darkGroups_69 rfl rfl ?_
      refine al25 (pc2 := 72) C (hu.in h59 hs.pcs.2) dX2_darkGroups_71 rfl ?_
      refine v_lmul (pc2 := 73) C dX2_darkGroups_72 rfl ?_
      refine v_lload (pc2 := 75) C 6 dX2_darkGroups_73 rfl rfl ?_
      refine v_lcge (pc2 := 105) (pc3 := 79) C dX2_darkGroups_75 dX2_darkGroups_76 rfl rfl (fun h75 => ?_) (fun h75 => ?_)
      · have hres := (if_pos h75).symm.trans hres
        refine v_iinc (pc2 := 108) (lv2 := [(10, _), (0, _), (1, _), (2, _), (4, _), (5, _), (6, _), (8, _)]) C 7 dX2_darkGroups_105 rfl ki_1 (by decide) rfl rfl ?_
        refine v_goto (pc2 := 53) C dX2_darkGroups_108 rfl ?_
        exact v_lv [1, 2, 3, 4, 5, 6, 7, 0] rfl (ih _ _ hs (hu.step h59 hs.pcs.2 (by decide)) hres)
      · have hres := (if_neg h75).symm.trans hres
        refine v_ldc2 (pc2 := 82) C lc_X2_72 dX2_darkGroups_79 rfl ?_
        refine v_aload_n (pc2 := 83) C 0 dX2_darkGroups_82 rfl rfl ?_
        refine vg_X2_to (pc2 := 86) C lf_X2_21 dX2_darkGroups_83 rfl ?_
        refine v_iload (pc2 := 88) C 7 dX2_darkGroups_86 rfl rfl ?_
        refine al26 (pc2 := 89) C (hu.in h59 hs.pcs.2) dX2_darkGroups_88 rfl ?_
        refine v_lmul (pc2 := 90) C dX2_darkGroups_89 rfl ?_
        refine v_lload (pc2 := 92) C 5 dX2_darkGroups_90 rfl rfl ?_
        refine v_lcle (pc2 := 105) (pc3 := 96) C dX2_darkGroups_92 dX2_darkGroups_93 rfl rfl (fun h92 => ?_) (fun h92 => ?_)
        · have hres := (if_pos h92).symm.trans hres
          refine v_iinc (pc2 := 108) (lv2 := [(10, _), (0, _), (1, _), (2, _), (4, _), (5, _), (6, _), (8, _)]) C 7 dX2_darkGroups_105 rfl ki_1 (by decide) rfl rfl ?_
          refine v_goto (pc2 := 53) C dX2_darkGroups_108 rfl ?_
          exact v_lv [1, 2, 3, 4, 5, 6, 7, 0] rfl (ih _ _ hs (hu.step h59 hs.pcs.2 (by decide)) hres)
        · have hres := (if_neg h92).symm.trans hres
          refine v_iload (pc2 := 98) C 3 dX2_darkGroups_96 rfl rfl ?_
          refine v_iconst (pc2 := 99) C dX2_darkGroups_98 ki_1 rfl ?_
          refine v_iload (pc2 := 101) C 4 dX2_darkGroups_99 rfl rfl ?_
          refine v_ishl (pc2 := 102) C dX2_darkGroups_101 rfl ?_
          refine v_ior (pc2 := 103) C dX2_darkGroups_102 rfl ?_
          refine v_istore (pc2 := 105) (lv2 := [(4, _), (0, _), (1, _), (2, _), (5, _), (6, _), (8, _), (10, _)]) C dX2_darkGroups_103 (by decide) rfl rfl ?_
          refine v_iinc (pc2 := 108) (lv2 := [(10, _), (4, _), (0, _), (1, _), (2, _), (5, _), (6, _), (8, _)]) C 7 dX2_darkGroups_105 rfl ki_1 (by decide) rfl rfl ?_
          refine v_goto (pc2 := 53) C dX2_darkGroups_108 rfl ?_
          exact v_lv [2, 3, 4, 1, 5, 6, 7, 0] rfl (ih _ _ hs (hu.step h59 hs.pcs.2 (by decide)) hres)
def f2_darkGroups_L (σ : St) (a1 : Int32) (th : Int64) : Nat → Int32 → Int32 → Int32
  | 0, _, _ => (0)
  | n + 1, b, q => (if (3 : Int32) ≤ q then b else (f2_darkGroups_L σ a1 th n (f2_darkGroups_I σ q (((3 : Int64) * (gB σ 4 (Int32.toNatClampNeg a1))) + ((Int32.toInt64 q) * th)) ((((3 : Int64) * (gB σ 4 (Int32.toNatClampNeg a1))) + ((Int32.toInt64 q) * th)) + th) 11 b (0 : Int32)) (q + (1 : Int32))))
set_option maxHeartbeats 4000000 in
set_option maxRecDepth 100000 in
theorem bf2_darkGroups_L {X : CX} {Λ : LY} (C : OK X Λ cX2_darkGroups 11 RX2 0 0) {σ : St} {res : Int32} (E : EN X Λ (some .int) (some (.int res)) σ) (a1 : Int32) (th : Int64)  : ∀ (n : Nat) (b : Int32) (q : Int32), (hs : Safe σ) → (h1 : vp_in a1 10) → (hv : UP 3 q n) → (f2_darkGroups_L σ a1 th n b q) = res → VV X Λ 11 20 [(0, .ref (adr Λ 10)), (1, .int (a1)), (2, .long (th)), (4, .int (b)), (5, .int (q))] [] σ := by
  intro n
  induction n with
  | zero => intro b q hs h1 hv hres; exact absurd hv (fun h => h.z)
  | succ n ih =>
    intro b q hs h1 hv hres
    rw [f2_darkGroups_L] at hres
    refine v_iload (pc2 := 22) C 4 dX2_darkGroups_20 rfl rfl ?_
    refine v_iconst (pc2 := 23) C dX2_darkGroups_22 ki_3 rfl ?_
    refine v_icmpge (pc2 := 117) (pc3 := 26) C dX2_darkGroups_23 rfl rfl (fun h23 => ?_) (fun h23 => ?_)
    · have hres := (if_pos h23).symm.trans hres
      refine v_iload (pc2 := 119) C 3 dX2_darkGroups_117 rfl rfl ?_
      exact r_iP C E hres dX2_darkGroups_119
    · have hres := (if_neg h23).symm.trans hres
      refine v_ldc2 (pc2 := 29) C lc_X2_72 dX2_darkGroups_26 rfl ?_
      refine v_aload_n (pc2 := 30) C 0 dX2_darkGroups_29 rfl rfl ?_
      refine vg_X2_start (pc2 := 33) C lf_X2_9 dX2_darkGroups_30 rfl ?_
      refine v_iload_n (pc2 := 34) C 1 dX2_darkGroups_33 rfl rfl ?_
      refine al23 (pc2 := 35) C h1 dX2_darkGroups_34 rfl ?_
      refine v_lmul (pc2 := 36) C dX2_darkGroups_35 rfl ?_
      refine v_iload (pc2 := 38) C 4 dX2_darkGroups_36 rfl rfl ?_
      refine v_i2l (pc2 := 39) C dX2_darkGroups_38 rfl ?_
      refine v_lload_n (pc2 := 40) C 2 dX2_darkGroups_39 rfl rfl ?_
      refine v_lmul (pc2 := 41) C dX2_darkGroups_40 rfl ?_
      refine v_ladd (pc2 := 42) C dX2_darkGroups_41 rfl ?_
      refine v_lstore (pc2 := 44) (lv2 := [(6, _), (0, _), (1, _), (2, _), (4, _), (5, _)]) C dX2_darkGroups_42 (by decide) rfl rfl ?_
      refine v_lload (pc2 := 46) C 0 dX2_darkGroups_44 rfl rfl ?_
      refine v_lload_n (pc2 := 47) C 3 dX2_darkGroups_46 rfl rfl ?_
      refine v_ladd (pc2 := 48) C dX2_darkGroups_47 rfl ?_
      refine v_lstore (pc2 := 50) (lv2 := [(8, _), (6, _), (0, _), (1, _), (2, _), (4, _), (5, _)]) C dX2_darkGroups_48 (by decide) rfl rfl ?_
      refine v_iconst (pc2 := 51) C dX2_darkGroups_50 ki_0 rfl ?_
      refine v_istore (pc2 := 53) (lv2 := [(10, _), (8, _), (6, _), (0, _), (1, _), (2, _), (4, _), (5, _)]) C dX2_darkGroups_51 (by decide) rfl rfl ?_
      refine v_lv [3, 4, 5, 6, 7, 2, 1, 0] rfl ?_
      refine bf2_darkGroups_I C σ a1 th q (((3 : Int64) * (gB σ 4 (Int32.toNatClampNeg a1))) + ((Int32.toInt64 q) * th)) ((((3 : Int64) * (gB σ 4 (Int32.toNatClampNeg a1))) + ((Int32.toInt64 q) * th)) + th) (out := (f2_darkGroups_I σ q (((3 : Int64) * (gB σ 4 (Int32.toNatClampNeg a1))) + ((Int32.toInt64 q) * th)) ((((3 : Int64) * (gB σ 4 (Int32.toNatClampNeg a1))) + ((Int32.toInt64 q) * th)) + th) 11 b (0 : Int32))) ?_ 11 b (0 : Int32) hs UP.start rfl
      refine v_iinc (pc2 := 114) (lv2 := [(5, _), (0, _), (1, _), (2, _), (4, _)]) C 4 dX2_darkGroups_111 rfl ki_1 (by decide) rfl rfl ?_
      refine v_goto (pc2 := 20) C dX2_darkGroups_114 rfl ?_
      exact v_lv [1, 2, 3, 4, 0] rfl (ih _ _ hs h1 (hv.step h23 (by rw [lit_3]; decide) (by decide)) hres)
def f2_darkGroups (σ : St) (a1 : Int32) : Int32 :=
  (f2_darkGroups_L σ a1 ((gB σ 5 (Int32.toNatClampNeg a1)) - (gB σ 4 (Int32.toNatClampNeg a1))) 4 (0 : Int32) (0 : Int32))
set_option maxHeartbeats 4000000 in
set_option maxRecDepth 100000 in
theorem bf2_darkGroups {X : CX} {Λ : LY} (C : OK X Λ cX2_darkGroups 11 RX2 0 0) {σ : St} {res : Int32} (E : EN X Λ (some .int) (some (.int res)) σ) (a1 : Int32) (hs : Safe σ) (h1 : vp_in a1 10) (hres : (f2_darkGroups σ a1) = res) : VV X Λ 11 0 [(0, .ref (adr Λ 10)), (1, .int (a1))] [] σ := by
  unfold f2_darkGroups at hres
  refine v_aload_n (pc2 := 1) C 0 dX2_darkGroups_0 rfl rfl ?_
  refine vg_X2_end (pc2 := 4) C lf_X2_15 dX2_darkGroups_1 rfl ?_
  refine v_iload_n (pc2 := 5) C 1 dX2_darkGroups_4 rfl rfl ?_
  refine al24 (pc2 := 6) C h1 dX2_darkGroups_5 rfl ?_
  refine v_aload_n (pc2 := 7) C 0 dX2_darkGroups_6 rfl rfl ?_
  refine vg_X2_start (pc2 := 10) C lf_X2_9 dX2_darkGroups_7 rfl ?_
  refine v_iload_n (pc2 := 11) C 1 dX2_darkGroups_10 rfl rfl ?_
  refine al23 (pc2 := 12) C h1 dX2_darkGroups_11 rfl ?_
  refine v_lsub (pc2 := 13) C dX2_darkGroups_12 rfl ?_
  refine v_lstore_n (pc2 := 14) (lv2 := [(2, _), (0, _), (1, _)]) C dX2_darkGroups_13 (by decide) rfl rfl ?_
  refine v_iconst (pc2 := 15) C dX2_darkGroups_14 ki_0 rfl ?_
  refine v_istore (pc2 := 17) (lv2 := [(4, _), (2, _), (0, _), (1, _)]) C dX2_darkGroups_15 (by decide) rfl rfl ?_
  refine v_iconst (pc2 := 18) C dX2_darkGroups_17 ki_0 rfl ?_
  refine v_istore (pc2 := 20) (lv2 := [(5, _), (4, _), (2, _), (0, _), (1, _)]) C dX2_darkGroups_18 (by decide) rfl rfl ?_
  exact v_lv [3, 4, 2, 1, 0] rfl (bf2_darkGroups_L C E _ _ 4 _ _ hs h1 UP.start  hres)
theorem mX2_darkGroups (l : Launch) (Λ : LY) (σ : St) (a1 : Int32) (hs : Safe σ) (h1 : vp_in a1 10) : CT l Λ yX2_darkGroups cX2_darkGroups 11 (some .int) 0 0 [.ref (adr Λ 10), .int (a1)] σ (some (.int (f2_darkGroups σ a1))) σ := by
  refine CT_of (by decide +kernel) (Nat.le_of_ble_eq_true rfl) ?_
  intro X hX C E
  obtain ⟨res, hres⟩ : ∃ r, (f2_darkGroups σ a1) = r := ⟨_, rfl⟩
  rw [hres] at E
  exact bf2_darkGroups C E _  hs h1 hres
end
