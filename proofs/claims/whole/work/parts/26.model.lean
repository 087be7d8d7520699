def f10_isClear_L (a2 : Int32) : Nat → St → Int32 → Int32 → Int32 × St
  | 0, σ, _, _ => (0, σ)
  | n + 1, σ, cl, r => (if (gI σ 20) ≤ r then (cl, (uI σ 29 (99 : Int32))) else (if (gA σ 20 (Int32.toNatClampNeg r)) = (1 : Int32) then (f10_isClear_L a2 n σ cl (r + (1 : Int32))) else (if (f10_breadthOf σ r a2) ≤ (0 : Int64) then (f10_isClear_L a2 n σ cl (r + (1 : Int32))) else (if (f10_shadeOf σ r a2) ≤ (0 : Int64) then (f10_isClear_L a2 n σ cl (r + (1 : Int32))) else (f10_isClear_L a2 n σ (0 : Int32) (r + (1 : Int32)))))))
set_option maxHeartbeats 4000000 in
set_option maxRecDepth 100000 in
theorem bf10_isClear_L {X : CX} {Λ : LY} (C : OK X Λ cX10_isClear 5 RX10 4 117) {res : Int32 × St} (E : EN X Λ (some .boolean) (some (.int res.1)) res.2) (a2 : Int32)  : ∀ (n : Nat) (σ : St) (cl : Int32) (r : Int32), (hs : Safe σ) → (h3 : vp_in a2 24) → (hz : cl = 0 ∨ cl = 1) → (hu : UP 10 r n) → (f10_isClear_L a2 n σ cl r) = res → VV X Λ 5 10 [(0, .ref (adr Λ 37)), (2, .int (a2)), (3, .int (cl)), (4, .int (r))] [] σ := by
  intro n
  induction n with
  | zero => intro σ cl r hs h3 hz hu hres; exact absurd hu (fun h => h.z)
  | succ n ih =>
    intro σ cl r hs h3 hz hu hres
    rw [f10_isClear_L] at hres
    refine v_iload (pc2 := 12) C 3 dX10_isClear_10 rfl rfl ?_
    refine v_aload_n (pc2 := 13) C 0 dX10_isClear_12 rfl rfl ?_
    refine vg_X10_rows (pc2 := 16) C lf_X10_72 dX10_isClear_13 rfl ?_
    refine v_icmpge (pc2 := 62) (pc3 := 19) C dX10_isClear_16 rfl rfl (fun h16 => ?_) (fun h16 => ?_)
    · have hres := (if_pos h16).symm.trans hres
      refine v_aload_n (pc2 := 63) C 0 dX10_isClear_62 rfl rfl ?_
      refine v_bipush (pc2 := 65) C dX10_isClear_63 kb_99 rfl ?_
      refine vp_X10_tried (pc2 := 68) C lf_X10_64 dX10_isClear_65 rfl ?_
      refine v_iload_n (pc2 := 69) C 2 dX10_isClear_68 rfl rfl ?_
      exact r_zS C E hz hres dX10_isClear_69
    · have hres := (if_neg h16).symm.trans hres
      refine v_aload_n (pc2 := 20) C 0 dX10_isClear_19 rfl rfl ?_
      refine vg_X10_kindOf (pc2 := 23) C lf_X10_9 dX10_isClear_20 rfl ?_
      refine v_iload (pc2 := 25) C 3 dX10_isClear_23 rfl rfl ?_
      refine al38 (pc2 := 26) C (hu.in h16 hs.mrw.2) dX10_isClear_25 rfl ?_
      refine v_iconst (pc2 := 27) C dX10_isClear_26 ki_1 rfl ?_
      refine v_icmpeq (pc2 := 56) (pc3 := 30) C dX10_isClear_27 rfl rfl (fun h27 => ?_) (fun h27 => ?_)
      · have hres := (if_pos h27).symm.trans hres
        refine v_iinc (pc2 := 59) (lv2 := [(4, _), (0, _), (2, _), (3, _)]) C 3 dX10_isClear_56 rfl ki_1 (by decide) rfl rfl ?_
        refine v_goto (pc2 := 10) C dX10_isClear_59 rfl ?_
        exact v_lv [1, 2, 3, 0] rfl (ih _ _ _ hs h3 (by first | exact hz | exact Or.inl rfl) (hu.step h16 hs.mrw.2 (by decide)) hres)
      · have hres := (if_neg h27).symm.trans hres
        refine v_aload_n (pc2 := 31) C 0 dX10_isClear_30 rfl rfl ?_
        refine v_iload (pc2 := 33) C 3 dX10_isClear_31 rfl rfl ?_
        refine v_iload_n (pc2 := 34) C 1 dX10_isClear_33 rfl rfl ?_
        refine v_cVl (pc2 := 37) C kc_X10_171 (mX10_breadthOf (xl X) Λ _ _ _ (hu.in h16 hs.mrw.2) h3) (wd37 Λ _) rfl (by decide) rfl rfl (Nat.le_of_ble_eq_true rfl) dX10_isClear_34 rfl ?_
        refine v_lconst (pc2 := 38) C dX10_isClear_37 kl_0 rfl ?_
        refine v_lcle (pc2 := 56) (pc3 := 42) C dX10_isClear_38 dX10_isClear_39 rfl rfl (fun h38 => ?_) (fun h38 => ?_)
        · have hres := (if_pos h38).symm.trans hres
          refine v_iinc (pc2 := 59) (lv2 := [(4, _), (0, _), (2, _), (3, _)]) C 3 dX10_isClear_56 rfl ki_1 (by decide) rfl rfl ?_
          refine v_goto (pc2 := 10) C dX10_isClear_59 rfl ?_
          exact v_lv [1, 2, 3, 0] rfl (ih _ _ _ hs h3 (by first | exact hz | exact Or.inl rfl) (hu.step h16 hs.mrw.2 (by decide)) hres)
        · have hres := (if_neg h38).symm.trans hres
          refine v_aload_n (pc2 := 43) C 0 dX10_isClear_42 rfl rfl ?_
          refine v_iload (pc2 := 45) C 3 dX10_isClear_43 rfl rfl ?_
          refine v_iload_n (pc2 := 46) C 1 dX10_isClear_45 rfl rfl ?_
          refine v_cVl (pc2 := 49) C kc_X10_175 (mX10_shadeOf (xl X) Λ _ _ _ hs (hu.in h16 hs.mrw.2) h3) (wd37 Λ _) rfl (by decide) rfl rfl (Nat.le_of_ble_eq_true rfl) dX10_isClear_46 rfl ?_
          refine v_lconst (pc2 := 50) C dX10_isClear_49 kl_0 rfl ?_
          refine v_lcle (pc2 := 56) (pc3 := 54) C dX10_isClear_50 dX10_isClear_51 rfl rfl (fun h50 => ?_) (fun h50 => ?_)
          · have hres := (if_pos h50).symm.trans hres
            refine v_iinc (pc2 := 59) (lv2 := [(4, _), (0, _), (2, _), (3, _)]) C 3 dX10_isClear_56 rfl ki_1 (by decide) rfl rfl ?_
            refine v_goto (pc2 := 10) C dX10_isClear_59 rfl ?_
            exact v_lv [1, 2, 3, 0] rfl (ih _ _ _ hs h3 (by first | exact hz | exact Or.inl rfl) (hu.step h16 hs.mrw.2 (by decide)) hres)
          · have hres := (if_neg h50).symm.trans hres
            refine v_iconst (pc2 := 55) C dX10_isClear_54 ki_0 rfl ?_
            refine v_istore_n (pc2 := 56) (lv2 := [(3, _), (0, _), (2, _), (4, _)]) C dX10_isClear_55 (by decide) rfl rfl ?_
            refine v_iinc (pc2 := 59) (lv2 := [(4, _), (3, _), (0, _), (2, _)]) C 3 dX10_isClear_56 rfl ki_1 (by decide) rfl rfl ?_
            refine v_goto (pc2 := 10) C dX10_isClear_59 rfl ?_
            exact v_lv [2, 3, 1, 0] rfl (ih _ _ _ hs h3 (by first | exact hz | exact Or.inl rfl) (hu.step h16 hs.mrw.2 (by decide)) hres)
def f10_isClear (σ : St) (a1 : Int32) (a2 : Int32) : Int32 × St :=
  (f10_isClear_L a2 11 (uI σ 29 a1) (1 : Int32) (0 : Int32))
set_option maxHeartbeats 4000000 in
set_option maxRecDepth 100000 in
theorem bf10_isClear {X : CX} {Λ : LY} (C : OK X Λ cX10_isClear 5 RX10 4 117) {res : Int32 × St} (E : EN X Λ (some .boolean) (some (.int res.1)) res.2) (σ : St) (a1 : Int32) (a2 : Int32) (hs : Safe σ) (h3 : vp_in a2 24) (hres : (f10_isClear σ a1 a2) = res) : VV X Λ 5 0 [(0, .ref (adr Λ 37)), (1, .int (a1)), (2, .int (a2))] [] σ := by
  unfold f10_isClear at hres
  refine v_aload_n (pc2 := 1) C 0 dX10_isClear_0 rfl rfl ?_
  refine v_iload_n (pc2 := 2) C 1 dX10_isClear_1 rfl rfl ?_
  refine vp_X10_tried (pc2 := 5) C lf_X10_64 dX10_isClear_2 rfl ?_
  refine v_iconst (pc2 := 6) C dX10_isClear_5 ki_1 rfl ?_
  refine v_istore_n (pc2 := 7) (lv2 := [(3, _), (0, _), (1, _), (2, _)]) C dX10_isClear_6 (by decide) rfl rfl ?_
  refine v_iconst (pc2 := 8) C dX10_isClear_7 ki_0 rfl ?_
  refine v_istore (pc2 := 10) (lv2 := [(4, _), (3, _), (0, _), (1, _), (2, _)]) C dX10_isClear_8 (by decide) rfl rfl ?_
  exact v_lv [2, 4, 1, 0] rfl (bf10_isClear_L C E _ 11 _ _ _ (sf_I (by decide) hs) h3 (Or.inr rfl) UP.start  hres)
theorem mX10_isClear (l : Launch) (Λ : LY) (σ : St) (a1 : Int32) (a2 : Int32) (hs : Safe σ) (h3 : vp_in a2 24) : CT l Λ yX10_isClear cX10_isClear 5 (some .boolean) 4 117 [.ref (adr Λ 37), .int (a1), .int (a2)] σ (some (.int (f10_isClear σ a1 a2).1)) (f10_isClear σ a1 a2).2 := by
  refine CT_of (by decide +kernel) (Nat.le_of_ble_eq_true rfl) ?_
  intro X hX C E
  obtain ⟨res, hres⟩ : ∃ r, (f10_isClear σ a1 a2) = r := ⟨_, rfl⟩
  rw [hres] at E
  exact bf10_isClear C E _ _ _  hs h3 hres
theorem sX10_isClear_L {a : Int32} : ∀ (n : Nat) (σ : St) (cl r : Int32), Safe σ → Safe (f10_isClear_L a n σ cl r).2 := by
  intro n
  induction n with
  | zero => intro σ cl r h; exact h
  | succ n ih =>
    intro σ cl r h
    rw [f10_isClear_L]
    split
    · exact sf_I (by decide) h
    · repeat' split
      all_goals exact ih _ _ _ h
theorem sX10_isClear {σ : St} {a b : Int32} (h : Safe σ) : Safe (f10_isClear σ a b).2 := sX10_isClear_L _ _ _ _ (sf_I (by decide) h)
def f10_backOf_L (a1 : Int32) (w : Int32) : Nat → St → Int32 → Int32 × St
  | 0, σ, _ => (0, σ)
  | n + 1, σ, f => (if (24 : Int32) < f then ((99 : Int32), σ) else (if (f10_isStep (w - f)) = (0 : Int32) then (if (f10_isStep (w + f)) = (0 : Int32) then (f10_backOf_L a1 w n σ (f + (1 : Int32))) else (if ((f10_isClear σ (w + f) a1).1) = (0 : Int32) then (f10_backOf_L a1 w n ((f10_isClear σ (w + f) a1).2) (f + (1 : Int32))) else ((w + f), ((f10_isClear σ (w + f) a1).2)))) else (if ((f10_isClear σ (w - f) a1).1) = (0 : Int32) then (if (f10_isStep (w + f)) = (0 : Int32) then (f10_backOf_L a1 w n ((f10_isClear σ (w - f) a1).2) (f + (1 : Int32))) else (if ((f10_isClear ((f10_isClear σ (w - f) a1).2) (w + f) a1).1) = (0 : Int32) then (f10_backOf_L a1 w n ((f10_isClear ((f10_isClear σ (w - f) a1).2) (w + f) a1).2) (f + (1 : Int32))) else ((w + f), ((f10_isClear ((f10_isClear σ (w - f) a1).2) (w + f) a1).2)))) else ((w - f), ((f10_isClear σ (w - f) a1).2)))))
set_option maxHeartbeats 4000000 in
set_option maxRecDepth 100000 in
theorem bf10_backOf_L {X : CX} {Λ : LY} (C : OK X Λ cX10_backOf 4 RX10 5 141) {res : Int32 × St} (E : EN X Λ (some .int) (some (.int res.1)) res.2) (a1 : Int32) (w : Int32)  : ∀ (n : Nat) (σ : St) (f : Int32), (hs : Safe σ) → (h3 : vp_in a1 24) → (hu : UP 25 f n) → (f10_backOf_L a1 w n σ f) = res → VV X Λ 4 8 [(0, .ref (adr Λ 37)), (1, .int (a1)), (2, .int (w)), (3, .int (f))] [] σ := by
  intro n
  induction n with
  | zero => intro σ f hs h3 hu hres; exact absurd hu (fun h => h.z)
  | succ n ih =>
    intro σ f hs h3 hu hres
    rw [f10_backOf_L] at hres
    refine v_iload_n (pc2 := 9) C 3 dX10_backOf_8 rfl rfl ?_
    refine v_bipush (pc2 := 11) C dX10_backOf_9 kb_24 rfl ?_
    refine v_icmpgt (pc2 := 68) (pc3 := 14) C dX10_backOf_11 rfl rfl (fun h11 => ?_) (fun h11 => ?_)
    · have hres := (if_pos h11).symm.trans hres
      refine v_bipush (pc2 := 70) C dX10_backOf_68 kb_99 rfl ?_
      exact r_iS C E hres dX10_backOf_70
    · have hres := (if_neg h11).symm.trans hres
      refine v_iload_n (pc2 := 15) C 2 dX10_backOf_14 rfl rfl ?_
      refine v_iload_n (pc2 := 16) C 3 dX10_backOf_15 rfl rfl ?_
      refine v_isub (pc2 := 17) C dX10_backOf_16 rfl ?_
      refine v_cSi (pc2 := 20) C kc_X10_115 (mX10_isStep (xl X) Λ _ _) (by decide) rfl rfl (Nat.le_of_ble_eq_true rfl) dX10_backOf_17 rfl ?_
      refine v_ifeq (pc2 := 38) (pc3 := 23) C dX10_backOf_20 rfl rfl (fun h20 => ?_) (fun h20 => ?_)
      · have hres := (if_pos h20).symm.trans hres
        refine v_iload_n (pc2 := 39) C 2 dX10_backOf_38 rfl rfl ?_
        refine v_iload_n (pc2 := 40) C 3 dX10_backOf_39 rfl rfl ?_
        refine v_iadd (pc2 := 41) C dX10_backOf_40 rfl ?_
        refine v_cSi (pc2 := 44) C kc_X10_115 (mX10_isStep (xl X) Λ _ _) (by decide) rfl rfl (Nat.le_of_ble_eq_true rfl) dX10_backOf_41 rfl ?_
        refine v_ifeq (pc2 := 62) (pc3 := 47) C dX10_backOf_44 rfl rfl (fun h44 => ?_) (fun h44 => ?_)
        · have hres := (if_pos h44).symm.trans hres
          refine v_iinc (pc2 := 65) (lv2 := [(3, _), (0, _), (1, _), (2, _)]) C 3 dX10_backOf_62 rfl ki_1 (by decide) rfl rfl ?_
          refine v_goto (pc2 := 8) C dX10_backOf_65 rfl ?_
          exact v_lv [1, 2, 3, 0] rfl (ih _ _ hs h3 (hu.step2 h11 (by rw [lit_24]; decide) (by decide)) hres)
        · have hres := (if_neg h44).symm.trans hres
          refine v_aload_n (pc2 := 48) C 0 dX10_backOf_47 rfl rfl ?_
          refine v_iload_n (pc2 := 49) C 2 dX10_backOf_48 rfl rfl ?_
          refine v_iload_n (pc2 := 50) C 3 dX10_backOf_49 rfl rfl ?_
          refine v_iadd (pc2 := 51) C dX10_backOf_50 rfl ?_
          refine v_iload_n (pc2 := 52) C 1 dX10_backOf_51 rfl rfl ?_
          refine v_cVi (pc2 := 55) C kc_X10_181 (mX10_isClear (xl X) Λ _ _ _ hs h3) (wd37 Λ _) rfl (by decide) rfl rfl (Nat.le_of_ble_eq_true rfl) dX10_backOf_52 rfl ?_
          refine v_ifeq (pc2 := 62) (pc3 := 58) C dX10_backOf_55 rfl rfl (fun h55 => ?_) (fun h55 => ?_)
          · have hres := (if_pos h55).symm.trans hres
            refine v_iinc (pc2 := 65) (lv2 := [(3, _), (0, _), (1, _), (2, _)]) C 3 dX10_backOf_62 rfl ki_1 (by decide) rfl rfl ?_
            refine v_goto (pc2 := 8) C dX10_backOf_65 rfl ?_
            exact v_lv [1, 2, 3, 0] rfl (ih _ _ (sX10_isClear hs) h3 (hu.step2 h11 (by rw [lit_24]; decide) (by decide)) hres)
          · have hres := (if_neg h55).symm.trans hres
            refine v_iload_n (pc2 := 59) C 2 dX10_backOf_58 rfl rfl ?_
            refine v_iload_n (pc2 := 60) C 3 dX10_backOf_59 rfl rfl ?_
            refine v_iadd (pc2 := 61) C dX10_backOf_60 rfl ?_
            exact r_iS C E hres dX10_backOf_61
      · have hres := (if_neg h20).symm.trans hres
        refine v_aload_n (pc2 := 24) C 0 dX10_backOf_23 rfl rfl ?_
        refine v_iload_n (pc2 := 25) C 2 dX10_backOf_24 rfl rfl ?_
        refine v_iload_n (pc2 := 26) C 3 dX10_backOf_25 rfl rfl ?_
        refine v_isub (pc2 := 27) C dX10_backOf_26 rfl ?_
        refine v_iload_n (pc2 := 28) C 1 dX10_backOf_27 rfl rfl ?_
        refine v_cVi (pc2 := 31) C kc_X10_181 (mX10_isClear (xl X) Λ _ _ _ hs h3) (wd37 Λ _) rfl (by decide) rfl rfl (Nat.le_of_ble_eq_true rfl) dX10_backOf_28 rfl ?_
        refine v_ifeq (pc2 := 38) (pc3 := 34) C dX10_backOf_31 rfl rfl (fun h31 => ?_) (fun h31 => ?_)
        · have hres := (if_pos h31).symm.trans hres
          refine v_iload_n (pc2 := 39) C 2 dX10_backOf_38 rfl rfl ?_
          refine v_iload_n (pc2 := 40) C 3 dX10_backOf_39 rfl rfl ?_
          refine v_iadd (pc2 := 41) C dX10_backOf_40 rfl ?_
          refine v_cSi (pc2 := 44) C kc_X10_115 (mX10_isStep (xl X) Λ _ _) (by decide) rfl rfl (Nat.le_of_ble_eq_true rfl) dX10_backOf_41 rfl ?_
          refine v_ifeq (pc2 := 62) (pc3 := 47) C dX10_backOf_44 rfl rfl (fun h44 => ?_) (fun h44 => ?_)
          · have hres := (if_pos h44).symm.trans hres
            refine v_iinc (pc2 := 65) (lv2 := [(3, _), (0, _), (1, _), (2, _)]) C 3 dX10_backOf_62 rfl ki_1 (by decide) rfl rfl ?_
            refine v_goto (pc2 := 8) C dX10_backOf_65 rfl ?_
            exact v_lv [1, 2, 3, 0] rfl (ih _ _ (sX10_isClear hs) h3 (hu.step2 h11 (by rw [lit_24]; decide) (by decide)) hres)
          · have hres := (if_neg h44).symm.trans hres
            refine v_aload_n (pc2 := 48) C 0 dX10_backOf_47 rfl rfl ?_
            refine v_iload_n (pc2 := 49) C 2 dX10_backOf_48 rfl rfl ?_
            refine v_iload_n (pc2 := 50) C 3 dX10_backOf_49 rfl rfl ?_
            refine v_iadd (pc2 := 51) C dX10_backOf_50 rfl ?_
            refine v_iload_n (pc2 := 52) C 1 dX10_backOf_51 rfl rfl ?_
            refine v_cVi (pc2 := 55) C kc_X10_181 (mX10_isClear (xl X) Λ _ _ _ (sX10_isClear hs) h3) (wd37 Λ _) rfl (by decide) rfl rfl (Nat.le_of_ble_eq_true rfl) dX10_backOf_52 rfl ?_
            refine v_ifeq (pc2 := 62) (pc3 := 58) C dX10_backOf_55 rfl rfl (fun h55 => ?_) (fun h55 => ?_)
            · have hres := (if_pos h55).symm.trans hres
              refine v_iinc (pc2 := 65) (lv2 := [(3, _), (0, _), (1, _), (2, _)]) C 3 dX10_backOf_62 rfl ki_1 (by decide) rfl rfl ?_
              refine v_goto (pc2 := 8) C dX10_backOf_65 rfl ?_
              exact v_lv [1, 2, 3, 0] rfl (ih _ _ (sX10_isClear (sX10_isClear hs)) h3 (hu.step2 h11 (by rw [lit_24]; decide) (by decide)) hres)
            · have hres := (if_neg h55).symm.trans hres
              refine v_iload_n (pc2 := 59) C 2 dX10_backOf_58 rfl rfl ?_
              refine v_iload_n (pc2 := 60) C 3 dX10_backOf_59 rfl rfl ?_
              refine v_iadd (pc2 := 61) C dX10_backOf_60 rfl ?_
              exact r_iS C E hres dX10_backOf_61
        · have hres := (if_neg h31).symm.trans hres
          refine v_iload_n (pc2 := 35) C 2 dX10_backOf_34 rfl rfl ?_
          refine v_iload_n (pc2 := 36) C 3 dX10_backOf_35 rfl rfl ?_
          refine v_isub (pc2 := 37) C dX10_backOf_36 rfl ?_
          exact r_iS C E hres dX10_backOf_37
def f10_backOf (σ : St) (a1 : Int32) : Int32 × St :=
  (f10_backOf_L a1 (f10_idealOf σ a1) 26 σ (0 : Int32))
set_option maxHeartbeats 4000000 in
set_option maxRecDepth 100000 in
theorem bf10_backOf {X : CX} {Λ : LY} (C : OK X Λ cX10_backOf 4 RX10 5 141) {res : Int32 × St} (E : EN X Λ (some .int) (some (.int res.1)) res.2) (σ : St) (a1 : Int32) (hs : Safe σ) (h3 : vp_in a1 24) (hres : (f10_backOf σ a1) = res) : VV X Λ 4 0 [(0, .ref (adr Λ 37)), (1, .int (a1))] [] σ := by
  unfold f10_backOf at hres
  refine v_aload_n (pc2 := 1) C 0 dX10_backOf_0 rfl rfl ?_
  refine v_iload_n (pc2 := 2) C 1 dX10_backOf_1 rfl rfl ?_
  refine v_cVi (pc2 := 5) C kc_X10_178 (mX10_idealOf (xl X) Λ _ _ h3) (wd37 Λ _) rfl (by decide) rfl rfl (Nat.le_of_ble_eq_true rfl) dX10_backOf_2 rfl ?_
  refine v_istore_n (pc2 := 6) (lv2 := [(2, _), (0, _), (1, _)]) C dX10_backOf_5 (by decide) rfl rfl ?_
  refine v_iconst (pc2 := 7) C dX10_backOf_6 ki_0 rfl ?_
  refine v_istore_n (pc2 := 8) (lv2 := [(3, _), (2, _), (0, _), (1, _)]) C dX10_backOf_7 (by decide) rfl rfl ?_
  exact v_lv [2, 3, 1, 0] rfl (bf10_backOf_L C E _ _ 26 _ _ hs h3 UP.start  hres)
theorem mX10_backOf (l : Launch) (Λ : LY) (σ : St) (a1 : Int32) (hs : Safe σ) (h3 : vp_in a1 24) : CT l Λ yX10_backOf cX10_backOf 4 (some .int) 5 141 [.ref (adr Λ 37), .int (a1)] σ (some (.int (f10_backOf σ a1).1)) (f10_backOf σ a1).2 := by
  refine CT_of (by decide +kernel) (Nat.le_of_ble_eq_true rfl) ?_
  intro X hX C E
  obtain ⟨res, hres⟩ : ∃ r, (f10_backOf σ a1) = r := ⟨_, rfl⟩
  rw [hres] at E
  exact bf10_backOf C E _ _  hs h3 hres
theorem sX10_backOf_L {a w : Int32} : ∀ (n : Nat) (σ : St) (f : Int32), Safe σ → Safe (f10_backOf_L a w n σ f).2 := by
  intro n
  induction n with
  | zero => intro σ f h; exact h
  | succ n ih =>
    intro σ f h
    have h1 := sX10_isClear (a := w - f) (b := a) h
    have h2 := sX10_isClear (a := w + f) (b := a) h
    have h3 := sX10_isClear (a := w + f) (b := a) h1
    rw [f10_backOf_L]
    repeat' split
    all_goals (try dsimp only)
    all_goals first | with_reducible exact h | with_reducible exact h1 | with_reducible exact h2 | with_reducible exact h3 | with_reducible exact ih _ _ h | with_reducible exact ih _ _ h1 | with_reducible exact ih _ _ h2 | with_reducible exact ih _ _ h3
theorem sX10_backOf {σ : St} {a : Int32} (h : Safe σ) : Safe (f10_backOf σ a).2 := sX10_backOf_L _ _ _ h
def f10_clean (σ : St) (a1 : Int32) (a2 : Int32) : Int64 :=
  (if (0 : Int64) < (f10_breadthOf σ a1 a2) then (((Int32.toInt64 ((((3 : Int32) - ((f10_darkOf σ a1 a2) &&& (1 : Int32))) - (((f10_darkOf σ a1 a2) >>> ((1 : Int32) &&& 31)) &&& (1 : Int32))) - (((f10_darkOf σ a1 a2) >>> ((2 : Int32) &&& 31)) &&& (1 : Int32)))) * (f10_breadthOf σ a1 a2)) / (3000000 : Int64)) else (0 : Int64))
set_option maxHeartbeats 4000000 in
set_option maxRecDepth 100000 in
theorem bf10_clean {X : CX} {Λ : LY} (C : OK X Λ cX10_clean 7 RX10 4 123) {σ : St} {res : Int64} (E : EN X Λ (some .long) (some (.long res)) σ) (a1 : Int32) (a2 : Int32) (hs : Safe σ) (h1 : vp_in a1 10) (h3 : vp_in a2 24) (hres : (f10_clean σ a1 a2) = res) : VV X Λ 7 0 [(0, .ref (adr Λ 37)), (1, .int (a1)), (2, .int (a2))] [] σ := by
  unfold f10_clean at hres
  refine v_aload_n (pc2 := 1) C 0 dX10_clean_0 rfl rfl ?_
  refine v_iload_n (pc2 := 2) C 1 dX10_clean_1 rfl rfl ?_
  refine v_iload_n (pc2 := 3) C 2 dX10_clean_2 rfl rfl ?_
  refine v_cVl (pc2 := 6) C kc_X10_171 (mX10_breadthOf (xl X) Λ _ _ _ h1 h3) (wd37 Λ _) rfl (by decide) rfl rfl (Nat.le_of_ble_eq_true rfl) dX10_clean_3 rfl ?_
  refine v_lstore_n (pc2 := 7) (lv2 := [(3, _), (0, _), (1, _), (2, _)]) C dX10_clean_6 (by decide) rfl rfl ?_
  refine v_lload_n (pc2 := 8) C 0 dX10_clean_7 rfl rfl ?_
  refine v_lconst (pc2 := 9) C dX10_clean_8 kl_0 rfl ?_
  refine v_lcgt (pc2 := 15) (pc3 := 13) C dX10_clean_9 dX10_clean_10 rfl rfl (fun h9 => ?_) (fun h9 => ?_)
  · have hres := (if_pos h9).symm.trans hres
    refine v_aload_n (pc2 := 16) C 1 dX10_clean_15 rfl rfl ?_
    refine v_iload_n (pc2 := 17) C 2 dX10_clean_16 rfl rfl ?_
    refine v_iload_n (pc2 := 18) C 3 dX10_clean_17 rfl rfl ?_
    refine v_cVi (pc2 := 21) C kc_X10_198 (mX10_darkOf (xl X) Λ _ _ _ hs h1 h3) (wd37 Λ _) rfl (by decide) rfl rfl (Nat.le_of_ble_eq_true rfl) dX10_clean_18 rfl ?_
    refine v_istore (pc2 := 23) (lv2 := [(5, _), (3, _), (0, _), (1, _), (2, _)]) C dX10_clean_21 (by decide) rfl rfl ?_
    refine v_iconst (pc2 := 24) C dX10_clean_23 ki_3 rfl ?_
    refine v_iload (pc2 := 26) C 0 dX10_clean_24 rfl rfl ?_
    refine v_iconst (pc2 := 27) C dX10_clean_26 ki_1 rfl ?_
    refine v_iand (pc2 := 28) C dX10_clean_27 rfl ?_
    refine v_isub (pc2 := 29) C dX10_clean_28 rfl ?_
    refine v_iload (pc2 := 31) C 0 dX10_clean_29 rfl rfl ?_
    refine v_iconst (pc2 := 32) C dX10_clean_31 ki_1 rfl ?_
    refine v_ishr (pc2 := 33) C dX10_clean_32 rfl ?_
    refine v_iconst (pc2 := 34) C dX10_clean_33 ki_1 rfl ?_
    refine v_iand (pc2 := 35) C dX10_clean_34 rfl ?_
    refine v_isub (pc2 := 36) C dX10_clean_35 rfl ?_
    refine v_iload (pc2 := 38) C 0 dX10_clean_36 rfl rfl ?_
    refine v_iconst (pc2 := 39) C dX10_clean_38 ki_2 rfl ?_
    refine v_ishr (pc2 := 40) C dX10_clean_39 rfl ?_
    refine v_iconst (pc2 := 41) C dX10_clean_40 ki_1 rfl ?_
    refine v_iand (pc2 := 42) C dX10_clean_41 rfl ?_
    refine v_isub (pc2 := 43) C dX10_clean_42 rfl ?_
    refine v_istore (pc2 := 45) (lv2 := [(6, _), (5, _), (3, _), (0, _), (1, _), (2, _)]) C dX10_clean_43 (by decide) rfl rfl ?_
    refine v_iload (pc2 := 47) C 0 dX10_clean_45 rfl rfl ?_
    refine v_i2l (pc2 := 48) C dX10_clean_47 rfl ?_
    refine v_lload_n (pc2 := 49) C 2 dX10_clean_48 rfl rfl ?_
    refine v_lmul (pc2 := 50) C dX10_clean_49 rfl ?_
    refine v_ldc2 (pc2 := 53) C lc_X10_204 dX10_clean_50 rfl ?_
    refine v_ldiv (pc2 := 54) C dX10_clean_53 (by decide) rfl ?_
    exact r_lP C E hres dX10_clean_54
  · have hres := (if_neg h9).symm.trans hres
    refine v_lconst (pc2 := 14) C dX10_clean_13 kl_0 rfl ?_
    exact r_lP C E hres dX10_clean_14
theorem mX10_clean (l : Launch) (Λ : LY) (σ : St) (a1 : Int32) (a2 : Int32) (hs : Safe σ) (h1 : vp_in a1 10) (h3 : vp_in a2 24) : CT l Λ yX10_clean cX10_clean 7 (some .long) 4 123 [.ref (adr Λ 37), .int (a1), .int (a2)] σ (some (.long (f10_clean σ a1 a2))) σ := by
  refine CT_of (by decide +kernel) (Nat.le_of_ble_eq_true rfl) ?_
  intro X hX C E
  obtain ⟨res, hres⟩ : ∃ r, (f10_clean σ a1 a2) = r := ⟨_, rfl⟩
  rw [hres] at E
  exact bf10_clean C E _ _  hs h1 h3 hres
def f10_dusted (σ : St) (a1 : Int32) (a2 : Int32) : Int64 :=
  (((f10_clean σ a1 a2) * (Int32.toInt64 (gA σ 24 (Int32.toNatClampNeg a1)))) / (1000 : Int64))
set_option maxHeartbeats 4000000 in
set_option maxRecDepth 100000 in
theorem bf10_dusted {X : CX} {Λ : LY} (C : OK X Λ cX10_dusted 3 RX10 5 149) {σ : St} {res : Int64} (E : EN X Λ (some .long) (some (.long res)) σ) (a1 : Int32) (a2 : Int32) (hs : Safe σ) (h1 : vp_in a1 10) (h3 : vp_in a2 24) (hres : (f10_dusted σ a1 a2) = res) : VV X Λ 3 0 [(0, .ref (adr Λ 37)), (1, .int (a1)), (2, .int (a2))] [] σ := by
  unfold f10_dusted at hres
  refine v_aload_n (pc2 := 1) C 0 dX10_dusted_0 rfl rfl ?_
  refine v_iload_n (pc2 := 2) C 1 dX10_dusted_1 rfl rfl ?_
  refine v_iload_n (pc2 := 3) C 2 dX10_dusted_2 rfl rfl ?_
  refine v_cVl (pc2 := 6) C kc_X10_206 (mX10_clean (xl X) Λ _ _ _ hs h1 h3) (wd37 Λ _) rfl (by decide) rfl rfl (Nat.le_of_ble_eq_true rfl) dX10_dusted_3 rfl ?_
  refine v_aload_n (pc2 := 7) C 0 dX10_dusted_6 rfl rfl ?_
  refine vg_X10_dustOf (pc2 := 10) C lf_X10_22 dX10_dusted_7 rfl ?_
  refine v_iload_n (pc2 := 11) C 1 dX10_dusted_10 rfl rfl ?_
  refine al42 (pc2 := 12) C h1 dX10_dusted_11 rfl ?_
  refine v_i2l (pc2 := 13) C dX10_dusted_12 rfl ?_
  refine v_lmul (pc2 := 14) C dX10_dusted_13 rfl ?_
  refine v_ldc2 (pc2 := 17) C lc_X10_209 dX10_dusted_14 rfl ?_
  refine v_ldiv (pc2 := 18) C dX10_dusted_17 (by decide) rfl ?_
  exact r_lP C E hres dX10_dusted_18
theorem mX10_dusted (l : Launch) (Λ : LY) (σ : St) (a1 : Int32) (a2 : Int32) (hs : Safe σ) (h1 : vp_in a1 10) (h3 : vp_in a2 24) : CT l Λ yX10_dusted cX10_dusted 3 (some .long) 5 149 [.ref (adr Λ 37), .int (a1), .int (a2)] σ (some (.long (f10_dusted σ a1 a2))) σ := by
  refine CT_of (by decide +kernel) (Nat.le_of_ble_eq_true rfl) ?_
  intro X hX C E
  obtain ⟨res, hres⟩ : ∃ r, (f10_dusted σ a1 a2) = r := ⟨_, rfl⟩
  rw [hres] at E
  exact bf10_dusted C E _ _  hs h1 h3 hres
def f10_currentOf (σ : St) (a1 : Int32) (a2 : Int32) : Int64 :=
  ((f10_clean σ a1 a2) - (f10_dusted σ a1 a2))
set_option maxHeartbeats 4000000 in
set_option maxRecDepth 100000 in
theorem bf10_currentOf {X : CX} {Λ : LY} (C : OK X Λ cX10_currentOf 3 RX10 6 171) {σ : St} {res : Int64} (E : EN X Λ (some .long) (some (.long res)) σ) (a1 : Int32) (a2 : Int32) (hs : Safe σ) (h1 : vp_in a1 10) (h3 : vp_in a2 24) (hres : (f10_currentOf σ a1 a2) = res) : VV X Λ 3 0 [(0, .ref (adr Λ 37)), (1, .int (a1)), (2, .int (a2))] [] σ := by
  unfold f10_currentOf at hres
  refine v_aload_n (pc2 := 1) C 0 dX10_currentOf_0 rfl rfl ?_
  refine v_iload_n (pc2 := 2) C 1 dX10_currentOf_1 rfl rfl ?_
  refine v_iload_n (pc2 := 3) C 2 dX10_currentOf_2 rfl rfl ?_
  refine v_cVl (pc2 := 6) C kc_X10_206 (mX10_clean (xl X) Λ _ _ _ hs h1 h3) (wd37 Λ _) rfl (by decide) rfl rfl (Nat.le_of_ble_eq_true rfl) dX10_currentOf_3 rfl ?_
  refine v_aload_n (pc2 := 7) C 0 dX10_currentOf_6 rfl rfl ?_
  refine v_iload_n (pc2 := 8) C 1 dX10_currentOf_7 rfl rfl ?_
  refine v_iload_n (pc2 := 9) C 2 dX10_currentOf_8 rfl rfl ?_
  refine v_cVl (pc2 := 12) C kc_X10_211 (mX10_dusted (xl X) Λ _ _ _ hs h1 h3) (wd37 Λ _) rfl (by decide) rfl rfl (Nat.le_of_ble_eq_true rfl) dX10_currentOf_9 rfl ?_
  refine v_lsub (pc2 := 13) C dX10_currentOf_12 rfl ?_
  exact r_lP C E hres dX10_currentOf_13
theorem mX10_currentOf (l : Launch) (Λ : LY) (σ : St) (a1 : Int32) (a2 : Int32) (hs : Safe σ) (h1 : vp_in a1 10) (h3 : vp_in a2 24) : CT l Λ yX10_currentOf cX10_currentOf 3 (some .long) 6 171 [.ref (adr Λ 37), .int (a1), .int (a2)] σ (some (.long (f10_currentOf σ a1 a2))) σ := by
  refine CT_of (by decide +kernel) (Nat.le_of_ble_eq_true rfl) ?_
  intro X hX C E
  obtain ⟨res, hres⟩ : ∃ r, (f10_currentOf σ a1 a2) = r := ⟨_, rfl⟩
  rw [hres] at E
  exact bf10_currentOf C E _ _  hs h1 h3 hres
def f10_givesOf_P (a1 : Int32) (a2 : Int32) : Nat → St → Int32 → St
  | 0, σ, _ => (σ)
  | n + 1, σ, r => (if (gI σ 20) ≤ r then σ else (if (gA σ 26 (Int32.toNatClampNeg r)) = a1 then (f10_givesOf_P a1 a2 n (uB σ 12 (Int32.toNatClampNeg r) (f10_currentOf σ r a2)) (r + (1 : Int32))) else (f10_givesOf_P a1 a2 n (uB σ 12 (Int32.toNatClampNeg r) (-1 : Int64)) (r + (1 : Int32)))))
set_option maxHeartbeats 4000000 in
set_option maxRecDepth 100000 in
theorem bf10_givesOf_P {X : CX} {Λ : LY} (C : OK X Λ cX10_givesOf 8 RX10 7 193) {out : St} (a1 : Int32) (a2 : Int32) (kk : VV X Λ 8 44 [(0, .ref (adr Λ 37))] [] (out)) : ∀ (n : Nat) (σ : St) (r : Int32), (hs : Safe σ) → (h3 : vp_in a2 24) → (hu : UP 10 r n) → (f10_givesOf_P a1 a2 n σ r) = out → VV X Λ 8 2 [(0, .ref (adr Λ 37)), (1, .int (a1)), (2, .int (a2)), (3, .int (r))] [] σ := by
  intro n
  induction n with
  | zero => intro σ r hs h3 hu hres; exact absurd hu (fun h => h.z)
  | succ n ih =>
    intro σ r hs h3 hu hres
    rw [f10_givesOf_P] at hres
    refine v_iload_n (pc2 := 3) C 3 dX10_givesOf_2 rfl rfl ?_
    refine v_aload_n (pc2 := 4) C 0 dX10_givesOf_3 rfl rfl ?_
    refine vg_X10_rows (pc2 := 7) C lf_X10_72 dX10_givesOf_4 rfl ?_
    refine v_icmpge (pc2 := 44) (pc3 := 10) C dX10_givesOf_7 rfl rfl (fun h7 => ?_) (fun h7 => ?_)
    · have hres := (if_pos h7).symm.trans hres
      subst hres
      exact v_lv [0] rfl kk
    · have hres := (if_neg h7).symm.trans hres
      refine v_aload_n (pc2 := 11) C 0 dX10_givesOf_10 rfl rfl ?_
      refine vg_X10_currents (pc2 := 14) C lf_X10_67 dX10_givesOf_11 rfl ?_
      refine v_iload_n (pc2 := 15) C 3 dX10_givesOf_14 rfl rfl ?_
      refine v_aload_n (pc2 := 16) C 0 dX10_givesOf_15 rfl rfl ?_
      refine vg_X10_stringOf (pc2 := 19) C lf_X10_28 dX10_givesOf_16 rfl ?_
      refine v_iload_n (pc2 := 20) C 3 dX10_givesOf_19 rfl rfl ?_
      refine al44 (pc2 := 21) C (hu.in h7 hs.mrw.2) dX10_givesOf_20 rfl ?_
      refine v_iload_n (pc2 := 22) C 1 dX10_givesOf_21 rfl rfl ?_
      refine v_icmpne (pc2 := 34) (pc3 := 25) C dX10_givesOf_22 rfl rfl (fun h22 => ?_) (fun h22 => ?_)
      · have hres := (if_neg h22).symm.trans hres
        refine v_ldc2 (pc2 := 37) C lc_X10_147 dX10_givesOf_34 rfl ?_
        refine as54 (pc2 := 38) C (hu.in h7 hs.mrw.2) dX10_givesOf_37 rfl ?_
        refine v_iinc (pc2 := 41) (lv2 := [(3, _), (0, _), (1, _), (2, _)]) C 3 dX10_givesOf_38 rfl ki_1 (by decide) rfl rfl ?_
        refine v_goto (pc2 := 2) C dX10_givesOf_41 rfl ?_
        exact v_lv [1, 2, 3, 0] rfl (ih _ _ (sf_B hs) h3 (hu.step h7 hs.mrw.2 (by decide)) hres)
      · have hres := (if_pos h22).symm.trans hres
        refine v_aload_n (pc2 := 26) C 0 dX10_givesOf_25 rfl rfl ?_
        refine v_iload_n (pc2 := 27) C 3 dX10_givesOf_26 rfl rfl ?_
        refine v_iload_n (pc2 := 28) C 2 dX10_givesOf_27 rfl rfl ?_
        refine v_cVl (pc2 := 31) C kc_X10_214 (mX10_currentOf (xl X) Λ _ _ _ hs (hu.in h7 hs.mrw.2) h3) (wd37 Λ _) rfl (by decide) rfl rfl (Nat.le_of_ble_eq_true rfl) dX10_givesOf_28 rfl ?_
        refine v_goto (pc2 := 37) C dX10_givesOf_31 rfl ?_
        refine as54 (pc2 := 38) C (hu.in h7 hs.mrw.2) dX10_givesOf_37 rfl ?_
        refine v_iinc (pc2 := 41) (lv2 := [(3, _), (0, _), (1, _), (2, _)]) C 3 dX10_givesOf_38 rfl ki_1 (by decide) rfl rfl ?_
        refine v_goto (pc2 := 2) C dX10_givesOf_41 rfl ?_
        exact v_lv [1, 2, 3, 0] rfl (ih _ _ (sf_B hs) h3 (hu.step h7 hs.mrw.2 (by decide)) hres)
theorem sX10_givesOf_P {a b : Int32} : ∀ (n : Nat) (σ : St) (r : Int32), Safe σ → Safe (f10_givesOf_P a b n σ r) := by
  intro n
  induction n with
  | zero => intro σ r h; exact h
  | succ n ih =>
    intro σ r h
    rw [f10_givesOf_P]
    split
    · exact h
    · split <;> exact ih _ _ (sf_B h)
def f10_givesOf_I (σ : St) (r : Int32) : Nat → Int32 → Int32 → Int32
  | 0, _, _ => (0)
  | n + 1, my, k => (if (gI σ 20) ≤ k then my else (if (gB σ 12 (Int32.toNatClampNeg r)) < (0 : Int64) then (f10_givesOf_I σ r n (my + (0 : Int32)) (k + (1 : Int32))) else (if (gB σ 12 (Int32.toNatClampNeg k)) < (gB σ 12 (Int32.toNatClampNeg r)) then (f10_givesOf_I σ r n (my + (0 : Int32)) (k + (1 : Int32))) else (f10_givesOf_I σ r n (my + (1 : Int32)) (k + (1 : Int32))))))
set_option maxHeartbeats 4000000 in
set_option maxRecDepth 100000 in
theorem bf10_givesOf_I {X : CX} {Λ : LY} (C : OK X Λ cX10_givesOf 8 RX10 7 193) (σ : St) {out : Int32} (b : Int64) (r : Int32) (kk : VV X Λ 8 119 [(0, .ref (adr Λ 37)), (3, .long (b)), (5, .int (r)), (6, .int (out))] [] (σ)) : ∀ (n : Nat) (my : Int32) (k : Int32), (hs : Safe σ) → (hu55 : vp_in r 10) → (hv : UP 10 k n) → (f10_givesOf_I σ r n my k) = out → VV X Λ 8 64 [(0, .ref (adr Λ 37)), (3, .long (b)), (5, .int (r)), (6, .int (my)), (7, .int (k))] [] σ := by
  intro n
  induction n with
  | zero => intro my k hs hu55 hv hres; exact absurd hv (fun h => h.z)
  | succ n ih =>
    intro my k hs hu55 hv hres
    rw [f10_givesOf_I] at hres
    refine v_iload (pc2 := 66) C 4 dX10_givesOf_64 rfl rfl ?_
    refine v_aload_n (pc2 := 67) C 0 dX10_givesOf_66 rfl rfl ?_
    refine vg_X10_rows (pc2 := 70) C lf_X10_72 dX10_givesOf_67 rfl ?_
    refine v_icmpge (pc2 := 119) (pc3 := 73) C dX10_givesOf_70 rfl rfl (fun h70 => ?_) (fun h70 => ?_)
    · have hres := (if_pos h70).symm.trans hres
      subst hres
      exact v_lv [0, 1, 2, 3] rfl kk
    · have hres := (if_neg h70).symm.trans hres
      refine v_iload (pc2 := 75) C 3 dX10_givesOf_73 rfl rfl ?_
      refine v_aload_n (pc2 := 76) C 0 dX10_givesOf_75 rfl rfl ?_
      refine vg_X10_currents (pc2 := 79) C lf_X10_67 dX10_givesOf_76 rfl ?_
      refine v_iload (pc2 := 81) C 2 dX10_givesOf_79 rfl rfl ?_
      refine al54 (pc2 := 82) C hu55 dX10_givesOf_81 rfl ?_
      refine v_lconst (pc2 := 83) C dX10_givesOf_82 kl_0 rfl ?_
      refine v_lclt (pc2 := 109) (pc3 := 87) C dX10_givesOf_83 dX10_givesOf_84 rfl rfl (fun h83 => ?_) (fun h83 => ?_)
      · have hres := (if_pos h83).symm.trans hres
        refine v_iconst (pc2 := 110) C dX10_givesOf_109 ki_0 rfl ?_
        refine v_iadd (pc2 := 111) C dX10_givesOf_110 rfl ?_
        refine v_istore (pc2 := 113) (lv2 := [(6, _), (0, _), (3, _), (5, _), (7, _)]) C dX10_givesOf_111 (by decide) rfl rfl ?_
        refine v_iinc (pc2 := 116) (lv2 := [(7, _), (6, _), (0, _), (3, _), (5, _)]) C 4 dX10_givesOf_113 rfl ki_1 (by decide) rfl rfl ?_
        refine v_goto (pc2 := 64) C dX10_givesOf_116 rfl ?_
        exact v_lv [2, 3, 4, 1, 0] rfl (ih _ _ hs hu55 (hv.step h70 hs.mrw.2 (by decide)) hres)
      · have hres := (if_neg h83).symm.trans hres
        refine v_aload_n (pc2 := 88) C 0 dX10_givesOf_87 rfl rfl ?_
        refine vg_X10_currents (pc2 := 91) C lf_X10_67 dX10_givesOf_88 rfl ?_
        refine v_iload (pc2 := 93) C 4 dX10_givesOf_91 rfl rfl ?_
        refine al54 (pc2 := 94) C (hv.in h70 hs.mrw.2) dX10_givesOf_93 rfl ?_
        refine v_aload_n (pc2 := 95) C 0 dX10_givesOf_94 rfl rfl ?_
        refine vg_X10_currents (pc2 := 98) C lf_X10_67 dX10_givesOf_95 rfl ?_
        refine v_iload (pc2 := 100) C 2 dX10_givesOf_98 rfl rfl ?_
        refine al54 (pc2 := 101) C hu55 dX10_givesOf_100 rfl ?_
        refine v_lclt (pc2 := 109) (pc3 := 105) C dX10_givesOf_101 dX10_givesOf_102 rfl rfl (fun h101 => ?_) (fun h101 => ?_)
        · have hres := (if_pos h101).symm.trans hres
          refine v_iconst (pc2 := 110) C dX10_givesOf_109 ki_0 rfl ?_
          refine v_iadd (pc2 := 111) C dX10_givesOf_110 rfl ?_
          refine v_istore (pc2 := 113) (lv2 := [(6, _), (0, _), (3, _), (5, _), (7, _)]) C dX10_givesOf_111 (by decide) rfl rfl ?_
          refine v_iinc (pc2 := 116) (lv2 := [(7, _), (6, _), (0, _), (3, _), (5, _)]) C 4 dX10_givesOf_113 rfl ki_1 (by decide) rfl rfl ?_
          refine v_goto (pc2 := 64) C dX10_givesOf_116 rfl ?_
          exact v_lv [2, 3, 4, 1, 0] rfl (ih _ _ hs hu55 (hv.step h70 hs.mrw.2 (by decide)) hres)
        · have hres := (if_neg h101).symm.trans hres
          refine v_iconst (pc2 := 106) C dX10_givesOf_105 ki_1 rfl ?_
          refine v_goto (pc2 := 110) C dX10_givesOf_106 rfl ?_
          refine v_iadd (pc2 := 111) C dX10_givesOf_110 rfl ?_
          refine v_istore (pc2 := 113) (lv2 := [(6, _), (0, _), (3, _), (5, _), (7, _)]) C dX10_givesOf_111 (by decide) rfl rfl ?_
          refine v_iinc (pc2 := 116) (lv2 := [(7, _), (6, _), (0, _), (3, _), (5, _)]) C 4 dX10_givesOf_113 rfl ki_1 (by decide) rfl rfl ?_
          refine v_goto (pc2 := 64) C dX10_givesOf_116 rfl ?_
          exact v_lv [2, 3, 4, 1, 0] rfl (ih _ _ hs hu55 (hv.step h70 hs.mrw.2 (by decide)) hres)
def f10_givesOf_L : Nat → St → Int64 → Int32 → Int64 × St
  | 0, σ, _, _ => (0, σ)
  | n + 1, σ, b, r => (if (gI σ 20) ≤ r then (b, σ) else (if ((Int32.toInt64 (f10_givesOf_I σ r 11 (0 : Int32) (0 : Int32))) * (gB σ 12 (Int32.toNatClampNeg r))) ≤ b then (f10_givesOf_L n σ b (r + (1 : Int32))) else (f10_givesOf_L n σ ((Int32.toInt64 (f10_givesOf_I σ r 11 (0 : Int32) (0 : Int32))) * (gB σ 12 (Int32.toNatClampNeg r))) (r + (1 : Int32)))))
set_option maxHeartbeats 4000000 in
set_option maxRecDepth 100000 in
theorem bf10_givesOf_L {X : CX} {Λ : LY} (C : OK X Λ cX10_givesOf 8 RX10 7 193) {res : Int64 × St} (E : EN X Λ (some .long) (some (.long res.1)) res.2)  : ∀ (n : Nat) (σ : St) (b : Int64) (r : Int32), (hs : Safe σ) → (hu : UP 10 r n) → (f10_givesOf_L n σ b r) = res → VV X Λ 8 49 [(0, .ref (adr Λ 37)), (3, .long (b)), (5, .int (r))] [] σ := by
  intro n
  induction n with
  | zero => intro σ b r hs hu hres; exact absurd hu (fun h => h.z)
  | succ n ih =>
    intro σ b r hs hu hres
    rw [f10_givesOf_L] at hres
    refine v_iload (pc2 := 51) C 2 dX10_givesOf_49 rfl rfl ?_
    refine v_aload_n (pc2 := 52) C 0 dX10_givesOf_51 rfl rfl ?_
    refine vg_X10_rows (pc2 := 55) C lf_X10_72 dX10_givesOf_52 rfl ?_
    refine v_icmpge (pc2 := 157) (pc3 := 58) C dX10_givesOf_55 rfl rfl (fun h55 => ?_) (fun h55 => ?_)
    · have hres := (if_pos h55).symm.trans hres
      refine v_lload_n (pc2 := 158) C 1 dX10_givesOf_157 rfl rfl ?_
      exact r_lS C E hres dX10_givesOf_158
    · have hres := (if_neg h55).symm.trans hres
      refine v_iconst (pc2 := 59) C dX10_givesOf_58 ki_0 rfl ?_
      refine v_istore (pc2 := 61) (lv2 := [(6, _), (0, _), (3, _), (5, _)]) C dX10_givesOf_59 (by decide) rfl rfl ?_
      refine v_iconst (pc2 := 62) C dX10_givesOf_61 ki_0 rfl ?_
      refine v_istore (pc2 := 64) (lv2 := [(7, _), (6, _), (0, _), (3, _), (5, _)]) C dX10_givesOf_62 (by decide) rfl rfl ?_
      refine v_lv [2, 3, 4, 1, 0] rfl ?_
      refine bf10_givesOf_I C σ b r (out := (f10_givesOf_I σ r 11 (0 : Int32) (0 : Int32))) ?_ 11 (0 : Int32) (0 : Int32) hs (hu.in h55 hs.mrw.2) UP.start rfl
      refine v_iload (pc2 := 121) C 3 dX10_givesOf_119 rfl rfl ?_
      refine v_i2l (pc2 := 122) C dX10_givesOf_121 rfl ?_
      refine v_aload_n (pc2 := 123) C 0 dX10_givesOf_122 rfl rfl ?_
      refine vg_X10_currents (pc2 := 126) C lf_X10_67 dX10_givesOf_123 rfl ?_
      refine v_iload (pc2 := 128) C 2 dX10_givesOf_126 rfl rfl ?_
      refine al54 (pc2 := 129) C (hu.in h55 hs.mrw.2) dX10_givesOf_128 rfl ?_
      refine v_lmul (pc2 := 130) C dX10_givesOf_129 rfl ?_
      refine v_lload_n (pc2 := 131) C 1 dX10_givesOf_130 rfl rfl ?_
      refine v_lcle (pc2 := 149) (pc3 := 135) C dX10_givesOf_131 dX10_givesOf_132 rfl rfl (fun h131 => ?_) (fun h131 => ?_)
      · have hres := (if_pos h131).symm.trans hres
        refine v_lload_n (pc2 := 150) C 1 dX10_givesOf_149 rfl rfl ?_
        refine v_lstore_n (pc2 := 151) (lv2 := [(3, _), (0, _), (5, _), (6, _)]) C dX10_givesOf_150 (by decide) rfl rfl ?_
        refine v_iinc (pc2 := 154) (lv2 := [(5, _), (3, _), (0, _), (6, _)]) C 2 dX10_givesOf_151 rfl ki_1 (by decide) rfl rfl ?_
        refine v_goto (pc2 := 49) C dX10_givesOf_154 rfl ?_
        exact v_lv [2, 1, 0] rfl (ih _ _ _ hs (hu.step h55 hs.mrw.2 (by decide)) hres)
      · have hres := (if_neg h131).symm.trans hres
        refine v_iload (pc2 := 137) C 3 dX10_givesOf_135 rfl rfl ?_
        refine v_i2l (pc2 := 138) C dX10_givesOf_137 rfl ?_
        refine v_aload_n (pc2 := 139) C 0 dX10_givesOf_138 rfl rfl ?_
        refine vg_X10_currents (pc2 := 142) C lf_X10_67 dX10_givesOf_139 rfl ?_
        refine v_iload (pc2 := 144) C 2 dX10_givesOf_142 rfl rfl ?_
        refine al54 (pc2 := 145) C (hu.in h55 hs.mrw.2) dX10_givesOf_144 rfl ?_
        refine v_lmul (pc2 := 146) C dX10_givesOf_145 rfl ?_
        refine v_goto (pc2 := 150) C dX10_givesOf_146 rfl ?_
        refine v_lstore_n (pc2 := 151) (lv2 := [(3, _), (0, _), (5, _), (6, _)]) C dX10_givesOf_150 (by decide) rfl rfl ?_
        refine v_iinc (pc2 := 154) (lv2 := [(5, _), (3, _), (0, _), (6, _)]) C 2 dX10_givesOf_151 rfl ki_1 (by decide) rfl rfl ?_
        refine v_goto (pc2 := 49) C dX10_givesOf_154 rfl ?_
        exact v_lv [2, 1, 0] rfl (ih _ _ _ hs (hu.step h55 hs.mrw.2 (by decide)) hres)
def f10_givesOf (σ : St) (a1 : Int32) (a2 : Int32) : Int64 × St :=
  (f10_givesOf_L 11 (f10_givesOf_P a1 a2 11 σ (0 : Int32)) (0 : Int64) (0 : Int32))
set_option maxHeartbeats 4000000 in
set_option maxRecDepth 100000 in
theorem bf10_givesOf {X : CX} {Λ : LY} (C : OK X Λ cX10_givesOf 8 RX10 7 193) {res : Int64 × St} (E : EN X Λ (some .long) (some (.long res.1)) res.2) (σ : St) (a1 : Int32) (a2 : Int32) (hs : Safe σ) (h3 : vp_in a2 24) (hres : (f10_givesOf σ a1 a2) = res) : VV X Λ 8 0 [(0, .ref (adr Λ 37)), (1, .int (a1)), (2, .int (a2))] [] σ := by
  unfold f10_givesOf at hres
  refine v_iconst (pc2 := 1) C dX10_givesOf_0 ki_0 rfl ?_
  refine v_istore_n (pc2 := 2) (lv2 := [(3, _), (0, _), (1, _), (2, _)]) C dX10_givesOf_1 (by decide) rfl rfl ?_
  refine v_lv [1, 2, 3, 0] rfl ?_
  refine bf10_givesOf_P C a1 a2 (out := (f10_givesOf_P a1 a2 11 σ (0 : Int32))) ?_ 11 σ (0 : Int32) hs h3 UP.start rfl
  refine v_lconst (pc2 := 45) C dX10_givesOf_44 kl_0 rfl ?_
  refine v_lstore_n (pc2 := 46) (lv2 := [(3, _), (0, _)]) C dX10_givesOf_45 (by decide) rfl rfl ?_
  refine v_iconst (pc2 := 47) C dX10_givesOf_46 ki_0 rfl ?_
  refine v_istore (pc2 := 49) (lv2 := [(5, _), (3, _), (0, _)]) C dX10_givesOf_47 (by decide) rfl rfl ?_
  exact v_lv [2, 1, 0] rfl (bf10_givesOf_L C E  11 _ _ _ (sX10_givesOf_P _ _ _ hs) UP.start  hres)
theorem mX10_givesOf (l : Launch) (Λ : LY) (σ : St) (a1 : Int32) (a2 : Int32) (hs : Safe σ) (h3 : vp_in a2 24) : CT l Λ yX10_givesOf cX10_givesOf 8 (some .long) 7 193 [.ref (adr Λ 37), .int (a1), .int (a2)] σ (some (.long (f10_givesOf σ a1 a2).1)) (f10_givesOf σ a1 a2).2 := by
  refine CT_of (by decide +kernel) (Nat.le_of_ble_eq_true rfl) ?_
  intro X hX C E
  obtain ⟨res, hres⟩ : ∃ r, (f10_givesOf σ a1 a2) = r := ⟨_, rfl⟩
  rw [hres] at E
  exact bf10_givesOf C E _ _ _  hs h3 hres
theorem sX10_givesOf_L : ∀ (n : Nat) (σ : St) (b : Int64) (r : Int32), Safe σ → Safe (f10_givesOf_L n σ b r).2 := by
  intro n
  induction n with
  | zero => intro σ b r h; exact h
  | succ n ih =>
    intro σ b r h
    rw [f10_givesOf_L]
    split
    · exact h
    · split <;> exact ih _ _ _ h
theorem sX10_givesOf {σ : St} {a b : Int32} (h : Safe σ) : Safe (f10_givesOf σ a b).2 := sX10_givesOf_L _ _ _ _ (sX10_givesOf_P _ _ _ h)
def f10_findState_c (σ : St) (a1 : Int32) (st : Int32) : St :=
  (if st = (0 : Int32) then (if (gA σ 30 (Int32.toNatClampNeg a1)) = (0 : Int32) then (uI σ 23 (0 : Int32)) else (uI σ 23 (1 : Int32))) else (uI σ 23 (2 : Int32)))
set_option maxHeartbeats 4000000 in
set_option maxRecDepth 100000 in
theorem bf10_findState_c {X : CX} {Λ : LY} (C : OK X Λ cX10_findState 4 RX10 0 0) {res : St} (E : EN X Λ none none res) (σ : St) (a1 : Int32) (st : Int32) (h3 : vp_in a1 24) (hres : (f10_findState_c σ a1 st) = res) : VV X Λ 4 78 [(0, .ref (adr Λ 37)), (1, .int (a1)), (3, .int (st))] [] σ := by
  unfold f10_findState_c at hres
  refine v_aload_n (pc2 := 79) C 0 dX10_findState_78 rfl rfl ?_
  refine v_iload_n (pc2 := 80) C 2 dX10_findState_79 rfl rfl ?_
  refine v_ifeq (pc2 := 87) (pc3 := 83) C dX10_findState_80 rfl rfl (fun h80 => ?_) (fun h80 => ?_)
  · have hres := (if_pos h80).symm.trans hres
    refine v_aload_n (pc2 := 88) C 0 dX10_findState_87 rfl rfl ?_
    refine vg_X10_cleans (pc2 := 91) C lf_X10_40 dX10_findState_88 rfl ?_
    refine v_iload_n (pc2 := 92) C 1 dX10_findState_91 rfl rfl ?_
    refine al48 (pc2 := 93) C h3 dX10_findState_92 rfl ?_
    refine v_ifeq (pc2 := 100) (pc3 := 96) C dX10_findState_93 rfl rfl (fun h93 => ?_) (fun h93 => ?_)
    · have hres := (if_pos h93).symm.trans hres
      refine v_iconst (pc2 := 101) C dX10_findState_100 ki_0 rfl ?_
      refine vp_X10_state (pc2 := 104) C lf_X10_223 dX10_findState_101 rfl ?_
      exact r_vS C E hres dX10_findState_104
    · have hres := (if_neg h93).symm.trans hres
      refine v_iconst (pc2 := 97) C dX10_findState_96 ki_1 rfl ?_
      refine v_goto (pc2 := 101) C dX10_findState_97 rfl ?_
      refine vp_X10_state (pc2 := 104) C lf_X10_223 dX10_findState_101 rfl ?_
      exact r_vS C E hres dX10_findState_104
  · have hres := (if_neg h80).symm.trans hres
    refine v_iconst (pc2 := 84) C dX10_findState_83 ki_2 rfl ?_
    refine v_goto (pc2 := 101) C dX10_findState_84 rfl ?_
    refine vp_X10_state (pc2 := 104) C lf_X10_223 dX10_findState_101 rfl ?_
    exact r_vS C E hres dX10_findState_104
def f10_findState_b (σ : St) (a1 : Int32) (w : Int32) (st : Int32) : St :=
  (if (gI σ 21) ≤ w then (f10_findState_c σ a1 (1 : Int32)) else (if (gI σ 24) < (3 : Int32) then (if w = (-1 : Int32) then (f10_findState_c σ a1 st) else (if ((gI σ 21) / (2 : Int32)) ≤ w then (f10_findState_c σ a1 st) else (f10_findState_c σ a1 (0 : Int32)))) else (f10_findState_c σ a1 (1 : Int32))))
set_option maxHeartbeats 4000000 in
set_option maxRecDepth 100000 in
theorem bf10_findState_b {X : CX} {Λ : LY} (C : OK X Λ cX10_findState 4 RX10 0 0) {res : St} (E : EN X Λ none none res) (σ : St) (a1 : Int32) (w : Int32) (st : Int32) (h3 : vp_in a1 24) (hres : (f10_findState_b σ a1 w st) = res) : VV X Λ 4 40 [(0, .ref (adr Λ 37)), (1, .int (a1)), (2, .int (w)), (3, .int (st))] [] σ := by
  unfold f10_findState_b at hres
  refine v_iload_n (pc2 := 41) C 2 dX10_findState_40 rfl rfl ?_
  refine v_aload_n (pc2 := 42) C 0 dX10_findState_41 rfl rfl ?_
  refine vg_X10_limit (pc2 := 45) C lf_X10_47 dX10_findState_42 rfl ?_
  refine v_icmpge (pc2 := 56) (pc3 := 48) C dX10_findState_45 rfl rfl (fun h45 => ?_) (fun h45 => ?_)
  · have hres := (if_pos h45).symm.trans hres
    refine v_iconst (pc2 := 57) C dX10_findState_56 ki_1 rfl ?_
    refine v_istore_n (pc2 := 58) (lv2 := [(3, _), (0, _), (1, _), (2, _)]) C dX10_findState_57 (by decide) rfl rfl ?_
    refine v_goto (pc2 := 78) C dX10_findState_58 rfl ?_
    exact v_lv [1, 2, 0] rfl (bf10_findState_c C E _ _ _ h3  hres)
  · have hres := (if_neg h45).symm.trans hres
    refine v_aload_n (pc2 := 49) C 0 dX10_findState_48 rfl rfl ?_
    refine vg_X10_lostRow (pc2 := 52) C lf_X10_220 dX10_findState_49 rfl ?_
    refine v_iconst (pc2 := 53) C dX10_findState_52 ki_3 rfl ?_
    refine v_icmplt (pc2 := 61) (pc3 := 56) C dX10_findState_53 rfl rfl (fun h53 => ?_) (fun h53 => ?_)
    · have hres := (if_pos h53).symm.trans hres
      refine v_iload_n (pc2 := 62) C 2 dX10_findState_61 rfl rfl ?_
      refine v_iconst (pc2 := 63) C dX10_findState_62 ki_m1 rfl ?_
      refine v_icmpeq (pc2 := 78) (pc3 := 66) C dX10_findState_63 rfl rfl (fun h63 => ?_) (fun h63 => ?_)
      · have hres := (if_pos h63).symm.trans hres
        exact v_lv [0, 1, 3] rfl (bf10_findState_c C E _ _ _ h3  hres)
      · have hres := (if_neg h63).symm.trans hres
        refine v_iload_n (pc2 := 67) C 2 dX10_findState_66 rfl rfl ?_
        refine v_aload_n (pc2 := 68) C 0 dX10_findState_67 rfl rfl ?_
        refine vg_X10_limit (pc2 := 71) C lf_X10_47 dX10_findState_68 rfl ?_
        refine v_iconst (pc2 := 72) C dX10_findState_71 ki_2 rfl ?_
        refine v_idiv (pc2 := 73) C dX10_findState_72 (by decide) rfl ?_
        refine v_icmpge (pc2 := 78) (pc3 := 76) C dX10_findState_73 rfl rfl (fun h73 => ?_) (fun h73 => ?_)
        · have hres := (if_pos h73).symm.trans hres
          exact v_lv [0, 1, 3] rfl (bf10_findState_c C E _ _ _ h3  hres)
        · have hres := (if_neg h73).symm.trans hres
          refine v_iconst (pc2 := 77) C dX10_findState_76 ki_0 rfl ?_
          refine v_istore_n (pc2 := 78) (lv2 := [(3, _), (0, _), (1, _), (2, _)]) C dX10_findState_77 (by decide) rfl rfl ?_
          exact v_lv [1, 2, 0] rfl (bf10_findState_c C E _ _ _ h3  hres)
    · have hres := (if_neg h53).symm.trans hres
      refine v_iconst (pc2 := 57) C dX10_findState_56 ki_1 rfl ?_
      refine v_istore_n (pc2 := 58) (lv2 := [(3, _), (0, _), (1, _), (2, _)]) C dX10_findState_57 (by decide) rfl rfl ?_
      refine v_goto (pc2 := 78) C dX10_findState_58 rfl ?_
      exact v_lv [1, 2, 0] rfl (bf10_findState_c C E _ _ _ h3  hres)
def f10_findState_a (σ : St) (a1 : Int32) (w : Int32) : St :=
  (if (gI σ 23) = (2 : Int32) then (f10_findState_b σ a1 w (1 : Int32)) else (f10_findState_b σ a1 w (0 : Int32)))
set_option maxHeartbeats 4000000 in
set_option maxRecDepth 100000 in
theorem bf10_findState_a {X : CX} {Λ : LY} (C : OK X Λ cX10_findState 4 RX10 0 0) {res : St} (E : EN X Λ none none res) (σ : St) (a1 : Int32) (w : Int32) (h3 : vp_in a1 24) (hres : (f10_findState_a σ a1 w) = res) : VV X Λ 4 26 [(0, .ref (adr Λ 37)), (1, .int (a1)), (2, .int (w))] [] σ := by
  unfold f10_findState_a at hres
  refine v_aload_n (pc2 := 27) C 0 dX10_findState_26 rfl rfl ?_
  refine vg_X10_state (pc2 := 30) C lf_X10_223 dX10_findState_27 rfl ?_
  refine v_iconst (pc2 := 31) C dX10_findState_30 ki_2 rfl ?_
  refine v_icmpne (pc2 := 38) (pc3 := 34) C dX10_findState_31 rfl rfl (fun h31 => ?_) (fun h31 => ?_)
  · have hres := (if_neg h31).symm.trans hres
    refine v_iconst (pc2 := 39) C dX10_findState_38 ki_0 rfl ?_
    refine v_istore_n (pc2 := 40) (lv2 := [(3, _), (0, _), (1, _), (2, _)]) C dX10_findState_39 (by decide) rfl rfl ?_
    exact v_lv [1, 2, 3, 0] rfl (bf10_findState_b C E _ _ _ _ h3  hres)
  · have hres := (if_pos h31).symm.trans hres
    refine v_iconst (pc2 := 35) C dX10_findState_34 ki_1 rfl ?_
    refine v_goto (pc2 := 39) C dX10_findState_35 rfl ?_
    refine v_istore_n (pc2 := 40) (lv2 := [(3, _), (0, _), (1, _), (2, _)]) C dX10_findState_39 (by decide) rfl rfl ?_
    exact v_lv [1, 2, 3, 0] rfl (bf10_findState_b C E _ _ _ _ h3  hres)
def f10_findState (σ : St) (a1 : Int32) : St :=
  (if (gA σ 29 (Int32.toNatClampNeg a1)) = (-1 : Int32) then (f10_findState_a (uI σ 24 ((gI σ 24) + (1 : Int32))) a1 (gA σ 29 (Int32.toNatClampNeg a1))) else (f10_findState_a (uI σ 24 (0 : Int32)) a1 (gA σ 29 (Int32.toNatClampNeg a1))))
set_option maxHeartbeats 4000000 in
set_option maxRecDepth 100000 in
theorem bf10_findState {X : CX} {Λ : LY} (C : OK X Λ cX10_findState 4 RX10 0 0) {res : St} (E : EN X Λ none none res) (σ : St) (a1 : Int32) (h3 : vp_in a1 24) (hres : (f10_findState σ a1) = res) : VV X Λ 4 0 [(0, .ref (adr Λ 37)), (1, .int (a1))] [] σ := by
  unfold f10_findState at hres
  refine v_aload_n (pc2 := 1) C 0 dX10_findState_0 rfl rfl ?_
  refine vg_X10_windOf (pc2 := 4) C lf_X10_37 dX10_findState_1 rfl ?_
  refine v_iload_n (pc2 := 5) C 1 dX10_findState_4 rfl rfl ?_
  refine al47 (pc2 := 6) C h3 dX10_findState_5 rfl ?_
  refine v_istore_n (pc2 := 7) (lv2 := [(2, _), (0, _), (1, _)]) C dX10_findState_6 (by decide) rfl rfl ?_
  refine v_aload_n (pc2 := 8) C 1 dX10_findState_7 rfl rfl ?_
  refine v_iload_n (pc2 := 9) C 0 dX10_findState_8 rfl rfl ?_
  refine v_iconst (pc2 := 10) C dX10_findState_9 ki_m1 rfl ?_
  refine v_icmpne (pc2 := 22) (pc3 := 13) C dX10_findState_10 rfl rfl (fun h10 => ?_) (fun h10 => ?_)
  · have hres := (if_neg h10).symm.trans hres
    refine v_iconst (pc2 := 23) C dX10_findState_22 ki_0 rfl ?_
    refine vp_X10_lostRow (pc2 := 26) C lf_X10_220 dX10_findState_23 rfl ?_
    exact v_lv [1, 2, 0] rfl (bf10_findState_a C E _ _ _ h3  hres)
  · have hres := (if_pos h10).symm.trans hres
    refine v_aload_n (pc2 := 14) C 1 dX10_findState_13 rfl rfl ?_
    refine vg_X10_lostRow (pc2 := 17) C lf_X10_220 dX10_findState_14 rfl ?_
    refine v_iconst (pc2 := 18) C dX10_findState_17 ki_1 rfl ?_
    refine v_iadd (pc2 := 19) C dX10_findState_18 rfl ?_
    refine v_goto (pc2 := 23) C dX10_findState_19 rfl ?_
    refine vp_X10_lostRow (pc2 := 26) C lf_X10_220 dX10_findState_23 rfl ?_
    exact v_lv [1, 2, 0] rfl (bf10_findState_a C E _ _ _ h3  hres)
theorem mX10_findState (l : Launch) (Λ : LY) (σ : St) (a1 : Int32) (h3 : vp_in a1 24) : CT l Λ yX10_findState cX10_findState 4 none 0 0 [.ref (adr Λ 37), .int (a1)] σ none (f10_findState σ a1) := by
  refine CT_of (by decide +kernel) (Nat.le_of_ble_eq_true rfl) ?_
  intro X hX C E
  obtain ⟨res, hres⟩ : ∃ r, (f10_findState σ a1) = r := ⟨_, rfl⟩
  rw [hres] at E
  exact bf10_findState C E _ _  h3 hres
theorem sX10_findState {σ : St} {a : Int32} (h : Safe σ) : Safe (f10_findState σ a) := by
  have hc : ∀ σ st, Safe σ → Safe (f10_findState_c σ a st) := by
    intro σ st h; unfold f10_findState_c; repeat' split
    all_goals exact sf_I (by decide) h
  have hb : ∀ σ w st, Safe σ → Safe (f10_findState_b σ a w st) := by
    intro σ w st h; unfold f10_findState_b; repeat' split
    all_goals exact hc _ _ h
  have ha : ∀ σ w, Safe σ → Safe (f10_findState_a σ a w) := by
    intro σ w h; unfold f10_findState_a; repeat' split
    all_goals exact hb _ _ _ h
  unfold f10_findState; repeat' split
  all_goals exact ha _ _ (sf_I (by decide) h)
def f10_stepFor (σ : St) (a1 : Int32) : Int32 × St :=
  (if (gI σ 23) = (0 : Int32) then (if (f10_isNight σ a1) = (0 : Int32) then (if ((f10_backOf σ a1).1) = (99 : Int32) then ((f10_idealOf ((f10_backOf σ a1).2) a1), ((f10_backOf σ a1).2)) else (((f10_backOf σ a1).1), ((f10_backOf σ a1).2))) else ((0 : Int32), σ)) else (if (gI σ 23) = (2 : Int32) then ((0 : Int32), σ) else ((-12 : Int32), σ)))
set_option maxHeartbeats 4000000 in
set_option maxRecDepth 100000 in
theorem bf10_stepFor {X : CX} {Λ : LY} (C : OK X Λ cX10_stepFor 3 RX10 6 164) {res : Int32 × St} (E : EN X Λ (some .int) (some (.int res.1)) res.2) (σ : St) (a1 : Int32) (hs : Safe σ) (h3 : vp_in a1 24) (hres : (f10_stepFor σ a1) = res) : VV X Λ 3 0 [(0, .ref (adr Λ 37)), (1, .int (a1))] [] σ := by
  unfold f10_stepFor at hres
  refine v_aload_n (pc2 := 1) C 0 dX10_stepFor_0 rfl rfl ?_
  refine vg_X10_state (pc2 := 4) C lf_X10_223 dX10_stepFor_1 rfl ?_
  refine v_ifeq (pc2 := 22) (pc3 := 7) C dX10_stepFor_4 rfl rfl (fun h4 => ?_) (fun h4 => ?_)
  · have hres := (if_pos h4).symm.trans hres
    refine v_aload_n (pc2 := 23) C 0 dX10_stepFor_22 rfl rfl ?_
    refine v_iload_n (pc2 := 24) C 1 dX10_stepFor_23 rfl rfl ?_
    refine v_cVi (pc2 := 27) C kc_X10_185 (mX10_isNight (xl X) Λ _ _ h3) (wd37 Λ _) rfl (by decide) rfl rfl (Nat.le_of_ble_eq_true rfl) dX10_stepFor_24 rfl ?_
    refine v_ifeq (pc2 := 32) (pc3 := 30) C dX10_stepFor_27 rfl rfl (fun h27 => ?_) (fun h27 => ?_)
    · have hres := (if_pos h27).symm.trans hres
      refine v_aload_n (pc2 := 33) C 0 dX10_stepFor_32 rfl rfl ?_
      refine v_iload_n (pc2 := 34) C 1 dX10_stepFor_33 rfl rfl ?_
      refine v_cVi (pc2 := 37) C kc_X10_188 (mX10_backOf (xl X) Λ _ _ hs h3) (wd37 Λ _) rfl (by decide) rfl rfl (Nat.le_of_ble_eq_true rfl) dX10_stepFor_34 rfl ?_
      refine v_istore_n (pc2 := 38) (lv2 := [(2, _), (0, _), (1, _)]) C dX10_stepFor_37 (by decide) rfl rfl ?_
      refine v_iload_n (pc2 := 39) C 0 dX10_stepFor_38 rfl rfl ?_
      refine v_bipush (pc2 := 41) C dX10_stepFor_39 kb_99 rfl ?_
      refine v_icmpne (pc2 := 52) (pc3 := 44) C dX10_stepFor_41 rfl rfl (fun h41 => ?_) (fun h41 => ?_)
      · have hres := (if_neg h41).symm.trans hres
        refine v_iload_n (pc2 := 53) C 0 dX10_stepFor_52 rfl rfl ?_
        exact r_iS C E hres dX10_stepFor_53
      · have hres := (if_pos h41).symm.trans hres
        refine v_aload_n (pc2 := 45) C 1 dX10_stepFor_44 rfl rfl ?_
        refine v_iload_n (pc2 := 46) C 2 dX10_stepFor_45 rfl rfl ?_
        refine v_cVi (pc2 := 49) C kc_X10_178 (mX10_idealOf (xl X) Λ _ _ h3) (wd37 Λ _) rfl (by decide) rfl rfl (Nat.le_of_ble_eq_true rfl) dX10_stepFor_46 rfl ?_
        refine v_goto (pc2 := 53) C dX10_stepFor_49 rfl ?_
        exact r_iS C E hres dX10_stepFor_53
    · have hres := (if_neg h27).symm.trans hres
      refine v_iconst (pc2 := 31) C dX10_stepFor_30 ki_0 rfl ?_
      exact r_iS C E hres dX10_stepFor_31
  · have hres := (if_neg h4).symm.trans hres
    refine v_aload_n (pc2 := 8) C 0 dX10_stepFor_7 rfl rfl ?_
    refine vg_X10_state (pc2 := 11) C lf_X10_223 dX10_stepFor_8 rfl ?_
    refine v_iconst (pc2 := 12) C dX10_stepFor_11 ki_2 rfl ?_
    refine v_icmpne (pc2 := 19) (pc3 := 15) C dX10_stepFor_12 rfl rfl (fun h12 => ?_) (fun h12 => ?_)
    · have hres := (if_neg h12).symm.trans hres
      refine v_bipush (pc2 := 21) C dX10_stepFor_19 kb_m12 rfl ?_
      exact r_iS C E hres dX10_stepFor_21
    · have hres := (if_pos h12).symm.trans hres
      refine v_iconst (pc2 := 16) C dX10_stepFor_15 ki_0 rfl ?_
      refine v_goto (pc2 := 21) C dX10_stepFor_16 rfl ?_
      exact r_iS C E hres dX10_stepFor_21
theorem mX10_stepFor (l : Launch) (Λ : LY) (σ : St) (a1 : Int32) (hs : Safe σ) (h3 : vp_in a1 24) : CT l Λ yX10_stepFor cX10_stepFor 3 (some .int) 6 164 [.ref (adr Λ 37), .int (a1)] σ (some (.int (f10_stepFor σ a1).1)) (f10_stepFor σ a1).2 := by
  refine CT_of (by decide +kernel) (Nat.le_of_ble_eq_true rfl) ?_
  intro X hX C E
  obtain ⟨res, hres⟩ : ∃ r, (f10_stepFor σ a1) = r := ⟨_, rfl⟩
  rw [hres] at E
  exact bf10_stepFor C E _ _  hs h3 hres
theorem sX10_stepFor {σ : St} {a : Int32} (h : Safe σ) : Safe (f10_stepFor σ a).2 := by
  have h1 := sX10_backOf (a := a) h
  unfold f10_stepFor
  repeat' split
  all_goals (try dsimp only)
  all_goals first | with_reducible exact h | with_reducible exact h1
def f10_setSteps_L (sp : Int32) (lt : Int32) : Nat → St → Int32 → St
  | 0, σ, _ => (σ)
  | n + 1, σ, r => (if (gI σ 20) ≤ r then (uI (uI σ 26 sp) 27 (gI (uI σ 26 sp) 23)) else (if (gA σ 20 (Int32.toNatClampNeg r)) = (1 : Int32) then (f10_setSteps_L sp lt n σ (r + (1 : Int32))) else (if (gA σ 20 (Int32.toNatClampNeg r)) = (2 : Int32) then (if lt = (0 : Int32) then (f10_setSteps_L sp lt n (uA σ 25 (Int32.toNatClampNeg r) sp) (r + (1 : Int32))) else (f10_setSteps_L sp lt n (uA σ 25 (Int32.toNatClampNeg r) (gI σ 26)) (r + (1 : Int32)))) else (f10_setSteps_L sp lt n (uA σ 25 (Int32.toNatClampNeg r) sp) (r + (1 : Int32))))))
set_option maxHeartbeats 4000000 in
set_option maxRecDepth 100000 in
theorem bf10_setSteps_L {X : CX} {Λ : LY} (C : OK X Λ cX10_setSteps 5 RX10 7 186) {res : St} (E : EN X Λ none none res) (sp : Int32) (lt : Int32)  : ∀ (n : Nat) (σ : St) (r : Int32), (hs : Safe σ) → (hu : UP 10 r n) → (f10_setSteps_L sp lt n σ r) = res → VV X Λ 5 38 [(0, .ref (adr Λ 37)), (2, .int (sp)), (3, .int (lt)), (4, .int (r))] [] σ := by
  intro n
  induction n with
  | zero => intro σ r hs hu hres; exact absurd hu (fun h => h.z)
  | succ n ih =>
    intro σ r hs hu hres
    rw [f10_setSteps_L] at hres
    refine v_iload (pc2 := 40) C 3 dX10_setSteps_38 rfl rfl ?_
    refine v_aload_n (pc2 := 41) C 0 dX10_setSteps_40 rfl rfl ?_
    refine vg_X10_rows (pc2 := 44) C lf_X10_72 dX10_setSteps_41 rfl ?_
    refine v_icmpge (pc2 := 94) (pc3 := 47) C dX10_setSteps_44 rfl rfl (fun h44 => ?_) (fun h44 => ?_)
    · have hres := (if_pos h44).symm.trans hres
      refine v_aload_n (pc2 := 95) C 0 dX10_setSteps_94 rfl rfl ?_
      refine v_iload_n (pc2 := 96) C 1 dX10_setSteps_95 rfl rfl ?_
      refine vp_X10_lastStep (pc2 := 99) C lf_X10_236 dX10_setSteps_96 rfl ?_
      refine v_aload_n (pc2 := 100) C 0 dX10_setSteps_99 rfl rfl ?_
      refine v_aload_n (pc2 := 101) C 0 dX10_setSteps_100 rfl rfl ?_
      refine vg_X10_state (pc2 := 104) C lf_X10_223 dX10_setSteps_101 rfl ?_
      refine vp_X10_lastState (pc2 := 107) C lf_X10_233 dX10_setSteps_104 rfl ?_
      exact r_vS C E hres dX10_setSteps_107
    · have hres := (if_neg h44).symm.trans hres
      refine v_aload_n (pc2 := 48) C 0 dX10_setSteps_47 rfl rfl ?_
      refine vg_X10_kindOf (pc2 := 51) C lf_X10_9 dX10_setSteps_48 rfl ?_
      refine v_iload (pc2 := 53) C 3 dX10_setSteps_51 rfl rfl ?_
      refine al38 (pc2 := 54) C (hu.in h44 hs.mrw.2) dX10_setSteps_53 rfl ?_
      refine v_iconst (pc2 := 55) C dX10_setSteps_54 ki_1 rfl ?_
      refine v_icmpeq (pc2 := 88) (pc3 := 58) C dX10_setSteps_55 rfl rfl (fun h55 => ?_) (fun h55 => ?_)
      · have hres := (if_pos h55).symm.trans hres
        refine v_iinc (pc2 := 91) (lv2 := [(4, _), (0, _), (2, _), (3, _)]) C 3 dX10_setSteps_88 rfl ki_1 (by decide) rfl rfl ?_
        refine v_goto (pc2 := 38) C dX10_setSteps_91 rfl ?_
        exact v_lv [1, 2, 3, 0] rfl (ih _ _ hs (hu.step h44 hs.mrw.2 (by decide)) hres)
      · have hres := (if_neg h55).symm.trans hres
        refine v_aload_n (pc2 := 59) C 0 dX10_setSteps_58 rfl rfl ?_
        refine vg_X10_stepOf (pc2 := 62) C lf_X10_25 dX10_setSteps_59 rfl ?_
        refine v_iload (pc2 := 64) C 3 dX10_setSteps_62 rfl rfl ?_
        refine v_aload_n (pc2 := 65) C 0 dX10_setSteps_64 rfl rfl ?_
        refine vg_X10_kindOf (pc2 := 68) C lf_X10_9 dX10_setSteps_65 rfl ?_
        refine v_iload (pc2 := 70) C 3 dX10_setSteps_68 rfl rfl ?_
        refine al38 (pc2 := 71) C (hu.in h44 hs.mrw.2) dX10_setSteps_70 rfl ?_
        refine v_iconst (pc2 := 72) C dX10_setSteps_71 ki_2 rfl ?_
        refine v_icmpne (pc2 := 86) (pc3 := 75) C dX10_setSteps_72 rfl rfl (fun h72 => ?_) (fun h72 => ?_)
        · have hres := (if_neg h72).symm.trans hres
          refine v_iload_n (pc2 := 87) C 1 dX10_setSteps_86 rfl rfl ?_
          refine as43 (pc2 := 88) C (hu.in h44 hs.mrw.2) dX10_setSteps_87 rfl ?_
          refine v_iinc (pc2 := 91) (lv2 := [(4, _), (0, _), (2, _), (3, _)]) C 3 dX10_setSteps_88 rfl ki_1 (by decide) rfl rfl ?_
          refine v_goto (pc2 := 38) C dX10_setSteps_91 rfl ?_
          exact v_lv [1, 2, 3, 0] rfl (ih _ _ (sf_A (by decide) hs) (hu.step h44 hs.mrw.2 (by decide)) hres)
        · have hres := (if_pos h72).symm.trans hres
          refine v_iload_n (pc2 := 76) C 2 dX10_setSteps_75 rfl rfl ?_
          refine v_ifeq (pc2 := 86) (pc3 := 79) C dX10_setSteps_76 rfl rfl (fun h76 => ?_) (fun h76 => ?_)
          · have hres := (if_pos h76).symm.trans hres
            refine v_iload_n (pc2 := 87) C 1 dX10_setSteps_86 rfl rfl ?_
            refine as43 (pc2 := 88) C (hu.in h44 hs.mrw.2) dX10_setSteps_87 rfl ?_
            refine v_iinc (pc2 := 91) (lv2 := [(4, _), (0, _), (2, _), (3, _)]) C 3 dX10_setSteps_88 rfl ki_1 (by decide) rfl rfl ?_
            refine v_goto (pc2 := 38) C dX10_setSteps_91 rfl ?_
            exact v_lv [1, 2, 3, 0] rfl (ih _ _ (sf_A (by decide) hs) (hu.step h44 hs.mrw.2 (by decide)) hres)
          · have hres := (if_neg h76).symm.trans hres
            refine v_aload_n (pc2 := 80) C 0 dX10_setSteps_79 rfl rfl ?_
            refine vg_X10_lastStep (pc2 := 83) C lf_X10_236 dX10_setSteps_80 rfl ?_
            refine v_goto (pc2 := 87) C dX10_setSteps_83 rfl ?_
            refine as43 (pc2 := 88) C (hu.in h44 hs.mrw.2) dX10_setSteps_87 rfl ?_
            refine v_iinc (pc2 := 91) (lv2 := [(4, _), (0, _), (2, _), (3, _)]) C 3 dX10_setSteps_88 rfl ki_1 (by decide) rfl rfl ?_
            refine v_goto (pc2 := 38) C dX10_setSteps_91 rfl ?_
            exact v_lv [1, 2, 3, 0] rfl (ih _ _ (sf_A (by decide) hs) (hu.step h44 hs.mrw.2 (by decide)) hres)
def f10_setSteps_a (σ : St) (sp : Int32) : St :=
  (if (gI σ 25) = (0 : Int32) then (f10_setSteps_L sp (0 : Int32) 11 σ (0 : Int32)) else (if (gI σ 27) = (2 : Int32) then (f10_setSteps_L sp (0 : Int32) 11 σ (0 : Int32)) else (if (gI σ 23) = (2 : Int32) then (f10_setSteps_L sp (0 : Int32) 11 σ (0 : Int32)) else (f10_setSteps_L sp (1 : Int32) 11 σ (0 : Int32)))))
set_option maxHeartbeats 4000000 in
set_option maxRecDepth 100000 in
theorem bf10_setSteps_a {X : CX} {Λ : LY} (C : OK X Λ cX10_setSteps 5 RX10 7 186) {res : St} (E : EN X Λ none none res) (σ : St) (sp : Int32) (hs : Safe σ) (hres : (f10_setSteps_a σ sp) = res) : VV X Λ 5 6 [(0, .ref (adr Λ 37)), (2, .int (sp))] [] σ := by
  unfold f10_setSteps_a at hres
  refine v_aload_n (pc2 := 7) C 0 dX10_setSteps_6 rfl rfl ?_
  refine vg_X10_went (pc2 := 10) C lf_X10_229 dX10_setSteps_7 rfl ?_
  refine v_ifeq (pc2 := 33) (pc3 := 13) C dX10_setSteps_10 rfl rfl (fun h10 => ?_) (fun h10 => ?_)
  · have hres := (if_pos h10).symm.trans hres
    refine v_iconst (pc2 := 34) C dX10_setSteps_33 ki_0 rfl ?_
    refine v_istore_n (pc2 := 35) (lv2 := [(3, _), (0, _), (2, _)]) C dX10_setSteps_34 (by decide) rfl rfl ?_
    refine v_iconst (pc2 := 36) C dX10_setSteps_35 ki_0 rfl ?_
    refine v_istore (pc2 := 38) (lv2 := [(4, _), (3, _), (0, _), (2, _)]) C dX10_setSteps_36 (by decide) rfl rfl ?_
    exact v_lv [2, 3, 1, 0] rfl (bf10_setSteps_L C E _ _ 11 _ _ hs UP.start  hres)
  · have hres := (if_neg h10).symm.trans hres
    refine v_aload_n (pc2 := 14) C 0 dX10_setSteps_13 rfl rfl ?_
    refine vg_X10_lastState (pc2 := 17) C lf_X10_233 dX10_setSteps_14 rfl ?_
    refine v_iconst (pc2 := 18) C dX10_setSteps_17 ki_2 rfl ?_
    refine v_icmpeq (pc2 := 33) (pc3 := 21) C dX10_setSteps_18 rfl rfl (fun h18 => ?_) (fun h18 => ?_)
    · have hres := (if_pos h18).symm.trans hres
      refine v_iconst (pc2 := 34) C dX10_setSteps_33 ki_0 rfl ?_
      refine v_istore_n (pc2 := 35) (lv2 := [(3, _), (0, _), (2, _)]) C dX10_setSteps_34 (by decide) rfl rfl ?_
      refine v_iconst (pc2 := 36) C dX10_setSteps_35 ki_0 rfl ?_
      refine v_istore (pc2 := 38) (lv2 := [(4, _), (3, _), (0, _), (2, _)]) C dX10_setSteps_36 (by decide) rfl rfl ?_
      exact v_lv [2, 3, 1, 0] rfl (bf10_setSteps_L C E _ _ 11 _ _ hs UP.start  hres)
    · have hres := (if_neg h18).symm.trans hres
      refine v_aload_n (pc2 := 22) C 0 dX10_setSteps_21 rfl rfl ?_
      refine vg_X10_state (pc2 := 25) C lf_X10_223 dX10_setSteps_22 rfl ?_
      refine v_iconst (pc2 := 26) C dX10_setSteps_25 ki_2 rfl ?_
      refine v_icmpeq (pc2 := 33) (pc3 := 29) C dX10_setSteps_26 rfl rfl (fun h26 => ?_) (fun h26 => ?_)
      · have hres := (if_pos h26).symm.trans hres
        refine v_iconst (pc2 := 34) C dX10_setSteps_33 ki_0 rfl ?_
        refine v_istore_n (pc2 := 35) (lv2 := [(3, _), (0, _), (2, _)]) C dX10_setSteps_34 (by decide) rfl rfl ?_
        refine v_iconst (pc2 := 36) C dX10_setSteps_35 ki_0 rfl ?_
        refine v_istore (pc2 := 38) (lv2 := [(4, _), (3, _), (0, _), (2, _)]) C dX10_setSteps_36 (by decide) rfl rfl ?_
        exact v_lv [2, 3, 1, 0] rfl (bf10_setSteps_L C E _ _ 11 _ _ hs UP.start  hres)
      · have hres := (if_neg h26).symm.trans hres
        refine v_iconst (pc2 := 30) C dX10_setSteps_29 ki_1 rfl ?_
        refine v_goto (pc2 := 34) C dX10_setSteps_30 rfl ?_
        refine v_istore_n (pc2 := 35) (lv2 := [(3, _), (0, _), (2, _)]) C dX10_setSteps_34 (by decide) rfl rfl ?_
        refine v_iconst (pc2 := 36) C dX10_setSteps_35 ki_0 rfl ?_
        refine v_istore (pc2 := 38) (lv2 := [(4, _), (3, _), (0, _), (2, _)]) C dX10_setSteps_36 (by decide) rfl rfl ?_
        exact v_lv [2, 3, 1, 0] rfl (bf10_setSteps_L C E _ _ 11 _ _ hs UP.start  hres)
def f10_setSteps (σ : St) (a1 : Int32) : St :=
  (f10_setSteps_a ((f10_stepFor σ a1).2) ((f10_stepFor σ a1).1))
set_option maxHeartbeats 4000000 in
set_option maxRecDepth 100000 in
theorem bf10_setSteps {X : CX} {Λ : LY} (C : OK X Λ cX10_setSteps 5 RX10 7 186) {res : St} (E : EN X Λ none none res) (σ : St) (a1 : Int32) (hs : Safe σ) (h3 : vp_in a1 24) (hres : (f10_setSteps σ a1) = res) : VV X Λ 5 0 [(0, .ref (adr Λ 37)), (1, .int (a1))] [] σ := by
  unfold f10_setSteps at hres
  refine v_aload_n (pc2 := 1) C 0 dX10_setSteps_0 rfl rfl ?_
  refine v_iload_n (pc2 := 2) C 1 dX10_setSteps_1 rfl rfl ?_
  refine v_cVi (pc2 := 5) C kc_X10_226 (mX10_stepFor (xl X) Λ _ _ hs h3) (wd37 Λ _) rfl (by decide) rfl rfl (Nat.le_of_ble_eq_true rfl) dX10_setSteps_2 rfl ?_
  refine v_istore_n (pc2 := 6) (lv2 := [(2, _), (0, _), (1, _)]) C dX10_setSteps_5 (by decide) rfl rfl ?_
  exact v_lv [1, 0] rfl (bf10_setSteps_a C E _ _ (sX10_stepFor hs)  hres)
theorem mX10_setSteps (l : Launch) (Λ : LY) (σ : St) (a1 : Int32) (hs : Safe σ) (h3 : vp_in a1 24) : CT l Λ yX10_setSteps cX10_setSteps 5 none 7 186 [.ref (adr Λ 37), .int (a1)] σ none (f10_setSteps σ a1) := by
  refine CT_of (by decide +kernel) (Nat.le_of_ble_eq_true rfl) ?_
  intro X hX C E
  obtain ⟨res, hres⟩ : ∃ r, (f10_setSteps σ a1) = r := ⟨_, rfl⟩
  rw [hres] at E
  exact bf10_setSteps C E _ _  hs h3 hres
theorem sX10_setSteps_L {sp lt : Int32} : ∀ (n : Nat) (σ : St) (r : Int32), Safe σ → Safe (f10_setSteps_L sp lt n σ r) := by
  intro n
  induction n with
  | zero => intro σ r h; exact h
  | succ n ih =>
    intro σ r h
    rw [f10_setSteps_L]
    split
    · exact sf_I (by decide) (sf_I (by decide) h)
    · split
      · exact ih _ _ h
      · repeat' split
        all_goals exact ih _ _ (sf_A (by decide) h)
theorem sX10_setSteps {σ : St} {a : Int32} (h : Safe σ) : Safe (f10_setSteps σ a) := by
  have key : ∀ sp, Safe (f10_setSteps_a (f10_stepFor σ a).2 sp) := by
    intro sp; unfold f10_setSteps_a; repeat' split
    all_goals exact sX10_setSteps_L _ _ _ (sX10_stepFor h)
  exact key _
def f10_writeBook_P : Nat → St → Int32 → St
  | 0, σ, _ => (σ)
  | n + 1, σ, j => (if (6 : Int32) ≤ j then σ else (f10_writeBook_P n (uB σ 10 (Int32.toNatClampNeg j) (0 : Int64)) (j + (1 : Int32))))
set_option maxHeartbeats 4000000 in
set_option maxRecDepth 100000 in
theorem bf10_writeBook_P {X : CX} {Λ : LY} (C : OK X Λ cX10_writeBook 7 RX10 8 220) {out : St} (a1 : Int32) (kk : VV X Λ 7 21 [(0, .ref (adr Λ 37)), (1, .int (a1))] [] (out)) : ∀ (n : Nat) (σ : St) (j : Int32), (hu : UP 6 j n) → (f10_writeBook_P n σ j) = out → VV X Λ 7 2 [(0, .ref (adr Λ 37)), (1, .int (a1)), (2, .int (j))] [] σ := by
  intro n
  induction n with
  | zero => intro σ j hu hres; exact absurd hu (fun h => h.z)
  | succ n ih =>
    intro σ j hu hres
    rw [f10_writeBook_P] at hres
    refine v_iload_n (pc2 := 3) C 2 dX10_writeBook_2 rfl rfl ?_
    refine v_bipush (pc2 := 5) C dX10_writeBook_3 kb_6 rfl ?_
    refine v_icmpge (pc2 := 21) (pc3 := 8) C dX10_writeBook_5 rfl rfl (fun h5 => ?_) (fun h5 => ?_)
    · have hres := (if_pos h5).symm.trans hres
      subst hres
      exact v_lv [0, 1] rfl kk
    · have hres := (if_neg h5).symm.trans hres
      refine v_aload_n (pc2 := 9) C 0 dX10_writeBook_8 rfl rfl ?_
      refine vg_X10_book (pc2 := 12) C lf_X10_51 dX10_writeBook_9 rfl ?_
      refine v_iload_n (pc2 := 13) C 2 dX10_writeBook_12 rfl rfl ?_
      refine v_lconst (pc2 := 14) C dX10_writeBook_13 kl_0 rfl ?_
      refine as50 (pc2 := 15) C (in8 (hu.in h5 (by rw [lit_6]; decide))) dX10_writeBook_14 rfl ?_
      refine v_iinc (pc2 := 18) (lv2 := [(2, _), (0, _), (1, _)]) C 2 dX10_writeBook_15 rfl ki_1 (by decide) rfl rfl ?_
      refine v_goto (pc2 := 2) C dX10_writeBook_18 rfl ?_
      exact v_lv [1, 2, 0] rfl (ih _ _ (hu.step h5 (by rw [lit_6]; decide) (by decide)) hres)
theorem sX10_writeBook_P  : ∀ (n : Nat) (σ : St) (j : Int32), Safe σ → Safe (f10_writeBook_P n σ j) := by
  intro n
  induction n with
  | zero => intro σ j h; exact h
  | succ n ih =>
    intro σ j h
    rw [f10_writeBook_P]
    split
    · exact h
    · exact ih _ _ (sf_B h)
def f10_writeBook_Q (a1 : Int32) : Nat → St → Int32 → St
  | 0, σ, _ => (σ)
  | n + 1, σ, j => (if (gI σ 20) ≤ j then σ else (if (gA σ 26 (Int32.toNatClampNeg j)) < (0 : Int32) then (f10_writeBook_Q a1 n σ (j + (1 : Int32))) else (if (0 : Int64) < (f10_breadthOf σ j a1) then (f10_writeBook_Q a1 n (uB (uB (uB (uB σ 10 (Int32.toNatClampNeg (0 : Int32)) ((gB σ 10 (Int32.toNatClampNeg (0 : Int32))) + (((3 : Int64) * (f10_breadthOf σ j a1)) / (3000000 : Int64)))) 10 (Int32.toNatClampNeg (1 : Int32)) ((gB (uB σ 10 (Int32.toNatClampNeg (0 : Int32)) ((gB σ 10 (Int32.toNatClampNeg (0 : Int32))) + (((3 : Int64) * (f10_breadthOf σ j a1)) / (3000000 : Int64)))) 10 (Int32.toNatClampNeg (1 : Int32))) + ((((3 : Int64) * (f10_breadthOf σ j a1)) / (3000000 : Int64)) - (f10_clean (uB σ 10 (Int32.toNatClampNeg (0 : Int32)) ((gB σ 10 (Int32.toNatClampNeg (0 : Int32))) + (((3 : Int64) * (f10_breadthOf σ j a1)) / (3000000 : Int64)))) j a1)))) 10 (Int32.toNatClampNeg (2 : Int32)) ((gB (uB (uB σ 10 (Int32.toNatClampNeg (0 : Int32)) ((gB σ 10 (Int32.toNatClampNeg (0 : Int32))) + (((3 : Int64) * (f10_breadthOf σ j a1)) / (3000000 : Int64)))) 10 (Int32.toNatClampNeg (1 : Int32)) ((gB (uB σ 10 (Int32.toNatClampNeg (0 : Int32)) ((gB σ 10 (Int32.toNatClampNeg (0 : Int32))) + (((3 : Int64) * (f10_breadthOf σ j a1)) / (3000000 : Int64)))) 10 (Int32.toNatClampNeg (1 : Int32))) + ((((3 : Int64) * (f10_breadthOf σ j a1)) / (3000000 : Int64)) - (f10_clean (uB σ 10 (Int32.toNatClampNeg (0 : Int32)) ((gB σ 10 (Int32.toNatClampNeg (0 : Int32))) + (((3 : Int64) * (f10_breadthOf σ j a1)) / (3000000 : Int64)))) j a1)))) 10 (Int32.toNatClampNeg (2 : Int32))) + (f10_dusted (uB (uB σ 10 (Int32.toNatClampNeg (0 : Int32)) ((gB σ 10 (Int32.toNatClampNeg (0 : Int32))) + (((3 : Int64) * (f10_breadthOf σ j a1)) / (3000000 : Int64)))) 10 (Int32.toNatClampNeg (1 : Int32)) ((gB (uB σ 10 (Int32.toNatClampNeg (0 : Int32)) ((gB σ 10 (Int32.toNatClampNeg (0 : Int32))) + (((3 : Int64) * (f10_breadthOf σ j a1)) / (3000000 : Int64)))) 10 (Int32.toNatClampNeg (1 : Int32))) + ((((3 : Int64) * (f10_breadthOf σ j a1)) / (3000000 : Int64)) - (f10_clean (uB σ 10 (Int32.toNatClampNeg (0 : Int32)) ((gB σ 10 (Int32.toNatClampNeg (0 : Int32))) + (((3 : Int64) * (f10_breadthOf σ j a1)) / (3000000 : Int64)))) j a1)))) j a1))) 10 (Int32.toNatClampNeg (3 : Int32)) ((gB (uB (uB (uB σ 10 (Int32.toNatClampNeg (0 : Int32)) ((gB σ 10 (Int32.toNatClampNeg (0 : Int32))) + (((3 : Int64) * (f10_breadthOf σ j a1)) / (3000000 : Int64)))) 10 (Int32.toNatClampNeg (1 : Int32)) ((gB (uB σ 10 (Int32.toNatClampNeg (0 : Int32)) ((gB σ 10 (Int32.toNatClampNeg (0 : Int32))) + (((3 : Int64) * (f10_breadthOf σ j a1)) / (3000000 : Int64)))) 10 (Int32.toNatClampNeg (1 : Int32))) + ((((3 : Int64) * (f10_breadthOf σ j a1)) / (3000000 : Int64)) - (f10_clean (uB σ 10 (Int32.toNatClampNeg (0 : Int32)) ((gB σ 10 (Int32.toNatClampNeg (0 : Int32))) + (((3 : Int64) * (f10_breadthOf σ j a1)) / (3000000 : Int64)))) j a1)))) 10 (Int32.toNatClampNeg (2 : Int32)) ((gB (uB (uB σ 10 (Int32.toNatClampNeg (0 : Int32)) ((gB σ 10 (Int32.toNatClampNeg (0 : Int32))) + (((3 : Int64) * (f10_breadthOf σ j a1)) / (3000000 : Int64)))) 10 (Int32.toNatClampNeg (1 : Int32)) ((gB (uB σ 10 (Int32.toNatClampNeg (0 : Int32)) ((gB σ 10 (Int32.toNatClampNeg (0 : Int32))) + (((3 : Int64) * (f10_breadthOf σ j a1)) / (3000000 : Int64)))) 10 (Int32.toNatClampNeg (1 : Int32))) + ((((3 : Int64) * (f10_breadthOf σ j a1)) / (3000000 : Int64)) - (f10_clean (uB σ 10 (Int32.toNatClampNeg (0 : Int32)) ((gB σ 10 (Int32.toNatClampNeg (0 : Int32))) + (((3 : Int64) * (f10_breadthOf σ j a1)) / (3000000 : Int64)))) j a1)))) 10 (Int32.toNatClampNeg (2 : Int32))) + (f10_dusted (uB (uB σ 10 (Int32.toNatClampNeg (0 : Int32)) ((gB σ 10 (Int32.toNatClampNeg (0 : Int32))) + (((3 : Int64) * (f10_breadthOf σ j a1)) / (3000000 : Int64)))) 10 (Int32.toNatClampNeg (1 : Int32)) ((gB (uB σ 10 (Int32.toNatClampNeg (0 : Int32)) ((gB σ 10 (Int32.toNatClampNeg (0 : Int32))) + (((3 : Int64) * (f10_breadthOf σ j a1)) / (3000000 : Int64)))) 10 (Int32.toNatClampNeg (1 : Int32))) + ((((3 : Int64) * (f10_breadthOf σ j a1)) / (3000000 : Int64)) - (f10_clean (uB σ 10 (Int32.toNatClampNeg (0 : Int32)) ((gB σ 10 (Int32.toNatClampNeg (0 : Int32))) + (((3 : Int64) * (f10_breadthOf σ j a1)) / (3000000 : Int64)))) j a1)))) j a1))) 10 (Int32.toNatClampNeg (3 : Int32))) + (f10_currentOf (uB (uB (uB σ 10 (Int32.toNatClampNeg (0 : Int32)) ((gB σ 10 (Int32.toNatClampNeg (0 : Int32))) + (((3 : Int64) * (f10_breadthOf σ j a1)) / (3000000 : Int64)))) 10 (Int32.toNatClampNeg (1 : Int32)) ((gB (uB σ 10 (Int32.toNatClampNeg (0 : Int32)) ((gB σ 10 (Int32.toNatClampNeg (0 : Int32))) + (((3 : Int64) * (f10_breadthOf σ j a1)) / (3000000 : Int64)))) 10 (Int32.toNatClampNeg (1 : Int32))) + ((((3 : Int64) * (f10_breadthOf σ j a1)) / (3000000 : Int64)) - (f10_clean (uB σ 10 (Int32.toNatClampNeg (0 : Int32)) ((gB σ 10 (Int32.toNatClampNeg (0 : Int32))) + (((3 : Int64) * (f10_breadthOf σ j a1)) / (3000000 : Int64)))) j a1)))) 10 (Int32.toNatClampNeg (2 : Int32)) ((gB (uB (uB σ 10 (Int32.toNatClampNeg (0 : Int32)) ((gB σ 10 (Int32.toNatClampNeg (0 : Int32))) + (((3 : Int64) * (f10_breadthOf σ j a1)) / (3000000 : Int64)))) 10 (Int32.toNatClampNeg (1 : Int32)) ((gB (uB σ 10 (Int32.toNatClampNeg (0 : Int32)) ((gB σ 10 (Int32.toNatClampNeg (0 : Int32))) + (((3 : Int64) * (f10_breadthOf σ j a1)) / (3000000 : Int64)))) 10 (Int32.toNatClampNeg (1 : Int32))) + ((((3 : Int64) * (f10_breadthOf σ j a1)) / (3000000 : Int64)) - (f10_clean (uB σ 10 (Int32.toNatClampNeg (0 : Int32)) ((gB σ 10 (Int32.toNatClampNeg (0 : Int32))) + (((3 : Int64) * (f10_breadthOf σ j a1)) / (3000000 : Int64)))) j a1)))) 10 (Int32.toNatClampNeg (2 : Int32))) + (f10_dusted (uB (uB σ 10 (Int32.toNatClampNeg (0 : Int32)) ((gB σ 10 (Int32.toNatClampNeg (0 : Int32))) + (((3 : Int64) * (f10_breadthOf σ j a1)) / (3000000 : Int64)))) 10 (Int32.toNatClampNeg (1 : Int32)) ((gB (uB σ 10 (Int32.toNatClampNeg (0 : Int32)) ((gB σ 10 (Int32.toNatClampNeg (0 : Int32))) + (((3 : Int64) * (f10_breadthOf σ j a1)) / (3000000 : Int64)))) 10 (Int32.toNatClampNeg (1 : Int32))) + ((((3 : Int64) * (f10_breadthOf σ j a1)) / (3000000 : Int64)) - (f10_clean (uB σ 10 (Int32.toNatClampNeg (0 : Int32)) ((gB σ 10 (Int32.toNatClampNeg (0 : Int32))) + (((3 : Int64) * (f10_breadthOf σ j a1)) / (3000000 : Int64)))) j a1)))) j a1))) j a1))) (j + (1 : Int32))) else (f10_writeBook_Q a1 n σ (j + (1 : Int32))))))
set_option maxHeartbeats 4000000 in
set_option maxRecDepth 100000 in
theorem bf10_writeBook_Q {X : CX} {Λ : LY} (C : OK X Λ cX10_writeBook 7 RX10 8 220) {out : St} (a1 : Int32) (kk : VV X Λ 7 162 [(0, .ref (adr Λ 37)), (1, .int (a1))] [] (out)) : ∀ (n : Nat) (σ : St) (j : Int32), (hs : Safe σ) → (h3 : vp_in a1 24) → (hu : UP 10 j n) → (f10_writeBook_Q a1 n σ j) = out → VV X Λ 7 53 [(0, .ref (adr Λ 37)), (1, .int (a1)), (2, .int (j))] [] σ := by
  intro n
  induction n with
  | zero => intro σ j hs h3 hu hres; exact absurd hu (fun h => h.z)
  | succ n ih =>
    intro σ j hs h3 hu hres
    rw [f10_writeBook_Q] at hres
    refine v_iload_n (pc2 := 54) C 2 dX10_writeBook_53 rfl rfl ?_
    refine v_aload_n (pc2 := 55) C 0 dX10_writeBook_54 rfl rfl ?_
    refine vg_X10_rows (pc2 := 58) C lf_X10_72 dX10_writeBook_55 rfl ?_
    refine v_icmpge (pc2 := 162) (pc3 := 61) C dX10_writeBook_58 rfl rfl (fun h58 => ?_) (fun h58 => ?_)
    · have hres := (if_pos h58).symm.trans hres
      subst hres
      exact v_lv [0, 1] rfl kk
    · have hres := (if_neg h58).symm.trans hres
      refine v_aload_n (pc2 := 62) C 0 dX10_writeBook_61 rfl rfl ?_
      refine vg_X10_stringOf (pc2 := 65) C lf_X10_28 dX10_writeBook_62 rfl ?_
      refine v_iload_n (pc2 := 66) C 2 dX10_writeBook_65 rfl rfl ?_
      refine al44 (pc2 := 67) C (hu.in h58 hs.mrw.2) dX10_writeBook_66 rfl ?_
      refine v_iflt (pc2 := 156) (pc3 := 70) C dX10_writeBook_67 rfl rfl (fun h67 => ?_) (fun h67 => ?_)
      · have hres := (if_pos h67).symm.trans hres
        refine v_iinc (pc2 := 159) (lv2 := [(2, _), (0, _), (1, _)]) C 2 dX10_writeBook_156 rfl ki_1 (by decide) rfl rfl ?_
        refine v_goto (pc2 := 53) C dX10_writeBook_159 rfl ?_
        exact v_lv [1, 2, 0] rfl (ih _ _ hs h3 (hu.step h58 hs.mrw.2 (by decide)) hres)
      · have hres := (if_neg h67).symm.trans hres
        refine v_aload_n (pc2 := 71) C 0 dX10_writeBook_70 rfl rfl ?_
        refine v_iload_n (pc2 := 72) C 2 dX10_writeBook_71 rfl rfl ?_
        refine v_iload_n (pc2 := 73) C 1 dX10_writeBook_72 rfl rfl ?_
        refine v_cVl (pc2 := 76) C kc_X10_171 (mX10_breadthOf (xl X) Λ _ _ _ (hu.in h58 hs.mrw.2) h3) (wd37 Λ _) rfl (by decide) rfl rfl (Nat.le_of_ble_eq_true rfl) dX10_writeBook_73 rfl ?_
        refine v_lconst (pc2 := 77) C dX10_writeBook_76 kl_0 rfl ?_
        refine v_lcgt (pc2 := 84) (pc3 := 81) C dX10_writeBook_77 dX10_writeBook_78 rfl rfl (fun h77 => ?_) (fun h77 => ?_)
        · have hres := (if_pos h77).symm.trans hres
          refine v_ldc2 (pc2 := 87) C lc_X10_165 dX10_writeBook_84 rfl ?_
          refine v_aload_n (pc2 := 88) C 0 dX10_writeBook_87 rfl rfl ?_
          refine v_iload_n (pc2 := 89) C 2 dX10_writeBook_88 rfl rfl ?_
          refine v_iload_n (pc2 := 90) C 1 dX10_writeBook_89 rfl rfl ?_
          refine v_cVl (pc2 := 93) C kc_X10_171 (mX10_breadthOf (xl X) Λ _ _ _ (hu.in h58 hs.mrw.2) h3) (wd37 Λ _) rfl (by decide) rfl rfl (Nat.le_of_ble_eq_true rfl) dX10_writeBook_90 rfl ?_
          refine v_lmul (pc2 := 94) C dX10_writeBook_93 rfl ?_
          refine v_ldc2 (pc2 := 97) C lc_X10_204 dX10_writeBook_94 rfl ?_
          refine v_ldiv (pc2 := 98) C dX10_writeBook_97 (by decide) rfl ?_
          refine v_lstore_n (pc2 := 99) (lv2 := [(3, _), (0, _), (1, _), (2, _)]) C dX10_writeBook_98 (by decide) rfl rfl ?_
          refine v_aload_n (pc2 := 100) C 1 dX10_writeBook_99 rfl rfl ?_
          refine vg_X10_book (pc2 := 103) C lf_X10_51 dX10_writeBook_100 rfl ?_
          refine v_iconst (pc2 := 104) C dX10_writeBook_103 ki_0 rfl ?_
          refine v_dup2 (pc2 := 105) C dX10_writeBook_104 rfl rfl rfl ?_
          refine al50 (pc2 := 106) C (in_lit (by decide +kernel)) dX10_writeBook_105 rfl ?_
          refine v_lload_n (pc2 := 107) C 0 dX10_writeBook_106 rfl rfl ?_
          refine v_ladd (pc2 := 108) C dX10_writeBook_107 rfl ?_
          refine as50 (pc2 := 109) C (in_lit (by decide +kernel)) dX10_writeBook_108 rfl ?_
          refine v_aload_n (pc2 := 110) C 1 dX10_writeBook_109 rfl rfl ?_
          refine vg_X10_book (pc2 := 113) C lf_X10_51 dX10_writeBook_110 rfl ?_
          refine v_iconst (pc2 := 114) C dX10_writeBook_113 ki_1 rfl ?_
          refine v_dup2 (pc2 := 115) C dX10_writeBook_114 rfl rfl rfl ?_
          refine al50 (pc2 := 116) C (in_lit (by decide +kernel)) dX10_writeBook_115 rfl ?_
          refine v_lload_n (pc2 := 117) C 0 dX10_writeBook_116 rfl rfl ?_
          refine v_aload_n (pc2 := 118) C 1 dX10_writeBook_117 rfl rfl ?_
          refine v_iload_n (pc2 := 119) C 3 dX10_writeBook_118 rfl rfl ?_
          refine v_iload_n (pc2 := 120) C 2 dX10_writeBook_119 rfl rfl ?_
          refine v_cVl (pc2 := 123) C kc_X10_206 (mX10_clean (xl X) Λ _ _ _ (sf_B hs) (hu.in h58 hs.mrw.2) h3) (wd37 Λ _) rfl (by decide) rfl rfl (Nat.le_of_ble_eq_true rfl) dX10_writeBook_120 rfl ?_
          refine v_lsub (pc2 := 124) C dX10_writeBook_123 rfl ?_
          refine v_ladd (pc2 := 125) C dX10_writeBook_124 rfl ?_
          refine as50 (pc2 := 126) C (in_lit (by decide +kernel)) dX10_writeBook_125 rfl ?_
          refine v_aload_n (pc2 := 127) C 1 dX10_writeBook_126 rfl rfl ?_
          refine vg_X10_book (pc2 := 130) C lf_X10_51 dX10_writeBook_127 rfl ?_
          refine v_iconst (pc2 := 131) C dX10_writeBook_130 ki_2 rfl ?_
          refine v_dup2 (pc2 := 132) C dX10_writeBook_131 rfl rfl rfl ?_
          refine al50 (pc2 := 133) C (in_lit (by decide +kernel)) dX10_writeBook_132 rfl ?_
          refine v_aload_n (pc2 := 134) C 1 dX10_writeBook_133 rfl rfl ?_
          refine v_iload_n (pc2 := 135) C 3 dX10_writeBook_134 rfl rfl ?_
          refine v_iload_n (pc2 := 136) C 2 dX10_writeBook_135 rfl rfl ?_
          refine v_cVl (pc2 := 139) C kc_X10_211 (mX10_dusted (xl X) Λ _ _ _ (sf_B (sf_B hs)) (hu.in h58 hs.mrw.2) h3) (wd37 Λ _) rfl (by decide) rfl rfl (Nat.le_of_ble_eq_true rfl) dX10_writeBook_136 rfl ?_
          refine v_ladd (pc2 := 140) C dX10_writeBook_139 rfl ?_
          refine as50 (pc2 := 141) C (in_lit (by decide +kernel)) dX10_writeBook_140 rfl ?_
          refine v_aload_n (pc2 := 142) C 1 dX10_writeBook_141 rfl rfl ?_
          refine vg_X10_book (pc2 := 145) C lf_X10_51 dX10_writeBook_142 rfl ?_
          refine v_iconst (pc2 := 146) C dX10_writeBook_145 ki_3 rfl ?_
          refine v_dup2 (pc2 := 147) C dX10_writeBook_146 rfl rfl rfl ?_
          refine al50 (pc2 := 148) C (in_lit (by decide +kernel)) dX10_writeBook_147 rfl ?_
          refine v_aload_n (pc2 := 149) C 1 dX10_writeBook_148 rfl rfl ?_
          refine v_iload_n (pc2 := 150) C 3 dX10_writeBook_149 rfl rfl ?_
          refine v_iload_n (pc2 := 151) C 2 dX10_writeBook_150 rfl rfl ?_
          refine v_cVl (pc2 := 154) C kc_X10_214 (mX10_currentOf (xl X) Λ _ _ _ (sf_B (sf_B (sf_B hs))) (hu.in h58 hs.mrw.2) h3) (wd37 Λ _) rfl (by decide) rfl rfl (Nat.le_of_ble_eq_true rfl) dX10_writeBook_151 rfl ?_
          refine v_ladd (pc2 := 155) C dX10_writeBook_154 rfl ?_
          refine as50 (pc2 := 156) C (in_lit (by decide +kernel)) dX10_writeBook_155 rfl ?_
          refine v_iinc (pc2 := 159) (lv2 := [(2, _), (3, _), (0, _), (1, _)]) C 3 dX10_writeBook_156 rfl ki_1 (by decide) rfl rfl ?_
          refine v_goto (pc2 := 53) C dX10_writeBook_159 rfl ?_
          exact v_lv [2, 3, 0] rfl (ih _ _ (sf_B (sf_B (sf_B (sf_B hs)))) h3 (hu.step h58 hs.mrw.2 (by decide)) hres)
        · have hres := (if_neg h77).symm.trans hres
          refine v_goto (pc2 := 156) C dX10_writeBook_81 rfl ?_
          refine v_iinc (pc2 := 159) (lv2 := [(2, _), (0, _), (1, _)]) C 2 dX10_writeBook_156 rfl ki_1 (by decide) rfl rfl ?_
          refine v_goto (pc2 := 53) C dX10_writeBook_159 rfl ?_
          exact v_lv [1, 2, 0] rfl (ih _ _ hs h3 (hu.step h58 hs.mrw.2 (by decide)) hres)
theorem sX10_writeBook_Q {a : Int32} : ∀ (n : Nat) (σ : St) (j : Int32), Safe σ → Safe (f10_writeBook_Q a n σ j) := by
  intro n
  induction n with
  | zero => intro σ j h; exact h
  | succ n ih =>
    intro σ j h
    rw [f10_writeBook_Q]
    split
    · exact h
    · split
      · exact ih _ _ h
      · split
        · exact ih _ _ (sf_B (sf_B (sf_B (sf_B h))))
        · exact ih _ _ h
def f10_writeBook_ab (σ : St) (j : Int32) (gv : Int64) : Int64 :=
  (if gv ≤ (Int32.toInt64 (gA σ 31 (Int32.toNatClampNeg j))) then (0 : Int64) else (gv - (Int32.toInt64 (gA σ 31 (Int32.toNatClampNeg j)))))
set_option maxHeartbeats 4000000 in
set_option maxRecDepth 100000 in
theorem bf10_writeBook_ab {X : CX} {Λ : LY} (C : OK X Λ cX10_writeBook 7 RX10 8 220) (σ : St) {out : Int64} (a1 : Int32) (j : Int32) (gv : Int64) (kk : VV X Λ 7 201 [(0, .ref (adr Λ 37)), (1, .int (a1)), (2, .int (j)), (3, .long (gv))] [.long (out)] (σ)) (hj : vp_in j 4) (hres : (f10_writeBook_ab σ j gv) = out) : VV X Λ 7 176 [(0, .ref (adr Λ 37)), (1, .int (a1)), (2, .int (j)), (3, .long (gv))] [] σ := by
  unfold f10_writeBook_ab at hres
  refine v_lload_n (pc2 := 177) C 3 dX10_writeBook_176 rfl rfl ?_
  refine v_aload_n (pc2 := 178) C 0 dX10_writeBook_177 rfl rfl ?_
  refine vg_X10_ceilings (pc2 := 181) C lf_X10_44 dX10_writeBook_178 rfl ?_
  refine v_iload_n (pc2 := 182) C 2 dX10_writeBook_181 rfl rfl ?_
  refine al49 (pc2 := 183) C hj dX10_writeBook_182 rfl ?_
  refine v_i2l (pc2 := 184) C dX10_writeBook_183 rfl ?_
  refine v_lcle (pc2 := 200) (pc3 := 188) C dX10_writeBook_184 dX10_writeBook_185 rfl rfl (fun h184 => ?_) (fun h184 => ?_)
  · have hres := (if_pos h184).symm.trans hres
    refine v_lconst (pc2 := 201) C dX10_writeBook_200 kl_0 rfl ?_
    subst hres
    exact v_lv [0, 1, 2, 3] rfl kk
  · have hres := (if_neg h184).symm.trans hres
    refine v_lload_n (pc2 := 189) C 3 dX10_writeBook_188 rfl rfl ?_
    refine v_aload_n (pc2 := 190) C 0 dX10_writeBook_189 rfl rfl ?_
    refine vg_X10_ceilings (pc2 := 193) C lf_X10_44 dX10_writeBook_190 rfl ?_
    refine v_iload_n (pc2 := 194) C 2 dX10_writeBook_193 rfl rfl ?_
    refine al49 (pc2 := 195) C hj dX10_writeBook_194 rfl ?_
    refine v_i2l (pc2 := 196) C dX10_writeBook_195 rfl ?_
    refine v_lsub (pc2 := 197) C dX10_writeBook_196 rfl ?_
    refine v_goto (pc2 := 201) C dX10_writeBook_197 rfl ?_
    subst hres
    exact v_lv [0, 1, 2, 3] rfl kk
def f10_writeBook_R (a1 : Int32) : Nat → St → Int32 → St
  | 0, σ, _ => (σ)
  | n + 1, σ, j => (if (4 : Int32) ≤ j then σ else (f10_writeBook_R a1 n (uB (uB (uB ((f10_givesOf σ j a1).2) 10 (Int32.toNatClampNeg (3 : Int32)) ((gB ((f10_givesOf σ j a1).2) 10 (Int32.toNatClampNeg (3 : Int32))) - ((f10_givesOf σ j a1).1))) 10 (Int32.toNatClampNeg (4 : Int32)) ((gB (uB ((f10_givesOf σ j a1).2) 10 (Int32.toNatClampNeg (3 : Int32)) ((gB ((f10_givesOf σ j a1).2) 10 (Int32.toNatClampNeg (3 : Int32))) - ((f10_givesOf σ j a1).1))) 10 (Int32.toNatClampNeg (4 : Int32))) + (f10_writeBook_ab ((f10_givesOf σ j a1).2) j ((f10_givesOf σ j a1).1)))) 10 (Int32.toNatClampNeg (5 : Int32)) ((gB (uB (uB ((f10_givesOf σ j a1).2) 10 (Int32.toNatClampNeg (3 : Int32)) ((gB ((f10_givesOf σ j a1).2) 10 (Int32.toNatClampNeg (3 : Int32))) - ((f10_givesOf σ j a1).1))) 10 (Int32.toNatClampNeg (4 : Int32)) ((gB (uB ((f10_givesOf σ j a1).2) 10 (Int32.toNatClampNeg (3 : Int32)) ((gB ((f10_givesOf σ j a1).2) 10 (Int32.toNatClampNeg (3 : Int32))) - ((f10_givesOf σ j a1).1))) 10 (Int32.toNatClampNeg (4 : Int32))) + (f10_writeBook_ab ((f10_givesOf σ j a1).2) j ((f10_givesOf σ j a1).1)))) 10 (Int32.toNatClampNeg (5 : Int32))) + (((f10_givesOf σ j a1).1) - (f10_writeBook_ab ((f10_givesOf σ j a1).2) j ((f10_givesOf σ j a1).1))))) (j + (1 : Int32))))
set_option maxHeartbeats 4000000 in
set_option maxRecDepth 100000 in
theorem bf10_writeBook_R {X : CX} {Λ : LY} (C : OK X Λ cX10_writeBook 7 RX10 8 220) {out : St} (a1 : Int32) (kk : VV X Λ 7 243 [(0, .ref (adr Λ 37))] [] (out)) : ∀ (n : Nat) (σ : St) (j : Int32), (hs : Safe σ) → (h3 : vp_in a1 24) → (hu : UP 4 j n) → (f10_writeBook_R a1 n σ j) = out → VV X Λ 7 164 [(0, .ref (adr Λ 37)), (1, .int (a1)), (2, .int (j))] [] σ := by
  intro n
  induction n with
  | zero => intro σ j hs h3 hu hres; exact absurd hu (fun h => h.z)
  | succ n ih =>
    intro σ j hs h3 hu hres
    rw [f10_writeBook_R] at hres
    refine v_iload_n (pc2 := 165) C 2 dX10_writeBook_164 rfl rfl ?_
    refine v_iconst (pc2 := 166) C dX10_writeBook_165 ki_4 rfl ?_
    refine v_icmpge (pc2 := 243) (pc3 := 169) C dX10_writeBook_166 rfl rfl (fun h166 => ?_) (fun h166 => ?_)
    · have hres := (if_pos h166).symm.trans hres
      subst hres
      exact v_lv [0] rfl kk
    · have hres := (if_neg h166).symm.trans hres
      refine v_aload_n (pc2 := 170) C 0 dX10_writeBook_169 rfl rfl ?_
      refine v_iload_n (pc2 := 171) C 2 dX10_writeBook_170 rfl rfl ?_
      refine v_iload_n (pc2 := 172) C 1 dX10_writeBook_171 rfl rfl ?_
      refine v_cVl (pc2 := 175) C kc_X10_217 (mX10_givesOf (xl X) Λ _ _ _ hs h3) (wd37 Λ _) rfl (by decide) rfl rfl (Nat.le_of_ble_eq_true rfl) dX10_writeBook_172 rfl ?_
      refine v_lstore_n (pc2 := 176) (lv2 := [(3, _), (0, _), (1, _), (2, _)]) C dX10_writeBook_175 (by decide) rfl rfl ?_
      refine v_lv [1, 2, 3, 0] rfl ?_
      refine bf10_writeBook_ab C ((f10_givesOf σ j a1).2) a1 j ((f10_givesOf σ j a1).1) (out := (f10_writeBook_ab ((f10_givesOf σ j a1).2) j ((f10_givesOf σ j a1).1))) ?_  (hu.in h166 (by rw [lit_4]; decide)) rfl
      refine v_lstore (pc2 := 203) (lv2 := [(5, _), (0, _), (1, _), (2, _), (3, _)]) C dX10_writeBook_201 (by decide) rfl rfl ?_
      refine v_aload_n (pc2 := 204) C 1 dX10_writeBook_203 rfl rfl ?_
      refine vg_X10_book (pc2 := 207) C lf_X10_51 dX10_writeBook_204 rfl ?_
      refine v_iconst (pc2 := 208) C dX10_writeBook_207 ki_3 rfl ?_
      refine v_dup2 (pc2 := 209) C dX10_writeBook_208 rfl rfl rfl ?_
      refine al50 (pc2 := 210) C (in_lit (by decide +kernel)) dX10_writeBook_209 rfl ?_
      refine v_lload_n (pc2 := 211) C 4 dX10_writeBook_210 rfl rfl ?_
      refine v_lsub (pc2 := 212) C dX10_writeBook_211 rfl ?_
      refine as50 (pc2 := 213) C (in_lit (by decide +kernel)) dX10_writeBook_212 rfl ?_
      refine v_aload_n (pc2 := 214) C 1 dX10_writeBook_213 rfl rfl ?_
      refine vg_X10_book (pc2 := 217) C lf_X10_51 dX10_writeBook_214 rfl ?_
      refine v_iconst (pc2 := 218) C dX10_writeBook_217 ki_4 rfl ?_
      refine v_dup2 (pc2 := 219) C dX10_writeBook_218 rfl rfl rfl ?_
      refine al50 (pc2 := 220) C (in_lit (by decide +kernel)) dX10_writeBook_219 rfl ?_
      refine v_lload (pc2 := 222) C 0 dX10_writeBook_220 rfl rfl ?_
      refine v_ladd (pc2 := 223) C dX10_writeBook_222 rfl ?_
      refine as50 (pc2 := 224) C (in_lit (by decide +kernel)) dX10_writeBook_223 rfl ?_
      refine v_aload_n (pc2 := 225) C 1 dX10_writeBook_224 rfl rfl ?_
      refine vg_X10_book (pc2 := 228) C lf_X10_51 dX10_writeBook_225 rfl ?_
      refine v_iconst (pc2 := 229) C dX10_writeBook_228 ki_5 rfl ?_
      refine v_dup2 (pc2 := 230) C dX10_writeBook_229 rfl rfl rfl ?_
      refine al50 (pc2 := 231) C (in_lit (by decide +kernel)) dX10_writeBook_230 rfl ?_
      refine v_lload_n (pc2 := 232) C 4 dX10_writeBook_231 rfl rfl ?_
      refine v_lload (pc2 := 234) C 0 dX10_writeBook_232 rfl rfl ?_
      refine v_lsub (pc2 := 235) C dX10_writeBook_234 rfl ?_
      refine v_ladd (pc2 := 236) C dX10_writeBook_235 rfl ?_
      refine as50 (pc2 := 237) C (in_lit (by decide +kernel)) dX10_writeBook_236 rfl ?_
      refine v_iinc (pc2 := 240) (lv2 := [(2, _), (5, _), (0, _), (1, _), (3, _)]) C 3 dX10_writeBook_237 rfl ki_1 (by decide) rfl rfl ?_
      refine v_goto (pc2 := 164) C dX10_writeBook_240 rfl ?_
      exact v_lv [2, 3, 0] rfl (ih _ _ (sf_B (sf_B (sf_B (sX10_givesOf hs)))) h3 (hu.step h166 (by rw [lit_4]; decide) (by decide)) hres)
theorem sX10_writeBook_R {a : Int32} : ∀ (n : Nat) (σ : St) (j : Int32), Safe σ → Safe (f10_writeBook_R a n σ j) := by
  intro n
  induction n with
  | zero => intro σ j h; exact h
  | succ n ih =>
    intro σ j h
    rw [f10_writeBook_R]
    split
    · exact h
    · exact ih _ _ (sf_B (sf_B (sf_B (sX10_givesOf h))))
def f10_writeBook_U : Nat → St → Int32 → St
  | 0, σ, _ => (σ)
  | n + 1, σ, j => (if (6 : Int32) ≤ j then σ else (f10_writeBook_U n (uB σ 11 (Int32.toNatClampNeg j) ((gB σ 11 (Int32.toNatClampNeg j)) + (gB σ 10 (Int32.toNatClampNeg j)))) (j + (1 : Int32))))
set_option maxHeartbeats 4000000 in
set_option maxRecDepth 100000 in
theorem bf10_writeBook_U {X : CX} {Λ : LY} (C : OK X Λ cX10_writeBook 7 RX10 8 220) {res : St} (E : EN X Λ none none res)  : ∀ (n : Nat) (σ : St) (j : Int32), (hu : UP 6 j n) → (f10_writeBook_U n σ j) = res → VV X Λ 7 245 [(0, .ref (adr Λ 37)), (2, .int (j))] [] σ := by
  intro n
  induction n with
  | zero => intro σ j hu hres; exact absurd hu (fun h => h.z)
  | succ n ih =>
    intro σ j hu hres
    rw [f10_writeBook_U] at hres
    refine v_iload_n (pc2 := 246) C 1 dX10_writeBook_245 rfl rfl ?_
    refine v_bipush (pc2 := 248) C dX10_writeBook_246 kb_6 rfl ?_
    refine v_icmpge (pc2 := 272) (pc3 := 251) C dX10_writeBook_248 rfl rfl (fun h248 => ?_) (fun h248 => ?_)
    · have hres := (if_pos h248).symm.trans hres
      exact r_vS C E hres dX10_writeBook_272
    · have hres := (if_neg h248).symm.trans hres
      refine v_aload_n (pc2 := 252) C 0 dX10_writeBook_251 rfl rfl ?_
      refine vg_X10_all (pc2 := 255) C lf_X10_55 dX10_writeBook_252 rfl ?_
      refine v_iload_n (pc2 := 256) C 1 dX10_writeBook_255 rfl rfl ?_
      refine v_dup2 (pc2 := 257) C dX10_writeBook_256 rfl rfl rfl ?_
      refine al51 (pc2 := 258) C (hu.in h248 (by rw [lit_6]; decide)) dX10_writeBook_257 rfl ?_
      refine v_aload_n (pc2 := 259) C 0 dX10_writeBook_258 rfl rfl ?_
      refine vg_X10_book (pc2 := 262) C lf_X10_51 dX10_writeBook_259 rfl ?_
      refine v_iload_n (pc2 := 263) C 1 dX10_writeBook_262 rfl rfl ?_
      refine al50 (pc2 := 264) C (in8 (hu.in h248 (by rw [lit_6]; decide))) dX10_writeBook_263 rfl ?_
      refine v_ladd (pc2 := 265) C dX10_writeBook_264 rfl ?_
      refine as51 (pc2 := 266) C (hu.in h248 (by rw [lit_6]; decide)) dX10_writeBook_265 rfl ?_
      refine v_iinc (pc2 := 269) (lv2 := [(2, _), (0, _)]) C 1 dX10_writeBook_266 rfl ki_1 (by decide) rfl rfl ?_
      refine v_goto (pc2 := 245) C dX10_writeBook_269 rfl ?_
      exact v_lv [1, 0] rfl (ih _ _ (hu.step h248 (by rw [lit_6]; decide) (by decide)) hres)
def f10_writeBook (σ : St) (a1 : Int32) : St :=
  (if (f10_isNight (uB (uB (f10_writeBook_P 7 σ (0 : Int32)) 10 (Int32.toNatClampNeg (6 : Int32)) (Int32.toInt64 (gI (f10_writeBook_P 7 σ (0 : Int32)) 23))) 10 (Int32.toNatClampNeg (7 : Int32)) (Int32.toInt64 a1)) a1) = (0 : Int32) then (f10_writeBook_U 7 (f10_writeBook_R a1 5 (f10_writeBook_Q a1 11 (uB (uB (f10_writeBook_P 7 σ (0 : Int32)) 10 (Int32.toNatClampNeg (6 : Int32)) (Int32.toInt64 (gI (f10_writeBook_P 7 σ (0 : Int32)) 23))) 10 (Int32.toNatClampNeg (7 : Int32)) (Int32.toInt64 a1)) (0 : Int32)) (0 : Int32)) (0 : Int32)) else (uB (uB (f10_writeBook_P 7 σ (0 : Int32)) 10 (Int32.toNatClampNeg (6 : Int32)) (Int32.toInt64 (gI (f10_writeBook_P 7 σ (0 : Int32)) 23))) 10 (Int32.toNatClampNeg (7 : Int32)) (Int32.toInt64 a1)))
set_option maxHeartbeats 4000000 in
set_option maxRecDepth 100000 in
theorem bf10_writeBook {X : CX} {Λ : LY} (C : OK X Λ cX10_writeBook 7 RX10 8 220) {res : St} (E : EN X Λ none none res) (σ : St) (a1 : Int32) (hs : Safe σ) (h3 : vp_in a1 24) (hres : (f10_writeBook σ a1) = res) : VV X Λ 7 0 [(0, .ref (adr Λ 37)), (1, .int (a1))] [] σ := by
  unfold f10_writeBook at hres
  refine v_iconst (pc2 := 1) C dX10_writeBook_0 ki_0 rfl ?_
  refine v_istore_n (pc2 := 2) (lv2 := [(2, _), (0, _), (1, _)]) C dX10_writeBook_1 (by decide) rfl rfl ?_
  refine v_lv [1, 2, 0] rfl ?_
  refine bf10_writeBook_P C a1 (out := (f10_writeBook_P 7 σ (0 : Int32))) ?_ 7 σ (0 : Int32) UP.start rfl
  refine v_aload_n (pc2 := 22) C 0 dX10_writeBook_21 rfl rfl ?_
  refine vg_X10_book (pc2 := 25) C lf_X10_51 dX10_writeBook_22 rfl ?_
  refine v_bipush (pc2 := 27) C dX10_writeBook_25 kb_6 rfl ?_
  refine v_aload_n (pc2 := 28) C 0 dX10_writeBook_27 rfl rfl ?_
  refine vg_X10_state (pc2 := 31) C lf_X10_223 dX10_writeBook_28 rfl ?_
  refine v_i2l (pc2 := 32) C dX10_writeBook_31 rfl ?_
  refine as50 (pc2 := 33) C (in_lit (by decide +kernel)) dX10_writeBook_32 rfl ?_
  refine v_aload_n (pc2 := 34) C 0 dX10_writeBook_33 rfl rfl ?_
  refine vg_X10_book (pc2 := 37) C lf_X10_51 dX10_writeBook_34 rfl ?_
  refine v_bipush (pc2 := 39) C dX10_writeBook_37 kb_7 rfl ?_
  refine v_iload_n (pc2 := 40) C 1 dX10_writeBook_39 rfl rfl ?_
  refine v_i2l (pc2 := 41) C dX10_writeBook_40 rfl ?_
  refine as50 (pc2 := 42) C (in_lit (by decide +kernel)) dX10_writeBook_41 rfl ?_
  refine v_aload_n (pc2 := 43) C 0 dX10_writeBook_42 rfl rfl ?_
  refine v_iload_n (pc2 := 44) C 1 dX10_writeBook_43 rfl rfl ?_
  refine v_cVi (pc2 := 47) C kc_X10_185 (mX10_isNight (xl X) Λ _ _ h3) (wd37 Λ _) rfl (by decide) rfl rfl (Nat.le_of_ble_eq_true rfl) dX10_writeBook_44 rfl ?_
  refine v_ifeq (pc2 := 51) (pc3 := 50) C dX10_writeBook_47 rfl rfl (fun h47 => ?_) (fun h47 => ?_)
  · have hres := (if_pos h47).symm.trans hres
    refine v_iconst (pc2 := 52) C dX10_writeBook_51 ki_0 rfl ?_
    refine v_istore_n (pc2 := 53) (lv2 := [(2, _), (0, _), (1, _)]) C dX10_writeBook_52 (by decide) rfl rfl ?_
    refine v_lv [1, 2, 0] rfl ?_
    refine bf10_writeBook_Q C a1 (out := (f10_writeBook_Q a1 11 (uB (uB (f10_writeBook_P 7 σ (0 : Int32)) 10 (Int32.toNatClampNeg (6 : Int32)) (Int32.toInt64 (gI (f10_writeBook_P 7 σ (0 : Int32)) 23))) 10 (Int32.toNatClampNeg (7 : Int32)) (Int32.toInt64 a1)) (0 : Int32))) ?_ 11 (uB (uB (f10_writeBook_P 7 σ (0 : Int32)) 10 (Int32.toNatClampNeg (6 : Int32)) (Int32.toInt64 (gI (f10_writeBook_P 7 σ (0 : Int32)) 23))) 10 (Int32.toNatClampNeg (7 : Int32)) (Int32.toInt64 a1)) (0 : Int32) (sf_B (sf_B (sX10_writeBook_P _ _ _ hs))) h3 UP.start rfl
    refine v_iconst (pc2 := 163) C dX10_writeBook_162 ki_0 rfl ?_
    refine v_istore_n (pc2 := 164) (lv2 := [(2, _), (0, _), (1, _)]) C dX10_writeBook_163 (by decide) rfl rfl ?_
    refine v_lv [1, 2, 0] rfl ?_
    refine bf10_writeBook_R C a1 (out := (f10_writeBook_R a1 5 (f10_writeBook_Q a1 11 (uB (uB (f10_writeBook_P 7 σ (0 : Int32)) 10 (Int32.toNatClampNeg (6 : Int32)) (Int32.toInt64 (gI (f10_writeBook_P 7 σ (0 : Int32)) 23))) 10 (Int32.toNatClampNeg (7 : Int32)) (Int32.toInt64 a1)) (0 : Int32)) (0 : Int32))) ?_ 5 (f10_writeBook_Q a1 11 (uB (uB (f10_writeBook_P 7 σ (0 : Int32)) 10 (Int32.toNatClampNeg (6 : Int32)) (Int32.toInt64 (gI (f10_writeBook_P 7 σ (0 : Int32)) 23))) 10 (Int32.toNatClampNeg (7 : Int32)) (Int32.toInt64 a1)) (0 : Int32)) (0 : Int32) (sX10_writeBook_Q _ _ _ (sf_B (sf_B (sX10_writeBook_P _ _ _ hs)))) h3 UP.start rfl
    refine v_iconst (pc2 := 244) C dX10_writeBook_243 ki_0 rfl ?_
    refine v_istore_n (pc2 := 245) (lv2 := [(2, _), (0, _)]) C dX10_writeBook_244 (by decide) rfl rfl ?_
    exact v_lv [1, 0] rfl (bf10_writeBook_U C E  7 _ _ UP.start  hres)
  · have hres := (if_neg h47).symm.trans hres
    exact r_vS C E hres dX10_writeBook_50
theorem mX10_writeBook (l : Launch) (Λ : LY) (σ : St) (a1 : Int32) (hs : Safe σ) (h3 : vp_in a1 24) : CT l Λ yX10_writeBook cX10_writeBook 7 none 8 220 [.ref (adr Λ 37), .int (a1)] σ none (f10_writeBook σ a1) := by
  refine CT_of (by decide +kernel) (Nat.le_of_ble_eq_true rfl) ?_
  intro X hX C E
  obtain ⟨res, hres⟩ : ∃ r, (f10_writeBook σ a1) = r := ⟨_, rfl⟩
  rw [hres] at E
  exact bf10_writeBook C E _ _  hs h3 hres
theorem sX10_writeBook_U  : ∀ (n : Nat) (σ : St) (j : Int32), Safe σ → Safe (f10_writeBook_U n σ j) := by
  intro n
  induction n with
  | zero => intro σ j h; exact h
  | succ n ih =>
    intro σ j h
    rw [f10_writeBook_U]
    split
    · exact h
    · exact ih _ _ (sf_B h)
theorem sX10_writeBook {σ : St} {a : Int32} (h : Safe σ) : Safe (f10_writeBook σ a) := by
  have h1 : Safe (f10_writeBook_P 7 σ (0 : Int32)) := sX10_writeBook_P _ _ _ h
  unfold f10_writeBook
  split
  · exact sX10_writeBook_U _ _ _ (sX10_writeBook_R _ _ _ (sX10_writeBook_Q _ _ _ (sf_B (sf_B h1))))
  · exact sf_B (sf_B h1)
def f10_hour_L (h : Int32) : Nat → St → Int32 → Int32 × St
  | 0, σ, _ => (0, σ)
  | n + 1, σ, r => (if (gI σ 20) ≤ r then ((gI (uI (uI σ 25 (1 : Int32)) 22 ((h + (1 : Int32)) - (h + (1 : Int32)) / (24 : Int32) * (24 : Int32))) 23), (uI (uI σ 25 (1 : Int32)) 22 ((h + (1 : Int32)) - (h + (1 : Int32)) / (24 : Int32) * (24 : Int32)))) else (if (gI σ 23) = (1 : Int32) then (f10_hour_L h n (uA σ 24 (Int32.toNatClampNeg r) (0 : Int32)) (r + (1 : Int32))) else ((gI (uI (uI σ 25 (1 : Int32)) 22 ((h + (1 : Int32)) - (h + (1 : Int32)) / (24 : Int32) * (24 : Int32))) 23), (uI (uI σ 25 (1 : Int32)) 22 ((h + (1 : Int32)) - (h + (1 : Int32)) / (24 : Int32) * (24 : Int32))))))
set_option maxHeartbeats 4000000 in
set_option maxRecDepth 100000 in
theorem bf10_hour_L {X : CX} {Λ : LY} (C : OK X Λ cX10_hour 3 RX10 9 246) {res : Int32 × St} (E : EN X Λ (some .int) (some (.int res.1)) res.2) (h : Int32)  : ∀ (n : Nat) (σ : St) (r : Int32), (hs : Safe σ) → (hu : UP 10 r n) → (f10_hour_L h n σ r) = res → VV X Λ 3 22 [(0, .ref (adr Λ 37)), (1, .int (h)), (2, .int (r))] [] σ := by
  intro n
  induction n with
  | zero => intro σ r hs hu hres; exact absurd hu (fun h => h.z)
  | succ n ih =>
    intro σ r hs hu hres
    rw [f10_hour_L] at hres
    refine v_iload_n (pc2 := 23) C 2 dX10_hour_22 rfl rfl ?_
    refine v_aload_n (pc2 := 24) C 0 dX10_hour_23 rfl rfl ?_
    refine vg_X10_rows (pc2 := 27) C lf_X10_72 dX10_hour_24 rfl ?_
    refine v_icmpge (pc2 := 51) (pc3 := 30) C dX10_hour_27 rfl rfl (fun h27 => ?_) (fun h27 => ?_)
    · have hres := (if_pos h27).symm.trans hres
      refine v_aload_n (pc2 := 52) C 0 dX10_hour_51 rfl rfl ?_
      refine v_iconst (pc2 := 53) C dX10_hour_52 ki_1 rfl ?_
      refine vp_X10_went (pc2 := 56) C (Or.inr rfl) lf_X10_229 dX10_hour_53 rfl ?_
      refine v_aload_n (pc2 := 57) C 0 dX10_hour_56 rfl rfl ?_
      refine v_iload_n (pc2 := 58) C 1 dX10_hour_57 rfl rfl ?_
      refine v_iconst (pc2 := 59) C dX10_hour_58 ki_1 rfl ?_
      refine v_iadd (pc2 := 60) C dX10_hour_59 rfl ?_
      refine v_bipush (pc2 := 62) C dX10_hour_60 kb_24 rfl ?_
      refine v_irem (pc2 := 63) C dX10_hour_62 (by decide) rfl ?_
      refine vp_X10_nextHour (pc2 := 66) C lf_X10_239 dX10_hour_63 rfl ?_
      refine v_aload_n (pc2 := 67) C 0 dX10_hour_66 rfl rfl ?_
      refine vg_X10_state (pc2 := 70) C lf_X10_223 dX10_hour_67 rfl ?_
      exact r_iS C E hres dX10_hour_70
    · have hres := (if_neg h27).symm.trans hres
      refine v_aload_n (pc2 := 31) C 0 dX10_hour_30 rfl rfl ?_
      refine vg_X10_state (pc2 := 34) C lf_X10_223 dX10_hour_31 rfl ?_
      refine v_iconst (pc2 := 35) C dX10_hour_34 ki_1 rfl ?_
      refine v_icmpne (pc2 := 51) (pc3 := 38) C dX10_hour_35 rfl rfl (fun h35 => ?_) (fun h35 => ?_)
      · have hres := (if_neg h35).symm.trans hres
        refine v_aload_n (pc2 := 52) C 0 dX10_hour_51 rfl rfl ?_
        refine v_iconst (pc2 := 53) C dX10_hour_52 ki_1 rfl ?_
        refine vp_X10_went (pc2 := 56) C (Or.inr rfl) lf_X10_229 dX10_hour_53 rfl ?_
        refine v_aload_n (pc2 := 57) C 0 dX10_hour_56 rfl rfl ?_
        refine v_iload_n (pc2 := 58) C 1 dX10_hour_57 rfl rfl ?_
        refine v_iconst (pc2 := 59) C dX10_hour_58 ki_1 rfl ?_
        refine v_iadd (pc2 := 60) C dX10_hour_59 rfl ?_
        refine v_bipush (pc2 := 62) C dX10_hour_60 kb_24 rfl ?_
        refine v_irem (pc2 := 63) C dX10_hour_62 (by decide) rfl ?_
        refine vp_X10_nextHour (pc2 := 66) C lf_X10_239 dX10_hour_63 rfl ?_
        refine v_aload_n (pc2 := 67) C 0 dX10_hour_66 rfl rfl ?_
        refine vg_X10_state (pc2 := 70) C lf_X10_223 dX10_hour_67 rfl ?_
        exact r_iS C E hres dX10_hour_70
      · have hres := (if_pos h35).symm.trans hres
        refine v_aload_n (pc2 := 39) C 0 dX10_hour_38 rfl rfl ?_
        refine vg_X10_dustOf (pc2 := 42) C lf_X10_22 dX10_hour_39 rfl ?_
        refine v_iload_n (pc2 := 43) C 2 dX10_hour_42 rfl rfl ?_
        refine v_iconst (pc2 := 44) C dX10_hour_43 ki_0 rfl ?_
        refine as42 (pc2 := 45) C (hu.in h27 hs.mrw.2) dX10_hour_44 rfl ?_
        refine v_iinc (pc2 := 48) (lv2 := [(2, _), (0, _), (1, _)]) C 2 dX10_hour_45 rfl ki_1 (by decide) rfl rfl ?_
        refine v_goto (pc2 := 22) C dX10_hour_48 rfl ?_
        exact v_lv [1, 2, 0] rfl (ih _ _ (sf_A (by decide) hs) (hu.step h27 hs.mrw.2 (by decide)) hres)
def f10_hour (σ : St) : Int32 × St :=
  (f10_hour_L (gI σ 22) 11 (f10_writeBook (f10_setSteps (f10_findState σ (gI σ 22)) (gI σ 22)) (gI σ 22)) (0 : Int32))
set_option maxHeartbeats 4000000 in
set_option maxRecDepth 100000 in
theorem bf10_hour {X : CX} {Λ : LY} (C : OK X Λ cX10_hour 3 RX10 9 246) {res : Int32 × St} (E : EN X Λ (some .int) (some (.int res.1)) res.2) (σ : St) (hs : Safe σ) (hres : (f10_hour σ) = res) : VV X Λ 3 0 [(0, .ref (adr Λ 37))] [] σ := by
  unfold f10_hour at hres
  have h3 : vp_in (gI σ 22) 24 := vin hs.mnh.1 (by have := hs.mnh.2; omega)
  refine v_aload_n (pc2 := 1) C 0 dX10_hour_0 rfl rfl ?_
  refine vg_X10_nextHour (pc2 := 4) C lf_X10_239 dX10_hour_1 rfl ?_
  refine v_istore_n (pc2 := 5) (lv2 := [(1, _), (0, _)]) C dX10_hour_4 (by decide) rfl rfl ?_
  refine v_aload_n (pc2 := 6) C 1 dX10_hour_5 rfl rfl ?_
  refine v_iload_n (pc2 := 7) C 0 dX10_hour_6 rfl rfl ?_
  refine v_cVv (pc2 := 10) C kc_X10_242 (mX10_findState (xl X) Λ _ _ h3) (wd37 Λ _) rfl (by decide) rfl rfl (Nat.le_of_ble_eq_true rfl) dX10_hour_7 rfl ?_
  refine v_aload_n (pc2 := 11) C 1 dX10_hour_10 rfl rfl ?_
  refine v_iload_n (pc2 := 12) C 0 dX10_hour_11 rfl rfl ?_
  refine v_cVv (pc2 := 15) C kc_X10_246 (mX10_setSteps (xl X) Λ _ _ (sX10_findState hs) h3) (wd37 Λ _) rfl (by decide) rfl rfl (Nat.le_of_ble_eq_true rfl) dX10_hour_12 rfl ?_
  refine v_aload_n (pc2 := 16) C 1 dX10_hour_15 rfl rfl ?_
  refine v_iload_n (pc2 := 17) C 0 dX10_hour_16 rfl rfl ?_
  refine v_cVv (pc2 := 20) C kc_X10_249 (mX10_writeBook (xl X) Λ _ _ (sX10_setSteps (sX10_findState hs)) h3) (wd37 Λ _) rfl (by decide) rfl rfl (Nat.le_of_ble_eq_true rfl) dX10_hour_17 rfl ?_
  refine v_iconst (pc2 := 21) C dX10_hour_20 ki_0 rfl ?_
  refine v_istore_n (pc2 := 22) (lv2 := [(2, _), (1, _), (0, _)]) C dX10_hour_21 (by decide) rfl rfl ?_
  exact v_lv [2, 1, 0] rfl (bf10_hour_L C E _ 11 _ _ (sX10_writeBook (sX10_setSteps (sX10_findState hs))) UP.start  hres)
theorem mX10_hour (l : Launch) (Λ : LY) (σ : St) (hs : Safe σ) : CT l Λ yX10_hour cX10_hour 3 (some .int) 9 246 [.ref (adr Λ 37)] σ (some (.int (f10_hour σ).1)) (f10_hour σ).2 := by
  refine CT_of (by decide +kernel) (Nat.le_of_ble_eq_true rfl) ?_
  intro X hX C E
  obtain ⟨res, hres⟩ : ∃ r, (f10_hour σ) = r := ⟨_, rfl⟩
  rw [hres] at E
  exact bf10_hour C E _  hs hres
theorem sX10_hour_L {h : Int32} (hh : vp_in h 24) : ∀ (n : Nat) (σ : St) (r : Int32), Safe σ → Safe (f10_hour_L h n σ r).2 := by
  intro n
  induction n with
  | zero => intro σ r hs; exact hs
  | succ n ih =>
    intro σ r hs
    have e := sf_I22 (nh_rg hh) (sf_I (k := 25) (v := (1 : Int32)) (by decide) hs)
    rw [f10_hour_L]
    split
    · exact e
    · split
      · exact ih _ _ (sf_A (by decide) hs)
      · exact e
theorem sX10_hour {σ : St} (hs : Safe σ) : Safe (f10_hour σ).2 :=
  sX10_hour_L (vin hs.mnh.1 (by have := hs.mnh.2; omega)) _ _ _ (sX10_writeBook (sX10_setSteps (sX10_findState hs)))
def f10_hours_L (a1 : Int32) : Nat → St → Int64 → Int32 → Int64 × St
  | 0, σ, _, _ => (0, σ)
  | n + 1, σ, s, k => (if a1 ≤ k then (s, σ) else (f10_hours_L a1 n ((f10_hour σ).2) (s + (gB ((f10_hour σ).2) 10 (Int32.toNatClampNeg (5 : Int32)))) (k + (1 : Int32))))
set_option maxHeartbeats 4000000 in
set_option maxRecDepth 100000 in
theorem bf10_hours_L {X : CX} {Λ : LY} (C : OK X Λ cX10_hours 6 RX10 10 268) {res : Int64 × St} (E : EN X Λ (some .long) (some (.long res.1)) res.2) (a1 : Int32)  : ∀ (n : Nat) (σ : St) (s : Int64) (k : Int32), (hs : Safe σ) → (ha : a1.toInt ≤ 48) → (hu : UP 48 k n) → (f10_hours_L a1 n σ s k) = res → VV X Λ 6 23 [(0, .ref (adr Λ 37)), (1, .int (a1)), (2, .long (s)), (4, .int (k))] [] σ := by
  intro n
  induction n with
  | zero => intro σ s k hs ha hu hres; exact absurd hu (fun h => h.z)
  | succ n ih =>
    intro σ s k hs ha hu hres
    rw [f10_hours_L] at hres
    refine v_iload (pc2 := 25) C 3 dX10_hours_23 rfl rfl ?_
    refine v_iload_n (pc2 := 26) C 1 dX10_hours_25 rfl rfl ?_
    refine v_icmpge (pc2 := 50) (pc3 := 29) C dX10_hours_26 rfl rfl (fun h26 => ?_) (fun h26 => ?_)
    · have hres := (if_pos h26).symm.trans hres
      refine v_lload_n (pc2 := 51) C 2 dX10_hours_50 rfl rfl ?_
      exact r_lS C E hres dX10_hours_51
    · have hres := (if_neg h26).symm.trans hres
      refine v_aload_n (pc2 := 30) C 0 dX10_hours_29 rfl rfl ?_
      refine v_cVi (pc2 := 33) C kc_X10_252 (mX10_hour (xl X) Λ _ hs) (wd37 Λ _) rfl (by decide) rfl rfl (Nat.le_of_ble_eq_true rfl) dX10_hours_30 rfl ?_
      refine v_istore (pc2 := 35) (lv2 := [(5, _), (0, _), (1, _), (2, _), (4, _)]) C dX10_hours_33 (by decide) rfl rfl ?_
      refine v_lload_n (pc2 := 36) C 3 dX10_hours_35 rfl rfl ?_
      refine v_aload_n (pc2 := 37) C 1 dX10_hours_36 rfl rfl ?_
      refine vg_X10_book (pc2 := 40) C lf_X10_51 dX10_hours_37 rfl ?_
      refine v_iconst (pc2 := 41) C dX10_hours_40 ki_5 rfl ?_
      refine al50 (pc2 := 42) C (in_lit (by decide +kernel)) dX10_hours_41 rfl ?_
      refine v_ladd (pc2 := 43) C dX10_hours_42 rfl ?_
      refine v_lstore_n (pc2 := 44) (lv2 := [(2, _), (5, _), (0, _), (1, _), (4, _)]) C dX10_hours_43 (by decide) rfl rfl ?_
      refine v_iinc (pc2 := 47) (lv2 := [(4, _), (2, _), (5, _), (0, _), (1, _)]) C 4 dX10_hours_44 rfl ki_1 (by decide) rfl rfl ?_
      refine v_goto (pc2 := 23) C dX10_hours_47 rfl ?_
      exact v_lv [3, 4, 1, 0] rfl (ih _ _ _ (sX10_hour hs) ha (hu.step h26 ha (by decide)) hres)
def f10_hours (σ : St) (a1 : Int32) : Int64 × St :=
  (if (f10_in a1 (1 : Int32) (48 : Int32)) = (0 : Int32) then ((Int32.toInt64 ((f10_finding σ (-1000000001 : Int32)).1)), ((f10_finding σ (-1000000001 : Int32)).2)) else (f10_hours_L a1 49 σ (0 : Int64) (0 : Int32)))
set_option maxHeartbeats 4000000 in
set_option maxRecDepth 100000 in
theorem bf10_hours {X : CX} {Λ : LY} (C : OK X Λ cX10_hours 6 RX10 10 268) {res : Int64 × St} (E : EN X Λ (some .long) (some (.long res.1)) res.2) (σ : St) (a1 : Int32) (hs : Safe σ) (hres : (f10_hours σ a1) = res) : VV X Λ 6 0 [(0, .ref (adr Λ 37)), (1, .int (a1))] [] σ := by
  unfold f10_hours at hres
  refine v_iload_n (pc2 := 1) C 1 dX10_hours_0 rfl rfl ?_
  refine v_iconst (pc2 := 2) C dX10_hours_1 ki_1 rfl ?_
  refine v_bipush (pc2 := 4) C dX10_hours_2 kb_48 rfl ?_
  refine v_cSi (pc2 := 7) C kc_X10_75 (mX10_in (xl X) Λ _ _ _ _) (by decide) rfl rfl (Nat.le_of_ble_eq_true rfl) dX10_hours_4 rfl ?_
  refine v_ifne (pc2 := 18) (pc3 := 10) C dX10_hours_7 rfl rfl (fun h7 => ?_) (fun h7 => ?_)
  · have hres := (if_neg h7).symm.trans hres
    refine v_lconst (pc2 := 19) C dX10_hours_18 kl_0 rfl ?_
    refine v_lstore_n (pc2 := 20) (lv2 := [(2, _), (0, _), (1, _)]) C dX10_hours_19 (by decide) rfl rfl ?_
    refine v_iconst (pc2 := 21) C dX10_hours_20 ki_0 rfl ?_
    refine v_istore (pc2 := 23) (lv2 := [(4, _), (2, _), (0, _), (1, _)]) C dX10_hours_21 (by decide) rfl rfl ?_
    exact v_lv [2, 3, 1, 0] rfl (bf10_hours_L C E _ 49 _ _ _ hs (by have := (mi_t h7).2; rw [lit_48] at this; exact this) UP.start  hres)
  · have hres := (if_pos h7).symm.trans hres
    refine v_aload_n (pc2 := 11) C 0 dX10_hours_10 rfl rfl ?_
    refine v_ldc (pc2 := 13) C lc_X10_119 dX10_hours_11 rfl ?_
    refine v_cVi (pc2 := 16) C kc_X10_120 (mX10_finding (xl X) Λ _ _ am1) (wd37 Λ _) rfl (by decide) rfl rfl (Nat.le_of_ble_eq_true rfl) dX10_hours_13 rfl ?_
    refine v_i2l (pc2 := 17) C dX10_hours_16 rfl ?_
    exact r_lS C E hres dX10_hours_17
theorem mX10_hours (l : Launch) (Λ : LY) (σ : St) (a1 : Int32) (hs : Safe σ) : CT l Λ yX10_hours cX10_hours 6 (some .long) 10 268 [.ref (adr Λ 37), .int (a1)] σ (some (.long (f10_hours σ a1).1)) (f10_hours σ a1).2 := by
  refine CT_of (by decide +kernel) (Nat.le_of_ble_eq_true rfl) ?_
  intro X hX C E
  obtain ⟨res, hres⟩ : ∃ r, (f10_hours σ a1) = r := ⟨_, rfl⟩
  rw [hres] at E
  exact bf10_hours C E _ _  hs hres
theorem shl_le {x : Int32} (h : 0 ≤ x.toInt ∧ x.toInt ≤ 10) : ((1 : Int32) <<< (x &&& 31)).toInt ≤ 1024 := by
  obtain ⟨j, hj, rfl⟩ := vp_in_of (vin h.1 (by omega : x.toInt < (11 : Nat))) (by decide)
  have : ∀ j : Nat, j < 11 → ((1 : Int32) <<< (nI j &&& 31)).toInt ≤ 1024 := by decide +kernel
  exact this j hj
theorem set_step {σ : St} {set : Int32} {n : Nat} (hs : Safe σ) (hq : 1 ≤ set.toInt ∧ set.toInt ≤ 1024 ∧ 1025 ≤ set.toInt + ((n + 1 : Nat) : Int)) (h : ¬ (1 : Int32) <<< (gI σ 20 &&& 31) ≤ set) : 1 ≤ (set + (1 : Int32)).toInt ∧ (set + (1 : Int32)).toInt ≤ 1024 ∧ 1025 ≤ (set + (1 : Int32)).toInt + (n : Int) := by
  have h1 := t_nle h rfl rfl
  have h2 := shl_le hs.mrw
  rw [i_add1 (b := 1024) (by omega) (by omega)]
  omega
def f10_bestWorth_fs (fi : Int32) (r : Int32) : Int32 :=
  (if (0 : Int32) ≤ fi then fi else r)
set_option maxHeartbeats 4000000 in
set_option maxRecDepth 100000 in
theorem bf10_bestWorth_fs {X : CX} {Λ : LY} (C : OK X Λ cX10_bestWorth 11 RX10 0 0) (σ : St) {out : Int32} (a1 : Int32) (a2 : Int32) (be : Int64) (set : Int32) (wo : Int64) (fi : Int32) (la : Int32) (r : Int32) (kk : VV X Λ 11 93 [(0, .ref (adr Λ 37)), (1, .int (a1)), (2, .int (a2)), (3, .long (be)), (5, .int (set)), (6, .long (wo)), (8, .int (fi)), (9, .int (la)), (10, .int (r))] [.int (out)] (σ))  (hres : (f10_bestWorth_fs fi r) = out) : VV X Λ 11 81 [(0, .ref (adr Λ 37)), (1, .int (a1)), (2, .int (a2)), (3, .long (be)), (5, .int (set)), (6, .long (wo)), (8, .int (fi)), (9, .int (la)), (10, .int (r))] [] σ := by
  unfold f10_bestWorth_fs at hres
  refine v_iload (pc2 := 83) C 6 dX10_bestWorth_81 rfl rfl ?_
  refine v_ifge (pc2 := 91) (pc3 := 86) C dX10_bestWorth_83 rfl rfl (fun h83 => ?_) (fun h83 => ?_)
  · have hres := (if_pos h83).symm.trans hres
    refine v_iload (pc2 := 93) C 6 dX10_bestWorth_91 rfl rfl ?_
    subst hres
    exact v_lv [0, 1, 2, 3, 4, 5, 6, 7, 8] rfl kk
  · have hres := (if_neg h83).symm.trans hres
    refine v_iload (pc2 := 88) C 8 dX10_bestWorth_86 rfl rfl ?_
    refine v_goto (pc2 := 93) C dX10_bestWorth_88 rfl ?_
    subst hres
    exact v_lv [0, 1, 2, 3, 4, 5, 6, 7, 8] rfl kk
def f10_bestWorth_I (σ : St) (a1 : Int32) (a2 : Int32) (set : Int32) : Nat → Int64 → Int32 → Int32 → Int32 → Int64 × Int32 × Int32
  | 0, wo, fi, la, _ => (wo, fi, la)
  | n + 1, wo, fi, la, r => (if (gI σ 20) ≤ r then (wo, fi, la) else (if ((set >>> (r &&& 31)) &&& (1 : Int32)) = (1 : Int32) then (f10_bestWorth_I σ a1 a2 set n (wo + ((((Int32.toInt64 (gA σ 24 (Int32.toNatClampNeg r))) * (Int32.toInt64 (gA σ 23 (Int32.toNatClampNeg r)))) * (Int32.toInt64 a1)) - (Int32.toInt64 a2))) (f10_bestWorth_fs fi r) r (r + (1 : Int32))) else (f10_bestWorth_I σ a1 a2 set n wo fi la (r + (1 : Int32)))))
set_option maxHeartbeats 4000000 in
set_option maxRecDepth 100000 in
theorem bf10_bestWorth_I {X : CX} {Λ : LY} (C : OK X Λ cX10_bestWorth 11 RX10 0 0) (σ : St) {out : Int64 × Int32 × Int32} (a1 : Int32) (a2 : Int32) (be : Int64) (set : Int32) (kk : VV X Λ 11 105 [(0, .ref (adr Λ 37)), (1, .int (a1)), (2, .int (a2)), (3, .long (be)), (5, .int (set)), (6, .long ((out).1)), (8, .int ((out).2.1)), (9, .int ((out).2.2))] [] (σ)) : ∀ (n : Nat) (wo : Int64) (fi : Int32) (la : Int32) (r : Int32), (hs : Safe σ) → (hu : UP 10 r n) → (f10_bestWorth_I σ a1 a2 set n wo fi la r) = out → VV X Λ 11 33 [(0, .ref (adr Λ 37)), (1, .int (a1)), (2, .int (a2)), (3, .long (be)), (5, .int (set)), (6, .long (wo)), (8, .int (fi)), (9, .int (la)), (10, .int (r))] [] σ := by
  intro n
  induction n with
  | zero => intro wo fi la r hs hu hres; exact absurd hu (fun h => h.z)
  | succ n ih =>
    intro wo fi la r hs hu hres
    rw [f10_bestWorth_I] at hres
    refine v_iload (pc2 := 35) C 8 dX10_bestWorth_33 rfl rfl ?_
    refine v_aload_n (pc2 := 36) C 0 dX10_bestWorth_35 rfl rfl ?_
    refine vg_X10_rows (pc2 := 39) C lf_X10_72 dX10_bestWorth_36 rfl ?_
    refine v_icmpge (pc2 := 105) (pc3 := 42) C dX10_bestWorth_39 rfl rfl (fun h39 => ?_) (fun h39 => ?_)
    · have hres := (if_pos h39).symm.trans hres
      subst hres
      exact v_lv [0, 1, 2, 3, 4, 5, 6, 7] rfl kk
    · have hres := (if_neg h39).symm.trans hres
      refine v_iload (pc2 := 44) C 4 dX10_bestWorth_42 rfl rfl ?_
      refine v_iload (pc2 := 46) C 8 dX10_bestWorth_44 rfl rfl ?_
      refine v_ishr (pc2 := 47) C dX10_bestWorth_46 rfl ?_
      refine v_iconst (pc2 := 48) C dX10_bestWorth_47 ki_1 rfl ?_
      refine v_iand (pc2 := 49) C dX10_bestWorth_48 rfl ?_
      refine v_iconst (pc2 := 50) C dX10_bestWorth_49 ki_1 rfl ?_
      refine v_icmpne (pc2 := 99) (pc3 := 53) C dX10_bestWorth_50 rfl rfl (fun h50 => ?_) (fun h50 => ?_)
      · have hres := (if_neg h50).symm.trans hres
        refine v_iinc (pc2 := 102) (lv2 := [(10, _), (0, _), (1, _), (2, _), (3, _), (5, _), (6, _), (8, _), (9, _)]) C 8 dX10_bestWorth_99 rfl ki_1 (by decide) rfl rfl ?_
        refine v_goto (pc2 := 33) C dX10_bestWorth_102 rfl ?_
        exact v_lv [1, 2, 3, 4, 5, 6, 7, 8, 0] rfl (ih _ _ _ _ hs (hu.step h39 hs.mrw.2 (by decide)) hres)
      · have hres := (if_pos h50).symm.trans hres
        refine v_lload (pc2 := 55) C 5 dX10_bestWorth_53 rfl rfl ?_
        refine v_aload_n (pc2 := 56) C 0 dX10_bestWorth_55 rfl rfl ?_
        refine vg_X10_dustOf (pc2 := 59) C lf_X10_22 dX10_bestWorth_56 rfl ?_
        refine v_iload (pc2 := 61) C 8 dX10_bestWorth_59 rfl rfl ?_
        refine al42 (pc2 := 62) C (hu.in h39 hs.mrw.2) dX10_bestWorth_61 rfl ?_
        refine v_i2l (pc2 := 63) C dX10_bestWorth_62 rfl ?_
        refine v_aload_n (pc2 := 64) C 0 dX10_bestWorth_63 rfl rfl ?_
        refine vg_X10_widthOf (pc2 := 67) C lf_X10_19 dX10_bestWorth_64 rfl ?_
        refine v_iload (pc2 := 69) C 8 dX10_bestWorth_67 rfl rfl ?_
        refine al41 (pc2 := 70) C (hu.in h39 hs.mrw.2) dX10_bestWorth_69 rfl ?_
        refine v_i2l (pc2 := 71) C dX10_bestWorth_70 rfl ?_
        refine v_lmul (pc2 := 72) C dX10_bestWorth_71 rfl ?_
        refine v_iload_n (pc2 := 73) C 1 dX10_bestWorth_72 rfl rfl ?_
        refine v_i2l (pc2 := 74) C dX10_bestWorth_73 rfl ?_
        refine v_lmul (pc2 := 75) C dX10_bestWorth_74 rfl ?_
        refine v_iload_n (pc2 := 76) C 2 dX10_bestWorth_75 rfl rfl ?_
        refine v_i2l (pc2 := 77) C dX10_bestWorth_76 rfl ?_
        refine v_lsub (pc2 := 78) C dX10_bestWorth_77 rfl ?_
        refine v_ladd (pc2 := 79) C dX10_bestWorth_78 rfl ?_
        refine v_lstore (pc2 := 81) (lv2 := [(6, _), (0, _), (1, _), (2, _), (3, _), (5, _), (8, _), (9, _), (10, _)]) C dX10_bestWorth_79 (by decide) rfl rfl ?_
        refine v_lv [1, 2, 3, 4, 5, 0, 6, 7, 8] rfl ?_
        refine bf10_bestWorth_fs C σ a1 a2 be set (wo + ((((Int32.toInt64 (gA σ 24 (Int32.toNatClampNeg r))) * (Int32.toInt64 (gA σ 23 (Int32.toNatClampNeg r)))) * (Int32.toInt64 a1)) - (Int32.toInt64 a2))) fi la r (out := (f10_bestWorth_fs fi r)) ?_   rfl
        refine v_istore (pc2 := 95) (lv2 := [(8, _), (0, _), (1, _), (2, _), (3, _), (5, _), (6, _), (9, _), (10, _)]) C dX10_bestWorth_93 (by decide) rfl rfl ?_
        refine v_iload (pc2 := 97) C 8 dX10_bestWorth_95 rfl rfl ?_
        refine v_istore (pc2 := 99) (lv2 := [(9, _), (8, _), (0, _), (1, _), (2, _), (3, _), (5, _), (6, _), (10, _)]) C dX10_bestWorth_97 (by decide) rfl rfl ?_
        refine v_iinc (pc2 := 102) (lv2 := [(10, _), (9, _), (8, _), (0, _), (1, _), (2, _), (3, _), (5, _), (6, _)]) C 8 dX10_bestWorth_99 rfl ki_1 (by decide) rfl rfl ?_
        refine v_goto (pc2 := 33) C dX10_bestWorth_102 rfl ?_
        exact v_lv [3, 4, 5, 6, 7, 8, 2, 1, 0] rfl (ih _ _ _ _ hs (hu.step h39 hs.mrw.2 (by decide)) hres)
def f10_bestWorth_L (a1 : Int32) (a2 : Int32) : Nat → St → Int64 → Int32 → Int64 × St
  | 0, σ, _, _ => (0, σ)
  | n + 1, σ, be, set => (if ((1 : Int32) <<< ((gI σ 20) &&& 31)) ≤ set then (be, σ) else (if (((f10_bestWorth_I σ a1 a2 set 11 (0 : Int64) (-1 : Int32) (-1 : Int32) (0 : Int32))).1 - ((10 : Int64) * (Int32.toInt64 ((((f10_bestWorth_I σ a1 a2 set 11 (0 : Int64) (-1 : Int32) (-1 : Int32) (0 : Int32))).2.2 - ((f10_bestWorth_I σ a1 a2 set 11 (0 : Int64) (-1 : Int32) (-1 : Int32) (0 : Int32))).2.1) + (1 : Int32))))) ≤ be then (f10_bestWorth_L a1 a2 n σ be (set + (1 : Int32))) else (f10_bestWorth_L a1 a2 n (uI σ 30 set) (((f10_bestWorth_I σ a1 a2 set 11 (0 : Int64) (-1 : Int32) (-1 : Int32) (0 : Int32))).1 - ((10 : Int64) * (Int32.toInt64 ((((f10_bestWorth_I σ a1 a2 set 11 (0 : Int64) (-1 : Int32) (-1 : Int32) (0 : Int32))).2.2 - ((f10_bestWorth_I σ a1 a2 set 11 (0 : Int64) (-1 : Int32) (-1 : Int32) (0 : Int32))).2.1) + (1 : Int32))))) (set + (1 : Int32)))))
set_option maxHeartbeats 4000000 in
set_option maxRecDepth 100000 in
theorem bf10_bestWorth_L {X : CX} {Λ : LY} (C : OK X Λ cX10_bestWorth 11 RX10 0 0) {res : Int64 × St} (E : EN X Λ (some .long) (some (.long res.1)) res.2) (a1 : Int32) (a2 : Int32)  : ∀ (n : Nat) (σ : St) (be : Int64) (set : Int32), (hs : Safe σ) → (hq : 1 ≤ set.toInt ∧ set.toInt ≤ 1024 ∧ 1025 ≤ set.toInt + n) → (f10_bestWorth_L a1 a2 n σ be set) = res → VV X Λ 11 10 [(0, .ref (adr Λ 37)), (1, .int (a1)), (2, .int (a2)), (3, .long (be)), (5, .int (set))] [] σ := by
  intro n
  induction n with
  | zero => intro σ be set hs hq hres; exact absurd hq (by omega)
  | succ n ih =>
    intro σ be set hs hq hres
    rw [f10_bestWorth_L] at hres
    refine v_iload (pc2 := 12) C 4 dX10_bestWorth_10 rfl rfl ?_
    refine v_iconst (pc2 := 13) C dX10_bestWorth_12 ki_1 rfl ?_
    refine v_aload_n (pc2 := 14) C 0 dX10_bestWorth_13 rfl rfl ?_
    refine vg_X10_rows (pc2 := 17) C lf_X10_72 dX10_bestWorth_14 rfl ?_
    refine v_ishl (pc2 := 18) C dX10_bestWorth_17 rfl ?_
    refine v_icmpge (pc2 := 144) (pc3 := 21) C dX10_bestWorth_18 rfl rfl (fun h18 => ?_) (fun h18 => ?_)
    · have hres := (if_pos h18).symm.trans hres
      refine v_lload_n (pc2 := 145) C 3 dX10_bestWorth_144 rfl rfl ?_
      exact r_lS C E hres dX10_bestWorth_145
    · have hres := (if_neg h18).symm.trans hres
      refine v_lconst (pc2 := 22) C dX10_bestWorth_21 kl_0 rfl ?_
      refine v_lstore (pc2 := 24) (lv2 := [(6, _), (0, _), (1, _), (2, _), (3, _), (5, _)]) C dX10_bestWorth_22 (by decide) rfl rfl ?_
      refine v_iconst (pc2 := 25) C dX10_bestWorth_24 ki_m1 rfl ?_
      refine v_istore (pc2 := 27) (lv2 := [(8, _), (6, _), (0, _), (1, _), (2, _), (3, _), (5, _)]) C dX10_bestWorth_25 (by decide) rfl rfl ?_
      refine v_iconst (pc2 := 28) C dX10_bestWorth_27 ki_m1 rfl ?_
      refine v_istore (pc2 := 30) (lv2 := [(9, _), (8, _), (6, _), (0, _), (1, _), (2, _), (3, _), (5, _)]) C dX10_bestWorth_28 (by decide) rfl rfl ?_
      refine v_iconst (pc2 := 31) C dX10_bestWorth_30 ki_0 rfl ?_
      refine v_istore (pc2 := 33) (lv2 := [(10, _), (9, _), (8, _), (6, _), (0, _), (1, _), (2, _), (3, _), (5, _)]) C dX10_bestWorth_31 (by decide) rfl rfl ?_
      refine v_lv [4, 5, 6, 7, 8, 3, 2, 1, 0] rfl ?_
      refine bf10_bestWorth_I C σ a1 a2 be set (out := (f10_bestWorth_I σ a1 a2 set 11 (0 : Int64) (-1 : Int32) (-1 : Int32) (0 : Int32))) ?_ 11 (0 : Int64) (-1 : Int32) (-1 : Int32) (0 : Int32) hs UP.start rfl
      refine v_lload (pc2 := 107) C 5 dX10_bestWorth_105 rfl rfl ?_
      refine v_ldc2 (pc2 := 110) C lc_X10_259 dX10_bestWorth_107 rfl ?_
      refine v_iload (pc2 := 112) C 7 dX10_bestWorth_110 rfl rfl ?_
      refine v_iload (pc2 := 114) C 6 dX10_bestWorth_112 rfl rfl ?_
      refine v_isub (pc2 := 115) C dX10_bestWorth_114 rfl ?_
      refine v_iconst (pc2 := 116) C dX10_bestWorth_115 ki_1 rfl ?_
      refine v_iadd (pc2 := 117) C dX10_bestWorth_116 rfl ?_
      refine v_i2l (pc2 := 118) C dX10_bestWorth_117 rfl ?_
      refine v_lmul (pc2 := 119) C dX10_bestWorth_118 rfl ?_
      refine v_lsub (pc2 := 120) C dX10_bestWorth_119 rfl ?_
      refine v_lstore (pc2 := 122) (lv2 := [(6, _), (0, _), (1, _), (2, _), (3, _), (5, _), (8, _), (9, _)]) C dX10_bestWorth_120 (by decide) rfl rfl ?_
      refine v_lload (pc2 := 124) C 0 dX10_bestWorth_122 rfl rfl ?_
      refine v_lload_n (pc2 := 125) C 4 dX10_bestWorth_124 rfl rfl ?_
      refine v_lcle (pc2 := 138) (pc3 := 129) C dX10_bestWorth_125 dX10_bestWorth_126 rfl rfl (fun h125 => ?_) (fun h125 => ?_)
      · have hres := (if_pos h125).symm.trans hres
        refine v_iinc (pc2 := 141) (lv2 := [(5, _), (6, _), (0, _), (1, _), (2, _), (3, _), (8, _), (9, _)]) C 5 dX10_bestWorth_138 rfl ki_1 (by decide) rfl rfl ?_
        refine v_goto (pc2 := 10) C dX10_bestWorth_141 rfl ?_
        exact v_lv [2, 3, 4, 5, 0] rfl (ih _ _ _ hs (set_step hs hq h18) hres)
      · have hres := (if_neg h125).symm.trans hres
        refine v_lload (pc2 := 131) C 0 dX10_bestWorth_129 rfl rfl ?_
        refine v_lstore_n (pc2 := 132) (lv2 := [(3, _), (6, _), (0, _), (1, _), (2, _), (5, _), (8, _), (9, _)]) C dX10_bestWorth_131 (by decide) rfl rfl ?_
        refine v_aload_n (pc2 := 133) C 2 dX10_bestWorth_132 rfl rfl ?_
        refine v_iload (pc2 := 135) C 5 dX10_bestWorth_133 rfl rfl ?_
        refine vp_X10_bestSet (pc2 := 138) C lf_X10_256 dX10_bestWorth_135 rfl ?_
        refine v_iinc (pc2 := 141) (lv2 := [(5, _), (3, _), (6, _), (0, _), (1, _), (2, _), (8, _), (9, _)]) C 5 dX10_bestWorth_138 rfl ki_1 (by decide) rfl rfl ?_
        refine v_goto (pc2 := 10) C dX10_bestWorth_141 rfl ?_
        exact v_lv [3, 4, 5, 1, 0] rfl (ih _ _ _ (sf_I (by decide) hs) (set_step hs hq h18) hres)
def f10_bestWorth (σ : St) (a1 : Int32) (a2 : Int32) : Int64 × St :=
  (f10_bestWorth_L a1 a2 1024 (uI σ 30 (0 : Int32)) (0 : Int64) (1 : Int32))
set_option maxHeartbeats 4000000 in
set_option maxRecDepth 100000 in
theorem bf10_bestWorth {X : CX} {Λ : LY} (C : OK X Λ cX10_bestWorth 11 RX10 0 0) {res : Int64 × St} (E : EN X Λ (some .long) (some (.long res.1)) res.2) (σ : St) (a1 : Int32) (a2 : Int32) (hs : Safe σ) (hres : (f10_bestWorth σ a1 a2) = res) : VV X Λ 11 0 [(0, .ref (adr Λ 37)), (1, .int (a1)), (2, .int (a2))] [] σ := by
  unfold f10_bestWorth at hres
  refine v_lconst (pc2 := 1) C dX10_bestWorth_0 kl_0 rfl ?_
  refine v_lstore_n (pc2 := 2) (lv2 := [(3, _), (0, _), (1, _), (2, _)]) C dX10_bestWorth_1 (by decide) rfl rfl ?_
  refine v_aload_n (pc2 := 3) C 1 dX10_bestWorth_2 rfl rfl ?_
  refine v_iconst (pc2 := 4) C dX10_bestWorth_3 ki_0 rfl ?_
  refine vp_X10_bestSet (pc2 := 7) C lf_X10_256 dX10_bestWorth_4 rfl ?_
  refine v_iconst (pc2 := 8) C dX10_bestWorth_7 ki_1 rfl ?_
  refine v_istore (pc2 := 10) (lv2 := [(5, _), (3, _), (0, _), (1, _), (2, _)]) C dX10_bestWorth_8 (by decide) rfl rfl ?_
  exact v_lv [2, 3, 4, 1, 0] rfl (bf10_bestWorth_L C E _ _ 1024 _ _ _ (sf_I (by decide) hs) (by rw [lit_1]; decide)  hres)
theorem mX10_bestWorth (l : Launch) (Λ : LY) (σ : St) (a1 : Int32) (a2 : Int32) (hs : Safe σ) : CT l Λ yX10_bestWorth cX10_bestWorth 11 (some .long) 0 0 [.ref (adr Λ 37), .int (a1), .int (a2)] σ (some (.long (f10_bestWorth σ a1 a2).1)) (f10_bestWorth σ a1 a2).2 := by
  refine CT_of (by decide +kernel) (Nat.le_of_ble_eq_true rfl) ?_
  intro X hX C E
  obtain ⟨res, hres⟩ : ∃ r, (f10_bestWorth σ a1 a2) = r := ⟨_, rfl⟩
  rw [hres] at E
  exact bf10_bestWorth C E _ _ _  hs hres
theorem sX10_bestWorth_L {a b : Int32} : ∀ (n : Nat) (σ : St) (be : Int64) (set : Int32), Safe σ → Safe (f10_bestWorth_L a b n σ be set).2 := by
  intro n
  induction n with
  | zero => intro σ be set h; exact h
  | succ n ih =>
    intro σ be set h
    rw [f10_bestWorth_L]
    split
    · exact h
    · split
      · exact ih _ _ _ h
      · exact ih _ _ _ (sf_I (by decide) h)
theorem sX10_bestWorth {σ : St} {a b : Int32} (h : Safe σ) : Safe (f10_bestWorth σ a b).2 := sX10_bestWorth_L _ _ _ _ (sf_I (by decide) h)
