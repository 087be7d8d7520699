/-! the hour -/
def kI (k : Nat) : Bool := k != 3 && k != 4 && k != 13
def kB (k : Nat) : Bool := k != 0 && k != 1 && k != 2 && k != 3 && k != 4 && k != 5 && k != 6 && k != 7
def uCI (k : Nat) : Bool := k != 0 && k != 1 && k != 3 && k != 4 && k != 6 && k != 7 && k != 8 && k != 9 && k != 10 && k != 13
def uCA (k : Nat) : Bool := k != 1 && k != 5 && k != 14 && k != 15
def uCB (k : Nat) : Bool := k != 0 && k != 1 && k != 2 && k != 3 && k != 4 && k != 5 && k != 6 && k != 7
def uRI (k : Nat) : Bool := k != 22 && k != 23 && k != 24 && k != 25 && k != 26 && k != 27
def uRA (k : Nat) : Bool := k != 24 && k != 25
def uRB (k : Nat) : Bool := k != 10 && k != 11 && k != 12
def refI (k : Nat) : Bool := decide (20 ≤ k)
def clsI (k : Nat) : Bool := decide (k < 20)
def refB (k : Nat) : Bool := decide (10 ≤ k)
def clsB (k : Nat) : Bool := decide (k < 10)
theorem kI_sI3 : ∀ k, kI k = true → sI3 k = true := fun k hk => by unfold kI at hk; unfold sI3; simp only [Bool.and_eq_true, bne_iff_ne, ne_eq] at hk ⊢; omega
theorem kI_i13 : ∀ k, kI k = true → i13 k = true := fun k hk => by unfold kI at hk; unfold i13; simp only [Bool.and_eq_true, bne_iff_ne, ne_eq] at hk ⊢; omega
theorem kI_i4 : ∀ k, kI k = true → i4 k = true := fun k hk => by unfold kI at hk; unfold i4; simp only [Bool.and_eq_true, bne_iff_ne, ne_eq] at hk ⊢; omega
theorem kB_b45 : ∀ k, kB k = true → b45 k = true := fun k hk => by unfold kB at hk; unfold b45; simp only [Bool.and_eq_true, bne_iff_ne, ne_eq] at hk ⊢; omega
theorem kB_bW : ∀ k, kB k = true → bW k = true := fun k hk => by unfold kB at hk; unfold bW; simp only [Bool.and_eq_true, bne_iff_ne, ne_eq] at hk ⊢; omega
theorem kB_b2x : ∀ k, kB k = true → b2x k = true := fun k hk => by unfold kB at hk; unfold b2x; simp only [Bool.and_eq_true, bne_iff_ne, ne_eq] at hk ⊢; omega
theorem kB_b3x : ∀ k, kB k = true → b3x k = true := fun k hk => by unfold kB at hk; unfold b3x; simp only [Bool.and_eq_true, bne_iff_ne, ne_eq] at hk ⊢; omega
theorem uCI_i67 : ∀ k, uCI k = true → i67 k = true := fun k hk => by unfold uCI at hk; unfold i67; simp only [Bool.and_eq_true, bne_iff_ne, ne_eq] at hk ⊢; omega
theorem uCI_sI3 : ∀ k, uCI k = true → sI3 k = true := fun k hk => by unfold uCI at hk; unfold sI3; simp only [Bool.and_eq_true, bne_iff_ne, ne_eq] at hk ⊢; omega
theorem uCI_i8910 : ∀ k, uCI k = true → i8910 k = true := fun k hk => by unfold uCI at hk; unfold i8910; simp only [Bool.and_eq_true, bne_iff_ne, ne_eq] at hk ⊢; omega
theorem uCI_kI : ∀ k, uCI k = true → kI k = true := fun k hk => by unfold uCI at hk; unfold kI; simp only [Bool.and_eq_true, bne_iff_ne, ne_eq] at hk ⊢; omega
theorem uCA_a15 : ∀ k, uCA k = true → a15 k = true := fun k hk => by unfold uCA at hk; unfold a15; simp only [Bool.and_eq_true, bne_iff_ne, ne_eq] at hk ⊢; omega
theorem uCA_a14 : ∀ k, uCA k = true → a14 k = true := fun k hk => by unfold uCA at hk; unfold a14; simp only [Bool.and_eq_true, bne_iff_ne, ne_eq] at hk ⊢; omega
theorem uCA_sA : ∀ k, uCA k = true → sA k = true := fun k hk => by unfold uCA at hk; unfold sA; simp only [Bool.and_eq_true, bne_iff_ne, ne_eq] at hk ⊢; omega
theorem uCB_b45 : ∀ k, uCB k = true → b45 k = true := fun k hk => by unfold uCB at hk; unfold b45; simp only [Bool.and_eq_true, bne_iff_ne, ne_eq] at hk ⊢; omega
theorem uCB_b2x : ∀ k, uCB k = true → b2x k = true := fun k hk => by unfold uCB at hk; unfold b2x; simp only [Bool.and_eq_true, bne_iff_ne, ne_eq] at hk ⊢; omega
theorem uCB_kB : ∀ k, uCB k = true → kB k = true := fun k hk => by unfold uCB at hk; unfold kB; simp only [Bool.and_eq_true, bne_iff_ne, ne_eq] at hk ⊢; omega
theorem uCB_b3x : ∀ k, uCB k = true → b3x k = true := fun k hk => by unfold uCB at hk; unfold b3x; simp only [Bool.and_eq_true, bne_iff_ne, ne_eq] at hk ⊢; omega
theorem uRI_i234 : ∀ k, uRI k = true → i234 k = true := fun k hk => by unfold uRI at hk; unfold i234; simp only [Bool.and_eq_true, bne_iff_ne, ne_eq] at hk ⊢; omega
theorem uRA_a24 : ∀ k, uRA k = true → a24 k = true := fun k hk => by unfold uRA at hk; unfold a24; simp only [Bool.and_eq_true, bne_iff_ne, ne_eq] at hk ⊢; omega
theorem uRA_a25 : ∀ k, uRA k = true → a25 k = true := fun k hk => by unfold uRA at hk; unfold a25; simp only [Bool.and_eq_true, bne_iff_ne, ne_eq] at hk ⊢; omega
theorem uRB_b10 : ∀ k, uRB k = true → b10 k = true := fun k hk => by unfold uRB at hk; unfold b10; simp only [Bool.and_eq_true, bne_iff_ne, ne_eq] at hk ⊢; omega
theorem uRB_b11 : ∀ k, uRB k = true → b11 k = true := fun k hk => by unfold uRB at hk; unfold b11; simp only [Bool.and_eq_true, bne_iff_ne, ne_eq] at hk ⊢; omega
theorem uRB_b1012 : ∀ k, uRB k = true → b1012 k = true := fun k hk => by unfold uRB at hk; unfold b1012; simp only [Bool.and_eq_true, bne_iff_ne, ne_eq] at hk ⊢; omega
theorem refI_uCI : ∀ k, refI k = true → uCI k = true := fun k hk => by unfold refI at hk; unfold uCI; simp only [decide_eq_true_eq] at hk; simp only [Bool.and_eq_true, bne_iff_ne, ne_eq]; omega
theorem refI_uCA : ∀ k, refI k = true → uCA k = true := fun k hk => by unfold refI at hk; unfold uCA; simp only [decide_eq_true_eq] at hk; simp only [Bool.and_eq_true, bne_iff_ne, ne_eq]; omega
theorem refB_uCB : ∀ k, refB k = true → uCB k = true := fun k hk => by unfold refB at hk; unfold uCB; simp only [decide_eq_true_eq] at hk; simp only [Bool.and_eq_true, bne_iff_ne, ne_eq]; omega
theorem clsI_uRI : ∀ k, clsI k = true → uRI k = true := fun k hk => by unfold clsI at hk; unfold uRI; simp only [decide_eq_true_eq] at hk; simp only [Bool.and_eq_true, bne_iff_ne, ne_eq]; omega
theorem clsI_uRA : ∀ k, clsI k = true → uRA k = true := fun k hk => by unfold clsI at hk; unfold uRA; simp only [decide_eq_true_eq] at hk; simp only [Bool.and_eq_true, bne_iff_ne, ne_eq]; omega
theorem clsB_uRB : ∀ k, clsB k = true → uRB k = true := fun k hk => by unfold clsB at hk; unfold uRB; simp only [decide_eq_true_eq] at hk; simp only [Bool.and_eq_true, bne_iff_ne, ne_eq]; omega
theorem book_two {σ τ : St} {H : Int32} (hg : Rg2 σ τ) (hH : vp_in H 24) (hz : ∀ i, i < 6 → gB σ 2 i = 0) (hce : ∀ q, q < 4 → gA σ 4 q = gA τ 31 q ∧ 0 ≤ (gA σ 4 q).toInt) (hal : ∀ i, i < 6 → gB σ 3 i = gB τ 11 i) {σg : St} (eg : σg = if f4_isNight σ H = 0 then f5_bookInto (f0_weighAll (f9_lookFrom σ H)) else σ) :
    (∀ i, i < 6 → gB (f1_addToSums σg) 2 i = gB (f10_writeBook τ H) 10 i) ∧ (∀ i, i < 6 → gB (f1_addToSums σg) 3 i = gB (f10_writeBook τ H) 11 i) ∧ gB (f10_writeBook τ H) 10 6 = Int32.toInt64 (gI τ 23) ∧ gB (f10_writeBook τ H) 10 7 = Int32.toInt64 H ∧ Ag kI sA kB σ (f1_addToSums σg) ∧ Ag pT pT uRB τ (f10_writeBook τ H) := by
  obtain ⟨p1, p2⟩ := wbP_spec τ
  unfold f10_writeBook
  rw [n6, n7, p1.1 23 rfl]
  have A2 : Ag pT pT b10 τ (uB (uB (f10_writeBook_P 7 τ 0) 10 6 (Int32.toInt64 (gI τ 23))) 10 7 (Int32.toInt64 H)) := (p1.uB rfl).uB rfl
  have z2 : ∀ i, i < 6 → gB (uB (uB (f10_writeBook_P 7 τ 0) 10 6 (Int32.toInt64 (gI τ 23))) 10 7 (Int32.toInt64 H)) 10 i = 0 := fun i hi => by
    rw [gBn _ 10 _ (by omega), gBn _ 10 _ (by omega)]; exact p2 i hi
  have v6 : gB (uB (uB (f10_writeBook_P 7 τ 0) 10 6 (Int32.toInt64 (gI τ 23))) 10 7 (Int32.toInt64 H)) 10 6 = Int32.toInt64 (gI τ 23) := by rw [gBn _ 10 _ (by decide), gBs]
  have v7 : gB (uB (uB (f10_writeBook_P 7 τ 0) 10 6 (Int32.toInt64 (gI τ 23))) 10 7 (Int32.toInt64 H)) 10 7 = Int32.toInt64 H := gBs _ _ _ _
  generalize uB (uB (f10_writeBook_P 7 τ 0) 10 6 (Int32.toInt64 (gI τ 23))) 10 7 (Int32.toInt64 H) = τ2 at A2 z2 v6 v7 ⊢
  have s2 := (hg.2.2.2.2.1 _ (vlt hH)).1.2
  have en : f10_isNight τ2 H = f4_isNight σ H := by unfold f10_isNight f4_isNight; rw [A2.2.1 28 rfl, s2]
  rw [en]
  by_cases c : f4_isNight σ H = 0
  · rw [if_pos c] at eg ⊢
    have M2 : Ag mI mA mB τ τ2 := A2.mono (fun _ _ => rfl) (fun _ _ => rfl) mB_x
    obtain ⟨J0, AL⟩ := JN_look2 hg hH
    have J := J0.agR M2 (hg.2.1.agT A2 rfl)
    generalize f9_lookFrom σ H = σe at J0 AL J eg
    have hcnt := hg.1.cnt
    obtain ⟨c, hc⟩ : ∃ c : Nat, (c : Int) = (gI σ 2).toInt := ⟨(gI σ 2).toInt.toNat, by omega⟩
    have h10 : c ≤ 10 := by omega
    have e2 : gI σe 2 = gI σ 2 := AL.1 2 rfl
    have row : ∀ i, i < c → (gA σ 10 i = gA τ 20 i ∧ gA σ 11 i = gA τ 21 i ∧ gA σ 12 i = gA τ 22 i ∧ gA σ 13 i = gA τ 23 i ∧ gA σ 14 i = gA τ 24 i ∧ gA σ 15 i = gA τ 25 i ∧ gA σ 16 i = gA τ 26 i) ∧ RowOk σ i := fun i hi => hg.2.2.2.1 i (by omega)
    obtain ⟨J1, AW, w3, -⟩ := weighAll_spec (τ := τ2) (a := H) 11 σe 0 J (fun i hi => by rw [AL.2.1 14 rfl, M2.2.1 24 rfl]; exact (row i (by rw [e2] at hi; omega)).1.2.2.2.2.1) (by rw [lit_0]; omega) (by rw [lit_0, e2]; omega) (by rw [lit_0, e2]; omega)
    have eW : f0_weighAll σe = f0_weighAll_L 11 σe 0 := rfl
    rw [← eW] at J1 AW w3
    generalize f0_weighAll σe = σf at J1 AW w3 eg
    have f2 : gI σf 2 = gI σ 2 := (AW.1 2 rfl).trans e2
    have fB : ∀ i, i < 6 → gB σf 2 i = 0 := fun i hi => by rw [AW.2.2 2 rfl, AL.2.2 2 rfl]; exact hz i hi
    have hR : ∀ i, i < c → 0 ≤ (f10_currentOf τ2 (nI i) H).toInt ∧ (f10_currentOf τ2 (nI i) H).toInt ≤ 2000000 := fun i hi => by
      have k1 := nI_t10 (i := i) (by omega)
      have k2 := N_nI (i := i) (by omega)
      refine (cur_rg J (r := nI i) (by omega) (by rw [e2]; omega) ?_).2.2
      rw [k2, M2.2.1 24 rfl, ← (row i hi).1.2.2.2.2.1]
      exact (row i hi).2.2.2.2.2.1
    have hS : ∀ i, i < c → gA σf 16 i = gA τ 26 i ∧ gA τ2 26 i = gA τ 26 i ∧ -1 ≤ (gA τ 26 i).toInt := fun i hi => by
      obtain ⟨r1, r2⟩ := row i hi
      rw [AW.2.1 16 rfl, AL.2.1 16 rfl, M2.2.1 26 rfl]
      refine ⟨r1.2.2.2.2.2.2, rfl, ?_⟩
      rw [← r1.2.2.2.2.2.2]; exact r2.2.2.2.2.2.1
    have hS3 : ∀ i, i < c → -1 ≤ (gA τ 26 i).toInt ∧ (gA τ 26 i).toInt ≤ 3 := fun i hi => by
      obtain ⟨r1, r2⟩ := row i hi
      rw [← r1.2.2.2.2.2.2]; exact r2.2.2.2.2.2
    obtain ⟨⟨x0, x1, x2⟩, x3, AP, AQ, xp, xq⟩ := bookP (a := H) (c := c) (str := fun i => gA τ 26 i) (cur := fun i => (f10_currentOf τ2 (nI i) H).toInt) h10 11 σf τ2 0 0 J1 (by rw [f2]; exact hc) (fun i hi => ⟨(w3 i (by rw [lit_0]; omega) (by rw [e2]; omega)).1, (w3 i (by rw [lit_0]; omega) (by rw [e2]; omega)).2.1⟩) hS (fun i hi => rfl)
      ⟨by rw [fB 0 (by omega), z2 0 (by omega)], by rw [fB 1 (by omega), z2 1 (by omega)], by rw [fB 2 (by omega), z2 2 (by omega)]⟩ (by rw [z2 3 (by omega)]; rfl) z6 (by omega) (by omega)
    have eB : f5_bookInto σf = f5_bookInto_Q 5 (f5_bookInto_P 11 σf 0) 0 := rfl
    rw [eB] at eg
    generalize f5_bookInto_P 11 σf 0 = σp at x0 x1 x2 AP xp eg
    generalize f10_writeBook_Q H 11 τ2 0 = τp at x0 x1 x2 x3 AQ xq ⊢
    have MQ : Ag mI mA mB τ2 τp := AQ.mono (fun _ _ => rfl) (fun _ _ => rfl) mB_x
    obtain ⟨⟨y3, y4, y5⟩, BP, BQ, yp, yq⟩ := bookQ (a := H) (c := c) (str := fun i => gA τ 26 i) (cur := fun i => (f10_currentOf τ2 (nI i) H).toInt) h10 hR 5 σp τp 0 0 (by rw [AP.1 2 rfl, f2]; exact hc) (by rw [AQ.1 20 rfl, A2.1 20 rfl, ← hg.2.2.1]; exact hc) (fun i hi => by rw [AP.2.1 1 rfl, current_ag MQ]; exact (w3 i (by rw [lit_0]; omega) (by rw [e2]; omega)).2.2) (fun i hi => by rw [current_ag MQ]) (fun i hi => by rw [AP.2.1 16 rfl, MQ.2.1 26 rfl]; exact ⟨(hS i hi).1, (hS i hi).2.1⟩) (fun q hq => by rw [AP.2.1 4 rfl, AW.2.1 4 rfl, AL.2.1 4 rfl, AQ.2.1 31 rfl, A2.2.1 31 rfl]; exact hce q hq)
      ⟨by rw [xp 4 (by omega), xq 4 (by omega), fB 4 (by omega), z2 4 (by omega)], by rw [xp 5 (by omega), xq 5 (by omega), fB 5 (by omega), z2 5 (by omega)], by rw [x3, xp 3 (by omega), fB 3 (by omega), str_tot hS3, sN_z, Int.sub_zero, Int64.zero_add]⟩ z6 (by omega) (by omega)
    generalize f5_bookInto_Q 5 σp 0 = σq at y3 y4 y5 BP yp eg
    generalize f10_writeBook_R H 5 τp 0 = τq at y3 y4 y5 BQ yq ⊢
    subst eg
    obtain ⟨q1, q2⟩ := sums_spec σg
    obtain ⟨u1, u2⟩ := wbU_spec τq
    have all6 : ∀ i, i < 6 → gB σg 2 i = gB τq 10 i := fun i hi => by
      rcases (show i = 0 ∨ i = 1 ∨ i = 2 ∨ i = 3 ∨ i = 4 ∨ i = 5 by omega) with rfl | rfl | rfl | rfl | rfl | rfl
      · rw [yp 0 (by omega), yq 0 (by omega)]; exact x0
      · rw [yp 1 (by omega), yq 1 (by omega)]; exact x1
      · rw [yp 2 (by omega), yq 2 (by omega)]; exact x2
      · exact y3
      · exact y4
      · exact y5
    refine ⟨fun i hi => ?_, fun i hi => ?_, ?_, ?_, ?_, ?_⟩
    · rw [q1.2.2 2 rfl, u1.2.2 10 rfl]; exact all6 i hi
    · rw [q2 i hi, u2 i hi, all6 i hi, BP.2.2 3 rfl, AP.2.2 3 rfl, AW.2.2 3 rfl, AL.2.2 3 rfl, BQ.2.2 11 rfl, AQ.2.2 11 rfl, A2.2.2 11 rfl, hal i hi]
    · rw [u1.2.2 10 rfl, yq 6 (by omega), xq 6 (by omega)]; exact v6
    · rw [u1.2.2 10 rfl, yq 7 (by omega), xq 7 (by omega)]; exact v7
    · exact ((((AL.mono kI_sI3 (fun _ _ => rfl) kB_b45).tr (AW.mono kI_i13 aN1_s kB_bW)).tr (AP.mono (fun _ _ => rfl) (fun _ _ => rfl) kB_b2x)).tr (BP.mono kI_i4 a5_s kB_b2x)).tr (q1.mono (fun _ _ => rfl) (fun _ _ => rfl) kB_b3x)
    · exact (((A2.mono (fun _ _ => rfl) (fun _ _ => rfl) uRB_b10).tr (AQ.mono (fun _ _ => rfl) (fun _ _ => rfl) uRB_b10)).tr (BQ.mono (fun _ _ => rfl) (fun _ _ => rfl) uRB_b1012)).tr (u1.mono (fun _ _ => rfl) (fun _ _ => rfl) uRB_b11)
  · rw [if_neg c] at eg ⊢
    subst eg
    obtain ⟨q1, q2⟩ := sums_spec σg
    refine ⟨fun i hi => by rw [q1.2.2 2 rfl, hz i hi, z2 i hi], fun i hi => by rw [q2 i hi, hz i hi, Int64.add_zero, A2.2.2 11 rfl]; exact hal i hi, v6, v7, q1.mono (fun _ _ => rfl) (fun _ _ => rfl) kB_b3x, A2.mono (fun _ _ => rfl) (fun _ _ => rfl) uRB_b10⟩
