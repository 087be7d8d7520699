/-- the state behind the two constructors -/
def Init (σ : St) : Prop := (∀ k, gI σ k = if k = 5 then 50 else if k = 21 then 50 else if k = 29 then 99 else 0) ∧ (∀ k, gJ σ k = 0) ∧ (∀ i, i < 4 → gA σ 4 i = 1000000 ∧ gA σ 31 i = 1000000) ∧ (∀ i, i < 24 → gA σ 6 i = -1 ∧ gA σ 29 i = -1) ∧ (∀ i, gA σ 16 i = -1) ∧ (∀ k, k ≠ 4 → k ≠ 6 → k ≠ 16 → k ≠ 29 → k ≠ 31 → ∀ i, gA σ k i = 0) ∧ (∀ k i, gB σ k i = 0)
theorem Wd_D {Λ : LY} {A : Nat → Prop} {σ : St} (h : va_D A (Wd Λ σ)) (σ2 : St) : va_D A (Wd Λ σ2) := by
  have e : (Wd Λ σ2).map Prod.fst = (Wd Λ σ).map Prod.fst := rfl
  have f : ∀ (i : Nat) (x : Nat × va_E), (Wd Λ σ2)[i]? = some x → ∃ y, (Wd Λ σ)[i]? = some y ∧ y.1 = x.1 := by
    intro i x hx
    have h1 : ((Wd Λ σ2).map Prod.fst)[i]? = some x.1 := by rw [List.getElem?_map, hx]; rfl
    rw [e, List.getElem?_map] at h1
    cases hy : (Wd Λ σ)[i]? with
    | none => rw [hy] at h1; cases h1
    | some y => rw [hy] at h1; exact ⟨y, rfl, Option.some.inj h1⟩
  refine ⟨fun i j x y hx hy hxy => ?_, fun i x hx => ?_⟩
  · obtain ⟨x2, g1, g2⟩ := f i x hx
    obtain ⟨y2, g3, g4⟩ := f j y hy
    exact h.1 i j x2 y2 g1 g3 (by rw [g2, g4, hxy])
  · obtain ⟨x2, g1, g2⟩ := f i x hx
    rw [← g2]; exact h.2 i x2 g1
theorem arrR {c : ClassId} {f g : Nat → Option Nat} (h : ∀ i, i < 10 → f i = g i) : vp_cell c (10, .inr (.inr (.inr (.inr f)))) = vp_cell c (10, .inr (.inr (.inr (.inr g)))) := by
  rw [vp_cell_q, vp_cell_q]
  unfold arrV
  congr 2
  funext j
  show va_rf (f j.val) = va_rf (g j.val)
  rw [h j.val j.isLt]
theorem KtyP {s : State} {args : Array Value} {ty : FieldType} (hn : ∀ C, ty ≠ .object C) (h : (Cond.arrayClass ty).before args s = true) : ∃ c, ArrOfT s c ty ∧ va_RA s c ty := by
  obtain ⟨c, k, comp, h1, h2, h3⟩ := Cond.arrayClass_spec h
  refine ⟨c, fun n z => ⟨fun k h => (by cases h), k, h2, comp, h3⟩, ?_⟩
  cases ty with
  | object C => exact absurd rfl (hn C)
  | _ => exact h1
theorem KtyO {s : State} {args : Array Value} {C : String} (h : (Cond.arrayOver (.object C)).before args s = true) : ∃ c, ArrOfT s c (.object C) ∧ va_RA s c (.object C) := by
  obtain ⟨comp, c, k, h1, h2, h3, h4, h5⟩ := Cond.arrayOver_spec h
  exact ⟨c, fun n z => ⟨fun k h => (by cases h), k, h3, comp, h4⟩, k, comp, h3, h4, h1, h5⟩
set_option maxHeartbeats 8000000 in
set_option maxRecDepth 100000 in
theorem whole_open {Rel : Nat → St → Prop} (HP : PU Rel) (H0 : ∀ σ, Init σ → Rel 0 σ) {p : Program} {e : Env} {s : State} {m : MethodId} {below : List Frame} {meth : Method} {c : Code} (l : Launch) {b L : Nat} {xs : Nat → Int32} (hL : L ≤ 3072) (C0 : lw_At p s m meth c b L xs) : W p l e room_1 s m #[Value.ref b] below meth c s.heap [] 0 0 (lw_Z below #[Value.ref b] s) (entryFrame m ([Value.ref b] : List Value).toArray 4) := by
  obtain ⟨hx, hb, hr, hml, hown, hts, hX, hbl, hlocks, hgv⟩ := C0
  have hG : ∀ w ∈ wsG, w.before #[Value.ref b] s = true := fun w h => hts w (List.mem_filter.mp h).1
  have hT : ∀ (i : Nat) (w : Cond), tables_1[i]? = some w → w.before #[Value.ref b] s = true := fun i w h => hts w (List.mem_append_right _ (List.mem_of_getElem? h))
  obtain ⟨c0, i0, k0⟩ := u_known hG inG0 (hG _ (wm (c := .instantiable RX0 7) 23 rfl rfl))
  obtain ⟨c1, i1, k1⟩ := u_known hG inG1 (hG _ (wm (c := .instantiable RX1 5) 192 rfl rfl))
  obtain ⟨c2, i2, k2⟩ := u_known hG inG2 (hG _ (wm (c := .instantiable RX2 5) 31 rfl rfl))
  obtain ⟨c3, i3, k3⟩ := u_known hG inG3 (hG _ (wm (c := .instantiable RX3 7) 53 rfl rfl))
  obtain ⟨c4, i4, k4⟩ := u_known hG inG4 (hG _ (wm (c := .instantiable RX4 2) 133 rfl rfl))
  obtain ⟨c5, i5, k5⟩ := u_known hG inG5 (hG _ (wm (c := .instantiable RX5 3) 148 rfl rfl))
  obtain ⟨c6, i6, k6⟩ := u_known hG inG6 (hG _ (wm (c := .instantiable RX6 2) 235 rfl rfl))
  obtain ⟨c7, i7, k7⟩ := u_known hG inG7 (hG _ (wm (c := .instantiable RX7 2) 220 rfl rfl))
  obtain ⟨c8, i8, k8⟩ := u_known hG inG8 (hG _ (wm (c := .instantiable RX8 5) 166 rfl rfl))
  obtain ⟨c9, i9, k9⟩ := u_known hG inG9 (hG _ (wm (c := .instantiable RX9 10) 15 rfl rfl))
  obtain ⟨c10, i10, k10⟩ := u_known hG inG10 (hG _ (wm (c := .instantiable RX10 28) 678 rfl rfl))
  obtain ⟨tI, gI1, gI2⟩ := KtyP (fun _ h => by cases h) (hG _ wa_I)
  obtain ⟨tJ, gJ1, gJ2⟩ := KtyP (fun _ h => by cases h) (hG _ wa_J)
  obtain ⟨tZ, gZ1, gZ2⟩ := KtyP (fun _ h => by cases h) (hG _ wa_Z)
  have hAO : (Cond.arrayOver (.object "SunRows$Row")).before #[Value.ref b] s = true := hT 29 _ rfl
  obtain ⟨tR, gR1, gR2⟩ := KtyO hAO
  have hA0 : ∀ a : Nat, a < s.heap.size → ¬ (fun q => s.heap.size ≤ q) a := fun a h g => by have g2 : s.heap.size ≤ a := g; omega
  have hs := flat_of_before _ hgv
  have hlC : (Term.length (.static "SunRows" "COSINES" "[I")).eval #[Value.ref b] s none [] s = some (.int 13) := va_eqt (hs (Cond.eq (.length (.static "SunRows" "COSINES" "[I")) (.int 13)) (by decide +kernel))
  have eC0 : (Term.elem (.static "SunRows" "COSINES" "[I") (.int 0)).eval #[Value.ref b] s none [] s = some (.int 10000) := va_eqt (hs (Cond.eq (.elem (.static "SunRows" "COSINES" "[I") (.int 0)) (.int 10000)) (by decide +kernel))
  have eC1 : (Term.elem (.static "SunRows" "COSINES" "[I") (.int 1)).eval #[Value.ref b] s none [] s = some (.int 9962) := va_eqt (hs (Cond.eq (.elem (.static "SunRows" "COSINES" "[I") (.int 1)) (.int 9962)) (by decide +kernel))
  have eC2 : (Term.elem (.static "SunRows" "COSINES" "[I") (.int 2)).eval #[Value.ref b] s none [] s = some (.int 9848) := va_eqt (hs (Cond.eq (.elem (.static "SunRows" "COSINES" "[I") (.int 2)) (.int 9848)) (by decide +kernel))
  have eC3 : (Term.elem (.static "SunRows" "COSINES" "[I") (.int 3)).eval #[Value.ref b] s none [] s = some (.int 9659) := va_eqt (hs (Cond.eq (.elem (.static "SunRows" "COSINES" "[I") (.int 3)) (.int 9659)) (by decide +kernel))
  have eC4 : (Term.elem (.static "SunRows" "COSINES" "[I") (.int 4)).eval #[Value.ref b] s none [] s = some (.int 9397) := va_eqt (hs (Cond.eq (.elem (.static "SunRows" "COSINES" "[I") (.int 4)) (.int 9397)) (by decide +kernel))
  have eC5 : (Term.elem (.static "SunRows" "COSINES" "[I") (.int 5)).eval #[Value.ref b] s none [] s = some (.int 9063) := va_eqt (hs (Cond.eq (.elem (.static "SunRows" "COSINES" "[I") (.int 5)) (.int 9063)) (by decide +kernel))
  have eC6 : (Term.elem (.static "SunRows" "COSINES" "[I") (.int 6)).eval #[Value.ref b] s none [] s = some (.int 8660) := va_eqt (hs (Cond.eq (.elem (.static "SunRows" "COSINES" "[I") (.int 6)) (.int 8660)) (by decide +kernel))
  have eC7 : (Term.elem (.static "SunRows" "COSINES" "[I") (.int 7)).eval #[Value.ref b] s none [] s = some (.int 8192) := va_eqt (hs (Cond.eq (.elem (.static "SunRows" "COSINES" "[I") (.int 7)) (.int 8192)) (by decide +kernel))
  have eC8 : (Term.elem (.static "SunRows" "COSINES" "[I") (.int 8)).eval #[Value.ref b] s none [] s = some (.int 7660) := va_eqt (hs (Cond.eq (.elem (.static "SunRows" "COSINES" "[I") (.int 8)) (.int 7660)) (by decide +kernel))
  have eC9 : (Term.elem (.static "SunRows" "COSINES" "[I") (.int 9)).eval #[Value.ref b] s none [] s = some (.int 7071) := va_eqt (hs (Cond.eq (.elem (.static "SunRows" "COSINES" "[I") (.int 9)) (.int 7071)) (by decide +kernel))
  have eC10 : (Term.elem (.static "SunRows" "COSINES" "[I") (.int 10)).eval #[Value.ref b] s none [] s = some (.int 6428) := va_eqt (hs (Cond.eq (.elem (.static "SunRows" "COSINES" "[I") (.int 10)) (.int 6428)) (by decide +kernel))
  have eC11 : (Term.elem (.static "SunRows" "COSINES" "[I") (.int 11)).eval #[Value.ref b] s none [] s = some (.int 5736) := va_eqt (hs (Cond.eq (.elem (.static "SunRows" "COSINES" "[I") (.int 11)) (.int 5736)) (by decide +kernel))
  have eC12 : (Term.elem (.static "SunRows" "COSINES" "[I") (.int 12)).eval #[Value.ref b] s none [] s = some (.int 5000) := va_eqt (hs (Cond.eq (.elem (.static "SunRows" "COSINES" "[I") (.int 12)) (.int 5000)) (by decide +kernel))
  obtain ⟨bC, hvC, hTC⟩ := va_Tof (tm := .static "SunRows" "COSINES" "[I") (ty := .int) (N := 13) (f := fun k => .int (cosF k)) (A := fun q => s.heap.size ≤ q) (by decide) (hs (Cond.arrayOf (.static "SunRows" "COSINES" "[I") .int) (by decide +kernel)) hlC (fun j hj => by
    rcases (show j = 0 ∨ j = 1 ∨ j = 2 ∨ j = 3 ∨ j = 4 ∨ j = 5 ∨ j = 6 ∨ j = 7 ∨ j = 8 ∨ j = 9 ∨ j = 10 ∨ j = 11 ∨ j = 12 by omega) with rfl | rfl | rfl | rfl | rfl | rfl | rfl | rfl | rfl | rfl | rfl | rfl | rfl
    · exact eC0
    · exact eC1
    · exact eC2
    · exact eC3
    · exact eC4
    · exact eC5
    · exact eC6
    · exact eC7
    · exact eC8
    · exact eC9
    · exact eC10
    · exact eC11
    · exact eC12
    ) hA0
  have hZC : va_Z RX9 "COSINES" "[I" (.ref bC) (fun q => s.heap.size ≤ q) s s.heap := va_Zref (hT 373 (.laysStatic RX9 "COSINES" "[I") rfl) (hG _ (wm (c := .initialized RX9) 1 rfl rfl)) hvC hA0
  have hlS : (Term.length (.static "SunRows" "SINES" "[I")).eval #[Value.ref b] s none [] s = some (.int 13) := va_eqt (hs (Cond.eq (.length (.static "SunRows" "SINES" "[I")) (.int 13)) (by decide +kernel))
  have eS0 : (Term.elem (.static "SunRows" "SINES" "[I") (.int 0)).eval #[Value.ref b] s none [] s = some (.int 0) := va_eqt (hs (Cond.eq (.elem (.static "SunRows" "SINES" "[I") (.int 0)) (.int 0)) (by decide +kernel))
  have eS1 : (Term.elem (.static "SunRows" "SINES" "[I") (.int 1)).eval #[Value.ref b] s none [] s = some (.int 872) := va_eqt (hs (Cond.eq (.elem (.static "SunRows" "SINES" "[I") (.int 1)) (.int 872)) (by decide +kernel))
  have eS2 : (Term.elem (.static "SunRows" "SINES" "[I") (.int 2)).eval #[Value.ref b] s none [] s = some (.int 1736) := va_eqt (hs (Cond.eq (.elem (.static "SunRows" "SINES" "[I") (.int 2)) (.int 1736)) (by decide +kernel))
  have eS3 : (Term.elem (.static "SunRows" "SINES" "[I") (.int 3)).eval #[Value.ref b] s none [] s = some (.int 2588) := va_eqt (hs (Cond.eq (.elem (.static "SunRows" "SINES" "[I") (.int 3)) (.int 2588)) (by decide +kernel))
  have eS4 : (Term.elem (.static "SunRows" "SINES" "[I") (.int 4)).eval #[Value.ref b] s none [] s = some (.int 3420) := va_eqt (hs (Cond.eq (.elem (.static "SunRows" "SINES" "[I") (.int 4)) (.int 3420)) (by decide +kernel))
  have eS5 : (Term.elem (.static "SunRows" "SINES" "[I") (.int 5)).eval #[Value.ref b] s none [] s = some (.int 4226) := va_eqt (hs (Cond.eq (.elem (.static "SunRows" "SINES" "[I") (.int 5)) (.int 4226)) (by decide +kernel))
  have eS6 : (Term.elem (.static "SunRows" "SINES" "[I") (.int 6)).eval #[Value.ref b] s none [] s = some (.int 5000) := va_eqt (hs (Cond.eq (.elem (.static "SunRows" "SINES" "[I") (.int 6)) (.int 5000)) (by decide +kernel))
  have eS7 : (Term.elem (.static "SunRows" "SINES" "[I") (.int 7)).eval #[Value.ref b] s none [] s = some (.int 5736) := va_eqt (hs (Cond.eq (.elem (.static "SunRows" "SINES" "[I") (.int 7)) (.int 5736)) (by decide +kernel))
  have eS8 : (Term.elem (.static "SunRows" "SINES" "[I") (.int 8)).eval #[Value.ref b] s none [] s = some (.int 6428) := va_eqt (hs (Cond.eq (.elem (.static "SunRows" "SINES" "[I") (.int 8)) (.int 6428)) (by decide +kernel))
  have eS9 : (Term.elem (.static "SunRows" "SINES" "[I") (.int 9)).eval #[Value.ref b] s none [] s = some (.int 7071) := va_eqt (hs (Cond.eq (.elem (.static "SunRows" "SINES" "[I") (.int 9)) (.int 7071)) (by decide +kernel))
  have eS10 : (Term.elem (.static "SunRows" "SINES" "[I") (.int 10)).eval #[Value.ref b] s none [] s = some (.int 7660) := va_eqt (hs (Cond.eq (.elem (.static "SunRows" "SINES" "[I") (.int 10)) (.int 7660)) (by decide +kernel))
  have eS11 : (Term.elem (.static "SunRows" "SINES" "[I") (.int 11)).eval #[Value.ref b] s none [] s = some (.int 8192) := va_eqt (hs (Cond.eq (.elem (.static "SunRows" "SINES" "[I") (.int 11)) (.int 8192)) (by decide +kernel))
  have eS12 : (Term.elem (.static "SunRows" "SINES" "[I") (.int 12)).eval #[Value.ref b] s none [] s = some (.int 8660) := va_eqt (hs (Cond.eq (.elem (.static "SunRows" "SINES" "[I") (.int 12)) (.int 8660)) (by decide +kernel))
  obtain ⟨bS, hvS, hTS⟩ := va_Tof (tm := .static "SunRows" "SINES" "[I") (ty := .int) (N := 13) (f := fun k => .int (sinF k)) (A := fun q => s.heap.size ≤ q) (by decide) (hs (Cond.arrayOf (.static "SunRows" "SINES" "[I") .int) (by decide +kernel)) hlS (fun j hj => by
    rcases (show j = 0 ∨ j = 1 ∨ j = 2 ∨ j = 3 ∨ j = 4 ∨ j = 5 ∨ j = 6 ∨ j = 7 ∨ j = 8 ∨ j = 9 ∨ j = 10 ∨ j = 11 ∨ j = 12 by omega) with rfl | rfl | rfl | rfl | rfl | rfl | rfl | rfl | rfl | rfl | rfl | rfl | rfl
    · exact eS0
    · exact eS1
    · exact eS2
    · exact eS3
    · exact eS4
    · exact eS5
    · exact eS6
    · exact eS7
    · exact eS8
    · exact eS9
    · exact eS10
    · exact eS11
    · exact eS12
    ) hA0
  have hZS : va_Z RX9 "SINES" "[I" (.ref bS) (fun q => s.heap.size ≤ q) s s.heap := va_Zref (hT 375 (.laysStatic RX9 "SINES" "[I") rfl) (hG _ (wm (c := .initialized RX9) 1 rfl rfl)) hvS hA0
  have hNW : ∀ w ∈ nestW, va_Nw w s := by
    intro w hw
    simp only [nestW, List.mem_cons, List.mem_nil_iff, or_false] at hw
    rcases hw with rfl | rfl | rfl | rfl | rfl
    · exact va_Nw.of rfl (hT 372 _ rfl)
    · exact va_Nw.of rfl (hT 374 _ rfl)
    · exact va_Nw.of rfl (hT 394 _ rfl)
    · exact va_Nw.of rfl (hT 398 _ rfl)
    · exact va_Nw.of rfl (hT 389 _ rfl)
  have hNI : ∀ w ∈ nestI, va_Nw w s := by
    intro w hw
    simp only [nestI, List.mem_cons, List.mem_nil_iff, or_false] at hw
    rcases hw with rfl | rfl | rfl | rfl | rfl | rfl
    · exact va_Nw.of rfl (hT 32 _ rfl)
    · exact va_Nw.of rfl (hT 54 _ rfl)
    · exact va_Nw.of rfl (hT 134 _ rfl)
    · exact va_Nw.of rfl (hT 193 _ rfl)
    · exact va_Nw.of rfl (hT 221 _ rfl)
    · exact va_Nw.of rfl (hT 236 _ rfl)
  let D : va_G := (fun k => ([c0, c1, c2, c3, c4, c5, c6, c7, c8, c9, c10] : List ClassId).getD k 0, fun k => ([i0, i1, i2, i3, i4, i5, i6, i7, i8, i9, i10] : List (Nat → Nat)).getD k (fun _ => 0))
  have hK1 : ∀ (c : Nat) (q : vw_C), vwCl[c]? = some q → u_Kn s q.1 q.2.1 q.2.2 (D.1 c) (D.2 c) := by
    intro c q hq
    have hc : c < 11 := (List.getElem?_eq_some_iff.mp hq).1
    rcases (show c = 0 ∨ c = 1 ∨ c = 2 ∨ c = 3 ∨ c = 4 ∨ c = 5 ∨ c = 6 ∨ c = 7 ∨ c = 8 ∨ c = 9 ∨ c = 10 by omega) with rfl | rfl | rfl | rfl | rfl | rfl | rfl | rfl | rfl | rfl | rfl
    · cases hq; exact k0
    · cases hq; exact k1
    · cases hq; exact k2
    · cases hq; exact k3
    · cases hq; exact k4
    · cases hq; exact k5
    · cases hq; exact k6
    · cases hq; exact k7
    · cases hq; exact k8
    · cases hq; exact k9
    · cases hq; exact k10
  have hK2 : ∀ (k : Nat) (q : ClassId × FieldType), ([(tI, .int), (tJ, .long), (tZ, .boolean), (tR, .object "SunRows$Row")] : List (ClassId × FieldType))[k]? = some q → ArrOfT s q.1 q.2 ∧ va_RA s q.1 q.2 := by
    intro k q hq
    have hc : k < 4 := (List.getElem?_eq_some_iff.mp hq).1
    rcases (show k = 0 ∨ k = 1 ∨ k = 2 ∨ k = 3 by omega) with rfl | rfl | rfl | rfl
    · cases hq; exact ⟨gI1, gI2⟩
    · cases hq; exact ⟨gJ1, gJ2⟩
    · cases hq; exact ⟨gZ1, gZ2⟩
    · cases hq; exact ⟨gR1, gR2⟩
  let Λ : LY := (fun _ => 0, (tI, tJ, tZ, tR), D, (s.heap.size, bC, bS))
  have hK : va_K (dG Λ) vwCl (tyL Λ) s := ⟨hK1, hK2⟩
  let X : CX := (p, l, e, room_1, s, m, #[Value.ref b], below, meth, c, 55, 690, lw_Z below #[Value.ref b] s)
  have C : OL X Λ (AA Λ) cL_law 4 RL 13 598 600000 7302250 := ⟨hx, hb, hml, hown, hG, hlocks, hK, ⟨hNI, va_AO.of hAO⟩, fun q hq => hq, rfl, rfl, rfl, rfl⟩
  suffices V : VL X Λ (AA Λ) 4 0 [(0, .ref b)] [] [] 0 0 by
    rw [lg_entry_eq]
    have hl := lv_entry [Value.ref b] (n := 4) (Nat.le_of_ble_eq_true rfl)
    have hP0 : va_P (dG Λ) vwCl [] s.heap := by intro k q h; cases h
    have hD0 : va_D (AA Λ) [] := by
      refine ⟨?_, ?_⟩
      · intro i j p q h; cases h
      · intro k q h; cases h
    exact V _ s.heap [] hl hP0 hD0 va_S.rf
  refine w_new (pc2 := 3) (ci := 9) C inG9 tyX9 tyX9_ok (wm 14 rfl rfl) (wm 15 rfl rfl) (wm 1 rfl rfl) rfl [.null, .null, .null, .null, .null, .null, .null, .null, .int 0, .int 0] (fun j hj => co_dec_9 j hj) (by decide) (by decide) dL_law_0 rfl (fun px => ?_)
  refine w_dup (pc2 := 4) C dL_law_3 rfl rfl ?_
  refine w_ctor (pc2 := 7) (w1 := []) (q := px) C (fun sz => mi9 (xl X) Λ px sz) rfl (wm 16 rfl rfl) (wm 17 rfl rfl) (wm 1 rfl rfl) (wm 18 rfl rfl) ⟨by decide +kernel, by decide +kernel⟩ ⟨Nat.le_of_ble_eq_true rfl, Nat.le_of_ble_eq_true rfl⟩ (Nat.le_of_ble_eq_true rfl) ⟨Nat.le_of_ble_eq_true rfl, Nat.le_of_ble_eq_true rfl⟩ dL_law_4 rfl (fun wc hwc => ?_)
  obtain ⟨q5_0_px, q7_q5_0_px, q14_1_q5_0_px, q7_q14_1_q5_0_px, q15_q14_1_q5_0_px, q23_q14_1_q5_0_px, q31_q14_1_q5_0_px, q27_q5_0_px, q35_q5_0_px, q43_q5_0_px, q71_9_q5_0_px, q71_10_q5_0_px, q71_11_q5_0_px, q71_12_q5_0_px, q71_13_q5_0_px, q71_14_q5_0_px, q71_15_q5_0_px, q71_16_q5_0_px, q71_17_q5_0_px, q71_18_q5_0_px, g0_q5_0_px, q16_20_px, q7_q16_20_px, q15_q16_20_px, q27_23_px, q6_q27_23_px, q14_q27_23_px, f26_q27_23_px, q38_26_px, q7_q38_26_px, q15_q38_26_px, f38_q38_26_px, q49_29_px, q7_q49_29_px, q15_q49_29_px, q60_32_px, q71_33_px, q7_q71_33_px, q83_px, hp9_0, hp9_1, hp9_2, rfl⟩ := hwc
  refine w_ws (ws2 := [(_, _), (_, _), (_, _), (_, _), (_, _), (_, _), (_, _), (_, _), (_, _), (_, _), (_, _), (_, _), (_, _), (_, _), (_, _), (_, _), (_, _), (_, _), (_, _), (_, _), (_, _), (_, _), (_, _), (_, _), (_, _), (_, _), (_, _), (_, _), (_, _), (_, _), (_, _), (_, _), (_, _), (_, _), (_, _), (_, _), (_, _)]) rfl ?_
  refine w_astore_n (pc2 := 8) (lv2 := [(1, _), (0, _)]) C dL_law_7 (by decide) rfl rfl ?_
  refine w_new (pc2 := 11) (ci := 10) C inG10 tyX10 tyX10_ok (wm 677 rfl rfl) (wm 678 rfl rfl) (wm 11 rfl rfl) rfl [.int 0, .null, .null, .null, .null, .null, .null, .null, .null, .null, .null, .null, .null, .int 0, .int 0, .int 0, .int 0, .int 0, .int 0, .int 0, .null, .null, .int 0, .null, .null, .int 0, .null, .int 0] (fun j hj => co_dec_10 j hj) (by decide) (by decide) dL_law_8 rfl (fun pm => ?_)
  refine w_dup (pc2 := 12) C dL_law_11 rfl rfl ?_
  refine w_ctor (pc2 := 15) (w1 := [_, _, _, _, _, _, _, _, _, _, _, _, _, _, _, _, _, _, _, _, _, _, _, _, _, _, _, _, _, _, _, _, _, _, _, _, _]) (q := pm) C (fun sz => mi10 (xl X) Λ pm sz) rfl (wm 679 rfl rfl) (wm 680 rfl rfl) (wm 11 rfl rfl) (wm 681 rfl rfl) ⟨by decide +kernel, by decide +kernel⟩ ⟨Nat.le_of_ble_eq_true rfl, Nat.le_of_ble_eq_true rfl⟩ (Nat.le_of_ble_eq_true rfl) ⟨Nat.le_of_ble_eq_true rfl, Nat.le_of_ble_eq_true rfl⟩ dL_law_12 rfl (fun wc hwc => ?_)
  obtain ⟨q7_pm, q15_pm, q23_pm, q31_pm, q39_pm, q47_pm, q55_pm, q63_pm, q71_pm, q79_pm, q87_pm, q94_pm, q108_pm, q116_pm, q124_pm, q132_pm, q146_pm, f153_pm, f174_pm, hp10_0, hp10_1, rfl⟩ := hwc
  refine w_ws (ws2 := [(_, _), (_, _), (_, _), (_, _), (_, _), (_, _), (_, _), (_, _), (_, _), (_, _), (_, _), (_, _), (_, _), (_, _), (_, _), (_, _), (_, _), (_, _), (_, _), (_, _), (_, _), (_, _), (_, _), (_, _), (_, _), (_, _), (_, _), (_, _), (_, _), (_, _), (_, _), (_, _), (_, _), (_, _), (_, _), (_, _), (_, _), (_, _), (_, _), (_, _), (_, _), (_, _), (_, _), (_, _), (_, _), (_, _), (_, _), (_, _), (_, _), (_, _), (_, _), (_, _), (_, _), (_, _), (_, _)]) rfl ?_
  refine w_astore_n (pc2 := 16) (lv2 := [(2, _), (1, _), (0, _)]) C dL_law_15 (by decide) rfl rfl ?_
  intro ls H locs hl hP hD hS
  let σ0 : St := (fun k => if k = 5 then 50 else if k = 21 then 50 else if k = 29 then 99 else 0, fun _ => 0, fun k => if k = 4 then f26_q27_23_px else if k = 6 then f38_q38_26_px else if k = 16 then (fun _ => -1) else if k = 29 then f153_pm else if k = 31 then f174_pm else (fun _ => 0), fun _ _ => 0)
  let Λ2 : LY := (fun k => ([px, q5_0_px, q16_20_px, q27_23_px, q38_26_px, q49_29_px, q60_32_px, q71_33_px, q83_px, q7_q5_0_px, q14_1_q5_0_px, q27_q5_0_px, q35_q5_0_px, q43_q5_0_px, q7_q16_20_px, q15_q16_20_px, q6_q27_23_px, q14_q27_23_px, q7_q38_26_px, q15_q38_26_px, q7_q49_29_px, q15_q49_29_px, q7_q71_33_px, q7_q14_1_q5_0_px, q15_q14_1_q5_0_px, q23_q14_1_q5_0_px, q31_q14_1_q5_0_px, q71_9_q5_0_px, q71_10_q5_0_px, q71_11_q5_0_px, q71_12_q5_0_px, q71_13_q5_0_px, q71_14_q5_0_px, q71_15_q5_0_px, q71_16_q5_0_px, q71_17_q5_0_px, q71_18_q5_0_px, pm, q7_pm, q15_pm, q23_pm, q31_pm, q39_pm, q47_pm, q55_pm, q63_pm, q71_pm, q79_pm, q87_pm, q94_pm, q108_pm, q116_pm, q124_pm, q132_pm, q146_pm] : List Nat).getD k 0, Λ.2)
  have hat : va_at (dG Λ) vwCl (q7_q5_0_px, .inl (cR Λ, 10, .inr (.inr (.inr (.inr (fun i => some (adr Λ2 (27 + i)))))))) H := by
    have h1 := hP 2 _ rfl
    show H[q7_q5_0_px]? = some (vp_cell _ _)
    rw [arrR (f := fun i => some (adr Λ2 (27 + i))) (g := g0_q5_0_px) (fun i hi => by
      rw [hp9_0 i hi]
      rcases (show i = 0 ∨ i = 1 ∨ i = 2 ∨ i = 3 ∨ i = 4 ∨ i = 5 ∨ i = 6 ∨ i = 7 ∨ i = 8 ∨ i = 9 by omega) with rfl | rfl | rfl | rfl | rfl | rfl | rfl | rfl | rfl | rfl <;> rfl)]
    exact h1
  have hP2 := hP.set hD (p := 2) rfl hat (fun _ _ => rfl)
  have hD2 := hD.set (p := 2) (e := .inl (cR Λ, 10, .inr (.inr (.inr (.inr (fun i => some (adr Λ2 (27 + i)))))))) rfl
  have hP3 : va_P (dG Λ2) vwCl (Wd Λ2 σ0) H := hP2.sub (ws' := Wd Λ2 σ0) [0, 1, 21, 24, 27, 30, 33, 34, 36, 2, 3, 8, 9, 10, 22, 23, 25, 26, 28, 29, 31, 32, 35, 4, 5, 6, 7, 11, 12, 13, 14, 15, 16, 17, 18, 19, 20, 37, 38, 39, 40, 41, 42, 43, 44, 45, 46, 47, 48, 49, 50, 51, 52, 53, 54] rfl
  have hD3 : va_D (AA Λ2) (Wd Λ2 σ0) := hD2.sub (ws' := Wd Λ2 σ0) [0, 1, 21, 24, 27, 30, 33, 34, 36, 2, 3, 8, 9, 10, 22, 23, 25, 26, 28, 29, 31, 32, 35, 4, 5, 6, 7, 11, 12, 13, 14, 15, 16, 17, 18, 19, 20, 37, 38, 39, 40, 41, 42, 43, 44, 45, 46, 47, 48, 49, 50, 51, 52, 53, 54] (by decide) rfl
  have hI : Init σ0 := by
    refine ⟨fun k => rfl, fun k => rfl, fun i hi => ⟨hp9_1 i hi, hp10_1 i hi⟩, fun i hi => ⟨hp9_2 i hi, hp10_0 i hi⟩, fun i => rfl, fun k h1 h2 h3 h4 h5 i => ?_, fun k i => rfl⟩
    show (if k = 4 then f26_q27_23_px else if k = 6 then f38_q38_26_px else if k = 16 then (fun _ => -1) else if k = 29 then f153_pm else if k = 31 then f174_pm else (fun _ => 0)) i = 0
    rw [if_neg h1, if_neg h2, if_neg h3, if_neg h4, if_neg h5]
  have C2 : OK X Λ2 cL_law 4 RL 13 598 := ⟨hx, hb, hml, hown, hG, hlocks, hK, fun σ2 => Wd_D hD3 σ2, ⟨hZC, hZS, hTC, hTS, hNW⟩, Nat.le_refl _, rfl, rfl, (show (55 : Nat) ≤ 600000 by decide), (show (690 : Nat) ≤ 7302250 by decide)⟩
  have V : VV X Λ2 4 16 [(2, .ref (adr Λ2 37)), (1, .ref (adr Λ2 0)), (0, .ref b)] [] σ0 := by
    refine v_iconst (pc2 := 17) C2 dL_law_16 ki_0 rfl ?_
    refine v_istore_n (pc2 := 18) (lv2 := [(3, _), (2, _), (1, _), (0, _)]) C2 dL_law_17 (by decide) rfl rfl ?_
    exact law_loop HP hL C2 ⟨hX, hbl, hbl⟩ hr rfl rfl rfl rfl (show (55 : Nat) ≤ 600000 by decide) (show (690 : Nat) ≤ 7302250 by decide) 513 0 σ0 (0 : Int32) (H0 σ0 hI) ⟨by rw [lit_0]; decide, by rw [lit_0]; omega, by rw [lit_0]; decide⟩
  exact V ls H locs hl hP3 hS
