/-- the class's numbers of one state, the reference's of another -/
def mix (σ τ : St) : St := (fun k => if k < 20 then σ.1 k else τ.1 k, τ.2.1, fun k => if k < 20 then σ.2.2.1 k else τ.2.2.1 k, fun k => if k < 10 then σ.2.2.2 k else τ.2.2.2 k)
def cLoB (B : Int) (σ : St) : Prop := 0 ≤ (gI σ 24).toInt ∧ (gI σ 24).toInt ≤ B ∧ (gI σ 6).toInt = if (gI σ 24).toInt ≤ 3 then (gI σ 24).toInt else 3
def RelB (B : Int) (σ : St) : Prop := Safe σ ∧ (cCnt σ ∧ cRow σ) ∧ cSky σ ∧ (cCeil σ ∧ cWind σ ∧ cCln σ ∧ cLim σ) ∧ (cNh σ ∧ cLt σ ∧ cLoB B σ ∧ cStow σ ∧ cBeg σ ∧ cSta σ ∧ cBook σ ∧ cAll σ) ∧ cTape σ ∧ cFnd σ ∧ cTry σ
theorem Rel.b {k : Nat} {σ : St} (h : Rel k σ) : RelB (48 * (k : Int)) σ := h
theorem RelB.up {B C : Int} {σ : St} (h : RelB B σ) (hc : B ≤ C) : RelB C σ := by
  obtain ⟨h1, h2, h3, h4, ⟨a1, a2, ⟨b1, b2, b3⟩, a4⟩, h6⟩ := h
  exact ⟨h1, h2, h3, h4, ⟨a1, a2, ⟨b1, by omega, b3⟩, a4⟩, h6⟩
theorem mixSafe {σ τ : St} (hσ : Safe σ) (hτ : Safe τ) : Safe (mix σ τ) :=
  ⟨hσ.1, hσ.2.1, hσ.2.2.1, hσ.2.2.2.1, hσ.2.2.2.2.1, hσ.2.2.2.2.2.1, hτ.2.2.2.2.2.2.1, hτ.2.2.2.2.2.2.2.1, hτ.2.2.2.2.2.2.2.2.1, hσ.2.2.2.2.2.2.2.2.2⟩
def HB2 (B : Int) (σ τ : St) : Prop := Safe σ ∧ Safe τ ∧ RelB B (mix σ τ)
theorem mod_nh (H : Int32) : (H + 1) - (H + 1) / 24 * 24 = (H + 1) - (H + 1) / 24 * 24 := rfl
set_option maxHeartbeats 4000000 in
theorem hour_two {B : Int} {σ τ : St} (hB : B ≤ 2147480000) (h : HB2 B σ τ) : HB2 (B + 1) (f9_passHour σ) (f10_hour τ).2 ∧ gI (f9_passHour σ) 9 = (f10_hour τ).1 ∧ Ag uCI uCA uCB σ (f9_passHour σ) ∧ Ag uRI uRA uRB τ (f10_hour τ).2 := by
  obtain ⟨hσ, hτ, h1, ⟨h2, h3⟩, h4, ⟨h5, h6, h7, h8⟩, ⟨h9, h10, h11, h12, h13, h14, h15, h16⟩, h17, h18, h19⟩ := h
  have k2 : gI σ 2 = gI τ 20 := h2
  have k3 : ∀ i : Nat, (i : Int) < (gI σ 2).toInt → (gA σ 10 i = gA τ 20 i ∧ gA σ 11 i = gA τ 21 i ∧ gA σ 12 i = gA τ 22 i ∧ gA σ 13 i = gA τ 23 i ∧ gA σ 14 i = gA τ 24 i ∧ gA σ 15 i = gA τ 25 i ∧ gA σ 16 i = gA τ 26 i) ∧ RowOk σ i := h3
  have k4 : ∀ i : Nat, i < 24 → (gA σ 2 i = gA τ 27 i ∧ gA σ 3 i = gA τ 28 i) ∧ (-1000 ≤ (gA σ 2 i).toInt ∧ (gA σ 2 i).toInt ≤ 1000) ∧ (0 ≤ (gA σ 3 i).toInt ∧ (gA σ 3 i).toInt ≤ 1000) := h4
  have k5 : ∀ i : Nat, i < 4 → gA σ 4 i = gA τ 31 i ∧ 0 ≤ (gA σ 4 i).toInt ∧ (gA σ 4 i).toInt ≤ 1000000 := h5
  have k6 : ∀ i : Nat, i < 24 → gA σ 6 i = gA τ 29 i ∧ -1 ≤ (gA σ 6 i).toInt ∧ (gA σ 6 i).toInt ≤ 200 := h6
  have k7 : ∀ i : Nat, i < 24 → gA σ 7 i = gA τ 30 i ∧ (gA σ 7 i = 0 ∨ gA σ 7 i = 1) := h7
  have k8 : gI σ 5 = gI τ 21 ∧ 1 ≤ (gI σ 5).toInt ∧ (gI σ 5).toInt ≤ 200 := h8
  have k9 : gI σ 0 = gI τ 22 := h9
  have k10 : gI σ 1 = gI τ 26 := h10
  have k11 : 0 ≤ (gI τ 24).toInt ∧ (gI τ 24).toInt ≤ B ∧ (gI σ 6).toInt = if (gI τ 24).toInt ≤ 3 then (gI τ 24).toInt else 3 := h11
  have k12 : (gI σ 7 = 0 ∨ gI σ 7 = 1) ∧ (gI σ 7 = 1 ↔ gI τ 23 = 2) := h12
  have k13 : gI σ 8 = gI τ 25 ∧ (gI σ 8 = 0 ∨ gI σ 8 = 1) := h13
  have k14 : gI σ 9 = gI τ 23 ∧ gI τ 27 = gI τ 23 := h14
  have k16 : ∀ i : Nat, i < 6 → gB σ 3 i = gB τ 11 i := h16
  have k17 : gI σ 12 = gI τ 28 ∧ ∀ i : Nat, (i : Int) < (gI σ 12).toInt → gA σ 8 i = gA τ 32 i := h17
  have k18 : ∀ i : Nat, i < 5 → gA σ 0 i = gA τ 33 (i + 1) := h18
  have k19 : gI τ 29 = 99 := h19
  clear h1 h2 h3 h4 h5 h6 h7 h8 h9 h10 h11 h12 h13 h14 h15 h16 h17 h18 h19
  have sF9 : Safe (f9_passHour σ) := sX9_passHour hσ
  have sF10 : Safe (f10_hour τ).2 := sX10_hour hτ
  have hH : vp_in (gI σ 0) 24 := vin hσ.nh.1 (by have := hσ.nh; omega)
  have hlt := hσ.lt
  have hcnt := hσ.cnt
  obtain ⟨H, eH⟩ : ∃ H, gI σ 0 = H := ⟨_, rfl⟩
  have eH2 : gI τ 22 = H := k9.symm.trans eH
  rw [eH] at hH
  -- the state
  obtain ⟨z, σa, τa, ea, eb, Aa, Ab, z1, z2, z3, z4⟩ := state_two (H := H) hB (k6 _ (vlt hH)).1 (k7 _ (vlt hH)).1 k8.1 k11 k12
  have sa : Safe σa := by have := sX8_stateAt (a := H) hσ; rw [ea] at this; exact this
  have sb : Safe τa := by have := sX10_findState (a := H) hτ; rw [eb] at this; exact this
  have kga : Rg2 σa τa := by
    unfold Rg2 RowOk
    rw [Aa.1 2 rfl, Ab.1 20 rfl, Ab.1 29 rfl, Aa.2.1 10 rfl, Aa.2.1 11 rfl, Aa.2.1 12 rfl, Aa.2.1 13 rfl, Aa.2.1 14 rfl, Aa.2.1 15 rfl, Aa.2.1 16 rfl, Aa.2.1 2 rfl, Aa.2.1 3 rfl, Ab.2.1 20 rfl, Ab.2.1 21 rfl, Ab.2.1 22 rfl, Ab.2.1 23 rfl, Ab.2.1 24 rfl, Ab.2.1 25 rfl, Ab.2.1 26 rfl, Ab.2.1 27 rfl, Ab.2.1 28 rfl]
    exact ⟨sa, sb, k2, k3, k4, k19⟩
  -- the steps
  obtain ⟨t1, t2, t3⟩ := target_two kga hH z1 z4
  have trg := ts_rg σa H z
  have sbb : Safe (f9_targetStep σa H z).2 := sX9_targetStep sa
  obtain ⟨t, σb, ets⟩ : ∃ t σb, f9_targetStep σa H z = (t, σb) := ⟨(f9_targetStep σa H z).1, (f9_targetStep σa H z).2, rfl⟩
  obtain ⟨t', τs, ets2⟩ : ∃ t' τs, f10_stepFor τa H = (t', τs) := ⟨(f10_stepFor τa H).1, (f10_stepFor τa H).2, rfl⟩
  rw [ets, ets2] at t1
  rw [ets] at t2 trg sbb
  rw [ets2] at t3
  dsimp only at t1 t2 t3 trg sbb
  subst t1 t3
  have e9a : ∀ lf : Int32, f9_passHour_a σ H lf = f9_passHour_c σb H lf z t := fun lf => by
    unfold f9_passHour_a; rw [ea]; unfold f9_passHour_b; dsimp only; rw [ets]
  have e10a : f10_setSteps τs H = f10_setSteps_a τs t := by unfold f10_setSteps; rw [ets2]
  have key : ∃ la lt, (lt = if la = 0 then t else gI τs 26) ∧ (-12 ≤ lt.toInt ∧ lt.toInt ≤ 12) ∧ f9_passHour σ = f9_passHour_d (f0_turnTo σb t lt) H z t ∧ f10_setSteps τs H = f10_setSteps_L t la 11 τs 0 := by
    rw [e10a]
    unfold f9_passHour f10_setSteps_a
    rw [eH, e9a, e9a, Ab.1 25 rfl, Ab.1 27 rfl, z1, ← k13.1, k14.2, ← k14.1]
    unfold f9_passHour_c
    by_cases c1 : gI σ 8 = 0
    · exact ⟨0, t, (if_pos rfl).symm, trg, by rw [if_pos c1, if_pos rfl], by rw [if_pos c1]⟩
    by_cases c2 : gI σ 9 = 2
    · exact ⟨0, t, (if_pos rfl).symm, trg, by rw [if_neg c1, if_pos c2, if_pos rfl], by rw [if_neg c1, if_pos c2]⟩
    by_cases c3 : z = 2
    · exact ⟨0, t, (if_pos rfl).symm, trg, by rw [if_neg c1, if_neg c2, if_neg (by decide), if_pos c3], by rw [if_neg c1, if_neg c2, if_pos c3]⟩
    · have e26 : gI σb 1 = gI τs 26 := by rw [t2.1 1 rfl, Aa.1 1 rfl, Ab.1 26 rfl]; exact k10
      exact ⟨1, gI σb 1, by rw [if_neg (by decide)]; exact e26, by rw [t2.1 1 rfl, Aa.1 1 rfl]; exact hlt, by rw [if_neg c1, if_neg c2, if_neg (by decide), if_neg c3], by rw [if_neg c1, if_neg c2, if_neg c3]⟩
  obtain ⟨la, lt, el, lrg, eP, eS⟩ := key
  obtain ⟨c, hc⟩ : ∃ c : Nat, (c : Int) = (gI σ 2).toInt := ⟨(gI σ 2).toInt.toNat, by omega⟩
  have c2a : gI σb 2 = gI σ 2 := (t2.1 2 rfl).trans (Aa.1 2 rfl)
  have row : ∀ i, i < c → (gA σ 10 i = gA τ 20 i ∧ gA σ 11 i = gA τ 21 i ∧ gA σ 12 i = gA τ 22 i ∧ gA σ 13 i = gA τ 23 i ∧ gA σ 14 i = gA τ 24 i ∧ gA σ 15 i = gA τ 25 i ∧ gA σ 16 i = gA τ 26 i) ∧ RowOk σ i := fun i hi => k3 i (by omega)
  obtain ⟨y1, y2, τ1, y3, y4⟩ := turn_two (t := t) (lt := lt) (la := la) (c := c) (by omega) 11 σb τs 0 0 (by rw [c2a]; exact hc) (by rw [Ab.1 20 rfl, ← k2]; exact hc) (fun i hi => by rw [t2.2.1 10 rfl, Aa.2.1 10 rfl, Ab.2.1 20 rfl]; exact (row i hi).1.1) (fun i hi => by rw [t2.2.1 15 rfl, Aa.2.1 15 rfl, Ab.2.1 25 rfl]; exact (row i hi).1.2.2.2.2.2.1) el z6 (by omega) (by omega)
  have eT : f0_turnTo σb t lt = f0_turnTo_L t lt 11 σb 0 := rfl
  rw [← eT, ← eS] at y1
  rw [← eT] at y2
  rw [← eS] at y3
  have sc : Safe (f0_turnTo σb t lt) := sX0_turnTo trg lrg sbb
  have sd : Safe (f10_setSteps τs H) := sX10_setSteps sb
  have e10 : f10_hour τ = f10_hour_L H 11 (f10_writeBook (f10_setSteps τs H) H) 0 := by unfold f10_hour; rw [eH2, eb]
  generalize f0_turnTo σb t lt = σc at y1 y2 sc eP
  generalize f10_setSteps τs H = τc at y1 y3 sd e10
  have Y4 : Ag uRI uRA uRB τs τc := by
    rw [y3]; exact ((y4.mono (fun _ _ => rfl) uRA_a25 (fun _ _ => rfl)).uI rfl).uI rfl
  have c26 : gI τc 26 = t := by rw [y3]; rfl
  have c27 : gI τc 27 = z := by rw [y3, y4.1 23 rfl]; exact z1
  have c23 : gI τc 23 = z := by rw [y3]; exact (y4.1 23 rfl).trans z1
  have c24 : gI τc 24 = gI τs 24 := by rw [y3]; exact y4.1 24 rfl
  have c25 : gA τc 24 = gA τs 24 := by rw [y3]; exact y4.2.1 24 rfl
  have cx : ∀ k, k ≠ 25 → gA τc k = gA τs k := fun k hk => by rw [y3]; exact y4.2.1 k (by unfold a25; simpa using hk)
  have cB : gB τc 11 = gB τs 11 := by rw [y3]; exact y4.2.2 11 rfl
  -- the book's beginning
  obtain ⟨d1, d2, d3, d4, d5⟩ := begin_spec σc H z
  have sdd : Safe (f1_begin σc H z) := sX1_begin sc
  unfold f9_passHour_d at eP
  generalize f1_begin σc H z = σd at d1 d2 d3 d4 d5 sdd eP
  have AD : Ag uCI uCA uCB σ σd := (((Aa.mono uCI_i67 (fun _ _ => rfl) (fun _ _ => rfl)).tr (t2.mono uCI_sI3 (fun _ _ => rfl) uCB_b45)).tr (y2.mono (fun _ _ => rfl) uCA_a15 (fun _ _ => rfl))).tr (d1.mono uCI_i8910 (fun _ _ => rfl) uCB_b2x)
  have AT : Ag uRI uRA uRB τ τc := (Ab.mono uRI_i234 (fun _ _ => rfl) (fun _ _ => rfl)).tr Y4
  have d14 : gA σd 14 = gA σ 14 := by rw [d1.2.1 14 rfl, y2.2.1 14 rfl, t2.2.1 14 rfl, Aa.2.1 14 rfl]
  have d24 : gA τc 24 = gA τ 24 := by rw [c25, Ab.2.1 24 rfl]
  have kgd : Rg2 σd τc := by
    refine ⟨sdd, sd, by rw [AD.1 2 rfl, AT.1 20 rfl]; exact k2, fun i hi => ?_, fun i hi => ?_, by rw [AT.1 29 rfl]; exact k19⟩
    · rw [AD.1 2 rfl] at hi
      obtain ⟨⟨r0, r1, r2, r3, r4, r5, r6⟩, r7⟩ := k3 i hi
      unfold RowOk at r7 ⊢
      rw [AD.2.1 10 rfl, AD.2.1 11 rfl, AD.2.1 12 rfl, AD.2.1 13 rfl, d14, AD.2.1 16 rfl, AT.2.1 20 rfl, AT.2.1 21 rfl, AT.2.1 22 rfl, AT.2.1 23 rfl, d24, AT.2.1 26 rfl, d1.2.1 15 rfl]
      exact ⟨⟨r0, r1, r2, r3, r4, y1 i (by omega), r6⟩, r7⟩
    · rw [AD.2.1 2 rfl, AD.2.1 3 rfl, AT.2.1 27 rfl, AT.2.1 28 rfl]; exact k4 i hi
  have d3B : gB σd 3 = gB σ 3 := by rw [d1.2.2 3 rfl, y2.2.2 3 rfl, t2.2.2 3 rfl, Aa.2.2 3 rfl]
  obtain ⟨w1, w2, w3, w4, w5, w6⟩ := book_two kgd hH d5 (fun q hq => by rw [AD.2.1 4 rfl, AT.2.1 31 rfl]; exact ⟨(k5 q hq).1, (k5 q hq).2.1⟩) (fun i hi => by rw [d3B, cB, Ab.2.2 11 rfl]; exact k16 i hi) (σg := if f4_isNight σd H = 0 then f5_bookInto (f0_weighAll (f9_lookFrom σd H)) else σd) rfl
  have eE : f9_passHour_e σd H z t = f9_passHour_f (if f4_isNight σd H = 0 then f5_bookInto (f0_weighAll (f9_lookFrom σd H)) else σd) H z t := by
    unfold f9_passHour_e
    by_cases q : f4_isNight σd H = 0
    · rw [if_pos q, if_pos q]
    · rw [if_neg q, if_neg q]
  rw [eE] at eP
  unfold f9_passHour_f at eP
  generalize (if f4_isNight σd H = 0 then f5_bookInto (f0_weighAll (f9_lookFrom σd H)) else σd) = σg at w1 w2 w5 eP
  generalize f1_addToSums σg = σh at w1 w2 w5 eP
  generalize f10_writeBook τc H = τh at w1 w2 w3 w4 w6 e10
  have h2c : (c : Int) = (gI σh 2).toInt := by rw [w5.1 2 rfl, AD.1 2 rfl]; exact hc
  -- the hour's end
  obtain ⟨τe, v1, v2, v3, v4⟩ := hourL (H := H) (c := c) 11 τh 0 0 (by rw [w6.1 20 rfl, AT.1 20 rfl, ← k2]; exact hc) (by omega) z6 (by omega) (by omega)
  rw [v1] at e10
  have zh : gI τh 23 = z := by rw [w6.1 23 rfl]; exact c23
  have wash : ∃ σe, f9_passHour σ = uI (uI σe 1 t) 0 ((H + 1) - (H + 1) / 24 * 24) ∧ Ag pT a14 pT σh σe ∧ ∀ i, i < c → gA σe 14 i = gA τe 24 i ∧ 0 ≤ (gA σe 14 i).toInt ∧ (gA σe 14 i).toInt ≤ 1000 := by
    by_cases q : z = 1
    · rw [if_pos q] at eP
      obtain ⟨x1, x2, x3⟩ := washA (c := c) 11 σh 0 0 h2c (by omega) z6 (by omega) (by omega)
      refine ⟨f0_washAll σh, eP, x1, fun i hi => ?_⟩
      have x4 : gA (f0_washAll σh) 14 i = 0 := x2 i (by omega) hi
      rw [x4, (v3 (zh.trans q)).1 i (by omega) hi, lit_0]
      exact ⟨rfl, by omega, by omega⟩
    · rw [if_neg q] at eP
      refine ⟨σh, eP, Ag.rf _, fun i hi => ?_⟩
      rw [v4 (fun w => q (zh.symm.trans w)), w5.2.1 14 rfl, d14, w6.2.1 24 rfl, d24]
      obtain ⟨⟨r0, r1, r2, r3, r4, r5, r6⟩, q1, q2, q3, q4, q5, q6⟩ := row i hi
      exact ⟨r4, q5⟩
  obtain ⟨σe, eF, x1, x2⟩ := wash
  have e10b : (f10_hour τ).1 = z := by rw [e10]; exact zh
  have e10c : (f10_hour τ).2 = uI (uI τe 25 1) 22 ((H + 1) - (H + 1) / 24 * 24) := by rw [e10]
  rw [e10c] at sF10 ⊢
  rw [e10b]
  rw [eF] at sF9 ⊢
  have gE : ∀ k, k ≠ 0 → k ≠ 1 → k ≠ 3 → k ≠ 4 → k ≠ 13 → gI (uI (uI σe 1 t) 0 ((H + 1) - (H + 1) / 24 * 24)) k = gI σd k := fun k q0 q1 q3 q4 q13 => by
    rw [gI_uI, if_neg q0, gI_uI, if_neg q1, x1.1 k rfl, w5.1 k (by unfold kI; simp [q3, q4, q13])]
  have gR : ∀ k, k ≠ 22 → k ≠ 25 → gI (uI (uI τe 25 1) 22 ((H + 1) - (H + 1) / 24 * 24)) k = gI τc k := fun k q0 q1 => by
    rw [gI_uI, if_neg q0, gI_uI, if_neg q1, v2.1 k rfl, w6.1 k rfl]
  have AC : Ag uCI uCA uCB σ (uI (uI σe 1 t) 0 ((H + 1) - (H + 1) / 24 * 24)) := (((AD.tr (w5.mono uCI_kI uCA_sA uCB_kB)).tr (x1.mono (fun _ _ => rfl) uCA_a14 (fun _ _ => rfl))).uI rfl).uI rfl
  have AR : Ag uRI uRA uRB τ (uI (uI τe 25 1) 22 ((H + 1) - (H + 1) / 24 * 24)) := (((AT.tr (w6.mono (fun _ _ => rfl) (fun _ _ => rfl) (fun _ h => h))).tr (v2.mono (fun _ _ => rfl) uRA_a24 (fun _ _ => rfl))).uI rfl).uI rfl
  have b2' : gB (uI (uI σe 1 t) 0 ((H + 1) - (H + 1) / 24 * 24)) 2 = gB σh 2 := x1.2.2 2 rfl
  have b3' : gB (uI (uI σe 1 t) 0 ((H + 1) - (H + 1) / 24 * 24)) 3 = gB σh 3 := x1.2.2 3 rfl
  have b10' : gB (uI (uI τe 25 1) 22 ((H + 1) - (H + 1) / 24 * 24)) 10 = gB τh 10 := v2.2.2 10 rfl
  have b11' : gB (uI (uI τe 25 1) 22 ((H + 1) - (H + 1) / 24 * 24)) 11 = gB τh 11 := v2.2.2 11 rfl
  have a14' : gA (uI (uI σe 1 t) 0 ((H + 1) - (H + 1) / 24 * 24)) 14 = gA σe 14 := rfl
  have a24' : gA (uI (uI τe 25 1) 22 ((H + 1) - (H + 1) / 24 * 24)) 24 = gA τe 24 := rfl
  have a15' : gA (uI (uI σe 1 t) 0 ((H + 1) - (H + 1) / 24 * 24)) 15 = gA σc 15 := (x1.2.1 15 rfl).trans ((w5.2.1 15 rfl).trans (d1.2.1 15 rfl))
  have a25' : gA (uI (uI τe 25 1) 22 ((H + 1) - (H + 1) / 24 * 24)) 25 = gA τc 25 := (v2.2.1 25 rfl).trans (w6.2.1 25 rfl)
  have g0' : gI (uI (uI σe 1 t) 0 ((H + 1) - (H + 1) / 24 * 24)) 0 = gI (uI (uI τe 25 1) 22 ((H + 1) - (H + 1) / 24 * 24)) 22 := rfl
  have g1' : gI (uI (uI σe 1 t) 0 ((H + 1) - (H + 1) / 24 * 24)) 1 = t := rfl
  have g25' : gI (uI (uI τe 25 1) 22 ((H + 1) - (H + 1) / 24 * 24)) 25 = 1 := rfl
  generalize uI (uI σe 1 t) 0 ((H + 1) - (H + 1) / 24 * 24) = σ' at sF9 gE AC b2' b3' a14' a15' g0' g1' ⊢
  generalize uI (uI τe 25 1) 22 ((H + 1) - (H + 1) / 24 * 24) = τ' at sF10 gR AR b10' b11' a24' a25' g0' g25' ⊢
  have g6 : gI σ' 6 = gI σa 6 := by rw [gE 6 (by decide) (by decide) (by decide) (by decide) (by decide), d1.1 6 rfl, y2.1 6 rfl, t2.1 6 rfl]
  have g7 : gI σ' 7 = gI σa 7 := by rw [gE 7 (by decide) (by decide) (by decide) (by decide) (by decide), d1.1 7 rfl, y2.1 7 rfl, t2.1 7 rfl]
  have g8 : gI σ' 8 = 1 := by rw [gE 8 (by decide) (by decide) (by decide) (by decide) (by decide)]; exact d2
  have g9 : gI σ' 9 = z := by rw [gE 9 (by decide) (by decide) (by decide) (by decide) (by decide)]; exact d3
  have g10 : gI σ' 10 = H := by rw [gE 10 (by decide) (by decide) (by decide) (by decide) (by decide)]; exact d4
  have g23 : gI τ' 23 = z := by rw [gR 23 (by decide) (by decide)]; exact c23
  have g24 : gI τ' 24 = gI τs 24 := by rw [gR 24 (by decide) (by decide)]; exact c24
  have g26 : gI τ' 26 = t := by rw [gR 26 (by decide) (by decide)]; exact c26
  have g27 : gI τ' 27 = z := by rw [gR 27 (by decide) (by decide)]; exact c27
  refine ⟨⟨sF9, sF10, mixSafe sF9 sF10, ⟨?_, ?_⟩, ?_, ⟨?_, ?_, ?_, ?_⟩, ⟨?_, ?_, ?_, ?_, ?_, ?_, ?_, ?_⟩, ?_, ?_, ?_⟩, g9, AC, AR⟩
  · show gI σ' 2 = gI τ' 20
    rw [AC.1 2 rfl, AR.1 20 rfl]; exact k2
  · show ∀ i : Nat, (i : Int) < (gI σ' 2).toInt → (gA σ' 10 i = gA τ' 20 i ∧ gA σ' 11 i = gA τ' 21 i ∧ gA σ' 12 i = gA τ' 22 i ∧ gA σ' 13 i = gA τ' 23 i ∧ gA σ' 14 i = gA τ' 24 i ∧ gA σ' 15 i = gA τ' 25 i ∧ gA σ' 16 i = gA τ' 26 i) ∧ RowOk σ' i
    intro i hi
    rw [AC.1 2 rfl] at hi
    obtain ⟨⟨r0, r1, r2, r3, r4, r5, r6⟩, q1, q2, q3, q4, q5, q6⟩ := k3 i hi
    obtain ⟨u1, u2⟩ := x2 i (by omega)
    have u3 := y1 i (by omega)
    unfold RowOk
    rw [AC.2.1 10 rfl, AC.2.1 11 rfl, AC.2.1 12 rfl, AC.2.1 13 rfl, a14', a15', AC.2.1 16 rfl, AR.2.1 20 rfl, AR.2.1 21 rfl, AR.2.1 22 rfl, AR.2.1 23 rfl, a24', a25', AR.2.1 26 rfl]
    exact ⟨⟨r0, r1, r2, r3, u1, u3, r6⟩, q1, q2, q3, q4, u2, q6⟩
  · show ∀ i : Nat, i < 24 → (gA σ' 2 i = gA τ' 27 i ∧ gA σ' 3 i = gA τ' 28 i) ∧ (-1000 ≤ (gA σ' 2 i).toInt ∧ (gA σ' 2 i).toInt ≤ 1000) ∧ (0 ≤ (gA σ' 3 i).toInt ∧ (gA σ' 3 i).toInt ≤ 1000)
    rw [AC.2.1 2 rfl, AC.2.1 3 rfl, AR.2.1 27 rfl, AR.2.1 28 rfl]; exact k4
  · show ∀ i : Nat, i < 4 → gA σ' 4 i = gA τ' 31 i ∧ 0 ≤ (gA σ' 4 i).toInt ∧ (gA σ' 4 i).toInt ≤ 1000000
    rw [AC.2.1 4 rfl, AR.2.1 31 rfl]; exact k5
  · show ∀ i : Nat, i < 24 → gA σ' 6 i = gA τ' 29 i ∧ -1 ≤ (gA σ' 6 i).toInt ∧ (gA σ' 6 i).toInt ≤ 200
    rw [AC.2.1 6 rfl, AR.2.1 29 rfl]; exact k6
  · show ∀ i : Nat, i < 24 → gA σ' 7 i = gA τ' 30 i ∧ (gA σ' 7 i = 0 ∨ gA σ' 7 i = 1)
    rw [AC.2.1 7 rfl, AR.2.1 30 rfl]; exact k7
  · show gI σ' 5 = gI τ' 21 ∧ 1 ≤ (gI σ' 5).toInt ∧ (gI σ' 5).toInt ≤ 200
    rw [AC.1 5 rfl, AR.1 21 rfl]; exact k8
  · exact g0'
  · show gI σ' 1 = gI τ' 26
    rw [g1', g26]
  · show 0 ≤ (gI τ' 24).toInt ∧ (gI τ' 24).toInt ≤ B + 1 ∧ (gI σ' 6).toInt = if (gI τ' 24).toInt ≤ 3 then (gI τ' 24).toInt else 3
    rw [g24, g6]; exact z2
  · show (gI σ' 7 = 0 ∨ gI σ' 7 = 1) ∧ (gI σ' 7 = 1 ↔ gI τ' 23 = 2)
    rw [g7, g23]; exact z3
  · show gI σ' 8 = gI τ' 25 ∧ (gI σ' 8 = 0 ∨ gI σ' 8 = 1)
    rw [g8, g25']; exact ⟨rfl, Or.inr rfl⟩
  · show gI σ' 9 = gI τ' 23 ∧ gI τ' 27 = gI τ' 23
    rw [g9, g23, g27]; exact ⟨rfl, rfl⟩
  · show (∀ i : Nat, i < 6 → gB σ' 2 i = gB τ' 10 i) ∧ gB τ' 10 6 = (gI σ' 9).toInt64 ∧ gB τ' 10 7 = (gI σ' 10).toInt64
    rw [b2', b10', g9, g10]
    exact ⟨w1, by rw [w3, c23], w4⟩
  · show ∀ i : Nat, i < 6 → gB σ' 3 i = gB τ' 11 i
    rw [b3', b11']; exact w2
  · show gI σ' 12 = gI τ' 28 ∧ ∀ i : Nat, (i : Int) < (gI σ' 12).toInt → gA σ' 8 i = gA τ' 32 i
    rw [AC.1 12 rfl, AR.1 28 rfl, AC.2.1 8 rfl, AR.2.1 32 rfl]; exact k17
  · show ∀ i : Nat, i < 5 → gA σ' 0 i = gA τ' 33 (i + 1)
    rw [AC.2.1 0 rfl, AR.2.1 33 rfl]; exact k18
  · show gI τ' 29 = 99
    rw [AR.1 29 rfl]; exact k19
theorem mix_of {B : Int} {σ τ : St} (g : Ag uCI uCA uCB σ τ) (h : RelB B σ) : RelB B (mix σ τ) := by
  have e : mix σ τ = (σ.1, τ.2.1, σ.2.2.1, σ.2.2.2) := by
    unfold mix
    refine Prod.ext (funext (fun k => ?_)) (Prod.ext rfl (Prod.ext (funext (fun k => ?_)) (funext (fun k => ?_))))
    · show (if k < 20 then σ.1 k else τ.1 k) = σ.1 k
      by_cases q : k < 20
      · rw [if_pos q]
      · rw [if_neg q]; exact g.1 k (refI_uCI k (by unfold refI; simp; omega))
    · show (if k < 20 then σ.2.2.1 k else τ.2.2.1 k) = σ.2.2.1 k
      by_cases q : k < 20
      · rw [if_pos q]
      · rw [if_neg q]; exact g.2.1 k (refI_uCA k (by unfold refI; simp; omega))
    · show (if k < 10 then σ.2.2.2 k else τ.2.2.2 k) = σ.2.2.2 k
      by_cases q : k < 10
      · rw [if_pos q]
      · rw [if_neg q]; exact g.2.2 k (refB_uCB k (by unfold refB; simp; omega))
  rw [e]; exact h
theorem of_mix {B : Int} {σ τ : St} (g : Ag uRI uRA uRB σ τ) (h : RelB B (mix σ τ)) : RelB B τ := by
  have e : mix σ τ = τ := by
    unfold mix
    refine Prod.ext (funext (fun k => ?_)) (Prod.ext rfl (Prod.ext (funext (fun k => ?_)) (funext (fun k => ?_))))
    · show (if k < 20 then σ.1 k else τ.1 k) = τ.1 k
      by_cases q : k < 20
      · rw [if_pos q]; exact (g.1 k (clsI_uRI k (by unfold clsI; simp; omega))).symm
      · rw [if_neg q]
    · show (if k < 20 then σ.2.2.1 k else τ.2.2.1 k) = τ.2.2.1 k
      by_cases q : k < 20
      · rw [if_pos q]; exact (g.2.1 k (clsI_uRA k (by unfold clsI; simp; omega))).symm
      · rw [if_neg q]
    · show (if k < 10 then σ.2.2.2 k else τ.2.2.2 k) = τ.2.2.2 k
      by_cases q : k < 10
      · rw [if_pos q]; exact (g.2.2 k (clsB_uRB k (by unfold clsB; simp; omega))).symm
      · rw [if_neg q]
  rw [e] at h; exact h
theorem pu_hour (k : Nat) (σ : St) (hk : k ≤ 600) (h : Rel k σ) : Safe (f9_hour σ).2 ∧ (f9_hour σ).1 = (f10_hour (f9_hour σ).2).1 ∧ Rel (k + 1) (f10_hour (f9_hour σ).2).2 := by
  show Safe (f9_passHour σ) ∧ gI (f9_passHour σ) 9 = (f10_hour (f9_passHour σ)).1 ∧ RelB (48 * ((k + 1 : Nat) : Int)) (f10_hour (f9_passHour σ)).2
  obtain ⟨-, -, AC, -⟩ := hour_two (B := 48 * (k : Int)) (by omega) ⟨h.1, h.1, mix_of (Ag.rf σ) h.b⟩
  have s1 : Safe (f9_passHour σ) := sX9_passHour h.1
  obtain ⟨⟨-, -, r1⟩, r2, -, AR⟩ := hour_two (B := 48 * (k : Int)) (by omega) ⟨h.1, s1, mix_of AC h.b⟩
  exact ⟨s1, r2, (of_mix AR r1).up (by omega)⟩
