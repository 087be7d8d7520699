/-! the class's choice -/
theorem nI_or (a b : Nat) : nI (a ||| b) = nI a ||| nI b := Int32.toBitVec_inj.1 (show BitVec.ofNat 32 (a ||| b) = BitVec.ofNat 32 a ||| BitVec.ofNat 32 b from BitVec.ofNat_or)
theorem p10 {c : Nat} (h : c ≤ 10) : 2 ^ c ≤ 1024 := Nat.pow_le_pow_right (n := 2) (by decide) h
theorem nI_p2 {S c : Nat} (h : S < 2 ^ c) (hc : c ≤ 10) : (nI S).toInt = S := by
  have := p10 hc
  exact nI_toInt (by omega)
theorem shl_nI {f : Nat} (h : f < 10) : (1 : Int32) <<< (nI f &&& 31) = nI (2 ^ f) := by
  have : ∀ f : Nat, f < 10 → (1 : Int32) <<< (nI f &&& 31) = nI (2 ^ f) := by decide +kernel
  exact this f h
theorem jl_10 : (10 : Int64).toInt = 10 := by decide
def i11 (k : Nat) : Bool := k != 11
def i30 (k : Nat) : Bool := k != 30
def DM (g : Nat → Int) (c : Nat) (σ : St) (Q : Nat → Prop) : Prop := ∃ b : Nat, gI σ 11 = nI b ∧ b < 2 ^ c ∧ VAL g c b (gJ σ 0).toInt ∧ ∀ S w, Q S → VAL g c S w → w < (gJ σ 0).toInt ∨ (w = (gJ σ 0).toInt ∧ b ≤ S)
theorem DM.mo {g : Nat → Int} {c : Nat} {σ : St} {Q R : Nat → Prop} (h : DM g c σ Q) (m : ∀ S, R S → Q S) : DM g c σ R := by
  obtain ⟨b, h1, h2, h3, h4⟩ := h
  exact ⟨b, h1, h2, h3, fun S w q => h4 S w (m S q)⟩
theorem take_spec {g : Nat → Int} {c : Nat} (h10 : c ≤ 10) {σ : St} {Q : Nat → Prop} {S : Nat} {x : Int64} (h : DM g c σ Q) (hS : S < 2 ^ c) (hv : VAL g c S x.toInt) : DM g c (f7_take σ x (nI S)) (fun T => Q T ∨ T = S) ∧ Ag i11 pT pT σ (f7_take σ x (nI S)) := by
  obtain ⟨b, b1, b2, b3, b4⟩ := h
  have eS := nI_p2 hS h10
  have eb := nI_p2 b2 h10
  unfold f7_take
  have upd1 : (gJ σ 0).toInt ≤ x.toInt → (x.toInt = (gJ σ 0).toInt → S ≤ b) → DM g c (uI (uJ σ 0 x) 11 (nI S)) (fun T => Q T ∨ T = S) := by
    intro q1 q2
    have ej : gJ (uI (uJ σ 0 x) 11 (nI S)) 0 = x := rfl
    refine ⟨S, rfl, hS, by rw [ej]; exact hv, fun T w hT hw => ?_⟩
    rw [ej]
    rcases hT with hT | hT
    · have := b4 T w hT hw
      by_cases e : x.toInt = (gJ σ 0).toInt
      · have := q2 e; omega
      · omega
    · subst hT
      exact Or.inr ⟨hw.u hv, Nat.le_refl _⟩
  by_cases c1 : gJ σ 0 < x
  · rw [if_pos c1]
    rw [l_lt] at c1
    exact ⟨upd1 (by omega) (fun q => by omega), Ag.uI (Ag.uJ (Ag.rf σ)) rfl⟩
  rw [if_neg c1]
  rw [l_lt] at c1
  by_cases c2 : x = gJ σ 0
  · rw [if_pos c2]
    have c2' : x.toInt = (gJ σ 0).toInt := by rw [c2]
    by_cases c3 : gI σ 11 ≤ nI S
    · rw [if_pos c3]
      rw [b1, i_le, eb, eS] at c3
      refine ⟨⟨b, b1, b2, b3, fun T w hT hw => ?_⟩, Ag.rf _⟩
      rcases hT with hT | hT
      · exact b4 T w hT hw
      · subst hT
        have := hw.u hv
        exact Or.inr ⟨by omega, by omega⟩
    · rw [if_neg c3]
      rw [b1, i_le, eb, eS] at c3
      exact ⟨upd1 (by omega) (fun _ => by omega), Ag.uI (Ag.uJ (Ag.rf σ)) rfl⟩
  · rw [if_neg c2]
    rw [j_eq] at c2
    refine ⟨⟨b, b1, b2, b3, fun T w hT hw => ?_⟩, Ag.rf _⟩
    rcases hT with hT | hT
    · exact b4 T w hT hw
    · subst hT
      have := hw.u hv
      omega
def Qi (g : Nat → Int) (c f ln S : Nat) : Prop := S = 0 ∨ ∃ f' l', CD g f' l' S ∧ l' < c ∧ (f' < f ∨ (f' = f ∧ l' < ln))
theorem sN_bd4 {f : Nat → Int} : ∀ {n : Nat}, (∀ i, i < n → -1000000 ≤ f i ∧ f i ≤ 40000000) → -1000000 * (n : Int) ≤ sN f n ∧ sN f n ≤ 40000000 * (n : Int)
  | 0, _ => ⟨Int.le_refl _, Int.le_refl _⟩
  | n + 1, h => by
    have a := sN_s f n
    have b := sN_bd4 (n := n) (fun i hi => h i (by omega))
    have c := h n (by omega)
    omega
theorem gain_ag {σ τ : St} (g : Ag i11 pT pT σ τ) (i : Nat) (a b : Int32) : f7_gain τ i a b = f7_gain σ i a b := by
  unfold f7_gain; rw [g.2.1 14 rfl, g.2.1 13 rfl]
theorem chI {g : Nat → Int} {c : Nat} (h10 : c ≤ 10) (hg : ∀ i, i < c → -1000000 ≤ g i ∧ g i ≤ 40000000) {a2 a3 : Int32} {f : Nat} {fg : Int64} (hf : f < c) (hfg : fg.toInt = g f) : ∀ (n : Nat) (σ : St) (inn : Int64) (iset la : Int32) (ln : Nat), (c : Int) = (gI σ 2).toInt → (∀ i, i < c → (f7_gain σ i a2 a3).toInt = g i) → inn.toInt = inS g f ln → iset = nI (isN g f ln) → (ln : Int) = la.toInt → f < ln → ln ≤ c → c < ln + n → DM g c σ (Qi g c f ln) →
    DM g c (f7_choose_I a2 a3 (nI f) fg n σ inn iset la) (Qi g c f c) ∧ Ag i11 pT pT σ (f7_choose_I a2 a3 (nI f) fg n σ inn iset la)
  | 0, σ, inn, iset, la, ln, hc, hgn, hin, his, hl, h0, h1, hfu, D => by omega
  | n + 1, σ, inn, iset, la, ln, hc, hgn, hin, his, hl, h0, h1, hfu, D => by
    unfold f7_choose_I
    by_cases e : gI σ 2 ≤ la
    · rw [if_pos e]
      rw [i_le] at e
      rw [show ln = c by omega] at D
      exact ⟨D, Ag.rf _⟩
    rw [if_neg e]
    rw [i_le] at e
    have e1 : (la + 1).toInt = la.toInt + 1 := i_add1 (b := 10) (by omega) (by omega)
    have hla : la = nI ln := by rw [i_eq, nI_toInt (by omega)]; omega
    rw [N_of hl]
    have gl := hgn ln (by omega)
    have bl := hg ln (by omega)
    have bf := hg f hf
    have bi : -1000000 * (ln : Int) ≤ inS g f ln ∧ inS g f ln ≤ 40000000 * (ln : Int) := by
      unfold inS
      refine sN_bd4 (fun i hi => ?_)
      have := hg i (by omega)
      show -1000000 ≤ (if f < i ∧ 0 < g i then g i else 0) ∧ (if f < i ∧ 0 < g i then g i else 0) ≤ 40000000
      split <;> omega
    have s1 : (fg + inn).toInt = g f + inS g f ln := by rw [j_add (by omega) (by omega), hfg, hin]
    have s2 : (fg + inn + f7_gain σ ln a2 a3).toInt = g f + inS g f ln + g ln := by rw [j_add (by rw [s1, gl]; omega) (by rw [s1, gl]; omega), s1, gl]
    have ef : (nI f).toInt = f := nI_toInt (by omega)
    have d1 : (la - nI f).toInt = (ln : Int) - f := by rw [i_sub (by omega) (by omega)]; omega
    have d2 : (la - nI f + 1).toInt = (ln : Int) - f + 1 := by rw [i_add1 (b := 100) (by omega) (by omega), d1]
    have d3 : (10 * Int32.toInt64 (la - nI f + 1)).toInt = 10 * ((ln : Int) - f + 1) := by rw [j_mul (by rw [jl_10, j_of, d2]; omega) (by rw [jl_10, j_of, d2]; omega), jl_10, j_of, d2]
    have vv : (fg + inn + f7_gain σ ln a2 a3 - 10 * Int32.toInt64 (la - nI f + 1)).toInt = g f + inS g f ln + g ln - 10 * ((ln : Int) - f + 1) := by rw [j_sub (by rw [s2, d3]; omega) (by rw [s2, d3]; omega), s2, d3]
    have C := cdS_cd (g := g) (f := f) (l := ln) (by omega)
    have hset : ((1 : Int32) <<< (nI f &&& 31) ||| iset) ||| (1 : Int32) <<< (la &&& 31) = nI (cdS g f ln) := by
      unfold cdS
      rw [his, hla, shl_nI (by omega), shl_nI (by omega), nI_or, nI_or]
    rw [hset]
    obtain ⟨t1, t2⟩ := take_spec h10 D (C.lt (c := c) (by omega)) (x := fg + inn + f7_gain σ ln a2 a3 - 10 * Int32.toInt64 (la - nI f + 1)) (by
      refine Or.inr ⟨f, ln, C.fl (by omega), ?_⟩
      rw [vv, C.sum2 h0 (by omega)])
    have D' : DM g c (f7_take σ (fg + inn + f7_gain σ ln a2 a3 - 10 * Int32.toInt64 (la - nI f + 1)) (nI (cdS g f ln))) (Qi g c f (ln + 1)) := by
      refine t1.mo (fun T hT => ?_)
      rcases hT with hT | ⟨f', l', q1, q2, q3⟩
      · exact Or.inl (Or.inl hT)
      · by_cases w : f' = f ∧ l' = ln
        · obtain ⟨rfl, rfl⟩ := w
          exact Or.inr (q1.uq C)
        · exact Or.inl (Or.inr ⟨f', l', q1, q2, by omega⟩)
    generalize f7_take σ (fg + inn + f7_gain σ ln a2 a3 - 10 * Int32.toInt64 (la - nI f + 1)) (nI (cdS g f ln)) = σ' at t2 D' ⊢
    have hc' : (c : Int) = (gI σ' 2).toInt := by rw [t2.1 2 rfl]; exact hc
    have hgn' : ∀ i, i < c → (f7_gain σ' i a2 a3).toInt = g i := fun i hi => by rw [gain_ag t2]; exact hgn i hi
    have i1 : inS g f (ln + 1) = inS g f ln + (if f < ln ∧ 0 < g ln then g ln else 0) := rfl
    have i2 : isN g f (ln + 1) = if f < ln ∧ 0 < g ln then isN g f ln ||| 2 ^ ln else isN g f ln := rfl
    by_cases c1 : f7_gain σ ln a2 a3 ≤ 0
    · rw [if_pos c1]
      rw [l_le, gl, jl_0] at c1
      rw [if_neg (by omega)] at i1 i2
      obtain ⟨y1, y2⟩ := chI (a2 := a2) (a3 := a3) h10 hg hf hfg n σ' inn iset (la + 1) (ln + 1) hc' hgn' (by rw [i1, hin]; omega) (by rw [i2]; exact his) (by omega) (by omega) (by omega) (by omega) D'
      exact ⟨y1, t2.tr y2⟩
    · rw [if_neg c1]
      rw [l_le, gl, jl_0] at c1
      rw [if_pos (by omega)] at i1 i2
      obtain ⟨y1, y2⟩ := chI (a2 := a2) (a3 := a3) h10 hg hf hfg n σ' (inn + f7_gain σ ln a2 a3) (iset ||| (1 : Int32) <<< (la &&& 31)) (la + 1) (ln + 1) hc' hgn' (by rw [i1, j_add (by omega) (by omega), hin, gl]) (by rw [i2, nI_or, his, hla, shl_nI (by omega)]) (by omega) (by omega) (by omega) (by omega) D'
      exact ⟨y1, t2.tr y2⟩
theorem inS_0 (g : Nat → Int) (f : Nat) : inS g f (f + 1) = 0 := by
  unfold inS
  rw [sN_tail (n := 0) (by omega) (fun i _ hi => by
    show (if f < i ∧ 0 < g i then g i else 0) = 0
    rw [if_neg (by omega)])]
  rfl
theorem isN_0 (g : Nat → Int) (f : Nat) : isN g f (f + 1) = 0 := by
  refine Nat.eq_of_testBit_eq (fun i => ?_)
  rw [Nat.zero_testBit]
  cases e : (isN g f (f + 1)).testBit i
  · rfl
  · have := (isN_bit i (f + 1)).mp e
    omega
def Qo (g : Nat → Int) (c f S : Nat) : Prop := S = 0 ∨ ∃ f' l', CD g f' l' S ∧ l' < c ∧ f' < f
theorem chL {g : Nat → Int} {c : Nat} (h10 : c ≤ 10) (hg : ∀ i, i < c → -1000000 ≤ g i ∧ g i ≤ 40000000) {a2 a3 : Int32} : ∀ (n : Nat) (σ : St) (fi : Int32) (f : Nat), (c : Int) = (gI σ 2).toInt → (∀ i, i < c → (f7_gain σ i a2 a3).toInt = g i) → (f : Int) = fi.toInt → f ≤ c → c < f + n → DM g c σ (Qo g c f) →
    DM g c (f7_choose_L a2 a3 n σ fi) (Qo g c c) ∧ Ag i11 pT pT σ (f7_choose_L a2 a3 n σ fi)
  | 0, σ, fi, f, hc, hgn, hl, h1, hfu, D => by omega
  | n + 1, σ, fi, f, hc, hgn, hl, h1, hfu, D => by
    unfold f7_choose_L
    by_cases e : gI σ 2 ≤ fi
    · rw [if_pos e]
      rw [i_le] at e
      rw [show f = c by omega] at D
      exact ⟨D, Ag.rf _⟩
    rw [if_neg e]
    rw [i_le] at e
    have e1 : (fi + 1).toInt = fi.toInt + 1 := i_add1 (b := 10) (by omega) (by omega)
    have hfi : fi = nI f := by rw [i_eq, nI_toInt (by omega)]; omega
    rw [N_of hl]
    have gl := hgn f (by omega)
    have bl := hg f (by omega)
    have C := two_cd (g := g) (f := f)
    have vv : (f7_gain σ f a2 a3 - 10).toInt = g f - 10 := by rw [j_sub (by rw [gl, jl_10]; omega) (by rw [gl, jl_10]; omega), gl, jl_10]
    have hset : (1 : Int32) <<< (fi &&& 31) = nI (2 ^ f) := by rw [hfi, shl_nI (by omega)]
    rw [hset]
    obtain ⟨t1, t2⟩ := take_spec h10 D (C.lt (c := c) (by omega)) (x := f7_gain σ f a2 a3 - 10) (by
      refine Or.inr ⟨f, f, C.fl (by omega), ?_⟩
      rw [vv, C.sum1 (by omega)]; omega)
    have D' : DM g c (f7_take σ (f7_gain σ f a2 a3 - 10) (nI (2 ^ f))) (Qi g c f (f + 1)) := by
      refine t1.mo (fun T hT => ?_)
      rcases hT with hT | ⟨f', l', q1, q2, q3⟩
      · exact Or.inl (Or.inl hT)
      · have q4 := q1.1
        by_cases w : f' = f
        · have w2 : l' = f := by omega
          subst w; subst w2
          exact Or.inr (q1.uq C)
        · exact Or.inl (Or.inr ⟨f', l', q1, q2, by omega⟩)
    generalize f7_take σ (f7_gain σ f a2 a3 - 10) (nI (2 ^ f)) = σ' at t2 D' ⊢
    have hgn' : ∀ i, i < c → (f7_gain σ' i a2 a3).toInt = g i := fun i hi => by rw [gain_ag t2]; exact hgn i hi
    obtain ⟨u1, u2⟩ := chI (a2 := a2) (a3 := a3) h10 hg (f := f) (fg := f7_gain σ f a2 a3) (by omega) gl 11 σ' 0 0 (fi + 1) (f + 1) (by rw [t2.1 2 rfl]; exact hc) hgn' (by rw [inS_0]; rfl) (by rw [isN_0]; rfl) (by omega) (by omega) (by omega) (by omega) D'
    rw [← hfi] at u1 u2
    generalize f7_choose_I a2 a3 fi (f7_gain σ f a2 a3) 11 σ' 0 0 (fi + 1) = σ2 at u1 u2 ⊢
    have A2 := t2.tr u2
    obtain ⟨y1, y2⟩ := chL (a2 := a2) (a3 := a3) h10 hg n σ2 (fi + 1) (f + 1) (by rw [A2.1 2 rfl]; exact hc) (fun i hi => by rw [gain_ag A2]; exact hgn i hi) (by omega) (by omega) (by omega) (u1.mo (fun T hT => by
      rcases hT with hT | ⟨f', l', q1, q2, q3⟩
      · exact Or.inl hT
      · exact Or.inr ⟨f', l', q1, q2, by omega⟩))
    exact ⟨y1, A2.tr y2⟩
theorem choose_opt {g : Nat → Int} {c : Nat} (h10 : c ≤ 10) (hg : ∀ i, i < c → -1000000 ≤ g i ∧ g i ≤ 40000000) {a2 a3 : Int32} {σ : St} (hc : (c : Int) = (gI σ 2).toInt) (hgn : ∀ i, i < c → (f7_gain σ i a2 a3).toInt = g i) : (∃ b, gI (f7_choose σ a2 a3) 11 = nI b ∧ OPT g c b (gJ (f7_choose σ a2 a3) 0).toInt) ∧ Ag i11 pT pT σ (f7_choose σ a2 a3) := by
  unfold f7_choose
  have D0 : DM g c (uJ (uI σ 11 0) 0 0) (Qo g c 0) := by
    have ej : gJ (uJ (uI σ 11 0) 0 0) 0 = 0 := rfl
    refine ⟨0, rfl, Nat.two_pow_pos c, Or.inl ⟨rfl, by rw [ej]; rfl⟩, fun S w hS hw => ?_⟩
    rw [ej, jl_0]
    rcases hS with hS | ⟨f', l', q1, q2, q3⟩
    · subst hS
      rcases hw with ⟨-, hw⟩ | ⟨f, l, F, -⟩
      · exact Or.inr ⟨hw, Nat.le_refl _⟩
      · exact absurd rfl F.nz
    · omega
  obtain ⟨y1, y2⟩ := chL (a2 := a2) (a3 := a3) h10 hg 11 (uJ (uI σ 11 0) 0 0) 0 0 hc hgn z6 (by omega) (by omega) D0
  refine ⟨?_, (Ag.uJ (Ag.uI (Ag.rf σ) rfl)).tr y2⟩
  obtain ⟨b, b1, b2, b3, b4⟩ := y1
  refine ⟨b, b1, b3, b2, fun S w hS hw => ?_⟩
  rcases dom hw with h0 | ⟨f, l, T, x, q1, q2, q3, q4⟩
  · exact b4 S w (Or.inl h0) hw
  · have q5 := b4 T x (Or.inr ⟨f, l, q1, q2, by have := q1.1; omega⟩) q3
    omega
