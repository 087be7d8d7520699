/-! words of the tables that calls may hand on -/
def wsG : List Cond := lw_tbl.filter goodWord
theorem wm {c : Cond} (i : Nat) (h : tables_1[i]? = some c) (hg : goodWord c = true) : c ∈ wsG :=
  List.mem_filter.mpr ⟨List.mem_append_right _ (List.mem_of_getElem? h), hg⟩
theorem wmS {c : Cond} (i : Nat) (h : (k2_sels lw_privs)[i]? = some c) (hg : goodWord c = true) : c ∈ wsG :=
  List.mem_filter.mpr ⟨List.mem_append_left _ (List.mem_of_getElem? h), hg⟩
theorem goodG {ws : List Cond} (h : ∀ w ∈ ws, w ∈ wsG) : GoodIn wsG ws := fun w hw => ⟨h w hw, good_of_word (List.mem_filter.mp (h w hw)).2⟩
/-- the words of private members across the nest -/
def nestW : List Cond := [.fieldLinkNest RX0 46 RX9 "COSINES" "[I" RX9, .fieldLinkNest RX0 49 RX9 "SINES" "[I" RX9, .fieldLinkNest RX2 24 RX9 "COSINES" "[I" RX9, .fieldLinkNest RX2 34 RX9 "SINES" "[I" RX9, .methodLinkNest RX0 60 yX9_isStep RX9]
def cosL : List Int32 := [10000, 9962, 9848, 9659, 9397, 9063, 8660, 8192, 7660, 7071, 6428, 5736, 5000]
def sinL : List Int32 := [0, 872, 1736, 2588, 3420, 4226, 5000, 5736, 6428, 7071, 7660, 8192, 8660]
def cosF (k : Nat) : Int32 := cosL.getD k 0
def sinF (k : Nat) : Int32 := sinL.getD k 0
/-- what the statics and the nest's words say at a state -/
def ST (Λ : LY) (U : State) (H : Heap) : Prop :=
  va_Z RX9 "COSINES" "[I" (.ref (bC Λ)) (AA Λ) U H ∧ va_Z RX9 "SINES" "[I" (.ref (bS Λ)) (AA Λ) U H ∧ va_T .int (bC Λ) 13 (fun k => .int (cosF k)) (AA Λ) U H ∧ va_T .int (bS Λ) 13 (fun k => .int (sinF k)) (AA Λ) U H ∧ ∀ w ∈ nestW, va_Nw w U
theorem nestW_warm {s U : State} (hW : s.WarmedH U.vm) (h : ∀ w ∈ nestW, va_Nw w s) : ∀ w ∈ nestW, va_Nw w U := by
  intro w hw
  have h1 := h w hw
  simp only [nestW, List.mem_cons, List.mem_nil_iff, or_false] at hw
  rcases hw with rfl | rfl | rfl | rfl | rfl
  · exact va_Nw.warmF hW h1
  · exact va_Nw.warmF hW h1
  · exact va_Nw.warmF hW h1
  · exact va_Nw.warmF hW h1
  · exact va_Nw.warmM hW h1
theorem nestW_same {u U : State} (hvm : u.vm = U.vm) (h : ∀ w ∈ nestW, va_Nw w u) : ∀ w ∈ nestW, va_Nw w U := by
  intro w hw
  have h1 := h w hw
  simp only [nestW, List.mem_cons, List.mem_nil_iff, or_false] at hw
  rcases hw with rfl | rfl | rfl | rfl | rfl <;> exact va_Nw.same rfl hvm h1
theorem ST.go {Λ : LY} {s t : State} {H : Heap} {locs : List Loc} (h : ST Λ s s.heap) (hS : va_S (AA Λ) s.heap H locs) (ht : t.heap = H) (hW : s.WarmedH t.vm) : ST Λ t t.heap := by
  obtain ⟨h1, h2, h3, h4, h5⟩ := h
  have hk : ∀ a : Nat, a < s.heap.size → ¬ AA Λ a → t.heap[a]? = s.heap[a]? := fun a x y => by rw [ht]; exact hS.2.1 a x y
  exact ⟨va_Z.moved hW.alike (h1.kept hk), va_Z.moved hW.alike (h2.kept hk), va_T.moved hW.alike (h3.kept hk), va_T.moved hW.alike (h4.kept hk), nestW_warm hW h5⟩
/-- what holds of a state at a method's start and end -/
def BW (Λ : LY) (σ : St) (U : State) : Prop := s0 Λ ≤ U.heap.size ∧ va_P (dG Λ) vwCl (Wd Λ σ) U.heap ∧ va_K (dG Λ) vwCl (tyL Λ) U ∧ (∀ σ2, va_D (AA Λ) (Wd Λ σ2)) ∧ ST Λ U U.heap
def QR (Λ : LY) (rv : Option Value) (σ : St) : Array Value → State → Outcome → State → Prop := fun _ st oc t => oc = .returned rv ∧ BW Λ σ t ∧ va_F (AA Λ) st t
/-- a contract: from the state σ the method comes to the answer rv and the state σ2 -/
def CT (l : Launch) (Λ : LY) (y : MethodName) (cc : ByteArray) (nL : Nat) (ret : Option FieldType) (fr lo : Nat) (av : List Value) (σ : St) (rv : Option Value) (σ2 : St) : Prop :=
  Met l y (Cond.code y cc nL ret :: wsG) ({ frames := fr, cells := 0, slots := 0, locals := lo }) (va_Pc av (BW Λ σ)) (QR Λ rv σ2) 0 0 (AA Λ)
/-- a walk's fixed things: p, l, e, R, s, m, args, below, meth, c, cells, slots, Q -/
abbrev CX : Type := Program × Launch × Env × Room × State × MethodId × Array Value × List Frame × Method × Code × Nat × Nat × (State → Prop)
abbrev xp (X : CX) := X.1
abbrev xl (X : CX) := X.2.1
abbrev xe (X : CX) := X.2.2.1
abbrev xR (X : CX) := X.2.2.2.1
abbrev xs (X : CX) := X.2.2.2.2.1
abbrev xm (X : CX) := X.2.2.2.2.2.1
abbrev xa (X : CX) := X.2.2.2.2.2.2.1
abbrev xb (X : CX) := X.2.2.2.2.2.2.2.1
abbrev xh (X : CX) := X.2.2.2.2.2.2.2.2.1
abbrev xc (X : CX) := X.2.2.2.2.2.2.2.2.2.1
abbrev xn (X : CX) := X.2.2.2.2.2.2.2.2.2.2.1
abbrev xk (X : CX) := X.2.2.2.2.2.2.2.2.2.2.2.1
abbrev xQ (X : CX) := X.2.2.2.2.2.2.2.2.2.2.2.2
def VV (X : CX) (Λ : LY) (nL : Nat) (pc : Nat) (lv : List (Nat × Value)) (st : List Value) (σ : St) : Prop :=
  ∀ (ls : Array Slot) (H : Heap) (locs : List Loc), lv_has ls nL lv → va_P (dG Λ) vwCl (Wd Λ σ) H → va_S (AA Λ) (xs X).heap H locs →
    W (xp X) (xl X) (xe X) (xR X) (xs X) (xm X) (xa X) (xb X) (xh X) (xc X) H locs (xn X) (xk X) (xQ X) (F0 (xm X) pc ls st)
/-- what holds throughout a walk -/
def OK (X : CX) (Λ : LY) (cc : ByteArray) (nL : Nat) (own : String) (fr lo : Nat) : Prop :=
  (xp X).tables.exec = Jvm.exec ∧ (xc X).code = cc ∧ (xc X).maxLocals = nL ∧ (xs X).vm.findClass own = some (xm X).cls ∧ (∀ w ∈ wsG, w.before (xa X) (xs X) = true) ∧ (xh X).locks = false ∧
  va_K (dG Λ) vwCl (tyL Λ) (xs X) ∧ (∀ σ2, va_D (AA Λ) (Wd Λ σ2)) ∧ ST Λ (xs X) (xs X).heap ∧ s0 Λ ≤ (xs X).heap.size ∧ (xR X).frames = fr ∧ (xR X).locals = lo ∧ xn X ≤ (xR X).cells ∧ xk X ≤ (xR X).slots
def EN (X : CX) (Λ : LY) (ret : Option FieldType) (rv : Option Value) (σ : St) : Prop :=
  (xh X).sig.returnType = ret ∧ xQ X = MQ (xb X) (QR Λ rv σ) (xa X) (xs X) (xn X) (xk X) (AA Λ)
section VVR
variable {X : CX} {Λ : LY} {cc : ByteArray} {nL fr lo : Nat} {own : String} {pc pc2 : Nat} {lv lv2 : List (Nat × Value)} {st : List Value} {σ σ2 : St}
theorem OK.bw (C : OK X Λ cc nL own fr lo) {H : Heap} {locs : List Loc} (hP : va_P (dG Λ) vwCl (Wd Λ σ) H) (hS : va_S (AA Λ) (xs X).heap H locs) {t : State} (ht : t.heap = H) (hW : (xs X).WarmedH t.vm) : BW Λ σ t := by
  obtain ⟨-, -, -, -, -, -, hK, hD, hT, h0, -⟩ := C
  exact ⟨by rw [ht]; exact Nat.le_trans h0 hS.1, by rw [ht]; exact hP, va_K.moved hW.alike hK, hD, hT.go hS ht hW⟩
theorem v_lv (ks : List Nat) (h : lv_pick lv ks = lv2) (k : VV X Λ nL pc lv2 st σ) : VV X Λ nL pc lv st σ := fun ls H locs hl hP hS => k ls H locs (lv_sub hl ks h) hP hS
theorem v_st {st2 : List Value} (h : st = st2) (k : VV X Λ nL pc lv st2 σ) : VV X Λ nL pc lv st σ := h ▸ k
theorem v_sg (h : σ = σ2) (k : VV X Λ nL pc lv st σ2) : VV X Λ nL pc lv st σ := h ▸ k
theorem v_iret (C : OK X Λ cc nL own fr lo) {v : Int32} (E : EN X Λ (some .int) (some (.int v)) σ) (hd : decode cc pc = .ok (.ireturn, 1)) : VV X Λ nL pc lv [.int v] σ := by
  intro ls H locs hl hP hS
  rw [E.2]
  exact W.iret C.1 C.2.1 E.1 (fun t ht hW => ⟨rfl, C.bw hP hS ht hW, hS.F ht⟩) hS.2.2 hd C.2.2.2.2.2.1
theorem v_zret (C : OK X Λ cc nL own fr lo) {v : Int32} (E : EN X Λ (some .boolean) (some (.int v)) σ) (hn : v = 0 ∨ v = 1) (hd : decode cc pc = .ok (.ireturn, 1)) : VV X Λ nL pc lv [.int v] σ := by
  intro ls H locs hl hP hS
  rw [E.2]
  exact W.zret C.1 C.2.1 E.1 (by rcases hn with rfl | rfl <;> decide +kernel) (fun t ht hW => ⟨rfl, C.bw hP hS ht hW, hS.F ht⟩) hS.2.2 hd C.2.2.2.2.2.1
theorem v_lret (C : OK X Λ cc nL own fr lo) {v : Int64} (E : EN X Λ (some .long) (some (.long v)) σ) (hd : decode cc pc = .ok (.lreturn, 1)) : VV X Λ nL pc lv [.long v] σ := by
  intro ls H locs hl hP hS
  rw [E.2]
  exact W.lret C.1 C.2.1 E.1 (fun t ht hW => ⟨rfl, C.bw hP hS ht hW, hS.F ht⟩) hS.2.2 hd C.2.2.2.2.2.1
theorem v_vret (C : OK X Λ cc nL own fr lo) (E : EN X Λ none none σ) (hd : decode cc pc = .ok (.return_, 1)) : VV X Λ nL pc lv [] σ := by
  intro ls H locs hl hP hS
  rw [E.2]
  exact W.vret C.1 C.2.1 E.1 (fun t ht hW => ⟨rfl, C.bw hP hS ht hW, hS.F ht⟩) hS.2.2 hd C.2.2.2.2.2.1
/-! ends of stateful and of pure methods -/
theorem r_iS (C : OK X Λ cc nL own fr lo) {v : Int32} {res : Int32 × St} (E : EN X Λ (some .int) (some (.int res.1)) res.2) (h : (v, σ) = res) (hd : decode cc pc = .ok (.ireturn, 1)) : VV X Λ nL pc lv [.int v] σ := by subst h; exact v_iret C E hd
theorem r_iP (C : OK X Λ cc nL own fr lo) {v res : Int32} (E : EN X Λ (some .int) (some (.int res)) σ) (h : v = res) (hd : decode cc pc = .ok (.ireturn, 1)) : VV X Λ nL pc lv [.int v] σ := by subst h; exact v_iret C E hd
theorem r_zS (C : OK X Λ cc nL own fr lo) {v : Int32} {res : Int32 × St} (E : EN X Λ (some .boolean) (some (.int res.1)) res.2) (hn : v = 0 ∨ v = 1) (h : (v, σ) = res) (hd : decode cc pc = .ok (.ireturn, 1)) : VV X Λ nL pc lv [.int v] σ := by subst h; exact v_zret C E hn hd
theorem r_zP (C : OK X Λ cc nL own fr lo) {v res : Int32} (E : EN X Λ (some .boolean) (some (.int res)) σ) (hn : v = 0 ∨ v = 1) (h : v = res) (hd : decode cc pc = .ok (.ireturn, 1)) : VV X Λ nL pc lv [.int v] σ := by subst h; exact v_zret C E hn hd
theorem r_lS (C : OK X Λ cc nL own fr lo) {v : Int64} {res : Int64 × St} (E : EN X Λ (some .long) (some (.long res.1)) res.2) (h : (v, σ) = res) (hd : decode cc pc = .ok (.lreturn, 1)) : VV X Λ nL pc lv [.long v] σ := by subst h; exact v_lret C E hd
theorem r_lP (C : OK X Λ cc nL own fr lo) {v res : Int64} (E : EN X Λ (some .long) (some (.long res)) σ) (h : v = res) (hd : decode cc pc = .ok (.lreturn, 1)) : VV X Λ nL pc lv [.long v] σ := by subst h; exact v_lret C E hd
theorem r_vS (C : OK X Λ cc nL own fr lo) {res : St} (E : EN X Λ none none res) (h : σ = res) (hd : decode cc pc = .ok (.return_, 1)) : VV X Λ nL pc lv [] σ := by subst h; exact v_vret C E hd
/-! constants, locals -/
theorem v_iconst (C : OK X Λ cc nL own fr lo) {n : Int} {v : Int32} (hd : decode cc pc = .ok (.iconst n, 1)) (hv : Int32.ofInt n = v) (hp : pc2 = pc + 1) (k : VV X Λ nL pc2 lv (.int v :: st) σ) : VV X Λ nL pc lv st σ := by
  subst hp; intro ls H locs hl hP hS; exact lv_iconst C.1 C.2.1 hd hv (k ls H locs hl hP hS)
theorem v_bipush (C : OK X Λ cc nL own fr lo) {n : Int} {v : Int32} (hd : decode cc pc = .ok (.bipush n, 2)) (hv : (Int8.ofInt n).toInt32 = v) (hp : pc2 = pc + 2) (k : VV X Λ nL pc2 lv (.int v :: st) σ) : VV X Λ nL pc lv st σ := by
  subst hp; intro ls H locs hl hP hS; exact lv_bipush C.1 C.2.1 hd hv (k ls H locs hl hP hS)
theorem v_sipush (C : OK X Λ cc nL own fr lo) {n : Int} {v : Int32} (hd : decode cc pc = .ok (.sipush n, 3)) (hv : (Int16.ofInt n).toInt32 = v) (hp : pc2 = pc + 3) (k : VV X Λ nL pc2 lv (.int v :: st) σ) : VV X Λ nL pc lv st σ := by
  subst hp; intro ls H locs hl hP hS; exact lv_sipush C.1 C.2.1 hd hv (k ls H locs hl hP hS)
theorem v_lconst (C : OK X Λ cc nL own fr lo) {n : Fin 2} {v : Int64} (hd : decode cc pc = .ok (.lconst n, 1)) (hv : Int64.ofNat (n : Nat) = v) (hp : pc2 = pc + 1) (k : VV X Λ nL pc2 lv (.long v :: st) σ) : VV X Λ nL pc lv st σ := by
  subst hp; intro ls H locs hl hP hS; exact lv_lconst C.1 C.2.1 hd hv (k ls H locs hl hP hS)
theorem v_ldc (C : OK X Λ cc nL own fr lo) {i : Nat} {v : Int32} (hw : Cond.constant own i v ∈ wsG) (hd : decode cc pc = .ok (.ldc i, 2)) (hp : pc2 = pc + 2) (k : VV X Λ nL pc2 lv (.int v :: st) σ) : VV X Λ nL pc lv st σ := by
  subst hp; intro ls H locs hl hP hS; exact lv_ldc C.1 C.2.1 C.2.2.2.1 (C.2.2.2.2.1 _ hw) hd (k ls H locs hl hP hS)
theorem v_ldcw (C : OK X Λ cc nL own fr lo) {i : Nat} {v : Int32} (hw : Cond.constant own i v ∈ wsG) (hd : decode cc pc = .ok (.ldc_w i, 3)) (hp : pc2 = pc + 3) (k : VV X Λ nL pc2 lv (.int v :: st) σ) : VV X Λ nL pc lv st σ := by
  subst hp; intro ls H locs hl hP hS; exact lv_ldcw C.1 C.2.1 C.2.2.2.1 (C.2.2.2.2.1 _ hw) hd (k ls H locs hl hP hS)
theorem v_ldc2 (C : OK X Λ cc nL own fr lo) {i : Nat} {v : Int64} (hw : Cond.constantLong own i v ∈ wsG) (hd : decode cc pc = .ok (.ldc2_w i, 3)) (hp : pc2 = pc + 3) (k : VV X Λ nL pc2 lv (.long v :: st) σ) : VV X Λ nL pc lv st σ := by
  subst hp; intro ls H locs hl hP hS; exact lv_ldc2 C.1 C.2.1 C.2.2.2.1 (C.2.2.2.2.1 _ hw) hd (k ls H locs hl hP hS)
theorem v_iload_n (C : OK X Λ cc nL own fr lo) (j : Nat) {i : Fin 4} {x : Int32} (hd : decode cc pc = .ok (.iload_n i, 1)) (hj : lv[j]? = some (i.val, .int x)) (hp : pc2 = pc + 1) (k : VV X Λ nL pc2 lv (.int x :: st) σ) : VV X Λ nL pc lv st σ := by
  subst hp; intro ls H locs hl hP hS; exact lv_iload_n C.1 C.2.1 hd rfl (lv_at hl j hj) (k ls H locs hl hP hS)
theorem v_iload (C : OK X Λ cc nL own fr lo) (j : Nat) {i : Nat} {x : Int32} (hd : decode cc pc = .ok (.iload i, 2)) (hj : lv[j]? = some (i, .int x)) (hp : pc2 = pc + 2) (k : VV X Λ nL pc2 lv (.int x :: st) σ) : VV X Λ nL pc lv st σ := by
  subst hp; intro ls H locs hl hP hS; exact lv_iload C.1 C.2.1 hd (lv_at hl j hj) (k ls H locs hl hP hS)
theorem v_lload_n (C : OK X Λ cc nL own fr lo) (j : Nat) {i : Fin 4} {x : Int64} (hd : decode cc pc = .ok (.lload_n i, 1)) (hj : lv[j]? = some (i.val, .long x)) (hp : pc2 = pc + 1) (k : VV X Λ nL pc2 lv (.long x :: st) σ) : VV X Λ nL pc lv st σ := by
  subst hp; intro ls H locs hl hP hS; exact lv_lload_n C.1 C.2.1 hd rfl (lv_at hl j hj) (k ls H locs hl hP hS)
theorem v_lload (C : OK X Λ cc nL own fr lo) (j : Nat) {i : Nat} {x : Int64} (hd : decode cc pc = .ok (.lload i, 2)) (hj : lv[j]? = some (i, .long x)) (hp : pc2 = pc + 2) (k : VV X Λ nL pc2 lv (.long x :: st) σ) : VV X Λ nL pc lv st σ := by
  subst hp; intro ls H locs hl hP hS; exact lv_lload C.1 C.2.1 hd (lv_at hl j hj) (k ls H locs hl hP hS)
theorem v_aload_n (C : OK X Λ cc nL own fr lo) (j : Nat) {i : Fin 4} {x : Nat} (hd : decode cc pc = .ok (.aload_n i, 1)) (hj : lv[j]? = some (i.val, .ref x)) (hp : pc2 = pc + 1) (k : VV X Λ nL pc2 lv (.ref x :: st) σ) : VV X Λ nL pc lv st σ := by
  subst hp; intro ls H locs hl hP hS; exact lv_aload_n C.1 C.2.1 hd rfl (lv_at hl j hj) (k ls H locs hl hP hS)
theorem v_aload (C : OK X Λ cc nL own fr lo) (j : Nat) {i : Nat} {x : Nat} (hd : decode cc pc = .ok (.aload i, 2)) (hj : lv[j]? = some (i, .ref x)) (hp : pc2 = pc + 2) (k : VV X Λ nL pc2 lv (.ref x :: st) σ) : VV X Λ nL pc lv st σ := by
  subst hp; intro ls H locs hl hP hS; exact lv_aload C.1 C.2.1 hd (lv_at hl j hj) (k ls H locs hl hP hS)
theorem v_istore_n (C : OK X Λ cc nL own fr lo) {i : Fin 4} {x : Int32} (hd : decode cc pc = .ok (.istore_n i, 1)) (hn : i.val < nL) (h2 : (i.val, Value.int x) :: lv.filter (fun q => !(q.1 == i.val) && !(q.1 + 1 == i.val && q.2.category == 2)) = lv2) (hp : pc2 = pc + 1) (k : VV X Λ nL pc2 lv2 st σ) : VV X Λ nL pc lv (.int x :: st) σ := by
  subst hp; intro ls H locs hl hP hS; exact lv_istore_n C.1 C.2.1 hd rfl hl hn h2 (fun ls2 hl2 => k ls2 H locs hl2 hP hS)
theorem v_istore (C : OK X Λ cc nL own fr lo) {i : Nat} {x : Int32} (hd : decode cc pc = .ok (.istore i, 2)) (hn : i < nL) (h2 : (i, Value.int x) :: lv.filter (fun q => !(q.1 == i) && !(q.1 + 1 == i && q.2.category == 2)) = lv2) (hp : pc2 = pc + 2) (k : VV X Λ nL pc2 lv2 st σ) : VV X Λ nL pc lv (.int x :: st) σ := by
  subst hp; intro ls H locs hl hP hS; exact lv_istore C.1 C.2.1 hd hl hn h2 (fun ls2 hl2 => k ls2 H locs hl2 hP hS)
theorem v_astore_n (C : OK X Λ cc nL own fr lo) {i : Fin 4} {x : Nat} (hd : decode cc pc = .ok (.astore_n i, 1)) (hn : i.val < nL) (h2 : (i.val, Value.ref x) :: lv.filter (fun q => !(q.1 == i.val) && !(q.1 + 1 == i.val && q.2.category == 2)) = lv2) (hp : pc2 = pc + 1) (k : VV X Λ nL pc2 lv2 st σ) : VV X Λ nL pc lv (.ref x :: st) σ := by
  subst hp; intro ls H locs hl hP hS; exact lv_astore_n C.1 C.2.1 hd rfl hl hn h2 (fun ls2 hl2 => k ls2 H locs hl2 hP hS)
theorem v_astore (C : OK X Λ cc nL own fr lo) {i : Nat} {x : Nat} (hd : decode cc pc = .ok (.astore i, 2)) (hn : i < nL) (h2 : (i, Value.ref x) :: lv.filter (fun q => !(q.1 == i) && !(q.1 + 1 == i && q.2.category == 2)) = lv2) (hp : pc2 = pc + 2) (k : VV X Λ nL pc2 lv2 st σ) : VV X Λ nL pc lv (.ref x :: st) σ := by
  subst hp; intro ls H locs hl hP hS; exact lv_astore C.1 C.2.1 hd hl hn h2 (fun ls2 hl2 => k ls2 H locs hl2 hP hS)
theorem v_lstore_n (C : OK X Λ cc nL own fr lo) {i : Fin 4} {x : Int64} (hd : decode cc pc = .ok (.lstore_n i, 1)) (hn : i.val + 1 < nL) (h2 : (i.val, Value.long x) :: lv.filter (fun q => !(q.1 == i.val) && (!(q.1 == i.val + 1) && !(q.1 + 1 == i.val && q.2.category == 2))) = lv2) (hp : pc2 = pc + 1) (k : VV X Λ nL pc2 lv2 st σ) : VV X Λ nL pc lv (.long x :: st) σ := by
  subst hp; intro ls H locs hl hP hS; exact lv_lstore_n C.1 C.2.1 hd rfl hl hn h2 (fun ls2 hl2 => k ls2 H locs hl2 hP hS)
theorem v_lstore (C : OK X Λ cc nL own fr lo) {i : Nat} {x : Int64} (hd : decode cc pc = .ok (.lstore i, 2)) (hn : i + 1 < nL) (h2 : (i, Value.long x) :: lv.filter (fun q => !(q.1 == i) && (!(q.1 == i + 1) && !(q.1 + 1 == i && q.2.category == 2))) = lv2) (hp : pc2 = pc + 2) (k : VV X Λ nL pc2 lv2 st σ) : VV X Λ nL pc lv (.long x :: st) σ := by
  subst hp; intro ls H locs hl hP hS; exact lv_lstore C.1 C.2.1 hd hl hn h2 (fun ls2 hl2 => k ls2 H locs hl2 hP hS)
theorem v_iinc (C : OK X Λ cc nL own fr lo) (j : Nat) {i : Nat} {n : Int} {x d : Int32} (hd : decode cc pc = .ok (.iinc i n, 3)) (hj : lv[j]? = some (i, .int x)) (hv : Int32.ofInt n = d) (hn : i < nL) (h2 : (i, Value.int (x + d)) :: lv.filter (fun q => !(q.1 == i) && !(q.1 + 1 == i && q.2.category == 2)) = lv2) (hp : pc2 = pc + 3) (k : VV X Λ nL pc2 lv2 st σ) : VV X Λ nL pc lv st σ := by
  subst hp; intro ls H locs hl hP hS; exact lv_iinc C.1 C.2.1 hd hl hj (by rw [hv]) hn h2 (fun ls2 hl2 => k ls2 H locs hl2 hP hS)
/-! arithmetic -/
theorem v_iadd (C : OK X Λ cc nL own fr lo) {x y : Int32} (hd : decode cc pc = .ok (.iadd, 1)) (hp : pc2 = pc + 1) (k : VV X Λ nL pc2 lv (.int (x + y) :: st) σ) : VV X Λ nL pc lv (.int y :: .int x :: st) σ := by
  subst hp; intro ls H locs hl hP hS; exact lv_iadd C.1 C.2.1 hd (k ls H locs hl hP hS)
theorem v_isub (C : OK X Λ cc nL own fr lo) {x y : Int32} (hd : decode cc pc = .ok (.isub, 1)) (hp : pc2 = pc + 1) (k : VV X Λ nL pc2 lv (.int (x - y) :: st) σ) : VV X Λ nL pc lv (.int y :: .int x :: st) σ := by
  subst hp; intro ls H locs hl hP hS; exact lv_isub C.1 C.2.1 hd (k ls H locs hl hP hS)
theorem v_imul (C : OK X Λ cc nL own fr lo) {x y : Int32} (hd : decode cc pc = .ok (.imul, 1)) (hp : pc2 = pc + 1) (k : VV X Λ nL pc2 lv (.int (x * y) :: st) σ) : VV X Λ nL pc lv (.int y :: .int x :: st) σ := by
  subst hp; intro ls H locs hl hP hS; exact lv_imul C.1 C.2.1 hd (k ls H locs hl hP hS)
theorem v_iand (C : OK X Λ cc nL own fr lo) {x y : Int32} (hd : decode cc pc = .ok (.iand, 1)) (hp : pc2 = pc + 1) (k : VV X Λ nL pc2 lv (.int (x &&& y) :: st) σ) : VV X Λ nL pc lv (.int y :: .int x :: st) σ := by
  subst hp; intro ls H locs hl hP hS; exact lv_iand C.1 C.2.1 hd (k ls H locs hl hP hS)
theorem v_ior (C : OK X Λ cc nL own fr lo) {x y : Int32} (hd : decode cc pc = .ok (.ior, 1)) (hp : pc2 = pc + 1) (k : VV X Λ nL pc2 lv (.int (x ||| y) :: st) σ) : VV X Λ nL pc lv (.int y :: .int x :: st) σ := by
  subst hp; intro ls H locs hl hP hS; exact lv_ior C.1 C.2.1 hd (k ls H locs hl hP hS)
theorem v_idiv (C : OK X Λ cc nL own fr lo) {x y : Int32} (hd : decode cc pc = .ok (.idiv, 1)) (hne : ¬ y = 0) (hp : pc2 = pc + 1) (k : VV X Λ nL pc2 lv (.int (x / y) :: st) σ) : VV X Λ nL pc lv (.int y :: .int x :: st) σ := by
  subst hp; intro ls H locs hl hP hS; exact lv_idiv C.1 C.2.1 hd hne (k ls H locs hl hP hS)
theorem v_irem (C : OK X Λ cc nL own fr lo) {x y : Int32} (hd : decode cc pc = .ok (.irem, 1)) (hne : ¬ y = 0) (hp : pc2 = pc + 1) (k : VV X Λ nL pc2 lv (.int (x - x / y * y) :: st) σ) : VV X Λ nL pc lv (.int y :: .int x :: st) σ := by
  subst hp; intro ls H locs hl hP hS; exact lv_irem C.1 C.2.1 hd hne (k ls H locs hl hP hS)
theorem v_ineg (C : OK X Λ cc nL own fr lo) {x : Int32} (hd : decode cc pc = .ok (.ineg, 1)) (hp : pc2 = pc + 1) (k : VV X Λ nL pc2 lv (.int (-x) :: st) σ) : VV X Λ nL pc lv (.int x :: st) σ := by
  subst hp; intro ls H locs hl hP hS; exact lv_ineg C.1 C.2.1 hd (k ls H locs hl hP hS)
theorem v_ladd (C : OK X Λ cc nL own fr lo) {x y : Int64} (hd : decode cc pc = .ok (.ladd, 1)) (hp : pc2 = pc + 1) (k : VV X Λ nL pc2 lv (.long (x + y) :: st) σ) : VV X Λ nL pc lv (.long y :: .long x :: st) σ := by
  subst hp; intro ls H locs hl hP hS; exact lv_ladd C.1 C.2.1 hd (k ls H locs hl hP hS)
theorem v_lsub (C : OK X Λ cc nL own fr lo) {x y : Int64} (hd : decode cc pc = .ok (.lsub, 1)) (hp : pc2 = pc + 1) (k : VV X Λ nL pc2 lv (.long (x - y) :: st) σ) : VV X Λ nL pc lv (.long y :: .long x :: st) σ := by
  subst hp; intro ls H locs hl hP hS; exact lv_lsub C.1 C.2.1 hd (k ls H locs hl hP hS)
theorem v_lmul (C : OK X Λ cc nL own fr lo) {x y : Int64} (hd : decode cc pc = .ok (.lmul, 1)) (hp : pc2 = pc + 1) (k : VV X Λ nL pc2 lv (.long (x * y) :: st) σ) : VV X Λ nL pc lv (.long y :: .long x :: st) σ := by
  subst hp; intro ls H locs hl hP hS; exact lv_lmul C.1 C.2.1 hd (k ls H locs hl hP hS)
theorem v_ldiv (C : OK X Λ cc nL own fr lo) {x y : Int64} (hd : decode cc pc = .ok (.ldiv, 1)) (hne : ¬ y = 0) (hp : pc2 = pc + 1) (k : VV X Λ nL pc2 lv (.long (x / y) :: st) σ) : VV X Λ nL pc lv (.long y :: .long x :: st) σ := by
  subst hp; intro ls H locs hl hP hS; exact lv_ldiv C.1 C.2.1 hd hne (k ls H locs hl hP hS)
theorem v_lneg (C : OK X Λ cc nL own fr lo) {x : Int64} (hd : decode cc pc = .ok (.lneg, 1)) (hp : pc2 = pc + 1) (k : VV X Λ nL pc2 lv (.long (-x) :: st) σ) : VV X Λ nL pc lv (.long x :: st) σ := by
  subst hp; intro ls H locs hl hP hS; exact lv_lneg C.1 C.2.1 hd (k ls H locs hl hP hS)
theorem v_ishl (C : OK X Λ cc nL own fr lo) {x y : Int32} (hd : decode cc pc = .ok (.ishl, 1)) (hp : pc2 = pc + 1) (k : VV X Λ nL pc2 lv (.int (x <<< (y &&& 31)) :: st) σ) : VV X Λ nL pc lv (.int y :: .int x :: st) σ := by
  subst hp; intro ls H locs hl hP hS; exact lv_ishl C.1 C.2.1 hd (k ls H locs hl hP hS)
theorem v_ishr (C : OK X Λ cc nL own fr lo) {x y : Int32} (hd : decode cc pc = .ok (.ishr, 1)) (hp : pc2 = pc + 1) (k : VV X Λ nL pc2 lv (.int (x >>> (y &&& 31)) :: st) σ) : VV X Λ nL pc lv (.int y :: .int x :: st) σ := by
  subst hp; intro ls H locs hl hP hS; exact lv_ishr C.1 C.2.1 hd (k ls H locs hl hP hS)
theorem v_iushr (C : OK X Λ cc nL own fr lo) {x y : Int32} (hd : decode cc pc = .ok (.iushr, 1)) (hp : pc2 = pc + 1) (k : VV X Λ nL pc2 lv (.int (x.toUInt32 >>> (y.toUInt32 &&& Int32.toUInt32 31)).toInt32 :: st) σ) : VV X Λ nL pc lv (.int y :: .int x :: st) σ := by
  subst hp; intro ls H locs hl hP hS; exact lv_iushr C.1 C.2.1 hd rfl (k ls H locs hl hP hS)
theorem v_i2l (C : OK X Λ cc nL own fr lo) {x : Int32} (hd : decode cc pc = .ok (.i2l, 1)) (hp : pc2 = pc + 1) (k : VV X Λ nL pc2 lv (.long x.toInt64 :: st) σ) : VV X Λ nL pc lv (.int x :: st) σ := by
  subst hp; intro ls H locs hl hP hS; exact lv_i2l C.1 C.2.1 hd rfl (k ls H locs hl hP hS)
theorem v_l2i (C : OK X Λ cc nL own fr lo) {x : Int64} (hd : decode cc pc = .ok (.l2i, 1)) (hp : pc2 = pc + 1) (k : VV X Λ nL pc2 lv (.int x.toInt32 :: st) σ) : VV X Λ nL pc lv (.long x :: st) σ := by
  subst hp; intro ls H locs hl hP hS; exact lv_l2i C.1 C.2.1 hd rfl (k ls H locs hl hP hS)
theorem v_dup (C : OK X Λ cc nL own fr lo) {a : Value} (hd : decode cc pc = .ok (.dup, 1)) (ha : a.category = 1) (hp : pc2 = pc + 1) (k : VV X Λ nL pc2 lv (a :: a :: st) σ) : VV X Λ nL pc lv (a :: st) σ := by
  subst hp; intro ls H locs hl hP hS; exact lv_dup C.1 C.2.1 hd ha (k ls H locs hl hP hS)
theorem v_dup2 (C : OK X Λ cc nL own fr lo) {a b : Value} (hd : decode cc pc = .ok (.dup2, 1)) (ha : a.category = 1) (hb : b.category = 1) (hp : pc2 = pc + 1) (k : VV X Λ nL pc2 lv (a :: b :: a :: b :: st) σ) : VV X Λ nL pc lv (a :: b :: st) σ := by
  subst hp; intro ls H locs hl hP hS; exact lv_dup2_11 C.1 C.2.1 hd ha hb (k ls H locs hl hP hS)
theorem v_pop (C : OK X Λ cc nL own fr lo) {a : Value} (hd : decode cc pc = .ok (.pop, 1)) (ha : a.category = 1) (hp : pc2 = pc + 1) (k : VV X Λ nL pc2 lv st σ) : VV X Λ nL pc lv (a :: st) σ := by
  subst hp; intro ls H locs hl hP hS; exact lv_pop C.1 C.2.1 hd ha (k ls H locs hl hP hS)
/-! jumps -/
theorem v_goto (C : OK X Λ cc nL own fr lo) {off : Int} (hd : decode cc pc = .ok (.goto off, 3)) (ht : (pc : Int) + off = (pc2 : Int)) (k : VV X Λ nL pc2 lv st σ) : VV X Λ nL pc lv st σ := by
  intro ls H locs hl hP hS; exact lv_goto C.1 C.2.1 hd ht (k ls H locs hl hP hS)
variable {pc3 : Nat}
theorem v_ifeq (C : OK X Λ cc nL own fr lo) {x : Int32} {off : Int} (hd : decode cc pc = .ok (.ifCond .eq off, 3)) (ht : (pc : Int) + off = (pc2 : Int)) (hp : pc3 = pc + 3) (kt : x = 0 → VV X Λ nL pc2 lv st σ) (kf : ¬ x = 0 → VV X Λ nL pc3 lv st σ) : VV X Λ nL pc lv (.int x :: st) σ := by
  subst hp; intro ls H locs hl hP hS; exact lv_if_eq C.1 C.2.1 hd ht (fun h => kt h ls H locs hl hP hS) (fun h => kf h ls H locs hl hP hS)
theorem v_ifne (C : OK X Λ cc nL own fr lo) {x : Int32} {off : Int} (hd : decode cc pc = .ok (.ifCond .ne off, 3)) (ht : (pc : Int) + off = (pc2 : Int)) (hp : pc3 = pc + 3) (kt : ¬ x = 0 → VV X Λ nL pc2 lv st σ) (kf : x = 0 → VV X Λ nL pc3 lv st σ) : VV X Λ nL pc lv (.int x :: st) σ := by
  subst hp; intro ls H locs hl hP hS; exact lv_if_ne C.1 C.2.1 hd ht (fun h => kt (by first | exact h | simpa using h) ls H locs hl hP hS) (fun h => kf (by first | exact h | simpa using h) ls H locs hl hP hS)
theorem v_iflt (C : OK X Λ cc nL own fr lo) {x : Int32} {off : Int} (hd : decode cc pc = .ok (.ifCond .lt off, 3)) (ht : (pc : Int) + off = (pc2 : Int)) (hp : pc3 = pc + 3) (kt : x < 0 → VV X Λ nL pc2 lv st σ) (kf : ¬ x < 0 → VV X Λ nL pc3 lv st σ) : VV X Λ nL pc lv (.int x :: st) σ := by
  subst hp; intro ls H locs hl hP hS; exact lv_if_lt C.1 C.2.1 hd ht (fun h => kt h ls H locs hl hP hS) (fun h => kf h ls H locs hl hP hS)
theorem v_ifge (C : OK X Λ cc nL own fr lo) {x : Int32} {off : Int} (hd : decode cc pc = .ok (.ifCond .ge off, 3)) (ht : (pc : Int) + off = (pc2 : Int)) (hp : pc3 = pc + 3) (kt : 0 ≤ x → VV X Λ nL pc2 lv st σ) (kf : ¬ 0 ≤ x → VV X Λ nL pc3 lv st σ) : VV X Λ nL pc lv (.int x :: st) σ := by
  subst hp; intro ls H locs hl hP hS; exact lv_if_ge C.1 C.2.1 hd ht (fun h => kt h ls H locs hl hP hS) (fun h => kf h ls H locs hl hP hS)
theorem v_ifgt (C : OK X Λ cc nL own fr lo) {x : Int32} {off : Int} (hd : decode cc pc = .ok (.ifCond .gt off, 3)) (ht : (pc : Int) + off = (pc2 : Int)) (hp : pc3 = pc + 3) (kt : 0 < x → VV X Λ nL pc2 lv st σ) (kf : ¬ 0 < x → VV X Λ nL pc3 lv st σ) : VV X Λ nL pc lv (.int x :: st) σ := by
  subst hp; intro ls H locs hl hP hS; exact lv_if_gt C.1 C.2.1 hd ht (fun h => kt h ls H locs hl hP hS) (fun h => kf h ls H locs hl hP hS)
theorem v_ifle (C : OK X Λ cc nL own fr lo) {x : Int32} {off : Int} (hd : decode cc pc = .ok (.ifCond .le off, 3)) (ht : (pc : Int) + off = (pc2 : Int)) (hp : pc3 = pc + 3) (kt : x ≤ 0 → VV X Λ nL pc2 lv st σ) (kf : ¬ x ≤ 0 → VV X Λ nL pc3 lv st σ) : VV X Λ nL pc lv (.int x :: st) σ := by
  subst hp; intro ls H locs hl hP hS; exact lv_if_le C.1 C.2.1 hd ht (fun h => kt h ls H locs hl hP hS) (fun h => kf h ls H locs hl hP hS)
theorem v_icmpeq (C : OK X Λ cc nL own fr lo) {x y : Int32} {off : Int} (hd : decode cc pc = .ok (.if_icmp .eq off, 3)) (ht : (pc : Int) + off = (pc2 : Int)) (hp : pc3 = pc + 3) (kt : x = y → VV X Λ nL pc2 lv st σ) (kf : ¬ x = y → VV X Λ nL pc3 lv st σ) : VV X Λ nL pc lv (.int y :: .int x :: st) σ := by
  subst hp; intro ls H locs hl hP hS; exact lv_icmp_eq C.1 C.2.1 hd ht (fun h => kt h ls H locs hl hP hS) (fun h => kf h ls H locs hl hP hS)
theorem v_icmpne (C : OK X Λ cc nL own fr lo) {x y : Int32} {off : Int} (hd : decode cc pc = .ok (.if_icmp .ne off, 3)) (ht : (pc : Int) + off = (pc2 : Int)) (hp : pc3 = pc + 3) (kt : ¬ x = y → VV X Λ nL pc2 lv st σ) (kf : x = y → VV X Λ nL pc3 lv st σ) : VV X Λ nL pc lv (.int y :: .int x :: st) σ := by
  subst hp; intro ls H locs hl hP hS; exact lv_icmp_ne C.1 C.2.1 hd ht (fun h => kt (by first | exact h | simpa using h) ls H locs hl hP hS) (fun h => kf (by first | exact h | simpa using h) ls H locs hl hP hS)
theorem v_icmplt (C : OK X Λ cc nL own fr lo) {x y : Int32} {off : Int} (hd : decode cc pc = .ok (.if_icmp .lt off, 3)) (ht : (pc : Int) + off = (pc2 : Int)) (hp : pc3 = pc + 3) (kt : x < y → VV X Λ nL pc2 lv st σ) (kf : ¬ x < y → VV X Λ nL pc3 lv st σ) : VV X Λ nL pc lv (.int y :: .int x :: st) σ := by
  subst hp; intro ls H locs hl hP hS; exact lv_icmp_lt C.1 C.2.1 hd ht (fun h => kt h ls H locs hl hP hS) (fun h => kf h ls H locs hl hP hS)
theorem v_icmpge (C : OK X Λ cc nL own fr lo) {x y : Int32} {off : Int} (hd : decode cc pc = .ok (.if_icmp .ge off, 3)) (ht : (pc : Int) + off = (pc2 : Int)) (hp : pc3 = pc + 3) (kt : y ≤ x → VV X Λ nL pc2 lv st σ) (kf : ¬ y ≤ x → VV X Λ nL pc3 lv st σ) : VV X Λ nL pc lv (.int y :: .int x :: st) σ := by
  subst hp; intro ls H locs hl hP hS; exact lv_icmp_ge C.1 C.2.1 hd ht (fun h => kt h ls H locs hl hP hS) (fun h => kf h ls H locs hl hP hS)
theorem v_icmpgt (C : OK X Λ cc nL own fr lo) {x y : Int32} {off : Int} (hd : decode cc pc = .ok (.if_icmp .gt off, 3)) (ht : (pc : Int) + off = (pc2 : Int)) (hp : pc3 = pc + 3) (kt : y < x → VV X Λ nL pc2 lv st σ) (kf : ¬ y < x → VV X Λ nL pc3 lv st σ) : VV X Λ nL pc lv (.int y :: .int x :: st) σ := by
  subst hp; intro ls H locs hl hP hS; exact lv_icmp_gt C.1 C.2.1 hd ht (fun h => kt h ls H locs hl hP hS) (fun h => kf h ls H locs hl hP hS)
theorem v_icmple (C : OK X Λ cc nL own fr lo) {x y : Int32} {off : Int} (hd : decode cc pc = .ok (.if_icmp .le off, 3)) (ht : (pc : Int) + off = (pc2 : Int)) (hp : pc3 = pc + 3) (kt : x ≤ y → VV X Λ nL pc2 lv st σ) (kf : ¬ x ≤ y → VV X Λ nL pc3 lv st σ) : VV X Λ nL pc lv (.int y :: .int x :: st) σ := by
  subst hp; intro ls H locs hl hP hS; exact lv_icmp_le C.1 C.2.1 hd ht (fun h => kt h ls H locs hl hP hS) (fun h => kf h ls H locs hl hP hS)
theorem v_lcmp (C : OK X Λ cc nL own fr lo) {x y : Int64} (hd : decode cc pc = .ok (.lcmp, 1)) (hp : pc2 = pc + 1) (k : VV X Λ nL pc2 lv (.int (lg_cmp x y) :: st) σ) : VV X Λ nL pc lv (.long y :: .long x :: st) σ := by
  subst hp; intro ls H locs hl hP hS; exact W.lcmp C.1 C.2.1 hd (k ls H locs hl hP hS)
theorem lc_eq (x y : Int64) : lg_cmp x y = 0 ↔ x = y := by
  unfold lg_cmp
  simp only [gt_iff_lt, Int64.lt_iff_toInt_lt, ← Int64.toInt_inj]
  split
  · rename_i h; constructor
    · intro q; exact absurd q (by decide)
    · intro q; omega
  · split
    · rename_i h1 h2; simp [h2]
    · rename_i h1 h2; simp [h2]
theorem lc_lt (x y : Int64) : lg_cmp x y < 0 ↔ x < y := by
  unfold lg_cmp
  simp only [gt_iff_lt, Int64.lt_iff_toInt_lt, ← Int64.toInt_inj]
  split
  · rename_i h; constructor
    · intro q; exact absurd q (by decide)
    · intro q; omega
  · split
    · rename_i h1 h2; constructor
      · intro q; exact absurd q (by decide)
      · intro q; omega
    · rename_i h1 h2; constructor
      · intro q; omega
      · intro q; decide
theorem lc_gt (x y : Int64) : 0 < lg_cmp x y ↔ y < x := by
  unfold lg_cmp
  simp only [gt_iff_lt, Int64.lt_iff_toInt_lt, ← Int64.toInt_inj]
  split
  · rename_i h; constructor
    · intro q; exact h
    · intro q; decide
  · split
    · rename_i h1 h2; constructor
      · intro q; exact absurd q (by decide)
      · intro q; omega
    · rename_i h1 h2; constructor
      · intro q; exact absurd q (by decide)
      · intro q; omega
theorem lc_le (x y : Int64) : lg_cmp x y ≤ 0 ↔ x ≤ y := by
  have h := lc_gt x y
  rw [Int32.lt_iff_toInt_lt, Int64.lt_iff_toInt_lt] at h
  rw [Int32.le_iff_toInt_le, Int64.le_iff_toInt_le]
  omega
theorem lc_ge (x y : Int64) : 0 ≤ lg_cmp x y ↔ y ≤ x := lg_cmp_ge x y
theorem v_lceq (C : OK X Λ cc nL own fr lo) {x y : Int64} {off : Int} (hc : decode cc pc = .ok (.lcmp, 1)) (hd : decode cc (pc + 1) = .ok (.ifCond .eq off, 3)) (ht : ((pc + 1 : Nat) : Int) + off = (pc2 : Int)) (hp : pc3 = pc + 4) (kt : x = y → VV X Λ nL pc2 lv st σ) (kf : ¬ x = y → VV X Λ nL pc3 lv st σ) : VV X Λ nL pc lv (.long y :: .long x :: st) σ :=
  v_lcmp C hc rfl (v_ifeq C hd ht (by rw [hp]) (fun h => kt ((lc_eq x y).mp h)) (fun h => kf (fun q => h ((lc_eq x y).mpr q))))
theorem v_lcne (C : OK X Λ cc nL own fr lo) {x y : Int64} {off : Int} (hc : decode cc pc = .ok (.lcmp, 1)) (hd : decode cc (pc + 1) = .ok (.ifCond .ne off, 3)) (ht : ((pc + 1 : Nat) : Int) + off = (pc2 : Int)) (hp : pc3 = pc + 4) (kt : ¬ x = y → VV X Λ nL pc2 lv st σ) (kf : x = y → VV X Λ nL pc3 lv st σ) : VV X Λ nL pc lv (.long y :: .long x :: st) σ :=
  v_lcmp C hc rfl (v_ifne C hd ht (by rw [hp]) (fun h => kt (fun q => h ((lc_eq x y).mpr q))) (fun h => kf ((lc_eq x y).mp h)))
theorem v_lclt (C : OK X Λ cc nL own fr lo) {x y : Int64} {off : Int} (hc : decode cc pc = .ok (.lcmp, 1)) (hd : decode cc (pc + 1) = .ok (.ifCond .lt off, 3)) (ht : ((pc + 1 : Nat) : Int) + off = (pc2 : Int)) (hp : pc3 = pc + 4) (kt : x < y → VV X Λ nL pc2 lv st σ) (kf : ¬ x < y → VV X Λ nL pc3 lv st σ) : VV X Λ nL pc lv (.long y :: .long x :: st) σ :=
  v_lcmp C hc rfl (v_iflt C hd ht (by rw [hp]) (fun h => kt ((lc_lt x y).mp h)) (fun h => kf (fun q => h ((lc_lt x y).mpr q))))
theorem v_lcge (C : OK X Λ cc nL own fr lo) {x y : Int64} {off : Int} (hc : decode cc pc = .ok (.lcmp, 1)) (hd : decode cc (pc + 1) = .ok (.ifCond .ge off, 3)) (ht : ((pc + 1 : Nat) : Int) + off = (pc2 : Int)) (hp : pc3 = pc + 4) (kt : y ≤ x → VV X Λ nL pc2 lv st σ) (kf : ¬ y ≤ x → VV X Λ nL pc3 lv st σ) : VV X Λ nL pc lv (.long y :: .long x :: st) σ :=
  v_lcmp C hc rfl (v_ifge C hd ht (by rw [hp]) (fun h => kt ((lc_ge x y).mp h)) (fun h => kf (fun q => h ((lc_ge x y).mpr q))))
theorem v_lcgt (C : OK X Λ cc nL own fr lo) {x y : Int64} {off : Int} (hc : decode cc pc = .ok (.lcmp, 1)) (hd : decode cc (pc + 1) = .ok (.ifCond .gt off, 3)) (ht : ((pc + 1 : Nat) : Int) + off = (pc2 : Int)) (hp : pc3 = pc + 4) (kt : y < x → VV X Λ nL pc2 lv st σ) (kf : ¬ y < x → VV X Λ nL pc3 lv st σ) : VV X Λ nL pc lv (.long y :: .long x :: st) σ :=
  v_lcmp C hc rfl (v_ifgt C hd ht (by rw [hp]) (fun h => kt ((lc_gt x y).mp h)) (fun h => kf (fun q => h ((lc_gt x y).mpr q))))
theorem v_lcle (C : OK X Λ cc nL own fr lo) {x y : Int64} {off : Int} (hc : decode cc pc = .ok (.lcmp, 1)) (hd : decode cc (pc + 1) = .ok (.ifCond .le off, 3)) (ht : ((pc + 1 : Nat) : Int) + off = (pc2 : Int)) (hp : pc3 = pc + 4) (kt : x ≤ y → VV X Λ nL pc2 lv st σ) (kf : ¬ x ≤ y → VV X Λ nL pc3 lv st σ) : VV X Λ nL pc lv (.long y :: .long x :: st) σ :=
  v_lcmp C hc rfl (v_ifle C hd ht (by rw [hp]) (fun h => kt ((lc_le x y).mp h)) (fun h => kf (fun q => h ((lc_le x y).mpr q))))
end VVR
