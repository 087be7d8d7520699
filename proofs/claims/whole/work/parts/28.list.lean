/-! constructors: the world is a list of cells that grows -/
def nestI : List Cond := [.methodLinkNest RX0 19 yX2_init RX9, .methodLinkNest RX0 42 yX3_init RX9, .methodLinkNest RX9 18 yX4_init RX9, .methodLinkNest RX9 39 yX1_init RX9, .methodLinkNest RX9 46 yX7_init RX9, .methodLinkNest RX9 53 yX6_init RX9]
def STI (U : State) : Prop := (∀ w ∈ nestI, va_Nw w U) ∧ va_AO "SunRows$Row" U
theorem STI.warm {s U : State} (hW : s.WarmedH U.vm) (h : STI s) : STI U := by
  refine ⟨fun w hw => ?_, va_AO.moved hW.alike h.2⟩
  have h1 := h.1 w hw
  simp only [nestI, List.mem_cons, List.mem_nil_iff, or_false] at hw
  rcases hw with rfl | rfl | rfl | rfl | rfl | rfl <;> exact va_Nw.warmM hW h1
theorem STI.same {u U : State} (hvm : u.vm = U.vm) (h : STI u) : STI U := by
  refine ⟨fun w hw => ?_, va_AO.moved (by rw [hvm]; exact Vm.Alike.refl _) h.2⟩
  have h1 := h.1 w hw
  simp only [nestI, List.mem_cons, List.mem_nil_iff, or_false] at hw
  rcases hw with rfl | rfl | rfl | rfl | rfl | rfl <;> exact va_Nw.same rfl hvm h1
/-- a constructor's own region: its object, and what is new -/
def AI (h0 sz : Nat) : Nat → Prop := fun q => q = h0 ∨ sz ≤ q
def BI (Λ : LY) (U : State) : Prop := va_K (dG Λ) vwCl (tyL Λ) U ∧ STI U
def CI (l : Launch) (Λ : LY) (y : MethodName) (cc : ByteArray) (nL fr lo mc ms : Nat) (h0 sz : Nat) (e0 : va_E) (Post : va_W → Prop) : Prop :=
  Met l y (Cond.code y cc nL none :: wsG) ({ frames := fr, cells := mc, slots := ms, locals := lo }) (va_Pc [.ref h0] (fun U => U.heap.size = sz ∧ va_P (dG Λ) vwCl [(h0, e0)] U.heap ∧ BI Λ U))
    (fun _ st oc t => oc = .returned none ∧ (∃ ws, Post ws ∧ va_P (dG Λ) vwCl ws t.heap ∧ va_D (AI h0 sz) ws) ∧ va_F (AI h0 sz) st t) mc ms (AI h0 sz)
def VL (X : CX) (Λ : LY) (A : Nat → Prop) (nL : Nat) (pc : Nat) (lv : List (Nat × Value)) (st : List Value) (ws : va_W) (cs sl : Nat) : Prop :=
  ∀ (ls : Array Slot) (H : Heap) (locs : List Loc), lv_has ls nL lv → va_P (dG Λ) vwCl ws H → va_D A ws → va_S A (xs X).heap H locs →
    W (xp X) (xl X) (xe X) (xR X) (xs X) (xm X) (xa X) (xb X) (xh X) (xc X) H locs cs sl (xQ X) (F0 (xm X) pc ls st)
def OL (X : CX) (Λ : LY) (A : Nat → Prop) (cc : ByteArray) (nL : Nat) (own : String) (fr lo mc ms : Nat) : Prop :=
  (xp X).tables.exec = Jvm.exec ∧ (xc X).code = cc ∧ (xc X).maxLocals = nL ∧ (xs X).vm.findClass own = some (xm X).cls ∧ (∀ w ∈ wsG, w.before (xa X) (xs X) = true) ∧ (xh X).locks = false ∧
  va_K (dG Λ) vwCl (tyL Λ) (xs X) ∧ STI (xs X) ∧ (∀ q, (xs X).heap.size ≤ q → A q) ∧ (xR X).frames = fr ∧ (xR X).locals = lo ∧ (xR X).cells = mc ∧ (xR X).slots = ms
section VLR
variable {X : CX} {Λ : LY} {A : Nat → Prop} {cc : ByteArray} {nL fr lo mc ms : Nat} {own : String} {pc pc2 pc3 : Nat} {lv lv2 : List (Nat × Value)} {st : List Value} {ws ws2 : va_W} {cs sl : Nat}
theorem w_ws (h : ws = ws2) (k : VL X Λ A nL pc lv st ws2 cs sl) : VL X Λ A nL pc lv st ws cs sl := h ▸ k
theorem w_aload_n (C : OL X Λ A cc nL own fr lo mc ms) (j : Nat) {i : Fin 4} {x : Nat} (hd : decode cc pc = .ok (.aload_n i, 1)) (hj : lv[j]? = some (i.val, .ref x)) (hp : pc2 = pc + 1) (k : VL X Λ A nL pc2 lv (.ref x :: st) ws cs sl) : VL X Λ A nL pc lv st ws cs sl := by
  subst hp; intro ls H locs hl hP hD hS; exact lv_aload_n C.1 C.2.1 hd rfl (lv_at hl j hj) (k ls H locs hl hP hD hS)
theorem w_astore_n (C : OL X Λ A cc nL own fr lo mc ms) {i : Fin 4} {x : Nat} (hd : decode cc pc = .ok (.astore_n i, 1)) (hn : i.val < nL) (h2 : (i.val, Value.ref x) :: lv.filter (fun q => !(q.1 == i.val) && !(q.1 + 1 == i.val && q.2.category == 2)) = lv2) (hp : pc2 = pc + 1) (k : VL X Λ A nL pc2 lv2 st ws cs sl) : VL X Λ A nL pc lv (.ref x :: st) ws cs sl := by
  subst hp; intro ls H locs hl hP hD hS; exact lv_astore_n C.1 C.2.1 hd rfl hl hn h2 (fun ls2 hl2 => k ls2 H locs hl2 hP hD hS)
theorem w_iload_n (C : OL X Λ A cc nL own fr lo mc ms) (j : Nat) {i : Fin 4} {x : Int32} (hd : decode cc pc = .ok (.iload_n i, 1)) (hj : lv[j]? = some (i.val, .int x)) (hp : pc2 = pc + 1) (k : VL X Λ A nL pc2 lv (.int x :: st) ws cs sl) : VL X Λ A nL pc lv st ws cs sl := by
  subst hp; intro ls H locs hl hP hD hS; exact lv_iload_n C.1 C.2.1 hd rfl (lv_at hl j hj) (k ls H locs hl hP hD hS)
theorem w_istore_n (C : OL X Λ A cc nL own fr lo mc ms) {i : Fin 4} {x : Int32} (hd : decode cc pc = .ok (.istore_n i, 1)) (hn : i.val < nL) (h2 : (i.val, Value.int x) :: lv.filter (fun q => !(q.1 == i.val) && !(q.1 + 1 == i.val && q.2.category == 2)) = lv2) (hp : pc2 = pc + 1) (k : VL X Λ A nL pc2 lv2 st ws cs sl) : VL X Λ A nL pc lv (.int x :: st) ws cs sl := by
  subst hp; intro ls H locs hl hP hD hS; exact lv_istore_n C.1 C.2.1 hd rfl hl hn h2 (fun ls2 hl2 => k ls2 H locs hl2 hP hD hS)
theorem w_iinc (C : OL X Λ A cc nL own fr lo mc ms) (j : Nat) {i : Nat} {n : Int} {x v : Int32} (hd : decode cc pc = .ok (.iinc i n, 3)) (hj : lv[j]? = some (i, .int x)) (hv : x + Int32.ofInt n = v) (hn : i < nL) (h2 : (i, Value.int v) :: lv.filter (fun q => !(q.1 == i) && !(q.1 + 1 == i && q.2.category == 2)) = lv2) (hp : pc2 = pc + 3) (k : VL X Λ A nL pc2 lv2 st ws cs sl) : VL X Λ A nL pc lv st ws cs sl := by
  subst hp; intro ls H locs hl hP hD hS; exact lv_iinc C.1 C.2.1 hd hl hj hv hn h2 (fun ls2 hl2 => k ls2 H locs hl2 hP hD hS)
theorem w_iconst (C : OL X Λ A cc nL own fr lo mc ms) {n : Int} {v : Int32} (hd : decode cc pc = .ok (.iconst n, 1)) (hv : Int32.ofInt n = v) (hp : pc2 = pc + 1) (k : VL X Λ A nL pc2 lv (.int v :: st) ws cs sl) : VL X Λ A nL pc lv st ws cs sl := by
  subst hp; intro ls H locs hl hP hD hS; exact lv_iconst C.1 C.2.1 hd hv (k ls H locs hl hP hD hS)
theorem w_bipush (C : OL X Λ A cc nL own fr lo mc ms) {n : Int} {v : Int32} (hd : decode cc pc = .ok (.bipush n, 2)) (hv : (Int8.ofInt n).toInt32 = v) (hp : pc2 = pc + 2) (k : VL X Λ A nL pc2 lv (.int v :: st) ws cs sl) : VL X Λ A nL pc lv st ws cs sl := by
  subst hp; intro ls H locs hl hP hD hS; exact lv_bipush C.1 C.2.1 hd hv (k ls H locs hl hP hD hS)
theorem w_lconst (C : OL X Λ A cc nL own fr lo mc ms) {n : Fin 2} {v : Int64} (hd : decode cc pc = .ok (.lconst n, 1)) (hv : Int64.ofNat (n : Nat) = v) (hp : pc2 = pc + 1) (k : VL X Λ A nL pc2 lv (.long v :: st) ws cs sl) : VL X Λ A nL pc lv st ws cs sl := by
  subst hp; intro ls H locs hl hP hD hS; exact lv_lconst C.1 C.2.1 hd hv (k ls H locs hl hP hD hS)
theorem w_ldc (C : OL X Λ A cc nL own fr lo mc ms) {i : Nat} {v : Int32} (hw : Cond.constant own i v ∈ wsG) (hd : decode cc pc = .ok (.ldc i, 2)) (hp : pc2 = pc + 2) (k : VL X Λ A nL pc2 lv (.int v :: st) ws cs sl) : VL X Λ A nL pc lv st ws cs sl := by
  subst hp; intro ls H locs hl hP hD hS; exact lv_ldc C.1 C.2.1 C.2.2.2.1 (C.2.2.2.2.1 _ hw) hd (k ls H locs hl hP hD hS)
theorem w_dup (C : OL X Λ A cc nL own fr lo mc ms) {a : Value} (hd : decode cc pc = .ok (.dup, 1)) (ha : a.category = 1) (hp : pc2 = pc + 1) (k : VL X Λ A nL pc2 lv (a :: a :: st) ws cs sl) : VL X Λ A nL pc lv (a :: st) ws cs sl := by
  subst hp; intro ls H locs hl hP hD hS; exact lv_dup C.1 C.2.1 hd ha (k ls H locs hl hP hD hS)
theorem w_goto (C : OL X Λ A cc nL own fr lo mc ms) {off : Int} (hd : decode cc pc = .ok (.goto off, 3)) (ht : (pc : Int) + off = (pc2 : Int)) (k : VL X Λ A nL pc2 lv st ws cs sl) : VL X Λ A nL pc lv st ws cs sl := by
  intro ls H locs hl hP hD hS; exact lv_goto C.1 C.2.1 hd ht (k ls H locs hl hP hD hS)
theorem w_icmpge (C : OL X Λ A cc nL own fr lo mc ms) {x y : Int32} {off : Int} (hd : decode cc pc = .ok (.if_icmp .ge off, 3)) (ht : (pc : Int) + off = (pc2 : Int)) (hp : pc3 = pc + 3) (kt : y ≤ x → VL X Λ A nL pc2 lv st ws cs sl) (kf : ¬ y ≤ x → VL X Λ A nL pc3 lv st ws cs sl) : VL X Λ A nL pc lv (.int y :: .int x :: st) ws cs sl := by
  subst hp; intro ls H locs hl hP hD hS; exact lv_icmp_ge C.1 C.2.1 hd ht (fun h => kt h ls H locs hl hP hD hS) (fun h => kf h ls H locs hl hP hD hS)
theorem w_objInit (C : OL X Λ A cc nL own fr lo mc ms) {idx a : Nat} (hw : Cond.methodLink own idx objectInit ∈ wsG) (w2 : Cond.instanceMethod objectInit ∈ wsG) (w3 : Cond.code objectInit ⟨#[0xb1]⟩ 1 none ∈ wsG) (hf : 1 ≤ fr) (hlo : 2 * 0 + (st.map fun v => v.category).sum + 12 ≤ lo) (hd : decode cc pc = .ok (.invokespecial idx, 3)) (hp : pc2 = pc + 3) (k : VL X Λ A nL pc2 lv st ws cs sl) : VL X Λ A nL pc lv (.ref a :: st) ws cs sl := by
  subst hp; intro ls H locs hl hP hD hS
  obtain ⟨h1, h2, h3, h4, h5, h6, h7, h8, h9, h10, h11, h12, h13⟩ := C
  exact W.objInit h1 h2 h4 (h5 _ hw) (h5 _ w2) (h5 _ w3) rfl (by rw [h3]; exact hl.1) rfl hd (by rw [h10]; exact hf) (by rw [h11]; exact hlo) (k ls H locs hl hP hD hS)
theorem w_get (C : OL X Λ A cc nL own fr lo mc ms) {Cn : String} {T : u_T} {N ci index a : Nat} (hin : ∀ w ∈ u_ws Cn T N, w ∈ wsG) (q0 : Nat) {fs : List Value} (he : ws[q0]? = some (a, .inr (ci, fs))) (hc : vwCl[ci]? = some (Cn, T, N)) (j : Nat) (hj : j < N) (hT : (T j).1 = Cn)
    (hlink : Cond.fieldLink own index Cn (T j).2.1 (T j).2.2.1 ∈ wsG) {v : Value} (hv : fs[j]? = some v) (hd : decode cc pc = .ok (.getfield index, 3)) (hp : pc2 = pc + 3) (k : VL X Λ A nL pc2 lv (v :: st) ws cs sl) : VL X Λ A nL pc lv (.ref a :: st) ws cs sl := by
  subst hp; intro ls H locs hl hP hD hS
  exact va_get C.1 C.2.1 C.2.2.2.2.1 hin C.2.2.2.1 C.2.2.2.2.2.2.1 hP q0 he hc j hj (C.2.2.2.2.1 _ hlink) (fun x hx => by rw [hT] at hx; exact hx) hv hd (k ls H locs hl hP hD hS)
theorem w_put (C : OL X Λ A cc nL own fr lo mc ms) {Cn : String} {T : u_T} {N ci index a : Nat} (hin : ∀ w ∈ u_ws Cn T N, w ∈ wsG) (ty0 : Nat → FieldType) (hty : ∀ k, k < N → parseFieldDescriptor (T k).2.2.1 = some (ty0 k)) (hnm : ∀ a, a < N → ∀ b, b < N → a ≠ b → (T a).2.1 ≠ (T b).2.1)
    (q0 : Nat) {fs : List Value} (he : ws[q0]? = some (a, .inr (ci, fs))) (hc : vwCl[ci]? = some (Cn, T, N)) (j : Nat) (hj : j < N) (hT : (T j).1 = Cn)
    (hlink : Cond.fieldLink own index Cn (T j).2.1 (T j).2.2.1 ∈ wsG) (hfin : (T j).2.2.2 = false) {ty : FieldType} {v : Value} (hdd : parseFieldDescriptor (T j).2.2.1 = some ty) (hn : narrow ty v = v) (hfit : fits ty v = true) (hl2 : j < fs.length)
    (hset : ws.set q0 (a, .inr (ci, fs.set j v)) = ws2) (hd : decode cc pc = .ok (.putfield index, 3)) (hp : pc2 = pc + 3) (k : VL X Λ A nL pc2 lv st ws2 cs sl) : VL X Λ A nL pc lv (v :: .ref a :: st) ws cs sl := by
  subst hp; subst hset; intro ls H locs hl hP hD hS
  exact va_put C.1 C.2.1 C.2.2.2.2.1 hin ty0 hty hnm C.2.2.2.1 C.2.2.2.2.2.2.1 hP hD hS q0 he hc j hj (C.2.2.2.2.1 _ hlink) (fun x hx => by rw [hT] at hx; exact hx) hfin hdd hn hfit hl2 hd (fun H1 locs1 hP1 hD1 hS1 => k ls H1 locs1 hl hP1 hD1 hS1)
theorem w_putF (C : OL X Λ A cc nL own fr lo mc ms) (hin2 : (xh X).name = "<init>") {Cn : String} {T : u_T} {N ci index a : Nat} (hin : ∀ w ∈ u_ws Cn T N, w ∈ wsG) (ty0 : Nat → FieldType) (hty : ∀ k, k < N → parseFieldDescriptor (T k).2.2.1 = some (ty0 k)) (hnm : ∀ a, a < N → ∀ b, b < N → a ≠ b → (T a).2.1 ≠ (T b).2.1)
    (q0 : Nat) {fs : List Value} (he : ws[q0]? = some (a, .inr (ci, fs))) (hc : vwCl[ci]? = some (Cn, T, N)) (j : Nat) (hj : j < N) (hT : (T j).1 = Cn) (hdecl : (T j).1 = own)
    (hlink : Cond.fieldLink own index Cn (T j).2.1 (T j).2.2.1 ∈ wsG) (hfin : (T j).2.2.2 = true) {ty : FieldType} {v : Value} (hdd : parseFieldDescriptor (T j).2.2.1 = some ty) (hn : narrow ty v = v) (hfit : fits ty v = true) (hl2 : j < fs.length)
    (hset : ws.set q0 (a, .inr (ci, fs.set j v)) = ws2) (hd : decode cc pc = .ok (.putfield index, 3)) (hp : pc2 = pc + 3) (k : VL X Λ A nL pc2 lv st ws2 cs sl) : VL X Λ A nL pc lv (v :: .ref a :: st) ws cs sl := by
  subst hp; subst hset; intro ls H locs hl hP hD hS
  exact va_putF C.1 C.2.1 C.2.2.2.2.1 hin ty0 hty hnm C.2.2.2.1 C.2.2.2.2.2.2.1 hP hD hS q0 he hc j hj (C.2.2.2.2.1 _ hlink) (fun x hx => by rw [hT] at hx; exact hx) hfin hin2 hdecl hdd hn hfit hl2 hd (fun H1 locs1 hP1 hD1 hS1 => k ls H1 locs1 hl hP1 hD1 hS1)
theorem w_iast (C : OL X Λ A cc nL own fr lo mc ms) (q0 : Nat) {a n : Nat} {f : Nat → Int32} (ha : ws[q0]? = some (a, .inl (cI Λ, n, .inl f))) {i x : Int32} (hin : vp_in i n) (hset : ws.set q0 (a, .inl (cI Λ, n, .inl (upd f i.toNatClampNeg x))) = ws2) (hd : decode cc pc = .ok (.iastore, 1)) (hp : pc2 = pc + 1) (k : VL X Λ A nL pc2 lv st ws2 cs sl) : VL X Λ A nL pc lv (.int x :: .int i :: .ref a :: st) ws cs sl := by
  subst hp; subst hset; intro ls H locs hl hP hD hS
  exact va_iast C.1 C.2.1 C.2.2.2.2.2.2.1 hP hD hS q0 0 ha rfl hin hd (fun H1 locs1 hP1 hD1 hS1 => k ls H1 locs1 hl hP1 hD1 hS1)
theorem w_aast (C : OL X Λ A cc nL own fr lo mc ms) (q0 qk : Nat) {a n v : Nat} {vs : List Value} {f : Nat → Option Nat} (ha : ws[q0]? = some (a, .inl (cR Λ, n, .inr (.inr (.inr (.inr f)))))) (hv : ws[qk]? = some (v, .inr (3, vs))) {i : Int32} (hin : vp_in i n) (hset : ws.set q0 (a, .inl (cR Λ, n, .inr (.inr (.inr (.inr (va_up f i.toNatClampNeg (some v))))))) = ws2) (hd : decode cc pc = .ok (.aastore, 1)) (hp : pc2 = pc + 1) (k : VL X Λ A nL pc2 lv st ws2 cs sl) : VL X Λ A nL pc lv (.ref v :: .int i :: .ref a :: st) ws cs sl := by
  subst hp; subst hset; intro ls H locs hl hP hD hS
  exact va_astq (r := (RX3, TX3, 7)) C.1 C.2.1 C.2.2.2.2.2.2.1 hP hD hS q0 3 qk 3 ha rfl hv rfl hin hd (fun H1 locs1 hP1 hD1 hS1 => k ls H1 locs1 hl hP1 hD1 hS1)
/-- an array's class is the one that the layout names -/
theorem cls_eq {tys : List (ClassId × FieldType)} {U : State} {cA cB : ClassId} {ty : FieldType} {t0 n : Nat} (hK : va_K (dG Λ) vwCl tys U) (h0 : tys[t0]? = some (cA, ty)) (h1 : tys[n]? = some (cB, ty)) : cB = cA := by
  have a := (hK.2 t0 _ h0).2
  have b := (hK.2 n _ h1).2
  cases ty with
  | object C =>
    obtain ⟨_, _, -, -, -, a⟩ := a
    obtain ⟨_, _, -, -, -, b⟩ := b
    exact Option.some.inj (b.symm.trans a)
  | _ => exact Option.some.inj (b.symm.trans a)
theorem w_newI (C : OL X Λ A cc nL own fr lo mc ms) (hw : Cond.arrayClass .int ∈ wsG) {n : Int32} (N : Nat) (hn : ¬ n < 0) (hN : n.toNatClampNeg = N) (hb : N * 4 ≤ 536870912) (hc : cs + 1 ≤ mc) (hs : sl + N ≤ ms) (hd : decode cc pc = .ok (.newarray .int, 2)) (hp : pc2 = pc + 2)
    (k : ∀ q : Nat, VL X Λ A nL pc2 lv (.ref q :: st) (ws ++ [(q, .inl (cI Λ, N, .inl (fun _ => 0)))]) (cs + 1) (sl + N)) : VL X Λ A nL pc lv (.int n :: st) ws cs sl := by
  subst hp; intro ls H locs hl hP hD hS
  obtain ⟨h1, h2, h3, h4, h5, h6, h7, h8, h9, h10, h11, h12, h13⟩ := C
  exact va_newa (atype := .int) (ty := .int) (a0 := (N, .inl (fun _ => 0))) h1 h2 (h5 _ hw) rfl h7 hP hD hS h9 (fun _ => rfl) hn hN hb (by rw [h12]; exact hc) (by rw [h13]; exact hs) hd (fun q cA H1 hK1 hP1 hD1 hS1 => by
    have e : cA = cI Λ := cls_eq (t0 := 0) (n := 4) hK1 rfl rfl
    subst e
    exact k q ls H1 locs hl hP1 hD1 hS1)
theorem w_newJ (C : OL X Λ A cc nL own fr lo mc ms) (hw : Cond.arrayClass .long ∈ wsG) {n : Int32} (N : Nat) (hn : ¬ n < 0) (hN : n.toNatClampNeg = N) (hb : N * 8 ≤ 536870912) (hc : cs + 1 ≤ mc) (hs : sl + N ≤ ms) (hd : decode cc pc = .ok (.newarray .long, 2)) (hp : pc2 = pc + 2)
    (k : ∀ q : Nat, VL X Λ A nL pc2 lv (.ref q :: st) (ws ++ [(q, .inl (cJ Λ, N, .inr (.inl (fun _ => 0))))]) (cs + 1) (sl + N)) : VL X Λ A nL pc lv (.int n :: st) ws cs sl := by
  subst hp; intro ls H locs hl hP hD hS
  obtain ⟨h1, h2, h3, h4, h5, h6, h7, h8, h9, h10, h11, h12, h13⟩ := C
  exact va_newa (atype := .long) (ty := .long) (a0 := (N, .inr (.inl (fun _ => 0)))) h1 h2 (h5 _ hw) rfl h7 hP hD hS h9 (fun _ => rfl) hn hN hb (by rw [h12]; exact hc) (by rw [h13]; exact hs) hd (fun q cA H1 hK1 hP1 hD1 hS1 => by
    have e : cA = cJ Λ := cls_eq (t0 := 1) (n := 4) hK1 rfl rfl
    subst e
    exact k q ls H1 locs hl hP1 hD1 hS1)
theorem w_newZ (C : OL X Λ A cc nL own fr lo mc ms) (hw : Cond.arrayClass .boolean ∈ wsG) {n : Int32} (N : Nat) (hn : ¬ n < 0) (hN : n.toNatClampNeg = N) (hb : N * 1 ≤ 536870912) (hc : cs + 1 ≤ mc) (hs : sl + N ≤ ms) (hd : decode cc pc = .ok (.newarray .boolean, 2)) (hp : pc2 = pc + 2)
    (k : ∀ q : Nat, VL X Λ A nL pc2 lv (.ref q :: st) (ws ++ [(q, .inl (cZ Λ, N, .inl (fun _ => 0)))]) (cs + 1) (sl + N)) : VL X Λ A nL pc lv (.int n :: st) ws cs sl := by
  subst hp; intro ls H locs hl hP hD hS
  obtain ⟨h1, h2, h3, h4, h5, h6, h7, h8, h9, h10, h11, h12, h13⟩ := C
  exact va_newa (atype := .boolean) (ty := .boolean) (a0 := (N, .inl (fun _ => 0))) h1 h2 (h5 _ hw) rfl h7 hP hD hS h9 (fun _ => rfl) hn hN hb (by rw [h12]; exact hc) (by rw [h13]; exact hs) hd (fun q cA H1 hK1 hP1 hD1 hS1 => by
    have e : cA = cZ Λ := cls_eq (t0 := 2) (n := 4) hK1 rfl rfl
    subst e
    exact k q ls H1 locs hl hP1 hD1 hS1)
theorem w_newR (C : OL X Λ A cc nL own fr lo mc ms) {index : Nat} (hw : Cond.classLink own index "SunRows$Row" ∈ wsG) {n : Int32} (N : Nat) (hn : ¬ n < 0) (hN : n.toNatClampNeg = N) (hb : N * 4 ≤ 536870912) (hc : cs + 1 ≤ mc) (hs : sl + N ≤ ms) (hd : decode cc pc = .ok (.anewarray index, 3)) (hp : pc2 = pc + 3)
    (k : ∀ q : Nat, VL X Λ A nL pc2 lv (.ref q :: st) (ws ++ [(q, .inl (cR Λ, N, .inr (.inr (.inr (.inr (fun _ => none))))))]) (cs + 1) (sl + N)) : VL X Λ A nL pc lv (.int n :: st) ws cs sl := by
  subst hp; intro ls H locs hl hP hD hS
  obtain ⟨h1, h2, h3, h4, h5, h6, h7, h8, h9, h10, h11, h12, h13⟩ := C
  exact va_newq h1 h2 h4 (h5 _ hw) h8.2 h7 hP hD hS h9 hn hN hb (by rw [h12]; exact hc) (by rw [h13]; exact hs) hd (fun q cA H1 hK1 hP1 hD1 hS1 => by
    have e : cA = cR Λ := cls_eq (t0 := 3) (n := 4) hK1 rfl rfl
    subst e
    exact k q ls H1 locs hl hP1 hD1 hS1)
theorem w_new (C : OL X Λ A cc nL own fr lo mc ms) {Cn : String} {T : u_T} {N ci index : Nat} (hin : ∀ w ∈ u_ws Cn T N, w ∈ wsG) (ty : Nat → FieldType) (hty : ∀ k, k < N → parseFieldDescriptor (T k).2.2.1 = some (ty k)) (w1 : Cond.classLink own index Cn ∈ wsG) (w2 : Cond.instantiable Cn N ∈ wsG) (w3 : Cond.initialized Cn ∈ wsG) (hc : vwCl[ci]? = some (Cn, T, N)) (fs : List Value) (hfs : ∀ j, j < N → defaultValue (ty j) = vp_V fs j)
    (hcc : cs + 1 ≤ mc) (hss : sl + N ≤ ms) (hd : decode cc pc = .ok (.new index, 3)) (hp : pc2 = pc + 3) (k : ∀ q : Nat, VL X Λ A nL pc2 lv (.ref q :: st) (ws ++ [(q, .inr (ci, fs))]) (cs + 1) (sl + N)) : VL X Λ A nL pc lv st ws cs sl := by
  subst hp; intro ls H locs hl hP hD hS
  obtain ⟨h1, h2, h3, h4, h5, h6, h7, h8, h9, h10, h11, h12, h13⟩ := C
  exact va_new h1 h2 h5 hin ty hty h4 (h5 _ w1) (h5 _ w2) (h5 _ w3) h7 hP hD hS h9 hc hfs (by rw [h12]; exact hcc) (by rw [h13]; exact hss) hd (fun q H1 hP1 hD1 hS1 => k q ls H1 locs hl hP1 hD1 hS1)
theorem blind_BI {av : List Value} {sz h0 : Nat} {e0 : va_E} : FrameBlind (va_Pc av (fun U => U.heap.size = sz ∧ va_P (dG Λ) vwCl [(h0, e0)] U.heap ∧ BI Λ U)) := by
  intro a U g mk ⟨g0, g1, g2, g3, g4⟩
  exact ⟨g0, g1, g2, va_K.moved (u := U) (U := U.calling g mk a) (Vm.Alike.refl U.vm) g3, STI.same (u := U) (U := U.calling g mk a) rfl g4⟩
/-- behind a constructor -/
theorem w_after (C : OL X Λ A cc nL own fr lo mc ms) {w1 : va_W} {q mc2 ms2 : Nat} {e0 : va_E} {Post : va_W → Prop} {rest : List Value} {H : Heap} {locs : List Loc} {ls : Array Slot} (hl : lv_has ls nL lv) (hP : va_P (dG Λ) vwCl (w1 ++ [(q, e0)]) H) (hD : va_D A (w1 ++ [(q, e0)])) (hS : va_S A (xs X).heap H locs)
    (hr : va_Run (xp X) (xl X) (xe X) (xR X) (xs X) (xm X) (xa X) (xb X) (xh X) (xc X) H locs cs sl mc2 ms2 (F0 (xm X) pc ls st) rest (fun st0 oc t => oc = .returned none ∧ (∃ wc, Post wc ∧ va_P (dG Λ) vwCl wc t.heap ∧ va_D (AI q H.size) wc) ∧ va_F (AI q H.size) st0 t) (AI q H.size))
    (k : ∀ wc : va_W, Post wc → VL X Λ A nL (pc + 3) lv rest (w1 ++ wc) (cs + mc2) (sl + ms2)) :
    W (xp X) (xl X) (xe X) (xR X) (xs X) (xm X) (xa X) (xb X) (xh X) (xc X) H locs cs sl (xQ X) (F0 (xm X) pc ls st) := by
  obtain ⟨h1, h2, h3, h4, h5, h6, h7, h8, h9, h10, h11, h12, h13⟩ := C
  intro T hT Y
  obtain ⟨v, st₀, t, T', L, h0, Y', hL, e1, e2, ⟨hv, ⟨wc, hPost, hP1, hD1⟩, hz, hk⟩, go⟩ := hr T hT Y
  cases hv
  rw [h0] at hz hk
  have hq : (w1 ++ [(q, e0)])[w1.length]? = some (q, e0) := by simp
  have hqA : A q := hD.2 _ _ hq
  have hAI : ∀ x, AI q H.size x → A x := fun x hx => by
    rcases hx with rfl | hx
    · exact hqA
    · exact h9 x (Nat.le_trans hS.1 hx)
  have hw1 : ∀ (i : Nat) (x : Nat × va_E), w1[i]? = some x → (w1 ++ [(q, e0)])[i]? = some x := fun i x hx => by
    rw [List.getElem?_append_left (List.getElem?_eq_some_iff.mp hx).1]; exact hx
  have ap : ∀ (i : Nat) (x : Nat × va_E), w1[i]? = some x → x.1 < H.size ∧ ¬ AI q H.size x.1 := fun i x hx => by
    have hlt := (hP i x (hw1 i x hx)).lt
    refine ⟨hlt, fun hh => ?_⟩
    rcases hh with hh | hh
    · have := hD.1 i w1.length x (q, e0) (hw1 i x hx) hq hh
      have hi := (List.getElem?_eq_some_iff.mp hx).1
      omega
    · omega
  have hS1 : va_S A (xs X).heap T'.heap (locs ++ L) :=
    ⟨Nat.le_trans hS.1 (by rw [e1]; exact hz), fun x g1 g2 => by rw [e1, hk x (Nat.lt_of_lt_of_le g1 hS.1) (fun z => g2 (hAI x z))]; exact hS.2.1 x g1 g2, fun x hx => by
      rcases List.mem_append.mp hx with g | g
      · exact hS.2.2 x g
      · exact hAI _ (hL x g)⟩
  have hP2 : va_P (dG Λ) vwCl (w1 ++ wc) T'.heap := by
    refine va_P.app (fun i x hx => ?_) (by rw [e1]; exact hP1)
    obtain ⟨g1, g2⟩ := ap i x hx
    exact (hP i x (hw1 i x hx)).kept (by rw [e1]; exact hk x.1 g1 g2)
  have hD2 : va_D A (w1 ++ wc) := by
    refine va_D.app ⟨fun i j x y hx hy e => hD.1 i j x y (hw1 i x hx) (hw1 j y hy) e, fun i x hx => hD.2 i x (hw1 i x hx)⟩ (hD1.weaken (fun _ x _ hx => hAI x.1 hx)) (fun i j x y hx hy e => ?_)
    exact (ap i x hx).2 (by rw [e]; exact hD1.2 j y hy)
  obtain ⟨t2, a1, b1⟩ := k wc hPost ls T'.heap (locs ++ L) hl hP2 hD2 hS1 T' rfl Y'
  exact ⟨t2, go t2 a1, b1⟩
theorem CIpre {w1 : va_W} {q : Nat} {e0 : va_E} {H : Heap} (C : OL X Λ A cc nL own fr lo mc ms) (hP : va_P (dG Λ) vwCl (w1 ++ [(q, e0)]) H) : PreS (xs X) H (va_Pc [.ref q] (fun U => U.heap.size = H.size ∧ va_P (dG Λ) vwCl [(q, e0)] U.heap ∧ BI Λ U)) [.ref q] := by
  refine ⟨blind_BI, fun U hU hW => ⟨rfl, (by rw [hU]), ?_, va_K.moved hW.alike C.2.2.2.2.2.2.1, C.2.2.2.2.2.2.2.1.warm hW⟩⟩
  rw [hU]; intro i x hx
  have hi : i < 1 := (List.getElem?_eq_some_iff.mp hx).1
  have e : i = 0 := by omega
  subst e
  cases hx
  exact hP w1.length (q, e0) (by simp)
theorem w_ctor (C : OL X Λ A cc nL own fr lo mc ms) {w1 : va_W} {idx q fr2 lo2 n2 mc2 ms2 : Nat} {y : MethodName} {c2 : ByteArray} {e0 : va_E} {Post : va_W → Prop} (hM : ∀ sz, CI (xl X) Λ y c2 n2 fr2 lo2 mc2 ms2 q sz e0 Post) (hws : ws = w1 ++ [(q, e0)]) (k1 : Cond.methodLink own idx y ∈ wsG) (k2 : Cond.instanceMethod y ∈ wsG) (k3 : Cond.initialized y.cls ∈ wsG) (k4 : Cond.code y c2 n2 none ∈ wsG)
    (k5 : y.name = "<init>" ∧ (y.cls ≠ "java/lang/invoke/MethodHandle" ∧ y.cls ≠ "java/lang/invoke/VarHandle" ∧ (parseMethodDescriptor y.desc).map (fun d => d.parameters.length) = some 0)) (hR : fr2 + 1 ≤ fr ∧ 8 + (n2 + 11) + lo2 ≤ lo) (hcat : (st.map fun v => v.category).sum ≤ 8) (hcs : cs + mc2 ≤ mc ∧ sl + ms2 ≤ ms) (hd : decode cc pc = .ok (.invokespecial idx, 3)) (hp : pc2 = pc + 3)
    (k : ∀ wc : va_W, Post wc → VL X Λ A nL pc2 lv st (w1 ++ wc) (cs + mc2) (sl + ms2)) : VL X Λ A nL pc lv (.ref q :: st) ws cs sl := by
  subst hp; subst hws; intro ls H locs hl hP hD hS
  have C2 := C
  obtain ⟨h1, h2, h3, h4, h5, h6, h7, h8, h9, h10, h11, h12, h13⟩ := C
  have hG : GoodIn wsG (Cond.code y c2 n2 none :: wsG) := goodG (fun w hw => by rcases List.mem_cons.mp hw with rfl | g; exact k4; exact g)
  exact w_after C2 hl hP hD hS (va_runI (As := []) (rest := st) (b := q) ⟨h1, h2, h3, h4, h5⟩ (hM H.size) (cwI 0 h5 hG rfl rfl rfl (h5 _ k3) (h5 _ k1) (h5 _ k2) k5.1 k5.2 (by rw [h10, h11]; exact hR)) (CIpre C2 hP) rfl rfl hl.1 rfl (lv_room hcat) hd (by rw [h12, h13]; exact hcs)) k
theorem w_ctorN (C : OL X Λ A cc nL own fr lo mc ms) {w1 : va_W} {idx q fr2 lo2 n2 mc2 ms2 : Nat} {y : MethodName} {c2 : ByteArray} {e0 : va_E} {Post : va_W → Prop} (hM : ∀ sz, CI (xl X) Λ y c2 n2 fr2 lo2 mc2 ms2 q sz e0 Post) (hws : ws = w1 ++ [(q, e0)]) (k1 : Cond.methodLinkNest own idx y RX9 ∈ nestI) (k2 : Cond.instanceMethod y ∈ wsG) (k3 : Cond.initialized y.cls ∈ wsG) (k4 : Cond.code y c2 n2 none ∈ wsG)
    (k5 : y.name = "<init>" ∧ (y.cls ≠ "java/lang/invoke/MethodHandle" ∧ y.cls ≠ "java/lang/invoke/VarHandle" ∧ (parseMethodDescriptor y.desc).map (fun d => d.parameters.length) = some 0)) (hR : fr2 + 1 ≤ fr ∧ 8 + (n2 + 11) + lo2 ≤ lo) (hcat : (st.map fun v => v.category).sum ≤ 8) (hcs : cs + mc2 ≤ mc ∧ sl + ms2 ≤ ms) (hd : decode cc pc = .ok (.invokespecial idx, 3)) (hp : pc2 = pc + 3)
    (k : ∀ wc : va_W, Post wc → VL X Λ A nL pc2 lv st (w1 ++ wc) (cs + mc2) (sl + ms2)) : VL X Λ A nL pc lv (.ref q :: st) ws cs sl := by
  subst hp; subst hws; intro ls H locs hl hP hD hS
  have C2 := C
  obtain ⟨h1, h2, h3, h4, h5, h6, h7, h8, h9, h10, h11, h12, h13⟩ := C
  have hG : GoodIn wsG (Cond.code y c2 n2 none :: wsG) := goodG (fun w hw => by rcases List.mem_cons.mp hw with rfl | g; exact k4; exact g)
  exact w_after C2 hl hP hD hS (va_runIN (As := []) (rest := st) (b := q) ⟨h1, h2, h3, h4, h5⟩ (hM H.size) ⟨va_cnB 0 h5 hG rfl rfl rfl (h8.1 _ k1) (h5 _ k3) k5.2 (by rw [h10, h11]; exact hR), k5.1, h5 _ k2⟩ (CIpre C2 hP) rfl rfl hl.1 rfl (lv_room hcat) hd (by rw [h12, h13]; exact hcs)) k
/-- the end of a constructor -/
theorem w_ret {h0 sz : Nat} {Post : va_W → Prop} (C : OL X Λ (AI h0 sz) cc nL own fr lo mc ms) (hr : (xh X).sig.returnType = none) (hQ : xQ X = MQ (xb X) (fun _ st oc t => oc = .returned none ∧ (∃ ws, Post ws ∧ va_P (dG Λ) vwCl ws t.heap ∧ va_D (AI h0 sz) ws) ∧ va_F (AI h0 sz) st t) (xa X) (xs X) cs sl (AI h0 sz)) (hPost : Post ws) (hd : decode cc pc = .ok (.return_, 1)) : VL X Λ (AI h0 sz) nL pc lv [] ws cs sl := by
  intro ls H locs hl hP hD hS
  rw [hQ]
  exact W.vret C.1 C.2.1 hr (fun t ht hW => ⟨rfl, ⟨ws, hPost, by rw [ht]; exact hP, hD⟩, hS.F ht⟩) hS.2.2 hd C.2.2.2.2.2.1
end VLR
theorem CI_of {l : Launch} {Λ : LY} {y : MethodName} {cc : ByteArray} {nL fr lo mc ms h0 sz : Nat} {e0 : va_E} {Post : va_W → Prop} (hy : plainName y.cls = true) (hn : y.name = "<init>") (hlen : (lg_sl [Value.ref h0]).length ≤ nL)
    (body : ∀ X : CX, xl X = l → OL X Λ (AI h0 sz) cc nL y.cls fr lo mc ms → (xh X).name = "<init>" → (xh X).sig.returnType = none → xQ X = MQ (xb X) (fun _ st oc t => oc = .returned none ∧ (∃ ws, Post ws ∧ va_P (dG Λ) vwCl ws t.heap ∧ va_D (AI h0 sz) ws) ∧ va_F (AI h0 sz) st t) (xa X) (xs X) mc ms (AI h0 sz) → VL X Λ (AI h0 sz) nL 0 [(0, .ref h0)] [] [(h0, e0)] 0 0) : CI l Λ y cc nL fr lo mc ms h0 sz e0 Post := by
  refine Met.ofW (cc := cc) (maxL := nL) (ret := none) hy rfl ?_
  intro p e s m args below meth c s₁ B hml hv
  obtain ⟨rfl, hsz, hP, hK, hT⟩ := hv
  have hts := atoms_spec (ws := Cond.code y cc nL none :: wsG) B.pre
  have hown : s.vm.findClass y.cls = some m.cls := findClass_of_methodNamed B.named
  have hin : meth.name = "<init>" := (name_of_methodNamed B.named B.method).1.trans hn
  rw [lg_entry_eq]
  have hl := lv_entry [Value.ref h0] (n := nL) hlen
  have hD : va_D (AI h0 sz) [(h0, e0)] := by
    refine ⟨fun i j x y hx hy _ => ?_, fun i x hx => ?_⟩
    · have h1 : i < 1 := (List.getElem?_eq_some_iff.mp hx).1
      have h2 : j < 1 := (List.getElem?_eq_some_iff.mp hy).1
      omega
    · have h1 : i < 1 := (List.getElem?_eq_some_iff.mp hx).1
      have e : i = 0 := by omega
      subst e
      cases hx
      exact Or.inl rfl
  exact body (p, l, e, { frames := fr, cells := mc, slots := ms, locals := lo }, s, m, [Value.ref h0].toArray, below, meth, c, 0, 0, MQ below (fun _ st oc t => oc = .returned none ∧ (∃ ws, Post ws ∧ va_P (dG Λ) vwCl ws t.heap ∧ va_D (AI h0 sz) ws) ∧ va_F (AI h0 sz) st t) [Value.ref h0].toArray s mc ms (AI h0 sz)) rfl
    ⟨B.exec, B.bytes, hml, hown, fun w hw => hts w (List.mem_cons_of_mem _ hw), B.notSynchronized, hK, hT, fun q hq => Or.inr (by rw [← hsz]; exact hq), rfl, rfl, rfl, rfl⟩ hin B.returns rfl _ s.heap [] hl hP hD va_S.rf
