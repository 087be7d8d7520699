/-! classes' words among wsG -/
def wsOK : Prop := True
theorem inG0 : ∀ w ∈ wsX00, w ∈ wsG := by decide +kernel
theorem inG1 : ∀ w ∈ wsX10, w ∈ wsG := by decide +kernel
theorem inG2 : ∀ w ∈ wsX20, w ∈ wsG := by decide +kernel
theorem inG3 : ∀ w ∈ wsX30, w ∈ wsG := by decide +kernel
theorem inG4 : ∀ w ∈ wsX40, w ∈ wsG := by decide +kernel
theorem inG5 : ∀ w ∈ wsX50, w ∈ wsG := by decide +kernel
theorem inG6 : ∀ w ∈ wsX60, w ∈ wsG := by decide +kernel
theorem inG7 : ∀ w ∈ wsX70, w ∈ wsG := by decide +kernel
theorem inG8 : ∀ w ∈ wsX80, w ∈ wsG := by decide +kernel
theorem inG9 : ∀ w ∈ wsX90, w ∈ wsG := by decide +kernel
theorem inG10 : ∀ w ∈ wsX100, w ∈ wsG := by decide +kernel
section VVH
variable {X : CX} {Λ : LY} {cc : ByteArray} {nL fr lo : Nat} {own : String} {pc pc2 : Nat} {lv lv2 : List (Nat × Value)} {st : List Value} {σ σ2 : St}
theorem v_get (C : OK X Λ cc nL own fr lo) {Cn : String} {T : u_T} {N ci index a : Nat} (hin : ∀ w ∈ u_ws Cn T N, w ∈ wsG) (q0 : Nat) {fs : List Value} (he : (Wd Λ σ)[q0]? = some (a, .inr (ci, fs))) (hc : vwCl[ci]? = some (Cn, T, N)) (j : Nat) (hj : j < N) (hT : (T j).1 = Cn)
    (hlink : Cond.fieldLink own index Cn (T j).2.1 (T j).2.2.1 ∈ wsG) {v : Value} (hv : fs[j]? = some v) (hd : decode cc pc = .ok (.getfield index, 3)) (hp : pc2 = pc + 3) (k : VV X Λ nL pc2 lv (v :: st) σ) : VV X Λ nL pc lv (.ref a :: st) σ := by
  subst hp; intro ls H locs hl hP hS
  exact va_get C.1 C.2.1 C.2.2.2.2.1 hin C.2.2.2.1 C.2.2.2.2.2.2.1 hP q0 he hc j hj (C.2.2.2.2.1 _ hlink) (fun x hx => by rw [hT] at hx; exact hx) hv hd (k ls H locs hl hP hS)
theorem v_put (C : OK X Λ cc nL own fr lo) {Cn : String} {T : u_T} {N ci index a : Nat} (hin : ∀ w ∈ u_ws Cn T N, w ∈ wsG) (ty0 : Nat → FieldType) (hty : ∀ k, k < N → parseFieldDescriptor (T k).2.2.1 = some (ty0 k)) (hnm : ∀ a, a < N → ∀ b, b < N → a ≠ b → (T a).2.1 ≠ (T b).2.1)
    (q0 : Nat) {fs : List Value} (he : (Wd Λ σ)[q0]? = some (a, .inr (ci, fs))) (hc : vwCl[ci]? = some (Cn, T, N)) (j : Nat) (hj : j < N) (hT : (T j).1 = Cn)
    (hlink : Cond.fieldLink own index Cn (T j).2.1 (T j).2.2.1 ∈ wsG) (hfin : (T j).2.2.2 = false) {ty : FieldType} {v : Value} (hdd : parseFieldDescriptor (T j).2.2.1 = some ty) (hn : narrow ty v = v) (hfit : fits ty v = true) (hl2 : j < fs.length)
    (hset : (Wd Λ σ).set q0 (a, .inr (ci, fs.set j v)) = Wd Λ σ2) (hd : decode cc pc = .ok (.putfield index, 3)) (hp : pc2 = pc + 3) (k : VV X Λ nL pc2 lv st σ2) : VV X Λ nL pc lv (v :: .ref a :: st) σ := by
  subst hp; intro ls H locs hl hP hS
  exact va_put C.1 C.2.1 C.2.2.2.2.1 hin ty0 hty hnm C.2.2.2.1 C.2.2.2.2.2.2.1 hP (C.2.2.2.2.2.2.2.1 σ) hS q0 he hc j hj (C.2.2.2.2.1 _ hlink) (fun x hx => by rw [hT] at hx; exact hx) hfin hdd hn hfit hl2 hd (fun H1 locs1 hP1 _ hS1 => k ls H1 locs1 hl (by rw [hset] at hP1; exact hP1) hS1)
theorem v_iald (C : OK X Λ cc nL own fr lo) (q0 : Nat) {a n : Nat} {f : Nat → Int32} (ha : (Wd Λ σ)[q0]? = some (a, .inl (cI Λ, n, .inl f))) {i : Int32} (hin : vp_in i n) (hd : decode cc pc = .ok (.iaload, 1)) (hp : pc2 = pc + 1) (k : VV X Λ nL pc2 lv (.int (f i.toNatClampNeg) :: st) σ) : VV X Λ nL pc lv (.int i :: .ref a :: st) σ := by
  subst hp; intro ls H locs hl hP hS
  exact va_iald C.1 C.2.1 C.2.2.2.2.2.2.1 hP q0 0 ha rfl hin hd (k ls H locs hl hP hS)
theorem v_zald (C : OK X Λ cc nL own fr lo) (q0 : Nat) {a n : Nat} {f : Nat → Int32} (ha : (Wd Λ σ)[q0]? = some (a, .inl (cZ Λ, n, .inl f))) {i : Int32} (hin : vp_in i n) (hd : decode cc pc = .ok (.baload, 1)) (hp : pc2 = pc + 1) (k : VV X Λ nL pc2 lv (.int (f i.toNatClampNeg) :: st) σ) : VV X Λ nL pc lv (.int i :: .ref a :: st) σ := by
  subst hp; intro ls H locs hl hP hS
  exact va_zald C.1 C.2.1 C.2.2.2.2.2.2.1 hP q0 2 ha rfl hin hd (k ls H locs hl hP hS)
theorem v_lald (C : OK X Λ cc nL own fr lo) (q0 : Nat) {a n : Nat} {f : Nat → Int64} (ha : (Wd Λ σ)[q0]? = some (a, .inl (cJ Λ, n, .inr (.inl f)))) {i : Int32} (hin : vp_in i n) (hd : decode cc pc = .ok (.laload, 1)) (hp : pc2 = pc + 1) (k : VV X Λ nL pc2 lv (.long (f i.toNatClampNeg) :: st) σ) : VV X Λ nL pc lv (.int i :: .ref a :: st) σ := by
  subst hp; intro ls H locs hl hP hS
  exact va_lald C.1 C.2.1 C.2.2.2.2.2.2.1 hP q0 1 ha rfl hin hd (k ls H locs hl hP hS)
theorem v_aald (C : OK X Λ cc nL own fr lo) {i : Int32} (hin : vp_in i 10) (hd : decode cc pc = .ok (.aaload, 1)) (hp : pc2 = pc + 1) (k : VV X Λ nL pc2 lv (.ref (adr Λ (27 + i.toNatClampNeg)) :: st) σ) : VV X Λ nL pc lv (.int i :: .ref (adr Λ 9) :: st) σ := by
  subst hp; intro ls H locs hl hP hS
  exact va_aldq C.1 C.2.1 C.2.2.2.2.2.2.1 hP 9 3 (wd9 Λ σ) rfl hin hd (k ls H locs hl hP hS)
theorem v_iast (C : OK X Λ cc nL own fr lo) (q0 : Nat) {a n : Nat} {f : Nat → Int32} (ha : (Wd Λ σ)[q0]? = some (a, .inl (cI Λ, n, .inl f))) {i x : Int32} (hin : vp_in i n) (hset : (Wd Λ σ).set q0 (a, .inl (cI Λ, n, .inl (upd f i.toNatClampNeg x))) = Wd Λ σ2) (hd : decode cc pc = .ok (.iastore, 1)) (hp : pc2 = pc + 1) (k : VV X Λ nL pc2 lv st σ2) : VV X Λ nL pc lv (.int x :: .int i :: .ref a :: st) σ := by
  subst hp; intro ls H locs hl hP hS
  exact va_iast C.1 C.2.1 C.2.2.2.2.2.2.1 hP (C.2.2.2.2.2.2.2.1 σ) hS q0 0 ha rfl hin hd (fun H1 locs1 hP1 _ hS1 => k ls H1 locs1 hl (by rw [hset] at hP1; exact hP1) hS1)
theorem v_zast (C : OK X Λ cc nL own fr lo) (q0 : Nat) {a n : Nat} {f : Nat → Int32} (ha : (Wd Λ σ)[q0]? = some (a, .inl (cZ Λ, n, .inl f))) {i x : Int32} (hin : vp_in i n) (hset : (Wd Λ σ).set q0 (a, .inl (cZ Λ, n, .inl (upd f i.toNatClampNeg (vp_nar .boolean x)))) = Wd Λ σ2) (hd : decode cc pc = .ok (.bastore, 1)) (hp : pc2 = pc + 1) (k : VV X Λ nL pc2 lv st σ2) : VV X Λ nL pc lv (.int x :: .int i :: .ref a :: st) σ := by
  subst hp; intro ls H locs hl hP hS
  exact va_zast C.1 C.2.1 C.2.2.2.2.2.2.1 hP (C.2.2.2.2.2.2.2.1 σ) hS q0 2 ha rfl hin hd (fun H1 locs1 hP1 _ hS1 => k ls H1 locs1 hl (by rw [hset] at hP1; exact hP1) hS1)
theorem v_last (C : OK X Λ cc nL own fr lo) (q0 : Nat) {a n : Nat} {f : Nat → Int64} (ha : (Wd Λ σ)[q0]? = some (a, .inl (cJ Λ, n, .inr (.inl f)))) {i : Int32} {x : Int64} (hin : vp_in i n) (hset : (Wd Λ σ).set q0 (a, .inl (cJ Λ, n, .inr (.inl (vp_updL f i.toNatClampNeg x)))) = Wd Λ σ2) (hd : decode cc pc = .ok (.lastore, 1)) (hp : pc2 = pc + 1) (k : VV X Λ nL pc2 lv st σ2) : VV X Λ nL pc lv (.long x :: .int i :: .ref a :: st) σ := by
  subst hp; intro ls H locs hl hP hS
  exact va_last C.1 C.2.1 C.2.2.2.2.2.2.1 hP (C.2.2.2.2.2.2.2.1 σ) hS q0 1 ha rfl hin hd (fun H1 locs1 hP1 _ hS1 => k ls H1 locs1 hl (by rw [hset] at hP1; exact hP1) hS1)
/-! the two tables -/
theorem v_cos (C : OK X Λ cc nL own fr lo) {index : Nat} (hw : Cond.fieldLinkNest own index RX9 "COSINES" "[I" RX9 ∈ nestW) (hd : decode cc pc = .ok (.getstatic index, 3)) (hp : pc2 = pc + 3) (k : VV X Λ nL pc2 lv (.ref (bC Λ) :: st) σ) : VV X Λ nL pc lv st σ := by
  subst hp; intro ls H locs hl hP hS
  obtain ⟨h1, h2, h3, h4, h5⟩ := C.2.2.2.2.2.2.2.2.1
  exact va_getsN C.1 C.2.1 h1 hS C.2.2.2.1 (va_Nw.use rfl (h5 _ hw)) (fun _ h => h) hd (k ls H locs hl hP hS)
theorem v_sin (C : OK X Λ cc nL own fr lo) {index : Nat} (hw : Cond.fieldLinkNest own index RX9 "SINES" "[I" RX9 ∈ nestW) (hd : decode cc pc = .ok (.getstatic index, 3)) (hp : pc2 = pc + 3) (k : VV X Λ nL pc2 lv (.ref (bS Λ) :: st) σ) : VV X Λ nL pc lv st σ := by
  subst hp; intro ls H locs hl hP hS
  obtain ⟨h1, h2, h3, h4, h5⟩ := C.2.2.2.2.2.2.2.2.1
  exact va_getsN C.1 C.2.1 h2 hS C.2.2.2.1 (va_Nw.use rfl (h5 _ hw)) (fun _ h => h) hd (k ls H locs hl hP hS)
theorem v_cosld (C : OK X Λ cc nL own fr lo) {i : Int32} (hin : vp_in i 13) (hd : decode cc pc = .ok (.iaload, 1)) (hp : pc2 = pc + 1) (k : VV X Λ nL pc2 lv (.int (cosF i.toNatClampNeg) :: st) σ) : VV X Λ nL pc lv (.int i :: .ref (bC Λ) :: st) σ := by
  subst hp; intro ls H locs hl hP hS
  obtain ⟨h1, h2, h3, h4, h5⟩ := C.2.2.2.2.2.2.2.2.1
  exact va_ti C.1 C.2.1 h3 hS hin rfl hd (k ls H locs hl hP hS)
theorem v_sinld (C : OK X Λ cc nL own fr lo) {i : Int32} (hin : vp_in i 13) (hd : decode cc pc = .ok (.iaload, 1)) (hp : pc2 = pc + 1) (k : VV X Λ nL pc2 lv (.int (sinF i.toNatClampNeg) :: st) σ) : VV X Λ nL pc lv (.int i :: .ref (bS Λ) :: st) σ := by
  subst hp; intro ls H locs hl hP hS
  obtain ⟨h1, h2, h3, h4, h5⟩ := C.2.2.2.2.2.2.2.2.1
  exact va_ti C.1 C.2.1 h4 hS hin rfl hd (k ls H locs hl hP hS)
/-! calls -/
theorem blind_BW {Λ : LY} {av : List Value} {σ : St} : FrameBlind (va_Pc av (BW Λ σ)) := by
  intro a U g mk ⟨h0, h1, h2, h3, h4, h5, h6, h7, h8, h9⟩
  exact ⟨h0, h1, h2, va_K.moved (u := U) (U := U.calling g mk a) (Vm.Alike.refl U.vm) h3, h4, va_Z.moved (u := U) (U := U.calling g mk a) (Vm.Alike.refl U.vm) h5, va_Z.moved (u := U) (U := U.calling g mk a) (Vm.Alike.refl U.vm) h6, va_T.moved (u := U) (U := U.calling g mk a) (Vm.Alike.refl U.vm) h7, va_T.moved (u := U) (U := U.calling g mk a) (Vm.Alike.refl U.vm) h8, nestW_same (u := U) (U := U.calling g mk a) rfl h9⟩
def KV (own : String) (idx : Nat) (Cn : String) (y : MethodName) (cc : ByteArray) (nL : Nat) (ret : Option FieldType) (n : Nat) : Prop :=
  GoodIn wsG (wsV own idx Cn y (Cond.code y cc nL ret :: wsG)) ∧ (y.cls = Cn ∧ y.cls ≠ "java/lang/invoke/MethodHandle" ∧ y.cls ≠ "java/lang/invoke/VarHandle" ∧ (parseMethodDescriptor y.desc).map (fun d => d.parameters.length) = some n)
theorem KV.mk {own : String} {idx : Nat} {Cn : String} {y : MethodName} {cc : ByteArray} {nL : Nat} {ret : Option FieldType} {n : Nat} (h1 : Cond.methodLink own idx y ∈ wsG) (h2 : Cond.instanceMethod y ∈ wsG) (h3 : Cond.selects Cn y y ∈ wsG) (h4 : Cond.initialized Cn ∈ wsG) (h5 : Cond.code y cc nL ret ∈ wsG)
    (h6 : (y.cls = Cn ∧ y.cls ≠ "java/lang/invoke/MethodHandle" ∧ y.cls ≠ "java/lang/invoke/VarHandle" ∧ (parseMethodDescriptor y.desc).map (fun d => d.parameters.length) = some n)) : KV own idx Cn y cc nL ret n := by
  refine ⟨goodG (fun w hw => ?_), h6⟩
  simp only [wsV, List.cons_append, List.nil_append, List.mem_cons] at hw
  rcases hw with rfl | rfl | rfl | rfl | rfl | h <;> assumption
def KS (own : String) (idx : Nat) (y : MethodName) (cc : ByteArray) (nL : Nat) (ret : Option FieldType) (n : Nat) : Prop :=
  GoodIn wsG (va_wsS own idx y (Cond.code y cc nL ret :: wsG)) ∧ (y.cls ≠ "java/lang/invoke/MethodHandle" ∧ y.cls ≠ "java/lang/invoke/VarHandle" ∧ (parseMethodDescriptor y.desc).map (fun d => d.parameters.length) = some n)
theorem KS.mk {own : String} {idx : Nat} {y : MethodName} {cc : ByteArray} {nL : Nat} {ret : Option FieldType} {n : Nat} (h1 : Cond.methodLink own idx y ∈ wsG) (h2 : Cond.static y ∈ wsG) (h4 : Cond.initialized y.cls ∈ wsG) (h5 : Cond.code y cc nL ret ∈ wsG)
    (h6 : (y.cls ≠ "java/lang/invoke/MethodHandle" ∧ y.cls ≠ "java/lang/invoke/VarHandle" ∧ (parseMethodDescriptor y.desc).map (fun d => d.parameters.length) = some n)) : KS own idx y cc nL ret n := by
  refine ⟨goodG (fun w hw => ?_), h6⟩
  simp only [va_wsS, List.cons_append, List.nil_append, List.mem_cons] at hw
  rcases hw with rfl | rfl | rfl | rfl | h <;> assumption
def KN (own : String) (idx : Nat) (y : MethodName) (cc : ByteArray) (nL : Nat) (ret : Option FieldType) (n : Nat) : Prop :=
  Cond.methodLinkNest own idx y RX9 ∈ nestW ∧ Cond.static y ∈ wsG ∧ Cond.initialized y.cls ∈ wsG ∧ Cond.code y cc nL ret ∈ wsG ∧ (y.cls ≠ "java/lang/invoke/MethodHandle" ∧ y.cls ≠ "java/lang/invoke/VarHandle" ∧ (parseMethodDescriptor y.desc).map (fun d => d.parameters.length) = some n)
/-- behind a call -/
theorem v_after (C : OK X Λ cc nL own fr lo) {rv : Option Value} {rest : List Value} {a : Array Value} {H : Heap} {locs : List Loc} {ls : Array Slot} (hl : lv_has ls nL lv) (hS : va_S (AA Λ) (xs X).heap H locs)
    (hr : va_Run (xp X) (xl X) (xe X) (xR X) (xs X) (xm X) (xa X) (xb X) (xh X) (xc X) H locs (xn X) (xk X) 0 0 (F0 (xm X) pc ls st) rest (QR Λ rv σ2 a) (AA Λ)) (k : VV X Λ nL (pc + 3) lv (rv.toList ++ rest) σ2) :
    W (xp X) (xl X) (xe X) (xR X) (xs X) (xm X) (xa X) (xb X) (xh X) (xc X) H locs (xn X) (xk X) (xQ X) (F0 (xm X) pc ls st) := by
  intro T hT Y
  obtain ⟨v, st₀, t, T', L, h0, Y', hL, e1, e2, ⟨hv, hB, hz, hk⟩, go⟩ := hr T hT Y
  cases hv
  rw [h0] at hz hk
  have hS1 : va_S (AA Λ) (xs X).heap T'.heap (locs ++ L) :=
    ⟨Nat.le_trans hS.1 (by rw [e1]; exact hz), fun q g1 g2 => by rw [e1, hk q (Nat.lt_of_lt_of_le g1 hS.1) g2]; exact hS.2.1 q g1 g2, fun q hq => by
      rcases List.mem_append.mp hq with g | g
      · exact hS.2.2 q g
      · exact hL q g⟩
  obtain ⟨t2, a1, b1⟩ := k ls T'.heap (locs ++ L) hl (by rw [e1]; exact hB.2.1) hS1 T' rfl Y'
  exact ⟨t2, go t2 a1, b1⟩
theorem v_callV (C : OK X Λ cc nL own fr lo) {idx n ci q0 b N : Nat} {Cn : String} {T : u_T} {fs : List Value} {y : MethodName} {c2 : ByteArray} {n2 fr2 lo2 : Nat} {ret : Option FieldType} {As rest : List Value} {rv : Option Value} (K : KV own idx Cn y c2 n2 ret n) (hM : CT (xl X) Λ y c2 n2 ret fr2 lo2 (.ref b :: As) σ rv σ2)
    (he : (Wd Λ σ)[q0]? = some (b, .inr (ci, fs))) (hc : vwCl[ci]? = some (Cn, T, N)) (hR : fr2 + 1 ≤ fr ∧ 8 + (n2 + 11) + lo2 ≤ lo) (hst : st = As.reverse ++ .ref b :: rest) (hn : As.length = n) (hcat : (rest.map fun v => v.category).sum ≤ 8) (hd : decode cc pc = .ok (.invokevirtual idx, 3)) (hp : pc2 = pc + 3) (k : VV X Λ nL pc2 lv (rv.toList ++ rest) σ2) : VV X Λ nL pc lv st σ := by
  subst hp; intro ls H locs hl hP hS
  obtain ⟨h1, h2, h3, h4, h5, h6, h7, h8, h9, h10, h11, h12, h13, h14⟩ := C
  have C2 : OK X Λ cc nL own fr lo := ⟨h1, h2, h3, h4, h5, h6, h7, h8, h9, h10, h11, h12, h13, h14⟩
  refine v_after C2 hl hS (va_runV (C := Cn) (b := b) (As := As) (rest := rest) ⟨h1, h2, h3, h4, h5⟩ hM (cwV n h5 K.1 rfl rfl rfl K.2 (by rw [h11, h12]; exact hR)) ⟨blind_BW, ?_, fun U hU hW => ⟨rfl, C2.bw hP hS hU hW⟩⟩ rfl hn hl.1 hst (lv_room hcat) hd ⟨h13, h14⟩) k
  obtain ⟨cell, g1, g2, g3⟩ := va_recv h7 hP hc he
  exact ⟨cell, g1, g2, g3⟩
theorem v_callS (C : OK X Λ cc nL own fr lo) {idx n : Nat} {y : MethodName} {c2 : ByteArray} {n2 fr2 lo2 : Nat} {ret : Option FieldType} {As rest : List Value} {rv : Option Value} (K : KS own idx y c2 n2 ret n) (hM : CT (xl X) Λ y c2 n2 ret fr2 lo2 As σ rv σ2)
    (hR : fr2 + 1 ≤ fr ∧ 8 + (n2 + 11) + lo2 ≤ lo) (hst : st = As.reverse ++ rest) (hn : As.length = n) (hcat : (rest.map fun v => v.category).sum ≤ 8) (hd : decode cc pc = .ok (.invokestatic idx, 3)) (hp : pc2 = pc + 3) (k : VV X Λ nL pc2 lv (rv.toList ++ rest) σ2) : VV X Λ nL pc lv st σ := by
  subst hp; intro ls H locs hl hP hS
  obtain ⟨h1, h2, h3, h4, h5, h6, h7, h8, h9, h10, h11, h12, h13, h14⟩ := C
  have C2 : OK X Λ cc nL own fr lo := ⟨h1, h2, h3, h4, h5, h6, h7, h8, h9, h10, h11, h12, h13, h14⟩
  exact v_after C2 hl hS (va_runS (As := As) (rest := rest) ⟨h1, h2, h3, h4, h5⟩ hM (va_cwS n h5 K.1 rfl rfl rfl K.2 (by rw [h11, h12]; exact hR)) ⟨blind_BW, fun U hU hW => ⟨rfl, C2.bw hP hS hU hW⟩⟩ rfl hn hl.1 hst (lv_room hcat) hd ⟨h13, h14⟩) k
theorem v_callN (C : OK X Λ cc nL own fr lo) {idx n : Nat} {y : MethodName} {c2 : ByteArray} {n2 fr2 lo2 : Nat} {ret : Option FieldType} {As rest : List Value} {rv : Option Value} (K : KN own idx y c2 n2 ret n) (hM : CT (xl X) Λ y c2 n2 ret fr2 lo2 As σ rv σ2)
    (hR : fr2 + 1 ≤ fr ∧ 8 + (n2 + 11) + lo2 ≤ lo) (hst : st = As.reverse ++ rest) (hn : As.length = n) (hcat : (rest.map fun v => v.category).sum ≤ 8) (hd : decode cc pc = .ok (.invokestatic idx, 3)) (hp : pc2 = pc + 3) (k : VV X Λ nL pc2 lv (rv.toList ++ rest) σ2) : VV X Λ nL pc lv st σ := by
  subst hp; intro ls H locs hl hP hS
  obtain ⟨h1, h2, h3, h4, h5, h6, h7, h8, h9, h10, h11, h12, h13, h14⟩ := C
  have C2 : OK X Λ cc nL own fr lo := ⟨h1, h2, h3, h4, h5, h6, h7, h8, h9, h10, h11, h12, h13, h14⟩
  obtain ⟨k1, k2, k3, k4, k5⟩ := K
  have hG : GoodIn wsG (Cond.code y c2 n2 ret :: wsG) := goodG (fun w hw => by rcases List.mem_cons.mp hw with rfl | g; exact k4; exact g)
  exact v_after C2 hl hS (va_runSN (As := As) (rest := rest) ⟨h1, h2, h3, h4, h5⟩ hM ⟨va_cnB n h5 hG rfl rfl rfl (h9.2.2.2.2 _ k1) (h5 _ k3) k5 (by rw [h11, h12]; exact hR), h5 _ k2, trivial⟩ ⟨blind_BW, fun U hU hW => ⟨rfl, C2.bw hP hS hU hW⟩⟩ rfl hn hl.1 hst (lv_room hcat) hd ⟨h13, h14⟩) k
/-! Math -/
theorem v_mmax (C : OK X Λ cc nL own fr lo) {idx : Nat} (w1 : Cond.methodLink own idx Lib.Math.max.name ∈ wsG) (w2 : Cond.static Lib.Math.max.name ∈ wsG) (w3 : Cond.initialized "java/lang/Math" ∈ wsG) (w4 : Cond.code Lib.Math.max.name Lib.Math.max.code 2 (some .int) ∈ wsG) (hf : 1 ≤ fr) (hlo : (st.map fun v => v.category).sum + 13 ≤ lo) {x y : Int32} (hd : decode cc pc = .ok (.invokestatic idx, 3)) (hp : pc2 = pc + 3) (k : VV X Λ nL pc2 lv (.int (if x < y then y else x) :: st) σ) : VV X Λ nL pc lv (.int y :: .int x :: st) σ := by
  subst hp; intro ls H locs hl hP hS
  obtain ⟨h1, h2, h3, h4, h5, h6, h7, h8, h9, h10, h11, h12, h13, h14⟩ := C
  exact va_mmax h1 h2 (h3.trans hl.1.symm) h4 (h5 _ w1) (h5 _ w2) (h5 _ w3) (h5 _ w4) (by rw [h11]; exact hf) (by rw [h12]; exact hlo) h13 h14 hd (k ls H locs hl hP hS)
theorem v_mmin (C : OK X Λ cc nL own fr lo) {idx : Nat} (w1 : Cond.methodLink own idx Lib.Math.min.name ∈ wsG) (w2 : Cond.static Lib.Math.min.name ∈ wsG) (w3 : Cond.initialized "java/lang/Math" ∈ wsG) (w4 : Cond.code Lib.Math.min.name Lib.Math.min.code 2 (some .int) ∈ wsG) (hf : 1 ≤ fr) (hlo : (st.map fun v => v.category).sum + 13 ≤ lo) {x y : Int32} (hd : decode cc pc = .ok (.invokestatic idx, 3)) (hp : pc2 = pc + 3) (k : VV X Λ nL pc2 lv (.int (if y < x then y else x) :: st) σ) : VV X Λ nL pc lv (.int y :: .int x :: st) σ := by
  subst hp; intro ls H locs hl hP hS
  obtain ⟨h1, h2, h3, h4, h5, h6, h7, h8, h9, h10, h11, h12, h13, h14⟩ := C
  exact va_mmin h1 h2 (h3.trans hl.1.symm) h4 (h5 _ w1) (h5 _ w2) (h5 _ w3) (h5 _ w4) (by rw [h11]; exact hf) (by rw [h12]; exact hlo) h13 h14 hd (k ls H locs hl hP hS)
theorem v_mabs (C : OK X Λ cc nL own fr lo) {idx : Nat} (w1 : Cond.methodLink own idx Lib.Math.abs.name ∈ wsG) (w2 : Cond.static Lib.Math.abs.name ∈ wsG) (w3 : Cond.initialized "java/lang/Math" ∈ wsG) (w4 : Cond.code Lib.Math.abs.name Lib.Math.abs.code 1 (some .int) ∈ wsG) (hf : 1 ≤ fr) (hlo : (st.map fun v => v.category).sum + 13 ≤ lo) {x : Int32} (hd : decode cc pc = .ok (.invokestatic idx, 3)) (hp : pc2 = pc + 3) (k : VV X Λ nL pc2 lv (.int (if 0 ≤ x then x else 0 - x) :: st) σ) : VV X Λ nL pc lv (.int x :: st) σ := by
  subst hp; intro ls H locs hl hP hS
  obtain ⟨h1, h2, h3, h4, h5, h6, h7, h8, h9, h10, h11, h12, h13, h14⟩ := C
  exact va_mabs h1 h2 (h3.trans hl.1.symm) h4 (h5 _ w1) (h5 _ w2) (h5 _ w3) (h5 _ w4) (by rw [h11]; exact hf) (by rw [h12]; exact hlo) h13 h14 hd (k ls H locs hl hP hS)
theorem v_lmax (C : OK X Λ cc nL own fr lo) {idx : Nat} (w1 : Cond.methodLink own idx Lib.MathLoose.max_long.x ∈ wsG) (w2 : Cond.static Lib.MathLoose.max_long.x ∈ wsG) (w3 : Cond.initialized "java/lang/Math" ∈ wsG) (w4 : Cond.code Lib.MathLoose.max_long.x Lib.MathLoose.max_long.code 4 (some .long) ∈ wsG) (hf : 1 ≤ fr) (hlo : (st.map fun v => v.category).sum + 15 ≤ lo) {x y : Int64} (hd : decode cc pc = .ok (.invokestatic idx, 3)) (hp : pc2 = pc + 3) (k : VV X Λ nL pc2 lv (.long (if y < x then x else y) :: st) σ) : VV X Λ nL pc lv (.long y :: .long x :: st) σ := by
  subst hp; intro ls H locs hl hP hS
  obtain ⟨h1, h2, h3, h4, h5, h6, h7, h8, h9, h10, h11, h12, h13, h14⟩ := C
  exact va_mmax_long h1 h2 (h3.trans hl.1.symm) h4 (h5 _ w1) (h5 _ w2) (h5 _ w3) (h5 _ w4) (by rw [h11]; exact hf) (by rw [h12]; exact hlo) h13 h14 hd (k ls H locs hl hP hS)
theorem v_lmin (C : OK X Λ cc nL own fr lo) {idx : Nat} (w1 : Cond.methodLink own idx Lib.MathLoose.min_long.x ∈ wsG) (w2 : Cond.static Lib.MathLoose.min_long.x ∈ wsG) (w3 : Cond.initialized "java/lang/Math" ∈ wsG) (w4 : Cond.code Lib.MathLoose.min_long.x Lib.MathLoose.min_long.code 4 (some .long) ∈ wsG) (hf : 1 ≤ fr) (hlo : (st.map fun v => v.category).sum + 15 ≤ lo) {x y : Int64} (hd : decode cc pc = .ok (.invokestatic idx, 3)) (hp : pc2 = pc + 3) (k : VV X Λ nL pc2 lv (.long (if y < x then y else x) :: st) σ) : VV X Λ nL pc lv (.long y :: .long x :: st) σ := by
  subst hp; intro ls H locs hl hP hS
  obtain ⟨h1, h2, h3, h4, h5, h6, h7, h8, h9, h10, h11, h12, h13, h14⟩ := C
  exact va_mmin_long h1 h2 (h3.trans hl.1.symm) h4 (h5 _ w1) (h5 _ w2) (h5 _ w3) (h5 _ w4) (by rw [h11]; exact hf) (by rw [h12]; exact hlo) h13 h14 hd (k ls H locs hl hP hS)
end VVH
/-- a contract out of a walk -/
theorem CT_of {l : Launch} {Λ : LY} {y : MethodName} {cc : ByteArray} {nL : Nat} {ret : Option FieldType} {fr lo : Nat} {av : List Value} {σ : St} {rv : Option Value} {σ2 : St} (hy : plainName y.cls = true) (hlen : (lg_sl av).length ≤ nL)
    (body : ∀ X : CX, xl X = l → OK X Λ cc nL y.cls fr lo → EN X Λ ret rv σ2 → VV X Λ nL 0 (lv_args 0 av) [] σ) : CT l Λ y cc nL ret fr lo av σ rv σ2 := by
  refine Met.ofW (cc := cc) (maxL := nL) (ret := ret) hy rfl ?_
  intro p e s m args below meth c s₁ B hml hv
  obtain ⟨rfl, h0, hP, hK, hD, hT⟩ := hv
  have hts := atoms_spec (ws := Cond.code y cc nL ret :: wsG) B.pre
  have hown : s.vm.findClass y.cls = some m.cls := findClass_of_methodNamed B.named
  rw [lg_entry_eq]
  have hl := lv_entry av (n := nL) hlen
  exact body (p, l, e, { frames := fr, cells := 0, slots := 0, locals := lo }, s, m, av.toArray, below, meth, c, 0, 0, MQ below (QR Λ rv σ2) av.toArray s 0 0 (AA Λ)) rfl
    ⟨B.exec, B.bytes, hml, hown, fun w hw => hts w (List.mem_cons_of_mem _ hw), B.notSynchronized, hK, hD, hT, h0, rfl, rfl, Nat.le_refl _, Nat.le_refl _⟩ ⟨B.returns, rfl⟩ _ s.heap [] hl hP va_S.rf
