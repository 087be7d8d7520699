-- ===== end of PART A; then your names; then what follows =====
/-! THE CLAIM OUT OF ONE WALK OF THE LAW'S BODY. Your part is whole_start (and what it stands on); all else here is the same for every law, but numbers. -/
def R_law : String := "SunRowsLaw"
def lw_P (b : Addr) (xs : List Int32) (args : Array Value) (s : State) : Prop := args = #[.ref b] ∧ s.IntsAt b xs ∧ xs.length ≤ 3072 ∧ (Jvm.Cond.and given_1 narrow_1).before args s = true
def lw_Q (_ : Array Value) (s : State) (o : Outcome) (t : State) : Prop := o = .returned (some (.int 1)) ∧ Framed s o t [] 600000 7302250
def lw_Z (below : List Frame) (a : Array Value) (s : State) : State → Prop := fun t => ∃ o, t.status = .running ∧ Ended t below o ∧ lw_Q a s o t
/-- the law's own end, with 1 on the stack, nothing written that was there before, its room as the claim has it -/
theorem lw_ret {p : Program} {l : Launch} {e : Env} {s : State} {m : MethodId} {below : List Frame} {meth : Method} {c : Code} {b : Nat} (hx : p.tables.exec = Jvm.exec) (hb : c.code = code) (hr : meth.sig.returnType = ret) (hlocks : meth.locks = false) {pc : Nat} {H : Heap} {ls : Array Slot} (hdg : decode code pc = .ok (.ireturn, 1)) : W p l e room_1 s m #[Value.ref b] below meth c H [] 600000 7302250 (lw_Z below #[Value.ref b] s) (F0 m pc ls [.int 1]) := by
  intro T hT X
  obtain ⟨fs, hret, hrun, hended, hW, hframe⟩ := X.leave (v := some (.int 1)) (hlocks := hlocks) (fun h => by rw [hr] at h; cases h)
  have hmeth' : T.vm.method? m = some meth := X.method'
  refine ⟨T.setFrames fs, ?_, .returned (some (.int 1)), hrun, hended, rfl, ⟨_, rfl⟩, hW, hframe⟩
  jvm_step X.here [X.here.top, hx, hb, hdg, hmeth', hr, ret, narrow_b1]
  (try refine ⟨rfl, ?_⟩); (try refine ⟨rfl, ?_⟩)
  first | (intro acts; rw [hret _ acts rfl rfl rfl]) | rw [hret _ _ rfl rfl rfl]
  exact Steps.refl _
/-- what holds at the law's entry: the machine, the code, the tables' words (any of lw_tbl by 'hts w (by decide +kernel)'), the script of L ints xs at the cell b, what the Statement gives of the start (any of its parts by flat_of_before) -/
def lw_At (p : Program) (s : State) (m : MethodId) (meth : Method) (c : Code) (b L : Nat) (xs : Nat → Int32) : Prop :=
  p.tables.exec = Jvm.exec ∧ c.code = code ∧ meth.sig.returnType = ret ∧ c.maxLocals = 4 ∧ s.vm.findClass R_law = some m.cls ∧ (∀ w ∈ lw_tbl, w.before #[Value.ref b] s = true) ∧ va_X b L xs s s.heap ∧ b < s.heap.size ∧ meth.locks = false ∧ (Jvm.Cond.and given_1 narrow_1).before #[Value.ref b] s = true

section LAWR
variable {X : CX} {Λ : LY} {pc pc2 pc3 : Nat} {lv lv2 : List (Nat × Value)} {st : List Value} {σ σ2 : St} {fr lo : Nat}
/-- the script, below the start -/
def SCR (X : CX) (Λ : LY) (b L : Nat) (sx : Nat → Int32) : Prop := va_X b L sx (xs X) (xs X).heap ∧ b < (xs X).heap.size ∧ b < s0 Λ
theorem v_sld (C : OK X Λ cL_law 4 RL fr lo) {b L : Nat} {sx : Nat → Int32} (hX : SCR X Λ b L sx) {i : Int32} (hin : vp_in i L) (hd : decode cL_law pc = .ok (.iaload, 1)) (hp : pc2 = pc + 1) (k : VV X Λ 4 pc2 lv (.int (sx i.toNatClampNeg) :: st) σ) : VV X Λ 4 pc lv (.int i :: .ref b :: st) σ := by
  subst hp; intro ls H locs hl hP hS
  exact va_sld C.1 C.2.1 hX.1 hX.2.1 (fun h : s0 Λ ≤ b => by have := hX.2.2; omega) hS hin hd (k ls H locs hl hP hS)
theorem v_slen (C : OK X Λ cL_law 4 RL fr lo) {b L : Nat} {sx : Nat → Int32} (hX : SCR X Λ b L sx) (hd : decode cL_law pc = .ok (.arraylength, 1)) (hp : pc2 = pc + 1) (k : VV X Λ 4 pc2 lv (.int (Int32.ofNat L) :: st) σ) : VV X Λ 4 pc lv (.ref b :: st) σ := by
  subst hp; intro ls H locs hl hP hS
  exact va_slen C.1 C.2.1 hX.1 hX.2.1 (fun h : s0 Λ ≤ b => by have := hX.2.2; omega) hS hd (k ls H locs hl hP hS)
theorem sc_in {i k : Int32} {L : Nat} {m : Int} (h0 : 0 ≤ i.toInt) (h1 : i.toInt + 6 ≤ L) (hL : L ≤ 3072) (hk : k.toInt = m) (hm : 0 ≤ m ∧ m ≤ 5) : vp_in (i + k) L := by
  have h2 : (i + k).toInt = i.toInt + m := by rw [i_add (by rw [hk]; omega) (by rw [hk]; omega), hk]
  exact vin (by omega) (by omega)
theorem sc_in0 {i : Int32} {L : Nat} (h0 : 0 ≤ i.toInt) (h1 : i.toInt + 6 ≤ L) : vp_in i L := vin h0 (by omega)
theorem sc_le {i : Int32} {L : Nat} (hL : L ≤ 3072) (h : ¬ Int32.ofNat L - (6 : Int32) < i) : i.toInt + 6 ≤ L := by
  have h1 := t_nlt h rfl rfl
  have h2 : (Int32.ofNat L).toInt = L := nI_toInt (n := L) (by omega)
  rw [i_sub (by rw [h2, lit_6]; omega) (by rw [h2, lit_6]; omega), h2, lit_6] at h1
  omega
/-- the loop's counter: k calls are done -/
def LI (L : Nat) (i : Int32) (k n : Nat) : Prop := i.toInt = 6 * (k : Int) ∧ i.toInt ≤ L ∧ 3078 ≤ i.toInt + 6 * (n : Int)
theorem LI.z {L : Nat} {i : Int32} {k : Nat} (hL : L ≤ 3072) (h : LI L i k 0) : False := by obtain ⟨h1, h2, h3⟩ := h; omega
theorem LI.step {L : Nat} {i : Int32} {k n : Nat} (hL : L ≤ 3072) (h : LI L i k (n + 1)) (hc : i.toInt + 6 ≤ L) : LI L (i + (6 : Int32)) (k + 1) n := by
  obtain ⟨h1, h2, h3⟩ := h
  have h4 : (i + (6 : Int32)).toInt = i.toInt + 6 := by rw [i_add (by rw [lit_6]; omega) (by rw [lit_6]; omega), lit_6]
  exact ⟨by omega, by omega, by omega⟩
theorem and31 (x : Int32) : ∃ j : Nat, j < 32 ∧ x &&& (31 : Int32) = nI j := pk_andE x (m := (31 : Int32)) 5 (by decide +kernel)
theorem v_lawret (C : OK X Λ cL_law 4 RL fr lo) {b : Nat} (hr : (xh X).sig.returnType = ret) (hR : xR X = room_1) (ha : xa X = #[Value.ref b]) (hQ : xQ X = lw_Z (xb X) #[Value.ref b] (xs X)) (h0 : s0 Λ = (xs X).heap.size) (hn : xn X ≤ 600000) (hk : xk X ≤ 7302250) (hd : decode cL_law pc = .ok (.ireturn, 1)) : VV X Λ 4 pc lv [.int 1] σ := by
  intro ls H locs hl hP hS
  refine va_forget (fun q hq => by have h := hS.2.2 q hq; unfold AA at h; rw [h0] at h; exact h) ?_
  refine W.widen hn hk ?_
  rw [hQ, hR, ha]
  exact lw_ret C.1 C.2.1 hr C.2.2.2.2.2.1 hd
end LAWR
def PU (Rel : Nat → St → Prop) : Prop := (∀ k σ, Rel k σ → Safe σ) ∧ (∀ (k : Nat) (σ : St) (a1 a2 a3 a4 a5 : Int32), Rel k σ → Safe ((f9_row σ a1 a2 a3 a4 a5).2) ∧ (f9_row σ a1 a2 a3 a4 a5).1 = (f10_row ((f9_row σ a1 a2 a3 a4 a5).2) a1 a2 a3 a4 a5).1 ∧ Rel (k + 1) ((f10_row ((f9_row σ a1 a2 a3 a4 a5).2) a1 a2 a3 a4 a5).2)) ∧ (∀ (k : Nat) (σ : St), Rel k σ → Safe ((f9_drop σ).2) ∧ (f9_drop σ).1 = (f10_drop ((f9_drop σ).2)).1 ∧ Rel (k + 1) ((f10_drop ((f9_drop σ).2)).2)) ∧ (∀ (k : Nat) (σ : St) (a1 a2 : Int32), Rel k σ → Safe ((f9_about σ a1 a2).2) ∧ (f9_about σ a1 a2).1 = (f10_about ((f9_about σ a1 a2).2) a1 a2).1 ∧ Rel (k + 1) ((f10_about ((f9_about σ a1 a2).2) a1 a2).2)) ∧ (∀ (k : Nat) (σ : St) (a1 a2 : Int32), Rel k σ → Safe ((f9_as σ a1 a2).2) ∧ (f9_as σ a1 a2).1 = (f10_as ((f9_as σ a1 a2).2) a1 a2).1 ∧ Rel (k + 1) ((f10_as ((f9_as σ a1 a2).2) a1 a2).2)) ∧ (∀ (k : Nat) (σ : St) (a1 a2 : Int32), Rel k σ → Safe ((f9_turn σ a1 a2).2) ∧ (f9_turn σ a1 a2).1 = (f10_turn ((f9_turn σ a1 a2).2) a1 a2).1 ∧ Rel (k + 1) ((f10_turn ((f9_turn σ a1 a2).2) a1 a2).2)) ∧ (∀ (k : Nat) (σ : St) (a1 a2 : Int32), Rel k σ → Safe ((f9_dust σ a1 a2).2) ∧ (f9_dust σ a1 a2).1 = (f10_dust ((f9_dust σ a1 a2).2) a1 a2).1 ∧ Rel (k + 1) ((f10_dust ((f9_dust σ a1 a2).2) a1 a2).2)) ∧ (∀ (k : Nat) (σ : St) (a1 a2 a3 : Int32), Rel k σ → Safe ((f9_sun σ a1 a2 a3).2) ∧ (f9_sun σ a1 a2 a3).1 = (f10_sun ((f9_sun σ a1 a2 a3).2) a1 a2 a3).1 ∧ Rel (k + 1) ((f10_sun ((f9_sun σ a1 a2 a3).2) a1 a2 a3).2)) ∧ (∀ (k : Nat) (σ : St), Rel k σ → Safe ((f9_suns σ).2) ∧ (f9_suns σ).1 = (f10_suns ((f9_suns σ).2)).1 ∧ Rel (k + 1) ((f10_suns ((f9_suns σ).2)).2)) ∧ (∀ (k : Nat) (σ : St) (a1 : Int32), Rel k σ → Safe ((f9_ideal σ a1).2) ∧ (f9_ideal σ a1).1 = (f10_ideal ((f9_ideal σ a1).2) a1).1 ∧ Rel (k + 1) ((f10_ideal ((f9_ideal σ a1).2) a1).2)) ∧ (∀ (k : Nat) (σ : St) (a1 : Int32), Rel k σ → Safe ((f9_back σ a1).2) ∧ (f9_back σ a1).1 = (f10_back ((f9_back σ a1).2) a1).1 ∧ Rel (k + 1) ((f10_back ((f9_back σ a1).2) a1).2)) ∧ (∀ (k : Nat) (σ : St) (a1 a2 : Int32), Rel k σ → Safe ((f9_breadth σ a1 a2).2) ∧ (f9_breadth σ a1 a2).1 = (f10_breadth ((f9_breadth σ a1 a2).2) a1 a2).1 ∧ Rel (k + 1) ((f10_breadth ((f9_breadth σ a1 a2).2) a1 a2).2)) ∧ (∀ (k : Nat) (σ : St) (a1 a2 : Int32), Rel k σ → Safe ((f9_shade σ a1 a2).2) ∧ (f9_shade σ a1 a2).1 = (f10_shade ((f9_shade σ a1 a2).2) a1 a2).1 ∧ Rel (k + 1) ((f10_shade ((f9_shade σ a1 a2).2) a1 a2).2)) ∧ (∀ (k : Nat) (σ : St) (a1 a2 : Int32), Rel k σ → Safe ((f9_dark σ a1 a2).2) ∧ (f9_dark σ a1 a2).1 = (f10_dark ((f9_dark σ a1 a2).2) a1 a2).1 ∧ Rel (k + 1) ((f10_dark ((f9_dark σ a1 a2).2) a1 a2).2)) ∧ (∀ (k : Nat) (σ : St) (a1 a2 : Int32), Rel k σ → Safe ((f9_string σ a1 a2).2) ∧ (f9_string σ a1 a2).1 = (f10_string ((f9_string σ a1 a2).2) a1 a2).1 ∧ Rel (k + 1) ((f10_string ((f9_string σ a1 a2).2) a1 a2).2)) ∧ (∀ (k : Nat) (σ : St) (a1 a2 : Int32), Rel k σ → Safe ((f9_ceiling σ a1 a2).2) ∧ (f9_ceiling σ a1 a2).1 = (f10_ceiling ((f9_ceiling σ a1 a2).2) a1 a2).1 ∧ Rel (k + 1) ((f10_ceiling ((f9_ceiling σ a1 a2).2) a1 a2).2)) ∧ (∀ (k : Nat) (σ : St) (a1 a2 : Int32), Rel k σ → Safe ((f9_current σ a1 a2).2) ∧ (f9_current σ a1 a2).1 = (f10_current ((f9_current σ a1 a2).2) a1 a2).1 ∧ Rel (k + 1) ((f10_current ((f9_current σ a1 a2).2) a1 a2).2)) ∧ (∀ (k : Nat) (σ : St) (a1 a2 : Int32), Rel k σ → Safe ((f9_gives σ a1 a2).2) ∧ (f9_gives σ a1 a2).1 = (f10_gives ((f9_gives σ a1 a2).2) a1 a2).1 ∧ Rel (k + 1) ((f10_gives ((f9_gives σ a1 a2).2) a1 a2).2)) ∧ (∀ (k : Nat) (σ : St) (a1 a2 : Int32), Rel k σ → Safe ((f9_wind σ a1 a2).2) ∧ (f9_wind σ a1 a2).1 = (f10_wind ((f9_wind σ a1 a2).2) a1 a2).1 ∧ Rel (k + 1) ((f10_wind ((f9_wind σ a1 a2).2) a1 a2).2)) ∧ (∀ (k : Nat) (σ : St) (a1 : Int32), Rel k σ → Safe ((f9_limit σ a1).2) ∧ (f9_limit σ a1).1 = (f10_limit ((f9_limit σ a1).2) a1).1 ∧ Rel (k + 1) ((f10_limit ((f9_limit σ a1).2) a1).2)) ∧ (∀ (k : Nat) (σ : St) (a1 a2 : Int32), (a2 = 0 ∨ a2 = 1) → Rel k σ → Safe ((f9_cleaning σ a1 a2).2) ∧ (f9_cleaning σ a1 a2).1 = (f10_cleaning ((f9_cleaning σ a1 a2).2) a1 a2).1 ∧ Rel (k + 1) ((f10_cleaning ((f9_cleaning σ a1 a2).2) a1 a2).2)) ∧ (∀ (k : Nat) (σ : St), k ≤ 600 → Rel k σ → Safe ((f9_hour σ).2) ∧ (f9_hour σ).1 = (f10_hour ((f9_hour σ).2)).1 ∧ Rel (k + 1) ((f10_hour ((f9_hour σ).2)).2)) ∧ (∀ (k : Nat) (σ : St) (a1 : Int32), k ≤ 600 → Rel k σ → Safe ((f9_hours σ a1).2) ∧ (f9_hours σ a1).1 = (f10_hours ((f9_hours σ a1).2) a1).1 ∧ Rel (k + 1) ((f10_hours ((f9_hours σ a1).2) a1).2)) ∧ (∀ (k : Nat) (σ : St) (a1 : Int32), Rel k σ → Safe ((f9_book σ a1).2) ∧ (f9_book σ a1).1 = (f10_book ((f9_book σ a1).2) a1).1 ∧ Rel (k + 1) ((f10_book ((f9_book σ a1).2) a1).2)) ∧ (∀ (k : Nat) (σ : St) (a1 : Int32), Rel k σ → Safe ((f9_all σ a1).2) ∧ (f9_all σ a1).1 = (f10_all ((f9_all σ a1).2) a1).1 ∧ Rel (k + 1) ((f10_all ((f9_all σ a1).2) a1).2)) ∧ (∀ (k : Nat) (σ : St), Rel k σ → Safe (σ) ∧ (f9_next σ) = (f10_next σ) ∧ Rel (k + 1) (σ)) ∧ (∀ (k : Nat) (σ : St) (a1 a2 : Int32), Rel k σ → Safe ((f9_plan σ a1 a2).2) ∧ (f9_plan σ a1 a2).1 = (f10_plan ((f9_plan σ a1 a2).2) a1 a2).1 ∧ Rel (k + 1) ((f10_plan ((f9_plan σ a1 a2).2) a1 a2).2)) ∧ (∀ (k : Nat) (σ : St) (a1 a2 : Int32), Rel k σ → Safe ((f9_worth σ a1 a2).2) ∧ (f9_worth σ a1 a2).1 = (f10_worth ((f9_worth σ a1 a2).2) a1 a2).1 ∧ Rel (k + 1) ((f10_worth ((f9_worth σ a1 a2).2) a1 a2).2)) ∧ (∀ (k : Nat) (σ : St) (a1 : Int32), Rel k σ → Safe ((f9_wash σ a1).2) ∧ (f9_wash σ a1).1 = (f10_wash ((f9_wash σ a1).2) a1).1 ∧ Rel (k + 1) ((f10_wash ((f9_wash σ a1).2) a1).2)) ∧ (∀ (k : Nat) (σ : St) (a1 : Int32), Rel k σ → Safe ((f9_storm σ a1).2) ∧ (f9_storm σ a1).1 = (f10_storm ((f9_storm σ a1).2) a1).1 ∧ Rel (k + 1) ((f10_storm ((f9_storm σ a1).2) a1).2)) ∧ (∀ (k : Nat) (σ : St) (a1 : Int32), Rel k σ → Safe ((f9_tell σ a1).2) ∧ (f9_tell σ a1).1 = (f10_tell ((f9_tell σ a1).2) a1).1 ∧ Rel (k + 1) ((f10_tell ((f9_tell σ a1).2) a1).2)) ∧ (∀ (k : Nat) (σ : St), Rel k σ → Safe ((f9_check σ).2) ∧ (f9_check σ).1 = (f10_check ((f9_check σ).2)).1 ∧ Rel (k + 1) ((f10_check ((f9_check σ).2)).2)) ∧ (∀ (k : Nat) (σ : St) (a1 : Int32), Rel k σ → Safe ((f9_found σ a1).2) ∧ (f9_found σ a1).1 = (f10_found ((f9_found σ a1).2) a1).1 ∧ Rel (k + 1) ((f10_found ((f9_found σ a1).2) a1).2))
set_option maxHeartbeats 4000000 in
set_option maxRecDepth 100000 in
theorem law_c0 {Rel : Nat → St → Prop} (h_row : ∀ (k : Nat) (σ : St) (a1 a2 a3 a4 a5 : Int32), Rel k σ → Safe ((f9_row σ a1 a2 a3 a4 a5).2) ∧ (f9_row σ a1 a2 a3 a4 a5).1 = (f10_row ((f9_row σ a1 a2 a3 a4 a5).2) a1 a2 a3 a4 a5).1 ∧ Rel (k + 1) ((f10_row ((f9_row σ a1 a2 a3 a4 a5).2) a1 a2 a3 a4 a5).2)) {X : CX} {Λ : LY} {b L : Nat} {sx : Nat → Int32} (hL : L ≤ 3072) (C : OK X Λ cL_law 4 RL 13 598) (hX : SCR X Λ b L sx) {n : Nat} (ih : ∀ (k : Nat) (σ : St) (i : Int32), Rel k σ → LI L i k n → VV X Λ 4 18 [(3, .int i), (2, .ref (adr Λ 37)), (1, .ref (adr Λ 0)), (0, .ref b)] [] σ) (k : Nat) (σ : St) (i : Int32) (hR : Rel k σ) (hsf : Safe σ) (hI : LI L i k (n + 1)) (h0 : 0 ≤ i.toInt) (h6 : i.toInt + 6 ≤ L) : VV X Λ 4 176 [(3, .int i), (2, .ref (adr Λ 37)), (1, .ref (adr Λ 0)), (0, .ref b)] [] σ := by
  refine v_aload_n (pc2 := 177) C 2 dL_law_176 rfl rfl ?_
  refine v_aload_n (pc2 := 178) C 3 dL_law_177 rfl rfl ?_
  refine v_iload_n (pc2 := 179) C 0 dL_law_178 rfl rfl ?_
  refine v_iconst (pc2 := 180) C dL_law_179 ki_1 rfl ?_
  refine v_iadd (pc2 := 181) C dL_law_180 rfl ?_
  refine v_sld (pc2 := 182) C hX (sc_in h0 h6 hL lit_1 (by decide)) dL_law_181 rfl ?_
  refine v_aload_n (pc2 := 183) C 3 dL_law_182 rfl rfl ?_
  refine v_iload_n (pc2 := 184) C 0 dL_law_183 rfl rfl ?_
  refine v_iconst (pc2 := 185) C dL_law_184 ki_2 rfl ?_
  refine v_iadd (pc2 := 186) C dL_law_185 rfl ?_
  refine v_sld (pc2 := 187) C hX (sc_in h0 h6 hL lit_2 (by decide)) dL_law_186 rfl ?_
  refine v_aload_n (pc2 := 188) C 3 dL_law_187 rfl rfl ?_
  refine v_iload_n (pc2 := 189) C 0 dL_law_188 rfl rfl ?_
  refine v_iconst (pc2 := 190) C dL_law_189 ki_3 rfl ?_
  refine v_iadd (pc2 := 191) C dL_law_190 rfl ?_
  refine v_sld (pc2 := 192) C hX (sc_in h0 h6 hL lit_3 (by decide)) dL_law_191 rfl ?_
  refine v_aload_n (pc2 := 193) C 3 dL_law_192 rfl rfl ?_
  refine v_iload_n (pc2 := 194) C 0 dL_law_193 rfl rfl ?_
  refine v_iconst (pc2 := 195) C dL_law_194 ki_4 rfl ?_
  refine v_iadd (pc2 := 196) C dL_law_195 rfl ?_
  refine v_sld (pc2 := 197) C hX (sc_in h0 h6 hL lit_4 (by decide)) dL_law_196 rfl ?_
  refine v_aload_n (pc2 := 198) C 3 dL_law_197 rfl rfl ?_
  refine v_iload_n (pc2 := 199) C 0 dL_law_198 rfl rfl ?_
  refine v_iconst (pc2 := 200) C dL_law_199 ki_5 rfl ?_
  refine v_iadd (pc2 := 201) C dL_law_200 rfl ?_
  refine v_sld (pc2 := 202) C hX (sc_in h0 h6 hL lit_5 (by decide)) dL_law_201 rfl ?_
  obtain ⟨hs1, hE, hR1⟩ := h_row k σ (sx (Int32.toNatClampNeg (i + (1 : Int32)))) (sx (Int32.toNatClampNeg (i + (2 : Int32)))) (sx (Int32.toNatClampNeg (i + (3 : Int32)))) (sx (Int32.toNatClampNeg (i + (4 : Int32)))) (sx (Int32.toNatClampNeg (i + (5 : Int32)))) hR
  refine v_cVi (pc2 := 205) C kc_L_13 (mX9_row (xl X) Λ _ _ _ _ _ _ hsf) (wd0 Λ _) rfl (by decide) rfl rfl (Nat.le_of_ble_eq_true rfl) dL_law_202 rfl ?_
  refine v_aload_n (pc2 := 206) C 1 dL_law_205 rfl rfl ?_
  refine v_aload_n (pc2 := 207) C 3 dL_law_206 rfl rfl ?_
  refine v_iload_n (pc2 := 208) C 0 dL_law_207 rfl rfl ?_
  refine v_iconst (pc2 := 209) C dL_law_208 ki_1 rfl ?_
  refine v_iadd (pc2 := 210) C dL_law_209 rfl ?_
  refine v_sld (pc2 := 211) C hX (sc_in h0 h6 hL lit_1 (by decide)) dL_law_210 rfl ?_
  refine v_aload_n (pc2 := 212) C 3 dL_law_211 rfl rfl ?_
  refine v_iload_n (pc2 := 213) C 0 dL_law_212 rfl rfl ?_
  refine v_iconst (pc2 := 214) C dL_law_213 ki_2 rfl ?_
  refine v_iadd (pc2 := 215) C dL_law_214 rfl ?_
  refine v_sld (pc2 := 216) C hX (sc_in h0 h6 hL lit_2 (by decide)) dL_law_215 rfl ?_
  refine v_aload_n (pc2 := 217) C 3 dL_law_216 rfl rfl ?_
  refine v_iload_n (pc2 := 218) C 0 dL_law_217 rfl rfl ?_
  refine v_iconst (pc2 := 219) C dL_law_218 ki_3 rfl ?_
  refine v_iadd (pc2 := 220) C dL_law_219 rfl ?_
  refine v_sld (pc2 := 221) C hX (sc_in h0 h6 hL lit_3 (by decide)) dL_law_220 rfl ?_
  refine v_aload_n (pc2 := 222) C 3 dL_law_221 rfl rfl ?_
  refine v_iload_n (pc2 := 223) C 0 dL_law_222 rfl rfl ?_
  refine v_iconst (pc2 := 224) C dL_law_223 ki_4 rfl ?_
  refine v_iadd (pc2 := 225) C dL_law_224 rfl ?_
  refine v_sld (pc2 := 226) C hX (sc_in h0 h6 hL lit_4 (by decide)) dL_law_225 rfl ?_
  refine v_aload_n (pc2 := 227) C 3 dL_law_226 rfl rfl ?_
  refine v_iload_n (pc2 := 228) C 0 dL_law_227 rfl rfl ?_
  refine v_iconst (pc2 := 229) C dL_law_228 ki_5 rfl ?_
  refine v_iadd (pc2 := 230) C dL_law_229 rfl ?_
  refine v_sld (pc2 := 231) C hX (sc_in h0 h6 hL lit_5 (by decide)) dL_law_230 rfl ?_
  refine v_cVi (pc2 := 234) C kc_L_17 (mX10_row (xl X) Λ _ _ _ _ _ _ hs1) (wd37 Λ _) rfl (by decide) rfl rfl (Nat.le_of_ble_eq_true rfl) dL_law_231 rfl ?_
  refine v_icmpeq (pc2 := 1094) (pc3 := 237) C dL_law_234 rfl rfl (fun _ => ?_) (fun h => absurd hE h)
  refine v_iinc (pc2 := 1097) (lv2 := [(3, _), (2, _), (1, _), (0, _)]) C 0 dL_law_1094 rfl ki_6 (by decide) rfl rfl ?_
  refine v_goto (pc2 := 18) C dL_law_1097 rfl ?_
  exact ih (k + 1) _ _ hR1 (hI.step hL h6)
set_option maxHeartbeats 4000000 in
set_option maxRecDepth 100000 in
theorem law_c1 {Rel : Nat → St → Prop} (h_drop : ∀ (k : Nat) (σ : St), Rel k σ → Safe ((f9_drop σ).2) ∧ (f9_drop σ).1 = (f10_drop ((f9_drop σ).2)).1 ∧ Rel (k + 1) ((f10_drop ((f9_drop σ).2)).2)) {X : CX} {Λ : LY} {b L : Nat} {sx : Nat → Int32} (hL : L ≤ 3072) (C : OK X Λ cL_law 4 RL 13 598) (hX : SCR X Λ b L sx) {n : Nat} (ih : ∀ (k : Nat) (σ : St) (i : Int32), Rel k σ → LI L i k n → VV X Λ 4 18 [(3, .int i), (2, .ref (adr Λ 37)), (1, .ref (adr Λ 0)), (0, .ref b)] [] σ) (k : Nat) (σ : St) (i : Int32) (hR : Rel k σ) (hsf : Safe σ) (hI : LI L i k (n + 1)) (h0 : 0 ≤ i.toInt) (h6 : i.toInt + 6 ≤ L) : VV X Λ 4 239 [(3, .int i), (2, .ref (adr Λ 37)), (1, .ref (adr Λ 0)), (0, .ref b)] [] σ := by
  refine v_aload_n (pc2 := 240) C 2 dL_law_239 rfl rfl ?_
  obtain ⟨hs1, hE, hR1⟩ := h_drop k σ  hR
  refine v_cVi (pc2 := 243) C kc_L_18 (mX9_drop (xl X) Λ _  ) (wd0 Λ _) rfl (by decide) rfl rfl (Nat.le_of_ble_eq_true rfl) dL_law_240 rfl ?_
  refine v_aload_n (pc2 := 244) C 1 dL_law_243 rfl rfl ?_
  refine v_cVi (pc2 := 247) C kc_L_22 (mX10_drop (xl X) Λ _  ) (wd37 Λ _) rfl (by decide) rfl rfl (Nat.le_of_ble_eq_true rfl) dL_law_244 rfl ?_
  refine v_icmpeq (pc2 := 1094) (pc3 := 250) C dL_law_247 rfl rfl (fun _ => ?_) (fun h => absurd hE h)
  refine v_iinc (pc2 := 1097) (lv2 := [(3, _), (2, _), (1, _), (0, _)]) C 0 dL_law_1094 rfl ki_6 (by decide) rfl rfl ?_
  refine v_goto (pc2 := 18) C dL_law_1097 rfl ?_
  exact ih (k + 1) _ _ hR1 (hI.step hL h6)
set_option maxHeartbeats 4000000 in
set_option maxRecDepth 100000 in
theorem law_c2 {Rel : Nat → St → Prop} (h_about : ∀ (k : Nat) (σ : St) (a1 a2 : Int32), Rel k σ → Safe ((f9_about σ a1 a2).2) ∧ (f9_about σ a1 a2).1 = (f10_about ((f9_about σ a1 a2).2) a1 a2).1 ∧ Rel (k + 1) ((f10_about ((f9_about σ a1 a2).2) a1 a2).2)) {X : CX} {Λ : LY} {b L : Nat} {sx : Nat → Int32} (hL : L ≤ 3072) (C : OK X Λ cL_law 4 RL 13 598) (hX : SCR X Λ b L sx) {n : Nat} (ih : ∀ (k : Nat) (σ : St) (i : Int32), Rel k σ → LI L i k n → VV X Λ 4 18 [(3, .int i), (2, .ref (adr Λ 37)), (1, .ref (adr Λ 0)), (0, .ref b)] [] σ) (k : Nat) (σ : St) (i : Int32) (hR : Rel k σ) (hsf : Safe σ) (hI : LI L i k (n + 1)) (h0 : 0 ≤ i.toInt) (h6 : i.toInt + 6 ≤ L) : VV X Λ 4 252 [(3, .int i), (2, .ref (adr Λ 37)), (1, .ref (adr Λ 0)), (0, .ref b)] [] σ := by
  refine v_aload_n (pc2 := 253) C 2 dL_law_252 rfl rfl ?_
  refine v_aload_n (pc2 := 254) C 3 dL_law_253 rfl rfl ?_
  refine v_iload_n (pc2 := 255) C 0 dL_law_254 rfl rfl ?_
  refine v_iconst (pc2 := 256) C dL_law_255 ki_1 rfl ?_
  refine v_iadd (pc2 := 257) C dL_law_256 rfl ?_
  refine v_sld (pc2 := 258) C hX (sc_in h0 h6 hL lit_1 (by decide)) dL_law_257 rfl ?_
  refine v_aload_n (pc2 := 259) C 3 dL_law_258 rfl rfl ?_
  refine v_iload_n (pc2 := 260) C 0 dL_law_259 rfl rfl ?_
  refine v_iconst (pc2 := 261) C dL_law_260 ki_2 rfl ?_
  refine v_iadd (pc2 := 262) C dL_law_261 rfl ?_
  refine v_sld (pc2 := 263) C hX (sc_in h0 h6 hL lit_2 (by decide)) dL_law_262 rfl ?_
  obtain ⟨hs1, hE, hR1⟩ := h_about k σ (sx (Int32.toNatClampNeg (i + (1 : Int32)))) (sx (Int32.toNatClampNeg (i + (2 : Int32)))) hR
  refine v_cVi (pc2 := 266) C kc_L_23 (mX9_about (xl X) Λ _ _ _ hsf) (wd0 Λ _) rfl (by decide) rfl rfl (Nat.le_of_ble_eq_true rfl) dL_law_263 rfl ?_
  refine v_aload_n (pc2 := 267) C 1 dL_law_266 rfl rfl ?_
  refine v_aload_n (pc2 := 268) C 3 dL_law_267 rfl rfl ?_
  refine v_iload_n (pc2 := 269) C 0 dL_law_268 rfl rfl ?_
  refine v_iconst (pc2 := 270) C dL_law_269 ki_1 rfl ?_
  refine v_iadd (pc2 := 271) C dL_law_270 rfl ?_
  refine v_sld (pc2 := 272) C hX (sc_in h0 h6 hL lit_1 (by decide)) dL_law_271 rfl ?_
  refine v_aload_n (pc2 := 273) C 3 dL_law_272 rfl rfl ?_
  refine v_iload_n (pc2 := 274) C 0 dL_law_273 rfl rfl ?_
  refine v_iconst (pc2 := 275) C dL_law_274 ki_2 rfl ?_
  refine v_iadd (pc2 := 276) C dL_law_275 rfl ?_
  refine v_sld (pc2 := 277) C hX (sc_in h0 h6 hL lit_2 (by decide)) dL_law_276 rfl ?_
  refine v_cVi (pc2 := 280) C kc_L_27 (mX10_about (xl X) Λ _ _ _ hs1) (wd37 Λ _) rfl (by decide) rfl rfl (Nat.le_of_ble_eq_true rfl) dL_law_277 rfl ?_
  refine v_icmpeq (pc2 := 1094) (pc3 := 283) C dL_law_280 rfl rfl (fun _ => ?_) (fun h => absurd hE h)
  refine v_iinc (pc2 := 1097) (lv2 := [(3, _), (2, _), (1, _), (0, _)]) C 0 dL_law_1094 rfl ki_6 (by decide) rfl rfl ?_
  refine v_goto (pc2 := 18) C dL_law_1097 rfl ?_
  exact ih (k + 1) _ _ hR1 (hI.step hL h6)
set_option maxHeartbeats 4000000 in
set_option maxRecDepth 100000 in
theorem law_c3 {Rel : Nat → St → Prop} (h_as : ∀ (k : Nat) (σ : St) (a1 a2 : Int32), Rel k σ → Safe ((f9_as σ a1 a2).2) ∧ (f9_as σ a1 a2).1 = (f10_as ((f9_as σ a1 a2).2) a1 a2).1 ∧ Rel (k + 1) ((f10_as ((f9_as σ a1 a2).2) a1 a2).2)) {X : CX} {Λ : LY} {b L : Nat} {sx : Nat → Int32} (hL : L ≤ 3072) (C : OK X Λ cL_law 4 RL 13 598) (hX : SCR X Λ b L sx) {n : Nat} (ih : ∀ (k : Nat) (σ : St) (i : Int32), Rel k σ → LI L i k n → VV X Λ 4 18 [(3, .int i), (2, .ref (adr Λ 37)), (1, .ref (adr Λ 0)), (0, .ref b)] [] σ) (k : Nat) (σ : St) (i : Int32) (hR : Rel k σ) (hsf : Safe σ) (hI : LI L i k (n + 1)) (h0 : 0 ≤ i.toInt) (h6 : i.toInt + 6 ≤ L) : VV X Λ 4 285 [(3, .int i), (2, .ref (adr Λ 37)), (1, .ref (adr Λ 0)), (0, .ref b)] [] σ := by
  refine v_aload_n (pc2 := 286) C 2 dL_law_285 rfl rfl ?_
  refine v_aload_n (pc2 := 287) C 3 dL_law_286 rfl rfl ?_
  refine v_iload_n (pc2 := 288) C 0 dL_law_287 rfl rfl ?_
  refine v_iconst (pc2 := 289) C dL_law_288 ki_1 rfl ?_
  refine v_iadd (pc2 := 290) C dL_law_289 rfl ?_
  refine v_sld (pc2 := 291) C hX (sc_in h0 h6 hL lit_1 (by decide)) dL_law_290 rfl ?_
  refine v_aload_n (pc2 := 292) C 3 dL_law_291 rfl rfl ?_
  refine v_iload_n (pc2 := 293) C 0 dL_law_292 rfl rfl ?_
  refine v_iconst (pc2 := 294) C dL_law_293 ki_2 rfl ?_
  refine v_iadd (pc2 := 295) C dL_law_294 rfl ?_
  refine v_sld (pc2 := 296) C hX (sc_in h0 h6 hL lit_2 (by decide)) dL_law_295 rfl ?_
  obtain ⟨hs1, hE, hR1⟩ := h_as k σ (sx (Int32.toNatClampNeg (i + (1 : Int32)))) (sx (Int32.toNatClampNeg (i + (2 : Int32)))) hR
  refine v_cVi (pc2 := 299) C kc_L_28 (mX9_as (xl X) Λ _ _ _ hsf) (wd0 Λ _) rfl (by decide) rfl rfl (Nat.le_of_ble_eq_true rfl) dL_law_296 rfl ?_
  refine v_aload_n (pc2 := 300) C 1 dL_law_299 rfl rfl ?_
  refine v_aload_n (pc2 := 301) C 3 dL_law_300 rfl rfl ?_
  refine v_iload_n (pc2 := 302) C 0 dL_law_301 rfl rfl ?_
  refine v_iconst (pc2 := 303) C dL_law_302 ki_1 rfl ?_
  refine v_iadd (pc2 := 304) C dL_law_303 rfl ?_
  refine v_sld (pc2 := 305) C hX (sc_in h0 h6 hL lit_1 (by decide)) dL_law_304 rfl ?_
  refine v_aload_n (pc2 := 306) C 3 dL_law_305 rfl rfl ?_
  refine v_iload_n (pc2 := 307) C 0 dL_law_306 rfl rfl ?_
  refine v_iconst (pc2 := 308) C dL_law_307 ki_2 rfl ?_
  refine v_iadd (pc2 := 309) C dL_law_308 rfl ?_
  refine v_sld (pc2 := 310) C hX (sc_in h0 h6 hL lit_2 (by decide)) dL_law_309 rfl ?_
  refine v_cVi (pc2 := 313) C kc_L_31 (mX10_as (xl X) Λ _ _ _ hs1) (wd37 Λ _) rfl (by decide) rfl rfl (Nat.le_of_ble_eq_true rfl) dL_law_310 rfl ?_
  refine v_icmpeq (pc2 := 1094) (pc3 := 316) C dL_law_313 rfl rfl (fun _ => ?_) (fun h => absurd hE h)
  refine v_iinc (pc2 := 1097) (lv2 := [(3, _), (2, _), (1, _), (0, _)]) C 0 dL_law_1094 rfl ki_6 (by decide) rfl rfl ?_
  refine v_goto (pc2 := 18) C dL_law_1097 rfl ?_
  exact ih (k + 1) _ _ hR1 (hI.step hL h6)
set_option maxHeartbeats 4000000 in
set_option maxRecDepth 100000 in
theorem law_c4 {Rel : Nat → St → Prop} (h_turn : ∀ (k : Nat) (σ : St) (a1 a2 : Int32), Rel k σ → Safe ((f9_turn σ a1 a2).2) ∧ (f9_turn σ a1 a2).1 = (f10_turn ((f9_turn σ a1 a2).2) a1 a2).1 ∧ Rel (k + 1) ((f10_turn ((f9_turn σ a1 a2).2) a1 a2).2)) {X : CX} {Λ : LY} {b L : Nat} {sx : Nat → Int32} (hL : L ≤ 3072) (C : OK X Λ cL_law 4 RL 13 598) (hX : SCR X Λ b L sx) {n : Nat} (ih : ∀ (k : Nat) (σ : St) (i : Int32), Rel k σ → LI L i k n → VV X Λ 4 18 [(3, .int i), (2, .ref (adr Λ 37)), (1, .ref (adr Λ 0)), (0, .ref b)] [] σ) (k : Nat) (σ : St) (i : Int32) (hR : Rel k σ) (hsf : Safe σ) (hI : LI L i k (n + 1)) (h0 : 0 ≤ i.toInt) (h6 : i.toInt + 6 ≤ L) : VV X Λ 4 318 [(3, .int i), (2, .ref (adr Λ 37)), (1, .ref (adr Λ 0)), (0, .ref b)] [] σ := by
  refine v_aload_n (pc2 := 319) C 2 dL_law_318 rfl rfl ?_
  refine v_aload_n (pc2 := 320) C 3 dL_law_319 rfl rfl ?_
  refine v_iload_n (pc2 := 321) C 0 dL_law_320 rfl rfl ?_
  refine v_iconst (pc2 := 322) C dL_law_321 ki_1 rfl ?_
  refine v_iadd (pc2 := 323) C dL_law_322 rfl ?_
  refine v_sld (pc2 := 324) C hX (sc_in h0 h6 hL lit_1 (by decide)) dL_law_323 rfl ?_
  refine v_aload_n (pc2 := 325) C 3 dL_law_324 rfl rfl ?_
  refine v_iload_n (pc2 := 326) C 0 dL_law_325 rfl rfl ?_
  refine v_iconst (pc2 := 327) C dL_law_326 ki_2 rfl ?_
  refine v_iadd (pc2 := 328) C dL_law_327 rfl ?_
  refine v_sld (pc2 := 329) C hX (sc_in h0 h6 hL lit_2 (by decide)) dL_law_328 rfl ?_
  obtain ⟨hs1, hE, hR1⟩ := h_turn k σ (sx (Int32.toNatClampNeg (i + (1 : Int32)))) (sx (Int32.toNatClampNeg (i + (2 : Int32)))) hR
  refine v_cVi (pc2 := 332) C kc_L_32 (mX9_turn (xl X) Λ _ _ _ hsf) (wd0 Λ _) rfl (by decide) rfl rfl (Nat.le_of_ble_eq_true rfl) dL_law_329 rfl ?_
  refine v_aload_n (pc2 := 333) C 1 dL_law_332 rfl rfl ?_
  refine v_aload_n (pc2 := 334) C 3 dL_law_333 rfl rfl ?_
  refine v_iload_n (pc2 := 335) C 0 dL_law_334 rfl rfl ?_
  refine v_iconst (pc2 := 336) C dL_law_335 ki_1 rfl ?_
  refine v_iadd (pc2 := 337) C dL_law_336 rfl ?_
  refine v_sld (pc2 := 338) C hX (sc_in h0 h6 hL lit_1 (by decide)) dL_law_337 rfl ?_
  refine v_aload_n (pc2 := 339) C 3 dL_law_338 rfl rfl ?_
  refine v_iload_n (pc2 := 340) C 0 dL_law_339 rfl rfl ?_
  refine v_iconst (pc2 := 341) C dL_law_340 ki_2 rfl ?_
  refine v_iadd (pc2 := 342) C dL_law_341 rfl ?_
  refine v_sld (pc2 := 343) C hX (sc_in h0 h6 hL lit_2 (by decide)) dL_law_342 rfl ?_
  refine v_cVi (pc2 := 346) C kc_L_35 (mX10_turn (xl X) Λ _ _ _ hs1) (wd37 Λ _) rfl (by decide) rfl rfl (Nat.le_of_ble_eq_true rfl) dL_law_343 rfl ?_
  refine v_icmpeq (pc2 := 1094) (pc3 := 349) C dL_law_346 rfl rfl (fun _ => ?_) (fun h => absurd hE h)
  refine v_iinc (pc2 := 1097) (lv2 := [(3, _), (2, _), (1, _), (0, _)]) C 0 dL_law_1094 rfl ki_6 (by decide) rfl rfl ?_
  refine v_goto (pc2 := 18) C dL_law_1097 rfl ?_
  exact ih (k + 1) _ _ hR1 (hI.step hL h6)
set_option maxHeartbeats 4000000 in
set_option maxRecDepth 100000 in
theorem law_c5 {Rel : Nat → St → Prop} (h_dust : ∀ (k : Nat) (σ : St) (a1 a2 : Int32), Rel k σ → Safe ((f9_dust σ a1 a2).2) ∧ (f9_dust σ a1 a2).1 = (f10_dust ((f9_dust σ a1 a2).2) a1 a2).1 ∧ Rel (k + 1) ((f10_dust ((f9_dust σ a1 a2).2) a1 a2).2)) {X : CX} {Λ : LY} {b L : Nat} {sx : Nat → Int32} (hL : L ≤ 3072) (C : OK X Λ cL_law 4 RL 13 598) (hX : SCR X Λ b L sx) {n : Nat} (ih : ∀ (k : Nat) (σ : St) (i : Int32), Rel k σ → LI L i k n → VV X Λ 4 18 [(3, .int i), (2, .ref (adr Λ 37)), (1, .ref (adr Λ 0)), (0, .ref b)] [] σ) (k : Nat) (σ : St) (i : Int32) (hR : Rel k σ) (hsf : Safe σ) (hI : LI L i k (n + 1)) (h0 : 0 ≤ i.toInt) (h6 : i.toInt + 6 ≤ L) : VV X Λ 4 351 [(3, .int i), (2, .ref (adr Λ 37)), (1, .ref (adr Λ 0)), (0, .ref b)] [] σ := by
  refine v_aload_n (pc2 := 352) C 2 dL_law_351 rfl rfl ?_
  refine v_aload_n (pc2 := 353) C 3 dL_law_352 rfl rfl ?_
  refine v_iload_n (pc2 := 354) C 0 dL_law_353 rfl rfl ?_
  refine v_iconst (pc2 := 355) C dL_law_354 ki_1 rfl ?_
  refine v_iadd (pc2 := 356) C dL_law_355 rfl ?_
  refine v_sld (pc2 := 357) C hX (sc_in h0 h6 hL lit_1 (by decide)) dL_law_356 rfl ?_
  refine v_aload_n (pc2 := 358) C 3 dL_law_357 rfl rfl ?_
  refine v_iload_n (pc2 := 359) C 0 dL_law_358 rfl rfl ?_
  refine v_iconst (pc2 := 360) C dL_law_359 ki_2 rfl ?_
  refine v_iadd (pc2 := 361) C dL_law_360 rfl ?_
  refine v_sld (pc2 := 362) C hX (sc_in h0 h6 hL lit_2 (by decide)) dL_law_361 rfl ?_
  obtain ⟨hs1, hE, hR1⟩ := h_dust k σ (sx (Int32.toNatClampNeg (i + (1 : Int32)))) (sx (Int32.toNatClampNeg (i + (2 : Int32)))) hR
  refine v_cVi (pc2 := 365) C kc_L_36 (mX9_dust (xl X) Λ _ _ _ hsf) (wd0 Λ _) rfl (by decide) rfl rfl (Nat.le_of_ble_eq_true rfl) dL_law_362 rfl ?_
  refine v_aload_n (pc2 := 366) C 1 dL_law_365 rfl rfl ?_
  refine v_aload_n (pc2 := 367) C 3 dL_law_366 rfl rfl ?_
  refine v_iload_n (pc2 := 368) C 0 dL_law_367 rfl rfl ?_
  refine v_iconst (pc2 := 369) C dL_law_368 ki_1 rfl ?_
  refine v_iadd (pc2 := 370) C dL_law_369 rfl ?_
  refine v_sld (pc2 := 371) C hX (sc_in h0 h6 hL lit_1 (by decide)) dL_law_370 rfl ?_
  refine v_aload_n (pc2 := 372) C 3 dL_law_371 rfl rfl ?_
  refine v_iload_n (pc2 := 373) C 0 dL_law_372 rfl rfl ?_
  refine v_iconst (pc2 := 374) C dL_law_373 ki_2 rfl ?_
  refine v_iadd (pc2 := 375) C dL_law_374 rfl ?_
  refine v_sld (pc2 := 376) C hX (sc_in h0 h6 hL lit_2 (by decide)) dL_law_375 rfl ?_
  refine v_cVi (pc2 := 379) C kc_L_39 (mX10_dust (xl X) Λ _ _ _ hs1) (wd37 Λ _) rfl (by decide) rfl rfl (Nat.le_of_ble_eq_true rfl) dL_law_376 rfl ?_
  refine v_icmpeq (pc2 := 1094) (pc3 := 382) C dL_law_379 rfl rfl (fun _ => ?_) (fun h => absurd hE h)
  refine v_iinc (pc2 := 1097) (lv2 := [(3, _), (2, _), (1, _), (0, _)]) C 0 dL_law_1094 rfl ki_6 (by decide) rfl rfl ?_
  refine v_goto (pc2 := 18) C dL_law_1097 rfl ?_
  exact ih (k + 1) _ _ hR1 (hI.step hL h6)
set_option maxHeartbeats 4000000 in
set_option maxRecDepth 100000 in
theorem law_c6 {Rel : Nat → St → Prop} (h_sun : ∀ (k : Nat) (σ : St) (a1 a2 a3 : Int32), Rel k σ → Safe ((f9_sun σ a1 a2 a3).2) ∧ (f9_sun σ a1 a2 a3).1 = (f10_sun ((f9_sun σ a1 a2 a3).2) a1 a2 a3).1 ∧ Rel (k + 1) ((f10_sun ((f9_sun σ a1 a2 a3).2) a1 a2 a3).2)) {X : CX} {Λ : LY} {b L : Nat} {sx : Nat → Int32} (hL : L ≤ 3072) (C : OK X Λ cL_law 4 RL 13 598) (hX : SCR X Λ b L sx) {n : Nat} (ih : ∀ (k : Nat) (σ : St) (i : Int32), Rel k σ → LI L i k n → VV X Λ 4 18 [(3, .int i), (2, .ref (adr Λ 37)), (1, .ref (adr Λ 0)), (0, .ref b)] [] σ) (k : Nat) (σ : St) (i : Int32) (hR : Rel k σ) (hsf : Safe σ) (hI : LI L i k (n + 1)) (h0 : 0 ≤ i.toInt) (h6 : i.toInt + 6 ≤ L) : VV X Λ 4 384 [(3, .int i), (2, .ref (adr Λ 37)), (1, .ref (adr Λ 0)), (0, .ref b)] [] σ := by
  refine v_aload_n (pc2 := 385) C 2 dL_law_384 rfl rfl ?_
  refine v_aload_n (pc2 := 386) C 3 dL_law_385 rfl rfl ?_
  refine v_iload_n (pc2 := 387) C 0 dL_law_386 rfl rfl ?_
  refine v_iconst (pc2 := 388) C dL_law_387 ki_1 rfl ?_
  refine v_iadd (pc2 := 389) C dL_law_388 rfl ?_
  refine v_sld (pc2 := 390) C hX (sc_in h0 h6 hL lit_1 (by decide)) dL_law_389 rfl ?_
  refine v_aload_n (pc2 := 391) C 3 dL_law_390 rfl rfl ?_
  refine v_iload_n (pc2 := 392) C 0 dL_law_391 rfl rfl ?_
  refine v_iconst (pc2 := 393) C dL_law_392 ki_2 rfl ?_
  refine v_iadd (pc2 := 394) C dL_law_393 rfl ?_
  refine v_sld (pc2 := 395) C hX (sc_in h0 h6 hL lit_2 (by decide)) dL_law_394 rfl ?_
  refine v_aload_n (pc2 := 396) C 3 dL_law_395 rfl rfl ?_
  refine v_iload_n (pc2 := 397) C 0 dL_law_396 rfl rfl ?_
  refine v_iconst (pc2 := 398) C dL_law_397 ki_3 rfl ?_
  refine v_iadd (pc2 := 399) C dL_law_398 rfl ?_
  refine v_sld (pc2 := 400) C hX (sc_in h0 h6 hL lit_3 (by decide)) dL_law_399 rfl ?_
  obtain ⟨hs1, hE, hR1⟩ := h_sun k σ (sx (Int32.toNatClampNeg (i + (1 : Int32)))) (sx (Int32.toNatClampNeg (i + (2 : Int32)))) (sx (Int32.toNatClampNeg (i + (3 : Int32)))) hR
  refine v_cVi (pc2 := 403) C kc_L_40 (mX9_sun (xl X) Λ _ _ _ _ ) (wd0 Λ _) rfl (by decide) rfl rfl (Nat.le_of_ble_eq_true rfl) dL_law_400 rfl ?_
  refine v_aload_n (pc2 := 404) C 1 dL_law_403 rfl rfl ?_
  refine v_aload_n (pc2 := 405) C 3 dL_law_404 rfl rfl ?_
  refine v_iload_n (pc2 := 406) C 0 dL_law_405 rfl rfl ?_
  refine v_iconst (pc2 := 407) C dL_law_406 ki_1 rfl ?_
  refine v_iadd (pc2 := 408) C dL_law_407 rfl ?_
  refine v_sld (pc2 := 409) C hX (sc_in h0 h6 hL lit_1 (by decide)) dL_law_408 rfl ?_
  refine v_aload_n (pc2 := 410) C 3 dL_law_409 rfl rfl ?_
  refine v_iload_n (pc2 := 411) C 0 dL_law_410 rfl rfl ?_
  refine v_iconst (pc2 := 412) C dL_law_411 ki_2 rfl ?_
  refine v_iadd (pc2 := 413) C dL_law_412 rfl ?_
  refine v_sld (pc2 := 414) C hX (sc_in h0 h6 hL lit_2 (by decide)) dL_law_413 rfl ?_
  refine v_aload_n (pc2 := 415) C 3 dL_law_414 rfl rfl ?_
  refine v_iload_n (pc2 := 416) C 0 dL_law_415 rfl rfl ?_
  refine v_iconst (pc2 := 417) C dL_law_416 ki_3 rfl ?_
  refine v_iadd (pc2 := 418) C dL_law_417 rfl ?_
  refine v_sld (pc2 := 419) C hX (sc_in h0 h6 hL lit_3 (by decide)) dL_law_418 rfl ?_
  refine v_cVi (pc2 := 422) C kc_L_44 (mX10_sun (xl X) Λ _ _ _ _ ) (wd37 Λ _) rfl (by decide) rfl rfl (Nat.le_of_ble_eq_true rfl) dL_law_419 rfl ?_
  refine v_icmpeq (pc2 := 1094) (pc3 := 425) C dL_law_422 rfl rfl (fun _ => ?_) (fun h => absurd hE h)
  refine v_iinc (pc2 := 1097) (lv2 := [(3, _), (2, _), (1, _), (0, _)]) C 0 dL_law_1094 rfl ki_6 (by decide) rfl rfl ?_
  refine v_goto (pc2 := 18) C dL_law_1097 rfl ?_
  exact ih (k + 1) _ _ hR1 (hI.step hL h6)
set_option maxHeartbeats 4000000 in
set_option maxRecDepth 100000 in
theorem law_c7 {Rel : Nat → St → Prop} (h_suns : ∀ (k : Nat) (σ : St), Rel k σ → Safe ((f9_suns σ).2) ∧ (f9_suns σ).1 = (f10_suns ((f9_suns σ).2)).1 ∧ Rel (k + 1) ((f10_suns ((f9_suns σ).2)).2)) {X : CX} {Λ : LY} {b L : Nat} {sx : Nat → Int32} (hL : L ≤ 3072) (C : OK X Λ cL_law 4 RL 13 598) (hX : SCR X Λ b L sx) {n : Nat} (ih : ∀ (k : Nat) (σ : St) (i : Int32), Rel k σ → LI L i k n → VV X Λ 4 18 [(3, .int i), (2, .ref (adr Λ 37)), (1, .ref (adr Λ 0)), (0, .ref b)] [] σ) (k : Nat) (σ : St) (i : Int32) (hR : Rel k σ) (hsf : Safe σ) (hI : LI L i k (n + 1)) (h0 : 0 ≤ i.toInt) (h6 : i.toInt + 6 ≤ L) : VV X Λ 4 427 [(3, .int i), (2, .ref (adr Λ 37)), (1, .ref (adr Λ 0)), (0, .ref b)] [] σ := by
  refine v_aload_n (pc2 := 428) C 2 dL_law_427 rfl rfl ?_
  obtain ⟨hs1, hE, hR1⟩ := h_suns k σ  hR
  refine v_cVi (pc2 := 431) C kc_L_45 (mX9_suns (xl X) Λ _  hsf) (wd0 Λ _) rfl (by decide) rfl rfl (Nat.le_of_ble_eq_true rfl) dL_law_428 rfl ?_
  refine v_aload_n (pc2 := 432) C 1 dL_law_431 rfl rfl ?_
  refine v_cVi (pc2 := 435) C kc_L_48 (mX10_suns (xl X) Λ _  hs1) (wd37 Λ _) rfl (by decide) rfl rfl (Nat.le_of_ble_eq_true rfl) dL_law_432 rfl ?_
  refine v_icmpeq (pc2 := 1094) (pc3 := 438) C dL_law_435 rfl rfl (fun _ => ?_) (fun h => absurd hE h)
  refine v_iinc (pc2 := 1097) (lv2 := [(3, _), (2, _), (1, _), (0, _)]) C 0 dL_law_1094 rfl ki_6 (by decide) rfl rfl ?_
  refine v_goto (pc2 := 18) C dL_law_1097 rfl ?_
  exact ih (k + 1) _ _ hR1 (hI.step hL h6)
set_option maxHeartbeats 4000000 in
set_option maxRecDepth 100000 in
theorem law_c8 {Rel : Nat → St → Prop} (h_ideal : ∀ (k : Nat) (σ : St) (a1 : Int32), Rel k σ → Safe ((f9_ideal σ a1).2) ∧ (f9_ideal σ a1).1 = (f10_ideal ((f9_ideal σ a1).2) a1).1 ∧ Rel (k + 1) ((f10_ideal ((f9_ideal σ a1).2) a1).2)) {X : CX} {Λ : LY} {b L : Nat} {sx : Nat → Int32} (hL : L ≤ 3072) (C : OK X Λ cL_law 4 RL 13 598) (hX : SCR X Λ b L sx) {n : Nat} (ih : ∀ (k : Nat) (σ : St) (i : Int32), Rel k σ → LI L i k n → VV X Λ 4 18 [(3, .int i), (2, .ref (adr Λ 37)), (1, .ref (adr Λ 0)), (0, .ref b)] [] σ) (k : Nat) (σ : St) (i : Int32) (hR : Rel k σ) (hsf : Safe σ) (hI : LI L i k (n + 1)) (h0 : 0 ≤ i.toInt) (h6 : i.toInt + 6 ≤ L) : VV X Λ 4 440 [(3, .int i), (2, .ref (adr Λ 37)), (1, .ref (adr Λ 0)), (0, .ref b)] [] σ := by
  refine v_aload_n (pc2 := 441) C 2 dL_law_440 rfl rfl ?_
  refine v_aload_n (pc2 := 442) C 3 dL_law_441 rfl rfl ?_
  refine v_iload_n (pc2 := 443) C 0 dL_law_442 rfl rfl ?_
  refine v_iconst (pc2 := 444) C dL_law_443 ki_1 rfl ?_
  refine v_iadd (pc2 := 445) C dL_law_444 rfl ?_
  refine v_sld (pc2 := 446) C hX (sc_in h0 h6 hL lit_1 (by decide)) dL_law_445 rfl ?_
  obtain ⟨hs1, hE, hR1⟩ := h_ideal k σ (sx (Int32.toNatClampNeg (i + (1 : Int32)))) hR
  refine v_cVi (pc2 := 449) C kc_L_49 (mX9_ideal (xl X) Λ _ _ ) (wd0 Λ _) rfl (by decide) rfl rfl (Nat.le_of_ble_eq_true rfl) dL_law_446 rfl ?_
  refine v_aload_n (pc2 := 450) C 1 dL_law_449 rfl rfl ?_
  refine v_aload_n (pc2 := 451) C 3 dL_law_450 rfl rfl ?_
  refine v_iload_n (pc2 := 452) C 0 dL_law_451 rfl rfl ?_
  refine v_iconst (pc2 := 453) C dL_law_452 ki_1 rfl ?_
  refine v_iadd (pc2 := 454) C dL_law_453 rfl ?_
  refine v_sld (pc2 := 455) C hX (sc_in h0 h6 hL lit_1 (by decide)) dL_law_454 rfl ?_
  refine v_cVi (pc2 := 458) C kc_L_53 (mX10_ideal (xl X) Λ _ _ ) (wd37 Λ _) rfl (by decide) rfl rfl (Nat.le_of_ble_eq_true rfl) dL_law_455 rfl ?_
  refine v_icmpeq (pc2 := 1094) (pc3 := 461) C dL_law_458 rfl rfl (fun _ => ?_) (fun h => absurd hE h)
  refine v_iinc (pc2 := 1097) (lv2 := [(3, _), (2, _), (1, _), (0, _)]) C 0 dL_law_1094 rfl ki_6 (by decide) rfl rfl ?_
  refine v_goto (pc2 := 18) C dL_law_1097 rfl ?_
  exact ih (k + 1) _ _ hR1 (hI.step hL h6)
set_option maxHeartbeats 4000000 in
set_option maxRecDepth 100000 in
theorem law_c9 {Rel : Nat → St → Prop} (h_back : ∀ (k : Nat) (σ : St) (a1 : Int32), Rel k σ → Safe ((f9_back σ a1).2) ∧ (f9_back σ a1).1 = (f10_back ((f9_back σ a1).2) a1).1 ∧ Rel (k + 1) ((f10_back ((f9_back σ a1).2) a1).2)) {X : CX} {Λ : LY} {b L : Nat} {sx : Nat → Int32} (hL : L ≤ 3072) (C : OK X Λ cL_law 4 RL 13 598) (hX : SCR X Λ b L sx) {n : Nat} (ih : ∀ (k : Nat) (σ : St) (i : Int32), Rel k σ → LI L i k n → VV X Λ 4 18 [(3, .int i), (2, .ref (adr Λ 37)), (1, .ref (adr Λ 0)), (0, .ref b)] [] σ) (k : Nat) (σ : St) (i : Int32) (hR : Rel k σ) (hsf : Safe σ) (hI : LI L i k (n + 1)) (h0 : 0 ≤ i.toInt) (h6 : i.toInt + 6 ≤ L) : VV X Λ 4 463 [(3, .int i), (2, .ref (adr Λ 37)), (1, .ref (adr Λ 0)), (0, .ref b)] [] σ := by
  refine v_aload_n (pc2 := 464) C 2 dL_law_463 rfl rfl ?_
  refine v_aload_n (pc2 := 465) C 3 dL_law_464 rfl rfl ?_
  refine v_iload_n (pc2 := 466) C 0 dL_law_465 rfl rfl ?_
  refine v_iconst (pc2 := 467) C dL_law_466 ki_1 rfl ?_
  refine v_iadd (pc2 := 468) C dL_law_467 rfl ?_
  refine v_sld (pc2 := 469) C hX (sc_in h0 h6 hL lit_1 (by decide)) dL_law_468 rfl ?_
  obtain ⟨hs1, hE, hR1⟩ := h_back k σ (sx (Int32.toNatClampNeg (i + (1 : Int32)))) hR
  refine v_cVi (pc2 := 472) C kc_L_54 (mX9_back (xl X) Λ _ _ hsf) (wd0 Λ _) rfl (by decide) rfl rfl (Nat.le_of_ble_eq_true rfl) dL_law_469 rfl ?_
  refine v_aload_n (pc2 := 473) C 1 dL_law_472 rfl rfl ?_
  refine v_aload_n (pc2 := 474) C 3 dL_law_473 rfl rfl ?_
  refine v_iload_n (pc2 := 475) C 0 dL_law_474 rfl rfl ?_
  refine v_iconst (pc2 := 476) C dL_law_475 ki_1 rfl ?_
  refine v_iadd (pc2 := 477) C dL_law_476 rfl ?_
  refine v_sld (pc2 := 478) C hX (sc_in h0 h6 hL lit_1 (by decide)) dL_law_477 rfl ?_
  refine v_cVi (pc2 := 481) C kc_L_57 (mX10_back (xl X) Λ _ _ hs1) (wd37 Λ _) rfl (by decide) rfl rfl (Nat.le_of_ble_eq_true rfl) dL_law_478 rfl ?_
  refine v_icmpeq (pc2 := 1094) (pc3 := 484) C dL_law_481 rfl rfl (fun _ => ?_) (fun h => absurd hE h)
  refine v_iinc (pc2 := 1097) (lv2 := [(3, _), (2, _), (1, _), (0, _)]) C 0 dL_law_1094 rfl ki_6 (by decide) rfl rfl ?_
  refine v_goto (pc2 := 18) C dL_law_1097 rfl ?_
  exact ih (k + 1) _ _ hR1 (hI.step hL h6)
set_option maxHeartbeats 4000000 in
set_option maxRecDepth 100000 in
theorem law_c10 {Rel : Nat → St → Prop} (h_breadth : ∀ (k : Nat) (σ : St) (a1 a2 : Int32), Rel k σ → Safe ((f9_breadth σ a1 a2).2) ∧ (f9_breadth σ a1 a2).1 = (f10_breadth ((f9_breadth σ a1 a2).2) a1 a2).1 ∧ Rel (k + 1) ((f10_breadth ((f9_breadth σ a1 a2).2) a1 a2).2)) {X : CX} {Λ : LY} {b L : Nat} {sx : Nat → Int32} (hL : L ≤ 3072) (C : OK X Λ cL_law 4 RL 13 598) (hX : SCR X Λ b L sx) {n : Nat} (ih : ∀ (k : Nat) (σ : St) (i : Int32), Rel k σ → LI L i k n → VV X Λ 4 18 [(3, .int i), (2, .ref (adr Λ 37)), (1, .ref (adr Λ 0)), (0, .ref b)] [] σ) (k : Nat) (σ : St) (i : Int32) (hR : Rel k σ) (hsf : Safe σ) (hI : LI L i k (n + 1)) (h0 : 0 ≤ i.toInt) (h6 : i.toInt + 6 ≤ L) : VV X Λ 4 486 [(3, .int i), (2, .ref (adr Λ 37)), (1, .ref (adr Λ 0)), (0, .ref b)] [] σ := by
  refine v_aload_n (pc2 := 487) C 2 dL_law_486 rfl rfl ?_
  refine v_aload_n (pc2 := 488) C 3 dL_law_487 rfl rfl ?_
  refine v_iload_n (pc2 := 489) C 0 dL_law_488 rfl rfl ?_
  refine v_iconst (pc2 := 490) C dL_law_489 ki_1 rfl ?_
  refine v_iadd (pc2 := 491) C dL_law_490 rfl ?_
  refine v_sld (pc2 := 492) C hX (sc_in h0 h6 hL lit_1 (by decide)) dL_law_491 rfl ?_
  refine v_aload_n (pc2 := 493) C 3 dL_law_492 rfl rfl ?_
  refine v_iload_n (pc2 := 494) C 0 dL_law_493 rfl rfl ?_
  refine v_iconst (pc2 := 495) C dL_law_494 ki_2 rfl ?_
  refine v_iadd (pc2 := 496) C dL_law_495 rfl ?_
  refine v_sld (pc2 := 497) C hX (sc_in h0 h6 hL lit_2 (by decide)) dL_law_496 rfl ?_
  obtain ⟨hs1, hE, hR1⟩ := h_breadth k σ (sx (Int32.toNatClampNeg (i + (1 : Int32)))) (sx (Int32.toNatClampNeg (i + (2 : Int32)))) hR
  refine v_cVl (pc2 := 500) C kc_L_58 (mX9_breadth (xl X) Λ _ _ _ hsf) (wd0 Λ _) rfl (by decide) rfl rfl (Nat.le_of_ble_eq_true rfl) dL_law_497 rfl ?_
  refine v_aload_n (pc2 := 501) C 1 dL_law_500 rfl rfl ?_
  refine v_aload_n (pc2 := 502) C 3 dL_law_501 rfl rfl ?_
  refine v_iload_n (pc2 := 503) C 0 dL_law_502 rfl rfl ?_
  refine v_iconst (pc2 := 504) C dL_law_503 ki_1 rfl ?_
  refine v_iadd (pc2 := 505) C dL_law_504 rfl ?_
  refine v_sld (pc2 := 506) C hX (sc_in h0 h6 hL lit_1 (by decide)) dL_law_505 rfl ?_
  refine v_aload_n (pc2 := 507) C 3 dL_law_506 rfl rfl ?_
  refine v_iload_n (pc2 := 508) C 0 dL_law_507 rfl rfl ?_
  refine v_iconst (pc2 := 509) C dL_law_508 ki_2 rfl ?_
  refine v_iadd (pc2 := 510) C dL_law_509 rfl ?_
  refine v_sld (pc2 := 511) C hX (sc_in h0 h6 hL lit_2 (by decide)) dL_law_510 rfl ?_
  refine v_cVl (pc2 := 514) C kc_L_62 (mX10_breadth (xl X) Λ _ _ _ hs1) (wd37 Λ _) rfl (by decide) rfl rfl (Nat.le_of_ble_eq_true rfl) dL_law_511 rfl ?_
  refine v_lceq (pc2 := 1094) (pc3 := 518) C dL_law_514 dL_law_515 rfl rfl (fun _ => ?_) (fun h => absurd hE h)
  refine v_iinc (pc2 := 1097) (lv2 := [(3, _), (2, _), (1, _), (0, _)]) C 0 dL_law_1094 rfl ki_6 (by decide) rfl rfl ?_
  refine v_goto (pc2 := 18) C dL_law_1097 rfl ?_
  exact ih (k + 1) _ _ hR1 (hI.step hL h6)
set_option maxHeartbeats 4000000 in
set_option maxRecDepth 100000 in
theorem law_c11 {Rel : Nat → St → Prop} (h_shade : ∀ (k : Nat) (σ : St) (a1 a2 : Int32), Rel k σ → Safe ((f9_shade σ a1 a2).2) ∧ (f9_shade σ a1 a2).1 = (f10_shade ((f9_shade σ a1 a2).2) a1 a2).1 ∧ Rel (k + 1) ((f10_shade ((f9_shade σ a1 a2).2) a1 a2).2)) {X : CX} {Λ : LY} {b L : Nat} {sx : Nat → Int32} (hL : L ≤ 3072) (C : OK X Λ cL_law 4 RL 13 598) (hX : SCR X Λ b L sx) {n : Nat} (ih : ∀ (k : Nat) (σ : St) (i : Int32), Rel k σ → LI L i k n → VV X Λ 4 18 [(3, .int i), (2, .ref (adr Λ 37)), (1, .ref (adr Λ 0)), (0, .ref b)] [] σ) (k : Nat) (σ : St) (i : Int32) (hR : Rel k σ) (hsf : Safe σ) (hI : LI L i k (n + 1)) (h0 : 0 ≤ i.toInt) (h6 : i.toInt + 6 ≤ L) : VV X Λ 4 520 [(3, .int i), (2, .ref (adr Λ 37)), (1, .ref (adr Λ 0)), (0, .ref b)] [] σ := by
  refine v_aload_n (pc2 := 521) C 2 dL_law_520 rfl rfl ?_
  refine v_aload_n (pc2 := 522) C 3 dL_law_521 rfl rfl ?_
  refine v_iload_n (pc2 := 523) C 0 dL_law_522 rfl rfl ?_
  refine v_iconst (pc2 := 524) C dL_law_523 ki_1 rfl ?_
  refine v_iadd (pc2 := 525) C dL_law_524 rfl ?_
  refine v_sld (pc2 := 526) C hX (sc_in h0 h6 hL lit_1 (by decide)) dL_law_525 rfl ?_
  refine v_aload_n (pc2 := 527) C 3 dL_law_526 rfl rfl ?_
  refine v_iload_n (pc2 := 528) C 0 dL_law_527 rfl rfl ?_
  refine v_iconst (pc2 := 529) C dL_law_528 ki_2 rfl ?_
  refine v_iadd (pc2 := 530) C dL_law_529 rfl ?_
  refine v_sld (pc2 := 531) C hX (sc_in h0 h6 hL lit_2 (by decide)) dL_law_530 rfl ?_
  obtain ⟨hs1, hE, hR1⟩ := h_shade k σ (sx (Int32.toNatClampNeg (i + (1 : Int32)))) (sx (Int32.toNatClampNeg (i + (2 : Int32)))) hR
  refine v_cVl (pc2 := 534) C kc_L_63 (mX9_shade (xl X) Λ _ _ _ hsf) (wd0 Λ _) rfl (by decide) rfl rfl (Nat.le_of_ble_eq_true rfl) dL_law_531 rfl ?_
  refine v_aload_n (pc2 := 535) C 1 dL_law_534 rfl rfl ?_
  refine v_aload_n (pc2 := 536) C 3 dL_law_535 rfl rfl ?_
  refine v_iload_n (pc2 := 537) C 0 dL_law_536 rfl rfl ?_
  refine v_iconst (pc2 := 538) C dL_law_537 ki_1 rfl ?_
  refine v_iadd (pc2 := 539) C dL_law_538 rfl ?_
  refine v_sld (pc2 := 540) C hX (sc_in h0 h6 hL lit_1 (by decide)) dL_law_539 rfl ?_
  refine v_aload_n (pc2 := 541) C 3 dL_law_540 rfl rfl ?_
  refine v_iload_n (pc2 := 542) C 0 dL_law_541 rfl rfl ?_
  refine v_iconst (pc2 := 543) C dL_law_542 ki_2 rfl ?_
  refine v_iadd (pc2 := 544) C dL_law_543 rfl ?_
  refine v_sld (pc2 := 545) C hX (sc_in h0 h6 hL lit_2 (by decide)) dL_law_544 rfl ?_
  refine v_cVl (pc2 := 548) C kc_L_66 (mX10_shade (xl X) Λ _ _ _ hs1) (wd37 Λ _) rfl (by decide) rfl rfl (Nat.le_of_ble_eq_true rfl) dL_law_545 rfl ?_
  refine v_lceq (pc2 := 1094) (pc3 := 552) C dL_law_548 dL_law_549 rfl rfl (fun _ => ?_) (fun h => absurd hE h)
  refine v_iinc (pc2 := 1097) (lv2 := [(3, _), (2, _), (1, _), (0, _)]) C 0 dL_law_1094 rfl ki_6 (by decide) rfl rfl ?_
  refine v_goto (pc2 := 18) C dL_law_1097 rfl ?_
  exact ih (k + 1) _ _ hR1 (hI.step hL h6)
set_option maxHeartbeats 4000000 in
set_option maxRecDepth 100000 in
theorem law_c12 {Rel : Nat → St → Prop} (h_dark : ∀ (k : Nat) (σ : St) (a1 a2 : Int32), Rel k σ → Safe ((f9_dark σ a1 a2).2) ∧ (f9_dark σ a1 a2).1 = (f10_dark ((f9_dark σ a1 a2).2) a1 a2).1 ∧ Rel (k + 1) ((f10_dark ((f9_dark σ a1 a2).2) a1 a2).2)) {X : CX} {Λ : LY} {b L : Nat} {sx : Nat → Int32} (hL : L ≤ 3072) (C : OK X Λ cL_law 4 RL 13 598) (hX : SCR X Λ b L sx) {n : Nat} (ih : ∀ (k : Nat) (σ : St) (i : Int32), Rel k σ → LI L i k n → VV X Λ 4 18 [(3, .int i), (2, .ref (adr Λ 37)), (1, .ref (adr Λ 0)), (0, .ref b)] [] σ) (k : Nat) (σ : St) (i : Int32) (hR : Rel k σ) (hsf : Safe σ) (hI : LI L i k (n + 1)) (h0 : 0 ≤ i.toInt) (h6 : i.toInt + 6 ≤ L) : VV X Λ 4 554 [(3, .int i), (2, .ref (adr Λ 37)), (1, .ref (adr Λ 0)), (0, .ref b)] [] σ := by
  refine v_aload_n (pc2 := 555) C 2 dL_law_554 rfl rfl ?_
  refine v_aload_n (pc2 := 556) C 3 dL_law_555 rfl rfl ?_
  refine v_iload_n (pc2 := 557) C 0 dL_law_556 rfl rfl ?_
  refine v_iconst (pc2 := 558) C dL_law_557 ki_1 rfl ?_
  refine v_iadd (pc2 := 559) C dL_law_558 rfl ?_
  refine v_sld (pc2 := 560) C hX (sc_in h0 h6 hL lit_1 (by decide)) dL_law_559 rfl ?_
  refine v_aload_n (pc2 := 561) C 3 dL_law_560 rfl rfl ?_
  refine v_iload_n (pc2 := 562) C 0 dL_law_561 rfl rfl ?_
  refine v_iconst (pc2 := 563) C dL_law_562 ki_2 rfl ?_
  refine v_iadd (pc2 := 564) C dL_law_563 rfl ?_
  refine v_sld (pc2 := 565) C hX (sc_in h0 h6 hL lit_2 (by decide)) dL_law_564 rfl ?_
  obtain ⟨hs1, hE, hR1⟩ := h_dark k σ (sx (Int32.toNatClampNeg (i + (1 : Int32)))) (sx (Int32.toNatClampNeg (i + (2 : Int32)))) hR
  refine v_cVi (pc2 := 568) C kc_L_67 (mX9_dark (xl X) Λ _ _ _ hsf) (wd0 Λ _) rfl (by decide) rfl rfl (Nat.le_of_ble_eq_true rfl) dL_law_565 rfl ?_
  refine v_aload_n (pc2 := 569) C 1 dL_law_568 rfl rfl ?_
  refine v_aload_n (pc2 := 570) C 3 dL_law_569 rfl rfl ?_
  refine v_iload_n (pc2 := 571) C 0 dL_law_570 rfl rfl ?_
  refine v_iconst (pc2 := 572) C dL_law_571 ki_1 rfl ?_
  refine v_iadd (pc2 := 573) C dL_law_572 rfl ?_
  refine v_sld (pc2 := 574) C hX (sc_in h0 h6 hL lit_1 (by decide)) dL_law_573 rfl ?_
  refine v_aload_n (pc2 := 575) C 3 dL_law_574 rfl rfl ?_
  refine v_iload_n (pc2 := 576) C 0 dL_law_575 rfl rfl ?_
  refine v_iconst (pc2 := 577) C dL_law_576 ki_2 rfl ?_
  refine v_iadd (pc2 := 578) C dL_law_577 rfl ?_
  refine v_sld (pc2 := 579) C hX (sc_in h0 h6 hL lit_2 (by decide)) dL_law_578 rfl ?_
  refine v_cVi (pc2 := 582) C kc_L_70 (mX10_dark (xl X) Λ _ _ _ hs1) (wd37 Λ _) rfl (by decide) rfl rfl (Nat.le_of_ble_eq_true rfl) dL_law_579 rfl ?_
  refine v_icmpeq (pc2 := 1094) (pc3 := 585) C dL_law_582 rfl rfl (fun _ => ?_) (fun h => absurd hE h)
  refine v_iinc (pc2 := 1097) (lv2 := [(3, _), (2, _), (1, _), (0, _)]) C 0 dL_law_1094 rfl ki_6 (by decide) rfl rfl ?_
  refine v_goto (pc2 := 18) C dL_law_1097 rfl ?_
  exact ih (k + 1) _ _ hR1 (hI.step hL h6)
set_option maxHeartbeats 4000000 in
set_option maxRecDepth 100000 in
theorem law_c13 {Rel : Nat → St → Prop} (h_string : ∀ (k : Nat) (σ : St) (a1 a2 : Int32), Rel k σ → Safe ((f9_string σ a1 a2).2) ∧ (f9_string σ a1 a2).1 = (f10_string ((f9_string σ a1 a2).2) a1 a2).1 ∧ Rel (k + 1) ((f10_string ((f9_string σ a1 a2).2) a1 a2).2)) {X : CX} {Λ : LY} {b L : Nat} {sx : Nat → Int32} (hL : L ≤ 3072) (C : OK X Λ cL_law 4 RL 13 598) (hX : SCR X Λ b L sx) {n : Nat} (ih : ∀ (k : Nat) (σ : St) (i : Int32), Rel k σ → LI L i k n → VV X Λ 4 18 [(3, .int i), (2, .ref (adr Λ 37)), (1, .ref (adr Λ 0)), (0, .ref b)] [] σ) (k : Nat) (σ : St) (i : Int32) (hR : Rel k σ) (hsf : Safe σ) (hI : LI L i k (n + 1)) (h0 : 0 ≤ i.toInt) (h6 : i.toInt + 6 ≤ L) : VV X Λ 4 587 [(3, .int i), (2, .ref (adr Λ 37)), (1, .ref (adr Λ 0)), (0, .ref b)] [] σ := by
  refine v_aload_n (pc2 := 588) C 2 dL_law_587 rfl rfl ?_
  refine v_aload_n (pc2 := 589) C 3 dL_law_588 rfl rfl ?_
  refine v_iload_n (pc2 := 590) C 0 dL_law_589 rfl rfl ?_
  refine v_iconst (pc2 := 591) C dL_law_590 ki_1 rfl ?_
  refine v_iadd (pc2 := 592) C dL_law_591 rfl ?_
  refine v_sld (pc2 := 593) C hX (sc_in h0 h6 hL lit_1 (by decide)) dL_law_592 rfl ?_
  refine v_aload_n (pc2 := 594) C 3 dL_law_593 rfl rfl ?_
  refine v_iload_n (pc2 := 595) C 0 dL_law_594 rfl rfl ?_
  refine v_iconst (pc2 := 596) C dL_law_595 ki_2 rfl ?_
  refine v_iadd (pc2 := 597) C dL_law_596 rfl ?_
  refine v_sld (pc2 := 598) C hX (sc_in h0 h6 hL lit_2 (by decide)) dL_law_597 rfl ?_
  obtain ⟨hs1, hE, hR1⟩ := h_string k σ (sx (Int32.toNatClampNeg (i + (1 : Int32)))) (sx (Int32.toNatClampNeg (i + (2 : Int32)))) hR
  refine v_cVi (pc2 := 601) C kc_L_71 (mX9_string (xl X) Λ _ _ _ hsf) (wd0 Λ _) rfl (by decide) rfl rfl (Nat.le_of_ble_eq_true rfl) dL_law_598 rfl ?_
  refine v_aload_n (pc2 := 602) C 1 dL_law_601 rfl rfl ?_
  refine v_aload_n (pc2 := 603) C 3 dL_law_602 rfl rfl ?_
  refine v_iload_n (pc2 := 604) C 0 dL_law_603 rfl rfl ?_
  refine v_iconst (pc2 := 605) C dL_law_604 ki_1 rfl ?_
  refine v_iadd (pc2 := 606) C dL_law_605 rfl ?_
  refine v_sld (pc2 := 607) C hX (sc_in h0 h6 hL lit_1 (by decide)) dL_law_606 rfl ?_
  refine v_aload_n (pc2 := 608) C 3 dL_law_607 rfl rfl ?_
  refine v_iload_n (pc2 := 609) C 0 dL_law_608 rfl rfl ?_
  refine v_iconst (pc2 := 610) C dL_law_609 ki_2 rfl ?_
  refine v_iadd (pc2 := 611) C dL_law_610 rfl ?_
  refine v_sld (pc2 := 612) C hX (sc_in h0 h6 hL lit_2 (by decide)) dL_law_611 rfl ?_
  refine v_cVi (pc2 := 615) C kc_L_74 (mX10_string (xl X) Λ _ _ _ hs1) (wd37 Λ _) rfl (by decide) rfl rfl (Nat.le_of_ble_eq_true rfl) dL_law_612 rfl ?_
  refine v_icmpeq (pc2 := 1094) (pc3 := 618) C dL_law_615 rfl rfl (fun _ => ?_) (fun h => absurd hE h)
  refine v_iinc (pc2 := 1097) (lv2 := [(3, _), (2, _), (1, _), (0, _)]) C 0 dL_law_1094 rfl ki_6 (by decide) rfl rfl ?_
  refine v_goto (pc2 := 18) C dL_law_1097 rfl ?_
  exact ih (k + 1) _ _ hR1 (hI.step hL h6)
set_option maxHeartbeats 4000000 in
set_option maxRecDepth 100000 in
theorem law_c14 {Rel : Nat → St → Prop} (h_ceiling : ∀ (k : Nat) (σ : St) (a1 a2 : Int32), Rel k σ → Safe ((f9_ceiling σ a1 a2).2) ∧ (f9_ceiling σ a1 a2).1 = (f10_ceiling ((f9_ceiling σ a1 a2).2) a1 a2).1 ∧ Rel (k + 1) ((f10_ceiling ((f9_ceiling σ a1 a2).2) a1 a2).2)) {X : CX} {Λ : LY} {b L : Nat} {sx : Nat → Int32} (hL : L ≤ 3072) (C : OK X Λ cL_law 4 RL 13 598) (hX : SCR X Λ b L sx) {n : Nat} (ih : ∀ (k : Nat) (σ : St) (i : Int32), Rel k σ → LI L i k n → VV X Λ 4 18 [(3, .int i), (2, .ref (adr Λ 37)), (1, .ref (adr Λ 0)), (0, .ref b)] [] σ) (k : Nat) (σ : St) (i : Int32) (hR : Rel k σ) (hsf : Safe σ) (hI : LI L i k (n + 1)) (h0 : 0 ≤ i.toInt) (h6 : i.toInt + 6 ≤ L) : VV X Λ 4 620 [(3, .int i), (2, .ref (adr Λ 37)), (1, .ref (adr Λ 0)), (0, .ref b)] [] σ := by
  refine v_aload_n (pc2 := 621) C 2 dL_law_620 rfl rfl ?_
  refine v_aload_n (pc2 := 622) C 3 dL_law_621 rfl rfl ?_
  refine v_iload_n (pc2 := 623) C 0 dL_law_622 rfl rfl ?_
  refine v_iconst (pc2 := 624) C dL_law_623 ki_1 rfl ?_
  refine v_iadd (pc2 := 625) C dL_law_624 rfl ?_
  refine v_sld (pc2 := 626) C hX (sc_in h0 h6 hL lit_1 (by decide)) dL_law_625 rfl ?_
  refine v_aload_n (pc2 := 627) C 3 dL_law_626 rfl rfl ?_
  refine v_iload_n (pc2 := 628) C 0 dL_law_627 rfl rfl ?_
  refine v_iconst (pc2 := 629) C dL_law_628 ki_2 rfl ?_
  refine v_iadd (pc2 := 630) C dL_law_629 rfl ?_
  refine v_sld (pc2 := 631) C hX (sc_in h0 h6 hL lit_2 (by decide)) dL_law_630 rfl ?_
  obtain ⟨hs1, hE, hR1⟩ := h_ceiling k σ (sx (Int32.toNatClampNeg (i + (1 : Int32)))) (sx (Int32.toNatClampNeg (i + (2 : Int32)))) hR
  refine v_cVi (pc2 := 634) C kc_L_75 (mX9_ceiling (xl X) Λ _ _ _ ) (wd0 Λ _) rfl (by decide) rfl rfl (Nat.le_of_ble_eq_true rfl) dL_law_631 rfl ?_
  refine v_aload_n (pc2 := 635) C 1 dL_law_634 rfl rfl ?_
  refine v_aload_n (pc2 := 636) C 3 dL_law_635 rfl rfl ?_
  refine v_iload_n (pc2 := 637) C 0 dL_law_636 rfl rfl ?_
  refine v_iconst (pc2 := 638) C dL_law_637 ki_1 rfl ?_
  refine v_iadd (pc2 := 639) C dL_law_638 rfl ?_
  refine v_sld (pc2 := 640) C hX (sc_in h0 h6 hL lit_1 (by decide)) dL_law_639 rfl ?_
  refine v_aload_n (pc2 := 641) C 3 dL_law_640 rfl rfl ?_
  refine v_iload_n (pc2 := 642) C 0 dL_law_641 rfl rfl ?_
  refine v_iconst (pc2 := 643) C dL_law_642 ki_2 rfl ?_
  refine v_iadd (pc2 := 644) C dL_law_643 rfl ?_
  refine v_sld (pc2 := 645) C hX (sc_in h0 h6 hL lit_2 (by decide)) dL_law_644 rfl ?_
  refine v_cVi (pc2 := 648) C kc_L_78 (mX10_ceiling (xl X) Λ _ _ _ ) (wd37 Λ _) rfl (by decide) rfl rfl (Nat.le_of_ble_eq_true rfl) dL_law_645 rfl ?_
  refine v_icmpeq (pc2 := 1094) (pc3 := 651) C dL_law_648 rfl rfl (fun _ => ?_) (fun h => absurd hE h)
  refine v_iinc (pc2 := 1097) (lv2 := [(3, _), (2, _), (1, _), (0, _)]) C 0 dL_law_1094 rfl ki_6 (by decide) rfl rfl ?_
  refine v_goto (pc2 := 18) C dL_law_1097 rfl ?_
  exact ih (k + 1) _ _ hR1 (hI.step hL h6)
set_option maxHeartbeats 4000000 in
set_option maxRecDepth 100000 in
theorem law_c15 {Rel : Nat → St → Prop} (h_current : ∀ (k : Nat) (σ : St) (a1 a2 : Int32), Rel k σ → Safe ((f9_current σ a1 a2).2) ∧ (f9_current σ a1 a2).1 = (f10_current ((f9_current σ a1 a2).2) a1 a2).1 ∧ Rel (k + 1) ((f10_current ((f9_current σ a1 a2).2) a1 a2).2)) {X : CX} {Λ : LY} {b L : Nat} {sx : Nat → Int32} (hL : L ≤ 3072) (C : OK X Λ cL_law 4 RL 13 598) (hX : SCR X Λ b L sx) {n : Nat} (ih : ∀ (k : Nat) (σ : St) (i : Int32), Rel k σ → LI L i k n → VV X Λ 4 18 [(3, .int i), (2, .ref (adr Λ 37)), (1, .ref (adr Λ 0)), (0, .ref b)] [] σ) (k : Nat) (σ : St) (i : Int32) (hR : Rel k σ) (hsf : Safe σ) (hI : LI L i k (n + 1)) (h0 : 0 ≤ i.toInt) (h6 : i.toInt + 6 ≤ L) : VV X Λ 4 653 [(3, .int i), (2, .ref (adr Λ 37)), (1, .ref (adr Λ 0)), (0, .ref b)] [] σ := by
  refine v_aload_n (pc2 := 654) C 2 dL_law_653 rfl rfl ?_
  refine v_aload_n (pc2 := 655) C 3 dL_law_654 rfl rfl ?_
  refine v_iload_n (pc2 := 656) C 0 dL_law_655 rfl rfl ?_
  refine v_iconst (pc2 := 657) C dL_law_656 ki_1 rfl ?_
  refine v_iadd (pc2 := 658) C dL_law_657 rfl ?_
  refine v_sld (pc2 := 659) C hX (sc_in h0 h6 hL lit_1 (by decide)) dL_law_658 rfl ?_
  refine v_aload_n (pc2 := 660) C 3 dL_law_659 rfl rfl ?_
  refine v_iload_n (pc2 := 661) C 0 dL_law_660 rfl rfl ?_
  refine v_iconst (pc2 := 662) C dL_law_661 ki_2 rfl ?_
  refine v_iadd (pc2 := 663) C dL_law_662 rfl ?_
  refine v_sld (pc2 := 664) C hX (sc_in h0 h6 hL lit_2 (by decide)) dL_law_663 rfl ?_
  obtain ⟨hs1, hE, hR1⟩ := h_current k σ (sx (Int32.toNatClampNeg (i + (1 : Int32)))) (sx (Int32.toNatClampNeg (i + (2 : Int32)))) hR
  refine v_cVi (pc2 := 667) C kc_L_79 (mX9_current (xl X) Λ _ _ _ hsf) (wd0 Λ _) rfl (by decide) rfl rfl (Nat.le_of_ble_eq_true rfl) dL_law_664 rfl ?_
  refine v_aload_n (pc2 := 668) C 1 dL_law_667 rfl rfl ?_
  refine v_aload_n (pc2 := 669) C 3 dL_law_668 rfl rfl ?_
  refine v_iload_n (pc2 := 670) C 0 dL_law_669 rfl rfl ?_
  refine v_iconst (pc2 := 671) C dL_law_670 ki_1 rfl ?_
  refine v_iadd (pc2 := 672) C dL_law_671 rfl ?_
  refine v_sld (pc2 := 673) C hX (sc_in h0 h6 hL lit_1 (by decide)) dL_law_672 rfl ?_
  refine v_aload_n (pc2 := 674) C 3 dL_law_673 rfl rfl ?_
  refine v_iload_n (pc2 := 675) C 0 dL_law_674 rfl rfl ?_
  refine v_iconst (pc2 := 676) C dL_law_675 ki_2 rfl ?_
  refine v_iadd (pc2 := 677) C dL_law_676 rfl ?_
  refine v_sld (pc2 := 678) C hX (sc_in h0 h6 hL lit_2 (by decide)) dL_law_677 rfl ?_
  refine v_cVi (pc2 := 681) C kc_L_82 (mX10_current (xl X) Λ _ _ _ hs1) (wd37 Λ _) rfl (by decide) rfl rfl (Nat.le_of_ble_eq_true rfl) dL_law_678 rfl ?_
  refine v_icmpeq (pc2 := 1094) (pc3 := 684) C dL_law_681 rfl rfl (fun _ => ?_) (fun h => absurd hE h)
  refine v_iinc (pc2 := 1097) (lv2 := [(3, _), (2, _), (1, _), (0, _)]) C 0 dL_law_1094 rfl ki_6 (by decide) rfl rfl ?_
  refine v_goto (pc2 := 18) C dL_law_1097 rfl ?_
  exact ih (k + 1) _ _ hR1 (hI.step hL h6)
set_option maxHeartbeats 4000000 in
set_option maxRecDepth 100000 in
theorem law_c16 {Rel : Nat → St → Prop} (h_gives : ∀ (k : Nat) (σ : St) (a1 a2 : Int32), Rel k σ → Safe ((f9_gives σ a1 a2).2) ∧ (f9_gives σ a1 a2).1 = (f10_gives ((f9_gives σ a1 a2).2) a1 a2).1 ∧ Rel (k + 1) ((f10_gives ((f9_gives σ a1 a2).2) a1 a2).2)) {X : CX} {Λ : LY} {b L : Nat} {sx : Nat → Int32} (hL : L ≤ 3072) (C : OK X Λ cL_law 4 RL 13 598) (hX : SCR X Λ b L sx) {n : Nat} (ih : ∀ (k : Nat) (σ : St) (i : Int32), Rel k σ → LI L i k n → VV X Λ 4 18 [(3, .int i), (2, .ref (adr Λ 37)), (1, .ref (adr Λ 0)), (0, .ref b)] [] σ) (k : Nat) (σ : St) (i : Int32) (hR : Rel k σ) (hsf : Safe σ) (hI : LI L i k (n + 1)) (h0 : 0 ≤ i.toInt) (h6 : i.toInt + 6 ≤ L) : VV X Λ 4 686 [(3, .int i), (2, .ref (adr Λ 37)), (1, .ref (adr Λ 0)), (0, .ref b)] [] σ := by
  refine v_aload_n (pc2 := 687) C 2 dL_law_686 rfl rfl ?_
  refine v_aload_n (pc2 := 688) C 3 dL_law_687 rfl rfl ?_
  refine v_iload_n (pc2 := 689) C 0 dL_law_688 rfl rfl ?_
  refine v_iconst (pc2 := 690) C dL_law_689 ki_1 rfl ?_
  refine v_iadd (pc2 := 691) C dL_law_690 rfl ?_
  refine v_sld (pc2 := 692) C hX (sc_in h0 h6 hL lit_1 (by decide)) dL_law_691 rfl ?_
  refine v_aload_n (pc2 := 693) C 3 dL_law_692 rfl rfl ?_
  refine v_iload_n (pc2 := 694) C 0 dL_law_693 rfl rfl ?_
  refine v_iconst (pc2 := 695) C dL_law_694 ki_2 rfl ?_
  refine v_iadd (pc2 := 696) C dL_law_695 rfl ?_
  refine v_sld (pc2 := 697) C hX (sc_in h0 h6 hL lit_2 (by decide)) dL_law_696 rfl ?_
  obtain ⟨hs1, hE, hR1⟩ := h_gives k σ (sx (Int32.toNatClampNeg (i + (1 : Int32)))) (sx (Int32.toNatClampNeg (i + (2 : Int32)))) hR
  refine v_cVi (pc2 := 700) C kc_L_83 (mX9_gives (xl X) Λ _ _ _ hsf) (wd0 Λ _) rfl (by decide) rfl rfl (Nat.le_of_ble_eq_true rfl) dL_law_697 rfl ?_
  refine v_aload_n (pc2 := 701) C 1 dL_law_700 rfl rfl ?_
  refine v_aload_n (pc2 := 702) C 3 dL_law_701 rfl rfl ?_
  refine v_iload_n (pc2 := 703) C 0 dL_law_702 rfl rfl ?_
  refine v_iconst (pc2 := 704) C dL_law_703 ki_1 rfl ?_
  refine v_iadd (pc2 := 705) C dL_law_704 rfl ?_
  refine v_sld (pc2 := 706) C hX (sc_in h0 h6 hL lit_1 (by decide)) dL_law_705 rfl ?_
  refine v_aload_n (pc2 := 707) C 3 dL_law_706 rfl rfl ?_
  refine v_iload_n (pc2 := 708) C 0 dL_law_707 rfl rfl ?_
  refine v_iconst (pc2 := 709) C dL_law_708 ki_2 rfl ?_
  refine v_iadd (pc2 := 710) C dL_law_709 rfl ?_
  refine v_sld (pc2 := 711) C hX (sc_in h0 h6 hL lit_2 (by decide)) dL_law_710 rfl ?_
  refine v_cVi (pc2 := 714) C kc_L_86 (mX10_gives (xl X) Λ _ _ _ hs1) (wd37 Λ _) rfl (by decide) rfl rfl (Nat.le_of_ble_eq_true rfl) dL_law_711 rfl ?_
  refine v_icmpeq (pc2 := 1094) (pc3 := 717) C dL_law_714 rfl rfl (fun _ => ?_) (fun h => absurd hE h)
  refine v_iinc (pc2 := 1097) (lv2 := [(3, _), (2, _), (1, _), (0, _)]) C 0 dL_law_1094 rfl ki_6 (by decide) rfl rfl ?_
  refine v_goto (pc2 := 18) C dL_law_1097 rfl ?_
  exact ih (k + 1) _ _ hR1 (hI.step hL h6)
set_option maxHeartbeats 4000000 in
set_option maxRecDepth 100000 in
theorem law_c17 {Rel : Nat → St → Prop} (h_wind : ∀ (k : Nat) (σ : St) (a1 a2 : Int32), Rel k σ → Safe ((f9_wind σ a1 a2).2) ∧ (f9_wind σ a1 a2).1 = (f10_wind ((f9_wind σ a1 a2).2) a1 a2).1 ∧ Rel (k + 1) ((f10_wind ((f9_wind σ a1 a2).2) a1 a2).2)) {X : CX} {Λ : LY} {b L : Nat} {sx : Nat → Int32} (hL : L ≤ 3072) (C : OK X Λ cL_law 4 RL 13 598) (hX : SCR X Λ b L sx) {n : Nat} (ih : ∀ (k : Nat) (σ : St) (i : Int32), Rel k σ → LI L i k n → VV X Λ 4 18 [(3, .int i), (2, .ref (adr Λ 37)), (1, .ref (adr Λ 0)), (0, .ref b)] [] σ) (k : Nat) (σ : St) (i : Int32) (hR : Rel k σ) (hsf : Safe σ) (hI : LI L i k (n + 1)) (h0 : 0 ≤ i.toInt) (h6 : i.toInt + 6 ≤ L) : VV X Λ 4 719 [(3, .int i), (2, .ref (adr Λ 37)), (1, .ref (adr Λ 0)), (0, .ref b)] [] σ := by
  refine v_aload_n (pc2 := 720) C 2 dL_law_719 rfl rfl ?_
  refine v_aload_n (pc2 := 721) C 3 dL_law_720 rfl rfl ?_
  refine v_iload_n (pc2 := 722) C 0 dL_law_721 rfl rfl ?_
  refine v_iconst (pc2 := 723) C dL_law_722 ki_1 rfl ?_
  refine v_iadd (pc2 := 724) C dL_law_723 rfl ?_
  refine v_sld (pc2 := 725) C hX (sc_in h0 h6 hL lit_1 (by decide)) dL_law_724 rfl ?_
  refine v_aload_n (pc2 := 726) C 3 dL_law_725 rfl rfl ?_
  refine v_iload_n (pc2 := 727) C 0 dL_law_726 rfl rfl ?_
  refine v_iconst (pc2 := 728) C dL_law_727 ki_2 rfl ?_
  refine v_iadd (pc2 := 729) C dL_law_728 rfl ?_
  refine v_sld (pc2 := 730) C hX (sc_in h0 h6 hL lit_2 (by decide)) dL_law_729 rfl ?_
  obtain ⟨hs1, hE, hR1⟩ := h_wind k σ (sx (Int32.toNatClampNeg (i + (1 : Int32)))) (sx (Int32.toNatClampNeg (i + (2 : Int32)))) hR
  refine v_cVi (pc2 := 733) C kc_L_87 (mX9_wind (xl X) Λ _ _ _ ) (wd0 Λ _) rfl (by decide) rfl rfl (Nat.le_of_ble_eq_true rfl) dL_law_730 rfl ?_
  refine v_aload_n (pc2 := 734) C 1 dL_law_733 rfl rfl ?_
  refine v_aload_n (pc2 := 735) C 3 dL_law_734 rfl rfl ?_
  refine v_iload_n (pc2 := 736) C 0 dL_law_735 rfl rfl ?_
  refine v_iconst (pc2 := 737) C dL_law_736 ki_1 rfl ?_
  refine v_iadd (pc2 := 738) C dL_law_737 rfl ?_
  refine v_sld (pc2 := 739) C hX (sc_in h0 h6 hL lit_1 (by decide)) dL_law_738 rfl ?_
  refine v_aload_n (pc2 := 740) C 3 dL_law_739 rfl rfl ?_
  refine v_iload_n (pc2 := 741) C 0 dL_law_740 rfl rfl ?_
  refine v_iconst (pc2 := 742) C dL_law_741 ki_2 rfl ?_
  refine v_iadd (pc2 := 743) C dL_law_742 rfl ?_
  refine v_sld (pc2 := 744) C hX (sc_in h0 h6 hL lit_2 (by decide)) dL_law_743 rfl ?_
  refine v_cVi (pc2 := 747) C kc_L_90 (mX10_wind (xl X) Λ _ _ _ ) (wd37 Λ _) rfl (by decide) rfl rfl (Nat.le_of_ble_eq_true rfl) dL_law_744 rfl ?_
  refine v_icmpeq (pc2 := 1094) (pc3 := 750) C dL_law_747 rfl rfl (fun _ => ?_) (fun h => absurd hE h)
  refine v_iinc (pc2 := 1097) (lv2 := [(3, _), (2, _), (1, _), (0, _)]) C 0 dL_law_1094 rfl ki_6 (by decide) rfl rfl ?_
  refine v_goto (pc2 := 18) C dL_law_1097 rfl ?_
  exact ih (k + 1) _ _ hR1 (hI.step hL h6)
set_option maxHeartbeats 4000000 in
set_option maxRecDepth 100000 in
theorem law_c18 {Rel : Nat → St → Prop} (h_limit : ∀ (k : Nat) (σ : St) (a1 : Int32), Rel k σ → Safe ((f9_limit σ a1).2) ∧ (f9_limit σ a1).1 = (f10_limit ((f9_limit σ a1).2) a1).1 ∧ Rel (k + 1) ((f10_limit ((f9_limit σ a1).2) a1).2)) {X : CX} {Λ : LY} {b L : Nat} {sx : Nat → Int32} (hL : L ≤ 3072) (C : OK X Λ cL_law 4 RL 13 598) (hX : SCR X Λ b L sx) {n : Nat} (ih : ∀ (k : Nat) (σ : St) (i : Int32), Rel k σ → LI L i k n → VV X Λ 4 18 [(3, .int i), (2, .ref (adr Λ 37)), (1, .ref (adr Λ 0)), (0, .ref b)] [] σ) (k : Nat) (σ : St) (i : Int32) (hR : Rel k σ) (hsf : Safe σ) (hI : LI L i k (n + 1)) (h0 : 0 ≤ i.toInt) (h6 : i.toInt + 6 ≤ L) : VV X Λ 4 752 [(3, .int i), (2, .ref (adr Λ 37)), (1, .ref (adr Λ 0)), (0, .ref b)] [] σ := by
  refine v_aload_n (pc2 := 753) C 2 dL_law_752 rfl rfl ?_
  refine v_aload_n (pc2 := 754) C 3 dL_law_753 rfl rfl ?_
  refine v_iload_n (pc2 := 755) C 0 dL_law_754 rfl rfl ?_
  refine v_iconst (pc2 := 756) C dL_law_755 ki_1 rfl ?_
  refine v_iadd (pc2 := 757) C dL_law_756 rfl ?_
  refine v_sld (pc2 := 758) C hX (sc_in h0 h6 hL lit_1 (by decide)) dL_law_757 rfl ?_
  obtain ⟨hs1, hE, hR1⟩ := h_limit k σ (sx (Int32.toNatClampNeg (i + (1 : Int32)))) hR
  refine v_cVi (pc2 := 761) C kc_L_91 (mX9_limit (xl X) Λ _ _ ) (wd0 Λ _) rfl (by decide) rfl rfl (Nat.le_of_ble_eq_true rfl) dL_law_758 rfl ?_
  refine v_aload_n (pc2 := 762) C 1 dL_law_761 rfl rfl ?_
  refine v_aload_n (pc2 := 763) C 3 dL_law_762 rfl rfl ?_
  refine v_iload_n (pc2 := 764) C 0 dL_law_763 rfl rfl ?_
  refine v_iconst (pc2 := 765) C dL_law_764 ki_1 rfl ?_
  refine v_iadd (pc2 := 766) C dL_law_765 rfl ?_
  refine v_sld (pc2 := 767) C hX (sc_in h0 h6 hL lit_1 (by decide)) dL_law_766 rfl ?_
  refine v_cVi (pc2 := 770) C kc_L_94 (mX10_limit (xl X) Λ _ _ ) (wd37 Λ _) rfl (by decide) rfl rfl (Nat.le_of_ble_eq_true rfl) dL_law_767 rfl ?_
  refine v_icmpeq (pc2 := 1094) (pc3 := 773) C dL_law_770 rfl rfl (fun _ => ?_) (fun h => absurd hE h)
  refine v_iinc (pc2 := 1097) (lv2 := [(3, _), (2, _), (1, _), (0, _)]) C 0 dL_law_1094 rfl ki_6 (by decide) rfl rfl ?_
  refine v_goto (pc2 := 18) C dL_law_1097 rfl ?_
  exact ih (k + 1) _ _ hR1 (hI.step hL h6)
set_option maxHeartbeats 4000000 in
set_option maxRecDepth 100000 in
theorem law_c19 {Rel : Nat → St → Prop} (h_cleaning : ∀ (k : Nat) (σ : St) (a1 a2 : Int32), (a2 = 0 ∨ a2 = 1) → Rel k σ → Safe ((f9_cleaning σ a1 a2).2) ∧ (f9_cleaning σ a1 a2).1 = (f10_cleaning ((f9_cleaning σ a1 a2).2) a1 a2).1 ∧ Rel (k + 1) ((f10_cleaning ((f9_cleaning σ a1 a2).2) a1 a2).2)) {X : CX} {Λ : LY} {b L : Nat} {sx : Nat → Int32} (hL : L ≤ 3072) (C : OK X Λ cL_law 4 RL 13 598) (hX : SCR X Λ b L sx) {n : Nat} (ih : ∀ (k : Nat) (σ : St) (i : Int32), Rel k σ → LI L i k n → VV X Λ 4 18 [(3, .int i), (2, .ref (adr Λ 37)), (1, .ref (adr Λ 0)), (0, .ref b)] [] σ) (k : Nat) (σ : St) (i : Int32) (hR : Rel k σ) (hsf : Safe σ) (hI : LI L i k (n + 1)) (h0 : 0 ≤ i.toInt) (h6 : i.toInt + 6 ≤ L) : VV X Λ 4 775 [(3, .int i), (2, .ref (adr Λ 37)), (1, .ref (adr Λ 0)), (0, .ref b)] [] σ := by
  refine v_aload_n (pc2 := 776) C 2 dL_law_775 rfl rfl ?_
  refine v_aload_n (pc2 := 777) C 3 dL_law_776 rfl rfl ?_
  refine v_iload_n (pc2 := 778) C 0 dL_law_777 rfl rfl ?_
  refine v_iconst (pc2 := 779) C dL_law_778 ki_1 rfl ?_
  refine v_iadd (pc2 := 780) C dL_law_779 rfl ?_
  refine v_sld (pc2 := 781) C hX (sc_in h0 h6 hL lit_1 (by decide)) dL_law_780 rfl ?_
  refine v_aload_n (pc2 := 782) C 3 dL_law_781 rfl rfl ?_
  refine v_iload_n (pc2 := 783) C 0 dL_law_782 rfl rfl ?_
  refine v_iconst (pc2 := 784) C dL_law_783 ki_2 rfl ?_
  refine v_iadd (pc2 := 785) C dL_law_784 rfl ?_
  refine v_sld (pc2 := 786) C hX (sc_in h0 h6 hL lit_2 (by decide)) dL_law_785 rfl ?_
  refine v_ifeq (pc2 := 793) (pc3 := 789) C dL_law_786 rfl rfl (fun hb => ?_) (fun hb => ?_)
  · skip
    refine v_iconst (pc2 := 794) C dL_law_793 ki_0 rfl ?_
    obtain ⟨hs1, hE, hR1⟩ := h_cleaning k σ (sx (Int32.toNatClampNeg (i + (1 : Int32)))) (0 : Int32) (by first | exact Or.inl rfl | exact Or.inr rfl) hR
    refine v_cVi (pc2 := 797) C kc_L_95 (mX9_cleaning (xl X) Λ _ _ _ ) (wd0 Λ _) rfl (by decide) rfl rfl (Nat.le_of_ble_eq_true rfl) dL_law_794 rfl ?_
    refine v_aload_n (pc2 := 798) C 1 dL_law_797 rfl rfl ?_
    refine v_aload_n (pc2 := 799) C 3 dL_law_798 rfl rfl ?_
    refine v_iload_n (pc2 := 800) C 0 dL_law_799 rfl rfl ?_
    refine v_iconst (pc2 := 801) C dL_law_800 ki_1 rfl ?_
    refine v_iadd (pc2 := 802) C dL_law_801 rfl ?_
    refine v_sld (pc2 := 803) C hX (sc_in h0 h6 hL lit_1 (by decide)) dL_law_802 rfl ?_
    refine v_aload_n (pc2 := 804) C 3 dL_law_803 rfl rfl ?_
    refine v_iload_n (pc2 := 805) C 0 dL_law_804 rfl rfl ?_
    refine v_iconst (pc2 := 806) C dL_law_805 ki_2 rfl ?_
    refine v_iadd (pc2 := 807) C dL_law_806 rfl ?_
    refine v_sld (pc2 := 808) C hX (sc_in h0 h6 hL lit_2 (by decide)) dL_law_807 rfl ?_
    refine v_ifeq (pc2 := 815) (pc3 := 811) C dL_law_808 rfl rfl (fun _ => ?_) (fun h => absurd hb h)
    refine v_iconst (pc2 := 816) C dL_law_815 ki_0 rfl ?_
    refine v_cVi (pc2 := 819) C kc_L_99 (mX10_cleaning (xl X) Λ _ _ _ ) (wd37 Λ _) rfl (by decide) rfl rfl (Nat.le_of_ble_eq_true rfl) dL_law_816 rfl ?_
    refine v_icmpeq (pc2 := 1094) (pc3 := 822) C dL_law_819 rfl rfl (fun _ => ?_) (fun h => absurd hE h)
    refine v_iinc (pc2 := 1097) (lv2 := [(3, _), (2, _), (1, _), (0, _)]) C 0 dL_law_1094 rfl ki_6 (by decide) rfl rfl ?_
    refine v_goto (pc2 := 18) C dL_law_1097 rfl ?_
    exact ih (k + 1) _ _ hR1 (hI.step hL h6)
  · skip
    refine v_iconst (pc2 := 790) C dL_law_789 ki_1 rfl ?_
    refine v_goto (pc2 := 794) C dL_law_790 rfl ?_
    obtain ⟨hs1, hE, hR1⟩ := h_cleaning k σ (sx (Int32.toNatClampNeg (i + (1 : Int32)))) (1 : Int32) (by first | exact Or.inl rfl | exact Or.inr rfl) hR
    refine v_cVi (pc2 := 797) C kc_L_95 (mX9_cleaning (xl X) Λ _ _ _ ) (wd0 Λ _) rfl (by decide) rfl rfl (Nat.le_of_ble_eq_true rfl) dL_law_794 rfl ?_
    refine v_aload_n (pc2 := 798) C 1 dL_law_797 rfl rfl ?_
    refine v_aload_n (pc2 := 799) C 3 dL_law_798 rfl rfl ?_
    refine v_iload_n (pc2 := 800) C 0 dL_law_799 rfl rfl ?_
    refine v_iconst (pc2 := 801) C dL_law_800 ki_1 rfl ?_
    refine v_iadd (pc2 := 802) C dL_law_801 rfl ?_
    refine v_sld (pc2 := 803) C hX (sc_in h0 h6 hL lit_1 (by decide)) dL_law_802 rfl ?_
    refine v_aload_n (pc2 := 804) C 3 dL_law_803 rfl rfl ?_
    refine v_iload_n (pc2 := 805) C 0 dL_law_804 rfl rfl ?_
    refine v_iconst (pc2 := 806) C dL_law_805 ki_2 rfl ?_
    refine v_iadd (pc2 := 807) C dL_law_806 rfl ?_
    refine v_sld (pc2 := 808) C hX (sc_in h0 h6 hL lit_2 (by decide)) dL_law_807 rfl ?_
    refine v_ifeq (pc2 := 815) (pc3 := 811) C dL_law_808 rfl rfl (fun h => absurd h hb) (fun _ => ?_)
    refine v_iconst (pc2 := 812) C dL_law_811 ki_1 rfl ?_
    refine v_goto (pc2 := 816) C dL_law_812 rfl ?_
    refine v_cVi (pc2 := 819) C kc_L_99 (mX10_cleaning (xl X) Λ _ _ _ ) (wd37 Λ _) rfl (by decide) rfl rfl (Nat.le_of_ble_eq_true rfl) dL_law_816 rfl ?_
    refine v_icmpeq (pc2 := 1094) (pc3 := 822) C dL_law_819 rfl rfl (fun _ => ?_) (fun h => absurd hE h)
    refine v_iinc (pc2 := 1097) (lv2 := [(3, _), (2, _), (1, _), (0, _)]) C 0 dL_law_1094 rfl ki_6 (by decide) rfl rfl ?_
    refine v_goto (pc2 := 18) C dL_law_1097 rfl ?_
    exact ih (k + 1) _ _ hR1 (hI.step hL h6)
set_option maxHeartbeats 4000000 in
set_option maxRecDepth 100000 in
theorem law_c20 {Rel : Nat → St → Prop} (h_hour : ∀ (k : Nat) (σ : St), k ≤ 600 → Rel k σ → Safe ((f9_hour σ).2) ∧ (f9_hour σ).1 = (f10_hour ((f9_hour σ).2)).1 ∧ Rel (k + 1) ((f10_hour ((f9_hour σ).2)).2)) {X : CX} {Λ : LY} {b L : Nat} {sx : Nat → Int32} (hL : L ≤ 3072) (C : OK X Λ cL_law 4 RL 13 598) (hX : SCR X Λ b L sx) {n : Nat} (ih : ∀ (k : Nat) (σ : St) (i : Int32), Rel k σ → LI L i k n → VV X Λ 4 18 [(3, .int i), (2, .ref (adr Λ 37)), (1, .ref (adr Λ 0)), (0, .ref b)] [] σ) (k : Nat) (σ : St) (i : Int32) (hR : Rel k σ) (hsf : Safe σ) (hI : LI L i k (n + 1)) (h0 : 0 ≤ i.toInt) (h6 : i.toInt + 6 ≤ L) : VV X Λ 4 824 [(3, .int i), (2, .ref (adr Λ 37)), (1, .ref (adr Λ 0)), (0, .ref b)] [] σ := by
  refine v_aload_n (pc2 := 825) C 2 dL_law_824 rfl rfl ?_
  obtain ⟨hs1, hE, hR1⟩ := h_hour k σ (by have := hI.1; omega) hR
  refine v_cVi (pc2 := 828) C kc_L_100 (mX9_hour (xl X) Λ _  hsf) (wd0 Λ _) rfl (by decide) rfl rfl (Nat.le_of_ble_eq_true rfl) dL_law_825 rfl ?_
  refine v_aload_n (pc2 := 829) C 1 dL_law_828 rfl rfl ?_
  refine v_cVi (pc2 := 832) C kc_L_103 (mX10_hour (xl X) Λ _  hs1) (wd37 Λ _) rfl (by decide) rfl rfl (Nat.le_of_ble_eq_true rfl) dL_law_829 rfl ?_
  refine v_icmpeq (pc2 := 1094) (pc3 := 835) C dL_law_832 rfl rfl (fun _ => ?_) (fun h => absurd hE h)
  refine v_iinc (pc2 := 1097) (lv2 := [(3, _), (2, _), (1, _), (0, _)]) C 0 dL_law_1094 rfl ki_6 (by decide) rfl rfl ?_
  refine v_goto (pc2 := 18) C dL_law_1097 rfl ?_
  exact ih (k + 1) _ _ hR1 (hI.step hL h6)
set_option maxHeartbeats 4000000 in
set_option maxRecDepth 100000 in
theorem law_c21 {Rel : Nat → St → Prop} (h_hours : ∀ (k : Nat) (σ : St) (a1 : Int32), k ≤ 600 → Rel k σ → Safe ((f9_hours σ a1).2) ∧ (f9_hours σ a1).1 = (f10_hours ((f9_hours σ a1).2) a1).1 ∧ Rel (k + 1) ((f10_hours ((f9_hours σ a1).2) a1).2)) {X : CX} {Λ : LY} {b L : Nat} {sx : Nat → Int32} (hL : L ≤ 3072) (C : OK X Λ cL_law 4 RL 13 598) (hX : SCR X Λ b L sx) {n : Nat} (ih : ∀ (k : Nat) (σ : St) (i : Int32), Rel k σ → LI L i k n → VV X Λ 4 18 [(3, .int i), (2, .ref (adr Λ 37)), (1, .ref (adr Λ 0)), (0, .ref b)] [] σ) (k : Nat) (σ : St) (i : Int32) (hR : Rel k σ) (hsf : Safe σ) (hI : LI L i k (n + 1)) (h0 : 0 ≤ i.toInt) (h6 : i.toInt + 6 ≤ L) : VV X Λ 4 837 [(3, .int i), (2, .ref (adr Λ 37)), (1, .ref (adr Λ 0)), (0, .ref b)] [] σ := by
  refine v_aload_n (pc2 := 838) C 2 dL_law_837 rfl rfl ?_
  refine v_aload_n (pc2 := 839) C 3 dL_law_838 rfl rfl ?_
  refine v_iload_n (pc2 := 840) C 0 dL_law_839 rfl rfl ?_
  refine v_iconst (pc2 := 841) C dL_law_840 ki_1 rfl ?_
  refine v_iadd (pc2 := 842) C dL_law_841 rfl ?_
  refine v_sld (pc2 := 843) C hX (sc_in h0 h6 hL lit_1 (by decide)) dL_law_842 rfl ?_
  obtain ⟨hs1, hE, hR1⟩ := h_hours k σ (sx (Int32.toNatClampNeg (i + (1 : Int32)))) (by have := hI.1; omega) hR
  refine v_cVl (pc2 := 846) C kc_L_104 (mX9_hours (xl X) Λ _ _ hsf) (wd0 Λ _) rfl (by decide) rfl rfl (Nat.le_of_ble_eq_true rfl) dL_law_843 rfl ?_
  refine v_aload_n (pc2 := 847) C 1 dL_law_846 rfl rfl ?_
  refine v_aload_n (pc2 := 848) C 3 dL_law_847 rfl rfl ?_
  refine v_iload_n (pc2 := 849) C 0 dL_law_848 rfl rfl ?_
  refine v_iconst (pc2 := 850) C dL_law_849 ki_1 rfl ?_
  refine v_iadd (pc2 := 851) C dL_law_850 rfl ?_
  refine v_sld (pc2 := 852) C hX (sc_in h0 h6 hL lit_1 (by decide)) dL_law_851 rfl ?_
  refine v_cVl (pc2 := 855) C kc_L_108 (mX10_hours (xl X) Λ _ _ hs1) (wd37 Λ _) rfl (by decide) rfl rfl (Nat.le_of_ble_eq_true rfl) dL_law_852 rfl ?_
  refine v_lceq (pc2 := 1094) (pc3 := 859) C dL_law_855 dL_law_856 rfl rfl (fun _ => ?_) (fun h => absurd hE h)
  refine v_iinc (pc2 := 1097) (lv2 := [(3, _), (2, _), (1, _), (0, _)]) C 0 dL_law_1094 rfl ki_6 (by decide) rfl rfl ?_
  refine v_goto (pc2 := 18) C dL_law_1097 rfl ?_
  exact ih (k + 1) _ _ hR1 (hI.step hL h6)
set_option maxHeartbeats 4000000 in
set_option maxRecDepth 100000 in
theorem law_c22 {Rel : Nat → St → Prop} (h_book : ∀ (k : Nat) (σ : St) (a1 : Int32), Rel k σ → Safe ((f9_book σ a1).2) ∧ (f9_book σ a1).1 = (f10_book ((f9_book σ a1).2) a1).1 ∧ Rel (k + 1) ((f10_book ((f9_book σ a1).2) a1).2)) {X : CX} {Λ : LY} {b L : Nat} {sx : Nat → Int32} (hL : L ≤ 3072) (C : OK X Λ cL_law 4 RL 13 598) (hX : SCR X Λ b L sx) {n : Nat} (ih : ∀ (k : Nat) (σ : St) (i : Int32), Rel k σ → LI L i k n → VV X Λ 4 18 [(3, .int i), (2, .ref (adr Λ 37)), (1, .ref (adr Λ 0)), (0, .ref b)] [] σ) (k : Nat) (σ : St) (i : Int32) (hR : Rel k σ) (hsf : Safe σ) (hI : LI L i k (n + 1)) (h0 : 0 ≤ i.toInt) (h6 : i.toInt + 6 ≤ L) : VV X Λ 4 861 [(3, .int i), (2, .ref (adr Λ 37)), (1, .ref (adr Λ 0)), (0, .ref b)] [] σ := by
  refine v_aload_n (pc2 := 862) C 2 dL_law_861 rfl rfl ?_
  refine v_aload_n (pc2 := 863) C 3 dL_law_862 rfl rfl ?_
  refine v_iload_n (pc2 := 864) C 0 dL_law_863 rfl rfl ?_
  refine v_iconst (pc2 := 865) C dL_law_864 ki_1 rfl ?_
  refine v_iadd (pc2 := 866) C dL_law_865 rfl ?_
  refine v_sld (pc2 := 867) C hX (sc_in h0 h6 hL lit_1 (by decide)) dL_law_866 rfl ?_
  obtain ⟨hs1, hE, hR1⟩ := h_book k σ (sx (Int32.toNatClampNeg (i + (1 : Int32)))) hR
  refine v_cVl (pc2 := 870) C kc_L_109 (mX9_book (xl X) Λ _ _ ) (wd0 Λ _) rfl (by decide) rfl rfl (Nat.le_of_ble_eq_true rfl) dL_law_867 rfl ?_
  refine v_aload_n (pc2 := 871) C 1 dL_law_870 rfl rfl ?_
  refine v_aload_n (pc2 := 872) C 3 dL_law_871 rfl rfl ?_
  refine v_iload_n (pc2 := 873) C 0 dL_law_872 rfl rfl ?_
  refine v_iconst (pc2 := 874) C dL_law_873 ki_1 rfl ?_
  refine v_iadd (pc2 := 875) C dL_law_874 rfl ?_
  refine v_sld (pc2 := 876) C hX (sc_in h0 h6 hL lit_1 (by decide)) dL_law_875 rfl ?_
  refine v_cVl (pc2 := 879) C kc_L_112 (mX10_book (xl X) Λ _ _ ) (wd37 Λ _) rfl (by decide) rfl rfl (Nat.le_of_ble_eq_true rfl) dL_law_876 rfl ?_
  refine v_lceq (pc2 := 1094) (pc3 := 883) C dL_law_879 dL_law_880 rfl rfl (fun _ => ?_) (fun h => absurd hE h)
  refine v_iinc (pc2 := 1097) (lv2 := [(3, _), (2, _), (1, _), (0, _)]) C 0 dL_law_1094 rfl ki_6 (by decide) rfl rfl ?_
  refine v_goto (pc2 := 18) C dL_law_1097 rfl ?_
  exact ih (k + 1) _ _ hR1 (hI.step hL h6)
set_option maxHeartbeats 4000000 in
set_option maxRecDepth 100000 in
theorem law_c23 {Rel : Nat → St → Prop} (h_all : ∀ (k : Nat) (σ : St) (a1 : Int32), Rel k σ → Safe ((f9_all σ a1).2) ∧ (f9_all σ a1).1 = (f10_all ((f9_all σ a1).2) a1).1 ∧ Rel (k + 1) ((f10_all ((f9_all σ a1).2) a1).2)) {X : CX} {Λ : LY} {b L : Nat} {sx : Nat → Int32} (hL : L ≤ 3072) (C : OK X Λ cL_law 4 RL 13 598) (hX : SCR X Λ b L sx) {n : Nat} (ih : ∀ (k : Nat) (σ : St) (i : Int32), Rel k σ → LI L i k n → VV X Λ 4 18 [(3, .int i), (2, .ref (adr Λ 37)), (1, .ref (adr Λ 0)), (0, .ref b)] [] σ) (k : Nat) (σ : St) (i : Int32) (hR : Rel k σ) (hsf : Safe σ) (hI : LI L i k (n + 1)) (h0 : 0 ≤ i.toInt) (h6 : i.toInt + 6 ≤ L) : VV X Λ 4 885 [(3, .int i), (2, .ref (adr Λ 37)), (1, .ref (adr Λ 0)), (0, .ref b)] [] σ := by
  refine v_aload_n (pc2 := 886) C 2 dL_law_885 rfl rfl ?_
  refine v_aload_n (pc2 := 887) C 3 dL_law_886 rfl rfl ?_
  refine v_iload_n (pc2 := 888) C 0 dL_law_887 rfl rfl ?_
  refine v_iconst (pc2 := 889) C dL_law_888 ki_1 rfl ?_
  refine v_iadd (pc2 := 890) C dL_law_889 rfl ?_
  refine v_sld (pc2 := 891) C hX (sc_in h0 h6 hL lit_1 (by decide)) dL_law_890 rfl ?_
  obtain ⟨hs1, hE, hR1⟩ := h_all k σ (sx (Int32.toNatClampNeg (i + (1 : Int32)))) hR
  refine v_cVl (pc2 := 894) C kc_L_113 (mX9_all (xl X) Λ _ _ ) (wd0 Λ _) rfl (by decide) rfl rfl (Nat.le_of_ble_eq_true rfl) dL_law_891 rfl ?_
  refine v_aload_n (pc2 := 895) C 1 dL_law_894 rfl rfl ?_
  refine v_aload_n (pc2 := 896) C 3 dL_law_895 rfl rfl ?_
  refine v_iload_n (pc2 := 897) C 0 dL_law_896 rfl rfl ?_
  refine v_iconst (pc2 := 898) C dL_law_897 ki_1 rfl ?_
  refine v_iadd (pc2 := 899) C dL_law_898 rfl ?_
  refine v_sld (pc2 := 900) C hX (sc_in h0 h6 hL lit_1 (by decide)) dL_law_899 rfl ?_
  refine v_cVl (pc2 := 903) C kc_L_116 (mX10_all (xl X) Λ _ _ ) (wd37 Λ _) rfl (by decide) rfl rfl (Nat.le_of_ble_eq_true rfl) dL_law_900 rfl ?_
  refine v_lceq (pc2 := 1094) (pc3 := 907) C dL_law_903 dL_law_904 rfl rfl (fun _ => ?_) (fun h => absurd hE h)
  refine v_iinc (pc2 := 1097) (lv2 := [(3, _), (2, _), (1, _), (0, _)]) C 0 dL_law_1094 rfl ki_6 (by decide) rfl rfl ?_
  refine v_goto (pc2 := 18) C dL_law_1097 rfl ?_
  exact ih (k + 1) _ _ hR1 (hI.step hL h6)
set_option maxHeartbeats 4000000 in
set_option maxRecDepth 100000 in
theorem law_c24 {Rel : Nat → St → Prop} (h_next : ∀ (k : Nat) (σ : St), Rel k σ → Safe (σ) ∧ (f9_next σ) = (f10_next σ) ∧ Rel (k + 1) (σ)) {X : CX} {Λ : LY} {b L : Nat} {sx : Nat → Int32} (hL : L ≤ 3072) (C : OK X Λ cL_law 4 RL 13 598) (hX : SCR X Λ b L sx) {n : Nat} (ih : ∀ (k : Nat) (σ : St) (i : Int32), Rel k σ → LI L i k n → VV X Λ 4 18 [(3, .int i), (2, .ref (adr Λ 37)), (1, .ref (adr Λ 0)), (0, .ref b)] [] σ) (k : Nat) (σ : St) (i : Int32) (hR : Rel k σ) (hsf : Safe σ) (hI : LI L i k (n + 1)) (h0 : 0 ≤ i.toInt) (h6 : i.toInt + 6 ≤ L) : VV X Λ 4 909 [(3, .int i), (2, .ref (adr Λ 37)), (1, .ref (adr Λ 0)), (0, .ref b)] [] σ := by
  refine v_aload_n (pc2 := 910) C 2 dL_law_909 rfl rfl ?_
  obtain ⟨hs1, hE, hR1⟩ := h_next k σ  hR
  refine v_cVi (pc2 := 913) C kc_L_117 (mX9_next (xl X) Λ _  ) (wd0 Λ _) rfl (by decide) rfl rfl (Nat.le_of_ble_eq_true rfl) dL_law_910 rfl ?_
  refine v_aload_n (pc2 := 914) C 1 dL_law_913 rfl rfl ?_
  refine v_cVi (pc2 := 917) C kc_L_120 (mX10_next (xl X) Λ _  ) (wd37 Λ _) rfl (by decide) rfl rfl (Nat.le_of_ble_eq_true rfl) dL_law_914 rfl ?_
  refine v_icmpeq (pc2 := 1094) (pc3 := 920) C dL_law_917 rfl rfl (fun _ => ?_) (fun h => absurd hE h)
  refine v_iinc (pc2 := 1097) (lv2 := [(3, _), (2, _), (1, _), (0, _)]) C 0 dL_law_1094 rfl ki_6 (by decide) rfl rfl ?_
  refine v_goto (pc2 := 18) C dL_law_1097 rfl ?_
  exact ih (k + 1) _ _ hR1 (hI.step hL h6)
set_option maxHeartbeats 4000000 in
set_option maxRecDepth 100000 in
theorem law_c25 {Rel : Nat → St → Prop} (h_plan : ∀ (k : Nat) (σ : St) (a1 a2 : Int32), Rel k σ → Safe ((f9_plan σ a1 a2).2) ∧ (f9_plan σ a1 a2).1 = (f10_plan ((f9_plan σ a1 a2).2) a1 a2).1 ∧ Rel (k + 1) ((f10_plan ((f9_plan σ a1 a2).2) a1 a2).2)) {X : CX} {Λ : LY} {b L : Nat} {sx : Nat → Int32} (hL : L ≤ 3072) (C : OK X Λ cL_law 4 RL 13 598) (hX : SCR X Λ b L sx) {n : Nat} (ih : ∀ (k : Nat) (σ : St) (i : Int32), Rel k σ → LI L i k n → VV X Λ 4 18 [(3, .int i), (2, .ref (adr Λ 37)), (1, .ref (adr Λ 0)), (0, .ref b)] [] σ) (k : Nat) (σ : St) (i : Int32) (hR : Rel k σ) (hsf : Safe σ) (hI : LI L i k (n + 1)) (h0 : 0 ≤ i.toInt) (h6 : i.toInt + 6 ≤ L) : VV X Λ 4 922 [(3, .int i), (2, .ref (adr Λ 37)), (1, .ref (adr Λ 0)), (0, .ref b)] [] σ := by
  refine v_aload_n (pc2 := 923) C 2 dL_law_922 rfl rfl ?_
  refine v_aload_n (pc2 := 924) C 3 dL_law_923 rfl rfl ?_
  refine v_iload_n (pc2 := 925) C 0 dL_law_924 rfl rfl ?_
  refine v_iconst (pc2 := 926) C dL_law_925 ki_1 rfl ?_
  refine v_iadd (pc2 := 927) C dL_law_926 rfl ?_
  refine v_sld (pc2 := 928) C hX (sc_in h0 h6 hL lit_1 (by decide)) dL_law_927 rfl ?_
  refine v_aload_n (pc2 := 929) C 3 dL_law_928 rfl rfl ?_
  refine v_iload_n (pc2 := 930) C 0 dL_law_929 rfl rfl ?_
  refine v_iconst (pc2 := 931) C dL_law_930 ki_2 rfl ?_
  refine v_iadd (pc2 := 932) C dL_law_931 rfl ?_
  refine v_sld (pc2 := 933) C hX (sc_in h0 h6 hL lit_2 (by decide)) dL_law_932 rfl ?_
  obtain ⟨hs1, hE, hR1⟩ := h_plan k σ (sx (Int32.toNatClampNeg (i + (1 : Int32)))) (sx (Int32.toNatClampNeg (i + (2 : Int32)))) hR
  refine v_cVi (pc2 := 936) C kc_L_121 (mX9_plan (xl X) Λ _ _ _ hsf) (wd0 Λ _) rfl (by decide) rfl rfl (Nat.le_of_ble_eq_true rfl) dL_law_933 rfl ?_
  refine v_aload_n (pc2 := 937) C 1 dL_law_936 rfl rfl ?_
  refine v_aload_n (pc2 := 938) C 3 dL_law_937 rfl rfl ?_
  refine v_iload_n (pc2 := 939) C 0 dL_law_938 rfl rfl ?_
  refine v_iconst (pc2 := 940) C dL_law_939 ki_1 rfl ?_
  refine v_iadd (pc2 := 941) C dL_law_940 rfl ?_
  refine v_sld (pc2 := 942) C hX (sc_in h0 h6 hL lit_1 (by decide)) dL_law_941 rfl ?_
  refine v_aload_n (pc2 := 943) C 3 dL_law_942 rfl rfl ?_
  refine v_iload_n (pc2 := 944) C 0 dL_law_943 rfl rfl ?_
  refine v_iconst (pc2 := 945) C dL_law_944 ki_2 rfl ?_
  refine v_iadd (pc2 := 946) C dL_law_945 rfl ?_
  refine v_sld (pc2 := 947) C hX (sc_in h0 h6 hL lit_2 (by decide)) dL_law_946 rfl ?_
  refine v_cVi (pc2 := 950) C kc_L_124 (mX10_plan (xl X) Λ _ _ _ hs1) (wd37 Λ _) rfl (by decide) rfl rfl (Nat.le_of_ble_eq_true rfl) dL_law_947 rfl ?_
  refine v_icmpeq (pc2 := 1094) (pc3 := 953) C dL_law_950 rfl rfl (fun _ => ?_) (fun h => absurd hE h)
  refine v_iinc (pc2 := 1097) (lv2 := [(3, _), (2, _), (1, _), (0, _)]) C 0 dL_law_1094 rfl ki_6 (by decide) rfl rfl ?_
  refine v_goto (pc2 := 18) C dL_law_1097 rfl ?_
  exact ih (k + 1) _ _ hR1 (hI.step hL h6)
set_option maxHeartbeats 4000000 in
set_option maxRecDepth 100000 in
theorem law_c26 {Rel : Nat → St → Prop} (h_worth : ∀ (k : Nat) (σ : St) (a1 a2 : Int32), Rel k σ → Safe ((f9_worth σ a1 a2).2) ∧ (f9_worth σ a1 a2).1 = (f10_worth ((f9_worth σ a1 a2).2) a1 a2).1 ∧ Rel (k + 1) ((f10_worth ((f9_worth σ a1 a2).2) a1 a2).2)) {X : CX} {Λ : LY} {b L : Nat} {sx : Nat → Int32} (hL : L ≤ 3072) (C : OK X Λ cL_law 4 RL 13 598) (hX : SCR X Λ b L sx) {n : Nat} (ih : ∀ (k : Nat) (σ : St) (i : Int32), Rel k σ → LI L i k n → VV X Λ 4 18 [(3, .int i), (2, .ref (adr Λ 37)), (1, .ref (adr Λ 0)), (0, .ref b)] [] σ) (k : Nat) (σ : St) (i : Int32) (hR : Rel k σ) (hsf : Safe σ) (hI : LI L i k (n + 1)) (h0 : 0 ≤ i.toInt) (h6 : i.toInt + 6 ≤ L) : VV X Λ 4 955 [(3, .int i), (2, .ref (adr Λ 37)), (1, .ref (adr Λ 0)), (0, .ref b)] [] σ := by
  refine v_aload_n (pc2 := 956) C 2 dL_law_955 rfl rfl ?_
  refine v_aload_n (pc2 := 957) C 3 dL_law_956 rfl rfl ?_
  refine v_iload_n (pc2 := 958) C 0 dL_law_957 rfl rfl ?_
  refine v_iconst (pc2 := 959) C dL_law_958 ki_1 rfl ?_
  refine v_iadd (pc2 := 960) C dL_law_959 rfl ?_
  refine v_sld (pc2 := 961) C hX (sc_in h0 h6 hL lit_1 (by decide)) dL_law_960 rfl ?_
  refine v_aload_n (pc2 := 962) C 3 dL_law_961 rfl rfl ?_
  refine v_iload_n (pc2 := 963) C 0 dL_law_962 rfl rfl ?_
  refine v_iconst (pc2 := 964) C dL_law_963 ki_2 rfl ?_
  refine v_iadd (pc2 := 965) C dL_law_964 rfl ?_
  refine v_sld (pc2 := 966) C hX (sc_in h0 h6 hL lit_2 (by decide)) dL_law_965 rfl ?_
  obtain ⟨hs1, hE, hR1⟩ := h_worth k σ (sx (Int32.toNatClampNeg (i + (1 : Int32)))) (sx (Int32.toNatClampNeg (i + (2 : Int32)))) hR
  refine v_cVl (pc2 := 969) C kc_L_125 (mX9_worth (xl X) Λ _ _ _ hsf) (wd0 Λ _) rfl (by decide) rfl rfl (Nat.le_of_ble_eq_true rfl) dL_law_966 rfl ?_
  refine v_aload_n (pc2 := 970) C 1 dL_law_969 rfl rfl ?_
  refine v_aload_n (pc2 := 971) C 3 dL_law_970 rfl rfl ?_
  refine v_iload_n (pc2 := 972) C 0 dL_law_971 rfl rfl ?_
  refine v_iconst (pc2 := 973) C dL_law_972 ki_1 rfl ?_
  refine v_iadd (pc2 := 974) C dL_law_973 rfl ?_
  refine v_sld (pc2 := 975) C hX (sc_in h0 h6 hL lit_1 (by decide)) dL_law_974 rfl ?_
  refine v_aload_n (pc2 := 976) C 3 dL_law_975 rfl rfl ?_
  refine v_iload_n (pc2 := 977) C 0 dL_law_976 rfl rfl ?_
  refine v_iconst (pc2 := 978) C dL_law_977 ki_2 rfl ?_
  refine v_iadd (pc2 := 979) C dL_law_978 rfl ?_
  refine v_sld (pc2 := 980) C hX (sc_in h0 h6 hL lit_2 (by decide)) dL_law_979 rfl ?_
  refine v_cVl (pc2 := 983) C kc_L_128 (mX10_worth (xl X) Λ _ _ _ hs1) (wd37 Λ _) rfl (by decide) rfl rfl (Nat.le_of_ble_eq_true rfl) dL_law_980 rfl ?_
  refine v_lceq (pc2 := 1094) (pc3 := 987) C dL_law_983 dL_law_984 rfl rfl (fun _ => ?_) (fun h => absurd hE h)
  refine v_iinc (pc2 := 1097) (lv2 := [(3, _), (2, _), (1, _), (0, _)]) C 0 dL_law_1094 rfl ki_6 (by decide) rfl rfl ?_
  refine v_goto (pc2 := 18) C dL_law_1097 rfl ?_
  exact ih (k + 1) _ _ hR1 (hI.step hL h6)
set_option maxHeartbeats 4000000 in
set_option maxRecDepth 100000 in
theorem law_c27 {Rel : Nat → St → Prop} (h_wash : ∀ (k : Nat) (σ : St) (a1 : Int32), Rel k σ → Safe ((f9_wash σ a1).2) ∧ (f9_wash σ a1).1 = (f10_wash ((f9_wash σ a1).2) a1).1 ∧ Rel (k + 1) ((f10_wash ((f9_wash σ a1).2) a1).2)) {X : CX} {Λ : LY} {b L : Nat} {sx : Nat → Int32} (hL : L ≤ 3072) (C : OK X Λ cL_law 4 RL 13 598) (hX : SCR X Λ b L sx) {n : Nat} (ih : ∀ (k : Nat) (σ : St) (i : Int32), Rel k σ → LI L i k n → VV X Λ 4 18 [(3, .int i), (2, .ref (adr Λ 37)), (1, .ref (adr Λ 0)), (0, .ref b)] [] σ) (k : Nat) (σ : St) (i : Int32) (hR : Rel k σ) (hsf : Safe σ) (hI : LI L i k (n + 1)) (h0 : 0 ≤ i.toInt) (h6 : i.toInt + 6 ≤ L) : VV X Λ 4 989 [(3, .int i), (2, .ref (adr Λ 37)), (1, .ref (adr Λ 0)), (0, .ref b)] [] σ := by
  refine v_aload_n (pc2 := 990) C 2 dL_law_989 rfl rfl ?_
  refine v_aload_n (pc2 := 991) C 3 dL_law_990 rfl rfl ?_
  refine v_iload_n (pc2 := 992) C 0 dL_law_991 rfl rfl ?_
  refine v_iconst (pc2 := 993) C dL_law_992 ki_1 rfl ?_
  refine v_iadd (pc2 := 994) C dL_law_993 rfl ?_
  refine v_sld (pc2 := 995) C hX (sc_in h0 h6 hL lit_1 (by decide)) dL_law_994 rfl ?_
  obtain ⟨hs1, hE, hR1⟩ := h_wash k σ (sx (Int32.toNatClampNeg (i + (1 : Int32)))) hR
  refine v_cVi (pc2 := 998) C kc_L_129 (mX9_wash (xl X) Λ _ _ hsf) (wd0 Λ _) rfl (by decide) rfl rfl (Nat.le_of_ble_eq_true rfl) dL_law_995 rfl ?_
  refine v_aload_n (pc2 := 999) C 1 dL_law_998 rfl rfl ?_
  refine v_aload_n (pc2 := 1000) C 3 dL_law_999 rfl rfl ?_
  refine v_iload_n (pc2 := 1001) C 0 dL_law_1000 rfl rfl ?_
  refine v_iconst (pc2 := 1002) C dL_law_1001 ki_1 rfl ?_
  refine v_iadd (pc2 := 1003) C dL_law_1002 rfl ?_
  refine v_sld (pc2 := 1004) C hX (sc_in h0 h6 hL lit_1 (by decide)) dL_law_1003 rfl ?_
  refine v_cVi (pc2 := 1007) C kc_L_132 (mX10_wash (xl X) Λ _ _ hs1) (wd37 Λ _) rfl (by decide) rfl rfl (Nat.le_of_ble_eq_true rfl) dL_law_1004 rfl ?_
  refine v_icmpeq (pc2 := 1094) (pc3 := 1010) C dL_law_1007 rfl rfl (fun _ => ?_) (fun h => absurd hE h)
  refine v_iinc (pc2 := 1097) (lv2 := [(3, _), (2, _), (1, _), (0, _)]) C 0 dL_law_1094 rfl ki_6 (by decide) rfl rfl ?_
  refine v_goto (pc2 := 18) C dL_law_1097 rfl ?_
  exact ih (k + 1) _ _ hR1 (hI.step hL h6)
set_option maxHeartbeats 4000000 in
set_option maxRecDepth 100000 in
theorem law_c28 {Rel : Nat → St → Prop} (h_storm : ∀ (k : Nat) (σ : St) (a1 : Int32), Rel k σ → Safe ((f9_storm σ a1).2) ∧ (f9_storm σ a1).1 = (f10_storm ((f9_storm σ a1).2) a1).1 ∧ Rel (k + 1) ((f10_storm ((f9_storm σ a1).2) a1).2)) {X : CX} {Λ : LY} {b L : Nat} {sx : Nat → Int32} (hL : L ≤ 3072) (C : OK X Λ cL_law 4 RL 13 598) (hX : SCR X Λ b L sx) {n : Nat} (ih : ∀ (k : Nat) (σ : St) (i : Int32), Rel k σ → LI L i k n → VV X Λ 4 18 [(3, .int i), (2, .ref (adr Λ 37)), (1, .ref (adr Λ 0)), (0, .ref b)] [] σ) (k : Nat) (σ : St) (i : Int32) (hR : Rel k σ) (hsf : Safe σ) (hI : LI L i k (n + 1)) (h0 : 0 ≤ i.toInt) (h6 : i.toInt + 6 ≤ L) : VV X Λ 4 1012 [(3, .int i), (2, .ref (adr Λ 37)), (1, .ref (adr Λ 0)), (0, .ref b)] [] σ := by
  refine v_aload_n (pc2 := 1013) C 2 dL_law_1012 rfl rfl ?_
  refine v_aload_n (pc2 := 1014) C 3 dL_law_1013 rfl rfl ?_
  refine v_iload_n (pc2 := 1015) C 0 dL_law_1014 rfl rfl ?_
  refine v_iconst (pc2 := 1016) C dL_law_1015 ki_1 rfl ?_
  refine v_iadd (pc2 := 1017) C dL_law_1016 rfl ?_
  refine v_sld (pc2 := 1018) C hX (sc_in h0 h6 hL lit_1 (by decide)) dL_law_1017 rfl ?_
  obtain ⟨hs1, hE, hR1⟩ := h_storm k σ (sx (Int32.toNatClampNeg (i + (1 : Int32)))) hR
  refine v_cVi (pc2 := 1021) C kc_L_133 (mX9_storm (xl X) Λ _ _ hsf) (wd0 Λ _) rfl (by decide) rfl rfl (Nat.le_of_ble_eq_true rfl) dL_law_1018 rfl ?_
  refine v_aload_n (pc2 := 1022) C 1 dL_law_1021 rfl rfl ?_
  refine v_aload_n (pc2 := 1023) C 3 dL_law_1022 rfl rfl ?_
  refine v_iload_n (pc2 := 1024) C 0 dL_law_1023 rfl rfl ?_
  refine v_iconst (pc2 := 1025) C dL_law_1024 ki_1 rfl ?_
  refine v_iadd (pc2 := 1026) C dL_law_1025 rfl ?_
  refine v_sld (pc2 := 1027) C hX (sc_in h0 h6 hL lit_1 (by decide)) dL_law_1026 rfl ?_
  refine v_cVi (pc2 := 1030) C kc_L_136 (mX10_storm (xl X) Λ _ _ hs1) (wd37 Λ _) rfl (by decide) rfl rfl (Nat.le_of_ble_eq_true rfl) dL_law_1027 rfl ?_
  refine v_icmpeq (pc2 := 1094) (pc3 := 1033) C dL_law_1030 rfl rfl (fun _ => ?_) (fun h => absurd hE h)
  refine v_iinc (pc2 := 1097) (lv2 := [(3, _), (2, _), (1, _), (0, _)]) C 0 dL_law_1094 rfl ki_6 (by decide) rfl rfl ?_
  refine v_goto (pc2 := 18) C dL_law_1097 rfl ?_
  exact ih (k + 1) _ _ hR1 (hI.step hL h6)
set_option maxHeartbeats 4000000 in
set_option maxRecDepth 100000 in
theorem law_c29 {Rel : Nat → St → Prop} (h_tell : ∀ (k : Nat) (σ : St) (a1 : Int32), Rel k σ → Safe ((f9_tell σ a1).2) ∧ (f9_tell σ a1).1 = (f10_tell ((f9_tell σ a1).2) a1).1 ∧ Rel (k + 1) ((f10_tell ((f9_tell σ a1).2) a1).2)) {X : CX} {Λ : LY} {b L : Nat} {sx : Nat → Int32} (hL : L ≤ 3072) (C : OK X Λ cL_law 4 RL 13 598) (hX : SCR X Λ b L sx) {n : Nat} (ih : ∀ (k : Nat) (σ : St) (i : Int32), Rel k σ → LI L i k n → VV X Λ 4 18 [(3, .int i), (2, .ref (adr Λ 37)), (1, .ref (adr Λ 0)), (0, .ref b)] [] σ) (k : Nat) (σ : St) (i : Int32) (hR : Rel k σ) (hsf : Safe σ) (hI : LI L i k (n + 1)) (h0 : 0 ≤ i.toInt) (h6 : i.toInt + 6 ≤ L) : VV X Λ 4 1035 [(3, .int i), (2, .ref (adr Λ 37)), (1, .ref (adr Λ 0)), (0, .ref b)] [] σ := by
  refine v_aload_n (pc2 := 1036) C 2 dL_law_1035 rfl rfl ?_
  refine v_aload_n (pc2 := 1037) C 3 dL_law_1036 rfl rfl ?_
  refine v_iload_n (pc2 := 1038) C 0 dL_law_1037 rfl rfl ?_
  refine v_iconst (pc2 := 1039) C dL_law_1038 ki_1 rfl ?_
  refine v_iadd (pc2 := 1040) C dL_law_1039 rfl ?_
  refine v_sld (pc2 := 1041) C hX (sc_in h0 h6 hL lit_1 (by decide)) dL_law_1040 rfl ?_
  obtain ⟨hs1, hE, hR1⟩ := h_tell k σ (sx (Int32.toNatClampNeg (i + (1 : Int32)))) hR
  refine v_cVi (pc2 := 1044) C kc_L_137 (mX9_tell (xl X) Λ _ _ hsf) (wd0 Λ _) rfl (by decide) rfl rfl (Nat.le_of_ble_eq_true rfl) dL_law_1041 rfl ?_
  refine v_aload_n (pc2 := 1045) C 1 dL_law_1044 rfl rfl ?_
  refine v_aload_n (pc2 := 1046) C 3 dL_law_1045 rfl rfl ?_
  refine v_iload_n (pc2 := 1047) C 0 dL_law_1046 rfl rfl ?_
  refine v_iconst (pc2 := 1048) C dL_law_1047 ki_1 rfl ?_
  refine v_iadd (pc2 := 1049) C dL_law_1048 rfl ?_
  refine v_sld (pc2 := 1050) C hX (sc_in h0 h6 hL lit_1 (by decide)) dL_law_1049 rfl ?_
  refine v_cVi (pc2 := 1053) C kc_L_140 (mX10_tell (xl X) Λ _ _ hs1) (wd37 Λ _) rfl (by decide) rfl rfl (Nat.le_of_ble_eq_true rfl) dL_law_1050 rfl ?_
  refine v_icmpeq (pc2 := 1094) (pc3 := 1056) C dL_law_1053 rfl rfl (fun _ => ?_) (fun h => absurd hE h)
  refine v_iinc (pc2 := 1097) (lv2 := [(3, _), (2, _), (1, _), (0, _)]) C 0 dL_law_1094 rfl ki_6 (by decide) rfl rfl ?_
  refine v_goto (pc2 := 18) C dL_law_1097 rfl ?_
  exact ih (k + 1) _ _ hR1 (hI.step hL h6)
set_option maxHeartbeats 4000000 in
set_option maxRecDepth 100000 in
theorem law_c30 {Rel : Nat → St → Prop} (h_check : ∀ (k : Nat) (σ : St), Rel k σ → Safe ((f9_check σ).2) ∧ (f9_check σ).1 = (f10_check ((f9_check σ).2)).1 ∧ Rel (k + 1) ((f10_check ((f9_check σ).2)).2)) {X : CX} {Λ : LY} {b L : Nat} {sx : Nat → Int32} (hL : L ≤ 3072) (C : OK X Λ cL_law 4 RL 13 598) (hX : SCR X Λ b L sx) {n : Nat} (ih : ∀ (k : Nat) (σ : St) (i : Int32), Rel k σ → LI L i k n → VV X Λ 4 18 [(3, .int i), (2, .ref (adr Λ 37)), (1, .ref (adr Λ 0)), (0, .ref b)] [] σ) (k : Nat) (σ : St) (i : Int32) (hR : Rel k σ) (hsf : Safe σ) (hI : LI L i k (n + 1)) (h0 : 0 ≤ i.toInt) (h6 : i.toInt + 6 ≤ L) : VV X Λ 4 1058 [(3, .int i), (2, .ref (adr Λ 37)), (1, .ref (adr Λ 0)), (0, .ref b)] [] σ := by
  refine v_aload_n (pc2 := 1059) C 2 dL_law_1058 rfl rfl ?_
  obtain ⟨hs1, hE, hR1⟩ := h_check k σ  hR
  refine v_cVi (pc2 := 1062) C kc_L_141 (mX9_check (xl X) Λ _  ) (wd0 Λ _) rfl (by decide) rfl rfl (Nat.le_of_ble_eq_true rfl) dL_law_1059 rfl ?_
  refine v_aload_n (pc2 := 1063) C 1 dL_law_1062 rfl rfl ?_
  refine v_cVi (pc2 := 1066) C kc_L_144 (mX10_check (xl X) Λ _  ) (wd37 Λ _) rfl (by decide) rfl rfl (Nat.le_of_ble_eq_true rfl) dL_law_1063 rfl ?_
  refine v_icmpeq (pc2 := 1094) (pc3 := 1069) C dL_law_1066 rfl rfl (fun _ => ?_) (fun h => absurd hE h)
  refine v_iinc (pc2 := 1097) (lv2 := [(3, _), (2, _), (1, _), (0, _)]) C 0 dL_law_1094 rfl ki_6 (by decide) rfl rfl ?_
  refine v_goto (pc2 := 18) C dL_law_1097 rfl ?_
  exact ih (k + 1) _ _ hR1 (hI.step hL h6)
set_option maxHeartbeats 4000000 in
set_option maxRecDepth 100000 in
theorem law_c31 {Rel : Nat → St → Prop} (h_found : ∀ (k : Nat) (σ : St) (a1 : Int32), Rel k σ → Safe ((f9_found σ a1).2) ∧ (f9_found σ a1).1 = (f10_found ((f9_found σ a1).2) a1).1 ∧ Rel (k + 1) ((f10_found ((f9_found σ a1).2) a1).2)) {X : CX} {Λ : LY} {b L : Nat} {sx : Nat → Int32} (hL : L ≤ 3072) (C : OK X Λ cL_law 4 RL 13 598) (hX : SCR X Λ b L sx) {n : Nat} (ih : ∀ (k : Nat) (σ : St) (i : Int32), Rel k σ → LI L i k n → VV X Λ 4 18 [(3, .int i), (2, .ref (adr Λ 37)), (1, .ref (adr Λ 0)), (0, .ref b)] [] σ) (k : Nat) (σ : St) (i : Int32) (hR : Rel k σ) (hsf : Safe σ) (hI : LI L i k (n + 1)) (h0 : 0 ≤ i.toInt) (h6 : i.toInt + 6 ≤ L) : VV X Λ 4 1071 [(3, .int i), (2, .ref (adr Λ 37)), (1, .ref (adr Λ 0)), (0, .ref b)] [] σ := by
  refine v_aload_n (pc2 := 1072) C 2 dL_law_1071 rfl rfl ?_
  refine v_aload_n (pc2 := 1073) C 3 dL_law_1072 rfl rfl ?_
  refine v_iload_n (pc2 := 1074) C 0 dL_law_1073 rfl rfl ?_
  refine v_iconst (pc2 := 1075) C dL_law_1074 ki_1 rfl ?_
  refine v_iadd (pc2 := 1076) C dL_law_1075 rfl ?_
  refine v_sld (pc2 := 1077) C hX (sc_in h0 h6 hL lit_1 (by decide)) dL_law_1076 rfl ?_
  obtain ⟨hs1, hE, hR1⟩ := h_found k σ (sx (Int32.toNatClampNeg (i + (1 : Int32)))) hR
  refine v_cVi (pc2 := 1080) C kc_L_145 (mX9_found (xl X) Λ _ _ ) (wd0 Λ _) rfl (by decide) rfl rfl (Nat.le_of_ble_eq_true rfl) dL_law_1077 rfl ?_
  refine v_aload_n (pc2 := 1081) C 1 dL_law_1080 rfl rfl ?_
  refine v_aload_n (pc2 := 1082) C 3 dL_law_1081 rfl rfl ?_
  refine v_iload_n (pc2 := 1083) C 0 dL_law_1082 rfl rfl ?_
  refine v_iconst (pc2 := 1084) C dL_law_1083 ki_1 rfl ?_
  refine v_iadd (pc2 := 1085) C dL_law_1084 rfl ?_
  refine v_sld (pc2 := 1086) C hX (sc_in h0 h6 hL lit_1 (by decide)) dL_law_1085 rfl ?_
  refine v_cVi (pc2 := 1089) C kc_L_148 (mX10_found (xl X) Λ _ _ ) (wd37 Λ _) rfl (by decide) rfl rfl (Nat.le_of_ble_eq_true rfl) dL_law_1086 rfl ?_
  refine v_icmpeq (pc2 := 1094) (pc3 := 1092) C dL_law_1089 rfl rfl (fun _ => ?_) (fun h => absurd hE h)
  refine v_iinc (pc2 := 1097) (lv2 := [(3, _), (2, _), (1, _), (0, _)]) C 0 dL_law_1094 rfl ki_6 (by decide) rfl rfl ?_
  refine v_goto (pc2 := 18) C dL_law_1097 rfl ?_
  exact ih (k + 1) _ _ hR1 (hI.step hL h6)
set_option maxHeartbeats 4000000 in
set_option maxRecDepth 100000 in
theorem law_loop {Rel : Nat → St → Prop} (HP : PU Rel) {X : CX} {Λ : LY} {b L : Nat} {sx : Nat → Int32} (hL : L ≤ 3072) (C : OK X Λ cL_law 4 RL 13 598) (hX : SCR X Λ b L sx) (hr : (xh X).sig.returnType = ret) (hRm : xR X = room_1) (ha : xa X = #[Value.ref b]) (hQ : xQ X = lw_Z (xb X) #[Value.ref b] (xs X)) (hz0 : s0 Λ = (xs X).heap.size) (hn : xn X ≤ 600000) (hk : xk X ≤ 7302250) : ∀ (n k : Nat) (σ : St) (i : Int32), Rel k σ → LI L i k n → VV X Λ 4 18 [(3, .int i), (2, .ref (adr Λ 37)), (1, .ref (adr Λ 0)), (0, .ref b)] [] σ := by
  obtain ⟨hSafe, h_row, h_drop, h_about, h_as, h_turn, h_dust, h_sun, h_suns, h_ideal, h_back, h_breadth, h_shade, h_dark, h_string, h_ceiling, h_current, h_gives, h_wind, h_limit, h_cleaning, h_hour, h_hours, h_book, h_all, h_next, h_plan, h_worth, h_wash, h_storm, h_tell, h_check, h_found⟩ := HP
  intro n
  induction n with
  | zero => intro k σ i hR hI; exact absurd hI (fun h => h.z hL)
  | succ n ih =>
    intro k σ i hR hI
    have hsf := hSafe k σ hR
    have h0 : 0 ≤ i.toInt := by have := hI.1; omega
    refine v_iload_n (pc2 := 19) C 0 dL_law_18 rfl rfl ?_
    refine v_aload_n (pc2 := 20) C 3 dL_law_19 rfl rfl ?_
    refine v_slen (pc2 := 21) C hX dL_law_20 rfl ?_
    refine v_bipush (pc2 := 23) C dL_law_21 kb_6 rfl ?_
    refine v_isub (pc2 := 24) C dL_law_23 rfl ?_
    refine v_icmpgt (pc2 := 1100) (pc3 := 27) C dL_law_24 rfl rfl (fun h => ?_) (fun h => ?_)
    · refine v_iconst (pc2 := 1101) C dL_law_1100 ki_1 rfl ?_
      exact v_lawret C hr hRm ha hQ hz0 hn hk dL_law_1101
    · have h6 := sc_le hL h
      refine v_aload_n (pc2 := 28) C 3 dL_law_27 rfl rfl ?_
      refine v_iload_n (pc2 := 29) C 0 dL_law_28 rfl rfl ?_
      refine v_sld (pc2 := 30) C hX (sc_in0 h0 h6) dL_law_29 rfl ?_
      refine v_bipush (pc2 := 32) C dL_law_30 kb_31 rfl ?_
      refine v_iand (pc2 := 33) C dL_law_32 rfl ?_
      obtain ⟨jj, hjj, ejj⟩ := and31 (sx (Int32.toNatClampNeg i))
      rcases (show jj = 0 ∨ jj = 1 ∨ jj = 2 ∨ jj = 3 ∨ jj = 4 ∨ jj = 5 ∨ jj = 6 ∨ jj = 7 ∨ jj = 8 ∨ jj = 9 ∨ jj = 10 ∨ jj = 11 ∨ jj = 12 ∨ jj = 13 ∨ jj = 14 ∨ jj = 15 ∨ jj = 16 ∨ jj = 17 ∨ jj = 18 ∨ jj = 19 ∨ jj = 20 ∨ jj = 21 ∨ jj = 22 ∨ jj = 23 ∨ jj = 24 ∨ jj = 25 ∨ jj = 26 ∨ jj = 27 ∨ jj = 28 ∨ jj = 29 ∨ jj = 30 ∨ jj = 31 by omega) with rfl | rfl | rfl | rfl | rfl | rfl | rfl | rfl | rfl | rfl | rfl | rfl | rfl | rfl | rfl | rfl | rfl | rfl | rfl | rfl | rfl | rfl | rfl | rfl | rfl | rfl | rfl | rfl | rfl | rfl | rfl | rfl
      · refine v_tabI (pc2 := 176) (j := 0) C dL_law_33 ejj (by decide +kernel) (by decide) rfl rfl ?_
        exact law_c0 h_row hL C hX ih k σ i hR hsf hI h0 h6
      · refine v_tabI (pc2 := 239) (j := 1) C dL_law_33 ejj (by decide +kernel) (by decide) rfl rfl ?_
        exact law_c1 h_drop hL C hX ih k σ i hR hsf hI h0 h6
      · refine v_tabI (pc2 := 252) (j := 2) C dL_law_33 ejj (by decide +kernel) (by decide) rfl rfl ?_
        exact law_c2 h_about hL C hX ih k σ i hR hsf hI h0 h6
      · refine v_tabI (pc2 := 285) (j := 3) C dL_law_33 ejj (by decide +kernel) (by decide) rfl rfl ?_
        exact law_c3 h_as hL C hX ih k σ i hR hsf hI h0 h6
      · refine v_tabI (pc2 := 318) (j := 4) C dL_law_33 ejj (by decide +kernel) (by decide) rfl rfl ?_
        exact law_c4 h_turn hL C hX ih k σ i hR hsf hI h0 h6
      · refine v_tabI (pc2 := 351) (j := 5) C dL_law_33 ejj (by decide +kernel) (by decide) rfl rfl ?_
        exact law_c5 h_dust hL C hX ih k σ i hR hsf hI h0 h6
      · refine v_tabI (pc2 := 384) (j := 6) C dL_law_33 ejj (by decide +kernel) (by decide) rfl rfl ?_
        exact law_c6 h_sun hL C hX ih k σ i hR hsf hI h0 h6
      · refine v_tabI (pc2 := 427) (j := 7) C dL_law_33 ejj (by decide +kernel) (by decide) rfl rfl ?_
        exact law_c7 h_suns hL C hX ih k σ i hR hsf hI h0 h6
      · refine v_tabI (pc2 := 440) (j := 8) C dL_law_33 ejj (by decide +kernel) (by decide) rfl rfl ?_
        exact law_c8 h_ideal hL C hX ih k σ i hR hsf hI h0 h6
      · refine v_tabI (pc2 := 463) (j := 9) C dL_law_33 ejj (by decide +kernel) (by decide) rfl rfl ?_
        exact law_c9 h_back hL C hX ih k σ i hR hsf hI h0 h6
      · refine v_tabI (pc2 := 486) (j := 10) C dL_law_33 ejj (by decide +kernel) (by decide) rfl rfl ?_
        exact law_c10 h_breadth hL C hX ih k σ i hR hsf hI h0 h6
      · refine v_tabI (pc2 := 520) (j := 11) C dL_law_33 ejj (by decide +kernel) (by decide) rfl rfl ?_
        exact law_c11 h_shade hL C hX ih k σ i hR hsf hI h0 h6
      · refine v_tabI (pc2 := 554) (j := 12) C dL_law_33 ejj (by decide +kernel) (by decide) rfl rfl ?_
        exact law_c12 h_dark hL C hX ih k σ i hR hsf hI h0 h6
      · refine v_tabI (pc2 := 587) (j := 13) C dL_law_33 ejj (by decide +kernel) (by decide) rfl rfl ?_
        exact law_c13 h_string hL C hX ih k σ i hR hsf hI h0 h6
      · refine v_tabI (pc2 := 620) (j := 14) C dL_law_33 ejj (by decide +kernel) (by decide) rfl rfl ?_
        exact law_c14 h_ceiling hL C hX ih k σ i hR hsf hI h0 h6
      · refine v_tabI (pc2 := 653) (j := 15) C dL_law_33 ejj (by decide +kernel) (by decide) rfl rfl ?_
        exact law_c15 h_current hL C hX ih k σ i hR hsf hI h0 h6
      · refine v_tabI (pc2 := 686) (j := 16) C dL_law_33 ejj (by decide +kernel) (by decide) rfl rfl ?_
        exact law_c16 h_gives hL C hX ih k σ i hR hsf hI h0 h6
      · refine v_tabI (pc2 := 719) (j := 17) C dL_law_33 ejj (by decide +kernel) (by decide) rfl rfl ?_
        exact law_c17 h_wind hL C hX ih k σ i hR hsf hI h0 h6
      · refine v_tabI (pc2 := 752) (j := 18) C dL_law_33 ejj (by decide +kernel) (by decide) rfl rfl ?_
        exact law_c18 h_limit hL C hX ih k σ i hR hsf hI h0 h6
      · refine v_tabI (pc2 := 775) (j := 19) C dL_law_33 ejj (by decide +kernel) (by decide) rfl rfl ?_
        exact law_c19 h_cleaning hL C hX ih k σ i hR hsf hI h0 h6
      · refine v_tabI (pc2 := 824) (j := 20) C dL_law_33 ejj (by decide +kernel) (by decide) rfl rfl ?_
        exact law_c20 h_hour hL C hX ih k σ i hR hsf hI h0 h6
      · refine v_tabI (pc2 := 837) (j := 21) C dL_law_33 ejj (by decide +kernel) (by decide) rfl rfl ?_
        exact law_c21 h_hours hL C hX ih k σ i hR hsf hI h0 h6
      · refine v_tabI (pc2 := 861) (j := 22) C dL_law_33 ejj (by decide +kernel) (by decide) rfl rfl ?_
        exact law_c22 h_book hL C hX ih k σ i hR hsf hI h0 h6
      · refine v_tabI (pc2 := 885) (j := 23) C dL_law_33 ejj (by decide +kernel) (by decide) rfl rfl ?_
        exact law_c23 h_all hL C hX ih k σ i hR hsf hI h0 h6
      · refine v_tabI (pc2 := 909) (j := 24) C dL_law_33 ejj (by decide +kernel) (by decide) rfl rfl ?_
        exact law_c24 h_next hL C hX ih k σ i hR hsf hI h0 h6
      · refine v_tabI (pc2 := 922) (j := 25) C dL_law_33 ejj (by decide +kernel) (by decide) rfl rfl ?_
        exact law_c25 h_plan hL C hX ih k σ i hR hsf hI h0 h6
      · refine v_tabI (pc2 := 955) (j := 26) C dL_law_33 ejj (by decide +kernel) (by decide) rfl rfl ?_
        exact law_c26 h_worth hL C hX ih k σ i hR hsf hI h0 h6
      · refine v_tabI (pc2 := 989) (j := 27) C dL_law_33 ejj (by decide +kernel) (by decide) rfl rfl ?_
        exact law_c27 h_wash hL C hX ih k σ i hR hsf hI h0 h6
      · refine v_tabI (pc2 := 1012) (j := 28) C dL_law_33 ejj (by decide +kernel) (by decide) rfl rfl ?_
        exact law_c28 h_storm hL C hX ih k σ i hR hsf hI h0 h6
      · refine v_tabI (pc2 := 1035) (j := 29) C dL_law_33 ejj (by decide +kernel) (by decide) rfl rfl ?_
        exact law_c29 h_tell hL C hX ih k σ i hR hsf hI h0 h6
      · refine v_tabI (pc2 := 1058) (j := 30) C dL_law_33 ejj (by decide +kernel) (by decide) rfl rfl ?_
        exact law_c30 h_check hL C hX ih k σ i hR hsf hI h0 h6
      · refine v_tabI (pc2 := 1071) (j := 31) C dL_law_33 ejj (by decide +kernel) (by decide) rfl rfl ?_
        exact law_c31 h_found hL C hX ih k σ i hR hsf hI h0 h6
