theorem or_tw (b w : Int32) : (b ||| w) ||| w = b ||| w := by rw [Int32.or_assoc, Int32.or_self]
theorem darkI (σ : St) (q : Int32) (bg sp : Int64) (hc : (gI σ 13).toInt ≤ 10) : ∀ (n : Nat) (b : Int32) (j : Int32), 0 ≤ j.toInt → (gI σ 13).toInt < j.toInt + n →
    ((∃ i : Nat, j.toInt ≤ i ∧ (i : Int) < (gI σ 13).toInt ∧ ¬ sp ≤ 3 * gB σ 6 i ∧ ¬ 3 * gB σ 7 i ≤ bg) → f2_darkGroups_I σ q bg sp n b j = b ||| ((1 : Int32) <<< (q &&& 31))) ∧
    ((¬ ∃ i : Nat, j.toInt ≤ i ∧ (i : Int) < (gI σ 13).toInt ∧ ¬ sp ≤ 3 * gB σ 6 i ∧ ¬ 3 * gB σ 7 i ≤ bg) → f2_darkGroups_I σ q bg sp n b j = b)
  | 0, b, j, h0, hf => ⟨fun ⟨i, i1, i2, _⟩ => by omega, fun h => by
      exfalso
      exact absurd hf (by
        intro hf
        sorry)⟩
  | n + 1, b, j, h0, hf => by
    sorry
