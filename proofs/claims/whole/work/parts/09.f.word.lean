section Hf
variable {tl : Nat} {κ μ : Sg}
/-! a word is read; the reference packs its first nine letters -/
def wdv (f : Nat → Int32) (s : Nat) : Nat → Int64
  | 0 => 0
  | q + 1 => ((27 * wdv f s q) + ((f (s + q) : Int32).toInt64)) - 96
theorem word_it (N : Nat) (s : Nat) : ∀ (k q n n' : Nat) (κ μ : Sg), s + q + k = tl → TX tl κ μ → κ 10 0 = nI (s + q) → μ 7 0 = nI (s + q) → μ 10 0 = nI q → k < n → k < n' →
    ∃ q' κ' μ', q ≤ q' ∧ s + q' ≤ tl ∧ f_X5_readWord_0 N n κ = some κ' ∧ f_X9_nextToken_96 N n' μ (wdv (κ 61) s (min q 9)) = some (μ', wdv (κ 61) s (min q' 9)) ∧ TX tl κ' μ' ∧ κ' 10 0 = nI (s + q') ∧ μ' 7 0 = nI (s + q') ∧ μ' 10 0 = nI q' ∧ (∀ i, q ≤ i → i < q' → lB (κ 61 (s + i)) = 1) ∧ (∀ r, r ≠ 10 → κ' r = κ r) ∧ (∀ r, r ≠ 7 → r ≠ 10 → μ' r = μ r)
  | 0, q, n, n', κ, μ, hk, X, h10, h7, hq, hn, hn' => by
    obtain ⟨m, rfl⟩ : ∃ q, n = q + 1 := ⟨n - 1, by omega⟩
    obtain ⟨m', rfl⟩ : ∃ q, n' = q + 1 := ⟨n' - 1, by omega⟩
    have t4 := X.1
    have e : s + q = tl := by omega
    refine ⟨q, κ, μ, Nat.le_refl _, by omega, ?_, ?_, X, h10, h7, hq, fun i h1 h2 => by omega, fun _ _ => rfl, fun _ _ _ => rfl⟩
    · rw [f_X5_readWord_0, X.2.1, h10, if_pos (nI_le' (by omega) (by omega))]
    · rw [f_X9_nextToken_96, h7, e, m_e X, Option.bind_some, m_l, Option.bind_some, show lB (-1) = 0 from by decide, if_pos rfl]
  | k + 1, q, n, n', κ, μ, hk, X, h10, h7, hq, hn, hn' => by
    obtain ⟨m, rfl⟩ : ∃ q, n = q + 1 := ⟨n - 1, by omega⟩
    obtain ⟨m', rfl⟩ : ∃ q, n' = q + 1 := ⟨n' - 1, by omega⟩
    have t4 := X.1
    have b := X.2.2.2 (s + q) (by omega)
    rw [f_X5_readWord_0, X.2.1, h10, if_neg (nI_ge' (by omega) (by omega)), if_pos (ib_nI (by omega) (by decide)), ix_nI (by omega), cl_l, Option.bind_some, f_X9_nextToken_96, h7, m_b X (by omega), Option.bind_some, m_l, Option.bind_some, b.l]
    rcases lB_01 (κ 61 (s + q)) with z | z
    · rw [z, if_pos rfl, if_pos rfl]
      exact ⟨q, κ, μ, Nat.le_refl _, by omega, rfl, rfl, X, h10, h7, hq, fun i h1 h2 => by omega, fun _ _ => rfl, fun _ _ _ => rfl⟩
    · rw [z, if_neg (c := (1 : Int32) = 0) (by decide), if_neg (c := (1 : Int32) = 0) (by decide), Option.bind_some, nI_1, hq, nI_1]
      have hd : 97 ≤ (κ 61 (s + q)).toInt ∧ (κ 61 (s + q)).toInt ≤ 122 := by
        unfold lB at z
        split at z
        · assumption
        · exact absurd z (by decide)
      have e : μ 5 (s + q) = κ 61 (s + q) := by
        rcases b with b | b
        · exact b.1.symm
        · omega
      have k61 : (up κ 10 0 (nI (s + q + 1))) 61 = κ 61 := up_row (by decide)
      have nx : (if (9 : Int32) ≤ nI q then f_X9_nextToken_96 N m' (up (up μ 10 0 (nI (q + 1))) 7 0 (nI (s + q + 1))) (wdv (κ 61) s (min q 9)) else f_X9_nextToken_96 N m' (up (up μ 10 0 (nI (q + 1))) 7 0 (nI (s + q + 1))) (((27 * wdv (κ 61) s (min q 9)) + ((μ 5 (s + q) : Int32).toInt64)) - 96)) = f_X9_nextToken_96 N m' (up (up μ 10 0 (nI (q + 1))) 7 0 (nI (s + q + 1))) (wdv (κ 61) s (min (q + 1) 9)) := by
        rcases Nat.lt_or_ge q 9 with y | y
        · rw [if_neg (show ¬ (9 : Int32) ≤ nI q from nI_ge' (b := 9) y (by decide)), e, show min q 9 = q from by omega, show min (q + 1) 9 = q + 1 from by omega]
          rfl
        · rw [if_pos (show (9 : Int32) ≤ nI q from nI_le' (a := 9) y (by omega)), show min q 9 = 9 from by omega, show min (q + 1) 9 = 9 from by omega]
      rw [nx]
      obtain ⟨q', κ', μ', a1, a2, a3, a4, a5, a6, a7, a8, a9, a10, a11⟩ := word_it N s k (q + 1) m m' (up κ 10 0 (nI (s + q + 1))) (up (up μ 10 0 (nI (q + 1))) 7 0 (nI (s + q + 1))) (by omega) (X.ex (up_row (by decide)) (up_row (by decide)) (by rw [up_row (by decide), up_row (by decide)]) (by rw [up_row (by decide), up_row (by decide)])) (up_same _ _ _ _) (up_same _ _ _ _) (by rw [up_row (by decide), up_same]) (by omega) (by omega)
      rw [k61] at a4 a9
      refine ⟨q', κ', μ', by omega, a2, a3, a4, a5, a6, a7, a8, fun i h1 h2 => ?_, fun r r1 => by rw [a10 r r1, up_row r1], fun r r1 r2 => by rw [a11 r r1 r2, up_row r1, up_row r2]⟩
      by_cases y : i = q
      · rw [y]
        exact z
      · exact a9 i (by omega) h2
end Hf
