section Ha
variable {tl : Nat} {κ μ : Sg}
/-! the script's text on both sides -/
/-- a byte, with its sign in the class and without in the reference -/
def BR (c m : Int32) : Prop := (c = m ∧ 0 ≤ c.toInt ∧ c.toInt ≤ 127) ∨ (c.toInt < 0 ∧ 128 ≤ m.toInt ∧ m.toInt ≤ 255)
theorem br_v (y : Int32) : BR (vp_nar .byte (y.toInt8.toInt32)) (y &&& 255) := by
  have h1 : vp_nar .byte (y.toInt8.toInt32) = y.toInt8.toInt32 := by
    show (y.toInt8.toInt32).toInt8.toInt32 = y.toInt8.toInt32
    rw [Int8.toInt8_toInt32]
  have h2 : (y.toInt8.toInt32).toInt = y.toInt.bmod 256 := by
    rw [Int8.toInt_toInt32, Int32.toInt_toInt8]
  have h3 : (y &&& 255).toInt = y.toInt % 256 := by
    have e : (y &&& 255).toBitVec.toNat = y.toBitVec.toNat % 256 := by
      rw [Int32.toBitVec_and, BitVec.toNat_and]
      exact Nat.and_two_pow_sub_one_eq_mod _ 8
    have a1 : (y &&& 255).toInt = (y &&& 255).toBitVec.toInt := rfl
    have a2 : y.toInt = y.toBitVec.toInt := rfl
    have lt := y.toBitVec.isLt
    rw [a1, a2, BitVec.toInt_eq_toNat_cond, BitVec.toInt_eq_toNat_cond, e]
    split <;> split <;> omega
  unfold BR
  rw [h1, z_eq, h2, h3]
  have := Int.emod_nonneg y.toInt (b := 256) (by decide)
  have := Int.emod_lt_of_pos y.toInt (b := 256) (by decide)
  rw [Int.bmod_def]
  split <;> omega
/-- the text -/
def TX (tl : Nat) (κ μ : Sg) : Prop := tl ≤ 400 ∧ κ 1 0 = nI tl ∧ μ 6 0 = nI tl ∧ ∀ i, i < tl → BR (κ 61 i) (μ 5 i)
def qS (k : Nat) : Int32 := if k = 0 then -8 else nI (8 * (k - 1))
theorem TX.push (h : TX tl κ μ) (h4 : tl < 400) {v w : Int32} (b : BR v w) : TX (tl + 1) (up (up κ 61 tl v) 1 0 (nI (tl + 1))) (up (up μ 5 tl w) 6 0 (nI (tl + 1))) := by
  refine ⟨h4, up_same _ _ _ _, up_same _ _ _ _, fun i hi => ?_⟩
  simp only [up_ite]
  by_cases e : i = tl
  · simp [e]
    exact b
  · simp [e]
    exact h.2.2.2 i (by omega)
theorem ap_it (x : Int32) (wd : Int64) (N : Nat) : ∀ (k tl n n' : Nat) (κ μ : Sg), k ≤ 4 → tl + k ≤ 400 → TX tl κ μ → k < n → k < n' →
    ∃ κ' μ', f_X5_append_15 N n x (qS k) κ = some (1, κ') ∧ f_X9_appendText_18 N n' x (qS k) μ wd = some (nI (tl + k), μ') ∧ TX (tl + k) κ' μ' ∧ (∀ r, r ≠ 1 → r ≠ 61 → κ' r = κ r) ∧ (∀ r, r ≠ 5 → r ≠ 6 → μ' r = μ r)
  | 0, tl, n, n', κ, μ, h4, ht, X, hn, hn' => by
    obtain ⟨m, rfl⟩ : ∃ q, n = q + 1 := ⟨n - 1, by omega⟩
    obtain ⟨m', rfl⟩ : ∃ q, n' = q + 1 := ⟨n' - 1, by omega⟩
    refine ⟨κ, μ, ?_, ?_, X, fun _ _ _ => rfl, fun _ _ _ => rfl⟩
    · rw [f_X5_append_15, if_pos (by decide)]
    · rw [f_X9_appendText_18, if_pos (by decide), X.2.2.1]
      rfl
  | k + 1, tl, n, n', κ, μ, h4, ht, X, hn, hn' => by
    obtain ⟨m, rfl⟩ : ∃ q, n = q + 1 := ⟨n - 1, by omega⟩
    obtain ⟨m', rfl⟩ : ∃ q, n' = q + 1 := ⟨n' - 1, by omega⟩
    have q0 : ¬ qS (k + 1) < 0 := by
      have : k = 0 ∨ k = 1 ∨ k = 2 ∨ k = 3 := by omega
      rcases this with rfl | rfl | rfl | rfl <;> decide
    have q1 : qS (k + 1) + (-8) = qS k := by
      have : k = 0 ∨ k = 1 ∨ k = 2 ∨ k = 3 := by omega
      rcases this with rfl | rfl | rfl | rfl <;> decide
    obtain ⟨κ', μ', a1, a2, a3, a4, a5⟩ := ap_it x wd N k (tl + 1) m m' _ _ (by omega) (by omega) (X.push (by omega) (br_v (x >>> (qS (k + 1) &&& 31)))) (by omega) (by omega)
    refine ⟨κ', μ', ?_, ?_, by rw [show tl + (k + 1) = tl + 1 + k from by omega]; exact a3, fun r r1 r2 => ?_, fun r r1 r2 => ?_⟩
    · rw [f_X5_append_15, if_neg q0, X.2.1, if_pos (ib_nI (by omega) (by decide)), ix_nI (by omega), q1, nI_1]
      exact a1
    · rw [f_X9_appendText_18, if_neg q0, X.2.2.1, if_pos (ib_nI (by omega) (by decide)), ix_nI (by omega), q1, nI_1, show tl + (k + 1) = tl + 1 + k from by omega]
      exact a2
    · rw [a4 r r1 r2, up_row r1, up_row r2]
    · rw [a5 r r1 r2, up_row r2, up_row r1]
theorem append_sim (X : TX tl κ μ) (σ : Sg) (x : Int32) (wd : Int64) {N : Nat} (hN : 100 < N) : ∃ r tl' κ' μ', f_X8_appendText N x σ κ = some (r, κ') ∧ f_X9_appendText N x μ wd = some (r, μ') ∧ TX tl' κ' μ' ∧ (∀ r, r ≠ 1 → r ≠ 61 → κ' r = κ r) ∧ (∀ r, r ≠ 5 → r ≠ 6 → μ' r = μ r) := by
  have t4 := X.1
  unfold f_X8_appendText f_X5_append f_X9_appendText
  rw [X.2.1, X.2.2.1]
  have e4 : nI tl + 4 = nI (tl + 4) := nI_add tl 4
  rcases Nat.lt_or_ge 396 tl with q | q
  · refine ⟨-6, tl, κ, μ, ?_, ?_, X, fun _ _ _ => rfl, fun _ _ _ => rfl⟩
    · rw [if_neg (show ¬ nI tl ≤ 396 from nI_ge' (b := tl) (a := 396) q (by omega))]
      rfl
    · rw [e4, if_neg (show ¬ nI (tl + 4) ≤ 400 from nI_ge' (a := 400) (by omega) (by omega))]
  · obtain ⟨κ', μ', a1, a2, a3, a4, a5⟩ := ap_it x wd N 4 tl N N κ μ (by omega) (by omega) X (by omega) (by omega)
    refine ⟨nI (tl + 4), tl + 4, κ', μ', ?_, ?_, a3, a4, a5⟩
    · rw [if_pos (show nI tl ≤ 396 from nI_le' (b := 396) q (by omega)), show (24 : Int32) = qS 4 from by decide, a1, Option.bind_some]
      show some (κ' 1 0, κ') = _
      rw [a3.2.1]
    · rw [e4, if_pos (show nI (tl + 4) ≤ 400 from nI_le' (b := 400) (by omega) (by omega)), show (24 : Int32) = qS 4 from by decide, a2]
theorem truncate_sim (X : TX tl κ μ) (σ : Sg) (x : Int32) (wd : Int64) : ∃ r tl' κ' μ', f_X8_truncateText x σ κ = some (r, κ') ∧ f_X9_truncateText x μ wd = some (r, μ') ∧ TX tl' κ' μ' ∧ (∀ r, r ≠ 1 → r ≠ 61 → κ' r = κ r) ∧ (∀ r, r ≠ 5 → r ≠ 6 → μ' r = μ r) := by
  have t4 := X.1
  unfold f_X8_truncateText f_X9_truncateText
  rw [wi_eq, X.2.1, X.2.2.1]
  rcases wi x 0 (nI tl) with w | w
  · obtain ⟨j, h1, rfl⟩ := nI_of0 w.2.1 w.2.2 (by omega)
    refine ⟨nI j, j, _, _, by rw [w.1, Option.bind_some, if_neg (by decide)], by rw [w.1, Option.bind_some, if_neg (by decide)], ⟨by omega, up_same _ _ _ _, up_same _ _ _ _, fun i hi => ?_⟩, fun r r1 r2 => up_row r1, fun r r1 r2 => up_row r2⟩
    rw [up_row (by decide), up_row (by decide)]
    exact X.2.2.2 i (by omega)
  · exact ⟨-4, tl, κ, μ, by rw [w.1]; rfl, by rw [w.1]; rfl, X, fun _ _ _ => rfl, fun _ _ _ => rfl⟩
end Ha
