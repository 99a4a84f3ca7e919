section Qa
variable {cnt kc T hl m : Nat} {σ σ' θ υ τ : Sg} {tS : Nat → Nat}
/-! p62's law: drawing -/
theorem fa_and (a b : Nat) : nI a &&& nI b = nI (a &&& b) := by
  apply Int32.toBitVec_inj.mp
  show BitVec.ofNat 32 a &&& BitVec.ofNat 32 b = BitVec.ofNat 32 (a &&& b)
  apply BitVec.eq_of_getLsbD_eq
  intro i hi
  simp [Nat.testBit_and, hi]
theorem low31 (y : Int32) : ∃ q, q < 2 ^ 31 ∧ y &&& 2147483647 = nI q := by
  obtain ⟨n, -, rfl⟩ := wb_of32 y
  refine ⟨n % 2 ^ 31, Nat.mod_lt _ (by decide), ?_⟩
  rw [show (2147483647 : Int32) = nI (2 ^ 31 - 1) from rfl, fa_and, Nat.and_two_pow_sub_one_eq_mod]
theorem at_some (kc : Nat) {k : Nat} (hk : k < 100000) (hl : tS 5 ≤ 260) : ∃ v, f_L_at tS kc (nI k) = some v := by
  unfold f_L_at
  by_cases h : (Int32.ofNat (tS 5)) ≤ nI k
  · rw [if_pos h]
    exact ⟨_, rfl⟩
  · have hlt : k < tS 5 := by
      rcases Nat.lt_or_ge k (tS 5) with z | z
      · exact z
      · exact absurd (nI_le' z hk) h
    rw [if_neg h, if_pos (ib_nI hlt (by omega))]
    split
    · exact ⟨_, rfl⟩
    · split <;> exact ⟨_, rfl⟩
theorem draw_v (hL : tS 5 ≤ 260) (hm : θ 70 0 = nI m) (hm2 : m < 10000) {n : Nat} (h1 : 1 ≤ n) (h2 : n < 1000) : ∃ r, r < n ∧ f_L_draw tS kc (nI n) θ = some (nI r, up θ 70 0 (nI (m + 1))) := by
  have hM : (if 1 < (Int32.ofNat (tS 5)) then (Int32.ofNat (tS 5)) else 1) = nI (max 1 (tS 5)) := by
    by_cases z : 1 < tS 5
    · rw [if_pos (show (1 : Int32) < Int32.ofNat (tS 5) from Int32.not_le.mp (nI_ge' (b := tS 5) (a := 1) z (by omega))), Nat.max_eq_right (by omega)]
      rfl
    · rw [if_neg (show ¬ (1 : Int32) < Int32.ofNat (tS 5) from Int32.not_lt.mpr (nI_le' (b := 1) (a := tS 5) (by omega) (by omega))), Nat.max_eq_left (by omega)]
      rfl
  have hM0 : ¬ nI (max 1 (tS 5)) = 0 := fun z => by
    have := (nI_eq (a := max 1 (tS 5)) (b := 0) (by omega) (by decide)).mp z
    omega
  have hn0 : ¬ nI n = 0 := fun z => by
    have := (nI_eq (a := n) (b := 0) (by omega) (by decide)).mp z
    omega
  have hr : nI m - nI m / nI (max 1 (tS 5)) * nI (max 1 (tS 5)) = nI (m % max 1 (tS 5)) := pk_rem (by omega) (by omega) (by omega)
  have hk : m % max 1 (tS 5) < 100000 := Nat.lt_of_le_of_lt (Nat.mod_le _ _) (by omega)
  obtain ⟨v, hv⟩ := at_some (tS := tS) kc hk hL
  unfold f_L_draw
  rw [hM, if_pos hM0, hm, hr, hv, Option.bind_some, if_pos hn0]
  generalize ((((v + nI m * 668265263 ^^^ ((v + nI m * 668265263).toUInt32 >>> (Int32.toUInt32 15 &&& Int32.toUInt32 31)).toInt32) * 739982445) ^^^ ((((v + nI m * 668265263 ^^^ ((v + nI m * 668265263).toUInt32 >>> (Int32.toUInt32 15 &&& Int32.toUInt32 31)).toInt32) * 739982445).toUInt32 >>> (Int32.toUInt32 13 &&& Int32.toUInt32 31)).toInt32)) : Int32) = y
  obtain ⟨q, q1, q2⟩ := low31 y
  rw [q2, nI_1]
  refine ⟨q % n, Nat.mod_lt _ h1, ?_⟩
  rw [show nI q - nI q / nI n * nI n = nI (q % n) from pk_rem q1 h1 (by omega)]
theorem told_v (D : DI cnt kc T hl σ) {cnt' hl' : Nat} (D' : DI cnt' kc T hl' σ') {b c d : Int32} (h : Tld T σ σ' b c d) : f_L_told tS kc (σ 7 0) b c d θ υ σ' τ = some 1 := by
  obtain ⟨-, -, -, ln, f, ⟨hg, -⟩, -⟩ := D.2
  have l1 := hg.1
  obtain ⟨h7, h8⟩ := h ln l1 hg.2.1
  have h12 := D'.b.2.2.2.2.1
  unfold f_L_told f_X8_logSize
  rw [hg.2.1, Option.bind_some, h7]
  have e : (if nI ln + 1 < 600 then nI ln + 1 else 600) = nI (min 600 (ln + 1)) := by
    rw [nI_1]
    by_cases z : ln + 1 < 600
    · rw [if_pos (show nI (ln + 1) < 600 from nI_lt (b := 600) z (by decide)), Nat.min_eq_right (by omega)]
    · rw [if_neg (show ¬ nI (ln + 1) < 600 from Int32.not_lt.mpr (nI_le (a := 600) (by omega) (by omega))), Nat.min_eq_left (by omega)]
      rfl
  rw [e, if_pos rfl]
  by_cases z : ln = 600
  · subst z
    rw [if_pos (show nI 600 = 600 from rfl)]
  · have hlt : ln < 600 := by omega
    obtain ⟨g8, g9, g10, g11⟩ := h8 hlt
    have n1 : min 600 (ln + 1) ≤ 600 := Nat.min_le_left _ _
    have n2 : ln < min 600 (ln + 1) := by omega
    rw [if_neg (show ¬ nI ln = 600 from fun w => z ((nI_eq (b := 600) (by omega) (by decide)).mp w)), v_logTime h7 n1 n2, Option.bind_some, g8]
    unfold f_X8_now
    rw [Option.bind_some, h12, if_pos rfl, v_logType h7 n1 n2, Option.bind_some, if_pos g9, v_logTicket h7 n1 n2, Option.bind_some, if_pos g10, v_logDetail h7 n1 n2, Option.bind_some, if_pos g11]
end Qa
