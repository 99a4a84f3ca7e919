section Gm0
variable {cnt kc T hl : Nat} {σ μ τ : Sg}
/-! a desk is copied -/
theorem kc_copy (σ τ : Sg) {N : Nat} (hN : 100 < N) : ∃ p, f_X3_copyFrom N σ τ = some p ∧ p 0 0 = τ 0 0 ∧ ∀ i, i < 6 → (p 1 i = τ 1 i ∧ p 2 i = τ 2 i ∧ p 3 i = τ 3 i) ∧ (p 4 i = τ 4 i ∧ p 5 i = τ 5 i ∧ p 6 i = vp_nar .boolean (τ 6 i)) := by
  have key := lift_itr (α := Sg) (fun n i c => f_X3_copyFrom_10 N n i c τ) (fun i c => up (up (up (up (up (up c 1 i (τ 1 i)) 2 i (τ 2 i)) 3 i (τ 3 i)) 4 i (τ 4 i)) 5 i (τ 5 i)) 6 i (vp_nar .boolean (τ 6 i))) (fun i c => c 0 0 = τ 0 0 ∧ ∀ j, j < i → (c 1 j = τ 1 j ∧ c 2 j = τ 2 j ∧ c 3 j = τ 3 j) ∧ (c 4 j = τ 4 j ∧ c 5 j = τ 5 j ∧ c 6 j = vp_nar .boolean (τ 6 j))) some 6
    (fun n i c hi I => by
      refine ⟨⟨?_, fun j hj => ?_⟩, ?_⟩
      · rw [up_row (by decide), up_row (by decide), up_row (by decide), up_row (by decide), up_row (by decide), up_row (by decide)]
        exact I.1
      · simp only [up_ite]
        by_cases e : j = i
        · subst e
          simp
        · have := I.2 j (by omega)
          simp [e]
          exact ⟨⟨this.1.1, this.1.2.1, this.1.2.2⟩, this.2.1, this.2.2.1, this.2.2.2⟩
      · show f_X3_copyFrom_10 N (n + 1) (nI i) c τ = f_X3_copyFrom_10 N n (nI (i + 1)) _ τ
        rw [f_X3_copyFrom_10, if_neg (show ¬ (6 : Int32) ≤ nI i from nI_ge (b := 6) hi (by decide)), if_pos (ib_nI hi (by decide)), ix_nI (by omega), nI_1])
    (fun n c _ => by
      show f_X3_copyFrom_10 N (n + 1) (nI 6) c τ = _
      rw [f_X3_copyFrom_10, if_pos (by decide)]) (up σ 0 0 (τ 0 0)) ⟨up_same _ _ _ _, fun j hj => absurd hj (Nat.not_lt_zero _)⟩ N (by omega)
  exact ⟨_, key.2, key.1.1, key.1.2⟩
theorem lg_copy (σ τ : Sg) {L ln : Nat} (hL : L = 0 ∨ L = 600) (h : τ 7 0 = nI ln) (h6 : ln ≤ 600) : ∃ p, f_X4_copyFrom L 600 σ τ = some p ∧ p 7 0 = nI (min ln L) ∧ ∀ k i, 8 ≤ k → k < 12 → i < min ln L → p k i = τ k i := by
  have e : (if (Int32.ofNat L) < (τ 7 0) then (Int32.ofNat L) else (τ 7 0)) = nI (min ln L) := by
    rw [h]
    rcases hL with rfl | rfl
    · rw [Nat.min_zero]
      by_cases q : (Int32.ofNat 0) < nI ln
      · rw [if_pos q]
        rfl
      · rw [if_neg q]
        have := z_le.mp (Int32.not_lt.mp q)
        rw [z_nI (by omega), show (Int32.ofNat 0).toInt = 0 from by decide] at this
        exact z_eq.mpr (by rw [z_nI (by omega), z_nI (by omega)]; omega)
    · rw [Nat.min_eq_left h6]
      exact if_neg (Int32.not_lt.mpr (nI_le' (b := 600) h6 (by decide)))
  have i0 : ix 0 = 0 := rfl
  have hm : min ln L ≤ L := Nat.min_le_right _ _
  have hm2 : min ln L ≤ 600 := Nat.le_trans (Nat.min_le_left _ _) h6
  generalize min ln L = q at e hm hm2
  unfold f_X4_copyFrom
  rw [e, i0, ix_nI (by omega), if_pos (show ¬ nI q < 0 from fun z => by
    have := z_lt.mp z
    rw [z_nI (by omega), z_0] at this
    omega), if_pos (show 0 + q ≤ 600 by omega), if_pos (show 0 + q ≤ L by omega)]
  refine ⟨_, rfl, ?_, fun k i h1 h2 h3 => ?_⟩
  · rw [upr_ne _ _ _ _ (by decide), upr_ne _ _ _ _ (by decide), upr_ne _ _ _ _ (by decide), upr_ne _ _ _ _ (by decide), up_same]
  · have : k = 8 ∨ k = 9 ∨ k = 10 ∨ k = 11 := by omega
    rcases this with rfl | rfl | rfl | rfl <;> simp [upr, va_cpy, up] <;> omega
theorem cal_copy (σ τ : Sg) : ∃ p, f_X0_copyFrom τ σ = some p ∧ (∀ k, k ≠ 13 → k ≠ 14 → p k = τ k) ∧ ∀ k i, 12 < k → k < 15 → i < 7 → p k i = σ k i := by
  unfold f_X0_copyFrom
  have i0 : ix 0 = 0 := rfl
  have i7 : ix 7 = 7 := rfl
  rw [i0, i7]
  refine ⟨_, rfl, fun k h1 h2 => ?_, fun k i h1 h2 hi => ?_⟩
  · rw [upr_ne _ _ _ _ h2, upr_ne _ _ _ _ h1]
  · have : k = 13 ∨ k = 14 := by omega
    rcases this with rfl | rfl <;> simp [upr, va_cpy] <;> omega
theorem tic_copy (σ τ : Sg) : ∃ p, f_X7_copyFrom τ σ = some p ∧ (∀ k, k < 15 ∨ 29 < k → p k = τ k) ∧ ∀ k i, 14 < k → k < 30 → i < pv_nb k → p k i = σ k i := by
  unfold f_X7_copyFrom
  have i0 : ix 0 = 0 := rfl
  have i60 : ix 60 = 60 := rfl
  rw [i0, i60]
  refine ⟨_, rfl, fun k h => ?_, fun k i h1 h2 hi => ?_⟩
  · rw [upr_ne _ _ _ _ (by omega), upr_ne _ _ _ _ (by omega), upr_ne _ _ _ _ (by omega), upr_ne _ _ _ _ (by omega), upr_ne _ _ _ _ (by omega), upr_ne _ _ _ _ (by omega), upr_ne _ _ _ _ (by omega), upr_ne _ _ _ _ (by omega), upr_ne _ _ _ _ (by omega), upr_ne _ _ _ _ (by omega), upr_ne _ _ _ _ (by omega), upr_ne _ _ _ _ (by omega), upr_ne _ _ _ _ (by omega), upr_ne _ _ _ _ (by omega), up_row (by omega)]
  · have : k = 15 ∨ k = 16 ∨ k = 17 ∨ k = 18 ∨ k = 19 ∨ k = 20 ∨ k = 21 ∨ k = 22 ∨ k = 23 ∨ k = 24 ∨ k = 25 ∨ k = 26 ∨ k = 27 ∨ k = 28 ∨ k = 29 := by omega
    rcases this with rfl | rfl | rfl | rfl | rfl | rfl | rfl | rfl | rfl | rfl | rfl | rfl | rfl | rfl | rfl <;> simp [pv_nb] at hi <;> simp [upr, va_cpy, up] <;> first | omega | (rw [hi]; exact if_pos rfl)
theorem rb_pv {k i : Nat} (h : i < rb cnt kc k) (h60 : cnt ≤ 60) (h6 : kc ≤ 6) : (k < 7 ∨ 11 < k ∧ k < 31) ∧ i < pv_nb k := by
  rcases rb_low h with ⟨a, b, c⟩ | ⟨q, -⟩
  · refine ⟨Or.inr ⟨by omega, by omega⟩, ?_⟩
    have : k = 16 ∨ k = 17 ∨ k = 18 ∨ k = 19 ∨ k = 20 ∨ k = 21 ∨ k = 22 ∨ k = 23 ∨ k = 24 ∨ k = 25 ∨ k = 26 ∨ k = 27 ∨ k = 28 ∨ k = 29 := by omega
    rcases this with rfl | rfl | rfl | rfl | rfl | rfl | rfl | rfl | rfl | rfl | rfl | rfl | rfl | rfl <;> exact Nat.lt_of_lt_of_le c h60
  · have : (k = 0 ∨ k = 1 ∨ k = 2 ∨ k = 3 ∨ k = 4 ∨ k = 5 ∨ k = 6) ∨ k = 12 ∨ k = 13 ∨ k = 14 ∨ k = 15 ∨ k = 30 := by omega
    rcases this with (rfl | rfl | rfl | rfl | rfl | rfl | rfl) | rfl | rfl | rfl | rfl | rfl <;> refine ⟨by omega, ?_⟩ <;> simp [rb] at h <;> simp [pv_nb] <;> omega
/-- a whole desk, out of one state into another -/
theorem dk_copy (V : LV cnt kc T hl σ μ) (τ : Sg) {L : Nat} (hL : L = 0 ∨ L = 600) {N : Nat} (hN : 100 < N) : ∃ p, f_X1_copyFrom N L 600 τ σ = some p ∧ (∀ k i, i < rb cnt kc k → p k i = σ k i) ∧
    ∀ ln, σ 7 0 = nI ln → ln ≤ 600 → p 7 0 = nI (min ln L) ∧ ∀ k i, 8 ≤ k → k < 12 → i < min ln L → p k i = σ k i := by
  obtain ⟨ln, g1, g2, g3, g4⟩ := V.ln
  have K := V.1.2.2.1.2.2.1
  have h6 := V.E.2.1
  obtain ⟨p1, a1, a2, a3⟩ := cal_copy σ (up τ 12 0 (σ 12 0))
  obtain ⟨p3, b1, b2, b3⟩ := kc_copy (mixC p1 (up τ 12 0 (σ 12 0))) σ hN
  obtain ⟨p5, c1, c2, c3⟩ := tic_copy σ (upr (mixK p3 (mixC p1 (up τ 12 0 (σ 12 0)))) 30 (va_cpy (σ 30) ((mixK p3 (mixC p1 (up τ 12 0 (σ 12 0)))) 30) (ix 0) (ix 0) (ix 4)))
  obtain ⟨p7, d1, d2, d3⟩ := lg_copy (mixC p5 (upr (mixK p3 (mixC p1 (up τ 12 0 (σ 12 0)))) 30 (va_cpy (σ 30) ((mixK p3 (mixC p1 (up τ 12 0 (σ 12 0)))) 30) (ix 0) (ix 0) (ix 4)))) σ hL g3 g1
  refine ⟨mixLg p7 (mixC p5 (upr (mixK p3 (mixC p1 (up τ 12 0 (σ 12 0)))) 30 (va_cpy (σ 30) ((mixK p3 (mixC p1 (up τ 12 0 (σ 12 0)))) 30) (ix 0) (ix 0) (ix 4)))), ?_, fun k i hi => ?_, fun l e1 e2 => ?_⟩
  · unfold f_X1_copyFrom
    rw [a1, Option.bind_some, b1, Option.bind_some, c1, Option.bind_some, d1, Option.bind_some]
  · obtain ⟨q, q2⟩ := rb_pv hi V.E.1 h6
    rcases q with q | q
    · have e0 : mixLg p7 (mixC p5 (upr (mixK p3 (mixC p1 (up τ 12 0 (σ 12 0)))) 30 (va_cpy (σ 30) ((mixK p3 (mixC p1 (up τ 12 0 (σ 12 0)))) 30) (ix 0) (ix 0) (ix 4)))) k = p3 k := by
        unfold mixLg mixC
        rw [if_pos q, if_pos (by omega), upr_ne _ _ _ _ (by omega)]
        exact if_pos q
      rw [e0]
      have : k = 0 ∨ k = 1 ∨ k = 2 ∨ k = 3 ∨ k = 4 ∨ k = 5 ∨ k = 6 := by omega
      rcases this with rfl | rfl | rfl | rfl | rfl | rfl | rfl
      · obtain rfl : i = 0 := Nat.lt_one_iff.mp hi
        exact b2
      · exact (b3 i q2).1.1
      · exact (b3 i q2).1.2.1
      · exact (b3 i q2).1.2.2
      · exact (b3 i q2).2.1
      · exact (b3 i q2).2.2.1
      · refine (b3 i q2).2.2.2.trans ?_
        rcases (K i hi).2.2.2.2 with z | z <;> rw [z] <;> decide
    · have e0 : mixLg p7 (mixC p5 (upr (mixK p3 (mixC p1 (up τ 12 0 (σ 12 0)))) 30 (va_cpy (σ 30) ((mixK p3 (mixC p1 (up τ 12 0 (σ 12 0)))) 30) (ix 0) (ix 0) (ix 4)))) k = p5 k := by
        show (if k < 7 then _ else if k < 12 then p7 k else mixC p5 _ k) = _
        rw [if_neg (by omega), if_neg (by omega)]
        show (if k < 12 then _ else if k < 31 then p5 k else _) = _
        rw [if_neg (by omega), if_pos q.2]
      rw [e0]
      by_cases k15 : 14 < k ∧ k < 30
      · exact c3 k i k15.1 k15.2 q2
      · rw [c2 k (by omega)]
        by_cases k30 : k = 30
        · subst k30
          rw [upr_at]
          unfold va_cpy
          have i4 : ix 4 = 4 := rfl
          have i0 : ix 0 = 0 := rfl
          have q3 : i < 4 := q2
          rw [i0, i4, if_pos ⟨Nat.zero_le _, q3⟩]
          exact congrArg (σ 30) (Nat.zero_add _)
        · rw [upr_ne _ _ _ _ k30]
          have e1 : mixK p3 (mixC p1 (up τ 12 0 (σ 12 0))) k = p1 k := by
            show (if k < 7 then _ else mixC p1 _ k) = _
            rw [if_neg (by omega)]
            show (if k < 12 then _ else if k < 31 then p1 k else _) = _
            rw [if_neg (by omega), if_pos q.2]
          rw [e1]
          by_cases k12 : k = 12
          · subst k12
            rw [a2 12 (by decide) (by decide)]
            obtain rfl : i = 0 := Nat.lt_one_iff.mp hi
            exact up_same _ _ _ _
          · have q4 : i < 7 := by
              have : k = 13 ∨ k = 14 := by omega
              rcases this with rfl | rfl <;> exact q2
            exact a3 k i (by omega) (by omega) q4
  · obtain rfl : l = ln := (nI_eq (by omega) (by omega)).mp (e1.symm.trans g3)
    refine ⟨d2, fun k i k1 k2 hi => ?_⟩
    show (if k < 7 then _ else if k < 12 then p7 k else _) i = _
    rw [if_neg (by omega), if_pos k2]
    exact d3 k i k1 k2 hi
end Gm0
