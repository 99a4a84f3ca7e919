section Hc
variable {cnt kc T hl : Nat} {σ μ τ : Sg}
/-! a whole state is copied -/
theorem kc_copy (σ τ : Sg) {N : Nat} (hN : 100 < N) : ∃ p, f_X3_copyFrom N σ τ = some p ∧ p 0 0 = τ 0 0 ∧ ∀ i, i < 6 → (p 1 i = τ 1 i ∧ p 2 i = τ 2 i ∧ p 3 i = τ 3 i) ∧ (p 4 i = τ 4 i ∧ p 5 i = τ 5 i ∧ p 6 i = vp_nar .boolean (τ 6 i)) := by
  have key := lift_itr (α := Sg) (fun n i c => f_X3_copyFrom_10 N n i c τ) (fun i c => up (up (up (up (up (up c 1 i (τ 1 i)) 2 i (τ 2 i)) 3 i (τ 3 i)) 4 i (τ 4 i)) 5 i (τ 5 i)) 6 i (vp_nar .boolean (τ 6 i))) (fun i c => c 0 0 = τ 0 0 ∧ ∀ j, j < i → (c 1 j = τ 1 j ∧ c 2 j = τ 2 j ∧ c 3 j = τ 3 j) ∧ (c 4 j = τ 4 j ∧ c 5 j = τ 5 j ∧ c 6 j = vp_nar .boolean (τ 6 j))) some 6
    (fun n i c hi I => by
      refine ⟨⟨?_, fun j hj => ?_⟩, ?_⟩
      · rw [up_row (by decide), up_row (by decide), up_row (by decide), up_row (by decide), up_row (by decide), up_row (by decide)]
        exact I.1
      · simp only [up_ite]
        by_cases e : j = i
        · subst e
          simp
        · have := I.2 j (by omega)
          simp [e]
          exact ⟨⟨this.1.1, this.1.2.1, this.1.2.2⟩, this.2.1, this.2.2.1, this.2.2.2⟩
      · show f_X3_copyFrom_10 N (n + 1) (nI i) c τ = f_X3_copyFrom_10 N n (nI (i + 1)) _ τ
        rw [f_X3_copyFrom_10, if_neg (show ¬ (6 : Int32) ≤ nI i from nI_ge (b := 6) hi (by decide)), if_pos (ib_nI hi (by decide)), ix_nI (by omega), nI_1])
    (fun n c _ => by
      show f_X3_copyFrom_10 N (n + 1) (nI 6) c τ = _
      rw [f_X3_copyFrom_10, if_pos (by decide)]) (up σ 0 0 (τ 0 0)) ⟨up_same _ _ _ _, fun j hj => absurd hj (Nat.not_lt_zero _)⟩ N (by omega)
  exact ⟨_, key.2, key.1.1, key.1.2⟩
theorem lg_copy (σ τ : Sg) {ln : Nat} (h : τ 7 0 = nI ln) (h6 : ln ≤ 600) : ∃ p, f_X4_copyFrom 600 600 σ τ = some p ∧ p 7 0 = nI ln ∧ ∀ k i, 8 ≤ k → k < 12 → i < ln → p k i = τ k i := by
  have e : (if (Int32.ofNat 600) < (τ 7 0) then (Int32.ofNat 600) else (τ 7 0)) = nI ln := by
    rw [h]
    exact if_neg (Int32.not_lt.mpr (nI_le' (b := 600) h6 (by decide)))
  have i0 : ix 0 = 0 := rfl
  unfold f_X4_copyFrom
  rw [e, i0, ix_nI (by omega), if_pos (show ¬ nI ln < 0 from fun z => by
    have := z_lt.mp z
    rw [z_nI (by omega), z_0] at this
    omega), if_pos (show 0 + ln ≤ 600 by omega), if_pos (show 0 + ln ≤ 600 by omega)]
  refine ⟨_, rfl, ?_, fun k i h1 h2 h3 => ?_⟩
  · rw [upr_ne _ _ _ _ (by decide), upr_ne _ _ _ _ (by decide), upr_ne _ _ _ _ (by decide), upr_ne _ _ _ _ (by decide), up_same]
  · have : k = 8 ∨ k = 9 ∨ k = 10 ∨ k = 11 := by omega
    rcases this with rfl | rfl | rfl | rfl <;> simp [upr, va_cpy, up] <;> omega
theorem hs_copy (σ τ : Sg) {hl : Nat} (h : τ 31 0 = nI hl) (h2 : hl ≤ 200) : ∃ p, f_X2_copyFrom σ τ = some p ∧ p 31 0 = nI hl ∧ ∀ k i, 31 < k → k < 38 → i < hl → p k i = τ k i := by
  have i0 : ix 0 = 0 := rfl
  unfold f_X2_copyFrom
  rw [h, i0, ix_nI (by omega), if_pos (show ¬ nI hl < 0 from fun z => by
    have := z_lt.mp z
    rw [z_nI (by omega), z_0] at this
    omega), if_pos (show 0 + hl ≤ 200 by omega)]
  refine ⟨_, rfl, ?_, fun k i h1 h2 h3 => ?_⟩
  · rw [upr_ne _ _ _ _ (by decide), upr_ne _ _ _ _ (by decide), upr_ne _ _ _ _ (by decide), upr_ne _ _ _ _ (by decide), upr_ne _ _ _ _ (by decide), upr_ne _ _ _ _ (by decide), up_same]
  · have : k = 32 ∨ k = 33 ∨ k = 34 ∨ k = 35 ∨ k = 36 ∨ k = 37 := by omega
    rcases this with rfl | rfl | rfl | rfl | rfl | rfl <;> simp [upr, va_cpy, up] <;> omega
/-- the same desk in another's cells -/
theorem LV.cells {ρ μ' : Sg} (V : LV cnt kc T hl σ μ) (hp : pV μ' = pV μ) (h : ∀ k i, i < rb cnt kc k → ρ k i = σ k i) (h7 : ρ 7 0 = σ 7 0) (hg : ∀ k i ln, σ 7 0 = nI ln → ln ≤ 600 → 8 ≤ k → k < 12 → i < ln → ρ k i = σ k i) (h31 : ρ 31 0 = σ 31 0) (hh : ∀ k i, 31 < k → k < 38 → i < hl → ρ k i = σ k i) : LV cnt kc T hl ρ μ' := by
  obtain ⟨ln, g1, g2, g3, g4⟩ := V.ln
  refine ⟨V.1.cells h hp ⟨ln, g1, g2, Or.inr ⟨rfl, h7.trans g3, fun k i k1 k2 k3 => (g4 k i k1 k2 k3).trans (hg k i ln g3 g1 k1 k2 k3).symm⟩⟩, ?_⟩
  obtain ⟨x1, x2, x3, x4⟩ := V.2
  refine ⟨x1, h31.trans x2, by rw [hp]; exact x3, fun i hi => ?_⟩
  obtain ⟨y1, y2, y3⟩ := x4 i hi
  rw [hp, hh 32 i (by decide) (by decide) hi, hh 33 i (by decide) (by decide) hi]
  exact ⟨y1, y2, fun k hk => (y3 k hk).trans (hh k i (by omega) (by omega) hi).symm⟩
/-- out of one state into another -/
theorem st_copy (V : LV cnt kc T hl σ μ) (ρ : Sg) {N : Nat} (hN : 100 < N) : ∃ p, f_X6_copyFrom N 600 600 ρ σ = some p ∧ ∀ μ', pV μ' = pV μ → LV cnt kc T hl p μ' := by
  obtain ⟨ln, g1, g2, g3, g4⟩ := V.ln
  have K := V.1.2.2.1.2.2.1
  have h6 := V.E.2.1
  obtain ⟨p1, a1, a2, a3⟩ := kc_copy ρ σ hN
  obtain ⟨p3, b1, b2, b3⟩ := lg_copy (mixK p1 ρ) σ g3 g1
  obtain ⟨p5, c1, c2, c3⟩ := hs_copy (mixLg p3 (mixK p1 ρ)) σ V.2.2.1 V.2.1
  obtain ⟨p7, d1, d2⟩ := cc_copy σ (mixH p5 (mixLg p3 (mixK p1 ρ)))
  refine ⟨mixC p7 (mixH p5 (mixLg p3 (mixK p1 ρ))), ?_, fun μ' hp => V.cells hp (fun k i hi => ?_) ?_ (fun k i l e1 e2 k1 k2 k3 => ?_) ?_ (fun k i k1 k2 k3 => ?_)⟩
  · unfold f_X6_copyFrom
    rw [a1, Option.bind_some, b1, Option.bind_some, c1, Option.bind_some, d1, Option.bind_some]
  · obtain ⟨q, q2⟩ := rb_pv hi V.E.1 h6
    rcases q with q | q
    · show (if k < 12 then (if k < 31 then (if k < 7 then (if k < 7 then p1 k else ρ k) else if k < 12 then p3 k else (if k < 7 then p1 k else ρ k)) else p5 k) else if k < 31 then p7 k else _) i = _
      rw [if_pos (by omega), if_pos (by omega), if_pos q, if_pos q]
      have : k = 0 ∨ k = 1 ∨ k = 2 ∨ k = 3 ∨ k = 4 ∨ k = 5 ∨ k = 6 := by omega
      rcases this with rfl | rfl | rfl | rfl | rfl | rfl | rfl
      · obtain rfl : i = 0 := Nat.lt_one_iff.mp hi
        exact a2
      · exact (a3 i q2).1.1
      · exact (a3 i q2).1.2.1
      · exact (a3 i q2).1.2.2
      · exact (a3 i q2).2.1
      · exact (a3 i q2).2.2.1
      · refine (a3 i q2).2.2.2.trans ?_
        rcases (K i hi).2.2.2.2 with z | z <;> rw [z] <;> decide
    · unfold mixC
      rw [if_neg (by omega), if_pos (by omega)]
      exact d2 k i q.1 q.2 q2
  · exact b2.trans g3.symm
  · have e : l = ln := (nI_eq (by omega) (by omega)).mp (e1.symm.trans g3)
    subst e
    show (if k < 12 then (if k < 31 then (if k < 7 then (if k < 7 then p1 k else ρ k) else if k < 12 then p3 k else (if k < 7 then p1 k else ρ k)) else p5 k) else if k < 31 then p7 k else _) i = _
    rw [if_pos (by omega), if_pos (by omega), if_neg (by omega), if_pos (by omega)]
    exact b3 k i k1 k2 k3
  · exact c2.trans V.2.2.1.symm
  · unfold mixC mixH
    rw [if_neg (by omega), if_neg (by omega), if_neg (by omega)]
    exact c3 k i k1 k2 k3
end Hc
