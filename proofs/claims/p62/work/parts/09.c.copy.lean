section Hc
variable {cnt kc T hl : Nat} {σ μ τ : Sg}
/-! a whole state is copied -/
theorem hs_copy (σ τ : Sg) {hl : Nat} (h : τ 31 0 = nI hl) (h2 : hl ≤ 200) : ∃ p, f_X2_copyFrom σ τ = some p ∧ p 31 0 = nI hl ∧ ∀ k i, 31 < k → k < 38 → i < hl → p k i = τ k i := by
  have i0 : ix 0 = 0 := rfl
  unfold f_X2_copyFrom
  rw [h, i0, ix_nI (by omega), if_pos (show ¬ nI hl < 0 from fun z => by
    have := z_lt.mp z
    rw [z_nI (by omega), z_0] at this
    omega), if_pos (show 0 + hl ≤ 200 by omega)]
  refine ⟨_, rfl, ?_, fun k i h1 h2 h3 => ?_⟩
  · rw [upr_ne _ _ _ _ (by decide), upr_ne _ _ _ _ (by decide), upr_ne _ _ _ _ (by decide), upr_ne _ _ _ _ (by decide), upr_ne _ _ _ _ (by decide), upr_ne _ _ _ _ (by decide), up_same]
  · have : k = 32 ∨ k = 33 ∨ k = 34 ∨ k = 35 ∨ k = 36 ∨ k = 37 := by omega
    rcases this with rfl | rfl | rfl | rfl | rfl | rfl <;> simp [upr, va_cpy, up] <;> omega
/-- the same desk in another's cells -/
theorem LV.cells {ρ μ' : Sg} (V : LV cnt kc T hl σ μ) (hp : pV μ' = pV μ) (h : ∀ k i, i < rb cnt kc k → ρ k i = σ k i) (h7 : ρ 7 0 = σ 7 0) (hg : ∀ k i ln, σ 7 0 = nI ln → ln ≤ 600 → 8 ≤ k → k < 12 → i < ln → ρ k i = σ k i) (h31 : ρ 31 0 = σ 31 0) (hh : ∀ k i, 31 < k → k < 38 → i < hl → ρ k i = σ k i) : LV cnt kc T hl ρ μ' := by
  obtain ⟨ln, g1, g2, g3, g4⟩ := V.ln
  refine ⟨V.1.cells h hp ⟨ln, g1, g2, Or.inr ⟨rfl, h7.trans g3, fun k i k1 k2 k3 => (g4 k i k1 k2 k3).trans (hg k i ln g3 g1 k1 k2 k3).symm⟩⟩, ?_⟩
  obtain ⟨x1, x2, x3, x4⟩ := V.2
  refine ⟨x1, h31.trans x2, by rw [hp]; exact x3, fun i hi => ?_⟩
  obtain ⟨y1, y2, y3⟩ := x4 i hi
  rw [hp, hh 32 i (by decide) (by decide) hi, hh 33 i (by decide) (by decide) hi]
  exact ⟨y1, y2, fun k hk => (y3 k hk).trans (hh k i (by omega) (by omega) hi).symm⟩
/-- out of one state into another -/
theorem st_copy (V : LV cnt kc T hl σ μ) (ρ : Sg) {N : Nat} (hN : 100 < N) : ∃ p, f_X6_copyFrom N 600 600 ρ σ = some p ∧ ∀ μ', pV μ' = pV μ → LV cnt kc T hl p μ' := by
  obtain ⟨ln, g1, g2, g3, g4⟩ := V.ln
  obtain ⟨p1, a1, a2, a3⟩ := dk_copy V ρ (L := 600) (Or.inr rfl) hN
  obtain ⟨p3, c1, c2, c3⟩ := hs_copy (mixKLgC p1 ρ) σ V.2.2.1 V.2.1
  have lo : ∀ k, k < 31 → mixH p3 (mixKLgC p1 ρ) k = p1 k := fun k hk => by
    unfold mixH mixKLgC
    rw [if_pos hk, if_pos hk]
  have hi : ∀ k, 30 < k → mixH p3 (mixKLgC p1 ρ) k = p3 k := fun k hk => by
    unfold mixH
    rw [if_neg (by omega)]
  obtain ⟨a4, a5⟩ := a3 ln g3 g1
  rw [Nat.min_eq_left g1] at a4 a5
  refine ⟨mixH p3 (mixKLgC p1 ρ), ?_, fun μ' hp => V.cells hp (fun k i h => ?_) ?_ (fun k i l e1 e2 k1 k2 k3 => ?_) ?_ (fun k i k1 k2 k3 => ?_)⟩
  · unfold f_X6_copyFrom
    rw [a1, Option.bind_some, c1, Option.bind_some]
  · have k31 : k < 31 := by
      obtain ⟨q, -⟩ := rb_pv h V.E.1 V.E.2.1
      omega
    rw [lo k k31]
    exact a2 k i h
  · rw [lo 7 (by decide), a4]
    exact g3.symm
  · obtain rfl : l = ln := (nI_eq (by omega) (by omega)).mp (e1.symm.trans g3)
    rw [lo k (by omega)]
    exact a5 k i k1 k2 k3
  · rw [hi 31 (by decide)]
    exact c2.trans V.2.2.1.symm
  · rw [hi k (by omega)]
    exact c3 k i k1 k2 k3
end Hc
