section Hz
/-! a new object's rows -/
def zS : Sg := fun _ _ => 0
def mZ : Sg := up zS 13 0 (-1)
def sBg : Sg := (f_X1_beginWeek zS).getD zS
theorem zV : LV 0 0 0 0 zS mZ := by
  have hp : ∀ k i, pV mZ k i = 0 := fun k i => by
    unfold pV
    split
    · rfl
    · rfl
  refine ⟨⟨⟨by decide, by decide, rfl, rfl, fun k i _ => hp k i⟩, ⟨0, by decide, hp 7 0, Or.inr ⟨rfl, rfl, fun k i _ _ h => absurd h (Nat.not_lt_zero _)⟩⟩, ⟨by decide, rfl, fun k h => absurd h (Nat.not_lt_zero _), fun d hd => ?_, fun l hl => ?_, fun t h => absurd h (Nat.not_lt_zero _), fun t h => absurd h (Nat.not_lt_zero _), fun t h => absurd h (Nat.not_lt_zero _)⟩, fun t h => absurd h (Nat.not_lt_zero _)⟩, by decide, rfl, hp 31 0, fun i h => absurd h (Nat.not_lt_zero _)⟩
  · show (0 ≤ (0 : Int32).toInt ∧ (0 : Int32).toInt ≤ 1440) ∧ (0 ≤ (0 : Int32).toInt ∧ (0 : Int32).toInt ≤ 1440)
    decide
  · show 0 ≤ (0 : Int32).toInt ∧ (0 : Int32).toInt ≤ 9
    decide
theorem sBg_v : ∃ s0, LV 0 0 0 0 sBg s0 := by
  obtain ⟨s0, h2, h4, h6, h0⟩ := bg_sim0 0 (N := 20000) (by decide) zV (τ := zS) rfl (μ1 := mZ) rfl
  have h3 : FI 0 0 0 0 sBg s0 := h0 sBg (fun _ _ _ => rfl) (fun k i hk hi => by
    rcases Nat.eq_zero_or_pos k with rfl | hp
    · exact congrFun (bgS_k (ρ := zS) (by decide)) i
    · have : k = 1 ∨ k = 2 ∨ k = 3 ∨ k = 4 ∨ k = 5 ∨ k = 6 := by omega
      rcases this with rfl | rfl | rfl | rfl | rfl | rfl <;> exact absurd hi (Nat.not_lt_zero _))
  have k31 : pV s0 31 0 = 0 := by
    rw [h4.2 31 (by decide) (by decide)]
    unfold pV
    split
    · rfl
    · rfl
  exact ⟨s0, ⟨h3.1, ⟨0, by decide, h6, Or.inr ⟨rfl, rfl, fun k i _ _ h => absurd h (Nat.not_lt_zero _)⟩⟩, h3.2.2⟩, by decide, rfl, k31, fun i h => absurd h (Nat.not_lt_zero _)⟩
theorem sBg_30 {l : Nat} (h : l < 4) : sBg 30 l = 1 := bgS_30 h
theorem sBg_7 : sBg 7 0 = 0 := rfl
end Hz
