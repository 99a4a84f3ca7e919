section Hd
variable {cnt kc T hl : Nat} {σ μ τ : Sg}
/-! save and restore in the reference -/
/-- a saved slice, seen as a state -/
def sl (μ : Sg) (s : Nat) : Sg := fun k => if k = 1 then fun a => μ 3 (4619 * s + a) else μ k
theorem s_at (s : Nat) : (4619 : Int32) * nI s = nI (4619 * s) := pk_mul 4619 s
theorem sv_out (μ : Sg) {s : Nat} (hs : s < 2) (wd : Int64) {N : Nat} (hN : 10100 < N) : ∃ μ', f_X9_copyState_state_saved N 0 (nI (4619 * s)) μ wd = some μ' ∧ (∀ k, k ≠ 3 → μ' k = μ k) ∧ (∀ a, a < 4619 → μ' 3 (4619 * s + a) = μ 1 a) ∧ ∀ b, (∀ a, a < 4619 → b ≠ 4619 * s + a) → μ' 3 b = μ 3 b := by
  have key := lift_itr (α := Sg) (fun n i c => f_X9_copyState_state_saved_3 N n 0 (nI (4619 * s)) i c wd) (fun i c => up c 3 (4619 * s + i) (c 1 i)) (fun i c => (∀ k, k ≠ 3 → c k = μ k) ∧ (∀ a, a < i → c 3 (4619 * s + a) = μ 1 a) ∧ ∀ b, (∀ a, a < i → b ≠ 4619 * s + a) → c 3 b = μ 3 b) some 4619
    (fun n i c hi I => by
      refine ⟨⟨fun k hk => by rw [up_row hk]; exact I.1 k hk, fun a ha => ?_, fun b hb => ?_⟩, ?_⟩
      · rw [up_ite]
        by_cases e : a = i
        · rw [if_pos ⟨rfl, by rw [e]⟩, e, I.1 1 (by decide)]
        · rw [if_neg (fun z => e (by omega))]
          exact I.2.1 a (by omega)
      · rw [up_ite, if_neg (fun z => hb i (by omega) z.2)]
        exact I.2.2 b fun a ha => hb a (by omega)
      · show f_X9_copyState_state_saved_3 N (n + 1) 0 (nI (4619 * s)) (nI i) c wd = f_X9_copyState_state_saved_3 N n 0 (nI (4619 * s)) (nI (i + 1)) (up c 3 (4619 * s + i) (c 1 i)) wd
        rw [f_X9_copyState_state_saved_3, if_neg (show ¬ (4619 : Int32) ≤ nI i from nI_ge (b := 4619) hi (by decide)), Int32.zero_add, nI_add, if_pos (ib_nI hi (by decide)), if_pos (ib_nI (by omega) (by decide)), ix_nI (by omega), ix_nI (by omega), nI_1])
    (fun n c _ => by
      show f_X9_copyState_state_saved_3 N (n + 1) 0 (nI (4619 * s)) (nI 4619) c wd = _
      rw [f_X9_copyState_state_saved_3, if_pos (by decide)]) μ ⟨fun _ _ => rfl, fun a ha => absurd ha (Nat.not_lt_zero _), fun _ _ => rfl⟩ N (by omega)
  exact ⟨_, key.2, key.1.1, key.1.2.1, key.1.2.2⟩
theorem sv_in (μ : Sg) {s : Nat} (hs : s < 2) (wd : Int64) {N : Nat} (hN : 10100 < N) : ∃ μ', f_X9_copyState_saved_state N (nI (4619 * s)) 0 μ wd = some μ' ∧ (∀ k, k ≠ 1 → μ' k = μ k) ∧ ∀ a, a < 4619 → μ' 1 a = μ 3 (4619 * s + a) := by
  have key := lift_itr (α := Sg) (fun n i c => f_X9_copyState_saved_state_3 N n (nI (4619 * s)) 0 i c wd) (fun i c => up c 1 i (c 3 (4619 * s + i))) (fun i c => (∀ k, k ≠ 1 → c k = μ k) ∧ ∀ a, a < i → c 1 a = μ 3 (4619 * s + a)) some 4619
    (fun n i c hi I => by
      refine ⟨⟨fun k hk => by rw [up_row hk]; exact I.1 k hk, fun a ha => ?_⟩, ?_⟩
      · rw [up_ite]
        by_cases e : a = i
        · rw [if_pos ⟨rfl, e⟩, e, I.1 3 (by decide)]
        · rw [if_neg (fun z => e z.2)]
          exact I.2 a (by omega)
      · show f_X9_copyState_saved_state_3 N (n + 1) (nI (4619 * s)) 0 (nI i) c wd = f_X9_copyState_saved_state_3 N n (nI (4619 * s)) 0 (nI (i + 1)) (up c 1 i (c 3 (4619 * s + i))) wd
        rw [f_X9_copyState_saved_state_3, if_neg (show ¬ (4619 : Int32) ≤ nI i from nI_ge (b := 4619) hi (by decide)), Int32.zero_add, nI_add, if_pos (ib_nI (by omega) (by decide)), if_pos (ib_nI hi (by decide)), ix_nI (by omega), ix_nI (by omega), nI_1])
    (fun n c _ => by
      show f_X9_copyState_saved_state_3 N (n + 1) (nI (4619 * s)) 0 (nI 4619) c wd = _
      rw [f_X9_copyState_saved_state_3, if_pos (by decide)]) μ ⟨fun _ _ => rfl, fun a ha => absurd ha (Nat.not_lt_zero _)⟩ N (by omega)
  exact ⟨_, key.2, key.1.1, key.1.2⟩
/-- save: the slot's slice is the state, the other one stays -/
theorem save_m (μ : Sg) {s : Nat} (hs : s < 2) (wd : Int64) {N : Nat} (hN : 10100 < N) : ∃ μ', f_X9_save N (nI s) μ wd = some (1, μ') ∧ (∀ k, k ≠ 3 → k ≠ 4 → μ' k = μ k) ∧ μ' 4 s = 1 ∧ (∀ j, j ≠ s → μ' 4 j = μ 4 j) ∧ pV (sl μ' s) = pV μ ∧ ∀ j, j < 2 → j ≠ s → pV (sl μ' j) = pV (sl μ j) := by
  obtain ⟨μ1, a1, a2, a3, a4⟩ := sv_out μ hs wd hN
  refine ⟨up μ1 4 s 1, ?_, fun k k3 k4 => by rw [up_row k4]; exact a2 k k3, up_same _ _ _ _, fun j hj => by rw [up_ite, if_neg (fun z => hj z.2), a2 4 (by decide)], pv_same fun a ha => ?_, fun j hj hn => pv_same fun a ha => ?_⟩
  · unfold f_X9_save
    rw [wi_eq]
    rcases wi (nI s) 0 1 with w | w
    · rw [w.1, Option.bind_some, if_neg (by decide), s_at, a1, Option.bind_some, if_pos (ib_nI hs (by decide)), ix_nI (by omega)]
      rfl
    · exact absurd ⟨nI_le' (a := 0) (by omega) (by omega), nI_le' (b := 1) (by omega) (by omega)⟩ w.2
  · show up μ1 4 s 1 3 (4619 * s + a) = μ 1 a
    rw [up_row (by decide)]
    exact a3 a ha
  · show up μ1 4 s 1 3 (4619 * j + a) = μ 3 (4619 * j + a)
    rw [up_row (by decide)]
    exact a4 _ fun c hc => by omega
theorem save_bad (μ : Sg) {x : Int32} (h : ¬ (0 ≤ x ∧ x ≤ 1)) (wd : Int64) (N : Nat) : f_X9_save N x μ wd = some (0, μ) ∧ f_X9_restore N x μ wd = some (0, μ) := by
  unfold f_X9_save f_X9_restore
  rw [wi_eq]
  rcases wi x 0 1 with w | w
  · exact absurd w.2 h
  · rw [w.1]
    exact ⟨rfl, rfl⟩
theorem restore_m (μ : Sg) {s : Nat} (hs : s < 2) (h4 : μ 4 s ≠ 0) (wd : Int64) {N : Nat} (hN : 10100 < N) : ∃ μ', f_X9_restore N (nI s) μ wd = some (1, μ') ∧ RZ μ μ' ∧ pV μ' = pV (sl μ s) := by
  obtain ⟨μ1, a1, a2, a3⟩ := sv_in μ hs wd hN
  refine ⟨μ1, ?_, a2, pv_same fun a ha => a3 a ha⟩
  unfold f_X9_restore
  rw [wi_eq]
  rcases wi (nI s) 0 1 with w | w
  · rw [w.1, Option.bind_some, if_neg (by decide), if_pos (ib_nI hs (by decide)), ix_nI (by omega), if_neg h4, s_at, a1, Option.bind_some]
  · exact absurd ⟨nI_le' (a := 0) (by omega) (by omega), nI_le' (b := 1) (by omega) (by omega)⟩ w.2
theorem restore_no (μ : Sg) {s : Nat} (hs : s < 2) (h4 : μ 4 s = 0) (wd : Int64) (N : Nat) : f_X9_restore N (nI s) μ wd = some (0, μ) := by
  unfold f_X9_restore
  rw [wi_eq]
  rcases wi (nI s) 0 1 with w | w
  · rw [w.1, Option.bind_some, if_neg (by decide), if_pos (ib_nI hs (by decide)), ix_nI (by omega), if_pos h4]
  · rw [w.1]
    rfl
end Hd
