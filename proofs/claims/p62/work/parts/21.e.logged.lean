section Qe
variable {cnt kc T hl m : Nat} {σ σ' θ υ τ : Sg} {tS : Nat → Nat}
/-! p62's law: the log tells the solved times -/
theorem lg_88 (D : DI cnt kc T hl σ) {ln e : Nat} (h7 : σ 7 0 = nI ln) (hl6 : ln ≤ 600) (he : e < ln) (ht : ∃ j, j < cnt ∧ σ 10 e = nI j) {N : Nat} (k52 : Int32 → Int32 → Int32 → Sg → Sg → Sg → Sg → Sg → Option Int32) (x1 x2 : Int32) (ν : Sg) (hν : ∀ t, t < cnt → ν 1 t = lsv σ t e) : ∃ ν' : Sg, f_L_logged_88 N tS kc cnt k52 x1 x2 (nI e) θ υ σ τ ν = k52 x1 x2 (nI (e + 1)) θ υ σ τ ν' ∧ ∀ t, t < cnt → ν' 1 t = lsv σ t (e + 1) := by
  obtain ⟨hT, h60, -, -, h12, h15, -, -⟩ := D.b
  obtain ⟨j, j1, j2⟩ := ht
  unfold f_L_logged_88
  rw [v_logType h7 hl6 he, Option.bind_some, nI_1]
  by_cases c : σ 9 e = 5
  · refine ⟨up ν 1 j (σ 8 e), ?_, fun t ht => ?_⟩
    · rw [if_pos c, v_logTicket h7 hl6 he, Option.bind_some, v_logTime h7 hl6 he, Option.bind_some, j2, if_pos (ib_nI j1 (by omega)), ix_nI (by omega)]
    · rw [up_ite]
      unfold lsv
      by_cases z : t = j
      · subst z
        rw [if_pos ⟨rfl, rfl⟩, if_pos ⟨c, j2⟩]
      · rw [if_neg (fun w => z w.2), if_neg (fun w => z ((nI_eq (by omega) (by omega)).mp (j2.symm.trans w.2)).symm)]
        exact hν t ht
  · refine ⟨ν, by rw [if_neg c], fun t ht => ?_⟩
    unfold lsv
    rw [if_neg (fun w => c w.1)]
    exact hν t ht
theorem logged_v (D : DI cnt kc T hl σ) {N : Nat} (hN : 10100 < N) : f_L_logged N tS kc cnt θ υ σ τ = some 1 := by
  obtain ⟨hT, h60, -, -, h12, h15, -, -⟩ := D.b
  obtain ⟨-, -, -, ln, f, ⟨⟨l1, l2, l3, l4⟩, l5⟩, h4⟩ := D.2
  unfold f_L_logged f_X8_ticketCount f_X8_logSize
  rw [Option.bind_some, Option.bind_some, h15, l2]
  by_cases z : ln = 600
  · rw [if_pos (show nI ln = 600 by rw [z]; rfl)]
  · have hlt : ln < 600 := by omega
    rw [if_neg (show ¬ nI ln = 600 from fun w => z ((nI_eq (b := 600) (by omega) (by decide)).mp w))]
    unfold f_L_logged_29
    have f130 : ∀ ν : Sg, (∀ t, t < cnt → ν 1 t = lsv σ t ln) → f_L_logged_130 N tS kc cnt N (nI cnt) 0 θ υ σ τ ν = some 1 := fun ν hν =>
      (lift_itr (α := Unit) (fun n i _ => f_L_logged_130 N tS kc cnt n (nI cnt) i θ υ σ τ ν) (fun _ a => a) (fun _ _ => True) (fun _ => some 1) cnt
        (fun n i _ hi _ => by
          refine ⟨trivial, ?_⟩
          show f_L_logged_130 N tS kc cnt (n + 1) (nI cnt) (nI i) θ υ σ τ ν = f_L_logged_130 N tS kc cnt n (nI cnt) (nI (i + 1)) θ υ σ τ ν
          rw [f_L_logged_130, if_neg (nI_ge hi (by omega)), v_stateOf D hi, Option.bind_some, nI_1]
          by_cases s3 : σ 21 i = 3
          · rw [if_pos s3, if_pos (ib_nI hi (by omega)), v_solvedAt D hi, Option.bind_some, ix_nI (by omega), if_pos (by rw [hν i hi, l5 hlt i hi]; exact h4 i hi s3)]
          · rw [if_neg s3])
        (fun n _ _ => by
          show f_L_logged_130 N tS kc cnt (n + 1) (nI cnt) (nI cnt) θ υ σ τ ν = _
          rw [f_L_logged_130, if_pos (nI_le (Nat.le_refl _) (by omega))]) () trivial N (by omega)).2
    have f52 : ∀ ν : Sg, (∀ t, t < cnt → ν 1 t = -1) → f_L_logged_52 N tS kc cnt N (nI cnt) (nI ln) 0 θ υ σ τ ν = some 1 := fun ν hν => by
      have step : ∀ (k e n : Nat) (ν : Sg), e + k = ln → k < n → (∀ t, t < cnt → ν 1 t = lsv σ t e) → f_L_logged_52 N tS kc cnt n (nI cnt) (nI ln) (nI e) θ υ σ τ ν = some 1 := by
        intro k
        induction k with
        | zero =>
          intro e n ν he hn hν
          obtain ⟨n, rfl⟩ : ∃ q, n = q + 1 := ⟨n - 1, by omega⟩
          obtain rfl : e = ln := by omega
          rw [f_L_logged_52, if_pos (nI_le (Nat.le_refl _) (by omega))]
          exact f130 ν hν
        | succ k ih =>
          intro e n ν he hn hν
          obtain ⟨n, rfl⟩ : ∃ q, n = q + 1 := ⟨n - 1, by omega⟩
          have hel : e < ln := by omega
          obtain ⟨ν', g1, g2⟩ := lg_88 (θ := θ) (υ := υ) (τ := τ) (tS := tS) (N := N) D l2 l1 hel (l3 e hel).2 (fun x1 x2 x4 θ υ σ τ ν => f_L_logged_52 N tS kc cnt n x1 x2 x4 θ υ σ τ ν) (nI cnt) (nI ln) ν hν
          rw [f_L_logged_52, if_neg (nI_ge hel (by omega)), g1]
          have next := ih (e + 1) n ν' (by omega) (by omega) g2
          by_cases e0 : e = 0
          · rw [if_pos (show nI e ≤ 0 by rw [e0]; decide)]
            exact next
          · have em : nI e - 1 = nI (e - 1) := nI_sub' (b := 1) (by omega) (by omega)
            have h8 := l4 (e - 1) (by omega)
            rw [show e - 1 + 1 = e by omega] at h8
            rw [if_neg (show ¬ nI e ≤ 0 from nI_ge (a := 0) (by omega) (by omega)), v_logTime l2 l1 hel, Option.bind_some, em, v_logTime l2 l1 (show e - 1 < ln by omega), Option.bind_some, if_pos h8]
            exact next
      exact step ln 0 N ν (by omega) (by omega) hν
    have key := lift_itr (α := Sg) (fun n i ν => f_L_logged_32 N tS kc cnt n (nI cnt) (nI ln) i θ υ σ τ ν) (fun i ν => up ν 1 i (-1)) (fun i ν => ∀ t, t < i → ν 1 t = -1) (fun ν => f_L_logged_52 N tS kc cnt N (nI cnt) (nI ln) 0 θ υ σ τ ν) cnt
      (fun n i ν hi I => by
        refine ⟨fun t ht => ?_, ?_⟩
        · rw [up_ite]
          by_cases y : t = i
          · rw [if_pos ⟨rfl, y⟩]
          · rw [if_neg (fun w => y w.2)]
            exact I t (by omega)
        · show f_L_logged_32 N tS kc cnt (n + 1) (nI cnt) (nI ln) (nI i) θ υ σ τ ν = f_L_logged_32 N tS kc cnt n (nI cnt) (nI ln) (nI (i + 1)) θ υ σ τ (up ν 1 i (-1))
          rw [f_L_logged_32, if_neg (nI_ge hi (by omega)), if_pos (ib_nI hi (by omega)), ix_nI (by omega), nI_1])
      (fun n ν I => by
        show f_L_logged_32 N tS kc cnt (n + 1) (nI cnt) (nI ln) (nI cnt) θ υ σ τ ν = _
        rw [f_L_logged_32, if_pos (nI_le (Nat.le_refl _) (by omega))]) zS (fun t ht => absurd ht (Nat.not_lt_zero _)) N (by omega)
    refine Eq.trans key.2 ?_
    exact f52 _ key.1
end Qe
