section Qb
variable {cnt kc T hl m : Nat} {σ σ' θ υ τ : Sg} {tS : Nat → Nat}
/-! p62's law: joining, solving -/
theorem lgc0 (x : Int64) : lg_cmp x x = 0 := by
  unfold lg_cmp
  rw [if_neg (show ¬ x > x from Int64.lt_irrefl), if_pos rfl]
theorem al_iff {t : Nat} (hs : ST σ t) : (3 ≤ σ 21 t) ↔ ¬ (σ 21 t = 0 ∨ σ 21 t = 1 ∨ σ 21 t = 2) := by
  obtain ⟨s, h1, h2⟩ := hs
  rw [h2]
  have : s = 0 ∨ s = 1 ∨ s = 2 ∨ s = 3 ∨ s = 4 := by omega
  rcases this with rfl | rfl | rfl | rfl | rfl <;> decide
theorem joins_no (D : DI cnt kc T hl σ) {N : Nat} (hN : 100 < N) {t r : Nat} (ht : t < cnt) (hr : r < cnt) (ha : ¬ (t ≠ r ∧ (σ 21 t = 0 ∨ σ 21 t = 1 ∨ σ 21 t = 2) ∧ (σ 21 r = 0 ∨ σ 21 r = 1 ∨ σ 21 r = 2))) : f_L_joins_33 N tS kc (nI t) (nI r) θ υ σ τ = some (1, σ) := by
  unfold f_L_joins_33 f_X8_logSize
  rw [v_twins D ht hN, Option.bind_some, v_twins D hr hN, Option.bind_some, Option.bind_some, n_join D N ht hr ha, Option.bind_some, if_pos rfl]
theorem joins_v (D : DI cnt kc T hl σ) (hh : hl < 200) {N : Nat} (hN : 100 < N) {t r : Nat} (ht : t < cnt) (hr : r < cnt) : ∃ σ' hl', f_L_joins N tS kc (nI t) (nI r) θ υ σ τ = some (1, σ') ∧ DI cnt kc T hl' σ' ∧ hl' ≤ hl + 1 ∧ Lo σ σ' := by
  have h60 := D.b.2.1
  have I := D.ri
  unfold f_L_joins
  by_cases q : t = r
  · rw [if_pos (show nI t = nI r by rw [q]), joins_no D hN ht hr (fun z => z.1 q)]
    exact ⟨σ, hl, rfl, D, by omega, fun _ _ => rfl⟩
  · rw [if_neg (show ¬ nI t = nI r from fun z => q ((nI_eq (by omega) (by omega)).mp z)), v_stateOf D ht, Option.bind_some]
    by_cases at1 : σ 21 t = 0 ∨ σ 21 t = 1 ∨ σ 21 t = 2
    · rw [if_neg (show ¬ 3 ≤ σ 21 t from fun z => (al_iff (I t ht).1).mp z at1), v_stateOf D hr, Option.bind_some]
      by_cases ar : σ 21 r = 0 ∨ σ 21 r = 1 ∨ σ 21 r = 2
      · obtain ⟨σ', j1, j2, j3, j4, j5, j6⟩ := p_join D hh hN ht hr q at1 ar
        have both : mk (fun j => decide (σ 26 j = nI t)) cnt ||| mk (fun j => decide (σ 26 j = nI r)) cnt ||| ((1 : Int64) <<< ((nI t).toInt64 &&& 63)) = mk (fun j => decide (σ' 26 j = nI r)) cnt := by
          rw [mk_one h60 ht, mk_or _ _ h60, mk_or _ _ h60]
          refine mk_ext _ _ (fun k hk => ?_)
          rw [j3]
          by_cases z : k = t
          · rw [if_pos (Or.inl z)]
            simp [z]
          · by_cases y : σ 26 k = nI t
            · rw [if_pos (Or.inr ⟨hk, y⟩)]
              simp [y]
            · rw [if_neg (fun w => w.elim z (fun w => y w.2))]
              simp [z, y]
        have none : mk (fun j => decide (σ' 26 j = nI t)) cnt = 0 := mk_none (fun k hk => by
          have nrt : nI r ≠ nI t := fun z => q ((nI_eq (by omega) (by omega)).mp z).symm
          rw [j3]
          by_cases z : k = t ∨ k < cnt ∧ σ 26 k = nI t
          · rw [if_pos z]
            exact decide_eq_false nrt
          · rw [if_neg z]
            exact decide_eq_false (fun w => z (Or.inr ⟨hk, w⟩)))
        have s21 : σ' 26 t = nI r := by rw [j3, if_pos (Or.inl rfl)]
        refine ⟨σ', hl + 1, ?_, j2, by omega, j6⟩
        rw [if_neg (show ¬ 3 ≤ σ 21 r from fun z => (al_iff (I r hr).1).mp z ar), v_twins D ht hN, Option.bind_some, v_twins D hr hN, Option.bind_some]
        unfold f_X8_logSize
        rw [Option.bind_some, j1, Option.bind_some, both, bc_mk _ h60, Option.bind_some, if_pos rfl, v_twins j2 hr hN, Option.bind_some, if_pos (lgc0 _), v_twins j2 ht hN, Option.bind_some, none, if_pos (lgc0 _), v_stateOf j2 ht, Option.bind_some, if_pos j4, v_rootOf j2 ht, Option.bind_some, if_pos s21, told_v D j2 j5, Option.bind_some, if_neg (by decide)]
      · rw [if_pos (show 3 ≤ σ 21 r from (al_iff (I r hr).1).mpr ar), joins_no D hN ht hr (fun z => ar z.2.2)]
        exact ⟨σ, hl, rfl, D, by omega, fun _ _ => rfl⟩
    · rw [if_pos (show 3 ≤ σ 21 t from (al_iff (I t ht).1).mpr at1), joins_no D hN ht hr (fun z => at1 z.2.1)]
      exact ⟨σ, hl, rfl, D, by omega, fun _ _ => rfl⟩
/-! solving and opening again -/
theorem s344_v (D : DI cnt kc T hl σ) (N : Nat) {t : Nat} (ht : t < cnt) (h : ∀ j, j < cnt → σ 26 j = nI t → σ 21 j = 4 ∧ σ 29 j = -1) {n : Nat} (hn : cnt < n) : f_L_solves_344 N tS kc n (nI t) 0 θ υ σ τ = some (1, θ, σ, τ) := by
  obtain ⟨-, h60, -, -, -, h15, -, -⟩ := D.b
  exact (lift_itr (α := Unit) (fun n i _ => f_L_solves_344 N tS kc n (nI t) i θ υ σ τ) (fun _ a => a) (fun _ _ => True) (fun _ => some (1, θ, σ, τ)) cnt
    (fun n i _ hi _ => by
      refine ⟨trivial, ?_⟩
      show f_L_solves_344 N tS kc (n + 1) (nI t) (nI i) θ υ σ τ = f_L_solves_344 N tS kc n (nI t) (nI (i + 1)) θ υ σ τ
      rw [f_L_solves_344]
      unfold f_X8_ticketCount
      rw [Option.bind_some, h15, if_neg (nI_ge hi (by omega)), v_rootOf D hi, Option.bind_some, nI_1]
      by_cases q : σ 26 i = nI t
      · obtain ⟨a, b⟩ := h i hi q
        rw [if_pos q, v_stateOf D hi, Option.bind_some, if_pos a, v_solvedAt D hi, Option.bind_some, if_pos b]
      · rw [if_neg q])
    (fun n _ _ => by
      show f_L_solves_344 N tS kc (n + 1) (nI t) (nI cnt) θ υ σ τ = _
      rw [f_L_solves_344]
      unfold f_X8_ticketCount
      rw [Option.bind_some, h15, if_pos (nI_le (Nat.le_refl _) (by omega))]) () trivial n hn).2
theorem s121_v (D : DI cnt kc T hl σ) {N : Nat} {t : Nat} (ht : t < cnt) (h : ∀ j, j < cnt → σ 26 j = nI t → σ 21 j = 3 ∧ σ 29 j = nI T) (x3 x4 x5 : Int32) {n : Nat} (hn : cnt < n) : f_L_solves_121 N tS kc n (nI t) x3 x4 x5 0 θ υ σ τ = f_L_solves_121 N tS kc 1 (nI t) x3 x4 x5 (nI cnt) θ υ σ τ := by
  obtain ⟨-, h60, -, -, h12, h15, -, -⟩ := D.b
  exact (lift_itr (α := Unit) (fun n i _ => f_L_solves_121 N tS kc n (nI t) x3 x4 x5 i θ υ σ τ) (fun _ a => a) (fun _ _ => True) (fun _ => f_L_solves_121 N tS kc 1 (nI t) x3 x4 x5 (nI cnt) θ υ σ τ) cnt
    (fun n i _ hi _ => by
      refine ⟨trivial, ?_⟩
      show f_L_solves_121 N tS kc (n + 1) (nI t) x3 x4 x5 (nI i) θ υ σ τ = f_L_solves_121 N tS kc n (nI t) x3 x4 x5 (nI (i + 1)) θ υ σ τ
      rw [f_L_solves_121]
      unfold f_X8_ticketCount
      rw [Option.bind_some, h15, if_neg (nI_ge hi (by omega)), v_rootOf D hi, Option.bind_some, nI_1]
      by_cases q : σ 26 i = nI t
      · obtain ⟨a, b⟩ := h i hi q
        unfold f_X8_now
        rw [if_pos q, v_stateOf D hi, Option.bind_some, if_pos a, v_solvedAt D hi, Option.bind_some, Option.bind_some, if_pos (by rw [b, h12]), n_reopen D N hi (fun z => nI_m1 (by omega) (q.symm.trans z.2)), Option.bind_some, if_pos rfl]
      · rw [if_neg q])
    (fun n _ _ => by
      show f_L_solves_121 N tS kc (n + 1) (nI t) x3 x4 x5 (nI cnt) θ υ σ τ = f_L_solves_121 N tS kc (0 + 1) (nI t) x3 x4 x5 (nI cnt) θ υ σ τ
      rw [f_L_solves_121, f_L_solves_121]
      unfold f_X8_ticketCount
      rw [Option.bind_some, h15, if_pos (nI_le (Nat.le_refl _) (by omega)), Option.bind_some, if_pos (nI_le (Nat.le_refl _) (by omega))]) () trivial n hn).2
/-- what a law's step leaves -/
def LaS (kc cnt T hl m : Nat) (tS : Nat → Nat) (σ θ' σ' : Sg) (dm dh : Nat) : Prop := ∃ cnt' hl' m', DI cnt' kc T hl' σ' ∧ hl' ≤ hl + dh ∧ cnt ≤ cnt' ∧ Lo σ σ' ∧ θ' 70 0 = nI m' ∧ m' ≤ m + dm
theorem solves_v (D : DI cnt kc T hl σ) (hh : hl + 2 ≤ 200) (hL : tS 5 ≤ 260) (hm : θ 70 0 = nI m) (hm2 : m < 10000) {N : Nat} (hN : 10100 < N) {t : Nat} (ht : t < cnt) : ∃ θ' σ' τ', f_L_solves N tS kc (nI t) (σ 21 t) θ υ σ τ = some (1, θ', σ', τ') ∧ LaS kc cnt T hl m tS σ θ' σ' 1 2 := by
  have hN1 : 100 < N := by omega
  obtain ⟨hT, h60, -, -, h12, h15, -, -⟩ := D.b
  have I := D.ri
  unfold f_L_solves
  rw [v_twins D ht hN1, Option.bind_some, bc_mk _ h60, Option.bind_some, v_resolveClock D ht, Option.bind_some, v_levelOf D ht, Option.bind_some]
  by_cases al : σ 21 t = 0 ∨ σ 21 t = 1 ∨ σ 21 t = 2
  · obtain ⟨σ1, s1, s2, s3, s4, ⟨s5, s6, s7⟩, s8⟩ := p_solve D (by omega) hN1 ht al
    have le2 : σ 21 t ≤ 2 := by rcases al with z | z | z <;> rw [z] <;> decide
    have e3 : nI (1 + fb_ct (rtB σ t) cnt) = nI (fb_ct (fun j => decide (σ 26 j = nI t)) cnt) + 1 := by
      rw [nI_1, Nat.add_comm]
      rfl
    have t3 : σ1 21 t = 3 := by rw [s3, if_pos (Or.inl rfl)]
    have t29 : σ1 29 t = nI T := by rw [s4, if_pos (Or.inl rfl)]
    obtain ⟨⟨μ, V⟩, J⟩ := id s2
    obtain ⟨μF, hF⟩ := fu_ex V hN1
    have f1 := (fu_v V s2.jr hN1 hF ht).1 t3
    obtain ⟨τ1, f2⟩ := fc_v V hN hF ht τ
    rw [f1, t29] at f2
    have n1 : σ1 12 0 = nI T := s2.b.2.2.2.2.1
    rw [s1, Option.bind_some, if_pos le2, if_pos e3, v_stateOf s2 ht, Option.bind_some, if_pos t3, v_solvedAt s2 ht, Option.bind_some]
    unfold f_X8_now
    rw [Option.bind_some, if_pos (by rw [t29]; exact n1.symm), f2, Option.bind_some, Option.bind_some, if_pos n1.symm]
    have tw : ∀ j, j < cnt → σ1 26 j = nI t → σ1 21 j = 3 ∧ σ1 29 j = nI T := fun j hj q => by
      rw [s7] at q
      rw [s3, s4, if_pos (Or.inr ⟨hj, q⟩), if_pos (Or.inr ⟨hj, q⟩)]
      exact ⟨rfl, rfl⟩
    rw [s121_v s2 ht tw _ _ _ (show cnt < N by omega), show (1 : Nat) = 0 + 1 from rfl, f_L_solves_121]
    unfold f_X8_ticketCount
    rw [Option.bind_some, s2.b.2.2.2.2.2.1, if_pos (nI_le (Nat.le_refl _) (by omega)), n_pause s2 N ht (by rw [t3]; decide), Option.bind_some, if_pos rfl, n_prio s2 N ht t3, Option.bind_some, if_pos rfl, n_climb s2 N ht (by rw [t3]; exact fun z => absurd z.1 (by decide)), Option.bind_some, if_pos rfl, n_part s2 N ht (by rw [t3]; decide), Option.bind_some, if_pos rfl]
    obtain ⟨r, r1, r2⟩ := draw_v (kc := kc) hL hm hm2 (n := 2) (by decide) (by decide)
    rw [show f_L_draw tS kc 2 θ = some (nI r, up θ 70 0 (nI (m + 1))) from r2, Option.bind_some]
    by_cases r0 : nI r = 0
    · rw [if_pos r0]
      exact ⟨_, _, _, rfl, cnt, hl + 1, m + 1, s2, by omega, Nat.le_refl _, s8, up_same θ 70 0 _, by omega⟩
    · have a26 : σ1 26 t = -1 := by
        rw [s7]
        exact I.alone ht al
      obtain ⟨σ2, u1, u2, u3, u4, u5, ⟨u6, u7, u8⟩, u9⟩ := p_reopen s2 (by omega) hN1 ht t3 a26
      have er : rtB σ1 t = rtB σ t := by
        unfold rtB
        rw [s7]
      have nt : ¬ (t < cnt ∧ σ1 26 t = nI t) := fun z => nI_m1 (by omega) (z.2.symm.trans a26)
      rw [er, e3] at u1
      rw [if_neg r0, u1, Option.bind_some, if_pos rfl, v_stateOf u2 ht, Option.bind_some, if_pos (by rw [u3, if_neg nt, if_pos rfl]), v_solvedAt u2 ht, Option.bind_some, if_pos (by rw [u4, if_neg nt, if_pos rfl]), v_resolveClock u2 ht, Option.bind_some, if_pos (by rw [u7, s6]), v_levelOf u2 ht, Option.bind_some, if_pos (by rw [u6, s5]), v_progress u2 ht, Option.bind_some, if_pos u5]
      rw [s344_v u2 N ht (fun j hj q => by
        rw [u8] at q
        rw [u3, u4, if_pos ⟨hj, q⟩, if_pos ⟨hj, q⟩]
        exact ⟨rfl, rfl⟩) (show cnt < N by omega)]
      exact ⟨_, _, _, rfl, cnt, hl + 2, m + 1, u2, by omega, Nat.le_refl _, s8.tr u9, up_same θ 70 0 _, by omega⟩
  · have nle : ¬ σ 21 t ≤ 2 := fun z => by
      obtain ⟨s, a, b⟩ := (I t ht).1
      rw [b] at z al
      have : s = 0 ∨ s = 1 ∨ s = 2 ∨ s = 3 ∨ s = 4 := by omega
      rcases this with rfl | rfl | rfl | rfl | rfl
      · exact al (Or.inl rfl)
      · exact al (Or.inr (Or.inl rfl))
      · exact al (Or.inr (Or.inr rfl))
      · exact absurd z (by decide)
      · exact absurd z (by decide)
    rw [n_solve D N ht al, Option.bind_some, if_neg nle, if_pos rfl]
    exact ⟨_, _, _, rfl, cnt, hl, m, D, by omega, Nat.le_refl _, fun _ _ => rfl, hm, by omega⟩
end Qb
