section Qc
variable {cnt kc T hl m : Nat} {σ σ' θ υ τ : Sg} {tS : Nat → Nat}
/-! p62's law: an act -/
abbrev repE (N : Nat) (tS : Nat → Nat) (kc : Nat) (p c : Int32) (θ υ σ τ : Sg) : Option (Int32 × Sg × Sg × Sg) := (f_L_draw tS kc (Int32.ofNat kc) θ).bind (fun p12 => (f_L_draw tS kc 100 p12.2).bind (fun p14 => (f_L_draw tS kc 3 p14.2).bind (fun p16 => (f_L_draw tS kc 4 p16.2).bind (fun p18 => (f_X8_report N p12.1 p14.1 p16.1 p18.1 σ).bind (fun p20 => (if p20.1 = c then (f_X8_stateOf c p20.2).bind (fun p23 => (if p23 = 0 then (f_X8_reportedAt c p20.2).bind (fun p26 => (f_X8_now p20.2).bind (fun p28 => (if p26 = p28 then (f_X8_answeredAt c p20.2).bind (fun p31 => (if p31 = (-1) then (f_X8_solvedAt c p20.2).bind (fun p34 => (if p34 = (-1) then (f_X8_rootOf c p20.2).bind (fun p37 => (if p37 = (-1) then (f_L_told tS kc p 0 c p12.1 p18.2 υ p20.2 τ).bind (fun p40 => (if p40 = 0 then some (0, p18.2, p20.2, τ) else some (1, p18.2, p20.2, τ))) else some (0, p18.2, p20.2, τ))) else some (0, p18.2, p20.2, τ))) else some (0, p18.2, p20.2, τ))) else some (0, p18.2, p20.2, τ)))) else some (0, p18.2, p20.2, τ))) else some (0, p18.2, p20.2, τ)))))))
theorem draw_w (hL : tS 5 ≤ 260) (hm : θ 70 0 = nI m) (hm2 : m < 10000) {n : Nat} (h1 : 1 ≤ n) (h2 : n < 1000) : ∃ r θ', r < n ∧ f_L_draw tS kc (nI n) θ = some (nI r, θ') ∧ θ' 70 0 = nI (m + 1) := by
  obtain ⟨r, r1, r2⟩ := draw_v (kc := kc) hL hm hm2 h1 h2
  exact ⟨r, _, r1, r2, up_same _ _ _ _⟩
theorem rep_v (D : DI cnt kc T hl σ) (hk : 1 ≤ kc) (hh : hl < 200) (hc : cnt < 60) (hL : tS 5 ≤ 260) (hm : θ 70 0 = nI m) (hm2 : m < 9000) {N : Nat} (hN : 10100 < N) : ∃ θ' σ' τ', repE N tS kc (σ 7 0) (nI cnt) θ υ σ τ = some (1, θ', σ', τ') ∧ LaS kc cnt T hl m tS σ θ' σ' 4 2 := by
  have hk6 := D.b.2.2.1
  obtain ⟨k, θ1, k1, k2, k3⟩ := draw_w (kc := kc) hL hm (by omega) (n := kc) hk (by omega)
  obtain ⟨a, θ2, a1, a2, a3⟩ := draw_w (kc := kc) hL k3 (by omega) (n := 100) (by decide) (by decide)
  obtain ⟨b, θ3, b1, b2, b3⟩ := draw_w (kc := kc) hL a3 (by omega) (n := 3) (by decide) (by decide)
  obtain ⟨d, θ4, d1, d2, d3⟩ := draw_w (kc := kc) hL b3 (by omega) (n := 4) (by decide) (by decide)
  obtain ⟨σ1, g1, g2, ⟨g3, g4, g5, g6, g7⟩, g8, g9⟩ := p_report D hh hc (N := N) (by omega) k1 a1 (Nat.lt_of_lt_of_le b1 (by decide)) d1
  have hc' : cnt < cnt + 1 := Nat.lt_succ_self _
  have n1 : σ1 12 0 = nI T := g2.b.2.2.2.2.1
  refine ⟨θ4, σ1, τ, ?_, cnt + 1, hl + 1, m + 1 + 1 + 1 + 1, g2, by omega, by omega, g9, d3, by omega⟩
  unfold repE
  rw [show f_L_draw tS kc (Int32.ofNat kc) θ = some (nI k, θ1) from k2, Option.bind_some]
  dsimp only
  rw [show f_L_draw tS kc 100 θ1 = some (nI a, θ2) from a2, Option.bind_some]
  dsimp only
  rw [show f_L_draw tS kc 3 θ2 = some (nI b, θ3) from b2, Option.bind_some]
  dsimp only
  rw [show f_L_draw tS kc 4 θ3 = some (nI d, θ4) from d2, Option.bind_some]
  dsimp only
  rw [g1, Option.bind_some]
  dsimp only
  unfold f_X8_now
  rw [if_pos rfl, v_stateOf g2 hc', Option.bind_some, if_pos g3, v_reportedAt g2 hc', Option.bind_some, Option.bind_some, if_pos (by rw [g4, n1]), v_answeredAt g2 hc', Option.bind_some, if_pos g5, v_solvedAt g2 hc', Option.bind_some, if_pos g6, v_rootOf g2 hc', Option.bind_some, if_pos g7, told_v D g2 g8, Option.bind_some, if_neg (by decide)]
theorem clk0 (D : DI cnt kc T hl σ) {t : Nat} (ht : t < cnt) : 0 ≤ σ 25 t := by
  obtain ⟨⟨μ, V⟩, -⟩ := D
  have := (V.1.2.2.1.2.2.2.2.2.2.2 t ht).1.2.2.2.1
  exact z_le.mpr (by rw [z_0]; exact this)
theorem st_2 {t : Nat} (hs : ST σ t) : (σ 21 t ≤ 1 ↔ (σ 21 t = 0 ∨ σ 21 t = 1)) ∧ (1 < σ 21 t ↔ ¬ (σ 21 t = 0 ∨ σ 21 t = 1)) ∧ (2 ≤ σ 21 t ↔ ¬ (σ 21 t = 0 ∨ σ 21 t = 1)) := by
  obtain ⟨s, h1, h2⟩ := hs
  rw [h2]
  have : s = 0 ∨ s = 1 ∨ s = 2 ∨ s = 3 ∨ s = 4 := by omega
  rcases this with rfl | rfl | rfl | rfl | rfl <;> decide
theorem twin_bit (D : DI cnt kc T hl σ) {t : Nat} (ht : t < cnt) {x : Int32} (h : σ 26 t ≠ x) : lg_cmp ((mk (fun j => decide (σ 26 j = x)) cnt >>> ((nI t).toInt64 &&& 63)) &&& 1) 0 = 0 := by
  rw [mk_bit _ D.b.2.1 ht, if_neg (by rw [decide_eq_false h]; decide)]
  exact lgc0 0
theorem acts_v (D : DI cnt kc T hl σ) (hk : 1 ≤ kc) (hh : hl + 2 ≤ 200) (hc : cnt < 60) (hL : tS 5 ≤ 260) (hm : θ 70 0 = nI m) (hm2 : m < 8000) {N : Nat} (hN : 10100 < N) : ∃ θ' σ' τ', f_L_acts N tS kc θ υ σ τ = some (1, θ', σ', τ') ∧ LaS kc cnt T hl m tS σ θ' σ' 6 2 := by
  have hN1 : 100 < N := by omega
  obtain ⟨hT, h60, -, -, h12, h15, -, -⟩ := D.b
  have I := D.ri
  have hmax : (if 1 < nI cnt then nI cnt else 1) = nI (max 1 cnt) := by
    by_cases z : 1 < cnt
    · rw [if_pos (show (1 : Int32) < nI cnt from Int32.not_le.mp (nI_ge' (b := cnt) (a := 1) z (by omega))), Nat.max_eq_right (by omega)]
    · rw [if_neg (show ¬ (1 : Int32) < nI cnt from Int32.not_lt.mpr (nI_le' (b := 1) (a := cnt) (by omega) (by omega))), Nat.max_eq_left (by omega)]
      rfl
  obtain ⟨t, θ1, t1, t2, t3⟩ := draw_w (kc := kc) hL hm (by omega) (n := max 1 cnt) (by omega) (by omega)
  obtain ⟨a, θ2, a1, a2, a3⟩ := draw_w (kc := kc) hL t3 (by omega) (n := 8) (by decide) (by decide)
  have a2' : f_L_draw tS kc 8 θ1 = some (nI a, θ2) := a2
  have base : ∀ dm, 2 ≤ dm → LaS kc cnt T hl m tS σ θ2 σ dm 2 := fun dm hd => ⟨cnt, hl, m + 2, D, by omega, Nat.le_refl _, fun _ _ => rfl, a3, by omega⟩
  have step : ∀ (σ' : Sg) (hl' : Nat), DI cnt kc T hl' σ' → hl' ≤ hl + 2 → Lo σ σ' → LaS kc cnt T hl m tS σ θ2 σ' 6 2 := fun σ' hl' D' h1 h2 => ⟨cnt, hl', m + 2, D', h1, Nat.le_refl _, h2, a3, by omega⟩
  have rep : ∃ θ' σ' τ', repE N tS kc (σ 7 0) (nI cnt) θ2 υ σ τ = some (1, θ', σ', τ') ∧ LaS kc cnt T hl m tS σ θ' σ' 6 2 := by
    obtain ⟨θ', σ', τ', e1, cnt', hl', m', e2, e3, e4, e5, e6, e7⟩ := rep_v (υ := υ) (τ := τ) D hk (by omega) hc hL a3 (by omega) hN
    exact ⟨θ', σ', τ', e1, cnt', hl', m', e2, e3, e4, e5, e6, by omega⟩
  unfold f_L_acts f_X8_ticketCount f_X8_logSize
  rw [Option.bind_some, h15, hmax, t2, Option.bind_some]
  dsimp only
  by_cases c0 : cnt = 0
  · have e0 : nI cnt = 0 := by rw [c0]; rfl
    have e2 : nI cnt < 2 := by rw [c0]; decide
    rw [if_pos e0, Option.bind_some, a2', Option.bind_some]
    dsimp only
    have : a = 0 ∨ a = 1 ∨ a = 2 ∨ a = 3 ∨ a = 4 ∨ a = 5 ∨ (a ≠ 0 ∧ a ≠ 1 ∧ a ≠ 2 ∧ a ≠ 3 ∧ a ≠ 4 ∧ a ≠ 5) := by omega
    rcases this with rfl | rfl | rfl | rfl | rfl | rfl | ⟨n0, n1, n2, n3, n4, n5⟩
    · rw [if_pos (show nI 0 = 0 from rfl), if_pos e0]
      exact ⟨_, _, _, rfl, base 6 (by decide)⟩
    · rw [if_neg (show ¬ nI 1 = 0 by decide), if_pos (show nI 1 = 1 from rfl), if_pos e0]
      exact ⟨_, _, _, rfl, base 6 (by decide)⟩
    · rw [if_neg (show ¬ nI 2 = 0 by decide), if_neg (show ¬ nI 2 = 1 by decide), if_pos (show nI 2 = 2 from rfl), if_pos e0]
      exact ⟨_, _, _, rfl, base 6 (by decide)⟩
    · rw [if_neg (show ¬ nI 3 = 0 by decide), if_neg (show ¬ nI 3 = 1 by decide), if_neg (show ¬ nI 3 = 2 by decide), if_pos (show nI 3 = 3 from rfl), if_pos e0]
      exact ⟨_, _, _, rfl, base 6 (by decide)⟩
    · rw [if_neg (show ¬ nI 4 = 0 by decide), if_neg (show ¬ nI 4 = 1 by decide), if_neg (show ¬ nI 4 = 2 by decide), if_neg (show ¬ nI 4 = 3 by decide), if_pos (show nI 4 = 4 from rfl), if_pos e2]
      exact ⟨_, _, _, rfl, base 6 (by decide)⟩
    · rw [if_neg (show ¬ nI 5 = 0 by decide), if_neg (show ¬ nI 5 = 1 by decide), if_neg (show ¬ nI 5 = 2 by decide), if_neg (show ¬ nI 5 = 3 by decide), if_neg (show ¬ nI 5 = 4 by decide), if_pos (show nI 5 = 5 from rfl), if_pos e0]
      exact ⟨_, _, _, rfl, base 6 (by decide)⟩
    · have ne : ∀ b : Nat, b < 8 → a ≠ b → ¬ nI a = nI b := fun b hb q z => q ((nI_eq (by omega) (by omega)).mp z)
      rw [if_neg (show ¬ nI a = 0 from ne 0 (by decide) n0), if_neg (show ¬ nI a = 1 from ne 1 (by decide) n1), if_neg (show ¬ nI a = 2 from ne 2 (by decide) n2), if_neg (show ¬ nI a = 3 from ne 3 (by decide) n3), if_neg (show ¬ nI a = 4 from ne 4 (by decide) n4), if_neg (show ¬ nI a = 5 from ne 5 (by decide) n5)]
      exact rep
  · have e0 : ¬ nI cnt = 0 := fun z => c0 ((nI_eq (b := 0) (by omega) (by decide)).mp z)
    have ht : t < cnt := by omega
    have s2 := st_2 (I t ht).1
    rw [if_neg e0, v_stateOf D ht, Option.bind_some, Option.bind_some, a2', Option.bind_some]
    dsimp only
    have : a = 0 ∨ a = 1 ∨ a = 2 ∨ a = 3 ∨ a = 4 ∨ a = 5 ∨ (a ≠ 0 ∧ a ≠ 1 ∧ a ≠ 2 ∧ a ≠ 3 ∧ a ≠ 4 ∧ a ≠ 5) := by omega
    rcases this with rfl | rfl | rfl | rfl | rfl | rfl | ⟨n0, n1, n2, n3, n4, n5⟩
    · rw [if_pos (show nI 0 = 0 from rfl), if_neg e0]
      by_cases al : σ 21 t = 0 ∨ σ 21 t = 1
      · obtain ⟨σ1, g1, g2, g3, g4, g5⟩ := p_pause D (by omega) hN1 ht al
        rw [g1, Option.bind_some]
        dsimp only
        rw [if_pos (clk0 D ht), if_pos (s2.1.mpr al), if_neg (show ¬ 1 < σ 21 t from fun z => s2.2.1.mp z al), v_stateOf g2 ht, Option.bind_some, if_pos g3, told_v D g2 g4, Option.bind_some, if_neg (by decide)]
        exact ⟨_, _, _, rfl, step σ1 _ g2 (by omega) g5⟩
      · rw [n_pause D N ht al, Option.bind_some]
        dsimp only
        rw [if_neg (show ¬ (0 : Int32) ≤ -5 by decide), if_neg (show ¬ σ 21 t ≤ 1 from fun z => al (s2.1.mp z)), if_pos (s2.2.1.mpr al)]
        exact ⟨_, _, _, rfl, base 6 (by decide)⟩
    · rw [if_neg (show ¬ nI 1 = 0 by decide), if_pos (show nI 1 = 1 from rfl), if_neg e0]
      by_cases al : σ 21 t = 2
      · obtain ⟨σ1, g1, g2, g3, g4, g5⟩ := p_resume D (by omega) hN1 ht al
        rw [g1, Option.bind_some]
        dsimp only
        rw [if_pos (clk0 D ht), if_pos al, if_pos al, v_stateOf g2 ht, Option.bind_some, if_pos g3, told_v D g2 g4, Option.bind_some, if_neg (by decide)]
        exact ⟨_, _, _, rfl, step σ1 _ g2 (by omega) g5⟩
      · rw [n_resume D N ht al, Option.bind_some]
        dsimp only
        rw [if_neg (show ¬ (0 : Int32) ≤ -5 by decide), if_neg al, if_neg al]
        exact ⟨_, _, _, rfl, base 6 (by decide)⟩
    · rw [if_neg (show ¬ nI 2 = 0 by decide), if_neg (show ¬ nI 2 = 1 by decide), if_pos (show nI 2 = 2 from rfl), if_neg e0, v_levelOf D ht, Option.bind_some]
      by_cases al : (σ 21 t = 0 ∨ σ 21 t = 1) ∧ ¬ 3 ≤ σ 20 t
      · obtain ⟨σ1, g1, g2, g3, g4, g5, g6, g7⟩ := p_climb D (by omega) hN1 ht al.1 al.2
        rw [g1, Option.bind_some]
        dsimp only
        rw [if_neg (show ¬ 2 ≤ σ 21 t from fun z => s2.2.2.mp z al.1), if_neg al.2, if_pos rfl, v_levelOf g2 ht, Option.bind_some, if_pos g3, v_stateOf g2 ht, Option.bind_some, if_pos g4, v_progress g2 ht, Option.bind_some, if_pos g5, told_v D g2 g6, Option.bind_some, if_neg (by decide)]
        exact ⟨_, _, _, rfl, step σ1 _ g2 (by omega) g7⟩
      · rw [n_climb D N ht al, Option.bind_some]
        dsimp only
        rw [if_pos (show (-5 : Int32) = -5 from rfl)]
        by_cases b1 : σ 21 t = 0 ∨ σ 21 t = 1
        · have b2 : 3 ≤ σ 20 t := by
            by_cases z : 3 ≤ σ 20 t
            · exact z
            · exact absurd ⟨b1, z⟩ al
          rw [if_neg (show ¬ 2 ≤ σ 21 t from fun z => s2.2.2.mp z b1), if_pos b2]
          exact ⟨_, _, _, rfl, base 6 (by decide)⟩
        · rw [if_pos (s2.2.2.mpr b1)]
          exact ⟨_, _, _, rfl, base 6 (by decide)⟩
    · rw [if_neg (show ¬ nI 3 = 0 by decide), if_neg (show ¬ nI 3 = 1 by decide), if_neg (show ¬ nI 3 = 2 by decide), if_pos (show nI 3 = 3 from rfl), if_neg e0]
      obtain ⟨b, θ3, b1, b2, b3⟩ := draw_w (kc := kc) hL a3 (by omega) (n := 2) (by decide) (by decide)
      rw [show f_L_draw tS kc 2 θ2 = some (nI b, θ3) from b2, Option.bind_some]
      dsimp only
      by_cases b0 : nI b = 0
      · rw [if_pos b0]
        exact ⟨_, _, _, rfl, cnt, hl, m + 3, D, by omega, Nat.le_refl _, fun _ _ => rfl, b3, by omega⟩
      · obtain ⟨θ', σ', τ', e1, cnt', hl', m', e2, e3, e4, e5, e6, e7⟩ := solves_v (υ := υ) (τ := τ) D hh hL b3 (by omega) hN ht
        rw [if_neg b0, e1, Option.bind_some]
        dsimp only
        rw [if_neg (show ¬ (1 : Int32) = 0 by decide)]
        exact ⟨_, _, _, rfl, cnt', hl', m', e2, e3, e4, e5, e6, by omega⟩
    · rw [if_neg (show ¬ nI 4 = 0 by decide), if_neg (show ¬ nI 4 = 1 by decide), if_neg (show ¬ nI 4 = 2 by decide), if_neg (show ¬ nI 4 = 3 by decide), if_pos (show nI 4 = 4 from rfl)]
      by_cases c2 : cnt < 2
      · rw [if_pos (show nI cnt < 2 from nI_lt (b := 2) c2 (by decide))]
        exact ⟨_, _, _, rfl, base 6 (by decide)⟩
      · obtain ⟨b, θ3, b1, b2, b3⟩ := draw_w (kc := kc) hL a3 (by omega) (n := cnt) (by omega) (by omega)
        obtain ⟨σ1, hl', g1, g2, g3, g4⟩ := joins_v (tS := tS) (θ := θ3) (υ := υ) (τ := τ) D (by omega) hN1 ht b1
        rw [if_neg (show ¬ nI cnt < 2 from Int32.not_lt.mpr (nI_le' (a := 2) (by omega) (by omega))), b2, Option.bind_some]
        dsimp only
        rw [g1, Option.bind_some]
        dsimp only
        rw [if_neg (show ¬ (1 : Int32) = 0 by decide)]
        exact ⟨_, _, _, rfl, cnt, hl', m + 3, g2, by omega, Nat.le_refl _, g4, b3, by omega⟩
    · rw [if_neg (show ¬ nI 5 = 0 by decide), if_neg (show ¬ nI 5 = 1 by decide), if_neg (show ¬ nI 5 = 2 by decide), if_neg (show ¬ nI 5 = 3 by decide), if_neg (show ¬ nI 5 = 4 by decide), if_pos (show nI 5 = 5 from rfl), if_neg e0, v_rootOf D ht, Option.bind_some, v_progress D ht, Option.bind_some]
      by_cases al : σ 21 t = 4
      · obtain ⟨σ1, g1, g2, g3, g4, g5, g6, g7⟩ := p_part D (by omega) hN1 ht al
        obtain ⟨r, r1, r2⟩ := I.rv ht al
        have nr : σ1 26 t ≠ nI r := by
          rw [g3, if_pos rfl]
          exact fun z => nI_m1 (by omega) z.symm
        rw [g1, Option.bind_some]
        dsimp only
        rw [if_pos al, if_pos rfl, v_stateOf g2 ht, Option.bind_some, if_pos g4, v_rootOf g2 ht, Option.bind_some, if_pos (by rw [g3, if_pos rfl]), v_progress g2 ht, Option.bind_some, if_pos (by rw [g5])]
        rw [told_v D g2 g6]
        rw [r2, v_twins g2 r1 hN1, Option.bind_some, if_pos (twin_bit g2 ht nr), Option.bind_some, if_neg (by decide)]
        exact ⟨_, _, _, rfl, step σ1 _ g2 (by omega) g7⟩
      · rw [n_part D N ht al, Option.bind_some]
        dsimp only
        rw [if_neg al, if_pos rfl]
        exact ⟨_, _, _, rfl, base 6 (by decide)⟩
    · have ne : ∀ b : Nat, b < 8 → a ≠ b → ¬ nI a = nI b := fun b hb q z => q ((nI_eq (by omega) (by omega)).mp z)
      rw [if_neg (show ¬ nI a = 0 from ne 0 (by decide) n0), if_neg (show ¬ nI a = 1 from ne 1 (by decide) n1), if_neg (show ¬ nI a = 2 from ne 2 (by decide) n2), if_neg (show ¬ nI a = 3 from ne 3 (by decide) n3), if_neg (show ¬ nI a = 4 from ne 4 (by decide) n4), if_neg (show ¬ nI a = 5 from ne 5 (by decide) n5)]
      exact rep
end Qc
