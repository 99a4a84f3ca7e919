section Hj
variable {tl : Nat} {κ μ : Sg}
/-! a statement on both sides -/
theorem n9_ : (99999 : Int32).toInt = 99999 := by decide
theorem pn_bad (N : Nat) {μ : Sg} (wd : Int64) (b : μ 9 0 ≠ 3) (e : μ 12 0 = 0) : ∃ v, f_X9_parseNumber N μ wd = some (v, up (up μ 12 0 1) 13 0 (μ 8 0), wd) := by
  have ne : (up (up μ 12 0 1) 13 0 (μ 8 0)) 12 0 ≠ 0 := by
    rw [up_row (by decide), up_same]
    decide
  unfold f_X9_parseNumber
  rw [if_neg b, rq_0 1 wd e, Option.bind_some]
  simp only [rq_e _ _ wd ne, Option.bind_some, ad_e N wd ne]
  split <;> exact ⟨_, rfl⟩
theorem pn_big (N : Nat) {μ : Sg} (wd : Int64) (a : μ 9 0 = 3) (h : 99999 < μ 11 0) (e : μ 12 0 = 0) : ∃ v, f_X9_parseNumber N μ wd = some (v, up (up μ 12 0 2) 13 0 (μ 8 0), wd) := by
  have ne : (up (up μ 12 0 2) 13 0 (μ 8 0)) 12 0 ≠ 0 := by
    rw [up_row (by decide), up_same]
    decide
  unfold f_X9_parseNumber
  rw [if_pos a, rq_1, Option.bind_some, if_pos h, rq_0 2 wd e, Option.bind_some, ad_e N wd ne, Option.bind_some]
  exact ⟨_, rfl⟩
theorem pn_ok (N : Nat) {μ μ1 : Sg} {wd wd1 : Int64} (a : μ 9 0 = 3) (h : ¬ 99999 < μ 11 0) (e : μ 12 0 = 0) (hn : f_X9_nextToken N μ wd = some (μ1, wd1)) : f_X9_parseNumber N μ wd = some (μ 11 0, μ1, wd1) := by
  unfold f_X9_parseNumber
  rw [if_pos a, rq_1, Option.bind_some, if_neg h, rq_1, Option.bind_some, ad_0 N wd e, hn, Option.bind_some]
/-- the statement's number and arguments so far -/
def SP (i c : Nat) (κ μ : Sg) : Prop := (κ 62 i = nI c ∧ μ 15 (7 * i) = vmc c) ∧ (∀ j, j < 5 → κ 65 (5 * i + j) = μ 15 (7 * i + 1 + j)) ∧ μ 15 (7 * i + 6) = 0
theorem vn0 : vp_nar .boolean 0 = 0 := by decide
theorem vn1 : vp_nar .boolean 1 = 1 := by decide
theorem fl_0 (x : Int32) (κ : Sg) : (f_X5_fail x κ).bind (fun p => if bz p.1 then some (p.1, p.2) else none) = some (0, up (up κ 5 0 x) 6 0 (κ 9 0)) := by
  unfold f_X5_fail
  rw [Option.bind_some, if_pos bz0]
theorem args_it {i c : Nat} (hi : i < 40) (hc : c < 13) {N : Nat} (hN : 1000 < N) : ∀ (r j n n' : Nat) (κ μ : Sg) (wd : Int64) (κ1 : Sg) (s p : Nat), j + r = van c → r < n → r < n' → f_X5_readToken N κ = some κ1 → TK tl κ1 μ wd s p → KX κ κ1 → SS i κ1 μ → SP i c κ1 μ → μ 16 0 = nI i → E0 κ1 μ →
    Out N tl i κ μ (f_X5_parseStatement_22 N n (nI i) (nI c) (nI j) κ) (f_X9_parseStatement_91 N n' (vmc c) (nI (7 * i)) (nI (j + 1)) μ wd)
  | 0, j, n, n', κ, μ, wd, κ1, s, p, hj, hn, hn', hr, T, K, S, P, h16, e => by
    obtain ⟨m, rfl⟩ : ∃ q, n = q + 1 := ⟨n - 1, by omega⟩
    obtain ⟨m', rfl⟩ : ∃ q, n' = q + 1 := ⟨n' - 1, by omega⟩
    obtain ⟨⟨v1, v2, v3, v4⟩, v5, v6, v7, v8⟩ := v_fin c hc
    obtain ⟨⟨p1, p2⟩, p3, p4⟩ := P
    have e15 : ib (nI i) 40 := ib_nI hi (by decide)
    rw [f_X5_parseStatement_22, if_pos (ib_nI hc (by decide)), ix_nI (by omega), v1, if_pos (nI_le' (by omega) (by omega)), hr, Option.bind_some, f_X9_parseStatement_91, v4, Option.bind_some, if_pos (z_lt.mpr (by rw [z_nI (by omega), z_nI (by omega)]; omega)), if_pos e.2.1, ix_nI (by omega), vn0, vn1, up_same, up_same, if_pos e15, if_pos (c := (0 : Int32) = 0) rfl, if_neg (c := (1 : Int32) = 0) (by decide)]
    have no : Out N tl i κ μ (f_X5_parseStatement_121 N (up κ1 64 i 0)) (f_X9_parseStatement_154 N μ wd) := by
      have k0 : PK i κ1 (up κ1 64 i 0) := PK.u _ _ (Or.inr (Or.inl ⟨Or.inr rfl, Nat.le_refl _⟩))
      have Q : SQ i (up κ1 64 i 0) μ := by
        unfold SQ
        rw [up_row (by decide), up_row (by decide), up_same, p1, p2]
        exact ⟨v_vy hc, p3, p4.symm, Or.inl rfl⟩
      have T0 : TK tl (up κ1 64 i 0) μ wd s p := T.ex (fun r hr => up_row (by omega)) fun _ _ => rfl
      have e0 : E0 (up κ1 64 i 0) μ := ⟨⟨by rw [up_row (by decide)]; exact e.1.1, by rw [up_row (by decide)]; exact e.1.2⟩, e.2⟩
      exact (fin_tok hi T0 (S.keep k0 (PM.rfl' _ _)) Q h16 e0 hN).mono (K.pk.tr k0) (PM.rfl' _ _)
    by_cases y : nI c = 1
    · rw [if_pos y, if_pos (v6.mp y)]
      rcases isw T (show 0 < 15 by decide) hN with ⟨w1, w2⟩ | ⟨w1, w2⟩
      · rw [w1, w2, Option.bind_some, Option.bind_some, if_pos (c := (0 : Int32) = 0) rfl, if_pos (c := (0 : Int32) = 0) rfl]
        exact no
      · rw [w1, w2, Option.bind_some, Option.bind_some, if_neg (c := (1 : Int32) = 0) (by decide), if_neg (c := (1 : Int32) = 0) (by decide)]
        have k0 : PK i κ1 (up κ1 64 i 1) := PK.u _ _ (Or.inr (Or.inl ⟨Or.inr rfl, Nat.le_refl _⟩))
        have b6 : nI (7 * i) + 6 = nI (7 * i + 6) := nI_add _ 6
        have m0 : PM i μ (up μ 15 (7 * i + 6) 1) := PM.u _ _ (Or.inr ⟨rfl, by omega⟩)
        obtain ⟨s', p', κ2, μ2, wd2, h1, h2, h3, h4, h5⟩ := tk_next (show TK tl (up κ1 64 i 1) (up μ 15 (7 * i + 6) 1) wd s p from T.ex (fun r hr => up_row (by omega)) (fun r hr => up_row (by omega))) hN
        have c62 : κ2 62 = κ1 62 := (h4 62 (by decide) (by decide) (by decide) (by decide)).trans (up_row (by decide))
        have c65 : κ2 65 = κ1 65 := (h4 65 (by decide) (by decide) (by decide) (by decide)).trans (up_row (by decide))
        have c64 : κ2 64 i = 1 := (congrFun (h4 64 (by decide) (by decide) (by decide) (by decide)) i).trans (up_same _ _ _ _)
        have m15 : ∀ a, a ≠ 7 * i + 6 → μ2 15 a = μ 15 a := fun a ha => (congrFun (h5 15 (by decide) (by decide) (by decide) (by decide) (by decide)) a).trans (up_other (fun z => ha z.2))
        have m156 : μ2 15 (7 * i + 6) = 1 := (congrFun (h5 15 (by decide) (by decide) (by decide) (by decide) (by decide)) _).trans (up_same _ _ _ _)
        have Q : SQ i κ2 μ2 := by
          unfold SQ
          rw [c62, c64, c65, m156, m15 _ (by omega), p1, p2]
          exact ⟨v_vy hc, fun x hx => by rw [m15 _ (by omega)]; exact p3 x hx, rfl, Or.inr rfl⟩
        have f := fin_tok (wd := wd2) (s := s') (p := p') hi h3 (S.keep (k0.tr h4.pk) (m0.tr h5.pm)) Q (by rw [h5 16 (by decide) (by decide) (by decide) (by decide) (by decide), up_row (by decide)]; exact h16) ⟨⟨by rw [h4 5 (by decide) (by decide) (by decide) (by decide), up_row (by decide)]; exact e.1.1, by rw [h4 6 (by decide) (by decide) (by decide) (by decide), up_row (by decide)]; exact e.1.2⟩, by rw [h5 12 (by decide) (by decide) (by decide) (by decide) (by decide), up_row (by decide)]; exact e.2.1, by rw [h5 13 (by decide) (by decide) (by decide) (by decide) (by decide), up_row (by decide)]; exact e.2.2⟩ hN
        rw [if_pos e15, h1, Option.bind_some, b6, if_pos (c := ib (nI (7 * i + 6)) 280) (ib_nI (by omega) (by decide)), ix_nI (by omega), ad_0 N wd (by rw [up_row (by decide)]; exact e.2.1), h2, Option.bind_some]
        exact f.mono (K.pk.tr (k0.tr h4.pk)) (m0.tr h5.pm)
    · rw [if_neg y, if_neg (fun z => y (v6.mpr z))]
      exact no
  | r + 1, j, n, n', κ, μ, wd, κ1, s, p, hj, hn, hn', hr, T, K, S, P, h16, e => by
    obtain ⟨m, rfl⟩ : ∃ q, n = q + 1 := ⟨n - 1, by omega⟩
    obtain ⟨m', rfl⟩ : ∃ q, n' = q + 1 := ⟨n' - 1, by omega⟩
    obtain ⟨⟨v1, v2, v3, v4⟩, v5, v6, v7, v8⟩ := v_fin c hc
    obtain ⟨⟨p1, p2⟩, p3, p4⟩ := P
    rw [f_X5_parseStatement_22, if_pos (ib_nI hc (by decide)), ix_nI (by omega), v1, if_neg (nI_ge' (by omega) (by omega)), hr, Option.bind_some, f_X9_parseStatement_91, v4, Option.bind_some, if_neg (c := nI (van c) < nI (j + 1)) (fun z => by have := z_lt.mp z; rw [z_nI (by omega), z_nI (by omega)] at this; omega), fl_0, fl_0]
    have b1 : nI (7 * i) + nI (j + 1) = nI (7 * i + (j + 1)) := nI_add _ _
    have fail : ∀ (y v : Int32), y ≠ 0 → f_X9_parseNumber N μ wd = some (v, up (up μ 12 0 y) 13 0 (μ 8 0), wd) → Out N tl i κ μ (some (0, up (up κ1 5 0 y) 6 0 (κ1 9 0))) ((f_X9_parseNumber N μ wd).bind (fun p12 => if ib (nI (7 * i) + nI (j + 1)) 280 then f_X9_parseStatement_91 N m' (vmc c) (nI (7 * i)) (nI (j + 1) + 1) (up p12.2.1 15 (ix (nI (7 * i) + nI (j + 1))) p12.1) p12.2.2 else none)) := fun y v hy hp => by
      have ne : (up (up (up μ 12 0 y) 13 0 (μ 8 0)) 15 (7 * i + (j + 1)) v) 12 0 = y := by rw [up_row (by decide), up_row (by decide), up_same]
      have ne2 : (up (up (up μ 12 0 y) 13 0 (μ 8 0)) 15 (7 * i + (j + 1)) v) 13 0 = μ 8 0 := by rw [up_row (by decide), up_same]
      obtain ⟨μ', a1, a2, a3, a4⟩ := args_e hi hc N wd r (j + 1) m' (up (up (up μ 12 0 y) 13 0 (μ 8 0)) 15 (7 * i + (j + 1)) v) (by omega) (by omega) (by rw [ne]; exact hy)
      rw [hp, Option.bind_some, b1, if_pos (ib_nI (by omega) (by decide)), ix_nI (by omega), nI_1, a1]
      refine Or.inr ⟨_, μ', wd, ⟨rfl, rfl⟩, ⟨(K.pk.tr (PK.u _ _ (Or.inl (by omega)))).tr (PK.u _ _ (Or.inl (by omega))), (((PM.u _ _ (Or.inl (by omega))).tr (PM.u _ _ (Or.inl (by omega)))).tr (PM.u _ _ (Or.inr ⟨rfl, by omega⟩))).tr a4⟩, ?_, ?_, ?_⟩
      · rw [up_row (by decide), up_same, a2, ne]
      · rw [up_same, a3, ne2]
        exact T.st
      · rw [a2, ne]
        exact hy
    have bad : κ1 8 0 ≠ 2 → μ 9 0 ≠ 3 → Out N tl i κ μ (some (0, up (up κ1 5 0 1) 6 0 (κ1 9 0))) ((f_X9_parseNumber N μ wd).bind (fun p12 => if ib (nI (7 * i) + nI (j + 1)) 280 then f_X9_parseStatement_91 N m' (vmc c) (nI (7 * i)) (nI (j + 1) + 1) (up p12.2.1 15 (ix (nI (7 * i) + nI (j + 1))) p12.1) p12.2.2 else none)) := fun a b => by
      obtain ⟨v, hv⟩ := pn_bad N wd b e.2.1
      exact fail 1 v (by decide) hv
    rcases T.2.2 with ⟨a, b, -⟩ | ⟨a, b, -⟩ | ⟨a, b, nr⟩ | ⟨a, b⟩ | ⟨a, b⟩
    · rw [if_neg (by rw [a]; decide)]
      exact bad (by rw [a]; decide) (by rw [b]; decide)
    · rw [if_neg (by rw [a]; decide)]
      exact bad (by rw [a]; decide) (by rw [b]; decide)
    · rw [if_pos a]
      rcases nr with ⟨u, u1, u2⟩ | ⟨u1, u2, u3⟩
      · rw [if_pos (z_le.mpr (by rw [n9_]; exact u2)), if_pos (ib_nI hi (by decide)), if_pos (ib_nI (by omega) (by decide)), ix_nI (by omega), ix_nI (by omega)]
        have k0 : PK i κ1 (up κ1 65 (5 * i + j) (κ1 11 0)) := PK.u _ _ (Or.inr (Or.inr ⟨rfl, by omega⟩))
        obtain ⟨s', p', κ2, μ2, wd2, h1, h2, h3, h4, h5⟩ := tk_next (show TK tl (up κ1 65 (5 * i + j) (κ1 11 0)) μ wd s p from T.ex (fun r hr => up_row (by omega)) (fun _ _ => rfl)) hN
        have m0 : PM i μ2 (up μ2 15 (7 * i + (j + 1)) (μ 11 0)) := PM.u _ _ (Or.inr ⟨rfl, by omega⟩)
        rw [pn_ok N b (fun z => by have := z_lt.mp z; rw [n9_, ← u] at this; omega) e.2.1 h2, Option.bind_some, b1, if_pos (ib_nI (by omega) (by decide)), ix_nI (by omega), nI_1, nI_1]
        have c62 : κ2 62 = κ1 62 := (h4 62 (by decide) (by decide) (by decide) (by decide)).trans (up_row (by decide))
        have c65 : ∀ a, κ2 65 a = if a = 5 * i + j then κ1 11 0 else κ1 65 a := fun a => by
          rw [h4 65 (by decide) (by decide) (by decide) (by decide), up_ite]
          simp only [true_and]
        have e15 : μ2 15 = μ 15 := h5 15 (by decide) (by decide) (by decide) (by decide) (by decide)
        refine (args_it hi hc hN r (j + 1) m m' (up κ1 65 (5 * i + j) (κ1 11 0)) (up μ2 15 (7 * i + (j + 1)) (μ 11 0)) wd2 κ2 s' p' (by omega) (by omega) (by omega) h1 (h3.ex (fun _ _ => rfl) (fun r hr => up_row (by omega))) h4 (S.keep (k0.tr h4.pk) (h5.pm.tr m0)) ⟨⟨by rw [c62]; exact p1, ?_⟩, fun x hx => ?_, ?_⟩ (by rw [up_row (by decide), h5 16 (by decide) (by decide) (by decide) (by decide) (by decide)]; exact h16) ⟨⟨by rw [h4 5 (by decide) (by decide) (by decide) (by decide), up_row (by decide)]; exact e.1.1, by rw [h4 6 (by decide) (by decide) (by decide) (by decide), up_row (by decide)]; exact e.1.2⟩, by rw [up_row (by decide), h5 12 (by decide) (by decide) (by decide) (by decide) (by decide)]; exact e.2.1, by rw [up_row (by decide), h5 13 (by decide) (by decide) (by decide) (by decide) (by decide)]; exact e.2.2⟩).mono (K.pk.tr k0) (h5.pm.tr m0)
        · rw [up_other (fun z => by omega), e15]
          exact p2
        · rw [c65, up_ite, e15]
          by_cases q : x = j
          · rw [if_pos (by rw [q]), if_pos ⟨rfl, by omega⟩]
            exact u
          · rw [if_neg (by omega), if_neg (by omega)]
            exact p3 x hx
        · rw [up_other (fun z => by omega), e15]
          exact p4
      · rw [if_neg (fun z => by have := z_le.mp z; rw [n9_] at this; omega)]
        obtain ⟨v, hv⟩ := pn_big N wd b (z_lt.mpr (by rw [n9_]; omega)) e.2.1
        exact fail 2 v (by decide) hv
    · rw [if_neg (by rw [a]; decide)]
      exact bad (by rw [a]; decide) (by rw [b]; decide)
    · rw [if_neg (by rw [a]; decide)]
      exact bad (by rw [a]; decide) (by rw [b]; decide)
/-- the reference clears a statement's seven places first -/
theorem zero_it {i : Nat} (hi : i < 40) (x1 : Int32) (N : Nat) (wd : Int64) : ∀ (r j n : Nat) (μ : Sg), j + r = 7 → r < n →
    ∃ μ', f_X9_parseStatement_57 N n x1 (nI (7 * i)) (nI j) μ wd = (f_X9_advance N (up μ' 15 (7 * i) x1) wd).bind (fun p3 => f_X9_parseStatement_91 N N x1 (nI (7 * i)) 1 p3.1 p3.2) ∧ (∀ k, k ≠ 15 → μ' k = μ k) ∧ (∀ a, 7 * i + j ≤ a → a < 7 * i + 7 → μ' 15 a = 0) ∧ ∀ a, a < 7 * i + j → μ' 15 a = μ 15 a
  | 0, j, n, μ, hj, hn => by
    obtain ⟨m, rfl⟩ : ∃ q, n = q + 1 := ⟨n - 1, by omega⟩
    refine ⟨μ, ?_, fun _ _ => rfl, fun a h1 h2 => by omega, fun _ _ => rfl⟩
    rw [f_X9_parseStatement_57, if_pos (show (7 : Int32) ≤ nI j from nI_le' (a := 7) (by omega) (by omega)), if_pos (ib_nI (by omega) (by decide)), ix_nI (by omega)]
  | r + 1, j, n, μ, hj, hn => by
    obtain ⟨m, rfl⟩ : ∃ q, n = q + 1 := ⟨n - 1, by omega⟩
    obtain ⟨μ', a1, a2, a3, a4⟩ := zero_it hi x1 N wd r (j + 1) m (up μ 15 (7 * i + j) 0) (by omega) (by omega)
    refine ⟨μ', ?_, fun k hk => (a2 k hk).trans (up_row hk), fun a h1 h2 => ?_, fun a ha => ?_⟩
    · rw [f_X9_parseStatement_57, if_neg (show ¬ (7 : Int32) ≤ nI j from nI_ge' (b := 7) (by omega) (by decide)), nI_add, if_pos (ib_nI (by omega) (by decide)), ix_nI (by omega), nI_1, a1]
    · by_cases y : a = 7 * i + j
      · rw [y, a4 _ (by omega), up_same]
      · exact a3 a (by omega) h2
    · rw [a4 a (by omega), up_other (fun z => by omega)]
theorem st_sim {wd : Int64} {s p i c : Nat} (hi : i < 40) (hc : c < 13) (T : TK tl κ μ wd s p) (S : SS i κ μ) (h16 : μ 16 0 = nI i) (e : E0 κ μ) {N : Nat} (hN : 1000 < N) (hv : f_X9_statementOfWord N μ wd = some (vmc c)) :
    Out N tl i κ μ (f_X5_parseStatement N (nI i) (nI c) κ) (f_X9_parseStatement N μ wd) := by
  obtain ⟨⟨v1, v2, v3, v4⟩, v5, v6, v7, v8⟩ := v_fin c hc
  have m7 : (7 : Int32) * nI i = nI (7 * i) := pk_mul 7 i
  obtain ⟨μ', a1, a2, a3, a4⟩ := zero_it hi (vmc c) N wd 7 0 N μ (by omega) (by omega)
  have z0 : PM i μ μ' := ⟨fun r r1 r2 r3 r4 r5 r6 r7 r8 r9 => a2 r r8, fun a ha => a4 a (by omega)⟩
  have m0 : PM i μ (up μ' 15 (7 * i) (vmc c)) := z0.tr (PM.u _ _ (Or.inr ⟨rfl, Nat.le_refl _⟩))
  have k0 : PK i κ (upr (up κ 62 i (nI c)) 65 (rowfill i 0 ((up κ 62 i (nI c)) 65))) := (PK.u _ _ (Or.inr (Or.inl ⟨Or.inl rfl, Nat.le_refl _⟩))).tr ⟨fun r r1 r2 r3 r4 r5 r6 r7 r8 r9 r0 => upr_ne _ _ _ _ r0, fun a ha => ⟨by rw [upr_ne _ _ _ _ (by decide)], by rw [upr_ne _ _ _ _ (by decide)]⟩, fun a ha => by
    rw [upr_at]
    unfold rowfill
    rw [if_neg (by omega)]⟩
  have e5 : ∀ r, r ≠ 62 → r ≠ 65 → (upr (up κ 62 i (nI c)) 65 (rowfill i 0 ((up κ 62 i (nI c)) 65))) r = κ r := fun r h1 h2 => by rw [upr_ne _ _ _ _ h2, up_row h1]
  have e15 : ∀ r, r ≠ 15 → (up μ' 15 (7 * i) (vmc c)) r = μ r := fun r h1 => by rw [up_row h1, a2 r h1]
  obtain ⟨s', p', κ2, μ2, wd2, h1, h2, h3, h4, h5⟩ := tk_next (show TK tl (upr (up κ 62 i (nI c)) 65 (rowfill i 0 ((up κ 62 i (nI c)) 65))) (up μ' 15 (7 * i) (vmc c)) wd s p from T.ex (fun r hr => e5 r (by omega) (by omega)) (fun r hr => e15 r (by omega))) hN
  have q5 : f_X5_parseStatement N (nI i) (nI c) κ = f_X5_parseStatement_22 N N (nI i) (nI c) (nI 0) (upr (up κ 62 i (nI c)) 65 (rowfill i 0 ((up κ 62 i (nI c)) 65))) := by
    unfold f_X5_parseStatement
    rw [if_pos (ib_nI hi (by decide)), ix_nI (by omega)]
    rfl
  have q9 : f_X9_parseStatement N μ wd = f_X9_parseStatement_91 N N (vmc c) (nI (7 * i)) (nI (0 + 1)) μ2 wd2 := by
    unfold f_X9_parseStatement
    rw [hv, Option.bind_some, if_neg v8, rq_1, Option.bind_some, h16, if_neg (show ¬ (40 : Int32) ≤ nI i from nI_ge' (b := 40) hi (by decide)), rq_1, Option.bind_some, if_pos e.2.1, h16, m7, show (0 : Int32) = nI 0 from rfl, a1, ad_0 N wd (by rw [e15 12 (by decide)]; exact e.2.1), h2, Option.bind_some]
    rfl
  rw [q5, q9]
  have c62 : κ2 62 i = nI c := (congrFun (h4 62 (by decide) (by decide) (by decide) (by decide)) i).trans (by rw [upr_ne _ _ _ _ (by decide), up_same])
  have c65 : ∀ x, x < 5 → κ2 65 (5 * i + x) = 0 := fun x hx => (congrFun (h4 65 (by decide) (by decide) (by decide) (by decide)) _).trans (by
    rw [upr_at]
    unfold rowfill
    rw [if_pos (by omega)])
  have f15 : μ2 15 = (up μ' 15 (7 * i) (vmc c)) 15 := h5 15 (by decide) (by decide) (by decide) (by decide) (by decide)
  refine (args_it hi hc hN (van c) 0 N N _ _ wd2 κ2 s' p' (by omega) (by omega) (by omega) h1 h3 h4 (S.keep (k0.tr h4.pk) (m0.tr h5.pm)) ⟨⟨c62, by rw [f15, up_same]⟩, fun x hx => ?_, ?_⟩ (by rw [h5 16 (by decide) (by decide) (by decide) (by decide) (by decide), e15 16 (by decide)]; exact h16) ⟨⟨by rw [h4 5 (by decide) (by decide) (by decide) (by decide), e5 5 (by decide) (by decide)]; exact e.1.1, by rw [h4 6 (by decide) (by decide) (by decide) (by decide), e5 6 (by decide) (by decide)]; exact e.1.2⟩, by rw [h5 12 (by decide) (by decide) (by decide) (by decide) (by decide), e15 12 (by decide)]; exact e.2.1, by rw [h5 13 (by decide) (by decide) (by decide) (by decide) (by decide), e15 13 (by decide)]; exact e.2.2⟩).mono k0 (m0.tr h5.pm)
  · rw [c65 x hx, f15, up_other (fun z => by omega), a3 _ (by omega) (by omega)]
  · rw [f15, up_other (fun z => by omega), a3 _ (by omega) (by omega)]
end Hj
