section Gm
variable {L cnt kc T hl : Nat} {σ μ τ : Sg}
/-! what lies ahead: the trial desk and the reference's backup -/
theorem FI.cells {L' : Nat} {ρ μ' : Sg} (F : FI L cnt kc T σ μ) (h : ∀ k i, i < rb cnt kc k → ρ k i = σ k i) (hp : pV μ' = pV μ) (G : LogR L' ρ μ) : FI L' cnt kc T ρ μ' := by
  obtain ⟨E, -, ⟨v1, v2, v3, v4, v5, v6, v7, v8⟩, hF⟩ := F
  have kx : ∀ t, t < cnt → ix (σ 16 t) < kc := fun t ht => (v7 t ht).lt E.2.1
  have h16 : ∀ t, t < cnt → ρ 16 t = σ 16 t := fun t ht => h 16 t ht
  have h21 : ∀ t, t < cnt → ρ 21 t = σ 21 t := fun t ht => h 21 t ht
  have h26 : ∀ t, t < cnt → ρ 26 t = σ 26 t := fun t ht => h 26 t ht
  refine ⟨⟨E.1, E.2.1, (h 15 0 Nat.zero_lt_one).trans E.c, (h 0 0 Nat.zero_lt_one).trans E.k, fun k i hi => by rw [hp, h k i hi]; exact E.e k i hi⟩, ?_, ⟨v1, (h 12 0 Nat.zero_lt_one).trans v2, fun k hk => ?_, fun d hd => ?_, fun l hl => ?_, fun t ht => ?_, fun t ht => ?_, fun t ht => ?_⟩, fun t ht => ?_⟩
  · obtain ⟨ln, g1, g2, g3⟩ := G
    exact ⟨ln, g1, by rw [hp]; exact g2, by rw [hp]; exact g3⟩
  · rw [h 1 k hk, h 2 k hk, h 3 k hk, h 5 k hk, h 6 k hk]
    exact v3 k hk
  · rw [h 13 d hd, h 14 d hd]
    exact v4 d hd
  · rw [h 30 l hl]
    exact v5 l hl
  · obtain ⟨s, q⟩ := v6 t ht
    refine ⟨by unfold ST; rw [h21 t ht]; exact s, ?_⟩
    rw [h21 t ht, h26 t ht]
    rcases q with q | ⟨r, r1, r2, r3, r4⟩
    · exact Or.inl q
    · exact Or.inr ⟨r, r1, r2, (h26 r r1).trans r3, by rw [h21 r r1]; exact r4⟩
  · obtain ⟨k, h1, h2⟩ := v7 t ht
    exact ⟨k, h1, (h16 t ht).trans h2⟩
  · have := v8 t ht
    unfold TB LK at this ⊢
    rw [h16 t ht, h 22 t ht, h 23 t ht, h 24 t ht, h 25 t ht, h 20 t ht, h 5 _ (kx t ht)]
    exact this
  · unfold FL
    rw [hp, h16 t ht, h 24 t ht, h 25 t ht, h 1 _ (kx t ht), h 2 _ (kx t ht)]
    exact hF t ht
theorem LV.pv {μ' : Sg} (V : LV cnt kc T hl σ μ) (hp : pV μ' = pV μ) : LV cnt kc T hl σ μ' := by
  refine ⟨V.1.cells (fun _ _ _ => rfl) hp V.1.2.1, ?_⟩
  have H := V.2
  unfold HR at H ⊢
  rw [hp]
  exact H
/-- the reference's rows but the state and its backup -/
def RY (μ μ' : Sg) : Prop := ∀ k, k ≠ 1 → k ≠ 2 → μ' k = μ k
theorem cp_out (μ : Sg) (wd : Int64) {N : Nat} (hN : 10100 < N) : ∃ μ', f_X9_copyState_state_backup N 0 0 μ wd = some μ' ∧ (∀ k, k ≠ 2 → μ' k = μ k) ∧ ∀ a, a < 4619 → μ' 2 a = μ 1 a := by
  have key := lift_itr (α := Sg) (fun n i c => f_X9_copyState_state_backup_3 N n 0 0 i c wd) (fun i c => up c 2 i (c 1 i)) (fun i c => (∀ k, k ≠ 2 → c k = μ k) ∧ ∀ a, a < i → c 2 a = μ 1 a) some 4619
    (fun n i c hi I => by
      refine ⟨⟨fun k hk => by rw [up_row hk]; exact I.1 k hk, fun a ha => ?_⟩, ?_⟩
      · rw [up_ite]
        by_cases e : a = i
        · rw [if_pos ⟨rfl, e⟩, e, I.1 1 (by decide)]
        · rw [if_neg (fun z => e z.2)]
          exact I.2 a (by omega)
      · show f_X9_copyState_state_backup_3 N (n + 1) 0 0 (nI i) c wd = f_X9_copyState_state_backup_3 N n 0 0 (nI (i + 1)) (up c 2 i (c 1 i)) wd
        rw [f_X9_copyState_state_backup_3, if_neg (show ¬ (4619 : Int32) ≤ nI i from nI_ge (b := 4619) hi (by decide)), Int32.zero_add, if_pos (ib_nI hi (by decide)), if_pos (ib_nI hi (by decide)), ix_nI (by omega), nI_1])
    (fun n c _ => by
      show f_X9_copyState_state_backup_3 N (n + 1) 0 0 (nI 4619) c wd = _
      rw [f_X9_copyState_state_backup_3, if_pos (by decide)]) μ ⟨fun _ _ => rfl, fun a ha => absurd ha (Nat.not_lt_zero _)⟩ N (by omega)
  exact ⟨_, key.2, key.1.1, key.1.2⟩
theorem cp_in (μ : Sg) (wd : Int64) {N : Nat} (hN : 10100 < N) : ∃ μ', f_X9_copyState_backup_state N 0 0 μ wd = some μ' ∧ (∀ k, k ≠ 1 → μ' k = μ k) ∧ ∀ a, a < 4619 → μ' 1 a = μ 2 a := by
  have key := lift_itr (α := Sg) (fun n i c => f_X9_copyState_backup_state_3 N n 0 0 i c wd) (fun i c => up c 1 i (c 2 i)) (fun i c => (∀ k, k ≠ 1 → c k = μ k) ∧ ∀ a, a < i → c 1 a = μ 2 a) some 4619
    (fun n i c hi I => by
      refine ⟨⟨fun k hk => by rw [up_row hk]; exact I.1 k hk, fun a ha => ?_⟩, ?_⟩
      · rw [up_ite]
        by_cases e : a = i
        · rw [if_pos ⟨rfl, e⟩, e, I.1 2 (by decide)]
        · rw [if_neg (fun z => e z.2)]
          exact I.2 a (by omega)
      · show f_X9_copyState_backup_state_3 N (n + 1) 0 0 (nI i) c wd = f_X9_copyState_backup_state_3 N n 0 0 (nI (i + 1)) (up c 1 i (c 2 i)) wd
        rw [f_X9_copyState_backup_state_3, if_neg (show ¬ (4619 : Int32) ≤ nI i from nI_ge (b := 4619) hi (by decide)), Int32.zero_add, if_pos (ib_nI hi (by decide)), if_pos (ib_nI hi (by decide)), ix_nI (by omega), nI_1])
    (fun n c _ => by
      show f_X9_copyState_backup_state_3 N (n + 1) 0 0 (nI 4619) c wd = _
      rw [f_X9_copyState_backup_state_3, if_pos (by decide)]) μ ⟨fun _ _ => rfl, fun a ha => absurd ha (Nat.not_lt_zero _)⟩ N (by omega)
  exact ⟨_, key.2, key.1.1, key.1.2⟩
theorem pv_l4 {k i : Nat} (h : i < pv_nb k) : pv_loc k i < 4619 := by
  have hk := pv_lt h
  have : k = 0 ∨ k = 1 ∨ k = 2 ∨ k = 3 ∨ k = 4 ∨ k = 5 ∨ k = 6 ∨ k = 7 ∨ k = 8 ∨ k = 9 ∨ k = 10 ∨ k = 11 ∨ k = 12 ∨ k = 13 ∨ k = 14 ∨ k = 15 ∨ k = 16 ∨ k = 17 ∨ k = 18 ∨ k = 19 ∨ k = 20 ∨ k = 21 ∨ k = 22 ∨ k = 23 ∨ k = 24 ∨ k = 25 ∨ k = 26 ∨ k = 27 ∨ k = 28 ∨ k = 29 ∨ k = 30 ∨ k = 31 ∨ k = 32 ∨ k = 33 ∨ k = 34 ∨ k = 35 ∨ k = 36 ∨ k = 37 ∨ k = 38 ∨ k = 39 := by omega
  rcases this with rfl | rfl | rfl | rfl | rfl | rfl | rfl | rfl | rfl | rfl | rfl | rfl | rfl | rfl | rfl | rfl | rfl | rfl | rfl | rfl | rfl | rfl | rfl | rfl | rfl | rfl | rfl | rfl | rfl | rfl | rfl | rfl | rfl | rfl | rfl | rfl | rfl | rfl | rfl | rfl <;> simp [pv_nb] at h <;> simp [pv_loc, pv_fld] <;> omega
theorem pv_same {μ' : Sg} (h : ∀ a, a < 4619 → μ' 1 a = μ 1 a) : pV μ' = pV μ := by
  funext k i
  unfold pV
  by_cases q : i < pv_nb k
  · rw [if_pos q, if_pos q, h _ (pv_l4 q)]
  · rw [if_neg q, if_neg q]
/-- out, on, and back: the state is as it was -/
theorem cp_back {μ1 μ2 : Sg} (wd : Int64) {N : Nat} (hN : 10100 < N) (h1 : ∀ k, k ≠ 2 → μ1 k = μ k) (h2 : ∀ a, a < 4619 → μ1 2 a = μ 1 a) (hr : RS μ1 μ2) : ∃ μ3, f_X9_copyState_backup_state N 0 0 μ2 wd = some μ3 ∧ pV μ3 = pV μ ∧ RY μ μ3 := by
  obtain ⟨μ3, c1, c2, c3⟩ := cp_in μ2 wd hN
  refine ⟨μ3, c1, pv_same fun a ha => by rw [c3 a ha, hr.1 2 (by decide), h2 a ha], fun k k1 k2 => by rw [c2 k k1, hr.1 k k1, h1 k k2]⟩
theorem until_at {e : Nat} (F : FI L cnt kc T σ μ) (wd : Int64) {N : Nat} (hN : 10100 < N) (he : e ≤ 10080) (hT : T ≤ e) : f_X1_passUntil N L (nI e) σ = Mit N L cnt (e - T) σ :=
  until_it wd (by omega) he (e - T) T 0 N σ μ F (by omega) (by omega) (by omega)
theorem until_past {e : Nat} (F : FI L cnt kc T σ μ) {N : Nat} (hN : 10100 < N) (hT : e ≤ T) : f_X1_passUntil N L (nI e) σ = some σ := by
  have hT2 := F.2.2.1.1
  obtain ⟨m, rfl⟩ : ∃ q, N = q + 1 := ⟨N - 1, by omega⟩
  unfold f_X1_passUntil
  rw [f_X1_passUntil_2, if_neg (by decide), F.2.2.1.2.1, if_pos (nI_le' hT (by omega))]
/-- the copied trial beside the reference -/
theorem trial_fi (V : LV cnt kc T hl σ μ) {p : Sg} (h : ∀ k i, i < rb cnt kc k → p k i = σ k i) (hl : ∀ ln, σ 7 0 = nI ln → ln ≤ 600 → p 7 0 = nI (min ln 0) ∧ ∀ k i, 8 ≤ k → k < 12 → i < min ln 0 → p k i = σ k i) {μ1 : Sg} (hp : pV μ1 = pV μ) : FI 0 cnt kc T p μ1 := by
  refine V.1.cells h hp ?_
  obtain ⟨ln, g1, g2, g3, g4⟩ := V.ln
  exact ⟨ln, g1, g2, Or.inl ⟨rfl, by rw [(hl ln g3 g1).1, Nat.min_zero]; rfl⟩⟩
theorem fc_sim (wd : Int64) {N t : Nat} (hN : 10100 < N) (ht : t < cnt) : ∀ (d T n : Nat) (x2 : Int32) (ρ μ : Sg), FI 0 cnt kc T ρ μ → T + d = 10080 → d < n →
    ∃ ρ' μ', Mit N 0 cnt d ρ = some ρ' ∧ ρ' 7 0 = 0 ∧ Ex LPs ρ ρ' ∧ f_X9_forecast_27 N n (nI t) x2 μ wd = (f_X9_copyState_backup_state N 0 0 μ' wd).bind (fun p3 => some (ρ' 29 t, p3)) ∧ RS μ μ'
  | d, T, n, x2, ρ, μ, F, hT, hn => by
    obtain ⟨m, rfl⟩ : ∃ q, n = q + 1 := ⟨n - 1, by omega⟩
    have v2 := F.2.2.1.2.1
    have l0 : ∀ {T' ρ' μ'}, FI 0 cnt kc T' ρ' μ' → ρ' 7 0 = 0 := fun G => by
      obtain ⟨ln, -, -, g⟩ := G.2.1
      rcases g with g | g
      · exact g.2
      · exact absurd g.1 (by decide)
    by_cases a : ρ 21 t = 3
    · obtain ⟨ρ', μ', r, a1, -, a3, -, -, a6, a7⟩ := it_sim (L := 0) (cnt := cnt) (kc := kc) wd (N := N) (by omega) d T ρ μ F (by omega)
      refine ⟨ρ', μ, a1, l0 a3, a7, ?_, RS.rf _⟩
      have e1 : f_X9_forecast_58 N (nI t) μ wd = (f_X9_copyState_backup_state N 0 0 μ wd).bind (fun p3 => some (ρ' 29 t, p3)) := by
        unfold f_X9_forecast_58
        rw [tg_13 F.1 ht, Option.bind_some, (a6 t ht a).2]
      rw [f_X9_forecast_27, F.1.mt, v2, is_v F.1 ht, Option.bind_some, if_pos a, if_neg (c := (1 : Int32) = 0) (by decide), e1]
      exact ite_self _
    · match d, hT, hn with
      | 0, hT, hn =>
        refine ⟨ρ, μ, rfl, l0 F, Ex.rf _ _, ?_, RS.rf _⟩
        rw [f_X9_forecast_27, F.1.mt, v2, if_pos (show (10080 : Int32) ≤ nI T from nI_le' (a := 10080) (by omega) (by omega))]
        unfold f_X9_forecast_58
        rw [tg_13 F.1 ht, Option.bind_some]
      | d + 1, hT, hn =>
        obtain ⟨ρ1, μ1, r1, b1, b2, b3, b4, -, -, b7⟩ := mn_sim F (by omega) wd (N := N) (by omega)
        obtain ⟨ρ', μ', c1, c2, c3, c4, c5⟩ := fc_sim wd hN ht d (T + 1) m (x2 + nI r1) ρ1 μ1 b3 (by omega) (by omega)
        refine ⟨ρ', μ', ?_, c2, b7.tr c3, ?_, b4.tr c5⟩
        · show (MN N 0 cnt ρ).bind (Mit N 0 cnt d) = _
          rw [b1]
          exact c1
        · rw [f_X9_forecast_27, F.1.mt, v2, if_neg (show ¬ (10080 : Int32) ≤ nI T from nI_ge' (b := 10080) (by omega) (by omega)), is_v F.1 ht, Option.bind_some, if_neg a, if_pos rfl, b2, Option.bind_some]
          exact c4
theorem LPs_lo {ρ ρ' : Sg} (h : Ex LPs ρ ρ') {k : Nat} (hk : k < 7) : ρ' k = ρ k := h k fun q => by
  unfold LPs at q
  simp only [List.mem_cons, List.not_mem_nil, or_false] at q
  omega
theorem forecast_sim (V : LV cnt kc T hl σ μ) (hτ : τ 7 0 = 0) (x : Int32) (wd : Int64) {N : Nat} (hN : 10100 < N) :
    ∃ r τ' μ', f_X8_forecast N x σ τ = some (r, τ') ∧ τ' 7 0 = 0 ∧ f_X9_forecast N x μ wd = some (r, μ') ∧ LV cnt kc T hl σ μ' ∧ RY μ μ' := by
  have hT := V.1.2.2.1.1
  unfold f_X8_forecast f_X9_forecast
  rcases tix V.E x wd with ⟨t, h1, rfl, h2, h3⟩ | ⟨h2, h3⟩
  · obtain ⟨p, p1, p2, p3⟩ := dk_copy V τ (L := 0) (Or.inl rfl) (N := N) (by omega)
    obtain ⟨μ1, m1, m2, m3⟩ := cp_out μ wd hN
    have F0 : FI 0 cnt kc T p μ1 := trial_fi V p2 p3 (pv_same fun a ha => by rw [m2 1 (by decide)])
    obtain ⟨ρ', μ2, a1, a2, a3, a4, a5⟩ := fc_sim wd hN h1 (10080 - T) T N 0 _ μ1 F0 (by omega) (by omega)
    obtain ⟨μ3, b1, b2, b3⟩ := cp_back wd hN m2 m3 a5
    have un : f_X1_passUntil N 0 10080 p = some ρ' := (until_at F0 wd hN (e := 10080) (by omega) hT).trans a1
    refine ⟨ρ' 29 t, ρ', μ3, ?_, a2, ?_, V.pv b2, b3⟩
    · rw [h2, Option.bind_some, if_neg (by decide), p1, Option.bind_some, un, Option.bind_some, if_pos (ib_nI (V.E.lt h1) (by decide)), ix_nI (by have := V.E.lt h1; omega)]
    · rw [h3, Option.bind_some, if_neg (by decide), m1, Option.bind_some, a4, b1, Option.bind_some]
  · exact ⟨-2, τ, μ, by rw [h2]; rfl, hτ, by rw [h3]; rfl, V, fun _ _ _ => rfl⟩
theorem ba_it (wd : Int64) {N : Nat} (hN : 10100 < N) (b : Int32) : ∀ (d T n : Nat) (x2 : Int32) (ρ μ : Sg), FI 0 cnt kc T ρ μ → T + d = 10080 → d < n →
    ∃ ρ' μ', Mit N 0 cnt d ρ = some ρ' ∧ FI 0 cnt kc 10080 ρ' μ' ∧ Ex LPs ρ ρ' ∧ f_X9_breachesAhead_21 N n b x2 μ wd = (f_X9_copyState_backup_state N 0 0 μ' wd).bind (fun p3 => some (nI (aB cnt ρ') - b, p3)) ∧ RS μ μ'
  | 0, T, n, x2, ρ, μ, F, hT, hn => by
    obtain ⟨m, rfl⟩ : ∃ q, n = q + 1 := ⟨n - 1, by omega⟩
    obtain rfl : T = 10080 := by omega
    refine ⟨ρ, μ, rfl, F, Ex.rf _ _, ?_, RS.rf _⟩
    rw [f_X9_breachesAhead_21, F.1.mt, F.2.2.1.2.1, if_pos (by decide), maB_v F.1 F.2.2.2 wd (N := N) (by omega), Option.bind_some]
  | d + 1, T, n, x2, ρ, μ, F, hT, hn => by
    obtain ⟨m, rfl⟩ : ∃ q, n = q + 1 := ⟨n - 1, by omega⟩
    obtain ⟨ρ1, μ1, r1, b1, b2, b3, b4, -, -, b7⟩ := mn_sim F (by omega) wd (N := N) (by omega)
    obtain ⟨ρ', μ', c1, c2, c3, c4, c5⟩ := ba_it wd hN b d (T + 1) m (x2 + nI r1) ρ1 μ1 b3 (by omega) (by omega)
    refine ⟨ρ', μ', ?_, c2, b7.tr c3, ?_, b4.tr c5⟩
    · show (MN N 0 cnt ρ).bind (Mit N 0 cnt d) = _
      rw [b1]
      exact c1
    · rw [f_X9_breachesAhead_21, F.1.mt, F.2.2.1.2.1, if_neg (show ¬ (10080 : Int32) ≤ nI T from nI_ge' (b := 10080) (by omega) (by omega)), b2, Option.bind_some]
      exact c4
theorem FI.l0 {T' : Nat} {ρ' μ' : Sg} (G : FI 0 cnt kc T' ρ' μ') : ρ' 7 0 = 0 := by
  obtain ⟨ln, -, -, g⟩ := G.2.1
  rcases g with g | g
  · exact g.2
  · exact absurd g.1 (by decide)
theorem FI.cc {T' : Nat} {ρ' μ' : Sg} (F : FI L cnt kc T' ρ' μ') : CC cnt kc ρ' := cc_of F.1 F.2.2.1.2.2.2.2.2.1 F.2.2.1.2.2.2.2.2.2.1
theorem ahead_sim (V : LV cnt kc T hl σ μ) (τ : Sg) (wd : Int64) {N : Nat} (hN : 10100 < N) :
    ∃ r τ' μ', f_X8_breachesAhead N σ τ = some (r, τ') ∧ τ' 7 0 = 0 ∧ f_X9_breachesAhead N μ wd = some (r, μ') ∧ LV cnt kc T hl σ μ' ∧ RY μ μ' := by
  have hT := V.1.2.2.1.1
  unfold f_X8_breachesAhead f_X9_breachesAhead
  obtain ⟨p, p1, p2, p3⟩ := dk_copy V τ (L := 0) (Or.inl rfl) (N := N) (by omega)
  obtain ⟨μ1, m1, m2, m3⟩ := cp_out μ wd hN
  have pv1 : pV μ1 = pV μ := pv_same fun a ha => by rw [m2 1 (by decide)]
  have F0 : FI 0 cnt kc T p μ1 := trial_fi V p2 p3 pv1
  have V1 := V.pv pv1
  obtain ⟨ρ', μ2, a1, a2, a3, a4, a5⟩ := ba_it wd hN (nI (aB cnt σ)) (10080 - T) T N 0 _ μ1 F0 (by omega) (by omega)
  obtain ⟨μ3, b1, b2, b3⟩ := cp_back wd hN m2 m3 a5
  have un : f_X1_passUntil N 0 10080 p = some ρ' := (until_at F0 wd hN (e := 10080) (by omega) hT).trans a1
  refine ⟨nI (aB cnt ρ') - nI (aB cnt σ), ρ', μ3, ?_, a2.l0, ?_, V.pv b2, b3⟩
  · rw [p1, Option.bind_some, un, Option.bind_some, aB_v a2.cc (by omega), Option.bind_some, aB_v V.cc (by omega), Option.bind_some]
  · rw [m1, Option.bind_some, maB_v V1.E V1.1.2.2.2 wd (N := N) (by omega), Option.bind_some, a4, b1, Option.bind_some]
end Gm
