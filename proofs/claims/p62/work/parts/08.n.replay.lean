section Gn
variable {L cnt kc T hl : Nat} {σ μ τ : Sg}
/-! the replay -/
theorem TY.two {c m : Int32} (h : TY c m) : c = 2 ↔ m = 1 := by
  rcases h with ⟨rfl, rfl⟩ | ⟨rfl, rfl⟩ | ⟨rfl, rfl⟩ | (⟨rfl, rfl⟩ | ⟨rfl, rfl⟩ | ⟨rfl, rfl⟩ | ⟨rfl, rfl⟩ | ⟨rfl, rfl⟩ | ⟨rfl, rfl⟩) | ⟨rfl, rfl⟩ | ⟨rfl, rfl⟩ <;> decide
/-- a change's cell of the history, in the reference's state -/
theorem h_cell {i f : Nat} (hi : i < 200) (hf : f < 6) : μ 1 (ix (nI (1019 + 6 * i + f))) = pV μ (32 + f) i := by
  rw [ix_nI (by omega)]
  have : f = 0 ∨ f = 1 ∨ f = 2 ∨ f = 3 ∨ f = 4 ∨ f = 5 := by omega
  rcases this with rfl | rfl | rfl | rfl | rfl | rfl
  · exact (pV_in (k := 32) hi).symm
  · exact (pV_in (k := 33) hi).symm
  · exact (pV_in (k := 34) hi).symm
  · exact (pV_in (k := 35) hi).symm
  · exact (pV_in (k := 36) hi).symm
  · exact (pV_in (k := 37) hi).symm
theorem r56_it (wd : Int64) {N e i : Nat} (hN : 10100 < N) (he : e ≤ 10080) (hi : i < 200) (k33 : Int32 → Int32 → Int32 → Sg → Int64 → Option (Int32 × Sg)) (x1 : Int32) : ∀ (d T n : Nat) (x3 : Int32) (ρ μ : Sg), FI 0 cnt kc T ρ μ → pV μ 32 i = nI e → e ≤ T + d → (0 < d → T + d = e) → d < n →
    ∃ m x3' ρ' μ', Mit N 0 cnt d ρ = some ρ' ∧ FI 0 cnt kc (T + d) ρ' μ' ∧ RS μ μ' ∧ Ex LPs ρ ρ' ∧ f_X9_replay_56 N k33 n x1 x3 (nI i) (nI (1019 + 6 * i)) μ wd = f_X9_replay_56 N k33 (m + 1) x1 x3' (nI i) (nI (1019 + 6 * i)) μ' wd
  | 0, T, n, x3, ρ, μ, F, hv, h1, h2, hn => by
    obtain ⟨m, rfl⟩ : ∃ q, n = q + 1 := ⟨n - 1, by omega⟩
    exact ⟨m, x3, ρ, μ, rfl, F, RS.rf _, Ex.rf _ _, rfl⟩
  | d + 1, T, n, x3, ρ, μ, F, hv, h1, h2, hn => by
    obtain ⟨m, rfl⟩ : ∃ q, n = q + 1 := ⟨n - 1, by omega⟩
    have h3 := h2 (by omega)
    obtain ⟨ρ1, μ1, r1, b1, b2, b3, b4, -, -, b7⟩ := mn_sim F (by omega) wd (N := N) (by omega)
    obtain ⟨m', x3', ρ', μ', c1, c2, c3, c4, c5⟩ := r56_it wd hN he hi k33 x1 d (T + 1) m (x3 + nI r1) ρ1 μ1 b3 (by rw [b4.2 32 (by omega) (by omega)]; exact hv) (by omega) (by omega) (by omega)
    refine ⟨m', x3', ρ', μ', ?_, by rw [show T + (d + 1) = T + 1 + d from by omega]; exact c2, b4.tr c3, b7.tr c4, ?_⟩
    · show (MN N 0 cnt ρ).bind (Mit N 0 cnt d) = _
      rw [b1]
      exact c1
    · have v := (h_cell (μ := μ) (f := 0) hi (by decide)).trans hv
      have v' : μ 1 (ix (nI (1019 + 6 * i))) = nI e := v
      rw [f_X9_replay_56, if_pos (ib_nI (by omega) (by decide)), v', F.1.mt, F.2.2.1.2.1, if_neg (nI_ge' (by omega) (by omega)), b2, Option.bind_some]
      exact c5
theorem r230_it (wd : Int64) {N e : Nat} (hN : 10100 < N) (he : e ≤ 10080) : ∀ (d T n : Nat) (x3 : Int32) (ρ μ : Sg), FI 0 cnt kc T ρ μ → μ 2 (ix 0) = nI e → e ≤ T + d → (0 < d → T + d = e) → d < n →
    ∃ ρ' μ', Mit N 0 cnt d ρ = some ρ' ∧ FI 0 cnt kc (T + d) ρ' μ' ∧ RS μ μ' ∧ Ex LPs ρ ρ' ∧ f_X9_replay_230 N n x3 μ wd = (f_X9_copyState_backup_state N 0 0 μ' wd).bind (fun p4 => some (nI (aB cnt ρ'), p4))
  | 0, T, n, x3, ρ, μ, F, hv, h1, h2, hn => by
    obtain ⟨m, rfl⟩ : ∃ q, n = q + 1 := ⟨n - 1, by omega⟩
    have hT := F.2.2.1.1
    refine ⟨ρ, μ, rfl, F, RS.rf _, Ex.rf _ _, ?_⟩
    rw [f_X9_replay_230, hv, F.1.mt, F.2.2.1.2.1, if_pos (nI_le' (by omega) (by omega)), maB_v F.1 F.2.2.2 wd (N := N) (by omega), Option.bind_some]
  | d + 1, T, n, x3, ρ, μ, F, hv, h1, h2, hn => by
    obtain ⟨m, rfl⟩ : ∃ q, n = q + 1 := ⟨n - 1, by omega⟩
    have h3 := h2 (by omega)
    obtain ⟨ρ1, μ1, r1, b1, b2, b3, b4, -, -, b7⟩ := mn_sim F (by omega) wd (N := N) (by omega)
    obtain ⟨ρ', μ', c1, c2, c3, c4, c5⟩ := r230_it wd hN he d (T + 1) m (x3 + nI r1) ρ1 μ1 b3 (by rw [b4.1 2 (by decide)]; exact hv) (by omega) (by omega) (by omega)
    refine ⟨ρ', μ', ?_, by rw [show T + (d + 1) = T + 1 + d from by omega]; exact c2, b4.tr c3, b7.tr c4, ?_⟩
    · show (MN N 0 cnt ρ).bind (Mit N 0 cnt d) = _
      rw [b1]
      exact c1
    · rw [f_X9_replay_230, hv, F.1.mt, F.2.2.1.2.1, if_neg (nI_ge' (by omega) (by omega)), b2, Option.bind_some]
      exact c5
/-- on until a time, which may be past -/
theorem until_any {e : Nat} (F : FI L cnt kc T σ μ) (wd : Int64) {N : Nat} (hN : 10100 < N) (he : e ≤ 10080) : f_X1_passUntil N L (nI e) σ = Mit N L cnt (e - T) σ := by
  rcases Nat.le_total T e with q | q
  · exact until_at F wd hN he q
  · rw [until_past F hN q, Nat.sub_eq_zero_of_le q]
    rfl
/-- one change of the history, repeated -/
theorem rep_sim {hl0 : Nat} {μ0 : Sg} (H : HR hl0 σ μ0) (wd : Int64) {N i : Nat} (hN : 10100 < N) (hi : i < hl0) (k33 : Int32 → Int32 → Int32 → Sg → Int64 → Option (Int32 × Sg)) (x1 x3 : Int32) {ρ : Sg} (F : FI 0 cnt kc T ρ μ) (hh : ∀ k, 30 < k → k < 38 → pV μ k = pV μ0 k) :
    ∃ x3' cnt' ρ' μ', f_X8_repeatOnTrial N (nI i) σ ρ = some ρ' ∧ f_X9_replay_112 N k33 x1 x3 (nI i) (nI (1019 + 6 * i)) μ wd = k33 x1 x3' (nI (i + 1)) μ' wd ∧ FI 0 cnt' kc T ρ' μ' ∧ RS μ μ' := by
  obtain ⟨h1, -, -, h4⟩ := H
  obtain ⟨-, ty, hk⟩ := h4 i hi
  have i2 : i < 200 := by omega
  have a1 : nI (1019 + 6 * i) + 1 = nI (1019 + 6 * i + 1) := nI_add _ 1
  have a2 : nI (1019 + 6 * i) + 2 = nI (1019 + 6 * i + 2) := nI_add _ 2
  have a3 : nI (1019 + 6 * i) + 3 = nI (1019 + 6 * i + 3) := nI_add _ 3
  have a4 : nI (1019 + 6 * i) + 4 = nI (1019 + 6 * i + 4) := nI_add _ 4
  have a5 : nI (1019 + 6 * i) + 5 = nI (1019 + 6 * i + 5) := nI_add _ 5
  have b1 := h_cell (μ := μ) (f := 1) i2 (by decide)
  have b2 : μ 1 (ix (nI (1019 + 6 * i + 2))) = σ 34 i := (h_cell (f := 2) i2 (by decide)).trans ((congrFun (hh 34 (by decide) (by decide)) i).trans (hk 34 (by decide)))
  have b3 : μ 1 (ix (nI (1019 + 6 * i + 3))) = σ 35 i := (h_cell (f := 3) i2 (by decide)).trans ((congrFun (hh 35 (by decide) (by decide)) i).trans (hk 35 (by decide)))
  have b4 : μ 1 (ix (nI (1019 + 6 * i + 4))) = σ 36 i := (h_cell (f := 4) i2 (by decide)).trans ((congrFun (hh 36 (by decide) (by decide)) i).trans (hk 36 (by decide)))
  have b5 : μ 1 (ix (nI (1019 + 6 * i + 5))) = σ 37 i := (h_cell (f := 5) i2 (by decide)).trans ((congrFun (hh 37 (by decide) (by decide)) i).trans (hk 37 (by decide)))
  have b1' : μ 1 (ix (nI (1019 + 6 * i + 1))) = pV μ0 33 i := b1.trans (congrFun (hh 33 (by decide) (by decide)) i)
  have e9 : f_X9_replay_112 N k33 x1 x3 (nI i) (nI (1019 + 6 * i)) μ wd = (f_X9_errorOf (pV μ0 33 i) (σ 34 i) (σ 35 i) (σ 36 i) (σ 37 i) μ wd).bind (fun p7 => (if p7 = 0 then (f_X9_make N (pV μ0 33 i) (σ 34 i) (σ 35 i) (σ 36 i) (σ 37 i) μ wd).bind (fun p10 => k33 x1 (x3 + p10.1) (nI (i + 1)) p10.2 wd) else k33 x1 x3 (nI (i + 1)) μ wd)) := by
    unfold f_X9_replay_112
    rw [a1, a2, a3, a4, a5, if_pos (ib_nI (by omega) (by decide)), if_pos (ib_nI (by omega) (by decide)), if_pos (ib_nI (by omega) (by decide)), if_pos (ib_nI (by omega) (by decide)), if_pos (ib_nI (by omega) (by decide)), b1', b2, b3, b4, b5, nI_1]
  have e8 : f_X8_repeatOnTrial N (nI i) σ ρ = (f_X1_errorOf (σ 33 i) (σ 34 i) (σ 35 i) (σ 36 i) (σ 37 i) ρ).bind (fun p2 => (if p2 = 0 then (f_X1_make N 0 (σ 33 i) (σ 34 i) (σ 35 i) (σ 36 i) (σ 37 i) ρ).bind (fun p5 => some p5.2) else some ρ)) := by
    unfold f_X8_repeatOnTrial
    rw [if_pos (ib_nI i2 (by decide)), ix_nI (by omega)]
  rw [e8, e9]
  rcases ch_sim F ty (σ 34 i) (σ 35 i) (σ 36 i) (σ 37 i) (N := N) (by omega) wd with ⟨e, e0, e1, e2⟩ | ⟨e1, e2, r, cnt', σ', μ', m1, m2, m3, m4, m5, m6⟩
  · rw [e1, e2, Option.bind_some, Option.bind_some, if_neg e0, if_neg e0]
    exact ⟨x3, cnt, ρ, μ, rfl, rfl, F, RS.rf _⟩
  · rw [e1, e2, Option.bind_some, Option.bind_some, if_pos rfl, if_pos rfl, m1, m2, Option.bind_some, Option.bind_some]
    exact ⟨x3 + r, cnt', σ', μ', rfl, rfl, m3, m4⟩
/-- the history, change after change -/
theorem rp_it {hl0 : Nat} {μ0 : Sg} (H : HR hl0 σ μ0) (wd : Int64) {N : Nat} (hN : 10100 < N) (x1 : Int32) : ∀ (k i cnt T n n' : Nat) (x3 : Int32) (ρ μ : Sg), i + k = hl0 → FI 0 cnt kc T ρ μ → RS μ0 μ → k < n → k < n' →
    ∃ m x3' cnt' T' ρ' μ', f_X8_breachesInReplay_48 N n x1 (nI i) σ ρ = f_X8_breachesInReplay_48 N (m + 1) x1 (nI hl0) σ ρ' ∧ f_X9_replay_33 N n' x1 x3 (nI i) μ wd = f_X9_replay_230 N N x3' μ' wd ∧ FI 0 cnt' kc T' ρ' μ' ∧ RS μ0 μ'
  | 0, i, cnt, T, n, n', x3, ρ, μ, hk, F, R, hn, hn' => by
    obtain ⟨m, rfl⟩ : ∃ q, n = q + 1 := ⟨n - 1, by omega⟩
    obtain ⟨m', rfl⟩ : ∃ q, n' = q + 1 := ⟨n' - 1, by omega⟩
    obtain rfl : i = hl0 := by omega
    refine ⟨m, x3, cnt, T, ρ, μ, rfl, ?_, F, R⟩
    have e57 : μ 1 (ix 57) = nI i := (show pV μ 31 0 = nI i from (congrFun (R.2 31 (by decide) (by decide)) 0).trans H.2.2.1)
    rw [f_X9_replay_33, e57, if_pos (nI_le' (Nat.le_refl _) (by have := H.1; omega))]
  | k + 1, i, cnt, T, n, n', x3, ρ, μ, hk, F, R, hn, hn' => by
    obtain ⟨m, rfl⟩ : ∃ q, n = q + 1 := ⟨n - 1, by omega⟩
    obtain ⟨m', rfl⟩ : ∃ q, n' = q + 1 := ⟨n' - 1, by omega⟩
    have h200 := H.1
    have i2 : i < 200 := by omega
    obtain ⟨⟨e, e1, e2⟩, ty, hx⟩ := H.2.2.2 i (by omega)
    have e57 : μ 1 (ix 57) = nI hl0 := (show pV μ 31 0 = nI hl0 from (congrFun (R.2 31 (by decide) (by decide)) 0).trans H.2.2.1)
    have ht : pV μ 32 i = nI e := (congrFun (R.2 32 (by decide) (by decide)) i).trans ((hx 32 (by decide)).trans e2)
    obtain ⟨q, x4, ρ1, μ1, b1, b2, b3, b4, b5⟩ := r56_it wd hN e1 i2 (fun x1 x3 x4 σ wd => f_X9_replay_33 N m' x1 x3 x4 σ wd) x1 (e - T) T N x3 ρ μ F ht (by omega) (by omega) (by omega)
    have un : f_X1_passUntil N 0 (nI e) ρ = some ρ1 := (until_any F wd hN e1).trans b1
    have R1 : RS μ0 μ1 := R.tr b3
    have hh : ∀ k, 30 < k → k < 38 → pV μ1 k = pV μ0 k := R1.2
    have v32 : μ1 1 (ix (nI (1019 + 6 * i))) = nI e := (h_cell (f := 0) i2 (by decide)).trans ((congrFun (hh 32 (by decide) (by decide)) i).trans ((hx 32 (by decide)).trans e2))
    have v33 : μ1 1 (ix (nI (1019 + 6 * i + 1))) = pV μ0 33 i := (h_cell (f := 1) i2 (by decide)).trans (congrFun (hh 33 (by decide) (by decide)) i)
    have v34 : μ1 1 (ix (nI (1019 + 6 * i + 2))) = σ 34 i := (h_cell (f := 2) i2 (by decide)).trans ((congrFun (hh 34 (by decide) (by decide)) i).trans (hx 34 (by decide)))
    have a1 : nI (1019 + 6 * i) + 1 = nI (1019 + 6 * i + 1) := nI_add _ 1
    have a2 : nI (1019 + 6 * i) + 2 = nI (1019 + 6 * i + 2) := nI_add _ 2
    have c0 : f_X9_replay_33 N (m' + 1) x1 x3 (nI i) μ wd = f_X9_replay_56 N (fun x1 x3 x4 σ wd => f_X9_replay_33 N m' x1 x3 x4 σ wd) (q + 1) x1 x4 (nI i) (nI (1019 + 6 * i)) μ1 wd := by
      rw [f_X9_replay_33, e57, if_neg (nI_ge' (by omega) (by omega)), h_at0]
      exact b5
    have c1 : f_X9_replay_56 N (fun x1 x3 x4 σ wd => f_X9_replay_33 N m' x1 x3 x4 σ wd) (q + 1) x1 x4 (nI i) (nI (1019 + 6 * i)) μ1 wd = if pV μ0 33 i = 1 then (if σ 34 i = x1 then f_X9_replay_33 N m' x1 x4 (nI (i + 1)) μ1 wd else f_X9_replay_112 N (fun x1 x3 x4 σ wd => f_X9_replay_33 N m' x1 x3 x4 σ wd) x1 x4 (nI i) (nI (1019 + 6 * i)) μ1 wd) else f_X9_replay_112 N (fun x1 x3 x4 σ wd => f_X9_replay_33 N m' x1 x3 x4 σ wd) x1 x4 (nI i) (nI (1019 + 6 * i)) μ1 wd := by
      have tb := b2.2.2.1.1
      rw [f_X9_replay_56, if_pos (ib_nI (by omega) (by decide)), v32, b2.1.mt, b2.2.2.1.2.1, if_pos (nI_le' (by omega) (by omega)), a1, if_pos (ib_nI (by omega) (by decide)), v33, a2, if_pos (ib_nI (by omega) (by decide)), v34, nI_1]
    have d0 : f_X8_breachesInReplay_48 N (m + 1) x1 (nI i) σ ρ = if σ 33 i = 2 then (if σ 34 i = x1 then f_X8_breachesInReplay_48 N m x1 (nI (i + 1)) σ ρ1 else (f_X8_repeatOnTrial N (nI i) σ ρ1).bind (fun p13 => f_X8_breachesInReplay_48 N m x1 (nI (i + 1)) σ p13)) else (f_X8_repeatOnTrial N (nI i) σ ρ1).bind (fun p10 => f_X8_breachesInReplay_48 N m x1 (nI (i + 1)) σ p10) := by
      rw [f_X8_breachesInReplay_48, H.2.1, if_neg (nI_ge' (by omega) (by omega)), if_pos (ib_nI i2 (by decide)), ix_nI (by omega), e2, un, Option.bind_some, nI_1]
    have rep : ∃ m2 x3' cnt' T' ρ' μ', (f_X8_repeatOnTrial N (nI i) σ ρ1).bind (fun p10 => f_X8_breachesInReplay_48 N m x1 (nI (i + 1)) σ p10) = f_X8_breachesInReplay_48 N (m2 + 1) x1 (nI hl0) σ ρ' ∧ f_X9_replay_112 N (fun x1 x3 x4 σ wd => f_X9_replay_33 N m' x1 x3 x4 σ wd) x1 x4 (nI i) (nI (1019 + 6 * i)) μ1 wd = f_X9_replay_230 N N x3' μ' wd ∧ FI 0 cnt' kc T' ρ' μ' ∧ RS μ0 μ' := by
      obtain ⟨x5, cnt2, ρ2, μ2, g1, g2, g3, g4⟩ := rep_sim H wd hN (show i < hl0 by omega) (fun x1 x3 x4 σ wd => f_X9_replay_33 N m' x1 x3 x4 σ wd) x1 x4 b2 hh
      obtain ⟨m2, x3', cnt', T', ρ', μ', k1, k2, k3, k4⟩ := rp_it H wd hN x1 k (i + 1) cnt2 _ m m' x5 ρ2 μ2 (by omega) g3 (R1.tr g4) (by omega) (by omega)
      refine ⟨m2, x3', cnt', T', ρ', μ', ?_, ?_, k3, k4⟩
      · rw [g1, Option.bind_some]
        exact k1
      · rw [g2]
        exact k2
    rw [d0, c0, c1]
    by_cases w : σ 33 i = 2
    · rw [if_pos w, if_pos (ty.two.mp w)]
      by_cases z : σ 34 i = x1
      · rw [if_pos z, if_pos z]
        exact rp_it H wd hN x1 k (i + 1) cnt _ m m' x4 ρ1 μ1 (by omega) b2 R1 (by omega) (by omega)
      · rw [if_neg z, if_neg z]
        exact rep
    · rw [if_neg w, if_neg (fun z => w (ty.two.mpr z))]
      exact rep
def bgS (ρ : Sg) : Sg := (f_X1_beginWeek ρ).getD ρ
theorem bgS_v (ρ : Sg) : f_X1_beginWeek ρ = some (bgS ρ) := rfl
theorem bgS_k {ρ : Sg} {k : Nat} (h : k ≠ 12 ∧ k ≠ 13 ∧ k ≠ 14 ∧ k ≠ 15 ∧ k ≠ 30) : bgS ρ k = ρ k := by
  unfold bgS f_X1_beginWeek f_X0_begin
  rw [Option.bind_some, Option.getD_some, up_row h.2.2.2.1, upr_ne _ _ _ _ h.2.2.2.2, upr_ne _ _ _ _ h.2.2.1, upr_ne _ _ _ _ h.2.1, up_row h.1]
theorem bgS_12 {ρ : Sg} : bgS ρ 12 0 = 0 := by
  unfold bgS f_X1_beginWeek f_X0_begin
  rw [Option.bind_some, Option.getD_some, up_row (by decide), upr_ne _ _ _ _ (by decide), upr_ne _ _ _ _ (by decide), upr_ne _ _ _ _ (by decide), up_same]
theorem bgS_13 {ρ : Sg} {d : Nat} (h : d < 7) : bgS ρ 13 d = sA0 d := by
  unfold bgS f_X1_beginWeek f_X0_begin
  rw [Option.bind_some, Option.getD_some, up_row (by decide), upr_ne _ _ _ _ (by decide), upr_ne _ _ _ _ (by decide), upr_at]
  unfold va_cpy
  rw [if_pos ⟨Nat.zero_le _, h⟩]
  exact congrArg sA0 (Nat.zero_add _)
theorem bgS_14 {ρ : Sg} {d : Nat} (h : d < 7) : bgS ρ 14 d = sA1 d := by
  unfold bgS f_X1_beginWeek f_X0_begin
  rw [Option.bind_some, Option.getD_some, up_row (by decide), upr_ne _ _ _ _ (by decide), upr_at]
  unfold va_cpy
  rw [if_pos ⟨Nat.zero_le _, h⟩]
  exact congrArg sA1 (Nat.zero_add _)
theorem bgS_15 {ρ : Sg} : bgS ρ 15 0 = 0 := by
  unfold bgS f_X1_beginWeek f_X0_begin
  rw [Option.bind_some, Option.getD_some, up_same]
theorem bgS_30 {ρ : Sg} {d : Nat} (h : d < 4) : bgS ρ 30 d = 1 := by
  unfold bgS f_X1_beginWeek f_X0_begin
  rw [Option.bind_some, Option.getD_some, up_row (by decide), upr_at]
  exact if_pos h
theorem sA_b {d : Nat} (h : d < 7) : (0 ≤ (sA0 d).toInt ∧ (sA0 d).toInt ≤ 1440) ∧ (0 ≤ (sA1 d).toInt ∧ (sA1 d).toInt ≤ 1440) := by
  have : d = 0 ∨ d = 1 ∨ d = 2 ∨ d = 3 ∨ d = 4 ∨ d = 5 ∨ d = 6 := by omega
  rcases this with rfl | rfl | rfl | rfl | rfl | rfl | rfl <;> decide
/-- one replay -/
theorem bg_sim0 (wd : Int64) {N : Nat} (hN : 10100 < N) (V : LV cnt kc T hl σ μ) (hτ : τ 7 0 = 0) {μ1 : Sg} (hp : pV μ1 = pV μ) : ∃ μ2, f_X9_beginAtZero N μ1 wd = some μ2 ∧ RS μ1 μ2 ∧ pV μ2 7 0 = 0 ∧ ∀ ρ : Sg, (∀ k, 6 < k → k < 31 → ρ k = bgS τ k) → (∀ k i, k < 7 → i < rb 0 kc k → ρ k i = σ k i) → FI 0 0 kc 0 ρ μ2 := by
  have key1 := lift_itr (α := Sg) (fun n d c => f_X9_beginAtZero_9 N n d c wd) (fun d c => mu (mu c 13 d (sA0 d)) 14 d (sA1 d)) (fun i c => RS μ1 c ∧ pV c 12 0 = 0 ∧ (∀ k, k < 7 → pV c k = pV μ1 k) ∧ ∀ d, d < i → pV c 13 d = sA0 d ∧ pV c 14 d = sA1 d) (fun c => f_X9_beginAtZero_64 N N 0 c wd) 7
    (fun n i c hi I => by
      have v : pV (mu (mu c 13 i (sA0 i)) 14 i (sA1 i)) = up (up (pV c) 13 i (sA0 i)) 14 i (sA1 i) := by rw [pV_mu (k := 14) hi, pV_mu (k := 13) hi]
      refine ⟨⟨(I.1.tr (RS.mu _ _ _ _ hi (by decide))).tr (RS.mu _ _ _ _ hi (by decide)), ?_, fun k hk => ?_, fun d hd => ?_⟩, ?_⟩
      · rw [v, up_row (by decide), up_row (by decide)]
        exact I.2.1
      · rw [v, up_row (by omega), up_row (by omega)]
        exact I.2.2.1 k hk
      · rw [v]
        simp only [up_ite]
        by_cases e : d = i
        · subst e
          simp
        · have := I.2.2.2 d (by omega)
          simp [e]
          exact this
      · show f_X9_beginAtZero_9 N (n + 1) (nI i) c wd = f_X9_beginAtZero_9 N n (nI (i + 1)) (mu (mu c 13 i (sA0 i)) 14 i (sA1 i)) wd
        rw [f_X9_beginAtZero_9, if_neg (show ¬ (7 : Int32) ≤ nI i from nI_ge (b := 7) hi (by decide)), o_at, c_at, if_pos (c := ib (nI (1 + i)) 4619) (ib_nI (by omega) (by decide)), if_pos (c := ib (nI (1 + i)) 4619) (ib_nI (by omega) (by decide)), if_pos (c := ib (nI (8 + i)) 4619) (ib_nI (by omega) (by decide)), if_pos (c := ib (nI (8 + i)) 4619) (ib_nI (by omega) (by decide)), ix_nI (by omega), ix_nI (by omega), nI_1]
        have : i = 0 ∨ i = 1 ∨ i = 2 ∨ i = 3 ∨ i = 4 ∨ i = 5 ∨ i = 6 := by omega
        rcases this with rfl | rfl | rfl | rfl | rfl | rfl | rfl
        all_goals first | rw [if_neg (by decide), if_neg (by decide)] | rw [if_pos (by decide), if_pos (by decide)]
        all_goals rfl)
    (fun n c _ => by
      show f_X9_beginAtZero_9 N (n + 1) (nI 7) c wd = _
      rw [f_X9_beginAtZero_9, if_pos (by decide)]) (mu μ1 12 0 0) (by
      have v : pV (mu μ1 12 0 0) = up (pV μ1) 12 0 0 := pV_mu (k := 12) (show 0 < 1 by decide)
      exact ⟨RS.mu _ _ _ _ (by decide) (by decide), by rw [v, up_same], fun k hk => by rw [v, up_row (by omega)], fun d hd => absurd hd (Nat.not_lt_zero _)⟩) N (by omega)
  obtain ⟨⟨R1, t1, k1, d1⟩, q1⟩ := key1
  generalize itr (fun d c => mu (mu c 13 d (sA0 d)) 14 d (sA1 d)) 7 (mu μ1 12 0 0) = c1 at R1 t1 k1 d1 q1
  have key2 := lift_itr (α := Sg) (fun n d c => f_X9_beginAtZero_64 N n d c wd) (fun d c => mu c 30 d 1) (fun i c => RS μ1 c ∧ pV c 12 0 = 0 ∧ (∀ k, k < 7 → pV c k = pV μ1 k) ∧ (∀ d, d < 7 → pV c 13 d = sA0 d ∧ pV c 14 d = sA1 d) ∧ ∀ l, l < i → pV c 30 l = 1) (fun c => some (up (up c 1 (ix 56) 0) 1 (ix 58) 0)) 4
    (fun n i c hi I => by
      have v : pV (mu c 30 i 1) = up (pV c) 30 i 1 := pV_mu (k := 30) hi
      refine ⟨⟨I.1.tr (RS.mu _ _ _ _ hi (by decide)), ?_, fun k hk => ?_, fun d hd => ?_, fun l hl => ?_⟩, ?_⟩
      · rw [v, up_row (by decide)]
        exact I.2.1
      · rw [v, up_row (by omega)]
        exact I.2.2.1 k hk
      · rw [v, up_row (by omega), up_row (by omega)]
        exact I.2.2.2.1 d hd
      · rw [v, up_ite]
        by_cases e : l = i
        · rw [if_pos ⟨rfl, e⟩]
        · rw [if_neg (fun z => e z.2)]
          exact I.2.2.2.2 l (by omega)
      · show f_X9_beginAtZero_64 N (n + 1) (nI i) c wd = f_X9_beginAtZero_64 N n (nI (i + 1)) (mu c 30 i 1) wd
        rw [f_X9_beginAtZero_64, if_neg (show ¬ (4 : Int32) ≤ nI i from nI_ge (b := 4) hi (by decide)), a_at, if_pos (ib_nI (by omega) (by decide)), ix_nI (by omega), nI_1]
        rfl)
    (fun n c _ => by
      show f_X9_beginAtZero_64 N (n + 1) (nI 4) c wd = _
      rw [f_X9_beginAtZero_64, if_pos (by decide)]) c1 ⟨R1, t1, k1, d1, fun l hl => absurd hl (Nat.not_lt_zero _)⟩ N (by omega)
  obtain ⟨⟨R2, t2, k2, d2, l2⟩, q2⟩ := key2
  generalize itr (fun d c => mu c 30 d 1) 4 c1 = c2 at R2 t2 k2 d2 l2 q2
  have v : pV (mu (mu c2 15 0 0) 7 0 0) = up (up (pV c2) 15 0 0) 7 0 0 := by rw [pV_mu (k := 7) (show 0 < 1 by decide), pV_mu (k := 15) (show 0 < 1 by decide)]
  have R3 : RS μ1 (mu (mu c2 15 0 0) 7 0 0) := (R2.tr (RS.mu _ _ _ _ (by decide) (by decide))).tr (RS.mu _ _ _ _ (by decide) (by decide))
  have m0 : f_X9_beginAtZero N μ1 wd = some (mu (mu c2 15 0 0) 7 0 0) := by
    unfold f_X9_beginAtZero
    exact q1.trans q2
  have E := V.E
  refine ⟨_, m0, R3, by rw [v, up_same], fun ρ hr lo => ?_⟩
  refine ⟨⟨by decide, E.2.1, by rw [hr 15 (by decide) (by decide)]; exact bgS_15, (lo 0 0 (by decide) Nat.zero_lt_one).trans E.k, fun k i hi => ?_⟩, ⟨0, by decide, by rw [v, up_same]; rfl, Or.inl ⟨rfl, ?_⟩⟩, ⟨by decide, by rw [hr 12 (by decide) (by decide)]; exact bgS_12, fun k hk => ?_, fun d hd => ?_, fun l hl => ?_, fun t ht => absurd ht (Nat.not_lt_zero _), fun t ht => absurd ht (Nat.not_lt_zero _), fun t ht => absurd ht (Nat.not_lt_zero _)⟩, fun t ht => absurd ht (Nat.not_lt_zero _)⟩
  · rcases rb_low hi with ⟨-, -, q⟩ | ⟨q, q2⟩
    · exact absurd q (Nat.not_lt_zero _)
    · rcases q with q | rfl | rfl | rfl | rfl | rfl
      · have w := E.e k i (q2 cnt)
        rw [v, up_row (by omega), up_row (by omega), k2 k q, hp, lo k i q hi]
        exact w
      · obtain rfl : i = 0 := Nat.lt_one_iff.mp hi
        rw [v, up_row (by decide), up_row (by decide), t2, hr 12 (by decide) (by decide), bgS_12]
      · rw [v, up_row (by decide), up_row (by decide), (d2 i hi).1, hr 13 (by decide) (by decide), bgS_13 hi]
      · rw [v, up_row (by decide), up_row (by decide), (d2 i hi).2, hr 14 (by decide) (by decide), bgS_14 hi]
      · obtain rfl : i = 0 := Nat.lt_one_iff.mp hi
        rw [v, up_row (by decide), up_same, hr 15 (by decide) (by decide), bgS_15]
      · rw [v, up_row (by decide), up_row (by decide), l2 i hi, hr 30 (by decide) (by decide), bgS_30 hi]
  · rw [hr 7 (by decide) (by decide), bgS_k (by decide)]
    exact hτ
  · rw [lo 1 k (by decide) hk, lo 2 k (by decide) hk, lo 3 k (by decide) hk, lo 5 k (by decide) hk, lo 6 k (by decide) hk]
    exact V.1.2.2.1.2.2.1 k hk
  · rw [hr 13 (by decide) (by decide), hr 14 (by decide) (by decide), bgS_13 hd, bgS_14 hd]
    exact sA_b hd
  · rw [hr 30 (by decide) (by decide), bgS_30 hl]
    decide
/-- the trial desk at the beginning of a replay -/
theorem bg_sim (wd : Int64) {N : Nat} (hN : 10100 < N) (V : LV cnt kc T hl σ μ) (hτ : τ 7 0 = 0) {μ1 : Sg} (hp : pV μ1 = pV μ) : ∃ p3 μ2, f_X3_copyFrom N (bgS τ) σ = some p3 ∧ f_X9_beginAtZero N μ1 wd = some μ2 ∧ FI 0 0 kc 0 (mixK p3 (bgS τ)) μ2 ∧ RS μ1 μ2 := by
  obtain ⟨μ2, h1, h2, -, h4⟩ := bg_sim0 wd hN V hτ hp
  obtain ⟨p3, b1, b2, b3⟩ := kc_copy (bgS τ) σ (N := N) (by omega)
  refine ⟨p3, μ2, b1, h1, h4 _ (fun k k1 k2 => ?_) (fun k i hk hi => ?_), h2⟩
  · show (if k < 7 then _ else bgS τ k) = _
    rw [if_neg (by omega)]
  · have h6 := V.E.2.1
    have K := V.1.2.2.1.2.2.1
    show (if k < 7 then p3 k else _) i = _
    rw [if_pos hk]
    have i6 : k ≠ 0 → i < kc := fun h0 => by
      have : k = 1 ∨ k = 2 ∨ k = 3 ∨ k = 4 ∨ k = 5 ∨ k = 6 := by omega
      rcases this with rfl | rfl | rfl | rfl | rfl | rfl <;> exact hi
    have : k = 0 ∨ k = 1 ∨ k = 2 ∨ k = 3 ∨ k = 4 ∨ k = 5 ∨ k = 6 := by omega
    rcases this with rfl | rfl | rfl | rfl | rfl | rfl | rfl
    · obtain rfl : i = 0 := Nat.lt_one_iff.mp hi
      exact b2
    · exact (b3 i (by have := i6 (by decide); omega)).1.1
    · exact (b3 i (by have := i6 (by decide); omega)).1.2.1
    · exact (b3 i (by have := i6 (by decide); omega)).1.2.2
    · exact (b3 i (by have := i6 (by decide); omega)).2.1
    · exact (b3 i (by have := i6 (by decide); omega)).2.2.1
    · refine (b3 i (by have := i6 (by decide); omega)).2.2.2.trans ?_
      rcases (K i hi).2.2.2.2 with z | z <;> rw [z] <;> decide
theorem rp_sim (V : LV cnt kc T hl σ μ) (hτ : τ 7 0 = 0) {l : Nat} (hl4 : l < 4) {y : Int32} (hy : 0 ≤ y.toInt ∧ y.toInt ≤ 9) (wd : Int64) {N : Nat} (hN : 10100 < N) :
    ∃ r τ' μ', f_X8_breachesInReplay N (nI l) y σ τ = some (r, τ') ∧ τ' 7 0 = 0 ∧ f_X9_replay N (nI l) y μ wd = some (r, μ') ∧ LV cnt kc T hl σ μ' ∧ RY μ μ' := by
  have hT := V.1.2.2.1.1
  have vT := V.1.2.2.1.2.1
  obtain ⟨μ1, m1, m2, m3⟩ := cp_out μ wd hN
  have pv1 : pV μ1 = pV μ := pv_same fun a ha => by rw [m2 1 (by decide)]
  obtain ⟨p3, μ2, b1, b2, b3, b4⟩ := bg_sim wd hN V hτ pv1
  generalize hρ : mixK p3 (bgS τ) = ρ at b3
  have G : FI 0 0 kc 0 (up ρ 30 l y) (mu μ2 30 l y) := by
    obtain ⟨E, G, ⟨v1, v2, v3, v4, v5, v6, v7, v8⟩, hF⟩ := b3
    have x : Ex [30] ρ (up ρ 30 l y) := Ex.up _ _ _ (by decide)
    refine ⟨E.w 30 l y (by decide) (by decide) hl4, G.w 30 l y (by omega) hl4, ⟨v1, by rw [up_row (by decide)]; exact v2, v3.ex x (by decide), v4.ex x (by decide), fun j hj => ?_, fun t ht => absurd ht (Nat.not_lt_zero _), fun t ht => absurd ht (Nat.not_lt_zero _), fun t ht => absurd ht (Nat.not_lt_zero _)⟩, fun t ht => absurd ht (Nat.not_lt_zero _)⟩
    rw [up_ite]
    by_cases e : j = l
    · rw [if_pos ⟨rfl, e⟩]
      exact hy
    · rw [if_neg (fun z => e z.2)]
      exact v5 j hj
  have R : RS μ1 (mu μ2 30 l y) := b4.tr (RS.mu _ _ _ _ hl4 (by decide))
  have H1 : HR hl σ μ1 := (V.pv pv1).2
  obtain ⟨m, x3', cnt', T', ρ', μ', c1, c2, c3, c4⟩ := rp_it H1 wd hN (nI l) hl 0 0 0 N N 0 _ _ (by omega) G R (by have := H1.1; omega) (by have := H1.1; omega)
  have e2 : μ' 2 (ix 0) = nI T := by
    rw [c4.1 2 (by decide)]
    exact (m3 0 (by decide)).trans (V.E.mt.trans vT)
  obtain ⟨ρ3, μ3, f1, f2, f3, f4, f5⟩ := r230_it wd hN hT (T - T') T' N x3' ρ' μ' c3 e2 (by omega) (by omega) (by omega)
  obtain ⟨μ4, g1, g2, g3⟩ := cp_back wd hN m2 m3 (c4.tr f3)
  refine ⟨nI (aB cnt' ρ3), ρ3, μ4, ?_, f2.l0, ?_, V.pv g2, g3⟩
  · unfold f_X8_breachesInReplay
    rw [bgS_v τ, Option.bind_some, b1, Option.bind_some, if_pos (ib_nI hl4 (by decide)), ix_nI (by omega), hρ]
    refine Eq.trans c1 ?_
    rw [f_X8_breachesInReplay_48, V.2.2.1, if_pos (nI_le' (Nat.le_refl _) (by have := H1.1; omega)), vT, until_any c3 wd hN hT, f1, Option.bind_some, aB_v f2.cc (by omega), Option.bind_some]
  · unfold f_X9_replay
    rw [m1, Option.bind_some, b2, Option.bind_some, a_at, if_pos (ib_nI (by omega) (by decide)), ix_nI (by omega)]
    refine Eq.trans c2 ?_
    rw [f5, g1, Option.bind_some]
theorem with_sim (V : LV cnt kc T hl σ μ) (hτ : τ 7 0 = 0) (x y : Int32) (wd : Int64) {N : Nat} (hN : 10100 < N) :
    ∃ r τ' μ', f_X8_breachesWith N x y σ τ = some (r, τ') ∧ τ' 7 0 = 0 ∧ f_X9_breachesWith N x y μ wd = some (r, μ') ∧ LV cnt kc T hl σ μ' ∧ RY μ μ' := by
  unfold f_X8_breachesWith f_X9_breachesWith f_X9_isLevel
  simp only [wi_eq]
  rcases wi x 0 3 with w | w
  · obtain ⟨l, l1, rfl⟩ := nI_of0 w.2.1 (n := 3) w.2.2 (by decide)
    rcases wi y 0 9 with u | u
    · have u1 := z_le.mp u.2.1
      have u2 := z_le.mp u.2.2
      rw [z_0] at u1
      rw [show (9 : Int32).toInt = 9 from by decide] at u2
      obtain ⟨r, τ', μ', a1, a2, a3, a4, a5⟩ := rp_sim V hτ (l := l) (by omega) ⟨u1, u2⟩ wd hN
      refine ⟨r, τ', μ', ?_, a2, ?_, a4, a5⟩
      · rw [w.1, Option.bind_some, if_neg (by decide), u.1, Option.bind_some, if_neg (by decide), a1]
        rfl
      · rw [w.1, u.1, a3]
        simp [bz]
    · exact ⟨-4, τ, μ, by rw [w.1, u.1]; rfl, hτ, by rw [w.1, u.1]; simp [bz], V, fun _ _ _ => rfl⟩
  · exact ⟨-4, τ, μ, by rw [w.1]; rfl, hτ, by rw [w.1]; simp [bz], V, fun _ _ _ => rfl⟩
theorem la_it (wd : Int64) {N l : Nat} (hN : 10100 < N) (hl4 : l < 4) : ∀ (k i n n' : Nat) (τ μ : Sg), i + k = 10 → LV cnt kc T hl σ μ → τ 7 0 = 0 → k < n → k < n' →
    ∃ r τ' μ', f_X8_leastAgents_14 N n (nI l) (nI i) σ τ = some (r, τ') ∧ τ' 7 0 = 0 ∧ f_X9_leastAgents_12 N n' (nI l) (nI i) μ wd = some (r, μ') ∧ LV cnt kc T hl σ μ' ∧ RY μ μ'
  | 0, i, n, n', τ, μ, h, V, hτ, hn, hn' => by
    obtain ⟨m, rfl⟩ : ∃ q, n = q + 1 := ⟨n - 1, by omega⟩
    obtain ⟨m', rfl⟩ : ∃ q, n' = q + 1 := ⟨n' - 1, by omega⟩
    obtain rfl : i = 10 := by omega
    refine ⟨-1, τ, μ, ?_, hτ, ?_, V, fun _ _ _ => rfl⟩
    · rw [f_X8_leastAgents_14, if_pos (by decide)]
    · rw [f_X9_leastAgents_12, if_pos (by decide)]
  | k + 1, i, n, n', τ, μ, h, V, hτ, hn, hn' => by
    obtain ⟨m, rfl⟩ : ∃ q, n = q + 1 := ⟨n - 1, by omega⟩
    obtain ⟨m', rfl⟩ : ∃ q, n' = q + 1 := ⟨n' - 1, by omega⟩
    have zi := z_nI (n := i) (by omega)
    obtain ⟨r, τ', μ', a1, a2, a3, a4, a5⟩ := rp_sim V hτ (l := l) hl4 (y := nI i) (by omega) wd hN
    have ni : ¬ (9 : Int32) < nI i := fun q => by
      have := z_lt.mp q
      rw [zi, show (9 : Int32).toInt = 9 from by decide] at this
      omega
    rw [f_X8_leastAgents_14, if_neg ni, a1, Option.bind_some, f_X9_leastAgents_12, if_neg ni, a3, Option.bind_some, nI_1]
    by_cases z : r = 0
    · rw [if_pos z, if_pos z]
      exact ⟨nI i, τ', μ', rfl, a2, rfl, a4, a5⟩
    · rw [if_neg z, if_neg z]
      obtain ⟨r2, τ2, μ2, b1, b2, b3, b4, b5⟩ := la_it wd hN hl4 k (i + 1) m m' τ' μ' (by omega) a4 a2 (by omega) (by omega)
      exact ⟨r2, τ2, μ2, b1, b2, b3, b4, fun q q1 q2 => (b5 q q1 q2).trans (a5 q q1 q2)⟩
theorem least_sim (V : LV cnt kc T hl σ μ) (hτ : τ 7 0 = 0) (x : Int32) (wd : Int64) {N : Nat} (hN : 10100 < N) :
    ∃ r τ' μ', f_X8_leastAgents N x σ τ = some (r, τ') ∧ τ' 7 0 = 0 ∧ f_X9_leastAgents N x μ wd = some (r, μ') ∧ LV cnt kc T hl σ μ' ∧ RY μ μ' := by
  unfold f_X8_leastAgents f_X9_leastAgents f_X9_isLevel
  simp only [wi_eq]
  rcases wi x 0 3 with w | w
  · obtain ⟨l, l1, rfl⟩ := nI_of0 w.2.1 (n := 3) w.2.2 (by decide)
    obtain ⟨r, τ', μ', a1, a2, a3, a4, a5⟩ := la_it wd hN (l := l) (by omega) 10 0 N N τ μ rfl V hτ (by omega) (by omega)
    refine ⟨r, τ', μ', ?_, a2, ?_, a4, a5⟩
    · rw [w.1, Option.bind_some, if_neg (by decide)]
      exact a1
    · rw [w.1]
      simp [bz]
      exact a3
  · exact ⟨-4, τ, μ, by rw [w.1]; rfl, hτ, by rw [w.1]; simp [bz], V, fun _ _ _ => rfl⟩
end Gn
