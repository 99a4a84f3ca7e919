section Pj
variable {cnt kc T hl : Nat} {σ S μ : Sg}
/-! p62: minutes pass, and what is ahead -/
theorem mIt_tr (N : Nat) (wd : Int64) : ∀ (a b : Nat) (μ μ1 μ2 : Sg) (x y : Int32), mIt N wd a μ = some (x, μ1) → mIt N wd b μ1 = some (y, μ2) → ∃ z, mIt N wd (a + b) μ = some (z, μ2)
  | 0, b, μ, μ1, μ2, x, y, h1, h2 => by
    cases h1
    rw [Nat.zero_add]
    exact ⟨y, h2⟩
  | a + 1, b, μ, μ1, μ2, x, y, h1, h2 => by
    rw [show a + 1 + b = a + b + 1 from by omega]
    have h1' : (f_X9_passMinute N μ wd).bind (fun p => (mIt N wd a p.2).bind (fun q => some (p.1 + q.1, q.2))) = some (x, μ1) := h1
    cases hp : f_X9_passMinute N μ wd with
    | none => rw [hp] at h1'; cases h1'
    | some p =>
      rw [hp, Option.bind_some] at h1'
      cases hq : mIt N wd a p.2 with
      | none => rw [hq] at h1'; cases h1'
      | some q =>
        rw [hq, Option.bind_some] at h1'
        cases h1'
        obtain ⟨z, hz⟩ := mIt_tr N wd a b p.2 q.2 μ2 q.1 y hq h2
        refine ⟨p.1 + z, ?_⟩
        show (f_X9_passMinute N μ wd).bind (fun p => (mIt N wd (a + b) p.2).bind (fun q => some (p.1 + q.1, q.2))) = _
        rw [hp, Option.bind_some, hz, Option.bind_some]
/-- the ghost at the week's end -/
def FU (N T : Nat) (μ μF : Sg) : Prop := ∃ r, mIt N 0 (10080 - T) μ = some (r, μF)
theorem fu_ex (V : LV cnt kc T hl σ μ) {N : Nat} (hN : 100 < N) : ∃ μF, FU N T μ μF := by
  have hT := V.1.2.2.1.1
  obtain ⟨σ', μ', r, -, a2, -⟩ := it_sim (0 : Int64) hN (10080 - T) T σ μ V.1 (by omega)
  exact ⟨μ', _, a2⟩
theorem fu_un {N : Nat} {μF μG : Sg} (h : FU N T μ μF) (h2 : FU N T μ μG) : μF = μG := by
  obtain ⟨r, h⟩ := h
  obtain ⟨r2, h2⟩ := h2
  rw [h] at h2
  cases h2
  rfl
theorem fu_pass {N d : Nat} {μ1 μF : Sg} {r : Int32} (hd : T + d ≤ 10080) (h : mIt N 0 d μ = some (r, μ1)) (h2 : FU N (T + d) μ1 μF) : FU N T μ μF := by
  obtain ⟨r2, h2⟩ := h2
  obtain ⟨z, hz⟩ := mIt_tr N 0 d (10080 - (T + d)) μ μ1 μF r r2 h h2
  exact ⟨z, by rw [show 10080 - T = d + (10080 - (T + d)) from by omega]; exact hz⟩
/-- a trial desk's end -/
theorem tr_end (V : LV cnt kc T hl σ μ) {N : Nat} (hN : 10100 < N) {μF : Sg} (hF : FU N T μ μF) (τ : Sg) : ∃ p ρ, f_X1_copyFrom N 0 600 τ σ = some p ∧ f_X1_passUntil N 0 10080 p = some ρ ∧ FI 0 cnt kc 10080 ρ μF := by
  have hT := V.1.2.2.1.1
  obtain ⟨p, p1, p2, p3⟩ := dk_copy V τ (L := 0) (Or.inl rfl) (N := N) (by omega)
  have F0 : FI 0 cnt kc T p μ := trial_fi V p2 p3 rfl
  obtain ⟨ρ, μ', r, a1, a2, a3, -⟩ := it_sim (0 : Int64) (N := N) (by omega) (10080 - T) T p μ F0 (by omega)
  obtain ⟨r2, hF⟩ := hF
  rw [a2] at hF
  cases hF
  rw [show T + (10080 - T) = 10080 from by omega] at a3
  exact ⟨p, ρ, p1, (until_at F0 0 hN (e := 10080) (by omega) hT).trans a1, a3⟩
theorem fc_v (V : LV cnt kc T hl σ μ) {N : Nat} (hN : 10100 < N) {μF : Sg} (hF : FU N T μ μF) {t : Nat} (ht : t < cnt) (τ : Sg) : ∃ τ', f_X8_forecast N (nI t) σ τ = some (pV μF 29 t, τ') := by
  have h60 := V.E.1
  obtain ⟨p, ρ, h1, h2, h3⟩ := tr_end V hN hF τ
  refine ⟨ρ, ?_⟩
  unfold f_X8_forecast
  rw [ex1 V.E.c h60 ht, Option.bind_some, if_neg (by decide), h1, Option.bind_some, h2, Option.bind_some, if_pos (ib_nI (by omega) (by decide)), ix_nI (by omega), h3.1.e 29 t (show t < cnt from ht)]
theorem lR_ex {ρ : Sg} (hk : ∀ t, t < cnt → KT kc σ t) (h6 : kc ≤ 6) (h16 : ∀ t, t < cnt → ρ 16 t = σ 16 t) (h1 : ∀ k, k < kc → ρ 1 k = σ 1 k) (h24 : ∀ t, t < cnt → ρ 24 t = σ 24 t) : fb_ct (lR ρ (-1)) cnt = fb_ct (lR σ (-1)) cnt := fb_ct_cong (fun t ht => by
  unfold lR
  rw [h16 t ht, h24 t ht, h1 _ ((hk t ht).lt h6)])
theorem lV_ex {ρ : Sg} (hk : ∀ t, t < cnt → KT kc σ t) (h6 : kc ≤ 6) (h16 : ∀ t, t < cnt → ρ 16 t = σ 16 t) (h2 : ∀ k, k < kc → ρ 2 k = σ 2 k) (h25 : ∀ t, t < cnt → ρ 25 t = σ 25 t) : fb_ct (lV ρ (-1)) cnt = fb_ct (lV σ (-1)) cnt := fb_ct_cong (fun t ht => by
  unfold lV
  rw [h16 t ht, h25 t ht, h2 _ ((hk t ht).lt h6)])
theorem aB_pv {L A : Nat} {ρ μF : Sg} (F : FI L cnt kc A ρ μF) : aB cnt (pV μF) = aB cnt ρ := by
  have E := F.1
  have hk := F.2.2.1.2.2.2.2.2.2.1
  unfold aB
  rw [lR_ex hk E.2.1 (fun t ht => E.e 16 t ht) (fun k hk => E.e 1 k hk) (fun t ht => E.e 24 t ht), lV_ex hk E.2.1 (fun t ht => E.e 16 t ht) (fun k hk => E.e 2 k hk) (fun t ht => E.e 25 t ht)]
theorem ba_v (V : LV cnt kc T hl σ μ) {N : Nat} (hN : 10100 < N) {μF : Sg} (hF : FU N T μ μF) (τ : Sg) : ∃ τ', f_X8_breachesAhead N σ τ = some (nI (aB cnt (pV μF)) - nI (aB cnt σ), τ') := by
  obtain ⟨p, ρ, h1, h2, h3⟩ := tr_end V hN hF τ
  refine ⟨ρ, ?_⟩
  unfold f_X8_breachesAhead
  rw [h1, Option.bind_some, h2, Option.bind_some, aB_v h3.cc (by omega), Option.bind_some, aB_v V.cc (by omega), Option.bind_some, aB_pv h3]
theorem lps_hi {ρ : Sg} (h : Ex LPs σ ρ) : ∀ k, 30 < k → ρ k = σ k := fun k hk => h k (fun q => by
  unfold LPs at q
  simp only [List.mem_cons, List.not_mem_nil, or_false] at q
  omega)
theorem ps_v (V : LV cnt kc T hl σ μ) (J : JR cnt kc T σ) {N : Nat} (hN : 10100 < N) {d : Nat} (h1 : 1 ≤ d) (hd : T + d ≤ 10080) : ∃ σ1 μ1, f_X8_pass N (nI d) σ = some (nI (fb_ct (sB σ1) cnt) - nI (fb_ct (sB σ) cnt), σ1) ∧ LV cnt kc (T + d) hl σ1 μ1 ∧ JI cnt kc (T + d) σ1 ∧ GD cnt T d σ σ1 ∧ SK cnt σ σ1 ∧ Ex LPs σ σ1 ∧ ∃ r, mIt N 0 d μ = some (r, μ1) := by
  obtain ⟨F, H⟩ := V
  have hT := F.2.2.1.1
  have vT := F.2.2.1.2.1
  have E := F.1
  obtain ⟨σ', μ', r, a1, a2, a3, a4, a5, a6, a7⟩ := it_sim (L := 600) (cnt := cnt) (kc := kc) (0 : Int64) (N := N) (by omega) d T σ μ F (by omega)
  obtain ⟨j1, j2⟩ := it_jr (N := N) (by omega) d T σ μ F J hd σ' a1
  have un : f_X1_passUntil N 600 (nI (T + d)) σ = some σ' := (until_at F 0 hN hd (by omega)).trans (by rw [show T + d - T = d from by omega]; exact a1)
  have mx : mixKLgC σ' σ = σ' := by
    funext k
    unfold mixKLgC
    split
    · rfl
    · exact (lps_hi a7 k (by omega)).symm
  have w : f_X8_within (nI d) 1 (nI (10080 - T)) = some 1 := w_1 (b := 1) h1 (by omega) (by omega)
  refine ⟨σ', μ', ?_, ⟨a3, H.keep' (lps_hi a7) a4.2⟩, j1.1, j2, a6, a7, _, a2⟩
  unfold f_X8_pass
  rw [vT, show (10080 : Int32) - nI T = nI (10080 - T) from nI_sub' (a := 10080) hT (by omega), w, Option.bind_some, if_neg (by decide), cs_v E.c E.1 (N := N) (by omega), Option.bind_some, nI_add, un, Option.bind_some, mx, cs_v a3.1.c E.1 (N := N) (by omega), Option.bind_some]
/-- what was ahead, by the ghost -/
theorem fu_v (V : LV cnt kc T hl σ μ) (J : JR cnt kc T σ) {N : Nat} (hN : 100 < N) {μF : Sg} (hF : FU N T μ μF) {t : Nat} (ht : t < cnt) : (σ 21 t = 3 → pV μF 29 t = σ 29 t) ∧ (pV μF 29 t = -1 ∨ σ 21 t = 3 ∨ ∃ v : Nat, T < v ∧ v ≤ 10080 ∧ pV μF 29 t = nI v) := by
  have hT := V.1.2.2.1.1
  obtain ⟨d, hd⟩ : ∃ d, T + d = 10080 := ⟨10080 - T, by omega⟩
  obtain ⟨σ', μ', r, a1, a2, a3, -, -, a6, -⟩ := it_sim (0 : Int64) hN d T σ μ V.1 (by omega)
  obtain ⟨j1, j2⟩ := it_jr hN d T σ μ V.1 J (by omega) σ' a1
  obtain ⟨r2, hF⟩ := hF
  rw [show 10080 - T = d from by omega, a2] at hF
  cases hF
  have e29 : pV μF 29 t = σ' 29 t := a3.1.e 29 t ht
  rw [e29]
  refine ⟨fun q => (a6 t ht q).2, ?_⟩
  obtain ⟨q, -, -, -, -, -, -, x1, x2⟩ := j1.1.1 t ht
  by_cases s3 : σ' 21 t = 3
  · right
    rcases (j2 t ht).2 s3 with z | ⟨v, v1, v2, v3⟩
    · exact Or.inl z
    · exact Or.inr ⟨v, v1, by omega, v3⟩
  · exact Or.inl (x2 s3)
theorem cmt_le (σ : Sg) (T d t : Nat) : cmt σ T d t ≤ d := by
  unfold cmt
  split
  · exact fb_ct_le _ _
  · exact Nat.le_refl _
theorem gd_up (V : LV cnt kc T hl σ μ) {d : Nat} (hd : T + d ≤ 10080) {σ1 : Sg} (G : GD cnt T d σ σ1) {t : Nat} (ht : t < cnt) {k : Nat} (hk : k = 24 ∨ k = 25) : (σ k t).toInt ≤ (σ1 k t).toInt := by
  obtain ⟨g, g1, g2, -⟩ := (G t ht).1 k hk
  have := cmt_le σ T d t
  have tb := (V.1.2.2.1.2.2.2.2.2.2.2 t ht).1
  have b : 0 ≤ (σ k t).toInt ∧ (σ k t).toInt ≤ T := by
    rcases hk with rfl | rfl
    · exact tb.2.2.1
    · exact tb.2.2.2
  rw [g1, z_add (by omega) (by omega) (by rw [z_nI (by omega)]; omega) (by rw [z_nI (by omega)]; omega), z_nI (by omega)]
  omega
theorem lR_up (V : LV cnt kc T hl σ μ) {d : Nat} (hd : T + d ≤ 10080) {σ1 : Sg} (G : GD cnt T d σ σ1) (x : Ex LPs σ σ1) : fb_ct (lR σ (-1)) cnt ≤ fb_ct (lR σ1 (-1)) cnt := fb_ct_sub (fun t ht q => by
  unfold lR at q ⊢
  obtain ⟨q1, q2⟩ := of_decide_eq_true q
  rw [x 16 (by decide), x 1 (by decide)]
  have := gd_up V hd G ht (k := 24) (Or.inl rfl)
  refine decide_eq_true ⟨q1, z_lt.mpr ?_⟩
  have := z_lt.mp q2
  omega)
theorem lV_up (V : LV cnt kc T hl σ μ) {d : Nat} (hd : T + d ≤ 10080) {σ1 : Sg} (G : GD cnt T d σ σ1) (x : Ex LPs σ σ1) : fb_ct (lV σ (-1)) cnt ≤ fb_ct (lV σ1 (-1)) cnt := fb_ct_sub (fun t ht q => by
  unfold lV at q ⊢
  obtain ⟨q1, q2⟩ := of_decide_eq_true q
  rw [x 16 (by decide), x 2 (by decide)]
  have := gd_up V hd G ht (k := 25) (Or.inr rfl)
  refine decide_eq_true ⟨q1, z_lt.mpr ?_⟩
  have := z_lt.mp q2
  omega)
end Pj
