section Qf
variable {cnt kc T hl m d : Nat} {σ σ1 θ υ τ μ μ1 μF : Sg} {tS : Nat → Nat}
/-! p62's law: minutes pass -/
/-- what was noted of the first i tickets -/
def NB (i : Nat) (σ μF ν : Sg) : Prop := ∀ t, t < i → (ν 1 t = -9 ∨ ν 1 t = pV μF 29 t) ∧ ν 2 t = σ 24 t ∧ ν 3 t = σ 25 t
theorem NB.s {i : Nat} {ν : Sg} (h : NB i σ μF ν) {x : Int32} (hx : x = -9 ∨ x = pV μF 29 i) : NB (i + 1) σ μF (up (up (up ν 1 i x) 2 i (σ 24 i)) 3 i (σ 25 i)) := fun t ht => by
  by_cases z : t = i
  · subst z
    simp [up_ite]
    exact hx
  · have := h t (by omega)
    simp [up_ite, z]
    exact this
theorem y_o0 (y : Int64) : y ||| 0 = y := y_or0 y
theorem ps_85 (D : DI cnt kc T hl σ) (V : LV cnt kc T hl σ μ) {N : Nat} (hN : 10100 < N) (hF : FU N T μ μF) {i : Nat} (hi : i < cnt) (n : Nat) (x2 x3 x11 : Int32) (ν : Sg) (h : NB i σ μF ν) : ∃ τ' ν', f_L_passes_85 N tS kc cnt (n + 1) (nI cnt) x2 x3 0 (nI (fb_ct (sB σ) i)) (mk (sB σ) i) x11 (nI i) θ υ σ τ ν = f_L_passes_85 N tS kc cnt n (nI cnt) x2 x3 0 (nI (fb_ct (sB σ) (i + 1))) (mk (sB σ) (i + 1)) x11 (nI (i + 1)) θ υ σ τ' ν' ∧ NB (i + 1) σ μF ν' := by
  have h60 := D.b.2.1
  have tail : ∀ (τ' ν' : Sg), (f_X8_stateOf (nI i) σ).bind (fun p34 => (if p34 = 3 then (f_X8_stateOf (nI i) σ).bind (fun p40 => (if p40 = 3 then f_L_passes_85 N tS kc cnt n (nI cnt) x2 x3 0 (nI (fb_ct (sB σ) i) + 1) (mk (sB σ) i ||| (1 <<< ((nI i).toInt64 &&& 63))) x11 (nI i + 1) θ υ σ τ' ν' else f_L_passes_85 N tS kc cnt n (nI cnt) x2 x3 0 (nI (fb_ct (sB σ) i) + 1) (mk (sB σ) i ||| 0) x11 (nI i + 1) θ υ σ τ' ν')) else (f_X8_stateOf (nI i) σ).bind (fun p37 => (if p37 = 3 then f_L_passes_85 N tS kc cnt n (nI cnt) x2 x3 0 (nI (fb_ct (sB σ) i) + 0) (mk (sB σ) i ||| (1 <<< ((nI i).toInt64 &&& 63))) x11 (nI i + 1) θ υ σ τ' ν' else f_L_passes_85 N tS kc cnt n (nI cnt) x2 x3 0 (nI (fb_ct (sB σ) i) + 0) (mk (sB σ) i ||| 0) x11 (nI i + 1) θ υ σ τ' ν')))) = f_L_passes_85 N tS kc cnt n (nI cnt) x2 x3 0 (nI (fb_ct (sB σ) (i + 1))) (mk (sB σ) (i + 1)) x11 (nI (i + 1)) θ υ σ τ' ν' := fun τ' ν' => by
    rw [v_stateOf D hi, Option.bind_some, Option.bind_some, Option.bind_some, fb_ct_succ, mk_s (sB σ) (show i < 60 by omega), nI_1 i]
    by_cases s3 : σ 21 i = 3
    · have b : sB σ i = true := decide_eq_true s3
      rw [if_pos s3, if_pos s3, if_pos b, if_pos b, nI_1]
    · have b : ¬ sB σ i = true := fun z => s3 (of_decide_eq_true z)
      rw [if_neg s3, if_neg s3, if_neg b, if_neg b, y_o0]
      rw [show nI (fb_ct (sB σ) i) + 0 = nI (fb_ct (sB σ) i + 0) from nI_add _ 0]
  obtain ⟨τ1, f1⟩ := fc_v V hN hF hi τ
  rw [f_L_passes_85, if_neg (nI_ge hi (by omega))]
  by_cases c : (nI i - ((nI i / 10) * 10)) = x11
  · refine ⟨τ1, up (up (up ν 1 i (pV μF 29 i)) 2 i (σ 24 i)) 3 i (σ 25 i), ?_, h.s (Or.inr rfl)⟩
    rw [if_pos c, f1, Option.bind_some, if_pos (ib_nI hi (by omega)), v_responseClock D hi, Option.bind_some, v_resolveClock D hi, Option.bind_some, ix_nI (by omega)]
    exact tail _ _
  · refine ⟨τ, up (up (up ν 1 i (-9)) 2 i (σ 24 i)) 3 i (σ 25 i), ?_, h.s (Or.inl rfl)⟩
    rw [if_neg c, if_pos (ib_nI hi (by omega)), v_responseClock D hi, Option.bind_some, v_resolveClock D hi, Option.bind_some, ix_nI (by omega)]
    exact tail _ _
/-- one ticket, behind the minutes -/
theorem ps_376 (D1 : DI cnt kc (T + d) hl σ1) (V1 : LV cnt kc (T + d) hl σ1 μ1) {N : Nat} (hN : 10100 < N) (hF : FU N (T + d) μ1 μF) (hd : T + d ≤ 10080) {i : Nat} (hi : i < cnt) {ν : Sg} (h : NB cnt σ μF ν) (k257 : Int32 → Int32 → Int32 → Int32 → Int32 → Int64 → Int32 → Int32 → Int32 → Int32 → Int32 → Sg → Sg → Sg → Sg → Sg → Option (Int32 × Sg × Sg × Sg)) (x5 : Int32) (y9 : Int64) (x12 x13 x14 x15 : Int32) : ∃ τ', f_L_passes_376 N tS kc cnt k257 (nI cnt) (nI d) (nI T) (nI (fb_ct (sB σ1) i)) x5 y9 x12 x13 x14 x15 (nI i) θ υ σ1 τ ν = k257 (nI cnt) (nI d) (nI T) (nI (fb_ct (sB σ1) (i + 1))) x5 y9 x12 x13 x14 x15 (nI (i + 1)) θ υ σ1 τ' ν := by
  have h60 := D1.b.2.1
  obtain ⟨τ1, f1⟩ := fc_v V1 hN hF hi τ
  obtain ⟨u1, u2⟩ := fu_v V1 D1.jr (by omega) hF hi
  have ev : (if σ1 21 i = 3 then nI (fb_ct (sB σ1) i) + 1 else nI (fb_ct (sB σ1) i) + 0) = nI (fb_ct (sB σ1) (i + 1)) := by
    rw [fb_ct_succ]
    by_cases s3 : σ1 21 i = 3
    · rw [if_pos s3, if_pos (show sB σ1 i = true from decide_eq_true s3), nI_1]
    · rw [if_neg s3, if_neg (show ¬ sB σ1 i = true from fun z => s3 (of_decide_eq_true z))]
      exact nI_add _ 0
  have body : ∀ x4 : Int32, ∃ τ', (if (ν 1 i) = (-9) then k257 (nI cnt) (nI d) (nI T) x4 x5 y9 x12 x13 x14 x15 (nI i + 1) θ υ σ1 τ ν else (if (ν 1 i) < 0 then (f_X8_forecast N (nI i) σ1 τ).bind (fun p23 => (if p23.1 = (ν 1 i) then k257 (nI cnt) (nI d) (nI T) x4 x5 y9 x12 x13 x14 x15 (nI i + 1) θ υ σ1 p23.2 ν else some (0, θ, σ1, p23.2))) else (if (nI T + nI d) < (ν 1 i) then (f_X8_forecast N (nI i) σ1 τ).bind (fun p27 => (if p27.1 = (ν 1 i) then k257 (nI cnt) (nI d) (nI T) x4 x5 y9 x12 x13 x14 x15 (nI i + 1) θ υ σ1 p27.2 ν else some (0, θ, σ1, p27.2))) else (f_X8_stateOf (nI i) σ1).bind (fun p30 => (if p30 = 3 then (f_X8_solvedAt (nI i) σ1).bind (fun p33 => (if p33 = (ν 1 i) then k257 (nI cnt) (nI d) (nI T) x4 x5 y9 x12 x13 x14 x15 (nI i + 1) θ υ σ1 τ ν else some (0, θ, σ1, τ))) else some (0, θ, σ1, τ)))))) = k257 (nI cnt) (nI d) (nI T) x4 x5 y9 x12 x13 x14 x15 (nI (i + 1)) θ υ σ1 τ' ν := fun x4 => by
    rw [nI_1]
    by_cases c9 : ν 1 i = -9
    · exact ⟨τ, by rw [if_pos c9]⟩
    · have en : ν 1 i = pV μF 29 i := ((h i hi).1).resolve_left c9
      rw [if_neg c9, f1, Option.bind_some, nI_add, en]
      by_cases n0 : pV μF 29 i < 0
      · exact ⟨τ1, by rw [if_pos n0, if_pos rfl]⟩
      · rw [if_neg n0]
        by_cases n1 : nI (T + d) < pV μF 29 i
        · exact ⟨τ1, by rw [if_pos n1, if_pos rfl]⟩
        · refine ⟨τ, ?_⟩
          have s3 : σ1 21 i = 3 := by
            rcases u2 with z | z | ⟨v, v1, v2, v3⟩
            · rw [z] at n0
              exact absurd (by decide) n0
            · exact z
            · rw [v3] at n1
              exact absurd (Int32.not_le.mp (nI_ge' v1 (by omega))) n1
          rw [if_neg n1, v_stateOf D1 hi, Option.bind_some, if_pos s3, v_solvedAt D1 hi, Option.bind_some, if_pos (u1 s3).symm]
  unfold f_L_passes_376
  rw [v_stateOf D1 hi, Option.bind_some, ix_nI (by omega), if_pos (ib_nI hi (by omega)), if_pos (ib_nI hi (by omega))]
  by_cases s3 : σ1 21 i = 3
  · rw [if_pos s3] at ev ⊢
    rw [← ev]
    have B := body (nI (fb_ct (sB σ1) i) + 1)
    rw [v_stateOf D1 hi] at B
    exact B
  · rw [if_neg s3] at ev ⊢
    rw [← ev]
    have B := body (nI (fb_ct (sB σ1) i) + 0)
    rw [v_stateOf D1 hi] at B
    exact B
theorem z_gr {a g : Nat} (x : Int32) : x + nI g - x = nI g := by
  rw [Int32.add_comm, Int32.add_sub_cancel]
theorem ps_257 (D : DI cnt kc T hl σ) (D1 : DI cnt kc (T + d) hl σ1) (V1 : LV cnt kc (T + d) hl σ1 μ1) (K : KM kc υ σ) (hlo : Lo σ σ1) (h16 : σ1 16 = σ 16) {N : Nat} (hN : 10100 < N) (hF : FU N (T + d) μ1 μF) (hd : T + d ≤ 10080) (G : GD cnt T d σ σ1) {i : Nat} (hi : i < cnt) {ν : Sg} (h : NB cnt σ μF ν) (n : Nat) (x5 x12 x13 x14 : Int32) : ∃ τ', f_L_passes_257 N tS kc cnt (n + 1) (nI cnt) (nI d) (nI T) (nI (fb_ct (sB σ1) i)) x5 (mk (sB σ) cnt) x12 x13 x14 (nI (fb_ct (fun i => opB σ (T + i)) d)) (nI i) θ υ σ1 τ ν = f_L_passes_257 N tS kc cnt n (nI cnt) (nI d) (nI T) (nI (fb_ct (sB σ1) (i + 1))) x5 (mk (sB σ) cnt) x12 x13 x14 (nI (fb_ct (fun i => opB σ (T + i)) d)) (nI (i + 1)) θ υ σ1 τ' ν := by
  have h60 := D.b.2.1
  have h6 := D.b.2.2.1
  obtain ⟨k, k1, k2⟩ := D.kt hi
  obtain ⟨τ', e376⟩ := ps_376 (θ := θ) (υ := υ) (τ := τ) (tS := tS) D1 V1 hN hF hd hi h (fun x1 x2 x3 x4 x5 y9 x12 x13 x14 x15 x16 θ υ σ τ ν => f_L_passes_257 N tS kc cnt n x1 x2 x3 x4 x5 y9 x12 x13 x14 x15 x16 θ υ σ τ ν) x5 (mk (sB σ) cnt) x12 x13 x14 (nI (fb_ct (fun i => opB σ (T + i)) d))
  refine ⟨τ', ?_⟩
  obtain ⟨gk, -⟩ := G i hi
  obtain ⟨g, g1, g2, g3⟩ := gk 24 (Or.inl rfl)
  obtain ⟨f, f1, f2, f3⟩ := gk 25 (Or.inr rfl)
  obtain ⟨-, n2, n3⟩ := h i hi
  have cl := cmt_le σ T d i
  have cz := fb_ct_le (fun i => opB σ (T + i)) d
  have hib : ib (σ1 16 i) kc := by
    rw [h16, k2]
    exact ib_nI k1 (by omega)
  have e5 : υ (90 + ix (σ1 16 i)) (ix 5) = υ (90 + k) 5 := by
    rw [h16, k2, ix_nI (by omega)]
    rfl
  have c6 : σ 6 (ix (σ 16 i)) = σ 6 k := by rw [k2, ix_nI (by omega)]
  have sg : σ 24 i + nI g - σ 24 i = nI g := z_gr (a := 0) _
  have sf : σ 25 i + nI f - σ 25 i = nI f := z_gr (a := 0) _
  have pos : ∀ x : Nat, x ≤ 10080 → ¬ nI x < 0 := fun x hx => nI_pos (by omega)
  have rest : (if (lg_cmp ((mk (sB σ) cnt >>> ((nI i).toInt64 &&& 63)) &&& 1) 1) = 0 then (if (nI g + nI f) ≤ 0 then f_L_passes_376 N tS kc cnt (fun x1 x2 x3 x4 x5 y9 x12 x13 x14 x15 x16 θ υ σ τ ν => f_L_passes_257 N tS kc cnt n x1 x2 x3 x4 x5 y9 x12 x13 x14 x15 x16 θ υ σ τ ν) (nI cnt) (nI d) (nI T) (nI (fb_ct (sB σ1) i)) x5 (mk (sB σ) cnt) x12 x13 x14 (nI (fb_ct (fun i => opB σ (T + i)) d)) (nI i) θ υ σ1 τ ν else some (0, θ, σ1, τ)) else f_L_passes_376 N tS kc cnt (fun x1 x2 x3 x4 x5 y9 x12 x13 x14 x15 x16 θ υ σ τ ν => f_L_passes_257 N tS kc cnt n x1 x2 x3 x4 x5 y9 x12 x13 x14 x15 x16 θ υ σ τ ν) (nI cnt) (nI d) (nI T) (nI (fb_ct (sB σ1) i)) x5 (mk (sB σ) cnt) x12 x13 x14 (nI (fb_ct (fun i => opB σ (T + i)) d)) (nI i) θ υ σ1 τ ν) = f_L_passes_257 N tS kc cnt n (nI cnt) (nI d) (nI T) (nI (fb_ct (sB σ1) (i + 1))) x5 (mk (sB σ) cnt) x12 x13 x14 (nI (fb_ct (fun i => opB σ (T + i)) d)) (nI (i + 1)) θ υ σ1 τ' ν := by
    rw [mk_bit _ h60 hi, e376]
    by_cases s3 : σ 21 i = 3
    · rw [if_pos (show sB σ i = true from decide_eq_true s3), if_pos (lgc0 1), g3 s3, f3 s3, if_pos (by decide)]
    · rw [if_neg (show ¬ sB σ i = true from fun z => s3 (of_decide_eq_true z)), if_neg (by decide)]
  have tail : ∀ c : Nat, g ≤ c → f ≤ c → c ≤ 10080 → (f_X8_responseClock (nI i) σ1).bind (fun p32 => if ib (nI i) cnt then (f_X8_resolveClock (nI i) σ1).bind (fun p35 => (if (p32 - (ν 2 (ix (nI i)))) < 0 then some (0, θ, σ1, τ) else (if nI c < (p32 - (ν 2 (ix (nI i)))) then some (0, θ, σ1, τ) else (if (p35 - (ν 3 (ix (nI i)))) < 0 then some (0, θ, σ1, τ) else (if nI c < (p35 - (ν 3 (ix (nI i)))) then some (0, θ, σ1, τ) else (if (lg_cmp ((mk (sB σ) cnt >>> ((nI i).toInt64 &&& 63)) &&& 1) 1) = 0 then (if ((p32 - (ν 2 (ix (nI i)))) + (p35 - (ν 3 (ix (nI i))))) ≤ 0 then f_L_passes_376 N tS kc cnt (fun x1 x2 x3 x4 x5 y9 x12 x13 x14 x15 x16 θ υ σ τ ν => f_L_passes_257 N tS kc cnt n x1 x2 x3 x4 x5 y9 x12 x13 x14 x15 x16 θ υ σ τ ν) (nI cnt) (nI d) (nI T) (nI (fb_ct (sB σ1) i)) x5 (mk (sB σ) cnt) x12 x13 x14 (nI (fb_ct (fun i => opB σ (T + i)) d)) (nI i) θ υ σ1 τ ν else some (0, θ, σ1, τ)) else f_L_passes_376 N tS kc cnt (fun x1 x2 x3 x4 x5 y9 x12 x13 x14 x15 x16 θ υ σ τ ν => f_L_passes_257 N tS kc cnt n x1 x2 x3 x4 x5 y9 x12 x13 x14 x15 x16 θ υ σ τ ν) (nI cnt) (nI d) (nI T) (nI (fb_ct (sB σ1) i)) x5 (mk (sB σ) cnt) x12 x13 x14 (nI (fb_ct (fun i => opB σ (T + i)) d)) (nI i) θ υ σ1 τ ν)))))) else none) = f_L_passes_257 N tS kc cnt n (nI cnt) (nI d) (nI T) (nI (fb_ct (sB σ1) (i + 1))) x5 (mk (sB σ) cnt) x12 x13 x14 (nI (fb_ct (fun i => opB σ (T + i)) d)) (nI (i + 1)) θ υ σ1 τ' ν := fun c c1 c2 c3 => by
    rw [v_responseClock D1 hi, Option.bind_some, if_pos (ib_nI hi (by omega)), v_resolveClock D1 hi, Option.bind_some, ix_nI (by omega), n2, n3, g1, f1, sg, sf, if_neg (pos g (by omega)), if_neg (Int32.not_lt.mpr (nI_le' c1 (by omega))), if_neg (pos f (by omega)), if_neg (Int32.not_lt.mpr (nI_le' c2 (by omega)))]
    exact rest
  rw [f_L_passes_257, if_neg (nI_ge hi (by omega)), v_kindOf D1 hi, Option.bind_some, if_pos hib, e5]
  by_cases a6 : υ (90 + k) 5 = 1
  · rw [if_pos a6]
    exact tail d (by omega) (by omega) (by omega)
  · rw [if_neg a6]
    have z6 : σ 6 k = 0 := by
      by_cases y : σ 6 k = 0
      · exact y
      · exact absurd ((K k k1).2.2.2.mpr y) a6
    have ec : cmt σ T d i = fb_ct (fun i => opB σ (T + i)) d := by
      unfold cmt
      rw [c6, if_pos z6]
    rw [ec] at g2 f2
    exact tail _ g2 f2 (by omega)
/-- what a law's step leaves, when time passes -/
def LaT (kc cnt hl m : Nat) (σ θ' σ' : Sg) (dm dh : Nat) : Prop := ∃ cnt' T' hl' m', DI cnt' kc T' hl' σ' ∧ hl' ≤ hl + dh ∧ cnt ≤ cnt' ∧ Lo σ σ' ∧ θ' 70 0 = nI m' ∧ m' ≤ m + dm
theorem ab_sub {a b c : Nat} (ha : a ≤ 200) (hb : b ≤ 200) (hc : c ≤ 200) : nI a - nI c = nI a - nI b - (nI c - nI b) := by
  have h1 := z_nI (n := a) (by omega)
  have h2 := z_nI (n := b) (by omega)
  have h3 := z_nI (n := c) (by omega)
  have e1 := z_sub (a := nI a) (b := nI c) (by omega) (by omega) (by omega) (by omega)
  have e2 := z_sub (a := nI a) (b := nI b) (by omega) (by omega) (by omega) (by omega)
  have e3 := z_sub (a := nI c) (b := nI b) (by omega) (by omega) (by omega) (by omega)
  have e4 := z_sub (a := nI a - nI b) (b := nI c - nI b) (by omega) (by omega) (by omega) (by omega)
  exact z_eq.mpr (by omega)
theorem ps_71 (D : DI cnt kc T hl σ) (K : KM kc υ σ) (hL : tS 5 ≤ 260) (hm : θ 70 0 = nI m) (hm2 : m < 9000) {N : Nat} (hN : 10100 < N) (h1 : 1 ≤ d) (hd : T + d ≤ 10080) : ∃ θ' σ' τ', f_L_passes_71 N tS kc cnt (nI cnt) (nI d) (nI T) 0 0 θ υ σ τ zS = some (1, θ', σ', τ') ∧ LaT kc cnt hl m σ θ' σ' 1 0 := by
  have h60 := D.b.2.1
  have hN1 : 100 < N := by omega
  obtain ⟨⟨μ, V⟩, J⟩ := id D
  obtain ⟨σ1, μ1, p1, V1, J1, G, S, X, r, hr⟩ := ps_v V D.jr hN h1 hd
  have D1 : DI cnt kc (T + d) hl σ1 := ⟨⟨μ1, V1⟩, J1⟩
  obtain ⟨μF, hF1⟩ := fu_ex V1 hN1
  have hF : FU N T μ μF := fu_pass hd hr hF1
  have hlo : Lo σ σ1 := fun k hk => LPs_lo X hk
  have h16 : σ1 16 = σ 16 := X 16 (by decide)
  obtain ⟨a, θ1, a1, a2, a3⟩ := draw_w (kc := kc) hL hm (by omega) (n := 10) (by decide) (by decide)
  unfold f_L_passes_71
  rw [show f_L_draw tS kc 10 θ = some (nI a, θ1) from a2, Option.bind_some]
  dsimp only
  -- the first loop
  have loop1 : ∀ (k i n : Nat) (τ ν : Sg), i + k = cnt → k < n → NB i σ μF ν → ∃ τ' ν', f_L_passes_85 N tS kc cnt n (nI cnt) (nI d) (nI T) 0 (nI (fb_ct (sB σ) i)) (mk (sB σ) i) (nI a) (nI i) θ1 υ σ τ ν = f_L_passes_85 N tS kc cnt 1 (nI cnt) (nI d) (nI T) 0 (nI (fb_ct (sB σ) cnt)) (mk (sB σ) cnt) (nI a) (nI cnt) θ1 υ σ τ' ν' ∧ NB cnt σ μF ν' := by
    intro k
    induction k with
    | zero =>
      intro i n τ ν he hn h
      obtain ⟨n, rfl⟩ : ∃ q, n = q + 1 := ⟨n - 1, by omega⟩
      obtain rfl : i = cnt := by omega
      refine ⟨τ, ν, ?_, h⟩
      rw [f_L_passes_85, if_pos (nI_le (Nat.le_refl _) (by omega)), show (1 : Nat) = 0 + 1 from rfl, f_L_passes_85, if_pos (nI_le (Nat.le_refl _) (by omega))]
    | succ k ih =>
      intro i n τ ν he hn h
      obtain ⟨n, rfl⟩ : ∃ q, n = q + 1 := ⟨n - 1, by omega⟩
      obtain ⟨τ', ν', e1, e2⟩ := ps_85 (θ := θ1) (υ := υ) (τ := τ) (tS := tS) D V hN hF (show i < cnt by omega) n (nI d) (nI T) (nI a) ν h
      rw [e1]
      exact ih (i + 1) n τ' ν' (by omega) (by omega) e2
  obtain ⟨τ1, ν, l1, l2⟩ := loop1 cnt 0 N τ zS (by omega) (by omega) (fun t ht => absurd ht (Nat.not_lt_zero _))
  rw [show f_L_passes_85 N tS kc cnt N (nI cnt) (nI d) (nI T) 0 0 0 (nI a) 0 θ1 υ σ τ zS = _ from l1]
  obtain ⟨τ2, b1⟩ := ba_v V hN hF τ1
  have om : f_X8_openMinutes N (nI T) (nI T + nI d) σ1 = some (nI (fb_ct (fun i => opB σ (T + i)) d)) := by
    rw [nI_add, v_openMinutes V1.1.2.2.1.2.2.2.1 hd hN1]
    congr 2
    exact fb_ct_cong (fun i _ => opB_ex (X 13 (by decide)) (X 14 (by decide)) _)
  rw [show (1 : Nat) = 0 + 1 from rfl, f_L_passes_85, if_pos (nI_le (Nat.le_refl _) (by omega)), b1, Option.bind_some, v_responseBreaches D hN1, Option.bind_some, v_resolveBreaches D hN1, Option.bind_some, p1, Option.bind_some]
  dsimp only
  rw [om, Option.bind_some, nI_add]
  -- the second loop
  have loop2 : ∀ (k i n : Nat) (τ : Sg), i + k = cnt → k < n → ∃ τ', f_L_passes_257 N tS kc cnt n (nI cnt) (nI d) (nI T) (nI (fb_ct (sB σ1) i)) (nI (fb_ct (sB σ) cnt)) (mk (sB σ) cnt) (nI (aB cnt (pV μF)) - nI (aB cnt σ)) (nI (aB cnt σ)) (nI (fb_ct (sB σ1) cnt) - nI (fb_ct (sB σ) cnt)) (nI (fb_ct (fun i => opB σ (T + i)) d)) (nI i) θ1 υ σ1 τ ν = f_L_passes_257 N tS kc cnt 1 (nI cnt) (nI d) (nI T) (nI (fb_ct (sB σ1) cnt)) (nI (fb_ct (sB σ) cnt)) (mk (sB σ) cnt) (nI (aB cnt (pV μF)) - nI (aB cnt σ)) (nI (aB cnt σ)) (nI (fb_ct (sB σ1) cnt) - nI (fb_ct (sB σ) cnt)) (nI (fb_ct (fun i => opB σ (T + i)) d)) (nI cnt) θ1 υ σ1 τ' ν := by
    intro k
    induction k with
    | zero =>
      intro i n τ he hn
      obtain ⟨n, rfl⟩ : ∃ q, n = q + 1 := ⟨n - 1, by omega⟩
      obtain rfl : i = cnt := by omega
      refine ⟨τ, ?_⟩
      rw [f_L_passes_257, if_pos (nI_le (Nat.le_refl _) (by omega)), show (1 : Nat) = 0 + 1 from rfl, f_L_passes_257, if_pos (nI_le (Nat.le_refl _) (by omega))]
    | succ k ih =>
      intro i n τ he hn
      obtain ⟨n, rfl⟩ : ∃ q, n = q + 1 := ⟨n - 1, by omega⟩
      obtain ⟨τ', e1⟩ := ps_257 (θ := θ1) (υ := υ) (τ := τ) (tS := tS) D D1 V1 K hlo h16 hN hF1 hd G (show i < cnt by omega) l2 n (nI (fb_ct (sB σ) cnt)) (nI (aB cnt (pV μF)) - nI (aB cnt σ)) (nI (aB cnt σ)) (nI (fb_ct (sB σ1) cnt) - nI (fb_ct (sB σ) cnt))
      rw [e1]
      exact ih (i + 1) n τ' (by omega) (by omega)
  obtain ⟨τ3, m1⟩ := loop2 cnt 0 N τ2 (by omega) (by omega)
  rw [show f_L_passes_257 N tS kc cnt N (nI cnt) (nI d) (nI T) 0 (nI (fb_ct (sB σ) cnt)) (mk (sB σ) cnt) (nI (aB cnt (pV μF)) - nI (aB cnt σ)) (nI (fb_ct (lR σ (-1)) cnt + fb_ct (lV σ (-1)) cnt)) (nI (fb_ct (sB σ1) cnt) - nI (fb_ct (sB σ) cnt)) (nI (fb_ct (fun i => opB σ (T + i)) d)) 0 θ1 υ σ1 τ2 ν = _ from m1]
  obtain ⟨τ4, b2⟩ := ba_v V1 hN hF1 τ3
  have n1 : σ1 12 0 = nI (T + d) := D1.b.2.2.2.2.1
  have q1 := fb_ct_le (lR σ (-1)) cnt
  have q2 := fb_ct_le (lV σ (-1)) cnt
  have q3 := fb_ct_le (lR σ1 (-1)) cnt
  have q4 := fb_ct_le (lV σ1 (-1)) cnt
  have q5 := fb_ct_le (lR (pV μF) (-1)) cnt
  have q6 := fb_ct_le (lV (pV μF) (-1)) cnt
  have w1 := lR_up V hd G X
  have w2 := lV_up V hd G X
  have up : aB cnt σ ≤ aB cnt σ1 := Nat.add_le_add w1 w2
  have s1 : aB cnt σ1 ≤ 120 := by unfold aB; omega
  have s0 : aB cnt σ ≤ 120 := by unfold aB; omega
  have sF : aB cnt (pV μF) ≤ 120 := by unfold aB; omega
  rw [show (1 : Nat) = 0 + 1 from rfl, f_L_passes_257, if_pos (nI_le (Nat.le_refl _) (by omega)), v_responseBreaches D1 hN1, Option.bind_some, v_resolveBreaches D1 hN1, Option.bind_some, if_pos rfl]
  unfold f_X8_now
  rw [Option.bind_some, if_pos (by rw [n1, nI_add]), nI_add, if_neg (show ¬ nI (fb_ct (lR σ1 (-1)) cnt + fb_ct (lV σ1 (-1)) cnt) < nI (aB cnt σ) from Int32.not_lt.mpr (nI_le' up (Nat.lt_of_le_of_lt s1 (by decide)))), b2, Option.bind_some]
  dsimp only
  rw [if_pos (show nI (aB cnt (pV μF)) - nI (aB cnt σ1) = nI (aB cnt (pV μF)) - nI (aB cnt σ) - (nI (fb_ct (lR σ1 (-1)) cnt + fb_ct (lV σ1 (-1)) cnt) - nI (aB cnt σ)) from ab_sub (by omega) (by omega) (by show aB cnt σ1 ≤ 200; omega)), keeps_v D1 (K.lo hlo) hN1, Option.bind_some, if_neg (by decide)]
  exact ⟨_, _, _, rfl, cnt, T + d, hl, m + 1, D1, by omega, Nat.le_refl _, hlo, a3, by omega⟩
theorem passes_v (D : DI cnt kc T hl σ) (K : KM kc υ σ) (hL : tS 5 ≤ 260) (hm : θ 70 0 = nI m) (hm2 : m < 8000) {N : Nat} (hN : 10100 < N) : ∃ θ' σ' τ', f_L_passes N tS kc cnt θ υ σ τ = some (1, θ', σ', τ') ∧ LaT kc cnt hl m σ θ' σ' 3 0 := by
  obtain ⟨hT, h60, h6, -, h12, h15, -, -⟩ := D.b
  obtain ⟨r, θ1, r1, r2, r3⟩ := draw_w (kc := kc) hL hm (by omega) (n := 3) (by decide) (by decide)
  have go : ∀ (b : Nat) (θ2 : Sg), b < 500 → θ2 70 0 = nI (m + 1 + 1) → ∃ θ' σ' τ', (if (nI T + (1 + nI b)) ≤ 10080 then f_L_passes_71 N tS kc cnt (nI cnt) (1 + nI b) (nI T) 0 0 θ2 υ σ τ zS else some (1, θ2, σ, τ)) = some (1, θ', σ', τ') ∧ LaT kc cnt hl m σ θ' σ' 3 0 := fun b θ2 hb h2 => by
    have e1 : 1 + nI b = nI (1 + b) := nI_add 1 b
    rw [e1, nI_add]
    by_cases c : T + (1 + b) ≤ 10080
    · rw [if_pos (show nI (T + (1 + b)) ≤ 10080 from nI_le' (b := 10080) c (by decide))]
      obtain ⟨θ', σ', τ', g1, cnt', T', hl', m', g2, g3, g4, g5, g6, g7⟩ := ps_71 (τ := τ) D K hL h2 (by omega) hN (show 1 ≤ 1 + b by omega) c
      exact ⟨θ', σ', τ', g1, cnt', T', hl', m', g2, g3, g4, g5, g6, by omega⟩
    · rw [if_neg (show ¬ nI (T + (1 + b)) ≤ 10080 from nI_ge' (a := 10080) (by omega) (by omega))]
      exact ⟨_, _, _, rfl, cnt, T, hl, m + 2, D, by omega, Nat.le_refl _, fun _ _ => rfl, h2, by omega⟩
  unfold f_L_passes f_X8_ticketCount f_X8_now
  rw [Option.bind_some, h15, h12, show f_L_draw tS kc 3 θ = some (nI r, θ1) from r2, Option.bind_some]
  dsimp only
  by_cases c : nI r = 0
  · obtain ⟨b, θ2, b1, b2, b3⟩ := draw_w (kc := kc) hL r3 (by omega) (n := 500) (by decide) (by decide)
    rw [if_pos c, show f_L_draw tS kc 500 θ1 = some (nI b, θ2) from b2, Option.bind_some, Option.bind_some]
    exact go b θ2 b1 b3
  · obtain ⟨b, θ2, b1, b2, b3⟩ := draw_w (kc := kc) hL r3 (by omega) (n := 40) (by decide) (by decide)
    rw [if_neg c, show f_L_draw tS kc 40 θ1 = some (nI b, θ2) from b2, Option.bind_some, Option.bind_some]
    exact go b θ2 (by omega) b3
end Qf
