section Pk
variable {cnt kc T hl : Nat} {σ S ρ : Sg}
/-! p62: the start; saving -/
theorem D_start : DI 0 0 0 0 sBg := by
  refine ⟨sBg_v, fun t h => absurd h (Nat.not_lt_zero _), fun l h => ?_, fun k h => absurd h (Nat.not_lt_zero _), 0, fun _ => -1, ⟨⟨by decide, sBg_7, fun e h => absurd h (Nat.not_lt_zero _), fun e h => absurd h (Nat.not_lt_zero _)⟩, fun _ t h => absurd h (Nat.not_lt_zero _)⟩, fun t h => absurd h (Nat.not_lt_zero _)⟩
  rw [sBg_30 h]
  show ((0 : Nat) : Int) ≤ (1 : Int32).toInt
  decide
theorem p_kind (D : DI 0 kc T hl σ) (h : kc < 6) {a b c d e f : Nat} (ha : a ≤ 10080) (hb : b ≤ 10080) (hc : 1 ≤ c ∧ c ≤ 480) (hd : d ≤ 3) (he : e ≤ 10080) (hf : f ≤ 1) : f_X8_addKind (nI a) (nI b) (nI c) (nI d) (nI e) (nI f) σ = some (nI kc, kA σ kc (nI a) (nI b) (nI c) (nI d) (nI e) (nI f)) ∧ DI 0 (kc + 1) T hl (kA σ kc (nI a) (nI b) (nI c) (nI d) (nI e) (nI f)) := by
  obtain ⟨⟨μ, V⟩, h1, h2, h3, ln, g, ⟨⟨l1, l2, l3, l4⟩, l5⟩, h4⟩ := D
  have zz : ∀ {n : Nat}, n ≤ 10080 → 0 ≤ (nI n).toInt ∧ (nI n).toInt ≤ 10080 := fun q => by rw [z_nI (by omega)]; omega
  have f01 : nI f = 0 ∨ nI f = 1 := by
    have : f = 0 ∨ f = 1 := by omega
    rcases this with rfl | rfl
    · exact Or.inl rfl
    · exact Or.inr rfl
  have row : ∀ {k}, 6 < k → kA σ kc (nI a) (nI b) (nI c) (nI d) (nI e) (nI f) k = σ k := fun hk => kA_row hk
  refine ⟨?_, ⟨_, (kind_fi V h (zz ha) (zz hb) (by rw [z_nI (by omega)]; omega) (zz he) f01).1⟩, fun t h => absurd h (Nat.not_lt_zero _), fun l hl' => ?_, fun k hk => ?_, ln, g, ⟨⟨l1, by rw [row (by decide)]; exact l2, fun e he => ?_, fun e he => ?_⟩, fun _ t h => absurd h (Nat.not_lt_zero _)⟩, fun t h => absurd h (Nat.not_lt_zero _)⟩
  · unfold f_X8_addKind
    have w1 : ∀ {x n m : Nat}, n ≤ x → x ≤ m → m < 100000 → f_X8_within (nI x) (nI n) (nI m) = some 1 := fun q1 q2 q3 => w_1 q1 q2 q3
    rw [show f_X8_within (nI a) 0 10080 = some 1 from w_1 (b := 0) (c := 10080) (Nat.zero_le _) ha (by decide), Option.bind_some, if_neg (by decide), show f_X8_within (nI b) 0 10080 = some 1 from w_1 (b := 0) (c := 10080) (Nat.zero_le _) hb (by decide), Option.bind_some, if_neg (by decide), show f_X8_within (nI c) 1 480 = some 1 from w_1 (b := 1) (c := 480) hc.1 hc.2 (by decide), Option.bind_some, if_neg (by decide), show f_X8_within (nI d) 0 3 = some 1 from w_1 (b := 0) (c := 3) (Nat.zero_le _) hd (by decide), Option.bind_some, if_neg (by decide), show f_X8_within (nI e) 0 10080 = some 1 from w_1 (b := 0) (c := 10080) (Nat.zero_le _) he (by decide), Option.bind_some, if_neg (by decide)]
    have vf : vp_nar .boolean (nI f) = nI f := by rcases f01 with z | z <;> rw [z] <;> decide
    unfold f_X3_add
    rw [V.E.k, if_pos (show nI kc < 6 from nI_lt (b := 6) h (by decide)), if_pos (ib_nI h (by decide)), Option.bind_some, ix_nI (by omega), nI_1, vf]
    show some (nI kc, mixKLgC (kA σ kc (nI a) (nI b) (nI c) (nI d) (nI e) (nI f)) σ) = _
    congr 2
    funext k
    unfold mixKLgC
    split
    · rfl
    · exact (kA_row (by omega)).symm
  · rw [row (by decide)]
    exact h2 l hl'
  · rcases Nat.lt_or_ge k kc with q | q
    · rw [kA_old q (by decide)]
      exact h3 k q
    · obtain rfl : k = kc := by omega
      have e4 : kA σ k (nI a) (nI b) (nI c) (nI d) (nI e) (nI f) 4 k = nI d := by unfold kA; simp only [up_ite]; simp
      rw [e4, z_nI (by omega)]
      omega
  · rw [row (by decide), row (by decide)]
    exact l3 e he
  · rw [row (by decide)]
    exact l4 e he
theorem p_agents (D : DI 0 kc T hl σ) (hh : hl < 200) {N : Nat} (hN : 100 < N) {l x : Nat} (hl' : l < 4) (hx : x ≤ 9) : ∃ σ', f_X8_setAgents N (nI l) (nI x) σ = some (σ 30 l, σ') ∧ DI 0 kc T (hl + 1) σ' ∧ (∀ j, σ' 30 j = if j = l then nI x else σ 30 j) ∧ Lo σ σ' := by
  obtain ⟨hT, h60, -, -, h12, h15, -, -⟩ := D.b
  have J := (D.js 2 (nI l) (nI x) 0 0).1
  have hx' := hrec_ex σ hl 2 (nI l) (nI x) 0 0
  have e30 := hr_k σ hl 2 (nI l) (nI x) 0 0 (k := 30) (by decide)
  have e15 : hrec σ hl 2 (nI l) (nI x) 0 0 15 0 = nI 0 := by rw [hr_k _ _ _ _ _ _ _ (by decide)]; exact h15
  have er : f_X1_errorOf 2 (nI l) (nI x) 0 0 σ = some 0 := by
    unfold f_X1_errorOf
    rw [if_neg (by decide), if_pos rfl, w_lv hl', Option.bind_some, if_neg (by decide), show f_X8_within (nI x) 0 9 = some 1 from w_1 (b := 0) (c := 9) (Nat.zero_le _) hx (by decide), Option.bind_some, if_neg (by decide)]
  have K := DI.ch D (c := 2) (m := 1) (a := nI l) (b := nI x) (x := 0) (d := 0) (by unfold TY; simp) er hh hN
  generalize hrec σ hl 2 (nI l) (nI x) 0 0 = S at J hx' e30 e15 K
  have ux : Ex [30] S (up S 30 l (nI x)) := Ex.up _ _ _ (by decide)
  have e1 : f_X1_make N 600 2 (nI l) (nI x) 0 0 S = some (σ 30 l, up S 30 l (nI x)) := by
    unfold f_X1_make
    rw [if_neg (by decide), if_pos rfl, bind_pair]
    unfold f_X1_staff
    rw [if_pos (ib_nI hl' (by decide)), ix_nI (by omega), ca_v (cnt := 0) (by rw [ux 15 (by decide)]; exact e15) (by decide) _ _ hN, Option.bind_some, e15, e30]
    obtain ⟨M, rfl⟩ : ∃ M, N = M + 1 := ⟨N - 1, by omega⟩
    rw [f_X1_staff_38, if_pos (by decide)]
  have a30 : ∀ j, up S 30 l (nI x) 30 j = if j = l then nI x else σ 30 j := fun j => by
    rw [up_ite, e30]
    by_cases z : j = l
    · rw [if_pos ⟨rfl, z⟩, if_pos z]
    · rw [if_neg (fun w => z w.2), if_neg z]
  obtain ⟨k1, k2⟩ := K _ _ 0 e1 (ex_hi ux (by decide)) (by rw [ux 15 (by decide)]; exact e15) (by decide) (by
    obtain ⟨h1, h2, h3, ln, h4⟩ := J
    refine ⟨fun t h => absurd h (Nat.not_lt_zero _), fun j hj => ?_, h3.ex ux (by decide), ln, h4.ex ux (by decide) (fun t h => absurd h (Nat.not_lt_zero _))⟩
    show ((0 : Nat) : Int) ≤ _
    have := h2 j hj
    have f0 : fb_ct (wB S j) 0 = 0 := rfl
    rw [f0, e30] at this
    rw [a30]
    by_cases z : j = l
    · rw [if_pos z, z_nI (by omega)]
      omega
    · rw [if_neg z]
      exact this)
  exact ⟨_, by unfold f_X8_setAgents; rw [k1]; rfl, k2, a30, (ex_lo hx' (by decide)).tr (ex_lo ux (by decide))⟩
/-- a full desk takes no report -/
theorem n_report (D : DI 60 kc T hl σ) (N : Nat) {k cu su pr : Nat} (hk : k < kc) (hcu : cu < 100) (hsu : su < 1000) (hpr : pr < 4) : f_X8_report N (nI k) (nI cu) (nI su) (nI pr) σ = some (-6, σ) := by
  obtain ⟨hT, h60, hk6, -, h12, h15, h0, -⟩ := D.b
  have ef : f_X7_isFull σ = some 1 := by
    unfold f_X7_isFull
    rw [h15, if_neg (by decide)]
  have er : f_X1_errorOf 3 (nI k) (nI cu) (nI su) (nI pr) σ = some (-6) := by
    unfold f_X1_errorOf f_X1_reportError
    rw [if_neg (by decide), if_neg (by decide), if_pos rfl, h0, show nI kc - 1 = nI (kc - 1) from nI_sub' (b := 1) (by omega) (by omega), show f_X8_within (nI k) 0 (nI (kc - 1)) = some 1 from w_1 (b := 0) (Nat.zero_le _) (by omega) (by omega), Option.bind_some, if_neg (by decide), show f_X8_within (nI cu) 0 99 = some 1 from w_1 (b := 0) (c := 99) (Nat.zero_le _) (by omega) (by decide), Option.bind_some, if_neg (by decide), show f_X8_within (nI su) 0 999 = some 1 from w_1 (b := 0) (c := 999) (Nat.zero_le _) (by omega) (by decide), Option.bind_some, if_neg (by decide), show f_X8_within (nI pr) 0 3 = some 1 from w_1 (b := 0) (c := 3) (Nat.zero_le _) (by omega) (by decide), Option.bind_some, if_neg (by decide), ef]
    rfl
  unfold f_X8_report
  rw [chg_err er (by decide)]
  rfl
/-! a state's copy -/
theorem XT.cells {A t : Nat} (h : XT A σ t) (h3 : ρ 3 (ix (σ 16 t)) = σ 3 (ix (σ 16 t))) (hk : ∀ k, 15 < k → k < 30 → ρ k t = σ k t) : XT A ρ t := by
  unfold XT
  rw [hk 16 (by decide) (by decide), h3, hk 20 (by decide) (by decide), hk 21 (by decide) (by decide), hk 22 (by decide) (by decide), hk 24 (by decide) (by decide), hk 25 (by decide) (by decide), hk 26 (by decide) (by decide), hk 27 (by decide) (by decide), hk 28 (by decide) (by decide), hk 29 (by decide) (by decide)]
  exact h
theorem JI.cells (J : JI cnt kc T σ) (hK : ∀ t, t < cnt → KT kc σ t) (h6 : kc ≤ 6) (h : ∀ k i, i < rb cnt kc k → ρ k i = σ k i) (h7 : ρ 7 0 = σ 7 0) (hg : ∀ k i ln, σ 7 0 = nI ln → ln ≤ 600 → 8 ≤ k → k < 12 → i < ln → ρ k i = σ k i) : JI cnt kc T ρ := by
  obtain ⟨h1, h2, h3, ln, f, ⟨⟨l1, l2, l3, l4⟩, l5⟩, h4⟩ := J
  have tk : ∀ t, t < cnt → ∀ k, 15 < k → k < 30 → ρ k t = σ k t := fun t ht k k1 k2 => h k t (by
    unfold rb
    rw [if_neg (by omega), if_neg (by omega), if_neg (by omega), if_neg (by omega), if_neg (by omega), if_neg (by omega), if_pos k2]
    exact ht)
  have kk : ∀ k, 0 < k → k < 7 → ∀ i, i < kc → ρ k i = σ k i := fun k k1 k2 i hi => h k i (by
    unfold rb
    rw [if_neg (by omega), if_pos k2]
    exact hi)
  have gg : ∀ k i, 8 ≤ k → k < 12 → i < ln → ρ k i = σ k i := fun k i a b c => hg k i ln l2 l1 a b c
  refine ⟨fun t ht => (h1 t ht).cells (kk 3 (by decide) (by decide) _ ((hK t ht).lt h6)) (tk t ht), fun l hl' => ?_, fun k hk => ?_, ln, f, ⟨⟨l1, h7.trans l2, fun e he => ?_, fun e he => ?_⟩, fun hlt t ht => ?_⟩, fun t ht q => ?_⟩
  · have e30 : ρ 30 l = σ 30 l := h 30 l (show l < 4 from hl')
    have ew : fb_ct (wB ρ l) cnt = fb_ct (wB σ l) cnt := fb_ct_cong (fun j hj => by
      unfold wB
      rw [tk j hj 21 (by decide) (by decide), tk j hj 20 (by decide) (by decide)])
    rw [e30, ew]
    exact h2 l hl'
  · rw [kk 4 (by decide) (by decide) k hk]
    exact h3 k hk
  · rw [gg 8 e (by decide) (by decide) he, gg 10 e (by decide) (by decide) he]
    exact l3 e he
  · rw [gg 8 e (by decide) (by decide) (by omega), gg 8 (e + 1) (by decide) (by decide) he]
    exact l4 e he
  · rw [lsv_cong t ln (fun k i a b c => gg k i a b c)]
    exact l5 hlt t ht
  · rw [tk t ht 21 (by decide) (by decide)] at q
    rw [tk t ht 29 (by decide) (by decide)]
    exact h4 t ht q
/-- the kinds that count stay -/
def Lk (kc : Nat) (σ ρ : Sg) : Prop := ∀ k i, 0 < k → k < 7 → i < kc → ρ k i = σ k i
theorem Lo.lk (h : Lo σ ρ) : Lk kc σ ρ := fun k _ _ hk _ => by rw [h k hk]
theorem d_copy (D : DI cnt kc T hl σ) (τ : Sg) {N : Nat} (hN : 100 < N) : ∃ p, f_X6_copyFrom N 600 600 τ σ = some p ∧ DI cnt kc T hl p ∧ p 7 0 = σ 7 0 ∧ Lk kc σ p := by
  obtain ⟨⟨μ, V⟩, J⟩ := D
  obtain ⟨ln, g1, g2, g3, g4⟩ := V.ln
  obtain ⟨p1, a1, a2, a3⟩ := dk_copy V τ (L := 600) (Or.inr rfl) hN
  obtain ⟨p3, c1, c2, c3⟩ := hs_copy (mixKLgC p1 τ) σ V.2.2.1 V.2.1
  have lo : ∀ k, k < 31 → mixH p3 (mixKLgC p1 τ) k = p1 k := fun k hk => by
    unfold mixH mixKLgC
    rw [if_pos hk, if_pos hk]
  have hi : ∀ k, 30 < k → mixH p3 (mixKLgC p1 τ) k = p3 k := fun k hk => by
    unfold mixH
    rw [if_neg (by omega)]
  obtain ⟨a4, a5⟩ := a3 ln g3 g1
  rw [Nat.min_eq_left g1] at a4 a5
  have hc : ∀ k i, i < rb cnt kc k → mixH p3 (mixKLgC p1 τ) k i = σ k i := fun k i h => by
    have k31 : k < 31 := by
      obtain ⟨q, -⟩ := rb_pv h V.E.1 V.E.2.1
      omega
    rw [lo k k31]
    exact a2 k i h
  have h7 : mixH p3 (mixKLgC p1 τ) 7 0 = σ 7 0 := by
    rw [lo 7 (by decide), a4]
    exact g3.symm
  have hg : ∀ k i l, σ 7 0 = nI l → l ≤ 600 → 8 ≤ k → k < 12 → i < l → mixH p3 (mixKLgC p1 τ) k i = σ k i := fun k i l e1 e2 k1 k2 k3 => by
    obtain rfl : l = ln := (nI_eq (by omega) (by omega)).mp (e1.symm.trans g3)
    rw [lo k (by omega)]
    exact a5 k i k1 k2 k3
  refine ⟨mixH p3 (mixKLgC p1 τ), ?_, ⟨⟨μ, V.cells rfl hc h7 hg ?_ (fun k i k1 k2 k3 => ?_)⟩, J.cells V.1.2.2.1.2.2.2.2.2.2.1 V.E.2.1 hc h7 hg⟩, h7, fun k i k1 k2 hi => hc k i ?_⟩
  · unfold f_X6_copyFrom
    rw [a1, Option.bind_some, c1, Option.bind_some]
  · rw [hi 31 (by decide)]
    exact c2.trans V.2.2.1.symm
  · rw [hi k (by omega)]
    exact c3 k i k1 k2 k3
  · unfold rb
    rw [if_neg (by omega), if_pos k2]
    exact hi
end Pk
