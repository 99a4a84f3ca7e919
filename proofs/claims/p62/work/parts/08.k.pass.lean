section Gk
variable {cnt kc T hl : Nat} {σ μ : Sg}
/-! pass -/
theorem cs_v (hc : σ 15 0 = nI cnt) (h60 : cnt ≤ 60) {N : Nat} (hN : 100 < N) : f_X7_countSolved N σ = some (nI (fb_ct (sB σ) cnt)) := by
  have key := lift_itr (α := Nat) (fun n i c => f_X7_countSolved_4 N n (nI c) i σ) (fun i c => c + (if sB σ i then 1 else 0)) (fun i c => c = fb_ct (sB σ) i) (fun c => some (nI c)) cnt
    (fun n i c hi I => by
      refine ⟨by rw [fb_ct_succ, I], ?_⟩
      show f_X7_countSolved_4 N (n + 1) (nI c) (nI i) σ = f_X7_countSolved_4 N n (nI (c + _)) (nI (i + 1)) σ
      rw [f_X7_countSolved_4, hc, if_neg (nI_ge hi (by omega)), if_pos (ib_nI (by omega) (by decide)), ix_nI (by omega), nI_1, nI_1]
      unfold sB
      by_cases a : σ 21 i = 3
      · rw [if_pos a, decide_eq_true a]
        rfl
      · rw [if_neg a, decide_eq_false a]
        rfl)
    (fun n c I => by
      show f_X7_countSolved_4 N (n + 1) (nI c) (nI cnt) σ = _
      rw [f_X7_countSolved_4, hc, if_pos (nI_le (Nat.le_refl _) (by omega))]) 0 rfl N (by omega)
  unfold f_X7_countSolved
  refine Eq.trans key.2 ?_
  rw [key.1]
theorem nI_le' {a b : Nat} (h : a ≤ b) (hb : b < 100000) : nI a ≤ nI b := z_le.mpr (by rw [z_nI (by omega), z_nI (by omega)]; omega)
theorem nI_ge' {a b : Nat} (h : a < b) (hb : b < 100000) : ¬ nI b ≤ nI a := fun q => by
  have := z_le.mp q
  rw [z_nI (by omega), z_nI (by omega)] at this
  omega
theorem nI_sub' {a b : Nat} (h : b ≤ a) (ha : a < 100000) : nI a - nI b = nI (a - b) := z_eq.mpr (by
  have h1 := z_nI (n := a) (by omega)
  have h2 := z_nI (n := b) (by omega)
  rw [z_sub (by omega) (by omega) (by omega) (by omega), h1, h2, z_nI (by omega)]
  omega)
theorem HR.keep' {hl : Nat} {σ' μ' : Sg} (h : HR hl σ μ) (hx : ∀ k, 30 < k → σ' k = σ k) (hs : HS μ μ') : HR hl σ' μ' := by
  obtain ⟨h1, h2, h3, h4⟩ := h
  refine ⟨h1, by rw [hx 31 (by omega)]; exact h2, by rw [hs 31 (by omega) (by omega)]; exact h3, fun i hi => ?_⟩
  obtain ⟨g1, g2, g3⟩ := h4 i hi
  rw [hx 32 (by omega), hx 33 (by omega), hs 33 (by omega) (by omega)]
  exact ⟨g1, g2, fun k hk => by rw [hx k (by omega), hs k (by omega) (by omega)]; exact g3 k hk⟩
theorem p25 (N : Nat) (wd : Int64) {j : Nat} (hj : j ≤ 10080) : ∀ d i n acc (μ : Sg), i + d = j → d < n → f_X9_pass_25 N n (nI j) acc (nI i) μ wd = (mIt N wd d μ).bind (fun q => some (acc + q.1, q.2))
  | 0, i, n, acc, μ, h, hn => by
    obtain ⟨m, rfl⟩ : ∃ q, n = q + 1 := ⟨n - 1, by omega⟩
    obtain rfl : i = j := by omega
    rw [f_X9_pass_25, if_pos (nI_le' (Nat.le_refl _) (by omega))]
    show some (acc, μ) = some (acc + 0, μ)
    rw [Int32.add_zero]
  | d + 1, i, n, acc, μ, h, hn => by
    obtain ⟨m, rfl⟩ : ∃ q, n = q + 1 := ⟨n - 1, by omega⟩
    rw [f_X9_pass_25, if_neg (nI_ge' (show i < j by omega) (by omega))]
    show _ = ((f_X9_passMinute N μ wd).bind (fun p => (mIt N wd d p.2).bind (fun q => some (p.1 + q.1, q.2)))).bind _
    cases hp : f_X9_passMinute N μ wd with
    | none => rfl
    | some p =>
      rw [Option.bind_some, Option.bind_some, nI_1, p25 N wd hj d (i + 1) m _ p.2 (by omega) (by omega)]
      cases mIt N wd d p.2 with
      | none => rfl
      | some q =>
        show some (acc + p.1 + q.1, q.2) = some (acc + (p.1 + q.1), q.2)
        rw [Int32.add_assoc]
theorem pass_sim (V : LV cnt kc T hl σ μ) (x : Int32) (wd : Int64) {N : Nat} (hN : 10100 < N) :
    ∃ r T' σ' μ', f_X8_pass N x σ = some (r, σ') ∧ f_X9_pass N x μ wd = some (r, μ') ∧ LV cnt kc T' hl σ' μ' ∧ RZ μ μ' := by
  obtain ⟨F, H⟩ := V
  have hT := F.2.2.1.1
  have vT := F.2.2.1.2.1
  have E := F.1
  unfold f_X8_pass f_X9_pass
  have em : 10080 - nI T = nI (10080 - T) := nI_sub' (a := 10080) (by omega) (by omega)
  rw [wi_eq, E.mt, vT, em]
  rcases wi x 1 (nI (10080 - T)) with w | w
  · obtain ⟨j, h1, rfl⟩ := nI_of0' (Int32.le_trans (by decide) w.2.1) w.2.2 (by omega)
    obtain ⟨σ', μ', r, a1, a2, a3, a4, a5, -, a7⟩ := it_sim (L := 600) (cnt := cnt) (kc := kc) wd (N := N) (by omega) j T σ μ F (by omega)
    have un : f_X1_passUntil N 600 (nI (T + j)) σ = some σ' := by
      unfold f_X1_passUntil
      exact (until_it (L := 600) (cnt := cnt) (kc := kc) wd (N := N) (e := T + j) (by omega) (by omega) j T 0 N σ μ F rfl (by omega) (by omega)).trans a1
    have mx : mixKLgC σ' σ = σ' := by
      funext k
      unfold mixKLgC
      split
      · rfl
      · exact (a7 k (fun q => by
          unfold LPs at q
          simp only [List.mem_cons, List.not_mem_nil, or_false] at q
          omega)).symm
    have s1 := cs_v E.c E.1 (N := N) (by omega)
    have s2 := cs_v a3.1.c E.1 (N := N) (by omega)
    have b1 := fb_ct_le (sB σ') cnt
    refine ⟨nI r, T + j, σ', μ', ?_, ?_, ⟨a3, H.keep' (fun k hk => a7 k (fun q => by
        unfold LPs at q
        simp only [List.mem_cons, List.not_mem_nil, or_false] at q
        omega)) a4.2⟩, a4.1⟩
    · rw [w.1, Option.bind_some, if_neg (by decide), s1, Option.bind_some, nI_add, un, Option.bind_some, mx, s2, Option.bind_some, a5, ← nI_add, Int32.add_comm, Int32.add_sub_cancel]
    · rw [w.1, Option.bind_some, if_neg (by decide)]
      refine (p25 N wd (j := j) (by omega) j 0 N 0 μ (by omega) (by omega)).trans ?_
      rw [a2, Option.bind_some, Int32.zero_add]
  · exact ⟨-4, T, σ, μ, by rw [w.1]; rfl, by rw [w.1]; rfl, ⟨F, H⟩, fun _ _ => rfl⟩
/-! a kind is added -/
theorem up_agk {X Y : Sg} {k i : Nat} (a b : Nat) (v : Int32) (h : ¬ (k = a ∧ i = b) → X k i = Y k i) : up X a b v k i = up Y a b v k i := by
  rw [up_ite, up_ite]
  by_cases z : k = a ∧ i = b
  · rw [if_pos z, if_pos z]
  · rw [if_neg z, if_neg z]
    exact h z
def kA (σ : Sg) (kc : Nat) (a b c d e f : Int32) : Sg := up (up (up (up (up (up (up σ 1 kc a) 2 kc b) 3 kc c) 4 kc d) 5 kc e) 6 kc f) 0 0 (nI (kc + 1))
def kB (μ : Sg) (kc : Nat) (a b c d e f : Int32) : Sg := mu (mu (mu (mu (mu (mu (mu μ 1 kc a) 2 kc b) 3 kc c) 4 kc d) 5 kc e) 6 kc f) 0 0 (nI (kc + 1))
theorem kB_v (h : kc < 6) (a b c d e f : Int32) : pV (kB μ kc a b c d e f) = kA (pV μ) kc a b c d e f := by
  unfold kB kA
  rw [pV_mu (k := 0) (show 0 < 1 by decide), pV_mu (k := 6) h, pV_mu (k := 5) h, pV_mu (k := 4) h, pV_mu (k := 3) h, pV_mu (k := 2) h, pV_mu (k := 1) h]
theorem kA_row {a b c d e f : Int32} {k : Nat} (h : 6 < k) : kA σ kc a b c d e f k = σ k := by
  unfold kA
  rw [up_row (by omega), up_row (by omega), up_row (by omega), up_row (by omega), up_row (by omega), up_row (by omega), up_row (by omega)]
theorem kA_old {a b c d e f : Int32} {k i : Nat} (h : i < kc) (hk : 0 < k) : kA σ kc a b c d e f k i = σ k i := by
  unfold kA
  rw [up_ite, if_neg (by omega), up_ite, if_neg (by omega), up_ite, if_neg (by omega), up_ite, if_neg (by omega), up_ite, if_neg (by omega), up_ite, if_neg (by omega), up_ite, if_neg (by omega)]
theorem kind_fi (V : LV cnt kc T hl σ μ) (h : kc < 6) {a b c d e f : Int32} (ha : 0 ≤ a.toInt ∧ a.toInt ≤ 10080) (hb : 0 ≤ b.toInt ∧ b.toInt ≤ 10080) (hc : 1 ≤ c.toInt ∧ c.toInt ≤ 480) (he : 0 ≤ e.toInt ∧ e.toInt ≤ 10080) (hf : f = 0 ∨ f = 1) :
    LV cnt (kc + 1) T hl (kA σ kc a b c d e f) (kB μ kc a b c d e f) ∧ RZ μ (kB μ kc a b c d e f) := by
  obtain ⟨⟨E, G, ⟨v1, v2, v3, v4, v5, v6, v7, v8⟩, hF⟩, H⟩ := V
  have vv := kB_v (μ := μ) h a b c d e f
  have row : ∀ {k}, 6 < k → kA σ kc a b c d e f k = σ k := fun hk => kA_row hk
  have k0 : kA σ kc a b c d e f 0 0 = nI (kc + 1) := up_same _ _ _ _
  have kx : ∀ t, t < cnt → ix (σ 16 t) < kc := fun t ht => (v7 t ht).lt (by omega)
  refine ⟨⟨⟨⟨E.1, h, by rw [row (by omega)]; exact E.c, k0, fun k i hi => ?_⟩, ?_, ⟨v1, by rw [row (by omega)]; exact v2, fun k hk => ?_, ?_, ?_, ?_, fun t ht => ?_, fun t ht => ?_⟩, fun t ht => ?_⟩, ?_⟩, fun k hk => ?_⟩
  · rw [vv]
    unfold kA
    refine up_agk _ _ _ fun n0 => up_agk _ _ _ fun n6 => up_agk _ _ _ fun n5 => up_agk _ _ _ fun n4 => up_agk _ _ _ fun n3 => up_agk _ _ _ fun n2 => up_agk _ _ _ fun n1 => E.e k i ?_
    unfold rb at hi ⊢
    rcases Nat.lt_or_ge k 7 with q | q
    · by_cases z : k = 0
      · rw [if_pos z] at hi
        omega
      · rw [if_neg z, if_pos q] at hi ⊢
        omega
    · rw [if_neg (by omega), if_neg (by omega)] at hi ⊢
      exact hi
  · obtain ⟨ln, g1, g2, g3⟩ := G
    refine ⟨ln, g1, by rw [vv, kA_row (by omega)]; exact g2, ?_⟩
    rcases g3 with ⟨p, q⟩ | ⟨p, q, r⟩
    · exact Or.inl ⟨p, by rw [row (by omega)]; exact q⟩
    · exact Or.inr ⟨p, by rw [row (by omega)]; exact q, fun x y x1 x2 x3 => by rw [vv, kA_row (by omega), row (by omega)]; exact r x y x1 x2 x3⟩
  · rcases Nat.lt_or_ge k kc with q | q
    · rw [kA_old q (by omega), kA_old q (by omega), kA_old q (by omega), kA_old q (by omega), kA_old q (by omega)]
      exact v3 k q
    · obtain rfl : k = kc := by omega
      have e1 : kA σ k a b c d e f 1 k = a := by unfold kA; simp only [up_ite]; simp
      have e2 : kA σ k a b c d e f 2 k = b := by unfold kA; simp only [up_ite]; simp
      have e3 : kA σ k a b c d e f 3 k = c := by unfold kA; simp only [up_ite]; simp
      have e5 : kA σ k a b c d e f 5 k = e := by unfold kA; simp only [up_ite]; simp
      have e6 : kA σ k a b c d e f 6 k = f := by unfold kA; simp only [up_ite]; simp
      rw [e1, e2, e3, e5, e6]
      exact ⟨ha, hb, hc, he, hf⟩
  · unfold CI
    rw [row (by omega), row (by omega)]
    exact v4
  · unfold AI
    rw [row (by omega)]
    exact v5
  · unfold RI ST
    rw [row (by omega), row (by omega)]
    exact v6
  · obtain ⟨k, h1, h2⟩ := v7 t ht
    unfold KT
    rw [row (by omega)]
    exact ⟨k, by omega, h2⟩
  · have := v8 t ht
    unfold TB LK at this ⊢
    rw [row (k := 22) (by omega), row (k := 23) (by omega), row (k := 24) (by omega), row (k := 25) (by omega), row (k := 20) (by omega), row (k := 16) (by omega), kA_old (k := 5) (kx t ht) (by omega)]
    exact this
  · unfold FL
    rw [vv, kA_row (σ := pV μ) (k := 38) (by omega), kA_row (σ := pV μ) (k := 39) (by omega), row (k := 16) (by omega), row (k := 24) (by omega), row (k := 25) (by omega), kA_old (k := 1) (kx t ht) (by omega), kA_old (k := 2) (kx t ht) (by omega)]
    exact hF t ht
  · exact H.keep' (fun k hk => row (by omega)) (fun k h1 h2 => by rw [vv, kA_row (by omega)])
  · unfold kB
    rw [mu_rest hk, mu_rest hk, mu_rest hk, mu_rest hk, mu_rest hk, mu_rest hk, mu_rest hk]
theorem k_at0 (n : Nat) : (20 + (6 * nI n)) = nI (20 + 6 * n) := by
  rw [show (6 : Int32) = nI 6 from rfl, show (20 : Int32) = nI 20 from rfl, pk_mul, nI_add]
theorem k_at1 (n f : Nat) : nI (20 + 6 * n) + nI f = nI (20 + 6 * n + f) := nI_add _ _
theorem addKind_sim (V : LV cnt kc T hl σ μ) (a b c d e f : Int32) (hf : f = 0 ∨ f = 1) (wd : Int64) :
    ∃ r kc' σ' μ', f_X8_addKind a b c d e f σ = some (r, σ') ∧ f_X9_addKind a b c d e f μ wd = some (r, μ') ∧ LV cnt kc' T hl σ' μ' ∧ RZ μ μ' := by
  have E := V.E
  have h6 := E.2.1
  have bad : (∃ r, r = (-4 : Int32) ∧ f_X8_addKind a b c d e f σ = some (r, σ) ∧ f_X9_addKind a b c d e f μ wd = some (r, μ)) → ∃ r kc' σ' μ', f_X8_addKind a b c d e f σ = some (r, σ') ∧ f_X9_addKind a b c d e f μ wd = some (r, μ') ∧ LV cnt kc' T hl σ' μ' ∧ RZ μ μ' := fun ⟨r, h1, h2, h3⟩ => ⟨r, kc, σ, μ, h2, h3, V, fun _ _ => rfl⟩
  have bd : ∀ {x : Int32} {l h : Nat}, h < 100000 → l ≤ h → nI l ≤ x ∧ x ≤ nI h → (l : Int) ≤ x.toInt ∧ x.toInt ≤ h := fun q q2 z => by
    have z1 := z_le.mp z.1
    have z2 := z_le.mp z.2
    rw [z_nI (by omega)] at z1 z2
    exact ⟨z1, z2⟩
  rcases wi a 0 10080 with w1 | w1
  · rcases wi b 0 10080 with w2 | w2
    · rcases wi c 1 480 with w3 | w3
      · rcases wi d 0 3 with w4 | w4
        · rcases wi e 0 10080 with w5 | w5
          · have c1 : f_X8_addKind a b c d e f σ = (f_X3_add a b c d e f σ).bind (fun p16 => some (p16.1, (mixKLgC p16.2 σ))) := by
              unfold f_X8_addKind
              simp [w1.1, w2.1, w3.1, w4.1, w5.1]
            have lv : f_X9_isLevel d = some 1 := by
              unfold f_X9_isLevel
              rw [wi_eq, w4.1]
              simp [bz]
            rcases Nat.lt_or_ge kc 6 with q | q
            · obtain ⟨g1, g2⟩ := kind_fi V q (a := a) (b := b) (c := c) (d := d) (e := e) (f := f) (bd (l := 0) (h := 10080) (by decide) (by decide) w1.2) (bd (l := 0) (h := 10080) (by decide) (by decide) w2.2) (bd (l := 1) (h := 480) (by decide) (by decide) w3.2) (bd (l := 0) (h := 10080) (by decide) (by decide) w5.2) hf
              have vf : vp_nar .boolean f = f := by rcases hf with rfl | rfl <;> decide
              refine ⟨nI kc, kc + 1, _, _, ?_, ?_, g1, g2⟩
              · rw [c1]
                unfold f_X3_add
                rw [E.k, if_pos (show nI kc < 6 from nI_lt (b := 6) q (by decide)), if_pos (ib_nI q (by decide)), Option.bind_some, ix_nI (by omega), nI_1, vf]
                show some (nI kc, mixKLgC (kA σ kc a b c d e f) σ) = _
                congr 2
                funext k
                unfold mixKLgC
                split
                · rfl
                · exact (kA_row (by omega)).symm
              · unfold f_X9_addKind
                rw [wi_eq, w1.1, Option.bind_some, if_neg (by decide), wi_eq, w2.1, Option.bind_some, if_neg (by decide), wi_eq, w3.1, Option.bind_some, if_neg (by decide), lv, Option.bind_some, if_neg (by decide), wi_eq, w5.1, Option.bind_some, if_neg (by decide), E.mk, if_neg (fun z => by have := (nI_eq (a := kc) (b := 6) (by omega) (by omega)).mp z; omega), k_at0]
                have a0 : nI (20 + 6 * kc) + 0 = nI (20 + 6 * kc + 0) := k_at1 kc 0
                have a1 : nI (20 + 6 * kc) + 1 = nI (20 + 6 * kc + 1) := k_at1 kc 1
                have a2 : nI (20 + 6 * kc) + 2 = nI (20 + 6 * kc + 2) := k_at1 kc 2
                have a3 : nI (20 + 6 * kc) + 3 = nI (20 + 6 * kc + 3) := k_at1 kc 3
                have a4 : nI (20 + 6 * kc) + 4 = nI (20 + 6 * kc + 4) := k_at1 kc 4
                have a5 : nI (20 + 6 * kc) + 5 = nI (20 + 6 * kc + 5) := k_at1 kc 5
                rw [a0, a1, a2, a3, a4, a5, if_pos (ib_nI (by omega) (by decide)), if_pos (ib_nI (by omega) (by decide)), if_pos (ib_nI (by omega) (by decide)), if_pos (ib_nI (by omega) (by decide)), if_pos (ib_nI (by omega) (by decide)), if_pos (c := ib (nI (20 + 6 * kc + 5)) 4619) (ib_nI (by omega) (by decide)), if_pos (c := ib (nI (20 + 6 * kc + 5)) 4619) (ib_nI (by omega) (by decide)),
                  ix_nI (by omega), ix_nI (by omega), ix_nI (by omega), ix_nI (by omega), ix_nI (by omega), ix_nI (by omega)]
                have e19 : ∀ v, up (up (up (up (up (up μ 1 (20 + 6 * kc + 0) a) 1 (20 + 6 * kc + 1) b) 1 (20 + 6 * kc + 2) c) 1 (20 + 6 * kc + 3) d) 1 (20 + 6 * kc + 4) e) 1 (20 + 6 * kc + 5) v 1 (ix 19) = nI kc := fun v => by
                  have e : ix 19 = 19 := rfl
                  rw [e, up_other (by omega), up_other (by omega), up_other (by omega), up_other (by omega), up_other (by omega), up_other (by omega)]
                  exact E.mk
                rw [e19, e19, nI_1]
                rcases hf with rfl | rfl
                · rw [if_pos rfl]
                  rfl
                · rw [if_neg (by decide)]
                  rfl
            · obtain rfl : kc = 6 := by omega
              refine ⟨-6, 6, σ, μ, ?_, ?_, V, fun _ _ => rfl⟩
              · rw [c1]
                unfold f_X3_add
                rw [E.k, if_neg (by decide), Option.bind_some]
                congr 2
                funext k
                unfold mixKLgC
                split <;> rfl
              · unfold f_X9_addKind
                rw [wi_eq, w1.1, Option.bind_some, if_neg (by decide), wi_eq, w2.1, Option.bind_some, if_neg (by decide), wi_eq, w3.1, Option.bind_some, if_neg (by decide), lv, Option.bind_some, if_neg (by decide), wi_eq, w5.1, Option.bind_some, if_neg (by decide), E.mk, if_pos (by decide)]
          · exact bad ⟨-4, rfl, by unfold f_X8_addKind; simp [w1.1, w2.1, w3.1, w4.1, w5.1], by unfold f_X9_addKind f_X9_addKind_57 f_X9_isLevel; simp only [wi_eq]; simp [w1.1, w2.1, w3.1, w4.1, w5.1, bz]⟩
        · exact bad ⟨-4, rfl, by unfold f_X8_addKind; simp [w1.1, w2.1, w3.1, w4.1], by unfold f_X9_addKind f_X9_addKind_57 f_X9_isLevel; simp only [wi_eq]; simp [w1.1, w2.1, w3.1, w4.1, bz]⟩
      · exact bad ⟨-4, rfl, by unfold f_X8_addKind; simp [w1.1, w2.1, w3.1], by unfold f_X9_addKind f_X9_addKind_57; simp only [wi_eq]; simp [w1.1, w2.1, w3.1]⟩
    · exact bad ⟨-4, rfl, by unfold f_X8_addKind; simp [w1.1, w2.1], by unfold f_X9_addKind f_X9_addKind_57; simp only [wi_eq]; simp [w1.1, w2.1]⟩
  · exact bad ⟨-4, rfl, by unfold f_X8_addKind; simp [w1.1], by unfold f_X9_addKind f_X9_addKind_57; simp only [wi_eq]; simp [w1.1]⟩
end Gk
