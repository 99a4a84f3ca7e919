section Pg
variable {cnt kc T hl : Nat} {σ S : Sg}
/-! p62: solving, reopening, joining, reporting -/
theorem p_solve (D : DI cnt kc T hl σ) (hh : hl < 200) {N : Nat} (hN : 100 < N) {t : Nat} (ht : t < cnt) (ha : σ 21 t = 0 ∨ σ 21 t = 1 ∨ σ 21 t = 2) : ∃ σ', f_X8_solve N (nI t) σ = some (nI (1 + fb_ct (rtB σ t) cnt), σ') ∧ DI cnt kc T (hl + 1) σ' ∧ (∀ j, σ' 21 j = if j = t ∨ j < cnt ∧ σ 26 j = nI t then 3 else σ 21 j) ∧ (∀ j, σ' 29 j = if j = t ∨ j < cnt ∧ σ 26 j = nI t then nI T else σ 29 j) ∧ (σ' 20 = σ 20 ∧ σ' 25 = σ 25 ∧ σ' 26 = σ 26) ∧ Lo σ σ' := by
  obtain ⟨μ, F⟩ := D.fi 7 (nI t) 0 0 0
  obtain ⟨hT, h60, -, -, h12, h15, -, -⟩ := D.b
  have J := D.js 7 (nI t) 0 0 0
  have hx := hrec_ex σ hl 7 (nI t) 0 0 0
  have e := hr_k σ hl 7 (nI t) 0 0 0 (k := 21) (by decide)
  have e26 := hr_k σ hl 7 (nI t) 0 0 0 (k := 26) (by decide)
  have e12 : hrec σ hl 7 (nI t) 0 0 0 12 0 = nI T := by rw [hr_k _ _ _ _ _ _ _ (by decide)]; exact h12
  have e15 : hrec σ hl 7 (nI t) 0 0 0 15 0 = nI cnt := by rw [hr_k _ _ _ _ _ _ _ (by decide)]; exact h15
  have K := DI.ch D (c := 7) (m := 6) (a := nI t) (b := 0) (x := 0) (d := 0) (by unfold TY; simp) (by rw [et_v h15 h60 ht (by decide) 0 0 0 (al_7 (by omega) (D.ri t ht).1), if_pos ha, if_neg (by decide)]) hh hN
  generalize hrec σ hl 7 (nI t) 0 0 0 = S at F J hx e e26 e12 e15 K
  have V := F.2.2.1
  have x := fin_ex 600 cnt t (nI T) S
  have er : rtB S t = rtB σ t := by
    unfold rtB
    rw [e26]
  have e1 : f_X1_make N 600 7 (nI t) 0 0 0 S = some (nI (1 + fb_ct (rtB σ t) cnt), fin 600 cnt t (nI T) S) := by
    unfold f_X1_make
    rw [if_neg (by decide), if_neg (by decide), if_neg (by decide), if_neg (by decide), if_neg (by decide), if_neg (by decide), if_pos rfl, e12, (fin_lift (cl_of F.1 F.2.1 V.2.2.2.2.2.1 V.2.2.2.2.2.2.1) N hN t ht _).2, Option.bind_some, er]
  have xv := J.1.1 t ht
  have hp : 0 ≤ (S 22 t).toInt ∧ S 22 t ≤ S 3 (ix (S 16 t)) := by
    obtain ⟨q, -, -, -, -, -, ⟨g, -⟩, -, -⟩ := xv
    exact g
  obtain ⟨k1, k2⟩ := K _ _ cnt e1 (ex_hi x (by decide)) (by rw [x 15 (by decide)]; exact e15) h60 (jr_fin J hT ht (by rw [e]; exact ha) (Ex.rf _ _) (fun _ _ => rfl) hp).1
  refine ⟨_, by unfold f_X8_solve; rw [k1]; rfl, k2, fun j => ?_, fun j => ?_, ⟨?_, ?_, ?_⟩, (ex_lo hx (by decide)).tr (ex_lo x (by decide))⟩
  · rw [fin_at _ _ _ _ _ (by decide)]
    unfold fw
    rw [e26, e]
    by_cases z : j = t ∨ j < cnt ∧ σ 26 j = nI t
    · rw [if_pos z, if_pos z, if_pos rfl]
    · rw [if_neg z, if_neg z]
  · rw [fin_at _ _ _ _ _ (by decide)]
    unfold fw
    rw [e26, hx 29 (by decide)]
    by_cases z : j = t ∨ j < cnt ∧ σ 26 j = nI t
    · rw [if_pos z, if_pos z, if_neg (by decide), if_pos rfl]
    · rw [if_neg z, if_neg z]
  · rw [x 20 (by decide), hx 20 (by decide)]
  · rw [x 25 (by decide), hx 25 (by decide)]
  · rw [x 26 (by decide), e26]
theorem vT_29 (x : Int32) (n : Nat) : ∀ j, itr (vT x) n σ 29 j = if j < n ∧ σ 26 j = x then -1 else σ 29 j := by
  induction n with
  | zero =>
    intro j
    rw [if_neg (fun z => Nat.not_lt_zero _ z.1)]
    rfl
  | succ n ih =>
    intro j
    rw [itr_s]
    have e26 : itr (vT x) n σ 26 n = σ 26 n := congrFun (itr_ex (fun i σ => vT_ex x i σ) σ n 26 (by decide)) n
    rw [show vT x n (itr (vT x) n σ) = if itr (vT x) n σ 26 n = x then up (up (itr (vT x) n σ) 21 n 4) 29 n (-1) else itr (vT x) n σ from rfl]
    by_cases c : σ 26 n = x
    · rw [if_pos (e26.trans c), up_ite, up_row (by decide), ih]
      by_cases z : j = n
      · subst z
        rw [if_pos ⟨rfl, rfl⟩, if_pos ⟨by omega, c⟩]
      · rw [if_neg (fun w => z w.2)]
        by_cases y : j < n ∧ σ 26 j = x
        · rw [if_pos y, if_pos (c := j < n + 1 ∧ σ 26 j = x) ⟨by omega, y.2⟩]
        · rw [if_neg y, if_neg (c := j < n + 1 ∧ σ 26 j = x) (fun w => y ⟨by omega, w.2⟩)]
    · rw [if_neg (fun z => c (e26.symm.trans z)), ih]
      by_cases y : j < n ∧ σ 26 j = x
      · rw [if_pos y, if_pos (c := j < n + 1 ∧ σ 26 j = x) ⟨by omega, y.2⟩]
      · rw [if_neg y, if_neg (c := j < n + 1 ∧ σ 26 j = x) (fun w => y ⟨by
          have : j ≠ n := fun v => c (by rw [← v]; exact w.2)
          omega, w.2⟩)]
/-- the twins of a reopened ticket -/
theorem rv_at {L : Nat} {τ : Sg} (h15 : τ 15 0 = nI cnt) (h60 : cnt ≤ 60) (t : Nat) {N : Nat} (hN : 100 < N) : f_X1_reviveWithTwins_45 N L N (nI t) 1 0 τ = some (nI (1 + fb_ct (rtB τ t) cnt), itr (vT (nI t)) cnt τ) := by
  have hs := lift_itr (α := Nat × Sg) (fun n x (p : Nat × Sg) => f_X1_reviveWithTwins_45 N L n (nI t) (nI p.1) x p.2) (fun j p => (p.1 + (if rtB τ t j then 1 else 0), vT (nI t) j p.2))
    (fun j p => p.2 15 0 = nI cnt ∧ p.2 26 = τ 26 ∧ p.1 = 1 + fb_ct (rtB τ t) j) (fun p => some (nI p.1, p.2)) cnt
    (fun n j p hj I => by
      obtain ⟨I1, I2, I3⟩ := I
      have e26 : p.2 26 j = τ 26 j := congrFun I2 j
      have x := vT_ex (nI t) j p.2
      refine ⟨⟨?_, ?_, ?_⟩, ?_⟩
      · show vT (nI t) j p.2 15 0 = _
        rw [x 15 (by decide)]
        exact I1
      · exact (x 26 (by decide)).trans I2
      · rw [fb_ct_succ]
        show p.1 + _ = _
        omega
      · show f_X1_reviveWithTwins_45 N L (n + 1) (nI t) (nI p.1) (nI j) p.2 = f_X1_reviveWithTwins_45 N L n (nI t) (nI (p.1 + _)) (nI (j + 1)) (vT (nI t) j p.2)
        rw [f_X1_reviveWithTwins_45, I1, if_neg (nI_ge hj (by omega)), if_pos (ib_nI (by omega) (by decide)), ix_nI (by omega)]
        unfold f_X1_revive vT rtB
        rw [if_pos (ib_nI (by omega) (by decide)), ix_nI (by omega), Option.bind_some]
        by_cases e : p.2 26 j = nI t
        · rw [if_pos e, if_pos e, nI_1, nI_1, decide_eq_true (by rw [← e26]; exact e)]
          rfl
        · rw [if_neg e, if_neg e, nI_1, decide_eq_false (by rw [← e26]; exact e)]
          rfl)
    (fun n p I => by
      show f_X1_reviveWithTwins_45 N L (n + 1) (nI t) (nI p.1) (nI cnt) p.2 = _
      rw [f_X1_reviveWithTwins_45, I.1, if_pos (nI_le (Nat.le_refl _) (by omega))])
    (1, τ) ⟨h15, rfl, rfl⟩ N (by omega)
  have e2 : ∀ n, (itr (fun j (p : Nat × Sg) => (p.1 + (if rtB τ t j then 1 else 0), vT (nI t) j p.2)) n (1, τ)).2 = itr (vT (nI t)) n τ := by
    intro n
    induction n with
    | zero => rfl
    | succ n ih =>
      rw [itr_s, itr_s, ← ih]
  obtain ⟨⟨-, -, i3⟩, i4⟩ := hs
  refine Eq.trans i4 ?_
  show some (nI (itr _ cnt (1, τ)).1, (itr _ cnt (1, τ)).2) = _
  rw [i3, e2]
theorem p_reopen (D : DI cnt kc T hl σ) (hh : hl < 200) {N : Nat} (hN : 100 < N) {t : Nat} (ht : t < cnt) (ha : σ 21 t = 3) (hr : σ 26 t = -1) : ∃ σ', f_X8_reopen N (nI t) σ = some (nI (1 + fb_ct (rtB σ t) cnt), σ') ∧ DI cnt kc T (hl + 1) σ' ∧ (∀ j, σ' 21 j = if j < cnt ∧ σ 26 j = nI t then 4 else if j = t then 0 else σ 21 j) ∧ (∀ j, σ' 29 j = if j < cnt ∧ σ 26 j = nI t then -1 else if j = t then -1 else σ 29 j) ∧ σ' 22 t = 0 ∧ (σ' 20 = σ 20 ∧ σ' 25 = σ 25 ∧ σ' 26 = σ 26) ∧ Lo σ σ' := by
  obtain ⟨μ, F⟩ := D.fi 8 (nI t) 0 0 0
  obtain ⟨hT, h60, -, -, h12, h15, -, -⟩ := D.b
  have J := D.js 8 (nI t) 0 0 0
  have hx := hrec_ex σ hl 8 (nI t) 0 0 0
  have e := hr_k σ hl 8 (nI t) 0 0 0 (k := 21) (by decide)
  have e26 := hr_k σ hl 8 (nI t) 0 0 0 (k := 26) (by decide)
  have e12 : hrec σ hl 8 (nI t) 0 0 0 12 0 = nI T := by rw [hr_k _ _ _ _ _ _ _ (by decide)]; exact h12
  have e15 : hrec σ hl 8 (nI t) 0 0 0 15 0 = nI cnt := by rw [hr_k _ _ _ _ _ _ _ (by decide)]; exact h15
  have K := DI.ch D (c := 8) (m := 7) (a := nI t) (b := 0) (x := 0) (d := 0) (by unfold TY; simp) (by rw [et_v h15 h60 ht (by decide) 0 0 0 (al_8 (by omega)), if_pos (c := σ 21 t = 3 ∧ σ 26 t = -1) ⟨ha, hr⟩, if_neg (by decide)]) hh hN
  generalize hrec σ hl 8 (nI t) 0 0 0 = S at F J hx e e26 e12 e15 K
  have ux : Ex [21, 22, 23, 29] S (up (up (up (up S 21 t 0) 29 t (-1)) 22 t 0) 23 t 0) := (((Ex.up _ _ _ (by decide)).tr (Ex.up _ _ _ (by decide))).tr (Ex.up _ _ _ (by decide))).tr (Ex.up _ _ _ (by decide))
  have ug : ∀ k, k = 21 ∨ k = 22 ∨ k = 29 → ∀ j, up (up (up (up S 21 t 0) 29 t (-1)) 22 t 0) 23 t 0 k j = if j = t then (if k = 29 then -1 else 0) else S k j := fun k hk j => by
    rw [up_ite, up_ite, up_ite, up_ite]
    by_cases z : j = t
    · rw [if_pos z]
      rcases hk with rfl | rfl | rfl
      · rw [if_neg (by omega), if_neg (by omega), if_neg (by omega), if_pos ⟨rfl, z⟩, if_neg (by decide)]
      · rw [if_neg (by omega), if_pos ⟨rfl, z⟩, if_neg (by decide)]
      · rw [if_neg (by omega), if_neg (by omega), if_pos ⟨rfl, z⟩, if_pos rfl]
    · rw [if_neg z, if_neg (fun w => z w.2), if_neg (fun w => z w.2), if_neg (fun w => z w.2), if_neg (fun w => z w.2)]
  have uw := wr_s F ux (by decide) (nI T) 10 (nI t) 0
  have u12 : up (up (up (up S 21 t 0) 29 t (-1)) 22 t 0) 23 t 0 12 0 = nI T := by rw [ux 12 (by decide)]; exact e12
  have ee : f_X1_make N 600 8 (nI t) 0 0 0 S = f_X1_reviveWithTwins_45 N 600 N (nI t) 1 0 (wr 600 (nI T) 10 (nI t) 0 (up (up (up (up S 21 t 0) 29 t (-1)) 22 t 0) 23 t 0)) := by
    unfold f_X1_make
    rw [if_neg (by decide), if_neg (by decide), if_neg (by decide), if_neg (by decide), if_neg (by decide), if_neg (by decide), if_neg (by decide), if_pos rfl, bind_pair]
    unfold f_X1_reviveWithTwins f_X1_revive
    rw [if_pos (ib_nI (by omega) (by decide)), ix_nI (by omega), Option.bind_some, if_pos (ib_nI (by omega) (by decide)), up_row (k := 29) (by decide), up_row (k := 21) (by decide), e12, uw, Option.bind_some]
  generalize up (up (up (up S 21 t 0) 29 t (-1)) 22 t 0) 23 t 0 = S1 at ux ug uw u12 ee
  have w := wr_ex 600 (nI T) 10 (nI t) 0 S1
  have xa : Ex [7, 8, 9, 10, 11, 21, 22, 23, 29] S (wr 600 (nI T) 10 (nI t) 0 S1) := (ux.wk (by decide)).tr (wr_wk _ _ _ _ _ _ _ (by decide))
  have s26 : wr 600 (nI T) 10 (nI t) 0 S1 26 = σ 26 := by rw [xa 26 (by decide), e26]
  have e1 : f_X1_make N 600 8 (nI t) 0 0 0 S = some (nI (1 + fb_ct (rtB σ t) cnt), itr (vT (nI t)) cnt (wr 600 (nI T) 10 (nI t) 0 S1)) := by
    rw [ee, rv_at (by rw [xa 15 (by decide)]; exact e15) h60 t hN]
    unfold rtB
    rw [s26]
  have vx : Ex [21, 29] (wr 600 (nI T) 10 (nI t) 0 S1) (itr (vT (nI t)) cnt (wr 600 (nI T) 10 (nI t) 0 S1)) := itr_ex (fun i σ => vT_ex (nI t) i σ) _ cnt
  have x : Ex [7, 8, 9, 10, 11, 21, 22, 23, 29] S (itr (vT (nI t)) cnt (wr 600 (nI T) 10 (nI t) 0 S1)) := xa.tr (vx.wk (by decide))
  have a21 : ∀ j, itr (vT (nI t)) cnt (wr 600 (nI T) 10 (nI t) 0 S1) 21 j = if j < cnt ∧ σ 26 j = nI t then 4 else if j = t then 0 else S 21 j := fun j => by
    rw [vT_21, s26, w 21 (by decide), ug 21 (by decide), if_neg (show ¬ (21 : Nat) = 29 by decide)]
  have a29 : ∀ j, itr (vT (nI t)) cnt (wr 600 (nI T) 10 (nI t) 0 S1) 29 j = if j < cnt ∧ σ 26 j = nI t then -1 else if j = t then -1 else S 29 j := fun j => by
    rw [vT_29, s26, w 29 (by decide), ug 29 (by decide), if_pos (show (29 : Nat) = 29 from rfl)]
  have a22 : ∀ j, itr (vT (nI t)) cnt (wr 600 (nI T) 10 (nI t) 0 S1) 22 j = if j = t then 0 else S 22 j := fun j => by
    rw [vx 22 (by decide), w 22 (by decide), ug 22 (by decide), if_neg (show ¬ (22 : Nat) = 29 by decide)]
  obtain ⟨k1, k2⟩ := K _ _ cnt e1 (ex_hi x (by decide)) (by rw [x 15 (by decide)]; exact e15) h60 (by
    have ef := J.eff (t := t) ht
    obtain ⟨⟨h1, h2, h3, ln, h4⟩, -⟩ := J
    refine ⟨fun j hj => ?_, h2.sub (x 30 (by decide)) (fun j hj q => ?_), h3.ex x (by decide), min 600 (ln + 1), ?_⟩
    · have v := h1 j hj
      unfold XT at v ⊢
      rw [x 3 (by decide), x 16 (by decide), x 20 (by decide), x 24 (by decide), x 25 (by decide), x 26 (by decide), x 27 (by decide), x 28 (by decide), a21, a29, a22]
      by_cases y : j = t
      · subst y
        rw [if_neg (c := j < cnt ∧ σ 26 j = nI j) (fun z => nI_m1 (by omega) (z.2.symm.trans hr)), if_neg (c := j < cnt ∧ σ 26 j = nI j) (fun z => nI_m1 (by omega) (z.2.symm.trans hr)), if_pos rfl, if_pos rfl, if_pos rfl]
        exact v.reopen ef.1
      · rw [if_neg y, if_neg y, if_neg y]
        by_cases z : j < cnt ∧ σ 26 j = nI t
        · rw [if_pos z, if_pos z]
          exact v.retwin (by rw [e26, z.2]; exact nI_m1 (by omega))
        · rw [if_neg z, if_neg z]
          exact v
    · rw [a21] at q
      rw [x 20 (by decide)]
      by_cases z : j < cnt ∧ σ 26 j = nI t
      · rw [if_pos z] at q
        exact absurd q (by decide)
      · rw [if_neg z] at q
        by_cases y : j = t
        · rw [if_pos y] at q
          exact absurd q (by decide)
        · rw [if_neg y] at q
          exact ⟨q, rfl⟩
    · have l1 : LJ cnt T ln S1 := h4.ex ux (by decide) (fun j hj q => by
        rw [ug 21 (by decide)] at q
        rw [ug 29 (by decide)]
        by_cases y : j = t
        · rw [if_pos y, if_neg (by decide)] at q
          exact absurd q (by decide)
        · rw [if_neg y] at q
          rw [if_neg y]
          exact ⟨q, rfl⟩)
      refine (l1.wr hT h60 (b := 10) (by decide) 0 ht).ex vx (by decide) (fun j hj q => ?_)
      rw [a21] at q
      rw [a29, w 21 (by decide), w 29 (by decide), ug 21 (by decide), ug 29 (by decide)]
      by_cases z : j < cnt ∧ σ 26 j = nI t
      · rw [if_pos z] at q
        exact absurd q (by decide)
      · rw [if_neg z] at q
        by_cases y : j = t
        · rw [if_pos y] at q
          exact absurd q (by decide)
        · rw [if_neg y] at q
          rw [if_neg z, if_neg y, if_neg y, if_neg y]
          exact ⟨q, rfl⟩)
  refine ⟨_, by unfold f_X8_reopen; rw [k1]; rfl, k2, fun j => ?_, fun j => ?_, ?_, ⟨?_, ?_, ?_⟩, (ex_lo hx (by decide)).tr (ex_lo x (by decide))⟩
  · rw [a21, e]
  · rw [a29, hx 29 (by decide)]
  · rw [a22, if_pos rfl]
  · rw [x 20 (by decide), hx 20 (by decide)]
  · rw [x 25 (by decide), hx 25 (by decide)]
  · rw [x 26 (by decide), e26]
end Pg
