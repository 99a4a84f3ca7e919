section Gc
variable {L cnt kc : Nat} {σ μ : Sg}
theorem ra_sh {T : Nat} (F : FI L cnt kc T σ μ) {t : Nat} (ht : t < cnt) (a : Int32) (wd : Int64) : ∃ μ', f_X9_letClimb (nI t) a μ wd = some μ' ∧ SH L cnt kc μ (ra L t a σ) μ' := by
  have h6 := F.1.lt ht
  have S4 := ((((SH.rf F.1 F.2.1).w 20 t (σ 20 t + 1) (by decide) h6).w 21 t 0 (by decide) h6).w 22 t 0 (by decide) h6).w 23 t 0 (by decide) h6
  obtain ⟨μ', l1, l2⟩ := S4.log a 4 (nI t) (σ 20 t + 1) wd
  refine ⟨μ', ?_, l2⟩
  have e : up (up (up (up σ 20 t (σ 20 t + 1)) 21 t 0) 22 t 0) 23 t 0 20 t = σ 20 t + 1 := by
    rw [up_row (by decide), up_row (by decide), up_row (by decide), up_same]
  unfold f_X9_letClimb
  rw [tg_4 F.1 ht, Option.bind_some, ms_4 h6, Option.bind_some, ms_9 h6, Option.bind_some, ms_5 h6, Option.bind_some, ms_6 h6, Option.bind_some, tg_4 S4.1.1 ht, Option.bind_some, e, l1, Option.bind_some]
/-- a ticket climbs -/
theorem mk_climb {T : Nat} (F : FI L cnt kc T σ μ) {t : Nat} (ht : t < cnt) (ha : σ 21 t = 0 ∨ σ 21 t = 1) (N : Nat) (wd : Int64) :
    MR L cnt kc T σ μ (f_X1_raise L (nI t) (σ 12 0) σ) ((f_X9_letClimb (nI t) (μ 1 (ix 0)) μ wd).bind (fun p23 => (f_X9_ticket (nI t) 4 p23 wd).bind (fun p25 => some (p25, p23)))) := by
  obtain ⟨μ', l1, S⟩ := ra_sh F ht (σ 12 0) wd
  have x := ra_ex L t (σ 12 0) σ
  have V := F.2.2.1
  obtain ⟨v1, v2, v3, v4, v5, v6, v7, v8⟩ := F.2.2.1
  have C := cl_of F.1 F.2.1 v6 v7
  have e20 : ra L t (σ 12 0) σ 20 t = σ 20 t + 1 := by rw [ra_at _ _ _ _ (by decide), if_pos rfl, if_pos rfl]
  refine ⟨σ 20 t + 1, _, μ', (ra_lift C t ht _).2, ?_, ?_, S.1.2.2.2, LM2.k (x.wk (by decide)), S.2⟩
  · rw [F.1.mt, l1, Option.bind_some, tg_4 S.1.1 ht, Option.bind_some, e20]
  · refine ⟨S.1.1, S.1.2.1, ⟨v1, by rw [x 12 (by decide)]; exact v2, v3.ex x (by decide), v4.ex x (by decide), v5.ex x (by decide), v6.rz F.1.1 ht ha L _, KT.ex v7 x (by decide), fun j hj => ?_⟩, fun j hj => (F.2.2.2 j hj).ex x (by decide) S.1.2.2.1⟩
    obtain ⟨⟨p2, p3, p4, p5⟩, pl⟩ := v8 j hj
    by_cases z : j = t
    · subst z
      refine ⟨⟨?_, ?_, by rw [x 24 (by decide)]; exact p4, by rw [x 25 (by decide)]; exact p5⟩, LK.rz v3 (v7 j hj) F.1.2.1 L _⟩
      · rw [ra_at _ _ _ _ (by decide), if_pos rfl, if_neg (by decide), if_pos (by decide), z_0]
        omega
      · rw [ra_at _ _ _ _ (by decide), if_pos rfl, if_neg (by decide), if_pos (by decide), z_0]
        omega
    · have e : ∀ k, k ∉ LG → ra L t (σ 12 0) σ k j = σ k j := fun k hk => by rw [ra_at _ _ _ _ hk, if_neg z]
      refine ⟨⟨by rw [e 22 (by decide)]; exact p2, by rw [e 23 (by decide)]; exact p3, by rw [e 24 (by decide)]; exact p4, by rw [e 25 (by decide)]; exact p5⟩, ?_⟩
      unfold LK
      rw [x 5 (by decide), e 16 (by decide), e 20 (by decide), e 23 (by decide)]
      exact pl
theorem mk_sh {σ' μ' : Sg} (S : SH L cnt kc μ σ' μ') {t : Nat} (ht : t < cnt) (a : Int32) (wd : Int64) : ∃ μ'', f_X9_solveOne (nI t) a μ' wd = some μ'' ∧ SH L cnt kc μ (mk1 L t a σ') μ'' := by
  have h6 : t < 60 := S.1.1.lt ht
  have S4 := (S.w 21 t 3 (by decide) h6).w 29 t a (by decide) h6
  obtain ⟨μ'', l1, l2⟩ := S4.log a 5 (nI t) 0 wd
  refine ⟨μ'', ?_, l2⟩
  unfold f_X9_solveOne
  rw [ms_9 h6, Option.bind_some, ms_13 h6, Option.bind_some, l1, Option.bind_some]
theorem fin_sh (E : Eq2 cnt kc σ μ) (G : LogR L σ μ) {t : Nat} (ht : t < cnt) (a : Int32) (wd : Int64) {N : Nat} (hN : 100 < N) :
    ∃ μ', f_X9_makeSolved N (nI t) a μ wd = some (nI (1 + fb_ct (rtB σ t) cnt), μ') ∧ SH L cnt kc μ (fin L cnt t a σ) μ' := by
  have h60 := E.1
  obtain ⟨μ1, m1, m2⟩ := mk_sh (SH.rf E G) ht a wd
  have := sim_itr (α := Sg) (γ := Nat × Sg) (fun n x c => f_X9_makeSolved_11 N n (nI t) a (nI c.1) x c.2 wd) (fT L (nI t) a)
    (fun j τ c => c.1 = 1 + fb_ct (rtB σ t) j ∧ τ 26 = σ 26 ∧ SH L cnt kc μ τ c.2) (fun c => some (nI c.1, c.2)) cnt
    (fun n j τ c hj R => by
      obtain ⟨R1, R2, R3⟩ := R
      have e26 : τ 26 j = σ 26 j := congrFun R2 j
      have hx := fT_ex L (nI t) a j τ 26 (by decide)
      have st : f_X9_makeSolved_11 N (n + 1) (nI t) a (nI c.1) (nI j) c.2 wd = if τ 26 j = nI t then (f_X9_solveOne (nI j) a c.2 wd).bind (fun p5 => f_X9_makeSolved_11 N n (nI t) a (nI c.1 + 1) (nI j + 1) p5 wd) else f_X9_makeSolved_11 N n (nI t) a (nI c.1) (nI j + 1) c.2 wd := by
        rw [f_X9_makeSolved_11, R3.1.1.mc, if_neg (nI_ge hj (by omega)), tg_10 R3.1.1 hj, Option.bind_some]
      by_cases e : τ 26 j = nI t
      · obtain ⟨μ2, k1, k2⟩ := mk_sh R3 hj a wd
        refine ⟨(c.1 + 1, μ2), ⟨?_, hx.trans R2, ?_⟩, ?_⟩
        · rw [fb_ct_succ]
          unfold rtB
          rw [decide_eq_true (by rw [← e26]; exact e)]
          show c.1 + 1 = _
          unfold rtB at R1
          simp only [if_true]
          omega
        · unfold fT
          rw [if_pos e]
          exact k2
        · refine st.trans ?_
          rw [if_pos e, k1, Option.bind_some, nI_1, nI_1]
      · refine ⟨c, ⟨?_, hx.trans R2, ?_⟩, ?_⟩
        · rw [fb_ct_succ]
          unfold rtB
          rw [decide_eq_false (by rw [← e26]; exact e)]
          unfold rtB at R1
          simp only [Bool.false_eq_true, if_false]
          omega
        · unfold fT
          rw [if_neg e]
          exact R3
        · refine st.trans ?_
          rw [if_neg e, nI_1])
    (fun n τ c R => by
      show f_X9_makeSolved_11 N (n + 1) (nI t) a (nI c.1) (nI cnt) c.2 wd = _
      rw [f_X9_makeSolved_11, R.2.2.1.1.mc, if_pos (nI_le (Nat.le_refl _) (by omega))])
    (mk1 L t a σ) (1, μ1) ⟨rfl, mk1_ex L t a σ 26 (by decide), m2⟩ N (by omega)
  obtain ⟨c, ⟨c1, -, c3⟩, c4⟩ := this
  refine ⟨c.2, ?_, c3⟩
  unfold f_X9_makeSolved
  rw [m1, Option.bind_some]
  refine Eq.trans c4 ?_
  rw [c1]
/-- a ticket is solved -/
theorem mk_solve {T : Nat} (F : FI L cnt kc T σ μ) {t : Nat} (ht : t < cnt) (ha : σ 21 t = 0 ∨ σ 21 t = 1 ∨ σ 21 t = 2) {N : Nat} (hN : 100 < N) (wd : Int64) :
    MR L cnt kc T σ μ (f_X1_finish N L (nI t) (σ 12 0) σ) (f_X9_makeSolved N (nI t) (μ 1 (ix 0)) μ wd) := by
  obtain ⟨μ', l1, S⟩ := fin_sh F.1 F.2.1 ht (σ 12 0) wd hN
  have x := fin_ex L cnt t (σ 12 0) σ
  have v6 := F.2.2.1.2.2.2.2.2.1
  refine ⟨_, _, μ', (fin_lift (cl_of F.1 F.2.1 v6 F.2.2.1.2.2.2.2.2.2.1) N hN t ht (σ 12 0)).2, by rw [F.1.mt]; exact l1, F.st S.1 (x.wk (by decide)) (v6.fz F.1.1 ht ha L _), S.1.2.2.2, LM2.k (x.wk (by decide)), S.2⟩
/-- a twin becomes its own ticket -/
theorem mk_part {T : Nat} (F : FI L cnt kc T σ μ) {t : Nat} (ht : t < cnt) (ha : σ 21 t = 4) (wd : Int64) : MR L cnt kc T σ μ (f_X1_untie L (nI t) σ) (f_X9_makeOwn (nI t) μ wd) := by
  have h6 := F.1.lt ht
  have h60 := F.1.1
  have v6 := F.2.2.1.2.2.2.2.2.1
  have S1 := ((SH.rf F.1 F.2.1).w 26 t (-1) (by decide) h6).w 21 t 0 (by decide) h6
  have ec : up (up σ 26 t (-1)) 21 t 0 = up (up σ 21 t 0) 26 t (-1) := up_comm _ _ _ _ _ _ _ (by decide)
  rw [ec] at S1
  have e12 : up (up σ 21 t 0) 26 t (-1) 12 = σ 12 := (up_row (by decide)).trans (up_row (by decide))
  obtain ⟨μ', l1, S⟩ := S1.log (σ 12 0) 7 (nI t) (σ 26 t) wd
  have xx : Ex LSt σ (wr L (σ 12 0) 7 (nI t) (σ 26 t) (up (up σ 21 t 0) 26 t (-1))) := ((Ex.up _ _ _ (by decide)).tr (Ex.up _ _ _ (by decide))).tr (wr_wk _ _ _ _ _ _ _ (by decide))
  refine ⟨σ 26 t, _, μ', ?_, ?_, F.st S.1 xx (fun j hj => ?_), S.1.2.2.2, LM2.k (xx.wk (by decide)), S.2⟩
  · unfold f_X1_untie
    rw [if_pos (ib_nI (by omega) (by decide)), ix_nI (by omega), S1.wr, Option.bind_some]
  · unfold f_X9_makeOwn
    rw [tg_10 F.1 ht, Option.bind_some, ms_10 h6, Option.bind_some, ms_9 h6, Option.bind_some, S1.1.1.mt, e12, l1, Option.bind_some]
  · have e21 : ∀ j, wr L (σ 12 0) 7 (nI t) (σ 26 t) (up (up σ 21 t 0) 26 t (-1)) 21 j = if j = t then 0 else σ 21 j := fun j => by
      rw [wr_ex _ _ _ _ _ _ 21 (by decide), up_row (by decide), up_ite]
      by_cases z : j = t
      · rw [if_pos ⟨rfl, z⟩, if_pos z]
      · rw [if_neg (fun w => z w.2), if_neg z]
    have e26 : ∀ j, wr L (σ 12 0) 7 (nI t) (σ 26 t) (up (up σ 21 t 0) 26 t (-1)) 26 j = if j = t then -1 else σ 26 j := fun j => by
      rw [wr_ex _ _ _ _ _ _ 26 (by decide), up_ite, up_row (by decide)]
      by_cases z : j = t
      · rw [if_pos ⟨rfl, z⟩, if_pos z]
      · rw [if_neg (fun w => z w.2), if_neg z]
    have ht26 : σ 26 t ≠ -1 := fun z => by
      rcases (v6 t ht).2 with w | ⟨r, r1, r2, -⟩
      · exact w.2 ha
      · rw [r2] at z
        exact nI_m1 (by omega) z
    unfold ST
    rw [e21, e26]
    by_cases c : j = t
    · rw [if_pos c, if_pos c]
      exact ⟨⟨0, by decide, rfl⟩, Or.inl ⟨rfl, by decide⟩⟩
    · rw [if_neg c, if_neg c]
      obtain ⟨g1, g2⟩ := v6 j hj
      refine ⟨g1, ?_⟩
      rcases g2 with g | ⟨r, r1, r2, r3, r4⟩
      · exact Or.inl g
      · have hr : r ≠ t := fun z => by
          subst z
          exact ht26 r3
        refine Or.inr ⟨r, r1, r2, by rw [e26, if_neg hr]; exact r3, ?_⟩
        rw [e21, if_neg hr]
        exact r4
/-- another priority -/
theorem mk_prio {T : Nat} (F : FI L cnt kc T σ μ) {t : Nat} (ht : t < cnt) (v : Int32) (wd : Int64) : MR L cnt kc T σ μ (f_X1_rank (nI t) v σ) ((f_X9_ticket (nI t) 3 μ wd).bind (fun p1 => (f_X9_setTicket (nI t) 3 v μ wd).bind (fun p3 => some (p1, p3)))) := by
  have h6 := F.1.lt ht
  have S := (SH.rf F.1 F.2.1).w 19 t v (by decide) h6
  have xx : Ex LSt σ (up σ 19 t v) := Ex.up _ _ _ (by decide)
  refine ⟨σ 19 t, _, _, ?_, ?_, F.st S.1 xx (F.2.2.1.2.2.2.2.2.1.ex (up_row (by decide)) (up_row (by decide))), S.1.2.2.2, LM2.k (xx.wk (by decide)), S.2⟩
  · unfold f_X1_rank
    rw [if_pos (ib_nI (by omega) (by decide)), ix_nI (by omega)]
  · rw [tg_3 F.1 ht, Option.bind_some, ms_3 h6, Option.bind_some]
/-! reopening -/
def vT (x : Int32) (j : Nat) (σ : Sg) : Sg := if σ 26 j = x then up (up σ 21 j 4) 29 j (-1) else σ
theorem vT_ex (x : Int32) (j : Nat) (σ : Sg) : Ex [21, 29] σ (vT x j σ) := by
  unfold vT
  split
  · exact (Ex.up _ _ _ (by decide)).tr (Ex.up _ _ _ (by decide))
  · exact Ex.rf _ _
theorem vT_21 (x : Int32) (n : Nat) : ∀ j, itr (vT x) n σ 21 j = if j < n ∧ σ 26 j = x then 4 else σ 21 j := by
  induction n with
  | zero =>
    intro j
    rw [if_neg (fun z => Nat.not_lt_zero _ z.1)]
    rfl
  | succ n ih =>
    intro j
    rw [itr_s]
    have e26 : itr (vT x) n σ 26 n = σ 26 n := congrFun (itr_ex (fun i σ => vT_ex x i σ) σ n 26 (by decide)) n
    rw [show vT x n (itr (vT x) n σ) = if itr (vT x) n σ 26 n = x then up (up (itr (vT x) n σ) 21 n 4) 29 n (-1) else itr (vT x) n σ from rfl]
    by_cases c : σ 26 n = x
    · rw [if_pos (e26.trans c), up_row (by decide), up_ite, ih]
      by_cases z : j = n
      · subst z
        rw [if_pos ⟨rfl, rfl⟩, if_pos ⟨by omega, c⟩]
      · rw [if_neg (fun w => z w.2)]
        by_cases y : j < n ∧ σ 26 j = x
        · rw [if_pos y, if_pos (c := j < n + 1 ∧ σ 26 j = x) ⟨by omega, y.2⟩]
        · rw [if_neg y, if_neg (c := j < n + 1 ∧ σ 26 j = x) (fun w => y ⟨by omega, w.2⟩)]
    · rw [if_neg (fun z => c (e26.symm.trans z)), ih]
      by_cases y : j < n ∧ σ 26 j = x
      · rw [if_pos y, if_pos (c := j < n + 1 ∧ σ 26 j = x) ⟨by omega, y.2⟩]
      · rw [if_neg y, if_neg (c := j < n + 1 ∧ σ 26 j = x) (fun w => y ⟨by
          have : j ≠ n := fun v => c (by rw [← v]; exact w.2)
          omega, w.2⟩)]
theorem mk_reopen {T : Nat} (F : FI L cnt kc T σ μ) {t : Nat} (ht : t < cnt) (h3 : σ 21 t = 3) (hr : σ 26 t = -1) {N : Nat} (hN : 100 < N) (wd : Int64) : MR L cnt kc T σ μ (f_X1_reviveWithTwins N L (nI t) σ) (f_X9_makeOpen N (nI t) μ wd) := by
  have h6 := F.1.lt ht
  have h60 := F.1.1
  have V := F.2.2.1
  have v6 := V.2.2.2.2.2.1
  have S1 := ((((SH.rf F.1 F.2.1).w 21 t 0 (by decide) h6).w 29 t (-1) (by decide) h6).w 22 t 0 (by decide) h6).w 23 t 0 (by decide) h6
  have x1 : Ex [21, 22, 23, 29] σ (up (up (up (up σ 21 t 0) 29 t (-1)) 22 t 0) 23 t 0) := (((Ex.up _ _ _ (by decide)).tr (Ex.up _ _ _ (by decide))).tr (Ex.up _ _ _ (by decide))).tr (Ex.up _ _ _ (by decide))
  obtain ⟨μ1, l1, S2⟩ := S1.log (σ 12 0) 10 (nI t) 0 wd
  have w1 := S1.wr (σ 12 0) 10 (nI t) 0
  have x2 : Ex [7, 8, 9, 10, 11, 21, 22, 23, 29] σ (wr L (σ 12 0) 10 (nI t) 0 (up (up (up (up σ 21 t 0) 29 t (-1)) 22 t 0) 23 t 0)) := (x1.wk (by decide)).tr (wr_wk _ _ _ _ _ _ _ (by decide))
  have f21 : ∀ j, wr L (σ 12 0) 10 (nI t) 0 (up (up (up (up σ 21 t 0) 29 t (-1)) 22 t 0) 23 t 0) 21 j = if j = t then 0 else σ 21 j := fun j => by
    rw [wr_ex _ _ _ _ _ _ 21 (by decide), up_row (by decide), up_row (by decide), up_row (by decide), up_ite]
    by_cases z : j = t
    · rw [if_pos ⟨rfl, z⟩, if_pos z]
    · rw [if_neg (fun w => z w.2), if_neg z]
  have f23 : ∀ k, k = 22 ∨ k = 23 → ∀ j, wr L (σ 12 0) 10 (nI t) 0 (up (up (up (up σ 21 t 0) 29 t (-1)) 22 t 0) 23 t 0) k j = if j = t then 0 else σ k j := fun k hk j => by
    rw [wr_ex _ _ _ _ _ _ k (by rcases hk with rfl | rfl <;> decide), up_ite, up_ite, up_ite, up_ite]
    by_cases z : j = t
    · rw [if_pos z]
      rcases hk with rfl | rfl
      · rw [if_neg (by omega), if_pos ⟨rfl, z⟩]
      · rw [if_pos ⟨rfl, z⟩]
    · rw [if_neg z, if_neg (fun w => z w.2), if_neg (fun w => z w.2), if_neg (fun w => z w.2), if_neg (fun w => z w.2)]
  generalize wr L (σ 12 0) 10 (nI t) 0 (up (up (up (up σ 21 t 0) 29 t (-1)) 22 t 0) 23 t 0) = σ1 at S2 w1 x2 f21 f23
  have e26 : σ1 26 = σ 26 := x2 26 (by decide)
  -- the twins
  obtain ⟨a, c, ⟨⟨r0, r1, r2⟩, r3⟩, k1, k2⟩ := sim2 (α := Nat × Sg) (γ := Nat × Sg) (fun n x p => f_X1_reviveWithTwins_45 N L n (nI t) (nI p.1) x p.2) (fun n x c => f_X9_makeOpen_49 N n (nI t) (nI c.1) x c.2 wd)
    (fun i p c => (p.1 = c.1 ∧ p.2 = itr (vT (nI t)) i σ1 ∧ SH L cnt kc μ p.2 c.2) ∧ p.2 15 0 = nI cnt) (fun p => some (nI p.1, p.2)) (fun c => some (nI c.1, c.2)) cnt
    (fun n m i p c hi R => by
      obtain ⟨⟨R0, R1, R2⟩, R3⟩ := R
      have q26 : p.2 26 i = σ1 26 i := by rw [R1]; exact congrFun (itr_ex (fun i σ => vT_ex (nI t) i σ) σ1 i 26 (by decide)) i
      have st1 : f_X1_reviveWithTwins_45 N L (n + 1) (nI t) (nI p.1) (nI i) p.2 = if p.2 26 i = nI t then f_X1_reviveWithTwins_45 N L n (nI t) (nI p.1 + 1) (nI i + 1) (up (up p.2 21 i 4) 29 i (-1)) else f_X1_reviveWithTwins_45 N L n (nI t) (nI p.1) (nI i + 1) p.2 := by
        rw [f_X1_reviveWithTwins_45, R3, if_neg (nI_ge hi (by omega)), if_pos (ib_nI (by omega) (by decide)), ix_nI (by omega)]
        unfold f_X1_revive
        rw [if_pos (ib_nI (by omega) (by decide)), ix_nI (by omega), Option.bind_some]
      have st2 : f_X9_makeOpen_49 N (m + 1) (nI t) (nI c.1) (nI i) c.2 wd = if p.2 26 i = nI t then f_X9_makeOpen_49 N m (nI t) (nI c.1 + 1) (nI i + 1) (mu (mu c.2 21 i 4) 29 i (-1)) wd else f_X9_makeOpen_49 N m (nI t) (nI c.1) (nI i + 1) c.2 wd := by
        rw [f_X9_makeOpen_49, R2.1.1.mc, if_neg (nI_ge hi (by omega)), tg_10 R2.1.1 hi, Option.bind_some, ms_9 (by omega), Option.bind_some, ms_13 (by omega), Option.bind_some]
      by_cases q : p.2 26 i = nI t
      · refine ⟨(p.1 + 1, up (up p.2 21 i 4) 29 i (-1)), (c.1 + 1, mu (mu c.2 21 i 4) 29 i (-1)), ⟨⟨by rw [R0], ?_, ?_⟩, ?_⟩, ?_, ?_⟩
        · rw [itr_s, ← R1]
          unfold vT
          rw [if_pos q]
        · exact (R2.w 21 i 4 (by decide) (by show i < 60; omega)).w 29 i (-1) (by decide) (by show i < 60; omega)
        · show up (up p.2 21 i 4) 29 i (-1) 15 0 = _
          rw [up_row (by decide), up_row (by decide)]
          exact R3
        · refine st1.trans ?_
          rw [if_pos q, nI_1, nI_1]
        · refine st2.trans ?_
          rw [if_pos q, nI_1, nI_1]
      · refine ⟨p, c, ⟨⟨R0, ?_, R2⟩, R3⟩, ?_, ?_⟩
        · rw [itr_s, ← R1]
          unfold vT
          rw [if_neg q]
        · refine st1.trans ?_
          rw [if_neg q, nI_1]
        · refine st2.trans ?_
          rw [if_neg q, nI_1])
    (fun n m p c R => ⟨by
      show f_X1_reviveWithTwins_45 N L (n + 1) (nI t) (nI p.1) (nI cnt) p.2 = _
      rw [f_X1_reviveWithTwins_45, R.2, if_pos (nI_le (Nat.le_refl _) (by omega))], by
      show f_X9_makeOpen_49 N (m + 1) (nI t) (nI c.1) (nI cnt) c.2 wd = _
      rw [f_X9_makeOpen_49, R.1.2.2.1.1.mc, if_pos (nI_le (Nat.le_refl _) (by omega))]⟩)
    (1, σ1) (1, μ1) ⟨⟨rfl, rfl, S2⟩, S2.1.1.c⟩ N N (by omega) (by omega)
  have xa : Ex [7, 8, 9, 10, 11, 21, 22, 23, 29] σ a.2 := by
    rw [r1]
    exact x2.tr ((itr_ex (fun i σ => vT_ex (nI t) i σ) σ1 cnt).wk (by decide))
  have a26 : a.2 26 = σ 26 := xa 26 (by decide)
  have nt : ∀ r : Nat, r < cnt → nI r ≠ -1 := fun r h => nI_m1 (by omega)
  have a21 : ∀ j, a.2 21 j = if j < cnt ∧ σ 26 j = nI t then 4 else if j = t then 0 else σ 21 j := fun j => by
    rw [r1, vT_21, e26, f21]
  refine ⟨nI a.1, a.2, c.2, ?_, ?_, ?_, r2.1.2.2.2, LM2.k (xa.wk (by decide)), r2.2⟩
  · unfold f_X1_reviveWithTwins f_X1_revive
    have e12 : up (up σ 21 t 0) 29 t (-1) 12 = σ 12 := (up_row (by decide)).trans (up_row (by decide))
    rw [if_pos (ib_nI (by omega) (by decide)), ix_nI (by omega), Option.bind_some, if_pos (ib_nI (by omega) (by decide)), e12, w1, Option.bind_some]
    exact k1
  · unfold f_X9_makeOpen
    have et := S1.1.1.mt
    rw [x1 12 (by decide)] at et
    rw [ms_9 h6, Option.bind_some, ms_13 h6, Option.bind_some, ms_5 h6, Option.bind_some, ms_6 h6, Option.bind_some, et, l1, Option.bind_some, r0]
    exact k2
  · obtain ⟨E, G, ⟨v1, v2, v3, v4, v5, -, v7, v8⟩, hf⟩ := F
    refine ⟨r2.1.1, r2.1.2.1, ⟨v1, by rw [xa 12 (by decide)]; exact v2, v3.ex xa (by decide), v4.ex xa (by decide), v5.ex xa (by decide), fun j hj => ?_, KT.ex v7 xa (by decide), fun j hj => ?_⟩, fun j hj => (hf j hj).ex xa (by decide) r2.1.2.2.1⟩
    · unfold ST
      rw [a26, a21]
      by_cases z : j < cnt ∧ σ 26 j = nI t
      · rw [if_pos z]
        refine ⟨⟨4, by decide, rfl⟩, Or.inr ⟨t, ht, z.2, hr, Or.inl ⟨rfl, Or.inl ?_⟩⟩⟩
        rw [a21, if_neg (fun w => nt t ht (w.2.symm.trans hr)), if_pos rfl]
      · rw [if_neg z]
        by_cases y : j = t
        · subst y
          rw [if_pos rfl]
          exact ⟨⟨0, by decide, rfl⟩, Or.inl ⟨hr, by decide⟩⟩
        · rw [if_neg y]
          obtain ⟨g1, g2⟩ := v6 j hj
          refine ⟨g1, ?_⟩
          rcases g2 with g | ⟨r, q1, q2, q3, q4⟩
          · exact Or.inl g
          · refine Or.inr ⟨r, q1, q2, q3, ?_⟩
            have hrt : r ≠ t := fun w => by
              subst w
              exact z ⟨hj, q2⟩
            rw [a21, if_neg (fun w => nt t ht (w.2.symm.trans q3)), if_neg hrt]
            exact q4
    · obtain ⟨⟨p2, p3, p4, p5⟩, pl⟩ := v8 j hj
      have a2x : ∀ k, k = 22 ∨ k = 23 → a.2 k j = if j = t then 0 else σ k j := fun k hk => by
        rw [r1, itr_ex (fun i σ => vT_ex (nI t) i σ) σ1 cnt k (by rcases hk with rfl | rfl <;> decide)]
        exact f23 k hk j
      refine ⟨⟨?_, ?_, by rw [xa 24 (by decide)]; exact p4, by rw [xa 25 (by decide)]; exact p5⟩, ?_⟩
      · rw [a2x 22 (by decide)]
        split
        · rw [z_0]; omega
        · exact p2
      · rw [a2x 23 (by decide)]
        split
        · rw [z_0]; omega
        · exact p3
      · unfold LK at pl ⊢
        rw [xa 5 (by decide), xa 16 (by decide), xa 20 (by decide), a2x 23 (by decide)]
        have h5 := (v3 _ ((v7 j hj).lt E.2.1)).2.2.2.1
        by_cases y : j = t
        · rw [if_pos y]
          by_cases w : σ 5 (ix (σ 16 j)) = 0
          · exact Or.inl w
          · right
            right
            rw [z_lt, z_0]
            have : (σ 5 (ix (σ 16 j))).toInt ≠ 0 := fun q => w (z_eq.mpr (q.trans z_0.symm))
            omega
        · rw [if_neg y]
          exact pl
end Gc
