section Ff
variable {L cnt kc : Nat} {σ μ : Sg}
/-- the reference's state behind a step that it shares -/
def SB (L cnt kc : Nat) (μ σ' μ' : Sg) : Prop := Eq2 cnt kc σ' μ' ∧ LogR L σ' μ' ∧ FS μ μ' ∧ RS μ μ'
theorem SB.tr {μ' μ'' σ' σ'' : Sg} (h : SB L cnt kc μ σ' μ') (h2 : SB L cnt kc μ' σ'' μ'') : SB L cnt kc μ σ'' μ'' := ⟨h2.1, h2.2.1, h.2.2.1.tr h2.2.2.1, h.2.2.2.tr h2.2.2.2⟩
theorem SB.rf (E : Eq2 cnt kc σ μ) (G : LogR L σ μ) : SB L cnt kc μ σ μ := ⟨E, G, FS.rf _, RS.rf _⟩
/-- one cell of a ticket on both sides -/
theorem SB.w {σ' μ' : Sg} (h : SB L cnt kc μ σ' μ') (k t : Nat) (v : Int32) (hk : 12 ≤ k ∧ k ≠ 15 ∧ k < 31) (hi : t < pv_nb k) : SB L cnt kc μ (up σ' k t v) (mu μ' k t v) :=
  ⟨h.1.w k t v (by omega) hk.2.1 hi, h.2.1.w k t v (by omega) hi, h.2.2.1.tr (FS.mu _ _ hi (by omega)), h.2.2.2.tr (RS.mu _ _ _ _ hi (by omega))⟩
theorem SB.log {σ' μ' : Sg} (h : SB L cnt kc μ σ' μ') (a b c d : Int32) (wd : Int64) : ∃ μ'', f_X9_log a b c d μ' wd = some μ'' ∧ SB L cnt kc μ (wr L a b c d σ') μ'' := by
  obtain ⟨-, μ'', l1, l2, l3, l4, l5⟩ := wr_sim h.1 h.2.1 a b c d wd
  exact ⟨μ'', l1, l2, l3, h.2.2.1.tr l4, h.2.2.2.tr l5⟩
theorem ra_sim (E : Eq2 cnt kc σ μ) (G : LogR L σ μ) {t : Nat} (ht : t < cnt) (a : Int32) (wd : Int64) : ∃ μ', f_X9_letClimb (nI t) a μ wd = some μ' ∧ SB L cnt kc μ (ra L t a σ) μ' := by
  have h6 : t < 60 := E.lt ht
  have S4 := ((((SB.rf E G).w 20 t (σ 20 t + 1) (by decide) h6).w 21 t 0 (by decide) h6).w 22 t 0 (by decide) h6).w 23 t 0 (by decide) h6
  obtain ⟨μ', l1, l2⟩ := S4.log a 4 (nI t) (σ 20 t + 1) wd
  refine ⟨μ', ?_, l2⟩
  have e : up (up (up (up σ 20 t (σ 20 t + 1)) 21 t 0) 22 t 0) 23 t 0 20 t = σ 20 t + 1 := by
    rw [up_row (by decide), up_row (by decide), up_row (by decide), up_same]
  unfold f_X9_letClimb
  rw [tg_4 E ht, Option.bind_some, ms_4 h6, Option.bind_some, ms_9 h6, Option.bind_some, ms_5 h6, Option.bind_some, ms_6 h6, Option.bind_some, tg_4 S4.1 ht, Option.bind_some, e, l1, Option.bind_some]
theorem mk_sim (E : Eq2 cnt kc σ μ) (G : LogR L σ μ) {t : Nat} (ht : t < cnt) (a : Int32) (wd : Int64) : ∃ μ', f_X9_solveOne (nI t) a μ wd = some μ' ∧ SB L cnt kc μ (mk1 L t a σ) μ' := by
  have h6 : t < 60 := E.lt ht
  have S4 := ((SB.rf E G).w 21 t 3 (by decide) h6).w 29 t a (by decide) h6
  obtain ⟨μ', l1, l2⟩ := S4.log a 5 (nI t) 0 wd
  refine ⟨μ', ?_, l2⟩
  unfold f_X9_solveOne
  rw [ms_9 h6, Option.bind_some, ms_13 h6, Option.bind_some, l1, Option.bind_some]
theorem fin_sim (E : Eq2 cnt kc σ μ) (G : LogR L σ μ) {t : Nat} (ht : t < cnt) (a : Int32) (wd : Int64) {N : Nat} (hN : 100 < N) :
    ∃ μ', f_X9_makeSolved N (nI t) a μ wd = some (nI (1 + fb_ct (rtB σ t) cnt), μ') ∧ SB L cnt kc μ (fin L cnt t a σ) μ' := by
  have h60 := E.1
  obtain ⟨μ1, m1, m2⟩ := mk_sim (L := L) E G ht a wd
  have := sim_itr (α := Sg) (γ := Nat × Sg) (fun n x c => f_X9_makeSolved_11 N n (nI t) a (nI c.1) x c.2 wd) (fT L (nI t) a)
    (fun j τ c => c.1 = 1 + fb_ct (rtB σ t) j ∧ τ 26 = σ 26 ∧ SB L cnt kc μ τ c.2) (fun c => some (nI c.1, c.2)) cnt
    (fun n j τ c hj R => by
      obtain ⟨R1, R2, R3⟩ := R
      have e26 : τ 26 j = σ 26 j := congrFun R2 j
      have hx := fT_ex L (nI t) a j τ 26 (by decide)
      have st : f_X9_makeSolved_11 N (n + 1) (nI t) a (nI c.1) (nI j) c.2 wd = if τ 26 j = nI t then (f_X9_solveOne (nI j) a c.2 wd).bind (fun p5 => f_X9_makeSolved_11 N n (nI t) a (nI c.1 + 1) (nI j + 1) p5 wd) else f_X9_makeSolved_11 N n (nI t) a (nI c.1) (nI j + 1) c.2 wd := by
        rw [f_X9_makeSolved_11, R3.1.mc, if_neg (nI_ge hj (by omega)), tg_10 R3.1 hj, Option.bind_some]
      by_cases e : τ 26 j = nI t
      · obtain ⟨μ2, k1, k2⟩ := mk_sim (L := L) R3.1 R3.2.1 hj a wd
        refine ⟨(c.1 + 1, μ2), ⟨?_, hx.trans R2, ?_⟩, ?_⟩
        · rw [fb_ct_succ]
          unfold rtB
          rw [decide_eq_true (by rw [← e26]; exact e)]
          show c.1 + 1 = _
          unfold rtB at R1
          simp only [if_true]
          omega
        · unfold fT
          rw [if_pos e]
          exact R3.tr k2
        · refine st.trans ?_
          rw [if_pos e, k1, Option.bind_some, nI_1, nI_1]
      · refine ⟨c, ⟨?_, hx.trans R2, ?_⟩, ?_⟩
        · rw [fb_ct_succ]
          unfold rtB
          rw [decide_eq_false (by rw [← e26]; exact e)]
          unfold rtB at R1
          simp only [Bool.false_eq_true, if_false]
          omega
        · unfold fT
          rw [if_neg e]
          exact R3
        · refine st.trans ?_
          rw [if_neg e, nI_1])
    (fun n τ c R => by
      show f_X9_makeSolved_11 N (n + 1) (nI t) a (nI c.1) (nI cnt) c.2 wd = _
      rw [f_X9_makeSolved_11, R.2.2.1.mc, if_pos (nI_le (Nat.le_refl _) (by omega))])
    (mk1 L t a σ) (1, μ1) ⟨rfl, mk1_ex L t a σ 26 (by decide), m2⟩ N (by omega)
  obtain ⟨c, ⟨c1, -, c3⟩, c4⟩ := this
  refine ⟨c.2, ?_, c3⟩
  unfold f_X9_makeSolved
  rw [m1, Option.bind_some]
  refine Eq.trans c4 ?_
  rw [c1]
/-! the breach flags -/
theorem Eq2.fl (E : Eq2 cnt kc σ μ) {k t : Nat} (hk : k = 38 ∨ k = 39) (ht : t < 60) (v : Int32) : Eq2 cnt kc σ (mu μ k t v) :=
  ⟨E.1, E.2.1, E.2.2.1, E.2.2.2.1, fun a b h => by
    have hi : t < pv_nb k := by rcases hk with rfl | rfl <;> exact ht
    have ha : a ≠ k := by
      rintro rfl
      have e : rb cnt kc a = 0 := by rcases hk with rfl | rfl <;> rfl
      rw [e] at h
      exact Nat.not_lt_zero _ h
    rw [pV_mu hi, up_row ha]
    exact E.e a b h⟩
theorem LogR.fl (G : LogR L σ μ) {k t : Nat} (hk : k = 38 ∨ k = 39) (ht : t < 60) (v : Int32) : LogR L σ (mu μ k t v) := by
  have hi : t < pv_nb k := by rcases hk with rfl | rfl <;> exact ht
  obtain ⟨ln, h1, h2, h3⟩ := G
  refine ⟨ln, h1, ?_, ?_⟩
  · rw [pV_mu hi, up_row (by omega)]
    exact h2
  · rcases h3 with h | ⟨h, h5, h6⟩
    · exact Or.inl h
    · refine Or.inr ⟨h, h5, fun a b g1 g2 g3 => ?_⟩
      rw [pV_mu hi, up_row (by omega)]
      exact h6 a b g1 g2 g3
/-- a ticket's flags say whether its clocks are above their targets -/
def FL (σ μ : Sg) (t : Nat) : Prop := pV μ 38 t = (if σ 1 (ix (σ 16 t)) < σ 24 t then 1 else 0) ∧ pV μ 39 t = (if σ 2 (ix (σ 16 t)) < σ 25 t then 1 else 0)
/-- the response clock's minute -/
theorem gR_sim (E : Eq2 cnt kc σ μ) (G : LogR L σ μ) {t : Nat} (ht : t < cnt) (hk : KT kc σ t) (wd : Int64) (hf : pV μ 38 t = (if σ 1 (ix (σ 16 t)) < σ 24 t then 1 else 0)) (hb : 0 ≤ (σ 24 t).toInt ∧ (σ 24 t).toInt ≤ 100000) (hr : rrP σ t) :
    ∃ μ1 μ', f_X9_grow (nI t) 7 μ wd = some μ1 ∧ f_X9_noteBreach (nI t) 7 14 0 8 μ1 wd = some μ' ∧ Eq2 cnt kc (gR L 1 t σ) μ' ∧ LogR L (gR L 1 t σ) μ' ∧ pV μ' 38 t = (if σ 1 (ix (σ 16 t)) < σ 24 t + 1 then 1 else 0) ∧
      (∀ j, j ≠ t → pV μ' 38 j = pV μ 38 j) ∧ pV μ' 39 = pV μ 39 ∧ RS μ μ' := by
  have h6 : t < 60 := E.lt ht
  have S1 := (SB.rf E G).w 24 t (σ 24 t + 1) (by decide) h6
  have e24 : up σ 24 t (σ 24 t + 1) 24 t = σ 24 t + 1 := up_same _ _ _ _
  have e16 : up σ 24 t (σ 24 t + 1) 16 t = σ 16 t := congrFun (up_row (by decide)) t
  have e1 : up σ 24 t (σ 24 t + 1) 1 = σ 1 := up_row (by decide)
  have hk1 : KT kc (up σ 24 t (σ 24 t + 1)) t := by unfold KT; rw [e16]; exact hk
  have kd : ∀ wd, f_X9_ofKind (nI t) 0 (mu μ 24 t (σ 24 t + 1)) wd = some (σ 1 (ix (σ 16 t))) := fun wd => by rw [kd_0 S1.1 ht hk1, e16, e1]
  have z1 : (σ 24 t + 1).toInt = (σ 24 t).toInt + 1 := by rw [z_add (by omega) (by omega) (by decide) (by decide)]; rfl
  have hg : f_X9_grow (nI t) 7 μ wd = some (mu μ 24 t (σ 24 t + 1)) := by
    unfold f_X9_grow
    rw [tg_7 E ht, Option.bind_some, ms_7 h6, Option.bind_some]
  have f38 : pV (mu μ 24 t (σ 24 t + 1)) 38 t = (if σ 1 (ix (σ 16 t)) < σ 24 t then 1 else 0) := by rw [← hf]; exact congrFun S1.2.2.1.1 t
  unfold gR
  rw [if_pos hr]
  by_cases a : σ 1 (ix (σ 16 t)) < σ 24 t
  · refine ⟨_, mu μ 24 t (σ 24 t + 1), hg, ?_, ?_⟩
    · unfold f_X9_noteBreach
      rw [mg_14 h6, Option.bind_some, f38, if_pos a, if_neg (by decide)]
    · rw [if_neg (fun q => Int32.not_lt.mpr q.1 a), if_pos (by rw [z_lt, z1]; have := z_lt.mp a; omega)]
      exact ⟨S1.1, S1.2.1, by rw [f38, if_pos a], fun j _ => congrFun S1.2.2.1.1 j, S1.2.2.1.2, S1.2.2.2⟩
  · by_cases b : σ 24 t + 1 ≤ σ 1 (ix (σ 16 t))
    · refine ⟨_, mu μ 24 t (σ 24 t + 1), hg, ?_, ?_⟩
      · unfold f_X9_noteBreach
        rw [mg_14 h6, Option.bind_some, f38, if_neg a, if_pos rfl, tg_7 S1.1 ht, Option.bind_some, kd, Option.bind_some, e24, if_pos b]
      · rw [if_neg (fun q => Int32.not_lt.mpr b q.2), if_neg (Int32.not_lt.mpr b)]
        exact ⟨S1.1, S1.2.1, by rw [f38, if_neg a], fun j _ => congrFun S1.2.2.1.1 j, S1.2.2.1.2, S1.2.2.2⟩
    · have E2 : Eq2 cnt kc (up σ 24 t (σ 24 t + 1)) (mu (mu μ 24 t (σ 24 t + 1)) 38 t 1) := S1.1.fl (Or.inl rfl) h6 1
      have G2 : LogR L (up σ 24 t (σ 24 t + 1)) (mu (mu μ 24 t (σ 24 t + 1)) 38 t 1) := S1.2.1.fl (Or.inl rfl) h6 1
      have et : (mu (mu μ 24 t (σ 24 t + 1)) 38 t 1) 1 (ix 0) = σ 12 0 := by rw [E2.mt, up_row (by decide)]
      have kd2 : f_X9_ofKind (nI t) 0 (mu (mu μ 24 t (σ 24 t + 1)) 38 t 1) wd = some (σ 1 (ix (σ 16 t))) := by rw [kd_0 E2 ht hk1, e16, e1]
      have v38 : pV (mu (mu μ 24 t (σ 24 t + 1)) 38 t 1) = up (pV (mu μ 24 t (σ 24 t + 1))) 38 t 1 := pV_mu (k := 38) h6
      obtain ⟨-, μ3, l1, l2, l3, l4, l5⟩ := wr_sim E2 G2 (σ 12 0 + 1) 8 (nI t) (σ 1 (ix (σ 16 t))) wd
      refine ⟨_, μ3, hg, ?_, ?_⟩
      · unfold f_X9_noteBreach
        rw [mg_14 h6, Option.bind_some, f38, if_neg a, if_pos rfl, tg_7 S1.1 ht, Option.bind_some, kd, Option.bind_some, e24, if_neg b, ms_14 h6, Option.bind_some, kd2, Option.bind_some, et, l1, Option.bind_some]
      · rw [if_pos ⟨Int32.not_lt.mp a, Int32.not_le.mp b⟩, if_pos (Int32.not_le.mp b)]
        refine ⟨l2, l3, ?_, fun j hj => ?_, ?_, (S1.2.2.2.tr (RS.mu _ _ _ _ h6 (by omega))).tr l5⟩
        · rw [l4.1, v38, up_same]
        · rw [l4.1, v38, up_other (fun q => hj q.2)]
          exact congrFun S1.2.2.1.1 j
        · rw [l4.2, v38, up_row (by decide)]
          exact S1.2.2.1.2
/-- the resolve clock's minute -/
theorem gV_sim (E : Eq2 cnt kc σ μ) (G : LogR L σ μ) {t : Nat} (ht : t < cnt) (hk : KT kc σ t) (wd : Int64) (hf : pV μ 39 t = (if σ 2 (ix (σ 16 t)) < σ 25 t then 1 else 0)) (hb : 0 ≤ (σ 25 t).toInt ∧ (σ 25 t).toInt ≤ 100000) (hr : rvP σ t) :
    ∃ μ1 μ', f_X9_grow (nI t) 8 μ wd = some μ1 ∧ f_X9_noteBreach (nI t) 8 15 1 9 μ1 wd = some μ' ∧ Eq2 cnt kc (gV L 1 t σ) μ' ∧ LogR L (gV L 1 t σ) μ' ∧ pV μ' 39 t = (if σ 2 (ix (σ 16 t)) < σ 25 t + 1 then 1 else 0) ∧
      (∀ j, j ≠ t → pV μ' 39 j = pV μ 39 j) ∧ pV μ' 38 = pV μ 38 ∧ RS μ μ' := by
  have h6 : t < 60 := E.lt ht
  have S1 := (SB.rf E G).w 25 t (σ 25 t + 1) (by decide) h6
  have e25 : up σ 25 t (σ 25 t + 1) 25 t = σ 25 t + 1 := up_same _ _ _ _
  have e16 : up σ 25 t (σ 25 t + 1) 16 t = σ 16 t := congrFun (up_row (by decide)) t
  have e2 : up σ 25 t (σ 25 t + 1) 2 = σ 2 := up_row (by decide)
  have hk1 : KT kc (up σ 25 t (σ 25 t + 1)) t := by unfold KT; rw [e16]; exact hk
  have kd : ∀ wd, f_X9_ofKind (nI t) 1 (mu μ 25 t (σ 25 t + 1)) wd = some (σ 2 (ix (σ 16 t))) := fun wd => by rw [kd_1 S1.1 ht hk1, e16, e2]
  have z1 : (σ 25 t + 1).toInt = (σ 25 t).toInt + 1 := by rw [z_add (by omega) (by omega) (by decide) (by decide)]; rfl
  have hg : f_X9_grow (nI t) 8 μ wd = some (mu μ 25 t (σ 25 t + 1)) := by
    unfold f_X9_grow
    rw [tg_8 E ht, Option.bind_some, ms_8 h6, Option.bind_some]
  have f39 : pV (mu μ 25 t (σ 25 t + 1)) 39 t = (if σ 2 (ix (σ 16 t)) < σ 25 t then 1 else 0) := by rw [← hf]; exact congrFun S1.2.2.1.2 t
  unfold gV
  rw [if_pos hr]
  by_cases a : σ 2 (ix (σ 16 t)) < σ 25 t
  · refine ⟨_, mu μ 25 t (σ 25 t + 1), hg, ?_, ?_⟩
    · unfold f_X9_noteBreach
      rw [mg_15 h6, Option.bind_some, f39, if_pos a, if_neg (by decide)]
    · rw [if_neg (fun q => Int32.not_lt.mpr q.1 a), if_pos (by rw [z_lt, z1]; have := z_lt.mp a; omega)]
      exact ⟨S1.1, S1.2.1, by rw [f39, if_pos a], fun j _ => congrFun S1.2.2.1.2 j, S1.2.2.1.1, S1.2.2.2⟩
  · by_cases b : σ 25 t + 1 ≤ σ 2 (ix (σ 16 t))
    · refine ⟨_, mu μ 25 t (σ 25 t + 1), hg, ?_, ?_⟩
      · unfold f_X9_noteBreach
        rw [mg_15 h6, Option.bind_some, f39, if_neg a, if_pos rfl, tg_8 S1.1 ht, Option.bind_some, kd, Option.bind_some, e25, if_pos b]
      · rw [if_neg (fun q => Int32.not_lt.mpr b q.2), if_neg (Int32.not_lt.mpr b)]
        exact ⟨S1.1, S1.2.1, by rw [f39, if_neg a], fun j _ => congrFun S1.2.2.1.2 j, S1.2.2.1.1, S1.2.2.2⟩
    · have E2 : Eq2 cnt kc (up σ 25 t (σ 25 t + 1)) (mu (mu μ 25 t (σ 25 t + 1)) 39 t 1) := S1.1.fl (Or.inr rfl) h6 1
      have G2 : LogR L (up σ 25 t (σ 25 t + 1)) (mu (mu μ 25 t (σ 25 t + 1)) 39 t 1) := S1.2.1.fl (Or.inr rfl) h6 1
      have et : (mu (mu μ 25 t (σ 25 t + 1)) 39 t 1) 1 (ix 0) = σ 12 0 := by rw [E2.mt, up_row (by decide)]
      have kd2 : f_X9_ofKind (nI t) 1 (mu (mu μ 25 t (σ 25 t + 1)) 39 t 1) wd = some (σ 2 (ix (σ 16 t))) := by rw [kd_1 E2 ht hk1, e16, e2]
      have v39 : pV (mu (mu μ 25 t (σ 25 t + 1)) 39 t 1) = up (pV (mu μ 25 t (σ 25 t + 1))) 39 t 1 := pV_mu (k := 39) h6
      obtain ⟨-, μ3, l1, l2, l3, l4, l5⟩ := wr_sim E2 G2 (σ 12 0 + 1) 9 (nI t) (σ 2 (ix (σ 16 t))) wd
      refine ⟨_, μ3, hg, ?_, ?_⟩
      · unfold f_X9_noteBreach
        rw [mg_15 h6, Option.bind_some, f39, if_neg a, if_pos rfl, tg_8 S1.1 ht, Option.bind_some, kd, Option.bind_some, e25, if_neg b, ms_15 h6, Option.bind_some, kd2, Option.bind_some, et, l1, Option.bind_some]
      · rw [if_pos ⟨Int32.not_lt.mp a, Int32.not_le.mp b⟩, if_pos (Int32.not_le.mp b)]
        refine ⟨l2, l3, ?_, fun j hj => ?_, ?_, (S1.2.2.2.tr (RS.mu _ _ _ _ h6 (by omega))).tr l5⟩
        · rw [l4.2, v39, up_same]
        · rw [l4.2, v39, up_other (fun q => hj q.2)]
          exact congrFun S1.2.2.1.2 j
        · rw [l4.1, v39, up_row (by decide)]
          exact S1.2.2.1.1
end Ff
