section Ga
variable {L cnt kc : Nat} {σ μ : Sg}
theorem nI_of0 {x : Int32} {n : Nat} (h0 : 0 ≤ x) (h : x ≤ nI n) (hn : n < 10000) : ∃ j : Nat, j ≤ n ∧ x = nI j := by
  have h1 := z_le.mp h0
  have h2 := z_le.mp h
  rw [z_nI (by omega)] at h2
  rw [z_0] at h1
  exact ⟨x.toInt.toNat, by omega, z_eq.mpr (by rw [z_nI (by omega)]; omega)⟩
/-- the same error on both sides, or none and what it tells -/
def ER (x y : Option Int32) (P : Prop) : Prop := (∃ e, e ≠ 0 ∧ x = some e ∧ y = some e) ∨ (x = some 0 ∧ y = some 0 ∧ P)
theorem er_day (a b x d : Int32) (σ μ : Sg) (wd : Int64) : ER (f_X1_errorOf 0 a b x d σ) (f_X9_errorOf 0 a b x d μ wd) ((∃ j, j < 7 ∧ a = nI j) ∧ (0 ≤ b.toInt ∧ b.toInt ≤ 1440) ∧ (0 ≤ x.toInt ∧ x.toInt ≤ 1440)) := by
  have e1 : f_X1_errorOf 0 a b x d σ = f_X1_dayError a b x σ := by
    unfold f_X1_errorOf
    rw [if_pos rfl]
    cases f_X1_dayError a b x σ <;> rfl
  have e2 : f_X9_errorOf 0 a b x d μ wd = (f_X9_isDay a).bind (fun p7 => (if p7 = 0 then some (-4) else (f_X9_areHours b x).bind (fun p10 => (if p10 = 0 then some (-4) else some 0)))) := by
    unfold f_X9_errorOf
    rw [if_pos rfl]
  rw [e1, e2]
  have fact : 0 ≤ a ∧ a ≤ 6 → ∃ j, j < 7 ∧ a = nI j := fun h => by
    obtain ⟨j, h1, h2⟩ := nI_of0 h.1 (n := 6) h.2 (by decide)
    exact ⟨j, by omega, h2⟩
  have op : (0 ≤ b ∧ b ≤ 1439) → (b + 1 ≤ x ∧ x ≤ 1440) → (0 ≤ b.toInt ∧ b.toInt ≤ 1440) ∧ (0 ≤ x.toInt ∧ x.toInt ≤ 1440) := fun h1 h2 => by
    have q1 := z_le.mp h1.1
    have q2 := z_le.mp h1.2
    have q3 := z_le.mp h2.1
    have q4 := z_le.mp h2.2
    rw [z_0] at q1
    rw [show (1439 : Int32).toInt = 1439 from by decide] at q2
    rw [show (1440 : Int32).toInt = 1440 from by decide] at q4
    rw [z_add (by omega) (by omega) (by decide) (by decide), z_1] at q3
    exact ⟨by omega, by omega⟩
  have s43 : ∀ y, f_X1_dayError_43 a y σ = (f_X8_within a 0 6).bind (fun p1 => (if p1 = 0 then some (-4) else (if y = 0 then some (-4) else some 0))) := fun y => rfl
  unfold f_X1_dayError f_X1_dayError_12 f_X9_isDay f_X9_areHours f_X9_areHours_12
  simp only [wi_eq, s43]
  by_cases hb : b = 0
  · by_cases hx : x = 0
    · subst hb hx
      have w1 : f_X8_within 0 0 1439 = some 1 := by decide
      have w2 : f_X8_within 0 1 1440 = some 0 := by decide
      rcases wi a 0 6 with w3 | w3
      · exact Or.inr ⟨by simp [w1, w2, w3.1], by simp [w3.1, bz], fact w3.2, by decide, by decide⟩
      · exact Or.inl ⟨-4, by decide, by simp [w1, w2, w3.1], by simp [w3.1, bz]⟩
    · rw [if_pos hb, if_neg hx, if_pos hb, if_neg hx]
      rcases wi a 0 6 with w3 | w3 <;> rcases wi b 0 1439 with w1 | w1 <;> rcases wi x (b + 1) 1440 with w2 | w2
      · exact Or.inr ⟨by simp [w1.1, w2.1, w3.1], by simp [w1.1, w2.1, w3.1, bz], fact w3.2, op w1.2 w2.2⟩
      all_goals exact Or.inl ⟨-4, by decide, by simp [w1.1, w2.1, w3.1], by simp [w1.1, w2.1, w3.1, bz]⟩
  · rw [if_neg hb, if_neg hb]
    rcases wi a 0 6 with w3 | w3 <;> rcases wi b 0 1439 with w1 | w1 <;> rcases wi x (b + 1) 1440 with w2 | w2
    · exact Or.inr ⟨by simp [w1.1, w2.1, w3.1], by simp [w1.1, w2.1, w3.1, bz], fact w3.2, op w1.2 w2.2⟩
    all_goals exact Or.inl ⟨-4, by decide, by simp [w1.1, w2.1, w3.1], by simp [w1.1, w2.1, w3.1, bz]⟩
theorem er_agents (a b x d : Int32) (σ μ : Sg) (wd : Int64) : ER (f_X1_errorOf 2 a b x d σ) (f_X9_errorOf 1 a b x d μ wd) ((∃ j, j < 4 ∧ a = nI j) ∧ (0 ≤ b.toInt ∧ b.toInt ≤ 9)) := by
  unfold f_X1_errorOf f_X9_errorOf f_X9_isLevel
  rw [if_neg (by decide), if_pos rfl, if_neg (by decide), if_pos rfl]
  simp only [wi_eq]
  rcases wi a 0 3 with w3 | w3 <;> rcases wi b 0 9 with w1 | w1
  · refine Or.inr ⟨by simp [w1.1, w3.1], by simp [w1.1, w3.1, bz], ?_, ?_⟩
    · obtain ⟨j, h1, h2⟩ := nI_of0 w3.2.1 (n := 3) w3.2.2 (by decide)
      exact ⟨j, by omega, h2⟩
    · have q1 := z_le.mp w1.2.1
      have q2 := z_le.mp w1.2.2
      rw [z_0] at q1
      rw [show (9 : Int32).toInt = 9 from by decide] at q2
      exact ⟨q1, q2⟩
  all_goals exact Or.inl ⟨-4, by decide, by simp [w1.1, w3.1], by simp [w1.1, w3.1, bz]⟩
theorem er_report (E : Eq2 cnt kc σ μ) (a b x d : Int32) (wd : Int64) : ER (f_X1_errorOf 3 a b x d σ) (f_X9_errorOf 2 a b x d μ wd) ((∃ j, j < kc ∧ a = nI j) ∧ cnt < 60) := by
  have h60 := E.1
  have e1 : f_X1_errorOf 3 a b x d σ = f_X1_reportError a b x d σ := by
    unfold f_X1_errorOf
    rw [if_neg (by decide), if_neg (by decide), if_pos rfl]
    cases f_X1_reportError a b x d σ <;> rfl
  have e2 : f_X9_errorOf 2 a b x d μ wd = f_X9_reportError a b x d μ wd := by
    unfold f_X9_errorOf
    rw [if_neg (by decide), if_neg (by decide), if_pos rfl]
    cases f_X9_reportError a b x d μ wd <;> rfl
  rw [e1, e2]
  unfold f_X1_reportError f_X9_reportError f_X7_isFull
  simp only [wi_eq]
  rcases kix E a wd with ⟨k, k1, k2, k3, k4⟩ | ⟨k3, k4⟩
  · rw [k3, k4, Option.bind_some, Option.bind_some, if_neg (c := (1 : Int32) = 0) (by decide), if_neg (c := (1 : Int32) = 0) (by decide), E.mc, E.c]
    rcases wi b 0 99 with w1 | w1 <;> rcases wi x 0 999 with w2 | w2 <;> rcases wi d 0 3 with w3 | w3
    · by_cases hc : cnt < 60
      · refine Or.inr ⟨?_, ?_, ⟨k, k1, k2⟩, hc⟩
        · rw [w1.1, w2.1, w3.1]
          simp only [Option.bind_some]
          rw [if_neg (by decide), if_neg (by decide), if_neg (by decide), if_pos (show nI cnt < 60 from nI_lt (b := 60) hc (by omega)), Option.bind_some, if_pos rfl]
        · rw [w1.1, w2.1, w3.1]
          simp only [Option.bind_some]
          rw [if_neg (by decide), if_neg (by decide), if_neg (by decide), if_neg (fun q => by
            have := (nI_eq (a := cnt) (b := 60) (by omega) (by omega)).mp q
            omega)]
      · have hc' : cnt = 60 := by omega
        subst hc'
        refine Or.inl ⟨-6, by decide, ?_, ?_⟩
        · rw [w1.1, w2.1, w3.1]
          rfl
        · rw [w1.1, w2.1, w3.1]
          rfl
    all_goals exact Or.inl ⟨-4, by decide, by simp [w1.1, w2.1, w3.1], by simp [w1.1, w2.1, w3.1]⟩
  · rw [k3, k4]
    exact Or.inl ⟨-3, by decide, rfl, rfl⟩
theorem er_join (E : Eq2 cnt kc σ μ) (I : RI cnt σ) (a b x d : Int32) (wd : Int64) : ER (f_X1_errorOf 9 a b x d σ) (f_X9_errorOf 8 a b x d μ wd) (∃ t r, t < cnt ∧ r < cnt ∧ t ≠ r ∧ a = nI t ∧ b = nI r ∧ (σ 21 t = 0 ∨ σ 21 t = 1 ∨ σ 21 t = 2) ∧ (σ 21 r = 0 ∨ σ 21 r = 1 ∨ σ 21 r = 2)) := by
  have h60 := E.1
  have e1 : f_X1_errorOf 9 a b x d σ = f_X1_joinError a b σ := by
    unfold f_X1_errorOf
    rw [if_neg (by decide), if_neg (by decide), if_neg (by decide), if_pos rfl]
    cases f_X1_joinError a b σ <;> rfl
  have e2 : f_X9_errorOf 8 a b x d μ wd = f_X9_joinError a b μ wd := by
    unfold f_X9_errorOf
    rw [if_neg (by decide), if_neg (by decide), if_neg (by decide), if_pos rfl]
    cases f_X9_joinError a b μ wd <;> rfl
  rw [e1, e2]
  unfold f_X1_joinError f_X9_joinError
  rcases tix E a wd with ⟨t, t1, rfl, t3, t4⟩ | ⟨t3, t4⟩
  · rw [t3, t4, Option.bind_some, Option.bind_some, if_neg (c := (1 : Int32) = 0) (by decide), if_neg (c := (1 : Int32) = 0) (by decide)]
    rcases tix E b wd with ⟨r, r1, rfl, r3, r4⟩ | ⟨r3, r4⟩
    · rw [r3, r4, Option.bind_some, Option.bind_some, if_neg (c := (1 : Int32) = 0) (by decide), if_neg (c := (1 : Int32) = 0) (by decide)]
      by_cases q : nI t = nI r
      · rw [if_pos q, if_pos q]
        exact Or.inl ⟨-5, by decide, rfl, rfl⟩
      · rw [if_neg q, if_neg q, sta_v (by omega) (I t t1).1, alive_v E t1 (I t t1).1, Option.bind_some, Option.bind_some]
        by_cases at1 : σ 21 t = 0 ∨ σ 21 t = 1 ∨ σ 21 t = 2
        · rw [if_pos at1, if_neg (c := (1 : Int32) = 0) (by decide), if_neg (c := (1 : Int32) = 0) (by decide), sta_v (by omega) (I r r1).1, alive_v E r1 (I r r1).1, Option.bind_some]
          by_cases ar : σ 21 r = 0 ∨ σ 21 r = 1 ∨ σ 21 r = 2
          · rw [if_pos ar]
            exact Or.inr ⟨rfl, rfl, t, r, t1, r1, fun z => q (by rw [z]), rfl, rfl, at1, ar⟩
          · rw [if_neg ar]
            exact Or.inl ⟨-5, by decide, rfl, rfl⟩
        · rw [if_neg at1]
          exact Or.inl ⟨-5, by decide, rfl, rfl⟩
    · rw [r3, r4]
      exact Or.inl ⟨-2, by decide, rfl, rfl⟩
  · rw [t3, t4]
    exact Or.inl ⟨-2, by decide, rfl, rfl⟩
theorem er_prio (E : Eq2 cnt kc σ μ) (a b x d : Int32) (wd : Int64) : ER (f_X1_errorOf 11 a b x d σ) (f_X9_errorOf 10 a b x d μ wd) (∃ t, t < cnt ∧ a = nI t) := by
  have h60 := E.1
  have e1 : f_X1_errorOf 11 a b x d σ = f_X1_priorityError a b σ := by
    unfold f_X1_errorOf
    rw [if_neg (by decide), if_neg (by decide), if_neg (by decide), if_neg (by decide), if_pos rfl]
    cases f_X1_priorityError a b σ <;> rfl
  have e2 : f_X9_errorOf 10 a b x d μ wd = f_X9_priorityError a b μ wd := by
    unfold f_X9_errorOf
    rw [if_neg (by decide), if_neg (by decide), if_neg (by decide), if_neg (by decide), if_pos rfl]
    cases f_X9_priorityError a b μ wd <;> rfl
  rw [e1, e2]
  unfold f_X1_priorityError f_X9_priorityError
  simp only [wi_eq]
  rcases tix E a wd with ⟨t, t1, rfl, t3, t4⟩ | ⟨t3, t4⟩
  · rw [t3, t4, Option.bind_some, Option.bind_some, if_neg (c := (1 : Int32) = 0) (by decide), if_neg (c := (1 : Int32) = 0) (by decide)]
    rcases wi b 0 3 with w1 | w1
    · rw [w1.1, Option.bind_some, Option.bind_some, if_neg (c := (1 : Int32) = 0) (by decide), if_neg (c := (1 : Int32) = 0) (by decide), if_pos (ib_nI (by omega) (by decide)), ix_nI (by omega), is_v E t1, Option.bind_some]
      by_cases q : σ 21 t = 3
      · rw [if_pos q, if_pos q]
        exact Or.inl ⟨-5, by decide, rfl, rfl⟩
      · rw [if_neg q, if_neg q]
        exact Or.inr ⟨rfl, rfl, t, t1, rfl⟩
    · rw [w1.1]
      exact Or.inl ⟨-4, by decide, rfl, rfl⟩
  · rw [t3, t4]
    exact Or.inl ⟨-2, by decide, rfl, rfl⟩
/-- what a change of one ticket asks -/
def AL (c : Int32) (σ : Sg) (t : Nat) : Prop := (c = 4 ∧ (σ 21 t = 0 ∨ σ 21 t = 1)) ∨ (c = 5 ∧ σ 21 t = 2) ∨ (c = 6 ∧ (σ 21 t = 0 ∨ σ 21 t = 1) ∧ ¬ 3 ≤ σ 20 t) ∨ (c = 7 ∧ (σ 21 t = 0 ∨ σ 21 t = 1 ∨ σ 21 t = 2)) ∨ (c = 8 ∧ σ 21 t = 3 ∧ σ 26 t = -1) ∨ (c = 10 ∧ σ 21 t = 4)
theorem er_tick (E : Eq2 cnt kc σ μ) (I : RI cnt σ) {c m : Int32} (hc : (c = 4 ∧ m = 3) ∨ (c = 5 ∧ m = 4) ∨ (c = 6 ∧ m = 5) ∨ (c = 7 ∧ m = 6) ∨ (c = 8 ∧ m = 7) ∨ (c = 10 ∧ m = 9)) (a b x d : Int32) (wd : Int64) : ER (f_X1_errorOf c a b x d σ) (f_X9_errorOf m a b x d μ wd) (∃ t, t < cnt ∧ a = nI t ∧ AL c σ t) := by
  have h60 := E.1
  have n0 : c ≠ 0 ∧ c ≠ 2 ∧ c ≠ 3 ∧ c ≠ 9 ∧ c ≠ 11 ∧ m ≠ 0 ∧ m ≠ 1 ∧ m ≠ 2 ∧ m ≠ 8 ∧ m ≠ 10 := by
    rcases hc with ⟨rfl, rfl⟩ | ⟨rfl, rfl⟩ | ⟨rfl, rfl⟩ | ⟨rfl, rfl⟩ | ⟨rfl, rfl⟩ | ⟨rfl, rfl⟩ <;> decide
  have e1 : f_X1_errorOf c a b x d σ = f_X1_ticketError c a σ := by
    unfold f_X1_errorOf
    rw [if_neg n0.1, if_neg n0.2.1, if_neg n0.2.2.1, if_neg n0.2.2.2.1, if_neg n0.2.2.2.2.1]
    cases f_X1_ticketError c a σ <;> rfl
  unfold f_X9_errorOf
  rw [e1, if_neg n0.2.2.2.2.2.1, if_neg n0.2.2.2.2.2.2.1, if_neg n0.2.2.2.2.2.2.2.1, if_neg n0.2.2.2.2.2.2.2.2.1, if_neg n0.2.2.2.2.2.2.2.2.2]
  unfold f_X1_ticketError
  rcases tix E a wd with ⟨t, t1, rfl, t3, t4⟩ | ⟨t3, t4⟩
  · rw [t3, t4, Option.bind_some, Option.bind_some, if_neg (c := (1 : Int32) = 0) (by decide), if_neg (c := (1 : Int32) = 0) (by decide)]
    have hib : ib (nI t) 60 := ib_nI (by omega) (by decide)
    have hix : ix (nI t) = t := ix_nI (by omega)
    have key : ∃ b : Bool, f_X1_allows c (nI t) σ = some (if b then 1 else 0) ∧ f_X9_mayChange m (nI t) μ wd = some (if b then 1 else 0) ∧ (b = true → AL c σ t) := by
      rcases hc with ⟨rfl, rfl⟩ | ⟨rfl, rfl⟩ | ⟨rfl, rfl⟩ | ⟨rfl, rfl⟩ | ⟨rfl, rfl⟩ | ⟨rfl, rfl⟩
      · have e1 : f_X1_allows 4 (nI t) σ = some (if σ 21 t = 0 ∨ σ 21 t = 1 then 1 else 0) := by
          unfold f_X1_allows
          rw [if_pos rfl, act_v (by omega), Option.bind_some]
          split
          · rw [if_pos bz1]
          · rw [if_pos bz0]
        have e2 : f_X9_mayChange 3 (nI t) μ wd = some (if σ 21 t = 0 ∨ σ 21 t = 1 then 1 else 0) := by
          unfold f_X9_mayChange
          rw [if_pos rfl, is_v E t1, Option.bind_some]
          by_cases h0 : σ 21 t = 0
          · rw [if_pos h0, if_neg (by decide), if_pos (Or.inl h0)]
          · rw [if_neg h0, if_pos rfl, is_v E t1, Option.bind_some]
            by_cases h1 : σ 21 t = 1
            · rw [if_pos h1, if_neg (by decide), if_pos (Or.inr h1)]
            · rw [if_neg h1, if_pos rfl, if_neg (fun z => z.elim h0 h1)]
        refine ⟨decide (σ 21 t = 0 ∨ σ 21 t = 1), by rw [e1]; simp, by rw [e2]; simp, fun q => Or.inl ⟨rfl, of_decide_eq_true q⟩⟩
      · have e1 : f_X1_allows 5 (nI t) σ = some (if σ 21 t = 2 then 1 else 0) := by
          unfold f_X1_allows
          rw [if_neg (by decide), if_pos rfl, if_pos hib, hix]
          split <;> rfl
        have e2 : f_X9_mayChange 4 (nI t) μ wd = some (if σ 21 t = 2 then 1 else 0) := by
          unfold f_X9_mayChange
          rw [if_neg (by decide), if_pos rfl, is_v E t1, Option.bind_some]
          split
          · rw [if_pos bz1]
          · rw [if_pos bz0]
        refine ⟨decide (σ 21 t = 2), by rw [e1]; simp, by rw [e2]; simp, fun q => Or.inr (Or.inl ⟨rfl, of_decide_eq_true q⟩)⟩
      · have e1 : f_X1_allows 6 (nI t) σ = some (if (σ 21 t = 0 ∨ σ 21 t = 1) ∧ ¬ 3 ≤ σ 20 t then 1 else 0) := by
          unfold f_X1_allows
          rw [if_neg (by decide), if_neg (by decide), if_pos rfl, act_v (by omega), Option.bind_some]
          by_cases h0 : σ 21 t = 0 ∨ σ 21 t = 1
          · rw [if_pos h0, if_neg (by decide), if_pos hib, hix]
            by_cases h3 : 3 ≤ σ 20 t
            · rw [if_pos h3, if_neg (fun z => z.2 h3)]
            · rw [if_neg h3, if_pos ⟨h0, h3⟩]
          · rw [if_neg h0, if_pos rfl, if_neg (fun z => h0 z.1)]
        have e2 : f_X9_mayChange 5 (nI t) μ wd = some (if (σ 21 t = 0 ∨ σ 21 t = 1) ∧ ¬ 3 ≤ σ 20 t then 1 else 0) := by
          unfold f_X9_mayChange
          rw [if_neg (by decide), if_neg (by decide), if_pos rfl, is_v E t1, Option.bind_some]
          by_cases h0 : σ 21 t = 0
          · rw [if_pos h0, if_neg (by decide), tg_4 E t1, Option.bind_some]
            by_cases h3 : 3 ≤ σ 20 t
            · rw [if_pos h3, if_neg (fun z => z.2 h3)]
            · rw [if_neg h3, if_pos ⟨Or.inl h0, h3⟩]
          · rw [if_neg h0, if_pos rfl, is_v E t1, Option.bind_some]
            by_cases h1 : σ 21 t = 1
            · rw [if_pos h1, if_neg (by decide), tg_4 E t1, Option.bind_some]
              by_cases h3 : 3 ≤ σ 20 t
              · rw [if_pos h3, if_neg (fun z => z.2 h3)]
              · rw [if_neg h3, if_pos ⟨Or.inr h1, h3⟩]
            · rw [if_neg h1, if_pos rfl, if_neg (fun z => z.1.elim h0 h1)]
        refine ⟨decide ((σ 21 t = 0 ∨ σ 21 t = 1) ∧ ¬ 3 ≤ σ 20 t), by rw [e1]; simp, by rw [e2]; simp, fun q => Or.inr (Or.inr (Or.inl ⟨rfl, of_decide_eq_true q⟩))⟩
      · have e1 : f_X1_allows 7 (nI t) σ = some (if σ 21 t = 0 ∨ σ 21 t = 1 ∨ σ 21 t = 2 then 1 else 0) := by
          unfold f_X1_allows
          rw [if_neg (by decide), if_neg (by decide), if_neg (by decide), if_pos rfl, sta_v (by omega) (I t t1).1, Option.bind_some]
          split
          · rw [if_pos bz1]
          · rw [if_pos bz0]
        have e2 : f_X9_mayChange 6 (nI t) μ wd = some (if σ 21 t = 0 ∨ σ 21 t = 1 ∨ σ 21 t = 2 then 1 else 0) := by
          unfold f_X9_mayChange
          rw [if_neg (by decide), if_neg (by decide), if_neg (by decide), if_pos rfl, alive_v E t1 (I t t1).1, Option.bind_some]
          split
          · rw [if_pos bz1]
          · rw [if_pos bz0]
        refine ⟨decide (σ 21 t = 0 ∨ σ 21 t = 1 ∨ σ 21 t = 2), by rw [e1]; simp, by rw [e2]; simp, fun q => Or.inr (Or.inr (Or.inr (Or.inl ⟨rfl, of_decide_eq_true q⟩)))⟩
      · have e1 : f_X1_allows 8 (nI t) σ = some (if σ 21 t = 3 ∧ σ 26 t = -1 then 1 else 0) := by
          unfold f_X1_allows
          rw [if_neg (by decide), if_neg (by decide), if_neg (by decide), if_neg (by decide), if_pos rfl, if_pos hib, hix]
          by_cases h0 : σ 21 t = 3
          · rw [if_pos h0]
            by_cases h1 : σ 26 t = -1
            · rw [if_pos h1, if_pos ⟨h0, h1⟩]
            · rw [if_neg h1, if_neg (fun z => h1 z.2)]
          · rw [if_neg h0, if_neg (fun z => h0 z.1)]
        have e2 : f_X9_mayChange 7 (nI t) μ wd = some (if σ 21 t = 3 ∧ σ 26 t = -1 then 1 else 0) := by
          unfold f_X9_mayChange
          rw [if_neg (by decide), if_neg (by decide), if_neg (by decide), if_neg (by decide), if_pos rfl, is_v E t1, Option.bind_some]
          by_cases h0 : σ 21 t = 3
          · rw [if_pos h0, if_neg (by decide), tg_10 E t1, Option.bind_some]
            by_cases h1 : σ 26 t = -1
            · rw [if_pos h1, if_pos ⟨h0, h1⟩]
            · rw [if_neg h1, if_neg (fun z => h1 z.2)]
          · rw [if_neg h0, if_pos rfl, if_neg (fun z => h0 z.1)]
        refine ⟨decide (σ 21 t = 3 ∧ σ 26 t = -1), by rw [e1]; simp, by rw [e2]; simp, fun q => Or.inr (Or.inr (Or.inr (Or.inr (Or.inl ⟨rfl, of_decide_eq_true q⟩))))⟩
      · have e1 : f_X1_allows 10 (nI t) σ = some (if σ 21 t = 4 then 1 else 0) := by
          unfold f_X1_allows
          rw [if_neg (by decide), if_neg (by decide), if_neg (by decide), if_neg (by decide), if_neg (by decide), if_pos rfl, if_pos hib, hix]
          split <;> rfl
        have e2 : f_X9_mayChange 9 (nI t) μ wd = some (if σ 21 t = 4 then 1 else 0) := by
          unfold f_X9_mayChange
          rw [if_neg (by decide), if_neg (by decide), if_neg (by decide), if_neg (by decide), if_neg (by decide), is_v E t1, Option.bind_some]
          split
          · rw [if_pos bz1]
          · rw [if_pos bz0]
        refine ⟨decide (σ 21 t = 4), by rw [e1]; simp, by rw [e2]; simp, fun q => Or.inr (Or.inr (Or.inr (Or.inr (Or.inr ⟨rfl, of_decide_eq_true q⟩))))⟩
    obtain ⟨b, k1, k2, k3⟩ := key
    rw [k1, k2, Option.bind_some]
    cases b with
    | true => exact Or.inr ⟨rfl, rfl, t, t1, rfl, k3 rfl⟩
    | false => exact Or.inl ⟨-5, by decide, rfl, rfl⟩
  · rw [t3, t4]
    exact Or.inl ⟨-2, by decide, rfl, rfl⟩
end Ga
