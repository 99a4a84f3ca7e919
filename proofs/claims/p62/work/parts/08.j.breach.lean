section Gj
variable {cnt kc T hl : Nat} {σ μ : Sg}
/-! the breaches -/
/-- late tickets of a kind, or of all -/
def lR (σ : Sg) (x : Int32) (j : Nat) : Bool := decide ((x = -1 ∨ σ 16 j = x) ∧ σ 1 (ix (σ 16 j)) < σ 24 j)
def lV (σ : Sg) (x : Int32) (j : Nat) : Bool := decide ((x = -1 ∨ σ 16 j = x) ∧ σ 2 (ix (σ 16 j)) < σ 25 j)
theorem lR_v (C : CC cnt kc σ) (x : Int32) {N : Nat} (hN : 100 < N) : f_X1_lateResponses N x σ = some (nI (fb_ct (lR σ x) cnt)) := by
  have h60 := C.1
  have hc := C.2.2.1
  have key := lift_itr (α := Nat) (fun n i c => f_X1_countLate_responseClock_response_6 N n x (nI c) i σ) (fun i c => c + (if lR σ x i then 1 else 0)) (fun i c => c = fb_ct (lR σ x) i) (fun c => some (nI c)) cnt
    (fun n i c hi I => by
      refine ⟨by rw [fb_ct_succ, I], ?_⟩
      have ib6 := C.ib hi
      show f_X1_countLate_responseClock_response_6 N (n + 1) x (nI c) (nI i) σ = f_X1_countLate_responseClock_response_6 N n x (nI (c + _)) (nI (i + 1)) σ
      rw [f_X1_countLate_responseClock_response_6, hc, if_neg (nI_ge hi (by omega)), if_pos (ib_nI (by omega) (by decide)), ix_nI (by omega), nI_1, nI_1]
      unfold lR
      by_cases a : x = -1
      · rw [if_pos a, if_pos ib6]
        by_cases b : σ 24 i ≤ σ 1 (ix (σ 16 i))
        · rw [if_pos b, decide_eq_false (show ¬ ((x = -1 ∨ σ 16 i = x) ∧ σ 1 (ix (σ 16 i)) < σ 24 i) from fun z => Int32.not_lt.mpr b z.2)]
          rfl
        · rw [if_neg b, decide_eq_true (show (x = -1 ∨ σ 16 i = x) ∧ σ 1 (ix (σ 16 i)) < σ 24 i from ⟨Or.inl a, Int32.not_le.mp b⟩)]
          rfl
      · rw [if_neg a]
        by_cases e : σ 16 i = x
        · rw [if_pos e, if_pos ib6]
          by_cases b : σ 24 i ≤ σ 1 (ix (σ 16 i))
          · rw [if_pos b, decide_eq_false (show ¬ ((x = -1 ∨ σ 16 i = x) ∧ σ 1 (ix (σ 16 i)) < σ 24 i) from fun z => Int32.not_lt.mpr b z.2)]
            rfl
          · rw [if_neg b, decide_eq_true (show (x = -1 ∨ σ 16 i = x) ∧ σ 1 (ix (σ 16 i)) < σ 24 i from ⟨Or.inr e, Int32.not_le.mp b⟩)]
            rfl
        · rw [if_neg e, decide_eq_false (show ¬ ((x = -1 ∨ σ 16 i = x) ∧ σ 1 (ix (σ 16 i)) < σ 24 i) from fun z => z.1.elim a e)]
          rfl)
    (fun n c I => by
      show f_X1_countLate_responseClock_response_6 N (n + 1) x (nI c) (nI cnt) σ = _
      rw [f_X1_countLate_responseClock_response_6, hc, if_pos (nI_le (Nat.le_refl _) (by omega))]) 0 rfl N (by omega)
  unfold f_X1_lateResponses f_X1_countLate_responseClock_response
  rw [bind_sm]
  refine Eq.trans key.2 ?_
  rw [key.1]
theorem lV_v (C : CC cnt kc σ) (x : Int32) {N : Nat} (hN : 100 < N) : f_X1_lateSolutions N x σ = some (nI (fb_ct (lV σ x) cnt)) := by
  have h60 := C.1
  have hc := C.2.2.1
  have key := lift_itr (α := Nat) (fun n i c => f_X1_countLate_resolveClock_resolve_6 N n x (nI c) i σ) (fun i c => c + (if lV σ x i then 1 else 0)) (fun i c => c = fb_ct (lV σ x) i) (fun c => some (nI c)) cnt
    (fun n i c hi I => by
      refine ⟨by rw [fb_ct_succ, I], ?_⟩
      have ib6 := C.ib hi
      show f_X1_countLate_resolveClock_resolve_6 N (n + 1) x (nI c) (nI i) σ = f_X1_countLate_resolveClock_resolve_6 N n x (nI (c + _)) (nI (i + 1)) σ
      rw [f_X1_countLate_resolveClock_resolve_6, hc, if_neg (nI_ge hi (by omega)), if_pos (ib_nI (by omega) (by decide)), ix_nI (by omega), nI_1, nI_1]
      unfold lV
      by_cases a : x = -1
      · rw [if_pos a, if_pos ib6]
        by_cases b : σ 25 i ≤ σ 2 (ix (σ 16 i))
        · rw [if_pos b, decide_eq_false (show ¬ ((x = -1 ∨ σ 16 i = x) ∧ σ 2 (ix (σ 16 i)) < σ 25 i) from fun z => Int32.not_lt.mpr b z.2)]
          rfl
        · rw [if_neg b, decide_eq_true (show (x = -1 ∨ σ 16 i = x) ∧ σ 2 (ix (σ 16 i)) < σ 25 i from ⟨Or.inl a, Int32.not_le.mp b⟩)]
          rfl
      · rw [if_neg a]
        by_cases e : σ 16 i = x
        · rw [if_pos e, if_pos ib6]
          by_cases b : σ 25 i ≤ σ 2 (ix (σ 16 i))
          · rw [if_pos b, decide_eq_false (show ¬ ((x = -1 ∨ σ 16 i = x) ∧ σ 2 (ix (σ 16 i)) < σ 25 i) from fun z => Int32.not_lt.mpr b z.2)]
            rfl
          · rw [if_neg b, decide_eq_true (show (x = -1 ∨ σ 16 i = x) ∧ σ 2 (ix (σ 16 i)) < σ 25 i from ⟨Or.inr e, Int32.not_le.mp b⟩)]
            rfl
        · rw [if_neg e, decide_eq_false (show ¬ ((x = -1 ∨ σ 16 i = x) ∧ σ 2 (ix (σ 16 i)) < σ 25 i) from fun z => z.1.elim a e)]
          rfl)
    (fun n c I => by
      show f_X1_countLate_resolveClock_resolve_6 N (n + 1) x (nI c) (nI cnt) σ = _
      rw [f_X1_countLate_resolveClock_resolve_6, hc, if_pos (nI_le (Nat.le_refl _) (by omega))]) 0 rfl N (by omega)
  unfold f_X1_lateSolutions f_X1_countLate_resolveClock_resolve
  rw [bind_sm]
  refine Eq.trans key.2 ?_
  rw [key.1]
/-- the reference's sum of flags -/
theorem mb_of (E : Eq2 cnt kc σ μ) (x f : Int32) (wd : Int64) (P : Nat → Prop) [DecidablePred P] (hf : ∀ j, j < cnt → f_X9_ticket (nI j) f μ wd = some (if P j then 1 else 0)) {N : Nat} (hN : 100 < N) :
    f_X9_breachesOf N x f μ wd = some (nI (fb_ct (fun j => decide ((x = -1 ∨ σ 16 j = x) ∧ P j)) cnt)) := by
  have h60 := E.1
  have key := lift_itr (α := Nat) (fun n i c => f_X9_breachesOf_5 N n x f (nI c) i μ wd) (fun i c => c + (if decide ((x = -1 ∨ σ 16 i = x) ∧ P i) then 1 else 0)) (fun i c => c = fb_ct (fun j => decide ((x = -1 ∨ σ 16 j = x) ∧ P j)) i) (fun c => some (nI c)) cnt
    (fun n i c hi I => by
      refine ⟨by rw [fb_ct_succ, I], ?_⟩
      show f_X9_breachesOf_5 N (n + 1) x f (nI c) (nI i) μ wd = f_X9_breachesOf_5 N n x f (nI (c + _)) (nI (i + 1)) μ wd
      have c0 : nI c + 0 = nI c := nI_add c 0
      rw [f_X9_breachesOf_5, E.mc, if_neg (nI_ge hi (by omega)), hf i hi, Option.bind_some, tg_0 E hi, Option.bind_some, nI_1]
      by_cases a : x = -1
      · rw [if_pos a]
        by_cases b : P i
        · rw [if_pos b, nI_1, decide_eq_true (show (x = -1 ∨ σ 16 i = x) ∧ P i from ⟨Or.inl a, b⟩)]
          rfl
        · rw [if_neg b, c0, decide_eq_false (show ¬ ((x = -1 ∨ σ 16 i = x) ∧ P i) from fun z => b z.2)]
          rfl
      · rw [if_neg a]
        by_cases e : σ 16 i = x
        · rw [if_pos e]
          by_cases b : P i
          · rw [if_pos b, nI_1, decide_eq_true (show (x = -1 ∨ σ 16 i = x) ∧ P i from ⟨Or.inr e, b⟩)]
            rfl
          · rw [if_neg b, c0, decide_eq_false (show ¬ ((x = -1 ∨ σ 16 i = x) ∧ P i) from fun z => b z.2)]
            rfl
        · rw [if_neg e, c0, decide_eq_false (show ¬ ((x = -1 ∨ σ 16 i = x) ∧ P i) from fun z => z.1.elim a e)]
          rfl)
    (fun n c I => by
      show f_X9_breachesOf_5 N (n + 1) x f (nI c) (nI cnt) μ wd = _
      rw [f_X9_breachesOf_5, E.mc, if_pos (nI_le (Nat.le_refl _) (by omega))]) 0 rfl N (by omega)
  unfold f_X9_breachesOf
  refine Eq.trans key.2 ?_
  rw [key.1]
theorem mR_v (E : Eq2 cnt kc σ μ) (F : ∀ t, t < cnt → FL σ μ t) (x : Int32) (wd : Int64) {N : Nat} (hN : 100 < N) : f_X9_breachesOf N x 14 μ wd = some (nI (fb_ct (lR σ x) cnt)) :=
  mb_of E x 14 wd (fun j => σ 1 (ix (σ 16 j)) < σ 24 j) (fun j hj => (mg_14 (E.lt hj) μ wd).trans (congrArg some (F j hj).1)) hN
theorem mV_v (E : Eq2 cnt kc σ μ) (F : ∀ t, t < cnt → FL σ μ t) (x : Int32) (wd : Int64) {N : Nat} (hN : 100 < N) : f_X9_breachesOf N x 15 μ wd = some (nI (fb_ct (lV σ x) cnt)) :=
  mb_of E x 15 wd (fun j => σ 2 (ix (σ 16 j)) < σ 25 j) (fun j hj => (mg_15 (E.lt hj) μ wd).trans (congrArg some (F j hj).2)) hN
/-- all of them -/
def aB (cnt : Nat) (σ : Sg) : Nat := fb_ct (lR σ (-1)) cnt + fb_ct (lV σ (-1)) cnt
theorem aB_v (C : CC cnt kc σ) {N : Nat} (hN : 100 < N) : f_X1_allBreaches N σ = some (nI (aB cnt σ)) := by
  unfold f_X1_allBreaches
  rw [lR_v C _ hN, Option.bind_some, lV_v C _ hN, Option.bind_some, nI_add]
  rfl
theorem maB_v (E : Eq2 cnt kc σ μ) (F : ∀ t, t < cnt → FL σ μ t) (wd : Int64) {N : Nat} (hN : 100 < N) : f_X9_allBreaches N μ wd = some (nI (aB cnt σ)) := by
  unfold f_X9_allBreaches
  rw [mR_v E F _ wd hN, Option.bind_some, mV_v E F _ wd hN, Option.bind_some, nI_add]
  rfl
/-- no kind, or one of them -/
theorem kmx (E : Eq2 cnt kc σ μ) (x : Int32) (wd : Int64) : (f_X8_within x (-1) (σ 0 0 - 1) = some 1 ∧ (x = -1 ∨ f_X9_isKind x μ wd = some 1)) ∨ (f_X8_within x (-1) (σ 0 0 - 1) = some 0 ∧ x ≠ -1 ∧ f_X9_isKind x μ wd = some 0) := by
  have hk := E.k
  have h6 := E.2.1
  by_cases a : x = -1
  · left
    refine ⟨?_, Or.inl a⟩
    rcases wi x (-1) (σ 0 0 - 1) with w | w
    · exact w.1
    · refine absurd ⟨a ▸ Int32.le_refl _, ?_⟩ w.2
      rw [a, hk]
      exact z_le.mpr (by rw [z_sub (by rw [z_nI (by omega)]; omega) (by rw [z_nI (by omega)]; omega) (by decide) (by decide), z_nI (by omega), z_1, z_m1]; omega)
  · have ha : x.toInt ≠ -1 := fun q => a (z_eq.mpr (q.trans z_m1.symm))
    rcases kix E x wd with ⟨t, h1, h2, h3, h4⟩ | ⟨h3, h4⟩
    · left
      refine ⟨?_, Or.inr h4⟩
      rcases wi x (-1) (σ 0 0 - 1) with w | w
      · exact w.1
      · rcases wi x 0 (σ 0 0 - 1) with u | u
        · refine absurd ⟨z_le.mpr ?_, u.2.2⟩ w.2
          have := z_le.mp u.2.1
          rw [z_0] at this
          rw [z_m1]
          omega
        · exact absurd (u.1.symm.trans h3) (by decide)
    · right
      refine ⟨?_, a, h4⟩
      rcases wi x (-1) (σ 0 0 - 1) with w | w
      · rcases wi x 0 (σ 0 0 - 1) with u | u
        · exact absurd (u.1.symm.trans h3) (by decide)
        · refine absurd ⟨z_le.mpr ?_, w.2.2⟩ u.2
          have := z_le.mp w.2.1
          rw [z_m1] at this
          rw [z_0]
          omega
      · exact w.1
theorem q_responseBreaches (V : LV cnt kc T hl σ μ) (x : Int32) (wd : Int64) {N : Nat} (hN : 100 < N) : QR (f_X8_responseBreaches N x σ) (f_X9_responseBreaches N x μ wd) := by
  unfold f_X8_responseBreaches f_X9_responseBreaches
  simp only [bind_sm]
  rw [lR_v V.cc x hN, mR_v V.E V.1.2.2.2 x wd hN]
  rcases kmx V.E x wd with ⟨w, a | k⟩ | ⟨w, a, k⟩
  · exact ⟨_, by rw [w]; rfl, by rw [if_pos a]⟩
  · by_cases a : x = -1
    · exact ⟨_, by rw [w]; rfl, by rw [if_pos a]⟩
    · exact ⟨_, by rw [w]; rfl, by rw [if_neg a, k]; rfl⟩
  · exact ⟨-3, by rw [w]; rfl, by rw [if_neg a, k]; rfl⟩
theorem q_resolveBreaches (V : LV cnt kc T hl σ μ) (x : Int32) (wd : Int64) {N : Nat} (hN : 100 < N) : QR (f_X8_resolveBreaches N x σ) (f_X9_resolveBreaches N x μ wd) := by
  unfold f_X8_resolveBreaches f_X9_resolveBreaches
  simp only [bind_sm]
  rw [lV_v V.cc x hN, mV_v V.E V.1.2.2.2 x wd hN]
  rcases kmx V.E x wd with ⟨w, a | k⟩ | ⟨w, a, k⟩
  · exact ⟨_, by rw [w]; rfl, by rw [if_pos a]⟩
  · by_cases a : x = -1
    · exact ⟨_, by rw [w]; rfl, by rw [if_pos a]⟩
    · exact ⟨_, by rw [w]; rfl, by rw [if_neg a, k]; rfl⟩
  · exact ⟨-3, by rw [w]; rfl, by rw [if_neg a, k]; rfl⟩
/-! a likely root -/
abbrev srP (σ : Sg) (t i : Nat) : Prop := (σ 21 i = 0 ∨ σ 21 i = 1 ∨ σ 21 i = 2) ∧ σ 16 i = σ 16 t ∧ σ 18 i = σ 18 t ∧ ¬ 240 < σ 27 t - σ 27 i
/-- the first that fits -/
def ff (P : Nat → Prop) [DecidablePred P] : Nat → Nat → Int32
  | 0, _ => -1
  | k + 1, i => if P i then nI i else ff P k (i + 1)
theorem ff_l (g : Nat → Int32 → Option Int32) (P : Nat → Prop) [DecidablePred P] (t : Nat) (hs : ∀ n i, i < t → g (n + 1) (nI i) = if P i then some (nI i) else g n (nI (i + 1))) (he : ∀ n, g (n + 1) (nI t) = some (-1)) : ∀ k i n, i + k = t → k < n → g n (nI i) = some (ff P k i)
  | 0, i, n, h, hn => by
    obtain ⟨m, rfl⟩ : ∃ q, n = q + 1 := ⟨n - 1, by omega⟩
    obtain rfl : i = t := by omega
    exact he m
  | k + 1, i, n, h, hn => by
    obtain ⟨m, rfl⟩ : ∃ q, n = q + 1 := ⟨n - 1, by omega⟩
    rw [hs m i (by omega), ff_l g P t hs he k (i + 1) m (by omega) (by omega)]
    show _ = some (if P i then nI i else ff P k (i + 1))
    by_cases q : P i
    · rw [if_pos q, if_pos q]
    · rw [if_neg q, if_neg q]
theorem sr_v (hc : σ 15 0 = nI cnt) (h60 : cnt ≤ 60) (hs : ∀ t, t < cnt → ST σ t) {t : Nat} (ht : t < cnt) {N : Nat} (hN : 100 < N) : f_X7_sameFaultBefore N (nI t) σ = some (ff (srP σ t) t 0) :=
  ff_l (fun n i => f_X7_sameFaultBefore_2 N n (nI t) i σ) (srP σ t) t
    (fun n i hi => by
      show f_X7_sameFaultBefore_2 N (n + 1) (nI t) (nI i) σ = _
      rw [f_X7_sameFaultBefore_2, if_neg (nI_ge hi (by omega)), sta_v (by omega) (hs i (by omega)), Option.bind_some, nI_1]
      by_cases a : σ 21 i = 0 ∨ σ 21 i = 1 ∨ σ 21 i = 2
      · rw [if_pos a, if_neg (by decide), if_pos (ib_nI (by omega) (by decide)), if_pos (ib_nI (by omega) (by decide)), ix_nI (by omega), ix_nI (by omega)]
        by_cases b : σ 16 i = σ 16 t
        · rw [if_pos b]
          by_cases c : σ 18 i = σ 18 t
          · rw [if_pos c]
            by_cases d : 240 < σ 27 t - σ 27 i
            · rw [if_pos d, if_neg (fun z => z.2.2.2 d)]
            · rw [if_neg d, if_pos ⟨a, b, c, d⟩]
          · rw [if_neg c, if_neg (fun z => c z.2.2.1)]
        · rw [if_neg b, if_neg (fun z => b z.2.1)]
      · rw [if_neg a, if_pos rfl, if_neg (fun z => a z.1)])
    (fun n => by
      show f_X7_sameFaultBefore_2 N (n + 1) (nI t) (nI t) σ = _
      rw [f_X7_sameFaultBefore_2, if_pos (nI_le (Nat.le_refl _) (by omega))]) t 0 N (by omega) (by omega)
theorem msr_v (E : Eq2 cnt kc σ μ) (hs : ∀ t, t < cnt → ST σ t) {t : Nat} (ht : t < cnt) (wd : Int64) {N : Nat} (hN : 100 < N) : f_X9_suggestRoot_13 N N (nI t) 0 μ wd = some (ff (srP σ t) t 0) := by
  have h60 := E.1
  exact ff_l (fun n i => f_X9_suggestRoot_13 N n (nI t) i μ wd) (srP σ t) t
    (fun n i hi => by
      have hi' : i < cnt := by omega
      show f_X9_suggestRoot_13 N (n + 1) (nI t) (nI i) μ wd = _
      rw [f_X9_suggestRoot_13, if_neg (nI_ge hi (by omega)), tg_0 E hi', Option.bind_some, tg_0 E ht, Option.bind_some, tg_2 E hi', Option.bind_some, tg_2 E ht, Option.bind_some, alive_v E hi' (hs i hi'), Option.bind_some, tg_11 E ht, Option.bind_some, tg_11 E hi', Option.bind_some, nI_1]
      unfold f_X9_suggestRoot_52
      rw [nI_1]
      by_cases b : σ 16 i = σ 16 t
      · rw [if_pos b]
        by_cases c : σ 18 i = σ 18 t
        · rw [if_pos c]
          by_cases a : σ 21 i = 0 ∨ σ 21 i = 1 ∨ σ 21 i = 2
          · rw [if_pos a, if_neg (by decide)]
            by_cases d : 240 < σ 27 t - σ 27 i
            · rw [if_pos d, if_neg (fun z => z.2.2.2 d)]
            · rw [if_neg d, if_pos ⟨a, b, c, d⟩]
          · rw [if_neg a, if_pos rfl, if_neg (fun z => a z.1)]
        · rw [if_neg c, if_neg (fun z => c z.2.2.1)]
      · rw [if_neg b, if_neg (fun z => b z.2.1)])
    (fun n => by
      show f_X9_suggestRoot_13 N (n + 1) (nI t) (nI t) μ wd = _
      rw [f_X9_suggestRoot_13, if_pos (nI_le (Nat.le_refl _) (by omega))]) t 0 N (by omega) (by omega)
theorem q_suggestRoot (V : LV cnt kc T hl σ μ) (x : Int32) (wd : Int64) {N : Nat} (hN : 100 < N) : QR (f_X8_suggestRoot N x σ) (f_X9_suggestRoot N x μ wd) := by
  unfold f_X8_suggestRoot f_X9_suggestRoot
  simp only [bind_sm]
  rcases tix V.E x wd with ⟨t, h1, rfl, h2, h3⟩ | ⟨h2, h3⟩
  · rw [sr_v V.E.c V.E.1 (fun t ht => (V.1.2.2.1.2.2.2.2.2.1 t ht).1) h1 hN, msr_v V.E (fun t ht => (V.1.2.2.1.2.2.2.2.2.1 t ht).1) h1 wd hN]
    exact ⟨_, by rw [h2]; rfl, by rw [h3]; rfl⟩
  · exact ⟨-2, by rw [h2]; rfl, by rw [h3]; rfl⟩
end Gj
