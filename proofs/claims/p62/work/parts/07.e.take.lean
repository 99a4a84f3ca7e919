section Fe
variable {L cnt kc : Nat} {σ μ : Sg}
/-! counting, and the first of a queue -/
theorem ca_v (hc : σ 15 0 = nI cnt) (h60 : cnt ≤ 60) (lv st : Int32) {N : Nat} (hN : 100 < N) : f_X7_countAt N lv st σ = some (nI (fb_ct (fun t => decide (σ 21 t = st ∧ σ 20 t = lv)) cnt)) := by
  have key := lift_itr (α := Nat) (fun n x c => f_X7_countAt_5 N n lv st (nI c) x σ) (fun i c => c + (if decide (σ 21 i = st ∧ σ 20 i = lv) then 1 else 0)) (fun i c => c = fb_ct (fun t => decide (σ 21 t = st ∧ σ 20 t = lv)) i) (fun c => some (nI c)) cnt
    (fun n i c hi I => by
      refine ⟨by rw [fb_ct_succ, I], ?_⟩
      show f_X7_countAt_5 N (n + 1) lv st (nI c) (nI i) σ = f_X7_countAt_5 N n lv st (nI (c + _)) (nI (i + 1)) σ
      rw [f_X7_countAt_5, hc, if_neg (nI_ge hi (by omega)), if_pos (ib_nI (by omega) (by decide)), ix_nI (by omega), nI_1, nI_1]
      by_cases a : σ 21 i = st
      · rw [if_pos a]
        by_cases b : σ 20 i = lv
        · rw [if_pos b, decide_eq_true (show σ 21 i = st ∧ σ 20 i = lv from ⟨a, b⟩)]
          rfl
        · rw [if_neg b, decide_eq_false (show ¬ (σ 21 i = st ∧ σ 20 i = lv) from fun z => b z.2)]
          rfl
      · rw [if_neg a, decide_eq_false (show ¬ (σ 21 i = st ∧ σ 20 i = lv) from fun z => a z.1)]
        rfl)
    (fun n c I => by
      show f_X7_countAt_5 N (n + 1) lv st (nI c) (nI cnt) σ = _
      rw [f_X7_countAt_5, hc, if_pos (nI_le (Nat.le_refl _) (by omega))]) 0 rfl N (by omega)
  unfold f_X7_countAt
  refine Eq.trans key.2 ?_
  rw [key.1]
theorem mca_v (E : Eq2 cnt kc σ μ) (lv st : Int32) (wd : Int64) {N : Nat} (hN : 100 < N) : f_X9_countOf N lv st μ wd = some (nI (fb_ct (fun t => decide (σ 21 t = st ∧ σ 20 t = lv)) cnt)) := by
  have h60 := E.1
  have key := lift_itr (α := Nat) (fun n x c => f_X9_countOf_5 N n lv st (nI c) x μ wd) (fun i c => c + (if decide (σ 21 i = st ∧ σ 20 i = lv) then 1 else 0)) (fun i c => c = fb_ct (fun t => decide (σ 21 t = st ∧ σ 20 t = lv)) i) (fun c => some (nI c)) cnt
    (fun n i c hi I => by
      refine ⟨by rw [fb_ct_succ, I], ?_⟩
      show f_X9_countOf_5 N (n + 1) lv st (nI c) (nI i) μ wd = f_X9_countOf_5 N n lv st (nI (c + _)) (nI (i + 1)) μ wd
      rw [f_X9_countOf_5, E.mc, if_neg (nI_ge hi (by omega)), is_v E hi, Option.bind_some, nI_1, nI_1, show nI c + 0 = nI c from nI_add c 0]
      by_cases a : σ 21 i = st
      · rw [if_pos a, if_neg (by decide), tg_4 E hi, Option.bind_some]
        by_cases b : σ 20 i = lv
        · rw [if_pos b, decide_eq_true (show σ 21 i = st ∧ σ 20 i = lv from ⟨a, b⟩)]
          rfl
        · rw [if_neg b, decide_eq_false (show ¬ (σ 21 i = st ∧ σ 20 i = lv) from fun z => b z.2)]
          rfl
      · rw [if_neg a, if_pos rfl, decide_eq_false (show ¬ (σ 21 i = st ∧ σ 20 i = lv) from fun z => a z.1)]
        rfl)
    (fun n c I => by
      show f_X9_countOf_5 N (n + 1) lv st (nI c) (nI cnt) μ wd = _
      rw [f_X9_countOf_5, E.mc, if_pos (nI_le (Nat.le_refl _) (by omega))]) 0 rfl N (by omega)
  unfold f_X9_countOf
  refine Eq.trans key.2 ?_
  rw [key.1]
abbrev qP (lv : Int32) (σ : Sg) (t : Nat) : Prop := σ 21 t = 0 ∧ σ 20 t = lv
abbrev uP (σ : Sg) (a b : Nat) : Prop := σ 19 a = σ 19 b ∧ σ 2 (ix (σ 16 a)) - σ 25 a < σ 2 (ix (σ 16 b)) - σ 25 b ∨ ¬ σ 19 a = σ 19 b ∧ σ 19 b < σ 19 a
def fqF (lv : Int32) (σ : Sg) (i : Nat) (v : Int32) : Int32 := if qP lv σ i then (if v = -1 ∨ uP σ i (ix v) then nI i else v) else v
def fqV (lv : Int32) (cnt : Nat) (σ : Sg) : Int32 := itr (fqF lv σ) cnt (-1)
def fqI (cnt : Nat) (lv : Int32) (σ : Sg) (i : Nat) (v : Int32) : Prop := (v = -1 ∧ ∀ t, t < i → ¬ qP lv σ t) ∨ ∃ t, t < i ∧ t < cnt ∧ v = nI t ∧ qP lv σ t
theorem mu_v (C : CC cnt kc σ) {a b : Nat} (ha : a < cnt) (hb : b < cnt) : f_X1_isMoreUrgent (nI a) (nI b) σ = some (if uP σ a b then 1 else 0) := by
  have h60 := C.1
  have ml : ∀ t, t < cnt → f_X1_minutesLeft (nI t) σ = some (σ 2 (ix (σ 16 t)) - σ 25 t) := fun t ht => by
    unfold f_X1_minutesLeft
    rw [if_pos (ib_nI (by omega) (by decide)), ix_nI (by omega), if_pos (C.ib ht)]
  unfold f_X1_isMoreUrgent
  rw [if_pos (ib_nI (by omega) (by decide)), if_pos (ib_nI (by omega) (by decide)), ix_nI (by omega), ix_nI (by omega)]
  by_cases e : σ 19 a = σ 19 b
  · rw [if_pos e, ml a ha, Option.bind_some, ml b hb, Option.bind_some]
    by_cases q : σ 2 (ix (σ 16 b)) - σ 25 b ≤ σ 2 (ix (σ 16 a)) - σ 25 a
    · rw [if_pos q, if_neg (fun z => z.elim (fun z => Int32.not_lt.mpr q z.2) fun z => z.1 e)]
    · rw [if_neg q, if_pos (Or.inl ⟨e, Int32.not_le.mp q⟩)]
  · rw [if_neg e]
    by_cases q : σ 19 a ≤ σ 19 b
    · rw [if_pos q, if_neg (fun z => z.elim (fun z => e z.1) fun z => Int32.not_lt.mpr q z.2)]
    · rw [if_neg q, if_pos (Or.inr ⟨e, Int32.not_le.mp q⟩)]
theorem fqI.step {lv : Int32} {i : Nat} {v : Int32} (hi : i < cnt) (I : fqI cnt lv σ i v) : fqI cnt lv σ (i + 1) (fqF lv σ i v) := by
  unfold fqF
  by_cases q : qP lv σ i
  · rw [if_pos q]
    by_cases w : v = -1 ∨ uP σ i (ix v)
    · rw [if_pos w]
      exact Or.inr ⟨i, by omega, hi, rfl, q⟩
    · rw [if_neg w]
      rcases I with ⟨z, -⟩ | ⟨t, h1, h2, h3⟩
      · exact absurd (Or.inl z) w
      · exact Or.inr ⟨t, by omega, h2, h3⟩
  · rw [if_neg q]
    rcases I with ⟨z, h⟩ | ⟨t, h1, h2, h3⟩
    · refine Or.inl ⟨z, fun t ht => ?_⟩
      by_cases e : t = i
      · subst e
        exact q
      · exact h t (by omega)
    · exact Or.inr ⟨t, by omega, h2, h3⟩
theorem fq_v (C : CC cnt kc σ) (lv : Int32) {N : Nat} (hN : 100 < N) : fqI cnt lv σ cnt (fqV lv cnt σ) ∧ f_X1_firstQueued N lv σ = some (fqV lv cnt σ) := by
  have h60 := C.1
  exact lift_itr (α := Int32) (fun n x v => f_X1_firstQueued_4 N n lv v x σ) (fqF lv σ) (fun i v => fqI cnt lv σ i v) some cnt
    (fun n i v hi I => by
      refine ⟨I.step hi, ?_⟩
      show f_X1_firstQueued_4 N (n + 1) lv v (nI i) σ = f_X1_firstQueued_4 N n lv (fqF lv σ i v) (nI (i + 1)) σ
      rw [f_X1_firstQueued_4, C.2.2.1, if_neg (nI_ge hi (by omega)), if_pos (ib_nI (by omega) (by decide)), ix_nI (by omega), nI_1]
      unfold fqF
      by_cases a : σ 21 i = 0
      · rw [if_pos a]
        by_cases b : σ 20 i = lv
        · rw [if_pos b, if_pos (c := qP lv σ i) ⟨a, b⟩]
          by_cases w : v = -1
          · rw [if_pos w, if_pos (Or.inl w)]
          · rcases I with ⟨z, -⟩ | ⟨t, h1, h2, h3, h4⟩
            · exact absurd z w
            · rw [if_neg w, h3, ix_nI (by omega), mu_v C hi h2, Option.bind_some]
              by_cases u : uP σ i t
              · rw [if_pos u, if_neg (by decide), if_pos (Or.inr u)]
              · rw [if_neg u, if_pos rfl, if_neg (fun z => z.elim (fun z => w (h3.trans z)) u)]
        · rw [if_neg b, if_neg (c := qP lv σ i) (fun z => b z.2)]
      · rw [if_neg a, if_neg (c := qP lv σ i) (fun z => a z.1)])
    (fun n v I => by
      show f_X1_firstQueued_4 N (n + 1) lv v (nI cnt) σ = _
      rw [f_X1_firstQueued_4, C.2.2.1, if_pos (nI_le (Nat.le_refl _) (by omega))]) (-1) (Or.inl ⟨rfl, fun t ht => absurd ht (Nat.not_lt_zero _)⟩) N (by omega)
theorem mfq_v (E : Eq2 cnt kc σ μ) (C : CC cnt kc σ) (lv : Int32) (wd : Int64) {N : Nat} (hN : 100 < N) : f_X9_mostUrgent N lv μ wd = some (fqV lv cnt σ) := by
  have h60 := C.1
  have tl : ∀ t, t < cnt → f_X9_timeLeft (nI t) μ wd = some (σ 2 (ix (σ 16 t)) - σ 25 t) := fun t ht => by
    unfold f_X9_timeLeft
    rw [kd_1 E ht (C.2.2.2.2 t ht).1, Option.bind_some, tg_8 E ht, Option.bind_some]
  exact (lift_itr (α := Int32) (fun n x v => f_X9_mostUrgent_4 N n lv v x μ wd) (fqF lv σ) (fun i v => fqI cnt lv σ i v) some cnt
    (fun n i v hi I => by
      refine ⟨I.step hi, ?_⟩
      show f_X9_mostUrgent_4 N (n + 1) lv v (nI i) μ wd = f_X9_mostUrgent_4 N n lv (fqF lv σ i v) (nI (i + 1)) μ wd
      rw [f_X9_mostUrgent_4, E.mc, if_neg (nI_ge hi (by omega)), is_v E hi, Option.bind_some, nI_1]
      unfold fqF
      by_cases a : σ 21 i = 0
      · rw [if_pos a, if_neg (by decide), tg_4 E hi, Option.bind_some]
        by_cases b : σ 20 i = lv
        · rw [if_pos b, if_pos (c := qP lv σ i) ⟨a, b⟩]
          by_cases w : v = -1
          · rw [if_pos w, if_pos (Or.inl w)]
          · rcases I with ⟨z, -⟩ | ⟨t, h1, h2, h3, h4⟩
            · exact absurd z w
            · rw [if_neg w, h3, ix_nI (by omega), tg_3 E hi, Option.bind_some, tg_3 E h2, Option.bind_some]
              by_cases e : σ 19 i = σ 19 t
              · rw [if_pos e, tl i hi, Option.bind_some, tl t h2, Option.bind_some]
                by_cases q : σ 2 (ix (σ 16 t)) - σ 25 t ≤ σ 2 (ix (σ 16 i)) - σ 25 i
                · rw [if_pos q, if_neg (fun z => z.elim (fun z => w (h3.trans z)) fun z => z.elim (fun z => Int32.not_lt.mpr q z.2) fun z => z.1 e)]
                · rw [if_neg q, if_pos (Or.inr (Or.inl ⟨e, Int32.not_le.mp q⟩))]
              · rw [if_neg e, Option.bind_some, Option.bind_some]
                by_cases q : σ 19 i ≤ σ 19 t
                · rw [if_pos q, if_neg (fun z => z.elim (fun z => w (h3.trans z)) fun z => z.elim (fun z => e z.1) fun z => Int32.not_lt.mpr q z.2)]
                · rw [if_neg q, if_pos (Or.inr (Or.inr ⟨e, Int32.not_le.mp q⟩))]
        · rw [if_neg b, if_neg (c := qP lv σ i) (fun z => b z.2)]
      · rw [if_neg a, if_pos rfl, if_neg (c := qP lv σ i) (fun z => a z.1)])
    (fun n v I => by
      show f_X9_mostUrgent_4 N (n + 1) lv v (nI cnt) μ wd = _
      rw [f_X9_mostUrgent_4, E.mc, if_pos (nI_le (Nat.le_refl _) (by omega))]) (-1) (Or.inl ⟨rfl, fun t ht => absurd ht (Nat.not_lt_zero _)⟩) N (by omega)).2
/-! a ticket is taken -/
def tk (L t : Nat) (σ : Sg) : Sg := wr L (σ 12 0) 1 (nI t) (σ 20 t) (if σ 28 t = -1 then up (up σ 21 t 1) 28 t (σ 12 0) else up σ 21 t 1)
def LT : List Nat := [7, 8, 9, 10, 11, 21, 28]
theorem tk_ex (L t : Nat) (σ : Sg) : Ex LT σ (tk L t σ) := by
  unfold tk
  split
  · exact ((Ex.up _ _ _ (by decide)).tr (Ex.up _ _ _ (by decide))).tr (wr_wk _ _ _ _ _ _ _ (by decide))
  · exact (Ex.up _ _ _ (by decide)).tr (wr_wk _ _ _ _ _ _ _ (by decide))
theorem tk_21 (L t : Nat) (σ : Sg) (j : Nat) : tk L t σ 21 j = if j = t then 1 else σ 21 j := by
  unfold tk
  rw [wr_ex _ _ _ _ _ _ 21 (by decide)]
  split
  · rw [up_row (by decide), up_ite]
    by_cases h : j = t
    · rw [if_pos ⟨rfl, h⟩, if_pos h]
    · rw [if_neg (fun z => h z.2), if_neg h]
  · rw [up_ite]
    by_cases h : j = t
    · rw [if_pos ⟨rfl, h⟩, if_pos h]
    · rw [if_neg (fun z => h z.2), if_neg h]
theorem tk_lift (h : CL L cnt kc σ) {t : Nat} (ht : t < cnt) : CL L cnt kc (tk L t σ) ∧ f_X1_take L (nI t) σ = some (tk L t σ) := by
  have h60 := h.1.1
  have x := tk_ex L t σ
  have e28 : up σ 21 t 1 28 t = σ 28 t := congrFun (up_row (by decide)) t
  have hC : CC cnt kc (tk L t σ) := h.1.ex x (by decide) (fun j _ q => by
    rw [tk_21] at q
    split at q
    · exact absurd q (by decide)
    · exact q)
  unfold f_X1_take
  rw [if_pos (ib_nI (by omega) (by decide)), ix_nI (by omega), ans_v (by omega), Option.bind_some, e28]
  unfold tk at hC ⊢
  by_cases a : σ 28 t = -1
  · have hL : LO L (up (up σ 21 t 1) 28 t (σ 12 0)) := h.2.ex ((Ex.up (R := [21, 28]) _ _ _ (by decide)).tr (Ex.up _ _ _ (by decide))) (by decide)
    obtain ⟨w1, w2⟩ := wr_some (a := σ 12 0) (b := 1) (c := nI t) (d := σ 20 t) hL
    rw [if_pos a] at hC ⊢
    rw [if_pos a, if_pos rfl, w1, Option.bind_some]
    exact ⟨⟨hC, w2⟩, rfl⟩
  · have hL : LO L (up σ 21 t 1) := h.2.ex (Ex.up (R := [21, 28]) _ _ _ (by decide)) (by decide)
    obtain ⟨w1, w2⟩ := wr_some (a := σ 12 0) (b := 1) (c := nI t) (d := σ 20 t) hL
    rw [if_neg a] at hC ⊢
    rw [if_neg a, if_neg (by decide), w1, Option.bind_some]
    exact ⟨⟨hC, w2⟩, rfl⟩
/-- the reference takes it -/
theorem tk_sim (E : Eq2 cnt kc σ μ) (G : LogR L σ μ) {t : Nat} (ht : t < cnt) (lv fr : Int32) (hl : σ 20 t = lv) (wd : Int64) (N n : Nat) :
    ∃ μ', SB L cnt kc μ (tk L t σ) μ' ∧ f_X9_takeTickets_30 N (n + 1) lv fr (nI t) μ wd = (if fr + -1 ≤ 0 then f_X9_takeTickets_30 N n lv (fr + -1) (-1) μ' wd else (f_X9_mostUrgent N lv μ' wd).bind (fun p4 => f_X9_takeTickets_30 N n lv (fr + -1) p4 μ' wd)) := by
  have h6 : t < 60 := E.lt ht
  have S1 := (SB.rf E G).w 21 t 1 (by decide) h6
  have e28 : up σ 21 t 1 28 t = σ 28 t := congrFun (up_row (by decide)) t
  have e12 : mu μ 21 t 1 1 (ix 0) = σ 12 0 := by rw [S1.1.mt, up_row (by decide)]
  have s67 : ∀ (k30 : Int32 → Int32 → Int32 → Sg → Int64 → Option Sg) (μ1 τ : Sg), SB L cnt kc μ τ μ1 → τ 12 0 = σ 12 0 → ∃ μ', SB L cnt kc μ (wr L (σ 12 0) 1 (nI t) lv τ) μ' ∧ f_X9_takeTickets_67 N k30 lv fr (nI t) μ1 wd = (if fr + -1 ≤ 0 then k30 lv (fr + -1) (-1) μ' wd else (f_X9_mostUrgent N lv μ' wd).bind (fun p4 => k30 lv (fr + -1) p4 μ' wd)) := fun k30 μ1 τ S e => by
    obtain ⟨μ', l1, l2⟩ := S.log (σ 12 0) 1 (nI t) lv wd
    refine ⟨μ', l2, ?_⟩
    unfold f_X9_takeTickets_67
    rw [S.1.mt, e, l1, Option.bind_some]
  unfold tk
  rw [f_X9_takeTickets_30, if_neg (nI_m1 (by omega)), ms_9 h6, Option.bind_some, tg_12 S1.1 ht, Option.bind_some, e28, hl]
  by_cases a : σ 28 t = -1
  · rw [if_pos a, if_pos a, ms_12 h6, Option.bind_some, e12]
    exact s67 _ _ _ (S1.w 28 t (σ 12 0) (by decide) h6) (by rw [up_row (by decide), up_row (by decide)])
  · rw [if_neg a, if_neg a]
    exact s67 _ _ _ S1 (by rw [up_row (by decide)])
end Fe
