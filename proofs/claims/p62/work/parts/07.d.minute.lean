section Fd
variable {L cnt kc : Nat} {σ μ : Sg}
/-! the kinds, the calendar, the agents -/
def KI (kc : Nat) (σ : Sg) : Prop := ∀ k, k < kc → (0 ≤ (σ 1 k).toInt ∧ (σ 1 k).toInt ≤ 10080) ∧ (0 ≤ (σ 2 k).toInt ∧ (σ 2 k).toInt ≤ 10080) ∧ (1 ≤ (σ 3 k).toInt ∧ (σ 3 k).toInt ≤ 480) ∧ (0 ≤ (σ 5 k).toInt ∧ (σ 5 k).toInt ≤ 10080) ∧ (σ 6 k = 0 ∨ σ 6 k = 1)
def CI (σ : Sg) : Prop := ∀ d, d < 7 → (0 ≤ (σ 13 d).toInt ∧ (σ 13 d).toInt ≤ 1440) ∧ (0 ≤ (σ 14 d).toInt ∧ (σ 14 d).toInt ≤ 1440)
def AI (σ : Sg) : Prop := ∀ l, l < 4 → 0 ≤ (σ 30 l).toInt ∧ (σ 30 l).toInt ≤ 9
theorem KI.ex {σ' : Sg} {R : List Nat} (h : KI kc σ) (hx : Ex R σ σ') (hR : 1 ∉ R ∧ 2 ∉ R ∧ 3 ∉ R ∧ 5 ∉ R ∧ 6 ∉ R) : KI kc σ' := by
  unfold KI
  rw [hx 1 hR.1, hx 2 hR.2.1, hx 3 hR.2.2.1, hx 5 hR.2.2.2.1, hx 6 hR.2.2.2.2]
  exact h
theorem CI.ex {σ' : Sg} {R : List Nat} (h : CI σ) (hx : Ex R σ σ') (hR : 13 ∉ R ∧ 14 ∉ R) : CI σ' := by
  unfold CI
  rw [hx 13 hR.1, hx 14 hR.2]
  exact h
theorem AI.ex {σ' : Sg} {R : List Nat} (h : AI σ) (hx : Ex R σ σ') (hR : 30 ∉ R) : AI σ' := by
  unfold AI
  rw [hx 30 hR]
  exact h
/-- bounds of a ticket's clocks -/
def TB (B : Nat) (σ : Sg) (t : Nat) : Prop := (0 ≤ (σ 22 t).toInt ∧ (σ 22 t).toInt ≤ B) ∧ (0 ≤ (σ 23 t).toInt ∧ (σ 23 t).toInt ≤ B) ∧ (0 ≤ (σ 24 t).toInt ∧ (σ 24 t).toInt ≤ B) ∧ (0 ≤ (σ 25 t).toInt ∧ (σ 25 t).toInt ≤ B)
/-- it isn't due to climb -/
def LK (σ : Sg) (t : Nat) : Prop := σ 5 (ix (σ 16 t)) = 0 ∨ 3 ≤ σ 20 t ∨ σ 23 t < σ 5 (ix (σ 16 t))
theorem KT.lt {t : Nat} (h : KT kc σ t) (h6 : kc ≤ 6) : ix (σ 16 t) < kc := by
  obtain ⟨k, h1, h2⟩ := h
  rw [h2, ix_nI (by omega)]
  exact h1
/-- the clocks' loop of the reference -/
theorem clk_sim (E : Eq2 cnt kc σ μ) (G : LogR L σ μ) (C : CC cnt kc σ) (K : KI kc σ) (hb : ∀ t, t < cnt → TB 20000 σ t) (hf : ∀ t, t < cnt → FL σ μ t) (o : Int32) (wd : Int64) {N : Nat} (hN : 100 < N) :
    ∃ μ', f_X9_passMinute_35 N N o 0 μ wd = f_X9_passMinute_75 N N o 0 0 μ' wd ∧ Eq2 cnt kc (itr (gT L 1 o) cnt σ) μ' ∧ LogR L (itr (gT L 1 o) cnt σ) μ' ∧ (∀ t, t < cnt → FL (itr (gT L 1 o) cnt σ) μ' t) ∧ RS μ μ' := by
  have h60 := E.1
  have key := sim_itr (α := Sg) (γ := Sg) (fun n x c => f_X9_passMinute_35 N n o x c wd) (gT L 1 o)
    (fun i τ c => Eq2 cnt kc τ c ∧ LogR L τ c ∧ CC cnt kc τ ∧ Ex LC σ τ ∧ (∀ j, i ≤ j → τ 24 j = σ 24 j ∧ τ 25 j = σ 25 j) ∧ (∀ t, t < cnt → FL τ c t) ∧ RS μ c) (fun c => f_X9_passMinute_75 N N o 0 0 c wd) cnt
    (fun n i τ c hi R => by
      obtain ⟨R1, R2, R3, R4, R5, R6, R7⟩ := R
      obtain ⟨kt, rv⟩ := R3.2.2.2.2 i hi
      have xg := gT_ex L 1 o i τ
      have C' : CC cnt kc (gT L 1 o i τ) := R3.ex xg (by decide) (fun t _ q => by rw [xg 21 (by decide)] at q; exact q)
      have idx : ∀ j, j ≠ i → ∀ k, k ∉ LG → gT L 1 o i τ k j = τ k j := fun j hj k hk => by
        rw [gT_at _ _ _ hk, if_neg (c := j = i ∧ ctP o τ i) (fun z => hj z.1)]
      have X' : Ex LC σ (gT L 1 o i τ) := R4.tr xg
      have U' : ∀ j, i + 1 ≤ j → gT L 1 o i τ 24 j = σ 24 j ∧ gT L 1 o i τ 25 j = σ 25 j := fun j hj => by
        rw [idx j (by omega) 24 (by decide), idx j (by omega) 25 (by decide)]
        exact R5 j (by omega)
      have st : f_X9_passMinute_35 N (n + 1) o (nI i) c wd = if ctP o τ i then (f_X9_runClocks (nI i) c wd).bind (fun p3 => f_X9_passMinute_35 N n o (nI i + 1) p3 wd) else f_X9_passMinute_35 N n o (nI i + 1) c wd := by
        rw [f_X9_passMinute_35, R1.mc, if_neg (nI_ge hi (by omega))]
        by_cases ho : o = 0
        · rw [if_pos ho, kd_5 R1 hi kt, Option.bind_some]
          have hk := (K _ (kt.lt E.2.1)).2.2.2.2
          have e6 : τ 6 = σ 6 := R4 6 (by decide)
          rw [← e6] at hk
          rcases hk with h | h
          · rw [if_neg (c := τ 6 (ix (τ 16 i)) = 1) (by rw [h]; decide), if_neg (c := ctP o τ i) (fun z => z.elim (fun z => z ho) fun z => z h)]
          · rw [if_pos (c := τ 6 (ix (τ 16 i)) = 1) h, if_pos (c := ctP o τ i) (Or.inr (by rw [h]; decide))]
        · rw [if_neg ho, if_pos (Or.inl ho)]
      by_cases hc : ctP o τ i
      · have g24 := (R5 i (Nat.le_refl _)).1
        have g25 := (R5 i (Nat.le_refl _)).2
        have b := hb i hi
        obtain ⟨μ', a1, a2, a3, a4, a5, a6⟩ := rc_sim (L := L) R1 R2 hi kt rv wd (R6 i hi) (by rw [g24]; exact ⟨b.2.2.1.1, by have := b.2.2.1.2; omega⟩) (by rw [g25]; exact ⟨b.2.2.2.1, by have := b.2.2.2.2; omega⟩)
        have eg : gT L 1 o i τ = gL 1 i (gV L 1 i (gR L 1 i τ)) := by
          unfold gT
          rw [if_pos hc]
        refine ⟨μ', ⟨by rw [eg]; exact a2, by rw [eg]; exact a3, C', X', U', fun t ht => ?_, R7.tr a6⟩, ?_⟩
        · by_cases q : t = i
          · subst q
            rw [eg]
            exact a4
          · unfold FL
            rw [xg 1 (by decide), xg 2 (by decide), xg 16 (by decide), idx t q 24 (by decide), idx t q 25 (by decide), (a5 t q).1, (a5 t q).2]
            exact R6 t ht
        · rw [st, if_pos hc, a1, Option.bind_some, nI_1]
      · have eg : gT L 1 o i τ = τ := by
          unfold gT
          rw [if_neg hc]
        refine ⟨c, ⟨by rw [eg]; exact R1, by rw [eg]; exact R2, C', X', U', by rw [eg]; exact R6, R7⟩, ?_⟩
        rw [st, if_neg hc, nI_1])
    (fun n τ c R => by
      show f_X9_passMinute_35 N (n + 1) o (nI cnt) c wd = _
      rw [f_X9_passMinute_35, R.1.mc, if_pos (nI_le (Nat.le_refl _) (by omega))])
    σ μ ⟨E, G, C, Ex.rf _ _, fun _ _ => ⟨rfl, rfl⟩, hf, RS.rf _⟩ N (by omega)
  obtain ⟨μ', ⟨k1, k2, -, -, -, k6, k7⟩, k8⟩ := key
  exact ⟨μ', k8, k1, k2, k6, k7⟩
/-- the working loop of the reference -/
theorem wrk_sim (E : Eq2 cnt kc σ μ) (G : LogR L σ μ) (C : CC cnt kc σ) (I : RI cnt σ) (hf : ∀ t, t < cnt → FL σ μ t) (o : Int32) (wd : Int64) {N : Nat} (hN : 100 < N) :
    ∃ r μ', f_X9_passMinute_75 N N o 0 0 μ wd = f_X9_passMinute_115 N N (nI r) 0 μ' wd ∧ Eq2 cnt kc (if o = 0 then σ else itr (wT L 1 cnt) cnt σ) μ' ∧ LogR L (if o = 0 then σ else itr (wT L 1 cnt) cnt σ) μ' ∧ (∀ t, t < cnt → FL (if o = 0 then σ else itr (wT L 1 cnt) cnt σ) μ' t) ∧ RS μ μ' ∧
      RI cnt (if o = 0 then σ else itr (wT L 1 cnt) cnt σ) ∧ fb_ct (sB (if o = 0 then σ else itr (wT L 1 cnt) cnt σ)) cnt = fb_ct (sB σ) cnt + r := by
  have h60 := E.1
  by_cases ho : o = 0
  · rw [if_pos ho]
    refine ⟨0, μ, ?_, E, G, hf, RS.rf _, I, rfl⟩
    obtain ⟨m, rfl⟩ : ∃ m, N = m + 1 := ⟨N - 1, by omega⟩
    rw [f_X9_passMinute_75, if_pos ho]
    split <;> rfl
  · rw [if_neg ho]
    have key := sim_itr (α := Sg) (γ := Nat × Sg) (fun n x c => f_X9_passMinute_75 N n o (nI c.1) x c.2 wd) (wT L 1 cnt)
      (fun i τ c => SB L cnt kc μ τ c.2 ∧ Ex LW σ τ ∧ RI cnt τ ∧ fb_ct (sB τ) cnt = fb_ct (sB σ) cnt + c.1) (fun c => f_X9_passMinute_115 N N (nI c.1) 0 c.2 wd) cnt
      (fun n i τ c hi R => by
        obtain ⟨R1, R2, R3, R4⟩ := R
        have kt : KT kc τ i := by unfold KT; rw [R2 16 (by decide)]; exact (C.2.2.2.2 i hi).1
        have st : f_X9_passMinute_75 N (n + 1) o (nI c.1) (nI i) c.2 wd = if τ 21 i = 1 then (f_X9_workOn N (nI i) c.2 wd).bind (fun p6 => f_X9_passMinute_75 N n o (nI c.1 + p6.1) (nI i + 1) p6.2 wd) else f_X9_passMinute_75 N n o (nI c.1) (nI i + 1) c.2 wd := by
          rw [f_X9_passMinute_75, R1.1.mc, if_neg (nI_ge hi (by omega)), if_neg ho, is_v R1.1 hi, Option.bind_some]
          by_cases q : τ 21 i = 1
          · rw [if_pos q, if_pos q, if_neg (by decide)]
          · rw [if_neg q, if_neg q, if_pos rfl]
        by_cases q : τ 21 i = 1
        · obtain ⟨r, μ', a1, a2, a3, a4⟩ := wk_sim (L := L) R1.1 R1.2.1 hi kt wd q R3 hN
          refine ⟨(c.1 + r, μ'), ⟨R1.tr a2, R2.tr (wT_ex _ _ _ _ _), a3, by rw [a4, R4]; omega⟩, ?_⟩
          refine st.trans ?_
          rw [if_pos q, a1, Option.bind_some, nI_add, nI_1]
        · have eg : wT L 1 cnt i τ = τ := by
            unfold wT
            rw [if_neg q]
          refine ⟨c, ⟨by rw [eg]; exact R1, by rw [eg]; exact R2, by rw [eg]; exact R3, by rw [eg]; exact R4⟩, ?_⟩
          refine st.trans ?_
          rw [if_neg q, nI_1])
      (fun n τ c R => by
        show f_X9_passMinute_75 N (n + 1) o (nI c.1) (nI cnt) c.2 wd = _
        rw [f_X9_passMinute_75, R.1.1.mc, if_pos (nI_le (Nat.le_refl _) (by omega))])
      σ (0, μ) ⟨SB.rf E G, Ex.rf _ _, I, rfl⟩ N (by omega)
    obtain ⟨c, ⟨k1, k2, k3, k4⟩, k5⟩ := key
    exact ⟨c.1, c.2, k5, k1.1, k1.2.1, fun t ht => (hf t ht).ex k2 (by decide) k1.2.2.1, k1.2.2.2, k3, k4⟩
/-- who is due to climb -/
theorem cb_sim (E : Eq2 cnt kc σ μ) {t : Nat} (ht : t < cnt) (hk : KT kc σ t) (K : KI kc σ) (wd : Int64) : f_X9_climbsByItself (nI t) μ wd = some (if σ 21 t = 0 ∧ cbP σ t ∧ ¬ σ 23 t < σ 5 (ix (σ 16 t)) then 1 else 0) := by
  have h60 := E.1
  have h5 := (K _ (hk.lt E.2.1)).2.2.2.1
  have e0 : σ 5 (ix (σ 16 t)) ≤ 0 ↔ σ 5 (ix (σ 16 t)) = 0 := by
    rw [z_le, z_eq, z_0]
    omega
  unfold f_X9_climbsByItself
  rw [kd_4 E ht hk, Option.bind_some, is_v E ht, Option.bind_some]
  by_cases h0 : σ 21 t = 0
  · rw [if_pos h0, if_neg (by decide)]
    by_cases h1 : σ 5 (ix (σ 16 t)) = 0
    · rw [if_pos (e0.mpr h1), if_neg (fun z => z.2.1.1 h1)]
    · rw [if_neg (fun z => h1 (e0.mp z)), tg_6 E ht, Option.bind_some]
      by_cases h2 : σ 23 t < σ 5 (ix (σ 16 t))
      · rw [if_pos h2, if_neg (fun z => z.2.2 h2)]
      · rw [if_neg h2, tg_4 E ht, Option.bind_some]
        by_cases h3 : 3 ≤ σ 20 t
        · rw [if_pos h3, if_neg (fun z => z.2.1.2 h3)]
        · rw [if_neg h3, if_pos ⟨h0, ⟨h1, h3⟩, h2⟩]
  · rw [if_neg h0, if_pos rfl, if_neg (fun z => h0 z.1)]
/-- the climbing loop of the reference -/
theorem clb_sim (E : Eq2 cnt kc σ μ) (G : LogR L σ μ) (C : CC cnt kc σ) (K : KI kc σ) (I : RI cnt σ) (hf : ∀ t, t < cnt → FL σ μ t) (x2 : Int32) (wd : Int64) {N : Nat} (hN : 100 < N) :
    ∃ μ', f_X9_passMinute_115 N N x2 0 μ wd = some (x2, μ') ∧ Eq2 cnt kc (up (itr (cT L (σ 12 0 + 1)) cnt σ) 12 0 (σ 12 0 + 1)) μ' ∧ LogR L (up (itr (cT L (σ 12 0 + 1)) cnt σ) 12 0 (σ 12 0 + 1)) μ' ∧
      (∀ t, t < cnt → FL (up (itr (cT L (σ 12 0 + 1)) cnt σ) 12 0 (σ 12 0 + 1)) μ' t) ∧ RS μ μ' ∧ RI cnt (itr (cT L (σ 12 0 + 1)) cnt σ) ∧ fb_ct (sB (itr (cT L (σ 12 0 + 1)) cnt σ)) cnt = fb_ct (sB σ) cnt := by
  have h60 := E.1
  have key := sim_itr (α := Sg) (γ := Sg) (fun n x c => f_X9_passMinute_115 N n x2 x c wd) (cT L (σ 12 0 + 1))
    (fun i τ c => SB L cnt kc μ τ c ∧ Ex LA σ τ ∧ RI cnt τ ∧ fb_ct (sB τ) cnt = fb_ct (sB σ) cnt) (fun c => some (x2, mu c 12 0 (σ 12 0 + 1))) cnt
    (fun n i τ c hi R => by
      obtain ⟨R1, R2, R3, R4⟩ := R
      have kt : KT kc τ i := by unfold KT; rw [R2 16 (by decide)]; exact (C.2.2.2.2 i hi).1
      have e12 : τ 12 = σ 12 := R2 12 (by decide)
      have st : f_X9_passMinute_115 N (n + 1) x2 (nI i) c wd = if τ 21 i = 0 ∧ cbP τ i ∧ ¬ τ 23 i < τ 5 (ix (τ 16 i)) then (f_X9_letClimb (nI i) (σ 12 0 + 1) c wd).bind (fun p5 => f_X9_passMinute_115 N n x2 (nI i + 1) p5 wd) else f_X9_passMinute_115 N n x2 (nI i + 1) c wd := by
        rw [f_X9_passMinute_115, R1.1.mc, if_neg (nI_ge hi (by omega)), cb_sim R1.1 hi kt (K.ex R2 (by decide)), Option.bind_some, R1.1.mt, e12]
        by_cases q : τ 21 i = 0 ∧ cbP τ i ∧ ¬ τ 23 i < τ 5 (ix (τ 16 i))
        · rw [if_pos q, if_pos q, if_neg (by decide)]
        · rw [if_neg q, if_neg q, if_pos rfl]
      by_cases q : τ 21 i = 0 ∧ cbP τ i ∧ ¬ τ 23 i < τ 5 (ix (τ 16 i))
      · obtain ⟨μ', a1, a2⟩ := ra_sim (L := L) R1.1 R1.2.1 hi (σ 12 0 + 1) wd
        have eg : cT L (σ 12 0 + 1) i τ = ra L i (σ 12 0 + 1) τ := by
          unfold cT
          rw [if_pos q]
        rw [eg]
        refine ⟨μ', ⟨R1.tr a2, R2.tr (ra_ex _ _ _ _), R3.rz h60 hi (Or.inl q.1) L _, ?_⟩, ?_⟩
        · rw [← R4]
          refine fb_ct_cong fun j hj => ?_
          unfold sB
          rw [ra_at _ _ _ _ (by decide)]
          by_cases c : j = i
          · subst c
            rw [if_pos rfl, if_neg (by decide), if_pos (by decide), q.1]
          · rw [if_neg c]
        · refine st.trans ?_
          rw [if_pos q, a1, Option.bind_some, nI_1]
      · have eg : cT L (σ 12 0 + 1) i τ = τ := by
          unfold cT
          rw [if_neg q]
        rw [eg]
        refine ⟨c, ⟨R1, R2, R3, R4⟩, ?_⟩
        refine st.trans ?_
        rw [if_neg q, nI_1])
    (fun n τ c R => by
      show f_X9_passMinute_115 N (n + 1) x2 (nI cnt) c wd = _
      rw [f_X9_passMinute_115, R.1.1.mc, if_pos (nI_le (Nat.le_refl _) (by omega)), R.1.1.mt, R.2.1 12 (by decide)]
      rfl)
    σ μ ⟨SB.rf E G, Ex.rf _ _, I, rfl⟩ N (by omega)
  obtain ⟨c, ⟨k1, k2, k3, k4⟩, k5⟩ := key
  have k1' := k1.w 12 0 (σ 12 0 + 1) (by decide) (by decide)
  exact ⟨_, k5, k1'.1, k1'.2.1, fun t ht => (hf t ht).ex (R := 12 :: LA) ((k2.wk (by decide)).tr (Ex.up _ _ _ (by decide))) (by decide) k1'.2.2.1, k1'.2.2.2, k3, k4⟩
/-- the reference's minute, behind the taking -/
theorem min_sim (E : Eq2 cnt kc σ μ) (G : LogR L σ μ) (C : CC cnt kc σ) (K : KI kc σ) (I : RI cnt σ) (hb : ∀ t, t < cnt → TB 20000 σ t) (hf : ∀ t, t < cnt → FL σ μ t) (o : Int32) (wd : Int64) {N : Nat} (hN : 100 < N) :
    ∃ r μ', f_X9_passMinute_35 N N o 0 μ wd = some (nI r, μ') ∧ Eq2 cnt kc (stp L 1 o cnt σ) μ' ∧ LogR L (stp L 1 o cnt σ) μ' ∧ (∀ t, t < cnt → FL (stp L 1 o cnt σ) μ' t) ∧ RS μ μ' ∧ RI cnt (stp L 1 o cnt σ) ∧ fb_ct (sB (stp L 1 o cnt σ)) cnt = fb_ct (sB σ) cnt + r := by
  have x1 : Ex LC σ (itr (gT L 1 o) cnt σ) := itr_ex (fun i σ => gT_ex L 1 o i σ) σ cnt
  obtain ⟨μ1, a1, a2, a3, a4, a5⟩ := clk_sim E G C K hb hf o wd hN
  have C1 : CC cnt kc (itr (gT L 1 o) cnt σ) := C.ex x1 (by decide) (fun t _ q => by rw [x1 21 (by decide)] at q; exact q)
  have I1 : RI cnt (itr (gT L 1 o) cnt σ) := I.ex (x1 21 (by decide)) (x1 26 (by decide))
  obtain ⟨r, μ2, b1, b2, b3, b4, b5, b6, b7⟩ := wrk_sim a2 a3 C1 I1 a4 o wd hN
  have x2 : Ex LW (itr (gT L 1 o) cnt σ) (if o = 0 then itr (gT L 1 o) cnt σ else itr (wT L 1 cnt) cnt (itr (gT L 1 o) cnt σ)) := by
    split
    · exact Ex.rf _ _
    · exact itr_ex (fun i σ => wT_ex L 1 cnt i σ) _ cnt
  have C2 : CC cnt kc (if o = 0 then itr (gT L 1 o) cnt σ else itr (wT L 1 cnt) cnt (itr (gT L 1 o) cnt σ)) := by
    refine ⟨C1.1, C1.2.1, by rw [x2 15 (by decide)]; exact C1.2.2.1, by rw [x2 0 (by decide)]; exact C1.2.2.2.1, fun t ht => ⟨?_, b6.rv ht⟩⟩
    unfold KT
    rw [x2 16 (by decide)]
    exact (C1.2.2.2.2 t ht).1
  obtain ⟨μ3, c1, c2, c3, c4, c5, c6, c7⟩ := clb_sim b2 b3 C2 ((K.ex x1 (by decide)).ex x2 (by decide)) b6 b4 (nI r) wd hN
  have x3 : Ex LA (if o = 0 then itr (gT L 1 o) cnt σ else itr (wT L 1 cnt) cnt (itr (gT L 1 o) cnt σ)) (itr (cT L ((if o = 0 then itr (gT L 1 o) cnt σ else itr (wT L 1 cnt) cnt (itr (gT L 1 o) cnt σ)) 12 0 + 1)) cnt (if o = 0 then itr (gT L 1 o) cnt σ else itr (wT L 1 cnt) cnt (itr (gT L 1 o) cnt σ))) := itr_ex (fun i σ => cT_ex L _ i σ) _ cnt
  have es : stp L 1 o cnt σ = up (itr (cT L ((if o = 0 then itr (gT L 1 o) cnt σ else itr (wT L 1 cnt) cnt (itr (gT L 1 o) cnt σ)) 12 0 + 1)) cnt (if o = 0 then itr (gT L 1 o) cnt σ else itr (wT L 1 cnt) cnt (itr (gT L 1 o) cnt σ))) 12 0 ((if o = 0 then itr (gT L 1 o) cnt σ else itr (wT L 1 cnt) cnt (itr (gT L 1 o) cnt σ)) 12 0 + 1) := by
    have e12 := congrFun (x3 12 (by decide)) 0
    show up (itr (cT L ((if o = 0 then itr (gT L 1 o) cnt σ else itr (wT L 1 cnt) cnt (itr (gT L 1 o) cnt σ)) 12 0 + 1)) cnt (if o = 0 then itr (gT L 1 o) cnt σ else itr (wT L 1 cnt) cnt (itr (gT L 1 o) cnt σ))) 12 0 (itr (cT L ((if o = 0 then itr (gT L 1 o) cnt σ else itr (wT L 1 cnt) cnt (itr (gT L 1 o) cnt σ)) 12 0 + 1)) cnt (if o = 0 then itr (gT L 1 o) cnt σ else itr (wT L 1 cnt) cnt (itr (gT L 1 o) cnt σ)) 12 0 + 1) = _
    rw [e12]
  rw [es]
  refine ⟨r, μ3, by rw [a1, b1, c1], c2, c3, c4, (a5.tr b5).tr c5, c6.ex (up_row (by decide)) (up_row (by decide)), ?_⟩
  have e1 : ∀ τ : Sg, ∀ v, sB (up τ 12 0 v) = sB τ := fun τ v => by
    funext j
    unfold sB
    rw [up_row (by decide)]
  have e2 : sB (itr (gT L 1 o) cnt σ) = sB σ := by
    funext j
    unfold sB
    rw [x1 21 (by decide)]
  rw [e1, c7, b7, e2]
end Fd
