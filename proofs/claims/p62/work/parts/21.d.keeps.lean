section Qd
variable {cnt kc T hl m : Nat} {σ σ' θ υ τ : Sg} {tS : Nat → Nat}
/-! p62's law: what holds at every time -/
/-- the law's rows are the kinds -/
def KM (kc : Nat) (υ σ : Sg) : Prop := ∀ i, i < kc → υ (90 + i) 0 = σ 1 i ∧ υ (90 + i) 1 = σ 2 i ∧ υ (90 + i) 2 = σ 3 i ∧ (υ (90 + i) 5 = 1 ↔ σ 6 i ≠ 0)
theorem KM.lo (K : KM kc υ σ) (h : Lo σ σ') : KM kc υ σ' := fun i hi => by
  rw [h 1 (by decide), h 2 (by decide), h 3 (by decide), h 6 (by decide)]
  exact K i hi
theorem KM.lk (K : KM kc υ σ) (h : Lk kc σ σ') : KM kc υ σ' := fun i hi => by
  rw [h 1 i (by decide) (by decide) hi, h 2 i (by decide) (by decide) hi, h 3 i (by decide) (by decide) hi, h 6 i (by decide) (by decide) hi]
  exact K i hi
theorem DI.kt (D : DI cnt kc T hl σ) {t : Nat} (ht : t < cnt) : ∃ k, k < kc ∧ σ 16 t = nI k := (D.jr).2.2.2.1 t ht
/-- the queues and the busy agents, one ticket more -/
def nuS (σ : Sg) (j : Nat) (ν : Sg) : Sg :=
  let ν1 := if σ 21 j = 0 then up ν 1 (ix (σ 20 j)) (ν 1 (ix (σ 20 j)) + 1) else ν
  if σ 21 j = 1 then up ν1 2 (ix (σ 20 j)) (ν1 2 (ix (σ 20 j)) + 1) else ν1
def qB (σ : Sg) (l : Nat) (t : Nat) : Bool := decide (σ 21 t = 0 ∧ σ 20 t = nI l)
/-- one ticket's checks -/
theorem kp_275 (D : DI cnt kc T hl σ) {N j : Nat} (hj : j < cnt) (k25 : Int32 → Int32 → Int32 → Int32 → Sg → Sg → Sg → Sg → Sg → Option Int32) (x1 x2 x3 : Int32) (ν : Sg) : f_L_keeps_275 N tS kc k25 x1 x2 x3 (nI j) (σ 21 j) θ υ σ τ ν = k25 x1 x2 x3 (nI (j + 1)) θ υ σ τ (nuS σ j ν) := by
  obtain ⟨hT, h60, -, -, h12, h15, -, -⟩ := D.b
  have X := D.2.1 j hj
  obtain ⟨q, g1, g2, g3, ⟨l, l1, l2⟩, g5, g6, g7, g8⟩ := X
  have hib : ib (σ 20 j) 4 := by
    rw [l2]
    exact ib_nI (by omega) (by decide)
  have e347 : f_L_keeps_347 N tS kc k25 x1 x2 x3 (nI j) (σ 21 j) θ υ σ τ ν = k25 x1 x2 x3 (nI (j + 1)) θ υ σ τ (nuS σ j ν) := by
    have e368 : ∀ ν : Sg, f_L_keeps_368 N tS kc k25 x1 x2 x3 (nI j) (σ 21 j) θ υ σ τ ν = k25 x1 x2 x3 (nI (j + 1)) θ υ σ τ (if σ 21 j = 1 then up ν 2 (ix (σ 20 j)) (ν 2 (ix (σ 20 j)) + 1) else ν) := fun ν => by
      unfold f_L_keeps_368
      rw [nI_1, v_levelOf D hj, Option.bind_some, if_pos hib]
      split <;> rfl
    unfold f_L_keeps_347 nuS
    rw [v_levelOf D hj, Option.bind_some, if_pos hib, e368, e368]
    dsimp only
    by_cases c : σ 21 j = 0
    · rw [if_pos c, if_pos c]
    · rw [if_neg c, if_neg c]
  have e327 : f_L_keeps_327 N tS kc k25 x1 x2 x3 (nI j) (σ 21 j) θ υ σ τ ν = k25 x1 x2 x3 (nI (j + 1)) θ υ σ τ (nuS σ j ν) := by
    unfold f_L_keeps_327
    rw [e347, v_answeredAt D hj, Option.bind_some]
    by_cases c : σ 21 j = 1
    · rw [if_pos c]
      rcases g5 with ⟨-, z⟩ | ⟨a, a1, a2, a3⟩
      · exact absurd c z
      · rw [a3, if_pos (nI_pos' (by omega))]
    · rw [if_neg c]
  unfold f_L_keeps_275 f_X8_now
  rw [e327, v_answeredAt D hj, Option.bind_some, Option.bind_some, v_reportedAt D hj, Option.bind_some, Option.bind_some, Option.bind_some, g2, h12]
  rcases g5 with ⟨z, -⟩ | ⟨a, a1, a2, a3⟩
  · rw [z, if_pos (by decide)]
  · rw [a3, if_neg (nI_pos (by omega)), if_neg (Int32.not_lt.mpr (nI_le a1 (by omega))), if_neg (Int32.not_lt.mpr (nI_le a2 (by omega)))]
theorem kp_207 (D : DI cnt kc T hl σ) {N j : Nat} (hj : j < cnt) (k25 : Int32 → Int32 → Int32 → Int32 → Sg → Sg → Sg → Sg → Sg → Option Int32) (x1 x2 x3 : Int32) (ν : Sg) : f_L_keeps_207 N tS kc k25 x1 x2 x3 (nI j) (σ 21 j) (σ 26 j) θ υ σ τ ν = k25 x1 x2 x3 (nI (j + 1)) θ υ σ τ (nuS σ j ν) := by
  obtain ⟨hT, h60, -, -, h12, h15, -, -⟩ := D.b
  have I := D.ri
  obtain ⟨q, g1, g2, g3, g4, g5, g6, g7, g8⟩ := D.2.1 j hj
  unfold f_L_keeps_207
  rw [kp_275 D hj, v_solvedAt D hj, Option.bind_some, Option.bind_some]
  by_cases s3 : σ 21 j = 3
  · obtain ⟨v, v1, v2⟩ := g7 s3
    rw [if_pos s3, v2, if_neg (nI_pos (by omega)), if_neg (by rw [s3]; decide), if_pos (by rw [s3]; decide)]
  · rw [if_neg s3, g8 s3, if_pos (show (-1 : Int32) < 0 by decide)]
    rcases (I j hj).2 with ⟨a, b⟩ | ⟨r, r1, r2, r3, r4⟩
    · obtain ⟨s, s1, s2⟩ := (I j hj).1
      have hs : s ≤ 2 := by
        have n3 : s ≠ 3 := fun z => s3 (by rw [s2, z]; rfl)
        have n4 : s ≠ 4 := fun z => b (by rw [s2, z]; rfl)
        omega
      rw [if_neg b, if_neg (show ¬ 3 ≤ σ 21 j from by rw [s2]; exact nI_ge (b := 3) (by omega) (by decide)), a, if_pos (show (-1 : Int32) < 0 by decide)]
    · rcases r4 with ⟨c1, c2⟩ | ⟨c1, -⟩
      · rw [if_pos c1, r2, if_neg (nI_pos (by omega)), v_stateOf D r1, Option.bind_some, if_neg (show ¬ 2 < σ 21 r from by rcases c2 with z | z | z <;> rw [z] <;> decide), if_pos (by rw [c1]; decide)]
      · exact absurd c1 s3
theorem kp_141 (D : DI cnt kc T hl σ) (K : KM kc υ σ) {N j : Nat} (hj : j < cnt) (k25 : Int32 → Int32 → Int32 → Int32 → Sg → Sg → Sg → Sg → Sg → Option Int32) (x1 x2 x3 : Int32) (ν : Sg) : f_L_keeps_141 N tS kc k25 x1 x2 x3 (nI j) (σ 16 j) (nI T - σ 27 j) (σ 21 j) (σ 26 j) θ υ σ τ ν = k25 x1 x2 x3 (nI (j + 1)) θ υ σ τ (nuS σ j ν) := by
  obtain ⟨hT, h60, h6, -, h12, h15, -, -⟩ := D.b
  obtain ⟨q, g1, g2, ⟨g3, g3'⟩, g4, g5, ⟨⟨p0, p1⟩, p2⟩, g7, g8⟩ := D.2.1 j hj
  obtain ⟨k, k1, k2⟩ := D.kt hj
  have e3 : υ (90 + ix (σ 16 j)) (ix 2) = σ 3 (ix (σ 16 j)) := by
    rw [k2, ix_nI (by omega)]
    exact (K k k1).2.2.1
  have hib : ib (σ 16 j) kc := by
    rw [k2]
    exact ib_nI k1 (by omega)
  have sub : nI T - σ 27 j = nI (T - q) := by
    rw [g2]
    exact nI_sub' g1 (by omega)
  have lt : ∀ x : Int32, x.toInt ≤ (T : Int) - q → ¬ nI (T - q) < x := fun x hx z => by
    have := z_lt.mp z
    rw [z_nI (by omega)] at this
    omega
  unfold f_L_keeps_141
  rw [kp_207 D hj, v_responseClock D hj, Option.bind_some, sub, if_neg (lt _ g3), v_resolveClock D hj, Option.bind_some, if_neg (lt _ g3'), v_progress D hj, Option.bind_some, if_pos hib, Option.bind_some, e3, if_neg (Int32.not_lt.mpr p1)]
  by_cases s3 : σ 21 j = 3
  · rw [if_pos s3]
  · rw [if_neg s3, if_neg (Int32.not_le.mpr (p2 (Or.inl s3)))]
/-- .. and what is late -/
theorem kp_25 (D : DI cnt kc T hl σ) (K : KM kc υ σ) {N j : Nat} (hj : j < cnt) (n : Nat) (a b : Nat) (ν : Sg) : f_L_keeps_25 N tS kc (n + 1) (nI cnt) (nI a) (nI b) (nI j) θ υ σ τ ν = f_L_keeps_25 N tS kc n (nI cnt) (nI (a + (if lR σ (-1) j = true then 1 else 0))) (nI (b + (if lV σ (-1) j = true then 1 else 0))) (nI (j + 1)) θ υ σ τ (nuS σ j ν) := by
  obtain ⟨hT, h60, h6, -, h12, h15, -, -⟩ := D.b
  obtain ⟨k, k1, k2⟩ := D.kt hj
  have hib : ib (σ 16 j) kc := by
    rw [k2]
    exact ib_nI k1 (by omega)
  have e0 : υ (90 + ix (σ 16 j)) (ix 0) = σ 1 (ix (σ 16 j)) := by
    rw [k2, ix_nI (by omega)]
    exact (K k k1).1
  have e1 : υ (90 + ix (σ 16 j)) (ix 1) = σ 2 (ix (σ 16 j)) := by
    rw [k2, ix_nI (by omega)]
    exact (K k k1).2.1
  have rR : (if lR σ (-1) j = true then 1 else 0) = (if σ 24 j ≤ σ 1 (ix (σ 16 j)) then 0 else 1) := by
    unfold lR
    by_cases c : σ 24 j ≤ σ 1 (ix (σ 16 j))
    · rw [if_pos c, decide_eq_false (fun z => Int32.not_lt.mpr c z.2)]
      rfl
    · rw [if_neg c, decide_eq_true ⟨Or.inl rfl, Int32.not_le.mp c⟩]
      rfl
  have rV : (if lV σ (-1) j = true then 1 else 0) = (if σ 25 j ≤ σ 2 (ix (σ 16 j)) then 0 else 1) := by
    unfold lV
    by_cases c : σ 25 j ≤ σ 2 (ix (σ 16 j))
    · rw [if_pos c, decide_eq_false (fun z => Int32.not_lt.mpr c z.2)]
      rfl
    · rw [if_neg c, decide_eq_true ⟨Or.inl rfl, Int32.not_le.mp c⟩]
      rfl
  have e117 : ∀ x : Int32, f_L_keeps_117 N tS kc (fun x1 x2 x3 x6 θ υ σ τ ν => f_L_keeps_25 N tS kc n x1 x2 x3 x6 θ υ σ τ ν) (nI cnt) x (nI b) (nI j) (σ 16 j) (nI T - σ 27 j) (σ 21 j) (σ 26 j) θ υ σ τ ν = f_L_keeps_25 N tS kc n (nI cnt) x (nI (b + (if lV σ (-1) j = true then 1 else 0))) (nI (j + 1)) θ υ σ τ (nuS σ j ν) := fun x => by
    unfold f_L_keeps_117
    rw [v_resolveClock D hj, Option.bind_some, if_pos hib, e1, rV, kp_141 D K hj, kp_141 D K hj]
    by_cases c : σ 25 j ≤ σ 2 (ix (σ 16 j))
    · rw [if_pos c, if_pos c]
      rw [show nI b + 0 = nI (b + 0) from nI_add b 0]
    · rw [if_neg c, if_neg c, nI_1]
  rw [f_L_keeps_25]
  unfold f_X8_now
  rw [if_neg (nI_ge hj (by omega)), v_kindOf D hj, Option.bind_some, if_pos hib, Option.bind_some, v_reportedAt D hj, Option.bind_some, v_stateOf D hj, Option.bind_some, v_rootOf D hj, Option.bind_some, v_responseClock D hj, Option.bind_some, e0, h12, e117, e117, rR]
  by_cases c : σ 24 j ≤ σ 1 (ix (σ 16 j))
  · rw [if_pos c, if_pos c]
    rw [show nI a + 0 = nI (a + 0) from nI_add a 0]
  · rw [if_neg c, if_neg c, nI_1]
theorem nu_1 (σ : Sg) (j l : Nat) (ν : Sg) (hs : ∃ n : Nat, n ≤ 3 ∧ σ 20 j = nI n) (hl : l < 4) : nuS σ j ν 1 l = ν 1 l + (if qB σ l j = true then 1 else 0) ∧ nuS σ j ν 2 l = ν 2 l + (if wB σ l j = true then 1 else 0) := by
  obtain ⟨n, n1, n2⟩ := hs
  have q : ∀ (s : Int32), (decide (σ 21 j = s ∧ σ 20 j = nI l) = true) ↔ σ 21 j = s ∧ l = n := fun s => by
    rw [decide_eq_true_iff, n2, nI_eq (by omega) (by omega)]
    exact and_congr_right fun _ => eq_comm
  unfold nuS qB wB
  (try dsimp only)
  rw [n2, ix_nI (by omega)]
  by_cases c0 : σ 21 j = 0
  · have c1 : ¬ σ 21 j = 1 := by rw [c0]; decide
    rw [if_pos c0, if_neg c1, up_row (k := 1) (a := 2) (by decide), up_ite]
    have q1 : ¬ decide (σ 21 j = 1 ∧ nI n = nI l) = true := fun z => c1 (of_decide_eq_true z).1
    rw [if_neg q1]
    by_cases z : l = n
    · subst z
      rw [if_pos ⟨rfl, rfl⟩, if_pos (decide_eq_true ⟨c0, rfl⟩)]
      exact ⟨rfl, (Int32.add_zero _).symm⟩
    · rw [if_neg (fun w => z w.2), if_neg (fun w => z ((nI_eq (by omega) (by omega)).mp (of_decide_eq_true w).2).symm)]
      exact ⟨(Int32.add_zero _).symm, (Int32.add_zero _).symm⟩
  · have q0 : ¬ decide (σ 21 j = 0 ∧ nI n = nI l) = true := fun z => c0 (of_decide_eq_true z).1
    rw [if_neg c0, if_neg q0]
    by_cases c1 : σ 21 j = 1
    · rw [if_pos c1, up_row (k := 2) (a := 1) (by decide), up_ite]
      by_cases z : l = n
      · subst z
        rw [if_pos ⟨rfl, rfl⟩, if_pos (decide_eq_true ⟨c1, rfl⟩)]
        exact ⟨(Int32.add_zero _).symm, rfl⟩
      · rw [if_neg (fun w => z w.2), if_neg (fun w => z ((nI_eq (by omega) (by omega)).mp (of_decide_eq_true w).2).symm)]
        exact ⟨(Int32.add_zero _).symm, (Int32.add_zero _).symm⟩
    · rw [if_neg c1, if_neg (fun z => c1 (of_decide_eq_true z).1)]
      exact ⟨(Int32.add_zero _).symm, (Int32.add_zero _).symm⟩
theorem kp_399 (D : DI cnt kc T hl σ) {N : Nat} (hN : 100 < N) (ν : Sg) (h : ∀ l, l < 4 → ν 1 l = nI (fb_ct (qB σ l) cnt) ∧ ν 2 l = nI (fb_ct (wB σ l) cnt)) : f_L_keeps_399 N tS kc N (nI (fb_ct (lR σ (-1)) cnt)) (nI (fb_ct (lV σ (-1)) cnt)) 0 θ υ σ τ ν = some 1 := by
  have h60 := D.b.2.1
  refine (lift_itr (α := Unit) (fun n i _ => f_L_keeps_399 N tS kc n (nI (fb_ct (lR σ (-1)) cnt)) (nI (fb_ct (lV σ (-1)) cnt)) i θ υ σ τ ν) (fun _ a => a) (fun _ _ => True) (fun _ => some 1) 4
    (fun n i _ hi _ => ⟨trivial, ?_⟩) (fun n _ _ => ?_) () trivial N (by omega)).2
  · show f_L_keeps_399 N tS kc (n + 1) _ _ (nI i) θ υ σ τ ν = f_L_keeps_399 N tS kc n _ _ (nI (i + 1)) θ υ σ τ ν
    obtain ⟨a1, a2⟩ := h i hi
    obtain ⟨v, v1, v2⟩ := v_nextTicket D hi hN
    have c1 := fb_ct_le (qB σ i) cnt
    have c2 := fb_ct_le (wB σ i) cnt
    have ba := D.2.2.1 i hi
    rw [f_L_keeps_399, if_neg (show ¬ (4 : Int32) ≤ nI i from nI_ge (b := 4) hi (by decide)), v_queueLength D hi hN, Option.bind_some, if_pos (ib_nI hi (by decide)), ix_nI (by omega), if_pos (by rw [a1]; rfl), v_busyAgents D hi hN, Option.bind_some, if_pos a2.symm, v_agents hi, Option.bind_some, if_neg (show ¬ σ 30 i < ν 2 i from fun z => by
      have := z_lt.mp z
      rw [a2, z_nI (by omega)] at this
      omega), v1, Option.bind_some, nI_1]
    by_cases z : fb_ct (qB σ i) cnt = 0
    · have vn : v < 0 := v2.mpr z
      rw [if_neg (Int32.not_le.mpr vn), if_pos (by rw [a1, z]; rfl)]
    · have vn : ¬ v < 0 := fun q => z (v2.mp q)
      rw [if_pos (Int32.not_lt.mp vn), if_neg (by rw [a1]; exact fun q => z ((nI_eq (b := 0) (by omega) (by decide)).mp q))]
  · show f_L_keeps_399 N tS kc (n + 1) _ _ (nI 4) θ υ σ τ ν = some 1
    rw [f_L_keeps_399, if_pos (by decide), v_responseBreaches D hN, Option.bind_some, if_pos rfl, v_resolveBreaches D hN, Option.bind_some, if_pos rfl]
theorem keeps_v (D : DI cnt kc T hl σ) (K : KM kc υ σ) {N : Nat} (hN : 100 < N) : f_L_keeps N tS kc θ υ σ τ = some 1 := by
  obtain ⟨hT, h60, h6, -, h12, h15, -, -⟩ := D.b
  unfold f_L_keeps f_X8_ticketCount
  rw [Option.bind_some, h15]
  have key := lift_itr (α := Nat × Nat × Sg) (fun n i a => f_L_keeps_25 N tS kc n (nI cnt) (nI a.1) (nI a.2.1) i θ υ σ τ a.2.2) (fun i a => (a.1 + (if lR σ (-1) i = true then 1 else 0), a.2.1 + (if lV σ (-1) i = true then 1 else 0), nuS σ i a.2.2))
    (fun i a => a.1 = fb_ct (lR σ (-1)) i ∧ a.2.1 = fb_ct (lV σ (-1)) i ∧ ∀ l, l < 4 → a.2.2 1 l = nI (fb_ct (qB σ l) i) ∧ a.2.2 2 l = nI (fb_ct (wB σ l) i)) (fun a => f_L_keeps_399 N tS kc N (nI a.1) (nI a.2.1) 0 θ υ σ τ a.2.2) cnt
    (fun n i a hi I => by
      obtain ⟨i1, i2, i3⟩ := I
      refine ⟨⟨?_, ?_, fun l hl => ?_⟩, kp_25 D K hi n a.1 a.2.1 a.2.2⟩
      · show a.1 + _ = _
        rw [i1, fb_ct_succ]
      · show a.2.1 + _ = _
        rw [i2, fb_ct_succ]
      · obtain ⟨u1, u2⟩ := nu_1 σ i l a.2.2 (D.lvl hi) hl
        show nuS σ i a.2.2 1 l = _ ∧ nuS σ i a.2.2 2 l = _
        rw [u1, u2, (i3 l hl).1, (i3 l hl).2, fb_ct_succ, fb_ct_succ]
        constructor
        · split
          · exact nI_1 _
          · exact nI_add _ 0
        · split
          · exact nI_1 _
          · exact nI_add _ 0)
    (fun n a I => by
      show f_L_keeps_25 N tS kc (n + 1) (nI cnt) (nI a.1) (nI a.2.1) (nI cnt) θ υ σ τ a.2.2 = _
      rw [f_L_keeps_25, if_pos (nI_le (Nat.le_refl _) (by omega))])
    (0, 0, zS) ⟨rfl, rfl, fun l hl => ⟨rfl, rfl⟩⟩ N (by omega)
  obtain ⟨⟨e1, e2, e3⟩, e4⟩ := key
  refine Eq.trans e4 ?_
  rw [e1, e2]
  exact kp_399 D hN _ e3
end Qd
