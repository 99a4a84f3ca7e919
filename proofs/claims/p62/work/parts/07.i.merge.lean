section Fi
variable {L cnt kc : Nat} {σ μ : Sg}
theorem up_ag {R : List Nat} {A B : Sg} (h : Ex R A B) (k i : Nat) (v : Int32) : Ex R (up A k i v) (up B k i v) := fun a ha => by
  funext b
  rw [up_ite, up_ite, h a ha]
theorem ra_ag {R : List Nat} {A B : Sg} (hR : (∀ k, k ∈ LG → k ∉ R) ∧ 20 ∉ R) (h : Ex R A B) (L t : Nat) (a : Int32) : Ex R (ra L t a A) (ra L t a B) := by
  unfold ra
  rw [h 20 hR.2]
  exact wr_ag hR.1 (up_ag (up_ag (up_ag (up_ag h _ _ _) _ _ _) _ _ _) _ _ _)
theorem mk1_ag {R : List Nat} {A B : Sg} (hR : ∀ k, k ∈ LG → k ∉ R) (h : Ex R A B) (L t : Nat) (a : Int32) : Ex R (mk1 L t a A) (mk1 L t a B) :=
  wr_ag hR (up_ag (up_ag h _ _ _) _ _ _)
theorem fin_ag {R : List Nat} {A B : Sg} (hR : (∀ k, k ∈ LG → k ∉ R) ∧ 26 ∉ R) (h : Ex R A B) (L c t : Nat) (a : Int32) : Ex R (fin L c t a A) (fin L c t a B) :=
  two_itr (fT L (nI t) a) (fT L (nI t) a) (fun _ X Y => Ex R X Y) c (fun i X Y _ k => by
    unfold fT
    rw [k 26 hR.2]
    by_cases q : X 26 i = nI t
    · rw [if_pos q, if_pos q]
      exact mk1_ag hR.1 k L i a
    · rw [if_neg q, if_neg q]
      exact k) _ _ (mk1_ag hR.1 h L t a)
theorem a1s (x s : Int32) : x + 1 + s = x + (s + 1) := by rw [Int32.add_assoc, Int32.add_comm 1 s]
def R5 : List Nat := [12, 22, 23, 24, 25]
theorem gR_mg {A B : Sg} {s : Int32} {t : Nat} (h : Ex R5 A B) (h12 : B 12 0 = A 12 0 + 1) (h24 : rrP A t → B 24 t = A 24 t + 1) (hn : rrP A t → (A 24 t + 1 ≤ A 1 (ix (A 16 t)) ↔ A 24 t ≤ A 1 (ix (A 16 t)))) (L : Nat) : Ex R5 (gR L (s + 1) t A) (gR L s t B) := by
  have hr := rr_ex (h 21 (by decide)) (h 26 (by decide)) (h 28 (by decide)) t
  unfold gR
  rw [h 1 (by decide), h 16 (by decide)]
  by_cases r : rrP A t
  · rw [if_pos r, if_pos (hr.mpr r), h24 r, h12, a1s, a1s]
    have u : Ex R5 (up A 24 t (A 24 t + (s + 1))) (up B 24 t (A 24 t + (s + 1))) := up_ag h _ _ _
    by_cases c : A 24 t ≤ A 1 (ix (A 16 t)) ∧ A 1 (ix (A 16 t)) < A 24 t + (s + 1)
    · rw [if_pos c, if_pos ⟨(hn r).mpr c.1, c.2⟩]
      exact wr_ag (by decide) u
    · rw [if_neg c, if_neg (fun z => c ⟨(hn r).mp z.1, z.2⟩)]
      exact u
  · rw [if_neg r, if_neg (fun z => r (hr.mp z))]
    exact h
theorem gV_mg {A B : Sg} {s : Int32} {t : Nat} (h : Ex R5 A B) (h12 : B 12 0 = A 12 0 + 1) (h25 : rvP A t → B 25 t = A 25 t + 1) (hn : rvP A t → (A 25 t + 1 ≤ A 2 (ix (A 16 t)) ↔ A 25 t ≤ A 2 (ix (A 16 t)))) (L : Nat) : Ex R5 (gV L (s + 1) t A) (gV L s t B) := by
  have hr := rv_ex (h 21 (by decide)) (h 26 (by decide)) t
  unfold gV
  rw [h 2 (by decide), h 16 (by decide)]
  by_cases r : rvP A t
  · rw [if_pos r, if_pos (hr.mpr r), h25 r, h12, a1s, a1s]
    have u : Ex R5 (up A 25 t (A 25 t + (s + 1))) (up B 25 t (A 25 t + (s + 1))) := up_ag h _ _ _
    by_cases c : A 25 t ≤ A 2 (ix (A 16 t)) ∧ A 2 (ix (A 16 t)) < A 25 t + (s + 1)
    · rw [if_pos c, if_pos ⟨(hn r).mpr c.1, c.2⟩]
      exact wr_ag (by decide) u
    · rw [if_neg c, if_neg (fun z => c ⟨(hn r).mp z.1, z.2⟩)]
      exact u
  · rw [if_neg r, if_neg (fun z => r (hr.mp z))]
    exact h
theorem gL_mg {A B : Sg} (h : Ex R5 A B) (s s' : Int32) (t : Nat) : Ex R5 (gL s t A) (gL s' t B) := fun k hk => by
  rw [gL_ex s t A k (fun q => hk (by have : k = 23 := by simpa using q
                                     subst this
                                     decide)), gL_ex s' t B k (fun q => hk (by have : k = 23 := by simpa using q
                                                                               subst this
                                                                               decide))]
  exact h k hk
/-- the clocks of a stretch, behind a minute of it -/
theorem clk_mg {o s : Int32} (hn : ∀ t, t < cnt → ctP o σ t → (rrP σ t → (σ 24 t + 1 ≤ σ 1 (ix (σ 16 t)) ↔ σ 24 t ≤ σ 1 (ix (σ 16 t)))) ∧ (rvP σ t → (σ 25 t + 1 ≤ σ 2 (ix (σ 16 t)) ↔ σ 25 t ≤ σ 2 (ix (σ 16 t))))) (L : Nat) :
    Ex [12, 22] (itr (gT L (s + 1) o) cnt σ) (itr (gT L s o) cnt (qt o cnt σ)) := by
  have q0 : ∀ k, k ∉ R5 → qt o cnt σ k = σ k := fun k hk => by
    have : k ≠ 12 ∧ k ≠ 22 ∧ k ≠ 23 ∧ k ≠ 24 ∧ k ≠ 25 := by unfold R5 at hk; simpa using hk
    funext j
    unfold qt gw
    rw [if_neg (fun z => this.1 z.1), if_neg (fun z => this.2.1 z.2.1)]
    split
    · rw [if_neg (fun z => this.2.2.2.1 z.2), if_neg (fun z => this.2.2.2.2 z.2), if_neg (fun z => this.2.2.1 z.2)]
    · rfl
  have qk : ∀ k, k = 23 ∨ k = 24 ∨ k = 25 → ∀ j, qt o cnt σ k j = gw 1 o cnt σ k j := fun k hk j => by
    unfold qt
    rw [if_neg (by omega), if_neg (fun z => by have := z.2.1; omega)]
  have key := two_itr (gT L (s + 1) o) (gT L s o) (fun i A B => Ex LC σ A ∧ Ex LC (qt o cnt σ) B ∧ Ex R5 A B ∧ (∀ k, k = 23 ∨ k = 24 ∨ k = 25 → (∀ j, j < i → B k j = A k j) ∧ ∀ j, i ≤ j → A k j = σ k j ∧ B k j = gw 1 o cnt σ k j)) cnt
    (fun i A B hi I => by
      obtain ⟨I1, I2, I3, I4⟩ := I
      have gi : ∀ k, gw 1 o cnt σ k i = if ctP o σ i then (if rrP σ i ∧ k = 24 then σ 24 i + 1 else if rvP σ i ∧ k = 25 then σ 25 i + 1 else if σ 21 i = 0 ∧ k = 23 then σ 23 i + 1 else σ k i) else σ k i := fun k => by
        unfold gw
        by_cases c : ctP o σ i
        · rw [if_pos ⟨hi, c⟩, if_pos c]
        · rw [if_neg (fun z => c z.2), if_neg c]
      have cA := ct_ex (o := o) (I1 6 (by decide)) (I1 16 (by decide)) i
      have rA := rr_ex (I1 21 (by decide)) (I1 26 (by decide)) (I1 28 (by decide)) i
      have vA := rv_ex (I1 21 (by decide)) (I1 26 (by decide)) i
      have cB : ctP o B i ↔ ctP o A i := ct_ex (I3 6 (by decide)) (I3 16 (by decide)) i
      have rB := rr_ex (I3 21 (by decide)) (I3 26 (by decide)) (I3 28 (by decide)) i
      have vB := rv_ex (I3 21 (by decide)) (I3 26 (by decide)) i
      have h12 : B 12 0 = A 12 0 + 1 := by
        rw [I2 12 (by decide), I1 12 (by decide)]
        rfl
      have a24 := ((I4 24 (by decide)).2 i (Nat.le_refl _))
      have a25 := ((I4 25 (by decide)).2 i (Nat.le_refl _))
      have a23 := ((I4 23 (by decide)).2 i (Nat.le_refl _))
      have X : Ex R5 (gT L (s + 1) o i A) (gT L s o i B) := by
        unfold gT
        by_cases c : ctP o A i
        · rw [if_pos c, if_pos (cB.mpr c)]
          have c' := cA.mp c
          have g1 : Ex R5 (gR L (s + 1) i A) (gR L s i B) := gR_mg I3 h12 (fun r => by
            rw [a24.1, a24.2, gi, if_pos c', if_pos ⟨rA.mp r, rfl⟩]) (fun r => by
            rw [a24.1, I1 1 (by decide), I1 16 (by decide)]
            exact (hn i hi c').1 (rA.mp r)) L
          have xa := gR_ex L (s + 1) i A
          have xb := gR_ex L s i B
          have vA' := rv_ex (xa 21 (by decide)) (xa 26 (by decide)) i
          refine gL_mg (gV_mg g1 (by rw [xa 12 (by decide), xb 12 (by decide)]; exact h12) (fun r => ?_) (fun r => ?_) L) _ _ _
          · have r' := vA.mp (vA'.mp r)
            rw [xa 25 (by decide), xb 25 (by decide), a25.1, a25.2, gi, if_pos c', if_neg (by omega), if_pos ⟨r', rfl⟩]
          · rw [xa 25 (by decide), xa 2 (by decide), xa 16 (by decide), a25.1, I1 2 (by decide), I1 16 (by decide)]
            exact (hn i hi c').2 (vA.mp (vA'.mp r))
        · rw [if_neg c, if_neg (fun z => c (cB.mp z))]
          exact I3
      refine ⟨I1.tr (gT_ex _ _ _ _ _), I2.tr (gT_ex _ _ _ _ _), X, fun k hk => ⟨fun j hj => ?_, fun j hj => ?_⟩⟩
      · have kl : k ∉ LG := by rcases hk with rfl | rfl | rfl <;> decide
        rw [gT_at _ _ _ kl, gT_at _ _ _ kl]
        by_cases q : j = i
        · subst q
          by_cases c : ctP o A j
          · have c' := cA.mp c
            rw [if_pos (c := j = j ∧ ctP o B j) ⟨rfl, cB.mpr c⟩, if_pos (c := j = j ∧ ctP o A j) ⟨rfl, c⟩]
            rcases hk with rfl | rfl | rfl
            · have e21 : A 21 j = σ 21 j := congrFun (I1 21 (by decide)) j
              have f21 : B 21 j = A 21 j := congrFun (I3 21 (by decide)) j
              rw [if_neg (by omega), if_neg (by omega), if_neg (c := rrP A j ∧ 23 = 24) (by omega), if_neg (c := rvP A j ∧ 23 = 25) (by omega)]
              by_cases z : A 21 j = 0
              · rw [if_pos (c := B 21 j = 0 ∧ 23 = 23) ⟨f21.trans z, rfl⟩, if_pos (c := A 21 j = 0 ∧ 23 = 23) ⟨z, rfl⟩, a23.2, gi, if_pos c', if_neg (by omega), if_neg (by omega), if_pos (c := σ 21 j = 0 ∧ 23 = 23) ⟨e21.symm.trans z, rfl⟩, a1s, a23.1]
              · rw [if_neg (c := B 21 j = 0 ∧ 23 = 23) (fun w => z (f21.symm.trans w.1)), if_neg (c := A 21 j = 0 ∧ 23 = 23) (fun w => z w.1), a23.2, gi, if_pos c', if_neg (by omega), if_neg (by omega), if_neg (c := σ 21 j = 0 ∧ 23 = 23) (fun w => z (e21.trans w.1)), a23.1]
            · by_cases z : rrP A j
              · rw [if_pos (c := rrP B j ∧ 24 = 24) ⟨rB.mpr z, rfl⟩, if_pos (c := rrP A j ∧ 24 = 24) ⟨z, rfl⟩, a24.2, gi, if_pos c', if_pos (c := rrP σ j ∧ 24 = 24) ⟨rA.mp z, rfl⟩, a1s, a24.1]
              · rw [if_neg (c := rrP B j ∧ 24 = 24) (fun w => z (rB.mp w.1)), if_neg (c := rrP A j ∧ 24 = 24) (fun w => z w.1), if_neg (by omega), if_neg (by omega), if_neg (by omega), if_neg (by omega), a24.2, gi, if_pos c', if_neg (c := rrP σ j ∧ 24 = 24) (fun w => z (rA.mpr w.1)), if_neg (by omega), if_neg (by omega), a24.1]
            · rw [if_neg (by omega), if_neg (c := rrP A j ∧ 25 = 24) (by omega)]
              by_cases z : rvP A j
              · rw [if_pos (c := rvP B j ∧ 25 = 25) ⟨vB.mpr z, rfl⟩, if_pos (c := rvP A j ∧ 25 = 25) ⟨z, rfl⟩, a25.2, gi, if_pos c', if_neg (by omega), if_pos (c := rvP σ j ∧ 25 = 25) ⟨vA.mp z, rfl⟩, a1s, a25.1]
              · rw [if_neg (c := rvP B j ∧ 25 = 25) (fun w => z (vB.mp w.1)), if_neg (c := rvP A j ∧ 25 = 25) (fun w => z w.1), if_neg (by omega), if_neg (by omega), a25.2, gi, if_pos c', if_neg (by omega), if_neg (c := rvP σ j ∧ 25 = 25) (fun w => z (vA.mpr w.1)), if_neg (by omega), a25.1]
          · rw [if_neg (c := j = j ∧ ctP o B j) (fun w => c (cB.mp w.2)), if_neg (c := j = j ∧ ctP o A j) (fun w => c w.2)]
            have w := (I4 k hk).2 j (Nat.le_refl _)
            rw [w.1, w.2, gi, if_neg (fun z => c (cA.mpr z))]
        · rw [if_neg (c := j = i ∧ ctP o B i) (fun w => q w.1), if_neg (c := j = i ∧ ctP o A i) (fun w => q w.1)]
          exact (I4 k hk).1 j (by omega)
      · have kl : k ∉ LG := by rcases hk with rfl | rfl | rfl <;> decide
        rw [gT_at _ _ _ kl, gT_at _ _ _ kl, if_neg (c := j = i ∧ ctP o B i) (fun w => by omega), if_neg (c := j = i ∧ ctP o A i) (fun w => by omega)]
        exact (I4 k hk).2 j (by omega))
    σ (qt o cnt σ) ⟨Ex.rf _ _, Ex.rf _ _, q0, fun k hk => ⟨fun j hj => absurd hj (Nat.not_lt_zero _), fun j _ => ⟨rfl, qk k hk j⟩⟩⟩
  obtain ⟨k1, k2, k3, k4⟩ := key
  intro k hk
  by_cases q : k = 23 ∨ k = 24 ∨ k = 25
  · funext j
    rcases Nat.lt_or_ge j cnt with h | h
    · exact (k4 k q).1 j h
    · have w := (k4 k q).2 j h
      rw [w.1, w.2]
      unfold gw
      rw [if_neg (by omega)]
  · refine k3 k (fun z => ?_)
    have h1 : k ≠ 12 ∧ k ≠ 22 := by simpa using hk
    have h2 : k = 12 ∨ k = 22 ∨ k = 23 ∨ k = 24 ∨ k = 25 := by unfold R5 at z; simpa using z
    omega
/-- the work of a stretch, behind a minute of it -/
theorem wrk_mg {s : Int32} {A0 B0 : Sg} (h60 : cnt ≤ 60) (hx : Ex [12, 22] A0 B0) (h12 : B0 12 0 = A0 12 0 + 1) (h22 : ∀ j, B0 22 j = if j < cnt ∧ A0 21 j = 1 then A0 22 j + 1 else A0 22 j) (hI : RI cnt A0) (L : Nat) :
    Ex [12] (itr (wT L (s + 1) cnt) cnt A0) (itr (wT L s cnt) cnt B0) := by
  have key := two_itr (wT L (s + 1) cnt) (wT L s cnt) (fun i A B => Ex LW A0 A ∧ Ex LW B0 B ∧ Ex [12, 22] A B ∧ RI cnt A ∧ (∀ j, j < i → B 22 j = A 22 j) ∧ (∀ j, i ≤ j → B 22 j = if j < cnt ∧ A 21 j = 1 then A 22 j + 1 else A 22 j)) cnt
    (fun i A B hi I => by
      obtain ⟨I1, I2, I3, I4, I5, I6⟩ := I
      have g12 : B 12 0 = A 12 0 + 1 := by rw [I2 12 (by decide), I1 12 (by decide)]; exact h12
      have b21 : B 21 = A 21 := I3 21 (by decide)
      refine ⟨I1.tr (wT_ex _ _ _ _ _), I2.tr (wT_ex _ _ _ _ _), ?_⟩
      by_cases q : A 21 i = 1
      · have v22 : B 22 i = A 22 i + 1 := by rw [I6 i (Nat.le_refl _), if_pos ⟨hi, q⟩]
        have eB : wT L s cnt i B = if A 3 (ix (A 16 i)) ≤ A 22 i + (s + 1) then (if A 20 i < A 4 (ix (A 16 i)) then ra L i (A 12 0 + (s + 1)) (up B 22 i (A 22 i + (s + 1))) else fin L cnt i (A 12 0 + (s + 1)) (up B 22 i (A 22 i + (s + 1)))) else up B 22 i (A 22 i + (s + 1)) := by
          unfold wT
          rw [b21, I3 3 (by decide), I3 16 (by decide), I3 20 (by decide), I3 4 (by decide), if_pos q, g12, v22, a1s, a1s]
        have eA : wT L (s + 1) cnt i A = if A 3 (ix (A 16 i)) ≤ A 22 i + (s + 1) then (if A 20 i < A 4 (ix (A 16 i)) then ra L i (A 12 0 + (s + 1)) (up A 22 i (A 22 i + (s + 1))) else fin L cnt i (A 12 0 + (s + 1)) (up A 22 i (A 22 i + (s + 1)))) else up A 22 i (A 22 i + (s + 1)) := by
          unfold wT
          rw [if_pos q]
        rw [eA, eB]
        generalize A 22 i + (s + 1) = x
        generalize A 12 0 + (s + 1) = a
        have u : Ex [12, 22] (up A 22 i x) (up B 22 i x) := up_ag I3 _ _ _
        have u21 : up A 22 i x 21 = A 21 := up_row (by decide)
        have u26 : up A 22 i x 26 = A 26 := up_row (by decide)
        have uI : RI cnt (up A 22 i x) := I4.ex u21 u26
        have lo : ∀ j, j < i + 1 → up B 22 i x 22 j = up A 22 i x 22 j := fun j hj => by
          rw [up_ite, up_ite]
          by_cases z : j = i
          · rw [if_pos ⟨rfl, z⟩, if_pos ⟨rfl, z⟩]
          · rw [if_neg (fun w => z w.2), if_neg (fun w => z w.2)]
            exact I5 j (by omega)
        have hi2 : ∀ j, i + 1 ≤ j → up B 22 i x 22 j = if j < cnt ∧ A 21 j = 1 then up A 22 i x 22 j + 1 else up A 22 i x 22 j := fun j hj => by
          rw [up_other (fun w => by omega), up_other (fun w => by omega)]
          exact I6 j (by omega)
        by_cases c1 : A 3 (ix (A 16 i)) ≤ x
        · rw [if_pos c1, if_pos c1]
          by_cases c2 : A 20 i < A 4 (ix (A 16 i))
          · rw [if_pos c2, if_pos c2]
            refine ⟨ra_ag (by decide) u L i a, uI.rz h60 hi (by rw [u21]; exact Or.inr q) L a, fun j hj => ?_, fun j hj => ?_⟩
            · rw [ra_at _ _ _ _ (by decide), ra_at _ _ _ _ (by decide)]
              by_cases z : j = i
              · rw [if_pos z, if_pos z, if_neg (by decide), if_pos (by decide), if_neg (by decide), if_pos (by decide)]
              · rw [if_neg z, if_neg z]
                exact lo j hj
            · rw [ra_at _ _ _ _ (by decide), ra_at _ _ _ _ (by decide), ra_at _ _ _ _ (by decide), if_neg (c := j = i) (by omega), if_neg (c := j = i) (by omega), if_neg (c := j = i) (by omega), u21]
              exact hi2 j hj
          · rw [if_neg c2, if_neg c2]
            have f22 : ∀ X : Sg, fin L cnt i a X 22 = X 22 := fun X => fin_ex L cnt i a X 22 (by decide)
            refine ⟨fin_ag (by decide) u L cnt i a, uI.fz h60 hi (by rw [u21]; exact Or.inr (Or.inl q)) L a, fun j hj => ?_, fun j hj => ?_⟩
            · rw [f22, f22]
              exact lo j hj
            · rw [f22, f22, hi2 j hj]
              have e21 : (fin L cnt i a (up A 22 i x) 21 j = 1) = (A 21 j = 1) := by
                rw [fin_at L cnt i a _ (by decide)]
                unfold fw
                by_cases z : j = i ∨ j < cnt ∧ up A 22 i x 26 j = nI i
                · rw [if_pos z, if_pos rfl]
                  rcases z with z | z
                  · omega
                  · rw [u26] at z
                    apply propext
                    refine ⟨fun w => absurd w (by decide), fun w => ?_⟩
                    have := I4.alone z.1 (Or.inr (Or.inl w))
                    rw [z.2] at this
                    exact absurd this (nI_m1 (by omega))
                · rw [if_neg z, u21]
              simp only [e21]
        · rw [if_neg c1, if_neg c1]
          exact ⟨u, uI, lo, fun j hj => by rw [u21]; exact hi2 j hj⟩
      · have eA : wT L (s + 1) cnt i A = A := by
          unfold wT
          rw [if_neg q]
        have eB : wT L s cnt i B = B := by
          unfold wT
          rw [b21, if_neg q]
        rw [eA, eB]
        refine ⟨I3, I4, fun j hj => ?_, fun j hj => I6 j (by omega)⟩
        by_cases z : j = i
        · subst z
          rw [I6 j (Nat.le_refl _), if_neg (fun w => q w.2)]
        · exact I5 j (by omega))
    A0 B0 ⟨Ex.rf _ _, Ex.rf _ _, hx, hI, fun j hj => absurd hj (Nat.not_lt_zero _), fun j _ => h22 j⟩
  obtain ⟨k1, k2, k3, k4, k5, k6⟩ := key
  intro k hk
  by_cases q : k = 22
  · subst q
    funext j
    rcases Nat.lt_or_ge j cnt with h | h
    · exact k5 j h
    · rw [k6 j h, if_neg (by omega)]
  · refine k3 k (fun z => ?_)
    have h1 : k ≠ 12 := by simpa using hk
    have h2 : k = 12 ∨ k = 22 := by simpa using z
    omega
theorem clb_mg {A B : Sg} (h : Ex [12] A B) (L : Nat) (a : Int32) : Ex [12] (itr (cT L a) cnt A) (itr (cT L a) cnt B) :=
  two_itr (cT L a) (cT L a) (fun _ X Y => Ex [12] X Y) cnt (fun i X Y _ k => by
    unfold cT cbP
    rw [k 21 (by decide), k 5 (by decide), k 16 (by decide), k 20 (by decide), k 23 (by decide)]
    by_cases q : X 21 i = 0 ∧ (¬ X 5 (ix (X 16 i)) = 0 ∧ ¬ 3 ≤ X 20 i) ∧ ¬ X 23 i < X 5 (ix (X 16 i))
    · rw [if_pos q, if_pos q]
      exact ra_ag (by decide) k L i a
    · rw [if_neg q, if_neg q]
      exact k) A B h
/-- a stretch is a minute, and the rest of the stretch -/
theorem stp_mg {o s : Int32} (h60 : cnt ≤ 60) (hI : RI cnt σ) (hn : ∀ t, t < cnt → ctP o σ t → (rrP σ t → (σ 24 t + 1 ≤ σ 1 (ix (σ 16 t)) ↔ σ 24 t ≤ σ 1 (ix (σ 16 t)))) ∧ (rvP σ t → (σ 25 t + 1 ≤ σ 2 (ix (σ 16 t)) ↔ σ 25 t ≤ σ 2 (ix (σ 16 t))))) (L : Nat) :
    stp L (s + 1) o cnt σ = stp L s o cnt (qt o cnt σ) := by
  have g := clk_mg (s := s) hn L
  have xA : Ex LC σ (itr (gT L (s + 1) o) cnt σ) := itr_ex (fun i σ => gT_ex L (s + 1) o i σ) σ cnt
  have xB : Ex LC (qt o cnt σ) (itr (gT L s o) cnt (qt o cnt σ)) := itr_ex (fun i σ => gT_ex L s o i σ) _ cnt
  have q22 : ∀ j, qt o cnt σ 22 j = if j < cnt ∧ o ≠ 0 ∧ σ 21 j = 1 then σ 22 j + 1 else σ 22 j := fun j => by
    unfold qt
    rw [if_neg (by omega)]
    by_cases c : j < cnt ∧ o ≠ 0 ∧ σ 21 j = 1
    · rw [if_pos (c := j < cnt ∧ 22 = 22 ∧ o ≠ 0 ∧ σ 21 j = 1) ⟨c.1, rfl, c.2⟩, if_pos c]
    · rw [if_neg (c := j < cnt ∧ 22 = 22 ∧ o ≠ 0 ∧ σ 21 j = 1) (fun z => c ⟨z.1, z.2.2⟩), if_neg c]
      unfold gw
      split
      · rw [if_neg (by omega), if_neg (by omega), if_neg (by omega)]
      · rfl
  have q12 : ∀ j, qt o cnt σ 12 j = if j = 0 then σ 12 0 + 1 else σ 12 j := fun j => by
    unfold qt
    by_cases c : j = 0
    · rw [if_pos ⟨rfl, c⟩, if_pos c]
    · rw [if_neg (fun z => c z.2), if_neg c, if_neg (by omega)]
      unfold gw
      split
      · rw [if_neg (by omega), if_neg (by omega), if_neg (by omega)]
      · rfl
  have fin' : ∀ A B : Sg, Ex [12] A B → A 12 = σ 12 → B 12 = qt o cnt σ 12 → up (itr (cT L (A 12 0 + (s + 1))) cnt A) 12 0 (itr (cT L (A 12 0 + (s + 1))) cnt A 12 0 + (s + 1)) = up (itr (cT L (B 12 0 + s)) cnt B) 12 0 (itr (cT L (B 12 0 + s)) cnt B 12 0 + s) := fun A B h hA hB => by
    have e12 : B 12 0 + s = A 12 0 + (s + 1) := by rw [hA, hB, q12, if_pos rfl, a1s]
    have cA : itr (cT L (A 12 0 + (s + 1))) cnt A 12 = A 12 := itr_ex (fun i σ => cT_ex L _ i σ) A cnt 12 (by decide)
    have cB : itr (cT L (A 12 0 + (s + 1))) cnt B 12 = B 12 := itr_ex (fun i σ => cT_ex L _ i σ) B cnt 12 (by decide)
    rw [e12, cA, cB, e12]
    funext k j
    rw [up_ite, up_ite]
    by_cases c : k = 12 ∧ j = 0
    · rw [if_pos c, if_pos c]
    · rw [if_neg c, if_neg c]
      by_cases d : k = 12
      · subst d
        rw [cA, cB, hA, hB, q12, if_neg (fun z => c ⟨rfl, z⟩)]
      · rw [clb_mg h L _ k (by simpa using d)]
  unfold stp
  by_cases ho : o = 0
  · simp only [if_pos ho]
    refine fin' _ _ (fun k hk => ?_) (xA 12 (by decide)) (xB 12 (by decide))
    by_cases d : k = 22
    · subst d
      funext j
      rw [xB 22 (by decide), xA 22 (by decide), q22, if_neg (fun z => z.2.1 ho)]
    · exact g k (by simp at hk ⊢; exact ⟨hk, d⟩)
  · simp only [if_neg ho]
    have w := wrk_mg (s := s) h60 g (by rw [xA 12 (by decide), xB 12 (by decide), q12, if_pos rfl]) (fun j => by
      rw [xA 22 (by decide), xA 21 (by decide), xB 22 (by decide), q22]
      by_cases c : j < cnt ∧ σ 21 j = 1
      · rw [if_pos c, if_pos ⟨c.1, ho, c.2⟩]
      · rw [if_neg c, if_neg (fun z => c ⟨z.1, z.2.2⟩)]) (hI.ex (xA 21 (by decide)) (xA 26 (by decide))) L
    have yA : itr (wT L (s + 1) cnt) cnt (itr (gT L (s + 1) o) cnt σ) 12 = σ 12 := (itr_ex (fun i σ => wT_ex L (s + 1) cnt i σ) _ cnt 12 (by decide)).trans (xA 12 (by decide))
    have yB : itr (wT L s cnt) cnt (itr (gT L s o) cnt (qt o cnt σ)) 12 = qt o cnt σ 12 := (itr_ex (fun i σ => wT_ex L s cnt i σ) _ cnt 12 (by decide)).trans (xB 12 (by decide))
    exact fin' _ _ w yA yB
end Fi
