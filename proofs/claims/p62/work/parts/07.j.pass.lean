section Fj
variable {L cnt kc : Nat} {σ μ : Sg}
/-- the desk at time T -/
def Iv (cnt kc T : Nat) (σ : Sg) : Prop := T ≤ 10080 ∧ σ 12 0 = nI T ∧ KI kc σ ∧ CI σ ∧ AI σ ∧ RI cnt σ ∧ (∀ t, t < cnt → KT kc σ t) ∧ ∀ t, t < cnt → TB T σ t ∧ LK σ t
/-- both sides at time T -/
def FI (L cnt kc T : Nat) (σ μ : Sg) : Prop := Eq2 cnt kc σ μ ∧ LogR L σ μ ∧ Iv cnt kc T σ ∧ ∀ t, t < cnt → FL σ μ t
theorem cc_of (E : Eq2 cnt kc σ μ) (I : RI cnt σ) (K : ∀ t, t < cnt → KT kc σ t) : CC cnt kc σ := ⟨E.1, E.2.1, E.c, E.k, fun t ht => ⟨K t ht, I.rv ht⟩⟩
theorem cl_of (E : Eq2 cnt kc σ μ) (G : LogR L σ μ) (I : RI cnt σ) (K : ∀ t, t < cnt → KT kc σ t) : CL L cnt kc σ := ⟨cc_of E I K, LO.of G⟩
theorem KT.ex {σ' : Sg} {R : List Nat} (h : ∀ t, t < cnt → KT kc σ t) (hx : Ex R σ σ') (hR : 16 ∉ R) : ∀ t, t < cnt → KT kc σ' t := fun t ht => by
  unfold KT
  rw [hx 16 hR]
  exact h t ht
/-- it isn't due, or it waits and will be looked at -/
def LM (σ : Sg) (t : Nat) : Prop := σ 21 t = 0 ∨ LK σ t
theorem LK.rz {t : Nat} (K : KI kc σ) (hk : KT kc σ t) (h6 : kc ≤ 6) (L : Nat) (a : Int32) : LK (ra L t a σ) t := by
  have h5 := (K _ (hk.lt h6)).2.2.2.1
  have x := ra_ex L t a σ
  have e23 : ra L t a σ 23 t = 0 := by rw [ra_at _ _ _ _ (by decide), if_pos rfl, if_neg (by decide), if_pos (by decide)]
  unfold LK
  rw [x 5 (by decide), x 16 (by decide), e23]
  by_cases z : σ 5 (ix (σ 16 t)) = 0
  · exact Or.inl z
  · right
    right
    rw [z_lt, z_0]
    have : (σ 5 (ix (σ 16 t))).toInt ≠ 0 := fun q => z (z_eq.mpr (q.trans z_0.symm))
    omega
/-- what the clocks and the work of a minute leave -/
theorem mid_iv {T : Nat} (V : Iv cnt kc T σ) (h60 : cnt ≤ 60) (h6 : kc ≤ 6) (hT : T < 10080) (o : Int32) (L : Nat) :
    RI cnt (if o = 0 then itr (gT L 1 o) cnt σ else itr (wT L 1 cnt) cnt (itr (gT L 1 o) cnt σ)) ∧ ∀ t, t < cnt → TB (T + 1) (if o = 0 then itr (gT L 1 o) cnt σ else itr (wT L 1 cnt) cnt (itr (gT L 1 o) cnt σ)) t ∧ LM (if o = 0 then itr (gT L 1 o) cnt σ else itr (wT L 1 cnt) cnt (itr (gT L 1 o) cnt σ)) t := by
  obtain ⟨v1, v2, v3, v4, v5, v6, v7, v8⟩ := V
  have x1 : Ex LC σ (itr (gT L 1 o) cnt σ) := itr_ex (fun i σ => gT_ex L 1 o i σ) σ cnt
  have I1 : RI cnt (itr (gT L 1 o) cnt σ) := v6.ex (x1 21 (by decide)) (x1 26 (by decide))
  have K1 : KI kc (itr (gT L 1 o) cnt σ) := v3.ex x1 (by decide)
  have T1 := KT.ex v7 x1 (by decide)
  -- behind the clocks
  have c1 : ∀ t, t < cnt → ((0 ≤ (itr (gT L 1 o) cnt σ 22 t).toInt ∧ (itr (gT L 1 o) cnt σ 22 t).toInt ≤ T) ∧ TB (T + 1) (itr (gT L 1 o) cnt σ) t) ∧ LM (itr (gT L 1 o) cnt σ) t := fun t ht => by
    obtain ⟨⟨⟨b2, b2'⟩, ⟨b3, b3'⟩, ⟨b4, b4'⟩, b5, b5'⟩, hl⟩ := v8 t ht
    have z3 := z_up (x := σ 23 t) ⟨b3, by omega⟩
    have z4 := z_up (x := σ 24 t) ⟨b4, by omega⟩
    have z5 := z_up (x := σ 25 t) ⟨b5, by omega⟩
    have bnd : ∀ k, k = 23 ∨ k = 24 ∨ k = 25 → 0 ≤ (itr (gT L 1 o) cnt σ k t).toInt ∧ (itr (gT L 1 o) cnt σ k t).toInt ≤ (T + 1 : Nat) := fun k hk => by
      rw [grow_at 1 o cnt k (by rcases hk with rfl | rfl | rfl <;> decide)]
      unfold gw
      rcases hk with rfl | rfl | rfl
      · split
        · rw [if_neg (by omega), if_neg (by omega)]
          split
          · rw [z3]; omega
          · omega
        · omega
      · split
        · split
          · rw [z4]; omega
          · rw [if_neg (by omega), if_neg (by omega)]
            omega
        · omega
      · split
        · rw [if_neg (by omega)]
          split
          · rw [z5]; omega
          · rw [if_neg (by omega)]
            omega
        · omega
    have e22 : itr (gT L 1 o) cnt σ 22 t = σ 22 t := congrFun (x1 22 (by decide)) t
    refine ⟨⟨by rw [e22]; omega, by rw [e22]; omega, bnd 23 (by decide), bnd 24 (by decide), bnd 25 (by decide)⟩, ?_⟩
    unfold LM LK
    rw [x1 21 (by decide), x1 5 (by decide), x1 16 (by decide), x1 20 (by decide)]
    by_cases q : σ 21 t = 0
    · exact Or.inl q
    · right
      rw [grow_at 1 o cnt 23 (by decide)]
      unfold gw
      split
      · rw [if_neg (by omega), if_neg (by omega), if_neg (fun z => q z.1)]
        exact hl
      · exact hl
  by_cases ho : o = 0
  · rw [if_pos ho]
    exact ⟨I1, fun t ht => ⟨(c1 t ht).1.2, (c1 t ht).2⟩⟩
  · rw [if_neg ho]
    generalize itr (gT L 1 o) cnt σ = σ1 at x1 I1 K1 T1 c1
    have key := one_itr (wT L 1 cnt) (fun i τ => Ex LW σ1 τ ∧ RI cnt τ ∧ (∀ j, i ≤ j → τ 22 j = σ1 22 j) ∧ ∀ t, t < cnt → TB (T + 1) τ t ∧ LM τ t) cnt
      (fun i τ hi I => by
        obtain ⟨I1', I2, I3, I4⟩ := I
        have kt : KT kc τ i := KT.ex T1 I1' (by decide) i hi
        have kk : KI kc τ := K1.ex I1' (by decide)
        refine ⟨I1'.tr (wT_ex _ _ _ _ _), ?_⟩
        by_cases q : τ 21 i = 1
        · have e22 := I3 i (Nat.le_refl _)
          have b22 := (c1 i hi).1.1
          have z22 := z_up (x := τ 22 i) (by rw [e22]; exact ⟨b22.1, by have := b22.2; omega⟩)
          have u21 : up τ 22 i (τ 22 i + 1) 21 = τ 21 := up_row (by decide)
          have uI : RI cnt (up τ 22 i (τ 22 i + 1)) := I2.ex u21 (up_row (by decide))
          have ux : Ex [22] τ (up τ 22 i (τ 22 i + 1)) := Ex.up _ _ _ (by decide)
          have u22 : ∀ j, i + 1 ≤ j → up τ 22 i (τ 22 i + 1) 22 j = σ1 22 j := fun j hj => by
            rw [up_other (fun z => by omega)]
            exact I3 j (by omega)
          have uT : ∀ t, t < cnt → TB (T + 1) (up τ 22 i (τ 22 i + 1)) t ∧ LM (up τ 22 i (τ 22 i + 1)) t := fun t ht => by
            obtain ⟨⟨p2, p3, p4, p5⟩, pl⟩ := I4 t ht
            refine ⟨⟨?_, ?_, ?_, ?_⟩, ?_⟩
            · by_cases z : t = i
              · subst z
                rw [up_same, z22, e22]
                have := b22.1
                have := b22.2
                omega
              · rw [up_other (fun w => z w.2)]
                exact p2
            · rw [ux 23 (by decide)]
              exact p3
            · rw [ux 24 (by decide)]
              exact p4
            · rw [ux 25 (by decide)]
              exact p5
            · unfold LM LK
              rw [ux 21 (by decide), ux 5 (by decide), ux 16 (by decide), ux 20 (by decide), ux 23 (by decide)]
              exact pl
          unfold wT
          rw [if_pos q]
          by_cases c1' : τ 3 (ix (τ 16 i)) ≤ τ 22 i + 1
          · rw [if_pos c1']
            generalize τ 12 0 + 1 = a
            have kt' : KT kc (up τ 22 i (τ 22 i + 1)) i := by unfold KT; rw [ux 16 (by decide)]; exact kt
            have kk' : KI kc (up τ 22 i (τ 22 i + 1)) := kk.ex ux (by decide)
            by_cases c2 : τ 20 i < τ 4 (ix (τ 16 i))
            · rw [if_pos c2]
              have lk := LK.rz kk' kt' h6 L a
              generalize up τ 22 i (τ 22 i + 1) = υ at u21 uI u22 uT lk
              have xr := ra_ex L i a υ
              refine ⟨uI.rz h60 hi (by rw [u21]; exact Or.inr q) L a, fun j hj => ?_, fun t ht => ?_⟩
              · rw [ra_at _ _ _ _ (by decide), if_neg (by omega)]
                exact u22 j hj
              · obtain ⟨⟨p2, p3, p4, p5⟩, pl⟩ := uT t ht
                by_cases z : t = i
                · subst z
                  refine ⟨⟨?_, ?_, by rw [xr 24 (by decide)]; exact p4, by rw [xr 25 (by decide)]; exact p5⟩, Or.inr lk⟩
                  · rw [ra_at _ _ _ _ (by decide), if_pos rfl, if_neg (by decide), if_pos (by decide), z_0]
                    omega
                  · rw [ra_at _ _ _ _ (by decide), if_pos rfl, if_neg (by decide), if_pos (by decide), z_0]
                    omega
                · have e : ∀ k, k ∉ LG → ra L i a υ k t = υ k t := fun k hk => by rw [ra_at _ _ _ _ hk, if_neg z]
                  refine ⟨⟨by rw [e 22 (by decide)]; exact p2, by rw [e 23 (by decide)]; exact p3, by rw [e 24 (by decide)]; exact p4, by rw [e 25 (by decide)]; exact p5⟩, ?_⟩
                  unfold LM LK
                  rw [e 21 (by decide), xr 5 (by decide), e 16 (by decide), e 20 (by decide), e 23 (by decide)]
                  exact pl
            · rw [if_neg c2]
              generalize up τ 22 i (τ 22 i + 1) = υ at u21 uI u22 uT
              have xr := fin_ex L cnt i a υ
              refine ⟨uI.fz h60 hi (by rw [u21]; exact Or.inr (Or.inl q)) L a, fun j hj => ?_, fun t ht => ?_⟩
              · rw [xr 22 (by decide)]
                exact u22 j hj
              · obtain ⟨⟨p2, p3, p4, p5⟩, pl⟩ := uT t ht
                refine ⟨⟨by rw [xr 22 (by decide)]; exact p2, by rw [xr 23 (by decide)]; exact p3, by rw [xr 24 (by decide)]; exact p4, by rw [xr 25 (by decide)]; exact p5⟩, ?_⟩
                unfold LM LK
                rw [xr 5 (by decide), xr 16 (by decide), xr 20 (by decide), xr 23 (by decide), fin_at L cnt i a υ (by decide)]
                unfold fw
                by_cases z : t = i ∨ t < cnt ∧ υ 26 t = nI i
                · right
                  rcases pl with w | w
                  · exfalso
                    rcases z with rfl | z
                    · rw [u21] at w
                      rw [q] at w
                      exact absurd w (by decide)
                    · have := uI.alone ht (Or.inl w)
                      rw [z.2] at this
                      exact absurd this (nI_m1 (by omega))
                  · exact w
                · rw [if_neg z]
                  exact pl
          · rw [if_neg c1']
            exact ⟨uI, u22, uT⟩
        · have e : wT L 1 cnt i τ = τ := by
            unfold wT
            rw [if_neg q]
          rw [e]
          exact ⟨I2, fun j hj => I3 j (by omega), I4⟩)
      σ1 ⟨Ex.rf _ _, I1, fun _ _ => rfl, fun t ht => ⟨(c1 t ht).1.2, (c1 t ht).2⟩⟩
    exact ⟨key.2.1, key.2.2.2⟩
/-- a minute, behind the taking, keeps the desk -/
theorem stp_iv {T : Nat} (V : Iv cnt kc T σ) (h60 : cnt ≤ 60) (h6 : kc ≤ 6) (hT : T < 10080) (o : Int32) (L : Nat) : Iv cnt kc (T + 1) (stp L 1 o cnt σ) := by
  obtain ⟨m1, m2⟩ := mid_iv V h60 h6 hT o L
  obtain ⟨v1, v2, v3, v4, v5, v6, v7, v8⟩ := V
  have x1 : Ex LC σ (itr (gT L 1 o) cnt σ) := itr_ex (fun i σ => gT_ex L 1 o i σ) σ cnt
  have x2 : Ex LW (itr (gT L 1 o) cnt σ) (if o = 0 then itr (gT L 1 o) cnt σ else itr (wT L 1 cnt) cnt (itr (gT L 1 o) cnt σ)) := by
    split
    · exact Ex.rf _ _
    · exact itr_ex (fun i σ => wT_ex L 1 cnt i σ) _ cnt
  have x12 : Ex [7, 8, 9, 10, 11, 20, 21, 22, 23, 24, 25, 29] σ (if o = 0 then itr (gT L 1 o) cnt σ else itr (wT L 1 cnt) cnt (itr (gT L 1 o) cnt σ)) := (x1.wk (by decide)).tr (x2.wk (by decide))
  unfold stp
  simp only []
  generalize (if o = 0 then itr (gT L 1 o) cnt σ else itr (wT L 1 cnt) cnt (itr (gT L 1 o) cnt σ)) = σ3 at m1 m2 x12
  have e12 : σ3 12 0 = nI T := by rw [x12 12 (by decide)]; exact v2
  generalize σ3 12 0 + 1 = a
  have K3 : KI kc σ3 := v3.ex x12 (by decide)
  have T3 := KT.ex v7 x12 (by decide)
  have key := one_itr (cT L a) (fun i τ => Ex LA σ3 τ ∧ RI cnt τ ∧ ∀ t, t < cnt → TB (T + 1) τ t ∧ (t < i → LK τ t) ∧ LM τ t) cnt
    (fun i τ hi I => by
      obtain ⟨I1, I2, I3⟩ := I
      have kt : KT kc τ i := KT.ex T3 I1 (by decide) i hi
      have kk : KI kc τ := K3.ex I1 (by decide)
      refine ⟨I1.tr (cT_ex _ _ _ _), ?_⟩
      unfold cT
      by_cases q : τ 21 i = 0 ∧ cbP τ i ∧ ¬ τ 23 i < τ 5 (ix (τ 16 i))
      · rw [if_pos q]
        have lk := LK.rz kk kt h6 L a
        have xr := ra_ex L i a τ
        refine ⟨I2.rz h60 hi (Or.inl q.1) L a, fun t ht => ?_⟩
        obtain ⟨⟨p2, p3, p4, p5⟩, pk, pl⟩ := I3 t ht
        by_cases z : t = i
        · subst z
          refine ⟨⟨?_, ?_, by rw [xr 24 (by decide)]; exact p4, by rw [xr 25 (by decide)]; exact p5⟩, fun _ => lk, Or.inr lk⟩
          · rw [ra_at _ _ _ _ (by decide), if_pos rfl, if_neg (by decide), if_pos (by decide), z_0]
            omega
          · rw [ra_at _ _ _ _ (by decide), if_pos rfl, if_neg (by decide), if_pos (by decide), z_0]
            omega
        · have e : ∀ k, k ∉ LG → ra L i a τ k t = τ k t := fun k hk => by rw [ra_at _ _ _ _ hk, if_neg z]
          have ek : LK (ra L i a τ) t ↔ LK τ t := by
            unfold LK
            rw [xr 5 (by decide), e 16 (by decide), e 20 (by decide), e 23 (by decide)]
          refine ⟨⟨by rw [e 22 (by decide)]; exact p2, by rw [e 23 (by decide)]; exact p3, by rw [e 24 (by decide)]; exact p4, by rw [e 25 (by decide)]; exact p5⟩, fun h => ek.mpr (pk (by omega)), ?_⟩
          unfold LM
          rw [e 21 (by decide), ek]
          exact pl
      · rw [if_neg q]
        refine ⟨I2, fun t ht => ?_⟩
        obtain ⟨p, pk, pl⟩ := I3 t ht
        refine ⟨p, fun h => ?_, pl⟩
        by_cases z : t = i
        · subst z
          rcases pl with w | w
          · by_cases g : τ 5 (ix (τ 16 t)) = 0
            · exact Or.inl g
            · by_cases g2 : 3 ≤ τ 20 t
              · exact Or.inr (Or.inl g2)
              · exact Or.inr (Or.inr (Classical.byContradiction fun g3 => q ⟨w, ⟨g, g2⟩, g3⟩))
          · exact w
        · exact pk (by omega))
    σ3 ⟨Ex.rf _ _, m1, fun t ht => ⟨(m2 t ht).1, fun h => absurd h (Nat.not_lt_zero _), (m2 t ht).2⟩⟩
  obtain ⟨k1, k2, k3⟩ := key
  have e4 : itr (cT L a) cnt σ3 12 0 + 1 = nI (T + 1) := by rw [k1 12 (by decide), e12, nI_1]
  rw [e4]
  have xf : Ex [12] (itr (cT L a) cnt σ3) (up (itr (cT L a) cnt σ3) 12 0 (nI (T + 1))) := Ex.up _ _ _ (by decide)
  have xx : Ex [7, 8, 9, 10, 11, 12, 20, 21, 22, 23, 24, 25, 29] σ (up (itr (cT L a) cnt σ3) 12 0 (nI (T + 1))) := ((x12.wk (by decide)).tr (k1.wk (by decide))).tr (xf.wk (by decide))
  refine ⟨by omega, up_same _ _ _ _, v3.ex xx (by decide), v4.ex xx (by decide), v5.ex xx (by decide), k2.ex (xf 21 (by decide)) (xf 26 (by decide)), KT.ex v7 xx (by decide), fun t ht => ?_⟩
  obtain ⟨⟨p2, p3, p4, p5⟩, pk, -⟩ := k3 t ht
  refine ⟨⟨by rw [xf 22 (by decide)]; exact p2, by rw [xf 23 (by decide)]; exact p3, by rw [xf 24 (by decide)]; exact p4, by rw [xf 25 (by decide)]; exact p5⟩, ?_⟩
  unfold LK
  rw [xf 5 (by decide), xf 16 (by decide), xf 20 (by decide), xf 23 (by decide)]
  exact pk ht
end Fj
