section Pc
variable {cnt kc A : Nat} {σ υ : Sg}
/-! p62: a minute's steps keep it -/
def JR (cnt kc A : Nat) (σ : Sg) : Prop := JI cnt kc A σ ∧ RI cnt σ ∧ KI kc σ ∧ (∀ t, t < cnt → KT kc σ t) ∧ cnt ≤ 60 ∧ kc ≤ 6
theorem JR.eff (h : JR cnt kc A σ) {t : Nat} (ht : t < cnt) : 1 ≤ (σ 3 (ix (σ 16 t))).toInt ∧ (σ 3 (ix (σ 16 t))).toInt ≤ 480 :=
  (h.2.2.1 _ ((h.2.2.2.1 t ht).lt h.2.2.2.2.2)).2.2.1
theorem K4.ex {R : List Nat} {σ' : Sg} (h : K4 kc σ) (hx : Ex R σ σ') (hR : 4 ∉ R) : K4 kc σ' := by
  unfold K4
  rw [hx 4 hR]
  exact h
theorem JI.le {B : Nat} (h : JI cnt kc A σ) (hB : A ≤ B) : JI cnt kc B σ := by
  obtain ⟨h1, h2, h3, ln, h4⟩ := h
  exact ⟨fun t ht => (h1 t ht).le hB, h2, h3, ln, h4.le hB⟩
theorem tk_28 (L t : Nat) (σ : Sg) (j : Nat) : tk L t σ 28 j = if j = t then (if σ 28 t = -1 then σ 12 0 else σ 28 t) else σ 28 j := by
  unfold tk
  rw [wr_ex _ _ _ _ _ _ 28 (by decide)]
  by_cases c : σ 28 t = -1
  · rw [if_pos c, up_ite, up_row (by decide), if_pos c]
    by_cases z : j = t
    · rw [if_pos ⟨rfl, z⟩, if_pos z]
    · rw [if_neg (fun w => z w.2), if_neg z]
  · rw [if_neg c, up_row (by decide), if_neg c]
    by_cases z : j = t
    · rw [if_pos z, z]
    · rw [if_neg z]
theorem jr_tk (h : JR cnt kc A σ) (hA : A ≤ 10080) (h12 : σ 12 0 = nI A) {l t : Nat} (hl : l < 4) (ht : t < cnt) (hq : qP (nI l) σ t) (hb : (fb_ct (wB σ l) cnt : Int) < (σ 30 l).toInt) : JR cnt kc A (tk 600 t σ) := by
  obtain ⟨⟨h1, h2, h3, ln, h4⟩, hI, hK, hT, h60, h6⟩ := h
  have x := tk_ex 600 t σ
  refine ⟨⟨fun j hj => ?_, fun l' hl' => ?_, h3.ex x (by decide), ?_⟩, hI.tz hq.1 600, hK.ex x (by decide), KT.ex hT x (by decide), h60, h6⟩
  · have w := h1 j hj
    unfold XT at w ⊢
    rw [x 3 (by decide), x 16 (by decide), x 20 (by decide), x 22 (by decide), x 24 (by decide), x 25 (by decide), x 26 (by decide), x 27 (by decide), x 29 (by decide), tk_21, tk_28]
    by_cases z : j = t
    · subst z
      rw [if_pos rfl, if_pos rfl, h12]
      rw [hq.1] at w
      exact w.take
    · rw [if_neg z, if_neg z]
      exact w
  · rw [x 30 (by decide)]
    by_cases z : l' = l
    · subst z
      rw [tk_wB ht hq 600]
      omega
    · have : fb_ct (wB (tk 600 t σ) l') cnt ≤ fb_ct (wB σ l') cnt := fb_ct_sub (fun j hj q => by
        unfold wB at q ⊢
        have q2 := of_decide_eq_true q
        rw [x 20 (by decide), tk_21] at q2
        by_cases y : j = t
        · subst y
          exact absurd ((nI_eq (by omega) (by omega)).mp (q2.2.symm.trans hq.2)) z
        · rw [if_neg y] at q2
          exact decide_eq_true q2)
      have := h2 l' hl'
      omega
  · have hx : Ex [21, 28] σ (if σ 28 t = -1 then up (up σ 21 t 1) 28 t (σ 12 0) else up σ 21 t 1) := by
      split
      · exact (Ex.up _ _ _ (by decide)).tr (Ex.up _ _ _ (by decide))
      · exact Ex.up _ _ _ (by decide)
    have e21 : ∀ j, (if σ 28 t = -1 then up (up σ 21 t 1) 28 t (σ 12 0) else up σ 21 t 1) 21 j = if j = t then 1 else σ 21 j := fun j => by
      split
      · rw [up_row (by decide), up_ite]
        by_cases z : j = t
        · rw [if_pos ⟨rfl, z⟩, if_pos z]
        · rw [if_neg (fun w => z w.2), if_neg z]
      · rw [up_ite]
        by_cases z : j = t
        · rw [if_pos ⟨rfl, z⟩, if_pos z]
        · rw [if_neg (fun w => z w.2), if_neg z]
    have k := (h4.ex hx (by decide) (fun j hj q => by
      rw [e21] at q
      rw [hx 29 (by decide)]
      split at q
      · exact absurd q (by decide)
      · exact ⟨q, rfl⟩)).wr hA h60 (b := 1) (by decide) (σ 20 t) ht
    have e : tk 600 t σ = wr 600 (nI A) 1 (nI t) (σ 20 t) (if σ 28 t = -1 then up (up σ 21 t 1) 28 t (σ 12 0) else up σ 21 t 1) := by
      unfold tk
      rw [h12]
    rw [e]
    exact ⟨_, k⟩
/-- a ticket climbs -/
theorem jr_ra (h : JR cnt kc A σ) (hA : A ≤ 10080) {i : Nat} (hi : i < cnt) (hs : σ 21 i = 0 ∨ σ 21 i = 1) (hl : (σ 20 i).toInt < 3) (hx : Ex [22] σ υ) (h22 : ∀ j, j ≠ i → υ 22 j = σ 22 j) : JR cnt kc A (ra 600 i (nI A) υ) := by
  have he := h.eff hi
  obtain ⟨⟨h1, h2, h3, ln, h4⟩, hI, hK, hT, h60, h6⟩ := h
  have x1 := ra_ex 600 i (nI A) υ
  have x : Ex LA σ (ra 600 i (nI A) υ) := (hx.wk (by decide)).tr x1
  have u21 : υ 21 = σ 21 := hx 21 (by decide)
  have uI : RI cnt υ := hI.ex u21 (hx 26 (by decide))
  have a21 : ∀ j, ra 600 i (nI A) υ 21 j = if j = i then 0 else σ 21 j := fun j => by
    rw [ra_at _ _ _ _ (by decide)]
    by_cases z : j = i
    · rw [if_pos z, if_neg (by decide), if_pos (by decide), if_pos z]
    · rw [if_neg z, if_neg z, u21]
  have a20 : ∀ j, ra 600 i (nI A) υ 20 j = if j = i then σ 20 i + 1 else σ 20 j := fun j => by
    rw [ra_at _ _ _ _ (by decide)]
    by_cases z : j = i
    · rw [if_pos z, if_pos rfl, if_pos z, hx 20 (by decide)]
    · rw [if_neg z, if_neg z, hx 20 (by decide)]
  have a22 : ∀ j, ra 600 i (nI A) υ 22 j = if j = i then 0 else σ 22 j := fun j => by
    rw [ra_at _ _ _ _ (by decide)]
    by_cases z : j = i
    · rw [if_pos z, if_neg (by decide), if_pos (by decide), if_pos z]
    · rw [if_neg z, if_neg z, h22 j z]
  have s3 : σ 21 i ≠ 3 := by rcases hs with z | z <;> rw [z] <;> decide
  refine ⟨⟨fun j hj => ?_, h2.sub (x 30 (by decide)) (fun j hj q => ?_), h3.ex x (by decide), ?_⟩, uI.rz h60 hi (by rw [u21]; exact hs) 600 _, hK.ex x (by decide), KT.ex hT x (by decide), h60, h6⟩
  · have w := h1 j hj
    unfold XT at w ⊢
    rw [x 3 (by decide), x 16 (by decide), a20, a21, a22, x 24 (by decide), x 25 (by decide), x 26 (by decide), x 27 (by decide), x 28 (by decide), x 29 (by decide)]
    by_cases z : j = i
    · subst z
      rw [if_pos rfl, if_pos rfl, if_pos rfl]
      exact w.raise s3 hl he.1
    · rw [if_neg z, if_neg z, if_neg z]
      exact w
  · rw [a21] at q
    rw [a20]
    by_cases z : j = i
    · rw [if_pos z] at q
      exact absurd q (by decide)
    · rw [if_neg z] at q
      exact ⟨q, if_neg z⟩
  · have hy : Ex [20, 21, 22, 23] σ (up (up (up (up υ 20 i (υ 20 i + 1)) 21 i 0) 22 i 0) 23 i 0) := ((((hx.wk (by decide)).tr (Ex.up _ _ _ (by decide))).tr (Ex.up _ _ _ (by decide))).tr (Ex.up _ _ _ (by decide))).tr (Ex.up _ _ _ (by decide))
    refine ⟨_, (h4.ex hy (by decide) (fun j hj q => ?_)).wr hA h60 (b := 4) (by decide) _ hi⟩
    rw [up_row (by decide), up_row (by decide), up_ite, up_row (by decide), u21] at q
    rw [hy 29 (by decide)]
    split at q
    · exact absurd q (by decide)
    · exact ⟨q, rfl⟩
/-- a ticket is solved -/
theorem jr_fin (h : JR cnt kc A σ) (hA : A ≤ 10080) {i : Nat} (hi : i < cnt) (hs : σ 21 i = 0 ∨ σ 21 i = 1 ∨ σ 21 i = 2) (hx : Ex [22] σ υ) (h22 : ∀ j, j ≠ i → υ 22 j = σ 22 j) (hp : 0 ≤ (υ 22 i).toInt ∧ υ 22 i ≤ σ 3 (ix (σ 16 i))) : JR cnt kc A (fin 600 cnt i (nI A) υ) := by
  obtain ⟨⟨h1, h2, h3, ln, h4⟩, hI, hK, hT, h60, h6⟩ := h
  have x1 := fin_ex 600 cnt i (nI A) υ
  have x : Ex [7, 8, 9, 10, 11, 21, 22, 29] σ (fin 600 cnt i (nI A) υ) := (hx.wk (by decide)).tr (x1.wk (by decide))
  have u21 : υ 21 = σ 21 := hx 21 (by decide)
  have u26 : υ 26 = σ 26 := hx 26 (by decide)
  have u29 : υ 29 = σ 29 := hx 29 (by decide)
  have uI : RI cnt υ := hI.ex u21 u26
  have s3 : σ 21 i ≠ 3 := by rcases hs with z | z | z <;> rw [z] <;> decide
  have ri : σ 26 i = -1 := hI.alone hi hs
  have a21 : ∀ j, fin 600 cnt i (nI A) υ 21 j = if j = i ∨ j < cnt ∧ σ 26 j = nI i then 3 else σ 21 j := fun j => by
    rw [fin_at _ _ _ _ _ (by decide)]
    unfold fw
    rw [u26]
    split
    · exact if_pos rfl
    · rw [u21]
  have a29 : ∀ j, fin 600 cnt i (nI A) υ 29 j = if j = i ∨ j < cnt ∧ σ 26 j = nI i then nI A else σ 29 j := fun j => by
    rw [fin_at _ _ _ _ _ (by decide)]
    unfold fw
    rw [u26]
    split
    · rw [if_neg (by decide), if_pos rfl]
    · rw [u29]
  have a22 : fin 600 cnt i (nI A) υ 22 = υ 22 := x1 22 (by decide)
  refine ⟨⟨fun j hj => ?_, h2.sub (x 30 (by decide)) (fun j hj q => ?_), h3.ex x (by decide), ?_⟩, uI.fz h60 hi (by rw [u21]; exact hs) 600 _, hK.ex x (by decide), KT.ex hT x (by decide), h60, h6⟩
  · have w := h1 j hj
    unfold XT at w ⊢
    rw [x 3 (by decide), x 16 (by decide), x 20 (by decide), a21, a22, x 24 (by decide), x 25 (by decide), x 26 (by decide), x 27 (by decide), x 28 (by decide), a29]
    by_cases z : j = i
    · subst z
      rw [if_pos (Or.inl rfl), if_pos (Or.inl rfl), ri]
      rw [ri] at w
      exact w.done hp
    · rw [h22 j z]
      by_cases y : j < cnt ∧ σ 26 j = nI i
      · rw [if_pos (Or.inr y), if_pos (Or.inr y)]
        refine w.solve fun q => ?_
        rcases (hI j hj).2 with g | ⟨r, r1, r2, r3, r4⟩
        · rw [g.1] at y
          exact nI_m1 (by omega) y.2.symm
        · have er : r = i := (nI_eq (by omega) (by omega)).mp (r2.symm.trans y.2)
          subst er
          rcases r4 with g | g
          · rw [g.1] at q
            exact absurd q (by decide)
          · exact s3 g.2
      · rw [if_neg (fun q => q.elim z y), if_neg (fun q => q.elim z y)]
        exact w
  · rw [a21] at q
    rw [x 20 (by decide)]
    split at q
    · exact absurd q (by decide)
    · exact ⟨q, rfl⟩
  · exact (h4.ex hx (by decide) (fun j hj q => by rw [u21] at q; rw [u29]; exact ⟨q, rfl⟩)).fin hA h60 hi
/-- the clocks of a minute -/
theorem JR.clk (h : JR cnt kc A σ) (hA : A < 10080) (h12 : σ 12 0 = nI A) (hb : ∀ t, t < cnt → TB 20000 σ t) (o : Int32) : JR cnt kc (A + 1) (itr (gT 600 1 o) cnt σ) := by
  obtain ⟨⟨h1, h2, h3, ln, h4⟩, hI, hK, hT, h60, h6⟩ := h
  have x : Ex LC σ (itr (gT 600 1 o) cnt σ) := itr_ex (fun i σ => gT_ex 600 1 o i σ) σ cnt
  refine ⟨⟨fun j hj => ?_, h2.sub (x 30 (by decide)) (fun j hj q => by rw [x 21 (by decide)] at q; rw [x 20 (by decide)]; exact ⟨q, rfl⟩), h3.ex x (by decide), ?_⟩, hI.ex (x 21 (by decide)) (x 26 (by decide)), hK.ex x (by decide), KT.ex hT x (by decide), h60, h6⟩
  · have w := h1 j hj
    obtain ⟨-, -, ⟨b4, b4'⟩, b5, b5'⟩ := hb j hj
    have z4 := z_up (x := σ 24 j) ⟨b4, by omega⟩
    have z5 := z_up (x := σ 25 j) ⟨b5, by omega⟩
    unfold XT at w ⊢
    rw [x 3 (by decide), x 16 (by decide), x 20 (by decide), x 21 (by decide), x 22 (by decide), x 26 (by decide), x 27 (by decide), x 28 (by decide), x 29 (by decide)]
    refine w.clock ?_ ?_
    · rw [grow_at 1 o cnt 24 (by decide)]
      unfold gw
      split
      · split
        · omega
        · rw [if_neg (by omega), if_neg (by omega)]
          omega
      · omega
    · rw [grow_at 1 o cnt 25 (by decide)]
      unfold gw
      split
      · rw [if_neg (by omega)]
        split
        · omega
        · rw [if_neg (by omega)]
          omega
      · omega
  · have t1 : σ 12 0 + 1 = nI (A + 1) := by rw [h12, nI_1]
    have key := one_itr (gT 600 1 o) (fun _ τ => Ex LC σ τ ∧ ∃ n, LJ cnt (A + 1) n τ) cnt (fun i τ hi I => by
      obtain ⟨I1, n, I2⟩ := I
      refine ⟨I1.tr (gT_ex _ _ _ _ _), ?_⟩
      have e12 : τ 12 0 + 1 = nI (A + 1) := by rw [I1 12 (by decide)]; exact t1
      unfold gT
      split
      · have s1 : ∃ n, LJ cnt (A + 1) n (gR 600 1 i τ) := by
          unfold gR
          have hu := I2.ex (σ' := up τ 24 i (τ 24 i + 1)) (Ex.up (R := [24]) τ (k := 24) i (τ 24 i + 1) (by decide)) (by decide) (fun j hj q => by rw [up_row (by decide)] at q; rw [up_row (by decide)]; exact ⟨q, rfl⟩)
          split
          · split
            · rw [e12]
              exact ⟨_, hu.wr (by omega) h60 (b := 8) (by decide) _ hi⟩
            · exact ⟨_, hu⟩
          · exact ⟨_, I2⟩
        have xR := gR_ex 600 1 i τ
        have e12' : gR 600 1 i τ 12 0 + 1 = nI (A + 1) := by rw [xR 12 (by decide)]; exact e12
        generalize gR 600 1 i τ = υ at s1 e12'
        obtain ⟨n1, s1⟩ := s1
        have s2 : ∃ n, LJ cnt (A + 1) n (gV 600 1 i υ) := by
          unfold gV
          have hu := s1.ex (σ' := up υ 25 i (υ 25 i + 1)) (Ex.up (R := [25]) υ (k := 25) i (υ 25 i + 1) (by decide)) (by decide) (fun j hj q => by rw [up_row (by decide)] at q; rw [up_row (by decide)]; exact ⟨q, rfl⟩)
          split
          · split
            · rw [e12']
              exact ⟨_, hu.wr (by omega) h60 (b := 9) (by decide) _ hi⟩
            · exact ⟨_, hu⟩
          · exact ⟨_, s1⟩
        obtain ⟨n2, s2⟩ := s2
        exact ⟨n2, s2.ex (gL_ex 1 i _) (by decide) (fun j hj q => by rw [gL_ex 1 i _ 21 (by decide)] at q; rw [gL_ex 1 i _ 29 (by decide)]; exact ⟨q, rfl⟩)⟩
      · exact ⟨_, I2⟩) σ ⟨Ex.rf _ _, ln, h4.le (by omega)⟩
    exact key.2
theorem JR.work (h : JR cnt kc A σ) (hA : A ≤ 10080) (h12 : σ 12 0 + 1 = nI A) : JR cnt kc A (itr (wT 600 1 cnt) cnt σ) := by
  have key := one_itr (wT 600 1 cnt) (fun _ τ => Ex LW σ τ ∧ JR cnt kc A τ) cnt (fun i τ hi I => by
    obtain ⟨I1, I2⟩ := I
    refine ⟨I1.tr (wT_ex _ _ _ _ _), ?_⟩
    have e12 : τ 12 0 + 1 = nI A := by rw [I1 12 (by decide)]; exact h12
    have he := I2.eff hi
    have w := I2.1.1 i hi
    have k4 := I2.1.2.2.1 _ ((I2.2.2.2.1 i hi).lt I2.2.2.2.2.2)
    unfold wT
    by_cases q : τ 21 i = 1
    · rw [if_pos q, e12]
      have w' := w
      unfold XT at w'
      obtain ⟨_, _, _, _, _, _, ⟨⟨p0, p1⟩, p2⟩, _, _⟩ := w'
      have p3 := z_lt.mp (p2 (Or.inl (by rw [q]; decide)))
      have zp : (τ 22 i + 1).toInt = (τ 22 i).toInt + 1 := z_up ⟨p0, by omega⟩
      have hx : Ex [22] τ (up τ 22 i (τ 22 i + 1)) := Ex.up _ _ _ (by decide)
      have h22 : ∀ j, j ≠ i → up τ 22 i (τ 22 i + 1) 22 j = τ 22 j := fun j hj => up_other (fun z => hj z.2)
      by_cases c : τ 3 (ix (τ 16 i)) ≤ τ 22 i + 1
      · rw [if_pos c]
        by_cases c2 : τ 20 i < τ 4 (ix (τ 16 i))
        · rw [if_pos c2]
          exact jr_ra I2 hA hi (Or.inr q) (by have := z_lt.mp c2; omega) hx h22
        · rw [if_neg c2]
          refine jr_fin I2 hA hi (Or.inr (Or.inl q)) hx h22 ?_
          rw [up_same]
          exact ⟨by omega, z_le.mpr (by omega)⟩
      · rw [if_neg c]
        obtain ⟨⟨h1, h2, h3, ln, h4⟩, hI, hK, hT, h60, h6⟩ := I2
        refine ⟨⟨fun j hj => ?_, h2.sub (hx 30 (by decide)) (fun j hj q => by rw [hx 21 (by decide)] at q; rw [hx 20 (by decide)]; exact ⟨q, rfl⟩), h3.ex hx (by decide), ln, h4.ex hx (by decide) (fun j hj q => by rw [hx 21 (by decide)] at q; rw [hx 29 (by decide)]; exact ⟨q, rfl⟩)⟩, hI.ex (hx 21 (by decide)) (hx 26 (by decide)), hK.ex hx (by decide), KT.ex hT hx (by decide), h60, h6⟩
        by_cases z : j = i
        · subst z
          unfold XT at w ⊢
          rw [hx 3 (by decide), hx 16 (by decide), hx 20 (by decide), hx 21 (by decide), up_same, hx 24 (by decide), hx 25 (by decide), hx 26 (by decide), hx 27 (by decide), hx 28 (by decide), hx 29 (by decide)]
          exact w.prog (by omega) (Int32.not_le.mp c)
        · exact (h1 j hj).same (hx 3 (by decide)) (by rw [hx 16 (by decide)]) (fun k hk => by
            by_cases k22 : k = 22
            · subst k22
              exact h22 j z
            · rw [hx k (by simpa using k22)])
    · rw [if_neg q]
      exact I2) σ ⟨Ex.rf _ _, h⟩
  exact key.2
theorem JR.climb (h : JR cnt kc A σ) (hA : A ≤ 10080) : JR cnt kc A (itr (cT 600 (nI A)) cnt σ) :=
  one_itr (cT 600 (nI A)) (fun _ τ => JR cnt kc A τ) cnt (fun i τ hi I => by
    unfold cT
    by_cases q : τ 21 i = 0 ∧ cbP τ i ∧ ¬ τ 23 i < τ 5 (ix (τ 16 i))
    · rw [if_pos q]
      refine jr_ra I hA hi (Or.inl q.1) ?_ (Ex.rf _ _) (fun _ _ => rfl)
      have := z_lt.mp (Int32.not_le.mp q.2.1.2)
      rw [show (3 : Int32).toInt = 3 from by decide] at this
      exact this
    · rw [if_neg q]
      exact I) σ h
/-- a minute, behind the taking -/
theorem jr_stp (h : JR cnt kc A σ) (hA : A < 10080) (h12 : σ 12 0 = nI A) (hb : ∀ t, t < cnt → TB 20000 σ t) (o : Int32) : JR cnt kc (A + 1) (stp 600 1 o cnt σ) := by
  have c := h.clk hA h12 hb o
  have x1 : Ex LC σ (itr (gT 600 1 o) cnt σ) := itr_ex (fun i σ => gT_ex 600 1 o i σ) σ cnt
  have t1 : itr (gT 600 1 o) cnt σ 12 0 + 1 = nI (A + 1) := by rw [x1 12 (by decide), h12, nI_1]
  have w : JR cnt kc (A + 1) (if o = 0 then itr (gT 600 1 o) cnt σ else itr (wT 600 1 cnt) cnt (itr (gT 600 1 o) cnt σ)) := by
    split
    · exact c
    · exact c.work (by omega) t1
  have t2 : (if o = 0 then itr (gT 600 1 o) cnt σ else itr (wT 600 1 cnt) cnt (itr (gT 600 1 o) cnt σ)) 12 0 + 1 = nI (A + 1) := by
    split
    · exact t1
    · rw [itr_ex (fun i σ => wT_ex 600 1 cnt i σ) _ cnt 12 (by decide)]
      exact t1
  unfold stp
  simp only []
  generalize (if o = 0 then itr (gT 600 1 o) cnt σ else itr (wT 600 1 cnt) cnt (itr (gT 600 1 o) cnt σ)) = σ3 at w t2
  rw [t2]
  have k := w.climb (by omega)
  generalize itr (cT 600 (nI (A + 1))) cnt σ3 = σ4 at k
  obtain ⟨⟨h1, h2, h3, ln, h4⟩, hI, hK, hT, h60, h6⟩ := k
  have hx : Ex [12] σ4 (up σ4 12 0 (σ4 12 0 + 1)) := Ex.up _ _ _ (by decide)
  exact ⟨⟨fun j hj => (h1 j hj).same (hx 3 (by decide)) (by rw [hx 16 (by decide)]) (fun k hk => by rw [hx k (by simp; omega)]), h2.sub (hx 30 (by decide)) (fun j hj q => by rw [hx 21 (by decide)] at q; rw [hx 20 (by decide)]; exact ⟨q, rfl⟩), h3.ex hx (by decide), ln, h4.ex hx (by decide) (fun j hj q => by rw [hx 21 (by decide)] at q; rw [hx 29 (by decide)]; exact ⟨q, rfl⟩)⟩, hI.ex (hx 21 (by decide)) (hx 26 (by decide)), hK.ex hx (by decide), KT.ex hT hx (by decide), h60, h6⟩
end Pc
