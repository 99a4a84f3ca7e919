section Fh
variable {L cnt kc : Nat} {σ μ : Sg}
/-- a stretch's length -/
theorem str_v (C : CC cnt kc σ) (K : KI kc σ) (D : CI σ) (hb : ∀ t, t < cnt → TB 20000 σ t) {T e : Nat} (hT : σ 12 0 = nI T) (he : T < e) (he2 : e ≤ 10080) (o : Int32) {N : Nat} (hN : 100 < N) :
    ∃ s : Nat, f_X1_stretch N (nI e) o σ = some (nI s) ∧ 1 ≤ s ∧ T + s ≤ e ∧ (∀ m, T ≤ m → m < T + s → opB σ m = opB σ T) ∧ (s = 1 ∨ ∀ t, t < cnt → Bd o s σ t) := by
  have h60 := C.1
  obtain ⟨u, u1, u2, u3, u4⟩ := al_v D (T := T) (by omega)
  obtain ⟨M, hM, hM1, hM2, hM3⟩ : ∃ M : Nat, (if nI u < nI e then nI u else nI e) - nI T = nI M ∧ 1 ≤ M ∧ T + M ≤ e ∧ T + M ≤ u := by
    by_cases q : u < e
    · rw [if_pos (nI_lt q (by omega)), pk_sub (by omega)]
      exact ⟨u - T, rfl, by omega, by omega, by omega⟩
    · rw [if_neg (nI_nlt (a := u) (b := e) (by omega) (by omega)), pk_sub (by omega)]
      exact ⟨e - T, rfl, by omega, by omega, by omega⟩
  have zM : (nI M).toInt = M := z_nI (by omega)
  have s57 : ∀ (k24 : Int32 → Int32 → Int32 → Sg → Option Int32) (x : Int32) (t : Nat), t < cnt → f_X1_stretch_57 N k24 o x (nI t) σ = k24 o (if o ≠ 0 ∧ σ 21 t = 1 then mn x (σ 3 (ix (σ 16 t)) - σ 22 t) else x) (nI (t + 1)) σ := fun k24 x t ht => by
    unfold f_X1_stretch_57
    rw [nI_1]
    by_cases ho : o = 0
    · rw [if_pos ho, if_neg (fun z => z.1 ho)]
    · rw [if_neg ho, if_pos (ib_nI (by omega) (by decide)), ix_nI (by omega)]
      by_cases h1 : σ 21 t = 1
      · rw [if_pos h1, if_pos (C.ib ht), if_pos (c := o ≠ 0 ∧ σ 21 t = 1) ⟨ho, h1⟩]
        rfl
      · rw [if_neg h1, if_neg (c := o ≠ 0 ∧ σ 21 t = 1) (fun z => h1 z.2)]
  have key := lift_itr (α := Int32) (fun n x v => f_X1_stretch_24 N n o v x σ) (fun t v => sF o σ t v) (fun i v => v.toInt ≤ M ∧ ∀ t, t < i → Bd o v.toInt σ t) (fun v => some (if 1 < v then v else 1)) cnt
    (fun n i v hi I => by
      obtain ⟨s1, s2⟩ := sF_bd (o := o) (x := v) (C.2.2.2.2 i hi).1 C.2.1 K (hb i hi)
      refine ⟨⟨Int.le_trans s2 I.1, fun t ht => ?_⟩, ?_⟩
      · by_cases q : t = i
        · subst q
          exact s1
        · exact (I.2 t (by omega)).mono s2
      · show f_X1_stretch_24 N (n + 1) o v (nI i) σ = f_X1_stretch_24 N n o (sF o σ i v) (nI (i + 1)) σ
        rw [f_X1_stretch_24, C.2.2.1, if_neg (nI_ge hi (by omega)), ct_v C hi, Option.bind_some]
        unfold sF
        by_cases hc : ctP o σ i
        · rw [if_pos hc, if_neg (by decide), mc_v C hi, Option.bind_some, s57 _ _ i hi, if_pos hc]
          rfl
        · rw [if_neg hc, if_pos rfl, s57 _ _ i hi, if_neg hc])
    (fun n v I => by
      show f_X1_stretch_24 N (n + 1) o v (nI cnt) σ = _
      rw [f_X1_stretch_24, C.2.2.1, if_pos (nI_le (Nat.le_refl _) (by omega))]) (nI M) ⟨by rw [zM]; exact Int.le_refl _, fun t ht => absurd ht (Nat.not_lt_zero _)⟩ N (by omega)
  obtain ⟨⟨j1, j2⟩, j3⟩ := key
  have hf : f_X1_stretch N (nI e) o σ = some (if 1 < itr (fun t v => sF o σ t v) cnt (nI M) then itr (fun t v => sF o σ t v) cnt (nI M) else 1) := by
    unfold f_X1_stretch
    rw [hT, u1, Option.bind_some, hM]
    exact j3
  rw [hf]
  generalize itr (fun t v => sF o σ t v) cnt (nI M) = x at j1 j2
  by_cases q : 1 < x
  · have q1 := z_lt.mp q
    rw [z_1] at q1
    obtain ⟨s, hs⟩ : ∃ s : Nat, x.toInt = s := ⟨x.toInt.toNat, by omega⟩
    have hx : x = nI s := z_eq.mpr (by rw [hs, z_nI (by omega)])
    rw [if_pos q, hx]
    refine ⟨s, rfl, by omega, by omega, fun m h1 h2 => u4 m h1 (by omega), Or.inr ?_⟩
    rw [← hs]
    exact j2
  · rw [if_neg q]
    exact ⟨1, rfl, Nat.le_refl _, by omega, fun m h1 h2 => by
      have : m = T := by omega
      rw [this], Or.inl rfl⟩
/-! minutes in which nothing happens -/
theorem gT_no {s o : Int32} {t : Nat} (h : ctP o σ t → (rrP σ t → ¬ (σ 24 t ≤ σ 1 (ix (σ 16 t)) ∧ σ 1 (ix (σ 16 t)) < σ 24 t + s)) ∧ (rvP σ t → ¬ (σ 25 t ≤ σ 2 (ix (σ 16 t)) ∧ σ 2 (ix (σ 16 t)) < σ 25 t + s))) (L : Nat) : Ex [23, 24, 25] σ (gT L s o t σ) := by
  unfold gT
  by_cases hc : ctP o σ t
  · rw [if_pos hc]
    have x1 : Ex [24] σ (gR L s t σ) := by
      unfold gR
      by_cases r : rrP σ t
      · rw [if_pos r, if_neg ((h hc).1 r)]
        exact Ex.up _ _ _ (by decide)
      · rw [if_neg r]
        exact Ex.rf _ _
    have x2 : Ex [25] (gR L s t σ) (gV L s t (gR L s t σ)) := by
      have e := rv_ex (x1 21 (by decide)) (x1 26 (by decide)) t
      unfold gV
      by_cases r : rvP (gR L s t σ) t
      · rw [if_pos r, if_neg (by rw [x1 25 (by decide), x1 2 (by decide), x1 16 (by decide)]; exact (h hc).2 (e.mp r))]
        exact Ex.up _ _ _ (by decide)
      · rw [if_neg r]
        exact Ex.rf _ _
    exact ((x1.wk (by decide)).tr (x2.wk (by decide))).tr ((gL_ex s t _).wk (by decide))
  · rw [if_neg hc]
    exact Ex.rf _ _
theorem grow_quiet {s o : Int32} (h : ∀ t, t < cnt → ctP o σ t → (rrP σ t → ¬ (σ 24 t ≤ σ 1 (ix (σ 16 t)) ∧ σ 1 (ix (σ 16 t)) < σ 24 t + s)) ∧ (rvP σ t → ¬ (σ 25 t ≤ σ 2 (ix (σ 16 t)) ∧ σ 2 (ix (σ 16 t)) < σ 25 t + s))) (L : Nat) : itr (gT L s o) cnt σ = gw s o cnt σ := by
  have key := one_itr (gT L s o) (fun i τ => Ex [23, 24, 25] σ τ ∧ ∀ j, i ≤ j → τ 24 j = σ 24 j ∧ τ 25 j = σ 25 j) cnt
    (fun i τ hi I => by
      obtain ⟨I1, I2⟩ := I
      obtain ⟨e24, e25⟩ := I2 i (Nat.le_refl _)
      have hc := ct_ex (o := o) (I1 6 (by decide)) (I1 16 (by decide)) i
      have hr := rr_ex (I1 21 (by decide)) (I1 26 (by decide)) (I1 28 (by decide)) i
      have hv := rv_ex (I1 21 (by decide)) (I1 26 (by decide)) i
      have x := gT_no (σ := τ) (s := s) (o := o) (t := i) (fun c => by
        rw [e24, e25, I1 1 (by decide), I1 2 (by decide), I1 16 (by decide)]
        exact ⟨fun r => (h i hi (hc.mp c)).1 (hr.mp r), fun r => (h i hi (hc.mp c)).2 (hv.mp r)⟩) L
      refine ⟨I1.tr x, fun j hj => ?_⟩
      rw [gT_at _ _ _ (by decide), gT_at _ _ _ (by decide), if_neg (c := j = i ∧ ctP o τ i) (fun z => by omega), if_neg (c := j = i ∧ ctP o τ i) (fun z => by omega)]
      exact I2 j (by omega)) σ ⟨Ex.rf _ _, fun _ _ => ⟨rfl, rfl⟩⟩
  funext k
  by_cases hk : k ∈ LG
  · rw [key.1 k (fun q => by
      have : k = 7 ∨ k = 8 ∨ k = 9 ∨ k = 10 ∨ k = 11 := by unfold LG at hk; simpa using hk
      have : k = 23 ∨ k = 24 ∨ k = 25 := by simpa using q
      omega)]
    funext j
    have : k = 7 ∨ k = 8 ∨ k = 9 ∨ k = 10 ∨ k = 11 := by unfold LG at hk; simpa using hk
    unfold gw
    split
    · rw [if_neg (by omega), if_neg (by omega), if_neg (by omega)]
    · rfl
  · exact grow_at s o cnt k hk
def ww (s : Int32) (n : Nat) (σ : Sg) : Sg := fun k j => if j < n ∧ k = 22 ∧ σ 21 j = 1 then σ 22 j + s else σ k j
theorem work_quiet {s : Int32} (h : ∀ t, t < cnt → σ 21 t = 1 → ¬ σ 3 (ix (σ 16 t)) ≤ σ 22 t + s) (L c : Nat) : itr (wT L s c) cnt σ = ww s cnt σ := by
  have key : ∀ n, n ≤ cnt → itr (wT L s c) n σ = ww s n σ := by
    intro n
    induction n with
    | zero =>
      intro _
      funext k j
      unfold ww
      rw [if_neg (by omega)]
      rfl
    | succ n ih =>
      intro hn
      rw [itr_s, ih (by omega)]
      have e : ∀ k, k ≠ 22 → ww s n σ k = σ k := fun k hk => by
        funext j
        unfold ww
        rw [if_neg (fun z => hk z.2.1)]
      have e22 : ww s n σ 22 n = σ 22 n := by
        unfold ww
        rw [if_neg (by omega)]
      unfold wT
      rw [e 21 (by decide), e 3 (by decide), e 16 (by decide), e22]
      by_cases q : σ 21 n = 1
      · rw [if_pos q, if_neg (h n (by omega) q)]
        funext k j
        rw [up_ite]
        unfold ww
        by_cases z : k = 22 ∧ j = n
        · obtain ⟨rfl, rfl⟩ := z
          rw [if_pos ⟨rfl, rfl⟩, if_pos (c := j < j + 1 ∧ 22 = 22 ∧ σ 21 j = 1) ⟨by omega, rfl, q⟩]
        · rw [if_neg z]
          by_cases y : j < n ∧ k = 22 ∧ σ 21 j = 1
          · rw [if_pos y, if_pos (c := j < n + 1 ∧ k = 22 ∧ σ 21 j = 1) ⟨by omega, y.2⟩]
          · rw [if_neg y, if_neg (c := j < n + 1 ∧ k = 22 ∧ σ 21 j = 1) (fun w => y ⟨by
              have : j ≠ n := fun v => z ⟨w.2.1, v⟩
              omega, w.2⟩)]
      · rw [if_neg q]
        funext k j
        unfold ww
        by_cases y : j < n ∧ k = 22 ∧ σ 21 j = 1
        · rw [if_pos y, if_pos (c := j < n + 1 ∧ k = 22 ∧ σ 21 j = 1) ⟨by omega, y.2⟩]
        · rw [if_neg y, if_neg (c := j < n + 1 ∧ k = 22 ∧ σ 21 j = 1) (fun w => y ⟨by
            have : j ≠ n := fun v => q (by rw [← v]; exact w.2.2)
            omega, w.2⟩)]
  exact key cnt (Nat.le_refl _)
theorem climb_quiet (h : ∀ t, t < cnt → ¬ (σ 21 t = 0 ∧ cbP σ t ∧ ¬ σ 23 t < σ 5 (ix (σ 16 t)))) (L : Nat) (a : Int32) : itr (cT L a) cnt σ = σ := by
  have key : ∀ n, n ≤ cnt → itr (cT L a) n σ = σ := by
    intro n
    induction n with
    | zero => intro _; rfl
    | succ n ih =>
      intro hn
      rw [itr_s, ih (by omega)]
      unfold cT
      rw [if_neg (h n (by omega))]
  exact key cnt (Nat.le_refl _)
/-- the desk behind a minute in which nothing happens -/
def qt (o : Int32) (cnt : Nat) (σ : Sg) : Sg := fun k j => if k = 12 ∧ j = 0 then σ 12 0 + 1 else if j < cnt ∧ k = 22 ∧ o ≠ 0 ∧ σ 21 j = 1 then σ 22 j + 1 else gw 1 o cnt σ k j
theorem z_up {x : Int32} (h : 0 ≤ x.toInt ∧ x.toInt ≤ 20000) : (x + 1).toInt = x.toInt + 1 := by
  rw [z_add (by omega) (by omega) (by decide) (by decide)]
  rfl
theorem TB.le {B : Nat} {t : Nat} (h : TB B σ t) (hB : B ≤ 20000) : TB 20000 σ t := by
  obtain ⟨⟨a1, a2⟩, ⟨b1, b2⟩, ⟨c1, c2⟩, d1, d2⟩ := h
  exact ⟨⟨a1, by omega⟩, ⟨b1, by omega⟩, ⟨c1, by omega⟩, ⟨d1, by omega⟩⟩
theorem stp_quiet {o : Int32} (hb : ∀ t, t < cnt → TB 20000 σ t) (hd : ∀ t, t < cnt → Bd o 2 σ t) (hl : ∀ t, t < cnt → LK σ t) (L : Nat) : stp L 1 o cnt σ = qt o cnt σ := by
  have g1 : itr (gT L 1 o) cnt σ = gw 1 o cnt σ := grow_quiet (fun t ht c => by
    obtain ⟨b2, b3, b4, b5⟩ := hb t ht
    obtain ⟨d1, -⟩ := hd t ht
    refine ⟨fun r z => ?_, fun r z => ?_⟩
    · have := (d1 c).1 r z.1
      have q := z_lt.mp z.2
      rw [z_up ⟨b4.1, by have := b4.2; omega⟩] at q
      omega
    · have := (d1 c).2.1 r z.1
      have q := z_lt.mp z.2
      rw [z_up ⟨b5.1, by have := b5.2; omega⟩] at q
      omega) L
  have e : ∀ k, k ≠ 23 → k ≠ 24 → k ≠ 25 → gw 1 o cnt σ k = σ k := fun k h1 h2 h3 => by
    funext j
    unfold gw
    split
    · rw [if_neg (fun z => h2 z.2), if_neg (fun z => h3 z.2), if_neg (fun z => h1 z.2)]
    · rfl
  have w1 : itr (wT L 1 cnt) cnt (gw 1 o cnt σ) = ww 1 cnt (gw 1 o cnt σ) ∨ o = 0 := by
    by_cases ho : o = 0
    · exact Or.inr ho
    · refine Or.inl (work_quiet (fun t ht q z => ?_) L cnt)
      rw [e 21 (by decide) (by decide) (by decide)] at q
      rw [e 3 (by decide) (by decide) (by decide), e 16 (by decide) (by decide) (by decide), e 22 (by decide) (by decide) (by decide)] at z
      obtain ⟨b2, b3, b4, b5⟩ := hb t ht
      have := (hd t ht).2 ho q
      have z := z_le.mp z
      rw [z_up ⟨b2.1, by have := b2.2; omega⟩] at z
      omega
  -- nobody climbs
  have cq : ∀ τ : Sg, (∀ k, k ≠ 22 → τ k = gw 1 o cnt σ k) → ∀ a, itr (cT L a) cnt τ = τ := fun τ hτ a => climb_quiet (fun t ht z => by
    have h21 : τ 21 = σ 21 := (hτ 21 (by decide)).trans (e 21 (by decide) (by decide) (by decide))
    have h20 : τ 20 = σ 20 := (hτ 20 (by decide)).trans (e 20 (by decide) (by decide) (by decide))
    have h16 : τ 16 = σ 16 := (hτ 16 (by decide)).trans (e 16 (by decide) (by decide) (by decide))
    have h5 : τ 5 = σ 5 := (hτ 5 (by decide)).trans (e 5 (by decide) (by decide) (by decide))
    have h23 : τ 23 t = gw 1 o cnt σ 23 t := congrFun (hτ 23 (by decide)) t
    unfold cbP at z
    rw [h21, h20, h16, h5, h23] at z
    obtain ⟨z1, z2, z3⟩ := z
    obtain ⟨b2, b3, b4, b5⟩ := hb t ht
    unfold gw at z3
    by_cases c : ctP o σ t
    · rw [if_pos ⟨ht, c⟩, if_neg (by omega), if_neg (by omega), if_pos ⟨z1, rfl⟩] at z3
      have := ((hd t ht).1 c).2.2 z1 z2
      refine z3 (z_lt.mpr ?_)
      rw [z_up ⟨b3.1, by have := b3.2; omega⟩]
      omega
    · rw [if_neg (fun q => c q.2)] at z3
      rcases hl t ht with q | q | q
      · exact z2.1 q
      · exact z2.2 q
      · exact z3 q) L a
  by_cases ho : o = 0
  · have es : stp L 1 o cnt σ = up (itr (cT L (gw 1 o cnt σ 12 0 + 1)) cnt (gw 1 o cnt σ)) 12 0 (itr (cT L (gw 1 o cnt σ 12 0 + 1)) cnt (gw 1 o cnt σ) 12 0 + 1) := by
      show up (itr (cT L ((if o = 0 then itr (gT L 1 o) cnt σ else _) 12 0 + 1)) cnt (if o = 0 then itr (gT L 1 o) cnt σ else _)) 12 0 (itr (cT L ((if o = 0 then itr (gT L 1 o) cnt σ else _) 12 0 + 1)) cnt (if o = 0 then itr (gT L 1 o) cnt σ else _) 12 0 + 1) = _
      rw [if_pos ho, g1]
    rw [es, cq _ (fun _ _ => rfl), e 12 (by decide) (by decide) (by decide)]
    funext k j
    rw [up_ite]
    unfold qt
    by_cases z : k = 12 ∧ j = 0
    · rw [if_pos z, if_pos z]
    · rw [if_neg z, if_neg z, if_neg (fun q => q.2.2.1 ho)]
  · have w2 : itr (wT L 1 cnt) cnt (gw 1 o cnt σ) = ww 1 cnt (gw 1 o cnt σ) := w1.resolve_right ho
    have es : stp L 1 o cnt σ = up (itr (cT L (ww 1 cnt (gw 1 o cnt σ) 12 0 + 1)) cnt (ww 1 cnt (gw 1 o cnt σ))) 12 0 (itr (cT L (ww 1 cnt (gw 1 o cnt σ) 12 0 + 1)) cnt (ww 1 cnt (gw 1 o cnt σ)) 12 0 + 1) := by
      show up (itr (cT L ((if o = 0 then itr (gT L 1 o) cnt σ else itr (wT L 1 cnt) cnt (itr (gT L 1 o) cnt σ)) 12 0 + 1)) cnt (if o = 0 then itr (gT L 1 o) cnt σ else itr (wT L 1 cnt) cnt (itr (gT L 1 o) cnt σ))) 12 0 (itr (cT L ((if o = 0 then itr (gT L 1 o) cnt σ else itr (wT L 1 cnt) cnt (itr (gT L 1 o) cnt σ)) 12 0 + 1)) cnt (if o = 0 then itr (gT L 1 o) cnt σ else itr (wT L 1 cnt) cnt (itr (gT L 1 o) cnt σ)) 12 0 + 1) = _
      rw [if_neg ho, g1, w2]
    have ew : ∀ k, k ≠ 22 → ww 1 cnt (gw 1 o cnt σ) k = gw 1 o cnt σ k := fun k hk => by
      funext j
      unfold ww
      rw [if_neg (fun z => hk z.2.1)]
    rw [es, cq _ ew, ew 12 (by decide), e 12 (by decide) (by decide) (by decide)]
    funext k j
    rw [up_ite]
    unfold qt
    by_cases z : k = 12 ∧ j = 0
    · rw [if_pos z, if_pos z]
    · rw [if_neg z, if_neg z]
      unfold ww
      rw [e 21 (by decide) (by decide) (by decide), e 22 (by decide) (by decide) (by decide)]
      by_cases y : j < cnt ∧ k = 22 ∧ σ 21 j = 1
      · rw [if_pos y, if_pos (c := j < cnt ∧ k = 22 ∧ o ≠ 0 ∧ σ 21 j = 1) ⟨y.1, y.2.1, ho, y.2.2⟩]
      · rw [if_neg y, if_neg (c := j < cnt ∧ k = 22 ∧ o ≠ 0 ∧ σ 21 j = 1) (fun w => y ⟨w.1, w.2.1, w.2.2.2⟩)]
end Fh
