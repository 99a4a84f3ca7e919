section Fb
variable {L cnt kc : Nat} {σ μ : Sg}
theorem up_comm (σ : Sg) (k i : Nat) (v : Int32) (k' i' : Nat) (v' : Int32) (h : k ≠ k') : up (up σ k i v) k' i' v' = up (up σ k' i' v') k i v := by
  funext a b
  rw [up_ite, up_ite, up_ite, up_ite]
  by_cases h1 : a = k ∧ b = i
  · rw [if_pos h1, if_pos h1, if_neg (fun q => h (h1.1.symm.trans q.1))]
  · rw [if_neg h1, if_neg h1]
theorem wr_up {a b c d : Int32} {k i : Nat} {v : Int32} (h : k ∉ LG) : wr L a b c d (up σ k i v) = up (wr L a b c d σ) k i v := by
  have hk := not_LG h
  have c' : ∀ k', 7 ≤ k' → k' < 12 → ∀ τ i' v', up (up τ k i v) k' i' v' = up (up τ k' i' v') k i v := fun k' h1 h2 τ i' v' => up_comm τ k i v k' i' v' (by omega)
  unfold wr f_X4_write
  rw [show up σ k i v 7 = σ 7 from up_row (by omega)]
  by_cases h1 : σ 7 0 < Int32.ofNat L
  · rw [if_pos h1, if_pos h1]
    by_cases h2 : ib (σ 7 0) L
    · rw [if_pos h2, if_pos h2, Option.getD_some, Option.getD_some, c' 8 (by omega) (by omega), c' 9 (by omega) (by omega), c' 10 (by omega) (by omega), c' 11 (by omega) (by omega), c' 7 (by omega) (by omega)]
    · rw [if_neg h2, if_neg h2]
      rfl
  · rw [if_neg h1, if_neg h1]
    rfl
theorem gR_at (s : Int32) (t : Nat) {k : Nat} (hk : k ∉ LG) (j : Nat) : gR L s t σ k j = if rrP σ t ∧ k = 24 ∧ j = t then σ 24 t + s else σ k j := by
  unfold gR
  by_cases h : rrP σ t
  · have e : (if σ 24 t ≤ σ 1 (ix (σ 16 t)) ∧ σ 1 (ix (σ 16 t)) < σ 24 t + s then wr L (σ 12 0 + s) 8 (nI t) (σ 1 (ix (σ 16 t))) (up σ 24 t (σ 24 t + s)) else up σ 24 t (σ 24 t + s)) k j = up σ 24 t (σ 24 t + s) k j := by
      split
      · exact congrFun (wr_ex _ _ _ _ _ _ k hk) j
      · rfl
    rw [if_pos h, e, up_ite]
    by_cases q : k = 24 ∧ j = t
    · rw [if_pos q, if_pos ⟨h, q⟩]
    · rw [if_neg q, if_neg (fun z => q z.2)]
  · rw [if_neg h, if_neg (fun z => h z.1)]
theorem gV_at (s : Int32) (t : Nat) {k : Nat} (hk : k ∉ LG) (j : Nat) : gV L s t σ k j = if rvP σ t ∧ k = 25 ∧ j = t then σ 25 t + s else σ k j := by
  unfold gV
  by_cases h : rvP σ t
  · have e : (if σ 25 t ≤ σ 2 (ix (σ 16 t)) ∧ σ 2 (ix (σ 16 t)) < σ 25 t + s then wr L (σ 12 0 + s) 9 (nI t) (σ 2 (ix (σ 16 t))) (up σ 25 t (σ 25 t + s)) else up σ 25 t (σ 25 t + s)) k j = up σ 25 t (σ 25 t + s) k j := by
      split
      · exact congrFun (wr_ex _ _ _ _ _ _ k hk) j
      · rfl
    rw [if_pos h, e, up_ite]
    by_cases q : k = 25 ∧ j = t
    · rw [if_pos q, if_pos ⟨h, q⟩]
    · rw [if_neg q, if_neg (fun z => q z.2)]
  · rw [if_neg h, if_neg (fun z => h z.1)]
theorem gL_at (s : Int32) (t k j : Nat) : gL s t σ k j = if σ 21 t = 0 ∧ k = 23 ∧ j = t then σ 23 t + s else σ k j := by
  unfold gL
  by_cases h : σ 21 t = 0
  · rw [if_pos h, up_ite]
    by_cases q : k = 23 ∧ j = t
    · rw [if_pos q, if_pos ⟨h, q⟩]
    · rw [if_neg q, if_neg (fun z => q z.2)]
  · rw [if_neg h, if_neg (fun z => h z.1)]
theorem rr_ex {σ' : Sg} (h21 : σ' 21 = σ 21) (h26 : σ' 26 = σ 26) (h28 : σ' 28 = σ 28) (t : Nat) : rrP σ' t ↔ rrP σ t := by
  unfold rrP
  rw [h21, h26, h28]
theorem rv_ex {σ' : Sg} (h21 : σ' 21 = σ 21) (h26 : σ' 26 = σ 26) (t : Nat) : rvP σ' t ↔ rvP σ t := by
  unfold rvP
  rw [h21, h26]
theorem ct_ex {σ' : Sg} {o : Int32} (h6 : σ' 6 = σ 6) (h16 : σ' 16 = σ 16) (t : Nat) : ctP o σ' t ↔ ctP o σ t := by
  unfold ctP
  rw [h6, h16]
/-- what the clocks' minute, or stretch, makes of a ticket's cells -/
def gw (s o : Int32) (n : Nat) (σ : Sg) : Sg := fun k j => if j < n ∧ ctP o σ j then (if rrP σ j ∧ k = 24 then σ 24 j + s else if rvP σ j ∧ k = 25 then σ 25 j + s else if σ 21 j = 0 ∧ k = 23 then σ 23 j + s else σ k j) else σ k j
theorem gT_at (s o : Int32) (t : Nat) {k : Nat} (hk : k ∉ LG) (j : Nat) : gT L s o t σ k j = if j = t ∧ ctP o σ t then (if rrP σ j ∧ k = 24 then σ 24 j + s else if rvP σ j ∧ k = 25 then σ 25 j + s else if σ 21 j = 0 ∧ k = 23 then σ 23 j + s else σ k j) else σ k j := by
  unfold gT
  have x1 := gR_ex L s t σ
  have x2 := gV_ex L s t (gR L s t σ)
  have e21 : gV L s t (gR L s t σ) 21 t = σ 21 t := congrFun ((x2 21 (by decide)).trans (x1 21 (by decide))) t
  have e23 : gV L s t (gR L s t σ) 23 t = σ 23 t := congrFun ((x2 23 (by decide)).trans (x1 23 (by decide))) t
  have e25 : gR L s t σ 25 t = σ 25 t := congrFun (x1 25 (by decide)) t
  have er : rvP (gR L s t σ) t ↔ rvP σ t := rv_ex (x1 21 (by decide)) (x1 26 (by decide)) t
  by_cases hc : ctP o σ t
  · rw [if_pos hc, gL_at, gV_at s t hk, gR_at s t hk, e21, e23, e25]
    by_cases hj : j = t
    · subst hj
      rw [if_pos (c := j = j ∧ ctP o σ j) ⟨rfl, hc⟩]
      by_cases k24 : k = 24
      · subst k24
        rw [if_neg (by omega), if_neg (by omega)]
        by_cases hr : rrP σ j
        · rw [if_pos ⟨hr, rfl, rfl⟩, if_pos ⟨hr, rfl⟩]
        · rw [if_neg (fun z => hr z.1), if_neg (fun z => hr z.1), if_neg (by omega), if_neg (by omega)]
      · rw [if_neg (c := rrP σ j ∧ k = 24 ∧ j = j) (fun z => k24 z.2.1), if_neg (c := rrP σ j ∧ k = 24) (fun z => k24 z.2)]
        by_cases k25 : k = 25
        · subst k25
          rw [if_neg (by omega)]
          by_cases hr : rvP σ j
          · rw [if_pos ⟨er.mpr hr, rfl, rfl⟩, if_pos ⟨hr, rfl⟩]
          · rw [if_neg (fun z => hr (er.mp z.1)), if_neg (fun z => hr z.1), if_neg (by omega)]
        · rw [if_neg (c := rvP (gR L s j σ) j ∧ k = 25 ∧ j = j) (fun z => k25 z.2.1), if_neg (c := rvP σ j ∧ k = 25) (fun z => k25 z.2)]
          by_cases q : σ 21 j = 0 ∧ k = 23
          · rw [if_pos ⟨q.1, q.2, rfl⟩, if_pos q]
          · rw [if_neg (fun z => q ⟨z.1, z.2.1⟩), if_neg q]
    · rw [if_neg (c := j = t ∧ ctP o σ t) (fun z => hj z.1), if_neg (c := σ 21 t = 0 ∧ k = 23 ∧ j = t) (fun z => hj z.2.2), if_neg (c := rvP (gR L s t σ) t ∧ k = 25 ∧ j = t) (fun z => hj z.2.2), if_neg (c := rrP σ t ∧ k = 24 ∧ j = t) (fun z => hj z.2.2)]
  · rw [if_neg hc, if_neg (fun z => hc z.2)]
theorem grow_at (s o : Int32) (n : Nat) : ∀ k, k ∉ LG → itr (gT L s o) n σ k = gw s o n σ k := by
  induction n with
  | zero =>
    intro k _
    funext j
    unfold gw
    rw [if_neg (by omega)]
    rfl
  | succ n ih =>
    intro k hk
    funext j
    have e6 : itr (gT L s o) n σ 6 = σ 6 := itr_ex (fun i σ => gT_ex L s o i σ) σ n 6 (by decide)
    have e16 : itr (gT L s o) n σ 16 = σ 16 := itr_ex (fun i σ => gT_ex L s o i σ) σ n 16 (by decide)
    have e21 : itr (gT L s o) n σ 21 = σ 21 := itr_ex (fun i σ => gT_ex L s o i σ) σ n 21 (by decide)
    have e26 : itr (gT L s o) n σ 26 = σ 26 := itr_ex (fun i σ => gT_ex L s o i σ) σ n 26 (by decide)
    have e28 : itr (gT L s o) n σ 28 = σ 28 := itr_ex (fun i σ => gT_ex L s o i σ) σ n 28 (by decide)
    have nn : ∀ k, gw s o n σ k n = σ k n := fun k => by
      unfold gw
      rw [if_neg (by omega)]
    rw [itr_s, gT_at s o n hk j]
    by_cases hj : j = n
    · subst hj
      have hc := ct_ex (o := o) e6 e16 j
      have hr := rr_ex e21 e26 e28 j
      have hv := rv_ex e21 e26 j
      unfold gw
      by_cases c : ctP o σ j
      · rw [if_pos ⟨rfl, hc.mpr c⟩, if_pos (c := j < j + 1 ∧ ctP o σ j) ⟨by omega, c⟩, ih 24 (by decide), ih 25 (by decide), ih 23 (by decide), ih k hk, nn, nn, nn, nn]
        by_cases r : rrP σ j ∧ k = 24
        · rw [if_pos ⟨hr.mpr r.1, r.2⟩, if_pos r]
        · rw [if_neg (fun z => r ⟨hr.mp z.1, z.2⟩), if_neg r]
          by_cases v : rvP σ j ∧ k = 25
          · rw [if_pos ⟨hv.mpr v.1, v.2⟩, if_pos v]
          · rw [if_neg (fun z => v ⟨hv.mp z.1, z.2⟩), if_neg v]
            have h21 : itr (gT L s o) j σ 21 j = σ 21 j := congrFun e21 j
            by_cases q : σ 21 j = 0 ∧ k = 23
            · rw [if_pos (c := itr (gT L s o) j σ 21 j = 0 ∧ k = 23) ⟨h21.trans q.1, q.2⟩, if_pos q]
            · rw [if_neg (c := itr (gT L s o) j σ 21 j = 0 ∧ k = 23) (fun z => q ⟨h21.symm.trans z.1, z.2⟩), if_neg q]
      · rw [if_neg (fun z => c (hc.mp z.2)), if_neg (fun z => c z.2), ih k hk, nn]
    · rw [if_neg (fun z => hj z.1), ih k hk]
      unfold gw
      by_cases c : j < n ∧ ctP o σ j
      · rw [if_pos c, if_pos (c := j < n + 1 ∧ ctP o σ j) ⟨by omega, c.2⟩]
      · rw [if_neg c, if_neg (c := j < n + 1 ∧ ctP o σ j) (fun z => c ⟨by omega, z.2⟩)]
theorem gR_up (s : Int32) (t j : Nat) (v : Int32) : gR L s t (up σ 23 j v) = up (gR L s t σ) 23 j v := by
  have e : ∀ k, k ≠ 23 → up σ 23 j v k = σ k := fun k h => up_row h
  have hr : rrP (up σ 23 j v) t ↔ rrP σ t := rr_ex (e 21 (by decide)) (e 26 (by decide)) (e 28 (by decide)) t
  unfold gR
  rw [e 24 (by decide), e 1 (by decide), e 16 (by decide), e 12 (by decide)]
  by_cases h : rrP σ t
  · rw [if_pos h, if_pos (hr.mpr h), up_comm σ 23 j v 24 t _ (by decide)]
    by_cases c : σ 24 t ≤ σ 1 (ix (σ 16 t)) ∧ σ 1 (ix (σ 16 t)) < σ 24 t + s
    · rw [if_pos c, if_pos c, wr_up (by decide)]
    · rw [if_neg c, if_neg c]
  · rw [if_neg h, if_neg (fun z => h (hr.mp z))]
theorem gV_up (s : Int32) (t j : Nat) (v : Int32) : gV L s t (up σ 23 j v) = up (gV L s t σ) 23 j v := by
  have e : ∀ k, k ≠ 23 → up σ 23 j v k = σ k := fun k h => up_row h
  have hr : rvP (up σ 23 j v) t ↔ rvP σ t := rv_ex (e 21 (by decide)) (e 26 (by decide)) t
  unfold gV
  rw [e 25 (by decide), e 2 (by decide), e 16 (by decide), e 12 (by decide)]
  by_cases h : rvP σ t
  · rw [if_pos h, if_pos (hr.mpr h), up_comm σ 23 j v 25 t _ (by decide)]
    by_cases c : σ 25 t ≤ σ 2 (ix (σ 16 t)) ∧ σ 2 (ix (σ 16 t)) < σ 25 t + s
    · rw [if_pos c, if_pos c, wr_up (by decide)]
    · rw [if_neg c, if_neg c]
  · rw [if_neg h, if_neg (fun z => h (hr.mp z))]
theorem gL_comm (s : Int32) (t : Nat) : gV L s t (gR L s t (gL s t σ)) = gL s t (gV L s t (gR L s t σ)) := by
  have x1 := gR_ex L s t σ
  have x2 := gV_ex L s t (gR L s t σ)
  have e21 : gV L s t (gR L s t σ) 21 t = σ 21 t := congrFun ((x2 21 (by decide)).trans (x1 21 (by decide))) t
  have e23 : gV L s t (gR L s t σ) 23 t = σ 23 t := congrFun ((x2 23 (by decide)).trans (x1 23 (by decide))) t
  unfold gL
  rw [e21, e23]
  by_cases h : σ 21 t = 0
  · rw [if_pos h, if_pos h, gR_up, gV_up]
  · rw [if_neg h, if_neg h]
/-- a ticket's clocks in the reference's minute -/
theorem rc_sim (E : Eq2 cnt kc σ μ) (G : LogR L σ μ) {t : Nat} (ht : t < cnt) (hk : KT kc σ t) (hv : RV cnt σ t) (wd : Int64) (hf : FL σ μ t) (hb4 : 0 ≤ (σ 24 t).toInt ∧ (σ 24 t).toInt ≤ 100000) (hb5 : 0 ≤ (σ 25 t).toInt ∧ (σ 25 t).toInt ≤ 100000) :
    ∃ μ', f_X9_runClocks (nI t) μ wd = some μ' ∧ Eq2 cnt kc (gL 1 t (gV L 1 t (gR L 1 t σ))) μ' ∧ LogR L (gL 1 t (gV L 1 t (gR L 1 t σ))) μ' ∧ FL (gL 1 t (gV L 1 t (gR L 1 t σ))) μ' t ∧
      (∀ j, j ≠ t → pV μ' 38 j = pV μ 38 j ∧ pV μ' 39 j = pV μ 39 j) ∧ RS μ μ' := by
  have h6 : t < 60 := E.lt ht
  rw [← gL_comm]
  unfold f_X9_runClocks
  rw [mrr_v E ht hv, Option.bind_some, mrv_v E ht hv, Option.bind_some, is_v E ht, Option.bind_some]
  -- the level clock
  refine Exists.elim (?_ : ∃ μ1, (if (if σ 21 t = 0 then (1 : Int32) else 0) = 0 then f_X9_runClocks_28 (nI t) (if rrP σ t then 1 else 0) (if rvP σ t then 1 else 0) μ wd else (f_X9_grow (nI t) 6 μ wd).bind (fun p8 => f_X9_runClocks_28 (nI t) (if rrP σ t then 1 else 0) (if rvP σ t then 1 else 0) p8 wd)) = f_X9_runClocks_28 (nI t) (if rrP σ t then 1 else 0) (if rvP σ t then 1 else 0) μ1 wd ∧ SB L cnt kc μ (gL 1 t σ) μ1) ?_
  · unfold gL
    by_cases h0 : σ 21 t = 0
    · refine ⟨mu μ 23 t (σ 23 t + 1), ?_, ?_⟩
      · rw [if_pos h0, if_neg (by decide)]
        unfold f_X9_grow
        rw [tg_6 E ht, Option.bind_some, ms_6 h6, Option.bind_some, Option.bind_some]
      · rw [if_pos h0]
        exact (SB.rf E G).w 23 t _ (by decide) h6
    · refine ⟨μ, ?_, ?_⟩
      · rw [if_neg h0, if_pos rfl]
      · rw [if_neg h0]
        exact SB.rf E G
  intro μ1 hμ1
  obtain ⟨e1, S1⟩ := hμ1
  have xL := gL_ex 1 t σ
  have r1 : rrP (gL 1 t σ) t ↔ rrP σ t := rr_ex (xL 21 (by decide)) (xL 26 (by decide)) (xL 28 (by decide)) t
  have v1 : rvP (gL 1 t σ) t ↔ rvP σ t := rv_ex (xL 21 (by decide)) (xL 26 (by decide)) t
  have k1 : KT kc (gL 1 t σ) t := by unfold KT; rw [xL 16 (by decide)]; exact hk
  have f8 : pV μ1 38 t = (if gL 1 t σ 1 (ix (gL 1 t σ 16 t)) < gL 1 t σ 24 t then 1 else 0) := by rw [xL 1 (by decide), xL 16 (by decide), xL 24 (by decide), S1.2.2.1.1]; exact hf.1
  have f9 : pV μ1 39 t = (if gL 1 t σ 2 (ix (gL 1 t σ 16 t)) < gL 1 t σ 25 t then 1 else 0) := by rw [xL 2 (by decide), xL 16 (by decide), xL 25 (by decide), S1.2.2.1.2]; exact hf.2
  -- the response clock
  have S2 : ∃ μ2, f_X9_runClocks_28 (nI t) (if rrP σ t then 1 else 0) (if rvP σ t then 1 else 0) μ1 wd = f_X9_runClocks_51 (nI t) (if rvP σ t then 1 else 0) μ2 wd ∧ Eq2 cnt kc (gR L 1 t (gL 1 t σ)) μ2 ∧ LogR L (gR L 1 t (gL 1 t σ)) μ2 ∧
      pV μ2 38 t = (if gR L 1 t (gL 1 t σ) 1 (ix (gR L 1 t (gL 1 t σ) 16 t)) < gR L 1 t (gL 1 t σ) 24 t then 1 else 0) ∧ (∀ j, j ≠ t → pV μ2 38 j = pV μ1 38 j) ∧ pV μ2 39 = pV μ1 39 ∧ RS μ1 μ2 := by
    have x2 := gR_ex L 1 t (gL 1 t σ)
    have w24 := gR_at (L := L) (σ := gL 1 t σ) 1 t (k := 24) (by decide) t
    rw [x2 1 (by decide), x2 16 (by decide)]
    unfold f_X9_runClocks_28
    by_cases h : rrP σ t
    · obtain ⟨ma, mb, a1, a2, a3, a4, a5, a6, a7, a8⟩ := gR_sim (L := L) S1.1 S1.2.1 ht k1 wd f8 (by rw [xL 24 (by decide)]; exact hb4) (r1.mpr h)
      refine ⟨mb, ?_, a3, a4, ?_, a6, a7, a8⟩
      · rw [if_pos h, if_neg (by decide), a1, Option.bind_some, a2, Option.bind_some]
      · rw [w24.trans (if_pos ⟨r1.mpr h, rfl, rfl⟩)]
        exact a5
    · have e : gR L 1 t (gL 1 t σ) = gL 1 t σ := by
        unfold gR
        rw [if_neg (fun z => h (r1.mp z))]
      refine ⟨μ1, ?_, by rw [e]; exact S1.1, by rw [e]; exact S1.2.1, ?_, fun _ _ => rfl, rfl, RS.rf _⟩
      · rw [if_neg h, if_pos rfl]
      · rw [w24.trans (if_neg (fun z => h (r1.mp z.1)))]
        exact f8
  obtain ⟨μ2, e2, E2, G2, F2, F2j, F29, R2⟩ := S2
  have x2 := gR_ex L 1 t (gL 1 t σ)
  have v2 : rvP (gR L 1 t (gL 1 t σ)) t ↔ rvP σ t := (rv_ex (x2 21 (by decide)) (x2 26 (by decide)) t).trans v1
  have k2 : KT kc (gR L 1 t (gL 1 t σ)) t := by unfold KT; rw [x2 16 (by decide)]; exact k1
  have f9' : pV μ2 39 t = (if gR L 1 t (gL 1 t σ) 2 (ix (gR L 1 t (gL 1 t σ) 16 t)) < gR L 1 t (gL 1 t σ) 25 t then 1 else 0) := by rw [x2 2 (by decide), x2 16 (by decide), x2 25 (by decide), F29]; exact f9
  have x3 := gV_ex L 1 t (gR L 1 t (gL 1 t σ))
  have w25 := gV_at (L := L) (σ := gR L 1 t (gL 1 t σ)) 1 t (k := 25) (by decide) t
  rw [e1, e2]
  unfold f_X9_runClocks_51 FL
  rw [x3 1 (by decide), x3 2 (by decide), x3 16 (by decide), x3 24 (by decide)]
  by_cases h : rvP σ t
  · obtain ⟨ma, mb, a1, a2, a3, a4, a5, a6, a7, a8⟩ := gV_sim (L := L) E2 G2 ht k2 wd f9' (by rw [x2 25 (by decide), xL 25 (by decide)]; exact hb5) (v2.mpr h)
    refine ⟨mb, ?_, a3, a4, ⟨?_, ?_⟩, fun j hj => ⟨?_, ?_⟩, S1.2.2.2.tr (R2.tr a8)⟩
    · rw [if_pos h, if_neg (by decide), a1, Option.bind_some, a2, Option.bind_some]
    · rw [a7]
      exact F2
    · rw [w25.trans (if_pos ⟨v2.mpr h, rfl, rfl⟩)]
      exact a5
    · rw [a7, F2j j hj, S1.2.2.1.1]
    · rw [a6 j hj, F29, S1.2.2.1.2]
  · have e : gV L 1 t (gR L 1 t (gL 1 t σ)) = gR L 1 t (gL 1 t σ) := by
      unfold gV
      rw [if_neg (fun z => h (v2.mp z))]
    refine ⟨μ2, ?_, by rw [e]; exact E2, by rw [e]; exact G2, ⟨F2, ?_⟩, fun j hj => ⟨?_, ?_⟩, S1.2.2.2.tr R2⟩
    · rw [if_neg h, if_pos rfl]
    · rw [w25.trans (if_neg (fun z => h (v2.mp z.1)))]
      exact f9'
    · rw [F2j j hj, S1.2.2.1.1]
    · rw [F29, S1.2.2.1.2]
end Fb
