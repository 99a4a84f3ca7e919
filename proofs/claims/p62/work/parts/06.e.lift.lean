section Ee
variable {L cnt kc : Nat} {σ μ : Sg}
theorem gR_lift (h : CL L cnt kc σ) {t : Nat} (ht : t < cnt) (s : Int32) : CL L cnt kc (gR L s t σ) ∧ (rrP σ t → f_X1_grow_responseClock L (nI t) s (σ 1 (ix (σ 16 t))) 8 σ = some (gR L s t σ)) := by
  have h60 := h.1.1
  have x := gR_ex L s t σ
  have hU : LO L (up σ 24 t (σ 24 t + s)) := h.2.ex (Ex.up (R := [24]) _ _ _ (by decide)) (by decide)
  have hO : LO L (gR L s t σ) := by
    unfold gR
    split
    · split
      · exact (wr_some hU).2
      · exact hU
    · exact h.2
  refine ⟨⟨h.1.ex x (by decide) (fun j _ q => by rw [x 21 (by decide)] at q; exact q), hO⟩, fun hr => ?_⟩
  unfold f_X1_grow_responseClock gR
  rw [if_pos (ib_nI (by omega) (by decide)), ix_nI (by omega), if_pos hr]
  by_cases a : σ 1 (ix (σ 16 t)) < σ 24 t
  · rw [if_pos a, if_neg (fun q => Int32.not_lt.mpr q.1 a)]
  · rw [if_neg a]
    by_cases b : σ 24 t + s ≤ σ 1 (ix (σ 16 t))
    · rw [if_pos b, if_neg (fun q => Int32.not_lt.mpr b q.2)]
    · rw [if_neg b, if_pos ⟨Int32.not_lt.mp a, Int32.not_le.mp b⟩, (wr_some hU).1, Option.bind_some]
theorem gV_lift (h : CL L cnt kc σ) {t : Nat} (ht : t < cnt) (s : Int32) : CL L cnt kc (gV L s t σ) ∧ (rvP σ t → f_X1_grow_resolveClock L (nI t) s (σ 2 (ix (σ 16 t))) 9 σ = some (gV L s t σ)) := by
  have h60 := h.1.1
  have x := gV_ex L s t σ
  have hU : LO L (up σ 25 t (σ 25 t + s)) := h.2.ex (Ex.up (R := [25]) _ _ _ (by decide)) (by decide)
  have hO : LO L (gV L s t σ) := by
    unfold gV
    split
    · split
      · exact (wr_some hU).2
      · exact hU
    · exact h.2
  refine ⟨⟨h.1.ex x (by decide) (fun j _ q => by rw [x 21 (by decide)] at q; exact q), hO⟩, fun hr => ?_⟩
  unfold f_X1_grow_resolveClock gV
  rw [if_pos (ib_nI (by omega) (by decide)), ix_nI (by omega), if_pos hr]
  by_cases a : σ 2 (ix (σ 16 t)) < σ 25 t
  · rw [if_pos a, if_neg (fun q => Int32.not_lt.mpr q.1 a)]
  · rw [if_neg a]
    by_cases b : σ 25 t + s ≤ σ 2 (ix (σ 16 t))
    · rw [if_pos b, if_neg (fun q => Int32.not_lt.mpr b q.2)]
    · rw [if_neg b, if_pos ⟨Int32.not_lt.mp a, Int32.not_le.mp b⟩, (wr_some hU).1, Option.bind_some]
theorem gL_lift (h : CL L cnt kc σ) (t : Nat) (s : Int32) : CL L cnt kc (gL s t σ) := by
  have x := gL_ex s t σ
  exact ⟨h.1.ex x (by decide) (fun j _ q => by rw [x 21 (by decide)] at q; exact q), h.2.ex x (by decide)⟩
theorem g108 {N t : Nat} (ht : t < 60) (k2 : Int32 → Int32 → Int32 → Sg → Option Sg) (s o : Int32) : f_X1_growClocks_108 N L k2 s o (nI t) σ = k2 s o (nI t + 1) (gL s t σ) := by
  unfold f_X1_growClocks_108 gL
  rw [if_pos (ib_nI ht (by decide)), ix_nI (by omega)]
  split <;> rfl
theorem g72 (h : CL L cnt kc σ) {N t : Nat} (ht : t < cnt) (k2 : Int32 → Int32 → Int32 → Sg → Option Sg) (s o : Int32) : f_X1_growClocks_72 N L k2 s o (nI t) (σ 16 t) σ = k2 s o (nI t + 1) (gL s t (gV L s t σ)) := by
  have h60 := h.1.1
  unfold f_X1_growClocks_72
  rw [rv_v h.1.2.2.1 h60 ht (h.1.2.2.2.2 t ht).2, Option.bind_some]
  by_cases hv : rvP σ t
  · rw [if_pos hv, if_neg (by decide), if_pos (h.1.ib ht), (gV_lift h ht s).2 hv, Option.bind_some, g108 (by omega)]
  · rw [if_neg hv, if_pos rfl, g108 (by omega)]
    unfold gV
    rw [if_neg hv]
theorem gT_lift (h : CL L cnt kc σ) {t : Nat} (ht : t < cnt) (s o : Int32) (N n : Nat) : CL L cnt kc (gT L s o t σ) ∧ f_X1_growClocks_2 N L (n + 1) s o (nI t) σ = f_X1_growClocks_2 N L n s o (nI (t + 1)) (gT L s o t σ) := by
  have h60 := h.1.1
  have hR := gR_lift h ht s
  constructor
  · unfold gT
    split
    · exact gL_lift (gV_lift hR.1 ht s).1 t s
    · exact h
  · rw [f_X1_growClocks_2, h.1.2.2.1, if_neg (nI_ge ht (by omega)), ct_v h.1 ht, Option.bind_some]
    unfold gT
    by_cases hc : ctP o σ t
    · rw [if_pos hc, if_pos hc, if_neg (by decide), if_pos (ib_nI (by omega) (by decide)), ix_nI (by omega), rr_v h.1.2.2.1 h60 ht (h.1.2.2.2.2 t ht).2, Option.bind_some]
      by_cases hr : rrP σ t
      · have e16 : gR L s t σ 16 t = σ 16 t := congrFun (gR_ex L s t σ 16 (by decide)) t
        rw [if_pos hr, if_neg (by decide), if_pos (h.1.ib ht), hR.2 hr, Option.bind_some, ← e16, g72 hR.1 ht, nI_1]
      · have e : gR L s t σ = σ := by
          unfold gR
          rw [if_neg hr]
        rw [if_neg hr, if_pos rfl, g72 h ht, nI_1, e]
    · rw [if_neg hc, if_neg hc, if_pos rfl, nI_1]
theorem grow_lift (h : CL L cnt kc σ) (s o : Int32) {N : Nat} (hN : 100 < N) : CL L cnt kc (itr (gT L s o) cnt σ) ∧ f_X1_growClocks N L s o σ = some (itr (gT L s o) cnt σ) := by
  have h60 := h.1.1
  exact lift_itr (fun n x σ => f_X1_growClocks_2 N L n s o x σ) (gT L s o) (fun _ σ => CL L cnt kc σ) some cnt (fun n i a hi I => gT_lift I hi s o N n)
    (fun n a I => by
      show f_X1_growClocks_2 N L (n + 1) s o (nI cnt) a = some a
      rw [f_X1_growClocks_2, I.1.2.2.1, if_pos (nI_le (Nat.le_refl _) (by omega))]) σ h N (by omega)
theorem wT_lift (h : CL L cnt kc σ) {t : Nat} (ht : t < cnt) (s : Int32) {N : Nat} (hN : 100 < N) (n : Nat) : CL L cnt kc (wT L s cnt t σ) ∧ f_X1_work_2 N L (n + 1) s (nI t) σ = f_X1_work_2 N L n s (nI (t + 1)) (wT L s cnt t σ) := by
  have h60 := h.1.1
  have x : Ex [22] σ (up σ 22 t (σ 22 t + s)) := Ex.up _ _ _ (by decide)
  have hU : CL L cnt kc (up σ 22 t (σ 22 t + s)) := ⟨h.1.ex x (by decide) (fun j _ q => by rw [x 21 (by decide)] at q; exact q), h.2.ex x (by decide)⟩
  rw [f_X1_work_2, h.1.2.2.1, if_neg (nI_ge ht (by omega)), if_pos (ib_nI (by omega) (by decide)), ix_nI (by omega), up_same]
  unfold wT
  by_cases h1 : σ 21 t = 1
  · rw [if_pos h1, if_pos h1, if_pos (h.1.ib ht)]
    by_cases h3 : σ 3 (ix (σ 16 t)) ≤ σ 22 t + s
    · rw [if_pos h3, if_pos h3]
      by_cases h4 : σ 20 t < σ 4 (ix (σ 16 t))
      · obtain ⟨a1, a2⟩ := ra_lift hU t ht (σ 12 0 + s)
        rw [if_pos h4, if_pos h4, a2, Option.bind_some, nI_1]
        exact ⟨a1, rfl⟩
      · obtain ⟨a1, a2⟩ := fin_lift hU N hN t ht (σ 12 0 + s)
        rw [if_neg h4, if_neg h4, a2, Option.bind_some, nI_1]
        exact ⟨a1, rfl⟩
    · rw [if_neg h3, if_neg h3, nI_1]
      exact ⟨hU, rfl⟩
  · rw [if_neg h1, if_neg h1, nI_1]
    exact ⟨h, rfl⟩
theorem work_lift (h : CL L cnt kc σ) (s : Int32) {N : Nat} (hN : 100 < N) : CL L cnt kc (itr (wT L s cnt) cnt σ) ∧ f_X1_work N L s σ = some (itr (wT L s cnt) cnt σ) := by
  have h60 := h.1.1
  exact lift_itr (fun n x σ => f_X1_work_2 N L n s x σ) (wT L s cnt) (fun _ σ => CL L cnt kc σ) some cnt (fun n i a hi I => wT_lift I hi s hN n)
    (fun n a I => by
      show f_X1_work_2 N L (n + 1) s (nI cnt) a = some a
      rw [f_X1_work_2, I.1.2.2.1, if_pos (nI_le (Nat.le_refl _) (by omega))]) σ h N (by omega)
theorem cb_v (h : CC cnt kc σ) {t : Nat} (ht : t < cnt) : f_X1_climbsByItself (nI t) σ = some (if cbP σ t then 1 else 0) := by
  have h60 := h.1
  unfold f_X1_climbsByItself
  rw [if_pos (ib_nI (by omega) (by decide)), ix_nI (by omega), if_pos (h.ib ht)]
  by_cases a : σ 5 (ix (σ 16 t)) = 0
  · rw [if_pos a, if_neg (fun q => q.1 a)]
  · rw [if_neg a]
    by_cases b : 3 ≤ σ 20 t
    · rw [if_pos b, if_neg (fun q => q.2 b)]
    · rw [if_neg b, if_pos ⟨a, b⟩]
theorem cT_lift (h : CL L cnt kc σ) {t : Nat} (ht : t < cnt) (a : Int32) (N n : Nat) : CL L cnt kc (cT L a t σ) ∧ f_X1_climbWaiting_2 N L (n + 1) a (nI t) σ = f_X1_climbWaiting_2 N L n a (nI (t + 1)) (cT L a t σ) := by
  have h60 := h.1.1
  obtain ⟨r1, r2⟩ := ra_lift h t ht a
  rw [f_X1_climbWaiting_2, h.1.2.2.1, if_neg (nI_ge ht (by omega)), if_pos (ib_nI (by omega) (by decide)), ix_nI (by omega)]
  unfold cT
  by_cases hP : σ 21 t = 0 ∧ cbP σ t ∧ ¬ σ 23 t < σ 5 (ix (σ 16 t))
  · rw [if_pos hP, if_pos hP.1, cb_v h.1 ht, Option.bind_some, if_pos hP.2.1, if_neg (by decide), if_pos (h.1.ib ht), if_neg hP.2.2, r2, Option.bind_some, nI_1]
    exact ⟨r1, rfl⟩
  · rw [if_neg hP]
    by_cases h0 : σ 21 t = 0
    · rw [if_pos h0, cb_v h.1 ht, Option.bind_some]
      by_cases hb : cbP σ t
      · have hl : σ 23 t < σ 5 (ix (σ 16 t)) := Classical.byContradiction fun q => hP ⟨h0, hb, q⟩
        rw [if_pos hb, if_neg (by decide), if_pos (h.1.ib ht), if_pos hl, nI_1]
        exact ⟨h, rfl⟩
      · rw [if_neg hb, if_pos rfl, nI_1]
        exact ⟨h, rfl⟩
    · rw [if_neg h0, nI_1]
      exact ⟨h, rfl⟩
theorem climb_lift (h : CL L cnt kc σ) (a : Int32) {N : Nat} (hN : 100 < N) : CL L cnt kc (itr (cT L a) cnt σ) ∧ f_X1_climbWaiting N L a σ = some (itr (cT L a) cnt σ) := by
  have h60 := h.1.1
  exact lift_itr (fun n x σ => f_X1_climbWaiting_2 N L n a x σ) (cT L a) (fun _ σ => CL L cnt kc σ) some cnt (fun n i b hi I => cT_lift I hi a N n)
    (fun n b I => by
      show f_X1_climbWaiting_2 N L (n + 1) a (nI cnt) b = some b
      rw [f_X1_climbWaiting_2, I.1.2.2.1, if_pos (nI_le (Nat.le_refl _) (by omega))]) σ h N (by omega)
/-- the class's stretch, behind the taking -/
theorem stp_lift (h : CL L cnt kc σ) (s o : Int32) {N : Nat} (hN : 100 < N) : CL L cnt kc (stp L s o cnt σ) ∧
    (f_X1_growClocks N L s o σ).bind (fun p3 => (if o = 0 then f_X1_climbWaiting N L (p3 12 0 + s) p3 else (f_X1_work N L s p3).bind (fun p6 => f_X1_climbWaiting N L (p6 12 0 + s) p6)).bind (fun p1 => some (up p1 12 0 (p1 12 0 + s)))) = some (stp L s o cnt σ) := by
  obtain ⟨g1, g2⟩ := grow_lift h s o hN
  obtain ⟨w1, w2⟩ := work_lift g1 s hN
  have fin12 : ∀ τ : Sg, CL L cnt kc τ → CL L cnt kc (up τ 12 0 (τ 12 0 + s)) := fun τ k => by
    have x : Ex [12] τ (up τ 12 0 (τ 12 0 + s)) := Ex.up _ _ _ (by decide)
    exact ⟨k.1.ex x (by decide) (fun j _ q => by rw [x 21 (by decide)] at q; exact q), k.2.ex x (by decide)⟩
  rw [g2, Option.bind_some]
  unfold stp
  by_cases ho : o = 0
  · obtain ⟨c1, c2⟩ := climb_lift g1 (itr (gT L s o) cnt σ 12 0 + s) hN
    simp only [if_pos ho]
    rw [c2, Option.bind_some]
    exact ⟨fin12 _ c1, rfl⟩
  · obtain ⟨c1, c2⟩ := climb_lift w1 (itr (wT L s cnt) cnt (itr (gT L s o) cnt σ) 12 0 + s) hN
    simp only [if_neg ho]
    rw [w2, Option.bind_some, c2, Option.bind_some]
    exact ⟨fin12 _ c1, rfl⟩
end Ee
