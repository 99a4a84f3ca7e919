section Gi
variable {cnt kc T hl : Nat} {σ μ : Sg}
/-! the queries: both sides answer the same -/
theorem bind_sm {α : Type} (x : Option α) : x.bind (fun p => some p) = x := by cases x <;> rfl
/-- both answer, and the same -/
def QR {α : Type} (x y : Option α) : Prop := ∃ r, x = some r ∧ y = some r
theorem QR.b {α : Type} {x y : Option α} (h : QR x y) : QR (x.bind (fun p => some p)) (y.bind (fun p => some p)) := by
  rw [bind_sm, bind_sm]
  exact h
theorem LV.E (V : LV cnt kc T hl σ μ) : Eq2 cnt kc σ μ := V.1.1
theorem LV.cc (V : LV cnt kc T hl σ μ) : CC cnt kc σ := cc_of V.1.1 V.1.2.2.1.2.2.2.2.2.1 V.1.2.2.1.2.2.2.2.2.2.1
theorem q_opening (V : LV cnt kc T hl σ μ) (x : Int32) (wd : Int64) : QR (f_X8_openingMinute x σ) (f_X9_openingMinute x μ wd) := by
  unfold f_X8_openingMinute f_X9_openingMinute f_X9_isDay
  simp only [wi_eq]
  rcases wi x 0 6 with w | w
  · obtain ⟨j, h1, rfl⟩ := nI_of0 w.2.1 (n := 6) w.2.2 (by decide)
    have e1 : μ 1 (ix (nI (1 + j))) = σ 13 j := (g_open (by omega) μ).trans (V.E.e 13 _ (show j < 7 by omega))
    refine ⟨σ 13 j, ?_, ?_⟩
    · rw [w.1, Option.bind_some, if_neg (by decide), if_pos (ib_nI (by omega) (by decide)), ix_nI (by omega)]
    · rw [w.1]
      simp only [Option.bind_some]
      rw [o_at, e1, if_pos (c := ib (nI (1 + j)) 4619) (ib_nI (by omega) (by decide))]
      simp [bz]
  · exact ⟨-4, by rw [w.1]; rfl, by rw [w.1]; simp [bz]⟩
theorem q_closing (V : LV cnt kc T hl σ μ) (x : Int32) (wd : Int64) : QR (f_X8_closingMinute x σ) (f_X9_closingMinute x μ wd) := by
  unfold f_X8_closingMinute f_X9_closingMinute f_X9_isDay
  simp only [wi_eq]
  rcases wi x 0 6 with w | w
  · obtain ⟨j, h1, rfl⟩ := nI_of0 w.2.1 (n := 6) w.2.2 (by decide)
    have e1 : μ 1 (ix (nI (8 + j))) = σ 14 j := (g_close (by omega) μ).trans (V.E.e 14 _ (show j < 7 by omega))
    refine ⟨σ 14 j, ?_, ?_⟩
    · rw [w.1, Option.bind_some, if_neg (by decide), if_pos (ib_nI (by omega) (by decide)), ix_nI (by omega)]
    · rw [w.1]
      simp only [Option.bind_some]
      rw [c_at, e1, if_pos (c := ib (nI (8 + j)) 4619) (ib_nI (by omega) (by decide))]
      simp [bz]
  · exact ⟨-4, by rw [w.1]; rfl, by rw [w.1]; simp [bz]⟩
theorem q_agents (V : LV cnt kc T hl σ μ) (x : Int32) (wd : Int64) : QR (f_X8_agents x σ) (f_X9_agents x μ wd) := by
  unfold f_X8_agents f_X9_agents f_X9_isLevel
  simp only [wi_eq]
  rcases wi x 0 3 with w | w
  · obtain ⟨j, h1, rfl⟩ := nI_of0 w.2.1 (n := 3) w.2.2 (by decide)
    have e1 : μ 1 (ix (nI (15 + j))) = σ 30 j := (g_agents (by omega) μ).trans (V.E.e 30 _ (show j < 4 by omega))
    refine ⟨σ 30 j, ?_, ?_⟩
    · rw [w.1, Option.bind_some, if_neg (by decide), if_pos (ib_nI (by omega) (by decide)), ix_nI (by omega)]
    · rw [w.1]
      simp only [Option.bind_some]
      rw [a_at, e1, if_pos (c := ib (nI (15 + j)) 4619) (ib_nI (by omega) (by decide))]
      simp [bz]
  · exact ⟨-4, by rw [w.1]; rfl, by rw [w.1]; simp [bz]⟩
theorem nI_of0' {x : Int32} {n : Nat} (h0 : 0 ≤ x) (h : x ≤ nI n) (hn : n < 100000) : ∃ j : Nat, j ≤ n ∧ x = nI j := by
  have h1 := z_le.mp h0
  have h2 := z_le.mp h
  rw [z_nI (by omega)] at h2
  rw [z_0] at h1
  exact ⟨x.toInt.toNat, by omega, z_eq.mpr (by rw [z_nI (by omega)]; omega)⟩
theorem q_isOpen (V : LV cnt kc T hl σ μ) (x : Int32) (wd : Int64) : QR (f_X8_isOpen x σ) (f_X9_isOpen x μ wd) := by
  unfold f_X8_isOpen f_X9_isOpen
  simp only [wi_eq]
  rcases wi x 0 10079 with w | w
  · obtain ⟨j, h1, rfl⟩ := nI_of0' w.2.1 (n := 10079) w.2.2 (by decide)
    have K := V.1.2.2.1.2.2.2.1
    rw [w.1, Option.bind_some, Option.bind_some, if_neg (c := (1 : Int32) = 0) (by decide), if_neg (c := (1 : Int32) = 0) (by decide), op_v K (by omega), Option.bind_some, mop_v V.E K (by omega), Option.bind_some]
    by_cases z : oV σ j = 0
    · rw [if_pos z]
      exact ⟨_, rfl, rfl⟩
    · rw [if_neg z]
      exact ⟨_, rfl, rfl⟩
  · exact ⟨-4, by rw [w.1]; rfl, by rw [w.1]; rfl⟩
theorem q_kindCount (V : LV cnt kc T hl σ μ) (wd : Int64) : QR (f_X8_kindCount σ) (f_X9_kindCount μ wd) := ⟨σ 0 0, rfl, congrArg some (V.E.mk.trans V.E.k.symm)⟩
theorem q_now (V : LV cnt kc T hl σ μ) (wd : Int64) : QR (f_X8_now σ) (f_X9_now μ wd) := ⟨σ 12 0, rfl, congrArg some V.E.mt⟩
theorem q_ticketCount (V : LV cnt kc T hl σ μ) (wd : Int64) : QR (f_X8_ticketCount σ) (f_X9_ticketCount μ wd) := ⟨σ 15 0, rfl, congrArg some (V.E.mc.trans V.E.c.symm)⟩
theorem q_historyLength (V : LV cnt kc T hl σ μ) (wd : Int64) : QR (f_X8_historyLength σ) (f_X9_historyLength μ wd) := ⟨σ 31 0, rfl, congrArg some (V.2.2.2.1.trans V.2.2.1.symm)⟩
theorem LV.ln (V : LV cnt kc T hl σ μ) : ∃ ln : Nat, ln ≤ 600 ∧ μ 1 (ix 58) = nI ln ∧ σ 7 0 = nI ln ∧ ∀ k i, 8 ≤ k → k < 12 → i < ln → pV μ k i = σ k i := by
  obtain ⟨ln, g1, g2, g3⟩ := V.1.2.1
  rcases g3 with ⟨p, q⟩ | ⟨p, q, r⟩
  · exact absurd p (by decide)
  · exact ⟨ln, g1, g2, q, r⟩
theorem q_logSize (V : LV cnt kc T hl σ μ) (wd : Int64) : QR (f_X8_logSize σ) (f_X9_logSize μ wd) := by
  obtain ⟨ln, -, h1, h2, -⟩ := V.ln
  exact ⟨nI ln, congrArg some h2, congrArg some h1⟩
theorem s1_of {x : Int32} {n : Nat} (h0 : 0 ≤ x) (h : x ≤ nI n - 1) (hn : n < 10000) : ∃ j : Nat, j < n ∧ x = nI j := by
  have h1 := z_le.mp h0
  have h2 := z_le.mp h
  have h3 := z_nI (n := n) (by omega)
  rw [z_sub (by omega) (by omega) (by decide) (by decide), h3, z_1] at h2
  rw [z_0] at h1
  exact ⟨x.toInt.toNat, by omega, z_eq.mpr (by rw [z_nI (by omega)]; omega)⟩
theorem q_logTime (V : LV cnt kc T hl σ μ) (x : Int32) (wd : Int64) : QR (f_X8_logTime x σ) (f_X9_logTime x μ wd) := by
  obtain ⟨ln, g0, h1, h2, h3⟩ := V.ln
  refine QR.b ?_
  unfold f_X8_ofEvent_time f_X9_eventField
  simp only [wi_eq]
  rw [h1, h2]
  rcases wi x 0 (nI ln - 1) with w | w
  · obtain ⟨j, h4, rfl⟩ := s1_of w.2.1 w.2.2 (by omega)
    have e1 : μ 1 (ix (nI (2219 + 4 * j + 0))) = σ 8 j := by
      rw [ix_nI (by omega)]
      exact (pV_in (k := 8) (show j < 600 by omega)).symm.trans (h3 8 j (by decide) (by decide) h4)
    refine ⟨σ 8 j, ?_, ?_⟩
    · rw [w.1, Option.bind_some, if_neg (by decide), if_pos (ib_nI (by omega) (by decide)), ix_nI (by omega)]
    · rw [w.1, Option.bind_some, if_neg (by decide), show (2219 + (4 * nI j)) + (0 : Int32) = nI (2219 + 4 * j + 0) from l_at j 0, if_pos (ib_nI (by omega) (by decide)), e1]
  · exact ⟨-4, by rw [w.1]; rfl, by rw [w.1]; rfl⟩
theorem q_logType (V : LV cnt kc T hl σ μ) (x : Int32) (wd : Int64) : QR (f_X8_logType x σ) (f_X9_logType x μ wd) := by
  obtain ⟨ln, g0, h1, h2, h3⟩ := V.ln
  refine QR.b ?_
  unfold f_X8_ofEvent_type f_X9_eventField
  simp only [wi_eq]
  rw [h1, h2]
  rcases wi x 0 (nI ln - 1) with w | w
  · obtain ⟨j, h4, rfl⟩ := s1_of w.2.1 w.2.2 (by omega)
    have e1 : μ 1 (ix (nI (2219 + 4 * j + 1))) = σ 9 j := by
      rw [ix_nI (by omega)]
      exact (pV_in (k := 9) (show j < 600 by omega)).symm.trans (h3 9 j (by decide) (by decide) h4)
    refine ⟨σ 9 j, ?_, ?_⟩
    · rw [w.1, Option.bind_some, if_neg (by decide), if_pos (ib_nI (by omega) (by decide)), ix_nI (by omega)]
    · rw [w.1, Option.bind_some, if_neg (by decide), show (2219 + (4 * nI j)) + (1 : Int32) = nI (2219 + 4 * j + 1) from l_at j 1, if_pos (ib_nI (by omega) (by decide)), e1]
  · exact ⟨-4, by rw [w.1]; rfl, by rw [w.1]; rfl⟩
theorem q_logTicket (V : LV cnt kc T hl σ μ) (x : Int32) (wd : Int64) : QR (f_X8_logTicket x σ) (f_X9_logTicket x μ wd) := by
  obtain ⟨ln, g0, h1, h2, h3⟩ := V.ln
  refine QR.b ?_
  unfold f_X8_ofEvent_ticket f_X9_eventField
  simp only [wi_eq]
  rw [h1, h2]
  rcases wi x 0 (nI ln - 1) with w | w
  · obtain ⟨j, h4, rfl⟩ := s1_of w.2.1 w.2.2 (by omega)
    have e1 : μ 1 (ix (nI (2219 + 4 * j + 2))) = σ 10 j := by
      rw [ix_nI (by omega)]
      exact (pV_in (k := 10) (show j < 600 by omega)).symm.trans (h3 10 j (by decide) (by decide) h4)
    refine ⟨σ 10 j, ?_, ?_⟩
    · rw [w.1, Option.bind_some, if_neg (by decide), if_pos (ib_nI (by omega) (by decide)), ix_nI (by omega)]
    · rw [w.1, Option.bind_some, if_neg (by decide), show (2219 + (4 * nI j)) + (2 : Int32) = nI (2219 + 4 * j + 2) from l_at j 2, if_pos (ib_nI (by omega) (by decide)), e1]
  · exact ⟨-4, by rw [w.1]; rfl, by rw [w.1]; rfl⟩
theorem q_logDetail (V : LV cnt kc T hl σ μ) (x : Int32) (wd : Int64) : QR (f_X8_logDetail x σ) (f_X9_logDetail x μ wd) := by
  obtain ⟨ln, g0, h1, h2, h3⟩ := V.ln
  refine QR.b ?_
  unfold f_X8_ofEvent_detail f_X9_eventField
  simp only [wi_eq]
  rw [h1, h2]
  rcases wi x 0 (nI ln - 1) with w | w
  · obtain ⟨j, h4, rfl⟩ := s1_of w.2.1 w.2.2 (by omega)
    have e1 : μ 1 (ix (nI (2219 + 4 * j + 3))) = σ 11 j := by
      rw [ix_nI (by omega)]
      exact (pV_in (k := 11) (show j < 600 by omega)).symm.trans (h3 11 j (by decide) (by decide) h4)
    refine ⟨σ 11 j, ?_, ?_⟩
    · rw [w.1, Option.bind_some, if_neg (by decide), if_pos (ib_nI (by omega) (by decide)), ix_nI (by omega)]
    · rw [w.1, Option.bind_some, if_neg (by decide), show (2219 + (4 * nI j)) + (3 : Int32) = nI (2219 + 4 * j + 3) from l_at j 3, if_pos (ib_nI (by omega) (by decide)), e1]
  · exact ⟨-4, by rw [w.1]; rfl, by rw [w.1]; rfl⟩
theorem q_stateOf (V : LV cnt kc T hl σ μ) (x : Int32) (wd : Int64) : QR (f_X8_stateOf x σ) (f_X9_stateOf x μ wd) := by
  refine QR.b ?_
  unfold f_X8_ofTicket_state f_X9_fieldOf
  rcases tix V.E x wd with ⟨t, h1, rfl, h2, h3⟩ | ⟨h2, h3⟩
  · have := V.E.lt h1
    refine ⟨σ 21 t, ?_, ?_⟩
    · rw [h2, Option.bind_some, if_neg (by decide), if_pos (ib_nI (by omega) (by decide)), ix_nI (by omega)]
    · rw [h3, Option.bind_some, if_neg (by decide), bind_sm, tg_9 V.E h1]
  · exact ⟨-2, by rw [h2]; rfl, by rw [h3]; rfl⟩
theorem q_kindOf (V : LV cnt kc T hl σ μ) (x : Int32) (wd : Int64) : QR (f_X8_kindOf x σ) (f_X9_kindOf x μ wd) := by
  refine QR.b ?_
  unfold f_X8_ofTicket_kind f_X9_fieldOf
  rcases tix V.E x wd with ⟨t, h1, rfl, h2, h3⟩ | ⟨h2, h3⟩
  · have := V.E.lt h1
    refine ⟨σ 16 t, ?_, ?_⟩
    · rw [h2, Option.bind_some, if_neg (by decide), if_pos (ib_nI (by omega) (by decide)), ix_nI (by omega)]
    · rw [h3, Option.bind_some, if_neg (by decide), bind_sm, tg_0 V.E h1]
  · exact ⟨-2, by rw [h2]; rfl, by rw [h3]; rfl⟩
theorem q_levelOf (V : LV cnt kc T hl σ μ) (x : Int32) (wd : Int64) : QR (f_X8_levelOf x σ) (f_X9_levelOf x μ wd) := by
  refine QR.b ?_
  unfold f_X8_ofTicket_level f_X9_fieldOf
  rcases tix V.E x wd with ⟨t, h1, rfl, h2, h3⟩ | ⟨h2, h3⟩
  · have := V.E.lt h1
    refine ⟨σ 20 t, ?_, ?_⟩
    · rw [h2, Option.bind_some, if_neg (by decide), if_pos (ib_nI (by omega) (by decide)), ix_nI (by omega)]
    · rw [h3, Option.bind_some, if_neg (by decide), bind_sm, tg_4 V.E h1]
  · exact ⟨-2, by rw [h2]; rfl, by rw [h3]; rfl⟩
theorem q_priorityOf (V : LV cnt kc T hl σ μ) (x : Int32) (wd : Int64) : QR (f_X8_priorityOf x σ) (f_X9_priorityOf x μ wd) := by
  refine QR.b ?_
  unfold f_X8_ofTicket_priority f_X9_fieldOf
  rcases tix V.E x wd with ⟨t, h1, rfl, h2, h3⟩ | ⟨h2, h3⟩
  · have := V.E.lt h1
    refine ⟨σ 19 t, ?_, ?_⟩
    · rw [h2, Option.bind_some, if_neg (by decide), if_pos (ib_nI (by omega) (by decide)), ix_nI (by omega)]
    · rw [h3, Option.bind_some, if_neg (by decide), bind_sm, tg_3 V.E h1]
  · exact ⟨-2, by rw [h2]; rfl, by rw [h3]; rfl⟩
theorem q_progress (V : LV cnt kc T hl σ μ) (x : Int32) (wd : Int64) : QR (f_X8_progress x σ) (f_X9_progress x μ wd) := by
  refine QR.b ?_
  unfold f_X8_ofTicket_progress f_X9_fieldOf
  rcases tix V.E x wd with ⟨t, h1, rfl, h2, h3⟩ | ⟨h2, h3⟩
  · have := V.E.lt h1
    refine ⟨σ 22 t, ?_, ?_⟩
    · rw [h2, Option.bind_some, if_neg (by decide), if_pos (ib_nI (by omega) (by decide)), ix_nI (by omega)]
    · rw [h3, Option.bind_some, if_neg (by decide), bind_sm, tg_5 V.E h1]
  · exact ⟨-2, by rw [h2]; rfl, by rw [h3]; rfl⟩
theorem q_rootOf (V : LV cnt kc T hl σ μ) (x : Int32) (wd : Int64) : QR (f_X8_rootOf x σ) (f_X9_rootOf x μ wd) := by
  refine QR.b ?_
  unfold f_X8_ofTicket_root f_X9_fieldOf
  rcases tix V.E x wd with ⟨t, h1, rfl, h2, h3⟩ | ⟨h2, h3⟩
  · have := V.E.lt h1
    refine ⟨σ 26 t, ?_, ?_⟩
    · rw [h2, Option.bind_some, if_neg (by decide), if_pos (ib_nI (by omega) (by decide)), ix_nI (by omega)]
    · rw [h3, Option.bind_some, if_neg (by decide), bind_sm, tg_10 V.E h1]
  · exact ⟨-2, by rw [h2]; rfl, by rw [h3]; rfl⟩
theorem q_reportedAt (V : LV cnt kc T hl σ μ) (x : Int32) (wd : Int64) : QR (f_X8_reportedAt x σ) (f_X9_reportedAt x μ wd) := by
  refine QR.b ?_
  unfold f_X8_ofTicket_reportedAt f_X9_fieldOf
  rcases tix V.E x wd with ⟨t, h1, rfl, h2, h3⟩ | ⟨h2, h3⟩
  · have := V.E.lt h1
    refine ⟨σ 27 t, ?_, ?_⟩
    · rw [h2, Option.bind_some, if_neg (by decide), if_pos (ib_nI (by omega) (by decide)), ix_nI (by omega)]
    · rw [h3, Option.bind_some, if_neg (by decide), bind_sm, tg_11 V.E h1]
  · exact ⟨-2, by rw [h2]; rfl, by rw [h3]; rfl⟩
theorem q_answeredAt (V : LV cnt kc T hl σ μ) (x : Int32) (wd : Int64) : QR (f_X8_answeredAt x σ) (f_X9_answeredAt x μ wd) := by
  refine QR.b ?_
  unfold f_X8_ofTicket_answeredAt f_X9_fieldOf
  rcases tix V.E x wd with ⟨t, h1, rfl, h2, h3⟩ | ⟨h2, h3⟩
  · have := V.E.lt h1
    refine ⟨σ 28 t, ?_, ?_⟩
    · rw [h2, Option.bind_some, if_neg (by decide), if_pos (ib_nI (by omega) (by decide)), ix_nI (by omega)]
    · rw [h3, Option.bind_some, if_neg (by decide), bind_sm, tg_12 V.E h1]
  · exact ⟨-2, by rw [h2]; rfl, by rw [h3]; rfl⟩
theorem q_solvedAt (V : LV cnt kc T hl σ μ) (x : Int32) (wd : Int64) : QR (f_X8_solvedAt x σ) (f_X9_solvedAt x μ wd) := by
  refine QR.b ?_
  unfold f_X8_ofTicket_solvedAt f_X9_fieldOf
  rcases tix V.E x wd with ⟨t, h1, rfl, h2, h3⟩ | ⟨h2, h3⟩
  · have := V.E.lt h1
    refine ⟨σ 29 t, ?_, ?_⟩
    · rw [h2, Option.bind_some, if_neg (by decide), if_pos (ib_nI (by omega) (by decide)), ix_nI (by omega)]
    · rw [h3, Option.bind_some, if_neg (by decide), bind_sm, tg_13 V.E h1]
  · exact ⟨-2, by rw [h2]; rfl, by rw [h3]; rfl⟩
theorem q_responseClock (V : LV cnt kc T hl σ μ) (x : Int32) (wd : Int64) : QR (f_X8_responseClock x σ) (f_X9_responseClock x μ wd) := by
  refine QR.b ?_
  unfold f_X8_ofTicket_responseClock f_X9_fieldOf
  rcases tix V.E x wd with ⟨t, h1, rfl, h2, h3⟩ | ⟨h2, h3⟩
  · have := V.E.lt h1
    refine ⟨σ 24 t, ?_, ?_⟩
    · rw [h2, Option.bind_some, if_neg (by decide), if_pos (ib_nI (by omega) (by decide)), ix_nI (by omega)]
    · rw [h3, Option.bind_some, if_neg (by decide), bind_sm, tg_7 V.E h1]
  · exact ⟨-2, by rw [h2]; rfl, by rw [h3]; rfl⟩
theorem q_resolveClock (V : LV cnt kc T hl σ μ) (x : Int32) (wd : Int64) : QR (f_X8_resolveClock x σ) (f_X9_resolveClock x μ wd) := by
  refine QR.b ?_
  unfold f_X8_ofTicket_resolveClock f_X9_fieldOf
  rcases tix V.E x wd with ⟨t, h1, rfl, h2, h3⟩ | ⟨h2, h3⟩
  · have := V.E.lt h1
    refine ⟨σ 25 t, ?_, ?_⟩
    · rw [h2, Option.bind_some, if_neg (by decide), if_pos (ib_nI (by omega) (by decide)), ix_nI (by omega)]
    · rw [h3, Option.bind_some, if_neg (by decide), bind_sm, tg_8 V.E h1]
  · exact ⟨-2, by rw [h2]; rfl, by rw [h3]; rfl⟩
theorem q_queueLength (V : LV cnt kc T hl σ μ) (x : Int32) (wd : Int64) {N : Nat} (hN : 100 < N) : QR (f_X8_queueLength N x σ) (f_X9_queueLength N x μ wd) := by
  unfold f_X8_queueLength f_X9_queueLength f_X9_isLevel
  simp only [wi_eq, bind_sm]
  rw [ca_v V.E.c V.E.1 x 0 hN, mca_v V.E x 0 wd hN]
  rcases wi x 0 3 with w | w
  · exact ⟨_, by rw [w.1]; rfl, by rw [w.1]; simp [bz]⟩
  · exact ⟨-4, by rw [w.1]; rfl, by rw [w.1]; simp [bz]⟩
theorem q_busyAgents (V : LV cnt kc T hl σ μ) (x : Int32) (wd : Int64) {N : Nat} (hN : 100 < N) : QR (f_X8_busyAgents N x σ) (f_X9_busyAgents N x μ wd) := by
  unfold f_X8_busyAgents f_X9_busyAgents f_X9_busy f_X9_isLevel
  simp only [wi_eq, bind_sm]
  rw [ca_v V.E.c V.E.1 x 1 hN, mca_v V.E x 1 wd hN]
  rcases wi x 0 3 with w | w
  · exact ⟨_, by rw [w.1]; rfl, by rw [w.1]; simp [bz]⟩
  · exact ⟨-4, by rw [w.1]; rfl, by rw [w.1]; simp [bz]⟩
theorem q_nextTicket (V : LV cnt kc T hl σ μ) (x : Int32) (wd : Int64) {N : Nat} (hN : 100 < N) : QR (f_X8_nextTicket N x σ) (f_X9_nextTicket N x μ wd) := by
  unfold f_X8_nextTicket f_X9_nextTicket f_X9_isLevel
  simp only [wi_eq, bind_sm]
  rw [(fq_v V.cc x hN).2, mfq_v V.E V.cc x wd hN]
  rcases wi x 0 3 with w | w
  · exact ⟨_, by rw [w.1]; rfl, by rw [w.1]; simp [bz]⟩
  · exact ⟨-4, by rw [w.1]; rfl, by rw [w.1]; simp [bz]⟩
theorem y_or0 (y : Int64) : y ||| 0 = y := Int64.or_zero
/-- the reference's twins -/
theorem mtm_v (E : Eq2 cnt kc σ μ) (x : Int32) (wd : Int64) {N : Nat} (hN : 100 < N) : f_X9_twins_17 N N x 0 0 μ wd = some (mk (fun j => decide (σ 26 j = x)) cnt) := by
  have h60 := E.1
  have key := lift_itr (α := Int64) (fun n i y => f_X9_twins_17 N n x y i μ wd) (fun i y => if decide (σ 26 i = x) = true then y ||| ((1 : Int64) <<< ((nI i).toInt64 &&& 63)) else y) (fun i y => y = mk (fun j => decide (σ 26 j = x)) i) some cnt
    (fun n i y hi I => by
      subst I
      refine ⟨(mk_s (fun j => decide (σ 26 j = x)) (show i < 60 by omega)).symm, ?_⟩
      show f_X9_twins_17 N (n + 1) x _ (nI i) μ wd = f_X9_twins_17 N n x _ (nI (i + 1)) μ wd
      rw [f_X9_twins_17, E.mc, if_neg (nI_ge hi (by omega)), tg_10 E hi, Option.bind_some, nI_1, y_or0]
      by_cases q : σ 26 i = x
      · rw [if_pos q, decide_eq_true q, if_pos rfl]
      · rw [if_neg q, decide_eq_false q]
        rfl)
    (fun n y I => by
      show f_X9_twins_17 N (n + 1) x y (nI cnt) μ wd = _
      rw [f_X9_twins_17, E.mc, if_pos (nI_le (Nat.le_refl _) (by omega))]) 0 rfl N (by omega)
  rw [key.2, key.1]
theorem q_twins (V : LV cnt kc T hl σ μ) (x : Int32) (wd : Int64) {N : Nat} (hN : 100 < N) : QR (f_X8_twins N x σ) (f_X9_twins N x μ wd) := by
  unfold f_X8_twins f_X9_twins
  rw [tm_v V.E.c V.E.1 x hN, mtm_v V.E x wd hN]
  rcases tix V.E x wd with ⟨t, h1, rfl, h2, h3⟩ | ⟨h2, h3⟩
  · exact ⟨_, by rw [h2]; rfl, by rw [h3]; rfl⟩
  · exact ⟨-2, by rw [h2]; rfl, by rw [h3]; rfl⟩
theorem um_v (E : Eq2 cnt kc σ μ) (x : Int32) (wd : Int64) {N : Nat} (hN : 100 < N) : f_X7_unsolvedMask N x σ = some (mk (fun j => decide (σ 17 j = x ∧ σ 21 j ≠ 3)) cnt) ∧ f_X9_customerTickets_19 N N x 0 0 μ wd = some (mk (fun j => decide (σ 17 j = x ∧ σ 21 j ≠ 3)) cnt) := by
  have h60 := E.1
  constructor
  · have key := lift_itr (α := Int64) (fun n i y => f_X7_unsolvedMask_5 N n x y i σ) (fun i y => if decide (σ 17 i = x ∧ σ 21 i ≠ 3) = true then y ||| ((1 : Int64) <<< ((nI i).toInt64 &&& 63)) else y) (fun i y => y = mk (fun j => decide (σ 17 j = x ∧ σ 21 j ≠ 3)) i) some cnt
      (fun n i y hi I => by
        subst I
        refine ⟨(mk_s (fun j => decide (σ 17 j = x ∧ σ 21 j ≠ 3)) (show i < 60 by omega)).symm, ?_⟩
        show f_X7_unsolvedMask_5 N (n + 1) x _ (nI i) σ = f_X7_unsolvedMask_5 N n x _ (nI (i + 1)) σ
        rw [f_X7_unsolvedMask_5, E.c, if_neg (nI_ge hi (by omega)), if_pos (ib_nI (by omega) (by decide)), ix_nI (by omega), nI_1]
        by_cases q : σ 17 i = x
        · by_cases p : σ 21 i = 3
          · rw [if_pos q, if_pos p, decide_eq_false (show ¬ (σ 17 i = x ∧ σ 21 i ≠ 3) from fun z => z.2 p)]
            rfl
          · rw [if_pos q, if_neg p, decide_eq_true (show (σ 17 i = x ∧ σ 21 i ≠ 3) from ⟨q, p⟩), if_pos rfl]
        · rw [if_neg q, decide_eq_false (show ¬ (σ 17 i = x ∧ σ 21 i ≠ 3) from fun z => q z.1)]
          rfl)
      (fun n y I => by
        show f_X7_unsolvedMask_5 N (n + 1) x y (nI cnt) σ = _
        rw [f_X7_unsolvedMask_5, E.c, if_pos (nI_le (Nat.le_refl _) (by omega))]) 0 rfl N (by omega)
    unfold f_X7_unsolvedMask
    rw [key.2, key.1]
  · have key := lift_itr (α := Int64) (fun n i y => f_X9_customerTickets_19 N n x y i μ wd) (fun i y => if decide (σ 17 i = x ∧ σ 21 i ≠ 3) = true then y ||| ((1 : Int64) <<< ((nI i).toInt64 &&& 63)) else y) (fun i y => y = mk (fun j => decide (σ 17 j = x ∧ σ 21 j ≠ 3)) i) some cnt
      (fun n i y hi I => by
        subst I
        refine ⟨(mk_s (fun j => decide (σ 17 j = x ∧ σ 21 j ≠ 3)) (show i < 60 by omega)).symm, ?_⟩
        show f_X9_customerTickets_19 N (n + 1) x _ (nI i) μ wd = f_X9_customerTickets_19 N n x _ (nI (i + 1)) μ wd
        rw [f_X9_customerTickets_19, E.mc, if_neg (nI_ge hi (by omega)), tg_1 E hi, Option.bind_some, is_v E hi, Option.bind_some, nI_1, y_or0]
        by_cases q : σ 17 i = x
        · by_cases p : σ 21 i = 3
          · rw [if_pos q, if_pos p, decide_eq_false (show ¬ (σ 17 i = x ∧ σ 21 i ≠ 3) from fun z => z.2 p)]
            rfl
          · rw [if_pos q, if_neg p, decide_eq_true (show (σ 17 i = x ∧ σ 21 i ≠ 3) from ⟨q, p⟩), if_pos rfl, if_pos rfl]
        · rw [if_neg q, decide_eq_false (show ¬ (σ 17 i = x ∧ σ 21 i ≠ 3) from fun z => q z.1)]
          rfl)
      (fun n y I => by
        show f_X9_customerTickets_19 N (n + 1) x y (nI cnt) μ wd = _
        rw [f_X9_customerTickets_19, E.mc, if_pos (nI_le (Nat.le_refl _) (by omega))]) 0 rfl N (by omega)
    rw [key.2, key.1]
theorem q_customerTickets (V : LV cnt kc T hl σ μ) (x : Int32) (wd : Int64) {N : Nat} (hN : 100 < N) : QR (f_X8_customerTickets N x σ) (f_X9_customerTickets N x μ wd) := by
  unfold f_X8_customerTickets f_X9_customerTickets
  simp only [wi_eq, bind_sm]
  rw [(um_v V.E x wd hN).1, (um_v V.E x wd hN).2]
  rcases wi x 0 99 with w | w
  · exact ⟨_, by rw [w.1]; rfl, by rw [w.1]; rfl⟩
  · exact ⟨-4, by rw [w.1]; rfl, by rw [w.1]; rfl⟩
/-! the open minutes of a span -/
def omF (σ : Sg) (x y : Int32) (d : Nat) (a : Int32) : Int32 := a + (if 0 < ((if ((nI d * 1440) + (σ 14 d)) < y then ((nI d * 1440) + (σ 14 d)) else y) - (if x < ((nI d * 1440) + (σ 13 d)) then ((nI d * 1440) + (σ 13 d)) else x)) then ((if ((nI d * 1440) + (σ 14 d)) < y then ((nI d * 1440) + (σ 14 d)) else y) - (if x < ((nI d * 1440) + (σ 13 d)) then ((nI d * 1440) + (σ 13 d)) else x)) else 0)
theorem om_v (x y : Int32) {N : Nat} (hN : 100 < N) : f_X0_openBetween N x y σ = some (itr (omF σ x y) 7 0) :=
  (lift_itr (α := Int32) (fun n i a => f_X0_openBetween_5 N n x y a i σ) (omF σ x y) (fun _ _ => True) some 7
    (fun n i a hi _ => by
      refine ⟨trivial, ?_⟩
      show f_X0_openBetween_5 N (n + 1) x y a (nI i) σ = f_X0_openBetween_5 N n x y (omF σ x y i a) (nI (i + 1)) σ
      rw [f_X0_openBetween_5, if_neg (show ¬ (7 : Int32) ≤ nI i from nI_ge (b := 7) hi (by decide)), if_pos (ib_nI hi (by decide)), ix_nI (by omega), nI_1]
      rfl)
    (fun n a _ => by
      show f_X0_openBetween_5 N (n + 1) x y a (nI 7) σ = _
      rw [f_X0_openBetween_5, if_pos (by decide)]) 0 trivial N (by omega)).2
theorem mom_v (E : Eq2 cnt kc σ μ) (x y : Int32) (wd : Int64) {N : Nat} (hN : 100 < N) : f_X9_openMinutes_30 N N x y 0 0 μ wd = some (itr (omF σ x y) 7 0) :=
  (lift_itr (α := Int32) (fun n i a => f_X9_openMinutes_30 N n x y a i μ wd) (omF σ x y) (fun _ _ => True) some 7
    (fun n i a hi _ => by
      refine ⟨trivial, ?_⟩
      show f_X9_openMinutes_30 N (n + 1) x y a (nI i) μ wd = f_X9_openMinutes_30 N n x y (omF σ x y i a) (nI (i + 1)) μ wd
      have e1 : μ 1 (ix (nI (1 + i))) = σ 13 i := (g_open hi μ).trans (E.e 13 _ hi)
      have e2 : μ 1 (ix (nI (8 + i))) = σ 14 i := (g_close hi μ).trans (E.e 14 _ hi)
      rw [f_X9_openMinutes_30, if_neg (show ¬ (7 : Int32) ≤ nI i from nI_ge (b := 7) hi (by decide)), o_at, c_at, if_pos (ib_nI (by omega) (by decide)), if_pos (ib_nI (by omega) (by decide)), e1, e2, nI_1, Int32.mul_comm 1440 (nI i)]
      rfl)
    (fun n a _ => by
      show f_X9_openMinutes_30 N (n + 1) x y a (nI 7) μ wd = _
      rw [f_X9_openMinutes_30, if_pos (by decide)]) 0 trivial N (by omega)).2
theorem q_openMinutes (V : LV cnt kc T hl σ μ) (x y : Int32) (wd : Int64) {N : Nat} (hN : 100 < N) : QR (f_X8_openMinutes N x y σ) (f_X9_openMinutes N x y μ wd) := by
  unfold f_X8_openMinutes f_X9_openMinutes
  simp only [wi_eq, bind_sm]
  rw [om_v x y hN, mom_v V.E x y wd hN]
  rcases wi x 0 10080 with w | w
  · rcases wi y x 10080 with u | u
    · exact ⟨_, by rw [w.1, u.1]; rfl, by rw [w.1, u.1]; rfl⟩
    · exact ⟨-4, by rw [w.1, u.1]; rfl, by rw [w.1, u.1]; rfl⟩
  · exact ⟨-4, by rw [w.1]; rfl, by rw [w.1]; rfl⟩
end Gi
