set_option maxRecDepth 100000 in
set_option maxHeartbeats 4000000 in
theorem c_X8_logTicket (l : Launch) (D : va_G) (cA : Nat → ClassId) (tS : Nat → Nat) (A : Nat → Prop) (h : Nat → Nat) (ax : Nat) (sv : Nat) (tr : Nat) (sc : Nat) (F : va_W) (x1 : Int32) (σ : Sg) (r0 : Int32) (hM : f_X8_logTicket x1 σ = some r0) : Ct l yX8_logTicket (Cond.code yX8_logTicket cX8_logTicket 2 (some .int) :: bw) 2 44 D cA tS A [.ref ax, .int x1] (wK cA h σ ++ (wLg cA h σ 600 ++ (wC cA h σ ++ (wH cA h σ ++ (wS h ++ (wX ax (h 46) sv tr sc ++ F)))))) (some (.int r0)) (wK cA h σ ++ (wLg cA h σ 600 ++ (wC cA h σ ++ (wH cA h σ ++ (wS h ++ (wX ax (h 46) sv tr sc ++ F)))))) := by
  refine ct_of (by decide +kernel) (Nat.le_of_ble_eq_true rfl) ?_
  intro p e s m below meth c E hw ls hl
  replace E : Ev p cX8_logTicket 2 (some .int) RX8 (Cond.code yX8_logTicket cX8_logTicket 2 (some .int) :: bw) D cA tS A s m _ meth c := E
  replace hl : lv_has ls 2 [(0, .ref ax), (1, .int x1)] := hl
  have hx := E.1.1
  have hb := E.1.2.1
  unfold f_X8_logTicket at hM
  refine lv_aload_n hx hb dX8_logTicket_0 rfl (lv_at hl 0 rfl) ?_
  refine lv_aload_n hx hb dX8_logTicket_1 rfl (lv_at hl 0 rfl) ?_
  refine q_get (C := RX8) (T := TX8) (N := 4) (ci := 8) E (fun w h => List.mem_cons_of_mem _ (inX8 w h)) hw 40 rfl rfl 0 (by decide) (List.mem_cons_of_mem _ tb_373) (v := .ref (h 46)) rfl dX8_logTicket_2 ?_
  refine q_get (C := RX6) (T := TX6) (N := 2) (ci := 6) E (fun w h => List.mem_cons_of_mem _ (inX6 w h)) hw 39 rfl rfl 0 (by decide) (List.mem_cons_of_mem _ tb_321) (v := .ref (h 42)) rfl dX8_logTicket_5 ?_
  refine q_get (C := RX1) (T := TX1) (N := 6) (ci := 1) E (fun w h => List.mem_cons_of_mem _ (inX1 w h)) hw 12 rfl rfl 4 (by decide) (List.mem_cons_of_mem _ tb_275) (v := .ref (h 41)) rfl dX8_logTicket_8 ?_
  refine q_get (C := RX4) (T := TX4) (N := 5) (ci := 4) E (fun w h => List.mem_cons_of_mem _ (inX4 w h)) hw 7 rfl rfl 2 (by decide) (List.mem_cons_of_mem _ tb_232) (v := .ref (h 10)) rfl dX8_logTicket_11 ?_
  refine lv_iload_n hx hb dX8_logTicket_14 rfl (lv_at hl 1 rfl) ?_
  obtain ⟨p1, h2, hM⟩ := b_some hM
  refine q_cv (As := [.ref (h 10), .int x1]) (rest := []) E hw hl (c_X8_ofEvent_ticket l D cA tS A h ax sv tr sc F x1 σ p1 h2) 2 (bwV bw_c tb_684 tb_686 tb_27 tb_47 tb_687) rfl (by decide +kernel) ⟨Nat.le_of_ble_eq_true rfl, Nat.le_of_ble_eq_true rfl⟩ 40 8 (T := TX8) (N := 4) rfl rfl rfl rfl (Nat.le_of_ble_eq_true rfl) ⟨Nat.zero_le _, Nat.zero_le _⟩ dX8_logTicket_15 (fun H locs hw => ?_)
  cases hM
  exact q_reti E hw dX8_logTicket_18
set_option maxRecDepth 100000 in
set_option maxHeartbeats 4000000 in
theorem c_X8_ofEvent_detail (l : Launch) (D : va_G) (cA : Nat → ClassId) (tS : Nat → Nat) (A : Nat → Prop) (h : Nat → Nat) (ax : Nat) (sv : Nat) (tr : Nat) (sc : Nat) (F : va_W) (x2 : Int32) (σ : Sg) (r0 : Int32) (hM : f_X8_ofEvent_detail x2 σ = some r0) : Ct l yX8_ofEvent (Cond.code yX8_ofEvent cX8_ofEvent 3 (some .int) :: bw) 1 22 D cA tS A [.ref ax, .ref (h 11), .int x2] (wK cA h σ ++ (wLg cA h σ 600 ++ (wC cA h σ ++ (wH cA h σ ++ (wS h ++ (wX ax (h 46) sv tr sc ++ F)))))) (some (.int r0)) (wK cA h σ ++ (wLg cA h σ 600 ++ (wC cA h σ ++ (wH cA h σ ++ (wS h ++ (wX ax (h 46) sv tr sc ++ F)))))) := by
  refine ct_of (by decide +kernel) (Nat.le_of_ble_eq_true rfl) ?_
  intro p e s m below meth c E hw ls hl
  replace E : Ev p cX8_ofEvent 3 (some .int) RX8 (Cond.code yX8_ofEvent cX8_ofEvent 3 (some .int) :: bw) D cA tS A s m _ meth c := E
  replace hl : lv_has ls 3 [(0, .ref ax), (1, .ref (h 11)), (2, .int x2)] := hl
  have hx := E.1.1
  have hb := E.1.2.1
  unfold f_X8_ofEvent_detail at hM
  refine lv_iload_n hx hb dX8_ofEvent_0 rfl (lv_at hl 2 rfl) ?_
  refine lv_iconst (v := 0) hx hb dX8_ofEvent_1 (by decide) ?_
  refine lv_aload_n hx hb dX8_ofEvent_2 rfl (lv_at hl 0 rfl) ?_
  refine q_get (C := RX8) (T := TX8) (N := 4) (ci := 8) E (fun w h => List.mem_cons_of_mem _ (inX8 w h)) hw 40 rfl rfl 0 (by decide) (List.mem_cons_of_mem _ tb_373) (v := .ref (h 46)) rfl dX8_ofEvent_3 ?_
  refine q_get (C := RX6) (T := TX6) (N := 2) (ci := 6) E (fun w h => List.mem_cons_of_mem _ (inX6 w h)) hw 39 rfl rfl 0 (by decide) (List.mem_cons_of_mem _ tb_321) (v := .ref (h 42)) rfl dX8_ofEvent_6 ?_
  refine q_get (C := RX1) (T := TX1) (N := 6) (ci := 1) E (fun w h => List.mem_cons_of_mem _ (inX1 w h)) hw 12 rfl rfl 4 (by decide) (List.mem_cons_of_mem _ tb_275) (v := .ref (h 41)) rfl dX8_ofEvent_9 ?_
  refine q_get (C := RX4) (T := TX4) (N := 5) (ci := 4) E (fun w h => List.mem_cons_of_mem _ (inX4 w h)) hw 7 rfl rfl 4 (by decide) (List.mem_cons_of_mem _ tb_236) (v := .int (σ 7 0)) rfl dX8_ofEvent_12 ?_
  refine lv_iconst (v := 1) hx hb dX8_ofEvent_15 (by decide) ?_
  refine lv_isub hx hb dX8_ofEvent_16 ?_
  obtain ⟨p1, h2, hM⟩ := b_some hM
  refine q_cs (As := [.int x2, .int 0, .int ((σ 7 0) - 1)]) (rest := []) E hw hl (c_X8_within l D cA tS A (wK cA h σ ++ (wLg cA h σ 600 ++ (wC cA h σ ++ (wH cA h σ ++ (wS h ++ (wX ax (h 46) sv tr sc ++ F)))))) x2 0 ((σ 7 0) - 1) p1 h2) 3 (bwS bw_c tb_450 tb_451 tb_47 tb_452) rfl (by decide +kernel) ⟨Nat.le_of_ble_eq_true rfl, Nat.le_of_ble_eq_true rfl⟩ rfl rfl (Nat.le_of_ble_eq_true rfl) ⟨Nat.zero_le _, Nat.zero_le _⟩ dX8_ofEvent_17 (fun H locs hw => ?_)
  refine lv_if_eq (tgt := 29) hx hb dX8_ofEvent_20 (by decide) (fun c3 => ?_) (fun c3 => ?_)
  · replace hM := i_pos hM c3
    refine lv_bipush (v := (-4)) hx hb dX8_ofEvent_29 (by decide) ?_
    cases hM
    exact q_reti E hw dX8_ofEvent_31
  · replace hM := i_neg hM c3
    refine lv_aload_n hx hb dX8_ofEvent_23 rfl (lv_at hl 1 rfl) ?_
    refine lv_iload_n hx hb dX8_ofEvent_24 rfl (lv_at hl 2 rfl) ?_
    obtain ⟨g4, hM⟩ := g_some hM
    refine q_ald E hw 11 (n := 600) rfl g4 (x := (σ 11 (ix x2))) rfl dX8_ofEvent_25 ?_
    refine lv_goto (tgt := 31) hx hb dX8_ofEvent_26 (by decide) ?_
    cases hM
    exact q_reti E hw dX8_ofEvent_31
set_option maxRecDepth 100000 in
set_option maxHeartbeats 4000000 in
theorem c_X8_logDetail (l : Launch) (D : va_G) (cA : Nat → ClassId) (tS : Nat → Nat) (A : Nat → Prop) (h : Nat → Nat) (ax : Nat) (sv : Nat) (tr : Nat) (sc : Nat) (F : va_W) (x1 : Int32) (σ : Sg) (r0 : Int32) (hM : f_X8_logDetail x1 σ = some r0) : Ct l yX8_logDetail (Cond.code yX8_logDetail cX8_logDetail 2 (some .int) :: bw) 2 44 D cA tS A [.ref ax, .int x1] (wK cA h σ ++ (wLg cA h σ 600 ++ (wC cA h σ ++ (wH cA h σ ++ (wS h ++ (wX ax (h 46) sv tr sc ++ F)))))) (some (.int r0)) (wK cA h σ ++ (wLg cA h σ 600 ++ (wC cA h σ ++ (wH cA h σ ++ (wS h ++ (wX ax (h 46) sv tr sc ++ F)))))) := by
  refine ct_of (by decide +kernel) (Nat.le_of_ble_eq_true rfl) ?_
  intro p e s m below meth c E hw ls hl
  replace E : Ev p cX8_logDetail 2 (some .int) RX8 (Cond.code yX8_logDetail cX8_logDetail 2 (some .int) :: bw) D cA tS A s m _ meth c := E
  replace hl : lv_has ls 2 [(0, .ref ax), (1, .int x1)] := hl
  have hx := E.1.1
  have hb := E.1.2.1
  unfold f_X8_logDetail at hM
  refine lv_aload_n hx hb dX8_logDetail_0 rfl (lv_at hl 0 rfl) ?_
  refine lv_aload_n hx hb dX8_logDetail_1 rfl (lv_at hl 0 rfl) ?_
  refine q_get (C := RX8) (T := TX8) (N := 4) (ci := 8) E (fun w h => List.mem_cons_of_mem _ (inX8 w h)) hw 40 rfl rfl 0 (by decide) (List.mem_cons_of_mem _ tb_373) (v := .ref (h 46)) rfl dX8_logDetail_2 ?_
  refine q_get (C := RX6) (T := TX6) (N := 2) (ci := 6) E (fun w h => List.mem_cons_of_mem _ (inX6 w h)) hw 39 rfl rfl 0 (by decide) (List.mem_cons_of_mem _ tb_321) (v := .ref (h 42)) rfl dX8_logDetail_5 ?_
  refine q_get (C := RX1) (T := TX1) (N := 6) (ci := 1) E (fun w h => List.mem_cons_of_mem _ (inX1 w h)) hw 12 rfl rfl 4 (by decide) (List.mem_cons_of_mem _ tb_275) (v := .ref (h 41)) rfl dX8_logDetail_8 ?_
  refine q_get (C := RX4) (T := TX4) (N := 5) (ci := 4) E (fun w h => List.mem_cons_of_mem _ (inX4 w h)) hw 7 rfl rfl 3 (by decide) (List.mem_cons_of_mem _ tb_234) (v := .ref (h 11)) rfl dX8_logDetail_11 ?_
  refine lv_iload_n hx hb dX8_logDetail_14 rfl (lv_at hl 1 rfl) ?_
  obtain ⟨p1, h2, hM⟩ := b_some hM
  refine q_cv (As := [.ref (h 11), .int x1]) (rest := []) E hw hl (c_X8_ofEvent_detail l D cA tS A h ax sv tr sc F x1 σ p1 h2) 2 (bwV bw_c tb_684 tb_686 tb_27 tb_47 tb_687) rfl (by decide +kernel) ⟨Nat.le_of_ble_eq_true rfl, Nat.le_of_ble_eq_true rfl⟩ 40 8 (T := TX8) (N := 4) rfl rfl rfl rfl (Nat.le_of_ble_eq_true rfl) ⟨Nat.zero_le _, Nat.zero_le _⟩ dX8_logDetail_15 (fun H locs hw => ?_)
  cases hM
  exact q_reti E hw dX8_logDetail_18
