set_option maxRecDepth 100000 in
set_option maxHeartbeats 4000000 in
theorem c_X8_resolvePercentile (l : Launch) (D : va_G) (cA : Nat → ClassId) (tS : Nat → Nat) (A : Nat → Prop) (h : Nat → Nat) (ax : Nat) (sv : Nat) (tr : Nat) (sc : Nat) (F : va_W) (N : Nat) (x1 : Int32) (σ : Sg) (r0 : Int32) (hM : f_X8_resolvePercentile N x1 σ = some r0) : Ct l yX8_resolvePercentile (Cond.code yX8_resolvePercentile cX8_resolvePercentile 3 (some .int) :: bw) 2 45 D cA tS A [.ref ax, .int x1] (wK cA h σ ++ (wLg cA h σ 600 ++ (wC cA h σ ++ (wH cA h σ ++ (wS h ++ (wX ax (h 46) sv tr sc ++ F)))))) (some (.int r0)) (wK cA h σ ++ (wLg cA h σ 600 ++ (wC cA h σ ++ (wH cA h σ ++ (wS h ++ (wX ax (h 46) sv tr sc ++ F)))))) := by
  refine ct_of (by decide +kernel) (Nat.le_of_ble_eq_true rfl) ?_
  intro p e s m below meth c E hw ls hl
  replace E : Ev p cX8_resolvePercentile 3 (some .int) RX8 (Cond.code yX8_resolvePercentile cX8_resolvePercentile 3 (some .int) :: bw) D cA tS A s m _ meth c := E
  replace hl : lv_has ls 3 [(0, .ref ax), (1, .int x1)] := hl
  have hx := E.1.1
  have hb := E.1.2.1
  unfold f_X8_resolvePercentile at hM
  refine lv_iload_n hx hb dX8_resolvePercentile_0 rfl (lv_at hl 1 rfl) ?_
  refine lv_iconst (v := 1) hx hb dX8_resolvePercentile_1 (by decide) ?_
  refine lv_bipush (v := 100) hx hb dX8_resolvePercentile_2 (by decide) ?_
  obtain ⟨p1, h2, hM⟩ := b_some hM
  refine q_cs (As := [.int x1, .int 1, .int 100]) (rest := []) E hw hl (c_X8_within l D cA tS A (wK cA h σ ++ (wLg cA h σ 600 ++ (wC cA h σ ++ (wH cA h σ ++ (wS h ++ (wX ax (h 46) sv tr sc ++ F)))))) x1 1 100 p1 h2) 3 (bwS bw_c tb_592 tb_472 tb_99 tb_473) rfl (by decide +kernel) ⟨Nat.le_of_ble_eq_true rfl, Nat.le_of_ble_eq_true rfl⟩ rfl rfl (Nat.le_of_ble_eq_true rfl) ⟨Nat.zero_le _, Nat.zero_le _⟩ dX8_resolvePercentile_4 (fun H locs hw => ?_)
  refine lv_if_ne (tgt := 13) hx hb dX8_resolvePercentile_7 (by decide) (fun c3 => ?_) (fun c3 => ?_)
  · replace hM := i_neg hM c3
    refine lv_aload_n hx hb dX8_resolvePercentile_13 rfl (lv_at hl 0 rfl) ?_
    refine q_get (C := RX8) (T := TX8) (N := 4) (ci := 8) E (fun w h => List.mem_cons_of_mem _ (inX8 w h)) hw 40 rfl rfl 0 (by decide) (List.mem_cons_of_mem _ tb_442) (v := .ref (h 46)) rfl dX8_resolvePercentile_14 ?_
    refine q_get (C := RX6) (T := TX6) (N := 2) (ci := 6) E (fun w h => List.mem_cons_of_mem _ (inX6 w h)) hw 39 rfl rfl 0 (by decide) (List.mem_cons_of_mem _ tb_375) (v := .ref (h 42)) rfl dX8_resolvePercentile_17 ?_
    refine q_get (C := RX1) (T := TX1) (N := 6) (ci := 1) E (fun w h => List.mem_cons_of_mem _ (inX1 w h)) hw 12 rfl rfl 3 (by decide) (List.mem_cons_of_mem _ tb_321) (v := .ref (h 44)) rfl dX8_resolvePercentile_20 ?_
    refine lv_astore_n (lv' := [(2, .ref (h 44)), (0, .ref ax), (1, .int x1)]) hx hb dX8_resolvePercentile_23 rfl hl (by decide) rfl (fun ls hl => ?_)
    refine lv_aload_n hx hb dX8_resolvePercentile_24 rfl (lv_at hl 0 rfl) ?_
    refine lv_iload_n hx hb dX8_resolvePercentile_25 rfl (lv_at hl 2 rfl) ?_
    refine lv_aload_n hx hb dX8_resolvePercentile_26 rfl (lv_at hl 0 rfl) ?_
    obtain ⟨p4, h5, hM⟩ := b_some hM
    refine q_cv (As := []) (rest := [.int x1, .ref (h 44)]) E hw hl (c_X7_countSolved l D cA tS A h 600 (wH cA h σ ++ (wS h ++ (wX ax (h 46) sv tr sc ++ F))) N σ p4 h5) 0 (bwV bw_c tb_678 tb_679 tb_680 tb_104 tb_681) rfl (by decide +kernel) ⟨Nat.le_of_ble_eq_true rfl, Nat.le_of_ble_eq_true rfl⟩ 16 7 (T := TX7) (N := 15) rfl rfl rfl rfl (Nat.le_of_ble_eq_true rfl) ⟨Nat.zero_le _, Nat.zero_le _⟩ dX8_resolvePercentile_27 (fun H locs hw => ?_)
    refine lv_imul hx hb dX8_resolvePercentile_30 ?_
    refine lv_bipush (v := 99) hx hb dX8_resolvePercentile_31 (by decide) ?_
    refine lv_iadd hx hb dX8_resolvePercentile_33 ?_
    refine lv_bipush (v := 100) hx hb dX8_resolvePercentile_34 (by decide) ?_
    refine lv_idiv hx hb dX8_resolvePercentile_36 (by decide) ?_
    obtain ⟨p6, h7, hM⟩ := b_some hM
    refine q_cv (As := [.int (((x1 * p4) + 99) / 100)]) (rest := []) E hw hl (c_X7_solvedClock l D cA tS A h 600 (wH cA h σ ++ (wS h ++ (wX ax (h 46) sv tr sc ++ F))) N (((x1 * p4) + 99) / 100) σ p6 h7) 1 (bwV bw_c tb_882 tb_883 tb_884 tb_104 tb_885) rfl (by decide +kernel) ⟨Nat.le_of_ble_eq_true rfl, Nat.le_of_ble_eq_true rfl⟩ 16 7 (T := TX7) (N := 15) rfl rfl rfl rfl (Nat.le_of_ble_eq_true rfl) ⟨Nat.zero_le _, Nat.zero_le _⟩ dX8_resolvePercentile_37 (fun H locs hw => ?_)
    cases hM
    exact q_reti E hw dX8_resolvePercentile_40
  · replace hM := i_pos hM c3
    refine lv_bipush (v := (-4)) hx hb dX8_resolvePercentile_10 (by decide) ?_
    cases hM
    exact q_reti E hw dX8_resolvePercentile_12
set_option maxRecDepth 100000 in
set_option maxHeartbeats 4000000 in
theorem c_X8_forecast (l : Launch) (D : va_G) (cA : Nat → ClassId) (tS : Nat → Nat) (A : Nat → Prop) (h : Nat → Nat) (t : Nat → Nat) (ax : Nat) (sv : Nat) (sc : Nat) (F : va_W) (N : Nat) (x1 : Int32) (σ : Sg) (τ : Sg) (r0 : Int32) (s0 : Sg) (hM : f_X8_forecast N x1 σ τ = some (r0, s0)) : Ct l yX8_forecast (Cond.code yX8_forecast cX8_forecast 2 (some .int) :: bw) 5 117 D cA tS A [.ref ax, .int x1] (wK cA h σ ++ (wLg cA h σ 600 ++ (wC cA h σ ++ (wH cA h σ ++ (wS h ++ (wX ax (h 46) sv (t 42) sc ++ (wK cA t τ ++ (wLg cA t τ 0 ++ (wC cA t τ ++ F))))))))) (some (.int r0)) (wK cA h σ ++ (wLg cA h σ 600 ++ (wC cA h σ ++ (wH cA h σ ++ (wS h ++ (wX ax (h 46) sv (t 42) sc ++ (wK cA t s0 ++ (wLg cA t s0 0 ++ (wC cA t s0 ++ F))))))))) := by
  refine ct_of (by decide +kernel) (Nat.le_of_ble_eq_true rfl) ?_
  intro p e s m below meth c E hw ls hl
  replace E : Ev p cX8_forecast 2 (some .int) RX8 (Cond.code yX8_forecast cX8_forecast 2 (some .int) :: bw) D cA tS A s m _ meth c := E
  replace hl : lv_has ls 2 [(0, .ref ax), (1, .int x1)] := hl
  have hx := E.1.1
  have hb := E.1.2.1
  unfold f_X8_forecast at hM
  refine lv_aload_n hx hb dX8_forecast_0 rfl (lv_at hl 0 rfl) ?_
  refine q_get (C := RX8) (T := TX8) (N := 4) (ci := 8) E (fun w h => List.mem_cons_of_mem _ (inX8 w h)) hw 40 rfl rfl 0 (by decide) (List.mem_cons_of_mem _ tb_442) (v := .ref (h 46)) rfl dX8_forecast_1 ?_
  refine q_get (C := RX6) (T := TX6) (N := 2) (ci := 6) E (fun w h => List.mem_cons_of_mem _ (inX6 w h)) hw 39 rfl rfl 0 (by decide) (List.mem_cons_of_mem _ tb_375) (v := .ref (h 42)) rfl dX8_forecast_4 ?_
  refine q_get (C := RX1) (T := TX1) (N := 6) (ci := 1) E (fun w h => List.mem_cons_of_mem _ (inX1 w h)) hw 12 rfl rfl 3 (by decide) (List.mem_cons_of_mem _ tb_321) (v := .ref (h 44)) rfl dX8_forecast_7 ?_
  refine lv_iload_n hx hb dX8_forecast_10 rfl (lv_at hl 1 rfl) ?_
  obtain ⟨p1, h2, hM⟩ := b_some hM
  refine q_cv (As := [.int x1]) (rest := []) E hw hl (c_X7_exists l D cA tS A h 600 (wH cA h σ ++ (wS h ++ (wX ax (h 46) sv (t 42) sc ++ (wK cA t τ ++ (wLg cA t τ 0 ++ (wC cA t τ ++ F)))))) x1 σ p1 h2) 1 (bwV bw_c tb_779 tb_487 tb_488 tb_104 tb_489) rfl (by decide +kernel) ⟨Nat.le_of_ble_eq_true rfl, Nat.le_of_ble_eq_true rfl⟩ 16 7 (T := TX7) (N := 15) rfl rfl rfl rfl (Nat.le_of_ble_eq_true rfl) ⟨Nat.zero_le _, Nat.zero_le _⟩ dX8_forecast_11 (fun H locs hw => ?_)
  refine lv_if_ne (tgt := 20) hx hb dX8_forecast_14 (by decide) (fun c3 => ?_) (fun c3 => ?_)
  · replace hM := i_neg hM c3
    refine lv_aload_n hx hb dX8_forecast_20 rfl (lv_at hl 0 rfl) ?_
    refine q_get (C := RX8) (T := TX8) (N := 4) (ci := 8) E (fun w h => List.mem_cons_of_mem _ (inX8 w h)) hw 40 rfl rfl 2 (by decide) (List.mem_cons_of_mem _ tb_444) (v := .ref (t 42)) rfl dX8_forecast_21 ?_
    refine lv_aload_n hx hb dX8_forecast_24 rfl (lv_at hl 0 rfl) ?_
    refine q_get (C := RX8) (T := TX8) (N := 4) (ci := 8) E (fun w h => List.mem_cons_of_mem _ (inX8 w h)) hw 40 rfl rfl 0 (by decide) (List.mem_cons_of_mem _ tb_442) (v := .ref (h 46)) rfl dX8_forecast_25 ?_
    refine q_get (C := RX6) (T := TX6) (N := 2) (ci := 6) E (fun w h => List.mem_cons_of_mem _ (inX6 w h)) hw 39 rfl rfl 0 (by decide) (List.mem_cons_of_mem _ tb_375) (v := .ref (h 42)) rfl dX8_forecast_28 ?_
    have hw : Wd D A (wK cA t τ ++ (wK cA h σ ++ (wLg cA h σ 600 ++ (wC cA h σ ++ (wH cA h σ ++ (wS h ++ (wX ax (h 46) sv (t 42) sc ++ (wLg cA t τ 0 ++ (wC cA t τ ++ F))))))))) s.heap _ _ := hw.perm (((List.Perm.append_left _ (((List.Perm.append_left _ (((List.Perm.append_left _ (((List.Perm.append_left _ (((List.Perm.append_left _ (List.perm_append_comm_assoc _ _ _))).trans (List.perm_append_comm_assoc _ _ _)))).trans (List.perm_append_comm_assoc _ _ _)))).trans (List.perm_append_comm_assoc _ _ _)))).trans (List.perm_append_comm_assoc _ _ _)))).trans (List.perm_append_comm_assoc _ _ _))
    have hw : Wd D A (wK cA t τ ++ (wLg cA t τ 0 ++ (wK cA h σ ++ (wLg cA h σ 600 ++ (wC cA h σ ++ (wH cA h σ ++ (wS h ++ (wX ax (h 46) sv (t 42) sc ++ (wC cA t τ ++ F))))))))) s.heap _ _ := hw.perm (List.Perm.append_left _ (((List.Perm.append_left _ (((List.Perm.append_left _ (((List.Perm.append_left _ (((List.Perm.append_left _ (((List.Perm.append_left _ (List.perm_append_comm_assoc _ _ _))).trans (List.perm_append_comm_assoc _ _ _)))).trans (List.perm_append_comm_assoc _ _ _)))).trans (List.perm_append_comm_assoc _ _ _)))).trans (List.perm_append_comm_assoc _ _ _)))).trans (List.perm_append_comm_assoc _ _ _)))
    have hw : Wd D A (wK cA t τ ++ (wLg cA t τ 0 ++ (wC cA t τ ++ (wK cA h σ ++ (wLg cA h σ 600 ++ (wC cA h σ ++ (wH cA h σ ++ (wS h ++ (wX ax (h 46) sv (t 42) sc ++ F))))))))) s.heap _ _ := hw.perm (List.Perm.append_left _ (List.Perm.append_left _ (((List.Perm.append_left _ (((List.Perm.append_left _ (((List.Perm.append_left _ (((List.Perm.append_left _ (((List.Perm.append_left _ (List.perm_append_comm_assoc _ _ _))).trans (List.perm_append_comm_assoc _ _ _)))).trans (List.perm_append_comm_assoc _ _ _)))).trans (List.perm_append_comm_assoc _ _ _)))).trans (List.perm_append_comm_assoc _ _ _)))).trans (List.perm_append_comm_assoc _ _ _))))
    obtain ⟨p4, h5, hM⟩ := b_some hM
    refine q_cvv (As := [.ref (h 42)]) (rest := []) E hw hl (c_X1_copyFrom l D cA tS A t h 0 600 (wH cA h σ ++ (wS h ++ (wX ax (h 46) sv (t 42) sc ++ F))) N τ σ p4 h5) 1 (bwV bw_c tb_894 tb_895 tb_896 tb_101 tb_897) rfl (by decide +kernel) ⟨Nat.le_of_ble_eq_true rfl, Nat.le_of_ble_eq_true rfl⟩ 12 1 (T := TX1) (N := 6) rfl rfl rfl rfl (Nat.le_of_ble_eq_true rfl) ⟨Nat.zero_le _, Nat.zero_le _⟩ dX8_forecast_31 (fun H locs hw => ?_)
    refine lv_aload_n hx hb dX8_forecast_34 rfl (lv_at hl 0 rfl) ?_
    refine q_get (C := RX8) (T := TX8) (N := 4) (ci := 8) E (fun w h => List.mem_cons_of_mem _ (inX8 w h)) hw 72 rfl rfl 2 (by decide) (List.mem_cons_of_mem _ tb_444) (v := .ref (t 42)) rfl dX8_forecast_35 ?_
    refine lv_sipush (v := 10080) hx hb dX8_forecast_38 (by decide) ?_
    obtain ⟨p6, h7, hM⟩ := b_some hM
    refine q_cvv (As := [.int 10080]) (rest := []) E hw hl (c_X1_passUntil l D cA tS A t 0 (wK cA h σ ++ (wLg cA h σ 600 ++ (wC cA h σ ++ (wH cA h σ ++ (wS h ++ (wX ax (h 46) sv (t 42) sc ++ F)))))) N 10080 p4 p6 h7) 1 (bwV bw_c tb_682 tb_683 tb_684 tb_101 tb_685) rfl (by decide +kernel) ⟨Nat.le_of_ble_eq_true rfl, Nat.le_of_ble_eq_true rfl⟩ 12 1 (T := TX1) (N := 6) rfl rfl rfl rfl (Nat.le_of_ble_eq_true rfl) ⟨Nat.zero_le _, Nat.zero_le _⟩ dX8_forecast_41 (fun H locs hw => ?_)
    refine lv_aload_n hx hb dX8_forecast_44 rfl (lv_at hl 0 rfl) ?_
    refine q_get (C := RX8) (T := TX8) (N := 4) (ci := 8) E (fun w h => List.mem_cons_of_mem _ (inX8 w h)) hw 72 rfl rfl 2 (by decide) (List.mem_cons_of_mem _ tb_444) (v := .ref (t 42)) rfl dX8_forecast_45 ?_
    refine q_get (C := RX1) (T := TX1) (N := 6) (ci := 1) E (fun w h => List.mem_cons_of_mem _ (inX1 w h)) hw 12 rfl rfl 3 (by decide) (List.mem_cons_of_mem _ tb_321) (v := .ref (t 44)) rfl dX8_forecast_48 ?_
    refine q_get (C := RX7) (T := TX7) (N := 15) (ci := 7) E (fun w h => List.mem_cons_of_mem _ (inX7 w h)) hw 16 rfl rfl 13 (by decide) (List.mem_cons_of_mem _ tb_231) (v := .ref (t 29)) rfl dX8_forecast_51 ?_
    refine lv_iload_n hx hb dX8_forecast_54 rfl (lv_at hl 1 rfl) ?_
    obtain ⟨g8, hM⟩ := g_some hM
    refine q_ald E hw 30 (n := 60) rfl g8 (x := (p6 29 (ix x1))) rfl dX8_forecast_55 ?_
    have hw : Wd D A (wK cA h σ ++ (wK cA t p6 ++ (wLg cA t p6 0 ++ (wC cA t p6 ++ (wLg cA h σ 600 ++ (wC cA h σ ++ (wH cA h σ ++ (wS h ++ (wX ax (h 46) sv (t 42) sc ++ F))))))))) s.heap _ _ := hw.perm (((List.Perm.append_left _ (((List.Perm.append_left _ (List.perm_append_comm_assoc _ _ _))).trans (List.perm_append_comm_assoc _ _ _)))).trans (List.perm_append_comm_assoc _ _ _))
    have hw : Wd D A (wK cA h σ ++ (wLg cA h σ 600 ++ (wK cA t p6 ++ (wLg cA t p6 0 ++ (wC cA t p6 ++ (wC cA h σ ++ (wH cA h σ ++ (wS h ++ (wX ax (h 46) sv (t 42) sc ++ F))))))))) s.heap _ _ := hw.perm (List.Perm.append_left _ (((List.Perm.append_left _ (((List.Perm.append_left _ (List.perm_append_comm_assoc _ _ _))).trans (List.perm_append_comm_assoc _ _ _)))).trans (List.perm_append_comm_assoc _ _ _)))
    have hw : Wd D A (wK cA h σ ++ (wLg cA h σ 600 ++ (wC cA h σ ++ (wK cA t p6 ++ (wLg cA t p6 0 ++ (wC cA t p6 ++ (wH cA h σ ++ (wS h ++ (wX ax (h 46) sv (t 42) sc ++ F))))))))) s.heap _ _ := hw.perm (List.Perm.append_left _ (List.Perm.append_left _ (((List.Perm.append_left _ (((List.Perm.append_left _ (List.perm_append_comm_assoc _ _ _))).trans (List.perm_append_comm_assoc _ _ _)))).trans (List.perm_append_comm_assoc _ _ _))))
    have hw : Wd D A (wK cA h σ ++ (wLg cA h σ 600 ++ (wC cA h σ ++ (wH cA h σ ++ (wK cA t p6 ++ (wLg cA t p6 0 ++ (wC cA t p6 ++ (wS h ++ (wX ax (h 46) sv (t 42) sc ++ F))))))))) s.heap _ _ := hw.perm (List.Perm.append_left _ (List.Perm.append_left _ (List.Perm.append_left _ (((List.Perm.append_left _ (((List.Perm.append_left _ (List.perm_append_comm_assoc _ _ _))).trans (List.perm_append_comm_assoc _ _ _)))).trans (List.perm_append_comm_assoc _ _ _)))))
    have hw : Wd D A (wK cA h σ ++ (wLg cA h σ 600 ++ (wC cA h σ ++ (wH cA h σ ++ (wS h ++ (wK cA t p6 ++ (wLg cA t p6 0 ++ (wC cA t p6 ++ (wX ax (h 46) sv (t 42) sc ++ F))))))))) s.heap _ _ := hw.perm (List.Perm.append_left _ (List.Perm.append_left _ (List.Perm.append_left _ (List.Perm.append_left _ (((List.Perm.append_left _ (((List.Perm.append_left _ (List.perm_append_comm_assoc _ _ _))).trans (List.perm_append_comm_assoc _ _ _)))).trans (List.perm_append_comm_assoc _ _ _))))))
    have hw : Wd D A (wK cA h σ ++ (wLg cA h σ 600 ++ (wC cA h σ ++ (wH cA h σ ++ (wS h ++ (wX ax (h 46) sv (t 42) sc ++ (wK cA t p6 ++ (wLg cA t p6 0 ++ (wC cA t p6 ++ F))))))))) s.heap _ _ := hw.perm (List.Perm.append_left _ (List.Perm.append_left _ (List.Perm.append_left _ (List.Perm.append_left _ (List.Perm.append_left _ (((List.Perm.append_left _ (((List.Perm.append_left _ (List.perm_append_comm_assoc _ _ _))).trans (List.perm_append_comm_assoc _ _ _)))).trans (List.perm_append_comm_assoc _ _ _)))))))
    cases hM
    exact q_reti E hw dX8_forecast_56
  · replace hM := i_pos hM c3
    refine lv_bipush (v := (-2)) hx hb dX8_forecast_17 (by decide) ?_
    cases hM
    exact q_reti E hw dX8_forecast_19
set_option maxRecDepth 100000 in
set_option maxHeartbeats 4000000 in
theorem c_X8_breachesAhead (l : Launch) (D : va_G) (cA : Nat → ClassId) (tS : Nat → Nat) (A : Nat → Prop) (h : Nat → Nat) (t : Nat → Nat) (ax : Nat) (sv : Nat) (sc : Nat) (F : va_W) (N : Nat) (σ : Sg) (τ : Sg) (r0 : Int32) (s0 : Sg) (hM : f_X8_breachesAhead N σ τ = some (r0, s0)) : Ct l yX8_breachesAhead (Cond.code yX8_breachesAhead cX8_breachesAhead 1 (some .int) :: bw) 5 117 D cA tS A [.ref ax] (wK cA h σ ++ (wLg cA h σ 600 ++ (wC cA h σ ++ (wH cA h σ ++ (wS h ++ (wX ax (h 46) sv (t 42) sc ++ (wK cA t τ ++ (wLg cA t τ 0 ++ (wC cA t τ ++ F))))))))) (some (.int r0)) (wK cA h σ ++ (wLg cA h σ 600 ++ (wC cA h σ ++ (wH cA h σ ++ (wS h ++ (wX ax (h 46) sv (t 42) sc ++ (wK cA t s0 ++ (wLg cA t s0 0 ++ (wC cA t s0 ++ F))))))))) := by
  refine ct_of (by decide +kernel) (Nat.le_of_ble_eq_true rfl) ?_
  intro p e s m below meth c E hw ls hl
  replace E : Ev p cX8_breachesAhead 1 (some .int) RX8 (Cond.code yX8_breachesAhead cX8_breachesAhead 1 (some .int) :: bw) D cA tS A s m _ meth c := E
  replace hl : lv_has ls 1 [(0, .ref ax)] := hl
  have hx := E.1.1
  have hb := E.1.2.1
  unfold f_X8_breachesAhead at hM
  refine lv_aload_n hx hb dX8_breachesAhead_0 rfl (lv_at hl 0 rfl) ?_
  refine q_get (C := RX8) (T := TX8) (N := 4) (ci := 8) E (fun w h => List.mem_cons_of_mem _ (inX8 w h)) hw 40 rfl rfl 2 (by decide) (List.mem_cons_of_mem _ tb_444) (v := .ref (t 42)) rfl dX8_breachesAhead_1 ?_
  refine lv_aload_n hx hb dX8_breachesAhead_4 rfl (lv_at hl 0 rfl) ?_
  refine q_get (C := RX8) (T := TX8) (N := 4) (ci := 8) E (fun w h => List.mem_cons_of_mem _ (inX8 w h)) hw 40 rfl rfl 0 (by decide) (List.mem_cons_of_mem _ tb_442) (v := .ref (h 46)) rfl dX8_breachesAhead_5 ?_
  refine q_get (C := RX6) (T := TX6) (N := 2) (ci := 6) E (fun w h => List.mem_cons_of_mem _ (inX6 w h)) hw 39 rfl rfl 0 (by decide) (List.mem_cons_of_mem _ tb_375) (v := .ref (h 42)) rfl dX8_breachesAhead_8 ?_
  have hw : Wd D A (wK cA t τ ++ (wK cA h σ ++ (wLg cA h σ 600 ++ (wC cA h σ ++ (wH cA h σ ++ (wS h ++ (wX ax (h 46) sv (t 42) sc ++ (wLg cA t τ 0 ++ (wC cA t τ ++ F))))))))) s.heap _ _ := hw.perm (((List.Perm.append_left _ (((List.Perm.append_left _ (((List.Perm.append_left _ (((List.Perm.append_left _ (((List.Perm.append_left _ (List.perm_append_comm_assoc _ _ _))).trans (List.perm_append_comm_assoc _ _ _)))).trans (List.perm_append_comm_assoc _ _ _)))).trans (List.perm_append_comm_assoc _ _ _)))).trans (List.perm_append_comm_assoc _ _ _)))).trans (List.perm_append_comm_assoc _ _ _))
  have hw : Wd D A (wK cA t τ ++ (wLg cA t τ 0 ++ (wK cA h σ ++ (wLg cA h σ 600 ++ (wC cA h σ ++ (wH cA h σ ++ (wS h ++ (wX ax (h 46) sv (t 42) sc ++ (wC cA t τ ++ F))))))))) s.heap _ _ := hw.perm (List.Perm.append_left _ (((List.Perm.append_left _ (((List.Perm.append_left _ (((List.Perm.append_left _ (((List.Perm.append_left _ (((List.Perm.append_left _ (List.perm_append_comm_assoc _ _ _))).trans (List.perm_append_comm_assoc _ _ _)))).trans (List.perm_append_comm_assoc _ _ _)))).trans (List.perm_append_comm_assoc _ _ _)))).trans (List.perm_append_comm_assoc _ _ _)))).trans (List.perm_append_comm_assoc _ _ _)))
  have hw : Wd D A (wK cA t τ ++ (wLg cA t τ 0 ++ (wC cA t τ ++ (wK cA h σ ++ (wLg cA h σ 600 ++ (wC cA h σ ++ (wH cA h σ ++ (wS h ++ (wX ax (h 46) sv (t 42) sc ++ F))))))))) s.heap _ _ := hw.perm (List.Perm.append_left _ (List.Perm.append_left _ (((List.Perm.append_left _ (((List.Perm.append_left _ (((List.Perm.append_left _ (((List.Perm.append_left _ (((List.Perm.append_left _ (List.perm_append_comm_assoc _ _ _))).trans (List.perm_append_comm_assoc _ _ _)))).trans (List.perm_append_comm_assoc _ _ _)))).trans (List.perm_append_comm_assoc _ _ _)))).trans (List.perm_append_comm_assoc _ _ _)))).trans (List.perm_append_comm_assoc _ _ _))))
  obtain ⟨p1, h2, hM⟩ := b_some hM
  refine q_cvv (As := [.ref (h 42)]) (rest := []) E hw hl (c_X1_copyFrom l D cA tS A t h 0 600 (wH cA h σ ++ (wS h ++ (wX ax (h 46) sv (t 42) sc ++ F))) N τ σ p1 h2) 1 (bwV bw_c tb_894 tb_895 tb_896 tb_101 tb_897) rfl (by decide +kernel) ⟨Nat.le_of_ble_eq_true rfl, Nat.le_of_ble_eq_true rfl⟩ 12 1 (T := TX1) (N := 6) rfl rfl rfl rfl (Nat.le_of_ble_eq_true rfl) ⟨Nat.zero_le _, Nat.zero_le _⟩ dX8_breachesAhead_11 (fun H locs hw => ?_)
  refine lv_aload_n hx hb dX8_breachesAhead_14 rfl (lv_at hl 0 rfl) ?_
  refine q_get (C := RX8) (T := TX8) (N := 4) (ci := 8) E (fun w h => List.mem_cons_of_mem _ (inX8 w h)) hw 72 rfl rfl 2 (by decide) (List.mem_cons_of_mem _ tb_444) (v := .ref (t 42)) rfl dX8_breachesAhead_15 ?_
  refine lv_sipush (v := 10080) hx hb dX8_breachesAhead_18 (by decide) ?_
  obtain ⟨p3, h4, hM⟩ := b_some hM
  refine q_cvv (As := [.int 10080]) (rest := []) E hw hl (c_X1_passUntil l D cA tS A t 0 (wK cA h σ ++ (wLg cA h σ 600 ++ (wC cA h σ ++ (wH cA h σ ++ (wS h ++ (wX ax (h 46) sv (t 42) sc ++ F)))))) N 10080 p1 p3 h4) 1 (bwV bw_c tb_682 tb_683 tb_684 tb_101 tb_685) rfl (by decide +kernel) ⟨Nat.le_of_ble_eq_true rfl, Nat.le_of_ble_eq_true rfl⟩ 12 1 (T := TX1) (N := 6) rfl rfl rfl rfl (Nat.le_of_ble_eq_true rfl) ⟨Nat.zero_le _, Nat.zero_le _⟩ dX8_breachesAhead_21 (fun H locs hw => ?_)
  refine lv_aload_n hx hb dX8_breachesAhead_24 rfl (lv_at hl 0 rfl) ?_
  refine q_get (C := RX8) (T := TX8) (N := 4) (ci := 8) E (fun w h => List.mem_cons_of_mem _ (inX8 w h)) hw 72 rfl rfl 2 (by decide) (List.mem_cons_of_mem _ tb_444) (v := .ref (t 42)) rfl dX8_breachesAhead_25 ?_
  obtain ⟨p5, h6, hM⟩ := b_some hM
  refine q_cv (As := []) (rest := []) E hw hl (c_X1_allBreaches l D cA tS A t 0 (wK cA h σ ++ (wLg cA h σ 600 ++ (wC cA h σ ++ (wH cA h σ ++ (wS h ++ (wX ax (h 46) sv (t 42) sc ++ F)))))) N p3 p5 h6) 0 (bwV bw_c tb_922 tb_923 tb_924 tb_101 tb_925) rfl (by decide +kernel) ⟨Nat.le_of_ble_eq_true rfl, Nat.le_of_ble_eq_true rfl⟩ 12 1 (T := TX1) (N := 6) rfl rfl rfl rfl (Nat.le_of_ble_eq_true rfl) ⟨Nat.zero_le _, Nat.zero_le _⟩ dX8_breachesAhead_28 (fun H locs hw => ?_)
  refine lv_aload_n hx hb dX8_breachesAhead_31 rfl (lv_at hl 0 rfl) ?_
  refine q_get (C := RX8) (T := TX8) (N := 4) (ci := 8) E (fun w h => List.mem_cons_of_mem _ (inX8 w h)) hw 72 rfl rfl 0 (by decide) (List.mem_cons_of_mem _ tb_442) (v := .ref (h 46)) rfl dX8_breachesAhead_32 ?_
  refine q_get (C := RX6) (T := TX6) (N := 2) (ci := 6) E (fun w h => List.mem_cons_of_mem _ (inX6 w h)) hw 71 rfl rfl 0 (by decide) (List.mem_cons_of_mem _ tb_375) (v := .ref (h 42)) rfl dX8_breachesAhead_35 ?_
  have hw : Wd D A (wK cA h σ ++ (wK cA t p3 ++ (wLg cA t p3 0 ++ (wC cA t p3 ++ (wLg cA h σ 600 ++ (wC cA h σ ++ (wH cA h σ ++ (wS h ++ (wX ax (h 46) sv (t 42) sc ++ F))))))))) s.heap _ _ := hw.perm (((List.Perm.append_left _ (((List.Perm.append_left _ (List.perm_append_comm_assoc _ _ _))).trans (List.perm_append_comm_assoc _ _ _)))).trans (List.perm_append_comm_assoc _ _ _))
  have hw : Wd D A (wK cA h σ ++ (wLg cA h σ 600 ++ (wK cA t p3 ++ (wLg cA t p3 0 ++ (wC cA t p3 ++ (wC cA h σ ++ (wH cA h σ ++ (wS h ++ (wX ax (h 46) sv (t 42) sc ++ F))))))))) s.heap _ _ := hw.perm (List.Perm.append_left _ (((List.Perm.append_left _ (((List.Perm.append_left _ (List.perm_append_comm_assoc _ _ _))).trans (List.perm_append_comm_assoc _ _ _)))).trans (List.perm_append_comm_assoc _ _ _)))
  have hw : Wd D A (wK cA h σ ++ (wLg cA h σ 600 ++ (wC cA h σ ++ (wK cA t p3 ++ (wLg cA t p3 0 ++ (wC cA t p3 ++ (wH cA h σ ++ (wS h ++ (wX ax (h 46) sv (t 42) sc ++ F))))))))) s.heap _ _ := hw.perm (List.Perm.append_left _ (List.Perm.append_left _ (((List.Perm.append_left _ (((List.Perm.append_left _ (List.perm_append_comm_assoc _ _ _))).trans (List.perm_append_comm_assoc _ _ _)))).trans (List.perm_append_comm_assoc _ _ _))))
  obtain ⟨p7, h8, hM⟩ := b_some hM
  refine q_cv (As := []) (rest := [.int p5]) E hw hl (c_X1_allBreaches l D cA tS A h 600 (wK cA t p3 ++ (wLg cA t p3 0 ++ (wC cA t p3 ++ (wH cA h σ ++ (wS h ++ (wX ax (h 46) sv (t 42) sc ++ F)))))) N σ p7 h8) 0 (bwV bw_c tb_922 tb_923 tb_924 tb_101 tb_925) rfl (by decide +kernel) ⟨Nat.le_of_ble_eq_true rfl, Nat.le_of_ble_eq_true rfl⟩ 12 1 (T := TX1) (N := 6) rfl rfl rfl rfl (Nat.le_of_ble_eq_true rfl) ⟨Nat.zero_le _, Nat.zero_le _⟩ dX8_breachesAhead_38 (fun H locs hw => ?_)
  refine lv_isub hx hb dX8_breachesAhead_41 ?_
  have hw : Wd D A (wK cA h σ ++ (wLg cA h σ 600 ++ (wC cA h σ ++ (wH cA h σ ++ (wK cA t p3 ++ (wLg cA t p3 0 ++ (wC cA t p3 ++ (wS h ++ (wX ax (h 46) sv (t 42) sc ++ F))))))))) s.heap _ _ := hw.perm (List.Perm.append_left _ (List.Perm.append_left _ (List.Perm.append_left _ (((List.Perm.append_left _ (((List.Perm.append_left _ (List.perm_append_comm_assoc _ _ _))).trans (List.perm_append_comm_assoc _ _ _)))).trans (List.perm_append_comm_assoc _ _ _)))))
  have hw : Wd D A (wK cA h σ ++ (wLg cA h σ 600 ++ (wC cA h σ ++ (wH cA h σ ++ (wS h ++ (wK cA t p3 ++ (wLg cA t p3 0 ++ (wC cA t p3 ++ (wX ax (h 46) sv (t 42) sc ++ F))))))))) s.heap _ _ := hw.perm (List.Perm.append_left _ (List.Perm.append_left _ (List.Perm.append_left _ (List.Perm.append_left _ (((List.Perm.append_left _ (((List.Perm.append_left _ (List.perm_append_comm_assoc _ _ _))).trans (List.perm_append_comm_assoc _ _ _)))).trans (List.perm_append_comm_assoc _ _ _))))))
  have hw : Wd D A (wK cA h σ ++ (wLg cA h σ 600 ++ (wC cA h σ ++ (wH cA h σ ++ (wS h ++ (wX ax (h 46) sv (t 42) sc ++ (wK cA t p3 ++ (wLg cA t p3 0 ++ (wC cA t p3 ++ F))))))))) s.heap _ _ := hw.perm (List.Perm.append_left _ (List.Perm.append_left _ (List.Perm.append_left _ (List.Perm.append_left _ (List.Perm.append_left _ (((List.Perm.append_left _ (((List.Perm.append_left _ (List.perm_append_comm_assoc _ _ _))).trans (List.perm_append_comm_assoc _ _ _)))).trans (List.perm_append_comm_assoc _ _ _)))))))
  cases hM
  exact q_reti E hw dX8_breachesAhead_42
set_option maxRecDepth 100000 in
set_option maxHeartbeats 4000000 in
theorem c_X8_repeatOnTrial (l : Launch) (D : va_G) (cA : Nat → ClassId) (tS : Nat → Nat) (A : Nat → Prop) (h : Nat → Nat) (t : Nat → Nat) (ax : Nat) (sv : Nat) (sc : Nat) (F : va_W) (N : Nat) (x1 : Int32) (σ : Sg) (τ : Sg) (s0 : Sg) (hM : f_X8_repeatOnTrial N x1 σ τ = some s0) : Ct l yX8_repeatOnTrial (Cond.code yX8_repeatOnTrial cX8_repeatOnTrial 8 none :: bw) 4 95 D cA tS A [.ref ax, .int x1] (wK cA h σ ++ (wLg cA h σ 600 ++ (wC cA h σ ++ (wH cA h σ ++ (wS h ++ (wX ax (h 46) sv (t 42) sc ++ (wK cA t τ ++ (wLg cA t τ 0 ++ (wC cA t τ ++ F))))))))) none (wK cA h σ ++ (wLg cA h σ 600 ++ (wC cA h σ ++ (wH cA h σ ++ (wS h ++ (wX ax (h 46) sv (t 42) sc ++ (wK cA t s0 ++ (wLg cA t s0 0 ++ (wC cA t s0 ++ F))))))))) := by
  refine ct_of (by decide +kernel) (Nat.le_of_ble_eq_true rfl) ?_
  intro p e s m below meth c E hw ls hl
  replace E : Ev p cX8_repeatOnTrial 8 none RX8 (Cond.code yX8_repeatOnTrial cX8_repeatOnTrial 8 none :: bw) D cA tS A s m _ meth c := E
  replace hl : lv_has ls 8 [(0, .ref ax), (1, .int x1)] := hl
  have hx := E.1.1
  have hb := E.1.2.1
  unfold f_X8_repeatOnTrial at hM
  refine lv_aload_n hx hb dX8_repeatOnTrial_0 rfl (lv_at hl 0 rfl) ?_
  refine q_get (C := RX8) (T := TX8) (N := 4) (ci := 8) E (fun w h => List.mem_cons_of_mem _ (inX8 w h)) hw 40 rfl rfl 0 (by decide) (List.mem_cons_of_mem _ tb_442) (v := .ref (h 46)) rfl dX8_repeatOnTrial_1 ?_
  refine q_get (C := RX6) (T := TX6) (N := 2) (ci := 6) E (fun w h => List.mem_cons_of_mem _ (inX6 w h)) hw 39 rfl rfl 1 (by decide) (List.mem_cons_of_mem _ tb_377) (v := .ref (h 45)) rfl dX8_repeatOnTrial_4 ?_
  refine lv_astore_n (lv' := [(2, .ref (h 45)), (0, .ref ax), (1, .int x1)]) hx hb dX8_repeatOnTrial_7 rfl hl (by decide) rfl (fun ls hl => ?_)
  refine lv_aload_n hx hb dX8_repeatOnTrial_8 rfl (lv_at hl 0 rfl) ?_
  refine q_get (C := RX2) (T := TX2) (N := 7) (ci := 2) E (fun w h => List.mem_cons_of_mem _ (inX2 w h)) hw 32 rfl rfl 1 (by decide) (List.mem_cons_of_mem _ tb_348) (v := .ref (h 33)) rfl dX8_repeatOnTrial_9 ?_
  refine lv_iload_n hx hb dX8_repeatOnTrial_12 rfl (lv_at hl 2 rfl) ?_
  obtain ⟨g1, hM⟩ := g_some hM
  refine q_ald E hw 34 (n := 200) rfl g1 (x := (σ 33 (ix x1))) rfl dX8_repeatOnTrial_13 ?_
  refine lv_istore_n (lv' := [(3, .int (σ 33 (ix x1))), (2, .ref (h 45)), (0, .ref ax), (1, .int x1)]) hx hb dX8_repeatOnTrial_14 rfl hl (by decide) rfl (fun ls hl => ?_)
  refine lv_aload_n hx hb dX8_repeatOnTrial_15 rfl (lv_at hl 1 rfl) ?_
  refine q_get (C := RX2) (T := TX2) (N := 7) (ci := 2) E (fun w h => List.mem_cons_of_mem _ (inX2 w h)) hw 32 rfl rfl 2 (by decide) (List.mem_cons_of_mem _ tb_350) (v := .ref (h 34)) rfl dX8_repeatOnTrial_16 ?_
  refine lv_iload_n hx hb dX8_repeatOnTrial_19 rfl (lv_at hl 3 rfl) ?_
  refine q_ald E hw 35 (n := 200) rfl g1 (x := (σ 34 (ix x1))) rfl dX8_repeatOnTrial_20 ?_
  refine lv_istore (lv' := [(4, .int (σ 34 (ix x1))), (3, .int (σ 33 (ix x1))), (2, .ref (h 45)), (0, .ref ax), (1, .int x1)]) hx hb dX8_repeatOnTrial_21 hl (by decide) rfl (fun ls hl => ?_)
  refine lv_aload_n hx hb dX8_repeatOnTrial_23 rfl (lv_at hl 2 rfl) ?_
  refine q_get (C := RX2) (T := TX2) (N := 7) (ci := 2) E (fun w h => List.mem_cons_of_mem _ (inX2 w h)) hw 32 rfl rfl 3 (by decide) (List.mem_cons_of_mem _ tb_352) (v := .ref (h 35)) rfl dX8_repeatOnTrial_24 ?_
  refine lv_iload_n hx hb dX8_repeatOnTrial_27 rfl (lv_at hl 4 rfl) ?_
  refine q_ald E hw 36 (n := 200) rfl g1 (x := (σ 35 (ix x1))) rfl dX8_repeatOnTrial_28 ?_
  refine lv_istore (lv' := [(5, .int (σ 35 (ix x1))), (4, .int (σ 34 (ix x1))), (3, .int (σ 33 (ix x1))), (2, .ref (h 45)), (0, .ref ax), (1, .int x1)]) hx hb dX8_repeatOnTrial_29 hl (by decide) rfl (fun ls hl => ?_)
  refine lv_aload_n hx hb dX8_repeatOnTrial_31 rfl (lv_at hl 3 rfl) ?_
  refine q_get (C := RX2) (T := TX2) (N := 7) (ci := 2) E (fun w h => List.mem_cons_of_mem _ (inX2 w h)) hw 32 rfl rfl 4 (by decide) (List.mem_cons_of_mem _ tb_354) (v := .ref (h 36)) rfl dX8_repeatOnTrial_32 ?_
  refine lv_iload_n hx hb dX8_repeatOnTrial_35 rfl (lv_at hl 5 rfl) ?_
  refine q_ald E hw 37 (n := 200) rfl g1 (x := (σ 36 (ix x1))) rfl dX8_repeatOnTrial_36 ?_
  refine lv_istore (lv' := [(6, .int (σ 36 (ix x1))), (5, .int (σ 35 (ix x1))), (4, .int (σ 34 (ix x1))), (3, .int (σ 33 (ix x1))), (2, .ref (h 45)), (0, .ref ax), (1, .int x1)]) hx hb dX8_repeatOnTrial_37 hl (by decide) rfl (fun ls hl => ?_)
  refine lv_aload_n hx hb dX8_repeatOnTrial_39 rfl (lv_at hl 4 rfl) ?_
  refine q_get (C := RX2) (T := TX2) (N := 7) (ci := 2) E (fun w h => List.mem_cons_of_mem _ (inX2 w h)) hw 32 rfl rfl 5 (by decide) (List.mem_cons_of_mem _ tb_356) (v := .ref (h 37)) rfl dX8_repeatOnTrial_40 ?_
  refine lv_iload_n hx hb dX8_repeatOnTrial_43 rfl (lv_at hl 6 rfl) ?_
  refine q_ald E hw 38 (n := 200) rfl g1 (x := (σ 37 (ix x1))) rfl dX8_repeatOnTrial_44 ?_
  refine lv_istore (lv' := [(7, .int (σ 37 (ix x1))), (6, .int (σ 36 (ix x1))), (5, .int (σ 35 (ix x1))), (4, .int (σ 34 (ix x1))), (3, .int (σ 33 (ix x1))), (2, .ref (h 45)), (0, .ref ax), (1, .int x1)]) hx hb dX8_repeatOnTrial_45 hl (by decide) rfl (fun ls hl => ?_)
  refine lv_aload_n hx hb dX8_repeatOnTrial_47 rfl (lv_at hl 6 rfl) ?_
  refine q_get (C := RX8) (T := TX8) (N := 4) (ci := 8) E (fun w h => List.mem_cons_of_mem _ (inX8 w h)) hw 40 rfl rfl 2 (by decide) (List.mem_cons_of_mem _ tb_444) (v := .ref (t 42)) rfl dX8_repeatOnTrial_48 ?_
  refine lv_iload_n hx hb dX8_repeatOnTrial_51 rfl (lv_at hl 4 rfl) ?_
  refine lv_iload hx hb dX8_repeatOnTrial_52 (lv_at hl 3 rfl) ?_
  refine lv_iload hx hb dX8_repeatOnTrial_54 (lv_at hl 2 rfl) ?_
  refine lv_iload hx hb dX8_repeatOnTrial_56 (lv_at hl 1 rfl) ?_
  refine lv_iload hx hb dX8_repeatOnTrial_58 (lv_at hl 0 rfl) ?_
  have hw : Wd D A (wK cA t τ ++ (wK cA h σ ++ (wLg cA h σ 600 ++ (wC cA h σ ++ (wH cA h σ ++ (wS h ++ (wX ax (h 46) sv (t 42) sc ++ (wLg cA t τ 0 ++ (wC cA t τ ++ F))))))))) s.heap _ _ := hw.perm (((List.Perm.append_left _ (((List.Perm.append_left _ (((List.Perm.append_left _ (((List.Perm.append_left _ (((List.Perm.append_left _ (List.perm_append_comm_assoc _ _ _))).trans (List.perm_append_comm_assoc _ _ _)))).trans (List.perm_append_comm_assoc _ _ _)))).trans (List.perm_append_comm_assoc _ _ _)))).trans (List.perm_append_comm_assoc _ _ _)))).trans (List.perm_append_comm_assoc _ _ _))
  have hw : Wd D A (wK cA t τ ++ (wLg cA t τ 0 ++ (wK cA h σ ++ (wLg cA h σ 600 ++ (wC cA h σ ++ (wH cA h σ ++ (wS h ++ (wX ax (h 46) sv (t 42) sc ++ (wC cA t τ ++ F))))))))) s.heap _ _ := hw.perm (List.Perm.append_left _ (((List.Perm.append_left _ (((List.Perm.append_left _ (((List.Perm.append_left _ (((List.Perm.append_left _ (((List.Perm.append_left _ (List.perm_append_comm_assoc _ _ _))).trans (List.perm_append_comm_assoc _ _ _)))).trans (List.perm_append_comm_assoc _ _ _)))).trans (List.perm_append_comm_assoc _ _ _)))).trans (List.perm_append_comm_assoc _ _ _)))).trans (List.perm_append_comm_assoc _ _ _)))
  have hw : Wd D A (wK cA t τ ++ (wLg cA t τ 0 ++ (wC cA t τ ++ (wK cA h σ ++ (wLg cA h σ 600 ++ (wC cA h σ ++ (wH cA h σ ++ (wS h ++ (wX ax (h 46) sv (t 42) sc ++ F))))))))) s.heap _ _ := hw.perm (List.Perm.append_left _ (List.Perm.append_left _ (((List.Perm.append_left _ (((List.Perm.append_left _ (((List.Perm.append_left _ (((List.Perm.append_left _ (((List.Perm.append_left _ (List.perm_append_comm_assoc _ _ _))).trans (List.perm_append_comm_assoc _ _ _)))).trans (List.perm_append_comm_assoc _ _ _)))).trans (List.perm_append_comm_assoc _ _ _)))).trans (List.perm_append_comm_assoc _ _ _)))).trans (List.perm_append_comm_assoc _ _ _))))
  obtain ⟨p2, h3, hM⟩ := b_some hM
  refine q_cv (As := [.int (σ 33 (ix x1)), .int (σ 34 (ix x1)), .int (σ 35 (ix x1)), .int (σ 36 (ix x1)), .int (σ 37 (ix x1))]) (rest := []) E hw hl (c_X1_errorOf l D cA tS A t 0 (wK cA h σ ++ (wLg cA h σ 600 ++ (wC cA h σ ++ (wH cA h σ ++ (wS h ++ (wX ax (h 46) sv (t 42) sc ++ F)))))) (σ 33 (ix x1)) (σ 34 (ix x1)) (σ 35 (ix x1)) (σ 36 (ix x1)) (σ 37 (ix x1)) τ p2 h3) 5 (bwV bw_c tb_463 tb_464 tb_465 tb_101 tb_466) rfl (by decide +kernel) ⟨Nat.le_of_ble_eq_true rfl, Nat.le_of_ble_eq_true rfl⟩ 12 1 (T := TX1) (N := 6) rfl rfl rfl rfl (Nat.le_of_ble_eq_true rfl) ⟨Nat.zero_le _, Nat.zero_le _⟩ dX8_repeatOnTrial_60 (fun H locs hw => ?_)
  refine lv_if_ne (tgt := 83) hx hb dX8_repeatOnTrial_63 (by decide) (fun c4 => ?_) (fun c4 => ?_)
  · replace hM := i_neg hM c4
    have hw : Wd D A (wK cA h σ ++ (wK cA t τ ++ (wLg cA t τ 0 ++ (wC cA t τ ++ (wLg cA h σ 600 ++ (wC cA h σ ++ (wH cA h σ ++ (wS h ++ (wX ax (h 46) sv (t 42) sc ++ F))))))))) s.heap _ _ := hw.perm (((List.Perm.append_left _ (((List.Perm.append_left _ (List.perm_append_comm_assoc _ _ _))).trans (List.perm_append_comm_assoc _ _ _)))).trans (List.perm_append_comm_assoc _ _ _))
    have hw : Wd D A (wK cA h σ ++ (wLg cA h σ 600 ++ (wK cA t τ ++ (wLg cA t τ 0 ++ (wC cA t τ ++ (wC cA h σ ++ (wH cA h σ ++ (wS h ++ (wX ax (h 46) sv (t 42) sc ++ F))))))))) s.heap _ _ := hw.perm (List.Perm.append_left _ (((List.Perm.append_left _ (((List.Perm.append_left _ (List.perm_append_comm_assoc _ _ _))).trans (List.perm_append_comm_assoc _ _ _)))).trans (List.perm_append_comm_assoc _ _ _)))
    have hw : Wd D A (wK cA h σ ++ (wLg cA h σ 600 ++ (wC cA h σ ++ (wK cA t τ ++ (wLg cA t τ 0 ++ (wC cA t τ ++ (wH cA h σ ++ (wS h ++ (wX ax (h 46) sv (t 42) sc ++ F))))))))) s.heap _ _ := hw.perm (List.Perm.append_left _ (List.Perm.append_left _ (((List.Perm.append_left _ (((List.Perm.append_left _ (List.perm_append_comm_assoc _ _ _))).trans (List.perm_append_comm_assoc _ _ _)))).trans (List.perm_append_comm_assoc _ _ _))))
    have hw : Wd D A (wK cA h σ ++ (wLg cA h σ 600 ++ (wC cA h σ ++ (wH cA h σ ++ (wK cA t τ ++ (wLg cA t τ 0 ++ (wC cA t τ ++ (wS h ++ (wX ax (h 46) sv (t 42) sc ++ F))))))))) s.heap _ _ := hw.perm (List.Perm.append_left _ (List.Perm.append_left _ (List.Perm.append_left _ (((List.Perm.append_left _ (((List.Perm.append_left _ (List.perm_append_comm_assoc _ _ _))).trans (List.perm_append_comm_assoc _ _ _)))).trans (List.perm_append_comm_assoc _ _ _)))))
    have hw : Wd D A (wK cA h σ ++ (wLg cA h σ 600 ++ (wC cA h σ ++ (wH cA h σ ++ (wS h ++ (wK cA t τ ++ (wLg cA t τ 0 ++ (wC cA t τ ++ (wX ax (h 46) sv (t 42) sc ++ F))))))))) s.heap _ _ := hw.perm (List.Perm.append_left _ (List.Perm.append_left _ (List.Perm.append_left _ (List.Perm.append_left _ (((List.Perm.append_left _ (((List.Perm.append_left _ (List.perm_append_comm_assoc _ _ _))).trans (List.perm_append_comm_assoc _ _ _)))).trans (List.perm_append_comm_assoc _ _ _))))))
    have hw : Wd D A (wK cA h σ ++ (wLg cA h σ 600 ++ (wC cA h σ ++ (wH cA h σ ++ (wS h ++ (wX ax (h 46) sv (t 42) sc ++ (wK cA t τ ++ (wLg cA t τ 0 ++ (wC cA t τ ++ F))))))))) s.heap _ _ := hw.perm (List.Perm.append_left _ (List.Perm.append_left _ (List.Perm.append_left _ (List.Perm.append_left _ (List.Perm.append_left _ (((List.Perm.append_left _ (((List.Perm.append_left _ (List.perm_append_comm_assoc _ _ _))).trans (List.perm_append_comm_assoc _ _ _)))).trans (List.perm_append_comm_assoc _ _ _)))))))
    cases hM
    exact q_retv E hw dX8_repeatOnTrial_83
  · replace hM := i_pos hM c4
    refine lv_aload_n hx hb dX8_repeatOnTrial_66 rfl (lv_at hl 6 rfl) ?_
    refine q_get (C := RX8) (T := TX8) (N := 4) (ci := 8) E (fun w h => List.mem_cons_of_mem _ (inX8 w h)) hw 72 rfl rfl 2 (by decide) (List.mem_cons_of_mem _ tb_444) (v := .ref (t 42)) rfl dX8_repeatOnTrial_67 ?_
    refine lv_iload_n hx hb dX8_repeatOnTrial_70 rfl (lv_at hl 4 rfl) ?_
    refine lv_iload hx hb dX8_repeatOnTrial_71 (lv_at hl 3 rfl) ?_
    refine lv_iload hx hb dX8_repeatOnTrial_73 (lv_at hl 2 rfl) ?_
    refine lv_iload hx hb dX8_repeatOnTrial_75 (lv_at hl 1 rfl) ?_
    refine lv_iload hx hb dX8_repeatOnTrial_77 (lv_at hl 0 rfl) ?_
    obtain ⟨p5, h6, hM⟩ := b_some hM
    refine q_cv (As := [.int (σ 33 (ix x1)), .int (σ 34 (ix x1)), .int (σ 35 (ix x1)), .int (σ 36 (ix x1)), .int (σ 37 (ix x1))]) (rest := []) E hw hl (c_X1_make l D cA tS A t 0 (wK cA h σ ++ (wLg cA h σ 600 ++ (wC cA h σ ++ (wH cA h σ ++ (wS h ++ (wX ax (h 46) sv (t 42) sc ++ F)))))) N (σ 33 (ix x1)) (σ 34 (ix x1)) (σ 35 (ix x1)) (σ 36 (ix x1)) (σ 37 (ix x1)) τ p5.1 p5.2 h6) 5 (bwV bw_c tb_514 tb_515 tb_516 tb_101 tb_517) rfl (by decide +kernel) ⟨Nat.le_of_ble_eq_true rfl, Nat.le_of_ble_eq_true rfl⟩ 12 1 (T := TX1) (N := 6) rfl rfl rfl rfl (Nat.le_of_ble_eq_true rfl) ⟨Nat.zero_le _, Nat.zero_le _⟩ dX8_repeatOnTrial_79 (fun H locs hw => ?_)
    refine lv_pop hx hb dX8_repeatOnTrial_82 rfl ?_
    have hw : Wd D A (wK cA h σ ++ (wK cA t p5.2 ++ (wLg cA t p5.2 0 ++ (wC cA t p5.2 ++ (wLg cA h σ 600 ++ (wC cA h σ ++ (wH cA h σ ++ (wS h ++ (wX ax (h 46) sv (t 42) sc ++ F))))))))) s.heap _ _ := hw.perm (((List.Perm.append_left _ (((List.Perm.append_left _ (List.perm_append_comm_assoc _ _ _))).trans (List.perm_append_comm_assoc _ _ _)))).trans (List.perm_append_comm_assoc _ _ _))
    have hw : Wd D A (wK cA h σ ++ (wLg cA h σ 600 ++ (wK cA t p5.2 ++ (wLg cA t p5.2 0 ++ (wC cA t p5.2 ++ (wC cA h σ ++ (wH cA h σ ++ (wS h ++ (wX ax (h 46) sv (t 42) sc ++ F))))))))) s.heap _ _ := hw.perm (List.Perm.append_left _ (((List.Perm.append_left _ (((List.Perm.append_left _ (List.perm_append_comm_assoc _ _ _))).trans (List.perm_append_comm_assoc _ _ _)))).trans (List.perm_append_comm_assoc _ _ _)))
    have hw : Wd D A (wK cA h σ ++ (wLg cA h σ 600 ++ (wC cA h σ ++ (wK cA t p5.2 ++ (wLg cA t p5.2 0 ++ (wC cA t p5.2 ++ (wH cA h σ ++ (wS h ++ (wX ax (h 46) sv (t 42) sc ++ F))))))))) s.heap _ _ := hw.perm (List.Perm.append_left _ (List.Perm.append_left _ (((List.Perm.append_left _ (((List.Perm.append_left _ (List.perm_append_comm_assoc _ _ _))).trans (List.perm_append_comm_assoc _ _ _)))).trans (List.perm_append_comm_assoc _ _ _))))
    have hw : Wd D A (wK cA h σ ++ (wLg cA h σ 600 ++ (wC cA h σ ++ (wH cA h σ ++ (wK cA t p5.2 ++ (wLg cA t p5.2 0 ++ (wC cA t p5.2 ++ (wS h ++ (wX ax (h 46) sv (t 42) sc ++ F))))))))) s.heap _ _ := hw.perm (List.Perm.append_left _ (List.Perm.append_left _ (List.Perm.append_left _ (((List.Perm.append_left _ (((List.Perm.append_left _ (List.perm_append_comm_assoc _ _ _))).trans (List.perm_append_comm_assoc _ _ _)))).trans (List.perm_append_comm_assoc _ _ _)))))
    have hw : Wd D A (wK cA h σ ++ (wLg cA h σ 600 ++ (wC cA h σ ++ (wH cA h σ ++ (wS h ++ (wK cA t p5.2 ++ (wLg cA t p5.2 0 ++ (wC cA t p5.2 ++ (wX ax (h 46) sv (t 42) sc ++ F))))))))) s.heap _ _ := hw.perm (List.Perm.append_left _ (List.Perm.append_left _ (List.Perm.append_left _ (List.Perm.append_left _ (((List.Perm.append_left _ (((List.Perm.append_left _ (List.perm_append_comm_assoc _ _ _))).trans (List.perm_append_comm_assoc _ _ _)))).trans (List.perm_append_comm_assoc _ _ _))))))
    have hw : Wd D A (wK cA h σ ++ (wLg cA h σ 600 ++ (wC cA h σ ++ (wH cA h σ ++ (wS h ++ (wX ax (h 46) sv (t 42) sc ++ (wK cA t p5.2 ++ (wLg cA t p5.2 0 ++ (wC cA t p5.2 ++ F))))))))) s.heap _ _ := hw.perm (List.Perm.append_left _ (List.Perm.append_left _ (List.Perm.append_left _ (List.Perm.append_left _ (List.Perm.append_left _ (((List.Perm.append_left _ (((List.Perm.append_left _ (List.perm_append_comm_assoc _ _ _))).trans (List.perm_append_comm_assoc _ _ _)))).trans (List.perm_append_comm_assoc _ _ _)))))))
    cases hM
    exact q_retv E hw dX8_repeatOnTrial_83
set_option maxRecDepth 100000 in
set_option maxHeartbeats 4000000 in
theorem s_X8_breachesInReplay_48 (l : Launch) (D : va_G) (cA : Nat → ClassId) (tS : Nat → Nat) (A : Nat → Prop) (h : Nat → Nat) (t : Nat → Nat) (ax : Nat) (sv : Nat) (sc : Nat) (F : va_W) (N : Nat) {p : Program} {e : Env} {s : State} {m : MethodId} {args : Array Value} {below : List Frame} {meth : Method} {c : Code} (E : Ev p cX8_breachesInReplay 5 (some .int) RX8 (Cond.code yX8_breachesInReplay cX8_breachesInReplay 5 (some .int) :: bw) D cA tS A s m args meth c) : ∀ (n : Nat) (x1 : Int32) (x4 : Int32) (σ : Sg) (τ : Sg) (r0 : Int32) (s0 : Sg) (hM : f_X8_breachesInReplay_48 N n x1 x4 σ τ = some (r0, s0)) (H : Heap) (locs : List Loc) (hw : Wd D A (wK cA h σ ++ (wLg cA h σ 600 ++ (wC cA h σ ++ (wH cA h σ ++ (wS h ++ (wX ax (h 46) sv (t 42) sc ++ (wK cA t τ ++ (wLg cA t τ 0 ++ (wC cA t τ ++ F))))))))) s.heap H locs) (ls : Array Slot) (hl : lv_has ls 5 [(0, .ref ax), (1, .int x1), (3, .ref (h 45)), (4, .int x4)]), W p l e ({ frames := 5, cells := 0, slots := 0, locals := 122 } : Room) s m args below meth c H locs 0 0 (MQ below (QW D A (some (.int r0)) (wK cA h σ ++ (wLg cA h σ 600 ++ (wC cA h σ ++ (wH cA h σ ++ (wS h ++ (wX ax (h 46) sv (t 42) sc ++ (wK cA t s0 ++ (wLg cA t s0 0 ++ (wC cA t s0 ++ F)))))))))) args s 0 0 A) (F0 m 48 ls []) := by
  have hx := E.1.1
  have hb := E.1.2.1
  intro n
  induction n with
  | zero =>
    intro x1 x4 σ τ r0 s0 hM
    cases hM
  | succ n ih =>
    intro x1 x4 σ τ r0 s0 hM H locs hw ls hl
    rw [f_X8_breachesInReplay_48] at hM
    refine lv_iload hx hb dX8_breachesInReplay_48 (lv_at hl 3 rfl) ?_
    refine lv_aload_n hx hb dX8_breachesInReplay_50 rfl (lv_at hl 2 rfl) ?_
    refine q_get (C := RX2) (T := TX2) (N := 7) (ci := 2) E (fun w h => List.mem_cons_of_mem _ (inX2 w h)) hw 32 rfl rfl 6 (by decide) (List.mem_cons_of_mem _ tb_358) (v := .int (σ 31 0)) rfl dX8_breachesInReplay_51 ?_
    refine lv_icmp_ge (tgt := 105) hx hb dX8_breachesInReplay_54 (by decide) (fun c1 => ?_) (fun c1 => ?_)
    · replace hM := i_pos hM c1
      refine lv_aload_n hx hb dX8_breachesInReplay_105 rfl (lv_at hl 0 rfl) ?_
      refine q_get (C := RX8) (T := TX8) (N := 4) (ci := 8) E (fun w h => List.mem_cons_of_mem _ (inX8 w h)) hw 40 rfl rfl 2 (by decide) (List.mem_cons_of_mem _ tb_444) (v := .ref (t 42)) rfl dX8_breachesInReplay_106 ?_
      refine lv_aload_n hx hb dX8_breachesInReplay_109 rfl (lv_at hl 0 rfl) ?_
      refine q_get (C := RX8) (T := TX8) (N := 4) (ci := 8) E (fun w h => List.mem_cons_of_mem _ (inX8 w h)) hw 40 rfl rfl 0 (by decide) (List.mem_cons_of_mem _ tb_442) (v := .ref (h 46)) rfl dX8_breachesInReplay_110 ?_
      refine q_get (C := RX6) (T := TX6) (N := 2) (ci := 6) E (fun w h => List.mem_cons_of_mem _ (inX6 w h)) hw 39 rfl rfl 0 (by decide) (List.mem_cons_of_mem _ tb_375) (v := .ref (h 42)) rfl dX8_breachesInReplay_113 ?_
      refine q_get (C := RX1) (T := TX1) (N := 6) (ci := 1) E (fun w h => List.mem_cons_of_mem _ (inX1 w h)) hw 12 rfl rfl 5 (by decide) (List.mem_cons_of_mem _ tb_325) (v := .int (σ 12 0)) rfl dX8_breachesInReplay_116 ?_
      have hw : Wd D A (wK cA t τ ++ (wK cA h σ ++ (wLg cA h σ 600 ++ (wC cA h σ ++ (wH cA h σ ++ (wS h ++ (wX ax (h 46) sv (t 42) sc ++ (wLg cA t τ 0 ++ (wC cA t τ ++ F))))))))) s.heap _ _ := hw.perm (((List.Perm.append_left _ (((List.Perm.append_left _ (((List.Perm.append_left _ (((List.Perm.append_left _ (((List.Perm.append_left _ (List.perm_append_comm_assoc _ _ _))).trans (List.perm_append_comm_assoc _ _ _)))).trans (List.perm_append_comm_assoc _ _ _)))).trans (List.perm_append_comm_assoc _ _ _)))).trans (List.perm_append_comm_assoc _ _ _)))).trans (List.perm_append_comm_assoc _ _ _))
      have hw : Wd D A (wK cA t τ ++ (wLg cA t τ 0 ++ (wK cA h σ ++ (wLg cA h σ 600 ++ (wC cA h σ ++ (wH cA h σ ++ (wS h ++ (wX ax (h 46) sv (t 42) sc ++ (wC cA t τ ++ F))))))))) s.heap _ _ := hw.perm (List.Perm.append_left _ (((List.Perm.append_left _ (((List.Perm.append_left _ (((List.Perm.append_left _ (((List.Perm.append_left _ (((List.Perm.append_left _ (List.perm_append_comm_assoc _ _ _))).trans (List.perm_append_comm_assoc _ _ _)))).trans (List.perm_append_comm_assoc _ _ _)))).trans (List.perm_append_comm_assoc _ _ _)))).trans (List.perm_append_comm_assoc _ _ _)))).trans (List.perm_append_comm_assoc _ _ _)))
      have hw : Wd D A (wK cA t τ ++ (wLg cA t τ 0 ++ (wC cA t τ ++ (wK cA h σ ++ (wLg cA h σ 600 ++ (wC cA h σ ++ (wH cA h σ ++ (wS h ++ (wX ax (h 46) sv (t 42) sc ++ F))))))))) s.heap _ _ := hw.perm (List.Perm.append_left _ (List.Perm.append_left _ (((List.Perm.append_left _ (((List.Perm.append_left _ (((List.Perm.append_left _ (((List.Perm.append_left _ (((List.Perm.append_left _ (List.perm_append_comm_assoc _ _ _))).trans (List.perm_append_comm_assoc _ _ _)))).trans (List.perm_append_comm_assoc _ _ _)))).trans (List.perm_append_comm_assoc _ _ _)))).trans (List.perm_append_comm_assoc _ _ _)))).trans (List.perm_append_comm_assoc _ _ _))))
      obtain ⟨p2, h3, hM⟩ := b_some hM
      refine q_cvv (As := [.int (σ 12 0)]) (rest := []) E hw hl (c_X1_passUntil l D cA tS A t 0 (wK cA h σ ++ (wLg cA h σ 600 ++ (wC cA h σ ++ (wH cA h σ ++ (wS h ++ (wX ax (h 46) sv (t 42) sc ++ F)))))) N (σ 12 0) τ p2 h3) 1 (bwV bw_c tb_682 tb_683 tb_684 tb_101 tb_685) rfl (by decide +kernel) ⟨Nat.le_of_ble_eq_true rfl, Nat.le_of_ble_eq_true rfl⟩ 12 1 (T := TX1) (N := 6) rfl rfl rfl rfl (Nat.le_of_ble_eq_true rfl) ⟨Nat.zero_le _, Nat.zero_le _⟩ dX8_breachesInReplay_119 (fun H locs hw => ?_)
      refine lv_aload_n hx hb dX8_breachesInReplay_122 rfl (lv_at hl 0 rfl) ?_
      refine q_get (C := RX8) (T := TX8) (N := 4) (ci := 8) E (fun w h => List.mem_cons_of_mem _ (inX8 w h)) hw 72 rfl rfl 2 (by decide) (List.mem_cons_of_mem _ tb_444) (v := .ref (t 42)) rfl dX8_breachesInReplay_123 ?_
      obtain ⟨p4, h5, hM⟩ := b_some hM
      refine q_cv (As := []) (rest := []) E hw hl (c_X1_allBreaches l D cA tS A t 0 (wK cA h σ ++ (wLg cA h σ 600 ++ (wC cA h σ ++ (wH cA h σ ++ (wS h ++ (wX ax (h 46) sv (t 42) sc ++ F)))))) N p2 p4 h5) 0 (bwV bw_c tb_922 tb_923 tb_924 tb_101 tb_925) rfl (by decide +kernel) ⟨Nat.le_of_ble_eq_true rfl, Nat.le_of_ble_eq_true rfl⟩ 12 1 (T := TX1) (N := 6) rfl rfl rfl rfl (Nat.le_of_ble_eq_true rfl) ⟨Nat.zero_le _, Nat.zero_le _⟩ dX8_breachesInReplay_126 (fun H locs hw => ?_)
      have hw : Wd D A (wK cA h σ ++ (wK cA t p2 ++ (wLg cA t p2 0 ++ (wC cA t p2 ++ (wLg cA h σ 600 ++ (wC cA h σ ++ (wH cA h σ ++ (wS h ++ (wX ax (h 46) sv (t 42) sc ++ F))))))))) s.heap _ _ := hw.perm (((List.Perm.append_left _ (((List.Perm.append_left _ (List.perm_append_comm_assoc _ _ _))).trans (List.perm_append_comm_assoc _ _ _)))).trans (List.perm_append_comm_assoc _ _ _))
      have hw : Wd D A (wK cA h σ ++ (wLg cA h σ 600 ++ (wK cA t p2 ++ (wLg cA t p2 0 ++ (wC cA t p2 ++ (wC cA h σ ++ (wH cA h σ ++ (wS h ++ (wX ax (h 46) sv (t 42) sc ++ F))))))))) s.heap _ _ := hw.perm (List.Perm.append_left _ (((List.Perm.append_left _ (((List.Perm.append_left _ (List.perm_append_comm_assoc _ _ _))).trans (List.perm_append_comm_assoc _ _ _)))).trans (List.perm_append_comm_assoc _ _ _)))
      have hw : Wd D A (wK cA h σ ++ (wLg cA h σ 600 ++ (wC cA h σ ++ (wK cA t p2 ++ (wLg cA t p2 0 ++ (wC cA t p2 ++ (wH cA h σ ++ (wS h ++ (wX ax (h 46) sv (t 42) sc ++ F))))))))) s.heap _ _ := hw.perm (List.Perm.append_left _ (List.Perm.append_left _ (((List.Perm.append_left _ (((List.Perm.append_left _ (List.perm_append_comm_assoc _ _ _))).trans (List.perm_append_comm_assoc _ _ _)))).trans (List.perm_append_comm_assoc _ _ _))))
      have hw : Wd D A (wK cA h σ ++ (wLg cA h σ 600 ++ (wC cA h σ ++ (wH cA h σ ++ (wK cA t p2 ++ (wLg cA t p2 0 ++ (wC cA t p2 ++ (wS h ++ (wX ax (h 46) sv (t 42) sc ++ F))))))))) s.heap _ _ := hw.perm (List.Perm.append_left _ (List.Perm.append_left _ (List.Perm.append_left _ (((List.Perm.append_left _ (((List.Perm.append_left _ (List.perm_append_comm_assoc _ _ _))).trans (List.perm_append_comm_assoc _ _ _)))).trans (List.perm_append_comm_assoc _ _ _)))))
      have hw : Wd D A (wK cA h σ ++ (wLg cA h σ 600 ++ (wC cA h σ ++ (wH cA h σ ++ (wS h ++ (wK cA t p2 ++ (wLg cA t p2 0 ++ (wC cA t p2 ++ (wX ax (h 46) sv (t 42) sc ++ F))))))))) s.heap _ _ := hw.perm (List.Perm.append_left _ (List.Perm.append_left _ (List.Perm.append_left _ (List.Perm.append_left _ (((List.Perm.append_left _ (((List.Perm.append_left _ (List.perm_append_comm_assoc _ _ _))).trans (List.perm_append_comm_assoc _ _ _)))).trans (List.perm_append_comm_assoc _ _ _))))))
      have hw : Wd D A (wK cA h σ ++ (wLg cA h σ 600 ++ (wC cA h σ ++ (wH cA h σ ++ (wS h ++ (wX ax (h 46) sv (t 42) sc ++ (wK cA t p2 ++ (wLg cA t p2 0 ++ (wC cA t p2 ++ F))))))))) s.heap _ _ := hw.perm (List.Perm.append_left _ (List.Perm.append_left _ (List.Perm.append_left _ (List.Perm.append_left _ (List.Perm.append_left _ (((List.Perm.append_left _ (((List.Perm.append_left _ (List.perm_append_comm_assoc _ _ _))).trans (List.perm_append_comm_assoc _ _ _)))).trans (List.perm_append_comm_assoc _ _ _)))))))
      cases hM
      exact q_reti E hw dX8_breachesInReplay_129
    · replace hM := i_neg hM c1
      refine lv_aload_n hx hb dX8_breachesInReplay_57 rfl (lv_at hl 0 rfl) ?_
      refine q_get (C := RX8) (T := TX8) (N := 4) (ci := 8) E (fun w h => List.mem_cons_of_mem _ (inX8 w h)) hw 40 rfl rfl 2 (by decide) (List.mem_cons_of_mem _ tb_444) (v := .ref (t 42)) rfl dX8_breachesInReplay_58 ?_
      refine lv_aload_n hx hb dX8_breachesInReplay_61 rfl (lv_at hl 2 rfl) ?_
      refine q_get (C := RX2) (T := TX2) (N := 7) (ci := 2) E (fun w h => List.mem_cons_of_mem _ (inX2 w h)) hw 32 rfl rfl 0 (by decide) (List.mem_cons_of_mem _ tb_346) (v := .ref (h 32)) rfl dX8_breachesInReplay_62 ?_
      refine lv_iload hx hb dX8_breachesInReplay_65 (lv_at hl 3 rfl) ?_
      obtain ⟨g6, hM⟩ := g_some hM
      refine q_ald E hw 33 (n := 200) rfl g6 (x := (σ 32 (ix x4))) rfl dX8_breachesInReplay_67 ?_
      have hw : Wd D A (wK cA t τ ++ (wK cA h σ ++ (wLg cA h σ 600 ++ (wC cA h σ ++ (wH cA h σ ++ (wS h ++ (wX ax (h 46) sv (t 42) sc ++ (wLg cA t τ 0 ++ (wC cA t τ ++ F))))))))) s.heap _ _ := hw.perm (((List.Perm.append_left _ (((List.Perm.append_left _ (((List.Perm.append_left _ (((List.Perm.append_left _ (((List.Perm.append_left _ (List.perm_append_comm_assoc _ _ _))).trans (List.perm_append_comm_assoc _ _ _)))).trans (List.perm_append_comm_assoc _ _ _)))).trans (List.perm_append_comm_assoc _ _ _)))).trans (List.perm_append_comm_assoc _ _ _)))).trans (List.perm_append_comm_assoc _ _ _))
      have hw : Wd D A (wK cA t τ ++ (wLg cA t τ 0 ++ (wK cA h σ ++ (wLg cA h σ 600 ++ (wC cA h σ ++ (wH cA h σ ++ (wS h ++ (wX ax (h 46) sv (t 42) sc ++ (wC cA t τ ++ F))))))))) s.heap _ _ := hw.perm (List.Perm.append_left _ (((List.Perm.append_left _ (((List.Perm.append_left _ (((List.Perm.append_left _ (((List.Perm.append_left _ (((List.Perm.append_left _ (List.perm_append_comm_assoc _ _ _))).trans (List.perm_append_comm_assoc _ _ _)))).trans (List.perm_append_comm_assoc _ _ _)))).trans (List.perm_append_comm_assoc _ _ _)))).trans (List.perm_append_comm_assoc _ _ _)))).trans (List.perm_append_comm_assoc _ _ _)))
      have hw : Wd D A (wK cA t τ ++ (wLg cA t τ 0 ++ (wC cA t τ ++ (wK cA h σ ++ (wLg cA h σ 600 ++ (wC cA h σ ++ (wH cA h σ ++ (wS h ++ (wX ax (h 46) sv (t 42) sc ++ F))))))))) s.heap _ _ := hw.perm (List.Perm.append_left _ (List.Perm.append_left _ (((List.Perm.append_left _ (((List.Perm.append_left _ (((List.Perm.append_left _ (((List.Perm.append_left _ (((List.Perm.append_left _ (List.perm_append_comm_assoc _ _ _))).trans (List.perm_append_comm_assoc _ _ _)))).trans (List.perm_append_comm_assoc _ _ _)))).trans (List.perm_append_comm_assoc _ _ _)))).trans (List.perm_append_comm_assoc _ _ _)))).trans (List.perm_append_comm_assoc _ _ _))))
      obtain ⟨p7, h8, hM⟩ := b_some hM
      refine q_cvv (As := [.int (σ 32 (ix x4))]) (rest := []) E hw hl (c_X1_passUntil l D cA tS A t 0 (wK cA h σ ++ (wLg cA h σ 600 ++ (wC cA h σ ++ (wH cA h σ ++ (wS h ++ (wX ax (h 46) sv (t 42) sc ++ F)))))) N (σ 32 (ix x4)) τ p7 h8) 1 (bwV bw_c tb_682 tb_683 tb_684 tb_101 tb_685) rfl (by decide +kernel) ⟨Nat.le_of_ble_eq_true rfl, Nat.le_of_ble_eq_true rfl⟩ 12 1 (T := TX1) (N := 6) rfl rfl rfl rfl (Nat.le_of_ble_eq_true rfl) ⟨Nat.zero_le _, Nat.zero_le _⟩ dX8_breachesInReplay_68 (fun H locs hw => ?_)
      refine lv_aload_n hx hb dX8_breachesInReplay_71 rfl (lv_at hl 2 rfl) ?_
      refine q_get (C := RX2) (T := TX2) (N := 7) (ci := 2) E (fun w h => List.mem_cons_of_mem _ (inX2 w h)) hw 64 rfl rfl 1 (by decide) (List.mem_cons_of_mem _ tb_348) (v := .ref (h 33)) rfl dX8_breachesInReplay_72 ?_
      refine lv_iload hx hb dX8_breachesInReplay_75 (lv_at hl 3 rfl) ?_
      refine q_ald E hw 66 (n := 200) rfl g6 (x := (σ 33 (ix x4))) rfl dX8_breachesInReplay_77 ?_
      refine lv_iconst (v := 2) hx hb dX8_breachesInReplay_78 (by decide) ?_
      refine lv_icmp_ne (tgt := 93) hx hb dX8_breachesInReplay_79 (by decide) (fun c9 => ?_) (fun c9 => ?_)
      · replace hM := i_neg hM c9
        refine lv_aload_n hx hb dX8_breachesInReplay_93 rfl (lv_at hl 0 rfl) ?_
        refine lv_iload hx hb dX8_breachesInReplay_94 (lv_at hl 3 rfl) ?_
        have hw : Wd D A (wK cA h σ ++ (wK cA t p7 ++ (wLg cA t p7 0 ++ (wC cA t p7 ++ (wLg cA h σ 600 ++ (wC cA h σ ++ (wH cA h σ ++ (wS h ++ (wX ax (h 46) sv (t 42) sc ++ F))))))))) s.heap _ _ := hw.perm (((List.Perm.append_left _ (((List.Perm.append_left _ (List.perm_append_comm_assoc _ _ _))).trans (List.perm_append_comm_assoc _ _ _)))).trans (List.perm_append_comm_assoc _ _ _))
        have hw : Wd D A (wK cA h σ ++ (wLg cA h σ 600 ++ (wK cA t p7 ++ (wLg cA t p7 0 ++ (wC cA t p7 ++ (wC cA h σ ++ (wH cA h σ ++ (wS h ++ (wX ax (h 46) sv (t 42) sc ++ F))))))))) s.heap _ _ := hw.perm (List.Perm.append_left _ (((List.Perm.append_left _ (((List.Perm.append_left _ (List.perm_append_comm_assoc _ _ _))).trans (List.perm_append_comm_assoc _ _ _)))).trans (List.perm_append_comm_assoc _ _ _)))
        have hw : Wd D A (wK cA h σ ++ (wLg cA h σ 600 ++ (wC cA h σ ++ (wK cA t p7 ++ (wLg cA t p7 0 ++ (wC cA t p7 ++ (wH cA h σ ++ (wS h ++ (wX ax (h 46) sv (t 42) sc ++ F))))))))) s.heap _ _ := hw.perm (List.Perm.append_left _ (List.Perm.append_left _ (((List.Perm.append_left _ (((List.Perm.append_left _ (List.perm_append_comm_assoc _ _ _))).trans (List.perm_append_comm_assoc _ _ _)))).trans (List.perm_append_comm_assoc _ _ _))))
        have hw : Wd D A (wK cA h σ ++ (wLg cA h σ 600 ++ (wC cA h σ ++ (wH cA h σ ++ (wK cA t p7 ++ (wLg cA t p7 0 ++ (wC cA t p7 ++ (wS h ++ (wX ax (h 46) sv (t 42) sc ++ F))))))))) s.heap _ _ := hw.perm (List.Perm.append_left _ (List.Perm.append_left _ (List.Perm.append_left _ (((List.Perm.append_left _ (((List.Perm.append_left _ (List.perm_append_comm_assoc _ _ _))).trans (List.perm_append_comm_assoc _ _ _)))).trans (List.perm_append_comm_assoc _ _ _)))))
        have hw : Wd D A (wK cA h σ ++ (wLg cA h σ 600 ++ (wC cA h σ ++ (wH cA h σ ++ (wS h ++ (wK cA t p7 ++ (wLg cA t p7 0 ++ (wC cA t p7 ++ (wX ax (h 46) sv (t 42) sc ++ F))))))))) s.heap _ _ := hw.perm (List.Perm.append_left _ (List.Perm.append_left _ (List.Perm.append_left _ (List.Perm.append_left _ (((List.Perm.append_left _ (((List.Perm.append_left _ (List.perm_append_comm_assoc _ _ _))).trans (List.perm_append_comm_assoc _ _ _)))).trans (List.perm_append_comm_assoc _ _ _))))))
        have hw : Wd D A (wK cA h σ ++ (wLg cA h σ 600 ++ (wC cA h σ ++ (wH cA h σ ++ (wS h ++ (wX ax (h 46) sv (t 42) sc ++ (wK cA t p7 ++ (wLg cA t p7 0 ++ (wC cA t p7 ++ F))))))))) s.heap _ _ := hw.perm (List.Perm.append_left _ (List.Perm.append_left _ (List.Perm.append_left _ (List.Perm.append_left _ (List.Perm.append_left _ (((List.Perm.append_left _ (((List.Perm.append_left _ (List.perm_append_comm_assoc _ _ _))).trans (List.perm_append_comm_assoc _ _ _)))).trans (List.perm_append_comm_assoc _ _ _)))))))
        obtain ⟨p10, h11, hM⟩ := b_some hM
        refine q_cvv (As := [.int x4]) (rest := []) E hw hl (c_X8_repeatOnTrial l D cA tS A h t ax sv sc F N x4 σ p7 p10 h11) 1 (bwV bw_c tb_938 tb_940 tb_34 tb_99 tb_941) rfl (by decide +kernel) ⟨Nat.le_of_ble_eq_true rfl, Nat.le_of_ble_eq_true rfl⟩ 40 8 (T := TX8) (N := 4) rfl rfl rfl rfl (Nat.le_of_ble_eq_true rfl) ⟨Nat.zero_le _, Nat.zero_le _⟩ dX8_breachesInReplay_96 (fun H locs hw => ?_)
        refine lv_iinc (v := (x4 + 1)) (lv' := [(4, .int (x4 + 1)), (0, .ref ax), (1, .int x1), (3, .ref (h 45))]) hx hb dX8_breachesInReplay_99 hl (k := 3) rfl rfl (by decide) rfl (fun ls hl => ?_)
        refine lv_goto (tgt := 48) hx hb dX8_breachesInReplay_102 (by decide) ?_
        exact ih _ _ _ _ _ _ hM _ _ hw _ (lv_sub hl [1, 2, 3, 0] rfl)
      · replace hM := i_pos hM c9
        refine lv_aload_n hx hb dX8_breachesInReplay_82 rfl (lv_at hl 2 rfl) ?_
        refine q_get (C := RX2) (T := TX2) (N := 7) (ci := 2) E (fun w h => List.mem_cons_of_mem _ (inX2 w h)) hw 64 rfl rfl 2 (by decide) (List.mem_cons_of_mem _ tb_350) (v := .ref (h 34)) rfl dX8_breachesInReplay_83 ?_
        refine lv_iload hx hb dX8_breachesInReplay_86 (lv_at hl 3 rfl) ?_
        refine q_ald E hw 67 (n := 200) rfl g6 (x := (σ 34 (ix x4))) rfl dX8_breachesInReplay_88 ?_
        refine lv_iload_n hx hb dX8_breachesInReplay_89 rfl (lv_at hl 1 rfl) ?_
        refine lv_icmp_eq (tgt := 99) hx hb dX8_breachesInReplay_90 (by decide) (fun c12 => ?_) (fun c12 => ?_)
        · replace hM := i_pos hM c12
          refine lv_iinc (v := (x4 + 1)) (lv' := [(4, .int (x4 + 1)), (0, .ref ax), (1, .int x1), (3, .ref (h 45))]) hx hb dX8_breachesInReplay_99 hl (k := 3) rfl rfl (by decide) rfl (fun ls hl => ?_)
          refine lv_goto (tgt := 48) hx hb dX8_breachesInReplay_102 (by decide) ?_
          have hw : Wd D A (wK cA h σ ++ (wK cA t p7 ++ (wLg cA t p7 0 ++ (wC cA t p7 ++ (wLg cA h σ 600 ++ (wC cA h σ ++ (wH cA h σ ++ (wS h ++ (wX ax (h 46) sv (t 42) sc ++ F))))))))) s.heap _ _ := hw.perm (((List.Perm.append_left _ (((List.Perm.append_left _ (List.perm_append_comm_assoc _ _ _))).trans (List.perm_append_comm_assoc _ _ _)))).trans (List.perm_append_comm_assoc _ _ _))
          have hw : Wd D A (wK cA h σ ++ (wLg cA h σ 600 ++ (wK cA t p7 ++ (wLg cA t p7 0 ++ (wC cA t p7 ++ (wC cA h σ ++ (wH cA h σ ++ (wS h ++ (wX ax (h 46) sv (t 42) sc ++ F))))))))) s.heap _ _ := hw.perm (List.Perm.append_left _ (((List.Perm.append_left _ (((List.Perm.append_left _ (List.perm_append_comm_assoc _ _ _))).trans (List.perm_append_comm_assoc _ _ _)))).trans (List.perm_append_comm_assoc _ _ _)))
          have hw : Wd D A (wK cA h σ ++ (wLg cA h σ 600 ++ (wC cA h σ ++ (wK cA t p7 ++ (wLg cA t p7 0 ++ (wC cA t p7 ++ (wH cA h σ ++ (wS h ++ (wX ax (h 46) sv (t 42) sc ++ F))))))))) s.heap _ _ := hw.perm (List.Perm.append_left _ (List.Perm.append_left _ (((List.Perm.append_left _ (((List.Perm.append_left _ (List.perm_append_comm_assoc _ _ _))).trans (List.perm_append_comm_assoc _ _ _)))).trans (List.perm_append_comm_assoc _ _ _))))
          have hw : Wd D A (wK cA h σ ++ (wLg cA h σ 600 ++ (wC cA h σ ++ (wH cA h σ ++ (wK cA t p7 ++ (wLg cA t p7 0 ++ (wC cA t p7 ++ (wS h ++ (wX ax (h 46) sv (t 42) sc ++ F))))))))) s.heap _ _ := hw.perm (List.Perm.append_left _ (List.Perm.append_left _ (List.Perm.append_left _ (((List.Perm.append_left _ (((List.Perm.append_left _ (List.perm_append_comm_assoc _ _ _))).trans (List.perm_append_comm_assoc _ _ _)))).trans (List.perm_append_comm_assoc _ _ _)))))
          have hw : Wd D A (wK cA h σ ++ (wLg cA h σ 600 ++ (wC cA h σ ++ (wH cA h σ ++ (wS h ++ (wK cA t p7 ++ (wLg cA t p7 0 ++ (wC cA t p7 ++ (wX ax (h 46) sv (t 42) sc ++ F))))))))) s.heap _ _ := hw.perm (List.Perm.append_left _ (List.Perm.append_left _ (List.Perm.append_left _ (List.Perm.append_left _ (((List.Perm.append_left _ (((List.Perm.append_left _ (List.perm_append_comm_assoc _ _ _))).trans (List.perm_append_comm_assoc _ _ _)))).trans (List.perm_append_comm_assoc _ _ _))))))
          have hw : Wd D A (wK cA h σ ++ (wLg cA h σ 600 ++ (wC cA h σ ++ (wH cA h σ ++ (wS h ++ (wX ax (h 46) sv (t 42) sc ++ (wK cA t p7 ++ (wLg cA t p7 0 ++ (wC cA t p7 ++ F))))))))) s.heap _ _ := hw.perm (List.Perm.append_left _ (List.Perm.append_left _ (List.Perm.append_left _ (List.Perm.append_left _ (List.Perm.append_left _ (((List.Perm.append_left _ (((List.Perm.append_left _ (List.perm_append_comm_assoc _ _ _))).trans (List.perm_append_comm_assoc _ _ _)))).trans (List.perm_append_comm_assoc _ _ _)))))))
          exact ih _ _ _ _ _ _ hM _ _ hw _ (lv_sub hl [1, 2, 3, 0] rfl)
        · replace hM := i_neg hM c12
          refine lv_aload_n hx hb dX8_breachesInReplay_93 rfl (lv_at hl 0 rfl) ?_
          refine lv_iload hx hb dX8_breachesInReplay_94 (lv_at hl 3 rfl) ?_
          have hw : Wd D A (wK cA h σ ++ (wK cA t p7 ++ (wLg cA t p7 0 ++ (wC cA t p7 ++ (wLg cA h σ 600 ++ (wC cA h σ ++ (wH cA h σ ++ (wS h ++ (wX ax (h 46) sv (t 42) sc ++ F))))))))) s.heap _ _ := hw.perm (((List.Perm.append_left _ (((List.Perm.append_left _ (List.perm_append_comm_assoc _ _ _))).trans (List.perm_append_comm_assoc _ _ _)))).trans (List.perm_append_comm_assoc _ _ _))
          have hw : Wd D A (wK cA h σ ++ (wLg cA h σ 600 ++ (wK cA t p7 ++ (wLg cA t p7 0 ++ (wC cA t p7 ++ (wC cA h σ ++ (wH cA h σ ++ (wS h ++ (wX ax (h 46) sv (t 42) sc ++ F))))))))) s.heap _ _ := hw.perm (List.Perm.append_left _ (((List.Perm.append_left _ (((List.Perm.append_left _ (List.perm_append_comm_assoc _ _ _))).trans (List.perm_append_comm_assoc _ _ _)))).trans (List.perm_append_comm_assoc _ _ _)))
          have hw : Wd D A (wK cA h σ ++ (wLg cA h σ 600 ++ (wC cA h σ ++ (wK cA t p7 ++ (wLg cA t p7 0 ++ (wC cA t p7 ++ (wH cA h σ ++ (wS h ++ (wX ax (h 46) sv (t 42) sc ++ F))))))))) s.heap _ _ := hw.perm (List.Perm.append_left _ (List.Perm.append_left _ (((List.Perm.append_left _ (((List.Perm.append_left _ (List.perm_append_comm_assoc _ _ _))).trans (List.perm_append_comm_assoc _ _ _)))).trans (List.perm_append_comm_assoc _ _ _))))
          have hw : Wd D A (wK cA h σ ++ (wLg cA h σ 600 ++ (wC cA h σ ++ (wH cA h σ ++ (wK cA t p7 ++ (wLg cA t p7 0 ++ (wC cA t p7 ++ (wS h ++ (wX ax (h 46) sv (t 42) sc ++ F))))))))) s.heap _ _ := hw.perm (List.Perm.append_left _ (List.Perm.append_left _ (List.Perm.append_left _ (((List.Perm.append_left _ (((List.Perm.append_left _ (List.perm_append_comm_assoc _ _ _))).trans (List.perm_append_comm_assoc _ _ _)))).trans (List.perm_append_comm_assoc _ _ _)))))
          have hw : Wd D A (wK cA h σ ++ (wLg cA h σ 600 ++ (wC cA h σ ++ (wH cA h σ ++ (wS h ++ (wK cA t p7 ++ (wLg cA t p7 0 ++ (wC cA t p7 ++ (wX ax (h 46) sv (t 42) sc ++ F))))))))) s.heap _ _ := hw.perm (List.Perm.append_left _ (List.Perm.append_left _ (List.Perm.append_left _ (List.Perm.append_left _ (((List.Perm.append_left _ (((List.Perm.append_left _ (List.perm_append_comm_assoc _ _ _))).trans (List.perm_append_comm_assoc _ _ _)))).trans (List.perm_append_comm_assoc _ _ _))))))
          have hw : Wd D A (wK cA h σ ++ (wLg cA h σ 600 ++ (wC cA h σ ++ (wH cA h σ ++ (wS h ++ (wX ax (h 46) sv (t 42) sc ++ (wK cA t p7 ++ (wLg cA t p7 0 ++ (wC cA t p7 ++ F))))))))) s.heap _ _ := hw.perm (List.Perm.append_left _ (List.Perm.append_left _ (List.Perm.append_left _ (List.Perm.append_left _ (List.Perm.append_left _ (((List.Perm.append_left _ (((List.Perm.append_left _ (List.perm_append_comm_assoc _ _ _))).trans (List.perm_append_comm_assoc _ _ _)))).trans (List.perm_append_comm_assoc _ _ _)))))))
          obtain ⟨p13, h14, hM⟩ := b_some hM
          refine q_cvv (As := [.int x4]) (rest := []) E hw hl (c_X8_repeatOnTrial l D cA tS A h t ax sv sc F N x4 σ p7 p13 h14) 1 (bwV bw_c tb_938 tb_940 tb_34 tb_99 tb_941) rfl (by decide +kernel) ⟨Nat.le_of_ble_eq_true rfl, Nat.le_of_ble_eq_true rfl⟩ 40 8 (T := TX8) (N := 4) rfl rfl rfl rfl (Nat.le_of_ble_eq_true rfl) ⟨Nat.zero_le _, Nat.zero_le _⟩ dX8_breachesInReplay_96 (fun H locs hw => ?_)
          refine lv_iinc (v := (x4 + 1)) (lv' := [(4, .int (x4 + 1)), (0, .ref ax), (1, .int x1), (3, .ref (h 45))]) hx hb dX8_breachesInReplay_99 hl (k := 3) rfl rfl (by decide) rfl (fun ls hl => ?_)
          refine lv_goto (tgt := 48) hx hb dX8_breachesInReplay_102 (by decide) ?_
          exact ih _ _ _ _ _ _ hM _ _ hw _ (lv_sub hl [1, 2, 3, 0] rfl)
set_option maxRecDepth 100000 in
set_option maxHeartbeats 4000000 in
theorem c_X8_breachesInReplay (l : Launch) (D : va_G) (cA : Nat → ClassId) (tS : Nat → Nat) (A : Nat → Prop) (h : Nat → Nat) (t : Nat → Nat) (ax : Nat) (sv : Nat) (sc : Nat) (F : va_W) (N : Nat) (x1 : Int32) (x2 : Int32) (σ : Sg) (τ : Sg) (r0 : Int32) (s0 : Sg) (hM : f_X8_breachesInReplay N x1 x2 σ τ = some (r0, s0)) : Ct l yX8_breachesInReplay (Cond.code yX8_breachesInReplay cX8_breachesInReplay 5 (some .int) :: bw) 5 122 D cA tS A [.ref ax, .int x1, .int x2] (wK cA h σ ++ (wLg cA h σ 600 ++ (wC cA h σ ++ (wH cA h σ ++ (wS h ++ (wX ax (h 46) sv (t 42) sc ++ (wK cA t τ ++ (wLg cA t τ 0 ++ (wC cA t τ ++ F))))))))) (some (.int r0)) (wK cA h σ ++ (wLg cA h σ 600 ++ (wC cA h σ ++ (wH cA h σ ++ (wS h ++ (wX ax (h 46) sv (t 42) sc ++ (wK cA t s0 ++ (wLg cA t s0 0 ++ (wC cA t s0 ++ F))))))))) := by
  refine ct_of (by decide +kernel) (Nat.le_of_ble_eq_true rfl) ?_
  intro p e s m below meth c E hw ls hl
  replace E : Ev p cX8_breachesInReplay 5 (some .int) RX8 (Cond.code yX8_breachesInReplay cX8_breachesInReplay 5 (some .int) :: bw) D cA tS A s m _ meth c := E
  replace hl : lv_has ls 5 [(0, .ref ax), (1, .int x1), (2, .int x2)] := hl
  have hx := E.1.1
  have hb := E.1.2.1
  unfold f_X8_breachesInReplay at hM
  refine lv_aload_n hx hb dX8_breachesInReplay_0 rfl (lv_at hl 0 rfl) ?_
  refine q_get (C := RX8) (T := TX8) (N := 4) (ci := 8) E (fun w h => List.mem_cons_of_mem _ (inX8 w h)) hw 40 rfl rfl 2 (by decide) (List.mem_cons_of_mem _ tb_444) (v := .ref (t 42)) rfl dX8_breachesInReplay_1 ?_
  have hw : Wd D A (wK cA t τ ++ (wK cA h σ ++ (wLg cA h σ 600 ++ (wC cA h σ ++ (wH cA h σ ++ (wS h ++ (wX ax (h 46) sv (t 42) sc ++ (wLg cA t τ 0 ++ (wC cA t τ ++ F))))))))) s.heap _ _ := hw.perm (((List.Perm.append_left _ (((List.Perm.append_left _ (((List.Perm.append_left _ (((List.Perm.append_left _ (((List.Perm.append_left _ (List.perm_append_comm_assoc _ _ _))).trans (List.perm_append_comm_assoc _ _ _)))).trans (List.perm_append_comm_assoc _ _ _)))).trans (List.perm_append_comm_assoc _ _ _)))).trans (List.perm_append_comm_assoc _ _ _)))).trans (List.perm_append_comm_assoc _ _ _))
  have hw : Wd D A (wK cA t τ ++ (wLg cA t τ 0 ++ (wK cA h σ ++ (wLg cA h σ 600 ++ (wC cA h σ ++ (wH cA h σ ++ (wS h ++ (wX ax (h 46) sv (t 42) sc ++ (wC cA t τ ++ F))))))))) s.heap _ _ := hw.perm (List.Perm.append_left _ (((List.Perm.append_left _ (((List.Perm.append_left _ (((List.Perm.append_left _ (((List.Perm.append_left _ (((List.Perm.append_left _ (List.perm_append_comm_assoc _ _ _))).trans (List.perm_append_comm_assoc _ _ _)))).trans (List.perm_append_comm_assoc _ _ _)))).trans (List.perm_append_comm_assoc _ _ _)))).trans (List.perm_append_comm_assoc _ _ _)))).trans (List.perm_append_comm_assoc _ _ _)))
  have hw : Wd D A (wK cA t τ ++ (wLg cA t τ 0 ++ (wC cA t τ ++ (wK cA h σ ++ (wLg cA h σ 600 ++ (wC cA h σ ++ (wH cA h σ ++ (wS h ++ (wX ax (h 46) sv (t 42) sc ++ F))))))))) s.heap _ _ := hw.perm (List.Perm.append_left _ (List.Perm.append_left _ (((List.Perm.append_left _ (((List.Perm.append_left _ (((List.Perm.append_left _ (((List.Perm.append_left _ (((List.Perm.append_left _ (List.perm_append_comm_assoc _ _ _))).trans (List.perm_append_comm_assoc _ _ _)))).trans (List.perm_append_comm_assoc _ _ _)))).trans (List.perm_append_comm_assoc _ _ _)))).trans (List.perm_append_comm_assoc _ _ _)))).trans (List.perm_append_comm_assoc _ _ _))))
  obtain ⟨p1, h2, hM⟩ := b_some hM
  refine q_cvv (As := []) (rest := []) E hw hl (c_X1_beginWeek l D cA tS A t 0 (wK cA h σ ++ (wLg cA h σ 600 ++ (wC cA h σ ++ (wH cA h σ ++ (wS h ++ (wX ax (h 46) sv (t 42) sc ++ F)))))) τ p1 h2) 0 (bwV bw_c tb_936 tb_297 tb_298 tb_101 tb_299) rfl (by decide +kernel) ⟨Nat.le_of_ble_eq_true rfl, Nat.le_of_ble_eq_true rfl⟩ 12 1 (T := TX1) (N := 6) rfl rfl rfl rfl (Nat.le_of_ble_eq_true rfl) ⟨Nat.zero_le _, Nat.zero_le _⟩ dX8_breachesInReplay_4 (fun H locs hw => ?_)
  refine lv_aload_n hx hb dX8_breachesInReplay_7 rfl (lv_at hl 0 rfl) ?_
  refine q_get (C := RX8) (T := TX8) (N := 4) (ci := 8) E (fun w h => List.mem_cons_of_mem _ (inX8 w h)) hw 72 rfl rfl 2 (by decide) (List.mem_cons_of_mem _ tb_444) (v := .ref (t 42)) rfl dX8_breachesInReplay_8 ?_
  refine q_get (C := RX1) (T := TX1) (N := 6) (ci := 1) E (fun w h => List.mem_cons_of_mem _ (inX1 w h)) hw 12 rfl rfl 1 (by decide) (List.mem_cons_of_mem _ tb_317) (v := .ref (t 40)) rfl dX8_breachesInReplay_11 ?_
  refine lv_aload_n hx hb dX8_breachesInReplay_14 rfl (lv_at hl 0 rfl) ?_
  refine q_get (C := RX8) (T := TX8) (N := 4) (ci := 8) E (fun w h => List.mem_cons_of_mem _ (inX8 w h)) hw 72 rfl rfl 0 (by decide) (List.mem_cons_of_mem _ tb_442) (v := .ref (h 46)) rfl dX8_breachesInReplay_15 ?_
  refine q_get (C := RX6) (T := TX6) (N := 2) (ci := 6) E (fun w h => List.mem_cons_of_mem _ (inX6 w h)) hw 71 rfl rfl 0 (by decide) (List.mem_cons_of_mem _ tb_375) (v := .ref (h 42)) rfl dX8_breachesInReplay_18 ?_
  refine q_get (C := RX1) (T := TX1) (N := 6) (ci := 1) E (fun w h => List.mem_cons_of_mem _ (inX1 w h)) hw 44 rfl rfl 1 (by decide) (List.mem_cons_of_mem _ tb_317) (v := .ref (h 40)) rfl dX8_breachesInReplay_21 ?_
  have hw : Wd D A (wK cA t p1 ++ (wK cA h σ ++ (wLg cA t p1 0 ++ (wC cA t p1 ++ (wLg cA h σ 600 ++ (wC cA h σ ++ (wH cA h σ ++ (wS h ++ (wX ax (h 46) sv (t 42) sc ++ F))))))))) s.heap _ _ := hw.perm (List.Perm.append_left _ (((List.Perm.append_left _ (List.perm_append_comm_assoc _ _ _))).trans (List.perm_append_comm_assoc _ _ _)))
  obtain ⟨p3, h4, hM⟩ := b_some hM
  refine q_cvv (As := [.ref (h 40)]) (rest := []) E hw hl (c_X3_copyFrom l D cA tS A t h (wLg cA t p1 0 ++ (wC cA t p1 ++ (wLg cA h σ 600 ++ (wC cA h σ ++ (wH cA h σ ++ (wS h ++ (wX ax (h 46) sv (t 42) sc ++ F))))))) N p1 σ p3 h4) 1 (bwV bw_c tb_937 tb_903 tb_904 tb_103 tb_905) rfl (by decide +kernel) ⟨Nat.le_of_ble_eq_true rfl, Nat.le_of_ble_eq_true rfl⟩ 0 3 (T := TX3) (N := 7) rfl rfl rfl rfl (Nat.le_of_ble_eq_true rfl) ⟨Nat.zero_le _, Nat.zero_le _⟩ dX8_breachesInReplay_24 (fun H locs hw => ?_)
  have hw : Wd D A (wK cA t (mixK p3 p1) ++ (wK cA h σ ++ (wLg cA t (mixK p3 p1) 0 ++ (wC cA t (mixK p3 p1) ++ (wLg cA h σ 600 ++ (wC cA h σ ++ (wH cA h σ ++ (wS h ++ (wX ax (h 46) sv (t 42) sc ++ F))))))))) s.heap _ _ := hw
  refine lv_aload_n hx hb dX8_breachesInReplay_27 rfl (lv_at hl 0 rfl) ?_
  refine q_get (C := RX8) (T := TX8) (N := 4) (ci := 8) E (fun w h => List.mem_cons_of_mem _ (inX8 w h)) hw 72 rfl rfl 2 (by decide) (List.mem_cons_of_mem _ tb_444) (v := .ref (t 42)) rfl dX8_breachesInReplay_28 ?_
  refine q_get (C := RX1) (T := TX1) (N := 6) (ci := 1) E (fun w h => List.mem_cons_of_mem _ (inX1 w h)) hw 19 rfl rfl 2 (by decide) (List.mem_cons_of_mem _ tb_319) (v := .ref (t 30)) rfl dX8_breachesInReplay_31 ?_
  refine lv_iload_n hx hb dX8_breachesInReplay_34 rfl (lv_at hl 1 rfl) ?_
  refine lv_iload_n hx hb dX8_breachesInReplay_35 rfl (lv_at hl 2 rfl) ?_
  obtain ⟨g5, hM⟩ := g_some hM
  refine q_ast E hw 38 (n := 4) rfl g5 (wK cA t (up (mixK p3 p1) 30 (ix x1) x2) ++ (wK cA h σ ++ (wLg cA t (up (mixK p3 p1) 30 (ix x1) x2) 0 ++ (wC cA t (up (mixK p3 p1) 30 (ix x1) x2) ++ (wLg cA h σ 600 ++ (wC cA h σ ++ (wH cA h σ ++ (wS h ++ (wX ax (h 46) sv (t 42) sc ++ F))))))))) st_KT_K_LgT_CT_Lg_C_H_S_X_30 dX8_breachesInReplay_36 (fun H locs hw => ?_)
  refine lv_aload_n hx hb dX8_breachesInReplay_37 rfl (lv_at hl 0 rfl) ?_
  refine q_get (C := RX8) (T := TX8) (N := 4) (ci := 8) E (fun w h => List.mem_cons_of_mem _ (inX8 w h)) hw 72 rfl rfl 0 (by decide) (List.mem_cons_of_mem _ tb_442) (v := .ref (h 46)) rfl dX8_breachesInReplay_38 ?_
  refine q_get (C := RX6) (T := TX6) (N := 2) (ci := 6) E (fun w h => List.mem_cons_of_mem _ (inX6 w h)) hw 71 rfl rfl 1 (by decide) (List.mem_cons_of_mem _ tb_377) (v := .ref (h 45)) rfl dX8_breachesInReplay_41 ?_
  refine lv_astore_n (lv' := [(3, .ref (h 45)), (0, .ref ax), (1, .int x1), (2, .int x2)]) hx hb dX8_breachesInReplay_44 rfl hl (by decide) rfl (fun ls hl => ?_)
  refine lv_iconst (v := 0) hx hb dX8_breachesInReplay_45 (by decide) ?_
  refine lv_istore (lv' := [(4, .int 0), (3, .ref (h 45)), (0, .ref ax), (1, .int x1), (2, .int x2)]) hx hb dX8_breachesInReplay_46 hl (by decide) rfl (fun ls hl => ?_)
  have hw : Wd D A (wK cA h σ ++ (wK cA t (up (mixK p3 p1) 30 (ix x1) x2) ++ (wLg cA t (up (mixK p3 p1) 30 (ix x1) x2) 0 ++ (wC cA t (up (mixK p3 p1) 30 (ix x1) x2) ++ (wLg cA h σ 600 ++ (wC cA h σ ++ (wH cA h σ ++ (wS h ++ (wX ax (h 46) sv (t 42) sc ++ F))))))))) s.heap _ _ := hw.perm (List.perm_append_comm_assoc _ _ _)
  have hw : Wd D A (wK cA h σ ++ (wLg cA h σ 600 ++ (wK cA t (up (mixK p3 p1) 30 (ix x1) x2) ++ (wLg cA t (up (mixK p3 p1) 30 (ix x1) x2) 0 ++ (wC cA t (up (mixK p3 p1) 30 (ix x1) x2) ++ (wC cA h σ ++ (wH cA h σ ++ (wS h ++ (wX ax (h 46) sv (t 42) sc ++ F))))))))) s.heap _ _ := hw.perm (List.Perm.append_left _ (((List.Perm.append_left _ (((List.Perm.append_left _ (List.perm_append_comm_assoc _ _ _))).trans (List.perm_append_comm_assoc _ _ _)))).trans (List.perm_append_comm_assoc _ _ _)))
  have hw : Wd D A (wK cA h σ ++ (wLg cA h σ 600 ++ (wC cA h σ ++ (wK cA t (up (mixK p3 p1) 30 (ix x1) x2) ++ (wLg cA t (up (mixK p3 p1) 30 (ix x1) x2) 0 ++ (wC cA t (up (mixK p3 p1) 30 (ix x1) x2) ++ (wH cA h σ ++ (wS h ++ (wX ax (h 46) sv (t 42) sc ++ F))))))))) s.heap _ _ := hw.perm (List.Perm.append_left _ (List.Perm.append_left _ (((List.Perm.append_left _ (((List.Perm.append_left _ (List.perm_append_comm_assoc _ _ _))).trans (List.perm_append_comm_assoc _ _ _)))).trans (List.perm_append_comm_assoc _ _ _))))
  have hw : Wd D A (wK cA h σ ++ (wLg cA h σ 600 ++ (wC cA h σ ++ (wH cA h σ ++ (wK cA t (up (mixK p3 p1) 30 (ix x1) x2) ++ (wLg cA t (up (mixK p3 p1) 30 (ix x1) x2) 0 ++ (wC cA t (up (mixK p3 p1) 30 (ix x1) x2) ++ (wS h ++ (wX ax (h 46) sv (t 42) sc ++ F))))))))) s.heap _ _ := hw.perm (List.Perm.append_left _ (List.Perm.append_left _ (List.Perm.append_left _ (((List.Perm.append_left _ (((List.Perm.append_left _ (List.perm_append_comm_assoc _ _ _))).trans (List.perm_append_comm_assoc _ _ _)))).trans (List.perm_append_comm_assoc _ _ _)))))
  have hw : Wd D A (wK cA h σ ++ (wLg cA h σ 600 ++ (wC cA h σ ++ (wH cA h σ ++ (wS h ++ (wK cA t (up (mixK p3 p1) 30 (ix x1) x2) ++ (wLg cA t (up (mixK p3 p1) 30 (ix x1) x2) 0 ++ (wC cA t (up (mixK p3 p1) 30 (ix x1) x2) ++ (wX ax (h 46) sv (t 42) sc ++ F))))))))) s.heap _ _ := hw.perm (List.Perm.append_left _ (List.Perm.append_left _ (List.Perm.append_left _ (List.Perm.append_left _ (((List.Perm.append_left _ (((List.Perm.append_left _ (List.perm_append_comm_assoc _ _ _))).trans (List.perm_append_comm_assoc _ _ _)))).trans (List.perm_append_comm_assoc _ _ _))))))
  have hw : Wd D A (wK cA h σ ++ (wLg cA h σ 600 ++ (wC cA h σ ++ (wH cA h σ ++ (wS h ++ (wX ax (h 46) sv (t 42) sc ++ (wK cA t (up (mixK p3 p1) 30 (ix x1) x2) ++ (wLg cA t (up (mixK p3 p1) 30 (ix x1) x2) 0 ++ (wC cA t (up (mixK p3 p1) 30 (ix x1) x2) ++ F))))))))) s.heap _ _ := hw.perm (List.Perm.append_left _ (List.Perm.append_left _ (List.Perm.append_left _ (List.Perm.append_left _ (List.Perm.append_left _ (((List.Perm.append_left _ (((List.Perm.append_left _ (List.perm_append_comm_assoc _ _ _))).trans (List.perm_append_comm_assoc _ _ _)))).trans (List.perm_append_comm_assoc _ _ _)))))))
  exact s_X8_breachesInReplay_48 l D cA tS A h t ax sv sc F N E N _ _ _ _ _ _ hM _ _ hw _ (lv_sub hl [2, 3, 1, 0] rfl)
set_option maxRecDepth 100000 in
set_option maxHeartbeats 4000000 in
theorem c_X8_breachesWith (l : Launch) (D : va_G) (cA : Nat → ClassId) (tS : Nat → Nat) (A : Nat → Prop) (h : Nat → Nat) (t : Nat → Nat) (ax : Nat) (sv : Nat) (sc : Nat) (F : va_W) (N : Nat) (x1 : Int32) (x2 : Int32) (σ : Sg) (τ : Sg) (r0 : Int32) (s0 : Sg) (hM : f_X8_breachesWith N x1 x2 σ τ = some (r0, s0)) : Ct l yX8_breachesWith (Cond.code yX8_breachesWith cX8_breachesWith 3 (some .int) :: bw) 6 146 D cA tS A [.ref ax, .int x1, .int x2] (wK cA h σ ++ (wLg cA h σ 600 ++ (wC cA h σ ++ (wH cA h σ ++ (wS h ++ (wX ax (h 46) sv (t 42) sc ++ (wK cA t τ ++ (wLg cA t τ 0 ++ (wC cA t τ ++ F))))))))) (some (.int r0)) (wK cA h σ ++ (wLg cA h σ 600 ++ (wC cA h σ ++ (wH cA h σ ++ (wS h ++ (wX ax (h 46) sv (t 42) sc ++ (wK cA t s0 ++ (wLg cA t s0 0 ++ (wC cA t s0 ++ F))))))))) := by
  refine ct_of (by decide +kernel) (Nat.le_of_ble_eq_true rfl) ?_
  intro p e s m below meth c E hw ls hl
  replace E : Ev p cX8_breachesWith 3 (some .int) RX8 (Cond.code yX8_breachesWith cX8_breachesWith 3 (some .int) :: bw) D cA tS A s m _ meth c := E
  replace hl : lv_has ls 3 [(0, .ref ax), (1, .int x1), (2, .int x2)] := hl
  have hx := E.1.1
  have hb := E.1.2.1
  unfold f_X8_breachesWith at hM
  refine lv_iload_n hx hb dX8_breachesWith_0 rfl (lv_at hl 1 rfl) ?_
  refine lv_iconst (v := 0) hx hb dX8_breachesWith_1 (by decide) ?_
  refine lv_iconst (v := 3) hx hb dX8_breachesWith_2 (by decide) ?_
  obtain ⟨p1, h2, hM⟩ := b_some hM
  refine q_cs (As := [.int x1, .int 0, .int 3]) (rest := []) E hw hl (c_X8_within l D cA tS A (wK cA h σ ++ (wLg cA h σ 600 ++ (wC cA h σ ++ (wH cA h σ ++ (wS h ++ (wX ax (h 46) sv (t 42) sc ++ (wK cA t τ ++ (wLg cA t τ 0 ++ (wC cA t τ ++ F))))))))) x1 0 3 p1 h2) 3 (bwS bw_c tb_592 tb_472 tb_99 tb_473) rfl (by decide +kernel) ⟨Nat.le_of_ble_eq_true rfl, Nat.le_of_ble_eq_true rfl⟩ rfl rfl (Nat.le_of_ble_eq_true rfl) ⟨Nat.zero_le _, Nat.zero_le _⟩ dX8_breachesWith_3 (fun H locs hw => ?_)
  refine lv_if_eq (tgt := 19) hx hb dX8_breachesWith_6 (by decide) (fun c3 => ?_) (fun c3 => ?_)
  · replace hM := i_pos hM c3
    refine lv_bipush (v := (-4)) hx hb dX8_breachesWith_19 (by decide) ?_
    cases hM
    exact q_reti E hw dX8_breachesWith_21
  · replace hM := i_neg hM c3
    refine lv_iload_n hx hb dX8_breachesWith_9 rfl (lv_at hl 2 rfl) ?_
    refine lv_iconst (v := 0) hx hb dX8_breachesWith_10 (by decide) ?_
    refine lv_bipush (v := 9) hx hb dX8_breachesWith_11 (by decide) ?_
    obtain ⟨p4, h5, hM⟩ := b_some hM
    refine q_cs (As := [.int x2, .int 0, .int 9]) (rest := []) E hw hl (c_X8_within l D cA tS A (wK cA h σ ++ (wLg cA h σ 600 ++ (wC cA h σ ++ (wH cA h σ ++ (wS h ++ (wX ax (h 46) sv (t 42) sc ++ (wK cA t τ ++ (wLg cA t τ 0 ++ (wC cA t τ ++ F))))))))) x2 0 9 p4 h5) 3 (bwS bw_c tb_592 tb_472 tb_99 tb_473) rfl (by decide +kernel) ⟨Nat.le_of_ble_eq_true rfl, Nat.le_of_ble_eq_true rfl⟩ rfl rfl (Nat.le_of_ble_eq_true rfl) ⟨Nat.zero_le _, Nat.zero_le _⟩ dX8_breachesWith_13 (fun H locs hw => ?_)
    refine lv_if_ne (tgt := 22) hx hb dX8_breachesWith_16 (by decide) (fun c6 => ?_) (fun c6 => ?_)
    · replace hM := i_neg hM c6
      refine lv_aload_n hx hb dX8_breachesWith_22 rfl (lv_at hl 0 rfl) ?_
      refine lv_iload_n hx hb dX8_breachesWith_23 rfl (lv_at hl 1 rfl) ?_
      refine lv_iload_n hx hb dX8_breachesWith_24 rfl (lv_at hl 2 rfl) ?_
      obtain ⟨p7, h8, hM⟩ := b_some hM
      refine q_cv (As := [.int x1, .int x2]) (rest := []) E hw hl (c_X8_breachesInReplay l D cA tS A h t ax sv sc F N x1 x2 σ τ p7.1 p7.2 h8) 2 (bwV bw_c tb_932 tb_934 tb_33 tb_99 tb_935) rfl (by decide +kernel) ⟨Nat.le_of_ble_eq_true rfl, Nat.le_of_ble_eq_true rfl⟩ 40 8 (T := TX8) (N := 4) rfl rfl rfl rfl (Nat.le_of_ble_eq_true rfl) ⟨Nat.zero_le _, Nat.zero_le _⟩ dX8_breachesWith_25 (fun H locs hw => ?_)
      cases hM
      exact q_reti E hw dX8_breachesWith_28
    · replace hM := i_pos hM c6
      refine lv_bipush (v := (-4)) hx hb dX8_breachesWith_19 (by decide) ?_
      cases hM
      exact q_reti E hw dX8_breachesWith_21
set_option maxRecDepth 100000 in
set_option maxHeartbeats 4000000 in
theorem s_X8_leastAgents_14 (l : Launch) (D : va_G) (cA : Nat → ClassId) (tS : Nat → Nat) (A : Nat → Prop) (h : Nat → Nat) (t : Nat → Nat) (ax : Nat) (sv : Nat) (sc : Nat) (F : va_W) (N : Nat) {p : Program} {e : Env} {s : State} {m : MethodId} {args : Array Value} {below : List Frame} {meth : Method} {c : Code} (E : Ev p cX8_leastAgents 3 (some .int) RX8 (Cond.code yX8_leastAgents cX8_leastAgents 3 (some .int) :: bw) D cA tS A s m args meth c) : ∀ (n : Nat) (x1 : Int32) (x2 : Int32) (σ : Sg) (τ : Sg) (r0 : Int32) (s0 : Sg) (hM : f_X8_leastAgents_14 N n x1 x2 σ τ = some (r0, s0)) (H : Heap) (locs : List Loc) (hw : Wd D A (wK cA h σ ++ (wLg cA h σ 600 ++ (wC cA h σ ++ (wH cA h σ ++ (wS h ++ (wX ax (h 46) sv (t 42) sc ++ (wK cA t τ ++ (wLg cA t τ 0 ++ (wC cA t τ ++ F))))))))) s.heap H locs) (ls : Array Slot) (hl : lv_has ls 3 [(0, .ref ax), (1, .int x1), (2, .int x2)]), W p l e ({ frames := 6, cells := 0, slots := 0, locals := 146 } : Room) s m args below meth c H locs 0 0 (MQ below (QW D A (some (.int r0)) (wK cA h σ ++ (wLg cA h σ 600 ++ (wC cA h σ ++ (wH cA h σ ++ (wS h ++ (wX ax (h 46) sv (t 42) sc ++ (wK cA t s0 ++ (wLg cA t s0 0 ++ (wC cA t s0 ++ F)))))))))) args s 0 0 A) (F0 m 14 ls []) := by
  have hx := E.1.1
  have hb := E.1.2.1
  intro n
  induction n with
  | zero =>
    intro x1 x2 σ τ r0 s0 hM
    cases hM
  | succ n ih =>
    intro x1 x2 σ τ r0 s0 hM H locs hw ls hl
    rw [f_X8_leastAgents_14] at hM
    refine lv_iload_n hx hb dX8_leastAgents_14 rfl (lv_at hl 2 rfl) ?_
    refine lv_bipush (v := 9) hx hb dX8_leastAgents_15 (by decide) ?_
    refine lv_icmp_gt (tgt := 37) hx hb dX8_leastAgents_17 (by decide) (fun c1 => ?_) (fun c1 => ?_)
    · replace hM := i_pos hM c1
      refine lv_iconst (v := (-1)) hx hb dX8_leastAgents_37 (by decide) ?_
      cases hM
      exact q_reti E hw dX8_leastAgents_38
    · replace hM := i_neg hM c1
      refine lv_aload_n hx hb dX8_leastAgents_20 rfl (lv_at hl 0 rfl) ?_
      refine lv_iload_n hx hb dX8_leastAgents_21 rfl (lv_at hl 1 rfl) ?_
      refine lv_iload_n hx hb dX8_leastAgents_22 rfl (lv_at hl 2 rfl) ?_
      obtain ⟨p2, h3, hM⟩ := b_some hM
      refine q_cv (As := [.int x1, .int x2]) (rest := []) E hw hl (c_X8_breachesInReplay l D cA tS A h t ax sv sc F N x1 x2 σ τ p2.1 p2.2 h3) 2 (bwV bw_c tb_932 tb_934 tb_33 tb_99 tb_935) rfl (by decide +kernel) ⟨Nat.le_of_ble_eq_true rfl, Nat.le_of_ble_eq_true rfl⟩ 40 8 (T := TX8) (N := 4) rfl rfl rfl rfl (Nat.le_of_ble_eq_true rfl) ⟨Nat.zero_le _, Nat.zero_le _⟩ dX8_leastAgents_23 (fun H locs hw => ?_)
      refine lv_if_ne (tgt := 31) hx hb dX8_leastAgents_26 (by decide) (fun c4 => ?_) (fun c4 => ?_)
      · replace hM := i_neg hM c4
        refine lv_iinc (v := (x2 + 1)) (lv' := [(2, .int (x2 + 1)), (0, .ref ax), (1, .int x1)]) hx hb dX8_leastAgents_31 hl (k := 2) rfl rfl (by decide) rfl (fun ls hl => ?_)
        refine lv_goto (tgt := 14) hx hb dX8_leastAgents_34 (by decide) ?_
        exact ih _ _ _ _ _ _ hM _ _ hw _ (lv_sub hl [1, 2, 0] rfl)
      · replace hM := i_pos hM c4
        refine lv_iload_n hx hb dX8_leastAgents_29 rfl (lv_at hl 2 rfl) ?_
        cases hM
        exact q_reti E hw dX8_leastAgents_30
set_option maxRecDepth 100000 in
set_option maxHeartbeats 4000000 in
theorem c_X8_leastAgents (l : Launch) (D : va_G) (cA : Nat → ClassId) (tS : Nat → Nat) (A : Nat → Prop) (h : Nat → Nat) (t : Nat → Nat) (ax : Nat) (sv : Nat) (sc : Nat) (F : va_W) (N : Nat) (x1 : Int32) (σ : Sg) (τ : Sg) (r0 : Int32) (s0 : Sg) (hM : f_X8_leastAgents N x1 σ τ = some (r0, s0)) : Ct l yX8_leastAgents (Cond.code yX8_leastAgents cX8_leastAgents 3 (some .int) :: bw) 6 146 D cA tS A [.ref ax, .int x1] (wK cA h σ ++ (wLg cA h σ 600 ++ (wC cA h σ ++ (wH cA h σ ++ (wS h ++ (wX ax (h 46) sv (t 42) sc ++ (wK cA t τ ++ (wLg cA t τ 0 ++ (wC cA t τ ++ F))))))))) (some (.int r0)) (wK cA h σ ++ (wLg cA h σ 600 ++ (wC cA h σ ++ (wH cA h σ ++ (wS h ++ (wX ax (h 46) sv (t 42) sc ++ (wK cA t s0 ++ (wLg cA t s0 0 ++ (wC cA t s0 ++ F))))))))) := by
  refine ct_of (by decide +kernel) (Nat.le_of_ble_eq_true rfl) ?_
  intro p e s m below meth c E hw ls hl
  replace E : Ev p cX8_leastAgents 3 (some .int) RX8 (Cond.code yX8_leastAgents cX8_leastAgents 3 (some .int) :: bw) D cA tS A s m _ meth c := E
  replace hl : lv_has ls 3 [(0, .ref ax), (1, .int x1)] := hl
  have hx := E.1.1
  have hb := E.1.2.1
  unfold f_X8_leastAgents at hM
  refine lv_iload_n hx hb dX8_leastAgents_0 rfl (lv_at hl 1 rfl) ?_
  refine lv_iconst (v := 0) hx hb dX8_leastAgents_1 (by decide) ?_
  refine lv_iconst (v := 3) hx hb dX8_leastAgents_2 (by decide) ?_
  obtain ⟨p1, h2, hM⟩ := b_some hM
  refine q_cs (As := [.int x1, .int 0, .int 3]) (rest := []) E hw hl (c_X8_within l D cA tS A (wK cA h σ ++ (wLg cA h σ 600 ++ (wC cA h σ ++ (wH cA h σ ++ (wS h ++ (wX ax (h 46) sv (t 42) sc ++ (wK cA t τ ++ (wLg cA t τ 0 ++ (wC cA t τ ++ F))))))))) x1 0 3 p1 h2) 3 (bwS bw_c tb_592 tb_472 tb_99 tb_473) rfl (by decide +kernel) ⟨Nat.le_of_ble_eq_true rfl, Nat.le_of_ble_eq_true rfl⟩ rfl rfl (Nat.le_of_ble_eq_true rfl) ⟨Nat.zero_le _, Nat.zero_le _⟩ dX8_leastAgents_3 (fun H locs hw => ?_)
  refine lv_if_ne (tgt := 12) hx hb dX8_leastAgents_6 (by decide) (fun c3 => ?_) (fun c3 => ?_)
  · replace hM := i_neg hM c3
    refine lv_iconst (v := 0) hx hb dX8_leastAgents_12 (by decide) ?_
    refine lv_istore_n (lv' := [(2, .int 0), (0, .ref ax), (1, .int x1)]) hx hb dX8_leastAgents_13 rfl hl (by decide) rfl (fun ls hl => ?_)
    exact s_X8_leastAgents_14 l D cA tS A h t ax sv sc F N E N _ _ _ _ _ _ hM _ _ hw _ (lv_sub hl [1, 2, 0] rfl)
  · replace hM := i_pos hM c3
    refine lv_bipush (v := (-4)) hx hb dX8_leastAgents_9 (by decide) ?_
    cases hM
    exact q_reti E hw dX8_leastAgents_11
set_option maxRecDepth 100000 in
set_option maxHeartbeats 4000000 in
theorem c_X8_historyLength (l : Launch) (D : va_G) (cA : Nat → ClassId) (tS : Nat → Nat) (A : Nat → Prop) (h : Nat → Nat) (ax : Nat) (sv : Nat) (tr : Nat) (sc : Nat) (F : va_W) (σ : Sg) (r0 : Int32) (hM : f_X8_historyLength σ = some r0) : Ct l yX8_historyLength (Cond.code yX8_historyLength cX8_historyLength 1 (some .int) :: bw) 0 0 D cA tS A [.ref ax] (wK cA h σ ++ (wLg cA h σ 600 ++ (wC cA h σ ++ (wH cA h σ ++ (wS h ++ (wX ax (h 46) sv tr sc ++ F)))))) (some (.int r0)) (wK cA h σ ++ (wLg cA h σ 600 ++ (wC cA h σ ++ (wH cA h σ ++ (wS h ++ (wX ax (h 46) sv tr sc ++ F)))))) := by
  refine ct_of (by decide +kernel) (Nat.le_of_ble_eq_true rfl) ?_
  intro p e s m below meth c E hw ls hl
  replace E : Ev p cX8_historyLength 1 (some .int) RX8 (Cond.code yX8_historyLength cX8_historyLength 1 (some .int) :: bw) D cA tS A s m _ meth c := E
  replace hl : lv_has ls 1 [(0, .ref ax)] := hl
  have hx := E.1.1
  have hb := E.1.2.1
  unfold f_X8_historyLength at hM
  refine lv_aload_n hx hb dX8_historyLength_0 rfl (lv_at hl 0 rfl) ?_
  refine q_get (C := RX8) (T := TX8) (N := 4) (ci := 8) E (fun w h => List.mem_cons_of_mem _ (inX8 w h)) hw 40 rfl rfl 0 (by decide) (List.mem_cons_of_mem _ tb_442) (v := .ref (h 46)) rfl dX8_historyLength_1 ?_
  refine q_get (C := RX6) (T := TX6) (N := 2) (ci := 6) E (fun w h => List.mem_cons_of_mem _ (inX6 w h)) hw 39 rfl rfl 1 (by decide) (List.mem_cons_of_mem _ tb_377) (v := .ref (h 45)) rfl dX8_historyLength_4 ?_
  refine q_get (C := RX2) (T := TX2) (N := 7) (ci := 2) E (fun w h => List.mem_cons_of_mem _ (inX2 w h)) hw 32 rfl rfl 6 (by decide) (List.mem_cons_of_mem _ tb_358) (v := .int (σ 31 0)) rfl dX8_historyLength_7 ?_
  cases hM
  exact q_reti E hw dX8_historyLength_10
set_option maxRecDepth 100000 in
set_option maxHeartbeats 4000000 in
theorem c_X8_logSize (l : Launch) (D : va_G) (cA : Nat → ClassId) (tS : Nat → Nat) (A : Nat → Prop) (h : Nat → Nat) (ax : Nat) (sv : Nat) (tr : Nat) (sc : Nat) (F : va_W) (σ : Sg) (r0 : Int32) (hM : f_X8_logSize σ = some r0) : Ct l yX8_logSize (Cond.code yX8_logSize cX8_logSize 1 (some .int) :: bw) 0 0 D cA tS A [.ref ax] (wK cA h σ ++ (wLg cA h σ 600 ++ (wC cA h σ ++ (wH cA h σ ++ (wS h ++ (wX ax (h 46) sv tr sc ++ F)))))) (some (.int r0)) (wK cA h σ ++ (wLg cA h σ 600 ++ (wC cA h σ ++ (wH cA h σ ++ (wS h ++ (wX ax (h 46) sv tr sc ++ F)))))) := by
  refine ct_of (by decide +kernel) (Nat.le_of_ble_eq_true rfl) ?_
  intro p e s m below meth c E hw ls hl
  replace E : Ev p cX8_logSize 1 (some .int) RX8 (Cond.code yX8_logSize cX8_logSize 1 (some .int) :: bw) D cA tS A s m _ meth c := E
  replace hl : lv_has ls 1 [(0, .ref ax)] := hl
  have hx := E.1.1
  have hb := E.1.2.1
  unfold f_X8_logSize at hM
  refine lv_aload_n hx hb dX8_logSize_0 rfl (lv_at hl 0 rfl) ?_
  refine q_get (C := RX8) (T := TX8) (N := 4) (ci := 8) E (fun w h => List.mem_cons_of_mem _ (inX8 w h)) hw 40 rfl rfl 0 (by decide) (List.mem_cons_of_mem _ tb_442) (v := .ref (h 46)) rfl dX8_logSize_1 ?_
  refine q_get (C := RX6) (T := TX6) (N := 2) (ci := 6) E (fun w h => List.mem_cons_of_mem _ (inX6 w h)) hw 39 rfl rfl 0 (by decide) (List.mem_cons_of_mem _ tb_375) (v := .ref (h 42)) rfl dX8_logSize_4 ?_
  refine q_get (C := RX1) (T := TX1) (N := 6) (ci := 1) E (fun w h => List.mem_cons_of_mem _ (inX1 w h)) hw 12 rfl rfl 4 (by decide) (List.mem_cons_of_mem _ tb_323) (v := .ref (h 41)) rfl dX8_logSize_7 ?_
  refine q_get (C := RX4) (T := TX4) (N := 5) (ci := 4) E (fun w h => List.mem_cons_of_mem _ (inX4 w h)) hw 7 rfl rfl 4 (by decide) (List.mem_cons_of_mem _ tb_284) (v := .int (σ 7 0)) rfl dX8_logSize_10 ?_
  cases hM
  exact q_reti E hw dX8_logSize_13
set_option maxRecDepth 100000 in
set_option maxHeartbeats 4000000 in
theorem c_X8_ofEvent_time (l : Launch) (D : va_G) (cA : Nat → ClassId) (tS : Nat → Nat) (A : Nat → Prop) (h : Nat → Nat) (ax : Nat) (sv : Nat) (tr : Nat) (sc : Nat) (F : va_W) (x2 : Int32) (σ : Sg) (r0 : Int32) (hM : f_X8_ofEvent_time x2 σ = some r0) : Ct l yX8_ofEvent (Cond.code yX8_ofEvent cX8_ofEvent 3 (some .int) :: bw) 1 22 D cA tS A [.ref ax, .ref (h 8), .int x2] (wK cA h σ ++ (wLg cA h σ 600 ++ (wC cA h σ ++ (wH cA h σ ++ (wS h ++ (wX ax (h 46) sv tr sc ++ F)))))) (some (.int r0)) (wK cA h σ ++ (wLg cA h σ 600 ++ (wC cA h σ ++ (wH cA h σ ++ (wS h ++ (wX ax (h 46) sv tr sc ++ F)))))) := by
  refine ct_of (by decide +kernel) (Nat.le_of_ble_eq_true rfl) ?_
  intro p e s m below meth c E hw ls hl
  replace E : Ev p cX8_ofEvent 3 (some .int) RX8 (Cond.code yX8_ofEvent cX8_ofEvent 3 (some .int) :: bw) D cA tS A s m _ meth c := E
  replace hl : lv_has ls 3 [(0, .ref ax), (1, .ref (h 8)), (2, .int x2)] := hl
  have hx := E.1.1
  have hb := E.1.2.1
  unfold f_X8_ofEvent_time at hM
  refine lv_iload_n hx hb dX8_ofEvent_0 rfl (lv_at hl 2 rfl) ?_
  refine lv_iconst (v := 0) hx hb dX8_ofEvent_1 (by decide) ?_
  refine lv_aload_n hx hb dX8_ofEvent_2 rfl (lv_at hl 0 rfl) ?_
  refine q_get (C := RX8) (T := TX8) (N := 4) (ci := 8) E (fun w h => List.mem_cons_of_mem _ (inX8 w h)) hw 40 rfl rfl 0 (by decide) (List.mem_cons_of_mem _ tb_442) (v := .ref (h 46)) rfl dX8_ofEvent_3 ?_
  refine q_get (C := RX6) (T := TX6) (N := 2) (ci := 6) E (fun w h => List.mem_cons_of_mem _ (inX6 w h)) hw 39 rfl rfl 0 (by decide) (List.mem_cons_of_mem _ tb_375) (v := .ref (h 42)) rfl dX8_ofEvent_6 ?_
  refine q_get (C := RX1) (T := TX1) (N := 6) (ci := 1) E (fun w h => List.mem_cons_of_mem _ (inX1 w h)) hw 12 rfl rfl 4 (by decide) (List.mem_cons_of_mem _ tb_323) (v := .ref (h 41)) rfl dX8_ofEvent_9 ?_
  refine q_get (C := RX4) (T := TX4) (N := 5) (ci := 4) E (fun w h => List.mem_cons_of_mem _ (inX4 w h)) hw 7 rfl rfl 4 (by decide) (List.mem_cons_of_mem _ tb_284) (v := .int (σ 7 0)) rfl dX8_ofEvent_12 ?_
  refine lv_iconst (v := 1) hx hb dX8_ofEvent_15 (by decide) ?_
  refine lv_isub hx hb dX8_ofEvent_16 ?_
  obtain ⟨p1, h2, hM⟩ := b_some hM
  refine q_cs (As := [.int x2, .int 0, .int ((σ 7 0) - 1)]) (rest := []) E hw hl (c_X8_within l D cA tS A (wK cA h σ ++ (wLg cA h σ 600 ++ (wC cA h σ ++ (wH cA h σ ++ (wS h ++ (wX ax (h 46) sv tr sc ++ F)))))) x2 0 ((σ 7 0) - 1) p1 h2) 3 (bwS bw_c tb_592 tb_472 tb_99 tb_473) rfl (by decide +kernel) ⟨Nat.le_of_ble_eq_true rfl, Nat.le_of_ble_eq_true rfl⟩ rfl rfl (Nat.le_of_ble_eq_true rfl) ⟨Nat.zero_le _, Nat.zero_le _⟩ dX8_ofEvent_17 (fun H locs hw => ?_)
  refine lv_if_eq (tgt := 29) hx hb dX8_ofEvent_20 (by decide) (fun c3 => ?_) (fun c3 => ?_)
  · replace hM := i_pos hM c3
    refine lv_bipush (v := (-4)) hx hb dX8_ofEvent_29 (by decide) ?_
    cases hM
    exact q_reti E hw dX8_ofEvent_31
  · replace hM := i_neg hM c3
    refine lv_aload_n hx hb dX8_ofEvent_23 rfl (lv_at hl 1 rfl) ?_
    refine lv_iload_n hx hb dX8_ofEvent_24 rfl (lv_at hl 2 rfl) ?_
    obtain ⟨g4, hM⟩ := g_some hM
    refine q_ald E hw 8 (n := 600) rfl g4 (x := (σ 8 (ix x2))) rfl dX8_ofEvent_25 ?_
    refine lv_goto (tgt := 31) hx hb dX8_ofEvent_26 (by decide) ?_
    cases hM
    exact q_reti E hw dX8_ofEvent_31
set_option maxRecDepth 100000 in
set_option maxHeartbeats 4000000 in
theorem c_X8_logTime (l : Launch) (D : va_G) (cA : Nat → ClassId) (tS : Nat → Nat) (A : Nat → Prop) (h : Nat → Nat) (ax : Nat) (sv : Nat) (tr : Nat) (sc : Nat) (F : va_W) (x1 : Int32) (σ : Sg) (r0 : Int32) (hM : f_X8_logTime x1 σ = some r0) : Ct l yX8_logTime (Cond.code yX8_logTime cX8_logTime 2 (some .int) :: bw) 2 44 D cA tS A [.ref ax, .int x1] (wK cA h σ ++ (wLg cA h σ 600 ++ (wC cA h σ ++ (wH cA h σ ++ (wS h ++ (wX ax (h 46) sv tr sc ++ F)))))) (some (.int r0)) (wK cA h σ ++ (wLg cA h σ 600 ++ (wC cA h σ ++ (wH cA h σ ++ (wS h ++ (wX ax (h 46) sv tr sc ++ F)))))) := by
  refine ct_of (by decide +kernel) (Nat.le_of_ble_eq_true rfl) ?_
  intro p e s m below meth c E hw ls hl
  replace E : Ev p cX8_logTime 2 (some .int) RX8 (Cond.code yX8_logTime cX8_logTime 2 (some .int) :: bw) D cA tS A s m _ meth c := E
  replace hl : lv_has ls 2 [(0, .ref ax), (1, .int x1)] := hl
  have hx := E.1.1
  have hb := E.1.2.1
  unfold f_X8_logTime at hM
  refine lv_aload_n hx hb dX8_logTime_0 rfl (lv_at hl 0 rfl) ?_
  refine lv_aload_n hx hb dX8_logTime_1 rfl (lv_at hl 0 rfl) ?_
  refine q_get (C := RX8) (T := TX8) (N := 4) (ci := 8) E (fun w h => List.mem_cons_of_mem _ (inX8 w h)) hw 40 rfl rfl 0 (by decide) (List.mem_cons_of_mem _ tb_442) (v := .ref (h 46)) rfl dX8_logTime_2 ?_
  refine q_get (C := RX6) (T := TX6) (N := 2) (ci := 6) E (fun w h => List.mem_cons_of_mem _ (inX6 w h)) hw 39 rfl rfl 0 (by decide) (List.mem_cons_of_mem _ tb_375) (v := .ref (h 42)) rfl dX8_logTime_5 ?_
  refine q_get (C := RX1) (T := TX1) (N := 6) (ci := 1) E (fun w h => List.mem_cons_of_mem _ (inX1 w h)) hw 12 rfl rfl 4 (by decide) (List.mem_cons_of_mem _ tb_323) (v := .ref (h 41)) rfl dX8_logTime_8 ?_
  refine q_get (C := RX4) (T := TX4) (N := 5) (ci := 4) E (fun w h => List.mem_cons_of_mem _ (inX4 w h)) hw 7 rfl rfl 0 (by decide) (List.mem_cons_of_mem _ tb_276) (v := .ref (h 8)) rfl dX8_logTime_11 ?_
  refine lv_iload_n hx hb dX8_logTime_14 rfl (lv_at hl 1 rfl) ?_
  obtain ⟨p1, h2, hM⟩ := b_some hM
  refine q_cv (As := [.ref (h 8), .int x1]) (rest := []) E hw hl (c_X8_ofEvent_time l D cA tS A h ax sv tr sc F x1 σ p1 h2) 2 (bwV bw_c tb_958 tb_960 tb_35 tb_99 tb_961) rfl (by decide +kernel) ⟨Nat.le_of_ble_eq_true rfl, Nat.le_of_ble_eq_true rfl⟩ 40 8 (T := TX8) (N := 4) rfl rfl rfl rfl (Nat.le_of_ble_eq_true rfl) ⟨Nat.zero_le _, Nat.zero_le _⟩ dX8_logTime_15 (fun H locs hw => ?_)
  cases hM
  exact q_reti E hw dX8_logTime_18
set_option maxRecDepth 100000 in
set_option maxHeartbeats 4000000 in
theorem c_X8_ofEvent_type (l : Launch) (D : va_G) (cA : Nat → ClassId) (tS : Nat → Nat) (A : Nat → Prop) (h : Nat → Nat) (ax : Nat) (sv : Nat) (tr : Nat) (sc : Nat) (F : va_W) (x2 : Int32) (σ : Sg) (r0 : Int32) (hM : f_X8_ofEvent_type x2 σ = some r0) : Ct l yX8_ofEvent (Cond.code yX8_ofEvent cX8_ofEvent 3 (some .int) :: bw) 1 22 D cA tS A [.ref ax, .ref (h 9), .int x2] (wK cA h σ ++ (wLg cA h σ 600 ++ (wC cA h σ ++ (wH cA h σ ++ (wS h ++ (wX ax (h 46) sv tr sc ++ F)))))) (some (.int r0)) (wK cA h σ ++ (wLg cA h σ 600 ++ (wC cA h σ ++ (wH cA h σ ++ (wS h ++ (wX ax (h 46) sv tr sc ++ F)))))) := by
  refine ct_of (by decide +kernel) (Nat.le_of_ble_eq_true rfl) ?_
  intro p e s m below meth c E hw ls hl
  replace E : Ev p cX8_ofEvent 3 (some .int) RX8 (Cond.code yX8_ofEvent cX8_ofEvent 3 (some .int) :: bw) D cA tS A s m _ meth c := E
  replace hl : lv_has ls 3 [(0, .ref ax), (1, .ref (h 9)), (2, .int x2)] := hl
  have hx := E.1.1
  have hb := E.1.2.1
  unfold f_X8_ofEvent_type at hM
  refine lv_iload_n hx hb dX8_ofEvent_0 rfl (lv_at hl 2 rfl) ?_
  refine lv_iconst (v := 0) hx hb dX8_ofEvent_1 (by decide) ?_
  refine lv_aload_n hx hb dX8_ofEvent_2 rfl (lv_at hl 0 rfl) ?_
  refine q_get (C := RX8) (T := TX8) (N := 4) (ci := 8) E (fun w h => List.mem_cons_of_mem _ (inX8 w h)) hw 40 rfl rfl 0 (by decide) (List.mem_cons_of_mem _ tb_442) (v := .ref (h 46)) rfl dX8_ofEvent_3 ?_
  refine q_get (C := RX6) (T := TX6) (N := 2) (ci := 6) E (fun w h => List.mem_cons_of_mem _ (inX6 w h)) hw 39 rfl rfl 0 (by decide) (List.mem_cons_of_mem _ tb_375) (v := .ref (h 42)) rfl dX8_ofEvent_6 ?_
  refine q_get (C := RX1) (T := TX1) (N := 6) (ci := 1) E (fun w h => List.mem_cons_of_mem _ (inX1 w h)) hw 12 rfl rfl 4 (by decide) (List.mem_cons_of_mem _ tb_323) (v := .ref (h 41)) rfl dX8_ofEvent_9 ?_
  refine q_get (C := RX4) (T := TX4) (N := 5) (ci := 4) E (fun w h => List.mem_cons_of_mem _ (inX4 w h)) hw 7 rfl rfl 4 (by decide) (List.mem_cons_of_mem _ tb_284) (v := .int (σ 7 0)) rfl dX8_ofEvent_12 ?_
  refine lv_iconst (v := 1) hx hb dX8_ofEvent_15 (by decide) ?_
  refine lv_isub hx hb dX8_ofEvent_16 ?_
  obtain ⟨p1, h2, hM⟩ := b_some hM
  refine q_cs (As := [.int x2, .int 0, .int ((σ 7 0) - 1)]) (rest := []) E hw hl (c_X8_within l D cA tS A (wK cA h σ ++ (wLg cA h σ 600 ++ (wC cA h σ ++ (wH cA h σ ++ (wS h ++ (wX ax (h 46) sv tr sc ++ F)))))) x2 0 ((σ 7 0) - 1) p1 h2) 3 (bwS bw_c tb_592 tb_472 tb_99 tb_473) rfl (by decide +kernel) ⟨Nat.le_of_ble_eq_true rfl, Nat.le_of_ble_eq_true rfl⟩ rfl rfl (Nat.le_of_ble_eq_true rfl) ⟨Nat.zero_le _, Nat.zero_le _⟩ dX8_ofEvent_17 (fun H locs hw => ?_)
  refine lv_if_eq (tgt := 29) hx hb dX8_ofEvent_20 (by decide) (fun c3 => ?_) (fun c3 => ?_)
  · replace hM := i_pos hM c3
    refine lv_bipush (v := (-4)) hx hb dX8_ofEvent_29 (by decide) ?_
    cases hM
    exact q_reti E hw dX8_ofEvent_31
  · replace hM := i_neg hM c3
    refine lv_aload_n hx hb dX8_ofEvent_23 rfl (lv_at hl 1 rfl) ?_
    refine lv_iload_n hx hb dX8_ofEvent_24 rfl (lv_at hl 2 rfl) ?_
    obtain ⟨g4, hM⟩ := g_some hM
    refine q_ald E hw 9 (n := 600) rfl g4 (x := (σ 9 (ix x2))) rfl dX8_ofEvent_25 ?_
    refine lv_goto (tgt := 31) hx hb dX8_ofEvent_26 (by decide) ?_
    cases hM
    exact q_reti E hw dX8_ofEvent_31
set_option maxRecDepth 100000 in
set_option maxHeartbeats 4000000 in
theorem c_X8_logType (l : Launch) (D : va_G) (cA : Nat → ClassId) (tS : Nat → Nat) (A : Nat → Prop) (h : Nat → Nat) (ax : Nat) (sv : Nat) (tr : Nat) (sc : Nat) (F : va_W) (x1 : Int32) (σ : Sg) (r0 : Int32) (hM : f_X8_logType x1 σ = some r0) : Ct l yX8_logType (Cond.code yX8_logType cX8_logType 2 (some .int) :: bw) 2 44 D cA tS A [.ref ax, .int x1] (wK cA h σ ++ (wLg cA h σ 600 ++ (wC cA h σ ++ (wH cA h σ ++ (wS h ++ (wX ax (h 46) sv tr sc ++ F)))))) (some (.int r0)) (wK cA h σ ++ (wLg cA h σ 600 ++ (wC cA h σ ++ (wH cA h σ ++ (wS h ++ (wX ax (h 46) sv tr sc ++ F)))))) := by
  refine ct_of (by decide +kernel) (Nat.le_of_ble_eq_true rfl) ?_
  intro p e s m below meth c E hw ls hl
  replace E : Ev p cX8_logType 2 (some .int) RX8 (Cond.code yX8_logType cX8_logType 2 (some .int) :: bw) D cA tS A s m _ meth c := E
  replace hl : lv_has ls 2 [(0, .ref ax), (1, .int x1)] := hl
  have hx := E.1.1
  have hb := E.1.2.1
  unfold f_X8_logType at hM
  refine lv_aload_n hx hb dX8_logType_0 rfl (lv_at hl 0 rfl) ?_
  refine lv_aload_n hx hb dX8_logType_1 rfl (lv_at hl 0 rfl) ?_
  refine q_get (C := RX8) (T := TX8) (N := 4) (ci := 8) E (fun w h => List.mem_cons_of_mem _ (inX8 w h)) hw 40 rfl rfl 0 (by decide) (List.mem_cons_of_mem _ tb_442) (v := .ref (h 46)) rfl dX8_logType_2 ?_
  refine q_get (C := RX6) (T := TX6) (N := 2) (ci := 6) E (fun w h => List.mem_cons_of_mem _ (inX6 w h)) hw 39 rfl rfl 0 (by decide) (List.mem_cons_of_mem _ tb_375) (v := .ref (h 42)) rfl dX8_logType_5 ?_
  refine q_get (C := RX1) (T := TX1) (N := 6) (ci := 1) E (fun w h => List.mem_cons_of_mem _ (inX1 w h)) hw 12 rfl rfl 4 (by decide) (List.mem_cons_of_mem _ tb_323) (v := .ref (h 41)) rfl dX8_logType_8 ?_
  refine q_get (C := RX4) (T := TX4) (N := 5) (ci := 4) E (fun w h => List.mem_cons_of_mem _ (inX4 w h)) hw 7 rfl rfl 1 (by decide) (List.mem_cons_of_mem _ tb_278) (v := .ref (h 9)) rfl dX8_logType_11 ?_
  refine lv_iload_n hx hb dX8_logType_14 rfl (lv_at hl 1 rfl) ?_
  obtain ⟨p1, h2, hM⟩ := b_some hM
  refine q_cv (As := [.ref (h 9), .int x1]) (rest := []) E hw hl (c_X8_ofEvent_type l D cA tS A h ax sv tr sc F x1 σ p1 h2) 2 (bwV bw_c tb_958 tb_960 tb_35 tb_99 tb_961) rfl (by decide +kernel) ⟨Nat.le_of_ble_eq_true rfl, Nat.le_of_ble_eq_true rfl⟩ 40 8 (T := TX8) (N := 4) rfl rfl rfl rfl (Nat.le_of_ble_eq_true rfl) ⟨Nat.zero_le _, Nat.zero_le _⟩ dX8_logType_15 (fun H locs hw => ?_)
  cases hM
  exact q_reti E hw dX8_logType_18
set_option maxRecDepth 100000 in
set_option maxHeartbeats 4000000 in
theorem c_X8_ofEvent_ticket (l : Launch) (D : va_G) (cA : Nat → ClassId) (tS : Nat → Nat) (A : Nat → Prop) (h : Nat → Nat) (ax : Nat) (sv : Nat) (tr : Nat) (sc : Nat) (F : va_W) (x2 : Int32) (σ : Sg) (r0 : Int32) (hM : f_X8_ofEvent_ticket x2 σ = some r0) : Ct l yX8_ofEvent (Cond.code yX8_ofEvent cX8_ofEvent 3 (some .int) :: bw) 1 22 D cA tS A [.ref ax, .ref (h 10), .int x2] (wK cA h σ ++ (wLg cA h σ 600 ++ (wC cA h σ ++ (wH cA h σ ++ (wS h ++ (wX ax (h 46) sv tr sc ++ F)))))) (some (.int r0)) (wK cA h σ ++ (wLg cA h σ 600 ++ (wC cA h σ ++ (wH cA h σ ++ (wS h ++ (wX ax (h 46) sv tr sc ++ F)))))) := by
  refine ct_of (by decide +kernel) (Nat.le_of_ble_eq_true rfl) ?_
  intro p e s m below meth c E hw ls hl
  replace E : Ev p cX8_ofEvent 3 (some .int) RX8 (Cond.code yX8_ofEvent cX8_ofEvent 3 (some .int) :: bw) D cA tS A s m _ meth c := E
  replace hl : lv_has ls 3 [(0, .ref ax), (1, .ref (h 10)), (2, .int x2)] := hl
  have hx := E.1.1
  have hb := E.1.2.1
  unfold f_X8_ofEvent_ticket at hM
  refine lv_iload_n hx hb dX8_ofEvent_0 rfl (lv_at hl 2 rfl) ?_
  refine lv_iconst (v := 0) hx hb dX8_ofEvent_1 (by decide) ?_
  refine lv_aload_n hx hb dX8_ofEvent_2 rfl (lv_at hl 0 rfl) ?_
  refine q_get (C := RX8) (T := TX8) (N := 4) (ci := 8) E (fun w h => List.mem_cons_of_mem _ (inX8 w h)) hw 40 rfl rfl 0 (by decide) (List.mem_cons_of_mem _ tb_442) (v := .ref (h 46)) rfl dX8_ofEvent_3 ?_
  refine q_get (C := RX6) (T := TX6) (N := 2) (ci := 6) E (fun w h => List.mem_cons_of_mem _ (inX6 w h)) hw 39 rfl rfl 0 (by decide) (List.mem_cons_of_mem _ tb_375) (v := .ref (h 42)) rfl dX8_ofEvent_6 ?_
  refine q_get (C := RX1) (T := TX1) (N := 6) (ci := 1) E (fun w h => List.mem_cons_of_mem _ (inX1 w h)) hw 12 rfl rfl 4 (by decide) (List.mem_cons_of_mem _ tb_323) (v := .ref (h 41)) rfl dX8_ofEvent_9 ?_
  refine q_get (C := RX4) (T := TX4) (N := 5) (ci := 4) E (fun w h => List.mem_cons_of_mem _ (inX4 w h)) hw 7 rfl rfl 4 (by decide) (List.mem_cons_of_mem _ tb_284) (v := .int (σ 7 0)) rfl dX8_ofEvent_12 ?_
  refine lv_iconst (v := 1) hx hb dX8_ofEvent_15 (by decide) ?_
  refine lv_isub hx hb dX8_ofEvent_16 ?_
  obtain ⟨p1, h2, hM⟩ := b_some hM
  refine q_cs (As := [.int x2, .int 0, .int ((σ 7 0) - 1)]) (rest := []) E hw hl (c_X8_within l D cA tS A (wK cA h σ ++ (wLg cA h σ 600 ++ (wC cA h σ ++ (wH cA h σ ++ (wS h ++ (wX ax (h 46) sv tr sc ++ F)))))) x2 0 ((σ 7 0) - 1) p1 h2) 3 (bwS bw_c tb_592 tb_472 tb_99 tb_473) rfl (by decide +kernel) ⟨Nat.le_of_ble_eq_true rfl, Nat.le_of_ble_eq_true rfl⟩ rfl rfl (Nat.le_of_ble_eq_true rfl) ⟨Nat.zero_le _, Nat.zero_le _⟩ dX8_ofEvent_17 (fun H locs hw => ?_)
  refine lv_if_eq (tgt := 29) hx hb dX8_ofEvent_20 (by decide) (fun c3 => ?_) (fun c3 => ?_)
  · replace hM := i_pos hM c3
    refine lv_bipush (v := (-4)) hx hb dX8_ofEvent_29 (by decide) ?_
    cases hM
    exact q_reti E hw dX8_ofEvent_31
  · replace hM := i_neg hM c3
    refine lv_aload_n hx hb dX8_ofEvent_23 rfl (lv_at hl 1 rfl) ?_
    refine lv_iload_n hx hb dX8_ofEvent_24 rfl (lv_at hl 2 rfl) ?_
    obtain ⟨g4, hM⟩ := g_some hM
    refine q_ald E hw 10 (n := 600) rfl g4 (x := (σ 10 (ix x2))) rfl dX8_ofEvent_25 ?_
    refine lv_goto (tgt := 31) hx hb dX8_ofEvent_26 (by decide) ?_
    cases hM
    exact q_reti E hw dX8_ofEvent_31
set_option maxRecDepth 100000 in
set_option maxHeartbeats 4000000 in
theorem c_X8_logTicket (l : Launch) (D : va_G) (cA : Nat → ClassId) (tS : Nat → Nat) (A : Nat → Prop) (h : Nat → Nat) (ax : Nat) (sv : Nat) (tr : Nat) (sc : Nat) (F : va_W) (x1 : Int32) (σ : Sg) (r0 : Int32) (hM : f_X8_logTicket x1 σ = some r0) : Ct l yX8_logTicket (Cond.code yX8_logTicket cX8_logTicket 2 (some .int) :: bw) 2 44 D cA tS A [.ref ax, .int x1] (wK cA h σ ++ (wLg cA h σ 600 ++ (wC cA h σ ++ (wH cA h σ ++ (wS h ++ (wX ax (h 46) sv tr sc ++ F)))))) (some (.int r0)) (wK cA h σ ++ (wLg cA h σ 600 ++ (wC cA h σ ++ (wH cA h σ ++ (wS h ++ (wX ax (h 46) sv tr sc ++ F)))))) := by
  refine ct_of (by decide +kernel) (Nat.le_of_ble_eq_true rfl) ?_
  intro p e s m below meth c E hw ls hl
  replace E : Ev p cX8_logTicket 2 (some .int) RX8 (Cond.code yX8_logTicket cX8_logTicket 2 (some .int) :: bw) D cA tS A s m _ meth c := E
  replace hl : lv_has ls 2 [(0, .ref ax), (1, .int x1)] := hl
  have hx := E.1.1
  have hb := E.1.2.1
  unfold f_X8_logTicket at hM
  refine lv_aload_n hx hb dX8_logTicket_0 rfl (lv_at hl 0 rfl) ?_
  refine lv_aload_n hx hb dX8_logTicket_1 rfl (lv_at hl 0 rfl) ?_
  refine q_get (C := RX8) (T := TX8) (N := 4) (ci := 8) E (fun w h => List.mem_cons_of_mem _ (inX8 w h)) hw 40 rfl rfl 0 (by decide) (List.mem_cons_of_mem _ tb_442) (v := .ref (h 46)) rfl dX8_logTicket_2 ?_
  refine q_get (C := RX6) (T := TX6) (N := 2) (ci := 6) E (fun w h => List.mem_cons_of_mem _ (inX6 w h)) hw 39 rfl rfl 0 (by decide) (List.mem_cons_of_mem _ tb_375) (v := .ref (h 42)) rfl dX8_logTicket_5 ?_
  refine q_get (C := RX1) (T := TX1) (N := 6) (ci := 1) E (fun w h => List.mem_cons_of_mem _ (inX1 w h)) hw 12 rfl rfl 4 (by decide) (List.mem_cons_of_mem _ tb_323) (v := .ref (h 41)) rfl dX8_logTicket_8 ?_
  refine q_get (C := RX4) (T := TX4) (N := 5) (ci := 4) E (fun w h => List.mem_cons_of_mem _ (inX4 w h)) hw 7 rfl rfl 2 (by decide) (List.mem_cons_of_mem _ tb_280) (v := .ref (h 10)) rfl dX8_logTicket_11 ?_
  refine lv_iload_n hx hb dX8_logTicket_14 rfl (lv_at hl 1 rfl) ?_
  obtain ⟨p1, h2, hM⟩ := b_some hM
  refine q_cv (As := [.ref (h 10), .int x1]) (rest := []) E hw hl (c_X8_ofEvent_ticket l D cA tS A h ax sv tr sc F x1 σ p1 h2) 2 (bwV bw_c tb_958 tb_960 tb_35 tb_99 tb_961) rfl (by decide +kernel) ⟨Nat.le_of_ble_eq_true rfl, Nat.le_of_ble_eq_true rfl⟩ 40 8 (T := TX8) (N := 4) rfl rfl rfl rfl (Nat.le_of_ble_eq_true rfl) ⟨Nat.zero_le _, Nat.zero_le _⟩ dX8_logTicket_15 (fun H locs hw => ?_)
  cases hM
  exact q_reti E hw dX8_logTicket_18
set_option maxRecDepth 100000 in
set_option maxHeartbeats 4000000 in
theorem c_X8_ofEvent_detail (l : Launch) (D : va_G) (cA : Nat → ClassId) (tS : Nat → Nat) (A : Nat → Prop) (h : Nat → Nat) (ax : Nat) (sv : Nat) (tr : Nat) (sc : Nat) (F : va_W) (x2 : Int32) (σ : Sg) (r0 : Int32) (hM : f_X8_ofEvent_detail x2 σ = some r0) : Ct l yX8_ofEvent (Cond.code yX8_ofEvent cX8_ofEvent 3 (some .int) :: bw) 1 22 D cA tS A [.ref ax, .ref (h 11), .int x2] (wK cA h σ ++ (wLg cA h σ 600 ++ (wC cA h σ ++ (wH cA h σ ++ (wS h ++ (wX ax (h 46) sv tr sc ++ F)))))) (some (.int r0)) (wK cA h σ ++ (wLg cA h σ 600 ++ (wC cA h σ ++ (wH cA h σ ++ (wS h ++ (wX ax (h 46) sv tr sc ++ F)))))) := by
  refine ct_of (by decide +kernel) (Nat.le_of_ble_eq_true rfl) ?_
  intro p e s m below meth c E hw ls hl
  replace E : Ev p cX8_ofEvent 3 (some .int) RX8 (Cond.code yX8_ofEvent cX8_ofEvent 3 (some .int) :: bw) D cA tS A s m _ meth c := E
  replace hl : lv_has ls 3 [(0, .ref ax), (1, .ref (h 11)), (2, .int x2)] := hl
  have hx := E.1.1
  have hb := E.1.2.1
  unfold f_X8_ofEvent_detail at hM
  refine lv_iload_n hx hb dX8_ofEvent_0 rfl (lv_at hl 2 rfl) ?_
  refine lv_iconst (v := 0) hx hb dX8_ofEvent_1 (by decide) ?_
  refine lv_aload_n hx hb dX8_ofEvent_2 rfl (lv_at hl 0 rfl) ?_
  refine q_get (C := RX8) (T := TX8) (N := 4) (ci := 8) E (fun w h => List.mem_cons_of_mem _ (inX8 w h)) hw 40 rfl rfl 0 (by decide) (List.mem_cons_of_mem _ tb_442) (v := .ref (h 46)) rfl dX8_ofEvent_3 ?_
  refine q_get (C := RX6) (T := TX6) (N := 2) (ci := 6) E (fun w h => List.mem_cons_of_mem _ (inX6 w h)) hw 39 rfl rfl 0 (by decide) (List.mem_cons_of_mem _ tb_375) (v := .ref (h 42)) rfl dX8_ofEvent_6 ?_
  refine q_get (C := RX1) (T := TX1) (N := 6) (ci := 1) E (fun w h => List.mem_cons_of_mem _ (inX1 w h)) hw 12 rfl rfl 4 (by decide) (List.mem_cons_of_mem _ tb_323) (v := .ref (h 41)) rfl dX8_ofEvent_9 ?_
  refine q_get (C := RX4) (T := TX4) (N := 5) (ci := 4) E (fun w h => List.mem_cons_of_mem _ (inX4 w h)) hw 7 rfl rfl 4 (by decide) (List.mem_cons_of_mem _ tb_284) (v := .int (σ 7 0)) rfl dX8_ofEvent_12 ?_
  refine lv_iconst (v := 1) hx hb dX8_ofEvent_15 (by decide) ?_
  refine lv_isub hx hb dX8_ofEvent_16 ?_
  obtain ⟨p1, h2, hM⟩ := b_some hM
  refine q_cs (As := [.int x2, .int 0, .int ((σ 7 0) - 1)]) (rest := []) E hw hl (c_X8_within l D cA tS A (wK cA h σ ++ (wLg cA h σ 600 ++ (wC cA h σ ++ (wH cA h σ ++ (wS h ++ (wX ax (h 46) sv tr sc ++ F)))))) x2 0 ((σ 7 0) - 1) p1 h2) 3 (bwS bw_c tb_592 tb_472 tb_99 tb_473) rfl (by decide +kernel) ⟨Nat.le_of_ble_eq_true rfl, Nat.le_of_ble_eq_true rfl⟩ rfl rfl (Nat.le_of_ble_eq_true rfl) ⟨Nat.zero_le _, Nat.zero_le _⟩ dX8_ofEvent_17 (fun H locs hw => ?_)
  refine lv_if_eq (tgt := 29) hx hb dX8_ofEvent_20 (by decide) (fun c3 => ?_) (fun c3 => ?_)
  · replace hM := i_pos hM c3
    refine lv_bipush (v := (-4)) hx hb dX8_ofEvent_29 (by decide) ?_
    cases hM
    exact q_reti E hw dX8_ofEvent_31
  · replace hM := i_neg hM c3
    refine lv_aload_n hx hb dX8_ofEvent_23 rfl (lv_at hl 1 rfl) ?_
    refine lv_iload_n hx hb dX8_ofEvent_24 rfl (lv_at hl 2 rfl) ?_
    obtain ⟨g4, hM⟩ := g_some hM
    refine q_ald E hw 11 (n := 600) rfl g4 (x := (σ 11 (ix x2))) rfl dX8_ofEvent_25 ?_
    refine lv_goto (tgt := 31) hx hb dX8_ofEvent_26 (by decide) ?_
    cases hM
    exact q_reti E hw dX8_ofEvent_31
set_option maxRecDepth 100000 in
set_option maxHeartbeats 4000000 in
theorem c_X8_logDetail (l : Launch) (D : va_G) (cA : Nat → ClassId) (tS : Nat → Nat) (A : Nat → Prop) (h : Nat → Nat) (ax : Nat) (sv : Nat) (tr : Nat) (sc : Nat) (F : va_W) (x1 : Int32) (σ : Sg) (r0 : Int32) (hM : f_X8_logDetail x1 σ = some r0) : Ct l yX8_logDetail (Cond.code yX8_logDetail cX8_logDetail 2 (some .int) :: bw) 2 44 D cA tS A [.ref ax, .int x1] (wK cA h σ ++ (wLg cA h σ 600 ++ (wC cA h σ ++ (wH cA h σ ++ (wS h ++ (wX ax (h 46) sv tr sc ++ F)))))) (some (.int r0)) (wK cA h σ ++ (wLg cA h σ 600 ++ (wC cA h σ ++ (wH cA h σ ++ (wS h ++ (wX ax (h 46) sv tr sc ++ F)))))) := by
  refine ct_of (by decide +kernel) (Nat.le_of_ble_eq_true rfl) ?_
  intro p e s m below meth c E hw ls hl
  replace E : Ev p cX8_logDetail 2 (some .int) RX8 (Cond.code yX8_logDetail cX8_logDetail 2 (some .int) :: bw) D cA tS A s m _ meth c := E
  replace hl : lv_has ls 2 [(0, .ref ax), (1, .int x1)] := hl
  have hx := E.1.1
  have hb := E.1.2.1
  unfold f_X8_logDetail at hM
  refine lv_aload_n hx hb dX8_logDetail_0 rfl (lv_at hl 0 rfl) ?_
  refine lv_aload_n hx hb dX8_logDetail_1 rfl (lv_at hl 0 rfl) ?_
  refine q_get (C := RX8) (T := TX8) (N := 4) (ci := 8) E (fun w h => List.mem_cons_of_mem _ (inX8 w h)) hw 40 rfl rfl 0 (by decide) (List.mem_cons_of_mem _ tb_442) (v := .ref (h 46)) rfl dX8_logDetail_2 ?_
  refine q_get (C := RX6) (T := TX6) (N := 2) (ci := 6) E (fun w h => List.mem_cons_of_mem _ (inX6 w h)) hw 39 rfl rfl 0 (by decide) (List.mem_cons_of_mem _ tb_375) (v := .ref (h 42)) rfl dX8_logDetail_5 ?_
  refine q_get (C := RX1) (T := TX1) (N := 6) (ci := 1) E (fun w h => List.mem_cons_of_mem _ (inX1 w h)) hw 12 rfl rfl 4 (by decide) (List.mem_cons_of_mem _ tb_323) (v := .ref (h 41)) rfl dX8_logDetail_8 ?_
  refine q_get (C := RX4) (T := TX4) (N := 5) (ci := 4) E (fun w h => List.mem_cons_of_mem _ (inX4 w h)) hw 7 rfl rfl 3 (by decide) (List.mem_cons_of_mem _ tb_282) (v := .ref (h 11)) rfl dX8_logDetail_11 ?_
  refine lv_iload_n hx hb dX8_logDetail_14 rfl (lv_at hl 1 rfl) ?_
  obtain ⟨p1, h2, hM⟩ := b_some hM
  refine q_cv (As := [.ref (h 11), .int x1]) (rest := []) E hw hl (c_X8_ofEvent_detail l D cA tS A h ax sv tr sc F x1 σ p1 h2) 2 (bwV bw_c tb_958 tb_960 tb_35 tb_99 tb_961) rfl (by decide +kernel) ⟨Nat.le_of_ble_eq_true rfl, Nat.le_of_ble_eq_true rfl⟩ 40 8 (T := TX8) (N := 4) rfl rfl rfl rfl (Nat.le_of_ble_eq_true rfl) ⟨Nat.zero_le _, Nat.zero_le _⟩ dX8_logDetail_15 (fun H locs hw => ?_)
  cases hM
  exact q_reti E hw dX8_logDetail_18
set_option maxRecDepth 100000 in
set_option maxHeartbeats 4000000 in
theorem c_X8_appendText (l : Launch) (D : va_G) (cA : Nat → ClassId) (tS : Nat → Nat) (A : Nat → Prop) (h : Nat → Nat) (z : Nat → Nat) (ax : Nat) (sv : Nat) (tr : Nat) (F : va_W) (N : Nat) (x1 : Int32) (σ : Sg) (κ : Sg) (r0 : Int32) (s0 : Sg) (hM : f_X8_appendText N x1 σ κ = some (r0, s0)) : Ct l yX8_appendText (Cond.code yX8_appendText cX8_appendText 2 (some .int) :: bw) 1 22 D cA tS A [.ref ax, .int x1] (wK cA h σ ++ (wLg cA h σ 600 ++ (wC cA h σ ++ (wH cA h σ ++ (wS h ++ (wX ax (h 46) sv tr (z 60) ++ (wSc cA z κ ++ (wR cA z κ ++ F)))))))) (some (.int r0)) (wK cA h σ ++ (wLg cA h σ 600 ++ (wC cA h σ ++ (wH cA h σ ++ (wS h ++ (wX ax (h 46) sv tr (z 60) ++ (wSc cA z s0 ++ (wR cA z s0 ++ F)))))))) := by
  refine ct_of (by decide +kernel) (Nat.le_of_ble_eq_true rfl) ?_
  intro p e s m below meth c E hw ls hl
  replace E : Ev p cX8_appendText 2 (some .int) RX8 (Cond.code yX8_appendText cX8_appendText 2 (some .int) :: bw) D cA tS A s m _ meth c := E
  replace hl : lv_has ls 2 [(0, .ref ax), (1, .int x1)] := hl
  have hx := E.1.1
  have hb := E.1.2.1
  unfold f_X8_appendText at hM
  refine lv_aload_n hx hb dX8_appendText_0 rfl (lv_at hl 0 rfl) ?_
  refine q_get (C := RX8) (T := TX8) (N := 4) (ci := 8) E (fun w h => List.mem_cons_of_mem _ (inX8 w h)) hw 40 rfl rfl 3 (by decide) (List.mem_cons_of_mem _ tb_445) (v := .ref (z 60)) rfl dX8_appendText_1 ?_
  refine lv_iload_n hx hb dX8_appendText_4 rfl (lv_at hl 1 rfl) ?_
  have hw : Wd D A (wSc cA z κ ++ (wK cA h σ ++ (wLg cA h σ 600 ++ (wC cA h σ ++ (wH cA h σ ++ (wS h ++ (wX ax (h 46) sv tr (z 60) ++ (wR cA z κ ++ F)))))))) s.heap _ _ := hw.perm (((List.Perm.append_left _ (((List.Perm.append_left _ (((List.Perm.append_left _ (((List.Perm.append_left _ (((List.Perm.append_left _ (List.perm_append_comm_assoc _ _ _))).trans (List.perm_append_comm_assoc _ _ _)))).trans (List.perm_append_comm_assoc _ _ _)))).trans (List.perm_append_comm_assoc _ _ _)))).trans (List.perm_append_comm_assoc _ _ _)))).trans (List.perm_append_comm_assoc _ _ _))
  have hw : Wd D A (wSc cA z κ ++ (wR cA z κ ++ (wK cA h σ ++ (wLg cA h σ 600 ++ (wC cA h σ ++ (wH cA h σ ++ (wS h ++ (wX ax (h 46) sv tr (z 60) ++ F)))))))) s.heap _ _ := hw.perm (List.Perm.append_left _ (((List.Perm.append_left _ (((List.Perm.append_left _ (((List.Perm.append_left _ (((List.Perm.append_left _ (((List.Perm.append_left _ (List.perm_append_comm_assoc _ _ _))).trans (List.perm_append_comm_assoc _ _ _)))).trans (List.perm_append_comm_assoc _ _ _)))).trans (List.perm_append_comm_assoc _ _ _)))).trans (List.perm_append_comm_assoc _ _ _)))).trans (List.perm_append_comm_assoc _ _ _)))
  obtain ⟨p1, h2, hM⟩ := b_some hM
  refine q_cv (As := [.int x1]) (rest := []) E hw hl (c_X5_append l D cA tS A z (wK cA h σ ++ (wLg cA h σ 600 ++ (wC cA h σ ++ (wH cA h σ ++ (wS h ++ (wX ax (h 46) sv tr (z 60) ++ F)))))) N x1 κ p1.1 p1.2 h2) 1 (bwV bw_c tb_978 tb_979 tb_980 tb_110 tb_981) rfl (by decide +kernel) ⟨Nat.le_of_ble_eq_true rfl, Nat.le_of_ble_eq_true rfl⟩ 0 5 (T := TX5) (N := 13) rfl rfl rfl rfl (Nat.le_of_ble_eq_true rfl) ⟨Nat.zero_le _, Nat.zero_le _⟩ dX8_appendText_5 (fun H locs hw => ?_)
  refine lv_if_eq (tgt := 21) hx hb dX8_appendText_8 (by decide) (fun c3 => ?_) (fun c3 => ?_)
  · replace hM := i_pos hM c3
    refine lv_bipush (v := (-6)) hx hb dX8_appendText_21 (by decide) ?_
    have hw : Wd D A (wK cA h σ ++ (wSc cA z p1.2 ++ (wR cA z p1.2 ++ (wLg cA h σ 600 ++ (wC cA h σ ++ (wH cA h σ ++ (wS h ++ (wX ax (h 46) sv tr (z 60) ++ F)))))))) s.heap _ _ := hw.perm (((List.Perm.append_left _ (List.perm_append_comm_assoc _ _ _))).trans (List.perm_append_comm_assoc _ _ _))
    have hw : Wd D A (wK cA h σ ++ (wLg cA h σ 600 ++ (wSc cA z p1.2 ++ (wR cA z p1.2 ++ (wC cA h σ ++ (wH cA h σ ++ (wS h ++ (wX ax (h 46) sv tr (z 60) ++ F)))))))) s.heap _ _ := hw.perm (List.Perm.append_left _ (((List.Perm.append_left _ (List.perm_append_comm_assoc _ _ _))).trans (List.perm_append_comm_assoc _ _ _)))
    have hw : Wd D A (wK cA h σ ++ (wLg cA h σ 600 ++ (wC cA h σ ++ (wSc cA z p1.2 ++ (wR cA z p1.2 ++ (wH cA h σ ++ (wS h ++ (wX ax (h 46) sv tr (z 60) ++ F)))))))) s.heap _ _ := hw.perm (List.Perm.append_left _ (List.Perm.append_left _ (((List.Perm.append_left _ (List.perm_append_comm_assoc _ _ _))).trans (List.perm_append_comm_assoc _ _ _))))
    have hw : Wd D A (wK cA h σ ++ (wLg cA h σ 600 ++ (wC cA h σ ++ (wH cA h σ ++ (wSc cA z p1.2 ++ (wR cA z p1.2 ++ (wS h ++ (wX ax (h 46) sv tr (z 60) ++ F)))))))) s.heap _ _ := hw.perm (List.Perm.append_left _ (List.Perm.append_left _ (List.Perm.append_left _ (((List.Perm.append_left _ (List.perm_append_comm_assoc _ _ _))).trans (List.perm_append_comm_assoc _ _ _)))))
    have hw : Wd D A (wK cA h σ ++ (wLg cA h σ 600 ++ (wC cA h σ ++ (wH cA h σ ++ (wS h ++ (wSc cA z p1.2 ++ (wR cA z p1.2 ++ (wX ax (h 46) sv tr (z 60) ++ F)))))))) s.heap _ _ := hw.perm (List.Perm.append_left _ (List.Perm.append_left _ (List.Perm.append_left _ (List.Perm.append_left _ (((List.Perm.append_left _ (List.perm_append_comm_assoc _ _ _))).trans (List.perm_append_comm_assoc _ _ _))))))
    have hw : Wd D A (wK cA h σ ++ (wLg cA h σ 600 ++ (wC cA h σ ++ (wH cA h σ ++ (wS h ++ (wX ax (h 46) sv tr (z 60) ++ (wSc cA z p1.2 ++ (wR cA z p1.2 ++ F)))))))) s.heap _ _ := hw.perm (List.Perm.append_left _ (List.Perm.append_left _ (List.Perm.append_left _ (List.Perm.append_left _ (List.Perm.append_left _ (((List.Perm.append_left _ (List.perm_append_comm_assoc _ _ _))).trans (List.perm_append_comm_assoc _ _ _)))))))
    cases hM
    exact q_reti E hw dX8_appendText_23
  · replace hM := i_neg hM c3
    refine lv_aload_n hx hb dX8_appendText_11 rfl (lv_at hl 0 rfl) ?_
    refine q_get (C := RX8) (T := TX8) (N := 4) (ci := 8) E (fun w h => List.mem_cons_of_mem _ (inX8 w h)) hw 85 rfl rfl 3 (by decide) (List.mem_cons_of_mem _ tb_445) (v := .ref (z 60)) rfl dX8_appendText_12 ?_
    refine q_get (C := RX5) (T := TX5) (N := 13) (ci := 5) E (fun w h => List.mem_cons_of_mem _ (inX5 w h)) hw 0 rfl rfl 1 (by decide) (List.mem_cons_of_mem _ tb_396) (v := .int (p1.2 1 0)) rfl dX8_appendText_15 ?_
    refine lv_goto (tgt := 23) hx hb dX8_appendText_18 (by decide) ?_
    have hw : Wd D A (wK cA h σ ++ (wSc cA z p1.2 ++ (wR cA z p1.2 ++ (wLg cA h σ 600 ++ (wC cA h σ ++ (wH cA h σ ++ (wS h ++ (wX ax (h 46) sv tr (z 60) ++ F)))))))) s.heap _ _ := hw.perm (((List.Perm.append_left _ (List.perm_append_comm_assoc _ _ _))).trans (List.perm_append_comm_assoc _ _ _))
    have hw : Wd D A (wK cA h σ ++ (wLg cA h σ 600 ++ (wSc cA z p1.2 ++ (wR cA z p1.2 ++ (wC cA h σ ++ (wH cA h σ ++ (wS h ++ (wX ax (h 46) sv tr (z 60) ++ F)))))))) s.heap _ _ := hw.perm (List.Perm.append_left _ (((List.Perm.append_left _ (List.perm_append_comm_assoc _ _ _))).trans (List.perm_append_comm_assoc _ _ _)))
    have hw : Wd D A (wK cA h σ ++ (wLg cA h σ 600 ++ (wC cA h σ ++ (wSc cA z p1.2 ++ (wR cA z p1.2 ++ (wH cA h σ ++ (wS h ++ (wX ax (h 46) sv tr (z 60) ++ F)))))))) s.heap _ _ := hw.perm (List.Perm.append_left _ (List.Perm.append_left _ (((List.Perm.append_left _ (List.perm_append_comm_assoc _ _ _))).trans (List.perm_append_comm_assoc _ _ _))))
    have hw : Wd D A (wK cA h σ ++ (wLg cA h σ 600 ++ (wC cA h σ ++ (wH cA h σ ++ (wSc cA z p1.2 ++ (wR cA z p1.2 ++ (wS h ++ (wX ax (h 46) sv tr (z 60) ++ F)))))))) s.heap _ _ := hw.perm (List.Perm.append_left _ (List.Perm.append_left _ (List.Perm.append_left _ (((List.Perm.append_left _ (List.perm_append_comm_assoc _ _ _))).trans (List.perm_append_comm_assoc _ _ _)))))
    have hw : Wd D A (wK cA h σ ++ (wLg cA h σ 600 ++ (wC cA h σ ++ (wH cA h σ ++ (wS h ++ (wSc cA z p1.2 ++ (wR cA z p1.2 ++ (wX ax (h 46) sv tr (z 60) ++ F)))))))) s.heap _ _ := hw.perm (List.Perm.append_left _ (List.Perm.append_left _ (List.Perm.append_left _ (List.Perm.append_left _ (((List.Perm.append_left _ (List.perm_append_comm_assoc _ _ _))).trans (List.perm_append_comm_assoc _ _ _))))))
    have hw : Wd D A (wK cA h σ ++ (wLg cA h σ 600 ++ (wC cA h σ ++ (wH cA h σ ++ (wS h ++ (wX ax (h 46) sv tr (z 60) ++ (wSc cA z p1.2 ++ (wR cA z p1.2 ++ F)))))))) s.heap _ _ := hw.perm (List.Perm.append_left _ (List.Perm.append_left _ (List.Perm.append_left _ (List.Perm.append_left _ (List.Perm.append_left _ (((List.Perm.append_left _ (List.perm_append_comm_assoc _ _ _))).trans (List.perm_append_comm_assoc _ _ _)))))))
    cases hM
    exact q_reti E hw dX8_appendText_23
set_option maxRecDepth 100000 in
set_option maxHeartbeats 4000000 in
theorem c_X8_truncateText (l : Launch) (D : va_G) (cA : Nat → ClassId) (tS : Nat → Nat) (A : Nat → Prop) (h : Nat → Nat) (z : Nat → Nat) (ax : Nat) (sv : Nat) (tr : Nat) (F : va_W) (x1 : Int32) (σ : Sg) (κ : Sg) (r0 : Int32) (s0 : Sg) (hM : f_X8_truncateText x1 σ κ = some (r0, s0)) : Ct l yX8_truncateText (Cond.code yX8_truncateText cX8_truncateText 2 (some .int) :: bw) 1 22 D cA tS A [.ref ax, .int x1] (wK cA h σ ++ (wLg cA h σ 600 ++ (wC cA h σ ++ (wH cA h σ ++ (wS h ++ (wX ax (h 46) sv tr (z 60) ++ (wSc cA z κ ++ (wR cA z κ ++ F)))))))) (some (.int r0)) (wK cA h σ ++ (wLg cA h σ 600 ++ (wC cA h σ ++ (wH cA h σ ++ (wS h ++ (wX ax (h 46) sv tr (z 60) ++ (wSc cA z s0 ++ (wR cA z s0 ++ F)))))))) := by
  refine ct_of (by decide +kernel) (Nat.le_of_ble_eq_true rfl) ?_
  intro p e s m below meth c E hw ls hl
  replace E : Ev p cX8_truncateText 2 (some .int) RX8 (Cond.code yX8_truncateText cX8_truncateText 2 (some .int) :: bw) D cA tS A s m _ meth c := E
  replace hl : lv_has ls 2 [(0, .ref ax), (1, .int x1)] := hl
  have hx := E.1.1
  have hb := E.1.2.1
  unfold f_X8_truncateText at hM
  refine lv_iload_n hx hb dX8_truncateText_0 rfl (lv_at hl 1 rfl) ?_
  refine lv_iconst (v := 0) hx hb dX8_truncateText_1 (by decide) ?_
  refine lv_aload_n hx hb dX8_truncateText_2 rfl (lv_at hl 0 rfl) ?_
  refine q_get (C := RX8) (T := TX8) (N := 4) (ci := 8) E (fun w h => List.mem_cons_of_mem _ (inX8 w h)) hw 40 rfl rfl 3 (by decide) (List.mem_cons_of_mem _ tb_445) (v := .ref (z 60)) rfl dX8_truncateText_3 ?_
  refine q_get (C := RX5) (T := TX5) (N := 13) (ci := 5) E (fun w h => List.mem_cons_of_mem _ (inX5 w h)) hw 41 rfl rfl 1 (by decide) (List.mem_cons_of_mem _ tb_396) (v := .int (κ 1 0)) rfl dX8_truncateText_6 ?_
  obtain ⟨p1, h2, hM⟩ := b_some hM
  refine q_cs (As := [.int x1, .int 0, .int (κ 1 0)]) (rest := []) E hw hl (c_X8_within l D cA tS A (wK cA h σ ++ (wLg cA h σ 600 ++ (wC cA h σ ++ (wH cA h σ ++ (wS h ++ (wX ax (h 46) sv tr (z 60) ++ (wSc cA z κ ++ (wR cA z κ ++ F)))))))) x1 0 (κ 1 0) p1 h2) 3 (bwS bw_c tb_592 tb_472 tb_99 tb_473) rfl (by decide +kernel) ⟨Nat.le_of_ble_eq_true rfl, Nat.le_of_ble_eq_true rfl⟩ rfl rfl (Nat.le_of_ble_eq_true rfl) ⟨Nat.zero_le _, Nat.zero_le _⟩ dX8_truncateText_9 (fun H locs hw => ?_)
  refine lv_if_ne (tgt := 18) hx hb dX8_truncateText_12 (by decide) (fun c3 => ?_) (fun c3 => ?_)
  · replace hM := i_neg hM c3
    refine lv_aload_n hx hb dX8_truncateText_18 rfl (lv_at hl 0 rfl) ?_
    refine q_get (C := RX8) (T := TX8) (N := 4) (ci := 8) E (fun w h => List.mem_cons_of_mem _ (inX8 w h)) hw 40 rfl rfl 3 (by decide) (List.mem_cons_of_mem _ tb_445) (v := .ref (z 60)) rfl dX8_truncateText_19 ?_
    refine lv_iload_n hx hb dX8_truncateText_22 rfl (lv_at hl 1 rfl) ?_
    refine q_puti (C := RX5) (T := TX5) (N := 13) (ci := 5) E (fun w h => List.mem_cons_of_mem _ (inX5 w h)) tyX5 tyX5_ok nmX5 hw 41 rfl rfl 1 (by decide) (List.mem_cons_of_mem _ tb_396) rfl rfl (Nat.le_of_ble_eq_true rfl) (wK cA h σ ++ (wLg cA h σ 600 ++ (wC cA h σ ++ (wH cA h σ ++ (wS h ++ (wX ax (h 46) sv tr (z 60) ++ (wSc cA z (up κ 1 0 x1) ++ (wR cA z (up κ 1 0 x1) ++ F)))))))) st_K_Lg_C_H_S_X_Sc_R_1 dX8_truncateText_23 (fun H locs hw => ?_)
    refine lv_iload_n hx hb dX8_truncateText_26 rfl (lv_at hl 1 rfl) ?_
    cases hM
    exact q_reti E hw dX8_truncateText_27
  · replace hM := i_pos hM c3
    refine lv_bipush (v := (-4)) hx hb dX8_truncateText_15 (by decide) ?_
    cases hM
    exact q_reti E hw dX8_truncateText_17
set_option maxRecDepth 100000 in
set_option maxHeartbeats 4000000 in
theorem s_X8_runScript_33 (l : Launch) (D : va_G) (cA : Nat → ClassId) (tS : Nat → Nat) (A : Nat → Prop) (h : Nat → Nat) (z : Nat → Nat) (ax : Nat) (sv : Nat) (tr : Nat) (F : va_W) (N : Nat) {p : Program} {e : Env} {s : State} {m : MethodId} {args : Array Value} {below : List Frame} {meth : Method} {c : Code} (E : Ev p cX8_runScript 5 (some .int) RX8 (Cond.code yX8_runScript cX8_runScript 5 (some .int) :: bw) D cA tS A s m args meth c) : ∀ (n : Nat) (x2 : Int32) (σ : Sg) (κ : Sg) (r0 : Int32) (s0 : Sg) (s1 : Sg) (hM : f_X8_runScript_33 N n x2 σ κ = some (r0, s0, s1)) (H : Heap) (locs : List Loc) (hw : Wd D A (wK cA h σ ++ (wLg cA h σ 600 ++ (wC cA h σ ++ (wH cA h σ ++ (wS h ++ (wX ax (h 46) sv tr (z 60) ++ (wSc cA z κ ++ (wR cA z κ ++ F)))))))) s.heap H locs) (ls : Array Slot) (hl : lv_has ls 5 [(0, .ref ax), (2, .int x2)]), W p l e ({ frames := 7, cells := 0, slots := 0, locals := 153 } : Room) s m args below meth c H locs 0 0 (MQ below (QW D A (some (.int r0)) (wK cA h s0 ++ (wLg cA h s0 600 ++ (wC cA h s0 ++ (wH cA h s0 ++ (wS h ++ (wX ax (h 46) sv tr (z 60) ++ (wSc cA z s1 ++ (wR cA z s1 ++ F))))))))) args s 0 0 A) (F0 m 33 ls []) := by
  have hx := E.1.1
  have hb := E.1.2.1
  intro n
  induction n with
  | zero =>
    intro x2 σ κ r0 s0 s1 hM
    cases hM
  | succ n ih =>
    intro x2 σ κ r0 s0 s1 hM H locs hw ls hl
    rw [f_X8_runScript_33] at hM
    refine lv_iload_n hx hb dX8_runScript_33 rfl (lv_at hl 1 rfl) ?_
    refine lv_aload_n hx hb dX8_runScript_34 rfl (lv_at hl 0 rfl) ?_
    refine q_get (C := RX8) (T := TX8) (N := 4) (ci := 8) E (fun w h => List.mem_cons_of_mem _ (inX8 w h)) hw 40 rfl rfl 3 (by decide) (List.mem_cons_of_mem _ tb_445) (v := .ref (z 60)) rfl dX8_runScript_35 ?_
    refine q_get (C := RX5) (T := TX5) (N := 13) (ci := 5) E (fun w h => List.mem_cons_of_mem _ (inX5 w h)) hw 41 rfl rfl 5 (by decide) (List.mem_cons_of_mem _ tb_404) (v := .int (κ 4 0)) rfl dX8_runScript_38 ?_
    refine lv_icmp_ge (tgt := 183) hx hb dX8_runScript_41 (by decide) (fun c1 => ?_) (fun c1 => ?_)
    · replace hM := i_pos hM c1
      refine lv_aload_n hx hb dX8_runScript_183 rfl (lv_at hl 0 rfl) ?_
      refine q_get (C := RX8) (T := TX8) (N := 4) (ci := 8) E (fun w h => List.mem_cons_of_mem _ (inX8 w h)) hw 40 rfl rfl 3 (by decide) (List.mem_cons_of_mem _ tb_445) (v := .ref (z 60)) rfl dX8_runScript_184 ?_
      refine q_get (C := RX5) (T := TX5) (N := 13) (ci := 5) E (fun w h => List.mem_cons_of_mem _ (inX5 w h)) hw 41 rfl rfl 5 (by decide) (List.mem_cons_of_mem _ tb_404) (v := .int (κ 4 0)) rfl dX8_runScript_187 ?_
      cases hM
      exact q_reti E hw dX8_runScript_190
    · replace hM := i_neg hM c1
      refine lv_aload_n hx hb dX8_runScript_44 rfl (lv_at hl 0 rfl) ?_
      refine q_get (C := RX8) (T := TX8) (N := 4) (ci := 8) E (fun w h => List.mem_cons_of_mem _ (inX8 w h)) hw 40 rfl rfl 3 (by decide) (List.mem_cons_of_mem _ tb_445) (v := .ref (z 60)) rfl dX8_runScript_45 ?_
      refine q_get (C := RX5) (T := TX5) (N := 13) (ci := 5) E (fun w h => List.mem_cons_of_mem _ (inX5 w h)) hw 41 rfl rfl 3 (by decide) (List.mem_cons_of_mem _ tb_400) (v := .ref (z 63)) rfl dX8_runScript_48 ?_
      refine lv_iload_n hx hb dX8_runScript_51 rfl (lv_at hl 1 rfl) ?_
      obtain ⟨g2, hM⟩ := g_some hM
      refine q_row E hw 45 rfl g2 dX8_runScript_52 ?_
      refine lv_astore_n (lv' := [(3, .ref (z (100 + (ix x2)))), (0, .ref ax), (2, .int x2)]) hx hb dX8_runScript_53 rfl hl (by decide) rfl (fun ls hl => ?_)
      refine lv_aload_n hx hb dX8_runScript_54 rfl (lv_at hl 1 rfl) ?_
      refine q_get (C := RX8) (T := TX8) (N := 4) (ci := 8) E (fun w h => List.mem_cons_of_mem _ (inX8 w h)) hw 40 rfl rfl 3 (by decide) (List.mem_cons_of_mem _ tb_445) (v := .ref (z 60)) rfl dX8_runScript_55 ?_
      refine q_get (C := RX5) (T := TX5) (N := 13) (ci := 5) E (fun w h => List.mem_cons_of_mem _ (inX5 w h)) hw 41 rfl rfl 2 (by decide) (List.mem_cons_of_mem _ tb_398) (v := .ref (z 62)) rfl dX8_runScript_58 ?_
      refine lv_iload_n hx hb dX8_runScript_61 rfl (lv_at hl 2 rfl) ?_
      refine q_ald E hw 43 (n := 40) rfl g2 (x := (κ 62 (ix x2))) rfl dX8_runScript_62 ?_
      by_cases c12 : (κ 62 (ix x2)) = 1
      · replace hM := i_pos hM c12
        refine lv_lookup (tgt := 88) hx hb dX8_runScript_63 (by decide) (off := 25) (by rw [c12]; decide) (by decide) ?_
        refine lv_aload_n hx hb dX8_runScript_88 rfl (lv_at hl 1 rfl) ?_
        refine lv_aload_n hx hb dX8_runScript_89 rfl (lv_at hl 0 rfl) ?_
        refine lv_iconst (v := 0) hx hb dX8_runScript_90 (by decide) ?_
        have hw : Wd D A (wR cA z κ ++ (wK cA h σ ++ (wLg cA h σ 600 ++ (wC cA h σ ++ (wH cA h σ ++ (wS h ++ (wX ax (h 46) sv tr (z 60) ++ (wSc cA z κ ++ F)))))))) s.heap _ _ := hw.perm (((List.Perm.append_left _ (((List.Perm.append_left _ (((List.Perm.append_left _ (((List.Perm.append_left _ (((List.Perm.append_left _ (((List.Perm.append_left _ (List.perm_append_comm_assoc _ _ _))).trans (List.perm_append_comm_assoc _ _ _)))).trans (List.perm_append_comm_assoc _ _ _)))).trans (List.perm_append_comm_assoc _ _ _)))).trans (List.perm_append_comm_assoc _ _ _)))).trans (List.perm_append_comm_assoc _ _ _)))).trans (List.perm_append_comm_assoc _ _ _))
        refine q_ald E hw (ix x2) (n := 5) (row_at (ib_lt g2)) (by decide +kernel) (x := (κ 65 (5 * (ix x2) + (ix 0)))) (if_pos (ib_lt (by decide +kernel))) dX8_runScript_91 ?_
        refine lv_aload_n hx hb dX8_runScript_92 rfl (lv_at hl 0 rfl) ?_
        refine lv_iconst (v := 1) hx hb dX8_runScript_93 (by decide) ?_
        refine q_ald E hw (ix x2) (n := 5) (row_at (ib_lt g2)) (by decide +kernel) (x := (κ 65 (5 * (ix x2) + (ix 1)))) (if_pos (ib_lt (by decide +kernel))) dX8_runScript_94 ?_
        refine lv_aload_n hx hb dX8_runScript_95 rfl (lv_at hl 0 rfl) ?_
        refine lv_iconst (v := 2) hx hb dX8_runScript_96 (by decide) ?_
        refine q_ald E hw (ix x2) (n := 5) (row_at (ib_lt g2)) (by decide +kernel) (x := (κ 65 (5 * (ix x2) + (ix 2)))) (if_pos (ib_lt (by decide +kernel))) dX8_runScript_97 ?_
        refine lv_aload_n hx hb dX8_runScript_98 rfl (lv_at hl 0 rfl) ?_
        refine lv_iconst (v := 3) hx hb dX8_runScript_99 (by decide) ?_
        refine q_ald E hw (ix x2) (n := 5) (row_at (ib_lt g2)) (by decide +kernel) (x := (κ 65 (5 * (ix x2) + (ix 3)))) (if_pos (ib_lt (by decide +kernel))) dX8_runScript_100 ?_
        refine lv_aload_n hx hb dX8_runScript_101 rfl (lv_at hl 0 rfl) ?_
        refine lv_iconst (v := 4) hx hb dX8_runScript_102 (by decide) ?_
        refine q_ald E hw (ix x2) (n := 5) (row_at (ib_lt g2)) (by decide +kernel) (x := (κ 65 (5 * (ix x2) + (ix 4)))) (if_pos (ib_lt (by decide +kernel))) dX8_runScript_103 ?_
        refine lv_aload_n hx hb dX8_runScript_104 rfl (lv_at hl 1 rfl) ?_
        refine q_get (C := RX8) (T := TX8) (N := 4) (ci := 8) E (fun w h => List.mem_cons_of_mem _ (inX8 w h)) hw 80 rfl rfl 3 (by decide) (List.mem_cons_of_mem _ tb_445) (v := .ref (z 60)) rfl dX8_runScript_105 ?_
        refine q_get (C := RX5) (T := TX5) (N := 13) (ci := 5) E (fun w h => List.mem_cons_of_mem _ (inX5 w h)) hw 81 rfl rfl 4 (by decide) (List.mem_cons_of_mem _ tb_402) (v := .ref (z 64)) rfl dX8_runScript_108 ?_
        refine lv_iload_n hx hb dX8_runScript_111 rfl (lv_at hl 2 rfl) ?_
        refine q_zld E hw 84 (n := 40) rfl g2 (x := (κ 64 (ix x2))) rfl dX8_runScript_112 ?_
        have hw : Wd D A (wK cA h σ ++ (wR cA z κ ++ (wLg cA h σ 600 ++ (wC cA h σ ++ (wH cA h σ ++ (wS h ++ (wX ax (h 46) sv tr (z 60) ++ (wSc cA z κ ++ F)))))))) s.heap _ _ := hw.perm (List.perm_append_comm_assoc _ _ _)
        have hw : Wd D A (wK cA h σ ++ (wLg cA h σ 600 ++ (wR cA z κ ++ (wC cA h σ ++ (wH cA h σ ++ (wS h ++ (wX ax (h 46) sv tr (z 60) ++ (wSc cA z κ ++ F)))))))) s.heap _ _ := hw.perm (List.Perm.append_left _ (List.perm_append_comm_assoc _ _ _))
        have hw : Wd D A (wK cA h σ ++ (wLg cA h σ 600 ++ (wC cA h σ ++ (wR cA z κ ++ (wH cA h σ ++ (wS h ++ (wX ax (h 46) sv tr (z 60) ++ (wSc cA z κ ++ F)))))))) s.heap _ _ := hw.perm (List.Perm.append_left _ (List.Perm.append_left _ (List.perm_append_comm_assoc _ _ _)))
        have hw : Wd D A (wK cA h σ ++ (wLg cA h σ 600 ++ (wC cA h σ ++ (wH cA h σ ++ (wR cA z κ ++ (wS h ++ (wX ax (h 46) sv tr (z 60) ++ (wSc cA z κ ++ F)))))))) s.heap _ _ := hw.perm (List.Perm.append_left _ (List.Perm.append_left _ (List.Perm.append_left _ (List.perm_append_comm_assoc _ _ _))))
        have hw : Wd D A (wK cA h σ ++ (wLg cA h σ 600 ++ (wC cA h σ ++ (wH cA h σ ++ (wS h ++ (wR cA z κ ++ (wX ax (h 46) sv tr (z 60) ++ (wSc cA z κ ++ F)))))))) s.heap _ _ := hw.perm (List.Perm.append_left _ (List.Perm.append_left _ (List.Perm.append_left _ (List.Perm.append_left _ (List.perm_append_comm_assoc _ _ _)))))
        have hw : Wd D A (wK cA h σ ++ (wLg cA h σ 600 ++ (wC cA h σ ++ (wH cA h σ ++ (wS h ++ (wX ax (h 46) sv tr (z 60) ++ (wR cA z κ ++ (wSc cA z κ ++ F)))))))) s.heap _ _ := hw.perm (List.Perm.append_left _ (List.Perm.append_left _ (List.Perm.append_left _ (List.Perm.append_left _ (List.Perm.append_left _ (List.perm_append_comm_assoc _ _ _))))))
        obtain ⟨p6, h7, hM⟩ := b_some hM
        refine q_cv (As := [.int (κ 65 (5 * (ix x2) + (ix 0))), .int (κ 65 (5 * (ix x2) + (ix 1))), .int (κ 65 (5 * (ix x2) + (ix 2))), .int (κ 65 (5 * (ix x2) + (ix 3))), .int (κ 65 (5 * (ix x2) + (ix 4))), .int (κ 64 (ix x2))]) (rest := []) E hw hl (c_X8_addKind l D cA tS A h ax sv tr (z 60) (wR cA z κ ++ (wSc cA z κ ++ F)) (κ 65 (5 * (ix x2) + (ix 0))) (κ 65 (5 * (ix x2) + (ix 1))) (κ 65 (5 * (ix x2) + (ix 2))) (κ 65 (5 * (ix x2) + (ix 3))) (κ 65 (5 * (ix x2) + (ix 4))) (κ 64 (ix x2)) σ p6.1 p6.2 h7) 6 (bwV bw_c tb_1103 tb_619 tb_620 tb_99 tb_621) rfl (by decide +kernel) ⟨Nat.le_of_ble_eq_true rfl, Nat.le_of_ble_eq_true rfl⟩ 40 8 (T := TX8) (N := 4) rfl rfl rfl rfl (Nat.le_of_ble_eq_true rfl) ⟨Nat.zero_le _, Nat.zero_le _⟩ dX8_runScript_113 (fun H locs hw => ?_)
        refine lv_istore (lv' := [(4, .int p6.1), (3, .ref (z (100 + (ix x2)))), (0, .ref ax), (2, .int x2)]) hx hb dX8_runScript_116 hl (by decide) rfl (fun ls hl => ?_)
        refine lv_goto (tgt := 160) hx hb dX8_runScript_118 (by decide) ?_
        refine lv_iload hx hb dX8_runScript_160 (lv_at hl 0 rfl) ?_
        refine lv_iconst (v := (-1)) hx hb dX8_runScript_162 (by decide) ?_
        refine lv_icmp_ge (tgt := 177) hx hb dX8_runScript_163 (by decide) (fun c8 => ?_) (fun c8 => ?_)
        · replace hM := i_pos hM c8
          refine lv_iinc (v := (x2 + 1)) (lv' := [(2, .int (x2 + 1)), (4, .int p6.1), (3, .ref (z (100 + (ix x2)))), (0, .ref ax)]) hx hb dX8_runScript_177 hl (k := 3) rfl rfl (by decide) rfl (fun ls hl => ?_)
          refine lv_goto (tgt := 33) hx hb dX8_runScript_180 (by decide) ?_
          have hw : Wd D A (wK cA h p6.2 ++ (wLg cA h p6.2 600 ++ (wC cA h p6.2 ++ (wH cA h p6.2 ++ (wS h ++ (wX ax (h 46) sv tr (z 60) ++ (wSc cA z κ ++ (wR cA z κ ++ F)))))))) s.heap _ _ := hw.perm (List.Perm.append_left _ (List.Perm.append_left _ (List.Perm.append_left _ (List.Perm.append_left _ (List.Perm.append_left _ (List.Perm.append_left _ (List.perm_append_comm_assoc _ _ _)))))))
          exact ih _ _ _ _ _ _ hM _ _ hw _ (lv_sub hl [3, 0] rfl)
        · replace hM := i_neg hM c8
          refine lv_aload_n hx hb dX8_runScript_166 rfl (lv_at hl 2 rfl) ?_
          refine q_get (C := RX8) (T := TX8) (N := 4) (ci := 8) E (fun w h => List.mem_cons_of_mem _ (inX8 w h)) hw 40 rfl rfl 3 (by decide) (List.mem_cons_of_mem _ tb_445) (v := .ref (z 60)) rfl dX8_runScript_167 ?_
          refine lv_iload hx hb dX8_runScript_170 (lv_at hl 0 rfl) ?_
          refine q_puti (C := RX5) (T := TX5) (N := 13) (ci := 5) E (fun w h => List.mem_cons_of_mem _ (inX5 w h)) tyX5 tyX5_ok nmX5 hw 81 rfl rfl 8 (by decide) (List.mem_cons_of_mem _ tb_409) rfl rfl (Nat.le_of_ble_eq_true rfl) (wK cA h p6.2 ++ (wLg cA h p6.2 600 ++ (wC cA h p6.2 ++ (wH cA h p6.2 ++ (wS h ++ (wX ax (h 46) sv tr (z 60) ++ (wR cA z (up κ 7 0 p6.1) ++ (wSc cA z (up κ 7 0 p6.1) ++ F)))))))) st_K_Lg_C_H_S_X_R_Sc_7 dX8_runScript_172 (fun H locs hw => ?_)
          refine lv_iload_n hx hb dX8_runScript_175 rfl (lv_at hl 3 rfl) ?_
          have hw : Wd D A (wK cA h p6.2 ++ (wLg cA h p6.2 600 ++ (wC cA h p6.2 ++ (wH cA h p6.2 ++ (wS h ++ (wX ax (h 46) sv tr (z 60) ++ (wSc cA z (up κ 7 0 p6.1) ++ (wR cA z (up κ 7 0 p6.1) ++ F)))))))) s.heap _ _ := hw.perm (List.Perm.append_left _ (List.Perm.append_left _ (List.Perm.append_left _ (List.Perm.append_left _ (List.Perm.append_left _ (List.Perm.append_left _ (List.perm_append_comm_assoc _ _ _)))))))
          cases hM
          exact q_reti E hw dX8_runScript_176
      replace hM := i_neg hM c12
      by_cases c13 : (κ 62 (ix x2)) = 12
      · replace hM := i_pos hM c13
        refine lv_lookup (tgt := 121) hx hb dX8_runScript_63 (by decide) (off := 58) (by rw [c13]; decide) (by decide) ?_
        refine lv_aload_n hx hb dX8_runScript_121 rfl (lv_at hl 1 rfl) ?_
        refine lv_aload_n hx hb dX8_runScript_122 rfl (lv_at hl 0 rfl) ?_
        refine lv_iconst (v := 0) hx hb dX8_runScript_123 (by decide) ?_
        have hw : Wd D A (wR cA z κ ++ (wK cA h σ ++ (wLg cA h σ 600 ++ (wC cA h σ ++ (wH cA h σ ++ (wS h ++ (wX ax (h 46) sv tr (z 60) ++ (wSc cA z κ ++ F)))))))) s.heap _ _ := hw.perm (((List.Perm.append_left _ (((List.Perm.append_left _ (((List.Perm.append_left _ (((List.Perm.append_left _ (((List.Perm.append_left _ (((List.Perm.append_left _ (List.perm_append_comm_assoc _ _ _))).trans (List.perm_append_comm_assoc _ _ _)))).trans (List.perm_append_comm_assoc _ _ _)))).trans (List.perm_append_comm_assoc _ _ _)))).trans (List.perm_append_comm_assoc _ _ _)))).trans (List.perm_append_comm_assoc _ _ _)))).trans (List.perm_append_comm_assoc _ _ _))
        refine q_ald E hw (ix x2) (n := 5) (row_at (ib_lt g2)) (by decide +kernel) (x := (κ 65 (5 * (ix x2) + (ix 0)))) (if_pos (ib_lt (by decide +kernel))) dX8_runScript_124 ?_
        have hw : Wd D A (wK cA h σ ++ (wR cA z κ ++ (wLg cA h σ 600 ++ (wC cA h σ ++ (wH cA h σ ++ (wS h ++ (wX ax (h 46) sv tr (z 60) ++ (wSc cA z κ ++ F)))))))) s.heap _ _ := hw.perm (List.perm_append_comm_assoc _ _ _)
        have hw : Wd D A (wK cA h σ ++ (wLg cA h σ 600 ++ (wR cA z κ ++ (wC cA h σ ++ (wH cA h σ ++ (wS h ++ (wX ax (h 46) sv tr (z 60) ++ (wSc cA z κ ++ F)))))))) s.heap _ _ := hw.perm (List.Perm.append_left _ (List.perm_append_comm_assoc _ _ _))
        have hw : Wd D A (wK cA h σ ++ (wLg cA h σ 600 ++ (wC cA h σ ++ (wR cA z κ ++ (wH cA h σ ++ (wS h ++ (wX ax (h 46) sv tr (z 60) ++ (wSc cA z κ ++ F)))))))) s.heap _ _ := hw.perm (List.Perm.append_left _ (List.Perm.append_left _ (List.perm_append_comm_assoc _ _ _)))
        have hw : Wd D A (wK cA h σ ++ (wLg cA h σ 600 ++ (wC cA h σ ++ (wH cA h σ ++ (wR cA z κ ++ (wS h ++ (wX ax (h 46) sv tr (z 60) ++ (wSc cA z κ ++ F)))))))) s.heap _ _ := hw.perm (List.Perm.append_left _ (List.Perm.append_left _ (List.Perm.append_left _ (List.perm_append_comm_assoc _ _ _))))
        have hw : Wd D A (wK cA h σ ++ (wLg cA h σ 600 ++ (wC cA h σ ++ (wH cA h σ ++ (wS h ++ (wR cA z κ ++ (wX ax (h 46) sv tr (z 60) ++ (wSc cA z κ ++ F)))))))) s.heap _ _ := hw.perm (List.Perm.append_left _ (List.Perm.append_left _ (List.Perm.append_left _ (List.Perm.append_left _ (List.perm_append_comm_assoc _ _ _)))))
        have hw : Wd D A (wK cA h σ ++ (wLg cA h σ 600 ++ (wC cA h σ ++ (wH cA h σ ++ (wS h ++ (wX ax (h 46) sv tr (z 60) ++ (wR cA z κ ++ (wSc cA z κ ++ F)))))))) s.heap _ _ := hw.perm (List.Perm.append_left _ (List.Perm.append_left _ (List.Perm.append_left _ (List.Perm.append_left _ (List.Perm.append_left _ (List.perm_append_comm_assoc _ _ _))))))
        obtain ⟨p9, h10, hM⟩ := b_some hM
        refine q_cv (As := [.int (κ 65 (5 * (ix x2) + (ix 0)))]) (rest := []) E hw hl (c_X8_pass l D cA tS A h ax sv tr (z 60) (wR cA z κ ++ (wSc cA z κ ++ F)) N (κ 65 (5 * (ix x2) + (ix 0))) σ p9.1 p9.2 h10) 1 (bwV bw_c tb_1104 tb_675 tb_676 tb_99 tb_677) rfl (by decide +kernel) ⟨Nat.le_of_ble_eq_true rfl, Nat.le_of_ble_eq_true rfl⟩ 40 8 (T := TX8) (N := 4) rfl rfl rfl rfl (Nat.le_of_ble_eq_true rfl) ⟨Nat.zero_le _, Nat.zero_le _⟩ dX8_runScript_125 (fun H locs hw => ?_)
        refine lv_istore (lv' := [(4, .int p9.1), (3, .ref (z (100 + (ix x2)))), (0, .ref ax), (2, .int x2)]) hx hb dX8_runScript_128 hl (by decide) rfl (fun ls hl => ?_)
        refine lv_goto (tgt := 160) hx hb dX8_runScript_130 (by decide) ?_
        refine lv_iload hx hb dX8_runScript_160 (lv_at hl 0 rfl) ?_
        refine lv_iconst (v := (-1)) hx hb dX8_runScript_162 (by decide) ?_
        refine lv_icmp_ge (tgt := 177) hx hb dX8_runScript_163 (by decide) (fun c11 => ?_) (fun c11 => ?_)
        · replace hM := i_pos hM c11
          refine lv_iinc (v := (x2 + 1)) (lv' := [(2, .int (x2 + 1)), (4, .int p9.1), (3, .ref (z (100 + (ix x2)))), (0, .ref ax)]) hx hb dX8_runScript_177 hl (k := 3) rfl rfl (by decide) rfl (fun ls hl => ?_)
          refine lv_goto (tgt := 33) hx hb dX8_runScript_180 (by decide) ?_
          have hw : Wd D A (wK cA h p9.2 ++ (wLg cA h p9.2 600 ++ (wC cA h p9.2 ++ (wH cA h p9.2 ++ (wS h ++ (wX ax (h 46) sv tr (z 60) ++ (wSc cA z κ ++ (wR cA z κ ++ F)))))))) s.heap _ _ := hw.perm (List.Perm.append_left _ (List.Perm.append_left _ (List.Perm.append_left _ (List.Perm.append_left _ (List.Perm.append_left _ (List.Perm.append_left _ (List.perm_append_comm_assoc _ _ _)))))))
          exact ih _ _ _ _ _ _ hM _ _ hw _ (lv_sub hl [3, 0] rfl)
        · replace hM := i_neg hM c11
          refine lv_aload_n hx hb dX8_runScript_166 rfl (lv_at hl 2 rfl) ?_
          refine q_get (C := RX8) (T := TX8) (N := 4) (ci := 8) E (fun w h => List.mem_cons_of_mem _ (inX8 w h)) hw 40 rfl rfl 3 (by decide) (List.mem_cons_of_mem _ tb_445) (v := .ref (z 60)) rfl dX8_runScript_167 ?_
          refine lv_iload hx hb dX8_runScript_170 (lv_at hl 0 rfl) ?_
          refine q_puti (C := RX5) (T := TX5) (N := 13) (ci := 5) E (fun w h => List.mem_cons_of_mem _ (inX5 w h)) tyX5 tyX5_ok nmX5 hw 81 rfl rfl 8 (by decide) (List.mem_cons_of_mem _ tb_409) rfl rfl (Nat.le_of_ble_eq_true rfl) (wK cA h p9.2 ++ (wLg cA h p9.2 600 ++ (wC cA h p9.2 ++ (wH cA h p9.2 ++ (wS h ++ (wX ax (h 46) sv tr (z 60) ++ (wR cA z (up κ 7 0 p9.1) ++ (wSc cA z (up κ 7 0 p9.1) ++ F)))))))) st_K_Lg_C_H_S_X_R_Sc_7 dX8_runScript_172 (fun H locs hw => ?_)
          refine lv_iload_n hx hb dX8_runScript_175 rfl (lv_at hl 3 rfl) ?_
          have hw : Wd D A (wK cA h p9.2 ++ (wLg cA h p9.2 600 ++ (wC cA h p9.2 ++ (wH cA h p9.2 ++ (wS h ++ (wX ax (h 46) sv tr (z 60) ++ (wSc cA z (up κ 7 0 p9.1) ++ (wR cA z (up κ 7 0 p9.1) ++ F)))))))) s.heap _ _ := hw.perm (List.Perm.append_left _ (List.Perm.append_left _ (List.Perm.append_left _ (List.Perm.append_left _ (List.Perm.append_left _ (List.Perm.append_left _ (List.perm_append_comm_assoc _ _ _)))))))
          cases hM
          exact q_reti E hw dX8_runScript_176
      replace hM := i_neg hM c13
      have c12t : ¬ ((κ 62 (ix x2))).toInt = 1 := fun q => c12 (Int32.toInt_inj.mp (q.trans (by decide)))
      have c13t : ¬ ((κ 62 (ix x2))).toInt = 12 := fun q => c13 (Int32.toInt_inj.mp (q.trans (by decide)))
      refine lv_lookup (tgt := 133) hx hb dX8_runScript_63 (by decide) (off := 70) (by simp [Op.lookupswitch.offset, c12t, Ne.symm c12t, c13t, Ne.symm c13t]) (by decide) ?_
      refine lv_aload_n hx hb dX8_runScript_133 rfl (lv_at hl 1 rfl) ?_
      refine lv_aload_n hx hb dX8_runScript_134 rfl (lv_at hl 1 rfl) ?_
      refine q_get (C := RX8) (T := TX8) (N := 4) (ci := 8) E (fun w h => List.mem_cons_of_mem _ (inX8 w h)) hw 40 rfl rfl 3 (by decide) (List.mem_cons_of_mem _ tb_445) (v := .ref (z 60)) rfl dX8_runScript_135 ?_
      refine q_get (C := RX5) (T := TX5) (N := 13) (ci := 5) E (fun w h => List.mem_cons_of_mem _ (inX5 w h)) hw 41 rfl rfl 2 (by decide) (List.mem_cons_of_mem _ tb_398) (v := .ref (z 62)) rfl dX8_runScript_138 ?_
      refine lv_iload_n hx hb dX8_runScript_141 rfl (lv_at hl 2 rfl) ?_
      refine q_ald E hw 43 (n := 40) rfl g2 (x := (κ 62 (ix x2))) rfl dX8_runScript_142 ?_
      refine lv_aload_n hx hb dX8_runScript_143 rfl (lv_at hl 0 rfl) ?_
      refine lv_iconst (v := 0) hx hb dX8_runScript_144 (by decide) ?_
      have hw : Wd D A (wR cA z κ ++ (wK cA h σ ++ (wLg cA h σ 600 ++ (wC cA h σ ++ (wH cA h σ ++ (wS h ++ (wX ax (h 46) sv tr (z 60) ++ (wSc cA z κ ++ F)))))))) s.heap _ _ := hw.perm (((List.Perm.append_left _ (((List.Perm.append_left _ (((List.Perm.append_left _ (((List.Perm.append_left _ (((List.Perm.append_left _ (((List.Perm.append_left _ (List.perm_append_comm_assoc _ _ _))).trans (List.perm_append_comm_assoc _ _ _)))).trans (List.perm_append_comm_assoc _ _ _)))).trans (List.perm_append_comm_assoc _ _ _)))).trans (List.perm_append_comm_assoc _ _ _)))).trans (List.perm_append_comm_assoc _ _ _)))).trans (List.perm_append_comm_assoc _ _ _))
      refine q_ald E hw (ix x2) (n := 5) (row_at (ib_lt g2)) (by decide +kernel) (x := (κ 65 (5 * (ix x2) + (ix 0)))) (if_pos (ib_lt (by decide +kernel))) dX8_runScript_145 ?_
      refine lv_aload_n hx hb dX8_runScript_146 rfl (lv_at hl 0 rfl) ?_
      refine lv_iconst (v := 1) hx hb dX8_runScript_147 (by decide) ?_
      refine q_ald E hw (ix x2) (n := 5) (row_at (ib_lt g2)) (by decide +kernel) (x := (κ 65 (5 * (ix x2) + (ix 1)))) (if_pos (ib_lt (by decide +kernel))) dX8_runScript_148 ?_
      refine lv_aload_n hx hb dX8_runScript_149 rfl (lv_at hl 0 rfl) ?_
      refine lv_iconst (v := 2) hx hb dX8_runScript_150 (by decide) ?_
      refine q_ald E hw (ix x2) (n := 5) (row_at (ib_lt g2)) (by decide +kernel) (x := (κ 65 (5 * (ix x2) + (ix 2)))) (if_pos (ib_lt (by decide +kernel))) dX8_runScript_151 ?_
      refine lv_aload_n hx hb dX8_runScript_152 rfl (lv_at hl 0 rfl) ?_
      refine lv_iconst (v := 3) hx hb dX8_runScript_153 (by decide) ?_
      refine q_ald E hw (ix x2) (n := 5) (row_at (ib_lt g2)) (by decide +kernel) (x := (κ 65 (5 * (ix x2) + (ix 3)))) (if_pos (ib_lt (by decide +kernel))) dX8_runScript_154 ?_
      have hw : Wd D A (wK cA h σ ++ (wR cA z κ ++ (wLg cA h σ 600 ++ (wC cA h σ ++ (wH cA h σ ++ (wS h ++ (wX ax (h 46) sv tr (z 60) ++ (wSc cA z κ ++ F)))))))) s.heap _ _ := hw.perm (List.perm_append_comm_assoc _ _ _)
      have hw : Wd D A (wK cA h σ ++ (wLg cA h σ 600 ++ (wR cA z κ ++ (wC cA h σ ++ (wH cA h σ ++ (wS h ++ (wX ax (h 46) sv tr (z 60) ++ (wSc cA z κ ++ F)))))))) s.heap _ _ := hw.perm (List.Perm.append_left _ (List.perm_append_comm_assoc _ _ _))
      have hw : Wd D A (wK cA h σ ++ (wLg cA h σ 600 ++ (wC cA h σ ++ (wR cA z κ ++ (wH cA h σ ++ (wS h ++ (wX ax (h 46) sv tr (z 60) ++ (wSc cA z κ ++ F)))))))) s.heap _ _ := hw.perm (List.Perm.append_left _ (List.Perm.append_left _ (List.perm_append_comm_assoc _ _ _)))
      have hw : Wd D A (wK cA h σ ++ (wLg cA h σ 600 ++ (wC cA h σ ++ (wH cA h σ ++ (wR cA z κ ++ (wS h ++ (wX ax (h 46) sv tr (z 60) ++ (wSc cA z κ ++ F)))))))) s.heap _ _ := hw.perm (List.Perm.append_left _ (List.Perm.append_left _ (List.Perm.append_left _ (List.perm_append_comm_assoc _ _ _))))
      have hw : Wd D A (wK cA h σ ++ (wLg cA h σ 600 ++ (wC cA h σ ++ (wH cA h σ ++ (wS h ++ (wR cA z κ ++ (wX ax (h 46) sv tr (z 60) ++ (wSc cA z κ ++ F)))))))) s.heap _ _ := hw.perm (List.Perm.append_left _ (List.Perm.append_left _ (List.Perm.append_left _ (List.Perm.append_left _ (List.perm_append_comm_assoc _ _ _)))))
      have hw : Wd D A (wK cA h σ ++ (wLg cA h σ 600 ++ (wC cA h σ ++ (wH cA h σ ++ (wS h ++ (wX ax (h 46) sv tr (z 60) ++ (wR cA z κ ++ (wSc cA z κ ++ F)))))))) s.heap _ _ := hw.perm (List.Perm.append_left _ (List.Perm.append_left _ (List.Perm.append_left _ (List.Perm.append_left _ (List.Perm.append_left _ (List.perm_append_comm_assoc _ _ _))))))
      obtain ⟨p3, h4, hM⟩ := b_some hM
      refine q_cv (As := [.int (κ 62 (ix x2)), .int (κ 65 (5 * (ix x2) + (ix 0))), .int (κ 65 (5 * (ix x2) + (ix 1))), .int (κ 65 (5 * (ix x2) + (ix 2))), .int (κ 65 (5 * (ix x2) + (ix 3)))]) (rest := []) E hw hl (c_X8_change l D cA tS A h ax sv tr (z 60) (wR cA z κ ++ (wSc cA z κ ++ F)) N (κ 62 (ix x2)) (κ 65 (5 * (ix x2) + (ix 0))) (κ 65 (5 * (ix x2) + (ix 1))) (κ 65 (5 * (ix x2) + (ix 2))) (κ 65 (5 * (ix x2) + (ix 3))) σ p3.1 p3.2 h4) 5 (bwV bw_c tb_459 tb_461 tb_0 tb_99 tb_462) rfl (by decide +kernel) ⟨Nat.le_of_ble_eq_true rfl, Nat.le_of_ble_eq_true rfl⟩ 40 8 (T := TX8) (N := 4) rfl rfl rfl rfl (Nat.le_of_ble_eq_true rfl) ⟨Nat.zero_le _, Nat.zero_le _⟩ dX8_runScript_155 (fun H locs hw => ?_)
      refine lv_istore (lv' := [(4, .int p3.1), (3, .ref (z (100 + (ix x2)))), (0, .ref ax), (2, .int x2)]) hx hb dX8_runScript_158 hl (by decide) rfl (fun ls hl => ?_)
      refine lv_iload hx hb dX8_runScript_160 (lv_at hl 0 rfl) ?_
      refine lv_iconst (v := (-1)) hx hb dX8_runScript_162 (by decide) ?_
      refine lv_icmp_ge (tgt := 177) hx hb dX8_runScript_163 (by decide) (fun c5 => ?_) (fun c5 => ?_)
      · replace hM := i_pos hM c5
        refine lv_iinc (v := (x2 + 1)) (lv' := [(2, .int (x2 + 1)), (4, .int p3.1), (3, .ref (z (100 + (ix x2)))), (0, .ref ax)]) hx hb dX8_runScript_177 hl (k := 3) rfl rfl (by decide) rfl (fun ls hl => ?_)
        refine lv_goto (tgt := 33) hx hb dX8_runScript_180 (by decide) ?_
        have hw : Wd D A (wK cA h p3.2 ++ (wLg cA h p3.2 600 ++ (wC cA h p3.2 ++ (wH cA h p3.2 ++ (wS h ++ (wX ax (h 46) sv tr (z 60) ++ (wSc cA z κ ++ (wR cA z κ ++ F)))))))) s.heap _ _ := hw.perm (List.Perm.append_left _ (List.Perm.append_left _ (List.Perm.append_left _ (List.Perm.append_left _ (List.Perm.append_left _ (List.Perm.append_left _ (List.perm_append_comm_assoc _ _ _)))))))
        exact ih _ _ _ _ _ _ hM _ _ hw _ (lv_sub hl [3, 0] rfl)
      · replace hM := i_neg hM c5
        refine lv_aload_n hx hb dX8_runScript_166 rfl (lv_at hl 2 rfl) ?_
        refine q_get (C := RX8) (T := TX8) (N := 4) (ci := 8) E (fun w h => List.mem_cons_of_mem _ (inX8 w h)) hw 40 rfl rfl 3 (by decide) (List.mem_cons_of_mem _ tb_445) (v := .ref (z 60)) rfl dX8_runScript_167 ?_
        refine lv_iload hx hb dX8_runScript_170 (lv_at hl 0 rfl) ?_
        refine q_puti (C := RX5) (T := TX5) (N := 13) (ci := 5) E (fun w h => List.mem_cons_of_mem _ (inX5 w h)) tyX5 tyX5_ok nmX5 hw 81 rfl rfl 8 (by decide) (List.mem_cons_of_mem _ tb_409) rfl rfl (Nat.le_of_ble_eq_true rfl) (wK cA h p3.2 ++ (wLg cA h p3.2 600 ++ (wC cA h p3.2 ++ (wH cA h p3.2 ++ (wS h ++ (wX ax (h 46) sv tr (z 60) ++ (wR cA z (up κ 7 0 p3.1) ++ (wSc cA z (up κ 7 0 p3.1) ++ F)))))))) st_K_Lg_C_H_S_X_R_Sc_7 dX8_runScript_172 (fun H locs hw => ?_)
        refine lv_iload_n hx hb dX8_runScript_175 rfl (lv_at hl 3 rfl) ?_
        have hw : Wd D A (wK cA h p3.2 ++ (wLg cA h p3.2 600 ++ (wC cA h p3.2 ++ (wH cA h p3.2 ++ (wS h ++ (wX ax (h 46) sv tr (z 60) ++ (wSc cA z (up κ 7 0 p3.1) ++ (wR cA z (up κ 7 0 p3.1) ++ F)))))))) s.heap _ _ := hw.perm (List.Perm.append_left _ (List.Perm.append_left _ (List.Perm.append_left _ (List.Perm.append_left _ (List.Perm.append_left _ (List.Perm.append_left _ (List.perm_append_comm_assoc _ _ _)))))))
        cases hM
        exact q_reti E hw dX8_runScript_176
set_option maxRecDepth 100000 in
set_option maxHeartbeats 4000000 in
theorem c_X8_runScript (l : Launch) (D : va_G) (cA : Nat → ClassId) (tS : Nat → Nat) (A : Nat → Prop) (h : Nat → Nat) (z : Nat → Nat) (ax : Nat) (sv : Nat) (tr : Nat) (F : va_W) (N : Nat) (σ : Sg) (κ : Sg) (r0 : Int32) (s0 : Sg) (s1 : Sg) (hM : f_X8_runScript N σ κ = some (r0, s0, s1)) : Ct l yX8_runScript (Cond.code yX8_runScript cX8_runScript 5 (some .int) :: bw) 7 153 D cA tS A [.ref ax] (wK cA h σ ++ (wLg cA h σ 600 ++ (wC cA h σ ++ (wH cA h σ ++ (wS h ++ (wX ax (h 46) sv tr (z 60) ++ (wSc cA z κ ++ (wR cA z κ ++ F)))))))) (some (.int r0)) (wK cA h s0 ++ (wLg cA h s0 600 ++ (wC cA h s0 ++ (wH cA h s0 ++ (wS h ++ (wX ax (h 46) sv tr (z 60) ++ (wSc cA z s1 ++ (wR cA z s1 ++ F)))))))) := by
  refine ct_of (by decide +kernel) (Nat.le_of_ble_eq_true rfl) ?_
  intro p e s m below meth c E hw ls hl
  replace E : Ev p cX8_runScript 5 (some .int) RX8 (Cond.code yX8_runScript cX8_runScript 5 (some .int) :: bw) D cA tS A s m _ meth c := E
  replace hl : lv_has ls 5 [(0, .ref ax)] := hl
  have hx := E.1.1
  have hb := E.1.2.1
  unfold f_X8_runScript at hM
  refine lv_aload_n hx hb dX8_runScript_0 rfl (lv_at hl 0 rfl) ?_
  refine q_get (C := RX8) (T := TX8) (N := 4) (ci := 8) E (fun w h => List.mem_cons_of_mem _ (inX8 w h)) hw 40 rfl rfl 3 (by decide) (List.mem_cons_of_mem _ tb_445) (v := .ref (z 60)) rfl dX8_runScript_1 ?_
  refine lv_iconst (v := 0) hx hb dX8_runScript_4 (by decide) ?_
  refine q_puti (C := RX5) (T := TX5) (N := 13) (ci := 5) E (fun w h => List.mem_cons_of_mem _ (inX5 w h)) tyX5 tyX5_ok nmX5 hw 41 rfl rfl 8 (by decide) (List.mem_cons_of_mem _ tb_409) rfl rfl (Nat.le_of_ble_eq_true rfl) (wK cA h σ ++ (wLg cA h σ 600 ++ (wC cA h σ ++ (wH cA h σ ++ (wS h ++ (wX ax (h 46) sv tr (z 60) ++ (wSc cA z (up κ 7 0 0) ++ (wR cA z (up κ 7 0 0) ++ F)))))))) st_K_Lg_C_H_S_X_Sc_R_7 dX8_runScript_5 (fun H locs hw => ?_)
  refine lv_aload_n hx hb dX8_runScript_8 rfl (lv_at hl 0 rfl) ?_
  refine q_get (C := RX8) (T := TX8) (N := 4) (ci := 8) E (fun w h => List.mem_cons_of_mem _ (inX8 w h)) hw 40 rfl rfl 3 (by decide) (List.mem_cons_of_mem _ tb_445) (v := .ref (z 60)) rfl dX8_runScript_9 ?_
  have hw : Wd D A (wSc cA z (up κ 7 0 0) ++ (wK cA h σ ++ (wLg cA h σ 600 ++ (wC cA h σ ++ (wH cA h σ ++ (wS h ++ (wX ax (h 46) sv tr (z 60) ++ (wR cA z (up κ 7 0 0) ++ F)))))))) s.heap _ _ := hw.perm (((List.Perm.append_left _ (((List.Perm.append_left _ (((List.Perm.append_left _ (((List.Perm.append_left _ (((List.Perm.append_left _ (List.perm_append_comm_assoc _ _ _))).trans (List.perm_append_comm_assoc _ _ _)))).trans (List.perm_append_comm_assoc _ _ _)))).trans (List.perm_append_comm_assoc _ _ _)))).trans (List.perm_append_comm_assoc _ _ _)))).trans (List.perm_append_comm_assoc _ _ _))
  have hw : Wd D A (wSc cA z (up κ 7 0 0) ++ (wR cA z (up κ 7 0 0) ++ (wK cA h σ ++ (wLg cA h σ 600 ++ (wC cA h σ ++ (wH cA h σ ++ (wS h ++ (wX ax (h 46) sv tr (z 60) ++ F)))))))) s.heap _ _ := hw.perm (List.Perm.append_left _ (((List.Perm.append_left _ (((List.Perm.append_left _ (((List.Perm.append_left _ (((List.Perm.append_left _ (((List.Perm.append_left _ (List.perm_append_comm_assoc _ _ _))).trans (List.perm_append_comm_assoc _ _ _)))).trans (List.perm_append_comm_assoc _ _ _)))).trans (List.perm_append_comm_assoc _ _ _)))).trans (List.perm_append_comm_assoc _ _ _)))).trans (List.perm_append_comm_assoc _ _ _)))
  obtain ⟨p1, h2, hM⟩ := b_some hM
  refine q_cv (As := []) (rest := []) E hw hl (c_X5_parse l D cA tS A z (wK cA h σ ++ (wLg cA h σ 600 ++ (wC cA h σ ++ (wH cA h σ ++ (wS h ++ (wX ax (h 46) sv tr (z 60) ++ F)))))) N (up κ 7 0 0) p1.1 p1.2 h2) 0 (bwV bw_c tb_990 tb_991 tb_992 tb_110 tb_993) rfl (by decide +kernel) ⟨Nat.le_of_ble_eq_true rfl, Nat.le_of_ble_eq_true rfl⟩ 0 5 (T := TX5) (N := 13) rfl rfl rfl rfl (Nat.le_of_ble_eq_true rfl) ⟨Nat.zero_le _, Nat.zero_le _⟩ dX8_runScript_12 (fun H locs hw => ?_)
  refine lv_istore_n (lv' := [(1, .int p1.1), (0, .ref ax)]) hx hb dX8_runScript_15 rfl hl (by decide) rfl (fun ls hl => ?_)
  refine lv_aload_n hx hb dX8_runScript_16 rfl (lv_at hl 1 rfl) ?_
  refine q_get (C := RX8) (T := TX8) (N := 4) (ci := 8) E (fun w h => List.mem_cons_of_mem _ (inX8 w h)) hw 85 rfl rfl 3 (by decide) (List.mem_cons_of_mem _ tb_445) (v := .ref (z 60)) rfl dX8_runScript_17 ?_
  refine lv_iconst (v := 0) hx hb dX8_runScript_20 (by decide) ?_
  refine q_puti (C := RX5) (T := TX5) (N := 13) (ci := 5) E (fun w h => List.mem_cons_of_mem _ (inX5 w h)) tyX5 tyX5_ok nmX5 hw 0 rfl rfl 1 (by decide) (List.mem_cons_of_mem _ tb_396) rfl rfl (Nat.le_of_ble_eq_true rfl) (wSc cA z (up p1.2 1 0 0) ++ (wR cA z (up p1.2 1 0 0) ++ (wK cA h σ ++ (wLg cA h σ 600 ++ (wC cA h σ ++ (wH cA h σ ++ (wS h ++ (wX ax (h 46) sv tr (z 60) ++ F)))))))) st_Sc_R_K_Lg_C_H_S_X_1 dX8_runScript_21 (fun H locs hw => ?_)
  refine lv_iload_n hx hb dX8_runScript_24 rfl (lv_at hl 0 rfl) ?_
  refine lv_if_ne (tgt := 31) hx hb dX8_runScript_25 (by decide) (fun c3 => ?_) (fun c3 => ?_)
  · replace hM := i_neg hM c3
    refine lv_iconst (v := 0) hx hb dX8_runScript_31 (by decide) ?_
    refine lv_istore_n (lv' := [(2, .int 0), (1, .int p1.1), (0, .ref ax)]) hx hb dX8_runScript_32 rfl hl (by decide) rfl (fun ls hl => ?_)
    have hw : Wd D A (wK cA h σ ++ (wSc cA z (up p1.2 1 0 0) ++ (wR cA z (up p1.2 1 0 0) ++ (wLg cA h σ 600 ++ (wC cA h σ ++ (wH cA h σ ++ (wS h ++ (wX ax (h 46) sv tr (z 60) ++ F)))))))) s.heap _ _ := hw.perm (((List.Perm.append_left _ (List.perm_append_comm_assoc _ _ _))).trans (List.perm_append_comm_assoc _ _ _))
    have hw : Wd D A (wK cA h σ ++ (wLg cA h σ 600 ++ (wSc cA z (up p1.2 1 0 0) ++ (wR cA z (up p1.2 1 0 0) ++ (wC cA h σ ++ (wH cA h σ ++ (wS h ++ (wX ax (h 46) sv tr (z 60) ++ F)))))))) s.heap _ _ := hw.perm (List.Perm.append_left _ (((List.Perm.append_left _ (List.perm_append_comm_assoc _ _ _))).trans (List.perm_append_comm_assoc _ _ _)))
    have hw : Wd D A (wK cA h σ ++ (wLg cA h σ 600 ++ (wC cA h σ ++ (wSc cA z (up p1.2 1 0 0) ++ (wR cA z (up p1.2 1 0 0) ++ (wH cA h σ ++ (wS h ++ (wX ax (h 46) sv tr (z 60) ++ F)))))))) s.heap _ _ := hw.perm (List.Perm.append_left _ (List.Perm.append_left _ (((List.Perm.append_left _ (List.perm_append_comm_assoc _ _ _))).trans (List.perm_append_comm_assoc _ _ _))))
    have hw : Wd D A (wK cA h σ ++ (wLg cA h σ 600 ++ (wC cA h σ ++ (wH cA h σ ++ (wSc cA z (up p1.2 1 0 0) ++ (wR cA z (up p1.2 1 0 0) ++ (wS h ++ (wX ax (h 46) sv tr (z 60) ++ F)))))))) s.heap _ _ := hw.perm (List.Perm.append_left _ (List.Perm.append_left _ (List.Perm.append_left _ (((List.Perm.append_left _ (List.perm_append_comm_assoc _ _ _))).trans (List.perm_append_comm_assoc _ _ _)))))
    have hw : Wd D A (wK cA h σ ++ (wLg cA h σ 600 ++ (wC cA h σ ++ (wH cA h σ ++ (wS h ++ (wSc cA z (up p1.2 1 0 0) ++ (wR cA z (up p1.2 1 0 0) ++ (wX ax (h 46) sv tr (z 60) ++ F)))))))) s.heap _ _ := hw.perm (List.Perm.append_left _ (List.Perm.append_left _ (List.Perm.append_left _ (List.Perm.append_left _ (((List.Perm.append_left _ (List.perm_append_comm_assoc _ _ _))).trans (List.perm_append_comm_assoc _ _ _))))))
    have hw : Wd D A (wK cA h σ ++ (wLg cA h σ 600 ++ (wC cA h σ ++ (wH cA h σ ++ (wS h ++ (wX ax (h 46) sv tr (z 60) ++ (wSc cA z (up p1.2 1 0 0) ++ (wR cA z (up p1.2 1 0 0) ++ F)))))))) s.heap _ _ := hw.perm (List.Perm.append_left _ (List.Perm.append_left _ (List.Perm.append_left _ (List.Perm.append_left _ (List.Perm.append_left _ (((List.Perm.append_left _ (List.perm_append_comm_assoc _ _ _))).trans (List.perm_append_comm_assoc _ _ _)))))))
    exact s_X8_runScript_33 l D cA tS A h z ax sv tr F N E N _ _ _ _ _ _ hM _ _ hw _ (lv_sub hl [2, 0] rfl)
  · replace hM := i_pos hM c3
    refine lv_bipush (v := (-7)) hx hb dX8_runScript_28 (by decide) ?_
    have hw : Wd D A (wK cA h σ ++ (wSc cA z (up p1.2 1 0 0) ++ (wR cA z (up p1.2 1 0 0) ++ (wLg cA h σ 600 ++ (wC cA h σ ++ (wH cA h σ ++ (wS h ++ (wX ax (h 46) sv tr (z 60) ++ F)))))))) s.heap _ _ := hw.perm (((List.Perm.append_left _ (List.perm_append_comm_assoc _ _ _))).trans (List.perm_append_comm_assoc _ _ _))
    have hw : Wd D A (wK cA h σ ++ (wLg cA h σ 600 ++ (wSc cA z (up p1.2 1 0 0) ++ (wR cA z (up p1.2 1 0 0) ++ (wC cA h σ ++ (wH cA h σ ++ (wS h ++ (wX ax (h 46) sv tr (z 60) ++ F)))))))) s.heap _ _ := hw.perm (List.Perm.append_left _ (((List.Perm.append_left _ (List.perm_append_comm_assoc _ _ _))).trans (List.perm_append_comm_assoc _ _ _)))
    have hw : Wd D A (wK cA h σ ++ (wLg cA h σ 600 ++ (wC cA h σ ++ (wSc cA z (up p1.2 1 0 0) ++ (wR cA z (up p1.2 1 0 0) ++ (wH cA h σ ++ (wS h ++ (wX ax (h 46) sv tr (z 60) ++ F)))))))) s.heap _ _ := hw.perm (List.Perm.append_left _ (List.Perm.append_left _ (((List.Perm.append_left _ (List.perm_append_comm_assoc _ _ _))).trans (List.perm_append_comm_assoc _ _ _))))
    have hw : Wd D A (wK cA h σ ++ (wLg cA h σ 600 ++ (wC cA h σ ++ (wH cA h σ ++ (wSc cA z (up p1.2 1 0 0) ++ (wR cA z (up p1.2 1 0 0) ++ (wS h ++ (wX ax (h 46) sv tr (z 60) ++ F)))))))) s.heap _ _ := hw.perm (List.Perm.append_left _ (List.Perm.append_left _ (List.Perm.append_left _ (((List.Perm.append_left _ (List.perm_append_comm_assoc _ _ _))).trans (List.perm_append_comm_assoc _ _ _)))))
    have hw : Wd D A (wK cA h σ ++ (wLg cA h σ 600 ++ (wC cA h σ ++ (wH cA h σ ++ (wS h ++ (wSc cA z (up p1.2 1 0 0) ++ (wR cA z (up p1.2 1 0 0) ++ (wX ax (h 46) sv tr (z 60) ++ F)))))))) s.heap _ _ := hw.perm (List.Perm.append_left _ (List.Perm.append_left _ (List.Perm.append_left _ (List.Perm.append_left _ (((List.Perm.append_left _ (List.perm_append_comm_assoc _ _ _))).trans (List.perm_append_comm_assoc _ _ _))))))
    have hw : Wd D A (wK cA h σ ++ (wLg cA h σ 600 ++ (wC cA h σ ++ (wH cA h σ ++ (wS h ++ (wX ax (h 46) sv tr (z 60) ++ (wSc cA z (up p1.2 1 0 0) ++ (wR cA z (up p1.2 1 0 0) ++ F)))))))) s.heap _ _ := hw.perm (List.Perm.append_left _ (List.Perm.append_left _ (List.Perm.append_left _ (List.Perm.append_left _ (List.Perm.append_left _ (((List.Perm.append_left _ (List.perm_append_comm_assoc _ _ _))).trans (List.perm_append_comm_assoc _ _ _)))))))
    cases hM
    exact q_reti E hw dX8_runScript_30
set_option maxRecDepth 100000 in
set_option maxHeartbeats 4000000 in
theorem c_X8_errorCode (l : Launch) (D : va_G) (cA : Nat → ClassId) (tS : Nat → Nat) (A : Nat → Prop) (h : Nat → Nat) (z : Nat → Nat) (ax : Nat) (sv : Nat) (tr : Nat) (F : va_W) (σ : Sg) (κ : Sg) (r0 : Int32) (hM : f_X8_errorCode σ κ = some r0) : Ct l yX8_errorCode (Cond.code yX8_errorCode cX8_errorCode 1 (some .int) :: bw) 0 0 D cA tS A [.ref ax] (wK cA h σ ++ (wLg cA h σ 600 ++ (wC cA h σ ++ (wH cA h σ ++ (wS h ++ (wX ax (h 46) sv tr (z 60) ++ (wSc cA z κ ++ (wR cA z κ ++ F)))))))) (some (.int r0)) (wK cA h σ ++ (wLg cA h σ 600 ++ (wC cA h σ ++ (wH cA h σ ++ (wS h ++ (wX ax (h 46) sv tr (z 60) ++ (wSc cA z κ ++ (wR cA z κ ++ F)))))))) := by
  refine ct_of (by decide +kernel) (Nat.le_of_ble_eq_true rfl) ?_
  intro p e s m below meth c E hw ls hl
  replace E : Ev p cX8_errorCode 1 (some .int) RX8 (Cond.code yX8_errorCode cX8_errorCode 1 (some .int) :: bw) D cA tS A s m _ meth c := E
  replace hl : lv_has ls 1 [(0, .ref ax)] := hl
  have hx := E.1.1
  have hb := E.1.2.1
  unfold f_X8_errorCode at hM
  refine lv_aload_n hx hb dX8_errorCode_0 rfl (lv_at hl 0 rfl) ?_
  refine q_get (C := RX8) (T := TX8) (N := 4) (ci := 8) E (fun w h => List.mem_cons_of_mem _ (inX8 w h)) hw 40 rfl rfl 3 (by decide) (List.mem_cons_of_mem _ tb_445) (v := .ref (z 60)) rfl dX8_errorCode_1 ?_
  refine q_get (C := RX5) (T := TX5) (N := 13) (ci := 5) E (fun w h => List.mem_cons_of_mem _ (inX5 w h)) hw 41 rfl rfl 6 (by decide) (List.mem_cons_of_mem _ tb_406) (v := .int (κ 5 0)) rfl dX8_errorCode_4 ?_
  cases hM
  exact q_reti E hw dX8_errorCode_7
set_option maxRecDepth 100000 in
set_option maxHeartbeats 4000000 in
theorem c_X8_errorPosition (l : Launch) (D : va_G) (cA : Nat → ClassId) (tS : Nat → Nat) (A : Nat → Prop) (h : Nat → Nat) (z : Nat → Nat) (ax : Nat) (sv : Nat) (tr : Nat) (F : va_W) (σ : Sg) (κ : Sg) (r0 : Int32) (hM : f_X8_errorPosition σ κ = some r0) : Ct l yX8_errorPosition (Cond.code yX8_errorPosition cX8_errorPosition 1 (some .int) :: bw) 0 0 D cA tS A [.ref ax] (wK cA h σ ++ (wLg cA h σ 600 ++ (wC cA h σ ++ (wH cA h σ ++ (wS h ++ (wX ax (h 46) sv tr (z 60) ++ (wSc cA z κ ++ (wR cA z κ ++ F)))))))) (some (.int r0)) (wK cA h σ ++ (wLg cA h σ 600 ++ (wC cA h σ ++ (wH cA h σ ++ (wS h ++ (wX ax (h 46) sv tr (z 60) ++ (wSc cA z κ ++ (wR cA z κ ++ F)))))))) := by
  refine ct_of (by decide +kernel) (Nat.le_of_ble_eq_true rfl) ?_
  intro p e s m below meth c E hw ls hl
  replace E : Ev p cX8_errorPosition 1 (some .int) RX8 (Cond.code yX8_errorPosition cX8_errorPosition 1 (some .int) :: bw) D cA tS A s m _ meth c := E
  replace hl : lv_has ls 1 [(0, .ref ax)] := hl
  have hx := E.1.1
  have hb := E.1.2.1
  unfold f_X8_errorPosition at hM
  refine lv_aload_n hx hb dX8_errorPosition_0 rfl (lv_at hl 0 rfl) ?_
  refine q_get (C := RX8) (T := TX8) (N := 4) (ci := 8) E (fun w h => List.mem_cons_of_mem _ (inX8 w h)) hw 40 rfl rfl 3 (by decide) (List.mem_cons_of_mem _ tb_445) (v := .ref (z 60)) rfl dX8_errorPosition_1 ?_
  refine q_get (C := RX5) (T := TX5) (N := 13) (ci := 5) E (fun w h => List.mem_cons_of_mem _ (inX5 w h)) hw 41 rfl rfl 7 (by decide) (List.mem_cons_of_mem _ tb_408) (v := .int (κ 6 0)) rfl dX8_errorPosition_4 ?_
  cases hM
  exact q_reti E hw dX8_errorPosition_7
set_option maxRecDepth 100000 in
set_option maxHeartbeats 4000000 in
theorem c_X8_scriptFailure (l : Launch) (D : va_G) (cA : Nat → ClassId) (tS : Nat → Nat) (A : Nat → Prop) (h : Nat → Nat) (z : Nat → Nat) (ax : Nat) (sv : Nat) (tr : Nat) (F : va_W) (σ : Sg) (κ : Sg) (r0 : Int32) (hM : f_X8_scriptFailure σ κ = some r0) : Ct l yX8_scriptFailure (Cond.code yX8_scriptFailure cX8_scriptFailure 1 (some .int) :: bw) 0 0 D cA tS A [.ref ax] (wK cA h σ ++ (wLg cA h σ 600 ++ (wC cA h σ ++ (wH cA h σ ++ (wS h ++ (wX ax (h 46) sv tr (z 60) ++ (wSc cA z κ ++ (wR cA z κ ++ F)))))))) (some (.int r0)) (wK cA h σ ++ (wLg cA h σ 600 ++ (wC cA h σ ++ (wH cA h σ ++ (wS h ++ (wX ax (h 46) sv tr (z 60) ++ (wSc cA z κ ++ (wR cA z κ ++ F)))))))) := by
  refine ct_of (by decide +kernel) (Nat.le_of_ble_eq_true rfl) ?_
  intro p e s m below meth c E hw ls hl
  replace E : Ev p cX8_scriptFailure 1 (some .int) RX8 (Cond.code yX8_scriptFailure cX8_scriptFailure 1 (some .int) :: bw) D cA tS A s m _ meth c := E
  replace hl : lv_has ls 1 [(0, .ref ax)] := hl
  have hx := E.1.1
  have hb := E.1.2.1
  unfold f_X8_scriptFailure at hM
  refine lv_aload_n hx hb dX8_scriptFailure_0 rfl (lv_at hl 0 rfl) ?_
  refine q_get (C := RX8) (T := TX8) (N := 4) (ci := 8) E (fun w h => List.mem_cons_of_mem _ (inX8 w h)) hw 40 rfl rfl 3 (by decide) (List.mem_cons_of_mem _ tb_445) (v := .ref (z 60)) rfl dX8_scriptFailure_1 ?_
  refine q_get (C := RX5) (T := TX5) (N := 13) (ci := 5) E (fun w h => List.mem_cons_of_mem _ (inX5 w h)) hw 41 rfl rfl 8 (by decide) (List.mem_cons_of_mem _ tb_409) (v := .int (κ 7 0)) rfl dX8_scriptFailure_4 ?_
  cases hM
  exact q_reti E hw dX8_scriptFailure_7
