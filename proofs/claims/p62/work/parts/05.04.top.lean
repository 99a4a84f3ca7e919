set_option maxRecDepth 100000 in
set_option maxHeartbeats 4000000 in
theorem c_X8_openMinutes (l : Launch) (D : va_G) (cA : Nat → ClassId) (tS : Nat → Nat) (A : Nat → Prop) (h : Nat → Nat) (ax : Nat) (sv : Nat) (tr : Nat) (sc : Nat) (F : va_W) (N : Nat) (x1 : Int32) (x2 : Int32) (σ : Sg) (r0 : Int32) (hM : f_X8_openMinutes N x1 x2 σ = some r0) : Ct l yX8_openMinutes (Cond.code yX8_openMinutes cX8_openMinutes 3 (some .int) :: bw) 2 47 D cA tS A [.ref ax, .int x1, .int x2] (wK cA h σ ++ (wLg cA h σ 600 ++ (wC cA h σ ++ (wH cA h σ ++ (wS h ++ (wX ax (h 46) sv tr sc ++ F)))))) (some (.int r0)) (wK cA h σ ++ (wLg cA h σ 600 ++ (wC cA h σ ++ (wH cA h σ ++ (wS h ++ (wX ax (h 46) sv tr sc ++ F)))))) := by
  refine ct_of (by decide +kernel) (Nat.le_of_ble_eq_true rfl) ?_
  intro p e s m below meth c E hw ls hl
  replace E : Ev p cX8_openMinutes 3 (some .int) RX8 (Cond.code yX8_openMinutes cX8_openMinutes 3 (some .int) :: bw) D cA tS A s m _ meth c := E
  replace hl : lv_has ls 3 [(0, .ref ax), (1, .int x1), (2, .int x2)] := hl
  have hx := E.1.1
  have hb := E.1.2.1
  unfold f_X8_openMinutes at hM
  refine lv_iload_n hx hb dX8_openMinutes_0 rfl (lv_at hl 1 rfl) ?_
  refine lv_iconst (v := 0) hx hb dX8_openMinutes_1 (by decide) ?_
  refine lv_sipush (v := 10080) hx hb dX8_openMinutes_2 (by decide) ?_
  obtain ⟨p1, h2, hM⟩ := b_some hM
  refine q_cs (As := [.int x1, .int 0, .int 10080]) (rest := []) E hw hl (c_X8_within l D cA tS A (wK cA h σ ++ (wLg cA h σ 600 ++ (wC cA h σ ++ (wH cA h σ ++ (wS h ++ (wX ax (h 46) sv tr sc ++ F)))))) x1 0 10080 p1 h2) 3 (bwS bw_c tb_450 tb_451 tb_47 tb_452) rfl (by decide +kernel) ⟨Nat.le_of_ble_eq_true rfl, Nat.le_of_ble_eq_true rfl⟩ rfl rfl (Nat.le_of_ble_eq_true rfl) ⟨Nat.zero_le _, Nat.zero_le _⟩ dX8_openMinutes_5 (fun H locs hw => ?_)
  refine lv_if_eq (tgt := 22) hx hb dX8_openMinutes_8 (by decide) (fun c3 => ?_) (fun c3 => ?_)
  · replace hM := i_pos hM c3
    refine lv_bipush (v := (-4)) hx hb dX8_openMinutes_22 (by decide) ?_
    cases hM
    exact q_reti E hw dX8_openMinutes_24
  · replace hM := i_neg hM c3
    refine lv_iload_n hx hb dX8_openMinutes_11 rfl (lv_at hl 2 rfl) ?_
    refine lv_iload_n hx hb dX8_openMinutes_12 rfl (lv_at hl 1 rfl) ?_
    refine lv_sipush (v := 10080) hx hb dX8_openMinutes_13 (by decide) ?_
    obtain ⟨p4, h5, hM⟩ := b_some hM
    refine q_cs (As := [.int x2, .int x1, .int 10080]) (rest := []) E hw hl (c_X8_within l D cA tS A (wK cA h σ ++ (wLg cA h σ 600 ++ (wC cA h σ ++ (wH cA h σ ++ (wS h ++ (wX ax (h 46) sv tr sc ++ F)))))) x2 x1 10080 p4 h5) 3 (bwS bw_c tb_450 tb_451 tb_47 tb_452) rfl (by decide +kernel) ⟨Nat.le_of_ble_eq_true rfl, Nat.le_of_ble_eq_true rfl⟩ rfl rfl (Nat.le_of_ble_eq_true rfl) ⟨Nat.zero_le _, Nat.zero_le _⟩ dX8_openMinutes_16 (fun H locs hw => ?_)
    refine lv_if_ne (tgt := 25) hx hb dX8_openMinutes_19 (by decide) (fun c6 => ?_) (fun c6 => ?_)
    · replace hM := i_neg hM c6
      refine lv_aload_n hx hb dX8_openMinutes_25 rfl (lv_at hl 0 rfl) ?_
      refine q_get (C := RX8) (T := TX8) (N := 4) (ci := 8) E (fun w h => List.mem_cons_of_mem _ (inX8 w h)) hw 40 rfl rfl 0 (by decide) (List.mem_cons_of_mem _ tb_373) (v := .ref (h 46)) rfl dX8_openMinutes_26 ?_
      refine q_get (C := RX6) (T := TX6) (N := 2) (ci := 6) E (fun w h => List.mem_cons_of_mem _ (inX6 w h)) hw 39 rfl rfl 0 (by decide) (List.mem_cons_of_mem _ tb_321) (v := .ref (h 42)) rfl dX8_openMinutes_29 ?_
      refine q_get (C := RX1) (T := TX1) (N := 6) (ci := 1) E (fun w h => List.mem_cons_of_mem _ (inX1 w h)) hw 12 rfl rfl 0 (by decide) (List.mem_cons_of_mem _ tb_267) (v := .ref (h 43)) rfl dX8_openMinutes_32 ?_
      refine lv_iload_n hx hb dX8_openMinutes_35 rfl (lv_at hl 1 rfl) ?_
      refine lv_iload_n hx hb dX8_openMinutes_36 rfl (lv_at hl 2 rfl) ?_
      obtain ⟨p7, h8, hM⟩ := b_some hM
      refine q_cv (As := [.int x1, .int x2]) (rest := []) E hw hl (c_X0_openBetween l D cA tS A h 600 (wH cA h σ ++ (wS h ++ (wX ax (h 46) sv tr sc ++ F))) N x1 x2 σ p7 h8) 2 (bwV bw_c tb_983 tb_984 tb_985 tb_50 tb_986) rfl (by decide +kernel) ⟨Nat.le_of_ble_eq_true rfl, Nat.le_of_ble_eq_true rfl⟩ 13 0 (T := TX0) (N := 2) rfl rfl rfl rfl (Nat.le_of_ble_eq_true rfl) ⟨Nat.zero_le _, Nat.zero_le _⟩ dX8_openMinutes_37 (fun H locs hw => ?_)
      cases hM
      exact q_reti E hw dX8_openMinutes_40
    · replace hM := i_pos hM c6
      refine lv_bipush (v := (-4)) hx hb dX8_openMinutes_22 (by decide) ?_
      cases hM
      exact q_reti E hw dX8_openMinutes_24
set_option maxRecDepth 100000 in
set_option maxHeartbeats 4000000 in
theorem c_X8_addKind (l : Launch) (D : va_G) (cA : Nat → ClassId) (tS : Nat → Nat) (A : Nat → Prop) (h : Nat → Nat) (ax : Nat) (sv : Nat) (tr : Nat) (sc : Nat) (F : va_W) (x1 : Int32) (x2 : Int32) (x3 : Int32) (x4 : Int32) (x5 : Int32) (x6 : Int32) (σ : Sg) (r0 : Int32) (s0 : Sg) (hM : f_X8_addKind x1 x2 x3 x4 x5 x6 σ = some (r0, s0)) : Ct l yX8_addKind (Cond.code yX8_addKind cX8_addKind 7 (some .int) :: bw) 1 27 D cA tS A [.ref ax, .int x1, .int x2, .int x3, .int x4, .int x5, .int x6] (wK cA h σ ++ (wLg cA h σ 600 ++ (wC cA h σ ++ (wH cA h σ ++ (wS h ++ (wX ax (h 46) sv tr sc ++ F)))))) (some (.int r0)) (wK cA h s0 ++ (wLg cA h s0 600 ++ (wC cA h s0 ++ (wH cA h s0 ++ (wS h ++ (wX ax (h 46) sv tr sc ++ F)))))) := by
  refine ct_of (by decide +kernel) (Nat.le_of_ble_eq_true rfl) ?_
  intro p e s m below meth c E hw ls hl
  replace E : Ev p cX8_addKind 7 (some .int) RX8 (Cond.code yX8_addKind cX8_addKind 7 (some .int) :: bw) D cA tS A s m _ meth c := E
  replace hl : lv_has ls 7 [(0, .ref ax), (1, .int x1), (2, .int x2), (3, .int x3), (4, .int x4), (5, .int x5), (6, .int x6)] := hl
  have hx := E.1.1
  have hb := E.1.2.1
  unfold f_X8_addKind at hM
  refine lv_iload_n hx hb dX8_addKind_0 rfl (lv_at hl 1 rfl) ?_
  refine lv_iconst (v := 0) hx hb dX8_addKind_1 (by decide) ?_
  refine lv_sipush (v := 10080) hx hb dX8_addKind_2 (by decide) ?_
  obtain ⟨p1, h2, hM⟩ := b_some hM
  refine q_cs (As := [.int x1, .int 0, .int 10080]) (rest := []) E hw hl (c_X8_within l D cA tS A (wK cA h σ ++ (wLg cA h σ 600 ++ (wC cA h σ ++ (wH cA h σ ++ (wS h ++ (wX ax (h 46) sv tr sc ++ F)))))) x1 0 10080 p1 h2) 3 (bwS bw_c tb_450 tb_451 tb_47 tb_452) rfl (by decide +kernel) ⟨Nat.le_of_ble_eq_true rfl, Nat.le_of_ble_eq_true rfl⟩ rfl rfl (Nat.le_of_ble_eq_true rfl) ⟨Nat.zero_le _, Nat.zero_le _⟩ dX8_addKind_5 (fun H locs hw => ?_)
  refine lv_if_eq (tgt := 55) hx hb dX8_addKind_8 (by decide) (fun c3 => ?_) (fun c3 => ?_)
  · replace hM := i_pos hM c3
    refine lv_bipush (v := (-4)) hx hb dX8_addKind_55 (by decide) ?_
    cases hM
    exact q_reti E hw dX8_addKind_57
  · replace hM := i_neg hM c3
    refine lv_iload_n hx hb dX8_addKind_11 rfl (lv_at hl 2 rfl) ?_
    refine lv_iconst (v := 0) hx hb dX8_addKind_12 (by decide) ?_
    refine lv_sipush (v := 10080) hx hb dX8_addKind_13 (by decide) ?_
    obtain ⟨p4, h5, hM⟩ := b_some hM
    refine q_cs (As := [.int x2, .int 0, .int 10080]) (rest := []) E hw hl (c_X8_within l D cA tS A (wK cA h σ ++ (wLg cA h σ 600 ++ (wC cA h σ ++ (wH cA h σ ++ (wS h ++ (wX ax (h 46) sv tr sc ++ F)))))) x2 0 10080 p4 h5) 3 (bwS bw_c tb_450 tb_451 tb_47 tb_452) rfl (by decide +kernel) ⟨Nat.le_of_ble_eq_true rfl, Nat.le_of_ble_eq_true rfl⟩ rfl rfl (Nat.le_of_ble_eq_true rfl) ⟨Nat.zero_le _, Nat.zero_le _⟩ dX8_addKind_16 (fun H locs hw => ?_)
    refine lv_if_eq (tgt := 55) hx hb dX8_addKind_19 (by decide) (fun c6 => ?_) (fun c6 => ?_)
    · replace hM := i_pos hM c6
      refine lv_bipush (v := (-4)) hx hb dX8_addKind_55 (by decide) ?_
      cases hM
      exact q_reti E hw dX8_addKind_57
    · replace hM := i_neg hM c6
      refine lv_iload_n hx hb dX8_addKind_22 rfl (lv_at hl 3 rfl) ?_
      refine lv_iconst (v := 1) hx hb dX8_addKind_23 (by decide) ?_
      refine lv_sipush (v := 480) hx hb dX8_addKind_24 (by decide) ?_
      obtain ⟨p7, h8, hM⟩ := b_some hM
      refine q_cs (As := [.int x3, .int 1, .int 480]) (rest := []) E hw hl (c_X8_within l D cA tS A (wK cA h σ ++ (wLg cA h σ 600 ++ (wC cA h σ ++ (wH cA h σ ++ (wS h ++ (wX ax (h 46) sv tr sc ++ F)))))) x3 1 480 p7 h8) 3 (bwS bw_c tb_450 tb_451 tb_47 tb_452) rfl (by decide +kernel) ⟨Nat.le_of_ble_eq_true rfl, Nat.le_of_ble_eq_true rfl⟩ rfl rfl (Nat.le_of_ble_eq_true rfl) ⟨Nat.zero_le _, Nat.zero_le _⟩ dX8_addKind_27 (fun H locs hw => ?_)
      refine lv_if_eq (tgt := 55) hx hb dX8_addKind_30 (by decide) (fun c9 => ?_) (fun c9 => ?_)
      · replace hM := i_pos hM c9
        refine lv_bipush (v := (-4)) hx hb dX8_addKind_55 (by decide) ?_
        cases hM
        exact q_reti E hw dX8_addKind_57
      · replace hM := i_neg hM c9
        refine lv_iload hx hb dX8_addKind_33 (lv_at hl 4 rfl) ?_
        refine lv_iconst (v := 0) hx hb dX8_addKind_35 (by decide) ?_
        refine lv_iconst (v := 3) hx hb dX8_addKind_36 (by decide) ?_
        obtain ⟨p10, h11, hM⟩ := b_some hM
        refine q_cs (As := [.int x4, .int 0, .int 3]) (rest := []) E hw hl (c_X8_within l D cA tS A (wK cA h σ ++ (wLg cA h σ 600 ++ (wC cA h σ ++ (wH cA h σ ++ (wS h ++ (wX ax (h 46) sv tr sc ++ F)))))) x4 0 3 p10 h11) 3 (bwS bw_c tb_450 tb_451 tb_47 tb_452) rfl (by decide +kernel) ⟨Nat.le_of_ble_eq_true rfl, Nat.le_of_ble_eq_true rfl⟩ rfl rfl (Nat.le_of_ble_eq_true rfl) ⟨Nat.zero_le _, Nat.zero_le _⟩ dX8_addKind_37 (fun H locs hw => ?_)
        refine lv_if_eq (tgt := 55) hx hb dX8_addKind_40 (by decide) (fun c12 => ?_) (fun c12 => ?_)
        · replace hM := i_pos hM c12
          refine lv_bipush (v := (-4)) hx hb dX8_addKind_55 (by decide) ?_
          cases hM
          exact q_reti E hw dX8_addKind_57
        · replace hM := i_neg hM c12
          refine lv_iload hx hb dX8_addKind_43 (lv_at hl 5 rfl) ?_
          refine lv_iconst (v := 0) hx hb dX8_addKind_45 (by decide) ?_
          refine lv_sipush (v := 10080) hx hb dX8_addKind_46 (by decide) ?_
          obtain ⟨p13, h14, hM⟩ := b_some hM
          refine q_cs (As := [.int x5, .int 0, .int 10080]) (rest := []) E hw hl (c_X8_within l D cA tS A (wK cA h σ ++ (wLg cA h σ 600 ++ (wC cA h σ ++ (wH cA h σ ++ (wS h ++ (wX ax (h 46) sv tr sc ++ F)))))) x5 0 10080 p13 h14) 3 (bwS bw_c tb_450 tb_451 tb_47 tb_452) rfl (by decide +kernel) ⟨Nat.le_of_ble_eq_true rfl, Nat.le_of_ble_eq_true rfl⟩ rfl rfl (Nat.le_of_ble_eq_true rfl) ⟨Nat.zero_le _, Nat.zero_le _⟩ dX8_addKind_49 (fun H locs hw => ?_)
          refine lv_if_ne (tgt := 58) hx hb dX8_addKind_52 (by decide) (fun c15 => ?_) (fun c15 => ?_)
          · replace hM := i_neg hM c15
            refine lv_aload_n hx hb dX8_addKind_58 rfl (lv_at hl 0 rfl) ?_
            refine q_get (C := RX8) (T := TX8) (N := 4) (ci := 8) E (fun w h => List.mem_cons_of_mem _ (inX8 w h)) hw 40 rfl rfl 0 (by decide) (List.mem_cons_of_mem _ tb_373) (v := .ref (h 46)) rfl dX8_addKind_59 ?_
            refine q_get (C := RX6) (T := TX6) (N := 2) (ci := 6) E (fun w h => List.mem_cons_of_mem _ (inX6 w h)) hw 39 rfl rfl 0 (by decide) (List.mem_cons_of_mem _ tb_321) (v := .ref (h 42)) rfl dX8_addKind_62 ?_
            refine q_get (C := RX1) (T := TX1) (N := 6) (ci := 1) E (fun w h => List.mem_cons_of_mem _ (inX1 w h)) hw 12 rfl rfl 1 (by decide) (List.mem_cons_of_mem _ tb_269) (v := .ref (h 40)) rfl dX8_addKind_65 ?_
            refine lv_iload_n hx hb dX8_addKind_68 rfl (lv_at hl 1 rfl) ?_
            refine lv_iload_n hx hb dX8_addKind_69 rfl (lv_at hl 2 rfl) ?_
            refine lv_iload_n hx hb dX8_addKind_70 rfl (lv_at hl 3 rfl) ?_
            refine lv_iload hx hb dX8_addKind_71 (lv_at hl 4 rfl) ?_
            refine lv_iload hx hb dX8_addKind_73 (lv_at hl 5 rfl) ?_
            refine lv_iload hx hb dX8_addKind_75 (lv_at hl 6 rfl) ?_
            obtain ⟨p16, h17, hM⟩ := b_some hM
            refine q_cv (As := [.int x1, .int x2, .int x3, .int x4, .int x5, .int x6]) (rest := []) E hw hl (c_X3_add l D cA tS A h 600 (wH cA h σ ++ (wS h ++ (wX ax (h 46) sv tr sc ++ F))) x1 x2 x3 x4 x5 x6 σ p16.1 p16.2 h17) 6 (bwV bw_c tb_453 tb_454 tb_455 tb_51 tb_456) rfl (by decide +kernel) ⟨Nat.le_of_ble_eq_true rfl, Nat.le_of_ble_eq_true rfl⟩ 0 3 (T := TX3) (N := 7) rfl rfl rfl rfl (Nat.le_of_ble_eq_true rfl) ⟨Nat.zero_le _, Nat.zero_le _⟩ dX8_addKind_77 (fun H locs hw => ?_)
            have hw : Wd D A (wK cA h (mixKLgC p16.2 σ) ++ (wLg cA h (mixKLgC p16.2 σ) 600 ++ (wC cA h (mixKLgC p16.2 σ) ++ (wH cA h (mixKLgC p16.2 σ) ++ (wS h ++ (wX ax (h 46) sv tr sc ++ F)))))) s.heap _ _ := hw
            cases hM
            exact q_reti E hw dX8_addKind_80
          · replace hM := i_pos hM c15
            refine lv_bipush (v := (-4)) hx hb dX8_addKind_55 (by decide) ?_
            cases hM
            exact q_reti E hw dX8_addKind_57
set_option maxRecDepth 100000 in
set_option maxHeartbeats 4000000 in
theorem c_X8_change (l : Launch) (D : va_G) (cA : Nat → ClassId) (tS : Nat → Nat) (A : Nat → Prop) (h : Nat → Nat) (ax : Nat) (sv : Nat) (tr : Nat) (sc : Nat) (F : va_W) (N : Nat) (x1 : Int32) (x2 : Int32) (x3 : Int32) (x4 : Int32) (x5 : Int32) (σ : Sg) (r0 : Int32) (s0 : Sg) (hM : f_X8_change N x1 x2 x3 x4 x5 σ = some (r0, s0)) : Ct l yX8_change (Cond.code yX8_change cX8_change 7 (some .int) :: bw) 4 95 D cA tS A [.ref ax, .int x1, .int x2, .int x3, .int x4, .int x5] (wK cA h σ ++ (wLg cA h σ 600 ++ (wC cA h σ ++ (wH cA h σ ++ (wS h ++ (wX ax (h 46) sv tr sc ++ F)))))) (some (.int r0)) (wK cA h s0 ++ (wLg cA h s0 600 ++ (wC cA h s0 ++ (wH cA h s0 ++ (wS h ++ (wX ax (h 46) sv tr sc ++ F)))))) := by
  refine ct_of (by decide +kernel) (Nat.le_of_ble_eq_true rfl) ?_
  intro p e s m below meth c E hw ls hl
  replace E : Ev p cX8_change 7 (some .int) RX8 (Cond.code yX8_change cX8_change 7 (some .int) :: bw) D cA tS A s m _ meth c := E
  replace hl : lv_has ls 7 [(0, .ref ax), (1, .int x1), (2, .int x2), (3, .int x3), (4, .int x4), (5, .int x5)] := hl
  have hx := E.1.1
  have hb := E.1.2.1
  unfold f_X8_change at hM
  refine lv_aload_n hx hb dX8_change_0 rfl (lv_at hl 0 rfl) ?_
  refine q_get (C := RX8) (T := TX8) (N := 4) (ci := 8) E (fun w h => List.mem_cons_of_mem _ (inX8 w h)) hw 40 rfl rfl 0 (by decide) (List.mem_cons_of_mem _ tb_373) (v := .ref (h 46)) rfl dX8_change_1 ?_
  refine q_get (C := RX6) (T := TX6) (N := 2) (ci := 6) E (fun w h => List.mem_cons_of_mem _ (inX6 w h)) hw 39 rfl rfl 0 (by decide) (List.mem_cons_of_mem _ tb_321) (v := .ref (h 42)) rfl dX8_change_4 ?_
  refine lv_iload_n hx hb dX8_change_7 rfl (lv_at hl 1 rfl) ?_
  refine lv_iload_n hx hb dX8_change_8 rfl (lv_at hl 2 rfl) ?_
  refine lv_iload_n hx hb dX8_change_9 rfl (lv_at hl 3 rfl) ?_
  refine lv_iload hx hb dX8_change_10 (lv_at hl 4 rfl) ?_
  refine lv_iload hx hb dX8_change_12 (lv_at hl 5 rfl) ?_
  obtain ⟨p1, h2, hM⟩ := b_some hM
  refine q_cv (As := [.int x1, .int x2, .int x3, .int x4, .int x5]) (rest := []) E hw hl (c_X1_errorOf l D cA tS A h 600 (wH cA h σ ++ (wS h ++ (wX ax (h 46) sv tr sc ++ F))) x1 x2 x3 x4 x5 σ p1 h2) 5 (bwV bw_c tb_523 tb_524 tb_525 tb_49 tb_526) rfl (by decide +kernel) ⟨Nat.le_of_ble_eq_true rfl, Nat.le_of_ble_eq_true rfl⟩ 12 1 (T := TX1) (N := 6) rfl rfl rfl rfl (Nat.le_of_ble_eq_true rfl) ⟨Nat.zero_le _, Nat.zero_le _⟩ dX8_change_14 (fun H locs hw => ?_)
  refine lv_istore (lv' := [(6, .int p1), (0, .ref ax), (1, .int x1), (2, .int x2), (3, .int x3), (4, .int x4), (5, .int x5)]) hx hb dX8_change_17 hl (by decide) rfl (fun ls hl => ?_)
  refine lv_iload hx hb dX8_change_19 (lv_at hl 0 rfl) ?_
  refine lv_if_eq (tgt := 27) hx hb dX8_change_21 (by decide) (fun c3 => ?_) (fun c3 => ?_)
  · replace hM := i_pos hM c3
    refine lv_aload_n hx hb dX8_change_27 rfl (lv_at hl 1 rfl) ?_
    refine q_get (C := RX8) (T := TX8) (N := 4) (ci := 8) E (fun w h => List.mem_cons_of_mem _ (inX8 w h)) hw 40 rfl rfl 0 (by decide) (List.mem_cons_of_mem _ tb_373) (v := .ref (h 46)) rfl dX8_change_28 ?_
    refine q_get (C := RX6) (T := TX6) (N := 2) (ci := 6) E (fun w h => List.mem_cons_of_mem _ (inX6 w h)) hw 39 rfl rfl 1 (by decide) (List.mem_cons_of_mem _ tb_323) (v := .ref (h 45)) rfl dX8_change_31 ?_
    refine lv_aload_n hx hb dX8_change_34 rfl (lv_at hl 1 rfl) ?_
    refine q_get (C := RX8) (T := TX8) (N := 4) (ci := 8) E (fun w h => List.mem_cons_of_mem _ (inX8 w h)) hw 40 rfl rfl 0 (by decide) (List.mem_cons_of_mem _ tb_373) (v := .ref (h 46)) rfl dX8_change_35 ?_
    refine q_get (C := RX6) (T := TX6) (N := 2) (ci := 6) E (fun w h => List.mem_cons_of_mem _ (inX6 w h)) hw 39 rfl rfl 0 (by decide) (List.mem_cons_of_mem _ tb_321) (v := .ref (h 42)) rfl dX8_change_38 ?_
    refine q_get (C := RX1) (T := TX1) (N := 6) (ci := 1) E (fun w h => List.mem_cons_of_mem _ (inX1 w h)) hw 12 rfl rfl 5 (by decide) (List.mem_cons_of_mem _ tb_277) (v := .int (σ 12 0)) rfl dX8_change_41 ?_
    refine lv_iload_n hx hb dX8_change_44 rfl (lv_at hl 2 rfl) ?_
    refine lv_iload_n hx hb dX8_change_45 rfl (lv_at hl 3 rfl) ?_
    refine lv_iload_n hx hb dX8_change_46 rfl (lv_at hl 4 rfl) ?_
    refine lv_iload hx hb dX8_change_47 (lv_at hl 5 rfl) ?_
    refine lv_iload hx hb dX8_change_49 (lv_at hl 6 rfl) ?_
    have hw : Wd D A (wH cA h σ ++ (wK cA h σ ++ (wLg cA h σ 600 ++ (wC cA h σ ++ (wS h ++ (wX ax (h 46) sv tr sc ++ F)))))) s.heap _ _ := hw.perm (((List.Perm.append_left _ (((List.Perm.append_left _ (List.perm_append_comm_assoc _ _ _))).trans (List.perm_append_comm_assoc _ _ _)))).trans (List.perm_append_comm_assoc _ _ _))
    obtain ⟨p4, h5, hM⟩ := b_some hM
    refine q_cv (As := [.int (σ 12 0), .int x1, .int x2, .int x3, .int x4, .int x5]) (rest := []) E hw hl (c_X2_record l D cA tS A h (wK cA h σ ++ (wLg cA h σ 600 ++ (wC cA h σ ++ (wS h ++ (wX ax (h 46) sv tr sc ++ F))))) (σ 12 0) x1 x2 x3 x4 x5 σ p4.1 p4.2 h5) 6 (bwV bw_c tb_568 tb_569 tb_570 tb_57 tb_571) rfl (by decide +kernel) ⟨Nat.le_of_ble_eq_true rfl, Nat.le_of_ble_eq_true rfl⟩ 0 2 (T := TX2) (N := 7) rfl rfl rfl rfl (Nat.le_of_ble_eq_true rfl) ⟨Nat.zero_le _, Nat.zero_le _⟩ dX8_change_51 (fun H locs hw => ?_)
    have hw : Wd D A (wH cA h (mixH p4.2 σ) ++ (wK cA h (mixH p4.2 σ) ++ (wLg cA h (mixH p4.2 σ) 600 ++ (wC cA h (mixH p4.2 σ) ++ (wS h ++ (wX ax (h 46) sv tr sc ++ F)))))) s.heap _ _ := hw
    refine lv_if_ne (tgt := 60) hx hb dX8_change_54 (by decide) (fun c6 => ?_) (fun c6 => ?_)
    · replace hM := i_neg hM c6
      refine lv_aload_n hx hb dX8_change_60 rfl (lv_at hl 1 rfl) ?_
      refine q_get (C := RX8) (T := TX8) (N := 4) (ci := 8) E (fun w h => List.mem_cons_of_mem _ (inX8 w h)) hw 40 rfl rfl 0 (by decide) (List.mem_cons_of_mem _ tb_373) (v := .ref (h 46)) rfl dX8_change_61 ?_
      refine q_get (C := RX6) (T := TX6) (N := 2) (ci := 6) E (fun w h => List.mem_cons_of_mem _ (inX6 w h)) hw 39 rfl rfl 0 (by decide) (List.mem_cons_of_mem _ tb_321) (v := .ref (h 42)) rfl dX8_change_64 ?_
      refine lv_iload_n hx hb dX8_change_67 rfl (lv_at hl 2 rfl) ?_
      refine lv_iload_n hx hb dX8_change_68 rfl (lv_at hl 3 rfl) ?_
      refine lv_iload_n hx hb dX8_change_69 rfl (lv_at hl 4 rfl) ?_
      refine lv_iload hx hb dX8_change_70 (lv_at hl 5 rfl) ?_
      refine lv_iload hx hb dX8_change_72 (lv_at hl 6 rfl) ?_
      have hw : Wd D A (wK cA h (mixH p4.2 σ) ++ (wH cA h (mixH p4.2 σ) ++ (wLg cA h (mixH p4.2 σ) 600 ++ (wC cA h (mixH p4.2 σ) ++ (wS h ++ (wX ax (h 46) sv tr sc ++ F)))))) s.heap _ _ := hw.perm (List.perm_append_comm_assoc _ _ _)
      have hw : Wd D A (wK cA h (mixH p4.2 σ) ++ (wLg cA h (mixH p4.2 σ) 600 ++ (wH cA h (mixH p4.2 σ) ++ (wC cA h (mixH p4.2 σ) ++ (wS h ++ (wX ax (h 46) sv tr sc ++ F)))))) s.heap _ _ := hw.perm (List.Perm.append_left _ (List.perm_append_comm_assoc _ _ _))
      have hw : Wd D A (wK cA h (mixH p4.2 σ) ++ (wLg cA h (mixH p4.2 σ) 600 ++ (wC cA h (mixH p4.2 σ) ++ (wH cA h (mixH p4.2 σ) ++ (wS h ++ (wX ax (h 46) sv tr sc ++ F)))))) s.heap _ _ := hw.perm (List.Perm.append_left _ (List.Perm.append_left _ (List.perm_append_comm_assoc _ _ _)))
      obtain ⟨p7, h8, hM⟩ := b_some hM
      refine q_cv (As := [.int x1, .int x2, .int x3, .int x4, .int x5]) (rest := []) E hw hl (c_X1_make l D cA tS A h 600 (wH cA h (mixH p4.2 σ) ++ (wS h ++ (wX ax (h 46) sv tr sc ++ F))) N x1 x2 x3 x4 x5 (mixH p4.2 σ) p7.1 p7.2 h8) 5 (bwV bw_c tb_572 tb_573 tb_574 tb_49 tb_575) rfl (by decide +kernel) ⟨Nat.le_of_ble_eq_true rfl, Nat.le_of_ble_eq_true rfl⟩ 12 1 (T := TX1) (N := 6) rfl rfl rfl rfl (Nat.le_of_ble_eq_true rfl) ⟨Nat.zero_le _, Nat.zero_le _⟩ dX8_change_74 (fun H locs hw => ?_)
      have hw : Wd D A (wK cA h (mixKLgC p7.2 (mixH p4.2 σ)) ++ (wLg cA h (mixKLgC p7.2 (mixH p4.2 σ)) 600 ++ (wC cA h (mixKLgC p7.2 (mixH p4.2 σ)) ++ (wH cA h (mixKLgC p7.2 (mixH p4.2 σ)) ++ (wS h ++ (wX ax (h 46) sv tr sc ++ F)))))) s.heap _ _ := hw
      cases hM
      exact q_reti E hw dX8_change_77
    · replace hM := i_pos hM c6
      refine lv_bipush (v := (-6)) hx hb dX8_change_57 (by decide) ?_
      have hw : Wd D A (wK cA h (mixH p4.2 σ) ++ (wH cA h (mixH p4.2 σ) ++ (wLg cA h (mixH p4.2 σ) 600 ++ (wC cA h (mixH p4.2 σ) ++ (wS h ++ (wX ax (h 46) sv tr sc ++ F)))))) s.heap _ _ := hw.perm (List.perm_append_comm_assoc _ _ _)
      have hw : Wd D A (wK cA h (mixH p4.2 σ) ++ (wLg cA h (mixH p4.2 σ) 600 ++ (wH cA h (mixH p4.2 σ) ++ (wC cA h (mixH p4.2 σ) ++ (wS h ++ (wX ax (h 46) sv tr sc ++ F)))))) s.heap _ _ := hw.perm (List.Perm.append_left _ (List.perm_append_comm_assoc _ _ _))
      have hw : Wd D A (wK cA h (mixH p4.2 σ) ++ (wLg cA h (mixH p4.2 σ) 600 ++ (wC cA h (mixH p4.2 σ) ++ (wH cA h (mixH p4.2 σ) ++ (wS h ++ (wX ax (h 46) sv tr sc ++ F)))))) s.heap _ _ := hw.perm (List.Perm.append_left _ (List.Perm.append_left _ (List.perm_append_comm_assoc _ _ _)))
      cases hM
      exact q_reti E hw dX8_change_59
  · replace hM := i_neg hM c3
    refine lv_iload hx hb dX8_change_24 (lv_at hl 0 rfl) ?_
    cases hM
    exact q_reti E hw dX8_change_26
set_option maxRecDepth 100000 in
set_option maxHeartbeats 4000000 in
theorem c_X8_setAgents (l : Launch) (D : va_G) (cA : Nat → ClassId) (tS : Nat → Nat) (A : Nat → Prop) (h : Nat → Nat) (ax : Nat) (sv : Nat) (tr : Nat) (sc : Nat) (F : va_W) (N : Nat) (x1 : Int32) (x2 : Int32) (σ : Sg) (r0 : Int32) (s0 : Sg) (hM : f_X8_setAgents N x1 x2 σ = some (r0, s0)) : Ct l yX8_setAgents (Cond.code yX8_setAgents cX8_setAgents 3 (some .int) :: bw) 5 121 D cA tS A [.ref ax, .int x1, .int x2] (wK cA h σ ++ (wLg cA h σ 600 ++ (wC cA h σ ++ (wH cA h σ ++ (wS h ++ (wX ax (h 46) sv tr sc ++ F)))))) (some (.int r0)) (wK cA h s0 ++ (wLg cA h s0 600 ++ (wC cA h s0 ++ (wH cA h s0 ++ (wS h ++ (wX ax (h 46) sv tr sc ++ F)))))) := by
  refine ct_of (by decide +kernel) (Nat.le_of_ble_eq_true rfl) ?_
  intro p e s m below meth c E hw ls hl
  replace E : Ev p cX8_setAgents 3 (some .int) RX8 (Cond.code yX8_setAgents cX8_setAgents 3 (some .int) :: bw) D cA tS A s m _ meth c := E
  replace hl : lv_has ls 3 [(0, .ref ax), (1, .int x1), (2, .int x2)] := hl
  have hx := E.1.1
  have hb := E.1.2.1
  unfold f_X8_setAgents at hM
  refine lv_aload_n hx hb dX8_setAgents_0 rfl (lv_at hl 0 rfl) ?_
  refine lv_iconst (v := 2) hx hb dX8_setAgents_1 (by decide) ?_
  refine lv_iload_n hx hb dX8_setAgents_2 rfl (lv_at hl 1 rfl) ?_
  refine lv_iload_n hx hb dX8_setAgents_3 rfl (lv_at hl 2 rfl) ?_
  refine lv_iconst (v := 0) hx hb dX8_setAgents_4 (by decide) ?_
  refine lv_iconst (v := 0) hx hb dX8_setAgents_5 (by decide) ?_
  obtain ⟨p1, h2, hM⟩ := b_some hM
  refine q_cv (As := [.int 2, .int x1, .int x2, .int 0, .int 0]) (rest := []) E hw hl (c_X8_change l D cA tS A h ax sv tr sc F N 2 x1 x2 0 0 σ p1.1 p1.2 h2) 5 (bwV bw_c tb_519 tb_521 tb_6 tb_47 tb_522) rfl (by decide +kernel) ⟨Nat.le_of_ble_eq_true rfl, Nat.le_of_ble_eq_true rfl⟩ 40 8 (T := TX8) (N := 4) rfl rfl rfl rfl (Nat.le_of_ble_eq_true rfl) ⟨Nat.zero_le _, Nat.zero_le _⟩ dX8_setAgents_6 (fun H locs hw => ?_)
  cases hM
  exact q_reti E hw dX8_setAgents_9
set_option maxRecDepth 100000 in
set_option maxHeartbeats 4000000 in
theorem c_X8_agents (l : Launch) (D : va_G) (cA : Nat → ClassId) (tS : Nat → Nat) (A : Nat → Prop) (h : Nat → Nat) (ax : Nat) (sv : Nat) (tr : Nat) (sc : Nat) (F : va_W) (x1 : Int32) (σ : Sg) (r0 : Int32) (hM : f_X8_agents x1 σ = some r0) : Ct l yX8_agents (Cond.code yX8_agents cX8_agents 2 (some .int) :: bw) 1 22 D cA tS A [.ref ax, .int x1] (wK cA h σ ++ (wLg cA h σ 600 ++ (wC cA h σ ++ (wH cA h σ ++ (wS h ++ (wX ax (h 46) sv tr sc ++ F)))))) (some (.int r0)) (wK cA h σ ++ (wLg cA h σ 600 ++ (wC cA h σ ++ (wH cA h σ ++ (wS h ++ (wX ax (h 46) sv tr sc ++ F)))))) := by
  refine ct_of (by decide +kernel) (Nat.le_of_ble_eq_true rfl) ?_
  intro p e s m below meth c E hw ls hl
  replace E : Ev p cX8_agents 2 (some .int) RX8 (Cond.code yX8_agents cX8_agents 2 (some .int) :: bw) D cA tS A s m _ meth c := E
  replace hl : lv_has ls 2 [(0, .ref ax), (1, .int x1)] := hl
  have hx := E.1.1
  have hb := E.1.2.1
  unfold f_X8_agents at hM
  refine lv_iload_n hx hb dX8_agents_0 rfl (lv_at hl 1 rfl) ?_
  refine lv_iconst (v := 0) hx hb dX8_agents_1 (by decide) ?_
  refine lv_iconst (v := 3) hx hb dX8_agents_2 (by decide) ?_
  obtain ⟨p1, h2, hM⟩ := b_some hM
  refine q_cs (As := [.int x1, .int 0, .int 3]) (rest := []) E hw hl (c_X8_within l D cA tS A (wK cA h σ ++ (wLg cA h σ 600 ++ (wC cA h σ ++ (wH cA h σ ++ (wS h ++ (wX ax (h 46) sv tr sc ++ F)))))) x1 0 3 p1 h2) 3 (bwS bw_c tb_450 tb_451 tb_47 tb_452) rfl (by decide +kernel) ⟨Nat.le_of_ble_eq_true rfl, Nat.le_of_ble_eq_true rfl⟩ rfl rfl (Nat.le_of_ble_eq_true rfl) ⟨Nat.zero_le _, Nat.zero_le _⟩ dX8_agents_3 (fun H locs hw => ?_)
  refine lv_if_eq (tgt := 24) hx hb dX8_agents_6 (by decide) (fun c3 => ?_) (fun c3 => ?_)
  · replace hM := i_pos hM c3
    refine lv_bipush (v := (-4)) hx hb dX8_agents_24 (by decide) ?_
    cases hM
    exact q_reti E hw dX8_agents_26
  · replace hM := i_neg hM c3
    refine lv_aload_n hx hb dX8_agents_9 rfl (lv_at hl 0 rfl) ?_
    refine q_get (C := RX8) (T := TX8) (N := 4) (ci := 8) E (fun w h => List.mem_cons_of_mem _ (inX8 w h)) hw 40 rfl rfl 0 (by decide) (List.mem_cons_of_mem _ tb_373) (v := .ref (h 46)) rfl dX8_agents_10 ?_
    refine q_get (C := RX6) (T := TX6) (N := 2) (ci := 6) E (fun w h => List.mem_cons_of_mem _ (inX6 w h)) hw 39 rfl rfl 0 (by decide) (List.mem_cons_of_mem _ tb_321) (v := .ref (h 42)) rfl dX8_agents_13 ?_
    refine q_get (C := RX1) (T := TX1) (N := 6) (ci := 1) E (fun w h => List.mem_cons_of_mem _ (inX1 w h)) hw 12 rfl rfl 2 (by decide) (List.mem_cons_of_mem _ tb_271) (v := .ref (h 30)) rfl dX8_agents_16 ?_
    refine lv_iload_n hx hb dX8_agents_19 rfl (lv_at hl 1 rfl) ?_
    obtain ⟨g4, hM⟩ := g_some hM
    refine q_ald E hw 31 (n := 4) rfl g4 (x := (σ 30 (ix x1))) rfl dX8_agents_20 ?_
    refine lv_goto (tgt := 26) hx hb dX8_agents_21 (by decide) ?_
    cases hM
    exact q_reti E hw dX8_agents_26
set_option maxRecDepth 100000 in
set_option maxHeartbeats 4000000 in
theorem c_X8_report (l : Launch) (D : va_G) (cA : Nat → ClassId) (tS : Nat → Nat) (A : Nat → Prop) (h : Nat → Nat) (ax : Nat) (sv : Nat) (tr : Nat) (sc : Nat) (F : va_W) (N : Nat) (x1 : Int32) (x2 : Int32) (x3 : Int32) (x4 : Int32) (σ : Sg) (r0 : Int32) (s0 : Sg) (hM : f_X8_report N x1 x2 x3 x4 σ = some (r0, s0)) : Ct l yX8_report (Cond.code yX8_report cX8_report 5 (some .int) :: bw) 5 121 D cA tS A [.ref ax, .int x1, .int x2, .int x3, .int x4] (wK cA h σ ++ (wLg cA h σ 600 ++ (wC cA h σ ++ (wH cA h σ ++ (wS h ++ (wX ax (h 46) sv tr sc ++ F)))))) (some (.int r0)) (wK cA h s0 ++ (wLg cA h s0 600 ++ (wC cA h s0 ++ (wH cA h s0 ++ (wS h ++ (wX ax (h 46) sv tr sc ++ F)))))) := by
  refine ct_of (by decide +kernel) (Nat.le_of_ble_eq_true rfl) ?_
  intro p e s m below meth c E hw ls hl
  replace E : Ev p cX8_report 5 (some .int) RX8 (Cond.code yX8_report cX8_report 5 (some .int) :: bw) D cA tS A s m _ meth c := E
  replace hl : lv_has ls 5 [(0, .ref ax), (1, .int x1), (2, .int x2), (3, .int x3), (4, .int x4)] := hl
  have hx := E.1.1
  have hb := E.1.2.1
  unfold f_X8_report at hM
  refine lv_aload_n hx hb dX8_report_0 rfl (lv_at hl 0 rfl) ?_
  refine lv_iconst (v := 3) hx hb dX8_report_1 (by decide) ?_
  refine lv_iload_n hx hb dX8_report_2 rfl (lv_at hl 1 rfl) ?_
  refine lv_iload_n hx hb dX8_report_3 rfl (lv_at hl 2 rfl) ?_
  refine lv_iload_n hx hb dX8_report_4 rfl (lv_at hl 3 rfl) ?_
  refine lv_iload hx hb dX8_report_5 (lv_at hl 4 rfl) ?_
  obtain ⟨p1, h2, hM⟩ := b_some hM
  refine q_cv (As := [.int 3, .int x1, .int x2, .int x3, .int x4]) (rest := []) E hw hl (c_X8_change l D cA tS A h ax sv tr sc F N 3 x1 x2 x3 x4 σ p1.1 p1.2 h2) 5 (bwV bw_c tb_519 tb_521 tb_6 tb_47 tb_522) rfl (by decide +kernel) ⟨Nat.le_of_ble_eq_true rfl, Nat.le_of_ble_eq_true rfl⟩ 40 8 (T := TX8) (N := 4) rfl rfl rfl rfl (Nat.le_of_ble_eq_true rfl) ⟨Nat.zero_le _, Nat.zero_le _⟩ dX8_report_7 (fun H locs hw => ?_)
  cases hM
  exact q_reti E hw dX8_report_10
set_option maxRecDepth 100000 in
set_option maxHeartbeats 4000000 in
theorem c_X8_pause (l : Launch) (D : va_G) (cA : Nat → ClassId) (tS : Nat → Nat) (A : Nat → Prop) (h : Nat → Nat) (ax : Nat) (sv : Nat) (tr : Nat) (sc : Nat) (F : va_W) (N : Nat) (x1 : Int32) (σ : Sg) (r0 : Int32) (s0 : Sg) (hM : f_X8_pause N x1 σ = some (r0, s0)) : Ct l yX8_pause (Cond.code yX8_pause cX8_pause 2 (some .int) :: bw) 5 121 D cA tS A [.ref ax, .int x1] (wK cA h σ ++ (wLg cA h σ 600 ++ (wC cA h σ ++ (wH cA h σ ++ (wS h ++ (wX ax (h 46) sv tr sc ++ F)))))) (some (.int r0)) (wK cA h s0 ++ (wLg cA h s0 600 ++ (wC cA h s0 ++ (wH cA h s0 ++ (wS h ++ (wX ax (h 46) sv tr sc ++ F)))))) := by
  refine ct_of (by decide +kernel) (Nat.le_of_ble_eq_true rfl) ?_
  intro p e s m below meth c E hw ls hl
  replace E : Ev p cX8_pause 2 (some .int) RX8 (Cond.code yX8_pause cX8_pause 2 (some .int) :: bw) D cA tS A s m _ meth c := E
  replace hl : lv_has ls 2 [(0, .ref ax), (1, .int x1)] := hl
  have hx := E.1.1
  have hb := E.1.2.1
  unfold f_X8_pause at hM
  refine lv_aload_n hx hb dX8_pause_0 rfl (lv_at hl 0 rfl) ?_
  refine lv_iconst (v := 4) hx hb dX8_pause_1 (by decide) ?_
  refine lv_iload_n hx hb dX8_pause_2 rfl (lv_at hl 1 rfl) ?_
  refine lv_iconst (v := 0) hx hb dX8_pause_3 (by decide) ?_
  refine lv_iconst (v := 0) hx hb dX8_pause_4 (by decide) ?_
  refine lv_iconst (v := 0) hx hb dX8_pause_5 (by decide) ?_
  obtain ⟨p1, h2, hM⟩ := b_some hM
  refine q_cv (As := [.int 4, .int x1, .int 0, .int 0, .int 0]) (rest := []) E hw hl (c_X8_change l D cA tS A h ax sv tr sc F N 4 x1 0 0 0 σ p1.1 p1.2 h2) 5 (bwV bw_c tb_519 tb_521 tb_6 tb_47 tb_522) rfl (by decide +kernel) ⟨Nat.le_of_ble_eq_true rfl, Nat.le_of_ble_eq_true rfl⟩ 40 8 (T := TX8) (N := 4) rfl rfl rfl rfl (Nat.le_of_ble_eq_true rfl) ⟨Nat.zero_le _, Nat.zero_le _⟩ dX8_pause_6 (fun H locs hw => ?_)
  cases hM
  exact q_reti E hw dX8_pause_9
set_option maxRecDepth 100000 in
set_option maxHeartbeats 4000000 in
theorem c_X8_resume (l : Launch) (D : va_G) (cA : Nat → ClassId) (tS : Nat → Nat) (A : Nat → Prop) (h : Nat → Nat) (ax : Nat) (sv : Nat) (tr : Nat) (sc : Nat) (F : va_W) (N : Nat) (x1 : Int32) (σ : Sg) (r0 : Int32) (s0 : Sg) (hM : f_X8_resume N x1 σ = some (r0, s0)) : Ct l yX8_resume (Cond.code yX8_resume cX8_resume 2 (some .int) :: bw) 5 121 D cA tS A [.ref ax, .int x1] (wK cA h σ ++ (wLg cA h σ 600 ++ (wC cA h σ ++ (wH cA h σ ++ (wS h ++ (wX ax (h 46) sv tr sc ++ F)))))) (some (.int r0)) (wK cA h s0 ++ (wLg cA h s0 600 ++ (wC cA h s0 ++ (wH cA h s0 ++ (wS h ++ (wX ax (h 46) sv tr sc ++ F)))))) := by
  refine ct_of (by decide +kernel) (Nat.le_of_ble_eq_true rfl) ?_
  intro p e s m below meth c E hw ls hl
  replace E : Ev p cX8_resume 2 (some .int) RX8 (Cond.code yX8_resume cX8_resume 2 (some .int) :: bw) D cA tS A s m _ meth c := E
  replace hl : lv_has ls 2 [(0, .ref ax), (1, .int x1)] := hl
  have hx := E.1.1
  have hb := E.1.2.1
  unfold f_X8_resume at hM
  refine lv_aload_n hx hb dX8_resume_0 rfl (lv_at hl 0 rfl) ?_
  refine lv_iconst (v := 5) hx hb dX8_resume_1 (by decide) ?_
  refine lv_iload_n hx hb dX8_resume_2 rfl (lv_at hl 1 rfl) ?_
  refine lv_iconst (v := 0) hx hb dX8_resume_3 (by decide) ?_
  refine lv_iconst (v := 0) hx hb dX8_resume_4 (by decide) ?_
  refine lv_iconst (v := 0) hx hb dX8_resume_5 (by decide) ?_
  obtain ⟨p1, h2, hM⟩ := b_some hM
  refine q_cv (As := [.int 5, .int x1, .int 0, .int 0, .int 0]) (rest := []) E hw hl (c_X8_change l D cA tS A h ax sv tr sc F N 5 x1 0 0 0 σ p1.1 p1.2 h2) 5 (bwV bw_c tb_519 tb_521 tb_6 tb_47 tb_522) rfl (by decide +kernel) ⟨Nat.le_of_ble_eq_true rfl, Nat.le_of_ble_eq_true rfl⟩ 40 8 (T := TX8) (N := 4) rfl rfl rfl rfl (Nat.le_of_ble_eq_true rfl) ⟨Nat.zero_le _, Nat.zero_le _⟩ dX8_resume_6 (fun H locs hw => ?_)
  cases hM
  exact q_reti E hw dX8_resume_9
set_option maxRecDepth 100000 in
set_option maxHeartbeats 4000000 in
theorem c_X8_climb (l : Launch) (D : va_G) (cA : Nat → ClassId) (tS : Nat → Nat) (A : Nat → Prop) (h : Nat → Nat) (ax : Nat) (sv : Nat) (tr : Nat) (sc : Nat) (F : va_W) (N : Nat) (x1 : Int32) (σ : Sg) (r0 : Int32) (s0 : Sg) (hM : f_X8_climb N x1 σ = some (r0, s0)) : Ct l yX8_climb (Cond.code yX8_climb cX8_climb 2 (some .int) :: bw) 5 121 D cA tS A [.ref ax, .int x1] (wK cA h σ ++ (wLg cA h σ 600 ++ (wC cA h σ ++ (wH cA h σ ++ (wS h ++ (wX ax (h 46) sv tr sc ++ F)))))) (some (.int r0)) (wK cA h s0 ++ (wLg cA h s0 600 ++ (wC cA h s0 ++ (wH cA h s0 ++ (wS h ++ (wX ax (h 46) sv tr sc ++ F)))))) := by
  refine ct_of (by decide +kernel) (Nat.le_of_ble_eq_true rfl) ?_
  intro p e s m below meth c E hw ls hl
  replace E : Ev p cX8_climb 2 (some .int) RX8 (Cond.code yX8_climb cX8_climb 2 (some .int) :: bw) D cA tS A s m _ meth c := E
  replace hl : lv_has ls 2 [(0, .ref ax), (1, .int x1)] := hl
  have hx := E.1.1
  have hb := E.1.2.1
  unfold f_X8_climb at hM
  refine lv_aload_n hx hb dX8_climb_0 rfl (lv_at hl 0 rfl) ?_
  refine lv_bipush (v := 6) hx hb dX8_climb_1 (by decide) ?_
  refine lv_iload_n hx hb dX8_climb_3 rfl (lv_at hl 1 rfl) ?_
  refine lv_iconst (v := 0) hx hb dX8_climb_4 (by decide) ?_
  refine lv_iconst (v := 0) hx hb dX8_climb_5 (by decide) ?_
  refine lv_iconst (v := 0) hx hb dX8_climb_6 (by decide) ?_
  obtain ⟨p1, h2, hM⟩ := b_some hM
  refine q_cv (As := [.int 6, .int x1, .int 0, .int 0, .int 0]) (rest := []) E hw hl (c_X8_change l D cA tS A h ax sv tr sc F N 6 x1 0 0 0 σ p1.1 p1.2 h2) 5 (bwV bw_c tb_519 tb_521 tb_6 tb_47 tb_522) rfl (by decide +kernel) ⟨Nat.le_of_ble_eq_true rfl, Nat.le_of_ble_eq_true rfl⟩ 40 8 (T := TX8) (N := 4) rfl rfl rfl rfl (Nat.le_of_ble_eq_true rfl) ⟨Nat.zero_le _, Nat.zero_le _⟩ dX8_climb_7 (fun H locs hw => ?_)
  cases hM
  exact q_reti E hw dX8_climb_10
set_option maxRecDepth 100000 in
set_option maxHeartbeats 4000000 in
theorem c_X8_solve (l : Launch) (D : va_G) (cA : Nat → ClassId) (tS : Nat → Nat) (A : Nat → Prop) (h : Nat → Nat) (ax : Nat) (sv : Nat) (tr : Nat) (sc : Nat) (F : va_W) (N : Nat) (x1 : Int32) (σ : Sg) (r0 : Int32) (s0 : Sg) (hM : f_X8_solve N x1 σ = some (r0, s0)) : Ct l yX8_solve (Cond.code yX8_solve cX8_solve 2 (some .int) :: bw) 5 121 D cA tS A [.ref ax, .int x1] (wK cA h σ ++ (wLg cA h σ 600 ++ (wC cA h σ ++ (wH cA h σ ++ (wS h ++ (wX ax (h 46) sv tr sc ++ F)))))) (some (.int r0)) (wK cA h s0 ++ (wLg cA h s0 600 ++ (wC cA h s0 ++ (wH cA h s0 ++ (wS h ++ (wX ax (h 46) sv tr sc ++ F)))))) := by
  refine ct_of (by decide +kernel) (Nat.le_of_ble_eq_true rfl) ?_
  intro p e s m below meth c E hw ls hl
  replace E : Ev p cX8_solve 2 (some .int) RX8 (Cond.code yX8_solve cX8_solve 2 (some .int) :: bw) D cA tS A s m _ meth c := E
  replace hl : lv_has ls 2 [(0, .ref ax), (1, .int x1)] := hl
  have hx := E.1.1
  have hb := E.1.2.1
  unfold f_X8_solve at hM
  refine lv_aload_n hx hb dX8_solve_0 rfl (lv_at hl 0 rfl) ?_
  refine lv_bipush (v := 7) hx hb dX8_solve_1 (by decide) ?_
  refine lv_iload_n hx hb dX8_solve_3 rfl (lv_at hl 1 rfl) ?_
  refine lv_iconst (v := 0) hx hb dX8_solve_4 (by decide) ?_
  refine lv_iconst (v := 0) hx hb dX8_solve_5 (by decide) ?_
  refine lv_iconst (v := 0) hx hb dX8_solve_6 (by decide) ?_
  obtain ⟨p1, h2, hM⟩ := b_some hM
  refine q_cv (As := [.int 7, .int x1, .int 0, .int 0, .int 0]) (rest := []) E hw hl (c_X8_change l D cA tS A h ax sv tr sc F N 7 x1 0 0 0 σ p1.1 p1.2 h2) 5 (bwV bw_c tb_519 tb_521 tb_6 tb_47 tb_522) rfl (by decide +kernel) ⟨Nat.le_of_ble_eq_true rfl, Nat.le_of_ble_eq_true rfl⟩ 40 8 (T := TX8) (N := 4) rfl rfl rfl rfl (Nat.le_of_ble_eq_true rfl) ⟨Nat.zero_le _, Nat.zero_le _⟩ dX8_solve_7 (fun H locs hw => ?_)
  cases hM
  exact q_reti E hw dX8_solve_10
set_option maxRecDepth 100000 in
set_option maxHeartbeats 4000000 in
theorem c_X8_reopen (l : Launch) (D : va_G) (cA : Nat → ClassId) (tS : Nat → Nat) (A : Nat → Prop) (h : Nat → Nat) (ax : Nat) (sv : Nat) (tr : Nat) (sc : Nat) (F : va_W) (N : Nat) (x1 : Int32) (σ : Sg) (r0 : Int32) (s0 : Sg) (hM : f_X8_reopen N x1 σ = some (r0, s0)) : Ct l yX8_reopen (Cond.code yX8_reopen cX8_reopen 2 (some .int) :: bw) 5 121 D cA tS A [.ref ax, .int x1] (wK cA h σ ++ (wLg cA h σ 600 ++ (wC cA h σ ++ (wH cA h σ ++ (wS h ++ (wX ax (h 46) sv tr sc ++ F)))))) (some (.int r0)) (wK cA h s0 ++ (wLg cA h s0 600 ++ (wC cA h s0 ++ (wH cA h s0 ++ (wS h ++ (wX ax (h 46) sv tr sc ++ F)))))) := by
  refine ct_of (by decide +kernel) (Nat.le_of_ble_eq_true rfl) ?_
  intro p e s m below meth c E hw ls hl
  replace E : Ev p cX8_reopen 2 (some .int) RX8 (Cond.code yX8_reopen cX8_reopen 2 (some .int) :: bw) D cA tS A s m _ meth c := E
  replace hl : lv_has ls 2 [(0, .ref ax), (1, .int x1)] := hl
  have hx := E.1.1
  have hb := E.1.2.1
  unfold f_X8_reopen at hM
  refine lv_aload_n hx hb dX8_reopen_0 rfl (lv_at hl 0 rfl) ?_
  refine lv_bipush (v := 8) hx hb dX8_reopen_1 (by decide) ?_
  refine lv_iload_n hx hb dX8_reopen_3 rfl (lv_at hl 1 rfl) ?_
  refine lv_iconst (v := 0) hx hb dX8_reopen_4 (by decide) ?_
  refine lv_iconst (v := 0) hx hb dX8_reopen_5 (by decide) ?_
  refine lv_iconst (v := 0) hx hb dX8_reopen_6 (by decide) ?_
  obtain ⟨p1, h2, hM⟩ := b_some hM
  refine q_cv (As := [.int 8, .int x1, .int 0, .int 0, .int 0]) (rest := []) E hw hl (c_X8_change l D cA tS A h ax sv tr sc F N 8 x1 0 0 0 σ p1.1 p1.2 h2) 5 (bwV bw_c tb_519 tb_521 tb_6 tb_47 tb_522) rfl (by decide +kernel) ⟨Nat.le_of_ble_eq_true rfl, Nat.le_of_ble_eq_true rfl⟩ 40 8 (T := TX8) (N := 4) rfl rfl rfl rfl (Nat.le_of_ble_eq_true rfl) ⟨Nat.zero_le _, Nat.zero_le _⟩ dX8_reopen_7 (fun H locs hw => ?_)
  cases hM
  exact q_reti E hw dX8_reopen_10
set_option maxRecDepth 100000 in
set_option maxHeartbeats 4000000 in
theorem c_X8_join (l : Launch) (D : va_G) (cA : Nat → ClassId) (tS : Nat → Nat) (A : Nat → Prop) (h : Nat → Nat) (ax : Nat) (sv : Nat) (tr : Nat) (sc : Nat) (F : va_W) (N : Nat) (x1 : Int32) (x2 : Int32) (σ : Sg) (r0 : Int32) (s0 : Sg) (hM : f_X8_join N x1 x2 σ = some (r0, s0)) : Ct l yX8_join (Cond.code yX8_join cX8_join 3 (some .int) :: bw) 5 121 D cA tS A [.ref ax, .int x1, .int x2] (wK cA h σ ++ (wLg cA h σ 600 ++ (wC cA h σ ++ (wH cA h σ ++ (wS h ++ (wX ax (h 46) sv tr sc ++ F)))))) (some (.int r0)) (wK cA h s0 ++ (wLg cA h s0 600 ++ (wC cA h s0 ++ (wH cA h s0 ++ (wS h ++ (wX ax (h 46) sv tr sc ++ F)))))) := by
  refine ct_of (by decide +kernel) (Nat.le_of_ble_eq_true rfl) ?_
  intro p e s m below meth c E hw ls hl
  replace E : Ev p cX8_join 3 (some .int) RX8 (Cond.code yX8_join cX8_join 3 (some .int) :: bw) D cA tS A s m _ meth c := E
  replace hl : lv_has ls 3 [(0, .ref ax), (1, .int x1), (2, .int x2)] := hl
  have hx := E.1.1
  have hb := E.1.2.1
  unfold f_X8_join at hM
  refine lv_aload_n hx hb dX8_join_0 rfl (lv_at hl 0 rfl) ?_
  refine lv_bipush (v := 9) hx hb dX8_join_1 (by decide) ?_
  refine lv_iload_n hx hb dX8_join_3 rfl (lv_at hl 1 rfl) ?_
  refine lv_iload_n hx hb dX8_join_4 rfl (lv_at hl 2 rfl) ?_
  refine lv_iconst (v := 0) hx hb dX8_join_5 (by decide) ?_
  refine lv_iconst (v := 0) hx hb dX8_join_6 (by decide) ?_
  obtain ⟨p1, h2, hM⟩ := b_some hM
  refine q_cv (As := [.int 9, .int x1, .int x2, .int 0, .int 0]) (rest := []) E hw hl (c_X8_change l D cA tS A h ax sv tr sc F N 9 x1 x2 0 0 σ p1.1 p1.2 h2) 5 (bwV bw_c tb_519 tb_521 tb_6 tb_47 tb_522) rfl (by decide +kernel) ⟨Nat.le_of_ble_eq_true rfl, Nat.le_of_ble_eq_true rfl⟩ 40 8 (T := TX8) (N := 4) rfl rfl rfl rfl (Nat.le_of_ble_eq_true rfl) ⟨Nat.zero_le _, Nat.zero_le _⟩ dX8_join_7 (fun H locs hw => ?_)
  cases hM
  exact q_reti E hw dX8_join_10
set_option maxRecDepth 100000 in
set_option maxHeartbeats 4000000 in
theorem c_X8_part (l : Launch) (D : va_G) (cA : Nat → ClassId) (tS : Nat → Nat) (A : Nat → Prop) (h : Nat → Nat) (ax : Nat) (sv : Nat) (tr : Nat) (sc : Nat) (F : va_W) (N : Nat) (x1 : Int32) (σ : Sg) (r0 : Int32) (s0 : Sg) (hM : f_X8_part N x1 σ = some (r0, s0)) : Ct l yX8_part (Cond.code yX8_part cX8_part 2 (some .int) :: bw) 5 121 D cA tS A [.ref ax, .int x1] (wK cA h σ ++ (wLg cA h σ 600 ++ (wC cA h σ ++ (wH cA h σ ++ (wS h ++ (wX ax (h 46) sv tr sc ++ F)))))) (some (.int r0)) (wK cA h s0 ++ (wLg cA h s0 600 ++ (wC cA h s0 ++ (wH cA h s0 ++ (wS h ++ (wX ax (h 46) sv tr sc ++ F)))))) := by
  refine ct_of (by decide +kernel) (Nat.le_of_ble_eq_true rfl) ?_
  intro p e s m below meth c E hw ls hl
  replace E : Ev p cX8_part 2 (some .int) RX8 (Cond.code yX8_part cX8_part 2 (some .int) :: bw) D cA tS A s m _ meth c := E
  replace hl : lv_has ls 2 [(0, .ref ax), (1, .int x1)] := hl
  have hx := E.1.1
  have hb := E.1.2.1
  unfold f_X8_part at hM
  refine lv_aload_n hx hb dX8_part_0 rfl (lv_at hl 0 rfl) ?_
  refine lv_bipush (v := 10) hx hb dX8_part_1 (by decide) ?_
  refine lv_iload_n hx hb dX8_part_3 rfl (lv_at hl 1 rfl) ?_
  refine lv_iconst (v := 0) hx hb dX8_part_4 (by decide) ?_
  refine lv_iconst (v := 0) hx hb dX8_part_5 (by decide) ?_
  refine lv_iconst (v := 0) hx hb dX8_part_6 (by decide) ?_
  obtain ⟨p1, h2, hM⟩ := b_some hM
  refine q_cv (As := [.int 10, .int x1, .int 0, .int 0, .int 0]) (rest := []) E hw hl (c_X8_change l D cA tS A h ax sv tr sc F N 10 x1 0 0 0 σ p1.1 p1.2 h2) 5 (bwV bw_c tb_519 tb_521 tb_6 tb_47 tb_522) rfl (by decide +kernel) ⟨Nat.le_of_ble_eq_true rfl, Nat.le_of_ble_eq_true rfl⟩ 40 8 (T := TX8) (N := 4) rfl rfl rfl rfl (Nat.le_of_ble_eq_true rfl) ⟨Nat.zero_le _, Nat.zero_le _⟩ dX8_part_7 (fun H locs hw => ?_)
  cases hM
  exact q_reti E hw dX8_part_10
set_option maxRecDepth 100000 in
set_option maxHeartbeats 4000000 in
theorem c_X8_setPriority (l : Launch) (D : va_G) (cA : Nat → ClassId) (tS : Nat → Nat) (A : Nat → Prop) (h : Nat → Nat) (ax : Nat) (sv : Nat) (tr : Nat) (sc : Nat) (F : va_W) (N : Nat) (x1 : Int32) (x2 : Int32) (σ : Sg) (r0 : Int32) (s0 : Sg) (hM : f_X8_setPriority N x1 x2 σ = some (r0, s0)) : Ct l yX8_setPriority (Cond.code yX8_setPriority cX8_setPriority 3 (some .int) :: bw) 5 121 D cA tS A [.ref ax, .int x1, .int x2] (wK cA h σ ++ (wLg cA h σ 600 ++ (wC cA h σ ++ (wH cA h σ ++ (wS h ++ (wX ax (h 46) sv tr sc ++ F)))))) (some (.int r0)) (wK cA h s0 ++ (wLg cA h s0 600 ++ (wC cA h s0 ++ (wH cA h s0 ++ (wS h ++ (wX ax (h 46) sv tr sc ++ F)))))) := by
  refine ct_of (by decide +kernel) (Nat.le_of_ble_eq_true rfl) ?_
  intro p e s m below meth c E hw ls hl
  replace E : Ev p cX8_setPriority 3 (some .int) RX8 (Cond.code yX8_setPriority cX8_setPriority 3 (some .int) :: bw) D cA tS A s m _ meth c := E
  replace hl : lv_has ls 3 [(0, .ref ax), (1, .int x1), (2, .int x2)] := hl
  have hx := E.1.1
  have hb := E.1.2.1
  unfold f_X8_setPriority at hM
  refine lv_aload_n hx hb dX8_setPriority_0 rfl (lv_at hl 0 rfl) ?_
  refine lv_bipush (v := 11) hx hb dX8_setPriority_1 (by decide) ?_
  refine lv_iload_n hx hb dX8_setPriority_3 rfl (lv_at hl 1 rfl) ?_
  refine lv_iload_n hx hb dX8_setPriority_4 rfl (lv_at hl 2 rfl) ?_
  refine lv_iconst (v := 0) hx hb dX8_setPriority_5 (by decide) ?_
  refine lv_iconst (v := 0) hx hb dX8_setPriority_6 (by decide) ?_
  obtain ⟨p1, h2, hM⟩ := b_some hM
  refine q_cv (As := [.int 11, .int x1, .int x2, .int 0, .int 0]) (rest := []) E hw hl (c_X8_change l D cA tS A h ax sv tr sc F N 11 x1 x2 0 0 σ p1.1 p1.2 h2) 5 (bwV bw_c tb_519 tb_521 tb_6 tb_47 tb_522) rfl (by decide +kernel) ⟨Nat.le_of_ble_eq_true rfl, Nat.le_of_ble_eq_true rfl⟩ 40 8 (T := TX8) (N := 4) rfl rfl rfl rfl (Nat.le_of_ble_eq_true rfl) ⟨Nat.zero_le _, Nat.zero_le _⟩ dX8_setPriority_7 (fun H locs hw => ?_)
  cases hM
  exact q_reti E hw dX8_setPriority_10
set_option maxRecDepth 100000 in
set_option maxHeartbeats 4000000 in
theorem c_X8_pass (l : Launch) (D : va_G) (cA : Nat → ClassId) (tS : Nat → Nat) (A : Nat → Prop) (h : Nat → Nat) (ax : Nat) (sv : Nat) (tr : Nat) (sc : Nat) (F : va_W) (N : Nat) (x1 : Int32) (σ : Sg) (r0 : Int32) (s0 : Sg) (hM : f_X8_pass N x1 σ = some (r0, s0)) : Ct l yX8_pass (Cond.code yX8_pass cX8_pass 4 (some .int) :: bw) 5 117 D cA tS A [.ref ax, .int x1] (wK cA h σ ++ (wLg cA h σ 600 ++ (wC cA h σ ++ (wH cA h σ ++ (wS h ++ (wX ax (h 46) sv tr sc ++ F)))))) (some (.int r0)) (wK cA h s0 ++ (wLg cA h s0 600 ++ (wC cA h s0 ++ (wH cA h s0 ++ (wS h ++ (wX ax (h 46) sv tr sc ++ F)))))) := by
  refine ct_of (by decide +kernel) (Nat.le_of_ble_eq_true rfl) ?_
  intro p e s m below meth c E hw ls hl
  replace E : Ev p cX8_pass 4 (some .int) RX8 (Cond.code yX8_pass cX8_pass 4 (some .int) :: bw) D cA tS A s m _ meth c := E
  replace hl : lv_has ls 4 [(0, .ref ax), (1, .int x1)] := hl
  have hx := E.1.1
  have hb := E.1.2.1
  unfold f_X8_pass at hM
  refine lv_aload_n hx hb dX8_pass_0 rfl (lv_at hl 0 rfl) ?_
  refine q_get (C := RX8) (T := TX8) (N := 4) (ci := 8) E (fun w h => List.mem_cons_of_mem _ (inX8 w h)) hw 40 rfl rfl 0 (by decide) (List.mem_cons_of_mem _ tb_373) (v := .ref (h 46)) rfl dX8_pass_1 ?_
  refine q_get (C := RX6) (T := TX6) (N := 2) (ci := 6) E (fun w h => List.mem_cons_of_mem _ (inX6 w h)) hw 39 rfl rfl 0 (by decide) (List.mem_cons_of_mem _ tb_321) (v := .ref (h 42)) rfl dX8_pass_4 ?_
  refine lv_astore_n (lv' := [(2, .ref (h 42)), (0, .ref ax), (1, .int x1)]) hx hb dX8_pass_7 rfl hl (by decide) rfl (fun ls hl => ?_)
  refine lv_iload_n hx hb dX8_pass_8 rfl (lv_at hl 2 rfl) ?_
  refine lv_iconst (v := 1) hx hb dX8_pass_9 (by decide) ?_
  refine lv_sipush (v := 10080) hx hb dX8_pass_10 (by decide) ?_
  refine lv_aload_n hx hb dX8_pass_13 rfl (lv_at hl 0 rfl) ?_
  refine q_get (C := RX1) (T := TX1) (N := 6) (ci := 1) E (fun w h => List.mem_cons_of_mem _ (inX1 w h)) hw 12 rfl rfl 5 (by decide) (List.mem_cons_of_mem _ tb_277) (v := .int (σ 12 0)) rfl dX8_pass_14 ?_
  refine lv_isub hx hb dX8_pass_17 ?_
  obtain ⟨p1, h2, hM⟩ := b_some hM
  refine q_cs (As := [.int x1, .int 1, .int (10080 - (σ 12 0))]) (rest := []) E hw hl (c_X8_within l D cA tS A (wK cA h σ ++ (wLg cA h σ 600 ++ (wC cA h σ ++ (wH cA h σ ++ (wS h ++ (wX ax (h 46) sv tr sc ++ F)))))) x1 1 (10080 - (σ 12 0)) p1 h2) 3 (bwS bw_c tb_450 tb_451 tb_47 tb_452) rfl (by decide +kernel) ⟨Nat.le_of_ble_eq_true rfl, Nat.le_of_ble_eq_true rfl⟩ rfl rfl (Nat.le_of_ble_eq_true rfl) ⟨Nat.zero_le _, Nat.zero_le _⟩ dX8_pass_18 (fun H locs hw => ?_)
  refine lv_if_ne (tgt := 27) hx hb dX8_pass_21 (by decide) (fun c3 => ?_) (fun c3 => ?_)
  · replace hM := i_neg hM c3
    refine lv_aload_n hx hb dX8_pass_27 rfl (lv_at hl 0 rfl) ?_
    refine q_get (C := RX1) (T := TX1) (N := 6) (ci := 1) E (fun w h => List.mem_cons_of_mem _ (inX1 w h)) hw 12 rfl rfl 3 (by decide) (List.mem_cons_of_mem _ tb_273) (v := .ref (h 44)) rfl dX8_pass_28 ?_
    obtain ⟨p4, h5, hM⟩ := b_some hM
    refine q_cv (As := []) (rest := []) E hw hl (c_X7_countSolved l D cA tS A h 600 (wH cA h σ ++ (wS h ++ (wX ax (h 46) sv tr sc ++ F))) N σ p4 h5) 0 (bwV bw_c tb_975 tb_976 tb_977 tb_52 tb_978) rfl (by decide +kernel) ⟨Nat.le_of_ble_eq_true rfl, Nat.le_of_ble_eq_true rfl⟩ 16 7 (T := TX7) (N := 15) rfl rfl rfl rfl (Nat.le_of_ble_eq_true rfl) ⟨Nat.zero_le _, Nat.zero_le _⟩ dX8_pass_31 (fun H locs hw => ?_)
    refine lv_istore_n (lv' := [(3, .int p4), (2, .ref (h 42)), (0, .ref ax), (1, .int x1)]) hx hb dX8_pass_34 rfl hl (by decide) rfl (fun ls hl => ?_)
    refine lv_aload_n hx hb dX8_pass_35 rfl (lv_at hl 1 rfl) ?_
    refine lv_aload_n hx hb dX8_pass_36 rfl (lv_at hl 1 rfl) ?_
    refine q_get (C := RX1) (T := TX1) (N := 6) (ci := 1) E (fun w h => List.mem_cons_of_mem _ (inX1 w h)) hw 12 rfl rfl 5 (by decide) (List.mem_cons_of_mem _ tb_277) (v := .int (σ 12 0)) rfl dX8_pass_37 ?_
    refine lv_iload_n hx hb dX8_pass_40 rfl (lv_at hl 3 rfl) ?_
    refine lv_iadd hx hb dX8_pass_41 ?_
    obtain ⟨p6, h7, hM⟩ := b_some hM
    refine q_cvv (As := [.int ((σ 12 0) + x1)]) (rest := []) E hw hl (c_X1_passUntil l D cA tS A h 600 (wH cA h σ ++ (wS h ++ (wX ax (h 46) sv tr sc ++ F))) N ((σ 12 0) + x1) σ p6 h7) 1 (bwV bw_c tb_771 tb_772 tb_773 tb_49 tb_774) rfl (by decide +kernel) ⟨Nat.le_of_ble_eq_true rfl, Nat.le_of_ble_eq_true rfl⟩ 12 1 (T := TX1) (N := 6) rfl rfl rfl rfl (Nat.le_of_ble_eq_true rfl) ⟨Nat.zero_le _, Nat.zero_le _⟩ dX8_pass_42 (fun H locs hw => ?_)
    have hw : Wd D A (wK cA h (mixKLgC p6 σ) ++ (wLg cA h (mixKLgC p6 σ) 600 ++ (wC cA h (mixKLgC p6 σ) ++ (wH cA h (mixKLgC p6 σ) ++ (wS h ++ (wX ax (h 46) sv tr sc ++ F)))))) s.heap _ _ := hw
    refine lv_aload_n hx hb dX8_pass_45 rfl (lv_at hl 1 rfl) ?_
    refine q_get (C := RX1) (T := TX1) (N := 6) (ci := 1) E (fun w h => List.mem_cons_of_mem _ (inX1 w h)) hw 12 rfl rfl 3 (by decide) (List.mem_cons_of_mem _ tb_273) (v := .ref (h 44)) rfl dX8_pass_46 ?_
    obtain ⟨p8, h9, hM⟩ := b_some hM
    refine q_cv (As := []) (rest := []) E hw hl (c_X7_countSolved l D cA tS A h 600 (wH cA h (mixKLgC p6 σ) ++ (wS h ++ (wX ax (h 46) sv tr sc ++ F))) N (mixKLgC p6 σ) p8 h9) 0 (bwV bw_c tb_975 tb_976 tb_977 tb_52 tb_978) rfl (by decide +kernel) ⟨Nat.le_of_ble_eq_true rfl, Nat.le_of_ble_eq_true rfl⟩ 16 7 (T := TX7) (N := 15) rfl rfl rfl rfl (Nat.le_of_ble_eq_true rfl) ⟨Nat.zero_le _, Nat.zero_le _⟩ dX8_pass_49 (fun H locs hw => ?_)
    refine lv_iload_n hx hb dX8_pass_52 rfl (lv_at hl 0 rfl) ?_
    refine lv_isub hx hb dX8_pass_53 ?_
    cases hM
    exact q_reti E hw dX8_pass_54
  · replace hM := i_pos hM c3
    refine lv_bipush (v := (-4)) hx hb dX8_pass_24 (by decide) ?_
    cases hM
    exact q_reti E hw dX8_pass_26
set_option maxRecDepth 100000 in
set_option maxHeartbeats 4000000 in
theorem c_X8_now (l : Launch) (D : va_G) (cA : Nat → ClassId) (tS : Nat → Nat) (A : Nat → Prop) (h : Nat → Nat) (ax : Nat) (sv : Nat) (tr : Nat) (sc : Nat) (F : va_W) (σ : Sg) (r0 : Int32) (hM : f_X8_now σ = some r0) : Ct l yX8_now (Cond.code yX8_now cX8_now 1 (some .int) :: bw) 0 0 D cA tS A [.ref ax] (wK cA h σ ++ (wLg cA h σ 600 ++ (wC cA h σ ++ (wH cA h σ ++ (wS h ++ (wX ax (h 46) sv tr sc ++ F)))))) (some (.int r0)) (wK cA h σ ++ (wLg cA h σ 600 ++ (wC cA h σ ++ (wH cA h σ ++ (wS h ++ (wX ax (h 46) sv tr sc ++ F)))))) := by
  refine ct_of (by decide +kernel) (Nat.le_of_ble_eq_true rfl) ?_
  intro p e s m below meth c E hw ls hl
  replace E : Ev p cX8_now 1 (some .int) RX8 (Cond.code yX8_now cX8_now 1 (some .int) :: bw) D cA tS A s m _ meth c := E
  replace hl : lv_has ls 1 [(0, .ref ax)] := hl
  have hx := E.1.1
  have hb := E.1.2.1
  unfold f_X8_now at hM
  refine lv_aload_n hx hb dX8_now_0 rfl (lv_at hl 0 rfl) ?_
  refine q_get (C := RX8) (T := TX8) (N := 4) (ci := 8) E (fun w h => List.mem_cons_of_mem _ (inX8 w h)) hw 40 rfl rfl 0 (by decide) (List.mem_cons_of_mem _ tb_373) (v := .ref (h 46)) rfl dX8_now_1 ?_
  refine q_get (C := RX6) (T := TX6) (N := 2) (ci := 6) E (fun w h => List.mem_cons_of_mem _ (inX6 w h)) hw 39 rfl rfl 0 (by decide) (List.mem_cons_of_mem _ tb_321) (v := .ref (h 42)) rfl dX8_now_4 ?_
  refine q_get (C := RX1) (T := TX1) (N := 6) (ci := 1) E (fun w h => List.mem_cons_of_mem _ (inX1 w h)) hw 12 rfl rfl 5 (by decide) (List.mem_cons_of_mem _ tb_277) (v := .int (σ 12 0)) rfl dX8_now_7 ?_
  cases hM
  exact q_reti E hw dX8_now_10
set_option maxRecDepth 100000 in
set_option maxHeartbeats 4000000 in
theorem c_X8_ticketCount (l : Launch) (D : va_G) (cA : Nat → ClassId) (tS : Nat → Nat) (A : Nat → Prop) (h : Nat → Nat) (ax : Nat) (sv : Nat) (tr : Nat) (sc : Nat) (F : va_W) (σ : Sg) (r0 : Int32) (hM : f_X8_ticketCount σ = some r0) : Ct l yX8_ticketCount (Cond.code yX8_ticketCount cX8_ticketCount 1 (some .int) :: bw) 0 0 D cA tS A [.ref ax] (wK cA h σ ++ (wLg cA h σ 600 ++ (wC cA h σ ++ (wH cA h σ ++ (wS h ++ (wX ax (h 46) sv tr sc ++ F)))))) (some (.int r0)) (wK cA h σ ++ (wLg cA h σ 600 ++ (wC cA h σ ++ (wH cA h σ ++ (wS h ++ (wX ax (h 46) sv tr sc ++ F)))))) := by
  refine ct_of (by decide +kernel) (Nat.le_of_ble_eq_true rfl) ?_
  intro p e s m below meth c E hw ls hl
  replace E : Ev p cX8_ticketCount 1 (some .int) RX8 (Cond.code yX8_ticketCount cX8_ticketCount 1 (some .int) :: bw) D cA tS A s m _ meth c := E
  replace hl : lv_has ls 1 [(0, .ref ax)] := hl
  have hx := E.1.1
  have hb := E.1.2.1
  unfold f_X8_ticketCount at hM
  refine lv_aload_n hx hb dX8_ticketCount_0 rfl (lv_at hl 0 rfl) ?_
  refine q_get (C := RX8) (T := TX8) (N := 4) (ci := 8) E (fun w h => List.mem_cons_of_mem _ (inX8 w h)) hw 40 rfl rfl 0 (by decide) (List.mem_cons_of_mem _ tb_373) (v := .ref (h 46)) rfl dX8_ticketCount_1 ?_
  refine q_get (C := RX6) (T := TX6) (N := 2) (ci := 6) E (fun w h => List.mem_cons_of_mem _ (inX6 w h)) hw 39 rfl rfl 0 (by decide) (List.mem_cons_of_mem _ tb_321) (v := .ref (h 42)) rfl dX8_ticketCount_4 ?_
  refine q_get (C := RX1) (T := TX1) (N := 6) (ci := 1) E (fun w h => List.mem_cons_of_mem _ (inX1 w h)) hw 12 rfl rfl 3 (by decide) (List.mem_cons_of_mem _ tb_273) (v := .ref (h 44)) rfl dX8_ticketCount_7 ?_
  refine q_get (C := RX7) (T := TX7) (N := 15) (ci := 7) E (fun w h => List.mem_cons_of_mem _ (inX7 w h)) hw 16 rfl rfl 14 (by decide) (List.mem_cons_of_mem _ tb_186) (v := .int (σ 15 0)) rfl dX8_ticketCount_10 ?_
  cases hM
  exact q_reti E hw dX8_ticketCount_13
set_option maxRecDepth 100000 in
set_option maxHeartbeats 4000000 in
theorem c_X8_ofTicket_state (l : Launch) (D : va_G) (cA : Nat → ClassId) (tS : Nat → Nat) (A : Nat → Prop) (h : Nat → Nat) (ax : Nat) (sv : Nat) (tr : Nat) (sc : Nat) (F : va_W) (x2 : Int32) (σ : Sg) (r0 : Int32) (hM : f_X8_ofTicket_state x2 σ = some r0) : Ct l yX8_ofTicket (Cond.code yX8_ofTicket cX8_ofTicket 3 (some .int) :: bw) 1 21 D cA tS A [.ref ax, .ref (h 21), .int x2] (wK cA h σ ++ (wLg cA h σ 600 ++ (wC cA h σ ++ (wH cA h σ ++ (wS h ++ (wX ax (h 46) sv tr sc ++ F)))))) (some (.int r0)) (wK cA h σ ++ (wLg cA h σ 600 ++ (wC cA h σ ++ (wH cA h σ ++ (wS h ++ (wX ax (h 46) sv tr sc ++ F)))))) := by
  refine ct_of (by decide +kernel) (Nat.le_of_ble_eq_true rfl) ?_
  intro p e s m below meth c E hw ls hl
  replace E : Ev p cX8_ofTicket 3 (some .int) RX8 (Cond.code yX8_ofTicket cX8_ofTicket 3 (some .int) :: bw) D cA tS A s m _ meth c := E
  replace hl : lv_has ls 3 [(0, .ref ax), (1, .ref (h 21)), (2, .int x2)] := hl
  have hx := E.1.1
  have hb := E.1.2.1
  unfold f_X8_ofTicket_state at hM
  refine lv_aload_n hx hb dX8_ofTicket_0 rfl (lv_at hl 0 rfl) ?_
  refine q_get (C := RX8) (T := TX8) (N := 4) (ci := 8) E (fun w h => List.mem_cons_of_mem _ (inX8 w h)) hw 40 rfl rfl 0 (by decide) (List.mem_cons_of_mem _ tb_373) (v := .ref (h 46)) rfl dX8_ofTicket_1 ?_
  refine q_get (C := RX6) (T := TX6) (N := 2) (ci := 6) E (fun w h => List.mem_cons_of_mem _ (inX6 w h)) hw 39 rfl rfl 0 (by decide) (List.mem_cons_of_mem _ tb_321) (v := .ref (h 42)) rfl dX8_ofTicket_4 ?_
  refine q_get (C := RX1) (T := TX1) (N := 6) (ci := 1) E (fun w h => List.mem_cons_of_mem _ (inX1 w h)) hw 12 rfl rfl 3 (by decide) (List.mem_cons_of_mem _ tb_273) (v := .ref (h 44)) rfl dX8_ofTicket_7 ?_
  refine lv_iload_n hx hb dX8_ofTicket_10 rfl (lv_at hl 2 rfl) ?_
  obtain ⟨p1, h2, hM⟩ := b_some hM
  refine q_cv (As := [.int x2]) (rest := []) E hw hl (c_X7_exists l D cA tS A h 600 (wH cA h σ ++ (wS h ++ (wX ax (h 46) sv tr sc ++ F))) x2 σ p1 h2) 1 (bwV bw_c tb_666 tb_545 tb_546 tb_52 tb_547) rfl (by decide +kernel) ⟨Nat.le_of_ble_eq_true rfl, Nat.le_of_ble_eq_true rfl⟩ 16 7 (T := TX7) (N := 15) rfl rfl rfl rfl (Nat.le_of_ble_eq_true rfl) ⟨Nat.zero_le _, Nat.zero_le _⟩ dX8_ofTicket_11 (fun H locs hw => ?_)
  refine lv_if_eq (tgt := 23) hx hb dX8_ofTicket_14 (by decide) (fun c3 => ?_) (fun c3 => ?_)
  · replace hM := i_pos hM c3
    refine lv_bipush (v := (-2)) hx hb dX8_ofTicket_23 (by decide) ?_
    cases hM
    exact q_reti E hw dX8_ofTicket_25
  · replace hM := i_neg hM c3
    refine lv_aload_n hx hb dX8_ofTicket_17 rfl (lv_at hl 1 rfl) ?_
    refine lv_iload_n hx hb dX8_ofTicket_18 rfl (lv_at hl 2 rfl) ?_
    obtain ⟨g4, hM⟩ := g_some hM
    refine q_ald E hw 22 (n := 60) rfl g4 (x := (σ 21 (ix x2))) rfl dX8_ofTicket_19 ?_
    refine lv_goto (tgt := 25) hx hb dX8_ofTicket_20 (by decide) ?_
    cases hM
    exact q_reti E hw dX8_ofTicket_25
set_option maxRecDepth 100000 in
set_option maxHeartbeats 4000000 in
theorem c_X8_stateOf (l : Launch) (D : va_G) (cA : Nat → ClassId) (tS : Nat → Nat) (A : Nat → Prop) (h : Nat → Nat) (ax : Nat) (sv : Nat) (tr : Nat) (sc : Nat) (F : va_W) (x1 : Int32) (σ : Sg) (r0 : Int32) (hM : f_X8_stateOf x1 σ = some r0) : Ct l yX8_stateOf (Cond.code yX8_stateOf cX8_stateOf 2 (some .int) :: bw) 2 43 D cA tS A [.ref ax, .int x1] (wK cA h σ ++ (wLg cA h σ 600 ++ (wC cA h σ ++ (wH cA h σ ++ (wS h ++ (wX ax (h 46) sv tr sc ++ F)))))) (some (.int r0)) (wK cA h σ ++ (wLg cA h σ 600 ++ (wC cA h σ ++ (wH cA h σ ++ (wS h ++ (wX ax (h 46) sv tr sc ++ F)))))) := by
  refine ct_of (by decide +kernel) (Nat.le_of_ble_eq_true rfl) ?_
  intro p e s m below meth c E hw ls hl
  replace E : Ev p cX8_stateOf 2 (some .int) RX8 (Cond.code yX8_stateOf cX8_stateOf 2 (some .int) :: bw) D cA tS A s m _ meth c := E
  replace hl : lv_has ls 2 [(0, .ref ax), (1, .int x1)] := hl
  have hx := E.1.1
  have hb := E.1.2.1
  unfold f_X8_stateOf at hM
  refine lv_aload_n hx hb dX8_stateOf_0 rfl (lv_at hl 0 rfl) ?_
  refine lv_aload_n hx hb dX8_stateOf_1 rfl (lv_at hl 0 rfl) ?_
  refine q_get (C := RX8) (T := TX8) (N := 4) (ci := 8) E (fun w h => List.mem_cons_of_mem _ (inX8 w h)) hw 40 rfl rfl 0 (by decide) (List.mem_cons_of_mem _ tb_373) (v := .ref (h 46)) rfl dX8_stateOf_2 ?_
  refine q_get (C := RX6) (T := TX6) (N := 2) (ci := 6) E (fun w h => List.mem_cons_of_mem _ (inX6 w h)) hw 39 rfl rfl 0 (by decide) (List.mem_cons_of_mem _ tb_321) (v := .ref (h 42)) rfl dX8_stateOf_5 ?_
  refine q_get (C := RX1) (T := TX1) (N := 6) (ci := 1) E (fun w h => List.mem_cons_of_mem _ (inX1 w h)) hw 12 rfl rfl 3 (by decide) (List.mem_cons_of_mem _ tb_273) (v := .ref (h 44)) rfl dX8_stateOf_8 ?_
  refine q_get (C := RX7) (T := TX7) (N := 15) (ci := 7) E (fun w h => List.mem_cons_of_mem _ (inX7 w h)) hw 16 rfl rfl 5 (by decide) (List.mem_cons_of_mem _ tb_161) (v := .ref (h 21)) rfl dX8_stateOf_11 ?_
  refine lv_iload_n hx hb dX8_stateOf_14 rfl (lv_at hl 1 rfl) ?_
  obtain ⟨p1, h2, hM⟩ := b_some hM
  refine q_cv (As := [.ref (h 21), .int x1]) (rest := []) E hw hl (c_X8_ofTicket_state l D cA tS A h ax sv tr sc F x1 σ p1 h2) 2 (bwV bw_c tb_662 tb_664 tb_25 tb_47 tb_665) rfl (by decide +kernel) ⟨Nat.le_of_ble_eq_true rfl, Nat.le_of_ble_eq_true rfl⟩ 40 8 (T := TX8) (N := 4) rfl rfl rfl rfl (Nat.le_of_ble_eq_true rfl) ⟨Nat.zero_le _, Nat.zero_le _⟩ dX8_stateOf_15 (fun H locs hw => ?_)
  cases hM
  exact q_reti E hw dX8_stateOf_18
set_option maxRecDepth 100000 in
set_option maxHeartbeats 4000000 in
theorem c_X8_ofTicket_kind (l : Launch) (D : va_G) (cA : Nat → ClassId) (tS : Nat → Nat) (A : Nat → Prop) (h : Nat → Nat) (ax : Nat) (sv : Nat) (tr : Nat) (sc : Nat) (F : va_W) (x2 : Int32) (σ : Sg) (r0 : Int32) (hM : f_X8_ofTicket_kind x2 σ = some r0) : Ct l yX8_ofTicket (Cond.code yX8_ofTicket cX8_ofTicket 3 (some .int) :: bw) 1 21 D cA tS A [.ref ax, .ref (h 16), .int x2] (wK cA h σ ++ (wLg cA h σ 600 ++ (wC cA h σ ++ (wH cA h σ ++ (wS h ++ (wX ax (h 46) sv tr sc ++ F)))))) (some (.int r0)) (wK cA h σ ++ (wLg cA h σ 600 ++ (wC cA h σ ++ (wH cA h σ ++ (wS h ++ (wX ax (h 46) sv tr sc ++ F)))))) := by
  refine ct_of (by decide +kernel) (Nat.le_of_ble_eq_true rfl) ?_
  intro p e s m below meth c E hw ls hl
  replace E : Ev p cX8_ofTicket 3 (some .int) RX8 (Cond.code yX8_ofTicket cX8_ofTicket 3 (some .int) :: bw) D cA tS A s m _ meth c := E
  replace hl : lv_has ls 3 [(0, .ref ax), (1, .ref (h 16)), (2, .int x2)] := hl
  have hx := E.1.1
  have hb := E.1.2.1
  unfold f_X8_ofTicket_kind at hM
  refine lv_aload_n hx hb dX8_ofTicket_0 rfl (lv_at hl 0 rfl) ?_
  refine q_get (C := RX8) (T := TX8) (N := 4) (ci := 8) E (fun w h => List.mem_cons_of_mem _ (inX8 w h)) hw 40 rfl rfl 0 (by decide) (List.mem_cons_of_mem _ tb_373) (v := .ref (h 46)) rfl dX8_ofTicket_1 ?_
  refine q_get (C := RX6) (T := TX6) (N := 2) (ci := 6) E (fun w h => List.mem_cons_of_mem _ (inX6 w h)) hw 39 rfl rfl 0 (by decide) (List.mem_cons_of_mem _ tb_321) (v := .ref (h 42)) rfl dX8_ofTicket_4 ?_
  refine q_get (C := RX1) (T := TX1) (N := 6) (ci := 1) E (fun w h => List.mem_cons_of_mem _ (inX1 w h)) hw 12 rfl rfl 3 (by decide) (List.mem_cons_of_mem _ tb_273) (v := .ref (h 44)) rfl dX8_ofTicket_7 ?_
  refine lv_iload_n hx hb dX8_ofTicket_10 rfl (lv_at hl 2 rfl) ?_
  obtain ⟨p1, h2, hM⟩ := b_some hM
  refine q_cv (As := [.int x2]) (rest := []) E hw hl (c_X7_exists l D cA tS A h 600 (wH cA h σ ++ (wS h ++ (wX ax (h 46) sv tr sc ++ F))) x2 σ p1 h2) 1 (bwV bw_c tb_666 tb_545 tb_546 tb_52 tb_547) rfl (by decide +kernel) ⟨Nat.le_of_ble_eq_true rfl, Nat.le_of_ble_eq_true rfl⟩ 16 7 (T := TX7) (N := 15) rfl rfl rfl rfl (Nat.le_of_ble_eq_true rfl) ⟨Nat.zero_le _, Nat.zero_le _⟩ dX8_ofTicket_11 (fun H locs hw => ?_)
  refine lv_if_eq (tgt := 23) hx hb dX8_ofTicket_14 (by decide) (fun c3 => ?_) (fun c3 => ?_)
  · replace hM := i_pos hM c3
    refine lv_bipush (v := (-2)) hx hb dX8_ofTicket_23 (by decide) ?_
    cases hM
    exact q_reti E hw dX8_ofTicket_25
  · replace hM := i_neg hM c3
    refine lv_aload_n hx hb dX8_ofTicket_17 rfl (lv_at hl 1 rfl) ?_
    refine lv_iload_n hx hb dX8_ofTicket_18 rfl (lv_at hl 2 rfl) ?_
    obtain ⟨g4, hM⟩ := g_some hM
    refine q_ald E hw 17 (n := 60) rfl g4 (x := (σ 16 (ix x2))) rfl dX8_ofTicket_19 ?_
    refine lv_goto (tgt := 25) hx hb dX8_ofTicket_20 (by decide) ?_
    cases hM
    exact q_reti E hw dX8_ofTicket_25
set_option maxRecDepth 100000 in
set_option maxHeartbeats 4000000 in
theorem c_X8_kindOf (l : Launch) (D : va_G) (cA : Nat → ClassId) (tS : Nat → Nat) (A : Nat → Prop) (h : Nat → Nat) (ax : Nat) (sv : Nat) (tr : Nat) (sc : Nat) (F : va_W) (x1 : Int32) (σ : Sg) (r0 : Int32) (hM : f_X8_kindOf x1 σ = some r0) : Ct l yX8_kindOf (Cond.code yX8_kindOf cX8_kindOf 2 (some .int) :: bw) 2 43 D cA tS A [.ref ax, .int x1] (wK cA h σ ++ (wLg cA h σ 600 ++ (wC cA h σ ++ (wH cA h σ ++ (wS h ++ (wX ax (h 46) sv tr sc ++ F)))))) (some (.int r0)) (wK cA h σ ++ (wLg cA h σ 600 ++ (wC cA h σ ++ (wH cA h σ ++ (wS h ++ (wX ax (h 46) sv tr sc ++ F)))))) := by
  refine ct_of (by decide +kernel) (Nat.le_of_ble_eq_true rfl) ?_
  intro p e s m below meth c E hw ls hl
  replace E : Ev p cX8_kindOf 2 (some .int) RX8 (Cond.code yX8_kindOf cX8_kindOf 2 (some .int) :: bw) D cA tS A s m _ meth c := E
  replace hl : lv_has ls 2 [(0, .ref ax), (1, .int x1)] := hl
  have hx := E.1.1
  have hb := E.1.2.1
  unfold f_X8_kindOf at hM
  refine lv_aload_n hx hb dX8_kindOf_0 rfl (lv_at hl 0 rfl) ?_
  refine lv_aload_n hx hb dX8_kindOf_1 rfl (lv_at hl 0 rfl) ?_
  refine q_get (C := RX8) (T := TX8) (N := 4) (ci := 8) E (fun w h => List.mem_cons_of_mem _ (inX8 w h)) hw 40 rfl rfl 0 (by decide) (List.mem_cons_of_mem _ tb_373) (v := .ref (h 46)) rfl dX8_kindOf_2 ?_
  refine q_get (C := RX6) (T := TX6) (N := 2) (ci := 6) E (fun w h => List.mem_cons_of_mem _ (inX6 w h)) hw 39 rfl rfl 0 (by decide) (List.mem_cons_of_mem _ tb_321) (v := .ref (h 42)) rfl dX8_kindOf_5 ?_
  refine q_get (C := RX1) (T := TX1) (N := 6) (ci := 1) E (fun w h => List.mem_cons_of_mem _ (inX1 w h)) hw 12 rfl rfl 3 (by decide) (List.mem_cons_of_mem _ tb_273) (v := .ref (h 44)) rfl dX8_kindOf_8 ?_
  refine q_get (C := RX7) (T := TX7) (N := 15) (ci := 7) E (fun w h => List.mem_cons_of_mem _ (inX7 w h)) hw 16 rfl rfl 0 (by decide) (List.mem_cons_of_mem _ tb_150) (v := .ref (h 16)) rfl dX8_kindOf_11 ?_
  refine lv_iload_n hx hb dX8_kindOf_14 rfl (lv_at hl 1 rfl) ?_
  obtain ⟨p1, h2, hM⟩ := b_some hM
  refine q_cv (As := [.ref (h 16), .int x1]) (rest := []) E hw hl (c_X8_ofTicket_kind l D cA tS A h ax sv tr sc F x1 σ p1 h2) 2 (bwV bw_c tb_662 tb_664 tb_25 tb_47 tb_665) rfl (by decide +kernel) ⟨Nat.le_of_ble_eq_true rfl, Nat.le_of_ble_eq_true rfl⟩ 40 8 (T := TX8) (N := 4) rfl rfl rfl rfl (Nat.le_of_ble_eq_true rfl) ⟨Nat.zero_le _, Nat.zero_le _⟩ dX8_kindOf_15 (fun H locs hw => ?_)
  cases hM
  exact q_reti E hw dX8_kindOf_18
set_option maxRecDepth 100000 in
set_option maxHeartbeats 4000000 in
theorem c_X8_ofTicket_level (l : Launch) (D : va_G) (cA : Nat → ClassId) (tS : Nat → Nat) (A : Nat → Prop) (h : Nat → Nat) (ax : Nat) (sv : Nat) (tr : Nat) (sc : Nat) (F : va_W) (x2 : Int32) (σ : Sg) (r0 : Int32) (hM : f_X8_ofTicket_level x2 σ = some r0) : Ct l yX8_ofTicket (Cond.code yX8_ofTicket cX8_ofTicket 3 (some .int) :: bw) 1 21 D cA tS A [.ref ax, .ref (h 20), .int x2] (wK cA h σ ++ (wLg cA h σ 600 ++ (wC cA h σ ++ (wH cA h σ ++ (wS h ++ (wX ax (h 46) sv tr sc ++ F)))))) (some (.int r0)) (wK cA h σ ++ (wLg cA h σ 600 ++ (wC cA h σ ++ (wH cA h σ ++ (wS h ++ (wX ax (h 46) sv tr sc ++ F)))))) := by
  refine ct_of (by decide +kernel) (Nat.le_of_ble_eq_true rfl) ?_
  intro p e s m below meth c E hw ls hl
  replace E : Ev p cX8_ofTicket 3 (some .int) RX8 (Cond.code yX8_ofTicket cX8_ofTicket 3 (some .int) :: bw) D cA tS A s m _ meth c := E
  replace hl : lv_has ls 3 [(0, .ref ax), (1, .ref (h 20)), (2, .int x2)] := hl
  have hx := E.1.1
  have hb := E.1.2.1
  unfold f_X8_ofTicket_level at hM
  refine lv_aload_n hx hb dX8_ofTicket_0 rfl (lv_at hl 0 rfl) ?_
  refine q_get (C := RX8) (T := TX8) (N := 4) (ci := 8) E (fun w h => List.mem_cons_of_mem _ (inX8 w h)) hw 40 rfl rfl 0 (by decide) (List.mem_cons_of_mem _ tb_373) (v := .ref (h 46)) rfl dX8_ofTicket_1 ?_
  refine q_get (C := RX6) (T := TX6) (N := 2) (ci := 6) E (fun w h => List.mem_cons_of_mem _ (inX6 w h)) hw 39 rfl rfl 0 (by decide) (List.mem_cons_of_mem _ tb_321) (v := .ref (h 42)) rfl dX8_ofTicket_4 ?_
  refine q_get (C := RX1) (T := TX1) (N := 6) (ci := 1) E (fun w h => List.mem_cons_of_mem _ (inX1 w h)) hw 12 rfl rfl 3 (by decide) (List.mem_cons_of_mem _ tb_273) (v := .ref (h 44)) rfl dX8_ofTicket_7 ?_
  refine lv_iload_n hx hb dX8_ofTicket_10 rfl (lv_at hl 2 rfl) ?_
  obtain ⟨p1, h2, hM⟩ := b_some hM
  refine q_cv (As := [.int x2]) (rest := []) E hw hl (c_X7_exists l D cA tS A h 600 (wH cA h σ ++ (wS h ++ (wX ax (h 46) sv tr sc ++ F))) x2 σ p1 h2) 1 (bwV bw_c tb_666 tb_545 tb_546 tb_52 tb_547) rfl (by decide +kernel) ⟨Nat.le_of_ble_eq_true rfl, Nat.le_of_ble_eq_true rfl⟩ 16 7 (T := TX7) (N := 15) rfl rfl rfl rfl (Nat.le_of_ble_eq_true rfl) ⟨Nat.zero_le _, Nat.zero_le _⟩ dX8_ofTicket_11 (fun H locs hw => ?_)
  refine lv_if_eq (tgt := 23) hx hb dX8_ofTicket_14 (by decide) (fun c3 => ?_) (fun c3 => ?_)
  · replace hM := i_pos hM c3
    refine lv_bipush (v := (-2)) hx hb dX8_ofTicket_23 (by decide) ?_
    cases hM
    exact q_reti E hw dX8_ofTicket_25
  · replace hM := i_neg hM c3
    refine lv_aload_n hx hb dX8_ofTicket_17 rfl (lv_at hl 1 rfl) ?_
    refine lv_iload_n hx hb dX8_ofTicket_18 rfl (lv_at hl 2 rfl) ?_
    obtain ⟨g4, hM⟩ := g_some hM
    refine q_ald E hw 21 (n := 60) rfl g4 (x := (σ 20 (ix x2))) rfl dX8_ofTicket_19 ?_
    refine lv_goto (tgt := 25) hx hb dX8_ofTicket_20 (by decide) ?_
    cases hM
    exact q_reti E hw dX8_ofTicket_25
set_option maxRecDepth 100000 in
set_option maxHeartbeats 4000000 in
theorem c_X8_levelOf (l : Launch) (D : va_G) (cA : Nat → ClassId) (tS : Nat → Nat) (A : Nat → Prop) (h : Nat → Nat) (ax : Nat) (sv : Nat) (tr : Nat) (sc : Nat) (F : va_W) (x1 : Int32) (σ : Sg) (r0 : Int32) (hM : f_X8_levelOf x1 σ = some r0) : Ct l yX8_levelOf (Cond.code yX8_levelOf cX8_levelOf 2 (some .int) :: bw) 2 43 D cA tS A [.ref ax, .int x1] (wK cA h σ ++ (wLg cA h σ 600 ++ (wC cA h σ ++ (wH cA h σ ++ (wS h ++ (wX ax (h 46) sv tr sc ++ F)))))) (some (.int r0)) (wK cA h σ ++ (wLg cA h σ 600 ++ (wC cA h σ ++ (wH cA h σ ++ (wS h ++ (wX ax (h 46) sv tr sc ++ F)))))) := by
  refine ct_of (by decide +kernel) (Nat.le_of_ble_eq_true rfl) ?_
  intro p e s m below meth c E hw ls hl
  replace E : Ev p cX8_levelOf 2 (some .int) RX8 (Cond.code yX8_levelOf cX8_levelOf 2 (some .int) :: bw) D cA tS A s m _ meth c := E
  replace hl : lv_has ls 2 [(0, .ref ax), (1, .int x1)] := hl
  have hx := E.1.1
  have hb := E.1.2.1
  unfold f_X8_levelOf at hM
  refine lv_aload_n hx hb dX8_levelOf_0 rfl (lv_at hl 0 rfl) ?_
  refine lv_aload_n hx hb dX8_levelOf_1 rfl (lv_at hl 0 rfl) ?_
  refine q_get (C := RX8) (T := TX8) (N := 4) (ci := 8) E (fun w h => List.mem_cons_of_mem _ (inX8 w h)) hw 40 rfl rfl 0 (by decide) (List.mem_cons_of_mem _ tb_373) (v := .ref (h 46)) rfl dX8_levelOf_2 ?_
  refine q_get (C := RX6) (T := TX6) (N := 2) (ci := 6) E (fun w h => List.mem_cons_of_mem _ (inX6 w h)) hw 39 rfl rfl 0 (by decide) (List.mem_cons_of_mem _ tb_321) (v := .ref (h 42)) rfl dX8_levelOf_5 ?_
  refine q_get (C := RX1) (T := TX1) (N := 6) (ci := 1) E (fun w h => List.mem_cons_of_mem _ (inX1 w h)) hw 12 rfl rfl 3 (by decide) (List.mem_cons_of_mem _ tb_273) (v := .ref (h 44)) rfl dX8_levelOf_8 ?_
  refine q_get (C := RX7) (T := TX7) (N := 15) (ci := 7) E (fun w h => List.mem_cons_of_mem _ (inX7 w h)) hw 16 rfl rfl 4 (by decide) (List.mem_cons_of_mem _ tb_158) (v := .ref (h 20)) rfl dX8_levelOf_11 ?_
  refine lv_iload_n hx hb dX8_levelOf_14 rfl (lv_at hl 1 rfl) ?_
  obtain ⟨p1, h2, hM⟩ := b_some hM
  refine q_cv (As := [.ref (h 20), .int x1]) (rest := []) E hw hl (c_X8_ofTicket_level l D cA tS A h ax sv tr sc F x1 σ p1 h2) 2 (bwV bw_c tb_662 tb_664 tb_25 tb_47 tb_665) rfl (by decide +kernel) ⟨Nat.le_of_ble_eq_true rfl, Nat.le_of_ble_eq_true rfl⟩ 40 8 (T := TX8) (N := 4) rfl rfl rfl rfl (Nat.le_of_ble_eq_true rfl) ⟨Nat.zero_le _, Nat.zero_le _⟩ dX8_levelOf_15 (fun H locs hw => ?_)
  cases hM
  exact q_reti E hw dX8_levelOf_18
set_option maxRecDepth 100000 in
set_option maxHeartbeats 4000000 in
theorem c_X8_ofTicket_progress (l : Launch) (D : va_G) (cA : Nat → ClassId) (tS : Nat → Nat) (A : Nat → Prop) (h : Nat → Nat) (ax : Nat) (sv : Nat) (tr : Nat) (sc : Nat) (F : va_W) (x2 : Int32) (σ : Sg) (r0 : Int32) (hM : f_X8_ofTicket_progress x2 σ = some r0) : Ct l yX8_ofTicket (Cond.code yX8_ofTicket cX8_ofTicket 3 (some .int) :: bw) 1 21 D cA tS A [.ref ax, .ref (h 22), .int x2] (wK cA h σ ++ (wLg cA h σ 600 ++ (wC cA h σ ++ (wH cA h σ ++ (wS h ++ (wX ax (h 46) sv tr sc ++ F)))))) (some (.int r0)) (wK cA h σ ++ (wLg cA h σ 600 ++ (wC cA h σ ++ (wH cA h σ ++ (wS h ++ (wX ax (h 46) sv tr sc ++ F)))))) := by
  refine ct_of (by decide +kernel) (Nat.le_of_ble_eq_true rfl) ?_
  intro p e s m below meth c E hw ls hl
  replace E : Ev p cX8_ofTicket 3 (some .int) RX8 (Cond.code yX8_ofTicket cX8_ofTicket 3 (some .int) :: bw) D cA tS A s m _ meth c := E
  replace hl : lv_has ls 3 [(0, .ref ax), (1, .ref (h 22)), (2, .int x2)] := hl
  have hx := E.1.1
  have hb := E.1.2.1
  unfold f_X8_ofTicket_progress at hM
  refine lv_aload_n hx hb dX8_ofTicket_0 rfl (lv_at hl 0 rfl) ?_
  refine q_get (C := RX8) (T := TX8) (N := 4) (ci := 8) E (fun w h => List.mem_cons_of_mem _ (inX8 w h)) hw 40 rfl rfl 0 (by decide) (List.mem_cons_of_mem _ tb_373) (v := .ref (h 46)) rfl dX8_ofTicket_1 ?_
  refine q_get (C := RX6) (T := TX6) (N := 2) (ci := 6) E (fun w h => List.mem_cons_of_mem _ (inX6 w h)) hw 39 rfl rfl 0 (by decide) (List.mem_cons_of_mem _ tb_321) (v := .ref (h 42)) rfl dX8_ofTicket_4 ?_
  refine q_get (C := RX1) (T := TX1) (N := 6) (ci := 1) E (fun w h => List.mem_cons_of_mem _ (inX1 w h)) hw 12 rfl rfl 3 (by decide) (List.mem_cons_of_mem _ tb_273) (v := .ref (h 44)) rfl dX8_ofTicket_7 ?_
  refine lv_iload_n hx hb dX8_ofTicket_10 rfl (lv_at hl 2 rfl) ?_
  obtain ⟨p1, h2, hM⟩ := b_some hM
  refine q_cv (As := [.int x2]) (rest := []) E hw hl (c_X7_exists l D cA tS A h 600 (wH cA h σ ++ (wS h ++ (wX ax (h 46) sv tr sc ++ F))) x2 σ p1 h2) 1 (bwV bw_c tb_666 tb_545 tb_546 tb_52 tb_547) rfl (by decide +kernel) ⟨Nat.le_of_ble_eq_true rfl, Nat.le_of_ble_eq_true rfl⟩ 16 7 (T := TX7) (N := 15) rfl rfl rfl rfl (Nat.le_of_ble_eq_true rfl) ⟨Nat.zero_le _, Nat.zero_le _⟩ dX8_ofTicket_11 (fun H locs hw => ?_)
  refine lv_if_eq (tgt := 23) hx hb dX8_ofTicket_14 (by decide) (fun c3 => ?_) (fun c3 => ?_)
  · replace hM := i_pos hM c3
    refine lv_bipush (v := (-2)) hx hb dX8_ofTicket_23 (by decide) ?_
    cases hM
    exact q_reti E hw dX8_ofTicket_25
  · replace hM := i_neg hM c3
    refine lv_aload_n hx hb dX8_ofTicket_17 rfl (lv_at hl 1 rfl) ?_
    refine lv_iload_n hx hb dX8_ofTicket_18 rfl (lv_at hl 2 rfl) ?_
    obtain ⟨g4, hM⟩ := g_some hM
    refine q_ald E hw 23 (n := 60) rfl g4 (x := (σ 22 (ix x2))) rfl dX8_ofTicket_19 ?_
    refine lv_goto (tgt := 25) hx hb dX8_ofTicket_20 (by decide) ?_
    cases hM
    exact q_reti E hw dX8_ofTicket_25
set_option maxRecDepth 100000 in
set_option maxHeartbeats 4000000 in
theorem c_X8_progress (l : Launch) (D : va_G) (cA : Nat → ClassId) (tS : Nat → Nat) (A : Nat → Prop) (h : Nat → Nat) (ax : Nat) (sv : Nat) (tr : Nat) (sc : Nat) (F : va_W) (x1 : Int32) (σ : Sg) (r0 : Int32) (hM : f_X8_progress x1 σ = some r0) : Ct l yX8_progress (Cond.code yX8_progress cX8_progress 2 (some .int) :: bw) 2 43 D cA tS A [.ref ax, .int x1] (wK cA h σ ++ (wLg cA h σ 600 ++ (wC cA h σ ++ (wH cA h σ ++ (wS h ++ (wX ax (h 46) sv tr sc ++ F)))))) (some (.int r0)) (wK cA h σ ++ (wLg cA h σ 600 ++ (wC cA h σ ++ (wH cA h σ ++ (wS h ++ (wX ax (h 46) sv tr sc ++ F)))))) := by
  refine ct_of (by decide +kernel) (Nat.le_of_ble_eq_true rfl) ?_
  intro p e s m below meth c E hw ls hl
  replace E : Ev p cX8_progress 2 (some .int) RX8 (Cond.code yX8_progress cX8_progress 2 (some .int) :: bw) D cA tS A s m _ meth c := E
  replace hl : lv_has ls 2 [(0, .ref ax), (1, .int x1)] := hl
  have hx := E.1.1
  have hb := E.1.2.1
  unfold f_X8_progress at hM
  refine lv_aload_n hx hb dX8_progress_0 rfl (lv_at hl 0 rfl) ?_
  refine lv_aload_n hx hb dX8_progress_1 rfl (lv_at hl 0 rfl) ?_
  refine q_get (C := RX8) (T := TX8) (N := 4) (ci := 8) E (fun w h => List.mem_cons_of_mem _ (inX8 w h)) hw 40 rfl rfl 0 (by decide) (List.mem_cons_of_mem _ tb_373) (v := .ref (h 46)) rfl dX8_progress_2 ?_
  refine q_get (C := RX6) (T := TX6) (N := 2) (ci := 6) E (fun w h => List.mem_cons_of_mem _ (inX6 w h)) hw 39 rfl rfl 0 (by decide) (List.mem_cons_of_mem _ tb_321) (v := .ref (h 42)) rfl dX8_progress_5 ?_
  refine q_get (C := RX1) (T := TX1) (N := 6) (ci := 1) E (fun w h => List.mem_cons_of_mem _ (inX1 w h)) hw 12 rfl rfl 3 (by decide) (List.mem_cons_of_mem _ tb_273) (v := .ref (h 44)) rfl dX8_progress_8 ?_
  refine q_get (C := RX7) (T := TX7) (N := 15) (ci := 7) E (fun w h => List.mem_cons_of_mem _ (inX7 w h)) hw 16 rfl rfl 6 (by decide) (List.mem_cons_of_mem _ tb_164) (v := .ref (h 22)) rfl dX8_progress_11 ?_
  refine lv_iload_n hx hb dX8_progress_14 rfl (lv_at hl 1 rfl) ?_
  obtain ⟨p1, h2, hM⟩ := b_some hM
  refine q_cv (As := [.ref (h 22), .int x1]) (rest := []) E hw hl (c_X8_ofTicket_progress l D cA tS A h ax sv tr sc F x1 σ p1 h2) 2 (bwV bw_c tb_662 tb_664 tb_25 tb_47 tb_665) rfl (by decide +kernel) ⟨Nat.le_of_ble_eq_true rfl, Nat.le_of_ble_eq_true rfl⟩ 40 8 (T := TX8) (N := 4) rfl rfl rfl rfl (Nat.le_of_ble_eq_true rfl) ⟨Nat.zero_le _, Nat.zero_le _⟩ dX8_progress_15 (fun H locs hw => ?_)
  cases hM
  exact q_reti E hw dX8_progress_18
set_option maxRecDepth 100000 in
set_option maxHeartbeats 4000000 in
theorem c_X8_ofTicket_root (l : Launch) (D : va_G) (cA : Nat → ClassId) (tS : Nat → Nat) (A : Nat → Prop) (h : Nat → Nat) (ax : Nat) (sv : Nat) (tr : Nat) (sc : Nat) (F : va_W) (x2 : Int32) (σ : Sg) (r0 : Int32) (hM : f_X8_ofTicket_root x2 σ = some r0) : Ct l yX8_ofTicket (Cond.code yX8_ofTicket cX8_ofTicket 3 (some .int) :: bw) 1 21 D cA tS A [.ref ax, .ref (h 26), .int x2] (wK cA h σ ++ (wLg cA h σ 600 ++ (wC cA h σ ++ (wH cA h σ ++ (wS h ++ (wX ax (h 46) sv tr sc ++ F)))))) (some (.int r0)) (wK cA h σ ++ (wLg cA h σ 600 ++ (wC cA h σ ++ (wH cA h σ ++ (wS h ++ (wX ax (h 46) sv tr sc ++ F)))))) := by
  refine ct_of (by decide +kernel) (Nat.le_of_ble_eq_true rfl) ?_
  intro p e s m below meth c E hw ls hl
  replace E : Ev p cX8_ofTicket 3 (some .int) RX8 (Cond.code yX8_ofTicket cX8_ofTicket 3 (some .int) :: bw) D cA tS A s m _ meth c := E
  replace hl : lv_has ls 3 [(0, .ref ax), (1, .ref (h 26)), (2, .int x2)] := hl
  have hx := E.1.1
  have hb := E.1.2.1
  unfold f_X8_ofTicket_root at hM
  refine lv_aload_n hx hb dX8_ofTicket_0 rfl (lv_at hl 0 rfl) ?_
  refine q_get (C := RX8) (T := TX8) (N := 4) (ci := 8) E (fun w h => List.mem_cons_of_mem _ (inX8 w h)) hw 40 rfl rfl 0 (by decide) (List.mem_cons_of_mem _ tb_373) (v := .ref (h 46)) rfl dX8_ofTicket_1 ?_
  refine q_get (C := RX6) (T := TX6) (N := 2) (ci := 6) E (fun w h => List.mem_cons_of_mem _ (inX6 w h)) hw 39 rfl rfl 0 (by decide) (List.mem_cons_of_mem _ tb_321) (v := .ref (h 42)) rfl dX8_ofTicket_4 ?_
  refine q_get (C := RX1) (T := TX1) (N := 6) (ci := 1) E (fun w h => List.mem_cons_of_mem _ (inX1 w h)) hw 12 rfl rfl 3 (by decide) (List.mem_cons_of_mem _ tb_273) (v := .ref (h 44)) rfl dX8_ofTicket_7 ?_
  refine lv_iload_n hx hb dX8_ofTicket_10 rfl (lv_at hl 2 rfl) ?_
  obtain ⟨p1, h2, hM⟩ := b_some hM
  refine q_cv (As := [.int x2]) (rest := []) E hw hl (c_X7_exists l D cA tS A h 600 (wH cA h σ ++ (wS h ++ (wX ax (h 46) sv tr sc ++ F))) x2 σ p1 h2) 1 (bwV bw_c tb_666 tb_545 tb_546 tb_52 tb_547) rfl (by decide +kernel) ⟨Nat.le_of_ble_eq_true rfl, Nat.le_of_ble_eq_true rfl⟩ 16 7 (T := TX7) (N := 15) rfl rfl rfl rfl (Nat.le_of_ble_eq_true rfl) ⟨Nat.zero_le _, Nat.zero_le _⟩ dX8_ofTicket_11 (fun H locs hw => ?_)
  refine lv_if_eq (tgt := 23) hx hb dX8_ofTicket_14 (by decide) (fun c3 => ?_) (fun c3 => ?_)
  · replace hM := i_pos hM c3
    refine lv_bipush (v := (-2)) hx hb dX8_ofTicket_23 (by decide) ?_
    cases hM
    exact q_reti E hw dX8_ofTicket_25
  · replace hM := i_neg hM c3
    refine lv_aload_n hx hb dX8_ofTicket_17 rfl (lv_at hl 1 rfl) ?_
    refine lv_iload_n hx hb dX8_ofTicket_18 rfl (lv_at hl 2 rfl) ?_
    obtain ⟨g4, hM⟩ := g_some hM
    refine q_ald E hw 27 (n := 60) rfl g4 (x := (σ 26 (ix x2))) rfl dX8_ofTicket_19 ?_
    refine lv_goto (tgt := 25) hx hb dX8_ofTicket_20 (by decide) ?_
    cases hM
    exact q_reti E hw dX8_ofTicket_25
set_option maxRecDepth 100000 in
set_option maxHeartbeats 4000000 in
theorem c_X8_rootOf (l : Launch) (D : va_G) (cA : Nat → ClassId) (tS : Nat → Nat) (A : Nat → Prop) (h : Nat → Nat) (ax : Nat) (sv : Nat) (tr : Nat) (sc : Nat) (F : va_W) (x1 : Int32) (σ : Sg) (r0 : Int32) (hM : f_X8_rootOf x1 σ = some r0) : Ct l yX8_rootOf (Cond.code yX8_rootOf cX8_rootOf 2 (some .int) :: bw) 2 43 D cA tS A [.ref ax, .int x1] (wK cA h σ ++ (wLg cA h σ 600 ++ (wC cA h σ ++ (wH cA h σ ++ (wS h ++ (wX ax (h 46) sv tr sc ++ F)))))) (some (.int r0)) (wK cA h σ ++ (wLg cA h σ 600 ++ (wC cA h σ ++ (wH cA h σ ++ (wS h ++ (wX ax (h 46) sv tr sc ++ F)))))) := by
  refine ct_of (by decide +kernel) (Nat.le_of_ble_eq_true rfl) ?_
  intro p e s m below meth c E hw ls hl
  replace E : Ev p cX8_rootOf 2 (some .int) RX8 (Cond.code yX8_rootOf cX8_rootOf 2 (some .int) :: bw) D cA tS A s m _ meth c := E
  replace hl : lv_has ls 2 [(0, .ref ax), (1, .int x1)] := hl
  have hx := E.1.1
  have hb := E.1.2.1
  unfold f_X8_rootOf at hM
  refine lv_aload_n hx hb dX8_rootOf_0 rfl (lv_at hl 0 rfl) ?_
  refine lv_aload_n hx hb dX8_rootOf_1 rfl (lv_at hl 0 rfl) ?_
  refine q_get (C := RX8) (T := TX8) (N := 4) (ci := 8) E (fun w h => List.mem_cons_of_mem _ (inX8 w h)) hw 40 rfl rfl 0 (by decide) (List.mem_cons_of_mem _ tb_373) (v := .ref (h 46)) rfl dX8_rootOf_2 ?_
  refine q_get (C := RX6) (T := TX6) (N := 2) (ci := 6) E (fun w h => List.mem_cons_of_mem _ (inX6 w h)) hw 39 rfl rfl 0 (by decide) (List.mem_cons_of_mem _ tb_321) (v := .ref (h 42)) rfl dX8_rootOf_5 ?_
  refine q_get (C := RX1) (T := TX1) (N := 6) (ci := 1) E (fun w h => List.mem_cons_of_mem _ (inX1 w h)) hw 12 rfl rfl 3 (by decide) (List.mem_cons_of_mem _ tb_273) (v := .ref (h 44)) rfl dX8_rootOf_8 ?_
  refine q_get (C := RX7) (T := TX7) (N := 15) (ci := 7) E (fun w h => List.mem_cons_of_mem _ (inX7 w h)) hw 16 rfl rfl 10 (by decide) (List.mem_cons_of_mem _ tb_175) (v := .ref (h 26)) rfl dX8_rootOf_11 ?_
  refine lv_iload_n hx hb dX8_rootOf_14 rfl (lv_at hl 1 rfl) ?_
  obtain ⟨p1, h2, hM⟩ := b_some hM
  refine q_cv (As := [.ref (h 26), .int x1]) (rest := []) E hw hl (c_X8_ofTicket_root l D cA tS A h ax sv tr sc F x1 σ p1 h2) 2 (bwV bw_c tb_662 tb_664 tb_25 tb_47 tb_665) rfl (by decide +kernel) ⟨Nat.le_of_ble_eq_true rfl, Nat.le_of_ble_eq_true rfl⟩ 40 8 (T := TX8) (N := 4) rfl rfl rfl rfl (Nat.le_of_ble_eq_true rfl) ⟨Nat.zero_le _, Nat.zero_le _⟩ dX8_rootOf_15 (fun H locs hw => ?_)
  cases hM
  exact q_reti E hw dX8_rootOf_18
set_option maxRecDepth 100000 in
set_option maxHeartbeats 4000000 in
theorem c_X8_twins (l : Launch) (D : va_G) (cA : Nat → ClassId) (tS : Nat → Nat) (A : Nat → Prop) (h : Nat → Nat) (ax : Nat) (sv : Nat) (tr : Nat) (sc : Nat) (F : va_W) (N : Nat) (x1 : Int32) (σ : Sg) (r0 : Int64) (hM : f_X8_twins N x1 σ = some r0) : Ct l yX8_twins (Cond.code yX8_twins cX8_twins 3 (some .long) :: bw) 1 24 D cA tS A [.ref ax, .int x1] (wK cA h σ ++ (wLg cA h σ 600 ++ (wC cA h σ ++ (wH cA h σ ++ (wS h ++ (wX ax (h 46) sv tr sc ++ F)))))) (some (.long r0)) (wK cA h σ ++ (wLg cA h σ 600 ++ (wC cA h σ ++ (wH cA h σ ++ (wS h ++ (wX ax (h 46) sv tr sc ++ F)))))) := by
  refine ct_of (by decide +kernel) (Nat.le_of_ble_eq_true rfl) ?_
  intro p e s m below meth c E hw ls hl
  replace E : Ev p cX8_twins 3 (some .long) RX8 (Cond.code yX8_twins cX8_twins 3 (some .long) :: bw) D cA tS A s m _ meth c := E
  replace hl : lv_has ls 3 [(0, .ref ax), (1, .int x1)] := hl
  have hx := E.1.1
  have hb := E.1.2.1
  unfold f_X8_twins at hM
  refine lv_aload_n hx hb dX8_twins_0 rfl (lv_at hl 0 rfl) ?_
  refine q_get (C := RX8) (T := TX8) (N := 4) (ci := 8) E (fun w h => List.mem_cons_of_mem _ (inX8 w h)) hw 40 rfl rfl 0 (by decide) (List.mem_cons_of_mem _ tb_373) (v := .ref (h 46)) rfl dX8_twins_1 ?_
  refine q_get (C := RX6) (T := TX6) (N := 2) (ci := 6) E (fun w h => List.mem_cons_of_mem _ (inX6 w h)) hw 39 rfl rfl 0 (by decide) (List.mem_cons_of_mem _ tb_321) (v := .ref (h 42)) rfl dX8_twins_4 ?_
  refine q_get (C := RX1) (T := TX1) (N := 6) (ci := 1) E (fun w h => List.mem_cons_of_mem _ (inX1 w h)) hw 12 rfl rfl 3 (by decide) (List.mem_cons_of_mem _ tb_273) (v := .ref (h 44)) rfl dX8_twins_7 ?_
  refine lv_astore_n (lv' := [(2, .ref (h 44)), (0, .ref ax), (1, .int x1)]) hx hb dX8_twins_10 rfl hl (by decide) rfl (fun ls hl => ?_)
  refine lv_aload_n hx hb dX8_twins_11 rfl (lv_at hl 0 rfl) ?_
  refine lv_iload_n hx hb dX8_twins_12 rfl (lv_at hl 2 rfl) ?_
  obtain ⟨p1, h2, hM⟩ := b_some hM
  refine q_cv (As := [.int x1]) (rest := []) E hw hl (c_X7_exists l D cA tS A h 600 (wH cA h σ ++ (wS h ++ (wX ax (h 46) sv tr sc ++ F))) x1 σ p1 h2) 1 (bwV bw_c tb_666 tb_545 tb_546 tb_52 tb_547) rfl (by decide +kernel) ⟨Nat.le_of_ble_eq_true rfl, Nat.le_of_ble_eq_true rfl⟩ 16 7 (T := TX7) (N := 15) rfl rfl rfl rfl (Nat.le_of_ble_eq_true rfl) ⟨Nat.zero_le _, Nat.zero_le _⟩ dX8_twins_13 (fun H locs hw => ?_)
  refine lv_if_eq (tgt := 27) hx hb dX8_twins_16 (by decide) (fun c3 => ?_) (fun c3 => ?_)
  · replace hM := i_pos hM c3
    refine lv_ldc2 (v := (-2)) hx hb E.1.2.2.2.1 (E.1.2.2.2.2 _ (List.mem_cons_of_mem _ tb_729)) dX8_twins_27 ?_
    cases hM
    exact q_retl E hw dX8_twins_30
  · replace hM := i_neg hM c3
    refine lv_aload_n hx hb dX8_twins_19 rfl (lv_at hl 0 rfl) ?_
    refine lv_iload_n hx hb dX8_twins_20 rfl (lv_at hl 2 rfl) ?_
    obtain ⟨p4, h5, hM⟩ := b_some hM
    refine q_cv (As := [.int x1]) (rest := []) E hw hl (c_X7_twinMask l D cA tS A h 600 (wH cA h σ ++ (wS h ++ (wX ax (h 46) sv tr sc ++ F))) N x1 σ p4 h5) 1 (bwV bw_c tb_728 tb_629 tb_630 tb_52 tb_631) rfl (by decide +kernel) ⟨Nat.le_of_ble_eq_true rfl, Nat.le_of_ble_eq_true rfl⟩ 16 7 (T := TX7) (N := 15) rfl rfl rfl rfl (Nat.le_of_ble_eq_true rfl) ⟨Nat.zero_le _, Nat.zero_le _⟩ dX8_twins_21 (fun H locs hw => ?_)
    refine lv_goto (tgt := 30) hx hb dX8_twins_24 (by decide) ?_
    cases hM
    exact q_retl E hw dX8_twins_30
set_option maxRecDepth 100000 in
set_option maxHeartbeats 4000000 in
theorem c_X8_ofTicket_reportedAt (l : Launch) (D : va_G) (cA : Nat → ClassId) (tS : Nat → Nat) (A : Nat → Prop) (h : Nat → Nat) (ax : Nat) (sv : Nat) (tr : Nat) (sc : Nat) (F : va_W) (x2 : Int32) (σ : Sg) (r0 : Int32) (hM : f_X8_ofTicket_reportedAt x2 σ = some r0) : Ct l yX8_ofTicket (Cond.code yX8_ofTicket cX8_ofTicket 3 (some .int) :: bw) 1 21 D cA tS A [.ref ax, .ref (h 27), .int x2] (wK cA h σ ++ (wLg cA h σ 600 ++ (wC cA h σ ++ (wH cA h σ ++ (wS h ++ (wX ax (h 46) sv tr sc ++ F)))))) (some (.int r0)) (wK cA h σ ++ (wLg cA h σ 600 ++ (wC cA h σ ++ (wH cA h σ ++ (wS h ++ (wX ax (h 46) sv tr sc ++ F)))))) := by
  refine ct_of (by decide +kernel) (Nat.le_of_ble_eq_true rfl) ?_
  intro p e s m below meth c E hw ls hl
  replace E : Ev p cX8_ofTicket 3 (some .int) RX8 (Cond.code yX8_ofTicket cX8_ofTicket 3 (some .int) :: bw) D cA tS A s m _ meth c := E
  replace hl : lv_has ls 3 [(0, .ref ax), (1, .ref (h 27)), (2, .int x2)] := hl
  have hx := E.1.1
  have hb := E.1.2.1
  unfold f_X8_ofTicket_reportedAt at hM
  refine lv_aload_n hx hb dX8_ofTicket_0 rfl (lv_at hl 0 rfl) ?_
  refine q_get (C := RX8) (T := TX8) (N := 4) (ci := 8) E (fun w h => List.mem_cons_of_mem _ (inX8 w h)) hw 40 rfl rfl 0 (by decide) (List.mem_cons_of_mem _ tb_373) (v := .ref (h 46)) rfl dX8_ofTicket_1 ?_
  refine q_get (C := RX6) (T := TX6) (N := 2) (ci := 6) E (fun w h => List.mem_cons_of_mem _ (inX6 w h)) hw 39 rfl rfl 0 (by decide) (List.mem_cons_of_mem _ tb_321) (v := .ref (h 42)) rfl dX8_ofTicket_4 ?_
  refine q_get (C := RX1) (T := TX1) (N := 6) (ci := 1) E (fun w h => List.mem_cons_of_mem _ (inX1 w h)) hw 12 rfl rfl 3 (by decide) (List.mem_cons_of_mem _ tb_273) (v := .ref (h 44)) rfl dX8_ofTicket_7 ?_
  refine lv_iload_n hx hb dX8_ofTicket_10 rfl (lv_at hl 2 rfl) ?_
  obtain ⟨p1, h2, hM⟩ := b_some hM
  refine q_cv (As := [.int x2]) (rest := []) E hw hl (c_X7_exists l D cA tS A h 600 (wH cA h σ ++ (wS h ++ (wX ax (h 46) sv tr sc ++ F))) x2 σ p1 h2) 1 (bwV bw_c tb_666 tb_545 tb_546 tb_52 tb_547) rfl (by decide +kernel) ⟨Nat.le_of_ble_eq_true rfl, Nat.le_of_ble_eq_true rfl⟩ 16 7 (T := TX7) (N := 15) rfl rfl rfl rfl (Nat.le_of_ble_eq_true rfl) ⟨Nat.zero_le _, Nat.zero_le _⟩ dX8_ofTicket_11 (fun H locs hw => ?_)
  refine lv_if_eq (tgt := 23) hx hb dX8_ofTicket_14 (by decide) (fun c3 => ?_) (fun c3 => ?_)
  · replace hM := i_pos hM c3
    refine lv_bipush (v := (-2)) hx hb dX8_ofTicket_23 (by decide) ?_
    cases hM
    exact q_reti E hw dX8_ofTicket_25
  · replace hM := i_neg hM c3
    refine lv_aload_n hx hb dX8_ofTicket_17 rfl (lv_at hl 1 rfl) ?_
    refine lv_iload_n hx hb dX8_ofTicket_18 rfl (lv_at hl 2 rfl) ?_
    obtain ⟨g4, hM⟩ := g_some hM
    refine q_ald E hw 28 (n := 60) rfl g4 (x := (σ 27 (ix x2))) rfl dX8_ofTicket_19 ?_
    refine lv_goto (tgt := 25) hx hb dX8_ofTicket_20 (by decide) ?_
    cases hM
    exact q_reti E hw dX8_ofTicket_25
set_option maxRecDepth 100000 in
set_option maxHeartbeats 4000000 in
theorem c_X8_reportedAt (l : Launch) (D : va_G) (cA : Nat → ClassId) (tS : Nat → Nat) (A : Nat → Prop) (h : Nat → Nat) (ax : Nat) (sv : Nat) (tr : Nat) (sc : Nat) (F : va_W) (x1 : Int32) (σ : Sg) (r0 : Int32) (hM : f_X8_reportedAt x1 σ = some r0) : Ct l yX8_reportedAt (Cond.code yX8_reportedAt cX8_reportedAt 2 (some .int) :: bw) 2 43 D cA tS A [.ref ax, .int x1] (wK cA h σ ++ (wLg cA h σ 600 ++ (wC cA h σ ++ (wH cA h σ ++ (wS h ++ (wX ax (h 46) sv tr sc ++ F)))))) (some (.int r0)) (wK cA h σ ++ (wLg cA h σ 600 ++ (wC cA h σ ++ (wH cA h σ ++ (wS h ++ (wX ax (h 46) sv tr sc ++ F)))))) := by
  refine ct_of (by decide +kernel) (Nat.le_of_ble_eq_true rfl) ?_
  intro p e s m below meth c E hw ls hl
  replace E : Ev p cX8_reportedAt 2 (some .int) RX8 (Cond.code yX8_reportedAt cX8_reportedAt 2 (some .int) :: bw) D cA tS A s m _ meth c := E
  replace hl : lv_has ls 2 [(0, .ref ax), (1, .int x1)] := hl
  have hx := E.1.1
  have hb := E.1.2.1
  unfold f_X8_reportedAt at hM
  refine lv_aload_n hx hb dX8_reportedAt_0 rfl (lv_at hl 0 rfl) ?_
  refine lv_aload_n hx hb dX8_reportedAt_1 rfl (lv_at hl 0 rfl) ?_
  refine q_get (C := RX8) (T := TX8) (N := 4) (ci := 8) E (fun w h => List.mem_cons_of_mem _ (inX8 w h)) hw 40 rfl rfl 0 (by decide) (List.mem_cons_of_mem _ tb_373) (v := .ref (h 46)) rfl dX8_reportedAt_2 ?_
  refine q_get (C := RX6) (T := TX6) (N := 2) (ci := 6) E (fun w h => List.mem_cons_of_mem _ (inX6 w h)) hw 39 rfl rfl 0 (by decide) (List.mem_cons_of_mem _ tb_321) (v := .ref (h 42)) rfl dX8_reportedAt_5 ?_
  refine q_get (C := RX1) (T := TX1) (N := 6) (ci := 1) E (fun w h => List.mem_cons_of_mem _ (inX1 w h)) hw 12 rfl rfl 3 (by decide) (List.mem_cons_of_mem _ tb_273) (v := .ref (h 44)) rfl dX8_reportedAt_8 ?_
  refine q_get (C := RX7) (T := TX7) (N := 15) (ci := 7) E (fun w h => List.mem_cons_of_mem _ (inX7 w h)) hw 16 rfl rfl 11 (by decide) (List.mem_cons_of_mem _ tb_177) (v := .ref (h 27)) rfl dX8_reportedAt_11 ?_
  refine lv_iload_n hx hb dX8_reportedAt_14 rfl (lv_at hl 1 rfl) ?_
  obtain ⟨p1, h2, hM⟩ := b_some hM
  refine q_cv (As := [.ref (h 27), .int x1]) (rest := []) E hw hl (c_X8_ofTicket_reportedAt l D cA tS A h ax sv tr sc F x1 σ p1 h2) 2 (bwV bw_c tb_662 tb_664 tb_25 tb_47 tb_665) rfl (by decide +kernel) ⟨Nat.le_of_ble_eq_true rfl, Nat.le_of_ble_eq_true rfl⟩ 40 8 (T := TX8) (N := 4) rfl rfl rfl rfl (Nat.le_of_ble_eq_true rfl) ⟨Nat.zero_le _, Nat.zero_le _⟩ dX8_reportedAt_15 (fun H locs hw => ?_)
  cases hM
  exact q_reti E hw dX8_reportedAt_18
set_option maxRecDepth 100000 in
set_option maxHeartbeats 4000000 in
theorem c_X8_ofTicket_answeredAt (l : Launch) (D : va_G) (cA : Nat → ClassId) (tS : Nat → Nat) (A : Nat → Prop) (h : Nat → Nat) (ax : Nat) (sv : Nat) (tr : Nat) (sc : Nat) (F : va_W) (x2 : Int32) (σ : Sg) (r0 : Int32) (hM : f_X8_ofTicket_answeredAt x2 σ = some r0) : Ct l yX8_ofTicket (Cond.code yX8_ofTicket cX8_ofTicket 3 (some .int) :: bw) 1 21 D cA tS A [.ref ax, .ref (h 28), .int x2] (wK cA h σ ++ (wLg cA h σ 600 ++ (wC cA h σ ++ (wH cA h σ ++ (wS h ++ (wX ax (h 46) sv tr sc ++ F)))))) (some (.int r0)) (wK cA h σ ++ (wLg cA h σ 600 ++ (wC cA h σ ++ (wH cA h σ ++ (wS h ++ (wX ax (h 46) sv tr sc ++ F)))))) := by
  refine ct_of (by decide +kernel) (Nat.le_of_ble_eq_true rfl) ?_
  intro p e s m below meth c E hw ls hl
  replace E : Ev p cX8_ofTicket 3 (some .int) RX8 (Cond.code yX8_ofTicket cX8_ofTicket 3 (some .int) :: bw) D cA tS A s m _ meth c := E
  replace hl : lv_has ls 3 [(0, .ref ax), (1, .ref (h 28)), (2, .int x2)] := hl
  have hx := E.1.1
  have hb := E.1.2.1
  unfold f_X8_ofTicket_answeredAt at hM
  refine lv_aload_n hx hb dX8_ofTicket_0 rfl (lv_at hl 0 rfl) ?_
  refine q_get (C := RX8) (T := TX8) (N := 4) (ci := 8) E (fun w h => List.mem_cons_of_mem _ (inX8 w h)) hw 40 rfl rfl 0 (by decide) (List.mem_cons_of_mem _ tb_373) (v := .ref (h 46)) rfl dX8_ofTicket_1 ?_
  refine q_get (C := RX6) (T := TX6) (N := 2) (ci := 6) E (fun w h => List.mem_cons_of_mem _ (inX6 w h)) hw 39 rfl rfl 0 (by decide) (List.mem_cons_of_mem _ tb_321) (v := .ref (h 42)) rfl dX8_ofTicket_4 ?_
  refine q_get (C := RX1) (T := TX1) (N := 6) (ci := 1) E (fun w h => List.mem_cons_of_mem _ (inX1 w h)) hw 12 rfl rfl 3 (by decide) (List.mem_cons_of_mem _ tb_273) (v := .ref (h 44)) rfl dX8_ofTicket_7 ?_
  refine lv_iload_n hx hb dX8_ofTicket_10 rfl (lv_at hl 2 rfl) ?_
  obtain ⟨p1, h2, hM⟩ := b_some hM
  refine q_cv (As := [.int x2]) (rest := []) E hw hl (c_X7_exists l D cA tS A h 600 (wH cA h σ ++ (wS h ++ (wX ax (h 46) sv tr sc ++ F))) x2 σ p1 h2) 1 (bwV bw_c tb_666 tb_545 tb_546 tb_52 tb_547) rfl (by decide +kernel) ⟨Nat.le_of_ble_eq_true rfl, Nat.le_of_ble_eq_true rfl⟩ 16 7 (T := TX7) (N := 15) rfl rfl rfl rfl (Nat.le_of_ble_eq_true rfl) ⟨Nat.zero_le _, Nat.zero_le _⟩ dX8_ofTicket_11 (fun H locs hw => ?_)
  refine lv_if_eq (tgt := 23) hx hb dX8_ofTicket_14 (by decide) (fun c3 => ?_) (fun c3 => ?_)
  · replace hM := i_pos hM c3
    refine lv_bipush (v := (-2)) hx hb dX8_ofTicket_23 (by decide) ?_
    cases hM
    exact q_reti E hw dX8_ofTicket_25
  · replace hM := i_neg hM c3
    refine lv_aload_n hx hb dX8_ofTicket_17 rfl (lv_at hl 1 rfl) ?_
    refine lv_iload_n hx hb dX8_ofTicket_18 rfl (lv_at hl 2 rfl) ?_
    obtain ⟨g4, hM⟩ := g_some hM
    refine q_ald E hw 29 (n := 60) rfl g4 (x := (σ 28 (ix x2))) rfl dX8_ofTicket_19 ?_
    refine lv_goto (tgt := 25) hx hb dX8_ofTicket_20 (by decide) ?_
    cases hM
    exact q_reti E hw dX8_ofTicket_25
set_option maxRecDepth 100000 in
set_option maxHeartbeats 4000000 in
theorem c_X8_answeredAt (l : Launch) (D : va_G) (cA : Nat → ClassId) (tS : Nat → Nat) (A : Nat → Prop) (h : Nat → Nat) (ax : Nat) (sv : Nat) (tr : Nat) (sc : Nat) (F : va_W) (x1 : Int32) (σ : Sg) (r0 : Int32) (hM : f_X8_answeredAt x1 σ = some r0) : Ct l yX8_answeredAt (Cond.code yX8_answeredAt cX8_answeredAt 2 (some .int) :: bw) 2 43 D cA tS A [.ref ax, .int x1] (wK cA h σ ++ (wLg cA h σ 600 ++ (wC cA h σ ++ (wH cA h σ ++ (wS h ++ (wX ax (h 46) sv tr sc ++ F)))))) (some (.int r0)) (wK cA h σ ++ (wLg cA h σ 600 ++ (wC cA h σ ++ (wH cA h σ ++ (wS h ++ (wX ax (h 46) sv tr sc ++ F)))))) := by
  refine ct_of (by decide +kernel) (Nat.le_of_ble_eq_true rfl) ?_
  intro p e s m below meth c E hw ls hl
  replace E : Ev p cX8_answeredAt 2 (some .int) RX8 (Cond.code yX8_answeredAt cX8_answeredAt 2 (some .int) :: bw) D cA tS A s m _ meth c := E
  replace hl : lv_has ls 2 [(0, .ref ax), (1, .int x1)] := hl
  have hx := E.1.1
  have hb := E.1.2.1
  unfold f_X8_answeredAt at hM
  refine lv_aload_n hx hb dX8_answeredAt_0 rfl (lv_at hl 0 rfl) ?_
  refine lv_aload_n hx hb dX8_answeredAt_1 rfl (lv_at hl 0 rfl) ?_
  refine q_get (C := RX8) (T := TX8) (N := 4) (ci := 8) E (fun w h => List.mem_cons_of_mem _ (inX8 w h)) hw 40 rfl rfl 0 (by decide) (List.mem_cons_of_mem _ tb_373) (v := .ref (h 46)) rfl dX8_answeredAt_2 ?_
  refine q_get (C := RX6) (T := TX6) (N := 2) (ci := 6) E (fun w h => List.mem_cons_of_mem _ (inX6 w h)) hw 39 rfl rfl 0 (by decide) (List.mem_cons_of_mem _ tb_321) (v := .ref (h 42)) rfl dX8_answeredAt_5 ?_
  refine q_get (C := RX1) (T := TX1) (N := 6) (ci := 1) E (fun w h => List.mem_cons_of_mem _ (inX1 w h)) hw 12 rfl rfl 3 (by decide) (List.mem_cons_of_mem _ tb_273) (v := .ref (h 44)) rfl dX8_answeredAt_8 ?_
  refine q_get (C := RX7) (T := TX7) (N := 15) (ci := 7) E (fun w h => List.mem_cons_of_mem _ (inX7 w h)) hw 16 rfl rfl 12 (by decide) (List.mem_cons_of_mem _ tb_180) (v := .ref (h 28)) rfl dX8_answeredAt_11 ?_
  refine lv_iload_n hx hb dX8_answeredAt_14 rfl (lv_at hl 1 rfl) ?_
  obtain ⟨p1, h2, hM⟩ := b_some hM
  refine q_cv (As := [.ref (h 28), .int x1]) (rest := []) E hw hl (c_X8_ofTicket_answeredAt l D cA tS A h ax sv tr sc F x1 σ p1 h2) 2 (bwV bw_c tb_662 tb_664 tb_25 tb_47 tb_665) rfl (by decide +kernel) ⟨Nat.le_of_ble_eq_true rfl, Nat.le_of_ble_eq_true rfl⟩ 40 8 (T := TX8) (N := 4) rfl rfl rfl rfl (Nat.le_of_ble_eq_true rfl) ⟨Nat.zero_le _, Nat.zero_le _⟩ dX8_answeredAt_15 (fun H locs hw => ?_)
  cases hM
  exact q_reti E hw dX8_answeredAt_18
set_option maxRecDepth 100000 in
set_option maxHeartbeats 4000000 in
theorem c_X8_ofTicket_solvedAt (l : Launch) (D : va_G) (cA : Nat → ClassId) (tS : Nat → Nat) (A : Nat → Prop) (h : Nat → Nat) (ax : Nat) (sv : Nat) (tr : Nat) (sc : Nat) (F : va_W) (x2 : Int32) (σ : Sg) (r0 : Int32) (hM : f_X8_ofTicket_solvedAt x2 σ = some r0) : Ct l yX8_ofTicket (Cond.code yX8_ofTicket cX8_ofTicket 3 (some .int) :: bw) 1 21 D cA tS A [.ref ax, .ref (h 29), .int x2] (wK cA h σ ++ (wLg cA h σ 600 ++ (wC cA h σ ++ (wH cA h σ ++ (wS h ++ (wX ax (h 46) sv tr sc ++ F)))))) (some (.int r0)) (wK cA h σ ++ (wLg cA h σ 600 ++ (wC cA h σ ++ (wH cA h σ ++ (wS h ++ (wX ax (h 46) sv tr sc ++ F)))))) := by
  refine ct_of (by decide +kernel) (Nat.le_of_ble_eq_true rfl) ?_
  intro p e s m below meth c E hw ls hl
  replace E : Ev p cX8_ofTicket 3 (some .int) RX8 (Cond.code yX8_ofTicket cX8_ofTicket 3 (some .int) :: bw) D cA tS A s m _ meth c := E
  replace hl : lv_has ls 3 [(0, .ref ax), (1, .ref (h 29)), (2, .int x2)] := hl
  have hx := E.1.1
  have hb := E.1.2.1
  unfold f_X8_ofTicket_solvedAt at hM
  refine lv_aload_n hx hb dX8_ofTicket_0 rfl (lv_at hl 0 rfl) ?_
  refine q_get (C := RX8) (T := TX8) (N := 4) (ci := 8) E (fun w h => List.mem_cons_of_mem _ (inX8 w h)) hw 40 rfl rfl 0 (by decide) (List.mem_cons_of_mem _ tb_373) (v := .ref (h 46)) rfl dX8_ofTicket_1 ?_
  refine q_get (C := RX6) (T := TX6) (N := 2) (ci := 6) E (fun w h => List.mem_cons_of_mem _ (inX6 w h)) hw 39 rfl rfl 0 (by decide) (List.mem_cons_of_mem _ tb_321) (v := .ref (h 42)) rfl dX8_ofTicket_4 ?_
  refine q_get (C := RX1) (T := TX1) (N := 6) (ci := 1) E (fun w h => List.mem_cons_of_mem _ (inX1 w h)) hw 12 rfl rfl 3 (by decide) (List.mem_cons_of_mem _ tb_273) (v := .ref (h 44)) rfl dX8_ofTicket_7 ?_
  refine lv_iload_n hx hb dX8_ofTicket_10 rfl (lv_at hl 2 rfl) ?_
  obtain ⟨p1, h2, hM⟩ := b_some hM
  refine q_cv (As := [.int x2]) (rest := []) E hw hl (c_X7_exists l D cA tS A h 600 (wH cA h σ ++ (wS h ++ (wX ax (h 46) sv tr sc ++ F))) x2 σ p1 h2) 1 (bwV bw_c tb_666 tb_545 tb_546 tb_52 tb_547) rfl (by decide +kernel) ⟨Nat.le_of_ble_eq_true rfl, Nat.le_of_ble_eq_true rfl⟩ 16 7 (T := TX7) (N := 15) rfl rfl rfl rfl (Nat.le_of_ble_eq_true rfl) ⟨Nat.zero_le _, Nat.zero_le _⟩ dX8_ofTicket_11 (fun H locs hw => ?_)
  refine lv_if_eq (tgt := 23) hx hb dX8_ofTicket_14 (by decide) (fun c3 => ?_) (fun c3 => ?_)
  · replace hM := i_pos hM c3
    refine lv_bipush (v := (-2)) hx hb dX8_ofTicket_23 (by decide) ?_
    cases hM
    exact q_reti E hw dX8_ofTicket_25
  · replace hM := i_neg hM c3
    refine lv_aload_n hx hb dX8_ofTicket_17 rfl (lv_at hl 1 rfl) ?_
    refine lv_iload_n hx hb dX8_ofTicket_18 rfl (lv_at hl 2 rfl) ?_
    obtain ⟨g4, hM⟩ := g_some hM
    refine q_ald E hw 30 (n := 60) rfl g4 (x := (σ 29 (ix x2))) rfl dX8_ofTicket_19 ?_
    refine lv_goto (tgt := 25) hx hb dX8_ofTicket_20 (by decide) ?_
    cases hM
    exact q_reti E hw dX8_ofTicket_25
set_option maxRecDepth 100000 in
set_option maxHeartbeats 4000000 in
theorem c_X8_solvedAt (l : Launch) (D : va_G) (cA : Nat → ClassId) (tS : Nat → Nat) (A : Nat → Prop) (h : Nat → Nat) (ax : Nat) (sv : Nat) (tr : Nat) (sc : Nat) (F : va_W) (x1 : Int32) (σ : Sg) (r0 : Int32) (hM : f_X8_solvedAt x1 σ = some r0) : Ct l yX8_solvedAt (Cond.code yX8_solvedAt cX8_solvedAt 2 (some .int) :: bw) 2 43 D cA tS A [.ref ax, .int x1] (wK cA h σ ++ (wLg cA h σ 600 ++ (wC cA h σ ++ (wH cA h σ ++ (wS h ++ (wX ax (h 46) sv tr sc ++ F)))))) (some (.int r0)) (wK cA h σ ++ (wLg cA h σ 600 ++ (wC cA h σ ++ (wH cA h σ ++ (wS h ++ (wX ax (h 46) sv tr sc ++ F)))))) := by
  refine ct_of (by decide +kernel) (Nat.le_of_ble_eq_true rfl) ?_
  intro p e s m below meth c E hw ls hl
  replace E : Ev p cX8_solvedAt 2 (some .int) RX8 (Cond.code yX8_solvedAt cX8_solvedAt 2 (some .int) :: bw) D cA tS A s m _ meth c := E
  replace hl : lv_has ls 2 [(0, .ref ax), (1, .int x1)] := hl
  have hx := E.1.1
  have hb := E.1.2.1
  unfold f_X8_solvedAt at hM
  refine lv_aload_n hx hb dX8_solvedAt_0 rfl (lv_at hl 0 rfl) ?_
  refine lv_aload_n hx hb dX8_solvedAt_1 rfl (lv_at hl 0 rfl) ?_
  refine q_get (C := RX8) (T := TX8) (N := 4) (ci := 8) E (fun w h => List.mem_cons_of_mem _ (inX8 w h)) hw 40 rfl rfl 0 (by decide) (List.mem_cons_of_mem _ tb_373) (v := .ref (h 46)) rfl dX8_solvedAt_2 ?_
  refine q_get (C := RX6) (T := TX6) (N := 2) (ci := 6) E (fun w h => List.mem_cons_of_mem _ (inX6 w h)) hw 39 rfl rfl 0 (by decide) (List.mem_cons_of_mem _ tb_321) (v := .ref (h 42)) rfl dX8_solvedAt_5 ?_
  refine q_get (C := RX1) (T := TX1) (N := 6) (ci := 1) E (fun w h => List.mem_cons_of_mem _ (inX1 w h)) hw 12 rfl rfl 3 (by decide) (List.mem_cons_of_mem _ tb_273) (v := .ref (h 44)) rfl dX8_solvedAt_8 ?_
  refine q_get (C := RX7) (T := TX7) (N := 15) (ci := 7) E (fun w h => List.mem_cons_of_mem _ (inX7 w h)) hw 16 rfl rfl 13 (by decide) (List.mem_cons_of_mem _ tb_183) (v := .ref (h 29)) rfl dX8_solvedAt_11 ?_
  refine lv_iload_n hx hb dX8_solvedAt_14 rfl (lv_at hl 1 rfl) ?_
  obtain ⟨p1, h2, hM⟩ := b_some hM
  refine q_cv (As := [.ref (h 29), .int x1]) (rest := []) E hw hl (c_X8_ofTicket_solvedAt l D cA tS A h ax sv tr sc F x1 σ p1 h2) 2 (bwV bw_c tb_662 tb_664 tb_25 tb_47 tb_665) rfl (by decide +kernel) ⟨Nat.le_of_ble_eq_true rfl, Nat.le_of_ble_eq_true rfl⟩ 40 8 (T := TX8) (N := 4) rfl rfl rfl rfl (Nat.le_of_ble_eq_true rfl) ⟨Nat.zero_le _, Nat.zero_le _⟩ dX8_solvedAt_15 (fun H locs hw => ?_)
  cases hM
  exact q_reti E hw dX8_solvedAt_18
set_option maxRecDepth 100000 in
set_option maxHeartbeats 4000000 in
theorem c_X8_ofTicket_responseClock (l : Launch) (D : va_G) (cA : Nat → ClassId) (tS : Nat → Nat) (A : Nat → Prop) (h : Nat → Nat) (ax : Nat) (sv : Nat) (tr : Nat) (sc : Nat) (F : va_W) (x2 : Int32) (σ : Sg) (r0 : Int32) (hM : f_X8_ofTicket_responseClock x2 σ = some r0) : Ct l yX8_ofTicket (Cond.code yX8_ofTicket cX8_ofTicket 3 (some .int) :: bw) 1 21 D cA tS A [.ref ax, .ref (h 24), .int x2] (wK cA h σ ++ (wLg cA h σ 600 ++ (wC cA h σ ++ (wH cA h σ ++ (wS h ++ (wX ax (h 46) sv tr sc ++ F)))))) (some (.int r0)) (wK cA h σ ++ (wLg cA h σ 600 ++ (wC cA h σ ++ (wH cA h σ ++ (wS h ++ (wX ax (h 46) sv tr sc ++ F)))))) := by
  refine ct_of (by decide +kernel) (Nat.le_of_ble_eq_true rfl) ?_
  intro p e s m below meth c E hw ls hl
  replace E : Ev p cX8_ofTicket 3 (some .int) RX8 (Cond.code yX8_ofTicket cX8_ofTicket 3 (some .int) :: bw) D cA tS A s m _ meth c := E
  replace hl : lv_has ls 3 [(0, .ref ax), (1, .ref (h 24)), (2, .int x2)] := hl
  have hx := E.1.1
  have hb := E.1.2.1
  unfold f_X8_ofTicket_responseClock at hM
  refine lv_aload_n hx hb dX8_ofTicket_0 rfl (lv_at hl 0 rfl) ?_
  refine q_get (C := RX8) (T := TX8) (N := 4) (ci := 8) E (fun w h => List.mem_cons_of_mem _ (inX8 w h)) hw 40 rfl rfl 0 (by decide) (List.mem_cons_of_mem _ tb_373) (v := .ref (h 46)) rfl dX8_ofTicket_1 ?_
  refine q_get (C := RX6) (T := TX6) (N := 2) (ci := 6) E (fun w h => List.mem_cons_of_mem _ (inX6 w h)) hw 39 rfl rfl 0 (by decide) (List.mem_cons_of_mem _ tb_321) (v := .ref (h 42)) rfl dX8_ofTicket_4 ?_
  refine q_get (C := RX1) (T := TX1) (N := 6) (ci := 1) E (fun w h => List.mem_cons_of_mem _ (inX1 w h)) hw 12 rfl rfl 3 (by decide) (List.mem_cons_of_mem _ tb_273) (v := .ref (h 44)) rfl dX8_ofTicket_7 ?_
  refine lv_iload_n hx hb dX8_ofTicket_10 rfl (lv_at hl 2 rfl) ?_
  obtain ⟨p1, h2, hM⟩ := b_some hM
  refine q_cv (As := [.int x2]) (rest := []) E hw hl (c_X7_exists l D cA tS A h 600 (wH cA h σ ++ (wS h ++ (wX ax (h 46) sv tr sc ++ F))) x2 σ p1 h2) 1 (bwV bw_c tb_666 tb_545 tb_546 tb_52 tb_547) rfl (by decide +kernel) ⟨Nat.le_of_ble_eq_true rfl, Nat.le_of_ble_eq_true rfl⟩ 16 7 (T := TX7) (N := 15) rfl rfl rfl rfl (Nat.le_of_ble_eq_true rfl) ⟨Nat.zero_le _, Nat.zero_le _⟩ dX8_ofTicket_11 (fun H locs hw => ?_)
  refine lv_if_eq (tgt := 23) hx hb dX8_ofTicket_14 (by decide) (fun c3 => ?_) (fun c3 => ?_)
  · replace hM := i_pos hM c3
    refine lv_bipush (v := (-2)) hx hb dX8_ofTicket_23 (by decide) ?_
    cases hM
    exact q_reti E hw dX8_ofTicket_25
  · replace hM := i_neg hM c3
    refine lv_aload_n hx hb dX8_ofTicket_17 rfl (lv_at hl 1 rfl) ?_
    refine lv_iload_n hx hb dX8_ofTicket_18 rfl (lv_at hl 2 rfl) ?_
    obtain ⟨g4, hM⟩ := g_some hM
    refine q_ald E hw 25 (n := 60) rfl g4 (x := (σ 24 (ix x2))) rfl dX8_ofTicket_19 ?_
    refine lv_goto (tgt := 25) hx hb dX8_ofTicket_20 (by decide) ?_
    cases hM
    exact q_reti E hw dX8_ofTicket_25
set_option maxRecDepth 100000 in
set_option maxHeartbeats 4000000 in
theorem c_X8_responseClock (l : Launch) (D : va_G) (cA : Nat → ClassId) (tS : Nat → Nat) (A : Nat → Prop) (h : Nat → Nat) (ax : Nat) (sv : Nat) (tr : Nat) (sc : Nat) (F : va_W) (x1 : Int32) (σ : Sg) (r0 : Int32) (hM : f_X8_responseClock x1 σ = some r0) : Ct l yX8_responseClock (Cond.code yX8_responseClock cX8_responseClock 2 (some .int) :: bw) 2 43 D cA tS A [.ref ax, .int x1] (wK cA h σ ++ (wLg cA h σ 600 ++ (wC cA h σ ++ (wH cA h σ ++ (wS h ++ (wX ax (h 46) sv tr sc ++ F)))))) (some (.int r0)) (wK cA h σ ++ (wLg cA h σ 600 ++ (wC cA h σ ++ (wH cA h σ ++ (wS h ++ (wX ax (h 46) sv tr sc ++ F)))))) := by
  refine ct_of (by decide +kernel) (Nat.le_of_ble_eq_true rfl) ?_
  intro p e s m below meth c E hw ls hl
  replace E : Ev p cX8_responseClock 2 (some .int) RX8 (Cond.code yX8_responseClock cX8_responseClock 2 (some .int) :: bw) D cA tS A s m _ meth c := E
  replace hl : lv_has ls 2 [(0, .ref ax), (1, .int x1)] := hl
  have hx := E.1.1
  have hb := E.1.2.1
  unfold f_X8_responseClock at hM
  refine lv_aload_n hx hb dX8_responseClock_0 rfl (lv_at hl 0 rfl) ?_
  refine lv_aload_n hx hb dX8_responseClock_1 rfl (lv_at hl 0 rfl) ?_
  refine q_get (C := RX8) (T := TX8) (N := 4) (ci := 8) E (fun w h => List.mem_cons_of_mem _ (inX8 w h)) hw 40 rfl rfl 0 (by decide) (List.mem_cons_of_mem _ tb_373) (v := .ref (h 46)) rfl dX8_responseClock_2 ?_
  refine q_get (C := RX6) (T := TX6) (N := 2) (ci := 6) E (fun w h => List.mem_cons_of_mem _ (inX6 w h)) hw 39 rfl rfl 0 (by decide) (List.mem_cons_of_mem _ tb_321) (v := .ref (h 42)) rfl dX8_responseClock_5 ?_
  refine q_get (C := RX1) (T := TX1) (N := 6) (ci := 1) E (fun w h => List.mem_cons_of_mem _ (inX1 w h)) hw 12 rfl rfl 3 (by decide) (List.mem_cons_of_mem _ tb_273) (v := .ref (h 44)) rfl dX8_responseClock_8 ?_
  refine q_get (C := RX7) (T := TX7) (N := 15) (ci := 7) E (fun w h => List.mem_cons_of_mem _ (inX7 w h)) hw 16 rfl rfl 8 (by decide) (List.mem_cons_of_mem _ tb_169) (v := .ref (h 24)) rfl dX8_responseClock_11 ?_
  refine lv_iload_n hx hb dX8_responseClock_14 rfl (lv_at hl 1 rfl) ?_
  obtain ⟨p1, h2, hM⟩ := b_some hM
  refine q_cv (As := [.ref (h 24), .int x1]) (rest := []) E hw hl (c_X8_ofTicket_responseClock l D cA tS A h ax sv tr sc F x1 σ p1 h2) 2 (bwV bw_c tb_662 tb_664 tb_25 tb_47 tb_665) rfl (by decide +kernel) ⟨Nat.le_of_ble_eq_true rfl, Nat.le_of_ble_eq_true rfl⟩ 40 8 (T := TX8) (N := 4) rfl rfl rfl rfl (Nat.le_of_ble_eq_true rfl) ⟨Nat.zero_le _, Nat.zero_le _⟩ dX8_responseClock_15 (fun H locs hw => ?_)
  cases hM
  exact q_reti E hw dX8_responseClock_18
set_option maxRecDepth 100000 in
set_option maxHeartbeats 4000000 in
theorem c_X8_ofTicket_resolveClock (l : Launch) (D : va_G) (cA : Nat → ClassId) (tS : Nat → Nat) (A : Nat → Prop) (h : Nat → Nat) (ax : Nat) (sv : Nat) (tr : Nat) (sc : Nat) (F : va_W) (x2 : Int32) (σ : Sg) (r0 : Int32) (hM : f_X8_ofTicket_resolveClock x2 σ = some r0) : Ct l yX8_ofTicket (Cond.code yX8_ofTicket cX8_ofTicket 3 (some .int) :: bw) 1 21 D cA tS A [.ref ax, .ref (h 25), .int x2] (wK cA h σ ++ (wLg cA h σ 600 ++ (wC cA h σ ++ (wH cA h σ ++ (wS h ++ (wX ax (h 46) sv tr sc ++ F)))))) (some (.int r0)) (wK cA h σ ++ (wLg cA h σ 600 ++ (wC cA h σ ++ (wH cA h σ ++ (wS h ++ (wX ax (h 46) sv tr sc ++ F)))))) := by
  refine ct_of (by decide +kernel) (Nat.le_of_ble_eq_true rfl) ?_
  intro p e s m below meth c E hw ls hl
  replace E : Ev p cX8_ofTicket 3 (some .int) RX8 (Cond.code yX8_ofTicket cX8_ofTicket 3 (some .int) :: bw) D cA tS A s m _ meth c := E
  replace hl : lv_has ls 3 [(0, .ref ax), (1, .ref (h 25)), (2, .int x2)] := hl
  have hx := E.1.1
  have hb := E.1.2.1
  unfold f_X8_ofTicket_resolveClock at hM
  refine lv_aload_n hx hb dX8_ofTicket_0 rfl (lv_at hl 0 rfl) ?_
  refine q_get (C := RX8) (T := TX8) (N := 4) (ci := 8) E (fun w h => List.mem_cons_of_mem _ (inX8 w h)) hw 40 rfl rfl 0 (by decide) (List.mem_cons_of_mem _ tb_373) (v := .ref (h 46)) rfl dX8_ofTicket_1 ?_
  refine q_get (C := RX6) (T := TX6) (N := 2) (ci := 6) E (fun w h => List.mem_cons_of_mem _ (inX6 w h)) hw 39 rfl rfl 0 (by decide) (List.mem_cons_of_mem _ tb_321) (v := .ref (h 42)) rfl dX8_ofTicket_4 ?_
  refine q_get (C := RX1) (T := TX1) (N := 6) (ci := 1) E (fun w h => List.mem_cons_of_mem _ (inX1 w h)) hw 12 rfl rfl 3 (by decide) (List.mem_cons_of_mem _ tb_273) (v := .ref (h 44)) rfl dX8_ofTicket_7 ?_
  refine lv_iload_n hx hb dX8_ofTicket_10 rfl (lv_at hl 2 rfl) ?_
  obtain ⟨p1, h2, hM⟩ := b_some hM
  refine q_cv (As := [.int x2]) (rest := []) E hw hl (c_X7_exists l D cA tS A h 600 (wH cA h σ ++ (wS h ++ (wX ax (h 46) sv tr sc ++ F))) x2 σ p1 h2) 1 (bwV bw_c tb_666 tb_545 tb_546 tb_52 tb_547) rfl (by decide +kernel) ⟨Nat.le_of_ble_eq_true rfl, Nat.le_of_ble_eq_true rfl⟩ 16 7 (T := TX7) (N := 15) rfl rfl rfl rfl (Nat.le_of_ble_eq_true rfl) ⟨Nat.zero_le _, Nat.zero_le _⟩ dX8_ofTicket_11 (fun H locs hw => ?_)
  refine lv_if_eq (tgt := 23) hx hb dX8_ofTicket_14 (by decide) (fun c3 => ?_) (fun c3 => ?_)
  · replace hM := i_pos hM c3
    refine lv_bipush (v := (-2)) hx hb dX8_ofTicket_23 (by decide) ?_
    cases hM
    exact q_reti E hw dX8_ofTicket_25
  · replace hM := i_neg hM c3
    refine lv_aload_n hx hb dX8_ofTicket_17 rfl (lv_at hl 1 rfl) ?_
    refine lv_iload_n hx hb dX8_ofTicket_18 rfl (lv_at hl 2 rfl) ?_
    obtain ⟨g4, hM⟩ := g_some hM
    refine q_ald E hw 26 (n := 60) rfl g4 (x := (σ 25 (ix x2))) rfl dX8_ofTicket_19 ?_
    refine lv_goto (tgt := 25) hx hb dX8_ofTicket_20 (by decide) ?_
    cases hM
    exact q_reti E hw dX8_ofTicket_25
set_option maxRecDepth 100000 in
set_option maxHeartbeats 4000000 in
theorem c_X8_resolveClock (l : Launch) (D : va_G) (cA : Nat → ClassId) (tS : Nat → Nat) (A : Nat → Prop) (h : Nat → Nat) (ax : Nat) (sv : Nat) (tr : Nat) (sc : Nat) (F : va_W) (x1 : Int32) (σ : Sg) (r0 : Int32) (hM : f_X8_resolveClock x1 σ = some r0) : Ct l yX8_resolveClock (Cond.code yX8_resolveClock cX8_resolveClock 2 (some .int) :: bw) 2 43 D cA tS A [.ref ax, .int x1] (wK cA h σ ++ (wLg cA h σ 600 ++ (wC cA h σ ++ (wH cA h σ ++ (wS h ++ (wX ax (h 46) sv tr sc ++ F)))))) (some (.int r0)) (wK cA h σ ++ (wLg cA h σ 600 ++ (wC cA h σ ++ (wH cA h σ ++ (wS h ++ (wX ax (h 46) sv tr sc ++ F)))))) := by
  refine ct_of (by decide +kernel) (Nat.le_of_ble_eq_true rfl) ?_
  intro p e s m below meth c E hw ls hl
  replace E : Ev p cX8_resolveClock 2 (some .int) RX8 (Cond.code yX8_resolveClock cX8_resolveClock 2 (some .int) :: bw) D cA tS A s m _ meth c := E
  replace hl : lv_has ls 2 [(0, .ref ax), (1, .int x1)] := hl
  have hx := E.1.1
  have hb := E.1.2.1
  unfold f_X8_resolveClock at hM
  refine lv_aload_n hx hb dX8_resolveClock_0 rfl (lv_at hl 0 rfl) ?_
  refine lv_aload_n hx hb dX8_resolveClock_1 rfl (lv_at hl 0 rfl) ?_
  refine q_get (C := RX8) (T := TX8) (N := 4) (ci := 8) E (fun w h => List.mem_cons_of_mem _ (inX8 w h)) hw 40 rfl rfl 0 (by decide) (List.mem_cons_of_mem _ tb_373) (v := .ref (h 46)) rfl dX8_resolveClock_2 ?_
  refine q_get (C := RX6) (T := TX6) (N := 2) (ci := 6) E (fun w h => List.mem_cons_of_mem _ (inX6 w h)) hw 39 rfl rfl 0 (by decide) (List.mem_cons_of_mem _ tb_321) (v := .ref (h 42)) rfl dX8_resolveClock_5 ?_
  refine q_get (C := RX1) (T := TX1) (N := 6) (ci := 1) E (fun w h => List.mem_cons_of_mem _ (inX1 w h)) hw 12 rfl rfl 3 (by decide) (List.mem_cons_of_mem _ tb_273) (v := .ref (h 44)) rfl dX8_resolveClock_8 ?_
  refine q_get (C := RX7) (T := TX7) (N := 15) (ci := 7) E (fun w h => List.mem_cons_of_mem _ (inX7 w h)) hw 16 rfl rfl 9 (by decide) (List.mem_cons_of_mem _ tb_172) (v := .ref (h 25)) rfl dX8_resolveClock_11 ?_
  refine lv_iload_n hx hb dX8_resolveClock_14 rfl (lv_at hl 1 rfl) ?_
  obtain ⟨p1, h2, hM⟩ := b_some hM
  refine q_cv (As := [.ref (h 25), .int x1]) (rest := []) E hw hl (c_X8_ofTicket_resolveClock l D cA tS A h ax sv tr sc F x1 σ p1 h2) 2 (bwV bw_c tb_662 tb_664 tb_25 tb_47 tb_665) rfl (by decide +kernel) ⟨Nat.le_of_ble_eq_true rfl, Nat.le_of_ble_eq_true rfl⟩ 40 8 (T := TX8) (N := 4) rfl rfl rfl rfl (Nat.le_of_ble_eq_true rfl) ⟨Nat.zero_le _, Nat.zero_le _⟩ dX8_resolveClock_15 (fun H locs hw => ?_)
  cases hM
  exact q_reti E hw dX8_resolveClock_18
set_option maxRecDepth 100000 in
set_option maxHeartbeats 4000000 in
theorem c_X8_queueLength (l : Launch) (D : va_G) (cA : Nat → ClassId) (tS : Nat → Nat) (A : Nat → Prop) (h : Nat → Nat) (ax : Nat) (sv : Nat) (tr : Nat) (sc : Nat) (F : va_W) (N : Nat) (x1 : Int32) (σ : Sg) (r0 : Int32) (hM : f_X8_queueLength N x1 σ = some r0) : Ct l yX8_queueLength (Cond.code yX8_queueLength cX8_queueLength 2 (some .int) :: bw) 1 24 D cA tS A [.ref ax, .int x1] (wK cA h σ ++ (wLg cA h σ 600 ++ (wC cA h σ ++ (wH cA h σ ++ (wS h ++ (wX ax (h 46) sv tr sc ++ F)))))) (some (.int r0)) (wK cA h σ ++ (wLg cA h σ 600 ++ (wC cA h σ ++ (wH cA h σ ++ (wS h ++ (wX ax (h 46) sv tr sc ++ F)))))) := by
  refine ct_of (by decide +kernel) (Nat.le_of_ble_eq_true rfl) ?_
  intro p e s m below meth c E hw ls hl
  replace E : Ev p cX8_queueLength 2 (some .int) RX8 (Cond.code yX8_queueLength cX8_queueLength 2 (some .int) :: bw) D cA tS A s m _ meth c := E
  replace hl : lv_has ls 2 [(0, .ref ax), (1, .int x1)] := hl
  have hx := E.1.1
  have hb := E.1.2.1
  unfold f_X8_queueLength at hM
  refine lv_iload_n hx hb dX8_queueLength_0 rfl (lv_at hl 1 rfl) ?_
  refine lv_iconst (v := 0) hx hb dX8_queueLength_1 (by decide) ?_
  refine lv_iconst (v := 3) hx hb dX8_queueLength_2 (by decide) ?_
  obtain ⟨p1, h2, hM⟩ := b_some hM
  refine q_cs (As := [.int x1, .int 0, .int 3]) (rest := []) E hw hl (c_X8_within l D cA tS A (wK cA h σ ++ (wLg cA h σ 600 ++ (wC cA h σ ++ (wH cA h σ ++ (wS h ++ (wX ax (h 46) sv tr sc ++ F)))))) x1 0 3 p1 h2) 3 (bwS bw_c tb_450 tb_451 tb_47 tb_452) rfl (by decide +kernel) ⟨Nat.le_of_ble_eq_true rfl, Nat.le_of_ble_eq_true rfl⟩ rfl rfl (Nat.le_of_ble_eq_true rfl) ⟨Nat.zero_le _, Nat.zero_le _⟩ dX8_queueLength_3 (fun H locs hw => ?_)
  refine lv_if_eq (tgt := 27) hx hb dX8_queueLength_6 (by decide) (fun c3 => ?_) (fun c3 => ?_)
  · replace hM := i_pos hM c3
    refine lv_bipush (v := (-4)) hx hb dX8_queueLength_27 (by decide) ?_
    cases hM
    exact q_reti E hw dX8_queueLength_29
  · replace hM := i_neg hM c3
    refine lv_aload_n hx hb dX8_queueLength_9 rfl (lv_at hl 0 rfl) ?_
    refine q_get (C := RX8) (T := TX8) (N := 4) (ci := 8) E (fun w h => List.mem_cons_of_mem _ (inX8 w h)) hw 40 rfl rfl 0 (by decide) (List.mem_cons_of_mem _ tb_373) (v := .ref (h 46)) rfl dX8_queueLength_10 ?_
    refine q_get (C := RX6) (T := TX6) (N := 2) (ci := 6) E (fun w h => List.mem_cons_of_mem _ (inX6 w h)) hw 39 rfl rfl 0 (by decide) (List.mem_cons_of_mem _ tb_321) (v := .ref (h 42)) rfl dX8_queueLength_13 ?_
    refine q_get (C := RX1) (T := TX1) (N := 6) (ci := 1) E (fun w h => List.mem_cons_of_mem _ (inX1 w h)) hw 12 rfl rfl 3 (by decide) (List.mem_cons_of_mem _ tb_273) (v := .ref (h 44)) rfl dX8_queueLength_16 ?_
    refine lv_iload_n hx hb dX8_queueLength_19 rfl (lv_at hl 1 rfl) ?_
    refine lv_iconst (v := 0) hx hb dX8_queueLength_20 (by decide) ?_
    obtain ⟨p4, h5, hM⟩ := b_some hM
    refine q_cv (As := [.int x1, .int 0]) (rest := []) E hw hl (c_X7_countAt l D cA tS A h 600 (wH cA h σ ++ (wS h ++ (wX ax (h 46) sv tr sc ++ F))) N x1 0 σ p4 h5) 2 (bwV bw_c tb_923 tb_585 tb_586 tb_52 tb_587) rfl (by decide +kernel) ⟨Nat.le_of_ble_eq_true rfl, Nat.le_of_ble_eq_true rfl⟩ 16 7 (T := TX7) (N := 15) rfl rfl rfl rfl (Nat.le_of_ble_eq_true rfl) ⟨Nat.zero_le _, Nat.zero_le _⟩ dX8_queueLength_21 (fun H locs hw => ?_)
    refine lv_goto (tgt := 29) hx hb dX8_queueLength_24 (by decide) ?_
    cases hM
    exact q_reti E hw dX8_queueLength_29
set_option maxRecDepth 100000 in
set_option maxHeartbeats 4000000 in
theorem c_X8_nextTicket (l : Launch) (D : va_G) (cA : Nat → ClassId) (tS : Nat → Nat) (A : Nat → Prop) (h : Nat → Nat) (ax : Nat) (sv : Nat) (tr : Nat) (sc : Nat) (F : va_W) (N : Nat) (x1 : Int32) (σ : Sg) (r0 : Int32) (hM : f_X8_nextTicket N x1 σ = some r0) : Ct l yX8_nextTicket (Cond.code yX8_nextTicket cX8_nextTicket 2 (some .int) :: bw) 3 66 D cA tS A [.ref ax, .int x1] (wK cA h σ ++ (wLg cA h σ 600 ++ (wC cA h σ ++ (wH cA h σ ++ (wS h ++ (wX ax (h 46) sv tr sc ++ F)))))) (some (.int r0)) (wK cA h σ ++ (wLg cA h σ 600 ++ (wC cA h σ ++ (wH cA h σ ++ (wS h ++ (wX ax (h 46) sv tr sc ++ F)))))) := by
  refine ct_of (by decide +kernel) (Nat.le_of_ble_eq_true rfl) ?_
  intro p e s m below meth c E hw ls hl
  replace E : Ev p cX8_nextTicket 2 (some .int) RX8 (Cond.code yX8_nextTicket cX8_nextTicket 2 (some .int) :: bw) D cA tS A s m _ meth c := E
  replace hl : lv_has ls 2 [(0, .ref ax), (1, .int x1)] := hl
  have hx := E.1.1
  have hb := E.1.2.1
  unfold f_X8_nextTicket at hM
  refine lv_iload_n hx hb dX8_nextTicket_0 rfl (lv_at hl 1 rfl) ?_
  refine lv_iconst (v := 0) hx hb dX8_nextTicket_1 (by decide) ?_
  refine lv_iconst (v := 3) hx hb dX8_nextTicket_2 (by decide) ?_
  obtain ⟨p1, h2, hM⟩ := b_some hM
  refine q_cs (As := [.int x1, .int 0, .int 3]) (rest := []) E hw hl (c_X8_within l D cA tS A (wK cA h σ ++ (wLg cA h σ 600 ++ (wC cA h σ ++ (wH cA h σ ++ (wS h ++ (wX ax (h 46) sv tr sc ++ F)))))) x1 0 3 p1 h2) 3 (bwS bw_c tb_450 tb_451 tb_47 tb_452) rfl (by decide +kernel) ⟨Nat.le_of_ble_eq_true rfl, Nat.le_of_ble_eq_true rfl⟩ rfl rfl (Nat.le_of_ble_eq_true rfl) ⟨Nat.zero_le _, Nat.zero_le _⟩ dX8_nextTicket_3 (fun H locs hw => ?_)
  refine lv_if_eq (tgt := 23) hx hb dX8_nextTicket_6 (by decide) (fun c3 => ?_) (fun c3 => ?_)
  · replace hM := i_pos hM c3
    refine lv_bipush (v := (-4)) hx hb dX8_nextTicket_23 (by decide) ?_
    cases hM
    exact q_reti E hw dX8_nextTicket_25
  · replace hM := i_neg hM c3
    refine lv_aload_n hx hb dX8_nextTicket_9 rfl (lv_at hl 0 rfl) ?_
    refine q_get (C := RX8) (T := TX8) (N := 4) (ci := 8) E (fun w h => List.mem_cons_of_mem _ (inX8 w h)) hw 40 rfl rfl 0 (by decide) (List.mem_cons_of_mem _ tb_373) (v := .ref (h 46)) rfl dX8_nextTicket_10 ?_
    refine q_get (C := RX6) (T := TX6) (N := 2) (ci := 6) E (fun w h => List.mem_cons_of_mem _ (inX6 w h)) hw 39 rfl rfl 0 (by decide) (List.mem_cons_of_mem _ tb_321) (v := .ref (h 42)) rfl dX8_nextTicket_13 ?_
    refine lv_iload_n hx hb dX8_nextTicket_16 rfl (lv_at hl 1 rfl) ?_
    obtain ⟨p4, h5, hM⟩ := b_some hM
    refine q_cv (As := [.int x1]) (rest := []) E hw hl (c_X1_firstQueued l D cA tS A h 600 (wH cA h σ ++ (wS h ++ (wX ax (h 46) sv tr sc ++ F))) N x1 σ p4 h5) 1 (bwV bw_c tb_936 tb_785 tb_786 tb_49 tb_787) rfl (by decide +kernel) ⟨Nat.le_of_ble_eq_true rfl, Nat.le_of_ble_eq_true rfl⟩ 12 1 (T := TX1) (N := 6) rfl rfl rfl rfl (Nat.le_of_ble_eq_true rfl) ⟨Nat.zero_le _, Nat.zero_le _⟩ dX8_nextTicket_17 (fun H locs hw => ?_)
    refine lv_goto (tgt := 25) hx hb dX8_nextTicket_20 (by decide) ?_
    cases hM
    exact q_reti E hw dX8_nextTicket_25
set_option maxRecDepth 100000 in
set_option maxHeartbeats 4000000 in
theorem c_X8_busyAgents (l : Launch) (D : va_G) (cA : Nat → ClassId) (tS : Nat → Nat) (A : Nat → Prop) (h : Nat → Nat) (ax : Nat) (sv : Nat) (tr : Nat) (sc : Nat) (F : va_W) (N : Nat) (x1 : Int32) (σ : Sg) (r0 : Int32) (hM : f_X8_busyAgents N x1 σ = some r0) : Ct l yX8_busyAgents (Cond.code yX8_busyAgents cX8_busyAgents 2 (some .int) :: bw) 1 24 D cA tS A [.ref ax, .int x1] (wK cA h σ ++ (wLg cA h σ 600 ++ (wC cA h σ ++ (wH cA h σ ++ (wS h ++ (wX ax (h 46) sv tr sc ++ F)))))) (some (.int r0)) (wK cA h σ ++ (wLg cA h σ 600 ++ (wC cA h σ ++ (wH cA h σ ++ (wS h ++ (wX ax (h 46) sv tr sc ++ F)))))) := by
  refine ct_of (by decide +kernel) (Nat.le_of_ble_eq_true rfl) ?_
  intro p e s m below meth c E hw ls hl
  replace E : Ev p cX8_busyAgents 2 (some .int) RX8 (Cond.code yX8_busyAgents cX8_busyAgents 2 (some .int) :: bw) D cA tS A s m _ meth c := E
  replace hl : lv_has ls 2 [(0, .ref ax), (1, .int x1)] := hl
  have hx := E.1.1
  have hb := E.1.2.1
  unfold f_X8_busyAgents at hM
  refine lv_iload_n hx hb dX8_busyAgents_0 rfl (lv_at hl 1 rfl) ?_
  refine lv_iconst (v := 0) hx hb dX8_busyAgents_1 (by decide) ?_
  refine lv_iconst (v := 3) hx hb dX8_busyAgents_2 (by decide) ?_
  obtain ⟨p1, h2, hM⟩ := b_some hM
  refine q_cs (As := [.int x1, .int 0, .int 3]) (rest := []) E hw hl (c_X8_within l D cA tS A (wK cA h σ ++ (wLg cA h σ 600 ++ (wC cA h σ ++ (wH cA h σ ++ (wS h ++ (wX ax (h 46) sv tr sc ++ F)))))) x1 0 3 p1 h2) 3 (bwS bw_c tb_450 tb_451 tb_47 tb_452) rfl (by decide +kernel) ⟨Nat.le_of_ble_eq_true rfl, Nat.le_of_ble_eq_true rfl⟩ rfl rfl (Nat.le_of_ble_eq_true rfl) ⟨Nat.zero_le _, Nat.zero_le _⟩ dX8_busyAgents_3 (fun H locs hw => ?_)
  refine lv_if_eq (tgt := 27) hx hb dX8_busyAgents_6 (by decide) (fun c3 => ?_) (fun c3 => ?_)
  · replace hM := i_pos hM c3
    refine lv_bipush (v := (-4)) hx hb dX8_busyAgents_27 (by decide) ?_
    cases hM
    exact q_reti E hw dX8_busyAgents_29
  · replace hM := i_neg hM c3
    refine lv_aload_n hx hb dX8_busyAgents_9 rfl (lv_at hl 0 rfl) ?_
    refine q_get (C := RX8) (T := TX8) (N := 4) (ci := 8) E (fun w h => List.mem_cons_of_mem _ (inX8 w h)) hw 40 rfl rfl 0 (by decide) (List.mem_cons_of_mem _ tb_373) (v := .ref (h 46)) rfl dX8_busyAgents_10 ?_
    refine q_get (C := RX6) (T := TX6) (N := 2) (ci := 6) E (fun w h => List.mem_cons_of_mem _ (inX6 w h)) hw 39 rfl rfl 0 (by decide) (List.mem_cons_of_mem _ tb_321) (v := .ref (h 42)) rfl dX8_busyAgents_13 ?_
    refine q_get (C := RX1) (T := TX1) (N := 6) (ci := 1) E (fun w h => List.mem_cons_of_mem _ (inX1 w h)) hw 12 rfl rfl 3 (by decide) (List.mem_cons_of_mem _ tb_273) (v := .ref (h 44)) rfl dX8_busyAgents_16 ?_
    refine lv_iload_n hx hb dX8_busyAgents_19 rfl (lv_at hl 1 rfl) ?_
    refine lv_iconst (v := 1) hx hb dX8_busyAgents_20 (by decide) ?_
    obtain ⟨p4, h5, hM⟩ := b_some hM
    refine q_cv (As := [.int x1, .int 1]) (rest := []) E hw hl (c_X7_countAt l D cA tS A h 600 (wH cA h σ ++ (wS h ++ (wX ax (h 46) sv tr sc ++ F))) N x1 1 σ p4 h5) 2 (bwV bw_c tb_923 tb_585 tb_586 tb_52 tb_587) rfl (by decide +kernel) ⟨Nat.le_of_ble_eq_true rfl, Nat.le_of_ble_eq_true rfl⟩ 16 7 (T := TX7) (N := 15) rfl rfl rfl rfl (Nat.le_of_ble_eq_true rfl) ⟨Nat.zero_le _, Nat.zero_le _⟩ dX8_busyAgents_21 (fun H locs hw => ?_)
    refine lv_goto (tgt := 29) hx hb dX8_busyAgents_24 (by decide) ?_
    cases hM
    exact q_reti E hw dX8_busyAgents_29
set_option maxRecDepth 100000 in
set_option maxHeartbeats 4000000 in
theorem c_X8_responseBreaches (l : Launch) (D : va_G) (cA : Nat → ClassId) (tS : Nat → Nat) (A : Nat → Prop) (h : Nat → Nat) (ax : Nat) (sv : Nat) (tr : Nat) (sc : Nat) (F : va_W) (N : Nat) (x1 : Int32) (σ : Sg) (r0 : Int32) (hM : f_X8_responseBreaches N x1 σ = some r0) : Ct l yX8_responseBreaches (Cond.code yX8_responseBreaches cX8_responseBreaches 2 (some .int) :: bw) 2 47 D cA tS A [.ref ax, .int x1] (wK cA h σ ++ (wLg cA h σ 600 ++ (wC cA h σ ++ (wH cA h σ ++ (wS h ++ (wX ax (h 46) sv tr sc ++ F)))))) (some (.int r0)) (wK cA h σ ++ (wLg cA h σ 600 ++ (wC cA h σ ++ (wH cA h σ ++ (wS h ++ (wX ax (h 46) sv tr sc ++ F)))))) := by
  refine ct_of (by decide +kernel) (Nat.le_of_ble_eq_true rfl) ?_
  intro p e s m below meth c E hw ls hl
  replace E : Ev p cX8_responseBreaches 2 (some .int) RX8 (Cond.code yX8_responseBreaches cX8_responseBreaches 2 (some .int) :: bw) D cA tS A s m _ meth c := E
  replace hl : lv_has ls 2 [(0, .ref ax), (1, .int x1)] := hl
  have hx := E.1.1
  have hb := E.1.2.1
  unfold f_X8_responseBreaches at hM
  refine lv_iload_n hx hb dX8_responseBreaches_0 rfl (lv_at hl 1 rfl) ?_
  refine lv_iconst (v := (-1)) hx hb dX8_responseBreaches_1 (by decide) ?_
  refine lv_aload_n hx hb dX8_responseBreaches_2 rfl (lv_at hl 0 rfl) ?_
  refine q_get (C := RX8) (T := TX8) (N := 4) (ci := 8) E (fun w h => List.mem_cons_of_mem _ (inX8 w h)) hw 40 rfl rfl 0 (by decide) (List.mem_cons_of_mem _ tb_373) (v := .ref (h 46)) rfl dX8_responseBreaches_3 ?_
  refine q_get (C := RX6) (T := TX6) (N := 2) (ci := 6) E (fun w h => List.mem_cons_of_mem _ (inX6 w h)) hw 39 rfl rfl 0 (by decide) (List.mem_cons_of_mem _ tb_321) (v := .ref (h 42)) rfl dX8_responseBreaches_6 ?_
  refine q_get (C := RX1) (T := TX1) (N := 6) (ci := 1) E (fun w h => List.mem_cons_of_mem _ (inX1 w h)) hw 12 rfl rfl 1 (by decide) (List.mem_cons_of_mem _ tb_269) (v := .ref (h 40)) rfl dX8_responseBreaches_9 ?_
  refine q_get (C := RX3) (T := TX3) (N := 7) (ci := 3) E (fun w h => List.mem_cons_of_mem _ (inX3 w h)) hw 0 rfl rfl 6 (by decide) (List.mem_cons_of_mem _ tb_126) (v := .int (σ 0 0)) rfl dX8_responseBreaches_12 ?_
  refine lv_iconst (v := 1) hx hb dX8_responseBreaches_15 (by decide) ?_
  refine lv_isub hx hb dX8_responseBreaches_16 ?_
  obtain ⟨p1, h2, hM⟩ := b_some hM
  refine q_cs (As := [.int x1, .int (-1), .int ((σ 0 0) - 1)]) (rest := []) E hw hl (c_X8_within l D cA tS A (wK cA h σ ++ (wLg cA h σ 600 ++ (wC cA h σ ++ (wH cA h σ ++ (wS h ++ (wX ax (h 46) sv tr sc ++ F)))))) x1 (-1) ((σ 0 0) - 1) p1 h2) 3 (bwS bw_c tb_450 tb_451 tb_47 tb_452) rfl (by decide +kernel) ⟨Nat.le_of_ble_eq_true rfl, Nat.le_of_ble_eq_true rfl⟩ rfl rfl (Nat.le_of_ble_eq_true rfl) ⟨Nat.zero_le _, Nat.zero_le _⟩ dX8_responseBreaches_17 (fun H locs hw => ?_)
  refine lv_if_eq (tgt := 37) hx hb dX8_responseBreaches_20 (by decide) (fun c3 => ?_) (fun c3 => ?_)
  · replace hM := i_pos hM c3
    refine lv_bipush (v := (-3)) hx hb dX8_responseBreaches_37 (by decide) ?_
    cases hM
    exact q_reti E hw dX8_responseBreaches_39
  · replace hM := i_neg hM c3
    refine lv_aload_n hx hb dX8_responseBreaches_23 rfl (lv_at hl 0 rfl) ?_
    refine q_get (C := RX8) (T := TX8) (N := 4) (ci := 8) E (fun w h => List.mem_cons_of_mem _ (inX8 w h)) hw 40 rfl rfl 0 (by decide) (List.mem_cons_of_mem _ tb_373) (v := .ref (h 46)) rfl dX8_responseBreaches_24 ?_
    refine q_get (C := RX6) (T := TX6) (N := 2) (ci := 6) E (fun w h => List.mem_cons_of_mem _ (inX6 w h)) hw 39 rfl rfl 0 (by decide) (List.mem_cons_of_mem _ tb_321) (v := .ref (h 42)) rfl dX8_responseBreaches_27 ?_
    refine lv_iload_n hx hb dX8_responseBreaches_30 rfl (lv_at hl 1 rfl) ?_
    obtain ⟨p4, h5, hM⟩ := b_some hM
    refine q_cv (As := [.int x1]) (rest := []) E hw hl (c_X1_lateResponses l D cA tS A h 600 (wH cA h σ ++ (wS h ++ (wX ax (h 46) sv tr sc ++ F))) N x1 σ p4 h5) 1 (bwV bw_c tb_941 tb_942 tb_943 tb_49 tb_944) rfl (by decide +kernel) ⟨Nat.le_of_ble_eq_true rfl, Nat.le_of_ble_eq_true rfl⟩ 12 1 (T := TX1) (N := 6) rfl rfl rfl rfl (Nat.le_of_ble_eq_true rfl) ⟨Nat.zero_le _, Nat.zero_le _⟩ dX8_responseBreaches_31 (fun H locs hw => ?_)
    refine lv_goto (tgt := 39) hx hb dX8_responseBreaches_34 (by decide) ?_
    cases hM
    exact q_reti E hw dX8_responseBreaches_39
set_option maxRecDepth 100000 in
set_option maxHeartbeats 4000000 in
theorem c_X8_resolveBreaches (l : Launch) (D : va_G) (cA : Nat → ClassId) (tS : Nat → Nat) (A : Nat → Prop) (h : Nat → Nat) (ax : Nat) (sv : Nat) (tr : Nat) (sc : Nat) (F : va_W) (N : Nat) (x1 : Int32) (σ : Sg) (r0 : Int32) (hM : f_X8_resolveBreaches N x1 σ = some r0) : Ct l yX8_resolveBreaches (Cond.code yX8_resolveBreaches cX8_resolveBreaches 2 (some .int) :: bw) 2 47 D cA tS A [.ref ax, .int x1] (wK cA h σ ++ (wLg cA h σ 600 ++ (wC cA h σ ++ (wH cA h σ ++ (wS h ++ (wX ax (h 46) sv tr sc ++ F)))))) (some (.int r0)) (wK cA h σ ++ (wLg cA h σ 600 ++ (wC cA h σ ++ (wH cA h σ ++ (wS h ++ (wX ax (h 46) sv tr sc ++ F)))))) := by
  refine ct_of (by decide +kernel) (Nat.le_of_ble_eq_true rfl) ?_
  intro p e s m below meth c E hw ls hl
  replace E : Ev p cX8_resolveBreaches 2 (some .int) RX8 (Cond.code yX8_resolveBreaches cX8_resolveBreaches 2 (some .int) :: bw) D cA tS A s m _ meth c := E
  replace hl : lv_has ls 2 [(0, .ref ax), (1, .int x1)] := hl
  have hx := E.1.1
  have hb := E.1.2.1
  unfold f_X8_resolveBreaches at hM
  refine lv_iload_n hx hb dX8_resolveBreaches_0 rfl (lv_at hl 1 rfl) ?_
  refine lv_iconst (v := (-1)) hx hb dX8_resolveBreaches_1 (by decide) ?_
  refine lv_aload_n hx hb dX8_resolveBreaches_2 rfl (lv_at hl 0 rfl) ?_
  refine q_get (C := RX8) (T := TX8) (N := 4) (ci := 8) E (fun w h => List.mem_cons_of_mem _ (inX8 w h)) hw 40 rfl rfl 0 (by decide) (List.mem_cons_of_mem _ tb_373) (v := .ref (h 46)) rfl dX8_resolveBreaches_3 ?_
  refine q_get (C := RX6) (T := TX6) (N := 2) (ci := 6) E (fun w h => List.mem_cons_of_mem _ (inX6 w h)) hw 39 rfl rfl 0 (by decide) (List.mem_cons_of_mem _ tb_321) (v := .ref (h 42)) rfl dX8_resolveBreaches_6 ?_
  refine q_get (C := RX1) (T := TX1) (N := 6) (ci := 1) E (fun w h => List.mem_cons_of_mem _ (inX1 w h)) hw 12 rfl rfl 1 (by decide) (List.mem_cons_of_mem _ tb_269) (v := .ref (h 40)) rfl dX8_resolveBreaches_9 ?_
  refine q_get (C := RX3) (T := TX3) (N := 7) (ci := 3) E (fun w h => List.mem_cons_of_mem _ (inX3 w h)) hw 0 rfl rfl 6 (by decide) (List.mem_cons_of_mem _ tb_126) (v := .int (σ 0 0)) rfl dX8_resolveBreaches_12 ?_
  refine lv_iconst (v := 1) hx hb dX8_resolveBreaches_15 (by decide) ?_
  refine lv_isub hx hb dX8_resolveBreaches_16 ?_
  obtain ⟨p1, h2, hM⟩ := b_some hM
  refine q_cs (As := [.int x1, .int (-1), .int ((σ 0 0) - 1)]) (rest := []) E hw hl (c_X8_within l D cA tS A (wK cA h σ ++ (wLg cA h σ 600 ++ (wC cA h σ ++ (wH cA h σ ++ (wS h ++ (wX ax (h 46) sv tr sc ++ F)))))) x1 (-1) ((σ 0 0) - 1) p1 h2) 3 (bwS bw_c tb_450 tb_451 tb_47 tb_452) rfl (by decide +kernel) ⟨Nat.le_of_ble_eq_true rfl, Nat.le_of_ble_eq_true rfl⟩ rfl rfl (Nat.le_of_ble_eq_true rfl) ⟨Nat.zero_le _, Nat.zero_le _⟩ dX8_resolveBreaches_17 (fun H locs hw => ?_)
  refine lv_if_eq (tgt := 37) hx hb dX8_resolveBreaches_20 (by decide) (fun c3 => ?_) (fun c3 => ?_)
  · replace hM := i_pos hM c3
    refine lv_bipush (v := (-3)) hx hb dX8_resolveBreaches_37 (by decide) ?_
    cases hM
    exact q_reti E hw dX8_resolveBreaches_39
  · replace hM := i_neg hM c3
    refine lv_aload_n hx hb dX8_resolveBreaches_23 rfl (lv_at hl 0 rfl) ?_
    refine q_get (C := RX8) (T := TX8) (N := 4) (ci := 8) E (fun w h => List.mem_cons_of_mem _ (inX8 w h)) hw 40 rfl rfl 0 (by decide) (List.mem_cons_of_mem _ tb_373) (v := .ref (h 46)) rfl dX8_resolveBreaches_24 ?_
    refine q_get (C := RX6) (T := TX6) (N := 2) (ci := 6) E (fun w h => List.mem_cons_of_mem _ (inX6 w h)) hw 39 rfl rfl 0 (by decide) (List.mem_cons_of_mem _ tb_321) (v := .ref (h 42)) rfl dX8_resolveBreaches_27 ?_
    refine lv_iload_n hx hb dX8_resolveBreaches_30 rfl (lv_at hl 1 rfl) ?_
    obtain ⟨p4, h5, hM⟩ := b_some hM
    refine q_cv (As := [.int x1]) (rest := []) E hw hl (c_X1_lateSolutions l D cA tS A h 600 (wH cA h σ ++ (wS h ++ (wX ax (h 46) sv tr sc ++ F))) N x1 σ p4 h5) 1 (bwV bw_c tb_953 tb_954 tb_955 tb_49 tb_956) rfl (by decide +kernel) ⟨Nat.le_of_ble_eq_true rfl, Nat.le_of_ble_eq_true rfl⟩ 12 1 (T := TX1) (N := 6) rfl rfl rfl rfl (Nat.le_of_ble_eq_true rfl) ⟨Nat.zero_le _, Nat.zero_le _⟩ dX8_resolveBreaches_31 (fun H locs hw => ?_)
    refine lv_goto (tgt := 39) hx hb dX8_resolveBreaches_34 (by decide) ?_
    cases hM
    exact q_reti E hw dX8_resolveBreaches_39
set_option maxRecDepth 100000 in
set_option maxHeartbeats 4000000 in
theorem c_X8_forecast (l : Launch) (D : va_G) (cA : Nat → ClassId) (tS : Nat → Nat) (A : Nat → Prop) (h : Nat → Nat) (t : Nat → Nat) (ax : Nat) (sv : Nat) (sc : Nat) (F : va_W) (N : Nat) (x1 : Int32) (σ : Sg) (τ : Sg) (r0 : Int32) (s0 : Sg) (hM : f_X8_forecast N x1 σ τ = some (r0, s0)) : Ct l yX8_forecast (Cond.code yX8_forecast cX8_forecast 2 (some .int) :: bw) 5 117 D cA tS A [.ref ax, .int x1] (wK cA h σ ++ (wLg cA h σ 600 ++ (wC cA h σ ++ (wH cA h σ ++ (wS h ++ (wX ax (h 46) sv (t 42) sc ++ (wK cA t τ ++ (wLg cA t τ 0 ++ (wC cA t τ ++ F))))))))) (some (.int r0)) (wK cA h σ ++ (wLg cA h σ 600 ++ (wC cA h σ ++ (wH cA h σ ++ (wS h ++ (wX ax (h 46) sv (t 42) sc ++ (wK cA t s0 ++ (wLg cA t s0 0 ++ (wC cA t s0 ++ F))))))))) := by
  refine ct_of (by decide +kernel) (Nat.le_of_ble_eq_true rfl) ?_
  intro p e s m below meth c E hw ls hl
  replace E : Ev p cX8_forecast 2 (some .int) RX8 (Cond.code yX8_forecast cX8_forecast 2 (some .int) :: bw) D cA tS A s m _ meth c := E
  replace hl : lv_has ls 2 [(0, .ref ax), (1, .int x1)] := hl
  have hx := E.1.1
  have hb := E.1.2.1
  unfold f_X8_forecast at hM
  refine lv_aload_n hx hb dX8_forecast_0 rfl (lv_at hl 0 rfl) ?_
  refine q_get (C := RX8) (T := TX8) (N := 4) (ci := 8) E (fun w h => List.mem_cons_of_mem _ (inX8 w h)) hw 40 rfl rfl 0 (by decide) (List.mem_cons_of_mem _ tb_373) (v := .ref (h 46)) rfl dX8_forecast_1 ?_
  refine q_get (C := RX6) (T := TX6) (N := 2) (ci := 6) E (fun w h => List.mem_cons_of_mem _ (inX6 w h)) hw 39 rfl rfl 0 (by decide) (List.mem_cons_of_mem _ tb_321) (v := .ref (h 42)) rfl dX8_forecast_4 ?_
  refine q_get (C := RX1) (T := TX1) (N := 6) (ci := 1) E (fun w h => List.mem_cons_of_mem _ (inX1 w h)) hw 12 rfl rfl 3 (by decide) (List.mem_cons_of_mem _ tb_273) (v := .ref (h 44)) rfl dX8_forecast_7 ?_
  refine lv_iload_n hx hb dX8_forecast_10 rfl (lv_at hl 1 rfl) ?_
  obtain ⟨p1, h2, hM⟩ := b_some hM
  refine q_cv (As := [.int x1]) (rest := []) E hw hl (c_X7_exists l D cA tS A h 600 (wH cA h σ ++ (wS h ++ (wX ax (h 46) sv (t 42) sc ++ (wK cA t τ ++ (wLg cA t τ 0 ++ (wC cA t τ ++ F)))))) x1 σ p1 h2) 1 (bwV bw_c tb_666 tb_545 tb_546 tb_52 tb_547) rfl (by decide +kernel) ⟨Nat.le_of_ble_eq_true rfl, Nat.le_of_ble_eq_true rfl⟩ 16 7 (T := TX7) (N := 15) rfl rfl rfl rfl (Nat.le_of_ble_eq_true rfl) ⟨Nat.zero_le _, Nat.zero_le _⟩ dX8_forecast_11 (fun H locs hw => ?_)
  refine lv_if_ne (tgt := 20) hx hb dX8_forecast_14 (by decide) (fun c3 => ?_) (fun c3 => ?_)
  · replace hM := i_neg hM c3
    refine lv_aload_n hx hb dX8_forecast_20 rfl (lv_at hl 0 rfl) ?_
    refine q_get (C := RX8) (T := TX8) (N := 4) (ci := 8) E (fun w h => List.mem_cons_of_mem _ (inX8 w h)) hw 40 rfl rfl 2 (by decide) (List.mem_cons_of_mem _ tb_375) (v := .ref (t 42)) rfl dX8_forecast_21 ?_
    refine lv_aload_n hx hb dX8_forecast_24 rfl (lv_at hl 0 rfl) ?_
    refine q_get (C := RX8) (T := TX8) (N := 4) (ci := 8) E (fun w h => List.mem_cons_of_mem _ (inX8 w h)) hw 40 rfl rfl 0 (by decide) (List.mem_cons_of_mem _ tb_373) (v := .ref (h 46)) rfl dX8_forecast_25 ?_
    refine q_get (C := RX6) (T := TX6) (N := 2) (ci := 6) E (fun w h => List.mem_cons_of_mem _ (inX6 w h)) hw 39 rfl rfl 0 (by decide) (List.mem_cons_of_mem _ tb_321) (v := .ref (h 42)) rfl dX8_forecast_28 ?_
    have hw : Wd D A (wK cA t τ ++ (wK cA h σ ++ (wLg cA h σ 600 ++ (wC cA h σ ++ (wH cA h σ ++ (wS h ++ (wX ax (h 46) sv (t 42) sc ++ (wLg cA t τ 0 ++ (wC cA t τ ++ F))))))))) s.heap _ _ := hw.perm (((List.Perm.append_left _ (((List.Perm.append_left _ (((List.Perm.append_left _ (((List.Perm.append_left _ (((List.Perm.append_left _ (List.perm_append_comm_assoc _ _ _))).trans (List.perm_append_comm_assoc _ _ _)))).trans (List.perm_append_comm_assoc _ _ _)))).trans (List.perm_append_comm_assoc _ _ _)))).trans (List.perm_append_comm_assoc _ _ _)))).trans (List.perm_append_comm_assoc _ _ _))
    have hw : Wd D A (wK cA t τ ++ (wLg cA t τ 0 ++ (wK cA h σ ++ (wLg cA h σ 600 ++ (wC cA h σ ++ (wH cA h σ ++ (wS h ++ (wX ax (h 46) sv (t 42) sc ++ (wC cA t τ ++ F))))))))) s.heap _ _ := hw.perm (List.Perm.append_left _ (((List.Perm.append_left _ (((List.Perm.append_left _ (((List.Perm.append_left _ (((List.Perm.append_left _ (((List.Perm.append_left _ (List.perm_append_comm_assoc _ _ _))).trans (List.perm_append_comm_assoc _ _ _)))).trans (List.perm_append_comm_assoc _ _ _)))).trans (List.perm_append_comm_assoc _ _ _)))).trans (List.perm_append_comm_assoc _ _ _)))).trans (List.perm_append_comm_assoc _ _ _)))
    have hw : Wd D A (wK cA t τ ++ (wLg cA t τ 0 ++ (wC cA t τ ++ (wK cA h σ ++ (wLg cA h σ 600 ++ (wC cA h σ ++ (wH cA h σ ++ (wS h ++ (wX ax (h 46) sv (t 42) sc ++ F))))))))) s.heap _ _ := hw.perm (List.Perm.append_left _ (List.Perm.append_left _ (((List.Perm.append_left _ (((List.Perm.append_left _ (((List.Perm.append_left _ (((List.Perm.append_left _ (((List.Perm.append_left _ (List.perm_append_comm_assoc _ _ _))).trans (List.perm_append_comm_assoc _ _ _)))).trans (List.perm_append_comm_assoc _ _ _)))).trans (List.perm_append_comm_assoc _ _ _)))).trans (List.perm_append_comm_assoc _ _ _)))).trans (List.perm_append_comm_assoc _ _ _))))
    obtain ⟨p4, h5, hM⟩ := b_some hM
    refine q_cvv (As := [.ref (h 42)]) (rest := []) E hw hl (c_X1_copyFrom l D cA tS A t h 0 600 (wH cA h σ ++ (wS h ++ (wX ax (h 46) sv (t 42) sc ++ F))) N τ σ p4 h5) 1 (bwV bw_c tb_747 tb_748 tb_749 tb_49 tb_750) rfl (by decide +kernel) ⟨Nat.le_of_ble_eq_true rfl, Nat.le_of_ble_eq_true rfl⟩ 12 1 (T := TX1) (N := 6) rfl rfl rfl rfl (Nat.le_of_ble_eq_true rfl) ⟨Nat.zero_le _, Nat.zero_le _⟩ dX8_forecast_31 (fun H locs hw => ?_)
    refine lv_aload_n hx hb dX8_forecast_34 rfl (lv_at hl 0 rfl) ?_
    refine q_get (C := RX8) (T := TX8) (N := 4) (ci := 8) E (fun w h => List.mem_cons_of_mem _ (inX8 w h)) hw 72 rfl rfl 2 (by decide) (List.mem_cons_of_mem _ tb_375) (v := .ref (t 42)) rfl dX8_forecast_35 ?_
    refine lv_sipush (v := 10080) hx hb dX8_forecast_38 (by decide) ?_
    obtain ⟨p6, h7, hM⟩ := b_some hM
    refine q_cvv (As := [.int 10080]) (rest := []) E hw hl (c_X1_passUntil l D cA tS A t 0 (wK cA h σ ++ (wLg cA h σ 600 ++ (wC cA h σ ++ (wH cA h σ ++ (wS h ++ (wX ax (h 46) sv (t 42) sc ++ F)))))) N 10080 p4 p6 h7) 1 (bwV bw_c tb_771 tb_772 tb_773 tb_49 tb_774) rfl (by decide +kernel) ⟨Nat.le_of_ble_eq_true rfl, Nat.le_of_ble_eq_true rfl⟩ 12 1 (T := TX1) (N := 6) rfl rfl rfl rfl (Nat.le_of_ble_eq_true rfl) ⟨Nat.zero_le _, Nat.zero_le _⟩ dX8_forecast_41 (fun H locs hw => ?_)
    refine lv_aload_n hx hb dX8_forecast_44 rfl (lv_at hl 0 rfl) ?_
    refine q_get (C := RX8) (T := TX8) (N := 4) (ci := 8) E (fun w h => List.mem_cons_of_mem _ (inX8 w h)) hw 72 rfl rfl 2 (by decide) (List.mem_cons_of_mem _ tb_375) (v := .ref (t 42)) rfl dX8_forecast_45 ?_
    refine q_get (C := RX1) (T := TX1) (N := 6) (ci := 1) E (fun w h => List.mem_cons_of_mem _ (inX1 w h)) hw 12 rfl rfl 3 (by decide) (List.mem_cons_of_mem _ tb_273) (v := .ref (t 44)) rfl dX8_forecast_48 ?_
    refine q_get (C := RX7) (T := TX7) (N := 15) (ci := 7) E (fun w h => List.mem_cons_of_mem _ (inX7 w h)) hw 16 rfl rfl 13 (by decide) (List.mem_cons_of_mem _ tb_183) (v := .ref (t 29)) rfl dX8_forecast_51 ?_
    refine lv_iload_n hx hb dX8_forecast_54 rfl (lv_at hl 1 rfl) ?_
    obtain ⟨g8, hM⟩ := g_some hM
    refine q_ald E hw 30 (n := 60) rfl g8 (x := (p6 29 (ix x1))) rfl dX8_forecast_55 ?_
    have hw : Wd D A (wK cA h σ ++ (wK cA t p6 ++ (wLg cA t p6 0 ++ (wC cA t p6 ++ (wLg cA h σ 600 ++ (wC cA h σ ++ (wH cA h σ ++ (wS h ++ (wX ax (h 46) sv (t 42) sc ++ F))))))))) s.heap _ _ := hw.perm (((List.Perm.append_left _ (((List.Perm.append_left _ (List.perm_append_comm_assoc _ _ _))).trans (List.perm_append_comm_assoc _ _ _)))).trans (List.perm_append_comm_assoc _ _ _))
    have hw : Wd D A (wK cA h σ ++ (wLg cA h σ 600 ++ (wK cA t p6 ++ (wLg cA t p6 0 ++ (wC cA t p6 ++ (wC cA h σ ++ (wH cA h σ ++ (wS h ++ (wX ax (h 46) sv (t 42) sc ++ F))))))))) s.heap _ _ := hw.perm (List.Perm.append_left _ (((List.Perm.append_left _ (((List.Perm.append_left _ (List.perm_append_comm_assoc _ _ _))).trans (List.perm_append_comm_assoc _ _ _)))).trans (List.perm_append_comm_assoc _ _ _)))
    have hw : Wd D A (wK cA h σ ++ (wLg cA h σ 600 ++ (wC cA h σ ++ (wK cA t p6 ++ (wLg cA t p6 0 ++ (wC cA t p6 ++ (wH cA h σ ++ (wS h ++ (wX ax (h 46) sv (t 42) sc ++ F))))))))) s.heap _ _ := hw.perm (List.Perm.append_left _ (List.Perm.append_left _ (((List.Perm.append_left _ (((List.Perm.append_left _ (List.perm_append_comm_assoc _ _ _))).trans (List.perm_append_comm_assoc _ _ _)))).trans (List.perm_append_comm_assoc _ _ _))))
    have hw : Wd D A (wK cA h σ ++ (wLg cA h σ 600 ++ (wC cA h σ ++ (wH cA h σ ++ (wK cA t p6 ++ (wLg cA t p6 0 ++ (wC cA t p6 ++ (wS h ++ (wX ax (h 46) sv (t 42) sc ++ F))))))))) s.heap _ _ := hw.perm (List.Perm.append_left _ (List.Perm.append_left _ (List.Perm.append_left _ (((List.Perm.append_left _ (((List.Perm.append_left _ (List.perm_append_comm_assoc _ _ _))).trans (List.perm_append_comm_assoc _ _ _)))).trans (List.perm_append_comm_assoc _ _ _)))))
    have hw : Wd D A (wK cA h σ ++ (wLg cA h σ 600 ++ (wC cA h σ ++ (wH cA h σ ++ (wS h ++ (wK cA t p6 ++ (wLg cA t p6 0 ++ (wC cA t p6 ++ (wX ax (h 46) sv (t 42) sc ++ F))))))))) s.heap _ _ := hw.perm (List.Perm.append_left _ (List.Perm.append_left _ (List.Perm.append_left _ (List.Perm.append_left _ (((List.Perm.append_left _ (((List.Perm.append_left _ (List.perm_append_comm_assoc _ _ _))).trans (List.perm_append_comm_assoc _ _ _)))).trans (List.perm_append_comm_assoc _ _ _))))))
    have hw : Wd D A (wK cA h σ ++ (wLg cA h σ 600 ++ (wC cA h σ ++ (wH cA h σ ++ (wS h ++ (wX ax (h 46) sv (t 42) sc ++ (wK cA t p6 ++ (wLg cA t p6 0 ++ (wC cA t p6 ++ F))))))))) s.heap _ _ := hw.perm (List.Perm.append_left _ (List.Perm.append_left _ (List.Perm.append_left _ (List.Perm.append_left _ (List.Perm.append_left _ (((List.Perm.append_left _ (((List.Perm.append_left _ (List.perm_append_comm_assoc _ _ _))).trans (List.perm_append_comm_assoc _ _ _)))).trans (List.perm_append_comm_assoc _ _ _)))))))
    cases hM
    exact q_reti E hw dX8_forecast_56
  · replace hM := i_pos hM c3
    refine lv_bipush (v := (-2)) hx hb dX8_forecast_17 (by decide) ?_
    cases hM
    exact q_reti E hw dX8_forecast_19
set_option maxRecDepth 100000 in
set_option maxHeartbeats 4000000 in
theorem c_X8_breachesAhead (l : Launch) (D : va_G) (cA : Nat → ClassId) (tS : Nat → Nat) (A : Nat → Prop) (h : Nat → Nat) (t : Nat → Nat) (ax : Nat) (sv : Nat) (sc : Nat) (F : va_W) (N : Nat) (σ : Sg) (τ : Sg) (r0 : Int32) (s0 : Sg) (hM : f_X8_breachesAhead N σ τ = some (r0, s0)) : Ct l yX8_breachesAhead (Cond.code yX8_breachesAhead cX8_breachesAhead 1 (some .int) :: bw) 5 117 D cA tS A [.ref ax] (wK cA h σ ++ (wLg cA h σ 600 ++ (wC cA h σ ++ (wH cA h σ ++ (wS h ++ (wX ax (h 46) sv (t 42) sc ++ (wK cA t τ ++ (wLg cA t τ 0 ++ (wC cA t τ ++ F))))))))) (some (.int r0)) (wK cA h σ ++ (wLg cA h σ 600 ++ (wC cA h σ ++ (wH cA h σ ++ (wS h ++ (wX ax (h 46) sv (t 42) sc ++ (wK cA t s0 ++ (wLg cA t s0 0 ++ (wC cA t s0 ++ F))))))))) := by
  refine ct_of (by decide +kernel) (Nat.le_of_ble_eq_true rfl) ?_
  intro p e s m below meth c E hw ls hl
  replace E : Ev p cX8_breachesAhead 1 (some .int) RX8 (Cond.code yX8_breachesAhead cX8_breachesAhead 1 (some .int) :: bw) D cA tS A s m _ meth c := E
  replace hl : lv_has ls 1 [(0, .ref ax)] := hl
  have hx := E.1.1
  have hb := E.1.2.1
  unfold f_X8_breachesAhead at hM
  refine lv_aload_n hx hb dX8_breachesAhead_0 rfl (lv_at hl 0 rfl) ?_
  refine q_get (C := RX8) (T := TX8) (N := 4) (ci := 8) E (fun w h => List.mem_cons_of_mem _ (inX8 w h)) hw 40 rfl rfl 2 (by decide) (List.mem_cons_of_mem _ tb_375) (v := .ref (t 42)) rfl dX8_breachesAhead_1 ?_
  refine lv_aload_n hx hb dX8_breachesAhead_4 rfl (lv_at hl 0 rfl) ?_
  refine q_get (C := RX8) (T := TX8) (N := 4) (ci := 8) E (fun w h => List.mem_cons_of_mem _ (inX8 w h)) hw 40 rfl rfl 0 (by decide) (List.mem_cons_of_mem _ tb_373) (v := .ref (h 46)) rfl dX8_breachesAhead_5 ?_
  refine q_get (C := RX6) (T := TX6) (N := 2) (ci := 6) E (fun w h => List.mem_cons_of_mem _ (inX6 w h)) hw 39 rfl rfl 0 (by decide) (List.mem_cons_of_mem _ tb_321) (v := .ref (h 42)) rfl dX8_breachesAhead_8 ?_
  have hw : Wd D A (wK cA t τ ++ (wK cA h σ ++ (wLg cA h σ 600 ++ (wC cA h σ ++ (wH cA h σ ++ (wS h ++ (wX ax (h 46) sv (t 42) sc ++ (wLg cA t τ 0 ++ (wC cA t τ ++ F))))))))) s.heap _ _ := hw.perm (((List.Perm.append_left _ (((List.Perm.append_left _ (((List.Perm.append_left _ (((List.Perm.append_left _ (((List.Perm.append_left _ (List.perm_append_comm_assoc _ _ _))).trans (List.perm_append_comm_assoc _ _ _)))).trans (List.perm_append_comm_assoc _ _ _)))).trans (List.perm_append_comm_assoc _ _ _)))).trans (List.perm_append_comm_assoc _ _ _)))).trans (List.perm_append_comm_assoc _ _ _))
  have hw : Wd D A (wK cA t τ ++ (wLg cA t τ 0 ++ (wK cA h σ ++ (wLg cA h σ 600 ++ (wC cA h σ ++ (wH cA h σ ++ (wS h ++ (wX ax (h 46) sv (t 42) sc ++ (wC cA t τ ++ F))))))))) s.heap _ _ := hw.perm (List.Perm.append_left _ (((List.Perm.append_left _ (((List.Perm.append_left _ (((List.Perm.append_left _ (((List.Perm.append_left _ (((List.Perm.append_left _ (List.perm_append_comm_assoc _ _ _))).trans (List.perm_append_comm_assoc _ _ _)))).trans (List.perm_append_comm_assoc _ _ _)))).trans (List.perm_append_comm_assoc _ _ _)))).trans (List.perm_append_comm_assoc _ _ _)))).trans (List.perm_append_comm_assoc _ _ _)))
  have hw : Wd D A (wK cA t τ ++ (wLg cA t τ 0 ++ (wC cA t τ ++ (wK cA h σ ++ (wLg cA h σ 600 ++ (wC cA h σ ++ (wH cA h σ ++ (wS h ++ (wX ax (h 46) sv (t 42) sc ++ F))))))))) s.heap _ _ := hw.perm (List.Perm.append_left _ (List.Perm.append_left _ (((List.Perm.append_left _ (((List.Perm.append_left _ (((List.Perm.append_left _ (((List.Perm.append_left _ (((List.Perm.append_left _ (List.perm_append_comm_assoc _ _ _))).trans (List.perm_append_comm_assoc _ _ _)))).trans (List.perm_append_comm_assoc _ _ _)))).trans (List.perm_append_comm_assoc _ _ _)))).trans (List.perm_append_comm_assoc _ _ _)))).trans (List.perm_append_comm_assoc _ _ _))))
  obtain ⟨p1, h2, hM⟩ := b_some hM
  refine q_cvv (As := [.ref (h 42)]) (rest := []) E hw hl (c_X1_copyFrom l D cA tS A t h 0 600 (wH cA h σ ++ (wS h ++ (wX ax (h 46) sv (t 42) sc ++ F))) N τ σ p1 h2) 1 (bwV bw_c tb_747 tb_748 tb_749 tb_49 tb_750) rfl (by decide +kernel) ⟨Nat.le_of_ble_eq_true rfl, Nat.le_of_ble_eq_true rfl⟩ 12 1 (T := TX1) (N := 6) rfl rfl rfl rfl (Nat.le_of_ble_eq_true rfl) ⟨Nat.zero_le _, Nat.zero_le _⟩ dX8_breachesAhead_11 (fun H locs hw => ?_)
  refine lv_aload_n hx hb dX8_breachesAhead_14 rfl (lv_at hl 0 rfl) ?_
  refine q_get (C := RX8) (T := TX8) (N := 4) (ci := 8) E (fun w h => List.mem_cons_of_mem _ (inX8 w h)) hw 72 rfl rfl 2 (by decide) (List.mem_cons_of_mem _ tb_375) (v := .ref (t 42)) rfl dX8_breachesAhead_15 ?_
  refine lv_sipush (v := 10080) hx hb dX8_breachesAhead_18 (by decide) ?_
  obtain ⟨p3, h4, hM⟩ := b_some hM
  refine q_cvv (As := [.int 10080]) (rest := []) E hw hl (c_X1_passUntil l D cA tS A t 0 (wK cA h σ ++ (wLg cA h σ 600 ++ (wC cA h σ ++ (wH cA h σ ++ (wS h ++ (wX ax (h 46) sv (t 42) sc ++ F)))))) N 10080 p1 p3 h4) 1 (bwV bw_c tb_771 tb_772 tb_773 tb_49 tb_774) rfl (by decide +kernel) ⟨Nat.le_of_ble_eq_true rfl, Nat.le_of_ble_eq_true rfl⟩ 12 1 (T := TX1) (N := 6) rfl rfl rfl rfl (Nat.le_of_ble_eq_true rfl) ⟨Nat.zero_le _, Nat.zero_le _⟩ dX8_breachesAhead_21 (fun H locs hw => ?_)
  refine lv_aload_n hx hb dX8_breachesAhead_24 rfl (lv_at hl 0 rfl) ?_
  refine q_get (C := RX8) (T := TX8) (N := 4) (ci := 8) E (fun w h => List.mem_cons_of_mem _ (inX8 w h)) hw 72 rfl rfl 2 (by decide) (List.mem_cons_of_mem _ tb_375) (v := .ref (t 42)) rfl dX8_breachesAhead_25 ?_
  obtain ⟨p5, h6, hM⟩ := b_some hM
  refine q_cv (As := []) (rest := []) E hw hl (c_X1_allBreaches l D cA tS A t 0 (wK cA h σ ++ (wLg cA h σ 600 ++ (wC cA h σ ++ (wH cA h σ ++ (wS h ++ (wX ax (h 46) sv (t 42) sc ++ F)))))) N p3 p5 h6) 0 (bwV bw_c tb_965 tb_966 tb_967 tb_49 tb_968) rfl (by decide +kernel) ⟨Nat.le_of_ble_eq_true rfl, Nat.le_of_ble_eq_true rfl⟩ 12 1 (T := TX1) (N := 6) rfl rfl rfl rfl (Nat.le_of_ble_eq_true rfl) ⟨Nat.zero_le _, Nat.zero_le _⟩ dX8_breachesAhead_28 (fun H locs hw => ?_)
  refine lv_aload_n hx hb dX8_breachesAhead_31 rfl (lv_at hl 0 rfl) ?_
  refine q_get (C := RX8) (T := TX8) (N := 4) (ci := 8) E (fun w h => List.mem_cons_of_mem _ (inX8 w h)) hw 72 rfl rfl 0 (by decide) (List.mem_cons_of_mem _ tb_373) (v := .ref (h 46)) rfl dX8_breachesAhead_32 ?_
  refine q_get (C := RX6) (T := TX6) (N := 2) (ci := 6) E (fun w h => List.mem_cons_of_mem _ (inX6 w h)) hw 71 rfl rfl 0 (by decide) (List.mem_cons_of_mem _ tb_321) (v := .ref (h 42)) rfl dX8_breachesAhead_35 ?_
  have hw : Wd D A (wK cA h σ ++ (wK cA t p3 ++ (wLg cA t p3 0 ++ (wC cA t p3 ++ (wLg cA h σ 600 ++ (wC cA h σ ++ (wH cA h σ ++ (wS h ++ (wX ax (h 46) sv (t 42) sc ++ F))))))))) s.heap _ _ := hw.perm (((List.Perm.append_left _ (((List.Perm.append_left _ (List.perm_append_comm_assoc _ _ _))).trans (List.perm_append_comm_assoc _ _ _)))).trans (List.perm_append_comm_assoc _ _ _))
  have hw : Wd D A (wK cA h σ ++ (wLg cA h σ 600 ++ (wK cA t p3 ++ (wLg cA t p3 0 ++ (wC cA t p3 ++ (wC cA h σ ++ (wH cA h σ ++ (wS h ++ (wX ax (h 46) sv (t 42) sc ++ F))))))))) s.heap _ _ := hw.perm (List.Perm.append_left _ (((List.Perm.append_left _ (((List.Perm.append_left _ (List.perm_append_comm_assoc _ _ _))).trans (List.perm_append_comm_assoc _ _ _)))).trans (List.perm_append_comm_assoc _ _ _)))
  have hw : Wd D A (wK cA h σ ++ (wLg cA h σ 600 ++ (wC cA h σ ++ (wK cA t p3 ++ (wLg cA t p3 0 ++ (wC cA t p3 ++ (wH cA h σ ++ (wS h ++ (wX ax (h 46) sv (t 42) sc ++ F))))))))) s.heap _ _ := hw.perm (List.Perm.append_left _ (List.Perm.append_left _ (((List.Perm.append_left _ (((List.Perm.append_left _ (List.perm_append_comm_assoc _ _ _))).trans (List.perm_append_comm_assoc _ _ _)))).trans (List.perm_append_comm_assoc _ _ _))))
  obtain ⟨p7, h8, hM⟩ := b_some hM
  refine q_cv (As := []) (rest := [.int p5]) E hw hl (c_X1_allBreaches l D cA tS A h 600 (wK cA t p3 ++ (wLg cA t p3 0 ++ (wC cA t p3 ++ (wH cA h σ ++ (wS h ++ (wX ax (h 46) sv (t 42) sc ++ F)))))) N σ p7 h8) 0 (bwV bw_c tb_965 tb_966 tb_967 tb_49 tb_968) rfl (by decide +kernel) ⟨Nat.le_of_ble_eq_true rfl, Nat.le_of_ble_eq_true rfl⟩ 12 1 (T := TX1) (N := 6) rfl rfl rfl rfl (Nat.le_of_ble_eq_true rfl) ⟨Nat.zero_le _, Nat.zero_le _⟩ dX8_breachesAhead_38 (fun H locs hw => ?_)
  refine lv_isub hx hb dX8_breachesAhead_41 ?_
  have hw : Wd D A (wK cA h σ ++ (wLg cA h σ 600 ++ (wC cA h σ ++ (wH cA h σ ++ (wK cA t p3 ++ (wLg cA t p3 0 ++ (wC cA t p3 ++ (wS h ++ (wX ax (h 46) sv (t 42) sc ++ F))))))))) s.heap _ _ := hw.perm (List.Perm.append_left _ (List.Perm.append_left _ (List.Perm.append_left _ (((List.Perm.append_left _ (((List.Perm.append_left _ (List.perm_append_comm_assoc _ _ _))).trans (List.perm_append_comm_assoc _ _ _)))).trans (List.perm_append_comm_assoc _ _ _)))))
  have hw : Wd D A (wK cA h σ ++ (wLg cA h σ 600 ++ (wC cA h σ ++ (wH cA h σ ++ (wS h ++ (wK cA t p3 ++ (wLg cA t p3 0 ++ (wC cA t p3 ++ (wX ax (h 46) sv (t 42) sc ++ F))))))))) s.heap _ _ := hw.perm (List.Perm.append_left _ (List.Perm.append_left _ (List.Perm.append_left _ (List.Perm.append_left _ (((List.Perm.append_left _ (((List.Perm.append_left _ (List.perm_append_comm_assoc _ _ _))).trans (List.perm_append_comm_assoc _ _ _)))).trans (List.perm_append_comm_assoc _ _ _))))))
  have hw : Wd D A (wK cA h σ ++ (wLg cA h σ 600 ++ (wC cA h σ ++ (wH cA h σ ++ (wS h ++ (wX ax (h 46) sv (t 42) sc ++ (wK cA t p3 ++ (wLg cA t p3 0 ++ (wC cA t p3 ++ F))))))))) s.heap _ _ := hw.perm (List.Perm.append_left _ (List.Perm.append_left _ (List.Perm.append_left _ (List.Perm.append_left _ (List.Perm.append_left _ (((List.Perm.append_left _ (((List.Perm.append_left _ (List.perm_append_comm_assoc _ _ _))).trans (List.perm_append_comm_assoc _ _ _)))).trans (List.perm_append_comm_assoc _ _ _)))))))
  cases hM
  exact q_reti E hw dX8_breachesAhead_42
set_option maxRecDepth 100000 in
set_option maxHeartbeats 4000000 in
theorem c_X8_historyLength (l : Launch) (D : va_G) (cA : Nat → ClassId) (tS : Nat → Nat) (A : Nat → Prop) (h : Nat → Nat) (ax : Nat) (sv : Nat) (tr : Nat) (sc : Nat) (F : va_W) (σ : Sg) (r0 : Int32) (hM : f_X8_historyLength σ = some r0) : Ct l yX8_historyLength (Cond.code yX8_historyLength cX8_historyLength 1 (some .int) :: bw) 0 0 D cA tS A [.ref ax] (wK cA h σ ++ (wLg cA h σ 600 ++ (wC cA h σ ++ (wH cA h σ ++ (wS h ++ (wX ax (h 46) sv tr sc ++ F)))))) (some (.int r0)) (wK cA h σ ++ (wLg cA h σ 600 ++ (wC cA h σ ++ (wH cA h σ ++ (wS h ++ (wX ax (h 46) sv tr sc ++ F)))))) := by
  refine ct_of (by decide +kernel) (Nat.le_of_ble_eq_true rfl) ?_
  intro p e s m below meth c E hw ls hl
  replace E : Ev p cX8_historyLength 1 (some .int) RX8 (Cond.code yX8_historyLength cX8_historyLength 1 (some .int) :: bw) D cA tS A s m _ meth c := E
  replace hl : lv_has ls 1 [(0, .ref ax)] := hl
  have hx := E.1.1
  have hb := E.1.2.1
  unfold f_X8_historyLength at hM
  refine lv_aload_n hx hb dX8_historyLength_0 rfl (lv_at hl 0 rfl) ?_
  refine q_get (C := RX8) (T := TX8) (N := 4) (ci := 8) E (fun w h => List.mem_cons_of_mem _ (inX8 w h)) hw 40 rfl rfl 0 (by decide) (List.mem_cons_of_mem _ tb_373) (v := .ref (h 46)) rfl dX8_historyLength_1 ?_
  refine q_get (C := RX6) (T := TX6) (N := 2) (ci := 6) E (fun w h => List.mem_cons_of_mem _ (inX6 w h)) hw 39 rfl rfl 1 (by decide) (List.mem_cons_of_mem _ tb_323) (v := .ref (h 45)) rfl dX8_historyLength_4 ?_
  refine q_get (C := RX2) (T := TX2) (N := 7) (ci := 2) E (fun w h => List.mem_cons_of_mem _ (inX2 w h)) hw 32 rfl rfl 6 (by decide) (List.mem_cons_of_mem _ tb_304) (v := .int (σ 31 0)) rfl dX8_historyLength_7 ?_
  cases hM
  exact q_reti E hw dX8_historyLength_10
set_option maxRecDepth 100000 in
set_option maxHeartbeats 4000000 in
theorem c_X8_logSize (l : Launch) (D : va_G) (cA : Nat → ClassId) (tS : Nat → Nat) (A : Nat → Prop) (h : Nat → Nat) (ax : Nat) (sv : Nat) (tr : Nat) (sc : Nat) (F : va_W) (σ : Sg) (r0 : Int32) (hM : f_X8_logSize σ = some r0) : Ct l yX8_logSize (Cond.code yX8_logSize cX8_logSize 1 (some .int) :: bw) 0 0 D cA tS A [.ref ax] (wK cA h σ ++ (wLg cA h σ 600 ++ (wC cA h σ ++ (wH cA h σ ++ (wS h ++ (wX ax (h 46) sv tr sc ++ F)))))) (some (.int r0)) (wK cA h σ ++ (wLg cA h σ 600 ++ (wC cA h σ ++ (wH cA h σ ++ (wS h ++ (wX ax (h 46) sv tr sc ++ F)))))) := by
  refine ct_of (by decide +kernel) (Nat.le_of_ble_eq_true rfl) ?_
  intro p e s m below meth c E hw ls hl
  replace E : Ev p cX8_logSize 1 (some .int) RX8 (Cond.code yX8_logSize cX8_logSize 1 (some .int) :: bw) D cA tS A s m _ meth c := E
  replace hl : lv_has ls 1 [(0, .ref ax)] := hl
  have hx := E.1.1
  have hb := E.1.2.1
  unfold f_X8_logSize at hM
  refine lv_aload_n hx hb dX8_logSize_0 rfl (lv_at hl 0 rfl) ?_
  refine q_get (C := RX8) (T := TX8) (N := 4) (ci := 8) E (fun w h => List.mem_cons_of_mem _ (inX8 w h)) hw 40 rfl rfl 0 (by decide) (List.mem_cons_of_mem _ tb_373) (v := .ref (h 46)) rfl dX8_logSize_1 ?_
  refine q_get (C := RX6) (T := TX6) (N := 2) (ci := 6) E (fun w h => List.mem_cons_of_mem _ (inX6 w h)) hw 39 rfl rfl 0 (by decide) (List.mem_cons_of_mem _ tb_321) (v := .ref (h 42)) rfl dX8_logSize_4 ?_
  refine q_get (C := RX1) (T := TX1) (N := 6) (ci := 1) E (fun w h => List.mem_cons_of_mem _ (inX1 w h)) hw 12 rfl rfl 4 (by decide) (List.mem_cons_of_mem _ tb_275) (v := .ref (h 41)) rfl dX8_logSize_7 ?_
  refine q_get (C := RX4) (T := TX4) (N := 5) (ci := 4) E (fun w h => List.mem_cons_of_mem _ (inX4 w h)) hw 7 rfl rfl 4 (by decide) (List.mem_cons_of_mem _ tb_236) (v := .int (σ 7 0)) rfl dX8_logSize_10 ?_
  cases hM
  exact q_reti E hw dX8_logSize_13
set_option maxRecDepth 100000 in
set_option maxHeartbeats 4000000 in
theorem c_X8_ofEvent_time (l : Launch) (D : va_G) (cA : Nat → ClassId) (tS : Nat → Nat) (A : Nat → Prop) (h : Nat → Nat) (ax : Nat) (sv : Nat) (tr : Nat) (sc : Nat) (F : va_W) (x2 : Int32) (σ : Sg) (r0 : Int32) (hM : f_X8_ofEvent_time x2 σ = some r0) : Ct l yX8_ofEvent (Cond.code yX8_ofEvent cX8_ofEvent 3 (some .int) :: bw) 1 22 D cA tS A [.ref ax, .ref (h 8), .int x2] (wK cA h σ ++ (wLg cA h σ 600 ++ (wC cA h σ ++ (wH cA h σ ++ (wS h ++ (wX ax (h 46) sv tr sc ++ F)))))) (some (.int r0)) (wK cA h σ ++ (wLg cA h σ 600 ++ (wC cA h σ ++ (wH cA h σ ++ (wS h ++ (wX ax (h 46) sv tr sc ++ F)))))) := by
  refine ct_of (by decide +kernel) (Nat.le_of_ble_eq_true rfl) ?_
  intro p e s m below meth c E hw ls hl
  replace E : Ev p cX8_ofEvent 3 (some .int) RX8 (Cond.code yX8_ofEvent cX8_ofEvent 3 (some .int) :: bw) D cA tS A s m _ meth c := E
  replace hl : lv_has ls 3 [(0, .ref ax), (1, .ref (h 8)), (2, .int x2)] := hl
  have hx := E.1.1
  have hb := E.1.2.1
  unfold f_X8_ofEvent_time at hM
  refine lv_iload_n hx hb dX8_ofEvent_0 rfl (lv_at hl 2 rfl) ?_
  refine lv_iconst (v := 0) hx hb dX8_ofEvent_1 (by decide) ?_
  refine lv_aload_n hx hb dX8_ofEvent_2 rfl (lv_at hl 0 rfl) ?_
  refine q_get (C := RX8) (T := TX8) (N := 4) (ci := 8) E (fun w h => List.mem_cons_of_mem _ (inX8 w h)) hw 40 rfl rfl 0 (by decide) (List.mem_cons_of_mem _ tb_373) (v := .ref (h 46)) rfl dX8_ofEvent_3 ?_
  refine q_get (C := RX6) (T := TX6) (N := 2) (ci := 6) E (fun w h => List.mem_cons_of_mem _ (inX6 w h)) hw 39 rfl rfl 0 (by decide) (List.mem_cons_of_mem _ tb_321) (v := .ref (h 42)) rfl dX8_ofEvent_6 ?_
  refine q_get (C := RX1) (T := TX1) (N := 6) (ci := 1) E (fun w h => List.mem_cons_of_mem _ (inX1 w h)) hw 12 rfl rfl 4 (by decide) (List.mem_cons_of_mem _ tb_275) (v := .ref (h 41)) rfl dX8_ofEvent_9 ?_
  refine q_get (C := RX4) (T := TX4) (N := 5) (ci := 4) E (fun w h => List.mem_cons_of_mem _ (inX4 w h)) hw 7 rfl rfl 4 (by decide) (List.mem_cons_of_mem _ tb_236) (v := .int (σ 7 0)) rfl dX8_ofEvent_12 ?_
  refine lv_iconst (v := 1) hx hb dX8_ofEvent_15 (by decide) ?_
  refine lv_isub hx hb dX8_ofEvent_16 ?_
  obtain ⟨p1, h2, hM⟩ := b_some hM
  refine q_cs (As := [.int x2, .int 0, .int ((σ 7 0) - 1)]) (rest := []) E hw hl (c_X8_within l D cA tS A (wK cA h σ ++ (wLg cA h σ 600 ++ (wC cA h σ ++ (wH cA h σ ++ (wS h ++ (wX ax (h 46) sv tr sc ++ F)))))) x2 0 ((σ 7 0) - 1) p1 h2) 3 (bwS bw_c tb_450 tb_451 tb_47 tb_452) rfl (by decide +kernel) ⟨Nat.le_of_ble_eq_true rfl, Nat.le_of_ble_eq_true rfl⟩ rfl rfl (Nat.le_of_ble_eq_true rfl) ⟨Nat.zero_le _, Nat.zero_le _⟩ dX8_ofEvent_17 (fun H locs hw => ?_)
  refine lv_if_eq (tgt := 29) hx hb dX8_ofEvent_20 (by decide) (fun c3 => ?_) (fun c3 => ?_)
  · replace hM := i_pos hM c3
    refine lv_bipush (v := (-4)) hx hb dX8_ofEvent_29 (by decide) ?_
    cases hM
    exact q_reti E hw dX8_ofEvent_31
  · replace hM := i_neg hM c3
    refine lv_aload_n hx hb dX8_ofEvent_23 rfl (lv_at hl 1 rfl) ?_
    refine lv_iload_n hx hb dX8_ofEvent_24 rfl (lv_at hl 2 rfl) ?_
    obtain ⟨g4, hM⟩ := g_some hM
    refine q_ald E hw 8 (n := 600) rfl g4 (x := (σ 8 (ix x2))) rfl dX8_ofEvent_25 ?_
    refine lv_goto (tgt := 31) hx hb dX8_ofEvent_26 (by decide) ?_
    cases hM
    exact q_reti E hw dX8_ofEvent_31
set_option maxRecDepth 100000 in
set_option maxHeartbeats 4000000 in
theorem c_X8_logTime (l : Launch) (D : va_G) (cA : Nat → ClassId) (tS : Nat → Nat) (A : Nat → Prop) (h : Nat → Nat) (ax : Nat) (sv : Nat) (tr : Nat) (sc : Nat) (F : va_W) (x1 : Int32) (σ : Sg) (r0 : Int32) (hM : f_X8_logTime x1 σ = some r0) : Ct l yX8_logTime (Cond.code yX8_logTime cX8_logTime 2 (some .int) :: bw) 2 44 D cA tS A [.ref ax, .int x1] (wK cA h σ ++ (wLg cA h σ 600 ++ (wC cA h σ ++ (wH cA h σ ++ (wS h ++ (wX ax (h 46) sv tr sc ++ F)))))) (some (.int r0)) (wK cA h σ ++ (wLg cA h σ 600 ++ (wC cA h σ ++ (wH cA h σ ++ (wS h ++ (wX ax (h 46) sv tr sc ++ F)))))) := by
  refine ct_of (by decide +kernel) (Nat.le_of_ble_eq_true rfl) ?_
  intro p e s m below meth c E hw ls hl
  replace E : Ev p cX8_logTime 2 (some .int) RX8 (Cond.code yX8_logTime cX8_logTime 2 (some .int) :: bw) D cA tS A s m _ meth c := E
  replace hl : lv_has ls 2 [(0, .ref ax), (1, .int x1)] := hl
  have hx := E.1.1
  have hb := E.1.2.1
  unfold f_X8_logTime at hM
  refine lv_aload_n hx hb dX8_logTime_0 rfl (lv_at hl 0 rfl) ?_
  refine lv_aload_n hx hb dX8_logTime_1 rfl (lv_at hl 0 rfl) ?_
  refine q_get (C := RX8) (T := TX8) (N := 4) (ci := 8) E (fun w h => List.mem_cons_of_mem _ (inX8 w h)) hw 40 rfl rfl 0 (by decide) (List.mem_cons_of_mem _ tb_373) (v := .ref (h 46)) rfl dX8_logTime_2 ?_
  refine q_get (C := RX6) (T := TX6) (N := 2) (ci := 6) E (fun w h => List.mem_cons_of_mem _ (inX6 w h)) hw 39 rfl rfl 0 (by decide) (List.mem_cons_of_mem _ tb_321) (v := .ref (h 42)) rfl dX8_logTime_5 ?_
  refine q_get (C := RX1) (T := TX1) (N := 6) (ci := 1) E (fun w h => List.mem_cons_of_mem _ (inX1 w h)) hw 12 rfl rfl 4 (by decide) (List.mem_cons_of_mem _ tb_275) (v := .ref (h 41)) rfl dX8_logTime_8 ?_
  refine q_get (C := RX4) (T := TX4) (N := 5) (ci := 4) E (fun w h => List.mem_cons_of_mem _ (inX4 w h)) hw 7 rfl rfl 0 (by decide) (List.mem_cons_of_mem _ tb_228) (v := .ref (h 8)) rfl dX8_logTime_11 ?_
  refine lv_iload_n hx hb dX8_logTime_14 rfl (lv_at hl 1 rfl) ?_
  obtain ⟨p1, h2, hM⟩ := b_some hM
  refine q_cv (As := [.ref (h 8), .int x1]) (rest := []) E hw hl (c_X8_ofEvent_time l D cA tS A h ax sv tr sc F x1 σ p1 h2) 2 (bwV bw_c tb_684 tb_686 tb_27 tb_47 tb_687) rfl (by decide +kernel) ⟨Nat.le_of_ble_eq_true rfl, Nat.le_of_ble_eq_true rfl⟩ 40 8 (T := TX8) (N := 4) rfl rfl rfl rfl (Nat.le_of_ble_eq_true rfl) ⟨Nat.zero_le _, Nat.zero_le _⟩ dX8_logTime_15 (fun H locs hw => ?_)
  cases hM
  exact q_reti E hw dX8_logTime_18
set_option maxRecDepth 100000 in
set_option maxHeartbeats 4000000 in
theorem c_X8_ofEvent_type (l : Launch) (D : va_G) (cA : Nat → ClassId) (tS : Nat → Nat) (A : Nat → Prop) (h : Nat → Nat) (ax : Nat) (sv : Nat) (tr : Nat) (sc : Nat) (F : va_W) (x2 : Int32) (σ : Sg) (r0 : Int32) (hM : f_X8_ofEvent_type x2 σ = some r0) : Ct l yX8_ofEvent (Cond.code yX8_ofEvent cX8_ofEvent 3 (some .int) :: bw) 1 22 D cA tS A [.ref ax, .ref (h 9), .int x2] (wK cA h σ ++ (wLg cA h σ 600 ++ (wC cA h σ ++ (wH cA h σ ++ (wS h ++ (wX ax (h 46) sv tr sc ++ F)))))) (some (.int r0)) (wK cA h σ ++ (wLg cA h σ 600 ++ (wC cA h σ ++ (wH cA h σ ++ (wS h ++ (wX ax (h 46) sv tr sc ++ F)))))) := by
  refine ct_of (by decide +kernel) (Nat.le_of_ble_eq_true rfl) ?_
  intro p e s m below meth c E hw ls hl
  replace E : Ev p cX8_ofEvent 3 (some .int) RX8 (Cond.code yX8_ofEvent cX8_ofEvent 3 (some .int) :: bw) D cA tS A s m _ meth c := E
  replace hl : lv_has ls 3 [(0, .ref ax), (1, .ref (h 9)), (2, .int x2)] := hl
  have hx := E.1.1
  have hb := E.1.2.1
  unfold f_X8_ofEvent_type at hM
  refine lv_iload_n hx hb dX8_ofEvent_0 rfl (lv_at hl 2 rfl) ?_
  refine lv_iconst (v := 0) hx hb dX8_ofEvent_1 (by decide) ?_
  refine lv_aload_n hx hb dX8_ofEvent_2 rfl (lv_at hl 0 rfl) ?_
  refine q_get (C := RX8) (T := TX8) (N := 4) (ci := 8) E (fun w h => List.mem_cons_of_mem _ (inX8 w h)) hw 40 rfl rfl 0 (by decide) (List.mem_cons_of_mem _ tb_373) (v := .ref (h 46)) rfl dX8_ofEvent_3 ?_
  refine q_get (C := RX6) (T := TX6) (N := 2) (ci := 6) E (fun w h => List.mem_cons_of_mem _ (inX6 w h)) hw 39 rfl rfl 0 (by decide) (List.mem_cons_of_mem _ tb_321) (v := .ref (h 42)) rfl dX8_ofEvent_6 ?_
  refine q_get (C := RX1) (T := TX1) (N := 6) (ci := 1) E (fun w h => List.mem_cons_of_mem _ (inX1 w h)) hw 12 rfl rfl 4 (by decide) (List.mem_cons_of_mem _ tb_275) (v := .ref (h 41)) rfl dX8_ofEvent_9 ?_
  refine q_get (C := RX4) (T := TX4) (N := 5) (ci := 4) E (fun w h => List.mem_cons_of_mem _ (inX4 w h)) hw 7 rfl rfl 4 (by decide) (List.mem_cons_of_mem _ tb_236) (v := .int (σ 7 0)) rfl dX8_ofEvent_12 ?_
  refine lv_iconst (v := 1) hx hb dX8_ofEvent_15 (by decide) ?_
  refine lv_isub hx hb dX8_ofEvent_16 ?_
  obtain ⟨p1, h2, hM⟩ := b_some hM
  refine q_cs (As := [.int x2, .int 0, .int ((σ 7 0) - 1)]) (rest := []) E hw hl (c_X8_within l D cA tS A (wK cA h σ ++ (wLg cA h σ 600 ++ (wC cA h σ ++ (wH cA h σ ++ (wS h ++ (wX ax (h 46) sv tr sc ++ F)))))) x2 0 ((σ 7 0) - 1) p1 h2) 3 (bwS bw_c tb_450 tb_451 tb_47 tb_452) rfl (by decide +kernel) ⟨Nat.le_of_ble_eq_true rfl, Nat.le_of_ble_eq_true rfl⟩ rfl rfl (Nat.le_of_ble_eq_true rfl) ⟨Nat.zero_le _, Nat.zero_le _⟩ dX8_ofEvent_17 (fun H locs hw => ?_)
  refine lv_if_eq (tgt := 29) hx hb dX8_ofEvent_20 (by decide) (fun c3 => ?_) (fun c3 => ?_)
  · replace hM := i_pos hM c3
    refine lv_bipush (v := (-4)) hx hb dX8_ofEvent_29 (by decide) ?_
    cases hM
    exact q_reti E hw dX8_ofEvent_31
  · replace hM := i_neg hM c3
    refine lv_aload_n hx hb dX8_ofEvent_23 rfl (lv_at hl 1 rfl) ?_
    refine lv_iload_n hx hb dX8_ofEvent_24 rfl (lv_at hl 2 rfl) ?_
    obtain ⟨g4, hM⟩ := g_some hM
    refine q_ald E hw 9 (n := 600) rfl g4 (x := (σ 9 (ix x2))) rfl dX8_ofEvent_25 ?_
    refine lv_goto (tgt := 31) hx hb dX8_ofEvent_26 (by decide) ?_
    cases hM
    exact q_reti E hw dX8_ofEvent_31
set_option maxRecDepth 100000 in
set_option maxHeartbeats 4000000 in
theorem c_X8_logType (l : Launch) (D : va_G) (cA : Nat → ClassId) (tS : Nat → Nat) (A : Nat → Prop) (h : Nat → Nat) (ax : Nat) (sv : Nat) (tr : Nat) (sc : Nat) (F : va_W) (x1 : Int32) (σ : Sg) (r0 : Int32) (hM : f_X8_logType x1 σ = some r0) : Ct l yX8_logType (Cond.code yX8_logType cX8_logType 2 (some .int) :: bw) 2 44 D cA tS A [.ref ax, .int x1] (wK cA h σ ++ (wLg cA h σ 600 ++ (wC cA h σ ++ (wH cA h σ ++ (wS h ++ (wX ax (h 46) sv tr sc ++ F)))))) (some (.int r0)) (wK cA h σ ++ (wLg cA h σ 600 ++ (wC cA h σ ++ (wH cA h σ ++ (wS h ++ (wX ax (h 46) sv tr sc ++ F)))))) := by
  refine ct_of (by decide +kernel) (Nat.le_of_ble_eq_true rfl) ?_
  intro p e s m below meth c E hw ls hl
  replace E : Ev p cX8_logType 2 (some .int) RX8 (Cond.code yX8_logType cX8_logType 2 (some .int) :: bw) D cA tS A s m _ meth c := E
  replace hl : lv_has ls 2 [(0, .ref ax), (1, .int x1)] := hl
  have hx := E.1.1
  have hb := E.1.2.1
  unfold f_X8_logType at hM
  refine lv_aload_n hx hb dX8_logType_0 rfl (lv_at hl 0 rfl) ?_
  refine lv_aload_n hx hb dX8_logType_1 rfl (lv_at hl 0 rfl) ?_
  refine q_get (C := RX8) (T := TX8) (N := 4) (ci := 8) E (fun w h => List.mem_cons_of_mem _ (inX8 w h)) hw 40 rfl rfl 0 (by decide) (List.mem_cons_of_mem _ tb_373) (v := .ref (h 46)) rfl dX8_logType_2 ?_
  refine q_get (C := RX6) (T := TX6) (N := 2) (ci := 6) E (fun w h => List.mem_cons_of_mem _ (inX6 w h)) hw 39 rfl rfl 0 (by decide) (List.mem_cons_of_mem _ tb_321) (v := .ref (h 42)) rfl dX8_logType_5 ?_
  refine q_get (C := RX1) (T := TX1) (N := 6) (ci := 1) E (fun w h => List.mem_cons_of_mem _ (inX1 w h)) hw 12 rfl rfl 4 (by decide) (List.mem_cons_of_mem _ tb_275) (v := .ref (h 41)) rfl dX8_logType_8 ?_
  refine q_get (C := RX4) (T := TX4) (N := 5) (ci := 4) E (fun w h => List.mem_cons_of_mem _ (inX4 w h)) hw 7 rfl rfl 1 (by decide) (List.mem_cons_of_mem _ tb_230) (v := .ref (h 9)) rfl dX8_logType_11 ?_
  refine lv_iload_n hx hb dX8_logType_14 rfl (lv_at hl 1 rfl) ?_
  obtain ⟨p1, h2, hM⟩ := b_some hM
  refine q_cv (As := [.ref (h 9), .int x1]) (rest := []) E hw hl (c_X8_ofEvent_type l D cA tS A h ax sv tr sc F x1 σ p1 h2) 2 (bwV bw_c tb_684 tb_686 tb_27 tb_47 tb_687) rfl (by decide +kernel) ⟨Nat.le_of_ble_eq_true rfl, Nat.le_of_ble_eq_true rfl⟩ 40 8 (T := TX8) (N := 4) rfl rfl rfl rfl (Nat.le_of_ble_eq_true rfl) ⟨Nat.zero_le _, Nat.zero_le _⟩ dX8_logType_15 (fun H locs hw => ?_)
  cases hM
  exact q_reti E hw dX8_logType_18
set_option maxRecDepth 100000 in
set_option maxHeartbeats 4000000 in
theorem c_X8_ofEvent_ticket (l : Launch) (D : va_G) (cA : Nat → ClassId) (tS : Nat → Nat) (A : Nat → Prop) (h : Nat → Nat) (ax : Nat) (sv : Nat) (tr : Nat) (sc : Nat) (F : va_W) (x2 : Int32) (σ : Sg) (r0 : Int32) (hM : f_X8_ofEvent_ticket x2 σ = some r0) : Ct l yX8_ofEvent (Cond.code yX8_ofEvent cX8_ofEvent 3 (some .int) :: bw) 1 22 D cA tS A [.ref ax, .ref (h 10), .int x2] (wK cA h σ ++ (wLg cA h σ 600 ++ (wC cA h σ ++ (wH cA h σ ++ (wS h ++ (wX ax (h 46) sv tr sc ++ F)))))) (some (.int r0)) (wK cA h σ ++ (wLg cA h σ 600 ++ (wC cA h σ ++ (wH cA h σ ++ (wS h ++ (wX ax (h 46) sv tr sc ++ F)))))) := by
  refine ct_of (by decide +kernel) (Nat.le_of_ble_eq_true rfl) ?_
  intro p e s m below meth c E hw ls hl
  replace E : Ev p cX8_ofEvent 3 (some .int) RX8 (Cond.code yX8_ofEvent cX8_ofEvent 3 (some .int) :: bw) D cA tS A s m _ meth c := E
  replace hl : lv_has ls 3 [(0, .ref ax), (1, .ref (h 10)), (2, .int x2)] := hl
  have hx := E.1.1
  have hb := E.1.2.1
  unfold f_X8_ofEvent_ticket at hM
  refine lv_iload_n hx hb dX8_ofEvent_0 rfl (lv_at hl 2 rfl) ?_
  refine lv_iconst (v := 0) hx hb dX8_ofEvent_1 (by decide) ?_
  refine lv_aload_n hx hb dX8_ofEvent_2 rfl (lv_at hl 0 rfl) ?_
  refine q_get (C := RX8) (T := TX8) (N := 4) (ci := 8) E (fun w h => List.mem_cons_of_mem _ (inX8 w h)) hw 40 rfl rfl 0 (by decide) (List.mem_cons_of_mem _ tb_373) (v := .ref (h 46)) rfl dX8_ofEvent_3 ?_
  refine q_get (C := RX6) (T := TX6) (N := 2) (ci := 6) E (fun w h => List.mem_cons_of_mem _ (inX6 w h)) hw 39 rfl rfl 0 (by decide) (List.mem_cons_of_mem _ tb_321) (v := .ref (h 42)) rfl dX8_ofEvent_6 ?_
  refine q_get (C := RX1) (T := TX1) (N := 6) (ci := 1) E (fun w h => List.mem_cons_of_mem _ (inX1 w h)) hw 12 rfl rfl 4 (by decide) (List.mem_cons_of_mem _ tb_275) (v := .ref (h 41)) rfl dX8_ofEvent_9 ?_
  refine q_get (C := RX4) (T := TX4) (N := 5) (ci := 4) E (fun w h => List.mem_cons_of_mem _ (inX4 w h)) hw 7 rfl rfl 4 (by decide) (List.mem_cons_of_mem _ tb_236) (v := .int (σ 7 0)) rfl dX8_ofEvent_12 ?_
  refine lv_iconst (v := 1) hx hb dX8_ofEvent_15 (by decide) ?_
  refine lv_isub hx hb dX8_ofEvent_16 ?_
  obtain ⟨p1, h2, hM⟩ := b_some hM
  refine q_cs (As := [.int x2, .int 0, .int ((σ 7 0) - 1)]) (rest := []) E hw hl (c_X8_within l D cA tS A (wK cA h σ ++ (wLg cA h σ 600 ++ (wC cA h σ ++ (wH cA h σ ++ (wS h ++ (wX ax (h 46) sv tr sc ++ F)))))) x2 0 ((σ 7 0) - 1) p1 h2) 3 (bwS bw_c tb_450 tb_451 tb_47 tb_452) rfl (by decide +kernel) ⟨Nat.le_of_ble_eq_true rfl, Nat.le_of_ble_eq_true rfl⟩ rfl rfl (Nat.le_of_ble_eq_true rfl) ⟨Nat.zero_le _, Nat.zero_le _⟩ dX8_ofEvent_17 (fun H locs hw => ?_)
  refine lv_if_eq (tgt := 29) hx hb dX8_ofEvent_20 (by decide) (fun c3 => ?_) (fun c3 => ?_)
  · replace hM := i_pos hM c3
    refine lv_bipush (v := (-4)) hx hb dX8_ofEvent_29 (by decide) ?_
    cases hM
    exact q_reti E hw dX8_ofEvent_31
  · replace hM := i_neg hM c3
    refine lv_aload_n hx hb dX8_ofEvent_23 rfl (lv_at hl 1 rfl) ?_
    refine lv_iload_n hx hb dX8_ofEvent_24 rfl (lv_at hl 2 rfl) ?_
    obtain ⟨g4, hM⟩ := g_some hM
    refine q_ald E hw 10 (n := 600) rfl g4 (x := (σ 10 (ix x2))) rfl dX8_ofEvent_25 ?_
    refine lv_goto (tgt := 31) hx hb dX8_ofEvent_26 (by decide) ?_
    cases hM
    exact q_reti E hw dX8_ofEvent_31
