set_option maxRecDepth 100000 in
set_option maxHeartbeats 4000000 in
theorem c_X7_responseRuns (l : Launch) (D : va_G) (cA : Nat → ClassId) (tS : Nat → Nat) (A : Nat → Prop) (h : Nat → Nat) (L : Nat) (F : va_W) (x1 : Int32) (σ : Sg) (r0 : Int32) (hM : f_X7_responseRuns x1 σ = some r0) : Ct l yX7_responseRuns (Cond.code yX7_responseRuns cX7_responseRuns 2 (some .boolean) :: bw) 1 21 D cA tS A [.ref (h 44), .int x1] (wK cA h σ ++ (wLg cA h σ L ++ (wC cA h σ ++ F))) (some (.int r0)) (wK cA h σ ++ (wLg cA h σ L ++ (wC cA h σ ++ F))) := by
  refine ct_of (by decide +kernel) (Nat.le_of_ble_eq_true rfl) ?_
  intro p e s m below meth c E hw ls hl
  replace E : Ev p cX7_responseRuns 2 (some .boolean) RX7 (Cond.code yX7_responseRuns cX7_responseRuns 2 (some .boolean) :: bw) D cA tS A s m _ meth c := E
  replace hl : lv_has ls 2 [(0, .ref (h 44)), (1, .int x1)] := hl
  have hx := E.1.1
  have hb := E.1.2.1
  unfold f_X7_responseRuns at hM
  refine lv_aload_n hx hb dX7_responseRuns_0 rfl (lv_at hl 0 rfl) ?_
  refine lv_iload_n hx hb dX7_responseRuns_1 rfl (lv_at hl 1 rfl) ?_
  obtain ⟨p1, h2, hM⟩ := b_some hM
  refine q_cv (As := [.int x1]) (rest := []) E hw hl (c_X7_isAnswered l D cA tS A h L F x1 σ p1 h2) 1 (bwV bw_c tb_825 tb_801 tb_802 tb_52 tb_803) rfl (by decide +kernel) ⟨Nat.le_of_ble_eq_true rfl, Nat.le_of_ble_eq_true rfl⟩ 16 7 (T := TX7) (N := 15) rfl rfl rfl rfl (Nat.le_of_ble_eq_true rfl) ⟨Nat.zero_le _, Nat.zero_le _⟩ dX7_responseRuns_2 (fun H locs hw => ?_)
  refine lv_if_eq (tgt := 10) hx hb dX7_responseRuns_5 (by decide) (fun c3 => ?_) (fun c3 => ?_)
  · replace hM := i_pos hM c3
    refine lv_aload_n hx hb dX7_responseRuns_10 rfl (lv_at hl 0 rfl) ?_
    refine q_get (C := RX7) (T := TX7) (N := 15) (ci := 7) E (fun w h => List.mem_cons_of_mem _ (inX7 w h)) hw 16 rfl rfl 5 (by decide) (List.mem_cons_of_mem _ tb_159) (v := .ref (h 21)) rfl dX7_responseRuns_11 ?_
    refine lv_iload_n hx hb dX7_responseRuns_14 rfl (lv_at hl 1 rfl) ?_
    obtain ⟨g4, hM⟩ := g_some hM
    refine q_ald E hw 22 (n := 60) rfl g4 (x := (σ 21 (ix x1))) rfl dX7_responseRuns_15 ?_
    refine lv_iconst (v := 4) hx hb dX7_responseRuns_16 (by decide) ?_
    refine lv_icmp_ne (tgt := 52) hx hb dX7_responseRuns_17 (by decide) (fun c5 => ?_) (fun c5 => ?_)
    · replace hM := i_neg hM c5
      refine lv_aload_n hx hb dX7_responseRuns_52 rfl (lv_at hl 0 rfl) ?_
      refine q_get (C := RX7) (T := TX7) (N := 15) (ci := 7) E (fun w h => List.mem_cons_of_mem _ (inX7 w h)) hw 16 rfl rfl 5 (by decide) (List.mem_cons_of_mem _ tb_159) (v := .ref (h 21)) rfl dX7_responseRuns_53 ?_
      refine lv_iload_n hx hb dX7_responseRuns_56 rfl (lv_at hl 1 rfl) ?_
      refine q_ald E hw 22 (n := 60) rfl g4 (x := (σ 21 (ix x1))) rfl dX7_responseRuns_57 ?_
      refine lv_if_eq (tgt := 71) hx hb dX7_responseRuns_58 (by decide) (fun c6 => ?_) (fun c6 => ?_)
      · replace hM := i_pos hM c6
        refine lv_iconst (v := 1) hx hb dX7_responseRuns_71 (by decide) ?_
        refine lv_goto (tgt := 76) hx hb dX7_responseRuns_72 (by decide) ?_
        cases hM
        exact q_retz E hw (by decide) dX7_responseRuns_76
      · replace hM := i_neg hM c6
        refine lv_aload_n hx hb dX7_responseRuns_61 rfl (lv_at hl 0 rfl) ?_
        refine q_get (C := RX7) (T := TX7) (N := 15) (ci := 7) E (fun w h => List.mem_cons_of_mem _ (inX7 w h)) hw 16 rfl rfl 5 (by decide) (List.mem_cons_of_mem _ tb_159) (v := .ref (h 21)) rfl dX7_responseRuns_62 ?_
        refine lv_iload_n hx hb dX7_responseRuns_65 rfl (lv_at hl 1 rfl) ?_
        refine q_ald E hw 22 (n := 60) rfl g4 (x := (σ 21 (ix x1))) rfl dX7_responseRuns_66 ?_
        refine lv_iconst (v := 2) hx hb dX7_responseRuns_67 (by decide) ?_
        refine lv_icmp_ne (tgt := 75) hx hb dX7_responseRuns_68 (by decide) (fun c7 => ?_) (fun c7 => ?_)
        · replace hM := i_neg hM c7
          refine lv_iconst (v := 0) hx hb dX7_responseRuns_75 (by decide) ?_
          cases hM
          exact q_retz E hw (by decide) dX7_responseRuns_76
        · replace hM := i_pos hM c7
          refine lv_iconst (v := 1) hx hb dX7_responseRuns_71 (by decide) ?_
          refine lv_goto (tgt := 76) hx hb dX7_responseRuns_72 (by decide) ?_
          cases hM
          exact q_retz E hw (by decide) dX7_responseRuns_76
    · replace hM := i_pos hM c5
      refine lv_aload_n hx hb dX7_responseRuns_20 rfl (lv_at hl 0 rfl) ?_
      refine lv_aload_n hx hb dX7_responseRuns_21 rfl (lv_at hl 0 rfl) ?_
      refine q_get (C := RX7) (T := TX7) (N := 15) (ci := 7) E (fun w h => List.mem_cons_of_mem _ (inX7 w h)) hw 16 rfl rfl 10 (by decide) (List.mem_cons_of_mem _ tb_173) (v := .ref (h 26)) rfl dX7_responseRuns_22 ?_
      refine lv_iload_n hx hb dX7_responseRuns_25 rfl (lv_at hl 1 rfl) ?_
      refine q_ald E hw 27 (n := 60) rfl g4 (x := (σ 26 (ix x1))) rfl dX7_responseRuns_26 ?_
      obtain ⟨p8, h9, hM⟩ := b_some hM
      refine q_cv (As := [.int (σ 26 (ix x1))]) (rest := []) E hw hl (c_X7_exists l D cA tS A h L F (σ 26 (ix x1)) σ p8 h9) 1 (bwV bw_c tb_826 tb_545 tb_546 tb_52 tb_547) rfl (by decide +kernel) ⟨Nat.le_of_ble_eq_true rfl, Nat.le_of_ble_eq_true rfl⟩ 16 7 (T := TX7) (N := 15) rfl rfl rfl rfl (Nat.le_of_ble_eq_true rfl) ⟨Nat.zero_le _, Nat.zero_le _⟩ dX7_responseRuns_27 (fun H locs hw => ?_)
      refine lv_if_eq (tgt := 50) hx hb dX7_responseRuns_30 (by decide) (fun c10 => ?_) (fun c10 => ?_)
      · replace hM := i_pos hM c10
        refine lv_iconst (v := 0) hx hb dX7_responseRuns_50 (by decide) ?_
        cases hM
        exact q_retz E hw (by decide) dX7_responseRuns_51
      · replace hM := i_neg hM c10
        refine lv_aload_n hx hb dX7_responseRuns_33 rfl (lv_at hl 0 rfl) ?_
        refine lv_aload_n hx hb dX7_responseRuns_34 rfl (lv_at hl 0 rfl) ?_
        refine q_get (C := RX7) (T := TX7) (N := 15) (ci := 7) E (fun w h => List.mem_cons_of_mem _ (inX7 w h)) hw 16 rfl rfl 10 (by decide) (List.mem_cons_of_mem _ tb_173) (v := .ref (h 26)) rfl dX7_responseRuns_35 ?_
        refine lv_iload_n hx hb dX7_responseRuns_38 rfl (lv_at hl 1 rfl) ?_
        refine q_ald E hw 27 (n := 60) rfl g4 (x := (σ 26 (ix x1))) rfl dX7_responseRuns_39 ?_
        obtain ⟨p11, h12, hM⟩ := b_some hM
        refine q_cv (As := [.int (σ 26 (ix x1))]) (rest := []) E hw hl (c_X7_isAnswered l D cA tS A h L F (σ 26 (ix x1)) σ p11 h12) 1 (bwV bw_c tb_825 tb_801 tb_802 tb_52 tb_803) rfl (by decide +kernel) ⟨Nat.le_of_ble_eq_true rfl, Nat.le_of_ble_eq_true rfl⟩ 16 7 (T := TX7) (N := 15) rfl rfl rfl rfl (Nat.le_of_ble_eq_true rfl) ⟨Nat.zero_le _, Nat.zero_le _⟩ dX7_responseRuns_40 (fun H locs hw => ?_)
        refine lv_if_ne (tgt := 50) hx hb dX7_responseRuns_43 (by decide) (fun c13 => ?_) (fun c13 => ?_)
        · replace hM := i_neg hM c13
          refine lv_iconst (v := 0) hx hb dX7_responseRuns_50 (by decide) ?_
          cases hM
          exact q_retz E hw (by decide) dX7_responseRuns_51
        · replace hM := i_pos hM c13
          refine lv_iconst (v := 1) hx hb dX7_responseRuns_46 (by decide) ?_
          refine lv_goto (tgt := 51) hx hb dX7_responseRuns_47 (by decide) ?_
          cases hM
          exact q_retz E hw (by decide) dX7_responseRuns_51
  · replace hM := i_neg hM c3
    refine lv_iconst (v := 0) hx hb dX7_responseRuns_8 (by decide) ?_
    cases hM
    exact q_retz E hw (by decide) dX7_responseRuns_9
set_option maxRecDepth 100000 in
set_option maxHeartbeats 4000000 in
theorem c_X1_minutesToBreach (l : Launch) (D : va_G) (cA : Nat → ClassId) (tS : Nat → Nat) (A : Nat → Prop) (F : va_W) (x0 : Int32) (x1 : Int32) (r0 : Int32) (hM : f_X1_minutesToBreach x0 x1 = some r0) : Ct l yX1_minutesToBreach (Cond.code yX1_minutesToBreach cX1_minutesToBreach 2 (some .int) :: bw) 0 0 D cA tS A [.int x0, .int x1] F (some (.int r0)) F := by
  refine ct_of (by decide +kernel) (Nat.le_of_ble_eq_true rfl) ?_
  intro p e s m below meth c E hw ls hl
  replace E : Ev p cX1_minutesToBreach 2 (some .int) RX1 (Cond.code yX1_minutesToBreach cX1_minutesToBreach 2 (some .int) :: bw) D cA tS A s m _ meth c := E
  replace hl : lv_has ls 2 [(0, .int x0), (1, .int x1)] := hl
  have hx := E.1.1
  have hb := E.1.2.1
  unfold f_X1_minutesToBreach at hM
  refine lv_iload_n hx hb dX1_minutesToBreach_0 rfl (lv_at hl 0 rfl) ?_
  refine lv_iload_n hx hb dX1_minutesToBreach_1 rfl (lv_at hl 1 rfl) ?_
  refine lv_icmp_le (tgt := 11) hx hb dX1_minutesToBreach_2 (by decide) (fun c1 => ?_) (fun c1 => ?_)
  · replace hM := i_pos hM c1
    refine lv_iload_n hx hb dX1_minutesToBreach_11 rfl (lv_at hl 1 rfl) ?_
    refine lv_iconst (v := 1) hx hb dX1_minutesToBreach_12 (by decide) ?_
    refine lv_iadd hx hb dX1_minutesToBreach_13 ?_
    refine lv_iload_n hx hb dX1_minutesToBreach_14 rfl (lv_at hl 0 rfl) ?_
    refine lv_isub hx hb dX1_minutesToBreach_15 ?_
    cases hM
    exact q_reti E hw dX1_minutesToBreach_16
  · replace hM := i_neg hM c1
    refine lv_sipush (v := 10080) hx hb dX1_minutesToBreach_5 (by decide) ?_
    refine lv_goto (tgt := 16) hx hb dX1_minutesToBreach_8 (by decide) ?_
    cases hM
    exact q_reti E hw dX1_minutesToBreach_16
set_option maxRecDepth 100000 in
set_option maxHeartbeats 4000000 in
theorem c_X7_resolveRuns (l : Launch) (D : va_G) (cA : Nat → ClassId) (tS : Nat → Nat) (A : Nat → Prop) (h : Nat → Nat) (L : Nat) (F : va_W) (x1 : Int32) (σ : Sg) (r0 : Int32) (hM : f_X7_resolveRuns x1 σ = some r0) : Ct l yX7_resolveRuns (Cond.code yX7_resolveRuns cX7_resolveRuns 2 (some .boolean) :: bw) 1 21 D cA tS A [.ref (h 44), .int x1] (wK cA h σ ++ (wLg cA h σ L ++ (wC cA h σ ++ F))) (some (.int r0)) (wK cA h σ ++ (wLg cA h σ L ++ (wC cA h σ ++ F))) := by
  refine ct_of (by decide +kernel) (Nat.le_of_ble_eq_true rfl) ?_
  intro p e s m below meth c E hw ls hl
  replace E : Ev p cX7_resolveRuns 2 (some .boolean) RX7 (Cond.code yX7_resolveRuns cX7_resolveRuns 2 (some .boolean) :: bw) D cA tS A s m _ meth c := E
  replace hl : lv_has ls 2 [(0, .ref (h 44)), (1, .int x1)] := hl
  have hx := E.1.1
  have hb := E.1.2.1
  unfold f_X7_resolveRuns at hM
  refine lv_aload_n hx hb dX7_resolveRuns_0 rfl (lv_at hl 0 rfl) ?_
  refine q_get (C := RX7) (T := TX7) (N := 15) (ci := 7) E (fun w h => List.mem_cons_of_mem _ (inX7 w h)) hw 16 rfl rfl 5 (by decide) (List.mem_cons_of_mem _ tb_159) (v := .ref (h 21)) rfl dX7_resolveRuns_1 ?_
  refine lv_iload_n hx hb dX7_resolveRuns_4 rfl (lv_at hl 1 rfl) ?_
  obtain ⟨g1, hM⟩ := g_some hM
  refine q_ald E hw 22 (n := 60) rfl g1 (x := (σ 21 (ix x1))) rfl dX7_resolveRuns_5 ?_
  refine lv_iconst (v := 4) hx hb dX7_resolveRuns_6 (by decide) ?_
  refine lv_icmp_ne (tgt := 42) hx hb dX7_resolveRuns_7 (by decide) (fun c2 => ?_) (fun c2 => ?_)
  · replace hM := i_neg hM c2
    refine lv_aload_n hx hb dX7_resolveRuns_42 rfl (lv_at hl 0 rfl) ?_
    refine lv_iload_n hx hb dX7_resolveRuns_43 rfl (lv_at hl 1 rfl) ?_
    obtain ⟨p3, h4, hM⟩ := b_some hM
    refine q_cv (As := [.int x1]) (rest := []) E hw hl (c_X7_isActive l D cA tS A h L F x1 σ p3 h4) 1 (bwV bw_c tb_834 tb_565 tb_566 tb_52 tb_567) rfl (by decide +kernel) ⟨Nat.le_of_ble_eq_true rfl, Nat.le_of_ble_eq_true rfl⟩ 16 7 (T := TX7) (N := 15) rfl rfl rfl rfl (Nat.le_of_ble_eq_true rfl) ⟨Nat.zero_le _, Nat.zero_le _⟩ dX7_resolveRuns_44 (fun H locs hw => ?_)
    obtain ⟨g5, hM⟩ := g_some hM
    cases hM
    exact q_retz E hw g5 dX7_resolveRuns_47
  · replace hM := i_pos hM c2
    refine lv_aload_n hx hb dX7_resolveRuns_10 rfl (lv_at hl 0 rfl) ?_
    refine lv_aload_n hx hb dX7_resolveRuns_11 rfl (lv_at hl 0 rfl) ?_
    refine q_get (C := RX7) (T := TX7) (N := 15) (ci := 7) E (fun w h => List.mem_cons_of_mem _ (inX7 w h)) hw 16 rfl rfl 10 (by decide) (List.mem_cons_of_mem _ tb_173) (v := .ref (h 26)) rfl dX7_resolveRuns_12 ?_
    refine lv_iload_n hx hb dX7_resolveRuns_15 rfl (lv_at hl 1 rfl) ?_
    refine q_ald E hw 27 (n := 60) rfl g1 (x := (σ 26 (ix x1))) rfl dX7_resolveRuns_16 ?_
    obtain ⟨p6, h7, hM⟩ := b_some hM
    refine q_cv (As := [.int (σ 26 (ix x1))]) (rest := []) E hw hl (c_X7_exists l D cA tS A h L F (σ 26 (ix x1)) σ p6 h7) 1 (bwV bw_c tb_826 tb_545 tb_546 tb_52 tb_547) rfl (by decide +kernel) ⟨Nat.le_of_ble_eq_true rfl, Nat.le_of_ble_eq_true rfl⟩ 16 7 (T := TX7) (N := 15) rfl rfl rfl rfl (Nat.le_of_ble_eq_true rfl) ⟨Nat.zero_le _, Nat.zero_le _⟩ dX7_resolveRuns_17 (fun H locs hw => ?_)
    refine lv_if_eq (tgt := 40) hx hb dX7_resolveRuns_20 (by decide) (fun c8 => ?_) (fun c8 => ?_)
    · replace hM := i_pos hM c8
      refine lv_iconst (v := 0) hx hb dX7_resolveRuns_40 (by decide) ?_
      cases hM
      exact q_retz E hw (by decide) dX7_resolveRuns_41
    · replace hM := i_neg hM c8
      refine lv_aload_n hx hb dX7_resolveRuns_23 rfl (lv_at hl 0 rfl) ?_
      refine lv_aload_n hx hb dX7_resolveRuns_24 rfl (lv_at hl 0 rfl) ?_
      refine q_get (C := RX7) (T := TX7) (N := 15) (ci := 7) E (fun w h => List.mem_cons_of_mem _ (inX7 w h)) hw 16 rfl rfl 10 (by decide) (List.mem_cons_of_mem _ tb_173) (v := .ref (h 26)) rfl dX7_resolveRuns_25 ?_
      refine lv_iload_n hx hb dX7_resolveRuns_28 rfl (lv_at hl 1 rfl) ?_
      refine q_ald E hw 27 (n := 60) rfl g1 (x := (σ 26 (ix x1))) rfl dX7_resolveRuns_29 ?_
      obtain ⟨p9, h10, hM⟩ := b_some hM
      refine q_cv (As := [.int (σ 26 (ix x1))]) (rest := []) E hw hl (c_X7_isActive l D cA tS A h L F (σ 26 (ix x1)) σ p9 h10) 1 (bwV bw_c tb_834 tb_565 tb_566 tb_52 tb_567) rfl (by decide +kernel) ⟨Nat.le_of_ble_eq_true rfl, Nat.le_of_ble_eq_true rfl⟩ 16 7 (T := TX7) (N := 15) rfl rfl rfl rfl (Nat.le_of_ble_eq_true rfl) ⟨Nat.zero_le _, Nat.zero_le _⟩ dX7_resolveRuns_30 (fun H locs hw => ?_)
      refine lv_if_eq (tgt := 40) hx hb dX7_resolveRuns_33 (by decide) (fun c11 => ?_) (fun c11 => ?_)
      · replace hM := i_pos hM c11
        refine lv_iconst (v := 0) hx hb dX7_resolveRuns_40 (by decide) ?_
        cases hM
        exact q_retz E hw (by decide) dX7_resolveRuns_41
      · replace hM := i_neg hM c11
        refine lv_iconst (v := 1) hx hb dX7_resolveRuns_36 (by decide) ?_
        refine lv_goto (tgt := 41) hx hb dX7_resolveRuns_37 (by decide) ?_
        cases hM
        exact q_retz E hw (by decide) dX7_resolveRuns_41
set_option maxRecDepth 100000 in
set_option maxHeartbeats 4000000 in
theorem c_X1_climbsByItself (l : Launch) (D : va_G) (cA : Nat → ClassId) (tS : Nat → Nat) (A : Nat → Prop) (h : Nat → Nat) (L : Nat) (F : va_W) (x1 : Int32) (σ : Sg) (r0 : Int32) (hM : f_X1_climbsByItself x1 σ = some r0) : Ct l yX1_climbsByItself (Cond.code yX1_climbsByItself cX1_climbsByItself 2 (some .boolean) :: bw) 0 0 D cA tS A [.ref (h 42), .int x1] (wK cA h σ ++ (wLg cA h σ L ++ (wC cA h σ ++ F))) (some (.int r0)) (wK cA h σ ++ (wLg cA h σ L ++ (wC cA h σ ++ F))) := by
  refine ct_of (by decide +kernel) (Nat.le_of_ble_eq_true rfl) ?_
  intro p e s m below meth c E hw ls hl
  replace E : Ev p cX1_climbsByItself 2 (some .boolean) RX1 (Cond.code yX1_climbsByItself cX1_climbsByItself 2 (some .boolean) :: bw) D cA tS A s m _ meth c := E
  replace hl : lv_has ls 2 [(0, .ref (h 42)), (1, .int x1)] := hl
  have hx := E.1.1
  have hb := E.1.2.1
  unfold f_X1_climbsByItself at hM
  refine lv_aload_n hx hb dX1_climbsByItself_0 rfl (lv_at hl 0 rfl) ?_
  refine q_get (C := RX1) (T := TX1) (N := 6) (ci := 1) E (fun w h => List.mem_cons_of_mem _ (inX1 w h)) hw 12 rfl rfl 1 (by decide) (List.mem_cons_of_mem _ tb_268) (v := .ref (h 40)) rfl dX1_climbsByItself_1 ?_
  refine q_get (C := RX3) (T := TX3) (N := 7) (ci := 3) E (fun w h => List.mem_cons_of_mem _ (inX3 w h)) hw 0 rfl rfl 4 (by decide) (List.mem_cons_of_mem _ tb_121) (v := .ref (h 5)) rfl dX1_climbsByItself_4 ?_
  refine lv_aload_n hx hb dX1_climbsByItself_7 rfl (lv_at hl 0 rfl) ?_
  refine q_get (C := RX1) (T := TX1) (N := 6) (ci := 1) E (fun w h => List.mem_cons_of_mem _ (inX1 w h)) hw 12 rfl rfl 3 (by decide) (List.mem_cons_of_mem _ tb_272) (v := .ref (h 44)) rfl dX1_climbsByItself_8 ?_
  refine q_get (C := RX7) (T := TX7) (N := 15) (ci := 7) E (fun w h => List.mem_cons_of_mem _ (inX7 w h)) hw 16 rfl rfl 0 (by decide) (List.mem_cons_of_mem _ tb_151) (v := .ref (h 16)) rfl dX1_climbsByItself_11 ?_
  refine lv_iload_n hx hb dX1_climbsByItself_14 rfl (lv_at hl 1 rfl) ?_
  obtain ⟨g1, hM⟩ := g_some hM
  refine q_ald E hw 17 (n := 60) rfl g1 (x := (σ 16 (ix x1))) rfl dX1_climbsByItself_15 ?_
  obtain ⟨g2, hM⟩ := g_some hM
  refine q_ald E hw 5 (n := 6) rfl g2 (x := (σ 5 (ix (σ 16 (ix x1))))) rfl dX1_climbsByItself_16 ?_
  refine lv_if_eq (tgt := 37) hx hb dX1_climbsByItself_17 (by decide) (fun c3 => ?_) (fun c3 => ?_)
  · replace hM := i_pos hM c3
    refine lv_iconst (v := 0) hx hb dX1_climbsByItself_37 (by decide) ?_
    cases hM
    exact q_retz E hw (by decide) dX1_climbsByItself_38
  · replace hM := i_neg hM c3
    refine lv_aload_n hx hb dX1_climbsByItself_20 rfl (lv_at hl 0 rfl) ?_
    refine q_get (C := RX1) (T := TX1) (N := 6) (ci := 1) E (fun w h => List.mem_cons_of_mem _ (inX1 w h)) hw 12 rfl rfl 3 (by decide) (List.mem_cons_of_mem _ tb_272) (v := .ref (h 44)) rfl dX1_climbsByItself_21 ?_
    refine q_get (C := RX7) (T := TX7) (N := 15) (ci := 7) E (fun w h => List.mem_cons_of_mem _ (inX7 w h)) hw 16 rfl rfl 4 (by decide) (List.mem_cons_of_mem _ tb_157) (v := .ref (h 20)) rfl dX1_climbsByItself_24 ?_
    refine lv_iload_n hx hb dX1_climbsByItself_27 rfl (lv_at hl 1 rfl) ?_
    refine q_ald E hw 21 (n := 60) rfl g1 (x := (σ 20 (ix x1))) rfl dX1_climbsByItself_28 ?_
    refine lv_iconst (v := 3) hx hb dX1_climbsByItself_29 (by decide) ?_
    refine lv_icmp_ge (tgt := 37) hx hb dX1_climbsByItself_30 (by decide) (fun c4 => ?_) (fun c4 => ?_)
    · replace hM := i_pos hM c4
      refine lv_iconst (v := 0) hx hb dX1_climbsByItself_37 (by decide) ?_
      cases hM
      exact q_retz E hw (by decide) dX1_climbsByItself_38
    · replace hM := i_neg hM c4
      refine lv_iconst (v := 1) hx hb dX1_climbsByItself_33 (by decide) ?_
      refine lv_goto (tgt := 38) hx hb dX1_climbsByItself_34 (by decide) ?_
      cases hM
      exact q_retz E hw (by decide) dX1_climbsByItself_38
set_option maxRecDepth 100000 in
set_option maxHeartbeats 4000000 in
theorem s_X1_minutesToClockEvent_88 (l : Launch) (D : va_G) (cA : Nat → ClassId) (tS : Nat → Nat) (A : Nat → Prop) (h : Nat → Nat) (L : Nat) (F : va_W) {p : Program} {e : Env} {s : State} {m : MethodId} {args : Array Value} {below : List Frame} {meth : Method} {c : Code} (E : Ev p cX1_minutesToClockEvent 4 (some .int) RX1 (Cond.code yX1_minutesToClockEvent cX1_minutesToClockEvent 4 (some .int) :: bw) D cA tS A s m args meth c) : ∀ (x1 : Int32) (x2 : Int32) (x3 : Int32) (σ : Sg) (r0 : Int32) (hM : f_X1_minutesToClockEvent_88 x1 x2 x3 σ = some r0) (H : Heap) (locs : List Loc) (hw : Wd D A (wK cA h σ ++ (wLg cA h σ L ++ (wC cA h σ ++ F))) s.heap H locs) (ls : Array Slot) (hl : lv_has ls 4 [(0, .ref (h 42)), (1, .int x1), (2, .int x2), (3, .int x3)]), W p l e ({ frames := 2, cells := 0, slots := 0, locals := 42 } : Room) s m args below meth c H locs 0 0 (MQ below (QW D A (some (.int r0)) (wK cA h σ ++ (wLg cA h σ L ++ (wC cA h σ ++ F)))) args s 0 0 A) (F0 m 88 ls []) := by
  have hx := E.1.1
  have hb := E.1.2.1
  intro x1 x2 x3 σ r0 hM H locs hw ls hl
  unfold f_X1_minutesToClockEvent_88 at hM
  refine lv_aload_n hx hb dX1_minutesToClockEvent_88 rfl (lv_at hl 0 rfl) ?_
  refine q_get (C := RX1) (T := TX1) (N := 6) (ci := 1) E (fun w h => List.mem_cons_of_mem _ (inX1 w h)) hw 12 rfl rfl 3 (by decide) (List.mem_cons_of_mem _ tb_272) (v := .ref (h 44)) rfl dX1_minutesToClockEvent_89 ?_
  refine q_get (C := RX7) (T := TX7) (N := 15) (ci := 7) E (fun w h => List.mem_cons_of_mem _ (inX7 w h)) hw 16 rfl rfl 5 (by decide) (List.mem_cons_of_mem _ tb_160) (v := .ref (h 21)) rfl dX1_minutesToClockEvent_92 ?_
  refine lv_iload_n hx hb dX1_minutesToClockEvent_95 rfl (lv_at hl 1 rfl) ?_
  obtain ⟨g1, hM⟩ := g_some hM
  refine q_ald E hw 22 (n := 60) rfl g1 (x := (σ 21 (ix x1))) rfl dX1_minutesToClockEvent_96 ?_
  refine lv_if_ne (tgt := 132) hx hb dX1_minutesToClockEvent_97 (by decide) (fun c2 => ?_) (fun c2 => ?_)
  · replace hM := i_neg hM c2
    refine lv_iload_n hx hb dX1_minutesToClockEvent_132 rfl (lv_at hl 3 rfl) ?_
    cases hM
    exact q_reti E hw dX1_minutesToClockEvent_133
  · replace hM := i_pos hM c2
    refine lv_aload_n hx hb dX1_minutesToClockEvent_100 rfl (lv_at hl 0 rfl) ?_
    refine lv_iload_n hx hb dX1_minutesToClockEvent_101 rfl (lv_at hl 1 rfl) ?_
    obtain ⟨p3, h4, hM⟩ := b_some hM
    refine q_cv (As := [.int x1]) (rest := []) E hw hl (c_X1_climbsByItself l D cA tS A h L F x1 σ p3 h4) 1 (bwV bw_c tb_835 tb_837 tb_36 tb_49 tb_838) rfl (by decide +kernel) ⟨Nat.le_of_ble_eq_true rfl, Nat.le_of_ble_eq_true rfl⟩ 12 1 (T := TX1) (N := 6) rfl rfl rfl rfl (Nat.le_of_ble_eq_true rfl) ⟨Nat.zero_le _, Nat.zero_le _⟩ dX1_minutesToClockEvent_102 (fun H locs hw => ?_)
    refine lv_if_eq (tgt := 132) hx hb dX1_minutesToClockEvent_105 (by decide) (fun c5 => ?_) (fun c5 => ?_)
    · replace hM := i_pos hM c5
      refine lv_iload_n hx hb dX1_minutesToClockEvent_132 rfl (lv_at hl 3 rfl) ?_
      cases hM
      exact q_reti E hw dX1_minutesToClockEvent_133
    · replace hM := i_neg hM c5
      refine lv_iload_n hx hb dX1_minutesToClockEvent_108 rfl (lv_at hl 3 rfl) ?_
      refine lv_aload_n hx hb dX1_minutesToClockEvent_109 rfl (lv_at hl 0 rfl) ?_
      refine q_get (C := RX1) (T := TX1) (N := 6) (ci := 1) E (fun w h => List.mem_cons_of_mem _ (inX1 w h)) hw 12 rfl rfl 1 (by decide) (List.mem_cons_of_mem _ tb_268) (v := .ref (h 40)) rfl dX1_minutesToClockEvent_110 ?_
      refine q_get (C := RX3) (T := TX3) (N := 7) (ci := 3) E (fun w h => List.mem_cons_of_mem _ (inX3 w h)) hw 0 rfl rfl 4 (by decide) (List.mem_cons_of_mem _ tb_121) (v := .ref (h 5)) rfl dX1_minutesToClockEvent_113 ?_
      refine lv_iload_n hx hb dX1_minutesToClockEvent_116 rfl (lv_at hl 2 rfl) ?_
      obtain ⟨g6, hM⟩ := g_some hM
      refine q_ald E hw 5 (n := 6) rfl g6 (x := (σ 5 (ix x2))) rfl dX1_minutesToClockEvent_117 ?_
      refine lv_aload_n hx hb dX1_minutesToClockEvent_118 rfl (lv_at hl 0 rfl) ?_
      refine q_get (C := RX1) (T := TX1) (N := 6) (ci := 1) E (fun w h => List.mem_cons_of_mem _ (inX1 w h)) hw 12 rfl rfl 3 (by decide) (List.mem_cons_of_mem _ tb_272) (v := .ref (h 44)) rfl dX1_minutesToClockEvent_119 ?_
      refine q_get (C := RX7) (T := TX7) (N := 15) (ci := 7) E (fun w h => List.mem_cons_of_mem _ (inX7 w h)) hw 16 rfl rfl 7 (by decide) (List.mem_cons_of_mem _ tb_166) (v := .ref (h 23)) rfl dX1_minutesToClockEvent_122 ?_
      refine lv_iload_n hx hb dX1_minutesToClockEvent_125 rfl (lv_at hl 1 rfl) ?_
      refine q_ald E hw 24 (n := 60) rfl g1 (x := (σ 23 (ix x1))) rfl dX1_minutesToClockEvent_126 ?_
      refine lv_isub hx hb dX1_minutesToClockEvent_127 ?_
      refine va_mmin hx hb (E.1.2.2.1.trans hl.1.symm) E.1.2.2.2.1 (E.1.2.2.2.2 _ (List.mem_cons_of_mem _ tb_812)) (E.1.2.2.2.2 _ (List.mem_cons_of_mem _ tb_510)) (E.1.2.2.2.2 _ (List.mem_cons_of_mem _ tb_54)) (E.1.2.2.2.2 _ (List.mem_cons_of_mem _ tb_511)) (Nat.le_of_ble_eq_true rfl) (Nat.le_of_ble_eq_true rfl) (Nat.zero_le _) (Nat.zero_le _) dX1_minutesToClockEvent_128 ?_
      refine lv_istore_n (lv' := [(3, .int (if ((σ 5 (ix x2)) - (σ 23 (ix x1))) < x3 then ((σ 5 (ix x2)) - (σ 23 (ix x1))) else x3)), (0, .ref (h 42)), (1, .int x1), (2, .int x2)]) hx hb dX1_minutesToClockEvent_131 rfl hl (by decide) rfl (fun ls hl => ?_)
      refine lv_iload_n hx hb dX1_minutesToClockEvent_132 rfl (lv_at hl 0 rfl) ?_
      cases hM
      exact q_reti E hw dX1_minutesToClockEvent_133
set_option maxRecDepth 100000 in
set_option maxHeartbeats 4000000 in
theorem s_X1_minutesToClockEvent_51 (l : Launch) (D : va_G) (cA : Nat → ClassId) (tS : Nat → Nat) (A : Nat → Prop) (h : Nat → Nat) (L : Nat) (F : va_W) {p : Program} {e : Env} {s : State} {m : MethodId} {args : Array Value} {below : List Frame} {meth : Method} {c : Code} (E : Ev p cX1_minutesToClockEvent 4 (some .int) RX1 (Cond.code yX1_minutesToClockEvent cX1_minutesToClockEvent 4 (some .int) :: bw) D cA tS A s m args meth c) : ∀ (x1 : Int32) (x2 : Int32) (x3 : Int32) (σ : Sg) (r0 : Int32) (hM : f_X1_minutesToClockEvent_51 x1 x2 x3 σ = some r0) (H : Heap) (locs : List Loc) (hw : Wd D A (wK cA h σ ++ (wLg cA h σ L ++ (wC cA h σ ++ F))) s.heap H locs) (ls : Array Slot) (hl : lv_has ls 4 [(0, .ref (h 42)), (1, .int x1), (2, .int x2), (3, .int x3)]), W p l e ({ frames := 2, cells := 0, slots := 0, locals := 42 } : Room) s m args below meth c H locs 0 0 (MQ below (QW D A (some (.int r0)) (wK cA h σ ++ (wLg cA h σ L ++ (wC cA h σ ++ F)))) args s 0 0 A) (F0 m 51 ls []) := by
  have hx := E.1.1
  have hb := E.1.2.1
  intro x1 x2 x3 σ r0 hM H locs hw ls hl
  unfold f_X1_minutesToClockEvent_51 at hM
  refine lv_aload_n hx hb dX1_minutesToClockEvent_51 rfl (lv_at hl 0 rfl) ?_
  refine q_get (C := RX1) (T := TX1) (N := 6) (ci := 1) E (fun w h => List.mem_cons_of_mem _ (inX1 w h)) hw 12 rfl rfl 3 (by decide) (List.mem_cons_of_mem _ tb_272) (v := .ref (h 44)) rfl dX1_minutesToClockEvent_52 ?_
  refine lv_iload_n hx hb dX1_minutesToClockEvent_55 rfl (lv_at hl 1 rfl) ?_
  obtain ⟨p1, h2, hM⟩ := b_some hM
  refine q_cv (As := [.int x1]) (rest := []) E hw hl (c_X7_resolveRuns l D cA tS A h L F x1 σ p1 h2) 1 (bwV bw_c tb_830 tb_831 tb_832 tb_52 tb_833) rfl (by decide +kernel) ⟨Nat.le_of_ble_eq_true rfl, Nat.le_of_ble_eq_true rfl⟩ 16 7 (T := TX7) (N := 15) rfl rfl rfl rfl (Nat.le_of_ble_eq_true rfl) ⟨Nat.zero_le _, Nat.zero_le _⟩ dX1_minutesToClockEvent_56 (fun H locs hw => ?_)
  refine lv_if_eq (tgt := 88) hx hb dX1_minutesToClockEvent_59 (by decide) (fun c3 => ?_) (fun c3 => ?_)
  · replace hM := i_pos hM c3
    exact s_X1_minutesToClockEvent_88 l D cA tS A h L F E _ _ _ _ _ hM _ _ hw _ (lv_sub hl [0, 1, 2, 3] rfl)
  · replace hM := i_neg hM c3
    refine lv_iload_n hx hb dX1_minutesToClockEvent_62 rfl (lv_at hl 3 rfl) ?_
    refine lv_aload_n hx hb dX1_minutesToClockEvent_63 rfl (lv_at hl 0 rfl) ?_
    refine q_get (C := RX1) (T := TX1) (N := 6) (ci := 1) E (fun w h => List.mem_cons_of_mem _ (inX1 w h)) hw 12 rfl rfl 3 (by decide) (List.mem_cons_of_mem _ tb_272) (v := .ref (h 44)) rfl dX1_minutesToClockEvent_64 ?_
    refine q_get (C := RX7) (T := TX7) (N := 15) (ci := 7) E (fun w h => List.mem_cons_of_mem _ (inX7 w h)) hw 16 rfl rfl 9 (by decide) (List.mem_cons_of_mem _ tb_171) (v := .ref (h 25)) rfl dX1_minutesToClockEvent_67 ?_
    refine lv_iload_n hx hb dX1_minutesToClockEvent_70 rfl (lv_at hl 1 rfl) ?_
    obtain ⟨g4, hM⟩ := g_some hM
    refine q_ald E hw 26 (n := 60) rfl g4 (x := (σ 25 (ix x1))) rfl dX1_minutesToClockEvent_71 ?_
    refine lv_aload_n hx hb dX1_minutesToClockEvent_72 rfl (lv_at hl 0 rfl) ?_
    refine q_get (C := RX1) (T := TX1) (N := 6) (ci := 1) E (fun w h => List.mem_cons_of_mem _ (inX1 w h)) hw 12 rfl rfl 1 (by decide) (List.mem_cons_of_mem _ tb_268) (v := .ref (h 40)) rfl dX1_minutesToClockEvent_73 ?_
    refine q_get (C := RX3) (T := TX3) (N := 7) (ci := 3) E (fun w h => List.mem_cons_of_mem _ (inX3 w h)) hw 0 rfl rfl 1 (by decide) (List.mem_cons_of_mem _ tb_115) (v := .ref (h 2)) rfl dX1_minutesToClockEvent_76 ?_
    refine lv_iload_n hx hb dX1_minutesToClockEvent_79 rfl (lv_at hl 2 rfl) ?_
    obtain ⟨g5, hM⟩ := g_some hM
    refine q_ald E hw 2 (n := 6) rfl g5 (x := (σ 2 (ix x2))) rfl dX1_minutesToClockEvent_80 ?_
    obtain ⟨p6, h7, hM⟩ := b_some hM
    refine q_cs (As := [.int (σ 25 (ix x1)), .int (σ 2 (ix x2))]) (rest := [.int x3]) E hw hl (c_X1_minutesToBreach l D cA tS A (wK cA h σ ++ (wLg cA h σ L ++ (wC cA h σ ++ F))) (σ 25 (ix x1)) (σ 2 (ix x2)) p6 h7) 2 (bwS bw_c tb_827 tb_828 tb_49 tb_829) rfl (by decide +kernel) ⟨Nat.le_of_ble_eq_true rfl, Nat.le_of_ble_eq_true rfl⟩ rfl rfl (Nat.le_of_ble_eq_true rfl) ⟨Nat.zero_le _, Nat.zero_le _⟩ dX1_minutesToClockEvent_81 (fun H locs hw => ?_)
    refine va_mmin hx hb (E.1.2.2.1.trans hl.1.symm) E.1.2.2.2.1 (E.1.2.2.2.2 _ (List.mem_cons_of_mem _ tb_812)) (E.1.2.2.2.2 _ (List.mem_cons_of_mem _ tb_510)) (E.1.2.2.2.2 _ (List.mem_cons_of_mem _ tb_54)) (E.1.2.2.2.2 _ (List.mem_cons_of_mem _ tb_511)) (Nat.le_of_ble_eq_true rfl) (Nat.le_of_ble_eq_true rfl) (Nat.zero_le _) (Nat.zero_le _) dX1_minutesToClockEvent_84 ?_
    refine lv_istore_n (lv' := [(3, .int (if p6 < x3 then p6 else x3)), (0, .ref (h 42)), (1, .int x1), (2, .int x2)]) hx hb dX1_minutesToClockEvent_87 rfl hl (by decide) rfl (fun ls hl => ?_)
    exact s_X1_minutesToClockEvent_88 l D cA tS A h L F E _ _ _ _ _ hM _ _ hw _ (lv_sub hl [1, 2, 3, 0] rfl)
set_option maxRecDepth 100000 in
set_option maxHeartbeats 4000000 in
theorem c_X1_minutesToClockEvent (l : Launch) (D : va_G) (cA : Nat → ClassId) (tS : Nat → Nat) (A : Nat → Prop) (h : Nat → Nat) (L : Nat) (F : va_W) (x1 : Int32) (σ : Sg) (r0 : Int32) (hM : f_X1_minutesToClockEvent x1 σ = some r0) : Ct l yX1_minutesToClockEvent (Cond.code yX1_minutesToClockEvent cX1_minutesToClockEvent 4 (some .int) :: bw) 2 42 D cA tS A [.ref (h 42), .int x1] (wK cA h σ ++ (wLg cA h σ L ++ (wC cA h σ ++ F))) (some (.int r0)) (wK cA h σ ++ (wLg cA h σ L ++ (wC cA h σ ++ F))) := by
  refine ct_of (by decide +kernel) (Nat.le_of_ble_eq_true rfl) ?_
  intro p e s m below meth c E hw ls hl
  replace E : Ev p cX1_minutesToClockEvent 4 (some .int) RX1 (Cond.code yX1_minutesToClockEvent cX1_minutesToClockEvent 4 (some .int) :: bw) D cA tS A s m _ meth c := E
  replace hl : lv_has ls 4 [(0, .ref (h 42)), (1, .int x1)] := hl
  have hx := E.1.1
  have hb := E.1.2.1
  unfold f_X1_minutesToClockEvent at hM
  refine lv_aload_n hx hb dX1_minutesToClockEvent_0 rfl (lv_at hl 0 rfl) ?_
  refine q_get (C := RX1) (T := TX1) (N := 6) (ci := 1) E (fun w h => List.mem_cons_of_mem _ (inX1 w h)) hw 12 rfl rfl 3 (by decide) (List.mem_cons_of_mem _ tb_272) (v := .ref (h 44)) rfl dX1_minutesToClockEvent_1 ?_
  refine q_get (C := RX7) (T := TX7) (N := 15) (ci := 7) E (fun w h => List.mem_cons_of_mem _ (inX7 w h)) hw 16 rfl rfl 0 (by decide) (List.mem_cons_of_mem _ tb_151) (v := .ref (h 16)) rfl dX1_minutesToClockEvent_4 ?_
  refine lv_iload_n hx hb dX1_minutesToClockEvent_7 rfl (lv_at hl 1 rfl) ?_
  obtain ⟨g1, hM⟩ := g_some hM
  refine q_ald E hw 17 (n := 60) rfl g1 (x := (σ 16 (ix x1))) rfl dX1_minutesToClockEvent_8 ?_
  refine lv_istore_n (lv' := [(2, .int (σ 16 (ix x1))), (0, .ref (h 42)), (1, .int x1)]) hx hb dX1_minutesToClockEvent_9 rfl hl (by decide) rfl (fun ls hl => ?_)
  refine lv_sipush (v := 10080) hx hb dX1_minutesToClockEvent_10 (by decide) ?_
  refine lv_istore_n (lv' := [(3, .int 10080), (2, .int (σ 16 (ix x1))), (0, .ref (h 42)), (1, .int x1)]) hx hb dX1_minutesToClockEvent_13 rfl hl (by decide) rfl (fun ls hl => ?_)
  refine lv_aload_n hx hb dX1_minutesToClockEvent_14 rfl (lv_at hl 2 rfl) ?_
  refine q_get (C := RX1) (T := TX1) (N := 6) (ci := 1) E (fun w h => List.mem_cons_of_mem _ (inX1 w h)) hw 12 rfl rfl 3 (by decide) (List.mem_cons_of_mem _ tb_272) (v := .ref (h 44)) rfl dX1_minutesToClockEvent_15 ?_
  refine lv_iload_n hx hb dX1_minutesToClockEvent_18 rfl (lv_at hl 3 rfl) ?_
  obtain ⟨p2, h3, hM⟩ := b_some hM
  refine q_cv (As := [.int x1]) (rest := []) E hw hl (c_X7_responseRuns l D cA tS A h L F x1 σ p2 h3) 1 (bwV bw_c tb_821 tb_822 tb_823 tb_52 tb_824) rfl (by decide +kernel) ⟨Nat.le_of_ble_eq_true rfl, Nat.le_of_ble_eq_true rfl⟩ 16 7 (T := TX7) (N := 15) rfl rfl rfl rfl (Nat.le_of_ble_eq_true rfl) ⟨Nat.zero_le _, Nat.zero_le _⟩ dX1_minutesToClockEvent_19 (fun H locs hw => ?_)
  refine lv_if_eq (tgt := 51) hx hb dX1_minutesToClockEvent_22 (by decide) (fun c4 => ?_) (fun c4 => ?_)
  · replace hM := i_pos hM c4
    exact s_X1_minutesToClockEvent_51 l D cA tS A h L F E _ _ _ _ _ hM _ _ hw _ (lv_sub hl [2, 3, 1, 0] rfl)
  · replace hM := i_neg hM c4
    refine lv_iload_n hx hb dX1_minutesToClockEvent_25 rfl (lv_at hl 0 rfl) ?_
    refine lv_aload_n hx hb dX1_minutesToClockEvent_26 rfl (lv_at hl 2 rfl) ?_
    refine q_get (C := RX1) (T := TX1) (N := 6) (ci := 1) E (fun w h => List.mem_cons_of_mem _ (inX1 w h)) hw 12 rfl rfl 3 (by decide) (List.mem_cons_of_mem _ tb_272) (v := .ref (h 44)) rfl dX1_minutesToClockEvent_27 ?_
    refine q_get (C := RX7) (T := TX7) (N := 15) (ci := 7) E (fun w h => List.mem_cons_of_mem _ (inX7 w h)) hw 16 rfl rfl 8 (by decide) (List.mem_cons_of_mem _ tb_168) (v := .ref (h 24)) rfl dX1_minutesToClockEvent_30 ?_
    refine lv_iload_n hx hb dX1_minutesToClockEvent_33 rfl (lv_at hl 3 rfl) ?_
    refine q_ald E hw 25 (n := 60) rfl g1 (x := (σ 24 (ix x1))) rfl dX1_minutesToClockEvent_34 ?_
    refine lv_aload_n hx hb dX1_minutesToClockEvent_35 rfl (lv_at hl 2 rfl) ?_
    refine q_get (C := RX1) (T := TX1) (N := 6) (ci := 1) E (fun w h => List.mem_cons_of_mem _ (inX1 w h)) hw 12 rfl rfl 1 (by decide) (List.mem_cons_of_mem _ tb_268) (v := .ref (h 40)) rfl dX1_minutesToClockEvent_36 ?_
    refine q_get (C := RX3) (T := TX3) (N := 7) (ci := 3) E (fun w h => List.mem_cons_of_mem _ (inX3 w h)) hw 0 rfl rfl 0 (by decide) (List.mem_cons_of_mem _ tb_113) (v := .ref (h 1)) rfl dX1_minutesToClockEvent_39 ?_
    refine lv_iload_n hx hb dX1_minutesToClockEvent_42 rfl (lv_at hl 1 rfl) ?_
    obtain ⟨g5, hM⟩ := g_some hM
    refine q_ald E hw 1 (n := 6) rfl g5 (x := (σ 1 (ix (σ 16 (ix x1))))) rfl dX1_minutesToClockEvent_43 ?_
    obtain ⟨p6, h7, hM⟩ := b_some hM
    refine q_cs (As := [.int (σ 24 (ix x1)), .int (σ 1 (ix (σ 16 (ix x1))))]) (rest := [.int 10080]) E hw hl (c_X1_minutesToBreach l D cA tS A (wK cA h σ ++ (wLg cA h σ L ++ (wC cA h σ ++ F))) (σ 24 (ix x1)) (σ 1 (ix (σ 16 (ix x1)))) p6 h7) 2 (bwS bw_c tb_827 tb_828 tb_49 tb_829) rfl (by decide +kernel) ⟨Nat.le_of_ble_eq_true rfl, Nat.le_of_ble_eq_true rfl⟩ rfl rfl (Nat.le_of_ble_eq_true rfl) ⟨Nat.zero_le _, Nat.zero_le _⟩ dX1_minutesToClockEvent_44 (fun H locs hw => ?_)
    refine va_mmin hx hb (E.1.2.2.1.trans hl.1.symm) E.1.2.2.2.1 (E.1.2.2.2.2 _ (List.mem_cons_of_mem _ tb_812)) (E.1.2.2.2.2 _ (List.mem_cons_of_mem _ tb_510)) (E.1.2.2.2.2 _ (List.mem_cons_of_mem _ tb_54)) (E.1.2.2.2.2 _ (List.mem_cons_of_mem _ tb_511)) (Nat.le_of_ble_eq_true rfl) (Nat.le_of_ble_eq_true rfl) (Nat.zero_le _) (Nat.zero_le _) dX1_minutesToClockEvent_47 ?_
    refine lv_istore_n (lv' := [(3, .int (if p6 < 10080 then p6 else 10080)), (2, .int (σ 16 (ix x1))), (0, .ref (h 42)), (1, .int x1)]) hx hb dX1_minutesToClockEvent_50 rfl hl (by decide) rfl (fun ls hl => ?_)
    exact s_X1_minutesToClockEvent_51 l D cA tS A h L F E _ _ _ _ _ hM _ _ hw _ (lv_sub hl [2, 3, 1, 0] rfl)
set_option maxRecDepth 100000 in
set_option maxHeartbeats 4000000 in
theorem s_X1_stretch_57 (l : Launch) (D : va_G) (cA : Nat → ClassId) (tS : Nat → Nat) (A : Nat → Prop) (h : Nat → Nat) (L : Nat) (F : va_W) (N : Nat) (k24 : Int32 → Int32 → Int32 → Sg → Option (Int32)) {p : Program} {e : Env} {s : State} {m : MethodId} {args : Array Value} {below : List Frame} {meth : Method} {c : Code} (E : Ev p cX1_stretch 5 (some .int) RX1 (Cond.code yX1_stretch cX1_stretch 5 (some .int) :: bw) D cA tS A s m args meth c) (hk24 : ∀ (x2 : Int32) (x3 : Int32) (x4 : Int32) (σ : Sg) (r0 : Int32) (hM : k24 x2 x3 x4 σ = some r0) (H : Heap) (locs : List Loc) (hw : Wd D A (wK cA h σ ++ (wLg cA h σ L ++ (wC cA h σ ++ F))) s.heap H locs) (ls : Array Slot) (hl : lv_has ls 5 [(0, .ref (h 42)), (2, .int x2), (3, .int x3), (4, .int x4)]), W p l e ({ frames := 3, cells := 0, slots := 0, locals := 65 } : Room) s m args below meth c H locs 0 0 (MQ below (QW D A (some (.int r0)) (wK cA h σ ++ (wLg cA h σ L ++ (wC cA h σ ++ F)))) args s 0 0 A) (F0 m 24 ls [])) : ∀ (x2 : Int32) (x3 : Int32) (x4 : Int32) (σ : Sg) (r0 : Int32) (hM : f_X1_stretch_57 N k24 x2 x3 x4 σ = some r0) (H : Heap) (locs : List Loc) (hw : Wd D A (wK cA h σ ++ (wLg cA h σ L ++ (wC cA h σ ++ F))) s.heap H locs) (ls : Array Slot) (hl : lv_has ls 5 [(0, .ref (h 42)), (2, .int x2), (3, .int x3), (4, .int x4)]), W p l e ({ frames := 3, cells := 0, slots := 0, locals := 65 } : Room) s m args below meth c H locs 0 0 (MQ below (QW D A (some (.int r0)) (wK cA h σ ++ (wLg cA h σ L ++ (wC cA h σ ++ F)))) args s 0 0 A) (F0 m 57 ls []) := by
  have hx := E.1.1
  have hb := E.1.2.1
  intro x2 x3 x4 σ r0 hM H locs hw ls hl
  unfold f_X1_stretch_57 at hM
  refine lv_iload_n hx hb dX1_stretch_57 rfl (lv_at hl 1 rfl) ?_
  refine lv_if_eq (tgt := 109) hx hb dX1_stretch_58 (by decide) (fun c1 => ?_) (fun c1 => ?_)
  · replace hM := i_pos hM c1
    refine lv_iinc (v := (x4 + 1)) (lv' := [(4, .int (x4 + 1)), (0, .ref (h 42)), (2, .int x2), (3, .int x3)]) hx hb dX1_stretch_109 hl (k := 3) rfl rfl (by decide) rfl (fun ls hl => ?_)
    refine lv_goto (tgt := 24) hx hb dX1_stretch_112 (by decide) ?_
    exact hk24 _ _ _ _ _ hM _ _ hw _ (lv_sub hl [1, 2, 3, 0] rfl)
  · replace hM := i_neg hM c1
    refine lv_aload_n hx hb dX1_stretch_61 rfl (lv_at hl 0 rfl) ?_
    refine q_get (C := RX1) (T := TX1) (N := 6) (ci := 1) E (fun w h => List.mem_cons_of_mem _ (inX1 w h)) hw 12 rfl rfl 3 (by decide) (List.mem_cons_of_mem _ tb_272) (v := .ref (h 44)) rfl dX1_stretch_62 ?_
    refine q_get (C := RX7) (T := TX7) (N := 15) (ci := 7) E (fun w h => List.mem_cons_of_mem _ (inX7 w h)) hw 16 rfl rfl 5 (by decide) (List.mem_cons_of_mem _ tb_160) (v := .ref (h 21)) rfl dX1_stretch_65 ?_
    refine lv_iload hx hb dX1_stretch_68 (lv_at hl 3 rfl) ?_
    obtain ⟨g2, hM⟩ := g_some hM
    refine q_ald E hw 22 (n := 60) rfl g2 (x := (σ 21 (ix x4))) rfl dX1_stretch_70 ?_
    refine lv_iconst (v := 1) hx hb dX1_stretch_71 (by decide) ?_
    refine lv_icmp_ne (tgt := 109) hx hb dX1_stretch_72 (by decide) (fun c3 => ?_) (fun c3 => ?_)
    · replace hM := i_neg hM c3
      refine lv_iinc (v := (x4 + 1)) (lv' := [(4, .int (x4 + 1)), (0, .ref (h 42)), (2, .int x2), (3, .int x3)]) hx hb dX1_stretch_109 hl (k := 3) rfl rfl (by decide) rfl (fun ls hl => ?_)
      refine lv_goto (tgt := 24) hx hb dX1_stretch_112 (by decide) ?_
      exact hk24 _ _ _ _ _ hM _ _ hw _ (lv_sub hl [1, 2, 3, 0] rfl)
    · replace hM := i_pos hM c3
      refine lv_iload_n hx hb dX1_stretch_75 rfl (lv_at hl 2 rfl) ?_
      refine lv_aload_n hx hb dX1_stretch_76 rfl (lv_at hl 0 rfl) ?_
      refine q_get (C := RX1) (T := TX1) (N := 6) (ci := 1) E (fun w h => List.mem_cons_of_mem _ (inX1 w h)) hw 12 rfl rfl 1 (by decide) (List.mem_cons_of_mem _ tb_268) (v := .ref (h 40)) rfl dX1_stretch_77 ?_
      refine q_get (C := RX3) (T := TX3) (N := 7) (ci := 3) E (fun w h => List.mem_cons_of_mem _ (inX3 w h)) hw 0 rfl rfl 2 (by decide) (List.mem_cons_of_mem _ tb_117) (v := .ref (h 3)) rfl dX1_stretch_80 ?_
      refine lv_aload_n hx hb dX1_stretch_83 rfl (lv_at hl 0 rfl) ?_
      refine q_get (C := RX1) (T := TX1) (N := 6) (ci := 1) E (fun w h => List.mem_cons_of_mem _ (inX1 w h)) hw 12 rfl rfl 3 (by decide) (List.mem_cons_of_mem _ tb_272) (v := .ref (h 44)) rfl dX1_stretch_84 ?_
      refine q_get (C := RX7) (T := TX7) (N := 15) (ci := 7) E (fun w h => List.mem_cons_of_mem _ (inX7 w h)) hw 16 rfl rfl 0 (by decide) (List.mem_cons_of_mem _ tb_151) (v := .ref (h 16)) rfl dX1_stretch_87 ?_
      refine lv_iload hx hb dX1_stretch_90 (lv_at hl 3 rfl) ?_
      refine q_ald E hw 17 (n := 60) rfl g2 (x := (σ 16 (ix x4))) rfl dX1_stretch_92 ?_
      obtain ⟨g4, hM⟩ := g_some hM
      refine q_ald E hw 3 (n := 6) rfl g4 (x := (σ 3 (ix (σ 16 (ix x4))))) rfl dX1_stretch_93 ?_
      refine lv_aload_n hx hb dX1_stretch_94 rfl (lv_at hl 0 rfl) ?_
      refine q_get (C := RX1) (T := TX1) (N := 6) (ci := 1) E (fun w h => List.mem_cons_of_mem _ (inX1 w h)) hw 12 rfl rfl 3 (by decide) (List.mem_cons_of_mem _ tb_272) (v := .ref (h 44)) rfl dX1_stretch_95 ?_
      refine q_get (C := RX7) (T := TX7) (N := 15) (ci := 7) E (fun w h => List.mem_cons_of_mem _ (inX7 w h)) hw 16 rfl rfl 6 (by decide) (List.mem_cons_of_mem _ tb_163) (v := .ref (h 22)) rfl dX1_stretch_98 ?_
      refine lv_iload hx hb dX1_stretch_101 (lv_at hl 3 rfl) ?_
      refine q_ald E hw 23 (n := 60) rfl g2 (x := (σ 22 (ix x4))) rfl dX1_stretch_103 ?_
      refine lv_isub hx hb dX1_stretch_104 ?_
      refine va_mmin hx hb (E.1.2.2.1.trans hl.1.symm) E.1.2.2.2.1 (E.1.2.2.2.2 _ (List.mem_cons_of_mem _ tb_812)) (E.1.2.2.2.2 _ (List.mem_cons_of_mem _ tb_510)) (E.1.2.2.2.2 _ (List.mem_cons_of_mem _ tb_54)) (E.1.2.2.2.2 _ (List.mem_cons_of_mem _ tb_511)) (Nat.le_of_ble_eq_true rfl) (Nat.le_of_ble_eq_true rfl) (Nat.zero_le _) (Nat.zero_le _) dX1_stretch_105 ?_
      refine lv_istore_n (lv' := [(3, .int (if ((σ 3 (ix (σ 16 (ix x4)))) - (σ 22 (ix x4))) < x3 then ((σ 3 (ix (σ 16 (ix x4)))) - (σ 22 (ix x4))) else x3)), (0, .ref (h 42)), (2, .int x2), (4, .int x4)]) hx hb dX1_stretch_108 rfl hl (by decide) rfl (fun ls hl => ?_)
      refine lv_iinc (v := (x4 + 1)) (lv' := [(4, .int (x4 + 1)), (3, .int (if ((σ 3 (ix (σ 16 (ix x4)))) - (σ 22 (ix x4))) < x3 then ((σ 3 (ix (σ 16 (ix x4)))) - (σ 22 (ix x4))) else x3)), (0, .ref (h 42)), (2, .int x2)]) hx hb dX1_stretch_109 hl (k := 3) rfl rfl (by decide) rfl (fun ls hl => ?_)
      refine lv_goto (tgt := 24) hx hb dX1_stretch_112 (by decide) ?_
      exact hk24 _ _ _ _ _ hM _ _ hw _ (lv_sub hl [2, 3, 1, 0] rfl)
set_option maxRecDepth 100000 in
set_option maxHeartbeats 4000000 in
theorem s_X1_stretch_24 (l : Launch) (D : va_G) (cA : Nat → ClassId) (tS : Nat → Nat) (A : Nat → Prop) (h : Nat → Nat) (L : Nat) (F : va_W) (N : Nat) {p : Program} {e : Env} {s : State} {m : MethodId} {args : Array Value} {below : List Frame} {meth : Method} {c : Code} (E : Ev p cX1_stretch 5 (some .int) RX1 (Cond.code yX1_stretch cX1_stretch 5 (some .int) :: bw) D cA tS A s m args meth c) : ∀ (n : Nat) (x2 : Int32) (x3 : Int32) (x4 : Int32) (σ : Sg) (r0 : Int32) (hM : f_X1_stretch_24 N n x2 x3 x4 σ = some r0) (H : Heap) (locs : List Loc) (hw : Wd D A (wK cA h σ ++ (wLg cA h σ L ++ (wC cA h σ ++ F))) s.heap H locs) (ls : Array Slot) (hl : lv_has ls 5 [(0, .ref (h 42)), (2, .int x2), (3, .int x3), (4, .int x4)]), W p l e ({ frames := 3, cells := 0, slots := 0, locals := 65 } : Room) s m args below meth c H locs 0 0 (MQ below (QW D A (some (.int r0)) (wK cA h σ ++ (wLg cA h σ L ++ (wC cA h σ ++ F)))) args s 0 0 A) (F0 m 24 ls []) := by
  have hx := E.1.1
  have hb := E.1.2.1
  intro n
  induction n with
  | zero =>
    intro x2 x3 x4 σ r0 hM
    cases hM
  | succ n ih =>
    intro x2 x3 x4 σ r0 hM H locs hw ls hl
    rw [f_X1_stretch_24] at hM
    refine lv_iload hx hb dX1_stretch_24 (lv_at hl 3 rfl) ?_
    refine lv_aload_n hx hb dX1_stretch_26 rfl (lv_at hl 0 rfl) ?_
    refine q_get (C := RX1) (T := TX1) (N := 6) (ci := 1) E (fun w h => List.mem_cons_of_mem _ (inX1 w h)) hw 12 rfl rfl 3 (by decide) (List.mem_cons_of_mem _ tb_272) (v := .ref (h 44)) rfl dX1_stretch_27 ?_
    refine q_get (C := RX7) (T := TX7) (N := 15) (ci := 7) E (fun w h => List.mem_cons_of_mem _ (inX7 w h)) hw 16 rfl rfl 14 (by decide) (List.mem_cons_of_mem _ tb_185) (v := .int (σ 15 0)) rfl dX1_stretch_30 ?_
    refine lv_icmp_ge (tgt := 115) hx hb dX1_stretch_33 (by decide) (fun c1 => ?_) (fun c1 => ?_)
    · replace hM := i_pos hM c1
      refine lv_iconst (v := 1) hx hb dX1_stretch_115 (by decide) ?_
      refine lv_iload_n hx hb dX1_stretch_116 rfl (lv_at hl 2 rfl) ?_
      refine va_mmax hx hb (E.1.2.2.1.trans hl.1.symm) E.1.2.2.2.1 (E.1.2.2.2.2 _ (List.mem_cons_of_mem _ tb_839)) (E.1.2.2.2.2 _ (List.mem_cons_of_mem _ tb_225)) (E.1.2.2.2.2 _ (List.mem_cons_of_mem _ tb_54)) (E.1.2.2.2.2 _ (List.mem_cons_of_mem _ tb_226)) (Nat.le_of_ble_eq_true rfl) (Nat.le_of_ble_eq_true rfl) (Nat.zero_le _) (Nat.zero_le _) dX1_stretch_117 ?_
      cases hM
      exact q_reti E hw dX1_stretch_120
    · replace hM := i_neg hM c1
      refine lv_aload_n hx hb dX1_stretch_36 rfl (lv_at hl 0 rfl) ?_
      refine lv_iload hx hb dX1_stretch_37 (lv_at hl 3 rfl) ?_
      refine lv_iload_n hx hb dX1_stretch_39 rfl (lv_at hl 1 rfl) ?_
      obtain ⟨p2, h3, hM⟩ := b_some hM
      refine q_cv (As := [.int x4, .int x2]) (rest := []) E hw hl (c_X1_counts l D cA tS A h L F x4 x2 σ p2 h3) 2 (bwV bw_c tb_813 tb_815 tb_34 tb_49 tb_816) rfl (by decide +kernel) ⟨Nat.le_of_ble_eq_true rfl, Nat.le_of_ble_eq_true rfl⟩ 12 1 (T := TX1) (N := 6) rfl rfl rfl rfl (Nat.le_of_ble_eq_true rfl) ⟨Nat.zero_le _, Nat.zero_le _⟩ dX1_stretch_40 (fun H locs hw => ?_)
      refine lv_if_eq (tgt := 57) hx hb dX1_stretch_43 (by decide) (fun c4 => ?_) (fun c4 => ?_)
      · replace hM := i_pos hM c4
        exact s_X1_stretch_57 l D cA tS A h L F N (fun x2 x3 x4 σ => f_X1_stretch_24 N n x2 x3 x4 σ) E ih _ _ _ _ _ hM _ _ hw _ (lv_sub hl [0, 1, 2, 3] rfl)
      · replace hM := i_neg hM c4
        refine lv_iload_n hx hb dX1_stretch_46 rfl (lv_at hl 2 rfl) ?_
        refine lv_aload_n hx hb dX1_stretch_47 rfl (lv_at hl 0 rfl) ?_
        refine lv_iload hx hb dX1_stretch_48 (lv_at hl 3 rfl) ?_
        obtain ⟨p5, h6, hM⟩ := b_some hM
        refine q_cv (As := [.int x4]) (rest := [.int x3]) E hw hl (c_X1_minutesToClockEvent l D cA tS A h L F x4 σ p5 h6) 1 (bwV bw_c tb_817 tb_819 tb_35 tb_49 tb_820) rfl (by decide +kernel) ⟨Nat.le_of_ble_eq_true rfl, Nat.le_of_ble_eq_true rfl⟩ 12 1 (T := TX1) (N := 6) rfl rfl rfl rfl (Nat.le_of_ble_eq_true rfl) ⟨Nat.zero_le _, Nat.zero_le _⟩ dX1_stretch_50 (fun H locs hw => ?_)
        refine va_mmin hx hb (E.1.2.2.1.trans hl.1.symm) E.1.2.2.2.1 (E.1.2.2.2.2 _ (List.mem_cons_of_mem _ tb_812)) (E.1.2.2.2.2 _ (List.mem_cons_of_mem _ tb_510)) (E.1.2.2.2.2 _ (List.mem_cons_of_mem _ tb_54)) (E.1.2.2.2.2 _ (List.mem_cons_of_mem _ tb_511)) (Nat.le_of_ble_eq_true rfl) (Nat.le_of_ble_eq_true rfl) (Nat.zero_le _) (Nat.zero_le _) dX1_stretch_53 ?_
        refine lv_istore_n (lv' := [(3, .int (if p5 < x3 then p5 else x3)), (0, .ref (h 42)), (2, .int x2), (4, .int x4)]) hx hb dX1_stretch_56 rfl hl (by decide) rfl (fun ls hl => ?_)
        exact s_X1_stretch_57 l D cA tS A h L F N (fun x2 x3 x4 σ => f_X1_stretch_24 N n x2 x3 x4 σ) E ih _ _ _ _ _ hM _ _ hw _ (lv_sub hl [1, 2, 0, 3] rfl)
set_option maxRecDepth 100000 in
set_option maxHeartbeats 4000000 in
theorem c_X1_stretch (l : Launch) (D : va_G) (cA : Nat → ClassId) (tS : Nat → Nat) (A : Nat → Prop) (h : Nat → Nat) (L : Nat) (F : va_W) (N : Nat) (x1 : Int32) (x2 : Int32) (σ : Sg) (r0 : Int32) (hM : f_X1_stretch N x1 x2 σ = some r0) : Ct l yX1_stretch (Cond.code yX1_stretch cX1_stretch 5 (some .int) :: bw) 3 65 D cA tS A [.ref (h 42), .int x1, .int x2] (wK cA h σ ++ (wLg cA h σ L ++ (wC cA h σ ++ F))) (some (.int r0)) (wK cA h σ ++ (wLg cA h σ L ++ (wC cA h σ ++ F))) := by
  refine ct_of (by decide +kernel) (Nat.le_of_ble_eq_true rfl) ?_
  intro p e s m below meth c E hw ls hl
  replace E : Ev p cX1_stretch 5 (some .int) RX1 (Cond.code yX1_stretch cX1_stretch 5 (some .int) :: bw) D cA tS A s m _ meth c := E
  replace hl : lv_has ls 5 [(0, .ref (h 42)), (1, .int x1), (2, .int x2)] := hl
  have hx := E.1.1
  have hb := E.1.2.1
  unfold f_X1_stretch at hM
  refine lv_iload_n hx hb dX1_stretch_0 rfl (lv_at hl 1 rfl) ?_
  refine lv_aload_n hx hb dX1_stretch_1 rfl (lv_at hl 0 rfl) ?_
  refine q_get (C := RX1) (T := TX1) (N := 6) (ci := 1) E (fun w h => List.mem_cons_of_mem _ (inX1 w h)) hw 12 rfl rfl 0 (by decide) (List.mem_cons_of_mem _ tb_266) (v := .ref (h 43)) rfl dX1_stretch_2 ?_
  refine lv_aload_n hx hb dX1_stretch_5 rfl (lv_at hl 0 rfl) ?_
  refine q_get (C := RX1) (T := TX1) (N := 6) (ci := 1) E (fun w h => List.mem_cons_of_mem _ (inX1 w h)) hw 12 rfl rfl 5 (by decide) (List.mem_cons_of_mem _ tb_276) (v := .int (σ 12 0)) rfl dX1_stretch_6 ?_
  obtain ⟨p1, h2, hM⟩ := b_some hM
  refine q_cv (As := [.int (σ 12 0)]) (rest := [.int x1]) E hw hl (c_X0_alikeUntil l D cA tS A h L F (σ 12 0) σ p1 h2) 1 (bwV bw_c tb_808 tb_809 tb_810 tb_50 tb_811) rfl (by decide +kernel) ⟨Nat.le_of_ble_eq_true rfl, Nat.le_of_ble_eq_true rfl⟩ 13 0 (T := TX0) (N := 2) rfl rfl rfl rfl (Nat.le_of_ble_eq_true rfl) ⟨Nat.zero_le _, Nat.zero_le _⟩ dX1_stretch_9 (fun H locs hw => ?_)
  refine va_mmin hx hb (E.1.2.2.1.trans hl.1.symm) E.1.2.2.2.1 (E.1.2.2.2.2 _ (List.mem_cons_of_mem _ tb_812)) (E.1.2.2.2.2 _ (List.mem_cons_of_mem _ tb_510)) (E.1.2.2.2.2 _ (List.mem_cons_of_mem _ tb_54)) (E.1.2.2.2.2 _ (List.mem_cons_of_mem _ tb_511)) (Nat.le_of_ble_eq_true rfl) (Nat.le_of_ble_eq_true rfl) (Nat.zero_le _) (Nat.zero_le _) dX1_stretch_12 ?_
  refine lv_aload_n hx hb dX1_stretch_15 rfl (lv_at hl 0 rfl) ?_
  refine q_get (C := RX1) (T := TX1) (N := 6) (ci := 1) E (fun w h => List.mem_cons_of_mem _ (inX1 w h)) hw 12 rfl rfl 5 (by decide) (List.mem_cons_of_mem _ tb_276) (v := .int (σ 12 0)) rfl dX1_stretch_16 ?_
  refine lv_isub hx hb dX1_stretch_19 ?_
  refine lv_istore_n (lv' := [(3, .int ((if p1 < x1 then p1 else x1) - (σ 12 0))), (0, .ref (h 42)), (1, .int x1), (2, .int x2)]) hx hb dX1_stretch_20 rfl hl (by decide) rfl (fun ls hl => ?_)
  refine lv_iconst (v := 0) hx hb dX1_stretch_21 (by decide) ?_
  refine lv_istore (lv' := [(4, .int 0), (3, .int ((if p1 < x1 then p1 else x1) - (σ 12 0))), (0, .ref (h 42)), (1, .int x1), (2, .int x2)]) hx hb dX1_stretch_22 hl (by decide) rfl (fun ls hl => ?_)
  exact s_X1_stretch_24 l D cA tS A h L F N E N _ _ _ _ _ hM _ _ hw _ (lv_sub hl [2, 4, 1, 0] rfl)
set_option maxRecDepth 100000 in
set_option maxHeartbeats 4000000 in
theorem c_X1_grow_responseClock (l : Launch) (D : va_G) (cA : Nat → ClassId) (tS : Nat → Nat) (A : Nat → Prop) (h : Nat → Nat) (L : Nat) (F : va_W) (x2 : Int32) (x3 : Int32) (x4 : Int32) (x5 : Int32) (σ : Sg) (s0 : Sg) (hM : f_X1_grow_responseClock L x2 x3 x4 x5 σ = some s0) : Ct l yX1_grow (Cond.code yX1_grow cX1_grow 7 none :: bw) 1 24 D cA tS A [.ref (h 42), .ref (h 24), .int x2, .int x3, .int x4, .int x5] (wK cA h σ ++ (wLg cA h σ L ++ (wC cA h σ ++ F))) none (wK cA h s0 ++ (wLg cA h s0 L ++ (wC cA h s0 ++ F))) := by
  refine ct_of (by decide +kernel) (Nat.le_of_ble_eq_true rfl) ?_
  intro p e s m below meth c E hw ls hl
  replace E : Ev p cX1_grow 7 none RX1 (Cond.code yX1_grow cX1_grow 7 none :: bw) D cA tS A s m _ meth c := E
  replace hl : lv_has ls 7 [(0, .ref (h 42)), (1, .ref (h 24)), (2, .int x2), (3, .int x3), (4, .int x4), (5, .int x5)] := hl
  have hx := E.1.1
  have hb := E.1.2.1
  unfold f_X1_grow_responseClock at hM
  refine lv_aload_n hx hb dX1_grow_0 rfl (lv_at hl 1 rfl) ?_
  refine lv_iload_n hx hb dX1_grow_1 rfl (lv_at hl 2 rfl) ?_
  obtain ⟨g1, hM⟩ := g_some hM
  refine q_ald E hw 25 (n := 60) rfl g1 (x := (σ 24 (ix x2))) rfl dX1_grow_2 ?_
  refine lv_istore (lv' := [(6, .int (σ 24 (ix x2))), (0, .ref (h 42)), (1, .ref (h 24)), (2, .int x2), (3, .int x3), (4, .int x4), (5, .int x5)]) hx hb dX1_grow_3 hl (by decide) rfl (fun ls hl => ?_)
  refine lv_aload_n hx hb dX1_grow_5 rfl (lv_at hl 2 rfl) ?_
  refine lv_iload_n hx hb dX1_grow_6 rfl (lv_at hl 3 rfl) ?_
  refine lv_iload hx hb dX1_grow_7 (lv_at hl 0 rfl) ?_
  refine lv_iload_n hx hb dX1_grow_9 rfl (lv_at hl 4 rfl) ?_
  refine lv_iadd hx hb dX1_grow_10 ?_
  refine q_ast E hw 25 (n := 60) rfl g1 (wK cA h (up σ 24 (ix x2) ((σ 24 (ix x2)) + x3)) ++ (wLg cA h (up σ 24 (ix x2) ((σ 24 (ix x2)) + x3)) L ++ (wC cA h (up σ 24 (ix x2) ((σ 24 (ix x2)) + x3)) ++ F))) st_K_Lg_C_24 dX1_grow_11 (fun H locs hw => ?_)
  refine lv_iload hx hb dX1_grow_12 (lv_at hl 0 rfl) ?_
  refine lv_iload hx hb dX1_grow_14 (lv_at hl 5 rfl) ?_
  refine lv_icmp_gt (tgt := 46) hx hb dX1_grow_16 (by decide) (fun c2 => ?_) (fun c2 => ?_)
  · replace hM := i_pos hM c2
    cases hM
    exact q_retv E hw dX1_grow_46
  · replace hM := i_neg hM c2
    refine lv_iload hx hb dX1_grow_19 (lv_at hl 0 rfl) ?_
    refine lv_iload_n hx hb dX1_grow_21 rfl (lv_at hl 4 rfl) ?_
    refine lv_iadd hx hb dX1_grow_22 ?_
    refine lv_iload hx hb dX1_grow_23 (lv_at hl 5 rfl) ?_
    refine lv_icmp_le (tgt := 46) hx hb dX1_grow_25 (by decide) (fun c3 => ?_) (fun c3 => ?_)
    · replace hM := i_pos hM c3
      cases hM
      exact q_retv E hw dX1_grow_46
    · replace hM := i_neg hM c3
      refine lv_aload_n hx hb dX1_grow_28 rfl (lv_at hl 1 rfl) ?_
      refine q_get (C := RX1) (T := TX1) (N := 6) (ci := 1) E (fun w h => List.mem_cons_of_mem _ (inX1 w h)) hw 12 rfl rfl 4 (by decide) (List.mem_cons_of_mem _ tb_274) (v := .ref (h 41)) rfl dX1_grow_29 ?_
      refine lv_aload_n hx hb dX1_grow_32 rfl (lv_at hl 1 rfl) ?_
      refine q_get (C := RX1) (T := TX1) (N := 6) (ci := 1) E (fun w h => List.mem_cons_of_mem _ (inX1 w h)) hw 12 rfl rfl 5 (by decide) (List.mem_cons_of_mem _ tb_276) (v := .int (σ 12 0)) (q_fld (congrFun (up_ne σ 24 (ix x2) ((σ 24 (ix x2)) + x3) 12 (by decide)) 0) rfl) dX1_grow_33 ?_
      refine lv_iload_n hx hb dX1_grow_36 rfl (lv_at hl 4 rfl) ?_
      refine lv_iadd hx hb dX1_grow_37 ?_
      refine lv_iload hx hb dX1_grow_38 (lv_at hl 6 rfl) ?_
      refine lv_iload_n hx hb dX1_grow_40 rfl (lv_at hl 3 rfl) ?_
      refine lv_iload hx hb dX1_grow_41 (lv_at hl 5 rfl) ?_
      obtain ⟨p4, h5, hM⟩ := b_some hM
      refine q_cvv (As := [.int ((σ 12 0) + x3), .int x5, .int x2, .int x4]) (rest := []) E hw hl (c_X4_write l D cA tS A h L F ((σ 12 0) + x3) x5 x2 x4 (up σ 24 (ix x2) ((σ 24 (ix x2)) + x3)) p4 h5) 4 (bwV bw_c tb_596 tb_597 tb_598 tb_53 tb_599) rfl (by decide +kernel) ⟨Nat.le_of_ble_eq_true rfl, Nat.le_of_ble_eq_true rfl⟩ 7 4 (T := TX4) (N := 5) rfl rfl rfl rfl (Nat.le_of_ble_eq_true rfl) ⟨Nat.zero_le _, Nat.zero_le _⟩ dX1_grow_43 (fun H locs hw => ?_)
      cases hM
      exact q_retv E hw dX1_grow_46
set_option maxRecDepth 100000 in
set_option maxHeartbeats 4000000 in
theorem c_X1_grow_resolveClock (l : Launch) (D : va_G) (cA : Nat → ClassId) (tS : Nat → Nat) (A : Nat → Prop) (h : Nat → Nat) (L : Nat) (F : va_W) (x2 : Int32) (x3 : Int32) (x4 : Int32) (x5 : Int32) (σ : Sg) (s0 : Sg) (hM : f_X1_grow_resolveClock L x2 x3 x4 x5 σ = some s0) : Ct l yX1_grow (Cond.code yX1_grow cX1_grow 7 none :: bw) 1 24 D cA tS A [.ref (h 42), .ref (h 25), .int x2, .int x3, .int x4, .int x5] (wK cA h σ ++ (wLg cA h σ L ++ (wC cA h σ ++ F))) none (wK cA h s0 ++ (wLg cA h s0 L ++ (wC cA h s0 ++ F))) := by
  refine ct_of (by decide +kernel) (Nat.le_of_ble_eq_true rfl) ?_
  intro p e s m below meth c E hw ls hl
  replace E : Ev p cX1_grow 7 none RX1 (Cond.code yX1_grow cX1_grow 7 none :: bw) D cA tS A s m _ meth c := E
  replace hl : lv_has ls 7 [(0, .ref (h 42)), (1, .ref (h 25)), (2, .int x2), (3, .int x3), (4, .int x4), (5, .int x5)] := hl
  have hx := E.1.1
  have hb := E.1.2.1
  unfold f_X1_grow_resolveClock at hM
  refine lv_aload_n hx hb dX1_grow_0 rfl (lv_at hl 1 rfl) ?_
  refine lv_iload_n hx hb dX1_grow_1 rfl (lv_at hl 2 rfl) ?_
  obtain ⟨g1, hM⟩ := g_some hM
  refine q_ald E hw 26 (n := 60) rfl g1 (x := (σ 25 (ix x2))) rfl dX1_grow_2 ?_
  refine lv_istore (lv' := [(6, .int (σ 25 (ix x2))), (0, .ref (h 42)), (1, .ref (h 25)), (2, .int x2), (3, .int x3), (4, .int x4), (5, .int x5)]) hx hb dX1_grow_3 hl (by decide) rfl (fun ls hl => ?_)
  refine lv_aload_n hx hb dX1_grow_5 rfl (lv_at hl 2 rfl) ?_
  refine lv_iload_n hx hb dX1_grow_6 rfl (lv_at hl 3 rfl) ?_
  refine lv_iload hx hb dX1_grow_7 (lv_at hl 0 rfl) ?_
  refine lv_iload_n hx hb dX1_grow_9 rfl (lv_at hl 4 rfl) ?_
  refine lv_iadd hx hb dX1_grow_10 ?_
  refine q_ast E hw 26 (n := 60) rfl g1 (wK cA h (up σ 25 (ix x2) ((σ 25 (ix x2)) + x3)) ++ (wLg cA h (up σ 25 (ix x2) ((σ 25 (ix x2)) + x3)) L ++ (wC cA h (up σ 25 (ix x2) ((σ 25 (ix x2)) + x3)) ++ F))) st_K_Lg_C_25 dX1_grow_11 (fun H locs hw => ?_)
  refine lv_iload hx hb dX1_grow_12 (lv_at hl 0 rfl) ?_
  refine lv_iload hx hb dX1_grow_14 (lv_at hl 5 rfl) ?_
  refine lv_icmp_gt (tgt := 46) hx hb dX1_grow_16 (by decide) (fun c2 => ?_) (fun c2 => ?_)
  · replace hM := i_pos hM c2
    cases hM
    exact q_retv E hw dX1_grow_46
  · replace hM := i_neg hM c2
    refine lv_iload hx hb dX1_grow_19 (lv_at hl 0 rfl) ?_
    refine lv_iload_n hx hb dX1_grow_21 rfl (lv_at hl 4 rfl) ?_
    refine lv_iadd hx hb dX1_grow_22 ?_
    refine lv_iload hx hb dX1_grow_23 (lv_at hl 5 rfl) ?_
    refine lv_icmp_le (tgt := 46) hx hb dX1_grow_25 (by decide) (fun c3 => ?_) (fun c3 => ?_)
    · replace hM := i_pos hM c3
      cases hM
      exact q_retv E hw dX1_grow_46
    · replace hM := i_neg hM c3
      refine lv_aload_n hx hb dX1_grow_28 rfl (lv_at hl 1 rfl) ?_
      refine q_get (C := RX1) (T := TX1) (N := 6) (ci := 1) E (fun w h => List.mem_cons_of_mem _ (inX1 w h)) hw 12 rfl rfl 4 (by decide) (List.mem_cons_of_mem _ tb_274) (v := .ref (h 41)) rfl dX1_grow_29 ?_
      refine lv_aload_n hx hb dX1_grow_32 rfl (lv_at hl 1 rfl) ?_
      refine q_get (C := RX1) (T := TX1) (N := 6) (ci := 1) E (fun w h => List.mem_cons_of_mem _ (inX1 w h)) hw 12 rfl rfl 5 (by decide) (List.mem_cons_of_mem _ tb_276) (v := .int (σ 12 0)) (q_fld (congrFun (up_ne σ 25 (ix x2) ((σ 25 (ix x2)) + x3) 12 (by decide)) 0) rfl) dX1_grow_33 ?_
      refine lv_iload_n hx hb dX1_grow_36 rfl (lv_at hl 4 rfl) ?_
      refine lv_iadd hx hb dX1_grow_37 ?_
      refine lv_iload hx hb dX1_grow_38 (lv_at hl 6 rfl) ?_
      refine lv_iload_n hx hb dX1_grow_40 rfl (lv_at hl 3 rfl) ?_
      refine lv_iload hx hb dX1_grow_41 (lv_at hl 5 rfl) ?_
      obtain ⟨p4, h5, hM⟩ := b_some hM
      refine q_cvv (As := [.int ((σ 12 0) + x3), .int x5, .int x2, .int x4]) (rest := []) E hw hl (c_X4_write l D cA tS A h L F ((σ 12 0) + x3) x5 x2 x4 (up σ 25 (ix x2) ((σ 25 (ix x2)) + x3)) p4 h5) 4 (bwV bw_c tb_596 tb_597 tb_598 tb_53 tb_599) rfl (by decide +kernel) ⟨Nat.le_of_ble_eq_true rfl, Nat.le_of_ble_eq_true rfl⟩ 7 4 (T := TX4) (N := 5) rfl rfl rfl rfl (Nat.le_of_ble_eq_true rfl) ⟨Nat.zero_le _, Nat.zero_le _⟩ dX1_grow_43 (fun H locs hw => ?_)
      cases hM
      exact q_retv E hw dX1_grow_46
set_option maxRecDepth 100000 in
set_option maxHeartbeats 4000000 in
theorem s_X1_growClocks_108 (l : Launch) (D : va_G) (cA : Nat → ClassId) (tS : Nat → Nat) (A : Nat → Prop) (h : Nat → Nat) (L : Nat) (F : va_W) (N : Nat) (k2 : Int32 → Int32 → Int32 → Sg → Option (Sg)) {p : Program} {e : Env} {s : State} {m : MethodId} {args : Array Value} {below : List Frame} {meth : Method} {c : Code} (E : Ev p cX1_growClocks 5 none RX1 (Cond.code yX1_growClocks cX1_growClocks 5 none :: bw) D cA tS A s m args meth c) (hk2 : ∀ (x1 : Int32) (x2 : Int32) (x3 : Int32) (σ : Sg) (s0 : Sg) (hM : k2 x1 x2 x3 σ = some s0) (H : Heap) (locs : List Loc) (hw : Wd D A (wK cA h σ ++ (wLg cA h σ L ++ (wC cA h σ ++ F))) s.heap H locs) (ls : Array Slot) (hl : lv_has ls 5 [(0, .ref (h 42)), (1, .int x1), (2, .int x2), (3, .int x3)]), W p l e ({ frames := 2, cells := 0, slots := 0, locals := 50 } : Room) s m args below meth c H locs 0 0 (MQ below (QW D A none (wK cA h s0 ++ (wLg cA h s0 L ++ (wC cA h s0 ++ F)))) args s 0 0 A) (F0 m 2 ls [])) : ∀ (x1 : Int32) (x2 : Int32) (x3 : Int32) (σ : Sg) (s0 : Sg) (hM : f_X1_growClocks_108 N L k2 x1 x2 x3 σ = some s0) (H : Heap) (locs : List Loc) (hw : Wd D A (wK cA h σ ++ (wLg cA h σ L ++ (wC cA h σ ++ F))) s.heap H locs) (ls : Array Slot) (hl : lv_has ls 5 [(0, .ref (h 42)), (1, .int x1), (2, .int x2), (3, .int x3)]), W p l e ({ frames := 2, cells := 0, slots := 0, locals := 50 } : Room) s m args below meth c H locs 0 0 (MQ below (QW D A none (wK cA h s0 ++ (wLg cA h s0 L ++ (wC cA h s0 ++ F)))) args s 0 0 A) (F0 m 108 ls []) := by
  have hx := E.1.1
  have hb := E.1.2.1
  intro x1 x2 x3 σ s0 hM H locs hw ls hl
  unfold f_X1_growClocks_108 at hM
  refine lv_aload_n hx hb dX1_growClocks_108 rfl (lv_at hl 0 rfl) ?_
  refine q_get (C := RX1) (T := TX1) (N := 6) (ci := 1) E (fun w h => List.mem_cons_of_mem _ (inX1 w h)) hw 12 rfl rfl 3 (by decide) (List.mem_cons_of_mem _ tb_272) (v := .ref (h 44)) rfl dX1_growClocks_109 ?_
  refine q_get (C := RX7) (T := TX7) (N := 15) (ci := 7) E (fun w h => List.mem_cons_of_mem _ (inX7 w h)) hw 16 rfl rfl 5 (by decide) (List.mem_cons_of_mem _ tb_160) (v := .ref (h 21)) rfl dX1_growClocks_112 ?_
  refine lv_iload_n hx hb dX1_growClocks_115 rfl (lv_at hl 3 rfl) ?_
  obtain ⟨g1, hM⟩ := g_some hM
  refine q_ald E hw 22 (n := 60) rfl g1 (x := (σ 21 (ix x3))) rfl dX1_growClocks_116 ?_
  refine lv_if_ne (tgt := 133) hx hb dX1_growClocks_117 (by decide) (fun c2 => ?_) (fun c2 => ?_)
  · replace hM := i_neg hM c2
    refine lv_iinc (v := (x3 + 1)) (lv' := [(3, .int (x3 + 1)), (0, .ref (h 42)), (1, .int x1), (2, .int x2)]) hx hb dX1_growClocks_133 hl (k := 3) rfl rfl (by decide) rfl (fun ls hl => ?_)
    refine lv_goto (tgt := 2) hx hb dX1_growClocks_136 (by decide) ?_
    exact hk2 _ _ _ _ _ hM _ _ hw _ (lv_sub hl [1, 2, 3, 0] rfl)
  · replace hM := i_pos hM c2
    refine lv_aload_n hx hb dX1_growClocks_120 rfl (lv_at hl 0 rfl) ?_
    refine q_get (C := RX1) (T := TX1) (N := 6) (ci := 1) E (fun w h => List.mem_cons_of_mem _ (inX1 w h)) hw 12 rfl rfl 3 (by decide) (List.mem_cons_of_mem _ tb_272) (v := .ref (h 44)) rfl dX1_growClocks_121 ?_
    refine q_get (C := RX7) (T := TX7) (N := 15) (ci := 7) E (fun w h => List.mem_cons_of_mem _ (inX7 w h)) hw 16 rfl rfl 7 (by decide) (List.mem_cons_of_mem _ tb_166) (v := .ref (h 23)) rfl dX1_growClocks_124 ?_
    refine lv_iload_n hx hb dX1_growClocks_127 rfl (lv_at hl 3 rfl) ?_
    refine lv_dup2_11 hx hb dX1_growClocks_128 rfl rfl ?_
    refine q_ald E hw 24 (n := 60) rfl g1 (x := (σ 23 (ix x3))) rfl dX1_growClocks_129 ?_
    refine lv_iload_n hx hb dX1_growClocks_130 rfl (lv_at hl 1 rfl) ?_
    refine lv_iadd hx hb dX1_growClocks_131 ?_
    refine q_ast E hw 24 (n := 60) rfl g1 (wK cA h (up σ 23 (ix x3) ((σ 23 (ix x3)) + x1)) ++ (wLg cA h (up σ 23 (ix x3) ((σ 23 (ix x3)) + x1)) L ++ (wC cA h (up σ 23 (ix x3) ((σ 23 (ix x3)) + x1)) ++ F))) st_K_Lg_C_23 dX1_growClocks_132 (fun H locs hw => ?_)
    refine lv_iinc (v := (x3 + 1)) (lv' := [(3, .int (x3 + 1)), (0, .ref (h 42)), (1, .int x1), (2, .int x2)]) hx hb dX1_growClocks_133 hl (k := 3) rfl rfl (by decide) rfl (fun ls hl => ?_)
    refine lv_goto (tgt := 2) hx hb dX1_growClocks_136 (by decide) ?_
    exact hk2 _ _ _ _ _ hM _ _ hw _ (lv_sub hl [1, 2, 3, 0] rfl)
set_option maxRecDepth 100000 in
set_option maxHeartbeats 4000000 in
theorem s_X1_growClocks_72 (l : Launch) (D : va_G) (cA : Nat → ClassId) (tS : Nat → Nat) (A : Nat → Prop) (h : Nat → Nat) (L : Nat) (F : va_W) (N : Nat) (k2 : Int32 → Int32 → Int32 → Sg → Option (Sg)) {p : Program} {e : Env} {s : State} {m : MethodId} {args : Array Value} {below : List Frame} {meth : Method} {c : Code} (E : Ev p cX1_growClocks 5 none RX1 (Cond.code yX1_growClocks cX1_growClocks 5 none :: bw) D cA tS A s m args meth c) (hk2 : ∀ (x1 : Int32) (x2 : Int32) (x3 : Int32) (σ : Sg) (s0 : Sg) (hM : k2 x1 x2 x3 σ = some s0) (H : Heap) (locs : List Loc) (hw : Wd D A (wK cA h σ ++ (wLg cA h σ L ++ (wC cA h σ ++ F))) s.heap H locs) (ls : Array Slot) (hl : lv_has ls 5 [(0, .ref (h 42)), (1, .int x1), (2, .int x2), (3, .int x3)]), W p l e ({ frames := 2, cells := 0, slots := 0, locals := 50 } : Room) s m args below meth c H locs 0 0 (MQ below (QW D A none (wK cA h s0 ++ (wLg cA h s0 L ++ (wC cA h s0 ++ F)))) args s 0 0 A) (F0 m 2 ls [])) : ∀ (x1 : Int32) (x2 : Int32) (x3 : Int32) (x4 : Int32) (σ : Sg) (s0 : Sg) (hM : f_X1_growClocks_72 N L k2 x1 x2 x3 x4 σ = some s0) (H : Heap) (locs : List Loc) (hw : Wd D A (wK cA h σ ++ (wLg cA h σ L ++ (wC cA h σ ++ F))) s.heap H locs) (ls : Array Slot) (hl : lv_has ls 5 [(0, .ref (h 42)), (1, .int x1), (2, .int x2), (3, .int x3), (4, .int x4)]), W p l e ({ frames := 2, cells := 0, slots := 0, locals := 50 } : Room) s m args below meth c H locs 0 0 (MQ below (QW D A none (wK cA h s0 ++ (wLg cA h s0 L ++ (wC cA h s0 ++ F)))) args s 0 0 A) (F0 m 72 ls []) := by
  have hx := E.1.1
  have hb := E.1.2.1
  intro x1 x2 x3 x4 σ s0 hM H locs hw ls hl
  unfold f_X1_growClocks_72 at hM
  refine lv_aload_n hx hb dX1_growClocks_72 rfl (lv_at hl 0 rfl) ?_
  refine q_get (C := RX1) (T := TX1) (N := 6) (ci := 1) E (fun w h => List.mem_cons_of_mem _ (inX1 w h)) hw 12 rfl rfl 3 (by decide) (List.mem_cons_of_mem _ tb_272) (v := .ref (h 44)) rfl dX1_growClocks_73 ?_
  refine lv_iload_n hx hb dX1_growClocks_76 rfl (lv_at hl 3 rfl) ?_
  obtain ⟨p1, h2, hM⟩ := b_some hM
  refine q_cv (As := [.int x3]) (rest := []) E hw hl (c_X7_resolveRuns l D cA tS A h L F x3 σ p1 h2) 1 (bwV bw_c tb_830 tb_831 tb_832 tb_52 tb_833) rfl (by decide +kernel) ⟨Nat.le_of_ble_eq_true rfl, Nat.le_of_ble_eq_true rfl⟩ 16 7 (T := TX7) (N := 15) rfl rfl rfl rfl (Nat.le_of_ble_eq_true rfl) ⟨Nat.zero_le _, Nat.zero_le _⟩ dX1_growClocks_77 (fun H locs hw => ?_)
  refine lv_if_eq (tgt := 108) hx hb dX1_growClocks_80 (by decide) (fun c3 => ?_) (fun c3 => ?_)
  · replace hM := i_pos hM c3
    exact s_X1_growClocks_108 l D cA tS A h L F N k2 E hk2 _ _ _ _ _ hM _ _ hw _ (lv_sub hl [0, 1, 2, 3] rfl)
  · replace hM := i_neg hM c3
    refine lv_aload_n hx hb dX1_growClocks_83 rfl (lv_at hl 0 rfl) ?_
    refine lv_aload_n hx hb dX1_growClocks_84 rfl (lv_at hl 0 rfl) ?_
    refine q_get (C := RX1) (T := TX1) (N := 6) (ci := 1) E (fun w h => List.mem_cons_of_mem _ (inX1 w h)) hw 12 rfl rfl 3 (by decide) (List.mem_cons_of_mem _ tb_272) (v := .ref (h 44)) rfl dX1_growClocks_85 ?_
    refine q_get (C := RX7) (T := TX7) (N := 15) (ci := 7) E (fun w h => List.mem_cons_of_mem _ (inX7 w h)) hw 16 rfl rfl 9 (by decide) (List.mem_cons_of_mem _ tb_171) (v := .ref (h 25)) rfl dX1_growClocks_88 ?_
    refine lv_iload_n hx hb dX1_growClocks_91 rfl (lv_at hl 3 rfl) ?_
    refine lv_iload_n hx hb dX1_growClocks_92 rfl (lv_at hl 1 rfl) ?_
    refine lv_aload_n hx hb dX1_growClocks_93 rfl (lv_at hl 0 rfl) ?_
    refine q_get (C := RX1) (T := TX1) (N := 6) (ci := 1) E (fun w h => List.mem_cons_of_mem _ (inX1 w h)) hw 12 rfl rfl 1 (by decide) (List.mem_cons_of_mem _ tb_268) (v := .ref (h 40)) rfl dX1_growClocks_94 ?_
    refine q_get (C := RX3) (T := TX3) (N := 7) (ci := 3) E (fun w h => List.mem_cons_of_mem _ (inX3 w h)) hw 0 rfl rfl 1 (by decide) (List.mem_cons_of_mem _ tb_115) (v := .ref (h 2)) rfl dX1_growClocks_97 ?_
    refine lv_iload hx hb dX1_growClocks_100 (lv_at hl 4 rfl) ?_
    obtain ⟨g4, hM⟩ := g_some hM
    refine q_ald E hw 2 (n := 6) rfl g4 (x := (σ 2 (ix x4))) rfl dX1_growClocks_102 ?_
    refine lv_bipush (v := 9) hx hb dX1_growClocks_103 (by decide) ?_
    obtain ⟨p5, h6, hM⟩ := b_some hM
    refine q_cvv (As := [.ref (h 25), .int x3, .int x1, .int (σ 2 (ix x4)), .int 9]) (rest := []) E hw hl (c_X1_grow_resolveClock l D cA tS A h L F x3 x1 (σ 2 (ix x4)) 9 σ p5 h6) 5 (bwV bw_c tb_844 tb_846 tb_38 tb_49 tb_847) rfl (by decide +kernel) ⟨Nat.le_of_ble_eq_true rfl, Nat.le_of_ble_eq_true rfl⟩ 12 1 (T := TX1) (N := 6) rfl rfl rfl rfl (Nat.le_of_ble_eq_true rfl) ⟨Nat.zero_le _, Nat.zero_le _⟩ dX1_growClocks_105 (fun H locs hw => ?_)
    exact s_X1_growClocks_108 l D cA tS A h L F N k2 E hk2 _ _ _ _ _ hM _ _ hw _ (lv_sub hl [0, 1, 2, 3] rfl)
set_option maxRecDepth 100000 in
set_option maxHeartbeats 4000000 in
theorem s_X1_growClocks_2 (l : Launch) (D : va_G) (cA : Nat → ClassId) (tS : Nat → Nat) (A : Nat → Prop) (h : Nat → Nat) (L : Nat) (F : va_W) (N : Nat) {p : Program} {e : Env} {s : State} {m : MethodId} {args : Array Value} {below : List Frame} {meth : Method} {c : Code} (E : Ev p cX1_growClocks 5 none RX1 (Cond.code yX1_growClocks cX1_growClocks 5 none :: bw) D cA tS A s m args meth c) : ∀ (n : Nat) (x1 : Int32) (x2 : Int32) (x3 : Int32) (σ : Sg) (s0 : Sg) (hM : f_X1_growClocks_2 N L n x1 x2 x3 σ = some s0) (H : Heap) (locs : List Loc) (hw : Wd D A (wK cA h σ ++ (wLg cA h σ L ++ (wC cA h σ ++ F))) s.heap H locs) (ls : Array Slot) (hl : lv_has ls 5 [(0, .ref (h 42)), (1, .int x1), (2, .int x2), (3, .int x3)]), W p l e ({ frames := 2, cells := 0, slots := 0, locals := 50 } : Room) s m args below meth c H locs 0 0 (MQ below (QW D A none (wK cA h s0 ++ (wLg cA h s0 L ++ (wC cA h s0 ++ F)))) args s 0 0 A) (F0 m 2 ls []) := by
  have hx := E.1.1
  have hb := E.1.2.1
  intro n
  induction n with
  | zero =>
    intro x1 x2 x3 σ s0 hM
    cases hM
  | succ n ih =>
    intro x1 x2 x3 σ s0 hM H locs hw ls hl
    rw [f_X1_growClocks_2] at hM
    refine lv_iload_n hx hb dX1_growClocks_2 rfl (lv_at hl 3 rfl) ?_
    refine lv_aload_n hx hb dX1_growClocks_3 rfl (lv_at hl 0 rfl) ?_
    refine q_get (C := RX1) (T := TX1) (N := 6) (ci := 1) E (fun w h => List.mem_cons_of_mem _ (inX1 w h)) hw 12 rfl rfl 3 (by decide) (List.mem_cons_of_mem _ tb_272) (v := .ref (h 44)) rfl dX1_growClocks_4 ?_
    refine q_get (C := RX7) (T := TX7) (N := 15) (ci := 7) E (fun w h => List.mem_cons_of_mem _ (inX7 w h)) hw 16 rfl rfl 14 (by decide) (List.mem_cons_of_mem _ tb_185) (v := .int (σ 15 0)) rfl dX1_growClocks_7 ?_
    refine lv_icmp_ge (tgt := 139) hx hb dX1_growClocks_10 (by decide) (fun c1 => ?_) (fun c1 => ?_)
    · replace hM := i_pos hM c1
      cases hM
      exact q_retv E hw dX1_growClocks_139
    · replace hM := i_neg hM c1
      refine lv_aload_n hx hb dX1_growClocks_13 rfl (lv_at hl 0 rfl) ?_
      refine lv_iload_n hx hb dX1_growClocks_14 rfl (lv_at hl 3 rfl) ?_
      refine lv_iload_n hx hb dX1_growClocks_15 rfl (lv_at hl 2 rfl) ?_
      obtain ⟨p2, h3, hM⟩ := b_some hM
      refine q_cv (As := [.int x3, .int x2]) (rest := []) E hw hl (c_X1_counts l D cA tS A h L F x3 x2 σ p2 h3) 2 (bwV bw_c tb_813 tb_815 tb_34 tb_49 tb_816) rfl (by decide +kernel) ⟨Nat.le_of_ble_eq_true rfl, Nat.le_of_ble_eq_true rfl⟩ 12 1 (T := TX1) (N := 6) rfl rfl rfl rfl (Nat.le_of_ble_eq_true rfl) ⟨Nat.zero_le _, Nat.zero_le _⟩ dX1_growClocks_16 (fun H locs hw => ?_)
      refine lv_if_ne (tgt := 25) hx hb dX1_growClocks_19 (by decide) (fun c4 => ?_) (fun c4 => ?_)
      · replace hM := i_neg hM c4
        refine lv_aload_n hx hb dX1_growClocks_25 rfl (lv_at hl 0 rfl) ?_
        refine q_get (C := RX1) (T := TX1) (N := 6) (ci := 1) E (fun w h => List.mem_cons_of_mem _ (inX1 w h)) hw 12 rfl rfl 3 (by decide) (List.mem_cons_of_mem _ tb_272) (v := .ref (h 44)) rfl dX1_growClocks_26 ?_
        refine q_get (C := RX7) (T := TX7) (N := 15) (ci := 7) E (fun w h => List.mem_cons_of_mem _ (inX7 w h)) hw 16 rfl rfl 0 (by decide) (List.mem_cons_of_mem _ tb_151) (v := .ref (h 16)) rfl dX1_growClocks_29 ?_
        refine lv_iload_n hx hb dX1_growClocks_32 rfl (lv_at hl 3 rfl) ?_
        obtain ⟨g5, hM⟩ := g_some hM
        refine q_ald E hw 17 (n := 60) rfl g5 (x := (σ 16 (ix x3))) rfl dX1_growClocks_33 ?_
        refine lv_istore (lv' := [(4, .int (σ 16 (ix x3))), (0, .ref (h 42)), (1, .int x1), (2, .int x2), (3, .int x3)]) hx hb dX1_growClocks_34 hl (by decide) rfl (fun ls hl => ?_)
        refine lv_aload_n hx hb dX1_growClocks_36 rfl (lv_at hl 1 rfl) ?_
        refine q_get (C := RX1) (T := TX1) (N := 6) (ci := 1) E (fun w h => List.mem_cons_of_mem _ (inX1 w h)) hw 12 rfl rfl 3 (by decide) (List.mem_cons_of_mem _ tb_272) (v := .ref (h 44)) rfl dX1_growClocks_37 ?_
        refine lv_iload_n hx hb dX1_growClocks_40 rfl (lv_at hl 4 rfl) ?_
        obtain ⟨p6, h7, hM⟩ := b_some hM
        refine q_cv (As := [.int x3]) (rest := []) E hw hl (c_X7_responseRuns l D cA tS A h L F x3 σ p6 h7) 1 (bwV bw_c tb_821 tb_822 tb_823 tb_52 tb_824) rfl (by decide +kernel) ⟨Nat.le_of_ble_eq_true rfl, Nat.le_of_ble_eq_true rfl⟩ 16 7 (T := TX7) (N := 15) rfl rfl rfl rfl (Nat.le_of_ble_eq_true rfl) ⟨Nat.zero_le _, Nat.zero_le _⟩ dX1_growClocks_41 (fun H locs hw => ?_)
        refine lv_if_eq (tgt := 72) hx hb dX1_growClocks_44 (by decide) (fun c8 => ?_) (fun c8 => ?_)
        · replace hM := i_pos hM c8
          exact s_X1_growClocks_72 l D cA tS A h L F N (fun x1 x2 x3 σ => f_X1_growClocks_2 N L n x1 x2 x3 σ) E ih _ _ _ _ _ _ hM _ _ hw _ (lv_sub hl [1, 2, 3, 4, 0] rfl)
        · replace hM := i_neg hM c8
          refine lv_aload_n hx hb dX1_growClocks_47 rfl (lv_at hl 1 rfl) ?_
          refine lv_aload_n hx hb dX1_growClocks_48 rfl (lv_at hl 1 rfl) ?_
          refine q_get (C := RX1) (T := TX1) (N := 6) (ci := 1) E (fun w h => List.mem_cons_of_mem _ (inX1 w h)) hw 12 rfl rfl 3 (by decide) (List.mem_cons_of_mem _ tb_272) (v := .ref (h 44)) rfl dX1_growClocks_49 ?_
          refine q_get (C := RX7) (T := TX7) (N := 15) (ci := 7) E (fun w h => List.mem_cons_of_mem _ (inX7 w h)) hw 16 rfl rfl 8 (by decide) (List.mem_cons_of_mem _ tb_168) (v := .ref (h 24)) rfl dX1_growClocks_52 ?_
          refine lv_iload_n hx hb dX1_growClocks_55 rfl (lv_at hl 4 rfl) ?_
          refine lv_iload_n hx hb dX1_growClocks_56 rfl (lv_at hl 2 rfl) ?_
          refine lv_aload_n hx hb dX1_growClocks_57 rfl (lv_at hl 1 rfl) ?_
          refine q_get (C := RX1) (T := TX1) (N := 6) (ci := 1) E (fun w h => List.mem_cons_of_mem _ (inX1 w h)) hw 12 rfl rfl 1 (by decide) (List.mem_cons_of_mem _ tb_268) (v := .ref (h 40)) rfl dX1_growClocks_58 ?_
          refine q_get (C := RX3) (T := TX3) (N := 7) (ci := 3) E (fun w h => List.mem_cons_of_mem _ (inX3 w h)) hw 0 rfl rfl 0 (by decide) (List.mem_cons_of_mem _ tb_113) (v := .ref (h 1)) rfl dX1_growClocks_61 ?_
          refine lv_iload hx hb dX1_growClocks_64 (lv_at hl 0 rfl) ?_
          obtain ⟨g9, hM⟩ := g_some hM
          refine q_ald E hw 1 (n := 6) rfl g9 (x := (σ 1 (ix (σ 16 (ix x3))))) rfl dX1_growClocks_66 ?_
          refine lv_bipush (v := 8) hx hb dX1_growClocks_67 (by decide) ?_
          obtain ⟨p10, h11, hM⟩ := b_some hM
          refine q_cvv (As := [.ref (h 24), .int x3, .int x1, .int (σ 1 (ix (σ 16 (ix x3)))), .int 8]) (rest := []) E hw hl (c_X1_grow_responseClock l D cA tS A h L F x3 x1 (σ 1 (ix (σ 16 (ix x3)))) 8 σ p10 h11) 5 (bwV bw_c tb_844 tb_846 tb_38 tb_49 tb_847) rfl (by decide +kernel) ⟨Nat.le_of_ble_eq_true rfl, Nat.le_of_ble_eq_true rfl⟩ 12 1 (T := TX1) (N := 6) rfl rfl rfl rfl (Nat.le_of_ble_eq_true rfl) ⟨Nat.zero_le _, Nat.zero_le _⟩ dX1_growClocks_69 (fun H locs hw => ?_)
          exact s_X1_growClocks_72 l D cA tS A h L F N (fun x1 x2 x3 σ => f_X1_growClocks_2 N L n x1 x2 x3 σ) E ih _ _ _ _ _ _ hM _ _ hw _ (lv_sub hl [1, 2, 3, 4, 0] rfl)
      · replace hM := i_pos hM c4
        refine lv_goto (tgt := 133) hx hb dX1_growClocks_22 (by decide) ?_
        refine lv_iinc (v := (x3 + 1)) (lv' := [(3, .int (x3 + 1)), (0, .ref (h 42)), (1, .int x1), (2, .int x2)]) hx hb dX1_growClocks_133 hl (k := 3) rfl rfl (by decide) rfl (fun ls hl => ?_)
        refine lv_goto (tgt := 2) hx hb dX1_growClocks_136 (by decide) ?_
        exact ih _ _ _ _ _ hM _ _ hw _ (lv_sub hl [1, 2, 3, 0] rfl)
set_option maxRecDepth 100000 in
set_option maxHeartbeats 4000000 in
theorem c_X1_growClocks (l : Launch) (D : va_G) (cA : Nat → ClassId) (tS : Nat → Nat) (A : Nat → Prop) (h : Nat → Nat) (L : Nat) (F : va_W) (N : Nat) (x1 : Int32) (x2 : Int32) (σ : Sg) (s0 : Sg) (hM : f_X1_growClocks N L x1 x2 σ = some s0) : Ct l yX1_growClocks (Cond.code yX1_growClocks cX1_growClocks 5 none :: bw) 2 50 D cA tS A [.ref (h 42), .int x1, .int x2] (wK cA h σ ++ (wLg cA h σ L ++ (wC cA h σ ++ F))) none (wK cA h s0 ++ (wLg cA h s0 L ++ (wC cA h s0 ++ F))) := by
  refine ct_of (by decide +kernel) (Nat.le_of_ble_eq_true rfl) ?_
  intro p e s m below meth c E hw ls hl
  replace E : Ev p cX1_growClocks 5 none RX1 (Cond.code yX1_growClocks cX1_growClocks 5 none :: bw) D cA tS A s m _ meth c := E
  replace hl : lv_has ls 5 [(0, .ref (h 42)), (1, .int x1), (2, .int x2)] := hl
  have hx := E.1.1
  have hb := E.1.2.1
  unfold f_X1_growClocks at hM
  refine lv_iconst (v := 0) hx hb dX1_growClocks_0 (by decide) ?_
  refine lv_istore_n (lv' := [(3, .int 0), (0, .ref (h 42)), (1, .int x1), (2, .int x2)]) hx hb dX1_growClocks_1 rfl hl (by decide) rfl (fun ls hl => ?_)
  exact s_X1_growClocks_2 l D cA tS A h L F N E N _ _ _ _ _ hM _ _ hw _ (lv_sub hl [1, 2, 3, 0] rfl)
set_option maxRecDepth 100000 in
set_option maxHeartbeats 4000000 in
theorem s_X1_work_2 (l : Launch) (D : va_G) (cA : Nat → ClassId) (tS : Nat → Nat) (A : Nat → Prop) (h : Nat → Nat) (L : Nat) (F : va_W) (N : Nat) {p : Program} {e : Env} {s : State} {m : MethodId} {args : Array Value} {below : List Frame} {meth : Method} {c : Code} (E : Ev p cX1_work 4 none RX1 (Cond.code yX1_work cX1_work 4 none :: bw) D cA tS A s m args meth c) : ∀ (n : Nat) (x1 : Int32) (x2 : Int32) (σ : Sg) (s0 : Sg) (hM : f_X1_work_2 N L n x1 x2 σ = some s0) (H : Heap) (locs : List Loc) (hw : Wd D A (wK cA h σ ++ (wLg cA h σ L ++ (wC cA h σ ++ F))) s.heap H locs) (ls : Array Slot) (hl : lv_has ls 4 [(0, .ref (h 42)), (1, .int x1), (2, .int x2)]), W p l e ({ frames := 3, cells := 0, slots := 0, locals := 70 } : Room) s m args below meth c H locs 0 0 (MQ below (QW D A none (wK cA h s0 ++ (wLg cA h s0 L ++ (wC cA h s0 ++ F)))) args s 0 0 A) (F0 m 2 ls []) := by
  have hx := E.1.1
  have hb := E.1.2.1
  intro n
  induction n with
  | zero =>
    intro x1 x2 σ s0 hM
    cases hM
  | succ n ih =>
    intro x1 x2 σ s0 hM H locs hw ls hl
    rw [f_X1_work_2] at hM
    refine lv_iload_n hx hb dX1_work_2 rfl (lv_at hl 2 rfl) ?_
    refine lv_aload_n hx hb dX1_work_3 rfl (lv_at hl 0 rfl) ?_
    refine q_get (C := RX1) (T := TX1) (N := 6) (ci := 1) E (fun w h => List.mem_cons_of_mem _ (inX1 w h)) hw 12 rfl rfl 3 (by decide) (List.mem_cons_of_mem _ tb_272) (v := .ref (h 44)) rfl dX1_work_4 ?_
    refine q_get (C := RX7) (T := TX7) (N := 15) (ci := 7) E (fun w h => List.mem_cons_of_mem _ (inX7 w h)) hw 16 rfl rfl 14 (by decide) (List.mem_cons_of_mem _ tb_185) (v := .int (σ 15 0)) rfl dX1_work_7 ?_
    refine lv_icmp_ge (tgt := 130) hx hb dX1_work_10 (by decide) (fun c1 => ?_) (fun c1 => ?_)
    · replace hM := i_pos hM c1
      cases hM
      exact q_retv E hw dX1_work_130
    · replace hM := i_neg hM c1
      refine lv_aload_n hx hb dX1_work_13 rfl (lv_at hl 0 rfl) ?_
      refine q_get (C := RX1) (T := TX1) (N := 6) (ci := 1) E (fun w h => List.mem_cons_of_mem _ (inX1 w h)) hw 12 rfl rfl 3 (by decide) (List.mem_cons_of_mem _ tb_272) (v := .ref (h 44)) rfl dX1_work_14 ?_
      refine q_get (C := RX7) (T := TX7) (N := 15) (ci := 7) E (fun w h => List.mem_cons_of_mem _ (inX7 w h)) hw 16 rfl rfl 5 (by decide) (List.mem_cons_of_mem _ tb_160) (v := .ref (h 21)) rfl dX1_work_17 ?_
      refine lv_iload_n hx hb dX1_work_20 rfl (lv_at hl 2 rfl) ?_
      obtain ⟨g2, hM⟩ := g_some hM
      refine q_ald E hw 22 (n := 60) rfl g2 (x := (σ 21 (ix x2))) rfl dX1_work_21 ?_
      refine lv_iconst (v := 1) hx hb dX1_work_22 (by decide) ?_
      refine lv_icmp_eq (tgt := 29) hx hb dX1_work_23 (by decide) (fun c3 => ?_) (fun c3 => ?_)
      · replace hM := i_pos hM c3
        refine lv_aload_n hx hb dX1_work_29 rfl (lv_at hl 0 rfl) ?_
        refine q_get (C := RX1) (T := TX1) (N := 6) (ci := 1) E (fun w h => List.mem_cons_of_mem _ (inX1 w h)) hw 12 rfl rfl 3 (by decide) (List.mem_cons_of_mem _ tb_272) (v := .ref (h 44)) rfl dX1_work_30 ?_
        refine q_get (C := RX7) (T := TX7) (N := 15) (ci := 7) E (fun w h => List.mem_cons_of_mem _ (inX7 w h)) hw 16 rfl rfl 0 (by decide) (List.mem_cons_of_mem _ tb_151) (v := .ref (h 16)) rfl dX1_work_33 ?_
        refine lv_iload_n hx hb dX1_work_36 rfl (lv_at hl 2 rfl) ?_
        refine q_ald E hw 17 (n := 60) rfl g2 (x := (σ 16 (ix x2))) rfl dX1_work_37 ?_
        refine lv_istore_n (lv' := [(3, .int (σ 16 (ix x2))), (0, .ref (h 42)), (1, .int x1), (2, .int x2)]) hx hb dX1_work_38 rfl hl (by decide) rfl (fun ls hl => ?_)
        refine lv_aload_n hx hb dX1_work_39 rfl (lv_at hl 1 rfl) ?_
        refine q_get (C := RX1) (T := TX1) (N := 6) (ci := 1) E (fun w h => List.mem_cons_of_mem _ (inX1 w h)) hw 12 rfl rfl 3 (by decide) (List.mem_cons_of_mem _ tb_272) (v := .ref (h 44)) rfl dX1_work_40 ?_
        refine q_get (C := RX7) (T := TX7) (N := 15) (ci := 7) E (fun w h => List.mem_cons_of_mem _ (inX7 w h)) hw 16 rfl rfl 6 (by decide) (List.mem_cons_of_mem _ tb_163) (v := .ref (h 22)) rfl dX1_work_43 ?_
        refine lv_iload_n hx hb dX1_work_46 rfl (lv_at hl 3 rfl) ?_
        refine lv_dup2_11 hx hb dX1_work_47 rfl rfl ?_
        refine q_ald E hw 23 (n := 60) rfl g2 (x := (σ 22 (ix x2))) rfl dX1_work_48 ?_
        refine lv_iload_n hx hb dX1_work_49 rfl (lv_at hl 2 rfl) ?_
        refine lv_iadd hx hb dX1_work_50 ?_
        refine q_ast E hw 23 (n := 60) rfl g2 (wK cA h (up σ 22 (ix x2) ((σ 22 (ix x2)) + x1)) ++ (wLg cA h (up σ 22 (ix x2) ((σ 22 (ix x2)) + x1)) L ++ (wC cA h (up σ 22 (ix x2) ((σ 22 (ix x2)) + x1)) ++ F))) st_K_Lg_C_22 dX1_work_51 (fun H locs hw => ?_)
        refine lv_aload_n hx hb dX1_work_52 rfl (lv_at hl 1 rfl) ?_
        refine q_get (C := RX1) (T := TX1) (N := 6) (ci := 1) E (fun w h => List.mem_cons_of_mem _ (inX1 w h)) hw 12 rfl rfl 3 (by decide) (List.mem_cons_of_mem _ tb_272) (v := .ref (h 44)) rfl dX1_work_53 ?_
        refine q_get (C := RX7) (T := TX7) (N := 15) (ci := 7) E (fun w h => List.mem_cons_of_mem _ (inX7 w h)) hw 16 rfl rfl 6 (by decide) (List.mem_cons_of_mem _ tb_163) (v := .ref (h 22)) rfl dX1_work_56 ?_
        refine lv_iload_n hx hb dX1_work_59 rfl (lv_at hl 3 rfl) ?_
        refine q_ald E hw 23 (n := 60) rfl g2 (x := ((up σ 22 (ix x2) ((σ 22 (ix x2)) + x1)) 22 (ix x2))) rfl dX1_work_60 ?_
        refine lv_aload_n hx hb dX1_work_61 rfl (lv_at hl 1 rfl) ?_
        refine q_get (C := RX1) (T := TX1) (N := 6) (ci := 1) E (fun w h => List.mem_cons_of_mem _ (inX1 w h)) hw 12 rfl rfl 1 (by decide) (List.mem_cons_of_mem _ tb_268) (v := .ref (h 40)) rfl dX1_work_62 ?_
        refine q_get (C := RX3) (T := TX3) (N := 7) (ci := 3) E (fun w h => List.mem_cons_of_mem _ (inX3 w h)) hw 0 rfl rfl 2 (by decide) (List.mem_cons_of_mem _ tb_117) (v := .ref (h 3)) rfl dX1_work_65 ?_
        refine lv_iload_n hx hb dX1_work_68 rfl (lv_at hl 0 rfl) ?_
        obtain ⟨g4, hM⟩ := g_some hM
        refine q_ald E hw 3 (n := 6) rfl g4 (x := (σ 3 (ix (σ 16 (ix x2))))) (congrFun (up_ne σ 22 (ix x2) ((σ 22 (ix x2)) + x1) 3 (by decide)) (ix (σ 16 (ix x2)))) dX1_work_69 ?_
        refine lv_icmp_ge (tgt := 76) hx hb dX1_work_70 (by decide) (fun c5 => ?_) (fun c5 => ?_)
        · replace hM := i_pos hM c5
          refine lv_aload_n hx hb dX1_work_76 rfl (lv_at hl 1 rfl) ?_
          refine q_get (C := RX1) (T := TX1) (N := 6) (ci := 1) E (fun w h => List.mem_cons_of_mem _ (inX1 w h)) hw 12 rfl rfl 3 (by decide) (List.mem_cons_of_mem _ tb_272) (v := .ref (h 44)) rfl dX1_work_77 ?_
          refine q_get (C := RX7) (T := TX7) (N := 15) (ci := 7) E (fun w h => List.mem_cons_of_mem _ (inX7 w h)) hw 16 rfl rfl 4 (by decide) (List.mem_cons_of_mem _ tb_157) (v := .ref (h 20)) rfl dX1_work_80 ?_
          refine lv_iload_n hx hb dX1_work_83 rfl (lv_at hl 3 rfl) ?_
          refine q_ald E hw 21 (n := 60) rfl g2 (x := (σ 20 (ix x2))) (congrFun (up_ne σ 22 (ix x2) ((σ 22 (ix x2)) + x1) 20 (by decide)) (ix x2)) dX1_work_84 ?_
          refine lv_aload_n hx hb dX1_work_85 rfl (lv_at hl 1 rfl) ?_
          refine q_get (C := RX1) (T := TX1) (N := 6) (ci := 1) E (fun w h => List.mem_cons_of_mem _ (inX1 w h)) hw 12 rfl rfl 1 (by decide) (List.mem_cons_of_mem _ tb_268) (v := .ref (h 40)) rfl dX1_work_86 ?_
          refine q_get (C := RX3) (T := TX3) (N := 7) (ci := 3) E (fun w h => List.mem_cons_of_mem _ (inX3 w h)) hw 0 rfl rfl 3 (by decide) (List.mem_cons_of_mem _ tb_119) (v := .ref (h 4)) rfl dX1_work_89 ?_
          refine lv_iload_n hx hb dX1_work_92 rfl (lv_at hl 0 rfl) ?_
          refine q_ald E hw 4 (n := 6) rfl g4 (x := (σ 4 (ix (σ 16 (ix x2))))) (congrFun (up_ne σ 22 (ix x2) ((σ 22 (ix x2)) + x1) 4 (by decide)) (ix (σ 16 (ix x2)))) dX1_work_93 ?_
          refine lv_icmp_lt (tgt := 112) hx hb dX1_work_94 (by decide) (fun c6 => ?_) (fun c6 => ?_)
          · replace hM := i_pos hM c6
            refine lv_aload_n hx hb dX1_work_112 rfl (lv_at hl 1 rfl) ?_
            refine lv_iload_n hx hb dX1_work_113 rfl (lv_at hl 3 rfl) ?_
            refine lv_aload_n hx hb dX1_work_114 rfl (lv_at hl 1 rfl) ?_
            refine q_get (C := RX1) (T := TX1) (N := 6) (ci := 1) E (fun w h => List.mem_cons_of_mem _ (inX1 w h)) hw 12 rfl rfl 5 (by decide) (List.mem_cons_of_mem _ tb_276) (v := .int (σ 12 0)) (q_fld (congrFun (up_ne σ 22 (ix x2) ((σ 22 (ix x2)) + x1) 12 (by decide)) 0) rfl) dX1_work_115 ?_
            refine lv_iload_n hx hb dX1_work_118 rfl (lv_at hl 2 rfl) ?_
            refine lv_iadd hx hb dX1_work_119 ?_
            obtain ⟨p7, h8, hM⟩ := b_some hM
            refine q_cv (As := [.int x2, .int ((σ 12 0) + x1)]) (rest := []) E hw hl (c_X1_raise l D cA tS A h L F x2 ((σ 12 0) + x1) (up σ 22 (ix x2) ((σ 22 (ix x2)) + x1)) p7.1 p7.2 h8) 2 (bwV bw_c tb_604 tb_606 tb_16 tb_49 tb_607) rfl (by decide +kernel) ⟨Nat.le_of_ble_eq_true rfl, Nat.le_of_ble_eq_true rfl⟩ 12 1 (T := TX1) (N := 6) rfl rfl rfl rfl (Nat.le_of_ble_eq_true rfl) ⟨Nat.zero_le _, Nat.zero_le _⟩ dX1_work_120 (fun H locs hw => ?_)
            refine lv_pop hx hb dX1_work_123 rfl ?_
            refine lv_iinc (v := (x2 + 1)) (lv' := [(2, .int (x2 + 1)), (3, .int (σ 16 (ix x2))), (0, .ref (h 42)), (1, .int x1)]) hx hb dX1_work_124 hl (k := 3) rfl rfl (by decide) rfl (fun ls hl => ?_)
            refine lv_goto (tgt := 2) hx hb dX1_work_127 (by decide) ?_
            exact ih _ _ _ _ hM _ _ hw _ (lv_sub hl [2, 3, 0] rfl)
          · replace hM := i_neg hM c6
            refine lv_aload_n hx hb dX1_work_97 rfl (lv_at hl 1 rfl) ?_
            refine lv_iload_n hx hb dX1_work_98 rfl (lv_at hl 3 rfl) ?_
            refine lv_aload_n hx hb dX1_work_99 rfl (lv_at hl 1 rfl) ?_
            refine q_get (C := RX1) (T := TX1) (N := 6) (ci := 1) E (fun w h => List.mem_cons_of_mem _ (inX1 w h)) hw 12 rfl rfl 5 (by decide) (List.mem_cons_of_mem _ tb_276) (v := .int (σ 12 0)) (q_fld (congrFun (up_ne σ 22 (ix x2) ((σ 22 (ix x2)) + x1) 12 (by decide)) 0) rfl) dX1_work_100 ?_
            refine lv_iload_n hx hb dX1_work_103 rfl (lv_at hl 2 rfl) ?_
            refine lv_iadd hx hb dX1_work_104 ?_
            obtain ⟨p9, h10, hM⟩ := b_some hM
            refine q_cv (As := [.int x2, .int ((σ 12 0) + x1)]) (rest := []) E hw hl (c_X1_finish l D cA tS A h L F N x2 ((σ 12 0) + x1) (up σ 22 (ix x2) ((σ 22 (ix x2)) + x1)) p9.1 p9.2 h10) 2 (bwV bw_c tb_608 tb_610 tb_17 tb_49 tb_611) rfl (by decide +kernel) ⟨Nat.le_of_ble_eq_true rfl, Nat.le_of_ble_eq_true rfl⟩ 12 1 (T := TX1) (N := 6) rfl rfl rfl rfl (Nat.le_of_ble_eq_true rfl) ⟨Nat.zero_le _, Nat.zero_le _⟩ dX1_work_105 (fun H locs hw => ?_)
            refine lv_pop hx hb dX1_work_108 rfl ?_
            refine lv_goto (tgt := 124) hx hb dX1_work_109 (by decide) ?_
            refine lv_iinc (v := (x2 + 1)) (lv' := [(2, .int (x2 + 1)), (3, .int (σ 16 (ix x2))), (0, .ref (h 42)), (1, .int x1)]) hx hb dX1_work_124 hl (k := 3) rfl rfl (by decide) rfl (fun ls hl => ?_)
            refine lv_goto (tgt := 2) hx hb dX1_work_127 (by decide) ?_
            exact ih _ _ _ _ hM _ _ hw _ (lv_sub hl [2, 3, 0] rfl)
        · replace hM := i_neg hM c5
          refine lv_goto (tgt := 124) hx hb dX1_work_73 (by decide) ?_
          refine lv_iinc (v := (x2 + 1)) (lv' := [(2, .int (x2 + 1)), (3, .int (σ 16 (ix x2))), (0, .ref (h 42)), (1, .int x1)]) hx hb dX1_work_124 hl (k := 3) rfl rfl (by decide) rfl (fun ls hl => ?_)
          refine lv_goto (tgt := 2) hx hb dX1_work_127 (by decide) ?_
          exact ih _ _ _ _ hM _ _ hw _ (lv_sub hl [2, 3, 0] rfl)
      · replace hM := i_neg hM c3
        refine lv_goto (tgt := 124) hx hb dX1_work_26 (by decide) ?_
        refine lv_iinc (v := (x2 + 1)) (lv' := [(2, .int (x2 + 1)), (0, .ref (h 42)), (1, .int x1)]) hx hb dX1_work_124 hl (k := 2) rfl rfl (by decide) rfl (fun ls hl => ?_)
        refine lv_goto (tgt := 2) hx hb dX1_work_127 (by decide) ?_
        exact ih _ _ _ _ hM _ _ hw _ (lv_sub hl [1, 2, 0] rfl)
set_option maxRecDepth 100000 in
set_option maxHeartbeats 4000000 in
theorem c_X1_work (l : Launch) (D : va_G) (cA : Nat → ClassId) (tS : Nat → Nat) (A : Nat → Prop) (h : Nat → Nat) (L : Nat) (F : va_W) (N : Nat) (x1 : Int32) (σ : Sg) (s0 : Sg) (hM : f_X1_work N L x1 σ = some s0) : Ct l yX1_work (Cond.code yX1_work cX1_work 4 none :: bw) 3 70 D cA tS A [.ref (h 42), .int x1] (wK cA h σ ++ (wLg cA h σ L ++ (wC cA h σ ++ F))) none (wK cA h s0 ++ (wLg cA h s0 L ++ (wC cA h s0 ++ F))) := by
  refine ct_of (by decide +kernel) (Nat.le_of_ble_eq_true rfl) ?_
  intro p e s m below meth c E hw ls hl
  replace E : Ev p cX1_work 4 none RX1 (Cond.code yX1_work cX1_work 4 none :: bw) D cA tS A s m _ meth c := E
  replace hl : lv_has ls 4 [(0, .ref (h 42)), (1, .int x1)] := hl
  have hx := E.1.1
  have hb := E.1.2.1
  unfold f_X1_work at hM
  refine lv_iconst (v := 0) hx hb dX1_work_0 (by decide) ?_
  refine lv_istore_n (lv' := [(2, .int 0), (0, .ref (h 42)), (1, .int x1)]) hx hb dX1_work_1 rfl hl (by decide) rfl (fun ls hl => ?_)
  exact s_X1_work_2 l D cA tS A h L F N E N _ _ _ _ hM _ _ hw _ (lv_sub hl [1, 2, 0] rfl)
set_option maxRecDepth 100000 in
set_option maxHeartbeats 4000000 in
theorem s_X1_climbWaiting_2 (l : Launch) (D : va_G) (cA : Nat → ClassId) (tS : Nat → Nat) (A : Nat → Prop) (h : Nat → Nat) (L : Nat) (F : va_W) (N : Nat) {p : Program} {e : Env} {s : State} {m : MethodId} {args : Array Value} {below : List Frame} {meth : Method} {c : Code} (E : Ev p cX1_climbWaiting 3 none RX1 (Cond.code yX1_climbWaiting cX1_climbWaiting 3 none :: bw) D cA tS A s m args meth c) : ∀ (n : Nat) (x1 : Int32) (x2 : Int32) (σ : Sg) (s0 : Sg) (hM : f_X1_climbWaiting_2 N L n x1 x2 σ = some s0) (H : Heap) (locs : List Loc) (hw : Wd D A (wK cA h σ ++ (wLg cA h σ L ++ (wC cA h σ ++ F))) s.heap H locs) (ls : Array Slot) (hl : lv_has ls 3 [(0, .ref (h 42)), (1, .int x1), (2, .int x2)]), W p l e ({ frames := 2, cells := 0, slots := 0, locals := 46 } : Room) s m args below meth c H locs 0 0 (MQ below (QW D A none (wK cA h s0 ++ (wLg cA h s0 L ++ (wC cA h s0 ++ F)))) args s 0 0 A) (F0 m 2 ls []) := by
  have hx := E.1.1
  have hb := E.1.2.1
  intro n
  induction n with
  | zero =>
    intro x1 x2 σ s0 hM
    cases hM
  | succ n ih =>
    intro x1 x2 σ s0 hM H locs hw ls hl
    rw [f_X1_climbWaiting_2] at hM
    refine lv_iload_n hx hb dX1_climbWaiting_2 rfl (lv_at hl 2 rfl) ?_
    refine lv_aload_n hx hb dX1_climbWaiting_3 rfl (lv_at hl 0 rfl) ?_
    refine q_get (C := RX1) (T := TX1) (N := 6) (ci := 1) E (fun w h => List.mem_cons_of_mem _ (inX1 w h)) hw 12 rfl rfl 3 (by decide) (List.mem_cons_of_mem _ tb_272) (v := .ref (h 44)) rfl dX1_climbWaiting_4 ?_
    refine q_get (C := RX7) (T := TX7) (N := 15) (ci := 7) E (fun w h => List.mem_cons_of_mem _ (inX7 w h)) hw 16 rfl rfl 14 (by decide) (List.mem_cons_of_mem _ tb_185) (v := .int (σ 15 0)) rfl dX1_climbWaiting_7 ?_
    refine lv_icmp_ge (tgt := 75) hx hb dX1_climbWaiting_10 (by decide) (fun c1 => ?_) (fun c1 => ?_)
    · replace hM := i_pos hM c1
      cases hM
      exact q_retv E hw dX1_climbWaiting_75
    · replace hM := i_neg hM c1
      refine lv_aload_n hx hb dX1_climbWaiting_13 rfl (lv_at hl 0 rfl) ?_
      refine q_get (C := RX1) (T := TX1) (N := 6) (ci := 1) E (fun w h => List.mem_cons_of_mem _ (inX1 w h)) hw 12 rfl rfl 3 (by decide) (List.mem_cons_of_mem _ tb_272) (v := .ref (h 44)) rfl dX1_climbWaiting_14 ?_
      refine q_get (C := RX7) (T := TX7) (N := 15) (ci := 7) E (fun w h => List.mem_cons_of_mem _ (inX7 w h)) hw 16 rfl rfl 5 (by decide) (List.mem_cons_of_mem _ tb_160) (v := .ref (h 21)) rfl dX1_climbWaiting_17 ?_
      refine lv_iload_n hx hb dX1_climbWaiting_20 rfl (lv_at hl 2 rfl) ?_
      obtain ⟨g2, hM⟩ := g_some hM
      refine q_ald E hw 22 (n := 60) rfl g2 (x := (σ 21 (ix x2))) rfl dX1_climbWaiting_21 ?_
      refine lv_if_ne (tgt := 69) hx hb dX1_climbWaiting_22 (by decide) (fun c3 => ?_) (fun c3 => ?_)
      · replace hM := i_neg hM c3
        refine lv_iinc (v := (x2 + 1)) (lv' := [(2, .int (x2 + 1)), (0, .ref (h 42)), (1, .int x1)]) hx hb dX1_climbWaiting_69 hl (k := 2) rfl rfl (by decide) rfl (fun ls hl => ?_)
        refine lv_goto (tgt := 2) hx hb dX1_climbWaiting_72 (by decide) ?_
        exact ih _ _ _ _ hM _ _ hw _ (lv_sub hl [1, 2, 0] rfl)
      · replace hM := i_pos hM c3
        refine lv_aload_n hx hb dX1_climbWaiting_25 rfl (lv_at hl 0 rfl) ?_
        refine lv_iload_n hx hb dX1_climbWaiting_26 rfl (lv_at hl 2 rfl) ?_
        obtain ⟨p4, h5, hM⟩ := b_some hM
        refine q_cv (As := [.int x2]) (rest := []) E hw hl (c_X1_climbsByItself l D cA tS A h L F x2 σ p4 h5) 1 (bwV bw_c tb_835 tb_837 tb_36 tb_49 tb_838) rfl (by decide +kernel) ⟨Nat.le_of_ble_eq_true rfl, Nat.le_of_ble_eq_true rfl⟩ 12 1 (T := TX1) (N := 6) rfl rfl rfl rfl (Nat.le_of_ble_eq_true rfl) ⟨Nat.zero_le _, Nat.zero_le _⟩ dX1_climbWaiting_27 (fun H locs hw => ?_)
        refine lv_if_eq (tgt := 69) hx hb dX1_climbWaiting_30 (by decide) (fun c6 => ?_) (fun c6 => ?_)
        · replace hM := i_pos hM c6
          refine lv_iinc (v := (x2 + 1)) (lv' := [(2, .int (x2 + 1)), (0, .ref (h 42)), (1, .int x1)]) hx hb dX1_climbWaiting_69 hl (k := 2) rfl rfl (by decide) rfl (fun ls hl => ?_)
          refine lv_goto (tgt := 2) hx hb dX1_climbWaiting_72 (by decide) ?_
          exact ih _ _ _ _ hM _ _ hw _ (lv_sub hl [1, 2, 0] rfl)
        · replace hM := i_neg hM c6
          refine lv_aload_n hx hb dX1_climbWaiting_33 rfl (lv_at hl 0 rfl) ?_
          refine q_get (C := RX1) (T := TX1) (N := 6) (ci := 1) E (fun w h => List.mem_cons_of_mem _ (inX1 w h)) hw 12 rfl rfl 3 (by decide) (List.mem_cons_of_mem _ tb_272) (v := .ref (h 44)) rfl dX1_climbWaiting_34 ?_
          refine q_get (C := RX7) (T := TX7) (N := 15) (ci := 7) E (fun w h => List.mem_cons_of_mem _ (inX7 w h)) hw 16 rfl rfl 7 (by decide) (List.mem_cons_of_mem _ tb_166) (v := .ref (h 23)) rfl dX1_climbWaiting_37 ?_
          refine lv_iload_n hx hb dX1_climbWaiting_40 rfl (lv_at hl 2 rfl) ?_
          refine q_ald E hw 24 (n := 60) rfl g2 (x := (σ 23 (ix x2))) rfl dX1_climbWaiting_41 ?_
          refine lv_aload_n hx hb dX1_climbWaiting_42 rfl (lv_at hl 0 rfl) ?_
          refine q_get (C := RX1) (T := TX1) (N := 6) (ci := 1) E (fun w h => List.mem_cons_of_mem _ (inX1 w h)) hw 12 rfl rfl 1 (by decide) (List.mem_cons_of_mem _ tb_268) (v := .ref (h 40)) rfl dX1_climbWaiting_43 ?_
          refine q_get (C := RX3) (T := TX3) (N := 7) (ci := 3) E (fun w h => List.mem_cons_of_mem _ (inX3 w h)) hw 0 rfl rfl 4 (by decide) (List.mem_cons_of_mem _ tb_121) (v := .ref (h 5)) rfl dX1_climbWaiting_46 ?_
          refine lv_aload_n hx hb dX1_climbWaiting_49 rfl (lv_at hl 0 rfl) ?_
          refine q_get (C := RX1) (T := TX1) (N := 6) (ci := 1) E (fun w h => List.mem_cons_of_mem _ (inX1 w h)) hw 12 rfl rfl 3 (by decide) (List.mem_cons_of_mem _ tb_272) (v := .ref (h 44)) rfl dX1_climbWaiting_50 ?_
          refine q_get (C := RX7) (T := TX7) (N := 15) (ci := 7) E (fun w h => List.mem_cons_of_mem _ (inX7 w h)) hw 16 rfl rfl 0 (by decide) (List.mem_cons_of_mem _ tb_151) (v := .ref (h 16)) rfl dX1_climbWaiting_53 ?_
          refine lv_iload_n hx hb dX1_climbWaiting_56 rfl (lv_at hl 2 rfl) ?_
          refine q_ald E hw 17 (n := 60) rfl g2 (x := (σ 16 (ix x2))) rfl dX1_climbWaiting_57 ?_
          obtain ⟨g7, hM⟩ := g_some hM
          refine q_ald E hw 5 (n := 6) rfl g7 (x := (σ 5 (ix (σ 16 (ix x2))))) rfl dX1_climbWaiting_58 ?_
          refine lv_icmp_lt (tgt := 69) hx hb dX1_climbWaiting_59 (by decide) (fun c8 => ?_) (fun c8 => ?_)
          · replace hM := i_pos hM c8
            refine lv_iinc (v := (x2 + 1)) (lv' := [(2, .int (x2 + 1)), (0, .ref (h 42)), (1, .int x1)]) hx hb dX1_climbWaiting_69 hl (k := 2) rfl rfl (by decide) rfl (fun ls hl => ?_)
            refine lv_goto (tgt := 2) hx hb dX1_climbWaiting_72 (by decide) ?_
            exact ih _ _ _ _ hM _ _ hw _ (lv_sub hl [1, 2, 0] rfl)
          · replace hM := i_neg hM c8
            refine lv_aload_n hx hb dX1_climbWaiting_62 rfl (lv_at hl 0 rfl) ?_
            refine lv_iload_n hx hb dX1_climbWaiting_63 rfl (lv_at hl 2 rfl) ?_
            refine lv_iload_n hx hb dX1_climbWaiting_64 rfl (lv_at hl 1 rfl) ?_
            obtain ⟨p9, h10, hM⟩ := b_some hM
            refine q_cv (As := [.int x2, .int x1]) (rest := []) E hw hl (c_X1_raise l D cA tS A h L F x2 x1 σ p9.1 p9.2 h10) 2 (bwV bw_c tb_604 tb_606 tb_16 tb_49 tb_607) rfl (by decide +kernel) ⟨Nat.le_of_ble_eq_true rfl, Nat.le_of_ble_eq_true rfl⟩ 12 1 (T := TX1) (N := 6) rfl rfl rfl rfl (Nat.le_of_ble_eq_true rfl) ⟨Nat.zero_le _, Nat.zero_le _⟩ dX1_climbWaiting_65 (fun H locs hw => ?_)
            refine lv_pop hx hb dX1_climbWaiting_68 rfl ?_
            refine lv_iinc (v := (x2 + 1)) (lv' := [(2, .int (x2 + 1)), (0, .ref (h 42)), (1, .int x1)]) hx hb dX1_climbWaiting_69 hl (k := 2) rfl rfl (by decide) rfl (fun ls hl => ?_)
            refine lv_goto (tgt := 2) hx hb dX1_climbWaiting_72 (by decide) ?_
            exact ih _ _ _ _ hM _ _ hw _ (lv_sub hl [1, 2, 0] rfl)
set_option maxRecDepth 100000 in
set_option maxHeartbeats 4000000 in
theorem c_X1_climbWaiting (l : Launch) (D : va_G) (cA : Nat → ClassId) (tS : Nat → Nat) (A : Nat → Prop) (h : Nat → Nat) (L : Nat) (F : va_W) (N : Nat) (x1 : Int32) (σ : Sg) (s0 : Sg) (hM : f_X1_climbWaiting N L x1 σ = some s0) : Ct l yX1_climbWaiting (Cond.code yX1_climbWaiting cX1_climbWaiting 3 none :: bw) 2 46 D cA tS A [.ref (h 42), .int x1] (wK cA h σ ++ (wLg cA h σ L ++ (wC cA h σ ++ F))) none (wK cA h s0 ++ (wLg cA h s0 L ++ (wC cA h s0 ++ F))) := by
  refine ct_of (by decide +kernel) (Nat.le_of_ble_eq_true rfl) ?_
  intro p e s m below meth c E hw ls hl
  replace E : Ev p cX1_climbWaiting 3 none RX1 (Cond.code yX1_climbWaiting cX1_climbWaiting 3 none :: bw) D cA tS A s m _ meth c := E
  replace hl : lv_has ls 3 [(0, .ref (h 42)), (1, .int x1)] := hl
  have hx := E.1.1
  have hb := E.1.2.1
  unfold f_X1_climbWaiting at hM
  refine lv_iconst (v := 0) hx hb dX1_climbWaiting_0 (by decide) ?_
  refine lv_istore_n (lv' := [(2, .int 0), (0, .ref (h 42)), (1, .int x1)]) hx hb dX1_climbWaiting_1 rfl hl (by decide) rfl (fun ls hl => ?_)
  exact s_X1_climbWaiting_2 l D cA tS A h L F N E N _ _ _ _ hM _ _ hw _ (lv_sub hl [1, 2, 0] rfl)
set_option maxRecDepth 100000 in
set_option maxHeartbeats 4000000 in
theorem s_X1_passUntil_62 (l : Launch) (D : va_G) (cA : Nat → ClassId) (tS : Nat → Nat) (A : Nat → Prop) (h : Nat → Nat) (L : Nat) (F : va_W) (N : Nat) (k2 : Int32 → Int32 → Sg → Option (Sg)) {p : Program} {e : Env} {s : State} {m : MethodId} {args : Array Value} {below : List Frame} {meth : Method} {c : Code} (E : Ev p cX1_passUntil 5 none RX1 (Cond.code yX1_passUntil cX1_passUntil 5 none :: bw) D cA tS A s m args meth c) (hk2 : ∀ (x1 : Int32) (x2 : Int32) (σ : Sg) (s0 : Sg) (hM : k2 x1 x2 σ = some s0) (H : Heap) (locs : List Loc) (hw : Wd D A (wK cA h σ ++ (wLg cA h σ L ++ (wC cA h σ ++ F))) s.heap H locs) (ls : Array Slot) (hl : lv_has ls 5 [(0, .ref (h 42)), (1, .int x1), (2, .int x2)]), W p l e ({ frames := 4, cells := 0, slots := 0, locals := 93 } : Room) s m args below meth c H locs 0 0 (MQ below (QW D A none (wK cA h s0 ++ (wLg cA h s0 L ++ (wC cA h s0 ++ F)))) args s 0 0 A) (F0 m 2 ls [])) : ∀ (x1 : Int32) (x2 : Int32) (x4 : Int32) (σ : Sg) (s0 : Sg) (hM : f_X1_passUntil_62 N L k2 x1 x2 x4 σ = some s0) (H : Heap) (locs : List Loc) (hw : Wd D A (wK cA h σ ++ (wLg cA h σ L ++ (wC cA h σ ++ F))) s.heap H locs) (ls : Array Slot) (hl : lv_has ls 5 [(0, .ref (h 42)), (1, .int x1), (2, .int x2), (4, .int x4)]), W p l e ({ frames := 4, cells := 0, slots := 0, locals := 93 } : Room) s m args below meth c H locs 0 0 (MQ below (QW D A none (wK cA h s0 ++ (wLg cA h s0 L ++ (wC cA h s0 ++ F)))) args s 0 0 A) (F0 m 62 ls []) := by
  have hx := E.1.1
  have hb := E.1.2.1
  intro x1 x2 x4 σ s0 hM H locs hw ls hl
  unfold f_X1_passUntil_62 at hM
  refine lv_aload_n hx hb dX1_passUntil_62 rfl (lv_at hl 0 rfl) ?_
  refine lv_aload_n hx hb dX1_passUntil_63 rfl (lv_at hl 0 rfl) ?_
  refine q_get (C := RX1) (T := TX1) (N := 6) (ci := 1) E (fun w h => List.mem_cons_of_mem _ (inX1 w h)) hw 12 rfl rfl 5 (by decide) (List.mem_cons_of_mem _ tb_276) (v := .int (σ 12 0)) rfl dX1_passUntil_64 ?_
  refine lv_iload hx hb dX1_passUntil_67 (lv_at hl 3 rfl) ?_
  refine lv_iadd hx hb dX1_passUntil_69 ?_
  obtain ⟨p1, h2, hM⟩ := b_some hM
  refine q_cvv (As := [.int ((σ 12 0) + x4)]) (rest := []) E hw hl (c_X1_climbWaiting l D cA tS A h L F N ((σ 12 0) + x4) σ p1 h2) 1 (bwV bw_c tb_852 tb_854 tb_40 tb_49 tb_855) rfl (by decide +kernel) ⟨Nat.le_of_ble_eq_true rfl, Nat.le_of_ble_eq_true rfl⟩ 12 1 (T := TX1) (N := 6) rfl rfl rfl rfl (Nat.le_of_ble_eq_true rfl) ⟨Nat.zero_le _, Nat.zero_le _⟩ dX1_passUntil_70 (fun H locs hw => ?_)
  refine lv_aload_n hx hb dX1_passUntil_73 rfl (lv_at hl 0 rfl) ?_
  refine lv_dup hx hb dX1_passUntil_74 rfl ?_
  refine q_get (C := RX1) (T := TX1) (N := 6) (ci := 1) E (fun w h => List.mem_cons_of_mem _ (inX1 w h)) hw 12 rfl rfl 5 (by decide) (List.mem_cons_of_mem _ tb_276) (v := .int (p1 12 0)) rfl dX1_passUntil_75 ?_
  refine lv_iload hx hb dX1_passUntil_78 (lv_at hl 3 rfl) ?_
  refine lv_iadd hx hb dX1_passUntil_80 ?_
  refine q_puti (C := RX1) (T := TX1) (N := 6) (ci := 1) E (fun w h => List.mem_cons_of_mem _ (inX1 w h)) tyX1 tyX1_ok nmX1 hw 12 rfl rfl 5 (by decide) (List.mem_cons_of_mem _ tb_276) rfl rfl (Nat.le_of_ble_eq_true rfl) (wK cA h (up p1 12 0 ((p1 12 0) + x4)) ++ (wLg cA h (up p1 12 0 ((p1 12 0) + x4)) L ++ (wC cA h (up p1 12 0 ((p1 12 0) + x4)) ++ F))) st_K_Lg_C_12 dX1_passUntil_81 (fun H locs hw => ?_)
  refine lv_iinc (v := (x2 + 1)) (lv' := [(2, .int (x2 + 1)), (0, .ref (h 42)), (1, .int x1), (4, .int x4)]) hx hb dX1_passUntil_84 hl (k := 2) rfl rfl (by decide) rfl (fun ls hl => ?_)
  refine lv_goto (tgt := 2) hx hb dX1_passUntil_87 (by decide) ?_
  exact hk2 _ _ _ _ hM _ _ hw _ (lv_sub hl [1, 2, 0] rfl)
set_option maxRecDepth 100000 in
set_option maxHeartbeats 4000000 in
theorem s_X1_passUntil_37 (l : Launch) (D : va_G) (cA : Nat → ClassId) (tS : Nat → Nat) (A : Nat → Prop) (h : Nat → Nat) (L : Nat) (F : va_W) (N : Nat) (k2 : Int32 → Int32 → Sg → Option (Sg)) {p : Program} {e : Env} {s : State} {m : MethodId} {args : Array Value} {below : List Frame} {meth : Method} {c : Code} (E : Ev p cX1_passUntil 5 none RX1 (Cond.code yX1_passUntil cX1_passUntil 5 none :: bw) D cA tS A s m args meth c) (hk2 : ∀ (x1 : Int32) (x2 : Int32) (σ : Sg) (s0 : Sg) (hM : k2 x1 x2 σ = some s0) (H : Heap) (locs : List Loc) (hw : Wd D A (wK cA h σ ++ (wLg cA h σ L ++ (wC cA h σ ++ F))) s.heap H locs) (ls : Array Slot) (hl : lv_has ls 5 [(0, .ref (h 42)), (1, .int x1), (2, .int x2)]), W p l e ({ frames := 4, cells := 0, slots := 0, locals := 93 } : Room) s m args below meth c H locs 0 0 (MQ below (QW D A none (wK cA h s0 ++ (wLg cA h s0 L ++ (wC cA h s0 ++ F)))) args s 0 0 A) (F0 m 2 ls [])) : ∀ (x1 : Int32) (x2 : Int32) (x3 : Int32) (σ : Sg) (s0 : Sg) (hM : f_X1_passUntil_37 N L k2 x1 x2 x3 σ = some s0) (H : Heap) (locs : List Loc) (hw : Wd D A (wK cA h σ ++ (wLg cA h σ L ++ (wC cA h σ ++ F))) s.heap H locs) (ls : Array Slot) (hl : lv_has ls 5 [(0, .ref (h 42)), (1, .int x1), (2, .int x2), (3, .int x3)]), W p l e ({ frames := 4, cells := 0, slots := 0, locals := 93 } : Room) s m args below meth c H locs 0 0 (MQ below (QW D A none (wK cA h s0 ++ (wLg cA h s0 L ++ (wC cA h s0 ++ F)))) args s 0 0 A) (F0 m 37 ls []) := by
  have hx := E.1.1
  have hb := E.1.2.1
  intro x1 x2 x3 σ s0 hM H locs hw ls hl
  unfold f_X1_passUntil_37 at hM
  refine lv_aload_n hx hb dX1_passUntil_37 rfl (lv_at hl 0 rfl) ?_
  refine lv_iload_n hx hb dX1_passUntil_38 rfl (lv_at hl 1 rfl) ?_
  refine lv_iload_n hx hb dX1_passUntil_39 rfl (lv_at hl 3 rfl) ?_
  obtain ⟨p1, h2, hM⟩ := b_some hM
  refine q_cv (As := [.int x1, .int x3]) (rest := []) E hw hl (c_X1_stretch l D cA tS A h L F N x1 x3 σ p1 h2) 2 (bwV bw_c tb_804 tb_806 tb_33 tb_49 tb_807) rfl (by decide +kernel) ⟨Nat.le_of_ble_eq_true rfl, Nat.le_of_ble_eq_true rfl⟩ 12 1 (T := TX1) (N := 6) rfl rfl rfl rfl (Nat.le_of_ble_eq_true rfl) ⟨Nat.zero_le _, Nat.zero_le _⟩ dX1_passUntil_40 (fun H locs hw => ?_)
  refine lv_istore (lv' := [(4, .int p1), (0, .ref (h 42)), (1, .int x1), (2, .int x2), (3, .int x3)]) hx hb dX1_passUntil_43 hl (by decide) rfl (fun ls hl => ?_)
  refine lv_aload_n hx hb dX1_passUntil_45 rfl (lv_at hl 1 rfl) ?_
  refine lv_iload hx hb dX1_passUntil_46 (lv_at hl 0 rfl) ?_
  refine lv_iload_n hx hb dX1_passUntil_48 rfl (lv_at hl 4 rfl) ?_
  obtain ⟨p3, h4, hM⟩ := b_some hM
  refine q_cvv (As := [.int p1, .int x3]) (rest := []) E hw hl (c_X1_growClocks l D cA tS A h L F N p1 x3 σ p3 h4) 2 (bwV bw_c tb_840 tb_842 tb_37 tb_49 tb_843) rfl (by decide +kernel) ⟨Nat.le_of_ble_eq_true rfl, Nat.le_of_ble_eq_true rfl⟩ 12 1 (T := TX1) (N := 6) rfl rfl rfl rfl (Nat.le_of_ble_eq_true rfl) ⟨Nat.zero_le _, Nat.zero_le _⟩ dX1_passUntil_49 (fun H locs hw => ?_)
  refine lv_iload_n hx hb dX1_passUntil_52 rfl (lv_at hl 4 rfl) ?_
  refine lv_if_eq (tgt := 62) hx hb dX1_passUntil_53 (by decide) (fun c5 => ?_) (fun c5 => ?_)
  · replace hM := i_pos hM c5
    exact s_X1_passUntil_62 l D cA tS A h L F N k2 E hk2 _ _ _ _ _ hM _ _ hw _ (lv_sub hl [1, 2, 3, 0] rfl)
  · replace hM := i_neg hM c5
    refine lv_aload_n hx hb dX1_passUntil_56 rfl (lv_at hl 1 rfl) ?_
    refine lv_iload hx hb dX1_passUntil_57 (lv_at hl 0 rfl) ?_
    obtain ⟨p6, h7, hM⟩ := b_some hM
    refine q_cvv (As := [.int p1]) (rest := []) E hw hl (c_X1_work l D cA tS A h L F N p1 p3 p6 h7) 1 (bwV bw_c tb_848 tb_850 tb_39 tb_49 tb_851) rfl (by decide +kernel) ⟨Nat.le_of_ble_eq_true rfl, Nat.le_of_ble_eq_true rfl⟩ 12 1 (T := TX1) (N := 6) rfl rfl rfl rfl (Nat.le_of_ble_eq_true rfl) ⟨Nat.zero_le _, Nat.zero_le _⟩ dX1_passUntil_59 (fun H locs hw => ?_)
    exact s_X1_passUntil_62 l D cA tS A h L F N k2 E hk2 _ _ _ _ _ hM _ _ hw _ (lv_sub hl [1, 2, 3, 0] rfl)
set_option maxRecDepth 100000 in
set_option maxHeartbeats 4000000 in
theorem s_X1_passUntil_2 (l : Launch) (D : va_G) (cA : Nat → ClassId) (tS : Nat → Nat) (A : Nat → Prop) (h : Nat → Nat) (L : Nat) (F : va_W) (N : Nat) {p : Program} {e : Env} {s : State} {m : MethodId} {args : Array Value} {below : List Frame} {meth : Method} {c : Code} (E : Ev p cX1_passUntil 5 none RX1 (Cond.code yX1_passUntil cX1_passUntil 5 none :: bw) D cA tS A s m args meth c) : ∀ (n : Nat) (x1 : Int32) (x2 : Int32) (σ : Sg) (s0 : Sg) (hM : f_X1_passUntil_2 N L n x1 x2 σ = some s0) (H : Heap) (locs : List Loc) (hw : Wd D A (wK cA h σ ++ (wLg cA h σ L ++ (wC cA h σ ++ F))) s.heap H locs) (ls : Array Slot) (hl : lv_has ls 5 [(0, .ref (h 42)), (1, .int x1), (2, .int x2)]), W p l e ({ frames := 4, cells := 0, slots := 0, locals := 93 } : Room) s m args below meth c H locs 0 0 (MQ below (QW D A none (wK cA h s0 ++ (wLg cA h s0 L ++ (wC cA h s0 ++ F)))) args s 0 0 A) (F0 m 2 ls []) := by
  have hx := E.1.1
  have hb := E.1.2.1
  intro n
  induction n with
  | zero =>
    intro x1 x2 σ s0 hM
    cases hM
  | succ n ih =>
    intro x1 x2 σ s0 hM H locs hw ls hl
    rw [f_X1_passUntil_2] at hM
    refine lv_iload_n hx hb dX1_passUntil_2 rfl (lv_at hl 2 rfl) ?_
    refine lv_sipush (v := 10080) hx hb dX1_passUntil_3 (by decide) ?_
    refine lv_icmp_ge (tgt := 90) hx hb dX1_passUntil_6 (by decide) (fun c1 => ?_) (fun c1 => ?_)
    · replace hM := i_pos hM c1
      cases hM
      exact q_retv E hw dX1_passUntil_90
    · replace hM := i_neg hM c1
      refine lv_aload_n hx hb dX1_passUntil_9 rfl (lv_at hl 0 rfl) ?_
      refine q_get (C := RX1) (T := TX1) (N := 6) (ci := 1) E (fun w h => List.mem_cons_of_mem _ (inX1 w h)) hw 12 rfl rfl 5 (by decide) (List.mem_cons_of_mem _ tb_276) (v := .int (σ 12 0)) rfl dX1_passUntil_10 ?_
      refine lv_iload_n hx hb dX1_passUntil_13 rfl (lv_at hl 1 rfl) ?_
      refine lv_icmp_ge (tgt := 90) hx hb dX1_passUntil_14 (by decide) (fun c2 => ?_) (fun c2 => ?_)
      · replace hM := i_pos hM c2
        cases hM
        exact q_retv E hw dX1_passUntil_90
      · replace hM := i_neg hM c2
        refine lv_aload_n hx hb dX1_passUntil_17 rfl (lv_at hl 0 rfl) ?_
        refine q_get (C := RX1) (T := TX1) (N := 6) (ci := 1) E (fun w h => List.mem_cons_of_mem _ (inX1 w h)) hw 12 rfl rfl 0 (by decide) (List.mem_cons_of_mem _ tb_266) (v := .ref (h 43)) rfl dX1_passUntil_18 ?_
        refine lv_aload_n hx hb dX1_passUntil_21 rfl (lv_at hl 0 rfl) ?_
        refine q_get (C := RX1) (T := TX1) (N := 6) (ci := 1) E (fun w h => List.mem_cons_of_mem _ (inX1 w h)) hw 12 rfl rfl 5 (by decide) (List.mem_cons_of_mem _ tb_276) (v := .int (σ 12 0)) rfl dX1_passUntil_22 ?_
        obtain ⟨p3, h4, hM⟩ := b_some hM
        refine q_cv (As := [.int (σ 12 0)]) (rest := []) E hw hl (c_X0_opensAt l D cA tS A h L F (σ 12 0) σ p3 h4) 1 (bwV bw_c tb_775 tb_776 tb_777 tb_50 tb_778) rfl (by decide +kernel) ⟨Nat.le_of_ble_eq_true rfl, Nat.le_of_ble_eq_true rfl⟩ 13 0 (T := TX0) (N := 2) rfl rfl rfl rfl (Nat.le_of_ble_eq_true rfl) ⟨Nat.zero_le _, Nat.zero_le _⟩ dX1_passUntil_25 (fun H locs hw => ?_)
        refine lv_istore_n (lv' := [(3, .int p3), (0, .ref (h 42)), (1, .int x1), (2, .int x2)]) hx hb dX1_passUntil_28 rfl hl (by decide) rfl (fun ls hl => ?_)
        refine lv_iload_n hx hb dX1_passUntil_29 rfl (lv_at hl 0 rfl) ?_
        refine lv_if_eq (tgt := 37) hx hb dX1_passUntil_30 (by decide) (fun c5 => ?_) (fun c5 => ?_)
        · replace hM := i_pos hM c5
          exact s_X1_passUntil_37 l D cA tS A h L F N (fun x1 x2 σ => f_X1_passUntil_2 N L n x1 x2 σ) E ih _ _ _ _ _ hM _ _ hw _ (lv_sub hl [1, 2, 3, 0] rfl)
        · replace hM := i_neg hM c5
          refine lv_aload_n hx hb dX1_passUntil_33 rfl (lv_at hl 1 rfl) ?_
          obtain ⟨p6, h7, hM⟩ := b_some hM
          refine q_cvv (As := []) (rest := []) E hw hl (c_X1_takeTickets l D cA tS A h L F N σ p6 h7) 0 (bwV bw_c tb_780 tb_782 tb_29 tb_49 tb_783) rfl (by decide +kernel) ⟨Nat.le_of_ble_eq_true rfl, Nat.le_of_ble_eq_true rfl⟩ 12 1 (T := TX1) (N := 6) rfl rfl rfl rfl (Nat.le_of_ble_eq_true rfl) ⟨Nat.zero_le _, Nat.zero_le _⟩ dX1_passUntil_34 (fun H locs hw => ?_)
          exact s_X1_passUntil_37 l D cA tS A h L F N (fun x1 x2 σ => f_X1_passUntil_2 N L n x1 x2 σ) E ih _ _ _ _ _ hM _ _ hw _ (lv_sub hl [1, 2, 3, 0] rfl)
set_option maxRecDepth 100000 in
set_option maxHeartbeats 4000000 in
theorem c_X1_passUntil (l : Launch) (D : va_G) (cA : Nat → ClassId) (tS : Nat → Nat) (A : Nat → Prop) (h : Nat → Nat) (L : Nat) (F : va_W) (N : Nat) (x1 : Int32) (σ : Sg) (s0 : Sg) (hM : f_X1_passUntil N L x1 σ = some s0) : Ct l yX1_passUntil (Cond.code yX1_passUntil cX1_passUntil 5 none :: bw) 4 93 D cA tS A [.ref (h 42), .int x1] (wK cA h σ ++ (wLg cA h σ L ++ (wC cA h σ ++ F))) none (wK cA h s0 ++ (wLg cA h s0 L ++ (wC cA h s0 ++ F))) := by
  refine ct_of (by decide +kernel) (Nat.le_of_ble_eq_true rfl) ?_
  intro p e s m below meth c E hw ls hl
  replace E : Ev p cX1_passUntil 5 none RX1 (Cond.code yX1_passUntil cX1_passUntil 5 none :: bw) D cA tS A s m _ meth c := E
  replace hl : lv_has ls 5 [(0, .ref (h 42)), (1, .int x1)] := hl
  have hx := E.1.1
  have hb := E.1.2.1
  unfold f_X1_passUntil at hM
  refine lv_iconst (v := 0) hx hb dX1_passUntil_0 (by decide) ?_
  refine lv_istore_n (lv' := [(2, .int 0), (0, .ref (h 42)), (1, .int x1)]) hx hb dX1_passUntil_1 rfl hl (by decide) rfl (fun ls hl => ?_)
  exact s_X1_passUntil_2 l D cA tS A h L F N E N _ _ _ _ hM _ _ hw _ (lv_sub hl [1, 2, 0] rfl)
set_option maxRecDepth 100000 in
set_option maxHeartbeats 4000000 in
theorem s_X1_countLate_responseClock_response_6 (l : Launch) (D : va_G) (cA : Nat → ClassId) (tS : Nat → Nat) (A : Nat → Prop) (h : Nat → Nat) (L : Nat) (F : va_W) (N : Nat) {p : Program} {e : Env} {s : State} {m : MethodId} {args : Array Value} {below : List Frame} {meth : Method} {c : Code} (E : Ev p cX1_countLate 7 (some .int) RX1 (Cond.code yX1_countLate cX1_countLate 7 (some .int) :: bw) D cA tS A s m args meth c) : ∀ (n : Nat) (x1 : Int32) (x4 : Int32) (x5 : Int32) (σ : Sg) (r0 : Int32) (hM : f_X1_countLate_responseClock_response_6 N n x1 x4 x5 σ = some r0) (H : Heap) (locs : List Loc) (hw : Wd D A (wK cA h σ ++ (wLg cA h σ L ++ (wC cA h σ ++ F))) s.heap H locs) (ls : Array Slot) (hl : lv_has ls 7 [(0, .ref (h 42)), (1, .int x1), (2, .ref (h 24)), (3, .ref (h 1)), (4, .int x4), (5, .int x5)]), W p l e ({ frames := 0, cells := 0, slots := 0, locals := 0 } : Room) s m args below meth c H locs 0 0 (MQ below (QW D A (some (.int r0)) (wK cA h σ ++ (wLg cA h σ L ++ (wC cA h σ ++ F)))) args s 0 0 A) (F0 m 6 ls []) := by
  have hx := E.1.1
  have hb := E.1.2.1
  intro n
  induction n with
  | zero =>
    intro x1 x4 x5 σ r0 hM
    cases hM
  | succ n ih =>
    intro x1 x4 x5 σ r0 hM H locs hw ls hl
    rw [f_X1_countLate_responseClock_response_6] at hM
    refine lv_iload hx hb dX1_countLate_6 (lv_at hl 5 rfl) ?_
    refine lv_aload_n hx hb dX1_countLate_8 rfl (lv_at hl 0 rfl) ?_
    refine q_get (C := RX1) (T := TX1) (N := 6) (ci := 1) E (fun w h => List.mem_cons_of_mem _ (inX1 w h)) hw 12 rfl rfl 3 (by decide) (List.mem_cons_of_mem _ tb_272) (v := .ref (h 44)) rfl dX1_countLate_9 ?_
    refine q_get (C := RX7) (T := TX7) (N := 15) (ci := 7) E (fun w h => List.mem_cons_of_mem _ (inX7 w h)) hw 16 rfl rfl 14 (by decide) (List.mem_cons_of_mem _ tb_185) (v := .int (σ 15 0)) rfl dX1_countLate_12 ?_
    refine lv_icmp_ge (tgt := 61) hx hb dX1_countLate_15 (by decide) (fun c1 => ?_) (fun c1 => ?_)
    · replace hM := i_pos hM c1
      refine lv_iload hx hb dX1_countLate_61 (lv_at hl 4 rfl) ?_
      cases hM
      exact q_reti E hw dX1_countLate_63
    · replace hM := i_neg hM c1
      refine lv_aload_n hx hb dX1_countLate_18 rfl (lv_at hl 0 rfl) ?_
      refine q_get (C := RX1) (T := TX1) (N := 6) (ci := 1) E (fun w h => List.mem_cons_of_mem _ (inX1 w h)) hw 12 rfl rfl 3 (by decide) (List.mem_cons_of_mem _ tb_272) (v := .ref (h 44)) rfl dX1_countLate_19 ?_
      refine q_get (C := RX7) (T := TX7) (N := 15) (ci := 7) E (fun w h => List.mem_cons_of_mem _ (inX7 w h)) hw 16 rfl rfl 0 (by decide) (List.mem_cons_of_mem _ tb_151) (v := .ref (h 16)) rfl dX1_countLate_22 ?_
      refine lv_iload hx hb dX1_countLate_25 (lv_at hl 5 rfl) ?_
      obtain ⟨g2, hM⟩ := g_some hM
      refine q_ald E hw 17 (n := 60) rfl g2 (x := (σ 16 (ix x5))) rfl dX1_countLate_27 ?_
      refine lv_istore (lv' := [(6, .int (σ 16 (ix x5))), (0, .ref (h 42)), (1, .int x1), (2, .ref (h 24)), (3, .ref (h 1)), (4, .int x4), (5, .int x5)]) hx hb dX1_countLate_28 hl (by decide) rfl (fun ls hl => ?_)
      refine lv_iload_n hx hb dX1_countLate_30 rfl (lv_at hl 2 rfl) ?_
      refine lv_iconst (v := (-1)) hx hb dX1_countLate_31 (by decide) ?_
      refine lv_icmp_eq (tgt := 41) hx hb dX1_countLate_32 (by decide) (fun c3 => ?_) (fun c3 => ?_)
      · replace hM := i_pos hM c3
        refine lv_aload_n hx hb dX1_countLate_41 rfl (lv_at hl 3 rfl) ?_
        refine lv_iload hx hb dX1_countLate_42 (lv_at hl 6 rfl) ?_
        refine q_ald E hw 25 (n := 60) rfl g2 (x := (σ 24 (ix x5))) rfl dX1_countLate_44 ?_
        refine lv_aload_n hx hb dX1_countLate_45 rfl (lv_at hl 4 rfl) ?_
        refine lv_iload hx hb dX1_countLate_46 (lv_at hl 0 rfl) ?_
        obtain ⟨g4, hM⟩ := g_some hM
        refine q_ald E hw 1 (n := 6) rfl g4 (x := (σ 1 (ix (σ 16 (ix x5))))) rfl dX1_countLate_48 ?_
        refine lv_icmp_le (tgt := 55) hx hb dX1_countLate_49 (by decide) (fun c5 => ?_) (fun c5 => ?_)
        · replace hM := i_pos hM c5
          refine lv_iinc (v := (x5 + 1)) (lv' := [(5, .int (x5 + 1)), (6, .int (σ 16 (ix x5))), (0, .ref (h 42)), (1, .int x1), (2, .ref (h 24)), (3, .ref (h 1)), (4, .int x4)]) hx hb dX1_countLate_55 hl (k := 6) rfl rfl (by decide) rfl (fun ls hl => ?_)
          refine lv_goto (tgt := 6) hx hb dX1_countLate_58 (by decide) ?_
          exact ih _ _ _ _ _ hM _ _ hw _ (lv_sub hl [2, 3, 4, 5, 6, 0] rfl)
        · replace hM := i_neg hM c5
          refine lv_iinc (v := (x4 + 1)) (lv' := [(4, .int (x4 + 1)), (6, .int (σ 16 (ix x5))), (0, .ref (h 42)), (1, .int x1), (2, .ref (h 24)), (3, .ref (h 1)), (5, .int x5)]) hx hb dX1_countLate_52 hl (k := 5) rfl rfl (by decide) rfl (fun ls hl => ?_)
          refine lv_iinc (v := (x5 + 1)) (lv' := [(5, .int (x5 + 1)), (4, .int (x4 + 1)), (6, .int (σ 16 (ix x5))), (0, .ref (h 42)), (1, .int x1), (2, .ref (h 24)), (3, .ref (h 1))]) hx hb dX1_countLate_55 hl (k := 6) rfl rfl (by decide) rfl (fun ls hl => ?_)
          refine lv_goto (tgt := 6) hx hb dX1_countLate_58 (by decide) ?_
          exact ih _ _ _ _ _ hM _ _ hw _ (lv_sub hl [3, 4, 5, 6, 1, 0] rfl)
      · replace hM := i_neg hM c3
        refine lv_iload hx hb dX1_countLate_35 (lv_at hl 0 rfl) ?_
        refine lv_iload_n hx hb dX1_countLate_37 rfl (lv_at hl 2 rfl) ?_
        refine lv_icmp_ne (tgt := 55) hx hb dX1_countLate_38 (by decide) (fun c6 => ?_) (fun c6 => ?_)
        · replace hM := i_neg hM c6
          refine lv_iinc (v := (x5 + 1)) (lv' := [(5, .int (x5 + 1)), (6, .int (σ 16 (ix x5))), (0, .ref (h 42)), (1, .int x1), (2, .ref (h 24)), (3, .ref (h 1)), (4, .int x4)]) hx hb dX1_countLate_55 hl (k := 6) rfl rfl (by decide) rfl (fun ls hl => ?_)
          refine lv_goto (tgt := 6) hx hb dX1_countLate_58 (by decide) ?_
          exact ih _ _ _ _ _ hM _ _ hw _ (lv_sub hl [2, 3, 4, 5, 6, 0] rfl)
        · replace hM := i_pos hM c6
          refine lv_aload_n hx hb dX1_countLate_41 rfl (lv_at hl 3 rfl) ?_
          refine lv_iload hx hb dX1_countLate_42 (lv_at hl 6 rfl) ?_
          refine q_ald E hw 25 (n := 60) rfl g2 (x := (σ 24 (ix x5))) rfl dX1_countLate_44 ?_
          refine lv_aload_n hx hb dX1_countLate_45 rfl (lv_at hl 4 rfl) ?_
          refine lv_iload hx hb dX1_countLate_46 (lv_at hl 0 rfl) ?_
          obtain ⟨g7, hM⟩ := g_some hM
          refine q_ald E hw 1 (n := 6) rfl g7 (x := (σ 1 (ix (σ 16 (ix x5))))) rfl dX1_countLate_48 ?_
          refine lv_icmp_le (tgt := 55) hx hb dX1_countLate_49 (by decide) (fun c8 => ?_) (fun c8 => ?_)
          · replace hM := i_pos hM c8
            refine lv_iinc (v := (x5 + 1)) (lv' := [(5, .int (x5 + 1)), (6, .int (σ 16 (ix x5))), (0, .ref (h 42)), (1, .int x1), (2, .ref (h 24)), (3, .ref (h 1)), (4, .int x4)]) hx hb dX1_countLate_55 hl (k := 6) rfl rfl (by decide) rfl (fun ls hl => ?_)
            refine lv_goto (tgt := 6) hx hb dX1_countLate_58 (by decide) ?_
            exact ih _ _ _ _ _ hM _ _ hw _ (lv_sub hl [2, 3, 4, 5, 6, 0] rfl)
          · replace hM := i_neg hM c8
            refine lv_iinc (v := (x4 + 1)) (lv' := [(4, .int (x4 + 1)), (6, .int (σ 16 (ix x5))), (0, .ref (h 42)), (1, .int x1), (2, .ref (h 24)), (3, .ref (h 1)), (5, .int x5)]) hx hb dX1_countLate_52 hl (k := 5) rfl rfl (by decide) rfl (fun ls hl => ?_)
            refine lv_iinc (v := (x5 + 1)) (lv' := [(5, .int (x5 + 1)), (4, .int (x4 + 1)), (6, .int (σ 16 (ix x5))), (0, .ref (h 42)), (1, .int x1), (2, .ref (h 24)), (3, .ref (h 1))]) hx hb dX1_countLate_55 hl (k := 6) rfl rfl (by decide) rfl (fun ls hl => ?_)
            refine lv_goto (tgt := 6) hx hb dX1_countLate_58 (by decide) ?_
            exact ih _ _ _ _ _ hM _ _ hw _ (lv_sub hl [3, 4, 5, 6, 1, 0] rfl)
set_option maxRecDepth 100000 in
set_option maxHeartbeats 4000000 in
theorem c_X1_countLate_responseClock_response (l : Launch) (D : va_G) (cA : Nat → ClassId) (tS : Nat → Nat) (A : Nat → Prop) (h : Nat → Nat) (L : Nat) (F : va_W) (N : Nat) (x1 : Int32) (σ : Sg) (r0 : Int32) (hM : f_X1_countLate_responseClock_response N x1 σ = some r0) : Ct l yX1_countLate (Cond.code yX1_countLate cX1_countLate 7 (some .int) :: bw) 0 0 D cA tS A [.ref (h 42), .int x1, .ref (h 24), .ref (h 1)] (wK cA h σ ++ (wLg cA h σ L ++ (wC cA h σ ++ F))) (some (.int r0)) (wK cA h σ ++ (wLg cA h σ L ++ (wC cA h σ ++ F))) := by
  refine ct_of (by decide +kernel) (Nat.le_of_ble_eq_true rfl) ?_
  intro p e s m below meth c E hw ls hl
  replace E : Ev p cX1_countLate 7 (some .int) RX1 (Cond.code yX1_countLate cX1_countLate 7 (some .int) :: bw) D cA tS A s m _ meth c := E
  replace hl : lv_has ls 7 [(0, .ref (h 42)), (1, .int x1), (2, .ref (h 24)), (3, .ref (h 1))] := hl
  have hx := E.1.1
  have hb := E.1.2.1
  unfold f_X1_countLate_responseClock_response at hM
  refine lv_iconst (v := 0) hx hb dX1_countLate_0 (by decide) ?_
  refine lv_istore (lv' := [(4, .int 0), (0, .ref (h 42)), (1, .int x1), (2, .ref (h 24)), (3, .ref (h 1))]) hx hb dX1_countLate_1 hl (by decide) rfl (fun ls hl => ?_)
  refine lv_iconst (v := 0) hx hb dX1_countLate_3 (by decide) ?_
  refine lv_istore (lv' := [(5, .int 0), (4, .int 0), (0, .ref (h 42)), (1, .int x1), (2, .ref (h 24)), (3, .ref (h 1))]) hx hb dX1_countLate_4 hl (by decide) rfl (fun ls hl => ?_)
  exact s_X1_countLate_responseClock_response_6 l D cA tS A h L F N E N _ _ _ _ _ hM _ _ hw _ (lv_sub hl [2, 3, 4, 5, 1, 0] rfl)
set_option maxRecDepth 100000 in
set_option maxHeartbeats 4000000 in
theorem c_X1_lateResponses (l : Launch) (D : va_G) (cA : Nat → ClassId) (tS : Nat → Nat) (A : Nat → Prop) (h : Nat → Nat) (L : Nat) (F : va_W) (N : Nat) (x1 : Int32) (σ : Sg) (r0 : Int32) (hM : f_X1_lateResponses N x1 σ = some r0) : Ct l yX1_lateResponses (Cond.code yX1_lateResponses cX1_lateResponses 2 (some .int) :: bw) 1 26 D cA tS A [.ref (h 42), .int x1] (wK cA h σ ++ (wLg cA h σ L ++ (wC cA h σ ++ F))) (some (.int r0)) (wK cA h σ ++ (wLg cA h σ L ++ (wC cA h σ ++ F))) := by
  refine ct_of (by decide +kernel) (Nat.le_of_ble_eq_true rfl) ?_
  intro p e s m below meth c E hw ls hl
  replace E : Ev p cX1_lateResponses 2 (some .int) RX1 (Cond.code yX1_lateResponses cX1_lateResponses 2 (some .int) :: bw) D cA tS A s m _ meth c := E
  replace hl : lv_has ls 2 [(0, .ref (h 42)), (1, .int x1)] := hl
  have hx := E.1.1
  have hb := E.1.2.1
  unfold f_X1_lateResponses at hM
  refine lv_aload_n hx hb dX1_lateResponses_0 rfl (lv_at hl 0 rfl) ?_
  refine lv_iload_n hx hb dX1_lateResponses_1 rfl (lv_at hl 1 rfl) ?_
  refine lv_aload_n hx hb dX1_lateResponses_2 rfl (lv_at hl 0 rfl) ?_
  refine q_get (C := RX1) (T := TX1) (N := 6) (ci := 1) E (fun w h => List.mem_cons_of_mem _ (inX1 w h)) hw 12 rfl rfl 3 (by decide) (List.mem_cons_of_mem _ tb_272) (v := .ref (h 44)) rfl dX1_lateResponses_3 ?_
  refine q_get (C := RX7) (T := TX7) (N := 15) (ci := 7) E (fun w h => List.mem_cons_of_mem _ (inX7 w h)) hw 16 rfl rfl 8 (by decide) (List.mem_cons_of_mem _ tb_168) (v := .ref (h 24)) rfl dX1_lateResponses_6 ?_
  refine lv_aload_n hx hb dX1_lateResponses_9 rfl (lv_at hl 0 rfl) ?_
  refine q_get (C := RX1) (T := TX1) (N := 6) (ci := 1) E (fun w h => List.mem_cons_of_mem _ (inX1 w h)) hw 12 rfl rfl 1 (by decide) (List.mem_cons_of_mem _ tb_268) (v := .ref (h 40)) rfl dX1_lateResponses_10 ?_
  refine q_get (C := RX3) (T := TX3) (N := 7) (ci := 3) E (fun w h => List.mem_cons_of_mem _ (inX3 w h)) hw 0 rfl rfl 0 (by decide) (List.mem_cons_of_mem _ tb_113) (v := .ref (h 1)) rfl dX1_lateResponses_13 ?_
  obtain ⟨p1, h2, hM⟩ := b_some hM
  refine q_cv (As := [.int x1, .ref (h 24), .ref (h 1)]) (rest := []) E hw hl (c_X1_countLate_responseClock_response l D cA tS A h L F N x1 σ p1 h2) 3 (bwV bw_c tb_945 tb_947 tb_43 tb_49 tb_948) rfl (by decide +kernel) ⟨Nat.le_of_ble_eq_true rfl, Nat.le_of_ble_eq_true rfl⟩ 12 1 (T := TX1) (N := 6) rfl rfl rfl rfl (Nat.le_of_ble_eq_true rfl) ⟨Nat.zero_le _, Nat.zero_le _⟩ dX1_lateResponses_16 (fun H locs hw => ?_)
  cases hM
  exact q_reti E hw dX1_lateResponses_19
set_option maxRecDepth 100000 in
set_option maxHeartbeats 4000000 in
theorem s_X1_countLate_resolveClock_resolve_6 (l : Launch) (D : va_G) (cA : Nat → ClassId) (tS : Nat → Nat) (A : Nat → Prop) (h : Nat → Nat) (L : Nat) (F : va_W) (N : Nat) {p : Program} {e : Env} {s : State} {m : MethodId} {args : Array Value} {below : List Frame} {meth : Method} {c : Code} (E : Ev p cX1_countLate 7 (some .int) RX1 (Cond.code yX1_countLate cX1_countLate 7 (some .int) :: bw) D cA tS A s m args meth c) : ∀ (n : Nat) (x1 : Int32) (x4 : Int32) (x5 : Int32) (σ : Sg) (r0 : Int32) (hM : f_X1_countLate_resolveClock_resolve_6 N n x1 x4 x5 σ = some r0) (H : Heap) (locs : List Loc) (hw : Wd D A (wK cA h σ ++ (wLg cA h σ L ++ (wC cA h σ ++ F))) s.heap H locs) (ls : Array Slot) (hl : lv_has ls 7 [(0, .ref (h 42)), (1, .int x1), (2, .ref (h 25)), (3, .ref (h 2)), (4, .int x4), (5, .int x5)]), W p l e ({ frames := 0, cells := 0, slots := 0, locals := 0 } : Room) s m args below meth c H locs 0 0 (MQ below (QW D A (some (.int r0)) (wK cA h σ ++ (wLg cA h σ L ++ (wC cA h σ ++ F)))) args s 0 0 A) (F0 m 6 ls []) := by
  have hx := E.1.1
  have hb := E.1.2.1
  intro n
  induction n with
  | zero =>
    intro x1 x4 x5 σ r0 hM
    cases hM
  | succ n ih =>
    intro x1 x4 x5 σ r0 hM H locs hw ls hl
    rw [f_X1_countLate_resolveClock_resolve_6] at hM
    refine lv_iload hx hb dX1_countLate_6 (lv_at hl 5 rfl) ?_
    refine lv_aload_n hx hb dX1_countLate_8 rfl (lv_at hl 0 rfl) ?_
    refine q_get (C := RX1) (T := TX1) (N := 6) (ci := 1) E (fun w h => List.mem_cons_of_mem _ (inX1 w h)) hw 12 rfl rfl 3 (by decide) (List.mem_cons_of_mem _ tb_272) (v := .ref (h 44)) rfl dX1_countLate_9 ?_
    refine q_get (C := RX7) (T := TX7) (N := 15) (ci := 7) E (fun w h => List.mem_cons_of_mem _ (inX7 w h)) hw 16 rfl rfl 14 (by decide) (List.mem_cons_of_mem _ tb_185) (v := .int (σ 15 0)) rfl dX1_countLate_12 ?_
    refine lv_icmp_ge (tgt := 61) hx hb dX1_countLate_15 (by decide) (fun c1 => ?_) (fun c1 => ?_)
    · replace hM := i_pos hM c1
      refine lv_iload hx hb dX1_countLate_61 (lv_at hl 4 rfl) ?_
      cases hM
      exact q_reti E hw dX1_countLate_63
    · replace hM := i_neg hM c1
      refine lv_aload_n hx hb dX1_countLate_18 rfl (lv_at hl 0 rfl) ?_
      refine q_get (C := RX1) (T := TX1) (N := 6) (ci := 1) E (fun w h => List.mem_cons_of_mem _ (inX1 w h)) hw 12 rfl rfl 3 (by decide) (List.mem_cons_of_mem _ tb_272) (v := .ref (h 44)) rfl dX1_countLate_19 ?_
      refine q_get (C := RX7) (T := TX7) (N := 15) (ci := 7) E (fun w h => List.mem_cons_of_mem _ (inX7 w h)) hw 16 rfl rfl 0 (by decide) (List.mem_cons_of_mem _ tb_151) (v := .ref (h 16)) rfl dX1_countLate_22 ?_
      refine lv_iload hx hb dX1_countLate_25 (lv_at hl 5 rfl) ?_
      obtain ⟨g2, hM⟩ := g_some hM
      refine q_ald E hw 17 (n := 60) rfl g2 (x := (σ 16 (ix x5))) rfl dX1_countLate_27 ?_
      refine lv_istore (lv' := [(6, .int (σ 16 (ix x5))), (0, .ref (h 42)), (1, .int x1), (2, .ref (h 25)), (3, .ref (h 2)), (4, .int x4), (5, .int x5)]) hx hb dX1_countLate_28 hl (by decide) rfl (fun ls hl => ?_)
      refine lv_iload_n hx hb dX1_countLate_30 rfl (lv_at hl 2 rfl) ?_
      refine lv_iconst (v := (-1)) hx hb dX1_countLate_31 (by decide) ?_
      refine lv_icmp_eq (tgt := 41) hx hb dX1_countLate_32 (by decide) (fun c3 => ?_) (fun c3 => ?_)
      · replace hM := i_pos hM c3
        refine lv_aload_n hx hb dX1_countLate_41 rfl (lv_at hl 3 rfl) ?_
        refine lv_iload hx hb dX1_countLate_42 (lv_at hl 6 rfl) ?_
        refine q_ald E hw 26 (n := 60) rfl g2 (x := (σ 25 (ix x5))) rfl dX1_countLate_44 ?_
        refine lv_aload_n hx hb dX1_countLate_45 rfl (lv_at hl 4 rfl) ?_
        refine lv_iload hx hb dX1_countLate_46 (lv_at hl 0 rfl) ?_
        obtain ⟨g4, hM⟩ := g_some hM
        refine q_ald E hw 2 (n := 6) rfl g4 (x := (σ 2 (ix (σ 16 (ix x5))))) rfl dX1_countLate_48 ?_
        refine lv_icmp_le (tgt := 55) hx hb dX1_countLate_49 (by decide) (fun c5 => ?_) (fun c5 => ?_)
        · replace hM := i_pos hM c5
          refine lv_iinc (v := (x5 + 1)) (lv' := [(5, .int (x5 + 1)), (6, .int (σ 16 (ix x5))), (0, .ref (h 42)), (1, .int x1), (2, .ref (h 25)), (3, .ref (h 2)), (4, .int x4)]) hx hb dX1_countLate_55 hl (k := 6) rfl rfl (by decide) rfl (fun ls hl => ?_)
          refine lv_goto (tgt := 6) hx hb dX1_countLate_58 (by decide) ?_
          exact ih _ _ _ _ _ hM _ _ hw _ (lv_sub hl [2, 3, 4, 5, 6, 0] rfl)
        · replace hM := i_neg hM c5
          refine lv_iinc (v := (x4 + 1)) (lv' := [(4, .int (x4 + 1)), (6, .int (σ 16 (ix x5))), (0, .ref (h 42)), (1, .int x1), (2, .ref (h 25)), (3, .ref (h 2)), (5, .int x5)]) hx hb dX1_countLate_52 hl (k := 5) rfl rfl (by decide) rfl (fun ls hl => ?_)
          refine lv_iinc (v := (x5 + 1)) (lv' := [(5, .int (x5 + 1)), (4, .int (x4 + 1)), (6, .int (σ 16 (ix x5))), (0, .ref (h 42)), (1, .int x1), (2, .ref (h 25)), (3, .ref (h 2))]) hx hb dX1_countLate_55 hl (k := 6) rfl rfl (by decide) rfl (fun ls hl => ?_)
          refine lv_goto (tgt := 6) hx hb dX1_countLate_58 (by decide) ?_
          exact ih _ _ _ _ _ hM _ _ hw _ (lv_sub hl [3, 4, 5, 6, 1, 0] rfl)
      · replace hM := i_neg hM c3
        refine lv_iload hx hb dX1_countLate_35 (lv_at hl 0 rfl) ?_
        refine lv_iload_n hx hb dX1_countLate_37 rfl (lv_at hl 2 rfl) ?_
        refine lv_icmp_ne (tgt := 55) hx hb dX1_countLate_38 (by decide) (fun c6 => ?_) (fun c6 => ?_)
        · replace hM := i_neg hM c6
          refine lv_iinc (v := (x5 + 1)) (lv' := [(5, .int (x5 + 1)), (6, .int (σ 16 (ix x5))), (0, .ref (h 42)), (1, .int x1), (2, .ref (h 25)), (3, .ref (h 2)), (4, .int x4)]) hx hb dX1_countLate_55 hl (k := 6) rfl rfl (by decide) rfl (fun ls hl => ?_)
          refine lv_goto (tgt := 6) hx hb dX1_countLate_58 (by decide) ?_
          exact ih _ _ _ _ _ hM _ _ hw _ (lv_sub hl [2, 3, 4, 5, 6, 0] rfl)
        · replace hM := i_pos hM c6
          refine lv_aload_n hx hb dX1_countLate_41 rfl (lv_at hl 3 rfl) ?_
          refine lv_iload hx hb dX1_countLate_42 (lv_at hl 6 rfl) ?_
          refine q_ald E hw 26 (n := 60) rfl g2 (x := (σ 25 (ix x5))) rfl dX1_countLate_44 ?_
          refine lv_aload_n hx hb dX1_countLate_45 rfl (lv_at hl 4 rfl) ?_
          refine lv_iload hx hb dX1_countLate_46 (lv_at hl 0 rfl) ?_
          obtain ⟨g7, hM⟩ := g_some hM
          refine q_ald E hw 2 (n := 6) rfl g7 (x := (σ 2 (ix (σ 16 (ix x5))))) rfl dX1_countLate_48 ?_
          refine lv_icmp_le (tgt := 55) hx hb dX1_countLate_49 (by decide) (fun c8 => ?_) (fun c8 => ?_)
          · replace hM := i_pos hM c8
            refine lv_iinc (v := (x5 + 1)) (lv' := [(5, .int (x5 + 1)), (6, .int (σ 16 (ix x5))), (0, .ref (h 42)), (1, .int x1), (2, .ref (h 25)), (3, .ref (h 2)), (4, .int x4)]) hx hb dX1_countLate_55 hl (k := 6) rfl rfl (by decide) rfl (fun ls hl => ?_)
            refine lv_goto (tgt := 6) hx hb dX1_countLate_58 (by decide) ?_
            exact ih _ _ _ _ _ hM _ _ hw _ (lv_sub hl [2, 3, 4, 5, 6, 0] rfl)
          · replace hM := i_neg hM c8
            refine lv_iinc (v := (x4 + 1)) (lv' := [(4, .int (x4 + 1)), (6, .int (σ 16 (ix x5))), (0, .ref (h 42)), (1, .int x1), (2, .ref (h 25)), (3, .ref (h 2)), (5, .int x5)]) hx hb dX1_countLate_52 hl (k := 5) rfl rfl (by decide) rfl (fun ls hl => ?_)
            refine lv_iinc (v := (x5 + 1)) (lv' := [(5, .int (x5 + 1)), (4, .int (x4 + 1)), (6, .int (σ 16 (ix x5))), (0, .ref (h 42)), (1, .int x1), (2, .ref (h 25)), (3, .ref (h 2))]) hx hb dX1_countLate_55 hl (k := 6) rfl rfl (by decide) rfl (fun ls hl => ?_)
            refine lv_goto (tgt := 6) hx hb dX1_countLate_58 (by decide) ?_
            exact ih _ _ _ _ _ hM _ _ hw _ (lv_sub hl [3, 4, 5, 6, 1, 0] rfl)
set_option maxRecDepth 100000 in
set_option maxHeartbeats 4000000 in
theorem c_X1_countLate_resolveClock_resolve (l : Launch) (D : va_G) (cA : Nat → ClassId) (tS : Nat → Nat) (A : Nat → Prop) (h : Nat → Nat) (L : Nat) (F : va_W) (N : Nat) (x1 : Int32) (σ : Sg) (r0 : Int32) (hM : f_X1_countLate_resolveClock_resolve N x1 σ = some r0) : Ct l yX1_countLate (Cond.code yX1_countLate cX1_countLate 7 (some .int) :: bw) 0 0 D cA tS A [.ref (h 42), .int x1, .ref (h 25), .ref (h 2)] (wK cA h σ ++ (wLg cA h σ L ++ (wC cA h σ ++ F))) (some (.int r0)) (wK cA h σ ++ (wLg cA h σ L ++ (wC cA h σ ++ F))) := by
  refine ct_of (by decide +kernel) (Nat.le_of_ble_eq_true rfl) ?_
  intro p e s m below meth c E hw ls hl
  replace E : Ev p cX1_countLate 7 (some .int) RX1 (Cond.code yX1_countLate cX1_countLate 7 (some .int) :: bw) D cA tS A s m _ meth c := E
  replace hl : lv_has ls 7 [(0, .ref (h 42)), (1, .int x1), (2, .ref (h 25)), (3, .ref (h 2))] := hl
  have hx := E.1.1
  have hb := E.1.2.1
  unfold f_X1_countLate_resolveClock_resolve at hM
  refine lv_iconst (v := 0) hx hb dX1_countLate_0 (by decide) ?_
  refine lv_istore (lv' := [(4, .int 0), (0, .ref (h 42)), (1, .int x1), (2, .ref (h 25)), (3, .ref (h 2))]) hx hb dX1_countLate_1 hl (by decide) rfl (fun ls hl => ?_)
  refine lv_iconst (v := 0) hx hb dX1_countLate_3 (by decide) ?_
  refine lv_istore (lv' := [(5, .int 0), (4, .int 0), (0, .ref (h 42)), (1, .int x1), (2, .ref (h 25)), (3, .ref (h 2))]) hx hb dX1_countLate_4 hl (by decide) rfl (fun ls hl => ?_)
  exact s_X1_countLate_resolveClock_resolve_6 l D cA tS A h L F N E N _ _ _ _ _ hM _ _ hw _ (lv_sub hl [2, 3, 4, 5, 1, 0] rfl)
set_option maxRecDepth 100000 in
set_option maxHeartbeats 4000000 in
theorem c_X1_lateSolutions (l : Launch) (D : va_G) (cA : Nat → ClassId) (tS : Nat → Nat) (A : Nat → Prop) (h : Nat → Nat) (L : Nat) (F : va_W) (N : Nat) (x1 : Int32) (σ : Sg) (r0 : Int32) (hM : f_X1_lateSolutions N x1 σ = some r0) : Ct l yX1_lateSolutions (Cond.code yX1_lateSolutions cX1_lateSolutions 2 (some .int) :: bw) 1 26 D cA tS A [.ref (h 42), .int x1] (wK cA h σ ++ (wLg cA h σ L ++ (wC cA h σ ++ F))) (some (.int r0)) (wK cA h σ ++ (wLg cA h σ L ++ (wC cA h σ ++ F))) := by
  refine ct_of (by decide +kernel) (Nat.le_of_ble_eq_true rfl) ?_
  intro p e s m below meth c E hw ls hl
  replace E : Ev p cX1_lateSolutions 2 (some .int) RX1 (Cond.code yX1_lateSolutions cX1_lateSolutions 2 (some .int) :: bw) D cA tS A s m _ meth c := E
  replace hl : lv_has ls 2 [(0, .ref (h 42)), (1, .int x1)] := hl
  have hx := E.1.1
  have hb := E.1.2.1
  unfold f_X1_lateSolutions at hM
  refine lv_aload_n hx hb dX1_lateSolutions_0 rfl (lv_at hl 0 rfl) ?_
  refine lv_iload_n hx hb dX1_lateSolutions_1 rfl (lv_at hl 1 rfl) ?_
  refine lv_aload_n hx hb dX1_lateSolutions_2 rfl (lv_at hl 0 rfl) ?_
  refine q_get (C := RX1) (T := TX1) (N := 6) (ci := 1) E (fun w h => List.mem_cons_of_mem _ (inX1 w h)) hw 12 rfl rfl 3 (by decide) (List.mem_cons_of_mem _ tb_272) (v := .ref (h 44)) rfl dX1_lateSolutions_3 ?_
  refine q_get (C := RX7) (T := TX7) (N := 15) (ci := 7) E (fun w h => List.mem_cons_of_mem _ (inX7 w h)) hw 16 rfl rfl 9 (by decide) (List.mem_cons_of_mem _ tb_171) (v := .ref (h 25)) rfl dX1_lateSolutions_6 ?_
  refine lv_aload_n hx hb dX1_lateSolutions_9 rfl (lv_at hl 0 rfl) ?_
  refine q_get (C := RX1) (T := TX1) (N := 6) (ci := 1) E (fun w h => List.mem_cons_of_mem _ (inX1 w h)) hw 12 rfl rfl 1 (by decide) (List.mem_cons_of_mem _ tb_268) (v := .ref (h 40)) rfl dX1_lateSolutions_10 ?_
  refine q_get (C := RX3) (T := TX3) (N := 7) (ci := 3) E (fun w h => List.mem_cons_of_mem _ (inX3 w h)) hw 0 rfl rfl 1 (by decide) (List.mem_cons_of_mem _ tb_115) (v := .ref (h 2)) rfl dX1_lateSolutions_13 ?_
  obtain ⟨p1, h2, hM⟩ := b_some hM
  refine q_cv (As := [.int x1, .ref (h 25), .ref (h 2)]) (rest := []) E hw hl (c_X1_countLate_resolveClock_resolve l D cA tS A h L F N x1 σ p1 h2) 3 (bwV bw_c tb_945 tb_947 tb_43 tb_49 tb_948) rfl (by decide +kernel) ⟨Nat.le_of_ble_eq_true rfl, Nat.le_of_ble_eq_true rfl⟩ 12 1 (T := TX1) (N := 6) rfl rfl rfl rfl (Nat.le_of_ble_eq_true rfl) ⟨Nat.zero_le _, Nat.zero_le _⟩ dX1_lateSolutions_16 (fun H locs hw => ?_)
  cases hM
  exact q_reti E hw dX1_lateSolutions_19
set_option maxRecDepth 100000 in
set_option maxHeartbeats 4000000 in
theorem c_X1_allBreaches (l : Launch) (D : va_G) (cA : Nat → ClassId) (tS : Nat → Nat) (A : Nat → Prop) (h : Nat → Nat) (L : Nat) (F : va_W) (N : Nat) (σ : Sg) (r0 : Int32) (hM : f_X1_allBreaches N σ = some r0) : Ct l yX1_allBreaches (Cond.code yX1_allBreaches cX1_allBreaches 1 (some .int) :: bw) 2 47 D cA tS A [.ref (h 42)] (wK cA h σ ++ (wLg cA h σ L ++ (wC cA h σ ++ F))) (some (.int r0)) (wK cA h σ ++ (wLg cA h σ L ++ (wC cA h σ ++ F))) := by
  refine ct_of (by decide +kernel) (Nat.le_of_ble_eq_true rfl) ?_
  intro p e s m below meth c E hw ls hl
  replace E : Ev p cX1_allBreaches 1 (some .int) RX1 (Cond.code yX1_allBreaches cX1_allBreaches 1 (some .int) :: bw) D cA tS A s m _ meth c := E
  replace hl : lv_has ls 1 [(0, .ref (h 42))] := hl
  have hx := E.1.1
  have hb := E.1.2.1
  unfold f_X1_allBreaches at hM
  refine lv_aload_n hx hb dX1_allBreaches_0 rfl (lv_at hl 0 rfl) ?_
  refine lv_iconst (v := (-1)) hx hb dX1_allBreaches_1 (by decide) ?_
  obtain ⟨p1, h2, hM⟩ := b_some hM
  refine q_cv (As := [.int (-1)]) (rest := []) E hw hl (c_X1_lateResponses l D cA tS A h L F N (-1) σ p1 h2) 1 (bwV bw_c tb_969 tb_942 tb_943 tb_49 tb_944) rfl (by decide +kernel) ⟨Nat.le_of_ble_eq_true rfl, Nat.le_of_ble_eq_true rfl⟩ 12 1 (T := TX1) (N := 6) rfl rfl rfl rfl (Nat.le_of_ble_eq_true rfl) ⟨Nat.zero_le _, Nat.zero_le _⟩ dX1_allBreaches_2 (fun H locs hw => ?_)
  refine lv_aload_n hx hb dX1_allBreaches_5 rfl (lv_at hl 0 rfl) ?_
  refine lv_iconst (v := (-1)) hx hb dX1_allBreaches_6 (by decide) ?_
  obtain ⟨p3, h4, hM⟩ := b_some hM
  refine q_cv (As := [.int (-1)]) (rest := [.int p1]) E hw hl (c_X1_lateSolutions l D cA tS A h L F N (-1) σ p3 h4) 1 (bwV bw_c tb_970 tb_954 tb_955 tb_49 tb_956) rfl (by decide +kernel) ⟨Nat.le_of_ble_eq_true rfl, Nat.le_of_ble_eq_true rfl⟩ 12 1 (T := TX1) (N := 6) rfl rfl rfl rfl (Nat.le_of_ble_eq_true rfl) ⟨Nat.zero_le _, Nat.zero_le _⟩ dX1_allBreaches_7 (fun H locs hw => ?_)
  refine lv_iadd hx hb dX1_allBreaches_10 ?_
  cases hM
  exact q_reti E hw dX1_allBreaches_11
set_option maxRecDepth 100000 in
set_option maxHeartbeats 4000000 in
theorem c_X3_add (l : Launch) (D : va_G) (cA : Nat → ClassId) (tS : Nat → Nat) (A : Nat → Prop) (h : Nat → Nat) (L : Nat) (F : va_W) (x1 : Int32) (x2 : Int32) (x3 : Int32) (x4 : Int32) (x5 : Int32) (x6 : Int32) (σ : Sg) (r0 : Int32) (s0 : Sg) (hM : f_X3_add x1 x2 x3 x4 x5 x6 σ = some (r0, s0)) : Ct l yX3_add (Cond.code yX3_add cX3_add 8 (some .int) :: bw) 0 0 D cA tS A [.ref (h 40), .int x1, .int x2, .int x3, .int x4, .int x5, .int x6] (wK cA h σ ++ (wLg cA h σ L ++ (wC cA h σ ++ F))) (some (.int r0)) (wK cA h s0 ++ (wLg cA h s0 L ++ (wC cA h s0 ++ F))) := by
  refine ct_of (by decide +kernel) (Nat.le_of_ble_eq_true rfl) ?_
  intro p e s m below meth c E hw ls hl
  replace E : Ev p cX3_add 8 (some .int) RX3 (Cond.code yX3_add cX3_add 8 (some .int) :: bw) D cA tS A s m _ meth c := E
  replace hl : lv_has ls 8 [(0, .ref (h 40)), (1, .int x1), (2, .int x2), (3, .int x3), (4, .int x4), (5, .int x5), (6, .int x6)] := hl
  have hx := E.1.1
  have hb := E.1.2.1
  unfold f_X3_add at hM
  refine lv_aload_n hx hb dX3_add_0 rfl (lv_at hl 0 rfl) ?_
  refine q_get (C := RX3) (T := TX3) (N := 7) (ci := 3) E (fun w h => List.mem_cons_of_mem _ (inX3 w h)) hw 0 rfl rfl 6 (by decide) (List.mem_cons_of_mem _ tb_124) (v := .int (σ 0 0)) rfl dX3_add_1 ?_
  refine lv_bipush (v := 6) hx hb dX3_add_4 (by decide) ?_
  refine lv_icmp_lt (tgt := 12) hx hb dX3_add_6 (by decide) (fun c1 => ?_) (fun c1 => ?_)
  · replace hM := i_pos hM c1
    refine lv_aload_n hx hb dX3_add_12 rfl (lv_at hl 0 rfl) ?_
    refine q_get (C := RX3) (T := TX3) (N := 7) (ci := 3) E (fun w h => List.mem_cons_of_mem _ (inX3 w h)) hw 0 rfl rfl 6 (by decide) (List.mem_cons_of_mem _ tb_124) (v := .int (σ 0 0)) rfl dX3_add_13 ?_
    refine lv_istore (lv' := [(7, .int (σ 0 0)), (0, .ref (h 40)), (1, .int x1), (2, .int x2), (3, .int x3), (4, .int x4), (5, .int x5), (6, .int x6)]) hx hb dX3_add_16 hl (by decide) rfl (fun ls hl => ?_)
    refine lv_aload_n hx hb dX3_add_18 rfl (lv_at hl 1 rfl) ?_
    refine q_get (C := RX3) (T := TX3) (N := 7) (ci := 3) E (fun w h => List.mem_cons_of_mem _ (inX3 w h)) hw 0 rfl rfl 0 (by decide) (List.mem_cons_of_mem _ tb_112) (v := .ref (h 1)) rfl dX3_add_19 ?_
    refine lv_iload hx hb dX3_add_22 (lv_at hl 0 rfl) ?_
    refine lv_iload_n hx hb dX3_add_24 rfl (lv_at hl 2 rfl) ?_
    obtain ⟨g2, hM⟩ := g_some hM
    refine q_ast E hw 1 (n := 6) rfl g2 (wK cA h (up σ 1 (ix (σ 0 0)) x1) ++ (wLg cA h (up σ 1 (ix (σ 0 0)) x1) L ++ (wC cA h (up σ 1 (ix (σ 0 0)) x1) ++ F))) st_K_Lg_C_1 dX3_add_25 (fun H locs hw => ?_)
    refine lv_aload_n hx hb dX3_add_26 rfl (lv_at hl 1 rfl) ?_
    refine q_get (C := RX3) (T := TX3) (N := 7) (ci := 3) E (fun w h => List.mem_cons_of_mem _ (inX3 w h)) hw 0 rfl rfl 1 (by decide) (List.mem_cons_of_mem _ tb_114) (v := .ref (h 2)) rfl dX3_add_27 ?_
    refine lv_iload hx hb dX3_add_30 (lv_at hl 0 rfl) ?_
    refine lv_iload_n hx hb dX3_add_32 rfl (lv_at hl 3 rfl) ?_
    refine q_ast E hw 2 (n := 6) rfl g2 (wK cA h (up (up σ 1 (ix (σ 0 0)) x1) 2 (ix (σ 0 0)) x2) ++ (wLg cA h (up (up σ 1 (ix (σ 0 0)) x1) 2 (ix (σ 0 0)) x2) L ++ (wC cA h (up (up σ 1 (ix (σ 0 0)) x1) 2 (ix (σ 0 0)) x2) ++ F))) st_K_Lg_C_2 dX3_add_33 (fun H locs hw => ?_)
    refine lv_aload_n hx hb dX3_add_34 rfl (lv_at hl 1 rfl) ?_
    refine q_get (C := RX3) (T := TX3) (N := 7) (ci := 3) E (fun w h => List.mem_cons_of_mem _ (inX3 w h)) hw 0 rfl rfl 2 (by decide) (List.mem_cons_of_mem _ tb_116) (v := .ref (h 3)) rfl dX3_add_35 ?_
    refine lv_iload hx hb dX3_add_38 (lv_at hl 0 rfl) ?_
    refine lv_iload_n hx hb dX3_add_40 rfl (lv_at hl 4 rfl) ?_
    refine q_ast E hw 3 (n := 6) rfl g2 (wK cA h (up (up (up σ 1 (ix (σ 0 0)) x1) 2 (ix (σ 0 0)) x2) 3 (ix (σ 0 0)) x3) ++ (wLg cA h (up (up (up σ 1 (ix (σ 0 0)) x1) 2 (ix (σ 0 0)) x2) 3 (ix (σ 0 0)) x3) L ++ (wC cA h (up (up (up σ 1 (ix (σ 0 0)) x1) 2 (ix (σ 0 0)) x2) 3 (ix (σ 0 0)) x3) ++ F))) st_K_Lg_C_3 dX3_add_41 (fun H locs hw => ?_)
    refine lv_aload_n hx hb dX3_add_42 rfl (lv_at hl 1 rfl) ?_
    refine q_get (C := RX3) (T := TX3) (N := 7) (ci := 3) E (fun w h => List.mem_cons_of_mem _ (inX3 w h)) hw 0 rfl rfl 3 (by decide) (List.mem_cons_of_mem _ tb_118) (v := .ref (h 4)) rfl dX3_add_43 ?_
    refine lv_iload hx hb dX3_add_46 (lv_at hl 0 rfl) ?_
    refine lv_iload hx hb dX3_add_48 (lv_at hl 5 rfl) ?_
    refine q_ast E hw 4 (n := 6) rfl g2 (wK cA h (up (up (up (up σ 1 (ix (σ 0 0)) x1) 2 (ix (σ 0 0)) x2) 3 (ix (σ 0 0)) x3) 4 (ix (σ 0 0)) x4) ++ (wLg cA h (up (up (up (up σ 1 (ix (σ 0 0)) x1) 2 (ix (σ 0 0)) x2) 3 (ix (σ 0 0)) x3) 4 (ix (σ 0 0)) x4) L ++ (wC cA h (up (up (up (up σ 1 (ix (σ 0 0)) x1) 2 (ix (σ 0 0)) x2) 3 (ix (σ 0 0)) x3) 4 (ix (σ 0 0)) x4) ++ F))) st_K_Lg_C_4 dX3_add_50 (fun H locs hw => ?_)
    refine lv_aload_n hx hb dX3_add_51 rfl (lv_at hl 1 rfl) ?_
    refine q_get (C := RX3) (T := TX3) (N := 7) (ci := 3) E (fun w h => List.mem_cons_of_mem _ (inX3 w h)) hw 0 rfl rfl 4 (by decide) (List.mem_cons_of_mem _ tb_120) (v := .ref (h 5)) rfl dX3_add_52 ?_
    refine lv_iload hx hb dX3_add_55 (lv_at hl 0 rfl) ?_
    refine lv_iload hx hb dX3_add_57 (lv_at hl 6 rfl) ?_
    refine q_ast E hw 5 (n := 6) rfl g2 (wK cA h (up (up (up (up (up σ 1 (ix (σ 0 0)) x1) 2 (ix (σ 0 0)) x2) 3 (ix (σ 0 0)) x3) 4 (ix (σ 0 0)) x4) 5 (ix (σ 0 0)) x5) ++ (wLg cA h (up (up (up (up (up σ 1 (ix (σ 0 0)) x1) 2 (ix (σ 0 0)) x2) 3 (ix (σ 0 0)) x3) 4 (ix (σ 0 0)) x4) 5 (ix (σ 0 0)) x5) L ++ (wC cA h (up (up (up (up (up σ 1 (ix (σ 0 0)) x1) 2 (ix (σ 0 0)) x2) 3 (ix (σ 0 0)) x3) 4 (ix (σ 0 0)) x4) 5 (ix (σ 0 0)) x5) ++ F))) st_K_Lg_C_5 dX3_add_59 (fun H locs hw => ?_)
    refine lv_aload_n hx hb dX3_add_60 rfl (lv_at hl 1 rfl) ?_
    refine q_get (C := RX3) (T := TX3) (N := 7) (ci := 3) E (fun w h => List.mem_cons_of_mem _ (inX3 w h)) hw 0 rfl rfl 5 (by decide) (List.mem_cons_of_mem _ tb_122) (v := .ref (h 6)) rfl dX3_add_61 ?_
    refine lv_iload hx hb dX3_add_64 (lv_at hl 0 rfl) ?_
    refine lv_iload hx hb dX3_add_66 (lv_at hl 7 rfl) ?_
    refine q_zst E hw 6 (n := 6) rfl g2 (wK cA h (up (up (up (up (up (up σ 1 (ix (σ 0 0)) x1) 2 (ix (σ 0 0)) x2) 3 (ix (σ 0 0)) x3) 4 (ix (σ 0 0)) x4) 5 (ix (σ 0 0)) x5) 6 (ix (σ 0 0)) (vp_nar .boolean x6)) ++ (wLg cA h (up (up (up (up (up (up σ 1 (ix (σ 0 0)) x1) 2 (ix (σ 0 0)) x2) 3 (ix (σ 0 0)) x3) 4 (ix (σ 0 0)) x4) 5 (ix (σ 0 0)) x5) 6 (ix (σ 0 0)) (vp_nar .boolean x6)) L ++ (wC cA h (up (up (up (up (up (up σ 1 (ix (σ 0 0)) x1) 2 (ix (σ 0 0)) x2) 3 (ix (σ 0 0)) x3) 4 (ix (σ 0 0)) x4) 5 (ix (σ 0 0)) x5) 6 (ix (σ 0 0)) (vp_nar .boolean x6)) ++ F))) st_K_Lg_C_6 dX3_add_68 (fun H locs hw => ?_)
    refine lv_aload_n hx hb dX3_add_69 rfl (lv_at hl 1 rfl) ?_
    refine lv_dup hx hb dX3_add_70 rfl ?_
    refine q_get (C := RX3) (T := TX3) (N := 7) (ci := 3) E (fun w h => List.mem_cons_of_mem _ (inX3 w h)) hw 0 rfl rfl 6 (by decide) (List.mem_cons_of_mem _ tb_124) (v := .int (σ 0 0)) (q_fld (congrFun ((((((up_ne (up (up (up (up (up σ 1 (ix (σ 0 0)) x1) 2 (ix (σ 0 0)) x2) 3 (ix (σ 0 0)) x3) 4 (ix (σ 0 0)) x4) 5 (ix (σ 0 0)) x5) 6 (ix (σ 0 0)) (vp_nar .boolean x6) 0 (by decide)).trans (up_ne (up (up (up (up σ 1 (ix (σ 0 0)) x1) 2 (ix (σ 0 0)) x2) 3 (ix (σ 0 0)) x3) 4 (ix (σ 0 0)) x4) 5 (ix (σ 0 0)) x5 0 (by decide))).trans (up_ne (up (up (up σ 1 (ix (σ 0 0)) x1) 2 (ix (σ 0 0)) x2) 3 (ix (σ 0 0)) x3) 4 (ix (σ 0 0)) x4 0 (by decide))).trans (up_ne (up (up σ 1 (ix (σ 0 0)) x1) 2 (ix (σ 0 0)) x2) 3 (ix (σ 0 0)) x3 0 (by decide))).trans (up_ne (up σ 1 (ix (σ 0 0)) x1) 2 (ix (σ 0 0)) x2 0 (by decide))).trans (up_ne σ 1 (ix (σ 0 0)) x1 0 (by decide))) 0) rfl) dX3_add_71 ?_
    refine lv_iconst (v := 1) hx hb dX3_add_74 (by decide) ?_
    refine lv_iadd hx hb dX3_add_75 ?_
    refine q_puti (C := RX3) (T := TX3) (N := 7) (ci := 3) E (fun w h => List.mem_cons_of_mem _ (inX3 w h)) tyX3 tyX3_ok nmX3 hw 0 rfl rfl 6 (by decide) (List.mem_cons_of_mem _ tb_124) rfl rfl (Nat.le_of_ble_eq_true rfl) (wK cA h (up (up (up (up (up (up (up σ 1 (ix (σ 0 0)) x1) 2 (ix (σ 0 0)) x2) 3 (ix (σ 0 0)) x3) 4 (ix (σ 0 0)) x4) 5 (ix (σ 0 0)) x5) 6 (ix (σ 0 0)) (vp_nar .boolean x6)) 0 0 ((σ 0 0) + 1)) ++ (wLg cA h (up (up (up (up (up (up (up σ 1 (ix (σ 0 0)) x1) 2 (ix (σ 0 0)) x2) 3 (ix (σ 0 0)) x3) 4 (ix (σ 0 0)) x4) 5 (ix (σ 0 0)) x5) 6 (ix (σ 0 0)) (vp_nar .boolean x6)) 0 0 ((σ 0 0) + 1)) L ++ (wC cA h (up (up (up (up (up (up (up σ 1 (ix (σ 0 0)) x1) 2 (ix (σ 0 0)) x2) 3 (ix (σ 0 0)) x3) 4 (ix (σ 0 0)) x4) 5 (ix (σ 0 0)) x5) 6 (ix (σ 0 0)) (vp_nar .boolean x6)) 0 0 ((σ 0 0) + 1)) ++ F))) st_K_Lg_C_0 dX3_add_76 (fun H locs hw => ?_)
    refine lv_iload hx hb dX3_add_79 (lv_at hl 0 rfl) ?_
    cases hM
    exact q_reti E hw dX3_add_81
  · replace hM := i_neg hM c1
    refine lv_bipush (v := (-6)) hx hb dX3_add_9 (by decide) ?_
    cases hM
    exact q_reti E hw dX3_add_11
set_option maxRecDepth 100000 in
set_option maxHeartbeats 4000000 in
theorem s_X7_countSolved_4 (l : Launch) (D : va_G) (cA : Nat → ClassId) (tS : Nat → Nat) (A : Nat → Prop) (h : Nat → Nat) (L : Nat) (F : va_W) (N : Nat) {p : Program} {e : Env} {s : State} {m : MethodId} {args : Array Value} {below : List Frame} {meth : Method} {c : Code} (E : Ev p cX7_countSolved 3 (some .int) RX7 (Cond.code yX7_countSolved cX7_countSolved 3 (some .int) :: bw) D cA tS A s m args meth c) : ∀ (n : Nat) (x1 : Int32) (x2 : Int32) (σ : Sg) (r0 : Int32) (hM : f_X7_countSolved_4 N n x1 x2 σ = some r0) (H : Heap) (locs : List Loc) (hw : Wd D A (wK cA h σ ++ (wLg cA h σ L ++ (wC cA h σ ++ F))) s.heap H locs) (ls : Array Slot) (hl : lv_has ls 3 [(0, .ref (h 44)), (1, .int x1), (2, .int x2)]), W p l e ({ frames := 0, cells := 0, slots := 0, locals := 0 } : Room) s m args below meth c H locs 0 0 (MQ below (QW D A (some (.int r0)) (wK cA h σ ++ (wLg cA h σ L ++ (wC cA h σ ++ F)))) args s 0 0 A) (F0 m 4 ls []) := by
  have hx := E.1.1
  have hb := E.1.2.1
  intro n
  induction n with
  | zero =>
    intro x1 x2 σ r0 hM
    cases hM
  | succ n ih =>
    intro x1 x2 σ r0 hM H locs hw ls hl
    rw [f_X7_countSolved_4] at hM
    refine lv_iload_n hx hb dX7_countSolved_4 rfl (lv_at hl 2 rfl) ?_
    refine lv_aload_n hx hb dX7_countSolved_5 rfl (lv_at hl 0 rfl) ?_
    refine q_get (C := RX7) (T := TX7) (N := 15) (ci := 7) E (fun w h => List.mem_cons_of_mem _ (inX7 w h)) hw 16 rfl rfl 14 (by decide) (List.mem_cons_of_mem _ tb_184) (v := .int (σ 15 0)) rfl dX7_countSolved_6 ?_
    refine lv_icmp_ge (tgt := 31) hx hb dX7_countSolved_9 (by decide) (fun c1 => ?_) (fun c1 => ?_)
    · replace hM := i_pos hM c1
      refine lv_iload_n hx hb dX7_countSolved_31 rfl (lv_at hl 1 rfl) ?_
      cases hM
      exact q_reti E hw dX7_countSolved_32
    · replace hM := i_neg hM c1
      refine lv_aload_n hx hb dX7_countSolved_12 rfl (lv_at hl 0 rfl) ?_
      refine q_get (C := RX7) (T := TX7) (N := 15) (ci := 7) E (fun w h => List.mem_cons_of_mem _ (inX7 w h)) hw 16 rfl rfl 5 (by decide) (List.mem_cons_of_mem _ tb_159) (v := .ref (h 21)) rfl dX7_countSolved_13 ?_
      refine lv_iload_n hx hb dX7_countSolved_16 rfl (lv_at hl 2 rfl) ?_
      obtain ⟨g2, hM⟩ := g_some hM
      refine q_ald E hw 22 (n := 60) rfl g2 (x := (σ 21 (ix x2))) rfl dX7_countSolved_17 ?_
      refine lv_iconst (v := 3) hx hb dX7_countSolved_18 (by decide) ?_
      refine lv_icmp_ne (tgt := 25) hx hb dX7_countSolved_19 (by decide) (fun c3 => ?_) (fun c3 => ?_)
      · replace hM := i_neg hM c3
        refine lv_iinc (v := (x2 + 1)) (lv' := [(2, .int (x2 + 1)), (0, .ref (h 44)), (1, .int x1)]) hx hb dX7_countSolved_25 hl (k := 2) rfl rfl (by decide) rfl (fun ls hl => ?_)
        refine lv_goto (tgt := 4) hx hb dX7_countSolved_28 (by decide) ?_
        exact ih _ _ _ _ hM _ _ hw _ (lv_sub hl [1, 2, 0] rfl)
      · replace hM := i_pos hM c3
        refine lv_iinc (v := (x1 + 1)) (lv' := [(1, .int (x1 + 1)), (0, .ref (h 44)), (2, .int x2)]) hx hb dX7_countSolved_22 hl (k := 1) rfl rfl (by decide) rfl (fun ls hl => ?_)
        refine lv_iinc (v := (x2 + 1)) (lv' := [(2, .int (x2 + 1)), (1, .int (x1 + 1)), (0, .ref (h 44))]) hx hb dX7_countSolved_25 hl (k := 2) rfl rfl (by decide) rfl (fun ls hl => ?_)
        refine lv_goto (tgt := 4) hx hb dX7_countSolved_28 (by decide) ?_
        exact ih _ _ _ _ hM _ _ hw _ (lv_sub hl [2, 1, 0] rfl)
set_option maxRecDepth 100000 in
set_option maxHeartbeats 4000000 in
theorem c_X7_countSolved (l : Launch) (D : va_G) (cA : Nat → ClassId) (tS : Nat → Nat) (A : Nat → Prop) (h : Nat → Nat) (L : Nat) (F : va_W) (N : Nat) (σ : Sg) (r0 : Int32) (hM : f_X7_countSolved N σ = some r0) : Ct l yX7_countSolved (Cond.code yX7_countSolved cX7_countSolved 3 (some .int) :: bw) 0 0 D cA tS A [.ref (h 44)] (wK cA h σ ++ (wLg cA h σ L ++ (wC cA h σ ++ F))) (some (.int r0)) (wK cA h σ ++ (wLg cA h σ L ++ (wC cA h σ ++ F))) := by
  refine ct_of (by decide +kernel) (Nat.le_of_ble_eq_true rfl) ?_
  intro p e s m below meth c E hw ls hl
  replace E : Ev p cX7_countSolved 3 (some .int) RX7 (Cond.code yX7_countSolved cX7_countSolved 3 (some .int) :: bw) D cA tS A s m _ meth c := E
  replace hl : lv_has ls 3 [(0, .ref (h 44))] := hl
  have hx := E.1.1
  have hb := E.1.2.1
  unfold f_X7_countSolved at hM
  refine lv_iconst (v := 0) hx hb dX7_countSolved_0 (by decide) ?_
  refine lv_istore_n (lv' := [(1, .int 0), (0, .ref (h 44))]) hx hb dX7_countSolved_1 rfl hl (by decide) rfl (fun ls hl => ?_)
  refine lv_iconst (v := 0) hx hb dX7_countSolved_2 (by decide) ?_
  refine lv_istore_n (lv' := [(2, .int 0), (1, .int 0), (0, .ref (h 44))]) hx hb dX7_countSolved_3 rfl hl (by decide) rfl (fun ls hl => ?_)
  exact s_X7_countSolved_4 l D cA tS A h L F N E N _ _ _ _ hM _ _ hw _ (lv_sub hl [2, 1, 0] rfl)
