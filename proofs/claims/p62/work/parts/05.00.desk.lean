set_option maxRecDepth 100000 in
set_option maxHeartbeats 4000000 in
theorem c_X0_begin (l : Launch) (D : va_G) (cA : Nat → ClassId) (tS : Nat → Nat) (A : Nat → Prop) (h : Nat → Nat) (L : Nat) (F : va_W) (σ : Sg) (s0 : Sg) (hM : f_X0_begin σ = some s0) : Ct l yX0_begin (Cond.code yX0_begin cX0_begin 1 none :: bw) 1 53 D cA tS A [.ref (h 43)] (wK cA h σ ++ (wLg cA h σ L ++ (wC cA h σ ++ F))) none (wK cA h s0 ++ (wLg cA h s0 L ++ (wC cA h s0 ++ F))) := by
  refine ct_of (by decide +kernel) (Nat.le_of_ble_eq_true rfl) ?_
  intro p e s m below meth c E hw ls hl
  replace E : Ev p cX0_begin 1 none RX0 (Cond.code yX0_begin cX0_begin 1 none :: bw) D cA tS A s m _ meth c := E
  replace hl : lv_has ls 1 [(0, .ref (h 43))] := hl
  have hx := E.1.1
  have hb := E.1.2.1
  unfold f_X0_begin at hM
  refine va_getsN hx hb (E.2.2.2.2.2.2.1.1.1) hw.2.2 E.1.2.2.2.1 (va_Nw.use rfl (E.2.2.2.2.2.1 (.fieldLinkNest RX0 18 RX8 "FIRST_OPENING" "[I" "HelpDesk") (by decide +kernel))) (fun _ h => h) dX0_begin_0 ?_
  refine lv_iconst (v := 0) hx hb dX0_begin_3 (by decide) ?_
  refine lv_aload_n hx hb dX0_begin_4 rfl (lv_at hl 0 rfl) ?_
  refine q_get (C := RX0) (T := TX0) (N := 2) (ci := 0) E (fun w h => List.mem_cons_of_mem _ (inX0 w h)) hw 13 rfl rfl 0 (by decide) (List.mem_cons_of_mem _ tb_98) (v := .ref (h 13)) rfl dX0_begin_5 ?_
  refine lv_iconst (v := 0) hx hb dX0_begin_8 (by decide) ?_
  refine lv_bipush (v := 7) hx hb dX0_begin_9 (by decide) ?_
  refine q_copyt E hw hl (E.2.2.2.2.2.2.1.1.2) 14 rfl rfl (List.mem_cons_of_mem _ tb_258) (List.mem_cons_of_mem _ tb_260) (List.mem_cons_of_mem _ tb_259) (List.mem_cons_of_mem _ tb_55) (by decide +kernel) (by decide +kernel) (by decide +kernel) (by decide +kernel) (by decide +kernel) (Nat.le_of_ble_eq_true rfl) (Nat.le_of_ble_eq_true rfl) (wK cA h (upr σ 13 (va_cpy sA0 (σ 13) (ix 0) (ix 0) (ix 7))) ++ (wLg cA h (upr σ 13 (va_cpy sA0 (σ 13) (ix 0) (ix 0) (ix 7))) L ++ (wC cA h (upr σ 13 (va_cpy sA0 (σ 13) (ix 0) (ix 0) (ix 7))) ++ F))) st_K_Lg_C_13r dX0_begin_11 (fun H locs hw => ?_)
  refine va_getsN hx hb (E.2.2.2.2.2.2.1.2.1.1) hw.2.2 E.1.2.2.2.1 (va_Nw.use rfl (E.2.2.2.2.2.1 (.fieldLinkNest RX0 27 RX8 "FIRST_CLOSING" "[I" "HelpDesk") (by decide +kernel))) (fun _ h => h) dX0_begin_14 ?_
  refine lv_iconst (v := 0) hx hb dX0_begin_17 (by decide) ?_
  refine lv_aload_n hx hb dX0_begin_18 rfl (lv_at hl 0 rfl) ?_
  refine q_get (C := RX0) (T := TX0) (N := 2) (ci := 0) E (fun w h => List.mem_cons_of_mem _ (inX0 w h)) hw 13 rfl rfl 1 (by decide) (List.mem_cons_of_mem _ tb_99) (v := .ref (h 14)) rfl dX0_begin_19 ?_
  refine lv_iconst (v := 0) hx hb dX0_begin_22 (by decide) ?_
  refine lv_bipush (v := 7) hx hb dX0_begin_23 (by decide) ?_
  refine q_copyt E hw hl (E.2.2.2.2.2.2.1.2.1.2) 15 rfl (upr_ne σ 13 (va_cpy sA0 (σ 13) (ix 0) (ix 0) (ix 7)) 14 (by decide)) (List.mem_cons_of_mem _ tb_258) (List.mem_cons_of_mem _ tb_260) (List.mem_cons_of_mem _ tb_259) (List.mem_cons_of_mem _ tb_55) (by decide +kernel) (by decide +kernel) (by decide +kernel) (by decide +kernel) (by decide +kernel) (Nat.le_of_ble_eq_true rfl) (Nat.le_of_ble_eq_true rfl) (wK cA h (upr (upr σ 13 (va_cpy sA0 (σ 13) (ix 0) (ix 0) (ix 7))) 14 (va_cpy sA1 (σ 14) (ix 0) (ix 0) (ix 7))) ++ (wLg cA h (upr (upr σ 13 (va_cpy sA0 (σ 13) (ix 0) (ix 0) (ix 7))) 14 (va_cpy sA1 (σ 14) (ix 0) (ix 0) (ix 7))) L ++ (wC cA h (upr (upr σ 13 (va_cpy sA0 (σ 13) (ix 0) (ix 0) (ix 7))) 14 (va_cpy sA1 (σ 14) (ix 0) (ix 0) (ix 7))) ++ F))) st_K_Lg_C_14r dX0_begin_25 (fun H locs hw => ?_)
  cases hM
  exact q_retv E hw dX0_begin_28
set_option maxRecDepth 100000 in
set_option maxHeartbeats 4000000 in
theorem c_X0_setHours (l : Launch) (D : va_G) (cA : Nat → ClassId) (tS : Nat → Nat) (A : Nat → Prop) (h : Nat → Nat) (L : Nat) (F : va_W) (x1 : Int32) (x2 : Int32) (x3 : Int32) (σ : Sg) (s0 : Sg) (hM : f_X0_setHours x1 x2 x3 σ = some s0) : Ct l yX0_setHours (Cond.code yX0_setHours cX0_setHours 4 none :: bw) 0 0 D cA tS A [.ref (h 43), .int x1, .int x2, .int x3] (wK cA h σ ++ (wLg cA h σ L ++ (wC cA h σ ++ F))) none (wK cA h s0 ++ (wLg cA h s0 L ++ (wC cA h s0 ++ F))) := by
  refine ct_of (by decide +kernel) (Nat.le_of_ble_eq_true rfl) ?_
  intro p e s m below meth c E hw ls hl
  replace E : Ev p cX0_setHours 4 none RX0 (Cond.code yX0_setHours cX0_setHours 4 none :: bw) D cA tS A s m _ meth c := E
  replace hl : lv_has ls 4 [(0, .ref (h 43)), (1, .int x1), (2, .int x2), (3, .int x3)] := hl
  have hx := E.1.1
  have hb := E.1.2.1
  unfold f_X0_setHours at hM
  refine lv_aload_n hx hb dX0_setHours_0 rfl (lv_at hl 0 rfl) ?_
  refine q_get (C := RX0) (T := TX0) (N := 2) (ci := 0) E (fun w h => List.mem_cons_of_mem _ (inX0 w h)) hw 13 rfl rfl 0 (by decide) (List.mem_cons_of_mem _ tb_98) (v := .ref (h 13)) rfl dX0_setHours_1 ?_
  refine lv_iload_n hx hb dX0_setHours_4 rfl (lv_at hl 1 rfl) ?_
  refine lv_iload_n hx hb dX0_setHours_5 rfl (lv_at hl 2 rfl) ?_
  obtain ⟨g1, hM⟩ := g_some hM
  refine q_ast E hw 14 (n := 7) rfl g1 (wK cA h (up σ 13 (ix x1) x2) ++ (wLg cA h (up σ 13 (ix x1) x2) L ++ (wC cA h (up σ 13 (ix x1) x2) ++ F))) st_K_Lg_C_13 dX0_setHours_6 (fun H locs hw => ?_)
  refine lv_aload_n hx hb dX0_setHours_7 rfl (lv_at hl 0 rfl) ?_
  refine q_get (C := RX0) (T := TX0) (N := 2) (ci := 0) E (fun w h => List.mem_cons_of_mem _ (inX0 w h)) hw 13 rfl rfl 1 (by decide) (List.mem_cons_of_mem _ tb_99) (v := .ref (h 14)) rfl dX0_setHours_8 ?_
  refine lv_iload_n hx hb dX0_setHours_11 rfl (lv_at hl 1 rfl) ?_
  refine lv_iload_n hx hb dX0_setHours_12 rfl (lv_at hl 3 rfl) ?_
  refine q_ast E hw 15 (n := 7) rfl g1 (wK cA h (up (up σ 13 (ix x1) x2) 14 (ix x1) x3) ++ (wLg cA h (up (up σ 13 (ix x1) x2) 14 (ix x1) x3) L ++ (wC cA h (up (up σ 13 (ix x1) x2) 14 (ix x1) x3) ++ F))) st_K_Lg_C_14 dX0_setHours_13 (fun H locs hw => ?_)
  cases hM
  exact q_retv E hw dX0_setHours_14
set_option maxRecDepth 100000 in
set_option maxHeartbeats 4000000 in
theorem c_X8_within (l : Launch) (D : va_G) (cA : Nat → ClassId) (tS : Nat → Nat) (A : Nat → Prop) (F : va_W) (x0 : Int32) (x1 : Int32) (x2 : Int32) (r0 : Int32) (hM : f_X8_within x0 x1 x2 = some r0) : Ct l yX8_within (Cond.code yX8_within cX8_within 3 (some .boolean) :: bw) 0 0 D cA tS A [.int x0, .int x1, .int x2] F (some (.int r0)) F := by
  refine ct_of (by decide +kernel) (Nat.le_of_ble_eq_true rfl) ?_
  intro p e s m below meth c E hw ls hl
  replace E : Ev p cX8_within 3 (some .boolean) RX8 (Cond.code yX8_within cX8_within 3 (some .boolean) :: bw) D cA tS A s m _ meth c := E
  replace hl : lv_has ls 3 [(0, .int x0), (1, .int x1), (2, .int x2)] := hl
  have hx := E.1.1
  have hb := E.1.2.1
  unfold f_X8_within at hM
  refine lv_iload_n hx hb dX8_within_0 rfl (lv_at hl 0 rfl) ?_
  refine lv_iload_n hx hb dX8_within_1 rfl (lv_at hl 1 rfl) ?_
  refine lv_icmp_lt (tgt := 14) hx hb dX8_within_2 (by decide) (fun c1 => ?_) (fun c1 => ?_)
  · replace hM := i_pos hM c1
    refine lv_iconst (v := 0) hx hb dX8_within_14 (by decide) ?_
    cases hM
    exact q_retz E hw (by decide) dX8_within_15
  · replace hM := i_neg hM c1
    refine lv_iload_n hx hb dX8_within_5 rfl (lv_at hl 0 rfl) ?_
    refine lv_iload_n hx hb dX8_within_6 rfl (lv_at hl 2 rfl) ?_
    refine lv_icmp_gt (tgt := 14) hx hb dX8_within_7 (by decide) (fun c2 => ?_) (fun c2 => ?_)
    · replace hM := i_pos hM c2
      refine lv_iconst (v := 0) hx hb dX8_within_14 (by decide) ?_
      cases hM
      exact q_retz E hw (by decide) dX8_within_15
    · replace hM := i_neg hM c2
      refine lv_iconst (v := 1) hx hb dX8_within_10 (by decide) ?_
      refine lv_goto (tgt := 15) hx hb dX8_within_11 (by decide) ?_
      cases hM
      exact q_retz E hw (by decide) dX8_within_15
set_option maxRecDepth 100000 in
set_option maxHeartbeats 4000000 in
theorem c_X0_opensAt (l : Launch) (D : va_G) (cA : Nat → ClassId) (tS : Nat → Nat) (A : Nat → Prop) (h : Nat → Nat) (L : Nat) (F : va_W) (x1 : Int32) (σ : Sg) (r0 : Int32) (hM : f_X0_opensAt x1 σ = some r0) : Ct l yX0_opensAt (Cond.code yX0_opensAt cX0_opensAt 2 (some .boolean) :: bw) 1 22 D cA tS A [.ref (h 43), .int x1] (wK cA h σ ++ (wLg cA h σ L ++ (wC cA h σ ++ F))) (some (.int r0)) (wK cA h σ ++ (wLg cA h σ L ++ (wC cA h σ ++ F))) := by
  refine ct_of (by decide +kernel) (Nat.le_of_ble_eq_true rfl) ?_
  intro p e s m below meth c E hw ls hl
  replace E : Ev p cX0_opensAt 2 (some .boolean) RX0 (Cond.code yX0_opensAt cX0_opensAt 2 (some .boolean) :: bw) D cA tS A s m _ meth c := E
  replace hl : lv_has ls 2 [(0, .ref (h 43)), (1, .int x1)] := hl
  have hx := E.1.1
  have hb := E.1.2.1
  unfold f_X0_opensAt at hM
  refine lv_iload_n hx hb dX0_opensAt_0 rfl (lv_at hl 1 rfl) ?_
  refine lv_iconst (v := 0) hx hb dX0_opensAt_1 (by decide) ?_
  refine lv_sipush (v := 10079) hx hb dX0_opensAt_2 (by decide) ?_
  obtain ⟨p1, h2, hM⟩ := b_some hM
  refine q_cn (host := "HelpDesk") (As := [.int x1, .int 0, .int 10079]) (rest := []) E hw hl (c_X8_within l D cA tS A (wK cA h σ ++ (wLg cA h σ L ++ (wC cA h σ ++ F))) x1 0 10079 p1 h2) 3 (bwc bw_c tb_452) rfl (by decide +kernel) (List.mem_cons_of_mem _ tb_47) (List.mem_cons_of_mem _ tb_451) (by decide +kernel) ⟨Nat.le_of_ble_eq_true rfl, Nat.le_of_ble_eq_true rfl⟩ rfl rfl (Nat.le_of_ble_eq_true rfl) ⟨Nat.zero_le _, Nat.zero_le _⟩ dX0_opensAt_5 (fun H locs hw => ?_)
  refine lv_if_ne (tgt := 13) hx hb dX0_opensAt_8 (by decide) (fun c3 => ?_) (fun c3 => ?_)
  · replace hM := i_neg hM c3
    refine lv_iload_n hx hb dX0_opensAt_13 rfl (lv_at hl 1 rfl) ?_
    refine lv_sipush (v := 1440) hx hb dX0_opensAt_14 (by decide) ?_
    refine lv_irem hx hb dX0_opensAt_17 (by decide) ?_
    refine lv_aload_n hx hb dX0_opensAt_18 rfl (lv_at hl 0 rfl) ?_
    refine q_get (C := RX0) (T := TX0) (N := 2) (ci := 0) E (fun w h => List.mem_cons_of_mem _ (inX0 w h)) hw 13 rfl rfl 0 (by decide) (List.mem_cons_of_mem _ tb_98) (v := .ref (h 13)) rfl dX0_opensAt_19 ?_
    refine lv_iload_n hx hb dX0_opensAt_22 rfl (lv_at hl 1 rfl) ?_
    refine lv_sipush (v := 1440) hx hb dX0_opensAt_23 (by decide) ?_
    refine lv_idiv hx hb dX0_opensAt_26 (by decide) ?_
    obtain ⟨g4, hM⟩ := g_some hM
    refine q_ald E hw 14 (n := 7) rfl g4 (x := (σ 13 (ix (x1 / 1440)))) rfl dX0_opensAt_27 ?_
    refine lv_aload_n hx hb dX0_opensAt_28 rfl (lv_at hl 0 rfl) ?_
    refine q_get (C := RX0) (T := TX0) (N := 2) (ci := 0) E (fun w h => List.mem_cons_of_mem _ (inX0 w h)) hw 13 rfl rfl 1 (by decide) (List.mem_cons_of_mem _ tb_99) (v := .ref (h 14)) rfl dX0_opensAt_29 ?_
    refine lv_iload_n hx hb dX0_opensAt_32 rfl (lv_at hl 1 rfl) ?_
    refine lv_sipush (v := 1440) hx hb dX0_opensAt_33 (by decide) ?_
    refine lv_idiv hx hb dX0_opensAt_36 (by decide) ?_
    refine q_ald E hw 15 (n := 7) rfl g4 (x := (σ 14 (ix (x1 / 1440)))) rfl dX0_opensAt_37 ?_
    refine lv_iconst (v := 1) hx hb dX0_opensAt_38 (by decide) ?_
    refine lv_isub hx hb dX0_opensAt_39 ?_
    obtain ⟨p5, h6, hM⟩ := b_some hM
    refine q_cn (host := "HelpDesk") (As := [.int (x1 - ((x1 / 1440) * 1440)), .int (σ 13 (ix (x1 / 1440))), .int ((σ 14 (ix (x1 / 1440))) - 1)]) (rest := []) E hw hl (c_X8_within l D cA tS A (wK cA h σ ++ (wLg cA h σ L ++ (wC cA h σ ++ F))) (x1 - ((x1 / 1440) * 1440)) (σ 13 (ix (x1 / 1440))) ((σ 14 (ix (x1 / 1440))) - 1) p5 h6) 3 (bwc bw_c tb_452) rfl (by decide +kernel) (List.mem_cons_of_mem _ tb_47) (List.mem_cons_of_mem _ tb_451) (by decide +kernel) ⟨Nat.le_of_ble_eq_true rfl, Nat.le_of_ble_eq_true rfl⟩ rfl rfl (Nat.le_of_ble_eq_true rfl) ⟨Nat.zero_le _, Nat.zero_le _⟩ dX0_opensAt_40 (fun H locs hw => ?_)
    obtain ⟨g7, hM⟩ := g_some hM
    cases hM
    exact q_retz E hw g7 dX0_opensAt_43
  · replace hM := i_pos hM c3
    refine lv_iconst (v := 0) hx hb dX0_opensAt_11 (by decide) ?_
    cases hM
    exact q_retz E hw (by decide) dX0_opensAt_12
set_option maxRecDepth 100000 in
set_option maxHeartbeats 4000000 in
theorem s_X0_openBetween_5 (l : Launch) (D : va_G) (cA : Nat → ClassId) (tS : Nat → Nat) (A : Nat → Prop) (h : Nat → Nat) (L : Nat) (F : va_W) (N : Nat) {p : Program} {e : Env} {s : State} {m : MethodId} {args : Array Value} {below : List Frame} {meth : Method} {c : Code} (E : Ev p cX0_openBetween 7 (some .int) RX0 (Cond.code yX0_openBetween cX0_openBetween 7 (some .int) :: bw) D cA tS A s m args meth c) : ∀ (n : Nat) (x1 : Int32) (x2 : Int32) (x3 : Int32) (x4 : Int32) (σ : Sg) (r0 : Int32) (hM : f_X0_openBetween_5 N n x1 x2 x3 x4 σ = some r0) (H : Heap) (locs : List Loc) (hw : Wd D A (wK cA h σ ++ (wLg cA h σ L ++ (wC cA h σ ++ F))) s.heap H locs) (ls : Array Slot) (hl : lv_has ls 7 [(0, .ref (h 43)), (1, .int x1), (2, .int x2), (3, .int x3), (4, .int x4)]), W p l e ({ frames := 1, cells := 0, slots := 0, locals := 21 } : Room) s m args below meth c H locs 0 0 (MQ below (QW D A (some (.int r0)) (wK cA h σ ++ (wLg cA h σ L ++ (wC cA h σ ++ F)))) args s 0 0 A) (F0 m 5 ls []) := by
  have hx := E.1.1
  have hb := E.1.2.1
  intro n
  induction n with
  | zero =>
    intro x1 x2 x3 x4 σ r0 hM
    cases hM
  | succ n ih =>
    intro x1 x2 x3 x4 σ r0 hM H locs hw ls hl
    rw [f_X0_openBetween_5] at hM
    refine lv_iload hx hb dX0_openBetween_5 (lv_at hl 4 rfl) ?_
    refine lv_bipush (v := 7) hx hb dX0_openBetween_7 (by decide) ?_
    refine lv_icmp_ge (tgt := 70) hx hb dX0_openBetween_9 (by decide) (fun c1 => ?_) (fun c1 => ?_)
    · replace hM := i_pos hM c1
      refine lv_iload_n hx hb dX0_openBetween_70 rfl (lv_at hl 3 rfl) ?_
      cases hM
      exact q_reti E hw dX0_openBetween_71
    · replace hM := i_neg hM c1
      refine lv_iload_n hx hb dX0_openBetween_12 rfl (lv_at hl 1 rfl) ?_
      refine lv_iload hx hb dX0_openBetween_13 (lv_at hl 4 rfl) ?_
      refine lv_sipush (v := 1440) hx hb dX0_openBetween_15 (by decide) ?_
      refine lv_imul hx hb dX0_openBetween_18 ?_
      refine lv_aload_n hx hb dX0_openBetween_19 rfl (lv_at hl 0 rfl) ?_
      refine q_get (C := RX0) (T := TX0) (N := 2) (ci := 0) E (fun w h => List.mem_cons_of_mem _ (inX0 w h)) hw 13 rfl rfl 0 (by decide) (List.mem_cons_of_mem _ tb_98) (v := .ref (h 13)) rfl dX0_openBetween_20 ?_
      refine lv_iload hx hb dX0_openBetween_23 (lv_at hl 4 rfl) ?_
      obtain ⟨g2, hM⟩ := g_some hM
      refine q_ald E hw 14 (n := 7) rfl g2 (x := (σ 13 (ix x4))) rfl dX0_openBetween_25 ?_
      refine lv_iadd hx hb dX0_openBetween_26 ?_
      refine va_mmax hx hb (E.1.2.2.1.trans hl.1.symm) E.1.2.2.2.1 (E.1.2.2.2.2 _ (List.mem_cons_of_mem _ tb_987)) (E.1.2.2.2.2 _ (List.mem_cons_of_mem _ tb_225)) (E.1.2.2.2.2 _ (List.mem_cons_of_mem _ tb_54)) (E.1.2.2.2.2 _ (List.mem_cons_of_mem _ tb_226)) (Nat.le_of_ble_eq_true rfl) (Nat.le_of_ble_eq_true rfl) (Nat.zero_le _) (Nat.zero_le _) dX0_openBetween_27 ?_
      refine lv_istore (lv' := [(5, .int (if x1 < ((x4 * 1440) + (σ 13 (ix x4))) then ((x4 * 1440) + (σ 13 (ix x4))) else x1)), (0, .ref (h 43)), (1, .int x1), (2, .int x2), (3, .int x3), (4, .int x4)]) hx hb dX0_openBetween_30 hl (by decide) rfl (fun ls hl => ?_)
      refine lv_iload_n hx hb dX0_openBetween_32 rfl (lv_at hl 3 rfl) ?_
      refine lv_iload hx hb dX0_openBetween_33 (lv_at hl 5 rfl) ?_
      refine lv_sipush (v := 1440) hx hb dX0_openBetween_35 (by decide) ?_
      refine lv_imul hx hb dX0_openBetween_38 ?_
      refine lv_aload_n hx hb dX0_openBetween_39 rfl (lv_at hl 1 rfl) ?_
      refine q_get (C := RX0) (T := TX0) (N := 2) (ci := 0) E (fun w h => List.mem_cons_of_mem _ (inX0 w h)) hw 13 rfl rfl 1 (by decide) (List.mem_cons_of_mem _ tb_99) (v := .ref (h 14)) rfl dX0_openBetween_40 ?_
      refine lv_iload hx hb dX0_openBetween_43 (lv_at hl 5 rfl) ?_
      refine q_ald E hw 15 (n := 7) rfl g2 (x := (σ 14 (ix x4))) rfl dX0_openBetween_45 ?_
      refine lv_iadd hx hb dX0_openBetween_46 ?_
      refine va_mmin hx hb (E.1.2.2.1.trans hl.1.symm) E.1.2.2.2.1 (E.1.2.2.2.2 _ (List.mem_cons_of_mem _ tb_988)) (E.1.2.2.2.2 _ (List.mem_cons_of_mem _ tb_510)) (E.1.2.2.2.2 _ (List.mem_cons_of_mem _ tb_54)) (E.1.2.2.2.2 _ (List.mem_cons_of_mem _ tb_511)) (Nat.le_of_ble_eq_true rfl) (Nat.le_of_ble_eq_true rfl) (Nat.zero_le _) (Nat.zero_le _) dX0_openBetween_47 ?_
      refine lv_istore (lv' := [(6, .int (if ((x4 * 1440) + (σ 14 (ix x4))) < x2 then ((x4 * 1440) + (σ 14 (ix x4))) else x2)), (5, .int (if x1 < ((x4 * 1440) + (σ 13 (ix x4))) then ((x4 * 1440) + (σ 13 (ix x4))) else x1)), (0, .ref (h 43)), (1, .int x1), (2, .int x2), (3, .int x3), (4, .int x4)]) hx hb dX0_openBetween_50 hl (by decide) rfl (fun ls hl => ?_)
      refine lv_iload_n hx hb dX0_openBetween_52 rfl (lv_at hl 5 rfl) ?_
      refine lv_iconst (v := 0) hx hb dX0_openBetween_53 (by decide) ?_
      refine lv_iload hx hb dX0_openBetween_54 (lv_at hl 0 rfl) ?_
      refine lv_iload hx hb dX0_openBetween_56 (lv_at hl 1 rfl) ?_
      refine lv_isub hx hb dX0_openBetween_58 ?_
      refine va_mmax hx hb (E.1.2.2.1.trans hl.1.symm) E.1.2.2.2.1 (E.1.2.2.2.2 _ (List.mem_cons_of_mem _ tb_987)) (E.1.2.2.2.2 _ (List.mem_cons_of_mem _ tb_225)) (E.1.2.2.2.2 _ (List.mem_cons_of_mem _ tb_54)) (E.1.2.2.2.2 _ (List.mem_cons_of_mem _ tb_226)) (Nat.le_of_ble_eq_true rfl) (Nat.le_of_ble_eq_true rfl) (Nat.zero_le _) (Nat.zero_le _) dX0_openBetween_59 ?_
      refine lv_iadd hx hb dX0_openBetween_62 ?_
      refine lv_istore_n (lv' := [(3, .int (x3 + (if 0 < ((if ((x4 * 1440) + (σ 14 (ix x4))) < x2 then ((x4 * 1440) + (σ 14 (ix x4))) else x2) - (if x1 < ((x4 * 1440) + (σ 13 (ix x4))) then ((x4 * 1440) + (σ 13 (ix x4))) else x1)) then ((if ((x4 * 1440) + (σ 14 (ix x4))) < x2 then ((x4 * 1440) + (σ 14 (ix x4))) else x2) - (if x1 < ((x4 * 1440) + (σ 13 (ix x4))) then ((x4 * 1440) + (σ 13 (ix x4))) else x1)) else 0))), (6, .int (if ((x4 * 1440) + (σ 14 (ix x4))) < x2 then ((x4 * 1440) + (σ 14 (ix x4))) else x2)), (5, .int (if x1 < ((x4 * 1440) + (σ 13 (ix x4))) then ((x4 * 1440) + (σ 13 (ix x4))) else x1)), (0, .ref (h 43)), (1, .int x1), (2, .int x2), (4, .int x4)]) hx hb dX0_openBetween_63 rfl hl (by decide) rfl (fun ls hl => ?_)
      refine lv_iinc (v := (x4 + 1)) (lv' := [(4, .int (x4 + 1)), (3, .int (x3 + (if 0 < ((if ((x4 * 1440) + (σ 14 (ix x4))) < x2 then ((x4 * 1440) + (σ 14 (ix x4))) else x2) - (if x1 < ((x4 * 1440) + (σ 13 (ix x4))) then ((x4 * 1440) + (σ 13 (ix x4))) else x1)) then ((if ((x4 * 1440) + (σ 14 (ix x4))) < x2 then ((x4 * 1440) + (σ 14 (ix x4))) else x2) - (if x1 < ((x4 * 1440) + (σ 13 (ix x4))) then ((x4 * 1440) + (σ 13 (ix x4))) else x1)) else 0))), (6, .int (if ((x4 * 1440) + (σ 14 (ix x4))) < x2 then ((x4 * 1440) + (σ 14 (ix x4))) else x2)), (5, .int (if x1 < ((x4 * 1440) + (σ 13 (ix x4))) then ((x4 * 1440) + (σ 13 (ix x4))) else x1)), (0, .ref (h 43)), (1, .int x1), (2, .int x2)]) hx hb dX0_openBetween_64 hl (k := 6) rfl rfl (by decide) rfl (fun ls hl => ?_)
      refine lv_goto (tgt := 5) hx hb dX0_openBetween_67 (by decide) ?_
      exact ih _ _ _ _ _ _ hM _ _ hw _ (lv_sub hl [4, 5, 6, 1, 0] rfl)
set_option maxRecDepth 100000 in
set_option maxHeartbeats 4000000 in
theorem c_X0_openBetween (l : Launch) (D : va_G) (cA : Nat → ClassId) (tS : Nat → Nat) (A : Nat → Prop) (h : Nat → Nat) (L : Nat) (F : va_W) (N : Nat) (x1 : Int32) (x2 : Int32) (σ : Sg) (r0 : Int32) (hM : f_X0_openBetween N x1 x2 σ = some r0) : Ct l yX0_openBetween (Cond.code yX0_openBetween cX0_openBetween 7 (some .int) :: bw) 1 21 D cA tS A [.ref (h 43), .int x1, .int x2] (wK cA h σ ++ (wLg cA h σ L ++ (wC cA h σ ++ F))) (some (.int r0)) (wK cA h σ ++ (wLg cA h σ L ++ (wC cA h σ ++ F))) := by
  refine ct_of (by decide +kernel) (Nat.le_of_ble_eq_true rfl) ?_
  intro p e s m below meth c E hw ls hl
  replace E : Ev p cX0_openBetween 7 (some .int) RX0 (Cond.code yX0_openBetween cX0_openBetween 7 (some .int) :: bw) D cA tS A s m _ meth c := E
  replace hl : lv_has ls 7 [(0, .ref (h 43)), (1, .int x1), (2, .int x2)] := hl
  have hx := E.1.1
  have hb := E.1.2.1
  unfold f_X0_openBetween at hM
  refine lv_iconst (v := 0) hx hb dX0_openBetween_0 (by decide) ?_
  refine lv_istore_n (lv' := [(3, .int 0), (0, .ref (h 43)), (1, .int x1), (2, .int x2)]) hx hb dX0_openBetween_1 rfl hl (by decide) rfl (fun ls hl => ?_)
  refine lv_iconst (v := 0) hx hb dX0_openBetween_2 (by decide) ?_
  refine lv_istore (lv' := [(4, .int 0), (3, .int 0), (0, .ref (h 43)), (1, .int x1), (2, .int x2)]) hx hb dX0_openBetween_3 hl (by decide) rfl (fun ls hl => ?_)
  exact s_X0_openBetween_5 l D cA tS A h L F N E N _ _ _ _ _ _ hM _ _ hw _ (lv_sub hl [2, 3, 4, 1, 0] rfl)
set_option maxRecDepth 100000 in
set_option maxHeartbeats 4000000 in
theorem c_X0_alikeUntil (l : Launch) (D : va_G) (cA : Nat → ClassId) (tS : Nat → Nat) (A : Nat → Prop) (h : Nat → Nat) (L : Nat) (F : va_W) (x1 : Int32) (σ : Sg) (r0 : Int32) (hM : f_X0_alikeUntil x1 σ = some r0) : Ct l yX0_alikeUntil (Cond.code yX0_alikeUntil cX0_alikeUntil 3 (some .int) :: bw) 1 22 D cA tS A [.ref (h 43), .int x1] (wK cA h σ ++ (wLg cA h σ L ++ (wC cA h σ ++ F))) (some (.int r0)) (wK cA h σ ++ (wLg cA h σ L ++ (wC cA h σ ++ F))) := by
  refine ct_of (by decide +kernel) (Nat.le_of_ble_eq_true rfl) ?_
  intro p e s m below meth c E hw ls hl
  replace E : Ev p cX0_alikeUntil 3 (some .int) RX0 (Cond.code yX0_alikeUntil cX0_alikeUntil 3 (some .int) :: bw) D cA tS A s m _ meth c := E
  replace hl : lv_has ls 3 [(0, .ref (h 43)), (1, .int x1)] := hl
  have hx := E.1.1
  have hb := E.1.2.1
  unfold f_X0_alikeUntil at hM
  refine lv_iload_n hx hb dX0_alikeUntil_0 rfl (lv_at hl 1 rfl) ?_
  refine lv_iconst (v := 0) hx hb dX0_alikeUntil_1 (by decide) ?_
  refine lv_sipush (v := 10079) hx hb dX0_alikeUntil_2 (by decide) ?_
  obtain ⟨p1, h2, hM⟩ := b_some hM
  refine q_cn (host := "HelpDesk") (As := [.int x1, .int 0, .int 10079]) (rest := []) E hw hl (c_X8_within l D cA tS A (wK cA h σ ++ (wLg cA h σ L ++ (wC cA h σ ++ F))) x1 0 10079 p1 h2) 3 (bwc bw_c tb_452) rfl (by decide +kernel) (List.mem_cons_of_mem _ tb_47) (List.mem_cons_of_mem _ tb_451) (by decide +kernel) ⟨Nat.le_of_ble_eq_true rfl, Nat.le_of_ble_eq_true rfl⟩ rfl rfl (Nat.le_of_ble_eq_true rfl) ⟨Nat.zero_le _, Nat.zero_le _⟩ dX0_alikeUntil_5 (fun H locs hw => ?_)
  refine lv_if_ne (tgt := 15) hx hb dX0_alikeUntil_8 (by decide) (fun c3 => ?_) (fun c3 => ?_)
  · replace hM := i_neg hM c3
    refine lv_iload_n hx hb dX0_alikeUntil_15 rfl (lv_at hl 1 rfl) ?_
    refine lv_sipush (v := 1440) hx hb dX0_alikeUntil_16 (by decide) ?_
    refine lv_idiv hx hb dX0_alikeUntil_19 (by decide) ?_
    refine lv_istore_n (lv' := [(2, .int (x1 / 1440)), (0, .ref (h 43)), (1, .int x1)]) hx hb dX0_alikeUntil_20 rfl hl (by decide) rfl (fun ls hl => ?_)
    refine lv_iload_n hx hb dX0_alikeUntil_21 rfl (lv_at hl 2 rfl) ?_
    refine lv_iload_n hx hb dX0_alikeUntil_22 rfl (lv_at hl 0 rfl) ?_
    refine lv_sipush (v := 1440) hx hb dX0_alikeUntil_23 (by decide) ?_
    refine lv_imul hx hb dX0_alikeUntil_26 ?_
    refine lv_aload_n hx hb dX0_alikeUntil_27 rfl (lv_at hl 1 rfl) ?_
    refine q_get (C := RX0) (T := TX0) (N := 2) (ci := 0) E (fun w h => List.mem_cons_of_mem _ (inX0 w h)) hw 13 rfl rfl 0 (by decide) (List.mem_cons_of_mem _ tb_98) (v := .ref (h 13)) rfl dX0_alikeUntil_28 ?_
    refine lv_iload_n hx hb dX0_alikeUntil_31 rfl (lv_at hl 0 rfl) ?_
    obtain ⟨g4, hM⟩ := g_some hM
    refine q_ald E hw 14 (n := 7) rfl g4 (x := (σ 13 (ix (x1 / 1440)))) rfl dX0_alikeUntil_32 ?_
    refine lv_iadd hx hb dX0_alikeUntil_33 ?_
    refine lv_icmp_ge (tgt := 50) hx hb dX0_alikeUntil_34 (by decide) (fun c5 => ?_) (fun c5 => ?_)
    · replace hM := i_pos hM c5
      refine lv_iload_n hx hb dX0_alikeUntil_50 rfl (lv_at hl 2 rfl) ?_
      refine lv_iload_n hx hb dX0_alikeUntil_51 rfl (lv_at hl 0 rfl) ?_
      refine lv_sipush (v := 1440) hx hb dX0_alikeUntil_52 (by decide) ?_
      refine lv_imul hx hb dX0_alikeUntil_55 ?_
      refine lv_aload_n hx hb dX0_alikeUntil_56 rfl (lv_at hl 1 rfl) ?_
      refine q_get (C := RX0) (T := TX0) (N := 2) (ci := 0) E (fun w h => List.mem_cons_of_mem _ (inX0 w h)) hw 13 rfl rfl 1 (by decide) (List.mem_cons_of_mem _ tb_99) (v := .ref (h 14)) rfl dX0_alikeUntil_57 ?_
      refine lv_iload_n hx hb dX0_alikeUntil_60 rfl (lv_at hl 0 rfl) ?_
      refine q_ald E hw 15 (n := 7) rfl g4 (x := (σ 14 (ix (x1 / 1440)))) rfl dX0_alikeUntil_61 ?_
      refine lv_iadd hx hb dX0_alikeUntil_62 ?_
      refine lv_icmp_ge (tgt := 79) hx hb dX0_alikeUntil_63 (by decide) (fun c6 => ?_) (fun c6 => ?_)
      · replace hM := i_pos hM c6
        refine lv_iload_n hx hb dX0_alikeUntil_79 rfl (lv_at hl 0 rfl) ?_
        refine lv_iconst (v := 1) hx hb dX0_alikeUntil_80 (by decide) ?_
        refine lv_iadd hx hb dX0_alikeUntil_81 ?_
        refine lv_sipush (v := 1440) hx hb dX0_alikeUntil_82 (by decide) ?_
        refine lv_imul hx hb dX0_alikeUntil_85 ?_
        cases hM
        exact q_reti E hw dX0_alikeUntil_86
      · replace hM := i_neg hM c6
        refine lv_iload_n hx hb dX0_alikeUntil_66 rfl (lv_at hl 0 rfl) ?_
        refine lv_sipush (v := 1440) hx hb dX0_alikeUntil_67 (by decide) ?_
        refine lv_imul hx hb dX0_alikeUntil_70 ?_
        refine lv_aload_n hx hb dX0_alikeUntil_71 rfl (lv_at hl 1 rfl) ?_
        refine q_get (C := RX0) (T := TX0) (N := 2) (ci := 0) E (fun w h => List.mem_cons_of_mem _ (inX0 w h)) hw 13 rfl rfl 1 (by decide) (List.mem_cons_of_mem _ tb_99) (v := .ref (h 14)) rfl dX0_alikeUntil_72 ?_
        refine lv_iload_n hx hb dX0_alikeUntil_75 rfl (lv_at hl 0 rfl) ?_
        refine q_ald E hw 15 (n := 7) rfl g4 (x := (σ 14 (ix (x1 / 1440)))) rfl dX0_alikeUntil_76 ?_
        refine lv_iadd hx hb dX0_alikeUntil_77 ?_
        cases hM
        exact q_reti E hw dX0_alikeUntil_78
    · replace hM := i_neg hM c5
      refine lv_iload_n hx hb dX0_alikeUntil_37 rfl (lv_at hl 0 rfl) ?_
      refine lv_sipush (v := 1440) hx hb dX0_alikeUntil_38 (by decide) ?_
      refine lv_imul hx hb dX0_alikeUntil_41 ?_
      refine lv_aload_n hx hb dX0_alikeUntil_42 rfl (lv_at hl 1 rfl) ?_
      refine q_get (C := RX0) (T := TX0) (N := 2) (ci := 0) E (fun w h => List.mem_cons_of_mem _ (inX0 w h)) hw 13 rfl rfl 0 (by decide) (List.mem_cons_of_mem _ tb_98) (v := .ref (h 13)) rfl dX0_alikeUntil_43 ?_
      refine lv_iload_n hx hb dX0_alikeUntil_46 rfl (lv_at hl 0 rfl) ?_
      refine q_ald E hw 14 (n := 7) rfl g4 (x := (σ 13 (ix (x1 / 1440)))) rfl dX0_alikeUntil_47 ?_
      refine lv_iadd hx hb dX0_alikeUntil_48 ?_
      cases hM
      exact q_reti E hw dX0_alikeUntil_49
  · replace hM := i_pos hM c3
    refine lv_iload_n hx hb dX0_alikeUntil_11 rfl (lv_at hl 1 rfl) ?_
    refine lv_iconst (v := 1) hx hb dX0_alikeUntil_12 (by decide) ?_
    refine lv_iadd hx hb dX0_alikeUntil_13 ?_
    cases hM
    exact q_reti E hw dX0_alikeUntil_14
set_option maxRecDepth 100000 in
set_option maxHeartbeats 4000000 in
theorem c_X0_copyFrom (l : Launch) (D : va_G) (cA : Nat → ClassId) (tS : Nat → Nat) (A : Nat → Prop) (h : Nat → Nat) (t : Nat → Nat) (F : va_W) (σ : Sg) (τ : Sg) (s0 : Sg) (hM : f_X0_copyFrom σ τ = some s0) : Ct l yX0_copyFrom (Cond.code yX0_copyFrom cX0_copyFrom 2 none :: bw) 1 53 D cA tS A [.ref (h 43), .ref (t 43)] (wC cA h σ ++ (wC cA t τ ++ F)) none (wC cA h s0 ++ (wC cA t τ ++ F)) := by
  refine ct_of (by decide +kernel) (Nat.le_of_ble_eq_true rfl) ?_
  intro p e s m below meth c E hw ls hl
  replace E : Ev p cX0_copyFrom 2 none RX0 (Cond.code yX0_copyFrom cX0_copyFrom 2 none :: bw) D cA tS A s m _ meth c := E
  replace hl : lv_has ls 2 [(0, .ref (h 43)), (1, .ref (t 43))] := hl
  have hx := E.1.1
  have hb := E.1.2.1
  unfold f_X0_copyFrom at hM
  refine lv_aload_n hx hb dX0_copyFrom_0 rfl (lv_at hl 1 rfl) ?_
  refine q_get (C := RX0) (T := TX0) (N := 2) (ci := 0) E (fun w h => List.mem_cons_of_mem _ (inX0 w h)) hw 21 rfl rfl 0 (by decide) (List.mem_cons_of_mem _ tb_98) (v := .ref (t 13)) rfl dX0_copyFrom_1 ?_
  refine lv_iconst (v := 0) hx hb dX0_copyFrom_4 (by decide) ?_
  refine lv_aload_n hx hb dX0_copyFrom_5 rfl (lv_at hl 0 rfl) ?_
  refine q_get (C := RX0) (T := TX0) (N := 2) (ci := 0) E (fun w h => List.mem_cons_of_mem _ (inX0 w h)) hw 1 rfl rfl 0 (by decide) (List.mem_cons_of_mem _ tb_98) (v := .ref (h 13)) rfl dX0_copyFrom_6 ?_
  refine lv_iconst (v := 0) hx hb dX0_copyFrom_9 (by decide) ?_
  refine lv_bipush (v := 7) hx hb dX0_copyFrom_10 (by decide) ?_
  refine q_copy E hw hl 22 2 rfl rfl rfl rfl (List.mem_cons_of_mem _ tb_258) (List.mem_cons_of_mem _ tb_260) (List.mem_cons_of_mem _ tb_259) (List.mem_cons_of_mem _ tb_55) (by decide +kernel) (by decide +kernel) (by decide +kernel) (by decide +kernel) (by decide +kernel) (Nat.le_of_ble_eq_true rfl) (Nat.le_of_ble_eq_true rfl) (wC cA h (upr σ 13 (va_cpy (τ 13) (σ 13) (ix 0) (ix 0) (ix 7))) ++ (wC cA t τ ++ F)) st_C_C2_13r dX0_copyFrom_12 (fun H locs hw => ?_)
  refine lv_aload_n hx hb dX0_copyFrom_15 rfl (lv_at hl 1 rfl) ?_
  refine q_get (C := RX0) (T := TX0) (N := 2) (ci := 0) E (fun w h => List.mem_cons_of_mem _ (inX0 w h)) hw 21 rfl rfl 1 (by decide) (List.mem_cons_of_mem _ tb_99) (v := .ref (t 14)) rfl dX0_copyFrom_16 ?_
  refine lv_iconst (v := 0) hx hb dX0_copyFrom_19 (by decide) ?_
  refine lv_aload_n hx hb dX0_copyFrom_20 rfl (lv_at hl 0 rfl) ?_
  refine q_get (C := RX0) (T := TX0) (N := 2) (ci := 0) E (fun w h => List.mem_cons_of_mem _ (inX0 w h)) hw 1 rfl rfl 1 (by decide) (List.mem_cons_of_mem _ tb_99) (v := .ref (h 14)) rfl dX0_copyFrom_21 ?_
  refine lv_iconst (v := 0) hx hb dX0_copyFrom_24 (by decide) ?_
  refine lv_bipush (v := 7) hx hb dX0_copyFrom_25 (by decide) ?_
  refine q_copy E hw hl 23 3 rfl rfl rfl (upr_ne σ 13 (va_cpy (τ 13) (σ 13) (ix 0) (ix 0) (ix 7)) 14 (by decide)) (List.mem_cons_of_mem _ tb_258) (List.mem_cons_of_mem _ tb_260) (List.mem_cons_of_mem _ tb_259) (List.mem_cons_of_mem _ tb_55) (by decide +kernel) (by decide +kernel) (by decide +kernel) (by decide +kernel) (by decide +kernel) (Nat.le_of_ble_eq_true rfl) (Nat.le_of_ble_eq_true rfl) (wC cA h (upr (upr σ 13 (va_cpy (τ 13) (σ 13) (ix 0) (ix 0) (ix 7))) 14 (va_cpy (τ 14) (σ 14) (ix 0) (ix 0) (ix 7))) ++ (wC cA t τ ++ F)) st_C_C2_14r dX0_copyFrom_27 (fun H locs hw => ?_)
  cases hM
  exact q_retv E hw dX0_copyFrom_30
set_option maxRecDepth 100000 in
set_option maxHeartbeats 4000000 in
theorem c_X1_beginWeek (l : Launch) (D : va_G) (cA : Nat → ClassId) (tS : Nat → Nat) (A : Nat → Prop) (h : Nat → Nat) (L : Nat) (F : va_W) (σ : Sg) (s0 : Sg) (hM : f_X1_beginWeek σ = some s0) : Ct l yX1_beginWeek (Cond.code yX1_beginWeek cX1_beginWeek 1 none :: bw) 2 73 D cA tS A [.ref (h 42)] (wK cA h σ ++ (wLg cA h σ L ++ (wC cA h σ ++ F))) none (wK cA h s0 ++ (wLg cA h s0 L ++ (wC cA h s0 ++ F))) := by
  refine ct_of (by decide +kernel) (Nat.le_of_ble_eq_true rfl) ?_
  intro p e s m below meth c E hw ls hl
  replace E : Ev p cX1_beginWeek 1 none RX1 (Cond.code yX1_beginWeek cX1_beginWeek 1 none :: bw) D cA tS A s m _ meth c := E
  replace hl : lv_has ls 1 [(0, .ref (h 42))] := hl
  have hx := E.1.1
  have hb := E.1.2.1
  unfold f_X1_beginWeek at hM
  refine lv_aload_n hx hb dX1_beginWeek_0 rfl (lv_at hl 0 rfl) ?_
  refine lv_iconst (v := 0) hx hb dX1_beginWeek_1 (by decide) ?_
  refine q_puti (C := RX1) (T := TX1) (N := 6) (ci := 1) E (fun w h => List.mem_cons_of_mem _ (inX1 w h)) tyX1 tyX1_ok nmX1 hw 12 rfl rfl 5 (by decide) (List.mem_cons_of_mem _ tb_276) rfl rfl (Nat.le_of_ble_eq_true rfl) (wK cA h (up σ 12 0 0) ++ (wLg cA h (up σ 12 0 0) L ++ (wC cA h (up σ 12 0 0) ++ F))) st_K_Lg_C_12 dX1_beginWeek_2 (fun H locs hw => ?_)
  refine lv_aload_n hx hb dX1_beginWeek_5 rfl (lv_at hl 0 rfl) ?_
  refine q_get (C := RX1) (T := TX1) (N := 6) (ci := 1) E (fun w h => List.mem_cons_of_mem _ (inX1 w h)) hw 12 rfl rfl 0 (by decide) (List.mem_cons_of_mem _ tb_266) (v := .ref (h 43)) rfl dX1_beginWeek_6 ?_
  obtain ⟨p1, h2, hM⟩ := b_some hM
  refine q_cvv (As := []) (rest := []) E hw hl (c_X0_begin l D cA tS A h L F (up σ 12 0 0) p1 h2) 0 (bwV bw_c tb_252 tb_253 tb_254 tb_50 tb_255) rfl (by decide +kernel) ⟨Nat.le_of_ble_eq_true rfl, Nat.le_of_ble_eq_true rfl⟩ 13 0 (T := TX0) (N := 2) rfl rfl rfl rfl (Nat.le_of_ble_eq_true rfl) ⟨Nat.zero_le _, Nat.zero_le _⟩ dX1_beginWeek_9 (fun H locs hw => ?_)
  refine lv_aload_n hx hb dX1_beginWeek_12 rfl (lv_at hl 0 rfl) ?_
  refine q_get (C := RX1) (T := TX1) (N := 6) (ci := 1) E (fun w h => List.mem_cons_of_mem _ (inX1 w h)) hw 12 rfl rfl 2 (by decide) (List.mem_cons_of_mem _ tb_270) (v := .ref (h 30)) rfl dX1_beginWeek_13 ?_
  refine lv_iconst (v := 1) hx hb dX1_beginWeek_16 (by decide) ?_
  refine q_csv (As := [.ref (h 30), .int 1]) (rest := []) E hw hl (c_fill l D cA tS A (wK cA h p1 ++ (wLg cA h p1 L ++ (wC cA h p1 ++ F))) 31 rfl (by decide) 1 (w' := (wK cA h (upr p1 30 (fillf 4 1 (p1 30))) ++ (wLg cA h (upr p1 30 (fillf 4 1 (p1 30))) L ++ (wC cA h (upr p1 30 (fillf 4 1 (p1 30))) ++ F)))) st_K_Lg_C_30r) 2 (bwS bw_c tb_263 tb_264 tb_56 tb_265) rfl (by decide +kernel) ⟨Nat.le_of_ble_eq_true rfl, Nat.le_of_ble_eq_true rfl⟩ rfl rfl (Nat.le_of_ble_eq_true rfl) ⟨Nat.zero_le _, Nat.zero_le _⟩ dX1_beginWeek_17 (fun H locs hw => ?_)
  refine lv_aload_n hx hb dX1_beginWeek_20 rfl (lv_at hl 0 rfl) ?_
  refine q_get (C := RX1) (T := TX1) (N := 6) (ci := 1) E (fun w h => List.mem_cons_of_mem _ (inX1 w h)) hw 12 rfl rfl 3 (by decide) (List.mem_cons_of_mem _ tb_272) (v := .ref (h 44)) rfl dX1_beginWeek_21 ?_
  refine lv_iconst (v := 0) hx hb dX1_beginWeek_24 (by decide) ?_
  refine q_puti (C := RX7) (T := TX7) (N := 15) (ci := 7) E (fun w h => List.mem_cons_of_mem _ (inX7 w h)) tyX7 tyX7_ok nmX7 hw 16 rfl rfl 14 (by decide) (List.mem_cons_of_mem _ tb_185) rfl rfl (Nat.le_of_ble_eq_true rfl) (wK cA h (up (upr p1 30 (fillf 4 1 (p1 30))) 15 0 0) ++ (wLg cA h (up (upr p1 30 (fillf 4 1 (p1 30))) 15 0 0) L ++ (wC cA h (up (upr p1 30 (fillf 4 1 (p1 30))) 15 0 0) ++ F))) st_K_Lg_C_15 dX1_beginWeek_25 (fun H locs hw => ?_)
  cases hM
  exact q_retv E hw dX1_beginWeek_28
set_option maxRecDepth 100000 in
set_option maxHeartbeats 4000000 in
theorem s_X3_copyFrom_10 (l : Launch) (D : va_G) (cA : Nat → ClassId) (tS : Nat → Nat) (A : Nat → Prop) (h : Nat → Nat) (t : Nat → Nat) (F : va_W) (N : Nat) {p : Program} {e : Env} {s : State} {m : MethodId} {args : Array Value} {below : List Frame} {meth : Method} {c : Code} (E : Ev p cX3_copyFrom 3 none RX3 (Cond.code yX3_copyFrom cX3_copyFrom 3 none :: bw) D cA tS A s m args meth c) : ∀ (n : Nat) (x2 : Int32) (σ : Sg) (τ : Sg) (s0 : Sg) (hM : f_X3_copyFrom_10 N n x2 σ τ = some s0) (H : Heap) (locs : List Loc) (hw : Wd D A (wK cA h σ ++ (wK cA t τ ++ F)) s.heap H locs) (ls : Array Slot) (hl : lv_has ls 3 [(0, .ref (h 40)), (1, .ref (t 40)), (2, .int x2)]), W p l e ({ frames := 0, cells := 0, slots := 0, locals := 0 } : Room) s m args below meth c H locs 0 0 (MQ below (QW D A none (wK cA h s0 ++ (wK cA t τ ++ F))) args s 0 0 A) (F0 m 10 ls []) := by
  have hx := E.1.1
  have hb := E.1.2.1
  intro n
  induction n with
  | zero =>
    intro x2 σ τ s0 hM
    cases hM
  | succ n ih =>
    intro x2 σ τ s0 hM H locs hw ls hl
    rw [f_X3_copyFrom_10] at hM
    refine lv_iload_n hx hb dX3_copyFrom_10 rfl (lv_at hl 2 rfl) ?_
    refine lv_bipush (v := 6) hx hb dX3_copyFrom_11 (by decide) ?_
    refine lv_icmp_ge (tgt := 94) hx hb dX3_copyFrom_13 (by decide) (fun c1 => ?_) (fun c1 => ?_)
    · replace hM := i_pos hM c1
      cases hM
      exact q_retv E hw dX3_copyFrom_94
    · replace hM := i_neg hM c1
      refine lv_aload_n hx hb dX3_copyFrom_16 rfl (lv_at hl 0 rfl) ?_
      refine q_get (C := RX3) (T := TX3) (N := 7) (ci := 3) E (fun w h => List.mem_cons_of_mem _ (inX3 w h)) hw 0 rfl rfl 0 (by decide) (List.mem_cons_of_mem _ tb_112) (v := .ref (h 1)) rfl dX3_copyFrom_17 ?_
      refine lv_iload_n hx hb dX3_copyFrom_20 rfl (lv_at hl 2 rfl) ?_
      refine lv_aload_n hx hb dX3_copyFrom_21 rfl (lv_at hl 1 rfl) ?_
      refine q_get (C := RX3) (T := TX3) (N := 7) (ci := 3) E (fun w h => List.mem_cons_of_mem _ (inX3 w h)) hw 7 rfl rfl 0 (by decide) (List.mem_cons_of_mem _ tb_112) (v := .ref (t 1)) rfl dX3_copyFrom_22 ?_
      refine lv_iload_n hx hb dX3_copyFrom_25 rfl (lv_at hl 2 rfl) ?_
      obtain ⟨g2, hM⟩ := g_some hM
      refine q_ald E hw 8 (n := 6) rfl g2 (x := (τ 1 (ix x2))) rfl dX3_copyFrom_26 ?_
      refine q_ast E hw 1 (n := 6) rfl g2 (wK cA h (up σ 1 (ix x2) (τ 1 (ix x2))) ++ (wK cA t τ ++ F)) st_K_K2_1 dX3_copyFrom_27 (fun H locs hw => ?_)
      refine lv_aload_n hx hb dX3_copyFrom_28 rfl (lv_at hl 0 rfl) ?_
      refine q_get (C := RX3) (T := TX3) (N := 7) (ci := 3) E (fun w h => List.mem_cons_of_mem _ (inX3 w h)) hw 0 rfl rfl 1 (by decide) (List.mem_cons_of_mem _ tb_114) (v := .ref (h 2)) rfl dX3_copyFrom_29 ?_
      refine lv_iload_n hx hb dX3_copyFrom_32 rfl (lv_at hl 2 rfl) ?_
      refine lv_aload_n hx hb dX3_copyFrom_33 rfl (lv_at hl 1 rfl) ?_
      refine q_get (C := RX3) (T := TX3) (N := 7) (ci := 3) E (fun w h => List.mem_cons_of_mem _ (inX3 w h)) hw 7 rfl rfl 1 (by decide) (List.mem_cons_of_mem _ tb_114) (v := .ref (t 2)) rfl dX3_copyFrom_34 ?_
      refine lv_iload_n hx hb dX3_copyFrom_37 rfl (lv_at hl 2 rfl) ?_
      refine q_ald E hw 9 (n := 6) rfl g2 (x := (τ 2 (ix x2))) rfl dX3_copyFrom_38 ?_
      refine q_ast E hw 2 (n := 6) rfl g2 (wK cA h (up (up σ 1 (ix x2) (τ 1 (ix x2))) 2 (ix x2) (τ 2 (ix x2))) ++ (wK cA t τ ++ F)) st_K_K2_2 dX3_copyFrom_39 (fun H locs hw => ?_)
      refine lv_aload_n hx hb dX3_copyFrom_40 rfl (lv_at hl 0 rfl) ?_
      refine q_get (C := RX3) (T := TX3) (N := 7) (ci := 3) E (fun w h => List.mem_cons_of_mem _ (inX3 w h)) hw 0 rfl rfl 2 (by decide) (List.mem_cons_of_mem _ tb_116) (v := .ref (h 3)) rfl dX3_copyFrom_41 ?_
      refine lv_iload_n hx hb dX3_copyFrom_44 rfl (lv_at hl 2 rfl) ?_
      refine lv_aload_n hx hb dX3_copyFrom_45 rfl (lv_at hl 1 rfl) ?_
      refine q_get (C := RX3) (T := TX3) (N := 7) (ci := 3) E (fun w h => List.mem_cons_of_mem _ (inX3 w h)) hw 7 rfl rfl 2 (by decide) (List.mem_cons_of_mem _ tb_116) (v := .ref (t 3)) rfl dX3_copyFrom_46 ?_
      refine lv_iload_n hx hb dX3_copyFrom_49 rfl (lv_at hl 2 rfl) ?_
      refine q_ald E hw 10 (n := 6) rfl g2 (x := (τ 3 (ix x2))) rfl dX3_copyFrom_50 ?_
      refine q_ast E hw 3 (n := 6) rfl g2 (wK cA h (up (up (up σ 1 (ix x2) (τ 1 (ix x2))) 2 (ix x2) (τ 2 (ix x2))) 3 (ix x2) (τ 3 (ix x2))) ++ (wK cA t τ ++ F)) st_K_K2_3 dX3_copyFrom_51 (fun H locs hw => ?_)
      refine lv_aload_n hx hb dX3_copyFrom_52 rfl (lv_at hl 0 rfl) ?_
      refine q_get (C := RX3) (T := TX3) (N := 7) (ci := 3) E (fun w h => List.mem_cons_of_mem _ (inX3 w h)) hw 0 rfl rfl 3 (by decide) (List.mem_cons_of_mem _ tb_118) (v := .ref (h 4)) rfl dX3_copyFrom_53 ?_
      refine lv_iload_n hx hb dX3_copyFrom_56 rfl (lv_at hl 2 rfl) ?_
      refine lv_aload_n hx hb dX3_copyFrom_57 rfl (lv_at hl 1 rfl) ?_
      refine q_get (C := RX3) (T := TX3) (N := 7) (ci := 3) E (fun w h => List.mem_cons_of_mem _ (inX3 w h)) hw 7 rfl rfl 3 (by decide) (List.mem_cons_of_mem _ tb_118) (v := .ref (t 4)) rfl dX3_copyFrom_58 ?_
      refine lv_iload_n hx hb dX3_copyFrom_61 rfl (lv_at hl 2 rfl) ?_
      refine q_ald E hw 11 (n := 6) rfl g2 (x := (τ 4 (ix x2))) rfl dX3_copyFrom_62 ?_
      refine q_ast E hw 4 (n := 6) rfl g2 (wK cA h (up (up (up (up σ 1 (ix x2) (τ 1 (ix x2))) 2 (ix x2) (τ 2 (ix x2))) 3 (ix x2) (τ 3 (ix x2))) 4 (ix x2) (τ 4 (ix x2))) ++ (wK cA t τ ++ F)) st_K_K2_4 dX3_copyFrom_63 (fun H locs hw => ?_)
      refine lv_aload_n hx hb dX3_copyFrom_64 rfl (lv_at hl 0 rfl) ?_
      refine q_get (C := RX3) (T := TX3) (N := 7) (ci := 3) E (fun w h => List.mem_cons_of_mem _ (inX3 w h)) hw 0 rfl rfl 4 (by decide) (List.mem_cons_of_mem _ tb_120) (v := .ref (h 5)) rfl dX3_copyFrom_65 ?_
      refine lv_iload_n hx hb dX3_copyFrom_68 rfl (lv_at hl 2 rfl) ?_
      refine lv_aload_n hx hb dX3_copyFrom_69 rfl (lv_at hl 1 rfl) ?_
      refine q_get (C := RX3) (T := TX3) (N := 7) (ci := 3) E (fun w h => List.mem_cons_of_mem _ (inX3 w h)) hw 7 rfl rfl 4 (by decide) (List.mem_cons_of_mem _ tb_120) (v := .ref (t 5)) rfl dX3_copyFrom_70 ?_
      refine lv_iload_n hx hb dX3_copyFrom_73 rfl (lv_at hl 2 rfl) ?_
      refine q_ald E hw 12 (n := 6) rfl g2 (x := (τ 5 (ix x2))) rfl dX3_copyFrom_74 ?_
      refine q_ast E hw 5 (n := 6) rfl g2 (wK cA h (up (up (up (up (up σ 1 (ix x2) (τ 1 (ix x2))) 2 (ix x2) (τ 2 (ix x2))) 3 (ix x2) (τ 3 (ix x2))) 4 (ix x2) (τ 4 (ix x2))) 5 (ix x2) (τ 5 (ix x2))) ++ (wK cA t τ ++ F)) st_K_K2_5 dX3_copyFrom_75 (fun H locs hw => ?_)
      refine lv_aload_n hx hb dX3_copyFrom_76 rfl (lv_at hl 0 rfl) ?_
      refine q_get (C := RX3) (T := TX3) (N := 7) (ci := 3) E (fun w h => List.mem_cons_of_mem _ (inX3 w h)) hw 0 rfl rfl 5 (by decide) (List.mem_cons_of_mem _ tb_122) (v := .ref (h 6)) rfl dX3_copyFrom_77 ?_
      refine lv_iload_n hx hb dX3_copyFrom_80 rfl (lv_at hl 2 rfl) ?_
      refine lv_aload_n hx hb dX3_copyFrom_81 rfl (lv_at hl 1 rfl) ?_
      refine q_get (C := RX3) (T := TX3) (N := 7) (ci := 3) E (fun w h => List.mem_cons_of_mem _ (inX3 w h)) hw 7 rfl rfl 5 (by decide) (List.mem_cons_of_mem _ tb_122) (v := .ref (t 6)) rfl dX3_copyFrom_82 ?_
      refine lv_iload_n hx hb dX3_copyFrom_85 rfl (lv_at hl 2 rfl) ?_
      refine q_zld E hw 13 (n := 6) rfl g2 (x := (τ 6 (ix x2))) rfl dX3_copyFrom_86 ?_
      refine q_zst E hw 6 (n := 6) rfl g2 (wK cA h (up (up (up (up (up (up σ 1 (ix x2) (τ 1 (ix x2))) 2 (ix x2) (τ 2 (ix x2))) 3 (ix x2) (τ 3 (ix x2))) 4 (ix x2) (τ 4 (ix x2))) 5 (ix x2) (τ 5 (ix x2))) 6 (ix x2) (vp_nar .boolean (τ 6 (ix x2)))) ++ (wK cA t τ ++ F)) st_K_K2_6 dX3_copyFrom_87 (fun H locs hw => ?_)
      refine lv_iinc (v := (x2 + 1)) (lv' := [(2, .int (x2 + 1)), (0, .ref (h 40)), (1, .ref (t 40))]) hx hb dX3_copyFrom_88 hl (k := 2) rfl rfl (by decide) rfl (fun ls hl => ?_)
      refine lv_goto (tgt := 10) hx hb dX3_copyFrom_91 (by decide) ?_
      exact ih _ _ _ _ hM _ _ hw _ (lv_sub hl [1, 2, 0] rfl)
set_option maxRecDepth 100000 in
set_option maxHeartbeats 4000000 in
theorem c_X3_copyFrom (l : Launch) (D : va_G) (cA : Nat → ClassId) (tS : Nat → Nat) (A : Nat → Prop) (h : Nat → Nat) (t : Nat → Nat) (F : va_W) (N : Nat) (σ : Sg) (τ : Sg) (s0 : Sg) (hM : f_X3_copyFrom N σ τ = some s0) : Ct l yX3_copyFrom (Cond.code yX3_copyFrom cX3_copyFrom 3 none :: bw) 0 0 D cA tS A [.ref (h 40), .ref (t 40)] (wK cA h σ ++ (wK cA t τ ++ F)) none (wK cA h s0 ++ (wK cA t τ ++ F)) := by
  refine ct_of (by decide +kernel) (Nat.le_of_ble_eq_true rfl) ?_
  intro p e s m below meth c E hw ls hl
  replace E : Ev p cX3_copyFrom 3 none RX3 (Cond.code yX3_copyFrom cX3_copyFrom 3 none :: bw) D cA tS A s m _ meth c := E
  replace hl : lv_has ls 3 [(0, .ref (h 40)), (1, .ref (t 40))] := hl
  have hx := E.1.1
  have hb := E.1.2.1
  unfold f_X3_copyFrom at hM
  refine lv_aload_n hx hb dX3_copyFrom_0 rfl (lv_at hl 0 rfl) ?_
  refine lv_aload_n hx hb dX3_copyFrom_1 rfl (lv_at hl 1 rfl) ?_
  refine q_get (C := RX3) (T := TX3) (N := 7) (ci := 3) E (fun w h => List.mem_cons_of_mem _ (inX3 w h)) hw 7 rfl rfl 6 (by decide) (List.mem_cons_of_mem _ tb_124) (v := .int (τ 0 0)) rfl dX3_copyFrom_2 ?_
  refine q_puti (C := RX3) (T := TX3) (N := 7) (ci := 3) E (fun w h => List.mem_cons_of_mem _ (inX3 w h)) tyX3 tyX3_ok nmX3 hw 0 rfl rfl 6 (by decide) (List.mem_cons_of_mem _ tb_124) rfl rfl (Nat.le_of_ble_eq_true rfl) (wK cA h (up σ 0 0 (τ 0 0)) ++ (wK cA t τ ++ F)) st_K_K2_0 dX3_copyFrom_5 (fun H locs hw => ?_)
  refine lv_iconst (v := 0) hx hb dX3_copyFrom_8 (by decide) ?_
  refine lv_istore_n (lv' := [(2, .int 0), (0, .ref (h 40)), (1, .ref (t 40))]) hx hb dX3_copyFrom_9 rfl hl (by decide) rfl (fun ls hl => ?_)
  exact s_X3_copyFrom_10 l D cA tS A h t F N E N _ _ _ _ hM _ _ hw _ (lv_sub hl [1, 2, 0] rfl)
set_option maxRecDepth 100000 in
set_option maxHeartbeats 4000000 in
theorem c_X7_copyFrom (l : Launch) (D : va_G) (cA : Nat → ClassId) (tS : Nat → Nat) (A : Nat → Prop) (h : Nat → Nat) (t : Nat → Nat) (F : va_W) (σ : Sg) (τ : Sg) (s0 : Sg) (hM : f_X7_copyFrom σ τ = some s0) : Ct l yX7_copyFrom (Cond.code yX7_copyFrom cX7_copyFrom 2 none :: bw) 1 53 D cA tS A [.ref (h 44), .ref (t 44)] (wC cA h σ ++ (wC cA t τ ++ F)) none (wC cA h s0 ++ (wC cA t τ ++ F)) := by
  refine ct_of (by decide +kernel) (Nat.le_of_ble_eq_true rfl) ?_
  intro p e s m below meth c E hw ls hl
  replace E : Ev p cX7_copyFrom 2 none RX7 (Cond.code yX7_copyFrom cX7_copyFrom 2 none :: bw) D cA tS A s m _ meth c := E
  replace hl : lv_has ls 2 [(0, .ref (h 44)), (1, .ref (t 44))] := hl
  have hx := E.1.1
  have hb := E.1.2.1
  unfold f_X7_copyFrom at hM
  refine lv_aload_n hx hb dX7_copyFrom_0 rfl (lv_at hl 0 rfl) ?_
  refine lv_aload_n hx hb dX7_copyFrom_1 rfl (lv_at hl 1 rfl) ?_
  refine q_get (C := RX7) (T := TX7) (N := 15) (ci := 7) E (fun w h => List.mem_cons_of_mem _ (inX7 w h)) hw 24 rfl rfl 14 (by decide) (List.mem_cons_of_mem _ tb_184) (v := .int (τ 15 0)) rfl dX7_copyFrom_2 ?_
  refine q_puti (C := RX7) (T := TX7) (N := 15) (ci := 7) E (fun w h => List.mem_cons_of_mem _ (inX7 w h)) tyX7 tyX7_ok nmX7 hw 4 rfl rfl 14 (by decide) (List.mem_cons_of_mem _ tb_184) rfl rfl (Nat.le_of_ble_eq_true rfl) (wC cA h (up σ 15 0 (τ 15 0)) ++ (wC cA t τ ++ F)) st_C_C2_15 dX7_copyFrom_5 (fun H locs hw => ?_)
  refine lv_aload_n hx hb dX7_copyFrom_8 rfl (lv_at hl 1 rfl) ?_
  refine q_get (C := RX7) (T := TX7) (N := 15) (ci := 7) E (fun w h => List.mem_cons_of_mem _ (inX7 w h)) hw 24 rfl rfl 0 (by decide) (List.mem_cons_of_mem _ tb_149) (v := .ref (t 16)) rfl dX7_copyFrom_9 ?_
  refine lv_iconst (v := 0) hx hb dX7_copyFrom_12 (by decide) ?_
  refine lv_aload_n hx hb dX7_copyFrom_13 rfl (lv_at hl 0 rfl) ?_
  refine q_get (C := RX7) (T := TX7) (N := 15) (ci := 7) E (fun w h => List.mem_cons_of_mem _ (inX7 w h)) hw 4 rfl rfl 0 (by decide) (List.mem_cons_of_mem _ tb_149) (v := .ref (h 16)) rfl dX7_copyFrom_14 ?_
  refine lv_iconst (v := 0) hx hb dX7_copyFrom_17 (by decide) ?_
  refine lv_bipush (v := 60) hx hb dX7_copyFrom_18 (by decide) ?_
  refine q_copy E hw hl 25 5 rfl rfl rfl (up_ne σ 15 0 (τ 15 0) 16 (by decide)) (List.mem_cons_of_mem _ tb_764) (List.mem_cons_of_mem _ tb_260) (List.mem_cons_of_mem _ tb_259) (List.mem_cons_of_mem _ tb_55) (by decide +kernel) (by decide +kernel) (by decide +kernel) (by decide +kernel) (by decide +kernel) (Nat.le_of_ble_eq_true rfl) (Nat.le_of_ble_eq_true rfl) (wC cA h (upr (up σ 15 0 (τ 15 0)) 16 (va_cpy (τ 16) (σ 16) (ix 0) (ix 0) (ix 60))) ++ (wC cA t τ ++ F)) st_C_C2_16r dX7_copyFrom_20 (fun H locs hw => ?_)
  refine lv_aload_n hx hb dX7_copyFrom_23 rfl (lv_at hl 1 rfl) ?_
  refine q_get (C := RX7) (T := TX7) (N := 15) (ci := 7) E (fun w h => List.mem_cons_of_mem _ (inX7 w h)) hw 24 rfl rfl 1 (by decide) (List.mem_cons_of_mem _ tb_152) (v := .ref (t 17)) rfl dX7_copyFrom_24 ?_
  refine lv_iconst (v := 0) hx hb dX7_copyFrom_27 (by decide) ?_
  refine lv_aload_n hx hb dX7_copyFrom_28 rfl (lv_at hl 0 rfl) ?_
  refine q_get (C := RX7) (T := TX7) (N := 15) (ci := 7) E (fun w h => List.mem_cons_of_mem _ (inX7 w h)) hw 4 rfl rfl 1 (by decide) (List.mem_cons_of_mem _ tb_152) (v := .ref (h 17)) rfl dX7_copyFrom_29 ?_
  refine lv_iconst (v := 0) hx hb dX7_copyFrom_32 (by decide) ?_
  refine lv_bipush (v := 60) hx hb dX7_copyFrom_33 (by decide) ?_
  refine q_copy E hw hl 26 6 rfl rfl rfl ((upr_ne (up σ 15 0 (τ 15 0)) 16 (va_cpy (τ 16) (σ 16) (ix 0) (ix 0) (ix 60)) 17 (by decide)).trans (up_ne σ 15 0 (τ 15 0) 17 (by decide))) (List.mem_cons_of_mem _ tb_764) (List.mem_cons_of_mem _ tb_260) (List.mem_cons_of_mem _ tb_259) (List.mem_cons_of_mem _ tb_55) (by decide +kernel) (by decide +kernel) (by decide +kernel) (by decide +kernel) (by decide +kernel) (Nat.le_of_ble_eq_true rfl) (Nat.le_of_ble_eq_true rfl) (wC cA h (upr (upr (up σ 15 0 (τ 15 0)) 16 (va_cpy (τ 16) (σ 16) (ix 0) (ix 0) (ix 60))) 17 (va_cpy (τ 17) (σ 17) (ix 0) (ix 0) (ix 60))) ++ (wC cA t τ ++ F)) st_C_C2_17r dX7_copyFrom_35 (fun H locs hw => ?_)
  refine lv_aload_n hx hb dX7_copyFrom_38 rfl (lv_at hl 1 rfl) ?_
  refine q_get (C := RX7) (T := TX7) (N := 15) (ci := 7) E (fun w h => List.mem_cons_of_mem _ (inX7 w h)) hw 24 rfl rfl 2 (by decide) (List.mem_cons_of_mem _ tb_153) (v := .ref (t 18)) rfl dX7_copyFrom_39 ?_
  refine lv_iconst (v := 0) hx hb dX7_copyFrom_42 (by decide) ?_
  refine lv_aload_n hx hb dX7_copyFrom_43 rfl (lv_at hl 0 rfl) ?_
  refine q_get (C := RX7) (T := TX7) (N := 15) (ci := 7) E (fun w h => List.mem_cons_of_mem _ (inX7 w h)) hw 4 rfl rfl 2 (by decide) (List.mem_cons_of_mem _ tb_153) (v := .ref (h 18)) rfl dX7_copyFrom_44 ?_
  refine lv_iconst (v := 0) hx hb dX7_copyFrom_47 (by decide) ?_
  refine lv_bipush (v := 60) hx hb dX7_copyFrom_48 (by decide) ?_
  refine q_copy E hw hl 27 7 rfl rfl rfl (((upr_ne (upr (up σ 15 0 (τ 15 0)) 16 (va_cpy (τ 16) (σ 16) (ix 0) (ix 0) (ix 60))) 17 (va_cpy (τ 17) (σ 17) (ix 0) (ix 0) (ix 60)) 18 (by decide)).trans (upr_ne (up σ 15 0 (τ 15 0)) 16 (va_cpy (τ 16) (σ 16) (ix 0) (ix 0) (ix 60)) 18 (by decide))).trans (up_ne σ 15 0 (τ 15 0) 18 (by decide))) (List.mem_cons_of_mem _ tb_764) (List.mem_cons_of_mem _ tb_260) (List.mem_cons_of_mem _ tb_259) (List.mem_cons_of_mem _ tb_55) (by decide +kernel) (by decide +kernel) (by decide +kernel) (by decide +kernel) (by decide +kernel) (Nat.le_of_ble_eq_true rfl) (Nat.le_of_ble_eq_true rfl) (wC cA h (upr (upr (upr (up σ 15 0 (τ 15 0)) 16 (va_cpy (τ 16) (σ 16) (ix 0) (ix 0) (ix 60))) 17 (va_cpy (τ 17) (σ 17) (ix 0) (ix 0) (ix 60))) 18 (va_cpy (τ 18) (σ 18) (ix 0) (ix 0) (ix 60))) ++ (wC cA t τ ++ F)) st_C_C2_18r dX7_copyFrom_50 (fun H locs hw => ?_)
  refine lv_aload_n hx hb dX7_copyFrom_53 rfl (lv_at hl 1 rfl) ?_
  refine q_get (C := RX7) (T := TX7) (N := 15) (ci := 7) E (fun w h => List.mem_cons_of_mem _ (inX7 w h)) hw 24 rfl rfl 3 (by decide) (List.mem_cons_of_mem _ tb_154) (v := .ref (t 19)) rfl dX7_copyFrom_54 ?_
  refine lv_iconst (v := 0) hx hb dX7_copyFrom_57 (by decide) ?_
  refine lv_aload_n hx hb dX7_copyFrom_58 rfl (lv_at hl 0 rfl) ?_
  refine q_get (C := RX7) (T := TX7) (N := 15) (ci := 7) E (fun w h => List.mem_cons_of_mem _ (inX7 w h)) hw 4 rfl rfl 3 (by decide) (List.mem_cons_of_mem _ tb_154) (v := .ref (h 19)) rfl dX7_copyFrom_59 ?_
  refine lv_iconst (v := 0) hx hb dX7_copyFrom_62 (by decide) ?_
  refine lv_bipush (v := 60) hx hb dX7_copyFrom_63 (by decide) ?_
  refine q_copy E hw hl 28 8 rfl rfl rfl ((((upr_ne (upr (upr (up σ 15 0 (τ 15 0)) 16 (va_cpy (τ 16) (σ 16) (ix 0) (ix 0) (ix 60))) 17 (va_cpy (τ 17) (σ 17) (ix 0) (ix 0) (ix 60))) 18 (va_cpy (τ 18) (σ 18) (ix 0) (ix 0) (ix 60)) 19 (by decide)).trans (upr_ne (upr (up σ 15 0 (τ 15 0)) 16 (va_cpy (τ 16) (σ 16) (ix 0) (ix 0) (ix 60))) 17 (va_cpy (τ 17) (σ 17) (ix 0) (ix 0) (ix 60)) 19 (by decide))).trans (upr_ne (up σ 15 0 (τ 15 0)) 16 (va_cpy (τ 16) (σ 16) (ix 0) (ix 0) (ix 60)) 19 (by decide))).trans (up_ne σ 15 0 (τ 15 0) 19 (by decide))) (List.mem_cons_of_mem _ tb_764) (List.mem_cons_of_mem _ tb_260) (List.mem_cons_of_mem _ tb_259) (List.mem_cons_of_mem _ tb_55) (by decide +kernel) (by decide +kernel) (by decide +kernel) (by decide +kernel) (by decide +kernel) (Nat.le_of_ble_eq_true rfl) (Nat.le_of_ble_eq_true rfl) (wC cA h (upr (upr (upr (upr (up σ 15 0 (τ 15 0)) 16 (va_cpy (τ 16) (σ 16) (ix 0) (ix 0) (ix 60))) 17 (va_cpy (τ 17) (σ 17) (ix 0) (ix 0) (ix 60))) 18 (va_cpy (τ 18) (σ 18) (ix 0) (ix 0) (ix 60))) 19 (va_cpy (τ 19) (σ 19) (ix 0) (ix 0) (ix 60))) ++ (wC cA t τ ++ F)) st_C_C2_19r dX7_copyFrom_65 (fun H locs hw => ?_)
  refine lv_aload_n hx hb dX7_copyFrom_68 rfl (lv_at hl 1 rfl) ?_
  refine q_get (C := RX7) (T := TX7) (N := 15) (ci := 7) E (fun w h => List.mem_cons_of_mem _ (inX7 w h)) hw 24 rfl rfl 4 (by decide) (List.mem_cons_of_mem _ tb_156) (v := .ref (t 20)) rfl dX7_copyFrom_69 ?_
  refine lv_iconst (v := 0) hx hb dX7_copyFrom_72 (by decide) ?_
  refine lv_aload_n hx hb dX7_copyFrom_73 rfl (lv_at hl 0 rfl) ?_
  refine q_get (C := RX7) (T := TX7) (N := 15) (ci := 7) E (fun w h => List.mem_cons_of_mem _ (inX7 w h)) hw 4 rfl rfl 4 (by decide) (List.mem_cons_of_mem _ tb_156) (v := .ref (h 20)) rfl dX7_copyFrom_74 ?_
  refine lv_iconst (v := 0) hx hb dX7_copyFrom_77 (by decide) ?_
  refine lv_bipush (v := 60) hx hb dX7_copyFrom_78 (by decide) ?_
  refine q_copy E hw hl 29 9 rfl rfl rfl (((((upr_ne (upr (upr (upr (up σ 15 0 (τ 15 0)) 16 (va_cpy (τ 16) (σ 16) (ix 0) (ix 0) (ix 60))) 17 (va_cpy (τ 17) (σ 17) (ix 0) (ix 0) (ix 60))) 18 (va_cpy (τ 18) (σ 18) (ix 0) (ix 0) (ix 60))) 19 (va_cpy (τ 19) (σ 19) (ix 0) (ix 0) (ix 60)) 20 (by decide)).trans (upr_ne (upr (upr (up σ 15 0 (τ 15 0)) 16 (va_cpy (τ 16) (σ 16) (ix 0) (ix 0) (ix 60))) 17 (va_cpy (τ 17) (σ 17) (ix 0) (ix 0) (ix 60))) 18 (va_cpy (τ 18) (σ 18) (ix 0) (ix 0) (ix 60)) 20 (by decide))).trans (upr_ne (upr (up σ 15 0 (τ 15 0)) 16 (va_cpy (τ 16) (σ 16) (ix 0) (ix 0) (ix 60))) 17 (va_cpy (τ 17) (σ 17) (ix 0) (ix 0) (ix 60)) 20 (by decide))).trans (upr_ne (up σ 15 0 (τ 15 0)) 16 (va_cpy (τ 16) (σ 16) (ix 0) (ix 0) (ix 60)) 20 (by decide))).trans (up_ne σ 15 0 (τ 15 0) 20 (by decide))) (List.mem_cons_of_mem _ tb_764) (List.mem_cons_of_mem _ tb_260) (List.mem_cons_of_mem _ tb_259) (List.mem_cons_of_mem _ tb_55) (by decide +kernel) (by decide +kernel) (by decide +kernel) (by decide +kernel) (by decide +kernel) (Nat.le_of_ble_eq_true rfl) (Nat.le_of_ble_eq_true rfl) (wC cA h (upr (upr (upr (upr (upr (up σ 15 0 (τ 15 0)) 16 (va_cpy (τ 16) (σ 16) (ix 0) (ix 0) (ix 60))) 17 (va_cpy (τ 17) (σ 17) (ix 0) (ix 0) (ix 60))) 18 (va_cpy (τ 18) (σ 18) (ix 0) (ix 0) (ix 60))) 19 (va_cpy (τ 19) (σ 19) (ix 0) (ix 0) (ix 60))) 20 (va_cpy (τ 20) (σ 20) (ix 0) (ix 0) (ix 60))) ++ (wC cA t τ ++ F)) st_C_C2_20r dX7_copyFrom_80 (fun H locs hw => ?_)
  refine lv_aload_n hx hb dX7_copyFrom_83 rfl (lv_at hl 1 rfl) ?_
  refine q_get (C := RX7) (T := TX7) (N := 15) (ci := 7) E (fun w h => List.mem_cons_of_mem _ (inX7 w h)) hw 24 rfl rfl 5 (by decide) (List.mem_cons_of_mem _ tb_159) (v := .ref (t 21)) rfl dX7_copyFrom_84 ?_
  refine lv_iconst (v := 0) hx hb dX7_copyFrom_87 (by decide) ?_
  refine lv_aload_n hx hb dX7_copyFrom_88 rfl (lv_at hl 0 rfl) ?_
  refine q_get (C := RX7) (T := TX7) (N := 15) (ci := 7) E (fun w h => List.mem_cons_of_mem _ (inX7 w h)) hw 4 rfl rfl 5 (by decide) (List.mem_cons_of_mem _ tb_159) (v := .ref (h 21)) rfl dX7_copyFrom_89 ?_
  refine lv_iconst (v := 0) hx hb dX7_copyFrom_92 (by decide) ?_
  refine lv_bipush (v := 60) hx hb dX7_copyFrom_93 (by decide) ?_
  refine q_copy E hw hl 30 10 rfl rfl rfl ((((((upr_ne (upr (upr (upr (upr (up σ 15 0 (τ 15 0)) 16 (va_cpy (τ 16) (σ 16) (ix 0) (ix 0) (ix 60))) 17 (va_cpy (τ 17) (σ 17) (ix 0) (ix 0) (ix 60))) 18 (va_cpy (τ 18) (σ 18) (ix 0) (ix 0) (ix 60))) 19 (va_cpy (τ 19) (σ 19) (ix 0) (ix 0) (ix 60))) 20 (va_cpy (τ 20) (σ 20) (ix 0) (ix 0) (ix 60)) 21 (by decide)).trans (upr_ne (upr (upr (upr (up σ 15 0 (τ 15 0)) 16 (va_cpy (τ 16) (σ 16) (ix 0) (ix 0) (ix 60))) 17 (va_cpy (τ 17) (σ 17) (ix 0) (ix 0) (ix 60))) 18 (va_cpy (τ 18) (σ 18) (ix 0) (ix 0) (ix 60))) 19 (va_cpy (τ 19) (σ 19) (ix 0) (ix 0) (ix 60)) 21 (by decide))).trans (upr_ne (upr (upr (up σ 15 0 (τ 15 0)) 16 (va_cpy (τ 16) (σ 16) (ix 0) (ix 0) (ix 60))) 17 (va_cpy (τ 17) (σ 17) (ix 0) (ix 0) (ix 60))) 18 (va_cpy (τ 18) (σ 18) (ix 0) (ix 0) (ix 60)) 21 (by decide))).trans (upr_ne (upr (up σ 15 0 (τ 15 0)) 16 (va_cpy (τ 16) (σ 16) (ix 0) (ix 0) (ix 60))) 17 (va_cpy (τ 17) (σ 17) (ix 0) (ix 0) (ix 60)) 21 (by decide))).trans (upr_ne (up σ 15 0 (τ 15 0)) 16 (va_cpy (τ 16) (σ 16) (ix 0) (ix 0) (ix 60)) 21 (by decide))).trans (up_ne σ 15 0 (τ 15 0) 21 (by decide))) (List.mem_cons_of_mem _ tb_764) (List.mem_cons_of_mem _ tb_260) (List.mem_cons_of_mem _ tb_259) (List.mem_cons_of_mem _ tb_55) (by decide +kernel) (by decide +kernel) (by decide +kernel) (by decide +kernel) (by decide +kernel) (Nat.le_of_ble_eq_true rfl) (Nat.le_of_ble_eq_true rfl) (wC cA h (upr (upr (upr (upr (upr (upr (up σ 15 0 (τ 15 0)) 16 (va_cpy (τ 16) (σ 16) (ix 0) (ix 0) (ix 60))) 17 (va_cpy (τ 17) (σ 17) (ix 0) (ix 0) (ix 60))) 18 (va_cpy (τ 18) (σ 18) (ix 0) (ix 0) (ix 60))) 19 (va_cpy (τ 19) (σ 19) (ix 0) (ix 0) (ix 60))) 20 (va_cpy (τ 20) (σ 20) (ix 0) (ix 0) (ix 60))) 21 (va_cpy (τ 21) (σ 21) (ix 0) (ix 0) (ix 60))) ++ (wC cA t τ ++ F)) st_C_C2_21r dX7_copyFrom_95 (fun H locs hw => ?_)
  refine lv_aload_n hx hb dX7_copyFrom_98 rfl (lv_at hl 1 rfl) ?_
  refine q_get (C := RX7) (T := TX7) (N := 15) (ci := 7) E (fun w h => List.mem_cons_of_mem _ (inX7 w h)) hw 24 rfl rfl 6 (by decide) (List.mem_cons_of_mem _ tb_162) (v := .ref (t 22)) rfl dX7_copyFrom_99 ?_
  refine lv_iconst (v := 0) hx hb dX7_copyFrom_102 (by decide) ?_
  refine lv_aload_n hx hb dX7_copyFrom_103 rfl (lv_at hl 0 rfl) ?_
  refine q_get (C := RX7) (T := TX7) (N := 15) (ci := 7) E (fun w h => List.mem_cons_of_mem _ (inX7 w h)) hw 4 rfl rfl 6 (by decide) (List.mem_cons_of_mem _ tb_162) (v := .ref (h 22)) rfl dX7_copyFrom_104 ?_
  refine lv_iconst (v := 0) hx hb dX7_copyFrom_107 (by decide) ?_
  refine lv_bipush (v := 60) hx hb dX7_copyFrom_108 (by decide) ?_
  refine q_copy E hw hl 31 11 rfl rfl rfl (((((((upr_ne (upr (upr (upr (upr (upr (up σ 15 0 (τ 15 0)) 16 (va_cpy (τ 16) (σ 16) (ix 0) (ix 0) (ix 60))) 17 (va_cpy (τ 17) (σ 17) (ix 0) (ix 0) (ix 60))) 18 (va_cpy (τ 18) (σ 18) (ix 0) (ix 0) (ix 60))) 19 (va_cpy (τ 19) (σ 19) (ix 0) (ix 0) (ix 60))) 20 (va_cpy (τ 20) (σ 20) (ix 0) (ix 0) (ix 60))) 21 (va_cpy (τ 21) (σ 21) (ix 0) (ix 0) (ix 60)) 22 (by decide)).trans (upr_ne (upr (upr (upr (upr (up σ 15 0 (τ 15 0)) 16 (va_cpy (τ 16) (σ 16) (ix 0) (ix 0) (ix 60))) 17 (va_cpy (τ 17) (σ 17) (ix 0) (ix 0) (ix 60))) 18 (va_cpy (τ 18) (σ 18) (ix 0) (ix 0) (ix 60))) 19 (va_cpy (τ 19) (σ 19) (ix 0) (ix 0) (ix 60))) 20 (va_cpy (τ 20) (σ 20) (ix 0) (ix 0) (ix 60)) 22 (by decide))).trans (upr_ne (upr (upr (upr (up σ 15 0 (τ 15 0)) 16 (va_cpy (τ 16) (σ 16) (ix 0) (ix 0) (ix 60))) 17 (va_cpy (τ 17) (σ 17) (ix 0) (ix 0) (ix 60))) 18 (va_cpy (τ 18) (σ 18) (ix 0) (ix 0) (ix 60))) 19 (va_cpy (τ 19) (σ 19) (ix 0) (ix 0) (ix 60)) 22 (by decide))).trans (upr_ne (upr (upr (up σ 15 0 (τ 15 0)) 16 (va_cpy (τ 16) (σ 16) (ix 0) (ix 0) (ix 60))) 17 (va_cpy (τ 17) (σ 17) (ix 0) (ix 0) (ix 60))) 18 (va_cpy (τ 18) (σ 18) (ix 0) (ix 0) (ix 60)) 22 (by decide))).trans (upr_ne (upr (up σ 15 0 (τ 15 0)) 16 (va_cpy (τ 16) (σ 16) (ix 0) (ix 0) (ix 60))) 17 (va_cpy (τ 17) (σ 17) (ix 0) (ix 0) (ix 60)) 22 (by decide))).trans (upr_ne (up σ 15 0 (τ 15 0)) 16 (va_cpy (τ 16) (σ 16) (ix 0) (ix 0) (ix 60)) 22 (by decide))).trans (up_ne σ 15 0 (τ 15 0) 22 (by decide))) (List.mem_cons_of_mem _ tb_764) (List.mem_cons_of_mem _ tb_260) (List.mem_cons_of_mem _ tb_259) (List.mem_cons_of_mem _ tb_55) (by decide +kernel) (by decide +kernel) (by decide +kernel) (by decide +kernel) (by decide +kernel) (Nat.le_of_ble_eq_true rfl) (Nat.le_of_ble_eq_true rfl) (wC cA h (upr (upr (upr (upr (upr (upr (upr (up σ 15 0 (τ 15 0)) 16 (va_cpy (τ 16) (σ 16) (ix 0) (ix 0) (ix 60))) 17 (va_cpy (τ 17) (σ 17) (ix 0) (ix 0) (ix 60))) 18 (va_cpy (τ 18) (σ 18) (ix 0) (ix 0) (ix 60))) 19 (va_cpy (τ 19) (σ 19) (ix 0) (ix 0) (ix 60))) 20 (va_cpy (τ 20) (σ 20) (ix 0) (ix 0) (ix 60))) 21 (va_cpy (τ 21) (σ 21) (ix 0) (ix 0) (ix 60))) 22 (va_cpy (τ 22) (σ 22) (ix 0) (ix 0) (ix 60))) ++ (wC cA t τ ++ F)) st_C_C2_22r dX7_copyFrom_110 (fun H locs hw => ?_)
  refine lv_aload_n hx hb dX7_copyFrom_113 rfl (lv_at hl 1 rfl) ?_
  refine q_get (C := RX7) (T := TX7) (N := 15) (ci := 7) E (fun w h => List.mem_cons_of_mem _ (inX7 w h)) hw 24 rfl rfl 7 (by decide) (List.mem_cons_of_mem _ tb_165) (v := .ref (t 23)) rfl dX7_copyFrom_114 ?_
  refine lv_iconst (v := 0) hx hb dX7_copyFrom_117 (by decide) ?_
  refine lv_aload_n hx hb dX7_copyFrom_118 rfl (lv_at hl 0 rfl) ?_
  refine q_get (C := RX7) (T := TX7) (N := 15) (ci := 7) E (fun w h => List.mem_cons_of_mem _ (inX7 w h)) hw 4 rfl rfl 7 (by decide) (List.mem_cons_of_mem _ tb_165) (v := .ref (h 23)) rfl dX7_copyFrom_119 ?_
  refine lv_iconst (v := 0) hx hb dX7_copyFrom_122 (by decide) ?_
  refine lv_bipush (v := 60) hx hb dX7_copyFrom_123 (by decide) ?_
  refine q_copy E hw hl 32 12 rfl rfl rfl ((((((((upr_ne (upr (upr (upr (upr (upr (upr (up σ 15 0 (τ 15 0)) 16 (va_cpy (τ 16) (σ 16) (ix 0) (ix 0) (ix 60))) 17 (va_cpy (τ 17) (σ 17) (ix 0) (ix 0) (ix 60))) 18 (va_cpy (τ 18) (σ 18) (ix 0) (ix 0) (ix 60))) 19 (va_cpy (τ 19) (σ 19) (ix 0) (ix 0) (ix 60))) 20 (va_cpy (τ 20) (σ 20) (ix 0) (ix 0) (ix 60))) 21 (va_cpy (τ 21) (σ 21) (ix 0) (ix 0) (ix 60))) 22 (va_cpy (τ 22) (σ 22) (ix 0) (ix 0) (ix 60)) 23 (by decide)).trans (upr_ne (upr (upr (upr (upr (upr (up σ 15 0 (τ 15 0)) 16 (va_cpy (τ 16) (σ 16) (ix 0) (ix 0) (ix 60))) 17 (va_cpy (τ 17) (σ 17) (ix 0) (ix 0) (ix 60))) 18 (va_cpy (τ 18) (σ 18) (ix 0) (ix 0) (ix 60))) 19 (va_cpy (τ 19) (σ 19) (ix 0) (ix 0) (ix 60))) 20 (va_cpy (τ 20) (σ 20) (ix 0) (ix 0) (ix 60))) 21 (va_cpy (τ 21) (σ 21) (ix 0) (ix 0) (ix 60)) 23 (by decide))).trans (upr_ne (upr (upr (upr (upr (up σ 15 0 (τ 15 0)) 16 (va_cpy (τ 16) (σ 16) (ix 0) (ix 0) (ix 60))) 17 (va_cpy (τ 17) (σ 17) (ix 0) (ix 0) (ix 60))) 18 (va_cpy (τ 18) (σ 18) (ix 0) (ix 0) (ix 60))) 19 (va_cpy (τ 19) (σ 19) (ix 0) (ix 0) (ix 60))) 20 (va_cpy (τ 20) (σ 20) (ix 0) (ix 0) (ix 60)) 23 (by decide))).trans (upr_ne (upr (upr (upr (up σ 15 0 (τ 15 0)) 16 (va_cpy (τ 16) (σ 16) (ix 0) (ix 0) (ix 60))) 17 (va_cpy (τ 17) (σ 17) (ix 0) (ix 0) (ix 60))) 18 (va_cpy (τ 18) (σ 18) (ix 0) (ix 0) (ix 60))) 19 (va_cpy (τ 19) (σ 19) (ix 0) (ix 0) (ix 60)) 23 (by decide))).trans (upr_ne (upr (upr (up σ 15 0 (τ 15 0)) 16 (va_cpy (τ 16) (σ 16) (ix 0) (ix 0) (ix 60))) 17 (va_cpy (τ 17) (σ 17) (ix 0) (ix 0) (ix 60))) 18 (va_cpy (τ 18) (σ 18) (ix 0) (ix 0) (ix 60)) 23 (by decide))).trans (upr_ne (upr (up σ 15 0 (τ 15 0)) 16 (va_cpy (τ 16) (σ 16) (ix 0) (ix 0) (ix 60))) 17 (va_cpy (τ 17) (σ 17) (ix 0) (ix 0) (ix 60)) 23 (by decide))).trans (upr_ne (up σ 15 0 (τ 15 0)) 16 (va_cpy (τ 16) (σ 16) (ix 0) (ix 0) (ix 60)) 23 (by decide))).trans (up_ne σ 15 0 (τ 15 0) 23 (by decide))) (List.mem_cons_of_mem _ tb_764) (List.mem_cons_of_mem _ tb_260) (List.mem_cons_of_mem _ tb_259) (List.mem_cons_of_mem _ tb_55) (by decide +kernel) (by decide +kernel) (by decide +kernel) (by decide +kernel) (by decide +kernel) (Nat.le_of_ble_eq_true rfl) (Nat.le_of_ble_eq_true rfl) (wC cA h (upr (upr (upr (upr (upr (upr (upr (upr (up σ 15 0 (τ 15 0)) 16 (va_cpy (τ 16) (σ 16) (ix 0) (ix 0) (ix 60))) 17 (va_cpy (τ 17) (σ 17) (ix 0) (ix 0) (ix 60))) 18 (va_cpy (τ 18) (σ 18) (ix 0) (ix 0) (ix 60))) 19 (va_cpy (τ 19) (σ 19) (ix 0) (ix 0) (ix 60))) 20 (va_cpy (τ 20) (σ 20) (ix 0) (ix 0) (ix 60))) 21 (va_cpy (τ 21) (σ 21) (ix 0) (ix 0) (ix 60))) 22 (va_cpy (τ 22) (σ 22) (ix 0) (ix 0) (ix 60))) 23 (va_cpy (τ 23) (σ 23) (ix 0) (ix 0) (ix 60))) ++ (wC cA t τ ++ F)) st_C_C2_23r dX7_copyFrom_125 (fun H locs hw => ?_)
  refine lv_aload_n hx hb dX7_copyFrom_128 rfl (lv_at hl 1 rfl) ?_
  refine q_get (C := RX7) (T := TX7) (N := 15) (ci := 7) E (fun w h => List.mem_cons_of_mem _ (inX7 w h)) hw 24 rfl rfl 8 (by decide) (List.mem_cons_of_mem _ tb_167) (v := .ref (t 24)) rfl dX7_copyFrom_129 ?_
  refine lv_iconst (v := 0) hx hb dX7_copyFrom_132 (by decide) ?_
  refine lv_aload_n hx hb dX7_copyFrom_133 rfl (lv_at hl 0 rfl) ?_
  refine q_get (C := RX7) (T := TX7) (N := 15) (ci := 7) E (fun w h => List.mem_cons_of_mem _ (inX7 w h)) hw 4 rfl rfl 8 (by decide) (List.mem_cons_of_mem _ tb_167) (v := .ref (h 24)) rfl dX7_copyFrom_134 ?_
  refine lv_iconst (v := 0) hx hb dX7_copyFrom_137 (by decide) ?_
  refine lv_bipush (v := 60) hx hb dX7_copyFrom_138 (by decide) ?_
  refine q_copy E hw hl 33 13 rfl rfl rfl (((((((((upr_ne (upr (upr (upr (upr (upr (upr (upr (up σ 15 0 (τ 15 0)) 16 (va_cpy (τ 16) (σ 16) (ix 0) (ix 0) (ix 60))) 17 (va_cpy (τ 17) (σ 17) (ix 0) (ix 0) (ix 60))) 18 (va_cpy (τ 18) (σ 18) (ix 0) (ix 0) (ix 60))) 19 (va_cpy (τ 19) (σ 19) (ix 0) (ix 0) (ix 60))) 20 (va_cpy (τ 20) (σ 20) (ix 0) (ix 0) (ix 60))) 21 (va_cpy (τ 21) (σ 21) (ix 0) (ix 0) (ix 60))) 22 (va_cpy (τ 22) (σ 22) (ix 0) (ix 0) (ix 60))) 23 (va_cpy (τ 23) (σ 23) (ix 0) (ix 0) (ix 60)) 24 (by decide)).trans (upr_ne (upr (upr (upr (upr (upr (upr (up σ 15 0 (τ 15 0)) 16 (va_cpy (τ 16) (σ 16) (ix 0) (ix 0) (ix 60))) 17 (va_cpy (τ 17) (σ 17) (ix 0) (ix 0) (ix 60))) 18 (va_cpy (τ 18) (σ 18) (ix 0) (ix 0) (ix 60))) 19 (va_cpy (τ 19) (σ 19) (ix 0) (ix 0) (ix 60))) 20 (va_cpy (τ 20) (σ 20) (ix 0) (ix 0) (ix 60))) 21 (va_cpy (τ 21) (σ 21) (ix 0) (ix 0) (ix 60))) 22 (va_cpy (τ 22) (σ 22) (ix 0) (ix 0) (ix 60)) 24 (by decide))).trans (upr_ne (upr (upr (upr (upr (upr (up σ 15 0 (τ 15 0)) 16 (va_cpy (τ 16) (σ 16) (ix 0) (ix 0) (ix 60))) 17 (va_cpy (τ 17) (σ 17) (ix 0) (ix 0) (ix 60))) 18 (va_cpy (τ 18) (σ 18) (ix 0) (ix 0) (ix 60))) 19 (va_cpy (τ 19) (σ 19) (ix 0) (ix 0) (ix 60))) 20 (va_cpy (τ 20) (σ 20) (ix 0) (ix 0) (ix 60))) 21 (va_cpy (τ 21) (σ 21) (ix 0) (ix 0) (ix 60)) 24 (by decide))).trans (upr_ne (upr (upr (upr (upr (up σ 15 0 (τ 15 0)) 16 (va_cpy (τ 16) (σ 16) (ix 0) (ix 0) (ix 60))) 17 (va_cpy (τ 17) (σ 17) (ix 0) (ix 0) (ix 60))) 18 (va_cpy (τ 18) (σ 18) (ix 0) (ix 0) (ix 60))) 19 (va_cpy (τ 19) (σ 19) (ix 0) (ix 0) (ix 60))) 20 (va_cpy (τ 20) (σ 20) (ix 0) (ix 0) (ix 60)) 24 (by decide))).trans (upr_ne (upr (upr (upr (up σ 15 0 (τ 15 0)) 16 (va_cpy (τ 16) (σ 16) (ix 0) (ix 0) (ix 60))) 17 (va_cpy (τ 17) (σ 17) (ix 0) (ix 0) (ix 60))) 18 (va_cpy (τ 18) (σ 18) (ix 0) (ix 0) (ix 60))) 19 (va_cpy (τ 19) (σ 19) (ix 0) (ix 0) (ix 60)) 24 (by decide))).trans (upr_ne (upr (upr (up σ 15 0 (τ 15 0)) 16 (va_cpy (τ 16) (σ 16) (ix 0) (ix 0) (ix 60))) 17 (va_cpy (τ 17) (σ 17) (ix 0) (ix 0) (ix 60))) 18 (va_cpy (τ 18) (σ 18) (ix 0) (ix 0) (ix 60)) 24 (by decide))).trans (upr_ne (upr (up σ 15 0 (τ 15 0)) 16 (va_cpy (τ 16) (σ 16) (ix 0) (ix 0) (ix 60))) 17 (va_cpy (τ 17) (σ 17) (ix 0) (ix 0) (ix 60)) 24 (by decide))).trans (upr_ne (up σ 15 0 (τ 15 0)) 16 (va_cpy (τ 16) (σ 16) (ix 0) (ix 0) (ix 60)) 24 (by decide))).trans (up_ne σ 15 0 (τ 15 0) 24 (by decide))) (List.mem_cons_of_mem _ tb_764) (List.mem_cons_of_mem _ tb_260) (List.mem_cons_of_mem _ tb_259) (List.mem_cons_of_mem _ tb_55) (by decide +kernel) (by decide +kernel) (by decide +kernel) (by decide +kernel) (by decide +kernel) (Nat.le_of_ble_eq_true rfl) (Nat.le_of_ble_eq_true rfl) (wC cA h (upr (upr (upr (upr (upr (upr (upr (upr (upr (up σ 15 0 (τ 15 0)) 16 (va_cpy (τ 16) (σ 16) (ix 0) (ix 0) (ix 60))) 17 (va_cpy (τ 17) (σ 17) (ix 0) (ix 0) (ix 60))) 18 (va_cpy (τ 18) (σ 18) (ix 0) (ix 0) (ix 60))) 19 (va_cpy (τ 19) (σ 19) (ix 0) (ix 0) (ix 60))) 20 (va_cpy (τ 20) (σ 20) (ix 0) (ix 0) (ix 60))) 21 (va_cpy (τ 21) (σ 21) (ix 0) (ix 0) (ix 60))) 22 (va_cpy (τ 22) (σ 22) (ix 0) (ix 0) (ix 60))) 23 (va_cpy (τ 23) (σ 23) (ix 0) (ix 0) (ix 60))) 24 (va_cpy (τ 24) (σ 24) (ix 0) (ix 0) (ix 60))) ++ (wC cA t τ ++ F)) st_C_C2_24r dX7_copyFrom_140 (fun H locs hw => ?_)
  refine lv_aload_n hx hb dX7_copyFrom_143 rfl (lv_at hl 1 rfl) ?_
  refine q_get (C := RX7) (T := TX7) (N := 15) (ci := 7) E (fun w h => List.mem_cons_of_mem _ (inX7 w h)) hw 24 rfl rfl 9 (by decide) (List.mem_cons_of_mem _ tb_170) (v := .ref (t 25)) rfl dX7_copyFrom_144 ?_
  refine lv_iconst (v := 0) hx hb dX7_copyFrom_147 (by decide) ?_
  refine lv_aload_n hx hb dX7_copyFrom_148 rfl (lv_at hl 0 rfl) ?_
  refine q_get (C := RX7) (T := TX7) (N := 15) (ci := 7) E (fun w h => List.mem_cons_of_mem _ (inX7 w h)) hw 4 rfl rfl 9 (by decide) (List.mem_cons_of_mem _ tb_170) (v := .ref (h 25)) rfl dX7_copyFrom_149 ?_
  refine lv_iconst (v := 0) hx hb dX7_copyFrom_152 (by decide) ?_
  refine lv_bipush (v := 60) hx hb dX7_copyFrom_153 (by decide) ?_
  refine q_copy E hw hl 34 14 rfl rfl rfl ((((((((((upr_ne (upr (upr (upr (upr (upr (upr (upr (upr (up σ 15 0 (τ 15 0)) 16 (va_cpy (τ 16) (σ 16) (ix 0) (ix 0) (ix 60))) 17 (va_cpy (τ 17) (σ 17) (ix 0) (ix 0) (ix 60))) 18 (va_cpy (τ 18) (σ 18) (ix 0) (ix 0) (ix 60))) 19 (va_cpy (τ 19) (σ 19) (ix 0) (ix 0) (ix 60))) 20 (va_cpy (τ 20) (σ 20) (ix 0) (ix 0) (ix 60))) 21 (va_cpy (τ 21) (σ 21) (ix 0) (ix 0) (ix 60))) 22 (va_cpy (τ 22) (σ 22) (ix 0) (ix 0) (ix 60))) 23 (va_cpy (τ 23) (σ 23) (ix 0) (ix 0) (ix 60))) 24 (va_cpy (τ 24) (σ 24) (ix 0) (ix 0) (ix 60)) 25 (by decide)).trans (upr_ne (upr (upr (upr (upr (upr (upr (upr (up σ 15 0 (τ 15 0)) 16 (va_cpy (τ 16) (σ 16) (ix 0) (ix 0) (ix 60))) 17 (va_cpy (τ 17) (σ 17) (ix 0) (ix 0) (ix 60))) 18 (va_cpy (τ 18) (σ 18) (ix 0) (ix 0) (ix 60))) 19 (va_cpy (τ 19) (σ 19) (ix 0) (ix 0) (ix 60))) 20 (va_cpy (τ 20) (σ 20) (ix 0) (ix 0) (ix 60))) 21 (va_cpy (τ 21) (σ 21) (ix 0) (ix 0) (ix 60))) 22 (va_cpy (τ 22) (σ 22) (ix 0) (ix 0) (ix 60))) 23 (va_cpy (τ 23) (σ 23) (ix 0) (ix 0) (ix 60)) 25 (by decide))).trans (upr_ne (upr (upr (upr (upr (upr (upr (up σ 15 0 (τ 15 0)) 16 (va_cpy (τ 16) (σ 16) (ix 0) (ix 0) (ix 60))) 17 (va_cpy (τ 17) (σ 17) (ix 0) (ix 0) (ix 60))) 18 (va_cpy (τ 18) (σ 18) (ix 0) (ix 0) (ix 60))) 19 (va_cpy (τ 19) (σ 19) (ix 0) (ix 0) (ix 60))) 20 (va_cpy (τ 20) (σ 20) (ix 0) (ix 0) (ix 60))) 21 (va_cpy (τ 21) (σ 21) (ix 0) (ix 0) (ix 60))) 22 (va_cpy (τ 22) (σ 22) (ix 0) (ix 0) (ix 60)) 25 (by decide))).trans (upr_ne (upr (upr (upr (upr (upr (up σ 15 0 (τ 15 0)) 16 (va_cpy (τ 16) (σ 16) (ix 0) (ix 0) (ix 60))) 17 (va_cpy (τ 17) (σ 17) (ix 0) (ix 0) (ix 60))) 18 (va_cpy (τ 18) (σ 18) (ix 0) (ix 0) (ix 60))) 19 (va_cpy (τ 19) (σ 19) (ix 0) (ix 0) (ix 60))) 20 (va_cpy (τ 20) (σ 20) (ix 0) (ix 0) (ix 60))) 21 (va_cpy (τ 21) (σ 21) (ix 0) (ix 0) (ix 60)) 25 (by decide))).trans (upr_ne (upr (upr (upr (upr (up σ 15 0 (τ 15 0)) 16 (va_cpy (τ 16) (σ 16) (ix 0) (ix 0) (ix 60))) 17 (va_cpy (τ 17) (σ 17) (ix 0) (ix 0) (ix 60))) 18 (va_cpy (τ 18) (σ 18) (ix 0) (ix 0) (ix 60))) 19 (va_cpy (τ 19) (σ 19) (ix 0) (ix 0) (ix 60))) 20 (va_cpy (τ 20) (σ 20) (ix 0) (ix 0) (ix 60)) 25 (by decide))).trans (upr_ne (upr (upr (upr (up σ 15 0 (τ 15 0)) 16 (va_cpy (τ 16) (σ 16) (ix 0) (ix 0) (ix 60))) 17 (va_cpy (τ 17) (σ 17) (ix 0) (ix 0) (ix 60))) 18 (va_cpy (τ 18) (σ 18) (ix 0) (ix 0) (ix 60))) 19 (va_cpy (τ 19) (σ 19) (ix 0) (ix 0) (ix 60)) 25 (by decide))).trans (upr_ne (upr (upr (up σ 15 0 (τ 15 0)) 16 (va_cpy (τ 16) (σ 16) (ix 0) (ix 0) (ix 60))) 17 (va_cpy (τ 17) (σ 17) (ix 0) (ix 0) (ix 60))) 18 (va_cpy (τ 18) (σ 18) (ix 0) (ix 0) (ix 60)) 25 (by decide))).trans (upr_ne (upr (up σ 15 0 (τ 15 0)) 16 (va_cpy (τ 16) (σ 16) (ix 0) (ix 0) (ix 60))) 17 (va_cpy (τ 17) (σ 17) (ix 0) (ix 0) (ix 60)) 25 (by decide))).trans (upr_ne (up σ 15 0 (τ 15 0)) 16 (va_cpy (τ 16) (σ 16) (ix 0) (ix 0) (ix 60)) 25 (by decide))).trans (up_ne σ 15 0 (τ 15 0) 25 (by decide))) (List.mem_cons_of_mem _ tb_764) (List.mem_cons_of_mem _ tb_260) (List.mem_cons_of_mem _ tb_259) (List.mem_cons_of_mem _ tb_55) (by decide +kernel) (by decide +kernel) (by decide +kernel) (by decide +kernel) (by decide +kernel) (Nat.le_of_ble_eq_true rfl) (Nat.le_of_ble_eq_true rfl) (wC cA h (upr (upr (upr (upr (upr (upr (upr (upr (upr (upr (up σ 15 0 (τ 15 0)) 16 (va_cpy (τ 16) (σ 16) (ix 0) (ix 0) (ix 60))) 17 (va_cpy (τ 17) (σ 17) (ix 0) (ix 0) (ix 60))) 18 (va_cpy (τ 18) (σ 18) (ix 0) (ix 0) (ix 60))) 19 (va_cpy (τ 19) (σ 19) (ix 0) (ix 0) (ix 60))) 20 (va_cpy (τ 20) (σ 20) (ix 0) (ix 0) (ix 60))) 21 (va_cpy (τ 21) (σ 21) (ix 0) (ix 0) (ix 60))) 22 (va_cpy (τ 22) (σ 22) (ix 0) (ix 0) (ix 60))) 23 (va_cpy (τ 23) (σ 23) (ix 0) (ix 0) (ix 60))) 24 (va_cpy (τ 24) (σ 24) (ix 0) (ix 0) (ix 60))) 25 (va_cpy (τ 25) (σ 25) (ix 0) (ix 0) (ix 60))) ++ (wC cA t τ ++ F)) st_C_C2_25r dX7_copyFrom_155 (fun H locs hw => ?_)
  refine lv_aload_n hx hb dX7_copyFrom_158 rfl (lv_at hl 1 rfl) ?_
  refine q_get (C := RX7) (T := TX7) (N := 15) (ci := 7) E (fun w h => List.mem_cons_of_mem _ (inX7 w h)) hw 24 rfl rfl 10 (by decide) (List.mem_cons_of_mem _ tb_173) (v := .ref (t 26)) rfl dX7_copyFrom_159 ?_
  refine lv_iconst (v := 0) hx hb dX7_copyFrom_162 (by decide) ?_
  refine lv_aload_n hx hb dX7_copyFrom_163 rfl (lv_at hl 0 rfl) ?_
  refine q_get (C := RX7) (T := TX7) (N := 15) (ci := 7) E (fun w h => List.mem_cons_of_mem _ (inX7 w h)) hw 4 rfl rfl 10 (by decide) (List.mem_cons_of_mem _ tb_173) (v := .ref (h 26)) rfl dX7_copyFrom_164 ?_
  refine lv_iconst (v := 0) hx hb dX7_copyFrom_167 (by decide) ?_
  refine lv_bipush (v := 60) hx hb dX7_copyFrom_168 (by decide) ?_
  refine q_copy E hw hl 35 15 rfl rfl rfl (((((((((((upr_ne (upr (upr (upr (upr (upr (upr (upr (upr (upr (up σ 15 0 (τ 15 0)) 16 (va_cpy (τ 16) (σ 16) (ix 0) (ix 0) (ix 60))) 17 (va_cpy (τ 17) (σ 17) (ix 0) (ix 0) (ix 60))) 18 (va_cpy (τ 18) (σ 18) (ix 0) (ix 0) (ix 60))) 19 (va_cpy (τ 19) (σ 19) (ix 0) (ix 0) (ix 60))) 20 (va_cpy (τ 20) (σ 20) (ix 0) (ix 0) (ix 60))) 21 (va_cpy (τ 21) (σ 21) (ix 0) (ix 0) (ix 60))) 22 (va_cpy (τ 22) (σ 22) (ix 0) (ix 0) (ix 60))) 23 (va_cpy (τ 23) (σ 23) (ix 0) (ix 0) (ix 60))) 24 (va_cpy (τ 24) (σ 24) (ix 0) (ix 0) (ix 60))) 25 (va_cpy (τ 25) (σ 25) (ix 0) (ix 0) (ix 60)) 26 (by decide)).trans (upr_ne (upr (upr (upr (upr (upr (upr (upr (upr (up σ 15 0 (τ 15 0)) 16 (va_cpy (τ 16) (σ 16) (ix 0) (ix 0) (ix 60))) 17 (va_cpy (τ 17) (σ 17) (ix 0) (ix 0) (ix 60))) 18 (va_cpy (τ 18) (σ 18) (ix 0) (ix 0) (ix 60))) 19 (va_cpy (τ 19) (σ 19) (ix 0) (ix 0) (ix 60))) 20 (va_cpy (τ 20) (σ 20) (ix 0) (ix 0) (ix 60))) 21 (va_cpy (τ 21) (σ 21) (ix 0) (ix 0) (ix 60))) 22 (va_cpy (τ 22) (σ 22) (ix 0) (ix 0) (ix 60))) 23 (va_cpy (τ 23) (σ 23) (ix 0) (ix 0) (ix 60))) 24 (va_cpy (τ 24) (σ 24) (ix 0) (ix 0) (ix 60)) 26 (by decide))).trans (upr_ne (upr (upr (upr (upr (upr (upr (upr (up σ 15 0 (τ 15 0)) 16 (va_cpy (τ 16) (σ 16) (ix 0) (ix 0) (ix 60))) 17 (va_cpy (τ 17) (σ 17) (ix 0) (ix 0) (ix 60))) 18 (va_cpy (τ 18) (σ 18) (ix 0) (ix 0) (ix 60))) 19 (va_cpy (τ 19) (σ 19) (ix 0) (ix 0) (ix 60))) 20 (va_cpy (τ 20) (σ 20) (ix 0) (ix 0) (ix 60))) 21 (va_cpy (τ 21) (σ 21) (ix 0) (ix 0) (ix 60))) 22 (va_cpy (τ 22) (σ 22) (ix 0) (ix 0) (ix 60))) 23 (va_cpy (τ 23) (σ 23) (ix 0) (ix 0) (ix 60)) 26 (by decide))).trans (upr_ne (upr (upr (upr (upr (upr (upr (up σ 15 0 (τ 15 0)) 16 (va_cpy (τ 16) (σ 16) (ix 0) (ix 0) (ix 60))) 17 (va_cpy (τ 17) (σ 17) (ix 0) (ix 0) (ix 60))) 18 (va_cpy (τ 18) (σ 18) (ix 0) (ix 0) (ix 60))) 19 (va_cpy (τ 19) (σ 19) (ix 0) (ix 0) (ix 60))) 20 (va_cpy (τ 20) (σ 20) (ix 0) (ix 0) (ix 60))) 21 (va_cpy (τ 21) (σ 21) (ix 0) (ix 0) (ix 60))) 22 (va_cpy (τ 22) (σ 22) (ix 0) (ix 0) (ix 60)) 26 (by decide))).trans (upr_ne (upr (upr (upr (upr (upr (up σ 15 0 (τ 15 0)) 16 (va_cpy (τ 16) (σ 16) (ix 0) (ix 0) (ix 60))) 17 (va_cpy (τ 17) (σ 17) (ix 0) (ix 0) (ix 60))) 18 (va_cpy (τ 18) (σ 18) (ix 0) (ix 0) (ix 60))) 19 (va_cpy (τ 19) (σ 19) (ix 0) (ix 0) (ix 60))) 20 (va_cpy (τ 20) (σ 20) (ix 0) (ix 0) (ix 60))) 21 (va_cpy (τ 21) (σ 21) (ix 0) (ix 0) (ix 60)) 26 (by decide))).trans (upr_ne (upr (upr (upr (upr (up σ 15 0 (τ 15 0)) 16 (va_cpy (τ 16) (σ 16) (ix 0) (ix 0) (ix 60))) 17 (va_cpy (τ 17) (σ 17) (ix 0) (ix 0) (ix 60))) 18 (va_cpy (τ 18) (σ 18) (ix 0) (ix 0) (ix 60))) 19 (va_cpy (τ 19) (σ 19) (ix 0) (ix 0) (ix 60))) 20 (va_cpy (τ 20) (σ 20) (ix 0) (ix 0) (ix 60)) 26 (by decide))).trans (upr_ne (upr (upr (upr (up σ 15 0 (τ 15 0)) 16 (va_cpy (τ 16) (σ 16) (ix 0) (ix 0) (ix 60))) 17 (va_cpy (τ 17) (σ 17) (ix 0) (ix 0) (ix 60))) 18 (va_cpy (τ 18) (σ 18) (ix 0) (ix 0) (ix 60))) 19 (va_cpy (τ 19) (σ 19) (ix 0) (ix 0) (ix 60)) 26 (by decide))).trans (upr_ne (upr (upr (up σ 15 0 (τ 15 0)) 16 (va_cpy (τ 16) (σ 16) (ix 0) (ix 0) (ix 60))) 17 (va_cpy (τ 17) (σ 17) (ix 0) (ix 0) (ix 60))) 18 (va_cpy (τ 18) (σ 18) (ix 0) (ix 0) (ix 60)) 26 (by decide))).trans (upr_ne (upr (up σ 15 0 (τ 15 0)) 16 (va_cpy (τ 16) (σ 16) (ix 0) (ix 0) (ix 60))) 17 (va_cpy (τ 17) (σ 17) (ix 0) (ix 0) (ix 60)) 26 (by decide))).trans (upr_ne (up σ 15 0 (τ 15 0)) 16 (va_cpy (τ 16) (σ 16) (ix 0) (ix 0) (ix 60)) 26 (by decide))).trans (up_ne σ 15 0 (τ 15 0) 26 (by decide))) (List.mem_cons_of_mem _ tb_764) (List.mem_cons_of_mem _ tb_260) (List.mem_cons_of_mem _ tb_259) (List.mem_cons_of_mem _ tb_55) (by decide +kernel) (by decide +kernel) (by decide +kernel) (by decide +kernel) (by decide +kernel) (Nat.le_of_ble_eq_true rfl) (Nat.le_of_ble_eq_true rfl) (wC cA h (upr (upr (upr (upr (upr (upr (upr (upr (upr (upr (upr (up σ 15 0 (τ 15 0)) 16 (va_cpy (τ 16) (σ 16) (ix 0) (ix 0) (ix 60))) 17 (va_cpy (τ 17) (σ 17) (ix 0) (ix 0) (ix 60))) 18 (va_cpy (τ 18) (σ 18) (ix 0) (ix 0) (ix 60))) 19 (va_cpy (τ 19) (σ 19) (ix 0) (ix 0) (ix 60))) 20 (va_cpy (τ 20) (σ 20) (ix 0) (ix 0) (ix 60))) 21 (va_cpy (τ 21) (σ 21) (ix 0) (ix 0) (ix 60))) 22 (va_cpy (τ 22) (σ 22) (ix 0) (ix 0) (ix 60))) 23 (va_cpy (τ 23) (σ 23) (ix 0) (ix 0) (ix 60))) 24 (va_cpy (τ 24) (σ 24) (ix 0) (ix 0) (ix 60))) 25 (va_cpy (τ 25) (σ 25) (ix 0) (ix 0) (ix 60))) 26 (va_cpy (τ 26) (σ 26) (ix 0) (ix 0) (ix 60))) ++ (wC cA t τ ++ F)) st_C_C2_26r dX7_copyFrom_170 (fun H locs hw => ?_)
  refine lv_aload_n hx hb dX7_copyFrom_173 rfl (lv_at hl 1 rfl) ?_
  refine q_get (C := RX7) (T := TX7) (N := 15) (ci := 7) E (fun w h => List.mem_cons_of_mem _ (inX7 w h)) hw 24 rfl rfl 11 (by decide) (List.mem_cons_of_mem _ tb_176) (v := .ref (t 27)) rfl dX7_copyFrom_174 ?_
  refine lv_iconst (v := 0) hx hb dX7_copyFrom_177 (by decide) ?_
  refine lv_aload_n hx hb dX7_copyFrom_178 rfl (lv_at hl 0 rfl) ?_
  refine q_get (C := RX7) (T := TX7) (N := 15) (ci := 7) E (fun w h => List.mem_cons_of_mem _ (inX7 w h)) hw 4 rfl rfl 11 (by decide) (List.mem_cons_of_mem _ tb_176) (v := .ref (h 27)) rfl dX7_copyFrom_179 ?_
  refine lv_iconst (v := 0) hx hb dX7_copyFrom_182 (by decide) ?_
  refine lv_bipush (v := 60) hx hb dX7_copyFrom_183 (by decide) ?_
  refine q_copy E hw hl 36 16 rfl rfl rfl ((((((((((((upr_ne (upr (upr (upr (upr (upr (upr (upr (upr (upr (upr (up σ 15 0 (τ 15 0)) 16 (va_cpy (τ 16) (σ 16) (ix 0) (ix 0) (ix 60))) 17 (va_cpy (τ 17) (σ 17) (ix 0) (ix 0) (ix 60))) 18 (va_cpy (τ 18) (σ 18) (ix 0) (ix 0) (ix 60))) 19 (va_cpy (τ 19) (σ 19) (ix 0) (ix 0) (ix 60))) 20 (va_cpy (τ 20) (σ 20) (ix 0) (ix 0) (ix 60))) 21 (va_cpy (τ 21) (σ 21) (ix 0) (ix 0) (ix 60))) 22 (va_cpy (τ 22) (σ 22) (ix 0) (ix 0) (ix 60))) 23 (va_cpy (τ 23) (σ 23) (ix 0) (ix 0) (ix 60))) 24 (va_cpy (τ 24) (σ 24) (ix 0) (ix 0) (ix 60))) 25 (va_cpy (τ 25) (σ 25) (ix 0) (ix 0) (ix 60))) 26 (va_cpy (τ 26) (σ 26) (ix 0) (ix 0) (ix 60)) 27 (by decide)).trans (upr_ne (upr (upr (upr (upr (upr (upr (upr (upr (upr (up σ 15 0 (τ 15 0)) 16 (va_cpy (τ 16) (σ 16) (ix 0) (ix 0) (ix 60))) 17 (va_cpy (τ 17) (σ 17) (ix 0) (ix 0) (ix 60))) 18 (va_cpy (τ 18) (σ 18) (ix 0) (ix 0) (ix 60))) 19 (va_cpy (τ 19) (σ 19) (ix 0) (ix 0) (ix 60))) 20 (va_cpy (τ 20) (σ 20) (ix 0) (ix 0) (ix 60))) 21 (va_cpy (τ 21) (σ 21) (ix 0) (ix 0) (ix 60))) 22 (va_cpy (τ 22) (σ 22) (ix 0) (ix 0) (ix 60))) 23 (va_cpy (τ 23) (σ 23) (ix 0) (ix 0) (ix 60))) 24 (va_cpy (τ 24) (σ 24) (ix 0) (ix 0) (ix 60))) 25 (va_cpy (τ 25) (σ 25) (ix 0) (ix 0) (ix 60)) 27 (by decide))).trans (upr_ne (upr (upr (upr (upr (upr (upr (upr (upr (up σ 15 0 (τ 15 0)) 16 (va_cpy (τ 16) (σ 16) (ix 0) (ix 0) (ix 60))) 17 (va_cpy (τ 17) (σ 17) (ix 0) (ix 0) (ix 60))) 18 (va_cpy (τ 18) (σ 18) (ix 0) (ix 0) (ix 60))) 19 (va_cpy (τ 19) (σ 19) (ix 0) (ix 0) (ix 60))) 20 (va_cpy (τ 20) (σ 20) (ix 0) (ix 0) (ix 60))) 21 (va_cpy (τ 21) (σ 21) (ix 0) (ix 0) (ix 60))) 22 (va_cpy (τ 22) (σ 22) (ix 0) (ix 0) (ix 60))) 23 (va_cpy (τ 23) (σ 23) (ix 0) (ix 0) (ix 60))) 24 (va_cpy (τ 24) (σ 24) (ix 0) (ix 0) (ix 60)) 27 (by decide))).trans (upr_ne (upr (upr (upr (upr (upr (upr (upr (up σ 15 0 (τ 15 0)) 16 (va_cpy (τ 16) (σ 16) (ix 0) (ix 0) (ix 60))) 17 (va_cpy (τ 17) (σ 17) (ix 0) (ix 0) (ix 60))) 18 (va_cpy (τ 18) (σ 18) (ix 0) (ix 0) (ix 60))) 19 (va_cpy (τ 19) (σ 19) (ix 0) (ix 0) (ix 60))) 20 (va_cpy (τ 20) (σ 20) (ix 0) (ix 0) (ix 60))) 21 (va_cpy (τ 21) (σ 21) (ix 0) (ix 0) (ix 60))) 22 (va_cpy (τ 22) (σ 22) (ix 0) (ix 0) (ix 60))) 23 (va_cpy (τ 23) (σ 23) (ix 0) (ix 0) (ix 60)) 27 (by decide))).trans (upr_ne (upr (upr (upr (upr (upr (upr (up σ 15 0 (τ 15 0)) 16 (va_cpy (τ 16) (σ 16) (ix 0) (ix 0) (ix 60))) 17 (va_cpy (τ 17) (σ 17) (ix 0) (ix 0) (ix 60))) 18 (va_cpy (τ 18) (σ 18) (ix 0) (ix 0) (ix 60))) 19 (va_cpy (τ 19) (σ 19) (ix 0) (ix 0) (ix 60))) 20 (va_cpy (τ 20) (σ 20) (ix 0) (ix 0) (ix 60))) 21 (va_cpy (τ 21) (σ 21) (ix 0) (ix 0) (ix 60))) 22 (va_cpy (τ 22) (σ 22) (ix 0) (ix 0) (ix 60)) 27 (by decide))).trans (upr_ne (upr (upr (upr (upr (upr (up σ 15 0 (τ 15 0)) 16 (va_cpy (τ 16) (σ 16) (ix 0) (ix 0) (ix 60))) 17 (va_cpy (τ 17) (σ 17) (ix 0) (ix 0) (ix 60))) 18 (va_cpy (τ 18) (σ 18) (ix 0) (ix 0) (ix 60))) 19 (va_cpy (τ 19) (σ 19) (ix 0) (ix 0) (ix 60))) 20 (va_cpy (τ 20) (σ 20) (ix 0) (ix 0) (ix 60))) 21 (va_cpy (τ 21) (σ 21) (ix 0) (ix 0) (ix 60)) 27 (by decide))).trans (upr_ne (upr (upr (upr (upr (up σ 15 0 (τ 15 0)) 16 (va_cpy (τ 16) (σ 16) (ix 0) (ix 0) (ix 60))) 17 (va_cpy (τ 17) (σ 17) (ix 0) (ix 0) (ix 60))) 18 (va_cpy (τ 18) (σ 18) (ix 0) (ix 0) (ix 60))) 19 (va_cpy (τ 19) (σ 19) (ix 0) (ix 0) (ix 60))) 20 (va_cpy (τ 20) (σ 20) (ix 0) (ix 0) (ix 60)) 27 (by decide))).trans (upr_ne (upr (upr (upr (up σ 15 0 (τ 15 0)) 16 (va_cpy (τ 16) (σ 16) (ix 0) (ix 0) (ix 60))) 17 (va_cpy (τ 17) (σ 17) (ix 0) (ix 0) (ix 60))) 18 (va_cpy (τ 18) (σ 18) (ix 0) (ix 0) (ix 60))) 19 (va_cpy (τ 19) (σ 19) (ix 0) (ix 0) (ix 60)) 27 (by decide))).trans (upr_ne (upr (upr (up σ 15 0 (τ 15 0)) 16 (va_cpy (τ 16) (σ 16) (ix 0) (ix 0) (ix 60))) 17 (va_cpy (τ 17) (σ 17) (ix 0) (ix 0) (ix 60))) 18 (va_cpy (τ 18) (σ 18) (ix 0) (ix 0) (ix 60)) 27 (by decide))).trans (upr_ne (upr (up σ 15 0 (τ 15 0)) 16 (va_cpy (τ 16) (σ 16) (ix 0) (ix 0) (ix 60))) 17 (va_cpy (τ 17) (σ 17) (ix 0) (ix 0) (ix 60)) 27 (by decide))).trans (upr_ne (up σ 15 0 (τ 15 0)) 16 (va_cpy (τ 16) (σ 16) (ix 0) (ix 0) (ix 60)) 27 (by decide))).trans (up_ne σ 15 0 (τ 15 0) 27 (by decide))) (List.mem_cons_of_mem _ tb_764) (List.mem_cons_of_mem _ tb_260) (List.mem_cons_of_mem _ tb_259) (List.mem_cons_of_mem _ tb_55) (by decide +kernel) (by decide +kernel) (by decide +kernel) (by decide +kernel) (by decide +kernel) (Nat.le_of_ble_eq_true rfl) (Nat.le_of_ble_eq_true rfl) (wC cA h (upr (upr (upr (upr (upr (upr (upr (upr (upr (upr (upr (upr (up σ 15 0 (τ 15 0)) 16 (va_cpy (τ 16) (σ 16) (ix 0) (ix 0) (ix 60))) 17 (va_cpy (τ 17) (σ 17) (ix 0) (ix 0) (ix 60))) 18 (va_cpy (τ 18) (σ 18) (ix 0) (ix 0) (ix 60))) 19 (va_cpy (τ 19) (σ 19) (ix 0) (ix 0) (ix 60))) 20 (va_cpy (τ 20) (σ 20) (ix 0) (ix 0) (ix 60))) 21 (va_cpy (τ 21) (σ 21) (ix 0) (ix 0) (ix 60))) 22 (va_cpy (τ 22) (σ 22) (ix 0) (ix 0) (ix 60))) 23 (va_cpy (τ 23) (σ 23) (ix 0) (ix 0) (ix 60))) 24 (va_cpy (τ 24) (σ 24) (ix 0) (ix 0) (ix 60))) 25 (va_cpy (τ 25) (σ 25) (ix 0) (ix 0) (ix 60))) 26 (va_cpy (τ 26) (σ 26) (ix 0) (ix 0) (ix 60))) 27 (va_cpy (τ 27) (σ 27) (ix 0) (ix 0) (ix 60))) ++ (wC cA t τ ++ F)) st_C_C2_27r dX7_copyFrom_185 (fun H locs hw => ?_)
  refine lv_aload_n hx hb dX7_copyFrom_188 rfl (lv_at hl 1 rfl) ?_
  refine q_get (C := RX7) (T := TX7) (N := 15) (ci := 7) E (fun w h => List.mem_cons_of_mem _ (inX7 w h)) hw 24 rfl rfl 12 (by decide) (List.mem_cons_of_mem _ tb_178) (v := .ref (t 28)) rfl dX7_copyFrom_189 ?_
  refine lv_iconst (v := 0) hx hb dX7_copyFrom_192 (by decide) ?_
  refine lv_aload_n hx hb dX7_copyFrom_193 rfl (lv_at hl 0 rfl) ?_
  refine q_get (C := RX7) (T := TX7) (N := 15) (ci := 7) E (fun w h => List.mem_cons_of_mem _ (inX7 w h)) hw 4 rfl rfl 12 (by decide) (List.mem_cons_of_mem _ tb_178) (v := .ref (h 28)) rfl dX7_copyFrom_194 ?_
  refine lv_iconst (v := 0) hx hb dX7_copyFrom_197 (by decide) ?_
  refine lv_bipush (v := 60) hx hb dX7_copyFrom_198 (by decide) ?_
  refine q_copy E hw hl 37 17 rfl rfl rfl (((((((((((((upr_ne (upr (upr (upr (upr (upr (upr (upr (upr (upr (upr (upr (up σ 15 0 (τ 15 0)) 16 (va_cpy (τ 16) (σ 16) (ix 0) (ix 0) (ix 60))) 17 (va_cpy (τ 17) (σ 17) (ix 0) (ix 0) (ix 60))) 18 (va_cpy (τ 18) (σ 18) (ix 0) (ix 0) (ix 60))) 19 (va_cpy (τ 19) (σ 19) (ix 0) (ix 0) (ix 60))) 20 (va_cpy (τ 20) (σ 20) (ix 0) (ix 0) (ix 60))) 21 (va_cpy (τ 21) (σ 21) (ix 0) (ix 0) (ix 60))) 22 (va_cpy (τ 22) (σ 22) (ix 0) (ix 0) (ix 60))) 23 (va_cpy (τ 23) (σ 23) (ix 0) (ix 0) (ix 60))) 24 (va_cpy (τ 24) (σ 24) (ix 0) (ix 0) (ix 60))) 25 (va_cpy (τ 25) (σ 25) (ix 0) (ix 0) (ix 60))) 26 (va_cpy (τ 26) (σ 26) (ix 0) (ix 0) (ix 60))) 27 (va_cpy (τ 27) (σ 27) (ix 0) (ix 0) (ix 60)) 28 (by decide)).trans (upr_ne (upr (upr (upr (upr (upr (upr (upr (upr (upr (upr (up σ 15 0 (τ 15 0)) 16 (va_cpy (τ 16) (σ 16) (ix 0) (ix 0) (ix 60))) 17 (va_cpy (τ 17) (σ 17) (ix 0) (ix 0) (ix 60))) 18 (va_cpy (τ 18) (σ 18) (ix 0) (ix 0) (ix 60))) 19 (va_cpy (τ 19) (σ 19) (ix 0) (ix 0) (ix 60))) 20 (va_cpy (τ 20) (σ 20) (ix 0) (ix 0) (ix 60))) 21 (va_cpy (τ 21) (σ 21) (ix 0) (ix 0) (ix 60))) 22 (va_cpy (τ 22) (σ 22) (ix 0) (ix 0) (ix 60))) 23 (va_cpy (τ 23) (σ 23) (ix 0) (ix 0) (ix 60))) 24 (va_cpy (τ 24) (σ 24) (ix 0) (ix 0) (ix 60))) 25 (va_cpy (τ 25) (σ 25) (ix 0) (ix 0) (ix 60))) 26 (va_cpy (τ 26) (σ 26) (ix 0) (ix 0) (ix 60)) 28 (by decide))).trans (upr_ne (upr (upr (upr (upr (upr (upr (upr (upr (upr (up σ 15 0 (τ 15 0)) 16 (va_cpy (τ 16) (σ 16) (ix 0) (ix 0) (ix 60))) 17 (va_cpy (τ 17) (σ 17) (ix 0) (ix 0) (ix 60))) 18 (va_cpy (τ 18) (σ 18) (ix 0) (ix 0) (ix 60))) 19 (va_cpy (τ 19) (σ 19) (ix 0) (ix 0) (ix 60))) 20 (va_cpy (τ 20) (σ 20) (ix 0) (ix 0) (ix 60))) 21 (va_cpy (τ 21) (σ 21) (ix 0) (ix 0) (ix 60))) 22 (va_cpy (τ 22) (σ 22) (ix 0) (ix 0) (ix 60))) 23 (va_cpy (τ 23) (σ 23) (ix 0) (ix 0) (ix 60))) 24 (va_cpy (τ 24) (σ 24) (ix 0) (ix 0) (ix 60))) 25 (va_cpy (τ 25) (σ 25) (ix 0) (ix 0) (ix 60)) 28 (by decide))).trans (upr_ne (upr (upr (upr (upr (upr (upr (upr (upr (up σ 15 0 (τ 15 0)) 16 (va_cpy (τ 16) (σ 16) (ix 0) (ix 0) (ix 60))) 17 (va_cpy (τ 17) (σ 17) (ix 0) (ix 0) (ix 60))) 18 (va_cpy (τ 18) (σ 18) (ix 0) (ix 0) (ix 60))) 19 (va_cpy (τ 19) (σ 19) (ix 0) (ix 0) (ix 60))) 20 (va_cpy (τ 20) (σ 20) (ix 0) (ix 0) (ix 60))) 21 (va_cpy (τ 21) (σ 21) (ix 0) (ix 0) (ix 60))) 22 (va_cpy (τ 22) (σ 22) (ix 0) (ix 0) (ix 60))) 23 (va_cpy (τ 23) (σ 23) (ix 0) (ix 0) (ix 60))) 24 (va_cpy (τ 24) (σ 24) (ix 0) (ix 0) (ix 60)) 28 (by decide))).trans (upr_ne (upr (upr (upr (upr (upr (upr (upr (up σ 15 0 (τ 15 0)) 16 (va_cpy (τ 16) (σ 16) (ix 0) (ix 0) (ix 60))) 17 (va_cpy (τ 17) (σ 17) (ix 0) (ix 0) (ix 60))) 18 (va_cpy (τ 18) (σ 18) (ix 0) (ix 0) (ix 60))) 19 (va_cpy (τ 19) (σ 19) (ix 0) (ix 0) (ix 60))) 20 (va_cpy (τ 20) (σ 20) (ix 0) (ix 0) (ix 60))) 21 (va_cpy (τ 21) (σ 21) (ix 0) (ix 0) (ix 60))) 22 (va_cpy (τ 22) (σ 22) (ix 0) (ix 0) (ix 60))) 23 (va_cpy (τ 23) (σ 23) (ix 0) (ix 0) (ix 60)) 28 (by decide))).trans (upr_ne (upr (upr (upr (upr (upr (upr (up σ 15 0 (τ 15 0)) 16 (va_cpy (τ 16) (σ 16) (ix 0) (ix 0) (ix 60))) 17 (va_cpy (τ 17) (σ 17) (ix 0) (ix 0) (ix 60))) 18 (va_cpy (τ 18) (σ 18) (ix 0) (ix 0) (ix 60))) 19 (va_cpy (τ 19) (σ 19) (ix 0) (ix 0) (ix 60))) 20 (va_cpy (τ 20) (σ 20) (ix 0) (ix 0) (ix 60))) 21 (va_cpy (τ 21) (σ 21) (ix 0) (ix 0) (ix 60))) 22 (va_cpy (τ 22) (σ 22) (ix 0) (ix 0) (ix 60)) 28 (by decide))).trans (upr_ne (upr (upr (upr (upr (upr (up σ 15 0 (τ 15 0)) 16 (va_cpy (τ 16) (σ 16) (ix 0) (ix 0) (ix 60))) 17 (va_cpy (τ 17) (σ 17) (ix 0) (ix 0) (ix 60))) 18 (va_cpy (τ 18) (σ 18) (ix 0) (ix 0) (ix 60))) 19 (va_cpy (τ 19) (σ 19) (ix 0) (ix 0) (ix 60))) 20 (va_cpy (τ 20) (σ 20) (ix 0) (ix 0) (ix 60))) 21 (va_cpy (τ 21) (σ 21) (ix 0) (ix 0) (ix 60)) 28 (by decide))).trans (upr_ne (upr (upr (upr (upr (up σ 15 0 (τ 15 0)) 16 (va_cpy (τ 16) (σ 16) (ix 0) (ix 0) (ix 60))) 17 (va_cpy (τ 17) (σ 17) (ix 0) (ix 0) (ix 60))) 18 (va_cpy (τ 18) (σ 18) (ix 0) (ix 0) (ix 60))) 19 (va_cpy (τ 19) (σ 19) (ix 0) (ix 0) (ix 60))) 20 (va_cpy (τ 20) (σ 20) (ix 0) (ix 0) (ix 60)) 28 (by decide))).trans (upr_ne (upr (upr (upr (up σ 15 0 (τ 15 0)) 16 (va_cpy (τ 16) (σ 16) (ix 0) (ix 0) (ix 60))) 17 (va_cpy (τ 17) (σ 17) (ix 0) (ix 0) (ix 60))) 18 (va_cpy (τ 18) (σ 18) (ix 0) (ix 0) (ix 60))) 19 (va_cpy (τ 19) (σ 19) (ix 0) (ix 0) (ix 60)) 28 (by decide))).trans (upr_ne (upr (upr (up σ 15 0 (τ 15 0)) 16 (va_cpy (τ 16) (σ 16) (ix 0) (ix 0) (ix 60))) 17 (va_cpy (τ 17) (σ 17) (ix 0) (ix 0) (ix 60))) 18 (va_cpy (τ 18) (σ 18) (ix 0) (ix 0) (ix 60)) 28 (by decide))).trans (upr_ne (upr (up σ 15 0 (τ 15 0)) 16 (va_cpy (τ 16) (σ 16) (ix 0) (ix 0) (ix 60))) 17 (va_cpy (τ 17) (σ 17) (ix 0) (ix 0) (ix 60)) 28 (by decide))).trans (upr_ne (up σ 15 0 (τ 15 0)) 16 (va_cpy (τ 16) (σ 16) (ix 0) (ix 0) (ix 60)) 28 (by decide))).trans (up_ne σ 15 0 (τ 15 0) 28 (by decide))) (List.mem_cons_of_mem _ tb_764) (List.mem_cons_of_mem _ tb_260) (List.mem_cons_of_mem _ tb_259) (List.mem_cons_of_mem _ tb_55) (by decide +kernel) (by decide +kernel) (by decide +kernel) (by decide +kernel) (by decide +kernel) (Nat.le_of_ble_eq_true rfl) (Nat.le_of_ble_eq_true rfl) (wC cA h (upr (upr (upr (upr (upr (upr (upr (upr (upr (upr (upr (upr (upr (up σ 15 0 (τ 15 0)) 16 (va_cpy (τ 16) (σ 16) (ix 0) (ix 0) (ix 60))) 17 (va_cpy (τ 17) (σ 17) (ix 0) (ix 0) (ix 60))) 18 (va_cpy (τ 18) (σ 18) (ix 0) (ix 0) (ix 60))) 19 (va_cpy (τ 19) (σ 19) (ix 0) (ix 0) (ix 60))) 20 (va_cpy (τ 20) (σ 20) (ix 0) (ix 0) (ix 60))) 21 (va_cpy (τ 21) (σ 21) (ix 0) (ix 0) (ix 60))) 22 (va_cpy (τ 22) (σ 22) (ix 0) (ix 0) (ix 60))) 23 (va_cpy (τ 23) (σ 23) (ix 0) (ix 0) (ix 60))) 24 (va_cpy (τ 24) (σ 24) (ix 0) (ix 0) (ix 60))) 25 (va_cpy (τ 25) (σ 25) (ix 0) (ix 0) (ix 60))) 26 (va_cpy (τ 26) (σ 26) (ix 0) (ix 0) (ix 60))) 27 (va_cpy (τ 27) (σ 27) (ix 0) (ix 0) (ix 60))) 28 (va_cpy (τ 28) (σ 28) (ix 0) (ix 0) (ix 60))) ++ (wC cA t τ ++ F)) st_C_C2_28r dX7_copyFrom_200 (fun H locs hw => ?_)
  refine lv_aload_n hx hb dX7_copyFrom_203 rfl (lv_at hl 1 rfl) ?_
  refine q_get (C := RX7) (T := TX7) (N := 15) (ci := 7) E (fun w h => List.mem_cons_of_mem _ (inX7 w h)) hw 24 rfl rfl 13 (by decide) (List.mem_cons_of_mem _ tb_181) (v := .ref (t 29)) rfl dX7_copyFrom_204 ?_
  refine lv_iconst (v := 0) hx hb dX7_copyFrom_207 (by decide) ?_
  refine lv_aload_n hx hb dX7_copyFrom_208 rfl (lv_at hl 0 rfl) ?_
  refine q_get (C := RX7) (T := TX7) (N := 15) (ci := 7) E (fun w h => List.mem_cons_of_mem _ (inX7 w h)) hw 4 rfl rfl 13 (by decide) (List.mem_cons_of_mem _ tb_181) (v := .ref (h 29)) rfl dX7_copyFrom_209 ?_
  refine lv_iconst (v := 0) hx hb dX7_copyFrom_212 (by decide) ?_
  refine lv_bipush (v := 60) hx hb dX7_copyFrom_213 (by decide) ?_
  refine q_copy E hw hl 38 18 rfl rfl rfl ((((((((((((((upr_ne (upr (upr (upr (upr (upr (upr (upr (upr (upr (upr (upr (upr (up σ 15 0 (τ 15 0)) 16 (va_cpy (τ 16) (σ 16) (ix 0) (ix 0) (ix 60))) 17 (va_cpy (τ 17) (σ 17) (ix 0) (ix 0) (ix 60))) 18 (va_cpy (τ 18) (σ 18) (ix 0) (ix 0) (ix 60))) 19 (va_cpy (τ 19) (σ 19) (ix 0) (ix 0) (ix 60))) 20 (va_cpy (τ 20) (σ 20) (ix 0) (ix 0) (ix 60))) 21 (va_cpy (τ 21) (σ 21) (ix 0) (ix 0) (ix 60))) 22 (va_cpy (τ 22) (σ 22) (ix 0) (ix 0) (ix 60))) 23 (va_cpy (τ 23) (σ 23) (ix 0) (ix 0) (ix 60))) 24 (va_cpy (τ 24) (σ 24) (ix 0) (ix 0) (ix 60))) 25 (va_cpy (τ 25) (σ 25) (ix 0) (ix 0) (ix 60))) 26 (va_cpy (τ 26) (σ 26) (ix 0) (ix 0) (ix 60))) 27 (va_cpy (τ 27) (σ 27) (ix 0) (ix 0) (ix 60))) 28 (va_cpy (τ 28) (σ 28) (ix 0) (ix 0) (ix 60)) 29 (by decide)).trans (upr_ne (upr (upr (upr (upr (upr (upr (upr (upr (upr (upr (upr (up σ 15 0 (τ 15 0)) 16 (va_cpy (τ 16) (σ 16) (ix 0) (ix 0) (ix 60))) 17 (va_cpy (τ 17) (σ 17) (ix 0) (ix 0) (ix 60))) 18 (va_cpy (τ 18) (σ 18) (ix 0) (ix 0) (ix 60))) 19 (va_cpy (τ 19) (σ 19) (ix 0) (ix 0) (ix 60))) 20 (va_cpy (τ 20) (σ 20) (ix 0) (ix 0) (ix 60))) 21 (va_cpy (τ 21) (σ 21) (ix 0) (ix 0) (ix 60))) 22 (va_cpy (τ 22) (σ 22) (ix 0) (ix 0) (ix 60))) 23 (va_cpy (τ 23) (σ 23) (ix 0) (ix 0) (ix 60))) 24 (va_cpy (τ 24) (σ 24) (ix 0) (ix 0) (ix 60))) 25 (va_cpy (τ 25) (σ 25) (ix 0) (ix 0) (ix 60))) 26 (va_cpy (τ 26) (σ 26) (ix 0) (ix 0) (ix 60))) 27 (va_cpy (τ 27) (σ 27) (ix 0) (ix 0) (ix 60)) 29 (by decide))).trans (upr_ne (upr (upr (upr (upr (upr (upr (upr (upr (upr (upr (up σ 15 0 (τ 15 0)) 16 (va_cpy (τ 16) (σ 16) (ix 0) (ix 0) (ix 60))) 17 (va_cpy (τ 17) (σ 17) (ix 0) (ix 0) (ix 60))) 18 (va_cpy (τ 18) (σ 18) (ix 0) (ix 0) (ix 60))) 19 (va_cpy (τ 19) (σ 19) (ix 0) (ix 0) (ix 60))) 20 (va_cpy (τ 20) (σ 20) (ix 0) (ix 0) (ix 60))) 21 (va_cpy (τ 21) (σ 21) (ix 0) (ix 0) (ix 60))) 22 (va_cpy (τ 22) (σ 22) (ix 0) (ix 0) (ix 60))) 23 (va_cpy (τ 23) (σ 23) (ix 0) (ix 0) (ix 60))) 24 (va_cpy (τ 24) (σ 24) (ix 0) (ix 0) (ix 60))) 25 (va_cpy (τ 25) (σ 25) (ix 0) (ix 0) (ix 60))) 26 (va_cpy (τ 26) (σ 26) (ix 0) (ix 0) (ix 60)) 29 (by decide))).trans (upr_ne (upr (upr (upr (upr (upr (upr (upr (upr (upr (up σ 15 0 (τ 15 0)) 16 (va_cpy (τ 16) (σ 16) (ix 0) (ix 0) (ix 60))) 17 (va_cpy (τ 17) (σ 17) (ix 0) (ix 0) (ix 60))) 18 (va_cpy (τ 18) (σ 18) (ix 0) (ix 0) (ix 60))) 19 (va_cpy (τ 19) (σ 19) (ix 0) (ix 0) (ix 60))) 20 (va_cpy (τ 20) (σ 20) (ix 0) (ix 0) (ix 60))) 21 (va_cpy (τ 21) (σ 21) (ix 0) (ix 0) (ix 60))) 22 (va_cpy (τ 22) (σ 22) (ix 0) (ix 0) (ix 60))) 23 (va_cpy (τ 23) (σ 23) (ix 0) (ix 0) (ix 60))) 24 (va_cpy (τ 24) (σ 24) (ix 0) (ix 0) (ix 60))) 25 (va_cpy (τ 25) (σ 25) (ix 0) (ix 0) (ix 60)) 29 (by decide))).trans (upr_ne (upr (upr (upr (upr (upr (upr (upr (upr (up σ 15 0 (τ 15 0)) 16 (va_cpy (τ 16) (σ 16) (ix 0) (ix 0) (ix 60))) 17 (va_cpy (τ 17) (σ 17) (ix 0) (ix 0) (ix 60))) 18 (va_cpy (τ 18) (σ 18) (ix 0) (ix 0) (ix 60))) 19 (va_cpy (τ 19) (σ 19) (ix 0) (ix 0) (ix 60))) 20 (va_cpy (τ 20) (σ 20) (ix 0) (ix 0) (ix 60))) 21 (va_cpy (τ 21) (σ 21) (ix 0) (ix 0) (ix 60))) 22 (va_cpy (τ 22) (σ 22) (ix 0) (ix 0) (ix 60))) 23 (va_cpy (τ 23) (σ 23) (ix 0) (ix 0) (ix 60))) 24 (va_cpy (τ 24) (σ 24) (ix 0) (ix 0) (ix 60)) 29 (by decide))).trans (upr_ne (upr (upr (upr (upr (upr (upr (upr (up σ 15 0 (τ 15 0)) 16 (va_cpy (τ 16) (σ 16) (ix 0) (ix 0) (ix 60))) 17 (va_cpy (τ 17) (σ 17) (ix 0) (ix 0) (ix 60))) 18 (va_cpy (τ 18) (σ 18) (ix 0) (ix 0) (ix 60))) 19 (va_cpy (τ 19) (σ 19) (ix 0) (ix 0) (ix 60))) 20 (va_cpy (τ 20) (σ 20) (ix 0) (ix 0) (ix 60))) 21 (va_cpy (τ 21) (σ 21) (ix 0) (ix 0) (ix 60))) 22 (va_cpy (τ 22) (σ 22) (ix 0) (ix 0) (ix 60))) 23 (va_cpy (τ 23) (σ 23) (ix 0) (ix 0) (ix 60)) 29 (by decide))).trans (upr_ne (upr (upr (upr (upr (upr (upr (up σ 15 0 (τ 15 0)) 16 (va_cpy (τ 16) (σ 16) (ix 0) (ix 0) (ix 60))) 17 (va_cpy (τ 17) (σ 17) (ix 0) (ix 0) (ix 60))) 18 (va_cpy (τ 18) (σ 18) (ix 0) (ix 0) (ix 60))) 19 (va_cpy (τ 19) (σ 19) (ix 0) (ix 0) (ix 60))) 20 (va_cpy (τ 20) (σ 20) (ix 0) (ix 0) (ix 60))) 21 (va_cpy (τ 21) (σ 21) (ix 0) (ix 0) (ix 60))) 22 (va_cpy (τ 22) (σ 22) (ix 0) (ix 0) (ix 60)) 29 (by decide))).trans (upr_ne (upr (upr (upr (upr (upr (up σ 15 0 (τ 15 0)) 16 (va_cpy (τ 16) (σ 16) (ix 0) (ix 0) (ix 60))) 17 (va_cpy (τ 17) (σ 17) (ix 0) (ix 0) (ix 60))) 18 (va_cpy (τ 18) (σ 18) (ix 0) (ix 0) (ix 60))) 19 (va_cpy (τ 19) (σ 19) (ix 0) (ix 0) (ix 60))) 20 (va_cpy (τ 20) (σ 20) (ix 0) (ix 0) (ix 60))) 21 (va_cpy (τ 21) (σ 21) (ix 0) (ix 0) (ix 60)) 29 (by decide))).trans (upr_ne (upr (upr (upr (upr (up σ 15 0 (τ 15 0)) 16 (va_cpy (τ 16) (σ 16) (ix 0) (ix 0) (ix 60))) 17 (va_cpy (τ 17) (σ 17) (ix 0) (ix 0) (ix 60))) 18 (va_cpy (τ 18) (σ 18) (ix 0) (ix 0) (ix 60))) 19 (va_cpy (τ 19) (σ 19) (ix 0) (ix 0) (ix 60))) 20 (va_cpy (τ 20) (σ 20) (ix 0) (ix 0) (ix 60)) 29 (by decide))).trans (upr_ne (upr (upr (upr (up σ 15 0 (τ 15 0)) 16 (va_cpy (τ 16) (σ 16) (ix 0) (ix 0) (ix 60))) 17 (va_cpy (τ 17) (σ 17) (ix 0) (ix 0) (ix 60))) 18 (va_cpy (τ 18) (σ 18) (ix 0) (ix 0) (ix 60))) 19 (va_cpy (τ 19) (σ 19) (ix 0) (ix 0) (ix 60)) 29 (by decide))).trans (upr_ne (upr (upr (up σ 15 0 (τ 15 0)) 16 (va_cpy (τ 16) (σ 16) (ix 0) (ix 0) (ix 60))) 17 (va_cpy (τ 17) (σ 17) (ix 0) (ix 0) (ix 60))) 18 (va_cpy (τ 18) (σ 18) (ix 0) (ix 0) (ix 60)) 29 (by decide))).trans (upr_ne (upr (up σ 15 0 (τ 15 0)) 16 (va_cpy (τ 16) (σ 16) (ix 0) (ix 0) (ix 60))) 17 (va_cpy (τ 17) (σ 17) (ix 0) (ix 0) (ix 60)) 29 (by decide))).trans (upr_ne (up σ 15 0 (τ 15 0)) 16 (va_cpy (τ 16) (σ 16) (ix 0) (ix 0) (ix 60)) 29 (by decide))).trans (up_ne σ 15 0 (τ 15 0) 29 (by decide))) (List.mem_cons_of_mem _ tb_764) (List.mem_cons_of_mem _ tb_260) (List.mem_cons_of_mem _ tb_259) (List.mem_cons_of_mem _ tb_55) (by decide +kernel) (by decide +kernel) (by decide +kernel) (by decide +kernel) (by decide +kernel) (Nat.le_of_ble_eq_true rfl) (Nat.le_of_ble_eq_true rfl) (wC cA h (upr (upr (upr (upr (upr (upr (upr (upr (upr (upr (upr (upr (upr (upr (up σ 15 0 (τ 15 0)) 16 (va_cpy (τ 16) (σ 16) (ix 0) (ix 0) (ix 60))) 17 (va_cpy (τ 17) (σ 17) (ix 0) (ix 0) (ix 60))) 18 (va_cpy (τ 18) (σ 18) (ix 0) (ix 0) (ix 60))) 19 (va_cpy (τ 19) (σ 19) (ix 0) (ix 0) (ix 60))) 20 (va_cpy (τ 20) (σ 20) (ix 0) (ix 0) (ix 60))) 21 (va_cpy (τ 21) (σ 21) (ix 0) (ix 0) (ix 60))) 22 (va_cpy (τ 22) (σ 22) (ix 0) (ix 0) (ix 60))) 23 (va_cpy (τ 23) (σ 23) (ix 0) (ix 0) (ix 60))) 24 (va_cpy (τ 24) (σ 24) (ix 0) (ix 0) (ix 60))) 25 (va_cpy (τ 25) (σ 25) (ix 0) (ix 0) (ix 60))) 26 (va_cpy (τ 26) (σ 26) (ix 0) (ix 0) (ix 60))) 27 (va_cpy (τ 27) (σ 27) (ix 0) (ix 0) (ix 60))) 28 (va_cpy (τ 28) (σ 28) (ix 0) (ix 0) (ix 60))) 29 (va_cpy (τ 29) (σ 29) (ix 0) (ix 0) (ix 60))) ++ (wC cA t τ ++ F)) st_C_C2_29r dX7_copyFrom_215 (fun H locs hw => ?_)
  cases hM
  exact q_retv E hw dX7_copyFrom_218
set_option maxRecDepth 100000 in
set_option maxHeartbeats 4000000 in
theorem c_X4_copyFrom (l : Launch) (D : va_G) (cA : Nat → ClassId) (tS : Nat → Nat) (A : Nat → Prop) (h : Nat → Nat) (t : Nat → Nat) (L : Nat) (L2 : Nat) (F : va_W) (σ : Sg) (τ : Sg) (s0 : Sg) (hM : f_X4_copyFrom L L2 σ τ = some s0) : Ct l yX4_copyFrom (Cond.code yX4_copyFrom cX4_copyFrom 2 none :: bw) 1 53 D cA tS A [.ref (h 41), .ref (t 41)] (wLg cA h σ L ++ (wLg cA t τ L2 ++ F)) none (wLg cA h s0 L ++ (wLg cA t τ L2 ++ F)) := by
  refine ct_of (by decide +kernel) (Nat.le_of_ble_eq_true rfl) ?_
  intro p e s m below meth c E hw ls hl
  replace E : Ev p cX4_copyFrom 2 none RX4 (Cond.code yX4_copyFrom cX4_copyFrom 2 none :: bw) D cA tS A s m _ meth c := E
  replace hl : lv_has ls 2 [(0, .ref (h 41)), (1, .ref (t 41))] := hl
  have hx := E.1.1
  have hb := E.1.2.1
  unfold f_X4_copyFrom at hM
  refine lv_aload_n hx hb dX4_copyFrom_0 rfl (lv_at hl 0 rfl) ?_
  refine lv_aload_n hx hb dX4_copyFrom_1 rfl (lv_at hl 1 rfl) ?_
  refine q_get (C := RX4) (T := TX4) (N := 5) (ci := 4) E (fun w h => List.mem_cons_of_mem _ (inX4 w h)) hw 5 rfl rfl 4 (by decide) (List.mem_cons_of_mem _ tb_235) (v := .int (τ 7 0)) rfl dX4_copyFrom_2 ?_
  refine lv_aload_n hx hb dX4_copyFrom_5 rfl (lv_at hl 0 rfl) ?_
  refine q_get (C := RX4) (T := TX4) (N := 5) (ci := 4) E (fun w h => List.mem_cons_of_mem _ (inX4 w h)) hw 0 rfl rfl 0 (by decide) (List.mem_cons_of_mem _ tb_227) (v := .ref (h 8)) rfl dX4_copyFrom_6 ?_
  refine va_alen hx hb E.2.2.2.2.1 hw.1 1 0 rfl rfl (v := (Int32.ofNat L)) rfl dX4_copyFrom_9 ?_
  refine va_mmin hx hb (E.1.2.2.1.trans hl.1.symm) E.1.2.2.2.1 (E.1.2.2.2.2 _ (List.mem_cons_of_mem _ tb_769)) (E.1.2.2.2.2 _ (List.mem_cons_of_mem _ tb_510)) (E.1.2.2.2.2 _ (List.mem_cons_of_mem _ tb_54)) (E.1.2.2.2.2 _ (List.mem_cons_of_mem _ tb_511)) (Nat.le_of_ble_eq_true rfl) (Nat.le_of_ble_eq_true rfl) (Nat.zero_le _) (Nat.zero_le _) dX4_copyFrom_10 ?_
  refine q_puti (C := RX4) (T := TX4) (N := 5) (ci := 4) E (fun w h => List.mem_cons_of_mem _ (inX4 w h)) tyX4 tyX4_ok nmX4 hw 0 rfl rfl 4 (by decide) (List.mem_cons_of_mem _ tb_235) rfl rfl (Nat.le_of_ble_eq_true rfl) (wLg cA h (up σ 7 0 (if (Int32.ofNat L) < (τ 7 0) then (Int32.ofNat L) else (τ 7 0))) L ++ (wLg cA t τ L2 ++ F)) st_Lg_Lg2_7 dX4_copyFrom_13 (fun H locs hw => ?_)
  refine lv_aload_n hx hb dX4_copyFrom_16 rfl (lv_at hl 1 rfl) ?_
  refine q_get (C := RX4) (T := TX4) (N := 5) (ci := 4) E (fun w h => List.mem_cons_of_mem _ (inX4 w h)) hw 5 rfl rfl 0 (by decide) (List.mem_cons_of_mem _ tb_227) (v := .ref (t 8)) rfl dX4_copyFrom_17 ?_
  refine lv_iconst (v := 0) hx hb dX4_copyFrom_20 (by decide) ?_
  refine lv_aload_n hx hb dX4_copyFrom_21 rfl (lv_at hl 0 rfl) ?_
  refine q_get (C := RX4) (T := TX4) (N := 5) (ci := 4) E (fun w h => List.mem_cons_of_mem _ (inX4 w h)) hw 0 rfl rfl 0 (by decide) (List.mem_cons_of_mem _ tb_227) (v := .ref (h 8)) rfl dX4_copyFrom_22 ?_
  refine lv_iconst (v := 0) hx hb dX4_copyFrom_25 (by decide) ?_
  refine lv_aload_n hx hb dX4_copyFrom_26 rfl (lv_at hl 0 rfl) ?_
  refine q_get (C := RX4) (T := TX4) (N := 5) (ci := 4) E (fun w h => List.mem_cons_of_mem _ (inX4 w h)) hw 0 rfl rfl 4 (by decide) (List.mem_cons_of_mem _ tb_235) (v := .int (if (Int32.ofNat L) < (τ 7 0) then (Int32.ofNat L) else (τ 7 0))) (q_fld (up_at0 σ 7 (if (Int32.ofNat L) < (τ 7 0) then (Int32.ofNat L) else (τ 7 0))) rfl) dX4_copyFrom_27 ?_
  obtain ⟨g1, hM⟩ := g_some hM
  obtain ⟨g2, hM⟩ := g_some hM
  obtain ⟨g3, hM⟩ := g_some hM
  refine q_copy E hw hl 6 1 rfl rfl rfl (up_ne σ 7 0 (if (Int32.ofNat L) < (τ 7 0) then (Int32.ofNat L) else (τ 7 0)) 8 (by decide)) (List.mem_cons_of_mem _ tb_770) (List.mem_cons_of_mem _ tb_260) (List.mem_cons_of_mem _ tb_259) (List.mem_cons_of_mem _ tb_55) (by decide +kernel) (by decide +kernel) g1 g2 g3 (Nat.le_of_ble_eq_true rfl) (Nat.le_of_ble_eq_true rfl) (wLg cA h (upr (up σ 7 0 (if (Int32.ofNat L) < (τ 7 0) then (Int32.ofNat L) else (τ 7 0))) 8 (va_cpy (τ 8) (σ 8) (ix 0) (ix 0) (ix (if (Int32.ofNat L) < (τ 7 0) then (Int32.ofNat L) else (τ 7 0))))) L ++ (wLg cA t τ L2 ++ F)) st_Lg_Lg2_8r dX4_copyFrom_30 (fun H locs hw => ?_)
  refine lv_aload_n hx hb dX4_copyFrom_33 rfl (lv_at hl 1 rfl) ?_
  refine q_get (C := RX4) (T := TX4) (N := 5) (ci := 4) E (fun w h => List.mem_cons_of_mem _ (inX4 w h)) hw 5 rfl rfl 1 (by decide) (List.mem_cons_of_mem _ tb_229) (v := .ref (t 9)) rfl dX4_copyFrom_34 ?_
  refine lv_iconst (v := 0) hx hb dX4_copyFrom_37 (by decide) ?_
  refine lv_aload_n hx hb dX4_copyFrom_38 rfl (lv_at hl 0 rfl) ?_
  refine q_get (C := RX4) (T := TX4) (N := 5) (ci := 4) E (fun w h => List.mem_cons_of_mem _ (inX4 w h)) hw 0 rfl rfl 1 (by decide) (List.mem_cons_of_mem _ tb_229) (v := .ref (h 9)) rfl dX4_copyFrom_39 ?_
  refine lv_iconst (v := 0) hx hb dX4_copyFrom_42 (by decide) ?_
  refine lv_aload_n hx hb dX4_copyFrom_43 rfl (lv_at hl 0 rfl) ?_
  refine q_get (C := RX4) (T := TX4) (N := 5) (ci := 4) E (fun w h => List.mem_cons_of_mem _ (inX4 w h)) hw 0 rfl rfl 4 (by decide) (List.mem_cons_of_mem _ tb_235) (v := .int (if (Int32.ofNat L) < (τ 7 0) then (Int32.ofNat L) else (τ 7 0))) (q_fld ((congrFun (upr_ne (up σ 7 0 (if (Int32.ofNat L) < (τ 7 0) then (Int32.ofNat L) else (τ 7 0))) 8 (va_cpy (τ 8) (σ 8) (ix 0) (ix 0) (ix (if (Int32.ofNat L) < (τ 7 0) then (Int32.ofNat L) else (τ 7 0)))) 7 (by decide)) 0).trans (up_at0 σ 7 (if (Int32.ofNat L) < (τ 7 0) then (Int32.ofNat L) else (τ 7 0)))) rfl) dX4_copyFrom_44 ?_
  refine q_copy E hw hl 7 2 rfl rfl rfl ((upr_ne (up σ 7 0 (if (Int32.ofNat L) < (τ 7 0) then (Int32.ofNat L) else (τ 7 0))) 8 (va_cpy (τ 8) (σ 8) (ix 0) (ix 0) (ix (if (Int32.ofNat L) < (τ 7 0) then (Int32.ofNat L) else (τ 7 0)))) 9 (by decide)).trans (up_ne σ 7 0 (if (Int32.ofNat L) < (τ 7 0) then (Int32.ofNat L) else (τ 7 0)) 9 (by decide))) (List.mem_cons_of_mem _ tb_770) (List.mem_cons_of_mem _ tb_260) (List.mem_cons_of_mem _ tb_259) (List.mem_cons_of_mem _ tb_55) (by decide +kernel) (by decide +kernel) g1 g2 g3 (Nat.le_of_ble_eq_true rfl) (Nat.le_of_ble_eq_true rfl) (wLg cA h (upr (upr (up σ 7 0 (if (Int32.ofNat L) < (τ 7 0) then (Int32.ofNat L) else (τ 7 0))) 8 (va_cpy (τ 8) (σ 8) (ix 0) (ix 0) (ix (if (Int32.ofNat L) < (τ 7 0) then (Int32.ofNat L) else (τ 7 0))))) 9 (va_cpy (τ 9) (σ 9) (ix 0) (ix 0) (ix (if (Int32.ofNat L) < (τ 7 0) then (Int32.ofNat L) else (τ 7 0))))) L ++ (wLg cA t τ L2 ++ F)) st_Lg_Lg2_9r dX4_copyFrom_47 (fun H locs hw => ?_)
  refine lv_aload_n hx hb dX4_copyFrom_50 rfl (lv_at hl 1 rfl) ?_
  refine q_get (C := RX4) (T := TX4) (N := 5) (ci := 4) E (fun w h => List.mem_cons_of_mem _ (inX4 w h)) hw 5 rfl rfl 2 (by decide) (List.mem_cons_of_mem _ tb_231) (v := .ref (t 10)) rfl dX4_copyFrom_51 ?_
  refine lv_iconst (v := 0) hx hb dX4_copyFrom_54 (by decide) ?_
  refine lv_aload_n hx hb dX4_copyFrom_55 rfl (lv_at hl 0 rfl) ?_
  refine q_get (C := RX4) (T := TX4) (N := 5) (ci := 4) E (fun w h => List.mem_cons_of_mem _ (inX4 w h)) hw 0 rfl rfl 2 (by decide) (List.mem_cons_of_mem _ tb_231) (v := .ref (h 10)) rfl dX4_copyFrom_56 ?_
  refine lv_iconst (v := 0) hx hb dX4_copyFrom_59 (by decide) ?_
  refine lv_aload_n hx hb dX4_copyFrom_60 rfl (lv_at hl 0 rfl) ?_
  refine q_get (C := RX4) (T := TX4) (N := 5) (ci := 4) E (fun w h => List.mem_cons_of_mem _ (inX4 w h)) hw 0 rfl rfl 4 (by decide) (List.mem_cons_of_mem _ tb_235) (v := .int (if (Int32.ofNat L) < (τ 7 0) then (Int32.ofNat L) else (τ 7 0))) (q_fld ((congrFun ((upr_ne (upr (up σ 7 0 (if (Int32.ofNat L) < (τ 7 0) then (Int32.ofNat L) else (τ 7 0))) 8 (va_cpy (τ 8) (σ 8) (ix 0) (ix 0) (ix (if (Int32.ofNat L) < (τ 7 0) then (Int32.ofNat L) else (τ 7 0))))) 9 (va_cpy (τ 9) (σ 9) (ix 0) (ix 0) (ix (if (Int32.ofNat L) < (τ 7 0) then (Int32.ofNat L) else (τ 7 0)))) 7 (by decide)).trans (upr_ne (up σ 7 0 (if (Int32.ofNat L) < (τ 7 0) then (Int32.ofNat L) else (τ 7 0))) 8 (va_cpy (τ 8) (σ 8) (ix 0) (ix 0) (ix (if (Int32.ofNat L) < (τ 7 0) then (Int32.ofNat L) else (τ 7 0)))) 7 (by decide))) 0).trans (up_at0 σ 7 (if (Int32.ofNat L) < (τ 7 0) then (Int32.ofNat L) else (τ 7 0)))) rfl) dX4_copyFrom_61 ?_
  refine q_copy E hw hl 8 3 rfl rfl rfl (((upr_ne (upr (up σ 7 0 (if (Int32.ofNat L) < (τ 7 0) then (Int32.ofNat L) else (τ 7 0))) 8 (va_cpy (τ 8) (σ 8) (ix 0) (ix 0) (ix (if (Int32.ofNat L) < (τ 7 0) then (Int32.ofNat L) else (τ 7 0))))) 9 (va_cpy (τ 9) (σ 9) (ix 0) (ix 0) (ix (if (Int32.ofNat L) < (τ 7 0) then (Int32.ofNat L) else (τ 7 0)))) 10 (by decide)).trans (upr_ne (up σ 7 0 (if (Int32.ofNat L) < (τ 7 0) then (Int32.ofNat L) else (τ 7 0))) 8 (va_cpy (τ 8) (σ 8) (ix 0) (ix 0) (ix (if (Int32.ofNat L) < (τ 7 0) then (Int32.ofNat L) else (τ 7 0)))) 10 (by decide))).trans (up_ne σ 7 0 (if (Int32.ofNat L) < (τ 7 0) then (Int32.ofNat L) else (τ 7 0)) 10 (by decide))) (List.mem_cons_of_mem _ tb_770) (List.mem_cons_of_mem _ tb_260) (List.mem_cons_of_mem _ tb_259) (List.mem_cons_of_mem _ tb_55) (by decide +kernel) (by decide +kernel) g1 g2 g3 (Nat.le_of_ble_eq_true rfl) (Nat.le_of_ble_eq_true rfl) (wLg cA h (upr (upr (upr (up σ 7 0 (if (Int32.ofNat L) < (τ 7 0) then (Int32.ofNat L) else (τ 7 0))) 8 (va_cpy (τ 8) (σ 8) (ix 0) (ix 0) (ix (if (Int32.ofNat L) < (τ 7 0) then (Int32.ofNat L) else (τ 7 0))))) 9 (va_cpy (τ 9) (σ 9) (ix 0) (ix 0) (ix (if (Int32.ofNat L) < (τ 7 0) then (Int32.ofNat L) else (τ 7 0))))) 10 (va_cpy (τ 10) (σ 10) (ix 0) (ix 0) (ix (if (Int32.ofNat L) < (τ 7 0) then (Int32.ofNat L) else (τ 7 0))))) L ++ (wLg cA t τ L2 ++ F)) st_Lg_Lg2_10r dX4_copyFrom_64 (fun H locs hw => ?_)
  refine lv_aload_n hx hb dX4_copyFrom_67 rfl (lv_at hl 1 rfl) ?_
  refine q_get (C := RX4) (T := TX4) (N := 5) (ci := 4) E (fun w h => List.mem_cons_of_mem _ (inX4 w h)) hw 5 rfl rfl 3 (by decide) (List.mem_cons_of_mem _ tb_233) (v := .ref (t 11)) rfl dX4_copyFrom_68 ?_
  refine lv_iconst (v := 0) hx hb dX4_copyFrom_71 (by decide) ?_
  refine lv_aload_n hx hb dX4_copyFrom_72 rfl (lv_at hl 0 rfl) ?_
  refine q_get (C := RX4) (T := TX4) (N := 5) (ci := 4) E (fun w h => List.mem_cons_of_mem _ (inX4 w h)) hw 0 rfl rfl 3 (by decide) (List.mem_cons_of_mem _ tb_233) (v := .ref (h 11)) rfl dX4_copyFrom_73 ?_
  refine lv_iconst (v := 0) hx hb dX4_copyFrom_76 (by decide) ?_
  refine lv_aload_n hx hb dX4_copyFrom_77 rfl (lv_at hl 0 rfl) ?_
  refine q_get (C := RX4) (T := TX4) (N := 5) (ci := 4) E (fun w h => List.mem_cons_of_mem _ (inX4 w h)) hw 0 rfl rfl 4 (by decide) (List.mem_cons_of_mem _ tb_235) (v := .int (if (Int32.ofNat L) < (τ 7 0) then (Int32.ofNat L) else (τ 7 0))) (q_fld ((congrFun (((upr_ne (upr (upr (up σ 7 0 (if (Int32.ofNat L) < (τ 7 0) then (Int32.ofNat L) else (τ 7 0))) 8 (va_cpy (τ 8) (σ 8) (ix 0) (ix 0) (ix (if (Int32.ofNat L) < (τ 7 0) then (Int32.ofNat L) else (τ 7 0))))) 9 (va_cpy (τ 9) (σ 9) (ix 0) (ix 0) (ix (if (Int32.ofNat L) < (τ 7 0) then (Int32.ofNat L) else (τ 7 0))))) 10 (va_cpy (τ 10) (σ 10) (ix 0) (ix 0) (ix (if (Int32.ofNat L) < (τ 7 0) then (Int32.ofNat L) else (τ 7 0)))) 7 (by decide)).trans (upr_ne (upr (up σ 7 0 (if (Int32.ofNat L) < (τ 7 0) then (Int32.ofNat L) else (τ 7 0))) 8 (va_cpy (τ 8) (σ 8) (ix 0) (ix 0) (ix (if (Int32.ofNat L) < (τ 7 0) then (Int32.ofNat L) else (τ 7 0))))) 9 (va_cpy (τ 9) (σ 9) (ix 0) (ix 0) (ix (if (Int32.ofNat L) < (τ 7 0) then (Int32.ofNat L) else (τ 7 0)))) 7 (by decide))).trans (upr_ne (up σ 7 0 (if (Int32.ofNat L) < (τ 7 0) then (Int32.ofNat L) else (τ 7 0))) 8 (va_cpy (τ 8) (σ 8) (ix 0) (ix 0) (ix (if (Int32.ofNat L) < (τ 7 0) then (Int32.ofNat L) else (τ 7 0)))) 7 (by decide))) 0).trans (up_at0 σ 7 (if (Int32.ofNat L) < (τ 7 0) then (Int32.ofNat L) else (τ 7 0)))) rfl) dX4_copyFrom_78 ?_
  refine q_copy E hw hl 9 4 rfl rfl rfl ((((upr_ne (upr (upr (up σ 7 0 (if (Int32.ofNat L) < (τ 7 0) then (Int32.ofNat L) else (τ 7 0))) 8 (va_cpy (τ 8) (σ 8) (ix 0) (ix 0) (ix (if (Int32.ofNat L) < (τ 7 0) then (Int32.ofNat L) else (τ 7 0))))) 9 (va_cpy (τ 9) (σ 9) (ix 0) (ix 0) (ix (if (Int32.ofNat L) < (τ 7 0) then (Int32.ofNat L) else (τ 7 0))))) 10 (va_cpy (τ 10) (σ 10) (ix 0) (ix 0) (ix (if (Int32.ofNat L) < (τ 7 0) then (Int32.ofNat L) else (τ 7 0)))) 11 (by decide)).trans (upr_ne (upr (up σ 7 0 (if (Int32.ofNat L) < (τ 7 0) then (Int32.ofNat L) else (τ 7 0))) 8 (va_cpy (τ 8) (σ 8) (ix 0) (ix 0) (ix (if (Int32.ofNat L) < (τ 7 0) then (Int32.ofNat L) else (τ 7 0))))) 9 (va_cpy (τ 9) (σ 9) (ix 0) (ix 0) (ix (if (Int32.ofNat L) < (τ 7 0) then (Int32.ofNat L) else (τ 7 0)))) 11 (by decide))).trans (upr_ne (up σ 7 0 (if (Int32.ofNat L) < (τ 7 0) then (Int32.ofNat L) else (τ 7 0))) 8 (va_cpy (τ 8) (σ 8) (ix 0) (ix 0) (ix (if (Int32.ofNat L) < (τ 7 0) then (Int32.ofNat L) else (τ 7 0)))) 11 (by decide))).trans (up_ne σ 7 0 (if (Int32.ofNat L) < (τ 7 0) then (Int32.ofNat L) else (τ 7 0)) 11 (by decide))) (List.mem_cons_of_mem _ tb_770) (List.mem_cons_of_mem _ tb_260) (List.mem_cons_of_mem _ tb_259) (List.mem_cons_of_mem _ tb_55) (by decide +kernel) (by decide +kernel) g1 g2 g3 (Nat.le_of_ble_eq_true rfl) (Nat.le_of_ble_eq_true rfl) (wLg cA h (upr (upr (upr (upr (up σ 7 0 (if (Int32.ofNat L) < (τ 7 0) then (Int32.ofNat L) else (τ 7 0))) 8 (va_cpy (τ 8) (σ 8) (ix 0) (ix 0) (ix (if (Int32.ofNat L) < (τ 7 0) then (Int32.ofNat L) else (τ 7 0))))) 9 (va_cpy (τ 9) (σ 9) (ix 0) (ix 0) (ix (if (Int32.ofNat L) < (τ 7 0) then (Int32.ofNat L) else (τ 7 0))))) 10 (va_cpy (τ 10) (σ 10) (ix 0) (ix 0) (ix (if (Int32.ofNat L) < (τ 7 0) then (Int32.ofNat L) else (τ 7 0))))) 11 (va_cpy (τ 11) (σ 11) (ix 0) (ix 0) (ix (if (Int32.ofNat L) < (τ 7 0) then (Int32.ofNat L) else (τ 7 0))))) L ++ (wLg cA t τ L2 ++ F)) st_Lg_Lg2_11r dX4_copyFrom_81 (fun H locs hw => ?_)
  cases hM
  exact q_retv E hw dX4_copyFrom_84
set_option maxRecDepth 100000 in
set_option maxHeartbeats 4000000 in
theorem c_X1_copyFrom (l : Launch) (D : va_G) (cA : Nat → ClassId) (tS : Nat → Nat) (A : Nat → Prop) (h : Nat → Nat) (t : Nat → Nat) (L : Nat) (L2 : Nat) (F : va_W) (N : Nat) (σ : Sg) (τ : Sg) (s0 : Sg) (hM : f_X1_copyFrom N L L2 σ τ = some s0) : Ct l yX1_copyFrom (Cond.code yX1_copyFrom cX1_copyFrom 2 none :: bw) 2 74 D cA tS A [.ref (h 42), .ref (t 42)] (wK cA h σ ++ (wLg cA h σ L ++ (wC cA h σ ++ (wK cA t τ ++ (wLg cA t τ L2 ++ (wC cA t τ ++ F)))))) none (wK cA h s0 ++ (wLg cA h s0 L ++ (wC cA h s0 ++ (wK cA t τ ++ (wLg cA t τ L2 ++ (wC cA t τ ++ F)))))) := by
  refine ct_of (by decide +kernel) (Nat.le_of_ble_eq_true rfl) ?_
  intro p e s m below meth c E hw ls hl
  replace E : Ev p cX1_copyFrom 2 none RX1 (Cond.code yX1_copyFrom cX1_copyFrom 2 none :: bw) D cA tS A s m _ meth c := E
  replace hl : lv_has ls 2 [(0, .ref (h 42)), (1, .ref (t 42))] := hl
  have hx := E.1.1
  have hb := E.1.2.1
  unfold f_X1_copyFrom at hM
  refine lv_aload_n hx hb dX1_copyFrom_0 rfl (lv_at hl 0 rfl) ?_
  refine lv_aload_n hx hb dX1_copyFrom_1 rfl (lv_at hl 1 rfl) ?_
  refine q_get (C := RX1) (T := TX1) (N := 6) (ci := 1) E (fun w h => List.mem_cons_of_mem _ (inX1 w h)) hw 44 rfl rfl 5 (by decide) (List.mem_cons_of_mem _ tb_276) (v := .int (τ 12 0)) rfl dX1_copyFrom_2 ?_
  refine q_puti (C := RX1) (T := TX1) (N := 6) (ci := 1) E (fun w h => List.mem_cons_of_mem _ (inX1 w h)) tyX1 tyX1_ok nmX1 hw 12 rfl rfl 5 (by decide) (List.mem_cons_of_mem _ tb_276) rfl rfl (Nat.le_of_ble_eq_true rfl) (wK cA h (up σ 12 0 (τ 12 0)) ++ (wLg cA h (up σ 12 0 (τ 12 0)) L ++ (wC cA h (up σ 12 0 (τ 12 0)) ++ (wK cA t τ ++ (wLg cA t τ L2 ++ (wC cA t τ ++ F)))))) st_K_Lg_C_K2_Lg2_C2_12 dX1_copyFrom_5 (fun H locs hw => ?_)
  refine lv_aload_n hx hb dX1_copyFrom_8 rfl (lv_at hl 0 rfl) ?_
  refine q_get (C := RX1) (T := TX1) (N := 6) (ci := 1) E (fun w h => List.mem_cons_of_mem _ (inX1 w h)) hw 12 rfl rfl 0 (by decide) (List.mem_cons_of_mem _ tb_266) (v := .ref (h 43)) rfl dX1_copyFrom_9 ?_
  refine lv_aload_n hx hb dX1_copyFrom_12 rfl (lv_at hl 1 rfl) ?_
  refine q_get (C := RX1) (T := TX1) (N := 6) (ci := 1) E (fun w h => List.mem_cons_of_mem _ (inX1 w h)) hw 44 rfl rfl 0 (by decide) (List.mem_cons_of_mem _ tb_266) (v := .ref (t 43)) rfl dX1_copyFrom_13 ?_
  have hw : Wd D A (wC cA h (up σ 12 0 (τ 12 0)) ++ (wK cA h (up σ 12 0 (τ 12 0)) ++ (wLg cA h (up σ 12 0 (τ 12 0)) L ++ (wK cA t τ ++ (wLg cA t τ L2 ++ (wC cA t τ ++ F)))))) s.heap _ _ := hw.perm (((List.Perm.append_left _ (List.perm_append_comm_assoc _ _ _))).trans (List.perm_append_comm_assoc _ _ _))
  have hw : Wd D A (wC cA h (up σ 12 0 (τ 12 0)) ++ (wC cA t τ ++ (wK cA h (up σ 12 0 (τ 12 0)) ++ (wLg cA h (up σ 12 0 (τ 12 0)) L ++ (wK cA t τ ++ (wLg cA t τ L2 ++ F)))))) s.heap _ _ := hw.perm (List.Perm.append_left _ (((List.Perm.append_left _ (((List.Perm.append_left _ (((List.Perm.append_left _ (List.perm_append_comm_assoc _ _ _))).trans (List.perm_append_comm_assoc _ _ _)))).trans (List.perm_append_comm_assoc _ _ _)))).trans (List.perm_append_comm_assoc _ _ _)))
  obtain ⟨p1, h2, hM⟩ := b_some hM
  refine q_cvv (As := [.ref (t 43)]) (rest := []) E hw hl (c_X0_copyFrom l D cA tS A h t (wK cA h (up σ 12 0 (τ 12 0)) ++ (wLg cA h (up σ 12 0 (τ 12 0)) L ++ (wK cA t τ ++ (wLg cA t τ L2 ++ F)))) (up σ 12 0 (τ 12 0)) τ p1 h2) 1 (bwV bw_c tb_751 tb_752 tb_753 tb_50 tb_754) rfl (by decide +kernel) ⟨Nat.le_of_ble_eq_true rfl, Nat.le_of_ble_eq_true rfl⟩ 1 0 (T := TX0) (N := 2) rfl rfl rfl rfl (Nat.le_of_ble_eq_true rfl) ⟨Nat.zero_le _, Nat.zero_le _⟩ dX1_copyFrom_16 (fun H locs hw => ?_)
  have hw : Wd D A (wC cA h (mixC p1 (up σ 12 0 (τ 12 0))) ++ (wC cA t τ ++ (wK cA h (mixC p1 (up σ 12 0 (τ 12 0))) ++ (wLg cA h (mixC p1 (up σ 12 0 (τ 12 0))) L ++ (wK cA t τ ++ (wLg cA t τ L2 ++ F)))))) s.heap _ _ := hw
  refine lv_aload_n hx hb dX1_copyFrom_19 rfl (lv_at hl 0 rfl) ?_
  refine q_get (C := RX1) (T := TX1) (N := 6) (ci := 1) E (fun w h => List.mem_cons_of_mem _ (inX1 w h)) hw 0 rfl rfl 1 (by decide) (List.mem_cons_of_mem _ tb_268) (v := .ref (h 40)) rfl dX1_copyFrom_20 ?_
  refine lv_aload_n hx hb dX1_copyFrom_23 rfl (lv_at hl 1 rfl) ?_
  refine q_get (C := RX1) (T := TX1) (N := 6) (ci := 1) E (fun w h => List.mem_cons_of_mem _ (inX1 w h)) hw 20 rfl rfl 1 (by decide) (List.mem_cons_of_mem _ tb_268) (v := .ref (t 40)) rfl dX1_copyFrom_24 ?_
  have hw : Wd D A (wK cA h (mixC p1 (up σ 12 0 (τ 12 0))) ++ (wC cA h (mixC p1 (up σ 12 0 (τ 12 0))) ++ (wC cA t τ ++ (wLg cA h (mixC p1 (up σ 12 0 (τ 12 0))) L ++ (wK cA t τ ++ (wLg cA t τ L2 ++ F)))))) s.heap _ _ := hw.perm (((List.Perm.append_left _ (List.perm_append_comm_assoc _ _ _))).trans (List.perm_append_comm_assoc _ _ _))
  have hw : Wd D A (wK cA h (mixC p1 (up σ 12 0 (τ 12 0))) ++ (wK cA t τ ++ (wC cA h (mixC p1 (up σ 12 0 (τ 12 0))) ++ (wC cA t τ ++ (wLg cA h (mixC p1 (up σ 12 0 (τ 12 0))) L ++ (wLg cA t τ L2 ++ F)))))) s.heap _ _ := hw.perm (List.Perm.append_left _ (((List.Perm.append_left _ (((List.Perm.append_left _ (List.perm_append_comm_assoc _ _ _))).trans (List.perm_append_comm_assoc _ _ _)))).trans (List.perm_append_comm_assoc _ _ _)))
  obtain ⟨p3, h4, hM⟩ := b_some hM
  refine q_cvv (As := [.ref (t 40)]) (rest := []) E hw hl (c_X3_copyFrom l D cA tS A h t (wC cA h (mixC p1 (up σ 12 0 (τ 12 0))) ++ (wC cA t τ ++ (wLg cA h (mixC p1 (up σ 12 0 (τ 12 0))) L ++ (wLg cA t τ L2 ++ F)))) N (mixC p1 (up σ 12 0 (τ 12 0))) τ p3 h4) 1 (bwV bw_c tb_755 tb_756 tb_757 tb_51 tb_758) rfl (by decide +kernel) ⟨Nat.le_of_ble_eq_true rfl, Nat.le_of_ble_eq_true rfl⟩ 0 3 (T := TX3) (N := 7) rfl rfl rfl rfl (Nat.le_of_ble_eq_true rfl) ⟨Nat.zero_le _, Nat.zero_le _⟩ dX1_copyFrom_27 (fun H locs hw => ?_)
  have hw : Wd D A (wK cA h (mixK p3 (mixC p1 (up σ 12 0 (τ 12 0)))) ++ (wK cA t τ ++ (wC cA h (mixK p3 (mixC p1 (up σ 12 0 (τ 12 0)))) ++ (wC cA t τ ++ (wLg cA h (mixK p3 (mixC p1 (up σ 12 0 (τ 12 0)))) L ++ (wLg cA t τ L2 ++ F)))))) s.heap _ _ := hw
  refine lv_aload_n hx hb dX1_copyFrom_30 rfl (lv_at hl 1 rfl) ?_
  refine q_get (C := RX1) (T := TX1) (N := 6) (ci := 1) E (fun w h => List.mem_cons_of_mem _ (inX1 w h)) hw 34 rfl rfl 2 (by decide) (List.mem_cons_of_mem _ tb_270) (v := .ref (t 30)) rfl dX1_copyFrom_31 ?_
  refine lv_iconst (v := 0) hx hb dX1_copyFrom_34 (by decide) ?_
  refine lv_aload_n hx hb dX1_copyFrom_35 rfl (lv_at hl 0 rfl) ?_
  refine q_get (C := RX1) (T := TX1) (N := 6) (ci := 1) E (fun w h => List.mem_cons_of_mem _ (inX1 w h)) hw 14 rfl rfl 2 (by decide) (List.mem_cons_of_mem _ tb_270) (v := .ref (h 30)) rfl dX1_copyFrom_36 ?_
  refine lv_iconst (v := 0) hx hb dX1_copyFrom_39 (by decide) ?_
  refine lv_iconst (v := 4) hx hb dX1_copyFrom_40 (by decide) ?_
  refine q_copy E hw hl 53 33 rfl rfl rfl rfl (List.mem_cons_of_mem _ tb_759) (List.mem_cons_of_mem _ tb_260) (List.mem_cons_of_mem _ tb_259) (List.mem_cons_of_mem _ tb_55) (by decide +kernel) (by decide +kernel) (by decide +kernel) (by decide +kernel) (by decide +kernel) (Nat.le_of_ble_eq_true rfl) (Nat.le_of_ble_eq_true rfl) (wK cA h (upr (mixK p3 (mixC p1 (up σ 12 0 (τ 12 0)))) 30 (va_cpy (τ 30) ((mixK p3 (mixC p1 (up σ 12 0 (τ 12 0)))) 30) (ix 0) (ix 0) (ix 4))) ++ (wK cA t τ ++ (wC cA h (upr (mixK p3 (mixC p1 (up σ 12 0 (τ 12 0)))) 30 (va_cpy (τ 30) ((mixK p3 (mixC p1 (up σ 12 0 (τ 12 0)))) 30) (ix 0) (ix 0) (ix 4))) ++ (wC cA t τ ++ (wLg cA h (upr (mixK p3 (mixC p1 (up σ 12 0 (τ 12 0)))) 30 (va_cpy (τ 30) ((mixK p3 (mixC p1 (up σ 12 0 (τ 12 0)))) 30) (ix 0) (ix 0) (ix 4))) L ++ (wLg cA t τ L2 ++ F)))))) st_K_K2_C_C2_Lg_Lg2_30r dX1_copyFrom_41 (fun H locs hw => ?_)
  refine lv_aload_n hx hb dX1_copyFrom_44 rfl (lv_at hl 0 rfl) ?_
  refine q_get (C := RX1) (T := TX1) (N := 6) (ci := 1) E (fun w h => List.mem_cons_of_mem _ (inX1 w h)) hw 14 rfl rfl 3 (by decide) (List.mem_cons_of_mem _ tb_272) (v := .ref (h 44)) rfl dX1_copyFrom_45 ?_
  refine lv_aload_n hx hb dX1_copyFrom_48 rfl (lv_at hl 1 rfl) ?_
  refine q_get (C := RX1) (T := TX1) (N := 6) (ci := 1) E (fun w h => List.mem_cons_of_mem _ (inX1 w h)) hw 34 rfl rfl 3 (by decide) (List.mem_cons_of_mem _ tb_272) (v := .ref (t 44)) rfl dX1_copyFrom_49 ?_
  have hw : Wd D A (wC cA h (upr (mixK p3 (mixC p1 (up σ 12 0 (τ 12 0)))) 30 (va_cpy (τ 30) ((mixK p3 (mixC p1 (up σ 12 0 (τ 12 0)))) 30) (ix 0) (ix 0) (ix 4))) ++ (wK cA h (upr (mixK p3 (mixC p1 (up σ 12 0 (τ 12 0)))) 30 (va_cpy (τ 30) ((mixK p3 (mixC p1 (up σ 12 0 (τ 12 0)))) 30) (ix 0) (ix 0) (ix 4))) ++ (wK cA t τ ++ (wC cA t τ ++ (wLg cA h (upr (mixK p3 (mixC p1 (up σ 12 0 (τ 12 0)))) 30 (va_cpy (τ 30) ((mixK p3 (mixC p1 (up σ 12 0 (τ 12 0)))) 30) (ix 0) (ix 0) (ix 4))) L ++ (wLg cA t τ L2 ++ F)))))) s.heap _ _ := hw.perm (((List.Perm.append_left _ (List.perm_append_comm_assoc _ _ _))).trans (List.perm_append_comm_assoc _ _ _))
  have hw : Wd D A (wC cA h (upr (mixK p3 (mixC p1 (up σ 12 0 (τ 12 0)))) 30 (va_cpy (τ 30) ((mixK p3 (mixC p1 (up σ 12 0 (τ 12 0)))) 30) (ix 0) (ix 0) (ix 4))) ++ (wC cA t τ ++ (wK cA h (upr (mixK p3 (mixC p1 (up σ 12 0 (τ 12 0)))) 30 (va_cpy (τ 30) ((mixK p3 (mixC p1 (up σ 12 0 (τ 12 0)))) 30) (ix 0) (ix 0) (ix 4))) ++ (wK cA t τ ++ (wLg cA h (upr (mixK p3 (mixC p1 (up σ 12 0 (τ 12 0)))) 30 (va_cpy (τ 30) ((mixK p3 (mixC p1 (up σ 12 0 (τ 12 0)))) 30) (ix 0) (ix 0) (ix 4))) L ++ (wLg cA t τ L2 ++ F)))))) s.heap _ _ := hw.perm (List.Perm.append_left _ (((List.Perm.append_left _ (List.perm_append_comm_assoc _ _ _))).trans (List.perm_append_comm_assoc _ _ _)))
  obtain ⟨p5, h6, hM⟩ := b_some hM
  refine q_cvv (As := [.ref (t 44)]) (rest := []) E hw hl (c_X7_copyFrom l D cA tS A h t (wK cA h (upr (mixK p3 (mixC p1 (up σ 12 0 (τ 12 0)))) 30 (va_cpy (τ 30) ((mixK p3 (mixC p1 (up σ 12 0 (τ 12 0)))) 30) (ix 0) (ix 0) (ix 4))) ++ (wK cA t τ ++ (wLg cA h (upr (mixK p3 (mixC p1 (up σ 12 0 (τ 12 0)))) 30 (va_cpy (τ 30) ((mixK p3 (mixC p1 (up σ 12 0 (τ 12 0)))) 30) (ix 0) (ix 0) (ix 4))) L ++ (wLg cA t τ L2 ++ F)))) (upr (mixK p3 (mixC p1 (up σ 12 0 (τ 12 0)))) 30 (va_cpy (τ 30) ((mixK p3 (mixC p1 (up σ 12 0 (τ 12 0)))) 30) (ix 0) (ix 0) (ix 4))) τ p5 h6) 1 (bwV bw_c tb_760 tb_761 tb_762 tb_52 tb_763) rfl (by decide +kernel) ⟨Nat.le_of_ble_eq_true rfl, Nat.le_of_ble_eq_true rfl⟩ 4 7 (T := TX7) (N := 15) rfl rfl rfl rfl (Nat.le_of_ble_eq_true rfl) ⟨Nat.zero_le _, Nat.zero_le _⟩ dX1_copyFrom_52 (fun H locs hw => ?_)
  have hw : Wd D A (wC cA h (mixC p5 (upr (mixK p3 (mixC p1 (up σ 12 0 (τ 12 0)))) 30 (va_cpy (τ 30) ((mixK p3 (mixC p1 (up σ 12 0 (τ 12 0)))) 30) (ix 0) (ix 0) (ix 4)))) ++ (wC cA t τ ++ (wK cA h (mixC p5 (upr (mixK p3 (mixC p1 (up σ 12 0 (τ 12 0)))) 30 (va_cpy (τ 30) ((mixK p3 (mixC p1 (up σ 12 0 (τ 12 0)))) 30) (ix 0) (ix 0) (ix 4)))) ++ (wK cA t τ ++ (wLg cA h (mixC p5 (upr (mixK p3 (mixC p1 (up σ 12 0 (τ 12 0)))) 30 (va_cpy (τ 30) ((mixK p3 (mixC p1 (up σ 12 0 (τ 12 0)))) 30) (ix 0) (ix 0) (ix 4)))) L ++ (wLg cA t τ L2 ++ F)))))) s.heap _ _ := hw
  refine lv_aload_n hx hb dX1_copyFrom_55 rfl (lv_at hl 0 rfl) ?_
  refine q_get (C := RX1) (T := TX1) (N := 6) (ci := 1) E (fun w h => List.mem_cons_of_mem _ (inX1 w h)) hw 0 rfl rfl 4 (by decide) (List.mem_cons_of_mem _ tb_274) (v := .ref (h 41)) rfl dX1_copyFrom_56 ?_
  refine lv_aload_n hx hb dX1_copyFrom_59 rfl (lv_at hl 1 rfl) ?_
  refine q_get (C := RX1) (T := TX1) (N := 6) (ci := 1) E (fun w h => List.mem_cons_of_mem _ (inX1 w h)) hw 20 rfl rfl 4 (by decide) (List.mem_cons_of_mem _ tb_274) (v := .ref (t 41)) rfl dX1_copyFrom_60 ?_
  have hw : Wd D A (wLg cA h (mixC p5 (upr (mixK p3 (mixC p1 (up σ 12 0 (τ 12 0)))) 30 (va_cpy (τ 30) ((mixK p3 (mixC p1 (up σ 12 0 (τ 12 0)))) 30) (ix 0) (ix 0) (ix 4)))) L ++ (wC cA h (mixC p5 (upr (mixK p3 (mixC p1 (up σ 12 0 (τ 12 0)))) 30 (va_cpy (τ 30) ((mixK p3 (mixC p1 (up σ 12 0 (τ 12 0)))) 30) (ix 0) (ix 0) (ix 4)))) ++ (wC cA t τ ++ (wK cA h (mixC p5 (upr (mixK p3 (mixC p1 (up σ 12 0 (τ 12 0)))) 30 (va_cpy (τ 30) ((mixK p3 (mixC p1 (up σ 12 0 (τ 12 0)))) 30) (ix 0) (ix 0) (ix 4)))) ++ (wK cA t τ ++ (wLg cA t τ L2 ++ F)))))) s.heap _ _ := hw.perm (((List.Perm.append_left _ (((List.Perm.append_left _ (((List.Perm.append_left _ (List.perm_append_comm_assoc _ _ _))).trans (List.perm_append_comm_assoc _ _ _)))).trans (List.perm_append_comm_assoc _ _ _)))).trans (List.perm_append_comm_assoc _ _ _))
  have hw : Wd D A (wLg cA h (mixC p5 (upr (mixK p3 (mixC p1 (up σ 12 0 (τ 12 0)))) 30 (va_cpy (τ 30) ((mixK p3 (mixC p1 (up σ 12 0 (τ 12 0)))) 30) (ix 0) (ix 0) (ix 4)))) L ++ (wLg cA t τ L2 ++ (wC cA h (mixC p5 (upr (mixK p3 (mixC p1 (up σ 12 0 (τ 12 0)))) 30 (va_cpy (τ 30) ((mixK p3 (mixC p1 (up σ 12 0 (τ 12 0)))) 30) (ix 0) (ix 0) (ix 4)))) ++ (wC cA t τ ++ (wK cA h (mixC p5 (upr (mixK p3 (mixC p1 (up σ 12 0 (τ 12 0)))) 30 (va_cpy (τ 30) ((mixK p3 (mixC p1 (up σ 12 0 (τ 12 0)))) 30) (ix 0) (ix 0) (ix 4)))) ++ (wK cA t τ ++ F)))))) s.heap _ _ := hw.perm (List.Perm.append_left _ (((List.Perm.append_left _ (((List.Perm.append_left _ (((List.Perm.append_left _ (List.perm_append_comm_assoc _ _ _))).trans (List.perm_append_comm_assoc _ _ _)))).trans (List.perm_append_comm_assoc _ _ _)))).trans (List.perm_append_comm_assoc _ _ _)))
  obtain ⟨p7, h8, hM⟩ := b_some hM
  refine q_cvv (As := [.ref (t 41)]) (rest := []) E hw hl (c_X4_copyFrom l D cA tS A h t L L2 (wC cA h (mixC p5 (upr (mixK p3 (mixC p1 (up σ 12 0 (τ 12 0)))) 30 (va_cpy (τ 30) ((mixK p3 (mixC p1 (up σ 12 0 (τ 12 0)))) 30) (ix 0) (ix 0) (ix 4)))) ++ (wC cA t τ ++ (wK cA h (mixC p5 (upr (mixK p3 (mixC p1 (up σ 12 0 (τ 12 0)))) 30 (va_cpy (τ 30) ((mixK p3 (mixC p1 (up σ 12 0 (τ 12 0)))) 30) (ix 0) (ix 0) (ix 4)))) ++ (wK cA t τ ++ F)))) (mixC p5 (upr (mixK p3 (mixC p1 (up σ 12 0 (τ 12 0)))) 30 (va_cpy (τ 30) ((mixK p3 (mixC p1 (up σ 12 0 (τ 12 0)))) 30) (ix 0) (ix 0) (ix 4)))) τ p7 h8) 1 (bwV bw_c tb_765 tb_766 tb_767 tb_53 tb_768) rfl (by decide +kernel) ⟨Nat.le_of_ble_eq_true rfl, Nat.le_of_ble_eq_true rfl⟩ 0 4 (T := TX4) (N := 5) rfl rfl rfl rfl (Nat.le_of_ble_eq_true rfl) ⟨Nat.zero_le _, Nat.zero_le _⟩ dX1_copyFrom_63 (fun H locs hw => ?_)
  have hw : Wd D A (wLg cA h (mixLg p7 (mixC p5 (upr (mixK p3 (mixC p1 (up σ 12 0 (τ 12 0)))) 30 (va_cpy (τ 30) ((mixK p3 (mixC p1 (up σ 12 0 (τ 12 0)))) 30) (ix 0) (ix 0) (ix 4))))) L ++ (wLg cA t τ L2 ++ (wC cA h (mixLg p7 (mixC p5 (upr (mixK p3 (mixC p1 (up σ 12 0 (τ 12 0)))) 30 (va_cpy (τ 30) ((mixK p3 (mixC p1 (up σ 12 0 (τ 12 0)))) 30) (ix 0) (ix 0) (ix 4))))) ++ (wC cA t τ ++ (wK cA h (mixLg p7 (mixC p5 (upr (mixK p3 (mixC p1 (up σ 12 0 (τ 12 0)))) 30 (va_cpy (τ 30) ((mixK p3 (mixC p1 (up σ 12 0 (τ 12 0)))) 30) (ix 0) (ix 0) (ix 4))))) ++ (wK cA t τ ++ F)))))) s.heap _ _ := hw
  have hw : Wd D A (wK cA h (mixLg p7 (mixC p5 (upr (mixK p3 (mixC p1 (up σ 12 0 (τ 12 0)))) 30 (va_cpy (τ 30) ((mixK p3 (mixC p1 (up σ 12 0 (τ 12 0)))) 30) (ix 0) (ix 0) (ix 4))))) ++ (wLg cA h (mixLg p7 (mixC p5 (upr (mixK p3 (mixC p1 (up σ 12 0 (τ 12 0)))) 30 (va_cpy (τ 30) ((mixK p3 (mixC p1 (up σ 12 0 (τ 12 0)))) 30) (ix 0) (ix 0) (ix 4))))) L ++ (wLg cA t τ L2 ++ (wC cA h (mixLg p7 (mixC p5 (upr (mixK p3 (mixC p1 (up σ 12 0 (τ 12 0)))) 30 (va_cpy (τ 30) ((mixK p3 (mixC p1 (up σ 12 0 (τ 12 0)))) 30) (ix 0) (ix 0) (ix 4))))) ++ (wC cA t τ ++ (wK cA t τ ++ F)))))) s.heap _ _ := hw.perm (((List.Perm.append_left _ (((List.Perm.append_left _ (((List.Perm.append_left _ (List.perm_append_comm_assoc _ _ _))).trans (List.perm_append_comm_assoc _ _ _)))).trans (List.perm_append_comm_assoc _ _ _)))).trans (List.perm_append_comm_assoc _ _ _))
  have hw : Wd D A (wK cA h (mixLg p7 (mixC p5 (upr (mixK p3 (mixC p1 (up σ 12 0 (τ 12 0)))) 30 (va_cpy (τ 30) ((mixK p3 (mixC p1 (up σ 12 0 (τ 12 0)))) 30) (ix 0) (ix 0) (ix 4))))) ++ (wLg cA h (mixLg p7 (mixC p5 (upr (mixK p3 (mixC p1 (up σ 12 0 (τ 12 0)))) 30 (va_cpy (τ 30) ((mixK p3 (mixC p1 (up σ 12 0 (τ 12 0)))) 30) (ix 0) (ix 0) (ix 4))))) L ++ (wC cA h (mixLg p7 (mixC p5 (upr (mixK p3 (mixC p1 (up σ 12 0 (τ 12 0)))) 30 (va_cpy (τ 30) ((mixK p3 (mixC p1 (up σ 12 0 (τ 12 0)))) 30) (ix 0) (ix 0) (ix 4))))) ++ (wLg cA t τ L2 ++ (wC cA t τ ++ (wK cA t τ ++ F)))))) s.heap _ _ := hw.perm (List.Perm.append_left _ (List.Perm.append_left _ (List.perm_append_comm_assoc _ _ _)))
  have hw : Wd D A (wK cA h (mixLg p7 (mixC p5 (upr (mixK p3 (mixC p1 (up σ 12 0 (τ 12 0)))) 30 (va_cpy (τ 30) ((mixK p3 (mixC p1 (up σ 12 0 (τ 12 0)))) 30) (ix 0) (ix 0) (ix 4))))) ++ (wLg cA h (mixLg p7 (mixC p5 (upr (mixK p3 (mixC p1 (up σ 12 0 (τ 12 0)))) 30 (va_cpy (τ 30) ((mixK p3 (mixC p1 (up σ 12 0 (τ 12 0)))) 30) (ix 0) (ix 0) (ix 4))))) L ++ (wC cA h (mixLg p7 (mixC p5 (upr (mixK p3 (mixC p1 (up σ 12 0 (τ 12 0)))) 30 (va_cpy (τ 30) ((mixK p3 (mixC p1 (up σ 12 0 (τ 12 0)))) 30) (ix 0) (ix 0) (ix 4))))) ++ (wK cA t τ ++ (wLg cA t τ L2 ++ (wC cA t τ ++ F)))))) s.heap _ _ := hw.perm (List.Perm.append_left _ (List.Perm.append_left _ (List.Perm.append_left _ (((List.Perm.append_left _ (List.perm_append_comm_assoc _ _ _))).trans (List.perm_append_comm_assoc _ _ _)))))
  cases hM
  exact q_retv E hw dX1_copyFrom_66
set_option maxRecDepth 100000 in
set_option maxHeartbeats 4000000 in
theorem s_X1_dayError_43 (l : Launch) (D : va_G) (cA : Nat → ClassId) (tS : Nat → Nat) (A : Nat → Prop) (h : Nat → Nat) (L : Nat) (F : va_W) {p : Program} {e : Env} {s : State} {m : MethodId} {args : Array Value} {below : List Frame} {meth : Method} {c : Code} (E : Ev p cX1_dayError 6 (some .int) RX1 (Cond.code yX1_dayError cX1_dayError 6 (some .int) :: bw) D cA tS A s m args meth c) : ∀ (x1 : Int32) (x4 : Int32) (σ : Sg) (r0 : Int32) (hM : f_X1_dayError_43 x1 x4 σ = some r0) (H : Heap) (locs : List Loc) (hw : Wd D A (wK cA h σ ++ (wLg cA h σ L ++ (wC cA h σ ++ F))) s.heap H locs) (ls : Array Slot) (hl : lv_has ls 6 [(1, .int x1), (4, .int x4)]), W p l e ({ frames := 1, cells := 0, slots := 0, locals := 22 } : Room) s m args below meth c H locs 0 0 (MQ below (QW D A (some (.int r0)) (wK cA h σ ++ (wLg cA h σ L ++ (wC cA h σ ++ F)))) args s 0 0 A) (F0 m 43 ls []) := by
  have hx := E.1.1
  have hb := E.1.2.1
  intro x1 x4 σ r0 hM H locs hw ls hl
  unfold f_X1_dayError_43 at hM
  refine lv_iconst (v := 0) hx hb dX1_dayError_43 (by decide) ?_
  refine lv_istore (lv' := [(5, .int 0), (1, .int x1), (4, .int x4)]) hx hb dX1_dayError_44 hl (by decide) rfl (fun ls hl => ?_)
  refine lv_iload_n hx hb dX1_dayError_46 rfl (lv_at hl 1 rfl) ?_
  refine lv_iconst (v := 0) hx hb dX1_dayError_47 (by decide) ?_
  refine lv_bipush (v := 6) hx hb dX1_dayError_48 (by decide) ?_
  obtain ⟨p1, h2, hM⟩ := b_some hM
  refine q_cn (host := "HelpDesk") (As := [.int x1, .int 0, .int 6]) (rest := []) E hw hl (c_X8_within l D cA tS A (wK cA h σ ++ (wLg cA h σ L ++ (wC cA h σ ++ F))) x1 0 6 p1 h2) 3 (bwc bw_c tb_452) rfl (by decide +kernel) (List.mem_cons_of_mem _ tb_47) (List.mem_cons_of_mem _ tb_451) (by decide +kernel) ⟨Nat.le_of_ble_eq_true rfl, Nat.le_of_ble_eq_true rfl⟩ rfl rfl (Nat.le_of_ble_eq_true rfl) ⟨Nat.zero_le _, Nat.zero_le _⟩ dX1_dayError_50 (fun H locs hw => ?_)
  refine lv_if_eq (tgt := 70) hx hb dX1_dayError_53 (by decide) (fun c3 => ?_) (fun c3 => ?_)
  · replace hM := i_pos hM c3
    refine lv_bipush (v := (-4)) hx hb dX1_dayError_70 (by decide) ?_
    cases hM
    exact q_reti E hw dX1_dayError_72
  · replace hM := i_neg hM c3
    refine lv_iload hx hb dX1_dayError_56 (lv_at hl 2 rfl) ?_
    refine lv_if_ne (tgt := 66) hx hb dX1_dayError_58 (by decide) (fun c4 => ?_) (fun c4 => ?_)
    · replace hM := i_neg hM c4
      refine lv_iconst (v := 0) hx hb dX1_dayError_66 (by decide) ?_
      refine lv_goto (tgt := 72) hx hb dX1_dayError_67 (by decide) ?_
      cases hM
      exact q_reti E hw dX1_dayError_72
    · replace hM := i_pos hM c4
      refine lv_iload hx hb dX1_dayError_61 (lv_at hl 0 rfl) ?_
      refine lv_if_eq (tgt := 70) hx hb dX1_dayError_63 (by decide) (fun c5 => ?_) (fun c5 => ?_)
      · refine lv_bipush (v := (-4)) hx hb dX1_dayError_70 (by decide) ?_
        cases hM
        exact q_reti E hw dX1_dayError_72
      · first | exact absurd (by decide) c5 | exact absurd c5 (by decide)
set_option maxRecDepth 100000 in
set_option maxHeartbeats 4000000 in
theorem s_X1_dayError_12 (l : Launch) (D : va_G) (cA : Nat → ClassId) (tS : Nat → Nat) (A : Nat → Prop) (h : Nat → Nat) (L : Nat) (F : va_W) {p : Program} {e : Env} {s : State} {m : MethodId} {args : Array Value} {below : List Frame} {meth : Method} {c : Code} (E : Ev p cX1_dayError 6 (some .int) RX1 (Cond.code yX1_dayError cX1_dayError 6 (some .int) :: bw) D cA tS A s m args meth c) : ∀ (x1 : Int32) (x2 : Int32) (x3 : Int32) (σ : Sg) (r0 : Int32) (hM : f_X1_dayError_12 x1 x2 x3 σ = some r0) (H : Heap) (locs : List Loc) (hw : Wd D A (wK cA h σ ++ (wLg cA h σ L ++ (wC cA h σ ++ F))) s.heap H locs) (ls : Array Slot) (hl : lv_has ls 6 [(1, .int x1), (2, .int x2), (3, .int x3)]), W p l e ({ frames := 1, cells := 0, slots := 0, locals := 22 } : Room) s m args below meth c H locs 0 0 (MQ below (QW D A (some (.int r0)) (wK cA h σ ++ (wLg cA h σ L ++ (wC cA h σ ++ F)))) args s 0 0 A) (F0 m 12 ls []) := by
  have hx := E.1.1
  have hb := E.1.2.1
  intro x1 x2 x3 σ r0 hM H locs hw ls hl
  unfold f_X1_dayError_12 at hM
  refine lv_iconst (v := 0) hx hb dX1_dayError_12 (by decide) ?_
  refine lv_istore (lv' := [(4, .int 0), (1, .int x1), (2, .int x2), (3, .int x3)]) hx hb dX1_dayError_13 hl (by decide) rfl (fun ls hl => ?_)
  refine lv_iload_n hx hb dX1_dayError_15 rfl (lv_at hl 2 rfl) ?_
  refine lv_iconst (v := 0) hx hb dX1_dayError_16 (by decide) ?_
  refine lv_sipush (v := 1439) hx hb dX1_dayError_17 (by decide) ?_
  obtain ⟨p1, h2, hM⟩ := b_some hM
  refine q_cn (host := "HelpDesk") (As := [.int x2, .int 0, .int 1439]) (rest := []) E hw hl (c_X8_within l D cA tS A (wK cA h σ ++ (wLg cA h σ L ++ (wC cA h σ ++ F))) x2 0 1439 p1 h2) 3 (bwc bw_c tb_452) rfl (by decide +kernel) (List.mem_cons_of_mem _ tb_47) (List.mem_cons_of_mem _ tb_451) (by decide +kernel) ⟨Nat.le_of_ble_eq_true rfl, Nat.le_of_ble_eq_true rfl⟩ rfl rfl (Nat.le_of_ble_eq_true rfl) ⟨Nat.zero_le _, Nat.zero_le _⟩ dX1_dayError_20 (fun H locs hw => ?_)
  refine lv_if_eq (tgt := 43) hx hb dX1_dayError_23 (by decide) (fun c3 => ?_) (fun c3 => ?_)
  · replace hM := i_pos hM c3
    exact s_X1_dayError_43 l D cA tS A h L F E _ _ _ _ hM _ _ hw _ (lv_sub hl [1, 0] rfl)
  · replace hM := i_neg hM c3
    refine lv_iload_n hx hb dX1_dayError_26 rfl (lv_at hl 3 rfl) ?_
    refine lv_iload_n hx hb dX1_dayError_27 rfl (lv_at hl 2 rfl) ?_
    refine lv_iconst (v := 1) hx hb dX1_dayError_28 (by decide) ?_
    refine lv_iadd hx hb dX1_dayError_29 ?_
    refine lv_sipush (v := 1440) hx hb dX1_dayError_30 (by decide) ?_
    obtain ⟨p4, h5, hM⟩ := b_some hM
    refine q_cn (host := "HelpDesk") (As := [.int x3, .int (x2 + 1), .int 1440]) (rest := []) E hw hl (c_X8_within l D cA tS A (wK cA h σ ++ (wLg cA h σ L ++ (wC cA h σ ++ F))) x3 (x2 + 1) 1440 p4 h5) 3 (bwc bw_c tb_452) rfl (by decide +kernel) (List.mem_cons_of_mem _ tb_47) (List.mem_cons_of_mem _ tb_451) (by decide +kernel) ⟨Nat.le_of_ble_eq_true rfl, Nat.le_of_ble_eq_true rfl⟩ rfl rfl (Nat.le_of_ble_eq_true rfl) ⟨Nat.zero_le _, Nat.zero_le _⟩ dX1_dayError_33 (fun H locs hw => ?_)
    refine lv_if_eq (tgt := 43) hx hb dX1_dayError_36 (by decide) (fun c6 => ?_) (fun c6 => ?_)
    · replace hM := i_pos hM c6
      exact s_X1_dayError_43 l D cA tS A h L F E _ _ _ _ hM _ _ hw _ (lv_sub hl [1, 0] rfl)
    · replace hM := i_neg hM c6
      refine lv_iconst (v := 1) hx hb dX1_dayError_39 (by decide) ?_
      refine lv_goto (tgt := 44) hx hb dX1_dayError_40 (by decide) ?_
      refine lv_istore (lv' := [(5, .int 1), (4, .int 0), (1, .int x1), (2, .int x2), (3, .int x3)]) hx hb dX1_dayError_44 hl (by decide) rfl (fun ls hl => ?_)
      refine lv_iload_n hx hb dX1_dayError_46 rfl (lv_at hl 2 rfl) ?_
      refine lv_iconst (v := 0) hx hb dX1_dayError_47 (by decide) ?_
      refine lv_bipush (v := 6) hx hb dX1_dayError_48 (by decide) ?_
      obtain ⟨p7, h8, hM⟩ := b_some hM
      refine q_cn (host := "HelpDesk") (As := [.int x1, .int 0, .int 6]) (rest := []) E hw hl (c_X8_within l D cA tS A (wK cA h σ ++ (wLg cA h σ L ++ (wC cA h σ ++ F))) x1 0 6 p7 h8) 3 (bwc bw_c tb_452) rfl (by decide +kernel) (List.mem_cons_of_mem _ tb_47) (List.mem_cons_of_mem _ tb_451) (by decide +kernel) ⟨Nat.le_of_ble_eq_true rfl, Nat.le_of_ble_eq_true rfl⟩ rfl rfl (Nat.le_of_ble_eq_true rfl) ⟨Nat.zero_le _, Nat.zero_le _⟩ dX1_dayError_50 (fun H locs hw => ?_)
      refine lv_if_eq (tgt := 70) hx hb dX1_dayError_53 (by decide) (fun c9 => ?_) (fun c9 => ?_)
      · replace hM := i_pos hM c9
        refine lv_bipush (v := (-4)) hx hb dX1_dayError_70 (by decide) ?_
        cases hM
        exact q_reti E hw dX1_dayError_72
      · replace hM := i_neg hM c9
        refine lv_iload hx hb dX1_dayError_56 (lv_at hl 1 rfl) ?_
        refine lv_if_ne (tgt := 66) hx hb dX1_dayError_58 (by decide) (fun c10 => ?_) (fun c10 => ?_)
        · first | exact absurd (by decide) c10 | exact absurd c10 (by decide)
        · refine lv_iload hx hb dX1_dayError_61 (lv_at hl 0 rfl) ?_
          refine lv_if_eq (tgt := 70) hx hb dX1_dayError_63 (by decide) (fun c11 => ?_) (fun c11 => ?_)
          · first | exact absurd (by decide) c11 | exact absurd c11 (by decide)
          · refine lv_iconst (v := 0) hx hb dX1_dayError_66 (by decide) ?_
            refine lv_goto (tgt := 72) hx hb dX1_dayError_67 (by decide) ?_
            cases hM
            exact q_reti E hw dX1_dayError_72
set_option maxRecDepth 100000 in
set_option maxHeartbeats 4000000 in
theorem c_X1_dayError (l : Launch) (D : va_G) (cA : Nat → ClassId) (tS : Nat → Nat) (A : Nat → Prop) (h : Nat → Nat) (L : Nat) (F : va_W) (x1 : Int32) (x2 : Int32) (x3 : Int32) (σ : Sg) (r0 : Int32) (hM : f_X1_dayError x1 x2 x3 σ = some r0) : Ct l yX1_dayError (Cond.code yX1_dayError cX1_dayError 6 (some .int) :: bw) 1 22 D cA tS A [.ref (h 42), .int x1, .int x2, .int x3] (wK cA h σ ++ (wLg cA h σ L ++ (wC cA h σ ++ F))) (some (.int r0)) (wK cA h σ ++ (wLg cA h σ L ++ (wC cA h σ ++ F))) := by
  refine ct_of (by decide +kernel) (Nat.le_of_ble_eq_true rfl) ?_
  intro p e s m below meth c E hw ls hl
  replace E : Ev p cX1_dayError 6 (some .int) RX1 (Cond.code yX1_dayError cX1_dayError 6 (some .int) :: bw) D cA tS A s m _ meth c := E
  replace hl : lv_has ls 6 [(0, .ref (h 42)), (1, .int x1), (2, .int x2), (3, .int x3)] := hl
  have hx := E.1.1
  have hb := E.1.2.1
  unfold f_X1_dayError at hM
  refine lv_iload_n hx hb dX1_dayError_0 rfl (lv_at hl 2 rfl) ?_
  refine lv_if_ne (tgt := 12) hx hb dX1_dayError_1 (by decide) (fun c1 => ?_) (fun c1 => ?_)
  · replace hM := i_neg hM c1
    exact s_X1_dayError_12 l D cA tS A h L F E _ _ _ _ _ hM _ _ hw _ (lv_sub hl [1, 2, 3] rfl)
  · replace hM := i_pos hM c1
    refine lv_iload_n hx hb dX1_dayError_4 rfl (lv_at hl 3 rfl) ?_
    refine lv_if_ne (tgt := 12) hx hb dX1_dayError_5 (by decide) (fun c2 => ?_) (fun c2 => ?_)
    · replace hM := i_neg hM c2
      exact s_X1_dayError_12 l D cA tS A h L F E _ _ _ _ _ hM _ _ hw _ (lv_sub hl [1, 2, 3] rfl)
    · replace hM := i_pos hM c2
      refine lv_iconst (v := 1) hx hb dX1_dayError_8 (by decide) ?_
      refine lv_goto (tgt := 13) hx hb dX1_dayError_9 (by decide) ?_
      refine lv_istore (lv' := [(4, .int 1), (0, .ref (h 42)), (1, .int x1), (2, .int x2), (3, .int x3)]) hx hb dX1_dayError_13 hl (by decide) rfl (fun ls hl => ?_)
      refine lv_iload_n hx hb dX1_dayError_15 rfl (lv_at hl 3 rfl) ?_
      refine lv_iconst (v := 0) hx hb dX1_dayError_16 (by decide) ?_
      refine lv_sipush (v := 1439) hx hb dX1_dayError_17 (by decide) ?_
      obtain ⟨p3, h4, hM⟩ := b_some hM
      refine q_cn (host := "HelpDesk") (As := [.int x2, .int 0, .int 1439]) (rest := []) E hw hl (c_X8_within l D cA tS A (wK cA h σ ++ (wLg cA h σ L ++ (wC cA h σ ++ F))) x2 0 1439 p3 h4) 3 (bwc bw_c tb_452) rfl (by decide +kernel) (List.mem_cons_of_mem _ tb_47) (List.mem_cons_of_mem _ tb_451) (by decide +kernel) ⟨Nat.le_of_ble_eq_true rfl, Nat.le_of_ble_eq_true rfl⟩ rfl rfl (Nat.le_of_ble_eq_true rfl) ⟨Nat.zero_le _, Nat.zero_le _⟩ dX1_dayError_20 (fun H locs hw => ?_)
      refine lv_if_eq (tgt := 43) hx hb dX1_dayError_23 (by decide) (fun c5 => ?_) (fun c5 => ?_)
      · replace hM := i_pos hM c5
        exact s_X1_dayError_43 l D cA tS A h L F E _ _ _ _ hM _ _ hw _ (lv_sub hl [2, 0] rfl)
      · replace hM := i_neg hM c5
        refine lv_iload_n hx hb dX1_dayError_26 rfl (lv_at hl 4 rfl) ?_
        refine lv_iload_n hx hb dX1_dayError_27 rfl (lv_at hl 3 rfl) ?_
        refine lv_iconst (v := 1) hx hb dX1_dayError_28 (by decide) ?_
        refine lv_iadd hx hb dX1_dayError_29 ?_
        refine lv_sipush (v := 1440) hx hb dX1_dayError_30 (by decide) ?_
        obtain ⟨p6, h7, hM⟩ := b_some hM
        refine q_cn (host := "HelpDesk") (As := [.int x3, .int (x2 + 1), .int 1440]) (rest := []) E hw hl (c_X8_within l D cA tS A (wK cA h σ ++ (wLg cA h σ L ++ (wC cA h σ ++ F))) x3 (x2 + 1) 1440 p6 h7) 3 (bwc bw_c tb_452) rfl (by decide +kernel) (List.mem_cons_of_mem _ tb_47) (List.mem_cons_of_mem _ tb_451) (by decide +kernel) ⟨Nat.le_of_ble_eq_true rfl, Nat.le_of_ble_eq_true rfl⟩ rfl rfl (Nat.le_of_ble_eq_true rfl) ⟨Nat.zero_le _, Nat.zero_le _⟩ dX1_dayError_33 (fun H locs hw => ?_)
        refine lv_if_eq (tgt := 43) hx hb dX1_dayError_36 (by decide) (fun c8 => ?_) (fun c8 => ?_)
        · replace hM := i_pos hM c8
          exact s_X1_dayError_43 l D cA tS A h L F E _ _ _ _ hM _ _ hw _ (lv_sub hl [2, 0] rfl)
        · replace hM := i_neg hM c8
          refine lv_iconst (v := 1) hx hb dX1_dayError_39 (by decide) ?_
          refine lv_goto (tgt := 44) hx hb dX1_dayError_40 (by decide) ?_
          refine lv_istore (lv' := [(5, .int 1), (4, .int 1), (0, .ref (h 42)), (1, .int x1), (2, .int x2), (3, .int x3)]) hx hb dX1_dayError_44 hl (by decide) rfl (fun ls hl => ?_)
          refine lv_iload_n hx hb dX1_dayError_46 rfl (lv_at hl 3 rfl) ?_
          refine lv_iconst (v := 0) hx hb dX1_dayError_47 (by decide) ?_
          refine lv_bipush (v := 6) hx hb dX1_dayError_48 (by decide) ?_
          obtain ⟨p9, h10, hM⟩ := b_some hM
          refine q_cn (host := "HelpDesk") (As := [.int x1, .int 0, .int 6]) (rest := []) E hw hl (c_X8_within l D cA tS A (wK cA h σ ++ (wLg cA h σ L ++ (wC cA h σ ++ F))) x1 0 6 p9 h10) 3 (bwc bw_c tb_452) rfl (by decide +kernel) (List.mem_cons_of_mem _ tb_47) (List.mem_cons_of_mem _ tb_451) (by decide +kernel) ⟨Nat.le_of_ble_eq_true rfl, Nat.le_of_ble_eq_true rfl⟩ rfl rfl (Nat.le_of_ble_eq_true rfl) ⟨Nat.zero_le _, Nat.zero_le _⟩ dX1_dayError_50 (fun H locs hw => ?_)
          refine lv_if_eq (tgt := 70) hx hb dX1_dayError_53 (by decide) (fun c11 => ?_) (fun c11 => ?_)
          · replace hM := i_pos hM c11
            refine lv_bipush (v := (-4)) hx hb dX1_dayError_70 (by decide) ?_
            cases hM
            exact q_reti E hw dX1_dayError_72
          · replace hM := i_neg hM c11
            refine lv_iload hx hb dX1_dayError_56 (lv_at hl 1 rfl) ?_
            refine lv_if_ne (tgt := 66) hx hb dX1_dayError_58 (by decide) (fun c12 => ?_) (fun c12 => ?_)
            · refine lv_iconst (v := 0) hx hb dX1_dayError_66 (by decide) ?_
              refine lv_goto (tgt := 72) hx hb dX1_dayError_67 (by decide) ?_
              cases hM
              exact q_reti E hw dX1_dayError_72
            · first | exact absurd (by decide) c12 | exact absurd c12 (by decide)
set_option maxRecDepth 100000 in
set_option maxHeartbeats 4000000 in
theorem c_X7_isFull (l : Launch) (D : va_G) (cA : Nat → ClassId) (tS : Nat → Nat) (A : Nat → Prop) (h : Nat → Nat) (L : Nat) (F : va_W) (σ : Sg) (r0 : Int32) (hM : f_X7_isFull σ = some r0) : Ct l yX7_isFull (Cond.code yX7_isFull cX7_isFull 1 (some .boolean) :: bw) 0 0 D cA tS A [.ref (h 44)] (wK cA h σ ++ (wLg cA h σ L ++ (wC cA h σ ++ F))) (some (.int r0)) (wK cA h σ ++ (wLg cA h σ L ++ (wC cA h σ ++ F))) := by
  refine ct_of (by decide +kernel) (Nat.le_of_ble_eq_true rfl) ?_
  intro p e s m below meth c E hw ls hl
  replace E : Ev p cX7_isFull 1 (some .boolean) RX7 (Cond.code yX7_isFull cX7_isFull 1 (some .boolean) :: bw) D cA tS A s m _ meth c := E
  replace hl : lv_has ls 1 [(0, .ref (h 44))] := hl
  have hx := E.1.1
  have hb := E.1.2.1
  unfold f_X7_isFull at hM
  refine lv_aload_n hx hb dX7_isFull_0 rfl (lv_at hl 0 rfl) ?_
  refine q_get (C := RX7) (T := TX7) (N := 15) (ci := 7) E (fun w h => List.mem_cons_of_mem _ (inX7 w h)) hw 16 rfl rfl 14 (by decide) (List.mem_cons_of_mem _ tb_184) (v := .int (σ 15 0)) rfl dX7_isFull_1 ?_
  refine lv_bipush (v := 60) hx hb dX7_isFull_4 (by decide) ?_
  refine lv_icmp_lt (tgt := 13) hx hb dX7_isFull_6 (by decide) (fun c1 => ?_) (fun c1 => ?_)
  · replace hM := i_pos hM c1
    refine lv_iconst (v := 0) hx hb dX7_isFull_13 (by decide) ?_
    cases hM
    exact q_retz E hw (by decide) dX7_isFull_14
  · replace hM := i_neg hM c1
    refine lv_iconst (v := 1) hx hb dX7_isFull_9 (by decide) ?_
    refine lv_goto (tgt := 14) hx hb dX7_isFull_10 (by decide) ?_
    cases hM
    exact q_retz E hw (by decide) dX7_isFull_14
set_option maxRecDepth 100000 in
set_option maxHeartbeats 4000000 in
theorem c_X1_reportError (l : Launch) (D : va_G) (cA : Nat → ClassId) (tS : Nat → Nat) (A : Nat → Prop) (h : Nat → Nat) (L : Nat) (F : va_W) (x1 : Int32) (x2 : Int32) (x3 : Int32) (x4 : Int32) (σ : Sg) (r0 : Int32) (hM : f_X1_reportError x1 x2 x3 x4 σ = some r0) : Ct l yX1_reportError (Cond.code yX1_reportError cX1_reportError 5 (some .int) :: bw) 1 22 D cA tS A [.ref (h 42), .int x1, .int x2, .int x3, .int x4] (wK cA h σ ++ (wLg cA h σ L ++ (wC cA h σ ++ F))) (some (.int r0)) (wK cA h σ ++ (wLg cA h σ L ++ (wC cA h σ ++ F))) := by
  refine ct_of (by decide +kernel) (Nat.le_of_ble_eq_true rfl) ?_
  intro p e s m below meth c E hw ls hl
  replace E : Ev p cX1_reportError 5 (some .int) RX1 (Cond.code yX1_reportError cX1_reportError 5 (some .int) :: bw) D cA tS A s m _ meth c := E
  replace hl : lv_has ls 5 [(0, .ref (h 42)), (1, .int x1), (2, .int x2), (3, .int x3), (4, .int x4)] := hl
  have hx := E.1.1
  have hb := E.1.2.1
  unfold f_X1_reportError at hM
  refine lv_iload_n hx hb dX1_reportError_0 rfl (lv_at hl 1 rfl) ?_
  refine lv_iconst (v := 0) hx hb dX1_reportError_1 (by decide) ?_
  refine lv_aload_n hx hb dX1_reportError_2 rfl (lv_at hl 0 rfl) ?_
  refine q_get (C := RX1) (T := TX1) (N := 6) (ci := 1) E (fun w h => List.mem_cons_of_mem _ (inX1 w h)) hw 12 rfl rfl 1 (by decide) (List.mem_cons_of_mem _ tb_268) (v := .ref (h 40)) rfl dX1_reportError_3 ?_
  refine q_get (C := RX3) (T := TX3) (N := 7) (ci := 3) E (fun w h => List.mem_cons_of_mem _ (inX3 w h)) hw 0 rfl rfl 6 (by decide) (List.mem_cons_of_mem _ tb_125) (v := .int (σ 0 0)) rfl dX1_reportError_6 ?_
  refine lv_iconst (v := 1) hx hb dX1_reportError_9 (by decide) ?_
  refine lv_isub hx hb dX1_reportError_10 ?_
  obtain ⟨p1, h2, hM⟩ := b_some hM
  refine q_cn (host := "HelpDesk") (As := [.int x1, .int 0, .int ((σ 0 0) - 1)]) (rest := []) E hw hl (c_X8_within l D cA tS A (wK cA h σ ++ (wLg cA h σ L ++ (wC cA h σ ++ F))) x1 0 ((σ 0 0) - 1) p1 h2) 3 (bwc bw_c tb_452) rfl (by decide +kernel) (List.mem_cons_of_mem _ tb_47) (List.mem_cons_of_mem _ tb_451) (by decide +kernel) ⟨Nat.le_of_ble_eq_true rfl, Nat.le_of_ble_eq_true rfl⟩ rfl rfl (Nat.le_of_ble_eq_true rfl) ⟨Nat.zero_le _, Nat.zero_le _⟩ dX1_reportError_11 (fun H locs hw => ?_)
  refine lv_if_ne (tgt := 20) hx hb dX1_reportError_14 (by decide) (fun c3 => ?_) (fun c3 => ?_)
  · replace hM := i_neg hM c3
    refine lv_iload_n hx hb dX1_reportError_20 rfl (lv_at hl 2 rfl) ?_
    refine lv_iconst (v := 0) hx hb dX1_reportError_21 (by decide) ?_
    refine lv_bipush (v := 99) hx hb dX1_reportError_22 (by decide) ?_
    obtain ⟨p4, h5, hM⟩ := b_some hM
    refine q_cn (host := "HelpDesk") (As := [.int x2, .int 0, .int 99]) (rest := []) E hw hl (c_X8_within l D cA tS A (wK cA h σ ++ (wLg cA h σ L ++ (wC cA h σ ++ F))) x2 0 99 p4 h5) 3 (bwc bw_c tb_452) rfl (by decide +kernel) (List.mem_cons_of_mem _ tb_47) (List.mem_cons_of_mem _ tb_451) (by decide +kernel) ⟨Nat.le_of_ble_eq_true rfl, Nat.le_of_ble_eq_true rfl⟩ rfl rfl (Nat.le_of_ble_eq_true rfl) ⟨Nat.zero_le _, Nat.zero_le _⟩ dX1_reportError_24 (fun H locs hw => ?_)
    refine lv_if_eq (tgt := 51) hx hb dX1_reportError_27 (by decide) (fun c6 => ?_) (fun c6 => ?_)
    · replace hM := i_pos hM c6
      refine lv_bipush (v := (-4)) hx hb dX1_reportError_51 (by decide) ?_
      cases hM
      exact q_reti E hw dX1_reportError_53
    · replace hM := i_neg hM c6
      refine lv_iload_n hx hb dX1_reportError_30 rfl (lv_at hl 3 rfl) ?_
      refine lv_iconst (v := 0) hx hb dX1_reportError_31 (by decide) ?_
      refine lv_sipush (v := 999) hx hb dX1_reportError_32 (by decide) ?_
      obtain ⟨p7, h8, hM⟩ := b_some hM
      refine q_cn (host := "HelpDesk") (As := [.int x3, .int 0, .int 999]) (rest := []) E hw hl (c_X8_within l D cA tS A (wK cA h σ ++ (wLg cA h σ L ++ (wC cA h σ ++ F))) x3 0 999 p7 h8) 3 (bwc bw_c tb_452) rfl (by decide +kernel) (List.mem_cons_of_mem _ tb_47) (List.mem_cons_of_mem _ tb_451) (by decide +kernel) ⟨Nat.le_of_ble_eq_true rfl, Nat.le_of_ble_eq_true rfl⟩ rfl rfl (Nat.le_of_ble_eq_true rfl) ⟨Nat.zero_le _, Nat.zero_le _⟩ dX1_reportError_35 (fun H locs hw => ?_)
      refine lv_if_eq (tgt := 51) hx hb dX1_reportError_38 (by decide) (fun c9 => ?_) (fun c9 => ?_)
      · replace hM := i_pos hM c9
        refine lv_bipush (v := (-4)) hx hb dX1_reportError_51 (by decide) ?_
        cases hM
        exact q_reti E hw dX1_reportError_53
      · replace hM := i_neg hM c9
        refine lv_iload hx hb dX1_reportError_41 (lv_at hl 4 rfl) ?_
        refine lv_iconst (v := 0) hx hb dX1_reportError_43 (by decide) ?_
        refine lv_iconst (v := 3) hx hb dX1_reportError_44 (by decide) ?_
        obtain ⟨p10, h11, hM⟩ := b_some hM
        refine q_cn (host := "HelpDesk") (As := [.int x4, .int 0, .int 3]) (rest := []) E hw hl (c_X8_within l D cA tS A (wK cA h σ ++ (wLg cA h σ L ++ (wC cA h σ ++ F))) x4 0 3 p10 h11) 3 (bwc bw_c tb_452) rfl (by decide +kernel) (List.mem_cons_of_mem _ tb_47) (List.mem_cons_of_mem _ tb_451) (by decide +kernel) ⟨Nat.le_of_ble_eq_true rfl, Nat.le_of_ble_eq_true rfl⟩ rfl rfl (Nat.le_of_ble_eq_true rfl) ⟨Nat.zero_le _, Nat.zero_le _⟩ dX1_reportError_45 (fun H locs hw => ?_)
        refine lv_if_ne (tgt := 54) hx hb dX1_reportError_48 (by decide) (fun c12 => ?_) (fun c12 => ?_)
        · replace hM := i_neg hM c12
          refine lv_aload_n hx hb dX1_reportError_54 rfl (lv_at hl 0 rfl) ?_
          refine q_get (C := RX1) (T := TX1) (N := 6) (ci := 1) E (fun w h => List.mem_cons_of_mem _ (inX1 w h)) hw 12 rfl rfl 3 (by decide) (List.mem_cons_of_mem _ tb_272) (v := .ref (h 44)) rfl dX1_reportError_55 ?_
          obtain ⟨p13, h14, hM⟩ := b_some hM
          refine q_cv (As := []) (rest := []) E hw hl (c_X7_isFull l D cA tS A h L F σ p13 h14) 0 (bwV bw_c tb_536 tb_537 tb_538 tb_52 tb_539) rfl (by decide +kernel) ⟨Nat.le_of_ble_eq_true rfl, Nat.le_of_ble_eq_true rfl⟩ 16 7 (T := TX7) (N := 15) rfl rfl rfl rfl (Nat.le_of_ble_eq_true rfl) ⟨Nat.zero_le _, Nat.zero_le _⟩ dX1_reportError_58 (fun H locs hw => ?_)
          refine lv_if_eq (tgt := 69) hx hb dX1_reportError_61 (by decide) (fun c15 => ?_) (fun c15 => ?_)
          · replace hM := i_pos hM c15
            refine lv_iconst (v := 0) hx hb dX1_reportError_69 (by decide) ?_
            cases hM
            exact q_reti E hw dX1_reportError_70
          · replace hM := i_neg hM c15
            refine lv_bipush (v := (-6)) hx hb dX1_reportError_64 (by decide) ?_
            refine lv_goto (tgt := 70) hx hb dX1_reportError_66 (by decide) ?_
            cases hM
            exact q_reti E hw dX1_reportError_70
        · replace hM := i_pos hM c12
          refine lv_bipush (v := (-4)) hx hb dX1_reportError_51 (by decide) ?_
          cases hM
          exact q_reti E hw dX1_reportError_53
  · replace hM := i_pos hM c3
    refine lv_bipush (v := (-3)) hx hb dX1_reportError_17 (by decide) ?_
    cases hM
    exact q_reti E hw dX1_reportError_19
set_option maxRecDepth 100000 in
set_option maxHeartbeats 4000000 in
theorem c_X7_exists (l : Launch) (D : va_G) (cA : Nat → ClassId) (tS : Nat → Nat) (A : Nat → Prop) (h : Nat → Nat) (L : Nat) (F : va_W) (x1 : Int32) (σ : Sg) (r0 : Int32) (hM : f_X7_exists x1 σ = some r0) : Ct l yX7_exists (Cond.code yX7_exists cX7_exists 2 (some .boolean) :: bw) 0 0 D cA tS A [.ref (h 44), .int x1] (wK cA h σ ++ (wLg cA h σ L ++ (wC cA h σ ++ F))) (some (.int r0)) (wK cA h σ ++ (wLg cA h σ L ++ (wC cA h σ ++ F))) := by
  refine ct_of (by decide +kernel) (Nat.le_of_ble_eq_true rfl) ?_
  intro p e s m below meth c E hw ls hl
  replace E : Ev p cX7_exists 2 (some .boolean) RX7 (Cond.code yX7_exists cX7_exists 2 (some .boolean) :: bw) D cA tS A s m _ meth c := E
  replace hl : lv_has ls 2 [(0, .ref (h 44)), (1, .int x1)] := hl
  have hx := E.1.1
  have hb := E.1.2.1
  unfold f_X7_exists at hM
  refine lv_iload_n hx hb dX7_exists_0 rfl (lv_at hl 1 rfl) ?_
  refine lv_if_lt (tgt := 16) hx hb dX7_exists_1 (by decide) (fun c1 => ?_) (fun c1 => ?_)
  · replace hM := i_pos hM c1
    refine lv_iconst (v := 0) hx hb dX7_exists_16 (by decide) ?_
    cases hM
    exact q_retz E hw (by decide) dX7_exists_17
  · replace hM := i_neg hM c1
    refine lv_iload_n hx hb dX7_exists_4 rfl (lv_at hl 1 rfl) ?_
    refine lv_aload_n hx hb dX7_exists_5 rfl (lv_at hl 0 rfl) ?_
    refine q_get (C := RX7) (T := TX7) (N := 15) (ci := 7) E (fun w h => List.mem_cons_of_mem _ (inX7 w h)) hw 16 rfl rfl 14 (by decide) (List.mem_cons_of_mem _ tb_184) (v := .int (σ 15 0)) rfl dX7_exists_6 ?_
    refine lv_icmp_ge (tgt := 16) hx hb dX7_exists_9 (by decide) (fun c2 => ?_) (fun c2 => ?_)
    · replace hM := i_pos hM c2
      refine lv_iconst (v := 0) hx hb dX7_exists_16 (by decide) ?_
      cases hM
      exact q_retz E hw (by decide) dX7_exists_17
    · replace hM := i_neg hM c2
      refine lv_iconst (v := 1) hx hb dX7_exists_12 (by decide) ?_
      refine lv_goto (tgt := 17) hx hb dX7_exists_13 (by decide) ?_
      cases hM
      exact q_retz E hw (by decide) dX7_exists_17
set_option maxRecDepth 100000 in
set_option maxHeartbeats 4000000 in
theorem c_X7_standsAlone (l : Launch) (D : va_G) (cA : Nat → ClassId) (tS : Nat → Nat) (A : Nat → Prop) (h : Nat → Nat) (L : Nat) (F : va_W) (x1 : Int32) (σ : Sg) (r0 : Int32) (hM : f_X7_standsAlone x1 σ = some r0) : Ct l yX7_standsAlone (Cond.code yX7_standsAlone cX7_standsAlone 2 (some .boolean) :: bw) 0 0 D cA tS A [.ref (h 44), .int x1] (wK cA h σ ++ (wLg cA h σ L ++ (wC cA h σ ++ F))) (some (.int r0)) (wK cA h σ ++ (wLg cA h σ L ++ (wC cA h σ ++ F))) := by
  refine ct_of (by decide +kernel) (Nat.le_of_ble_eq_true rfl) ?_
  intro p e s m below meth c E hw ls hl
  replace E : Ev p cX7_standsAlone 2 (some .boolean) RX7 (Cond.code yX7_standsAlone cX7_standsAlone 2 (some .boolean) :: bw) D cA tS A s m _ meth c := E
  replace hl : lv_has ls 2 [(0, .ref (h 44)), (1, .int x1)] := hl
  have hx := E.1.1
  have hb := E.1.2.1
  unfold f_X7_standsAlone at hM
  refine lv_aload_n hx hb dX7_standsAlone_0 rfl (lv_at hl 0 rfl) ?_
  refine q_get (C := RX7) (T := TX7) (N := 15) (ci := 7) E (fun w h => List.mem_cons_of_mem _ (inX7 w h)) hw 16 rfl rfl 5 (by decide) (List.mem_cons_of_mem _ tb_159) (v := .ref (h 21)) rfl dX7_standsAlone_1 ?_
  refine lv_iload_n hx hb dX7_standsAlone_4 rfl (lv_at hl 1 rfl) ?_
  obtain ⟨g1, hM⟩ := g_some hM
  refine q_ald E hw 22 (n := 60) rfl g1 (x := (σ 21 (ix x1))) rfl dX7_standsAlone_5 ?_
  refine lv_iconst (v := 3) hx hb dX7_standsAlone_6 (by decide) ?_
  refine lv_icmp_eq (tgt := 24) hx hb dX7_standsAlone_7 (by decide) (fun c2 => ?_) (fun c2 => ?_)
  · replace hM := i_pos hM c2
    refine lv_iconst (v := 0) hx hb dX7_standsAlone_24 (by decide) ?_
    cases hM
    exact q_retz E hw (by decide) dX7_standsAlone_25
  · replace hM := i_neg hM c2
    refine lv_aload_n hx hb dX7_standsAlone_10 rfl (lv_at hl 0 rfl) ?_
    refine q_get (C := RX7) (T := TX7) (N := 15) (ci := 7) E (fun w h => List.mem_cons_of_mem _ (inX7 w h)) hw 16 rfl rfl 5 (by decide) (List.mem_cons_of_mem _ tb_159) (v := .ref (h 21)) rfl dX7_standsAlone_11 ?_
    refine lv_iload_n hx hb dX7_standsAlone_14 rfl (lv_at hl 1 rfl) ?_
    refine q_ald E hw 22 (n := 60) rfl g1 (x := (σ 21 (ix x1))) rfl dX7_standsAlone_15 ?_
    refine lv_iconst (v := 4) hx hb dX7_standsAlone_16 (by decide) ?_
    refine lv_icmp_eq (tgt := 24) hx hb dX7_standsAlone_17 (by decide) (fun c3 => ?_) (fun c3 => ?_)
    · replace hM := i_pos hM c3
      refine lv_iconst (v := 0) hx hb dX7_standsAlone_24 (by decide) ?_
      cases hM
      exact q_retz E hw (by decide) dX7_standsAlone_25
    · replace hM := i_neg hM c3
      refine lv_iconst (v := 1) hx hb dX7_standsAlone_20 (by decide) ?_
      refine lv_goto (tgt := 25) hx hb dX7_standsAlone_21 (by decide) ?_
      cases hM
      exact q_retz E hw (by decide) dX7_standsAlone_25
set_option maxRecDepth 100000 in
set_option maxHeartbeats 4000000 in
theorem c_X1_joinError (l : Launch) (D : va_G) (cA : Nat → ClassId) (tS : Nat → Nat) (A : Nat → Prop) (h : Nat → Nat) (L : Nat) (F : va_W) (x1 : Int32) (x2 : Int32) (σ : Sg) (r0 : Int32) (hM : f_X1_joinError x1 x2 σ = some r0) : Ct l yX1_joinError (Cond.code yX1_joinError cX1_joinError 4 (some .int) :: bw) 1 21 D cA tS A [.ref (h 42), .int x1, .int x2] (wK cA h σ ++ (wLg cA h σ L ++ (wC cA h σ ++ F))) (some (.int r0)) (wK cA h σ ++ (wLg cA h σ L ++ (wC cA h σ ++ F))) := by
  refine ct_of (by decide +kernel) (Nat.le_of_ble_eq_true rfl) ?_
  intro p e s m below meth c E hw ls hl
  replace E : Ev p cX1_joinError 4 (some .int) RX1 (Cond.code yX1_joinError cX1_joinError 4 (some .int) :: bw) D cA tS A s m _ meth c := E
  replace hl : lv_has ls 4 [(0, .ref (h 42)), (1, .int x1), (2, .int x2)] := hl
  have hx := E.1.1
  have hb := E.1.2.1
  unfold f_X1_joinError at hM
  refine lv_aload_n hx hb dX1_joinError_0 rfl (lv_at hl 0 rfl) ?_
  refine q_get (C := RX1) (T := TX1) (N := 6) (ci := 1) E (fun w h => List.mem_cons_of_mem _ (inX1 w h)) hw 12 rfl rfl 3 (by decide) (List.mem_cons_of_mem _ tb_272) (v := .ref (h 44)) rfl dX1_joinError_1 ?_
  refine lv_iload_n hx hb dX1_joinError_4 rfl (lv_at hl 1 rfl) ?_
  obtain ⟨p1, h2, hM⟩ := b_some hM
  refine q_cv (As := [.int x1]) (rest := []) E hw hl (c_X7_exists l D cA tS A h L F x1 σ p1 h2) 1 (bwV bw_c tb_544 tb_545 tb_546 tb_52 tb_547) rfl (by decide +kernel) ⟨Nat.le_of_ble_eq_true rfl, Nat.le_of_ble_eq_true rfl⟩ 16 7 (T := TX7) (N := 15) rfl rfl rfl rfl (Nat.le_of_ble_eq_true rfl) ⟨Nat.zero_le _, Nat.zero_le _⟩ dX1_joinError_5 (fun H locs hw => ?_)
  refine lv_if_eq (tgt := 22) hx hb dX1_joinError_8 (by decide) (fun c3 => ?_) (fun c3 => ?_)
  · replace hM := i_pos hM c3
    refine lv_bipush (v := (-2)) hx hb dX1_joinError_22 (by decide) ?_
    cases hM
    exact q_reti E hw dX1_joinError_24
  · replace hM := i_neg hM c3
    refine lv_aload_n hx hb dX1_joinError_11 rfl (lv_at hl 0 rfl) ?_
    refine q_get (C := RX1) (T := TX1) (N := 6) (ci := 1) E (fun w h => List.mem_cons_of_mem _ (inX1 w h)) hw 12 rfl rfl 3 (by decide) (List.mem_cons_of_mem _ tb_272) (v := .ref (h 44)) rfl dX1_joinError_12 ?_
    refine lv_iload_n hx hb dX1_joinError_15 rfl (lv_at hl 2 rfl) ?_
    obtain ⟨p4, h5, hM⟩ := b_some hM
    refine q_cv (As := [.int x2]) (rest := []) E hw hl (c_X7_exists l D cA tS A h L F x2 σ p4 h5) 1 (bwV bw_c tb_544 tb_545 tb_546 tb_52 tb_547) rfl (by decide +kernel) ⟨Nat.le_of_ble_eq_true rfl, Nat.le_of_ble_eq_true rfl⟩ 16 7 (T := TX7) (N := 15) rfl rfl rfl rfl (Nat.le_of_ble_eq_true rfl) ⟨Nat.zero_le _, Nat.zero_le _⟩ dX1_joinError_16 (fun H locs hw => ?_)
    refine lv_if_ne (tgt := 25) hx hb dX1_joinError_19 (by decide) (fun c6 => ?_) (fun c6 => ?_)
    · replace hM := i_neg hM c6
      refine lv_iload_n hx hb dX1_joinError_25 rfl (lv_at hl 1 rfl) ?_
      refine lv_iload_n hx hb dX1_joinError_26 rfl (lv_at hl 2 rfl) ?_
      refine lv_icmp_eq (tgt := 56) hx hb dX1_joinError_27 (by decide) (fun c7 => ?_) (fun c7 => ?_)
      · replace hM := i_pos hM c7
        refine lv_iconst (v := 0) hx hb dX1_joinError_56 (by decide) ?_
        refine lv_istore_n (lv' := [(3, .int 0), (0, .ref (h 42)), (1, .int x1), (2, .int x2)]) hx hb dX1_joinError_57 rfl hl (by decide) rfl (fun ls hl => ?_)
        refine lv_iload_n hx hb dX1_joinError_58 rfl (lv_at hl 0 rfl) ?_
        refine lv_if_eq (tgt := 66) hx hb dX1_joinError_59 (by decide) (fun c8 => ?_) (fun c8 => ?_)
        · refine lv_bipush (v := (-5)) hx hb dX1_joinError_66 (by decide) ?_
          cases hM
          exact q_reti E hw dX1_joinError_68
        · first | exact absurd (by decide) c8 | exact absurd c8 (by decide)
      · replace hM := i_neg hM c7
        refine lv_aload_n hx hb dX1_joinError_30 rfl (lv_at hl 0 rfl) ?_
        refine q_get (C := RX1) (T := TX1) (N := 6) (ci := 1) E (fun w h => List.mem_cons_of_mem _ (inX1 w h)) hw 12 rfl rfl 3 (by decide) (List.mem_cons_of_mem _ tb_272) (v := .ref (h 44)) rfl dX1_joinError_31 ?_
        refine lv_iload_n hx hb dX1_joinError_34 rfl (lv_at hl 1 rfl) ?_
        obtain ⟨p9, h10, hM⟩ := b_some hM
        refine q_cv (As := [.int x1]) (rest := []) E hw hl (c_X7_standsAlone l D cA tS A h L F x1 σ p9 h10) 1 (bwV bw_c tb_548 tb_549 tb_550 tb_52 tb_551) rfl (by decide +kernel) ⟨Nat.le_of_ble_eq_true rfl, Nat.le_of_ble_eq_true rfl⟩ 16 7 (T := TX7) (N := 15) rfl rfl rfl rfl (Nat.le_of_ble_eq_true rfl) ⟨Nat.zero_le _, Nat.zero_le _⟩ dX1_joinError_35 (fun H locs hw => ?_)
        refine lv_if_eq (tgt := 56) hx hb dX1_joinError_38 (by decide) (fun c11 => ?_) (fun c11 => ?_)
        · replace hM := i_pos hM c11
          refine lv_iconst (v := 0) hx hb dX1_joinError_56 (by decide) ?_
          refine lv_istore_n (lv' := [(3, .int 0), (0, .ref (h 42)), (1, .int x1), (2, .int x2)]) hx hb dX1_joinError_57 rfl hl (by decide) rfl (fun ls hl => ?_)
          refine lv_iload_n hx hb dX1_joinError_58 rfl (lv_at hl 0 rfl) ?_
          refine lv_if_eq (tgt := 66) hx hb dX1_joinError_59 (by decide) (fun c12 => ?_) (fun c12 => ?_)
          · refine lv_bipush (v := (-5)) hx hb dX1_joinError_66 (by decide) ?_
            cases hM
            exact q_reti E hw dX1_joinError_68
          · first | exact absurd (by decide) c12 | exact absurd c12 (by decide)
        · replace hM := i_neg hM c11
          refine lv_aload_n hx hb dX1_joinError_41 rfl (lv_at hl 0 rfl) ?_
          refine q_get (C := RX1) (T := TX1) (N := 6) (ci := 1) E (fun w h => List.mem_cons_of_mem _ (inX1 w h)) hw 12 rfl rfl 3 (by decide) (List.mem_cons_of_mem _ tb_272) (v := .ref (h 44)) rfl dX1_joinError_42 ?_
          refine lv_iload_n hx hb dX1_joinError_45 rfl (lv_at hl 2 rfl) ?_
          obtain ⟨p13, h14, hM⟩ := b_some hM
          refine q_cv (As := [.int x2]) (rest := []) E hw hl (c_X7_standsAlone l D cA tS A h L F x2 σ p13 h14) 1 (bwV bw_c tb_548 tb_549 tb_550 tb_52 tb_551) rfl (by decide +kernel) ⟨Nat.le_of_ble_eq_true rfl, Nat.le_of_ble_eq_true rfl⟩ 16 7 (T := TX7) (N := 15) rfl rfl rfl rfl (Nat.le_of_ble_eq_true rfl) ⟨Nat.zero_le _, Nat.zero_le _⟩ dX1_joinError_46 (fun H locs hw => ?_)
          refine lv_if_eq (tgt := 56) hx hb dX1_joinError_49 (by decide) (fun c15 => ?_) (fun c15 => ?_)
          · replace hM := i_pos hM c15
            refine lv_iconst (v := 0) hx hb dX1_joinError_56 (by decide) ?_
            refine lv_istore_n (lv' := [(3, .int 0), (0, .ref (h 42)), (1, .int x1), (2, .int x2)]) hx hb dX1_joinError_57 rfl hl (by decide) rfl (fun ls hl => ?_)
            refine lv_iload_n hx hb dX1_joinError_58 rfl (lv_at hl 0 rfl) ?_
            refine lv_if_eq (tgt := 66) hx hb dX1_joinError_59 (by decide) (fun c16 => ?_) (fun c16 => ?_)
            · refine lv_bipush (v := (-5)) hx hb dX1_joinError_66 (by decide) ?_
              cases hM
              exact q_reti E hw dX1_joinError_68
            · first | exact absurd (by decide) c16 | exact absurd c16 (by decide)
          · replace hM := i_neg hM c15
            refine lv_iconst (v := 1) hx hb dX1_joinError_52 (by decide) ?_
            refine lv_goto (tgt := 57) hx hb dX1_joinError_53 (by decide) ?_
            refine lv_istore_n (lv' := [(3, .int 1), (0, .ref (h 42)), (1, .int x1), (2, .int x2)]) hx hb dX1_joinError_57 rfl hl (by decide) rfl (fun ls hl => ?_)
            refine lv_iload_n hx hb dX1_joinError_58 rfl (lv_at hl 0 rfl) ?_
            refine lv_if_eq (tgt := 66) hx hb dX1_joinError_59 (by decide) (fun c17 => ?_) (fun c17 => ?_)
            · first | exact absurd (by decide) c17 | exact absurd c17 (by decide)
            · refine lv_iconst (v := 0) hx hb dX1_joinError_62 (by decide) ?_
              refine lv_goto (tgt := 68) hx hb dX1_joinError_63 (by decide) ?_
              cases hM
              exact q_reti E hw dX1_joinError_68
    · replace hM := i_pos hM c6
      refine lv_bipush (v := (-2)) hx hb dX1_joinError_22 (by decide) ?_
      cases hM
      exact q_reti E hw dX1_joinError_24
set_option maxRecDepth 100000 in
set_option maxHeartbeats 4000000 in
theorem c_X1_priorityError (l : Launch) (D : va_G) (cA : Nat → ClassId) (tS : Nat → Nat) (A : Nat → Prop) (h : Nat → Nat) (L : Nat) (F : va_W) (x1 : Int32) (x2 : Int32) (σ : Sg) (r0 : Int32) (hM : f_X1_priorityError x1 x2 σ = some r0) : Ct l yX1_priorityError (Cond.code yX1_priorityError cX1_priorityError 3 (some .int) :: bw) 1 22 D cA tS A [.ref (h 42), .int x1, .int x2] (wK cA h σ ++ (wLg cA h σ L ++ (wC cA h σ ++ F))) (some (.int r0)) (wK cA h σ ++ (wLg cA h σ L ++ (wC cA h σ ++ F))) := by
  refine ct_of (by decide +kernel) (Nat.le_of_ble_eq_true rfl) ?_
  intro p e s m below meth c E hw ls hl
  replace E : Ev p cX1_priorityError 3 (some .int) RX1 (Cond.code yX1_priorityError cX1_priorityError 3 (some .int) :: bw) D cA tS A s m _ meth c := E
  replace hl : lv_has ls 3 [(0, .ref (h 42)), (1, .int x1), (2, .int x2)] := hl
  have hx := E.1.1
  have hb := E.1.2.1
  unfold f_X1_priorityError at hM
  refine lv_aload_n hx hb dX1_priorityError_0 rfl (lv_at hl 0 rfl) ?_
  refine q_get (C := RX1) (T := TX1) (N := 6) (ci := 1) E (fun w h => List.mem_cons_of_mem _ (inX1 w h)) hw 12 rfl rfl 3 (by decide) (List.mem_cons_of_mem _ tb_272) (v := .ref (h 44)) rfl dX1_priorityError_1 ?_
  refine lv_iload_n hx hb dX1_priorityError_4 rfl (lv_at hl 1 rfl) ?_
  obtain ⟨p1, h2, hM⟩ := b_some hM
  refine q_cv (As := [.int x1]) (rest := []) E hw hl (c_X7_exists l D cA tS A h L F x1 σ p1 h2) 1 (bwV bw_c tb_544 tb_545 tb_546 tb_52 tb_547) rfl (by decide +kernel) ⟨Nat.le_of_ble_eq_true rfl, Nat.le_of_ble_eq_true rfl⟩ 16 7 (T := TX7) (N := 15) rfl rfl rfl rfl (Nat.le_of_ble_eq_true rfl) ⟨Nat.zero_le _, Nat.zero_le _⟩ dX1_priorityError_5 (fun H locs hw => ?_)
  refine lv_if_ne (tgt := 14) hx hb dX1_priorityError_8 (by decide) (fun c3 => ?_) (fun c3 => ?_)
  · replace hM := i_neg hM c3
    refine lv_iload_n hx hb dX1_priorityError_14 rfl (lv_at hl 2 rfl) ?_
    refine lv_iconst (v := 0) hx hb dX1_priorityError_15 (by decide) ?_
    refine lv_iconst (v := 3) hx hb dX1_priorityError_16 (by decide) ?_
    obtain ⟨p4, h5, hM⟩ := b_some hM
    refine q_cn (host := "HelpDesk") (As := [.int x2, .int 0, .int 3]) (rest := []) E hw hl (c_X8_within l D cA tS A (wK cA h σ ++ (wLg cA h σ L ++ (wC cA h σ ++ F))) x2 0 3 p4 h5) 3 (bwc bw_c tb_452) rfl (by decide +kernel) (List.mem_cons_of_mem _ tb_47) (List.mem_cons_of_mem _ tb_451) (by decide +kernel) ⟨Nat.le_of_ble_eq_true rfl, Nat.le_of_ble_eq_true rfl⟩ rfl rfl (Nat.le_of_ble_eq_true rfl) ⟨Nat.zero_le _, Nat.zero_le _⟩ dX1_priorityError_17 (fun H locs hw => ?_)
    refine lv_if_ne (tgt := 26) hx hb dX1_priorityError_20 (by decide) (fun c6 => ?_) (fun c6 => ?_)
    · replace hM := i_neg hM c6
      refine lv_aload_n hx hb dX1_priorityError_26 rfl (lv_at hl 0 rfl) ?_
      refine q_get (C := RX1) (T := TX1) (N := 6) (ci := 1) E (fun w h => List.mem_cons_of_mem _ (inX1 w h)) hw 12 rfl rfl 3 (by decide) (List.mem_cons_of_mem _ tb_272) (v := .ref (h 44)) rfl dX1_priorityError_27 ?_
      refine q_get (C := RX7) (T := TX7) (N := 15) (ci := 7) E (fun w h => List.mem_cons_of_mem _ (inX7 w h)) hw 16 rfl rfl 5 (by decide) (List.mem_cons_of_mem _ tb_160) (v := .ref (h 21)) rfl dX1_priorityError_30 ?_
      refine lv_iload_n hx hb dX1_priorityError_33 rfl (lv_at hl 1 rfl) ?_
      obtain ⟨g7, hM⟩ := g_some hM
      refine q_ald E hw 22 (n := 60) rfl g7 (x := (σ 21 (ix x1))) rfl dX1_priorityError_34 ?_
      refine lv_iconst (v := 3) hx hb dX1_priorityError_35 (by decide) ?_
      refine lv_icmp_ne (tgt := 44) hx hb dX1_priorityError_36 (by decide) (fun c8 => ?_) (fun c8 => ?_)
      · replace hM := i_neg hM c8
        refine lv_iconst (v := 0) hx hb dX1_priorityError_44 (by decide) ?_
        cases hM
        exact q_reti E hw dX1_priorityError_45
      · replace hM := i_pos hM c8
        refine lv_bipush (v := (-5)) hx hb dX1_priorityError_39 (by decide) ?_
        refine lv_goto (tgt := 45) hx hb dX1_priorityError_41 (by decide) ?_
        cases hM
        exact q_reti E hw dX1_priorityError_45
    · replace hM := i_pos hM c6
      refine lv_bipush (v := (-4)) hx hb dX1_priorityError_23 (by decide) ?_
      cases hM
      exact q_reti E hw dX1_priorityError_25
  · replace hM := i_pos hM c3
    refine lv_bipush (v := (-2)) hx hb dX1_priorityError_11 (by decide) ?_
    cases hM
    exact q_reti E hw dX1_priorityError_13
set_option maxRecDepth 100000 in
set_option maxHeartbeats 4000000 in
theorem c_X7_isActive (l : Launch) (D : va_G) (cA : Nat → ClassId) (tS : Nat → Nat) (A : Nat → Prop) (h : Nat → Nat) (L : Nat) (F : va_W) (x1 : Int32) (σ : Sg) (r0 : Int32) (hM : f_X7_isActive x1 σ = some r0) : Ct l yX7_isActive (Cond.code yX7_isActive cX7_isActive 2 (some .boolean) :: bw) 0 0 D cA tS A [.ref (h 44), .int x1] (wK cA h σ ++ (wLg cA h σ L ++ (wC cA h σ ++ F))) (some (.int r0)) (wK cA h σ ++ (wLg cA h σ L ++ (wC cA h σ ++ F))) := by
  refine ct_of (by decide +kernel) (Nat.le_of_ble_eq_true rfl) ?_
  intro p e s m below meth c E hw ls hl
  replace E : Ev p cX7_isActive 2 (some .boolean) RX7 (Cond.code yX7_isActive cX7_isActive 2 (some .boolean) :: bw) D cA tS A s m _ meth c := E
  replace hl : lv_has ls 2 [(0, .ref (h 44)), (1, .int x1)] := hl
  have hx := E.1.1
  have hb := E.1.2.1
  unfold f_X7_isActive at hM
  refine lv_aload_n hx hb dX7_isActive_0 rfl (lv_at hl 0 rfl) ?_
  refine q_get (C := RX7) (T := TX7) (N := 15) (ci := 7) E (fun w h => List.mem_cons_of_mem _ (inX7 w h)) hw 16 rfl rfl 5 (by decide) (List.mem_cons_of_mem _ tb_159) (v := .ref (h 21)) rfl dX7_isActive_1 ?_
  refine lv_iload_n hx hb dX7_isActive_4 rfl (lv_at hl 1 rfl) ?_
  obtain ⟨g1, hM⟩ := g_some hM
  refine q_ald E hw 22 (n := 60) rfl g1 (x := (σ 21 (ix x1))) rfl dX7_isActive_5 ?_
  refine lv_if_eq (tgt := 19) hx hb dX7_isActive_6 (by decide) (fun c2 => ?_) (fun c2 => ?_)
  · replace hM := i_pos hM c2
    refine lv_iconst (v := 1) hx hb dX7_isActive_19 (by decide) ?_
    refine lv_goto (tgt := 24) hx hb dX7_isActive_20 (by decide) ?_
    cases hM
    exact q_retz E hw (by decide) dX7_isActive_24
  · replace hM := i_neg hM c2
    refine lv_aload_n hx hb dX7_isActive_9 rfl (lv_at hl 0 rfl) ?_
    refine q_get (C := RX7) (T := TX7) (N := 15) (ci := 7) E (fun w h => List.mem_cons_of_mem _ (inX7 w h)) hw 16 rfl rfl 5 (by decide) (List.mem_cons_of_mem _ tb_159) (v := .ref (h 21)) rfl dX7_isActive_10 ?_
    refine lv_iload_n hx hb dX7_isActive_13 rfl (lv_at hl 1 rfl) ?_
    refine q_ald E hw 22 (n := 60) rfl g1 (x := (σ 21 (ix x1))) rfl dX7_isActive_14 ?_
    refine lv_iconst (v := 1) hx hb dX7_isActive_15 (by decide) ?_
    refine lv_icmp_ne (tgt := 23) hx hb dX7_isActive_16 (by decide) (fun c3 => ?_) (fun c3 => ?_)
    · replace hM := i_neg hM c3
      refine lv_iconst (v := 0) hx hb dX7_isActive_23 (by decide) ?_
      cases hM
      exact q_retz E hw (by decide) dX7_isActive_24
    · replace hM := i_pos hM c3
      refine lv_iconst (v := 1) hx hb dX7_isActive_19 (by decide) ?_
      refine lv_goto (tgt := 24) hx hb dX7_isActive_20 (by decide) ?_
      cases hM
      exact q_retz E hw (by decide) dX7_isActive_24
set_option maxRecDepth 100000 in
set_option maxHeartbeats 4000000 in
theorem c_X1_allows (l : Launch) (D : va_G) (cA : Nat → ClassId) (tS : Nat → Nat) (A : Nat → Prop) (h : Nat → Nat) (L : Nat) (F : va_W) (x1 : Int32) (x2 : Int32) (σ : Sg) (r0 : Int32) (hM : f_X1_allows x1 x2 σ = some r0) : Ct l yX1_allows (Cond.code yX1_allows cX1_allows 3 (some .boolean) :: bw) 1 21 D cA tS A [.ref (h 42), .int x1, .int x2] (wK cA h σ ++ (wLg cA h σ L ++ (wC cA h σ ++ F))) (some (.int r0)) (wK cA h σ ++ (wLg cA h σ L ++ (wC cA h σ ++ F))) := by
  refine ct_of (by decide +kernel) (Nat.le_of_ble_eq_true rfl) ?_
  intro p e s m below meth c E hw ls hl
  replace E : Ev p cX1_allows 3 (some .boolean) RX1 (Cond.code yX1_allows cX1_allows 3 (some .boolean) :: bw) D cA tS A s m _ meth c := E
  replace hl : lv_has ls 3 [(0, .ref (h 42)), (1, .int x1), (2, .int x2)] := hl
  have hx := E.1.1
  have hb := E.1.2.1
  unfold f_X1_allows at hM
  refine lv_iload_n hx hb dX1_allows_0 rfl (lv_at hl 1 rfl) ?_
  by_cases c19 : x1 = 4
  · replace hM := i_pos hM c19
    refine lv_tableIn (tgt := 44) hx hb dX1_allows_1 (by rw [c19]; decide) (by rw [c19]; decide) (off := 43) (by rw [c19]; decide) (by decide) ?_
    refine lv_aload_n hx hb dX1_allows_44 rfl (lv_at hl 0 rfl) ?_
    refine q_get (C := RX1) (T := TX1) (N := 6) (ci := 1) E (fun w h => List.mem_cons_of_mem _ (inX1 w h)) hw 12 rfl rfl 3 (by decide) (List.mem_cons_of_mem _ tb_272) (v := .ref (h 44)) rfl dX1_allows_45 ?_
    refine lv_iload_n hx hb dX1_allows_48 rfl (lv_at hl 2 rfl) ?_
    obtain ⟨p1, h2, hM⟩ := b_some hM
    refine q_cv (As := [.int x2]) (rest := []) E hw hl (c_X7_isActive l D cA tS A h L F x2 σ p1 h2) 1 (bwV bw_c tb_564 tb_565 tb_566 tb_52 tb_567) rfl (by decide +kernel) ⟨Nat.le_of_ble_eq_true rfl, Nat.le_of_ble_eq_true rfl⟩ 16 7 (T := TX7) (N := 15) rfl rfl rfl rfl (Nat.le_of_ble_eq_true rfl) ⟨Nat.zero_le _, Nat.zero_le _⟩ dX1_allows_49 (fun H locs hw => ?_)
    obtain ⟨g3, hM⟩ := g_some hM
    cases hM
    exact q_retz E hw g3 dX1_allows_52
  replace hM := i_neg hM c19
  by_cases c20 : x1 = 5
  · replace hM := i_pos hM c20
    refine lv_tableIn (tgt := 53) hx hb dX1_allows_1 (by rw [c20]; decide) (by rw [c20]; decide) (off := 52) (by rw [c20]; decide) (by decide) ?_
    refine lv_aload_n hx hb dX1_allows_53 rfl (lv_at hl 0 rfl) ?_
    refine q_get (C := RX1) (T := TX1) (N := 6) (ci := 1) E (fun w h => List.mem_cons_of_mem _ (inX1 w h)) hw 12 rfl rfl 3 (by decide) (List.mem_cons_of_mem _ tb_272) (v := .ref (h 44)) rfl dX1_allows_54 ?_
    refine q_get (C := RX7) (T := TX7) (N := 15) (ci := 7) E (fun w h => List.mem_cons_of_mem _ (inX7 w h)) hw 16 rfl rfl 5 (by decide) (List.mem_cons_of_mem _ tb_160) (v := .ref (h 21)) rfl dX1_allows_57 ?_
    refine lv_iload_n hx hb dX1_allows_60 rfl (lv_at hl 2 rfl) ?_
    obtain ⟨g4, hM⟩ := g_some hM
    refine q_ald E hw 22 (n := 60) rfl g4 (x := (σ 21 (ix x2))) rfl dX1_allows_61 ?_
    refine lv_iconst (v := 2) hx hb dX1_allows_62 (by decide) ?_
    refine lv_icmp_ne (tgt := 70) hx hb dX1_allows_63 (by decide) (fun c5 => ?_) (fun c5 => ?_)
    · replace hM := i_neg hM c5
      refine lv_iconst (v := 0) hx hb dX1_allows_70 (by decide) ?_
      cases hM
      exact q_retz E hw (by decide) dX1_allows_71
    · replace hM := i_pos hM c5
      refine lv_iconst (v := 1) hx hb dX1_allows_66 (by decide) ?_
      refine lv_goto (tgt := 71) hx hb dX1_allows_67 (by decide) ?_
      cases hM
      exact q_retz E hw (by decide) dX1_allows_71
  replace hM := i_neg hM c20
  by_cases c21 : x1 = 6
  · replace hM := i_pos hM c21
    refine lv_tableIn (tgt := 72) hx hb dX1_allows_1 (by rw [c21]; decide) (by rw [c21]; decide) (off := 71) (by rw [c21]; decide) (by decide) ?_
    refine lv_aload_n hx hb dX1_allows_72 rfl (lv_at hl 0 rfl) ?_
    refine q_get (C := RX1) (T := TX1) (N := 6) (ci := 1) E (fun w h => List.mem_cons_of_mem _ (inX1 w h)) hw 12 rfl rfl 3 (by decide) (List.mem_cons_of_mem _ tb_272) (v := .ref (h 44)) rfl dX1_allows_73 ?_
    refine lv_iload_n hx hb dX1_allows_76 rfl (lv_at hl 2 rfl) ?_
    obtain ⟨p6, h7, hM⟩ := b_some hM
    refine q_cv (As := [.int x2]) (rest := []) E hw hl (c_X7_isActive l D cA tS A h L F x2 σ p6 h7) 1 (bwV bw_c tb_564 tb_565 tb_566 tb_52 tb_567) rfl (by decide +kernel) ⟨Nat.le_of_ble_eq_true rfl, Nat.le_of_ble_eq_true rfl⟩ 16 7 (T := TX7) (N := 15) rfl rfl rfl rfl (Nat.le_of_ble_eq_true rfl) ⟨Nat.zero_le _, Nat.zero_le _⟩ dX1_allows_77 (fun H locs hw => ?_)
    refine lv_if_eq (tgt := 100) hx hb dX1_allows_80 (by decide) (fun c8 => ?_) (fun c8 => ?_)
    · replace hM := i_pos hM c8
      refine lv_iconst (v := 0) hx hb dX1_allows_100 (by decide) ?_
      cases hM
      exact q_retz E hw (by decide) dX1_allows_101
    · replace hM := i_neg hM c8
      refine lv_aload_n hx hb dX1_allows_83 rfl (lv_at hl 0 rfl) ?_
      refine q_get (C := RX1) (T := TX1) (N := 6) (ci := 1) E (fun w h => List.mem_cons_of_mem _ (inX1 w h)) hw 12 rfl rfl 3 (by decide) (List.mem_cons_of_mem _ tb_272) (v := .ref (h 44)) rfl dX1_allows_84 ?_
      refine q_get (C := RX7) (T := TX7) (N := 15) (ci := 7) E (fun w h => List.mem_cons_of_mem _ (inX7 w h)) hw 16 rfl rfl 4 (by decide) (List.mem_cons_of_mem _ tb_157) (v := .ref (h 20)) rfl dX1_allows_87 ?_
      refine lv_iload_n hx hb dX1_allows_90 rfl (lv_at hl 2 rfl) ?_
      obtain ⟨g9, hM⟩ := g_some hM
      refine q_ald E hw 21 (n := 60) rfl g9 (x := (σ 20 (ix x2))) rfl dX1_allows_91 ?_
      refine lv_iconst (v := 3) hx hb dX1_allows_92 (by decide) ?_
      refine lv_icmp_ge (tgt := 100) hx hb dX1_allows_93 (by decide) (fun c10 => ?_) (fun c10 => ?_)
      · replace hM := i_pos hM c10
        refine lv_iconst (v := 0) hx hb dX1_allows_100 (by decide) ?_
        cases hM
        exact q_retz E hw (by decide) dX1_allows_101
      · replace hM := i_neg hM c10
        refine lv_iconst (v := 1) hx hb dX1_allows_96 (by decide) ?_
        refine lv_goto (tgt := 101) hx hb dX1_allows_97 (by decide) ?_
        cases hM
        exact q_retz E hw (by decide) dX1_allows_101
  replace hM := i_neg hM c21
  by_cases c22 : x1 = 7
  · replace hM := i_pos hM c22
    refine lv_tableIn (tgt := 102) hx hb dX1_allows_1 (by rw [c22]; decide) (by rw [c22]; decide) (off := 101) (by rw [c22]; decide) (by decide) ?_
    refine lv_aload_n hx hb dX1_allows_102 rfl (lv_at hl 0 rfl) ?_
    refine q_get (C := RX1) (T := TX1) (N := 6) (ci := 1) E (fun w h => List.mem_cons_of_mem _ (inX1 w h)) hw 12 rfl rfl 3 (by decide) (List.mem_cons_of_mem _ tb_272) (v := .ref (h 44)) rfl dX1_allows_103 ?_
    refine lv_iload_n hx hb dX1_allows_106 rfl (lv_at hl 2 rfl) ?_
    obtain ⟨p11, h12, hM⟩ := b_some hM
    refine q_cv (As := [.int x2]) (rest := []) E hw hl (c_X7_standsAlone l D cA tS A h L F x2 σ p11 h12) 1 (bwV bw_c tb_548 tb_549 tb_550 tb_52 tb_551) rfl (by decide +kernel) ⟨Nat.le_of_ble_eq_true rfl, Nat.le_of_ble_eq_true rfl⟩ 16 7 (T := TX7) (N := 15) rfl rfl rfl rfl (Nat.le_of_ble_eq_true rfl) ⟨Nat.zero_le _, Nat.zero_le _⟩ dX1_allows_107 (fun H locs hw => ?_)
    obtain ⟨g13, hM⟩ := g_some hM
    cases hM
    exact q_retz E hw g13 dX1_allows_110
  replace hM := i_neg hM c22
  by_cases c23 : x1 = 8
  · replace hM := i_pos hM c23
    refine lv_tableIn (tgt := 111) hx hb dX1_allows_1 (by rw [c23]; decide) (by rw [c23]; decide) (off := 110) (by rw [c23]; decide) (by decide) ?_
    refine lv_aload_n hx hb dX1_allows_111 rfl (lv_at hl 0 rfl) ?_
    refine q_get (C := RX1) (T := TX1) (N := 6) (ci := 1) E (fun w h => List.mem_cons_of_mem _ (inX1 w h)) hw 12 rfl rfl 3 (by decide) (List.mem_cons_of_mem _ tb_272) (v := .ref (h 44)) rfl dX1_allows_112 ?_
    refine q_get (C := RX7) (T := TX7) (N := 15) (ci := 7) E (fun w h => List.mem_cons_of_mem _ (inX7 w h)) hw 16 rfl rfl 5 (by decide) (List.mem_cons_of_mem _ tb_160) (v := .ref (h 21)) rfl dX1_allows_115 ?_
    refine lv_iload_n hx hb dX1_allows_118 rfl (lv_at hl 2 rfl) ?_
    obtain ⟨g14, hM⟩ := g_some hM
    refine q_ald E hw 22 (n := 60) rfl g14 (x := (σ 21 (ix x2))) rfl dX1_allows_119 ?_
    refine lv_iconst (v := 3) hx hb dX1_allows_120 (by decide) ?_
    refine lv_icmp_ne (tgt := 141) hx hb dX1_allows_121 (by decide) (fun c15 => ?_) (fun c15 => ?_)
    · replace hM := i_neg hM c15
      refine lv_iconst (v := 0) hx hb dX1_allows_141 (by decide) ?_
      cases hM
      exact q_retz E hw (by decide) dX1_allows_142
    · replace hM := i_pos hM c15
      refine lv_aload_n hx hb dX1_allows_124 rfl (lv_at hl 0 rfl) ?_
      refine q_get (C := RX1) (T := TX1) (N := 6) (ci := 1) E (fun w h => List.mem_cons_of_mem _ (inX1 w h)) hw 12 rfl rfl 3 (by decide) (List.mem_cons_of_mem _ tb_272) (v := .ref (h 44)) rfl dX1_allows_125 ?_
      refine q_get (C := RX7) (T := TX7) (N := 15) (ci := 7) E (fun w h => List.mem_cons_of_mem _ (inX7 w h)) hw 16 rfl rfl 10 (by decide) (List.mem_cons_of_mem _ tb_174) (v := .ref (h 26)) rfl dX1_allows_128 ?_
      refine lv_iload_n hx hb dX1_allows_131 rfl (lv_at hl 2 rfl) ?_
      refine q_ald E hw 27 (n := 60) rfl g14 (x := (σ 26 (ix x2))) rfl dX1_allows_132 ?_
      refine lv_iconst (v := (-1)) hx hb dX1_allows_133 (by decide) ?_
      refine lv_icmp_ne (tgt := 141) hx hb dX1_allows_134 (by decide) (fun c16 => ?_) (fun c16 => ?_)
      · replace hM := i_neg hM c16
        refine lv_iconst (v := 0) hx hb dX1_allows_141 (by decide) ?_
        cases hM
        exact q_retz E hw (by decide) dX1_allows_142
      · replace hM := i_pos hM c16
        refine lv_iconst (v := 1) hx hb dX1_allows_137 (by decide) ?_
        refine lv_goto (tgt := 142) hx hb dX1_allows_138 (by decide) ?_
        cases hM
        exact q_retz E hw (by decide) dX1_allows_142
  replace hM := i_neg hM c23
  by_cases c24 : x1 = 10
  · replace hM := i_pos hM c24
    refine lv_tableIn (tgt := 143) hx hb dX1_allows_1 (by rw [c24]; decide) (by rw [c24]; decide) (off := 142) (by rw [c24]; decide) (by decide) ?_
    refine lv_aload_n hx hb dX1_allows_143 rfl (lv_at hl 0 rfl) ?_
    refine q_get (C := RX1) (T := TX1) (N := 6) (ci := 1) E (fun w h => List.mem_cons_of_mem _ (inX1 w h)) hw 12 rfl rfl 3 (by decide) (List.mem_cons_of_mem _ tb_272) (v := .ref (h 44)) rfl dX1_allows_144 ?_
    refine q_get (C := RX7) (T := TX7) (N := 15) (ci := 7) E (fun w h => List.mem_cons_of_mem _ (inX7 w h)) hw 16 rfl rfl 5 (by decide) (List.mem_cons_of_mem _ tb_160) (v := .ref (h 21)) rfl dX1_allows_147 ?_
    refine lv_iload_n hx hb dX1_allows_150 rfl (lv_at hl 2 rfl) ?_
    obtain ⟨g17, hM⟩ := g_some hM
    refine q_ald E hw 22 (n := 60) rfl g17 (x := (σ 21 (ix x2))) rfl dX1_allows_151 ?_
    refine lv_iconst (v := 4) hx hb dX1_allows_152 (by decide) ?_
    refine lv_icmp_ne (tgt := 160) hx hb dX1_allows_153 (by decide) (fun c18 => ?_) (fun c18 => ?_)
    · replace hM := i_neg hM c18
      refine lv_iconst (v := 0) hx hb dX1_allows_160 (by decide) ?_
      cases hM
      exact q_retz E hw (by decide) dX1_allows_161
    · replace hM := i_pos hM c18
      refine lv_iconst (v := 1) hx hb dX1_allows_156 (by decide) ?_
      refine lv_goto (tgt := 161) hx hb dX1_allows_157 (by decide) ?_
      cases hM
      exact q_retz E hw (by decide) dX1_allows_161
  replace hM := i_neg hM c24
  refine q_tableD (tgt := 162) hx hb dX1_allows_1 (fun hq => ?_) (by decide) ?_
  · have hz : (x1).toInt = 4 ∨ (x1).toInt = 5 ∨ (x1).toInt = 6 ∨ (x1).toInt = 7 ∨ (x1).toInt = 8 ∨ (x1).toInt = 9 ∨ (x1).toInt = 10 := by omega
    rcases hz with hz | hz | hz | hz | hz | hz | hz
    · exact absurd (Int32.toInt_inj.mp (hz.trans (by decide))) c19
    · exact absurd (Int32.toInt_inj.mp (hz.trans (by decide))) c20
    · exact absurd (Int32.toInt_inj.mp (hz.trans (by decide))) c21
    · exact absurd (Int32.toInt_inj.mp (hz.trans (by decide))) c22
    · exact absurd (Int32.toInt_inj.mp (hz.trans (by decide))) c23
    · rw [hz]; decide
    · exact absurd (Int32.toInt_inj.mp (hz.trans (by decide))) c24
  refine lv_iconst (v := 0) hx hb dX1_allows_162 (by decide) ?_
  cases hM
  exact q_retz E hw (by decide) dX1_allows_163
set_option maxRecDepth 100000 in
set_option maxHeartbeats 4000000 in
theorem c_X1_ticketError (l : Launch) (D : va_G) (cA : Nat → ClassId) (tS : Nat → Nat) (A : Nat → Prop) (h : Nat → Nat) (L : Nat) (F : va_W) (x1 : Int32) (x2 : Int32) (σ : Sg) (r0 : Int32) (hM : f_X1_ticketError x1 x2 σ = some r0) : Ct l yX1_ticketError (Cond.code yX1_ticketError cX1_ticketError 3 (some .int) :: bw) 2 43 D cA tS A [.ref (h 42), .int x1, .int x2] (wK cA h σ ++ (wLg cA h σ L ++ (wC cA h σ ++ F))) (some (.int r0)) (wK cA h σ ++ (wLg cA h σ L ++ (wC cA h σ ++ F))) := by
  refine ct_of (by decide +kernel) (Nat.le_of_ble_eq_true rfl) ?_
  intro p e s m below meth c E hw ls hl
  replace E : Ev p cX1_ticketError 3 (some .int) RX1 (Cond.code yX1_ticketError cX1_ticketError 3 (some .int) :: bw) D cA tS A s m _ meth c := E
  replace hl : lv_has ls 3 [(0, .ref (h 42)), (1, .int x1), (2, .int x2)] := hl
  have hx := E.1.1
  have hb := E.1.2.1
  unfold f_X1_ticketError at hM
  refine lv_aload_n hx hb dX1_ticketError_0 rfl (lv_at hl 0 rfl) ?_
  refine q_get (C := RX1) (T := TX1) (N := 6) (ci := 1) E (fun w h => List.mem_cons_of_mem _ (inX1 w h)) hw 12 rfl rfl 3 (by decide) (List.mem_cons_of_mem _ tb_272) (v := .ref (h 44)) rfl dX1_ticketError_1 ?_
  refine lv_iload_n hx hb dX1_ticketError_4 rfl (lv_at hl 2 rfl) ?_
  obtain ⟨p1, h2, hM⟩ := b_some hM
  refine q_cv (As := [.int x2]) (rest := []) E hw hl (c_X7_exists l D cA tS A h L F x2 σ p1 h2) 1 (bwV bw_c tb_544 tb_545 tb_546 tb_52 tb_547) rfl (by decide +kernel) ⟨Nat.le_of_ble_eq_true rfl, Nat.le_of_ble_eq_true rfl⟩ 16 7 (T := TX7) (N := 15) rfl rfl rfl rfl (Nat.le_of_ble_eq_true rfl) ⟨Nat.zero_le _, Nat.zero_le _⟩ dX1_ticketError_5 (fun H locs hw => ?_)
  refine lv_if_ne (tgt := 14) hx hb dX1_ticketError_8 (by decide) (fun c3 => ?_) (fun c3 => ?_)
  · replace hM := i_neg hM c3
    refine lv_aload_n hx hb dX1_ticketError_14 rfl (lv_at hl 0 rfl) ?_
    refine lv_iload_n hx hb dX1_ticketError_15 rfl (lv_at hl 1 rfl) ?_
    refine lv_iload_n hx hb dX1_ticketError_16 rfl (lv_at hl 2 rfl) ?_
    obtain ⟨p4, h5, hM⟩ := b_some hM
    refine q_cv (As := [.int x1, .int x2]) (rest := []) E hw hl (c_X1_allows l D cA tS A h L F x1 x2 σ p4 h5) 2 (bwV bw_c tb_560 tb_562 tb_12 tb_49 tb_563) rfl (by decide +kernel) ⟨Nat.le_of_ble_eq_true rfl, Nat.le_of_ble_eq_true rfl⟩ 12 1 (T := TX1) (N := 6) rfl rfl rfl rfl (Nat.le_of_ble_eq_true rfl) ⟨Nat.zero_le _, Nat.zero_le _⟩ dX1_ticketError_17 (fun H locs hw => ?_)
    refine lv_if_eq (tgt := 27) hx hb dX1_ticketError_20 (by decide) (fun c6 => ?_) (fun c6 => ?_)
    · replace hM := i_pos hM c6
      refine lv_bipush (v := (-5)) hx hb dX1_ticketError_27 (by decide) ?_
      cases hM
      exact q_reti E hw dX1_ticketError_29
    · replace hM := i_neg hM c6
      refine lv_iconst (v := 0) hx hb dX1_ticketError_23 (by decide) ?_
      refine lv_goto (tgt := 29) hx hb dX1_ticketError_24 (by decide) ?_
      cases hM
      exact q_reti E hw dX1_ticketError_29
  · replace hM := i_pos hM c3
    refine lv_bipush (v := (-2)) hx hb dX1_ticketError_11 (by decide) ?_
    cases hM
    exact q_reti E hw dX1_ticketError_13
set_option maxRecDepth 100000 in
set_option maxHeartbeats 4000000 in
theorem c_X1_errorOf (l : Launch) (D : va_G) (cA : Nat → ClassId) (tS : Nat → Nat) (A : Nat → Prop) (h : Nat → Nat) (L : Nat) (F : va_W) (x1 : Int32) (x2 : Int32) (x3 : Int32) (x4 : Int32) (x5 : Int32) (σ : Sg) (r0 : Int32) (hM : f_X1_errorOf x1 x2 x3 x4 x5 σ = some r0) : Ct l yX1_errorOf (Cond.code yX1_errorOf cX1_errorOf 6 (some .int) :: bw) 3 65 D cA tS A [.ref (h 42), .int x1, .int x2, .int x3, .int x4, .int x5] (wK cA h σ ++ (wLg cA h σ L ++ (wC cA h σ ++ F))) (some (.int r0)) (wK cA h σ ++ (wLg cA h σ L ++ (wC cA h σ ++ F))) := by
  refine ct_of (by decide +kernel) (Nat.le_of_ble_eq_true rfl) ?_
  intro p e s m below meth c E hw ls hl
  replace E : Ev p cX1_errorOf 6 (some .int) RX1 (Cond.code yX1_errorOf cX1_errorOf 6 (some .int) :: bw) D cA tS A s m _ meth c := E
  replace hl : lv_has ls 6 [(0, .ref (h 42)), (1, .int x1), (2, .int x2), (3, .int x3), (4, .int x4), (5, .int x5)] := hl
  have hx := E.1.1
  have hb := E.1.2.1
  unfold f_X1_errorOf at hM
  refine lv_iload_n hx hb dX1_errorOf_0 rfl (lv_at hl 1 rfl) ?_
  by_cases c17 : x1 = 0
  · replace hM := i_pos hM c17
    refine lv_tableIn (tgt := 64) hx hb dX1_errorOf_1 (by rw [c17]; decide) (by rw [c17]; decide) (off := 63) (by rw [c17]; decide) (by decide) ?_
    refine lv_aload_n hx hb dX1_errorOf_64 rfl (lv_at hl 0 rfl) ?_
    refine lv_iload_n hx hb dX1_errorOf_65 rfl (lv_at hl 2 rfl) ?_
    refine lv_iload_n hx hb dX1_errorOf_66 rfl (lv_at hl 3 rfl) ?_
    refine lv_iload hx hb dX1_errorOf_67 (lv_at hl 4 rfl) ?_
    obtain ⟨p3, h4, hM⟩ := b_some hM
    refine q_cv (As := [.int x2, .int x3, .int x4]) (rest := []) E hw hl (c_X1_dayError l D cA tS A h L F x2 x3 x4 σ p3 h4) 3 (bwV bw_c tb_527 tb_529 tb_7 tb_49 tb_530) rfl (by decide +kernel) ⟨Nat.le_of_ble_eq_true rfl, Nat.le_of_ble_eq_true rfl⟩ 12 1 (T := TX1) (N := 6) rfl rfl rfl rfl (Nat.le_of_ble_eq_true rfl) ⟨Nat.zero_le _, Nat.zero_le _⟩ dX1_errorOf_69 (fun H locs hw => ?_)
    cases hM
    exact q_reti E hw dX1_errorOf_72
  replace hM := i_neg hM c17
  by_cases c18 : x1 = 2
  · replace hM := i_pos hM c18
    refine lv_tableIn (tgt := 73) hx hb dX1_errorOf_1 (by rw [c18]; decide) (by rw [c18]; decide) (off := 72) (by rw [c18]; decide) (by decide) ?_
    refine lv_iload_n hx hb dX1_errorOf_73 rfl (lv_at hl 2 rfl) ?_
    refine lv_iconst (v := 0) hx hb dX1_errorOf_74 (by decide) ?_
    refine lv_iconst (v := 3) hx hb dX1_errorOf_75 (by decide) ?_
    obtain ⟨p5, h6, hM⟩ := b_some hM
    refine q_cn (host := "HelpDesk") (As := [.int x2, .int 0, .int 3]) (rest := []) E hw hl (c_X8_within l D cA tS A (wK cA h σ ++ (wLg cA h σ L ++ (wC cA h σ ++ F))) x2 0 3 p5 h6) 3 (bwc bw_c tb_452) rfl (by decide +kernel) (List.mem_cons_of_mem _ tb_47) (List.mem_cons_of_mem _ tb_451) (by decide +kernel) ⟨Nat.le_of_ble_eq_true rfl, Nat.le_of_ble_eq_true rfl⟩ rfl rfl (Nat.le_of_ble_eq_true rfl) ⟨Nat.zero_le _, Nat.zero_le _⟩ dX1_errorOf_76 (fun H locs hw => ?_)
    refine lv_if_eq (tgt := 96) hx hb dX1_errorOf_79 (by decide) (fun c7 => ?_) (fun c7 => ?_)
    · replace hM := i_pos hM c7
      refine lv_bipush (v := (-4)) hx hb dX1_errorOf_96 (by decide) ?_
      cases hM
      exact q_reti E hw dX1_errorOf_98
    · replace hM := i_neg hM c7
      refine lv_iload_n hx hb dX1_errorOf_82 rfl (lv_at hl 3 rfl) ?_
      refine lv_iconst (v := 0) hx hb dX1_errorOf_83 (by decide) ?_
      refine lv_bipush (v := 9) hx hb dX1_errorOf_84 (by decide) ?_
      obtain ⟨p8, h9, hM⟩ := b_some hM
      refine q_cn (host := "HelpDesk") (As := [.int x3, .int 0, .int 9]) (rest := []) E hw hl (c_X8_within l D cA tS A (wK cA h σ ++ (wLg cA h σ L ++ (wC cA h σ ++ F))) x3 0 9 p8 h9) 3 (bwc bw_c tb_452) rfl (by decide +kernel) (List.mem_cons_of_mem _ tb_47) (List.mem_cons_of_mem _ tb_451) (by decide +kernel) ⟨Nat.le_of_ble_eq_true rfl, Nat.le_of_ble_eq_true rfl⟩ rfl rfl (Nat.le_of_ble_eq_true rfl) ⟨Nat.zero_le _, Nat.zero_le _⟩ dX1_errorOf_86 (fun H locs hw => ?_)
      refine lv_if_eq (tgt := 96) hx hb dX1_errorOf_89 (by decide) (fun c10 => ?_) (fun c10 => ?_)
      · replace hM := i_pos hM c10
        refine lv_bipush (v := (-4)) hx hb dX1_errorOf_96 (by decide) ?_
        cases hM
        exact q_reti E hw dX1_errorOf_98
      · replace hM := i_neg hM c10
        refine lv_iconst (v := 0) hx hb dX1_errorOf_92 (by decide) ?_
        refine lv_goto (tgt := 98) hx hb dX1_errorOf_93 (by decide) ?_
        cases hM
        exact q_reti E hw dX1_errorOf_98
  replace hM := i_neg hM c18
  by_cases c19 : x1 = 3
  · replace hM := i_pos hM c19
    refine lv_tableIn (tgt := 99) hx hb dX1_errorOf_1 (by rw [c19]; decide) (by rw [c19]; decide) (off := 98) (by rw [c19]; decide) (by decide) ?_
    refine lv_aload_n hx hb dX1_errorOf_99 rfl (lv_at hl 0 rfl) ?_
    refine lv_iload_n hx hb dX1_errorOf_100 rfl (lv_at hl 2 rfl) ?_
    refine lv_iload_n hx hb dX1_errorOf_101 rfl (lv_at hl 3 rfl) ?_
    refine lv_iload hx hb dX1_errorOf_102 (lv_at hl 4 rfl) ?_
    refine lv_iload hx hb dX1_errorOf_104 (lv_at hl 5 rfl) ?_
    obtain ⟨p11, h12, hM⟩ := b_some hM
    refine q_cv (As := [.int x2, .int x3, .int x4, .int x5]) (rest := []) E hw hl (c_X1_reportError l D cA tS A h L F x2 x3 x4 x5 σ p11 h12) 4 (bwV bw_c tb_532 tb_534 tb_8 tb_49 tb_535) rfl (by decide +kernel) ⟨Nat.le_of_ble_eq_true rfl, Nat.le_of_ble_eq_true rfl⟩ 12 1 (T := TX1) (N := 6) rfl rfl rfl rfl (Nat.le_of_ble_eq_true rfl) ⟨Nat.zero_le _, Nat.zero_le _⟩ dX1_errorOf_106 (fun H locs hw => ?_)
    cases hM
    exact q_reti E hw dX1_errorOf_109
  replace hM := i_neg hM c19
  by_cases c20 : x1 = 9
  · replace hM := i_pos hM c20
    refine lv_tableIn (tgt := 110) hx hb dX1_errorOf_1 (by rw [c20]; decide) (by rw [c20]; decide) (off := 109) (by rw [c20]; decide) (by decide) ?_
    refine lv_aload_n hx hb dX1_errorOf_110 rfl (lv_at hl 0 rfl) ?_
    refine lv_iload_n hx hb dX1_errorOf_111 rfl (lv_at hl 2 rfl) ?_
    refine lv_iload_n hx hb dX1_errorOf_112 rfl (lv_at hl 3 rfl) ?_
    obtain ⟨p13, h14, hM⟩ := b_some hM
    refine q_cv (As := [.int x2, .int x3]) (rest := []) E hw hl (c_X1_joinError l D cA tS A h L F x2 x3 σ p13 h14) 2 (bwV bw_c tb_540 tb_542 tb_9 tb_49 tb_543) rfl (by decide +kernel) ⟨Nat.le_of_ble_eq_true rfl, Nat.le_of_ble_eq_true rfl⟩ 12 1 (T := TX1) (N := 6) rfl rfl rfl rfl (Nat.le_of_ble_eq_true rfl) ⟨Nat.zero_le _, Nat.zero_le _⟩ dX1_errorOf_113 (fun H locs hw => ?_)
    cases hM
    exact q_reti E hw dX1_errorOf_116
  replace hM := i_neg hM c20
  by_cases c21 : x1 = 11
  · replace hM := i_pos hM c21
    refine lv_tableIn (tgt := 117) hx hb dX1_errorOf_1 (by rw [c21]; decide) (by rw [c21]; decide) (off := 116) (by rw [c21]; decide) (by decide) ?_
    refine lv_aload_n hx hb dX1_errorOf_117 rfl (lv_at hl 0 rfl) ?_
    refine lv_iload_n hx hb dX1_errorOf_118 rfl (lv_at hl 2 rfl) ?_
    refine lv_iload_n hx hb dX1_errorOf_119 rfl (lv_at hl 3 rfl) ?_
    obtain ⟨p15, h16, hM⟩ := b_some hM
    refine q_cv (As := [.int x2, .int x3]) (rest := []) E hw hl (c_X1_priorityError l D cA tS A h L F x2 x3 σ p15 h16) 2 (bwV bw_c tb_552 tb_554 tb_10 tb_49 tb_555) rfl (by decide +kernel) ⟨Nat.le_of_ble_eq_true rfl, Nat.le_of_ble_eq_true rfl⟩ 12 1 (T := TX1) (N := 6) rfl rfl rfl rfl (Nat.le_of_ble_eq_true rfl) ⟨Nat.zero_le _, Nat.zero_le _⟩ dX1_errorOf_120 (fun H locs hw => ?_)
    cases hM
    exact q_reti E hw dX1_errorOf_123
  replace hM := i_neg hM c21
  refine q_tableD (tgt := 124) hx hb dX1_errorOf_1 (fun hq => ?_) (by decide) ?_
  · have hz : (x1).toInt = 0 ∨ (x1).toInt = 1 ∨ (x1).toInt = 2 ∨ (x1).toInt = 3 ∨ (x1).toInt = 4 ∨ (x1).toInt = 5 ∨ (x1).toInt = 6 ∨ (x1).toInt = 7 ∨ (x1).toInt = 8 ∨ (x1).toInt = 9 ∨ (x1).toInt = 10 ∨ (x1).toInt = 11 := by omega
    rcases hz with hz | hz | hz | hz | hz | hz | hz | hz | hz | hz | hz | hz
    · exact absurd (Int32.toInt_inj.mp (hz.trans (by decide))) c17
    · rw [hz]; decide
    · exact absurd (Int32.toInt_inj.mp (hz.trans (by decide))) c18
    · exact absurd (Int32.toInt_inj.mp (hz.trans (by decide))) c19
    · rw [hz]; decide
    · rw [hz]; decide
    · rw [hz]; decide
    · rw [hz]; decide
    · rw [hz]; decide
    · exact absurd (Int32.toInt_inj.mp (hz.trans (by decide))) c20
    · rw [hz]; decide
    · exact absurd (Int32.toInt_inj.mp (hz.trans (by decide))) c21
  refine lv_aload_n hx hb dX1_errorOf_124 rfl (lv_at hl 0 rfl) ?_
  refine lv_iload_n hx hb dX1_errorOf_125 rfl (lv_at hl 1 rfl) ?_
  refine lv_iload_n hx hb dX1_errorOf_126 rfl (lv_at hl 2 rfl) ?_
  obtain ⟨p1, h2, hM⟩ := b_some hM
  refine q_cv (As := [.int x1, .int x2]) (rest := []) E hw hl (c_X1_ticketError l D cA tS A h L F x1 x2 σ p1 h2) 2 (bwV bw_c tb_556 tb_558 tb_11 tb_49 tb_559) rfl (by decide +kernel) ⟨Nat.le_of_ble_eq_true rfl, Nat.le_of_ble_eq_true rfl⟩ 12 1 (T := TX1) (N := 6) rfl rfl rfl rfl (Nat.le_of_ble_eq_true rfl) ⟨Nat.zero_le _, Nat.zero_le _⟩ dX1_errorOf_127 (fun H locs hw => ?_)
  cases hM
  exact q_reti E hw dX1_errorOf_130
