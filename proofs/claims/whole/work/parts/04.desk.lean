def f_X0_begin    (σ : Sg) : Option (Sg) := some (upr (upr σ 13 (va_cpy sA0 (σ 13) (ix 0) (ix 0) (ix 7))) 14 (va_cpy sA1 (σ 14) (ix 0) (ix 0) (ix 7)))
set_option maxRecDepth 100000 in
set_option maxHeartbeats 4000000 in
theorem c_X0_begin (l : Launch) (D : va_G) (cA : Nat → ClassId) (tS : Nat → Nat) (A : Nat → Prop) (h : Nat → Nat) (L : Nat) (F : va_W) (σ : Sg) (s0 : Sg) (hM : f_X0_begin σ = some s0) : Ct l yX0_begin (Cond.code yX0_begin cX0_begin 1 none :: bw) 1 53 D cA tS A [.ref (h 43)] (wK cA h σ ++ (wLg cA h σ L ++ (wC cA h σ ++ F))) none (wK cA h s0 ++ (wLg cA h s0 L ++ (wC cA h s0 ++ F))) := by
  refine ct_of (by decide +kernel) (Nat.le_of_ble_eq_true rfl) ?_
  intro p e s m below meth c E hw ls hl
  replace E : Ev p cX0_begin 1 none RX0 (Cond.code yX0_begin cX0_begin 1 none :: bw) D cA tS A s m _ meth c := E
  replace hl : lv_has ls 1 [(0, .ref (h 43))] := hl
  have hx := E.1.1
  have hb := E.1.2.1
  unfold f_X0_begin at hM
  refine va_getsN hx hb (E.2.2.2.2.2.2.1.1.1) hw.2.2 E.1.2.2.2.1 (va_Nw.use rfl (E.2.2.2.2.2.1 (.fieldLinkNest RX0 18 RX8 "FIRST_OPENING" "[I" "HelpDesk") (by decide +kernel))) (fun _ h => h) dX0_begin_0 ?_
  refine lv_iconst (v := 0) hx hb dX0_begin_3 (by decide) ?_
  refine lv_aload_n hx hb dX0_begin_4 rfl (lv_at hl 0 rfl) ?_
  refine q_get (C := RX0) (T := TX0) (N := 2) (ci := 0) E (fun w h => List.mem_cons_of_mem _ (inX0 w h)) hw 13 rfl rfl 0 (by decide) (List.mem_cons_of_mem _ tb_247) (v := .ref (h 13)) rfl dX0_begin_5 ?_
  refine lv_iconst (v := 0) hx hb dX0_begin_8 (by decide) ?_
  refine lv_bipush (v := 7) hx hb dX0_begin_9 (by decide) ?_
  refine q_copyt E hw hl (E.2.2.2.2.2.2.1.1.2) 14 rfl rfl (List.mem_cons_of_mem _ tb_365) (List.mem_cons_of_mem _ tb_367) (List.mem_cons_of_mem _ tb_366) (List.mem_cons_of_mem _ tb_109) (by decide +kernel) (by decide +kernel) (by decide +kernel) (by decide +kernel) (by decide +kernel) (Nat.le_of_ble_eq_true rfl) (Nat.le_of_ble_eq_true rfl) (wK cA h (upr σ 13 (va_cpy sA0 (σ 13) (ix 0) (ix 0) (ix 7))) ++ (wLg cA h (upr σ 13 (va_cpy sA0 (σ 13) (ix 0) (ix 0) (ix 7))) L ++ (wC cA h (upr σ 13 (va_cpy sA0 (σ 13) (ix 0) (ix 0) (ix 7))) ++ F))) st_K_Lg_C_13r dX0_begin_11 (fun H locs hw => ?_)
  refine va_getsN hx hb (E.2.2.2.2.2.2.1.2.1.1) hw.2.2 E.1.2.2.2.1 (va_Nw.use rfl (E.2.2.2.2.2.1 (.fieldLinkNest RX0 27 RX8 "FIRST_CLOSING" "[I" "HelpDesk") (by decide +kernel))) (fun _ h => h) dX0_begin_14 ?_
  refine lv_iconst (v := 0) hx hb dX0_begin_17 (by decide) ?_
  refine lv_aload_n hx hb dX0_begin_18 rfl (lv_at hl 0 rfl) ?_
  refine q_get (C := RX0) (T := TX0) (N := 2) (ci := 0) E (fun w h => List.mem_cons_of_mem _ (inX0 w h)) hw 13 rfl rfl 1 (by decide) (List.mem_cons_of_mem _ tb_249) (v := .ref (h 14)) rfl dX0_begin_19 ?_
  refine lv_iconst (v := 0) hx hb dX0_begin_22 (by decide) ?_
  refine lv_bipush (v := 7) hx hb dX0_begin_23 (by decide) ?_
  refine q_copyt E hw hl (E.2.2.2.2.2.2.1.2.1.2) 15 rfl (upr_ne σ 13 (va_cpy sA0 (σ 13) (ix 0) (ix 0) (ix 7)) 14 (by decide)) (List.mem_cons_of_mem _ tb_365) (List.mem_cons_of_mem _ tb_367) (List.mem_cons_of_mem _ tb_366) (List.mem_cons_of_mem _ tb_109) (by decide +kernel) (by decide +kernel) (by decide +kernel) (by decide +kernel) (by decide +kernel) (Nat.le_of_ble_eq_true rfl) (Nat.le_of_ble_eq_true rfl) (wK cA h (upr (upr σ 13 (va_cpy sA0 (σ 13) (ix 0) (ix 0) (ix 7))) 14 (va_cpy sA1 (σ 14) (ix 0) (ix 0) (ix 7))) ++ (wLg cA h (upr (upr σ 13 (va_cpy sA0 (σ 13) (ix 0) (ix 0) (ix 7))) 14 (va_cpy sA1 (σ 14) (ix 0) (ix 0) (ix 7))) L ++ (wC cA h (upr (upr σ 13 (va_cpy sA0 (σ 13) (ix 0) (ix 0) (ix 7))) 14 (va_cpy sA1 (σ 14) (ix 0) (ix 0) (ix 7))) ++ F))) st_K_Lg_C_14r dX0_begin_25 (fun H locs hw => ?_)
  cases hM
  exact q_retv E hw dX0_begin_28
def f_X0_setHours    (x1 : Int32) (x2 : Int32) (x3 : Int32) (σ : Sg) : Option (Sg) := if ib x1 7 then some (up (up σ 13 (ix x1) x2) 14 (ix x1) x3) else none
set_option maxRecDepth 100000 in
set_option maxHeartbeats 4000000 in
theorem c_X0_setHours (l : Launch) (D : va_G) (cA : Nat → ClassId) (tS : Nat → Nat) (A : Nat → Prop) (h : Nat → Nat) (L : Nat) (F : va_W) (x1 : Int32) (x2 : Int32) (x3 : Int32) (σ : Sg) (s0 : Sg) (hM : f_X0_setHours x1 x2 x3 σ = some s0) : Ct l yX0_setHours (Cond.code yX0_setHours cX0_setHours 4 none :: bw) 0 0 D cA tS A [.ref (h 43), .int x1, .int x2, .int x3] (wK cA h σ ++ (wLg cA h σ L ++ (wC cA h σ ++ F))) none (wK cA h s0 ++ (wLg cA h s0 L ++ (wC cA h s0 ++ F))) := by
  refine ct_of (by decide +kernel) (Nat.le_of_ble_eq_true rfl) ?_
  intro p e s m below meth c E hw ls hl
  replace E : Ev p cX0_setHours 4 none RX0 (Cond.code yX0_setHours cX0_setHours 4 none :: bw) D cA tS A s m _ meth c := E
  replace hl : lv_has ls 4 [(0, .ref (h 43)), (1, .int x1), (2, .int x2), (3, .int x3)] := hl
  have hx := E.1.1
  have hb := E.1.2.1
  unfold f_X0_setHours at hM
  refine lv_aload_n hx hb dX0_setHours_0 rfl (lv_at hl 0 rfl) ?_
  refine q_get (C := RX0) (T := TX0) (N := 2) (ci := 0) E (fun w h => List.mem_cons_of_mem _ (inX0 w h)) hw 13 rfl rfl 0 (by decide) (List.mem_cons_of_mem _ tb_247) (v := .ref (h 13)) rfl dX0_setHours_1 ?_
  refine lv_iload_n hx hb dX0_setHours_4 rfl (lv_at hl 1 rfl) ?_
  refine lv_iload_n hx hb dX0_setHours_5 rfl (lv_at hl 2 rfl) ?_
  obtain ⟨g1, hM⟩ := g_some hM
  refine q_ast E hw 14 (n := 7) rfl g1 (wK cA h (up σ 13 (ix x1) x2) ++ (wLg cA h (up σ 13 (ix x1) x2) L ++ (wC cA h (up σ 13 (ix x1) x2) ++ F))) st_K_Lg_C_13 dX0_setHours_6 (fun H locs hw => ?_)
  refine lv_aload_n hx hb dX0_setHours_7 rfl (lv_at hl 0 rfl) ?_
  refine q_get (C := RX0) (T := TX0) (N := 2) (ci := 0) E (fun w h => List.mem_cons_of_mem _ (inX0 w h)) hw 13 rfl rfl 1 (by decide) (List.mem_cons_of_mem _ tb_249) (v := .ref (h 14)) rfl dX0_setHours_8 ?_
  refine lv_iload_n hx hb dX0_setHours_11 rfl (lv_at hl 1 rfl) ?_
  refine lv_iload_n hx hb dX0_setHours_12 rfl (lv_at hl 3 rfl) ?_
  refine q_ast E hw 15 (n := 7) rfl g1 (wK cA h (up (up σ 13 (ix x1) x2) 14 (ix x1) x3) ++ (wLg cA h (up (up σ 13 (ix x1) x2) 14 (ix x1) x3) L ++ (wC cA h (up (up σ 13 (ix x1) x2) 14 (ix x1) x3) ++ F))) st_K_Lg_C_14 dX0_setHours_13 (fun H locs hw => ?_)
  cases hM
  exact q_retv E hw dX0_setHours_14
def f_X8_within    (x0 : Int32) (x1 : Int32) (x2 : Int32) : Option (Int32) := (if x0 < x1 then some 0 else (if x2 < x0 then some 0 else some 1))
set_option maxRecDepth 100000 in
set_option maxHeartbeats 4000000 in
theorem c_X8_within (l : Launch) (D : va_G) (cA : Nat → ClassId) (tS : Nat → Nat) (A : Nat → Prop) (F : va_W) (x0 : Int32) (x1 : Int32) (x2 : Int32) (r0 : Int32) (hM : f_X8_within x0 x1 x2 = some r0) : Ct l yX8_within (Cond.code yX8_within cX8_within 3 (some .boolean) :: bw) 0 0 D cA tS A [.int x0, .int x1, .int x2] F (some (.int r0)) F := by
  refine ct_of (by decide +kernel) (Nat.le_of_ble_eq_true rfl) ?_
  intro p e s m below meth c E hw ls hl
  replace E : Ev p cX8_within 3 (some .boolean) RX8 (Cond.code yX8_within cX8_within 3 (some .boolean) :: bw) D cA tS A s m _ meth c := E
  replace hl : lv_has ls 3 [(0, .int x0), (1, .int x1), (2, .int x2)] := hl
  have hx := E.1.1
  have hb := E.1.2.1
  unfold f_X8_within at hM
  refine lv_iload_n hx hb dX8_within_0 rfl (lv_at hl 0 rfl) ?_
  refine lv_iload_n hx hb dX8_within_1 rfl (lv_at hl 1 rfl) ?_
  refine lv_icmp_lt (tgt := 14) hx hb dX8_within_2 (by decide) (fun c1 => ?_) (fun c1 => ?_)
  · replace hM := i_pos hM c1
    refine lv_iconst (v := 0) hx hb dX8_within_14 (by decide) ?_
    cases hM
    exact q_retz E hw (by decide) dX8_within_15
  · replace hM := i_neg hM c1
    refine lv_iload_n hx hb dX8_within_5 rfl (lv_at hl 0 rfl) ?_
    refine lv_iload_n hx hb dX8_within_6 rfl (lv_at hl 2 rfl) ?_
    refine lv_icmp_gt (tgt := 14) hx hb dX8_within_7 (by decide) (fun c2 => ?_) (fun c2 => ?_)
    · replace hM := i_pos hM c2
      refine lv_iconst (v := 0) hx hb dX8_within_14 (by decide) ?_
      cases hM
      exact q_retz E hw (by decide) dX8_within_15
    · replace hM := i_neg hM c2
      refine lv_iconst (v := 1) hx hb dX8_within_10 (by decide) ?_
      refine lv_goto (tgt := 15) hx hb dX8_within_11 (by decide) ?_
      cases hM
      exact q_retz E hw (by decide) dX8_within_15
def f_X0_opensAt    (x1 : Int32) (σ : Sg) : Option (Int32) := (f_X8_within x1 0 10079).bind (fun p1 => (if p1 = 0 then some 0 else if ib (x1 / 1440) 7 then (f_X8_within (x1 - ((x1 / 1440) * 1440)) (σ 13 (ix (x1 / 1440))) ((σ 14 (ix (x1 / 1440))) - 1)).bind (fun p5 => if bz p5 then some p5 else none) else none))
set_option maxRecDepth 100000 in
set_option maxHeartbeats 4000000 in
theorem c_X0_opensAt (l : Launch) (D : va_G) (cA : Nat → ClassId) (tS : Nat → Nat) (A : Nat → Prop) (h : Nat → Nat) (L : Nat) (F : va_W) (x1 : Int32) (σ : Sg) (r0 : Int32) (hM : f_X0_opensAt x1 σ = some r0) : Ct l yX0_opensAt (Cond.code yX0_opensAt cX0_opensAt 2 (some .boolean) :: bw) 1 22 D cA tS A [.ref (h 43), .int x1] (wK cA h σ ++ (wLg cA h σ L ++ (wC cA h σ ++ F))) (some (.int r0)) (wK cA h σ ++ (wLg cA h σ L ++ (wC cA h σ ++ F))) := by
  refine ct_of (by decide +kernel) (Nat.le_of_ble_eq_true rfl) ?_
  intro p e s m below meth c E hw ls hl
  replace E : Ev p cX0_opensAt 2 (some .boolean) RX0 (Cond.code yX0_opensAt cX0_opensAt 2 (some .boolean) :: bw) D cA tS A s m _ meth c := E
  replace hl : lv_has ls 2 [(0, .ref (h 43)), (1, .int x1)] := hl
  have hx := E.1.1
  have hb := E.1.2.1
  unfold f_X0_opensAt at hM
  refine lv_iload_n hx hb dX0_opensAt_0 rfl (lv_at hl 1 rfl) ?_
  refine lv_iconst (v := 0) hx hb dX0_opensAt_1 (by decide) ?_
  refine lv_sipush (v := 10079) hx hb dX0_opensAt_2 (by decide) ?_
  obtain ⟨p1, h2, hM⟩ := b_some hM
  refine q_cn (host := "HelpDesk") (As := [.int x1, .int 0, .int 10079]) (rest := []) E hw hl (c_X8_within l D cA tS A (wK cA h σ ++ (wLg cA h σ L ++ (wC cA h σ ++ F))) x1 0 10079 p1 h2) 3 (bwc bw_c tb_482) rfl (by decide +kernel) (List.mem_cons_of_mem _ tb_100) (List.mem_cons_of_mem _ tb_481) (by decide +kernel) ⟨Nat.le_of_ble_eq_true rfl, Nat.le_of_ble_eq_true rfl⟩ rfl rfl (Nat.le_of_ble_eq_true rfl) ⟨Nat.zero_le _, Nat.zero_le _⟩ dX0_opensAt_5 (fun H locs hw => ?_)
  refine lv_if_ne (tgt := 13) hx hb dX0_opensAt_8 (by decide) (fun c3 => ?_) (fun c3 => ?_)
  · replace hM := i_neg hM c3
    refine lv_iload_n hx hb dX0_opensAt_13 rfl (lv_at hl 1 rfl) ?_
    refine lv_sipush (v := 1440) hx hb dX0_opensAt_14 (by decide) ?_
    refine lv_irem hx hb dX0_opensAt_17 (by decide) ?_
    refine lv_aload_n hx hb dX0_opensAt_18 rfl (lv_at hl 0 rfl) ?_
    refine q_get (C := RX0) (T := TX0) (N := 2) (ci := 0) E (fun w h => List.mem_cons_of_mem _ (inX0 w h)) hw 13 rfl rfl 0 (by decide) (List.mem_cons_of_mem _ tb_247) (v := .ref (h 13)) rfl dX0_opensAt_19 ?_
    refine lv_iload_n hx hb dX0_opensAt_22 rfl (lv_at hl 1 rfl) ?_
    refine lv_sipush (v := 1440) hx hb dX0_opensAt_23 (by decide) ?_
    refine lv_idiv hx hb dX0_opensAt_26 (by decide) ?_
    obtain ⟨g4, hM⟩ := g_some hM
    refine q_ald E hw 14 (n := 7) rfl g4 (x := (σ 13 (ix (x1 / 1440)))) rfl dX0_opensAt_27 ?_
    refine lv_aload_n hx hb dX0_opensAt_28 rfl (lv_at hl 0 rfl) ?_
    refine q_get (C := RX0) (T := TX0) (N := 2) (ci := 0) E (fun w h => List.mem_cons_of_mem _ (inX0 w h)) hw 13 rfl rfl 1 (by decide) (List.mem_cons_of_mem _ tb_249) (v := .ref (h 14)) rfl dX0_opensAt_29 ?_
    refine lv_iload_n hx hb dX0_opensAt_32 rfl (lv_at hl 1 rfl) ?_
    refine lv_sipush (v := 1440) hx hb dX0_opensAt_33 (by decide) ?_
    refine lv_idiv hx hb dX0_opensAt_36 (by decide) ?_
    refine q_ald E hw 15 (n := 7) rfl g4 (x := (σ 14 (ix (x1 / 1440)))) rfl dX0_opensAt_37 ?_
    refine lv_iconst (v := 1) hx hb dX0_opensAt_38 (by decide) ?_
    refine lv_isub hx hb dX0_opensAt_39 ?_
    obtain ⟨p5, h6, hM⟩ := b_some hM
    refine q_cn (host := "HelpDesk") (As := [.int (x1 - ((x1 / 1440) * 1440)), .int (σ 13 (ix (x1 / 1440))), .int ((σ 14 (ix (x1 / 1440))) - 1)]) (rest := []) E hw hl (c_X8_within l D cA tS A (wK cA h σ ++ (wLg cA h σ L ++ (wC cA h σ ++ F))) (x1 - ((x1 / 1440) * 1440)) (σ 13 (ix (x1 / 1440))) ((σ 14 (ix (x1 / 1440))) - 1) p5 h6) 3 (bwc bw_c tb_482) rfl (by decide +kernel) (List.mem_cons_of_mem _ tb_100) (List.mem_cons_of_mem _ tb_481) (by decide +kernel) ⟨Nat.le_of_ble_eq_true rfl, Nat.le_of_ble_eq_true rfl⟩ rfl rfl (Nat.le_of_ble_eq_true rfl) ⟨Nat.zero_le _, Nat.zero_le _⟩ dX0_opensAt_40 (fun H locs hw => ?_)
    obtain ⟨g7, hM⟩ := g_some hM
    cases hM
    exact q_retz E hw g7 dX0_opensAt_43
  · replace hM := i_pos hM c3
    refine lv_iconst (v := 0) hx hb dX0_opensAt_11 (by decide) ?_
    cases hM
    exact q_retz E hw (by decide) dX0_opensAt_12
def f_X0_openBetween_5 (N : Nat)   : Nat → Int32 → Int32 → Int32 → Int32 → Sg → Option (Int32)
  | 0, _, _, _, _, _ => none
  | n + 1, x1, x2, x3, x4, σ => (if 7 ≤ x4 then some x3 else if ib x4 7 then f_X0_openBetween_5 N n x1 x2 (x3 + (if 0 < ((if ((x4 * 1440) + (σ 14 (ix x4))) < x2 then ((x4 * 1440) + (σ 14 (ix x4))) else x2) - (if x1 < ((x4 * 1440) + (σ 13 (ix x4))) then ((x4 * 1440) + (σ 13 (ix x4))) else x1)) then ((if ((x4 * 1440) + (σ 14 (ix x4))) < x2 then ((x4 * 1440) + (σ 14 (ix x4))) else x2) - (if x1 < ((x4 * 1440) + (σ 13 (ix x4))) then ((x4 * 1440) + (σ 13 (ix x4))) else x1)) else 0)) (x4 + 1) σ else none)
set_option maxRecDepth 100000 in
set_option maxHeartbeats 4000000 in
theorem s_X0_openBetween_5 (l : Launch) (D : va_G) (cA : Nat → ClassId) (tS : Nat → Nat) (A : Nat → Prop) (h : Nat → Nat) (L : Nat) (F : va_W) (N : Nat) {p : Program} {e : Env} {s : State} {m : MethodId} {args : Array Value} {below : List Frame} {meth : Method} {c : Code} (E : Ev p cX0_openBetween 7 (some .int) RX0 (Cond.code yX0_openBetween cX0_openBetween 7 (some .int) :: bw) D cA tS A s m args meth c) : ∀ (n : Nat) (x1 : Int32) (x2 : Int32) (x3 : Int32) (x4 : Int32) (σ : Sg) (r0 : Int32) (hM : f_X0_openBetween_5 N n x1 x2 x3 x4 σ = some r0) (H : Heap) (locs : List Loc) (hw : Wd D A (wK cA h σ ++ (wLg cA h σ L ++ (wC cA h σ ++ F))) s.heap H locs) (ls : Array Slot) (hl : lv_has ls 7 [(0, .ref (h 43)), (1, .int x1), (2, .int x2), (3, .int x3), (4, .int x4)]), W p l e ({ frames := 1, cells := 0, slots := 0, locals := 21 } : Room) s m args below meth c H locs 0 0 (MQ below (QW D A (some (.int r0)) (wK cA h σ ++ (wLg cA h σ L ++ (wC cA h σ ++ F)))) args s 0 0 A) (F0 m 5 ls []) := by
  have hx := E.1.1
  have hb := E.1.2.1
  intro n
  induction n with
  | zero =>
    intro x1 x2 x3 x4 σ r0 hM
    cases hM
  | succ n ih =>
    intro x1 x2 x3 x4 σ r0 hM H locs hw ls hl
    rw [f_X0_openBetween_5] at hM
    refine lv_iload hx hb dX0_openBetween_5 (lv_at hl 4 rfl) ?_
    refine lv_bipush (v := 7) hx hb dX0_openBetween_7 (by decide) ?_
    refine lv_icmp_ge (tgt := 70) hx hb dX0_openBetween_9 (by decide) (fun c1 => ?_) (fun c1 => ?_)
    · replace hM := i_pos hM c1
      refine lv_iload_n hx hb dX0_openBetween_70 rfl (lv_at hl 3 rfl) ?_
      cases hM
      exact q_reti E hw dX0_openBetween_71
    · replace hM := i_neg hM c1
      refine lv_iload_n hx hb dX0_openBetween_12 rfl (lv_at hl 1 rfl) ?_
      refine lv_iload hx hb dX0_openBetween_13 (lv_at hl 4 rfl) ?_
      refine lv_sipush (v := 1440) hx hb dX0_openBetween_15 (by decide) ?_
      refine lv_imul hx hb dX0_openBetween_18 ?_
      refine lv_aload_n hx hb dX0_openBetween_19 rfl (lv_at hl 0 rfl) ?_
      refine q_get (C := RX0) (T := TX0) (N := 2) (ci := 0) E (fun w h => List.mem_cons_of_mem _ (inX0 w h)) hw 13 rfl rfl 0 (by decide) (List.mem_cons_of_mem _ tb_247) (v := .ref (h 13)) rfl dX0_openBetween_20 ?_
      refine lv_iload hx hb dX0_openBetween_23 (lv_at hl 4 rfl) ?_
      obtain ⟨g2, hM⟩ := g_some hM
      refine q_ald E hw 14 (n := 7) rfl g2 (x := (σ 13 (ix x4))) rfl dX0_openBetween_25 ?_
      refine lv_iadd hx hb dX0_openBetween_26 ?_
      refine va_mmax hx hb (E.1.2.2.1.trans hl.1.symm) E.1.2.2.2.1 (E.1.2.2.2.2 _ (List.mem_cons_of_mem _ tb_624)) (E.1.2.2.2.2 _ (List.mem_cons_of_mem _ tb_177)) (E.1.2.2.2.2 _ (List.mem_cons_of_mem _ tb_104)) (E.1.2.2.2.2 _ (List.mem_cons_of_mem _ tb_178)) (Nat.le_of_ble_eq_true rfl) (Nat.le_of_ble_eq_true rfl) (Nat.zero_le _) (Nat.zero_le _) dX0_openBetween_27 ?_
      refine lv_istore (lv' := [(5, .int (if x1 < ((x4 * 1440) + (σ 13 (ix x4))) then ((x4 * 1440) + (σ 13 (ix x4))) else x1)), (0, .ref (h 43)), (1, .int x1), (2, .int x2), (3, .int x3), (4, .int x4)]) hx hb dX0_openBetween_30 hl (by decide) rfl (fun ls hl => ?_)
      refine lv_iload_n hx hb dX0_openBetween_32 rfl (lv_at hl 3 rfl) ?_
      refine lv_iload hx hb dX0_openBetween_33 (lv_at hl 5 rfl) ?_
      refine lv_sipush (v := 1440) hx hb dX0_openBetween_35 (by decide) ?_
      refine lv_imul hx hb dX0_openBetween_38 ?_
      refine lv_aload_n hx hb dX0_openBetween_39 rfl (lv_at hl 1 rfl) ?_
      refine q_get (C := RX0) (T := TX0) (N := 2) (ci := 0) E (fun w h => List.mem_cons_of_mem _ (inX0 w h)) hw 13 rfl rfl 1 (by decide) (List.mem_cons_of_mem _ tb_249) (v := .ref (h 14)) rfl dX0_openBetween_40 ?_
      refine lv_iload hx hb dX0_openBetween_43 (lv_at hl 5 rfl) ?_
      refine q_ald E hw 15 (n := 7) rfl g2 (x := (σ 14 (ix x4))) rfl dX0_openBetween_45 ?_
      refine lv_iadd hx hb dX0_openBetween_46 ?_
      refine va_mmin hx hb (E.1.2.2.1.trans hl.1.symm) E.1.2.2.2.1 (E.1.2.2.2.2 _ (List.mem_cons_of_mem _ tb_625)) (E.1.2.2.2.2 _ (List.mem_cons_of_mem _ tb_626)) (E.1.2.2.2.2 _ (List.mem_cons_of_mem _ tb_104)) (E.1.2.2.2.2 _ (List.mem_cons_of_mem _ tb_627)) (Nat.le_of_ble_eq_true rfl) (Nat.le_of_ble_eq_true rfl) (Nat.zero_le _) (Nat.zero_le _) dX0_openBetween_47 ?_
      refine lv_istore (lv' := [(6, .int (if ((x4 * 1440) + (σ 14 (ix x4))) < x2 then ((x4 * 1440) + (σ 14 (ix x4))) else x2)), (5, .int (if x1 < ((x4 * 1440) + (σ 13 (ix x4))) then ((x4 * 1440) + (σ 13 (ix x4))) else x1)), (0, .ref (h 43)), (1, .int x1), (2, .int x2), (3, .int x3), (4, .int x4)]) hx hb dX0_openBetween_50 hl (by decide) rfl (fun ls hl => ?_)
      refine lv_iload_n hx hb dX0_openBetween_52 rfl (lv_at hl 5 rfl) ?_
      refine lv_iconst (v := 0) hx hb dX0_openBetween_53 (by decide) ?_
      refine lv_iload hx hb dX0_openBetween_54 (lv_at hl 0 rfl) ?_
      refine lv_iload hx hb dX0_openBetween_56 (lv_at hl 1 rfl) ?_
      refine lv_isub hx hb dX0_openBetween_58 ?_
      refine va_mmax hx hb (E.1.2.2.1.trans hl.1.symm) E.1.2.2.2.1 (E.1.2.2.2.2 _ (List.mem_cons_of_mem _ tb_624)) (E.1.2.2.2.2 _ (List.mem_cons_of_mem _ tb_177)) (E.1.2.2.2.2 _ (List.mem_cons_of_mem _ tb_104)) (E.1.2.2.2.2 _ (List.mem_cons_of_mem _ tb_178)) (Nat.le_of_ble_eq_true rfl) (Nat.le_of_ble_eq_true rfl) (Nat.zero_le _) (Nat.zero_le _) dX0_openBetween_59 ?_
      refine lv_iadd hx hb dX0_openBetween_62 ?_
      refine lv_istore_n (lv' := [(3, .int (x3 + (if 0 < ((if ((x4 * 1440) + (σ 14 (ix x4))) < x2 then ((x4 * 1440) + (σ 14 (ix x4))) else x2) - (if x1 < ((x4 * 1440) + (σ 13 (ix x4))) then ((x4 * 1440) + (σ 13 (ix x4))) else x1)) then ((if ((x4 * 1440) + (σ 14 (ix x4))) < x2 then ((x4 * 1440) + (σ 14 (ix x4))) else x2) - (if x1 < ((x4 * 1440) + (σ 13 (ix x4))) then ((x4 * 1440) + (σ 13 (ix x4))) else x1)) else 0))), (6, .int (if ((x4 * 1440) + (σ 14 (ix x4))) < x2 then ((x4 * 1440) + (σ 14 (ix x4))) else x2)), (5, .int (if x1 < ((x4 * 1440) + (σ 13 (ix x4))) then ((x4 * 1440) + (σ 13 (ix x4))) else x1)), (0, .ref (h 43)), (1, .int x1), (2, .int x2), (4, .int x4)]) hx hb dX0_openBetween_63 rfl hl (by decide) rfl (fun ls hl => ?_)
      refine lv_iinc (v := (x4 + 1)) (lv' := [(4, .int (x4 + 1)), (3, .int (x3 + (if 0 < ((if ((x4 * 1440) + (σ 14 (ix x4))) < x2 then ((x4 * 1440) + (σ 14 (ix x4))) else x2) - (if x1 < ((x4 * 1440) + (σ 13 (ix x4))) then ((x4 * 1440) + (σ 13 (ix x4))) else x1)) then ((if ((x4 * 1440) + (σ 14 (ix x4))) < x2 then ((x4 * 1440) + (σ 14 (ix x4))) else x2) - (if x1 < ((x4 * 1440) + (σ 13 (ix x4))) then ((x4 * 1440) + (σ 13 (ix x4))) else x1)) else 0))), (6, .int (if ((x4 * 1440) + (σ 14 (ix x4))) < x2 then ((x4 * 1440) + (σ 14 (ix x4))) else x2)), (5, .int (if x1 < ((x4 * 1440) + (σ 13 (ix x4))) then ((x4 * 1440) + (σ 13 (ix x4))) else x1)), (0, .ref (h 43)), (1, .int x1), (2, .int x2)]) hx hb dX0_openBetween_64 hl (k := 6) rfl rfl (by decide) rfl (fun ls hl => ?_)
      refine lv_goto (tgt := 5) hx hb dX0_openBetween_67 (by decide) ?_
      exact ih _ _ _ _ _ _ hM _ _ hw _ (lv_sub hl [4, 5, 6, 1, 0] rfl)
def f_X0_openBetween (N : Nat)   (x1 : Int32) (x2 : Int32) (σ : Sg) : Option (Int32) := f_X0_openBetween_5 N N x1 x2 0 0 σ
set_option maxRecDepth 100000 in
set_option maxHeartbeats 4000000 in
theorem c_X0_openBetween (l : Launch) (D : va_G) (cA : Nat → ClassId) (tS : Nat → Nat) (A : Nat → Prop) (h : Nat → Nat) (L : Nat) (F : va_W) (N : Nat) (x1 : Int32) (x2 : Int32) (σ : Sg) (r0 : Int32) (hM : f_X0_openBetween N x1 x2 σ = some r0) : Ct l yX0_openBetween (Cond.code yX0_openBetween cX0_openBetween 7 (some .int) :: bw) 1 21 D cA tS A [.ref (h 43), .int x1, .int x2] (wK cA h σ ++ (wLg cA h σ L ++ (wC cA h σ ++ F))) (some (.int r0)) (wK cA h σ ++ (wLg cA h σ L ++ (wC cA h σ ++ F))) := by
  refine ct_of (by decide +kernel) (Nat.le_of_ble_eq_true rfl) ?_
  intro p e s m below meth c E hw ls hl
  replace E : Ev p cX0_openBetween 7 (some .int) RX0 (Cond.code yX0_openBetween cX0_openBetween 7 (some .int) :: bw) D cA tS A s m _ meth c := E
  replace hl : lv_has ls 7 [(0, .ref (h 43)), (1, .int x1), (2, .int x2)] := hl
  have hx := E.1.1
  have hb := E.1.2.1
  unfold f_X0_openBetween at hM
  refine lv_iconst (v := 0) hx hb dX0_openBetween_0 (by decide) ?_
  refine lv_istore_n (lv' := [(3, .int 0), (0, .ref (h 43)), (1, .int x1), (2, .int x2)]) hx hb dX0_openBetween_1 rfl hl (by decide) rfl (fun ls hl => ?_)
  refine lv_iconst (v := 0) hx hb dX0_openBetween_2 (by decide) ?_
  refine lv_istore (lv' := [(4, .int 0), (3, .int 0), (0, .ref (h 43)), (1, .int x1), (2, .int x2)]) hx hb dX0_openBetween_3 hl (by decide) rfl (fun ls hl => ?_)
  exact s_X0_openBetween_5 l D cA tS A h L F N E N _ _ _ _ _ _ hM _ _ hw _ (lv_sub hl [2, 3, 4, 1, 0] rfl)
def f_X0_alikeUntil    (x1 : Int32) (σ : Sg) : Option (Int32) := (f_X8_within x1 0 10079).bind (fun p1 => (if p1 = 0 then some (x1 + 1) else if ib (x1 / 1440) 7 then (if (((x1 / 1440) * 1440) + (σ 13 (ix (x1 / 1440)))) ≤ x1 then (if (((x1 / 1440) * 1440) + (σ 14 (ix (x1 / 1440)))) ≤ x1 then some (((x1 / 1440) + 1) * 1440) else some (((x1 / 1440) * 1440) + (σ 14 (ix (x1 / 1440))))) else some (((x1 / 1440) * 1440) + (σ 13 (ix (x1 / 1440))))) else none))
set_option maxRecDepth 100000 in
set_option maxHeartbeats 4000000 in
theorem c_X0_alikeUntil (l : Launch) (D : va_G) (cA : Nat → ClassId) (tS : Nat → Nat) (A : Nat → Prop) (h : Nat → Nat) (L : Nat) (F : va_W) (x1 : Int32) (σ : Sg) (r0 : Int32) (hM : f_X0_alikeUntil x1 σ = some r0) : Ct l yX0_alikeUntil (Cond.code yX0_alikeUntil cX0_alikeUntil 3 (some .int) :: bw) 1 22 D cA tS A [.ref (h 43), .int x1] (wK cA h σ ++ (wLg cA h σ L ++ (wC cA h σ ++ F))) (some (.int r0)) (wK cA h σ ++ (wLg cA h σ L ++ (wC cA h σ ++ F))) := by
  refine ct_of (by decide +kernel) (Nat.le_of_ble_eq_true rfl) ?_
  intro p e s m below meth c E hw ls hl
  replace E : Ev p cX0_alikeUntil 3 (some .int) RX0 (Cond.code yX0_alikeUntil cX0_alikeUntil 3 (some .int) :: bw) D cA tS A s m _ meth c := E
  replace hl : lv_has ls 3 [(0, .ref (h 43)), (1, .int x1)] := hl
  have hx := E.1.1
  have hb := E.1.2.1
  unfold f_X0_alikeUntil at hM
  refine lv_iload_n hx hb dX0_alikeUntil_0 rfl (lv_at hl 1 rfl) ?_
  refine lv_iconst (v := 0) hx hb dX0_alikeUntil_1 (by decide) ?_
  refine lv_sipush (v := 10079) hx hb dX0_alikeUntil_2 (by decide) ?_
  obtain ⟨p1, h2, hM⟩ := b_some hM
  refine q_cn (host := "HelpDesk") (As := [.int x1, .int 0, .int 10079]) (rest := []) E hw hl (c_X8_within l D cA tS A (wK cA h σ ++ (wLg cA h σ L ++ (wC cA h σ ++ F))) x1 0 10079 p1 h2) 3 (bwc bw_c tb_482) rfl (by decide +kernel) (List.mem_cons_of_mem _ tb_100) (List.mem_cons_of_mem _ tb_481) (by decide +kernel) ⟨Nat.le_of_ble_eq_true rfl, Nat.le_of_ble_eq_true rfl⟩ rfl rfl (Nat.le_of_ble_eq_true rfl) ⟨Nat.zero_le _, Nat.zero_le _⟩ dX0_alikeUntil_5 (fun H locs hw => ?_)
  refine lv_if_ne (tgt := 15) hx hb dX0_alikeUntil_8 (by decide) (fun c3 => ?_) (fun c3 => ?_)
  · replace hM := i_neg hM c3
    refine lv_iload_n hx hb dX0_alikeUntil_15 rfl (lv_at hl 1 rfl) ?_
    refine lv_sipush (v := 1440) hx hb dX0_alikeUntil_16 (by decide) ?_
    refine lv_idiv hx hb dX0_alikeUntil_19 (by decide) ?_
    refine lv_istore_n (lv' := [(2, .int (x1 / 1440)), (0, .ref (h 43)), (1, .int x1)]) hx hb dX0_alikeUntil_20 rfl hl (by decide) rfl (fun ls hl => ?_)
    refine lv_iload_n hx hb dX0_alikeUntil_21 rfl (lv_at hl 2 rfl) ?_
    refine lv_iload_n hx hb dX0_alikeUntil_22 rfl (lv_at hl 0 rfl) ?_
    refine lv_sipush (v := 1440) hx hb dX0_alikeUntil_23 (by decide) ?_
    refine lv_imul hx hb dX0_alikeUntil_26 ?_
    refine lv_aload_n hx hb dX0_alikeUntil_27 rfl (lv_at hl 1 rfl) ?_
    refine q_get (C := RX0) (T := TX0) (N := 2) (ci := 0) E (fun w h => List.mem_cons_of_mem _ (inX0 w h)) hw 13 rfl rfl 0 (by decide) (List.mem_cons_of_mem _ tb_247) (v := .ref (h 13)) rfl dX0_alikeUntil_28 ?_
    refine lv_iload_n hx hb dX0_alikeUntil_31 rfl (lv_at hl 0 rfl) ?_
    obtain ⟨g4, hM⟩ := g_some hM
    refine q_ald E hw 14 (n := 7) rfl g4 (x := (σ 13 (ix (x1 / 1440)))) rfl dX0_alikeUntil_32 ?_
    refine lv_iadd hx hb dX0_alikeUntil_33 ?_
    refine lv_icmp_ge (tgt := 50) hx hb dX0_alikeUntil_34 (by decide) (fun c5 => ?_) (fun c5 => ?_)
    · replace hM := i_pos hM c5
      refine lv_iload_n hx hb dX0_alikeUntil_50 rfl (lv_at hl 2 rfl) ?_
      refine lv_iload_n hx hb dX0_alikeUntil_51 rfl (lv_at hl 0 rfl) ?_
      refine lv_sipush (v := 1440) hx hb dX0_alikeUntil_52 (by decide) ?_
      refine lv_imul hx hb dX0_alikeUntil_55 ?_
      refine lv_aload_n hx hb dX0_alikeUntil_56 rfl (lv_at hl 1 rfl) ?_
      refine q_get (C := RX0) (T := TX0) (N := 2) (ci := 0) E (fun w h => List.mem_cons_of_mem _ (inX0 w h)) hw 13 rfl rfl 1 (by decide) (List.mem_cons_of_mem _ tb_249) (v := .ref (h 14)) rfl dX0_alikeUntil_57 ?_
      refine lv_iload_n hx hb dX0_alikeUntil_60 rfl (lv_at hl 0 rfl) ?_
      refine q_ald E hw 15 (n := 7) rfl g4 (x := (σ 14 (ix (x1 / 1440)))) rfl dX0_alikeUntil_61 ?_
      refine lv_iadd hx hb dX0_alikeUntil_62 ?_
      refine lv_icmp_ge (tgt := 79) hx hb dX0_alikeUntil_63 (by decide) (fun c6 => ?_) (fun c6 => ?_)
      · replace hM := i_pos hM c6
        refine lv_iload_n hx hb dX0_alikeUntil_79 rfl (lv_at hl 0 rfl) ?_
        refine lv_iconst (v := 1) hx hb dX0_alikeUntil_80 (by decide) ?_
        refine lv_iadd hx hb dX0_alikeUntil_81 ?_
        refine lv_sipush (v := 1440) hx hb dX0_alikeUntil_82 (by decide) ?_
        refine lv_imul hx hb dX0_alikeUntil_85 ?_
        cases hM
        exact q_reti E hw dX0_alikeUntil_86
      · replace hM := i_neg hM c6
        refine lv_iload_n hx hb dX0_alikeUntil_66 rfl (lv_at hl 0 rfl) ?_
        refine lv_sipush (v := 1440) hx hb dX0_alikeUntil_67 (by decide) ?_
        refine lv_imul hx hb dX0_alikeUntil_70 ?_
        refine lv_aload_n hx hb dX0_alikeUntil_71 rfl (lv_at hl 1 rfl) ?_
        refine q_get (C := RX0) (T := TX0) (N := 2) (ci := 0) E (fun w h => List.mem_cons_of_mem _ (inX0 w h)) hw 13 rfl rfl 1 (by decide) (List.mem_cons_of_mem _ tb_249) (v := .ref (h 14)) rfl dX0_alikeUntil_72 ?_
        refine lv_iload_n hx hb dX0_alikeUntil_75 rfl (lv_at hl 0 rfl) ?_
        refine q_ald E hw 15 (n := 7) rfl g4 (x := (σ 14 (ix (x1 / 1440)))) rfl dX0_alikeUntil_76 ?_
        refine lv_iadd hx hb dX0_alikeUntil_77 ?_
        cases hM
        exact q_reti E hw dX0_alikeUntil_78
    · replace hM := i_neg hM c5
      refine lv_iload_n hx hb dX0_alikeUntil_37 rfl (lv_at hl 0 rfl) ?_
      refine lv_sipush (v := 1440) hx hb dX0_alikeUntil_38 (by decide) ?_
      refine lv_imul hx hb dX0_alikeUntil_41 ?_
      refine lv_aload_n hx hb dX0_alikeUntil_42 rfl (lv_at hl 1 rfl) ?_
      refine q_get (C := RX0) (T := TX0) (N := 2) (ci := 0) E (fun w h => List.mem_cons_of_mem _ (inX0 w h)) hw 13 rfl rfl 0 (by decide) (List.mem_cons_of_mem _ tb_247) (v := .ref (h 13)) rfl dX0_alikeUntil_43 ?_
      refine lv_iload_n hx hb dX0_alikeUntil_46 rfl (lv_at hl 0 rfl) ?_
      refine q_ald E hw 14 (n := 7) rfl g4 (x := (σ 13 (ix (x1 / 1440)))) rfl dX0_alikeUntil_47 ?_
      refine lv_iadd hx hb dX0_alikeUntil_48 ?_
      cases hM
      exact q_reti E hw dX0_alikeUntil_49
  · replace hM := i_pos hM c3
    refine lv_iload_n hx hb dX0_alikeUntil_11 rfl (lv_at hl 1 rfl) ?_
    refine lv_iconst (v := 1) hx hb dX0_alikeUntil_12 (by decide) ?_
    refine lv_iadd hx hb dX0_alikeUntil_13 ?_
    cases hM
    exact q_reti E hw dX0_alikeUntil_14
def f_X0_copyFrom    (σ : Sg) (τ : Sg) : Option (Sg) := some (upr (upr σ 13 (va_cpy (τ 13) (σ 13) (ix 0) (ix 0) (ix 7))) 14 (va_cpy (τ 14) (σ 14) (ix 0) (ix 0) (ix 7)))
set_option maxRecDepth 100000 in
set_option maxHeartbeats 4000000 in
theorem c_X0_copyFrom (l : Launch) (D : va_G) (cA : Nat → ClassId) (tS : Nat → Nat) (A : Nat → Prop) (h : Nat → Nat) (t : Nat → Nat) (F : va_W) (σ : Sg) (τ : Sg) (s0 : Sg) (hM : f_X0_copyFrom σ τ = some s0) : Ct l yX0_copyFrom (Cond.code yX0_copyFrom cX0_copyFrom 2 none :: bw) 1 53 D cA tS A [.ref (h 43), .ref (t 43)] (wC cA h σ ++ (wC cA t τ ++ F)) none (wC cA h s0 ++ (wC cA t τ ++ F)) := by
  refine ct_of (by decide +kernel) (Nat.le_of_ble_eq_true rfl) ?_
  intro p e s m below meth c E hw ls hl
  replace E : Ev p cX0_copyFrom 2 none RX0 (Cond.code yX0_copyFrom cX0_copyFrom 2 none :: bw) D cA tS A s m _ meth c := E
  replace hl : lv_has ls 2 [(0, .ref (h 43)), (1, .ref (t 43))] := hl
  have hx := E.1.1
  have hb := E.1.2.1
  unfold f_X0_copyFrom at hM
  refine lv_aload_n hx hb dX0_copyFrom_0 rfl (lv_at hl 1 rfl) ?_
  refine q_get (C := RX0) (T := TX0) (N := 2) (ci := 0) E (fun w h => List.mem_cons_of_mem _ (inX0 w h)) hw 21 rfl rfl 0 (by decide) (List.mem_cons_of_mem _ tb_247) (v := .ref (t 13)) rfl dX0_copyFrom_1 ?_
  refine lv_iconst (v := 0) hx hb dX0_copyFrom_4 (by decide) ?_
  refine lv_aload_n hx hb dX0_copyFrom_5 rfl (lv_at hl 0 rfl) ?_
  refine q_get (C := RX0) (T := TX0) (N := 2) (ci := 0) E (fun w h => List.mem_cons_of_mem _ (inX0 w h)) hw 1 rfl rfl 0 (by decide) (List.mem_cons_of_mem _ tb_247) (v := .ref (h 13)) rfl dX0_copyFrom_6 ?_
  refine lv_iconst (v := 0) hx hb dX0_copyFrom_9 (by decide) ?_
  refine lv_bipush (v := 7) hx hb dX0_copyFrom_10 (by decide) ?_
  refine q_copy E hw hl 22 2 rfl rfl rfl rfl (List.mem_cons_of_mem _ tb_365) (List.mem_cons_of_mem _ tb_367) (List.mem_cons_of_mem _ tb_366) (List.mem_cons_of_mem _ tb_109) (by decide +kernel) (by decide +kernel) (by decide +kernel) (by decide +kernel) (by decide +kernel) (Nat.le_of_ble_eq_true rfl) (Nat.le_of_ble_eq_true rfl) (wC cA h (upr σ 13 (va_cpy (τ 13) (σ 13) (ix 0) (ix 0) (ix 7))) ++ (wC cA t τ ++ F)) st_C_C2_13r dX0_copyFrom_12 (fun H locs hw => ?_)
  refine lv_aload_n hx hb dX0_copyFrom_15 rfl (lv_at hl 1 rfl) ?_
  refine q_get (C := RX0) (T := TX0) (N := 2) (ci := 0) E (fun w h => List.mem_cons_of_mem _ (inX0 w h)) hw 21 rfl rfl 1 (by decide) (List.mem_cons_of_mem _ tb_249) (v := .ref (t 14)) rfl dX0_copyFrom_16 ?_
  refine lv_iconst (v := 0) hx hb dX0_copyFrom_19 (by decide) ?_
  refine lv_aload_n hx hb dX0_copyFrom_20 rfl (lv_at hl 0 rfl) ?_
  refine q_get (C := RX0) (T := TX0) (N := 2) (ci := 0) E (fun w h => List.mem_cons_of_mem _ (inX0 w h)) hw 1 rfl rfl 1 (by decide) (List.mem_cons_of_mem _ tb_249) (v := .ref (h 14)) rfl dX0_copyFrom_21 ?_
  refine lv_iconst (v := 0) hx hb dX0_copyFrom_24 (by decide) ?_
  refine lv_bipush (v := 7) hx hb dX0_copyFrom_25 (by decide) ?_
  refine q_copy E hw hl 23 3 rfl rfl rfl (upr_ne σ 13 (va_cpy (τ 13) (σ 13) (ix 0) (ix 0) (ix 7)) 14 (by decide)) (List.mem_cons_of_mem _ tb_365) (List.mem_cons_of_mem _ tb_367) (List.mem_cons_of_mem _ tb_366) (List.mem_cons_of_mem _ tb_109) (by decide +kernel) (by decide +kernel) (by decide +kernel) (by decide +kernel) (by decide +kernel) (Nat.le_of_ble_eq_true rfl) (Nat.le_of_ble_eq_true rfl) (wC cA h (upr (upr σ 13 (va_cpy (τ 13) (σ 13) (ix 0) (ix 0) (ix 7))) 14 (va_cpy (τ 14) (σ 14) (ix 0) (ix 0) (ix 7))) ++ (wC cA t τ ++ F)) st_C_C2_14r dX0_copyFrom_27 (fun H locs hw => ?_)
  cases hM
  exact q_retv E hw dX0_copyFrom_30
def f_X1_begin    (σ : Sg) : Option (Sg) := (f_X0_begin (up σ 12 0 0)).bind (fun p1 => some (up (upr p1 30 (fillf 4 1 (p1 30))) 15 0 0))
set_option maxRecDepth 100000 in
set_option maxHeartbeats 4000000 in
theorem c_X1_begin (l : Launch) (D : va_G) (cA : Nat → ClassId) (tS : Nat → Nat) (A : Nat → Prop) (h : Nat → Nat) (L : Nat) (F : va_W) (σ : Sg) (s0 : Sg) (hM : f_X1_begin σ = some s0) : Ct l yX1_begin (Cond.code yX1_begin cX1_begin 1 none :: bw) 2 73 D cA tS A [.ref (h 42)] (wK cA h σ ++ (wLg cA h σ L ++ (wC cA h σ ++ F))) none (wK cA h s0 ++ (wLg cA h s0 L ++ (wC cA h s0 ++ F))) := by
  refine ct_of (by decide +kernel) (Nat.le_of_ble_eq_true rfl) ?_
  intro p e s m below meth c E hw ls hl
  replace E : Ev p cX1_begin 1 none RX1 (Cond.code yX1_begin cX1_begin 1 none :: bw) D cA tS A s m _ meth c := E
  replace hl : lv_has ls 1 [(0, .ref (h 42))] := hl
  have hx := E.1.1
  have hb := E.1.2.1
  unfold f_X1_begin at hM
  refine lv_aload_n hx hb dX1_begin_0 rfl (lv_at hl 0 rfl) ?_
  refine lv_iconst (v := 0) hx hb dX1_begin_1 (by decide) ?_
  refine q_puti (C := RX1) (T := TX1) (N := 6) (ci := 1) E (fun w h => List.mem_cons_of_mem _ (inX1 w h)) tyX1 tyX1_ok nmX1 hw 12 rfl rfl 5 (by decide) (List.mem_cons_of_mem _ tb_340) rfl rfl (Nat.le_of_ble_eq_true rfl) (wK cA h (up σ 12 0 0) ++ (wLg cA h (up σ 12 0 0) L ++ (wC cA h (up σ 12 0 0) ++ F))) st_K_Lg_C_12 dX1_begin_2 (fun H locs hw => ?_)
  refine lv_aload_n hx hb dX1_begin_5 rfl (lv_at hl 0 rfl) ?_
  refine q_get (C := RX1) (T := TX1) (N := 6) (ci := 1) E (fun w h => List.mem_cons_of_mem _ (inX1 w h)) hw 12 rfl rfl 2 (by decide) (List.mem_cons_of_mem _ tb_334) (v := .ref (h 43)) rfl dX1_begin_6 ?_
  obtain ⟨p1, h2, hM⟩ := b_some hM
  refine q_cvv (As := []) (rest := []) E hw hl (c_X0_begin l D cA tS A h L F (up σ 12 0 0) p1 h2) 0 (bwV bw_c tb_359 tb_360 tb_361 tb_107 tb_362) rfl (by decide +kernel) ⟨Nat.le_of_ble_eq_true rfl, Nat.le_of_ble_eq_true rfl⟩ 13 0 (T := TX0) (N := 2) rfl rfl rfl rfl (Nat.le_of_ble_eq_true rfl) ⟨Nat.zero_le _, Nat.zero_le _⟩ dX1_begin_9 (fun H locs hw => ?_)
  refine lv_aload_n hx hb dX1_begin_12 rfl (lv_at hl 0 rfl) ?_
  refine q_get (C := RX1) (T := TX1) (N := 6) (ci := 1) E (fun w h => List.mem_cons_of_mem _ (inX1 w h)) hw 12 rfl rfl 4 (by decide) (List.mem_cons_of_mem _ tb_338) (v := .ref (h 30)) rfl dX1_begin_13 ?_
  refine lv_iconst (v := 1) hx hb dX1_begin_16 (by decide) ?_
  refine q_csv (As := [.ref (h 30), .int 1]) (rest := []) E hw hl (c_fill l D cA tS A (wK cA h p1 ++ (wLg cA h p1 L ++ (wC cA h p1 ++ F))) 31 rfl (by decide) 1 (w' := (wK cA h (upr p1 30 (fillf 4 1 (p1 30))) ++ (wLg cA h (upr p1 30 (fillf 4 1 (p1 30))) L ++ (wC cA h (upr p1 30 (fillf 4 1 (p1 30))) ++ F)))) st_K_Lg_C_30r) 2 (bwS bw_c tb_370 tb_371 tb_110 tb_372) rfl (by decide +kernel) ⟨Nat.le_of_ble_eq_true rfl, Nat.le_of_ble_eq_true rfl⟩ rfl rfl (Nat.le_of_ble_eq_true rfl) ⟨Nat.zero_le _, Nat.zero_le _⟩ dX1_begin_17 (fun H locs hw => ?_)
  refine lv_aload_n hx hb dX1_begin_20 rfl (lv_at hl 0 rfl) ?_
  refine q_get (C := RX1) (T := TX1) (N := 6) (ci := 1) E (fun w h => List.mem_cons_of_mem _ (inX1 w h)) hw 12 rfl rfl 3 (by decide) (List.mem_cons_of_mem _ tb_336) (v := .ref (h 44)) rfl dX1_begin_21 ?_
  refine lv_iconst (v := 0) hx hb dX1_begin_24 (by decide) ?_
  refine q_puti (C := RX7) (T := TX7) (N := 15) (ci := 7) E (fun w h => List.mem_cons_of_mem _ (inX7 w h)) tyX7 tyX7_ok nmX7 hw 16 rfl rfl 14 (by decide) (List.mem_cons_of_mem _ tb_299) rfl rfl (Nat.le_of_ble_eq_true rfl) (wK cA h (up (upr p1 30 (fillf 4 1 (p1 30))) 15 0 0) ++ (wLg cA h (up (upr p1 30 (fillf 4 1 (p1 30))) 15 0 0) L ++ (wC cA h (up (upr p1 30 (fillf 4 1 (p1 30))) 15 0 0) ++ F))) st_K_Lg_C_15 dX1_begin_25 (fun H locs hw => ?_)
  cases hM
  exact q_retv E hw dX1_begin_28
def f_X7_copyFrom    (σ : Sg) (τ : Sg) : Option (Sg) := some (upr (upr (upr (upr (upr (upr (upr (upr (upr (upr (upr (upr (upr (upr (up σ 15 0 (τ 15 0)) 16 (va_cpy (τ 16) (σ 16) (ix 0) (ix 0) (ix 60))) 17 (va_cpy (τ 17) (σ 17) (ix 0) (ix 0) (ix 60))) 18 (va_cpy (τ 18) (σ 18) (ix 0) (ix 0) (ix 60))) 19 (va_cpy (τ 19) (σ 19) (ix 0) (ix 0) (ix 60))) 20 (va_cpy (τ 20) (σ 20) (ix 0) (ix 0) (ix 60))) 21 (va_cpy (τ 21) (σ 21) (ix 0) (ix 0) (ix 60))) 22 (va_cpy (τ 22) (σ 22) (ix 0) (ix 0) (ix 60))) 23 (va_cpy (τ 23) (σ 23) (ix 0) (ix 0) (ix 60))) 24 (va_cpy (τ 24) (σ 24) (ix 0) (ix 0) (ix 60))) 25 (va_cpy (τ 25) (σ 25) (ix 0) (ix 0) (ix 60))) 26 (va_cpy (τ 26) (σ 26) (ix 0) (ix 0) (ix 60))) 27 (va_cpy (τ 27) (σ 27) (ix 0) (ix 0) (ix 60))) 28 (va_cpy (τ 28) (σ 28) (ix 0) (ix 0) (ix 60))) 29 (va_cpy (τ 29) (σ 29) (ix 0) (ix 0) (ix 60)))
set_option maxRecDepth 100000 in
set_option maxHeartbeats 4000000 in
theorem c_X7_copyFrom (l : Launch) (D : va_G) (cA : Nat → ClassId) (tS : Nat → Nat) (A : Nat → Prop) (h : Nat → Nat) (t : Nat → Nat) (F : va_W) (σ : Sg) (τ : Sg) (s0 : Sg) (hM : f_X7_copyFrom σ τ = some s0) : Ct l yX7_copyFrom (Cond.code yX7_copyFrom cX7_copyFrom 2 none :: bw) 1 53 D cA tS A [.ref (h 44), .ref (t 44)] (wC cA h σ ++ (wC cA t τ ++ F)) none (wC cA h s0 ++ (wC cA t τ ++ F)) := by
  refine ct_of (by decide +kernel) (Nat.le_of_ble_eq_true rfl) ?_
  intro p e s m below meth c E hw ls hl
  replace E : Ev p cX7_copyFrom 2 none RX7 (Cond.code yX7_copyFrom cX7_copyFrom 2 none :: bw) D cA tS A s m _ meth c := E
  replace hl : lv_has ls 2 [(0, .ref (h 44)), (1, .ref (t 44))] := hl
  have hx := E.1.1
  have hb := E.1.2.1
  unfold f_X7_copyFrom at hM
  refine lv_aload_n hx hb dX7_copyFrom_0 rfl (lv_at hl 0 rfl) ?_
  refine lv_aload_n hx hb dX7_copyFrom_1 rfl (lv_at hl 1 rfl) ?_
  refine q_get (C := RX7) (T := TX7) (N := 15) (ci := 7) E (fun w h => List.mem_cons_of_mem _ (inX7 w h)) hw 24 rfl rfl 14 (by decide) (List.mem_cons_of_mem _ tb_298) (v := .int (τ 15 0)) rfl dX7_copyFrom_2 ?_
  refine q_puti (C := RX7) (T := TX7) (N := 15) (ci := 7) E (fun w h => List.mem_cons_of_mem _ (inX7 w h)) tyX7 tyX7_ok nmX7 hw 4 rfl rfl 14 (by decide) (List.mem_cons_of_mem _ tb_298) rfl rfl (Nat.le_of_ble_eq_true rfl) (wC cA h (up σ 15 0 (τ 15 0)) ++ (wC cA t τ ++ F)) st_C_C2_15 dX7_copyFrom_5 (fun H locs hw => ?_)
  refine lv_aload_n hx hb dX7_copyFrom_8 rfl (lv_at hl 1 rfl) ?_
  refine q_get (C := RX7) (T := TX7) (N := 15) (ci := 7) E (fun w h => List.mem_cons_of_mem _ (inX7 w h)) hw 24 rfl rfl 0 (by decide) (List.mem_cons_of_mem _ tb_262) (v := .ref (t 16)) rfl dX7_copyFrom_9 ?_
  refine lv_iconst (v := 0) hx hb dX7_copyFrom_12 (by decide) ?_
  refine lv_aload_n hx hb dX7_copyFrom_13 rfl (lv_at hl 0 rfl) ?_
  refine q_get (C := RX7) (T := TX7) (N := 15) (ci := 7) E (fun w h => List.mem_cons_of_mem _ (inX7 w h)) hw 4 rfl rfl 0 (by decide) (List.mem_cons_of_mem _ tb_262) (v := .ref (h 16)) rfl dX7_copyFrom_14 ?_
  refine lv_iconst (v := 0) hx hb dX7_copyFrom_17 (by decide) ?_
  refine lv_bipush (v := 60) hx hb dX7_copyFrom_18 (by decide) ?_
  refine q_copy E hw hl 25 5 rfl rfl rfl (up_ne σ 15 0 (τ 15 0) 16 (by decide)) (List.mem_cons_of_mem _ tb_916) (List.mem_cons_of_mem _ tb_367) (List.mem_cons_of_mem _ tb_366) (List.mem_cons_of_mem _ tb_109) (by decide +kernel) (by decide +kernel) (by decide +kernel) (by decide +kernel) (by decide +kernel) (Nat.le_of_ble_eq_true rfl) (Nat.le_of_ble_eq_true rfl) (wC cA h (upr (up σ 15 0 (τ 15 0)) 16 (va_cpy (τ 16) (σ 16) (ix 0) (ix 0) (ix 60))) ++ (wC cA t τ ++ F)) st_C_C2_16r dX7_copyFrom_20 (fun H locs hw => ?_)
  refine lv_aload_n hx hb dX7_copyFrom_23 rfl (lv_at hl 1 rfl) ?_
  refine q_get (C := RX7) (T := TX7) (N := 15) (ci := 7) E (fun w h => List.mem_cons_of_mem _ (inX7 w h)) hw 24 rfl rfl 1 (by decide) (List.mem_cons_of_mem _ tb_265) (v := .ref (t 17)) rfl dX7_copyFrom_24 ?_
  refine lv_iconst (v := 0) hx hb dX7_copyFrom_27 (by decide) ?_
  refine lv_aload_n hx hb dX7_copyFrom_28 rfl (lv_at hl 0 rfl) ?_
  refine q_get (C := RX7) (T := TX7) (N := 15) (ci := 7) E (fun w h => List.mem_cons_of_mem _ (inX7 w h)) hw 4 rfl rfl 1 (by decide) (List.mem_cons_of_mem _ tb_265) (v := .ref (h 17)) rfl dX7_copyFrom_29 ?_
  refine lv_iconst (v := 0) hx hb dX7_copyFrom_32 (by decide) ?_
  refine lv_bipush (v := 60) hx hb dX7_copyFrom_33 (by decide) ?_
  refine q_copy E hw hl 26 6 rfl rfl rfl ((upr_ne (up σ 15 0 (τ 15 0)) 16 (va_cpy (τ 16) (σ 16) (ix 0) (ix 0) (ix 60)) 17 (by decide)).trans (up_ne σ 15 0 (τ 15 0) 17 (by decide))) (List.mem_cons_of_mem _ tb_916) (List.mem_cons_of_mem _ tb_367) (List.mem_cons_of_mem _ tb_366) (List.mem_cons_of_mem _ tb_109) (by decide +kernel) (by decide +kernel) (by decide +kernel) (by decide +kernel) (by decide +kernel) (Nat.le_of_ble_eq_true rfl) (Nat.le_of_ble_eq_true rfl) (wC cA h (upr (upr (up σ 15 0 (τ 15 0)) 16 (va_cpy (τ 16) (σ 16) (ix 0) (ix 0) (ix 60))) 17 (va_cpy (τ 17) (σ 17) (ix 0) (ix 0) (ix 60))) ++ (wC cA t τ ++ F)) st_C_C2_17r dX7_copyFrom_35 (fun H locs hw => ?_)
  refine lv_aload_n hx hb dX7_copyFrom_38 rfl (lv_at hl 1 rfl) ?_
  refine q_get (C := RX7) (T := TX7) (N := 15) (ci := 7) E (fun w h => List.mem_cons_of_mem _ (inX7 w h)) hw 24 rfl rfl 2 (by decide) (List.mem_cons_of_mem _ tb_266) (v := .ref (t 18)) rfl dX7_copyFrom_39 ?_
  refine lv_iconst (v := 0) hx hb dX7_copyFrom_42 (by decide) ?_
  refine lv_aload_n hx hb dX7_copyFrom_43 rfl (lv_at hl 0 rfl) ?_
  refine q_get (C := RX7) (T := TX7) (N := 15) (ci := 7) E (fun w h => List.mem_cons_of_mem _ (inX7 w h)) hw 4 rfl rfl 2 (by decide) (List.mem_cons_of_mem _ tb_266) (v := .ref (h 18)) rfl dX7_copyFrom_44 ?_
  refine lv_iconst (v := 0) hx hb dX7_copyFrom_47 (by decide) ?_
  refine lv_bipush (v := 60) hx hb dX7_copyFrom_48 (by decide) ?_
  refine q_copy E hw hl 27 7 rfl rfl rfl (((upr_ne (upr (up σ 15 0 (τ 15 0)) 16 (va_cpy (τ 16) (σ 16) (ix 0) (ix 0) (ix 60))) 17 (va_cpy (τ 17) (σ 17) (ix 0) (ix 0) (ix 60)) 18 (by decide)).trans (upr_ne (up σ 15 0 (τ 15 0)) 16 (va_cpy (τ 16) (σ 16) (ix 0) (ix 0) (ix 60)) 18 (by decide))).trans (up_ne σ 15 0 (τ 15 0) 18 (by decide))) (List.mem_cons_of_mem _ tb_916) (List.mem_cons_of_mem _ tb_367) (List.mem_cons_of_mem _ tb_366) (List.mem_cons_of_mem _ tb_109) (by decide +kernel) (by decide +kernel) (by decide +kernel) (by decide +kernel) (by decide +kernel) (Nat.le_of_ble_eq_true rfl) (Nat.le_of_ble_eq_true rfl) (wC cA h (upr (upr (upr (up σ 15 0 (τ 15 0)) 16 (va_cpy (τ 16) (σ 16) (ix 0) (ix 0) (ix 60))) 17 (va_cpy (τ 17) (σ 17) (ix 0) (ix 0) (ix 60))) 18 (va_cpy (τ 18) (σ 18) (ix 0) (ix 0) (ix 60))) ++ (wC cA t τ ++ F)) st_C_C2_18r dX7_copyFrom_50 (fun H locs hw => ?_)
  refine lv_aload_n hx hb dX7_copyFrom_53 rfl (lv_at hl 1 rfl) ?_
  refine q_get (C := RX7) (T := TX7) (N := 15) (ci := 7) E (fun w h => List.mem_cons_of_mem _ (inX7 w h)) hw 24 rfl rfl 3 (by decide) (List.mem_cons_of_mem _ tb_267) (v := .ref (t 19)) rfl dX7_copyFrom_54 ?_
  refine lv_iconst (v := 0) hx hb dX7_copyFrom_57 (by decide) ?_
  refine lv_aload_n hx hb dX7_copyFrom_58 rfl (lv_at hl 0 rfl) ?_
  refine q_get (C := RX7) (T := TX7) (N := 15) (ci := 7) E (fun w h => List.mem_cons_of_mem _ (inX7 w h)) hw 4 rfl rfl 3 (by decide) (List.mem_cons_of_mem _ tb_267) (v := .ref (h 19)) rfl dX7_copyFrom_59 ?_
  refine lv_iconst (v := 0) hx hb dX7_copyFrom_62 (by decide) ?_
  refine lv_bipush (v := 60) hx hb dX7_copyFrom_63 (by decide) ?_
  refine q_copy E hw hl 28 8 rfl rfl rfl ((((upr_ne (upr (upr (up σ 15 0 (τ 15 0)) 16 (va_cpy (τ 16) (σ 16) (ix 0) (ix 0) (ix 60))) 17 (va_cpy (τ 17) (σ 17) (ix 0) (ix 0) (ix 60))) 18 (va_cpy (τ 18) (σ 18) (ix 0) (ix 0) (ix 60)) 19 (by decide)).trans (upr_ne (upr (up σ 15 0 (τ 15 0)) 16 (va_cpy (τ 16) (σ 16) (ix 0) (ix 0) (ix 60))) 17 (va_cpy (τ 17) (σ 17) (ix 0) (ix 0) (ix 60)) 19 (by decide))).trans (upr_ne (up σ 15 0 (τ 15 0)) 16 (va_cpy (τ 16) (σ 16) (ix 0) (ix 0) (ix 60)) 19 (by decide))).trans (up_ne σ 15 0 (τ 15 0) 19 (by decide))) (List.mem_cons_of_mem _ tb_916) (List.mem_cons_of_mem _ tb_367) (List.mem_cons_of_mem _ tb_366) (List.mem_cons_of_mem _ tb_109) (by decide +kernel) (by decide +kernel) (by decide +kernel) (by decide +kernel) (by decide +kernel) (Nat.le_of_ble_eq_true rfl) (Nat.le_of_ble_eq_true rfl) (wC cA h (upr (upr (upr (upr (up σ 15 0 (τ 15 0)) 16 (va_cpy (τ 16) (σ 16) (ix 0) (ix 0) (ix 60))) 17 (va_cpy (τ 17) (σ 17) (ix 0) (ix 0) (ix 60))) 18 (va_cpy (τ 18) (σ 18) (ix 0) (ix 0) (ix 60))) 19 (va_cpy (τ 19) (σ 19) (ix 0) (ix 0) (ix 60))) ++ (wC cA t τ ++ F)) st_C_C2_19r dX7_copyFrom_65 (fun H locs hw => ?_)
  refine lv_aload_n hx hb dX7_copyFrom_68 rfl (lv_at hl 1 rfl) ?_
  refine q_get (C := RX7) (T := TX7) (N := 15) (ci := 7) E (fun w h => List.mem_cons_of_mem _ (inX7 w h)) hw 24 rfl rfl 4 (by decide) (List.mem_cons_of_mem _ tb_270) (v := .ref (t 20)) rfl dX7_copyFrom_69 ?_
  refine lv_iconst (v := 0) hx hb dX7_copyFrom_72 (by decide) ?_
  refine lv_aload_n hx hb dX7_copyFrom_73 rfl (lv_at hl 0 rfl) ?_
  refine q_get (C := RX7) (T := TX7) (N := 15) (ci := 7) E (fun w h => List.mem_cons_of_mem _ (inX7 w h)) hw 4 rfl rfl 4 (by decide) (List.mem_cons_of_mem _ tb_270) (v := .ref (h 20)) rfl dX7_copyFrom_74 ?_
  refine lv_iconst (v := 0) hx hb dX7_copyFrom_77 (by decide) ?_
  refine lv_bipush (v := 60) hx hb dX7_copyFrom_78 (by decide) ?_
  refine q_copy E hw hl 29 9 rfl rfl rfl (((((upr_ne (upr (upr (upr (up σ 15 0 (τ 15 0)) 16 (va_cpy (τ 16) (σ 16) (ix 0) (ix 0) (ix 60))) 17 (va_cpy (τ 17) (σ 17) (ix 0) (ix 0) (ix 60))) 18 (va_cpy (τ 18) (σ 18) (ix 0) (ix 0) (ix 60))) 19 (va_cpy (τ 19) (σ 19) (ix 0) (ix 0) (ix 60)) 20 (by decide)).trans (upr_ne (upr (upr (up σ 15 0 (τ 15 0)) 16 (va_cpy (τ 16) (σ 16) (ix 0) (ix 0) (ix 60))) 17 (va_cpy (τ 17) (σ 17) (ix 0) (ix 0) (ix 60))) 18 (va_cpy (τ 18) (σ 18) (ix 0) (ix 0) (ix 60)) 20 (by decide))).trans (upr_ne (upr (up σ 15 0 (τ 15 0)) 16 (va_cpy (τ 16) (σ 16) (ix 0) (ix 0) (ix 60))) 17 (va_cpy (τ 17) (σ 17) (ix 0) (ix 0) (ix 60)) 20 (by decide))).trans (upr_ne (up σ 15 0 (τ 15 0)) 16 (va_cpy (τ 16) (σ 16) (ix 0) (ix 0) (ix 60)) 20 (by decide))).trans (up_ne σ 15 0 (τ 15 0) 20 (by decide))) (List.mem_cons_of_mem _ tb_916) (List.mem_cons_of_mem _ tb_367) (List.mem_cons_of_mem _ tb_366) (List.mem_cons_of_mem _ tb_109) (by decide +kernel) (by decide +kernel) (by decide +kernel) (by decide +kernel) (by decide +kernel) (Nat.le_of_ble_eq_true rfl) (Nat.le_of_ble_eq_true rfl) (wC cA h (upr (upr (upr (upr (upr (up σ 15 0 (τ 15 0)) 16 (va_cpy (τ 16) (σ 16) (ix 0) (ix 0) (ix 60))) 17 (va_cpy (τ 17) (σ 17) (ix 0) (ix 0) (ix 60))) 18 (va_cpy (τ 18) (σ 18) (ix 0) (ix 0) (ix 60))) 19 (va_cpy (τ 19) (σ 19) (ix 0) (ix 0) (ix 60))) 20 (va_cpy (τ 20) (σ 20) (ix 0) (ix 0) (ix 60))) ++ (wC cA t τ ++ F)) st_C_C2_20r dX7_copyFrom_80 (fun H locs hw => ?_)
  refine lv_aload_n hx hb dX7_copyFrom_83 rfl (lv_at hl 1 rfl) ?_
  refine q_get (C := RX7) (T := TX7) (N := 15) (ci := 7) E (fun w h => List.mem_cons_of_mem _ (inX7 w h)) hw 24 rfl rfl 5 (by decide) (List.mem_cons_of_mem _ tb_273) (v := .ref (t 21)) rfl dX7_copyFrom_84 ?_
  refine lv_iconst (v := 0) hx hb dX7_copyFrom_87 (by decide) ?_
  refine lv_aload_n hx hb dX7_copyFrom_88 rfl (lv_at hl 0 rfl) ?_
  refine q_get (C := RX7) (T := TX7) (N := 15) (ci := 7) E (fun w h => List.mem_cons_of_mem _ (inX7 w h)) hw 4 rfl rfl 5 (by decide) (List.mem_cons_of_mem _ tb_273) (v := .ref (h 21)) rfl dX7_copyFrom_89 ?_
  refine lv_iconst (v := 0) hx hb dX7_copyFrom_92 (by decide) ?_
  refine lv_bipush (v := 60) hx hb dX7_copyFrom_93 (by decide) ?_
  refine q_copy E hw hl 30 10 rfl rfl rfl ((((((upr_ne (upr (upr (upr (upr (up σ 15 0 (τ 15 0)) 16 (va_cpy (τ 16) (σ 16) (ix 0) (ix 0) (ix 60))) 17 (va_cpy (τ 17) (σ 17) (ix 0) (ix 0) (ix 60))) 18 (va_cpy (τ 18) (σ 18) (ix 0) (ix 0) (ix 60))) 19 (va_cpy (τ 19) (σ 19) (ix 0) (ix 0) (ix 60))) 20 (va_cpy (τ 20) (σ 20) (ix 0) (ix 0) (ix 60)) 21 (by decide)).trans (upr_ne (upr (upr (upr (up σ 15 0 (τ 15 0)) 16 (va_cpy (τ 16) (σ 16) (ix 0) (ix 0) (ix 60))) 17 (va_cpy (τ 17) (σ 17) (ix 0) (ix 0) (ix 60))) 18 (va_cpy (τ 18) (σ 18) (ix 0) (ix 0) (ix 60))) 19 (va_cpy (τ 19) (σ 19) (ix 0) (ix 0) (ix 60)) 21 (by decide))).trans (upr_ne (upr (upr (up σ 15 0 (τ 15 0)) 16 (va_cpy (τ 16) (σ 16) (ix 0) (ix 0) (ix 60))) 17 (va_cpy (τ 17) (σ 17) (ix 0) (ix 0) (ix 60))) 18 (va_cpy (τ 18) (σ 18) (ix 0) (ix 0) (ix 60)) 21 (by decide))).trans (upr_ne (upr (up σ 15 0 (τ 15 0)) 16 (va_cpy (τ 16) (σ 16) (ix 0) (ix 0) (ix 60))) 17 (va_cpy (τ 17) (σ 17) (ix 0) (ix 0) (ix 60)) 21 (by decide))).trans (upr_ne (up σ 15 0 (τ 15 0)) 16 (va_cpy (τ 16) (σ 16) (ix 0) (ix 0) (ix 60)) 21 (by decide))).trans (up_ne σ 15 0 (τ 15 0) 21 (by decide))) (List.mem_cons_of_mem _ tb_916) (List.mem_cons_of_mem _ tb_367) (List.mem_cons_of_mem _ tb_366) (List.mem_cons_of_mem _ tb_109) (by decide +kernel) (by decide +kernel) (by decide +kernel) (by decide +kernel) (by decide +kernel) (Nat.le_of_ble_eq_true rfl) (Nat.le_of_ble_eq_true rfl) (wC cA h (upr (upr (upr (upr (upr (upr (up σ 15 0 (τ 15 0)) 16 (va_cpy (τ 16) (σ 16) (ix 0) (ix 0) (ix 60))) 17 (va_cpy (τ 17) (σ 17) (ix 0) (ix 0) (ix 60))) 18 (va_cpy (τ 18) (σ 18) (ix 0) (ix 0) (ix 60))) 19 (va_cpy (τ 19) (σ 19) (ix 0) (ix 0) (ix 60))) 20 (va_cpy (τ 20) (σ 20) (ix 0) (ix 0) (ix 60))) 21 (va_cpy (τ 21) (σ 21) (ix 0) (ix 0) (ix 60))) ++ (wC cA t τ ++ F)) st_C_C2_21r dX7_copyFrom_95 (fun H locs hw => ?_)
  refine lv_aload_n hx hb dX7_copyFrom_98 rfl (lv_at hl 1 rfl) ?_
  refine q_get (C := RX7) (T := TX7) (N := 15) (ci := 7) E (fun w h => List.mem_cons_of_mem _ (inX7 w h)) hw 24 rfl rfl 6 (by decide) (List.mem_cons_of_mem _ tb_276) (v := .ref (t 22)) rfl dX7_copyFrom_99 ?_
  refine lv_iconst (v := 0) hx hb dX7_copyFrom_102 (by decide) ?_
  refine lv_aload_n hx hb dX7_copyFrom_103 rfl (lv_at hl 0 rfl) ?_
  refine q_get (C := RX7) (T := TX7) (N := 15) (ci := 7) E (fun w h => List.mem_cons_of_mem _ (inX7 w h)) hw 4 rfl rfl 6 (by decide) (List.mem_cons_of_mem _ tb_276) (v := .ref (h 22)) rfl dX7_copyFrom_104 ?_
  refine lv_iconst (v := 0) hx hb dX7_copyFrom_107 (by decide) ?_
  refine lv_bipush (v := 60) hx hb dX7_copyFrom_108 (by decide) ?_
  refine q_copy E hw hl 31 11 rfl rfl rfl (((((((upr_ne (upr (upr (upr (upr (upr (up σ 15 0 (τ 15 0)) 16 (va_cpy (τ 16) (σ 16) (ix 0) (ix 0) (ix 60))) 17 (va_cpy (τ 17) (σ 17) (ix 0) (ix 0) (ix 60))) 18 (va_cpy (τ 18) (σ 18) (ix 0) (ix 0) (ix 60))) 19 (va_cpy (τ 19) (σ 19) (ix 0) (ix 0) (ix 60))) 20 (va_cpy (τ 20) (σ 20) (ix 0) (ix 0) (ix 60))) 21 (va_cpy (τ 21) (σ 21) (ix 0) (ix 0) (ix 60)) 22 (by decide)).trans (upr_ne (upr (upr (upr (upr (up σ 15 0 (τ 15 0)) 16 (va_cpy (τ 16) (σ 16) (ix 0) (ix 0) (ix 60))) 17 (va_cpy (τ 17) (σ 17) (ix 0) (ix 0) (ix 60))) 18 (va_cpy (τ 18) (σ 18) (ix 0) (ix 0) (ix 60))) 19 (va_cpy (τ 19) (σ 19) (ix 0) (ix 0) (ix 60))) 20 (va_cpy (τ 20) (σ 20) (ix 0) (ix 0) (ix 60)) 22 (by decide))).trans (upr_ne (upr (upr (upr (up σ 15 0 (τ 15 0)) 16 (va_cpy (τ 16) (σ 16) (ix 0) (ix 0) (ix 60))) 17 (va_cpy (τ 17) (σ 17) (ix 0) (ix 0) (ix 60))) 18 (va_cpy (τ 18) (σ 18) (ix 0) (ix 0) (ix 60))) 19 (va_cpy (τ 19) (σ 19) (ix 0) (ix 0) (ix 60)) 22 (by decide))).trans (upr_ne (upr (upr (up σ 15 0 (τ 15 0)) 16 (va_cpy (τ 16) (σ 16) (ix 0) (ix 0) (ix 60))) 17 (va_cpy (τ 17) (σ 17) (ix 0) (ix 0) (ix 60))) 18 (va_cpy (τ 18) (σ 18) (ix 0) (ix 0) (ix 60)) 22 (by decide))).trans (upr_ne (upr (up σ 15 0 (τ 15 0)) 16 (va_cpy (τ 16) (σ 16) (ix 0) (ix 0) (ix 60))) 17 (va_cpy (τ 17) (σ 17) (ix 0) (ix 0) (ix 60)) 22 (by decide))).trans (upr_ne (up σ 15 0 (τ 15 0)) 16 (va_cpy (τ 16) (σ 16) (ix 0) (ix 0) (ix 60)) 22 (by decide))).trans (up_ne σ 15 0 (τ 15 0) 22 (by decide))) (List.mem_cons_of_mem _ tb_916) (List.mem_cons_of_mem _ tb_367) (List.mem_cons_of_mem _ tb_366) (List.mem_cons_of_mem _ tb_109) (by decide +kernel) (by decide +kernel) (by decide +kernel) (by decide +kernel) (by decide +kernel) (Nat.le_of_ble_eq_true rfl) (Nat.le_of_ble_eq_true rfl) (wC cA h (upr (upr (upr (upr (upr (upr (upr (up σ 15 0 (τ 15 0)) 16 (va_cpy (τ 16) (σ 16) (ix 0) (ix 0) (ix 60))) 17 (va_cpy (τ 17) (σ 17) (ix 0) (ix 0) (ix 60))) 18 (va_cpy (τ 18) (σ 18) (ix 0) (ix 0) (ix 60))) 19 (va_cpy (τ 19) (σ 19) (ix 0) (ix 0) (ix 60))) 20 (va_cpy (τ 20) (σ 20) (ix 0) (ix 0) (ix 60))) 21 (va_cpy (τ 21) (σ 21) (ix 0) (ix 0) (ix 60))) 22 (va_cpy (τ 22) (σ 22) (ix 0) (ix 0) (ix 60))) ++ (wC cA t τ ++ F)) st_C_C2_22r dX7_copyFrom_110 (fun H locs hw => ?_)
  refine lv_aload_n hx hb dX7_copyFrom_113 rfl (lv_at hl 1 rfl) ?_
  refine q_get (C := RX7) (T := TX7) (N := 15) (ci := 7) E (fun w h => List.mem_cons_of_mem _ (inX7 w h)) hw 24 rfl rfl 7 (by decide) (List.mem_cons_of_mem _ tb_279) (v := .ref (t 23)) rfl dX7_copyFrom_114 ?_
  refine lv_iconst (v := 0) hx hb dX7_copyFrom_117 (by decide) ?_
  refine lv_aload_n hx hb dX7_copyFrom_118 rfl (lv_at hl 0 rfl) ?_
  refine q_get (C := RX7) (T := TX7) (N := 15) (ci := 7) E (fun w h => List.mem_cons_of_mem _ (inX7 w h)) hw 4 rfl rfl 7 (by decide) (List.mem_cons_of_mem _ tb_279) (v := .ref (h 23)) rfl dX7_copyFrom_119 ?_
  refine lv_iconst (v := 0) hx hb dX7_copyFrom_122 (by decide) ?_
  refine lv_bipush (v := 60) hx hb dX7_copyFrom_123 (by decide) ?_
  refine q_copy E hw hl 32 12 rfl rfl rfl ((((((((upr_ne (upr (upr (upr (upr (upr (upr (up σ 15 0 (τ 15 0)) 16 (va_cpy (τ 16) (σ 16) (ix 0) (ix 0) (ix 60))) 17 (va_cpy (τ 17) (σ 17) (ix 0) (ix 0) (ix 60))) 18 (va_cpy (τ 18) (σ 18) (ix 0) (ix 0) (ix 60))) 19 (va_cpy (τ 19) (σ 19) (ix 0) (ix 0) (ix 60))) 20 (va_cpy (τ 20) (σ 20) (ix 0) (ix 0) (ix 60))) 21 (va_cpy (τ 21) (σ 21) (ix 0) (ix 0) (ix 60))) 22 (va_cpy (τ 22) (σ 22) (ix 0) (ix 0) (ix 60)) 23 (by decide)).trans (upr_ne (upr (upr (upr (upr (upr (up σ 15 0 (τ 15 0)) 16 (va_cpy (τ 16) (σ 16) (ix 0) (ix 0) (ix 60))) 17 (va_cpy (τ 17) (σ 17) (ix 0) (ix 0) (ix 60))) 18 (va_cpy (τ 18) (σ 18) (ix 0) (ix 0) (ix 60))) 19 (va_cpy (τ 19) (σ 19) (ix 0) (ix 0) (ix 60))) 20 (va_cpy (τ 20) (σ 20) (ix 0) (ix 0) (ix 60))) 21 (va_cpy (τ 21) (σ 21) (ix 0) (ix 0) (ix 60)) 23 (by decide))).trans (upr_ne (upr (upr (upr (upr (up σ 15 0 (τ 15 0)) 16 (va_cpy (τ 16) (σ 16) (ix 0) (ix 0) (ix 60))) 17 (va_cpy (τ 17) (σ 17) (ix 0) (ix 0) (ix 60))) 18 (va_cpy (τ 18) (σ 18) (ix 0) (ix 0) (ix 60))) 19 (va_cpy (τ 19) (σ 19) (ix 0) (ix 0) (ix 60))) 20 (va_cpy (τ 20) (σ 20) (ix 0) (ix 0) (ix 60)) 23 (by decide))).trans (upr_ne (upr (upr (upr (up σ 15 0 (τ 15 0)) 16 (va_cpy (τ 16) (σ 16) (ix 0) (ix 0) (ix 60))) 17 (va_cpy (τ 17) (σ 17) (ix 0) (ix 0) (ix 60))) 18 (va_cpy (τ 18) (σ 18) (ix 0) (ix 0) (ix 60))) 19 (va_cpy (τ 19) (σ 19) (ix 0) (ix 0) (ix 60)) 23 (by decide))).trans (upr_ne (upr (upr (up σ 15 0 (τ 15 0)) 16 (va_cpy (τ 16) (σ 16) (ix 0) (ix 0) (ix 60))) 17 (va_cpy (τ 17) (σ 17) (ix 0) (ix 0) (ix 60))) 18 (va_cpy (τ 18) (σ 18) (ix 0) (ix 0) (ix 60)) 23 (by decide))).trans (upr_ne (upr (up σ 15 0 (τ 15 0)) 16 (va_cpy (τ 16) (σ 16) (ix 0) (ix 0) (ix 60))) 17 (va_cpy (τ 17) (σ 17) (ix 0) (ix 0) (ix 60)) 23 (by decide))).trans (upr_ne (up σ 15 0 (τ 15 0)) 16 (va_cpy (τ 16) (σ 16) (ix 0) (ix 0) (ix 60)) 23 (by decide))).trans (up_ne σ 15 0 (τ 15 0) 23 (by decide))) (List.mem_cons_of_mem _ tb_916) (List.mem_cons_of_mem _ tb_367) (List.mem_cons_of_mem _ tb_366) (List.mem_cons_of_mem _ tb_109) (by decide +kernel) (by decide +kernel) (by decide +kernel) (by decide +kernel) (by decide +kernel) (Nat.le_of_ble_eq_true rfl) (Nat.le_of_ble_eq_true rfl) (wC cA h (upr (upr (upr (upr (upr (upr (upr (upr (up σ 15 0 (τ 15 0)) 16 (va_cpy (τ 16) (σ 16) (ix 0) (ix 0) (ix 60))) 17 (va_cpy (τ 17) (σ 17) (ix 0) (ix 0) (ix 60))) 18 (va_cpy (τ 18) (σ 18) (ix 0) (ix 0) (ix 60))) 19 (va_cpy (τ 19) (σ 19) (ix 0) (ix 0) (ix 60))) 20 (va_cpy (τ 20) (σ 20) (ix 0) (ix 0) (ix 60))) 21 (va_cpy (τ 21) (σ 21) (ix 0) (ix 0) (ix 60))) 22 (va_cpy (τ 22) (σ 22) (ix 0) (ix 0) (ix 60))) 23 (va_cpy (τ 23) (σ 23) (ix 0) (ix 0) (ix 60))) ++ (wC cA t τ ++ F)) st_C_C2_23r dX7_copyFrom_125 (fun H locs hw => ?_)
  refine lv_aload_n hx hb dX7_copyFrom_128 rfl (lv_at hl 1 rfl) ?_
  refine q_get (C := RX7) (T := TX7) (N := 15) (ci := 7) E (fun w h => List.mem_cons_of_mem _ (inX7 w h)) hw 24 rfl rfl 8 (by decide) (List.mem_cons_of_mem _ tb_281) (v := .ref (t 24)) rfl dX7_copyFrom_129 ?_
  refine lv_iconst (v := 0) hx hb dX7_copyFrom_132 (by decide) ?_
  refine lv_aload_n hx hb dX7_copyFrom_133 rfl (lv_at hl 0 rfl) ?_
  refine q_get (C := RX7) (T := TX7) (N := 15) (ci := 7) E (fun w h => List.mem_cons_of_mem _ (inX7 w h)) hw 4 rfl rfl 8 (by decide) (List.mem_cons_of_mem _ tb_281) (v := .ref (h 24)) rfl dX7_copyFrom_134 ?_
  refine lv_iconst (v := 0) hx hb dX7_copyFrom_137 (by decide) ?_
  refine lv_bipush (v := 60) hx hb dX7_copyFrom_138 (by decide) ?_
  refine q_copy E hw hl 33 13 rfl rfl rfl (((((((((upr_ne (upr (upr (upr (upr (upr (upr (upr (up σ 15 0 (τ 15 0)) 16 (va_cpy (τ 16) (σ 16) (ix 0) (ix 0) (ix 60))) 17 (va_cpy (τ 17) (σ 17) (ix 0) (ix 0) (ix 60))) 18 (va_cpy (τ 18) (σ 18) (ix 0) (ix 0) (ix 60))) 19 (va_cpy (τ 19) (σ 19) (ix 0) (ix 0) (ix 60))) 20 (va_cpy (τ 20) (σ 20) (ix 0) (ix 0) (ix 60))) 21 (va_cpy (τ 21) (σ 21) (ix 0) (ix 0) (ix 60))) 22 (va_cpy (τ 22) (σ 22) (ix 0) (ix 0) (ix 60))) 23 (va_cpy (τ 23) (σ 23) (ix 0) (ix 0) (ix 60)) 24 (by decide)).trans (upr_ne (upr (upr (upr (upr (upr (upr (up σ 15 0 (τ 15 0)) 16 (va_cpy (τ 16) (σ 16) (ix 0) (ix 0) (ix 60))) 17 (va_cpy (τ 17) (σ 17) (ix 0) (ix 0) (ix 60))) 18 (va_cpy (τ 18) (σ 18) (ix 0) (ix 0) (ix 60))) 19 (va_cpy (τ 19) (σ 19) (ix 0) (ix 0) (ix 60))) 20 (va_cpy (τ 20) (σ 20) (ix 0) (ix 0) (ix 60))) 21 (va_cpy (τ 21) (σ 21) (ix 0) (ix 0) (ix 60))) 22 (va_cpy (τ 22) (σ 22) (ix 0) (ix 0) (ix 60)) 24 (by decide))).trans (upr_ne (upr (upr (upr (upr (upr (up σ 15 0 (τ 15 0)) 16 (va_cpy (τ 16) (σ 16) (ix 0) (ix 0) (ix 60))) 17 (va_cpy (τ 17) (σ 17) (ix 0) (ix 0) (ix 60))) 18 (va_cpy (τ 18) (σ 18) (ix 0) (ix 0) (ix 60))) 19 (va_cpy (τ 19) (σ 19) (ix 0) (ix 0) (ix 60))) 20 (va_cpy (τ 20) (σ 20) (ix 0) (ix 0) (ix 60))) 21 (va_cpy (τ 21) (σ 21) (ix 0) (ix 0) (ix 60)) 24 (by decide))).trans (upr_ne (upr (upr (upr (upr (up σ 15 0 (τ 15 0)) 16 (va_cpy (τ 16) (σ 16) (ix 0) (ix 0) (ix 60))) 17 (va_cpy (τ 17) (σ 17) (ix 0) (ix 0) (ix 60))) 18 (va_cpy (τ 18) (σ 18) (ix 0) (ix 0) (ix 60))) 19 (va_cpy (τ 19) (σ 19) (ix 0) (ix 0) (ix 60))) 20 (va_cpy (τ 20) (σ 20) (ix 0) (ix 0) (ix 60)) 24 (by decide))).trans (upr_ne (upr (upr (upr (up σ 15 0 (τ 15 0)) 16 (va_cpy (τ 16) (σ 16) (ix 0) (ix 0) (ix 60))) 17 (va_cpy (τ 17) (σ 17) (ix 0) (ix 0) (ix 60))) 18 (va_cpy (τ 18) (σ 18) (ix 0) (ix 0) (ix 60))) 19 (va_cpy (τ 19) (σ 19) (ix 0) (ix 0) (ix 60)) 24 (by decide))).trans (upr_ne (upr (upr (up σ 15 0 (τ 15 0)) 16 (va_cpy (τ 16) (σ 16) (ix 0) (ix 0) (ix 60))) 17 (va_cpy (τ 17) (σ 17) (ix 0) (ix 0) (ix 60))) 18 (va_cpy (τ 18) (σ 18) (ix 0) (ix 0) (ix 60)) 24 (by decide))).trans (upr_ne (upr (up σ 15 0 (τ 15 0)) 16 (va_cpy (τ 16) (σ 16) (ix 0) (ix 0) (ix 60))) 17 (va_cpy (τ 17) (σ 17) (ix 0) (ix 0) (ix 60)) 24 (by decide))).trans (upr_ne (up σ 15 0 (τ 15 0)) 16 (va_cpy (τ 16) (σ 16) (ix 0) (ix 0) (ix 60)) 24 (by decide))).trans (up_ne σ 15 0 (τ 15 0) 24 (by decide))) (List.mem_cons_of_mem _ tb_916) (List.mem_cons_of_mem _ tb_367) (List.mem_cons_of_mem _ tb_366) (List.mem_cons_of_mem _ tb_109) (by decide +kernel) (by decide +kernel) (by decide +kernel) (by decide +kernel) (by decide +kernel) (Nat.le_of_ble_eq_true rfl) (Nat.le_of_ble_eq_true rfl) (wC cA h (upr (upr (upr (upr (upr (upr (upr (upr (upr (up σ 15 0 (τ 15 0)) 16 (va_cpy (τ 16) (σ 16) (ix 0) (ix 0) (ix 60))) 17 (va_cpy (τ 17) (σ 17) (ix 0) (ix 0) (ix 60))) 18 (va_cpy (τ 18) (σ 18) (ix 0) (ix 0) (ix 60))) 19 (va_cpy (τ 19) (σ 19) (ix 0) (ix 0) (ix 60))) 20 (va_cpy (τ 20) (σ 20) (ix 0) (ix 0) (ix 60))) 21 (va_cpy (τ 21) (σ 21) (ix 0) (ix 0) (ix 60))) 22 (va_cpy (τ 22) (σ 22) (ix 0) (ix 0) (ix 60))) 23 (va_cpy (τ 23) (σ 23) (ix 0) (ix 0) (ix 60))) 24 (va_cpy (τ 24) (σ 24) (ix 0) (ix 0) (ix 60))) ++ (wC cA t τ ++ F)) st_C_C2_24r dX7_copyFrom_140 (fun H locs hw => ?_)
  refine lv_aload_n hx hb dX7_copyFrom_143 rfl (lv_at hl 1 rfl) ?_
  refine q_get (C := RX7) (T := TX7) (N := 15) (ci := 7) E (fun w h => List.mem_cons_of_mem _ (inX7 w h)) hw 24 rfl rfl 9 (by decide) (List.mem_cons_of_mem _ tb_284) (v := .ref (t 25)) rfl dX7_copyFrom_144 ?_
  refine lv_iconst (v := 0) hx hb dX7_copyFrom_147 (by decide) ?_
  refine lv_aload_n hx hb dX7_copyFrom_148 rfl (lv_at hl 0 rfl) ?_
  refine q_get (C := RX7) (T := TX7) (N := 15) (ci := 7) E (fun w h => List.mem_cons_of_mem _ (inX7 w h)) hw 4 rfl rfl 9 (by decide) (List.mem_cons_of_mem _ tb_284) (v := .ref (h 25)) rfl dX7_copyFrom_149 ?_
  refine lv_iconst (v := 0) hx hb dX7_copyFrom_152 (by decide) ?_
  refine lv_bipush (v := 60) hx hb dX7_copyFrom_153 (by decide) ?_
  refine q_copy E hw hl 34 14 rfl rfl rfl ((((((((((upr_ne (upr (upr (upr (upr (upr (upr (upr (upr (up σ 15 0 (τ 15 0)) 16 (va_cpy (τ 16) (σ 16) (ix 0) (ix 0) (ix 60))) 17 (va_cpy (τ 17) (σ 17) (ix 0) (ix 0) (ix 60))) 18 (va_cpy (τ 18) (σ 18) (ix 0) (ix 0) (ix 60))) 19 (va_cpy (τ 19) (σ 19) (ix 0) (ix 0) (ix 60))) 20 (va_cpy (τ 20) (σ 20) (ix 0) (ix 0) (ix 60))) 21 (va_cpy (τ 21) (σ 21) (ix 0) (ix 0) (ix 60))) 22 (va_cpy (τ 22) (σ 22) (ix 0) (ix 0) (ix 60))) 23 (va_cpy (τ 23) (σ 23) (ix 0) (ix 0) (ix 60))) 24 (va_cpy (τ 24) (σ 24) (ix 0) (ix 0) (ix 60)) 25 (by decide)).trans (upr_ne (upr (upr (upr (upr (upr (upr (upr (up σ 15 0 (τ 15 0)) 16 (va_cpy (τ 16) (σ 16) (ix 0) (ix 0) (ix 60))) 17 (va_cpy (τ 17) (σ 17) (ix 0) (ix 0) (ix 60))) 18 (va_cpy (τ 18) (σ 18) (ix 0) (ix 0) (ix 60))) 19 (va_cpy (τ 19) (σ 19) (ix 0) (ix 0) (ix 60))) 20 (va_cpy (τ 20) (σ 20) (ix 0) (ix 0) (ix 60))) 21 (va_cpy (τ 21) (σ 21) (ix 0) (ix 0) (ix 60))) 22 (va_cpy (τ 22) (σ 22) (ix 0) (ix 0) (ix 60))) 23 (va_cpy (τ 23) (σ 23) (ix 0) (ix 0) (ix 60)) 25 (by decide))).trans (upr_ne (upr (upr (upr (upr (upr (upr (up σ 15 0 (τ 15 0)) 16 (va_cpy (τ 16) (σ 16) (ix 0) (ix 0) (ix 60))) 17 (va_cpy (τ 17) (σ 17) (ix 0) (ix 0) (ix 60))) 18 (va_cpy (τ 18) (σ 18) (ix 0) (ix 0) (ix 60))) 19 (va_cpy (τ 19) (σ 19) (ix 0) (ix 0) (ix 60))) 20 (va_cpy (τ 20) (σ 20) (ix 0) (ix 0) (ix 60))) 21 (va_cpy (τ 21) (σ 21) (ix 0) (ix 0) (ix 60))) 22 (va_cpy (τ 22) (σ 22) (ix 0) (ix 0) (ix 60)) 25 (by decide))).trans (upr_ne (upr (upr (upr (upr (upr (up σ 15 0 (τ 15 0)) 16 (va_cpy (τ 16) (σ 16) (ix 0) (ix 0) (ix 60))) 17 (va_cpy (τ 17) (σ 17) (ix 0) (ix 0) (ix 60))) 18 (va_cpy (τ 18) (σ 18) (ix 0) (ix 0) (ix 60))) 19 (va_cpy (τ 19) (σ 19) (ix 0) (ix 0) (ix 60))) 20 (va_cpy (τ 20) (σ 20) (ix 0) (ix 0) (ix 60))) 21 (va_cpy (τ 21) (σ 21) (ix 0) (ix 0) (ix 60)) 25 (by decide))).trans (upr_ne (upr (upr (upr (upr (up σ 15 0 (τ 15 0)) 16 (va_cpy (τ 16) (σ 16) (ix 0) (ix 0) (ix 60))) 17 (va_cpy (τ 17) (σ 17) (ix 0) (ix 0) (ix 60))) 18 (va_cpy (τ 18) (σ 18) (ix 0) (ix 0) (ix 60))) 19 (va_cpy (τ 19) (σ 19) (ix 0) (ix 0) (ix 60))) 20 (va_cpy (τ 20) (σ 20) (ix 0) (ix 0) (ix 60)) 25 (by decide))).trans (upr_ne (upr (upr (upr (up σ 15 0 (τ 15 0)) 16 (va_cpy (τ 16) (σ 16) (ix 0) (ix 0) (ix 60))) 17 (va_cpy (τ 17) (σ 17) (ix 0) (ix 0) (ix 60))) 18 (va_cpy (τ 18) (σ 18) (ix 0) (ix 0) (ix 60))) 19 (va_cpy (τ 19) (σ 19) (ix 0) (ix 0) (ix 60)) 25 (by decide))).trans (upr_ne (upr (upr (up σ 15 0 (τ 15 0)) 16 (va_cpy (τ 16) (σ 16) (ix 0) (ix 0) (ix 60))) 17 (va_cpy (τ 17) (σ 17) (ix 0) (ix 0) (ix 60))) 18 (va_cpy (τ 18) (σ 18) (ix 0) (ix 0) (ix 60)) 25 (by decide))).trans (upr_ne (upr (up σ 15 0 (τ 15 0)) 16 (va_cpy (τ 16) (σ 16) (ix 0) (ix 0) (ix 60))) 17 (va_cpy (τ 17) (σ 17) (ix 0) (ix 0) (ix 60)) 25 (by decide))).trans (upr_ne (up σ 15 0 (τ 15 0)) 16 (va_cpy (τ 16) (σ 16) (ix 0) (ix 0) (ix 60)) 25 (by decide))).trans (up_ne σ 15 0 (τ 15 0) 25 (by decide))) (List.mem_cons_of_mem _ tb_916) (List.mem_cons_of_mem _ tb_367) (List.mem_cons_of_mem _ tb_366) (List.mem_cons_of_mem _ tb_109) (by decide +kernel) (by decide +kernel) (by decide +kernel) (by decide +kernel) (by decide +kernel) (Nat.le_of_ble_eq_true rfl) (Nat.le_of_ble_eq_true rfl) (wC cA h (upr (upr (upr (upr (upr (upr (upr (upr (upr (upr (up σ 15 0 (τ 15 0)) 16 (va_cpy (τ 16) (σ 16) (ix 0) (ix 0) (ix 60))) 17 (va_cpy (τ 17) (σ 17) (ix 0) (ix 0) (ix 60))) 18 (va_cpy (τ 18) (σ 18) (ix 0) (ix 0) (ix 60))) 19 (va_cpy (τ 19) (σ 19) (ix 0) (ix 0) (ix 60))) 20 (va_cpy (τ 20) (σ 20) (ix 0) (ix 0) (ix 60))) 21 (va_cpy (τ 21) (σ 21) (ix 0) (ix 0) (ix 60))) 22 (va_cpy (τ 22) (σ 22) (ix 0) (ix 0) (ix 60))) 23 (va_cpy (τ 23) (σ 23) (ix 0) (ix 0) (ix 60))) 24 (va_cpy (τ 24) (σ 24) (ix 0) (ix 0) (ix 60))) 25 (va_cpy (τ 25) (σ 25) (ix 0) (ix 0) (ix 60))) ++ (wC cA t τ ++ F)) st_C_C2_25r dX7_copyFrom_155 (fun H locs hw => ?_)
  refine lv_aload_n hx hb dX7_copyFrom_158 rfl (lv_at hl 1 rfl) ?_
  refine q_get (C := RX7) (T := TX7) (N := 15) (ci := 7) E (fun w h => List.mem_cons_of_mem _ (inX7 w h)) hw 24 rfl rfl 10 (by decide) (List.mem_cons_of_mem _ tb_287) (v := .ref (t 26)) rfl dX7_copyFrom_159 ?_
  refine lv_iconst (v := 0) hx hb dX7_copyFrom_162 (by decide) ?_
  refine lv_aload_n hx hb dX7_copyFrom_163 rfl (lv_at hl 0 rfl) ?_
  refine q_get (C := RX7) (T := TX7) (N := 15) (ci := 7) E (fun w h => List.mem_cons_of_mem _ (inX7 w h)) hw 4 rfl rfl 10 (by decide) (List.mem_cons_of_mem _ tb_287) (v := .ref (h 26)) rfl dX7_copyFrom_164 ?_
  refine lv_iconst (v := 0) hx hb dX7_copyFrom_167 (by decide) ?_
  refine lv_bipush (v := 60) hx hb dX7_copyFrom_168 (by decide) ?_
  refine q_copy E hw hl 35 15 rfl rfl rfl (((((((((((upr_ne (upr (upr (upr (upr (upr (upr (upr (upr (upr (up σ 15 0 (τ 15 0)) 16 (va_cpy (τ 16) (σ 16) (ix 0) (ix 0) (ix 60))) 17 (va_cpy (τ 17) (σ 17) (ix 0) (ix 0) (ix 60))) 18 (va_cpy (τ 18) (σ 18) (ix 0) (ix 0) (ix 60))) 19 (va_cpy (τ 19) (σ 19) (ix 0) (ix 0) (ix 60))) 20 (va_cpy (τ 20) (σ 20) (ix 0) (ix 0) (ix 60))) 21 (va_cpy (τ 21) (σ 21) (ix 0) (ix 0) (ix 60))) 22 (va_cpy (τ 22) (σ 22) (ix 0) (ix 0) (ix 60))) 23 (va_cpy (τ 23) (σ 23) (ix 0) (ix 0) (ix 60))) 24 (va_cpy (τ 24) (σ 24) (ix 0) (ix 0) (ix 60))) 25 (va_cpy (τ 25) (σ 25) (ix 0) (ix 0) (ix 60)) 26 (by decide)).trans (upr_ne (upr (upr (upr (upr (upr (upr (upr (upr (up σ 15 0 (τ 15 0)) 16 (va_cpy (τ 16) (σ 16) (ix 0) (ix 0) (ix 60))) 17 (va_cpy (τ 17) (σ 17) (ix 0) (ix 0) (ix 60))) 18 (va_cpy (τ 18) (σ 18) (ix 0) (ix 0) (ix 60))) 19 (va_cpy (τ 19) (σ 19) (ix 0) (ix 0) (ix 60))) 20 (va_cpy (τ 20) (σ 20) (ix 0) (ix 0) (ix 60))) 21 (va_cpy (τ 21) (σ 21) (ix 0) (ix 0) (ix 60))) 22 (va_cpy (τ 22) (σ 22) (ix 0) (ix 0) (ix 60))) 23 (va_cpy (τ 23) (σ 23) (ix 0) (ix 0) (ix 60))) 24 (va_cpy (τ 24) (σ 24) (ix 0) (ix 0) (ix 60)) 26 (by decide))).trans (upr_ne (upr (upr (upr (upr (upr (upr (upr (up σ 15 0 (τ 15 0)) 16 (va_cpy (τ 16) (σ 16) (ix 0) (ix 0) (ix 60))) 17 (va_cpy (τ 17) (σ 17) (ix 0) (ix 0) (ix 60))) 18 (va_cpy (τ 18) (σ 18) (ix 0) (ix 0) (ix 60))) 19 (va_cpy (τ 19) (σ 19) (ix 0) (ix 0) (ix 60))) 20 (va_cpy (τ 20) (σ 20) (ix 0) (ix 0) (ix 60))) 21 (va_cpy (τ 21) (σ 21) (ix 0) (ix 0) (ix 60))) 22 (va_cpy (τ 22) (σ 22) (ix 0) (ix 0) (ix 60))) 23 (va_cpy (τ 23) (σ 23) (ix 0) (ix 0) (ix 60)) 26 (by decide))).trans (upr_ne (upr (upr (upr (upr (upr (upr (up σ 15 0 (τ 15 0)) 16 (va_cpy (τ 16) (σ 16) (ix 0) (ix 0) (ix 60))) 17 (va_cpy (τ 17) (σ 17) (ix 0) (ix 0) (ix 60))) 18 (va_cpy (τ 18) (σ 18) (ix 0) (ix 0) (ix 60))) 19 (va_cpy (τ 19) (σ 19) (ix 0) (ix 0) (ix 60))) 20 (va_cpy (τ 20) (σ 20) (ix 0) (ix 0) (ix 60))) 21 (va_cpy (τ 21) (σ 21) (ix 0) (ix 0) (ix 60))) 22 (va_cpy (τ 22) (σ 22) (ix 0) (ix 0) (ix 60)) 26 (by decide))).trans (upr_ne (upr (upr (upr (upr (upr (up σ 15 0 (τ 15 0)) 16 (va_cpy (τ 16) (σ 16) (ix 0) (ix 0) (ix 60))) 17 (va_cpy (τ 17) (σ 17) (ix 0) (ix 0) (ix 60))) 18 (va_cpy (τ 18) (σ 18) (ix 0) (ix 0) (ix 60))) 19 (va_cpy (τ 19) (σ 19) (ix 0) (ix 0) (ix 60))) 20 (va_cpy (τ 20) (σ 20) (ix 0) (ix 0) (ix 60))) 21 (va_cpy (τ 21) (σ 21) (ix 0) (ix 0) (ix 60)) 26 (by decide))).trans (upr_ne (upr (upr (upr (upr (up σ 15 0 (τ 15 0)) 16 (va_cpy (τ 16) (σ 16) (ix 0) (ix 0) (ix 60))) 17 (va_cpy (τ 17) (σ 17) (ix 0) (ix 0) (ix 60))) 18 (va_cpy (τ 18) (σ 18) (ix 0) (ix 0) (ix 60))) 19 (va_cpy (τ 19) (σ 19) (ix 0) (ix 0) (ix 60))) 20 (va_cpy (τ 20) (σ 20) (ix 0) (ix 0) (ix 60)) 26 (by decide))).trans (upr_ne (upr (upr (upr (up σ 15 0 (τ 15 0)) 16 (va_cpy (τ 16) (σ 16) (ix 0) (ix 0) (ix 60))) 17 (va_cpy (τ 17) (σ 17) (ix 0) (ix 0) (ix 60))) 18 (va_cpy (τ 18) (σ 18) (ix 0) (ix 0) (ix 60))) 19 (va_cpy (τ 19) (σ 19) (ix 0) (ix 0) (ix 60)) 26 (by decide))).trans (upr_ne (upr (upr (up σ 15 0 (τ 15 0)) 16 (va_cpy (τ 16) (σ 16) (ix 0) (ix 0) (ix 60))) 17 (va_cpy (τ 17) (σ 17) (ix 0) (ix 0) (ix 60))) 18 (va_cpy (τ 18) (σ 18) (ix 0) (ix 0) (ix 60)) 26 (by decide))).trans (upr_ne (upr (up σ 15 0 (τ 15 0)) 16 (va_cpy (τ 16) (σ 16) (ix 0) (ix 0) (ix 60))) 17 (va_cpy (τ 17) (σ 17) (ix 0) (ix 0) (ix 60)) 26 (by decide))).trans (upr_ne (up σ 15 0 (τ 15 0)) 16 (va_cpy (τ 16) (σ 16) (ix 0) (ix 0) (ix 60)) 26 (by decide))).trans (up_ne σ 15 0 (τ 15 0) 26 (by decide))) (List.mem_cons_of_mem _ tb_916) (List.mem_cons_of_mem _ tb_367) (List.mem_cons_of_mem _ tb_366) (List.mem_cons_of_mem _ tb_109) (by decide +kernel) (by decide +kernel) (by decide +kernel) (by decide +kernel) (by decide +kernel) (Nat.le_of_ble_eq_true rfl) (Nat.le_of_ble_eq_true rfl) (wC cA h (upr (upr (upr (upr (upr (upr (upr (upr (upr (upr (upr (up σ 15 0 (τ 15 0)) 16 (va_cpy (τ 16) (σ 16) (ix 0) (ix 0) (ix 60))) 17 (va_cpy (τ 17) (σ 17) (ix 0) (ix 0) (ix 60))) 18 (va_cpy (τ 18) (σ 18) (ix 0) (ix 0) (ix 60))) 19 (va_cpy (τ 19) (σ 19) (ix 0) (ix 0) (ix 60))) 20 (va_cpy (τ 20) (σ 20) (ix 0) (ix 0) (ix 60))) 21 (va_cpy (τ 21) (σ 21) (ix 0) (ix 0) (ix 60))) 22 (va_cpy (τ 22) (σ 22) (ix 0) (ix 0) (ix 60))) 23 (va_cpy (τ 23) (σ 23) (ix 0) (ix 0) (ix 60))) 24 (va_cpy (τ 24) (σ 24) (ix 0) (ix 0) (ix 60))) 25 (va_cpy (τ 25) (σ 25) (ix 0) (ix 0) (ix 60))) 26 (va_cpy (τ 26) (σ 26) (ix 0) (ix 0) (ix 60))) ++ (wC cA t τ ++ F)) st_C_C2_26r dX7_copyFrom_170 (fun H locs hw => ?_)
  refine lv_aload_n hx hb dX7_copyFrom_173 rfl (lv_at hl 1 rfl) ?_
  refine q_get (C := RX7) (T := TX7) (N := 15) (ci := 7) E (fun w h => List.mem_cons_of_mem _ (inX7 w h)) hw 24 rfl rfl 11 (by decide) (List.mem_cons_of_mem _ tb_290) (v := .ref (t 27)) rfl dX7_copyFrom_174 ?_
  refine lv_iconst (v := 0) hx hb dX7_copyFrom_177 (by decide) ?_
  refine lv_aload_n hx hb dX7_copyFrom_178 rfl (lv_at hl 0 rfl) ?_
  refine q_get (C := RX7) (T := TX7) (N := 15) (ci := 7) E (fun w h => List.mem_cons_of_mem _ (inX7 w h)) hw 4 rfl rfl 11 (by decide) (List.mem_cons_of_mem _ tb_290) (v := .ref (h 27)) rfl dX7_copyFrom_179 ?_
  refine lv_iconst (v := 0) hx hb dX7_copyFrom_182 (by decide) ?_
  refine lv_bipush (v := 60) hx hb dX7_copyFrom_183 (by decide) ?_
  refine q_copy E hw hl 36 16 rfl rfl rfl ((((((((((((upr_ne (upr (upr (upr (upr (upr (upr (upr (upr (upr (upr (up σ 15 0 (τ 15 0)) 16 (va_cpy (τ 16) (σ 16) (ix 0) (ix 0) (ix 60))) 17 (va_cpy (τ 17) (σ 17) (ix 0) (ix 0) (ix 60))) 18 (va_cpy (τ 18) (σ 18) (ix 0) (ix 0) (ix 60))) 19 (va_cpy (τ 19) (σ 19) (ix 0) (ix 0) (ix 60))) 20 (va_cpy (τ 20) (σ 20) (ix 0) (ix 0) (ix 60))) 21 (va_cpy (τ 21) (σ 21) (ix 0) (ix 0) (ix 60))) 22 (va_cpy (τ 22) (σ 22) (ix 0) (ix 0) (ix 60))) 23 (va_cpy (τ 23) (σ 23) (ix 0) (ix 0) (ix 60))) 24 (va_cpy (τ 24) (σ 24) (ix 0) (ix 0) (ix 60))) 25 (va_cpy (τ 25) (σ 25) (ix 0) (ix 0) (ix 60))) 26 (va_cpy (τ 26) (σ 26) (ix 0) (ix 0) (ix 60)) 27 (by decide)).trans (upr_ne (upr (upr (upr (upr (upr (upr (upr (upr (upr (up σ 15 0 (τ 15 0)) 16 (va_cpy (τ 16) (σ 16) (ix 0) (ix 0) (ix 60))) 17 (va_cpy (τ 17) (σ 17) (ix 0) (ix 0) (ix 60))) 18 (va_cpy (τ 18) (σ 18) (ix 0) (ix 0) (ix 60))) 19 (va_cpy (τ 19) (σ 19) (ix 0) (ix 0) (ix 60))) 20 (va_cpy (τ 20) (σ 20) (ix 0) (ix 0) (ix 60))) 21 (va_cpy (τ 21) (σ 21) (ix 0) (ix 0) (ix 60))) 22 (va_cpy (τ 22) (σ 22) (ix 0) (ix 0) (ix 60))) 23 (va_cpy (τ 23) (σ 23) (ix 0) (ix 0) (ix 60))) 24 (va_cpy (τ 24) (σ 24) (ix 0) (ix 0) (ix 60))) 25 (va_cpy (τ 25) (σ 25) (ix 0) (ix 0) (ix 60)) 27 (by decide))).trans (upr_ne (upr (upr (upr (upr (upr (upr (upr (upr (up σ 15 0 (τ 15 0)) 16 (va_cpy (τ 16) (σ 16) (ix 0) (ix 0) (ix 60))) 17 (va_cpy (τ 17) (σ 17) (ix 0) (ix 0) (ix 60))) 18 (va_cpy (τ 18) (σ 18) (ix 0) (ix 0) (ix 60))) 19 (va_cpy (τ 19) (σ 19) (ix 0) (ix 0) (ix 60))) 20 (va_cpy (τ 20) (σ 20) (ix 0) (ix 0) (ix 60))) 21 (va_cpy (τ 21) (σ 21) (ix 0) (ix 0) (ix 60))) 22 (va_cpy (τ 22) (σ 22) (ix 0) (ix 0) (ix 60))) 23 (va_cpy (τ 23) (σ 23) (ix 0) (ix 0) (ix 60))) 24 (va_cpy (τ 24) (σ 24) (ix 0) (ix 0) (ix 60)) 27 (by decide))).trans (upr_ne (upr (upr (upr (upr (upr (upr (upr (up σ 15 0 (τ 15 0)) 16 (va_cpy (τ 16) (σ 16) (ix 0) (ix 0) (ix 60))) 17 (va_cpy (τ 17) (σ 17) (ix 0) (ix 0) (ix 60))) 18 (va_cpy (τ 18) (σ 18) (ix 0) (ix 0) (ix 60))) 19 (va_cpy (τ 19) (σ 19) (ix 0) (ix 0) (ix 60))) 20 (va_cpy (τ 20) (σ 20) (ix 0) (ix 0) (ix 60))) 21 (va_cpy (τ 21) (σ 21) (ix 0) (ix 0) (ix 60))) 22 (va_cpy (τ 22) (σ 22) (ix 0) (ix 0) (ix 60))) 23 (va_cpy (τ 23) (σ 23) (ix 0) (ix 0) (ix 60)) 27 (by decide))).trans (upr_ne (upr (upr (upr (upr (upr (upr (up σ 15 0 (τ 15 0)) 16 (va_cpy (τ 16) (σ 16) (ix 0) (ix 0) (ix 60))) 17 (va_cpy (τ 17) (σ 17) (ix 0) (ix 0) (ix 60))) 18 (va_cpy (τ 18) (σ 18) (ix 0) (ix 0) (ix 60))) 19 (va_cpy (τ 19) (σ 19) (ix 0) (ix 0) (ix 60))) 20 (va_cpy (τ 20) (σ 20) (ix 0) (ix 0) (ix 60))) 21 (va_cpy (τ 21) (σ 21) (ix 0) (ix 0) (ix 60))) 22 (va_cpy (τ 22) (σ 22) (ix 0) (ix 0) (ix 60)) 27 (by decide))).trans (upr_ne (upr (upr (upr (upr (upr (up σ 15 0 (τ 15 0)) 16 (va_cpy (τ 16) (σ 16) (ix 0) (ix 0) (ix 60))) 17 (va_cpy (τ 17) (σ 17) (ix 0) (ix 0) (ix 60))) 18 (va_cpy (τ 18) (σ 18) (ix 0) (ix 0) (ix 60))) 19 (va_cpy (τ 19) (σ 19) (ix 0) (ix 0) (ix 60))) 20 (va_cpy (τ 20) (σ 20) (ix 0) (ix 0) (ix 60))) 21 (va_cpy (τ 21) (σ 21) (ix 0) (ix 0) (ix 60)) 27 (by decide))).trans (upr_ne (upr (upr (upr (upr (up σ 15 0 (τ 15 0)) 16 (va_cpy (τ 16) (σ 16) (ix 0) (ix 0) (ix 60))) 17 (va_cpy (τ 17) (σ 17) (ix 0) (ix 0) (ix 60))) 18 (va_cpy (τ 18) (σ 18) (ix 0) (ix 0) (ix 60))) 19 (va_cpy (τ 19) (σ 19) (ix 0) (ix 0) (ix 60))) 20 (va_cpy (τ 20) (σ 20) (ix 0) (ix 0) (ix 60)) 27 (by decide))).trans (upr_ne (upr (upr (upr (up σ 15 0 (τ 15 0)) 16 (va_cpy (τ 16) (σ 16) (ix 0) (ix 0) (ix 60))) 17 (va_cpy (τ 17) (σ 17) (ix 0) (ix 0) (ix 60))) 18 (va_cpy (τ 18) (σ 18) (ix 0) (ix 0) (ix 60))) 19 (va_cpy (τ 19) (σ 19) (ix 0) (ix 0) (ix 60)) 27 (by decide))).trans (upr_ne (upr (upr (up σ 15 0 (τ 15 0)) 16 (va_cpy (τ 16) (σ 16) (ix 0) (ix 0) (ix 60))) 17 (va_cpy (τ 17) (σ 17) (ix 0) (ix 0) (ix 60))) 18 (va_cpy (τ 18) (σ 18) (ix 0) (ix 0) (ix 60)) 27 (by decide))).trans (upr_ne (upr (up σ 15 0 (τ 15 0)) 16 (va_cpy (τ 16) (σ 16) (ix 0) (ix 0) (ix 60))) 17 (va_cpy (τ 17) (σ 17) (ix 0) (ix 0) (ix 60)) 27 (by decide))).trans (upr_ne (up σ 15 0 (τ 15 0)) 16 (va_cpy (τ 16) (σ 16) (ix 0) (ix 0) (ix 60)) 27 (by decide))).trans (up_ne σ 15 0 (τ 15 0) 27 (by decide))) (List.mem_cons_of_mem _ tb_916) (List.mem_cons_of_mem _ tb_367) (List.mem_cons_of_mem _ tb_366) (List.mem_cons_of_mem _ tb_109) (by decide +kernel) (by decide +kernel) (by decide +kernel) (by decide +kernel) (by decide +kernel) (Nat.le_of_ble_eq_true rfl) (Nat.le_of_ble_eq_true rfl) (wC cA h (upr (upr (upr (upr (upr (upr (upr (upr (upr (upr (upr (upr (up σ 15 0 (τ 15 0)) 16 (va_cpy (τ 16) (σ 16) (ix 0) (ix 0) (ix 60))) 17 (va_cpy (τ 17) (σ 17) (ix 0) (ix 0) (ix 60))) 18 (va_cpy (τ 18) (σ 18) (ix 0) (ix 0) (ix 60))) 19 (va_cpy (τ 19) (σ 19) (ix 0) (ix 0) (ix 60))) 20 (va_cpy (τ 20) (σ 20) (ix 0) (ix 0) (ix 60))) 21 (va_cpy (τ 21) (σ 21) (ix 0) (ix 0) (ix 60))) 22 (va_cpy (τ 22) (σ 22) (ix 0) (ix 0) (ix 60))) 23 (va_cpy (τ 23) (σ 23) (ix 0) (ix 0) (ix 60))) 24 (va_cpy (τ 24) (σ 24) (ix 0) (ix 0) (ix 60))) 25 (va_cpy (τ 25) (σ 25) (ix 0) (ix 0) (ix 60))) 26 (va_cpy (τ 26) (σ 26) (ix 0) (ix 0) (ix 60))) 27 (va_cpy (τ 27) (σ 27) (ix 0) (ix 0) (ix 60))) ++ (wC cA t τ ++ F)) st_C_C2_27r dX7_copyFrom_185 (fun H locs hw => ?_)
  refine lv_aload_n hx hb dX7_copyFrom_188 rfl (lv_at hl 1 rfl) ?_
  refine q_get (C := RX7) (T := TX7) (N := 15) (ci := 7) E (fun w h => List.mem_cons_of_mem _ (inX7 w h)) hw 24 rfl rfl 12 (by decide) (List.mem_cons_of_mem _ tb_292) (v := .ref (t 28)) rfl dX7_copyFrom_189 ?_
  refine lv_iconst (v := 0) hx hb dX7_copyFrom_192 (by decide) ?_
  refine lv_aload_n hx hb dX7_copyFrom_193 rfl (lv_at hl 0 rfl) ?_
  refine q_get (C := RX7) (T := TX7) (N := 15) (ci := 7) E (fun w h => List.mem_cons_of_mem _ (inX7 w h)) hw 4 rfl rfl 12 (by decide) (List.mem_cons_of_mem _ tb_292) (v := .ref (h 28)) rfl dX7_copyFrom_194 ?_
  refine lv_iconst (v := 0) hx hb dX7_copyFrom_197 (by decide) ?_
  refine lv_bipush (v := 60) hx hb dX7_copyFrom_198 (by decide) ?_
  refine q_copy E hw hl 37 17 rfl rfl rfl (((((((((((((upr_ne (upr (upr (upr (upr (upr (upr (upr (upr (upr (upr (upr (up σ 15 0 (τ 15 0)) 16 (va_cpy (τ 16) (σ 16) (ix 0) (ix 0) (ix 60))) 17 (va_cpy (τ 17) (σ 17) (ix 0) (ix 0) (ix 60))) 18 (va_cpy (τ 18) (σ 18) (ix 0) (ix 0) (ix 60))) 19 (va_cpy (τ 19) (σ 19) (ix 0) (ix 0) (ix 60))) 20 (va_cpy (τ 20) (σ 20) (ix 0) (ix 0) (ix 60))) 21 (va_cpy (τ 21) (σ 21) (ix 0) (ix 0) (ix 60))) 22 (va_cpy (τ 22) (σ 22) (ix 0) (ix 0) (ix 60))) 23 (va_cpy (τ 23) (σ 23) (ix 0) (ix 0) (ix 60))) 24 (va_cpy (τ 24) (σ 24) (ix 0) (ix 0) (ix 60))) 25 (va_cpy (τ 25) (σ 25) (ix 0) (ix 0) (ix 60))) 26 (va_cpy (τ 26) (σ 26) (ix 0) (ix 0) (ix 60))) 27 (va_cpy (τ 27) (σ 27) (ix 0) (ix 0) (ix 60)) 28 (by decide)).trans (upr_ne (upr (upr (upr (upr (upr (upr (upr (upr (upr (upr (up σ 15 0 (τ 15 0)) 16 (va_cpy (τ 16) (σ 16) (ix 0) (ix 0) (ix 60))) 17 (va_cpy (τ 17) (σ 17) (ix 0) (ix 0) (ix 60))) 18 (va_cpy (τ 18) (σ 18) (ix 0) (ix 0) (ix 60))) 19 (va_cpy (τ 19) (σ 19) (ix 0) (ix 0) (ix 60))) 20 (va_cpy (τ 20) (σ 20) (ix 0) (ix 0) (ix 60))) 21 (va_cpy (τ 21) (σ 21) (ix 0) (ix 0) (ix 60))) 22 (va_cpy (τ 22) (σ 22) (ix 0) (ix 0) (ix 60))) 23 (va_cpy (τ 23) (σ 23) (ix 0) (ix 0) (ix 60))) 24 (va_cpy (τ 24) (σ 24) (ix 0) (ix 0) (ix 60))) 25 (va_cpy (τ 25) (σ 25) (ix 0) (ix 0) (ix 60))) 26 (va_cpy (τ 26) (σ 26) (ix 0) (ix 0) (ix 60)) 28 (by decide))).trans (upr_ne (upr (upr (upr (upr (upr (upr (upr (upr (upr (up σ 15 0 (τ 15 0)) 16 (va_cpy (τ 16) (σ 16) (ix 0) (ix 0) (ix 60))) 17 (va_cpy (τ 17) (σ 17) (ix 0) (ix 0) (ix 60))) 18 (va_cpy (τ 18) (σ 18) (ix 0) (ix 0) (ix 60))) 19 (va_cpy (τ 19) (σ 19) (ix 0) (ix 0) (ix 60))) 20 (va_cpy (τ 20) (σ 20) (ix 0) (ix 0) (ix 60))) 21 (va_cpy (τ 21) (σ 21) (ix 0) (ix 0) (ix 60))) 22 (va_cpy (τ 22) (σ 22) (ix 0) (ix 0) (ix 60))) 23 (va_cpy (τ 23) (σ 23) (ix 0) (ix 0) (ix 60))) 24 (va_cpy (τ 24) (σ 24) (ix 0) (ix 0) (ix 60))) 25 (va_cpy (τ 25) (σ 25) (ix 0) (ix 0) (ix 60)) 28 (by decide))).trans (upr_ne (upr (upr (upr (upr (upr (upr (upr (upr (up σ 15 0 (τ 15 0)) 16 (va_cpy (τ 16) (σ 16) (ix 0) (ix 0) (ix 60))) 17 (va_cpy (τ 17) (σ 17) (ix 0) (ix 0) (ix 60))) 18 (va_cpy (τ 18) (σ 18) (ix 0) (ix 0) (ix 60))) 19 (va_cpy (τ 19) (σ 19) (ix 0) (ix 0) (ix 60))) 20 (va_cpy (τ 20) (σ 20) (ix 0) (ix 0) (ix 60))) 21 (va_cpy (τ 21) (σ 21) (ix 0) (ix 0) (ix 60))) 22 (va_cpy (τ 22) (σ 22) (ix 0) (ix 0) (ix 60))) 23 (va_cpy (τ 23) (σ 23) (ix 0) (ix 0) (ix 60))) 24 (va_cpy (τ 24) (σ 24) (ix 0) (ix 0) (ix 60)) 28 (by decide))).trans (upr_ne (upr (upr (upr (upr (upr (upr (upr (up σ 15 0 (τ 15 0)) 16 (va_cpy (τ 16) (σ 16) (ix 0) (ix 0) (ix 60))) 17 (va_cpy (τ 17) (σ 17) (ix 0) (ix 0) (ix 60))) 18 (va_cpy (τ 18) (σ 18) (ix 0) (ix 0) (ix 60))) 19 (va_cpy (τ 19) (σ 19) (ix 0) (ix 0) (ix 60))) 20 (va_cpy (τ 20) (σ 20) (ix 0) (ix 0) (ix 60))) 21 (va_cpy (τ 21) (σ 21) (ix 0) (ix 0) (ix 60))) 22 (va_cpy (τ 22) (σ 22) (ix 0) (ix 0) (ix 60))) 23 (va_cpy (τ 23) (σ 23) (ix 0) (ix 0) (ix 60)) 28 (by decide))).trans (upr_ne (upr (upr (upr (upr (upr (upr (up σ 15 0 (τ 15 0)) 16 (va_cpy (τ 16) (σ 16) (ix 0) (ix 0) (ix 60))) 17 (va_cpy (τ 17) (σ 17) (ix 0) (ix 0) (ix 60))) 18 (va_cpy (τ 18) (σ 18) (ix 0) (ix 0) (ix 60))) 19 (va_cpy (τ 19) (σ 19) (ix 0) (ix 0) (ix 60))) 20 (va_cpy (τ 20) (σ 20) (ix 0) (ix 0) (ix 60))) 21 (va_cpy (τ 21) (σ 21) (ix 0) (ix 0) (ix 60))) 22 (va_cpy (τ 22) (σ 22) (ix 0) (ix 0) (ix 60)) 28 (by decide))).trans (upr_ne (upr (upr (upr (upr (upr (up σ 15 0 (τ 15 0)) 16 (va_cpy (τ 16) (σ 16) (ix 0) (ix 0) (ix 60))) 17 (va_cpy (τ 17) (σ 17) (ix 0) (ix 0) (ix 60))) 18 (va_cpy (τ 18) (σ 18) (ix 0) (ix 0) (ix 60))) 19 (va_cpy (τ 19) (σ 19) (ix 0) (ix 0) (ix 60))) 20 (va_cpy (τ 20) (σ 20) (ix 0) (ix 0) (ix 60))) 21 (va_cpy (τ 21) (σ 21) (ix 0) (ix 0) (ix 60)) 28 (by decide))).trans (upr_ne (upr (upr (upr (upr (up σ 15 0 (τ 15 0)) 16 (va_cpy (τ 16) (σ 16) (ix 0) (ix 0) (ix 60))) 17 (va_cpy (τ 17) (σ 17) (ix 0) (ix 0) (ix 60))) 18 (va_cpy (τ 18) (σ 18) (ix 0) (ix 0) (ix 60))) 19 (va_cpy (τ 19) (σ 19) (ix 0) (ix 0) (ix 60))) 20 (va_cpy (τ 20) (σ 20) (ix 0) (ix 0) (ix 60)) 28 (by decide))).trans (upr_ne (upr (upr (upr (up σ 15 0 (τ 15 0)) 16 (va_cpy (τ 16) (σ 16) (ix 0) (ix 0) (ix 60))) 17 (va_cpy (τ 17) (σ 17) (ix 0) (ix 0) (ix 60))) 18 (va_cpy (τ 18) (σ 18) (ix 0) (ix 0) (ix 60))) 19 (va_cpy (τ 19) (σ 19) (ix 0) (ix 0) (ix 60)) 28 (by decide))).trans (upr_ne (upr (upr (up σ 15 0 (τ 15 0)) 16 (va_cpy (τ 16) (σ 16) (ix 0) (ix 0) (ix 60))) 17 (va_cpy (τ 17) (σ 17) (ix 0) (ix 0) (ix 60))) 18 (va_cpy (τ 18) (σ 18) (ix 0) (ix 0) (ix 60)) 28 (by decide))).trans (upr_ne (upr (up σ 15 0 (τ 15 0)) 16 (va_cpy (τ 16) (σ 16) (ix 0) (ix 0) (ix 60))) 17 (va_cpy (τ 17) (σ 17) (ix 0) (ix 0) (ix 60)) 28 (by decide))).trans (upr_ne (up σ 15 0 (τ 15 0)) 16 (va_cpy (τ 16) (σ 16) (ix 0) (ix 0) (ix 60)) 28 (by decide))).trans (up_ne σ 15 0 (τ 15 0) 28 (by decide))) (List.mem_cons_of_mem _ tb_916) (List.mem_cons_of_mem _ tb_367) (List.mem_cons_of_mem _ tb_366) (List.mem_cons_of_mem _ tb_109) (by decide +kernel) (by decide +kernel) (by decide +kernel) (by decide +kernel) (by decide +kernel) (Nat.le_of_ble_eq_true rfl) (Nat.le_of_ble_eq_true rfl) (wC cA h (upr (upr (upr (upr (upr (upr (upr (upr (upr (upr (upr (upr (upr (up σ 15 0 (τ 15 0)) 16 (va_cpy (τ 16) (σ 16) (ix 0) (ix 0) (ix 60))) 17 (va_cpy (τ 17) (σ 17) (ix 0) (ix 0) (ix 60))) 18 (va_cpy (τ 18) (σ 18) (ix 0) (ix 0) (ix 60))) 19 (va_cpy (τ 19) (σ 19) (ix 0) (ix 0) (ix 60))) 20 (va_cpy (τ 20) (σ 20) (ix 0) (ix 0) (ix 60))) 21 (va_cpy (τ 21) (σ 21) (ix 0) (ix 0) (ix 60))) 22 (va_cpy (τ 22) (σ 22) (ix 0) (ix 0) (ix 60))) 23 (va_cpy (τ 23) (σ 23) (ix 0) (ix 0) (ix 60))) 24 (va_cpy (τ 24) (σ 24) (ix 0) (ix 0) (ix 60))) 25 (va_cpy (τ 25) (σ 25) (ix 0) (ix 0) (ix 60))) 26 (va_cpy (τ 26) (σ 26) (ix 0) (ix 0) (ix 60))) 27 (va_cpy (τ 27) (σ 27) (ix 0) (ix 0) (ix 60))) 28 (va_cpy (τ 28) (σ 28) (ix 0) (ix 0) (ix 60))) ++ (wC cA t τ ++ F)) st_C_C2_28r dX7_copyFrom_200 (fun H locs hw => ?_)
  refine lv_aload_n hx hb dX7_copyFrom_203 rfl (lv_at hl 1 rfl) ?_
  refine q_get (C := RX7) (T := TX7) (N := 15) (ci := 7) E (fun w h => List.mem_cons_of_mem _ (inX7 w h)) hw 24 rfl rfl 13 (by decide) (List.mem_cons_of_mem _ tb_295) (v := .ref (t 29)) rfl dX7_copyFrom_204 ?_
  refine lv_iconst (v := 0) hx hb dX7_copyFrom_207 (by decide) ?_
  refine lv_aload_n hx hb dX7_copyFrom_208 rfl (lv_at hl 0 rfl) ?_
  refine q_get (C := RX7) (T := TX7) (N := 15) (ci := 7) E (fun w h => List.mem_cons_of_mem _ (inX7 w h)) hw 4 rfl rfl 13 (by decide) (List.mem_cons_of_mem _ tb_295) (v := .ref (h 29)) rfl dX7_copyFrom_209 ?_
  refine lv_iconst (v := 0) hx hb dX7_copyFrom_212 (by decide) ?_
  refine lv_bipush (v := 60) hx hb dX7_copyFrom_213 (by decide) ?_
  refine q_copy E hw hl 38 18 rfl rfl rfl ((((((((((((((upr_ne (upr (upr (upr (upr (upr (upr (upr (upr (upr (upr (upr (upr (up σ 15 0 (τ 15 0)) 16 (va_cpy (τ 16) (σ 16) (ix 0) (ix 0) (ix 60))) 17 (va_cpy (τ 17) (σ 17) (ix 0) (ix 0) (ix 60))) 18 (va_cpy (τ 18) (σ 18) (ix 0) (ix 0) (ix 60))) 19 (va_cpy (τ 19) (σ 19) (ix 0) (ix 0) (ix 60))) 20 (va_cpy (τ 20) (σ 20) (ix 0) (ix 0) (ix 60))) 21 (va_cpy (τ 21) (σ 21) (ix 0) (ix 0) (ix 60))) 22 (va_cpy (τ 22) (σ 22) (ix 0) (ix 0) (ix 60))) 23 (va_cpy (τ 23) (σ 23) (ix 0) (ix 0) (ix 60))) 24 (va_cpy (τ 24) (σ 24) (ix 0) (ix 0) (ix 60))) 25 (va_cpy (τ 25) (σ 25) (ix 0) (ix 0) (ix 60))) 26 (va_cpy (τ 26) (σ 26) (ix 0) (ix 0) (ix 60))) 27 (va_cpy (τ 27) (σ 27) (ix 0) (ix 0) (ix 60))) 28 (va_cpy (τ 28) (σ 28) (ix 0) (ix 0) (ix 60)) 29 (by decide)).trans (upr_ne (upr (upr (upr (upr (upr (upr (upr (upr (upr (upr (upr (up σ 15 0 (τ 15 0)) 16 (va_cpy (τ 16) (σ 16) (ix 0) (ix 0) (ix 60))) 17 (va_cpy (τ 17) (σ 17) (ix 0) (ix 0) (ix 60))) 18 (va_cpy (τ 18) (σ 18) (ix 0) (ix 0) (ix 60))) 19 (va_cpy (τ 19) (σ 19) (ix 0) (ix 0) (ix 60))) 20 (va_cpy (τ 20) (σ 20) (ix 0) (ix 0) (ix 60))) 21 (va_cpy (τ 21) (σ 21) (ix 0) (ix 0) (ix 60))) 22 (va_cpy (τ 22) (σ 22) (ix 0) (ix 0) (ix 60))) 23 (va_cpy (τ 23) (σ 23) (ix 0) (ix 0) (ix 60))) 24 (va_cpy (τ 24) (σ 24) (ix 0) (ix 0) (ix 60))) 25 (va_cpy (τ 25) (σ 25) (ix 0) (ix 0) (ix 60))) 26 (va_cpy (τ 26) (σ 26) (ix 0) (ix 0) (ix 60))) 27 (va_cpy (τ 27) (σ 27) (ix 0) (ix 0) (ix 60)) 29 (by decide))).trans (upr_ne (upr (upr (upr (upr (upr (upr (upr (upr (upr (upr (up σ 15 0 (τ 15 0)) 16 (va_cpy (τ 16) (σ 16) (ix 0) (ix 0) (ix 60))) 17 (va_cpy (τ 17) (σ 17) (ix 0) (ix 0) (ix 60))) 18 (va_cpy (τ 18) (σ 18) (ix 0) (ix 0) (ix 60))) 19 (va_cpy (τ 19) (σ 19) (ix 0) (ix 0) (ix 60))) 20 (va_cpy (τ 20) (σ 20) (ix 0) (ix 0) (ix 60))) 21 (va_cpy (τ 21) (σ 21) (ix 0) (ix 0) (ix 60))) 22 (va_cpy (τ 22) (σ 22) (ix 0) (ix 0) (ix 60))) 23 (va_cpy (τ 23) (σ 23) (ix 0) (ix 0) (ix 60))) 24 (va_cpy (τ 24) (σ 24) (ix 0) (ix 0) (ix 60))) 25 (va_cpy (τ 25) (σ 25) (ix 0) (ix 0) (ix 60))) 26 (va_cpy (τ 26) (σ 26) (ix 0) (ix 0) (ix 60)) 29 (by decide))).trans (upr_ne (upr (upr (upr (upr (upr (upr (upr (upr (upr (up σ 15 0 (τ 15 0)) 16 (va_cpy (τ 16) (σ 16) (ix 0) (ix 0) (ix 60))) 17 (va_cpy (τ 17) (σ 17) (ix 0) (ix 0) (ix 60))) 18 (va_cpy (τ 18) (σ 18) (ix 0) (ix 0) (ix 60))) 19 (va_cpy (τ 19) (σ 19) (ix 0) (ix 0) (ix 60))) 20 (va_cpy (τ 20) (σ 20) (ix 0) (ix 0) (ix 60))) 21 (va_cpy (τ 21) (σ 21) (ix 0) (ix 0) (ix 60))) 22 (va_cpy (τ 22) (σ 22) (ix 0) (ix 0) (ix 60))) 23 (va_cpy (τ 23) (σ 23) (ix 0) (ix 0) (ix 60))) 24 (va_cpy (τ 24) (σ 24) (ix 0) (ix 0) (ix 60))) 25 (va_cpy (τ 25) (σ 25) (ix 0) (ix 0) (ix 60)) 29 (by decide))).trans (upr_ne (upr (upr (upr (upr (upr (upr (upr (upr (up σ 15 0 (τ 15 0)) 16 (va_cpy (τ 16) (σ 16) (ix 0) (ix 0) (ix 60))) 17 (va_cpy (τ 17) (σ 17) (ix 0) (ix 0) (ix 60))) 18 (va_cpy (τ 18) (σ 18) (ix 0) (ix 0) (ix 60))) 19 (va_cpy (τ 19) (σ 19) (ix 0) (ix 0) (ix 60))) 20 (va_cpy (τ 20) (σ 20) (ix 0) (ix 0) (ix 60))) 21 (va_cpy (τ 21) (σ 21) (ix 0) (ix 0) (ix 60))) 22 (va_cpy (τ 22) (σ 22) (ix 0) (ix 0) (ix 60))) 23 (va_cpy (τ 23) (σ 23) (ix 0) (ix 0) (ix 60))) 24 (va_cpy (τ 24) (σ 24) (ix 0) (ix 0) (ix 60)) 29 (by decide))).trans (upr_ne (upr (upr (upr (upr (upr (upr (upr (up σ 15 0 (τ 15 0)) 16 (va_cpy (τ 16) (σ 16) (ix 0) (ix 0) (ix 60))) 17 (va_cpy (τ 17) (σ 17) (ix 0) (ix 0) (ix 60))) 18 (va_cpy (τ 18) (σ 18) (ix 0) (ix 0) (ix 60))) 19 (va_cpy (τ 19) (σ 19) (ix 0) (ix 0) (ix 60))) 20 (va_cpy (τ 20) (σ 20) (ix 0) (ix 0) (ix 60))) 21 (va_cpy (τ 21) (σ 21) (ix 0) (ix 0) (ix 60))) 22 (va_cpy (τ 22) (σ 22) (ix 0) (ix 0) (ix 60))) 23 (va_cpy (τ 23) (σ 23) (ix 0) (ix 0) (ix 60)) 29 (by decide))).trans (upr_ne (upr (upr (upr (upr (upr (upr (up σ 15 0 (τ 15 0)) 16 (va_cpy (τ 16) (σ 16) (ix 0) (ix 0) (ix 60))) 17 (va_cpy (τ 17) (σ 17) (ix 0) (ix 0) (ix 60))) 18 (va_cpy (τ 18) (σ 18) (ix 0) (ix 0) (ix 60))) 19 (va_cpy (τ 19) (σ 19) (ix 0) (ix 0) (ix 60))) 20 (va_cpy (τ 20) (σ 20) (ix 0) (ix 0) (ix 60))) 21 (va_cpy (τ 21) (σ 21) (ix 0) (ix 0) (ix 60))) 22 (va_cpy (τ 22) (σ 22) (ix 0) (ix 0) (ix 60)) 29 (by decide))).trans (upr_ne (upr (upr (upr (upr (upr (up σ 15 0 (τ 15 0)) 16 (va_cpy (τ 16) (σ 16) (ix 0) (ix 0) (ix 60))) 17 (va_cpy (τ 17) (σ 17) (ix 0) (ix 0) (ix 60))) 18 (va_cpy (τ 18) (σ 18) (ix 0) (ix 0) (ix 60))) 19 (va_cpy (τ 19) (σ 19) (ix 0) (ix 0) (ix 60))) 20 (va_cpy (τ 20) (σ 20) (ix 0) (ix 0) (ix 60))) 21 (va_cpy (τ 21) (σ 21) (ix 0) (ix 0) (ix 60)) 29 (by decide))).trans (upr_ne (upr (upr (upr (upr (up σ 15 0 (τ 15 0)) 16 (va_cpy (τ 16) (σ 16) (ix 0) (ix 0) (ix 60))) 17 (va_cpy (τ 17) (σ 17) (ix 0) (ix 0) (ix 60))) 18 (va_cpy (τ 18) (σ 18) (ix 0) (ix 0) (ix 60))) 19 (va_cpy (τ 19) (σ 19) (ix 0) (ix 0) (ix 60))) 20 (va_cpy (τ 20) (σ 20) (ix 0) (ix 0) (ix 60)) 29 (by decide))).trans (upr_ne (upr (upr (upr (up σ 15 0 (τ 15 0)) 16 (va_cpy (τ 16) (σ 16) (ix 0) (ix 0) (ix 60))) 17 (va_cpy (τ 17) (σ 17) (ix 0) (ix 0) (ix 60))) 18 (va_cpy (τ 18) (σ 18) (ix 0) (ix 0) (ix 60))) 19 (va_cpy (τ 19) (σ 19) (ix 0) (ix 0) (ix 60)) 29 (by decide))).trans (upr_ne (upr (upr (up σ 15 0 (τ 15 0)) 16 (va_cpy (τ 16) (σ 16) (ix 0) (ix 0) (ix 60))) 17 (va_cpy (τ 17) (σ 17) (ix 0) (ix 0) (ix 60))) 18 (va_cpy (τ 18) (σ 18) (ix 0) (ix 0) (ix 60)) 29 (by decide))).trans (upr_ne (upr (up σ 15 0 (τ 15 0)) 16 (va_cpy (τ 16) (σ 16) (ix 0) (ix 0) (ix 60))) 17 (va_cpy (τ 17) (σ 17) (ix 0) (ix 0) (ix 60)) 29 (by decide))).trans (upr_ne (up σ 15 0 (τ 15 0)) 16 (va_cpy (τ 16) (σ 16) (ix 0) (ix 0) (ix 60)) 29 (by decide))).trans (up_ne σ 15 0 (τ 15 0) 29 (by decide))) (List.mem_cons_of_mem _ tb_916) (List.mem_cons_of_mem _ tb_367) (List.mem_cons_of_mem _ tb_366) (List.mem_cons_of_mem _ tb_109) (by decide +kernel) (by decide +kernel) (by decide +kernel) (by decide +kernel) (by decide +kernel) (Nat.le_of_ble_eq_true rfl) (Nat.le_of_ble_eq_true rfl) (wC cA h (upr (upr (upr (upr (upr (upr (upr (upr (upr (upr (upr (upr (upr (upr (up σ 15 0 (τ 15 0)) 16 (va_cpy (τ 16) (σ 16) (ix 0) (ix 0) (ix 60))) 17 (va_cpy (τ 17) (σ 17) (ix 0) (ix 0) (ix 60))) 18 (va_cpy (τ 18) (σ 18) (ix 0) (ix 0) (ix 60))) 19 (va_cpy (τ 19) (σ 19) (ix 0) (ix 0) (ix 60))) 20 (va_cpy (τ 20) (σ 20) (ix 0) (ix 0) (ix 60))) 21 (va_cpy (τ 21) (σ 21) (ix 0) (ix 0) (ix 60))) 22 (va_cpy (τ 22) (σ 22) (ix 0) (ix 0) (ix 60))) 23 (va_cpy (τ 23) (σ 23) (ix 0) (ix 0) (ix 60))) 24 (va_cpy (τ 24) (σ 24) (ix 0) (ix 0) (ix 60))) 25 (va_cpy (τ 25) (σ 25) (ix 0) (ix 0) (ix 60))) 26 (va_cpy (τ 26) (σ 26) (ix 0) (ix 0) (ix 60))) 27 (va_cpy (τ 27) (σ 27) (ix 0) (ix 0) (ix 60))) 28 (va_cpy (τ 28) (σ 28) (ix 0) (ix 0) (ix 60))) 29 (va_cpy (τ 29) (σ 29) (ix 0) (ix 0) (ix 60))) ++ (wC cA t τ ++ F)) st_C_C2_29r dX7_copyFrom_215 (fun H locs hw => ?_)
  cases hM
  exact q_retv E hw dX7_copyFrom_218
def f_X1_copyFrom    (σ : Sg) (τ : Sg) : Option (Sg) := (f_X0_copyFrom (up σ 12 0 (τ 12 0)) τ).bind (fun p1 => (f_X7_copyFrom (upr p1 30 (va_cpy (τ 30) (p1 30) (ix 0) (ix 0) (ix 4))) τ).bind (fun p3 => some p3))
set_option maxRecDepth 100000 in
set_option maxHeartbeats 4000000 in
theorem c_X1_copyFrom (l : Launch) (D : va_G) (cA : Nat → ClassId) (tS : Nat → Nat) (A : Nat → Prop) (h : Nat → Nat) (t : Nat → Nat) (F : va_W) (σ : Sg) (τ : Sg) (s0 : Sg) (hM : f_X1_copyFrom σ τ = some s0) : Ct l yX1_copyFrom (Cond.code yX1_copyFrom cX1_copyFrom 2 none :: bw) 2 74 D cA tS A [.ref (h 42), .ref (t 42)] (wC cA h σ ++ (wC cA t τ ++ F)) none (wC cA h s0 ++ (wC cA t τ ++ F)) := by
  refine ct_of (by decide +kernel) (Nat.le_of_ble_eq_true rfl) ?_
  intro p e s m below meth c E hw ls hl
  replace E : Ev p cX1_copyFrom 2 none RX1 (Cond.code yX1_copyFrom cX1_copyFrom 2 none :: bw) D cA tS A s m _ meth c := E
  replace hl : lv_has ls 2 [(0, .ref (h 42)), (1, .ref (t 42))] := hl
  have hx := E.1.1
  have hb := E.1.2.1
  unfold f_X1_copyFrom at hM
  refine lv_aload_n hx hb dX1_copyFrom_0 rfl (lv_at hl 0 rfl) ?_
  refine lv_aload_n hx hb dX1_copyFrom_1 rfl (lv_at hl 1 rfl) ?_
  refine q_get (C := RX1) (T := TX1) (N := 6) (ci := 1) E (fun w h => List.mem_cons_of_mem _ (inX1 w h)) hw 20 rfl rfl 5 (by decide) (List.mem_cons_of_mem _ tb_340) (v := .int (τ 12 0)) rfl dX1_copyFrom_2 ?_
  refine q_puti (C := RX1) (T := TX1) (N := 6) (ci := 1) E (fun w h => List.mem_cons_of_mem _ (inX1 w h)) tyX1 tyX1_ok nmX1 hw 0 rfl rfl 5 (by decide) (List.mem_cons_of_mem _ tb_340) rfl rfl (Nat.le_of_ble_eq_true rfl) (wC cA h (up σ 12 0 (τ 12 0)) ++ (wC cA t τ ++ F)) st_C_C2_12 dX1_copyFrom_5 (fun H locs hw => ?_)
  refine lv_aload_n hx hb dX1_copyFrom_8 rfl (lv_at hl 0 rfl) ?_
  refine q_get (C := RX1) (T := TX1) (N := 6) (ci := 1) E (fun w h => List.mem_cons_of_mem _ (inX1 w h)) hw 0 rfl rfl 2 (by decide) (List.mem_cons_of_mem _ tb_334) (v := .ref (h 43)) rfl dX1_copyFrom_9 ?_
  refine lv_aload_n hx hb dX1_copyFrom_12 rfl (lv_at hl 1 rfl) ?_
  refine q_get (C := RX1) (T := TX1) (N := 6) (ci := 1) E (fun w h => List.mem_cons_of_mem _ (inX1 w h)) hw 20 rfl rfl 2 (by decide) (List.mem_cons_of_mem _ tb_334) (v := .ref (t 43)) rfl dX1_copyFrom_13 ?_
  obtain ⟨p1, h2, hM⟩ := b_some hM
  refine q_cvv (As := [.ref (t 43)]) (rest := []) E hw hl (c_X0_copyFrom l D cA tS A h t F (up σ 12 0 (τ 12 0)) τ p1 h2) 1 (bwV bw_c tb_907 tb_908 tb_909 tb_107 tb_910) rfl (by decide +kernel) ⟨Nat.le_of_ble_eq_true rfl, Nat.le_of_ble_eq_true rfl⟩ 1 0 (T := TX0) (N := 2) rfl rfl rfl rfl (Nat.le_of_ble_eq_true rfl) ⟨Nat.zero_le _, Nat.zero_le _⟩ dX1_copyFrom_16 (fun H locs hw => ?_)
  refine lv_aload_n hx hb dX1_copyFrom_19 rfl (lv_at hl 1 rfl) ?_
  refine q_get (C := RX1) (T := TX1) (N := 6) (ci := 1) E (fun w h => List.mem_cons_of_mem _ (inX1 w h)) hw 20 rfl rfl 4 (by decide) (List.mem_cons_of_mem _ tb_338) (v := .ref (t 30)) rfl dX1_copyFrom_20 ?_
  refine lv_iconst (v := 0) hx hb dX1_copyFrom_23 (by decide) ?_
  refine lv_aload_n hx hb dX1_copyFrom_24 rfl (lv_at hl 0 rfl) ?_
  refine q_get (C := RX1) (T := TX1) (N := 6) (ci := 1) E (fun w h => List.mem_cons_of_mem _ (inX1 w h)) hw 0 rfl rfl 4 (by decide) (List.mem_cons_of_mem _ tb_338) (v := .ref (h 30)) rfl dX1_copyFrom_25 ?_
  refine lv_iconst (v := 0) hx hb dX1_copyFrom_28 (by decide) ?_
  refine lv_iconst (v := 4) hx hb dX1_copyFrom_29 (by decide) ?_
  refine q_copy E hw hl 39 19 rfl rfl rfl rfl (List.mem_cons_of_mem _ tb_911) (List.mem_cons_of_mem _ tb_367) (List.mem_cons_of_mem _ tb_366) (List.mem_cons_of_mem _ tb_109) (by decide +kernel) (by decide +kernel) (by decide +kernel) (by decide +kernel) (by decide +kernel) (Nat.le_of_ble_eq_true rfl) (Nat.le_of_ble_eq_true rfl) (wC cA h (upr p1 30 (va_cpy (τ 30) (p1 30) (ix 0) (ix 0) (ix 4))) ++ (wC cA t τ ++ F)) st_C_C2_30r dX1_copyFrom_30 (fun H locs hw => ?_)
  refine lv_aload_n hx hb dX1_copyFrom_33 rfl (lv_at hl 0 rfl) ?_
  refine q_get (C := RX1) (T := TX1) (N := 6) (ci := 1) E (fun w h => List.mem_cons_of_mem _ (inX1 w h)) hw 0 rfl rfl 3 (by decide) (List.mem_cons_of_mem _ tb_336) (v := .ref (h 44)) rfl dX1_copyFrom_34 ?_
  refine lv_aload_n hx hb dX1_copyFrom_37 rfl (lv_at hl 1 rfl) ?_
  refine q_get (C := RX1) (T := TX1) (N := 6) (ci := 1) E (fun w h => List.mem_cons_of_mem _ (inX1 w h)) hw 20 rfl rfl 3 (by decide) (List.mem_cons_of_mem _ tb_336) (v := .ref (t 44)) rfl dX1_copyFrom_38 ?_
  obtain ⟨p3, h4, hM⟩ := b_some hM
  refine q_cvv (As := [.ref (t 44)]) (rest := []) E hw hl (c_X7_copyFrom l D cA tS A h t F (upr p1 30 (va_cpy (τ 30) (p1 30) (ix 0) (ix 0) (ix 4))) τ p3 h4) 1 (bwV bw_c tb_912 tb_913 tb_914 tb_108 tb_915) rfl (by decide +kernel) ⟨Nat.le_of_ble_eq_true rfl, Nat.le_of_ble_eq_true rfl⟩ 4 7 (T := TX7) (N := 15) rfl rfl rfl rfl (Nat.le_of_ble_eq_true rfl) ⟨Nat.zero_le _, Nat.zero_le _⟩ dX1_copyFrom_41 (fun H locs hw => ?_)
  cases hM
  exact q_retv E hw dX1_copyFrom_44
def f_X1_dayError_43    (x1 : Int32) (x4 : Int32) (σ : Sg) : Option (Int32) := (f_X8_within x1 0 6).bind (fun p1 => (if p1 = 0 then some (-4) else (if x4 = 0 then some (-4) else some 0)))
set_option maxRecDepth 100000 in
set_option maxHeartbeats 4000000 in
theorem s_X1_dayError_43 (l : Launch) (D : va_G) (cA : Nat → ClassId) (tS : Nat → Nat) (A : Nat → Prop) (h : Nat → Nat) (L : Nat) (F : va_W) {p : Program} {e : Env} {s : State} {m : MethodId} {args : Array Value} {below : List Frame} {meth : Method} {c : Code} (E : Ev p cX1_dayError 6 (some .int) RX1 (Cond.code yX1_dayError cX1_dayError 6 (some .int) :: bw) D cA tS A s m args meth c) : ∀ (x1 : Int32) (x4 : Int32) (σ : Sg) (r0 : Int32) (hM : f_X1_dayError_43 x1 x4 σ = some r0) (H : Heap) (locs : List Loc) (hw : Wd D A (wK cA h σ ++ (wLg cA h σ L ++ (wC cA h σ ++ F))) s.heap H locs) (ls : Array Slot) (hl : lv_has ls 6 [(1, .int x1), (4, .int x4)]), W p l e ({ frames := 1, cells := 0, slots := 0, locals := 22 } : Room) s m args below meth c H locs 0 0 (MQ below (QW D A (some (.int r0)) (wK cA h σ ++ (wLg cA h σ L ++ (wC cA h σ ++ F)))) args s 0 0 A) (F0 m 43 ls []) := by
  have hx := E.1.1
  have hb := E.1.2.1
  intro x1 x4 σ r0 hM H locs hw ls hl
  unfold f_X1_dayError_43 at hM
  refine lv_iconst (v := 0) hx hb dX1_dayError_43 (by decide) ?_
  refine lv_istore (lv' := [(5, .int 0), (1, .int x1), (4, .int x4)]) hx hb dX1_dayError_44 hl (by decide) rfl (fun ls hl => ?_)
  refine lv_iload_n hx hb dX1_dayError_46 rfl (lv_at hl 1 rfl) ?_
  refine lv_iconst (v := 0) hx hb dX1_dayError_47 (by decide) ?_
  refine lv_bipush (v := 6) hx hb dX1_dayError_48 (by decide) ?_
  obtain ⟨p1, h2, hM⟩ := b_some hM
  refine q_cn (host := "HelpDesk") (As := [.int x1, .int 0, .int 6]) (rest := []) E hw hl (c_X8_within l D cA tS A (wK cA h σ ++ (wLg cA h σ L ++ (wC cA h σ ++ F))) x1 0 6 p1 h2) 3 (bwc bw_c tb_482) rfl (by decide +kernel) (List.mem_cons_of_mem _ tb_100) (List.mem_cons_of_mem _ tb_481) (by decide +kernel) ⟨Nat.le_of_ble_eq_true rfl, Nat.le_of_ble_eq_true rfl⟩ rfl rfl (Nat.le_of_ble_eq_true rfl) ⟨Nat.zero_le _, Nat.zero_le _⟩ dX1_dayError_50 (fun H locs hw => ?_)
  refine lv_if_eq (tgt := 70) hx hb dX1_dayError_53 (by decide) (fun c3 => ?_) (fun c3 => ?_)
  · replace hM := i_pos hM c3
    refine lv_bipush (v := (-4)) hx hb dX1_dayError_70 (by decide) ?_
    cases hM
    exact q_reti E hw dX1_dayError_72
  · replace hM := i_neg hM c3
    refine lv_iload hx hb dX1_dayError_56 (lv_at hl 2 rfl) ?_
    refine lv_if_ne (tgt := 66) hx hb dX1_dayError_58 (by decide) (fun c4 => ?_) (fun c4 => ?_)
    · replace hM := i_neg hM c4
      refine lv_iconst (v := 0) hx hb dX1_dayError_66 (by decide) ?_
      refine lv_goto (tgt := 72) hx hb dX1_dayError_67 (by decide) ?_
      cases hM
      exact q_reti E hw dX1_dayError_72
    · replace hM := i_pos hM c4
      refine lv_iload hx hb dX1_dayError_61 (lv_at hl 0 rfl) ?_
      refine lv_if_eq (tgt := 70) hx hb dX1_dayError_63 (by decide) (fun c5 => ?_) (fun c5 => ?_)
      · refine lv_bipush (v := (-4)) hx hb dX1_dayError_70 (by decide) ?_
        cases hM
        exact q_reti E hw dX1_dayError_72
      · first | exact absurd (by decide) c5 | exact absurd c5 (by decide)
def f_X1_dayError_12    (x1 : Int32) (x2 : Int32) (x3 : Int32) (σ : Sg) : Option (Int32) := (f_X8_within x2 0 1439).bind (fun p1 => (if p1 = 0 then f_X1_dayError_43 x1 0 σ else (f_X8_within x3 (x2 + 1) 1440).bind (fun p4 => (if p4 = 0 then f_X1_dayError_43 x1 0 σ else (f_X8_within x1 0 6).bind (fun p7 => (if p7 = 0 then some (-4) else some 0))))))
set_option maxRecDepth 100000 in
set_option maxHeartbeats 4000000 in
theorem s_X1_dayError_12 (l : Launch) (D : va_G) (cA : Nat → ClassId) (tS : Nat → Nat) (A : Nat → Prop) (h : Nat → Nat) (L : Nat) (F : va_W) {p : Program} {e : Env} {s : State} {m : MethodId} {args : Array Value} {below : List Frame} {meth : Method} {c : Code} (E : Ev p cX1_dayError 6 (some .int) RX1 (Cond.code yX1_dayError cX1_dayError 6 (some .int) :: bw) D cA tS A s m args meth c) : ∀ (x1 : Int32) (x2 : Int32) (x3 : Int32) (σ : Sg) (r0 : Int32) (hM : f_X1_dayError_12 x1 x2 x3 σ = some r0) (H : Heap) (locs : List Loc) (hw : Wd D A (wK cA h σ ++ (wLg cA h σ L ++ (wC cA h σ ++ F))) s.heap H locs) (ls : Array Slot) (hl : lv_has ls 6 [(1, .int x1), (2, .int x2), (3, .int x3)]), W p l e ({ frames := 1, cells := 0, slots := 0, locals := 22 } : Room) s m args below meth c H locs 0 0 (MQ below (QW D A (some (.int r0)) (wK cA h σ ++ (wLg cA h σ L ++ (wC cA h σ ++ F)))) args s 0 0 A) (F0 m 12 ls []) := by
  have hx := E.1.1
  have hb := E.1.2.1
  intro x1 x2 x3 σ r0 hM H locs hw ls hl
  unfold f_X1_dayError_12 at hM
  refine lv_iconst (v := 0) hx hb dX1_dayError_12 (by decide) ?_
  refine lv_istore (lv' := [(4, .int 0), (1, .int x1), (2, .int x2), (3, .int x3)]) hx hb dX1_dayError_13 hl (by decide) rfl (fun ls hl => ?_)
  refine lv_iload_n hx hb dX1_dayError_15 rfl (lv_at hl 2 rfl) ?_
  refine lv_iconst (v := 0) hx hb dX1_dayError_16 (by decide) ?_
  refine lv_sipush (v := 1439) hx hb dX1_dayError_17 (by decide) ?_
  obtain ⟨p1, h2, hM⟩ := b_some hM
  refine q_cn (host := "HelpDesk") (As := [.int x2, .int 0, .int 1439]) (rest := []) E hw hl (c_X8_within l D cA tS A (wK cA h σ ++ (wLg cA h σ L ++ (wC cA h σ ++ F))) x2 0 1439 p1 h2) 3 (bwc bw_c tb_482) rfl (by decide +kernel) (List.mem_cons_of_mem _ tb_100) (List.mem_cons_of_mem _ tb_481) (by decide +kernel) ⟨Nat.le_of_ble_eq_true rfl, Nat.le_of_ble_eq_true rfl⟩ rfl rfl (Nat.le_of_ble_eq_true rfl) ⟨Nat.zero_le _, Nat.zero_le _⟩ dX1_dayError_20 (fun H locs hw => ?_)
  refine lv_if_eq (tgt := 43) hx hb dX1_dayError_23 (by decide) (fun c3 => ?_) (fun c3 => ?_)
  · replace hM := i_pos hM c3
    exact s_X1_dayError_43 l D cA tS A h L F E _ _ _ _ hM _ _ hw _ (lv_sub hl [1, 0] rfl)
  · replace hM := i_neg hM c3
    refine lv_iload_n hx hb dX1_dayError_26 rfl (lv_at hl 3 rfl) ?_
    refine lv_iload_n hx hb dX1_dayError_27 rfl (lv_at hl 2 rfl) ?_
    refine lv_iconst (v := 1) hx hb dX1_dayError_28 (by decide) ?_
    refine lv_iadd hx hb dX1_dayError_29 ?_
    refine lv_sipush (v := 1440) hx hb dX1_dayError_30 (by decide) ?_
    obtain ⟨p4, h5, hM⟩ := b_some hM
    refine q_cn (host := "HelpDesk") (As := [.int x3, .int (x2 + 1), .int 1440]) (rest := []) E hw hl (c_X8_within l D cA tS A (wK cA h σ ++ (wLg cA h σ L ++ (wC cA h σ ++ F))) x3 (x2 + 1) 1440 p4 h5) 3 (bwc bw_c tb_482) rfl (by decide +kernel) (List.mem_cons_of_mem _ tb_100) (List.mem_cons_of_mem _ tb_481) (by decide +kernel) ⟨Nat.le_of_ble_eq_true rfl, Nat.le_of_ble_eq_true rfl⟩ rfl rfl (Nat.le_of_ble_eq_true rfl) ⟨Nat.zero_le _, Nat.zero_le _⟩ dX1_dayError_33 (fun H locs hw => ?_)
    refine lv_if_eq (tgt := 43) hx hb dX1_dayError_36 (by decide) (fun c6 => ?_) (fun c6 => ?_)
    · replace hM := i_pos hM c6
      exact s_X1_dayError_43 l D cA tS A h L F E _ _ _ _ hM _ _ hw _ (lv_sub hl [1, 0] rfl)
    · replace hM := i_neg hM c6
      refine lv_iconst (v := 1) hx hb dX1_dayError_39 (by decide) ?_
      refine lv_goto (tgt := 44) hx hb dX1_dayError_40 (by decide) ?_
      refine lv_istore (lv' := [(5, .int 1), (4, .int 0), (1, .int x1), (2, .int x2), (3, .int x3)]) hx hb dX1_dayError_44 hl (by decide) rfl (fun ls hl => ?_)
      refine lv_iload_n hx hb dX1_dayError_46 rfl (lv_at hl 2 rfl) ?_
      refine lv_iconst (v := 0) hx hb dX1_dayError_47 (by decide) ?_
      refine lv_bipush (v := 6) hx hb dX1_dayError_48 (by decide) ?_
      obtain ⟨p7, h8, hM⟩ := b_some hM
      refine q_cn (host := "HelpDesk") (As := [.int x1, .int 0, .int 6]) (rest := []) E hw hl (c_X8_within l D cA tS A (wK cA h σ ++ (wLg cA h σ L ++ (wC cA h σ ++ F))) x1 0 6 p7 h8) 3 (bwc bw_c tb_482) rfl (by decide +kernel) (List.mem_cons_of_mem _ tb_100) (List.mem_cons_of_mem _ tb_481) (by decide +kernel) ⟨Nat.le_of_ble_eq_true rfl, Nat.le_of_ble_eq_true rfl⟩ rfl rfl (Nat.le_of_ble_eq_true rfl) ⟨Nat.zero_le _, Nat.zero_le _⟩ dX1_dayError_50 (fun H locs hw => ?_)
      refine lv_if_eq (tgt := 70) hx hb dX1_dayError_53 (by decide) (fun c9 => ?_) (fun c9 => ?_)
      · replace hM := i_pos hM c9
        refine lv_bipush (v := (-4)) hx hb dX1_dayError_70 (by decide) ?_
        cases hM
        exact q_reti E hw dX1_dayError_72
      · replace hM := i_neg hM c9
        refine lv_iload hx hb dX1_dayError_56 (lv_at hl 1 rfl) ?_
        refine lv_if_ne (tgt := 66) hx hb dX1_dayError_58 (by decide) (fun c10 => ?_) (fun c10 => ?_)
        · first | exact absurd (by decide) c10 | exact absurd c10 (by decide)
        · refine lv_iload hx hb dX1_dayError_61 (lv_at hl 0 rfl) ?_
          refine lv_if_eq (tgt := 70) hx hb dX1_dayError_63 (by decide) (fun c11 => ?_) (fun c11 => ?_)
          · first | exact absurd (by decide) c11 | exact absurd c11 (by decide)
          · refine lv_iconst (v := 0) hx hb dX1_dayError_66 (by decide) ?_
            refine lv_goto (tgt := 72) hx hb dX1_dayError_67 (by decide) ?_
            cases hM
            exact q_reti E hw dX1_dayError_72
def f_X1_dayError    (x1 : Int32) (x2 : Int32) (x3 : Int32) (σ : Sg) : Option (Int32) := (if x2 = 0 then (if x3 = 0 then (f_X8_within x2 0 1439).bind (fun p3 => (if p3 = 0 then f_X1_dayError_43 x1 1 σ else (f_X8_within x3 (x2 + 1) 1440).bind (fun p6 => (if p6 = 0 then f_X1_dayError_43 x1 1 σ else (f_X8_within x1 0 6).bind (fun p9 => (if p9 = 0 then some (-4) else some 0)))))) else f_X1_dayError_12 x1 x2 x3 σ) else f_X1_dayError_12 x1 x2 x3 σ)
set_option maxRecDepth 100000 in
set_option maxHeartbeats 4000000 in
theorem c_X1_dayError (l : Launch) (D : va_G) (cA : Nat → ClassId) (tS : Nat → Nat) (A : Nat → Prop) (h : Nat → Nat) (L : Nat) (F : va_W) (x1 : Int32) (x2 : Int32) (x3 : Int32) (σ : Sg) (r0 : Int32) (hM : f_X1_dayError x1 x2 x3 σ = some r0) : Ct l yX1_dayError (Cond.code yX1_dayError cX1_dayError 6 (some .int) :: bw) 1 22 D cA tS A [.ref (h 42), .int x1, .int x2, .int x3] (wK cA h σ ++ (wLg cA h σ L ++ (wC cA h σ ++ F))) (some (.int r0)) (wK cA h σ ++ (wLg cA h σ L ++ (wC cA h σ ++ F))) := by
  refine ct_of (by decide +kernel) (Nat.le_of_ble_eq_true rfl) ?_
  intro p e s m below meth c E hw ls hl
  replace E : Ev p cX1_dayError 6 (some .int) RX1 (Cond.code yX1_dayError cX1_dayError 6 (some .int) :: bw) D cA tS A s m _ meth c := E
  replace hl : lv_has ls 6 [(0, .ref (h 42)), (1, .int x1), (2, .int x2), (3, .int x3)] := hl
  have hx := E.1.1
  have hb := E.1.2.1
  unfold f_X1_dayError at hM
  refine lv_iload_n hx hb dX1_dayError_0 rfl (lv_at hl 2 rfl) ?_
  refine lv_if_ne (tgt := 12) hx hb dX1_dayError_1 (by decide) (fun c1 => ?_) (fun c1 => ?_)
  · replace hM := i_neg hM c1
    exact s_X1_dayError_12 l D cA tS A h L F E _ _ _ _ _ hM _ _ hw _ (lv_sub hl [1, 2, 3] rfl)
  · replace hM := i_pos hM c1
    refine lv_iload_n hx hb dX1_dayError_4 rfl (lv_at hl 3 rfl) ?_
    refine lv_if_ne (tgt := 12) hx hb dX1_dayError_5 (by decide) (fun c2 => ?_) (fun c2 => ?_)
    · replace hM := i_neg hM c2
      exact s_X1_dayError_12 l D cA tS A h L F E _ _ _ _ _ hM _ _ hw _ (lv_sub hl [1, 2, 3] rfl)
    · replace hM := i_pos hM c2
      refine lv_iconst (v := 1) hx hb dX1_dayError_8 (by decide) ?_
      refine lv_goto (tgt := 13) hx hb dX1_dayError_9 (by decide) ?_
      refine lv_istore (lv' := [(4, .int 1), (0, .ref (h 42)), (1, .int x1), (2, .int x2), (3, .int x3)]) hx hb dX1_dayError_13 hl (by decide) rfl (fun ls hl => ?_)
      refine lv_iload_n hx hb dX1_dayError_15 rfl (lv_at hl 3 rfl) ?_
      refine lv_iconst (v := 0) hx hb dX1_dayError_16 (by decide) ?_
      refine lv_sipush (v := 1439) hx hb dX1_dayError_17 (by decide) ?_
      obtain ⟨p3, h4, hM⟩ := b_some hM
      refine q_cn (host := "HelpDesk") (As := [.int x2, .int 0, .int 1439]) (rest := []) E hw hl (c_X8_within l D cA tS A (wK cA h σ ++ (wLg cA h σ L ++ (wC cA h σ ++ F))) x2 0 1439 p3 h4) 3 (bwc bw_c tb_482) rfl (by decide +kernel) (List.mem_cons_of_mem _ tb_100) (List.mem_cons_of_mem _ tb_481) (by decide +kernel) ⟨Nat.le_of_ble_eq_true rfl, Nat.le_of_ble_eq_true rfl⟩ rfl rfl (Nat.le_of_ble_eq_true rfl) ⟨Nat.zero_le _, Nat.zero_le _⟩ dX1_dayError_20 (fun H locs hw => ?_)
      refine lv_if_eq (tgt := 43) hx hb dX1_dayError_23 (by decide) (fun c5 => ?_) (fun c5 => ?_)
      · replace hM := i_pos hM c5
        exact s_X1_dayError_43 l D cA tS A h L F E _ _ _ _ hM _ _ hw _ (lv_sub hl [2, 0] rfl)
      · replace hM := i_neg hM c5
        refine lv_iload_n hx hb dX1_dayError_26 rfl (lv_at hl 4 rfl) ?_
        refine lv_iload_n hx hb dX1_dayError_27 rfl (lv_at hl 3 rfl) ?_
        refine lv_iconst (v := 1) hx hb dX1_dayError_28 (by decide) ?_
        refine lv_iadd hx hb dX1_dayError_29 ?_
        refine lv_sipush (v := 1440) hx hb dX1_dayError_30 (by decide) ?_
        obtain ⟨p6, h7, hM⟩ := b_some hM
        refine q_cn (host := "HelpDesk") (As := [.int x3, .int (x2 + 1), .int 1440]) (rest := []) E hw hl (c_X8_within l D cA tS A (wK cA h σ ++ (wLg cA h σ L ++ (wC cA h σ ++ F))) x3 (x2 + 1) 1440 p6 h7) 3 (bwc bw_c tb_482) rfl (by decide +kernel) (List.mem_cons_of_mem _ tb_100) (List.mem_cons_of_mem _ tb_481) (by decide +kernel) ⟨Nat.le_of_ble_eq_true rfl, Nat.le_of_ble_eq_true rfl⟩ rfl rfl (Nat.le_of_ble_eq_true rfl) ⟨Nat.zero_le _, Nat.zero_le _⟩ dX1_dayError_33 (fun H locs hw => ?_)
        refine lv_if_eq (tgt := 43) hx hb dX1_dayError_36 (by decide) (fun c8 => ?_) (fun c8 => ?_)
        · replace hM := i_pos hM c8
          exact s_X1_dayError_43 l D cA tS A h L F E _ _ _ _ hM _ _ hw _ (lv_sub hl [2, 0] rfl)
        · replace hM := i_neg hM c8
          refine lv_iconst (v := 1) hx hb dX1_dayError_39 (by decide) ?_
          refine lv_goto (tgt := 44) hx hb dX1_dayError_40 (by decide) ?_
          refine lv_istore (lv' := [(5, .int 1), (4, .int 1), (0, .ref (h 42)), (1, .int x1), (2, .int x2), (3, .int x3)]) hx hb dX1_dayError_44 hl (by decide) rfl (fun ls hl => ?_)
          refine lv_iload_n hx hb dX1_dayError_46 rfl (lv_at hl 3 rfl) ?_
          refine lv_iconst (v := 0) hx hb dX1_dayError_47 (by decide) ?_
          refine lv_bipush (v := 6) hx hb dX1_dayError_48 (by decide) ?_
          obtain ⟨p9, h10, hM⟩ := b_some hM
          refine q_cn (host := "HelpDesk") (As := [.int x1, .int 0, .int 6]) (rest := []) E hw hl (c_X8_within l D cA tS A (wK cA h σ ++ (wLg cA h σ L ++ (wC cA h σ ++ F))) x1 0 6 p9 h10) 3 (bwc bw_c tb_482) rfl (by decide +kernel) (List.mem_cons_of_mem _ tb_100) (List.mem_cons_of_mem _ tb_481) (by decide +kernel) ⟨Nat.le_of_ble_eq_true rfl, Nat.le_of_ble_eq_true rfl⟩ rfl rfl (Nat.le_of_ble_eq_true rfl) ⟨Nat.zero_le _, Nat.zero_le _⟩ dX1_dayError_50 (fun H locs hw => ?_)
          refine lv_if_eq (tgt := 70) hx hb dX1_dayError_53 (by decide) (fun c11 => ?_) (fun c11 => ?_)
          · replace hM := i_pos hM c11
            refine lv_bipush (v := (-4)) hx hb dX1_dayError_70 (by decide) ?_
            cases hM
            exact q_reti E hw dX1_dayError_72
          · replace hM := i_neg hM c11
            refine lv_iload hx hb dX1_dayError_56 (lv_at hl 1 rfl) ?_
            refine lv_if_ne (tgt := 66) hx hb dX1_dayError_58 (by decide) (fun c12 => ?_) (fun c12 => ?_)
            · refine lv_iconst (v := 0) hx hb dX1_dayError_66 (by decide) ?_
              refine lv_goto (tgt := 72) hx hb dX1_dayError_67 (by decide) ?_
              cases hM
              exact q_reti E hw dX1_dayError_72
            · first | exact absurd (by decide) c12 | exact absurd c12 (by decide)
def f_X7_isFull    (σ : Sg) : Option (Int32) := (if (σ 15 0) < 60 then some 0 else some 1)
set_option maxRecDepth 100000 in
set_option maxHeartbeats 4000000 in
theorem c_X7_isFull (l : Launch) (D : va_G) (cA : Nat → ClassId) (tS : Nat → Nat) (A : Nat → Prop) (h : Nat → Nat) (L : Nat) (F : va_W) (σ : Sg) (r0 : Int32) (hM : f_X7_isFull σ = some r0) : Ct l yX7_isFull (Cond.code yX7_isFull cX7_isFull 1 (some .boolean) :: bw) 0 0 D cA tS A [.ref (h 44)] (wK cA h σ ++ (wLg cA h σ L ++ (wC cA h σ ++ F))) (some (.int r0)) (wK cA h σ ++ (wLg cA h σ L ++ (wC cA h σ ++ F))) := by
  refine ct_of (by decide +kernel) (Nat.le_of_ble_eq_true rfl) ?_
  intro p e s m below meth c E hw ls hl
  replace E : Ev p cX7_isFull 1 (some .boolean) RX7 (Cond.code yX7_isFull cX7_isFull 1 (some .boolean) :: bw) D cA tS A s m _ meth c := E
  replace hl : lv_has ls 1 [(0, .ref (h 44))] := hl
  have hx := E.1.1
  have hb := E.1.2.1
  unfold f_X7_isFull at hM
  refine lv_aload_n hx hb dX7_isFull_0 rfl (lv_at hl 0 rfl) ?_
  refine q_get (C := RX7) (T := TX7) (N := 15) (ci := 7) E (fun w h => List.mem_cons_of_mem _ (inX7 w h)) hw 16 rfl rfl 14 (by decide) (List.mem_cons_of_mem _ tb_298) (v := .int (σ 15 0)) rfl dX7_isFull_1 ?_
  refine lv_bipush (v := 60) hx hb dX7_isFull_4 (by decide) ?_
  refine lv_icmp_lt (tgt := 13) hx hb dX7_isFull_6 (by decide) (fun c1 => ?_) (fun c1 => ?_)
  · replace hM := i_pos hM c1
    refine lv_iconst (v := 0) hx hb dX7_isFull_13 (by decide) ?_
    cases hM
    exact q_retz E hw (by decide) dX7_isFull_14
  · replace hM := i_neg hM c1
    refine lv_iconst (v := 1) hx hb dX7_isFull_9 (by decide) ?_
    refine lv_goto (tgt := 14) hx hb dX7_isFull_10 (by decide) ?_
    cases hM
    exact q_retz E hw (by decide) dX7_isFull_14
def f_X1_reportError    (x1 : Int32) (x2 : Int32) (x3 : Int32) (x4 : Int32) (σ : Sg) : Option (Int32) := (f_X8_within x1 0 ((σ 0 0) - 1)).bind (fun p1 => (if p1 = 0 then some (-3) else (f_X8_within x2 0 99).bind (fun p4 => (if p4 = 0 then some (-4) else (f_X8_within x3 0 999).bind (fun p7 => (if p7 = 0 then some (-4) else (f_X8_within x4 0 3).bind (fun p10 => (if p10 = 0 then some (-4) else (f_X7_isFull σ).bind (fun p13 => (if p13 = 0 then some 0 else some (-6)))))))))))
set_option maxRecDepth 100000 in
set_option maxHeartbeats 4000000 in
theorem c_X1_reportError (l : Launch) (D : va_G) (cA : Nat → ClassId) (tS : Nat → Nat) (A : Nat → Prop) (h : Nat → Nat) (L : Nat) (F : va_W) (x1 : Int32) (x2 : Int32) (x3 : Int32) (x4 : Int32) (σ : Sg) (r0 : Int32) (hM : f_X1_reportError x1 x2 x3 x4 σ = some r0) : Ct l yX1_reportError (Cond.code yX1_reportError cX1_reportError 5 (some .int) :: bw) 1 22 D cA tS A [.ref (h 42), .int x1, .int x2, .int x3, .int x4] (wK cA h σ ++ (wLg cA h σ L ++ (wC cA h σ ++ F))) (some (.int r0)) (wK cA h σ ++ (wLg cA h σ L ++ (wC cA h σ ++ F))) := by
  refine ct_of (by decide +kernel) (Nat.le_of_ble_eq_true rfl) ?_
  intro p e s m below meth c E hw ls hl
  replace E : Ev p cX1_reportError 5 (some .int) RX1 (Cond.code yX1_reportError cX1_reportError 5 (some .int) :: bw) D cA tS A s m _ meth c := E
  replace hl : lv_has ls 5 [(0, .ref (h 42)), (1, .int x1), (2, .int x2), (3, .int x3), (4, .int x4)] := hl
  have hx := E.1.1
  have hb := E.1.2.1
  unfold f_X1_reportError at hM
  refine lv_iload_n hx hb dX1_reportError_0 rfl (lv_at hl 1 rfl) ?_
  refine lv_iconst (v := 0) hx hb dX1_reportError_1 (by decide) ?_
  refine lv_aload_n hx hb dX1_reportError_2 rfl (lv_at hl 0 rfl) ?_
  refine q_get (C := RX1) (T := TX1) (N := 6) (ci := 1) E (fun w h => List.mem_cons_of_mem _ (inX1 w h)) hw 12 rfl rfl 0 (by decide) (List.mem_cons_of_mem _ tb_332) (v := .ref (h 40)) rfl dX1_reportError_3 ?_
  refine q_get (C := RX3) (T := TX3) (N := 7) (ci := 3) E (fun w h => List.mem_cons_of_mem _ (inX3 w h)) hw 0 rfl rfl 6 (by decide) (List.mem_cons_of_mem _ tb_151) (v := .int (σ 0 0)) rfl dX1_reportError_6 ?_
  refine lv_iconst (v := 1) hx hb dX1_reportError_9 (by decide) ?_
  refine lv_isub hx hb dX1_reportError_10 ?_
  obtain ⟨p1, h2, hM⟩ := b_some hM
  refine q_cn (host := "HelpDesk") (As := [.int x1, .int 0, .int ((σ 0 0) - 1)]) (rest := []) E hw hl (c_X8_within l D cA tS A (wK cA h σ ++ (wLg cA h σ L ++ (wC cA h σ ++ F))) x1 0 ((σ 0 0) - 1) p1 h2) 3 (bwc bw_c tb_482) rfl (by decide +kernel) (List.mem_cons_of_mem _ tb_100) (List.mem_cons_of_mem _ tb_481) (by decide +kernel) ⟨Nat.le_of_ble_eq_true rfl, Nat.le_of_ble_eq_true rfl⟩ rfl rfl (Nat.le_of_ble_eq_true rfl) ⟨Nat.zero_le _, Nat.zero_le _⟩ dX1_reportError_11 (fun H locs hw => ?_)
  refine lv_if_ne (tgt := 20) hx hb dX1_reportError_14 (by decide) (fun c3 => ?_) (fun c3 => ?_)
  · replace hM := i_neg hM c3
    refine lv_iload_n hx hb dX1_reportError_20 rfl (lv_at hl 2 rfl) ?_
    refine lv_iconst (v := 0) hx hb dX1_reportError_21 (by decide) ?_
    refine lv_bipush (v := 99) hx hb dX1_reportError_22 (by decide) ?_
    obtain ⟨p4, h5, hM⟩ := b_some hM
    refine q_cn (host := "HelpDesk") (As := [.int x2, .int 0, .int 99]) (rest := []) E hw hl (c_X8_within l D cA tS A (wK cA h σ ++ (wLg cA h σ L ++ (wC cA h σ ++ F))) x2 0 99 p4 h5) 3 (bwc bw_c tb_482) rfl (by decide +kernel) (List.mem_cons_of_mem _ tb_100) (List.mem_cons_of_mem _ tb_481) (by decide +kernel) ⟨Nat.le_of_ble_eq_true rfl, Nat.le_of_ble_eq_true rfl⟩ rfl rfl (Nat.le_of_ble_eq_true rfl) ⟨Nat.zero_le _, Nat.zero_le _⟩ dX1_reportError_24 (fun H locs hw => ?_)
    refine lv_if_eq (tgt := 51) hx hb dX1_reportError_27 (by decide) (fun c6 => ?_) (fun c6 => ?_)
    · replace hM := i_pos hM c6
      refine lv_bipush (v := (-4)) hx hb dX1_reportError_51 (by decide) ?_
      cases hM
      exact q_reti E hw dX1_reportError_53
    · replace hM := i_neg hM c6
      refine lv_iload_n hx hb dX1_reportError_30 rfl (lv_at hl 3 rfl) ?_
      refine lv_iconst (v := 0) hx hb dX1_reportError_31 (by decide) ?_
      refine lv_sipush (v := 999) hx hb dX1_reportError_32 (by decide) ?_
      obtain ⟨p7, h8, hM⟩ := b_some hM
      refine q_cn (host := "HelpDesk") (As := [.int x3, .int 0, .int 999]) (rest := []) E hw hl (c_X8_within l D cA tS A (wK cA h σ ++ (wLg cA h σ L ++ (wC cA h σ ++ F))) x3 0 999 p7 h8) 3 (bwc bw_c tb_482) rfl (by decide +kernel) (List.mem_cons_of_mem _ tb_100) (List.mem_cons_of_mem _ tb_481) (by decide +kernel) ⟨Nat.le_of_ble_eq_true rfl, Nat.le_of_ble_eq_true rfl⟩ rfl rfl (Nat.le_of_ble_eq_true rfl) ⟨Nat.zero_le _, Nat.zero_le _⟩ dX1_reportError_35 (fun H locs hw => ?_)
      refine lv_if_eq (tgt := 51) hx hb dX1_reportError_38 (by decide) (fun c9 => ?_) (fun c9 => ?_)
      · replace hM := i_pos hM c9
        refine lv_bipush (v := (-4)) hx hb dX1_reportError_51 (by decide) ?_
        cases hM
        exact q_reti E hw dX1_reportError_53
      · replace hM := i_neg hM c9
        refine lv_iload hx hb dX1_reportError_41 (lv_at hl 4 rfl) ?_
        refine lv_iconst (v := 0) hx hb dX1_reportError_43 (by decide) ?_
        refine lv_iconst (v := 3) hx hb dX1_reportError_44 (by decide) ?_
        obtain ⟨p10, h11, hM⟩ := b_some hM
        refine q_cn (host := "HelpDesk") (As := [.int x4, .int 0, .int 3]) (rest := []) E hw hl (c_X8_within l D cA tS A (wK cA h σ ++ (wLg cA h σ L ++ (wC cA h σ ++ F))) x4 0 3 p10 h11) 3 (bwc bw_c tb_482) rfl (by decide +kernel) (List.mem_cons_of_mem _ tb_100) (List.mem_cons_of_mem _ tb_481) (by decide +kernel) ⟨Nat.le_of_ble_eq_true rfl, Nat.le_of_ble_eq_true rfl⟩ rfl rfl (Nat.le_of_ble_eq_true rfl) ⟨Nat.zero_le _, Nat.zero_le _⟩ dX1_reportError_45 (fun H locs hw => ?_)
        refine lv_if_ne (tgt := 54) hx hb dX1_reportError_48 (by decide) (fun c12 => ?_) (fun c12 => ?_)
        · replace hM := i_neg hM c12
          refine lv_aload_n hx hb dX1_reportError_54 rfl (lv_at hl 0 rfl) ?_
          refine q_get (C := RX1) (T := TX1) (N := 6) (ci := 1) E (fun w h => List.mem_cons_of_mem _ (inX1 w h)) hw 12 rfl rfl 3 (by decide) (List.mem_cons_of_mem _ tb_336) (v := .ref (h 44)) rfl dX1_reportError_55 ?_
          obtain ⟨p13, h14, hM⟩ := b_some hM
          refine q_cv (As := []) (rest := []) E hw hl (c_X7_isFull l D cA tS A h L F σ p13 h14) 0 (bwV bw_c tb_487 tb_488 tb_489 tb_108 tb_490) rfl (by decide +kernel) ⟨Nat.le_of_ble_eq_true rfl, Nat.le_of_ble_eq_true rfl⟩ 16 7 (T := TX7) (N := 15) rfl rfl rfl rfl (Nat.le_of_ble_eq_true rfl) ⟨Nat.zero_le _, Nat.zero_le _⟩ dX1_reportError_58 (fun H locs hw => ?_)
          refine lv_if_eq (tgt := 69) hx hb dX1_reportError_61 (by decide) (fun c15 => ?_) (fun c15 => ?_)
          · replace hM := i_pos hM c15
            refine lv_iconst (v := 0) hx hb dX1_reportError_69 (by decide) ?_
            cases hM
            exact q_reti E hw dX1_reportError_70
          · replace hM := i_neg hM c15
            refine lv_bipush (v := (-6)) hx hb dX1_reportError_64 (by decide) ?_
            refine lv_goto (tgt := 70) hx hb dX1_reportError_66 (by decide) ?_
            cases hM
            exact q_reti E hw dX1_reportError_70
        · replace hM := i_pos hM c12
          refine lv_bipush (v := (-4)) hx hb dX1_reportError_51 (by decide) ?_
          cases hM
          exact q_reti E hw dX1_reportError_53
  · replace hM := i_pos hM c3
    refine lv_bipush (v := (-3)) hx hb dX1_reportError_17 (by decide) ?_
    cases hM
    exact q_reti E hw dX1_reportError_19
def f_X7_exists    (x1 : Int32) (σ : Sg) : Option (Int32) := (if x1 < 0 then some 0 else (if (σ 15 0) ≤ x1 then some 0 else some 1))
set_option maxRecDepth 100000 in
set_option maxHeartbeats 4000000 in
theorem c_X7_exists (l : Launch) (D : va_G) (cA : Nat → ClassId) (tS : Nat → Nat) (A : Nat → Prop) (h : Nat → Nat) (L : Nat) (F : va_W) (x1 : Int32) (σ : Sg) (r0 : Int32) (hM : f_X7_exists x1 σ = some r0) : Ct l yX7_exists (Cond.code yX7_exists cX7_exists 2 (some .boolean) :: bw) 0 0 D cA tS A [.ref (h 44), .int x1] (wK cA h σ ++ (wLg cA h σ L ++ (wC cA h σ ++ F))) (some (.int r0)) (wK cA h σ ++ (wLg cA h σ L ++ (wC cA h σ ++ F))) := by
  refine ct_of (by decide +kernel) (Nat.le_of_ble_eq_true rfl) ?_
  intro p e s m below meth c E hw ls hl
  replace E : Ev p cX7_exists 2 (some .boolean) RX7 (Cond.code yX7_exists cX7_exists 2 (some .boolean) :: bw) D cA tS A s m _ meth c := E
  replace hl : lv_has ls 2 [(0, .ref (h 44)), (1, .int x1)] := hl
  have hx := E.1.1
  have hb := E.1.2.1
  unfold f_X7_exists at hM
  refine lv_iload_n hx hb dX7_exists_0 rfl (lv_at hl 1 rfl) ?_
  refine lv_if_lt (tgt := 16) hx hb dX7_exists_1 (by decide) (fun c1 => ?_) (fun c1 => ?_)
  · replace hM := i_pos hM c1
    refine lv_iconst (v := 0) hx hb dX7_exists_16 (by decide) ?_
    cases hM
    exact q_retz E hw (by decide) dX7_exists_17
  · replace hM := i_neg hM c1
    refine lv_iload_n hx hb dX7_exists_4 rfl (lv_at hl 1 rfl) ?_
    refine lv_aload_n hx hb dX7_exists_5 rfl (lv_at hl 0 rfl) ?_
    refine q_get (C := RX7) (T := TX7) (N := 15) (ci := 7) E (fun w h => List.mem_cons_of_mem _ (inX7 w h)) hw 16 rfl rfl 14 (by decide) (List.mem_cons_of_mem _ tb_298) (v := .int (σ 15 0)) rfl dX7_exists_6 ?_
    refine lv_icmp_ge (tgt := 16) hx hb dX7_exists_9 (by decide) (fun c2 => ?_) (fun c2 => ?_)
    · replace hM := i_pos hM c2
      refine lv_iconst (v := 0) hx hb dX7_exists_16 (by decide) ?_
      cases hM
      exact q_retz E hw (by decide) dX7_exists_17
    · replace hM := i_neg hM c2
      refine lv_iconst (v := 1) hx hb dX7_exists_12 (by decide) ?_
      refine lv_goto (tgt := 17) hx hb dX7_exists_13 (by decide) ?_
      cases hM
      exact q_retz E hw (by decide) dX7_exists_17
def f_X7_isActive    (x1 : Int32) (σ : Sg) : Option (Int32) := if ib x1 60 then (if (σ 21 (ix x1)) = 0 then some 1 else (if (σ 21 (ix x1)) = 1 then some 1 else some 0)) else none
set_option maxRecDepth 100000 in
set_option maxHeartbeats 4000000 in
theorem c_X7_isActive (l : Launch) (D : va_G) (cA : Nat → ClassId) (tS : Nat → Nat) (A : Nat → Prop) (h : Nat → Nat) (L : Nat) (F : va_W) (x1 : Int32) (σ : Sg) (r0 : Int32) (hM : f_X7_isActive x1 σ = some r0) : Ct l yX7_isActive (Cond.code yX7_isActive cX7_isActive 2 (some .boolean) :: bw) 0 0 D cA tS A [.ref (h 44), .int x1] (wK cA h σ ++ (wLg cA h σ L ++ (wC cA h σ ++ F))) (some (.int r0)) (wK cA h σ ++ (wLg cA h σ L ++ (wC cA h σ ++ F))) := by
  refine ct_of (by decide +kernel) (Nat.le_of_ble_eq_true rfl) ?_
  intro p e s m below meth c E hw ls hl
  replace E : Ev p cX7_isActive 2 (some .boolean) RX7 (Cond.code yX7_isActive cX7_isActive 2 (some .boolean) :: bw) D cA tS A s m _ meth c := E
  replace hl : lv_has ls 2 [(0, .ref (h 44)), (1, .int x1)] := hl
  have hx := E.1.1
  have hb := E.1.2.1
  unfold f_X7_isActive at hM
  refine lv_aload_n hx hb dX7_isActive_0 rfl (lv_at hl 0 rfl) ?_
  refine q_get (C := RX7) (T := TX7) (N := 15) (ci := 7) E (fun w h => List.mem_cons_of_mem _ (inX7 w h)) hw 16 rfl rfl 5 (by decide) (List.mem_cons_of_mem _ tb_273) (v := .ref (h 21)) rfl dX7_isActive_1 ?_
  refine lv_iload_n hx hb dX7_isActive_4 rfl (lv_at hl 1 rfl) ?_
  obtain ⟨g1, hM⟩ := g_some hM
  refine q_ald E hw 22 (n := 60) rfl g1 (x := (σ 21 (ix x1))) rfl dX7_isActive_5 ?_
  refine lv_if_eq (tgt := 19) hx hb dX7_isActive_6 (by decide) (fun c2 => ?_) (fun c2 => ?_)
  · replace hM := i_pos hM c2
    refine lv_iconst (v := 1) hx hb dX7_isActive_19 (by decide) ?_
    refine lv_goto (tgt := 24) hx hb dX7_isActive_20 (by decide) ?_
    cases hM
    exact q_retz E hw (by decide) dX7_isActive_24
  · replace hM := i_neg hM c2
    refine lv_aload_n hx hb dX7_isActive_9 rfl (lv_at hl 0 rfl) ?_
    refine q_get (C := RX7) (T := TX7) (N := 15) (ci := 7) E (fun w h => List.mem_cons_of_mem _ (inX7 w h)) hw 16 rfl rfl 5 (by decide) (List.mem_cons_of_mem _ tb_273) (v := .ref (h 21)) rfl dX7_isActive_10 ?_
    refine lv_iload_n hx hb dX7_isActive_13 rfl (lv_at hl 1 rfl) ?_
    refine q_ald E hw 22 (n := 60) rfl g1 (x := (σ 21 (ix x1))) rfl dX7_isActive_14 ?_
    refine lv_iconst (v := 1) hx hb dX7_isActive_15 (by decide) ?_
    refine lv_icmp_ne (tgt := 23) hx hb dX7_isActive_16 (by decide) (fun c3 => ?_) (fun c3 => ?_)
    · replace hM := i_neg hM c3
      refine lv_iconst (v := 0) hx hb dX7_isActive_23 (by decide) ?_
      cases hM
      exact q_retz E hw (by decide) dX7_isActive_24
    · replace hM := i_pos hM c3
      refine lv_iconst (v := 1) hx hb dX7_isActive_19 (by decide) ?_
      refine lv_goto (tgt := 24) hx hb dX7_isActive_20 (by decide) ?_
      cases hM
      exact q_retz E hw (by decide) dX7_isActive_24
def f_X7_standsAlone    (x1 : Int32) (σ : Sg) : Option (Int32) := (f_X7_isActive x1 σ).bind (fun p1 => (if p1 = 0 then if ib x1 60 then (if (σ 21 (ix x1)) = 2 then some 1 else some 0) else none else some 1))
set_option maxRecDepth 100000 in
set_option maxHeartbeats 4000000 in
theorem c_X7_standsAlone (l : Launch) (D : va_G) (cA : Nat → ClassId) (tS : Nat → Nat) (A : Nat → Prop) (h : Nat → Nat) (L : Nat) (F : va_W) (x1 : Int32) (σ : Sg) (r0 : Int32) (hM : f_X7_standsAlone x1 σ = some r0) : Ct l yX7_standsAlone (Cond.code yX7_standsAlone cX7_standsAlone 2 (some .boolean) :: bw) 1 21 D cA tS A [.ref (h 44), .int x1] (wK cA h σ ++ (wLg cA h σ L ++ (wC cA h σ ++ F))) (some (.int r0)) (wK cA h σ ++ (wLg cA h σ L ++ (wC cA h σ ++ F))) := by
  refine ct_of (by decide +kernel) (Nat.le_of_ble_eq_true rfl) ?_
  intro p e s m below meth c E hw ls hl
  replace E : Ev p cX7_standsAlone 2 (some .boolean) RX7 (Cond.code yX7_standsAlone cX7_standsAlone 2 (some .boolean) :: bw) D cA tS A s m _ meth c := E
  replace hl : lv_has ls 2 [(0, .ref (h 44)), (1, .int x1)] := hl
  have hx := E.1.1
  have hb := E.1.2.1
  unfold f_X7_standsAlone at hM
  refine lv_aload_n hx hb dX7_standsAlone_0 rfl (lv_at hl 0 rfl) ?_
  refine lv_iload_n hx hb dX7_standsAlone_1 rfl (lv_at hl 1 rfl) ?_
  obtain ⟨p1, h2, hM⟩ := b_some hM
  refine q_cv (As := [.int x1]) (rest := []) E hw hl (c_X7_isActive l D cA tS A h L F x1 σ p1 h2) 1 (bwV bw_c tb_503 tb_504 tb_505 tb_108 tb_506) rfl (by decide +kernel) ⟨Nat.le_of_ble_eq_true rfl, Nat.le_of_ble_eq_true rfl⟩ 16 7 (T := TX7) (N := 15) rfl rfl rfl rfl (Nat.le_of_ble_eq_true rfl) ⟨Nat.zero_le _, Nat.zero_le _⟩ dX7_standsAlone_2 (fun H locs hw => ?_)
  refine lv_if_ne (tgt := 18) hx hb dX7_standsAlone_5 (by decide) (fun c3 => ?_) (fun c3 => ?_)
  · replace hM := i_neg hM c3
    refine lv_iconst (v := 1) hx hb dX7_standsAlone_18 (by decide) ?_
    refine lv_goto (tgt := 23) hx hb dX7_standsAlone_19 (by decide) ?_
    cases hM
    exact q_retz E hw (by decide) dX7_standsAlone_23
  · replace hM := i_pos hM c3
    refine lv_aload_n hx hb dX7_standsAlone_8 rfl (lv_at hl 0 rfl) ?_
    refine q_get (C := RX7) (T := TX7) (N := 15) (ci := 7) E (fun w h => List.mem_cons_of_mem _ (inX7 w h)) hw 16 rfl rfl 5 (by decide) (List.mem_cons_of_mem _ tb_273) (v := .ref (h 21)) rfl dX7_standsAlone_9 ?_
    refine lv_iload_n hx hb dX7_standsAlone_12 rfl (lv_at hl 1 rfl) ?_
    obtain ⟨g4, hM⟩ := g_some hM
    refine q_ald E hw 22 (n := 60) rfl g4 (x := (σ 21 (ix x1))) rfl dX7_standsAlone_13 ?_
    refine lv_iconst (v := 2) hx hb dX7_standsAlone_14 (by decide) ?_
    refine lv_icmp_ne (tgt := 22) hx hb dX7_standsAlone_15 (by decide) (fun c5 => ?_) (fun c5 => ?_)
    · replace hM := i_neg hM c5
      refine lv_iconst (v := 0) hx hb dX7_standsAlone_22 (by decide) ?_
      cases hM
      exact q_retz E hw (by decide) dX7_standsAlone_23
    · replace hM := i_pos hM c5
      refine lv_iconst (v := 1) hx hb dX7_standsAlone_18 (by decide) ?_
      refine lv_goto (tgt := 23) hx hb dX7_standsAlone_19 (by decide) ?_
      cases hM
      exact q_retz E hw (by decide) dX7_standsAlone_23
def f_X1_joinError    (x1 : Int32) (x2 : Int32) (σ : Sg) : Option (Int32) := (f_X7_exists x1 σ).bind (fun p1 => (if p1 = 0 then some (-2) else (f_X7_exists x2 σ).bind (fun p4 => (if p4 = 0 then some (-2) else (if x1 = x2 then some (-5) else (f_X7_standsAlone x1 σ).bind (fun p9 => (if p9 = 0 then some (-5) else (f_X7_standsAlone x2 σ).bind (fun p13 => (if p13 = 0 then some (-5) else some 0)))))))))
set_option maxRecDepth 100000 in
set_option maxHeartbeats 4000000 in
theorem c_X1_joinError (l : Launch) (D : va_G) (cA : Nat → ClassId) (tS : Nat → Nat) (A : Nat → Prop) (h : Nat → Nat) (L : Nat) (F : va_W) (x1 : Int32) (x2 : Int32) (σ : Sg) (r0 : Int32) (hM : f_X1_joinError x1 x2 σ = some r0) : Ct l yX1_joinError (Cond.code yX1_joinError cX1_joinError 4 (some .int) :: bw) 2 42 D cA tS A [.ref (h 42), .int x1, .int x2] (wK cA h σ ++ (wLg cA h σ L ++ (wC cA h σ ++ F))) (some (.int r0)) (wK cA h σ ++ (wLg cA h σ L ++ (wC cA h σ ++ F))) := by
  refine ct_of (by decide +kernel) (Nat.le_of_ble_eq_true rfl) ?_
  intro p e s m below meth c E hw ls hl
  replace E : Ev p cX1_joinError 4 (some .int) RX1 (Cond.code yX1_joinError cX1_joinError 4 (some .int) :: bw) D cA tS A s m _ meth c := E
  replace hl : lv_has ls 4 [(0, .ref (h 42)), (1, .int x1), (2, .int x2)] := hl
  have hx := E.1.1
  have hb := E.1.2.1
  unfold f_X1_joinError at hM
  refine lv_aload_n hx hb dX1_joinError_0 rfl (lv_at hl 0 rfl) ?_
  refine q_get (C := RX1) (T := TX1) (N := 6) (ci := 1) E (fun w h => List.mem_cons_of_mem _ (inX1 w h)) hw 12 rfl rfl 3 (by decide) (List.mem_cons_of_mem _ tb_336) (v := .ref (h 44)) rfl dX1_joinError_1 ?_
  refine lv_iload_n hx hb dX1_joinError_4 rfl (lv_at hl 1 rfl) ?_
  obtain ⟨p1, h2, hM⟩ := b_some hM
  refine q_cv (As := [.int x1]) (rest := []) E hw hl (c_X7_exists l D cA tS A h L F x1 σ p1 h2) 1 (bwV bw_c tb_495 tb_496 tb_497 tb_108 tb_498) rfl (by decide +kernel) ⟨Nat.le_of_ble_eq_true rfl, Nat.le_of_ble_eq_true rfl⟩ 16 7 (T := TX7) (N := 15) rfl rfl rfl rfl (Nat.le_of_ble_eq_true rfl) ⟨Nat.zero_le _, Nat.zero_le _⟩ dX1_joinError_5 (fun H locs hw => ?_)
  refine lv_if_eq (tgt := 22) hx hb dX1_joinError_8 (by decide) (fun c3 => ?_) (fun c3 => ?_)
  · replace hM := i_pos hM c3
    refine lv_bipush (v := (-2)) hx hb dX1_joinError_22 (by decide) ?_
    cases hM
    exact q_reti E hw dX1_joinError_24
  · replace hM := i_neg hM c3
    refine lv_aload_n hx hb dX1_joinError_11 rfl (lv_at hl 0 rfl) ?_
    refine q_get (C := RX1) (T := TX1) (N := 6) (ci := 1) E (fun w h => List.mem_cons_of_mem _ (inX1 w h)) hw 12 rfl rfl 3 (by decide) (List.mem_cons_of_mem _ tb_336) (v := .ref (h 44)) rfl dX1_joinError_12 ?_
    refine lv_iload_n hx hb dX1_joinError_15 rfl (lv_at hl 2 rfl) ?_
    obtain ⟨p4, h5, hM⟩ := b_some hM
    refine q_cv (As := [.int x2]) (rest := []) E hw hl (c_X7_exists l D cA tS A h L F x2 σ p4 h5) 1 (bwV bw_c tb_495 tb_496 tb_497 tb_108 tb_498) rfl (by decide +kernel) ⟨Nat.le_of_ble_eq_true rfl, Nat.le_of_ble_eq_true rfl⟩ 16 7 (T := TX7) (N := 15) rfl rfl rfl rfl (Nat.le_of_ble_eq_true rfl) ⟨Nat.zero_le _, Nat.zero_le _⟩ dX1_joinError_16 (fun H locs hw => ?_)
    refine lv_if_ne (tgt := 25) hx hb dX1_joinError_19 (by decide) (fun c6 => ?_) (fun c6 => ?_)
    · replace hM := i_neg hM c6
      refine lv_iload_n hx hb dX1_joinError_25 rfl (lv_at hl 1 rfl) ?_
      refine lv_iload_n hx hb dX1_joinError_26 rfl (lv_at hl 2 rfl) ?_
      refine lv_icmp_eq (tgt := 56) hx hb dX1_joinError_27 (by decide) (fun c7 => ?_) (fun c7 => ?_)
      · replace hM := i_pos hM c7
        refine lv_iconst (v := 0) hx hb dX1_joinError_56 (by decide) ?_
        refine lv_istore_n (lv' := [(3, .int 0), (0, .ref (h 42)), (1, .int x1), (2, .int x2)]) hx hb dX1_joinError_57 rfl hl (by decide) rfl (fun ls hl => ?_)
        refine lv_iload_n hx hb dX1_joinError_58 rfl (lv_at hl 0 rfl) ?_
        refine lv_if_eq (tgt := 66) hx hb dX1_joinError_59 (by decide) (fun c8 => ?_) (fun c8 => ?_)
        · refine lv_bipush (v := (-5)) hx hb dX1_joinError_66 (by decide) ?_
          cases hM
          exact q_reti E hw dX1_joinError_68
        · first | exact absurd (by decide) c8 | exact absurd c8 (by decide)
      · replace hM := i_neg hM c7
        refine lv_aload_n hx hb dX1_joinError_30 rfl (lv_at hl 0 rfl) ?_
        refine q_get (C := RX1) (T := TX1) (N := 6) (ci := 1) E (fun w h => List.mem_cons_of_mem _ (inX1 w h)) hw 12 rfl rfl 3 (by decide) (List.mem_cons_of_mem _ tb_336) (v := .ref (h 44)) rfl dX1_joinError_31 ?_
        refine lv_iload_n hx hb dX1_joinError_34 rfl (lv_at hl 1 rfl) ?_
        obtain ⟨p9, h10, hM⟩ := b_some hM
        refine q_cv (As := [.int x1]) (rest := []) E hw hl (c_X7_standsAlone l D cA tS A h L F x1 σ p9 h10) 1 (bwV bw_c tb_499 tb_500 tb_501 tb_108 tb_502) rfl (by decide +kernel) ⟨Nat.le_of_ble_eq_true rfl, Nat.le_of_ble_eq_true rfl⟩ 16 7 (T := TX7) (N := 15) rfl rfl rfl rfl (Nat.le_of_ble_eq_true rfl) ⟨Nat.zero_le _, Nat.zero_le _⟩ dX1_joinError_35 (fun H locs hw => ?_)
        refine lv_if_eq (tgt := 56) hx hb dX1_joinError_38 (by decide) (fun c11 => ?_) (fun c11 => ?_)
        · replace hM := i_pos hM c11
          refine lv_iconst (v := 0) hx hb dX1_joinError_56 (by decide) ?_
          refine lv_istore_n (lv' := [(3, .int 0), (0, .ref (h 42)), (1, .int x1), (2, .int x2)]) hx hb dX1_joinError_57 rfl hl (by decide) rfl (fun ls hl => ?_)
          refine lv_iload_n hx hb dX1_joinError_58 rfl (lv_at hl 0 rfl) ?_
          refine lv_if_eq (tgt := 66) hx hb dX1_joinError_59 (by decide) (fun c12 => ?_) (fun c12 => ?_)
          · refine lv_bipush (v := (-5)) hx hb dX1_joinError_66 (by decide) ?_
            cases hM
            exact q_reti E hw dX1_joinError_68
          · first | exact absurd (by decide) c12 | exact absurd c12 (by decide)
        · replace hM := i_neg hM c11
          refine lv_aload_n hx hb dX1_joinError_41 rfl (lv_at hl 0 rfl) ?_
          refine q_get (C := RX1) (T := TX1) (N := 6) (ci := 1) E (fun w h => List.mem_cons_of_mem _ (inX1 w h)) hw 12 rfl rfl 3 (by decide) (List.mem_cons_of_mem _ tb_336) (v := .ref (h 44)) rfl dX1_joinError_42 ?_
          refine lv_iload_n hx hb dX1_joinError_45 rfl (lv_at hl 2 rfl) ?_
          obtain ⟨p13, h14, hM⟩ := b_some hM
          refine q_cv (As := [.int x2]) (rest := []) E hw hl (c_X7_standsAlone l D cA tS A h L F x2 σ p13 h14) 1 (bwV bw_c tb_499 tb_500 tb_501 tb_108 tb_502) rfl (by decide +kernel) ⟨Nat.le_of_ble_eq_true rfl, Nat.le_of_ble_eq_true rfl⟩ 16 7 (T := TX7) (N := 15) rfl rfl rfl rfl (Nat.le_of_ble_eq_true rfl) ⟨Nat.zero_le _, Nat.zero_le _⟩ dX1_joinError_46 (fun H locs hw => ?_)
          refine lv_if_eq (tgt := 56) hx hb dX1_joinError_49 (by decide) (fun c15 => ?_) (fun c15 => ?_)
          · replace hM := i_pos hM c15
            refine lv_iconst (v := 0) hx hb dX1_joinError_56 (by decide) ?_
            refine lv_istore_n (lv' := [(3, .int 0), (0, .ref (h 42)), (1, .int x1), (2, .int x2)]) hx hb dX1_joinError_57 rfl hl (by decide) rfl (fun ls hl => ?_)
            refine lv_iload_n hx hb dX1_joinError_58 rfl (lv_at hl 0 rfl) ?_
            refine lv_if_eq (tgt := 66) hx hb dX1_joinError_59 (by decide) (fun c16 => ?_) (fun c16 => ?_)
            · refine lv_bipush (v := (-5)) hx hb dX1_joinError_66 (by decide) ?_
              cases hM
              exact q_reti E hw dX1_joinError_68
            · first | exact absurd (by decide) c16 | exact absurd c16 (by decide)
          · replace hM := i_neg hM c15
            refine lv_iconst (v := 1) hx hb dX1_joinError_52 (by decide) ?_
            refine lv_goto (tgt := 57) hx hb dX1_joinError_53 (by decide) ?_
            refine lv_istore_n (lv' := [(3, .int 1), (0, .ref (h 42)), (1, .int x1), (2, .int x2)]) hx hb dX1_joinError_57 rfl hl (by decide) rfl (fun ls hl => ?_)
            refine lv_iload_n hx hb dX1_joinError_58 rfl (lv_at hl 0 rfl) ?_
            refine lv_if_eq (tgt := 66) hx hb dX1_joinError_59 (by decide) (fun c17 => ?_) (fun c17 => ?_)
            · first | exact absurd (by decide) c17 | exact absurd c17 (by decide)
            · refine lv_iconst (v := 0) hx hb dX1_joinError_62 (by decide) ?_
              refine lv_goto (tgt := 68) hx hb dX1_joinError_63 (by decide) ?_
              cases hM
              exact q_reti E hw dX1_joinError_68
    · replace hM := i_pos hM c6
      refine lv_bipush (v := (-2)) hx hb dX1_joinError_22 (by decide) ?_
      cases hM
      exact q_reti E hw dX1_joinError_24
def f_X1_priorityError    (x1 : Int32) (x2 : Int32) (σ : Sg) : Option (Int32) := (f_X7_exists x1 σ).bind (fun p1 => (if p1 = 0 then some (-2) else (f_X8_within x2 0 3).bind (fun p4 => (if p4 = 0 then some (-4) else if ib x1 60 then (if (σ 21 (ix x1)) = 3 then some (-5) else some 0) else none))))
set_option maxRecDepth 100000 in
set_option maxHeartbeats 4000000 in
theorem c_X1_priorityError (l : Launch) (D : va_G) (cA : Nat → ClassId) (tS : Nat → Nat) (A : Nat → Prop) (h : Nat → Nat) (L : Nat) (F : va_W) (x1 : Int32) (x2 : Int32) (σ : Sg) (r0 : Int32) (hM : f_X1_priorityError x1 x2 σ = some r0) : Ct l yX1_priorityError (Cond.code yX1_priorityError cX1_priorityError 3 (some .int) :: bw) 1 22 D cA tS A [.ref (h 42), .int x1, .int x2] (wK cA h σ ++ (wLg cA h σ L ++ (wC cA h σ ++ F))) (some (.int r0)) (wK cA h σ ++ (wLg cA h σ L ++ (wC cA h σ ++ F))) := by
  refine ct_of (by decide +kernel) (Nat.le_of_ble_eq_true rfl) ?_
  intro p e s m below meth c E hw ls hl
  replace E : Ev p cX1_priorityError 3 (some .int) RX1 (Cond.code yX1_priorityError cX1_priorityError 3 (some .int) :: bw) D cA tS A s m _ meth c := E
  replace hl : lv_has ls 3 [(0, .ref (h 42)), (1, .int x1), (2, .int x2)] := hl
  have hx := E.1.1
  have hb := E.1.2.1
  unfold f_X1_priorityError at hM
  refine lv_aload_n hx hb dX1_priorityError_0 rfl (lv_at hl 0 rfl) ?_
  refine q_get (C := RX1) (T := TX1) (N := 6) (ci := 1) E (fun w h => List.mem_cons_of_mem _ (inX1 w h)) hw 12 rfl rfl 3 (by decide) (List.mem_cons_of_mem _ tb_336) (v := .ref (h 44)) rfl dX1_priorityError_1 ?_
  refine lv_iload_n hx hb dX1_priorityError_4 rfl (lv_at hl 1 rfl) ?_
  obtain ⟨p1, h2, hM⟩ := b_some hM
  refine q_cv (As := [.int x1]) (rest := []) E hw hl (c_X7_exists l D cA tS A h L F x1 σ p1 h2) 1 (bwV bw_c tb_495 tb_496 tb_497 tb_108 tb_498) rfl (by decide +kernel) ⟨Nat.le_of_ble_eq_true rfl, Nat.le_of_ble_eq_true rfl⟩ 16 7 (T := TX7) (N := 15) rfl rfl rfl rfl (Nat.le_of_ble_eq_true rfl) ⟨Nat.zero_le _, Nat.zero_le _⟩ dX1_priorityError_5 (fun H locs hw => ?_)
  refine lv_if_ne (tgt := 14) hx hb dX1_priorityError_8 (by decide) (fun c3 => ?_) (fun c3 => ?_)
  · replace hM := i_neg hM c3
    refine lv_iload_n hx hb dX1_priorityError_14 rfl (lv_at hl 2 rfl) ?_
    refine lv_iconst (v := 0) hx hb dX1_priorityError_15 (by decide) ?_
    refine lv_iconst (v := 3) hx hb dX1_priorityError_16 (by decide) ?_
    obtain ⟨p4, h5, hM⟩ := b_some hM
    refine q_cn (host := "HelpDesk") (As := [.int x2, .int 0, .int 3]) (rest := []) E hw hl (c_X8_within l D cA tS A (wK cA h σ ++ (wLg cA h σ L ++ (wC cA h σ ++ F))) x2 0 3 p4 h5) 3 (bwc bw_c tb_482) rfl (by decide +kernel) (List.mem_cons_of_mem _ tb_100) (List.mem_cons_of_mem _ tb_481) (by decide +kernel) ⟨Nat.le_of_ble_eq_true rfl, Nat.le_of_ble_eq_true rfl⟩ rfl rfl (Nat.le_of_ble_eq_true rfl) ⟨Nat.zero_le _, Nat.zero_le _⟩ dX1_priorityError_17 (fun H locs hw => ?_)
    refine lv_if_ne (tgt := 26) hx hb dX1_priorityError_20 (by decide) (fun c6 => ?_) (fun c6 => ?_)
    · replace hM := i_neg hM c6
      refine lv_aload_n hx hb dX1_priorityError_26 rfl (lv_at hl 0 rfl) ?_
      refine q_get (C := RX1) (T := TX1) (N := 6) (ci := 1) E (fun w h => List.mem_cons_of_mem _ (inX1 w h)) hw 12 rfl rfl 3 (by decide) (List.mem_cons_of_mem _ tb_336) (v := .ref (h 44)) rfl dX1_priorityError_27 ?_
      refine q_get (C := RX7) (T := TX7) (N := 15) (ci := 7) E (fun w h => List.mem_cons_of_mem _ (inX7 w h)) hw 16 rfl rfl 5 (by decide) (List.mem_cons_of_mem _ tb_274) (v := .ref (h 21)) rfl dX1_priorityError_30 ?_
      refine lv_iload_n hx hb dX1_priorityError_33 rfl (lv_at hl 1 rfl) ?_
      obtain ⟨g7, hM⟩ := g_some hM
      refine q_ald E hw 22 (n := 60) rfl g7 (x := (σ 21 (ix x1))) rfl dX1_priorityError_34 ?_
      refine lv_iconst (v := 3) hx hb dX1_priorityError_35 (by decide) ?_
      refine lv_icmp_ne (tgt := 44) hx hb dX1_priorityError_36 (by decide) (fun c8 => ?_) (fun c8 => ?_)
      · replace hM := i_neg hM c8
        refine lv_iconst (v := 0) hx hb dX1_priorityError_44 (by decide) ?_
        cases hM
        exact q_reti E hw dX1_priorityError_45
      · replace hM := i_pos hM c8
        refine lv_bipush (v := (-5)) hx hb dX1_priorityError_39 (by decide) ?_
        refine lv_goto (tgt := 45) hx hb dX1_priorityError_41 (by decide) ?_
        cases hM
        exact q_reti E hw dX1_priorityError_45
    · replace hM := i_pos hM c6
      refine lv_bipush (v := (-4)) hx hb dX1_priorityError_23 (by decide) ?_
      cases hM
      exact q_reti E hw dX1_priorityError_25
  · replace hM := i_pos hM c3
    refine lv_bipush (v := (-2)) hx hb dX1_priorityError_11 (by decide) ?_
    cases hM
    exact q_reti E hw dX1_priorityError_13
def f_X1_allows    (x1 : Int32) (x2 : Int32) (σ : Sg) : Option (Int32) := (if x1 = 4 then (f_X7_isActive x2 σ).bind (fun p1 => if bz p1 then some p1 else none) else if x1 = 5 then if ib x2 60 then (if (σ 21 (ix x2)) = 2 then some 1 else some 0) else none else if x1 = 6 then (f_X7_isActive x2 σ).bind (fun p6 => (if p6 = 0 then some 0 else if ib x2 60 then (if 3 ≤ (σ 20 (ix x2)) then some 0 else some 1) else none)) else if x1 = 7 then (f_X7_standsAlone x2 σ).bind (fun p11 => if bz p11 then some p11 else none) else if x1 = 8 then if ib x2 60 then (if (σ 21 (ix x2)) = 3 then (if (σ 26 (ix x2)) = (-1) then some 1 else some 0) else some 0) else none else if x1 = 10 then if ib x2 60 then (if (σ 21 (ix x2)) = 4 then some 1 else some 0) else none else some 0)
set_option maxRecDepth 100000 in
set_option maxHeartbeats 4000000 in
theorem c_X1_allows (l : Launch) (D : va_G) (cA : Nat → ClassId) (tS : Nat → Nat) (A : Nat → Prop) (h : Nat → Nat) (L : Nat) (F : va_W) (x1 : Int32) (x2 : Int32) (σ : Sg) (r0 : Int32) (hM : f_X1_allows x1 x2 σ = some r0) : Ct l yX1_allows (Cond.code yX1_allows cX1_allows 3 (some .boolean) :: bw) 2 42 D cA tS A [.ref (h 42), .int x1, .int x2] (wK cA h σ ++ (wLg cA h σ L ++ (wC cA h σ ++ F))) (some (.int r0)) (wK cA h σ ++ (wLg cA h σ L ++ (wC cA h σ ++ F))) := by
  refine ct_of (by decide +kernel) (Nat.le_of_ble_eq_true rfl) ?_
  intro p e s m below meth c E hw ls hl
  replace E : Ev p cX1_allows 3 (some .boolean) RX1 (Cond.code yX1_allows cX1_allows 3 (some .boolean) :: bw) D cA tS A s m _ meth c := E
  replace hl : lv_has ls 3 [(0, .ref (h 42)), (1, .int x1), (2, .int x2)] := hl
  have hx := E.1.1
  have hb := E.1.2.1
  unfold f_X1_allows at hM
  refine lv_iload_n hx hb dX1_allows_0 rfl (lv_at hl 1 rfl) ?_
  by_cases c19 : x1 = 4
  · replace hM := i_pos hM c19
    refine lv_tableIn (tgt := 44) hx hb dX1_allows_1 (by rw [c19]; decide) (by rw [c19]; decide) (off := 43) (by rw [c19]; decide) (by decide) ?_
    refine lv_aload_n hx hb dX1_allows_44 rfl (lv_at hl 0 rfl) ?_
    refine q_get (C := RX1) (T := TX1) (N := 6) (ci := 1) E (fun w h => List.mem_cons_of_mem _ (inX1 w h)) hw 12 rfl rfl 3 (by decide) (List.mem_cons_of_mem _ tb_336) (v := .ref (h 44)) rfl dX1_allows_45 ?_
    refine lv_iload_n hx hb dX1_allows_48 rfl (lv_at hl 2 rfl) ?_
    obtain ⟨p1, h2, hM⟩ := b_some hM
    refine q_cv (As := [.int x2]) (rest := []) E hw hl (c_X7_isActive l D cA tS A h L F x2 σ p1 h2) 1 (bwV bw_c tb_519 tb_504 tb_505 tb_108 tb_506) rfl (by decide +kernel) ⟨Nat.le_of_ble_eq_true rfl, Nat.le_of_ble_eq_true rfl⟩ 16 7 (T := TX7) (N := 15) rfl rfl rfl rfl (Nat.le_of_ble_eq_true rfl) ⟨Nat.zero_le _, Nat.zero_le _⟩ dX1_allows_49 (fun H locs hw => ?_)
    obtain ⟨g3, hM⟩ := g_some hM
    cases hM
    exact q_retz E hw g3 dX1_allows_52
  replace hM := i_neg hM c19
  by_cases c20 : x1 = 5
  · replace hM := i_pos hM c20
    refine lv_tableIn (tgt := 53) hx hb dX1_allows_1 (by rw [c20]; decide) (by rw [c20]; decide) (off := 52) (by rw [c20]; decide) (by decide) ?_
    refine lv_aload_n hx hb dX1_allows_53 rfl (lv_at hl 0 rfl) ?_
    refine q_get (C := RX1) (T := TX1) (N := 6) (ci := 1) E (fun w h => List.mem_cons_of_mem _ (inX1 w h)) hw 12 rfl rfl 3 (by decide) (List.mem_cons_of_mem _ tb_336) (v := .ref (h 44)) rfl dX1_allows_54 ?_
    refine q_get (C := RX7) (T := TX7) (N := 15) (ci := 7) E (fun w h => List.mem_cons_of_mem _ (inX7 w h)) hw 16 rfl rfl 5 (by decide) (List.mem_cons_of_mem _ tb_274) (v := .ref (h 21)) rfl dX1_allows_57 ?_
    refine lv_iload_n hx hb dX1_allows_60 rfl (lv_at hl 2 rfl) ?_
    obtain ⟨g4, hM⟩ := g_some hM
    refine q_ald E hw 22 (n := 60) rfl g4 (x := (σ 21 (ix x2))) rfl dX1_allows_61 ?_
    refine lv_iconst (v := 2) hx hb dX1_allows_62 (by decide) ?_
    refine lv_icmp_ne (tgt := 70) hx hb dX1_allows_63 (by decide) (fun c5 => ?_) (fun c5 => ?_)
    · replace hM := i_neg hM c5
      refine lv_iconst (v := 0) hx hb dX1_allows_70 (by decide) ?_
      cases hM
      exact q_retz E hw (by decide) dX1_allows_71
    · replace hM := i_pos hM c5
      refine lv_iconst (v := 1) hx hb dX1_allows_66 (by decide) ?_
      refine lv_goto (tgt := 71) hx hb dX1_allows_67 (by decide) ?_
      cases hM
      exact q_retz E hw (by decide) dX1_allows_71
  replace hM := i_neg hM c20
  by_cases c21 : x1 = 6
  · replace hM := i_pos hM c21
    refine lv_tableIn (tgt := 72) hx hb dX1_allows_1 (by rw [c21]; decide) (by rw [c21]; decide) (off := 71) (by rw [c21]; decide) (by decide) ?_
    refine lv_aload_n hx hb dX1_allows_72 rfl (lv_at hl 0 rfl) ?_
    refine q_get (C := RX1) (T := TX1) (N := 6) (ci := 1) E (fun w h => List.mem_cons_of_mem _ (inX1 w h)) hw 12 rfl rfl 3 (by decide) (List.mem_cons_of_mem _ tb_336) (v := .ref (h 44)) rfl dX1_allows_73 ?_
    refine lv_iload_n hx hb dX1_allows_76 rfl (lv_at hl 2 rfl) ?_
    obtain ⟨p6, h7, hM⟩ := b_some hM
    refine q_cv (As := [.int x2]) (rest := []) E hw hl (c_X7_isActive l D cA tS A h L F x2 σ p6 h7) 1 (bwV bw_c tb_519 tb_504 tb_505 tb_108 tb_506) rfl (by decide +kernel) ⟨Nat.le_of_ble_eq_true rfl, Nat.le_of_ble_eq_true rfl⟩ 16 7 (T := TX7) (N := 15) rfl rfl rfl rfl (Nat.le_of_ble_eq_true rfl) ⟨Nat.zero_le _, Nat.zero_le _⟩ dX1_allows_77 (fun H locs hw => ?_)
    refine lv_if_eq (tgt := 100) hx hb dX1_allows_80 (by decide) (fun c8 => ?_) (fun c8 => ?_)
    · replace hM := i_pos hM c8
      refine lv_iconst (v := 0) hx hb dX1_allows_100 (by decide) ?_
      cases hM
      exact q_retz E hw (by decide) dX1_allows_101
    · replace hM := i_neg hM c8
      refine lv_aload_n hx hb dX1_allows_83 rfl (lv_at hl 0 rfl) ?_
      refine q_get (C := RX1) (T := TX1) (N := 6) (ci := 1) E (fun w h => List.mem_cons_of_mem _ (inX1 w h)) hw 12 rfl rfl 3 (by decide) (List.mem_cons_of_mem _ tb_336) (v := .ref (h 44)) rfl dX1_allows_84 ?_
      refine q_get (C := RX7) (T := TX7) (N := 15) (ci := 7) E (fun w h => List.mem_cons_of_mem _ (inX7 w h)) hw 16 rfl rfl 4 (by decide) (List.mem_cons_of_mem _ tb_271) (v := .ref (h 20)) rfl dX1_allows_87 ?_
      refine lv_iload_n hx hb dX1_allows_90 rfl (lv_at hl 2 rfl) ?_
      obtain ⟨g9, hM⟩ := g_some hM
      refine q_ald E hw 21 (n := 60) rfl g9 (x := (σ 20 (ix x2))) rfl dX1_allows_91 ?_
      refine lv_iconst (v := 3) hx hb dX1_allows_92 (by decide) ?_
      refine lv_icmp_ge (tgt := 100) hx hb dX1_allows_93 (by decide) (fun c10 => ?_) (fun c10 => ?_)
      · replace hM := i_pos hM c10
        refine lv_iconst (v := 0) hx hb dX1_allows_100 (by decide) ?_
        cases hM
        exact q_retz E hw (by decide) dX1_allows_101
      · replace hM := i_neg hM c10
        refine lv_iconst (v := 1) hx hb dX1_allows_96 (by decide) ?_
        refine lv_goto (tgt := 101) hx hb dX1_allows_97 (by decide) ?_
        cases hM
        exact q_retz E hw (by decide) dX1_allows_101
  replace hM := i_neg hM c21
  by_cases c22 : x1 = 7
  · replace hM := i_pos hM c22
    refine lv_tableIn (tgt := 102) hx hb dX1_allows_1 (by rw [c22]; decide) (by rw [c22]; decide) (off := 101) (by rw [c22]; decide) (by decide) ?_
    refine lv_aload_n hx hb dX1_allows_102 rfl (lv_at hl 0 rfl) ?_
    refine q_get (C := RX1) (T := TX1) (N := 6) (ci := 1) E (fun w h => List.mem_cons_of_mem _ (inX1 w h)) hw 12 rfl rfl 3 (by decide) (List.mem_cons_of_mem _ tb_336) (v := .ref (h 44)) rfl dX1_allows_103 ?_
    refine lv_iload_n hx hb dX1_allows_106 rfl (lv_at hl 2 rfl) ?_
    obtain ⟨p11, h12, hM⟩ := b_some hM
    refine q_cv (As := [.int x2]) (rest := []) E hw hl (c_X7_standsAlone l D cA tS A h L F x2 σ p11 h12) 1 (bwV bw_c tb_499 tb_500 tb_501 tb_108 tb_502) rfl (by decide +kernel) ⟨Nat.le_of_ble_eq_true rfl, Nat.le_of_ble_eq_true rfl⟩ 16 7 (T := TX7) (N := 15) rfl rfl rfl rfl (Nat.le_of_ble_eq_true rfl) ⟨Nat.zero_le _, Nat.zero_le _⟩ dX1_allows_107 (fun H locs hw => ?_)
    obtain ⟨g13, hM⟩ := g_some hM
    cases hM
    exact q_retz E hw g13 dX1_allows_110
  replace hM := i_neg hM c22
  by_cases c23 : x1 = 8
  · replace hM := i_pos hM c23
    refine lv_tableIn (tgt := 111) hx hb dX1_allows_1 (by rw [c23]; decide) (by rw [c23]; decide) (off := 110) (by rw [c23]; decide) (by decide) ?_
    refine lv_aload_n hx hb dX1_allows_111 rfl (lv_at hl 0 rfl) ?_
    refine q_get (C := RX1) (T := TX1) (N := 6) (ci := 1) E (fun w h => List.mem_cons_of_mem _ (inX1 w h)) hw 12 rfl rfl 3 (by decide) (List.mem_cons_of_mem _ tb_336) (v := .ref (h 44)) rfl dX1_allows_112 ?_
    refine q_get (C := RX7) (T := TX7) (N := 15) (ci := 7) E (fun w h => List.mem_cons_of_mem _ (inX7 w h)) hw 16 rfl rfl 5 (by decide) (List.mem_cons_of_mem _ tb_274) (v := .ref (h 21)) rfl dX1_allows_115 ?_
    refine lv_iload_n hx hb dX1_allows_118 rfl (lv_at hl 2 rfl) ?_
    obtain ⟨g14, hM⟩ := g_some hM
    refine q_ald E hw 22 (n := 60) rfl g14 (x := (σ 21 (ix x2))) rfl dX1_allows_119 ?_
    refine lv_iconst (v := 3) hx hb dX1_allows_120 (by decide) ?_
    refine lv_icmp_ne (tgt := 141) hx hb dX1_allows_121 (by decide) (fun c15 => ?_) (fun c15 => ?_)
    · replace hM := i_neg hM c15
      refine lv_iconst (v := 0) hx hb dX1_allows_141 (by decide) ?_
      cases hM
      exact q_retz E hw (by decide) dX1_allows_142
    · replace hM := i_pos hM c15
      refine lv_aload_n hx hb dX1_allows_124 rfl (lv_at hl 0 rfl) ?_
      refine q_get (C := RX1) (T := TX1) (N := 6) (ci := 1) E (fun w h => List.mem_cons_of_mem _ (inX1 w h)) hw 12 rfl rfl 3 (by decide) (List.mem_cons_of_mem _ tb_336) (v := .ref (h 44)) rfl dX1_allows_125 ?_
      refine q_get (C := RX7) (T := TX7) (N := 15) (ci := 7) E (fun w h => List.mem_cons_of_mem _ (inX7 w h)) hw 16 rfl rfl 10 (by decide) (List.mem_cons_of_mem _ tb_288) (v := .ref (h 26)) rfl dX1_allows_128 ?_
      refine lv_iload_n hx hb dX1_allows_131 rfl (lv_at hl 2 rfl) ?_
      refine q_ald E hw 27 (n := 60) rfl g14 (x := (σ 26 (ix x2))) rfl dX1_allows_132 ?_
      refine lv_iconst (v := (-1)) hx hb dX1_allows_133 (by decide) ?_
      refine lv_icmp_ne (tgt := 141) hx hb dX1_allows_134 (by decide) (fun c16 => ?_) (fun c16 => ?_)
      · replace hM := i_neg hM c16
        refine lv_iconst (v := 0) hx hb dX1_allows_141 (by decide) ?_
        cases hM
        exact q_retz E hw (by decide) dX1_allows_142
      · replace hM := i_pos hM c16
        refine lv_iconst (v := 1) hx hb dX1_allows_137 (by decide) ?_
        refine lv_goto (tgt := 142) hx hb dX1_allows_138 (by decide) ?_
        cases hM
        exact q_retz E hw (by decide) dX1_allows_142
  replace hM := i_neg hM c23
  by_cases c24 : x1 = 10
  · replace hM := i_pos hM c24
    refine lv_tableIn (tgt := 143) hx hb dX1_allows_1 (by rw [c24]; decide) (by rw [c24]; decide) (off := 142) (by rw [c24]; decide) (by decide) ?_
    refine lv_aload_n hx hb dX1_allows_143 rfl (lv_at hl 0 rfl) ?_
    refine q_get (C := RX1) (T := TX1) (N := 6) (ci := 1) E (fun w h => List.mem_cons_of_mem _ (inX1 w h)) hw 12 rfl rfl 3 (by decide) (List.mem_cons_of_mem _ tb_336) (v := .ref (h 44)) rfl dX1_allows_144 ?_
    refine q_get (C := RX7) (T := TX7) (N := 15) (ci := 7) E (fun w h => List.mem_cons_of_mem _ (inX7 w h)) hw 16 rfl rfl 5 (by decide) (List.mem_cons_of_mem _ tb_274) (v := .ref (h 21)) rfl dX1_allows_147 ?_
    refine lv_iload_n hx hb dX1_allows_150 rfl (lv_at hl 2 rfl) ?_
    obtain ⟨g17, hM⟩ := g_some hM
    refine q_ald E hw 22 (n := 60) rfl g17 (x := (σ 21 (ix x2))) rfl dX1_allows_151 ?_
    refine lv_iconst (v := 4) hx hb dX1_allows_152 (by decide) ?_
    refine lv_icmp_ne (tgt := 160) hx hb dX1_allows_153 (by decide) (fun c18 => ?_) (fun c18 => ?_)
    · replace hM := i_neg hM c18
      refine lv_iconst (v := 0) hx hb dX1_allows_160 (by decide) ?_
      cases hM
      exact q_retz E hw (by decide) dX1_allows_161
    · replace hM := i_pos hM c18
      refine lv_iconst (v := 1) hx hb dX1_allows_156 (by decide) ?_
      refine lv_goto (tgt := 161) hx hb dX1_allows_157 (by decide) ?_
      cases hM
      exact q_retz E hw (by decide) dX1_allows_161
  replace hM := i_neg hM c24
  refine q_tableD (tgt := 162) hx hb dX1_allows_1 (fun hq => ?_) (by decide) ?_
  · have hz : (x1).toInt = 4 ∨ (x1).toInt = 5 ∨ (x1).toInt = 6 ∨ (x1).toInt = 7 ∨ (x1).toInt = 8 ∨ (x1).toInt = 9 ∨ (x1).toInt = 10 := by omega
    rcases hz with hz | hz | hz | hz | hz | hz | hz
    · exact absurd (Int32.toInt_inj.mp (hz.trans (by decide))) c19
    · exact absurd (Int32.toInt_inj.mp (hz.trans (by decide))) c20
    · exact absurd (Int32.toInt_inj.mp (hz.trans (by decide))) c21
    · exact absurd (Int32.toInt_inj.mp (hz.trans (by decide))) c22
    · exact absurd (Int32.toInt_inj.mp (hz.trans (by decide))) c23
    · rw [hz]; decide
    · exact absurd (Int32.toInt_inj.mp (hz.trans (by decide))) c24
  refine lv_iconst (v := 0) hx hb dX1_allows_162 (by decide) ?_
  cases hM
  exact q_retz E hw (by decide) dX1_allows_163
def f_X1_ticketError    (x1 : Int32) (x2 : Int32) (σ : Sg) : Option (Int32) := (f_X7_exists x2 σ).bind (fun p1 => (if p1 = 0 then some (-2) else (f_X1_allows x1 x2 σ).bind (fun p4 => (if p4 = 0 then some (-5) else some 0))))
set_option maxRecDepth 100000 in
set_option maxHeartbeats 4000000 in
theorem c_X1_ticketError (l : Launch) (D : va_G) (cA : Nat → ClassId) (tS : Nat → Nat) (A : Nat → Prop) (h : Nat → Nat) (L : Nat) (F : va_W) (x1 : Int32) (x2 : Int32) (σ : Sg) (r0 : Int32) (hM : f_X1_ticketError x1 x2 σ = some r0) : Ct l yX1_ticketError (Cond.code yX1_ticketError cX1_ticketError 3 (some .int) :: bw) 3 64 D cA tS A [.ref (h 42), .int x1, .int x2] (wK cA h σ ++ (wLg cA h σ L ++ (wC cA h σ ++ F))) (some (.int r0)) (wK cA h σ ++ (wLg cA h σ L ++ (wC cA h σ ++ F))) := by
  refine ct_of (by decide +kernel) (Nat.le_of_ble_eq_true rfl) ?_
  intro p e s m below meth c E hw ls hl
  replace E : Ev p cX1_ticketError 3 (some .int) RX1 (Cond.code yX1_ticketError cX1_ticketError 3 (some .int) :: bw) D cA tS A s m _ meth c := E
  replace hl : lv_has ls 3 [(0, .ref (h 42)), (1, .int x1), (2, .int x2)] := hl
  have hx := E.1.1
  have hb := E.1.2.1
  unfold f_X1_ticketError at hM
  refine lv_aload_n hx hb dX1_ticketError_0 rfl (lv_at hl 0 rfl) ?_
  refine q_get (C := RX1) (T := TX1) (N := 6) (ci := 1) E (fun w h => List.mem_cons_of_mem _ (inX1 w h)) hw 12 rfl rfl 3 (by decide) (List.mem_cons_of_mem _ tb_336) (v := .ref (h 44)) rfl dX1_ticketError_1 ?_
  refine lv_iload_n hx hb dX1_ticketError_4 rfl (lv_at hl 2 rfl) ?_
  obtain ⟨p1, h2, hM⟩ := b_some hM
  refine q_cv (As := [.int x2]) (rest := []) E hw hl (c_X7_exists l D cA tS A h L F x2 σ p1 h2) 1 (bwV bw_c tb_495 tb_496 tb_497 tb_108 tb_498) rfl (by decide +kernel) ⟨Nat.le_of_ble_eq_true rfl, Nat.le_of_ble_eq_true rfl⟩ 16 7 (T := TX7) (N := 15) rfl rfl rfl rfl (Nat.le_of_ble_eq_true rfl) ⟨Nat.zero_le _, Nat.zero_le _⟩ dX1_ticketError_5 (fun H locs hw => ?_)
  refine lv_if_ne (tgt := 14) hx hb dX1_ticketError_8 (by decide) (fun c3 => ?_) (fun c3 => ?_)
  · replace hM := i_neg hM c3
    refine lv_aload_n hx hb dX1_ticketError_14 rfl (lv_at hl 0 rfl) ?_
    refine lv_iload_n hx hb dX1_ticketError_15 rfl (lv_at hl 1 rfl) ?_
    refine lv_iload_n hx hb dX1_ticketError_16 rfl (lv_at hl 2 rfl) ?_
    obtain ⟨p4, h5, hM⟩ := b_some hM
    refine q_cv (As := [.int x1, .int x2]) (rest := []) E hw hl (c_X1_allows l D cA tS A h L F x1 x2 σ p4 h5) 2 (bwV bw_c tb_515 tb_517 tb_6 tb_106 tb_518) rfl (by decide +kernel) ⟨Nat.le_of_ble_eq_true rfl, Nat.le_of_ble_eq_true rfl⟩ 12 1 (T := TX1) (N := 6) rfl rfl rfl rfl (Nat.le_of_ble_eq_true rfl) ⟨Nat.zero_le _, Nat.zero_le _⟩ dX1_ticketError_17 (fun H locs hw => ?_)
    refine lv_if_eq (tgt := 27) hx hb dX1_ticketError_20 (by decide) (fun c6 => ?_) (fun c6 => ?_)
    · replace hM := i_pos hM c6
      refine lv_bipush (v := (-5)) hx hb dX1_ticketError_27 (by decide) ?_
      cases hM
      exact q_reti E hw dX1_ticketError_29
    · replace hM := i_neg hM c6
      refine lv_iconst (v := 0) hx hb dX1_ticketError_23 (by decide) ?_
      refine lv_goto (tgt := 29) hx hb dX1_ticketError_24 (by decide) ?_
      cases hM
      exact q_reti E hw dX1_ticketError_29
  · replace hM := i_pos hM c3
    refine lv_bipush (v := (-2)) hx hb dX1_ticketError_11 (by decide) ?_
    cases hM
    exact q_reti E hw dX1_ticketError_13
def f_X1_errorOf    (x1 : Int32) (x2 : Int32) (x3 : Int32) (x4 : Int32) (x5 : Int32) (σ : Sg) : Option (Int32) := (if x1 = 0 then (f_X1_dayError x2 x3 x4 σ).bind (fun p3 => some p3) else if x1 = 2 then (f_X8_within x2 0 3).bind (fun p5 => (if p5 = 0 then some (-4) else (f_X8_within x3 0 9).bind (fun p8 => (if p8 = 0 then some (-4) else some 0)))) else if x1 = 3 then (f_X1_reportError x2 x3 x4 x5 σ).bind (fun p11 => some p11) else if x1 = 9 then (f_X1_joinError x2 x3 σ).bind (fun p13 => some p13) else if x1 = 11 then (f_X1_priorityError x2 x3 σ).bind (fun p15 => some p15) else (f_X1_ticketError x1 x2 σ).bind (fun p1 => some p1))
set_option maxRecDepth 100000 in
set_option maxHeartbeats 4000000 in
theorem c_X1_errorOf (l : Launch) (D : va_G) (cA : Nat → ClassId) (tS : Nat → Nat) (A : Nat → Prop) (h : Nat → Nat) (L : Nat) (F : va_W) (x1 : Int32) (x2 : Int32) (x3 : Int32) (x4 : Int32) (x5 : Int32) (σ : Sg) (r0 : Int32) (hM : f_X1_errorOf x1 x2 x3 x4 x5 σ = some r0) : Ct l yX1_errorOf (Cond.code yX1_errorOf cX1_errorOf 6 (some .int) :: bw) 4 86 D cA tS A [.ref (h 42), .int x1, .int x2, .int x3, .int x4, .int x5] (wK cA h σ ++ (wLg cA h σ L ++ (wC cA h σ ++ F))) (some (.int r0)) (wK cA h σ ++ (wLg cA h σ L ++ (wC cA h σ ++ F))) := by
  refine ct_of (by decide +kernel) (Nat.le_of_ble_eq_true rfl) ?_
  intro p e s m below meth c E hw ls hl
  replace E : Ev p cX1_errorOf 6 (some .int) RX1 (Cond.code yX1_errorOf cX1_errorOf 6 (some .int) :: bw) D cA tS A s m _ meth c := E
  replace hl : lv_has ls 6 [(0, .ref (h 42)), (1, .int x1), (2, .int x2), (3, .int x3), (4, .int x4), (5, .int x5)] := hl
  have hx := E.1.1
  have hb := E.1.2.1
  unfold f_X1_errorOf at hM
  refine lv_iload_n hx hb dX1_errorOf_0 rfl (lv_at hl 1 rfl) ?_
  by_cases c17 : x1 = 0
  · replace hM := i_pos hM c17
    refine lv_tableIn (tgt := 64) hx hb dX1_errorOf_1 (by rw [c17]; decide) (by rw [c17]; decide) (off := 63) (by rw [c17]; decide) (by decide) ?_
    refine lv_aload_n hx hb dX1_errorOf_64 rfl (lv_at hl 0 rfl) ?_
    refine lv_iload_n hx hb dX1_errorOf_65 rfl (lv_at hl 2 rfl) ?_
    refine lv_iload_n hx hb dX1_errorOf_66 rfl (lv_at hl 3 rfl) ?_
    refine lv_iload hx hb dX1_errorOf_67 (lv_at hl 4 rfl) ?_
    obtain ⟨p3, h4, hM⟩ := b_some hM
    refine q_cv (As := [.int x2, .int x3, .int x4]) (rest := []) E hw hl (c_X1_dayError l D cA tS A h L F x2 x3 x4 σ p3 h4) 3 (bwV bw_c tb_476 tb_478 tb_1 tb_106 tb_479) rfl (by decide +kernel) ⟨Nat.le_of_ble_eq_true rfl, Nat.le_of_ble_eq_true rfl⟩ 12 1 (T := TX1) (N := 6) rfl rfl rfl rfl (Nat.le_of_ble_eq_true rfl) ⟨Nat.zero_le _, Nat.zero_le _⟩ dX1_errorOf_69 (fun H locs hw => ?_)
    cases hM
    exact q_reti E hw dX1_errorOf_72
  replace hM := i_neg hM c17
  by_cases c18 : x1 = 2
  · replace hM := i_pos hM c18
    refine lv_tableIn (tgt := 73) hx hb dX1_errorOf_1 (by rw [c18]; decide) (by rw [c18]; decide) (off := 72) (by rw [c18]; decide) (by decide) ?_
    refine lv_iload_n hx hb dX1_errorOf_73 rfl (lv_at hl 2 rfl) ?_
    refine lv_iconst (v := 0) hx hb dX1_errorOf_74 (by decide) ?_
    refine lv_iconst (v := 3) hx hb dX1_errorOf_75 (by decide) ?_
    obtain ⟨p5, h6, hM⟩ := b_some hM
    refine q_cn (host := "HelpDesk") (As := [.int x2, .int 0, .int 3]) (rest := []) E hw hl (c_X8_within l D cA tS A (wK cA h σ ++ (wLg cA h σ L ++ (wC cA h σ ++ F))) x2 0 3 p5 h6) 3 (bwc bw_c tb_482) rfl (by decide +kernel) (List.mem_cons_of_mem _ tb_100) (List.mem_cons_of_mem _ tb_481) (by decide +kernel) ⟨Nat.le_of_ble_eq_true rfl, Nat.le_of_ble_eq_true rfl⟩ rfl rfl (Nat.le_of_ble_eq_true rfl) ⟨Nat.zero_le _, Nat.zero_le _⟩ dX1_errorOf_76 (fun H locs hw => ?_)
    refine lv_if_eq (tgt := 96) hx hb dX1_errorOf_79 (by decide) (fun c7 => ?_) (fun c7 => ?_)
    · replace hM := i_pos hM c7
      refine lv_bipush (v := (-4)) hx hb dX1_errorOf_96 (by decide) ?_
      cases hM
      exact q_reti E hw dX1_errorOf_98
    · replace hM := i_neg hM c7
      refine lv_iload_n hx hb dX1_errorOf_82 rfl (lv_at hl 3 rfl) ?_
      refine lv_iconst (v := 0) hx hb dX1_errorOf_83 (by decide) ?_
      refine lv_bipush (v := 9) hx hb dX1_errorOf_84 (by decide) ?_
      obtain ⟨p8, h9, hM⟩ := b_some hM
      refine q_cn (host := "HelpDesk") (As := [.int x3, .int 0, .int 9]) (rest := []) E hw hl (c_X8_within l D cA tS A (wK cA h σ ++ (wLg cA h σ L ++ (wC cA h σ ++ F))) x3 0 9 p8 h9) 3 (bwc bw_c tb_482) rfl (by decide +kernel) (List.mem_cons_of_mem _ tb_100) (List.mem_cons_of_mem _ tb_481) (by decide +kernel) ⟨Nat.le_of_ble_eq_true rfl, Nat.le_of_ble_eq_true rfl⟩ rfl rfl (Nat.le_of_ble_eq_true rfl) ⟨Nat.zero_le _, Nat.zero_le _⟩ dX1_errorOf_86 (fun H locs hw => ?_)
      refine lv_if_eq (tgt := 96) hx hb dX1_errorOf_89 (by decide) (fun c10 => ?_) (fun c10 => ?_)
      · replace hM := i_pos hM c10
        refine lv_bipush (v := (-4)) hx hb dX1_errorOf_96 (by decide) ?_
        cases hM
        exact q_reti E hw dX1_errorOf_98
      · replace hM := i_neg hM c10
        refine lv_iconst (v := 0) hx hb dX1_errorOf_92 (by decide) ?_
        refine lv_goto (tgt := 98) hx hb dX1_errorOf_93 (by decide) ?_
        cases hM
        exact q_reti E hw dX1_errorOf_98
  replace hM := i_neg hM c18
  by_cases c19 : x1 = 3
  · replace hM := i_pos hM c19
    refine lv_tableIn (tgt := 99) hx hb dX1_errorOf_1 (by rw [c19]; decide) (by rw [c19]; decide) (off := 98) (by rw [c19]; decide) (by decide) ?_
    refine lv_aload_n hx hb dX1_errorOf_99 rfl (lv_at hl 0 rfl) ?_
    refine lv_iload_n hx hb dX1_errorOf_100 rfl (lv_at hl 2 rfl) ?_
    refine lv_iload_n hx hb dX1_errorOf_101 rfl (lv_at hl 3 rfl) ?_
    refine lv_iload hx hb dX1_errorOf_102 (lv_at hl 4 rfl) ?_
    refine lv_iload hx hb dX1_errorOf_104 (lv_at hl 5 rfl) ?_
    obtain ⟨p11, h12, hM⟩ := b_some hM
    refine q_cv (As := [.int x2, .int x3, .int x4, .int x5]) (rest := []) E hw hl (c_X1_reportError l D cA tS A h L F x2 x3 x4 x5 σ p11 h12) 4 (bwV bw_c tb_483 tb_485 tb_2 tb_106 tb_486) rfl (by decide +kernel) ⟨Nat.le_of_ble_eq_true rfl, Nat.le_of_ble_eq_true rfl⟩ 12 1 (T := TX1) (N := 6) rfl rfl rfl rfl (Nat.le_of_ble_eq_true rfl) ⟨Nat.zero_le _, Nat.zero_le _⟩ dX1_errorOf_106 (fun H locs hw => ?_)
    cases hM
    exact q_reti E hw dX1_errorOf_109
  replace hM := i_neg hM c19
  by_cases c20 : x1 = 9
  · replace hM := i_pos hM c20
    refine lv_tableIn (tgt := 110) hx hb dX1_errorOf_1 (by rw [c20]; decide) (by rw [c20]; decide) (off := 109) (by rw [c20]; decide) (by decide) ?_
    refine lv_aload_n hx hb dX1_errorOf_110 rfl (lv_at hl 0 rfl) ?_
    refine lv_iload_n hx hb dX1_errorOf_111 rfl (lv_at hl 2 rfl) ?_
    refine lv_iload_n hx hb dX1_errorOf_112 rfl (lv_at hl 3 rfl) ?_
    obtain ⟨p13, h14, hM⟩ := b_some hM
    refine q_cv (As := [.int x2, .int x3]) (rest := []) E hw hl (c_X1_joinError l D cA tS A h L F x2 x3 σ p13 h14) 2 (bwV bw_c tb_491 tb_493 tb_3 tb_106 tb_494) rfl (by decide +kernel) ⟨Nat.le_of_ble_eq_true rfl, Nat.le_of_ble_eq_true rfl⟩ 12 1 (T := TX1) (N := 6) rfl rfl rfl rfl (Nat.le_of_ble_eq_true rfl) ⟨Nat.zero_le _, Nat.zero_le _⟩ dX1_errorOf_113 (fun H locs hw => ?_)
    cases hM
    exact q_reti E hw dX1_errorOf_116
  replace hM := i_neg hM c20
  by_cases c21 : x1 = 11
  · replace hM := i_pos hM c21
    refine lv_tableIn (tgt := 117) hx hb dX1_errorOf_1 (by rw [c21]; decide) (by rw [c21]; decide) (off := 116) (by rw [c21]; decide) (by decide) ?_
    refine lv_aload_n hx hb dX1_errorOf_117 rfl (lv_at hl 0 rfl) ?_
    refine lv_iload_n hx hb dX1_errorOf_118 rfl (lv_at hl 2 rfl) ?_
    refine lv_iload_n hx hb dX1_errorOf_119 rfl (lv_at hl 3 rfl) ?_
    obtain ⟨p15, h16, hM⟩ := b_some hM
    refine q_cv (As := [.int x2, .int x3]) (rest := []) E hw hl (c_X1_priorityError l D cA tS A h L F x2 x3 σ p15 h16) 2 (bwV bw_c tb_507 tb_509 tb_4 tb_106 tb_510) rfl (by decide +kernel) ⟨Nat.le_of_ble_eq_true rfl, Nat.le_of_ble_eq_true rfl⟩ 12 1 (T := TX1) (N := 6) rfl rfl rfl rfl (Nat.le_of_ble_eq_true rfl) ⟨Nat.zero_le _, Nat.zero_le _⟩ dX1_errorOf_120 (fun H locs hw => ?_)
    cases hM
    exact q_reti E hw dX1_errorOf_123
  replace hM := i_neg hM c21
  refine q_tableD (tgt := 124) hx hb dX1_errorOf_1 (fun hq => ?_) (by decide) ?_
  · have hz : (x1).toInt = 0 ∨ (x1).toInt = 1 ∨ (x1).toInt = 2 ∨ (x1).toInt = 3 ∨ (x1).toInt = 4 ∨ (x1).toInt = 5 ∨ (x1).toInt = 6 ∨ (x1).toInt = 7 ∨ (x1).toInt = 8 ∨ (x1).toInt = 9 ∨ (x1).toInt = 10 ∨ (x1).toInt = 11 := by omega
    rcases hz with hz | hz | hz | hz | hz | hz | hz | hz | hz | hz | hz | hz
    · exact absurd (Int32.toInt_inj.mp (hz.trans (by decide))) c17
    · rw [hz]; decide
    · exact absurd (Int32.toInt_inj.mp (hz.trans (by decide))) c18
    · exact absurd (Int32.toInt_inj.mp (hz.trans (by decide))) c19
    · rw [hz]; decide
    · rw [hz]; decide
    · rw [hz]; decide
    · rw [hz]; decide
    · rw [hz]; decide
    · exact absurd (Int32.toInt_inj.mp (hz.trans (by decide))) c20
    · rw [hz]; decide
    · exact absurd (Int32.toInt_inj.mp (hz.trans (by decide))) c21
  refine lv_aload_n hx hb dX1_errorOf_124 rfl (lv_at hl 0 rfl) ?_
  refine lv_iload_n hx hb dX1_errorOf_125 rfl (lv_at hl 1 rfl) ?_
  refine lv_iload_n hx hb dX1_errorOf_126 rfl (lv_at hl 2 rfl) ?_
  obtain ⟨p1, h2, hM⟩ := b_some hM
  refine q_cv (As := [.int x1, .int x2]) (rest := []) E hw hl (c_X1_ticketError l D cA tS A h L F x1 x2 σ p1 h2) 2 (bwV bw_c tb_511 tb_513 tb_5 tb_106 tb_514) rfl (by decide +kernel) ⟨Nat.le_of_ble_eq_true rfl, Nat.le_of_ble_eq_true rfl⟩ 12 1 (T := TX1) (N := 6) rfl rfl rfl rfl (Nat.le_of_ble_eq_true rfl) ⟨Nat.zero_le _, Nat.zero_le _⟩ dX1_errorOf_127 (fun H locs hw => ?_)
  cases hM
  exact q_reti E hw dX1_errorOf_130
def f_X7_countAt_5 (N : Nat)   : Nat → Int32 → Int32 → Int32 → Int32 → Sg → Option (Int32)
  | 0, _, _, _, _, _ => none
  | n + 1, x1, x2, x3, x4, σ => (if (σ 15 0) ≤ x4 then some x3 else if ib x4 60 then (if (σ 21 (ix x4)) = x2 then (if (σ 20 (ix x4)) = x1 then f_X7_countAt_5 N n x1 x2 (x3 + 1) (x4 + 1) σ else f_X7_countAt_5 N n x1 x2 x3 (x4 + 1) σ) else f_X7_countAt_5 N n x1 x2 x3 (x4 + 1) σ) else none)
set_option maxRecDepth 100000 in
set_option maxHeartbeats 4000000 in
theorem s_X7_countAt_5 (l : Launch) (D : va_G) (cA : Nat → ClassId) (tS : Nat → Nat) (A : Nat → Prop) (h : Nat → Nat) (L : Nat) (F : va_W) (N : Nat) {p : Program} {e : Env} {s : State} {m : MethodId} {args : Array Value} {below : List Frame} {meth : Method} {c : Code} (E : Ev p cX7_countAt 5 (some .int) RX7 (Cond.code yX7_countAt cX7_countAt 5 (some .int) :: bw) D cA tS A s m args meth c) : ∀ (n : Nat) (x1 : Int32) (x2 : Int32) (x3 : Int32) (x4 : Int32) (σ : Sg) (r0 : Int32) (hM : f_X7_countAt_5 N n x1 x2 x3 x4 σ = some r0) (H : Heap) (locs : List Loc) (hw : Wd D A (wK cA h σ ++ (wLg cA h σ L ++ (wC cA h σ ++ F))) s.heap H locs) (ls : Array Slot) (hl : lv_has ls 5 [(0, .ref (h 44)), (1, .int x1), (2, .int x2), (3, .int x3), (4, .int x4)]), W p l e ({ frames := 0, cells := 0, slots := 0, locals := 0 } : Room) s m args below meth c H locs 0 0 (MQ below (QW D A (some (.int r0)) (wK cA h σ ++ (wLg cA h σ L ++ (wC cA h σ ++ F)))) args s 0 0 A) (F0 m 5 ls []) := by
  have hx := E.1.1
  have hb := E.1.2.1
  intro n
  induction n with
  | zero =>
    intro x1 x2 x3 x4 σ r0 hM
    cases hM
  | succ n ih =>
    intro x1 x2 x3 x4 σ r0 hM H locs hw ls hl
    rw [f_X7_countAt_5] at hM
    refine lv_iload hx hb dX7_countAt_5 (lv_at hl 4 rfl) ?_
    refine lv_aload_n hx hb dX7_countAt_7 rfl (lv_at hl 0 rfl) ?_
    refine q_get (C := RX7) (T := TX7) (N := 15) (ci := 7) E (fun w h => List.mem_cons_of_mem _ (inX7 w h)) hw 16 rfl rfl 14 (by decide) (List.mem_cons_of_mem _ tb_298) (v := .int (σ 15 0)) rfl dX7_countAt_8 ?_
    refine lv_icmp_ge (tgt := 45) hx hb dX7_countAt_11 (by decide) (fun c1 => ?_) (fun c1 => ?_)
    · replace hM := i_pos hM c1
      refine lv_iload_n hx hb dX7_countAt_45 rfl (lv_at hl 3 rfl) ?_
      cases hM
      exact q_reti E hw dX7_countAt_46
    · replace hM := i_neg hM c1
      refine lv_aload_n hx hb dX7_countAt_14 rfl (lv_at hl 0 rfl) ?_
      refine q_get (C := RX7) (T := TX7) (N := 15) (ci := 7) E (fun w h => List.mem_cons_of_mem _ (inX7 w h)) hw 16 rfl rfl 5 (by decide) (List.mem_cons_of_mem _ tb_273) (v := .ref (h 21)) rfl dX7_countAt_15 ?_
      refine lv_iload hx hb dX7_countAt_18 (lv_at hl 4 rfl) ?_
      obtain ⟨g2, hM⟩ := g_some hM
      refine q_ald E hw 22 (n := 60) rfl g2 (x := (σ 21 (ix x4))) rfl dX7_countAt_20 ?_
      refine lv_iload_n hx hb dX7_countAt_21 rfl (lv_at hl 2 rfl) ?_
      refine lv_icmp_ne (tgt := 39) hx hb dX7_countAt_22 (by decide) (fun c3 => ?_) (fun c3 => ?_)
      · replace hM := i_neg hM c3
        refine lv_iinc (v := (x4 + 1)) (lv' := [(4, .int (x4 + 1)), (0, .ref (h 44)), (1, .int x1), (2, .int x2), (3, .int x3)]) hx hb dX7_countAt_39 hl (k := 4) rfl rfl (by decide) rfl (fun ls hl => ?_)
        refine lv_goto (tgt := 5) hx hb dX7_countAt_42 (by decide) ?_
        exact ih _ _ _ _ _ _ hM _ _ hw _ (lv_sub hl [1, 2, 3, 4, 0] rfl)
      · replace hM := i_pos hM c3
        refine lv_aload_n hx hb dX7_countAt_25 rfl (lv_at hl 0 rfl) ?_
        refine q_get (C := RX7) (T := TX7) (N := 15) (ci := 7) E (fun w h => List.mem_cons_of_mem _ (inX7 w h)) hw 16 rfl rfl 4 (by decide) (List.mem_cons_of_mem _ tb_270) (v := .ref (h 20)) rfl dX7_countAt_26 ?_
        refine lv_iload hx hb dX7_countAt_29 (lv_at hl 4 rfl) ?_
        refine q_ald E hw 21 (n := 60) rfl g2 (x := (σ 20 (ix x4))) rfl dX7_countAt_31 ?_
        refine lv_iload_n hx hb dX7_countAt_32 rfl (lv_at hl 1 rfl) ?_
        refine lv_icmp_ne (tgt := 39) hx hb dX7_countAt_33 (by decide) (fun c4 => ?_) (fun c4 => ?_)
        · replace hM := i_neg hM c4
          refine lv_iinc (v := (x4 + 1)) (lv' := [(4, .int (x4 + 1)), (0, .ref (h 44)), (1, .int x1), (2, .int x2), (3, .int x3)]) hx hb dX7_countAt_39 hl (k := 4) rfl rfl (by decide) rfl (fun ls hl => ?_)
          refine lv_goto (tgt := 5) hx hb dX7_countAt_42 (by decide) ?_
          exact ih _ _ _ _ _ _ hM _ _ hw _ (lv_sub hl [1, 2, 3, 4, 0] rfl)
        · replace hM := i_pos hM c4
          refine lv_iinc (v := (x3 + 1)) (lv' := [(3, .int (x3 + 1)), (0, .ref (h 44)), (1, .int x1), (2, .int x2), (4, .int x4)]) hx hb dX7_countAt_36 hl (k := 3) rfl rfl (by decide) rfl (fun ls hl => ?_)
          refine lv_iinc (v := (x4 + 1)) (lv' := [(4, .int (x4 + 1)), (3, .int (x3 + 1)), (0, .ref (h 44)), (1, .int x1), (2, .int x2)]) hx hb dX7_countAt_39 hl (k := 4) rfl rfl (by decide) rfl (fun ls hl => ?_)
          refine lv_goto (tgt := 5) hx hb dX7_countAt_42 (by decide) ?_
          exact ih _ _ _ _ _ _ hM _ _ hw _ (lv_sub hl [2, 3, 4, 1, 0] rfl)
def f_X7_countAt (N : Nat)   (x1 : Int32) (x2 : Int32) (σ : Sg) : Option (Int32) := f_X7_countAt_5 N N x1 x2 0 0 σ
set_option maxRecDepth 100000 in
set_option maxHeartbeats 4000000 in
theorem c_X7_countAt (l : Launch) (D : va_G) (cA : Nat → ClassId) (tS : Nat → Nat) (A : Nat → Prop) (h : Nat → Nat) (L : Nat) (F : va_W) (N : Nat) (x1 : Int32) (x2 : Int32) (σ : Sg) (r0 : Int32) (hM : f_X7_countAt N x1 x2 σ = some r0) : Ct l yX7_countAt (Cond.code yX7_countAt cX7_countAt 5 (some .int) :: bw) 0 0 D cA tS A [.ref (h 44), .int x1, .int x2] (wK cA h σ ++ (wLg cA h σ L ++ (wC cA h σ ++ F))) (some (.int r0)) (wK cA h σ ++ (wLg cA h σ L ++ (wC cA h σ ++ F))) := by
  refine ct_of (by decide +kernel) (Nat.le_of_ble_eq_true rfl) ?_
  intro p e s m below meth c E hw ls hl
  replace E : Ev p cX7_countAt 5 (some .int) RX7 (Cond.code yX7_countAt cX7_countAt 5 (some .int) :: bw) D cA tS A s m _ meth c := E
  replace hl : lv_has ls 5 [(0, .ref (h 44)), (1, .int x1), (2, .int x2)] := hl
  have hx := E.1.1
  have hb := E.1.2.1
  unfold f_X7_countAt at hM
  refine lv_iconst (v := 0) hx hb dX7_countAt_0 (by decide) ?_
  refine lv_istore_n (lv' := [(3, .int 0), (0, .ref (h 44)), (1, .int x1), (2, .int x2)]) hx hb dX7_countAt_1 rfl hl (by decide) rfl (fun ls hl => ?_)
  refine lv_iconst (v := 0) hx hb dX7_countAt_2 (by decide) ?_
  refine lv_istore (lv' := [(4, .int 0), (3, .int 0), (0, .ref (h 44)), (1, .int x1), (2, .int x2)]) hx hb dX7_countAt_3 hl (by decide) rfl (fun ls hl => ?_)
  exact s_X7_countAt_5 l D cA tS A h L F N E N _ _ _ _ _ _ hM _ _ hw _ (lv_sub hl [2, 3, 4, 1, 0] rfl)
def f_X1_staff_38 (N : Nat)   : Nat → Int32 → Int32 → Int32 → Int32 → Sg → Option (Int32 × Sg)
  | 0, _, _, _, _, _ => none
  | n + 1, x1, x3, x4, x5, σ => (if x5 < 0 then some (x3, σ) else (if x4 ≤ 0 then some (x3, σ) else if ib x5 60 then (if (σ 21 (ix x5)) = 1 then (if (σ 20 (ix x5)) = x1 then f_X1_staff_38 N n x1 x3 (x4 + (-1)) (x5 + (-1)) (up σ 21 (ix x5) 0) else f_X1_staff_38 N n x1 x3 x4 (x5 + (-1)) σ) else f_X1_staff_38 N n x1 x3 x4 (x5 + (-1)) σ) else none))
set_option maxRecDepth 100000 in
set_option maxHeartbeats 4000000 in
theorem s_X1_staff_38 (l : Launch) (D : va_G) (cA : Nat → ClassId) (tS : Nat → Nat) (A : Nat → Prop) (h : Nat → Nat) (L : Nat) (F : va_W) (N : Nat) {p : Program} {e : Env} {s : State} {m : MethodId} {args : Array Value} {below : List Frame} {meth : Method} {c : Code} (E : Ev p cX1_staff 6 (some .int) RX1 (Cond.code yX1_staff cX1_staff 6 (some .int) :: bw) D cA tS A s m args meth c) : ∀ (n : Nat) (x1 : Int32) (x3 : Int32) (x4 : Int32) (x5 : Int32) (σ : Sg) (r0 : Int32) (s0 : Sg) (hM : f_X1_staff_38 N n x1 x3 x4 x5 σ = some (r0, s0)) (H : Heap) (locs : List Loc) (hw : Wd D A (wK cA h σ ++ (wLg cA h σ L ++ (wC cA h σ ++ F))) s.heap H locs) (ls : Array Slot) (hl : lv_has ls 6 [(0, .ref (h 42)), (1, .int x1), (3, .int x3), (4, .int x4), (5, .int x5)]), W p l e ({ frames := 1, cells := 0, slots := 0, locals := 24 } : Room) s m args below meth c H locs 0 0 (MQ below (QW D A (some (.int r0)) (wK cA h s0 ++ (wLg cA h s0 L ++ (wC cA h s0 ++ F)))) args s 0 0 A) (F0 m 38 ls []) := by
  have hx := E.1.1
  have hb := E.1.2.1
  intro n
  induction n with
  | zero =>
    intro x1 x3 x4 x5 σ r0 s0 hM
    cases hM
  | succ n ih =>
    intro x1 x3 x4 x5 σ r0 s0 hM H locs hw ls hl
    rw [f_X1_staff_38] at hM
    refine lv_iload hx hb dX1_staff_38 (lv_at hl 4 rfl) ?_
    refine lv_if_lt (tgt := 96) hx hb dX1_staff_40 (by decide) (fun c1 => ?_) (fun c1 => ?_)
    · replace hM := i_pos hM c1
      refine lv_iload_n hx hb dX1_staff_96 rfl (lv_at hl 2 rfl) ?_
      cases hM
      exact q_reti E hw dX1_staff_97
    · replace hM := i_neg hM c1
      refine lv_iload hx hb dX1_staff_43 (lv_at hl 3 rfl) ?_
      refine lv_if_le (tgt := 96) hx hb dX1_staff_45 (by decide) (fun c2 => ?_) (fun c2 => ?_)
      · replace hM := i_pos hM c2
        refine lv_iload_n hx hb dX1_staff_96 rfl (lv_at hl 2 rfl) ?_
        cases hM
        exact q_reti E hw dX1_staff_97
      · replace hM := i_neg hM c2
        refine lv_aload_n hx hb dX1_staff_48 rfl (lv_at hl 0 rfl) ?_
        refine q_get (C := RX1) (T := TX1) (N := 6) (ci := 1) E (fun w h => List.mem_cons_of_mem _ (inX1 w h)) hw 12 rfl rfl 3 (by decide) (List.mem_cons_of_mem _ tb_336) (v := .ref (h 44)) rfl dX1_staff_49 ?_
        refine q_get (C := RX7) (T := TX7) (N := 15) (ci := 7) E (fun w h => List.mem_cons_of_mem _ (inX7 w h)) hw 16 rfl rfl 5 (by decide) (List.mem_cons_of_mem _ tb_274) (v := .ref (h 21)) rfl dX1_staff_52 ?_
        refine lv_iload hx hb dX1_staff_55 (lv_at hl 4 rfl) ?_
        obtain ⟨g3, hM⟩ := g_some hM
        refine q_ald E hw 22 (n := 60) rfl g3 (x := (σ 21 (ix x5))) rfl dX1_staff_57 ?_
        refine lv_iconst (v := 1) hx hb dX1_staff_58 (by decide) ?_
        refine lv_icmp_ne (tgt := 90) hx hb dX1_staff_59 (by decide) (fun c4 => ?_) (fun c4 => ?_)
        · replace hM := i_neg hM c4
          refine lv_iinc (v := (x5 + (-1))) (lv' := [(5, .int (x5 + (-1))), (0, .ref (h 42)), (1, .int x1), (3, .int x3), (4, .int x4)]) hx hb dX1_staff_90 hl (k := 4) rfl rfl (by decide) rfl (fun ls hl => ?_)
          refine lv_goto (tgt := 38) hx hb dX1_staff_93 (by decide) ?_
          exact ih _ _ _ _ _ _ _ hM _ _ hw _ (lv_sub hl [1, 2, 3, 4, 0] rfl)
        · replace hM := i_pos hM c4
          refine lv_aload_n hx hb dX1_staff_62 rfl (lv_at hl 0 rfl) ?_
          refine q_get (C := RX1) (T := TX1) (N := 6) (ci := 1) E (fun w h => List.mem_cons_of_mem _ (inX1 w h)) hw 12 rfl rfl 3 (by decide) (List.mem_cons_of_mem _ tb_336) (v := .ref (h 44)) rfl dX1_staff_63 ?_
          refine q_get (C := RX7) (T := TX7) (N := 15) (ci := 7) E (fun w h => List.mem_cons_of_mem _ (inX7 w h)) hw 16 rfl rfl 4 (by decide) (List.mem_cons_of_mem _ tb_271) (v := .ref (h 20)) rfl dX1_staff_66 ?_
          refine lv_iload hx hb dX1_staff_69 (lv_at hl 4 rfl) ?_
          refine q_ald E hw 21 (n := 60) rfl g3 (x := (σ 20 (ix x5))) rfl dX1_staff_71 ?_
          refine lv_iload_n hx hb dX1_staff_72 rfl (lv_at hl 1 rfl) ?_
          refine lv_icmp_ne (tgt := 90) hx hb dX1_staff_73 (by decide) (fun c5 => ?_) (fun c5 => ?_)
          · replace hM := i_neg hM c5
            refine lv_iinc (v := (x5 + (-1))) (lv' := [(5, .int (x5 + (-1))), (0, .ref (h 42)), (1, .int x1), (3, .int x3), (4, .int x4)]) hx hb dX1_staff_90 hl (k := 4) rfl rfl (by decide) rfl (fun ls hl => ?_)
            refine lv_goto (tgt := 38) hx hb dX1_staff_93 (by decide) ?_
            exact ih _ _ _ _ _ _ _ hM _ _ hw _ (lv_sub hl [1, 2, 3, 4, 0] rfl)
          · replace hM := i_pos hM c5
            refine lv_aload_n hx hb dX1_staff_76 rfl (lv_at hl 0 rfl) ?_
            refine q_get (C := RX1) (T := TX1) (N := 6) (ci := 1) E (fun w h => List.mem_cons_of_mem _ (inX1 w h)) hw 12 rfl rfl 3 (by decide) (List.mem_cons_of_mem _ tb_336) (v := .ref (h 44)) rfl dX1_staff_77 ?_
            refine q_get (C := RX7) (T := TX7) (N := 15) (ci := 7) E (fun w h => List.mem_cons_of_mem _ (inX7 w h)) hw 16 rfl rfl 5 (by decide) (List.mem_cons_of_mem _ tb_274) (v := .ref (h 21)) rfl dX1_staff_80 ?_
            refine lv_iload hx hb dX1_staff_83 (lv_at hl 4 rfl) ?_
            refine lv_iconst (v := 0) hx hb dX1_staff_85 (by decide) ?_
            refine q_ast E hw 22 (n := 60) rfl g3 (wK cA h (up σ 21 (ix x5) 0) ++ (wLg cA h (up σ 21 (ix x5) 0) L ++ (wC cA h (up σ 21 (ix x5) 0) ++ F))) st_K_Lg_C_21 dX1_staff_86 (fun H locs hw => ?_)
            refine lv_iinc (v := (x4 + (-1))) (lv' := [(4, .int (x4 + (-1))), (0, .ref (h 42)), (1, .int x1), (3, .int x3), (5, .int x5)]) hx hb dX1_staff_87 hl (k := 3) rfl rfl (by decide) rfl (fun ls hl => ?_)
            refine lv_iinc (v := (x5 + (-1))) (lv' := [(5, .int (x5 + (-1))), (4, .int (x4 + (-1))), (0, .ref (h 42)), (1, .int x1), (3, .int x3)]) hx hb dX1_staff_90 hl (k := 4) rfl rfl (by decide) rfl (fun ls hl => ?_)
            refine lv_goto (tgt := 38) hx hb dX1_staff_93 (by decide) ?_
            exact ih _ _ _ _ _ _ _ hM _ _ hw _ (lv_sub hl [2, 3, 4, 1, 0] rfl)
def f_X1_staff (N : Nat)   (x1 : Int32) (x2 : Int32) (σ : Sg) : Option (Int32 × Sg) := if ib x1 4 then (f_X7_countAt N x1 1 (up σ 30 (ix x1) x2)).bind (fun p2 => f_X1_staff_38 N N x1 (σ 30 (ix x1)) (p2 - x2) ((σ 15 0) - 1) (up σ 30 (ix x1) x2)) else none
set_option maxRecDepth 100000 in
set_option maxHeartbeats 4000000 in
theorem c_X1_staff (l : Launch) (D : va_G) (cA : Nat → ClassId) (tS : Nat → Nat) (A : Nat → Prop) (h : Nat → Nat) (L : Nat) (F : va_W) (N : Nat) (x1 : Int32) (x2 : Int32) (σ : Sg) (r0 : Int32) (s0 : Sg) (hM : f_X1_staff N x1 x2 σ = some (r0, s0)) : Ct l yX1_staff (Cond.code yX1_staff cX1_staff 6 (some .int) :: bw) 1 24 D cA tS A [.ref (h 42), .int x1, .int x2] (wK cA h σ ++ (wLg cA h σ L ++ (wC cA h σ ++ F))) (some (.int r0)) (wK cA h s0 ++ (wLg cA h s0 L ++ (wC cA h s0 ++ F))) := by
  refine ct_of (by decide +kernel) (Nat.le_of_ble_eq_true rfl) ?_
  intro p e s m below meth c E hw ls hl
  replace E : Ev p cX1_staff 6 (some .int) RX1 (Cond.code yX1_staff cX1_staff 6 (some .int) :: bw) D cA tS A s m _ meth c := E
  replace hl : lv_has ls 6 [(0, .ref (h 42)), (1, .int x1), (2, .int x2)] := hl
  have hx := E.1.1
  have hb := E.1.2.1
  unfold f_X1_staff at hM
  refine lv_aload_n hx hb dX1_staff_0 rfl (lv_at hl 0 rfl) ?_
  refine q_get (C := RX1) (T := TX1) (N := 6) (ci := 1) E (fun w h => List.mem_cons_of_mem _ (inX1 w h)) hw 12 rfl rfl 4 (by decide) (List.mem_cons_of_mem _ tb_338) (v := .ref (h 30)) rfl dX1_staff_1 ?_
  refine lv_iload_n hx hb dX1_staff_4 rfl (lv_at hl 1 rfl) ?_
  obtain ⟨g1, hM⟩ := g_some hM
  refine q_ald E hw 31 (n := 4) rfl g1 (x := (σ 30 (ix x1))) rfl dX1_staff_5 ?_
  refine lv_istore_n (lv' := [(3, .int (σ 30 (ix x1))), (0, .ref (h 42)), (1, .int x1), (2, .int x2)]) hx hb dX1_staff_6 rfl hl (by decide) rfl (fun ls hl => ?_)
  refine lv_aload_n hx hb dX1_staff_7 rfl (lv_at hl 1 rfl) ?_
  refine q_get (C := RX1) (T := TX1) (N := 6) (ci := 1) E (fun w h => List.mem_cons_of_mem _ (inX1 w h)) hw 12 rfl rfl 4 (by decide) (List.mem_cons_of_mem _ tb_338) (v := .ref (h 30)) rfl dX1_staff_8 ?_
  refine lv_iload_n hx hb dX1_staff_11 rfl (lv_at hl 2 rfl) ?_
  refine lv_iload_n hx hb dX1_staff_12 rfl (lv_at hl 3 rfl) ?_
  refine q_ast E hw 31 (n := 4) rfl g1 (wK cA h (up σ 30 (ix x1) x2) ++ (wLg cA h (up σ 30 (ix x1) x2) L ++ (wC cA h (up σ 30 (ix x1) x2) ++ F))) st_K_Lg_C_30 dX1_staff_13 (fun H locs hw => ?_)
  refine lv_aload_n hx hb dX1_staff_14 rfl (lv_at hl 1 rfl) ?_
  refine q_get (C := RX1) (T := TX1) (N := 6) (ci := 1) E (fun w h => List.mem_cons_of_mem _ (inX1 w h)) hw 12 rfl rfl 3 (by decide) (List.mem_cons_of_mem _ tb_336) (v := .ref (h 44)) rfl dX1_staff_15 ?_
  refine lv_iload_n hx hb dX1_staff_18 rfl (lv_at hl 2 rfl) ?_
  refine lv_iconst (v := 1) hx hb dX1_staff_19 (by decide) ?_
  obtain ⟨p2, h3, hM⟩ := b_some hM
  refine q_cv (As := [.int x1, .int 1]) (rest := []) E hw hl (c_X7_countAt l D cA tS A h L F N x1 1 (up σ 30 (ix x1) x2) p2 h3) 2 (bwV bw_c tb_536 tb_537 tb_538 tb_108 tb_539) rfl (by decide +kernel) ⟨Nat.le_of_ble_eq_true rfl, Nat.le_of_ble_eq_true rfl⟩ 16 7 (T := TX7) (N := 15) rfl rfl rfl rfl (Nat.le_of_ble_eq_true rfl) ⟨Nat.zero_le _, Nat.zero_le _⟩ dX1_staff_20 (fun H locs hw => ?_)
  refine lv_iload_n hx hb dX1_staff_23 rfl (lv_at hl 3 rfl) ?_
  refine lv_isub hx hb dX1_staff_24 ?_
  refine lv_istore (lv' := [(4, .int (p2 - x2)), (3, .int (σ 30 (ix x1))), (0, .ref (h 42)), (1, .int x1), (2, .int x2)]) hx hb dX1_staff_25 hl (by decide) rfl (fun ls hl => ?_)
  refine lv_aload_n hx hb dX1_staff_27 rfl (lv_at hl 2 rfl) ?_
  refine q_get (C := RX1) (T := TX1) (N := 6) (ci := 1) E (fun w h => List.mem_cons_of_mem _ (inX1 w h)) hw 12 rfl rfl 3 (by decide) (List.mem_cons_of_mem _ tb_336) (v := .ref (h 44)) rfl dX1_staff_28 ?_
  refine q_get (C := RX7) (T := TX7) (N := 15) (ci := 7) E (fun w h => List.mem_cons_of_mem _ (inX7 w h)) hw 16 rfl rfl 14 (by decide) (List.mem_cons_of_mem _ tb_299) (v := .int (σ 15 0)) (q_fld (congrFun (up_ne σ 30 (ix x1) x2 15 (by decide)) 0) rfl) dX1_staff_31 ?_
  refine lv_iconst (v := 1) hx hb dX1_staff_34 (by decide) ?_
  refine lv_isub hx hb dX1_staff_35 ?_
  refine lv_istore (lv' := [(5, .int ((σ 15 0) - 1)), (4, .int (p2 - x2)), (3, .int (σ 30 (ix x1))), (0, .ref (h 42)), (1, .int x1), (2, .int x2)]) hx hb dX1_staff_36 hl (by decide) rfl (fun ls hl => ?_)
  exact s_X1_staff_38 l D cA tS A h L F N E N _ _ _ _ _ _ _ hM _ _ hw _ (lv_sub hl [3, 4, 2, 1, 0] rfl)
def f_X7_add    (x1 : Int32) (x2 : Int32) (x3 : Int32) (x4 : Int32) (x5 : Int32) (σ : Sg) : Option (Int32 × Sg) := if ib (σ 15 0) 60 then some ((σ 15 0), (up (up (up (up (up (up (up (up (up (up (up (up (up (up (up σ 16 (ix (σ 15 0)) x1) 17 (ix (σ 15 0)) x2) 18 (ix (σ 15 0)) x3) 19 (ix (σ 15 0)) x4) 20 (ix (σ 15 0)) 0) 21 (ix (σ 15 0)) 0) 22 (ix (σ 15 0)) 0) 23 (ix (σ 15 0)) 0) 24 (ix (σ 15 0)) 0) 25 (ix (σ 15 0)) 0) 26 (ix (σ 15 0)) (-1)) 27 (ix (σ 15 0)) x5) 28 (ix (σ 15 0)) (-1)) 29 (ix (σ 15 0)) (-1)) 15 0 ((σ 15 0) + 1))) else none
set_option maxRecDepth 100000 in
set_option maxHeartbeats 4000000 in
theorem c_X7_add (l : Launch) (D : va_G) (cA : Nat → ClassId) (tS : Nat → Nat) (A : Nat → Prop) (h : Nat → Nat) (L : Nat) (F : va_W) (x1 : Int32) (x2 : Int32) (x3 : Int32) (x4 : Int32) (x5 : Int32) (σ : Sg) (r0 : Int32) (s0 : Sg) (hM : f_X7_add x1 x2 x3 x4 x5 σ = some (r0, s0)) : Ct l yX7_add (Cond.code yX7_add cX7_add 7 (some .int) :: bw) 0 0 D cA tS A [.ref (h 44), .int x1, .int x2, .int x3, .int x4, .int x5] (wK cA h σ ++ (wLg cA h σ L ++ (wC cA h σ ++ F))) (some (.int r0)) (wK cA h s0 ++ (wLg cA h s0 L ++ (wC cA h s0 ++ F))) := by
  refine ct_of (by decide +kernel) (Nat.le_of_ble_eq_true rfl) ?_
  intro p e s m below meth c E hw ls hl
  replace E : Ev p cX7_add 7 (some .int) RX7 (Cond.code yX7_add cX7_add 7 (some .int) :: bw) D cA tS A s m _ meth c := E
  replace hl : lv_has ls 7 [(0, .ref (h 44)), (1, .int x1), (2, .int x2), (3, .int x3), (4, .int x4), (5, .int x5)] := hl
  have hx := E.1.1
  have hb := E.1.2.1
  unfold f_X7_add at hM
  refine lv_aload_n hx hb dX7_add_0 rfl (lv_at hl 0 rfl) ?_
  refine q_get (C := RX7) (T := TX7) (N := 15) (ci := 7) E (fun w h => List.mem_cons_of_mem _ (inX7 w h)) hw 16 rfl rfl 14 (by decide) (List.mem_cons_of_mem _ tb_298) (v := .int (σ 15 0)) rfl dX7_add_1 ?_
  refine lv_istore (lv' := [(6, .int (σ 15 0)), (0, .ref (h 44)), (1, .int x1), (2, .int x2), (3, .int x3), (4, .int x4), (5, .int x5)]) hx hb dX7_add_4 hl (by decide) rfl (fun ls hl => ?_)
  refine lv_aload_n hx hb dX7_add_6 rfl (lv_at hl 1 rfl) ?_
  refine q_get (C := RX7) (T := TX7) (N := 15) (ci := 7) E (fun w h => List.mem_cons_of_mem _ (inX7 w h)) hw 16 rfl rfl 0 (by decide) (List.mem_cons_of_mem _ tb_262) (v := .ref (h 16)) rfl dX7_add_7 ?_
  refine lv_iload hx hb dX7_add_10 (lv_at hl 0 rfl) ?_
  refine lv_iload_n hx hb dX7_add_12 rfl (lv_at hl 2 rfl) ?_
  obtain ⟨g1, hM⟩ := g_some hM
  refine q_ast E hw 17 (n := 60) rfl g1 (wK cA h (up σ 16 (ix (σ 15 0)) x1) ++ (wLg cA h (up σ 16 (ix (σ 15 0)) x1) L ++ (wC cA h (up σ 16 (ix (σ 15 0)) x1) ++ F))) st_K_Lg_C_16 dX7_add_13 (fun H locs hw => ?_)
  refine lv_aload_n hx hb dX7_add_14 rfl (lv_at hl 1 rfl) ?_
  refine q_get (C := RX7) (T := TX7) (N := 15) (ci := 7) E (fun w h => List.mem_cons_of_mem _ (inX7 w h)) hw 16 rfl rfl 1 (by decide) (List.mem_cons_of_mem _ tb_265) (v := .ref (h 17)) rfl dX7_add_15 ?_
  refine lv_iload hx hb dX7_add_18 (lv_at hl 0 rfl) ?_
  refine lv_iload_n hx hb dX7_add_20 rfl (lv_at hl 3 rfl) ?_
  refine q_ast E hw 18 (n := 60) rfl g1 (wK cA h (up (up σ 16 (ix (σ 15 0)) x1) 17 (ix (σ 15 0)) x2) ++ (wLg cA h (up (up σ 16 (ix (σ 15 0)) x1) 17 (ix (σ 15 0)) x2) L ++ (wC cA h (up (up σ 16 (ix (σ 15 0)) x1) 17 (ix (σ 15 0)) x2) ++ F))) st_K_Lg_C_17 dX7_add_21 (fun H locs hw => ?_)
  refine lv_aload_n hx hb dX7_add_22 rfl (lv_at hl 1 rfl) ?_
  refine q_get (C := RX7) (T := TX7) (N := 15) (ci := 7) E (fun w h => List.mem_cons_of_mem _ (inX7 w h)) hw 16 rfl rfl 2 (by decide) (List.mem_cons_of_mem _ tb_266) (v := .ref (h 18)) rfl dX7_add_23 ?_
  refine lv_iload hx hb dX7_add_26 (lv_at hl 0 rfl) ?_
  refine lv_iload_n hx hb dX7_add_28 rfl (lv_at hl 4 rfl) ?_
  refine q_ast E hw 19 (n := 60) rfl g1 (wK cA h (up (up (up σ 16 (ix (σ 15 0)) x1) 17 (ix (σ 15 0)) x2) 18 (ix (σ 15 0)) x3) ++ (wLg cA h (up (up (up σ 16 (ix (σ 15 0)) x1) 17 (ix (σ 15 0)) x2) 18 (ix (σ 15 0)) x3) L ++ (wC cA h (up (up (up σ 16 (ix (σ 15 0)) x1) 17 (ix (σ 15 0)) x2) 18 (ix (σ 15 0)) x3) ++ F))) st_K_Lg_C_18 dX7_add_29 (fun H locs hw => ?_)
  refine lv_aload_n hx hb dX7_add_30 rfl (lv_at hl 1 rfl) ?_
  refine q_get (C := RX7) (T := TX7) (N := 15) (ci := 7) E (fun w h => List.mem_cons_of_mem _ (inX7 w h)) hw 16 rfl rfl 3 (by decide) (List.mem_cons_of_mem _ tb_267) (v := .ref (h 19)) rfl dX7_add_31 ?_
  refine lv_iload hx hb dX7_add_34 (lv_at hl 0 rfl) ?_
  refine lv_iload hx hb dX7_add_36 (lv_at hl 5 rfl) ?_
  refine q_ast E hw 20 (n := 60) rfl g1 (wK cA h (up (up (up (up σ 16 (ix (σ 15 0)) x1) 17 (ix (σ 15 0)) x2) 18 (ix (σ 15 0)) x3) 19 (ix (σ 15 0)) x4) ++ (wLg cA h (up (up (up (up σ 16 (ix (σ 15 0)) x1) 17 (ix (σ 15 0)) x2) 18 (ix (σ 15 0)) x3) 19 (ix (σ 15 0)) x4) L ++ (wC cA h (up (up (up (up σ 16 (ix (σ 15 0)) x1) 17 (ix (σ 15 0)) x2) 18 (ix (σ 15 0)) x3) 19 (ix (σ 15 0)) x4) ++ F))) st_K_Lg_C_19 dX7_add_38 (fun H locs hw => ?_)
  refine lv_aload_n hx hb dX7_add_39 rfl (lv_at hl 1 rfl) ?_
  refine q_get (C := RX7) (T := TX7) (N := 15) (ci := 7) E (fun w h => List.mem_cons_of_mem _ (inX7 w h)) hw 16 rfl rfl 4 (by decide) (List.mem_cons_of_mem _ tb_270) (v := .ref (h 20)) rfl dX7_add_40 ?_
  refine lv_iload hx hb dX7_add_43 (lv_at hl 0 rfl) ?_
  refine lv_iconst (v := 0) hx hb dX7_add_45 (by decide) ?_
  refine q_ast E hw 21 (n := 60) rfl g1 (wK cA h (up (up (up (up (up σ 16 (ix (σ 15 0)) x1) 17 (ix (σ 15 0)) x2) 18 (ix (σ 15 0)) x3) 19 (ix (σ 15 0)) x4) 20 (ix (σ 15 0)) 0) ++ (wLg cA h (up (up (up (up (up σ 16 (ix (σ 15 0)) x1) 17 (ix (σ 15 0)) x2) 18 (ix (σ 15 0)) x3) 19 (ix (σ 15 0)) x4) 20 (ix (σ 15 0)) 0) L ++ (wC cA h (up (up (up (up (up σ 16 (ix (σ 15 0)) x1) 17 (ix (σ 15 0)) x2) 18 (ix (σ 15 0)) x3) 19 (ix (σ 15 0)) x4) 20 (ix (σ 15 0)) 0) ++ F))) st_K_Lg_C_20 dX7_add_46 (fun H locs hw => ?_)
  refine lv_aload_n hx hb dX7_add_47 rfl (lv_at hl 1 rfl) ?_
  refine q_get (C := RX7) (T := TX7) (N := 15) (ci := 7) E (fun w h => List.mem_cons_of_mem _ (inX7 w h)) hw 16 rfl rfl 5 (by decide) (List.mem_cons_of_mem _ tb_273) (v := .ref (h 21)) rfl dX7_add_48 ?_
  refine lv_iload hx hb dX7_add_51 (lv_at hl 0 rfl) ?_
  refine lv_iconst (v := 0) hx hb dX7_add_53 (by decide) ?_
  refine q_ast E hw 22 (n := 60) rfl g1 (wK cA h (up (up (up (up (up (up σ 16 (ix (σ 15 0)) x1) 17 (ix (σ 15 0)) x2) 18 (ix (σ 15 0)) x3) 19 (ix (σ 15 0)) x4) 20 (ix (σ 15 0)) 0) 21 (ix (σ 15 0)) 0) ++ (wLg cA h (up (up (up (up (up (up σ 16 (ix (σ 15 0)) x1) 17 (ix (σ 15 0)) x2) 18 (ix (σ 15 0)) x3) 19 (ix (σ 15 0)) x4) 20 (ix (σ 15 0)) 0) 21 (ix (σ 15 0)) 0) L ++ (wC cA h (up (up (up (up (up (up σ 16 (ix (σ 15 0)) x1) 17 (ix (σ 15 0)) x2) 18 (ix (σ 15 0)) x3) 19 (ix (σ 15 0)) x4) 20 (ix (σ 15 0)) 0) 21 (ix (σ 15 0)) 0) ++ F))) st_K_Lg_C_21 dX7_add_54 (fun H locs hw => ?_)
  refine lv_aload_n hx hb dX7_add_55 rfl (lv_at hl 1 rfl) ?_
  refine q_get (C := RX7) (T := TX7) (N := 15) (ci := 7) E (fun w h => List.mem_cons_of_mem _ (inX7 w h)) hw 16 rfl rfl 6 (by decide) (List.mem_cons_of_mem _ tb_276) (v := .ref (h 22)) rfl dX7_add_56 ?_
  refine lv_iload hx hb dX7_add_59 (lv_at hl 0 rfl) ?_
  refine lv_iconst (v := 0) hx hb dX7_add_61 (by decide) ?_
  refine q_ast E hw 23 (n := 60) rfl g1 (wK cA h (up (up (up (up (up (up (up σ 16 (ix (σ 15 0)) x1) 17 (ix (σ 15 0)) x2) 18 (ix (σ 15 0)) x3) 19 (ix (σ 15 0)) x4) 20 (ix (σ 15 0)) 0) 21 (ix (σ 15 0)) 0) 22 (ix (σ 15 0)) 0) ++ (wLg cA h (up (up (up (up (up (up (up σ 16 (ix (σ 15 0)) x1) 17 (ix (σ 15 0)) x2) 18 (ix (σ 15 0)) x3) 19 (ix (σ 15 0)) x4) 20 (ix (σ 15 0)) 0) 21 (ix (σ 15 0)) 0) 22 (ix (σ 15 0)) 0) L ++ (wC cA h (up (up (up (up (up (up (up σ 16 (ix (σ 15 0)) x1) 17 (ix (σ 15 0)) x2) 18 (ix (σ 15 0)) x3) 19 (ix (σ 15 0)) x4) 20 (ix (σ 15 0)) 0) 21 (ix (σ 15 0)) 0) 22 (ix (σ 15 0)) 0) ++ F))) st_K_Lg_C_22 dX7_add_62 (fun H locs hw => ?_)
  refine lv_aload_n hx hb dX7_add_63 rfl (lv_at hl 1 rfl) ?_
  refine q_get (C := RX7) (T := TX7) (N := 15) (ci := 7) E (fun w h => List.mem_cons_of_mem _ (inX7 w h)) hw 16 rfl rfl 7 (by decide) (List.mem_cons_of_mem _ tb_279) (v := .ref (h 23)) rfl dX7_add_64 ?_
  refine lv_iload hx hb dX7_add_67 (lv_at hl 0 rfl) ?_
  refine lv_iconst (v := 0) hx hb dX7_add_69 (by decide) ?_
  refine q_ast E hw 24 (n := 60) rfl g1 (wK cA h (up (up (up (up (up (up (up (up σ 16 (ix (σ 15 0)) x1) 17 (ix (σ 15 0)) x2) 18 (ix (σ 15 0)) x3) 19 (ix (σ 15 0)) x4) 20 (ix (σ 15 0)) 0) 21 (ix (σ 15 0)) 0) 22 (ix (σ 15 0)) 0) 23 (ix (σ 15 0)) 0) ++ (wLg cA h (up (up (up (up (up (up (up (up σ 16 (ix (σ 15 0)) x1) 17 (ix (σ 15 0)) x2) 18 (ix (σ 15 0)) x3) 19 (ix (σ 15 0)) x4) 20 (ix (σ 15 0)) 0) 21 (ix (σ 15 0)) 0) 22 (ix (σ 15 0)) 0) 23 (ix (σ 15 0)) 0) L ++ (wC cA h (up (up (up (up (up (up (up (up σ 16 (ix (σ 15 0)) x1) 17 (ix (σ 15 0)) x2) 18 (ix (σ 15 0)) x3) 19 (ix (σ 15 0)) x4) 20 (ix (σ 15 0)) 0) 21 (ix (σ 15 0)) 0) 22 (ix (σ 15 0)) 0) 23 (ix (σ 15 0)) 0) ++ F))) st_K_Lg_C_23 dX7_add_70 (fun H locs hw => ?_)
  refine lv_aload_n hx hb dX7_add_71 rfl (lv_at hl 1 rfl) ?_
  refine q_get (C := RX7) (T := TX7) (N := 15) (ci := 7) E (fun w h => List.mem_cons_of_mem _ (inX7 w h)) hw 16 rfl rfl 8 (by decide) (List.mem_cons_of_mem _ tb_281) (v := .ref (h 24)) rfl dX7_add_72 ?_
  refine lv_iload hx hb dX7_add_75 (lv_at hl 0 rfl) ?_
  refine lv_iconst (v := 0) hx hb dX7_add_77 (by decide) ?_
  refine q_ast E hw 25 (n := 60) rfl g1 (wK cA h (up (up (up (up (up (up (up (up (up σ 16 (ix (σ 15 0)) x1) 17 (ix (σ 15 0)) x2) 18 (ix (σ 15 0)) x3) 19 (ix (σ 15 0)) x4) 20 (ix (σ 15 0)) 0) 21 (ix (σ 15 0)) 0) 22 (ix (σ 15 0)) 0) 23 (ix (σ 15 0)) 0) 24 (ix (σ 15 0)) 0) ++ (wLg cA h (up (up (up (up (up (up (up (up (up σ 16 (ix (σ 15 0)) x1) 17 (ix (σ 15 0)) x2) 18 (ix (σ 15 0)) x3) 19 (ix (σ 15 0)) x4) 20 (ix (σ 15 0)) 0) 21 (ix (σ 15 0)) 0) 22 (ix (σ 15 0)) 0) 23 (ix (σ 15 0)) 0) 24 (ix (σ 15 0)) 0) L ++ (wC cA h (up (up (up (up (up (up (up (up (up σ 16 (ix (σ 15 0)) x1) 17 (ix (σ 15 0)) x2) 18 (ix (σ 15 0)) x3) 19 (ix (σ 15 0)) x4) 20 (ix (σ 15 0)) 0) 21 (ix (σ 15 0)) 0) 22 (ix (σ 15 0)) 0) 23 (ix (σ 15 0)) 0) 24 (ix (σ 15 0)) 0) ++ F))) st_K_Lg_C_24 dX7_add_78 (fun H locs hw => ?_)
  refine lv_aload_n hx hb dX7_add_79 rfl (lv_at hl 1 rfl) ?_
  refine q_get (C := RX7) (T := TX7) (N := 15) (ci := 7) E (fun w h => List.mem_cons_of_mem _ (inX7 w h)) hw 16 rfl rfl 9 (by decide) (List.mem_cons_of_mem _ tb_284) (v := .ref (h 25)) rfl dX7_add_80 ?_
  refine lv_iload hx hb dX7_add_83 (lv_at hl 0 rfl) ?_
  refine lv_iconst (v := 0) hx hb dX7_add_85 (by decide) ?_
  refine q_ast E hw 26 (n := 60) rfl g1 (wK cA h (up (up (up (up (up (up (up (up (up (up σ 16 (ix (σ 15 0)) x1) 17 (ix (σ 15 0)) x2) 18 (ix (σ 15 0)) x3) 19 (ix (σ 15 0)) x4) 20 (ix (σ 15 0)) 0) 21 (ix (σ 15 0)) 0) 22 (ix (σ 15 0)) 0) 23 (ix (σ 15 0)) 0) 24 (ix (σ 15 0)) 0) 25 (ix (σ 15 0)) 0) ++ (wLg cA h (up (up (up (up (up (up (up (up (up (up σ 16 (ix (σ 15 0)) x1) 17 (ix (σ 15 0)) x2) 18 (ix (σ 15 0)) x3) 19 (ix (σ 15 0)) x4) 20 (ix (σ 15 0)) 0) 21 (ix (σ 15 0)) 0) 22 (ix (σ 15 0)) 0) 23 (ix (σ 15 0)) 0) 24 (ix (σ 15 0)) 0) 25 (ix (σ 15 0)) 0) L ++ (wC cA h (up (up (up (up (up (up (up (up (up (up σ 16 (ix (σ 15 0)) x1) 17 (ix (σ 15 0)) x2) 18 (ix (σ 15 0)) x3) 19 (ix (σ 15 0)) x4) 20 (ix (σ 15 0)) 0) 21 (ix (σ 15 0)) 0) 22 (ix (σ 15 0)) 0) 23 (ix (σ 15 0)) 0) 24 (ix (σ 15 0)) 0) 25 (ix (σ 15 0)) 0) ++ F))) st_K_Lg_C_25 dX7_add_86 (fun H locs hw => ?_)
  refine lv_aload_n hx hb dX7_add_87 rfl (lv_at hl 1 rfl) ?_
  refine q_get (C := RX7) (T := TX7) (N := 15) (ci := 7) E (fun w h => List.mem_cons_of_mem _ (inX7 w h)) hw 16 rfl rfl 10 (by decide) (List.mem_cons_of_mem _ tb_287) (v := .ref (h 26)) rfl dX7_add_88 ?_
  refine lv_iload hx hb dX7_add_91 (lv_at hl 0 rfl) ?_
  refine lv_iconst (v := (-1)) hx hb dX7_add_93 (by decide) ?_
  refine q_ast E hw 27 (n := 60) rfl g1 (wK cA h (up (up (up (up (up (up (up (up (up (up (up σ 16 (ix (σ 15 0)) x1) 17 (ix (σ 15 0)) x2) 18 (ix (σ 15 0)) x3) 19 (ix (σ 15 0)) x4) 20 (ix (σ 15 0)) 0) 21 (ix (σ 15 0)) 0) 22 (ix (σ 15 0)) 0) 23 (ix (σ 15 0)) 0) 24 (ix (σ 15 0)) 0) 25 (ix (σ 15 0)) 0) 26 (ix (σ 15 0)) (-1)) ++ (wLg cA h (up (up (up (up (up (up (up (up (up (up (up σ 16 (ix (σ 15 0)) x1) 17 (ix (σ 15 0)) x2) 18 (ix (σ 15 0)) x3) 19 (ix (σ 15 0)) x4) 20 (ix (σ 15 0)) 0) 21 (ix (σ 15 0)) 0) 22 (ix (σ 15 0)) 0) 23 (ix (σ 15 0)) 0) 24 (ix (σ 15 0)) 0) 25 (ix (σ 15 0)) 0) 26 (ix (σ 15 0)) (-1)) L ++ (wC cA h (up (up (up (up (up (up (up (up (up (up (up σ 16 (ix (σ 15 0)) x1) 17 (ix (σ 15 0)) x2) 18 (ix (σ 15 0)) x3) 19 (ix (σ 15 0)) x4) 20 (ix (σ 15 0)) 0) 21 (ix (σ 15 0)) 0) 22 (ix (σ 15 0)) 0) 23 (ix (σ 15 0)) 0) 24 (ix (σ 15 0)) 0) 25 (ix (σ 15 0)) 0) 26 (ix (σ 15 0)) (-1)) ++ F))) st_K_Lg_C_26 dX7_add_94 (fun H locs hw => ?_)
  refine lv_aload_n hx hb dX7_add_95 rfl (lv_at hl 1 rfl) ?_
  refine q_get (C := RX7) (T := TX7) (N := 15) (ci := 7) E (fun w h => List.mem_cons_of_mem _ (inX7 w h)) hw 16 rfl rfl 11 (by decide) (List.mem_cons_of_mem _ tb_290) (v := .ref (h 27)) rfl dX7_add_96 ?_
  refine lv_iload hx hb dX7_add_99 (lv_at hl 0 rfl) ?_
  refine lv_iload hx hb dX7_add_101 (lv_at hl 6 rfl) ?_
  refine q_ast E hw 28 (n := 60) rfl g1 (wK cA h (up (up (up (up (up (up (up (up (up (up (up (up σ 16 (ix (σ 15 0)) x1) 17 (ix (σ 15 0)) x2) 18 (ix (σ 15 0)) x3) 19 (ix (σ 15 0)) x4) 20 (ix (σ 15 0)) 0) 21 (ix (σ 15 0)) 0) 22 (ix (σ 15 0)) 0) 23 (ix (σ 15 0)) 0) 24 (ix (σ 15 0)) 0) 25 (ix (σ 15 0)) 0) 26 (ix (σ 15 0)) (-1)) 27 (ix (σ 15 0)) x5) ++ (wLg cA h (up (up (up (up (up (up (up (up (up (up (up (up σ 16 (ix (σ 15 0)) x1) 17 (ix (σ 15 0)) x2) 18 (ix (σ 15 0)) x3) 19 (ix (σ 15 0)) x4) 20 (ix (σ 15 0)) 0) 21 (ix (σ 15 0)) 0) 22 (ix (σ 15 0)) 0) 23 (ix (σ 15 0)) 0) 24 (ix (σ 15 0)) 0) 25 (ix (σ 15 0)) 0) 26 (ix (σ 15 0)) (-1)) 27 (ix (σ 15 0)) x5) L ++ (wC cA h (up (up (up (up (up (up (up (up (up (up (up (up σ 16 (ix (σ 15 0)) x1) 17 (ix (σ 15 0)) x2) 18 (ix (σ 15 0)) x3) 19 (ix (σ 15 0)) x4) 20 (ix (σ 15 0)) 0) 21 (ix (σ 15 0)) 0) 22 (ix (σ 15 0)) 0) 23 (ix (σ 15 0)) 0) 24 (ix (σ 15 0)) 0) 25 (ix (σ 15 0)) 0) 26 (ix (σ 15 0)) (-1)) 27 (ix (σ 15 0)) x5) ++ F))) st_K_Lg_C_27 dX7_add_103 (fun H locs hw => ?_)
  refine lv_aload_n hx hb dX7_add_104 rfl (lv_at hl 1 rfl) ?_
  refine q_get (C := RX7) (T := TX7) (N := 15) (ci := 7) E (fun w h => List.mem_cons_of_mem _ (inX7 w h)) hw 16 rfl rfl 12 (by decide) (List.mem_cons_of_mem _ tb_292) (v := .ref (h 28)) rfl dX7_add_105 ?_
  refine lv_iload hx hb dX7_add_108 (lv_at hl 0 rfl) ?_
  refine lv_iconst (v := (-1)) hx hb dX7_add_110 (by decide) ?_
  refine q_ast E hw 29 (n := 60) rfl g1 (wK cA h (up (up (up (up (up (up (up (up (up (up (up (up (up σ 16 (ix (σ 15 0)) x1) 17 (ix (σ 15 0)) x2) 18 (ix (σ 15 0)) x3) 19 (ix (σ 15 0)) x4) 20 (ix (σ 15 0)) 0) 21 (ix (σ 15 0)) 0) 22 (ix (σ 15 0)) 0) 23 (ix (σ 15 0)) 0) 24 (ix (σ 15 0)) 0) 25 (ix (σ 15 0)) 0) 26 (ix (σ 15 0)) (-1)) 27 (ix (σ 15 0)) x5) 28 (ix (σ 15 0)) (-1)) ++ (wLg cA h (up (up (up (up (up (up (up (up (up (up (up (up (up σ 16 (ix (σ 15 0)) x1) 17 (ix (σ 15 0)) x2) 18 (ix (σ 15 0)) x3) 19 (ix (σ 15 0)) x4) 20 (ix (σ 15 0)) 0) 21 (ix (σ 15 0)) 0) 22 (ix (σ 15 0)) 0) 23 (ix (σ 15 0)) 0) 24 (ix (σ 15 0)) 0) 25 (ix (σ 15 0)) 0) 26 (ix (σ 15 0)) (-1)) 27 (ix (σ 15 0)) x5) 28 (ix (σ 15 0)) (-1)) L ++ (wC cA h (up (up (up (up (up (up (up (up (up (up (up (up (up σ 16 (ix (σ 15 0)) x1) 17 (ix (σ 15 0)) x2) 18 (ix (σ 15 0)) x3) 19 (ix (σ 15 0)) x4) 20 (ix (σ 15 0)) 0) 21 (ix (σ 15 0)) 0) 22 (ix (σ 15 0)) 0) 23 (ix (σ 15 0)) 0) 24 (ix (σ 15 0)) 0) 25 (ix (σ 15 0)) 0) 26 (ix (σ 15 0)) (-1)) 27 (ix (σ 15 0)) x5) 28 (ix (σ 15 0)) (-1)) ++ F))) st_K_Lg_C_28 dX7_add_111 (fun H locs hw => ?_)
  refine lv_aload_n hx hb dX7_add_112 rfl (lv_at hl 1 rfl) ?_
  refine q_get (C := RX7) (T := TX7) (N := 15) (ci := 7) E (fun w h => List.mem_cons_of_mem _ (inX7 w h)) hw 16 rfl rfl 13 (by decide) (List.mem_cons_of_mem _ tb_295) (v := .ref (h 29)) rfl dX7_add_113 ?_
  refine lv_iload hx hb dX7_add_116 (lv_at hl 0 rfl) ?_
  refine lv_iconst (v := (-1)) hx hb dX7_add_118 (by decide) ?_
  refine q_ast E hw 30 (n := 60) rfl g1 (wK cA h (up (up (up (up (up (up (up (up (up (up (up (up (up (up σ 16 (ix (σ 15 0)) x1) 17 (ix (σ 15 0)) x2) 18 (ix (σ 15 0)) x3) 19 (ix (σ 15 0)) x4) 20 (ix (σ 15 0)) 0) 21 (ix (σ 15 0)) 0) 22 (ix (σ 15 0)) 0) 23 (ix (σ 15 0)) 0) 24 (ix (σ 15 0)) 0) 25 (ix (σ 15 0)) 0) 26 (ix (σ 15 0)) (-1)) 27 (ix (σ 15 0)) x5) 28 (ix (σ 15 0)) (-1)) 29 (ix (σ 15 0)) (-1)) ++ (wLg cA h (up (up (up (up (up (up (up (up (up (up (up (up (up (up σ 16 (ix (σ 15 0)) x1) 17 (ix (σ 15 0)) x2) 18 (ix (σ 15 0)) x3) 19 (ix (σ 15 0)) x4) 20 (ix (σ 15 0)) 0) 21 (ix (σ 15 0)) 0) 22 (ix (σ 15 0)) 0) 23 (ix (σ 15 0)) 0) 24 (ix (σ 15 0)) 0) 25 (ix (σ 15 0)) 0) 26 (ix (σ 15 0)) (-1)) 27 (ix (σ 15 0)) x5) 28 (ix (σ 15 0)) (-1)) 29 (ix (σ 15 0)) (-1)) L ++ (wC cA h (up (up (up (up (up (up (up (up (up (up (up (up (up (up σ 16 (ix (σ 15 0)) x1) 17 (ix (σ 15 0)) x2) 18 (ix (σ 15 0)) x3) 19 (ix (σ 15 0)) x4) 20 (ix (σ 15 0)) 0) 21 (ix (σ 15 0)) 0) 22 (ix (σ 15 0)) 0) 23 (ix (σ 15 0)) 0) 24 (ix (σ 15 0)) 0) 25 (ix (σ 15 0)) 0) 26 (ix (σ 15 0)) (-1)) 27 (ix (σ 15 0)) x5) 28 (ix (σ 15 0)) (-1)) 29 (ix (σ 15 0)) (-1)) ++ F))) st_K_Lg_C_29 dX7_add_119 (fun H locs hw => ?_)
  refine lv_aload_n hx hb dX7_add_120 rfl (lv_at hl 1 rfl) ?_
  refine lv_dup hx hb dX7_add_121 rfl ?_
  refine q_get (C := RX7) (T := TX7) (N := 15) (ci := 7) E (fun w h => List.mem_cons_of_mem _ (inX7 w h)) hw 16 rfl rfl 14 (by decide) (List.mem_cons_of_mem _ tb_298) (v := .int (σ 15 0)) (q_fld (congrFun ((((((((((((((up_ne (up (up (up (up (up (up (up (up (up (up (up (up (up σ 16 (ix (σ 15 0)) x1) 17 (ix (σ 15 0)) x2) 18 (ix (σ 15 0)) x3) 19 (ix (σ 15 0)) x4) 20 (ix (σ 15 0)) 0) 21 (ix (σ 15 0)) 0) 22 (ix (σ 15 0)) 0) 23 (ix (σ 15 0)) 0) 24 (ix (σ 15 0)) 0) 25 (ix (σ 15 0)) 0) 26 (ix (σ 15 0)) (-1)) 27 (ix (σ 15 0)) x5) 28 (ix (σ 15 0)) (-1)) 29 (ix (σ 15 0)) (-1) 15 (by decide)).trans (up_ne (up (up (up (up (up (up (up (up (up (up (up (up σ 16 (ix (σ 15 0)) x1) 17 (ix (σ 15 0)) x2) 18 (ix (σ 15 0)) x3) 19 (ix (σ 15 0)) x4) 20 (ix (σ 15 0)) 0) 21 (ix (σ 15 0)) 0) 22 (ix (σ 15 0)) 0) 23 (ix (σ 15 0)) 0) 24 (ix (σ 15 0)) 0) 25 (ix (σ 15 0)) 0) 26 (ix (σ 15 0)) (-1)) 27 (ix (σ 15 0)) x5) 28 (ix (σ 15 0)) (-1) 15 (by decide))).trans (up_ne (up (up (up (up (up (up (up (up (up (up (up σ 16 (ix (σ 15 0)) x1) 17 (ix (σ 15 0)) x2) 18 (ix (σ 15 0)) x3) 19 (ix (σ 15 0)) x4) 20 (ix (σ 15 0)) 0) 21 (ix (σ 15 0)) 0) 22 (ix (σ 15 0)) 0) 23 (ix (σ 15 0)) 0) 24 (ix (σ 15 0)) 0) 25 (ix (σ 15 0)) 0) 26 (ix (σ 15 0)) (-1)) 27 (ix (σ 15 0)) x5 15 (by decide))).trans (up_ne (up (up (up (up (up (up (up (up (up (up σ 16 (ix (σ 15 0)) x1) 17 (ix (σ 15 0)) x2) 18 (ix (σ 15 0)) x3) 19 (ix (σ 15 0)) x4) 20 (ix (σ 15 0)) 0) 21 (ix (σ 15 0)) 0) 22 (ix (σ 15 0)) 0) 23 (ix (σ 15 0)) 0) 24 (ix (σ 15 0)) 0) 25 (ix (σ 15 0)) 0) 26 (ix (σ 15 0)) (-1) 15 (by decide))).trans (up_ne (up (up (up (up (up (up (up (up (up σ 16 (ix (σ 15 0)) x1) 17 (ix (σ 15 0)) x2) 18 (ix (σ 15 0)) x3) 19 (ix (σ 15 0)) x4) 20 (ix (σ 15 0)) 0) 21 (ix (σ 15 0)) 0) 22 (ix (σ 15 0)) 0) 23 (ix (σ 15 0)) 0) 24 (ix (σ 15 0)) 0) 25 (ix (σ 15 0)) 0 15 (by decide))).trans (up_ne (up (up (up (up (up (up (up (up σ 16 (ix (σ 15 0)) x1) 17 (ix (σ 15 0)) x2) 18 (ix (σ 15 0)) x3) 19 (ix (σ 15 0)) x4) 20 (ix (σ 15 0)) 0) 21 (ix (σ 15 0)) 0) 22 (ix (σ 15 0)) 0) 23 (ix (σ 15 0)) 0) 24 (ix (σ 15 0)) 0 15 (by decide))).trans (up_ne (up (up (up (up (up (up (up σ 16 (ix (σ 15 0)) x1) 17 (ix (σ 15 0)) x2) 18 (ix (σ 15 0)) x3) 19 (ix (σ 15 0)) x4) 20 (ix (σ 15 0)) 0) 21 (ix (σ 15 0)) 0) 22 (ix (σ 15 0)) 0) 23 (ix (σ 15 0)) 0 15 (by decide))).trans (up_ne (up (up (up (up (up (up σ 16 (ix (σ 15 0)) x1) 17 (ix (σ 15 0)) x2) 18 (ix (σ 15 0)) x3) 19 (ix (σ 15 0)) x4) 20 (ix (σ 15 0)) 0) 21 (ix (σ 15 0)) 0) 22 (ix (σ 15 0)) 0 15 (by decide))).trans (up_ne (up (up (up (up (up σ 16 (ix (σ 15 0)) x1) 17 (ix (σ 15 0)) x2) 18 (ix (σ 15 0)) x3) 19 (ix (σ 15 0)) x4) 20 (ix (σ 15 0)) 0) 21 (ix (σ 15 0)) 0 15 (by decide))).trans (up_ne (up (up (up (up σ 16 (ix (σ 15 0)) x1) 17 (ix (σ 15 0)) x2) 18 (ix (σ 15 0)) x3) 19 (ix (σ 15 0)) x4) 20 (ix (σ 15 0)) 0 15 (by decide))).trans (up_ne (up (up (up σ 16 (ix (σ 15 0)) x1) 17 (ix (σ 15 0)) x2) 18 (ix (σ 15 0)) x3) 19 (ix (σ 15 0)) x4 15 (by decide))).trans (up_ne (up (up σ 16 (ix (σ 15 0)) x1) 17 (ix (σ 15 0)) x2) 18 (ix (σ 15 0)) x3 15 (by decide))).trans (up_ne (up σ 16 (ix (σ 15 0)) x1) 17 (ix (σ 15 0)) x2 15 (by decide))).trans (up_ne σ 16 (ix (σ 15 0)) x1 15 (by decide))) 0) rfl) dX7_add_122 ?_
  refine lv_iconst (v := 1) hx hb dX7_add_125 (by decide) ?_
  refine lv_iadd hx hb dX7_add_126 ?_
  refine q_puti (C := RX7) (T := TX7) (N := 15) (ci := 7) E (fun w h => List.mem_cons_of_mem _ (inX7 w h)) tyX7 tyX7_ok nmX7 hw 16 rfl rfl 14 (by decide) (List.mem_cons_of_mem _ tb_298) rfl rfl (Nat.le_of_ble_eq_true rfl) (wK cA h (up (up (up (up (up (up (up (up (up (up (up (up (up (up (up σ 16 (ix (σ 15 0)) x1) 17 (ix (σ 15 0)) x2) 18 (ix (σ 15 0)) x3) 19 (ix (σ 15 0)) x4) 20 (ix (σ 15 0)) 0) 21 (ix (σ 15 0)) 0) 22 (ix (σ 15 0)) 0) 23 (ix (σ 15 0)) 0) 24 (ix (σ 15 0)) 0) 25 (ix (σ 15 0)) 0) 26 (ix (σ 15 0)) (-1)) 27 (ix (σ 15 0)) x5) 28 (ix (σ 15 0)) (-1)) 29 (ix (σ 15 0)) (-1)) 15 0 ((σ 15 0) + 1)) ++ (wLg cA h (up (up (up (up (up (up (up (up (up (up (up (up (up (up (up σ 16 (ix (σ 15 0)) x1) 17 (ix (σ 15 0)) x2) 18 (ix (σ 15 0)) x3) 19 (ix (σ 15 0)) x4) 20 (ix (σ 15 0)) 0) 21 (ix (σ 15 0)) 0) 22 (ix (σ 15 0)) 0) 23 (ix (σ 15 0)) 0) 24 (ix (σ 15 0)) 0) 25 (ix (σ 15 0)) 0) 26 (ix (σ 15 0)) (-1)) 27 (ix (σ 15 0)) x5) 28 (ix (σ 15 0)) (-1)) 29 (ix (σ 15 0)) (-1)) 15 0 ((σ 15 0) + 1)) L ++ (wC cA h (up (up (up (up (up (up (up (up (up (up (up (up (up (up (up σ 16 (ix (σ 15 0)) x1) 17 (ix (σ 15 0)) x2) 18 (ix (σ 15 0)) x3) 19 (ix (σ 15 0)) x4) 20 (ix (σ 15 0)) 0) 21 (ix (σ 15 0)) 0) 22 (ix (σ 15 0)) 0) 23 (ix (σ 15 0)) 0) 24 (ix (σ 15 0)) 0) 25 (ix (σ 15 0)) 0) 26 (ix (σ 15 0)) (-1)) 27 (ix (σ 15 0)) x5) 28 (ix (σ 15 0)) (-1)) 29 (ix (σ 15 0)) (-1)) 15 0 ((σ 15 0) + 1)) ++ F))) st_K_Lg_C_15 dX7_add_127 (fun H locs hw => ?_)
  refine lv_iload hx hb dX7_add_130 (lv_at hl 0 rfl) ?_
  cases hM
  exact q_reti E hw dX7_add_132
def f_X4_write  (L : Nat)  (x1 : Int32) (x2 : Int32) (x3 : Int32) (x4 : Int32) (σ : Sg) : Option (Sg) := (if (σ 7 0) < (Int32.ofNat L) then if ib (σ 7 0) L then some (up (up (up (up (up σ 8 (ix (σ 7 0)) x1) 9 (ix (σ 7 0)) x2) 10 (ix (σ 7 0)) x3) 11 (ix (σ 7 0)) x4) 7 0 ((σ 7 0) + 1)) else none else some σ)
set_option maxRecDepth 100000 in
set_option maxHeartbeats 4000000 in
theorem c_X4_write (l : Launch) (D : va_G) (cA : Nat → ClassId) (tS : Nat → Nat) (A : Nat → Prop) (h : Nat → Nat) (L : Nat) (F : va_W) (x1 : Int32) (x2 : Int32) (x3 : Int32) (x4 : Int32) (σ : Sg) (s0 : Sg) (hM : f_X4_write L x1 x2 x3 x4 σ = some s0) : Ct l yX4_write (Cond.code yX4_write cX4_write 5 none :: bw) 0 0 D cA tS A [.ref (h 41), .int x1, .int x2, .int x3, .int x4] (wK cA h σ ++ (wLg cA h σ L ++ (wC cA h σ ++ F))) none (wK cA h s0 ++ (wLg cA h s0 L ++ (wC cA h s0 ++ F))) := by
  refine ct_of (by decide +kernel) (Nat.le_of_ble_eq_true rfl) ?_
  intro p e s m below meth c E hw ls hl
  replace E : Ev p cX4_write 5 none RX4 (Cond.code yX4_write cX4_write 5 none :: bw) D cA tS A s m _ meth c := E
  replace hl : lv_has ls 5 [(0, .ref (h 41)), (1, .int x1), (2, .int x2), (3, .int x3), (4, .int x4)] := hl
  have hx := E.1.1
  have hb := E.1.2.1
  unfold f_X4_write at hM
  refine lv_aload_n hx hb dX4_write_0 rfl (lv_at hl 0 rfl) ?_
  refine q_get (C := RX4) (T := TX4) (N := 5) (ci := 4) E (fun w h => List.mem_cons_of_mem _ (inX4 w h)) hw 7 rfl rfl 4 (by decide) (List.mem_cons_of_mem _ tb_187) (v := .int (σ 7 0)) rfl dX4_write_1 ?_
  refine lv_aload_n hx hb dX4_write_4 rfl (lv_at hl 0 rfl) ?_
  refine q_get (C := RX4) (T := TX4) (N := 5) (ci := 4) E (fun w h => List.mem_cons_of_mem _ (inX4 w h)) hw 7 rfl rfl 0 (by decide) (List.mem_cons_of_mem _ tb_179) (v := .ref (h 8)) rfl dX4_write_5 ?_
  refine va_alen hx hb E.2.2.2.2.1 hw.1 8 0 rfl rfl (v := (Int32.ofNat L)) rfl dX4_write_8 ?_
  refine lv_icmp_lt (tgt := 13) hx hb dX4_write_9 (by decide) (fun c1 => ?_) (fun c1 => ?_)
  · replace hM := i_pos hM c1
    refine lv_aload_n hx hb dX4_write_13 rfl (lv_at hl 0 rfl) ?_
    refine q_get (C := RX4) (T := TX4) (N := 5) (ci := 4) E (fun w h => List.mem_cons_of_mem _ (inX4 w h)) hw 7 rfl rfl 0 (by decide) (List.mem_cons_of_mem _ tb_179) (v := .ref (h 8)) rfl dX4_write_14 ?_
    refine lv_aload_n hx hb dX4_write_17 rfl (lv_at hl 0 rfl) ?_
    refine q_get (C := RX4) (T := TX4) (N := 5) (ci := 4) E (fun w h => List.mem_cons_of_mem _ (inX4 w h)) hw 7 rfl rfl 4 (by decide) (List.mem_cons_of_mem _ tb_187) (v := .int (σ 7 0)) rfl dX4_write_18 ?_
    refine lv_iload_n hx hb dX4_write_21 rfl (lv_at hl 1 rfl) ?_
    obtain ⟨g2, hM⟩ := g_some hM
    refine q_ast E hw 8 (n := L) rfl g2 (wK cA h (up σ 8 (ix (σ 7 0)) x1) ++ (wLg cA h (up σ 8 (ix (σ 7 0)) x1) L ++ (wC cA h (up σ 8 (ix (σ 7 0)) x1) ++ F))) st_K_Lg_C_8 dX4_write_22 (fun H locs hw => ?_)
    refine lv_aload_n hx hb dX4_write_23 rfl (lv_at hl 0 rfl) ?_
    refine q_get (C := RX4) (T := TX4) (N := 5) (ci := 4) E (fun w h => List.mem_cons_of_mem _ (inX4 w h)) hw 7 rfl rfl 1 (by decide) (List.mem_cons_of_mem _ tb_181) (v := .ref (h 9)) rfl dX4_write_24 ?_
    refine lv_aload_n hx hb dX4_write_27 rfl (lv_at hl 0 rfl) ?_
    refine q_get (C := RX4) (T := TX4) (N := 5) (ci := 4) E (fun w h => List.mem_cons_of_mem _ (inX4 w h)) hw 7 rfl rfl 4 (by decide) (List.mem_cons_of_mem _ tb_187) (v := .int (σ 7 0)) (q_fld (congrFun (up_ne σ 8 (ix (σ 7 0)) x1 7 (by decide)) 0) rfl) dX4_write_28 ?_
    refine lv_iload_n hx hb dX4_write_31 rfl (lv_at hl 2 rfl) ?_
    refine q_ast E hw 9 (n := L) rfl g2 (wK cA h (up (up σ 8 (ix (σ 7 0)) x1) 9 (ix (σ 7 0)) x2) ++ (wLg cA h (up (up σ 8 (ix (σ 7 0)) x1) 9 (ix (σ 7 0)) x2) L ++ (wC cA h (up (up σ 8 (ix (σ 7 0)) x1) 9 (ix (σ 7 0)) x2) ++ F))) st_K_Lg_C_9 dX4_write_32 (fun H locs hw => ?_)
    refine lv_aload_n hx hb dX4_write_33 rfl (lv_at hl 0 rfl) ?_
    refine q_get (C := RX4) (T := TX4) (N := 5) (ci := 4) E (fun w h => List.mem_cons_of_mem _ (inX4 w h)) hw 7 rfl rfl 2 (by decide) (List.mem_cons_of_mem _ tb_183) (v := .ref (h 10)) rfl dX4_write_34 ?_
    refine lv_aload_n hx hb dX4_write_37 rfl (lv_at hl 0 rfl) ?_
    refine q_get (C := RX4) (T := TX4) (N := 5) (ci := 4) E (fun w h => List.mem_cons_of_mem _ (inX4 w h)) hw 7 rfl rfl 4 (by decide) (List.mem_cons_of_mem _ tb_187) (v := .int (σ 7 0)) (q_fld (congrFun ((up_ne (up σ 8 (ix (σ 7 0)) x1) 9 (ix (σ 7 0)) x2 7 (by decide)).trans (up_ne σ 8 (ix (σ 7 0)) x1 7 (by decide))) 0) rfl) dX4_write_38 ?_
    refine lv_iload_n hx hb dX4_write_41 rfl (lv_at hl 3 rfl) ?_
    refine q_ast E hw 10 (n := L) rfl g2 (wK cA h (up (up (up σ 8 (ix (σ 7 0)) x1) 9 (ix (σ 7 0)) x2) 10 (ix (σ 7 0)) x3) ++ (wLg cA h (up (up (up σ 8 (ix (σ 7 0)) x1) 9 (ix (σ 7 0)) x2) 10 (ix (σ 7 0)) x3) L ++ (wC cA h (up (up (up σ 8 (ix (σ 7 0)) x1) 9 (ix (σ 7 0)) x2) 10 (ix (σ 7 0)) x3) ++ F))) st_K_Lg_C_10 dX4_write_42 (fun H locs hw => ?_)
    refine lv_aload_n hx hb dX4_write_43 rfl (lv_at hl 0 rfl) ?_
    refine q_get (C := RX4) (T := TX4) (N := 5) (ci := 4) E (fun w h => List.mem_cons_of_mem _ (inX4 w h)) hw 7 rfl rfl 3 (by decide) (List.mem_cons_of_mem _ tb_185) (v := .ref (h 11)) rfl dX4_write_44 ?_
    refine lv_aload_n hx hb dX4_write_47 rfl (lv_at hl 0 rfl) ?_
    refine q_get (C := RX4) (T := TX4) (N := 5) (ci := 4) E (fun w h => List.mem_cons_of_mem _ (inX4 w h)) hw 7 rfl rfl 4 (by decide) (List.mem_cons_of_mem _ tb_187) (v := .int (σ 7 0)) (q_fld (congrFun (((up_ne (up (up σ 8 (ix (σ 7 0)) x1) 9 (ix (σ 7 0)) x2) 10 (ix (σ 7 0)) x3 7 (by decide)).trans (up_ne (up σ 8 (ix (σ 7 0)) x1) 9 (ix (σ 7 0)) x2 7 (by decide))).trans (up_ne σ 8 (ix (σ 7 0)) x1 7 (by decide))) 0) rfl) dX4_write_48 ?_
    refine lv_iload hx hb dX4_write_51 (lv_at hl 4 rfl) ?_
    refine q_ast E hw 11 (n := L) rfl g2 (wK cA h (up (up (up (up σ 8 (ix (σ 7 0)) x1) 9 (ix (σ 7 0)) x2) 10 (ix (σ 7 0)) x3) 11 (ix (σ 7 0)) x4) ++ (wLg cA h (up (up (up (up σ 8 (ix (σ 7 0)) x1) 9 (ix (σ 7 0)) x2) 10 (ix (σ 7 0)) x3) 11 (ix (σ 7 0)) x4) L ++ (wC cA h (up (up (up (up σ 8 (ix (σ 7 0)) x1) 9 (ix (σ 7 0)) x2) 10 (ix (σ 7 0)) x3) 11 (ix (σ 7 0)) x4) ++ F))) st_K_Lg_C_11 dX4_write_53 (fun H locs hw => ?_)
    refine lv_aload_n hx hb dX4_write_54 rfl (lv_at hl 0 rfl) ?_
    refine lv_dup hx hb dX4_write_55 rfl ?_
    refine q_get (C := RX4) (T := TX4) (N := 5) (ci := 4) E (fun w h => List.mem_cons_of_mem _ (inX4 w h)) hw 7 rfl rfl 4 (by decide) (List.mem_cons_of_mem _ tb_187) (v := .int (σ 7 0)) (q_fld (congrFun ((((up_ne (up (up (up σ 8 (ix (σ 7 0)) x1) 9 (ix (σ 7 0)) x2) 10 (ix (σ 7 0)) x3) 11 (ix (σ 7 0)) x4 7 (by decide)).trans (up_ne (up (up σ 8 (ix (σ 7 0)) x1) 9 (ix (σ 7 0)) x2) 10 (ix (σ 7 0)) x3 7 (by decide))).trans (up_ne (up σ 8 (ix (σ 7 0)) x1) 9 (ix (σ 7 0)) x2 7 (by decide))).trans (up_ne σ 8 (ix (σ 7 0)) x1 7 (by decide))) 0) rfl) dX4_write_56 ?_
    refine lv_iconst (v := 1) hx hb dX4_write_59 (by decide) ?_
    refine lv_iadd hx hb dX4_write_60 ?_
    refine q_puti (C := RX4) (T := TX4) (N := 5) (ci := 4) E (fun w h => List.mem_cons_of_mem _ (inX4 w h)) tyX4 tyX4_ok nmX4 hw 7 rfl rfl 4 (by decide) (List.mem_cons_of_mem _ tb_187) rfl rfl (Nat.le_of_ble_eq_true rfl) (wK cA h (up (up (up (up (up σ 8 (ix (σ 7 0)) x1) 9 (ix (σ 7 0)) x2) 10 (ix (σ 7 0)) x3) 11 (ix (σ 7 0)) x4) 7 0 ((σ 7 0) + 1)) ++ (wLg cA h (up (up (up (up (up σ 8 (ix (σ 7 0)) x1) 9 (ix (σ 7 0)) x2) 10 (ix (σ 7 0)) x3) 11 (ix (σ 7 0)) x4) 7 0 ((σ 7 0) + 1)) L ++ (wC cA h (up (up (up (up (up σ 8 (ix (σ 7 0)) x1) 9 (ix (σ 7 0)) x2) 10 (ix (σ 7 0)) x3) 11 (ix (σ 7 0)) x4) 7 0 ((σ 7 0) + 1)) ++ F))) st_K_Lg_C_7 dX4_write_61 (fun H locs hw => ?_)
    cases hM
    exact q_retv E hw dX4_write_64
  · replace hM := i_neg hM c1
    cases hM
    exact q_retv E hw dX4_write_12
def f_X1_enter  (L : Nat)  (x1 : Int32) (x2 : Int32) (x3 : Int32) (x4 : Int32) (σ : Sg) : Option (Int32 × Sg) := (f_X7_add x1 x2 x3 x4 (σ 12 0) σ).bind (fun p1 => (f_X4_write L (p1.2 12 0) 0 p1.1 x1 p1.2).bind (fun p3 => some (p1.1, p3)))
set_option maxRecDepth 100000 in
set_option maxHeartbeats 4000000 in
theorem c_X1_enter (l : Launch) (D : va_G) (cA : Nat → ClassId) (tS : Nat → Nat) (A : Nat → Prop) (h : Nat → Nat) (L : Nat) (F : va_W) (x1 : Int32) (x2 : Int32) (x3 : Int32) (x4 : Int32) (σ : Sg) (r0 : Int32) (s0 : Sg) (hM : f_X1_enter L x1 x2 x3 x4 σ = some (r0, s0)) : Ct l yX1_enter (Cond.code yX1_enter cX1_enter 6 (some .int) :: bw) 1 26 D cA tS A [.ref (h 42), .int x1, .int x2, .int x3, .int x4] (wK cA h σ ++ (wLg cA h σ L ++ (wC cA h σ ++ F))) (some (.int r0)) (wK cA h s0 ++ (wLg cA h s0 L ++ (wC cA h s0 ++ F))) := by
  refine ct_of (by decide +kernel) (Nat.le_of_ble_eq_true rfl) ?_
  intro p e s m below meth c E hw ls hl
  replace E : Ev p cX1_enter 6 (some .int) RX1 (Cond.code yX1_enter cX1_enter 6 (some .int) :: bw) D cA tS A s m _ meth c := E
  replace hl : lv_has ls 6 [(0, .ref (h 42)), (1, .int x1), (2, .int x2), (3, .int x3), (4, .int x4)] := hl
  have hx := E.1.1
  have hb := E.1.2.1
  unfold f_X1_enter at hM
  refine lv_aload_n hx hb dX1_enter_0 rfl (lv_at hl 0 rfl) ?_
  refine q_get (C := RX1) (T := TX1) (N := 6) (ci := 1) E (fun w h => List.mem_cons_of_mem _ (inX1 w h)) hw 12 rfl rfl 3 (by decide) (List.mem_cons_of_mem _ tb_336) (v := .ref (h 44)) rfl dX1_enter_1 ?_
  refine lv_iload_n hx hb dX1_enter_4 rfl (lv_at hl 1 rfl) ?_
  refine lv_iload_n hx hb dX1_enter_5 rfl (lv_at hl 2 rfl) ?_
  refine lv_iload_n hx hb dX1_enter_6 rfl (lv_at hl 3 rfl) ?_
  refine lv_iload hx hb dX1_enter_7 (lv_at hl 4 rfl) ?_
  refine lv_aload_n hx hb dX1_enter_9 rfl (lv_at hl 0 rfl) ?_
  refine q_get (C := RX1) (T := TX1) (N := 6) (ci := 1) E (fun w h => List.mem_cons_of_mem _ (inX1 w h)) hw 12 rfl rfl 5 (by decide) (List.mem_cons_of_mem _ tb_340) (v := .int (σ 12 0)) rfl dX1_enter_10 ?_
  obtain ⟨p1, h2, hM⟩ := b_some hM
  refine q_cv (As := [.int x1, .int x2, .int x3, .int x4, .int (σ 12 0)]) (rest := []) E hw hl (c_X7_add l D cA tS A h L F x1 x2 x3 x4 (σ 12 0) σ p1.1 p1.2 h2) 5 (bwV bw_c tb_544 tb_545 tb_546 tb_108 tb_547) rfl (by decide +kernel) ⟨Nat.le_of_ble_eq_true rfl, Nat.le_of_ble_eq_true rfl⟩ 16 7 (T := TX7) (N := 15) rfl rfl rfl rfl (Nat.le_of_ble_eq_true rfl) ⟨Nat.zero_le _, Nat.zero_le _⟩ dX1_enter_13 (fun H locs hw => ?_)
  refine lv_istore (lv' := [(5, .int p1.1), (0, .ref (h 42)), (1, .int x1), (2, .int x2), (3, .int x3), (4, .int x4)]) hx hb dX1_enter_16 hl (by decide) rfl (fun ls hl => ?_)
  refine lv_aload_n hx hb dX1_enter_18 rfl (lv_at hl 1 rfl) ?_
  refine q_get (C := RX1) (T := TX1) (N := 6) (ci := 1) E (fun w h => List.mem_cons_of_mem _ (inX1 w h)) hw 12 rfl rfl 1 (by decide) (List.mem_cons_of_mem _ tb_333) (v := .ref (h 41)) rfl dX1_enter_19 ?_
  refine lv_aload_n hx hb dX1_enter_22 rfl (lv_at hl 1 rfl) ?_
  refine q_get (C := RX1) (T := TX1) (N := 6) (ci := 1) E (fun w h => List.mem_cons_of_mem _ (inX1 w h)) hw 12 rfl rfl 5 (by decide) (List.mem_cons_of_mem _ tb_340) (v := .int (p1.2 12 0)) rfl dX1_enter_23 ?_
  refine lv_iconst (v := 0) hx hb dX1_enter_26 (by decide) ?_
  refine lv_iload hx hb dX1_enter_27 (lv_at hl 0 rfl) ?_
  refine lv_iload_n hx hb dX1_enter_29 rfl (lv_at hl 2 rfl) ?_
  obtain ⟨p3, h4, hM⟩ := b_some hM
  refine q_cvv (As := [.int (p1.2 12 0), .int 0, .int p1.1, .int x1]) (rest := []) E hw hl (c_X4_write l D cA tS A h L F (p1.2 12 0) 0 p1.1 x1 p1.2 p3 h4) 4 (bwV bw_c tb_548 tb_549 tb_550 tb_103 tb_551) rfl (by decide +kernel) ⟨Nat.le_of_ble_eq_true rfl, Nat.le_of_ble_eq_true rfl⟩ 7 4 (T := TX4) (N := 5) rfl rfl rfl rfl (Nat.le_of_ble_eq_true rfl) ⟨Nat.zero_le _, Nat.zero_le _⟩ dX1_enter_30 (fun H locs hw => ?_)
  refine lv_iload hx hb dX1_enter_33 (lv_at hl 0 rfl) ?_
  cases hM
  exact q_reti E hw dX1_enter_35
def f_X1_move  (L : Nat)  (x1 : Int32) (x2 : Int32) (x3 : Int32) (σ : Sg) : Option (Int32 × Sg) := if ib x1 60 then (f_X4_write L (σ 12 0) x3 x1 0 (up σ 21 (ix x1) x2)).bind (fun p2 => some ((p2 25 (ix x1)), p2)) else none
set_option maxRecDepth 100000 in
set_option maxHeartbeats 4000000 in
theorem c_X1_move (l : Launch) (D : va_G) (cA : Nat → ClassId) (tS : Nat → Nat) (A : Nat → Prop) (h : Nat → Nat) (L : Nat) (F : va_W) (x1 : Int32) (x2 : Int32) (x3 : Int32) (σ : Sg) (r0 : Int32) (s0 : Sg) (hM : f_X1_move L x1 x2 x3 σ = some (r0, s0)) : Ct l yX1_move (Cond.code yX1_move cX1_move 4 (some .int) :: bw) 1 24 D cA tS A [.ref (h 42), .int x1, .int x2, .int x3] (wK cA h σ ++ (wLg cA h σ L ++ (wC cA h σ ++ F))) (some (.int r0)) (wK cA h s0 ++ (wLg cA h s0 L ++ (wC cA h s0 ++ F))) := by
  refine ct_of (by decide +kernel) (Nat.le_of_ble_eq_true rfl) ?_
  intro p e s m below meth c E hw ls hl
  replace E : Ev p cX1_move 4 (some .int) RX1 (Cond.code yX1_move cX1_move 4 (some .int) :: bw) D cA tS A s m _ meth c := E
  replace hl : lv_has ls 4 [(0, .ref (h 42)), (1, .int x1), (2, .int x2), (3, .int x3)] := hl
  have hx := E.1.1
  have hb := E.1.2.1
  unfold f_X1_move at hM
  refine lv_aload_n hx hb dX1_move_0 rfl (lv_at hl 0 rfl) ?_
  refine q_get (C := RX1) (T := TX1) (N := 6) (ci := 1) E (fun w h => List.mem_cons_of_mem _ (inX1 w h)) hw 12 rfl rfl 3 (by decide) (List.mem_cons_of_mem _ tb_336) (v := .ref (h 44)) rfl dX1_move_1 ?_
  refine q_get (C := RX7) (T := TX7) (N := 15) (ci := 7) E (fun w h => List.mem_cons_of_mem _ (inX7 w h)) hw 16 rfl rfl 5 (by decide) (List.mem_cons_of_mem _ tb_274) (v := .ref (h 21)) rfl dX1_move_4 ?_
  refine lv_iload_n hx hb dX1_move_7 rfl (lv_at hl 1 rfl) ?_
  refine lv_iload_n hx hb dX1_move_8 rfl (lv_at hl 2 rfl) ?_
  obtain ⟨g1, hM⟩ := g_some hM
  refine q_ast E hw 22 (n := 60) rfl g1 (wK cA h (up σ 21 (ix x1) x2) ++ (wLg cA h (up σ 21 (ix x1) x2) L ++ (wC cA h (up σ 21 (ix x1) x2) ++ F))) st_K_Lg_C_21 dX1_move_9 (fun H locs hw => ?_)
  refine lv_aload_n hx hb dX1_move_10 rfl (lv_at hl 0 rfl) ?_
  refine q_get (C := RX1) (T := TX1) (N := 6) (ci := 1) E (fun w h => List.mem_cons_of_mem _ (inX1 w h)) hw 12 rfl rfl 1 (by decide) (List.mem_cons_of_mem _ tb_333) (v := .ref (h 41)) rfl dX1_move_11 ?_
  refine lv_aload_n hx hb dX1_move_14 rfl (lv_at hl 0 rfl) ?_
  refine q_get (C := RX1) (T := TX1) (N := 6) (ci := 1) E (fun w h => List.mem_cons_of_mem _ (inX1 w h)) hw 12 rfl rfl 5 (by decide) (List.mem_cons_of_mem _ tb_340) (v := .int (σ 12 0)) (q_fld (congrFun (up_ne σ 21 (ix x1) x2 12 (by decide)) 0) rfl) dX1_move_15 ?_
  refine lv_iload_n hx hb dX1_move_18 rfl (lv_at hl 3 rfl) ?_
  refine lv_iload_n hx hb dX1_move_19 rfl (lv_at hl 1 rfl) ?_
  refine lv_iconst (v := 0) hx hb dX1_move_20 (by decide) ?_
  obtain ⟨p2, h3, hM⟩ := b_some hM
  refine q_cvv (As := [.int (σ 12 0), .int x3, .int x1, .int 0]) (rest := []) E hw hl (c_X4_write l D cA tS A h L F (σ 12 0) x3 x1 0 (up σ 21 (ix x1) x2) p2 h3) 4 (bwV bw_c tb_548 tb_549 tb_550 tb_103 tb_551) rfl (by decide +kernel) ⟨Nat.le_of_ble_eq_true rfl, Nat.le_of_ble_eq_true rfl⟩ 7 4 (T := TX4) (N := 5) rfl rfl rfl rfl (Nat.le_of_ble_eq_true rfl) ⟨Nat.zero_le _, Nat.zero_le _⟩ dX1_move_21 (fun H locs hw => ?_)
  refine lv_aload_n hx hb dX1_move_24 rfl (lv_at hl 0 rfl) ?_
  refine q_get (C := RX1) (T := TX1) (N := 6) (ci := 1) E (fun w h => List.mem_cons_of_mem _ (inX1 w h)) hw 12 rfl rfl 3 (by decide) (List.mem_cons_of_mem _ tb_336) (v := .ref (h 44)) rfl dX1_move_25 ?_
  refine q_get (C := RX7) (T := TX7) (N := 15) (ci := 7) E (fun w h => List.mem_cons_of_mem _ (inX7 w h)) hw 16 rfl rfl 9 (by decide) (List.mem_cons_of_mem _ tb_285) (v := .ref (h 25)) rfl dX1_move_28 ?_
  refine lv_iload_n hx hb dX1_move_31 rfl (lv_at hl 1 rfl) ?_
  refine q_ald E hw 26 (n := 60) rfl g1 (x := (p2 25 (ix x1))) rfl dX1_move_32 ?_
  cases hM
  exact q_reti E hw dX1_move_33
def f_X1_raise  (L : Nat)  (x1 : Int32) (x2 : Int32) (σ : Sg) : Option (Int32 × Sg) := if ib x1 60 then (f_X4_write L x2 4 x1 ((up σ 20 (ix x1) ((σ 20 (ix x1)) + 1)) 20 (ix x1)) (up (up (up (up σ 20 (ix x1) ((σ 20 (ix x1)) + 1)) 21 (ix x1) 0) 22 (ix x1) 0) 23 (ix x1) 0)).bind (fun p2 => some ((p2 20 (ix x1)), p2)) else none
set_option maxRecDepth 100000 in
set_option maxHeartbeats 4000000 in
theorem c_X1_raise (l : Launch) (D : va_G) (cA : Nat → ClassId) (tS : Nat → Nat) (A : Nat → Prop) (h : Nat → Nat) (L : Nat) (F : va_W) (x1 : Int32) (x2 : Int32) (σ : Sg) (r0 : Int32) (s0 : Sg) (hM : f_X1_raise L x1 x2 σ = some (r0, s0)) : Ct l yX1_raise (Cond.code yX1_raise cX1_raise 3 (some .int) :: bw) 1 24 D cA tS A [.ref (h 42), .int x1, .int x2] (wK cA h σ ++ (wLg cA h σ L ++ (wC cA h σ ++ F))) (some (.int r0)) (wK cA h s0 ++ (wLg cA h s0 L ++ (wC cA h s0 ++ F))) := by
  refine ct_of (by decide +kernel) (Nat.le_of_ble_eq_true rfl) ?_
  intro p e s m below meth c E hw ls hl
  replace E : Ev p cX1_raise 3 (some .int) RX1 (Cond.code yX1_raise cX1_raise 3 (some .int) :: bw) D cA tS A s m _ meth c := E
  replace hl : lv_has ls 3 [(0, .ref (h 42)), (1, .int x1), (2, .int x2)] := hl
  have hx := E.1.1
  have hb := E.1.2.1
  unfold f_X1_raise at hM
  refine lv_aload_n hx hb dX1_raise_0 rfl (lv_at hl 0 rfl) ?_
  refine q_get (C := RX1) (T := TX1) (N := 6) (ci := 1) E (fun w h => List.mem_cons_of_mem _ (inX1 w h)) hw 12 rfl rfl 3 (by decide) (List.mem_cons_of_mem _ tb_336) (v := .ref (h 44)) rfl dX1_raise_1 ?_
  refine q_get (C := RX7) (T := TX7) (N := 15) (ci := 7) E (fun w h => List.mem_cons_of_mem _ (inX7 w h)) hw 16 rfl rfl 4 (by decide) (List.mem_cons_of_mem _ tb_271) (v := .ref (h 20)) rfl dX1_raise_4 ?_
  refine lv_iload_n hx hb dX1_raise_7 rfl (lv_at hl 1 rfl) ?_
  refine lv_dup2_11 hx hb dX1_raise_8 rfl rfl ?_
  obtain ⟨g1, hM⟩ := g_some hM
  refine q_ald E hw 21 (n := 60) rfl g1 (x := (σ 20 (ix x1))) rfl dX1_raise_9 ?_
  refine lv_iconst (v := 1) hx hb dX1_raise_10 (by decide) ?_
  refine lv_iadd hx hb dX1_raise_11 ?_
  refine q_ast E hw 21 (n := 60) rfl g1 (wK cA h (up σ 20 (ix x1) ((σ 20 (ix x1)) + 1)) ++ (wLg cA h (up σ 20 (ix x1) ((σ 20 (ix x1)) + 1)) L ++ (wC cA h (up σ 20 (ix x1) ((σ 20 (ix x1)) + 1)) ++ F))) st_K_Lg_C_20 dX1_raise_12 (fun H locs hw => ?_)
  refine lv_aload_n hx hb dX1_raise_13 rfl (lv_at hl 0 rfl) ?_
  refine q_get (C := RX1) (T := TX1) (N := 6) (ci := 1) E (fun w h => List.mem_cons_of_mem _ (inX1 w h)) hw 12 rfl rfl 3 (by decide) (List.mem_cons_of_mem _ tb_336) (v := .ref (h 44)) rfl dX1_raise_14 ?_
  refine q_get (C := RX7) (T := TX7) (N := 15) (ci := 7) E (fun w h => List.mem_cons_of_mem _ (inX7 w h)) hw 16 rfl rfl 5 (by decide) (List.mem_cons_of_mem _ tb_274) (v := .ref (h 21)) rfl dX1_raise_17 ?_
  refine lv_iload_n hx hb dX1_raise_20 rfl (lv_at hl 1 rfl) ?_
  refine lv_iconst (v := 0) hx hb dX1_raise_21 (by decide) ?_
  refine q_ast E hw 22 (n := 60) rfl g1 (wK cA h (up (up σ 20 (ix x1) ((σ 20 (ix x1)) + 1)) 21 (ix x1) 0) ++ (wLg cA h (up (up σ 20 (ix x1) ((σ 20 (ix x1)) + 1)) 21 (ix x1) 0) L ++ (wC cA h (up (up σ 20 (ix x1) ((σ 20 (ix x1)) + 1)) 21 (ix x1) 0) ++ F))) st_K_Lg_C_21 dX1_raise_22 (fun H locs hw => ?_)
  refine lv_aload_n hx hb dX1_raise_23 rfl (lv_at hl 0 rfl) ?_
  refine q_get (C := RX1) (T := TX1) (N := 6) (ci := 1) E (fun w h => List.mem_cons_of_mem _ (inX1 w h)) hw 12 rfl rfl 3 (by decide) (List.mem_cons_of_mem _ tb_336) (v := .ref (h 44)) rfl dX1_raise_24 ?_
  refine q_get (C := RX7) (T := TX7) (N := 15) (ci := 7) E (fun w h => List.mem_cons_of_mem _ (inX7 w h)) hw 16 rfl rfl 6 (by decide) (List.mem_cons_of_mem _ tb_277) (v := .ref (h 22)) rfl dX1_raise_27 ?_
  refine lv_iload_n hx hb dX1_raise_30 rfl (lv_at hl 1 rfl) ?_
  refine lv_iconst (v := 0) hx hb dX1_raise_31 (by decide) ?_
  refine q_ast E hw 23 (n := 60) rfl g1 (wK cA h (up (up (up σ 20 (ix x1) ((σ 20 (ix x1)) + 1)) 21 (ix x1) 0) 22 (ix x1) 0) ++ (wLg cA h (up (up (up σ 20 (ix x1) ((σ 20 (ix x1)) + 1)) 21 (ix x1) 0) 22 (ix x1) 0) L ++ (wC cA h (up (up (up σ 20 (ix x1) ((σ 20 (ix x1)) + 1)) 21 (ix x1) 0) 22 (ix x1) 0) ++ F))) st_K_Lg_C_22 dX1_raise_32 (fun H locs hw => ?_)
  refine lv_aload_n hx hb dX1_raise_33 rfl (lv_at hl 0 rfl) ?_
  refine q_get (C := RX1) (T := TX1) (N := 6) (ci := 1) E (fun w h => List.mem_cons_of_mem _ (inX1 w h)) hw 12 rfl rfl 3 (by decide) (List.mem_cons_of_mem _ tb_336) (v := .ref (h 44)) rfl dX1_raise_34 ?_
  refine q_get (C := RX7) (T := TX7) (N := 15) (ci := 7) E (fun w h => List.mem_cons_of_mem _ (inX7 w h)) hw 16 rfl rfl 7 (by decide) (List.mem_cons_of_mem _ tb_280) (v := .ref (h 23)) rfl dX1_raise_37 ?_
  refine lv_iload_n hx hb dX1_raise_40 rfl (lv_at hl 1 rfl) ?_
  refine lv_iconst (v := 0) hx hb dX1_raise_41 (by decide) ?_
  refine q_ast E hw 24 (n := 60) rfl g1 (wK cA h (up (up (up (up σ 20 (ix x1) ((σ 20 (ix x1)) + 1)) 21 (ix x1) 0) 22 (ix x1) 0) 23 (ix x1) 0) ++ (wLg cA h (up (up (up (up σ 20 (ix x1) ((σ 20 (ix x1)) + 1)) 21 (ix x1) 0) 22 (ix x1) 0) 23 (ix x1) 0) L ++ (wC cA h (up (up (up (up σ 20 (ix x1) ((σ 20 (ix x1)) + 1)) 21 (ix x1) 0) 22 (ix x1) 0) 23 (ix x1) 0) ++ F))) st_K_Lg_C_23 dX1_raise_42 (fun H locs hw => ?_)
  refine lv_aload_n hx hb dX1_raise_43 rfl (lv_at hl 0 rfl) ?_
  refine q_get (C := RX1) (T := TX1) (N := 6) (ci := 1) E (fun w h => List.mem_cons_of_mem _ (inX1 w h)) hw 12 rfl rfl 1 (by decide) (List.mem_cons_of_mem _ tb_333) (v := .ref (h 41)) rfl dX1_raise_44 ?_
  refine lv_iload_n hx hb dX1_raise_47 rfl (lv_at hl 2 rfl) ?_
  refine lv_iconst (v := 4) hx hb dX1_raise_48 (by decide) ?_
  refine lv_iload_n hx hb dX1_raise_49 rfl (lv_at hl 1 rfl) ?_
  refine lv_aload_n hx hb dX1_raise_50 rfl (lv_at hl 0 rfl) ?_
  refine q_get (C := RX1) (T := TX1) (N := 6) (ci := 1) E (fun w h => List.mem_cons_of_mem _ (inX1 w h)) hw 12 rfl rfl 3 (by decide) (List.mem_cons_of_mem _ tb_336) (v := .ref (h 44)) rfl dX1_raise_51 ?_
  refine q_get (C := RX7) (T := TX7) (N := 15) (ci := 7) E (fun w h => List.mem_cons_of_mem _ (inX7 w h)) hw 16 rfl rfl 4 (by decide) (List.mem_cons_of_mem _ tb_271) (v := .ref (h 20)) rfl dX1_raise_54 ?_
  refine lv_iload_n hx hb dX1_raise_57 rfl (lv_at hl 1 rfl) ?_
  refine q_ald E hw 21 (n := 60) rfl g1 (x := ((up σ 20 (ix x1) ((σ 20 (ix x1)) + 1)) 20 (ix x1))) (congrFun (((up_ne (up (up (up σ 20 (ix x1) ((σ 20 (ix x1)) + 1)) 21 (ix x1) 0) 22 (ix x1) 0) 23 (ix x1) 0 20 (by decide)).trans (up_ne (up (up σ 20 (ix x1) ((σ 20 (ix x1)) + 1)) 21 (ix x1) 0) 22 (ix x1) 0 20 (by decide))).trans (up_ne (up σ 20 (ix x1) ((σ 20 (ix x1)) + 1)) 21 (ix x1) 0 20 (by decide))) (ix x1)) dX1_raise_58 ?_
  obtain ⟨p2, h3, hM⟩ := b_some hM
  refine q_cvv (As := [.int x2, .int 4, .int x1, .int ((up σ 20 (ix x1) ((σ 20 (ix x1)) + 1)) 20 (ix x1))]) (rest := []) E hw hl (c_X4_write l D cA tS A h L F x2 4 x1 ((up σ 20 (ix x1) ((σ 20 (ix x1)) + 1)) 20 (ix x1)) (up (up (up (up σ 20 (ix x1) ((σ 20 (ix x1)) + 1)) 21 (ix x1) 0) 22 (ix x1) 0) 23 (ix x1) 0) p2 h3) 4 (bwV bw_c tb_548 tb_549 tb_550 tb_103 tb_551) rfl (by decide +kernel) ⟨Nat.le_of_ble_eq_true rfl, Nat.le_of_ble_eq_true rfl⟩ 7 4 (T := TX4) (N := 5) rfl rfl rfl rfl (Nat.le_of_ble_eq_true rfl) ⟨Nat.zero_le _, Nat.zero_le _⟩ dX1_raise_59 (fun H locs hw => ?_)
  refine lv_aload_n hx hb dX1_raise_62 rfl (lv_at hl 0 rfl) ?_
  refine q_get (C := RX1) (T := TX1) (N := 6) (ci := 1) E (fun w h => List.mem_cons_of_mem _ (inX1 w h)) hw 12 rfl rfl 3 (by decide) (List.mem_cons_of_mem _ tb_336) (v := .ref (h 44)) rfl dX1_raise_63 ?_
  refine q_get (C := RX7) (T := TX7) (N := 15) (ci := 7) E (fun w h => List.mem_cons_of_mem _ (inX7 w h)) hw 16 rfl rfl 4 (by decide) (List.mem_cons_of_mem _ tb_271) (v := .ref (h 20)) rfl dX1_raise_66 ?_
  refine lv_iload_n hx hb dX1_raise_69 rfl (lv_at hl 1 rfl) ?_
  refine q_ald E hw 21 (n := 60) rfl g1 (x := (p2 20 (ix x1))) rfl dX1_raise_70 ?_
  cases hM
  exact q_reti E hw dX1_raise_71
def f_X1_markSolved  (L : Nat)  (x1 : Int32) (x2 : Int32) (σ : Sg) : Option (Sg) := if ib x1 60 then (f_X4_write L x2 5 x1 0 (up (up σ 21 (ix x1) 3) 29 (ix x1) x2)).bind (fun p2 => some p2) else none
set_option maxRecDepth 100000 in
set_option maxHeartbeats 4000000 in
theorem c_X1_markSolved (l : Launch) (D : va_G) (cA : Nat → ClassId) (tS : Nat → Nat) (A : Nat → Prop) (h : Nat → Nat) (L : Nat) (F : va_W) (x1 : Int32) (x2 : Int32) (σ : Sg) (s0 : Sg) (hM : f_X1_markSolved L x1 x2 σ = some s0) : Ct l yX1_markSolved (Cond.code yX1_markSolved cX1_markSolved 3 none :: bw) 1 24 D cA tS A [.ref (h 42), .int x1, .int x2] (wK cA h σ ++ (wLg cA h σ L ++ (wC cA h σ ++ F))) none (wK cA h s0 ++ (wLg cA h s0 L ++ (wC cA h s0 ++ F))) := by
  refine ct_of (by decide +kernel) (Nat.le_of_ble_eq_true rfl) ?_
  intro p e s m below meth c E hw ls hl
  replace E : Ev p cX1_markSolved 3 none RX1 (Cond.code yX1_markSolved cX1_markSolved 3 none :: bw) D cA tS A s m _ meth c := E
  replace hl : lv_has ls 3 [(0, .ref (h 42)), (1, .int x1), (2, .int x2)] := hl
  have hx := E.1.1
  have hb := E.1.2.1
  unfold f_X1_markSolved at hM
  refine lv_aload_n hx hb dX1_markSolved_0 rfl (lv_at hl 0 rfl) ?_
  refine q_get (C := RX1) (T := TX1) (N := 6) (ci := 1) E (fun w h => List.mem_cons_of_mem _ (inX1 w h)) hw 12 rfl rfl 3 (by decide) (List.mem_cons_of_mem _ tb_336) (v := .ref (h 44)) rfl dX1_markSolved_1 ?_
  refine q_get (C := RX7) (T := TX7) (N := 15) (ci := 7) E (fun w h => List.mem_cons_of_mem _ (inX7 w h)) hw 16 rfl rfl 5 (by decide) (List.mem_cons_of_mem _ tb_274) (v := .ref (h 21)) rfl dX1_markSolved_4 ?_
  refine lv_iload_n hx hb dX1_markSolved_7 rfl (lv_at hl 1 rfl) ?_
  refine lv_iconst (v := 3) hx hb dX1_markSolved_8 (by decide) ?_
  obtain ⟨g1, hM⟩ := g_some hM
  refine q_ast E hw 22 (n := 60) rfl g1 (wK cA h (up σ 21 (ix x1) 3) ++ (wLg cA h (up σ 21 (ix x1) 3) L ++ (wC cA h (up σ 21 (ix x1) 3) ++ F))) st_K_Lg_C_21 dX1_markSolved_9 (fun H locs hw => ?_)
  refine lv_aload_n hx hb dX1_markSolved_10 rfl (lv_at hl 0 rfl) ?_
  refine q_get (C := RX1) (T := TX1) (N := 6) (ci := 1) E (fun w h => List.mem_cons_of_mem _ (inX1 w h)) hw 12 rfl rfl 3 (by decide) (List.mem_cons_of_mem _ tb_336) (v := .ref (h 44)) rfl dX1_markSolved_11 ?_
  refine q_get (C := RX7) (T := TX7) (N := 15) (ci := 7) E (fun w h => List.mem_cons_of_mem _ (inX7 w h)) hw 16 rfl rfl 13 (by decide) (List.mem_cons_of_mem _ tb_296) (v := .ref (h 29)) rfl dX1_markSolved_14 ?_
  refine lv_iload_n hx hb dX1_markSolved_17 rfl (lv_at hl 1 rfl) ?_
  refine lv_iload_n hx hb dX1_markSolved_18 rfl (lv_at hl 2 rfl) ?_
  refine q_ast E hw 30 (n := 60) rfl g1 (wK cA h (up (up σ 21 (ix x1) 3) 29 (ix x1) x2) ++ (wLg cA h (up (up σ 21 (ix x1) 3) 29 (ix x1) x2) L ++ (wC cA h (up (up σ 21 (ix x1) 3) 29 (ix x1) x2) ++ F))) st_K_Lg_C_29 dX1_markSolved_19 (fun H locs hw => ?_)
  refine lv_aload_n hx hb dX1_markSolved_20 rfl (lv_at hl 0 rfl) ?_
  refine q_get (C := RX1) (T := TX1) (N := 6) (ci := 1) E (fun w h => List.mem_cons_of_mem _ (inX1 w h)) hw 12 rfl rfl 1 (by decide) (List.mem_cons_of_mem _ tb_333) (v := .ref (h 41)) rfl dX1_markSolved_21 ?_
  refine lv_iload_n hx hb dX1_markSolved_24 rfl (lv_at hl 2 rfl) ?_
  refine lv_iconst (v := 5) hx hb dX1_markSolved_25 (by decide) ?_
  refine lv_iload_n hx hb dX1_markSolved_26 rfl (lv_at hl 1 rfl) ?_
  refine lv_iconst (v := 0) hx hb dX1_markSolved_27 (by decide) ?_
  obtain ⟨p2, h3, hM⟩ := b_some hM
  refine q_cvv (As := [.int x2, .int 5, .int x1, .int 0]) (rest := []) E hw hl (c_X4_write l D cA tS A h L F x2 5 x1 0 (up (up σ 21 (ix x1) 3) 29 (ix x1) x2) p2 h3) 4 (bwV bw_c tb_548 tb_549 tb_550 tb_103 tb_551) rfl (by decide +kernel) ⟨Nat.le_of_ble_eq_true rfl, Nat.le_of_ble_eq_true rfl⟩ 7 4 (T := TX4) (N := 5) rfl rfl rfl rfl (Nat.le_of_ble_eq_true rfl) ⟨Nat.zero_le _, Nat.zero_le _⟩ dX1_markSolved_28 (fun H locs hw => ?_)
  cases hM
  exact q_retv E hw dX1_markSolved_31
def f_X1_finish_11 (N : Nat) (L : Nat)  : Nat → Int32 → Int32 → Int32 → Int32 → Sg → Option (Int32 × Sg)
  | 0, _, _, _, _, _ => none
  | n + 1, x1, x2, x3, x4, σ => (if (σ 15 0) ≤ x4 then some (x3, σ) else if ib x4 60 then (if (σ 26 (ix x4)) = x1 then (f_X1_markSolved L x4 x2 σ).bind (fun p4 => f_X1_finish_11 N L n x1 x2 (x3 + 1) (x4 + 1) p4) else f_X1_finish_11 N L n x1 x2 x3 (x4 + 1) σ) else none)
set_option maxRecDepth 100000 in
set_option maxHeartbeats 4000000 in
theorem s_X1_finish_11 (l : Launch) (D : va_G) (cA : Nat → ClassId) (tS : Nat → Nat) (A : Nat → Prop) (h : Nat → Nat) (L : Nat) (F : va_W) (N : Nat) {p : Program} {e : Env} {s : State} {m : MethodId} {args : Array Value} {below : List Frame} {meth : Method} {c : Code} (E : Ev p cX1_finish 5 (some .int) RX1 (Cond.code yX1_finish cX1_finish 5 (some .int) :: bw) D cA tS A s m args meth c) : ∀ (n : Nat) (x1 : Int32) (x2 : Int32) (x3 : Int32) (x4 : Int32) (σ : Sg) (r0 : Int32) (s0 : Sg) (hM : f_X1_finish_11 N L n x1 x2 x3 x4 σ = some (r0, s0)) (H : Heap) (locs : List Loc) (hw : Wd D A (wK cA h σ ++ (wLg cA h σ L ++ (wC cA h σ ++ F))) s.heap H locs) (ls : Array Slot) (hl : lv_has ls 5 [(0, .ref (h 42)), (1, .int x1), (2, .int x2), (3, .int x3), (4, .int x4)]), W p l e ({ frames := 2, cells := 0, slots := 0, locals := 46 } : Room) s m args below meth c H locs 0 0 (MQ below (QW D A (some (.int r0)) (wK cA h s0 ++ (wLg cA h s0 L ++ (wC cA h s0 ++ F)))) args s 0 0 A) (F0 m 11 ls []) := by
  have hx := E.1.1
  have hb := E.1.2.1
  intro n
  induction n with
  | zero =>
    intro x1 x2 x3 x4 σ r0 s0 hM
    cases hM
  | succ n ih =>
    intro x1 x2 x3 x4 σ r0 s0 hM H locs hw ls hl
    rw [f_X1_finish_11] at hM
    refine lv_iload hx hb dX1_finish_11 (lv_at hl 4 rfl) ?_
    refine lv_aload_n hx hb dX1_finish_13 rfl (lv_at hl 0 rfl) ?_
    refine q_get (C := RX1) (T := TX1) (N := 6) (ci := 1) E (fun w h => List.mem_cons_of_mem _ (inX1 w h)) hw 12 rfl rfl 3 (by decide) (List.mem_cons_of_mem _ tb_336) (v := .ref (h 44)) rfl dX1_finish_14 ?_
    refine q_get (C := RX7) (T := TX7) (N := 15) (ci := 7) E (fun w h => List.mem_cons_of_mem _ (inX7 w h)) hw 16 rfl rfl 14 (by decide) (List.mem_cons_of_mem _ tb_299) (v := .int (σ 15 0)) rfl dX1_finish_17 ?_
    refine lv_icmp_ge (tgt := 53) hx hb dX1_finish_20 (by decide) (fun c1 => ?_) (fun c1 => ?_)
    · replace hM := i_pos hM c1
      refine lv_iload_n hx hb dX1_finish_53 rfl (lv_at hl 3 rfl) ?_
      cases hM
      exact q_reti E hw dX1_finish_54
    · replace hM := i_neg hM c1
      refine lv_aload_n hx hb dX1_finish_23 rfl (lv_at hl 0 rfl) ?_
      refine q_get (C := RX1) (T := TX1) (N := 6) (ci := 1) E (fun w h => List.mem_cons_of_mem _ (inX1 w h)) hw 12 rfl rfl 3 (by decide) (List.mem_cons_of_mem _ tb_336) (v := .ref (h 44)) rfl dX1_finish_24 ?_
      refine q_get (C := RX7) (T := TX7) (N := 15) (ci := 7) E (fun w h => List.mem_cons_of_mem _ (inX7 w h)) hw 16 rfl rfl 10 (by decide) (List.mem_cons_of_mem _ tb_288) (v := .ref (h 26)) rfl dX1_finish_27 ?_
      refine lv_iload hx hb dX1_finish_30 (lv_at hl 4 rfl) ?_
      obtain ⟨g2, hM⟩ := g_some hM
      refine q_ald E hw 27 (n := 60) rfl g2 (x := (σ 26 (ix x4))) rfl dX1_finish_32 ?_
      refine lv_iload_n hx hb dX1_finish_33 rfl (lv_at hl 1 rfl) ?_
      refine lv_icmp_ne (tgt := 47) hx hb dX1_finish_34 (by decide) (fun c3 => ?_) (fun c3 => ?_)
      · replace hM := i_neg hM c3
        refine lv_iinc (v := (x4 + 1)) (lv' := [(4, .int (x4 + 1)), (0, .ref (h 42)), (1, .int x1), (2, .int x2), (3, .int x3)]) hx hb dX1_finish_47 hl (k := 4) rfl rfl (by decide) rfl (fun ls hl => ?_)
        refine lv_goto (tgt := 11) hx hb dX1_finish_50 (by decide) ?_
        exact ih _ _ _ _ _ _ _ hM _ _ hw _ (lv_sub hl [1, 2, 3, 4, 0] rfl)
      · replace hM := i_pos hM c3
        refine lv_aload_n hx hb dX1_finish_37 rfl (lv_at hl 0 rfl) ?_
        refine lv_iload hx hb dX1_finish_38 (lv_at hl 4 rfl) ?_
        refine lv_iload_n hx hb dX1_finish_40 rfl (lv_at hl 2 rfl) ?_
        obtain ⟨p4, h5, hM⟩ := b_some hM
        refine q_cvv (As := [.int x4, .int x2]) (rest := []) E hw hl (c_X1_markSolved l D cA tS A h L F x4 x2 σ p4 h5) 2 (bwV bw_c tb_564 tb_566 tb_12 tb_106 tb_567) rfl (by decide +kernel) ⟨Nat.le_of_ble_eq_true rfl, Nat.le_of_ble_eq_true rfl⟩ 12 1 (T := TX1) (N := 6) rfl rfl rfl rfl (Nat.le_of_ble_eq_true rfl) ⟨Nat.zero_le _, Nat.zero_le _⟩ dX1_finish_41 (fun H locs hw => ?_)
        refine lv_iinc (v := (x3 + 1)) (lv' := [(3, .int (x3 + 1)), (0, .ref (h 42)), (1, .int x1), (2, .int x2), (4, .int x4)]) hx hb dX1_finish_44 hl (k := 3) rfl rfl (by decide) rfl (fun ls hl => ?_)
        refine lv_iinc (v := (x4 + 1)) (lv' := [(4, .int (x4 + 1)), (3, .int (x3 + 1)), (0, .ref (h 42)), (1, .int x1), (2, .int x2)]) hx hb dX1_finish_47 hl (k := 4) rfl rfl (by decide) rfl (fun ls hl => ?_)
        refine lv_goto (tgt := 11) hx hb dX1_finish_50 (by decide) ?_
        exact ih _ _ _ _ _ _ _ hM _ _ hw _ (lv_sub hl [2, 3, 4, 1, 0] rfl)
def f_X1_finish (N : Nat) (L : Nat)  (x1 : Int32) (x2 : Int32) (σ : Sg) : Option (Int32 × Sg) := (f_X1_markSolved L x1 x2 σ).bind (fun p1 => f_X1_finish_11 N L N x1 x2 1 0 p1)
set_option maxRecDepth 100000 in
set_option maxHeartbeats 4000000 in
theorem c_X1_finish (l : Launch) (D : va_G) (cA : Nat → ClassId) (tS : Nat → Nat) (A : Nat → Prop) (h : Nat → Nat) (L : Nat) (F : va_W) (N : Nat) (x1 : Int32) (x2 : Int32) (σ : Sg) (r0 : Int32) (s0 : Sg) (hM : f_X1_finish N L x1 x2 σ = some (r0, s0)) : Ct l yX1_finish (Cond.code yX1_finish cX1_finish 5 (some .int) :: bw) 2 46 D cA tS A [.ref (h 42), .int x1, .int x2] (wK cA h σ ++ (wLg cA h σ L ++ (wC cA h σ ++ F))) (some (.int r0)) (wK cA h s0 ++ (wLg cA h s0 L ++ (wC cA h s0 ++ F))) := by
  refine ct_of (by decide +kernel) (Nat.le_of_ble_eq_true rfl) ?_
  intro p e s m below meth c E hw ls hl
  replace E : Ev p cX1_finish 5 (some .int) RX1 (Cond.code yX1_finish cX1_finish 5 (some .int) :: bw) D cA tS A s m _ meth c := E
  replace hl : lv_has ls 5 [(0, .ref (h 42)), (1, .int x1), (2, .int x2)] := hl
  have hx := E.1.1
  have hb := E.1.2.1
  unfold f_X1_finish at hM
  refine lv_aload_n hx hb dX1_finish_0 rfl (lv_at hl 0 rfl) ?_
  refine lv_iload_n hx hb dX1_finish_1 rfl (lv_at hl 1 rfl) ?_
  refine lv_iload_n hx hb dX1_finish_2 rfl (lv_at hl 2 rfl) ?_
  obtain ⟨p1, h2, hM⟩ := b_some hM
  refine q_cvv (As := [.int x1, .int x2]) (rest := []) E hw hl (c_X1_markSolved l D cA tS A h L F x1 x2 σ p1 h2) 2 (bwV bw_c tb_564 tb_566 tb_12 tb_106 tb_567) rfl (by decide +kernel) ⟨Nat.le_of_ble_eq_true rfl, Nat.le_of_ble_eq_true rfl⟩ 12 1 (T := TX1) (N := 6) rfl rfl rfl rfl (Nat.le_of_ble_eq_true rfl) ⟨Nat.zero_le _, Nat.zero_le _⟩ dX1_finish_3 (fun H locs hw => ?_)
  refine lv_iconst (v := 1) hx hb dX1_finish_6 (by decide) ?_
  refine lv_istore_n (lv' := [(3, .int 1), (0, .ref (h 42)), (1, .int x1), (2, .int x2)]) hx hb dX1_finish_7 rfl hl (by decide) rfl (fun ls hl => ?_)
  refine lv_iconst (v := 0) hx hb dX1_finish_8 (by decide) ?_
  refine lv_istore (lv' := [(4, .int 0), (3, .int 1), (0, .ref (h 42)), (1, .int x1), (2, .int x2)]) hx hb dX1_finish_9 hl (by decide) rfl (fun ls hl => ?_)
  exact s_X1_finish_11 l D cA tS A h L F N E N _ _ _ _ _ _ _ hM _ _ hw _ (lv_sub hl [2, 3, 4, 1, 0] rfl)
def f_X1_revive    (x1 : Int32) (x2 : Int32) (σ : Sg) : Option (Sg) := if ib x1 60 then some (up (up σ 21 (ix x1) x2) 29 (ix x1) (-1)) else none
set_option maxRecDepth 100000 in
set_option maxHeartbeats 4000000 in
theorem c_X1_revive (l : Launch) (D : va_G) (cA : Nat → ClassId) (tS : Nat → Nat) (A : Nat → Prop) (h : Nat → Nat) (L : Nat) (F : va_W) (x1 : Int32) (x2 : Int32) (σ : Sg) (s0 : Sg) (hM : f_X1_revive x1 x2 σ = some s0) : Ct l yX1_revive (Cond.code yX1_revive cX1_revive 3 none :: bw) 0 0 D cA tS A [.ref (h 42), .int x1, .int x2] (wK cA h σ ++ (wLg cA h σ L ++ (wC cA h σ ++ F))) none (wK cA h s0 ++ (wLg cA h s0 L ++ (wC cA h s0 ++ F))) := by
  refine ct_of (by decide +kernel) (Nat.le_of_ble_eq_true rfl) ?_
  intro p e s m below meth c E hw ls hl
  replace E : Ev p cX1_revive 3 none RX1 (Cond.code yX1_revive cX1_revive 3 none :: bw) D cA tS A s m _ meth c := E
  replace hl : lv_has ls 3 [(0, .ref (h 42)), (1, .int x1), (2, .int x2)] := hl
  have hx := E.1.1
  have hb := E.1.2.1
  unfold f_X1_revive at hM
  refine lv_aload_n hx hb dX1_revive_0 rfl (lv_at hl 0 rfl) ?_
  refine q_get (C := RX1) (T := TX1) (N := 6) (ci := 1) E (fun w h => List.mem_cons_of_mem _ (inX1 w h)) hw 12 rfl rfl 3 (by decide) (List.mem_cons_of_mem _ tb_336) (v := .ref (h 44)) rfl dX1_revive_1 ?_
  refine q_get (C := RX7) (T := TX7) (N := 15) (ci := 7) E (fun w h => List.mem_cons_of_mem _ (inX7 w h)) hw 16 rfl rfl 5 (by decide) (List.mem_cons_of_mem _ tb_274) (v := .ref (h 21)) rfl dX1_revive_4 ?_
  refine lv_iload_n hx hb dX1_revive_7 rfl (lv_at hl 1 rfl) ?_
  refine lv_iload_n hx hb dX1_revive_8 rfl (lv_at hl 2 rfl) ?_
  obtain ⟨g1, hM⟩ := g_some hM
  refine q_ast E hw 22 (n := 60) rfl g1 (wK cA h (up σ 21 (ix x1) x2) ++ (wLg cA h (up σ 21 (ix x1) x2) L ++ (wC cA h (up σ 21 (ix x1) x2) ++ F))) st_K_Lg_C_21 dX1_revive_9 (fun H locs hw => ?_)
  refine lv_aload_n hx hb dX1_revive_10 rfl (lv_at hl 0 rfl) ?_
  refine q_get (C := RX1) (T := TX1) (N := 6) (ci := 1) E (fun w h => List.mem_cons_of_mem _ (inX1 w h)) hw 12 rfl rfl 3 (by decide) (List.mem_cons_of_mem _ tb_336) (v := .ref (h 44)) rfl dX1_revive_11 ?_
  refine q_get (C := RX7) (T := TX7) (N := 15) (ci := 7) E (fun w h => List.mem_cons_of_mem _ (inX7 w h)) hw 16 rfl rfl 13 (by decide) (List.mem_cons_of_mem _ tb_296) (v := .ref (h 29)) rfl dX1_revive_14 ?_
  refine lv_iload_n hx hb dX1_revive_17 rfl (lv_at hl 1 rfl) ?_
  refine lv_iconst (v := (-1)) hx hb dX1_revive_18 (by decide) ?_
  refine q_ast E hw 30 (n := 60) rfl g1 (wK cA h (up (up σ 21 (ix x1) x2) 29 (ix x1) (-1)) ++ (wLg cA h (up (up σ 21 (ix x1) x2) 29 (ix x1) (-1)) L ++ (wC cA h (up (up σ 21 (ix x1) x2) 29 (ix x1) (-1)) ++ F))) st_K_Lg_C_29 dX1_revive_19 (fun H locs hw => ?_)
  cases hM
  exact q_retv E hw dX1_revive_20
def f_X1_reviveWithTwins_45 (N : Nat) (L : Nat)  : Nat → Int32 → Int32 → Int32 → Sg → Option (Int32 × Sg)
  | 0, _, _, _, _ => none
  | n + 1, x1, x2, x3, σ => (if (σ 15 0) ≤ x3 then some (x2, σ) else if ib x3 60 then (if (σ 26 (ix x3)) = x1 then (f_X1_revive x3 4 σ).bind (fun p4 => f_X1_reviveWithTwins_45 N L n x1 (x2 + 1) (x3 + 1) p4) else f_X1_reviveWithTwins_45 N L n x1 x2 (x3 + 1) σ) else none)
set_option maxRecDepth 100000 in
set_option maxHeartbeats 4000000 in
theorem s_X1_reviveWithTwins_45 (l : Launch) (D : va_G) (cA : Nat → ClassId) (tS : Nat → Nat) (A : Nat → Prop) (h : Nat → Nat) (L : Nat) (F : va_W) (N : Nat) {p : Program} {e : Env} {s : State} {m : MethodId} {args : Array Value} {below : List Frame} {meth : Method} {c : Code} (E : Ev p cX1_reviveWithTwins 4 (some .int) RX1 (Cond.code yX1_reviveWithTwins cX1_reviveWithTwins 4 (some .int) :: bw) D cA tS A s m args meth c) : ∀ (n : Nat) (x1 : Int32) (x2 : Int32) (x3 : Int32) (σ : Sg) (r0 : Int32) (s0 : Sg) (hM : f_X1_reviveWithTwins_45 N L n x1 x2 x3 σ = some (r0, s0)) (H : Heap) (locs : List Loc) (hw : Wd D A (wK cA h σ ++ (wLg cA h σ L ++ (wC cA h σ ++ F))) s.heap H locs) (ls : Array Slot) (hl : lv_has ls 4 [(0, .ref (h 42)), (1, .int x1), (2, .int x2), (3, .int x3)]), W p l e ({ frames := 1, cells := 0, slots := 0, locals := 24 } : Room) s m args below meth c H locs 0 0 (MQ below (QW D A (some (.int r0)) (wK cA h s0 ++ (wLg cA h s0 L ++ (wC cA h s0 ++ F)))) args s 0 0 A) (F0 m 45 ls []) := by
  have hx := E.1.1
  have hb := E.1.2.1
  intro n
  induction n with
  | zero =>
    intro x1 x2 x3 σ r0 s0 hM
    cases hM
  | succ n ih =>
    intro x1 x2 x3 σ r0 s0 hM H locs hw ls hl
    rw [f_X1_reviveWithTwins_45] at hM
    refine lv_iload_n hx hb dX1_reviveWithTwins_45 rfl (lv_at hl 3 rfl) ?_
    refine lv_aload_n hx hb dX1_reviveWithTwins_46 rfl (lv_at hl 0 rfl) ?_
    refine q_get (C := RX1) (T := TX1) (N := 6) (ci := 1) E (fun w h => List.mem_cons_of_mem _ (inX1 w h)) hw 12 rfl rfl 3 (by decide) (List.mem_cons_of_mem _ tb_336) (v := .ref (h 44)) rfl dX1_reviveWithTwins_47 ?_
    refine q_get (C := RX7) (T := TX7) (N := 15) (ci := 7) E (fun w h => List.mem_cons_of_mem _ (inX7 w h)) hw 16 rfl rfl 14 (by decide) (List.mem_cons_of_mem _ tb_299) (v := .int (σ 15 0)) rfl dX1_reviveWithTwins_50 ?_
    refine lv_icmp_ge (tgt := 84) hx hb dX1_reviveWithTwins_53 (by decide) (fun c1 => ?_) (fun c1 => ?_)
    · replace hM := i_pos hM c1
      refine lv_iload_n hx hb dX1_reviveWithTwins_84 rfl (lv_at hl 2 rfl) ?_
      cases hM
      exact q_reti E hw dX1_reviveWithTwins_85
    · replace hM := i_neg hM c1
      refine lv_aload_n hx hb dX1_reviveWithTwins_56 rfl (lv_at hl 0 rfl) ?_
      refine q_get (C := RX1) (T := TX1) (N := 6) (ci := 1) E (fun w h => List.mem_cons_of_mem _ (inX1 w h)) hw 12 rfl rfl 3 (by decide) (List.mem_cons_of_mem _ tb_336) (v := .ref (h 44)) rfl dX1_reviveWithTwins_57 ?_
      refine q_get (C := RX7) (T := TX7) (N := 15) (ci := 7) E (fun w h => List.mem_cons_of_mem _ (inX7 w h)) hw 16 rfl rfl 10 (by decide) (List.mem_cons_of_mem _ tb_288) (v := .ref (h 26)) rfl dX1_reviveWithTwins_60 ?_
      refine lv_iload_n hx hb dX1_reviveWithTwins_63 rfl (lv_at hl 3 rfl) ?_
      obtain ⟨g2, hM⟩ := g_some hM
      refine q_ald E hw 27 (n := 60) rfl g2 (x := (σ 26 (ix x3))) rfl dX1_reviveWithTwins_64 ?_
      refine lv_iload_n hx hb dX1_reviveWithTwins_65 rfl (lv_at hl 1 rfl) ?_
      refine lv_icmp_ne (tgt := 78) hx hb dX1_reviveWithTwins_66 (by decide) (fun c3 => ?_) (fun c3 => ?_)
      · replace hM := i_neg hM c3
        refine lv_iinc (v := (x3 + 1)) (lv' := [(3, .int (x3 + 1)), (0, .ref (h 42)), (1, .int x1), (2, .int x2)]) hx hb dX1_reviveWithTwins_78 hl (k := 3) rfl rfl (by decide) rfl (fun ls hl => ?_)
        refine lv_goto (tgt := 45) hx hb dX1_reviveWithTwins_81 (by decide) ?_
        exact ih _ _ _ _ _ _ hM _ _ hw _ (lv_sub hl [1, 2, 3, 0] rfl)
      · replace hM := i_pos hM c3
        refine lv_aload_n hx hb dX1_reviveWithTwins_69 rfl (lv_at hl 0 rfl) ?_
        refine lv_iload_n hx hb dX1_reviveWithTwins_70 rfl (lv_at hl 3 rfl) ?_
        refine lv_iconst (v := 4) hx hb dX1_reviveWithTwins_71 (by decide) ?_
        obtain ⟨p4, h5, hM⟩ := b_some hM
        refine q_cvv (As := [.int x3, .int 4]) (rest := []) E hw hl (c_X1_revive l D cA tS A h L F x3 4 σ p4 h5) 2 (bwV bw_c tb_572 tb_574 tb_14 tb_106 tb_575) rfl (by decide +kernel) ⟨Nat.le_of_ble_eq_true rfl, Nat.le_of_ble_eq_true rfl⟩ 12 1 (T := TX1) (N := 6) rfl rfl rfl rfl (Nat.le_of_ble_eq_true rfl) ⟨Nat.zero_le _, Nat.zero_le _⟩ dX1_reviveWithTwins_72 (fun H locs hw => ?_)
        refine lv_iinc (v := (x2 + 1)) (lv' := [(2, .int (x2 + 1)), (0, .ref (h 42)), (1, .int x1), (3, .int x3)]) hx hb dX1_reviveWithTwins_75 hl (k := 2) rfl rfl (by decide) rfl (fun ls hl => ?_)
        refine lv_iinc (v := (x3 + 1)) (lv' := [(3, .int (x3 + 1)), (2, .int (x2 + 1)), (0, .ref (h 42)), (1, .int x1)]) hx hb dX1_reviveWithTwins_78 hl (k := 3) rfl rfl (by decide) rfl (fun ls hl => ?_)
        refine lv_goto (tgt := 45) hx hb dX1_reviveWithTwins_81 (by decide) ?_
        exact ih _ _ _ _ _ _ hM _ _ hw _ (lv_sub hl [2, 3, 1, 0] rfl)
def f_X1_reviveWithTwins (N : Nat) (L : Nat)  (x1 : Int32) (σ : Sg) : Option (Int32 × Sg) := (f_X1_revive x1 0 σ).bind (fun p1 => if ib x1 60 then (f_X4_write L (p1 12 0) 10 x1 0 (up (up p1 22 (ix x1) 0) 23 (ix x1) 0)).bind (fun p4 => f_X1_reviveWithTwins_45 N L N x1 1 0 p4) else none)
set_option maxRecDepth 100000 in
set_option maxHeartbeats 4000000 in
theorem c_X1_reviveWithTwins (l : Launch) (D : va_G) (cA : Nat → ClassId) (tS : Nat → Nat) (A : Nat → Prop) (h : Nat → Nat) (L : Nat) (F : va_W) (N : Nat) (x1 : Int32) (σ : Sg) (r0 : Int32) (s0 : Sg) (hM : f_X1_reviveWithTwins N L x1 σ = some (r0, s0)) : Ct l yX1_reviveWithTwins (Cond.code yX1_reviveWithTwins cX1_reviveWithTwins 4 (some .int) :: bw) 1 24 D cA tS A [.ref (h 42), .int x1] (wK cA h σ ++ (wLg cA h σ L ++ (wC cA h σ ++ F))) (some (.int r0)) (wK cA h s0 ++ (wLg cA h s0 L ++ (wC cA h s0 ++ F))) := by
  refine ct_of (by decide +kernel) (Nat.le_of_ble_eq_true rfl) ?_
  intro p e s m below meth c E hw ls hl
  replace E : Ev p cX1_reviveWithTwins 4 (some .int) RX1 (Cond.code yX1_reviveWithTwins cX1_reviveWithTwins 4 (some .int) :: bw) D cA tS A s m _ meth c := E
  replace hl : lv_has ls 4 [(0, .ref (h 42)), (1, .int x1)] := hl
  have hx := E.1.1
  have hb := E.1.2.1
  unfold f_X1_reviveWithTwins at hM
  refine lv_aload_n hx hb dX1_reviveWithTwins_0 rfl (lv_at hl 0 rfl) ?_
  refine lv_iload_n hx hb dX1_reviveWithTwins_1 rfl (lv_at hl 1 rfl) ?_
  refine lv_iconst (v := 0) hx hb dX1_reviveWithTwins_2 (by decide) ?_
  obtain ⟨p1, h2, hM⟩ := b_some hM
  refine q_cvv (As := [.int x1, .int 0]) (rest := []) E hw hl (c_X1_revive l D cA tS A h L F x1 0 σ p1 h2) 2 (bwV bw_c tb_572 tb_574 tb_14 tb_106 tb_575) rfl (by decide +kernel) ⟨Nat.le_of_ble_eq_true rfl, Nat.le_of_ble_eq_true rfl⟩ 12 1 (T := TX1) (N := 6) rfl rfl rfl rfl (Nat.le_of_ble_eq_true rfl) ⟨Nat.zero_le _, Nat.zero_le _⟩ dX1_reviveWithTwins_3 (fun H locs hw => ?_)
  refine lv_aload_n hx hb dX1_reviveWithTwins_6 rfl (lv_at hl 0 rfl) ?_
  refine q_get (C := RX1) (T := TX1) (N := 6) (ci := 1) E (fun w h => List.mem_cons_of_mem _ (inX1 w h)) hw 12 rfl rfl 3 (by decide) (List.mem_cons_of_mem _ tb_336) (v := .ref (h 44)) rfl dX1_reviveWithTwins_7 ?_
  refine q_get (C := RX7) (T := TX7) (N := 15) (ci := 7) E (fun w h => List.mem_cons_of_mem _ (inX7 w h)) hw 16 rfl rfl 6 (by decide) (List.mem_cons_of_mem _ tb_277) (v := .ref (h 22)) rfl dX1_reviveWithTwins_10 ?_
  refine lv_iload_n hx hb dX1_reviveWithTwins_13 rfl (lv_at hl 1 rfl) ?_
  refine lv_iconst (v := 0) hx hb dX1_reviveWithTwins_14 (by decide) ?_
  obtain ⟨g3, hM⟩ := g_some hM
  refine q_ast E hw 23 (n := 60) rfl g3 (wK cA h (up p1 22 (ix x1) 0) ++ (wLg cA h (up p1 22 (ix x1) 0) L ++ (wC cA h (up p1 22 (ix x1) 0) ++ F))) st_K_Lg_C_22 dX1_reviveWithTwins_15 (fun H locs hw => ?_)
  refine lv_aload_n hx hb dX1_reviveWithTwins_16 rfl (lv_at hl 0 rfl) ?_
  refine q_get (C := RX1) (T := TX1) (N := 6) (ci := 1) E (fun w h => List.mem_cons_of_mem _ (inX1 w h)) hw 12 rfl rfl 3 (by decide) (List.mem_cons_of_mem _ tb_336) (v := .ref (h 44)) rfl dX1_reviveWithTwins_17 ?_
  refine q_get (C := RX7) (T := TX7) (N := 15) (ci := 7) E (fun w h => List.mem_cons_of_mem _ (inX7 w h)) hw 16 rfl rfl 7 (by decide) (List.mem_cons_of_mem _ tb_280) (v := .ref (h 23)) rfl dX1_reviveWithTwins_20 ?_
  refine lv_iload_n hx hb dX1_reviveWithTwins_23 rfl (lv_at hl 1 rfl) ?_
  refine lv_iconst (v := 0) hx hb dX1_reviveWithTwins_24 (by decide) ?_
  refine q_ast E hw 24 (n := 60) rfl g3 (wK cA h (up (up p1 22 (ix x1) 0) 23 (ix x1) 0) ++ (wLg cA h (up (up p1 22 (ix x1) 0) 23 (ix x1) 0) L ++ (wC cA h (up (up p1 22 (ix x1) 0) 23 (ix x1) 0) ++ F))) st_K_Lg_C_23 dX1_reviveWithTwins_25 (fun H locs hw => ?_)
  refine lv_aload_n hx hb dX1_reviveWithTwins_26 rfl (lv_at hl 0 rfl) ?_
  refine q_get (C := RX1) (T := TX1) (N := 6) (ci := 1) E (fun w h => List.mem_cons_of_mem _ (inX1 w h)) hw 12 rfl rfl 1 (by decide) (List.mem_cons_of_mem _ tb_333) (v := .ref (h 41)) rfl dX1_reviveWithTwins_27 ?_
  refine lv_aload_n hx hb dX1_reviveWithTwins_30 rfl (lv_at hl 0 rfl) ?_
  refine q_get (C := RX1) (T := TX1) (N := 6) (ci := 1) E (fun w h => List.mem_cons_of_mem _ (inX1 w h)) hw 12 rfl rfl 5 (by decide) (List.mem_cons_of_mem _ tb_340) (v := .int (p1 12 0)) (q_fld (congrFun ((up_ne (up p1 22 (ix x1) 0) 23 (ix x1) 0 12 (by decide)).trans (up_ne p1 22 (ix x1) 0 12 (by decide))) 0) rfl) dX1_reviveWithTwins_31 ?_
  refine lv_bipush (v := 10) hx hb dX1_reviveWithTwins_34 (by decide) ?_
  refine lv_iload_n hx hb dX1_reviveWithTwins_36 rfl (lv_at hl 1 rfl) ?_
  refine lv_iconst (v := 0) hx hb dX1_reviveWithTwins_37 (by decide) ?_
  obtain ⟨p4, h5, hM⟩ := b_some hM
  refine q_cvv (As := [.int (p1 12 0), .int 10, .int x1, .int 0]) (rest := []) E hw hl (c_X4_write l D cA tS A h L F (p1 12 0) 10 x1 0 (up (up p1 22 (ix x1) 0) 23 (ix x1) 0) p4 h5) 4 (bwV bw_c tb_548 tb_549 tb_550 tb_103 tb_551) rfl (by decide +kernel) ⟨Nat.le_of_ble_eq_true rfl, Nat.le_of_ble_eq_true rfl⟩ 7 4 (T := TX4) (N := 5) rfl rfl rfl rfl (Nat.le_of_ble_eq_true rfl) ⟨Nat.zero_le _, Nat.zero_le _⟩ dX1_reviveWithTwins_38 (fun H locs hw => ?_)
  refine lv_iconst (v := 1) hx hb dX1_reviveWithTwins_41 (by decide) ?_
  refine lv_istore_n (lv' := [(2, .int 1), (0, .ref (h 42)), (1, .int x1)]) hx hb dX1_reviveWithTwins_42 rfl hl (by decide) rfl (fun ls hl => ?_)
  refine lv_iconst (v := 0) hx hb dX1_reviveWithTwins_43 (by decide) ?_
  refine lv_istore_n (lv' := [(3, .int 0), (2, .int 1), (0, .ref (h 42)), (1, .int x1)]) hx hb dX1_reviveWithTwins_44 rfl hl (by decide) rfl (fun ls hl => ?_)
  exact s_X1_reviveWithTwins_45 l D cA tS A h L F N E N _ _ _ _ _ _ hM _ _ hw _ (lv_sub hl [2, 3, 1, 0] rfl)
def f_X7_twinMask_5 (N : Nat)   : Nat → Int32 → Int64 → Int32 → Sg → Option (Int64)
  | 0, _, _, _, _ => none
  | n + 1, x1, y2, x4, σ => (if (σ 15 0) ≤ x4 then some y2 else if ib x4 60 then (if (σ 26 (ix x4)) = x1 then f_X7_twinMask_5 N n x1 (y2 ||| (1 <<< ((x4 : Int32).toInt64 &&& 63))) (x4 + 1) σ else f_X7_twinMask_5 N n x1 y2 (x4 + 1) σ) else none)
set_option maxRecDepth 100000 in
set_option maxHeartbeats 4000000 in
theorem s_X7_twinMask_5 (l : Launch) (D : va_G) (cA : Nat → ClassId) (tS : Nat → Nat) (A : Nat → Prop) (h : Nat → Nat) (L : Nat) (F : va_W) (N : Nat) {p : Program} {e : Env} {s : State} {m : MethodId} {args : Array Value} {below : List Frame} {meth : Method} {c : Code} (E : Ev p cX7_twinMask 5 (some .long) RX7 (Cond.code yX7_twinMask cX7_twinMask 5 (some .long) :: bw) D cA tS A s m args meth c) : ∀ (n : Nat) (x1 : Int32) (y2 : Int64) (x4 : Int32) (σ : Sg) (r0 : Int64) (hM : f_X7_twinMask_5 N n x1 y2 x4 σ = some r0) (H : Heap) (locs : List Loc) (hw : Wd D A (wK cA h σ ++ (wLg cA h σ L ++ (wC cA h σ ++ F))) s.heap H locs) (ls : Array Slot) (hl : lv_has ls 5 [(0, .ref (h 44)), (1, .int x1), (2, .long y2), (4, .int x4)]), W p l e ({ frames := 0, cells := 0, slots := 0, locals := 0 } : Room) s m args below meth c H locs 0 0 (MQ below (QW D A (some (.long r0)) (wK cA h σ ++ (wLg cA h σ L ++ (wC cA h σ ++ F)))) args s 0 0 A) (F0 m 5 ls []) := by
  have hx := E.1.1
  have hb := E.1.2.1
  intro n
  induction n with
  | zero =>
    intro x1 y2 x4 σ r0 hM
    cases hM
  | succ n ih =>
    intro x1 y2 x4 σ r0 hM H locs hw ls hl
    rw [f_X7_twinMask_5] at hM
    refine lv_iload hx hb dX7_twinMask_5 (lv_at hl 3 rfl) ?_
    refine lv_aload_n hx hb dX7_twinMask_7 rfl (lv_at hl 0 rfl) ?_
    refine q_get (C := RX7) (T := TX7) (N := 15) (ci := 7) E (fun w h => List.mem_cons_of_mem _ (inX7 w h)) hw 16 rfl rfl 14 (by decide) (List.mem_cons_of_mem _ tb_298) (v := .int (σ 15 0)) rfl dX7_twinMask_8 ?_
    refine lv_icmp_ge (tgt := 38) hx hb dX7_twinMask_11 (by decide) (fun c1 => ?_) (fun c1 => ?_)
    · replace hM := i_pos hM c1
      refine lv_lload_n hx hb dX7_twinMask_38 rfl (lv_at hl 2 rfl) ?_
      cases hM
      exact q_retl E hw dX7_twinMask_39
    · replace hM := i_neg hM c1
      refine lv_aload_n hx hb dX7_twinMask_14 rfl (lv_at hl 0 rfl) ?_
      refine q_get (C := RX7) (T := TX7) (N := 15) (ci := 7) E (fun w h => List.mem_cons_of_mem _ (inX7 w h)) hw 16 rfl rfl 10 (by decide) (List.mem_cons_of_mem _ tb_287) (v := .ref (h 26)) rfl dX7_twinMask_15 ?_
      refine lv_iload hx hb dX7_twinMask_18 (lv_at hl 3 rfl) ?_
      obtain ⟨g2, hM⟩ := g_some hM
      refine q_ald E hw 27 (n := 60) rfl g2 (x := (σ 26 (ix x4))) rfl dX7_twinMask_20 ?_
      refine lv_iload_n hx hb dX7_twinMask_21 rfl (lv_at hl 1 rfl) ?_
      refine lv_icmp_ne (tgt := 32) hx hb dX7_twinMask_22 (by decide) (fun c3 => ?_) (fun c3 => ?_)
      · replace hM := i_neg hM c3
        refine lv_iinc (v := (x4 + 1)) (lv' := [(4, .int (x4 + 1)), (0, .ref (h 44)), (1, .int x1), (2, .long y2)]) hx hb dX7_twinMask_32 hl (k := 3) rfl rfl (by decide) rfl (fun ls hl => ?_)
        refine lv_goto (tgt := 5) hx hb dX7_twinMask_35 (by decide) ?_
        exact ih _ _ _ _ _ hM _ _ hw _ (lv_sub hl [1, 2, 3, 0] rfl)
      · replace hM := i_pos hM c3
        refine lv_lload_n hx hb dX7_twinMask_25 rfl (lv_at hl 2 rfl) ?_
        refine lv_lconst (v := 1) hx hb dX7_twinMask_26 (by decide) ?_
        refine lv_iload hx hb dX7_twinMask_27 (lv_at hl 3 rfl) ?_
        refine lv_lshl (v := (1 <<< ((x4 : Int32).toInt64 &&& 63))) hx hb dX7_twinMask_29 rfl ?_
        refine lv_lor hx hb dX7_twinMask_30 ?_
        refine lv_lstore_n (lv' := [(2, .long (y2 ||| (1 <<< ((x4 : Int32).toInt64 &&& 63)))), (0, .ref (h 44)), (1, .int x1), (4, .int x4)]) hx hb dX7_twinMask_31 rfl hl (by decide) rfl (fun ls hl => ?_)
        refine lv_iinc (v := (x4 + 1)) (lv' := [(4, .int (x4 + 1)), (2, .long (y2 ||| (1 <<< ((x4 : Int32).toInt64 &&& 63)))), (0, .ref (h 44)), (1, .int x1)]) hx hb dX7_twinMask_32 hl (k := 3) rfl rfl (by decide) rfl (fun ls hl => ?_)
        refine lv_goto (tgt := 5) hx hb dX7_twinMask_35 (by decide) ?_
        exact ih _ _ _ _ _ hM _ _ hw _ (lv_sub hl [2, 3, 1, 0] rfl)
def f_X7_twinMask (N : Nat)   (x1 : Int32) (σ : Sg) : Option (Int64) := f_X7_twinMask_5 N N x1 0 0 σ
set_option maxRecDepth 100000 in
set_option maxHeartbeats 4000000 in
theorem c_X7_twinMask (l : Launch) (D : va_G) (cA : Nat → ClassId) (tS : Nat → Nat) (A : Nat → Prop) (h : Nat → Nat) (L : Nat) (F : va_W) (N : Nat) (x1 : Int32) (σ : Sg) (r0 : Int64) (hM : f_X7_twinMask N x1 σ = some r0) : Ct l yX7_twinMask (Cond.code yX7_twinMask cX7_twinMask 5 (some .long) :: bw) 0 0 D cA tS A [.ref (h 44), .int x1] (wK cA h σ ++ (wLg cA h σ L ++ (wC cA h σ ++ F))) (some (.long r0)) (wK cA h σ ++ (wLg cA h σ L ++ (wC cA h σ ++ F))) := by
  refine ct_of (by decide +kernel) (Nat.le_of_ble_eq_true rfl) ?_
  intro p e s m below meth c E hw ls hl
  replace E : Ev p cX7_twinMask 5 (some .long) RX7 (Cond.code yX7_twinMask cX7_twinMask 5 (some .long) :: bw) D cA tS A s m _ meth c := E
  replace hl : lv_has ls 5 [(0, .ref (h 44)), (1, .int x1)] := hl
  have hx := E.1.1
  have hb := E.1.2.1
  unfold f_X7_twinMask at hM
  refine lv_lconst (v := 0) hx hb dX7_twinMask_0 (by decide) ?_
  refine lv_lstore_n (lv' := [(2, .long 0), (0, .ref (h 44)), (1, .int x1)]) hx hb dX7_twinMask_1 rfl hl (by decide) rfl (fun ls hl => ?_)
  refine lv_iconst (v := 0) hx hb dX7_twinMask_2 (by decide) ?_
  refine lv_istore (lv' := [(4, .int 0), (2, .long 0), (0, .ref (h 44)), (1, .int x1)]) hx hb dX7_twinMask_3 hl (by decide) rfl (fun ls hl => ?_)
  exact s_X7_twinMask_5 l D cA tS A h L F N E N _ _ _ _ _ hM _ _ hw _ (lv_sub hl [2, 3, 1, 0] rfl)
def f_J13_bitCount_95d88    (y0 : Int64) : Option (Int32) := some (((((((((((y0 - ((((y0 : Int64).toUInt64 >>> ((1 : Int32).toInt64.toUInt64 &&& Int64.toUInt64 63)).toInt64) &&& 6148914691236517205)) &&& 3689348814741910323) + (((((y0 - ((((y0 : Int64).toUInt64 >>> ((1 : Int32).toInt64.toUInt64 &&& Int64.toUInt64 63)).toInt64) &&& 6148914691236517205)) : Int64).toUInt64 >>> ((2 : Int32).toInt64.toUInt64 &&& Int64.toUInt64 63)).toInt64) &&& 3689348814741910323)) + ((((((y0 - ((((y0 : Int64).toUInt64 >>> ((1 : Int32).toInt64.toUInt64 &&& Int64.toUInt64 63)).toInt64) &&& 6148914691236517205)) &&& 3689348814741910323) + (((((y0 - ((((y0 : Int64).toUInt64 >>> ((1 : Int32).toInt64.toUInt64 &&& Int64.toUInt64 63)).toInt64) &&& 6148914691236517205)) : Int64).toUInt64 >>> ((2 : Int32).toInt64.toUInt64 &&& Int64.toUInt64 63)).toInt64) &&& 3689348814741910323)) : Int64).toUInt64 >>> ((4 : Int32).toInt64.toUInt64 &&& Int64.toUInt64 63)).toInt64)) &&& 1085102592571150095) + ((((((((y0 - ((((y0 : Int64).toUInt64 >>> ((1 : Int32).toInt64.toUInt64 &&& Int64.toUInt64 63)).toInt64) &&& 6148914691236517205)) &&& 3689348814741910323) + (((((y0 - ((((y0 : Int64).toUInt64 >>> ((1 : Int32).toInt64.toUInt64 &&& Int64.toUInt64 63)).toInt64) &&& 6148914691236517205)) : Int64).toUInt64 >>> ((2 : Int32).toInt64.toUInt64 &&& Int64.toUInt64 63)).toInt64) &&& 3689348814741910323)) + ((((((y0 - ((((y0 : Int64).toUInt64 >>> ((1 : Int32).toInt64.toUInt64 &&& Int64.toUInt64 63)).toInt64) &&& 6148914691236517205)) &&& 3689348814741910323) + (((((y0 - ((((y0 : Int64).toUInt64 >>> ((1 : Int32).toInt64.toUInt64 &&& Int64.toUInt64 63)).toInt64) &&& 6148914691236517205)) : Int64).toUInt64 >>> ((2 : Int32).toInt64.toUInt64 &&& Int64.toUInt64 63)).toInt64) &&& 3689348814741910323)) : Int64).toUInt64 >>> ((4 : Int32).toInt64.toUInt64 &&& Int64.toUInt64 63)).toInt64)) &&& 1085102592571150095) : Int64).toUInt64 >>> ((8 : Int32).toInt64.toUInt64 &&& Int64.toUInt64 63)).toInt64)) + (((((((((y0 - ((((y0 : Int64).toUInt64 >>> ((1 : Int32).toInt64.toUInt64 &&& Int64.toUInt64 63)).toInt64) &&& 6148914691236517205)) &&& 3689348814741910323) + (((((y0 - ((((y0 : Int64).toUInt64 >>> ((1 : Int32).toInt64.toUInt64 &&& Int64.toUInt64 63)).toInt64) &&& 6148914691236517205)) : Int64).toUInt64 >>> ((2 : Int32).toInt64.toUInt64 &&& Int64.toUInt64 63)).toInt64) &&& 3689348814741910323)) + ((((((y0 - ((((y0 : Int64).toUInt64 >>> ((1 : Int32).toInt64.toUInt64 &&& Int64.toUInt64 63)).toInt64) &&& 6148914691236517205)) &&& 3689348814741910323) + (((((y0 - ((((y0 : Int64).toUInt64 >>> ((1 : Int32).toInt64.toUInt64 &&& Int64.toUInt64 63)).toInt64) &&& 6148914691236517205)) : Int64).toUInt64 >>> ((2 : Int32).toInt64.toUInt64 &&& Int64.toUInt64 63)).toInt64) &&& 3689348814741910323)) : Int64).toUInt64 >>> ((4 : Int32).toInt64.toUInt64 &&& Int64.toUInt64 63)).toInt64)) &&& 1085102592571150095) + ((((((((y0 - ((((y0 : Int64).toUInt64 >>> ((1 : Int32).toInt64.toUInt64 &&& Int64.toUInt64 63)).toInt64) &&& 6148914691236517205)) &&& 3689348814741910323) + (((((y0 - ((((y0 : Int64).toUInt64 >>> ((1 : Int32).toInt64.toUInt64 &&& Int64.toUInt64 63)).toInt64) &&& 6148914691236517205)) : Int64).toUInt64 >>> ((2 : Int32).toInt64.toUInt64 &&& Int64.toUInt64 63)).toInt64) &&& 3689348814741910323)) + ((((((y0 - ((((y0 : Int64).toUInt64 >>> ((1 : Int32).toInt64.toUInt64 &&& Int64.toUInt64 63)).toInt64) &&& 6148914691236517205)) &&& 3689348814741910323) + (((((y0 - ((((y0 : Int64).toUInt64 >>> ((1 : Int32).toInt64.toUInt64 &&& Int64.toUInt64 63)).toInt64) &&& 6148914691236517205)) : Int64).toUInt64 >>> ((2 : Int32).toInt64.toUInt64 &&& Int64.toUInt64 63)).toInt64) &&& 3689348814741910323)) : Int64).toUInt64 >>> ((4 : Int32).toInt64.toUInt64 &&& Int64.toUInt64 63)).toInt64)) &&& 1085102592571150095) : Int64).toUInt64 >>> ((8 : Int32).toInt64.toUInt64 &&& Int64.toUInt64 63)).toInt64)) : Int64).toUInt64 >>> ((16 : Int32).toInt64.toUInt64 &&& Int64.toUInt64 63)).toInt64)) + ((((((((((y0 - ((((y0 : Int64).toUInt64 >>> ((1 : Int32).toInt64.toUInt64 &&& Int64.toUInt64 63)).toInt64) &&& 6148914691236517205)) &&& 3689348814741910323) + (((((y0 - ((((y0 : Int64).toUInt64 >>> ((1 : Int32).toInt64.toUInt64 &&& Int64.toUInt64 63)).toInt64) &&& 6148914691236517205)) : Int64).toUInt64 >>> ((2 : Int32).toInt64.toUInt64 &&& Int64.toUInt64 63)).toInt64) &&& 3689348814741910323)) + ((((((y0 - ((((y0 : Int64).toUInt64 >>> ((1 : Int32).toInt64.toUInt64 &&& Int64.toUInt64 63)).toInt64) &&& 6148914691236517205)) &&& 3689348814741910323) + (((((y0 - ((((y0 : Int64).toUInt64 >>> ((1 : Int32).toInt64.toUInt64 &&& Int64.toUInt64 63)).toInt64) &&& 6148914691236517205)) : Int64).toUInt64 >>> ((2 : Int32).toInt64.toUInt64 &&& Int64.toUInt64 63)).toInt64) &&& 3689348814741910323)) : Int64).toUInt64 >>> ((4 : Int32).toInt64.toUInt64 &&& Int64.toUInt64 63)).toInt64)) &&& 1085102592571150095) + ((((((((y0 - ((((y0 : Int64).toUInt64 >>> ((1 : Int32).toInt64.toUInt64 &&& Int64.toUInt64 63)).toInt64) &&& 6148914691236517205)) &&& 3689348814741910323) + (((((y0 - ((((y0 : Int64).toUInt64 >>> ((1 : Int32).toInt64.toUInt64 &&& Int64.toUInt64 63)).toInt64) &&& 6148914691236517205)) : Int64).toUInt64 >>> ((2 : Int32).toInt64.toUInt64 &&& Int64.toUInt64 63)).toInt64) &&& 3689348814741910323)) + ((((((y0 - ((((y0 : Int64).toUInt64 >>> ((1 : Int32).toInt64.toUInt64 &&& Int64.toUInt64 63)).toInt64) &&& 6148914691236517205)) &&& 3689348814741910323) + (((((y0 - ((((y0 : Int64).toUInt64 >>> ((1 : Int32).toInt64.toUInt64 &&& Int64.toUInt64 63)).toInt64) &&& 6148914691236517205)) : Int64).toUInt64 >>> ((2 : Int32).toInt64.toUInt64 &&& Int64.toUInt64 63)).toInt64) &&& 3689348814741910323)) : Int64).toUInt64 >>> ((4 : Int32).toInt64.toUInt64 &&& Int64.toUInt64 63)).toInt64)) &&& 1085102592571150095) : Int64).toUInt64 >>> ((8 : Int32).toInt64.toUInt64 &&& Int64.toUInt64 63)).toInt64)) + (((((((((y0 - ((((y0 : Int64).toUInt64 >>> ((1 : Int32).toInt64.toUInt64 &&& Int64.toUInt64 63)).toInt64) &&& 6148914691236517205)) &&& 3689348814741910323) + (((((y0 - ((((y0 : Int64).toUInt64 >>> ((1 : Int32).toInt64.toUInt64 &&& Int64.toUInt64 63)).toInt64) &&& 6148914691236517205)) : Int64).toUInt64 >>> ((2 : Int32).toInt64.toUInt64 &&& Int64.toUInt64 63)).toInt64) &&& 3689348814741910323)) + ((((((y0 - ((((y0 : Int64).toUInt64 >>> ((1 : Int32).toInt64.toUInt64 &&& Int64.toUInt64 63)).toInt64) &&& 6148914691236517205)) &&& 3689348814741910323) + (((((y0 - ((((y0 : Int64).toUInt64 >>> ((1 : Int32).toInt64.toUInt64 &&& Int64.toUInt64 63)).toInt64) &&& 6148914691236517205)) : Int64).toUInt64 >>> ((2 : Int32).toInt64.toUInt64 &&& Int64.toUInt64 63)).toInt64) &&& 3689348814741910323)) : Int64).toUInt64 >>> ((4 : Int32).toInt64.toUInt64 &&& Int64.toUInt64 63)).toInt64)) &&& 1085102592571150095) + ((((((((y0 - ((((y0 : Int64).toUInt64 >>> ((1 : Int32).toInt64.toUInt64 &&& Int64.toUInt64 63)).toInt64) &&& 6148914691236517205)) &&& 3689348814741910323) + (((((y0 - ((((y0 : Int64).toUInt64 >>> ((1 : Int32).toInt64.toUInt64 &&& Int64.toUInt64 63)).toInt64) &&& 6148914691236517205)) : Int64).toUInt64 >>> ((2 : Int32).toInt64.toUInt64 &&& Int64.toUInt64 63)).toInt64) &&& 3689348814741910323)) + ((((((y0 - ((((y0 : Int64).toUInt64 >>> ((1 : Int32).toInt64.toUInt64 &&& Int64.toUInt64 63)).toInt64) &&& 6148914691236517205)) &&& 3689348814741910323) + (((((y0 - ((((y0 : Int64).toUInt64 >>> ((1 : Int32).toInt64.toUInt64 &&& Int64.toUInt64 63)).toInt64) &&& 6148914691236517205)) : Int64).toUInt64 >>> ((2 : Int32).toInt64.toUInt64 &&& Int64.toUInt64 63)).toInt64) &&& 3689348814741910323)) : Int64).toUInt64 >>> ((4 : Int32).toInt64.toUInt64 &&& Int64.toUInt64 63)).toInt64)) &&& 1085102592571150095) : Int64).toUInt64 >>> ((8 : Int32).toInt64.toUInt64 &&& Int64.toUInt64 63)).toInt64)) : Int64).toUInt64 >>> ((16 : Int32).toInt64.toUInt64 &&& Int64.toUInt64 63)).toInt64)) : Int64).toUInt64 >>> ((32 : Int32).toInt64.toUInt64 &&& Int64.toUInt64 63)).toInt64)) : Int64).toInt32) &&& 127)
set_option maxRecDepth 100000 in
set_option maxHeartbeats 4000000 in
theorem c_J13_bitCount_95d88 (l : Launch) (D : va_G) (cA : Nat → ClassId) (tS : Nat → Nat) (A : Nat → Prop) (F : va_W) (y0 : Int64) (r0 : Int32) (hM : f_J13_bitCount_95d88 y0 = some r0) : Ct l yJ13_bitCount_95d88 (Cond.code yJ13_bitCount_95d88 cJ13_bitCount_95d88 2 (some .int) :: bw) 0 0 D cA tS A [.long y0] F (some (.int r0)) F := by
  refine ct_of (by decide +kernel) (Nat.le_of_ble_eq_true rfl) ?_
  intro p e s m below meth c E hw ls hl
  replace E : Ev p cJ13_bitCount_95d88 2 (some .int) RJ13 (Cond.code yJ13_bitCount_95d88 cJ13_bitCount_95d88 2 (some .int) :: bw) D cA tS A s m _ meth c := E
  replace hl : lv_has ls 2 [(0, .long y0)] := hl
  have hx := E.1.1
  have hb := E.1.2.1
  unfold f_J13_bitCount_95d88 at hM
  refine lv_lload_n hx hb dJ13_bitCount_95d88_0 rfl (lv_at hl 0 rfl) ?_
  refine lv_lload_n hx hb dJ13_bitCount_95d88_1 rfl (lv_at hl 0 rfl) ?_
  refine lv_iconst (v := 1) hx hb dJ13_bitCount_95d88_2 (by decide) ?_
  refine lv_lushr (v := (((y0 : Int64).toUInt64 >>> ((1 : Int32).toInt64.toUInt64 &&& Int64.toUInt64 63)).toInt64)) hx hb dJ13_bitCount_95d88_3 rfl ?_
  refine lv_ldc2 (v := 6148914691236517205) hx hb E.1.2.2.2.1 (E.1.2.2.2.2 _ (List.mem_cons_of_mem _ tb_587)) dJ13_bitCount_95d88_4 ?_
  refine lv_land hx hb dJ13_bitCount_95d88_7 ?_
  refine lv_lsub hx hb dJ13_bitCount_95d88_8 ?_
  refine lv_lstore_n (lv' := [(0, .long (y0 - ((((y0 : Int64).toUInt64 >>> ((1 : Int32).toInt64.toUInt64 &&& Int64.toUInt64 63)).toInt64) &&& 6148914691236517205)))]) hx hb dJ13_bitCount_95d88_9 rfl hl (by decide) rfl (fun ls hl => ?_)
  refine lv_lload_n hx hb dJ13_bitCount_95d88_10 rfl (lv_at hl 0 rfl) ?_
  refine lv_ldc2 (v := 3689348814741910323) hx hb E.1.2.2.2.1 (E.1.2.2.2.2 _ (List.mem_cons_of_mem _ tb_588)) dJ13_bitCount_95d88_11 ?_
  refine lv_land hx hb dJ13_bitCount_95d88_14 ?_
  refine lv_lload_n hx hb dJ13_bitCount_95d88_15 rfl (lv_at hl 0 rfl) ?_
  refine lv_iconst (v := 2) hx hb dJ13_bitCount_95d88_16 (by decide) ?_
  refine lv_lushr (v := ((((y0 - ((((y0 : Int64).toUInt64 >>> ((1 : Int32).toInt64.toUInt64 &&& Int64.toUInt64 63)).toInt64) &&& 6148914691236517205)) : Int64).toUInt64 >>> ((2 : Int32).toInt64.toUInt64 &&& Int64.toUInt64 63)).toInt64)) hx hb dJ13_bitCount_95d88_17 rfl ?_
  refine lv_ldc2 (v := 3689348814741910323) hx hb E.1.2.2.2.1 (E.1.2.2.2.2 _ (List.mem_cons_of_mem _ tb_588)) dJ13_bitCount_95d88_18 ?_
  refine lv_land hx hb dJ13_bitCount_95d88_21 ?_
  refine lv_ladd hx hb dJ13_bitCount_95d88_22 ?_
  refine lv_lstore_n (lv' := [(0, .long (((y0 - ((((y0 : Int64).toUInt64 >>> ((1 : Int32).toInt64.toUInt64 &&& Int64.toUInt64 63)).toInt64) &&& 6148914691236517205)) &&& 3689348814741910323) + (((((y0 - ((((y0 : Int64).toUInt64 >>> ((1 : Int32).toInt64.toUInt64 &&& Int64.toUInt64 63)).toInt64) &&& 6148914691236517205)) : Int64).toUInt64 >>> ((2 : Int32).toInt64.toUInt64 &&& Int64.toUInt64 63)).toInt64) &&& 3689348814741910323)))]) hx hb dJ13_bitCount_95d88_23 rfl hl (by decide) rfl (fun ls hl => ?_)
  refine lv_lload_n hx hb dJ13_bitCount_95d88_24 rfl (lv_at hl 0 rfl) ?_
  refine lv_lload_n hx hb dJ13_bitCount_95d88_25 rfl (lv_at hl 0 rfl) ?_
  refine lv_iconst (v := 4) hx hb dJ13_bitCount_95d88_26 (by decide) ?_
  refine lv_lushr (v := ((((((y0 - ((((y0 : Int64).toUInt64 >>> ((1 : Int32).toInt64.toUInt64 &&& Int64.toUInt64 63)).toInt64) &&& 6148914691236517205)) &&& 3689348814741910323) + (((((y0 - ((((y0 : Int64).toUInt64 >>> ((1 : Int32).toInt64.toUInt64 &&& Int64.toUInt64 63)).toInt64) &&& 6148914691236517205)) : Int64).toUInt64 >>> ((2 : Int32).toInt64.toUInt64 &&& Int64.toUInt64 63)).toInt64) &&& 3689348814741910323)) : Int64).toUInt64 >>> ((4 : Int32).toInt64.toUInt64 &&& Int64.toUInt64 63)).toInt64)) hx hb dJ13_bitCount_95d88_27 rfl ?_
  refine lv_ladd hx hb dJ13_bitCount_95d88_28 ?_
  refine lv_ldc2 (v := 1085102592571150095) hx hb E.1.2.2.2.1 (E.1.2.2.2.2 _ (List.mem_cons_of_mem _ tb_589)) dJ13_bitCount_95d88_29 ?_
  refine lv_land hx hb dJ13_bitCount_95d88_32 ?_
  refine lv_lstore_n (lv' := [(0, .long (((((y0 - ((((y0 : Int64).toUInt64 >>> ((1 : Int32).toInt64.toUInt64 &&& Int64.toUInt64 63)).toInt64) &&& 6148914691236517205)) &&& 3689348814741910323) + (((((y0 - ((((y0 : Int64).toUInt64 >>> ((1 : Int32).toInt64.toUInt64 &&& Int64.toUInt64 63)).toInt64) &&& 6148914691236517205)) : Int64).toUInt64 >>> ((2 : Int32).toInt64.toUInt64 &&& Int64.toUInt64 63)).toInt64) &&& 3689348814741910323)) + ((((((y0 - ((((y0 : Int64).toUInt64 >>> ((1 : Int32).toInt64.toUInt64 &&& Int64.toUInt64 63)).toInt64) &&& 6148914691236517205)) &&& 3689348814741910323) + (((((y0 - ((((y0 : Int64).toUInt64 >>> ((1 : Int32).toInt64.toUInt64 &&& Int64.toUInt64 63)).toInt64) &&& 6148914691236517205)) : Int64).toUInt64 >>> ((2 : Int32).toInt64.toUInt64 &&& Int64.toUInt64 63)).toInt64) &&& 3689348814741910323)) : Int64).toUInt64 >>> ((4 : Int32).toInt64.toUInt64 &&& Int64.toUInt64 63)).toInt64)) &&& 1085102592571150095))]) hx hb dJ13_bitCount_95d88_33 rfl hl (by decide) rfl (fun ls hl => ?_)
  refine lv_lload_n hx hb dJ13_bitCount_95d88_34 rfl (lv_at hl 0 rfl) ?_
  refine lv_lload_n hx hb dJ13_bitCount_95d88_35 rfl (lv_at hl 0 rfl) ?_
  refine lv_bipush (v := 8) hx hb dJ13_bitCount_95d88_36 (by decide) ?_
  refine lv_lushr (v := ((((((((y0 - ((((y0 : Int64).toUInt64 >>> ((1 : Int32).toInt64.toUInt64 &&& Int64.toUInt64 63)).toInt64) &&& 6148914691236517205)) &&& 3689348814741910323) + (((((y0 - ((((y0 : Int64).toUInt64 >>> ((1 : Int32).toInt64.toUInt64 &&& Int64.toUInt64 63)).toInt64) &&& 6148914691236517205)) : Int64).toUInt64 >>> ((2 : Int32).toInt64.toUInt64 &&& Int64.toUInt64 63)).toInt64) &&& 3689348814741910323)) + ((((((y0 - ((((y0 : Int64).toUInt64 >>> ((1 : Int32).toInt64.toUInt64 &&& Int64.toUInt64 63)).toInt64) &&& 6148914691236517205)) &&& 3689348814741910323) + (((((y0 - ((((y0 : Int64).toUInt64 >>> ((1 : Int32).toInt64.toUInt64 &&& Int64.toUInt64 63)).toInt64) &&& 6148914691236517205)) : Int64).toUInt64 >>> ((2 : Int32).toInt64.toUInt64 &&& Int64.toUInt64 63)).toInt64) &&& 3689348814741910323)) : Int64).toUInt64 >>> ((4 : Int32).toInt64.toUInt64 &&& Int64.toUInt64 63)).toInt64)) &&& 1085102592571150095) : Int64).toUInt64 >>> ((8 : Int32).toInt64.toUInt64 &&& Int64.toUInt64 63)).toInt64)) hx hb dJ13_bitCount_95d88_38 rfl ?_
  refine lv_ladd hx hb dJ13_bitCount_95d88_39 ?_
  refine lv_lstore_n (lv' := [(0, .long ((((((y0 - ((((y0 : Int64).toUInt64 >>> ((1 : Int32).toInt64.toUInt64 &&& Int64.toUInt64 63)).toInt64) &&& 6148914691236517205)) &&& 3689348814741910323) + (((((y0 - ((((y0 : Int64).toUInt64 >>> ((1 : Int32).toInt64.toUInt64 &&& Int64.toUInt64 63)).toInt64) &&& 6148914691236517205)) : Int64).toUInt64 >>> ((2 : Int32).toInt64.toUInt64 &&& Int64.toUInt64 63)).toInt64) &&& 3689348814741910323)) + ((((((y0 - ((((y0 : Int64).toUInt64 >>> ((1 : Int32).toInt64.toUInt64 &&& Int64.toUInt64 63)).toInt64) &&& 6148914691236517205)) &&& 3689348814741910323) + (((((y0 - ((((y0 : Int64).toUInt64 >>> ((1 : Int32).toInt64.toUInt64 &&& Int64.toUInt64 63)).toInt64) &&& 6148914691236517205)) : Int64).toUInt64 >>> ((2 : Int32).toInt64.toUInt64 &&& Int64.toUInt64 63)).toInt64) &&& 3689348814741910323)) : Int64).toUInt64 >>> ((4 : Int32).toInt64.toUInt64 &&& Int64.toUInt64 63)).toInt64)) &&& 1085102592571150095) + ((((((((y0 - ((((y0 : Int64).toUInt64 >>> ((1 : Int32).toInt64.toUInt64 &&& Int64.toUInt64 63)).toInt64) &&& 6148914691236517205)) &&& 3689348814741910323) + (((((y0 - ((((y0 : Int64).toUInt64 >>> ((1 : Int32).toInt64.toUInt64 &&& Int64.toUInt64 63)).toInt64) &&& 6148914691236517205)) : Int64).toUInt64 >>> ((2 : Int32).toInt64.toUInt64 &&& Int64.toUInt64 63)).toInt64) &&& 3689348814741910323)) + ((((((y0 - ((((y0 : Int64).toUInt64 >>> ((1 : Int32).toInt64.toUInt64 &&& Int64.toUInt64 63)).toInt64) &&& 6148914691236517205)) &&& 3689348814741910323) + (((((y0 - ((((y0 : Int64).toUInt64 >>> ((1 : Int32).toInt64.toUInt64 &&& Int64.toUInt64 63)).toInt64) &&& 6148914691236517205)) : Int64).toUInt64 >>> ((2 : Int32).toInt64.toUInt64 &&& Int64.toUInt64 63)).toInt64) &&& 3689348814741910323)) : Int64).toUInt64 >>> ((4 : Int32).toInt64.toUInt64 &&& Int64.toUInt64 63)).toInt64)) &&& 1085102592571150095) : Int64).toUInt64 >>> ((8 : Int32).toInt64.toUInt64 &&& Int64.toUInt64 63)).toInt64)))]) hx hb dJ13_bitCount_95d88_40 rfl hl (by decide) rfl (fun ls hl => ?_)
  refine lv_lload_n hx hb dJ13_bitCount_95d88_41 rfl (lv_at hl 0 rfl) ?_
  refine lv_lload_n hx hb dJ13_bitCount_95d88_42 rfl (lv_at hl 0 rfl) ?_
  refine lv_bipush (v := 16) hx hb dJ13_bitCount_95d88_43 (by decide) ?_
  refine lv_lushr (v := (((((((((y0 - ((((y0 : Int64).toUInt64 >>> ((1 : Int32).toInt64.toUInt64 &&& Int64.toUInt64 63)).toInt64) &&& 6148914691236517205)) &&& 3689348814741910323) + (((((y0 - ((((y0 : Int64).toUInt64 >>> ((1 : Int32).toInt64.toUInt64 &&& Int64.toUInt64 63)).toInt64) &&& 6148914691236517205)) : Int64).toUInt64 >>> ((2 : Int32).toInt64.toUInt64 &&& Int64.toUInt64 63)).toInt64) &&& 3689348814741910323)) + ((((((y0 - ((((y0 : Int64).toUInt64 >>> ((1 : Int32).toInt64.toUInt64 &&& Int64.toUInt64 63)).toInt64) &&& 6148914691236517205)) &&& 3689348814741910323) + (((((y0 - ((((y0 : Int64).toUInt64 >>> ((1 : Int32).toInt64.toUInt64 &&& Int64.toUInt64 63)).toInt64) &&& 6148914691236517205)) : Int64).toUInt64 >>> ((2 : Int32).toInt64.toUInt64 &&& Int64.toUInt64 63)).toInt64) &&& 3689348814741910323)) : Int64).toUInt64 >>> ((4 : Int32).toInt64.toUInt64 &&& Int64.toUInt64 63)).toInt64)) &&& 1085102592571150095) + ((((((((y0 - ((((y0 : Int64).toUInt64 >>> ((1 : Int32).toInt64.toUInt64 &&& Int64.toUInt64 63)).toInt64) &&& 6148914691236517205)) &&& 3689348814741910323) + (((((y0 - ((((y0 : Int64).toUInt64 >>> ((1 : Int32).toInt64.toUInt64 &&& Int64.toUInt64 63)).toInt64) &&& 6148914691236517205)) : Int64).toUInt64 >>> ((2 : Int32).toInt64.toUInt64 &&& Int64.toUInt64 63)).toInt64) &&& 3689348814741910323)) + ((((((y0 - ((((y0 : Int64).toUInt64 >>> ((1 : Int32).toInt64.toUInt64 &&& Int64.toUInt64 63)).toInt64) &&& 6148914691236517205)) &&& 3689348814741910323) + (((((y0 - ((((y0 : Int64).toUInt64 >>> ((1 : Int32).toInt64.toUInt64 &&& Int64.toUInt64 63)).toInt64) &&& 6148914691236517205)) : Int64).toUInt64 >>> ((2 : Int32).toInt64.toUInt64 &&& Int64.toUInt64 63)).toInt64) &&& 3689348814741910323)) : Int64).toUInt64 >>> ((4 : Int32).toInt64.toUInt64 &&& Int64.toUInt64 63)).toInt64)) &&& 1085102592571150095) : Int64).toUInt64 >>> ((8 : Int32).toInt64.toUInt64 &&& Int64.toUInt64 63)).toInt64)) : Int64).toUInt64 >>> ((16 : Int32).toInt64.toUInt64 &&& Int64.toUInt64 63)).toInt64)) hx hb dJ13_bitCount_95d88_45 rfl ?_
  refine lv_ladd hx hb dJ13_bitCount_95d88_46 ?_
  refine lv_lstore_n (lv' := [(0, .long (((((((y0 - ((((y0 : Int64).toUInt64 >>> ((1 : Int32).toInt64.toUInt64 &&& Int64.toUInt64 63)).toInt64) &&& 6148914691236517205)) &&& 3689348814741910323) + (((((y0 - ((((y0 : Int64).toUInt64 >>> ((1 : Int32).toInt64.toUInt64 &&& Int64.toUInt64 63)).toInt64) &&& 6148914691236517205)) : Int64).toUInt64 >>> ((2 : Int32).toInt64.toUInt64 &&& Int64.toUInt64 63)).toInt64) &&& 3689348814741910323)) + ((((((y0 - ((((y0 : Int64).toUInt64 >>> ((1 : Int32).toInt64.toUInt64 &&& Int64.toUInt64 63)).toInt64) &&& 6148914691236517205)) &&& 3689348814741910323) + (((((y0 - ((((y0 : Int64).toUInt64 >>> ((1 : Int32).toInt64.toUInt64 &&& Int64.toUInt64 63)).toInt64) &&& 6148914691236517205)) : Int64).toUInt64 >>> ((2 : Int32).toInt64.toUInt64 &&& Int64.toUInt64 63)).toInt64) &&& 3689348814741910323)) : Int64).toUInt64 >>> ((4 : Int32).toInt64.toUInt64 &&& Int64.toUInt64 63)).toInt64)) &&& 1085102592571150095) + ((((((((y0 - ((((y0 : Int64).toUInt64 >>> ((1 : Int32).toInt64.toUInt64 &&& Int64.toUInt64 63)).toInt64) &&& 6148914691236517205)) &&& 3689348814741910323) + (((((y0 - ((((y0 : Int64).toUInt64 >>> ((1 : Int32).toInt64.toUInt64 &&& Int64.toUInt64 63)).toInt64) &&& 6148914691236517205)) : Int64).toUInt64 >>> ((2 : Int32).toInt64.toUInt64 &&& Int64.toUInt64 63)).toInt64) &&& 3689348814741910323)) + ((((((y0 - ((((y0 : Int64).toUInt64 >>> ((1 : Int32).toInt64.toUInt64 &&& Int64.toUInt64 63)).toInt64) &&& 6148914691236517205)) &&& 3689348814741910323) + (((((y0 - ((((y0 : Int64).toUInt64 >>> ((1 : Int32).toInt64.toUInt64 &&& Int64.toUInt64 63)).toInt64) &&& 6148914691236517205)) : Int64).toUInt64 >>> ((2 : Int32).toInt64.toUInt64 &&& Int64.toUInt64 63)).toInt64) &&& 3689348814741910323)) : Int64).toUInt64 >>> ((4 : Int32).toInt64.toUInt64 &&& Int64.toUInt64 63)).toInt64)) &&& 1085102592571150095) : Int64).toUInt64 >>> ((8 : Int32).toInt64.toUInt64 &&& Int64.toUInt64 63)).toInt64)) + (((((((((y0 - ((((y0 : Int64).toUInt64 >>> ((1 : Int32).toInt64.toUInt64 &&& Int64.toUInt64 63)).toInt64) &&& 6148914691236517205)) &&& 3689348814741910323) + (((((y0 - ((((y0 : Int64).toUInt64 >>> ((1 : Int32).toInt64.toUInt64 &&& Int64.toUInt64 63)).toInt64) &&& 6148914691236517205)) : Int64).toUInt64 >>> ((2 : Int32).toInt64.toUInt64 &&& Int64.toUInt64 63)).toInt64) &&& 3689348814741910323)) + ((((((y0 - ((((y0 : Int64).toUInt64 >>> ((1 : Int32).toInt64.toUInt64 &&& Int64.toUInt64 63)).toInt64) &&& 6148914691236517205)) &&& 3689348814741910323) + (((((y0 - ((((y0 : Int64).toUInt64 >>> ((1 : Int32).toInt64.toUInt64 &&& Int64.toUInt64 63)).toInt64) &&& 6148914691236517205)) : Int64).toUInt64 >>> ((2 : Int32).toInt64.toUInt64 &&& Int64.toUInt64 63)).toInt64) &&& 3689348814741910323)) : Int64).toUInt64 >>> ((4 : Int32).toInt64.toUInt64 &&& Int64.toUInt64 63)).toInt64)) &&& 1085102592571150095) + ((((((((y0 - ((((y0 : Int64).toUInt64 >>> ((1 : Int32).toInt64.toUInt64 &&& Int64.toUInt64 63)).toInt64) &&& 6148914691236517205)) &&& 3689348814741910323) + (((((y0 - ((((y0 : Int64).toUInt64 >>> ((1 : Int32).toInt64.toUInt64 &&& Int64.toUInt64 63)).toInt64) &&& 6148914691236517205)) : Int64).toUInt64 >>> ((2 : Int32).toInt64.toUInt64 &&& Int64.toUInt64 63)).toInt64) &&& 3689348814741910323)) + ((((((y0 - ((((y0 : Int64).toUInt64 >>> ((1 : Int32).toInt64.toUInt64 &&& Int64.toUInt64 63)).toInt64) &&& 6148914691236517205)) &&& 3689348814741910323) + (((((y0 - ((((y0 : Int64).toUInt64 >>> ((1 : Int32).toInt64.toUInt64 &&& Int64.toUInt64 63)).toInt64) &&& 6148914691236517205)) : Int64).toUInt64 >>> ((2 : Int32).toInt64.toUInt64 &&& Int64.toUInt64 63)).toInt64) &&& 3689348814741910323)) : Int64).toUInt64 >>> ((4 : Int32).toInt64.toUInt64 &&& Int64.toUInt64 63)).toInt64)) &&& 1085102592571150095) : Int64).toUInt64 >>> ((8 : Int32).toInt64.toUInt64 &&& Int64.toUInt64 63)).toInt64)) : Int64).toUInt64 >>> ((16 : Int32).toInt64.toUInt64 &&& Int64.toUInt64 63)).toInt64)))]) hx hb dJ13_bitCount_95d88_47 rfl hl (by decide) rfl (fun ls hl => ?_)
  refine lv_lload_n hx hb dJ13_bitCount_95d88_48 rfl (lv_at hl 0 rfl) ?_
  refine lv_lload_n hx hb dJ13_bitCount_95d88_49 rfl (lv_at hl 0 rfl) ?_
  refine lv_bipush (v := 32) hx hb dJ13_bitCount_95d88_50 (by decide) ?_
  refine lv_lushr (v := ((((((((((y0 - ((((y0 : Int64).toUInt64 >>> ((1 : Int32).toInt64.toUInt64 &&& Int64.toUInt64 63)).toInt64) &&& 6148914691236517205)) &&& 3689348814741910323) + (((((y0 - ((((y0 : Int64).toUInt64 >>> ((1 : Int32).toInt64.toUInt64 &&& Int64.toUInt64 63)).toInt64) &&& 6148914691236517205)) : Int64).toUInt64 >>> ((2 : Int32).toInt64.toUInt64 &&& Int64.toUInt64 63)).toInt64) &&& 3689348814741910323)) + ((((((y0 - ((((y0 : Int64).toUInt64 >>> ((1 : Int32).toInt64.toUInt64 &&& Int64.toUInt64 63)).toInt64) &&& 6148914691236517205)) &&& 3689348814741910323) + (((((y0 - ((((y0 : Int64).toUInt64 >>> ((1 : Int32).toInt64.toUInt64 &&& Int64.toUInt64 63)).toInt64) &&& 6148914691236517205)) : Int64).toUInt64 >>> ((2 : Int32).toInt64.toUInt64 &&& Int64.toUInt64 63)).toInt64) &&& 3689348814741910323)) : Int64).toUInt64 >>> ((4 : Int32).toInt64.toUInt64 &&& Int64.toUInt64 63)).toInt64)) &&& 1085102592571150095) + ((((((((y0 - ((((y0 : Int64).toUInt64 >>> ((1 : Int32).toInt64.toUInt64 &&& Int64.toUInt64 63)).toInt64) &&& 6148914691236517205)) &&& 3689348814741910323) + (((((y0 - ((((y0 : Int64).toUInt64 >>> ((1 : Int32).toInt64.toUInt64 &&& Int64.toUInt64 63)).toInt64) &&& 6148914691236517205)) : Int64).toUInt64 >>> ((2 : Int32).toInt64.toUInt64 &&& Int64.toUInt64 63)).toInt64) &&& 3689348814741910323)) + ((((((y0 - ((((y0 : Int64).toUInt64 >>> ((1 : Int32).toInt64.toUInt64 &&& Int64.toUInt64 63)).toInt64) &&& 6148914691236517205)) &&& 3689348814741910323) + (((((y0 - ((((y0 : Int64).toUInt64 >>> ((1 : Int32).toInt64.toUInt64 &&& Int64.toUInt64 63)).toInt64) &&& 6148914691236517205)) : Int64).toUInt64 >>> ((2 : Int32).toInt64.toUInt64 &&& Int64.toUInt64 63)).toInt64) &&& 3689348814741910323)) : Int64).toUInt64 >>> ((4 : Int32).toInt64.toUInt64 &&& Int64.toUInt64 63)).toInt64)) &&& 1085102592571150095) : Int64).toUInt64 >>> ((8 : Int32).toInt64.toUInt64 &&& Int64.toUInt64 63)).toInt64)) + (((((((((y0 - ((((y0 : Int64).toUInt64 >>> ((1 : Int32).toInt64.toUInt64 &&& Int64.toUInt64 63)).toInt64) &&& 6148914691236517205)) &&& 3689348814741910323) + (((((y0 - ((((y0 : Int64).toUInt64 >>> ((1 : Int32).toInt64.toUInt64 &&& Int64.toUInt64 63)).toInt64) &&& 6148914691236517205)) : Int64).toUInt64 >>> ((2 : Int32).toInt64.toUInt64 &&& Int64.toUInt64 63)).toInt64) &&& 3689348814741910323)) + ((((((y0 - ((((y0 : Int64).toUInt64 >>> ((1 : Int32).toInt64.toUInt64 &&& Int64.toUInt64 63)).toInt64) &&& 6148914691236517205)) &&& 3689348814741910323) + (((((y0 - ((((y0 : Int64).toUInt64 >>> ((1 : Int32).toInt64.toUInt64 &&& Int64.toUInt64 63)).toInt64) &&& 6148914691236517205)) : Int64).toUInt64 >>> ((2 : Int32).toInt64.toUInt64 &&& Int64.toUInt64 63)).toInt64) &&& 3689348814741910323)) : Int64).toUInt64 >>> ((4 : Int32).toInt64.toUInt64 &&& Int64.toUInt64 63)).toInt64)) &&& 1085102592571150095) + ((((((((y0 - ((((y0 : Int64).toUInt64 >>> ((1 : Int32).toInt64.toUInt64 &&& Int64.toUInt64 63)).toInt64) &&& 6148914691236517205)) &&& 3689348814741910323) + (((((y0 - ((((y0 : Int64).toUInt64 >>> ((1 : Int32).toInt64.toUInt64 &&& Int64.toUInt64 63)).toInt64) &&& 6148914691236517205)) : Int64).toUInt64 >>> ((2 : Int32).toInt64.toUInt64 &&& Int64.toUInt64 63)).toInt64) &&& 3689348814741910323)) + ((((((y0 - ((((y0 : Int64).toUInt64 >>> ((1 : Int32).toInt64.toUInt64 &&& Int64.toUInt64 63)).toInt64) &&& 6148914691236517205)) &&& 3689348814741910323) + (((((y0 - ((((y0 : Int64).toUInt64 >>> ((1 : Int32).toInt64.toUInt64 &&& Int64.toUInt64 63)).toInt64) &&& 6148914691236517205)) : Int64).toUInt64 >>> ((2 : Int32).toInt64.toUInt64 &&& Int64.toUInt64 63)).toInt64) &&& 3689348814741910323)) : Int64).toUInt64 >>> ((4 : Int32).toInt64.toUInt64 &&& Int64.toUInt64 63)).toInt64)) &&& 1085102592571150095) : Int64).toUInt64 >>> ((8 : Int32).toInt64.toUInt64 &&& Int64.toUInt64 63)).toInt64)) : Int64).toUInt64 >>> ((16 : Int32).toInt64.toUInt64 &&& Int64.toUInt64 63)).toInt64)) : Int64).toUInt64 >>> ((32 : Int32).toInt64.toUInt64 &&& Int64.toUInt64 63)).toInt64)) hx hb dJ13_bitCount_95d88_52 rfl ?_
  refine lv_ladd hx hb dJ13_bitCount_95d88_53 ?_
  refine lv_lstore_n (lv' := [(0, .long ((((((((y0 - ((((y0 : Int64).toUInt64 >>> ((1 : Int32).toInt64.toUInt64 &&& Int64.toUInt64 63)).toInt64) &&& 6148914691236517205)) &&& 3689348814741910323) + (((((y0 - ((((y0 : Int64).toUInt64 >>> ((1 : Int32).toInt64.toUInt64 &&& Int64.toUInt64 63)).toInt64) &&& 6148914691236517205)) : Int64).toUInt64 >>> ((2 : Int32).toInt64.toUInt64 &&& Int64.toUInt64 63)).toInt64) &&& 3689348814741910323)) + ((((((y0 - ((((y0 : Int64).toUInt64 >>> ((1 : Int32).toInt64.toUInt64 &&& Int64.toUInt64 63)).toInt64) &&& 6148914691236517205)) &&& 3689348814741910323) + (((((y0 - ((((y0 : Int64).toUInt64 >>> ((1 : Int32).toInt64.toUInt64 &&& Int64.toUInt64 63)).toInt64) &&& 6148914691236517205)) : Int64).toUInt64 >>> ((2 : Int32).toInt64.toUInt64 &&& Int64.toUInt64 63)).toInt64) &&& 3689348814741910323)) : Int64).toUInt64 >>> ((4 : Int32).toInt64.toUInt64 &&& Int64.toUInt64 63)).toInt64)) &&& 1085102592571150095) + ((((((((y0 - ((((y0 : Int64).toUInt64 >>> ((1 : Int32).toInt64.toUInt64 &&& Int64.toUInt64 63)).toInt64) &&& 6148914691236517205)) &&& 3689348814741910323) + (((((y0 - ((((y0 : Int64).toUInt64 >>> ((1 : Int32).toInt64.toUInt64 &&& Int64.toUInt64 63)).toInt64) &&& 6148914691236517205)) : Int64).toUInt64 >>> ((2 : Int32).toInt64.toUInt64 &&& Int64.toUInt64 63)).toInt64) &&& 3689348814741910323)) + ((((((y0 - ((((y0 : Int64).toUInt64 >>> ((1 : Int32).toInt64.toUInt64 &&& Int64.toUInt64 63)).toInt64) &&& 6148914691236517205)) &&& 3689348814741910323) + (((((y0 - ((((y0 : Int64).toUInt64 >>> ((1 : Int32).toInt64.toUInt64 &&& Int64.toUInt64 63)).toInt64) &&& 6148914691236517205)) : Int64).toUInt64 >>> ((2 : Int32).toInt64.toUInt64 &&& Int64.toUInt64 63)).toInt64) &&& 3689348814741910323)) : Int64).toUInt64 >>> ((4 : Int32).toInt64.toUInt64 &&& Int64.toUInt64 63)).toInt64)) &&& 1085102592571150095) : Int64).toUInt64 >>> ((8 : Int32).toInt64.toUInt64 &&& Int64.toUInt64 63)).toInt64)) + (((((((((y0 - ((((y0 : Int64).toUInt64 >>> ((1 : Int32).toInt64.toUInt64 &&& Int64.toUInt64 63)).toInt64) &&& 6148914691236517205)) &&& 3689348814741910323) + (((((y0 - ((((y0 : Int64).toUInt64 >>> ((1 : Int32).toInt64.toUInt64 &&& Int64.toUInt64 63)).toInt64) &&& 6148914691236517205)) : Int64).toUInt64 >>> ((2 : Int32).toInt64.toUInt64 &&& Int64.toUInt64 63)).toInt64) &&& 3689348814741910323)) + ((((((y0 - ((((y0 : Int64).toUInt64 >>> ((1 : Int32).toInt64.toUInt64 &&& Int64.toUInt64 63)).toInt64) &&& 6148914691236517205)) &&& 3689348814741910323) + (((((y0 - ((((y0 : Int64).toUInt64 >>> ((1 : Int32).toInt64.toUInt64 &&& Int64.toUInt64 63)).toInt64) &&& 6148914691236517205)) : Int64).toUInt64 >>> ((2 : Int32).toInt64.toUInt64 &&& Int64.toUInt64 63)).toInt64) &&& 3689348814741910323)) : Int64).toUInt64 >>> ((4 : Int32).toInt64.toUInt64 &&& Int64.toUInt64 63)).toInt64)) &&& 1085102592571150095) + ((((((((y0 - ((((y0 : Int64).toUInt64 >>> ((1 : Int32).toInt64.toUInt64 &&& Int64.toUInt64 63)).toInt64) &&& 6148914691236517205)) &&& 3689348814741910323) + (((((y0 - ((((y0 : Int64).toUInt64 >>> ((1 : Int32).toInt64.toUInt64 &&& Int64.toUInt64 63)).toInt64) &&& 6148914691236517205)) : Int64).toUInt64 >>> ((2 : Int32).toInt64.toUInt64 &&& Int64.toUInt64 63)).toInt64) &&& 3689348814741910323)) + ((((((y0 - ((((y0 : Int64).toUInt64 >>> ((1 : Int32).toInt64.toUInt64 &&& Int64.toUInt64 63)).toInt64) &&& 6148914691236517205)) &&& 3689348814741910323) + (((((y0 - ((((y0 : Int64).toUInt64 >>> ((1 : Int32).toInt64.toUInt64 &&& Int64.toUInt64 63)).toInt64) &&& 6148914691236517205)) : Int64).toUInt64 >>> ((2 : Int32).toInt64.toUInt64 &&& Int64.toUInt64 63)).toInt64) &&& 3689348814741910323)) : Int64).toUInt64 >>> ((4 : Int32).toInt64.toUInt64 &&& Int64.toUInt64 63)).toInt64)) &&& 1085102592571150095) : Int64).toUInt64 >>> ((8 : Int32).toInt64.toUInt64 &&& Int64.toUInt64 63)).toInt64)) : Int64).toUInt64 >>> ((16 : Int32).toInt64.toUInt64 &&& Int64.toUInt64 63)).toInt64)) + ((((((((((y0 - ((((y0 : Int64).toUInt64 >>> ((1 : Int32).toInt64.toUInt64 &&& Int64.toUInt64 63)).toInt64) &&& 6148914691236517205)) &&& 3689348814741910323) + (((((y0 - ((((y0 : Int64).toUInt64 >>> ((1 : Int32).toInt64.toUInt64 &&& Int64.toUInt64 63)).toInt64) &&& 6148914691236517205)) : Int64).toUInt64 >>> ((2 : Int32).toInt64.toUInt64 &&& Int64.toUInt64 63)).toInt64) &&& 3689348814741910323)) + ((((((y0 - ((((y0 : Int64).toUInt64 >>> ((1 : Int32).toInt64.toUInt64 &&& Int64.toUInt64 63)).toInt64) &&& 6148914691236517205)) &&& 3689348814741910323) + (((((y0 - ((((y0 : Int64).toUInt64 >>> ((1 : Int32).toInt64.toUInt64 &&& Int64.toUInt64 63)).toInt64) &&& 6148914691236517205)) : Int64).toUInt64 >>> ((2 : Int32).toInt64.toUInt64 &&& Int64.toUInt64 63)).toInt64) &&& 3689348814741910323)) : Int64).toUInt64 >>> ((4 : Int32).toInt64.toUInt64 &&& Int64.toUInt64 63)).toInt64)) &&& 1085102592571150095) + ((((((((y0 - ((((y0 : Int64).toUInt64 >>> ((1 : Int32).toInt64.toUInt64 &&& Int64.toUInt64 63)).toInt64) &&& 6148914691236517205)) &&& 3689348814741910323) + (((((y0 - ((((y0 : Int64).toUInt64 >>> ((1 : Int32).toInt64.toUInt64 &&& Int64.toUInt64 63)).toInt64) &&& 6148914691236517205)) : Int64).toUInt64 >>> ((2 : Int32).toInt64.toUInt64 &&& Int64.toUInt64 63)).toInt64) &&& 3689348814741910323)) + ((((((y0 - ((((y0 : Int64).toUInt64 >>> ((1 : Int32).toInt64.toUInt64 &&& Int64.toUInt64 63)).toInt64) &&& 6148914691236517205)) &&& 3689348814741910323) + (((((y0 - ((((y0 : Int64).toUInt64 >>> ((1 : Int32).toInt64.toUInt64 &&& Int64.toUInt64 63)).toInt64) &&& 6148914691236517205)) : Int64).toUInt64 >>> ((2 : Int32).toInt64.toUInt64 &&& Int64.toUInt64 63)).toInt64) &&& 3689348814741910323)) : Int64).toUInt64 >>> ((4 : Int32).toInt64.toUInt64 &&& Int64.toUInt64 63)).toInt64)) &&& 1085102592571150095) : Int64).toUInt64 >>> ((8 : Int32).toInt64.toUInt64 &&& Int64.toUInt64 63)).toInt64)) + (((((((((y0 - ((((y0 : Int64).toUInt64 >>> ((1 : Int32).toInt64.toUInt64 &&& Int64.toUInt64 63)).toInt64) &&& 6148914691236517205)) &&& 3689348814741910323) + (((((y0 - ((((y0 : Int64).toUInt64 >>> ((1 : Int32).toInt64.toUInt64 &&& Int64.toUInt64 63)).toInt64) &&& 6148914691236517205)) : Int64).toUInt64 >>> ((2 : Int32).toInt64.toUInt64 &&& Int64.toUInt64 63)).toInt64) &&& 3689348814741910323)) + ((((((y0 - ((((y0 : Int64).toUInt64 >>> ((1 : Int32).toInt64.toUInt64 &&& Int64.toUInt64 63)).toInt64) &&& 6148914691236517205)) &&& 3689348814741910323) + (((((y0 - ((((y0 : Int64).toUInt64 >>> ((1 : Int32).toInt64.toUInt64 &&& Int64.toUInt64 63)).toInt64) &&& 6148914691236517205)) : Int64).toUInt64 >>> ((2 : Int32).toInt64.toUInt64 &&& Int64.toUInt64 63)).toInt64) &&& 3689348814741910323)) : Int64).toUInt64 >>> ((4 : Int32).toInt64.toUInt64 &&& Int64.toUInt64 63)).toInt64)) &&& 1085102592571150095) + ((((((((y0 - ((((y0 : Int64).toUInt64 >>> ((1 : Int32).toInt64.toUInt64 &&& Int64.toUInt64 63)).toInt64) &&& 6148914691236517205)) &&& 3689348814741910323) + (((((y0 - ((((y0 : Int64).toUInt64 >>> ((1 : Int32).toInt64.toUInt64 &&& Int64.toUInt64 63)).toInt64) &&& 6148914691236517205)) : Int64).toUInt64 >>> ((2 : Int32).toInt64.toUInt64 &&& Int64.toUInt64 63)).toInt64) &&& 3689348814741910323)) + ((((((y0 - ((((y0 : Int64).toUInt64 >>> ((1 : Int32).toInt64.toUInt64 &&& Int64.toUInt64 63)).toInt64) &&& 6148914691236517205)) &&& 3689348814741910323) + (((((y0 - ((((y0 : Int64).toUInt64 >>> ((1 : Int32).toInt64.toUInt64 &&& Int64.toUInt64 63)).toInt64) &&& 6148914691236517205)) : Int64).toUInt64 >>> ((2 : Int32).toInt64.toUInt64 &&& Int64.toUInt64 63)).toInt64) &&& 3689348814741910323)) : Int64).toUInt64 >>> ((4 : Int32).toInt64.toUInt64 &&& Int64.toUInt64 63)).toInt64)) &&& 1085102592571150095) : Int64).toUInt64 >>> ((8 : Int32).toInt64.toUInt64 &&& Int64.toUInt64 63)).toInt64)) : Int64).toUInt64 >>> ((16 : Int32).toInt64.toUInt64 &&& Int64.toUInt64 63)).toInt64)) : Int64).toUInt64 >>> ((32 : Int32).toInt64.toUInt64 &&& Int64.toUInt64 63)).toInt64)))]) hx hb dJ13_bitCount_95d88_54 rfl hl (by decide) rfl (fun ls hl => ?_)
  refine lv_lload_n hx hb dJ13_bitCount_95d88_55 rfl (lv_at hl 0 rfl) ?_
  refine lv_l2i (v := (((((((((y0 - ((((y0 : Int64).toUInt64 >>> ((1 : Int32).toInt64.toUInt64 &&& Int64.toUInt64 63)).toInt64) &&& 6148914691236517205)) &&& 3689348814741910323) + (((((y0 - ((((y0 : Int64).toUInt64 >>> ((1 : Int32).toInt64.toUInt64 &&& Int64.toUInt64 63)).toInt64) &&& 6148914691236517205)) : Int64).toUInt64 >>> ((2 : Int32).toInt64.toUInt64 &&& Int64.toUInt64 63)).toInt64) &&& 3689348814741910323)) + ((((((y0 - ((((y0 : Int64).toUInt64 >>> ((1 : Int32).toInt64.toUInt64 &&& Int64.toUInt64 63)).toInt64) &&& 6148914691236517205)) &&& 3689348814741910323) + (((((y0 - ((((y0 : Int64).toUInt64 >>> ((1 : Int32).toInt64.toUInt64 &&& Int64.toUInt64 63)).toInt64) &&& 6148914691236517205)) : Int64).toUInt64 >>> ((2 : Int32).toInt64.toUInt64 &&& Int64.toUInt64 63)).toInt64) &&& 3689348814741910323)) : Int64).toUInt64 >>> ((4 : Int32).toInt64.toUInt64 &&& Int64.toUInt64 63)).toInt64)) &&& 1085102592571150095) + ((((((((y0 - ((((y0 : Int64).toUInt64 >>> ((1 : Int32).toInt64.toUInt64 &&& Int64.toUInt64 63)).toInt64) &&& 6148914691236517205)) &&& 3689348814741910323) + (((((y0 - ((((y0 : Int64).toUInt64 >>> ((1 : Int32).toInt64.toUInt64 &&& Int64.toUInt64 63)).toInt64) &&& 6148914691236517205)) : Int64).toUInt64 >>> ((2 : Int32).toInt64.toUInt64 &&& Int64.toUInt64 63)).toInt64) &&& 3689348814741910323)) + ((((((y0 - ((((y0 : Int64).toUInt64 >>> ((1 : Int32).toInt64.toUInt64 &&& Int64.toUInt64 63)).toInt64) &&& 6148914691236517205)) &&& 3689348814741910323) + (((((y0 - ((((y0 : Int64).toUInt64 >>> ((1 : Int32).toInt64.toUInt64 &&& Int64.toUInt64 63)).toInt64) &&& 6148914691236517205)) : Int64).toUInt64 >>> ((2 : Int32).toInt64.toUInt64 &&& Int64.toUInt64 63)).toInt64) &&& 3689348814741910323)) : Int64).toUInt64 >>> ((4 : Int32).toInt64.toUInt64 &&& Int64.toUInt64 63)).toInt64)) &&& 1085102592571150095) : Int64).toUInt64 >>> ((8 : Int32).toInt64.toUInt64 &&& Int64.toUInt64 63)).toInt64)) + (((((((((y0 - ((((y0 : Int64).toUInt64 >>> ((1 : Int32).toInt64.toUInt64 &&& Int64.toUInt64 63)).toInt64) &&& 6148914691236517205)) &&& 3689348814741910323) + (((((y0 - ((((y0 : Int64).toUInt64 >>> ((1 : Int32).toInt64.toUInt64 &&& Int64.toUInt64 63)).toInt64) &&& 6148914691236517205)) : Int64).toUInt64 >>> ((2 : Int32).toInt64.toUInt64 &&& Int64.toUInt64 63)).toInt64) &&& 3689348814741910323)) + ((((((y0 - ((((y0 : Int64).toUInt64 >>> ((1 : Int32).toInt64.toUInt64 &&& Int64.toUInt64 63)).toInt64) &&& 6148914691236517205)) &&& 3689348814741910323) + (((((y0 - ((((y0 : Int64).toUInt64 >>> ((1 : Int32).toInt64.toUInt64 &&& Int64.toUInt64 63)).toInt64) &&& 6148914691236517205)) : Int64).toUInt64 >>> ((2 : Int32).toInt64.toUInt64 &&& Int64.toUInt64 63)).toInt64) &&& 3689348814741910323)) : Int64).toUInt64 >>> ((4 : Int32).toInt64.toUInt64 &&& Int64.toUInt64 63)).toInt64)) &&& 1085102592571150095) + ((((((((y0 - ((((y0 : Int64).toUInt64 >>> ((1 : Int32).toInt64.toUInt64 &&& Int64.toUInt64 63)).toInt64) &&& 6148914691236517205)) &&& 3689348814741910323) + (((((y0 - ((((y0 : Int64).toUInt64 >>> ((1 : Int32).toInt64.toUInt64 &&& Int64.toUInt64 63)).toInt64) &&& 6148914691236517205)) : Int64).toUInt64 >>> ((2 : Int32).toInt64.toUInt64 &&& Int64.toUInt64 63)).toInt64) &&& 3689348814741910323)) + ((((((y0 - ((((y0 : Int64).toUInt64 >>> ((1 : Int32).toInt64.toUInt64 &&& Int64.toUInt64 63)).toInt64) &&& 6148914691236517205)) &&& 3689348814741910323) + (((((y0 - ((((y0 : Int64).toUInt64 >>> ((1 : Int32).toInt64.toUInt64 &&& Int64.toUInt64 63)).toInt64) &&& 6148914691236517205)) : Int64).toUInt64 >>> ((2 : Int32).toInt64.toUInt64 &&& Int64.toUInt64 63)).toInt64) &&& 3689348814741910323)) : Int64).toUInt64 >>> ((4 : Int32).toInt64.toUInt64 &&& Int64.toUInt64 63)).toInt64)) &&& 1085102592571150095) : Int64).toUInt64 >>> ((8 : Int32).toInt64.toUInt64 &&& Int64.toUInt64 63)).toInt64)) : Int64).toUInt64 >>> ((16 : Int32).toInt64.toUInt64 &&& Int64.toUInt64 63)).toInt64)) + ((((((((((y0 - ((((y0 : Int64).toUInt64 >>> ((1 : Int32).toInt64.toUInt64 &&& Int64.toUInt64 63)).toInt64) &&& 6148914691236517205)) &&& 3689348814741910323) + (((((y0 - ((((y0 : Int64).toUInt64 >>> ((1 : Int32).toInt64.toUInt64 &&& Int64.toUInt64 63)).toInt64) &&& 6148914691236517205)) : Int64).toUInt64 >>> ((2 : Int32).toInt64.toUInt64 &&& Int64.toUInt64 63)).toInt64) &&& 3689348814741910323)) + ((((((y0 - ((((y0 : Int64).toUInt64 >>> ((1 : Int32).toInt64.toUInt64 &&& Int64.toUInt64 63)).toInt64) &&& 6148914691236517205)) &&& 3689348814741910323) + (((((y0 - ((((y0 : Int64).toUInt64 >>> ((1 : Int32).toInt64.toUInt64 &&& Int64.toUInt64 63)).toInt64) &&& 6148914691236517205)) : Int64).toUInt64 >>> ((2 : Int32).toInt64.toUInt64 &&& Int64.toUInt64 63)).toInt64) &&& 3689348814741910323)) : Int64).toUInt64 >>> ((4 : Int32).toInt64.toUInt64 &&& Int64.toUInt64 63)).toInt64)) &&& 1085102592571150095) + ((((((((y0 - ((((y0 : Int64).toUInt64 >>> ((1 : Int32).toInt64.toUInt64 &&& Int64.toUInt64 63)).toInt64) &&& 6148914691236517205)) &&& 3689348814741910323) + (((((y0 - ((((y0 : Int64).toUInt64 >>> ((1 : Int32).toInt64.toUInt64 &&& Int64.toUInt64 63)).toInt64) &&& 6148914691236517205)) : Int64).toUInt64 >>> ((2 : Int32).toInt64.toUInt64 &&& Int64.toUInt64 63)).toInt64) &&& 3689348814741910323)) + ((((((y0 - ((((y0 : Int64).toUInt64 >>> ((1 : Int32).toInt64.toUInt64 &&& Int64.toUInt64 63)).toInt64) &&& 6148914691236517205)) &&& 3689348814741910323) + (((((y0 - ((((y0 : Int64).toUInt64 >>> ((1 : Int32).toInt64.toUInt64 &&& Int64.toUInt64 63)).toInt64) &&& 6148914691236517205)) : Int64).toUInt64 >>> ((2 : Int32).toInt64.toUInt64 &&& Int64.toUInt64 63)).toInt64) &&& 3689348814741910323)) : Int64).toUInt64 >>> ((4 : Int32).toInt64.toUInt64 &&& Int64.toUInt64 63)).toInt64)) &&& 1085102592571150095) : Int64).toUInt64 >>> ((8 : Int32).toInt64.toUInt64 &&& Int64.toUInt64 63)).toInt64)) + (((((((((y0 - ((((y0 : Int64).toUInt64 >>> ((1 : Int32).toInt64.toUInt64 &&& Int64.toUInt64 63)).toInt64) &&& 6148914691236517205)) &&& 3689348814741910323) + (((((y0 - ((((y0 : Int64).toUInt64 >>> ((1 : Int32).toInt64.toUInt64 &&& Int64.toUInt64 63)).toInt64) &&& 6148914691236517205)) : Int64).toUInt64 >>> ((2 : Int32).toInt64.toUInt64 &&& Int64.toUInt64 63)).toInt64) &&& 3689348814741910323)) + ((((((y0 - ((((y0 : Int64).toUInt64 >>> ((1 : Int32).toInt64.toUInt64 &&& Int64.toUInt64 63)).toInt64) &&& 6148914691236517205)) &&& 3689348814741910323) + (((((y0 - ((((y0 : Int64).toUInt64 >>> ((1 : Int32).toInt64.toUInt64 &&& Int64.toUInt64 63)).toInt64) &&& 6148914691236517205)) : Int64).toUInt64 >>> ((2 : Int32).toInt64.toUInt64 &&& Int64.toUInt64 63)).toInt64) &&& 3689348814741910323)) : Int64).toUInt64 >>> ((4 : Int32).toInt64.toUInt64 &&& Int64.toUInt64 63)).toInt64)) &&& 1085102592571150095) + ((((((((y0 - ((((y0 : Int64).toUInt64 >>> ((1 : Int32).toInt64.toUInt64 &&& Int64.toUInt64 63)).toInt64) &&& 6148914691236517205)) &&& 3689348814741910323) + (((((y0 - ((((y0 : Int64).toUInt64 >>> ((1 : Int32).toInt64.toUInt64 &&& Int64.toUInt64 63)).toInt64) &&& 6148914691236517205)) : Int64).toUInt64 >>> ((2 : Int32).toInt64.toUInt64 &&& Int64.toUInt64 63)).toInt64) &&& 3689348814741910323)) + ((((((y0 - ((((y0 : Int64).toUInt64 >>> ((1 : Int32).toInt64.toUInt64 &&& Int64.toUInt64 63)).toInt64) &&& 6148914691236517205)) &&& 3689348814741910323) + (((((y0 - ((((y0 : Int64).toUInt64 >>> ((1 : Int32).toInt64.toUInt64 &&& Int64.toUInt64 63)).toInt64) &&& 6148914691236517205)) : Int64).toUInt64 >>> ((2 : Int32).toInt64.toUInt64 &&& Int64.toUInt64 63)).toInt64) &&& 3689348814741910323)) : Int64).toUInt64 >>> ((4 : Int32).toInt64.toUInt64 &&& Int64.toUInt64 63)).toInt64)) &&& 1085102592571150095) : Int64).toUInt64 >>> ((8 : Int32).toInt64.toUInt64 &&& Int64.toUInt64 63)).toInt64)) : Int64).toUInt64 >>> ((16 : Int32).toInt64.toUInt64 &&& Int64.toUInt64 63)).toInt64)) : Int64).toUInt64 >>> ((32 : Int32).toInt64.toUInt64 &&& Int64.toUInt64 63)).toInt64)) : Int64).toInt32) hx hb dJ13_bitCount_95d88_56 rfl ?_
  refine lv_bipush (v := 127) hx hb dJ13_bitCount_95d88_57 (by decide) ?_
  refine lv_iand hx hb dJ13_bitCount_95d88_59 ?_
  cases hM
  exact q_reti E hw dJ13_bitCount_95d88_60
def f_X1_tie_2 (N : Nat) (L : Nat)  : Nat → Int32 → Int32 → Int32 → Sg → Option (Int32 × Sg)
  | 0, _, _, _, _ => none
  | n + 1, x1, x2, x3, σ => (if (σ 15 0) ≤ x3 then if ib x1 60 then (f_X4_write L (σ 12 0) 6 x1 x2 (up (up σ 21 (ix x1) 4) 26 (ix x1) x2)).bind (fun p3 => (f_X7_twinMask N x2 p3).bind (fun p5 => (f_J13_bitCount_95d88 p5).bind (fun p7 => some (p7, p3)))) else none else if ib x3 60 then (if (σ 26 (ix x3)) = x1 then f_X1_tie_2 N L n x1 x2 (x3 + 1) (up σ 26 (ix x3) x2) else f_X1_tie_2 N L n x1 x2 (x3 + 1) σ) else none)
set_option maxRecDepth 100000 in
set_option maxHeartbeats 4000000 in
theorem s_X1_tie_2 (l : Launch) (D : va_G) (cA : Nat → ClassId) (tS : Nat → Nat) (A : Nat → Prop) (h : Nat → Nat) (L : Nat) (F : va_W) (N : Nat) {p : Program} {e : Env} {s : State} {m : MethodId} {args : Array Value} {below : List Frame} {meth : Method} {c : Code} (E : Ev p cX1_tie 4 (some .int) RX1 (Cond.code yX1_tie cX1_tie 4 (some .int) :: bw) D cA tS A s m args meth c) : ∀ (n : Nat) (x1 : Int32) (x2 : Int32) (x3 : Int32) (σ : Sg) (r0 : Int32) (s0 : Sg) (hM : f_X1_tie_2 N L n x1 x2 x3 σ = some (r0, s0)) (H : Heap) (locs : List Loc) (hw : Wd D A (wK cA h σ ++ (wLg cA h σ L ++ (wC cA h σ ++ F))) s.heap H locs) (ls : Array Slot) (hl : lv_has ls 4 [(0, .ref (h 42)), (1, .int x1), (2, .int x2), (3, .int x3)]), W p l e ({ frames := 1, cells := 0, slots := 0, locals := 24 } : Room) s m args below meth c H locs 0 0 (MQ below (QW D A (some (.int r0)) (wK cA h s0 ++ (wLg cA h s0 L ++ (wC cA h s0 ++ F)))) args s 0 0 A) (F0 m 2 ls []) := by
  have hx := E.1.1
  have hb := E.1.2.1
  intro n
  induction n with
  | zero =>
    intro x1 x2 x3 σ r0 s0 hM
    cases hM
  | succ n ih =>
    intro x1 x2 x3 σ r0 s0 hM H locs hw ls hl
    rw [f_X1_tie_2] at hM
    refine lv_iload_n hx hb dX1_tie_2 rfl (lv_at hl 3 rfl) ?_
    refine lv_aload_n hx hb dX1_tie_3 rfl (lv_at hl 0 rfl) ?_
    refine q_get (C := RX1) (T := TX1) (N := 6) (ci := 1) E (fun w h => List.mem_cons_of_mem _ (inX1 w h)) hw 12 rfl rfl 3 (by decide) (List.mem_cons_of_mem _ tb_336) (v := .ref (h 44)) rfl dX1_tie_4 ?_
    refine q_get (C := RX7) (T := TX7) (N := 15) (ci := 7) E (fun w h => List.mem_cons_of_mem _ (inX7 w h)) hw 16 rfl rfl 14 (by decide) (List.mem_cons_of_mem _ tb_299) (v := .int (σ 15 0)) rfl dX1_tie_7 ?_
    refine lv_icmp_ge (tgt := 42) hx hb dX1_tie_10 (by decide) (fun c1 => ?_) (fun c1 => ?_)
    · replace hM := i_pos hM c1
      refine lv_aload_n hx hb dX1_tie_42 rfl (lv_at hl 0 rfl) ?_
      refine q_get (C := RX1) (T := TX1) (N := 6) (ci := 1) E (fun w h => List.mem_cons_of_mem _ (inX1 w h)) hw 12 rfl rfl 3 (by decide) (List.mem_cons_of_mem _ tb_336) (v := .ref (h 44)) rfl dX1_tie_43 ?_
      refine q_get (C := RX7) (T := TX7) (N := 15) (ci := 7) E (fun w h => List.mem_cons_of_mem _ (inX7 w h)) hw 16 rfl rfl 5 (by decide) (List.mem_cons_of_mem _ tb_274) (v := .ref (h 21)) rfl dX1_tie_46 ?_
      refine lv_iload_n hx hb dX1_tie_49 rfl (lv_at hl 1 rfl) ?_
      refine lv_iconst (v := 4) hx hb dX1_tie_50 (by decide) ?_
      obtain ⟨g2, hM⟩ := g_some hM
      refine q_ast E hw 22 (n := 60) rfl g2 (wK cA h (up σ 21 (ix x1) 4) ++ (wLg cA h (up σ 21 (ix x1) 4) L ++ (wC cA h (up σ 21 (ix x1) 4) ++ F))) st_K_Lg_C_21 dX1_tie_51 (fun H locs hw => ?_)
      refine lv_aload_n hx hb dX1_tie_52 rfl (lv_at hl 0 rfl) ?_
      refine q_get (C := RX1) (T := TX1) (N := 6) (ci := 1) E (fun w h => List.mem_cons_of_mem _ (inX1 w h)) hw 12 rfl rfl 3 (by decide) (List.mem_cons_of_mem _ tb_336) (v := .ref (h 44)) rfl dX1_tie_53 ?_
      refine q_get (C := RX7) (T := TX7) (N := 15) (ci := 7) E (fun w h => List.mem_cons_of_mem _ (inX7 w h)) hw 16 rfl rfl 10 (by decide) (List.mem_cons_of_mem _ tb_288) (v := .ref (h 26)) rfl dX1_tie_56 ?_
      refine lv_iload_n hx hb dX1_tie_59 rfl (lv_at hl 1 rfl) ?_
      refine lv_iload_n hx hb dX1_tie_60 rfl (lv_at hl 2 rfl) ?_
      refine q_ast E hw 27 (n := 60) rfl g2 (wK cA h (up (up σ 21 (ix x1) 4) 26 (ix x1) x2) ++ (wLg cA h (up (up σ 21 (ix x1) 4) 26 (ix x1) x2) L ++ (wC cA h (up (up σ 21 (ix x1) 4) 26 (ix x1) x2) ++ F))) st_K_Lg_C_26 dX1_tie_61 (fun H locs hw => ?_)
      refine lv_aload_n hx hb dX1_tie_62 rfl (lv_at hl 0 rfl) ?_
      refine q_get (C := RX1) (T := TX1) (N := 6) (ci := 1) E (fun w h => List.mem_cons_of_mem _ (inX1 w h)) hw 12 rfl rfl 1 (by decide) (List.mem_cons_of_mem _ tb_333) (v := .ref (h 41)) rfl dX1_tie_63 ?_
      refine lv_aload_n hx hb dX1_tie_66 rfl (lv_at hl 0 rfl) ?_
      refine q_get (C := RX1) (T := TX1) (N := 6) (ci := 1) E (fun w h => List.mem_cons_of_mem _ (inX1 w h)) hw 12 rfl rfl 5 (by decide) (List.mem_cons_of_mem _ tb_340) (v := .int (σ 12 0)) (q_fld (congrFun ((up_ne (up σ 21 (ix x1) 4) 26 (ix x1) x2 12 (by decide)).trans (up_ne σ 21 (ix x1) 4 12 (by decide))) 0) rfl) dX1_tie_67 ?_
      refine lv_bipush (v := 6) hx hb dX1_tie_70 (by decide) ?_
      refine lv_iload_n hx hb dX1_tie_72 rfl (lv_at hl 1 rfl) ?_
      refine lv_iload_n hx hb dX1_tie_73 rfl (lv_at hl 2 rfl) ?_
      obtain ⟨p3, h4, hM⟩ := b_some hM
      refine q_cvv (As := [.int (σ 12 0), .int 6, .int x1, .int x2]) (rest := []) E hw hl (c_X4_write l D cA tS A h L F (σ 12 0) 6 x1 x2 (up (up σ 21 (ix x1) 4) 26 (ix x1) x2) p3 h4) 4 (bwV bw_c tb_548 tb_549 tb_550 tb_103 tb_551) rfl (by decide +kernel) ⟨Nat.le_of_ble_eq_true rfl, Nat.le_of_ble_eq_true rfl⟩ 7 4 (T := TX4) (N := 5) rfl rfl rfl rfl (Nat.le_of_ble_eq_true rfl) ⟨Nat.zero_le _, Nat.zero_le _⟩ dX1_tie_74 (fun H locs hw => ?_)
      refine lv_aload_n hx hb dX1_tie_77 rfl (lv_at hl 0 rfl) ?_
      refine q_get (C := RX1) (T := TX1) (N := 6) (ci := 1) E (fun w h => List.mem_cons_of_mem _ (inX1 w h)) hw 12 rfl rfl 3 (by decide) (List.mem_cons_of_mem _ tb_336) (v := .ref (h 44)) rfl dX1_tie_78 ?_
      refine lv_iload_n hx hb dX1_tie_81 rfl (lv_at hl 2 rfl) ?_
      obtain ⟨p5, h6, hM⟩ := b_some hM
      refine q_cv (As := [.int x2]) (rest := []) E hw hl (c_X7_twinMask l D cA tS A h L F N x2 p3 p5 h6) 1 (bwV bw_c tb_580 tb_581 tb_582 tb_108 tb_583) rfl (by decide +kernel) ⟨Nat.le_of_ble_eq_true rfl, Nat.le_of_ble_eq_true rfl⟩ 16 7 (T := TX7) (N := 15) rfl rfl rfl rfl (Nat.le_of_ble_eq_true rfl) ⟨Nat.zero_le _, Nat.zero_le _⟩ dX1_tie_82 (fun H locs hw => ?_)
      obtain ⟨p7, h8, hM⟩ := b_some hM
      refine q_cs (As := [.long p5]) (rest := []) E hw hl (c_J13_bitCount_95d88 l D cA tS A (wK cA h p3 ++ (wLg cA h p3 L ++ (wC cA h p3 ++ F))) p5 p7 h8) 1 (bwS bw_c tb_584 tb_585 tb_113 tb_586) rfl (by decide +kernel) ⟨Nat.le_of_ble_eq_true rfl, Nat.le_of_ble_eq_true rfl⟩ rfl rfl (Nat.le_of_ble_eq_true rfl) ⟨Nat.zero_le _, Nat.zero_le _⟩ dX1_tie_85 (fun H locs hw => ?_)
      cases hM
      exact q_reti E hw dX1_tie_88
    · replace hM := i_neg hM c1
      refine lv_aload_n hx hb dX1_tie_13 rfl (lv_at hl 0 rfl) ?_
      refine q_get (C := RX1) (T := TX1) (N := 6) (ci := 1) E (fun w h => List.mem_cons_of_mem _ (inX1 w h)) hw 12 rfl rfl 3 (by decide) (List.mem_cons_of_mem _ tb_336) (v := .ref (h 44)) rfl dX1_tie_14 ?_
      refine q_get (C := RX7) (T := TX7) (N := 15) (ci := 7) E (fun w h => List.mem_cons_of_mem _ (inX7 w h)) hw 16 rfl rfl 10 (by decide) (List.mem_cons_of_mem _ tb_288) (v := .ref (h 26)) rfl dX1_tie_17 ?_
      refine lv_iload_n hx hb dX1_tie_20 rfl (lv_at hl 3 rfl) ?_
      obtain ⟨g9, hM⟩ := g_some hM
      refine q_ald E hw 27 (n := 60) rfl g9 (x := (σ 26 (ix x3))) rfl dX1_tie_21 ?_
      refine lv_iload_n hx hb dX1_tie_22 rfl (lv_at hl 1 rfl) ?_
      refine lv_icmp_ne (tgt := 36) hx hb dX1_tie_23 (by decide) (fun c10 => ?_) (fun c10 => ?_)
      · replace hM := i_neg hM c10
        refine lv_iinc (v := (x3 + 1)) (lv' := [(3, .int (x3 + 1)), (0, .ref (h 42)), (1, .int x1), (2, .int x2)]) hx hb dX1_tie_36 hl (k := 3) rfl rfl (by decide) rfl (fun ls hl => ?_)
        refine lv_goto (tgt := 2) hx hb dX1_tie_39 (by decide) ?_
        exact ih _ _ _ _ _ _ hM _ _ hw _ (lv_sub hl [1, 2, 3, 0] rfl)
      · replace hM := i_pos hM c10
        refine lv_aload_n hx hb dX1_tie_26 rfl (lv_at hl 0 rfl) ?_
        refine q_get (C := RX1) (T := TX1) (N := 6) (ci := 1) E (fun w h => List.mem_cons_of_mem _ (inX1 w h)) hw 12 rfl rfl 3 (by decide) (List.mem_cons_of_mem _ tb_336) (v := .ref (h 44)) rfl dX1_tie_27 ?_
        refine q_get (C := RX7) (T := TX7) (N := 15) (ci := 7) E (fun w h => List.mem_cons_of_mem _ (inX7 w h)) hw 16 rfl rfl 10 (by decide) (List.mem_cons_of_mem _ tb_288) (v := .ref (h 26)) rfl dX1_tie_30 ?_
        refine lv_iload_n hx hb dX1_tie_33 rfl (lv_at hl 3 rfl) ?_
        refine lv_iload_n hx hb dX1_tie_34 rfl (lv_at hl 2 rfl) ?_
        refine q_ast E hw 27 (n := 60) rfl g9 (wK cA h (up σ 26 (ix x3) x2) ++ (wLg cA h (up σ 26 (ix x3) x2) L ++ (wC cA h (up σ 26 (ix x3) x2) ++ F))) st_K_Lg_C_26 dX1_tie_35 (fun H locs hw => ?_)
        refine lv_iinc (v := (x3 + 1)) (lv' := [(3, .int (x3 + 1)), (0, .ref (h 42)), (1, .int x1), (2, .int x2)]) hx hb dX1_tie_36 hl (k := 3) rfl rfl (by decide) rfl (fun ls hl => ?_)
        refine lv_goto (tgt := 2) hx hb dX1_tie_39 (by decide) ?_
        exact ih _ _ _ _ _ _ hM _ _ hw _ (lv_sub hl [1, 2, 3, 0] rfl)
def f_X1_tie (N : Nat) (L : Nat)  (x1 : Int32) (x2 : Int32) (σ : Sg) : Option (Int32 × Sg) := f_X1_tie_2 N L N x1 x2 0 σ
set_option maxRecDepth 100000 in
set_option maxHeartbeats 4000000 in
theorem c_X1_tie (l : Launch) (D : va_G) (cA : Nat → ClassId) (tS : Nat → Nat) (A : Nat → Prop) (h : Nat → Nat) (L : Nat) (F : va_W) (N : Nat) (x1 : Int32) (x2 : Int32) (σ : Sg) (r0 : Int32) (s0 : Sg) (hM : f_X1_tie N L x1 x2 σ = some (r0, s0)) : Ct l yX1_tie (Cond.code yX1_tie cX1_tie 4 (some .int) :: bw) 1 24 D cA tS A [.ref (h 42), .int x1, .int x2] (wK cA h σ ++ (wLg cA h σ L ++ (wC cA h σ ++ F))) (some (.int r0)) (wK cA h s0 ++ (wLg cA h s0 L ++ (wC cA h s0 ++ F))) := by
  refine ct_of (by decide +kernel) (Nat.le_of_ble_eq_true rfl) ?_
  intro p e s m below meth c E hw ls hl
  replace E : Ev p cX1_tie 4 (some .int) RX1 (Cond.code yX1_tie cX1_tie 4 (some .int) :: bw) D cA tS A s m _ meth c := E
  replace hl : lv_has ls 4 [(0, .ref (h 42)), (1, .int x1), (2, .int x2)] := hl
  have hx := E.1.1
  have hb := E.1.2.1
  unfold f_X1_tie at hM
  refine lv_iconst (v := 0) hx hb dX1_tie_0 (by decide) ?_
  refine lv_istore_n (lv' := [(3, .int 0), (0, .ref (h 42)), (1, .int x1), (2, .int x2)]) hx hb dX1_tie_1 rfl hl (by decide) rfl (fun ls hl => ?_)
  exact s_X1_tie_2 l D cA tS A h L F N E N _ _ _ _ _ _ hM _ _ hw _ (lv_sub hl [1, 2, 3, 0] rfl)
def f_X1_untie  (L : Nat)  (x1 : Int32) (σ : Sg) : Option (Int32 × Sg) := if ib x1 60 then (f_X4_write L (σ 12 0) 7 x1 (σ 26 (ix x1)) (up (up σ 21 (ix x1) 0) 26 (ix x1) (-1))).bind (fun p2 => some ((σ 26 (ix x1)), p2)) else none
set_option maxRecDepth 100000 in
set_option maxHeartbeats 4000000 in
theorem c_X1_untie (l : Launch) (D : va_G) (cA : Nat → ClassId) (tS : Nat → Nat) (A : Nat → Prop) (h : Nat → Nat) (L : Nat) (F : va_W) (x1 : Int32) (σ : Sg) (r0 : Int32) (s0 : Sg) (hM : f_X1_untie L x1 σ = some (r0, s0)) : Ct l yX1_untie (Cond.code yX1_untie cX1_untie 3 (some .int) :: bw) 1 24 D cA tS A [.ref (h 42), .int x1] (wK cA h σ ++ (wLg cA h σ L ++ (wC cA h σ ++ F))) (some (.int r0)) (wK cA h s0 ++ (wLg cA h s0 L ++ (wC cA h s0 ++ F))) := by
  refine ct_of (by decide +kernel) (Nat.le_of_ble_eq_true rfl) ?_
  intro p e s m below meth c E hw ls hl
  replace E : Ev p cX1_untie 3 (some .int) RX1 (Cond.code yX1_untie cX1_untie 3 (some .int) :: bw) D cA tS A s m _ meth c := E
  replace hl : lv_has ls 3 [(0, .ref (h 42)), (1, .int x1)] := hl
  have hx := E.1.1
  have hb := E.1.2.1
  unfold f_X1_untie at hM
  refine lv_aload_n hx hb dX1_untie_0 rfl (lv_at hl 0 rfl) ?_
  refine q_get (C := RX1) (T := TX1) (N := 6) (ci := 1) E (fun w h => List.mem_cons_of_mem _ (inX1 w h)) hw 12 rfl rfl 3 (by decide) (List.mem_cons_of_mem _ tb_336) (v := .ref (h 44)) rfl dX1_untie_1 ?_
  refine q_get (C := RX7) (T := TX7) (N := 15) (ci := 7) E (fun w h => List.mem_cons_of_mem _ (inX7 w h)) hw 16 rfl rfl 10 (by decide) (List.mem_cons_of_mem _ tb_288) (v := .ref (h 26)) rfl dX1_untie_4 ?_
  refine lv_iload_n hx hb dX1_untie_7 rfl (lv_at hl 1 rfl) ?_
  obtain ⟨g1, hM⟩ := g_some hM
  refine q_ald E hw 27 (n := 60) rfl g1 (x := (σ 26 (ix x1))) rfl dX1_untie_8 ?_
  refine lv_istore_n (lv' := [(2, .int (σ 26 (ix x1))), (0, .ref (h 42)), (1, .int x1)]) hx hb dX1_untie_9 rfl hl (by decide) rfl (fun ls hl => ?_)
  refine lv_aload_n hx hb dX1_untie_10 rfl (lv_at hl 1 rfl) ?_
  refine q_get (C := RX1) (T := TX1) (N := 6) (ci := 1) E (fun w h => List.mem_cons_of_mem _ (inX1 w h)) hw 12 rfl rfl 3 (by decide) (List.mem_cons_of_mem _ tb_336) (v := .ref (h 44)) rfl dX1_untie_11 ?_
  refine q_get (C := RX7) (T := TX7) (N := 15) (ci := 7) E (fun w h => List.mem_cons_of_mem _ (inX7 w h)) hw 16 rfl rfl 5 (by decide) (List.mem_cons_of_mem _ tb_274) (v := .ref (h 21)) rfl dX1_untie_14 ?_
  refine lv_iload_n hx hb dX1_untie_17 rfl (lv_at hl 2 rfl) ?_
  refine lv_iconst (v := 0) hx hb dX1_untie_18 (by decide) ?_
  refine q_ast E hw 22 (n := 60) rfl g1 (wK cA h (up σ 21 (ix x1) 0) ++ (wLg cA h (up σ 21 (ix x1) 0) L ++ (wC cA h (up σ 21 (ix x1) 0) ++ F))) st_K_Lg_C_21 dX1_untie_19 (fun H locs hw => ?_)
  refine lv_aload_n hx hb dX1_untie_20 rfl (lv_at hl 1 rfl) ?_
  refine q_get (C := RX1) (T := TX1) (N := 6) (ci := 1) E (fun w h => List.mem_cons_of_mem _ (inX1 w h)) hw 12 rfl rfl 3 (by decide) (List.mem_cons_of_mem _ tb_336) (v := .ref (h 44)) rfl dX1_untie_21 ?_
  refine q_get (C := RX7) (T := TX7) (N := 15) (ci := 7) E (fun w h => List.mem_cons_of_mem _ (inX7 w h)) hw 16 rfl rfl 10 (by decide) (List.mem_cons_of_mem _ tb_288) (v := .ref (h 26)) rfl dX1_untie_24 ?_
  refine lv_iload_n hx hb dX1_untie_27 rfl (lv_at hl 2 rfl) ?_
  refine lv_iconst (v := (-1)) hx hb dX1_untie_28 (by decide) ?_
  refine q_ast E hw 27 (n := 60) rfl g1 (wK cA h (up (up σ 21 (ix x1) 0) 26 (ix x1) (-1)) ++ (wLg cA h (up (up σ 21 (ix x1) 0) 26 (ix x1) (-1)) L ++ (wC cA h (up (up σ 21 (ix x1) 0) 26 (ix x1) (-1)) ++ F))) st_K_Lg_C_26 dX1_untie_29 (fun H locs hw => ?_)
  refine lv_aload_n hx hb dX1_untie_30 rfl (lv_at hl 1 rfl) ?_
  refine q_get (C := RX1) (T := TX1) (N := 6) (ci := 1) E (fun w h => List.mem_cons_of_mem _ (inX1 w h)) hw 12 rfl rfl 1 (by decide) (List.mem_cons_of_mem _ tb_333) (v := .ref (h 41)) rfl dX1_untie_31 ?_
  refine lv_aload_n hx hb dX1_untie_34 rfl (lv_at hl 1 rfl) ?_
  refine q_get (C := RX1) (T := TX1) (N := 6) (ci := 1) E (fun w h => List.mem_cons_of_mem _ (inX1 w h)) hw 12 rfl rfl 5 (by decide) (List.mem_cons_of_mem _ tb_340) (v := .int (σ 12 0)) (q_fld (congrFun ((up_ne (up σ 21 (ix x1) 0) 26 (ix x1) (-1) 12 (by decide)).trans (up_ne σ 21 (ix x1) 0 12 (by decide))) 0) rfl) dX1_untie_35 ?_
  refine lv_bipush (v := 7) hx hb dX1_untie_38 (by decide) ?_
  refine lv_iload_n hx hb dX1_untie_40 rfl (lv_at hl 2 rfl) ?_
  refine lv_iload_n hx hb dX1_untie_41 rfl (lv_at hl 0 rfl) ?_
  obtain ⟨p2, h3, hM⟩ := b_some hM
  refine q_cvv (As := [.int (σ 12 0), .int 7, .int x1, .int (σ 26 (ix x1))]) (rest := []) E hw hl (c_X4_write l D cA tS A h L F (σ 12 0) 7 x1 (σ 26 (ix x1)) (up (up σ 21 (ix x1) 0) 26 (ix x1) (-1)) p2 h3) 4 (bwV bw_c tb_548 tb_549 tb_550 tb_103 tb_551) rfl (by decide +kernel) ⟨Nat.le_of_ble_eq_true rfl, Nat.le_of_ble_eq_true rfl⟩ 7 4 (T := TX4) (N := 5) rfl rfl rfl rfl (Nat.le_of_ble_eq_true rfl) ⟨Nat.zero_le _, Nat.zero_le _⟩ dX1_untie_42 (fun H locs hw => ?_)
  refine lv_iload_n hx hb dX1_untie_45 rfl (lv_at hl 0 rfl) ?_
  cases hM
  exact q_reti E hw dX1_untie_46
def f_X1_rank    (x1 : Int32) (x2 : Int32) (σ : Sg) : Option (Int32 × Sg) := if ib x1 60 then some ((σ 19 (ix x1)), (up σ 19 (ix x1) x2)) else none
set_option maxRecDepth 100000 in
set_option maxHeartbeats 4000000 in
theorem c_X1_rank (l : Launch) (D : va_G) (cA : Nat → ClassId) (tS : Nat → Nat) (A : Nat → Prop) (h : Nat → Nat) (L : Nat) (F : va_W) (x1 : Int32) (x2 : Int32) (σ : Sg) (r0 : Int32) (s0 : Sg) (hM : f_X1_rank x1 x2 σ = some (r0, s0)) : Ct l yX1_rank (Cond.code yX1_rank cX1_rank 4 (some .int) :: bw) 0 0 D cA tS A [.ref (h 42), .int x1, .int x2] (wK cA h σ ++ (wLg cA h σ L ++ (wC cA h σ ++ F))) (some (.int r0)) (wK cA h s0 ++ (wLg cA h s0 L ++ (wC cA h s0 ++ F))) := by
  refine ct_of (by decide +kernel) (Nat.le_of_ble_eq_true rfl) ?_
  intro p e s m below meth c E hw ls hl
  replace E : Ev p cX1_rank 4 (some .int) RX1 (Cond.code yX1_rank cX1_rank 4 (some .int) :: bw) D cA tS A s m _ meth c := E
  replace hl : lv_has ls 4 [(0, .ref (h 42)), (1, .int x1), (2, .int x2)] := hl
  have hx := E.1.1
  have hb := E.1.2.1
  unfold f_X1_rank at hM
  refine lv_aload_n hx hb dX1_rank_0 rfl (lv_at hl 0 rfl) ?_
  refine q_get (C := RX1) (T := TX1) (N := 6) (ci := 1) E (fun w h => List.mem_cons_of_mem _ (inX1 w h)) hw 12 rfl rfl 3 (by decide) (List.mem_cons_of_mem _ tb_336) (v := .ref (h 44)) rfl dX1_rank_1 ?_
  refine q_get (C := RX7) (T := TX7) (N := 15) (ci := 7) E (fun w h => List.mem_cons_of_mem _ (inX7 w h)) hw 16 rfl rfl 3 (by decide) (List.mem_cons_of_mem _ tb_268) (v := .ref (h 19)) rfl dX1_rank_4 ?_
  refine lv_iload_n hx hb dX1_rank_7 rfl (lv_at hl 1 rfl) ?_
  obtain ⟨g1, hM⟩ := g_some hM
  refine q_ald E hw 20 (n := 60) rfl g1 (x := (σ 19 (ix x1))) rfl dX1_rank_8 ?_
  refine lv_istore_n (lv' := [(3, .int (σ 19 (ix x1))), (0, .ref (h 42)), (1, .int x1), (2, .int x2)]) hx hb dX1_rank_9 rfl hl (by decide) rfl (fun ls hl => ?_)
  refine lv_aload_n hx hb dX1_rank_10 rfl (lv_at hl 1 rfl) ?_
  refine q_get (C := RX1) (T := TX1) (N := 6) (ci := 1) E (fun w h => List.mem_cons_of_mem _ (inX1 w h)) hw 12 rfl rfl 3 (by decide) (List.mem_cons_of_mem _ tb_336) (v := .ref (h 44)) rfl dX1_rank_11 ?_
  refine q_get (C := RX7) (T := TX7) (N := 15) (ci := 7) E (fun w h => List.mem_cons_of_mem _ (inX7 w h)) hw 16 rfl rfl 3 (by decide) (List.mem_cons_of_mem _ tb_268) (v := .ref (h 19)) rfl dX1_rank_14 ?_
  refine lv_iload_n hx hb dX1_rank_17 rfl (lv_at hl 2 rfl) ?_
  refine lv_iload_n hx hb dX1_rank_18 rfl (lv_at hl 3 rfl) ?_
  refine q_ast E hw 20 (n := 60) rfl g1 (wK cA h (up σ 19 (ix x1) x2) ++ (wLg cA h (up σ 19 (ix x1) x2) L ++ (wC cA h (up σ 19 (ix x1) x2) ++ F))) st_K_Lg_C_19 dX1_rank_19 (fun H locs hw => ?_)
  refine lv_iload_n hx hb dX1_rank_20 rfl (lv_at hl 0 rfl) ?_
  cases hM
  exact q_reti E hw dX1_rank_21
def f_X1_make (N : Nat) (L : Nat)  (x1 : Int32) (x2 : Int32) (x3 : Int32) (x4 : Int32) (x5 : Int32) (σ : Sg) : Option (Int32 × Sg) := (if x1 = 0 then (f_X0_setHours x2 x3 x4 σ).bind (fun p1 => some (0, p1)) else if x1 = 2 then (f_X1_staff N x2 x3 σ).bind (fun p3 => some (p3.1, p3.2)) else if x1 = 3 then (f_X1_enter L x2 x3 x4 x5 σ).bind (fun p5 => some (p5.1, p5.2)) else if x1 = 4 then (f_X1_move L x2 2 2 σ).bind (fun p7 => some (p7.1, p7.2)) else if x1 = 5 then (f_X1_move L x2 0 3 σ).bind (fun p9 => some (p9.1, p9.2)) else if x1 = 6 then (f_X1_raise L x2 (σ 12 0) σ).bind (fun p11 => some (p11.1, p11.2)) else if x1 = 7 then (f_X1_finish N L x2 (σ 12 0) σ).bind (fun p13 => some (p13.1, p13.2)) else if x1 = 8 then (f_X1_reviveWithTwins N L x2 σ).bind (fun p15 => some (p15.1, p15.2)) else if x1 = 9 then (f_X1_tie N L x2 x3 σ).bind (fun p17 => some (p17.1, p17.2)) else if x1 = 10 then (f_X1_untie L x2 σ).bind (fun p19 => some (p19.1, p19.2)) else if x1 = 11 then (f_X1_rank x2 x3 σ).bind (fun p21 => some (p21.1, p21.2)) else some (0, σ))
set_option maxRecDepth 100000 in
set_option maxHeartbeats 4000000 in
theorem c_X1_make (l : Launch) (D : va_G) (cA : Nat → ClassId) (tS : Nat → Nat) (A : Nat → Prop) (h : Nat → Nat) (L : Nat) (F : va_W) (N : Nat) (x1 : Int32) (x2 : Int32) (x3 : Int32) (x4 : Int32) (x5 : Int32) (σ : Sg) (r0 : Int32) (s0 : Sg) (hM : f_X1_make N L x1 x2 x3 x4 x5 σ = some (r0, s0)) : Ct l yX1_make (Cond.code yX1_make cX1_make 6 (some .int) :: bw) 3 70 D cA tS A [.ref (h 42), .int x1, .int x2, .int x3, .int x4, .int x5] (wK cA h σ ++ (wLg cA h σ L ++ (wC cA h σ ++ F))) (some (.int r0)) (wK cA h s0 ++ (wLg cA h s0 L ++ (wC cA h s0 ++ F))) := by
  refine ct_of (by decide +kernel) (Nat.le_of_ble_eq_true rfl) ?_
  intro p e s m below meth c E hw ls hl
  replace E : Ev p cX1_make 6 (some .int) RX1 (Cond.code yX1_make cX1_make 6 (some .int) :: bw) D cA tS A s m _ meth c := E
  replace hl : lv_has ls 6 [(0, .ref (h 42)), (1, .int x1), (2, .int x2), (3, .int x3), (4, .int x4), (5, .int x5)] := hl
  have hx := E.1.1
  have hb := E.1.2.1
  unfold f_X1_make at hM
  refine lv_iload_n hx hb dX1_make_0 rfl (lv_at hl 1 rfl) ?_
  by_cases c23 : x1 = 0
  · replace hM := i_pos hM c23
    refine lv_tableIn (tgt := 64) hx hb dX1_make_1 (by rw [c23]; decide) (by rw [c23]; decide) (off := 63) (by rw [c23]; decide) (by decide) ?_
    refine lv_aload_n hx hb dX1_make_64 rfl (lv_at hl 0 rfl) ?_
    refine q_get (C := RX1) (T := TX1) (N := 6) (ci := 1) E (fun w h => List.mem_cons_of_mem _ (inX1 w h)) hw 12 rfl rfl 2 (by decide) (List.mem_cons_of_mem _ tb_334) (v := .ref (h 43)) rfl dX1_make_65 ?_
    refine lv_iload_n hx hb dX1_make_68 rfl (lv_at hl 2 rfl) ?_
    refine lv_iload_n hx hb dX1_make_69 rfl (lv_at hl 3 rfl) ?_
    refine lv_iload hx hb dX1_make_70 (lv_at hl 4 rfl) ?_
    obtain ⟨p1, h2, hM⟩ := b_some hM
    refine q_cvv (As := [.int x2, .int x3, .int x4]) (rest := []) E hw hl (c_X0_setHours l D cA tS A h L F x2 x3 x4 σ p1 h2) 3 (bwV bw_c tb_528 tb_529 tb_530 tb_107 tb_531) rfl (by decide +kernel) ⟨Nat.le_of_ble_eq_true rfl, Nat.le_of_ble_eq_true rfl⟩ 13 0 (T := TX0) (N := 2) rfl rfl rfl rfl (Nat.le_of_ble_eq_true rfl) ⟨Nat.zero_le _, Nat.zero_le _⟩ dX1_make_72 (fun H locs hw => ?_)
    refine lv_iconst (v := 0) hx hb dX1_make_75 (by decide) ?_
    cases hM
    exact q_reti E hw dX1_make_76
  replace hM := i_neg hM c23
  by_cases c24 : x1 = 2
  · replace hM := i_pos hM c24
    refine lv_tableIn (tgt := 77) hx hb dX1_make_1 (by rw [c24]; decide) (by rw [c24]; decide) (off := 76) (by rw [c24]; decide) (by decide) ?_
    refine lv_aload_n hx hb dX1_make_77 rfl (lv_at hl 0 rfl) ?_
    refine lv_iload_n hx hb dX1_make_78 rfl (lv_at hl 2 rfl) ?_
    refine lv_iload_n hx hb dX1_make_79 rfl (lv_at hl 3 rfl) ?_
    obtain ⟨p3, h4, hM⟩ := b_some hM
    refine q_cv (As := [.int x2, .int x3]) (rest := []) E hw hl (c_X1_staff l D cA tS A h L F N x2 x3 σ p3.1 p3.2 h4) 2 (bwV bw_c tb_532 tb_534 tb_7 tb_106 tb_535) rfl (by decide +kernel) ⟨Nat.le_of_ble_eq_true rfl, Nat.le_of_ble_eq_true rfl⟩ 12 1 (T := TX1) (N := 6) rfl rfl rfl rfl (Nat.le_of_ble_eq_true rfl) ⟨Nat.zero_le _, Nat.zero_le _⟩ dX1_make_80 (fun H locs hw => ?_)
    cases hM
    exact q_reti E hw dX1_make_83
  replace hM := i_neg hM c24
  by_cases c25 : x1 = 3
  · replace hM := i_pos hM c25
    refine lv_tableIn (tgt := 84) hx hb dX1_make_1 (by rw [c25]; decide) (by rw [c25]; decide) (off := 83) (by rw [c25]; decide) (by decide) ?_
    refine lv_aload_n hx hb dX1_make_84 rfl (lv_at hl 0 rfl) ?_
    refine lv_iload_n hx hb dX1_make_85 rfl (lv_at hl 2 rfl) ?_
    refine lv_iload_n hx hb dX1_make_86 rfl (lv_at hl 3 rfl) ?_
    refine lv_iload hx hb dX1_make_87 (lv_at hl 4 rfl) ?_
    refine lv_iload hx hb dX1_make_89 (lv_at hl 5 rfl) ?_
    obtain ⟨p5, h6, hM⟩ := b_some hM
    refine q_cv (As := [.int x2, .int x3, .int x4, .int x5]) (rest := []) E hw hl (c_X1_enter l D cA tS A h L F x2 x3 x4 x5 σ p5.1 p5.2 h6) 4 (bwV bw_c tb_540 tb_542 tb_8 tb_106 tb_543) rfl (by decide +kernel) ⟨Nat.le_of_ble_eq_true rfl, Nat.le_of_ble_eq_true rfl⟩ 12 1 (T := TX1) (N := 6) rfl rfl rfl rfl (Nat.le_of_ble_eq_true rfl) ⟨Nat.zero_le _, Nat.zero_le _⟩ dX1_make_91 (fun H locs hw => ?_)
    cases hM
    exact q_reti E hw dX1_make_94
  replace hM := i_neg hM c25
  by_cases c26 : x1 = 4
  · replace hM := i_pos hM c26
    refine lv_tableIn (tgt := 95) hx hb dX1_make_1 (by rw [c26]; decide) (by rw [c26]; decide) (off := 94) (by rw [c26]; decide) (by decide) ?_
    refine lv_aload_n hx hb dX1_make_95 rfl (lv_at hl 0 rfl) ?_
    refine lv_iload_n hx hb dX1_make_96 rfl (lv_at hl 2 rfl) ?_
    refine lv_iconst (v := 2) hx hb dX1_make_97 (by decide) ?_
    refine lv_iconst (v := 2) hx hb dX1_make_98 (by decide) ?_
    obtain ⟨p7, h8, hM⟩ := b_some hM
    refine q_cv (As := [.int x2, .int 2, .int 2]) (rest := []) E hw hl (c_X1_move l D cA tS A h L F x2 2 2 σ p7.1 p7.2 h8) 3 (bwV bw_c tb_552 tb_554 tb_9 tb_106 tb_555) rfl (by decide +kernel) ⟨Nat.le_of_ble_eq_true rfl, Nat.le_of_ble_eq_true rfl⟩ 12 1 (T := TX1) (N := 6) rfl rfl rfl rfl (Nat.le_of_ble_eq_true rfl) ⟨Nat.zero_le _, Nat.zero_le _⟩ dX1_make_99 (fun H locs hw => ?_)
    cases hM
    exact q_reti E hw dX1_make_102
  replace hM := i_neg hM c26
  by_cases c27 : x1 = 5
  · replace hM := i_pos hM c27
    refine lv_tableIn (tgt := 103) hx hb dX1_make_1 (by rw [c27]; decide) (by rw [c27]; decide) (off := 102) (by rw [c27]; decide) (by decide) ?_
    refine lv_aload_n hx hb dX1_make_103 rfl (lv_at hl 0 rfl) ?_
    refine lv_iload_n hx hb dX1_make_104 rfl (lv_at hl 2 rfl) ?_
    refine lv_iconst (v := 0) hx hb dX1_make_105 (by decide) ?_
    refine lv_iconst (v := 3) hx hb dX1_make_106 (by decide) ?_
    obtain ⟨p9, h10, hM⟩ := b_some hM
    refine q_cv (As := [.int x2, .int 0, .int 3]) (rest := []) E hw hl (c_X1_move l D cA tS A h L F x2 0 3 σ p9.1 p9.2 h10) 3 (bwV bw_c tb_552 tb_554 tb_9 tb_106 tb_555) rfl (by decide +kernel) ⟨Nat.le_of_ble_eq_true rfl, Nat.le_of_ble_eq_true rfl⟩ 12 1 (T := TX1) (N := 6) rfl rfl rfl rfl (Nat.le_of_ble_eq_true rfl) ⟨Nat.zero_le _, Nat.zero_le _⟩ dX1_make_107 (fun H locs hw => ?_)
    cases hM
    exact q_reti E hw dX1_make_110
  replace hM := i_neg hM c27
  by_cases c28 : x1 = 6
  · replace hM := i_pos hM c28
    refine lv_tableIn (tgt := 111) hx hb dX1_make_1 (by rw [c28]; decide) (by rw [c28]; decide) (off := 110) (by rw [c28]; decide) (by decide) ?_
    refine lv_aload_n hx hb dX1_make_111 rfl (lv_at hl 0 rfl) ?_
    refine lv_iload_n hx hb dX1_make_112 rfl (lv_at hl 2 rfl) ?_
    refine lv_aload_n hx hb dX1_make_113 rfl (lv_at hl 0 rfl) ?_
    refine q_get (C := RX1) (T := TX1) (N := 6) (ci := 1) E (fun w h => List.mem_cons_of_mem _ (inX1 w h)) hw 12 rfl rfl 5 (by decide) (List.mem_cons_of_mem _ tb_340) (v := .int (σ 12 0)) rfl dX1_make_114 ?_
    obtain ⟨p11, h12, hM⟩ := b_some hM
    refine q_cv (As := [.int x2, .int (σ 12 0)]) (rest := []) E hw hl (c_X1_raise l D cA tS A h L F x2 (σ 12 0) σ p11.1 p11.2 h12) 2 (bwV bw_c tb_556 tb_558 tb_10 tb_106 tb_559) rfl (by decide +kernel) ⟨Nat.le_of_ble_eq_true rfl, Nat.le_of_ble_eq_true rfl⟩ 12 1 (T := TX1) (N := 6) rfl rfl rfl rfl (Nat.le_of_ble_eq_true rfl) ⟨Nat.zero_le _, Nat.zero_le _⟩ dX1_make_117 (fun H locs hw => ?_)
    cases hM
    exact q_reti E hw dX1_make_120
  replace hM := i_neg hM c28
  by_cases c29 : x1 = 7
  · replace hM := i_pos hM c29
    refine lv_tableIn (tgt := 121) hx hb dX1_make_1 (by rw [c29]; decide) (by rw [c29]; decide) (off := 120) (by rw [c29]; decide) (by decide) ?_
    refine lv_aload_n hx hb dX1_make_121 rfl (lv_at hl 0 rfl) ?_
    refine lv_iload_n hx hb dX1_make_122 rfl (lv_at hl 2 rfl) ?_
    refine lv_aload_n hx hb dX1_make_123 rfl (lv_at hl 0 rfl) ?_
    refine q_get (C := RX1) (T := TX1) (N := 6) (ci := 1) E (fun w h => List.mem_cons_of_mem _ (inX1 w h)) hw 12 rfl rfl 5 (by decide) (List.mem_cons_of_mem _ tb_340) (v := .int (σ 12 0)) rfl dX1_make_124 ?_
    obtain ⟨p13, h14, hM⟩ := b_some hM
    refine q_cv (As := [.int x2, .int (σ 12 0)]) (rest := []) E hw hl (c_X1_finish l D cA tS A h L F N x2 (σ 12 0) σ p13.1 p13.2 h14) 2 (bwV bw_c tb_560 tb_562 tb_11 tb_106 tb_563) rfl (by decide +kernel) ⟨Nat.le_of_ble_eq_true rfl, Nat.le_of_ble_eq_true rfl⟩ 12 1 (T := TX1) (N := 6) rfl rfl rfl rfl (Nat.le_of_ble_eq_true rfl) ⟨Nat.zero_le _, Nat.zero_le _⟩ dX1_make_127 (fun H locs hw => ?_)
    cases hM
    exact q_reti E hw dX1_make_130
  replace hM := i_neg hM c29
  by_cases c30 : x1 = 8
  · replace hM := i_pos hM c30
    refine lv_tableIn (tgt := 131) hx hb dX1_make_1 (by rw [c30]; decide) (by rw [c30]; decide) (off := 130) (by rw [c30]; decide) (by decide) ?_
    refine lv_aload_n hx hb dX1_make_131 rfl (lv_at hl 0 rfl) ?_
    refine lv_iload_n hx hb dX1_make_132 rfl (lv_at hl 2 rfl) ?_
    obtain ⟨p15, h16, hM⟩ := b_some hM
    refine q_cv (As := [.int x2]) (rest := []) E hw hl (c_X1_reviveWithTwins l D cA tS A h L F N x2 σ p15.1 p15.2 h16) 1 (bwV bw_c tb_568 tb_570 tb_13 tb_106 tb_571) rfl (by decide +kernel) ⟨Nat.le_of_ble_eq_true rfl, Nat.le_of_ble_eq_true rfl⟩ 12 1 (T := TX1) (N := 6) rfl rfl rfl rfl (Nat.le_of_ble_eq_true rfl) ⟨Nat.zero_le _, Nat.zero_le _⟩ dX1_make_133 (fun H locs hw => ?_)
    cases hM
    exact q_reti E hw dX1_make_136
  replace hM := i_neg hM c30
  by_cases c31 : x1 = 9
  · replace hM := i_pos hM c31
    refine lv_tableIn (tgt := 137) hx hb dX1_make_1 (by rw [c31]; decide) (by rw [c31]; decide) (off := 136) (by rw [c31]; decide) (by decide) ?_
    refine lv_aload_n hx hb dX1_make_137 rfl (lv_at hl 0 rfl) ?_
    refine lv_iload_n hx hb dX1_make_138 rfl (lv_at hl 2 rfl) ?_
    refine lv_iload_n hx hb dX1_make_139 rfl (lv_at hl 3 rfl) ?_
    obtain ⟨p17, h18, hM⟩ := b_some hM
    refine q_cv (As := [.int x2, .int x3]) (rest := []) E hw hl (c_X1_tie l D cA tS A h L F N x2 x3 σ p17.1 p17.2 h18) 2 (bwV bw_c tb_576 tb_578 tb_15 tb_106 tb_579) rfl (by decide +kernel) ⟨Nat.le_of_ble_eq_true rfl, Nat.le_of_ble_eq_true rfl⟩ 12 1 (T := TX1) (N := 6) rfl rfl rfl rfl (Nat.le_of_ble_eq_true rfl) ⟨Nat.zero_le _, Nat.zero_le _⟩ dX1_make_140 (fun H locs hw => ?_)
    cases hM
    exact q_reti E hw dX1_make_143
  replace hM := i_neg hM c31
  by_cases c32 : x1 = 10
  · replace hM := i_pos hM c32
    refine lv_tableIn (tgt := 144) hx hb dX1_make_1 (by rw [c32]; decide) (by rw [c32]; decide) (off := 143) (by rw [c32]; decide) (by decide) ?_
    refine lv_aload_n hx hb dX1_make_144 rfl (lv_at hl 0 rfl) ?_
    refine lv_iload_n hx hb dX1_make_145 rfl (lv_at hl 2 rfl) ?_
    obtain ⟨p19, h20, hM⟩ := b_some hM
    refine q_cv (As := [.int x2]) (rest := []) E hw hl (c_X1_untie l D cA tS A h L F x2 σ p19.1 p19.2 h20) 1 (bwV bw_c tb_590 tb_592 tb_16 tb_106 tb_593) rfl (by decide +kernel) ⟨Nat.le_of_ble_eq_true rfl, Nat.le_of_ble_eq_true rfl⟩ 12 1 (T := TX1) (N := 6) rfl rfl rfl rfl (Nat.le_of_ble_eq_true rfl) ⟨Nat.zero_le _, Nat.zero_le _⟩ dX1_make_146 (fun H locs hw => ?_)
    cases hM
    exact q_reti E hw dX1_make_149
  replace hM := i_neg hM c32
  by_cases c33 : x1 = 11
  · replace hM := i_pos hM c33
    refine lv_tableIn (tgt := 150) hx hb dX1_make_1 (by rw [c33]; decide) (by rw [c33]; decide) (off := 149) (by rw [c33]; decide) (by decide) ?_
    refine lv_aload_n hx hb dX1_make_150 rfl (lv_at hl 0 rfl) ?_
    refine lv_iload_n hx hb dX1_make_151 rfl (lv_at hl 2 rfl) ?_
    refine lv_iload_n hx hb dX1_make_152 rfl (lv_at hl 3 rfl) ?_
    obtain ⟨p21, h22, hM⟩ := b_some hM
    refine q_cv (As := [.int x2, .int x3]) (rest := []) E hw hl (c_X1_rank l D cA tS A h L F x2 x3 σ p21.1 p21.2 h22) 2 (bwV bw_c tb_594 tb_596 tb_17 tb_106 tb_597) rfl (by decide +kernel) ⟨Nat.le_of_ble_eq_true rfl, Nat.le_of_ble_eq_true rfl⟩ 12 1 (T := TX1) (N := 6) rfl rfl rfl rfl (Nat.le_of_ble_eq_true rfl) ⟨Nat.zero_le _, Nat.zero_le _⟩ dX1_make_153 (fun H locs hw => ?_)
    cases hM
    exact q_reti E hw dX1_make_156
  replace hM := i_neg hM c33
  refine q_tableD (tgt := 157) hx hb dX1_make_1 (fun hq => ?_) (by decide) ?_
  · have hz : (x1).toInt = 0 ∨ (x1).toInt = 1 ∨ (x1).toInt = 2 ∨ (x1).toInt = 3 ∨ (x1).toInt = 4 ∨ (x1).toInt = 5 ∨ (x1).toInt = 6 ∨ (x1).toInt = 7 ∨ (x1).toInt = 8 ∨ (x1).toInt = 9 ∨ (x1).toInt = 10 ∨ (x1).toInt = 11 := by omega
    rcases hz with hz | hz | hz | hz | hz | hz | hz | hz | hz | hz | hz | hz
    · exact absurd (Int32.toInt_inj.mp (hz.trans (by decide))) c23
    · rw [hz]; decide
    · exact absurd (Int32.toInt_inj.mp (hz.trans (by decide))) c24
    · exact absurd (Int32.toInt_inj.mp (hz.trans (by decide))) c25
    · exact absurd (Int32.toInt_inj.mp (hz.trans (by decide))) c26
    · exact absurd (Int32.toInt_inj.mp (hz.trans (by decide))) c27
    · exact absurd (Int32.toInt_inj.mp (hz.trans (by decide))) c28
    · exact absurd (Int32.toInt_inj.mp (hz.trans (by decide))) c29
    · exact absurd (Int32.toInt_inj.mp (hz.trans (by decide))) c30
    · exact absurd (Int32.toInt_inj.mp (hz.trans (by decide))) c31
    · exact absurd (Int32.toInt_inj.mp (hz.trans (by decide))) c32
    · exact absurd (Int32.toInt_inj.mp (hz.trans (by decide))) c33
  refine lv_iconst (v := 0) hx hb dX1_make_157 (by decide) ?_
  cases hM
  exact q_reti E hw dX1_make_158
def f_X1_minutesLeft    (x1 : Int32) (σ : Sg) : Option (Int32) := if ib x1 60 then if ib (σ 16 (ix x1)) 6 then some ((σ 2 (ix (σ 16 (ix x1)))) - (σ 25 (ix x1))) else none else none
set_option maxRecDepth 100000 in
set_option maxHeartbeats 4000000 in
theorem c_X1_minutesLeft (l : Launch) (D : va_G) (cA : Nat → ClassId) (tS : Nat → Nat) (A : Nat → Prop) (h : Nat → Nat) (L : Nat) (F : va_W) (x1 : Int32) (σ : Sg) (r0 : Int32) (hM : f_X1_minutesLeft x1 σ = some r0) : Ct l yX1_minutesLeft (Cond.code yX1_minutesLeft cX1_minutesLeft 2 (some .int) :: bw) 0 0 D cA tS A [.ref (h 42), .int x1] (wK cA h σ ++ (wLg cA h σ L ++ (wC cA h σ ++ F))) (some (.int r0)) (wK cA h σ ++ (wLg cA h σ L ++ (wC cA h σ ++ F))) := by
  refine ct_of (by decide +kernel) (Nat.le_of_ble_eq_true rfl) ?_
  intro p e s m below meth c E hw ls hl
  replace E : Ev p cX1_minutesLeft 2 (some .int) RX1 (Cond.code yX1_minutesLeft cX1_minutesLeft 2 (some .int) :: bw) D cA tS A s m _ meth c := E
  replace hl : lv_has ls 2 [(0, .ref (h 42)), (1, .int x1)] := hl
  have hx := E.1.1
  have hb := E.1.2.1
  unfold f_X1_minutesLeft at hM
  refine lv_aload_n hx hb dX1_minutesLeft_0 rfl (lv_at hl 0 rfl) ?_
  refine q_get (C := RX1) (T := TX1) (N := 6) (ci := 1) E (fun w h => List.mem_cons_of_mem _ (inX1 w h)) hw 12 rfl rfl 0 (by decide) (List.mem_cons_of_mem _ tb_332) (v := .ref (h 40)) rfl dX1_minutesLeft_1 ?_
  refine q_get (C := RX3) (T := TX3) (N := 7) (ci := 3) E (fun w h => List.mem_cons_of_mem _ (inX3 w h)) hw 0 rfl rfl 1 (by decide) (List.mem_cons_of_mem _ tb_141) (v := .ref (h 2)) rfl dX1_minutesLeft_4 ?_
  refine lv_aload_n hx hb dX1_minutesLeft_7 rfl (lv_at hl 0 rfl) ?_
  refine q_get (C := RX1) (T := TX1) (N := 6) (ci := 1) E (fun w h => List.mem_cons_of_mem _ (inX1 w h)) hw 12 rfl rfl 3 (by decide) (List.mem_cons_of_mem _ tb_336) (v := .ref (h 44)) rfl dX1_minutesLeft_8 ?_
  refine q_get (C := RX7) (T := TX7) (N := 15) (ci := 7) E (fun w h => List.mem_cons_of_mem _ (inX7 w h)) hw 16 rfl rfl 0 (by decide) (List.mem_cons_of_mem _ tb_264) (v := .ref (h 16)) rfl dX1_minutesLeft_11 ?_
  refine lv_iload_n hx hb dX1_minutesLeft_14 rfl (lv_at hl 1 rfl) ?_
  obtain ⟨g1, hM⟩ := g_some hM
  refine q_ald E hw 17 (n := 60) rfl g1 (x := (σ 16 (ix x1))) rfl dX1_minutesLeft_15 ?_
  obtain ⟨g2, hM⟩ := g_some hM
  refine q_ald E hw 2 (n := 6) rfl g2 (x := (σ 2 (ix (σ 16 (ix x1))))) rfl dX1_minutesLeft_16 ?_
  refine lv_aload_n hx hb dX1_minutesLeft_17 rfl (lv_at hl 0 rfl) ?_
  refine q_get (C := RX1) (T := TX1) (N := 6) (ci := 1) E (fun w h => List.mem_cons_of_mem _ (inX1 w h)) hw 12 rfl rfl 3 (by decide) (List.mem_cons_of_mem _ tb_336) (v := .ref (h 44)) rfl dX1_minutesLeft_18 ?_
  refine q_get (C := RX7) (T := TX7) (N := 15) (ci := 7) E (fun w h => List.mem_cons_of_mem _ (inX7 w h)) hw 16 rfl rfl 9 (by decide) (List.mem_cons_of_mem _ tb_285) (v := .ref (h 25)) rfl dX1_minutesLeft_21 ?_
  refine lv_iload_n hx hb dX1_minutesLeft_24 rfl (lv_at hl 1 rfl) ?_
  refine q_ald E hw 26 (n := 60) rfl g1 (x := (σ 25 (ix x1))) rfl dX1_minutesLeft_25 ?_
  refine lv_isub hx hb dX1_minutesLeft_26 ?_
  cases hM
  exact q_reti E hw dX1_minutesLeft_27
def f_X1_isMoreUrgent    (x1 : Int32) (x2 : Int32) (σ : Sg) : Option (Int32) := if ib x1 60 then if ib x2 60 then (if (σ 19 (ix x1)) = (σ 19 (ix x2)) then (f_X1_minutesLeft x1 σ).bind (fun p4 => (f_X1_minutesLeft x2 σ).bind (fun p6 => (if p6 ≤ p4 then some 0 else some 1))) else (if (σ 19 (ix x1)) ≤ (σ 19 (ix x2)) then some 0 else some 1)) else none else none
set_option maxRecDepth 100000 in
set_option maxHeartbeats 4000000 in
theorem c_X1_isMoreUrgent (l : Launch) (D : va_G) (cA : Nat → ClassId) (tS : Nat → Nat) (A : Nat → Prop) (h : Nat → Nat) (L : Nat) (F : va_W) (x1 : Int32) (x2 : Int32) (σ : Sg) (r0 : Int32) (hM : f_X1_isMoreUrgent x1 x2 σ = some r0) : Ct l yX1_isMoreUrgent (Cond.code yX1_isMoreUrgent cX1_isMoreUrgent 3 (some .boolean) :: bw) 1 21 D cA tS A [.ref (h 42), .int x1, .int x2] (wK cA h σ ++ (wLg cA h σ L ++ (wC cA h σ ++ F))) (some (.int r0)) (wK cA h σ ++ (wLg cA h σ L ++ (wC cA h σ ++ F))) := by
  refine ct_of (by decide +kernel) (Nat.le_of_ble_eq_true rfl) ?_
  intro p e s m below meth c E hw ls hl
  replace E : Ev p cX1_isMoreUrgent 3 (some .boolean) RX1 (Cond.code yX1_isMoreUrgent cX1_isMoreUrgent 3 (some .boolean) :: bw) D cA tS A s m _ meth c := E
  replace hl : lv_has ls 3 [(0, .ref (h 42)), (1, .int x1), (2, .int x2)] := hl
  have hx := E.1.1
  have hb := E.1.2.1
  unfold f_X1_isMoreUrgent at hM
  refine lv_aload_n hx hb dX1_isMoreUrgent_0 rfl (lv_at hl 0 rfl) ?_
  refine q_get (C := RX1) (T := TX1) (N := 6) (ci := 1) E (fun w h => List.mem_cons_of_mem _ (inX1 w h)) hw 12 rfl rfl 3 (by decide) (List.mem_cons_of_mem _ tb_336) (v := .ref (h 44)) rfl dX1_isMoreUrgent_1 ?_
  refine q_get (C := RX7) (T := TX7) (N := 15) (ci := 7) E (fun w h => List.mem_cons_of_mem _ (inX7 w h)) hw 16 rfl rfl 3 (by decide) (List.mem_cons_of_mem _ tb_268) (v := .ref (h 19)) rfl dX1_isMoreUrgent_4 ?_
  refine lv_iload_n hx hb dX1_isMoreUrgent_7 rfl (lv_at hl 1 rfl) ?_
  obtain ⟨g1, hM⟩ := g_some hM
  refine q_ald E hw 20 (n := 60) rfl g1 (x := (σ 19 (ix x1))) rfl dX1_isMoreUrgent_8 ?_
  refine lv_aload_n hx hb dX1_isMoreUrgent_9 rfl (lv_at hl 0 rfl) ?_
  refine q_get (C := RX1) (T := TX1) (N := 6) (ci := 1) E (fun w h => List.mem_cons_of_mem _ (inX1 w h)) hw 12 rfl rfl 3 (by decide) (List.mem_cons_of_mem _ tb_336) (v := .ref (h 44)) rfl dX1_isMoreUrgent_10 ?_
  refine q_get (C := RX7) (T := TX7) (N := 15) (ci := 7) E (fun w h => List.mem_cons_of_mem _ (inX7 w h)) hw 16 rfl rfl 3 (by decide) (List.mem_cons_of_mem _ tb_268) (v := .ref (h 19)) rfl dX1_isMoreUrgent_13 ?_
  refine lv_iload_n hx hb dX1_isMoreUrgent_16 rfl (lv_at hl 2 rfl) ?_
  obtain ⟨g2, hM⟩ := g_some hM
  refine q_ald E hw 20 (n := 60) rfl g2 (x := (σ 19 (ix x2))) rfl dX1_isMoreUrgent_17 ?_
  refine lv_icmp_eq (tgt := 48) hx hb dX1_isMoreUrgent_18 (by decide) (fun c3 => ?_) (fun c3 => ?_)
  · replace hM := i_pos hM c3
    refine lv_aload_n hx hb dX1_isMoreUrgent_48 rfl (lv_at hl 0 rfl) ?_
    refine lv_iload_n hx hb dX1_isMoreUrgent_49 rfl (lv_at hl 1 rfl) ?_
    obtain ⟨p4, h5, hM⟩ := b_some hM
    refine q_cv (As := [.int x1]) (rest := []) E hw hl (c_X1_minutesLeft l D cA tS A h L F x1 σ p4 h5) 1 (bwV bw_c tb_709 tb_711 tb_20 tb_106 tb_712) rfl (by decide +kernel) ⟨Nat.le_of_ble_eq_true rfl, Nat.le_of_ble_eq_true rfl⟩ 12 1 (T := TX1) (N := 6) rfl rfl rfl rfl (Nat.le_of_ble_eq_true rfl) ⟨Nat.zero_le _, Nat.zero_le _⟩ dX1_isMoreUrgent_50 (fun H locs hw => ?_)
    refine lv_aload_n hx hb dX1_isMoreUrgent_53 rfl (lv_at hl 0 rfl) ?_
    refine lv_iload_n hx hb dX1_isMoreUrgent_54 rfl (lv_at hl 2 rfl) ?_
    obtain ⟨p6, h7, hM⟩ := b_some hM
    refine q_cv (As := [.int x2]) (rest := [.int p4]) E hw hl (c_X1_minutesLeft l D cA tS A h L F x2 σ p6 h7) 1 (bwV bw_c tb_709 tb_711 tb_20 tb_106 tb_712) rfl (by decide +kernel) ⟨Nat.le_of_ble_eq_true rfl, Nat.le_of_ble_eq_true rfl⟩ 12 1 (T := TX1) (N := 6) rfl rfl rfl rfl (Nat.le_of_ble_eq_true rfl) ⟨Nat.zero_le _, Nat.zero_le _⟩ dX1_isMoreUrgent_55 (fun H locs hw => ?_)
    refine lv_icmp_ge (tgt := 65) hx hb dX1_isMoreUrgent_58 (by decide) (fun c8 => ?_) (fun c8 => ?_)
    · replace hM := i_pos hM c8
      refine lv_iconst (v := 0) hx hb dX1_isMoreUrgent_65 (by decide) ?_
      cases hM
      exact q_retz E hw (by decide) dX1_isMoreUrgent_66
    · replace hM := i_neg hM c8
      refine lv_iconst (v := 1) hx hb dX1_isMoreUrgent_61 (by decide) ?_
      refine lv_goto (tgt := 66) hx hb dX1_isMoreUrgent_62 (by decide) ?_
      cases hM
      exact q_retz E hw (by decide) dX1_isMoreUrgent_66
  · replace hM := i_neg hM c3
    refine lv_aload_n hx hb dX1_isMoreUrgent_21 rfl (lv_at hl 0 rfl) ?_
    refine q_get (C := RX1) (T := TX1) (N := 6) (ci := 1) E (fun w h => List.mem_cons_of_mem _ (inX1 w h)) hw 12 rfl rfl 3 (by decide) (List.mem_cons_of_mem _ tb_336) (v := .ref (h 44)) rfl dX1_isMoreUrgent_22 ?_
    refine q_get (C := RX7) (T := TX7) (N := 15) (ci := 7) E (fun w h => List.mem_cons_of_mem _ (inX7 w h)) hw 16 rfl rfl 3 (by decide) (List.mem_cons_of_mem _ tb_268) (v := .ref (h 19)) rfl dX1_isMoreUrgent_25 ?_
    refine lv_iload_n hx hb dX1_isMoreUrgent_28 rfl (lv_at hl 1 rfl) ?_
    refine q_ald E hw 20 (n := 60) rfl g1 (x := (σ 19 (ix x1))) rfl dX1_isMoreUrgent_29 ?_
    refine lv_aload_n hx hb dX1_isMoreUrgent_30 rfl (lv_at hl 0 rfl) ?_
    refine q_get (C := RX1) (T := TX1) (N := 6) (ci := 1) E (fun w h => List.mem_cons_of_mem _ (inX1 w h)) hw 12 rfl rfl 3 (by decide) (List.mem_cons_of_mem _ tb_336) (v := .ref (h 44)) rfl dX1_isMoreUrgent_31 ?_
    refine q_get (C := RX7) (T := TX7) (N := 15) (ci := 7) E (fun w h => List.mem_cons_of_mem _ (inX7 w h)) hw 16 rfl rfl 3 (by decide) (List.mem_cons_of_mem _ tb_268) (v := .ref (h 19)) rfl dX1_isMoreUrgent_34 ?_
    refine lv_iload_n hx hb dX1_isMoreUrgent_37 rfl (lv_at hl 2 rfl) ?_
    refine q_ald E hw 20 (n := 60) rfl g2 (x := (σ 19 (ix x2))) rfl dX1_isMoreUrgent_38 ?_
    refine lv_icmp_le (tgt := 46) hx hb dX1_isMoreUrgent_39 (by decide) (fun c9 => ?_) (fun c9 => ?_)
    · replace hM := i_pos hM c9
      refine lv_iconst (v := 0) hx hb dX1_isMoreUrgent_46 (by decide) ?_
      cases hM
      exact q_retz E hw (by decide) dX1_isMoreUrgent_47
    · replace hM := i_neg hM c9
      refine lv_iconst (v := 1) hx hb dX1_isMoreUrgent_42 (by decide) ?_
      refine lv_goto (tgt := 47) hx hb dX1_isMoreUrgent_43 (by decide) ?_
      cases hM
      exact q_retz E hw (by decide) dX1_isMoreUrgent_47
def f_X1_firstQueued_4 (N : Nat)   : Nat → Int32 → Int32 → Int32 → Sg → Option (Int32)
  | 0, _, _, _, _ => none
  | n + 1, x1, x2, x3, σ => (if (σ 15 0) ≤ x3 then some x2 else if ib x3 60 then (if (σ 21 (ix x3)) = 0 then (if (σ 20 (ix x3)) = x1 then (if x2 = (-1) then f_X1_firstQueued_4 N n x1 x3 (x3 + 1) σ else (f_X1_isMoreUrgent x3 x2 σ).bind (fun p6 => (if p6 = 0 then f_X1_firstQueued_4 N n x1 x2 (x3 + 1) σ else f_X1_firstQueued_4 N n x1 x3 (x3 + 1) σ))) else f_X1_firstQueued_4 N n x1 x2 (x3 + 1) σ) else f_X1_firstQueued_4 N n x1 x2 (x3 + 1) σ) else none)
set_option maxRecDepth 100000 in
set_option maxHeartbeats 4000000 in
theorem s_X1_firstQueued_4 (l : Launch) (D : va_G) (cA : Nat → ClassId) (tS : Nat → Nat) (A : Nat → Prop) (h : Nat → Nat) (L : Nat) (F : va_W) (N : Nat) {p : Program} {e : Env} {s : State} {m : MethodId} {args : Array Value} {below : List Frame} {meth : Method} {c : Code} (E : Ev p cX1_firstQueued 4 (some .int) RX1 (Cond.code yX1_firstQueued cX1_firstQueued 4 (some .int) :: bw) D cA tS A s m args meth c) : ∀ (n : Nat) (x1 : Int32) (x2 : Int32) (x3 : Int32) (σ : Sg) (r0 : Int32) (hM : f_X1_firstQueued_4 N n x1 x2 x3 σ = some r0) (H : Heap) (locs : List Loc) (hw : Wd D A (wK cA h σ ++ (wLg cA h σ L ++ (wC cA h σ ++ F))) s.heap H locs) (ls : Array Slot) (hl : lv_has ls 4 [(0, .ref (h 42)), (1, .int x1), (2, .int x2), (3, .int x3)]), W p l e ({ frames := 2, cells := 0, slots := 0, locals := 43 } : Room) s m args below meth c H locs 0 0 (MQ below (QW D A (some (.int r0)) (wK cA h σ ++ (wLg cA h σ L ++ (wC cA h σ ++ F)))) args s 0 0 A) (F0 m 4 ls []) := by
  have hx := E.1.1
  have hb := E.1.2.1
  intro n
  induction n with
  | zero =>
    intro x1 x2 x3 σ r0 hM
    cases hM
  | succ n ih =>
    intro x1 x2 x3 σ r0 hM H locs hw ls hl
    rw [f_X1_firstQueued_4] at hM
    refine lv_iload_n hx hb dX1_firstQueued_4 rfl (lv_at hl 3 rfl) ?_
    refine lv_aload_n hx hb dX1_firstQueued_5 rfl (lv_at hl 0 rfl) ?_
    refine q_get (C := RX1) (T := TX1) (N := 6) (ci := 1) E (fun w h => List.mem_cons_of_mem _ (inX1 w h)) hw 12 rfl rfl 3 (by decide) (List.mem_cons_of_mem _ tb_336) (v := .ref (h 44)) rfl dX1_firstQueued_6 ?_
    refine q_get (C := RX7) (T := TX7) (N := 15) (ci := 7) E (fun w h => List.mem_cons_of_mem _ (inX7 w h)) hw 16 rfl rfl 14 (by decide) (List.mem_cons_of_mem _ tb_299) (v := .int (σ 15 0)) rfl dX1_firstQueued_9 ?_
    refine lv_icmp_ge (tgt := 62) hx hb dX1_firstQueued_12 (by decide) (fun c1 => ?_) (fun c1 => ?_)
    · replace hM := i_pos hM c1
      refine lv_iload_n hx hb dX1_firstQueued_62 rfl (lv_at hl 2 rfl) ?_
      cases hM
      exact q_reti E hw dX1_firstQueued_63
    · replace hM := i_neg hM c1
      refine lv_aload_n hx hb dX1_firstQueued_15 rfl (lv_at hl 0 rfl) ?_
      refine q_get (C := RX1) (T := TX1) (N := 6) (ci := 1) E (fun w h => List.mem_cons_of_mem _ (inX1 w h)) hw 12 rfl rfl 3 (by decide) (List.mem_cons_of_mem _ tb_336) (v := .ref (h 44)) rfl dX1_firstQueued_16 ?_
      refine q_get (C := RX7) (T := TX7) (N := 15) (ci := 7) E (fun w h => List.mem_cons_of_mem _ (inX7 w h)) hw 16 rfl rfl 5 (by decide) (List.mem_cons_of_mem _ tb_274) (v := .ref (h 21)) rfl dX1_firstQueued_19 ?_
      refine lv_iload_n hx hb dX1_firstQueued_22 rfl (lv_at hl 3 rfl) ?_
      obtain ⟨g2, hM⟩ := g_some hM
      refine q_ald E hw 22 (n := 60) rfl g2 (x := (σ 21 (ix x3))) rfl dX1_firstQueued_23 ?_
      refine lv_if_ne (tgt := 56) hx hb dX1_firstQueued_24 (by decide) (fun c3 => ?_) (fun c3 => ?_)
      · replace hM := i_neg hM c3
        refine lv_iinc (v := (x3 + 1)) (lv' := [(3, .int (x3 + 1)), (0, .ref (h 42)), (1, .int x1), (2, .int x2)]) hx hb dX1_firstQueued_56 hl (k := 3) rfl rfl (by decide) rfl (fun ls hl => ?_)
        refine lv_goto (tgt := 4) hx hb dX1_firstQueued_59 (by decide) ?_
        exact ih _ _ _ _ _ hM _ _ hw _ (lv_sub hl [1, 2, 3, 0] rfl)
      · replace hM := i_pos hM c3
        refine lv_aload_n hx hb dX1_firstQueued_27 rfl (lv_at hl 0 rfl) ?_
        refine q_get (C := RX1) (T := TX1) (N := 6) (ci := 1) E (fun w h => List.mem_cons_of_mem _ (inX1 w h)) hw 12 rfl rfl 3 (by decide) (List.mem_cons_of_mem _ tb_336) (v := .ref (h 44)) rfl dX1_firstQueued_28 ?_
        refine q_get (C := RX7) (T := TX7) (N := 15) (ci := 7) E (fun w h => List.mem_cons_of_mem _ (inX7 w h)) hw 16 rfl rfl 4 (by decide) (List.mem_cons_of_mem _ tb_271) (v := .ref (h 20)) rfl dX1_firstQueued_31 ?_
        refine lv_iload_n hx hb dX1_firstQueued_34 rfl (lv_at hl 3 rfl) ?_
        refine q_ald E hw 21 (n := 60) rfl g2 (x := (σ 20 (ix x3))) rfl dX1_firstQueued_35 ?_
        refine lv_iload_n hx hb dX1_firstQueued_36 rfl (lv_at hl 1 rfl) ?_
        refine lv_icmp_ne (tgt := 56) hx hb dX1_firstQueued_37 (by decide) (fun c4 => ?_) (fun c4 => ?_)
        · replace hM := i_neg hM c4
          refine lv_iinc (v := (x3 + 1)) (lv' := [(3, .int (x3 + 1)), (0, .ref (h 42)), (1, .int x1), (2, .int x2)]) hx hb dX1_firstQueued_56 hl (k := 3) rfl rfl (by decide) rfl (fun ls hl => ?_)
          refine lv_goto (tgt := 4) hx hb dX1_firstQueued_59 (by decide) ?_
          exact ih _ _ _ _ _ hM _ _ hw _ (lv_sub hl [1, 2, 3, 0] rfl)
        · replace hM := i_pos hM c4
          refine lv_iload_n hx hb dX1_firstQueued_40 rfl (lv_at hl 2 rfl) ?_
          refine lv_iconst (v := (-1)) hx hb dX1_firstQueued_41 (by decide) ?_
          refine lv_icmp_eq (tgt := 54) hx hb dX1_firstQueued_42 (by decide) (fun c5 => ?_) (fun c5 => ?_)
          · replace hM := i_pos hM c5
            refine lv_iload_n hx hb dX1_firstQueued_54 rfl (lv_at hl 3 rfl) ?_
            refine lv_istore_n (lv' := [(2, .int x3), (0, .ref (h 42)), (1, .int x1), (3, .int x3)]) hx hb dX1_firstQueued_55 rfl hl (by decide) rfl (fun ls hl => ?_)
            refine lv_iinc (v := (x3 + 1)) (lv' := [(3, .int (x3 + 1)), (2, .int x3), (0, .ref (h 42)), (1, .int x1)]) hx hb dX1_firstQueued_56 hl (k := 3) rfl rfl (by decide) rfl (fun ls hl => ?_)
            refine lv_goto (tgt := 4) hx hb dX1_firstQueued_59 (by decide) ?_
            exact ih _ _ _ _ _ hM _ _ hw _ (lv_sub hl [2, 3, 1, 0] rfl)
          · replace hM := i_neg hM c5
            refine lv_aload_n hx hb dX1_firstQueued_45 rfl (lv_at hl 0 rfl) ?_
            refine lv_iload_n hx hb dX1_firstQueued_46 rfl (lv_at hl 3 rfl) ?_
            refine lv_iload_n hx hb dX1_firstQueued_47 rfl (lv_at hl 2 rfl) ?_
            obtain ⟨p6, h7, hM⟩ := b_some hM
            refine q_cv (As := [.int x3, .int x2]) (rest := []) E hw hl (c_X1_isMoreUrgent l D cA tS A h L F x3 x2 σ p6 h7) 2 (bwV bw_c tb_705 tb_707 tb_19 tb_106 tb_708) rfl (by decide +kernel) ⟨Nat.le_of_ble_eq_true rfl, Nat.le_of_ble_eq_true rfl⟩ 12 1 (T := TX1) (N := 6) rfl rfl rfl rfl (Nat.le_of_ble_eq_true rfl) ⟨Nat.zero_le _, Nat.zero_le _⟩ dX1_firstQueued_48 (fun H locs hw => ?_)
            refine lv_if_eq (tgt := 56) hx hb dX1_firstQueued_51 (by decide) (fun c8 => ?_) (fun c8 => ?_)
            · replace hM := i_pos hM c8
              refine lv_iinc (v := (x3 + 1)) (lv' := [(3, .int (x3 + 1)), (0, .ref (h 42)), (1, .int x1), (2, .int x2)]) hx hb dX1_firstQueued_56 hl (k := 3) rfl rfl (by decide) rfl (fun ls hl => ?_)
              refine lv_goto (tgt := 4) hx hb dX1_firstQueued_59 (by decide) ?_
              exact ih _ _ _ _ _ hM _ _ hw _ (lv_sub hl [1, 2, 3, 0] rfl)
            · replace hM := i_neg hM c8
              refine lv_iload_n hx hb dX1_firstQueued_54 rfl (lv_at hl 3 rfl) ?_
              refine lv_istore_n (lv' := [(2, .int x3), (0, .ref (h 42)), (1, .int x1), (3, .int x3)]) hx hb dX1_firstQueued_55 rfl hl (by decide) rfl (fun ls hl => ?_)
              refine lv_iinc (v := (x3 + 1)) (lv' := [(3, .int (x3 + 1)), (2, .int x3), (0, .ref (h 42)), (1, .int x1)]) hx hb dX1_firstQueued_56 hl (k := 3) rfl rfl (by decide) rfl (fun ls hl => ?_)
              refine lv_goto (tgt := 4) hx hb dX1_firstQueued_59 (by decide) ?_
              exact ih _ _ _ _ _ hM _ _ hw _ (lv_sub hl [2, 3, 1, 0] rfl)
def f_X1_firstQueued (N : Nat)   (x1 : Int32) (σ : Sg) : Option (Int32) := f_X1_firstQueued_4 N N x1 (-1) 0 σ
set_option maxRecDepth 100000 in
set_option maxHeartbeats 4000000 in
theorem c_X1_firstQueued (l : Launch) (D : va_G) (cA : Nat → ClassId) (tS : Nat → Nat) (A : Nat → Prop) (h : Nat → Nat) (L : Nat) (F : va_W) (N : Nat) (x1 : Int32) (σ : Sg) (r0 : Int32) (hM : f_X1_firstQueued N x1 σ = some r0) : Ct l yX1_firstQueued (Cond.code yX1_firstQueued cX1_firstQueued 4 (some .int) :: bw) 2 43 D cA tS A [.ref (h 42), .int x1] (wK cA h σ ++ (wLg cA h σ L ++ (wC cA h σ ++ F))) (some (.int r0)) (wK cA h σ ++ (wLg cA h σ L ++ (wC cA h σ ++ F))) := by
  refine ct_of (by decide +kernel) (Nat.le_of_ble_eq_true rfl) ?_
  intro p e s m below meth c E hw ls hl
  replace E : Ev p cX1_firstQueued 4 (some .int) RX1 (Cond.code yX1_firstQueued cX1_firstQueued 4 (some .int) :: bw) D cA tS A s m _ meth c := E
  replace hl : lv_has ls 4 [(0, .ref (h 42)), (1, .int x1)] := hl
  have hx := E.1.1
  have hb := E.1.2.1
  unfold f_X1_firstQueued at hM
  refine lv_iconst (v := (-1)) hx hb dX1_firstQueued_0 (by decide) ?_
  refine lv_istore_n (lv' := [(2, .int (-1)), (0, .ref (h 42)), (1, .int x1)]) hx hb dX1_firstQueued_1 rfl hl (by decide) rfl (fun ls hl => ?_)
  refine lv_iconst (v := 0) hx hb dX1_firstQueued_2 (by decide) ?_
  refine lv_istore_n (lv' := [(3, .int 0), (2, .int (-1)), (0, .ref (h 42)), (1, .int x1)]) hx hb dX1_firstQueued_3 rfl hl (by decide) rfl (fun ls hl => ?_)
  exact s_X1_firstQueued_4 l D cA tS A h L F N E N _ _ _ _ _ hM _ _ hw _ (lv_sub hl [2, 3, 1, 0] rfl)
def f_X7_isAnswered    (x1 : Int32) (σ : Sg) : Option (Int32) := if ib x1 60 then (if (σ 28 (ix x1)) = (-1) then some 0 else some 1) else none
set_option maxRecDepth 100000 in
set_option maxHeartbeats 4000000 in
theorem c_X7_isAnswered (l : Launch) (D : va_G) (cA : Nat → ClassId) (tS : Nat → Nat) (A : Nat → Prop) (h : Nat → Nat) (L : Nat) (F : va_W) (x1 : Int32) (σ : Sg) (r0 : Int32) (hM : f_X7_isAnswered x1 σ = some r0) : Ct l yX7_isAnswered (Cond.code yX7_isAnswered cX7_isAnswered 2 (some .boolean) :: bw) 0 0 D cA tS A [.ref (h 44), .int x1] (wK cA h σ ++ (wLg cA h σ L ++ (wC cA h σ ++ F))) (some (.int r0)) (wK cA h σ ++ (wLg cA h σ L ++ (wC cA h σ ++ F))) := by
  refine ct_of (by decide +kernel) (Nat.le_of_ble_eq_true rfl) ?_
  intro p e s m below meth c E hw ls hl
  replace E : Ev p cX7_isAnswered 2 (some .boolean) RX7 (Cond.code yX7_isAnswered cX7_isAnswered 2 (some .boolean) :: bw) D cA tS A s m _ meth c := E
  replace hl : lv_has ls 2 [(0, .ref (h 44)), (1, .int x1)] := hl
  have hx := E.1.1
  have hb := E.1.2.1
  unfold f_X7_isAnswered at hM
  refine lv_aload_n hx hb dX7_isAnswered_0 rfl (lv_at hl 0 rfl) ?_
  refine q_get (C := RX7) (T := TX7) (N := 15) (ci := 7) E (fun w h => List.mem_cons_of_mem _ (inX7 w h)) hw 16 rfl rfl 12 (by decide) (List.mem_cons_of_mem _ tb_292) (v := .ref (h 28)) rfl dX7_isAnswered_1 ?_
  refine lv_iload_n hx hb dX7_isAnswered_4 rfl (lv_at hl 1 rfl) ?_
  obtain ⟨g1, hM⟩ := g_some hM
  refine q_ald E hw 29 (n := 60) rfl g1 (x := (σ 28 (ix x1))) rfl dX7_isAnswered_5 ?_
  refine lv_iconst (v := (-1)) hx hb dX7_isAnswered_6 (by decide) ?_
  refine lv_icmp_eq (tgt := 14) hx hb dX7_isAnswered_7 (by decide) (fun c2 => ?_) (fun c2 => ?_)
  · replace hM := i_pos hM c2
    refine lv_iconst (v := 0) hx hb dX7_isAnswered_14 (by decide) ?_
    cases hM
    exact q_retz E hw (by decide) dX7_isAnswered_15
  · replace hM := i_neg hM c2
    refine lv_iconst (v := 1) hx hb dX7_isAnswered_10 (by decide) ?_
    refine lv_goto (tgt := 15) hx hb dX7_isAnswered_11 (by decide) ?_
    cases hM
    exact q_retz E hw (by decide) dX7_isAnswered_15
def f_X1_take  (L : Nat)  (x1 : Int32) (σ : Sg) : Option (Sg) := if ib x1 60 then (f_X7_isAnswered x1 (up σ 21 (ix x1) 1)).bind (fun p2 => (if p2 = 0 then (f_X4_write L (σ 12 0) 1 x1 (σ 20 (ix x1)) (up (up σ 21 (ix x1) 1) 28 (ix x1) (σ 12 0))).bind (fun p7 => some p7) else (f_X4_write L (σ 12 0) 1 x1 (σ 20 (ix x1)) (up σ 21 (ix x1) 1)).bind (fun p5 => some p5))) else none
set_option maxRecDepth 100000 in
set_option maxHeartbeats 4000000 in
theorem c_X1_take (l : Launch) (D : va_G) (cA : Nat → ClassId) (tS : Nat → Nat) (A : Nat → Prop) (h : Nat → Nat) (L : Nat) (F : va_W) (x1 : Int32) (σ : Sg) (s0 : Sg) (hM : f_X1_take L x1 σ = some s0) : Ct l yX1_take (Cond.code yX1_take cX1_take 2 none :: bw) 1 24 D cA tS A [.ref (h 42), .int x1] (wK cA h σ ++ (wLg cA h σ L ++ (wC cA h σ ++ F))) none (wK cA h s0 ++ (wLg cA h s0 L ++ (wC cA h s0 ++ F))) := by
  refine ct_of (by decide +kernel) (Nat.le_of_ble_eq_true rfl) ?_
  intro p e s m below meth c E hw ls hl
  replace E : Ev p cX1_take 2 none RX1 (Cond.code yX1_take cX1_take 2 none :: bw) D cA tS A s m _ meth c := E
  replace hl : lv_has ls 2 [(0, .ref (h 42)), (1, .int x1)] := hl
  have hx := E.1.1
  have hb := E.1.2.1
  unfold f_X1_take at hM
  refine lv_aload_n hx hb dX1_take_0 rfl (lv_at hl 0 rfl) ?_
  refine q_get (C := RX1) (T := TX1) (N := 6) (ci := 1) E (fun w h => List.mem_cons_of_mem _ (inX1 w h)) hw 12 rfl rfl 3 (by decide) (List.mem_cons_of_mem _ tb_336) (v := .ref (h 44)) rfl dX1_take_1 ?_
  refine q_get (C := RX7) (T := TX7) (N := 15) (ci := 7) E (fun w h => List.mem_cons_of_mem _ (inX7 w h)) hw 16 rfl rfl 5 (by decide) (List.mem_cons_of_mem _ tb_274) (v := .ref (h 21)) rfl dX1_take_4 ?_
  refine lv_iload_n hx hb dX1_take_7 rfl (lv_at hl 1 rfl) ?_
  refine lv_iconst (v := 1) hx hb dX1_take_8 (by decide) ?_
  obtain ⟨g1, hM⟩ := g_some hM
  refine q_ast E hw 22 (n := 60) rfl g1 (wK cA h (up σ 21 (ix x1) 1) ++ (wLg cA h (up σ 21 (ix x1) 1) L ++ (wC cA h (up σ 21 (ix x1) 1) ++ F))) st_K_Lg_C_21 dX1_take_9 (fun H locs hw => ?_)
  refine lv_aload_n hx hb dX1_take_10 rfl (lv_at hl 0 rfl) ?_
  refine q_get (C := RX1) (T := TX1) (N := 6) (ci := 1) E (fun w h => List.mem_cons_of_mem _ (inX1 w h)) hw 12 rfl rfl 3 (by decide) (List.mem_cons_of_mem _ tb_336) (v := .ref (h 44)) rfl dX1_take_11 ?_
  refine lv_iload_n hx hb dX1_take_14 rfl (lv_at hl 1 rfl) ?_
  obtain ⟨p2, h3, hM⟩ := b_some hM
  refine q_cv (As := [.int x1]) (rest := []) E hw hl (c_X7_isAnswered l D cA tS A h L F x1 (up σ 21 (ix x1) 1) p2 h3) 1 (bwV bw_c tb_717 tb_718 tb_719 tb_108 tb_720) rfl (by decide +kernel) ⟨Nat.le_of_ble_eq_true rfl, Nat.le_of_ble_eq_true rfl⟩ 16 7 (T := TX7) (N := 15) rfl rfl rfl rfl (Nat.le_of_ble_eq_true rfl) ⟨Nat.zero_le _, Nat.zero_le _⟩ dX1_take_15 (fun H locs hw => ?_)
  refine lv_if_ne (tgt := 34) hx hb dX1_take_18 (by decide) (fun c4 => ?_) (fun c4 => ?_)
  · replace hM := i_neg hM c4
    refine lv_aload_n hx hb dX1_take_34 rfl (lv_at hl 0 rfl) ?_
    refine q_get (C := RX1) (T := TX1) (N := 6) (ci := 1) E (fun w h => List.mem_cons_of_mem _ (inX1 w h)) hw 12 rfl rfl 1 (by decide) (List.mem_cons_of_mem _ tb_333) (v := .ref (h 41)) rfl dX1_take_35 ?_
    refine lv_aload_n hx hb dX1_take_38 rfl (lv_at hl 0 rfl) ?_
    refine q_get (C := RX1) (T := TX1) (N := 6) (ci := 1) E (fun w h => List.mem_cons_of_mem _ (inX1 w h)) hw 12 rfl rfl 5 (by decide) (List.mem_cons_of_mem _ tb_340) (v := .int (σ 12 0)) (q_fld (congrFun (up_ne σ 21 (ix x1) 1 12 (by decide)) 0) rfl) dX1_take_39 ?_
    refine lv_iconst (v := 1) hx hb dX1_take_42 (by decide) ?_
    refine lv_iload_n hx hb dX1_take_43 rfl (lv_at hl 1 rfl) ?_
    refine lv_aload_n hx hb dX1_take_44 rfl (lv_at hl 0 rfl) ?_
    refine q_get (C := RX1) (T := TX1) (N := 6) (ci := 1) E (fun w h => List.mem_cons_of_mem _ (inX1 w h)) hw 12 rfl rfl 3 (by decide) (List.mem_cons_of_mem _ tb_336) (v := .ref (h 44)) rfl dX1_take_45 ?_
    refine q_get (C := RX7) (T := TX7) (N := 15) (ci := 7) E (fun w h => List.mem_cons_of_mem _ (inX7 w h)) hw 16 rfl rfl 4 (by decide) (List.mem_cons_of_mem _ tb_271) (v := .ref (h 20)) rfl dX1_take_48 ?_
    refine lv_iload_n hx hb dX1_take_51 rfl (lv_at hl 1 rfl) ?_
    refine q_ald E hw 21 (n := 60) rfl g1 (x := (σ 20 (ix x1))) (congrFun (up_ne σ 21 (ix x1) 1 20 (by decide)) (ix x1)) dX1_take_52 ?_
    obtain ⟨p5, h6, hM⟩ := b_some hM
    refine q_cvv (As := [.int (σ 12 0), .int 1, .int x1, .int (σ 20 (ix x1))]) (rest := []) E hw hl (c_X4_write l D cA tS A h L F (σ 12 0) 1 x1 (σ 20 (ix x1)) (up σ 21 (ix x1) 1) p5 h6) 4 (bwV bw_c tb_548 tb_549 tb_550 tb_103 tb_551) rfl (by decide +kernel) ⟨Nat.le_of_ble_eq_true rfl, Nat.le_of_ble_eq_true rfl⟩ 7 4 (T := TX4) (N := 5) rfl rfl rfl rfl (Nat.le_of_ble_eq_true rfl) ⟨Nat.zero_le _, Nat.zero_le _⟩ dX1_take_53 (fun H locs hw => ?_)
    cases hM
    exact q_retv E hw dX1_take_56
  · replace hM := i_pos hM c4
    refine lv_aload_n hx hb dX1_take_21 rfl (lv_at hl 0 rfl) ?_
    refine q_get (C := RX1) (T := TX1) (N := 6) (ci := 1) E (fun w h => List.mem_cons_of_mem _ (inX1 w h)) hw 12 rfl rfl 3 (by decide) (List.mem_cons_of_mem _ tb_336) (v := .ref (h 44)) rfl dX1_take_22 ?_
    refine q_get (C := RX7) (T := TX7) (N := 15) (ci := 7) E (fun w h => List.mem_cons_of_mem _ (inX7 w h)) hw 16 rfl rfl 12 (by decide) (List.mem_cons_of_mem _ tb_293) (v := .ref (h 28)) rfl dX1_take_25 ?_
    refine lv_iload_n hx hb dX1_take_28 rfl (lv_at hl 1 rfl) ?_
    refine lv_aload_n hx hb dX1_take_29 rfl (lv_at hl 0 rfl) ?_
    refine q_get (C := RX1) (T := TX1) (N := 6) (ci := 1) E (fun w h => List.mem_cons_of_mem _ (inX1 w h)) hw 12 rfl rfl 5 (by decide) (List.mem_cons_of_mem _ tb_340) (v := .int (σ 12 0)) (q_fld (congrFun (up_ne σ 21 (ix x1) 1 12 (by decide)) 0) rfl) dX1_take_30 ?_
    refine q_ast E hw 29 (n := 60) rfl g1 (wK cA h (up (up σ 21 (ix x1) 1) 28 (ix x1) (σ 12 0)) ++ (wLg cA h (up (up σ 21 (ix x1) 1) 28 (ix x1) (σ 12 0)) L ++ (wC cA h (up (up σ 21 (ix x1) 1) 28 (ix x1) (σ 12 0)) ++ F))) st_K_Lg_C_28 dX1_take_33 (fun H locs hw => ?_)
    refine lv_aload_n hx hb dX1_take_34 rfl (lv_at hl 0 rfl) ?_
    refine q_get (C := RX1) (T := TX1) (N := 6) (ci := 1) E (fun w h => List.mem_cons_of_mem _ (inX1 w h)) hw 12 rfl rfl 1 (by decide) (List.mem_cons_of_mem _ tb_333) (v := .ref (h 41)) rfl dX1_take_35 ?_
    refine lv_aload_n hx hb dX1_take_38 rfl (lv_at hl 0 rfl) ?_
    refine q_get (C := RX1) (T := TX1) (N := 6) (ci := 1) E (fun w h => List.mem_cons_of_mem _ (inX1 w h)) hw 12 rfl rfl 5 (by decide) (List.mem_cons_of_mem _ tb_340) (v := .int (σ 12 0)) (q_fld (congrFun ((up_ne (up σ 21 (ix x1) 1) 28 (ix x1) (σ 12 0) 12 (by decide)).trans (up_ne σ 21 (ix x1) 1 12 (by decide))) 0) rfl) dX1_take_39 ?_
    refine lv_iconst (v := 1) hx hb dX1_take_42 (by decide) ?_
    refine lv_iload_n hx hb dX1_take_43 rfl (lv_at hl 1 rfl) ?_
    refine lv_aload_n hx hb dX1_take_44 rfl (lv_at hl 0 rfl) ?_
    refine q_get (C := RX1) (T := TX1) (N := 6) (ci := 1) E (fun w h => List.mem_cons_of_mem _ (inX1 w h)) hw 12 rfl rfl 3 (by decide) (List.mem_cons_of_mem _ tb_336) (v := .ref (h 44)) rfl dX1_take_45 ?_
    refine q_get (C := RX7) (T := TX7) (N := 15) (ci := 7) E (fun w h => List.mem_cons_of_mem _ (inX7 w h)) hw 16 rfl rfl 4 (by decide) (List.mem_cons_of_mem _ tb_271) (v := .ref (h 20)) rfl dX1_take_48 ?_
    refine lv_iload_n hx hb dX1_take_51 rfl (lv_at hl 1 rfl) ?_
    refine q_ald E hw 21 (n := 60) rfl g1 (x := (σ 20 (ix x1))) (congrFun ((up_ne (up σ 21 (ix x1) 1) 28 (ix x1) (σ 12 0) 20 (by decide)).trans (up_ne σ 21 (ix x1) 1 20 (by decide))) (ix x1)) dX1_take_52 ?_
    obtain ⟨p7, h8, hM⟩ := b_some hM
    refine q_cvv (As := [.int (σ 12 0), .int 1, .int x1, .int (σ 20 (ix x1))]) (rest := []) E hw hl (c_X4_write l D cA tS A h L F (σ 12 0) 1 x1 (σ 20 (ix x1)) (up (up σ 21 (ix x1) 1) 28 (ix x1) (σ 12 0)) p7 h8) 4 (bwV bw_c tb_548 tb_549 tb_550 tb_103 tb_551) rfl (by decide +kernel) ⟨Nat.le_of_ble_eq_true rfl, Nat.le_of_ble_eq_true rfl⟩ 7 4 (T := TX4) (N := 5) rfl rfl rfl rfl (Nat.le_of_ble_eq_true rfl) ⟨Nat.zero_le _, Nat.zero_le _⟩ dX1_take_53 (fun H locs hw => ?_)
    cases hM
    exact q_retv E hw dX1_take_56
def f_X1_takeTickets_17 (N : Nat) (L : Nat) (k2 : Int32 → Sg → Option (Sg)) : Nat → Int32 → Int32 → Sg → Option (Sg)
  | 0, _, _, _ => none
  | n + 1, x1, x2, σ => if ib x1 4 then (if (σ 30 (ix x1)) ≤ x2 then k2 (x1 + 1) σ else (f_X1_firstQueued N x1 σ).bind (fun p3 => (if p3 = (-1) then k2 (x1 + 1) σ else (f_X1_take L p3 σ).bind (fun p6 => f_X1_takeTickets_17 N L k2 n x1 (x2 + 1) p6)))) else none
set_option maxRecDepth 100000 in
set_option maxHeartbeats 4000000 in
theorem s_X1_takeTickets_17 (l : Launch) (D : va_G) (cA : Nat → ClassId) (tS : Nat → Nat) (A : Nat → Prop) (h : Nat → Nat) (L : Nat) (F : va_W) (N : Nat) (k2 : Int32 → Sg → Option (Sg)) {p : Program} {e : Env} {s : State} {m : MethodId} {args : Array Value} {below : List Frame} {meth : Method} {c : Code} (E : Ev p cX1_takeTickets 4 none RX1 (Cond.code yX1_takeTickets cX1_takeTickets 4 none :: bw) D cA tS A s m args meth c) (hk2 : ∀ (x1 : Int32) (σ : Sg) (s0 : Sg) (hM : k2 x1 σ = some s0) (H : Heap) (locs : List Loc) (hw : Wd D A (wK cA h σ ++ (wLg cA h σ L ++ (wC cA h σ ++ F))) s.heap H locs) (ls : Array Slot) (hl : lv_has ls 4 [(0, .ref (h 42)), (1, .int x1)]), W p l e ({ frames := 3, cells := 0, slots := 0, locals := 66 } : Room) s m args below meth c H locs 0 0 (MQ below (QW D A none (wK cA h s0 ++ (wLg cA h s0 L ++ (wC cA h s0 ++ F)))) args s 0 0 A) (F0 m 2 ls [])) : ∀ (n : Nat) (x1 : Int32) (x2 : Int32) (σ : Sg) (s0 : Sg) (hM : f_X1_takeTickets_17 N L k2 n x1 x2 σ = some s0) (H : Heap) (locs : List Loc) (hw : Wd D A (wK cA h σ ++ (wLg cA h σ L ++ (wC cA h σ ++ F))) s.heap H locs) (ls : Array Slot) (hl : lv_has ls 4 [(0, .ref (h 42)), (1, .int x1), (2, .int x2)]), W p l e ({ frames := 3, cells := 0, slots := 0, locals := 66 } : Room) s m args below meth c H locs 0 0 (MQ below (QW D A none (wK cA h s0 ++ (wLg cA h s0 L ++ (wC cA h s0 ++ F)))) args s 0 0 A) (F0 m 17 ls []) := by
  have hx := E.1.1
  have hb := E.1.2.1
  intro n
  induction n with
  | zero =>
    intro x1 x2 σ s0 hM
    cases hM
  | succ n ih =>
    intro x1 x2 σ s0 hM H locs hw ls hl
    rw [f_X1_takeTickets_17] at hM
    refine lv_iload_n hx hb dX1_takeTickets_17 rfl (lv_at hl 2 rfl) ?_
    refine lv_aload_n hx hb dX1_takeTickets_18 rfl (lv_at hl 0 rfl) ?_
    refine q_get (C := RX1) (T := TX1) (N := 6) (ci := 1) E (fun w h => List.mem_cons_of_mem _ (inX1 w h)) hw 12 rfl rfl 4 (by decide) (List.mem_cons_of_mem _ tb_338) (v := .ref (h 30)) rfl dX1_takeTickets_19 ?_
    refine lv_iload_n hx hb dX1_takeTickets_22 rfl (lv_at hl 1 rfl) ?_
    obtain ⟨g1, hM⟩ := g_some hM
    refine q_ald E hw 31 (n := 4) rfl g1 (x := (σ 30 (ix x1))) rfl dX1_takeTickets_23 ?_
    refine lv_icmp_ge (tgt := 52) hx hb dX1_takeTickets_24 (by decide) (fun c2 => ?_) (fun c2 => ?_)
    · replace hM := i_pos hM c2
      refine lv_iinc (v := (x1 + 1)) (lv' := [(1, .int (x1 + 1)), (0, .ref (h 42)), (2, .int x2)]) hx hb dX1_takeTickets_52 hl (k := 1) rfl rfl (by decide) rfl (fun ls hl => ?_)
      refine lv_goto (tgt := 2) hx hb dX1_takeTickets_55 (by decide) ?_
      exact hk2 _ _ _ hM _ _ hw _ (lv_sub hl [1, 0] rfl)
    · replace hM := i_neg hM c2
      refine lv_aload_n hx hb dX1_takeTickets_27 rfl (lv_at hl 0 rfl) ?_
      refine lv_iload_n hx hb dX1_takeTickets_28 rfl (lv_at hl 1 rfl) ?_
      obtain ⟨p3, h4, hM⟩ := b_some hM
      refine q_cv (As := [.int x1]) (rest := []) E hw hl (c_X1_firstQueued l D cA tS A h L F N x1 σ p3 h4) 1 (bwV bw_c tb_701 tb_702 tb_703 tb_106 tb_704) rfl (by decide +kernel) ⟨Nat.le_of_ble_eq_true rfl, Nat.le_of_ble_eq_true rfl⟩ 12 1 (T := TX1) (N := 6) rfl rfl rfl rfl (Nat.le_of_ble_eq_true rfl) ⟨Nat.zero_le _, Nat.zero_le _⟩ dX1_takeTickets_29 (fun H locs hw => ?_)
      refine lv_istore_n (lv' := [(3, .int p3), (0, .ref (h 42)), (1, .int x1), (2, .int x2)]) hx hb dX1_takeTickets_32 rfl hl (by decide) rfl (fun ls hl => ?_)
      refine lv_iload_n hx hb dX1_takeTickets_33 rfl (lv_at hl 0 rfl) ?_
      refine lv_iconst (v := (-1)) hx hb dX1_takeTickets_34 (by decide) ?_
      refine lv_icmp_ne (tgt := 41) hx hb dX1_takeTickets_35 (by decide) (fun c5 => ?_) (fun c5 => ?_)
      · replace hM := i_neg hM c5
        refine lv_aload_n hx hb dX1_takeTickets_41 rfl (lv_at hl 1 rfl) ?_
        refine lv_iload_n hx hb dX1_takeTickets_42 rfl (lv_at hl 0 rfl) ?_
        obtain ⟨p6, h7, hM⟩ := b_some hM
        refine q_cvv (As := [.int p3]) (rest := []) E hw hl (c_X1_take l D cA tS A h L F p3 σ p6 h7) 1 (bwV bw_c tb_713 tb_715 tb_21 tb_106 tb_716) rfl (by decide +kernel) ⟨Nat.le_of_ble_eq_true rfl, Nat.le_of_ble_eq_true rfl⟩ 12 1 (T := TX1) (N := 6) rfl rfl rfl rfl (Nat.le_of_ble_eq_true rfl) ⟨Nat.zero_le _, Nat.zero_le _⟩ dX1_takeTickets_43 (fun H locs hw => ?_)
        refine lv_iinc (v := (x2 + 1)) (lv' := [(2, .int (x2 + 1)), (3, .int p3), (0, .ref (h 42)), (1, .int x1)]) hx hb dX1_takeTickets_46 hl (k := 3) rfl rfl (by decide) rfl (fun ls hl => ?_)
        refine lv_goto (tgt := 17) hx hb dX1_takeTickets_49 (by decide) ?_
        exact ih _ _ _ _ hM _ _ hw _ (lv_sub hl [2, 3, 0] rfl)
      · replace hM := i_pos hM c5
        refine lv_goto (tgt := 52) hx hb dX1_takeTickets_38 (by decide) ?_
        refine lv_iinc (v := (x1 + 1)) (lv' := [(1, .int (x1 + 1)), (3, .int p3), (0, .ref (h 42)), (2, .int x2)]) hx hb dX1_takeTickets_52 hl (k := 2) rfl rfl (by decide) rfl (fun ls hl => ?_)
        refine lv_goto (tgt := 2) hx hb dX1_takeTickets_55 (by decide) ?_
        exact hk2 _ _ _ hM _ _ hw _ (lv_sub hl [2, 0] rfl)
def f_X1_takeTickets_2 (N : Nat) (L : Nat)  : Nat → Int32 → Sg → Option (Sg)
  | 0, _, _ => none
  | n + 1, x1, σ => (if 4 ≤ x1 then some σ else (f_X7_countAt N x1 1 σ).bind (fun p2 => f_X1_takeTickets_17 N L (fun x1 σ => f_X1_takeTickets_2 N L n x1 σ) N x1 p2 σ))
set_option maxRecDepth 100000 in
set_option maxHeartbeats 4000000 in
theorem s_X1_takeTickets_2 (l : Launch) (D : va_G) (cA : Nat → ClassId) (tS : Nat → Nat) (A : Nat → Prop) (h : Nat → Nat) (L : Nat) (F : va_W) (N : Nat) {p : Program} {e : Env} {s : State} {m : MethodId} {args : Array Value} {below : List Frame} {meth : Method} {c : Code} (E : Ev p cX1_takeTickets 4 none RX1 (Cond.code yX1_takeTickets cX1_takeTickets 4 none :: bw) D cA tS A s m args meth c) : ∀ (n : Nat) (x1 : Int32) (σ : Sg) (s0 : Sg) (hM : f_X1_takeTickets_2 N L n x1 σ = some s0) (H : Heap) (locs : List Loc) (hw : Wd D A (wK cA h σ ++ (wLg cA h σ L ++ (wC cA h σ ++ F))) s.heap H locs) (ls : Array Slot) (hl : lv_has ls 4 [(0, .ref (h 42)), (1, .int x1)]), W p l e ({ frames := 3, cells := 0, slots := 0, locals := 66 } : Room) s m args below meth c H locs 0 0 (MQ below (QW D A none (wK cA h s0 ++ (wLg cA h s0 L ++ (wC cA h s0 ++ F)))) args s 0 0 A) (F0 m 2 ls []) := by
  have hx := E.1.1
  have hb := E.1.2.1
  intro n
  induction n with
  | zero =>
    intro x1 σ s0 hM
    cases hM
  | succ n ih =>
    intro x1 σ s0 hM H locs hw ls hl
    rw [f_X1_takeTickets_2] at hM
    refine lv_iload_n hx hb dX1_takeTickets_2 rfl (lv_at hl 1 rfl) ?_
    refine lv_iconst (v := 4) hx hb dX1_takeTickets_3 (by decide) ?_
    refine lv_icmp_ge (tgt := 58) hx hb dX1_takeTickets_4 (by decide) (fun c1 => ?_) (fun c1 => ?_)
    · replace hM := i_pos hM c1
      cases hM
      exact q_retv E hw dX1_takeTickets_58
    · replace hM := i_neg hM c1
      refine lv_aload_n hx hb dX1_takeTickets_7 rfl (lv_at hl 0 rfl) ?_
      refine q_get (C := RX1) (T := TX1) (N := 6) (ci := 1) E (fun w h => List.mem_cons_of_mem _ (inX1 w h)) hw 12 rfl rfl 3 (by decide) (List.mem_cons_of_mem _ tb_336) (v := .ref (h 44)) rfl dX1_takeTickets_8 ?_
      refine lv_iload_n hx hb dX1_takeTickets_11 rfl (lv_at hl 1 rfl) ?_
      refine lv_iconst (v := 1) hx hb dX1_takeTickets_12 (by decide) ?_
      obtain ⟨p2, h3, hM⟩ := b_some hM
      refine q_cv (As := [.int x1, .int 1]) (rest := []) E hw hl (c_X7_countAt l D cA tS A h L F N x1 1 σ p2 h3) 2 (bwV bw_c tb_536 tb_537 tb_538 tb_108 tb_539) rfl (by decide +kernel) ⟨Nat.le_of_ble_eq_true rfl, Nat.le_of_ble_eq_true rfl⟩ 16 7 (T := TX7) (N := 15) rfl rfl rfl rfl (Nat.le_of_ble_eq_true rfl) ⟨Nat.zero_le _, Nat.zero_le _⟩ dX1_takeTickets_13 (fun H locs hw => ?_)
      refine lv_istore_n (lv' := [(2, .int p2), (0, .ref (h 42)), (1, .int x1)]) hx hb dX1_takeTickets_16 rfl hl (by decide) rfl (fun ls hl => ?_)
      exact s_X1_takeTickets_17 l D cA tS A h L F N (fun x1 σ => f_X1_takeTickets_2 N L n x1 σ) E ih N _ _ _ _ hM _ _ hw _ (lv_sub hl [1, 2, 0] rfl)
def f_X1_takeTickets (N : Nat) (L : Nat)  (σ : Sg) : Option (Sg) := f_X1_takeTickets_2 N L N 0 σ
set_option maxRecDepth 100000 in
set_option maxHeartbeats 4000000 in
theorem c_X1_takeTickets (l : Launch) (D : va_G) (cA : Nat → ClassId) (tS : Nat → Nat) (A : Nat → Prop) (h : Nat → Nat) (L : Nat) (F : va_W) (N : Nat) (σ : Sg) (s0 : Sg) (hM : f_X1_takeTickets N L σ = some s0) : Ct l yX1_takeTickets (Cond.code yX1_takeTickets cX1_takeTickets 4 none :: bw) 3 66 D cA tS A [.ref (h 42)] (wK cA h σ ++ (wLg cA h σ L ++ (wC cA h σ ++ F))) none (wK cA h s0 ++ (wLg cA h s0 L ++ (wC cA h s0 ++ F))) := by
  refine ct_of (by decide +kernel) (Nat.le_of_ble_eq_true rfl) ?_
  intro p e s m below meth c E hw ls hl
  replace E : Ev p cX1_takeTickets 4 none RX1 (Cond.code yX1_takeTickets cX1_takeTickets 4 none :: bw) D cA tS A s m _ meth c := E
  replace hl : lv_has ls 4 [(0, .ref (h 42))] := hl
  have hx := E.1.1
  have hb := E.1.2.1
  unfold f_X1_takeTickets at hM
  refine lv_iconst (v := 0) hx hb dX1_takeTickets_0 (by decide) ?_
  refine lv_istore_n (lv' := [(1, .int 0), (0, .ref (h 42))]) hx hb dX1_takeTickets_1 rfl hl (by decide) rfl (fun ls hl => ?_)
  exact s_X1_takeTickets_2 l D cA tS A h L F N E N _ _ _ hM _ _ hw _ (lv_sub hl [1, 0] rfl)
def f_X1_counts    (x1 : Int32) (x2 : Int32) (σ : Sg) : Option (Int32) := (if x2 = 0 then if ib x1 60 then if ib (σ 16 (ix x1)) 6 then (if (σ 6 (ix (σ 16 (ix x1)))) = 0 then some 0 else some 1) else none else none else some 1)
set_option maxRecDepth 100000 in
set_option maxHeartbeats 4000000 in
theorem c_X1_counts (l : Launch) (D : va_G) (cA : Nat → ClassId) (tS : Nat → Nat) (A : Nat → Prop) (h : Nat → Nat) (L : Nat) (F : va_W) (x1 : Int32) (x2 : Int32) (σ : Sg) (r0 : Int32) (hM : f_X1_counts x1 x2 σ = some r0) : Ct l yX1_counts (Cond.code yX1_counts cX1_counts 3 (some .boolean) :: bw) 0 0 D cA tS A [.ref (h 42), .int x1, .int x2] (wK cA h σ ++ (wLg cA h σ L ++ (wC cA h σ ++ F))) (some (.int r0)) (wK cA h σ ++ (wLg cA h σ L ++ (wC cA h σ ++ F))) := by
  refine ct_of (by decide +kernel) (Nat.le_of_ble_eq_true rfl) ?_
  intro p e s m below meth c E hw ls hl
  replace E : Ev p cX1_counts 3 (some .boolean) RX1 (Cond.code yX1_counts cX1_counts 3 (some .boolean) :: bw) D cA tS A s m _ meth c := E
  replace hl : lv_has ls 3 [(0, .ref (h 42)), (1, .int x1), (2, .int x2)] := hl
  have hx := E.1.1
  have hb := E.1.2.1
  unfold f_X1_counts at hM
  refine lv_iload_n hx hb dX1_counts_0 rfl (lv_at hl 2 rfl) ?_
  refine lv_if_ne (tgt := 24) hx hb dX1_counts_1 (by decide) (fun c1 => ?_) (fun c1 => ?_)
  · replace hM := i_neg hM c1
    refine lv_iconst (v := 1) hx hb dX1_counts_24 (by decide) ?_
    refine lv_goto (tgt := 29) hx hb dX1_counts_25 (by decide) ?_
    cases hM
    exact q_retz E hw (by decide) dX1_counts_29
  · replace hM := i_pos hM c1
    refine lv_aload_n hx hb dX1_counts_4 rfl (lv_at hl 0 rfl) ?_
    refine q_get (C := RX1) (T := TX1) (N := 6) (ci := 1) E (fun w h => List.mem_cons_of_mem _ (inX1 w h)) hw 12 rfl rfl 0 (by decide) (List.mem_cons_of_mem _ tb_332) (v := .ref (h 40)) rfl dX1_counts_5 ?_
    refine q_get (C := RX3) (T := TX3) (N := 7) (ci := 3) E (fun w h => List.mem_cons_of_mem _ (inX3 w h)) hw 0 rfl rfl 5 (by decide) (List.mem_cons_of_mem _ tb_149) (v := .ref (h 6)) rfl dX1_counts_8 ?_
    refine lv_aload_n hx hb dX1_counts_11 rfl (lv_at hl 0 rfl) ?_
    refine q_get (C := RX1) (T := TX1) (N := 6) (ci := 1) E (fun w h => List.mem_cons_of_mem _ (inX1 w h)) hw 12 rfl rfl 3 (by decide) (List.mem_cons_of_mem _ tb_336) (v := .ref (h 44)) rfl dX1_counts_12 ?_
    refine q_get (C := RX7) (T := TX7) (N := 15) (ci := 7) E (fun w h => List.mem_cons_of_mem _ (inX7 w h)) hw 16 rfl rfl 0 (by decide) (List.mem_cons_of_mem _ tb_264) (v := .ref (h 16)) rfl dX1_counts_15 ?_
    refine lv_iload_n hx hb dX1_counts_18 rfl (lv_at hl 1 rfl) ?_
    obtain ⟨g2, hM⟩ := g_some hM
    refine q_ald E hw 17 (n := 60) rfl g2 (x := (σ 16 (ix x1))) rfl dX1_counts_19 ?_
    obtain ⟨g3, hM⟩ := g_some hM
    refine q_zld E hw 6 (n := 6) rfl g3 (x := (σ 6 (ix (σ 16 (ix x1))))) rfl dX1_counts_20 ?_
    refine lv_if_eq (tgt := 28) hx hb dX1_counts_21 (by decide) (fun c4 => ?_) (fun c4 => ?_)
    · replace hM := i_pos hM c4
      refine lv_iconst (v := 0) hx hb dX1_counts_28 (by decide) ?_
      cases hM
      exact q_retz E hw (by decide) dX1_counts_29
    · replace hM := i_neg hM c4
      refine lv_iconst (v := 1) hx hb dX1_counts_24 (by decide) ?_
      refine lv_goto (tgt := 29) hx hb dX1_counts_25 (by decide) ?_
      cases hM
      exact q_retz E hw (by decide) dX1_counts_29
def f_X7_responseRuns    (x1 : Int32) (σ : Sg) : Option (Int32) := (f_X7_isAnswered x1 σ).bind (fun p1 => (if p1 = 0 then if ib x1 60 then (if (σ 21 (ix x1)) = 4 then (f_X7_exists (σ 26 (ix x1)) σ).bind (fun p8 => (if p8 = 0 then some 0 else (f_X7_isAnswered (σ 26 (ix x1)) σ).bind (fun p11 => (if p11 = 0 then some 1 else some 0)))) else (if (σ 21 (ix x1)) = 0 then some 1 else (if (σ 21 (ix x1)) = 2 then some 1 else some 0))) else none else some 0))
set_option maxRecDepth 100000 in
set_option maxHeartbeats 4000000 in
theorem c_X7_responseRuns (l : Launch) (D : va_G) (cA : Nat → ClassId) (tS : Nat → Nat) (A : Nat → Prop) (h : Nat → Nat) (L : Nat) (F : va_W) (x1 : Int32) (σ : Sg) (r0 : Int32) (hM : f_X7_responseRuns x1 σ = some r0) : Ct l yX7_responseRuns (Cond.code yX7_responseRuns cX7_responseRuns 2 (some .boolean) :: bw) 1 21 D cA tS A [.ref (h 44), .int x1] (wK cA h σ ++ (wLg cA h σ L ++ (wC cA h σ ++ F))) (some (.int r0)) (wK cA h σ ++ (wLg cA h σ L ++ (wC cA h σ ++ F))) := by
  refine ct_of (by decide +kernel) (Nat.le_of_ble_eq_true rfl) ?_
  intro p e s m below meth c E hw ls hl
  replace E : Ev p cX7_responseRuns 2 (some .boolean) RX7 (Cond.code yX7_responseRuns cX7_responseRuns 2 (some .boolean) :: bw) D cA tS A s m _ meth c := E
  replace hl : lv_has ls 2 [(0, .ref (h 44)), (1, .int x1)] := hl
  have hx := E.1.1
  have hb := E.1.2.1
  unfold f_X7_responseRuns at hM
  refine lv_aload_n hx hb dX7_responseRuns_0 rfl (lv_at hl 0 rfl) ?_
  refine lv_iload_n hx hb dX7_responseRuns_1 rfl (lv_at hl 1 rfl) ?_
  obtain ⟨p1, h2, hM⟩ := b_some hM
  refine q_cv (As := [.int x1]) (rest := []) E hw hl (c_X7_isAnswered l D cA tS A h L F x1 σ p1 h2) 1 (bwV bw_c tb_742 tb_718 tb_719 tb_108 tb_720) rfl (by decide +kernel) ⟨Nat.le_of_ble_eq_true rfl, Nat.le_of_ble_eq_true rfl⟩ 16 7 (T := TX7) (N := 15) rfl rfl rfl rfl (Nat.le_of_ble_eq_true rfl) ⟨Nat.zero_le _, Nat.zero_le _⟩ dX7_responseRuns_2 (fun H locs hw => ?_)
  refine lv_if_eq (tgt := 10) hx hb dX7_responseRuns_5 (by decide) (fun c3 => ?_) (fun c3 => ?_)
  · replace hM := i_pos hM c3
    refine lv_aload_n hx hb dX7_responseRuns_10 rfl (lv_at hl 0 rfl) ?_
    refine q_get (C := RX7) (T := TX7) (N := 15) (ci := 7) E (fun w h => List.mem_cons_of_mem _ (inX7 w h)) hw 16 rfl rfl 5 (by decide) (List.mem_cons_of_mem _ tb_273) (v := .ref (h 21)) rfl dX7_responseRuns_11 ?_
    refine lv_iload_n hx hb dX7_responseRuns_14 rfl (lv_at hl 1 rfl) ?_
    obtain ⟨g4, hM⟩ := g_some hM
    refine q_ald E hw 22 (n := 60) rfl g4 (x := (σ 21 (ix x1))) rfl dX7_responseRuns_15 ?_
    refine lv_iconst (v := 4) hx hb dX7_responseRuns_16 (by decide) ?_
    refine lv_icmp_ne (tgt := 52) hx hb dX7_responseRuns_17 (by decide) (fun c5 => ?_) (fun c5 => ?_)
    · replace hM := i_neg hM c5
      refine lv_aload_n hx hb dX7_responseRuns_52 rfl (lv_at hl 0 rfl) ?_
      refine q_get (C := RX7) (T := TX7) (N := 15) (ci := 7) E (fun w h => List.mem_cons_of_mem _ (inX7 w h)) hw 16 rfl rfl 5 (by decide) (List.mem_cons_of_mem _ tb_273) (v := .ref (h 21)) rfl dX7_responseRuns_53 ?_
      refine lv_iload_n hx hb dX7_responseRuns_56 rfl (lv_at hl 1 rfl) ?_
      refine q_ald E hw 22 (n := 60) rfl g4 (x := (σ 21 (ix x1))) rfl dX7_responseRuns_57 ?_
      refine lv_if_eq (tgt := 71) hx hb dX7_responseRuns_58 (by decide) (fun c6 => ?_) (fun c6 => ?_)
      · replace hM := i_pos hM c6
        refine lv_iconst (v := 1) hx hb dX7_responseRuns_71 (by decide) ?_
        refine lv_goto (tgt := 76) hx hb dX7_responseRuns_72 (by decide) ?_
        cases hM
        exact q_retz E hw (by decide) dX7_responseRuns_76
      · replace hM := i_neg hM c6
        refine lv_aload_n hx hb dX7_responseRuns_61 rfl (lv_at hl 0 rfl) ?_
        refine q_get (C := RX7) (T := TX7) (N := 15) (ci := 7) E (fun w h => List.mem_cons_of_mem _ (inX7 w h)) hw 16 rfl rfl 5 (by decide) (List.mem_cons_of_mem _ tb_273) (v := .ref (h 21)) rfl dX7_responseRuns_62 ?_
        refine lv_iload_n hx hb dX7_responseRuns_65 rfl (lv_at hl 1 rfl) ?_
        refine q_ald E hw 22 (n := 60) rfl g4 (x := (σ 21 (ix x1))) rfl dX7_responseRuns_66 ?_
        refine lv_iconst (v := 2) hx hb dX7_responseRuns_67 (by decide) ?_
        refine lv_icmp_ne (tgt := 75) hx hb dX7_responseRuns_68 (by decide) (fun c7 => ?_) (fun c7 => ?_)
        · replace hM := i_neg hM c7
          refine lv_iconst (v := 0) hx hb dX7_responseRuns_75 (by decide) ?_
          cases hM
          exact q_retz E hw (by decide) dX7_responseRuns_76
        · replace hM := i_pos hM c7
          refine lv_iconst (v := 1) hx hb dX7_responseRuns_71 (by decide) ?_
          refine lv_goto (tgt := 76) hx hb dX7_responseRuns_72 (by decide) ?_
          cases hM
          exact q_retz E hw (by decide) dX7_responseRuns_76
    · replace hM := i_pos hM c5
      refine lv_aload_n hx hb dX7_responseRuns_20 rfl (lv_at hl 0 rfl) ?_
      refine lv_aload_n hx hb dX7_responseRuns_21 rfl (lv_at hl 0 rfl) ?_
      refine q_get (C := RX7) (T := TX7) (N := 15) (ci := 7) E (fun w h => List.mem_cons_of_mem _ (inX7 w h)) hw 16 rfl rfl 10 (by decide) (List.mem_cons_of_mem _ tb_287) (v := .ref (h 26)) rfl dX7_responseRuns_22 ?_
      refine lv_iload_n hx hb dX7_responseRuns_25 rfl (lv_at hl 1 rfl) ?_
      refine q_ald E hw 27 (n := 60) rfl g4 (x := (σ 26 (ix x1))) rfl dX7_responseRuns_26 ?_
      obtain ⟨p8, h9, hM⟩ := b_some hM
      refine q_cv (As := [.int (σ 26 (ix x1))]) (rest := []) E hw hl (c_X7_exists l D cA tS A h L F (σ 26 (ix x1)) σ p8 h9) 1 (bwV bw_c tb_743 tb_496 tb_497 tb_108 tb_498) rfl (by decide +kernel) ⟨Nat.le_of_ble_eq_true rfl, Nat.le_of_ble_eq_true rfl⟩ 16 7 (T := TX7) (N := 15) rfl rfl rfl rfl (Nat.le_of_ble_eq_true rfl) ⟨Nat.zero_le _, Nat.zero_le _⟩ dX7_responseRuns_27 (fun H locs hw => ?_)
      refine lv_if_eq (tgt := 50) hx hb dX7_responseRuns_30 (by decide) (fun c10 => ?_) (fun c10 => ?_)
      · replace hM := i_pos hM c10
        refine lv_iconst (v := 0) hx hb dX7_responseRuns_50 (by decide) ?_
        cases hM
        exact q_retz E hw (by decide) dX7_responseRuns_51
      · replace hM := i_neg hM c10
        refine lv_aload_n hx hb dX7_responseRuns_33 rfl (lv_at hl 0 rfl) ?_
        refine lv_aload_n hx hb dX7_responseRuns_34 rfl (lv_at hl 0 rfl) ?_
        refine q_get (C := RX7) (T := TX7) (N := 15) (ci := 7) E (fun w h => List.mem_cons_of_mem _ (inX7 w h)) hw 16 rfl rfl 10 (by decide) (List.mem_cons_of_mem _ tb_287) (v := .ref (h 26)) rfl dX7_responseRuns_35 ?_
        refine lv_iload_n hx hb dX7_responseRuns_38 rfl (lv_at hl 1 rfl) ?_
        refine q_ald E hw 27 (n := 60) rfl g4 (x := (σ 26 (ix x1))) rfl dX7_responseRuns_39 ?_
        obtain ⟨p11, h12, hM⟩ := b_some hM
        refine q_cv (As := [.int (σ 26 (ix x1))]) (rest := []) E hw hl (c_X7_isAnswered l D cA tS A h L F (σ 26 (ix x1)) σ p11 h12) 1 (bwV bw_c tb_742 tb_718 tb_719 tb_108 tb_720) rfl (by decide +kernel) ⟨Nat.le_of_ble_eq_true rfl, Nat.le_of_ble_eq_true rfl⟩ 16 7 (T := TX7) (N := 15) rfl rfl rfl rfl (Nat.le_of_ble_eq_true rfl) ⟨Nat.zero_le _, Nat.zero_le _⟩ dX7_responseRuns_40 (fun H locs hw => ?_)
        refine lv_if_ne (tgt := 50) hx hb dX7_responseRuns_43 (by decide) (fun c13 => ?_) (fun c13 => ?_)
        · replace hM := i_neg hM c13
          refine lv_iconst (v := 0) hx hb dX7_responseRuns_50 (by decide) ?_
          cases hM
          exact q_retz E hw (by decide) dX7_responseRuns_51
        · replace hM := i_pos hM c13
          refine lv_iconst (v := 1) hx hb dX7_responseRuns_46 (by decide) ?_
          refine lv_goto (tgt := 51) hx hb dX7_responseRuns_47 (by decide) ?_
          cases hM
          exact q_retz E hw (by decide) dX7_responseRuns_51
  · replace hM := i_neg hM c3
    refine lv_iconst (v := 0) hx hb dX7_responseRuns_8 (by decide) ?_
    cases hM
    exact q_retz E hw (by decide) dX7_responseRuns_9
def f_X1_minutesToBreach    (x0 : Int32) (x1 : Int32) : Option (Int32) := (if x0 ≤ x1 then some ((x1 + 1) - x0) else some 10080)
set_option maxRecDepth 100000 in
set_option maxHeartbeats 4000000 in
theorem c_X1_minutesToBreach (l : Launch) (D : va_G) (cA : Nat → ClassId) (tS : Nat → Nat) (A : Nat → Prop) (F : va_W) (x0 : Int32) (x1 : Int32) (r0 : Int32) (hM : f_X1_minutesToBreach x0 x1 = some r0) : Ct l yX1_minutesToBreach (Cond.code yX1_minutesToBreach cX1_minutesToBreach 2 (some .int) :: bw) 0 0 D cA tS A [.int x0, .int x1] F (some (.int r0)) F := by
  refine ct_of (by decide +kernel) (Nat.le_of_ble_eq_true rfl) ?_
  intro p e s m below meth c E hw ls hl
  replace E : Ev p cX1_minutesToBreach 2 (some .int) RX1 (Cond.code yX1_minutesToBreach cX1_minutesToBreach 2 (some .int) :: bw) D cA tS A s m _ meth c := E
  replace hl : lv_has ls 2 [(0, .int x0), (1, .int x1)] := hl
  have hx := E.1.1
  have hb := E.1.2.1
  unfold f_X1_minutesToBreach at hM
  refine lv_iload_n hx hb dX1_minutesToBreach_0 rfl (lv_at hl 0 rfl) ?_
  refine lv_iload_n hx hb dX1_minutesToBreach_1 rfl (lv_at hl 1 rfl) ?_
  refine lv_icmp_le (tgt := 11) hx hb dX1_minutesToBreach_2 (by decide) (fun c1 => ?_) (fun c1 => ?_)
  · replace hM := i_pos hM c1
    refine lv_iload_n hx hb dX1_minutesToBreach_11 rfl (lv_at hl 1 rfl) ?_
    refine lv_iconst (v := 1) hx hb dX1_minutesToBreach_12 (by decide) ?_
    refine lv_iadd hx hb dX1_minutesToBreach_13 ?_
    refine lv_iload_n hx hb dX1_minutesToBreach_14 rfl (lv_at hl 0 rfl) ?_
    refine lv_isub hx hb dX1_minutesToBreach_15 ?_
    cases hM
    exact q_reti E hw dX1_minutesToBreach_16
  · replace hM := i_neg hM c1
    refine lv_sipush (v := 10080) hx hb dX1_minutesToBreach_5 (by decide) ?_
    refine lv_goto (tgt := 16) hx hb dX1_minutesToBreach_8 (by decide) ?_
    cases hM
    exact q_reti E hw dX1_minutesToBreach_16
def f_X7_resolveRuns    (x1 : Int32) (σ : Sg) : Option (Int32) := if ib x1 60 then (if (σ 21 (ix x1)) = 4 then (f_X7_exists (σ 26 (ix x1)) σ).bind (fun p6 => (if p6 = 0 then some 0 else (f_X7_isActive (σ 26 (ix x1)) σ).bind (fun p9 => (if p9 = 0 then some 0 else some 1)))) else (f_X7_isActive x1 σ).bind (fun p3 => if bz p3 then some p3 else none)) else none
set_option maxRecDepth 100000 in
set_option maxHeartbeats 4000000 in
theorem c_X7_resolveRuns (l : Launch) (D : va_G) (cA : Nat → ClassId) (tS : Nat → Nat) (A : Nat → Prop) (h : Nat → Nat) (L : Nat) (F : va_W) (x1 : Int32) (σ : Sg) (r0 : Int32) (hM : f_X7_resolveRuns x1 σ = some r0) : Ct l yX7_resolveRuns (Cond.code yX7_resolveRuns cX7_resolveRuns 2 (some .boolean) :: bw) 1 21 D cA tS A [.ref (h 44), .int x1] (wK cA h σ ++ (wLg cA h σ L ++ (wC cA h σ ++ F))) (some (.int r0)) (wK cA h σ ++ (wLg cA h σ L ++ (wC cA h σ ++ F))) := by
  refine ct_of (by decide +kernel) (Nat.le_of_ble_eq_true rfl) ?_
  intro p e s m below meth c E hw ls hl
  replace E : Ev p cX7_resolveRuns 2 (some .boolean) RX7 (Cond.code yX7_resolveRuns cX7_resolveRuns 2 (some .boolean) :: bw) D cA tS A s m _ meth c := E
  replace hl : lv_has ls 2 [(0, .ref (h 44)), (1, .int x1)] := hl
  have hx := E.1.1
  have hb := E.1.2.1
  unfold f_X7_resolveRuns at hM
  refine lv_aload_n hx hb dX7_resolveRuns_0 rfl (lv_at hl 0 rfl) ?_
  refine q_get (C := RX7) (T := TX7) (N := 15) (ci := 7) E (fun w h => List.mem_cons_of_mem _ (inX7 w h)) hw 16 rfl rfl 5 (by decide) (List.mem_cons_of_mem _ tb_273) (v := .ref (h 21)) rfl dX7_resolveRuns_1 ?_
  refine lv_iload_n hx hb dX7_resolveRuns_4 rfl (lv_at hl 1 rfl) ?_
  obtain ⟨g1, hM⟩ := g_some hM
  refine q_ald E hw 22 (n := 60) rfl g1 (x := (σ 21 (ix x1))) rfl dX7_resolveRuns_5 ?_
  refine lv_iconst (v := 4) hx hb dX7_resolveRuns_6 (by decide) ?_
  refine lv_icmp_ne (tgt := 42) hx hb dX7_resolveRuns_7 (by decide) (fun c2 => ?_) (fun c2 => ?_)
  · replace hM := i_neg hM c2
    refine lv_aload_n hx hb dX7_resolveRuns_42 rfl (lv_at hl 0 rfl) ?_
    refine lv_iload_n hx hb dX7_resolveRuns_43 rfl (lv_at hl 1 rfl) ?_
    obtain ⟨p3, h4, hM⟩ := b_some hM
    refine q_cv (As := [.int x1]) (rest := []) E hw hl (c_X7_isActive l D cA tS A h L F x1 σ p3 h4) 1 (bwV bw_c tb_503 tb_504 tb_505 tb_108 tb_506) rfl (by decide +kernel) ⟨Nat.le_of_ble_eq_true rfl, Nat.le_of_ble_eq_true rfl⟩ 16 7 (T := TX7) (N := 15) rfl rfl rfl rfl (Nat.le_of_ble_eq_true rfl) ⟨Nat.zero_le _, Nat.zero_le _⟩ dX7_resolveRuns_44 (fun H locs hw => ?_)
    obtain ⟨g5, hM⟩ := g_some hM
    cases hM
    exact q_retz E hw g5 dX7_resolveRuns_47
  · replace hM := i_pos hM c2
    refine lv_aload_n hx hb dX7_resolveRuns_10 rfl (lv_at hl 0 rfl) ?_
    refine lv_aload_n hx hb dX7_resolveRuns_11 rfl (lv_at hl 0 rfl) ?_
    refine q_get (C := RX7) (T := TX7) (N := 15) (ci := 7) E (fun w h => List.mem_cons_of_mem _ (inX7 w h)) hw 16 rfl rfl 10 (by decide) (List.mem_cons_of_mem _ tb_287) (v := .ref (h 26)) rfl dX7_resolveRuns_12 ?_
    refine lv_iload_n hx hb dX7_resolveRuns_15 rfl (lv_at hl 1 rfl) ?_
    refine q_ald E hw 27 (n := 60) rfl g1 (x := (σ 26 (ix x1))) rfl dX7_resolveRuns_16 ?_
    obtain ⟨p6, h7, hM⟩ := b_some hM
    refine q_cv (As := [.int (σ 26 (ix x1))]) (rest := []) E hw hl (c_X7_exists l D cA tS A h L F (σ 26 (ix x1)) σ p6 h7) 1 (bwV bw_c tb_743 tb_496 tb_497 tb_108 tb_498) rfl (by decide +kernel) ⟨Nat.le_of_ble_eq_true rfl, Nat.le_of_ble_eq_true rfl⟩ 16 7 (T := TX7) (N := 15) rfl rfl rfl rfl (Nat.le_of_ble_eq_true rfl) ⟨Nat.zero_le _, Nat.zero_le _⟩ dX7_resolveRuns_17 (fun H locs hw => ?_)
    refine lv_if_eq (tgt := 40) hx hb dX7_resolveRuns_20 (by decide) (fun c8 => ?_) (fun c8 => ?_)
    · replace hM := i_pos hM c8
      refine lv_iconst (v := 0) hx hb dX7_resolveRuns_40 (by decide) ?_
      cases hM
      exact q_retz E hw (by decide) dX7_resolveRuns_41
    · replace hM := i_neg hM c8
      refine lv_aload_n hx hb dX7_resolveRuns_23 rfl (lv_at hl 0 rfl) ?_
      refine lv_aload_n hx hb dX7_resolveRuns_24 rfl (lv_at hl 0 rfl) ?_
      refine q_get (C := RX7) (T := TX7) (N := 15) (ci := 7) E (fun w h => List.mem_cons_of_mem _ (inX7 w h)) hw 16 rfl rfl 10 (by decide) (List.mem_cons_of_mem _ tb_287) (v := .ref (h 26)) rfl dX7_resolveRuns_25 ?_
      refine lv_iload_n hx hb dX7_resolveRuns_28 rfl (lv_at hl 1 rfl) ?_
      refine q_ald E hw 27 (n := 60) rfl g1 (x := (σ 26 (ix x1))) rfl dX7_resolveRuns_29 ?_
      obtain ⟨p9, h10, hM⟩ := b_some hM
      refine q_cv (As := [.int (σ 26 (ix x1))]) (rest := []) E hw hl (c_X7_isActive l D cA tS A h L F (σ 26 (ix x1)) σ p9 h10) 1 (bwV bw_c tb_503 tb_504 tb_505 tb_108 tb_506) rfl (by decide +kernel) ⟨Nat.le_of_ble_eq_true rfl, Nat.le_of_ble_eq_true rfl⟩ 16 7 (T := TX7) (N := 15) rfl rfl rfl rfl (Nat.le_of_ble_eq_true rfl) ⟨Nat.zero_le _, Nat.zero_le _⟩ dX7_resolveRuns_30 (fun H locs hw => ?_)
      refine lv_if_eq (tgt := 40) hx hb dX7_resolveRuns_33 (by decide) (fun c11 => ?_) (fun c11 => ?_)
      · replace hM := i_pos hM c11
        refine lv_iconst (v := 0) hx hb dX7_resolveRuns_40 (by decide) ?_
        cases hM
        exact q_retz E hw (by decide) dX7_resolveRuns_41
      · replace hM := i_neg hM c11
        refine lv_iconst (v := 1) hx hb dX7_resolveRuns_36 (by decide) ?_
        refine lv_goto (tgt := 41) hx hb dX7_resolveRuns_37 (by decide) ?_
        cases hM
        exact q_retz E hw (by decide) dX7_resolveRuns_41
def f_X1_climbsByItself    (x1 : Int32) (σ : Sg) : Option (Int32) := if ib x1 60 then if ib (σ 16 (ix x1)) 6 then (if (σ 5 (ix (σ 16 (ix x1)))) = 0 then some 0 else (if 3 ≤ (σ 20 (ix x1)) then some 0 else some 1)) else none else none
set_option maxRecDepth 100000 in
set_option maxHeartbeats 4000000 in
theorem c_X1_climbsByItself (l : Launch) (D : va_G) (cA : Nat → ClassId) (tS : Nat → Nat) (A : Nat → Prop) (h : Nat → Nat) (L : Nat) (F : va_W) (x1 : Int32) (σ : Sg) (r0 : Int32) (hM : f_X1_climbsByItself x1 σ = some r0) : Ct l yX1_climbsByItself (Cond.code yX1_climbsByItself cX1_climbsByItself 2 (some .boolean) :: bw) 0 0 D cA tS A [.ref (h 42), .int x1] (wK cA h σ ++ (wLg cA h σ L ++ (wC cA h σ ++ F))) (some (.int r0)) (wK cA h σ ++ (wLg cA h σ L ++ (wC cA h σ ++ F))) := by
  refine ct_of (by decide +kernel) (Nat.le_of_ble_eq_true rfl) ?_
  intro p e s m below meth c E hw ls hl
  replace E : Ev p cX1_climbsByItself 2 (some .boolean) RX1 (Cond.code yX1_climbsByItself cX1_climbsByItself 2 (some .boolean) :: bw) D cA tS A s m _ meth c := E
  replace hl : lv_has ls 2 [(0, .ref (h 42)), (1, .int x1)] := hl
  have hx := E.1.1
  have hb := E.1.2.1
  unfold f_X1_climbsByItself at hM
  refine lv_aload_n hx hb dX1_climbsByItself_0 rfl (lv_at hl 0 rfl) ?_
  refine q_get (C := RX1) (T := TX1) (N := 6) (ci := 1) E (fun w h => List.mem_cons_of_mem _ (inX1 w h)) hw 12 rfl rfl 0 (by decide) (List.mem_cons_of_mem _ tb_332) (v := .ref (h 40)) rfl dX1_climbsByItself_1 ?_
  refine q_get (C := RX3) (T := TX3) (N := 7) (ci := 3) E (fun w h => List.mem_cons_of_mem _ (inX3 w h)) hw 0 rfl rfl 4 (by decide) (List.mem_cons_of_mem _ tb_147) (v := .ref (h 5)) rfl dX1_climbsByItself_4 ?_
  refine lv_aload_n hx hb dX1_climbsByItself_7 rfl (lv_at hl 0 rfl) ?_
  refine q_get (C := RX1) (T := TX1) (N := 6) (ci := 1) E (fun w h => List.mem_cons_of_mem _ (inX1 w h)) hw 12 rfl rfl 3 (by decide) (List.mem_cons_of_mem _ tb_336) (v := .ref (h 44)) rfl dX1_climbsByItself_8 ?_
  refine q_get (C := RX7) (T := TX7) (N := 15) (ci := 7) E (fun w h => List.mem_cons_of_mem _ (inX7 w h)) hw 16 rfl rfl 0 (by decide) (List.mem_cons_of_mem _ tb_264) (v := .ref (h 16)) rfl dX1_climbsByItself_11 ?_
  refine lv_iload_n hx hb dX1_climbsByItself_14 rfl (lv_at hl 1 rfl) ?_
  obtain ⟨g1, hM⟩ := g_some hM
  refine q_ald E hw 17 (n := 60) rfl g1 (x := (σ 16 (ix x1))) rfl dX1_climbsByItself_15 ?_
  obtain ⟨g2, hM⟩ := g_some hM
  refine q_ald E hw 5 (n := 6) rfl g2 (x := (σ 5 (ix (σ 16 (ix x1))))) rfl dX1_climbsByItself_16 ?_
  refine lv_if_eq (tgt := 37) hx hb dX1_climbsByItself_17 (by decide) (fun c3 => ?_) (fun c3 => ?_)
  · replace hM := i_pos hM c3
    refine lv_iconst (v := 0) hx hb dX1_climbsByItself_37 (by decide) ?_
    cases hM
    exact q_retz E hw (by decide) dX1_climbsByItself_38
  · replace hM := i_neg hM c3
    refine lv_aload_n hx hb dX1_climbsByItself_20 rfl (lv_at hl 0 rfl) ?_
    refine q_get (C := RX1) (T := TX1) (N := 6) (ci := 1) E (fun w h => List.mem_cons_of_mem _ (inX1 w h)) hw 12 rfl rfl 3 (by decide) (List.mem_cons_of_mem _ tb_336) (v := .ref (h 44)) rfl dX1_climbsByItself_21 ?_
    refine q_get (C := RX7) (T := TX7) (N := 15) (ci := 7) E (fun w h => List.mem_cons_of_mem _ (inX7 w h)) hw 16 rfl rfl 4 (by decide) (List.mem_cons_of_mem _ tb_271) (v := .ref (h 20)) rfl dX1_climbsByItself_24 ?_
    refine lv_iload_n hx hb dX1_climbsByItself_27 rfl (lv_at hl 1 rfl) ?_
    refine q_ald E hw 21 (n := 60) rfl g1 (x := (σ 20 (ix x1))) rfl dX1_climbsByItself_28 ?_
    refine lv_iconst (v := 3) hx hb dX1_climbsByItself_29 (by decide) ?_
    refine lv_icmp_ge (tgt := 37) hx hb dX1_climbsByItself_30 (by decide) (fun c4 => ?_) (fun c4 => ?_)
    · replace hM := i_pos hM c4
      refine lv_iconst (v := 0) hx hb dX1_climbsByItself_37 (by decide) ?_
      cases hM
      exact q_retz E hw (by decide) dX1_climbsByItself_38
    · replace hM := i_neg hM c4
      refine lv_iconst (v := 1) hx hb dX1_climbsByItself_33 (by decide) ?_
      refine lv_goto (tgt := 38) hx hb dX1_climbsByItself_34 (by decide) ?_
      cases hM
      exact q_retz E hw (by decide) dX1_climbsByItself_38
def f_X1_minutesToClockEvent_88    (x1 : Int32) (x2 : Int32) (x3 : Int32) (σ : Sg) : Option (Int32) := if ib x1 60 then (if (σ 21 (ix x1)) = 0 then (f_X1_climbsByItself x1 σ).bind (fun p3 => (if p3 = 0 then some x3 else if ib x2 6 then some (if ((σ 5 (ix x2)) - (σ 23 (ix x1))) < x3 then ((σ 5 (ix x2)) - (σ 23 (ix x1))) else x3) else none)) else some x3) else none
set_option maxRecDepth 100000 in
set_option maxHeartbeats 4000000 in
theorem s_X1_minutesToClockEvent_88 (l : Launch) (D : va_G) (cA : Nat → ClassId) (tS : Nat → Nat) (A : Nat → Prop) (h : Nat → Nat) (L : Nat) (F : va_W) {p : Program} {e : Env} {s : State} {m : MethodId} {args : Array Value} {below : List Frame} {meth : Method} {c : Code} (E : Ev p cX1_minutesToClockEvent 4 (some .int) RX1 (Cond.code yX1_minutesToClockEvent cX1_minutesToClockEvent 4 (some .int) :: bw) D cA tS A s m args meth c) : ∀ (x1 : Int32) (x2 : Int32) (x3 : Int32) (σ : Sg) (r0 : Int32) (hM : f_X1_minutesToClockEvent_88 x1 x2 x3 σ = some r0) (H : Heap) (locs : List Loc) (hw : Wd D A (wK cA h σ ++ (wLg cA h σ L ++ (wC cA h σ ++ F))) s.heap H locs) (ls : Array Slot) (hl : lv_has ls 4 [(0, .ref (h 42)), (1, .int x1), (2, .int x2), (3, .int x3)]), W p l e ({ frames := 2, cells := 0, slots := 0, locals := 42 } : Room) s m args below meth c H locs 0 0 (MQ below (QW D A (some (.int r0)) (wK cA h σ ++ (wLg cA h σ L ++ (wC cA h σ ++ F)))) args s 0 0 A) (F0 m 88 ls []) := by
  have hx := E.1.1
  have hb := E.1.2.1
  intro x1 x2 x3 σ r0 hM H locs hw ls hl
  unfold f_X1_minutesToClockEvent_88 at hM
  refine lv_aload_n hx hb dX1_minutesToClockEvent_88 rfl (lv_at hl 0 rfl) ?_
  refine q_get (C := RX1) (T := TX1) (N := 6) (ci := 1) E (fun w h => List.mem_cons_of_mem _ (inX1 w h)) hw 12 rfl rfl 3 (by decide) (List.mem_cons_of_mem _ tb_336) (v := .ref (h 44)) rfl dX1_minutesToClockEvent_89 ?_
  refine q_get (C := RX7) (T := TX7) (N := 15) (ci := 7) E (fun w h => List.mem_cons_of_mem _ (inX7 w h)) hw 16 rfl rfl 5 (by decide) (List.mem_cons_of_mem _ tb_274) (v := .ref (h 21)) rfl dX1_minutesToClockEvent_92 ?_
  refine lv_iload_n hx hb dX1_minutesToClockEvent_95 rfl (lv_at hl 1 rfl) ?_
  obtain ⟨g1, hM⟩ := g_some hM
  refine q_ald E hw 22 (n := 60) rfl g1 (x := (σ 21 (ix x1))) rfl dX1_minutesToClockEvent_96 ?_
  refine lv_if_ne (tgt := 132) hx hb dX1_minutesToClockEvent_97 (by decide) (fun c2 => ?_) (fun c2 => ?_)
  · replace hM := i_neg hM c2
    refine lv_iload_n hx hb dX1_minutesToClockEvent_132 rfl (lv_at hl 3 rfl) ?_
    cases hM
    exact q_reti E hw dX1_minutesToClockEvent_133
  · replace hM := i_pos hM c2
    refine lv_aload_n hx hb dX1_minutesToClockEvent_100 rfl (lv_at hl 0 rfl) ?_
    refine lv_iload_n hx hb dX1_minutesToClockEvent_101 rfl (lv_at hl 1 rfl) ?_
    obtain ⟨p3, h4, hM⟩ := b_some hM
    refine q_cv (As := [.int x1]) (rest := []) E hw hl (c_X1_climbsByItself l D cA tS A h L F x1 σ p3 h4) 1 (bwV bw_c tb_751 tb_753 tb_25 tb_106 tb_754) rfl (by decide +kernel) ⟨Nat.le_of_ble_eq_true rfl, Nat.le_of_ble_eq_true rfl⟩ 12 1 (T := TX1) (N := 6) rfl rfl rfl rfl (Nat.le_of_ble_eq_true rfl) ⟨Nat.zero_le _, Nat.zero_le _⟩ dX1_minutesToClockEvent_102 (fun H locs hw => ?_)
    refine lv_if_eq (tgt := 132) hx hb dX1_minutesToClockEvent_105 (by decide) (fun c5 => ?_) (fun c5 => ?_)
    · replace hM := i_pos hM c5
      refine lv_iload_n hx hb dX1_minutesToClockEvent_132 rfl (lv_at hl 3 rfl) ?_
      cases hM
      exact q_reti E hw dX1_minutesToClockEvent_133
    · replace hM := i_neg hM c5
      refine lv_iload_n hx hb dX1_minutesToClockEvent_108 rfl (lv_at hl 3 rfl) ?_
      refine lv_aload_n hx hb dX1_minutesToClockEvent_109 rfl (lv_at hl 0 rfl) ?_
      refine q_get (C := RX1) (T := TX1) (N := 6) (ci := 1) E (fun w h => List.mem_cons_of_mem _ (inX1 w h)) hw 12 rfl rfl 0 (by decide) (List.mem_cons_of_mem _ tb_332) (v := .ref (h 40)) rfl dX1_minutesToClockEvent_110 ?_
      refine q_get (C := RX3) (T := TX3) (N := 7) (ci := 3) E (fun w h => List.mem_cons_of_mem _ (inX3 w h)) hw 0 rfl rfl 4 (by decide) (List.mem_cons_of_mem _ tb_147) (v := .ref (h 5)) rfl dX1_minutesToClockEvent_113 ?_
      refine lv_iload_n hx hb dX1_minutesToClockEvent_116 rfl (lv_at hl 2 rfl) ?_
      obtain ⟨g6, hM⟩ := g_some hM
      refine q_ald E hw 5 (n := 6) rfl g6 (x := (σ 5 (ix x2))) rfl dX1_minutesToClockEvent_117 ?_
      refine lv_aload_n hx hb dX1_minutesToClockEvent_118 rfl (lv_at hl 0 rfl) ?_
      refine q_get (C := RX1) (T := TX1) (N := 6) (ci := 1) E (fun w h => List.mem_cons_of_mem _ (inX1 w h)) hw 12 rfl rfl 3 (by decide) (List.mem_cons_of_mem _ tb_336) (v := .ref (h 44)) rfl dX1_minutesToClockEvent_119 ?_
      refine q_get (C := RX7) (T := TX7) (N := 15) (ci := 7) E (fun w h => List.mem_cons_of_mem _ (inX7 w h)) hw 16 rfl rfl 7 (by decide) (List.mem_cons_of_mem _ tb_280) (v := .ref (h 23)) rfl dX1_minutesToClockEvent_122 ?_
      refine lv_iload_n hx hb dX1_minutesToClockEvent_125 rfl (lv_at hl 1 rfl) ?_
      refine q_ald E hw 24 (n := 60) rfl g1 (x := (σ 23 (ix x1))) rfl dX1_minutesToClockEvent_126 ?_
      refine lv_isub hx hb dX1_minutesToClockEvent_127 ?_
      refine va_mmin hx hb (E.1.2.2.1.trans hl.1.symm) E.1.2.2.2.1 (E.1.2.2.2.2 _ (List.mem_cons_of_mem _ tb_729)) (E.1.2.2.2.2 _ (List.mem_cons_of_mem _ tb_626)) (E.1.2.2.2.2 _ (List.mem_cons_of_mem _ tb_104)) (E.1.2.2.2.2 _ (List.mem_cons_of_mem _ tb_627)) (Nat.le_of_ble_eq_true rfl) (Nat.le_of_ble_eq_true rfl) (Nat.zero_le _) (Nat.zero_le _) dX1_minutesToClockEvent_128 ?_
      refine lv_istore_n (lv' := [(3, .int (if ((σ 5 (ix x2)) - (σ 23 (ix x1))) < x3 then ((σ 5 (ix x2)) - (σ 23 (ix x1))) else x3)), (0, .ref (h 42)), (1, .int x1), (2, .int x2)]) hx hb dX1_minutesToClockEvent_131 rfl hl (by decide) rfl (fun ls hl => ?_)
      refine lv_iload_n hx hb dX1_minutesToClockEvent_132 rfl (lv_at hl 0 rfl) ?_
      cases hM
      exact q_reti E hw dX1_minutesToClockEvent_133
def f_X1_minutesToClockEvent_51    (x1 : Int32) (x2 : Int32) (x3 : Int32) (σ : Sg) : Option (Int32) := (f_X7_resolveRuns x1 σ).bind (fun p1 => (if p1 = 0 then f_X1_minutesToClockEvent_88 x1 x2 x3 σ else if ib x1 60 then if ib x2 6 then (f_X1_minutesToBreach (σ 25 (ix x1)) (σ 2 (ix x2))).bind (fun p6 => f_X1_minutesToClockEvent_88 x1 x2 (if p6 < x3 then p6 else x3) σ) else none else none))
set_option maxRecDepth 100000 in
set_option maxHeartbeats 4000000 in
theorem s_X1_minutesToClockEvent_51 (l : Launch) (D : va_G) (cA : Nat → ClassId) (tS : Nat → Nat) (A : Nat → Prop) (h : Nat → Nat) (L : Nat) (F : va_W) {p : Program} {e : Env} {s : State} {m : MethodId} {args : Array Value} {below : List Frame} {meth : Method} {c : Code} (E : Ev p cX1_minutesToClockEvent 4 (some .int) RX1 (Cond.code yX1_minutesToClockEvent cX1_minutesToClockEvent 4 (some .int) :: bw) D cA tS A s m args meth c) : ∀ (x1 : Int32) (x2 : Int32) (x3 : Int32) (σ : Sg) (r0 : Int32) (hM : f_X1_minutesToClockEvent_51 x1 x2 x3 σ = some r0) (H : Heap) (locs : List Loc) (hw : Wd D A (wK cA h σ ++ (wLg cA h σ L ++ (wC cA h σ ++ F))) s.heap H locs) (ls : Array Slot) (hl : lv_has ls 4 [(0, .ref (h 42)), (1, .int x1), (2, .int x2), (3, .int x3)]), W p l e ({ frames := 2, cells := 0, slots := 0, locals := 42 } : Room) s m args below meth c H locs 0 0 (MQ below (QW D A (some (.int r0)) (wK cA h σ ++ (wLg cA h σ L ++ (wC cA h σ ++ F)))) args s 0 0 A) (F0 m 51 ls []) := by
  have hx := E.1.1
  have hb := E.1.2.1
  intro x1 x2 x3 σ r0 hM H locs hw ls hl
  unfold f_X1_minutesToClockEvent_51 at hM
  refine lv_aload_n hx hb dX1_minutesToClockEvent_51 rfl (lv_at hl 0 rfl) ?_
  refine q_get (C := RX1) (T := TX1) (N := 6) (ci := 1) E (fun w h => List.mem_cons_of_mem _ (inX1 w h)) hw 12 rfl rfl 3 (by decide) (List.mem_cons_of_mem _ tb_336) (v := .ref (h 44)) rfl dX1_minutesToClockEvent_52 ?_
  refine lv_iload_n hx hb dX1_minutesToClockEvent_55 rfl (lv_at hl 1 rfl) ?_
  obtain ⟨p1, h2, hM⟩ := b_some hM
  refine q_cv (As := [.int x1]) (rest := []) E hw hl (c_X7_resolveRuns l D cA tS A h L F x1 σ p1 h2) 1 (bwV bw_c tb_747 tb_748 tb_749 tb_108 tb_750) rfl (by decide +kernel) ⟨Nat.le_of_ble_eq_true rfl, Nat.le_of_ble_eq_true rfl⟩ 16 7 (T := TX7) (N := 15) rfl rfl rfl rfl (Nat.le_of_ble_eq_true rfl) ⟨Nat.zero_le _, Nat.zero_le _⟩ dX1_minutesToClockEvent_56 (fun H locs hw => ?_)
  refine lv_if_eq (tgt := 88) hx hb dX1_minutesToClockEvent_59 (by decide) (fun c3 => ?_) (fun c3 => ?_)
  · replace hM := i_pos hM c3
    exact s_X1_minutesToClockEvent_88 l D cA tS A h L F E _ _ _ _ _ hM _ _ hw _ (lv_sub hl [0, 1, 2, 3] rfl)
  · replace hM := i_neg hM c3
    refine lv_iload_n hx hb dX1_minutesToClockEvent_62 rfl (lv_at hl 3 rfl) ?_
    refine lv_aload_n hx hb dX1_minutesToClockEvent_63 rfl (lv_at hl 0 rfl) ?_
    refine q_get (C := RX1) (T := TX1) (N := 6) (ci := 1) E (fun w h => List.mem_cons_of_mem _ (inX1 w h)) hw 12 rfl rfl 3 (by decide) (List.mem_cons_of_mem _ tb_336) (v := .ref (h 44)) rfl dX1_minutesToClockEvent_64 ?_
    refine q_get (C := RX7) (T := TX7) (N := 15) (ci := 7) E (fun w h => List.mem_cons_of_mem _ (inX7 w h)) hw 16 rfl rfl 9 (by decide) (List.mem_cons_of_mem _ tb_285) (v := .ref (h 25)) rfl dX1_minutesToClockEvent_67 ?_
    refine lv_iload_n hx hb dX1_minutesToClockEvent_70 rfl (lv_at hl 1 rfl) ?_
    obtain ⟨g4, hM⟩ := g_some hM
    refine q_ald E hw 26 (n := 60) rfl g4 (x := (σ 25 (ix x1))) rfl dX1_minutesToClockEvent_71 ?_
    refine lv_aload_n hx hb dX1_minutesToClockEvent_72 rfl (lv_at hl 0 rfl) ?_
    refine q_get (C := RX1) (T := TX1) (N := 6) (ci := 1) E (fun w h => List.mem_cons_of_mem _ (inX1 w h)) hw 12 rfl rfl 0 (by decide) (List.mem_cons_of_mem _ tb_332) (v := .ref (h 40)) rfl dX1_minutesToClockEvent_73 ?_
    refine q_get (C := RX3) (T := TX3) (N := 7) (ci := 3) E (fun w h => List.mem_cons_of_mem _ (inX3 w h)) hw 0 rfl rfl 1 (by decide) (List.mem_cons_of_mem _ tb_141) (v := .ref (h 2)) rfl dX1_minutesToClockEvent_76 ?_
    refine lv_iload_n hx hb dX1_minutesToClockEvent_79 rfl (lv_at hl 2 rfl) ?_
    obtain ⟨g5, hM⟩ := g_some hM
    refine q_ald E hw 2 (n := 6) rfl g5 (x := (σ 2 (ix x2))) rfl dX1_minutesToClockEvent_80 ?_
    obtain ⟨p6, h7, hM⟩ := b_some hM
    refine q_cs (As := [.int (σ 25 (ix x1)), .int (σ 2 (ix x2))]) (rest := [.int x3]) E hw hl (c_X1_minutesToBreach l D cA tS A (wK cA h σ ++ (wLg cA h σ L ++ (wC cA h σ ++ F))) (σ 25 (ix x1)) (σ 2 (ix x2)) p6 h7) 2 (bwS bw_c tb_744 tb_745 tb_106 tb_746) rfl (by decide +kernel) ⟨Nat.le_of_ble_eq_true rfl, Nat.le_of_ble_eq_true rfl⟩ rfl rfl (Nat.le_of_ble_eq_true rfl) ⟨Nat.zero_le _, Nat.zero_le _⟩ dX1_minutesToClockEvent_81 (fun H locs hw => ?_)
    refine va_mmin hx hb (E.1.2.2.1.trans hl.1.symm) E.1.2.2.2.1 (E.1.2.2.2.2 _ (List.mem_cons_of_mem _ tb_729)) (E.1.2.2.2.2 _ (List.mem_cons_of_mem _ tb_626)) (E.1.2.2.2.2 _ (List.mem_cons_of_mem _ tb_104)) (E.1.2.2.2.2 _ (List.mem_cons_of_mem _ tb_627)) (Nat.le_of_ble_eq_true rfl) (Nat.le_of_ble_eq_true rfl) (Nat.zero_le _) (Nat.zero_le _) dX1_minutesToClockEvent_84 ?_
    refine lv_istore_n (lv' := [(3, .int (if p6 < x3 then p6 else x3)), (0, .ref (h 42)), (1, .int x1), (2, .int x2)]) hx hb dX1_minutesToClockEvent_87 rfl hl (by decide) rfl (fun ls hl => ?_)
    exact s_X1_minutesToClockEvent_88 l D cA tS A h L F E _ _ _ _ _ hM _ _ hw _ (lv_sub hl [1, 2, 3, 0] rfl)
def f_X1_minutesToClockEvent    (x1 : Int32) (σ : Sg) : Option (Int32) := if ib x1 60 then (f_X7_responseRuns x1 σ).bind (fun p2 => (if p2 = 0 then f_X1_minutesToClockEvent_51 x1 (σ 16 (ix x1)) 10080 σ else if ib (σ 16 (ix x1)) 6 then (f_X1_minutesToBreach (σ 24 (ix x1)) (σ 1 (ix (σ 16 (ix x1))))).bind (fun p6 => f_X1_minutesToClockEvent_51 x1 (σ 16 (ix x1)) (if p6 < 10080 then p6 else 10080) σ) else none)) else none
set_option maxRecDepth 100000 in
set_option maxHeartbeats 4000000 in
theorem c_X1_minutesToClockEvent (l : Launch) (D : va_G) (cA : Nat → ClassId) (tS : Nat → Nat) (A : Nat → Prop) (h : Nat → Nat) (L : Nat) (F : va_W) (x1 : Int32) (σ : Sg) (r0 : Int32) (hM : f_X1_minutesToClockEvent x1 σ = some r0) : Ct l yX1_minutesToClockEvent (Cond.code yX1_minutesToClockEvent cX1_minutesToClockEvent 4 (some .int) :: bw) 2 42 D cA tS A [.ref (h 42), .int x1] (wK cA h σ ++ (wLg cA h σ L ++ (wC cA h σ ++ F))) (some (.int r0)) (wK cA h σ ++ (wLg cA h σ L ++ (wC cA h σ ++ F))) := by
  refine ct_of (by decide +kernel) (Nat.le_of_ble_eq_true rfl) ?_
  intro p e s m below meth c E hw ls hl
  replace E : Ev p cX1_minutesToClockEvent 4 (some .int) RX1 (Cond.code yX1_minutesToClockEvent cX1_minutesToClockEvent 4 (some .int) :: bw) D cA tS A s m _ meth c := E
  replace hl : lv_has ls 4 [(0, .ref (h 42)), (1, .int x1)] := hl
  have hx := E.1.1
  have hb := E.1.2.1
  unfold f_X1_minutesToClockEvent at hM
  refine lv_aload_n hx hb dX1_minutesToClockEvent_0 rfl (lv_at hl 0 rfl) ?_
  refine q_get (C := RX1) (T := TX1) (N := 6) (ci := 1) E (fun w h => List.mem_cons_of_mem _ (inX1 w h)) hw 12 rfl rfl 3 (by decide) (List.mem_cons_of_mem _ tb_336) (v := .ref (h 44)) rfl dX1_minutesToClockEvent_1 ?_
  refine q_get (C := RX7) (T := TX7) (N := 15) (ci := 7) E (fun w h => List.mem_cons_of_mem _ (inX7 w h)) hw 16 rfl rfl 0 (by decide) (List.mem_cons_of_mem _ tb_264) (v := .ref (h 16)) rfl dX1_minutesToClockEvent_4 ?_
  refine lv_iload_n hx hb dX1_minutesToClockEvent_7 rfl (lv_at hl 1 rfl) ?_
  obtain ⟨g1, hM⟩ := g_some hM
  refine q_ald E hw 17 (n := 60) rfl g1 (x := (σ 16 (ix x1))) rfl dX1_minutesToClockEvent_8 ?_
  refine lv_istore_n (lv' := [(2, .int (σ 16 (ix x1))), (0, .ref (h 42)), (1, .int x1)]) hx hb dX1_minutesToClockEvent_9 rfl hl (by decide) rfl (fun ls hl => ?_)
  refine lv_sipush (v := 10080) hx hb dX1_minutesToClockEvent_10 (by decide) ?_
  refine lv_istore_n (lv' := [(3, .int 10080), (2, .int (σ 16 (ix x1))), (0, .ref (h 42)), (1, .int x1)]) hx hb dX1_minutesToClockEvent_13 rfl hl (by decide) rfl (fun ls hl => ?_)
  refine lv_aload_n hx hb dX1_minutesToClockEvent_14 rfl (lv_at hl 2 rfl) ?_
  refine q_get (C := RX1) (T := TX1) (N := 6) (ci := 1) E (fun w h => List.mem_cons_of_mem _ (inX1 w h)) hw 12 rfl rfl 3 (by decide) (List.mem_cons_of_mem _ tb_336) (v := .ref (h 44)) rfl dX1_minutesToClockEvent_15 ?_
  refine lv_iload_n hx hb dX1_minutesToClockEvent_18 rfl (lv_at hl 3 rfl) ?_
  obtain ⟨p2, h3, hM⟩ := b_some hM
  refine q_cv (As := [.int x1]) (rest := []) E hw hl (c_X7_responseRuns l D cA tS A h L F x1 σ p2 h3) 1 (bwV bw_c tb_738 tb_739 tb_740 tb_108 tb_741) rfl (by decide +kernel) ⟨Nat.le_of_ble_eq_true rfl, Nat.le_of_ble_eq_true rfl⟩ 16 7 (T := TX7) (N := 15) rfl rfl rfl rfl (Nat.le_of_ble_eq_true rfl) ⟨Nat.zero_le _, Nat.zero_le _⟩ dX1_minutesToClockEvent_19 (fun H locs hw => ?_)
  refine lv_if_eq (tgt := 51) hx hb dX1_minutesToClockEvent_22 (by decide) (fun c4 => ?_) (fun c4 => ?_)
  · replace hM := i_pos hM c4
    exact s_X1_minutesToClockEvent_51 l D cA tS A h L F E _ _ _ _ _ hM _ _ hw _ (lv_sub hl [2, 3, 1, 0] rfl)
  · replace hM := i_neg hM c4
    refine lv_iload_n hx hb dX1_minutesToClockEvent_25 rfl (lv_at hl 0 rfl) ?_
    refine lv_aload_n hx hb dX1_minutesToClockEvent_26 rfl (lv_at hl 2 rfl) ?_
    refine q_get (C := RX1) (T := TX1) (N := 6) (ci := 1) E (fun w h => List.mem_cons_of_mem _ (inX1 w h)) hw 12 rfl rfl 3 (by decide) (List.mem_cons_of_mem _ tb_336) (v := .ref (h 44)) rfl dX1_minutesToClockEvent_27 ?_
    refine q_get (C := RX7) (T := TX7) (N := 15) (ci := 7) E (fun w h => List.mem_cons_of_mem _ (inX7 w h)) hw 16 rfl rfl 8 (by decide) (List.mem_cons_of_mem _ tb_282) (v := .ref (h 24)) rfl dX1_minutesToClockEvent_30 ?_
    refine lv_iload_n hx hb dX1_minutesToClockEvent_33 rfl (lv_at hl 3 rfl) ?_
    refine q_ald E hw 25 (n := 60) rfl g1 (x := (σ 24 (ix x1))) rfl dX1_minutesToClockEvent_34 ?_
    refine lv_aload_n hx hb dX1_minutesToClockEvent_35 rfl (lv_at hl 2 rfl) ?_
    refine q_get (C := RX1) (T := TX1) (N := 6) (ci := 1) E (fun w h => List.mem_cons_of_mem _ (inX1 w h)) hw 12 rfl rfl 0 (by decide) (List.mem_cons_of_mem _ tb_332) (v := .ref (h 40)) rfl dX1_minutesToClockEvent_36 ?_
    refine q_get (C := RX3) (T := TX3) (N := 7) (ci := 3) E (fun w h => List.mem_cons_of_mem _ (inX3 w h)) hw 0 rfl rfl 0 (by decide) (List.mem_cons_of_mem _ tb_139) (v := .ref (h 1)) rfl dX1_minutesToClockEvent_39 ?_
    refine lv_iload_n hx hb dX1_minutesToClockEvent_42 rfl (lv_at hl 1 rfl) ?_
    obtain ⟨g5, hM⟩ := g_some hM
    refine q_ald E hw 1 (n := 6) rfl g5 (x := (σ 1 (ix (σ 16 (ix x1))))) rfl dX1_minutesToClockEvent_43 ?_
    obtain ⟨p6, h7, hM⟩ := b_some hM
    refine q_cs (As := [.int (σ 24 (ix x1)), .int (σ 1 (ix (σ 16 (ix x1))))]) (rest := [.int 10080]) E hw hl (c_X1_minutesToBreach l D cA tS A (wK cA h σ ++ (wLg cA h σ L ++ (wC cA h σ ++ F))) (σ 24 (ix x1)) (σ 1 (ix (σ 16 (ix x1)))) p6 h7) 2 (bwS bw_c tb_744 tb_745 tb_106 tb_746) rfl (by decide +kernel) ⟨Nat.le_of_ble_eq_true rfl, Nat.le_of_ble_eq_true rfl⟩ rfl rfl (Nat.le_of_ble_eq_true rfl) ⟨Nat.zero_le _, Nat.zero_le _⟩ dX1_minutesToClockEvent_44 (fun H locs hw => ?_)
    refine va_mmin hx hb (E.1.2.2.1.trans hl.1.symm) E.1.2.2.2.1 (E.1.2.2.2.2 _ (List.mem_cons_of_mem _ tb_729)) (E.1.2.2.2.2 _ (List.mem_cons_of_mem _ tb_626)) (E.1.2.2.2.2 _ (List.mem_cons_of_mem _ tb_104)) (E.1.2.2.2.2 _ (List.mem_cons_of_mem _ tb_627)) (Nat.le_of_ble_eq_true rfl) (Nat.le_of_ble_eq_true rfl) (Nat.zero_le _) (Nat.zero_le _) dX1_minutesToClockEvent_47 ?_
    refine lv_istore_n (lv' := [(3, .int (if p6 < 10080 then p6 else 10080)), (2, .int (σ 16 (ix x1))), (0, .ref (h 42)), (1, .int x1)]) hx hb dX1_minutesToClockEvent_50 rfl hl (by decide) rfl (fun ls hl => ?_)
    exact s_X1_minutesToClockEvent_51 l D cA tS A h L F E _ _ _ _ _ hM _ _ hw _ (lv_sub hl [2, 3, 1, 0] rfl)
def f_X1_stretch_57 (N : Nat)  (k24 : Int32 → Int32 → Int32 → Sg → Option (Int32)) (x2 : Int32) (x3 : Int32) (x4 : Int32) (σ : Sg) : Option (Int32) := (if x2 = 0 then k24 x2 x3 (x4 + 1) σ else if ib x4 60 then (if (σ 21 (ix x4)) = 1 then if ib (σ 16 (ix x4)) 6 then k24 x2 (if ((σ 3 (ix (σ 16 (ix x4)))) - (σ 22 (ix x4))) < x3 then ((σ 3 (ix (σ 16 (ix x4)))) - (σ 22 (ix x4))) else x3) (x4 + 1) σ else none else k24 x2 x3 (x4 + 1) σ) else none)
set_option maxRecDepth 100000 in
set_option maxHeartbeats 4000000 in
theorem s_X1_stretch_57 (l : Launch) (D : va_G) (cA : Nat → ClassId) (tS : Nat → Nat) (A : Nat → Prop) (h : Nat → Nat) (L : Nat) (F : va_W) (N : Nat) (k24 : Int32 → Int32 → Int32 → Sg → Option (Int32)) {p : Program} {e : Env} {s : State} {m : MethodId} {args : Array Value} {below : List Frame} {meth : Method} {c : Code} (E : Ev p cX1_stretch 5 (some .int) RX1 (Cond.code yX1_stretch cX1_stretch 5 (some .int) :: bw) D cA tS A s m args meth c) (hk24 : ∀ (x2 : Int32) (x3 : Int32) (x4 : Int32) (σ : Sg) (r0 : Int32) (hM : k24 x2 x3 x4 σ = some r0) (H : Heap) (locs : List Loc) (hw : Wd D A (wK cA h σ ++ (wLg cA h σ L ++ (wC cA h σ ++ F))) s.heap H locs) (ls : Array Slot) (hl : lv_has ls 5 [(0, .ref (h 42)), (2, .int x2), (3, .int x3), (4, .int x4)]), W p l e ({ frames := 3, cells := 0, slots := 0, locals := 65 } : Room) s m args below meth c H locs 0 0 (MQ below (QW D A (some (.int r0)) (wK cA h σ ++ (wLg cA h σ L ++ (wC cA h σ ++ F)))) args s 0 0 A) (F0 m 24 ls [])) : ∀ (x2 : Int32) (x3 : Int32) (x4 : Int32) (σ : Sg) (r0 : Int32) (hM : f_X1_stretch_57 N k24 x2 x3 x4 σ = some r0) (H : Heap) (locs : List Loc) (hw : Wd D A (wK cA h σ ++ (wLg cA h σ L ++ (wC cA h σ ++ F))) s.heap H locs) (ls : Array Slot) (hl : lv_has ls 5 [(0, .ref (h 42)), (2, .int x2), (3, .int x3), (4, .int x4)]), W p l e ({ frames := 3, cells := 0, slots := 0, locals := 65 } : Room) s m args below meth c H locs 0 0 (MQ below (QW D A (some (.int r0)) (wK cA h σ ++ (wLg cA h σ L ++ (wC cA h σ ++ F)))) args s 0 0 A) (F0 m 57 ls []) := by
  have hx := E.1.1
  have hb := E.1.2.1
  intro x2 x3 x4 σ r0 hM H locs hw ls hl
  unfold f_X1_stretch_57 at hM
  refine lv_iload_n hx hb dX1_stretch_57 rfl (lv_at hl 1 rfl) ?_
  refine lv_if_eq (tgt := 109) hx hb dX1_stretch_58 (by decide) (fun c1 => ?_) (fun c1 => ?_)
  · replace hM := i_pos hM c1
    refine lv_iinc (v := (x4 + 1)) (lv' := [(4, .int (x4 + 1)), (0, .ref (h 42)), (2, .int x2), (3, .int x3)]) hx hb dX1_stretch_109 hl (k := 3) rfl rfl (by decide) rfl (fun ls hl => ?_)
    refine lv_goto (tgt := 24) hx hb dX1_stretch_112 (by decide) ?_
    exact hk24 _ _ _ _ _ hM _ _ hw _ (lv_sub hl [1, 2, 3, 0] rfl)
  · replace hM := i_neg hM c1
    refine lv_aload_n hx hb dX1_stretch_61 rfl (lv_at hl 0 rfl) ?_
    refine q_get (C := RX1) (T := TX1) (N := 6) (ci := 1) E (fun w h => List.mem_cons_of_mem _ (inX1 w h)) hw 12 rfl rfl 3 (by decide) (List.mem_cons_of_mem _ tb_336) (v := .ref (h 44)) rfl dX1_stretch_62 ?_
    refine q_get (C := RX7) (T := TX7) (N := 15) (ci := 7) E (fun w h => List.mem_cons_of_mem _ (inX7 w h)) hw 16 rfl rfl 5 (by decide) (List.mem_cons_of_mem _ tb_274) (v := .ref (h 21)) rfl dX1_stretch_65 ?_
    refine lv_iload hx hb dX1_stretch_68 (lv_at hl 3 rfl) ?_
    obtain ⟨g2, hM⟩ := g_some hM
    refine q_ald E hw 22 (n := 60) rfl g2 (x := (σ 21 (ix x4))) rfl dX1_stretch_70 ?_
    refine lv_iconst (v := 1) hx hb dX1_stretch_71 (by decide) ?_
    refine lv_icmp_ne (tgt := 109) hx hb dX1_stretch_72 (by decide) (fun c3 => ?_) (fun c3 => ?_)
    · replace hM := i_neg hM c3
      refine lv_iinc (v := (x4 + 1)) (lv' := [(4, .int (x4 + 1)), (0, .ref (h 42)), (2, .int x2), (3, .int x3)]) hx hb dX1_stretch_109 hl (k := 3) rfl rfl (by decide) rfl (fun ls hl => ?_)
      refine lv_goto (tgt := 24) hx hb dX1_stretch_112 (by decide) ?_
      exact hk24 _ _ _ _ _ hM _ _ hw _ (lv_sub hl [1, 2, 3, 0] rfl)
    · replace hM := i_pos hM c3
      refine lv_iload_n hx hb dX1_stretch_75 rfl (lv_at hl 2 rfl) ?_
      refine lv_aload_n hx hb dX1_stretch_76 rfl (lv_at hl 0 rfl) ?_
      refine q_get (C := RX1) (T := TX1) (N := 6) (ci := 1) E (fun w h => List.mem_cons_of_mem _ (inX1 w h)) hw 12 rfl rfl 0 (by decide) (List.mem_cons_of_mem _ tb_332) (v := .ref (h 40)) rfl dX1_stretch_77 ?_
      refine q_get (C := RX3) (T := TX3) (N := 7) (ci := 3) E (fun w h => List.mem_cons_of_mem _ (inX3 w h)) hw 0 rfl rfl 2 (by decide) (List.mem_cons_of_mem _ tb_143) (v := .ref (h 3)) rfl dX1_stretch_80 ?_
      refine lv_aload_n hx hb dX1_stretch_83 rfl (lv_at hl 0 rfl) ?_
      refine q_get (C := RX1) (T := TX1) (N := 6) (ci := 1) E (fun w h => List.mem_cons_of_mem _ (inX1 w h)) hw 12 rfl rfl 3 (by decide) (List.mem_cons_of_mem _ tb_336) (v := .ref (h 44)) rfl dX1_stretch_84 ?_
      refine q_get (C := RX7) (T := TX7) (N := 15) (ci := 7) E (fun w h => List.mem_cons_of_mem _ (inX7 w h)) hw 16 rfl rfl 0 (by decide) (List.mem_cons_of_mem _ tb_264) (v := .ref (h 16)) rfl dX1_stretch_87 ?_
      refine lv_iload hx hb dX1_stretch_90 (lv_at hl 3 rfl) ?_
      refine q_ald E hw 17 (n := 60) rfl g2 (x := (σ 16 (ix x4))) rfl dX1_stretch_92 ?_
      obtain ⟨g4, hM⟩ := g_some hM
      refine q_ald E hw 3 (n := 6) rfl g4 (x := (σ 3 (ix (σ 16 (ix x4))))) rfl dX1_stretch_93 ?_
      refine lv_aload_n hx hb dX1_stretch_94 rfl (lv_at hl 0 rfl) ?_
      refine q_get (C := RX1) (T := TX1) (N := 6) (ci := 1) E (fun w h => List.mem_cons_of_mem _ (inX1 w h)) hw 12 rfl rfl 3 (by decide) (List.mem_cons_of_mem _ tb_336) (v := .ref (h 44)) rfl dX1_stretch_95 ?_
      refine q_get (C := RX7) (T := TX7) (N := 15) (ci := 7) E (fun w h => List.mem_cons_of_mem _ (inX7 w h)) hw 16 rfl rfl 6 (by decide) (List.mem_cons_of_mem _ tb_277) (v := .ref (h 22)) rfl dX1_stretch_98 ?_
      refine lv_iload hx hb dX1_stretch_101 (lv_at hl 3 rfl) ?_
      refine q_ald E hw 23 (n := 60) rfl g2 (x := (σ 22 (ix x4))) rfl dX1_stretch_103 ?_
      refine lv_isub hx hb dX1_stretch_104 ?_
      refine va_mmin hx hb (E.1.2.2.1.trans hl.1.symm) E.1.2.2.2.1 (E.1.2.2.2.2 _ (List.mem_cons_of_mem _ tb_729)) (E.1.2.2.2.2 _ (List.mem_cons_of_mem _ tb_626)) (E.1.2.2.2.2 _ (List.mem_cons_of_mem _ tb_104)) (E.1.2.2.2.2 _ (List.mem_cons_of_mem _ tb_627)) (Nat.le_of_ble_eq_true rfl) (Nat.le_of_ble_eq_true rfl) (Nat.zero_le _) (Nat.zero_le _) dX1_stretch_105 ?_
      refine lv_istore_n (lv' := [(3, .int (if ((σ 3 (ix (σ 16 (ix x4)))) - (σ 22 (ix x4))) < x3 then ((σ 3 (ix (σ 16 (ix x4)))) - (σ 22 (ix x4))) else x3)), (0, .ref (h 42)), (2, .int x2), (4, .int x4)]) hx hb dX1_stretch_108 rfl hl (by decide) rfl (fun ls hl => ?_)
      refine lv_iinc (v := (x4 + 1)) (lv' := [(4, .int (x4 + 1)), (3, .int (if ((σ 3 (ix (σ 16 (ix x4)))) - (σ 22 (ix x4))) < x3 then ((σ 3 (ix (σ 16 (ix x4)))) - (σ 22 (ix x4))) else x3)), (0, .ref (h 42)), (2, .int x2)]) hx hb dX1_stretch_109 hl (k := 3) rfl rfl (by decide) rfl (fun ls hl => ?_)
      refine lv_goto (tgt := 24) hx hb dX1_stretch_112 (by decide) ?_
      exact hk24 _ _ _ _ _ hM _ _ hw _ (lv_sub hl [2, 3, 1, 0] rfl)
def f_X1_stretch_24 (N : Nat)   : Nat → Int32 → Int32 → Int32 → Sg → Option (Int32)
  | 0, _, _, _, _ => none
  | n + 1, x2, x3, x4, σ => (if (σ 15 0) ≤ x4 then some (if 1 < x3 then x3 else 1) else (f_X1_counts x4 x2 σ).bind (fun p2 => (if p2 = 0 then f_X1_stretch_57 N (fun x2 x3 x4 σ => f_X1_stretch_24 N n x2 x3 x4 σ) x2 x3 x4 σ else (f_X1_minutesToClockEvent x4 σ).bind (fun p5 => f_X1_stretch_57 N (fun x2 x3 x4 σ => f_X1_stretch_24 N n x2 x3 x4 σ) x2 (if p5 < x3 then p5 else x3) x4 σ))))
set_option maxRecDepth 100000 in
set_option maxHeartbeats 4000000 in
theorem s_X1_stretch_24 (l : Launch) (D : va_G) (cA : Nat → ClassId) (tS : Nat → Nat) (A : Nat → Prop) (h : Nat → Nat) (L : Nat) (F : va_W) (N : Nat) {p : Program} {e : Env} {s : State} {m : MethodId} {args : Array Value} {below : List Frame} {meth : Method} {c : Code} (E : Ev p cX1_stretch 5 (some .int) RX1 (Cond.code yX1_stretch cX1_stretch 5 (some .int) :: bw) D cA tS A s m args meth c) : ∀ (n : Nat) (x2 : Int32) (x3 : Int32) (x4 : Int32) (σ : Sg) (r0 : Int32) (hM : f_X1_stretch_24 N n x2 x3 x4 σ = some r0) (H : Heap) (locs : List Loc) (hw : Wd D A (wK cA h σ ++ (wLg cA h σ L ++ (wC cA h σ ++ F))) s.heap H locs) (ls : Array Slot) (hl : lv_has ls 5 [(0, .ref (h 42)), (2, .int x2), (3, .int x3), (4, .int x4)]), W p l e ({ frames := 3, cells := 0, slots := 0, locals := 65 } : Room) s m args below meth c H locs 0 0 (MQ below (QW D A (some (.int r0)) (wK cA h σ ++ (wLg cA h σ L ++ (wC cA h σ ++ F)))) args s 0 0 A) (F0 m 24 ls []) := by
  have hx := E.1.1
  have hb := E.1.2.1
  intro n
  induction n with
  | zero =>
    intro x2 x3 x4 σ r0 hM
    cases hM
  | succ n ih =>
    intro x2 x3 x4 σ r0 hM H locs hw ls hl
    rw [f_X1_stretch_24] at hM
    refine lv_iload hx hb dX1_stretch_24 (lv_at hl 3 rfl) ?_
    refine lv_aload_n hx hb dX1_stretch_26 rfl (lv_at hl 0 rfl) ?_
    refine q_get (C := RX1) (T := TX1) (N := 6) (ci := 1) E (fun w h => List.mem_cons_of_mem _ (inX1 w h)) hw 12 rfl rfl 3 (by decide) (List.mem_cons_of_mem _ tb_336) (v := .ref (h 44)) rfl dX1_stretch_27 ?_
    refine q_get (C := RX7) (T := TX7) (N := 15) (ci := 7) E (fun w h => List.mem_cons_of_mem _ (inX7 w h)) hw 16 rfl rfl 14 (by decide) (List.mem_cons_of_mem _ tb_299) (v := .int (σ 15 0)) rfl dX1_stretch_30 ?_
    refine lv_icmp_ge (tgt := 115) hx hb dX1_stretch_33 (by decide) (fun c1 => ?_) (fun c1 => ?_)
    · replace hM := i_pos hM c1
      refine lv_iconst (v := 1) hx hb dX1_stretch_115 (by decide) ?_
      refine lv_iload_n hx hb dX1_stretch_116 rfl (lv_at hl 2 rfl) ?_
      refine va_mmax hx hb (E.1.2.2.1.trans hl.1.symm) E.1.2.2.2.1 (E.1.2.2.2.2 _ (List.mem_cons_of_mem _ tb_755)) (E.1.2.2.2.2 _ (List.mem_cons_of_mem _ tb_177)) (E.1.2.2.2.2 _ (List.mem_cons_of_mem _ tb_104)) (E.1.2.2.2.2 _ (List.mem_cons_of_mem _ tb_178)) (Nat.le_of_ble_eq_true rfl) (Nat.le_of_ble_eq_true rfl) (Nat.zero_le _) (Nat.zero_le _) dX1_stretch_117 ?_
      cases hM
      exact q_reti E hw dX1_stretch_120
    · replace hM := i_neg hM c1
      refine lv_aload_n hx hb dX1_stretch_36 rfl (lv_at hl 0 rfl) ?_
      refine lv_iload hx hb dX1_stretch_37 (lv_at hl 3 rfl) ?_
      refine lv_iload_n hx hb dX1_stretch_39 rfl (lv_at hl 1 rfl) ?_
      obtain ⟨p2, h3, hM⟩ := b_some hM
      refine q_cv (As := [.int x4, .int x2]) (rest := []) E hw hl (c_X1_counts l D cA tS A h L F x4 x2 σ p2 h3) 2 (bwV bw_c tb_730 tb_732 tb_23 tb_106 tb_733) rfl (by decide +kernel) ⟨Nat.le_of_ble_eq_true rfl, Nat.le_of_ble_eq_true rfl⟩ 12 1 (T := TX1) (N := 6) rfl rfl rfl rfl (Nat.le_of_ble_eq_true rfl) ⟨Nat.zero_le _, Nat.zero_le _⟩ dX1_stretch_40 (fun H locs hw => ?_)
      refine lv_if_eq (tgt := 57) hx hb dX1_stretch_43 (by decide) (fun c4 => ?_) (fun c4 => ?_)
      · replace hM := i_pos hM c4
        exact s_X1_stretch_57 l D cA tS A h L F N (fun x2 x3 x4 σ => f_X1_stretch_24 N n x2 x3 x4 σ) E ih _ _ _ _ _ hM _ _ hw _ (lv_sub hl [0, 1, 2, 3] rfl)
      · replace hM := i_neg hM c4
        refine lv_iload_n hx hb dX1_stretch_46 rfl (lv_at hl 2 rfl) ?_
        refine lv_aload_n hx hb dX1_stretch_47 rfl (lv_at hl 0 rfl) ?_
        refine lv_iload hx hb dX1_stretch_48 (lv_at hl 3 rfl) ?_
        obtain ⟨p5, h6, hM⟩ := b_some hM
        refine q_cv (As := [.int x4]) (rest := [.int x3]) E hw hl (c_X1_minutesToClockEvent l D cA tS A h L F x4 σ p5 h6) 1 (bwV bw_c tb_734 tb_736 tb_24 tb_106 tb_737) rfl (by decide +kernel) ⟨Nat.le_of_ble_eq_true rfl, Nat.le_of_ble_eq_true rfl⟩ 12 1 (T := TX1) (N := 6) rfl rfl rfl rfl (Nat.le_of_ble_eq_true rfl) ⟨Nat.zero_le _, Nat.zero_le _⟩ dX1_stretch_50 (fun H locs hw => ?_)
        refine va_mmin hx hb (E.1.2.2.1.trans hl.1.symm) E.1.2.2.2.1 (E.1.2.2.2.2 _ (List.mem_cons_of_mem _ tb_729)) (E.1.2.2.2.2 _ (List.mem_cons_of_mem _ tb_626)) (E.1.2.2.2.2 _ (List.mem_cons_of_mem _ tb_104)) (E.1.2.2.2.2 _ (List.mem_cons_of_mem _ tb_627)) (Nat.le_of_ble_eq_true rfl) (Nat.le_of_ble_eq_true rfl) (Nat.zero_le _) (Nat.zero_le _) dX1_stretch_53 ?_
        refine lv_istore_n (lv' := [(3, .int (if p5 < x3 then p5 else x3)), (0, .ref (h 42)), (2, .int x2), (4, .int x4)]) hx hb dX1_stretch_56 rfl hl (by decide) rfl (fun ls hl => ?_)
        exact s_X1_stretch_57 l D cA tS A h L F N (fun x2 x3 x4 σ => f_X1_stretch_24 N n x2 x3 x4 σ) E ih _ _ _ _ _ hM _ _ hw _ (lv_sub hl [1, 2, 0, 3] rfl)
def f_X1_stretch (N : Nat)   (x1 : Int32) (x2 : Int32) (σ : Sg) : Option (Int32) := (f_X0_alikeUntil (σ 12 0) σ).bind (fun p1 => f_X1_stretch_24 N N x2 ((if p1 < x1 then p1 else x1) - (σ 12 0)) 0 σ)
set_option maxRecDepth 100000 in
set_option maxHeartbeats 4000000 in
theorem c_X1_stretch (l : Launch) (D : va_G) (cA : Nat → ClassId) (tS : Nat → Nat) (A : Nat → Prop) (h : Nat → Nat) (L : Nat) (F : va_W) (N : Nat) (x1 : Int32) (x2 : Int32) (σ : Sg) (r0 : Int32) (hM : f_X1_stretch N x1 x2 σ = some r0) : Ct l yX1_stretch (Cond.code yX1_stretch cX1_stretch 5 (some .int) :: bw) 3 65 D cA tS A [.ref (h 42), .int x1, .int x2] (wK cA h σ ++ (wLg cA h σ L ++ (wC cA h σ ++ F))) (some (.int r0)) (wK cA h σ ++ (wLg cA h σ L ++ (wC cA h σ ++ F))) := by
  refine ct_of (by decide +kernel) (Nat.le_of_ble_eq_true rfl) ?_
  intro p e s m below meth c E hw ls hl
  replace E : Ev p cX1_stretch 5 (some .int) RX1 (Cond.code yX1_stretch cX1_stretch 5 (some .int) :: bw) D cA tS A s m _ meth c := E
  replace hl : lv_has ls 5 [(0, .ref (h 42)), (1, .int x1), (2, .int x2)] := hl
  have hx := E.1.1
  have hb := E.1.2.1
  unfold f_X1_stretch at hM
  refine lv_iload_n hx hb dX1_stretch_0 rfl (lv_at hl 1 rfl) ?_
  refine lv_aload_n hx hb dX1_stretch_1 rfl (lv_at hl 0 rfl) ?_
  refine q_get (C := RX1) (T := TX1) (N := 6) (ci := 1) E (fun w h => List.mem_cons_of_mem _ (inX1 w h)) hw 12 rfl rfl 2 (by decide) (List.mem_cons_of_mem _ tb_334) (v := .ref (h 43)) rfl dX1_stretch_2 ?_
  refine lv_aload_n hx hb dX1_stretch_5 rfl (lv_at hl 0 rfl) ?_
  refine q_get (C := RX1) (T := TX1) (N := 6) (ci := 1) E (fun w h => List.mem_cons_of_mem _ (inX1 w h)) hw 12 rfl rfl 5 (by decide) (List.mem_cons_of_mem _ tb_340) (v := .int (σ 12 0)) rfl dX1_stretch_6 ?_
  obtain ⟨p1, h2, hM⟩ := b_some hM
  refine q_cv (As := [.int (σ 12 0)]) (rest := [.int x1]) E hw hl (c_X0_alikeUntil l D cA tS A h L F (σ 12 0) σ p1 h2) 1 (bwV bw_c tb_725 tb_726 tb_727 tb_107 tb_728) rfl (by decide +kernel) ⟨Nat.le_of_ble_eq_true rfl, Nat.le_of_ble_eq_true rfl⟩ 13 0 (T := TX0) (N := 2) rfl rfl rfl rfl (Nat.le_of_ble_eq_true rfl) ⟨Nat.zero_le _, Nat.zero_le _⟩ dX1_stretch_9 (fun H locs hw => ?_)
  refine va_mmin hx hb (E.1.2.2.1.trans hl.1.symm) E.1.2.2.2.1 (E.1.2.2.2.2 _ (List.mem_cons_of_mem _ tb_729)) (E.1.2.2.2.2 _ (List.mem_cons_of_mem _ tb_626)) (E.1.2.2.2.2 _ (List.mem_cons_of_mem _ tb_104)) (E.1.2.2.2.2 _ (List.mem_cons_of_mem _ tb_627)) (Nat.le_of_ble_eq_true rfl) (Nat.le_of_ble_eq_true rfl) (Nat.zero_le _) (Nat.zero_le _) dX1_stretch_12 ?_
  refine lv_aload_n hx hb dX1_stretch_15 rfl (lv_at hl 0 rfl) ?_
  refine q_get (C := RX1) (T := TX1) (N := 6) (ci := 1) E (fun w h => List.mem_cons_of_mem _ (inX1 w h)) hw 12 rfl rfl 5 (by decide) (List.mem_cons_of_mem _ tb_340) (v := .int (σ 12 0)) rfl dX1_stretch_16 ?_
  refine lv_isub hx hb dX1_stretch_19 ?_
  refine lv_istore_n (lv' := [(3, .int ((if p1 < x1 then p1 else x1) - (σ 12 0))), (0, .ref (h 42)), (1, .int x1), (2, .int x2)]) hx hb dX1_stretch_20 rfl hl (by decide) rfl (fun ls hl => ?_)
  refine lv_iconst (v := 0) hx hb dX1_stretch_21 (by decide) ?_
  refine lv_istore (lv' := [(4, .int 0), (3, .int ((if p1 < x1 then p1 else x1) - (σ 12 0))), (0, .ref (h 42)), (1, .int x1), (2, .int x2)]) hx hb dX1_stretch_22 hl (by decide) rfl (fun ls hl => ?_)
  exact s_X1_stretch_24 l D cA tS A h L F N E N _ _ _ _ _ hM _ _ hw _ (lv_sub hl [2, 4, 1, 0] rfl)
def f_X1_grow_responseClock  (L : Nat)  (x2 : Int32) (x3 : Int32) (x4 : Int32) (x5 : Int32) (σ : Sg) : Option (Sg) := if ib x2 60 then (if x4 < (σ 24 (ix x2)) then some (up σ 24 (ix x2) ((σ 24 (ix x2)) + x3)) else (if ((σ 24 (ix x2)) + x3) ≤ x4 then some (up σ 24 (ix x2) ((σ 24 (ix x2)) + x3)) else (f_X4_write L ((σ 12 0) + x3) x5 x2 x4 (up σ 24 (ix x2) ((σ 24 (ix x2)) + x3))).bind (fun p4 => some p4))) else none
set_option maxRecDepth 100000 in
set_option maxHeartbeats 4000000 in
theorem c_X1_grow_responseClock (l : Launch) (D : va_G) (cA : Nat → ClassId) (tS : Nat → Nat) (A : Nat → Prop) (h : Nat → Nat) (L : Nat) (F : va_W) (x2 : Int32) (x3 : Int32) (x4 : Int32) (x5 : Int32) (σ : Sg) (s0 : Sg) (hM : f_X1_grow_responseClock L x2 x3 x4 x5 σ = some s0) : Ct l yX1_grow (Cond.code yX1_grow cX1_grow 7 none :: bw) 1 24 D cA tS A [.ref (h 42), .ref (h 24), .int x2, .int x3, .int x4, .int x5] (wK cA h σ ++ (wLg cA h σ L ++ (wC cA h σ ++ F))) none (wK cA h s0 ++ (wLg cA h s0 L ++ (wC cA h s0 ++ F))) := by
  refine ct_of (by decide +kernel) (Nat.le_of_ble_eq_true rfl) ?_
  intro p e s m below meth c E hw ls hl
  replace E : Ev p cX1_grow 7 none RX1 (Cond.code yX1_grow cX1_grow 7 none :: bw) D cA tS A s m _ meth c := E
  replace hl : lv_has ls 7 [(0, .ref (h 42)), (1, .ref (h 24)), (2, .int x2), (3, .int x3), (4, .int x4), (5, .int x5)] := hl
  have hx := E.1.1
  have hb := E.1.2.1
  unfold f_X1_grow_responseClock at hM
  refine lv_aload_n hx hb dX1_grow_0 rfl (lv_at hl 1 rfl) ?_
  refine lv_iload_n hx hb dX1_grow_1 rfl (lv_at hl 2 rfl) ?_
  obtain ⟨g1, hM⟩ := g_some hM
  refine q_ald E hw 25 (n := 60) rfl g1 (x := (σ 24 (ix x2))) rfl dX1_grow_2 ?_
  refine lv_istore (lv' := [(6, .int (σ 24 (ix x2))), (0, .ref (h 42)), (1, .ref (h 24)), (2, .int x2), (3, .int x3), (4, .int x4), (5, .int x5)]) hx hb dX1_grow_3 hl (by decide) rfl (fun ls hl => ?_)
  refine lv_aload_n hx hb dX1_grow_5 rfl (lv_at hl 2 rfl) ?_
  refine lv_iload_n hx hb dX1_grow_6 rfl (lv_at hl 3 rfl) ?_
  refine lv_iload hx hb dX1_grow_7 (lv_at hl 0 rfl) ?_
  refine lv_iload_n hx hb dX1_grow_9 rfl (lv_at hl 4 rfl) ?_
  refine lv_iadd hx hb dX1_grow_10 ?_
  refine q_ast E hw 25 (n := 60) rfl g1 (wK cA h (up σ 24 (ix x2) ((σ 24 (ix x2)) + x3)) ++ (wLg cA h (up σ 24 (ix x2) ((σ 24 (ix x2)) + x3)) L ++ (wC cA h (up σ 24 (ix x2) ((σ 24 (ix x2)) + x3)) ++ F))) st_K_Lg_C_24 dX1_grow_11 (fun H locs hw => ?_)
  refine lv_iload hx hb dX1_grow_12 (lv_at hl 0 rfl) ?_
  refine lv_iload hx hb dX1_grow_14 (lv_at hl 5 rfl) ?_
  refine lv_icmp_gt (tgt := 46) hx hb dX1_grow_16 (by decide) (fun c2 => ?_) (fun c2 => ?_)
  · replace hM := i_pos hM c2
    cases hM
    exact q_retv E hw dX1_grow_46
  · replace hM := i_neg hM c2
    refine lv_iload hx hb dX1_grow_19 (lv_at hl 0 rfl) ?_
    refine lv_iload_n hx hb dX1_grow_21 rfl (lv_at hl 4 rfl) ?_
    refine lv_iadd hx hb dX1_grow_22 ?_
    refine lv_iload hx hb dX1_grow_23 (lv_at hl 5 rfl) ?_
    refine lv_icmp_le (tgt := 46) hx hb dX1_grow_25 (by decide) (fun c3 => ?_) (fun c3 => ?_)
    · replace hM := i_pos hM c3
      cases hM
      exact q_retv E hw dX1_grow_46
    · replace hM := i_neg hM c3
      refine lv_aload_n hx hb dX1_grow_28 rfl (lv_at hl 1 rfl) ?_
      refine q_get (C := RX1) (T := TX1) (N := 6) (ci := 1) E (fun w h => List.mem_cons_of_mem _ (inX1 w h)) hw 12 rfl rfl 1 (by decide) (List.mem_cons_of_mem _ tb_333) (v := .ref (h 41)) rfl dX1_grow_29 ?_
      refine lv_aload_n hx hb dX1_grow_32 rfl (lv_at hl 1 rfl) ?_
      refine q_get (C := RX1) (T := TX1) (N := 6) (ci := 1) E (fun w h => List.mem_cons_of_mem _ (inX1 w h)) hw 12 rfl rfl 5 (by decide) (List.mem_cons_of_mem _ tb_340) (v := .int (σ 12 0)) (q_fld (congrFun (up_ne σ 24 (ix x2) ((σ 24 (ix x2)) + x3) 12 (by decide)) 0) rfl) dX1_grow_33 ?_
      refine lv_iload_n hx hb dX1_grow_36 rfl (lv_at hl 4 rfl) ?_
      refine lv_iadd hx hb dX1_grow_37 ?_
      refine lv_iload hx hb dX1_grow_38 (lv_at hl 6 rfl) ?_
      refine lv_iload_n hx hb dX1_grow_40 rfl (lv_at hl 3 rfl) ?_
      refine lv_iload hx hb dX1_grow_41 (lv_at hl 5 rfl) ?_
      obtain ⟨p4, h5, hM⟩ := b_some hM
      refine q_cvv (As := [.int ((σ 12 0) + x3), .int x5, .int x2, .int x4]) (rest := []) E hw hl (c_X4_write l D cA tS A h L F ((σ 12 0) + x3) x5 x2 x4 (up σ 24 (ix x2) ((σ 24 (ix x2)) + x3)) p4 h5) 4 (bwV bw_c tb_548 tb_549 tb_550 tb_103 tb_551) rfl (by decide +kernel) ⟨Nat.le_of_ble_eq_true rfl, Nat.le_of_ble_eq_true rfl⟩ 7 4 (T := TX4) (N := 5) rfl rfl rfl rfl (Nat.le_of_ble_eq_true rfl) ⟨Nat.zero_le _, Nat.zero_le _⟩ dX1_grow_43 (fun H locs hw => ?_)
      cases hM
      exact q_retv E hw dX1_grow_46
def f_X1_grow_resolveClock  (L : Nat)  (x2 : Int32) (x3 : Int32) (x4 : Int32) (x5 : Int32) (σ : Sg) : Option (Sg) := if ib x2 60 then (if x4 < (σ 25 (ix x2)) then some (up σ 25 (ix x2) ((σ 25 (ix x2)) + x3)) else (if ((σ 25 (ix x2)) + x3) ≤ x4 then some (up σ 25 (ix x2) ((σ 25 (ix x2)) + x3)) else (f_X4_write L ((σ 12 0) + x3) x5 x2 x4 (up σ 25 (ix x2) ((σ 25 (ix x2)) + x3))).bind (fun p4 => some p4))) else none
set_option maxRecDepth 100000 in
set_option maxHeartbeats 4000000 in
theorem c_X1_grow_resolveClock (l : Launch) (D : va_G) (cA : Nat → ClassId) (tS : Nat → Nat) (A : Nat → Prop) (h : Nat → Nat) (L : Nat) (F : va_W) (x2 : Int32) (x3 : Int32) (x4 : Int32) (x5 : Int32) (σ : Sg) (s0 : Sg) (hM : f_X1_grow_resolveClock L x2 x3 x4 x5 σ = some s0) : Ct l yX1_grow (Cond.code yX1_grow cX1_grow 7 none :: bw) 1 24 D cA tS A [.ref (h 42), .ref (h 25), .int x2, .int x3, .int x4, .int x5] (wK cA h σ ++ (wLg cA h σ L ++ (wC cA h σ ++ F))) none (wK cA h s0 ++ (wLg cA h s0 L ++ (wC cA h s0 ++ F))) := by
  refine ct_of (by decide +kernel) (Nat.le_of_ble_eq_true rfl) ?_
  intro p e s m below meth c E hw ls hl
  replace E : Ev p cX1_grow 7 none RX1 (Cond.code yX1_grow cX1_grow 7 none :: bw) D cA tS A s m _ meth c := E
  replace hl : lv_has ls 7 [(0, .ref (h 42)), (1, .ref (h 25)), (2, .int x2), (3, .int x3), (4, .int x4), (5, .int x5)] := hl
  have hx := E.1.1
  have hb := E.1.2.1
  unfold f_X1_grow_resolveClock at hM
  refine lv_aload_n hx hb dX1_grow_0 rfl (lv_at hl 1 rfl) ?_
  refine lv_iload_n hx hb dX1_grow_1 rfl (lv_at hl 2 rfl) ?_
  obtain ⟨g1, hM⟩ := g_some hM
  refine q_ald E hw 26 (n := 60) rfl g1 (x := (σ 25 (ix x2))) rfl dX1_grow_2 ?_
  refine lv_istore (lv' := [(6, .int (σ 25 (ix x2))), (0, .ref (h 42)), (1, .ref (h 25)), (2, .int x2), (3, .int x3), (4, .int x4), (5, .int x5)]) hx hb dX1_grow_3 hl (by decide) rfl (fun ls hl => ?_)
  refine lv_aload_n hx hb dX1_grow_5 rfl (lv_at hl 2 rfl) ?_
  refine lv_iload_n hx hb dX1_grow_6 rfl (lv_at hl 3 rfl) ?_
  refine lv_iload hx hb dX1_grow_7 (lv_at hl 0 rfl) ?_
  refine lv_iload_n hx hb dX1_grow_9 rfl (lv_at hl 4 rfl) ?_
  refine lv_iadd hx hb dX1_grow_10 ?_
  refine q_ast E hw 26 (n := 60) rfl g1 (wK cA h (up σ 25 (ix x2) ((σ 25 (ix x2)) + x3)) ++ (wLg cA h (up σ 25 (ix x2) ((σ 25 (ix x2)) + x3)) L ++ (wC cA h (up σ 25 (ix x2) ((σ 25 (ix x2)) + x3)) ++ F))) st_K_Lg_C_25 dX1_grow_11 (fun H locs hw => ?_)
  refine lv_iload hx hb dX1_grow_12 (lv_at hl 0 rfl) ?_
  refine lv_iload hx hb dX1_grow_14 (lv_at hl 5 rfl) ?_
  refine lv_icmp_gt (tgt := 46) hx hb dX1_grow_16 (by decide) (fun c2 => ?_) (fun c2 => ?_)
  · replace hM := i_pos hM c2
    cases hM
    exact q_retv E hw dX1_grow_46
  · replace hM := i_neg hM c2
    refine lv_iload hx hb dX1_grow_19 (lv_at hl 0 rfl) ?_
    refine lv_iload_n hx hb dX1_grow_21 rfl (lv_at hl 4 rfl) ?_
    refine lv_iadd hx hb dX1_grow_22 ?_
    refine lv_iload hx hb dX1_grow_23 (lv_at hl 5 rfl) ?_
    refine lv_icmp_le (tgt := 46) hx hb dX1_grow_25 (by decide) (fun c3 => ?_) (fun c3 => ?_)
    · replace hM := i_pos hM c3
      cases hM
      exact q_retv E hw dX1_grow_46
    · replace hM := i_neg hM c3
      refine lv_aload_n hx hb dX1_grow_28 rfl (lv_at hl 1 rfl) ?_
      refine q_get (C := RX1) (T := TX1) (N := 6) (ci := 1) E (fun w h => List.mem_cons_of_mem _ (inX1 w h)) hw 12 rfl rfl 1 (by decide) (List.mem_cons_of_mem _ tb_333) (v := .ref (h 41)) rfl dX1_grow_29 ?_
      refine lv_aload_n hx hb dX1_grow_32 rfl (lv_at hl 1 rfl) ?_
      refine q_get (C := RX1) (T := TX1) (N := 6) (ci := 1) E (fun w h => List.mem_cons_of_mem _ (inX1 w h)) hw 12 rfl rfl 5 (by decide) (List.mem_cons_of_mem _ tb_340) (v := .int (σ 12 0)) (q_fld (congrFun (up_ne σ 25 (ix x2) ((σ 25 (ix x2)) + x3) 12 (by decide)) 0) rfl) dX1_grow_33 ?_
      refine lv_iload_n hx hb dX1_grow_36 rfl (lv_at hl 4 rfl) ?_
      refine lv_iadd hx hb dX1_grow_37 ?_
      refine lv_iload hx hb dX1_grow_38 (lv_at hl 6 rfl) ?_
      refine lv_iload_n hx hb dX1_grow_40 rfl (lv_at hl 3 rfl) ?_
      refine lv_iload hx hb dX1_grow_41 (lv_at hl 5 rfl) ?_
      obtain ⟨p4, h5, hM⟩ := b_some hM
      refine q_cvv (As := [.int ((σ 12 0) + x3), .int x5, .int x2, .int x4]) (rest := []) E hw hl (c_X4_write l D cA tS A h L F ((σ 12 0) + x3) x5 x2 x4 (up σ 25 (ix x2) ((σ 25 (ix x2)) + x3)) p4 h5) 4 (bwV bw_c tb_548 tb_549 tb_550 tb_103 tb_551) rfl (by decide +kernel) ⟨Nat.le_of_ble_eq_true rfl, Nat.le_of_ble_eq_true rfl⟩ 7 4 (T := TX4) (N := 5) rfl rfl rfl rfl (Nat.le_of_ble_eq_true rfl) ⟨Nat.zero_le _, Nat.zero_le _⟩ dX1_grow_43 (fun H locs hw => ?_)
      cases hM
      exact q_retv E hw dX1_grow_46
def f_X1_growClocks_108 (N : Nat) (L : Nat) (k2 : Int32 → Int32 → Int32 → Sg → Option (Sg)) (x1 : Int32) (x2 : Int32) (x3 : Int32) (σ : Sg) : Option (Sg) := if ib x3 60 then (if (σ 21 (ix x3)) = 0 then k2 x1 x2 (x3 + 1) (up σ 23 (ix x3) ((σ 23 (ix x3)) + x1)) else k2 x1 x2 (x3 + 1) σ) else none
set_option maxRecDepth 100000 in
set_option maxHeartbeats 4000000 in
theorem s_X1_growClocks_108 (l : Launch) (D : va_G) (cA : Nat → ClassId) (tS : Nat → Nat) (A : Nat → Prop) (h : Nat → Nat) (L : Nat) (F : va_W) (N : Nat) (k2 : Int32 → Int32 → Int32 → Sg → Option (Sg)) {p : Program} {e : Env} {s : State} {m : MethodId} {args : Array Value} {below : List Frame} {meth : Method} {c : Code} (E : Ev p cX1_growClocks 5 none RX1 (Cond.code yX1_growClocks cX1_growClocks 5 none :: bw) D cA tS A s m args meth c) (hk2 : ∀ (x1 : Int32) (x2 : Int32) (x3 : Int32) (σ : Sg) (s0 : Sg) (hM : k2 x1 x2 x3 σ = some s0) (H : Heap) (locs : List Loc) (hw : Wd D A (wK cA h σ ++ (wLg cA h σ L ++ (wC cA h σ ++ F))) s.heap H locs) (ls : Array Slot) (hl : lv_has ls 5 [(0, .ref (h 42)), (1, .int x1), (2, .int x2), (3, .int x3)]), W p l e ({ frames := 2, cells := 0, slots := 0, locals := 50 } : Room) s m args below meth c H locs 0 0 (MQ below (QW D A none (wK cA h s0 ++ (wLg cA h s0 L ++ (wC cA h s0 ++ F)))) args s 0 0 A) (F0 m 2 ls [])) : ∀ (x1 : Int32) (x2 : Int32) (x3 : Int32) (σ : Sg) (s0 : Sg) (hM : f_X1_growClocks_108 N L k2 x1 x2 x3 σ = some s0) (H : Heap) (locs : List Loc) (hw : Wd D A (wK cA h σ ++ (wLg cA h σ L ++ (wC cA h σ ++ F))) s.heap H locs) (ls : Array Slot) (hl : lv_has ls 5 [(0, .ref (h 42)), (1, .int x1), (2, .int x2), (3, .int x3)]), W p l e ({ frames := 2, cells := 0, slots := 0, locals := 50 } : Room) s m args below meth c H locs 0 0 (MQ below (QW D A none (wK cA h s0 ++ (wLg cA h s0 L ++ (wC cA h s0 ++ F)))) args s 0 0 A) (F0 m 108 ls []) := by
  have hx := E.1.1
  have hb := E.1.2.1
  intro x1 x2 x3 σ s0 hM H locs hw ls hl
  unfold f_X1_growClocks_108 at hM
  refine lv_aload_n hx hb dX1_growClocks_108 rfl (lv_at hl 0 rfl) ?_
  refine q_get (C := RX1) (T := TX1) (N := 6) (ci := 1) E (fun w h => List.mem_cons_of_mem _ (inX1 w h)) hw 12 rfl rfl 3 (by decide) (List.mem_cons_of_mem _ tb_336) (v := .ref (h 44)) rfl dX1_growClocks_109 ?_
  refine q_get (C := RX7) (T := TX7) (N := 15) (ci := 7) E (fun w h => List.mem_cons_of_mem _ (inX7 w h)) hw 16 rfl rfl 5 (by decide) (List.mem_cons_of_mem _ tb_274) (v := .ref (h 21)) rfl dX1_growClocks_112 ?_
  refine lv_iload_n hx hb dX1_growClocks_115 rfl (lv_at hl 3 rfl) ?_
  obtain ⟨g1, hM⟩ := g_some hM
  refine q_ald E hw 22 (n := 60) rfl g1 (x := (σ 21 (ix x3))) rfl dX1_growClocks_116 ?_
  refine lv_if_ne (tgt := 133) hx hb dX1_growClocks_117 (by decide) (fun c2 => ?_) (fun c2 => ?_)
  · replace hM := i_neg hM c2
    refine lv_iinc (v := (x3 + 1)) (lv' := [(3, .int (x3 + 1)), (0, .ref (h 42)), (1, .int x1), (2, .int x2)]) hx hb dX1_growClocks_133 hl (k := 3) rfl rfl (by decide) rfl (fun ls hl => ?_)
    refine lv_goto (tgt := 2) hx hb dX1_growClocks_136 (by decide) ?_
    exact hk2 _ _ _ _ _ hM _ _ hw _ (lv_sub hl [1, 2, 3, 0] rfl)
  · replace hM := i_pos hM c2
    refine lv_aload_n hx hb dX1_growClocks_120 rfl (lv_at hl 0 rfl) ?_
    refine q_get (C := RX1) (T := TX1) (N := 6) (ci := 1) E (fun w h => List.mem_cons_of_mem _ (inX1 w h)) hw 12 rfl rfl 3 (by decide) (List.mem_cons_of_mem _ tb_336) (v := .ref (h 44)) rfl dX1_growClocks_121 ?_
    refine q_get (C := RX7) (T := TX7) (N := 15) (ci := 7) E (fun w h => List.mem_cons_of_mem _ (inX7 w h)) hw 16 rfl rfl 7 (by decide) (List.mem_cons_of_mem _ tb_280) (v := .ref (h 23)) rfl dX1_growClocks_124 ?_
    refine lv_iload_n hx hb dX1_growClocks_127 rfl (lv_at hl 3 rfl) ?_
    refine lv_dup2_11 hx hb dX1_growClocks_128 rfl rfl ?_
    refine q_ald E hw 24 (n := 60) rfl g1 (x := (σ 23 (ix x3))) rfl dX1_growClocks_129 ?_
    refine lv_iload_n hx hb dX1_growClocks_130 rfl (lv_at hl 1 rfl) ?_
    refine lv_iadd hx hb dX1_growClocks_131 ?_
    refine q_ast E hw 24 (n := 60) rfl g1 (wK cA h (up σ 23 (ix x3) ((σ 23 (ix x3)) + x1)) ++ (wLg cA h (up σ 23 (ix x3) ((σ 23 (ix x3)) + x1)) L ++ (wC cA h (up σ 23 (ix x3) ((σ 23 (ix x3)) + x1)) ++ F))) st_K_Lg_C_23 dX1_growClocks_132 (fun H locs hw => ?_)
    refine lv_iinc (v := (x3 + 1)) (lv' := [(3, .int (x3 + 1)), (0, .ref (h 42)), (1, .int x1), (2, .int x2)]) hx hb dX1_growClocks_133 hl (k := 3) rfl rfl (by decide) rfl (fun ls hl => ?_)
    refine lv_goto (tgt := 2) hx hb dX1_growClocks_136 (by decide) ?_
    exact hk2 _ _ _ _ _ hM _ _ hw _ (lv_sub hl [1, 2, 3, 0] rfl)
def f_X1_growClocks_72 (N : Nat) (L : Nat) (k2 : Int32 → Int32 → Int32 → Sg → Option (Sg)) (x1 : Int32) (x2 : Int32) (x3 : Int32) (x4 : Int32) (σ : Sg) : Option (Sg) := (f_X7_resolveRuns x3 σ).bind (fun p1 => (if p1 = 0 then f_X1_growClocks_108 N L k2 x1 x2 x3 σ else if ib x4 6 then (f_X1_grow_resolveClock L x3 x1 (σ 2 (ix x4)) 9 σ).bind (fun p5 => f_X1_growClocks_108 N L k2 x1 x2 x3 p5) else none))
set_option maxRecDepth 100000 in
set_option maxHeartbeats 4000000 in
theorem s_X1_growClocks_72 (l : Launch) (D : va_G) (cA : Nat → ClassId) (tS : Nat → Nat) (A : Nat → Prop) (h : Nat → Nat) (L : Nat) (F : va_W) (N : Nat) (k2 : Int32 → Int32 → Int32 → Sg → Option (Sg)) {p : Program} {e : Env} {s : State} {m : MethodId} {args : Array Value} {below : List Frame} {meth : Method} {c : Code} (E : Ev p cX1_growClocks 5 none RX1 (Cond.code yX1_growClocks cX1_growClocks 5 none :: bw) D cA tS A s m args meth c) (hk2 : ∀ (x1 : Int32) (x2 : Int32) (x3 : Int32) (σ : Sg) (s0 : Sg) (hM : k2 x1 x2 x3 σ = some s0) (H : Heap) (locs : List Loc) (hw : Wd D A (wK cA h σ ++ (wLg cA h σ L ++ (wC cA h σ ++ F))) s.heap H locs) (ls : Array Slot) (hl : lv_has ls 5 [(0, .ref (h 42)), (1, .int x1), (2, .int x2), (3, .int x3)]), W p l e ({ frames := 2, cells := 0, slots := 0, locals := 50 } : Room) s m args below meth c H locs 0 0 (MQ below (QW D A none (wK cA h s0 ++ (wLg cA h s0 L ++ (wC cA h s0 ++ F)))) args s 0 0 A) (F0 m 2 ls [])) : ∀ (x1 : Int32) (x2 : Int32) (x3 : Int32) (x4 : Int32) (σ : Sg) (s0 : Sg) (hM : f_X1_growClocks_72 N L k2 x1 x2 x3 x4 σ = some s0) (H : Heap) (locs : List Loc) (hw : Wd D A (wK cA h σ ++ (wLg cA h σ L ++ (wC cA h σ ++ F))) s.heap H locs) (ls : Array Slot) (hl : lv_has ls 5 [(0, .ref (h 42)), (1, .int x1), (2, .int x2), (3, .int x3), (4, .int x4)]), W p l e ({ frames := 2, cells := 0, slots := 0, locals := 50 } : Room) s m args below meth c H locs 0 0 (MQ below (QW D A none (wK cA h s0 ++ (wLg cA h s0 L ++ (wC cA h s0 ++ F)))) args s 0 0 A) (F0 m 72 ls []) := by
  have hx := E.1.1
  have hb := E.1.2.1
  intro x1 x2 x3 x4 σ s0 hM H locs hw ls hl
  unfold f_X1_growClocks_72 at hM
  refine lv_aload_n hx hb dX1_growClocks_72 rfl (lv_at hl 0 rfl) ?_
  refine q_get (C := RX1) (T := TX1) (N := 6) (ci := 1) E (fun w h => List.mem_cons_of_mem _ (inX1 w h)) hw 12 rfl rfl 3 (by decide) (List.mem_cons_of_mem _ tb_336) (v := .ref (h 44)) rfl dX1_growClocks_73 ?_
  refine lv_iload_n hx hb dX1_growClocks_76 rfl (lv_at hl 3 rfl) ?_
  obtain ⟨p1, h2, hM⟩ := b_some hM
  refine q_cv (As := [.int x3]) (rest := []) E hw hl (c_X7_resolveRuns l D cA tS A h L F x3 σ p1 h2) 1 (bwV bw_c tb_747 tb_748 tb_749 tb_108 tb_750) rfl (by decide +kernel) ⟨Nat.le_of_ble_eq_true rfl, Nat.le_of_ble_eq_true rfl⟩ 16 7 (T := TX7) (N := 15) rfl rfl rfl rfl (Nat.le_of_ble_eq_true rfl) ⟨Nat.zero_le _, Nat.zero_le _⟩ dX1_growClocks_77 (fun H locs hw => ?_)
  refine lv_if_eq (tgt := 108) hx hb dX1_growClocks_80 (by decide) (fun c3 => ?_) (fun c3 => ?_)
  · replace hM := i_pos hM c3
    exact s_X1_growClocks_108 l D cA tS A h L F N k2 E hk2 _ _ _ _ _ hM _ _ hw _ (lv_sub hl [0, 1, 2, 3] rfl)
  · replace hM := i_neg hM c3
    refine lv_aload_n hx hb dX1_growClocks_83 rfl (lv_at hl 0 rfl) ?_
    refine lv_aload_n hx hb dX1_growClocks_84 rfl (lv_at hl 0 rfl) ?_
    refine q_get (C := RX1) (T := TX1) (N := 6) (ci := 1) E (fun w h => List.mem_cons_of_mem _ (inX1 w h)) hw 12 rfl rfl 3 (by decide) (List.mem_cons_of_mem _ tb_336) (v := .ref (h 44)) rfl dX1_growClocks_85 ?_
    refine q_get (C := RX7) (T := TX7) (N := 15) (ci := 7) E (fun w h => List.mem_cons_of_mem _ (inX7 w h)) hw 16 rfl rfl 9 (by decide) (List.mem_cons_of_mem _ tb_285) (v := .ref (h 25)) rfl dX1_growClocks_88 ?_
    refine lv_iload_n hx hb dX1_growClocks_91 rfl (lv_at hl 3 rfl) ?_
    refine lv_iload_n hx hb dX1_growClocks_92 rfl (lv_at hl 1 rfl) ?_
    refine lv_aload_n hx hb dX1_growClocks_93 rfl (lv_at hl 0 rfl) ?_
    refine q_get (C := RX1) (T := TX1) (N := 6) (ci := 1) E (fun w h => List.mem_cons_of_mem _ (inX1 w h)) hw 12 rfl rfl 0 (by decide) (List.mem_cons_of_mem _ tb_332) (v := .ref (h 40)) rfl dX1_growClocks_94 ?_
    refine q_get (C := RX3) (T := TX3) (N := 7) (ci := 3) E (fun w h => List.mem_cons_of_mem _ (inX3 w h)) hw 0 rfl rfl 1 (by decide) (List.mem_cons_of_mem _ tb_141) (v := .ref (h 2)) rfl dX1_growClocks_97 ?_
    refine lv_iload hx hb dX1_growClocks_100 (lv_at hl 4 rfl) ?_
    obtain ⟨g4, hM⟩ := g_some hM
    refine q_ald E hw 2 (n := 6) rfl g4 (x := (σ 2 (ix x4))) rfl dX1_growClocks_102 ?_
    refine lv_bipush (v := 9) hx hb dX1_growClocks_103 (by decide) ?_
    obtain ⟨p5, h6, hM⟩ := b_some hM
    refine q_cvv (As := [.ref (h 25), .int x3, .int x1, .int (σ 2 (ix x4)), .int 9]) (rest := []) E hw hl (c_X1_grow_resolveClock l D cA tS A h L F x3 x1 (σ 2 (ix x4)) 9 σ p5 h6) 5 (bwV bw_c tb_760 tb_762 tb_27 tb_106 tb_763) rfl (by decide +kernel) ⟨Nat.le_of_ble_eq_true rfl, Nat.le_of_ble_eq_true rfl⟩ 12 1 (T := TX1) (N := 6) rfl rfl rfl rfl (Nat.le_of_ble_eq_true rfl) ⟨Nat.zero_le _, Nat.zero_le _⟩ dX1_growClocks_105 (fun H locs hw => ?_)
    exact s_X1_growClocks_108 l D cA tS A h L F N k2 E hk2 _ _ _ _ _ hM _ _ hw _ (lv_sub hl [0, 1, 2, 3] rfl)
def f_X1_growClocks_2 (N : Nat) (L : Nat)  : Nat → Int32 → Int32 → Int32 → Sg → Option (Sg)
  | 0, _, _, _, _ => none
  | n + 1, x1, x2, x3, σ => (if (σ 15 0) ≤ x3 then some σ else (f_X1_counts x3 x2 σ).bind (fun p2 => (if p2 = 0 then f_X1_growClocks_2 N L n x1 x2 (x3 + 1) σ else if ib x3 60 then (f_X7_responseRuns x3 σ).bind (fun p6 => (if p6 = 0 then f_X1_growClocks_72 N L (fun x1 x2 x3 σ => f_X1_growClocks_2 N L n x1 x2 x3 σ) x1 x2 x3 (σ 16 (ix x3)) σ else if ib (σ 16 (ix x3)) 6 then (f_X1_grow_responseClock L x3 x1 (σ 1 (ix (σ 16 (ix x3)))) 8 σ).bind (fun p10 => f_X1_growClocks_72 N L (fun x1 x2 x3 σ => f_X1_growClocks_2 N L n x1 x2 x3 σ) x1 x2 x3 (σ 16 (ix x3)) p10) else none)) else none)))
set_option maxRecDepth 100000 in
set_option maxHeartbeats 4000000 in
theorem s_X1_growClocks_2 (l : Launch) (D : va_G) (cA : Nat → ClassId) (tS : Nat → Nat) (A : Nat → Prop) (h : Nat → Nat) (L : Nat) (F : va_W) (N : Nat) {p : Program} {e : Env} {s : State} {m : MethodId} {args : Array Value} {below : List Frame} {meth : Method} {c : Code} (E : Ev p cX1_growClocks 5 none RX1 (Cond.code yX1_growClocks cX1_growClocks 5 none :: bw) D cA tS A s m args meth c) : ∀ (n : Nat) (x1 : Int32) (x2 : Int32) (x3 : Int32) (σ : Sg) (s0 : Sg) (hM : f_X1_growClocks_2 N L n x1 x2 x3 σ = some s0) (H : Heap) (locs : List Loc) (hw : Wd D A (wK cA h σ ++ (wLg cA h σ L ++ (wC cA h σ ++ F))) s.heap H locs) (ls : Array Slot) (hl : lv_has ls 5 [(0, .ref (h 42)), (1, .int x1), (2, .int x2), (3, .int x3)]), W p l e ({ frames := 2, cells := 0, slots := 0, locals := 50 } : Room) s m args below meth c H locs 0 0 (MQ below (QW D A none (wK cA h s0 ++ (wLg cA h s0 L ++ (wC cA h s0 ++ F)))) args s 0 0 A) (F0 m 2 ls []) := by
  have hx := E.1.1
  have hb := E.1.2.1
  intro n
  induction n with
  | zero =>
    intro x1 x2 x3 σ s0 hM
    cases hM
  | succ n ih =>
    intro x1 x2 x3 σ s0 hM H locs hw ls hl
    rw [f_X1_growClocks_2] at hM
    refine lv_iload_n hx hb dX1_growClocks_2 rfl (lv_at hl 3 rfl) ?_
    refine lv_aload_n hx hb dX1_growClocks_3 rfl (lv_at hl 0 rfl) ?_
    refine q_get (C := RX1) (T := TX1) (N := 6) (ci := 1) E (fun w h => List.mem_cons_of_mem _ (inX1 w h)) hw 12 rfl rfl 3 (by decide) (List.mem_cons_of_mem _ tb_336) (v := .ref (h 44)) rfl dX1_growClocks_4 ?_
    refine q_get (C := RX7) (T := TX7) (N := 15) (ci := 7) E (fun w h => List.mem_cons_of_mem _ (inX7 w h)) hw 16 rfl rfl 14 (by decide) (List.mem_cons_of_mem _ tb_299) (v := .int (σ 15 0)) rfl dX1_growClocks_7 ?_
    refine lv_icmp_ge (tgt := 139) hx hb dX1_growClocks_10 (by decide) (fun c1 => ?_) (fun c1 => ?_)
    · replace hM := i_pos hM c1
      cases hM
      exact q_retv E hw dX1_growClocks_139
    · replace hM := i_neg hM c1
      refine lv_aload_n hx hb dX1_growClocks_13 rfl (lv_at hl 0 rfl) ?_
      refine lv_iload_n hx hb dX1_growClocks_14 rfl (lv_at hl 3 rfl) ?_
      refine lv_iload_n hx hb dX1_growClocks_15 rfl (lv_at hl 2 rfl) ?_
      obtain ⟨p2, h3, hM⟩ := b_some hM
      refine q_cv (As := [.int x3, .int x2]) (rest := []) E hw hl (c_X1_counts l D cA tS A h L F x3 x2 σ p2 h3) 2 (bwV bw_c tb_730 tb_732 tb_23 tb_106 tb_733) rfl (by decide +kernel) ⟨Nat.le_of_ble_eq_true rfl, Nat.le_of_ble_eq_true rfl⟩ 12 1 (T := TX1) (N := 6) rfl rfl rfl rfl (Nat.le_of_ble_eq_true rfl) ⟨Nat.zero_le _, Nat.zero_le _⟩ dX1_growClocks_16 (fun H locs hw => ?_)
      refine lv_if_ne (tgt := 25) hx hb dX1_growClocks_19 (by decide) (fun c4 => ?_) (fun c4 => ?_)
      · replace hM := i_neg hM c4
        refine lv_aload_n hx hb dX1_growClocks_25 rfl (lv_at hl 0 rfl) ?_
        refine q_get (C := RX1) (T := TX1) (N := 6) (ci := 1) E (fun w h => List.mem_cons_of_mem _ (inX1 w h)) hw 12 rfl rfl 3 (by decide) (List.mem_cons_of_mem _ tb_336) (v := .ref (h 44)) rfl dX1_growClocks_26 ?_
        refine q_get (C := RX7) (T := TX7) (N := 15) (ci := 7) E (fun w h => List.mem_cons_of_mem _ (inX7 w h)) hw 16 rfl rfl 0 (by decide) (List.mem_cons_of_mem _ tb_264) (v := .ref (h 16)) rfl dX1_growClocks_29 ?_
        refine lv_iload_n hx hb dX1_growClocks_32 rfl (lv_at hl 3 rfl) ?_
        obtain ⟨g5, hM⟩ := g_some hM
        refine q_ald E hw 17 (n := 60) rfl g5 (x := (σ 16 (ix x3))) rfl dX1_growClocks_33 ?_
        refine lv_istore (lv' := [(4, .int (σ 16 (ix x3))), (0, .ref (h 42)), (1, .int x1), (2, .int x2), (3, .int x3)]) hx hb dX1_growClocks_34 hl (by decide) rfl (fun ls hl => ?_)
        refine lv_aload_n hx hb dX1_growClocks_36 rfl (lv_at hl 1 rfl) ?_
        refine q_get (C := RX1) (T := TX1) (N := 6) (ci := 1) E (fun w h => List.mem_cons_of_mem _ (inX1 w h)) hw 12 rfl rfl 3 (by decide) (List.mem_cons_of_mem _ tb_336) (v := .ref (h 44)) rfl dX1_growClocks_37 ?_
        refine lv_iload_n hx hb dX1_growClocks_40 rfl (lv_at hl 4 rfl) ?_
        obtain ⟨p6, h7, hM⟩ := b_some hM
        refine q_cv (As := [.int x3]) (rest := []) E hw hl (c_X7_responseRuns l D cA tS A h L F x3 σ p6 h7) 1 (bwV bw_c tb_738 tb_739 tb_740 tb_108 tb_741) rfl (by decide +kernel) ⟨Nat.le_of_ble_eq_true rfl, Nat.le_of_ble_eq_true rfl⟩ 16 7 (T := TX7) (N := 15) rfl rfl rfl rfl (Nat.le_of_ble_eq_true rfl) ⟨Nat.zero_le _, Nat.zero_le _⟩ dX1_growClocks_41 (fun H locs hw => ?_)
        refine lv_if_eq (tgt := 72) hx hb dX1_growClocks_44 (by decide) (fun c8 => ?_) (fun c8 => ?_)
        · replace hM := i_pos hM c8
          exact s_X1_growClocks_72 l D cA tS A h L F N (fun x1 x2 x3 σ => f_X1_growClocks_2 N L n x1 x2 x3 σ) E ih _ _ _ _ _ _ hM _ _ hw _ (lv_sub hl [1, 2, 3, 4, 0] rfl)
        · replace hM := i_neg hM c8
          refine lv_aload_n hx hb dX1_growClocks_47 rfl (lv_at hl 1 rfl) ?_
          refine lv_aload_n hx hb dX1_growClocks_48 rfl (lv_at hl 1 rfl) ?_
          refine q_get (C := RX1) (T := TX1) (N := 6) (ci := 1) E (fun w h => List.mem_cons_of_mem _ (inX1 w h)) hw 12 rfl rfl 3 (by decide) (List.mem_cons_of_mem _ tb_336) (v := .ref (h 44)) rfl dX1_growClocks_49 ?_
          refine q_get (C := RX7) (T := TX7) (N := 15) (ci := 7) E (fun w h => List.mem_cons_of_mem _ (inX7 w h)) hw 16 rfl rfl 8 (by decide) (List.mem_cons_of_mem _ tb_282) (v := .ref (h 24)) rfl dX1_growClocks_52 ?_
          refine lv_iload_n hx hb dX1_growClocks_55 rfl (lv_at hl 4 rfl) ?_
          refine lv_iload_n hx hb dX1_growClocks_56 rfl (lv_at hl 2 rfl) ?_
          refine lv_aload_n hx hb dX1_growClocks_57 rfl (lv_at hl 1 rfl) ?_
          refine q_get (C := RX1) (T := TX1) (N := 6) (ci := 1) E (fun w h => List.mem_cons_of_mem _ (inX1 w h)) hw 12 rfl rfl 0 (by decide) (List.mem_cons_of_mem _ tb_332) (v := .ref (h 40)) rfl dX1_growClocks_58 ?_
          refine q_get (C := RX3) (T := TX3) (N := 7) (ci := 3) E (fun w h => List.mem_cons_of_mem _ (inX3 w h)) hw 0 rfl rfl 0 (by decide) (List.mem_cons_of_mem _ tb_139) (v := .ref (h 1)) rfl dX1_growClocks_61 ?_
          refine lv_iload hx hb dX1_growClocks_64 (lv_at hl 0 rfl) ?_
          obtain ⟨g9, hM⟩ := g_some hM
          refine q_ald E hw 1 (n := 6) rfl g9 (x := (σ 1 (ix (σ 16 (ix x3))))) rfl dX1_growClocks_66 ?_
          refine lv_bipush (v := 8) hx hb dX1_growClocks_67 (by decide) ?_
          obtain ⟨p10, h11, hM⟩ := b_some hM
          refine q_cvv (As := [.ref (h 24), .int x3, .int x1, .int (σ 1 (ix (σ 16 (ix x3)))), .int 8]) (rest := []) E hw hl (c_X1_grow_responseClock l D cA tS A h L F x3 x1 (σ 1 (ix (σ 16 (ix x3)))) 8 σ p10 h11) 5 (bwV bw_c tb_760 tb_762 tb_27 tb_106 tb_763) rfl (by decide +kernel) ⟨Nat.le_of_ble_eq_true rfl, Nat.le_of_ble_eq_true rfl⟩ 12 1 (T := TX1) (N := 6) rfl rfl rfl rfl (Nat.le_of_ble_eq_true rfl) ⟨Nat.zero_le _, Nat.zero_le _⟩ dX1_growClocks_69 (fun H locs hw => ?_)
          exact s_X1_growClocks_72 l D cA tS A h L F N (fun x1 x2 x3 σ => f_X1_growClocks_2 N L n x1 x2 x3 σ) E ih _ _ _ _ _ _ hM _ _ hw _ (lv_sub hl [1, 2, 3, 4, 0] rfl)
      · replace hM := i_pos hM c4
        refine lv_goto (tgt := 133) hx hb dX1_growClocks_22 (by decide) ?_
        refine lv_iinc (v := (x3 + 1)) (lv' := [(3, .int (x3 + 1)), (0, .ref (h 42)), (1, .int x1), (2, .int x2)]) hx hb dX1_growClocks_133 hl (k := 3) rfl rfl (by decide) rfl (fun ls hl => ?_)
        refine lv_goto (tgt := 2) hx hb dX1_growClocks_136 (by decide) ?_
        exact ih _ _ _ _ _ hM _ _ hw _ (lv_sub hl [1, 2, 3, 0] rfl)
def f_X1_growClocks (N : Nat) (L : Nat)  (x1 : Int32) (x2 : Int32) (σ : Sg) : Option (Sg) := f_X1_growClocks_2 N L N x1 x2 0 σ
set_option maxRecDepth 100000 in
set_option maxHeartbeats 4000000 in
theorem c_X1_growClocks (l : Launch) (D : va_G) (cA : Nat → ClassId) (tS : Nat → Nat) (A : Nat → Prop) (h : Nat → Nat) (L : Nat) (F : va_W) (N : Nat) (x1 : Int32) (x2 : Int32) (σ : Sg) (s0 : Sg) (hM : f_X1_growClocks N L x1 x2 σ = some s0) : Ct l yX1_growClocks (Cond.code yX1_growClocks cX1_growClocks 5 none :: bw) 2 50 D cA tS A [.ref (h 42), .int x1, .int x2] (wK cA h σ ++ (wLg cA h σ L ++ (wC cA h σ ++ F))) none (wK cA h s0 ++ (wLg cA h s0 L ++ (wC cA h s0 ++ F))) := by
  refine ct_of (by decide +kernel) (Nat.le_of_ble_eq_true rfl) ?_
  intro p e s m below meth c E hw ls hl
  replace E : Ev p cX1_growClocks 5 none RX1 (Cond.code yX1_growClocks cX1_growClocks 5 none :: bw) D cA tS A s m _ meth c := E
  replace hl : lv_has ls 5 [(0, .ref (h 42)), (1, .int x1), (2, .int x2)] := hl
  have hx := E.1.1
  have hb := E.1.2.1
  unfold f_X1_growClocks at hM
  refine lv_iconst (v := 0) hx hb dX1_growClocks_0 (by decide) ?_
  refine lv_istore_n (lv' := [(3, .int 0), (0, .ref (h 42)), (1, .int x1), (2, .int x2)]) hx hb dX1_growClocks_1 rfl hl (by decide) rfl (fun ls hl => ?_)
  exact s_X1_growClocks_2 l D cA tS A h L F N E N _ _ _ _ _ hM _ _ hw _ (lv_sub hl [1, 2, 3, 0] rfl)
def f_X1_work_2 (N : Nat) (L : Nat)  : Nat → Int32 → Int32 → Sg → Option (Sg)
  | 0, _, _, _ => none
  | n + 1, x1, x2, σ => (if (σ 15 0) ≤ x2 then some σ else if ib x2 60 then (if (σ 21 (ix x2)) = 1 then if ib (σ 16 (ix x2)) 6 then (if (σ 3 (ix (σ 16 (ix x2)))) ≤ ((up σ 22 (ix x2) ((σ 22 (ix x2)) + x1)) 22 (ix x2)) then (if (σ 20 (ix x2)) < (σ 4 (ix (σ 16 (ix x2)))) then (f_X1_raise L x2 ((σ 12 0) + x1) (up σ 22 (ix x2) ((σ 22 (ix x2)) + x1))).bind (fun p7 => f_X1_work_2 N L n x1 (x2 + 1) p7.2) else (f_X1_finish N L x2 ((σ 12 0) + x1) (up σ 22 (ix x2) ((σ 22 (ix x2)) + x1))).bind (fun p9 => f_X1_work_2 N L n x1 (x2 + 1) p9.2)) else f_X1_work_2 N L n x1 (x2 + 1) (up σ 22 (ix x2) ((σ 22 (ix x2)) + x1))) else none else f_X1_work_2 N L n x1 (x2 + 1) σ) else none)
set_option maxRecDepth 100000 in
set_option maxHeartbeats 4000000 in
theorem s_X1_work_2 (l : Launch) (D : va_G) (cA : Nat → ClassId) (tS : Nat → Nat) (A : Nat → Prop) (h : Nat → Nat) (L : Nat) (F : va_W) (N : Nat) {p : Program} {e : Env} {s : State} {m : MethodId} {args : Array Value} {below : List Frame} {meth : Method} {c : Code} (E : Ev p cX1_work 4 none RX1 (Cond.code yX1_work cX1_work 4 none :: bw) D cA tS A s m args meth c) : ∀ (n : Nat) (x1 : Int32) (x2 : Int32) (σ : Sg) (s0 : Sg) (hM : f_X1_work_2 N L n x1 x2 σ = some s0) (H : Heap) (locs : List Loc) (hw : Wd D A (wK cA h σ ++ (wLg cA h σ L ++ (wC cA h σ ++ F))) s.heap H locs) (ls : Array Slot) (hl : lv_has ls 4 [(0, .ref (h 42)), (1, .int x1), (2, .int x2)]), W p l e ({ frames := 3, cells := 0, slots := 0, locals := 70 } : Room) s m args below meth c H locs 0 0 (MQ below (QW D A none (wK cA h s0 ++ (wLg cA h s0 L ++ (wC cA h s0 ++ F)))) args s 0 0 A) (F0 m 2 ls []) := by
  have hx := E.1.1
  have hb := E.1.2.1
  intro n
  induction n with
  | zero =>
    intro x1 x2 σ s0 hM
    cases hM
  | succ n ih =>
    intro x1 x2 σ s0 hM H locs hw ls hl
    rw [f_X1_work_2] at hM
    refine lv_iload_n hx hb dX1_work_2 rfl (lv_at hl 2 rfl) ?_
    refine lv_aload_n hx hb dX1_work_3 rfl (lv_at hl 0 rfl) ?_
    refine q_get (C := RX1) (T := TX1) (N := 6) (ci := 1) E (fun w h => List.mem_cons_of_mem _ (inX1 w h)) hw 12 rfl rfl 3 (by decide) (List.mem_cons_of_mem _ tb_336) (v := .ref (h 44)) rfl dX1_work_4 ?_
    refine q_get (C := RX7) (T := TX7) (N := 15) (ci := 7) E (fun w h => List.mem_cons_of_mem _ (inX7 w h)) hw 16 rfl rfl 14 (by decide) (List.mem_cons_of_mem _ tb_299) (v := .int (σ 15 0)) rfl dX1_work_7 ?_
    refine lv_icmp_ge (tgt := 130) hx hb dX1_work_10 (by decide) (fun c1 => ?_) (fun c1 => ?_)
    · replace hM := i_pos hM c1
      cases hM
      exact q_retv E hw dX1_work_130
    · replace hM := i_neg hM c1
      refine lv_aload_n hx hb dX1_work_13 rfl (lv_at hl 0 rfl) ?_
      refine q_get (C := RX1) (T := TX1) (N := 6) (ci := 1) E (fun w h => List.mem_cons_of_mem _ (inX1 w h)) hw 12 rfl rfl 3 (by decide) (List.mem_cons_of_mem _ tb_336) (v := .ref (h 44)) rfl dX1_work_14 ?_
      refine q_get (C := RX7) (T := TX7) (N := 15) (ci := 7) E (fun w h => List.mem_cons_of_mem _ (inX7 w h)) hw 16 rfl rfl 5 (by decide) (List.mem_cons_of_mem _ tb_274) (v := .ref (h 21)) rfl dX1_work_17 ?_
      refine lv_iload_n hx hb dX1_work_20 rfl (lv_at hl 2 rfl) ?_
      obtain ⟨g2, hM⟩ := g_some hM
      refine q_ald E hw 22 (n := 60) rfl g2 (x := (σ 21 (ix x2))) rfl dX1_work_21 ?_
      refine lv_iconst (v := 1) hx hb dX1_work_22 (by decide) ?_
      refine lv_icmp_eq (tgt := 29) hx hb dX1_work_23 (by decide) (fun c3 => ?_) (fun c3 => ?_)
      · replace hM := i_pos hM c3
        refine lv_aload_n hx hb dX1_work_29 rfl (lv_at hl 0 rfl) ?_
        refine q_get (C := RX1) (T := TX1) (N := 6) (ci := 1) E (fun w h => List.mem_cons_of_mem _ (inX1 w h)) hw 12 rfl rfl 3 (by decide) (List.mem_cons_of_mem _ tb_336) (v := .ref (h 44)) rfl dX1_work_30 ?_
        refine q_get (C := RX7) (T := TX7) (N := 15) (ci := 7) E (fun w h => List.mem_cons_of_mem _ (inX7 w h)) hw 16 rfl rfl 0 (by decide) (List.mem_cons_of_mem _ tb_264) (v := .ref (h 16)) rfl dX1_work_33 ?_
        refine lv_iload_n hx hb dX1_work_36 rfl (lv_at hl 2 rfl) ?_
        refine q_ald E hw 17 (n := 60) rfl g2 (x := (σ 16 (ix x2))) rfl dX1_work_37 ?_
        refine lv_istore_n (lv' := [(3, .int (σ 16 (ix x2))), (0, .ref (h 42)), (1, .int x1), (2, .int x2)]) hx hb dX1_work_38 rfl hl (by decide) rfl (fun ls hl => ?_)
        refine lv_aload_n hx hb dX1_work_39 rfl (lv_at hl 1 rfl) ?_
        refine q_get (C := RX1) (T := TX1) (N := 6) (ci := 1) E (fun w h => List.mem_cons_of_mem _ (inX1 w h)) hw 12 rfl rfl 3 (by decide) (List.mem_cons_of_mem _ tb_336) (v := .ref (h 44)) rfl dX1_work_40 ?_
        refine q_get (C := RX7) (T := TX7) (N := 15) (ci := 7) E (fun w h => List.mem_cons_of_mem _ (inX7 w h)) hw 16 rfl rfl 6 (by decide) (List.mem_cons_of_mem _ tb_277) (v := .ref (h 22)) rfl dX1_work_43 ?_
        refine lv_iload_n hx hb dX1_work_46 rfl (lv_at hl 3 rfl) ?_
        refine lv_dup2_11 hx hb dX1_work_47 rfl rfl ?_
        refine q_ald E hw 23 (n := 60) rfl g2 (x := (σ 22 (ix x2))) rfl dX1_work_48 ?_
        refine lv_iload_n hx hb dX1_work_49 rfl (lv_at hl 2 rfl) ?_
        refine lv_iadd hx hb dX1_work_50 ?_
        refine q_ast E hw 23 (n := 60) rfl g2 (wK cA h (up σ 22 (ix x2) ((σ 22 (ix x2)) + x1)) ++ (wLg cA h (up σ 22 (ix x2) ((σ 22 (ix x2)) + x1)) L ++ (wC cA h (up σ 22 (ix x2) ((σ 22 (ix x2)) + x1)) ++ F))) st_K_Lg_C_22 dX1_work_51 (fun H locs hw => ?_)
        refine lv_aload_n hx hb dX1_work_52 rfl (lv_at hl 1 rfl) ?_
        refine q_get (C := RX1) (T := TX1) (N := 6) (ci := 1) E (fun w h => List.mem_cons_of_mem _ (inX1 w h)) hw 12 rfl rfl 3 (by decide) (List.mem_cons_of_mem _ tb_336) (v := .ref (h 44)) rfl dX1_work_53 ?_
        refine q_get (C := RX7) (T := TX7) (N := 15) (ci := 7) E (fun w h => List.mem_cons_of_mem _ (inX7 w h)) hw 16 rfl rfl 6 (by decide) (List.mem_cons_of_mem _ tb_277) (v := .ref (h 22)) rfl dX1_work_56 ?_
        refine lv_iload_n hx hb dX1_work_59 rfl (lv_at hl 3 rfl) ?_
        refine q_ald E hw 23 (n := 60) rfl g2 (x := ((up σ 22 (ix x2) ((σ 22 (ix x2)) + x1)) 22 (ix x2))) rfl dX1_work_60 ?_
        refine lv_aload_n hx hb dX1_work_61 rfl (lv_at hl 1 rfl) ?_
        refine q_get (C := RX1) (T := TX1) (N := 6) (ci := 1) E (fun w h => List.mem_cons_of_mem _ (inX1 w h)) hw 12 rfl rfl 0 (by decide) (List.mem_cons_of_mem _ tb_332) (v := .ref (h 40)) rfl dX1_work_62 ?_
        refine q_get (C := RX3) (T := TX3) (N := 7) (ci := 3) E (fun w h => List.mem_cons_of_mem _ (inX3 w h)) hw 0 rfl rfl 2 (by decide) (List.mem_cons_of_mem _ tb_143) (v := .ref (h 3)) rfl dX1_work_65 ?_
        refine lv_iload_n hx hb dX1_work_68 rfl (lv_at hl 0 rfl) ?_
        obtain ⟨g4, hM⟩ := g_some hM
        refine q_ald E hw 3 (n := 6) rfl g4 (x := (σ 3 (ix (σ 16 (ix x2))))) (congrFun (up_ne σ 22 (ix x2) ((σ 22 (ix x2)) + x1) 3 (by decide)) (ix (σ 16 (ix x2)))) dX1_work_69 ?_
        refine lv_icmp_ge (tgt := 76) hx hb dX1_work_70 (by decide) (fun c5 => ?_) (fun c5 => ?_)
        · replace hM := i_pos hM c5
          refine lv_aload_n hx hb dX1_work_76 rfl (lv_at hl 1 rfl) ?_
          refine q_get (C := RX1) (T := TX1) (N := 6) (ci := 1) E (fun w h => List.mem_cons_of_mem _ (inX1 w h)) hw 12 rfl rfl 3 (by decide) (List.mem_cons_of_mem _ tb_336) (v := .ref (h 44)) rfl dX1_work_77 ?_
          refine q_get (C := RX7) (T := TX7) (N := 15) (ci := 7) E (fun w h => List.mem_cons_of_mem _ (inX7 w h)) hw 16 rfl rfl 4 (by decide) (List.mem_cons_of_mem _ tb_271) (v := .ref (h 20)) rfl dX1_work_80 ?_
          refine lv_iload_n hx hb dX1_work_83 rfl (lv_at hl 3 rfl) ?_
          refine q_ald E hw 21 (n := 60) rfl g2 (x := (σ 20 (ix x2))) (congrFun (up_ne σ 22 (ix x2) ((σ 22 (ix x2)) + x1) 20 (by decide)) (ix x2)) dX1_work_84 ?_
          refine lv_aload_n hx hb dX1_work_85 rfl (lv_at hl 1 rfl) ?_
          refine q_get (C := RX1) (T := TX1) (N := 6) (ci := 1) E (fun w h => List.mem_cons_of_mem _ (inX1 w h)) hw 12 rfl rfl 0 (by decide) (List.mem_cons_of_mem _ tb_332) (v := .ref (h 40)) rfl dX1_work_86 ?_
          refine q_get (C := RX3) (T := TX3) (N := 7) (ci := 3) E (fun w h => List.mem_cons_of_mem _ (inX3 w h)) hw 0 rfl rfl 3 (by decide) (List.mem_cons_of_mem _ tb_145) (v := .ref (h 4)) rfl dX1_work_89 ?_
          refine lv_iload_n hx hb dX1_work_92 rfl (lv_at hl 0 rfl) ?_
          refine q_ald E hw 4 (n := 6) rfl g4 (x := (σ 4 (ix (σ 16 (ix x2))))) (congrFun (up_ne σ 22 (ix x2) ((σ 22 (ix x2)) + x1) 4 (by decide)) (ix (σ 16 (ix x2)))) dX1_work_93 ?_
          refine lv_icmp_lt (tgt := 112) hx hb dX1_work_94 (by decide) (fun c6 => ?_) (fun c6 => ?_)
          · replace hM := i_pos hM c6
            refine lv_aload_n hx hb dX1_work_112 rfl (lv_at hl 1 rfl) ?_
            refine lv_iload_n hx hb dX1_work_113 rfl (lv_at hl 3 rfl) ?_
            refine lv_aload_n hx hb dX1_work_114 rfl (lv_at hl 1 rfl) ?_
            refine q_get (C := RX1) (T := TX1) (N := 6) (ci := 1) E (fun w h => List.mem_cons_of_mem _ (inX1 w h)) hw 12 rfl rfl 5 (by decide) (List.mem_cons_of_mem _ tb_340) (v := .int (σ 12 0)) (q_fld (congrFun (up_ne σ 22 (ix x2) ((σ 22 (ix x2)) + x1) 12 (by decide)) 0) rfl) dX1_work_115 ?_
            refine lv_iload_n hx hb dX1_work_118 rfl (lv_at hl 2 rfl) ?_
            refine lv_iadd hx hb dX1_work_119 ?_
            obtain ⟨p7, h8, hM⟩ := b_some hM
            refine q_cv (As := [.int x2, .int ((σ 12 0) + x1)]) (rest := []) E hw hl (c_X1_raise l D cA tS A h L F x2 ((σ 12 0) + x1) (up σ 22 (ix x2) ((σ 22 (ix x2)) + x1)) p7.1 p7.2 h8) 2 (bwV bw_c tb_556 tb_558 tb_10 tb_106 tb_559) rfl (by decide +kernel) ⟨Nat.le_of_ble_eq_true rfl, Nat.le_of_ble_eq_true rfl⟩ 12 1 (T := TX1) (N := 6) rfl rfl rfl rfl (Nat.le_of_ble_eq_true rfl) ⟨Nat.zero_le _, Nat.zero_le _⟩ dX1_work_120 (fun H locs hw => ?_)
            refine lv_pop hx hb dX1_work_123 rfl ?_
            refine lv_iinc (v := (x2 + 1)) (lv' := [(2, .int (x2 + 1)), (3, .int (σ 16 (ix x2))), (0, .ref (h 42)), (1, .int x1)]) hx hb dX1_work_124 hl (k := 3) rfl rfl (by decide) rfl (fun ls hl => ?_)
            refine lv_goto (tgt := 2) hx hb dX1_work_127 (by decide) ?_
            exact ih _ _ _ _ hM _ _ hw _ (lv_sub hl [2, 3, 0] rfl)
          · replace hM := i_neg hM c6
            refine lv_aload_n hx hb dX1_work_97 rfl (lv_at hl 1 rfl) ?_
            refine lv_iload_n hx hb dX1_work_98 rfl (lv_at hl 3 rfl) ?_
            refine lv_aload_n hx hb dX1_work_99 rfl (lv_at hl 1 rfl) ?_
            refine q_get (C := RX1) (T := TX1) (N := 6) (ci := 1) E (fun w h => List.mem_cons_of_mem _ (inX1 w h)) hw 12 rfl rfl 5 (by decide) (List.mem_cons_of_mem _ tb_340) (v := .int (σ 12 0)) (q_fld (congrFun (up_ne σ 22 (ix x2) ((σ 22 (ix x2)) + x1) 12 (by decide)) 0) rfl) dX1_work_100 ?_
            refine lv_iload_n hx hb dX1_work_103 rfl (lv_at hl 2 rfl) ?_
            refine lv_iadd hx hb dX1_work_104 ?_
            obtain ⟨p9, h10, hM⟩ := b_some hM
            refine q_cv (As := [.int x2, .int ((σ 12 0) + x1)]) (rest := []) E hw hl (c_X1_finish l D cA tS A h L F N x2 ((σ 12 0) + x1) (up σ 22 (ix x2) ((σ 22 (ix x2)) + x1)) p9.1 p9.2 h10) 2 (bwV bw_c tb_560 tb_562 tb_11 tb_106 tb_563) rfl (by decide +kernel) ⟨Nat.le_of_ble_eq_true rfl, Nat.le_of_ble_eq_true rfl⟩ 12 1 (T := TX1) (N := 6) rfl rfl rfl rfl (Nat.le_of_ble_eq_true rfl) ⟨Nat.zero_le _, Nat.zero_le _⟩ dX1_work_105 (fun H locs hw => ?_)
            refine lv_pop hx hb dX1_work_108 rfl ?_
            refine lv_goto (tgt := 124) hx hb dX1_work_109 (by decide) ?_
            refine lv_iinc (v := (x2 + 1)) (lv' := [(2, .int (x2 + 1)), (3, .int (σ 16 (ix x2))), (0, .ref (h 42)), (1, .int x1)]) hx hb dX1_work_124 hl (k := 3) rfl rfl (by decide) rfl (fun ls hl => ?_)
            refine lv_goto (tgt := 2) hx hb dX1_work_127 (by decide) ?_
            exact ih _ _ _ _ hM _ _ hw _ (lv_sub hl [2, 3, 0] rfl)
        · replace hM := i_neg hM c5
          refine lv_goto (tgt := 124) hx hb dX1_work_73 (by decide) ?_
          refine lv_iinc (v := (x2 + 1)) (lv' := [(2, .int (x2 + 1)), (3, .int (σ 16 (ix x2))), (0, .ref (h 42)), (1, .int x1)]) hx hb dX1_work_124 hl (k := 3) rfl rfl (by decide) rfl (fun ls hl => ?_)
          refine lv_goto (tgt := 2) hx hb dX1_work_127 (by decide) ?_
          exact ih _ _ _ _ hM _ _ hw _ (lv_sub hl [2, 3, 0] rfl)
      · replace hM := i_neg hM c3
        refine lv_goto (tgt := 124) hx hb dX1_work_26 (by decide) ?_
        refine lv_iinc (v := (x2 + 1)) (lv' := [(2, .int (x2 + 1)), (0, .ref (h 42)), (1, .int x1)]) hx hb dX1_work_124 hl (k := 2) rfl rfl (by decide) rfl (fun ls hl => ?_)
        refine lv_goto (tgt := 2) hx hb dX1_work_127 (by decide) ?_
        exact ih _ _ _ _ hM _ _ hw _ (lv_sub hl [1, 2, 0] rfl)
def f_X1_work (N : Nat) (L : Nat)  (x1 : Int32) (σ : Sg) : Option (Sg) := f_X1_work_2 N L N x1 0 σ
set_option maxRecDepth 100000 in
set_option maxHeartbeats 4000000 in
theorem c_X1_work (l : Launch) (D : va_G) (cA : Nat → ClassId) (tS : Nat → Nat) (A : Nat → Prop) (h : Nat → Nat) (L : Nat) (F : va_W) (N : Nat) (x1 : Int32) (σ : Sg) (s0 : Sg) (hM : f_X1_work N L x1 σ = some s0) : Ct l yX1_work (Cond.code yX1_work cX1_work 4 none :: bw) 3 70 D cA tS A [.ref (h 42), .int x1] (wK cA h σ ++ (wLg cA h σ L ++ (wC cA h σ ++ F))) none (wK cA h s0 ++ (wLg cA h s0 L ++ (wC cA h s0 ++ F))) := by
  refine ct_of (by decide +kernel) (Nat.le_of_ble_eq_true rfl) ?_
  intro p e s m below meth c E hw ls hl
  replace E : Ev p cX1_work 4 none RX1 (Cond.code yX1_work cX1_work 4 none :: bw) D cA tS A s m _ meth c := E
  replace hl : lv_has ls 4 [(0, .ref (h 42)), (1, .int x1)] := hl
  have hx := E.1.1
  have hb := E.1.2.1
  unfold f_X1_work at hM
  refine lv_iconst (v := 0) hx hb dX1_work_0 (by decide) ?_
  refine lv_istore_n (lv' := [(2, .int 0), (0, .ref (h 42)), (1, .int x1)]) hx hb dX1_work_1 rfl hl (by decide) rfl (fun ls hl => ?_)
  exact s_X1_work_2 l D cA tS A h L F N E N _ _ _ _ hM _ _ hw _ (lv_sub hl [1, 2, 0] rfl)
def f_X1_climbWaiting_2 (N : Nat) (L : Nat)  : Nat → Int32 → Int32 → Sg → Option (Sg)
  | 0, _, _, _ => none
  | n + 1, x1, x2, σ => (if (σ 15 0) ≤ x2 then some σ else if ib x2 60 then (if (σ 21 (ix x2)) = 0 then (f_X1_climbsByItself x2 σ).bind (fun p4 => (if p4 = 0 then f_X1_climbWaiting_2 N L n x1 (x2 + 1) σ else if ib (σ 16 (ix x2)) 6 then (if (σ 23 (ix x2)) < (σ 5 (ix (σ 16 (ix x2)))) then f_X1_climbWaiting_2 N L n x1 (x2 + 1) σ else (f_X1_raise L x2 x1 σ).bind (fun p9 => f_X1_climbWaiting_2 N L n x1 (x2 + 1) p9.2)) else none)) else f_X1_climbWaiting_2 N L n x1 (x2 + 1) σ) else none)
set_option maxRecDepth 100000 in
set_option maxHeartbeats 4000000 in
theorem s_X1_climbWaiting_2 (l : Launch) (D : va_G) (cA : Nat → ClassId) (tS : Nat → Nat) (A : Nat → Prop) (h : Nat → Nat) (L : Nat) (F : va_W) (N : Nat) {p : Program} {e : Env} {s : State} {m : MethodId} {args : Array Value} {below : List Frame} {meth : Method} {c : Code} (E : Ev p cX1_climbWaiting 3 none RX1 (Cond.code yX1_climbWaiting cX1_climbWaiting 3 none :: bw) D cA tS A s m args meth c) : ∀ (n : Nat) (x1 : Int32) (x2 : Int32) (σ : Sg) (s0 : Sg) (hM : f_X1_climbWaiting_2 N L n x1 x2 σ = some s0) (H : Heap) (locs : List Loc) (hw : Wd D A (wK cA h σ ++ (wLg cA h σ L ++ (wC cA h σ ++ F))) s.heap H locs) (ls : Array Slot) (hl : lv_has ls 3 [(0, .ref (h 42)), (1, .int x1), (2, .int x2)]), W p l e ({ frames := 2, cells := 0, slots := 0, locals := 46 } : Room) s m args below meth c H locs 0 0 (MQ below (QW D A none (wK cA h s0 ++ (wLg cA h s0 L ++ (wC cA h s0 ++ F)))) args s 0 0 A) (F0 m 2 ls []) := by
  have hx := E.1.1
  have hb := E.1.2.1
  intro n
  induction n with
  | zero =>
    intro x1 x2 σ s0 hM
    cases hM
  | succ n ih =>
    intro x1 x2 σ s0 hM H locs hw ls hl
    rw [f_X1_climbWaiting_2] at hM
    refine lv_iload_n hx hb dX1_climbWaiting_2 rfl (lv_at hl 2 rfl) ?_
    refine lv_aload_n hx hb dX1_climbWaiting_3 rfl (lv_at hl 0 rfl) ?_
    refine q_get (C := RX1) (T := TX1) (N := 6) (ci := 1) E (fun w h => List.mem_cons_of_mem _ (inX1 w h)) hw 12 rfl rfl 3 (by decide) (List.mem_cons_of_mem _ tb_336) (v := .ref (h 44)) rfl dX1_climbWaiting_4 ?_
    refine q_get (C := RX7) (T := TX7) (N := 15) (ci := 7) E (fun w h => List.mem_cons_of_mem _ (inX7 w h)) hw 16 rfl rfl 14 (by decide) (List.mem_cons_of_mem _ tb_299) (v := .int (σ 15 0)) rfl dX1_climbWaiting_7 ?_
    refine lv_icmp_ge (tgt := 75) hx hb dX1_climbWaiting_10 (by decide) (fun c1 => ?_) (fun c1 => ?_)
    · replace hM := i_pos hM c1
      cases hM
      exact q_retv E hw dX1_climbWaiting_75
    · replace hM := i_neg hM c1
      refine lv_aload_n hx hb dX1_climbWaiting_13 rfl (lv_at hl 0 rfl) ?_
      refine q_get (C := RX1) (T := TX1) (N := 6) (ci := 1) E (fun w h => List.mem_cons_of_mem _ (inX1 w h)) hw 12 rfl rfl 3 (by decide) (List.mem_cons_of_mem _ tb_336) (v := .ref (h 44)) rfl dX1_climbWaiting_14 ?_
      refine q_get (C := RX7) (T := TX7) (N := 15) (ci := 7) E (fun w h => List.mem_cons_of_mem _ (inX7 w h)) hw 16 rfl rfl 5 (by decide) (List.mem_cons_of_mem _ tb_274) (v := .ref (h 21)) rfl dX1_climbWaiting_17 ?_
      refine lv_iload_n hx hb dX1_climbWaiting_20 rfl (lv_at hl 2 rfl) ?_
      obtain ⟨g2, hM⟩ := g_some hM
      refine q_ald E hw 22 (n := 60) rfl g2 (x := (σ 21 (ix x2))) rfl dX1_climbWaiting_21 ?_
      refine lv_if_ne (tgt := 69) hx hb dX1_climbWaiting_22 (by decide) (fun c3 => ?_) (fun c3 => ?_)
      · replace hM := i_neg hM c3
        refine lv_iinc (v := (x2 + 1)) (lv' := [(2, .int (x2 + 1)), (0, .ref (h 42)), (1, .int x1)]) hx hb dX1_climbWaiting_69 hl (k := 2) rfl rfl (by decide) rfl (fun ls hl => ?_)
        refine lv_goto (tgt := 2) hx hb dX1_climbWaiting_72 (by decide) ?_
        exact ih _ _ _ _ hM _ _ hw _ (lv_sub hl [1, 2, 0] rfl)
      · replace hM := i_pos hM c3
        refine lv_aload_n hx hb dX1_climbWaiting_25 rfl (lv_at hl 0 rfl) ?_
        refine lv_iload_n hx hb dX1_climbWaiting_26 rfl (lv_at hl 2 rfl) ?_
        obtain ⟨p4, h5, hM⟩ := b_some hM
        refine q_cv (As := [.int x2]) (rest := []) E hw hl (c_X1_climbsByItself l D cA tS A h L F x2 σ p4 h5) 1 (bwV bw_c tb_751 tb_753 tb_25 tb_106 tb_754) rfl (by decide +kernel) ⟨Nat.le_of_ble_eq_true rfl, Nat.le_of_ble_eq_true rfl⟩ 12 1 (T := TX1) (N := 6) rfl rfl rfl rfl (Nat.le_of_ble_eq_true rfl) ⟨Nat.zero_le _, Nat.zero_le _⟩ dX1_climbWaiting_27 (fun H locs hw => ?_)
        refine lv_if_eq (tgt := 69) hx hb dX1_climbWaiting_30 (by decide) (fun c6 => ?_) (fun c6 => ?_)
        · replace hM := i_pos hM c6
          refine lv_iinc (v := (x2 + 1)) (lv' := [(2, .int (x2 + 1)), (0, .ref (h 42)), (1, .int x1)]) hx hb dX1_climbWaiting_69 hl (k := 2) rfl rfl (by decide) rfl (fun ls hl => ?_)
          refine lv_goto (tgt := 2) hx hb dX1_climbWaiting_72 (by decide) ?_
          exact ih _ _ _ _ hM _ _ hw _ (lv_sub hl [1, 2, 0] rfl)
        · replace hM := i_neg hM c6
          refine lv_aload_n hx hb dX1_climbWaiting_33 rfl (lv_at hl 0 rfl) ?_
          refine q_get (C := RX1) (T := TX1) (N := 6) (ci := 1) E (fun w h => List.mem_cons_of_mem _ (inX1 w h)) hw 12 rfl rfl 3 (by decide) (List.mem_cons_of_mem _ tb_336) (v := .ref (h 44)) rfl dX1_climbWaiting_34 ?_
          refine q_get (C := RX7) (T := TX7) (N := 15) (ci := 7) E (fun w h => List.mem_cons_of_mem _ (inX7 w h)) hw 16 rfl rfl 7 (by decide) (List.mem_cons_of_mem _ tb_280) (v := .ref (h 23)) rfl dX1_climbWaiting_37 ?_
          refine lv_iload_n hx hb dX1_climbWaiting_40 rfl (lv_at hl 2 rfl) ?_
          refine q_ald E hw 24 (n := 60) rfl g2 (x := (σ 23 (ix x2))) rfl dX1_climbWaiting_41 ?_
          refine lv_aload_n hx hb dX1_climbWaiting_42 rfl (lv_at hl 0 rfl) ?_
          refine q_get (C := RX1) (T := TX1) (N := 6) (ci := 1) E (fun w h => List.mem_cons_of_mem _ (inX1 w h)) hw 12 rfl rfl 0 (by decide) (List.mem_cons_of_mem _ tb_332) (v := .ref (h 40)) rfl dX1_climbWaiting_43 ?_
          refine q_get (C := RX3) (T := TX3) (N := 7) (ci := 3) E (fun w h => List.mem_cons_of_mem _ (inX3 w h)) hw 0 rfl rfl 4 (by decide) (List.mem_cons_of_mem _ tb_147) (v := .ref (h 5)) rfl dX1_climbWaiting_46 ?_
          refine lv_aload_n hx hb dX1_climbWaiting_49 rfl (lv_at hl 0 rfl) ?_
          refine q_get (C := RX1) (T := TX1) (N := 6) (ci := 1) E (fun w h => List.mem_cons_of_mem _ (inX1 w h)) hw 12 rfl rfl 3 (by decide) (List.mem_cons_of_mem _ tb_336) (v := .ref (h 44)) rfl dX1_climbWaiting_50 ?_
          refine q_get (C := RX7) (T := TX7) (N := 15) (ci := 7) E (fun w h => List.mem_cons_of_mem _ (inX7 w h)) hw 16 rfl rfl 0 (by decide) (List.mem_cons_of_mem _ tb_264) (v := .ref (h 16)) rfl dX1_climbWaiting_53 ?_
          refine lv_iload_n hx hb dX1_climbWaiting_56 rfl (lv_at hl 2 rfl) ?_
          refine q_ald E hw 17 (n := 60) rfl g2 (x := (σ 16 (ix x2))) rfl dX1_climbWaiting_57 ?_
          obtain ⟨g7, hM⟩ := g_some hM
          refine q_ald E hw 5 (n := 6) rfl g7 (x := (σ 5 (ix (σ 16 (ix x2))))) rfl dX1_climbWaiting_58 ?_
          refine lv_icmp_lt (tgt := 69) hx hb dX1_climbWaiting_59 (by decide) (fun c8 => ?_) (fun c8 => ?_)
          · replace hM := i_pos hM c8
            refine lv_iinc (v := (x2 + 1)) (lv' := [(2, .int (x2 + 1)), (0, .ref (h 42)), (1, .int x1)]) hx hb dX1_climbWaiting_69 hl (k := 2) rfl rfl (by decide) rfl (fun ls hl => ?_)
            refine lv_goto (tgt := 2) hx hb dX1_climbWaiting_72 (by decide) ?_
            exact ih _ _ _ _ hM _ _ hw _ (lv_sub hl [1, 2, 0] rfl)
          · replace hM := i_neg hM c8
            refine lv_aload_n hx hb dX1_climbWaiting_62 rfl (lv_at hl 0 rfl) ?_
            refine lv_iload_n hx hb dX1_climbWaiting_63 rfl (lv_at hl 2 rfl) ?_
            refine lv_iload_n hx hb dX1_climbWaiting_64 rfl (lv_at hl 1 rfl) ?_
            obtain ⟨p9, h10, hM⟩ := b_some hM
            refine q_cv (As := [.int x2, .int x1]) (rest := []) E hw hl (c_X1_raise l D cA tS A h L F x2 x1 σ p9.1 p9.2 h10) 2 (bwV bw_c tb_556 tb_558 tb_10 tb_106 tb_559) rfl (by decide +kernel) ⟨Nat.le_of_ble_eq_true rfl, Nat.le_of_ble_eq_true rfl⟩ 12 1 (T := TX1) (N := 6) rfl rfl rfl rfl (Nat.le_of_ble_eq_true rfl) ⟨Nat.zero_le _, Nat.zero_le _⟩ dX1_climbWaiting_65 (fun H locs hw => ?_)
            refine lv_pop hx hb dX1_climbWaiting_68 rfl ?_
            refine lv_iinc (v := (x2 + 1)) (lv' := [(2, .int (x2 + 1)), (0, .ref (h 42)), (1, .int x1)]) hx hb dX1_climbWaiting_69 hl (k := 2) rfl rfl (by decide) rfl (fun ls hl => ?_)
            refine lv_goto (tgt := 2) hx hb dX1_climbWaiting_72 (by decide) ?_
            exact ih _ _ _ _ hM _ _ hw _ (lv_sub hl [1, 2, 0] rfl)
def f_X1_climbWaiting (N : Nat) (L : Nat)  (x1 : Int32) (σ : Sg) : Option (Sg) := f_X1_climbWaiting_2 N L N x1 0 σ
set_option maxRecDepth 100000 in
set_option maxHeartbeats 4000000 in
theorem c_X1_climbWaiting (l : Launch) (D : va_G) (cA : Nat → ClassId) (tS : Nat → Nat) (A : Nat → Prop) (h : Nat → Nat) (L : Nat) (F : va_W) (N : Nat) (x1 : Int32) (σ : Sg) (s0 : Sg) (hM : f_X1_climbWaiting N L x1 σ = some s0) : Ct l yX1_climbWaiting (Cond.code yX1_climbWaiting cX1_climbWaiting 3 none :: bw) 2 46 D cA tS A [.ref (h 42), .int x1] (wK cA h σ ++ (wLg cA h σ L ++ (wC cA h σ ++ F))) none (wK cA h s0 ++ (wLg cA h s0 L ++ (wC cA h s0 ++ F))) := by
  refine ct_of (by decide +kernel) (Nat.le_of_ble_eq_true rfl) ?_
  intro p e s m below meth c E hw ls hl
  replace E : Ev p cX1_climbWaiting 3 none RX1 (Cond.code yX1_climbWaiting cX1_climbWaiting 3 none :: bw) D cA tS A s m _ meth c := E
  replace hl : lv_has ls 3 [(0, .ref (h 42)), (1, .int x1)] := hl
  have hx := E.1.1
  have hb := E.1.2.1
  unfold f_X1_climbWaiting at hM
  refine lv_iconst (v := 0) hx hb dX1_climbWaiting_0 (by decide) ?_
  refine lv_istore_n (lv' := [(2, .int 0), (0, .ref (h 42)), (1, .int x1)]) hx hb dX1_climbWaiting_1 rfl hl (by decide) rfl (fun ls hl => ?_)
  exact s_X1_climbWaiting_2 l D cA tS A h L F N E N _ _ _ _ hM _ _ hw _ (lv_sub hl [1, 2, 0] rfl)
def f_X1_passUntil_62 (N : Nat) (L : Nat) (k2 : Int32 → Int32 → Sg → Option (Sg)) (x1 : Int32) (x2 : Int32) (x4 : Int32) (σ : Sg) : Option (Sg) := (f_X1_climbWaiting N L ((σ 12 0) + x4) σ).bind (fun p1 => k2 x1 (x2 + 1) (up p1 12 0 ((p1 12 0) + x4)))
set_option maxRecDepth 100000 in
set_option maxHeartbeats 4000000 in
theorem s_X1_passUntil_62 (l : Launch) (D : va_G) (cA : Nat → ClassId) (tS : Nat → Nat) (A : Nat → Prop) (h : Nat → Nat) (L : Nat) (F : va_W) (N : Nat) (k2 : Int32 → Int32 → Sg → Option (Sg)) {p : Program} {e : Env} {s : State} {m : MethodId} {args : Array Value} {below : List Frame} {meth : Method} {c : Code} (E : Ev p cX1_passUntil 5 none RX1 (Cond.code yX1_passUntil cX1_passUntil 5 none :: bw) D cA tS A s m args meth c) (hk2 : ∀ (x1 : Int32) (x2 : Int32) (σ : Sg) (s0 : Sg) (hM : k2 x1 x2 σ = some s0) (H : Heap) (locs : List Loc) (hw : Wd D A (wK cA h σ ++ (wLg cA h σ L ++ (wC cA h σ ++ F))) s.heap H locs) (ls : Array Slot) (hl : lv_has ls 5 [(0, .ref (h 42)), (1, .int x1), (2, .int x2)]), W p l e ({ frames := 4, cells := 0, slots := 0, locals := 93 } : Room) s m args below meth c H locs 0 0 (MQ below (QW D A none (wK cA h s0 ++ (wLg cA h s0 L ++ (wC cA h s0 ++ F)))) args s 0 0 A) (F0 m 2 ls [])) : ∀ (x1 : Int32) (x2 : Int32) (x4 : Int32) (σ : Sg) (s0 : Sg) (hM : f_X1_passUntil_62 N L k2 x1 x2 x4 σ = some s0) (H : Heap) (locs : List Loc) (hw : Wd D A (wK cA h σ ++ (wLg cA h σ L ++ (wC cA h σ ++ F))) s.heap H locs) (ls : Array Slot) (hl : lv_has ls 5 [(0, .ref (h 42)), (1, .int x1), (2, .int x2), (4, .int x4)]), W p l e ({ frames := 4, cells := 0, slots := 0, locals := 93 } : Room) s m args below meth c H locs 0 0 (MQ below (QW D A none (wK cA h s0 ++ (wLg cA h s0 L ++ (wC cA h s0 ++ F)))) args s 0 0 A) (F0 m 62 ls []) := by
  have hx := E.1.1
  have hb := E.1.2.1
  intro x1 x2 x4 σ s0 hM H locs hw ls hl
  unfold f_X1_passUntil_62 at hM
  refine lv_aload_n hx hb dX1_passUntil_62 rfl (lv_at hl 0 rfl) ?_
  refine lv_aload_n hx hb dX1_passUntil_63 rfl (lv_at hl 0 rfl) ?_
  refine q_get (C := RX1) (T := TX1) (N := 6) (ci := 1) E (fun w h => List.mem_cons_of_mem _ (inX1 w h)) hw 12 rfl rfl 5 (by decide) (List.mem_cons_of_mem _ tb_340) (v := .int (σ 12 0)) rfl dX1_passUntil_64 ?_
  refine lv_iload hx hb dX1_passUntil_67 (lv_at hl 3 rfl) ?_
  refine lv_iadd hx hb dX1_passUntil_69 ?_
  obtain ⟨p1, h2, hM⟩ := b_some hM
  refine q_cvv (As := [.int ((σ 12 0) + x4)]) (rest := []) E hw hl (c_X1_climbWaiting l D cA tS A h L F N ((σ 12 0) + x4) σ p1 h2) 1 (bwV bw_c tb_768 tb_770 tb_29 tb_106 tb_771) rfl (by decide +kernel) ⟨Nat.le_of_ble_eq_true rfl, Nat.le_of_ble_eq_true rfl⟩ 12 1 (T := TX1) (N := 6) rfl rfl rfl rfl (Nat.le_of_ble_eq_true rfl) ⟨Nat.zero_le _, Nat.zero_le _⟩ dX1_passUntil_70 (fun H locs hw => ?_)
  refine lv_aload_n hx hb dX1_passUntil_73 rfl (lv_at hl 0 rfl) ?_
  refine lv_dup hx hb dX1_passUntil_74 rfl ?_
  refine q_get (C := RX1) (T := TX1) (N := 6) (ci := 1) E (fun w h => List.mem_cons_of_mem _ (inX1 w h)) hw 12 rfl rfl 5 (by decide) (List.mem_cons_of_mem _ tb_340) (v := .int (p1 12 0)) rfl dX1_passUntil_75 ?_
  refine lv_iload hx hb dX1_passUntil_78 (lv_at hl 3 rfl) ?_
  refine lv_iadd hx hb dX1_passUntil_80 ?_
  refine q_puti (C := RX1) (T := TX1) (N := 6) (ci := 1) E (fun w h => List.mem_cons_of_mem _ (inX1 w h)) tyX1 tyX1_ok nmX1 hw 12 rfl rfl 5 (by decide) (List.mem_cons_of_mem _ tb_340) rfl rfl (Nat.le_of_ble_eq_true rfl) (wK cA h (up p1 12 0 ((p1 12 0) + x4)) ++ (wLg cA h (up p1 12 0 ((p1 12 0) + x4)) L ++ (wC cA h (up p1 12 0 ((p1 12 0) + x4)) ++ F))) st_K_Lg_C_12 dX1_passUntil_81 (fun H locs hw => ?_)
  refine lv_iinc (v := (x2 + 1)) (lv' := [(2, .int (x2 + 1)), (0, .ref (h 42)), (1, .int x1), (4, .int x4)]) hx hb dX1_passUntil_84 hl (k := 2) rfl rfl (by decide) rfl (fun ls hl => ?_)
  refine lv_goto (tgt := 2) hx hb dX1_passUntil_87 (by decide) ?_
  exact hk2 _ _ _ _ hM _ _ hw _ (lv_sub hl [1, 2, 0] rfl)
def f_X1_passUntil_37 (N : Nat) (L : Nat) (k2 : Int32 → Int32 → Sg → Option (Sg)) (x1 : Int32) (x2 : Int32) (x3 : Int32) (σ : Sg) : Option (Sg) := (f_X1_stretch N x1 x3 σ).bind (fun p1 => (f_X1_growClocks N L p1 x3 σ).bind (fun p3 => (if x3 = 0 then f_X1_passUntil_62 N L k2 x1 x2 p1 p3 else (f_X1_work N L p1 p3).bind (fun p6 => f_X1_passUntil_62 N L k2 x1 x2 p1 p6))))
set_option maxRecDepth 100000 in
set_option maxHeartbeats 4000000 in
theorem s_X1_passUntil_37 (l : Launch) (D : va_G) (cA : Nat → ClassId) (tS : Nat → Nat) (A : Nat → Prop) (h : Nat → Nat) (L : Nat) (F : va_W) (N : Nat) (k2 : Int32 → Int32 → Sg → Option (Sg)) {p : Program} {e : Env} {s : State} {m : MethodId} {args : Array Value} {below : List Frame} {meth : Method} {c : Code} (E : Ev p cX1_passUntil 5 none RX1 (Cond.code yX1_passUntil cX1_passUntil 5 none :: bw) D cA tS A s m args meth c) (hk2 : ∀ (x1 : Int32) (x2 : Int32) (σ : Sg) (s0 : Sg) (hM : k2 x1 x2 σ = some s0) (H : Heap) (locs : List Loc) (hw : Wd D A (wK cA h σ ++ (wLg cA h σ L ++ (wC cA h σ ++ F))) s.heap H locs) (ls : Array Slot) (hl : lv_has ls 5 [(0, .ref (h 42)), (1, .int x1), (2, .int x2)]), W p l e ({ frames := 4, cells := 0, slots := 0, locals := 93 } : Room) s m args below meth c H locs 0 0 (MQ below (QW D A none (wK cA h s0 ++ (wLg cA h s0 L ++ (wC cA h s0 ++ F)))) args s 0 0 A) (F0 m 2 ls [])) : ∀ (x1 : Int32) (x2 : Int32) (x3 : Int32) (σ : Sg) (s0 : Sg) (hM : f_X1_passUntil_37 N L k2 x1 x2 x3 σ = some s0) (H : Heap) (locs : List Loc) (hw : Wd D A (wK cA h σ ++ (wLg cA h σ L ++ (wC cA h σ ++ F))) s.heap H locs) (ls : Array Slot) (hl : lv_has ls 5 [(0, .ref (h 42)), (1, .int x1), (2, .int x2), (3, .int x3)]), W p l e ({ frames := 4, cells := 0, slots := 0, locals := 93 } : Room) s m args below meth c H locs 0 0 (MQ below (QW D A none (wK cA h s0 ++ (wLg cA h s0 L ++ (wC cA h s0 ++ F)))) args s 0 0 A) (F0 m 37 ls []) := by
  have hx := E.1.1
  have hb := E.1.2.1
  intro x1 x2 x3 σ s0 hM H locs hw ls hl
  unfold f_X1_passUntil_37 at hM
  refine lv_aload_n hx hb dX1_passUntil_37 rfl (lv_at hl 0 rfl) ?_
  refine lv_iload_n hx hb dX1_passUntil_38 rfl (lv_at hl 1 rfl) ?_
  refine lv_iload_n hx hb dX1_passUntil_39 rfl (lv_at hl 3 rfl) ?_
  obtain ⟨p1, h2, hM⟩ := b_some hM
  refine q_cv (As := [.int x1, .int x3]) (rest := []) E hw hl (c_X1_stretch l D cA tS A h L F N x1 x3 σ p1 h2) 2 (bwV bw_c tb_721 tb_723 tb_22 tb_106 tb_724) rfl (by decide +kernel) ⟨Nat.le_of_ble_eq_true rfl, Nat.le_of_ble_eq_true rfl⟩ 12 1 (T := TX1) (N := 6) rfl rfl rfl rfl (Nat.le_of_ble_eq_true rfl) ⟨Nat.zero_le _, Nat.zero_le _⟩ dX1_passUntil_40 (fun H locs hw => ?_)
  refine lv_istore (lv' := [(4, .int p1), (0, .ref (h 42)), (1, .int x1), (2, .int x2), (3, .int x3)]) hx hb dX1_passUntil_43 hl (by decide) rfl (fun ls hl => ?_)
  refine lv_aload_n hx hb dX1_passUntil_45 rfl (lv_at hl 1 rfl) ?_
  refine lv_iload hx hb dX1_passUntil_46 (lv_at hl 0 rfl) ?_
  refine lv_iload_n hx hb dX1_passUntil_48 rfl (lv_at hl 4 rfl) ?_
  obtain ⟨p3, h4, hM⟩ := b_some hM
  refine q_cvv (As := [.int p1, .int x3]) (rest := []) E hw hl (c_X1_growClocks l D cA tS A h L F N p1 x3 σ p3 h4) 2 (bwV bw_c tb_756 tb_758 tb_26 tb_106 tb_759) rfl (by decide +kernel) ⟨Nat.le_of_ble_eq_true rfl, Nat.le_of_ble_eq_true rfl⟩ 12 1 (T := TX1) (N := 6) rfl rfl rfl rfl (Nat.le_of_ble_eq_true rfl) ⟨Nat.zero_le _, Nat.zero_le _⟩ dX1_passUntil_49 (fun H locs hw => ?_)
  refine lv_iload_n hx hb dX1_passUntil_52 rfl (lv_at hl 4 rfl) ?_
  refine lv_if_eq (tgt := 62) hx hb dX1_passUntil_53 (by decide) (fun c5 => ?_) (fun c5 => ?_)
  · replace hM := i_pos hM c5
    exact s_X1_passUntil_62 l D cA tS A h L F N k2 E hk2 _ _ _ _ _ hM _ _ hw _ (lv_sub hl [1, 2, 3, 0] rfl)
  · replace hM := i_neg hM c5
    refine lv_aload_n hx hb dX1_passUntil_56 rfl (lv_at hl 1 rfl) ?_
    refine lv_iload hx hb dX1_passUntil_57 (lv_at hl 0 rfl) ?_
    obtain ⟨p6, h7, hM⟩ := b_some hM
    refine q_cvv (As := [.int p1]) (rest := []) E hw hl (c_X1_work l D cA tS A h L F N p1 p3 p6 h7) 1 (bwV bw_c tb_764 tb_766 tb_28 tb_106 tb_767) rfl (by decide +kernel) ⟨Nat.le_of_ble_eq_true rfl, Nat.le_of_ble_eq_true rfl⟩ 12 1 (T := TX1) (N := 6) rfl rfl rfl rfl (Nat.le_of_ble_eq_true rfl) ⟨Nat.zero_le _, Nat.zero_le _⟩ dX1_passUntil_59 (fun H locs hw => ?_)
    exact s_X1_passUntil_62 l D cA tS A h L F N k2 E hk2 _ _ _ _ _ hM _ _ hw _ (lv_sub hl [1, 2, 3, 0] rfl)
def f_X1_passUntil_2 (N : Nat) (L : Nat)  : Nat → Int32 → Int32 → Sg → Option (Sg)
  | 0, _, _, _ => none
  | n + 1, x1, x2, σ => (if 10080 ≤ x2 then some σ else (if x1 ≤ (σ 12 0) then some σ else (f_X0_opensAt (σ 12 0) σ).bind (fun p3 => (if p3 = 0 then f_X1_passUntil_37 N L (fun x1 x2 σ => f_X1_passUntil_2 N L n x1 x2 σ) x1 x2 p3 σ else (f_X1_takeTickets N L σ).bind (fun p6 => f_X1_passUntil_37 N L (fun x1 x2 σ => f_X1_passUntil_2 N L n x1 x2 σ) x1 x2 p3 p6)))))
set_option maxRecDepth 100000 in
set_option maxHeartbeats 4000000 in
theorem s_X1_passUntil_2 (l : Launch) (D : va_G) (cA : Nat → ClassId) (tS : Nat → Nat) (A : Nat → Prop) (h : Nat → Nat) (L : Nat) (F : va_W) (N : Nat) {p : Program} {e : Env} {s : State} {m : MethodId} {args : Array Value} {below : List Frame} {meth : Method} {c : Code} (E : Ev p cX1_passUntil 5 none RX1 (Cond.code yX1_passUntil cX1_passUntil 5 none :: bw) D cA tS A s m args meth c) : ∀ (n : Nat) (x1 : Int32) (x2 : Int32) (σ : Sg) (s0 : Sg) (hM : f_X1_passUntil_2 N L n x1 x2 σ = some s0) (H : Heap) (locs : List Loc) (hw : Wd D A (wK cA h σ ++ (wLg cA h σ L ++ (wC cA h σ ++ F))) s.heap H locs) (ls : Array Slot) (hl : lv_has ls 5 [(0, .ref (h 42)), (1, .int x1), (2, .int x2)]), W p l e ({ frames := 4, cells := 0, slots := 0, locals := 93 } : Room) s m args below meth c H locs 0 0 (MQ below (QW D A none (wK cA h s0 ++ (wLg cA h s0 L ++ (wC cA h s0 ++ F)))) args s 0 0 A) (F0 m 2 ls []) := by
  have hx := E.1.1
  have hb := E.1.2.1
  intro n
  induction n with
  | zero =>
    intro x1 x2 σ s0 hM
    cases hM
  | succ n ih =>
    intro x1 x2 σ s0 hM H locs hw ls hl
    rw [f_X1_passUntil_2] at hM
    refine lv_iload_n hx hb dX1_passUntil_2 rfl (lv_at hl 2 rfl) ?_
    refine lv_sipush (v := 10080) hx hb dX1_passUntil_3 (by decide) ?_
    refine lv_icmp_ge (tgt := 90) hx hb dX1_passUntil_6 (by decide) (fun c1 => ?_) (fun c1 => ?_)
    · replace hM := i_pos hM c1
      cases hM
      exact q_retv E hw dX1_passUntil_90
    · replace hM := i_neg hM c1
      refine lv_aload_n hx hb dX1_passUntil_9 rfl (lv_at hl 0 rfl) ?_
      refine q_get (C := RX1) (T := TX1) (N := 6) (ci := 1) E (fun w h => List.mem_cons_of_mem _ (inX1 w h)) hw 12 rfl rfl 5 (by decide) (List.mem_cons_of_mem _ tb_340) (v := .int (σ 12 0)) rfl dX1_passUntil_10 ?_
      refine lv_iload_n hx hb dX1_passUntil_13 rfl (lv_at hl 1 rfl) ?_
      refine lv_icmp_ge (tgt := 90) hx hb dX1_passUntil_14 (by decide) (fun c2 => ?_) (fun c2 => ?_)
      · replace hM := i_pos hM c2
        cases hM
        exact q_retv E hw dX1_passUntil_90
      · replace hM := i_neg hM c2
        refine lv_aload_n hx hb dX1_passUntil_17 rfl (lv_at hl 0 rfl) ?_
        refine q_get (C := RX1) (T := TX1) (N := 6) (ci := 1) E (fun w h => List.mem_cons_of_mem _ (inX1 w h)) hw 12 rfl rfl 2 (by decide) (List.mem_cons_of_mem _ tb_334) (v := .ref (h 43)) rfl dX1_passUntil_18 ?_
        refine lv_aload_n hx hb dX1_passUntil_21 rfl (lv_at hl 0 rfl) ?_
        refine q_get (C := RX1) (T := TX1) (N := 6) (ci := 1) E (fun w h => List.mem_cons_of_mem _ (inX1 w h)) hw 12 rfl rfl 5 (by decide) (List.mem_cons_of_mem _ tb_340) (v := .int (σ 12 0)) rfl dX1_passUntil_22 ?_
        obtain ⟨p3, h4, hM⟩ := b_some hM
        refine q_cv (As := [.int (σ 12 0)]) (rest := []) E hw hl (c_X0_opensAt l D cA tS A h L F (σ 12 0) σ p3 h4) 1 (bwV bw_c tb_696 tb_612 tb_613 tb_107 tb_614) rfl (by decide +kernel) ⟨Nat.le_of_ble_eq_true rfl, Nat.le_of_ble_eq_true rfl⟩ 13 0 (T := TX0) (N := 2) rfl rfl rfl rfl (Nat.le_of_ble_eq_true rfl) ⟨Nat.zero_le _, Nat.zero_le _⟩ dX1_passUntil_25 (fun H locs hw => ?_)
        refine lv_istore_n (lv' := [(3, .int p3), (0, .ref (h 42)), (1, .int x1), (2, .int x2)]) hx hb dX1_passUntil_28 rfl hl (by decide) rfl (fun ls hl => ?_)
        refine lv_iload_n hx hb dX1_passUntil_29 rfl (lv_at hl 0 rfl) ?_
        refine lv_if_eq (tgt := 37) hx hb dX1_passUntil_30 (by decide) (fun c5 => ?_) (fun c5 => ?_)
        · replace hM := i_pos hM c5
          exact s_X1_passUntil_37 l D cA tS A h L F N (fun x1 x2 σ => f_X1_passUntil_2 N L n x1 x2 σ) E ih _ _ _ _ _ hM _ _ hw _ (lv_sub hl [1, 2, 3, 0] rfl)
        · replace hM := i_neg hM c5
          refine lv_aload_n hx hb dX1_passUntil_33 rfl (lv_at hl 1 rfl) ?_
          obtain ⟨p6, h7, hM⟩ := b_some hM
          refine q_cvv (As := []) (rest := []) E hw hl (c_X1_takeTickets l D cA tS A h L F N σ p6 h7) 0 (bwV bw_c tb_697 tb_699 tb_18 tb_106 tb_700) rfl (by decide +kernel) ⟨Nat.le_of_ble_eq_true rfl, Nat.le_of_ble_eq_true rfl⟩ 12 1 (T := TX1) (N := 6) rfl rfl rfl rfl (Nat.le_of_ble_eq_true rfl) ⟨Nat.zero_le _, Nat.zero_le _⟩ dX1_passUntil_34 (fun H locs hw => ?_)
          exact s_X1_passUntil_37 l D cA tS A h L F N (fun x1 x2 σ => f_X1_passUntil_2 N L n x1 x2 σ) E ih _ _ _ _ _ hM _ _ hw _ (lv_sub hl [1, 2, 3, 0] rfl)
def f_X1_passUntil (N : Nat) (L : Nat)  (x1 : Int32) (σ : Sg) : Option (Sg) := f_X1_passUntil_2 N L N x1 0 σ
set_option maxRecDepth 100000 in
set_option maxHeartbeats 4000000 in
theorem c_X1_passUntil (l : Launch) (D : va_G) (cA : Nat → ClassId) (tS : Nat → Nat) (A : Nat → Prop) (h : Nat → Nat) (L : Nat) (F : va_W) (N : Nat) (x1 : Int32) (σ : Sg) (s0 : Sg) (hM : f_X1_passUntil N L x1 σ = some s0) : Ct l yX1_passUntil (Cond.code yX1_passUntil cX1_passUntil 5 none :: bw) 4 93 D cA tS A [.ref (h 42), .int x1] (wK cA h σ ++ (wLg cA h σ L ++ (wC cA h σ ++ F))) none (wK cA h s0 ++ (wLg cA h s0 L ++ (wC cA h s0 ++ F))) := by
  refine ct_of (by decide +kernel) (Nat.le_of_ble_eq_true rfl) ?_
  intro p e s m below meth c E hw ls hl
  replace E : Ev p cX1_passUntil 5 none RX1 (Cond.code yX1_passUntil cX1_passUntil 5 none :: bw) D cA tS A s m _ meth c := E
  replace hl : lv_has ls 5 [(0, .ref (h 42)), (1, .int x1)] := hl
  have hx := E.1.1
  have hb := E.1.2.1
  unfold f_X1_passUntil at hM
  refine lv_iconst (v := 0) hx hb dX1_passUntil_0 (by decide) ?_
  refine lv_istore_n (lv' := [(2, .int 0), (0, .ref (h 42)), (1, .int x1)]) hx hb dX1_passUntil_1 rfl hl (by decide) rfl (fun ls hl => ?_)
  exact s_X1_passUntil_2 l D cA tS A h L F N E N _ _ _ _ hM _ _ hw _ (lv_sub hl [1, 2, 0] rfl)
def f_X1_countLate_responseClock_response_6 (N : Nat)   : Nat → Int32 → Int32 → Int32 → Sg → Option (Int32)
  | 0, _, _, _, _ => none
  | n + 1, x1, x4, x5, σ => (if (σ 15 0) ≤ x5 then some x4 else if ib x5 60 then (if x1 = (-1) then if ib (σ 16 (ix x5)) 6 then (if (σ 24 (ix x5)) ≤ (σ 1 (ix (σ 16 (ix x5)))) then f_X1_countLate_responseClock_response_6 N n x1 x4 (x5 + 1) σ else f_X1_countLate_responseClock_response_6 N n x1 (x4 + 1) (x5 + 1) σ) else none else (if (σ 16 (ix x5)) = x1 then if ib (σ 16 (ix x5)) 6 then (if (σ 24 (ix x5)) ≤ (σ 1 (ix (σ 16 (ix x5)))) then f_X1_countLate_responseClock_response_6 N n x1 x4 (x5 + 1) σ else f_X1_countLate_responseClock_response_6 N n x1 (x4 + 1) (x5 + 1) σ) else none else f_X1_countLate_responseClock_response_6 N n x1 x4 (x5 + 1) σ)) else none)
set_option maxRecDepth 100000 in
set_option maxHeartbeats 4000000 in
theorem s_X1_countLate_responseClock_response_6 (l : Launch) (D : va_G) (cA : Nat → ClassId) (tS : Nat → Nat) (A : Nat → Prop) (h : Nat → Nat) (L : Nat) (F : va_W) (N : Nat) {p : Program} {e : Env} {s : State} {m : MethodId} {args : Array Value} {below : List Frame} {meth : Method} {c : Code} (E : Ev p cX1_countLate 7 (some .int) RX1 (Cond.code yX1_countLate cX1_countLate 7 (some .int) :: bw) D cA tS A s m args meth c) : ∀ (n : Nat) (x1 : Int32) (x4 : Int32) (x5 : Int32) (σ : Sg) (r0 : Int32) (hM : f_X1_countLate_responseClock_response_6 N n x1 x4 x5 σ = some r0) (H : Heap) (locs : List Loc) (hw : Wd D A (wK cA h σ ++ (wLg cA h σ L ++ (wC cA h σ ++ F))) s.heap H locs) (ls : Array Slot) (hl : lv_has ls 7 [(0, .ref (h 42)), (1, .int x1), (2, .ref (h 24)), (3, .ref (h 1)), (4, .int x4), (5, .int x5)]), W p l e ({ frames := 0, cells := 0, slots := 0, locals := 0 } : Room) s m args below meth c H locs 0 0 (MQ below (QW D A (some (.int r0)) (wK cA h σ ++ (wLg cA h σ L ++ (wC cA h σ ++ F)))) args s 0 0 A) (F0 m 6 ls []) := by
  have hx := E.1.1
  have hb := E.1.2.1
  intro n
  induction n with
  | zero =>
    intro x1 x4 x5 σ r0 hM
    cases hM
  | succ n ih =>
    intro x1 x4 x5 σ r0 hM H locs hw ls hl
    rw [f_X1_countLate_responseClock_response_6] at hM
    refine lv_iload hx hb dX1_countLate_6 (lv_at hl 5 rfl) ?_
    refine lv_aload_n hx hb dX1_countLate_8 rfl (lv_at hl 0 rfl) ?_
    refine q_get (C := RX1) (T := TX1) (N := 6) (ci := 1) E (fun w h => List.mem_cons_of_mem _ (inX1 w h)) hw 12 rfl rfl 3 (by decide) (List.mem_cons_of_mem _ tb_336) (v := .ref (h 44)) rfl dX1_countLate_9 ?_
    refine q_get (C := RX7) (T := TX7) (N := 15) (ci := 7) E (fun w h => List.mem_cons_of_mem _ (inX7 w h)) hw 16 rfl rfl 14 (by decide) (List.mem_cons_of_mem _ tb_299) (v := .int (σ 15 0)) rfl dX1_countLate_12 ?_
    refine lv_icmp_ge (tgt := 61) hx hb dX1_countLate_15 (by decide) (fun c1 => ?_) (fun c1 => ?_)
    · replace hM := i_pos hM c1
      refine lv_iload hx hb dX1_countLate_61 (lv_at hl 4 rfl) ?_
      cases hM
      exact q_reti E hw dX1_countLate_63
    · replace hM := i_neg hM c1
      refine lv_aload_n hx hb dX1_countLate_18 rfl (lv_at hl 0 rfl) ?_
      refine q_get (C := RX1) (T := TX1) (N := 6) (ci := 1) E (fun w h => List.mem_cons_of_mem _ (inX1 w h)) hw 12 rfl rfl 3 (by decide) (List.mem_cons_of_mem _ tb_336) (v := .ref (h 44)) rfl dX1_countLate_19 ?_
      refine q_get (C := RX7) (T := TX7) (N := 15) (ci := 7) E (fun w h => List.mem_cons_of_mem _ (inX7 w h)) hw 16 rfl rfl 0 (by decide) (List.mem_cons_of_mem _ tb_264) (v := .ref (h 16)) rfl dX1_countLate_22 ?_
      refine lv_iload hx hb dX1_countLate_25 (lv_at hl 5 rfl) ?_
      obtain ⟨g2, hM⟩ := g_some hM
      refine q_ald E hw 17 (n := 60) rfl g2 (x := (σ 16 (ix x5))) rfl dX1_countLate_27 ?_
      refine lv_istore (lv' := [(6, .int (σ 16 (ix x5))), (0, .ref (h 42)), (1, .int x1), (2, .ref (h 24)), (3, .ref (h 1)), (4, .int x4), (5, .int x5)]) hx hb dX1_countLate_28 hl (by decide) rfl (fun ls hl => ?_)
      refine lv_iload_n hx hb dX1_countLate_30 rfl (lv_at hl 2 rfl) ?_
      refine lv_iconst (v := (-1)) hx hb dX1_countLate_31 (by decide) ?_
      refine lv_icmp_eq (tgt := 41) hx hb dX1_countLate_32 (by decide) (fun c3 => ?_) (fun c3 => ?_)
      · replace hM := i_pos hM c3
        refine lv_aload_n hx hb dX1_countLate_41 rfl (lv_at hl 3 rfl) ?_
        refine lv_iload hx hb dX1_countLate_42 (lv_at hl 6 rfl) ?_
        refine q_ald E hw 25 (n := 60) rfl g2 (x := (σ 24 (ix x5))) rfl dX1_countLate_44 ?_
        refine lv_aload_n hx hb dX1_countLate_45 rfl (lv_at hl 4 rfl) ?_
        refine lv_iload hx hb dX1_countLate_46 (lv_at hl 0 rfl) ?_
        obtain ⟨g4, hM⟩ := g_some hM
        refine q_ald E hw 1 (n := 6) rfl g4 (x := (σ 1 (ix (σ 16 (ix x5))))) rfl dX1_countLate_48 ?_
        refine lv_icmp_le (tgt := 55) hx hb dX1_countLate_49 (by decide) (fun c5 => ?_) (fun c5 => ?_)
        · replace hM := i_pos hM c5
          refine lv_iinc (v := (x5 + 1)) (lv' := [(5, .int (x5 + 1)), (6, .int (σ 16 (ix x5))), (0, .ref (h 42)), (1, .int x1), (2, .ref (h 24)), (3, .ref (h 1)), (4, .int x4)]) hx hb dX1_countLate_55 hl (k := 6) rfl rfl (by decide) rfl (fun ls hl => ?_)
          refine lv_goto (tgt := 6) hx hb dX1_countLate_58 (by decide) ?_
          exact ih _ _ _ _ _ hM _ _ hw _ (lv_sub hl [2, 3, 4, 5, 6, 0] rfl)
        · replace hM := i_neg hM c5
          refine lv_iinc (v := (x4 + 1)) (lv' := [(4, .int (x4 + 1)), (6, .int (σ 16 (ix x5))), (0, .ref (h 42)), (1, .int x1), (2, .ref (h 24)), (3, .ref (h 1)), (5, .int x5)]) hx hb dX1_countLate_52 hl (k := 5) rfl rfl (by decide) rfl (fun ls hl => ?_)
          refine lv_iinc (v := (x5 + 1)) (lv' := [(5, .int (x5 + 1)), (4, .int (x4 + 1)), (6, .int (σ 16 (ix x5))), (0, .ref (h 42)), (1, .int x1), (2, .ref (h 24)), (3, .ref (h 1))]) hx hb dX1_countLate_55 hl (k := 6) rfl rfl (by decide) rfl (fun ls hl => ?_)
          refine lv_goto (tgt := 6) hx hb dX1_countLate_58 (by decide) ?_
          exact ih _ _ _ _ _ hM _ _ hw _ (lv_sub hl [3, 4, 5, 6, 1, 0] rfl)
      · replace hM := i_neg hM c3
        refine lv_iload hx hb dX1_countLate_35 (lv_at hl 0 rfl) ?_
        refine lv_iload_n hx hb dX1_countLate_37 rfl (lv_at hl 2 rfl) ?_
        refine lv_icmp_ne (tgt := 55) hx hb dX1_countLate_38 (by decide) (fun c6 => ?_) (fun c6 => ?_)
        · replace hM := i_neg hM c6
          refine lv_iinc (v := (x5 + 1)) (lv' := [(5, .int (x5 + 1)), (6, .int (σ 16 (ix x5))), (0, .ref (h 42)), (1, .int x1), (2, .ref (h 24)), (3, .ref (h 1)), (4, .int x4)]) hx hb dX1_countLate_55 hl (k := 6) rfl rfl (by decide) rfl (fun ls hl => ?_)
          refine lv_goto (tgt := 6) hx hb dX1_countLate_58 (by decide) ?_
          exact ih _ _ _ _ _ hM _ _ hw _ (lv_sub hl [2, 3, 4, 5, 6, 0] rfl)
        · replace hM := i_pos hM c6
          refine lv_aload_n hx hb dX1_countLate_41 rfl (lv_at hl 3 rfl) ?_
          refine lv_iload hx hb dX1_countLate_42 (lv_at hl 6 rfl) ?_
          refine q_ald E hw 25 (n := 60) rfl g2 (x := (σ 24 (ix x5))) rfl dX1_countLate_44 ?_
          refine lv_aload_n hx hb dX1_countLate_45 rfl (lv_at hl 4 rfl) ?_
          refine lv_iload hx hb dX1_countLate_46 (lv_at hl 0 rfl) ?_
          obtain ⟨g7, hM⟩ := g_some hM
          refine q_ald E hw 1 (n := 6) rfl g7 (x := (σ 1 (ix (σ 16 (ix x5))))) rfl dX1_countLate_48 ?_
          refine lv_icmp_le (tgt := 55) hx hb dX1_countLate_49 (by decide) (fun c8 => ?_) (fun c8 => ?_)
          · replace hM := i_pos hM c8
            refine lv_iinc (v := (x5 + 1)) (lv' := [(5, .int (x5 + 1)), (6, .int (σ 16 (ix x5))), (0, .ref (h 42)), (1, .int x1), (2, .ref (h 24)), (3, .ref (h 1)), (4, .int x4)]) hx hb dX1_countLate_55 hl (k := 6) rfl rfl (by decide) rfl (fun ls hl => ?_)
            refine lv_goto (tgt := 6) hx hb dX1_countLate_58 (by decide) ?_
            exact ih _ _ _ _ _ hM _ _ hw _ (lv_sub hl [2, 3, 4, 5, 6, 0] rfl)
          · replace hM := i_neg hM c8
            refine lv_iinc (v := (x4 + 1)) (lv' := [(4, .int (x4 + 1)), (6, .int (σ 16 (ix x5))), (0, .ref (h 42)), (1, .int x1), (2, .ref (h 24)), (3, .ref (h 1)), (5, .int x5)]) hx hb dX1_countLate_52 hl (k := 5) rfl rfl (by decide) rfl (fun ls hl => ?_)
            refine lv_iinc (v := (x5 + 1)) (lv' := [(5, .int (x5 + 1)), (4, .int (x4 + 1)), (6, .int (σ 16 (ix x5))), (0, .ref (h 42)), (1, .int x1), (2, .ref (h 24)), (3, .ref (h 1))]) hx hb dX1_countLate_55 hl (k := 6) rfl rfl (by decide) rfl (fun ls hl => ?_)
            refine lv_goto (tgt := 6) hx hb dX1_countLate_58 (by decide) ?_
            exact ih _ _ _ _ _ hM _ _ hw _ (lv_sub hl [3, 4, 5, 6, 1, 0] rfl)
def f_X1_countLate_responseClock_response (N : Nat)   (x1 : Int32) (σ : Sg) : Option (Int32) := f_X1_countLate_responseClock_response_6 N N x1 0 0 σ
set_option maxRecDepth 100000 in
set_option maxHeartbeats 4000000 in
theorem c_X1_countLate_responseClock_response (l : Launch) (D : va_G) (cA : Nat → ClassId) (tS : Nat → Nat) (A : Nat → Prop) (h : Nat → Nat) (L : Nat) (F : va_W) (N : Nat) (x1 : Int32) (σ : Sg) (r0 : Int32) (hM : f_X1_countLate_responseClock_response N x1 σ = some r0) : Ct l yX1_countLate (Cond.code yX1_countLate cX1_countLate 7 (some .int) :: bw) 0 0 D cA tS A [.ref (h 42), .int x1, .ref (h 24), .ref (h 1)] (wK cA h σ ++ (wLg cA h σ L ++ (wC cA h σ ++ F))) (some (.int r0)) (wK cA h σ ++ (wLg cA h σ L ++ (wC cA h σ ++ F))) := by
  refine ct_of (by decide +kernel) (Nat.le_of_ble_eq_true rfl) ?_
  intro p e s m below meth c E hw ls hl
  replace E : Ev p cX1_countLate 7 (some .int) RX1 (Cond.code yX1_countLate cX1_countLate 7 (some .int) :: bw) D cA tS A s m _ meth c := E
  replace hl : lv_has ls 7 [(0, .ref (h 42)), (1, .int x1), (2, .ref (h 24)), (3, .ref (h 1))] := hl
  have hx := E.1.1
  have hb := E.1.2.1
  unfold f_X1_countLate_responseClock_response at hM
  refine lv_iconst (v := 0) hx hb dX1_countLate_0 (by decide) ?_
  refine lv_istore (lv' := [(4, .int 0), (0, .ref (h 42)), (1, .int x1), (2, .ref (h 24)), (3, .ref (h 1))]) hx hb dX1_countLate_1 hl (by decide) rfl (fun ls hl => ?_)
  refine lv_iconst (v := 0) hx hb dX1_countLate_3 (by decide) ?_
  refine lv_istore (lv' := [(5, .int 0), (4, .int 0), (0, .ref (h 42)), (1, .int x1), (2, .ref (h 24)), (3, .ref (h 1))]) hx hb dX1_countLate_4 hl (by decide) rfl (fun ls hl => ?_)
  exact s_X1_countLate_responseClock_response_6 l D cA tS A h L F N E N _ _ _ _ _ hM _ _ hw _ (lv_sub hl [2, 3, 4, 5, 1, 0] rfl)
def f_X1_lateResponses (N : Nat)   (x1 : Int32) (σ : Sg) : Option (Int32) := (f_X1_countLate_responseClock_response N x1 σ).bind (fun p1 => some p1)
set_option maxRecDepth 100000 in
set_option maxHeartbeats 4000000 in
theorem c_X1_lateResponses (l : Launch) (D : va_G) (cA : Nat → ClassId) (tS : Nat → Nat) (A : Nat → Prop) (h : Nat → Nat) (L : Nat) (F : va_W) (N : Nat) (x1 : Int32) (σ : Sg) (r0 : Int32) (hM : f_X1_lateResponses N x1 σ = some r0) : Ct l yX1_lateResponses (Cond.code yX1_lateResponses cX1_lateResponses 2 (some .int) :: bw) 1 26 D cA tS A [.ref (h 42), .int x1] (wK cA h σ ++ (wLg cA h σ L ++ (wC cA h σ ++ F))) (some (.int r0)) (wK cA h σ ++ (wLg cA h σ L ++ (wC cA h σ ++ F))) := by
  refine ct_of (by decide +kernel) (Nat.le_of_ble_eq_true rfl) ?_
  intro p e s m below meth c E hw ls hl
  replace E : Ev p cX1_lateResponses 2 (some .int) RX1 (Cond.code yX1_lateResponses cX1_lateResponses 2 (some .int) :: bw) D cA tS A s m _ meth c := E
  replace hl : lv_has ls 2 [(0, .ref (h 42)), (1, .int x1)] := hl
  have hx := E.1.1
  have hb := E.1.2.1
  unfold f_X1_lateResponses at hM
  refine lv_aload_n hx hb dX1_lateResponses_0 rfl (lv_at hl 0 rfl) ?_
  refine lv_iload_n hx hb dX1_lateResponses_1 rfl (lv_at hl 1 rfl) ?_
  refine lv_aload_n hx hb dX1_lateResponses_2 rfl (lv_at hl 0 rfl) ?_
  refine q_get (C := RX1) (T := TX1) (N := 6) (ci := 1) E (fun w h => List.mem_cons_of_mem _ (inX1 w h)) hw 12 rfl rfl 3 (by decide) (List.mem_cons_of_mem _ tb_336) (v := .ref (h 44)) rfl dX1_lateResponses_3 ?_
  refine q_get (C := RX7) (T := TX7) (N := 15) (ci := 7) E (fun w h => List.mem_cons_of_mem _ (inX7 w h)) hw 16 rfl rfl 8 (by decide) (List.mem_cons_of_mem _ tb_282) (v := .ref (h 24)) rfl dX1_lateResponses_6 ?_
  refine lv_aload_n hx hb dX1_lateResponses_9 rfl (lv_at hl 0 rfl) ?_
  refine q_get (C := RX1) (T := TX1) (N := 6) (ci := 1) E (fun w h => List.mem_cons_of_mem _ (inX1 w h)) hw 12 rfl rfl 0 (by decide) (List.mem_cons_of_mem _ tb_332) (v := .ref (h 40)) rfl dX1_lateResponses_10 ?_
  refine q_get (C := RX3) (T := TX3) (N := 7) (ci := 3) E (fun w h => List.mem_cons_of_mem _ (inX3 w h)) hw 0 rfl rfl 0 (by decide) (List.mem_cons_of_mem _ tb_139) (v := .ref (h 1)) rfl dX1_lateResponses_13 ?_
  obtain ⟨p1, h2, hM⟩ := b_some hM
  refine q_cv (As := [.int x1, .ref (h 24), .ref (h 1)]) (rest := []) E hw hl (c_X1_countLate_responseClock_response l D cA tS A h L F N x1 σ p1 h2) 3 (bwV bw_c tb_875 tb_877 tb_31 tb_106 tb_878) rfl (by decide +kernel) ⟨Nat.le_of_ble_eq_true rfl, Nat.le_of_ble_eq_true rfl⟩ 12 1 (T := TX1) (N := 6) rfl rfl rfl rfl (Nat.le_of_ble_eq_true rfl) ⟨Nat.zero_le _, Nat.zero_le _⟩ dX1_lateResponses_16 (fun H locs hw => ?_)
  cases hM
  exact q_reti E hw dX1_lateResponses_19
def f_X1_countLate_resolveClock_resolve_6 (N : Nat)   : Nat → Int32 → Int32 → Int32 → Sg → Option (Int32)
  | 0, _, _, _, _ => none
  | n + 1, x1, x4, x5, σ => (if (σ 15 0) ≤ x5 then some x4 else if ib x5 60 then (if x1 = (-1) then if ib (σ 16 (ix x5)) 6 then (if (σ 25 (ix x5)) ≤ (σ 2 (ix (σ 16 (ix x5)))) then f_X1_countLate_resolveClock_resolve_6 N n x1 x4 (x5 + 1) σ else f_X1_countLate_resolveClock_resolve_6 N n x1 (x4 + 1) (x5 + 1) σ) else none else (if (σ 16 (ix x5)) = x1 then if ib (σ 16 (ix x5)) 6 then (if (σ 25 (ix x5)) ≤ (σ 2 (ix (σ 16 (ix x5)))) then f_X1_countLate_resolveClock_resolve_6 N n x1 x4 (x5 + 1) σ else f_X1_countLate_resolveClock_resolve_6 N n x1 (x4 + 1) (x5 + 1) σ) else none else f_X1_countLate_resolveClock_resolve_6 N n x1 x4 (x5 + 1) σ)) else none)
set_option maxRecDepth 100000 in
set_option maxHeartbeats 4000000 in
theorem s_X1_countLate_resolveClock_resolve_6 (l : Launch) (D : va_G) (cA : Nat → ClassId) (tS : Nat → Nat) (A : Nat → Prop) (h : Nat → Nat) (L : Nat) (F : va_W) (N : Nat) {p : Program} {e : Env} {s : State} {m : MethodId} {args : Array Value} {below : List Frame} {meth : Method} {c : Code} (E : Ev p cX1_countLate 7 (some .int) RX1 (Cond.code yX1_countLate cX1_countLate 7 (some .int) :: bw) D cA tS A s m args meth c) : ∀ (n : Nat) (x1 : Int32) (x4 : Int32) (x5 : Int32) (σ : Sg) (r0 : Int32) (hM : f_X1_countLate_resolveClock_resolve_6 N n x1 x4 x5 σ = some r0) (H : Heap) (locs : List Loc) (hw : Wd D A (wK cA h σ ++ (wLg cA h σ L ++ (wC cA h σ ++ F))) s.heap H locs) (ls : Array Slot) (hl : lv_has ls 7 [(0, .ref (h 42)), (1, .int x1), (2, .ref (h 25)), (3, .ref (h 2)), (4, .int x4), (5, .int x5)]), W p l e ({ frames := 0, cells := 0, slots := 0, locals := 0 } : Room) s m args below meth c H locs 0 0 (MQ below (QW D A (some (.int r0)) (wK cA h σ ++ (wLg cA h σ L ++ (wC cA h σ ++ F)))) args s 0 0 A) (F0 m 6 ls []) := by
  have hx := E.1.1
  have hb := E.1.2.1
  intro n
  induction n with
  | zero =>
    intro x1 x4 x5 σ r0 hM
    cases hM
  | succ n ih =>
    intro x1 x4 x5 σ r0 hM H locs hw ls hl
    rw [f_X1_countLate_resolveClock_resolve_6] at hM
    refine lv_iload hx hb dX1_countLate_6 (lv_at hl 5 rfl) ?_
    refine lv_aload_n hx hb dX1_countLate_8 rfl (lv_at hl 0 rfl) ?_
    refine q_get (C := RX1) (T := TX1) (N := 6) (ci := 1) E (fun w h => List.mem_cons_of_mem _ (inX1 w h)) hw 12 rfl rfl 3 (by decide) (List.mem_cons_of_mem _ tb_336) (v := .ref (h 44)) rfl dX1_countLate_9 ?_
    refine q_get (C := RX7) (T := TX7) (N := 15) (ci := 7) E (fun w h => List.mem_cons_of_mem _ (inX7 w h)) hw 16 rfl rfl 14 (by decide) (List.mem_cons_of_mem _ tb_299) (v := .int (σ 15 0)) rfl dX1_countLate_12 ?_
    refine lv_icmp_ge (tgt := 61) hx hb dX1_countLate_15 (by decide) (fun c1 => ?_) (fun c1 => ?_)
    · replace hM := i_pos hM c1
      refine lv_iload hx hb dX1_countLate_61 (lv_at hl 4 rfl) ?_
      cases hM
      exact q_reti E hw dX1_countLate_63
    · replace hM := i_neg hM c1
      refine lv_aload_n hx hb dX1_countLate_18 rfl (lv_at hl 0 rfl) ?_
      refine q_get (C := RX1) (T := TX1) (N := 6) (ci := 1) E (fun w h => List.mem_cons_of_mem _ (inX1 w h)) hw 12 rfl rfl 3 (by decide) (List.mem_cons_of_mem _ tb_336) (v := .ref (h 44)) rfl dX1_countLate_19 ?_
      refine q_get (C := RX7) (T := TX7) (N := 15) (ci := 7) E (fun w h => List.mem_cons_of_mem _ (inX7 w h)) hw 16 rfl rfl 0 (by decide) (List.mem_cons_of_mem _ tb_264) (v := .ref (h 16)) rfl dX1_countLate_22 ?_
      refine lv_iload hx hb dX1_countLate_25 (lv_at hl 5 rfl) ?_
      obtain ⟨g2, hM⟩ := g_some hM
      refine q_ald E hw 17 (n := 60) rfl g2 (x := (σ 16 (ix x5))) rfl dX1_countLate_27 ?_
      refine lv_istore (lv' := [(6, .int (σ 16 (ix x5))), (0, .ref (h 42)), (1, .int x1), (2, .ref (h 25)), (3, .ref (h 2)), (4, .int x4), (5, .int x5)]) hx hb dX1_countLate_28 hl (by decide) rfl (fun ls hl => ?_)
      refine lv_iload_n hx hb dX1_countLate_30 rfl (lv_at hl 2 rfl) ?_
      refine lv_iconst (v := (-1)) hx hb dX1_countLate_31 (by decide) ?_
      refine lv_icmp_eq (tgt := 41) hx hb dX1_countLate_32 (by decide) (fun c3 => ?_) (fun c3 => ?_)
      · replace hM := i_pos hM c3
        refine lv_aload_n hx hb dX1_countLate_41 rfl (lv_at hl 3 rfl) ?_
        refine lv_iload hx hb dX1_countLate_42 (lv_at hl 6 rfl) ?_
        refine q_ald E hw 26 (n := 60) rfl g2 (x := (σ 25 (ix x5))) rfl dX1_countLate_44 ?_
        refine lv_aload_n hx hb dX1_countLate_45 rfl (lv_at hl 4 rfl) ?_
        refine lv_iload hx hb dX1_countLate_46 (lv_at hl 0 rfl) ?_
        obtain ⟨g4, hM⟩ := g_some hM
        refine q_ald E hw 2 (n := 6) rfl g4 (x := (σ 2 (ix (σ 16 (ix x5))))) rfl dX1_countLate_48 ?_
        refine lv_icmp_le (tgt := 55) hx hb dX1_countLate_49 (by decide) (fun c5 => ?_) (fun c5 => ?_)
        · replace hM := i_pos hM c5
          refine lv_iinc (v := (x5 + 1)) (lv' := [(5, .int (x5 + 1)), (6, .int (σ 16 (ix x5))), (0, .ref (h 42)), (1, .int x1), (2, .ref (h 25)), (3, .ref (h 2)), (4, .int x4)]) hx hb dX1_countLate_55 hl (k := 6) rfl rfl (by decide) rfl (fun ls hl => ?_)
          refine lv_goto (tgt := 6) hx hb dX1_countLate_58 (by decide) ?_
          exact ih _ _ _ _ _ hM _ _ hw _ (lv_sub hl [2, 3, 4, 5, 6, 0] rfl)
        · replace hM := i_neg hM c5
          refine lv_iinc (v := (x4 + 1)) (lv' := [(4, .int (x4 + 1)), (6, .int (σ 16 (ix x5))), (0, .ref (h 42)), (1, .int x1), (2, .ref (h 25)), (3, .ref (h 2)), (5, .int x5)]) hx hb dX1_countLate_52 hl (k := 5) rfl rfl (by decide) rfl (fun ls hl => ?_)
          refine lv_iinc (v := (x5 + 1)) (lv' := [(5, .int (x5 + 1)), (4, .int (x4 + 1)), (6, .int (σ 16 (ix x5))), (0, .ref (h 42)), (1, .int x1), (2, .ref (h 25)), (3, .ref (h 2))]) hx hb dX1_countLate_55 hl (k := 6) rfl rfl (by decide) rfl (fun ls hl => ?_)
          refine lv_goto (tgt := 6) hx hb dX1_countLate_58 (by decide) ?_
          exact ih _ _ _ _ _ hM _ _ hw _ (lv_sub hl [3, 4, 5, 6, 1, 0] rfl)
      · replace hM := i_neg hM c3
        refine lv_iload hx hb dX1_countLate_35 (lv_at hl 0 rfl) ?_
        refine lv_iload_n hx hb dX1_countLate_37 rfl (lv_at hl 2 rfl) ?_
        refine lv_icmp_ne (tgt := 55) hx hb dX1_countLate_38 (by decide) (fun c6 => ?_) (fun c6 => ?_)
        · replace hM := i_neg hM c6
          refine lv_iinc (v := (x5 + 1)) (lv' := [(5, .int (x5 + 1)), (6, .int (σ 16 (ix x5))), (0, .ref (h 42)), (1, .int x1), (2, .ref (h 25)), (3, .ref (h 2)), (4, .int x4)]) hx hb dX1_countLate_55 hl (k := 6) rfl rfl (by decide) rfl (fun ls hl => ?_)
          refine lv_goto (tgt := 6) hx hb dX1_countLate_58 (by decide) ?_
          exact ih _ _ _ _ _ hM _ _ hw _ (lv_sub hl [2, 3, 4, 5, 6, 0] rfl)
        · replace hM := i_pos hM c6
          refine lv_aload_n hx hb dX1_countLate_41 rfl (lv_at hl 3 rfl) ?_
          refine lv_iload hx hb dX1_countLate_42 (lv_at hl 6 rfl) ?_
          refine q_ald E hw 26 (n := 60) rfl g2 (x := (σ 25 (ix x5))) rfl dX1_countLate_44 ?_
          refine lv_aload_n hx hb dX1_countLate_45 rfl (lv_at hl 4 rfl) ?_
          refine lv_iload hx hb dX1_countLate_46 (lv_at hl 0 rfl) ?_
          obtain ⟨g7, hM⟩ := g_some hM
          refine q_ald E hw 2 (n := 6) rfl g7 (x := (σ 2 (ix (σ 16 (ix x5))))) rfl dX1_countLate_48 ?_
          refine lv_icmp_le (tgt := 55) hx hb dX1_countLate_49 (by decide) (fun c8 => ?_) (fun c8 => ?_)
          · replace hM := i_pos hM c8
            refine lv_iinc (v := (x5 + 1)) (lv' := [(5, .int (x5 + 1)), (6, .int (σ 16 (ix x5))), (0, .ref (h 42)), (1, .int x1), (2, .ref (h 25)), (3, .ref (h 2)), (4, .int x4)]) hx hb dX1_countLate_55 hl (k := 6) rfl rfl (by decide) rfl (fun ls hl => ?_)
            refine lv_goto (tgt := 6) hx hb dX1_countLate_58 (by decide) ?_
            exact ih _ _ _ _ _ hM _ _ hw _ (lv_sub hl [2, 3, 4, 5, 6, 0] rfl)
          · replace hM := i_neg hM c8
            refine lv_iinc (v := (x4 + 1)) (lv' := [(4, .int (x4 + 1)), (6, .int (σ 16 (ix x5))), (0, .ref (h 42)), (1, .int x1), (2, .ref (h 25)), (3, .ref (h 2)), (5, .int x5)]) hx hb dX1_countLate_52 hl (k := 5) rfl rfl (by decide) rfl (fun ls hl => ?_)
            refine lv_iinc (v := (x5 + 1)) (lv' := [(5, .int (x5 + 1)), (4, .int (x4 + 1)), (6, .int (σ 16 (ix x5))), (0, .ref (h 42)), (1, .int x1), (2, .ref (h 25)), (3, .ref (h 2))]) hx hb dX1_countLate_55 hl (k := 6) rfl rfl (by decide) rfl (fun ls hl => ?_)
            refine lv_goto (tgt := 6) hx hb dX1_countLate_58 (by decide) ?_
            exact ih _ _ _ _ _ hM _ _ hw _ (lv_sub hl [3, 4, 5, 6, 1, 0] rfl)
def f_X1_countLate_resolveClock_resolve (N : Nat)   (x1 : Int32) (σ : Sg) : Option (Int32) := f_X1_countLate_resolveClock_resolve_6 N N x1 0 0 σ
set_option maxRecDepth 100000 in
set_option maxHeartbeats 4000000 in
theorem c_X1_countLate_resolveClock_resolve (l : Launch) (D : va_G) (cA : Nat → ClassId) (tS : Nat → Nat) (A : Nat → Prop) (h : Nat → Nat) (L : Nat) (F : va_W) (N : Nat) (x1 : Int32) (σ : Sg) (r0 : Int32) (hM : f_X1_countLate_resolveClock_resolve N x1 σ = some r0) : Ct l yX1_countLate (Cond.code yX1_countLate cX1_countLate 7 (some .int) :: bw) 0 0 D cA tS A [.ref (h 42), .int x1, .ref (h 25), .ref (h 2)] (wK cA h σ ++ (wLg cA h σ L ++ (wC cA h σ ++ F))) (some (.int r0)) (wK cA h σ ++ (wLg cA h σ L ++ (wC cA h σ ++ F))) := by
  refine ct_of (by decide +kernel) (Nat.le_of_ble_eq_true rfl) ?_
  intro p e s m below meth c E hw ls hl
  replace E : Ev p cX1_countLate 7 (some .int) RX1 (Cond.code yX1_countLate cX1_countLate 7 (some .int) :: bw) D cA tS A s m _ meth c := E
  replace hl : lv_has ls 7 [(0, .ref (h 42)), (1, .int x1), (2, .ref (h 25)), (3, .ref (h 2))] := hl
  have hx := E.1.1
  have hb := E.1.2.1
  unfold f_X1_countLate_resolveClock_resolve at hM
  refine lv_iconst (v := 0) hx hb dX1_countLate_0 (by decide) ?_
  refine lv_istore (lv' := [(4, .int 0), (0, .ref (h 42)), (1, .int x1), (2, .ref (h 25)), (3, .ref (h 2))]) hx hb dX1_countLate_1 hl (by decide) rfl (fun ls hl => ?_)
  refine lv_iconst (v := 0) hx hb dX1_countLate_3 (by decide) ?_
  refine lv_istore (lv' := [(5, .int 0), (4, .int 0), (0, .ref (h 42)), (1, .int x1), (2, .ref (h 25)), (3, .ref (h 2))]) hx hb dX1_countLate_4 hl (by decide) rfl (fun ls hl => ?_)
  exact s_X1_countLate_resolveClock_resolve_6 l D cA tS A h L F N E N _ _ _ _ _ hM _ _ hw _ (lv_sub hl [2, 3, 4, 5, 1, 0] rfl)
def f_X1_lateSolutions (N : Nat)   (x1 : Int32) (σ : Sg) : Option (Int32) := (f_X1_countLate_resolveClock_resolve N x1 σ).bind (fun p1 => some p1)
set_option maxRecDepth 100000 in
set_option maxHeartbeats 4000000 in
theorem c_X1_lateSolutions (l : Launch) (D : va_G) (cA : Nat → ClassId) (tS : Nat → Nat) (A : Nat → Prop) (h : Nat → Nat) (L : Nat) (F : va_W) (N : Nat) (x1 : Int32) (σ : Sg) (r0 : Int32) (hM : f_X1_lateSolutions N x1 σ = some r0) : Ct l yX1_lateSolutions (Cond.code yX1_lateSolutions cX1_lateSolutions 2 (some .int) :: bw) 1 26 D cA tS A [.ref (h 42), .int x1] (wK cA h σ ++ (wLg cA h σ L ++ (wC cA h σ ++ F))) (some (.int r0)) (wK cA h σ ++ (wLg cA h σ L ++ (wC cA h σ ++ F))) := by
  refine ct_of (by decide +kernel) (Nat.le_of_ble_eq_true rfl) ?_
  intro p e s m below meth c E hw ls hl
  replace E : Ev p cX1_lateSolutions 2 (some .int) RX1 (Cond.code yX1_lateSolutions cX1_lateSolutions 2 (some .int) :: bw) D cA tS A s m _ meth c := E
  replace hl : lv_has ls 2 [(0, .ref (h 42)), (1, .int x1)] := hl
  have hx := E.1.1
  have hb := E.1.2.1
  unfold f_X1_lateSolutions at hM
  refine lv_aload_n hx hb dX1_lateSolutions_0 rfl (lv_at hl 0 rfl) ?_
  refine lv_iload_n hx hb dX1_lateSolutions_1 rfl (lv_at hl 1 rfl) ?_
  refine lv_aload_n hx hb dX1_lateSolutions_2 rfl (lv_at hl 0 rfl) ?_
  refine q_get (C := RX1) (T := TX1) (N := 6) (ci := 1) E (fun w h => List.mem_cons_of_mem _ (inX1 w h)) hw 12 rfl rfl 3 (by decide) (List.mem_cons_of_mem _ tb_336) (v := .ref (h 44)) rfl dX1_lateSolutions_3 ?_
  refine q_get (C := RX7) (T := TX7) (N := 15) (ci := 7) E (fun w h => List.mem_cons_of_mem _ (inX7 w h)) hw 16 rfl rfl 9 (by decide) (List.mem_cons_of_mem _ tb_285) (v := .ref (h 25)) rfl dX1_lateSolutions_6 ?_
  refine lv_aload_n hx hb dX1_lateSolutions_9 rfl (lv_at hl 0 rfl) ?_
  refine q_get (C := RX1) (T := TX1) (N := 6) (ci := 1) E (fun w h => List.mem_cons_of_mem _ (inX1 w h)) hw 12 rfl rfl 0 (by decide) (List.mem_cons_of_mem _ tb_332) (v := .ref (h 40)) rfl dX1_lateSolutions_10 ?_
  refine q_get (C := RX3) (T := TX3) (N := 7) (ci := 3) E (fun w h => List.mem_cons_of_mem _ (inX3 w h)) hw 0 rfl rfl 1 (by decide) (List.mem_cons_of_mem _ tb_141) (v := .ref (h 2)) rfl dX1_lateSolutions_13 ?_
  obtain ⟨p1, h2, hM⟩ := b_some hM
  refine q_cv (As := [.int x1, .ref (h 25), .ref (h 2)]) (rest := []) E hw hl (c_X1_countLate_resolveClock_resolve l D cA tS A h L F N x1 σ p1 h2) 3 (bwV bw_c tb_875 tb_877 tb_31 tb_106 tb_878) rfl (by decide +kernel) ⟨Nat.le_of_ble_eq_true rfl, Nat.le_of_ble_eq_true rfl⟩ 12 1 (T := TX1) (N := 6) rfl rfl rfl rfl (Nat.le_of_ble_eq_true rfl) ⟨Nat.zero_le _, Nat.zero_le _⟩ dX1_lateSolutions_16 (fun H locs hw => ?_)
  cases hM
  exact q_reti E hw dX1_lateSolutions_19
def f_X1_allBreaches (N : Nat)   (σ : Sg) : Option (Int32) := (f_X1_lateResponses N (-1) σ).bind (fun p1 => (f_X1_lateSolutions N (-1) σ).bind (fun p3 => some (p1 + p3)))
set_option maxRecDepth 100000 in
set_option maxHeartbeats 4000000 in
theorem c_X1_allBreaches (l : Launch) (D : va_G) (cA : Nat → ClassId) (tS : Nat → Nat) (A : Nat → Prop) (h : Nat → Nat) (L : Nat) (F : va_W) (N : Nat) (σ : Sg) (r0 : Int32) (hM : f_X1_allBreaches N σ = some r0) : Ct l yX1_allBreaches (Cond.code yX1_allBreaches cX1_allBreaches 1 (some .int) :: bw) 2 47 D cA tS A [.ref (h 42)] (wK cA h σ ++ (wLg cA h σ L ++ (wC cA h σ ++ F))) (some (.int r0)) (wK cA h σ ++ (wLg cA h σ L ++ (wC cA h σ ++ F))) := by
  refine ct_of (by decide +kernel) (Nat.le_of_ble_eq_true rfl) ?_
  intro p e s m below meth c E hw ls hl
  replace E : Ev p cX1_allBreaches 1 (some .int) RX1 (Cond.code yX1_allBreaches cX1_allBreaches 1 (some .int) :: bw) D cA tS A s m _ meth c := E
  replace hl : lv_has ls 1 [(0, .ref (h 42))] := hl
  have hx := E.1.1
  have hb := E.1.2.1
  unfold f_X1_allBreaches at hM
  refine lv_aload_n hx hb dX1_allBreaches_0 rfl (lv_at hl 0 rfl) ?_
  refine lv_iconst (v := (-1)) hx hb dX1_allBreaches_1 (by decide) ?_
  obtain ⟨p1, h2, hM⟩ := b_some hM
  refine q_cv (As := [.int (-1)]) (rest := []) E hw hl (c_X1_lateResponses l D cA tS A h L F N (-1) σ p1 h2) 1 (bwV bw_c tb_925 tb_872 tb_873 tb_106 tb_874) rfl (by decide +kernel) ⟨Nat.le_of_ble_eq_true rfl, Nat.le_of_ble_eq_true rfl⟩ 12 1 (T := TX1) (N := 6) rfl rfl rfl rfl (Nat.le_of_ble_eq_true rfl) ⟨Nat.zero_le _, Nat.zero_le _⟩ dX1_allBreaches_2 (fun H locs hw => ?_)
  refine lv_aload_n hx hb dX1_allBreaches_5 rfl (lv_at hl 0 rfl) ?_
  refine lv_iconst (v := (-1)) hx hb dX1_allBreaches_6 (by decide) ?_
  obtain ⟨p3, h4, hM⟩ := b_some hM
  refine q_cv (As := [.int (-1)]) (rest := [.int p1]) E hw hl (c_X1_lateSolutions l D cA tS A h L F N (-1) σ p3 h4) 1 (bwV bw_c tb_926 tb_884 tb_885 tb_106 tb_886) rfl (by decide +kernel) ⟨Nat.le_of_ble_eq_true rfl, Nat.le_of_ble_eq_true rfl⟩ 12 1 (T := TX1) (N := 6) rfl rfl rfl rfl (Nat.le_of_ble_eq_true rfl) ⟨Nat.zero_le _, Nat.zero_le _⟩ dX1_allBreaches_7 (fun H locs hw => ?_)
  refine lv_iadd hx hb dX1_allBreaches_10 ?_
  cases hM
  exact q_reti E hw dX1_allBreaches_11
def f_X3_add    (x1 : Int32) (x2 : Int32) (x3 : Int32) (x4 : Int32) (x5 : Int32) (x6 : Int32) (σ : Sg) : Option (Int32 × Sg) := (if (σ 0 0) < 6 then if ib (σ 0 0) 6 then some ((σ 0 0), (up (up (up (up (up (up (up σ 1 (ix (σ 0 0)) x1) 2 (ix (σ 0 0)) x2) 3 (ix (σ 0 0)) x3) 4 (ix (σ 0 0)) x4) 5 (ix (σ 0 0)) x5) 6 (ix (σ 0 0)) (vp_nar .boolean x6)) 0 0 ((σ 0 0) + 1))) else none else some ((-6), σ))
set_option maxRecDepth 100000 in
set_option maxHeartbeats 4000000 in
theorem c_X3_add (l : Launch) (D : va_G) (cA : Nat → ClassId) (tS : Nat → Nat) (A : Nat → Prop) (h : Nat → Nat) (L : Nat) (F : va_W) (x1 : Int32) (x2 : Int32) (x3 : Int32) (x4 : Int32) (x5 : Int32) (x6 : Int32) (σ : Sg) (r0 : Int32) (s0 : Sg) (hM : f_X3_add x1 x2 x3 x4 x5 x6 σ = some (r0, s0)) : Ct l yX3_add (Cond.code yX3_add cX3_add 8 (some .int) :: bw) 0 0 D cA tS A [.ref (h 40), .int x1, .int x2, .int x3, .int x4, .int x5, .int x6] (wK cA h σ ++ (wLg cA h σ L ++ (wC cA h σ ++ F))) (some (.int r0)) (wK cA h s0 ++ (wLg cA h s0 L ++ (wC cA h s0 ++ F))) := by
  refine ct_of (by decide +kernel) (Nat.le_of_ble_eq_true rfl) ?_
  intro p e s m below meth c E hw ls hl
  replace E : Ev p cX3_add 8 (some .int) RX3 (Cond.code yX3_add cX3_add 8 (some .int) :: bw) D cA tS A s m _ meth c := E
  replace hl : lv_has ls 8 [(0, .ref (h 40)), (1, .int x1), (2, .int x2), (3, .int x3), (4, .int x4), (5, .int x5), (6, .int x6)] := hl
  have hx := E.1.1
  have hb := E.1.2.1
  unfold f_X3_add at hM
  refine lv_aload_n hx hb dX3_add_0 rfl (lv_at hl 0 rfl) ?_
  refine q_get (C := RX3) (T := TX3) (N := 7) (ci := 3) E (fun w h => List.mem_cons_of_mem _ (inX3 w h)) hw 0 rfl rfl 6 (by decide) (List.mem_cons_of_mem _ tb_150) (v := .int (σ 0 0)) rfl dX3_add_1 ?_
  refine lv_bipush (v := 6) hx hb dX3_add_4 (by decide) ?_
  refine lv_icmp_lt (tgt := 12) hx hb dX3_add_6 (by decide) (fun c1 => ?_) (fun c1 => ?_)
  · replace hM := i_pos hM c1
    refine lv_aload_n hx hb dX3_add_12 rfl (lv_at hl 0 rfl) ?_
    refine q_get (C := RX3) (T := TX3) (N := 7) (ci := 3) E (fun w h => List.mem_cons_of_mem _ (inX3 w h)) hw 0 rfl rfl 6 (by decide) (List.mem_cons_of_mem _ tb_150) (v := .int (σ 0 0)) rfl dX3_add_13 ?_
    refine lv_istore (lv' := [(7, .int (σ 0 0)), (0, .ref (h 40)), (1, .int x1), (2, .int x2), (3, .int x3), (4, .int x4), (5, .int x5), (6, .int x6)]) hx hb dX3_add_16 hl (by decide) rfl (fun ls hl => ?_)
    refine lv_aload_n hx hb dX3_add_18 rfl (lv_at hl 1 rfl) ?_
    refine q_get (C := RX3) (T := TX3) (N := 7) (ci := 3) E (fun w h => List.mem_cons_of_mem _ (inX3 w h)) hw 0 rfl rfl 0 (by decide) (List.mem_cons_of_mem _ tb_138) (v := .ref (h 1)) rfl dX3_add_19 ?_
    refine lv_iload hx hb dX3_add_22 (lv_at hl 0 rfl) ?_
    refine lv_iload_n hx hb dX3_add_24 rfl (lv_at hl 2 rfl) ?_
    obtain ⟨g2, hM⟩ := g_some hM
    refine q_ast E hw 1 (n := 6) rfl g2 (wK cA h (up σ 1 (ix (σ 0 0)) x1) ++ (wLg cA h (up σ 1 (ix (σ 0 0)) x1) L ++ (wC cA h (up σ 1 (ix (σ 0 0)) x1) ++ F))) st_K_Lg_C_1 dX3_add_25 (fun H locs hw => ?_)
    refine lv_aload_n hx hb dX3_add_26 rfl (lv_at hl 1 rfl) ?_
    refine q_get (C := RX3) (T := TX3) (N := 7) (ci := 3) E (fun w h => List.mem_cons_of_mem _ (inX3 w h)) hw 0 rfl rfl 1 (by decide) (List.mem_cons_of_mem _ tb_140) (v := .ref (h 2)) rfl dX3_add_27 ?_
    refine lv_iload hx hb dX3_add_30 (lv_at hl 0 rfl) ?_
    refine lv_iload_n hx hb dX3_add_32 rfl (lv_at hl 3 rfl) ?_
    refine q_ast E hw 2 (n := 6) rfl g2 (wK cA h (up (up σ 1 (ix (σ 0 0)) x1) 2 (ix (σ 0 0)) x2) ++ (wLg cA h (up (up σ 1 (ix (σ 0 0)) x1) 2 (ix (σ 0 0)) x2) L ++ (wC cA h (up (up σ 1 (ix (σ 0 0)) x1) 2 (ix (σ 0 0)) x2) ++ F))) st_K_Lg_C_2 dX3_add_33 (fun H locs hw => ?_)
    refine lv_aload_n hx hb dX3_add_34 rfl (lv_at hl 1 rfl) ?_
    refine q_get (C := RX3) (T := TX3) (N := 7) (ci := 3) E (fun w h => List.mem_cons_of_mem _ (inX3 w h)) hw 0 rfl rfl 2 (by decide) (List.mem_cons_of_mem _ tb_142) (v := .ref (h 3)) rfl dX3_add_35 ?_
    refine lv_iload hx hb dX3_add_38 (lv_at hl 0 rfl) ?_
    refine lv_iload_n hx hb dX3_add_40 rfl (lv_at hl 4 rfl) ?_
    refine q_ast E hw 3 (n := 6) rfl g2 (wK cA h (up (up (up σ 1 (ix (σ 0 0)) x1) 2 (ix (σ 0 0)) x2) 3 (ix (σ 0 0)) x3) ++ (wLg cA h (up (up (up σ 1 (ix (σ 0 0)) x1) 2 (ix (σ 0 0)) x2) 3 (ix (σ 0 0)) x3) L ++ (wC cA h (up (up (up σ 1 (ix (σ 0 0)) x1) 2 (ix (σ 0 0)) x2) 3 (ix (σ 0 0)) x3) ++ F))) st_K_Lg_C_3 dX3_add_41 (fun H locs hw => ?_)
    refine lv_aload_n hx hb dX3_add_42 rfl (lv_at hl 1 rfl) ?_
    refine q_get (C := RX3) (T := TX3) (N := 7) (ci := 3) E (fun w h => List.mem_cons_of_mem _ (inX3 w h)) hw 0 rfl rfl 3 (by decide) (List.mem_cons_of_mem _ tb_144) (v := .ref (h 4)) rfl dX3_add_43 ?_
    refine lv_iload hx hb dX3_add_46 (lv_at hl 0 rfl) ?_
    refine lv_iload hx hb dX3_add_48 (lv_at hl 5 rfl) ?_
    refine q_ast E hw 4 (n := 6) rfl g2 (wK cA h (up (up (up (up σ 1 (ix (σ 0 0)) x1) 2 (ix (σ 0 0)) x2) 3 (ix (σ 0 0)) x3) 4 (ix (σ 0 0)) x4) ++ (wLg cA h (up (up (up (up σ 1 (ix (σ 0 0)) x1) 2 (ix (σ 0 0)) x2) 3 (ix (σ 0 0)) x3) 4 (ix (σ 0 0)) x4) L ++ (wC cA h (up (up (up (up σ 1 (ix (σ 0 0)) x1) 2 (ix (σ 0 0)) x2) 3 (ix (σ 0 0)) x3) 4 (ix (σ 0 0)) x4) ++ F))) st_K_Lg_C_4 dX3_add_50 (fun H locs hw => ?_)
    refine lv_aload_n hx hb dX3_add_51 rfl (lv_at hl 1 rfl) ?_
    refine q_get (C := RX3) (T := TX3) (N := 7) (ci := 3) E (fun w h => List.mem_cons_of_mem _ (inX3 w h)) hw 0 rfl rfl 4 (by decide) (List.mem_cons_of_mem _ tb_146) (v := .ref (h 5)) rfl dX3_add_52 ?_
    refine lv_iload hx hb dX3_add_55 (lv_at hl 0 rfl) ?_
    refine lv_iload hx hb dX3_add_57 (lv_at hl 6 rfl) ?_
    refine q_ast E hw 5 (n := 6) rfl g2 (wK cA h (up (up (up (up (up σ 1 (ix (σ 0 0)) x1) 2 (ix (σ 0 0)) x2) 3 (ix (σ 0 0)) x3) 4 (ix (σ 0 0)) x4) 5 (ix (σ 0 0)) x5) ++ (wLg cA h (up (up (up (up (up σ 1 (ix (σ 0 0)) x1) 2 (ix (σ 0 0)) x2) 3 (ix (σ 0 0)) x3) 4 (ix (σ 0 0)) x4) 5 (ix (σ 0 0)) x5) L ++ (wC cA h (up (up (up (up (up σ 1 (ix (σ 0 0)) x1) 2 (ix (σ 0 0)) x2) 3 (ix (σ 0 0)) x3) 4 (ix (σ 0 0)) x4) 5 (ix (σ 0 0)) x5) ++ F))) st_K_Lg_C_5 dX3_add_59 (fun H locs hw => ?_)
    refine lv_aload_n hx hb dX3_add_60 rfl (lv_at hl 1 rfl) ?_
    refine q_get (C := RX3) (T := TX3) (N := 7) (ci := 3) E (fun w h => List.mem_cons_of_mem _ (inX3 w h)) hw 0 rfl rfl 5 (by decide) (List.mem_cons_of_mem _ tb_148) (v := .ref (h 6)) rfl dX3_add_61 ?_
    refine lv_iload hx hb dX3_add_64 (lv_at hl 0 rfl) ?_
    refine lv_iload hx hb dX3_add_66 (lv_at hl 7 rfl) ?_
    refine q_zst E hw 6 (n := 6) rfl g2 (wK cA h (up (up (up (up (up (up σ 1 (ix (σ 0 0)) x1) 2 (ix (σ 0 0)) x2) 3 (ix (σ 0 0)) x3) 4 (ix (σ 0 0)) x4) 5 (ix (σ 0 0)) x5) 6 (ix (σ 0 0)) (vp_nar .boolean x6)) ++ (wLg cA h (up (up (up (up (up (up σ 1 (ix (σ 0 0)) x1) 2 (ix (σ 0 0)) x2) 3 (ix (σ 0 0)) x3) 4 (ix (σ 0 0)) x4) 5 (ix (σ 0 0)) x5) 6 (ix (σ 0 0)) (vp_nar .boolean x6)) L ++ (wC cA h (up (up (up (up (up (up σ 1 (ix (σ 0 0)) x1) 2 (ix (σ 0 0)) x2) 3 (ix (σ 0 0)) x3) 4 (ix (σ 0 0)) x4) 5 (ix (σ 0 0)) x5) 6 (ix (σ 0 0)) (vp_nar .boolean x6)) ++ F))) st_K_Lg_C_6 dX3_add_68 (fun H locs hw => ?_)
    refine lv_aload_n hx hb dX3_add_69 rfl (lv_at hl 1 rfl) ?_
    refine lv_dup hx hb dX3_add_70 rfl ?_
    refine q_get (C := RX3) (T := TX3) (N := 7) (ci := 3) E (fun w h => List.mem_cons_of_mem _ (inX3 w h)) hw 0 rfl rfl 6 (by decide) (List.mem_cons_of_mem _ tb_150) (v := .int (σ 0 0)) (q_fld (congrFun ((((((up_ne (up (up (up (up (up σ 1 (ix (σ 0 0)) x1) 2 (ix (σ 0 0)) x2) 3 (ix (σ 0 0)) x3) 4 (ix (σ 0 0)) x4) 5 (ix (σ 0 0)) x5) 6 (ix (σ 0 0)) (vp_nar .boolean x6) 0 (by decide)).trans (up_ne (up (up (up (up σ 1 (ix (σ 0 0)) x1) 2 (ix (σ 0 0)) x2) 3 (ix (σ 0 0)) x3) 4 (ix (σ 0 0)) x4) 5 (ix (σ 0 0)) x5 0 (by decide))).trans (up_ne (up (up (up σ 1 (ix (σ 0 0)) x1) 2 (ix (σ 0 0)) x2) 3 (ix (σ 0 0)) x3) 4 (ix (σ 0 0)) x4 0 (by decide))).trans (up_ne (up (up σ 1 (ix (σ 0 0)) x1) 2 (ix (σ 0 0)) x2) 3 (ix (σ 0 0)) x3 0 (by decide))).trans (up_ne (up σ 1 (ix (σ 0 0)) x1) 2 (ix (σ 0 0)) x2 0 (by decide))).trans (up_ne σ 1 (ix (σ 0 0)) x1 0 (by decide))) 0) rfl) dX3_add_71 ?_
    refine lv_iconst (v := 1) hx hb dX3_add_74 (by decide) ?_
    refine lv_iadd hx hb dX3_add_75 ?_
    refine q_puti (C := RX3) (T := TX3) (N := 7) (ci := 3) E (fun w h => List.mem_cons_of_mem _ (inX3 w h)) tyX3 tyX3_ok nmX3 hw 0 rfl rfl 6 (by decide) (List.mem_cons_of_mem _ tb_150) rfl rfl (Nat.le_of_ble_eq_true rfl) (wK cA h (up (up (up (up (up (up (up σ 1 (ix (σ 0 0)) x1) 2 (ix (σ 0 0)) x2) 3 (ix (σ 0 0)) x3) 4 (ix (σ 0 0)) x4) 5 (ix (σ 0 0)) x5) 6 (ix (σ 0 0)) (vp_nar .boolean x6)) 0 0 ((σ 0 0) + 1)) ++ (wLg cA h (up (up (up (up (up (up (up σ 1 (ix (σ 0 0)) x1) 2 (ix (σ 0 0)) x2) 3 (ix (σ 0 0)) x3) 4 (ix (σ 0 0)) x4) 5 (ix (σ 0 0)) x5) 6 (ix (σ 0 0)) (vp_nar .boolean x6)) 0 0 ((σ 0 0) + 1)) L ++ (wC cA h (up (up (up (up (up (up (up σ 1 (ix (σ 0 0)) x1) 2 (ix (σ 0 0)) x2) 3 (ix (σ 0 0)) x3) 4 (ix (σ 0 0)) x4) 5 (ix (σ 0 0)) x5) 6 (ix (σ 0 0)) (vp_nar .boolean x6)) 0 0 ((σ 0 0) + 1)) ++ F))) st_K_Lg_C_0 dX3_add_76 (fun H locs hw => ?_)
    refine lv_iload hx hb dX3_add_79 (lv_at hl 0 rfl) ?_
    cases hM
    exact q_reti E hw dX3_add_81
  · replace hM := i_neg hM c1
    refine lv_bipush (v := (-6)) hx hb dX3_add_9 (by decide) ?_
    cases hM
    exact q_reti E hw dX3_add_11
def f_X3_copyFrom_10 (N : Nat)   : Nat → Int32 → Sg → Sg → Option (Sg)
  | 0, _, _, _ => none
  | n + 1, x2, σ, τ => (if 6 ≤ x2 then some σ else if ib x2 6 then f_X3_copyFrom_10 N n (x2 + 1) (up (up (up (up (up (up σ 1 (ix x2) (τ 1 (ix x2))) 2 (ix x2) (τ 2 (ix x2))) 3 (ix x2) (τ 3 (ix x2))) 4 (ix x2) (τ 4 (ix x2))) 5 (ix x2) (τ 5 (ix x2))) 6 (ix x2) (vp_nar .boolean (τ 6 (ix x2)))) τ else none)
set_option maxRecDepth 100000 in
set_option maxHeartbeats 4000000 in
theorem s_X3_copyFrom_10 (l : Launch) (D : va_G) (cA : Nat → ClassId) (tS : Nat → Nat) (A : Nat → Prop) (h : Nat → Nat) (t : Nat → Nat) (F : va_W) (N : Nat) {p : Program} {e : Env} {s : State} {m : MethodId} {args : Array Value} {below : List Frame} {meth : Method} {c : Code} (E : Ev p cX3_copyFrom 3 none RX3 (Cond.code yX3_copyFrom cX3_copyFrom 3 none :: bw) D cA tS A s m args meth c) : ∀ (n : Nat) (x2 : Int32) (σ : Sg) (τ : Sg) (s0 : Sg) (hM : f_X3_copyFrom_10 N n x2 σ τ = some s0) (H : Heap) (locs : List Loc) (hw : Wd D A (wK cA h σ ++ (wK cA t τ ++ F)) s.heap H locs) (ls : Array Slot) (hl : lv_has ls 3 [(0, .ref (h 40)), (1, .ref (t 40)), (2, .int x2)]), W p l e ({ frames := 0, cells := 0, slots := 0, locals := 0 } : Room) s m args below meth c H locs 0 0 (MQ below (QW D A none (wK cA h s0 ++ (wK cA t τ ++ F))) args s 0 0 A) (F0 m 10 ls []) := by
  have hx := E.1.1
  have hb := E.1.2.1
  intro n
  induction n with
  | zero =>
    intro x2 σ τ s0 hM
    cases hM
  | succ n ih =>
    intro x2 σ τ s0 hM H locs hw ls hl
    rw [f_X3_copyFrom_10] at hM
    refine lv_iload_n hx hb dX3_copyFrom_10 rfl (lv_at hl 2 rfl) ?_
    refine lv_bipush (v := 6) hx hb dX3_copyFrom_11 (by decide) ?_
    refine lv_icmp_ge (tgt := 94) hx hb dX3_copyFrom_13 (by decide) (fun c1 => ?_) (fun c1 => ?_)
    · replace hM := i_pos hM c1
      cases hM
      exact q_retv E hw dX3_copyFrom_94
    · replace hM := i_neg hM c1
      refine lv_aload_n hx hb dX3_copyFrom_16 rfl (lv_at hl 0 rfl) ?_
      refine q_get (C := RX3) (T := TX3) (N := 7) (ci := 3) E (fun w h => List.mem_cons_of_mem _ (inX3 w h)) hw 0 rfl rfl 0 (by decide) (List.mem_cons_of_mem _ tb_138) (v := .ref (h 1)) rfl dX3_copyFrom_17 ?_
      refine lv_iload_n hx hb dX3_copyFrom_20 rfl (lv_at hl 2 rfl) ?_
      refine lv_aload_n hx hb dX3_copyFrom_21 rfl (lv_at hl 1 rfl) ?_
      refine q_get (C := RX3) (T := TX3) (N := 7) (ci := 3) E (fun w h => List.mem_cons_of_mem _ (inX3 w h)) hw 7 rfl rfl 0 (by decide) (List.mem_cons_of_mem _ tb_138) (v := .ref (t 1)) rfl dX3_copyFrom_22 ?_
      refine lv_iload_n hx hb dX3_copyFrom_25 rfl (lv_at hl 2 rfl) ?_
      obtain ⟨g2, hM⟩ := g_some hM
      refine q_ald E hw 8 (n := 6) rfl g2 (x := (τ 1 (ix x2))) rfl dX3_copyFrom_26 ?_
      refine q_ast E hw 1 (n := 6) rfl g2 (wK cA h (up σ 1 (ix x2) (τ 1 (ix x2))) ++ (wK cA t τ ++ F)) st_K_K2_1 dX3_copyFrom_27 (fun H locs hw => ?_)
      refine lv_aload_n hx hb dX3_copyFrom_28 rfl (lv_at hl 0 rfl) ?_
      refine q_get (C := RX3) (T := TX3) (N := 7) (ci := 3) E (fun w h => List.mem_cons_of_mem _ (inX3 w h)) hw 0 rfl rfl 1 (by decide) (List.mem_cons_of_mem _ tb_140) (v := .ref (h 2)) rfl dX3_copyFrom_29 ?_
      refine lv_iload_n hx hb dX3_copyFrom_32 rfl (lv_at hl 2 rfl) ?_
      refine lv_aload_n hx hb dX3_copyFrom_33 rfl (lv_at hl 1 rfl) ?_
      refine q_get (C := RX3) (T := TX3) (N := 7) (ci := 3) E (fun w h => List.mem_cons_of_mem _ (inX3 w h)) hw 7 rfl rfl 1 (by decide) (List.mem_cons_of_mem _ tb_140) (v := .ref (t 2)) rfl dX3_copyFrom_34 ?_
      refine lv_iload_n hx hb dX3_copyFrom_37 rfl (lv_at hl 2 rfl) ?_
      refine q_ald E hw 9 (n := 6) rfl g2 (x := (τ 2 (ix x2))) rfl dX3_copyFrom_38 ?_
      refine q_ast E hw 2 (n := 6) rfl g2 (wK cA h (up (up σ 1 (ix x2) (τ 1 (ix x2))) 2 (ix x2) (τ 2 (ix x2))) ++ (wK cA t τ ++ F)) st_K_K2_2 dX3_copyFrom_39 (fun H locs hw => ?_)
      refine lv_aload_n hx hb dX3_copyFrom_40 rfl (lv_at hl 0 rfl) ?_
      refine q_get (C := RX3) (T := TX3) (N := 7) (ci := 3) E (fun w h => List.mem_cons_of_mem _ (inX3 w h)) hw 0 rfl rfl 2 (by decide) (List.mem_cons_of_mem _ tb_142) (v := .ref (h 3)) rfl dX3_copyFrom_41 ?_
      refine lv_iload_n hx hb dX3_copyFrom_44 rfl (lv_at hl 2 rfl) ?_
      refine lv_aload_n hx hb dX3_copyFrom_45 rfl (lv_at hl 1 rfl) ?_
      refine q_get (C := RX3) (T := TX3) (N := 7) (ci := 3) E (fun w h => List.mem_cons_of_mem _ (inX3 w h)) hw 7 rfl rfl 2 (by decide) (List.mem_cons_of_mem _ tb_142) (v := .ref (t 3)) rfl dX3_copyFrom_46 ?_
      refine lv_iload_n hx hb dX3_copyFrom_49 rfl (lv_at hl 2 rfl) ?_
      refine q_ald E hw 10 (n := 6) rfl g2 (x := (τ 3 (ix x2))) rfl dX3_copyFrom_50 ?_
      refine q_ast E hw 3 (n := 6) rfl g2 (wK cA h (up (up (up σ 1 (ix x2) (τ 1 (ix x2))) 2 (ix x2) (τ 2 (ix x2))) 3 (ix x2) (τ 3 (ix x2))) ++ (wK cA t τ ++ F)) st_K_K2_3 dX3_copyFrom_51 (fun H locs hw => ?_)
      refine lv_aload_n hx hb dX3_copyFrom_52 rfl (lv_at hl 0 rfl) ?_
      refine q_get (C := RX3) (T := TX3) (N := 7) (ci := 3) E (fun w h => List.mem_cons_of_mem _ (inX3 w h)) hw 0 rfl rfl 3 (by decide) (List.mem_cons_of_mem _ tb_144) (v := .ref (h 4)) rfl dX3_copyFrom_53 ?_
      refine lv_iload_n hx hb dX3_copyFrom_56 rfl (lv_at hl 2 rfl) ?_
      refine lv_aload_n hx hb dX3_copyFrom_57 rfl (lv_at hl 1 rfl) ?_
      refine q_get (C := RX3) (T := TX3) (N := 7) (ci := 3) E (fun w h => List.mem_cons_of_mem _ (inX3 w h)) hw 7 rfl rfl 3 (by decide) (List.mem_cons_of_mem _ tb_144) (v := .ref (t 4)) rfl dX3_copyFrom_58 ?_
      refine lv_iload_n hx hb dX3_copyFrom_61 rfl (lv_at hl 2 rfl) ?_
      refine q_ald E hw 11 (n := 6) rfl g2 (x := (τ 4 (ix x2))) rfl dX3_copyFrom_62 ?_
      refine q_ast E hw 4 (n := 6) rfl g2 (wK cA h (up (up (up (up σ 1 (ix x2) (τ 1 (ix x2))) 2 (ix x2) (τ 2 (ix x2))) 3 (ix x2) (τ 3 (ix x2))) 4 (ix x2) (τ 4 (ix x2))) ++ (wK cA t τ ++ F)) st_K_K2_4 dX3_copyFrom_63 (fun H locs hw => ?_)
      refine lv_aload_n hx hb dX3_copyFrom_64 rfl (lv_at hl 0 rfl) ?_
      refine q_get (C := RX3) (T := TX3) (N := 7) (ci := 3) E (fun w h => List.mem_cons_of_mem _ (inX3 w h)) hw 0 rfl rfl 4 (by decide) (List.mem_cons_of_mem _ tb_146) (v := .ref (h 5)) rfl dX3_copyFrom_65 ?_
      refine lv_iload_n hx hb dX3_copyFrom_68 rfl (lv_at hl 2 rfl) ?_
      refine lv_aload_n hx hb dX3_copyFrom_69 rfl (lv_at hl 1 rfl) ?_
      refine q_get (C := RX3) (T := TX3) (N := 7) (ci := 3) E (fun w h => List.mem_cons_of_mem _ (inX3 w h)) hw 7 rfl rfl 4 (by decide) (List.mem_cons_of_mem _ tb_146) (v := .ref (t 5)) rfl dX3_copyFrom_70 ?_
      refine lv_iload_n hx hb dX3_copyFrom_73 rfl (lv_at hl 2 rfl) ?_
      refine q_ald E hw 12 (n := 6) rfl g2 (x := (τ 5 (ix x2))) rfl dX3_copyFrom_74 ?_
      refine q_ast E hw 5 (n := 6) rfl g2 (wK cA h (up (up (up (up (up σ 1 (ix x2) (τ 1 (ix x2))) 2 (ix x2) (τ 2 (ix x2))) 3 (ix x2) (τ 3 (ix x2))) 4 (ix x2) (τ 4 (ix x2))) 5 (ix x2) (τ 5 (ix x2))) ++ (wK cA t τ ++ F)) st_K_K2_5 dX3_copyFrom_75 (fun H locs hw => ?_)
      refine lv_aload_n hx hb dX3_copyFrom_76 rfl (lv_at hl 0 rfl) ?_
      refine q_get (C := RX3) (T := TX3) (N := 7) (ci := 3) E (fun w h => List.mem_cons_of_mem _ (inX3 w h)) hw 0 rfl rfl 5 (by decide) (List.mem_cons_of_mem _ tb_148) (v := .ref (h 6)) rfl dX3_copyFrom_77 ?_
      refine lv_iload_n hx hb dX3_copyFrom_80 rfl (lv_at hl 2 rfl) ?_
      refine lv_aload_n hx hb dX3_copyFrom_81 rfl (lv_at hl 1 rfl) ?_
      refine q_get (C := RX3) (T := TX3) (N := 7) (ci := 3) E (fun w h => List.mem_cons_of_mem _ (inX3 w h)) hw 7 rfl rfl 5 (by decide) (List.mem_cons_of_mem _ tb_148) (v := .ref (t 6)) rfl dX3_copyFrom_82 ?_
      refine lv_iload_n hx hb dX3_copyFrom_85 rfl (lv_at hl 2 rfl) ?_
      refine q_zld E hw 13 (n := 6) rfl g2 (x := (τ 6 (ix x2))) rfl dX3_copyFrom_86 ?_
      refine q_zst E hw 6 (n := 6) rfl g2 (wK cA h (up (up (up (up (up (up σ 1 (ix x2) (τ 1 (ix x2))) 2 (ix x2) (τ 2 (ix x2))) 3 (ix x2) (τ 3 (ix x2))) 4 (ix x2) (τ 4 (ix x2))) 5 (ix x2) (τ 5 (ix x2))) 6 (ix x2) (vp_nar .boolean (τ 6 (ix x2)))) ++ (wK cA t τ ++ F)) st_K_K2_6 dX3_copyFrom_87 (fun H locs hw => ?_)
      refine lv_iinc (v := (x2 + 1)) (lv' := [(2, .int (x2 + 1)), (0, .ref (h 40)), (1, .ref (t 40))]) hx hb dX3_copyFrom_88 hl (k := 2) rfl rfl (by decide) rfl (fun ls hl => ?_)
      refine lv_goto (tgt := 10) hx hb dX3_copyFrom_91 (by decide) ?_
      exact ih _ _ _ _ hM _ _ hw _ (lv_sub hl [1, 2, 0] rfl)
def f_X3_copyFrom (N : Nat)   (σ : Sg) (τ : Sg) : Option (Sg) := f_X3_copyFrom_10 N N 0 (up σ 0 0 (τ 0 0)) τ
set_option maxRecDepth 100000 in
set_option maxHeartbeats 4000000 in
theorem c_X3_copyFrom (l : Launch) (D : va_G) (cA : Nat → ClassId) (tS : Nat → Nat) (A : Nat → Prop) (h : Nat → Nat) (t : Nat → Nat) (F : va_W) (N : Nat) (σ : Sg) (τ : Sg) (s0 : Sg) (hM : f_X3_copyFrom N σ τ = some s0) : Ct l yX3_copyFrom (Cond.code yX3_copyFrom cX3_copyFrom 3 none :: bw) 0 0 D cA tS A [.ref (h 40), .ref (t 40)] (wK cA h σ ++ (wK cA t τ ++ F)) none (wK cA h s0 ++ (wK cA t τ ++ F)) := by
  refine ct_of (by decide +kernel) (Nat.le_of_ble_eq_true rfl) ?_
  intro p e s m below meth c E hw ls hl
  replace E : Ev p cX3_copyFrom 3 none RX3 (Cond.code yX3_copyFrom cX3_copyFrom 3 none :: bw) D cA tS A s m _ meth c := E
  replace hl : lv_has ls 3 [(0, .ref (h 40)), (1, .ref (t 40))] := hl
  have hx := E.1.1
  have hb := E.1.2.1
  unfold f_X3_copyFrom at hM
  refine lv_aload_n hx hb dX3_copyFrom_0 rfl (lv_at hl 0 rfl) ?_
  refine lv_aload_n hx hb dX3_copyFrom_1 rfl (lv_at hl 1 rfl) ?_
  refine q_get (C := RX3) (T := TX3) (N := 7) (ci := 3) E (fun w h => List.mem_cons_of_mem _ (inX3 w h)) hw 7 rfl rfl 6 (by decide) (List.mem_cons_of_mem _ tb_150) (v := .int (τ 0 0)) rfl dX3_copyFrom_2 ?_
  refine q_puti (C := RX3) (T := TX3) (N := 7) (ci := 3) E (fun w h => List.mem_cons_of_mem _ (inX3 w h)) tyX3 tyX3_ok nmX3 hw 0 rfl rfl 6 (by decide) (List.mem_cons_of_mem _ tb_150) rfl rfl (Nat.le_of_ble_eq_true rfl) (wK cA h (up σ 0 0 (τ 0 0)) ++ (wK cA t τ ++ F)) st_K_K2_0 dX3_copyFrom_5 (fun H locs hw => ?_)
  refine lv_iconst (v := 0) hx hb dX3_copyFrom_8 (by decide) ?_
  refine lv_istore_n (lv' := [(2, .int 0), (0, .ref (h 40)), (1, .ref (t 40))]) hx hb dX3_copyFrom_9 rfl hl (by decide) rfl (fun ls hl => ?_)
  exact s_X3_copyFrom_10 l D cA tS A h t F N E N _ _ _ _ hM _ _ hw _ (lv_sub hl [1, 2, 0] rfl)
def f_X4_copyFrom  (L : Nat) (L2 : Nat)  (σ : Sg) (τ : Sg) : Option (Sg) := if ¬ (if (Int32.ofNat L) < (τ 7 0) then (Int32.ofNat L) else (τ 7 0)) < 0 then if ix 0 + ix (if (Int32.ofNat L) < (τ 7 0) then (Int32.ofNat L) else (τ 7 0)) ≤ L2 then if ix 0 + ix (if (Int32.ofNat L) < (τ 7 0) then (Int32.ofNat L) else (τ 7 0)) ≤ L then some (upr (upr (upr (upr (up σ 7 0 (if (Int32.ofNat L) < (τ 7 0) then (Int32.ofNat L) else (τ 7 0))) 8 (va_cpy (τ 8) (σ 8) (ix 0) (ix 0) (ix (if (Int32.ofNat L) < (τ 7 0) then (Int32.ofNat L) else (τ 7 0))))) 9 (va_cpy (τ 9) (σ 9) (ix 0) (ix 0) (ix (if (Int32.ofNat L) < (τ 7 0) then (Int32.ofNat L) else (τ 7 0))))) 10 (va_cpy (τ 10) (σ 10) (ix 0) (ix 0) (ix (if (Int32.ofNat L) < (τ 7 0) then (Int32.ofNat L) else (τ 7 0))))) 11 (va_cpy (τ 11) (σ 11) (ix 0) (ix 0) (ix (if (Int32.ofNat L) < (τ 7 0) then (Int32.ofNat L) else (τ 7 0))))) else none else none else none
set_option maxRecDepth 100000 in
set_option maxHeartbeats 4000000 in
theorem c_X4_copyFrom (l : Launch) (D : va_G) (cA : Nat → ClassId) (tS : Nat → Nat) (A : Nat → Prop) (h : Nat → Nat) (t : Nat → Nat) (L : Nat) (L2 : Nat) (F : va_W) (σ : Sg) (τ : Sg) (s0 : Sg) (hM : f_X4_copyFrom L L2 σ τ = some s0) : Ct l yX4_copyFrom (Cond.code yX4_copyFrom cX4_copyFrom 2 none :: bw) 1 53 D cA tS A [.ref (h 41), .ref (t 41)] (wLg cA h σ L ++ (wLg cA t τ L2 ++ F)) none (wLg cA h s0 L ++ (wLg cA t τ L2 ++ F)) := by
  refine ct_of (by decide +kernel) (Nat.le_of_ble_eq_true rfl) ?_
  intro p e s m below meth c E hw ls hl
  replace E : Ev p cX4_copyFrom 2 none RX4 (Cond.code yX4_copyFrom cX4_copyFrom 2 none :: bw) D cA tS A s m _ meth c := E
  replace hl : lv_has ls 2 [(0, .ref (h 41)), (1, .ref (t 41))] := hl
  have hx := E.1.1
  have hb := E.1.2.1
  unfold f_X4_copyFrom at hM
  refine lv_aload_n hx hb dX4_copyFrom_0 rfl (lv_at hl 0 rfl) ?_
  refine lv_aload_n hx hb dX4_copyFrom_1 rfl (lv_at hl 1 rfl) ?_
  refine q_get (C := RX4) (T := TX4) (N := 5) (ci := 4) E (fun w h => List.mem_cons_of_mem _ (inX4 w h)) hw 5 rfl rfl 4 (by decide) (List.mem_cons_of_mem _ tb_187) (v := .int (τ 7 0)) rfl dX4_copyFrom_2 ?_
  refine lv_aload_n hx hb dX4_copyFrom_5 rfl (lv_at hl 0 rfl) ?_
  refine q_get (C := RX4) (T := TX4) (N := 5) (ci := 4) E (fun w h => List.mem_cons_of_mem _ (inX4 w h)) hw 0 rfl rfl 0 (by decide) (List.mem_cons_of_mem _ tb_179) (v := .ref (h 8)) rfl dX4_copyFrom_6 ?_
  refine va_alen hx hb E.2.2.2.2.1 hw.1 1 0 rfl rfl (v := (Int32.ofNat L)) rfl dX4_copyFrom_9 ?_
  refine va_mmin hx hb (E.1.2.2.1.trans hl.1.symm) E.1.2.2.2.1 (E.1.2.2.2.2 _ (List.mem_cons_of_mem _ tb_1135)) (E.1.2.2.2.2 _ (List.mem_cons_of_mem _ tb_626)) (E.1.2.2.2.2 _ (List.mem_cons_of_mem _ tb_104)) (E.1.2.2.2.2 _ (List.mem_cons_of_mem _ tb_627)) (Nat.le_of_ble_eq_true rfl) (Nat.le_of_ble_eq_true rfl) (Nat.zero_le _) (Nat.zero_le _) dX4_copyFrom_10 ?_
  refine q_puti (C := RX4) (T := TX4) (N := 5) (ci := 4) E (fun w h => List.mem_cons_of_mem _ (inX4 w h)) tyX4 tyX4_ok nmX4 hw 0 rfl rfl 4 (by decide) (List.mem_cons_of_mem _ tb_187) rfl rfl (Nat.le_of_ble_eq_true rfl) (wLg cA h (up σ 7 0 (if (Int32.ofNat L) < (τ 7 0) then (Int32.ofNat L) else (τ 7 0))) L ++ (wLg cA t τ L2 ++ F)) st_Lg_Lg2_7 dX4_copyFrom_13 (fun H locs hw => ?_)
  refine lv_aload_n hx hb dX4_copyFrom_16 rfl (lv_at hl 1 rfl) ?_
  refine q_get (C := RX4) (T := TX4) (N := 5) (ci := 4) E (fun w h => List.mem_cons_of_mem _ (inX4 w h)) hw 5 rfl rfl 0 (by decide) (List.mem_cons_of_mem _ tb_179) (v := .ref (t 8)) rfl dX4_copyFrom_17 ?_
  refine lv_iconst (v := 0) hx hb dX4_copyFrom_20 (by decide) ?_
  refine lv_aload_n hx hb dX4_copyFrom_21 rfl (lv_at hl 0 rfl) ?_
  refine q_get (C := RX4) (T := TX4) (N := 5) (ci := 4) E (fun w h => List.mem_cons_of_mem _ (inX4 w h)) hw 0 rfl rfl 0 (by decide) (List.mem_cons_of_mem _ tb_179) (v := .ref (h 8)) rfl dX4_copyFrom_22 ?_
  refine lv_iconst (v := 0) hx hb dX4_copyFrom_25 (by decide) ?_
  refine lv_aload_n hx hb dX4_copyFrom_26 rfl (lv_at hl 0 rfl) ?_
  refine q_get (C := RX4) (T := TX4) (N := 5) (ci := 4) E (fun w h => List.mem_cons_of_mem _ (inX4 w h)) hw 0 rfl rfl 4 (by decide) (List.mem_cons_of_mem _ tb_187) (v := .int (if (Int32.ofNat L) < (τ 7 0) then (Int32.ofNat L) else (τ 7 0))) (q_fld (up_at0 σ 7 (if (Int32.ofNat L) < (τ 7 0) then (Int32.ofNat L) else (τ 7 0))) rfl) dX4_copyFrom_27 ?_
  obtain ⟨g1, hM⟩ := g_some hM
  obtain ⟨g2, hM⟩ := g_some hM
  obtain ⟨g3, hM⟩ := g_some hM
  refine q_copy E hw hl 6 1 rfl rfl rfl (up_ne σ 7 0 (if (Int32.ofNat L) < (τ 7 0) then (Int32.ofNat L) else (τ 7 0)) 8 (by decide)) (List.mem_cons_of_mem _ tb_1136) (List.mem_cons_of_mem _ tb_367) (List.mem_cons_of_mem _ tb_366) (List.mem_cons_of_mem _ tb_109) (by decide +kernel) (by decide +kernel) g1 g2 g3 (Nat.le_of_ble_eq_true rfl) (Nat.le_of_ble_eq_true rfl) (wLg cA h (upr (up σ 7 0 (if (Int32.ofNat L) < (τ 7 0) then (Int32.ofNat L) else (τ 7 0))) 8 (va_cpy (τ 8) (σ 8) (ix 0) (ix 0) (ix (if (Int32.ofNat L) < (τ 7 0) then (Int32.ofNat L) else (τ 7 0))))) L ++ (wLg cA t τ L2 ++ F)) st_Lg_Lg2_8r dX4_copyFrom_30 (fun H locs hw => ?_)
  refine lv_aload_n hx hb dX4_copyFrom_33 rfl (lv_at hl 1 rfl) ?_
  refine q_get (C := RX4) (T := TX4) (N := 5) (ci := 4) E (fun w h => List.mem_cons_of_mem _ (inX4 w h)) hw 5 rfl rfl 1 (by decide) (List.mem_cons_of_mem _ tb_181) (v := .ref (t 9)) rfl dX4_copyFrom_34 ?_
  refine lv_iconst (v := 0) hx hb dX4_copyFrom_37 (by decide) ?_
  refine lv_aload_n hx hb dX4_copyFrom_38 rfl (lv_at hl 0 rfl) ?_
  refine q_get (C := RX4) (T := TX4) (N := 5) (ci := 4) E (fun w h => List.mem_cons_of_mem _ (inX4 w h)) hw 0 rfl rfl 1 (by decide) (List.mem_cons_of_mem _ tb_181) (v := .ref (h 9)) rfl dX4_copyFrom_39 ?_
  refine lv_iconst (v := 0) hx hb dX4_copyFrom_42 (by decide) ?_
  refine lv_aload_n hx hb dX4_copyFrom_43 rfl (lv_at hl 0 rfl) ?_
  refine q_get (C := RX4) (T := TX4) (N := 5) (ci := 4) E (fun w h => List.mem_cons_of_mem _ (inX4 w h)) hw 0 rfl rfl 4 (by decide) (List.mem_cons_of_mem _ tb_187) (v := .int (if (Int32.ofNat L) < (τ 7 0) then (Int32.ofNat L) else (τ 7 0))) (q_fld ((congrFun (upr_ne (up σ 7 0 (if (Int32.ofNat L) < (τ 7 0) then (Int32.ofNat L) else (τ 7 0))) 8 (va_cpy (τ 8) (σ 8) (ix 0) (ix 0) (ix (if (Int32.ofNat L) < (τ 7 0) then (Int32.ofNat L) else (τ 7 0)))) 7 (by decide)) 0).trans (up_at0 σ 7 (if (Int32.ofNat L) < (τ 7 0) then (Int32.ofNat L) else (τ 7 0)))) rfl) dX4_copyFrom_44 ?_
  refine q_copy E hw hl 7 2 rfl rfl rfl ((upr_ne (up σ 7 0 (if (Int32.ofNat L) < (τ 7 0) then (Int32.ofNat L) else (τ 7 0))) 8 (va_cpy (τ 8) (σ 8) (ix 0) (ix 0) (ix (if (Int32.ofNat L) < (τ 7 0) then (Int32.ofNat L) else (τ 7 0)))) 9 (by decide)).trans (up_ne σ 7 0 (if (Int32.ofNat L) < (τ 7 0) then (Int32.ofNat L) else (τ 7 0)) 9 (by decide))) (List.mem_cons_of_mem _ tb_1136) (List.mem_cons_of_mem _ tb_367) (List.mem_cons_of_mem _ tb_366) (List.mem_cons_of_mem _ tb_109) (by decide +kernel) (by decide +kernel) g1 g2 g3 (Nat.le_of_ble_eq_true rfl) (Nat.le_of_ble_eq_true rfl) (wLg cA h (upr (upr (up σ 7 0 (if (Int32.ofNat L) < (τ 7 0) then (Int32.ofNat L) else (τ 7 0))) 8 (va_cpy (τ 8) (σ 8) (ix 0) (ix 0) (ix (if (Int32.ofNat L) < (τ 7 0) then (Int32.ofNat L) else (τ 7 0))))) 9 (va_cpy (τ 9) (σ 9) (ix 0) (ix 0) (ix (if (Int32.ofNat L) < (τ 7 0) then (Int32.ofNat L) else (τ 7 0))))) L ++ (wLg cA t τ L2 ++ F)) st_Lg_Lg2_9r dX4_copyFrom_47 (fun H locs hw => ?_)
  refine lv_aload_n hx hb dX4_copyFrom_50 rfl (lv_at hl 1 rfl) ?_
  refine q_get (C := RX4) (T := TX4) (N := 5) (ci := 4) E (fun w h => List.mem_cons_of_mem _ (inX4 w h)) hw 5 rfl rfl 2 (by decide) (List.mem_cons_of_mem _ tb_183) (v := .ref (t 10)) rfl dX4_copyFrom_51 ?_
  refine lv_iconst (v := 0) hx hb dX4_copyFrom_54 (by decide) ?_
  refine lv_aload_n hx hb dX4_copyFrom_55 rfl (lv_at hl 0 rfl) ?_
  refine q_get (C := RX4) (T := TX4) (N := 5) (ci := 4) E (fun w h => List.mem_cons_of_mem _ (inX4 w h)) hw 0 rfl rfl 2 (by decide) (List.mem_cons_of_mem _ tb_183) (v := .ref (h 10)) rfl dX4_copyFrom_56 ?_
  refine lv_iconst (v := 0) hx hb dX4_copyFrom_59 (by decide) ?_
  refine lv_aload_n hx hb dX4_copyFrom_60 rfl (lv_at hl 0 rfl) ?_
  refine q_get (C := RX4) (T := TX4) (N := 5) (ci := 4) E (fun w h => List.mem_cons_of_mem _ (inX4 w h)) hw 0 rfl rfl 4 (by decide) (List.mem_cons_of_mem _ tb_187) (v := .int (if (Int32.ofNat L) < (τ 7 0) then (Int32.ofNat L) else (τ 7 0))) (q_fld ((congrFun ((upr_ne (upr (up σ 7 0 (if (Int32.ofNat L) < (τ 7 0) then (Int32.ofNat L) else (τ 7 0))) 8 (va_cpy (τ 8) (σ 8) (ix 0) (ix 0) (ix (if (Int32.ofNat L) < (τ 7 0) then (Int32.ofNat L) else (τ 7 0))))) 9 (va_cpy (τ 9) (σ 9) (ix 0) (ix 0) (ix (if (Int32.ofNat L) < (τ 7 0) then (Int32.ofNat L) else (τ 7 0)))) 7 (by decide)).trans (upr_ne (up σ 7 0 (if (Int32.ofNat L) < (τ 7 0) then (Int32.ofNat L) else (τ 7 0))) 8 (va_cpy (τ 8) (σ 8) (ix 0) (ix 0) (ix (if (Int32.ofNat L) < (τ 7 0) then (Int32.ofNat L) else (τ 7 0)))) 7 (by decide))) 0).trans (up_at0 σ 7 (if (Int32.ofNat L) < (τ 7 0) then (Int32.ofNat L) else (τ 7 0)))) rfl) dX4_copyFrom_61 ?_
  refine q_copy E hw hl 8 3 rfl rfl rfl (((upr_ne (upr (up σ 7 0 (if (Int32.ofNat L) < (τ 7 0) then (Int32.ofNat L) else (τ 7 0))) 8 (va_cpy (τ 8) (σ 8) (ix 0) (ix 0) (ix (if (Int32.ofNat L) < (τ 7 0) then (Int32.ofNat L) else (τ 7 0))))) 9 (va_cpy (τ 9) (σ 9) (ix 0) (ix 0) (ix (if (Int32.ofNat L) < (τ 7 0) then (Int32.ofNat L) else (τ 7 0)))) 10 (by decide)).trans (upr_ne (up σ 7 0 (if (Int32.ofNat L) < (τ 7 0) then (Int32.ofNat L) else (τ 7 0))) 8 (va_cpy (τ 8) (σ 8) (ix 0) (ix 0) (ix (if (Int32.ofNat L) < (τ 7 0) then (Int32.ofNat L) else (τ 7 0)))) 10 (by decide))).trans (up_ne σ 7 0 (if (Int32.ofNat L) < (τ 7 0) then (Int32.ofNat L) else (τ 7 0)) 10 (by decide))) (List.mem_cons_of_mem _ tb_1136) (List.mem_cons_of_mem _ tb_367) (List.mem_cons_of_mem _ tb_366) (List.mem_cons_of_mem _ tb_109) (by decide +kernel) (by decide +kernel) g1 g2 g3 (Nat.le_of_ble_eq_true rfl) (Nat.le_of_ble_eq_true rfl) (wLg cA h (upr (upr (upr (up σ 7 0 (if (Int32.ofNat L) < (τ 7 0) then (Int32.ofNat L) else (τ 7 0))) 8 (va_cpy (τ 8) (σ 8) (ix 0) (ix 0) (ix (if (Int32.ofNat L) < (τ 7 0) then (Int32.ofNat L) else (τ 7 0))))) 9 (va_cpy (τ 9) (σ 9) (ix 0) (ix 0) (ix (if (Int32.ofNat L) < (τ 7 0) then (Int32.ofNat L) else (τ 7 0))))) 10 (va_cpy (τ 10) (σ 10) (ix 0) (ix 0) (ix (if (Int32.ofNat L) < (τ 7 0) then (Int32.ofNat L) else (τ 7 0))))) L ++ (wLg cA t τ L2 ++ F)) st_Lg_Lg2_10r dX4_copyFrom_64 (fun H locs hw => ?_)
  refine lv_aload_n hx hb dX4_copyFrom_67 rfl (lv_at hl 1 rfl) ?_
  refine q_get (C := RX4) (T := TX4) (N := 5) (ci := 4) E (fun w h => List.mem_cons_of_mem _ (inX4 w h)) hw 5 rfl rfl 3 (by decide) (List.mem_cons_of_mem _ tb_185) (v := .ref (t 11)) rfl dX4_copyFrom_68 ?_
  refine lv_iconst (v := 0) hx hb dX4_copyFrom_71 (by decide) ?_
  refine lv_aload_n hx hb dX4_copyFrom_72 rfl (lv_at hl 0 rfl) ?_
  refine q_get (C := RX4) (T := TX4) (N := 5) (ci := 4) E (fun w h => List.mem_cons_of_mem _ (inX4 w h)) hw 0 rfl rfl 3 (by decide) (List.mem_cons_of_mem _ tb_185) (v := .ref (h 11)) rfl dX4_copyFrom_73 ?_
  refine lv_iconst (v := 0) hx hb dX4_copyFrom_76 (by decide) ?_
  refine lv_aload_n hx hb dX4_copyFrom_77 rfl (lv_at hl 0 rfl) ?_
  refine q_get (C := RX4) (T := TX4) (N := 5) (ci := 4) E (fun w h => List.mem_cons_of_mem _ (inX4 w h)) hw 0 rfl rfl 4 (by decide) (List.mem_cons_of_mem _ tb_187) (v := .int (if (Int32.ofNat L) < (τ 7 0) then (Int32.ofNat L) else (τ 7 0))) (q_fld ((congrFun (((upr_ne (upr (upr (up σ 7 0 (if (Int32.ofNat L) < (τ 7 0) then (Int32.ofNat L) else (τ 7 0))) 8 (va_cpy (τ 8) (σ 8) (ix 0) (ix 0) (ix (if (Int32.ofNat L) < (τ 7 0) then (Int32.ofNat L) else (τ 7 0))))) 9 (va_cpy (τ 9) (σ 9) (ix 0) (ix 0) (ix (if (Int32.ofNat L) < (τ 7 0) then (Int32.ofNat L) else (τ 7 0))))) 10 (va_cpy (τ 10) (σ 10) (ix 0) (ix 0) (ix (if (Int32.ofNat L) < (τ 7 0) then (Int32.ofNat L) else (τ 7 0)))) 7 (by decide)).trans (upr_ne (upr (up σ 7 0 (if (Int32.ofNat L) < (τ 7 0) then (Int32.ofNat L) else (τ 7 0))) 8 (va_cpy (τ 8) (σ 8) (ix 0) (ix 0) (ix (if (Int32.ofNat L) < (τ 7 0) then (Int32.ofNat L) else (τ 7 0))))) 9 (va_cpy (τ 9) (σ 9) (ix 0) (ix 0) (ix (if (Int32.ofNat L) < (τ 7 0) then (Int32.ofNat L) else (τ 7 0)))) 7 (by decide))).trans (upr_ne (up σ 7 0 (if (Int32.ofNat L) < (τ 7 0) then (Int32.ofNat L) else (τ 7 0))) 8 (va_cpy (τ 8) (σ 8) (ix 0) (ix 0) (ix (if (Int32.ofNat L) < (τ 7 0) then (Int32.ofNat L) else (τ 7 0)))) 7 (by decide))) 0).trans (up_at0 σ 7 (if (Int32.ofNat L) < (τ 7 0) then (Int32.ofNat L) else (τ 7 0)))) rfl) dX4_copyFrom_78 ?_
  refine q_copy E hw hl 9 4 rfl rfl rfl ((((upr_ne (upr (upr (up σ 7 0 (if (Int32.ofNat L) < (τ 7 0) then (Int32.ofNat L) else (τ 7 0))) 8 (va_cpy (τ 8) (σ 8) (ix 0) (ix 0) (ix (if (Int32.ofNat L) < (τ 7 0) then (Int32.ofNat L) else (τ 7 0))))) 9 (va_cpy (τ 9) (σ 9) (ix 0) (ix 0) (ix (if (Int32.ofNat L) < (τ 7 0) then (Int32.ofNat L) else (τ 7 0))))) 10 (va_cpy (τ 10) (σ 10) (ix 0) (ix 0) (ix (if (Int32.ofNat L) < (τ 7 0) then (Int32.ofNat L) else (τ 7 0)))) 11 (by decide)).trans (upr_ne (upr (up σ 7 0 (if (Int32.ofNat L) < (τ 7 0) then (Int32.ofNat L) else (τ 7 0))) 8 (va_cpy (τ 8) (σ 8) (ix 0) (ix 0) (ix (if (Int32.ofNat L) < (τ 7 0) then (Int32.ofNat L) else (τ 7 0))))) 9 (va_cpy (τ 9) (σ 9) (ix 0) (ix 0) (ix (if (Int32.ofNat L) < (τ 7 0) then (Int32.ofNat L) else (τ 7 0)))) 11 (by decide))).trans (upr_ne (up σ 7 0 (if (Int32.ofNat L) < (τ 7 0) then (Int32.ofNat L) else (τ 7 0))) 8 (va_cpy (τ 8) (σ 8) (ix 0) (ix 0) (ix (if (Int32.ofNat L) < (τ 7 0) then (Int32.ofNat L) else (τ 7 0)))) 11 (by decide))).trans (up_ne σ 7 0 (if (Int32.ofNat L) < (τ 7 0) then (Int32.ofNat L) else (τ 7 0)) 11 (by decide))) (List.mem_cons_of_mem _ tb_1136) (List.mem_cons_of_mem _ tb_367) (List.mem_cons_of_mem _ tb_366) (List.mem_cons_of_mem _ tb_109) (by decide +kernel) (by decide +kernel) g1 g2 g3 (Nat.le_of_ble_eq_true rfl) (Nat.le_of_ble_eq_true rfl) (wLg cA h (upr (upr (upr (upr (up σ 7 0 (if (Int32.ofNat L) < (τ 7 0) then (Int32.ofNat L) else (τ 7 0))) 8 (va_cpy (τ 8) (σ 8) (ix 0) (ix 0) (ix (if (Int32.ofNat L) < (τ 7 0) then (Int32.ofNat L) else (τ 7 0))))) 9 (va_cpy (τ 9) (σ 9) (ix 0) (ix 0) (ix (if (Int32.ofNat L) < (τ 7 0) then (Int32.ofNat L) else (τ 7 0))))) 10 (va_cpy (τ 10) (σ 10) (ix 0) (ix 0) (ix (if (Int32.ofNat L) < (τ 7 0) then (Int32.ofNat L) else (τ 7 0))))) 11 (va_cpy (τ 11) (σ 11) (ix 0) (ix 0) (ix (if (Int32.ofNat L) < (τ 7 0) then (Int32.ofNat L) else (τ 7 0))))) L ++ (wLg cA t τ L2 ++ F)) st_Lg_Lg2_11r dX4_copyFrom_81 (fun H locs hw => ?_)
  cases hM
  exact q_retv E hw dX4_copyFrom_84
def f_X7_countSolved_4 (N : Nat)   : Nat → Int32 → Int32 → Sg → Option (Int32)
  | 0, _, _, _ => none
  | n + 1, x1, x2, σ => (if (σ 15 0) ≤ x2 then some x1 else if ib x2 60 then (if (σ 21 (ix x2)) = 3 then f_X7_countSolved_4 N n (x1 + 1) (x2 + 1) σ else f_X7_countSolved_4 N n x1 (x2 + 1) σ) else none)
set_option maxRecDepth 100000 in
set_option maxHeartbeats 4000000 in
theorem s_X7_countSolved_4 (l : Launch) (D : va_G) (cA : Nat → ClassId) (tS : Nat → Nat) (A : Nat → Prop) (h : Nat → Nat) (L : Nat) (F : va_W) (N : Nat) {p : Program} {e : Env} {s : State} {m : MethodId} {args : Array Value} {below : List Frame} {meth : Method} {c : Code} (E : Ev p cX7_countSolved 3 (some .int) RX7 (Cond.code yX7_countSolved cX7_countSolved 3 (some .int) :: bw) D cA tS A s m args meth c) : ∀ (n : Nat) (x1 : Int32) (x2 : Int32) (σ : Sg) (r0 : Int32) (hM : f_X7_countSolved_4 N n x1 x2 σ = some r0) (H : Heap) (locs : List Loc) (hw : Wd D A (wK cA h σ ++ (wLg cA h σ L ++ (wC cA h σ ++ F))) s.heap H locs) (ls : Array Slot) (hl : lv_has ls 3 [(0, .ref (h 44)), (1, .int x1), (2, .int x2)]), W p l e ({ frames := 0, cells := 0, slots := 0, locals := 0 } : Room) s m args below meth c H locs 0 0 (MQ below (QW D A (some (.int r0)) (wK cA h σ ++ (wLg cA h σ L ++ (wC cA h σ ++ F)))) args s 0 0 A) (F0 m 4 ls []) := by
  have hx := E.1.1
  have hb := E.1.2.1
  intro n
  induction n with
  | zero =>
    intro x1 x2 σ r0 hM
    cases hM
  | succ n ih =>
    intro x1 x2 σ r0 hM H locs hw ls hl
    rw [f_X7_countSolved_4] at hM
    refine lv_iload_n hx hb dX7_countSolved_4 rfl (lv_at hl 2 rfl) ?_
    refine lv_aload_n hx hb dX7_countSolved_5 rfl (lv_at hl 0 rfl) ?_
    refine q_get (C := RX7) (T := TX7) (N := 15) (ci := 7) E (fun w h => List.mem_cons_of_mem _ (inX7 w h)) hw 16 rfl rfl 14 (by decide) (List.mem_cons_of_mem _ tb_298) (v := .int (σ 15 0)) rfl dX7_countSolved_6 ?_
    refine lv_icmp_ge (tgt := 31) hx hb dX7_countSolved_9 (by decide) (fun c1 => ?_) (fun c1 => ?_)
    · replace hM := i_pos hM c1
      refine lv_iload_n hx hb dX7_countSolved_31 rfl (lv_at hl 1 rfl) ?_
      cases hM
      exact q_reti E hw dX7_countSolved_32
    · replace hM := i_neg hM c1
      refine lv_aload_n hx hb dX7_countSolved_12 rfl (lv_at hl 0 rfl) ?_
      refine q_get (C := RX7) (T := TX7) (N := 15) (ci := 7) E (fun w h => List.mem_cons_of_mem _ (inX7 w h)) hw 16 rfl rfl 5 (by decide) (List.mem_cons_of_mem _ tb_273) (v := .ref (h 21)) rfl dX7_countSolved_13 ?_
      refine lv_iload_n hx hb dX7_countSolved_16 rfl (lv_at hl 2 rfl) ?_
      obtain ⟨g2, hM⟩ := g_some hM
      refine q_ald E hw 22 (n := 60) rfl g2 (x := (σ 21 (ix x2))) rfl dX7_countSolved_17 ?_
      refine lv_iconst (v := 3) hx hb dX7_countSolved_18 (by decide) ?_
      refine lv_icmp_ne (tgt := 25) hx hb dX7_countSolved_19 (by decide) (fun c3 => ?_) (fun c3 => ?_)
      · replace hM := i_neg hM c3
        refine lv_iinc (v := (x2 + 1)) (lv' := [(2, .int (x2 + 1)), (0, .ref (h 44)), (1, .int x1)]) hx hb dX7_countSolved_25 hl (k := 2) rfl rfl (by decide) rfl (fun ls hl => ?_)
        refine lv_goto (tgt := 4) hx hb dX7_countSolved_28 (by decide) ?_
        exact ih _ _ _ _ hM _ _ hw _ (lv_sub hl [1, 2, 0] rfl)
      · replace hM := i_pos hM c3
        refine lv_iinc (v := (x1 + 1)) (lv' := [(1, .int (x1 + 1)), (0, .ref (h 44)), (2, .int x2)]) hx hb dX7_countSolved_22 hl (k := 1) rfl rfl (by decide) rfl (fun ls hl => ?_)
        refine lv_iinc (v := (x2 + 1)) (lv' := [(2, .int (x2 + 1)), (1, .int (x1 + 1)), (0, .ref (h 44))]) hx hb dX7_countSolved_25 hl (k := 2) rfl rfl (by decide) rfl (fun ls hl => ?_)
        refine lv_goto (tgt := 4) hx hb dX7_countSolved_28 (by decide) ?_
        exact ih _ _ _ _ hM _ _ hw _ (lv_sub hl [2, 1, 0] rfl)
def f_X7_countSolved (N : Nat)   (σ : Sg) : Option (Int32) := f_X7_countSolved_4 N N 0 0 σ
set_option maxRecDepth 100000 in
set_option maxHeartbeats 4000000 in
theorem c_X7_countSolved (l : Launch) (D : va_G) (cA : Nat → ClassId) (tS : Nat → Nat) (A : Nat → Prop) (h : Nat → Nat) (L : Nat) (F : va_W) (N : Nat) (σ : Sg) (r0 : Int32) (hM : f_X7_countSolved N σ = some r0) : Ct l yX7_countSolved (Cond.code yX7_countSolved cX7_countSolved 3 (some .int) :: bw) 0 0 D cA tS A [.ref (h 44)] (wK cA h σ ++ (wLg cA h σ L ++ (wC cA h σ ++ F))) (some (.int r0)) (wK cA h σ ++ (wLg cA h σ L ++ (wC cA h σ ++ F))) := by
  refine ct_of (by decide +kernel) (Nat.le_of_ble_eq_true rfl) ?_
  intro p e s m below meth c E hw ls hl
  replace E : Ev p cX7_countSolved 3 (some .int) RX7 (Cond.code yX7_countSolved cX7_countSolved 3 (some .int) :: bw) D cA tS A s m _ meth c := E
  replace hl : lv_has ls 3 [(0, .ref (h 44))] := hl
  have hx := E.1.1
  have hb := E.1.2.1
  unfold f_X7_countSolved at hM
  refine lv_iconst (v := 0) hx hb dX7_countSolved_0 (by decide) ?_
  refine lv_istore_n (lv' := [(1, .int 0), (0, .ref (h 44))]) hx hb dX7_countSolved_1 rfl hl (by decide) rfl (fun ls hl => ?_)
  refine lv_iconst (v := 0) hx hb dX7_countSolved_2 (by decide) ?_
  refine lv_istore_n (lv' := [(2, .int 0), (1, .int 0), (0, .ref (h 44))]) hx hb dX7_countSolved_3 rfl hl (by decide) rfl (fun ls hl => ?_)
  exact s_X7_countSolved_4 l D cA tS A h L F N E N _ _ _ _ hM _ _ hw _ (lv_sub hl [2, 1, 0] rfl)
def f_X7_unsolvedMask_5 (N : Nat)   : Nat → Int32 → Int64 → Int32 → Sg → Option (Int64)
  | 0, _, _, _, _ => none
  | n + 1, x1, y2, x4, σ => (if (σ 15 0) ≤ x4 then some y2 else if ib x4 60 then (if (σ 17 (ix x4)) = x1 then (if (σ 21 (ix x4)) = 3 then f_X7_unsolvedMask_5 N n x1 y2 (x4 + 1) σ else f_X7_unsolvedMask_5 N n x1 (y2 ||| (1 <<< ((x4 : Int32).toInt64 &&& 63))) (x4 + 1) σ) else f_X7_unsolvedMask_5 N n x1 y2 (x4 + 1) σ) else none)
set_option maxRecDepth 100000 in
set_option maxHeartbeats 4000000 in
theorem s_X7_unsolvedMask_5 (l : Launch) (D : va_G) (cA : Nat → ClassId) (tS : Nat → Nat) (A : Nat → Prop) (h : Nat → Nat) (L : Nat) (F : va_W) (N : Nat) {p : Program} {e : Env} {s : State} {m : MethodId} {args : Array Value} {below : List Frame} {meth : Method} {c : Code} (E : Ev p cX7_unsolvedMask 5 (some .long) RX7 (Cond.code yX7_unsolvedMask cX7_unsolvedMask 5 (some .long) :: bw) D cA tS A s m args meth c) : ∀ (n : Nat) (x1 : Int32) (y2 : Int64) (x4 : Int32) (σ : Sg) (r0 : Int64) (hM : f_X7_unsolvedMask_5 N n x1 y2 x4 σ = some r0) (H : Heap) (locs : List Loc) (hw : Wd D A (wK cA h σ ++ (wLg cA h σ L ++ (wC cA h σ ++ F))) s.heap H locs) (ls : Array Slot) (hl : lv_has ls 5 [(0, .ref (h 44)), (1, .int x1), (2, .long y2), (4, .int x4)]), W p l e ({ frames := 0, cells := 0, slots := 0, locals := 0 } : Room) s m args below meth c H locs 0 0 (MQ below (QW D A (some (.long r0)) (wK cA h σ ++ (wLg cA h σ L ++ (wC cA h σ ++ F)))) args s 0 0 A) (F0 m 5 ls []) := by
  have hx := E.1.1
  have hb := E.1.2.1
  intro n
  induction n with
  | zero =>
    intro x1 y2 x4 σ r0 hM
    cases hM
  | succ n ih =>
    intro x1 y2 x4 σ r0 hM H locs hw ls hl
    rw [f_X7_unsolvedMask_5] at hM
    refine lv_iload hx hb dX7_unsolvedMask_5 (lv_at hl 3 rfl) ?_
    refine lv_aload_n hx hb dX7_unsolvedMask_7 rfl (lv_at hl 0 rfl) ?_
    refine q_get (C := RX7) (T := TX7) (N := 15) (ci := 7) E (fun w h => List.mem_cons_of_mem _ (inX7 w h)) hw 16 rfl rfl 14 (by decide) (List.mem_cons_of_mem _ tb_298) (v := .int (σ 15 0)) rfl dX7_unsolvedMask_8 ?_
    refine lv_icmp_ge (tgt := 49) hx hb dX7_unsolvedMask_11 (by decide) (fun c1 => ?_) (fun c1 => ?_)
    · replace hM := i_pos hM c1
      refine lv_lload_n hx hb dX7_unsolvedMask_49 rfl (lv_at hl 2 rfl) ?_
      cases hM
      exact q_retl E hw dX7_unsolvedMask_50
    · replace hM := i_neg hM c1
      refine lv_aload_n hx hb dX7_unsolvedMask_14 rfl (lv_at hl 0 rfl) ?_
      refine q_get (C := RX7) (T := TX7) (N := 15) (ci := 7) E (fun w h => List.mem_cons_of_mem _ (inX7 w h)) hw 16 rfl rfl 1 (by decide) (List.mem_cons_of_mem _ tb_265) (v := .ref (h 17)) rfl dX7_unsolvedMask_15 ?_
      refine lv_iload hx hb dX7_unsolvedMask_18 (lv_at hl 3 rfl) ?_
      obtain ⟨g2, hM⟩ := g_some hM
      refine q_ald E hw 18 (n := 60) rfl g2 (x := (σ 17 (ix x4))) rfl dX7_unsolvedMask_20 ?_
      refine lv_iload_n hx hb dX7_unsolvedMask_21 rfl (lv_at hl 1 rfl) ?_
      refine lv_icmp_ne (tgt := 43) hx hb dX7_unsolvedMask_22 (by decide) (fun c3 => ?_) (fun c3 => ?_)
      · replace hM := i_neg hM c3
        refine lv_iinc (v := (x4 + 1)) (lv' := [(4, .int (x4 + 1)), (0, .ref (h 44)), (1, .int x1), (2, .long y2)]) hx hb dX7_unsolvedMask_43 hl (k := 3) rfl rfl (by decide) rfl (fun ls hl => ?_)
        refine lv_goto (tgt := 5) hx hb dX7_unsolvedMask_46 (by decide) ?_
        exact ih _ _ _ _ _ hM _ _ hw _ (lv_sub hl [1, 2, 3, 0] rfl)
      · replace hM := i_pos hM c3
        refine lv_aload_n hx hb dX7_unsolvedMask_25 rfl (lv_at hl 0 rfl) ?_
        refine q_get (C := RX7) (T := TX7) (N := 15) (ci := 7) E (fun w h => List.mem_cons_of_mem _ (inX7 w h)) hw 16 rfl rfl 5 (by decide) (List.mem_cons_of_mem _ tb_273) (v := .ref (h 21)) rfl dX7_unsolvedMask_26 ?_
        refine lv_iload hx hb dX7_unsolvedMask_29 (lv_at hl 3 rfl) ?_
        refine q_ald E hw 22 (n := 60) rfl g2 (x := (σ 21 (ix x4))) rfl dX7_unsolvedMask_31 ?_
        refine lv_iconst (v := 3) hx hb dX7_unsolvedMask_32 (by decide) ?_
        refine lv_icmp_eq (tgt := 43) hx hb dX7_unsolvedMask_33 (by decide) (fun c4 => ?_) (fun c4 => ?_)
        · replace hM := i_pos hM c4
          refine lv_iinc (v := (x4 + 1)) (lv' := [(4, .int (x4 + 1)), (0, .ref (h 44)), (1, .int x1), (2, .long y2)]) hx hb dX7_unsolvedMask_43 hl (k := 3) rfl rfl (by decide) rfl (fun ls hl => ?_)
          refine lv_goto (tgt := 5) hx hb dX7_unsolvedMask_46 (by decide) ?_
          exact ih _ _ _ _ _ hM _ _ hw _ (lv_sub hl [1, 2, 3, 0] rfl)
        · replace hM := i_neg hM c4
          refine lv_lload_n hx hb dX7_unsolvedMask_36 rfl (lv_at hl 2 rfl) ?_
          refine lv_lconst (v := 1) hx hb dX7_unsolvedMask_37 (by decide) ?_
          refine lv_iload hx hb dX7_unsolvedMask_38 (lv_at hl 3 rfl) ?_
          refine lv_lshl (v := (1 <<< ((x4 : Int32).toInt64 &&& 63))) hx hb dX7_unsolvedMask_40 rfl ?_
          refine lv_lor hx hb dX7_unsolvedMask_41 ?_
          refine lv_lstore_n (lv' := [(2, .long (y2 ||| (1 <<< ((x4 : Int32).toInt64 &&& 63)))), (0, .ref (h 44)), (1, .int x1), (4, .int x4)]) hx hb dX7_unsolvedMask_42 rfl hl (by decide) rfl (fun ls hl => ?_)
          refine lv_iinc (v := (x4 + 1)) (lv' := [(4, .int (x4 + 1)), (2, .long (y2 ||| (1 <<< ((x4 : Int32).toInt64 &&& 63)))), (0, .ref (h 44)), (1, .int x1)]) hx hb dX7_unsolvedMask_43 hl (k := 3) rfl rfl (by decide) rfl (fun ls hl => ?_)
          refine lv_goto (tgt := 5) hx hb dX7_unsolvedMask_46 (by decide) ?_
          exact ih _ _ _ _ _ hM _ _ hw _ (lv_sub hl [2, 3, 1, 0] rfl)
def f_X7_unsolvedMask (N : Nat)   (x1 : Int32) (σ : Sg) : Option (Int64) := f_X7_unsolvedMask_5 N N x1 0 0 σ
set_option maxRecDepth 100000 in
set_option maxHeartbeats 4000000 in
theorem c_X7_unsolvedMask (l : Launch) (D : va_G) (cA : Nat → ClassId) (tS : Nat → Nat) (A : Nat → Prop) (h : Nat → Nat) (L : Nat) (F : va_W) (N : Nat) (x1 : Int32) (σ : Sg) (r0 : Int64) (hM : f_X7_unsolvedMask N x1 σ = some r0) : Ct l yX7_unsolvedMask (Cond.code yX7_unsolvedMask cX7_unsolvedMask 5 (some .long) :: bw) 0 0 D cA tS A [.ref (h 44), .int x1] (wK cA h σ ++ (wLg cA h σ L ++ (wC cA h σ ++ F))) (some (.long r0)) (wK cA h σ ++ (wLg cA h σ L ++ (wC cA h σ ++ F))) := by
  refine ct_of (by decide +kernel) (Nat.le_of_ble_eq_true rfl) ?_
  intro p e s m below meth c E hw ls hl
  replace E : Ev p cX7_unsolvedMask 5 (some .long) RX7 (Cond.code yX7_unsolvedMask cX7_unsolvedMask 5 (some .long) :: bw) D cA tS A s m _ meth c := E
  replace hl : lv_has ls 5 [(0, .ref (h 44)), (1, .int x1)] := hl
  have hx := E.1.1
  have hb := E.1.2.1
  unfold f_X7_unsolvedMask at hM
  refine lv_lconst (v := 0) hx hb dX7_unsolvedMask_0 (by decide) ?_
  refine lv_lstore_n (lv' := [(2, .long 0), (0, .ref (h 44)), (1, .int x1)]) hx hb dX7_unsolvedMask_1 rfl hl (by decide) rfl (fun ls hl => ?_)
  refine lv_iconst (v := 0) hx hb dX7_unsolvedMask_2 (by decide) ?_
  refine lv_istore (lv' := [(4, .int 0), (2, .long 0), (0, .ref (h 44)), (1, .int x1)]) hx hb dX7_unsolvedMask_3 hl (by decide) rfl (fun ls hl => ?_)
  exact s_X7_unsolvedMask_5 l D cA tS A h L F N E N _ _ _ _ _ hM _ _ hw _ (lv_sub hl [2, 3, 1, 0] rfl)
def f_X7_sameFaultBefore_2 (N : Nat)   : Nat → Int32 → Int32 → Sg → Option (Int32)
  | 0, _, _, _ => none
  | n + 1, x1, x2, σ => (if x1 ≤ x2 then some (-1) else (f_X7_standsAlone x2 σ).bind (fun p2 => (if p2 = 0 then f_X7_sameFaultBefore_2 N n x1 (x2 + 1) σ else if ib x2 60 then if ib x1 60 then (if (σ 16 (ix x2)) = (σ 16 (ix x1)) then (if (σ 18 (ix x2)) = (σ 18 (ix x1)) then (if 240 < ((σ 27 (ix x1)) - (σ 27 (ix x2))) then f_X7_sameFaultBefore_2 N n x1 (x2 + 1) σ else some x2) else f_X7_sameFaultBefore_2 N n x1 (x2 + 1) σ) else f_X7_sameFaultBefore_2 N n x1 (x2 + 1) σ) else none else none)))
set_option maxRecDepth 100000 in
set_option maxHeartbeats 4000000 in
theorem s_X7_sameFaultBefore_2 (l : Launch) (D : va_G) (cA : Nat → ClassId) (tS : Nat → Nat) (A : Nat → Prop) (h : Nat → Nat) (L : Nat) (F : va_W) (N : Nat) {p : Program} {e : Env} {s : State} {m : MethodId} {args : Array Value} {below : List Frame} {meth : Method} {c : Code} (E : Ev p cX7_sameFaultBefore 3 (some .int) RX7 (Cond.code yX7_sameFaultBefore cX7_sameFaultBefore 3 (some .int) :: bw) D cA tS A s m args meth c) : ∀ (n : Nat) (x1 : Int32) (x2 : Int32) (σ : Sg) (r0 : Int32) (hM : f_X7_sameFaultBefore_2 N n x1 x2 σ = some r0) (H : Heap) (locs : List Loc) (hw : Wd D A (wK cA h σ ++ (wLg cA h σ L ++ (wC cA h σ ++ F))) s.heap H locs) (ls : Array Slot) (hl : lv_has ls 3 [(0, .ref (h 44)), (1, .int x1), (2, .int x2)]), W p l e ({ frames := 2, cells := 0, slots := 0, locals := 42 } : Room) s m args below meth c H locs 0 0 (MQ below (QW D A (some (.int r0)) (wK cA h σ ++ (wLg cA h σ L ++ (wC cA h σ ++ F)))) args s 0 0 A) (F0 m 2 ls []) := by
  have hx := E.1.1
  have hb := E.1.2.1
  intro n
  induction n with
  | zero =>
    intro x1 x2 σ r0 hM
    cases hM
  | succ n ih =>
    intro x1 x2 σ r0 hM H locs hw ls hl
    rw [f_X7_sameFaultBefore_2] at hM
    refine lv_iload_n hx hb dX7_sameFaultBefore_2 rfl (lv_at hl 2 rfl) ?_
    refine lv_iload_n hx hb dX7_sameFaultBefore_3 rfl (lv_at hl 1 rfl) ?_
    refine lv_icmp_ge (tgt := 72) hx hb dX7_sameFaultBefore_4 (by decide) (fun c1 => ?_) (fun c1 => ?_)
    · replace hM := i_pos hM c1
      refine lv_iconst (v := (-1)) hx hb dX7_sameFaultBefore_72 (by decide) ?_
      cases hM
      exact q_reti E hw dX7_sameFaultBefore_73
    · replace hM := i_neg hM c1
      refine lv_aload_n hx hb dX7_sameFaultBefore_7 rfl (lv_at hl 0 rfl) ?_
      refine lv_iload_n hx hb dX7_sameFaultBefore_8 rfl (lv_at hl 2 rfl) ?_
      obtain ⟨p2, h3, hM⟩ := b_some hM
      refine q_cv (As := [.int x2]) (rest := []) E hw hl (c_X7_standsAlone l D cA tS A h L F x2 σ p2 h3) 1 (bwV bw_c tb_857 tb_500 tb_501 tb_108 tb_502) rfl (by decide +kernel) ⟨Nat.le_of_ble_eq_true rfl, Nat.le_of_ble_eq_true rfl⟩ 16 7 (T := TX7) (N := 15) rfl rfl rfl rfl (Nat.le_of_ble_eq_true rfl) ⟨Nat.zero_le _, Nat.zero_le _⟩ dX7_sameFaultBefore_9 (fun H locs hw => ?_)
      refine lv_if_eq (tgt := 66) hx hb dX7_sameFaultBefore_12 (by decide) (fun c4 => ?_) (fun c4 => ?_)
      · replace hM := i_pos hM c4
        refine lv_iinc (v := (x2 + 1)) (lv' := [(2, .int (x2 + 1)), (0, .ref (h 44)), (1, .int x1)]) hx hb dX7_sameFaultBefore_66 hl (k := 2) rfl rfl (by decide) rfl (fun ls hl => ?_)
        refine lv_goto (tgt := 2) hx hb dX7_sameFaultBefore_69 (by decide) ?_
        exact ih _ _ _ _ hM _ _ hw _ (lv_sub hl [1, 2, 0] rfl)
      · replace hM := i_neg hM c4
        refine lv_aload_n hx hb dX7_sameFaultBefore_15 rfl (lv_at hl 0 rfl) ?_
        refine q_get (C := RX7) (T := TX7) (N := 15) (ci := 7) E (fun w h => List.mem_cons_of_mem _ (inX7 w h)) hw 16 rfl rfl 0 (by decide) (List.mem_cons_of_mem _ tb_262) (v := .ref (h 16)) rfl dX7_sameFaultBefore_16 ?_
        refine lv_iload_n hx hb dX7_sameFaultBefore_19 rfl (lv_at hl 2 rfl) ?_
        obtain ⟨g5, hM⟩ := g_some hM
        refine q_ald E hw 17 (n := 60) rfl g5 (x := (σ 16 (ix x2))) rfl dX7_sameFaultBefore_20 ?_
        refine lv_aload_n hx hb dX7_sameFaultBefore_21 rfl (lv_at hl 0 rfl) ?_
        refine q_get (C := RX7) (T := TX7) (N := 15) (ci := 7) E (fun w h => List.mem_cons_of_mem _ (inX7 w h)) hw 16 rfl rfl 0 (by decide) (List.mem_cons_of_mem _ tb_262) (v := .ref (h 16)) rfl dX7_sameFaultBefore_22 ?_
        refine lv_iload_n hx hb dX7_sameFaultBefore_25 rfl (lv_at hl 1 rfl) ?_
        obtain ⟨g6, hM⟩ := g_some hM
        refine q_ald E hw 17 (n := 60) rfl g6 (x := (σ 16 (ix x1))) rfl dX7_sameFaultBefore_26 ?_
        refine lv_icmp_ne (tgt := 66) hx hb dX7_sameFaultBefore_27 (by decide) (fun c7 => ?_) (fun c7 => ?_)
        · replace hM := i_neg hM c7
          refine lv_iinc (v := (x2 + 1)) (lv' := [(2, .int (x2 + 1)), (0, .ref (h 44)), (1, .int x1)]) hx hb dX7_sameFaultBefore_66 hl (k := 2) rfl rfl (by decide) rfl (fun ls hl => ?_)
          refine lv_goto (tgt := 2) hx hb dX7_sameFaultBefore_69 (by decide) ?_
          exact ih _ _ _ _ hM _ _ hw _ (lv_sub hl [1, 2, 0] rfl)
        · replace hM := i_pos hM c7
          refine lv_aload_n hx hb dX7_sameFaultBefore_30 rfl (lv_at hl 0 rfl) ?_
          refine q_get (C := RX7) (T := TX7) (N := 15) (ci := 7) E (fun w h => List.mem_cons_of_mem _ (inX7 w h)) hw 16 rfl rfl 2 (by decide) (List.mem_cons_of_mem _ tb_266) (v := .ref (h 18)) rfl dX7_sameFaultBefore_31 ?_
          refine lv_iload_n hx hb dX7_sameFaultBefore_34 rfl (lv_at hl 2 rfl) ?_
          refine q_ald E hw 19 (n := 60) rfl g5 (x := (σ 18 (ix x2))) rfl dX7_sameFaultBefore_35 ?_
          refine lv_aload_n hx hb dX7_sameFaultBefore_36 rfl (lv_at hl 0 rfl) ?_
          refine q_get (C := RX7) (T := TX7) (N := 15) (ci := 7) E (fun w h => List.mem_cons_of_mem _ (inX7 w h)) hw 16 rfl rfl 2 (by decide) (List.mem_cons_of_mem _ tb_266) (v := .ref (h 18)) rfl dX7_sameFaultBefore_37 ?_
          refine lv_iload_n hx hb dX7_sameFaultBefore_40 rfl (lv_at hl 1 rfl) ?_
          refine q_ald E hw 19 (n := 60) rfl g6 (x := (σ 18 (ix x1))) rfl dX7_sameFaultBefore_41 ?_
          refine lv_icmp_ne (tgt := 66) hx hb dX7_sameFaultBefore_42 (by decide) (fun c8 => ?_) (fun c8 => ?_)
          · replace hM := i_neg hM c8
            refine lv_iinc (v := (x2 + 1)) (lv' := [(2, .int (x2 + 1)), (0, .ref (h 44)), (1, .int x1)]) hx hb dX7_sameFaultBefore_66 hl (k := 2) rfl rfl (by decide) rfl (fun ls hl => ?_)
            refine lv_goto (tgt := 2) hx hb dX7_sameFaultBefore_69 (by decide) ?_
            exact ih _ _ _ _ hM _ _ hw _ (lv_sub hl [1, 2, 0] rfl)
          · replace hM := i_pos hM c8
            refine lv_aload_n hx hb dX7_sameFaultBefore_45 rfl (lv_at hl 0 rfl) ?_
            refine q_get (C := RX7) (T := TX7) (N := 15) (ci := 7) E (fun w h => List.mem_cons_of_mem _ (inX7 w h)) hw 16 rfl rfl 11 (by decide) (List.mem_cons_of_mem _ tb_290) (v := .ref (h 27)) rfl dX7_sameFaultBefore_46 ?_
            refine lv_iload_n hx hb dX7_sameFaultBefore_49 rfl (lv_at hl 1 rfl) ?_
            refine q_ald E hw 28 (n := 60) rfl g6 (x := (σ 27 (ix x1))) rfl dX7_sameFaultBefore_50 ?_
            refine lv_aload_n hx hb dX7_sameFaultBefore_51 rfl (lv_at hl 0 rfl) ?_
            refine q_get (C := RX7) (T := TX7) (N := 15) (ci := 7) E (fun w h => List.mem_cons_of_mem _ (inX7 w h)) hw 16 rfl rfl 11 (by decide) (List.mem_cons_of_mem _ tb_290) (v := .ref (h 27)) rfl dX7_sameFaultBefore_52 ?_
            refine lv_iload_n hx hb dX7_sameFaultBefore_55 rfl (lv_at hl 2 rfl) ?_
            refine q_ald E hw 28 (n := 60) rfl g5 (x := (σ 27 (ix x2))) rfl dX7_sameFaultBefore_56 ?_
            refine lv_isub hx hb dX7_sameFaultBefore_57 ?_
            refine lv_sipush (v := 240) hx hb dX7_sameFaultBefore_58 (by decide) ?_
            refine lv_icmp_gt (tgt := 66) hx hb dX7_sameFaultBefore_61 (by decide) (fun c9 => ?_) (fun c9 => ?_)
            · replace hM := i_pos hM c9
              refine lv_iinc (v := (x2 + 1)) (lv' := [(2, .int (x2 + 1)), (0, .ref (h 44)), (1, .int x1)]) hx hb dX7_sameFaultBefore_66 hl (k := 2) rfl rfl (by decide) rfl (fun ls hl => ?_)
              refine lv_goto (tgt := 2) hx hb dX7_sameFaultBefore_69 (by decide) ?_
              exact ih _ _ _ _ hM _ _ hw _ (lv_sub hl [1, 2, 0] rfl)
            · replace hM := i_neg hM c9
              refine lv_iload_n hx hb dX7_sameFaultBefore_64 rfl (lv_at hl 2 rfl) ?_
              cases hM
              exact q_reti E hw dX7_sameFaultBefore_65
def f_X7_sameFaultBefore (N : Nat)   (x1 : Int32) (σ : Sg) : Option (Int32) := f_X7_sameFaultBefore_2 N N x1 0 σ
set_option maxRecDepth 100000 in
set_option maxHeartbeats 4000000 in
theorem c_X7_sameFaultBefore (l : Launch) (D : va_G) (cA : Nat → ClassId) (tS : Nat → Nat) (A : Nat → Prop) (h : Nat → Nat) (L : Nat) (F : va_W) (N : Nat) (x1 : Int32) (σ : Sg) (r0 : Int32) (hM : f_X7_sameFaultBefore N x1 σ = some r0) : Ct l yX7_sameFaultBefore (Cond.code yX7_sameFaultBefore cX7_sameFaultBefore 3 (some .int) :: bw) 2 42 D cA tS A [.ref (h 44), .int x1] (wK cA h σ ++ (wLg cA h σ L ++ (wC cA h σ ++ F))) (some (.int r0)) (wK cA h σ ++ (wLg cA h σ L ++ (wC cA h σ ++ F))) := by
  refine ct_of (by decide +kernel) (Nat.le_of_ble_eq_true rfl) ?_
  intro p e s m below meth c E hw ls hl
  replace E : Ev p cX7_sameFaultBefore 3 (some .int) RX7 (Cond.code yX7_sameFaultBefore cX7_sameFaultBefore 3 (some .int) :: bw) D cA tS A s m _ meth c := E
  replace hl : lv_has ls 3 [(0, .ref (h 44)), (1, .int x1)] := hl
  have hx := E.1.1
  have hb := E.1.2.1
  unfold f_X7_sameFaultBefore at hM
  refine lv_iconst (v := 0) hx hb dX7_sameFaultBefore_0 (by decide) ?_
  refine lv_istore_n (lv' := [(2, .int 0), (0, .ref (h 44)), (1, .int x1)]) hx hb dX7_sameFaultBefore_1 rfl hl (by decide) rfl (fun ls hl => ?_)
  exact s_X7_sameFaultBefore_2 l D cA tS A h L F N E N _ _ _ _ hM _ _ hw _ (lv_sub hl [1, 2, 0] rfl)
def f_X7_solvedBelow_4 (N : Nat)   : Nat → Int32 → Int32 → Int32 → Sg → Option (Int32)
  | 0, _, _, _, _ => none
  | n + 1, x1, x2, x3, σ => (if (σ 15 0) ≤ x3 then some x2 else if ib x3 60 then (if (σ 21 (ix x3)) = 3 then (if x1 ≤ (σ 25 (ix x3)) then f_X7_solvedBelow_4 N n x1 x2 (x3 + 1) σ else f_X7_solvedBelow_4 N n x1 (x2 + 1) (x3 + 1) σ) else f_X7_solvedBelow_4 N n x1 x2 (x3 + 1) σ) else none)
set_option maxRecDepth 100000 in
set_option maxHeartbeats 4000000 in
theorem s_X7_solvedBelow_4 (l : Launch) (D : va_G) (cA : Nat → ClassId) (tS : Nat → Nat) (A : Nat → Prop) (h : Nat → Nat) (L : Nat) (F : va_W) (N : Nat) {p : Program} {e : Env} {s : State} {m : MethodId} {args : Array Value} {below : List Frame} {meth : Method} {c : Code} (E : Ev p cX7_solvedBelow 4 (some .int) RX7 (Cond.code yX7_solvedBelow cX7_solvedBelow 4 (some .int) :: bw) D cA tS A s m args meth c) : ∀ (n : Nat) (x1 : Int32) (x2 : Int32) (x3 : Int32) (σ : Sg) (r0 : Int32) (hM : f_X7_solvedBelow_4 N n x1 x2 x3 σ = some r0) (H : Heap) (locs : List Loc) (hw : Wd D A (wK cA h σ ++ (wLg cA h σ L ++ (wC cA h σ ++ F))) s.heap H locs) (ls : Array Slot) (hl : lv_has ls 4 [(0, .ref (h 44)), (1, .int x1), (2, .int x2), (3, .int x3)]), W p l e ({ frames := 0, cells := 0, slots := 0, locals := 0 } : Room) s m args below meth c H locs 0 0 (MQ below (QW D A (some (.int r0)) (wK cA h σ ++ (wLg cA h σ L ++ (wC cA h σ ++ F)))) args s 0 0 A) (F0 m 4 ls []) := by
  have hx := E.1.1
  have hb := E.1.2.1
  intro n
  induction n with
  | zero =>
    intro x1 x2 x3 σ r0 hM
    cases hM
  | succ n ih =>
    intro x1 x2 x3 σ r0 hM H locs hw ls hl
    rw [f_X7_solvedBelow_4] at hM
    refine lv_iload_n hx hb dX7_solvedBelow_4 rfl (lv_at hl 3 rfl) ?_
    refine lv_aload_n hx hb dX7_solvedBelow_5 rfl (lv_at hl 0 rfl) ?_
    refine q_get (C := RX7) (T := TX7) (N := 15) (ci := 7) E (fun w h => List.mem_cons_of_mem _ (inX7 w h)) hw 16 rfl rfl 14 (by decide) (List.mem_cons_of_mem _ tb_298) (v := .int (σ 15 0)) rfl dX7_solvedBelow_6 ?_
    refine lv_icmp_ge (tgt := 41) hx hb dX7_solvedBelow_9 (by decide) (fun c1 => ?_) (fun c1 => ?_)
    · replace hM := i_pos hM c1
      refine lv_iload_n hx hb dX7_solvedBelow_41 rfl (lv_at hl 2 rfl) ?_
      cases hM
      exact q_reti E hw dX7_solvedBelow_42
    · replace hM := i_neg hM c1
      refine lv_aload_n hx hb dX7_solvedBelow_12 rfl (lv_at hl 0 rfl) ?_
      refine q_get (C := RX7) (T := TX7) (N := 15) (ci := 7) E (fun w h => List.mem_cons_of_mem _ (inX7 w h)) hw 16 rfl rfl 5 (by decide) (List.mem_cons_of_mem _ tb_273) (v := .ref (h 21)) rfl dX7_solvedBelow_13 ?_
      refine lv_iload_n hx hb dX7_solvedBelow_16 rfl (lv_at hl 3 rfl) ?_
      obtain ⟨g2, hM⟩ := g_some hM
      refine q_ald E hw 22 (n := 60) rfl g2 (x := (σ 21 (ix x3))) rfl dX7_solvedBelow_17 ?_
      refine lv_iconst (v := 3) hx hb dX7_solvedBelow_18 (by decide) ?_
      refine lv_icmp_ne (tgt := 35) hx hb dX7_solvedBelow_19 (by decide) (fun c3 => ?_) (fun c3 => ?_)
      · replace hM := i_neg hM c3
        refine lv_iinc (v := (x3 + 1)) (lv' := [(3, .int (x3 + 1)), (0, .ref (h 44)), (1, .int x1), (2, .int x2)]) hx hb dX7_solvedBelow_35 hl (k := 3) rfl rfl (by decide) rfl (fun ls hl => ?_)
        refine lv_goto (tgt := 4) hx hb dX7_solvedBelow_38 (by decide) ?_
        exact ih _ _ _ _ _ hM _ _ hw _ (lv_sub hl [1, 2, 3, 0] rfl)
      · replace hM := i_pos hM c3
        refine lv_aload_n hx hb dX7_solvedBelow_22 rfl (lv_at hl 0 rfl) ?_
        refine q_get (C := RX7) (T := TX7) (N := 15) (ci := 7) E (fun w h => List.mem_cons_of_mem _ (inX7 w h)) hw 16 rfl rfl 9 (by decide) (List.mem_cons_of_mem _ tb_284) (v := .ref (h 25)) rfl dX7_solvedBelow_23 ?_
        refine lv_iload_n hx hb dX7_solvedBelow_26 rfl (lv_at hl 3 rfl) ?_
        refine q_ald E hw 26 (n := 60) rfl g2 (x := (σ 25 (ix x3))) rfl dX7_solvedBelow_27 ?_
        refine lv_iload_n hx hb dX7_solvedBelow_28 rfl (lv_at hl 1 rfl) ?_
        refine lv_icmp_ge (tgt := 35) hx hb dX7_solvedBelow_29 (by decide) (fun c4 => ?_) (fun c4 => ?_)
        · replace hM := i_pos hM c4
          refine lv_iinc (v := (x3 + 1)) (lv' := [(3, .int (x3 + 1)), (0, .ref (h 44)), (1, .int x1), (2, .int x2)]) hx hb dX7_solvedBelow_35 hl (k := 3) rfl rfl (by decide) rfl (fun ls hl => ?_)
          refine lv_goto (tgt := 4) hx hb dX7_solvedBelow_38 (by decide) ?_
          exact ih _ _ _ _ _ hM _ _ hw _ (lv_sub hl [1, 2, 3, 0] rfl)
        · replace hM := i_neg hM c4
          refine lv_iinc (v := (x2 + 1)) (lv' := [(2, .int (x2 + 1)), (0, .ref (h 44)), (1, .int x1), (3, .int x3)]) hx hb dX7_solvedBelow_32 hl (k := 2) rfl rfl (by decide) rfl (fun ls hl => ?_)
          refine lv_iinc (v := (x3 + 1)) (lv' := [(3, .int (x3 + 1)), (2, .int (x2 + 1)), (0, .ref (h 44)), (1, .int x1)]) hx hb dX7_solvedBelow_35 hl (k := 3) rfl rfl (by decide) rfl (fun ls hl => ?_)
          refine lv_goto (tgt := 4) hx hb dX7_solvedBelow_38 (by decide) ?_
          exact ih _ _ _ _ _ hM _ _ hw _ (lv_sub hl [2, 3, 1, 0] rfl)
def f_X7_solvedBelow (N : Nat)   (x1 : Int32) (σ : Sg) : Option (Int32) := f_X7_solvedBelow_4 N N x1 0 0 σ
set_option maxRecDepth 100000 in
set_option maxHeartbeats 4000000 in
theorem c_X7_solvedBelow (l : Launch) (D : va_G) (cA : Nat → ClassId) (tS : Nat → Nat) (A : Nat → Prop) (h : Nat → Nat) (L : Nat) (F : va_W) (N : Nat) (x1 : Int32) (σ : Sg) (r0 : Int32) (hM : f_X7_solvedBelow N x1 σ = some r0) : Ct l yX7_solvedBelow (Cond.code yX7_solvedBelow cX7_solvedBelow 4 (some .int) :: bw) 0 0 D cA tS A [.ref (h 44), .int x1] (wK cA h σ ++ (wLg cA h σ L ++ (wC cA h σ ++ F))) (some (.int r0)) (wK cA h σ ++ (wLg cA h σ L ++ (wC cA h σ ++ F))) := by
  refine ct_of (by decide +kernel) (Nat.le_of_ble_eq_true rfl) ?_
  intro p e s m below meth c E hw ls hl
  replace E : Ev p cX7_solvedBelow 4 (some .int) RX7 (Cond.code yX7_solvedBelow cX7_solvedBelow 4 (some .int) :: bw) D cA tS A s m _ meth c := E
  replace hl : lv_has ls 4 [(0, .ref (h 44)), (1, .int x1)] := hl
  have hx := E.1.1
  have hb := E.1.2.1
  unfold f_X7_solvedBelow at hM
  refine lv_iconst (v := 0) hx hb dX7_solvedBelow_0 (by decide) ?_
  refine lv_istore_n (lv' := [(2, .int 0), (0, .ref (h 44)), (1, .int x1)]) hx hb dX7_solvedBelow_1 rfl hl (by decide) rfl (fun ls hl => ?_)
  refine lv_iconst (v := 0) hx hb dX7_solvedBelow_2 (by decide) ?_
  refine lv_istore_n (lv' := [(3, .int 0), (2, .int 0), (0, .ref (h 44)), (1, .int x1)]) hx hb dX7_solvedBelow_3 rfl hl (by decide) rfl (fun ls hl => ?_)
  exact s_X7_solvedBelow_4 l D cA tS A h L F N E N _ _ _ _ _ hM _ _ hw _ (lv_sub hl [2, 3, 1, 0] rfl)
def f_X7_solvedClock_2 (N : Nat)   : Nat → Int32 → Int32 → Sg → Option (Int32)
  | 0, _, _, _ => none
  | n + 1, x1, x2, σ => (if (σ 15 0) ≤ x2 then some (-1) else if ib x2 60 then (if (σ 21 (ix x2)) = 3 then (f_X7_solvedBelow N (σ 25 (ix x2)) σ).bind (fun p4 => (if x1 ≤ p4 then f_X7_solvedClock_2 N n x1 (x2 + 1) σ else (f_X7_solvedBelow N ((σ 25 (ix x2)) + 1) σ).bind (fun p7 => (if p7 < x1 then f_X7_solvedClock_2 N n x1 (x2 + 1) σ else some (σ 25 (ix x2)))))) else f_X7_solvedClock_2 N n x1 (x2 + 1) σ) else none)
set_option maxRecDepth 100000 in
set_option maxHeartbeats 4000000 in
theorem s_X7_solvedClock_2 (l : Launch) (D : va_G) (cA : Nat → ClassId) (tS : Nat → Nat) (A : Nat → Prop) (h : Nat → Nat) (L : Nat) (F : va_W) (N : Nat) {p : Program} {e : Env} {s : State} {m : MethodId} {args : Array Value} {below : List Frame} {meth : Method} {c : Code} (E : Ev p cX7_solvedClock 3 (some .int) RX7 (Cond.code yX7_solvedClock cX7_solvedClock 3 (some .int) :: bw) D cA tS A s m args meth c) : ∀ (n : Nat) (x1 : Int32) (x2 : Int32) (σ : Sg) (r0 : Int32) (hM : f_X7_solvedClock_2 N n x1 x2 σ = some r0) (H : Heap) (locs : List Loc) (hw : Wd D A (wK cA h σ ++ (wLg cA h σ L ++ (wC cA h σ ++ F))) s.heap H locs) (ls : Array Slot) (hl : lv_has ls 3 [(0, .ref (h 44)), (1, .int x1), (2, .int x2)]), W p l e ({ frames := 1, cells := 0, slots := 0, locals := 23 } : Room) s m args below meth c H locs 0 0 (MQ below (QW D A (some (.int r0)) (wK cA h σ ++ (wLg cA h σ L ++ (wC cA h σ ++ F)))) args s 0 0 A) (F0 m 2 ls []) := by
  have hx := E.1.1
  have hb := E.1.2.1
  intro n
  induction n with
  | zero =>
    intro x1 x2 σ r0 hM
    cases hM
  | succ n ih =>
    intro x1 x2 σ r0 hM H locs hw ls hl
    rw [f_X7_solvedClock_2] at hM
    refine lv_iload_n hx hb dX7_solvedClock_2 rfl (lv_at hl 2 rfl) ?_
    refine lv_aload_n hx hb dX7_solvedClock_3 rfl (lv_at hl 0 rfl) ?_
    refine q_get (C := RX7) (T := TX7) (N := 15) (ci := 7) E (fun w h => List.mem_cons_of_mem _ (inX7 w h)) hw 16 rfl rfl 14 (by decide) (List.mem_cons_of_mem _ tb_298) (v := .int (σ 15 0)) rfl dX7_solvedClock_4 ?_
    refine lv_icmp_ge (tgt := 63) hx hb dX7_solvedClock_7 (by decide) (fun c1 => ?_) (fun c1 => ?_)
    · replace hM := i_pos hM c1
      refine lv_iconst (v := (-1)) hx hb dX7_solvedClock_63 (by decide) ?_
      cases hM
      exact q_reti E hw dX7_solvedClock_64
    · replace hM := i_neg hM c1
      refine lv_aload_n hx hb dX7_solvedClock_10 rfl (lv_at hl 0 rfl) ?_
      refine q_get (C := RX7) (T := TX7) (N := 15) (ci := 7) E (fun w h => List.mem_cons_of_mem _ (inX7 w h)) hw 16 rfl rfl 5 (by decide) (List.mem_cons_of_mem _ tb_273) (v := .ref (h 21)) rfl dX7_solvedClock_11 ?_
      refine lv_iload_n hx hb dX7_solvedClock_14 rfl (lv_at hl 2 rfl) ?_
      obtain ⟨g2, hM⟩ := g_some hM
      refine q_ald E hw 22 (n := 60) rfl g2 (x := (σ 21 (ix x2))) rfl dX7_solvedClock_15 ?_
      refine lv_iconst (v := 3) hx hb dX7_solvedClock_16 (by decide) ?_
      refine lv_icmp_ne (tgt := 57) hx hb dX7_solvedClock_17 (by decide) (fun c3 => ?_) (fun c3 => ?_)
      · replace hM := i_neg hM c3
        refine lv_iinc (v := (x2 + 1)) (lv' := [(2, .int (x2 + 1)), (0, .ref (h 44)), (1, .int x1)]) hx hb dX7_solvedClock_57 hl (k := 2) rfl rfl (by decide) rfl (fun ls hl => ?_)
        refine lv_goto (tgt := 2) hx hb dX7_solvedClock_60 (by decide) ?_
        exact ih _ _ _ _ hM _ _ hw _ (lv_sub hl [1, 2, 0] rfl)
      · replace hM := i_pos hM c3
        refine lv_aload_n hx hb dX7_solvedClock_20 rfl (lv_at hl 0 rfl) ?_
        refine lv_aload_n hx hb dX7_solvedClock_21 rfl (lv_at hl 0 rfl) ?_
        refine q_get (C := RX7) (T := TX7) (N := 15) (ci := 7) E (fun w h => List.mem_cons_of_mem _ (inX7 w h)) hw 16 rfl rfl 9 (by decide) (List.mem_cons_of_mem _ tb_284) (v := .ref (h 25)) rfl dX7_solvedClock_22 ?_
        refine lv_iload_n hx hb dX7_solvedClock_25 rfl (lv_at hl 2 rfl) ?_
        refine q_ald E hw 26 (n := 60) rfl g2 (x := (σ 25 (ix x2))) rfl dX7_solvedClock_26 ?_
        obtain ⟨p4, h5, hM⟩ := b_some hM
        refine q_cv (As := [.int (σ 25 (ix x2))]) (rest := []) E hw hl (c_X7_solvedBelow l D cA tS A h L F N (σ 25 (ix x2)) σ p4 h5) 1 (bwV bw_c tb_895 tb_897 tb_32 tb_108 tb_898) rfl (by decide +kernel) ⟨Nat.le_of_ble_eq_true rfl, Nat.le_of_ble_eq_true rfl⟩ 16 7 (T := TX7) (N := 15) rfl rfl rfl rfl (Nat.le_of_ble_eq_true rfl) ⟨Nat.zero_le _, Nat.zero_le _⟩ dX7_solvedClock_27 (fun H locs hw => ?_)
        refine lv_iload_n hx hb dX7_solvedClock_30 rfl (lv_at hl 1 rfl) ?_
        refine lv_icmp_ge (tgt := 57) hx hb dX7_solvedClock_31 (by decide) (fun c6 => ?_) (fun c6 => ?_)
        · replace hM := i_pos hM c6
          refine lv_iinc (v := (x2 + 1)) (lv' := [(2, .int (x2 + 1)), (0, .ref (h 44)), (1, .int x1)]) hx hb dX7_solvedClock_57 hl (k := 2) rfl rfl (by decide) rfl (fun ls hl => ?_)
          refine lv_goto (tgt := 2) hx hb dX7_solvedClock_60 (by decide) ?_
          exact ih _ _ _ _ hM _ _ hw _ (lv_sub hl [1, 2, 0] rfl)
        · replace hM := i_neg hM c6
          refine lv_aload_n hx hb dX7_solvedClock_34 rfl (lv_at hl 0 rfl) ?_
          refine lv_aload_n hx hb dX7_solvedClock_35 rfl (lv_at hl 0 rfl) ?_
          refine q_get (C := RX7) (T := TX7) (N := 15) (ci := 7) E (fun w h => List.mem_cons_of_mem _ (inX7 w h)) hw 16 rfl rfl 9 (by decide) (List.mem_cons_of_mem _ tb_284) (v := .ref (h 25)) rfl dX7_solvedClock_36 ?_
          refine lv_iload_n hx hb dX7_solvedClock_39 rfl (lv_at hl 2 rfl) ?_
          refine q_ald E hw 26 (n := 60) rfl g2 (x := (σ 25 (ix x2))) rfl dX7_solvedClock_40 ?_
          refine lv_iconst (v := 1) hx hb dX7_solvedClock_41 (by decide) ?_
          refine lv_iadd hx hb dX7_solvedClock_42 ?_
          obtain ⟨p7, h8, hM⟩ := b_some hM
          refine q_cv (As := [.int ((σ 25 (ix x2)) + 1)]) (rest := []) E hw hl (c_X7_solvedBelow l D cA tS A h L F N ((σ 25 (ix x2)) + 1) σ p7 h8) 1 (bwV bw_c tb_895 tb_897 tb_32 tb_108 tb_898) rfl (by decide +kernel) ⟨Nat.le_of_ble_eq_true rfl, Nat.le_of_ble_eq_true rfl⟩ 16 7 (T := TX7) (N := 15) rfl rfl rfl rfl (Nat.le_of_ble_eq_true rfl) ⟨Nat.zero_le _, Nat.zero_le _⟩ dX7_solvedClock_43 (fun H locs hw => ?_)
          refine lv_iload_n hx hb dX7_solvedClock_46 rfl (lv_at hl 1 rfl) ?_
          refine lv_icmp_lt (tgt := 57) hx hb dX7_solvedClock_47 (by decide) (fun c9 => ?_) (fun c9 => ?_)
          · replace hM := i_pos hM c9
            refine lv_iinc (v := (x2 + 1)) (lv' := [(2, .int (x2 + 1)), (0, .ref (h 44)), (1, .int x1)]) hx hb dX7_solvedClock_57 hl (k := 2) rfl rfl (by decide) rfl (fun ls hl => ?_)
            refine lv_goto (tgt := 2) hx hb dX7_solvedClock_60 (by decide) ?_
            exact ih _ _ _ _ hM _ _ hw _ (lv_sub hl [1, 2, 0] rfl)
          · replace hM := i_neg hM c9
            refine lv_aload_n hx hb dX7_solvedClock_50 rfl (lv_at hl 0 rfl) ?_
            refine q_get (C := RX7) (T := TX7) (N := 15) (ci := 7) E (fun w h => List.mem_cons_of_mem _ (inX7 w h)) hw 16 rfl rfl 9 (by decide) (List.mem_cons_of_mem _ tb_284) (v := .ref (h 25)) rfl dX7_solvedClock_51 ?_
            refine lv_iload_n hx hb dX7_solvedClock_54 rfl (lv_at hl 2 rfl) ?_
            refine q_ald E hw 26 (n := 60) rfl g2 (x := (σ 25 (ix x2))) rfl dX7_solvedClock_55 ?_
            cases hM
            exact q_reti E hw dX7_solvedClock_56
def f_X7_solvedClock (N : Nat)   (x1 : Int32) (σ : Sg) : Option (Int32) := f_X7_solvedClock_2 N N x1 0 σ
set_option maxRecDepth 100000 in
set_option maxHeartbeats 4000000 in
theorem c_X7_solvedClock (l : Launch) (D : va_G) (cA : Nat → ClassId) (tS : Nat → Nat) (A : Nat → Prop) (h : Nat → Nat) (L : Nat) (F : va_W) (N : Nat) (x1 : Int32) (σ : Sg) (r0 : Int32) (hM : f_X7_solvedClock N x1 σ = some r0) : Ct l yX7_solvedClock (Cond.code yX7_solvedClock cX7_solvedClock 3 (some .int) :: bw) 1 23 D cA tS A [.ref (h 44), .int x1] (wK cA h σ ++ (wLg cA h σ L ++ (wC cA h σ ++ F))) (some (.int r0)) (wK cA h σ ++ (wLg cA h σ L ++ (wC cA h σ ++ F))) := by
  refine ct_of (by decide +kernel) (Nat.le_of_ble_eq_true rfl) ?_
  intro p e s m below meth c E hw ls hl
  replace E : Ev p cX7_solvedClock 3 (some .int) RX7 (Cond.code yX7_solvedClock cX7_solvedClock 3 (some .int) :: bw) D cA tS A s m _ meth c := E
  replace hl : lv_has ls 3 [(0, .ref (h 44)), (1, .int x1)] := hl
  have hx := E.1.1
  have hb := E.1.2.1
  unfold f_X7_solvedClock at hM
  refine lv_iconst (v := 0) hx hb dX7_solvedClock_0 (by decide) ?_
  refine lv_istore_n (lv' := [(2, .int 0), (0, .ref (h 44)), (1, .int x1)]) hx hb dX7_solvedClock_1 rfl hl (by decide) rfl (fun ls hl => ?_)
  exact s_X7_solvedClock_2 l D cA tS A h L F N E N _ _ _ _ hM _ _ hw _ (lv_sub hl [1, 2, 0] rfl)
