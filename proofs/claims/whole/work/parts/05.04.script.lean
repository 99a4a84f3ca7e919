set_option maxRecDepth 100000 in
set_option maxHeartbeats 4000000 in
theorem c_X2_record (l : Launch) (D : va_G) (cA : Nat → ClassId) (tS : Nat → Nat) (A : Nat → Prop) (h : Nat → Nat) (F : va_W) (x1 : Int32) (x2 : Int32) (x3 : Int32) (x4 : Int32) (x5 : Int32) (x6 : Int32) (σ : Sg) (r0 : Int32) (s0 : Sg) (hM : f_X2_record x1 x2 x3 x4 x5 x6 σ = some (r0, s0)) : Ct l yX2_record (Cond.code yX2_record cX2_record 7 (some .boolean) :: bw) 0 0 D cA tS A [.ref (h 45), .int x1, .int x2, .int x3, .int x4, .int x5, .int x6] (wH cA h σ ++ F) (some (.int r0)) (wH cA h s0 ++ F) := by
  refine ct_of (by decide +kernel) (Nat.le_of_ble_eq_true rfl) ?_
  intro p e s m below meth c E hw ls hl
  replace E : Ev p cX2_record 7 (some .boolean) RX2 (Cond.code yX2_record cX2_record 7 (some .boolean) :: bw) D cA tS A s m _ meth c := E
  replace hl : lv_has ls 7 [(0, .ref (h 45)), (1, .int x1), (2, .int x2), (3, .int x3), (4, .int x4), (5, .int x5), (6, .int x6)] := hl
  have hx := E.1.1
  have hb := E.1.2.1
  unfold f_X2_record at hM
  refine lv_aload_n hx hb dX2_record_0 rfl (lv_at hl 0 rfl) ?_
  refine q_get (C := RX2) (T := TX2) (N := 7) (ci := 2) E (fun w h => List.mem_cons_of_mem _ (inX2 w h)) hw 0 rfl rfl 6 (by decide) (List.mem_cons_of_mem _ tb_357) (v := .int (σ 31 0)) rfl dX2_record_1 ?_
  refine lv_sipush (v := 200) hx hb dX2_record_4 (by decide) ?_
  refine lv_icmp_lt (tgt := 12) hx hb dX2_record_7 (by decide) (fun c1 => ?_) (fun c1 => ?_)
  · replace hM := i_pos hM c1
    refine lv_aload_n hx hb dX2_record_12 rfl (lv_at hl 0 rfl) ?_
    refine q_get (C := RX2) (T := TX2) (N := 7) (ci := 2) E (fun w h => List.mem_cons_of_mem _ (inX2 w h)) hw 0 rfl rfl 0 (by decide) (List.mem_cons_of_mem _ tb_345) (v := .ref (h 32)) rfl dX2_record_13 ?_
    refine lv_aload_n hx hb dX2_record_16 rfl (lv_at hl 0 rfl) ?_
    refine q_get (C := RX2) (T := TX2) (N := 7) (ci := 2) E (fun w h => List.mem_cons_of_mem _ (inX2 w h)) hw 0 rfl rfl 6 (by decide) (List.mem_cons_of_mem _ tb_357) (v := .int (σ 31 0)) rfl dX2_record_17 ?_
    refine lv_iload_n hx hb dX2_record_20 rfl (lv_at hl 1 rfl) ?_
    obtain ⟨g2, hM⟩ := g_some hM
    refine q_ast E hw 1 (n := 200) rfl g2 (wH cA h (up σ 32 (ix (σ 31 0)) x1) ++ F) st_H_32 dX2_record_21 (fun H locs hw => ?_)
    refine lv_aload_n hx hb dX2_record_22 rfl (lv_at hl 0 rfl) ?_
    refine q_get (C := RX2) (T := TX2) (N := 7) (ci := 2) E (fun w h => List.mem_cons_of_mem _ (inX2 w h)) hw 0 rfl rfl 1 (by decide) (List.mem_cons_of_mem _ tb_347) (v := .ref (h 33)) rfl dX2_record_23 ?_
    refine lv_aload_n hx hb dX2_record_26 rfl (lv_at hl 0 rfl) ?_
    refine q_get (C := RX2) (T := TX2) (N := 7) (ci := 2) E (fun w h => List.mem_cons_of_mem _ (inX2 w h)) hw 0 rfl rfl 6 (by decide) (List.mem_cons_of_mem _ tb_357) (v := .int (σ 31 0)) (q_fld (congrFun (up_ne σ 32 (ix (σ 31 0)) x1 31 (by decide)) 0) rfl) dX2_record_27 ?_
    refine lv_iload_n hx hb dX2_record_30 rfl (lv_at hl 2 rfl) ?_
    refine q_ast E hw 2 (n := 200) rfl g2 (wH cA h (up (up σ 32 (ix (σ 31 0)) x1) 33 (ix (σ 31 0)) x2) ++ F) st_H_33 dX2_record_31 (fun H locs hw => ?_)
    refine lv_aload_n hx hb dX2_record_32 rfl (lv_at hl 0 rfl) ?_
    refine q_get (C := RX2) (T := TX2) (N := 7) (ci := 2) E (fun w h => List.mem_cons_of_mem _ (inX2 w h)) hw 0 rfl rfl 2 (by decide) (List.mem_cons_of_mem _ tb_349) (v := .ref (h 34)) rfl dX2_record_33 ?_
    refine lv_aload_n hx hb dX2_record_36 rfl (lv_at hl 0 rfl) ?_
    refine q_get (C := RX2) (T := TX2) (N := 7) (ci := 2) E (fun w h => List.mem_cons_of_mem _ (inX2 w h)) hw 0 rfl rfl 6 (by decide) (List.mem_cons_of_mem _ tb_357) (v := .int (σ 31 0)) (q_fld (congrFun ((up_ne (up σ 32 (ix (σ 31 0)) x1) 33 (ix (σ 31 0)) x2 31 (by decide)).trans (up_ne σ 32 (ix (σ 31 0)) x1 31 (by decide))) 0) rfl) dX2_record_37 ?_
    refine lv_iload_n hx hb dX2_record_40 rfl (lv_at hl 3 rfl) ?_
    refine q_ast E hw 3 (n := 200) rfl g2 (wH cA h (up (up (up σ 32 (ix (σ 31 0)) x1) 33 (ix (σ 31 0)) x2) 34 (ix (σ 31 0)) x3) ++ F) st_H_34 dX2_record_41 (fun H locs hw => ?_)
    refine lv_aload_n hx hb dX2_record_42 rfl (lv_at hl 0 rfl) ?_
    refine q_get (C := RX2) (T := TX2) (N := 7) (ci := 2) E (fun w h => List.mem_cons_of_mem _ (inX2 w h)) hw 0 rfl rfl 3 (by decide) (List.mem_cons_of_mem _ tb_351) (v := .ref (h 35)) rfl dX2_record_43 ?_
    refine lv_aload_n hx hb dX2_record_46 rfl (lv_at hl 0 rfl) ?_
    refine q_get (C := RX2) (T := TX2) (N := 7) (ci := 2) E (fun w h => List.mem_cons_of_mem _ (inX2 w h)) hw 0 rfl rfl 6 (by decide) (List.mem_cons_of_mem _ tb_357) (v := .int (σ 31 0)) (q_fld (congrFun (((up_ne (up (up σ 32 (ix (σ 31 0)) x1) 33 (ix (σ 31 0)) x2) 34 (ix (σ 31 0)) x3 31 (by decide)).trans (up_ne (up σ 32 (ix (σ 31 0)) x1) 33 (ix (σ 31 0)) x2 31 (by decide))).trans (up_ne σ 32 (ix (σ 31 0)) x1 31 (by decide))) 0) rfl) dX2_record_47 ?_
    refine lv_iload hx hb dX2_record_50 (lv_at hl 4 rfl) ?_
    refine q_ast E hw 4 (n := 200) rfl g2 (wH cA h (up (up (up (up σ 32 (ix (σ 31 0)) x1) 33 (ix (σ 31 0)) x2) 34 (ix (σ 31 0)) x3) 35 (ix (σ 31 0)) x4) ++ F) st_H_35 dX2_record_52 (fun H locs hw => ?_)
    refine lv_aload_n hx hb dX2_record_53 rfl (lv_at hl 0 rfl) ?_
    refine q_get (C := RX2) (T := TX2) (N := 7) (ci := 2) E (fun w h => List.mem_cons_of_mem _ (inX2 w h)) hw 0 rfl rfl 4 (by decide) (List.mem_cons_of_mem _ tb_353) (v := .ref (h 36)) rfl dX2_record_54 ?_
    refine lv_aload_n hx hb dX2_record_57 rfl (lv_at hl 0 rfl) ?_
    refine q_get (C := RX2) (T := TX2) (N := 7) (ci := 2) E (fun w h => List.mem_cons_of_mem _ (inX2 w h)) hw 0 rfl rfl 6 (by decide) (List.mem_cons_of_mem _ tb_357) (v := .int (σ 31 0)) (q_fld (congrFun ((((up_ne (up (up (up σ 32 (ix (σ 31 0)) x1) 33 (ix (σ 31 0)) x2) 34 (ix (σ 31 0)) x3) 35 (ix (σ 31 0)) x4 31 (by decide)).trans (up_ne (up (up σ 32 (ix (σ 31 0)) x1) 33 (ix (σ 31 0)) x2) 34 (ix (σ 31 0)) x3 31 (by decide))).trans (up_ne (up σ 32 (ix (σ 31 0)) x1) 33 (ix (σ 31 0)) x2 31 (by decide))).trans (up_ne σ 32 (ix (σ 31 0)) x1 31 (by decide))) 0) rfl) dX2_record_58 ?_
    refine lv_iload hx hb dX2_record_61 (lv_at hl 5 rfl) ?_
    refine q_ast E hw 5 (n := 200) rfl g2 (wH cA h (up (up (up (up (up σ 32 (ix (σ 31 0)) x1) 33 (ix (σ 31 0)) x2) 34 (ix (σ 31 0)) x3) 35 (ix (σ 31 0)) x4) 36 (ix (σ 31 0)) x5) ++ F) st_H_36 dX2_record_63 (fun H locs hw => ?_)
    refine lv_aload_n hx hb dX2_record_64 rfl (lv_at hl 0 rfl) ?_
    refine q_get (C := RX2) (T := TX2) (N := 7) (ci := 2) E (fun w h => List.mem_cons_of_mem _ (inX2 w h)) hw 0 rfl rfl 5 (by decide) (List.mem_cons_of_mem _ tb_355) (v := .ref (h 37)) rfl dX2_record_65 ?_
    refine lv_aload_n hx hb dX2_record_68 rfl (lv_at hl 0 rfl) ?_
    refine q_get (C := RX2) (T := TX2) (N := 7) (ci := 2) E (fun w h => List.mem_cons_of_mem _ (inX2 w h)) hw 0 rfl rfl 6 (by decide) (List.mem_cons_of_mem _ tb_357) (v := .int (σ 31 0)) (q_fld (congrFun (((((up_ne (up (up (up (up σ 32 (ix (σ 31 0)) x1) 33 (ix (σ 31 0)) x2) 34 (ix (σ 31 0)) x3) 35 (ix (σ 31 0)) x4) 36 (ix (σ 31 0)) x5 31 (by decide)).trans (up_ne (up (up (up σ 32 (ix (σ 31 0)) x1) 33 (ix (σ 31 0)) x2) 34 (ix (σ 31 0)) x3) 35 (ix (σ 31 0)) x4 31 (by decide))).trans (up_ne (up (up σ 32 (ix (σ 31 0)) x1) 33 (ix (σ 31 0)) x2) 34 (ix (σ 31 0)) x3 31 (by decide))).trans (up_ne (up σ 32 (ix (σ 31 0)) x1) 33 (ix (σ 31 0)) x2 31 (by decide))).trans (up_ne σ 32 (ix (σ 31 0)) x1 31 (by decide))) 0) rfl) dX2_record_69 ?_
    refine lv_iload hx hb dX2_record_72 (lv_at hl 6 rfl) ?_
    refine q_ast E hw 6 (n := 200) rfl g2 (wH cA h (up (up (up (up (up (up σ 32 (ix (σ 31 0)) x1) 33 (ix (σ 31 0)) x2) 34 (ix (σ 31 0)) x3) 35 (ix (σ 31 0)) x4) 36 (ix (σ 31 0)) x5) 37 (ix (σ 31 0)) x6) ++ F) st_H_37 dX2_record_74 (fun H locs hw => ?_)
    refine lv_aload_n hx hb dX2_record_75 rfl (lv_at hl 0 rfl) ?_
    refine lv_dup hx hb dX2_record_76 rfl ?_
    refine q_get (C := RX2) (T := TX2) (N := 7) (ci := 2) E (fun w h => List.mem_cons_of_mem _ (inX2 w h)) hw 0 rfl rfl 6 (by decide) (List.mem_cons_of_mem _ tb_357) (v := .int (σ 31 0)) (q_fld (congrFun ((((((up_ne (up (up (up (up (up σ 32 (ix (σ 31 0)) x1) 33 (ix (σ 31 0)) x2) 34 (ix (σ 31 0)) x3) 35 (ix (σ 31 0)) x4) 36 (ix (σ 31 0)) x5) 37 (ix (σ 31 0)) x6 31 (by decide)).trans (up_ne (up (up (up (up σ 32 (ix (σ 31 0)) x1) 33 (ix (σ 31 0)) x2) 34 (ix (σ 31 0)) x3) 35 (ix (σ 31 0)) x4) 36 (ix (σ 31 0)) x5 31 (by decide))).trans (up_ne (up (up (up σ 32 (ix (σ 31 0)) x1) 33 (ix (σ 31 0)) x2) 34 (ix (σ 31 0)) x3) 35 (ix (σ 31 0)) x4 31 (by decide))).trans (up_ne (up (up σ 32 (ix (σ 31 0)) x1) 33 (ix (σ 31 0)) x2) 34 (ix (σ 31 0)) x3 31 (by decide))).trans (up_ne (up σ 32 (ix (σ 31 0)) x1) 33 (ix (σ 31 0)) x2 31 (by decide))).trans (up_ne σ 32 (ix (σ 31 0)) x1 31 (by decide))) 0) rfl) dX2_record_77 ?_
    refine lv_iconst (v := 1) hx hb dX2_record_80 (by decide) ?_
    refine lv_iadd hx hb dX2_record_81 ?_
    refine q_puti (C := RX2) (T := TX2) (N := 7) (ci := 2) E (fun w h => List.mem_cons_of_mem _ (inX2 w h)) tyX2 tyX2_ok nmX2 hw 0 rfl rfl 6 (by decide) (List.mem_cons_of_mem _ tb_357) rfl rfl (Nat.le_of_ble_eq_true rfl) (wH cA h (up (up (up (up (up (up (up σ 32 (ix (σ 31 0)) x1) 33 (ix (σ 31 0)) x2) 34 (ix (σ 31 0)) x3) 35 (ix (σ 31 0)) x4) 36 (ix (σ 31 0)) x5) 37 (ix (σ 31 0)) x6) 31 0 ((σ 31 0) + 1)) ++ F) st_H_31 dX2_record_82 (fun H locs hw => ?_)
    refine lv_iconst (v := 1) hx hb dX2_record_85 (by decide) ?_
    cases hM
    exact q_retz E hw (by decide) dX2_record_86
  · replace hM := i_neg hM c1
    refine lv_iconst (v := 0) hx hb dX2_record_10 (by decide) ?_
    cases hM
    exact q_retz E hw (by decide) dX2_record_11
set_option maxRecDepth 100000 in
set_option maxHeartbeats 4000000 in
theorem c_X2_copyFrom (l : Launch) (D : va_G) (cA : Nat → ClassId) (tS : Nat → Nat) (A : Nat → Prop) (h : Nat → Nat) (t : Nat → Nat) (F : va_W) (σ : Sg) (τ : Sg) (s0 : Sg) (hM : f_X2_copyFrom σ τ = some s0) : Ct l yX2_copyFrom (Cond.code yX2_copyFrom cX2_copyFrom 2 none :: bw) 1 53 D cA tS A [.ref (h 45), .ref (t 45)] (wH cA h σ ++ (wH cA t τ ++ F)) none (wH cA h s0 ++ (wH cA t τ ++ F)) := by
  refine ct_of (by decide +kernel) (Nat.le_of_ble_eq_true rfl) ?_
  intro p e s m below meth c E hw ls hl
  replace E : Ev p cX2_copyFrom 2 none RX2 (Cond.code yX2_copyFrom cX2_copyFrom 2 none :: bw) D cA tS A s m _ meth c := E
  replace hl : lv_has ls 2 [(0, .ref (h 45)), (1, .ref (t 45))] := hl
  have hx := E.1.1
  have hb := E.1.2.1
  unfold f_X2_copyFrom at hM
  refine lv_aload_n hx hb dX2_copyFrom_0 rfl (lv_at hl 0 rfl) ?_
  refine lv_aload_n hx hb dX2_copyFrom_1 rfl (lv_at hl 1 rfl) ?_
  refine q_get (C := RX2) (T := TX2) (N := 7) (ci := 2) E (fun w h => List.mem_cons_of_mem _ (inX2 w h)) hw 7 rfl rfl 6 (by decide) (List.mem_cons_of_mem _ tb_357) (v := .int (τ 31 0)) rfl dX2_copyFrom_2 ?_
  refine q_puti (C := RX2) (T := TX2) (N := 7) (ci := 2) E (fun w h => List.mem_cons_of_mem _ (inX2 w h)) tyX2 tyX2_ok nmX2 hw 0 rfl rfl 6 (by decide) (List.mem_cons_of_mem _ tb_357) rfl rfl (Nat.le_of_ble_eq_true rfl) (wH cA h (up σ 31 0 (τ 31 0)) ++ (wH cA t τ ++ F)) st_H_H2_31 dX2_copyFrom_5 (fun H locs hw => ?_)
  refine lv_aload_n hx hb dX2_copyFrom_8 rfl (lv_at hl 1 rfl) ?_
  refine q_get (C := RX2) (T := TX2) (N := 7) (ci := 2) E (fun w h => List.mem_cons_of_mem _ (inX2 w h)) hw 7 rfl rfl 0 (by decide) (List.mem_cons_of_mem _ tb_345) (v := .ref (t 32)) rfl dX2_copyFrom_9 ?_
  refine lv_iconst (v := 0) hx hb dX2_copyFrom_12 (by decide) ?_
  refine lv_aload_n hx hb dX2_copyFrom_13 rfl (lv_at hl 0 rfl) ?_
  refine q_get (C := RX2) (T := TX2) (N := 7) (ci := 2) E (fun w h => List.mem_cons_of_mem _ (inX2 w h)) hw 0 rfl rfl 0 (by decide) (List.mem_cons_of_mem _ tb_345) (v := .ref (h 32)) rfl dX2_copyFrom_14 ?_
  refine lv_iconst (v := 0) hx hb dX2_copyFrom_17 (by decide) ?_
  refine lv_aload_n hx hb dX2_copyFrom_18 rfl (lv_at hl 0 rfl) ?_
  refine q_get (C := RX2) (T := TX2) (N := 7) (ci := 2) E (fun w h => List.mem_cons_of_mem _ (inX2 w h)) hw 0 rfl rfl 6 (by decide) (List.mem_cons_of_mem _ tb_357) (v := .int (τ 31 0)) (q_fld (up_at0 σ 31 (τ 31 0)) rfl) dX2_copyFrom_19 ?_
  obtain ⟨g1, hM⟩ := g_some hM
  obtain ⟨g2, hM⟩ := g_some hM
  refine q_copy E hw hl 8 1 rfl rfl rfl (up_ne σ 31 0 (τ 31 0) 32 (by decide)) (List.mem_cons_of_mem _ tb_1130) (List.mem_cons_of_mem _ tb_308) (List.mem_cons_of_mem _ tb_307) (List.mem_cons_of_mem _ tb_107) (by decide +kernel) (by decide +kernel) g1 g2 g2 (Nat.le_of_ble_eq_true rfl) (Nat.le_of_ble_eq_true rfl) (wH cA h (upr (up σ 31 0 (τ 31 0)) 32 (va_cpy (τ 32) (σ 32) (ix 0) (ix 0) (ix (τ 31 0)))) ++ (wH cA t τ ++ F)) st_H_H2_32r dX2_copyFrom_22 (fun H locs hw => ?_)
  refine lv_aload_n hx hb dX2_copyFrom_25 rfl (lv_at hl 1 rfl) ?_
  refine q_get (C := RX2) (T := TX2) (N := 7) (ci := 2) E (fun w h => List.mem_cons_of_mem _ (inX2 w h)) hw 7 rfl rfl 1 (by decide) (List.mem_cons_of_mem _ tb_347) (v := .ref (t 33)) rfl dX2_copyFrom_26 ?_
  refine lv_iconst (v := 0) hx hb dX2_copyFrom_29 (by decide) ?_
  refine lv_aload_n hx hb dX2_copyFrom_30 rfl (lv_at hl 0 rfl) ?_
  refine q_get (C := RX2) (T := TX2) (N := 7) (ci := 2) E (fun w h => List.mem_cons_of_mem _ (inX2 w h)) hw 0 rfl rfl 1 (by decide) (List.mem_cons_of_mem _ tb_347) (v := .ref (h 33)) rfl dX2_copyFrom_31 ?_
  refine lv_iconst (v := 0) hx hb dX2_copyFrom_34 (by decide) ?_
  refine lv_aload_n hx hb dX2_copyFrom_35 rfl (lv_at hl 0 rfl) ?_
  refine q_get (C := RX2) (T := TX2) (N := 7) (ci := 2) E (fun w h => List.mem_cons_of_mem _ (inX2 w h)) hw 0 rfl rfl 6 (by decide) (List.mem_cons_of_mem _ tb_357) (v := .int (τ 31 0)) (q_fld ((congrFun (upr_ne (up σ 31 0 (τ 31 0)) 32 (va_cpy (τ 32) (σ 32) (ix 0) (ix 0) (ix (τ 31 0))) 31 (by decide)) 0).trans (up_at0 σ 31 (τ 31 0))) rfl) dX2_copyFrom_36 ?_
  refine q_copy E hw hl 9 2 rfl rfl rfl ((upr_ne (up σ 31 0 (τ 31 0)) 32 (va_cpy (τ 32) (σ 32) (ix 0) (ix 0) (ix (τ 31 0))) 33 (by decide)).trans (up_ne σ 31 0 (τ 31 0) 33 (by decide))) (List.mem_cons_of_mem _ tb_1130) (List.mem_cons_of_mem _ tb_308) (List.mem_cons_of_mem _ tb_307) (List.mem_cons_of_mem _ tb_107) (by decide +kernel) (by decide +kernel) g1 g2 g2 (Nat.le_of_ble_eq_true rfl) (Nat.le_of_ble_eq_true rfl) (wH cA h (upr (upr (up σ 31 0 (τ 31 0)) 32 (va_cpy (τ 32) (σ 32) (ix 0) (ix 0) (ix (τ 31 0)))) 33 (va_cpy (τ 33) (σ 33) (ix 0) (ix 0) (ix (τ 31 0)))) ++ (wH cA t τ ++ F)) st_H_H2_33r dX2_copyFrom_39 (fun H locs hw => ?_)
  refine lv_aload_n hx hb dX2_copyFrom_42 rfl (lv_at hl 1 rfl) ?_
  refine q_get (C := RX2) (T := TX2) (N := 7) (ci := 2) E (fun w h => List.mem_cons_of_mem _ (inX2 w h)) hw 7 rfl rfl 2 (by decide) (List.mem_cons_of_mem _ tb_349) (v := .ref (t 34)) rfl dX2_copyFrom_43 ?_
  refine lv_iconst (v := 0) hx hb dX2_copyFrom_46 (by decide) ?_
  refine lv_aload_n hx hb dX2_copyFrom_47 rfl (lv_at hl 0 rfl) ?_
  refine q_get (C := RX2) (T := TX2) (N := 7) (ci := 2) E (fun w h => List.mem_cons_of_mem _ (inX2 w h)) hw 0 rfl rfl 2 (by decide) (List.mem_cons_of_mem _ tb_349) (v := .ref (h 34)) rfl dX2_copyFrom_48 ?_
  refine lv_iconst (v := 0) hx hb dX2_copyFrom_51 (by decide) ?_
  refine lv_aload_n hx hb dX2_copyFrom_52 rfl (lv_at hl 0 rfl) ?_
  refine q_get (C := RX2) (T := TX2) (N := 7) (ci := 2) E (fun w h => List.mem_cons_of_mem _ (inX2 w h)) hw 0 rfl rfl 6 (by decide) (List.mem_cons_of_mem _ tb_357) (v := .int (τ 31 0)) (q_fld ((congrFun ((upr_ne (upr (up σ 31 0 (τ 31 0)) 32 (va_cpy (τ 32) (σ 32) (ix 0) (ix 0) (ix (τ 31 0)))) 33 (va_cpy (τ 33) (σ 33) (ix 0) (ix 0) (ix (τ 31 0))) 31 (by decide)).trans (upr_ne (up σ 31 0 (τ 31 0)) 32 (va_cpy (τ 32) (σ 32) (ix 0) (ix 0) (ix (τ 31 0))) 31 (by decide))) 0).trans (up_at0 σ 31 (τ 31 0))) rfl) dX2_copyFrom_53 ?_
  refine q_copy E hw hl 10 3 rfl rfl rfl (((upr_ne (upr (up σ 31 0 (τ 31 0)) 32 (va_cpy (τ 32) (σ 32) (ix 0) (ix 0) (ix (τ 31 0)))) 33 (va_cpy (τ 33) (σ 33) (ix 0) (ix 0) (ix (τ 31 0))) 34 (by decide)).trans (upr_ne (up σ 31 0 (τ 31 0)) 32 (va_cpy (τ 32) (σ 32) (ix 0) (ix 0) (ix (τ 31 0))) 34 (by decide))).trans (up_ne σ 31 0 (τ 31 0) 34 (by decide))) (List.mem_cons_of_mem _ tb_1130) (List.mem_cons_of_mem _ tb_308) (List.mem_cons_of_mem _ tb_307) (List.mem_cons_of_mem _ tb_107) (by decide +kernel) (by decide +kernel) g1 g2 g2 (Nat.le_of_ble_eq_true rfl) (Nat.le_of_ble_eq_true rfl) (wH cA h (upr (upr (upr (up σ 31 0 (τ 31 0)) 32 (va_cpy (τ 32) (σ 32) (ix 0) (ix 0) (ix (τ 31 0)))) 33 (va_cpy (τ 33) (σ 33) (ix 0) (ix 0) (ix (τ 31 0)))) 34 (va_cpy (τ 34) (σ 34) (ix 0) (ix 0) (ix (τ 31 0)))) ++ (wH cA t τ ++ F)) st_H_H2_34r dX2_copyFrom_56 (fun H locs hw => ?_)
  refine lv_aload_n hx hb dX2_copyFrom_59 rfl (lv_at hl 1 rfl) ?_
  refine q_get (C := RX2) (T := TX2) (N := 7) (ci := 2) E (fun w h => List.mem_cons_of_mem _ (inX2 w h)) hw 7 rfl rfl 3 (by decide) (List.mem_cons_of_mem _ tb_351) (v := .ref (t 35)) rfl dX2_copyFrom_60 ?_
  refine lv_iconst (v := 0) hx hb dX2_copyFrom_63 (by decide) ?_
  refine lv_aload_n hx hb dX2_copyFrom_64 rfl (lv_at hl 0 rfl) ?_
  refine q_get (C := RX2) (T := TX2) (N := 7) (ci := 2) E (fun w h => List.mem_cons_of_mem _ (inX2 w h)) hw 0 rfl rfl 3 (by decide) (List.mem_cons_of_mem _ tb_351) (v := .ref (h 35)) rfl dX2_copyFrom_65 ?_
  refine lv_iconst (v := 0) hx hb dX2_copyFrom_68 (by decide) ?_
  refine lv_aload_n hx hb dX2_copyFrom_69 rfl (lv_at hl 0 rfl) ?_
  refine q_get (C := RX2) (T := TX2) (N := 7) (ci := 2) E (fun w h => List.mem_cons_of_mem _ (inX2 w h)) hw 0 rfl rfl 6 (by decide) (List.mem_cons_of_mem _ tb_357) (v := .int (τ 31 0)) (q_fld ((congrFun (((upr_ne (upr (upr (up σ 31 0 (τ 31 0)) 32 (va_cpy (τ 32) (σ 32) (ix 0) (ix 0) (ix (τ 31 0)))) 33 (va_cpy (τ 33) (σ 33) (ix 0) (ix 0) (ix (τ 31 0)))) 34 (va_cpy (τ 34) (σ 34) (ix 0) (ix 0) (ix (τ 31 0))) 31 (by decide)).trans (upr_ne (upr (up σ 31 0 (τ 31 0)) 32 (va_cpy (τ 32) (σ 32) (ix 0) (ix 0) (ix (τ 31 0)))) 33 (va_cpy (τ 33) (σ 33) (ix 0) (ix 0) (ix (τ 31 0))) 31 (by decide))).trans (upr_ne (up σ 31 0 (τ 31 0)) 32 (va_cpy (τ 32) (σ 32) (ix 0) (ix 0) (ix (τ 31 0))) 31 (by decide))) 0).trans (up_at0 σ 31 (τ 31 0))) rfl) dX2_copyFrom_70 ?_
  refine q_copy E hw hl 11 4 rfl rfl rfl ((((upr_ne (upr (upr (up σ 31 0 (τ 31 0)) 32 (va_cpy (τ 32) (σ 32) (ix 0) (ix 0) (ix (τ 31 0)))) 33 (va_cpy (τ 33) (σ 33) (ix 0) (ix 0) (ix (τ 31 0)))) 34 (va_cpy (τ 34) (σ 34) (ix 0) (ix 0) (ix (τ 31 0))) 35 (by decide)).trans (upr_ne (upr (up σ 31 0 (τ 31 0)) 32 (va_cpy (τ 32) (σ 32) (ix 0) (ix 0) (ix (τ 31 0)))) 33 (va_cpy (τ 33) (σ 33) (ix 0) (ix 0) (ix (τ 31 0))) 35 (by decide))).trans (upr_ne (up σ 31 0 (τ 31 0)) 32 (va_cpy (τ 32) (σ 32) (ix 0) (ix 0) (ix (τ 31 0))) 35 (by decide))).trans (up_ne σ 31 0 (τ 31 0) 35 (by decide))) (List.mem_cons_of_mem _ tb_1130) (List.mem_cons_of_mem _ tb_308) (List.mem_cons_of_mem _ tb_307) (List.mem_cons_of_mem _ tb_107) (by decide +kernel) (by decide +kernel) g1 g2 g2 (Nat.le_of_ble_eq_true rfl) (Nat.le_of_ble_eq_true rfl) (wH cA h (upr (upr (upr (upr (up σ 31 0 (τ 31 0)) 32 (va_cpy (τ 32) (σ 32) (ix 0) (ix 0) (ix (τ 31 0)))) 33 (va_cpy (τ 33) (σ 33) (ix 0) (ix 0) (ix (τ 31 0)))) 34 (va_cpy (τ 34) (σ 34) (ix 0) (ix 0) (ix (τ 31 0)))) 35 (va_cpy (τ 35) (σ 35) (ix 0) (ix 0) (ix (τ 31 0)))) ++ (wH cA t τ ++ F)) st_H_H2_35r dX2_copyFrom_73 (fun H locs hw => ?_)
  refine lv_aload_n hx hb dX2_copyFrom_76 rfl (lv_at hl 1 rfl) ?_
  refine q_get (C := RX2) (T := TX2) (N := 7) (ci := 2) E (fun w h => List.mem_cons_of_mem _ (inX2 w h)) hw 7 rfl rfl 4 (by decide) (List.mem_cons_of_mem _ tb_353) (v := .ref (t 36)) rfl dX2_copyFrom_77 ?_
  refine lv_iconst (v := 0) hx hb dX2_copyFrom_80 (by decide) ?_
  refine lv_aload_n hx hb dX2_copyFrom_81 rfl (lv_at hl 0 rfl) ?_
  refine q_get (C := RX2) (T := TX2) (N := 7) (ci := 2) E (fun w h => List.mem_cons_of_mem _ (inX2 w h)) hw 0 rfl rfl 4 (by decide) (List.mem_cons_of_mem _ tb_353) (v := .ref (h 36)) rfl dX2_copyFrom_82 ?_
  refine lv_iconst (v := 0) hx hb dX2_copyFrom_85 (by decide) ?_
  refine lv_aload_n hx hb dX2_copyFrom_86 rfl (lv_at hl 0 rfl) ?_
  refine q_get (C := RX2) (T := TX2) (N := 7) (ci := 2) E (fun w h => List.mem_cons_of_mem _ (inX2 w h)) hw 0 rfl rfl 6 (by decide) (List.mem_cons_of_mem _ tb_357) (v := .int (τ 31 0)) (q_fld ((congrFun ((((upr_ne (upr (upr (upr (up σ 31 0 (τ 31 0)) 32 (va_cpy (τ 32) (σ 32) (ix 0) (ix 0) (ix (τ 31 0)))) 33 (va_cpy (τ 33) (σ 33) (ix 0) (ix 0) (ix (τ 31 0)))) 34 (va_cpy (τ 34) (σ 34) (ix 0) (ix 0) (ix (τ 31 0)))) 35 (va_cpy (τ 35) (σ 35) (ix 0) (ix 0) (ix (τ 31 0))) 31 (by decide)).trans (upr_ne (upr (upr (up σ 31 0 (τ 31 0)) 32 (va_cpy (τ 32) (σ 32) (ix 0) (ix 0) (ix (τ 31 0)))) 33 (va_cpy (τ 33) (σ 33) (ix 0) (ix 0) (ix (τ 31 0)))) 34 (va_cpy (τ 34) (σ 34) (ix 0) (ix 0) (ix (τ 31 0))) 31 (by decide))).trans (upr_ne (upr (up σ 31 0 (τ 31 0)) 32 (va_cpy (τ 32) (σ 32) (ix 0) (ix 0) (ix (τ 31 0)))) 33 (va_cpy (τ 33) (σ 33) (ix 0) (ix 0) (ix (τ 31 0))) 31 (by decide))).trans (upr_ne (up σ 31 0 (τ 31 0)) 32 (va_cpy (τ 32) (σ 32) (ix 0) (ix 0) (ix (τ 31 0))) 31 (by decide))) 0).trans (up_at0 σ 31 (τ 31 0))) rfl) dX2_copyFrom_87 ?_
  refine q_copy E hw hl 12 5 rfl rfl rfl (((((upr_ne (upr (upr (upr (up σ 31 0 (τ 31 0)) 32 (va_cpy (τ 32) (σ 32) (ix 0) (ix 0) (ix (τ 31 0)))) 33 (va_cpy (τ 33) (σ 33) (ix 0) (ix 0) (ix (τ 31 0)))) 34 (va_cpy (τ 34) (σ 34) (ix 0) (ix 0) (ix (τ 31 0)))) 35 (va_cpy (τ 35) (σ 35) (ix 0) (ix 0) (ix (τ 31 0))) 36 (by decide)).trans (upr_ne (upr (upr (up σ 31 0 (τ 31 0)) 32 (va_cpy (τ 32) (σ 32) (ix 0) (ix 0) (ix (τ 31 0)))) 33 (va_cpy (τ 33) (σ 33) (ix 0) (ix 0) (ix (τ 31 0)))) 34 (va_cpy (τ 34) (σ 34) (ix 0) (ix 0) (ix (τ 31 0))) 36 (by decide))).trans (upr_ne (upr (up σ 31 0 (τ 31 0)) 32 (va_cpy (τ 32) (σ 32) (ix 0) (ix 0) (ix (τ 31 0)))) 33 (va_cpy (τ 33) (σ 33) (ix 0) (ix 0) (ix (τ 31 0))) 36 (by decide))).trans (upr_ne (up σ 31 0 (τ 31 0)) 32 (va_cpy (τ 32) (σ 32) (ix 0) (ix 0) (ix (τ 31 0))) 36 (by decide))).trans (up_ne σ 31 0 (τ 31 0) 36 (by decide))) (List.mem_cons_of_mem _ tb_1130) (List.mem_cons_of_mem _ tb_308) (List.mem_cons_of_mem _ tb_307) (List.mem_cons_of_mem _ tb_107) (by decide +kernel) (by decide +kernel) g1 g2 g2 (Nat.le_of_ble_eq_true rfl) (Nat.le_of_ble_eq_true rfl) (wH cA h (upr (upr (upr (upr (upr (up σ 31 0 (τ 31 0)) 32 (va_cpy (τ 32) (σ 32) (ix 0) (ix 0) (ix (τ 31 0)))) 33 (va_cpy (τ 33) (σ 33) (ix 0) (ix 0) (ix (τ 31 0)))) 34 (va_cpy (τ 34) (σ 34) (ix 0) (ix 0) (ix (τ 31 0)))) 35 (va_cpy (τ 35) (σ 35) (ix 0) (ix 0) (ix (τ 31 0)))) 36 (va_cpy (τ 36) (σ 36) (ix 0) (ix 0) (ix (τ 31 0)))) ++ (wH cA t τ ++ F)) st_H_H2_36r dX2_copyFrom_90 (fun H locs hw => ?_)
  refine lv_aload_n hx hb dX2_copyFrom_93 rfl (lv_at hl 1 rfl) ?_
  refine q_get (C := RX2) (T := TX2) (N := 7) (ci := 2) E (fun w h => List.mem_cons_of_mem _ (inX2 w h)) hw 7 rfl rfl 5 (by decide) (List.mem_cons_of_mem _ tb_355) (v := .ref (t 37)) rfl dX2_copyFrom_94 ?_
  refine lv_iconst (v := 0) hx hb dX2_copyFrom_97 (by decide) ?_
  refine lv_aload_n hx hb dX2_copyFrom_98 rfl (lv_at hl 0 rfl) ?_
  refine q_get (C := RX2) (T := TX2) (N := 7) (ci := 2) E (fun w h => List.mem_cons_of_mem _ (inX2 w h)) hw 0 rfl rfl 5 (by decide) (List.mem_cons_of_mem _ tb_355) (v := .ref (h 37)) rfl dX2_copyFrom_99 ?_
  refine lv_iconst (v := 0) hx hb dX2_copyFrom_102 (by decide) ?_
  refine lv_aload_n hx hb dX2_copyFrom_103 rfl (lv_at hl 0 rfl) ?_
  refine q_get (C := RX2) (T := TX2) (N := 7) (ci := 2) E (fun w h => List.mem_cons_of_mem _ (inX2 w h)) hw 0 rfl rfl 6 (by decide) (List.mem_cons_of_mem _ tb_357) (v := .int (τ 31 0)) (q_fld ((congrFun (((((upr_ne (upr (upr (upr (upr (up σ 31 0 (τ 31 0)) 32 (va_cpy (τ 32) (σ 32) (ix 0) (ix 0) (ix (τ 31 0)))) 33 (va_cpy (τ 33) (σ 33) (ix 0) (ix 0) (ix (τ 31 0)))) 34 (va_cpy (τ 34) (σ 34) (ix 0) (ix 0) (ix (τ 31 0)))) 35 (va_cpy (τ 35) (σ 35) (ix 0) (ix 0) (ix (τ 31 0)))) 36 (va_cpy (τ 36) (σ 36) (ix 0) (ix 0) (ix (τ 31 0))) 31 (by decide)).trans (upr_ne (upr (upr (upr (up σ 31 0 (τ 31 0)) 32 (va_cpy (τ 32) (σ 32) (ix 0) (ix 0) (ix (τ 31 0)))) 33 (va_cpy (τ 33) (σ 33) (ix 0) (ix 0) (ix (τ 31 0)))) 34 (va_cpy (τ 34) (σ 34) (ix 0) (ix 0) (ix (τ 31 0)))) 35 (va_cpy (τ 35) (σ 35) (ix 0) (ix 0) (ix (τ 31 0))) 31 (by decide))).trans (upr_ne (upr (upr (up σ 31 0 (τ 31 0)) 32 (va_cpy (τ 32) (σ 32) (ix 0) (ix 0) (ix (τ 31 0)))) 33 (va_cpy (τ 33) (σ 33) (ix 0) (ix 0) (ix (τ 31 0)))) 34 (va_cpy (τ 34) (σ 34) (ix 0) (ix 0) (ix (τ 31 0))) 31 (by decide))).trans (upr_ne (upr (up σ 31 0 (τ 31 0)) 32 (va_cpy (τ 32) (σ 32) (ix 0) (ix 0) (ix (τ 31 0)))) 33 (va_cpy (τ 33) (σ 33) (ix 0) (ix 0) (ix (τ 31 0))) 31 (by decide))).trans (upr_ne (up σ 31 0 (τ 31 0)) 32 (va_cpy (τ 32) (σ 32) (ix 0) (ix 0) (ix (τ 31 0))) 31 (by decide))) 0).trans (up_at0 σ 31 (τ 31 0))) rfl) dX2_copyFrom_104 ?_
  refine q_copy E hw hl 13 6 rfl rfl rfl ((((((upr_ne (upr (upr (upr (upr (up σ 31 0 (τ 31 0)) 32 (va_cpy (τ 32) (σ 32) (ix 0) (ix 0) (ix (τ 31 0)))) 33 (va_cpy (τ 33) (σ 33) (ix 0) (ix 0) (ix (τ 31 0)))) 34 (va_cpy (τ 34) (σ 34) (ix 0) (ix 0) (ix (τ 31 0)))) 35 (va_cpy (τ 35) (σ 35) (ix 0) (ix 0) (ix (τ 31 0)))) 36 (va_cpy (τ 36) (σ 36) (ix 0) (ix 0) (ix (τ 31 0))) 37 (by decide)).trans (upr_ne (upr (upr (upr (up σ 31 0 (τ 31 0)) 32 (va_cpy (τ 32) (σ 32) (ix 0) (ix 0) (ix (τ 31 0)))) 33 (va_cpy (τ 33) (σ 33) (ix 0) (ix 0) (ix (τ 31 0)))) 34 (va_cpy (τ 34) (σ 34) (ix 0) (ix 0) (ix (τ 31 0)))) 35 (va_cpy (τ 35) (σ 35) (ix 0) (ix 0) (ix (τ 31 0))) 37 (by decide))).trans (upr_ne (upr (upr (up σ 31 0 (τ 31 0)) 32 (va_cpy (τ 32) (σ 32) (ix 0) (ix 0) (ix (τ 31 0)))) 33 (va_cpy (τ 33) (σ 33) (ix 0) (ix 0) (ix (τ 31 0)))) 34 (va_cpy (τ 34) (σ 34) (ix 0) (ix 0) (ix (τ 31 0))) 37 (by decide))).trans (upr_ne (upr (up σ 31 0 (τ 31 0)) 32 (va_cpy (τ 32) (σ 32) (ix 0) (ix 0) (ix (τ 31 0)))) 33 (va_cpy (τ 33) (σ 33) (ix 0) (ix 0) (ix (τ 31 0))) 37 (by decide))).trans (upr_ne (up σ 31 0 (τ 31 0)) 32 (va_cpy (τ 32) (σ 32) (ix 0) (ix 0) (ix (τ 31 0))) 37 (by decide))).trans (up_ne σ 31 0 (τ 31 0) 37 (by decide))) (List.mem_cons_of_mem _ tb_1130) (List.mem_cons_of_mem _ tb_308) (List.mem_cons_of_mem _ tb_307) (List.mem_cons_of_mem _ tb_107) (by decide +kernel) (by decide +kernel) g1 g2 g2 (Nat.le_of_ble_eq_true rfl) (Nat.le_of_ble_eq_true rfl) (wH cA h (upr (upr (upr (upr (upr (upr (up σ 31 0 (τ 31 0)) 32 (va_cpy (τ 32) (σ 32) (ix 0) (ix 0) (ix (τ 31 0)))) 33 (va_cpy (τ 33) (σ 33) (ix 0) (ix 0) (ix (τ 31 0)))) 34 (va_cpy (τ 34) (σ 34) (ix 0) (ix 0) (ix (τ 31 0)))) 35 (va_cpy (τ 35) (σ 35) (ix 0) (ix 0) (ix (τ 31 0)))) 36 (va_cpy (τ 36) (σ 36) (ix 0) (ix 0) (ix (τ 31 0)))) 37 (va_cpy (τ 37) (σ 37) (ix 0) (ix 0) (ix (τ 31 0)))) ++ (wH cA t τ ++ F)) st_H_H2_37r dX2_copyFrom_107 (fun H locs hw => ?_)
  cases hM
  exact q_retv E hw dX2_copyFrom_110
set_option maxRecDepth 100000 in
set_option maxHeartbeats 4000000 in
theorem s_X5_append_15 (l : Launch) (D : va_G) (cA : Nat → ClassId) (tS : Nat → Nat) (A : Nat → Prop) (z : Nat → Nat) (F : va_W) (N : Nat) {p : Program} {e : Env} {s : State} {m : MethodId} {args : Array Value} {below : List Frame} {meth : Method} {c : Code} (E : Ev p cX5_append 3 (some .boolean) RX5 (Cond.code yX5_append cX5_append 3 (some .boolean) :: bw) D cA tS A s m args meth c) : ∀ (n : Nat) (x1 : Int32) (x2 : Int32) (κ : Sg) (r0 : Int32) (s0 : Sg) (hM : f_X5_append_15 N n x1 x2 κ = some (r0, s0)) (H : Heap) (locs : List Loc) (hw : Wd D A (wSc cA z κ ++ (wR cA z κ ++ F)) s.heap H locs) (ls : Array Slot) (hl : lv_has ls 3 [(0, .ref (z 60)), (1, .int x1), (2, .int x2)]), W p l e ({ frames := 0, cells := 0, slots := 0, locals := 0 } : Room) s m args below meth c H locs 0 0 (MQ below (QW D A (some (.int r0)) (wSc cA z s0 ++ (wR cA z s0 ++ F))) args s 0 0 A) (F0 m 15 ls []) := by
  have hx := E.1.1
  have hb := E.1.2.1
  intro n
  induction n with
  | zero =>
    intro x1 x2 κ r0 s0 hM
    cases hM
  | succ n ih =>
    intro x1 x2 κ r0 s0 hM H locs hw ls hl
    rw [f_X5_append_15] at hM
    refine lv_iload_n hx hb dX5_append_15 rfl (lv_at hl 2 rfl) ?_
    refine lv_if_lt (tgt := 48) hx hb dX5_append_16 (by decide) (fun c1 => ?_) (fun c1 => ?_)
    · replace hM := i_pos hM c1
      refine lv_iconst (v := 1) hx hb dX5_append_48 (by decide) ?_
      cases hM
      exact q_retz E hw (by decide) dX5_append_49
    · replace hM := i_neg hM c1
      refine lv_aload_n hx hb dX5_append_19 rfl (lv_at hl 0 rfl) ?_
      refine q_get (C := RX5) (T := TX5) (N := 13) (ci := 5) E (fun w h => List.mem_cons_of_mem _ (inX5 w h)) hw 0 rfl rfl 0 (by decide) (List.mem_cons_of_mem _ tb_394) (v := .ref (z 61)) rfl dX5_append_20 ?_
      refine lv_aload_n hx hb dX5_append_23 rfl (lv_at hl 0 rfl) ?_
      refine q_get (C := RX5) (T := TX5) (N := 13) (ci := 5) E (fun w h => List.mem_cons_of_mem _ (inX5 w h)) hw 0 rfl rfl 1 (by decide) (List.mem_cons_of_mem _ tb_395) (v := .int (κ 1 0)) rfl dX5_append_24 ?_
      refine lv_iload_n hx hb dX5_append_27 rfl (lv_at hl 1 rfl) ?_
      refine lv_iload_n hx hb dX5_append_28 rfl (lv_at hl 2 rfl) ?_
      refine lv_ishr hx hb dX5_append_29 ?_
      refine lv_i2b (v := ((x1 >>> (x2 &&& 31)) : Int32).toInt8.toInt32) hx hb dX5_append_30 rfl ?_
      obtain ⟨g2, hM⟩ := g_some hM
      refine q_bst E hw 1 (n := 400) rfl g2 (wSc cA z (up κ 61 (ix (κ 1 0)) (vp_nar .byte (((x1 >>> (x2 &&& 31)) : Int32).toInt8.toInt32))) ++ (wR cA z (up κ 61 (ix (κ 1 0)) (vp_nar .byte (((x1 >>> (x2 &&& 31)) : Int32).toInt8.toInt32))) ++ F)) st_Sc_R_61 dX5_append_31 (fun H locs hw => ?_)
      refine lv_aload_n hx hb dX5_append_32 rfl (lv_at hl 0 rfl) ?_
      refine lv_dup hx hb dX5_append_33 rfl ?_
      refine q_get (C := RX5) (T := TX5) (N := 13) (ci := 5) E (fun w h => List.mem_cons_of_mem _ (inX5 w h)) hw 0 rfl rfl 1 (by decide) (List.mem_cons_of_mem _ tb_395) (v := .int (κ 1 0)) (q_fld (congrFun (up_ne κ 61 (ix (κ 1 0)) (vp_nar .byte (((x1 >>> (x2 &&& 31)) : Int32).toInt8.toInt32)) 1 (by decide)) 0) rfl) dX5_append_34 ?_
      refine lv_iconst (v := 1) hx hb dX5_append_37 (by decide) ?_
      refine lv_iadd hx hb dX5_append_38 ?_
      refine q_puti (C := RX5) (T := TX5) (N := 13) (ci := 5) E (fun w h => List.mem_cons_of_mem _ (inX5 w h)) tyX5 tyX5_ok nmX5 hw 0 rfl rfl 1 (by decide) (List.mem_cons_of_mem _ tb_395) rfl rfl (Nat.le_of_ble_eq_true rfl) (wSc cA z (up (up κ 61 (ix (κ 1 0)) (vp_nar .byte (((x1 >>> (x2 &&& 31)) : Int32).toInt8.toInt32))) 1 0 ((κ 1 0) + 1)) ++ (wR cA z (up (up κ 61 (ix (κ 1 0)) (vp_nar .byte (((x1 >>> (x2 &&& 31)) : Int32).toInt8.toInt32))) 1 0 ((κ 1 0) + 1)) ++ F)) st_Sc_R_1 dX5_append_39 (fun H locs hw => ?_)
      refine lv_iinc (v := (x2 + (-8))) (lv' := [(2, .int (x2 + (-8))), (0, .ref (z 60)), (1, .int x1)]) hx hb dX5_append_42 hl (k := 2) rfl rfl (by decide) rfl (fun ls hl => ?_)
      refine lv_goto (tgt := 15) hx hb dX5_append_45 (by decide) ?_
      exact ih _ _ _ _ _ hM _ _ hw _ (lv_sub hl [1, 2, 0] rfl)
set_option maxRecDepth 100000 in
set_option maxHeartbeats 4000000 in
theorem c_X5_append (l : Launch) (D : va_G) (cA : Nat → ClassId) (tS : Nat → Nat) (A : Nat → Prop) (z : Nat → Nat) (F : va_W) (N : Nat) (x1 : Int32) (κ : Sg) (r0 : Int32) (s0 : Sg) (hM : f_X5_append N x1 κ = some (r0, s0)) : Ct l yX5_append (Cond.code yX5_append cX5_append 3 (some .boolean) :: bw) 0 0 D cA tS A [.ref (z 60), .int x1] (wSc cA z κ ++ (wR cA z κ ++ F)) (some (.int r0)) (wSc cA z s0 ++ (wR cA z s0 ++ F)) := by
  refine ct_of (by decide +kernel) (Nat.le_of_ble_eq_true rfl) ?_
  intro p e s m below meth c E hw ls hl
  replace E : Ev p cX5_append 3 (some .boolean) RX5 (Cond.code yX5_append cX5_append 3 (some .boolean) :: bw) D cA tS A s m _ meth c := E
  replace hl : lv_has ls 3 [(0, .ref (z 60)), (1, .int x1)] := hl
  have hx := E.1.1
  have hb := E.1.2.1
  unfold f_X5_append at hM
  refine lv_aload_n hx hb dX5_append_0 rfl (lv_at hl 0 rfl) ?_
  refine q_get (C := RX5) (T := TX5) (N := 13) (ci := 5) E (fun w h => List.mem_cons_of_mem _ (inX5 w h)) hw 0 rfl rfl 1 (by decide) (List.mem_cons_of_mem _ tb_395) (v := .int (κ 1 0)) rfl dX5_append_1 ?_
  refine lv_sipush (v := 396) hx hb dX5_append_4 (by decide) ?_
  refine lv_icmp_le (tgt := 12) hx hb dX5_append_7 (by decide) (fun c1 => ?_) (fun c1 => ?_)
  · replace hM := i_pos hM c1
    refine lv_bipush (v := 24) hx hb dX5_append_12 (by decide) ?_
    refine lv_istore_n (lv' := [(2, .int 24), (0, .ref (z 60)), (1, .int x1)]) hx hb dX5_append_14 rfl hl (by decide) rfl (fun ls hl => ?_)
    exact s_X5_append_15 l D cA tS A z F N E N _ _ _ _ _ hM _ _ hw _ (lv_sub hl [1, 2, 0] rfl)
  · replace hM := i_neg hM c1
    refine lv_iconst (v := 0) hx hb dX5_append_10 (by decide) ?_
    cases hM
    exact q_retz E hw (by decide) dX5_append_11
set_option maxRecDepth 100000 in
set_option maxHeartbeats 4000000 in
theorem c_X5_isSpace (l : Launch) (D : va_G) (cA : Nat → ClassId) (tS : Nat → Nat) (A : Nat → Prop) (F : va_W) (x0 : Int32) (r0 : Int32) (hM : f_X5_isSpace x0 = some r0) : Ct l yX5_isSpace (Cond.code yX5_isSpace cX5_isSpace 1 (some .boolean) :: bw) 0 0 D cA tS A [.int x0] F (some (.int r0)) F := by
  refine ct_of (by decide +kernel) (Nat.le_of_ble_eq_true rfl) ?_
  intro p e s m below meth c E hw ls hl
  replace E : Ev p cX5_isSpace 1 (some .boolean) RX5 (Cond.code yX5_isSpace cX5_isSpace 1 (some .boolean) :: bw) D cA tS A s m _ meth c := E
  replace hl : lv_has ls 1 [(0, .int x0)] := hl
  have hx := E.1.1
  have hb := E.1.2.1
  unfold f_X5_isSpace at hM
  refine lv_iload_n hx hb dX5_isSpace_0 rfl (lv_at hl 0 rfl) ?_
  refine lv_bipush (v := 32) hx hb dX5_isSpace_1 (by decide) ?_
  refine lv_icmp_eq (tgt := 12) hx hb dX5_isSpace_3 (by decide) (fun c1 => ?_) (fun c1 => ?_)
  · replace hM := i_pos hM c1
    refine lv_iconst (v := 1) hx hb dX5_isSpace_12 (by decide) ?_
    refine lv_goto (tgt := 17) hx hb dX5_isSpace_13 (by decide) ?_
    cases hM
    exact q_retz E hw (by decide) dX5_isSpace_17
  · replace hM := i_neg hM c1
    refine lv_iload_n hx hb dX5_isSpace_6 rfl (lv_at hl 0 rfl) ?_
    refine lv_bipush (v := 10) hx hb dX5_isSpace_7 (by decide) ?_
    refine lv_icmp_ne (tgt := 16) hx hb dX5_isSpace_9 (by decide) (fun c2 => ?_) (fun c2 => ?_)
    · replace hM := i_neg hM c2
      refine lv_iconst (v := 0) hx hb dX5_isSpace_16 (by decide) ?_
      cases hM
      exact q_retz E hw (by decide) dX5_isSpace_17
    · replace hM := i_pos hM c2
      refine lv_iconst (v := 1) hx hb dX5_isSpace_12 (by decide) ?_
      refine lv_goto (tgt := 17) hx hb dX5_isSpace_13 (by decide) ?_
      cases hM
      exact q_retz E hw (by decide) dX5_isSpace_17
set_option maxRecDepth 100000 in
set_option maxHeartbeats 4000000 in
theorem c_X5_isLetter (l : Launch) (D : va_G) (cA : Nat → ClassId) (tS : Nat → Nat) (A : Nat → Prop) (F : va_W) (x0 : Int32) (r0 : Int32) (hM : f_X5_isLetter x0 = some r0) : Ct l yX5_isLetter (Cond.code yX5_isLetter cX5_isLetter 1 (some .boolean) :: bw) 0 0 D cA tS A [.int x0] F (some (.int r0)) F := by
  refine ct_of (by decide +kernel) (Nat.le_of_ble_eq_true rfl) ?_
  intro p e s m below meth c E hw ls hl
  replace E : Ev p cX5_isLetter 1 (some .boolean) RX5 (Cond.code yX5_isLetter cX5_isLetter 1 (some .boolean) :: bw) D cA tS A s m _ meth c := E
  replace hl : lv_has ls 1 [(0, .int x0)] := hl
  have hx := E.1.1
  have hb := E.1.2.1
  unfold f_X5_isLetter at hM
  refine lv_iload_n hx hb dX5_isLetter_0 rfl (lv_at hl 0 rfl) ?_
  refine lv_bipush (v := 97) hx hb dX5_isLetter_1 (by decide) ?_
  refine lv_icmp_lt (tgt := 16) hx hb dX5_isLetter_3 (by decide) (fun c1 => ?_) (fun c1 => ?_)
  · replace hM := i_pos hM c1
    refine lv_iconst (v := 0) hx hb dX5_isLetter_16 (by decide) ?_
    cases hM
    exact q_retz E hw (by decide) dX5_isLetter_17
  · replace hM := i_neg hM c1
    refine lv_iload_n hx hb dX5_isLetter_6 rfl (lv_at hl 0 rfl) ?_
    refine lv_bipush (v := 122) hx hb dX5_isLetter_7 (by decide) ?_
    refine lv_icmp_gt (tgt := 16) hx hb dX5_isLetter_9 (by decide) (fun c2 => ?_) (fun c2 => ?_)
    · replace hM := i_pos hM c2
      refine lv_iconst (v := 0) hx hb dX5_isLetter_16 (by decide) ?_
      cases hM
      exact q_retz E hw (by decide) dX5_isLetter_17
    · replace hM := i_neg hM c2
      refine lv_iconst (v := 1) hx hb dX5_isLetter_12 (by decide) ?_
      refine lv_goto (tgt := 17) hx hb dX5_isLetter_13 (by decide) ?_
      cases hM
      exact q_retz E hw (by decide) dX5_isLetter_17
set_option maxRecDepth 100000 in
set_option maxHeartbeats 4000000 in
theorem c_X5_isDigit (l : Launch) (D : va_G) (cA : Nat → ClassId) (tS : Nat → Nat) (A : Nat → Prop) (F : va_W) (x0 : Int32) (r0 : Int32) (hM : f_X5_isDigit x0 = some r0) : Ct l yX5_isDigit (Cond.code yX5_isDigit cX5_isDigit 1 (some .boolean) :: bw) 0 0 D cA tS A [.int x0] F (some (.int r0)) F := by
  refine ct_of (by decide +kernel) (Nat.le_of_ble_eq_true rfl) ?_
  intro p e s m below meth c E hw ls hl
  replace E : Ev p cX5_isDigit 1 (some .boolean) RX5 (Cond.code yX5_isDigit cX5_isDigit 1 (some .boolean) :: bw) D cA tS A s m _ meth c := E
  replace hl : lv_has ls 1 [(0, .int x0)] := hl
  have hx := E.1.1
  have hb := E.1.2.1
  unfold f_X5_isDigit at hM
  refine lv_iload_n hx hb dX5_isDigit_0 rfl (lv_at hl 0 rfl) ?_
  refine lv_bipush (v := 48) hx hb dX5_isDigit_1 (by decide) ?_
  refine lv_icmp_lt (tgt := 16) hx hb dX5_isDigit_3 (by decide) (fun c1 => ?_) (fun c1 => ?_)
  · replace hM := i_pos hM c1
    refine lv_iconst (v := 0) hx hb dX5_isDigit_16 (by decide) ?_
    cases hM
    exact q_retz E hw (by decide) dX5_isDigit_17
  · replace hM := i_neg hM c1
    refine lv_iload_n hx hb dX5_isDigit_6 rfl (lv_at hl 0 rfl) ?_
    refine lv_bipush (v := 57) hx hb dX5_isDigit_7 (by decide) ?_
    refine lv_icmp_gt (tgt := 16) hx hb dX5_isDigit_9 (by decide) (fun c2 => ?_) (fun c2 => ?_)
    · replace hM := i_pos hM c2
      refine lv_iconst (v := 0) hx hb dX5_isDigit_16 (by decide) ?_
      cases hM
      exact q_retz E hw (by decide) dX5_isDigit_17
    · replace hM := i_neg hM c2
      refine lv_iconst (v := 1) hx hb dX5_isDigit_12 (by decide) ?_
      refine lv_goto (tgt := 17) hx hb dX5_isDigit_13 (by decide) ?_
      cases hM
      exact q_retz E hw (by decide) dX5_isDigit_17
set_option maxRecDepth 100000 in
set_option maxHeartbeats 4000000 in
theorem s_X5_readNumber_5 (l : Launch) (D : va_G) (cA : Nat → ClassId) (tS : Nat → Nat) (A : Nat → Prop) (z : Nat → Nat) (F : va_W) (N : Nat) {p : Program} {e : Env} {s : State} {m : MethodId} {args : Array Value} {below : List Frame} {meth : Method} {c : Code} (E : Ev p cX5_readNumber 1 none RX5 (Cond.code yX5_readNumber cX5_readNumber 1 none :: bw) D cA tS A s m args meth c) : ∀ (n : Nat) (κ : Sg) (s0 : Sg) (hM : f_X5_readNumber_5 N n κ = some s0) (H : Heap) (locs : List Loc) (hw : Wd D A (wSc cA z κ ++ (wR cA z κ ++ F)) s.heap H locs) (ls : Array Slot) (hl : lv_has ls 1 [(0, .ref (z 60))]), W p l e ({ frames := 1, cells := 0, slots := 0, locals := 21 } : Room) s m args below meth c H locs 0 0 (MQ below (QW D A none (wSc cA z s0 ++ (wR cA z s0 ++ F))) args s 0 0 A) (F0 m 5 ls []) := by
  have hx := E.1.1
  have hb := E.1.2.1
  intro n
  induction n with
  | zero =>
    intro κ s0 hM
    cases hM
  | succ n ih =>
    intro κ s0 hM H locs hw ls hl
    rw [f_X5_readNumber_5] at hM
    refine lv_aload_n hx hb dX5_readNumber_5 rfl (lv_at hl 0 rfl) ?_
    refine q_get (C := RX5) (T := TX5) (N := 13) (ci := 5) E (fun w h => List.mem_cons_of_mem _ (inX5 w h)) hw 0 rfl rfl 11 (by decide) (List.mem_cons_of_mem _ tb_412) (v := .int (κ 10 0)) rfl dX5_readNumber_6 ?_
    refine lv_aload_n hx hb dX5_readNumber_9 rfl (lv_at hl 0 rfl) ?_
    refine q_get (C := RX5) (T := TX5) (N := 13) (ci := 5) E (fun w h => List.mem_cons_of_mem _ (inX5 w h)) hw 0 rfl rfl 1 (by decide) (List.mem_cons_of_mem _ tb_395) (v := .int (κ 1 0)) rfl dX5_readNumber_10 ?_
    refine lv_icmp_ge (tgt := 73) hx hb dX5_readNumber_13 (by decide) (fun c1 => ?_) (fun c1 => ?_)
    · replace hM := i_pos hM c1
      cases hM
      exact q_retv E hw dX5_readNumber_73
    · replace hM := i_neg hM c1
      refine lv_aload_n hx hb dX5_readNumber_16 rfl (lv_at hl 0 rfl) ?_
      refine q_get (C := RX5) (T := TX5) (N := 13) (ci := 5) E (fun w h => List.mem_cons_of_mem _ (inX5 w h)) hw 0 rfl rfl 0 (by decide) (List.mem_cons_of_mem _ tb_394) (v := .ref (z 61)) rfl dX5_readNumber_17 ?_
      refine lv_aload_n hx hb dX5_readNumber_20 rfl (lv_at hl 0 rfl) ?_
      refine q_get (C := RX5) (T := TX5) (N := 13) (ci := 5) E (fun w h => List.mem_cons_of_mem _ (inX5 w h)) hw 0 rfl rfl 11 (by decide) (List.mem_cons_of_mem _ tb_412) (v := .int (κ 10 0)) rfl dX5_readNumber_21 ?_
      obtain ⟨g2, hM⟩ := g_some hM
      refine q_bld E hw 1 (n := 400) rfl g2 (x := (κ 61 (ix (κ 10 0)))) rfl dX5_readNumber_24 ?_
      obtain ⟨p3, h4, hM⟩ := b_some hM
      refine q_cs (As := [.int (κ 61 (ix (κ 10 0)))]) (rest := []) E hw hl (c_X5_isDigit l D cA tS A (wSc cA z κ ++ (wR cA z κ ++ F)) (κ 61 (ix (κ 10 0))) p3 h4) 1 (bwS bw_c tb_1008 tb_1009 tb_110 tb_1010) rfl (by decide +kernel) ⟨Nat.le_of_ble_eq_true rfl, Nat.le_of_ble_eq_true rfl⟩ rfl rfl (Nat.le_of_ble_eq_true rfl) ⟨Nat.zero_le _, Nat.zero_le _⟩ dX5_readNumber_25 (fun H locs hw => ?_)
      refine lv_if_eq (tgt := 73) hx hb dX5_readNumber_28 (by decide) (fun c5 => ?_) (fun c5 => ?_)
      · replace hM := i_pos hM c5
        cases hM
        exact q_retv E hw dX5_readNumber_73
      · replace hM := i_neg hM c5
        refine lv_aload_n hx hb dX5_readNumber_31 rfl (lv_at hl 0 rfl) ?_
        refine lv_aload_n hx hb dX5_readNumber_32 rfl (lv_at hl 0 rfl) ?_
        refine q_get (C := RX5) (T := TX5) (N := 13) (ci := 5) E (fun w h => List.mem_cons_of_mem _ (inX5 w h)) hw 0 rfl rfl 12 (by decide) (List.mem_cons_of_mem _ tb_413) (v := .int (κ 11 0)) rfl dX5_readNumber_33 ?_
        refine lv_bipush (v := 10) hx hb dX5_readNumber_36 (by decide) ?_
        refine lv_imul hx hb dX5_readNumber_38 ?_
        refine lv_aload_n hx hb dX5_readNumber_39 rfl (lv_at hl 0 rfl) ?_
        refine q_get (C := RX5) (T := TX5) (N := 13) (ci := 5) E (fun w h => List.mem_cons_of_mem _ (inX5 w h)) hw 0 rfl rfl 0 (by decide) (List.mem_cons_of_mem _ tb_394) (v := .ref (z 61)) rfl dX5_readNumber_40 ?_
        refine lv_aload_n hx hb dX5_readNumber_43 rfl (lv_at hl 0 rfl) ?_
        refine q_get (C := RX5) (T := TX5) (N := 13) (ci := 5) E (fun w h => List.mem_cons_of_mem _ (inX5 w h)) hw 0 rfl rfl 11 (by decide) (List.mem_cons_of_mem _ tb_412) (v := .int (κ 10 0)) rfl dX5_readNumber_44 ?_
        refine q_bld E hw 1 (n := 400) rfl g2 (x := (κ 61 (ix (κ 10 0)))) rfl dX5_readNumber_47 ?_
        refine lv_iadd hx hb dX5_readNumber_48 ?_
        refine lv_bipush (v := 48) hx hb dX5_readNumber_49 (by decide) ?_
        refine lv_isub hx hb dX5_readNumber_51 ?_
        refine lv_ldc (v := 100000) hx hb E.1.2.2.2.1 (E.1.2.2.2.2 _ (List.mem_cons_of_mem _ tb_1015)) dX5_readNumber_52 ?_
        refine va_mmin hx hb (E.1.2.2.1.trans hl.1.symm) E.1.2.2.2.1 (E.1.2.2.2.2 _ (List.mem_cons_of_mem _ tb_1016)) (E.1.2.2.2.2 _ (List.mem_cons_of_mem _ tb_616)) (E.1.2.2.2.2 _ (List.mem_cons_of_mem _ tb_106)) (E.1.2.2.2.2 _ (List.mem_cons_of_mem _ tb_617)) (Nat.le_of_ble_eq_true rfl) (Nat.le_of_ble_eq_true rfl) (Nat.zero_le _) (Nat.zero_le _) dX5_readNumber_54 ?_
        refine q_puti (C := RX5) (T := TX5) (N := 13) (ci := 5) E (fun w h => List.mem_cons_of_mem _ (inX5 w h)) tyX5 tyX5_ok nmX5 hw 0 rfl rfl 12 (by decide) (List.mem_cons_of_mem _ tb_413) rfl rfl (Nat.le_of_ble_eq_true rfl) (wSc cA z (up κ 11 0 (if 100000 < ((((κ 11 0) * 10) + (κ 61 (ix (κ 10 0)))) - 48) then 100000 else ((((κ 11 0) * 10) + (κ 61 (ix (κ 10 0)))) - 48))) ++ (wR cA z (up κ 11 0 (if 100000 < ((((κ 11 0) * 10) + (κ 61 (ix (κ 10 0)))) - 48) then 100000 else ((((κ 11 0) * 10) + (κ 61 (ix (κ 10 0)))) - 48))) ++ F)) st_Sc_R_11 dX5_readNumber_57 (fun H locs hw => ?_)
        refine lv_aload_n hx hb dX5_readNumber_60 rfl (lv_at hl 0 rfl) ?_
        refine lv_dup hx hb dX5_readNumber_61 rfl ?_
        refine q_get (C := RX5) (T := TX5) (N := 13) (ci := 5) E (fun w h => List.mem_cons_of_mem _ (inX5 w h)) hw 0 rfl rfl 11 (by decide) (List.mem_cons_of_mem _ tb_412) (v := .int (κ 10 0)) (q_fld (congrFun (up_ne κ 11 0 (if 100000 < ((((κ 11 0) * 10) + (κ 61 (ix (κ 10 0)))) - 48) then 100000 else ((((κ 11 0) * 10) + (κ 61 (ix (κ 10 0)))) - 48)) 10 (by decide)) 0) rfl) dX5_readNumber_62 ?_
        refine lv_iconst (v := 1) hx hb dX5_readNumber_65 (by decide) ?_
        refine lv_iadd hx hb dX5_readNumber_66 ?_
        refine q_puti (C := RX5) (T := TX5) (N := 13) (ci := 5) E (fun w h => List.mem_cons_of_mem _ (inX5 w h)) tyX5 tyX5_ok nmX5 hw 0 rfl rfl 11 (by decide) (List.mem_cons_of_mem _ tb_412) rfl rfl (Nat.le_of_ble_eq_true rfl) (wSc cA z (up (up κ 11 0 (if 100000 < ((((κ 11 0) * 10) + (κ 61 (ix (κ 10 0)))) - 48) then 100000 else ((((κ 11 0) * 10) + (κ 61 (ix (κ 10 0)))) - 48))) 10 0 ((κ 10 0) + 1)) ++ (wR cA z (up (up κ 11 0 (if 100000 < ((((κ 11 0) * 10) + (κ 61 (ix (κ 10 0)))) - 48) then 100000 else ((((κ 11 0) * 10) + (κ 61 (ix (κ 10 0)))) - 48))) 10 0 ((κ 10 0) + 1)) ++ F)) st_Sc_R_10 dX5_readNumber_67 (fun H locs hw => ?_)
        refine lv_goto (tgt := 5) hx hb dX5_readNumber_70 (by decide) ?_
        exact ih _ _ hM _ _ hw _ (lv_sub hl [0] rfl)
set_option maxRecDepth 100000 in
set_option maxHeartbeats 4000000 in
theorem c_X5_readNumber (l : Launch) (D : va_G) (cA : Nat → ClassId) (tS : Nat → Nat) (A : Nat → Prop) (z : Nat → Nat) (F : va_W) (N : Nat) (κ : Sg) (s0 : Sg) (hM : f_X5_readNumber N κ = some s0) : Ct l yX5_readNumber (Cond.code yX5_readNumber cX5_readNumber 1 none :: bw) 1 21 D cA tS A [.ref (z 60)] (wSc cA z κ ++ (wR cA z κ ++ F)) none (wSc cA z s0 ++ (wR cA z s0 ++ F)) := by
  refine ct_of (by decide +kernel) (Nat.le_of_ble_eq_true rfl) ?_
  intro p e s m below meth c E hw ls hl
  replace E : Ev p cX5_readNumber 1 none RX5 (Cond.code yX5_readNumber cX5_readNumber 1 none :: bw) D cA tS A s m _ meth c := E
  replace hl : lv_has ls 1 [(0, .ref (z 60))] := hl
  have hx := E.1.1
  have hb := E.1.2.1
  unfold f_X5_readNumber at hM
  refine lv_aload_n hx hb dX5_readNumber_0 rfl (lv_at hl 0 rfl) ?_
  refine lv_iconst (v := 0) hx hb dX5_readNumber_1 (by decide) ?_
  refine q_puti (C := RX5) (T := TX5) (N := 13) (ci := 5) E (fun w h => List.mem_cons_of_mem _ (inX5 w h)) tyX5 tyX5_ok nmX5 hw 0 rfl rfl 12 (by decide) (List.mem_cons_of_mem _ tb_413) rfl rfl (Nat.le_of_ble_eq_true rfl) (wSc cA z (up κ 11 0 0) ++ (wR cA z (up κ 11 0 0) ++ F)) st_Sc_R_11 dX5_readNumber_2 (fun H locs hw => ?_)
  exact s_X5_readNumber_5 l D cA tS A z F N E N _ _ hM _ _ hw _ (lv_sub hl [0] rfl)
set_option maxRecDepth 100000 in
set_option maxHeartbeats 4000000 in
theorem s_X5_readWord_0 (l : Launch) (D : va_G) (cA : Nat → ClassId) (tS : Nat → Nat) (A : Nat → Prop) (z : Nat → Nat) (F : va_W) (N : Nat) {p : Program} {e : Env} {s : State} {m : MethodId} {args : Array Value} {below : List Frame} {meth : Method} {c : Code} (E : Ev p cX5_readWord 1 none RX5 (Cond.code yX5_readWord cX5_readWord 1 none :: bw) D cA tS A s m args meth c) : ∀ (n : Nat) (κ : Sg) (s0 : Sg) (hM : f_X5_readWord_0 N n κ = some s0) (H : Heap) (locs : List Loc) (hw : Wd D A (wSc cA z κ ++ (wR cA z κ ++ F)) s.heap H locs) (ls : Array Slot) (hl : lv_has ls 1 [(0, .ref (z 60))]), W p l e ({ frames := 1, cells := 0, slots := 0, locals := 20 } : Room) s m args below meth c H locs 0 0 (MQ below (QW D A none (wSc cA z s0 ++ (wR cA z s0 ++ F))) args s 0 0 A) (F0 m 0 ls []) := by
  have hx := E.1.1
  have hb := E.1.2.1
  intro n
  induction n with
  | zero =>
    intro κ s0 hM
    cases hM
  | succ n ih =>
    intro κ s0 hM H locs hw ls hl
    rw [f_X5_readWord_0] at hM
    refine lv_aload_n hx hb dX5_readWord_0 rfl (lv_at hl 0 rfl) ?_
    refine q_get (C := RX5) (T := TX5) (N := 13) (ci := 5) E (fun w h => List.mem_cons_of_mem _ (inX5 w h)) hw 0 rfl rfl 11 (by decide) (List.mem_cons_of_mem _ tb_412) (v := .int (κ 10 0)) rfl dX5_readWord_1 ?_
    refine lv_aload_n hx hb dX5_readWord_4 rfl (lv_at hl 0 rfl) ?_
    refine q_get (C := RX5) (T := TX5) (N := 13) (ci := 5) E (fun w h => List.mem_cons_of_mem _ (inX5 w h)) hw 0 rfl rfl 1 (by decide) (List.mem_cons_of_mem _ tb_395) (v := .int (κ 1 0)) rfl dX5_readWord_5 ?_
    refine lv_icmp_ge (tgt := 39) hx hb dX5_readWord_8 (by decide) (fun c1 => ?_) (fun c1 => ?_)
    · replace hM := i_pos hM c1
      cases hM
      exact q_retv E hw dX5_readWord_39
    · replace hM := i_neg hM c1
      refine lv_aload_n hx hb dX5_readWord_11 rfl (lv_at hl 0 rfl) ?_
      refine q_get (C := RX5) (T := TX5) (N := 13) (ci := 5) E (fun w h => List.mem_cons_of_mem _ (inX5 w h)) hw 0 rfl rfl 0 (by decide) (List.mem_cons_of_mem _ tb_394) (v := .ref (z 61)) rfl dX5_readWord_12 ?_
      refine lv_aload_n hx hb dX5_readWord_15 rfl (lv_at hl 0 rfl) ?_
      refine q_get (C := RX5) (T := TX5) (N := 13) (ci := 5) E (fun w h => List.mem_cons_of_mem _ (inX5 w h)) hw 0 rfl rfl 11 (by decide) (List.mem_cons_of_mem _ tb_412) (v := .int (κ 10 0)) rfl dX5_readWord_16 ?_
      obtain ⟨g2, hM⟩ := g_some hM
      refine q_bld E hw 1 (n := 400) rfl g2 (x := (κ 61 (ix (κ 10 0)))) rfl dX5_readWord_19 ?_
      obtain ⟨p3, h4, hM⟩ := b_some hM
      refine q_cs (As := [.int (κ 61 (ix (κ 10 0)))]) (rest := []) E hw hl (c_X5_isLetter l D cA tS A (wSc cA z κ ++ (wR cA z κ ++ F)) (κ 61 (ix (κ 10 0))) p3 h4) 1 (bwS bw_c tb_1001 tb_1002 tb_110 tb_1003) rfl (by decide +kernel) ⟨Nat.le_of_ble_eq_true rfl, Nat.le_of_ble_eq_true rfl⟩ rfl rfl (Nat.le_of_ble_eq_true rfl) ⟨Nat.zero_le _, Nat.zero_le _⟩ dX5_readWord_20 (fun H locs hw => ?_)
      refine lv_if_eq (tgt := 39) hx hb dX5_readWord_23 (by decide) (fun c5 => ?_) (fun c5 => ?_)
      · replace hM := i_pos hM c5
        cases hM
        exact q_retv E hw dX5_readWord_39
      · replace hM := i_neg hM c5
        refine lv_aload_n hx hb dX5_readWord_26 rfl (lv_at hl 0 rfl) ?_
        refine lv_dup hx hb dX5_readWord_27 rfl ?_
        refine q_get (C := RX5) (T := TX5) (N := 13) (ci := 5) E (fun w h => List.mem_cons_of_mem _ (inX5 w h)) hw 0 rfl rfl 11 (by decide) (List.mem_cons_of_mem _ tb_412) (v := .int (κ 10 0)) rfl dX5_readWord_28 ?_
        refine lv_iconst (v := 1) hx hb dX5_readWord_31 (by decide) ?_
        refine lv_iadd hx hb dX5_readWord_32 ?_
        refine q_puti (C := RX5) (T := TX5) (N := 13) (ci := 5) E (fun w h => List.mem_cons_of_mem _ (inX5 w h)) tyX5 tyX5_ok nmX5 hw 0 rfl rfl 11 (by decide) (List.mem_cons_of_mem _ tb_412) rfl rfl (Nat.le_of_ble_eq_true rfl) (wSc cA z (up κ 10 0 ((κ 10 0) + 1)) ++ (wR cA z (up κ 10 0 ((κ 10 0) + 1)) ++ F)) st_Sc_R_10 dX5_readWord_33 (fun H locs hw => ?_)
        refine lv_goto (tgt := 0) hx hb dX5_readWord_36 (by decide) ?_
        exact ih _ _ hM _ _ hw _ (lv_sub hl [0] rfl)
set_option maxRecDepth 100000 in
set_option maxHeartbeats 4000000 in
theorem c_X5_readWord (l : Launch) (D : va_G) (cA : Nat → ClassId) (tS : Nat → Nat) (A : Nat → Prop) (z : Nat → Nat) (F : va_W) (N : Nat) (κ : Sg) (s0 : Sg) (hM : f_X5_readWord N κ = some s0) : Ct l yX5_readWord (Cond.code yX5_readWord cX5_readWord 1 none :: bw) 1 20 D cA tS A [.ref (z 60)] (wSc cA z κ ++ (wR cA z κ ++ F)) none (wSc cA z s0 ++ (wR cA z s0 ++ F)) := by
  refine ct_of (by decide +kernel) (Nat.le_of_ble_eq_true rfl) ?_
  intro p e s m below meth c E hw ls hl
  replace E : Ev p cX5_readWord 1 none RX5 (Cond.code yX5_readWord cX5_readWord 1 none :: bw) D cA tS A s m _ meth c := E
  replace hl : lv_has ls 1 [(0, .ref (z 60))] := hl
  have hx := E.1.1
  have hb := E.1.2.1
  unfold f_X5_readWord at hM
  exact s_X5_readWord_0 l D cA tS A z F N E N _ _ hM _ _ hw _ (lv_sub hl [0] rfl)
set_option maxRecDepth 100000 in
set_option maxHeartbeats 4000000 in
theorem s_X5_readToken_39 (l : Launch) (D : va_G) (cA : Nat → ClassId) (tS : Nat → Nat) (A : Nat → Prop) (z : Nat → Nat) (F : va_W) (N : Nat) {p : Program} {e : Env} {s : State} {m : MethodId} {args : Array Value} {below : List Frame} {meth : Method} {c : Code} (E : Ev p cX5_readToken 1 none RX5 (Cond.code yX5_readToken cX5_readToken 1 none :: bw) D cA tS A s m args meth c) : ∀ (κ : Sg) (s0 : Sg) (hM : f_X5_readToken_39 N κ = some s0) (H : Heap) (locs : List Loc) (hw : Wd D A (wSc cA z κ ++ (wR cA z κ ++ F)) s.heap H locs) (ls : Array Slot) (hl : lv_has ls 1 [(0, .ref (z 60))]), W p l e ({ frames := 2, cells := 0, slots := 0, locals := 41 } : Room) s m args below meth c H locs 0 0 (MQ below (QW D A none (wSc cA z s0 ++ (wR cA z s0 ++ F))) args s 0 0 A) (F0 m 39 ls []) := by
  have hx := E.1.1
  have hb := E.1.2.1
  intro κ s0 hM H locs hw ls hl
  unfold f_X5_readToken_39 at hM
  refine lv_aload_n hx hb dX5_readToken_39 rfl (lv_at hl 0 rfl) ?_
  refine lv_aload_n hx hb dX5_readToken_40 rfl (lv_at hl 0 rfl) ?_
  refine q_get (C := RX5) (T := TX5) (N := 13) (ci := 5) E (fun w h => List.mem_cons_of_mem _ (inX5 w h)) hw 0 rfl rfl 11 (by decide) (List.mem_cons_of_mem _ tb_412) (v := .int (κ 10 0)) rfl dX5_readToken_41 ?_
  refine q_puti (C := RX5) (T := TX5) (N := 13) (ci := 5) E (fun w h => List.mem_cons_of_mem _ (inX5 w h)) tyX5 tyX5_ok nmX5 hw 0 rfl rfl 10 (by decide) (List.mem_cons_of_mem _ tb_411) rfl rfl (Nat.le_of_ble_eq_true rfl) (wSc cA z (up κ 9 0 (κ 10 0)) ++ (wR cA z (up κ 9 0 (κ 10 0)) ++ F)) st_Sc_R_9 dX5_readToken_44 (fun H locs hw => ?_)
  refine lv_aload_n hx hb dX5_readToken_47 rfl (lv_at hl 0 rfl) ?_
  refine q_get (C := RX5) (T := TX5) (N := 13) (ci := 5) E (fun w h => List.mem_cons_of_mem _ (inX5 w h)) hw 0 rfl rfl 11 (by decide) (List.mem_cons_of_mem _ tb_412) (v := .int (κ 10 0)) (q_fld (congrFun (up_ne κ 9 0 (κ 10 0) 10 (by decide)) 0) rfl) dX5_readToken_48 ?_
  refine lv_aload_n hx hb dX5_readToken_51 rfl (lv_at hl 0 rfl) ?_
  refine q_get (C := RX5) (T := TX5) (N := 13) (ci := 5) E (fun w h => List.mem_cons_of_mem _ (inX5 w h)) hw 0 rfl rfl 1 (by decide) (List.mem_cons_of_mem _ tb_395) (v := .int (κ 1 0)) (q_fld (congrFun (up_ne κ 9 0 (κ 10 0) 1 (by decide)) 0) rfl) dX5_readToken_52 ?_
  refine lv_icmp_lt (tgt := 66) hx hb dX5_readToken_55 (by decide) (fun c1 => ?_) (fun c1 => ?_)
  · replace hM := i_pos hM c1
    refine lv_aload_n hx hb dX5_readToken_66 rfl (lv_at hl 0 rfl) ?_
    refine q_get (C := RX5) (T := TX5) (N := 13) (ci := 5) E (fun w h => List.mem_cons_of_mem _ (inX5 w h)) hw 0 rfl rfl 0 (by decide) (List.mem_cons_of_mem _ tb_394) (v := .ref (z 61)) rfl dX5_readToken_67 ?_
    refine lv_aload_n hx hb dX5_readToken_70 rfl (lv_at hl 0 rfl) ?_
    refine q_get (C := RX5) (T := TX5) (N := 13) (ci := 5) E (fun w h => List.mem_cons_of_mem _ (inX5 w h)) hw 0 rfl rfl 11 (by decide) (List.mem_cons_of_mem _ tb_412) (v := .int (κ 10 0)) (q_fld (congrFun (up_ne κ 9 0 (κ 10 0) 10 (by decide)) 0) rfl) dX5_readToken_71 ?_
    obtain ⟨g2, hM⟩ := g_some hM
    refine q_bld E hw 1 (n := 400) rfl g2 (x := (κ 61 (ix (κ 10 0)))) (congrFun (up_ne κ 9 0 (κ 10 0) 61 (by decide)) (ix (κ 10 0))) dX5_readToken_74 ?_
    obtain ⟨p3, h4, hM⟩ := b_some hM
    refine q_cs (As := [.int (κ 61 (ix (κ 10 0)))]) (rest := []) E hw hl (c_X5_isLetter l D cA tS A (wSc cA z (up κ 9 0 (κ 10 0)) ++ (wR cA z (up κ 9 0 (κ 10 0)) ++ F)) (κ 61 (ix (κ 10 0))) p3 h4) 1 (bwS bw_c tb_1001 tb_1002 tb_110 tb_1003) rfl (by decide +kernel) ⟨Nat.le_of_ble_eq_true rfl, Nat.le_of_ble_eq_true rfl⟩ rfl rfl (Nat.le_of_ble_eq_true rfl) ⟨Nat.zero_le _, Nat.zero_le _⟩ dX5_readToken_75 (fun H locs hw => ?_)
    refine lv_if_eq (tgt := 93) hx hb dX5_readToken_78 (by decide) (fun c5 => ?_) (fun c5 => ?_)
    · replace hM := i_pos hM c5
      refine lv_aload_n hx hb dX5_readToken_93 rfl (lv_at hl 0 rfl) ?_
      refine q_get (C := RX5) (T := TX5) (N := 13) (ci := 5) E (fun w h => List.mem_cons_of_mem _ (inX5 w h)) hw 0 rfl rfl 0 (by decide) (List.mem_cons_of_mem _ tb_394) (v := .ref (z 61)) rfl dX5_readToken_94 ?_
      refine lv_aload_n hx hb dX5_readToken_97 rfl (lv_at hl 0 rfl) ?_
      refine q_get (C := RX5) (T := TX5) (N := 13) (ci := 5) E (fun w h => List.mem_cons_of_mem _ (inX5 w h)) hw 0 rfl rfl 11 (by decide) (List.mem_cons_of_mem _ tb_412) (v := .int (κ 10 0)) (q_fld (congrFun (up_ne κ 9 0 (κ 10 0) 10 (by decide)) 0) rfl) dX5_readToken_98 ?_
      refine q_bld E hw 1 (n := 400) rfl g2 (x := (κ 61 (ix (κ 10 0)))) (congrFun (up_ne κ 9 0 (κ 10 0) 61 (by decide)) (ix (κ 10 0))) dX5_readToken_101 ?_
      obtain ⟨p6, h7, hM⟩ := b_some hM
      refine q_cs (As := [.int (κ 61 (ix (κ 10 0)))]) (rest := []) E hw hl (c_X5_isDigit l D cA tS A (wSc cA z (up κ 9 0 (κ 10 0)) ++ (wR cA z (up κ 9 0 (κ 10 0)) ++ F)) (κ 61 (ix (κ 10 0))) p6 h7) 1 (bwS bw_c tb_1008 tb_1009 tb_110 tb_1010) rfl (by decide +kernel) ⟨Nat.le_of_ble_eq_true rfl, Nat.le_of_ble_eq_true rfl⟩ rfl rfl (Nat.le_of_ble_eq_true rfl) ⟨Nat.zero_le _, Nat.zero_le _⟩ dX5_readToken_102 (fun H locs hw => ?_)
      refine lv_if_eq (tgt := 120) hx hb dX5_readToken_105 (by decide) (fun c8 => ?_) (fun c8 => ?_)
      · replace hM := i_pos hM c8
        refine lv_aload_n hx hb dX5_readToken_120 rfl (lv_at hl 0 rfl) ?_
        refine lv_aload_n hx hb dX5_readToken_121 rfl (lv_at hl 0 rfl) ?_
        refine q_get (C := RX5) (T := TX5) (N := 13) (ci := 5) E (fun w h => List.mem_cons_of_mem _ (inX5 w h)) hw 0 rfl rfl 0 (by decide) (List.mem_cons_of_mem _ tb_394) (v := .ref (z 61)) rfl dX5_readToken_122 ?_
        refine lv_aload_n hx hb dX5_readToken_125 rfl (lv_at hl 0 rfl) ?_
        refine q_get (C := RX5) (T := TX5) (N := 13) (ci := 5) E (fun w h => List.mem_cons_of_mem _ (inX5 w h)) hw 0 rfl rfl 11 (by decide) (List.mem_cons_of_mem _ tb_412) (v := .int (κ 10 0)) (q_fld (congrFun (up_ne κ 9 0 (κ 10 0) 10 (by decide)) 0) rfl) dX5_readToken_126 ?_
        refine q_bld E hw 1 (n := 400) rfl g2 (x := (κ 61 (ix (κ 10 0)))) (congrFun (up_ne κ 9 0 (κ 10 0) 61 (by decide)) (ix (κ 10 0))) dX5_readToken_129 ?_
        refine lv_bipush (v := 59) hx hb dX5_readToken_130 (by decide) ?_
        refine lv_icmp_ne (tgt := 139) hx hb dX5_readToken_132 (by decide) (fun c9 => ?_) (fun c9 => ?_)
        · replace hM := i_neg hM c9
          refine lv_iconst (v := 4) hx hb dX5_readToken_139 (by decide) ?_
          refine q_puti (C := RX5) (T := TX5) (N := 13) (ci := 5) E (fun w h => List.mem_cons_of_mem _ (inX5 w h)) tyX5 tyX5_ok nmX5 hw 0 rfl rfl 9 (by decide) (List.mem_cons_of_mem _ tb_410) rfl rfl (Nat.le_of_ble_eq_true rfl) (wSc cA z (up (up κ 9 0 (κ 10 0)) 8 0 4) ++ (wR cA z (up (up κ 9 0 (κ 10 0)) 8 0 4) ++ F)) st_Sc_R_8 dX5_readToken_140 (fun H locs hw => ?_)
          refine lv_aload_n hx hb dX5_readToken_143 rfl (lv_at hl 0 rfl) ?_
          refine lv_dup hx hb dX5_readToken_144 rfl ?_
          refine q_get (C := RX5) (T := TX5) (N := 13) (ci := 5) E (fun w h => List.mem_cons_of_mem _ (inX5 w h)) hw 0 rfl rfl 11 (by decide) (List.mem_cons_of_mem _ tb_412) (v := .int (κ 10 0)) (q_fld (congrFun ((up_ne (up κ 9 0 (κ 10 0)) 8 0 4 10 (by decide)).trans (up_ne κ 9 0 (κ 10 0) 10 (by decide))) 0) rfl) dX5_readToken_145 ?_
          refine lv_iconst (v := 1) hx hb dX5_readToken_148 (by decide) ?_
          refine lv_iadd hx hb dX5_readToken_149 ?_
          refine q_puti (C := RX5) (T := TX5) (N := 13) (ci := 5) E (fun w h => List.mem_cons_of_mem _ (inX5 w h)) tyX5 tyX5_ok nmX5 hw 0 rfl rfl 11 (by decide) (List.mem_cons_of_mem _ tb_412) rfl rfl (Nat.le_of_ble_eq_true rfl) (wSc cA z (up (up (up κ 9 0 (κ 10 0)) 8 0 4) 10 0 ((κ 10 0) + 1)) ++ (wR cA z (up (up (up κ 9 0 (κ 10 0)) 8 0 4) 10 0 ((κ 10 0) + 1)) ++ F)) st_Sc_R_10 dX5_readToken_150 (fun H locs hw => ?_)
          cases hM
          exact q_retv E hw dX5_readToken_153
        · replace hM := i_pos hM c9
          refine lv_iconst (v := 3) hx hb dX5_readToken_135 (by decide) ?_
          refine lv_goto (tgt := 140) hx hb dX5_readToken_136 (by decide) ?_
          refine q_puti (C := RX5) (T := TX5) (N := 13) (ci := 5) E (fun w h => List.mem_cons_of_mem _ (inX5 w h)) tyX5 tyX5_ok nmX5 hw 0 rfl rfl 9 (by decide) (List.mem_cons_of_mem _ tb_410) rfl rfl (Nat.le_of_ble_eq_true rfl) (wSc cA z (up (up κ 9 0 (κ 10 0)) 8 0 3) ++ (wR cA z (up (up κ 9 0 (κ 10 0)) 8 0 3) ++ F)) st_Sc_R_8 dX5_readToken_140 (fun H locs hw => ?_)
          refine lv_aload_n hx hb dX5_readToken_143 rfl (lv_at hl 0 rfl) ?_
          refine lv_dup hx hb dX5_readToken_144 rfl ?_
          refine q_get (C := RX5) (T := TX5) (N := 13) (ci := 5) E (fun w h => List.mem_cons_of_mem _ (inX5 w h)) hw 0 rfl rfl 11 (by decide) (List.mem_cons_of_mem _ tb_412) (v := .int (κ 10 0)) (q_fld (congrFun ((up_ne (up κ 9 0 (κ 10 0)) 8 0 3 10 (by decide)).trans (up_ne κ 9 0 (κ 10 0) 10 (by decide))) 0) rfl) dX5_readToken_145 ?_
          refine lv_iconst (v := 1) hx hb dX5_readToken_148 (by decide) ?_
          refine lv_iadd hx hb dX5_readToken_149 ?_
          refine q_puti (C := RX5) (T := TX5) (N := 13) (ci := 5) E (fun w h => List.mem_cons_of_mem _ (inX5 w h)) tyX5 tyX5_ok nmX5 hw 0 rfl rfl 11 (by decide) (List.mem_cons_of_mem _ tb_412) rfl rfl (Nat.le_of_ble_eq_true rfl) (wSc cA z (up (up (up κ 9 0 (κ 10 0)) 8 0 3) 10 0 ((κ 10 0) + 1)) ++ (wR cA z (up (up (up κ 9 0 (κ 10 0)) 8 0 3) 10 0 ((κ 10 0) + 1)) ++ F)) st_Sc_R_10 dX5_readToken_150 (fun H locs hw => ?_)
          cases hM
          exact q_retv E hw dX5_readToken_153
      · replace hM := i_neg hM c8
        refine lv_aload_n hx hb dX5_readToken_108 rfl (lv_at hl 0 rfl) ?_
        refine lv_iconst (v := 2) hx hb dX5_readToken_109 (by decide) ?_
        refine q_puti (C := RX5) (T := TX5) (N := 13) (ci := 5) E (fun w h => List.mem_cons_of_mem _ (inX5 w h)) tyX5 tyX5_ok nmX5 hw 0 rfl rfl 9 (by decide) (List.mem_cons_of_mem _ tb_410) rfl rfl (Nat.le_of_ble_eq_true rfl) (wSc cA z (up (up κ 9 0 (κ 10 0)) 8 0 2) ++ (wR cA z (up (up κ 9 0 (κ 10 0)) 8 0 2) ++ F)) st_Sc_R_8 dX5_readToken_110 (fun H locs hw => ?_)
        refine lv_aload_n hx hb dX5_readToken_113 rfl (lv_at hl 0 rfl) ?_
        obtain ⟨p10, h11, hM⟩ := b_some hM
        refine q_cvv (As := []) (rest := []) E hw hl (c_X5_readNumber l D cA tS A z F N (up (up κ 9 0 (κ 10 0)) 8 0 2) p10 h11) 0 (bwV bw_c tb_1011 tb_1013 tb_38 tb_110 tb_1014) rfl (by decide +kernel) ⟨Nat.le_of_ble_eq_true rfl, Nat.le_of_ble_eq_true rfl⟩ 0 5 (T := TX5) (N := 13) rfl rfl rfl rfl (Nat.le_of_ble_eq_true rfl) ⟨Nat.zero_le _, Nat.zero_le _⟩ dX5_readToken_114 (fun H locs hw => ?_)
        refine lv_goto (tgt := 153) hx hb dX5_readToken_117 (by decide) ?_
        cases hM
        exact q_retv E hw dX5_readToken_153
    · replace hM := i_neg hM c5
      refine lv_aload_n hx hb dX5_readToken_81 rfl (lv_at hl 0 rfl) ?_
      refine lv_iconst (v := 1) hx hb dX5_readToken_82 (by decide) ?_
      refine q_puti (C := RX5) (T := TX5) (N := 13) (ci := 5) E (fun w h => List.mem_cons_of_mem _ (inX5 w h)) tyX5 tyX5_ok nmX5 hw 0 rfl rfl 9 (by decide) (List.mem_cons_of_mem _ tb_410) rfl rfl (Nat.le_of_ble_eq_true rfl) (wSc cA z (up (up κ 9 0 (κ 10 0)) 8 0 1) ++ (wR cA z (up (up κ 9 0 (κ 10 0)) 8 0 1) ++ F)) st_Sc_R_8 dX5_readToken_83 (fun H locs hw => ?_)
      refine lv_aload_n hx hb dX5_readToken_86 rfl (lv_at hl 0 rfl) ?_
      obtain ⟨p12, h13, hM⟩ := b_some hM
      refine q_cvv (As := []) (rest := []) E hw hl (c_X5_readWord l D cA tS A z F N (up (up κ 9 0 (κ 10 0)) 8 0 1) p12 h13) 0 (bwV bw_c tb_1004 tb_1006 tb_37 tb_110 tb_1007) rfl (by decide +kernel) ⟨Nat.le_of_ble_eq_true rfl, Nat.le_of_ble_eq_true rfl⟩ 0 5 (T := TX5) (N := 13) rfl rfl rfl rfl (Nat.le_of_ble_eq_true rfl) ⟨Nat.zero_le _, Nat.zero_le _⟩ dX5_readToken_87 (fun H locs hw => ?_)
      refine lv_goto (tgt := 153) hx hb dX5_readToken_90 (by decide) ?_
      cases hM
      exact q_retv E hw dX5_readToken_153
  · replace hM := i_neg hM c1
    refine lv_aload_n hx hb dX5_readToken_58 rfl (lv_at hl 0 rfl) ?_
    refine lv_iconst (v := 0) hx hb dX5_readToken_59 (by decide) ?_
    refine q_puti (C := RX5) (T := TX5) (N := 13) (ci := 5) E (fun w h => List.mem_cons_of_mem _ (inX5 w h)) tyX5 tyX5_ok nmX5 hw 0 rfl rfl 9 (by decide) (List.mem_cons_of_mem _ tb_410) rfl rfl (Nat.le_of_ble_eq_true rfl) (wSc cA z (up (up κ 9 0 (κ 10 0)) 8 0 0) ++ (wR cA z (up (up κ 9 0 (κ 10 0)) 8 0 0) ++ F)) st_Sc_R_8 dX5_readToken_60 (fun H locs hw => ?_)
    refine lv_goto (tgt := 153) hx hb dX5_readToken_63 (by decide) ?_
    cases hM
    exact q_retv E hw dX5_readToken_153
set_option maxRecDepth 100000 in
set_option maxHeartbeats 4000000 in
theorem s_X5_readToken_0 (l : Launch) (D : va_G) (cA : Nat → ClassId) (tS : Nat → Nat) (A : Nat → Prop) (z : Nat → Nat) (F : va_W) (N : Nat) {p : Program} {e : Env} {s : State} {m : MethodId} {args : Array Value} {below : List Frame} {meth : Method} {c : Code} (E : Ev p cX5_readToken 1 none RX5 (Cond.code yX5_readToken cX5_readToken 1 none :: bw) D cA tS A s m args meth c) : ∀ (n : Nat) (κ : Sg) (s0 : Sg) (hM : f_X5_readToken_0 N n κ = some s0) (H : Heap) (locs : List Loc) (hw : Wd D A (wSc cA z κ ++ (wR cA z κ ++ F)) s.heap H locs) (ls : Array Slot) (hl : lv_has ls 1 [(0, .ref (z 60))]), W p l e ({ frames := 2, cells := 0, slots := 0, locals := 41 } : Room) s m args below meth c H locs 0 0 (MQ below (QW D A none (wSc cA z s0 ++ (wR cA z s0 ++ F))) args s 0 0 A) (F0 m 0 ls []) := by
  have hx := E.1.1
  have hb := E.1.2.1
  intro n
  induction n with
  | zero =>
    intro κ s0 hM
    cases hM
  | succ n ih =>
    intro κ s0 hM H locs hw ls hl
    rw [f_X5_readToken_0] at hM
    refine lv_aload_n hx hb dX5_readToken_0 rfl (lv_at hl 0 rfl) ?_
    refine q_get (C := RX5) (T := TX5) (N := 13) (ci := 5) E (fun w h => List.mem_cons_of_mem _ (inX5 w h)) hw 0 rfl rfl 11 (by decide) (List.mem_cons_of_mem _ tb_412) (v := .int (κ 10 0)) rfl dX5_readToken_1 ?_
    refine lv_aload_n hx hb dX5_readToken_4 rfl (lv_at hl 0 rfl) ?_
    refine q_get (C := RX5) (T := TX5) (N := 13) (ci := 5) E (fun w h => List.mem_cons_of_mem _ (inX5 w h)) hw 0 rfl rfl 1 (by decide) (List.mem_cons_of_mem _ tb_395) (v := .int (κ 1 0)) rfl dX5_readToken_5 ?_
    refine lv_icmp_ge (tgt := 39) hx hb dX5_readToken_8 (by decide) (fun c1 => ?_) (fun c1 => ?_)
    · replace hM := i_pos hM c1
      exact s_X5_readToken_39 l D cA tS A z F N E _ _ hM _ _ hw _ (lv_sub hl [0] rfl)
    · replace hM := i_neg hM c1
      refine lv_aload_n hx hb dX5_readToken_11 rfl (lv_at hl 0 rfl) ?_
      refine q_get (C := RX5) (T := TX5) (N := 13) (ci := 5) E (fun w h => List.mem_cons_of_mem _ (inX5 w h)) hw 0 rfl rfl 0 (by decide) (List.mem_cons_of_mem _ tb_394) (v := .ref (z 61)) rfl dX5_readToken_12 ?_
      refine lv_aload_n hx hb dX5_readToken_15 rfl (lv_at hl 0 rfl) ?_
      refine q_get (C := RX5) (T := TX5) (N := 13) (ci := 5) E (fun w h => List.mem_cons_of_mem _ (inX5 w h)) hw 0 rfl rfl 11 (by decide) (List.mem_cons_of_mem _ tb_412) (v := .int (κ 10 0)) rfl dX5_readToken_16 ?_
      obtain ⟨g2, hM⟩ := g_some hM
      refine q_bld E hw 1 (n := 400) rfl g2 (x := (κ 61 (ix (κ 10 0)))) rfl dX5_readToken_19 ?_
      obtain ⟨p3, h4, hM⟩ := b_some hM
      refine q_cs (As := [.int (κ 61 (ix (κ 10 0)))]) (rest := []) E hw hl (c_X5_isSpace l D cA tS A (wSc cA z κ ++ (wR cA z κ ++ F)) (κ 61 (ix (κ 10 0))) p3 h4) 1 (bwS bw_c tb_998 tb_999 tb_110 tb_1000) rfl (by decide +kernel) ⟨Nat.le_of_ble_eq_true rfl, Nat.le_of_ble_eq_true rfl⟩ rfl rfl (Nat.le_of_ble_eq_true rfl) ⟨Nat.zero_le _, Nat.zero_le _⟩ dX5_readToken_20 (fun H locs hw => ?_)
      refine lv_if_eq (tgt := 39) hx hb dX5_readToken_23 (by decide) (fun c5 => ?_) (fun c5 => ?_)
      · replace hM := i_pos hM c5
        exact s_X5_readToken_39 l D cA tS A z F N E _ _ hM _ _ hw _ (lv_sub hl [0] rfl)
      · replace hM := i_neg hM c5
        refine lv_aload_n hx hb dX5_readToken_26 rfl (lv_at hl 0 rfl) ?_
        refine lv_dup hx hb dX5_readToken_27 rfl ?_
        refine q_get (C := RX5) (T := TX5) (N := 13) (ci := 5) E (fun w h => List.mem_cons_of_mem _ (inX5 w h)) hw 0 rfl rfl 11 (by decide) (List.mem_cons_of_mem _ tb_412) (v := .int (κ 10 0)) rfl dX5_readToken_28 ?_
        refine lv_iconst (v := 1) hx hb dX5_readToken_31 (by decide) ?_
        refine lv_iadd hx hb dX5_readToken_32 ?_
        refine q_puti (C := RX5) (T := TX5) (N := 13) (ci := 5) E (fun w h => List.mem_cons_of_mem _ (inX5 w h)) tyX5 tyX5_ok nmX5 hw 0 rfl rfl 11 (by decide) (List.mem_cons_of_mem _ tb_412) rfl rfl (Nat.le_of_ble_eq_true rfl) (wSc cA z (up κ 10 0 ((κ 10 0) + 1)) ++ (wR cA z (up κ 10 0 ((κ 10 0) + 1)) ++ F)) st_Sc_R_10 dX5_readToken_33 (fun H locs hw => ?_)
        refine lv_goto (tgt := 0) hx hb dX5_readToken_36 (by decide) ?_
        exact ih _ _ hM _ _ hw _ (lv_sub hl [0] rfl)
set_option maxRecDepth 100000 in
set_option maxHeartbeats 4000000 in
theorem c_X5_readToken (l : Launch) (D : va_G) (cA : Nat → ClassId) (tS : Nat → Nat) (A : Nat → Prop) (z : Nat → Nat) (F : va_W) (N : Nat) (κ : Sg) (s0 : Sg) (hM : f_X5_readToken N κ = some s0) : Ct l yX5_readToken (Cond.code yX5_readToken cX5_readToken 1 none :: bw) 2 41 D cA tS A [.ref (z 60)] (wSc cA z κ ++ (wR cA z κ ++ F)) none (wSc cA z s0 ++ (wR cA z s0 ++ F)) := by
  refine ct_of (by decide +kernel) (Nat.le_of_ble_eq_true rfl) ?_
  intro p e s m below meth c E hw ls hl
  replace E : Ev p cX5_readToken 1 none RX5 (Cond.code yX5_readToken cX5_readToken 1 none :: bw) D cA tS A s m _ meth c := E
  replace hl : lv_has ls 1 [(0, .ref (z 60))] := hl
  have hx := E.1.1
  have hb := E.1.2.1
  unfold f_X5_readToken at hM
  exact s_X5_readToken_0 l D cA tS A z F N E N _ _ hM _ _ hw _ (lv_sub hl [0] rfl)
set_option maxRecDepth 100000 in
set_option maxHeartbeats 4000000 in
theorem c_X5_wordOf (l : Launch) (D : va_G) (cA : Nat → ClassId) (tS : Nat → Nat) (A : Nat → Prop) (F : va_W) (x0 : Int32) (r0 : Nat) (hM : f_X5_wordOf x0 = some r0) : Ct l yX5_wordOf (Cond.code yX5_wordOf cX5_wordOf 1 (Option.some (.object "java/lang/String")) :: bw) 0 0 D cA tS A [.int x0] F (some (.ref (adK tS r0))) F := by
  refine ct_of (by decide +kernel) (Nat.le_of_ble_eq_true rfl) ?_
  intro p e s m below meth c E hw ls hl
  replace E : Ev p cX5_wordOf 1 (Option.some (.object "java/lang/String")) RX5 (Cond.code yX5_wordOf cX5_wordOf 1 (Option.some (.object "java/lang/String")) :: bw) D cA tS A s m _ meth c := E
  replace hl : lv_has ls 1 [(0, .int x0)] := hl
  have hx := E.1.1
  have hb := E.1.2.1
  unfold f_X5_wordOf at hM
  refine lv_iload_n hx hb dX5_wordOf_0 rfl (lv_at hl 0 rfl) ?_
  by_cases c1 : x0 = 0
  · replace hM := i_pos hM c1
    refine lv_tableIn (tgt := 68) hx hb dX5_wordOf_1 (by rw [c1]; decide) (by rw [c1]; decide) (off := 67) (by rw [c1]; decide) (by decide) ?_
    refine va_ldcS hx hb E.1.2.2.2.1 (E.2.2.2.2.2.2.2.2.1 (RX5, 95, "day", 1) (by decide +kernel)) dX5_wordOf_68 ?_
    cases hM
    exact q_reta E hw dX5_wordOf_70
  replace hM := i_neg hM c1
  by_cases c2 : x0 = 1
  · replace hM := i_pos hM c2
    refine lv_tableIn (tgt := 71) hx hb dX5_wordOf_1 (by rw [c2]; decide) (by rw [c2]; decide) (off := 70) (by rw [c2]; decide) (by decide) ?_
    refine va_ldcS hx hb E.1.2.2.2.1 (E.2.2.2.2.2.2.2.2.1 (RX5, 97, "kind", 2) (by decide +kernel)) dX5_wordOf_71 ?_
    cases hM
    exact q_reta E hw dX5_wordOf_73
  replace hM := i_neg hM c2
  by_cases c3 : x0 = 2
  · replace hM := i_pos hM c3
    refine lv_tableIn (tgt := 74) hx hb dX5_wordOf_1 (by rw [c3]; decide) (by rw [c3]; decide) (off := 73) (by rw [c3]; decide) (by decide) ?_
    refine va_ldcS hx hb E.1.2.2.2.1 (E.2.2.2.2.2.2.2.2.1 (RX5, 99, "agents", 3) (by decide +kernel)) dX5_wordOf_74 ?_
    cases hM
    exact q_reta E hw dX5_wordOf_76
  replace hM := i_neg hM c3
  by_cases c4 : x0 = 3
  · replace hM := i_pos hM c4
    refine lv_tableIn (tgt := 77) hx hb dX5_wordOf_1 (by rw [c4]; decide) (by rw [c4]; decide) (off := 76) (by rw [c4]; decide) (by decide) ?_
    refine va_ldcS hx hb E.1.2.2.2.1 (E.2.2.2.2.2.2.2.2.1 (RX5, 101, "report", 4) (by decide +kernel)) dX5_wordOf_77 ?_
    cases hM
    exact q_reta E hw dX5_wordOf_79
  replace hM := i_neg hM c4
  by_cases c5 : x0 = 4
  · replace hM := i_pos hM c5
    refine lv_tableIn (tgt := 80) hx hb dX5_wordOf_1 (by rw [c5]; decide) (by rw [c5]; decide) (off := 79) (by rw [c5]; decide) (by decide) ?_
    refine va_ldcS hx hb E.1.2.2.2.1 (E.2.2.2.2.2.2.2.2.1 (RX5, 103, "pause", 5) (by decide +kernel)) dX5_wordOf_80 ?_
    cases hM
    exact q_reta E hw dX5_wordOf_82
  replace hM := i_neg hM c5
  by_cases c6 : x0 = 5
  · replace hM := i_pos hM c6
    refine lv_tableIn (tgt := 83) hx hb dX5_wordOf_1 (by rw [c6]; decide) (by rw [c6]; decide) (off := 82) (by rw [c6]; decide) (by decide) ?_
    refine va_ldcS hx hb E.1.2.2.2.1 (E.2.2.2.2.2.2.2.2.1 (RX5, 105, "resume", 6) (by decide +kernel)) dX5_wordOf_83 ?_
    cases hM
    exact q_reta E hw dX5_wordOf_85
  replace hM := i_neg hM c6
  by_cases c7 : x0 = 6
  · replace hM := i_pos hM c7
    refine lv_tableIn (tgt := 86) hx hb dX5_wordOf_1 (by rw [c7]; decide) (by rw [c7]; decide) (off := 85) (by rw [c7]; decide) (by decide) ?_
    refine va_ldcS hx hb E.1.2.2.2.1 (E.2.2.2.2.2.2.2.2.1 (RX5, 107, "climb", 7) (by decide +kernel)) dX5_wordOf_86 ?_
    cases hM
    exact q_reta E hw dX5_wordOf_88
  replace hM := i_neg hM c7
  by_cases c8 : x0 = 7
  · replace hM := i_pos hM c8
    refine lv_tableIn (tgt := 89) hx hb dX5_wordOf_1 (by rw [c8]; decide) (by rw [c8]; decide) (off := 88) (by rw [c8]; decide) (by decide) ?_
    refine va_ldcS hx hb E.1.2.2.2.1 (E.2.2.2.2.2.2.2.2.1 (RX5, 109, "solve", 8) (by decide +kernel)) dX5_wordOf_89 ?_
    cases hM
    exact q_reta E hw dX5_wordOf_91
  replace hM := i_neg hM c8
  by_cases c9 : x0 = 8
  · replace hM := i_pos hM c9
    refine lv_tableIn (tgt := 92) hx hb dX5_wordOf_1 (by rw [c9]; decide) (by rw [c9]; decide) (off := 91) (by rw [c9]; decide) (by decide) ?_
    refine va_ldcS hx hb E.1.2.2.2.1 (E.2.2.2.2.2.2.2.2.1 (RX5, 111, "reopen", 9) (by decide +kernel)) dX5_wordOf_92 ?_
    cases hM
    exact q_reta E hw dX5_wordOf_94
  replace hM := i_neg hM c9
  by_cases c10 : x0 = 9
  · replace hM := i_pos hM c10
    refine lv_tableIn (tgt := 95) hx hb dX5_wordOf_1 (by rw [c10]; decide) (by rw [c10]; decide) (off := 94) (by rw [c10]; decide) (by decide) ?_
    refine va_ldcS hx hb E.1.2.2.2.1 (E.2.2.2.2.2.2.2.2.1 (RX5, 113, "join", 10) (by decide +kernel)) dX5_wordOf_95 ?_
    cases hM
    exact q_reta E hw dX5_wordOf_97
  replace hM := i_neg hM c10
  by_cases c11 : x0 = 10
  · replace hM := i_pos hM c11
    refine lv_tableIn (tgt := 98) hx hb dX5_wordOf_1 (by rw [c11]; decide) (by rw [c11]; decide) (off := 97) (by rw [c11]; decide) (by decide) ?_
    refine va_ldcS hx hb E.1.2.2.2.1 (E.2.2.2.2.2.2.2.2.1 (RX5, 115, "part", 11) (by decide +kernel)) dX5_wordOf_98 ?_
    cases hM
    exact q_reta E hw dX5_wordOf_100
  replace hM := i_neg hM c11
  by_cases c12 : x0 = 11
  · replace hM := i_pos hM c12
    refine lv_tableIn (tgt := 101) hx hb dX5_wordOf_1 (by rw [c12]; decide) (by rw [c12]; decide) (off := 100) (by rw [c12]; decide) (by decide) ?_
    refine va_ldcS hx hb E.1.2.2.2.1 (E.2.2.2.2.2.2.2.2.1 (RX5, 117, "priority", 12) (by decide +kernel)) dX5_wordOf_101 ?_
    cases hM
    exact q_reta E hw dX5_wordOf_103
  replace hM := i_neg hM c12
  by_cases c13 : x0 = 12
  · replace hM := i_pos hM c13
    refine lv_tableIn (tgt := 104) hx hb dX5_wordOf_1 (by rw [c13]; decide) (by rw [c13]; decide) (off := 103) (by rw [c13]; decide) (by decide) ?_
    refine va_ldcS hx hb E.1.2.2.2.1 (E.2.2.2.2.2.2.2.2.1 (RX5, 119, "pass", 13) (by decide +kernel)) dX5_wordOf_104 ?_
    cases hM
    exact q_reta E hw dX5_wordOf_106
  replace hM := i_neg hM c13
  refine q_tableD (tgt := 107) hx hb dX5_wordOf_1 (fun hq => ?_) (by decide) ?_
  · have hz : (x0).toInt = 0 ∨ (x0).toInt = 1 ∨ (x0).toInt = 2 ∨ (x0).toInt = 3 ∨ (x0).toInt = 4 ∨ (x0).toInt = 5 ∨ (x0).toInt = 6 ∨ (x0).toInt = 7 ∨ (x0).toInt = 8 ∨ (x0).toInt = 9 ∨ (x0).toInt = 10 ∨ (x0).toInt = 11 ∨ (x0).toInt = 12 := by omega
    rcases hz with hz | hz | hz | hz | hz | hz | hz | hz | hz | hz | hz | hz | hz
    · exact absurd (Int32.toInt_inj.mp (hz.trans (by decide))) c1
    · exact absurd (Int32.toInt_inj.mp (hz.trans (by decide))) c2
    · exact absurd (Int32.toInt_inj.mp (hz.trans (by decide))) c3
    · exact absurd (Int32.toInt_inj.mp (hz.trans (by decide))) c4
    · exact absurd (Int32.toInt_inj.mp (hz.trans (by decide))) c5
    · exact absurd (Int32.toInt_inj.mp (hz.trans (by decide))) c6
    · exact absurd (Int32.toInt_inj.mp (hz.trans (by decide))) c7
    · exact absurd (Int32.toInt_inj.mp (hz.trans (by decide))) c8
    · exact absurd (Int32.toInt_inj.mp (hz.trans (by decide))) c9
    · exact absurd (Int32.toInt_inj.mp (hz.trans (by decide))) c10
    · exact absurd (Int32.toInt_inj.mp (hz.trans (by decide))) c11
    · exact absurd (Int32.toInt_inj.mp (hz.trans (by decide))) c12
    · exact absurd (Int32.toInt_inj.mp (hz.trans (by decide))) c13
  refine va_ldcS hx hb E.1.2.2.2.1 (E.2.2.2.2.2.2.2.2.1 (RX5, 121, "", 14) (by decide +kernel)) dX5_wordOf_107 ?_
  cases hM
  exact q_reta E hw dX5_wordOf_109
set_option maxRecDepth 100000 in
set_option maxHeartbeats 4000000 in
theorem c_J0_coder_7d493 (l : Launch) (D : va_G) (cA : Nat → ClassId) (tS : Nat → Nat) (A : Nat → Prop) (F : va_W) (k0 : Nat) (r0 : Int32) (hM : f_J0_coder_7d493 k0 = some r0) : Ct l yJ0_coder_7d493 (Cond.code yJ0_coder_7d493 cJ0_coder_7d493 1 (some .byte) :: bw) 0 0 D cA tS A [.ref (adK tS k0)] F (some (.int r0)) F := by
  refine ct_of (by decide +kernel) (Nat.le_of_ble_eq_true rfl) ?_
  intro p e s m below meth c E hw ls hl
  replace E : Ev p cJ0_coder_7d493 1 (some .byte) RJ0 (Cond.code yJ0_coder_7d493 cJ0_coder_7d493 1 (some .byte) :: bw) D cA tS A s m _ meth c := E
  replace hl : lv_has ls 1 [(0, .ref (adK tS k0))] := hl
  have hx := E.1.1
  have hb := E.1.2.1
  unfold f_J0_coder_7d493 at hM
  refine va_gets hx hb (E.2.2.2.2.2.2.2.2.2.1) hw.2.2 E.1.2.2.2.1 (E.1.2.2.2.2 _ (List.mem_cons_of_mem _ tb_1050)) (fun _ h => h) dJ0_coder_7d493_0 ?_
  refine lv_if_eq (tgt := 13) hx hb dJ0_coder_7d493_3 (by decide) (fun c1 => ?_) (fun c1 => ?_)
  · first | exact absurd (by decide) c1 | exact absurd c1 (by decide)
  · refine lv_aload_n hx hb dJ0_coder_7d493_6 rfl (lv_at hl 0 rfl) ?_
    obtain ⟨g2, hM⟩ := g_some hM
    refine vk_getf hx hb ((E.2.2.2.2.2.2.2.1.1 k0 g2).2.1) hw.2.2 E.1.2.2.2.1 (E.1.2.2.2.2 _ (List.mem_cons_of_mem _ tb_1696)) (fun _ h => h) dJ0_coder_7d493_7 ?_
    refine lv_goto (tgt := 14) hx hb dJ0_coder_7d493_10 (by decide) ?_
    cases hM
    exact q_retb0 E hw dJ0_coder_7d493_14
set_option maxRecDepth 100000 in
set_option maxHeartbeats 4000000 in
theorem c_J0_length_8abf5 (l : Launch) (D : va_G) (cA : Nat → ClassId) (tS : Nat → Nat) (A : Nat → Prop) (F : va_W) (k0 : Nat) (r0 : Int32) (hM : f_J0_length_8abf5 k0 = some r0) : Ct l yJ0_length_8abf5 (Cond.code yJ0_length_8abf5 cJ0_length_8abf5 1 (some .int) :: bw) 1 20 D cA tS A [.ref (adK tS k0)] F (some (.int r0)) F := by
  refine ct_of (by decide +kernel) (Nat.le_of_ble_eq_true rfl) ?_
  intro p e s m below meth c E hw ls hl
  replace E : Ev p cJ0_length_8abf5 1 (some .int) RJ0 (Cond.code yJ0_length_8abf5 cJ0_length_8abf5 1 (some .int) :: bw) D cA tS A s m _ meth c := E
  replace hl : lv_has ls 1 [(0, .ref (adK tS k0))] := hl
  have hx := E.1.1
  have hb := E.1.2.1
  unfold f_J0_length_8abf5 at hM
  refine lv_aload_n hx hb dJ0_length_8abf5_0 rfl (lv_at hl 0 rfl) ?_
  obtain ⟨g1, hM⟩ := g_some hM
  refine vk_getf hx hb ((E.2.2.2.2.2.2.2.1.1 k0 g1).2.2.1) hw.2.2 E.1.2.2.2.1 (E.1.2.2.2.2 _ (List.mem_cons_of_mem _ tb_1695)) (fun _ h => h) dJ0_length_8abf5_1 ?_
  refine va_tlen hx hb ((E.2.2.2.2.2.2.2.1.1 k0 g1).2.2.2) hw.2.2 (v := (Int32.ofNat (strN.getD k0 0))) rfl dJ0_length_8abf5_4 ?_
  refine lv_aload_n hx hb dJ0_length_8abf5_5 rfl (lv_at hl 0 rfl) ?_
  obtain ⟨p2, h3, hM⟩ := b_some hM
  refine q_cvs (k := k0) (As := []) (rest := [.int (Int32.ofNat (strN.getD k0 0))]) E hw hl (c_J0_coder_7d493 l D cA tS A F k0 p2 h3) 0 (bwV bw_c tb_1046 tb_1047 tb_1048 tb_113 tb_1049) rfl (by decide +kernel) ⟨Nat.le_of_ble_eq_true rfl, Nat.le_of_ble_eq_true rfl⟩ g1 rfl rfl (Nat.le_of_ble_eq_true rfl) ⟨Nat.zero_le _, Nat.zero_le _⟩ dJ0_length_8abf5_6 (fun H locs hw => ?_)
  refine lv_ishr hx hb dJ0_length_8abf5_9 ?_
  cases hM
  exact q_reti E hw dJ0_length_8abf5_10
set_option maxRecDepth 100000 in
set_option maxHeartbeats 4000000 in
theorem c_J0_isLatin1_aae02 (l : Launch) (D : va_G) (cA : Nat → ClassId) (tS : Nat → Nat) (A : Nat → Prop) (F : va_W) (k0 : Nat) (r0 : Int32) (hM : f_J0_isLatin1_aae02 k0 = some r0) : Ct l yJ0_isLatin1_aae02 (Cond.code yJ0_isLatin1_aae02 cJ0_isLatin1_aae02 1 (some .boolean) :: bw) 0 0 D cA tS A [.ref (adK tS k0)] F (some (.int r0)) F := by
  refine ct_of (by decide +kernel) (Nat.le_of_ble_eq_true rfl) ?_
  intro p e s m below meth c E hw ls hl
  replace E : Ev p cJ0_isLatin1_aae02 1 (some .boolean) RJ0 (Cond.code yJ0_isLatin1_aae02 cJ0_isLatin1_aae02 1 (some .boolean) :: bw) D cA tS A s m _ meth c := E
  replace hl : lv_has ls 1 [(0, .ref (adK tS k0))] := hl
  have hx := E.1.1
  have hb := E.1.2.1
  unfold f_J0_isLatin1_aae02 at hM
  refine va_gets hx hb (E.2.2.2.2.2.2.2.2.2.1) hw.2.2 E.1.2.2.2.1 (E.1.2.2.2.2 _ (List.mem_cons_of_mem _ tb_1050)) (fun _ h => h) dJ0_isLatin1_aae02_0 ?_
  refine lv_if_eq (tgt := 17) hx hb dJ0_isLatin1_aae02_3 (by decide) (fun c1 => ?_) (fun c1 => ?_)
  · first | exact absurd (by decide) c1 | exact absurd c1 (by decide)
  · refine lv_aload_n hx hb dJ0_isLatin1_aae02_6 rfl (lv_at hl 0 rfl) ?_
    obtain ⟨g2, hM⟩ := g_some hM
    refine vk_getf hx hb ((E.2.2.2.2.2.2.2.1.1 k0 g2).2.1) hw.2.2 E.1.2.2.2.1 (E.1.2.2.2.2 _ (List.mem_cons_of_mem _ tb_1696)) (fun _ h => h) dJ0_isLatin1_aae02_7 ?_
    refine lv_if_ne (tgt := 17) hx hb dJ0_isLatin1_aae02_10 (by decide) (fun c3 => ?_) (fun c3 => ?_)
    · first | exact absurd (by decide) c3 | exact absurd c3 (by decide)
    · refine lv_iconst (v := 1) hx hb dJ0_isLatin1_aae02_13 (by decide) ?_
      refine lv_goto (tgt := 18) hx hb dJ0_isLatin1_aae02_14 (by decide) ?_
      cases hM
      exact q_retz E hw (by decide) dJ0_isLatin1_aae02_18
set_option maxRecDepth 100000 in
set_option maxHeartbeats 4000000 in
theorem c_J3_checkIndex_8e157 (l : Launch) (D : va_G) (cA : Nat → ClassId) (tS : Nat → Nat) (A : Nat → Prop) (F : va_W) (x0 : Int32) (x1 : Int32) (o2 : Option Nat) (r0 : Int32) (hM : f_J3_checkIndex_8e157 x0 x1 o2 = some r0) : Ct l yJ3_checkIndex_8e157 (Cond.code yJ3_checkIndex_8e157 cJ3_checkIndex_8e157 3 (some .int) :: bw) 0 0 D cA tS A [.int x0, .int x1, va_rf o2] F (some (.int r0)) F := by
  refine ct_of (by decide +kernel) (by cases o2 <;> exact Nat.le_of_ble_eq_true rfl) ?_
  intro p e s m below meth c E hw ls hl
  replace E : Ev p cJ3_checkIndex_8e157 3 (some .int) RJ3 (Cond.code yJ3_checkIndex_8e157 cJ3_checkIndex_8e157 3 (some .int) :: bw) D cA tS A s m _ meth c := E
  replace hl : lv_has ls 3 [(0, .int x0), (1, .int x1), (2, va_rf o2)] := hl
  have hx := E.1.1
  have hb := E.1.2.1
  unfold f_J3_checkIndex_8e157 at hM
  refine lv_iload_n hx hb dJ3_checkIndex_8e157_0 rfl (lv_at hl 0 rfl) ?_
  refine lv_if_lt (tgt := 9) hx hb dJ3_checkIndex_8e157_1 (by decide) (fun c1 => ?_) (fun c1 => ?_)
  · replace hM := i_pos hM c1
    cases hM
  · replace hM := i_neg hM c1
    refine lv_iload_n hx hb dJ3_checkIndex_8e157_4 rfl (lv_at hl 0 rfl) ?_
    refine lv_iload_n hx hb dJ3_checkIndex_8e157_5 rfl (lv_at hl 1 rfl) ?_
    refine lv_icmp_lt (tgt := 16) hx hb dJ3_checkIndex_8e157_6 (by decide) (fun c2 => ?_) (fun c2 => ?_)
    · replace hM := i_pos hM c2
      refine lv_iload_n hx hb dJ3_checkIndex_8e157_16 rfl (lv_at hl 0 rfl) ?_
      cases hM
      exact q_reti E hw dJ3_checkIndex_8e157_17
    · replace hM := i_neg hM c2
      cases hM
set_option maxRecDepth 100000 in
set_option maxHeartbeats 4000000 in
theorem c_J0_checkIndex_df160 (l : Launch) (D : va_G) (cA : Nat → ClassId) (tS : Nat → Nat) (A : Nat → Prop) (F : va_W) (x0 : Int32) (x1 : Int32) (hM : f_J0_checkIndex_df160 x0 x1 = some ()) : Ct l yJ0_checkIndex_df160 (Cond.code yJ0_checkIndex_df160 cJ0_checkIndex_df160 2 none :: bw) 1 22 D cA tS A [.int x0, .int x1] F none F := by
  refine ct_of (by decide +kernel) (Nat.le_of_ble_eq_true rfl) ?_
  intro p e s m below meth c E hw ls hl
  replace E : Ev p cJ0_checkIndex_df160 2 none RJ0 (Cond.code yJ0_checkIndex_df160 cJ0_checkIndex_df160 2 none :: bw) D cA tS A s m _ meth c := E
  replace hl : lv_has ls 2 [(0, .int x0), (1, .int x1)] := hl
  have hx := E.1.1
  have hb := E.1.2.1
  unfold f_J0_checkIndex_df160 at hM
  refine lv_iload_n hx hb dJ0_checkIndex_df160_0 rfl (lv_at hl 0 rfl) ?_
  refine lv_iload_n hx hb dJ0_checkIndex_df160_1 rfl (lv_at hl 1 rfl) ?_
  rcases E.2.2.2.2.2.2.2.2.2.2 with hz | ⟨tz, hz⟩
  · refine va_gets hx hb hz hw.2.2 E.1.2.2.2.1 (E.1.2.2.2.2 _ (List.mem_cons_of_mem _ tb_1066)) (fun _ h => h) dJ0_checkIndex_df160_2 ?_
    obtain ⟨p1, h2, hM⟩ := b_some hM
    refine q_cs (As := [.int x0, .int x1, .null]) (rest := []) E hw hl (c_J3_checkIndex_8e157 l D cA tS A F x0 x1 none p1 h2) 3 (bwS bw_c tb_1068 tb_1069 tb_115 tb_1070) rfl (by decide +kernel) ⟨Nat.le_of_ble_eq_true rfl, Nat.le_of_ble_eq_true rfl⟩ rfl rfl (Nat.le_of_ble_eq_true rfl) ⟨Nat.zero_le _, Nat.zero_le _⟩ dJ0_checkIndex_df160_5 (fun H locs hw => ?_)
    refine lv_pop hx hb dJ0_checkIndex_df160_8 rfl ?_
    cases hM
    exact q_retv E hw dJ0_checkIndex_df160_9
  · refine va_gets hx hb hz hw.2.2 E.1.2.2.2.1 (E.1.2.2.2.2 _ (List.mem_cons_of_mem _ tb_1066)) (fun _ h => h) dJ0_checkIndex_df160_2 ?_
    obtain ⟨p3, h4, hM⟩ := b_some hM
    refine q_cs (As := [.int x0, .int x1, .ref tz]) (rest := []) E hw hl (c_J3_checkIndex_8e157 l D cA tS A F x0 x1 (some tz) p3 h4) 3 (bwS bw_c tb_1068 tb_1069 tb_115 tb_1070) rfl (by decide +kernel) ⟨Nat.le_of_ble_eq_true rfl, Nat.le_of_ble_eq_true rfl⟩ rfl rfl (Nat.le_of_ble_eq_true rfl) ⟨Nat.zero_le _, Nat.zero_le _⟩ dJ0_checkIndex_df160_5 (fun H locs hw => ?_)
    refine lv_pop hx hb dJ0_checkIndex_df160_8 rfl ?_
    cases hM
    exact q_retv E hw dJ0_checkIndex_df160_9
set_option maxRecDepth 100000 in
set_option maxHeartbeats 4000000 in
theorem c_J1_charAt_3b067 (l : Launch) (D : va_G) (cA : Nat → ClassId) (tS : Nat → Nat) (A : Nat → Prop) (F : va_W) (k0 : Nat) (x1 : Int32) (r0 : Int32) (hM : f_J1_charAt_3b067 k0 x1 = some r0) : Ct l yJ1_charAt_3b067 (Cond.code yJ1_charAt_3b067 cJ1_charAt_3b067 2 (some .char) :: bw) 2 43 D cA tS A [.ref (adV tS k0), .int x1] F (some (.int r0)) F := by
  refine ct_of (by decide +kernel) (Nat.le_of_ble_eq_true rfl) ?_
  intro p e s m below meth c E hw ls hl
  replace E : Ev p cJ1_charAt_3b067 2 (some .char) RJ1 (Cond.code yJ1_charAt_3b067 cJ1_charAt_3b067 2 (some .char) :: bw) D cA tS A s m _ meth c := E
  replace hl : lv_has ls 2 [(0, .ref (adV tS k0)), (1, .int x1)] := hl
  have hx := E.1.1
  have hb := E.1.2.1
  unfold f_J1_charAt_3b067 at hM
  refine lv_iload_n hx hb dJ1_charAt_3b067_0 rfl (lv_at hl 1 rfl) ?_
  refine lv_aload_n hx hb dJ1_charAt_3b067_1 rfl (lv_at hl 0 rfl) ?_
  obtain ⟨g1, hM⟩ := g_some hM
  refine va_tlen hx hb ((E.2.2.2.2.2.2.2.1.1 k0 g1).2.2.2) hw.2.2 (v := (Int32.ofNat (strN.getD k0 0))) rfl dJ1_charAt_3b067_2 ?_
  obtain ⟨p2, h3, hM⟩ := b_some hM
  refine q_csv (As := [.int x1, .int (Int32.ofNat (strN.getD k0 0))]) (rest := []) E hw hl (c_J0_checkIndex_df160 l D cA tS A F x1 (Int32.ofNat (strN.getD k0 0)) h3) 2 (bwS bw_c tb_1063 tb_1064 tb_113 tb_1065) rfl (by decide +kernel) ⟨Nat.le_of_ble_eq_true rfl, Nat.le_of_ble_eq_true rfl⟩ rfl rfl (Nat.le_of_ble_eq_true rfl) ⟨Nat.zero_le _, Nat.zero_le _⟩ dJ1_charAt_3b067_3 (fun H locs hw => ?_)
  refine lv_aload_n hx hb dJ1_charAt_3b067_6 rfl (lv_at hl 0 rfl) ?_
  refine lv_iload_n hx hb dJ1_charAt_3b067_7 rfl (lv_at hl 1 rfl) ?_
  obtain ⟨g4, hM⟩ := g_some hM
  refine va_tb hx hb ((E.2.2.2.2.2.2.2.1.1 k0 g1).2.2.2) hw.2.2 g4 (v := .int ((strB.getD k0 []).getD (ix x1) 0)) rfl dJ1_charAt_3b067_8 ?_
  refine lv_sipush (v := 255) hx hb dJ1_charAt_3b067_9 (by decide) ?_
  refine lv_iand hx hb dJ1_charAt_3b067_12 ?_
  refine lv_i2c (v := (((((strB.getD k0 []).getD (ix x1) 0) &&& 255) : Int32).toUInt32 % 65536).toInt32) hx hb dJ1_charAt_3b067_13 rfl ?_
  obtain ⟨g5, hM⟩ := g_some hM
  cases hM
  exact q_retc E hw g5 dJ1_charAt_3b067_14
set_option maxRecDepth 100000 in
set_option maxHeartbeats 4000000 in
theorem c_J0_charAt_5068e (l : Launch) (D : va_G) (cA : Nat → ClassId) (tS : Nat → Nat) (A : Nat → Prop) (F : va_W) (k0 : Nat) (x1 : Int32) (r0 : Int32) (hM : f_J0_charAt_5068e k0 x1 = some r0) : Ct l yJ0_charAt_5068e (Cond.code yJ0_charAt_5068e cJ0_charAt_5068e 2 (some .char) :: bw) 3 64 D cA tS A [.ref (adK tS k0), .int x1] F (some (.int r0)) F := by
  refine ct_of (by decide +kernel) (Nat.le_of_ble_eq_true rfl) ?_
  intro p e s m below meth c E hw ls hl
  replace E : Ev p cJ0_charAt_5068e 2 (some .char) RJ0 (Cond.code yJ0_charAt_5068e cJ0_charAt_5068e 2 (some .char) :: bw) D cA tS A s m _ meth c := E
  replace hl : lv_has ls 2 [(0, .ref (adK tS k0)), (1, .int x1)] := hl
  have hx := E.1.1
  have hb := E.1.2.1
  unfold f_J0_charAt_5068e at hM
  refine lv_aload_n hx hb dJ0_charAt_5068e_0 rfl (lv_at hl 0 rfl) ?_
  obtain ⟨g3, hM⟩ := g_some hM
  obtain ⟨p1, h2, hM⟩ := b_some hM
  refine q_cvs (k := k0) (As := []) (rest := []) E hw hl (c_J0_isLatin1_aae02 l D cA tS A F k0 p1 h2) 0 (bwV bw_c tb_1056 tb_1057 tb_1058 tb_113 tb_1059) rfl (by decide +kernel) ⟨Nat.le_of_ble_eq_true rfl, Nat.le_of_ble_eq_true rfl⟩ g3 rfl rfl (Nat.le_of_ble_eq_true rfl) ⟨Nat.zero_le _, Nat.zero_le _⟩ dJ0_charAt_5068e_1 (fun H locs hw => ?_)
  refine lv_if_eq (tgt := 16) hx hb dJ0_charAt_5068e_4 (by decide) (fun c4 => ?_) (fun c4 => ?_)
  · replace hM := i_pos hM c4
    cases hM
  · replace hM := i_neg hM c4
    refine lv_aload_n hx hb dJ0_charAt_5068e_7 rfl (lv_at hl 0 rfl) ?_
    refine vk_getf hx hb ((E.2.2.2.2.2.2.2.1.1 k0 g3).2.2.1) hw.2.2 E.1.2.2.2.1 (E.1.2.2.2.2 _ (List.mem_cons_of_mem _ tb_1695)) (fun _ h => h) dJ0_charAt_5068e_8 ?_
    refine lv_iload_n hx hb dJ0_charAt_5068e_11 rfl (lv_at hl 1 rfl) ?_
    obtain ⟨p5, h6, hM⟩ := b_some hM
    refine q_cs (As := [.ref (adV tS k0), .int x1]) (rest := []) E hw hl (c_J1_charAt_3b067 l D cA tS A F k0 x1 p5 h6) 2 (bwS bw_c tb_1060 tb_1061 tb_114 tb_1062) rfl (by decide +kernel) ⟨Nat.le_of_ble_eq_true rfl, Nat.le_of_ble_eq_true rfl⟩ rfl rfl (Nat.le_of_ble_eq_true rfl) ⟨Nat.zero_le _, Nat.zero_le _⟩ dJ0_charAt_5068e_12 (fun H locs hw => ?_)
    obtain ⟨g7, hM⟩ := g_some hM
    cases hM
    exact q_retc E hw g7 dJ0_charAt_5068e_15
set_option maxRecDepth 100000 in
set_option maxHeartbeats 4000000 in
theorem s_X5_isWord_28 (l : Launch) (D : va_G) (cA : Nat → ClassId) (tS : Nat → Nat) (A : Nat → Prop) (z : Nat → Nat) (F : va_W) (N : Nat) {p : Program} {e : Env} {s : State} {m : MethodId} {args : Array Value} {below : List Frame} {meth : Method} {c : Code} (E : Ev p cX5_isWord 3 (some .boolean) RX5 (Cond.code yX5_isWord cX5_isWord 3 (some .boolean) :: bw) D cA tS A s m args meth c) : ∀ (n : Nat) (k1 : Nat) (x2 : Int32) (κ : Sg) (r0 : Int32) (hM : f_X5_isWord_28 N n k1 x2 κ = some r0) (H : Heap) (locs : List Loc) (hw : Wd D A (wSc cA z κ ++ (wR cA z κ ++ F)) s.heap H locs) (ls : Array Slot) (hl : lv_has ls 3 [(0, .ref (z 60)), (1, .ref (adK tS k1)), (2, .int x2)]), W p l e ({ frames := 4, cells := 0, slots := 0, locals := 85 } : Room) s m args below meth c H locs 0 0 (MQ below (QW D A (some (.int r0)) (wSc cA z κ ++ (wR cA z κ ++ F))) args s 0 0 A) (F0 m 28 ls []) := by
  have hx := E.1.1
  have hb := E.1.2.1
  intro n
  induction n with
  | zero =>
    intro k1 x2 κ r0 hM
    cases hM
  | succ n ih =>
    intro k1 x2 κ r0 hM H locs hw ls hl
    rw [f_X5_isWord_28] at hM
    refine lv_iload_n hx hb dX5_isWord_28 rfl (lv_at hl 2 rfl) ?_
    refine lv_aload_n hx hb dX5_isWord_29 rfl (lv_at hl 1 rfl) ?_
    obtain ⟨g3, hM⟩ := g_some hM
    obtain ⟨p1, h2, hM⟩ := b_some hM
    refine q_cvs (k := k1) (As := []) (rest := [.int x2]) E hw hl (c_J0_length_8abf5 l D cA tS A (wSc cA z κ ++ (wR cA z κ ++ F)) k1 p1 h2) 0 (bwV bw_c tb_1042 tb_1043 tb_1044 tb_113 tb_1045) rfl (by decide +kernel) ⟨Nat.le_of_ble_eq_true rfl, Nat.le_of_ble_eq_true rfl⟩ g3 rfl rfl (Nat.le_of_ble_eq_true rfl) ⟨Nat.zero_le _, Nat.zero_le _⟩ dX5_isWord_30 (fun H locs hw => ?_)
    refine lv_icmp_ge (tgt := 63) hx hb dX5_isWord_33 (by decide) (fun c4 => ?_) (fun c4 => ?_)
    · replace hM := i_pos hM c4
      refine lv_iconst (v := 1) hx hb dX5_isWord_63 (by decide) ?_
      cases hM
      exact q_retz E hw (by decide) dX5_isWord_64
    · replace hM := i_neg hM c4
      refine lv_aload_n hx hb dX5_isWord_36 rfl (lv_at hl 0 rfl) ?_
      refine q_get (C := RX5) (T := TX5) (N := 13) (ci := 5) E (fun w h => List.mem_cons_of_mem _ (inX5 w h)) hw 0 rfl rfl 0 (by decide) (List.mem_cons_of_mem _ tb_394) (v := .ref (z 61)) rfl dX5_isWord_37 ?_
      refine lv_aload_n hx hb dX5_isWord_40 rfl (lv_at hl 0 rfl) ?_
      refine q_get (C := RX5) (T := TX5) (N := 13) (ci := 5) E (fun w h => List.mem_cons_of_mem _ (inX5 w h)) hw 0 rfl rfl 10 (by decide) (List.mem_cons_of_mem _ tb_411) (v := .int (κ 9 0)) rfl dX5_isWord_41 ?_
      refine lv_iload_n hx hb dX5_isWord_44 rfl (lv_at hl 2 rfl) ?_
      refine lv_iadd hx hb dX5_isWord_45 ?_
      obtain ⟨g5, hM⟩ := g_some hM
      refine q_bld E hw 1 (n := 400) rfl g5 (x := (κ 61 (ix ((κ 9 0) + x2)))) rfl dX5_isWord_46 ?_
      refine lv_aload_n hx hb dX5_isWord_47 rfl (lv_at hl 1 rfl) ?_
      refine lv_iload_n hx hb dX5_isWord_48 rfl (lv_at hl 2 rfl) ?_
      obtain ⟨p6, h7, hM⟩ := b_some hM
      refine q_cvs (k := k1) (As := [.int x2]) (rest := [.int (κ 61 (ix ((κ 9 0) + x2)))]) E hw hl (c_J0_charAt_5068e l D cA tS A (wSc cA z κ ++ (wR cA z κ ++ F)) k1 x2 p6 h7) 1 (bwV bw_c tb_1052 tb_1053 tb_1054 tb_113 tb_1055) rfl (by decide +kernel) ⟨Nat.le_of_ble_eq_true rfl, Nat.le_of_ble_eq_true rfl⟩ g3 rfl rfl (Nat.le_of_ble_eq_true rfl) ⟨Nat.zero_le _, Nat.zero_le _⟩ dX5_isWord_49 (fun H locs hw => ?_)
      refine lv_icmp_eq (tgt := 57) hx hb dX5_isWord_52 (by decide) (fun c8 => ?_) (fun c8 => ?_)
      · replace hM := i_pos hM c8
        refine lv_iinc (v := (x2 + 1)) (lv' := [(2, .int (x2 + 1)), (0, .ref (z 60)), (1, .ref (adK tS k1))]) hx hb dX5_isWord_57 hl (k := 2) rfl rfl (by decide) rfl (fun ls hl => ?_)
        refine lv_goto (tgt := 28) hx hb dX5_isWord_60 (by decide) ?_
        exact ih _ _ _ _ hM _ _ hw _ (lv_sub hl [1, 2, 0] rfl)
      · replace hM := i_neg hM c8
        refine lv_iconst (v := 0) hx hb dX5_isWord_55 (by decide) ?_
        cases hM
        exact q_retz E hw (by decide) dX5_isWord_56
set_option maxRecDepth 100000 in
set_option maxHeartbeats 4000000 in
theorem c_X5_isWord (l : Launch) (D : va_G) (cA : Nat → ClassId) (tS : Nat → Nat) (A : Nat → Prop) (z : Nat → Nat) (F : va_W) (N : Nat) (k1 : Nat) (κ : Sg) (r0 : Int32) (hM : f_X5_isWord N k1 κ = some r0) : Ct l yX5_isWord (Cond.code yX5_isWord cX5_isWord 3 (some .boolean) :: bw) 4 85 D cA tS A [.ref (z 60), .ref (adK tS k1)] (wSc cA z κ ++ (wR cA z κ ++ F)) (some (.int r0)) (wSc cA z κ ++ (wR cA z κ ++ F)) := by
  refine ct_of (by decide +kernel) (Nat.le_of_ble_eq_true rfl) ?_
  intro p e s m below meth c E hw ls hl
  replace E : Ev p cX5_isWord 3 (some .boolean) RX5 (Cond.code yX5_isWord cX5_isWord 3 (some .boolean) :: bw) D cA tS A s m _ meth c := E
  replace hl : lv_has ls 3 [(0, .ref (z 60)), (1, .ref (adK tS k1))] := hl
  have hx := E.1.1
  have hb := E.1.2.1
  unfold f_X5_isWord at hM
  refine lv_aload_n hx hb dX5_isWord_0 rfl (lv_at hl 0 rfl) ?_
  refine q_get (C := RX5) (T := TX5) (N := 13) (ci := 5) E (fun w h => List.mem_cons_of_mem _ (inX5 w h)) hw 0 rfl rfl 9 (by decide) (List.mem_cons_of_mem _ tb_410) (v := .int (κ 8 0)) rfl dX5_isWord_1 ?_
  refine lv_iconst (v := 1) hx hb dX5_isWord_4 (by decide) ?_
  refine lv_icmp_ne (tgt := 24) hx hb dX5_isWord_5 (by decide) (fun c1 => ?_) (fun c1 => ?_)
  · replace hM := i_neg hM c1
    refine lv_iconst (v := 0) hx hb dX5_isWord_24 (by decide) ?_
    cases hM
    exact q_retz E hw (by decide) dX5_isWord_25
  · replace hM := i_pos hM c1
    refine lv_aload_n hx hb dX5_isWord_8 rfl (lv_at hl 0 rfl) ?_
    refine q_get (C := RX5) (T := TX5) (N := 13) (ci := 5) E (fun w h => List.mem_cons_of_mem _ (inX5 w h)) hw 0 rfl rfl 11 (by decide) (List.mem_cons_of_mem _ tb_412) (v := .int (κ 10 0)) rfl dX5_isWord_9 ?_
    refine lv_aload_n hx hb dX5_isWord_12 rfl (lv_at hl 0 rfl) ?_
    refine q_get (C := RX5) (T := TX5) (N := 13) (ci := 5) E (fun w h => List.mem_cons_of_mem _ (inX5 w h)) hw 0 rfl rfl 10 (by decide) (List.mem_cons_of_mem _ tb_411) (v := .int (κ 9 0)) rfl dX5_isWord_13 ?_
    refine lv_isub hx hb dX5_isWord_16 ?_
    refine lv_aload_n hx hb dX5_isWord_17 rfl (lv_at hl 1 rfl) ?_
    obtain ⟨g4, hM⟩ := g_some hM
    obtain ⟨p2, h3, hM⟩ := b_some hM
    refine q_cvs (k := k1) (As := []) (rest := [.int ((κ 10 0) - (κ 9 0))]) E hw hl (c_J0_length_8abf5 l D cA tS A (wSc cA z κ ++ (wR cA z κ ++ F)) k1 p2 h3) 0 (bwV bw_c tb_1042 tb_1043 tb_1044 tb_113 tb_1045) rfl (by decide +kernel) ⟨Nat.le_of_ble_eq_true rfl, Nat.le_of_ble_eq_true rfl⟩ g4 rfl rfl (Nat.le_of_ble_eq_true rfl) ⟨Nat.zero_le _, Nat.zero_le _⟩ dX5_isWord_18 (fun H locs hw => ?_)
    refine lv_icmp_eq (tgt := 26) hx hb dX5_isWord_21 (by decide) (fun c5 => ?_) (fun c5 => ?_)
    · replace hM := i_pos hM c5
      refine lv_iconst (v := 0) hx hb dX5_isWord_26 (by decide) ?_
      refine lv_istore_n (lv' := [(2, .int 0), (0, .ref (z 60)), (1, .ref (adK tS k1))]) hx hb dX5_isWord_27 rfl hl (by decide) rfl (fun ls hl => ?_)
      exact s_X5_isWord_28 l D cA tS A z F N E N _ _ _ _ hM _ _ hw _ (lv_sub hl [1, 2, 0] rfl)
    · replace hM := i_neg hM c5
      refine lv_iconst (v := 0) hx hb dX5_isWord_24 (by decide) ?_
      cases hM
      exact q_retz E hw (by decide) dX5_isWord_25
set_option maxRecDepth 100000 in
set_option maxHeartbeats 4000000 in
theorem s_X5_verbOfToken_2 (l : Launch) (D : va_G) (cA : Nat → ClassId) (tS : Nat → Nat) (A : Nat → Prop) (z : Nat → Nat) (F : va_W) (N : Nat) {p : Program} {e : Env} {s : State} {m : MethodId} {args : Array Value} {below : List Frame} {meth : Method} {c : Code} (E : Ev p cX5_verbOfToken 2 (some .int) RX5 (Cond.code yX5_verbOfToken cX5_verbOfToken 2 (some .int) :: bw) D cA tS A s m args meth c) : ∀ (n : Nat) (x1 : Int32) (κ : Sg) (r0 : Int32) (hM : f_X5_verbOfToken_2 N n x1 κ = some r0) (H : Heap) (locs : List Loc) (hw : Wd D A (wSc cA z κ ++ (wR cA z κ ++ F)) s.heap H locs) (ls : Array Slot) (hl : lv_has ls 2 [(0, .ref (z 60)), (1, .int x1)]), W p l e ({ frames := 5, cells := 0, slots := 0, locals := 107 } : Room) s m args below meth c H locs 0 0 (MQ below (QW D A (some (.int r0)) (wSc cA z κ ++ (wR cA z κ ++ F))) args s 0 0 A) (F0 m 2 ls []) := by
  have hx := E.1.1
  have hb := E.1.2.1
  intro n
  induction n with
  | zero =>
    intro x1 κ r0 hM
    cases hM
  | succ n ih =>
    intro x1 κ r0 hM H locs hw ls hl
    rw [f_X5_verbOfToken_2] at hM
    refine lv_iload_n hx hb dX5_verbOfToken_2 rfl (lv_at hl 1 rfl) ?_
    refine lv_bipush (v := 13) hx hb dX5_verbOfToken_3 (by decide) ?_
    refine lv_icmp_ge (tgt := 27) hx hb dX5_verbOfToken_5 (by decide) (fun c1 => ?_) (fun c1 => ?_)
    · replace hM := i_pos hM c1
      refine lv_iconst (v := (-1)) hx hb dX5_verbOfToken_27 (by decide) ?_
      cases hM
      exact q_reti E hw dX5_verbOfToken_28
    · replace hM := i_neg hM c1
      refine lv_aload_n hx hb dX5_verbOfToken_8 rfl (lv_at hl 0 rfl) ?_
      refine lv_iload_n hx hb dX5_verbOfToken_9 rfl (lv_at hl 1 rfl) ?_
      obtain ⟨p2, h3, hM⟩ := b_some hM
      refine q_cs (As := [.int x1]) (rest := [.ref (z 60)]) E hw hl (c_X5_wordOf l D cA tS A (wSc cA z κ ++ (wR cA z κ ++ F)) x1 p2 h3) 1 (bwS bw_c tb_1021 tb_1022 tb_110 tb_1023) rfl (by decide +kernel) ⟨Nat.le_of_ble_eq_true rfl, Nat.le_of_ble_eq_true rfl⟩ rfl rfl (Nat.le_of_ble_eq_true rfl) ⟨Nat.zero_le _, Nat.zero_le _⟩ dX5_verbOfToken_10 (fun H locs hw => ?_)
      obtain ⟨p4, h5, hM⟩ := b_some hM
      refine q_cv (As := [.ref (adK tS p2)]) (rest := []) E hw hl (c_X5_isWord l D cA tS A z F N p2 κ p4 h5) 1 (bwV bw_c tb_1038 tb_1040 tb_40 tb_110 tb_1041) rfl (by decide +kernel) ⟨Nat.le_of_ble_eq_true rfl, Nat.le_of_ble_eq_true rfl⟩ 0 5 (T := TX5) (N := 13) rfl rfl rfl rfl (Nat.le_of_ble_eq_true rfl) ⟨Nat.zero_le _, Nat.zero_le _⟩ dX5_verbOfToken_13 (fun H locs hw => ?_)
      refine lv_if_eq (tgt := 21) hx hb dX5_verbOfToken_16 (by decide) (fun c6 => ?_) (fun c6 => ?_)
      · replace hM := i_pos hM c6
        refine lv_iinc (v := (x1 + 1)) (lv' := [(1, .int (x1 + 1)), (0, .ref (z 60))]) hx hb dX5_verbOfToken_21 hl (k := 1) rfl rfl (by decide) rfl (fun ls hl => ?_)
        refine lv_goto (tgt := 2) hx hb dX5_verbOfToken_24 (by decide) ?_
        exact ih _ _ _ hM _ _ hw _ (lv_sub hl [1, 0] rfl)
      · replace hM := i_neg hM c6
        refine lv_iload_n hx hb dX5_verbOfToken_19 rfl (lv_at hl 1 rfl) ?_
        cases hM
        exact q_reti E hw dX5_verbOfToken_20
set_option maxRecDepth 100000 in
set_option maxHeartbeats 4000000 in
theorem c_X5_verbOfToken (l : Launch) (D : va_G) (cA : Nat → ClassId) (tS : Nat → Nat) (A : Nat → Prop) (z : Nat → Nat) (F : va_W) (N : Nat) (κ : Sg) (r0 : Int32) (hM : f_X5_verbOfToken N κ = some r0) : Ct l yX5_verbOfToken (Cond.code yX5_verbOfToken cX5_verbOfToken 2 (some .int) :: bw) 5 107 D cA tS A [.ref (z 60)] (wSc cA z κ ++ (wR cA z κ ++ F)) (some (.int r0)) (wSc cA z κ ++ (wR cA z κ ++ F)) := by
  refine ct_of (by decide +kernel) (Nat.le_of_ble_eq_true rfl) ?_
  intro p e s m below meth c E hw ls hl
  replace E : Ev p cX5_verbOfToken 2 (some .int) RX5 (Cond.code yX5_verbOfToken cX5_verbOfToken 2 (some .int) :: bw) D cA tS A s m _ meth c := E
  replace hl : lv_has ls 2 [(0, .ref (z 60))] := hl
  have hx := E.1.1
  have hb := E.1.2.1
  unfold f_X5_verbOfToken at hM
  refine lv_iconst (v := 0) hx hb dX5_verbOfToken_0 (by decide) ?_
  refine lv_istore_n (lv' := [(1, .int 0), (0, .ref (z 60))]) hx hb dX5_verbOfToken_1 rfl hl (by decide) rfl (fun ls hl => ?_)
  exact s_X5_verbOfToken_2 l D cA tS A z F N E N _ _ _ hM _ _ hw _ (lv_sub hl [1, 0] rfl)
set_option maxRecDepth 100000 in
set_option maxHeartbeats 4000000 in
theorem c_X5_fail (l : Launch) (D : va_G) (cA : Nat → ClassId) (tS : Nat → Nat) (A : Nat → Prop) (z : Nat → Nat) (F : va_W) (x1 : Int32) (κ : Sg) (r0 : Int32) (s0 : Sg) (hM : f_X5_fail x1 κ = some (r0, s0)) : Ct l yX5_fail (Cond.code yX5_fail cX5_fail 2 (some .boolean) :: bw) 0 0 D cA tS A [.ref (z 60), .int x1] (wSc cA z κ ++ (wR cA z κ ++ F)) (some (.int r0)) (wSc cA z s0 ++ (wR cA z s0 ++ F)) := by
  refine ct_of (by decide +kernel) (Nat.le_of_ble_eq_true rfl) ?_
  intro p e s m below meth c E hw ls hl
  replace E : Ev p cX5_fail 2 (some .boolean) RX5 (Cond.code yX5_fail cX5_fail 2 (some .boolean) :: bw) D cA tS A s m _ meth c := E
  replace hl : lv_has ls 2 [(0, .ref (z 60)), (1, .int x1)] := hl
  have hx := E.1.1
  have hb := E.1.2.1
  unfold f_X5_fail at hM
  refine lv_aload_n hx hb dX5_fail_0 rfl (lv_at hl 0 rfl) ?_
  refine lv_iload_n hx hb dX5_fail_1 rfl (lv_at hl 1 rfl) ?_
  refine q_puti (C := RX5) (T := TX5) (N := 13) (ci := 5) E (fun w h => List.mem_cons_of_mem _ (inX5 w h)) tyX5 tyX5_ok nmX5 hw 0 rfl rfl 6 (by decide) (List.mem_cons_of_mem _ tb_405) rfl rfl (Nat.le_of_ble_eq_true rfl) (wSc cA z (up κ 5 0 x1) ++ (wR cA z (up κ 5 0 x1) ++ F)) st_Sc_R_5 dX5_fail_2 (fun H locs hw => ?_)
  refine lv_aload_n hx hb dX5_fail_5 rfl (lv_at hl 0 rfl) ?_
  refine lv_aload_n hx hb dX5_fail_6 rfl (lv_at hl 0 rfl) ?_
  refine q_get (C := RX5) (T := TX5) (N := 13) (ci := 5) E (fun w h => List.mem_cons_of_mem _ (inX5 w h)) hw 0 rfl rfl 10 (by decide) (List.mem_cons_of_mem _ tb_411) (v := .int (κ 9 0)) (q_fld (congrFun (up_ne κ 5 0 x1 9 (by decide)) 0) rfl) dX5_fail_7 ?_
  refine q_puti (C := RX5) (T := TX5) (N := 13) (ci := 5) E (fun w h => List.mem_cons_of_mem _ (inX5 w h)) tyX5 tyX5_ok nmX5 hw 0 rfl rfl 7 (by decide) (List.mem_cons_of_mem _ tb_407) rfl rfl (Nat.le_of_ble_eq_true rfl) (wSc cA z (up (up κ 5 0 x1) 6 0 (κ 9 0)) ++ (wR cA z (up (up κ 5 0 x1) 6 0 (κ 9 0)) ++ F)) st_Sc_R_6 dX5_fail_10 (fun H locs hw => ?_)
  refine lv_iconst (v := 0) hx hb dX5_fail_13 (by decide) ?_
  cases hM
  exact q_retz E hw (by decide) dX5_fail_14
set_option maxRecDepth 100000 in
set_option maxHeartbeats 4000000 in
theorem s_X5_parseStatement_121 (l : Launch) (D : va_G) (cA : Nat → ClassId) (tS : Nat → Nat) (A : Nat → Prop) (z : Nat → Nat) (F : va_W) (N : Nat) {p : Program} {e : Env} {s : State} {m : MethodId} {args : Array Value} {below : List Frame} {meth : Method} {c : Code} (E : Ev p cX5_parseStatement 5 (some .boolean) RX5 (Cond.code yX5_parseStatement cX5_parseStatement 5 (some .boolean) :: bw) D cA tS A s m args meth c) : ∀ (κ : Sg) (r0 : Int32) (s0 : Sg) (hM : f_X5_parseStatement_121 N κ = some (r0, s0)) (H : Heap) (locs : List Loc) (hw : Wd D A (wSc cA z κ ++ (wR cA z κ ++ F)) s.heap H locs) (ls : Array Slot) (hl : lv_has ls 5 [(0, .ref (z 60))]), W p l e ({ frames := 5, cells := 0, slots := 0, locals := 107 } : Room) s m args below meth c H locs 0 0 (MQ below (QW D A (some (.int r0)) (wSc cA z s0 ++ (wR cA z s0 ++ F))) args s 0 0 A) (F0 m 121 ls []) := by
  have hx := E.1.1
  have hb := E.1.2.1
  intro κ r0 s0 hM H locs hw ls hl
  unfold f_X5_parseStatement_121 at hM
  refine lv_aload_n hx hb dX5_parseStatement_121 rfl (lv_at hl 0 rfl) ?_
  refine q_get (C := RX5) (T := TX5) (N := 13) (ci := 5) E (fun w h => List.mem_cons_of_mem _ (inX5 w h)) hw 0 rfl rfl 9 (by decide) (List.mem_cons_of_mem _ tb_410) (v := .int (κ 8 0)) rfl dX5_parseStatement_122 ?_
  refine lv_iconst (v := 3) hx hb dX5_parseStatement_125 (by decide) ?_
  refine lv_icmp_eq (tgt := 137) hx hb dX5_parseStatement_126 (by decide) (fun c1 => ?_) (fun c1 => ?_)
  · replace hM := i_pos hM c1
    refine lv_iconst (v := 1) hx hb dX5_parseStatement_137 (by decide) ?_
    refine lv_goto (tgt := 142) hx hb dX5_parseStatement_138 (by decide) ?_
    cases hM
    exact q_retz E hw (by decide) dX5_parseStatement_142
  · replace hM := i_neg hM c1
    refine lv_aload_n hx hb dX5_parseStatement_129 rfl (lv_at hl 0 rfl) ?_
    refine lv_iconst (v := 1) hx hb dX5_parseStatement_130 (by decide) ?_
    obtain ⟨p2, h3, hM⟩ := b_some hM
    refine q_cv (As := [.int 1]) (rest := []) E hw hl (c_X5_fail l D cA tS A z F 1 κ p2.1 p2.2 h3) 1 (bwV bw_c tb_1090 tb_1092 tb_41 tb_110 tb_1093) rfl (by decide +kernel) ⟨Nat.le_of_ble_eq_true rfl, Nat.le_of_ble_eq_true rfl⟩ 0 5 (T := TX5) (N := 13) rfl rfl rfl rfl (Nat.le_of_ble_eq_true rfl) ⟨Nat.zero_le _, Nat.zero_le _⟩ dX5_parseStatement_131 (fun H locs hw => ?_)
    refine lv_if_eq (tgt := 141) hx hb dX5_parseStatement_134 (by decide) (fun c4 => ?_) (fun c4 => ?_)
    · replace hM := i_pos hM c4
      refine lv_iconst (v := 0) hx hb dX5_parseStatement_141 (by decide) ?_
      cases hM
      exact q_retz E hw (by decide) dX5_parseStatement_142
    · replace hM := i_neg hM c4
      refine lv_iconst (v := 1) hx hb dX5_parseStatement_137 (by decide) ?_
      refine lv_goto (tgt := 142) hx hb dX5_parseStatement_138 (by decide) ?_
      cases hM
      exact q_retz E hw (by decide) dX5_parseStatement_142
set_option maxRecDepth 100000 in
set_option maxHeartbeats 4000000 in
theorem s_X5_parseStatement_22 (l : Launch) (D : va_G) (cA : Nat → ClassId) (tS : Nat → Nat) (A : Nat → Prop) (z : Nat → Nat) (F : va_W) (N : Nat) {p : Program} {e : Env} {s : State} {m : MethodId} {args : Array Value} {below : List Frame} {meth : Method} {c : Code} (E : Ev p cX5_parseStatement 5 (some .boolean) RX5 (Cond.code yX5_parseStatement cX5_parseStatement 5 (some .boolean) :: bw) D cA tS A s m args meth c) : ∀ (n : Nat) (x1 : Int32) (x2 : Int32) (x4 : Int32) (κ : Sg) (r0 : Int32) (s0 : Sg) (hM : f_X5_parseStatement_22 N n x1 x2 x4 κ = some (r0, s0)) (H : Heap) (locs : List Loc) (hw : Wd D A (wSc cA z κ ++ (wR cA z κ ++ F)) s.heap H locs) (ls : Array Slot) (hl : lv_has ls 5 [(0, .ref (z 60)), (1, .int x1), (2, .int x2), (3, .ref (z (100 + (ix x1)))), (4, .int x4)]), W p l e ({ frames := 5, cells := 0, slots := 0, locals := 107 } : Room) s m args below meth c H locs 0 0 (MQ below (QW D A (some (.int r0)) (wSc cA z s0 ++ (wR cA z s0 ++ F))) args s 0 0 A) (F0 m 22 ls []) := by
  have hx := E.1.1
  have hb := E.1.2.1
  intro n
  induction n with
  | zero =>
    intro x1 x2 x4 κ r0 s0 hM
    cases hM
  | succ n ih =>
    intro x1 x2 x4 κ r0 s0 hM H locs hw ls hl
    rw [f_X5_parseStatement_22] at hM
    refine lv_iload hx hb dX5_parseStatement_22 (lv_at hl 4 rfl) ?_
    refine va_getsN hx hb (E.2.2.2.2.2.2.1.2.2.1) hw.2.2 E.1.2.2.2.1 (va_Nw.use rfl (E.2.2.2.2.2.1 (.fieldLinkNest RX5 68 RX8 "ARGUMENTS" "[I" "HelpDesk") (by decide +kernel))) (fun _ h => h) dX5_parseStatement_24 ?_
    refine lv_iload_n hx hb dX5_parseStatement_27 rfl (lv_at hl 2 rfl) ?_
    obtain ⟨g1, hM⟩ := g_some hM
    refine va_ti hx hb (E.2.2.2.2.2.2.1.2.2.2) hw.2.2 g1 (v := .int (sA2 (ix x2))) rfl dX5_parseStatement_28 ?_
    refine lv_icmp_ge (tgt := 79) hx hb dX5_parseStatement_29 (by decide) (fun c2 => ?_) (fun c2 => ?_)
    · replace hM := i_pos hM c2
      refine lv_aload_n hx hb dX5_parseStatement_79 rfl (lv_at hl 0 rfl) ?_
      obtain ⟨p3, h4, hM⟩ := b_some hM
      refine q_cvv (As := []) (rest := []) E hw hl (c_X5_readToken l D cA tS A z F N κ p3 h4) 0 (bwV bw_c tb_994 tb_996 tb_36 tb_110 tb_997) rfl (by decide +kernel) ⟨Nat.le_of_ble_eq_true rfl, Nat.le_of_ble_eq_true rfl⟩ 0 5 (T := TX5) (N := 13) rfl rfl rfl rfl (Nat.le_of_ble_eq_true rfl) ⟨Nat.zero_le _, Nat.zero_le _⟩ dX5_parseStatement_80 (fun H locs hw => ?_)
      refine lv_aload_n hx hb dX5_parseStatement_83 rfl (lv_at hl 0 rfl) ?_
      refine q_get (C := RX5) (T := TX5) (N := 13) (ci := 5) E (fun w h => List.mem_cons_of_mem _ (inX5 w h)) hw 0 rfl rfl 4 (by decide) (List.mem_cons_of_mem _ tb_401) (v := .ref (z 64)) rfl dX5_parseStatement_84 ?_
      refine lv_iload_n hx hb dX5_parseStatement_87 rfl (lv_at hl 1 rfl) ?_
      refine lv_iload_n hx hb dX5_parseStatement_88 rfl (lv_at hl 2 rfl) ?_
      refine lv_iconst (v := 1) hx hb dX5_parseStatement_89 (by decide) ?_
      refine lv_icmp_ne (tgt := 106) hx hb dX5_parseStatement_90 (by decide) (fun c5 => ?_) (fun c5 => ?_)
      · replace hM := i_neg hM c5
        refine lv_iconst (v := 0) hx hb dX5_parseStatement_106 (by decide) ?_
        obtain ⟨g6, hM⟩ := g_some hM
        refine q_zst E hw 3 (n := 40) rfl g6 (wSc cA z (up p3 64 (ix x1) (vp_nar .boolean 0)) ++ (wR cA z (up p3 64 (ix x1) (vp_nar .boolean 0)) ++ F)) st_Sc_R_64 dX5_parseStatement_107 (fun H locs hw => ?_)
        refine lv_aload_n hx hb dX5_parseStatement_108 rfl (lv_at hl 0 rfl) ?_
        refine q_get (C := RX5) (T := TX5) (N := 13) (ci := 5) E (fun w h => List.mem_cons_of_mem _ (inX5 w h)) hw 0 rfl rfl 4 (by decide) (List.mem_cons_of_mem _ tb_401) (v := .ref (z 64)) rfl dX5_parseStatement_109 ?_
        refine lv_iload_n hx hb dX5_parseStatement_112 rfl (lv_at hl 1 rfl) ?_
        refine q_zld E hw 3 (n := 40) rfl g6 (x := ((up p3 64 (ix x1) (vp_nar .boolean 0)) 64 (ix x1))) rfl dX5_parseStatement_113 ?_
        refine lv_if_eq (tgt := 121) hx hb dX5_parseStatement_114 (by decide) (fun c7 => ?_) (fun c7 => ?_)
        · replace hM := i_pos hM c7
          exact s_X5_parseStatement_121 l D cA tS A z F N E _ _ _ hM _ _ hw _ (lv_sub hl [0] rfl)
        · replace hM := i_neg hM c7
          refine lv_aload_n hx hb dX5_parseStatement_117 rfl (lv_at hl 0 rfl) ?_
          obtain ⟨p8, h9, hM⟩ := b_some hM
          refine q_cvv (As := []) (rest := []) E hw hl (c_X5_readToken l D cA tS A z F N (up p3 64 (ix x1) (vp_nar .boolean 0)) p8 h9) 0 (bwV bw_c tb_994 tb_996 tb_36 tb_110 tb_997) rfl (by decide +kernel) ⟨Nat.le_of_ble_eq_true rfl, Nat.le_of_ble_eq_true rfl⟩ 0 5 (T := TX5) (N := 13) rfl rfl rfl rfl (Nat.le_of_ble_eq_true rfl) ⟨Nat.zero_le _, Nat.zero_le _⟩ dX5_parseStatement_118 (fun H locs hw => ?_)
          exact s_X5_parseStatement_121 l D cA tS A z F N E _ _ _ hM _ _ hw _ (lv_sub hl [0] rfl)
      · replace hM := i_pos hM c5
        refine lv_aload_n hx hb dX5_parseStatement_93 rfl (lv_at hl 0 rfl) ?_
        refine va_ldcS hx hb E.1.2.2.2.1 (E.2.2.2.2.2.2.2.2.1 (RX5, 75, "always", 0) (by decide +kernel)) dX5_parseStatement_94 ?_
        obtain ⟨p10, h11, hM⟩ := b_some hM
        refine q_cv (As := [.ref (adK tS 0)]) (rest := [.int x1, .ref (z 64)]) E hw hl (c_X5_isWord l D cA tS A z F N 0 p3 p10 h11) 1 (bwV bw_c tb_1038 tb_1040 tb_40 tb_110 tb_1041) rfl (by decide +kernel) ⟨Nat.le_of_ble_eq_true rfl, Nat.le_of_ble_eq_true rfl⟩ 0 5 (T := TX5) (N := 13) rfl rfl rfl rfl (Nat.le_of_ble_eq_true rfl) ⟨Nat.zero_le _, Nat.zero_le _⟩ dX5_parseStatement_96 (fun H locs hw => ?_)
        refine lv_if_eq (tgt := 106) hx hb dX5_parseStatement_99 (by decide) (fun c12 => ?_) (fun c12 => ?_)
        · replace hM := i_pos hM c12
          refine lv_iconst (v := 0) hx hb dX5_parseStatement_106 (by decide) ?_
          obtain ⟨g13, hM⟩ := g_some hM
          refine q_zst E hw 3 (n := 40) rfl g13 (wSc cA z (up p3 64 (ix x1) (vp_nar .boolean 0)) ++ (wR cA z (up p3 64 (ix x1) (vp_nar .boolean 0)) ++ F)) st_Sc_R_64 dX5_parseStatement_107 (fun H locs hw => ?_)
          refine lv_aload_n hx hb dX5_parseStatement_108 rfl (lv_at hl 0 rfl) ?_
          refine q_get (C := RX5) (T := TX5) (N := 13) (ci := 5) E (fun w h => List.mem_cons_of_mem _ (inX5 w h)) hw 0 rfl rfl 4 (by decide) (List.mem_cons_of_mem _ tb_401) (v := .ref (z 64)) rfl dX5_parseStatement_109 ?_
          refine lv_iload_n hx hb dX5_parseStatement_112 rfl (lv_at hl 1 rfl) ?_
          refine q_zld E hw 3 (n := 40) rfl g13 (x := ((up p3 64 (ix x1) (vp_nar .boolean 0)) 64 (ix x1))) rfl dX5_parseStatement_113 ?_
          refine lv_if_eq (tgt := 121) hx hb dX5_parseStatement_114 (by decide) (fun c14 => ?_) (fun c14 => ?_)
          · replace hM := i_pos hM c14
            exact s_X5_parseStatement_121 l D cA tS A z F N E _ _ _ hM _ _ hw _ (lv_sub hl [0] rfl)
          · replace hM := i_neg hM c14
            refine lv_aload_n hx hb dX5_parseStatement_117 rfl (lv_at hl 0 rfl) ?_
            obtain ⟨p15, h16, hM⟩ := b_some hM
            refine q_cvv (As := []) (rest := []) E hw hl (c_X5_readToken l D cA tS A z F N (up p3 64 (ix x1) (vp_nar .boolean 0)) p15 h16) 0 (bwV bw_c tb_994 tb_996 tb_36 tb_110 tb_997) rfl (by decide +kernel) ⟨Nat.le_of_ble_eq_true rfl, Nat.le_of_ble_eq_true rfl⟩ 0 5 (T := TX5) (N := 13) rfl rfl rfl rfl (Nat.le_of_ble_eq_true rfl) ⟨Nat.zero_le _, Nat.zero_le _⟩ dX5_parseStatement_118 (fun H locs hw => ?_)
            exact s_X5_parseStatement_121 l D cA tS A z F N E _ _ _ hM _ _ hw _ (lv_sub hl [0] rfl)
        · replace hM := i_neg hM c12
          refine lv_iconst (v := 1) hx hb dX5_parseStatement_102 (by decide) ?_
          refine lv_goto (tgt := 107) hx hb dX5_parseStatement_103 (by decide) ?_
          obtain ⟨g17, hM⟩ := g_some hM
          refine q_zst E hw 3 (n := 40) rfl g17 (wSc cA z (up p3 64 (ix x1) (vp_nar .boolean 1)) ++ (wR cA z (up p3 64 (ix x1) (vp_nar .boolean 1)) ++ F)) st_Sc_R_64 dX5_parseStatement_107 (fun H locs hw => ?_)
          refine lv_aload_n hx hb dX5_parseStatement_108 rfl (lv_at hl 0 rfl) ?_
          refine q_get (C := RX5) (T := TX5) (N := 13) (ci := 5) E (fun w h => List.mem_cons_of_mem _ (inX5 w h)) hw 0 rfl rfl 4 (by decide) (List.mem_cons_of_mem _ tb_401) (v := .ref (z 64)) rfl dX5_parseStatement_109 ?_
          refine lv_iload_n hx hb dX5_parseStatement_112 rfl (lv_at hl 1 rfl) ?_
          refine q_zld E hw 3 (n := 40) rfl g17 (x := ((up p3 64 (ix x1) (vp_nar .boolean 1)) 64 (ix x1))) rfl dX5_parseStatement_113 ?_
          refine lv_if_eq (tgt := 121) hx hb dX5_parseStatement_114 (by decide) (fun c18 => ?_) (fun c18 => ?_)
          · replace hM := i_pos hM c18
            exact s_X5_parseStatement_121 l D cA tS A z F N E _ _ _ hM _ _ hw _ (lv_sub hl [0] rfl)
          · replace hM := i_neg hM c18
            refine lv_aload_n hx hb dX5_parseStatement_117 rfl (lv_at hl 0 rfl) ?_
            obtain ⟨p19, h20, hM⟩ := b_some hM
            refine q_cvv (As := []) (rest := []) E hw hl (c_X5_readToken l D cA tS A z F N (up p3 64 (ix x1) (vp_nar .boolean 1)) p19 h20) 0 (bwV bw_c tb_994 tb_996 tb_36 tb_110 tb_997) rfl (by decide +kernel) ⟨Nat.le_of_ble_eq_true rfl, Nat.le_of_ble_eq_true rfl⟩ 0 5 (T := TX5) (N := 13) rfl rfl rfl rfl (Nat.le_of_ble_eq_true rfl) ⟨Nat.zero_le _, Nat.zero_le _⟩ dX5_parseStatement_118 (fun H locs hw => ?_)
            exact s_X5_parseStatement_121 l D cA tS A z F N E _ _ _ hM _ _ hw _ (lv_sub hl [0] rfl)
    · replace hM := i_neg hM c2
      refine lv_aload_n hx hb dX5_parseStatement_32 rfl (lv_at hl 0 rfl) ?_
      obtain ⟨p21, h22, hM⟩ := b_some hM
      refine q_cvv (As := []) (rest := []) E hw hl (c_X5_readToken l D cA tS A z F N κ p21 h22) 0 (bwV bw_c tb_994 tb_996 tb_36 tb_110 tb_997) rfl (by decide +kernel) ⟨Nat.le_of_ble_eq_true rfl, Nat.le_of_ble_eq_true rfl⟩ 0 5 (T := TX5) (N := 13) rfl rfl rfl rfl (Nat.le_of_ble_eq_true rfl) ⟨Nat.zero_le _, Nat.zero_le _⟩ dX5_parseStatement_33 (fun H locs hw => ?_)
      refine lv_aload_n hx hb dX5_parseStatement_36 rfl (lv_at hl 0 rfl) ?_
      refine q_get (C := RX5) (T := TX5) (N := 13) (ci := 5) E (fun w h => List.mem_cons_of_mem _ (inX5 w h)) hw 0 rfl rfl 9 (by decide) (List.mem_cons_of_mem _ tb_410) (v := .int (p21 8 0)) rfl dX5_parseStatement_37 ?_
      refine lv_iconst (v := 2) hx hb dX5_parseStatement_40 (by decide) ?_
      refine lv_icmp_eq (tgt := 50) hx hb dX5_parseStatement_41 (by decide) (fun c23 => ?_) (fun c23 => ?_)
      · replace hM := i_pos hM c23
        refine lv_aload_n hx hb dX5_parseStatement_50 rfl (lv_at hl 0 rfl) ?_
        refine q_get (C := RX5) (T := TX5) (N := 13) (ci := 5) E (fun w h => List.mem_cons_of_mem _ (inX5 w h)) hw 0 rfl rfl 12 (by decide) (List.mem_cons_of_mem _ tb_413) (v := .int (p21 11 0)) rfl dX5_parseStatement_51 ?_
        refine lv_ldc (v := 99999) hx hb E.1.2.2.2.1 (E.1.2.2.2.2 _ (List.mem_cons_of_mem _ tb_1101)) dX5_parseStatement_54 ?_
        refine lv_icmp_le (tgt := 65) hx hb dX5_parseStatement_56 (by decide) (fun c24 => ?_) (fun c24 => ?_)
        · replace hM := i_pos hM c24
          refine lv_aload_n hx hb dX5_parseStatement_65 rfl (lv_at hl 3 rfl) ?_
          refine lv_iload hx hb dX5_parseStatement_66 (lv_at hl 4 rfl) ?_
          refine lv_aload_n hx hb dX5_parseStatement_68 rfl (lv_at hl 0 rfl) ?_
          refine q_get (C := RX5) (T := TX5) (N := 13) (ci := 5) E (fun w h => List.mem_cons_of_mem _ (inX5 w h)) hw 0 rfl rfl 12 (by decide) (List.mem_cons_of_mem _ tb_413) (v := .int (p21 11 0)) rfl dX5_parseStatement_69 ?_
          have hw : Wd D A (wR cA z p21 ++ (wSc cA z p21 ++ F)) s.heap _ _ := hw.perm (List.perm_append_comm_assoc _ _ _)
          obtain ⟨g25, hM⟩ := g_some hM
          obtain ⟨g26, hM⟩ := g_some hM
          refine q_ast E hw (ix x1) (n := 5) (row_at (ib_lt g25)) g26 (wR cA z (up p21 65 (5 * (ix x1) + (ix x4)) (p21 11 0)) ++ (wSc cA z (up p21 65 (5 * (ix x1) + (ix x4)) (p21 11 0)) ++ F)) (st_row (ib_lt g25) (ib_lt g26)) dX5_parseStatement_72 (fun H locs hw => ?_)
          refine lv_iinc (v := (x4 + 1)) (lv' := [(4, .int (x4 + 1)), (0, .ref (z 60)), (1, .int x1), (2, .int x2), (3, .ref (z (100 + (ix x1))))]) hx hb dX5_parseStatement_73 hl (k := 4) rfl rfl (by decide) rfl (fun ls hl => ?_)
          refine lv_goto (tgt := 22) hx hb dX5_parseStatement_76 (by decide) ?_
          have hw : Wd D A (wSc cA z (up p21 65 (5 * (ix x1) + (ix x4)) (p21 11 0)) ++ (wR cA z (up p21 65 (5 * (ix x1) + (ix x4)) (p21 11 0)) ++ F)) s.heap _ _ := hw.perm (List.perm_append_comm_assoc _ _ _)
          exact ih _ _ _ _ _ _ hM _ _ hw _ (lv_sub hl [1, 2, 3, 4, 0] rfl)
        · replace hM := i_neg hM c24
          refine lv_aload_n hx hb dX5_parseStatement_59 rfl (lv_at hl 0 rfl) ?_
          refine lv_iconst (v := 2) hx hb dX5_parseStatement_60 (by decide) ?_
          obtain ⟨p27, h28, hM⟩ := b_some hM
          refine q_cv (As := [.int 2]) (rest := []) E hw hl (c_X5_fail l D cA tS A z F 2 p21 p27.1 p27.2 h28) 1 (bwV bw_c tb_1090 tb_1092 tb_41 tb_110 tb_1093) rfl (by decide +kernel) ⟨Nat.le_of_ble_eq_true rfl, Nat.le_of_ble_eq_true rfl⟩ 0 5 (T := TX5) (N := 13) rfl rfl rfl rfl (Nat.le_of_ble_eq_true rfl) ⟨Nat.zero_le _, Nat.zero_le _⟩ dX5_parseStatement_61 (fun H locs hw => ?_)
          obtain ⟨g29, hM⟩ := g_some hM
          cases hM
          exact q_retz E hw g29 dX5_parseStatement_64
      · replace hM := i_neg hM c23
        refine lv_aload_n hx hb dX5_parseStatement_44 rfl (lv_at hl 0 rfl) ?_
        refine lv_iconst (v := 1) hx hb dX5_parseStatement_45 (by decide) ?_
        obtain ⟨p30, h31, hM⟩ := b_some hM
        refine q_cv (As := [.int 1]) (rest := []) E hw hl (c_X5_fail l D cA tS A z F 1 p21 p30.1 p30.2 h31) 1 (bwV bw_c tb_1090 tb_1092 tb_41 tb_110 tb_1093) rfl (by decide +kernel) ⟨Nat.le_of_ble_eq_true rfl, Nat.le_of_ble_eq_true rfl⟩ 0 5 (T := TX5) (N := 13) rfl rfl rfl rfl (Nat.le_of_ble_eq_true rfl) ⟨Nat.zero_le _, Nat.zero_le _⟩ dX5_parseStatement_46 (fun H locs hw => ?_)
        obtain ⟨g32, hM⟩ := g_some hM
        cases hM
        exact q_retz E hw g32 dX5_parseStatement_49
set_option maxRecDepth 100000 in
set_option maxHeartbeats 4000000 in
theorem c_X5_parseStatement (l : Launch) (D : va_G) (cA : Nat → ClassId) (tS : Nat → Nat) (A : Nat → Prop) (z : Nat → Nat) (F : va_W) (N : Nat) (x1 : Int32) (x2 : Int32) (κ : Sg) (r0 : Int32) (s0 : Sg) (hM : f_X5_parseStatement N x1 x2 κ = some (r0, s0)) : Ct l yX5_parseStatement (Cond.code yX5_parseStatement cX5_parseStatement 5 (some .boolean) :: bw) 5 107 D cA tS A [.ref (z 60), .int x1, .int x2] (wSc cA z κ ++ (wR cA z κ ++ F)) (some (.int r0)) (wSc cA z s0 ++ (wR cA z s0 ++ F)) := by
  refine ct_of (by decide +kernel) (Nat.le_of_ble_eq_true rfl) ?_
  intro p e s m below meth c E hw ls hl
  replace E : Ev p cX5_parseStatement 5 (some .boolean) RX5 (Cond.code yX5_parseStatement cX5_parseStatement 5 (some .boolean) :: bw) D cA tS A s m _ meth c := E
  replace hl : lv_has ls 5 [(0, .ref (z 60)), (1, .int x1), (2, .int x2)] := hl
  have hx := E.1.1
  have hb := E.1.2.1
  unfold f_X5_parseStatement at hM
  refine lv_aload_n hx hb dX5_parseStatement_0 rfl (lv_at hl 0 rfl) ?_
  refine q_get (C := RX5) (T := TX5) (N := 13) (ci := 5) E (fun w h => List.mem_cons_of_mem _ (inX5 w h)) hw 0 rfl rfl 2 (by decide) (List.mem_cons_of_mem _ tb_397) (v := .ref (z 62)) rfl dX5_parseStatement_1 ?_
  refine lv_iload_n hx hb dX5_parseStatement_4 rfl (lv_at hl 1 rfl) ?_
  refine lv_iload_n hx hb dX5_parseStatement_5 rfl (lv_at hl 2 rfl) ?_
  obtain ⟨g1, hM⟩ := g_some hM
  refine q_ast E hw 2 (n := 40) rfl g1 (wSc cA z (up κ 62 (ix x1) x2) ++ (wR cA z (up κ 62 (ix x1) x2) ++ F)) st_Sc_R_62 dX5_parseStatement_6 (fun H locs hw => ?_)
  refine lv_aload_n hx hb dX5_parseStatement_7 rfl (lv_at hl 0 rfl) ?_
  refine q_get (C := RX5) (T := TX5) (N := 13) (ci := 5) E (fun w h => List.mem_cons_of_mem _ (inX5 w h)) hw 0 rfl rfl 3 (by decide) (List.mem_cons_of_mem _ tb_399) (v := .ref (z 63)) rfl dX5_parseStatement_8 ?_
  refine lv_iload_n hx hb dX5_parseStatement_11 rfl (lv_at hl 1 rfl) ?_
  refine q_row E hw 4 rfl g1 dX5_parseStatement_12 ?_
  refine lv_astore_n (lv' := [(3, .ref (z (100 + (ix x1)))), (0, .ref (z 60)), (1, .int x1), (2, .int x2)]) hx hb dX5_parseStatement_13 rfl hl (by decide) rfl (fun ls hl => ?_)
  refine lv_aload_n hx hb dX5_parseStatement_14 rfl (lv_at hl 0 rfl) ?_
  refine lv_iconst (v := 0) hx hb dX5_parseStatement_15 (by decide) ?_
  have hw : Wd D A (wR cA z (up κ 62 (ix x1) x2) ++ (wSc cA z (up κ 62 (ix x1) x2) ++ F)) s.heap _ _ := hw.perm (List.perm_append_comm_assoc _ _ _)
  refine q_csv (As := [.ref (z (100 + (ix x1))), .int 0]) (rest := []) E hw hl (c_fill l D cA tS A (wR cA z (up κ 62 (ix x1) x2) ++ (wSc cA z (up κ 62 (ix x1) x2) ++ F)) (ix x1) (row_at (ib_lt g1)) (by decide) 0 (w' := (wR cA z (upr (up κ 62 (ix x1) x2) 65 (rowfill (ix x1) 0 ((up κ 62 (ix x1) x2) 65))) ++ (wSc cA z (upr (up κ 62 (ix x1) x2) 65 (rowfill (ix x1) 0 ((up κ 62 (ix x1) x2) 65))) ++ F))) (st_rowfill (ib_lt g1))) 2 (bwS bw_c tb_1098 tb_312 tb_108 tb_313) rfl (by decide +kernel) ⟨Nat.le_of_ble_eq_true rfl, Nat.le_of_ble_eq_true rfl⟩ rfl rfl (Nat.le_of_ble_eq_true rfl) ⟨Nat.zero_le _, Nat.zero_le _⟩ dX5_parseStatement_16 (fun H locs hw => ?_)
  refine lv_iconst (v := 0) hx hb dX5_parseStatement_19 (by decide) ?_
  refine lv_istore (lv' := [(4, .int 0), (3, .ref (z (100 + (ix x1)))), (0, .ref (z 60)), (1, .int x1), (2, .int x2)]) hx hb dX5_parseStatement_20 hl (by decide) rfl (fun ls hl => ?_)
  have hw : Wd D A (wSc cA z (upr (up κ 62 (ix x1) x2) 65 (rowfill (ix x1) 0 ((up κ 62 (ix x1) x2) 65))) ++ (wR cA z (upr (up κ 62 (ix x1) x2) 65 (rowfill (ix x1) 0 ((up κ 62 (ix x1) x2) 65))) ++ F)) s.heap _ _ := hw.perm (List.perm_append_comm_assoc _ _ _)
  exact s_X5_parseStatement_22 l D cA tS A z F N E N _ _ _ _ _ _ hM _ _ hw _ (lv_sub hl [2, 3, 4, 1, 0] rfl)
set_option maxRecDepth 100000 in
set_option maxHeartbeats 4000000 in
theorem s_X5_parse_17 (l : Launch) (D : va_G) (cA : Nat → ClassId) (tS : Nat → Nat) (A : Nat → Prop) (z : Nat → Nat) (F : va_W) (N : Nat) {p : Program} {e : Env} {s : State} {m : MethodId} {args : Array Value} {below : List Frame} {meth : Method} {c : Code} (E : Ev p cX5_parse 3 (some .boolean) RX5 (Cond.code yX5_parse cX5_parse 3 (some .boolean) :: bw) D cA tS A s m args meth c) : ∀ (n : Nat) (x1 : Int32) (κ : Sg) (r0 : Int32) (s0 : Sg) (hM : f_X5_parse_17 N n x1 κ = some (r0, s0)) (H : Heap) (locs : List Loc) (hw : Wd D A (wSc cA z κ ++ (wR cA z κ ++ F)) s.heap H locs) (ls : Array Slot) (hl : lv_has ls 3 [(0, .ref (z 60)), (1, .int x1)]), W p l e ({ frames := 6, cells := 0, slots := 0, locals := 131 } : Room) s m args below meth c H locs 0 0 (MQ below (QW D A (some (.int r0)) (wSc cA z s0 ++ (wR cA z s0 ++ F))) args s 0 0 A) (F0 m 17 ls []) := by
  have hx := E.1.1
  have hb := E.1.2.1
  intro n
  induction n with
  | zero =>
    intro x1 κ r0 s0 hM
    cases hM
  | succ n ih =>
    intro x1 κ r0 s0 hM H locs hw ls hl
    rw [f_X5_parse_17] at hM
    refine lv_iload_n hx hb dX5_parse_17 rfl (lv_at hl 1 rfl) ?_
    refine lv_bipush (v := 40) hx hb dX5_parse_18 (by decide) ?_
    refine lv_icmp_gt (tgt := 86) hx hb dX5_parse_20 (by decide) (fun c1 => ?_) (fun c1 => ?_)
    · replace hM := i_pos hM c1
      refine lv_iconst (v := 0) hx hb dX5_parse_86 (by decide) ?_
      cases hM
      exact q_retz E hw (by decide) dX5_parse_87
    · replace hM := i_neg hM c1
      refine lv_aload_n hx hb dX5_parse_23 rfl (lv_at hl 0 rfl) ?_
      refine lv_iload_n hx hb dX5_parse_24 rfl (lv_at hl 1 rfl) ?_
      refine q_puti (C := RX5) (T := TX5) (N := 13) (ci := 5) E (fun w h => List.mem_cons_of_mem _ (inX5 w h)) tyX5 tyX5_ok nmX5 hw 0 rfl rfl 5 (by decide) (List.mem_cons_of_mem _ tb_403) rfl rfl (Nat.le_of_ble_eq_true rfl) (wSc cA z (up κ 4 0 x1) ++ (wR cA z (up κ 4 0 x1) ++ F)) st_Sc_R_4 dX5_parse_25 (fun H locs hw => ?_)
      refine lv_aload_n hx hb dX5_parse_28 rfl (lv_at hl 0 rfl) ?_
      obtain ⟨p2, h3, hM⟩ := b_some hM
      refine q_cvv (As := []) (rest := []) E hw hl (c_X5_readToken l D cA tS A z F N (up κ 4 0 x1) p2 h3) 0 (bwV bw_c tb_994 tb_996 tb_36 tb_110 tb_997) rfl (by decide +kernel) ⟨Nat.le_of_ble_eq_true rfl, Nat.le_of_ble_eq_true rfl⟩ 0 5 (T := TX5) (N := 13) rfl rfl rfl rfl (Nat.le_of_ble_eq_true rfl) ⟨Nat.zero_le _, Nat.zero_le _⟩ dX5_parse_29 (fun H locs hw => ?_)
      refine lv_aload_n hx hb dX5_parse_32 rfl (lv_at hl 0 rfl) ?_
      refine q_get (C := RX5) (T := TX5) (N := 13) (ci := 5) E (fun w h => List.mem_cons_of_mem _ (inX5 w h)) hw 0 rfl rfl 9 (by decide) (List.mem_cons_of_mem _ tb_410) (v := .int (p2 8 0)) rfl dX5_parse_33 ?_
      refine lv_if_ne (tgt := 41) hx hb dX5_parse_36 (by decide) (fun c4 => ?_) (fun c4 => ?_)
      · replace hM := i_neg hM c4
        refine lv_aload_n hx hb dX5_parse_41 rfl (lv_at hl 0 rfl) ?_
        obtain ⟨p5, h6, hM⟩ := b_some hM
        refine q_cv (As := []) (rest := []) E hw hl (c_X5_verbOfToken l D cA tS A z F N p2 p5 h6) 0 (bwV bw_c tb_1017 tb_1019 tb_39 tb_110 tb_1020) rfl (by decide +kernel) ⟨Nat.le_of_ble_eq_true rfl, Nat.le_of_ble_eq_true rfl⟩ 0 5 (T := TX5) (N := 13) rfl rfl rfl rfl (Nat.le_of_ble_eq_true rfl) ⟨Nat.zero_le _, Nat.zero_le _⟩ dX5_parse_42 (fun H locs hw => ?_)
        refine lv_istore_n (lv' := [(2, .int p5), (0, .ref (z 60)), (1, .int x1)]) hx hb dX5_parse_45 rfl hl (by decide) rfl (fun ls hl => ?_)
        refine lv_iload_n hx hb dX5_parse_46 rfl (lv_at hl 0 rfl) ?_
        refine lv_iconst (v := (-1)) hx hb dX5_parse_47 (by decide) ?_
        refine lv_icmp_ne (tgt := 57) hx hb dX5_parse_48 (by decide) (fun c7 => ?_) (fun c7 => ?_)
        · replace hM := i_neg hM c7
          refine lv_iload_n hx hb dX5_parse_57 rfl (lv_at hl 2 rfl) ?_
          refine lv_bipush (v := 40) hx hb dX5_parse_58 (by decide) ?_
          refine lv_icmp_ne (tgt := 69) hx hb dX5_parse_60 (by decide) (fun c8 => ?_) (fun c8 => ?_)
          · replace hM := i_neg hM c8
            refine lv_aload_n hx hb dX5_parse_69 rfl (lv_at hl 1 rfl) ?_
            refine lv_iload_n hx hb dX5_parse_70 rfl (lv_at hl 2 rfl) ?_
            refine lv_iload_n hx hb dX5_parse_71 rfl (lv_at hl 0 rfl) ?_
            obtain ⟨p9, h10, hM⟩ := b_some hM
            refine q_cv (As := [.int x1, .int p5]) (rest := []) E hw hl (c_X5_parseStatement l D cA tS A z F N x1 p5 p2 p9.1 p9.2 h10) 2 (bwV bw_c tb_1094 tb_1096 tb_42 tb_110 tb_1097) rfl (by decide +kernel) ⟨Nat.le_of_ble_eq_true rfl, Nat.le_of_ble_eq_true rfl⟩ 0 5 (T := TX5) (N := 13) rfl rfl rfl rfl (Nat.le_of_ble_eq_true rfl) ⟨Nat.zero_le _, Nat.zero_le _⟩ dX5_parse_72 (fun H locs hw => ?_)
            refine lv_if_ne (tgt := 80) hx hb dX5_parse_75 (by decide) (fun c11 => ?_) (fun c11 => ?_)
            · replace hM := i_neg hM c11
              refine lv_iinc (v := (x1 + 1)) (lv' := [(1, .int (x1 + 1)), (2, .int p5), (0, .ref (z 60))]) hx hb dX5_parse_80 hl (k := 2) rfl rfl (by decide) rfl (fun ls hl => ?_)
              refine lv_goto (tgt := 17) hx hb dX5_parse_83 (by decide) ?_
              exact ih _ _ _ _ hM _ _ hw _ (lv_sub hl [2, 0] rfl)
            · replace hM := i_pos hM c11
              refine lv_iconst (v := 0) hx hb dX5_parse_78 (by decide) ?_
              cases hM
              exact q_retz E hw (by decide) dX5_parse_79
          · replace hM := i_pos hM c8
            refine lv_aload_n hx hb dX5_parse_63 rfl (lv_at hl 1 rfl) ?_
            refine lv_iconst (v := 3) hx hb dX5_parse_64 (by decide) ?_
            obtain ⟨p12, h13, hM⟩ := b_some hM
            refine q_cv (As := [.int 3]) (rest := []) E hw hl (c_X5_fail l D cA tS A z F 3 p2 p12.1 p12.2 h13) 1 (bwV bw_c tb_1090 tb_1092 tb_41 tb_110 tb_1093) rfl (by decide +kernel) ⟨Nat.le_of_ble_eq_true rfl, Nat.le_of_ble_eq_true rfl⟩ 0 5 (T := TX5) (N := 13) rfl rfl rfl rfl (Nat.le_of_ble_eq_true rfl) ⟨Nat.zero_le _, Nat.zero_le _⟩ dX5_parse_65 (fun H locs hw => ?_)
            obtain ⟨g14, hM⟩ := g_some hM
            cases hM
            exact q_retz E hw g14 dX5_parse_68
        · replace hM := i_pos hM c7
          refine lv_aload_n hx hb dX5_parse_51 rfl (lv_at hl 1 rfl) ?_
          refine lv_iconst (v := 1) hx hb dX5_parse_52 (by decide) ?_
          obtain ⟨p15, h16, hM⟩ := b_some hM
          refine q_cv (As := [.int 1]) (rest := []) E hw hl (c_X5_fail l D cA tS A z F 1 p2 p15.1 p15.2 h16) 1 (bwV bw_c tb_1090 tb_1092 tb_41 tb_110 tb_1093) rfl (by decide +kernel) ⟨Nat.le_of_ble_eq_true rfl, Nat.le_of_ble_eq_true rfl⟩ 0 5 (T := TX5) (N := 13) rfl rfl rfl rfl (Nat.le_of_ble_eq_true rfl) ⟨Nat.zero_le _, Nat.zero_le _⟩ dX5_parse_53 (fun H locs hw => ?_)
          obtain ⟨g17, hM⟩ := g_some hM
          cases hM
          exact q_retz E hw g17 dX5_parse_56
      · replace hM := i_pos hM c4
        refine lv_iconst (v := 1) hx hb dX5_parse_39 (by decide) ?_
        cases hM
        exact q_retz E hw (by decide) dX5_parse_40
set_option maxRecDepth 100000 in
set_option maxHeartbeats 4000000 in
theorem c_X5_parse (l : Launch) (D : va_G) (cA : Nat → ClassId) (tS : Nat → Nat) (A : Nat → Prop) (z : Nat → Nat) (F : va_W) (N : Nat) (κ : Sg) (r0 : Int32) (s0 : Sg) (hM : f_X5_parse N κ = some (r0, s0)) : Ct l yX5_parse (Cond.code yX5_parse cX5_parse 3 (some .boolean) :: bw) 6 131 D cA tS A [.ref (z 60)] (wSc cA z κ ++ (wR cA z κ ++ F)) (some (.int r0)) (wSc cA z s0 ++ (wR cA z s0 ++ F)) := by
  refine ct_of (by decide +kernel) (Nat.le_of_ble_eq_true rfl) ?_
  intro p e s m below meth c E hw ls hl
  replace E : Ev p cX5_parse 3 (some .boolean) RX5 (Cond.code yX5_parse cX5_parse 3 (some .boolean) :: bw) D cA tS A s m _ meth c := E
  replace hl : lv_has ls 3 [(0, .ref (z 60))] := hl
  have hx := E.1.1
  have hb := E.1.2.1
  unfold f_X5_parse at hM
  refine lv_aload_n hx hb dX5_parse_0 rfl (lv_at hl 0 rfl) ?_
  refine lv_iconst (v := 0) hx hb dX5_parse_1 (by decide) ?_
  refine q_puti (C := RX5) (T := TX5) (N := 13) (ci := 5) E (fun w h => List.mem_cons_of_mem _ (inX5 w h)) tyX5 tyX5_ok nmX5 hw 0 rfl rfl 6 (by decide) (List.mem_cons_of_mem _ tb_405) rfl rfl (Nat.le_of_ble_eq_true rfl) (wSc cA z (up κ 5 0 0) ++ (wR cA z (up κ 5 0 0) ++ F)) st_Sc_R_5 dX5_parse_2 (fun H locs hw => ?_)
  refine lv_aload_n hx hb dX5_parse_5 rfl (lv_at hl 0 rfl) ?_
  refine lv_iconst (v := (-1)) hx hb dX5_parse_6 (by decide) ?_
  refine q_puti (C := RX5) (T := TX5) (N := 13) (ci := 5) E (fun w h => List.mem_cons_of_mem _ (inX5 w h)) tyX5 tyX5_ok nmX5 hw 0 rfl rfl 7 (by decide) (List.mem_cons_of_mem _ tb_407) rfl rfl (Nat.le_of_ble_eq_true rfl) (wSc cA z (up (up κ 5 0 0) 6 0 (-1)) ++ (wR cA z (up (up κ 5 0 0) 6 0 (-1)) ++ F)) st_Sc_R_6 dX5_parse_7 (fun H locs hw => ?_)
  refine lv_aload_n hx hb dX5_parse_10 rfl (lv_at hl 0 rfl) ?_
  refine lv_iconst (v := 0) hx hb dX5_parse_11 (by decide) ?_
  refine q_puti (C := RX5) (T := TX5) (N := 13) (ci := 5) E (fun w h => List.mem_cons_of_mem _ (inX5 w h)) tyX5 tyX5_ok nmX5 hw 0 rfl rfl 11 (by decide) (List.mem_cons_of_mem _ tb_412) rfl rfl (Nat.le_of_ble_eq_true rfl) (wSc cA z (up (up (up κ 5 0 0) 6 0 (-1)) 10 0 0) ++ (wR cA z (up (up (up κ 5 0 0) 6 0 (-1)) 10 0 0) ++ F)) st_Sc_R_10 dX5_parse_12 (fun H locs hw => ?_)
  refine lv_iconst (v := 0) hx hb dX5_parse_15 (by decide) ?_
  refine lv_istore_n (lv' := [(1, .int 0), (0, .ref (z 60))]) hx hb dX5_parse_16 rfl hl (by decide) rfl (fun ls hl => ?_)
  exact s_X5_parse_17 l D cA tS A z F N E N _ _ _ _ hM _ _ hw _ (lv_sub hl [1, 0] rfl)
set_option maxRecDepth 100000 in
set_option maxHeartbeats 4000000 in
theorem c_X6_copyFrom (l : Launch) (D : va_G) (cA : Nat → ClassId) (tS : Nat → Nat) (A : Nat → Prop) (h : Nat → Nat) (t : Nat → Nat) (L : Nat) (L2 : Nat) (F : va_W) (N : Nat) (σ : Sg) (τ : Sg) (s0 : Sg) (hM : f_X6_copyFrom N L L2 σ τ = some s0) : Ct l yX6_copyFrom (Cond.code yX6_copyFrom cX6_copyFrom 2 none :: bw) 3 95 D cA tS A [.ref (h 46), .ref (t 46)] (wK cA h σ ++ (wLg cA h σ L ++ (wC cA h σ ++ (wH cA h σ ++ (wS h ++ (wK cA t τ ++ (wLg cA t τ L2 ++ (wC cA t τ ++ (wH cA t τ ++ (wS t ++ F)))))))))) none (wK cA h s0 ++ (wLg cA h s0 L ++ (wC cA h s0 ++ (wH cA h s0 ++ (wS h ++ (wK cA t τ ++ (wLg cA t τ L2 ++ (wC cA t τ ++ (wH cA t τ ++ (wS t ++ F)))))))))) := by
  refine ct_of (by decide +kernel) (Nat.le_of_ble_eq_true rfl) ?_
  intro p e s m below meth c E hw ls hl
  replace E : Ev p cX6_copyFrom 2 none RX6 (Cond.code yX6_copyFrom cX6_copyFrom 2 none :: bw) D cA tS A s m _ meth c := E
  replace hl : lv_has ls 2 [(0, .ref (h 46)), (1, .ref (t 46))] := hl
  have hx := E.1.1
  have hb := E.1.2.1
  unfold f_X6_copyFrom at hM
  refine lv_aload_n hx hb dX6_copyFrom_0 rfl (lv_at hl 0 rfl) ?_
  refine q_get (C := RX6) (T := TX6) (N := 2) (ci := 6) E (fun w h => List.mem_cons_of_mem _ (inX6 w h)) hw 39 rfl rfl 0 (by decide) (List.mem_cons_of_mem _ tb_374) (v := .ref (h 42)) rfl dX6_copyFrom_1 ?_
  refine lv_aload_n hx hb dX6_copyFrom_4 rfl (lv_at hl 1 rfl) ?_
  refine q_get (C := RX6) (T := TX6) (N := 2) (ci := 6) E (fun w h => List.mem_cons_of_mem _ (inX6 w h)) hw 79 rfl rfl 0 (by decide) (List.mem_cons_of_mem _ tb_374) (v := .ref (t 42)) rfl dX6_copyFrom_5 ?_
  have hw : Wd D A (wK cA h σ ++ (wLg cA h σ L ++ (wC cA h σ ++ (wK cA t τ ++ (wH cA h σ ++ (wS h ++ (wLg cA t τ L2 ++ (wC cA t τ ++ (wH cA t τ ++ (wS t ++ F)))))))))) s.heap _ _ := hw.perm (List.Perm.append_left _ (List.Perm.append_left _ (List.Perm.append_left _ (((List.Perm.append_left _ (List.perm_append_comm_assoc _ _ _))).trans (List.perm_append_comm_assoc _ _ _)))))
  have hw : Wd D A (wK cA h σ ++ (wLg cA h σ L ++ (wC cA h σ ++ (wK cA t τ ++ (wLg cA t τ L2 ++ (wH cA h σ ++ (wS h ++ (wC cA t τ ++ (wH cA t τ ++ (wS t ++ F)))))))))) s.heap _ _ := hw.perm (List.Perm.append_left _ (List.Perm.append_left _ (List.Perm.append_left _ (List.Perm.append_left _ (((List.Perm.append_left _ (List.perm_append_comm_assoc _ _ _))).trans (List.perm_append_comm_assoc _ _ _))))))
  have hw : Wd D A (wK cA h σ ++ (wLg cA h σ L ++ (wC cA h σ ++ (wK cA t τ ++ (wLg cA t τ L2 ++ (wC cA t τ ++ (wH cA h σ ++ (wS h ++ (wH cA t τ ++ (wS t ++ F)))))))))) s.heap _ _ := hw.perm (List.Perm.append_left _ (List.Perm.append_left _ (List.Perm.append_left _ (List.Perm.append_left _ (List.Perm.append_left _ (((List.Perm.append_left _ (List.perm_append_comm_assoc _ _ _))).trans (List.perm_append_comm_assoc _ _ _)))))))
  obtain ⟨p1, h2, hM⟩ := b_some hM
  refine q_cvv (As := [.ref (t 42)]) (rest := []) E hw hl (c_X1_copyFrom l D cA tS A h t L L2 (wH cA h σ ++ (wS h ++ (wH cA t τ ++ (wS t ++ F)))) N σ τ p1 h2) 1 (bwV bw_c tb_1125 tb_895 tb_896 tb_101 tb_897) rfl (by decide +kernel) ⟨Nat.le_of_ble_eq_true rfl, Nat.le_of_ble_eq_true rfl⟩ 12 1 (T := TX1) (N := 6) rfl rfl rfl rfl (Nat.le_of_ble_eq_true rfl) ⟨Nat.zero_le _, Nat.zero_le _⟩ dX6_copyFrom_8 (fun H locs hw => ?_)
  have hw : Wd D A (wK cA h (mixKLgC p1 σ) ++ (wLg cA h (mixKLgC p1 σ) L ++ (wC cA h (mixKLgC p1 σ) ++ (wK cA t τ ++ (wLg cA t τ L2 ++ (wC cA t τ ++ (wH cA h (mixKLgC p1 σ) ++ (wS h ++ (wH cA t τ ++ (wS t ++ F)))))))))) s.heap _ _ := hw
  refine lv_aload_n hx hb dX6_copyFrom_11 rfl (lv_at hl 0 rfl) ?_
  refine q_get (C := RX6) (T := TX6) (N := 2) (ci := 6) E (fun w h => List.mem_cons_of_mem _ (inX6 w h)) hw 71 rfl rfl 1 (by decide) (List.mem_cons_of_mem _ tb_376) (v := .ref (h 45)) rfl dX6_copyFrom_12 ?_
  refine lv_aload_n hx hb dX6_copyFrom_15 rfl (lv_at hl 1 rfl) ?_
  refine q_get (C := RX6) (T := TX6) (N := 2) (ci := 6) E (fun w h => List.mem_cons_of_mem _ (inX6 w h)) hw 79 rfl rfl 1 (by decide) (List.mem_cons_of_mem _ tb_376) (v := .ref (t 45)) rfl dX6_copyFrom_16 ?_
  have hw : Wd D A (wH cA h (mixKLgC p1 σ) ++ (wK cA h (mixKLgC p1 σ) ++ (wLg cA h (mixKLgC p1 σ) L ++ (wC cA h (mixKLgC p1 σ) ++ (wK cA t τ ++ (wLg cA t τ L2 ++ (wC cA t τ ++ (wS h ++ (wH cA t τ ++ (wS t ++ F)))))))))) s.heap _ _ := hw.perm (((List.Perm.append_left _ (((List.Perm.append_left _ (((List.Perm.append_left _ (((List.Perm.append_left _ (((List.Perm.append_left _ (List.perm_append_comm_assoc _ _ _))).trans (List.perm_append_comm_assoc _ _ _)))).trans (List.perm_append_comm_assoc _ _ _)))).trans (List.perm_append_comm_assoc _ _ _)))).trans (List.perm_append_comm_assoc _ _ _)))).trans (List.perm_append_comm_assoc _ _ _))
  have hw : Wd D A (wH cA h (mixKLgC p1 σ) ++ (wH cA t τ ++ (wK cA h (mixKLgC p1 σ) ++ (wLg cA h (mixKLgC p1 σ) L ++ (wC cA h (mixKLgC p1 σ) ++ (wK cA t τ ++ (wLg cA t τ L2 ++ (wC cA t τ ++ (wS h ++ (wS t ++ F)))))))))) s.heap _ _ := hw.perm (List.Perm.append_left _ (((List.Perm.append_left _ (((List.Perm.append_left _ (((List.Perm.append_left _ (((List.Perm.append_left _ (((List.Perm.append_left _ (((List.Perm.append_left _ (List.perm_append_comm_assoc _ _ _))).trans (List.perm_append_comm_assoc _ _ _)))).trans (List.perm_append_comm_assoc _ _ _)))).trans (List.perm_append_comm_assoc _ _ _)))).trans (List.perm_append_comm_assoc _ _ _)))).trans (List.perm_append_comm_assoc _ _ _)))).trans (List.perm_append_comm_assoc _ _ _)))
  obtain ⟨p3, h4, hM⟩ := b_some hM
  refine q_cvv (As := [.ref (t 45)]) (rest := []) E hw hl (c_X2_copyFrom l D cA tS A h t (wK cA h (mixKLgC p1 σ) ++ (wLg cA h (mixKLgC p1 σ) L ++ (wC cA h (mixKLgC p1 σ) ++ (wK cA t τ ++ (wLg cA t τ L2 ++ (wC cA t τ ++ (wS h ++ (wS t ++ F)))))))) (mixKLgC p1 σ) τ p3 h4) 1 (bwV bw_c tb_1126 tb_1127 tb_1128 tb_109 tb_1129) rfl (by decide +kernel) ⟨Nat.le_of_ble_eq_true rfl, Nat.le_of_ble_eq_true rfl⟩ 0 2 (T := TX2) (N := 7) rfl rfl rfl rfl (Nat.le_of_ble_eq_true rfl) ⟨Nat.zero_le _, Nat.zero_le _⟩ dX6_copyFrom_19 (fun H locs hw => ?_)
  have hw : Wd D A (wH cA h (mixH p3 (mixKLgC p1 σ)) ++ (wH cA t τ ++ (wK cA h (mixH p3 (mixKLgC p1 σ)) ++ (wLg cA h (mixH p3 (mixKLgC p1 σ)) L ++ (wC cA h (mixH p3 (mixKLgC p1 σ)) ++ (wK cA t τ ++ (wLg cA t τ L2 ++ (wC cA t τ ++ (wS h ++ (wS t ++ F)))))))))) s.heap _ _ := hw
  have hw : Wd D A (wK cA h (mixH p3 (mixKLgC p1 σ)) ++ (wH cA h (mixH p3 (mixKLgC p1 σ)) ++ (wH cA t τ ++ (wLg cA h (mixH p3 (mixKLgC p1 σ)) L ++ (wC cA h (mixH p3 (mixKLgC p1 σ)) ++ (wK cA t τ ++ (wLg cA t τ L2 ++ (wC cA t τ ++ (wS h ++ (wS t ++ F)))))))))) s.heap _ _ := hw.perm (((List.Perm.append_left _ (List.perm_append_comm_assoc _ _ _))).trans (List.perm_append_comm_assoc _ _ _))
  have hw : Wd D A (wK cA h (mixH p3 (mixKLgC p1 σ)) ++ (wLg cA h (mixH p3 (mixKLgC p1 σ)) L ++ (wH cA h (mixH p3 (mixKLgC p1 σ)) ++ (wH cA t τ ++ (wC cA h (mixH p3 (mixKLgC p1 σ)) ++ (wK cA t τ ++ (wLg cA t τ L2 ++ (wC cA t τ ++ (wS h ++ (wS t ++ F)))))))))) s.heap _ _ := hw.perm (List.Perm.append_left _ (((List.Perm.append_left _ (List.perm_append_comm_assoc _ _ _))).trans (List.perm_append_comm_assoc _ _ _)))
  have hw : Wd D A (wK cA h (mixH p3 (mixKLgC p1 σ)) ++ (wLg cA h (mixH p3 (mixKLgC p1 σ)) L ++ (wC cA h (mixH p3 (mixKLgC p1 σ)) ++ (wH cA h (mixH p3 (mixKLgC p1 σ)) ++ (wH cA t τ ++ (wK cA t τ ++ (wLg cA t τ L2 ++ (wC cA t τ ++ (wS h ++ (wS t ++ F)))))))))) s.heap _ _ := hw.perm (List.Perm.append_left _ (List.Perm.append_left _ (((List.Perm.append_left _ (List.perm_append_comm_assoc _ _ _))).trans (List.perm_append_comm_assoc _ _ _))))
  have hw : Wd D A (wK cA h (mixH p3 (mixKLgC p1 σ)) ++ (wLg cA h (mixH p3 (mixKLgC p1 σ)) L ++ (wC cA h (mixH p3 (mixKLgC p1 σ)) ++ (wH cA h (mixH p3 (mixKLgC p1 σ)) ++ (wS h ++ (wH cA t τ ++ (wK cA t τ ++ (wLg cA t τ L2 ++ (wC cA t τ ++ (wS t ++ F)))))))))) s.heap _ _ := hw.perm (List.Perm.append_left _ (List.Perm.append_left _ (List.Perm.append_left _ (List.Perm.append_left _ (((List.Perm.append_left _ (((List.Perm.append_left _ (((List.Perm.append_left _ (List.perm_append_comm_assoc _ _ _))).trans (List.perm_append_comm_assoc _ _ _)))).trans (List.perm_append_comm_assoc _ _ _)))).trans (List.perm_append_comm_assoc _ _ _))))))
  have hw : Wd D A (wK cA h (mixH p3 (mixKLgC p1 σ)) ++ (wLg cA h (mixH p3 (mixKLgC p1 σ)) L ++ (wC cA h (mixH p3 (mixKLgC p1 σ)) ++ (wH cA h (mixH p3 (mixKLgC p1 σ)) ++ (wS h ++ (wK cA t τ ++ (wH cA t τ ++ (wLg cA t τ L2 ++ (wC cA t τ ++ (wS t ++ F)))))))))) s.heap _ _ := hw.perm (List.Perm.append_left _ (List.Perm.append_left _ (List.Perm.append_left _ (List.Perm.append_left _ (List.Perm.append_left _ (List.perm_append_comm_assoc _ _ _))))))
  have hw : Wd D A (wK cA h (mixH p3 (mixKLgC p1 σ)) ++ (wLg cA h (mixH p3 (mixKLgC p1 σ)) L ++ (wC cA h (mixH p3 (mixKLgC p1 σ)) ++ (wH cA h (mixH p3 (mixKLgC p1 σ)) ++ (wS h ++ (wK cA t τ ++ (wLg cA t τ L2 ++ (wH cA t τ ++ (wC cA t τ ++ (wS t ++ F)))))))))) s.heap _ _ := hw.perm (List.Perm.append_left _ (List.Perm.append_left _ (List.Perm.append_left _ (List.Perm.append_left _ (List.Perm.append_left _ (List.Perm.append_left _ (List.perm_append_comm_assoc _ _ _)))))))
  have hw : Wd D A (wK cA h (mixH p3 (mixKLgC p1 σ)) ++ (wLg cA h (mixH p3 (mixKLgC p1 σ)) L ++ (wC cA h (mixH p3 (mixKLgC p1 σ)) ++ (wH cA h (mixH p3 (mixKLgC p1 σ)) ++ (wS h ++ (wK cA t τ ++ (wLg cA t τ L2 ++ (wC cA t τ ++ (wH cA t τ ++ (wS t ++ F)))))))))) s.heap _ _ := hw.perm (List.Perm.append_left _ (List.Perm.append_left _ (List.Perm.append_left _ (List.Perm.append_left _ (List.Perm.append_left _ (List.Perm.append_left _ (List.Perm.append_left _ (List.perm_append_comm_assoc _ _ _))))))))
  cases hM
  exact q_retv E hw dX6_copyFrom_22
