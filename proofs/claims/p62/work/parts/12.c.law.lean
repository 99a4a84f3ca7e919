/-! the law: drawing, telling -/
def f_L_at  (tS : Nat → Nat) (kc : Nat)  (x1 : Int32) : Option (Int32) := (if (Int32.ofNat (tS 5)) ≤ x1 then some 0 else if ib x1 (tS 5) then (if (scN tS (ix x1)) ≤ 0 then some (scN tS (ix x1)) else (if 512 ≤ (scN tS (ix x1)) then some (scN tS (ix x1)) else some (((scN tS (ix x1)) * (-1640531535)) ^^^ (x1 * (-2048144789))))) else none)
set_option maxRecDepth 100000 in
set_option maxHeartbeats 4000000 in
theorem c_L_at (l : Launch) (D : va_G) (cA : Nat → ClassId) (tS : Nat → Nat) (A : Nat → Prop) (kc : Nat) (F : va_W) (x1 : Int32) (r0 : Int32) (hM : f_L_at tS kc x1 = some r0) : Ct l yL_at (Cond.code yL_at cL_at 3 (some .int) :: bw) 0 0 D cA tS A [.ref (tS 4), .int x1] F (some (.int r0)) F := by
  refine ct_of (by decide +kernel) (Nat.le_of_ble_eq_true rfl) ?_
  intro p e s m below meth c E hw ls hl
  replace E : Ev p cL_at 3 (some .int) RL (Cond.code yL_at cL_at 3 (some .int) :: bw) D cA tS A s m _ meth c := E
  replace hl : lv_has ls 3 [(0, .ref (tS 4)), (1, .int x1)] := hl
  have hx := E.1.1
  have hb := E.1.2.1
  unfold f_L_at at hM
  refine lv_iload_n hx hb dL_at_0 rfl (lv_at hl 1 rfl) ?_
  refine lv_aload_n hx hb dL_at_1 rfl (lv_at hl 0 rfl) ?_
  refine va_tlen hx hb (E.2.2.2.2.2.2.2) hw.2.2 (v := (Int32.ofNat (tS 5))) rfl dL_at_2 ?_
  refine lv_icmp_ge (tgt := 12) hx hb dL_at_3 (by decide) (fun c1 => ?_) (fun c1 => ?_)
  · replace hM := i_pos hM c1
    refine lv_iconst (v := 0) hx hb dL_at_12 (by decide) ?_
    refine lv_istore_n (lv' := [(2, .int 0), (0, .ref (tS 4)), (1, .int x1)]) hx hb dL_at_13 rfl hl (by decide) rfl (fun ls hl => ?_)
    refine lv_iload_n hx hb dL_at_14 rfl (lv_at hl 0 rfl) ?_
    refine lv_if_le (tgt := 37) hx hb dL_at_15 (by decide) (fun c2 => ?_) (fun c2 => ?_)
    · refine lv_iload_n hx hb dL_at_37 rfl (lv_at hl 0 rfl) ?_
      cases hM
      exact q_reti E hw dL_at_38
    · first | exact absurd (by decide) c2 | exact absurd c2 (by decide)
  · replace hM := i_neg hM c1
    refine lv_aload_n hx hb dL_at_6 rfl (lv_at hl 0 rfl) ?_
    refine lv_iload_n hx hb dL_at_7 rfl (lv_at hl 1 rfl) ?_
    obtain ⟨g3, hM⟩ := g_some hM
    refine va_ti hx hb (E.2.2.2.2.2.2.2) hw.2.2 g3 (v := .int (scN tS (ix x1))) rfl dL_at_8 ?_
    refine lv_goto (tgt := 13) hx hb dL_at_9 (by decide) ?_
    refine lv_istore_n (lv' := [(2, .int (scN tS (ix x1))), (0, .ref (tS 4)), (1, .int x1)]) hx hb dL_at_13 rfl hl (by decide) rfl (fun ls hl => ?_)
    refine lv_iload_n hx hb dL_at_14 rfl (lv_at hl 0 rfl) ?_
    refine lv_if_le (tgt := 37) hx hb dL_at_15 (by decide) (fun c4 => ?_) (fun c4 => ?_)
    · replace hM := i_pos hM c4
      refine lv_iload_n hx hb dL_at_37 rfl (lv_at hl 0 rfl) ?_
      cases hM
      exact q_reti E hw dL_at_38
    · replace hM := i_neg hM c4
      refine lv_iload_n hx hb dL_at_18 rfl (lv_at hl 0 rfl) ?_
      refine lv_sipush (v := 512) hx hb dL_at_19 (by decide) ?_
      refine lv_icmp_ge (tgt := 37) hx hb dL_at_22 (by decide) (fun c5 => ?_) (fun c5 => ?_)
      · replace hM := i_pos hM c5
        refine lv_iload_n hx hb dL_at_37 rfl (lv_at hl 0 rfl) ?_
        cases hM
        exact q_reti E hw dL_at_38
      · replace hM := i_neg hM c5
        refine lv_iload_n hx hb dL_at_25 rfl (lv_at hl 0 rfl) ?_
        refine lv_ldc (v := (-1640531535)) hx hb E.1.2.2.2.1 (E.1.2.2.2.2 _ (List.mem_cons_of_mem _ tb_441)) dL_at_26 ?_
        refine lv_imul hx hb dL_at_28 ?_
        refine lv_iload_n hx hb dL_at_29 rfl (lv_at hl 2 rfl) ?_
        refine lv_ldc (v := (-2048144789)) hx hb E.1.2.2.2.1 (E.1.2.2.2.2 _ (List.mem_cons_of_mem _ tb_442)) dL_at_30 ?_
        refine lv_imul hx hb dL_at_32 ?_
        refine lv_ixor hx hb dL_at_33 ?_
        refine lv_goto (tgt := 38) hx hb dL_at_34 (by decide) ?_
        cases hM
        exact q_reti E hw dL_at_38
def f_L_draw  (tS : Nat → Nat) (kc : Nat)  (x1 : Int32) (θ : Sg) : Option (Int32 × Sg) := if ¬ (if 1 < (Int32.ofNat (tS 5)) then (Int32.ofNat (tS 5)) else 1) = 0 then (f_L_at tS kc ((θ 70 0) - (((θ 70 0) / (if 1 < (Int32.ofNat (tS 5)) then (Int32.ofNat (tS 5)) else 1)) * (if 1 < (Int32.ofNat (tS 5)) then (Int32.ofNat (tS 5)) else 1)))).bind (fun p2 => if ¬ x1 = 0 then some (((((((p2 + ((θ 70 0) * 668265263)) ^^^ ((((p2 + ((θ 70 0) * 668265263)) : Int32).toUInt32 >>> ((15 : Int32).toUInt32 &&& Int32.toUInt32 31)).toInt32)) * 739982445) ^^^ ((((((p2 + ((θ 70 0) * 668265263)) ^^^ ((((p2 + ((θ 70 0) * 668265263)) : Int32).toUInt32 >>> ((15 : Int32).toUInt32 &&& Int32.toUInt32 31)).toInt32)) * 739982445) : Int32).toUInt32 >>> ((13 : Int32).toUInt32 &&& Int32.toUInt32 31)).toInt32)) &&& 2147483647) - (((((((p2 + ((θ 70 0) * 668265263)) ^^^ ((((p2 + ((θ 70 0) * 668265263)) : Int32).toUInt32 >>> ((15 : Int32).toUInt32 &&& Int32.toUInt32 31)).toInt32)) * 739982445) ^^^ ((((((p2 + ((θ 70 0) * 668265263)) ^^^ ((((p2 + ((θ 70 0) * 668265263)) : Int32).toUInt32 >>> ((15 : Int32).toUInt32 &&& Int32.toUInt32 31)).toInt32)) * 739982445) : Int32).toUInt32 >>> ((13 : Int32).toUInt32 &&& Int32.toUInt32 31)).toInt32)) &&& 2147483647) / x1) * x1)), (up θ 70 0 ((θ 70 0) + 1))) else none) else none
set_option maxRecDepth 100000 in
set_option maxHeartbeats 4000000 in
theorem c_L_draw (l : Launch) (D : va_G) (cA : Nat → ClassId) (tS : Nat → Nat) (A : Nat → Prop) (w : Nat → Nat) (ax : Nat) (kl : Nat) (kc : Nat) (F : va_W) (x1 : Int32) (θ : Sg) (r0 : Int32) (s0 : Sg) (hM : f_L_draw tS kc x1 θ = some (r0, s0)) : Ct l yL_draw (Cond.code yL_draw cL_draw 3 (some .int) :: bw) 1 22 D cA tS A [.ref (w 80), .int x1] (wLw tS ax kl w θ ++ F) (some (.int r0)) (wLw tS ax kl w s0 ++ F) := by
  refine ct_of (by decide +kernel) (Nat.le_of_ble_eq_true rfl) ?_
  intro p e s m below meth c E hw ls hl
  replace E : Ev p cL_draw 3 (some .int) RL (Cond.code yL_draw cL_draw 3 (some .int) :: bw) D cA tS A s m _ meth c := E
  replace hl : lv_has ls 3 [(0, .ref (w 80)), (1, .int x1)] := hl
  have hx := E.1.1
  have hb := E.1.2.1
  unfold f_L_draw at hM
  refine lv_aload_n hx hb dL_draw_0 rfl (lv_at hl 0 rfl) ?_
  refine q_get (C := RL) (T := TL) (N := 4) (ci := 10) E (fun w h => List.mem_cons_of_mem _ (inL w h)) hw 0 rfl rfl 1 (by decide) (List.mem_cons_of_mem _ tb_413) (v := .ref (tS 4)) rfl dL_draw_1 ?_
  refine lv_aload_n hx hb dL_draw_4 rfl (lv_at hl 0 rfl) ?_
  refine q_get (C := RL) (T := TL) (N := 4) (ci := 10) E (fun w h => List.mem_cons_of_mem _ (inL w h)) hw 0 rfl rfl 2 (by decide) (List.mem_cons_of_mem _ tb_414) (v := .int (θ 70 0)) rfl dL_draw_5 ?_
  refine lv_iconst (v := 1) hx hb dL_draw_8 (by decide) ?_
  refine lv_aload_n hx hb dL_draw_9 rfl (lv_at hl 0 rfl) ?_
  refine q_get (C := RL) (T := TL) (N := 4) (ci := 10) E (fun w h => List.mem_cons_of_mem _ (inL w h)) hw 0 rfl rfl 1 (by decide) (List.mem_cons_of_mem _ tb_413) (v := .ref (tS 4)) rfl dL_draw_10 ?_
  refine va_tlen hx hb (E.2.2.2.2.2.2.2) hw.2.2 (v := (Int32.ofNat (tS 5))) rfl dL_draw_13 ?_
  refine va_mmax hx hb (E.1.2.2.1.trans hl.1.symm) E.1.2.2.2.1 (E.1.2.2.2.2 _ (List.mem_cons_of_mem _ tb_437)) (E.1.2.2.2.2 _ (List.mem_cons_of_mem _ tb_225)) (E.1.2.2.2.2 _ (List.mem_cons_of_mem _ tb_54)) (E.1.2.2.2.2 _ (List.mem_cons_of_mem _ tb_226)) (Nat.le_of_ble_eq_true rfl) (Nat.le_of_ble_eq_true rfl) (Nat.zero_le _) (Nat.zero_le _) dL_draw_14 ?_
  obtain ⟨g1, hM⟩ := g_some hM
  refine lv_irem hx hb dL_draw_17 g1 ?_
  obtain ⟨p2, h3, hM⟩ := b_some hM
  refine q_cs (As := [.ref (tS 4), .int ((θ 70 0) - (((θ 70 0) / (if 1 < (Int32.ofNat (tS 5)) then (Int32.ofNat (tS 5)) else 1)) * (if 1 < (Int32.ofNat (tS 5)) then (Int32.ofNat (tS 5)) else 1)))]) (rest := []) E hw hl (c_L_at l D cA tS A kc (wLw tS ax kl w θ ++ F) ((θ 70 0) - (((θ 70 0) / (if 1 < (Int32.ofNat (tS 5)) then (Int32.ofNat (tS 5)) else 1)) * (if 1 < (Int32.ofNat (tS 5)) then (Int32.ofNat (tS 5)) else 1))) p2 h3 ) 2 (bwS bw_c tb_438 tb_439 tb_46 tb_440) rfl (by decide +kernel) ⟨Nat.le_of_ble_eq_true rfl, Nat.le_of_ble_eq_true rfl⟩ rfl rfl (Nat.le_of_ble_eq_true rfl) ⟨(Nat.zero_le _), (Nat.zero_le _)⟩ dL_draw_18 (fun H locs hw => ?_)
  refine lv_aload_n hx hb dL_draw_21 rfl (lv_at hl 0 rfl) ?_
  refine q_get (C := RL) (T := TL) (N := 4) (ci := 10) E (fun w h => List.mem_cons_of_mem _ (inL w h)) hw 0 rfl rfl 2 (by decide) (List.mem_cons_of_mem _ tb_414) (v := .int (θ 70 0)) rfl dL_draw_22 ?_
  refine lv_ldc (v := 668265263) hx hb E.1.2.2.2.1 (E.1.2.2.2.2 _ (List.mem_cons_of_mem _ tb_443)) dL_draw_25 ?_
  refine lv_imul hx hb dL_draw_27 ?_
  refine lv_iadd hx hb dL_draw_28 ?_
  refine lv_istore_n (lv' := [(2, .int (p2 + ((θ 70 0) * 668265263))), (0, .ref (w 80)), (1, .int x1)]) hx hb dL_draw_29 rfl hl (by decide) rfl (fun ls hl => ?_)
  refine lv_aload_n hx hb dL_draw_30 rfl (lv_at hl 1 rfl) ?_
  refine lv_dup hx hb dL_draw_31 rfl ?_
  refine q_get (C := RL) (T := TL) (N := 4) (ci := 10) E (fun w h => List.mem_cons_of_mem _ (inL w h)) hw 0 rfl rfl 2 (by decide) (List.mem_cons_of_mem _ tb_414) (v := .int (θ 70 0)) rfl dL_draw_32 ?_
  refine lv_iconst (v := 1) hx hb dL_draw_35 (by decide) ?_
  refine lv_iadd hx hb dL_draw_36 ?_
  refine q_puti (C := RL) (T := TL) (N := 4) (ci := 10) E (fun w h => List.mem_cons_of_mem _ (inL w h)) tyL tyL_ok nmL hw 0 rfl rfl 2 (by decide) (List.mem_cons_of_mem _ tb_414) rfl rfl (Nat.le_of_ble_eq_true rfl) (wLw tS ax kl w (up θ 70 0 ((θ 70 0) + 1)) ++ F) (st_next _) dL_draw_37 (fun H locs hw => ?_)
  refine lv_iload_n hx hb dL_draw_40 rfl (lv_at hl 0 rfl) ?_
  refine lv_iload_n hx hb dL_draw_41 rfl (lv_at hl 0 rfl) ?_
  refine lv_bipush (v := 15) hx hb dL_draw_42 (by decide) ?_
  refine lv_iushr (v := ((((p2 + ((θ 70 0) * 668265263)) : Int32).toUInt32 >>> ((15 : Int32).toUInt32 &&& Int32.toUInt32 31)).toInt32)) hx hb dL_draw_44 rfl ?_
  refine lv_ixor hx hb dL_draw_45 ?_
  refine lv_istore_n (lv' := [(2, .int ((p2 + ((θ 70 0) * 668265263)) ^^^ ((((p2 + ((θ 70 0) * 668265263)) : Int32).toUInt32 >>> ((15 : Int32).toUInt32 &&& Int32.toUInt32 31)).toInt32))), (0, .ref (w 80)), (1, .int x1)]) hx hb dL_draw_46 rfl hl (by decide) rfl (fun ls hl => ?_)
  refine lv_iload_n hx hb dL_draw_47 rfl (lv_at hl 0 rfl) ?_
  refine lv_ldc (v := 739982445) hx hb E.1.2.2.2.1 (E.1.2.2.2.2 _ (List.mem_cons_of_mem _ tb_444)) dL_draw_48 ?_
  refine lv_imul hx hb dL_draw_50 ?_
  refine lv_istore_n (lv' := [(2, .int (((p2 + ((θ 70 0) * 668265263)) ^^^ ((((p2 + ((θ 70 0) * 668265263)) : Int32).toUInt32 >>> ((15 : Int32).toUInt32 &&& Int32.toUInt32 31)).toInt32)) * 739982445)), (0, .ref (w 80)), (1, .int x1)]) hx hb dL_draw_51 rfl hl (by decide) rfl (fun ls hl => ?_)
  refine lv_iload_n hx hb dL_draw_52 rfl (lv_at hl 0 rfl) ?_
  refine lv_iload_n hx hb dL_draw_53 rfl (lv_at hl 0 rfl) ?_
  refine lv_bipush (v := 13) hx hb dL_draw_54 (by decide) ?_
  refine lv_iushr (v := ((((((p2 + ((θ 70 0) * 668265263)) ^^^ ((((p2 + ((θ 70 0) * 668265263)) : Int32).toUInt32 >>> ((15 : Int32).toUInt32 &&& Int32.toUInt32 31)).toInt32)) * 739982445) : Int32).toUInt32 >>> ((13 : Int32).toUInt32 &&& Int32.toUInt32 31)).toInt32)) hx hb dL_draw_56 rfl ?_
  refine lv_ixor hx hb dL_draw_57 ?_
  refine lv_istore_n (lv' := [(2, .int ((((p2 + ((θ 70 0) * 668265263)) ^^^ ((((p2 + ((θ 70 0) * 668265263)) : Int32).toUInt32 >>> ((15 : Int32).toUInt32 &&& Int32.toUInt32 31)).toInt32)) * 739982445) ^^^ ((((((p2 + ((θ 70 0) * 668265263)) ^^^ ((((p2 + ((θ 70 0) * 668265263)) : Int32).toUInt32 >>> ((15 : Int32).toUInt32 &&& Int32.toUInt32 31)).toInt32)) * 739982445) : Int32).toUInt32 >>> ((13 : Int32).toUInt32 &&& Int32.toUInt32 31)).toInt32))), (0, .ref (w 80)), (1, .int x1)]) hx hb dL_draw_58 rfl hl (by decide) rfl (fun ls hl => ?_)
  refine lv_iload_n hx hb dL_draw_59 rfl (lv_at hl 0 rfl) ?_
  refine lv_ldc (v := 2147483647) hx hb E.1.2.2.2.1 (E.1.2.2.2.2 _ (List.mem_cons_of_mem _ tb_445)) dL_draw_60 ?_
  refine lv_iand hx hb dL_draw_62 ?_
  refine lv_iload_n hx hb dL_draw_63 rfl (lv_at hl 2 rfl) ?_
  obtain ⟨g4, hM⟩ := g_some hM
  refine lv_irem hx hb dL_draw_64 g4 ?_
  cases hM
  exact q_reti E hw dL_draw_65
def f_L_told  (tS : Nat → Nat) (kc : Nat)  (x1 : Int32) (x2 : Int32) (x3 : Int32) (x4 : Int32) (θ : Sg) (υ : Sg) (σ : Sg) (τ : Sg) : Option (Int32) := (f_X8_logSize σ).bind (fun p1 => (if p1 = (if (x1 + 1) < 600 then (x1 + 1) else 600) then (if x1 = 600 then some 1 else (f_X8_logTime x1 σ).bind (fun p5 => (f_X8_now σ).bind (fun p7 => (if p5 = p7 then (f_X8_logType x1 σ).bind (fun p10 => (if p10 = x2 then (f_X8_logTicket x1 σ).bind (fun p13 => (if p13 = x3 then (f_X8_logDetail x1 σ).bind (fun p16 => (if p16 = x4 then some 1 else some 0)) else some 0)) else some 0)) else some 0)))) else some 0))
set_option maxRecDepth 100000 in
set_option maxHeartbeats 4000000 in
theorem c_L_told (l : Launch) (D : va_G) (cA : Nat → ClassId) (tS : Nat → Nat) (A : Nat → Prop) (w : Nat → Nat) (u : Nat → Nat) (h : Nat → Nat) (t : Nat → Nat) (ax : Nat) (sv : Nat) (sc : Nat) (kc : Nat) (F : va_W) (x1 : Int32) (x2 : Int32) (x3 : Int32) (x4 : Int32) (θ : Sg) (υ : Sg) (σ : Sg) (τ : Sg) (r0 : Int32) (hM : f_L_told tS kc x1 x2 x3 x4 θ υ σ τ = some r0) (hkc : kc ≤ 10) : Ct l yL_told (Cond.code yL_told cL_told 5 (some .boolean) :: bw) 3 65 D cA tS A [.ref (w 80), .int x1, .int x2, .int x3, .int x4] (wLw tS ax (u 81) w θ ++ (wQl cA u υ kc ++ (wK cA h σ ++ (wLg cA h σ 600 ++ (wC cA h σ ++ (wH cA h σ ++ (wS h ++ (wX ax (h 46) sv (t 42) sc ++ (wK cA t τ ++ (wLg cA t τ 0 ++ (wC cA t τ ++ (wKR cA u υ kc ++ F)))))))))))) (some (.int r0)) (wLw tS ax (u 81) w θ ++ (wQl cA u υ kc ++ (wK cA h σ ++ (wLg cA h σ 600 ++ (wC cA h σ ++ (wH cA h σ ++ (wS h ++ (wX ax (h 46) sv (t 42) sc ++ (wK cA t τ ++ (wLg cA t τ 0 ++ (wC cA t τ ++ (wKR cA u υ kc ++ F)))))))))))) := by
  refine ct_of (by decide +kernel) (Nat.le_of_ble_eq_true rfl) ?_
  intro p e s m below meth c E hw ls hl
  replace E : Ev p cL_told 5 (some .boolean) RL (Cond.code yL_told cL_told 5 (some .boolean) :: bw) D cA tS A s m _ meth c := E
  replace hl : lv_has ls 5 [(0, .ref (w 80)), (1, .int x1), (2, .int x2), (3, .int x3), (4, .int x4)] := hl
  have hx := E.1.1
  have hb := E.1.2.1
  unfold f_L_told at hM
  refine lv_aload_n hx hb dL_told_0 rfl (lv_at hl 0 rfl) ?_
  refine q_get (C := RL) (T := TL) (N := 4) (ci := 10) E (fun w h => List.mem_cons_of_mem _ (inL w h)) hw 0 rfl rfl 0 (by decide) (List.mem_cons_of_mem _ tb_412) (v := .ref ax) rfl dL_told_1 ?_
  have hw : Wd D A (wK cA h σ ++ (wLw tS ax (u 81) w θ ++ (wQl cA u υ kc ++ (wLg cA h σ 600 ++ (wC cA h σ ++ (wH cA h σ ++ (wS h ++ (wX ax (h 46) sv (t 42) sc ++ (wK cA t τ ++ (wLg cA t τ 0 ++ (wC cA t τ ++ (wKR cA u υ kc ++ F)))))))))))) s.heap _ _ := hw.perm (((List.Perm.append_left _ (List.perm_append_comm_assoc _ _ _))).trans (List.perm_append_comm_assoc _ _ _))
  have hw : Wd D A (wK cA h σ ++ (wLg cA h σ 600 ++ (wLw tS ax (u 81) w θ ++ (wQl cA u υ kc ++ (wC cA h σ ++ (wH cA h σ ++ (wS h ++ (wX ax (h 46) sv (t 42) sc ++ (wK cA t τ ++ (wLg cA t τ 0 ++ (wC cA t τ ++ (wKR cA u υ kc ++ F)))))))))))) s.heap _ _ := hw.perm (List.Perm.append_left _ (((List.Perm.append_left _ (List.perm_append_comm_assoc _ _ _))).trans (List.perm_append_comm_assoc _ _ _)))
  have hw : Wd D A (wK cA h σ ++ (wLg cA h σ 600 ++ (wC cA h σ ++ (wLw tS ax (u 81) w θ ++ (wQl cA u υ kc ++ (wH cA h σ ++ (wS h ++ (wX ax (h 46) sv (t 42) sc ++ (wK cA t τ ++ (wLg cA t τ 0 ++ (wC cA t τ ++ (wKR cA u υ kc ++ F)))))))))))) s.heap _ _ := hw.perm (List.Perm.append_left _ (List.Perm.append_left _ (((List.Perm.append_left _ (List.perm_append_comm_assoc _ _ _))).trans (List.perm_append_comm_assoc _ _ _))))
  have hw : Wd D A (wK cA h σ ++ (wLg cA h σ 600 ++ (wC cA h σ ++ (wH cA h σ ++ (wLw tS ax (u 81) w θ ++ (wQl cA u υ kc ++ (wS h ++ (wX ax (h 46) sv (t 42) sc ++ (wK cA t τ ++ (wLg cA t τ 0 ++ (wC cA t τ ++ (wKR cA u υ kc ++ F)))))))))))) s.heap _ _ := hw.perm (List.Perm.append_left _ (List.Perm.append_left _ (List.Perm.append_left _ (((List.Perm.append_left _ (List.perm_append_comm_assoc _ _ _))).trans (List.perm_append_comm_assoc _ _ _)))))
  have hw : Wd D A (wK cA h σ ++ (wLg cA h σ 600 ++ (wC cA h σ ++ (wH cA h σ ++ (wS h ++ (wLw tS ax (u 81) w θ ++ (wQl cA u υ kc ++ (wX ax (h 46) sv (t 42) sc ++ (wK cA t τ ++ (wLg cA t τ 0 ++ (wC cA t τ ++ (wKR cA u υ kc ++ F)))))))))))) s.heap _ _ := hw.perm (List.Perm.append_left _ (List.Perm.append_left _ (List.Perm.append_left _ (List.Perm.append_left _ (((List.Perm.append_left _ (List.perm_append_comm_assoc _ _ _))).trans (List.perm_append_comm_assoc _ _ _))))))
  have hw : Wd D A (wK cA h σ ++ (wLg cA h σ 600 ++ (wC cA h σ ++ (wH cA h σ ++ (wS h ++ (wX ax (h 46) sv (t 42) sc ++ (wLw tS ax (u 81) w θ ++ (wQl cA u υ kc ++ (wK cA t τ ++ (wLg cA t τ 0 ++ (wC cA t τ ++ (wKR cA u υ kc ++ F)))))))))))) s.heap _ _ := hw.perm (List.Perm.append_left _ (List.Perm.append_left _ (List.Perm.append_left _ (List.Perm.append_left _ (List.Perm.append_left _ (((List.Perm.append_left _ (List.perm_append_comm_assoc _ _ _))).trans (List.perm_append_comm_assoc _ _ _)))))))
  obtain ⟨p1, h2, hM⟩ := b_some hM
  refine q_cv (As := []) (rest := []) E hw hl (c_X8_logSize l D cA tS A h ax sv (t 42) sc (wLw tS ax (u 81) w θ ++ (wQl cA u υ kc ++ (wK cA t τ ++ (wLg cA t τ 0 ++ (wC cA t τ ++ (wKR cA u υ kc ++ F)))))) σ p1 h2 ) 0 (bwV bw_c tb_667 tb_668 tb_669 tb_47 tb_670) rfl (by decide +kernel) ⟨Nat.le_of_ble_eq_true rfl, Nat.le_of_ble_eq_true rfl⟩ 40 8 (T := TX8) (N := 4) rfl rfl rfl rfl (Nat.le_of_ble_eq_true rfl) ⟨(Nat.zero_le _), (Nat.zero_le _)⟩ dL_told_4 (fun H locs hw => ?_)
  have hw : Wd D A (wLw tS ax (u 81) w θ ++ (wK cA h σ ++ (wLg cA h σ 600 ++ (wC cA h σ ++ (wH cA h σ ++ (wS h ++ (wX ax (h 46) sv (t 42) sc ++ (wQl cA u υ kc ++ (wK cA t τ ++ (wLg cA t τ 0 ++ (wC cA t τ ++ (wKR cA u υ kc ++ F)))))))))))) s.heap _ _ := hw.perm (((List.Perm.append_left _ (((List.Perm.append_left _ (((List.Perm.append_left _ (((List.Perm.append_left _ (((List.Perm.append_left _ (List.perm_append_comm_assoc _ _ _))).trans (List.perm_append_comm_assoc _ _ _)))).trans (List.perm_append_comm_assoc _ _ _)))).trans (List.perm_append_comm_assoc _ _ _)))).trans (List.perm_append_comm_assoc _ _ _)))).trans (List.perm_append_comm_assoc _ _ _))
  have hw : Wd D A (wLw tS ax (u 81) w θ ++ (wQl cA u υ kc ++ (wK cA h σ ++ (wLg cA h σ 600 ++ (wC cA h σ ++ (wH cA h σ ++ (wS h ++ (wX ax (h 46) sv (t 42) sc ++ (wK cA t τ ++ (wLg cA t τ 0 ++ (wC cA t τ ++ (wKR cA u υ kc ++ F)))))))))))) s.heap _ _ := hw.perm (List.Perm.append_left _ (((List.Perm.append_left _ (((List.Perm.append_left _ (((List.Perm.append_left _ (((List.Perm.append_left _ (((List.Perm.append_left _ (List.perm_append_comm_assoc _ _ _))).trans (List.perm_append_comm_assoc _ _ _)))).trans (List.perm_append_comm_assoc _ _ _)))).trans (List.perm_append_comm_assoc _ _ _)))).trans (List.perm_append_comm_assoc _ _ _)))).trans (List.perm_append_comm_assoc _ _ _)))
  refine lv_sipush (v := 600) hx hb dL_told_7 (by decide) ?_
  refine lv_iload_n hx hb dL_told_10 rfl (lv_at hl 1 rfl) ?_
  refine lv_iconst (v := 1) hx hb dL_told_11 (by decide) ?_
  refine lv_iadd hx hb dL_told_12 ?_
  refine va_mmin hx hb (E.1.2.2.1.trans hl.1.symm) E.1.2.2.2.1 (E.1.2.2.2.2 _ (List.mem_cons_of_mem _ tb_679)) (E.1.2.2.2.2 _ (List.mem_cons_of_mem _ tb_510)) (E.1.2.2.2.2 _ (List.mem_cons_of_mem _ tb_54)) (E.1.2.2.2.2 _ (List.mem_cons_of_mem _ tb_511)) (Nat.le_of_ble_eq_true rfl) (Nat.le_of_ble_eq_true rfl) (Nat.zero_le _) (Nat.zero_le _) dL_told_13 ?_
  refine lv_icmp_ne (tgt := 85) hx hb dL_told_16 (by decide) (fun c3 => ?_) (fun c3 => ?_)
  · replace hM := i_neg hM c3
    refine lv_iconst (v := 0) hx hb dL_told_85 (by decide) ?_
    cases hM
    exact q_retz E hw (by decide) dL_told_86
  · replace hM := i_pos hM c3
    refine lv_iload_n hx hb dL_told_19 rfl (lv_at hl 1 rfl) ?_
    refine lv_sipush (v := 600) hx hb dL_told_20 (by decide) ?_
    refine lv_icmp_eq (tgt := 81) hx hb dL_told_23 (by decide) (fun c4 => ?_) (fun c4 => ?_)
    · replace hM := i_pos hM c4
      refine lv_iconst (v := 1) hx hb dL_told_81 (by decide) ?_
      refine lv_goto (tgt := 86) hx hb dL_told_82 (by decide) ?_
      cases hM
      exact q_retz E hw (by decide) dL_told_86
    · replace hM := i_neg hM c4
      refine lv_aload_n hx hb dL_told_26 rfl (lv_at hl 0 rfl) ?_
      refine q_get (C := RL) (T := TL) (N := 4) (ci := 10) E (fun w h => List.mem_cons_of_mem _ (inL w h)) hw 0 rfl rfl 0 (by decide) (List.mem_cons_of_mem _ tb_412) (v := .ref ax) rfl dL_told_27 ?_
      refine lv_iload_n hx hb dL_told_30 rfl (lv_at hl 1 rfl) ?_
      have hw : Wd D A (wK cA h σ ++ (wLw tS ax (u 81) w θ ++ (wQl cA u υ kc ++ (wLg cA h σ 600 ++ (wC cA h σ ++ (wH cA h σ ++ (wS h ++ (wX ax (h 46) sv (t 42) sc ++ (wK cA t τ ++ (wLg cA t τ 0 ++ (wC cA t τ ++ (wKR cA u υ kc ++ F)))))))))))) s.heap _ _ := hw.perm (((List.Perm.append_left _ (List.perm_append_comm_assoc _ _ _))).trans (List.perm_append_comm_assoc _ _ _))
      have hw : Wd D A (wK cA h σ ++ (wLg cA h σ 600 ++ (wLw tS ax (u 81) w θ ++ (wQl cA u υ kc ++ (wC cA h σ ++ (wH cA h σ ++ (wS h ++ (wX ax (h 46) sv (t 42) sc ++ (wK cA t τ ++ (wLg cA t τ 0 ++ (wC cA t τ ++ (wKR cA u υ kc ++ F)))))))))))) s.heap _ _ := hw.perm (List.Perm.append_left _ (((List.Perm.append_left _ (List.perm_append_comm_assoc _ _ _))).trans (List.perm_append_comm_assoc _ _ _)))
      have hw : Wd D A (wK cA h σ ++ (wLg cA h σ 600 ++ (wC cA h σ ++ (wLw tS ax (u 81) w θ ++ (wQl cA u υ kc ++ (wH cA h σ ++ (wS h ++ (wX ax (h 46) sv (t 42) sc ++ (wK cA t τ ++ (wLg cA t τ 0 ++ (wC cA t τ ++ (wKR cA u υ kc ++ F)))))))))))) s.heap _ _ := hw.perm (List.Perm.append_left _ (List.Perm.append_left _ (((List.Perm.append_left _ (List.perm_append_comm_assoc _ _ _))).trans (List.perm_append_comm_assoc _ _ _))))
      have hw : Wd D A (wK cA h σ ++ (wLg cA h σ 600 ++ (wC cA h σ ++ (wH cA h σ ++ (wLw tS ax (u 81) w θ ++ (wQl cA u υ kc ++ (wS h ++ (wX ax (h 46) sv (t 42) sc ++ (wK cA t τ ++ (wLg cA t τ 0 ++ (wC cA t τ ++ (wKR cA u υ kc ++ F)))))))))))) s.heap _ _ := hw.perm (List.Perm.append_left _ (List.Perm.append_left _ (List.Perm.append_left _ (((List.Perm.append_left _ (List.perm_append_comm_assoc _ _ _))).trans (List.perm_append_comm_assoc _ _ _)))))
      have hw : Wd D A (wK cA h σ ++ (wLg cA h σ 600 ++ (wC cA h σ ++ (wH cA h σ ++ (wS h ++ (wLw tS ax (u 81) w θ ++ (wQl cA u υ kc ++ (wX ax (h 46) sv (t 42) sc ++ (wK cA t τ ++ (wLg cA t τ 0 ++ (wC cA t τ ++ (wKR cA u υ kc ++ F)))))))))))) s.heap _ _ := hw.perm (List.Perm.append_left _ (List.Perm.append_left _ (List.Perm.append_left _ (List.Perm.append_left _ (((List.Perm.append_left _ (List.perm_append_comm_assoc _ _ _))).trans (List.perm_append_comm_assoc _ _ _))))))
      have hw : Wd D A (wK cA h σ ++ (wLg cA h σ 600 ++ (wC cA h σ ++ (wH cA h σ ++ (wS h ++ (wX ax (h 46) sv (t 42) sc ++ (wLw tS ax (u 81) w θ ++ (wQl cA u υ kc ++ (wK cA t τ ++ (wLg cA t τ 0 ++ (wC cA t τ ++ (wKR cA u υ kc ++ F)))))))))))) s.heap _ _ := hw.perm (List.Perm.append_left _ (List.Perm.append_left _ (List.Perm.append_left _ (List.Perm.append_left _ (List.Perm.append_left _ (((List.Perm.append_left _ (List.perm_append_comm_assoc _ _ _))).trans (List.perm_append_comm_assoc _ _ _)))))))
      obtain ⟨p5, h6, hM⟩ := b_some hM
      refine q_cv (As := [.int x1]) (rest := []) E hw hl (c_X8_logTime l D cA tS A h ax sv (t 42) sc (wLw tS ax (u 81) w θ ++ (wQl cA u υ kc ++ (wK cA t τ ++ (wLg cA t τ 0 ++ (wC cA t τ ++ (wKR cA u υ kc ++ F)))))) x1 σ p5 h6 ) 1 (bwV bw_c tb_680 tb_681 tb_682 tb_47 tb_683) rfl (by decide +kernel) ⟨Nat.le_of_ble_eq_true rfl, Nat.le_of_ble_eq_true rfl⟩ 40 8 (T := TX8) (N := 4) rfl rfl rfl rfl (Nat.le_of_ble_eq_true rfl) ⟨(Nat.zero_le _), (Nat.zero_le _)⟩ dL_told_31 (fun H locs hw => ?_)
      have hw : Wd D A (wLw tS ax (u 81) w θ ++ (wK cA h σ ++ (wLg cA h σ 600 ++ (wC cA h σ ++ (wH cA h σ ++ (wS h ++ (wX ax (h 46) sv (t 42) sc ++ (wQl cA u υ kc ++ (wK cA t τ ++ (wLg cA t τ 0 ++ (wC cA t τ ++ (wKR cA u υ kc ++ F)))))))))))) s.heap _ _ := hw.perm (((List.Perm.append_left _ (((List.Perm.append_left _ (((List.Perm.append_left _ (((List.Perm.append_left _ (((List.Perm.append_left _ (List.perm_append_comm_assoc _ _ _))).trans (List.perm_append_comm_assoc _ _ _)))).trans (List.perm_append_comm_assoc _ _ _)))).trans (List.perm_append_comm_assoc _ _ _)))).trans (List.perm_append_comm_assoc _ _ _)))).trans (List.perm_append_comm_assoc _ _ _))
      have hw : Wd D A (wLw tS ax (u 81) w θ ++ (wQl cA u υ kc ++ (wK cA h σ ++ (wLg cA h σ 600 ++ (wC cA h σ ++ (wH cA h σ ++ (wS h ++ (wX ax (h 46) sv (t 42) sc ++ (wK cA t τ ++ (wLg cA t τ 0 ++ (wC cA t τ ++ (wKR cA u υ kc ++ F)))))))))))) s.heap _ _ := hw.perm (List.Perm.append_left _ (((List.Perm.append_left _ (((List.Perm.append_left _ (((List.Perm.append_left _ (((List.Perm.append_left _ (((List.Perm.append_left _ (List.perm_append_comm_assoc _ _ _))).trans (List.perm_append_comm_assoc _ _ _)))).trans (List.perm_append_comm_assoc _ _ _)))).trans (List.perm_append_comm_assoc _ _ _)))).trans (List.perm_append_comm_assoc _ _ _)))).trans (List.perm_append_comm_assoc _ _ _)))
      refine lv_aload_n hx hb dL_told_34 rfl (lv_at hl 0 rfl) ?_
      refine q_get (C := RL) (T := TL) (N := 4) (ci := 10) E (fun w h => List.mem_cons_of_mem _ (inL w h)) hw 0 rfl rfl 0 (by decide) (List.mem_cons_of_mem _ tb_412) (v := .ref ax) rfl dL_told_35 ?_
      have hw : Wd D A (wK cA h σ ++ (wLw tS ax (u 81) w θ ++ (wQl cA u υ kc ++ (wLg cA h σ 600 ++ (wC cA h σ ++ (wH cA h σ ++ (wS h ++ (wX ax (h 46) sv (t 42) sc ++ (wK cA t τ ++ (wLg cA t τ 0 ++ (wC cA t τ ++ (wKR cA u υ kc ++ F)))))))))))) s.heap _ _ := hw.perm (((List.Perm.append_left _ (List.perm_append_comm_assoc _ _ _))).trans (List.perm_append_comm_assoc _ _ _))
      have hw : Wd D A (wK cA h σ ++ (wLg cA h σ 600 ++ (wLw tS ax (u 81) w θ ++ (wQl cA u υ kc ++ (wC cA h σ ++ (wH cA h σ ++ (wS h ++ (wX ax (h 46) sv (t 42) sc ++ (wK cA t τ ++ (wLg cA t τ 0 ++ (wC cA t τ ++ (wKR cA u υ kc ++ F)))))))))))) s.heap _ _ := hw.perm (List.Perm.append_left _ (((List.Perm.append_left _ (List.perm_append_comm_assoc _ _ _))).trans (List.perm_append_comm_assoc _ _ _)))
      have hw : Wd D A (wK cA h σ ++ (wLg cA h σ 600 ++ (wC cA h σ ++ (wLw tS ax (u 81) w θ ++ (wQl cA u υ kc ++ (wH cA h σ ++ (wS h ++ (wX ax (h 46) sv (t 42) sc ++ (wK cA t τ ++ (wLg cA t τ 0 ++ (wC cA t τ ++ (wKR cA u υ kc ++ F)))))))))))) s.heap _ _ := hw.perm (List.Perm.append_left _ (List.Perm.append_left _ (((List.Perm.append_left _ (List.perm_append_comm_assoc _ _ _))).trans (List.perm_append_comm_assoc _ _ _))))
      have hw : Wd D A (wK cA h σ ++ (wLg cA h σ 600 ++ (wC cA h σ ++ (wH cA h σ ++ (wLw tS ax (u 81) w θ ++ (wQl cA u υ kc ++ (wS h ++ (wX ax (h 46) sv (t 42) sc ++ (wK cA t τ ++ (wLg cA t τ 0 ++ (wC cA t τ ++ (wKR cA u υ kc ++ F)))))))))))) s.heap _ _ := hw.perm (List.Perm.append_left _ (List.Perm.append_left _ (List.Perm.append_left _ (((List.Perm.append_left _ (List.perm_append_comm_assoc _ _ _))).trans (List.perm_append_comm_assoc _ _ _)))))
      have hw : Wd D A (wK cA h σ ++ (wLg cA h σ 600 ++ (wC cA h σ ++ (wH cA h σ ++ (wS h ++ (wLw tS ax (u 81) w θ ++ (wQl cA u υ kc ++ (wX ax (h 46) sv (t 42) sc ++ (wK cA t τ ++ (wLg cA t τ 0 ++ (wC cA t τ ++ (wKR cA u υ kc ++ F)))))))))))) s.heap _ _ := hw.perm (List.Perm.append_left _ (List.Perm.append_left _ (List.Perm.append_left _ (List.Perm.append_left _ (((List.Perm.append_left _ (List.perm_append_comm_assoc _ _ _))).trans (List.perm_append_comm_assoc _ _ _))))))
      have hw : Wd D A (wK cA h σ ++ (wLg cA h σ 600 ++ (wC cA h σ ++ (wH cA h σ ++ (wS h ++ (wX ax (h 46) sv (t 42) sc ++ (wLw tS ax (u 81) w θ ++ (wQl cA u υ kc ++ (wK cA t τ ++ (wLg cA t τ 0 ++ (wC cA t τ ++ (wKR cA u υ kc ++ F)))))))))))) s.heap _ _ := hw.perm (List.Perm.append_left _ (List.Perm.append_left _ (List.Perm.append_left _ (List.Perm.append_left _ (List.Perm.append_left _ (((List.Perm.append_left _ (List.perm_append_comm_assoc _ _ _))).trans (List.perm_append_comm_assoc _ _ _)))))))
      obtain ⟨p7, h8, hM⟩ := b_some hM
      refine q_cv (As := []) (rest := [.int p5]) E hw hl (c_X8_now l D cA tS A h ax sv (t 42) sc (wLw tS ax (u 81) w θ ++ (wQl cA u υ kc ++ (wK cA t τ ++ (wLg cA t τ 0 ++ (wC cA t τ ++ (wKR cA u υ kc ++ F)))))) σ p7 h8 ) 0 (bwV bw_c tb_688 tb_689 tb_690 tb_47 tb_691) rfl (by decide +kernel) ⟨Nat.le_of_ble_eq_true rfl, Nat.le_of_ble_eq_true rfl⟩ 40 8 (T := TX8) (N := 4) rfl rfl rfl rfl (Nat.le_of_ble_eq_true rfl) ⟨(Nat.zero_le _), (Nat.zero_le _)⟩ dL_told_38 (fun H locs hw => ?_)
      have hw : Wd D A (wLw tS ax (u 81) w θ ++ (wK cA h σ ++ (wLg cA h σ 600 ++ (wC cA h σ ++ (wH cA h σ ++ (wS h ++ (wX ax (h 46) sv (t 42) sc ++ (wQl cA u υ kc ++ (wK cA t τ ++ (wLg cA t τ 0 ++ (wC cA t τ ++ (wKR cA u υ kc ++ F)))))))))))) s.heap _ _ := hw.perm (((List.Perm.append_left _ (((List.Perm.append_left _ (((List.Perm.append_left _ (((List.Perm.append_left _ (((List.Perm.append_left _ (List.perm_append_comm_assoc _ _ _))).trans (List.perm_append_comm_assoc _ _ _)))).trans (List.perm_append_comm_assoc _ _ _)))).trans (List.perm_append_comm_assoc _ _ _)))).trans (List.perm_append_comm_assoc _ _ _)))).trans (List.perm_append_comm_assoc _ _ _))
      have hw : Wd D A (wLw tS ax (u 81) w θ ++ (wQl cA u υ kc ++ (wK cA h σ ++ (wLg cA h σ 600 ++ (wC cA h σ ++ (wH cA h σ ++ (wS h ++ (wX ax (h 46) sv (t 42) sc ++ (wK cA t τ ++ (wLg cA t τ 0 ++ (wC cA t τ ++ (wKR cA u υ kc ++ F)))))))))))) s.heap _ _ := hw.perm (List.Perm.append_left _ (((List.Perm.append_left _ (((List.Perm.append_left _ (((List.Perm.append_left _ (((List.Perm.append_left _ (((List.Perm.append_left _ (List.perm_append_comm_assoc _ _ _))).trans (List.perm_append_comm_assoc _ _ _)))).trans (List.perm_append_comm_assoc _ _ _)))).trans (List.perm_append_comm_assoc _ _ _)))).trans (List.perm_append_comm_assoc _ _ _)))).trans (List.perm_append_comm_assoc _ _ _)))
      refine lv_icmp_ne (tgt := 85) hx hb dL_told_41 (by decide) (fun c9 => ?_) (fun c9 => ?_)
      · replace hM := i_neg hM c9
        refine lv_iconst (v := 0) hx hb dL_told_85 (by decide) ?_
        cases hM
        exact q_retz E hw (by decide) dL_told_86
      · replace hM := i_pos hM c9
        refine lv_aload_n hx hb dL_told_44 rfl (lv_at hl 0 rfl) ?_
        refine q_get (C := RL) (T := TL) (N := 4) (ci := 10) E (fun w h => List.mem_cons_of_mem _ (inL w h)) hw 0 rfl rfl 0 (by decide) (List.mem_cons_of_mem _ tb_412) (v := .ref ax) rfl dL_told_45 ?_
        refine lv_iload_n hx hb dL_told_48 rfl (lv_at hl 1 rfl) ?_
        have hw : Wd D A (wK cA h σ ++ (wLw tS ax (u 81) w θ ++ (wQl cA u υ kc ++ (wLg cA h σ 600 ++ (wC cA h σ ++ (wH cA h σ ++ (wS h ++ (wX ax (h 46) sv (t 42) sc ++ (wK cA t τ ++ (wLg cA t τ 0 ++ (wC cA t τ ++ (wKR cA u υ kc ++ F)))))))))))) s.heap _ _ := hw.perm (((List.Perm.append_left _ (List.perm_append_comm_assoc _ _ _))).trans (List.perm_append_comm_assoc _ _ _))
        have hw : Wd D A (wK cA h σ ++ (wLg cA h σ 600 ++ (wLw tS ax (u 81) w θ ++ (wQl cA u υ kc ++ (wC cA h σ ++ (wH cA h σ ++ (wS h ++ (wX ax (h 46) sv (t 42) sc ++ (wK cA t τ ++ (wLg cA t τ 0 ++ (wC cA t τ ++ (wKR cA u υ kc ++ F)))))))))))) s.heap _ _ := hw.perm (List.Perm.append_left _ (((List.Perm.append_left _ (List.perm_append_comm_assoc _ _ _))).trans (List.perm_append_comm_assoc _ _ _)))
        have hw : Wd D A (wK cA h σ ++ (wLg cA h σ 600 ++ (wC cA h σ ++ (wLw tS ax (u 81) w θ ++ (wQl cA u υ kc ++ (wH cA h σ ++ (wS h ++ (wX ax (h 46) sv (t 42) sc ++ (wK cA t τ ++ (wLg cA t τ 0 ++ (wC cA t τ ++ (wKR cA u υ kc ++ F)))))))))))) s.heap _ _ := hw.perm (List.Perm.append_left _ (List.Perm.append_left _ (((List.Perm.append_left _ (List.perm_append_comm_assoc _ _ _))).trans (List.perm_append_comm_assoc _ _ _))))
        have hw : Wd D A (wK cA h σ ++ (wLg cA h σ 600 ++ (wC cA h σ ++ (wH cA h σ ++ (wLw tS ax (u 81) w θ ++ (wQl cA u υ kc ++ (wS h ++ (wX ax (h 46) sv (t 42) sc ++ (wK cA t τ ++ (wLg cA t τ 0 ++ (wC cA t τ ++ (wKR cA u υ kc ++ F)))))))))))) s.heap _ _ := hw.perm (List.Perm.append_left _ (List.Perm.append_left _ (List.Perm.append_left _ (((List.Perm.append_left _ (List.perm_append_comm_assoc _ _ _))).trans (List.perm_append_comm_assoc _ _ _)))))
        have hw : Wd D A (wK cA h σ ++ (wLg cA h σ 600 ++ (wC cA h σ ++ (wH cA h σ ++ (wS h ++ (wLw tS ax (u 81) w θ ++ (wQl cA u υ kc ++ (wX ax (h 46) sv (t 42) sc ++ (wK cA t τ ++ (wLg cA t τ 0 ++ (wC cA t τ ++ (wKR cA u υ kc ++ F)))))))))))) s.heap _ _ := hw.perm (List.Perm.append_left _ (List.Perm.append_left _ (List.Perm.append_left _ (List.Perm.append_left _ (((List.Perm.append_left _ (List.perm_append_comm_assoc _ _ _))).trans (List.perm_append_comm_assoc _ _ _))))))
        have hw : Wd D A (wK cA h σ ++ (wLg cA h σ 600 ++ (wC cA h σ ++ (wH cA h σ ++ (wS h ++ (wX ax (h 46) sv (t 42) sc ++ (wLw tS ax (u 81) w θ ++ (wQl cA u υ kc ++ (wK cA t τ ++ (wLg cA t τ 0 ++ (wC cA t τ ++ (wKR cA u υ kc ++ F)))))))))))) s.heap _ _ := hw.perm (List.Perm.append_left _ (List.Perm.append_left _ (List.Perm.append_left _ (List.Perm.append_left _ (List.Perm.append_left _ (((List.Perm.append_left _ (List.perm_append_comm_assoc _ _ _))).trans (List.perm_append_comm_assoc _ _ _)))))))
        obtain ⟨p10, h11, hM⟩ := b_some hM
        refine q_cv (As := [.int x1]) (rest := []) E hw hl (c_X8_logType l D cA tS A h ax sv (t 42) sc (wLw tS ax (u 81) w θ ++ (wQl cA u υ kc ++ (wK cA t τ ++ (wLg cA t τ 0 ++ (wC cA t τ ++ (wKR cA u υ kc ++ F)))))) x1 σ p10 h11 ) 1 (bwV bw_c tb_692 tb_693 tb_694 tb_47 tb_695) rfl (by decide +kernel) ⟨Nat.le_of_ble_eq_true rfl, Nat.le_of_ble_eq_true rfl⟩ 40 8 (T := TX8) (N := 4) rfl rfl rfl rfl (Nat.le_of_ble_eq_true rfl) ⟨(Nat.zero_le _), (Nat.zero_le _)⟩ dL_told_49 (fun H locs hw => ?_)
        have hw : Wd D A (wLw tS ax (u 81) w θ ++ (wK cA h σ ++ (wLg cA h σ 600 ++ (wC cA h σ ++ (wH cA h σ ++ (wS h ++ (wX ax (h 46) sv (t 42) sc ++ (wQl cA u υ kc ++ (wK cA t τ ++ (wLg cA t τ 0 ++ (wC cA t τ ++ (wKR cA u υ kc ++ F)))))))))))) s.heap _ _ := hw.perm (((List.Perm.append_left _ (((List.Perm.append_left _ (((List.Perm.append_left _ (((List.Perm.append_left _ (((List.Perm.append_left _ (List.perm_append_comm_assoc _ _ _))).trans (List.perm_append_comm_assoc _ _ _)))).trans (List.perm_append_comm_assoc _ _ _)))).trans (List.perm_append_comm_assoc _ _ _)))).trans (List.perm_append_comm_assoc _ _ _)))).trans (List.perm_append_comm_assoc _ _ _))
        have hw : Wd D A (wLw tS ax (u 81) w θ ++ (wQl cA u υ kc ++ (wK cA h σ ++ (wLg cA h σ 600 ++ (wC cA h σ ++ (wH cA h σ ++ (wS h ++ (wX ax (h 46) sv (t 42) sc ++ (wK cA t τ ++ (wLg cA t τ 0 ++ (wC cA t τ ++ (wKR cA u υ kc ++ F)))))))))))) s.heap _ _ := hw.perm (List.Perm.append_left _ (((List.Perm.append_left _ (((List.Perm.append_left _ (((List.Perm.append_left _ (((List.Perm.append_left _ (((List.Perm.append_left _ (List.perm_append_comm_assoc _ _ _))).trans (List.perm_append_comm_assoc _ _ _)))).trans (List.perm_append_comm_assoc _ _ _)))).trans (List.perm_append_comm_assoc _ _ _)))).trans (List.perm_append_comm_assoc _ _ _)))).trans (List.perm_append_comm_assoc _ _ _)))
        refine lv_iload_n hx hb dL_told_52 rfl (lv_at hl 2 rfl) ?_
        refine lv_icmp_ne (tgt := 85) hx hb dL_told_53 (by decide) (fun c12 => ?_) (fun c12 => ?_)
        · replace hM := i_neg hM c12
          refine lv_iconst (v := 0) hx hb dL_told_85 (by decide) ?_
          cases hM
          exact q_retz E hw (by decide) dL_told_86
        · replace hM := i_pos hM c12
          refine lv_aload_n hx hb dL_told_56 rfl (lv_at hl 0 rfl) ?_
          refine q_get (C := RL) (T := TL) (N := 4) (ci := 10) E (fun w h => List.mem_cons_of_mem _ (inL w h)) hw 0 rfl rfl 0 (by decide) (List.mem_cons_of_mem _ tb_412) (v := .ref ax) rfl dL_told_57 ?_
          refine lv_iload_n hx hb dL_told_60 rfl (lv_at hl 1 rfl) ?_
          have hw : Wd D A (wK cA h σ ++ (wLw tS ax (u 81) w θ ++ (wQl cA u υ kc ++ (wLg cA h σ 600 ++ (wC cA h σ ++ (wH cA h σ ++ (wS h ++ (wX ax (h 46) sv (t 42) sc ++ (wK cA t τ ++ (wLg cA t τ 0 ++ (wC cA t τ ++ (wKR cA u υ kc ++ F)))))))))))) s.heap _ _ := hw.perm (((List.Perm.append_left _ (List.perm_append_comm_assoc _ _ _))).trans (List.perm_append_comm_assoc _ _ _))
          have hw : Wd D A (wK cA h σ ++ (wLg cA h σ 600 ++ (wLw tS ax (u 81) w θ ++ (wQl cA u υ kc ++ (wC cA h σ ++ (wH cA h σ ++ (wS h ++ (wX ax (h 46) sv (t 42) sc ++ (wK cA t τ ++ (wLg cA t τ 0 ++ (wC cA t τ ++ (wKR cA u υ kc ++ F)))))))))))) s.heap _ _ := hw.perm (List.Perm.append_left _ (((List.Perm.append_left _ (List.perm_append_comm_assoc _ _ _))).trans (List.perm_append_comm_assoc _ _ _)))
          have hw : Wd D A (wK cA h σ ++ (wLg cA h σ 600 ++ (wC cA h σ ++ (wLw tS ax (u 81) w θ ++ (wQl cA u υ kc ++ (wH cA h σ ++ (wS h ++ (wX ax (h 46) sv (t 42) sc ++ (wK cA t τ ++ (wLg cA t τ 0 ++ (wC cA t τ ++ (wKR cA u υ kc ++ F)))))))))))) s.heap _ _ := hw.perm (List.Perm.append_left _ (List.Perm.append_left _ (((List.Perm.append_left _ (List.perm_append_comm_assoc _ _ _))).trans (List.perm_append_comm_assoc _ _ _))))
          have hw : Wd D A (wK cA h σ ++ (wLg cA h σ 600 ++ (wC cA h σ ++ (wH cA h σ ++ (wLw tS ax (u 81) w θ ++ (wQl cA u υ kc ++ (wS h ++ (wX ax (h 46) sv (t 42) sc ++ (wK cA t τ ++ (wLg cA t τ 0 ++ (wC cA t τ ++ (wKR cA u υ kc ++ F)))))))))))) s.heap _ _ := hw.perm (List.Perm.append_left _ (List.Perm.append_left _ (List.Perm.append_left _ (((List.Perm.append_left _ (List.perm_append_comm_assoc _ _ _))).trans (List.perm_append_comm_assoc _ _ _)))))
          have hw : Wd D A (wK cA h σ ++ (wLg cA h σ 600 ++ (wC cA h σ ++ (wH cA h σ ++ (wS h ++ (wLw tS ax (u 81) w θ ++ (wQl cA u υ kc ++ (wX ax (h 46) sv (t 42) sc ++ (wK cA t τ ++ (wLg cA t τ 0 ++ (wC cA t τ ++ (wKR cA u υ kc ++ F)))))))))))) s.heap _ _ := hw.perm (List.Perm.append_left _ (List.Perm.append_left _ (List.Perm.append_left _ (List.Perm.append_left _ (((List.Perm.append_left _ (List.perm_append_comm_assoc _ _ _))).trans (List.perm_append_comm_assoc _ _ _))))))
          have hw : Wd D A (wK cA h σ ++ (wLg cA h σ 600 ++ (wC cA h σ ++ (wH cA h σ ++ (wS h ++ (wX ax (h 46) sv (t 42) sc ++ (wLw tS ax (u 81) w θ ++ (wQl cA u υ kc ++ (wK cA t τ ++ (wLg cA t τ 0 ++ (wC cA t τ ++ (wKR cA u υ kc ++ F)))))))))))) s.heap _ _ := hw.perm (List.Perm.append_left _ (List.Perm.append_left _ (List.Perm.append_left _ (List.Perm.append_left _ (List.Perm.append_left _ (((List.Perm.append_left _ (List.perm_append_comm_assoc _ _ _))).trans (List.perm_append_comm_assoc _ _ _)))))))
          obtain ⟨p13, h14, hM⟩ := b_some hM
          refine q_cv (As := [.int x1]) (rest := []) E hw hl (c_X8_logTicket l D cA tS A h ax sv (t 42) sc (wLw tS ax (u 81) w θ ++ (wQl cA u υ kc ++ (wK cA t τ ++ (wLg cA t τ 0 ++ (wC cA t τ ++ (wKR cA u υ kc ++ F)))))) x1 σ p13 h14 ) 1 (bwV bw_c tb_696 tb_697 tb_698 tb_47 tb_699) rfl (by decide +kernel) ⟨Nat.le_of_ble_eq_true rfl, Nat.le_of_ble_eq_true rfl⟩ 40 8 (T := TX8) (N := 4) rfl rfl rfl rfl (Nat.le_of_ble_eq_true rfl) ⟨(Nat.zero_le _), (Nat.zero_le _)⟩ dL_told_61 (fun H locs hw => ?_)
          have hw : Wd D A (wLw tS ax (u 81) w θ ++ (wK cA h σ ++ (wLg cA h σ 600 ++ (wC cA h σ ++ (wH cA h σ ++ (wS h ++ (wX ax (h 46) sv (t 42) sc ++ (wQl cA u υ kc ++ (wK cA t τ ++ (wLg cA t τ 0 ++ (wC cA t τ ++ (wKR cA u υ kc ++ F)))))))))))) s.heap _ _ := hw.perm (((List.Perm.append_left _ (((List.Perm.append_left _ (((List.Perm.append_left _ (((List.Perm.append_left _ (((List.Perm.append_left _ (List.perm_append_comm_assoc _ _ _))).trans (List.perm_append_comm_assoc _ _ _)))).trans (List.perm_append_comm_assoc _ _ _)))).trans (List.perm_append_comm_assoc _ _ _)))).trans (List.perm_append_comm_assoc _ _ _)))).trans (List.perm_append_comm_assoc _ _ _))
          have hw : Wd D A (wLw tS ax (u 81) w θ ++ (wQl cA u υ kc ++ (wK cA h σ ++ (wLg cA h σ 600 ++ (wC cA h σ ++ (wH cA h σ ++ (wS h ++ (wX ax (h 46) sv (t 42) sc ++ (wK cA t τ ++ (wLg cA t τ 0 ++ (wC cA t τ ++ (wKR cA u υ kc ++ F)))))))))))) s.heap _ _ := hw.perm (List.Perm.append_left _ (((List.Perm.append_left _ (((List.Perm.append_left _ (((List.Perm.append_left _ (((List.Perm.append_left _ (((List.Perm.append_left _ (List.perm_append_comm_assoc _ _ _))).trans (List.perm_append_comm_assoc _ _ _)))).trans (List.perm_append_comm_assoc _ _ _)))).trans (List.perm_append_comm_assoc _ _ _)))).trans (List.perm_append_comm_assoc _ _ _)))).trans (List.perm_append_comm_assoc _ _ _)))
          refine lv_iload_n hx hb dL_told_64 rfl (lv_at hl 3 rfl) ?_
          refine lv_icmp_ne (tgt := 85) hx hb dL_told_65 (by decide) (fun c15 => ?_) (fun c15 => ?_)
          · replace hM := i_neg hM c15
            refine lv_iconst (v := 0) hx hb dL_told_85 (by decide) ?_
            cases hM
            exact q_retz E hw (by decide) dL_told_86
          · replace hM := i_pos hM c15
            refine lv_aload_n hx hb dL_told_68 rfl (lv_at hl 0 rfl) ?_
            refine q_get (C := RL) (T := TL) (N := 4) (ci := 10) E (fun w h => List.mem_cons_of_mem _ (inL w h)) hw 0 rfl rfl 0 (by decide) (List.mem_cons_of_mem _ tb_412) (v := .ref ax) rfl dL_told_69 ?_
            refine lv_iload_n hx hb dL_told_72 rfl (lv_at hl 1 rfl) ?_
            have hw : Wd D A (wK cA h σ ++ (wLw tS ax (u 81) w θ ++ (wQl cA u υ kc ++ (wLg cA h σ 600 ++ (wC cA h σ ++ (wH cA h σ ++ (wS h ++ (wX ax (h 46) sv (t 42) sc ++ (wK cA t τ ++ (wLg cA t τ 0 ++ (wC cA t τ ++ (wKR cA u υ kc ++ F)))))))))))) s.heap _ _ := hw.perm (((List.Perm.append_left _ (List.perm_append_comm_assoc _ _ _))).trans (List.perm_append_comm_assoc _ _ _))
            have hw : Wd D A (wK cA h σ ++ (wLg cA h σ 600 ++ (wLw tS ax (u 81) w θ ++ (wQl cA u υ kc ++ (wC cA h σ ++ (wH cA h σ ++ (wS h ++ (wX ax (h 46) sv (t 42) sc ++ (wK cA t τ ++ (wLg cA t τ 0 ++ (wC cA t τ ++ (wKR cA u υ kc ++ F)))))))))))) s.heap _ _ := hw.perm (List.Perm.append_left _ (((List.Perm.append_left _ (List.perm_append_comm_assoc _ _ _))).trans (List.perm_append_comm_assoc _ _ _)))
            have hw : Wd D A (wK cA h σ ++ (wLg cA h σ 600 ++ (wC cA h σ ++ (wLw tS ax (u 81) w θ ++ (wQl cA u υ kc ++ (wH cA h σ ++ (wS h ++ (wX ax (h 46) sv (t 42) sc ++ (wK cA t τ ++ (wLg cA t τ 0 ++ (wC cA t τ ++ (wKR cA u υ kc ++ F)))))))))))) s.heap _ _ := hw.perm (List.Perm.append_left _ (List.Perm.append_left _ (((List.Perm.append_left _ (List.perm_append_comm_assoc _ _ _))).trans (List.perm_append_comm_assoc _ _ _))))
            have hw : Wd D A (wK cA h σ ++ (wLg cA h σ 600 ++ (wC cA h σ ++ (wH cA h σ ++ (wLw tS ax (u 81) w θ ++ (wQl cA u υ kc ++ (wS h ++ (wX ax (h 46) sv (t 42) sc ++ (wK cA t τ ++ (wLg cA t τ 0 ++ (wC cA t τ ++ (wKR cA u υ kc ++ F)))))))))))) s.heap _ _ := hw.perm (List.Perm.append_left _ (List.Perm.append_left _ (List.Perm.append_left _ (((List.Perm.append_left _ (List.perm_append_comm_assoc _ _ _))).trans (List.perm_append_comm_assoc _ _ _)))))
            have hw : Wd D A (wK cA h σ ++ (wLg cA h σ 600 ++ (wC cA h σ ++ (wH cA h σ ++ (wS h ++ (wLw tS ax (u 81) w θ ++ (wQl cA u υ kc ++ (wX ax (h 46) sv (t 42) sc ++ (wK cA t τ ++ (wLg cA t τ 0 ++ (wC cA t τ ++ (wKR cA u υ kc ++ F)))))))))))) s.heap _ _ := hw.perm (List.Perm.append_left _ (List.Perm.append_left _ (List.Perm.append_left _ (List.Perm.append_left _ (((List.Perm.append_left _ (List.perm_append_comm_assoc _ _ _))).trans (List.perm_append_comm_assoc _ _ _))))))
            have hw : Wd D A (wK cA h σ ++ (wLg cA h σ 600 ++ (wC cA h σ ++ (wH cA h σ ++ (wS h ++ (wX ax (h 46) sv (t 42) sc ++ (wLw tS ax (u 81) w θ ++ (wQl cA u υ kc ++ (wK cA t τ ++ (wLg cA t τ 0 ++ (wC cA t τ ++ (wKR cA u υ kc ++ F)))))))))))) s.heap _ _ := hw.perm (List.Perm.append_left _ (List.Perm.append_left _ (List.Perm.append_left _ (List.Perm.append_left _ (List.Perm.append_left _ (((List.Perm.append_left _ (List.perm_append_comm_assoc _ _ _))).trans (List.perm_append_comm_assoc _ _ _)))))))
            obtain ⟨p16, h17, hM⟩ := b_some hM
            refine q_cv (As := [.int x1]) (rest := []) E hw hl (c_X8_logDetail l D cA tS A h ax sv (t 42) sc (wLw tS ax (u 81) w θ ++ (wQl cA u υ kc ++ (wK cA t τ ++ (wLg cA t τ 0 ++ (wC cA t τ ++ (wKR cA u υ kc ++ F)))))) x1 σ p16 h17 ) 1 (bwV bw_c tb_700 tb_701 tb_702 tb_47 tb_703) rfl (by decide +kernel) ⟨Nat.le_of_ble_eq_true rfl, Nat.le_of_ble_eq_true rfl⟩ 40 8 (T := TX8) (N := 4) rfl rfl rfl rfl (Nat.le_of_ble_eq_true rfl) ⟨(Nat.zero_le _), (Nat.zero_le _)⟩ dL_told_73 (fun H locs hw => ?_)
            have hw : Wd D A (wLw tS ax (u 81) w θ ++ (wK cA h σ ++ (wLg cA h σ 600 ++ (wC cA h σ ++ (wH cA h σ ++ (wS h ++ (wX ax (h 46) sv (t 42) sc ++ (wQl cA u υ kc ++ (wK cA t τ ++ (wLg cA t τ 0 ++ (wC cA t τ ++ (wKR cA u υ kc ++ F)))))))))))) s.heap _ _ := hw.perm (((List.Perm.append_left _ (((List.Perm.append_left _ (((List.Perm.append_left _ (((List.Perm.append_left _ (((List.Perm.append_left _ (List.perm_append_comm_assoc _ _ _))).trans (List.perm_append_comm_assoc _ _ _)))).trans (List.perm_append_comm_assoc _ _ _)))).trans (List.perm_append_comm_assoc _ _ _)))).trans (List.perm_append_comm_assoc _ _ _)))).trans (List.perm_append_comm_assoc _ _ _))
            have hw : Wd D A (wLw tS ax (u 81) w θ ++ (wQl cA u υ kc ++ (wK cA h σ ++ (wLg cA h σ 600 ++ (wC cA h σ ++ (wH cA h σ ++ (wS h ++ (wX ax (h 46) sv (t 42) sc ++ (wK cA t τ ++ (wLg cA t τ 0 ++ (wC cA t τ ++ (wKR cA u υ kc ++ F)))))))))))) s.heap _ _ := hw.perm (List.Perm.append_left _ (((List.Perm.append_left _ (((List.Perm.append_left _ (((List.Perm.append_left _ (((List.Perm.append_left _ (((List.Perm.append_left _ (List.perm_append_comm_assoc _ _ _))).trans (List.perm_append_comm_assoc _ _ _)))).trans (List.perm_append_comm_assoc _ _ _)))).trans (List.perm_append_comm_assoc _ _ _)))).trans (List.perm_append_comm_assoc _ _ _)))).trans (List.perm_append_comm_assoc _ _ _)))
            refine lv_iload hx hb dL_told_76 (lv_at hl 4 rfl) ?_
            refine lv_icmp_ne (tgt := 85) hx hb dL_told_78 (by decide) (fun c18 => ?_) (fun c18 => ?_)
            · replace hM := i_neg hM c18
              refine lv_iconst (v := 0) hx hb dL_told_85 (by decide) ?_
              cases hM
              exact q_retz E hw (by decide) dL_told_86
            · replace hM := i_pos hM c18
              refine lv_iconst (v := 1) hx hb dL_told_81 (by decide) ?_
              refine lv_goto (tgt := 86) hx hb dL_told_82 (by decide) ?_
              cases hM
              exact q_retz E hw (by decide) dL_told_86
