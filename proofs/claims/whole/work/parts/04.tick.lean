def f_X7_isFull   (σ : Sg) : Option (Int32) := (if (σ 15 0) < 60 then some 0 else some 1)
set_option maxRecDepth 100000 in
set_option maxHeartbeats 4000000 in
theorem c_X7_isFull (l : Launch) (D : va_G) (cA : Nat → ClassId) (tS : Nat → Nat) (A : Nat → Prop) (h : Nat → Nat) (L : Nat) (F : va_W) (σ : Sg) (r0 : Int32) (hM : f_X7_isFull σ = some r0) : Ct l yX7_isFull (Cond.code yX7_isFull cX7_isFull 1 (some .boolean) :: bw) 0 0 D cA tS A [.ref (h 44)] (wK cA h σ ++ (wLg cA h σ L ++ (wC cA h σ ++ F))) (some (.int r0)) (wK cA h σ ++ (wLg cA h σ L ++ (wC cA h σ ++ F))) := by
  refine ct_of (by decide +kernel) (Nat.le_of_ble_eq_true rfl) ?_
  intro p e s m below meth c E hw ls hl
  replace E : Ev p cX7_isFull 1 (some .boolean) RX7 (Cond.code yX7_isFull cX7_isFull 1 (some .boolean) :: bw) D cA tS A s m _ meth c := E
  replace hl : lv_has ls 1 [(0, .ref (h 44))] := hl
  have hx := E.1.1
  have hb := E.1.2.1
  unfold f_X7_isFull at hM
  refine lv_aload_n hx hb dX7_isFull_0 rfl (lv_at hl 0 rfl) ?_
  refine q_get (C := RX7) (T := TX7) (N := 15) (ci := 7) E (fun w h => List.mem_cons_of_mem _ (inX7 w h)) hw 16 rfl rfl 14 (by decide) (List.mem_cons_of_mem _ tb_298) (v := .int (σ 15 0)) rfl dX7_isFull_1 ?_
  refine lv_bipush (v := 60) hx hb dX7_isFull_4 (by decide) ?_
  refine lv_icmp_lt (tgt := 13) hx hb dX7_isFull_6 (by decide) (fun c1 => ?_) (fun c1 => ?_)
  · replace hM := i_pos hM c1
    refine lv_iconst (v := 0) hx hb dX7_isFull_13 (by decide) ?_
    cases hM
    exact q_retz E hw (by decide) dX7_isFull_14
  · replace hM := i_neg hM c1
    refine lv_iconst (v := 1) hx hb dX7_isFull_9 (by decide) ?_
    refine lv_goto (tgt := 14) hx hb dX7_isFull_10 (by decide) ?_
    cases hM
    exact q_retz E hw (by decide) dX7_isFull_14
def f_X7_exists   (x1 : Int32) (σ : Sg) : Option (Int32) := (if x1 < 0 then some 0 else (if (σ 15 0) ≤ x1 then some 0 else some 1))
set_option maxRecDepth 100000 in
set_option maxHeartbeats 4000000 in
theorem c_X7_exists (l : Launch) (D : va_G) (cA : Nat → ClassId) (tS : Nat → Nat) (A : Nat → Prop) (h : Nat → Nat) (L : Nat) (F : va_W) (x1 : Int32) (σ : Sg) (r0 : Int32) (hM : f_X7_exists x1 σ = some r0) : Ct l yX7_exists (Cond.code yX7_exists cX7_exists 2 (some .boolean) :: bw) 0 0 D cA tS A [.ref (h 44), .int x1] (wK cA h σ ++ (wLg cA h σ L ++ (wC cA h σ ++ F))) (some (.int r0)) (wK cA h σ ++ (wLg cA h σ L ++ (wC cA h σ ++ F))) := by
  refine ct_of (by decide +kernel) (Nat.le_of_ble_eq_true rfl) ?_
  intro p e s m below meth c E hw ls hl
  replace E : Ev p cX7_exists 2 (some .boolean) RX7 (Cond.code yX7_exists cX7_exists 2 (some .boolean) :: bw) D cA tS A s m _ meth c := E
  replace hl : lv_has ls 2 [(0, .ref (h 44)), (1, .int x1)] := hl
  have hx := E.1.1
  have hb := E.1.2.1
  unfold f_X7_exists at hM
  refine lv_iload_n hx hb dX7_exists_0 rfl (lv_at hl 1 rfl) ?_
  refine lv_if_lt (tgt := 16) hx hb dX7_exists_1 (by decide) (fun c1 => ?_) (fun c1 => ?_)
  · replace hM := i_pos hM c1
    refine lv_iconst (v := 0) hx hb dX7_exists_16 (by decide) ?_
    cases hM
    exact q_retz E hw (by decide) dX7_exists_17
  · replace hM := i_neg hM c1
    refine lv_iload_n hx hb dX7_exists_4 rfl (lv_at hl 1 rfl) ?_
    refine lv_aload_n hx hb dX7_exists_5 rfl (lv_at hl 0 rfl) ?_
    refine q_get (C := RX7) (T := TX7) (N := 15) (ci := 7) E (fun w h => List.mem_cons_of_mem _ (inX7 w h)) hw 16 rfl rfl 14 (by decide) (List.mem_cons_of_mem _ tb_298) (v := .int (σ 15 0)) rfl dX7_exists_6 ?_
    refine lv_icmp_ge (tgt := 16) hx hb dX7_exists_9 (by decide) (fun c2 => ?_) (fun c2 => ?_)
    · replace hM := i_pos hM c2
      refine lv_iconst (v := 0) hx hb dX7_exists_16 (by decide) ?_
      cases hM
      exact q_retz E hw (by decide) dX7_exists_17
    · replace hM := i_neg hM c2
      refine lv_iconst (v := 1) hx hb dX7_exists_12 (by decide) ?_
      refine lv_goto (tgt := 17) hx hb dX7_exists_13 (by decide) ?_
      cases hM
      exact q_retz E hw (by decide) dX7_exists_17
def f_X7_add   (x1 : Int32) (x2 : Int32) (x3 : Int32) (x4 : Int32) (x5 : Int32) (σ : Sg) : Option (Int32 × Sg) := if ib (σ 15 0) 60 then some ((σ 15 0), (up (up (up (up (up (up (up (up (up (up (up (up (up (up (up σ 16 (ix (σ 15 0)) x1) 17 (ix (σ 15 0)) x2) 18 (ix (σ 15 0)) x3) 19 (ix (σ 15 0)) x4) 20 (ix (σ 15 0)) 0) 21 (ix (σ 15 0)) 0) 22 (ix (σ 15 0)) 0) 23 (ix (σ 15 0)) 0) 24 (ix (σ 15 0)) 0) 25 (ix (σ 15 0)) 0) 26 (ix (σ 15 0)) (-1)) 27 (ix (σ 15 0)) x5) 28 (ix (σ 15 0)) (-1)) 29 (ix (σ 15 0)) (-1)) 15 0 ((σ 15 0) + 1))) else none
set_option maxRecDepth 100000 in
set_option maxHeartbeats 4000000 in
theorem c_X7_add (l : Launch) (D : va_G) (cA : Nat → ClassId) (tS : Nat → Nat) (A : Nat → Prop) (h : Nat → Nat) (L : Nat) (F : va_W) (x1 : Int32) (x2 : Int32) (x3 : Int32) (x4 : Int32) (x5 : Int32) (σ : Sg) (r0 : Int32) (s0 : Sg) (hM : f_X7_add x1 x2 x3 x4 x5 σ = some (r0, s0)) : Ct l yX7_add (Cond.code yX7_add cX7_add 7 (some .int) :: bw) 0 0 D cA tS A [.ref (h 44), .int x1, .int x2, .int x3, .int x4, .int x5] (wK cA h σ ++ (wLg cA h σ L ++ (wC cA h σ ++ F))) (some (.int r0)) (wK cA h s0 ++ (wLg cA h s0 L ++ (wC cA h s0 ++ F))) := by
  refine ct_of (by decide +kernel) (Nat.le_of_ble_eq_true rfl) ?_
  intro p e s m below meth c E hw ls hl
  replace E : Ev p cX7_add 7 (some .int) RX7 (Cond.code yX7_add cX7_add 7 (some .int) :: bw) D cA tS A s m _ meth c := E
  replace hl : lv_has ls 7 [(0, .ref (h 44)), (1, .int x1), (2, .int x2), (3, .int x3), (4, .int x4), (5, .int x5)] := hl
  have hx := E.1.1
  have hb := E.1.2.1
  unfold f_X7_add at hM
  refine lv_aload_n hx hb dX7_add_0 rfl (lv_at hl 0 rfl) ?_
  refine q_get (C := RX7) (T := TX7) (N := 15) (ci := 7) E (fun w h => List.mem_cons_of_mem _ (inX7 w h)) hw 16 rfl rfl 14 (by decide) (List.mem_cons_of_mem _ tb_298) (v := .int (σ 15 0)) rfl dX7_add_1 ?_
  refine lv_istore (lv' := [(6, .int (σ 15 0)), (0, .ref (h 44)), (1, .int x1), (2, .int x2), (3, .int x3), (4, .int x4), (5, .int x5)]) hx hb dX7_add_4 hl (by decide) rfl (fun ls hl => ?_)
  refine lv_aload_n hx hb dX7_add_6 rfl (lv_at hl 1 rfl) ?_
  refine q_get (C := RX7) (T := TX7) (N := 15) (ci := 7) E (fun w h => List.mem_cons_of_mem _ (inX7 w h)) hw 16 rfl rfl 0 (by decide) (List.mem_cons_of_mem _ tb_262) (v := .ref (h 16)) rfl dX7_add_7 ?_
  refine lv_iload hx hb dX7_add_10 (lv_at hl 0 rfl) ?_
  refine lv_iload_n hx hb dX7_add_12 rfl (lv_at hl 2 rfl) ?_
  obtain ⟨g1, hM⟩ := g_some hM
  refine q_ast E hw 17 (n := 60) rfl g1 (wK cA h (up σ 16 (ix (σ 15 0)) x1) ++ (wLg cA h (up σ 16 (ix (σ 15 0)) x1) L ++ (wC cA h (up σ 16 (ix (σ 15 0)) x1) ++ F))) rfl dX7_add_13 (fun H locs hw => ?_)
  refine lv_aload_n hx hb dX7_add_14 rfl (lv_at hl 1 rfl) ?_
  refine q_get (C := RX7) (T := TX7) (N := 15) (ci := 7) E (fun w h => List.mem_cons_of_mem _ (inX7 w h)) hw 16 rfl rfl 1 (by decide) (List.mem_cons_of_mem _ tb_265) (v := .ref (h 17)) rfl dX7_add_15 ?_
  refine lv_iload hx hb dX7_add_18 (lv_at hl 0 rfl) ?_
  refine lv_iload_n hx hb dX7_add_20 rfl (lv_at hl 3 rfl) ?_
  refine q_ast E hw 18 (n := 60) rfl g1 (wK cA h (up (up σ 16 (ix (σ 15 0)) x1) 17 (ix (σ 15 0)) x2) ++ (wLg cA h (up (up σ 16 (ix (σ 15 0)) x1) 17 (ix (σ 15 0)) x2) L ++ (wC cA h (up (up σ 16 (ix (σ 15 0)) x1) 17 (ix (σ 15 0)) x2) ++ F))) rfl dX7_add_21 (fun H locs hw => ?_)
  refine lv_aload_n hx hb dX7_add_22 rfl (lv_at hl 1 rfl) ?_
  refine q_get (C := RX7) (T := TX7) (N := 15) (ci := 7) E (fun w h => List.mem_cons_of_mem _ (inX7 w h)) hw 16 rfl rfl 2 (by decide) (List.mem_cons_of_mem _ tb_266) (v := .ref (h 18)) rfl dX7_add_23 ?_
  refine lv_iload hx hb dX7_add_26 (lv_at hl 0 rfl) ?_
  refine lv_iload_n hx hb dX7_add_28 rfl (lv_at hl 4 rfl) ?_
  refine q_ast E hw 19 (n := 60) rfl g1 (wK cA h (up (up (up σ 16 (ix (σ 15 0)) x1) 17 (ix (σ 15 0)) x2) 18 (ix (σ 15 0)) x3) ++ (wLg cA h (up (up (up σ 16 (ix (σ 15 0)) x1) 17 (ix (σ 15 0)) x2) 18 (ix (σ 15 0)) x3) L ++ (wC cA h (up (up (up σ 16 (ix (σ 15 0)) x1) 17 (ix (σ 15 0)) x2) 18 (ix (σ 15 0)) x3) ++ F))) rfl dX7_add_29 (fun H locs hw => ?_)
  refine lv_aload_n hx hb dX7_add_30 rfl (lv_at hl 1 rfl) ?_
  refine q_get (C := RX7) (T := TX7) (N := 15) (ci := 7) E (fun w h => List.mem_cons_of_mem _ (inX7 w h)) hw 16 rfl rfl 3 (by decide) (List.mem_cons_of_mem _ tb_267) (v := .ref (h 19)) rfl dX7_add_31 ?_
  refine lv_iload hx hb dX7_add_34 (lv_at hl 0 rfl) ?_
  refine lv_iload hx hb dX7_add_36 (lv_at hl 5 rfl) ?_
  refine q_ast E hw 20 (n := 60) rfl g1 (wK cA h (up (up (up (up σ 16 (ix (σ 15 0)) x1) 17 (ix (σ 15 0)) x2) 18 (ix (σ 15 0)) x3) 19 (ix (σ 15 0)) x4) ++ (wLg cA h (up (up (up (up σ 16 (ix (σ 15 0)) x1) 17 (ix (σ 15 0)) x2) 18 (ix (σ 15 0)) x3) 19 (ix (σ 15 0)) x4) L ++ (wC cA h (up (up (up (up σ 16 (ix (σ 15 0)) x1) 17 (ix (σ 15 0)) x2) 18 (ix (σ 15 0)) x3) 19 (ix (σ 15 0)) x4) ++ F))) rfl dX7_add_38 (fun H locs hw => ?_)
  refine lv_aload_n hx hb dX7_add_39 rfl (lv_at hl 1 rfl) ?_
  refine q_get (C := RX7) (T := TX7) (N := 15) (ci := 7) E (fun w h => List.mem_cons_of_mem _ (inX7 w h)) hw 16 rfl rfl 4 (by decide) (List.mem_cons_of_mem _ tb_270) (v := .ref (h 20)) rfl dX7_add_40 ?_
  refine lv_iload hx hb dX7_add_43 (lv_at hl 0 rfl) ?_
  refine lv_iconst (v := 0) hx hb dX7_add_45 (by decide) ?_
  refine q_ast E hw 21 (n := 60) rfl g1 (wK cA h (up (up (up (up (up σ 16 (ix (σ 15 0)) x1) 17 (ix (σ 15 0)) x2) 18 (ix (σ 15 0)) x3) 19 (ix (σ 15 0)) x4) 20 (ix (σ 15 0)) 0) ++ (wLg cA h (up (up (up (up (up σ 16 (ix (σ 15 0)) x1) 17 (ix (σ 15 0)) x2) 18 (ix (σ 15 0)) x3) 19 (ix (σ 15 0)) x4) 20 (ix (σ 15 0)) 0) L ++ (wC cA h (up (up (up (up (up σ 16 (ix (σ 15 0)) x1) 17 (ix (σ 15 0)) x2) 18 (ix (σ 15 0)) x3) 19 (ix (σ 15 0)) x4) 20 (ix (σ 15 0)) 0) ++ F))) rfl dX7_add_46 (fun H locs hw => ?_)
  refine lv_aload_n hx hb dX7_add_47 rfl (lv_at hl 1 rfl) ?_
  refine q_get (C := RX7) (T := TX7) (N := 15) (ci := 7) E (fun w h => List.mem_cons_of_mem _ (inX7 w h)) hw 16 rfl rfl 5 (by decide) (List.mem_cons_of_mem _ tb_273) (v := .ref (h 21)) rfl dX7_add_48 ?_
  refine lv_iload hx hb dX7_add_51 (lv_at hl 0 rfl) ?_
  refine lv_iconst (v := 0) hx hb dX7_add_53 (by decide) ?_
  refine q_ast E hw 22 (n := 60) rfl g1 (wK cA h (up (up (up (up (up (up σ 16 (ix (σ 15 0)) x1) 17 (ix (σ 15 0)) x2) 18 (ix (σ 15 0)) x3) 19 (ix (σ 15 0)) x4) 20 (ix (σ 15 0)) 0) 21 (ix (σ 15 0)) 0) ++ (wLg cA h (up (up (up (up (up (up σ 16 (ix (σ 15 0)) x1) 17 (ix (σ 15 0)) x2) 18 (ix (σ 15 0)) x3) 19 (ix (σ 15 0)) x4) 20 (ix (σ 15 0)) 0) 21 (ix (σ 15 0)) 0) L ++ (wC cA h (up (up (up (up (up (up σ 16 (ix (σ 15 0)) x1) 17 (ix (σ 15 0)) x2) 18 (ix (σ 15 0)) x3) 19 (ix (σ 15 0)) x4) 20 (ix (σ 15 0)) 0) 21 (ix (σ 15 0)) 0) ++ F))) rfl dX7_add_54 (fun H locs hw => ?_)
  refine lv_aload_n hx hb dX7_add_55 rfl (lv_at hl 1 rfl) ?_
  refine q_get (C := RX7) (T := TX7) (N := 15) (ci := 7) E (fun w h => List.mem_cons_of_mem _ (inX7 w h)) hw 16 rfl rfl 6 (by decide) (List.mem_cons_of_mem _ tb_276) (v := .ref (h 22)) rfl dX7_add_56 ?_
  refine lv_iload hx hb dX7_add_59 (lv_at hl 0 rfl) ?_
  refine lv_iconst (v := 0) hx hb dX7_add_61 (by decide) ?_
  refine q_ast E hw 23 (n := 60) rfl g1 (wK cA h (up (up (up (up (up (up (up σ 16 (ix (σ 15 0)) x1) 17 (ix (σ 15 0)) x2) 18 (ix (σ 15 0)) x3) 19 (ix (σ 15 0)) x4) 20 (ix (σ 15 0)) 0) 21 (ix (σ 15 0)) 0) 22 (ix (σ 15 0)) 0) ++ (wLg cA h (up (up (up (up (up (up (up σ 16 (ix (σ 15 0)) x1) 17 (ix (σ 15 0)) x2) 18 (ix (σ 15 0)) x3) 19 (ix (σ 15 0)) x4) 20 (ix (σ 15 0)) 0) 21 (ix (σ 15 0)) 0) 22 (ix (σ 15 0)) 0) L ++ (wC cA h (up (up (up (up (up (up (up σ 16 (ix (σ 15 0)) x1) 17 (ix (σ 15 0)) x2) 18 (ix (σ 15 0)) x3) 19 (ix (σ 15 0)) x4) 20 (ix (σ 15 0)) 0) 21 (ix (σ 15 0)) 0) 22 (ix (σ 15 0)) 0) ++ F))) rfl dX7_add_62 (fun H locs hw => ?_)
  refine lv_aload_n hx hb dX7_add_63 rfl (lv_at hl 1 rfl) ?_
  refine q_get (C := RX7) (T := TX7) (N := 15) (ci := 7) E (fun w h => List.mem_cons_of_mem _ (inX7 w h)) hw 16 rfl rfl 7 (by decide) (List.mem_cons_of_mem _ tb_279) (v := .ref (h 23)) rfl dX7_add_64 ?_
  refine lv_iload hx hb dX7_add_67 (lv_at hl 0 rfl) ?_
  refine lv_iconst (v := 0) hx hb dX7_add_69 (by decide) ?_
  refine q_ast E hw 24 (n := 60) rfl g1 (wK cA h (up (up (up (up (up (up (up (up σ 16 (ix (σ 15 0)) x1) 17 (ix (σ 15 0)) x2) 18 (ix (σ 15 0)) x3) 19 (ix (σ 15 0)) x4) 20 (ix (σ 15 0)) 0) 21 (ix (σ 15 0)) 0) 22 (ix (σ 15 0)) 0) 23 (ix (σ 15 0)) 0) ++ (wLg cA h (up (up (up (up (up (up (up (up σ 16 (ix (σ 15 0)) x1) 17 (ix (σ 15 0)) x2) 18 (ix (σ 15 0)) x3) 19 (ix (σ 15 0)) x4) 20 (ix (σ 15 0)) 0) 21 (ix (σ 15 0)) 0) 22 (ix (σ 15 0)) 0) 23 (ix (σ 15 0)) 0) L ++ (wC cA h (up (up (up (up (up (up (up (up σ 16 (ix (σ 15 0)) x1) 17 (ix (σ 15 0)) x2) 18 (ix (σ 15 0)) x3) 19 (ix (σ 15 0)) x4) 20 (ix (σ 15 0)) 0) 21 (ix (σ 15 0)) 0) 22 (ix (σ 15 0)) 0) 23 (ix (σ 15 0)) 0) ++ F))) rfl dX7_add_70 (fun H locs hw => ?_)
  refine lv_aload_n hx hb dX7_add_71 rfl (lv_at hl 1 rfl) ?_
  refine q_get (C := RX7) (T := TX7) (N := 15) (ci := 7) E (fun w h => List.mem_cons_of_mem _ (inX7 w h)) hw 16 rfl rfl 8 (by decide) (List.mem_cons_of_mem _ tb_281) (v := .ref (h 24)) rfl dX7_add_72 ?_
  refine lv_iload hx hb dX7_add_75 (lv_at hl 0 rfl) ?_
  refine lv_iconst (v := 0) hx hb dX7_add_77 (by decide) ?_
  refine q_ast E hw 25 (n := 60) rfl g1 (wK cA h (up (up (up (up (up (up (up (up (up σ 16 (ix (σ 15 0)) x1) 17 (ix (σ 15 0)) x2) 18 (ix (σ 15 0)) x3) 19 (ix (σ 15 0)) x4) 20 (ix (σ 15 0)) 0) 21 (ix (σ 15 0)) 0) 22 (ix (σ 15 0)) 0) 23 (ix (σ 15 0)) 0) 24 (ix (σ 15 0)) 0) ++ (wLg cA h (up (up (up (up (up (up (up (up (up σ 16 (ix (σ 15 0)) x1) 17 (ix (σ 15 0)) x2) 18 (ix (σ 15 0)) x3) 19 (ix (σ 15 0)) x4) 20 (ix (σ 15 0)) 0) 21 (ix (σ 15 0)) 0) 22 (ix (σ 15 0)) 0) 23 (ix (σ 15 0)) 0) 24 (ix (σ 15 0)) 0) L ++ (wC cA h (up (up (up (up (up (up (up (up (up σ 16 (ix (σ 15 0)) x1) 17 (ix (σ 15 0)) x2) 18 (ix (σ 15 0)) x3) 19 (ix (σ 15 0)) x4) 20 (ix (σ 15 0)) 0) 21 (ix (σ 15 0)) 0) 22 (ix (σ 15 0)) 0) 23 (ix (σ 15 0)) 0) 24 (ix (σ 15 0)) 0) ++ F))) rfl dX7_add_78 (fun H locs hw => ?_)
  refine lv_aload_n hx hb dX7_add_79 rfl (lv_at hl 1 rfl) ?_
  refine q_get (C := RX7) (T := TX7) (N := 15) (ci := 7) E (fun w h => List.mem_cons_of_mem _ (inX7 w h)) hw 16 rfl rfl 9 (by decide) (List.mem_cons_of_mem _ tb_284) (v := .ref (h 25)) rfl dX7_add_80 ?_
  refine lv_iload hx hb dX7_add_83 (lv_at hl 0 rfl) ?_
  refine lv_iconst (v := 0) hx hb dX7_add_85 (by decide) ?_
  refine q_ast E hw 26 (n := 60) rfl g1 (wK cA h (up (up (up (up (up (up (up (up (up (up σ 16 (ix (σ 15 0)) x1) 17 (ix (σ 15 0)) x2) 18 (ix (σ 15 0)) x3) 19 (ix (σ 15 0)) x4) 20 (ix (σ 15 0)) 0) 21 (ix (σ 15 0)) 0) 22 (ix (σ 15 0)) 0) 23 (ix (σ 15 0)) 0) 24 (ix (σ 15 0)) 0) 25 (ix (σ 15 0)) 0) ++ (wLg cA h (up (up (up (up (up (up (up (up (up (up σ 16 (ix (σ 15 0)) x1) 17 (ix (σ 15 0)) x2) 18 (ix (σ 15 0)) x3) 19 (ix (σ 15 0)) x4) 20 (ix (σ 15 0)) 0) 21 (ix (σ 15 0)) 0) 22 (ix (σ 15 0)) 0) 23 (ix (σ 15 0)) 0) 24 (ix (σ 15 0)) 0) 25 (ix (σ 15 0)) 0) L ++ (wC cA h (up (up (up (up (up (up (up (up (up (up σ 16 (ix (σ 15 0)) x1) 17 (ix (σ 15 0)) x2) 18 (ix (σ 15 0)) x3) 19 (ix (σ 15 0)) x4) 20 (ix (σ 15 0)) 0) 21 (ix (σ 15 0)) 0) 22 (ix (σ 15 0)) 0) 23 (ix (σ 15 0)) 0) 24 (ix (σ 15 0)) 0) 25 (ix (σ 15 0)) 0) ++ F))) rfl dX7_add_86 (fun H locs hw => ?_)
  refine lv_aload_n hx hb dX7_add_87 rfl (lv_at hl 1 rfl) ?_
  refine q_get (C := RX7) (T := TX7) (N := 15) (ci := 7) E (fun w h => List.mem_cons_of_mem _ (inX7 w h)) hw 16 rfl rfl 10 (by decide) (List.mem_cons_of_mem _ tb_287) (v := .ref (h 26)) rfl dX7_add_88 ?_
  refine lv_iload hx hb dX7_add_91 (lv_at hl 0 rfl) ?_
  refine lv_iconst (v := (-1)) hx hb dX7_add_93 (by decide) ?_
  refine q_ast E hw 27 (n := 60) rfl g1 (wK cA h (up (up (up (up (up (up (up (up (up (up (up σ 16 (ix (σ 15 0)) x1) 17 (ix (σ 15 0)) x2) 18 (ix (σ 15 0)) x3) 19 (ix (σ 15 0)) x4) 20 (ix (σ 15 0)) 0) 21 (ix (σ 15 0)) 0) 22 (ix (σ 15 0)) 0) 23 (ix (σ 15 0)) 0) 24 (ix (σ 15 0)) 0) 25 (ix (σ 15 0)) 0) 26 (ix (σ 15 0)) (-1)) ++ (wLg cA h (up (up (up (up (up (up (up (up (up (up (up σ 16 (ix (σ 15 0)) x1) 17 (ix (σ 15 0)) x2) 18 (ix (σ 15 0)) x3) 19 (ix (σ 15 0)) x4) 20 (ix (σ 15 0)) 0) 21 (ix (σ 15 0)) 0) 22 (ix (σ 15 0)) 0) 23 (ix (σ 15 0)) 0) 24 (ix (σ 15 0)) 0) 25 (ix (σ 15 0)) 0) 26 (ix (σ 15 0)) (-1)) L ++ (wC cA h (up (up (up (up (up (up (up (up (up (up (up σ 16 (ix (σ 15 0)) x1) 17 (ix (σ 15 0)) x2) 18 (ix (σ 15 0)) x3) 19 (ix (σ 15 0)) x4) 20 (ix (σ 15 0)) 0) 21 (ix (σ 15 0)) 0) 22 (ix (σ 15 0)) 0) 23 (ix (σ 15 0)) 0) 24 (ix (σ 15 0)) 0) 25 (ix (σ 15 0)) 0) 26 (ix (σ 15 0)) (-1)) ++ F))) rfl dX7_add_94 (fun H locs hw => ?_)
  refine lv_aload_n hx hb dX7_add_95 rfl (lv_at hl 1 rfl) ?_
  refine q_get (C := RX7) (T := TX7) (N := 15) (ci := 7) E (fun w h => List.mem_cons_of_mem _ (inX7 w h)) hw 16 rfl rfl 11 (by decide) (List.mem_cons_of_mem _ tb_290) (v := .ref (h 27)) rfl dX7_add_96 ?_
  refine lv_iload hx hb dX7_add_99 (lv_at hl 0 rfl) ?_
  refine lv_iload hx hb dX7_add_101 (lv_at hl 6 rfl) ?_
  refine q_ast E hw 28 (n := 60) rfl g1 (wK cA h (up (up (up (up (up (up (up (up (up (up (up (up σ 16 (ix (σ 15 0)) x1) 17 (ix (σ 15 0)) x2) 18 (ix (σ 15 0)) x3) 19 (ix (σ 15 0)) x4) 20 (ix (σ 15 0)) 0) 21 (ix (σ 15 0)) 0) 22 (ix (σ 15 0)) 0) 23 (ix (σ 15 0)) 0) 24 (ix (σ 15 0)) 0) 25 (ix (σ 15 0)) 0) 26 (ix (σ 15 0)) (-1)) 27 (ix (σ 15 0)) x5) ++ (wLg cA h (up (up (up (up (up (up (up (up (up (up (up (up σ 16 (ix (σ 15 0)) x1) 17 (ix (σ 15 0)) x2) 18 (ix (σ 15 0)) x3) 19 (ix (σ 15 0)) x4) 20 (ix (σ 15 0)) 0) 21 (ix (σ 15 0)) 0) 22 (ix (σ 15 0)) 0) 23 (ix (σ 15 0)) 0) 24 (ix (σ 15 0)) 0) 25 (ix (σ 15 0)) 0) 26 (ix (σ 15 0)) (-1)) 27 (ix (σ 15 0)) x5) L ++ (wC cA h (up (up (up (up (up (up (up (up (up (up (up (up σ 16 (ix (σ 15 0)) x1) 17 (ix (σ 15 0)) x2) 18 (ix (σ 15 0)) x3) 19 (ix (σ 15 0)) x4) 20 (ix (σ 15 0)) 0) 21 (ix (σ 15 0)) 0) 22 (ix (σ 15 0)) 0) 23 (ix (σ 15 0)) 0) 24 (ix (σ 15 0)) 0) 25 (ix (σ 15 0)) 0) 26 (ix (σ 15 0)) (-1)) 27 (ix (σ 15 0)) x5) ++ F))) rfl dX7_add_103 (fun H locs hw => ?_)
  refine lv_aload_n hx hb dX7_add_104 rfl (lv_at hl 1 rfl) ?_
  refine q_get (C := RX7) (T := TX7) (N := 15) (ci := 7) E (fun w h => List.mem_cons_of_mem _ (inX7 w h)) hw 16 rfl rfl 12 (by decide) (List.mem_cons_of_mem _ tb_292) (v := .ref (h 28)) rfl dX7_add_105 ?_
  refine lv_iload hx hb dX7_add_108 (lv_at hl 0 rfl) ?_
  refine lv_iconst (v := (-1)) hx hb dX7_add_110 (by decide) ?_
  refine q_ast E hw 29 (n := 60) rfl g1 (wK cA h (up (up (up (up (up (up (up (up (up (up (up (up (up σ 16 (ix (σ 15 0)) x1) 17 (ix (σ 15 0)) x2) 18 (ix (σ 15 0)) x3) 19 (ix (σ 15 0)) x4) 20 (ix (σ 15 0)) 0) 21 (ix (σ 15 0)) 0) 22 (ix (σ 15 0)) 0) 23 (ix (σ 15 0)) 0) 24 (ix (σ 15 0)) 0) 25 (ix (σ 15 0)) 0) 26 (ix (σ 15 0)) (-1)) 27 (ix (σ 15 0)) x5) 28 (ix (σ 15 0)) (-1)) ++ (wLg cA h (up (up (up (up (up (up (up (up (up (up (up (up (up σ 16 (ix (σ 15 0)) x1) 17 (ix (σ 15 0)) x2) 18 (ix (σ 15 0)) x3) 19 (ix (σ 15 0)) x4) 20 (ix (σ 15 0)) 0) 21 (ix (σ 15 0)) 0) 22 (ix (σ 15 0)) 0) 23 (ix (σ 15 0)) 0) 24 (ix (σ 15 0)) 0) 25 (ix (σ 15 0)) 0) 26 (ix (σ 15 0)) (-1)) 27 (ix (σ 15 0)) x5) 28 (ix (σ 15 0)) (-1)) L ++ (wC cA h (up (up (up (up (up (up (up (up (up (up (up (up (up σ 16 (ix (σ 15 0)) x1) 17 (ix (σ 15 0)) x2) 18 (ix (σ 15 0)) x3) 19 (ix (σ 15 0)) x4) 20 (ix (σ 15 0)) 0) 21 (ix (σ 15 0)) 0) 22 (ix (σ 15 0)) 0) 23 (ix (σ 15 0)) 0) 24 (ix (σ 15 0)) 0) 25 (ix (σ 15 0)) 0) 26 (ix (σ 15 0)) (-1)) 27 (ix (σ 15 0)) x5) 28 (ix (σ 15 0)) (-1)) ++ F))) rfl dX7_add_111 (fun H locs hw => ?_)
  refine lv_aload_n hx hb dX7_add_112 rfl (lv_at hl 1 rfl) ?_
  refine q_get (C := RX7) (T := TX7) (N := 15) (ci := 7) E (fun w h => List.mem_cons_of_mem _ (inX7 w h)) hw 16 rfl rfl 13 (by decide) (List.mem_cons_of_mem _ tb_295) (v := .ref (h 29)) rfl dX7_add_113 ?_
  refine lv_iload hx hb dX7_add_116 (lv_at hl 0 rfl) ?_
  refine lv_iconst (v := (-1)) hx hb dX7_add_118 (by decide) ?_
  refine q_ast E hw 30 (n := 60) rfl g1 (wK cA h (up (up (up (up (up (up (up (up (up (up (up (up (up (up σ 16 (ix (σ 15 0)) x1) 17 (ix (σ 15 0)) x2) 18 (ix (σ 15 0)) x3) 19 (ix (σ 15 0)) x4) 20 (ix (σ 15 0)) 0) 21 (ix (σ 15 0)) 0) 22 (ix (σ 15 0)) 0) 23 (ix (σ 15 0)) 0) 24 (ix (σ 15 0)) 0) 25 (ix (σ 15 0)) 0) 26 (ix (σ 15 0)) (-1)) 27 (ix (σ 15 0)) x5) 28 (ix (σ 15 0)) (-1)) 29 (ix (σ 15 0)) (-1)) ++ (wLg cA h (up (up (up (up (up (up (up (up (up (up (up (up (up (up σ 16 (ix (σ 15 0)) x1) 17 (ix (σ 15 0)) x2) 18 (ix (σ 15 0)) x3) 19 (ix (σ 15 0)) x4) 20 (ix (σ 15 0)) 0) 21 (ix (σ 15 0)) 0) 22 (ix (σ 15 0)) 0) 23 (ix (σ 15 0)) 0) 24 (ix (σ 15 0)) 0) 25 (ix (σ 15 0)) 0) 26 (ix (σ 15 0)) (-1)) 27 (ix (σ 15 0)) x5) 28 (ix (σ 15 0)) (-1)) 29 (ix (σ 15 0)) (-1)) L ++ (wC cA h (up (up (up (up (up (up (up (up (up (up (up (up (up (up σ 16 (ix (σ 15 0)) x1) 17 (ix (σ 15 0)) x2) 18 (ix (σ 15 0)) x3) 19 (ix (σ 15 0)) x4) 20 (ix (σ 15 0)) 0) 21 (ix (σ 15 0)) 0) 22 (ix (σ 15 0)) 0) 23 (ix (σ 15 0)) 0) 24 (ix (σ 15 0)) 0) 25 (ix (σ 15 0)) 0) 26 (ix (σ 15 0)) (-1)) 27 (ix (σ 15 0)) x5) 28 (ix (σ 15 0)) (-1)) 29 (ix (σ 15 0)) (-1)) ++ F))) rfl dX7_add_119 (fun H locs hw => ?_)
  refine lv_aload_n hx hb dX7_add_120 rfl (lv_at hl 1 rfl) ?_
  refine lv_dup hx hb dX7_add_121 rfl ?_
  refine q_get (C := RX7) (T := TX7) (N := 15) (ci := 7) E (fun w h => List.mem_cons_of_mem _ (inX7 w h)) hw 16 rfl rfl 14 (by decide) (List.mem_cons_of_mem _ tb_298) (v := .int (σ 15 0)) rfl dX7_add_122 ?_
  refine lv_iconst (v := 1) hx hb dX7_add_125 (by decide) ?_
  refine lv_iadd hx hb dX7_add_126 ?_
  refine q_puti (C := RX7) (T := TX7) (N := 15) (ci := 7) E (fun w h => List.mem_cons_of_mem _ (inX7 w h)) tyX7 tyX7_ok nmX7 hw 16 rfl rfl 14 (by decide) (List.mem_cons_of_mem _ tb_298) rfl rfl (Nat.le_of_ble_eq_true rfl) (wK cA h (up (up (up (up (up (up (up (up (up (up (up (up (up (up (up σ 16 (ix (σ 15 0)) x1) 17 (ix (σ 15 0)) x2) 18 (ix (σ 15 0)) x3) 19 (ix (σ 15 0)) x4) 20 (ix (σ 15 0)) 0) 21 (ix (σ 15 0)) 0) 22 (ix (σ 15 0)) 0) 23 (ix (σ 15 0)) 0) 24 (ix (σ 15 0)) 0) 25 (ix (σ 15 0)) 0) 26 (ix (σ 15 0)) (-1)) 27 (ix (σ 15 0)) x5) 28 (ix (σ 15 0)) (-1)) 29 (ix (σ 15 0)) (-1)) 15 0 ((σ 15 0) + 1)) ++ (wLg cA h (up (up (up (up (up (up (up (up (up (up (up (up (up (up (up σ 16 (ix (σ 15 0)) x1) 17 (ix (σ 15 0)) x2) 18 (ix (σ 15 0)) x3) 19 (ix (σ 15 0)) x4) 20 (ix (σ 15 0)) 0) 21 (ix (σ 15 0)) 0) 22 (ix (σ 15 0)) 0) 23 (ix (σ 15 0)) 0) 24 (ix (σ 15 0)) 0) 25 (ix (σ 15 0)) 0) 26 (ix (σ 15 0)) (-1)) 27 (ix (σ 15 0)) x5) 28 (ix (σ 15 0)) (-1)) 29 (ix (σ 15 0)) (-1)) 15 0 ((σ 15 0) + 1)) L ++ (wC cA h (up (up (up (up (up (up (up (up (up (up (up (up (up (up (up σ 16 (ix (σ 15 0)) x1) 17 (ix (σ 15 0)) x2) 18 (ix (σ 15 0)) x3) 19 (ix (σ 15 0)) x4) 20 (ix (σ 15 0)) 0) 21 (ix (σ 15 0)) 0) 22 (ix (σ 15 0)) 0) 23 (ix (σ 15 0)) 0) 24 (ix (σ 15 0)) 0) 25 (ix (σ 15 0)) 0) 26 (ix (σ 15 0)) (-1)) 27 (ix (σ 15 0)) x5) 28 (ix (σ 15 0)) (-1)) 29 (ix (σ 15 0)) (-1)) 15 0 ((σ 15 0) + 1)) ++ F))) rfl dX7_add_127 (fun H locs hw => ?_)
  refine lv_iload hx hb dX7_add_130 (lv_at hl 0 rfl) ?_
  cases hM
  exact q_reti E hw dX7_add_132
def f_X7_isActive   (x1 : Int32) (σ : Sg) : Option (Int32) := if ib x1 60 then (if (σ 21 (ix x1)) = 0 then some 1 else (if (σ 21 (ix x1)) = 1 then some 1 else some 0)) else none
set_option maxRecDepth 100000 in
set_option maxHeartbeats 4000000 in
theorem c_X7_isActive (l : Launch) (D : va_G) (cA : Nat → ClassId) (tS : Nat → Nat) (A : Nat → Prop) (h : Nat → Nat) (L : Nat) (F : va_W) (x1 : Int32) (σ : Sg) (r0 : Int32) (hM : f_X7_isActive x1 σ = some r0) : Ct l yX7_isActive (Cond.code yX7_isActive cX7_isActive 2 (some .boolean) :: bw) 0 0 D cA tS A [.ref (h 44), .int x1] (wK cA h σ ++ (wLg cA h σ L ++ (wC cA h σ ++ F))) (some (.int r0)) (wK cA h σ ++ (wLg cA h σ L ++ (wC cA h σ ++ F))) := by
  refine ct_of (by decide +kernel) (Nat.le_of_ble_eq_true rfl) ?_
  intro p e s m below meth c E hw ls hl
  replace E : Ev p cX7_isActive 2 (some .boolean) RX7 (Cond.code yX7_isActive cX7_isActive 2 (some .boolean) :: bw) D cA tS A s m _ meth c := E
  replace hl : lv_has ls 2 [(0, .ref (h 44)), (1, .int x1)] := hl
  have hx := E.1.1
  have hb := E.1.2.1
  unfold f_X7_isActive at hM
  refine lv_aload_n hx hb dX7_isActive_0 rfl (lv_at hl 0 rfl) ?_
  refine q_get (C := RX7) (T := TX7) (N := 15) (ci := 7) E (fun w h => List.mem_cons_of_mem _ (inX7 w h)) hw 16 rfl rfl 5 (by decide) (List.mem_cons_of_mem _ tb_273) (v := .ref (h 21)) rfl dX7_isActive_1 ?_
  refine lv_iload_n hx hb dX7_isActive_4 rfl (lv_at hl 1 rfl) ?_
  obtain ⟨g1, hM⟩ := g_some hM
  refine q_ald E hw 22 (n := 60) rfl g1 (x := (σ 21 (ix x1))) rfl dX7_isActive_5 ?_
  refine lv_if_eq (tgt := 19) hx hb dX7_isActive_6 (by decide) (fun c2 => ?_) (fun c2 => ?_)
  · replace hM := i_pos hM c2
    refine lv_iconst (v := 1) hx hb dX7_isActive_19 (by decide) ?_
    refine lv_goto (tgt := 24) hx hb dX7_isActive_20 (by decide) ?_
    cases hM
    exact q_retz E hw (by decide) dX7_isActive_24
  · replace hM := i_neg hM c2
    refine lv_aload_n hx hb dX7_isActive_9 rfl (lv_at hl 0 rfl) ?_
    refine q_get (C := RX7) (T := TX7) (N := 15) (ci := 7) E (fun w h => List.mem_cons_of_mem _ (inX7 w h)) hw 16 rfl rfl 5 (by decide) (List.mem_cons_of_mem _ tb_273) (v := .ref (h 21)) rfl dX7_isActive_10 ?_
    refine lv_iload_n hx hb dX7_isActive_13 rfl (lv_at hl 1 rfl) ?_
    refine q_ald E hw 22 (n := 60) rfl g1 (x := (σ 21 (ix x1))) rfl dX7_isActive_14 ?_
    refine lv_iconst (v := 1) hx hb dX7_isActive_15 (by decide) ?_
    refine lv_icmp_ne (tgt := 23) hx hb dX7_isActive_16 (by decide) (fun c3 => ?_) (fun c3 => ?_)
    · replace hM := i_neg hM c3
      refine lv_iconst (v := 0) hx hb dX7_isActive_23 (by decide) ?_
      cases hM
      exact q_retz E hw (by decide) dX7_isActive_24
    · replace hM := i_pos hM c3
      refine lv_iconst (v := 1) hx hb dX7_isActive_19 (by decide) ?_
      refine lv_goto (tgt := 24) hx hb dX7_isActive_20 (by decide) ?_
      cases hM
      exact q_retz E hw (by decide) dX7_isActive_24
def f_X7_standsAlone   (x1 : Int32) (σ : Sg) : Option (Int32) := (f_X7_isActive x1 σ).bind (fun p1 => (if p1 = 0 then if ib x1 60 then (if (σ 21 (ix x1)) = 2 then some 1 else some 0) else none else some 1))
set_option maxRecDepth 100000 in
set_option maxHeartbeats 4000000 in
theorem c_X7_standsAlone (l : Launch) (D : va_G) (cA : Nat → ClassId) (tS : Nat → Nat) (A : Nat → Prop) (h : Nat → Nat) (L : Nat) (F : va_W) (x1 : Int32) (σ : Sg) (r0 : Int32) (hM : f_X7_standsAlone x1 σ = some r0) : Ct l yX7_standsAlone (Cond.code yX7_standsAlone cX7_standsAlone 2 (some .boolean) :: bw) 1 21 D cA tS A [.ref (h 44), .int x1] (wK cA h σ ++ (wLg cA h σ L ++ (wC cA h σ ++ F))) (some (.int r0)) (wK cA h σ ++ (wLg cA h σ L ++ (wC cA h σ ++ F))) := by
  refine ct_of (by decide +kernel) (Nat.le_of_ble_eq_true rfl) ?_
  intro p e s m below meth c E hw ls hl
  replace E : Ev p cX7_standsAlone 2 (some .boolean) RX7 (Cond.code yX7_standsAlone cX7_standsAlone 2 (some .boolean) :: bw) D cA tS A s m _ meth c := E
  replace hl : lv_has ls 2 [(0, .ref (h 44)), (1, .int x1)] := hl
  have hx := E.1.1
  have hb := E.1.2.1
  unfold f_X7_standsAlone at hM
  refine lv_aload_n hx hb dX7_standsAlone_0 rfl (lv_at hl 0 rfl) ?_
  refine lv_iload_n hx hb dX7_standsAlone_1 rfl (lv_at hl 1 rfl) ?_
  obtain ⟨p1, h2, hM⟩ := b_some hM
  refine q_cv (As := [.int x1]) (rest := []) E hw hl (c_X7_isActive l D cA tS A h L F x1 σ p1 h2) 1 (bwV bw_c tb_503 tb_504 tb_505 tb_108 tb_506) rfl (by decide +kernel) ⟨Nat.le_of_ble_eq_true rfl, Nat.le_of_ble_eq_true rfl⟩ 16 7 (T := TX7) (N := 15) rfl rfl rfl rfl (Nat.le_of_ble_eq_true rfl) ⟨Nat.zero_le _, Nat.zero_le _⟩ dX7_standsAlone_2 (fun H locs hw => ?_)
  refine lv_if_ne (tgt := 18) hx hb dX7_standsAlone_5 (by decide) (fun c3 => ?_) (fun c3 => ?_)
  · replace hM := i_neg hM c3
    refine lv_iconst (v := 1) hx hb dX7_standsAlone_18 (by decide) ?_
    refine lv_goto (tgt := 23) hx hb dX7_standsAlone_19 (by decide) ?_
    cases hM
    exact q_retz E hw (by decide) dX7_standsAlone_23
  · replace hM := i_pos hM c3
    refine lv_aload_n hx hb dX7_standsAlone_8 rfl (lv_at hl 0 rfl) ?_
    refine q_get (C := RX7) (T := TX7) (N := 15) (ci := 7) E (fun w h => List.mem_cons_of_mem _ (inX7 w h)) hw 16 rfl rfl 5 (by decide) (List.mem_cons_of_mem _ tb_273) (v := .ref (h 21)) rfl dX7_standsAlone_9 ?_
    refine lv_iload_n hx hb dX7_standsAlone_12 rfl (lv_at hl 1 rfl) ?_
    obtain ⟨g4, hM⟩ := g_some hM
    refine q_ald E hw 22 (n := 60) rfl g4 (x := (σ 21 (ix x1))) rfl dX7_standsAlone_13 ?_
    refine lv_iconst (v := 2) hx hb dX7_standsAlone_14 (by decide) ?_
    refine lv_icmp_ne (tgt := 22) hx hb dX7_standsAlone_15 (by decide) (fun c5 => ?_) (fun c5 => ?_)
    · replace hM := i_neg hM c5
      refine lv_iconst (v := 0) hx hb dX7_standsAlone_22 (by decide) ?_
      cases hM
      exact q_retz E hw (by decide) dX7_standsAlone_23
    · replace hM := i_pos hM c5
      refine lv_iconst (v := 1) hx hb dX7_standsAlone_18 (by decide) ?_
      refine lv_goto (tgt := 23) hx hb dX7_standsAlone_19 (by decide) ?_
      cases hM
      exact q_retz E hw (by decide) dX7_standsAlone_23
def f_X7_isAnswered   (x1 : Int32) (σ : Sg) : Option (Int32) := if ib x1 60 then (if (σ 28 (ix x1)) = (-1) then some 0 else some 1) else none
set_option maxRecDepth 100000 in
set_option maxHeartbeats 4000000 in
theorem c_X7_isAnswered (l : Launch) (D : va_G) (cA : Nat → ClassId) (tS : Nat → Nat) (A : Nat → Prop) (h : Nat → Nat) (L : Nat) (F : va_W) (x1 : Int32) (σ : Sg) (r0 : Int32) (hM : f_X7_isAnswered x1 σ = some r0) : Ct l yX7_isAnswered (Cond.code yX7_isAnswered cX7_isAnswered 2 (some .boolean) :: bw) 0 0 D cA tS A [.ref (h 44), .int x1] (wK cA h σ ++ (wLg cA h σ L ++ (wC cA h σ ++ F))) (some (.int r0)) (wK cA h σ ++ (wLg cA h σ L ++ (wC cA h σ ++ F))) := by
  refine ct_of (by decide +kernel) (Nat.le_of_ble_eq_true rfl) ?_
  intro p e s m below meth c E hw ls hl
  replace E : Ev p cX7_isAnswered 2 (some .boolean) RX7 (Cond.code yX7_isAnswered cX7_isAnswered 2 (some .boolean) :: bw) D cA tS A s m _ meth c := E
  replace hl : lv_has ls 2 [(0, .ref (h 44)), (1, .int x1)] := hl
  have hx := E.1.1
  have hb := E.1.2.1
  unfold f_X7_isAnswered at hM
  refine lv_aload_n hx hb dX7_isAnswered_0 rfl (lv_at hl 0 rfl) ?_
  refine q_get (C := RX7) (T := TX7) (N := 15) (ci := 7) E (fun w h => List.mem_cons_of_mem _ (inX7 w h)) hw 16 rfl rfl 12 (by decide) (List.mem_cons_of_mem _ tb_292) (v := .ref (h 28)) rfl dX7_isAnswered_1 ?_
  refine lv_iload_n hx hb dX7_isAnswered_4 rfl (lv_at hl 1 rfl) ?_
  obtain ⟨g1, hM⟩ := g_some hM
  refine q_ald E hw 29 (n := 60) rfl g1 (x := (σ 28 (ix x1))) rfl dX7_isAnswered_5 ?_
  refine lv_iconst (v := (-1)) hx hb dX7_isAnswered_6 (by decide) ?_
  refine lv_icmp_eq (tgt := 14) hx hb dX7_isAnswered_7 (by decide) (fun c2 => ?_) (fun c2 => ?_)
  · replace hM := i_pos hM c2
    refine lv_iconst (v := 0) hx hb dX7_isAnswered_14 (by decide) ?_
    cases hM
    exact q_retz E hw (by decide) dX7_isAnswered_15
  · replace hM := i_neg hM c2
    refine lv_iconst (v := 1) hx hb dX7_isAnswered_10 (by decide) ?_
    refine lv_goto (tgt := 15) hx hb dX7_isAnswered_11 (by decide) ?_
    cases hM
    exact q_retz E hw (by decide) dX7_isAnswered_15
def f_X7_responseRuns   (x1 : Int32) (σ : Sg) : Option (Int32) := (f_X7_isAnswered x1 σ).bind (fun p1 => (if p1 = 0 then if ib x1 60 then (if (σ 21 (ix x1)) = 4 then (f_X7_exists (σ 26 (ix x1)) σ).bind (fun p8 => (if p8 = 0 then some 0 else (f_X7_isAnswered (σ 26 (ix x1)) σ).bind (fun p11 => (if p11 = 0 then some 1 else some 0)))) else (if (σ 21 (ix x1)) = 0 then some 1 else (if (σ 21 (ix x1)) = 2 then some 1 else some 0))) else none else some 0))
set_option maxRecDepth 100000 in
set_option maxHeartbeats 4000000 in
theorem c_X7_responseRuns (l : Launch) (D : va_G) (cA : Nat → ClassId) (tS : Nat → Nat) (A : Nat → Prop) (h : Nat → Nat) (L : Nat) (F : va_W) (x1 : Int32) (σ : Sg) (r0 : Int32) (hM : f_X7_responseRuns x1 σ = some r0) : Ct l yX7_responseRuns (Cond.code yX7_responseRuns cX7_responseRuns 2 (some .boolean) :: bw) 1 21 D cA tS A [.ref (h 44), .int x1] (wK cA h σ ++ (wLg cA h σ L ++ (wC cA h σ ++ F))) (some (.int r0)) (wK cA h σ ++ (wLg cA h σ L ++ (wC cA h σ ++ F))) := by
  refine ct_of (by decide +kernel) (Nat.le_of_ble_eq_true rfl) ?_
  intro p e s m below meth c E hw ls hl
  replace E : Ev p cX7_responseRuns 2 (some .boolean) RX7 (Cond.code yX7_responseRuns cX7_responseRuns 2 (some .boolean) :: bw) D cA tS A s m _ meth c := E
  replace hl : lv_has ls 2 [(0, .ref (h 44)), (1, .int x1)] := hl
  have hx := E.1.1
  have hb := E.1.2.1
  unfold f_X7_responseRuns at hM
  refine lv_aload_n hx hb dX7_responseRuns_0 rfl (lv_at hl 0 rfl) ?_
  refine lv_iload_n hx hb dX7_responseRuns_1 rfl (lv_at hl 1 rfl) ?_
  obtain ⟨p1, h2, hM⟩ := b_some hM
  refine q_cv (As := [.int x1]) (rest := []) E hw hl (c_X7_isAnswered l D cA tS A h L F x1 σ p1 h2) 1 (bwV bw_c tb_742 tb_718 tb_719 tb_108 tb_720) rfl (by decide +kernel) ⟨Nat.le_of_ble_eq_true rfl, Nat.le_of_ble_eq_true rfl⟩ 16 7 (T := TX7) (N := 15) rfl rfl rfl rfl (Nat.le_of_ble_eq_true rfl) ⟨Nat.zero_le _, Nat.zero_le _⟩ dX7_responseRuns_2 (fun H locs hw => ?_)
  refine lv_if_eq (tgt := 10) hx hb dX7_responseRuns_5 (by decide) (fun c3 => ?_) (fun c3 => ?_)
  · replace hM := i_pos hM c3
    refine lv_aload_n hx hb dX7_responseRuns_10 rfl (lv_at hl 0 rfl) ?_
    refine q_get (C := RX7) (T := TX7) (N := 15) (ci := 7) E (fun w h => List.mem_cons_of_mem _ (inX7 w h)) hw 16 rfl rfl 5 (by decide) (List.mem_cons_of_mem _ tb_273) (v := .ref (h 21)) rfl dX7_responseRuns_11 ?_
    refine lv_iload_n hx hb dX7_responseRuns_14 rfl (lv_at hl 1 rfl) ?_
    obtain ⟨g4, hM⟩ := g_some hM
    refine q_ald E hw 22 (n := 60) rfl g4 (x := (σ 21 (ix x1))) rfl dX7_responseRuns_15 ?_
    refine lv_iconst (v := 4) hx hb dX7_responseRuns_16 (by decide) ?_
    refine lv_icmp_ne (tgt := 52) hx hb dX7_responseRuns_17 (by decide) (fun c5 => ?_) (fun c5 => ?_)
    · replace hM := i_neg hM c5
      refine lv_aload_n hx hb dX7_responseRuns_52 rfl (lv_at hl 0 rfl) ?_
      refine q_get (C := RX7) (T := TX7) (N := 15) (ci := 7) E (fun w h => List.mem_cons_of_mem _ (inX7 w h)) hw 16 rfl rfl 5 (by decide) (List.mem_cons_of_mem _ tb_273) (v := .ref (h 21)) rfl dX7_responseRuns_53 ?_
      refine lv_iload_n hx hb dX7_responseRuns_56 rfl (lv_at hl 1 rfl) ?_
      refine q_ald E hw 22 (n := 60) rfl g4 (x := (σ 21 (ix x1))) rfl dX7_responseRuns_57 ?_
      refine lv_if_eq (tgt := 71) hx hb dX7_responseRuns_58 (by decide) (fun c6 => ?_) (fun c6 => ?_)
      · replace hM := i_pos hM c6
        refine lv_iconst (v := 1) hx hb dX7_responseRuns_71 (by decide) ?_
        refine lv_goto (tgt := 76) hx hb dX7_responseRuns_72 (by decide) ?_
        cases hM
        exact q_retz E hw (by decide) dX7_responseRuns_76
      · replace hM := i_neg hM c6
        refine lv_aload_n hx hb dX7_responseRuns_61 rfl (lv_at hl 0 rfl) ?_
        refine q_get (C := RX7) (T := TX7) (N := 15) (ci := 7) E (fun w h => List.mem_cons_of_mem _ (inX7 w h)) hw 16 rfl rfl 5 (by decide) (List.mem_cons_of_mem _ tb_273) (v := .ref (h 21)) rfl dX7_responseRuns_62 ?_
        refine lv_iload_n hx hb dX7_responseRuns_65 rfl (lv_at hl 1 rfl) ?_
        refine q_ald E hw 22 (n := 60) rfl g4 (x := (σ 21 (ix x1))) rfl dX7_responseRuns_66 ?_
        refine lv_iconst (v := 2) hx hb dX7_responseRuns_67 (by decide) ?_
        refine lv_icmp_ne (tgt := 75) hx hb dX7_responseRuns_68 (by decide) (fun c7 => ?_) (fun c7 => ?_)
        · replace hM := i_neg hM c7
          refine lv_iconst (v := 0) hx hb dX7_responseRuns_75 (by decide) ?_
          cases hM
          exact q_retz E hw (by decide) dX7_responseRuns_76
        · replace hM := i_pos hM c7
          refine lv_iconst (v := 1) hx hb dX7_responseRuns_71 (by decide) ?_
          refine lv_goto (tgt := 76) hx hb dX7_responseRuns_72 (by decide) ?_
          cases hM
          exact q_retz E hw (by decide) dX7_responseRuns_76
    · replace hM := i_pos hM c5
      refine lv_aload_n hx hb dX7_responseRuns_20 rfl (lv_at hl 0 rfl) ?_
      refine lv_aload_n hx hb dX7_responseRuns_21 rfl (lv_at hl 0 rfl) ?_
      refine q_get (C := RX7) (T := TX7) (N := 15) (ci := 7) E (fun w h => List.mem_cons_of_mem _ (inX7 w h)) hw 16 rfl rfl 10 (by decide) (List.mem_cons_of_mem _ tb_287) (v := .ref (h 26)) rfl dX7_responseRuns_22 ?_
      refine lv_iload_n hx hb dX7_responseRuns_25 rfl (lv_at hl 1 rfl) ?_
      refine q_ald E hw 27 (n := 60) rfl g4 (x := (σ 26 (ix x1))) rfl dX7_responseRuns_26 ?_
      obtain ⟨p8, h9, hM⟩ := b_some hM
      refine q_cv (As := [.int (σ 26 (ix x1))]) (rest := []) E hw hl (c_X7_exists l D cA tS A h L F (σ 26 (ix x1)) σ p8 h9) 1 (bwV bw_c tb_743 tb_496 tb_497 tb_108 tb_498) rfl (by decide +kernel) ⟨Nat.le_of_ble_eq_true rfl, Nat.le_of_ble_eq_true rfl⟩ 16 7 (T := TX7) (N := 15) rfl rfl rfl rfl (Nat.le_of_ble_eq_true rfl) ⟨Nat.zero_le _, Nat.zero_le _⟩ dX7_responseRuns_27 (fun H locs hw => ?_)
      refine lv_if_eq (tgt := 50) hx hb dX7_responseRuns_30 (by decide) (fun c10 => ?_) (fun c10 => ?_)
      · replace hM := i_pos hM c10
        refine lv_iconst (v := 0) hx hb dX7_responseRuns_50 (by decide) ?_
        cases hM
        exact q_retz E hw (by decide) dX7_responseRuns_51
      · replace hM := i_neg hM c10
        refine lv_aload_n hx hb dX7_responseRuns_33 rfl (lv_at hl 0 rfl) ?_
        refine lv_aload_n hx hb dX7_responseRuns_34 rfl (lv_at hl 0 rfl) ?_
        refine q_get (C := RX7) (T := TX7) (N := 15) (ci := 7) E (fun w h => List.mem_cons_of_mem _ (inX7 w h)) hw 16 rfl rfl 10 (by decide) (List.mem_cons_of_mem _ tb_287) (v := .ref (h 26)) rfl dX7_responseRuns_35 ?_
        refine lv_iload_n hx hb dX7_responseRuns_38 rfl (lv_at hl 1 rfl) ?_
        refine q_ald E hw 27 (n := 60) rfl g4 (x := (σ 26 (ix x1))) rfl dX7_responseRuns_39 ?_
        obtain ⟨p11, h12, hM⟩ := b_some hM
        refine q_cv (As := [.int (σ 26 (ix x1))]) (rest := []) E hw hl (c_X7_isAnswered l D cA tS A h L F (σ 26 (ix x1)) σ p11 h12) 1 (bwV bw_c tb_742 tb_718 tb_719 tb_108 tb_720) rfl (by decide +kernel) ⟨Nat.le_of_ble_eq_true rfl, Nat.le_of_ble_eq_true rfl⟩ 16 7 (T := TX7) (N := 15) rfl rfl rfl rfl (Nat.le_of_ble_eq_true rfl) ⟨Nat.zero_le _, Nat.zero_le _⟩ dX7_responseRuns_40 (fun H locs hw => ?_)
        refine lv_if_ne (tgt := 50) hx hb dX7_responseRuns_43 (by decide) (fun c13 => ?_) (fun c13 => ?_)
        · replace hM := i_neg hM c13
          refine lv_iconst (v := 0) hx hb dX7_responseRuns_50 (by decide) ?_
          cases hM
          exact q_retz E hw (by decide) dX7_responseRuns_51
        · replace hM := i_pos hM c13
          refine lv_iconst (v := 1) hx hb dX7_responseRuns_46 (by decide) ?_
          refine lv_goto (tgt := 51) hx hb dX7_responseRuns_47 (by decide) ?_
          cases hM
          exact q_retz E hw (by decide) dX7_responseRuns_51
  · replace hM := i_neg hM c3
    refine lv_iconst (v := 0) hx hb dX7_responseRuns_8 (by decide) ?_
    cases hM
    exact q_retz E hw (by decide) dX7_responseRuns_9
def f_X7_resolveRuns   (x1 : Int32) (σ : Sg) : Option (Int32) := if ib x1 60 then (if (σ 21 (ix x1)) = 4 then (f_X7_exists (σ 26 (ix x1)) σ).bind (fun p6 => (if p6 = 0 then some 0 else (f_X7_isActive (σ 26 (ix x1)) σ).bind (fun p9 => (if p9 = 0 then some 0 else some 1)))) else (f_X7_isActive x1 σ).bind (fun p3 => if bz p3 then some p3 else none)) else none
set_option maxRecDepth 100000 in
set_option maxHeartbeats 4000000 in
theorem c_X7_resolveRuns (l : Launch) (D : va_G) (cA : Nat → ClassId) (tS : Nat → Nat) (A : Nat → Prop) (h : Nat → Nat) (L : Nat) (F : va_W) (x1 : Int32) (σ : Sg) (r0 : Int32) (hM : f_X7_resolveRuns x1 σ = some r0) : Ct l yX7_resolveRuns (Cond.code yX7_resolveRuns cX7_resolveRuns 2 (some .boolean) :: bw) 1 21 D cA tS A [.ref (h 44), .int x1] (wK cA h σ ++ (wLg cA h σ L ++ (wC cA h σ ++ F))) (some (.int r0)) (wK cA h σ ++ (wLg cA h σ L ++ (wC cA h σ ++ F))) := by
  refine ct_of (by decide +kernel) (Nat.le_of_ble_eq_true rfl) ?_
  intro p e s m below meth c E hw ls hl
  replace E : Ev p cX7_resolveRuns 2 (some .boolean) RX7 (Cond.code yX7_resolveRuns cX7_resolveRuns 2 (some .boolean) :: bw) D cA tS A s m _ meth c := E
  replace hl : lv_has ls 2 [(0, .ref (h 44)), (1, .int x1)] := hl
  have hx := E.1.1
  have hb := E.1.2.1
  unfold f_X7_resolveRuns at hM
  refine lv_aload_n hx hb dX7_resolveRuns_0 rfl (lv_at hl 0 rfl) ?_
  refine q_get (C := RX7) (T := TX7) (N := 15) (ci := 7) E (fun w h => List.mem_cons_of_mem _ (inX7 w h)) hw 16 rfl rfl 5 (by decide) (List.mem_cons_of_mem _ tb_273) (v := .ref (h 21)) rfl dX7_resolveRuns_1 ?_
  refine lv_iload_n hx hb dX7_resolveRuns_4 rfl (lv_at hl 1 rfl) ?_
  obtain ⟨g1, hM⟩ := g_some hM
  refine q_ald E hw 22 (n := 60) rfl g1 (x := (σ 21 (ix x1))) rfl dX7_resolveRuns_5 ?_
  refine lv_iconst (v := 4) hx hb dX7_resolveRuns_6 (by decide) ?_
  refine lv_icmp_ne (tgt := 42) hx hb dX7_resolveRuns_7 (by decide) (fun c2 => ?_) (fun c2 => ?_)
  · replace hM := i_neg hM c2
    refine lv_aload_n hx hb dX7_resolveRuns_42 rfl (lv_at hl 0 rfl) ?_
    refine lv_iload_n hx hb dX7_resolveRuns_43 rfl (lv_at hl 1 rfl) ?_
    obtain ⟨p3, h4, hM⟩ := b_some hM
    refine q_cv (As := [.int x1]) (rest := []) E hw hl (c_X7_isActive l D cA tS A h L F x1 σ p3 h4) 1 (bwV bw_c tb_503 tb_504 tb_505 tb_108 tb_506) rfl (by decide +kernel) ⟨Nat.le_of_ble_eq_true rfl, Nat.le_of_ble_eq_true rfl⟩ 16 7 (T := TX7) (N := 15) rfl rfl rfl rfl (Nat.le_of_ble_eq_true rfl) ⟨Nat.zero_le _, Nat.zero_le _⟩ dX7_resolveRuns_44 (fun H locs hw => ?_)
    obtain ⟨g5, hM⟩ := g_some hM
    cases hM
    exact q_retz E hw g5 dX7_resolveRuns_47
  · replace hM := i_pos hM c2
    refine lv_aload_n hx hb dX7_resolveRuns_10 rfl (lv_at hl 0 rfl) ?_
    refine lv_aload_n hx hb dX7_resolveRuns_11 rfl (lv_at hl 0 rfl) ?_
    refine q_get (C := RX7) (T := TX7) (N := 15) (ci := 7) E (fun w h => List.mem_cons_of_mem _ (inX7 w h)) hw 16 rfl rfl 10 (by decide) (List.mem_cons_of_mem _ tb_287) (v := .ref (h 26)) rfl dX7_resolveRuns_12 ?_
    refine lv_iload_n hx hb dX7_resolveRuns_15 rfl (lv_at hl 1 rfl) ?_
    refine q_ald E hw 27 (n := 60) rfl g1 (x := (σ 26 (ix x1))) rfl dX7_resolveRuns_16 ?_
    obtain ⟨p6, h7, hM⟩ := b_some hM
    refine q_cv (As := [.int (σ 26 (ix x1))]) (rest := []) E hw hl (c_X7_exists l D cA tS A h L F (σ 26 (ix x1)) σ p6 h7) 1 (bwV bw_c tb_743 tb_496 tb_497 tb_108 tb_498) rfl (by decide +kernel) ⟨Nat.le_of_ble_eq_true rfl, Nat.le_of_ble_eq_true rfl⟩ 16 7 (T := TX7) (N := 15) rfl rfl rfl rfl (Nat.le_of_ble_eq_true rfl) ⟨Nat.zero_le _, Nat.zero_le _⟩ dX7_resolveRuns_17 (fun H locs hw => ?_)
    refine lv_if_eq (tgt := 40) hx hb dX7_resolveRuns_20 (by decide) (fun c8 => ?_) (fun c8 => ?_)
    · replace hM := i_pos hM c8
      refine lv_iconst (v := 0) hx hb dX7_resolveRuns_40 (by decide) ?_
      cases hM
      exact q_retz E hw (by decide) dX7_resolveRuns_41
    · replace hM := i_neg hM c8
      refine lv_aload_n hx hb dX7_resolveRuns_23 rfl (lv_at hl 0 rfl) ?_
      refine lv_aload_n hx hb dX7_resolveRuns_24 rfl (lv_at hl 0 rfl) ?_
      refine q_get (C := RX7) (T := TX7) (N := 15) (ci := 7) E (fun w h => List.mem_cons_of_mem _ (inX7 w h)) hw 16 rfl rfl 10 (by decide) (List.mem_cons_of_mem _ tb_287) (v := .ref (h 26)) rfl dX7_resolveRuns_25 ?_
      refine lv_iload_n hx hb dX7_resolveRuns_28 rfl (lv_at hl 1 rfl) ?_
      refine q_ald E hw 27 (n := 60) rfl g1 (x := (σ 26 (ix x1))) rfl dX7_resolveRuns_29 ?_
      obtain ⟨p9, h10, hM⟩ := b_some hM
      refine q_cv (As := [.int (σ 26 (ix x1))]) (rest := []) E hw hl (c_X7_isActive l D cA tS A h L F (σ 26 (ix x1)) σ p9 h10) 1 (bwV bw_c tb_503 tb_504 tb_505 tb_108 tb_506) rfl (by decide +kernel) ⟨Nat.le_of_ble_eq_true rfl, Nat.le_of_ble_eq_true rfl⟩ 16 7 (T := TX7) (N := 15) rfl rfl rfl rfl (Nat.le_of_ble_eq_true rfl) ⟨Nat.zero_le _, Nat.zero_le _⟩ dX7_resolveRuns_30 (fun H locs hw => ?_)
      refine lv_if_eq (tgt := 40) hx hb dX7_resolveRuns_33 (by decide) (fun c11 => ?_) (fun c11 => ?_)
      · replace hM := i_pos hM c11
        refine lv_iconst (v := 0) hx hb dX7_resolveRuns_40 (by decide) ?_
        cases hM
        exact q_retz E hw (by decide) dX7_resolveRuns_41
      · replace hM := i_neg hM c11
        refine lv_iconst (v := 1) hx hb dX7_resolveRuns_36 (by decide) ?_
        refine lv_goto (tgt := 41) hx hb dX7_resolveRuns_37 (by decide) ?_
        cases hM
        exact q_retz E hw (by decide) dX7_resolveRuns_41
def f_X7_countAt_5 (N : Nat)  : Nat → Int32 → Int32 → Int32 → Int32 → Sg → Option (Int32)
  | 0, _, _, _, _, _ => none
  | n + 1, x1, x2, x3, x4, σ => (if (σ 15 0) ≤ x4 then some x3 else if ib x4 60 then (if (σ 21 (ix x4)) = x2 then (if (σ 20 (ix x4)) = x1 then f_X7_countAt_5 N n x1 x2 (x3 + 1) (x4 + 1) σ else f_X7_countAt_5 N n x1 x2 x3 (x4 + 1) σ) else f_X7_countAt_5 N n x1 x2 x3 (x4 + 1) σ) else none)
set_option maxRecDepth 100000 in
set_option maxHeartbeats 4000000 in
theorem s_X7_countAt_5 (l : Launch) (D : va_G) (cA : Nat → ClassId) (tS : Nat → Nat) (A : Nat → Prop) (h : Nat → Nat) (L : Nat) (F : va_W) (N : Nat) {p : Program} {e : Env} {s : State} {m : MethodId} {args : Array Value} {below : List Frame} {meth : Method} {c : Code} (E : Ev p cX7_countAt 5 (some .int) RX7 (Cond.code yX7_countAt cX7_countAt 5 (some .int) :: bw) D cA tS A s m args meth c) : ∀ (n : Nat) (x1 : Int32) (x2 : Int32) (x3 : Int32) (x4 : Int32) (σ : Sg) (r0 : Int32) (hM : f_X7_countAt_5 N n x1 x2 x3 x4 σ = some r0) (H : Heap) (locs : List Loc) (hw : Wd D A (wK cA h σ ++ (wLg cA h σ L ++ (wC cA h σ ++ F))) s.heap H locs) (ls : Array Slot) (hl : lv_has ls 5 [(0, .ref (h 44)), (1, .int x1), (2, .int x2), (3, .int x3), (4, .int x4)]), W p l e ({ frames := 0, cells := 0, slots := 0, locals := 0 } : Room) s m args below meth c H locs 0 0 (MQ below (QW D A (some (.int r0)) (wK cA h σ ++ (wLg cA h σ L ++ (wC cA h σ ++ F)))) args s 0 0 A) (F0 m 5 ls []) := by
  have hx := E.1.1
  have hb := E.1.2.1
  intro n
  induction n with
  | zero =>
    intro x1 x2 x3 x4 σ r0 hM
    cases hM
  | succ n ih =>
    intro x1 x2 x3 x4 σ r0 hM H locs hw ls hl
    rw [f_X7_countAt_5] at hM
    refine lv_iload hx hb dX7_countAt_5 (lv_at hl 4 rfl) ?_
    refine lv_aload_n hx hb dX7_countAt_7 rfl (lv_at hl 0 rfl) ?_
    refine q_get (C := RX7) (T := TX7) (N := 15) (ci := 7) E (fun w h => List.mem_cons_of_mem _ (inX7 w h)) hw 16 rfl rfl 14 (by decide) (List.mem_cons_of_mem _ tb_298) (v := .int (σ 15 0)) rfl dX7_countAt_8 ?_
    refine lv_icmp_ge (tgt := 45) hx hb dX7_countAt_11 (by decide) (fun c1 => ?_) (fun c1 => ?_)
    · replace hM := i_pos hM c1
      refine lv_iload_n hx hb dX7_countAt_45 rfl (lv_at hl 3 rfl) ?_
      cases hM
      exact q_reti E hw dX7_countAt_46
    · replace hM := i_neg hM c1
      refine lv_aload_n hx hb dX7_countAt_14 rfl (lv_at hl 0 rfl) ?_
      refine q_get (C := RX7) (T := TX7) (N := 15) (ci := 7) E (fun w h => List.mem_cons_of_mem _ (inX7 w h)) hw 16 rfl rfl 5 (by decide) (List.mem_cons_of_mem _ tb_273) (v := .ref (h 21)) rfl dX7_countAt_15 ?_
      refine lv_iload hx hb dX7_countAt_18 (lv_at hl 4 rfl) ?_
      obtain ⟨g2, hM⟩ := g_some hM
      refine q_ald E hw 22 (n := 60) rfl g2 (x := (σ 21 (ix x4))) rfl dX7_countAt_20 ?_
      refine lv_iload_n hx hb dX7_countAt_21 rfl (lv_at hl 2 rfl) ?_
      refine lv_icmp_ne (tgt := 39) hx hb dX7_countAt_22 (by decide) (fun c3 => ?_) (fun c3 => ?_)
      · replace hM := i_neg hM c3
        refine lv_iinc (v := (x4 + 1)) (lv' := [(4, .int (x4 + 1)), (0, .ref (h 44)), (1, .int x1), (2, .int x2), (3, .int x3)]) hx hb dX7_countAt_39 hl (k := 4) rfl rfl (by decide) rfl (fun ls hl => ?_)
        refine lv_goto (tgt := 5) hx hb dX7_countAt_42 (by decide) ?_
        exact ih _ _ _ _ _ _ hM _ _ hw _ (lv_sub hl [1, 2, 3, 4, 0] rfl)
      · replace hM := i_pos hM c3
        refine lv_aload_n hx hb dX7_countAt_25 rfl (lv_at hl 0 rfl) ?_
        refine q_get (C := RX7) (T := TX7) (N := 15) (ci := 7) E (fun w h => List.mem_cons_of_mem _ (inX7 w h)) hw 16 rfl rfl 4 (by decide) (List.mem_cons_of_mem _ tb_270) (v := .ref (h 20)) rfl dX7_countAt_26 ?_
        refine lv_iload hx hb dX7_countAt_29 (lv_at hl 4 rfl) ?_
        refine q_ald E hw 21 (n := 60) rfl g2 (x := (σ 20 (ix x4))) rfl dX7_countAt_31 ?_
        refine lv_iload_n hx hb dX7_countAt_32 rfl (lv_at hl 1 rfl) ?_
        refine lv_icmp_ne (tgt := 39) hx hb dX7_countAt_33 (by decide) (fun c4 => ?_) (fun c4 => ?_)
        · replace hM := i_neg hM c4
          refine lv_iinc (v := (x4 + 1)) (lv' := [(4, .int (x4 + 1)), (0, .ref (h 44)), (1, .int x1), (2, .int x2), (3, .int x3)]) hx hb dX7_countAt_39 hl (k := 4) rfl rfl (by decide) rfl (fun ls hl => ?_)
          refine lv_goto (tgt := 5) hx hb dX7_countAt_42 (by decide) ?_
          exact ih _ _ _ _ _ _ hM _ _ hw _ (lv_sub hl [1, 2, 3, 4, 0] rfl)
        · replace hM := i_pos hM c4
          refine lv_iinc (v := (x3 + 1)) (lv' := [(3, .int (x3 + 1)), (0, .ref (h 44)), (1, .int x1), (2, .int x2), (4, .int x4)]) hx hb dX7_countAt_36 hl (k := 3) rfl rfl (by decide) rfl (fun ls hl => ?_)
          refine lv_iinc (v := (x4 + 1)) (lv' := [(4, .int (x4 + 1)), (3, .int (x3 + 1)), (0, .ref (h 44)), (1, .int x1), (2, .int x2)]) hx hb dX7_countAt_39 hl (k := 4) rfl rfl (by decide) rfl (fun ls hl => ?_)
          refine lv_goto (tgt := 5) hx hb dX7_countAt_42 (by decide) ?_
          exact ih _ _ _ _ _ _ hM _ _ hw _ (lv_sub hl [2, 3, 4, 1, 0] rfl)
def f_X7_countAt (N : Nat)  (x1 : Int32) (x2 : Int32) (σ : Sg) : Option (Int32) := f_X7_countAt_5 N N x1 x2 0 0 σ
set_option maxRecDepth 100000 in
set_option maxHeartbeats 4000000 in
theorem c_X7_countAt (l : Launch) (D : va_G) (cA : Nat → ClassId) (tS : Nat → Nat) (A : Nat → Prop) (h : Nat → Nat) (L : Nat) (F : va_W) (N : Nat) (x1 : Int32) (x2 : Int32) (σ : Sg) (r0 : Int32) (hM : f_X7_countAt N x1 x2 σ = some r0) : Ct l yX7_countAt (Cond.code yX7_countAt cX7_countAt 5 (some .int) :: bw) 0 0 D cA tS A [.ref (h 44), .int x1, .int x2] (wK cA h σ ++ (wLg cA h σ L ++ (wC cA h σ ++ F))) (some (.int r0)) (wK cA h σ ++ (wLg cA h σ L ++ (wC cA h σ ++ F))) := by
  refine ct_of (by decide +kernel) (Nat.le_of_ble_eq_true rfl) ?_
  intro p e s m below meth c E hw ls hl
  replace E : Ev p cX7_countAt 5 (some .int) RX7 (Cond.code yX7_countAt cX7_countAt 5 (some .int) :: bw) D cA tS A s m _ meth c := E
  replace hl : lv_has ls 5 [(0, .ref (h 44)), (1, .int x1), (2, .int x2)] := hl
  have hx := E.1.1
  have hb := E.1.2.1
  unfold f_X7_countAt at hM
  refine lv_iconst (v := 0) hx hb dX7_countAt_0 (by decide) ?_
  refine lv_istore_n (lv' := [(3, .int 0), (0, .ref (h 44)), (1, .int x1), (2, .int x2)]) hx hb dX7_countAt_1 rfl hl (by decide) rfl (fun ls hl => ?_)
  refine lv_iconst (v := 0) hx hb dX7_countAt_2 (by decide) ?_
  refine lv_istore (lv' := [(4, .int 0), (3, .int 0), (0, .ref (h 44)), (1, .int x1), (2, .int x2)]) hx hb dX7_countAt_3 hl (by decide) rfl (fun ls hl => ?_)
  exact s_X7_countAt_5 l D cA tS A h L F N E N _ _ _ _ _ _ hM _ _ hw _ (lv_sub hl [2, 3, 4, 1, 0] rfl)
def f_X7_countSolved_4 (N : Nat)  : Nat → Int32 → Int32 → Sg → Option (Int32)
  | 0, _, _, _ => none
  | n + 1, x1, x2, σ => (if (σ 15 0) ≤ x2 then some x1 else if ib x2 60 then (if (σ 21 (ix x2)) = 3 then f_X7_countSolved_4 N n (x1 + 1) (x2 + 1) σ else f_X7_countSolved_4 N n x1 (x2 + 1) σ) else none)
set_option maxRecDepth 100000 in
set_option maxHeartbeats 4000000 in
theorem s_X7_countSolved_4 (l : Launch) (D : va_G) (cA : Nat → ClassId) (tS : Nat → Nat) (A : Nat → Prop) (h : Nat → Nat) (L : Nat) (F : va_W) (N : Nat) {p : Program} {e : Env} {s : State} {m : MethodId} {args : Array Value} {below : List Frame} {meth : Method} {c : Code} (E : Ev p cX7_countSolved 3 (some .int) RX7 (Cond.code yX7_countSolved cX7_countSolved 3 (some .int) :: bw) D cA tS A s m args meth c) : ∀ (n : Nat) (x1 : Int32) (x2 : Int32) (σ : Sg) (r0 : Int32) (hM : f_X7_countSolved_4 N n x1 x2 σ = some r0) (H : Heap) (locs : List Loc) (hw : Wd D A (wK cA h σ ++ (wLg cA h σ L ++ (wC cA h σ ++ F))) s.heap H locs) (ls : Array Slot) (hl : lv_has ls 3 [(0, .ref (h 44)), (1, .int x1), (2, .int x2)]), W p l e ({ frames := 0, cells := 0, slots := 0, locals := 0 } : Room) s m args below meth c H locs 0 0 (MQ below (QW D A (some (.int r0)) (wK cA h σ ++ (wLg cA h σ L ++ (wC cA h σ ++ F)))) args s 0 0 A) (F0 m 4 ls []) := by
  have hx := E.1.1
  have hb := E.1.2.1
  intro n
  induction n with
  | zero =>
    intro x1 x2 σ r0 hM
    cases hM
  | succ n ih =>
    intro x1 x2 σ r0 hM H locs hw ls hl
    rw [f_X7_countSolved_4] at hM
    refine lv_iload_n hx hb dX7_countSolved_4 rfl (lv_at hl 2 rfl) ?_
    refine lv_aload_n hx hb dX7_countSolved_5 rfl (lv_at hl 0 rfl) ?_
    refine q_get (C := RX7) (T := TX7) (N := 15) (ci := 7) E (fun w h => List.mem_cons_of_mem _ (inX7 w h)) hw 16 rfl rfl 14 (by decide) (List.mem_cons_of_mem _ tb_298) (v := .int (σ 15 0)) rfl dX7_countSolved_6 ?_
    refine lv_icmp_ge (tgt := 31) hx hb dX7_countSolved_9 (by decide) (fun c1 => ?_) (fun c1 => ?_)
    · replace hM := i_pos hM c1
      refine lv_iload_n hx hb dX7_countSolved_31 rfl (lv_at hl 1 rfl) ?_
      cases hM
      exact q_reti E hw dX7_countSolved_32
    · replace hM := i_neg hM c1
      refine lv_aload_n hx hb dX7_countSolved_12 rfl (lv_at hl 0 rfl) ?_
      refine q_get (C := RX7) (T := TX7) (N := 15) (ci := 7) E (fun w h => List.mem_cons_of_mem _ (inX7 w h)) hw 16 rfl rfl 5 (by decide) (List.mem_cons_of_mem _ tb_273) (v := .ref (h 21)) rfl dX7_countSolved_13 ?_
      refine lv_iload_n hx hb dX7_countSolved_16 rfl (lv_at hl 2 rfl) ?_
      obtain ⟨g2, hM⟩ := g_some hM
      refine q_ald E hw 22 (n := 60) rfl g2 (x := (σ 21 (ix x2))) rfl dX7_countSolved_17 ?_
      refine lv_iconst (v := 3) hx hb dX7_countSolved_18 (by decide) ?_
      refine lv_icmp_ne (tgt := 25) hx hb dX7_countSolved_19 (by decide) (fun c3 => ?_) (fun c3 => ?_)
      · replace hM := i_neg hM c3
        refine lv_iinc (v := (x2 + 1)) (lv' := [(2, .int (x2 + 1)), (0, .ref (h 44)), (1, .int x1)]) hx hb dX7_countSolved_25 hl (k := 2) rfl rfl (by decide) rfl (fun ls hl => ?_)
        refine lv_goto (tgt := 4) hx hb dX7_countSolved_28 (by decide) ?_
        exact ih _ _ _ _ hM _ _ hw _ (lv_sub hl [1, 2, 0] rfl)
      · replace hM := i_pos hM c3
        refine lv_iinc (v := (x1 + 1)) (lv' := [(1, .int (x1 + 1)), (0, .ref (h 44)), (2, .int x2)]) hx hb dX7_countSolved_22 hl (k := 1) rfl rfl (by decide) rfl (fun ls hl => ?_)
        refine lv_iinc (v := (x2 + 1)) (lv' := [(2, .int (x2 + 1)), (1, .int (x1 + 1)), (0, .ref (h 44))]) hx hb dX7_countSolved_25 hl (k := 2) rfl rfl (by decide) rfl (fun ls hl => ?_)
        refine lv_goto (tgt := 4) hx hb dX7_countSolved_28 (by decide) ?_
        exact ih _ _ _ _ hM _ _ hw _ (lv_sub hl [2, 1, 0] rfl)
def f_X7_countSolved (N : Nat)  (σ : Sg) : Option (Int32) := f_X7_countSolved_4 N N 0 0 σ
set_option maxRecDepth 100000 in
set_option maxHeartbeats 4000000 in
theorem c_X7_countSolved (l : Launch) (D : va_G) (cA : Nat → ClassId) (tS : Nat → Nat) (A : Nat → Prop) (h : Nat → Nat) (L : Nat) (F : va_W) (N : Nat) (σ : Sg) (r0 : Int32) (hM : f_X7_countSolved N σ = some r0) : Ct l yX7_countSolved (Cond.code yX7_countSolved cX7_countSolved 3 (some .int) :: bw) 0 0 D cA tS A [.ref (h 44)] (wK cA h σ ++ (wLg cA h σ L ++ (wC cA h σ ++ F))) (some (.int r0)) (wK cA h σ ++ (wLg cA h σ L ++ (wC cA h σ ++ F))) := by
  refine ct_of (by decide +kernel) (Nat.le_of_ble_eq_true rfl) ?_
  intro p e s m below meth c E hw ls hl
  replace E : Ev p cX7_countSolved 3 (some .int) RX7 (Cond.code yX7_countSolved cX7_countSolved 3 (some .int) :: bw) D cA tS A s m _ meth c := E
  replace hl : lv_has ls 3 [(0, .ref (h 44))] := hl
  have hx := E.1.1
  have hb := E.1.2.1
  unfold f_X7_countSolved at hM
  refine lv_iconst (v := 0) hx hb dX7_countSolved_0 (by decide) ?_
  refine lv_istore_n (lv' := [(1, .int 0), (0, .ref (h 44))]) hx hb dX7_countSolved_1 rfl hl (by decide) rfl (fun ls hl => ?_)
  refine lv_iconst (v := 0) hx hb dX7_countSolved_2 (by decide) ?_
  refine lv_istore_n (lv' := [(2, .int 0), (1, .int 0), (0, .ref (h 44))]) hx hb dX7_countSolved_3 rfl hl (by decide) rfl (fun ls hl => ?_)
  exact s_X7_countSolved_4 l D cA tS A h L F N E N _ _ _ _ hM _ _ hw _ (lv_sub hl [2, 1, 0] rfl)
def f_X7_twinMask_5 (N : Nat)  : Nat → Int32 → Int64 → Int32 → Sg → Option (Int64)
  | 0, _, _, _, _ => none
  | n + 1, x1, y2, x4, σ => (if (σ 15 0) ≤ x4 then some y2 else if ib x4 60 then (if (σ 26 (ix x4)) = x1 then f_X7_twinMask_5 N n x1 (y2 ||| (1 <<< ((x4 : Int32).toInt64 &&& 63))) (x4 + 1) σ else f_X7_twinMask_5 N n x1 y2 (x4 + 1) σ) else none)
set_option maxRecDepth 100000 in
set_option maxHeartbeats 4000000 in
theorem s_X7_twinMask_5 (l : Launch) (D : va_G) (cA : Nat → ClassId) (tS : Nat → Nat) (A : Nat → Prop) (h : Nat → Nat) (L : Nat) (F : va_W) (N : Nat) {p : Program} {e : Env} {s : State} {m : MethodId} {args : Array Value} {below : List Frame} {meth : Method} {c : Code} (E : Ev p cX7_twinMask 5 (some .long) RX7 (Cond.code yX7_twinMask cX7_twinMask 5 (some .long) :: bw) D cA tS A s m args meth c) : ∀ (n : Nat) (x1 : Int32) (y2 : Int64) (x4 : Int32) (σ : Sg) (r0 : Int64) (hM : f_X7_twinMask_5 N n x1 y2 x4 σ = some r0) (H : Heap) (locs : List Loc) (hw : Wd D A (wK cA h σ ++ (wLg cA h σ L ++ (wC cA h σ ++ F))) s.heap H locs) (ls : Array Slot) (hl : lv_has ls 5 [(0, .ref (h 44)), (1, .int x1), (2, .long y2), (4, .int x4)]), W p l e ({ frames := 0, cells := 0, slots := 0, locals := 0 } : Room) s m args below meth c H locs 0 0 (MQ below (QW D A (some (.long r0)) (wK cA h σ ++ (wLg cA h σ L ++ (wC cA h σ ++ F)))) args s 0 0 A) (F0 m 5 ls []) := by
  have hx := E.1.1
  have hb := E.1.2.1
  intro n
  induction n with
  | zero =>
    intro x1 y2 x4 σ r0 hM
    cases hM
  | succ n ih =>
    intro x1 y2 x4 σ r0 hM H locs hw ls hl
    rw [f_X7_twinMask_5] at hM
    refine lv_iload hx hb dX7_twinMask_5 (lv_at hl 3 rfl) ?_
    refine lv_aload_n hx hb dX7_twinMask_7 rfl (lv_at hl 0 rfl) ?_
    refine q_get (C := RX7) (T := TX7) (N := 15) (ci := 7) E (fun w h => List.mem_cons_of_mem _ (inX7 w h)) hw 16 rfl rfl 14 (by decide) (List.mem_cons_of_mem _ tb_298) (v := .int (σ 15 0)) rfl dX7_twinMask_8 ?_
    refine lv_icmp_ge (tgt := 38) hx hb dX7_twinMask_11 (by decide) (fun c1 => ?_) (fun c1 => ?_)
    · replace hM := i_pos hM c1
      refine lv_lload_n hx hb dX7_twinMask_38 rfl (lv_at hl 2 rfl) ?_
      cases hM
      exact q_retl E hw dX7_twinMask_39
    · replace hM := i_neg hM c1
      refine lv_aload_n hx hb dX7_twinMask_14 rfl (lv_at hl 0 rfl) ?_
      refine q_get (C := RX7) (T := TX7) (N := 15) (ci := 7) E (fun w h => List.mem_cons_of_mem _ (inX7 w h)) hw 16 rfl rfl 10 (by decide) (List.mem_cons_of_mem _ tb_287) (v := .ref (h 26)) rfl dX7_twinMask_15 ?_
      refine lv_iload hx hb dX7_twinMask_18 (lv_at hl 3 rfl) ?_
      obtain ⟨g2, hM⟩ := g_some hM
      refine q_ald E hw 27 (n := 60) rfl g2 (x := (σ 26 (ix x4))) rfl dX7_twinMask_20 ?_
      refine lv_iload_n hx hb dX7_twinMask_21 rfl (lv_at hl 1 rfl) ?_
      refine lv_icmp_ne (tgt := 32) hx hb dX7_twinMask_22 (by decide) (fun c3 => ?_) (fun c3 => ?_)
      · replace hM := i_neg hM c3
        refine lv_iinc (v := (x4 + 1)) (lv' := [(4, .int (x4 + 1)), (0, .ref (h 44)), (1, .int x1), (2, .long y2)]) hx hb dX7_twinMask_32 hl (k := 3) rfl rfl (by decide) rfl (fun ls hl => ?_)
        refine lv_goto (tgt := 5) hx hb dX7_twinMask_35 (by decide) ?_
        exact ih _ _ _ _ _ hM _ _ hw _ (lv_sub hl [1, 2, 3, 0] rfl)
      · replace hM := i_pos hM c3
        refine lv_lload_n hx hb dX7_twinMask_25 rfl (lv_at hl 2 rfl) ?_
        refine lv_lconst (v := 1) hx hb dX7_twinMask_26 (by decide) ?_
        refine lv_iload hx hb dX7_twinMask_27 (lv_at hl 3 rfl) ?_
        refine lv_lshl (v := (1 <<< ((x4 : Int32).toInt64 &&& 63))) hx hb dX7_twinMask_29 rfl ?_
        refine lv_lor hx hb dX7_twinMask_30 ?_
        refine lv_lstore_n (lv' := [(2, .long (y2 ||| (1 <<< ((x4 : Int32).toInt64 &&& 63)))), (0, .ref (h 44)), (1, .int x1), (4, .int x4)]) hx hb dX7_twinMask_31 rfl hl (by decide) rfl (fun ls hl => ?_)
        refine lv_iinc (v := (x4 + 1)) (lv' := [(4, .int (x4 + 1)), (2, .long (y2 ||| (1 <<< ((x4 : Int32).toInt64 &&& 63)))), (0, .ref (h 44)), (1, .int x1)]) hx hb dX7_twinMask_32 hl (k := 3) rfl rfl (by decide) rfl (fun ls hl => ?_)
        refine lv_goto (tgt := 5) hx hb dX7_twinMask_35 (by decide) ?_
        exact ih _ _ _ _ _ hM _ _ hw _ (lv_sub hl [2, 3, 1, 0] rfl)
def f_X7_twinMask (N : Nat)  (x1 : Int32) (σ : Sg) : Option (Int64) := f_X7_twinMask_5 N N x1 0 0 σ
set_option maxRecDepth 100000 in
set_option maxHeartbeats 4000000 in
theorem c_X7_twinMask (l : Launch) (D : va_G) (cA : Nat → ClassId) (tS : Nat → Nat) (A : Nat → Prop) (h : Nat → Nat) (L : Nat) (F : va_W) (N : Nat) (x1 : Int32) (σ : Sg) (r0 : Int64) (hM : f_X7_twinMask N x1 σ = some r0) : Ct l yX7_twinMask (Cond.code yX7_twinMask cX7_twinMask 5 (some .long) :: bw) 0 0 D cA tS A [.ref (h 44), .int x1] (wK cA h σ ++ (wLg cA h σ L ++ (wC cA h σ ++ F))) (some (.long r0)) (wK cA h σ ++ (wLg cA h σ L ++ (wC cA h σ ++ F))) := by
  refine ct_of (by decide +kernel) (Nat.le_of_ble_eq_true rfl) ?_
  intro p e s m below meth c E hw ls hl
  replace E : Ev p cX7_twinMask 5 (some .long) RX7 (Cond.code yX7_twinMask cX7_twinMask 5 (some .long) :: bw) D cA tS A s m _ meth c := E
  replace hl : lv_has ls 5 [(0, .ref (h 44)), (1, .int x1)] := hl
  have hx := E.1.1
  have hb := E.1.2.1
  unfold f_X7_twinMask at hM
  refine lv_lconst (v := 0) hx hb dX7_twinMask_0 (by decide) ?_
  refine lv_lstore_n (lv' := [(2, .long 0), (0, .ref (h 44)), (1, .int x1)]) hx hb dX7_twinMask_1 rfl hl (by decide) rfl (fun ls hl => ?_)
  refine lv_iconst (v := 0) hx hb dX7_twinMask_2 (by decide) ?_
  refine lv_istore (lv' := [(4, .int 0), (2, .long 0), (0, .ref (h 44)), (1, .int x1)]) hx hb dX7_twinMask_3 hl (by decide) rfl (fun ls hl => ?_)
  exact s_X7_twinMask_5 l D cA tS A h L F N E N _ _ _ _ _ hM _ _ hw _ (lv_sub hl [2, 3, 1, 0] rfl)
def f_X7_unsolvedMask_5 (N : Nat)  : Nat → Int32 → Int64 → Int32 → Sg → Option (Int64)
  | 0, _, _, _, _ => none
  | n + 1, x1, y2, x4, σ => (if (σ 15 0) ≤ x4 then some y2 else if ib x4 60 then (if (σ 17 (ix x4)) = x1 then (if (σ 21 (ix x4)) = 3 then f_X7_unsolvedMask_5 N n x1 y2 (x4 + 1) σ else f_X7_unsolvedMask_5 N n x1 (y2 ||| (1 <<< ((x4 : Int32).toInt64 &&& 63))) (x4 + 1) σ) else f_X7_unsolvedMask_5 N n x1 y2 (x4 + 1) σ) else none)
set_option maxRecDepth 100000 in
set_option maxHeartbeats 4000000 in
theorem s_X7_unsolvedMask_5 (l : Launch) (D : va_G) (cA : Nat → ClassId) (tS : Nat → Nat) (A : Nat → Prop) (h : Nat → Nat) (L : Nat) (F : va_W) (N : Nat) {p : Program} {e : Env} {s : State} {m : MethodId} {args : Array Value} {below : List Frame} {meth : Method} {c : Code} (E : Ev p cX7_unsolvedMask 5 (some .long) RX7 (Cond.code yX7_unsolvedMask cX7_unsolvedMask 5 (some .long) :: bw) D cA tS A s m args meth c) : ∀ (n : Nat) (x1 : Int32) (y2 : Int64) (x4 : Int32) (σ : Sg) (r0 : Int64) (hM : f_X7_unsolvedMask_5 N n x1 y2 x4 σ = some r0) (H : Heap) (locs : List Loc) (hw : Wd D A (wK cA h σ ++ (wLg cA h σ L ++ (wC cA h σ ++ F))) s.heap H locs) (ls : Array Slot) (hl : lv_has ls 5 [(0, .ref (h 44)), (1, .int x1), (2, .long y2), (4, .int x4)]), W p l e ({ frames := 0, cells := 0, slots := 0, locals := 0 } : Room) s m args below meth c H locs 0 0 (MQ below (QW D A (some (.long r0)) (wK cA h σ ++ (wLg cA h σ L ++ (wC cA h σ ++ F)))) args s 0 0 A) (F0 m 5 ls []) := by
  have hx := E.1.1
  have hb := E.1.2.1
  intro n
  induction n with
  | zero =>
    intro x1 y2 x4 σ r0 hM
    cases hM
  | succ n ih =>
    intro x1 y2 x4 σ r0 hM H locs hw ls hl
    rw [f_X7_unsolvedMask_5] at hM
    refine lv_iload hx hb dX7_unsolvedMask_5 (lv_at hl 3 rfl) ?_
    refine lv_aload_n hx hb dX7_unsolvedMask_7 rfl (lv_at hl 0 rfl) ?_
    refine q_get (C := RX7) (T := TX7) (N := 15) (ci := 7) E (fun w h => List.mem_cons_of_mem _ (inX7 w h)) hw 16 rfl rfl 14 (by decide) (List.mem_cons_of_mem _ tb_298) (v := .int (σ 15 0)) rfl dX7_unsolvedMask_8 ?_
    refine lv_icmp_ge (tgt := 49) hx hb dX7_unsolvedMask_11 (by decide) (fun c1 => ?_) (fun c1 => ?_)
    · replace hM := i_pos hM c1
      refine lv_lload_n hx hb dX7_unsolvedMask_49 rfl (lv_at hl 2 rfl) ?_
      cases hM
      exact q_retl E hw dX7_unsolvedMask_50
    · replace hM := i_neg hM c1
      refine lv_aload_n hx hb dX7_unsolvedMask_14 rfl (lv_at hl 0 rfl) ?_
      refine q_get (C := RX7) (T := TX7) (N := 15) (ci := 7) E (fun w h => List.mem_cons_of_mem _ (inX7 w h)) hw 16 rfl rfl 1 (by decide) (List.mem_cons_of_mem _ tb_265) (v := .ref (h 17)) rfl dX7_unsolvedMask_15 ?_
      refine lv_iload hx hb dX7_unsolvedMask_18 (lv_at hl 3 rfl) ?_
      obtain ⟨g2, hM⟩ := g_some hM
      refine q_ald E hw 18 (n := 60) rfl g2 (x := (σ 17 (ix x4))) rfl dX7_unsolvedMask_20 ?_
      refine lv_iload_n hx hb dX7_unsolvedMask_21 rfl (lv_at hl 1 rfl) ?_
      refine lv_icmp_ne (tgt := 43) hx hb dX7_unsolvedMask_22 (by decide) (fun c3 => ?_) (fun c3 => ?_)
      · replace hM := i_neg hM c3
        refine lv_iinc (v := (x4 + 1)) (lv' := [(4, .int (x4 + 1)), (0, .ref (h 44)), (1, .int x1), (2, .long y2)]) hx hb dX7_unsolvedMask_43 hl (k := 3) rfl rfl (by decide) rfl (fun ls hl => ?_)
        refine lv_goto (tgt := 5) hx hb dX7_unsolvedMask_46 (by decide) ?_
        exact ih _ _ _ _ _ hM _ _ hw _ (lv_sub hl [1, 2, 3, 0] rfl)
      · replace hM := i_pos hM c3
        refine lv_aload_n hx hb dX7_unsolvedMask_25 rfl (lv_at hl 0 rfl) ?_
        refine q_get (C := RX7) (T := TX7) (N := 15) (ci := 7) E (fun w h => List.mem_cons_of_mem _ (inX7 w h)) hw 16 rfl rfl 5 (by decide) (List.mem_cons_of_mem _ tb_273) (v := .ref (h 21)) rfl dX7_unsolvedMask_26 ?_
        refine lv_iload hx hb dX7_unsolvedMask_29 (lv_at hl 3 rfl) ?_
        refine q_ald E hw 22 (n := 60) rfl g2 (x := (σ 21 (ix x4))) rfl dX7_unsolvedMask_31 ?_
        refine lv_iconst (v := 3) hx hb dX7_unsolvedMask_32 (by decide) ?_
        refine lv_icmp_eq (tgt := 43) hx hb dX7_unsolvedMask_33 (by decide) (fun c4 => ?_) (fun c4 => ?_)
        · replace hM := i_pos hM c4
          refine lv_iinc (v := (x4 + 1)) (lv' := [(4, .int (x4 + 1)), (0, .ref (h 44)), (1, .int x1), (2, .long y2)]) hx hb dX7_unsolvedMask_43 hl (k := 3) rfl rfl (by decide) rfl (fun ls hl => ?_)
          refine lv_goto (tgt := 5) hx hb dX7_unsolvedMask_46 (by decide) ?_
          exact ih _ _ _ _ _ hM _ _ hw _ (lv_sub hl [1, 2, 3, 0] rfl)
        · replace hM := i_neg hM c4
          refine lv_lload_n hx hb dX7_unsolvedMask_36 rfl (lv_at hl 2 rfl) ?_
          refine lv_lconst (v := 1) hx hb dX7_unsolvedMask_37 (by decide) ?_
          refine lv_iload hx hb dX7_unsolvedMask_38 (lv_at hl 3 rfl) ?_
          refine lv_lshl (v := (1 <<< ((x4 : Int32).toInt64 &&& 63))) hx hb dX7_unsolvedMask_40 rfl ?_
          refine lv_lor hx hb dX7_unsolvedMask_41 ?_
          refine lv_lstore_n (lv' := [(2, .long (y2 ||| (1 <<< ((x4 : Int32).toInt64 &&& 63)))), (0, .ref (h 44)), (1, .int x1), (4, .int x4)]) hx hb dX7_unsolvedMask_42 rfl hl (by decide) rfl (fun ls hl => ?_)
          refine lv_iinc (v := (x4 + 1)) (lv' := [(4, .int (x4 + 1)), (2, .long (y2 ||| (1 <<< ((x4 : Int32).toInt64 &&& 63)))), (0, .ref (h 44)), (1, .int x1)]) hx hb dX7_unsolvedMask_43 hl (k := 3) rfl rfl (by decide) rfl (fun ls hl => ?_)
          refine lv_goto (tgt := 5) hx hb dX7_unsolvedMask_46 (by decide) ?_
          exact ih _ _ _ _ _ hM _ _ hw _ (lv_sub hl [2, 3, 1, 0] rfl)
def f_X7_unsolvedMask (N : Nat)  (x1 : Int32) (σ : Sg) : Option (Int64) := f_X7_unsolvedMask_5 N N x1 0 0 σ
set_option maxRecDepth 100000 in
set_option maxHeartbeats 4000000 in
theorem c_X7_unsolvedMask (l : Launch) (D : va_G) (cA : Nat → ClassId) (tS : Nat → Nat) (A : Nat → Prop) (h : Nat → Nat) (L : Nat) (F : va_W) (N : Nat) (x1 : Int32) (σ : Sg) (r0 : Int64) (hM : f_X7_unsolvedMask N x1 σ = some r0) : Ct l yX7_unsolvedMask (Cond.code yX7_unsolvedMask cX7_unsolvedMask 5 (some .long) :: bw) 0 0 D cA tS A [.ref (h 44), .int x1] (wK cA h σ ++ (wLg cA h σ L ++ (wC cA h σ ++ F))) (some (.long r0)) (wK cA h σ ++ (wLg cA h σ L ++ (wC cA h σ ++ F))) := by
  refine ct_of (by decide +kernel) (Nat.le_of_ble_eq_true rfl) ?_
  intro p e s m below meth c E hw ls hl
  replace E : Ev p cX7_unsolvedMask 5 (some .long) RX7 (Cond.code yX7_unsolvedMask cX7_unsolvedMask 5 (some .long) :: bw) D cA tS A s m _ meth c := E
  replace hl : lv_has ls 5 [(0, .ref (h 44)), (1, .int x1)] := hl
  have hx := E.1.1
  have hb := E.1.2.1
  unfold f_X7_unsolvedMask at hM
  refine lv_lconst (v := 0) hx hb dX7_unsolvedMask_0 (by decide) ?_
  refine lv_lstore_n (lv' := [(2, .long 0), (0, .ref (h 44)), (1, .int x1)]) hx hb dX7_unsolvedMask_1 rfl hl (by decide) rfl (fun ls hl => ?_)
  refine lv_iconst (v := 0) hx hb dX7_unsolvedMask_2 (by decide) ?_
  refine lv_istore (lv' := [(4, .int 0), (2, .long 0), (0, .ref (h 44)), (1, .int x1)]) hx hb dX7_unsolvedMask_3 hl (by decide) rfl (fun ls hl => ?_)
  exact s_X7_unsolvedMask_5 l D cA tS A h L F N E N _ _ _ _ _ hM _ _ hw _ (lv_sub hl [2, 3, 1, 0] rfl)
def f_X7_sameFaultBefore_2 (N : Nat)  : Nat → Int32 → Int32 → Sg → Option (Int32)
  | 0, _, _, _ => none
  | n + 1, x1, x2, σ => (if x1 ≤ x2 then some (-1) else (f_X7_standsAlone x2 σ).bind (fun p2 => (if p2 = 0 then f_X7_sameFaultBefore_2 N n x1 (x2 + 1) σ else if ib x2 60 then if ib x1 60 then (if (σ 16 (ix x2)) = (σ 16 (ix x1)) then (if (σ 18 (ix x2)) = (σ 18 (ix x1)) then (if 240 < ((σ 27 (ix x1)) - (σ 27 (ix x2))) then f_X7_sameFaultBefore_2 N n x1 (x2 + 1) σ else some x2) else f_X7_sameFaultBefore_2 N n x1 (x2 + 1) σ) else f_X7_sameFaultBefore_2 N n x1 (x2 + 1) σ) else none else none)))
set_option maxRecDepth 100000 in
set_option maxHeartbeats 4000000 in
theorem s_X7_sameFaultBefore_2 (l : Launch) (D : va_G) (cA : Nat → ClassId) (tS : Nat → Nat) (A : Nat → Prop) (h : Nat → Nat) (L : Nat) (F : va_W) (N : Nat) {p : Program} {e : Env} {s : State} {m : MethodId} {args : Array Value} {below : List Frame} {meth : Method} {c : Code} (E : Ev p cX7_sameFaultBefore 3 (some .int) RX7 (Cond.code yX7_sameFaultBefore cX7_sameFaultBefore 3 (some .int) :: bw) D cA tS A s m args meth c) : ∀ (n : Nat) (x1 : Int32) (x2 : Int32) (σ : Sg) (r0 : Int32) (hM : f_X7_sameFaultBefore_2 N n x1 x2 σ = some r0) (H : Heap) (locs : List Loc) (hw : Wd D A (wK cA h σ ++ (wLg cA h σ L ++ (wC cA h σ ++ F))) s.heap H locs) (ls : Array Slot) (hl : lv_has ls 3 [(0, .ref (h 44)), (1, .int x1), (2, .int x2)]), W p l e ({ frames := 2, cells := 0, slots := 0, locals := 42 } : Room) s m args below meth c H locs 0 0 (MQ below (QW D A (some (.int r0)) (wK cA h σ ++ (wLg cA h σ L ++ (wC cA h σ ++ F)))) args s 0 0 A) (F0 m 2 ls []) := by
  have hx := E.1.1
  have hb := E.1.2.1
  intro n
  induction n with
  | zero =>
    intro x1 x2 σ r0 hM
    cases hM
  | succ n ih =>
    intro x1 x2 σ r0 hM H locs hw ls hl
    rw [f_X7_sameFaultBefore_2] at hM
    refine lv_iload_n hx hb dX7_sameFaultBefore_2 rfl (lv_at hl 2 rfl) ?_
    refine lv_iload_n hx hb dX7_sameFaultBefore_3 rfl (lv_at hl 1 rfl) ?_
    refine lv_icmp_ge (tgt := 72) hx hb dX7_sameFaultBefore_4 (by decide) (fun c1 => ?_) (fun c1 => ?_)
    · replace hM := i_pos hM c1
      refine lv_iconst (v := (-1)) hx hb dX7_sameFaultBefore_72 (by decide) ?_
      cases hM
      exact q_reti E hw dX7_sameFaultBefore_73
    · replace hM := i_neg hM c1
      refine lv_aload_n hx hb dX7_sameFaultBefore_7 rfl (lv_at hl 0 rfl) ?_
      refine lv_iload_n hx hb dX7_sameFaultBefore_8 rfl (lv_at hl 2 rfl) ?_
      obtain ⟨p2, h3, hM⟩ := b_some hM
      refine q_cv (As := [.int x2]) (rest := []) E hw hl (c_X7_standsAlone l D cA tS A h L F x2 σ p2 h3) 1 (bwV bw_c tb_857 tb_500 tb_501 tb_108 tb_502) rfl (by decide +kernel) ⟨Nat.le_of_ble_eq_true rfl, Nat.le_of_ble_eq_true rfl⟩ 16 7 (T := TX7) (N := 15) rfl rfl rfl rfl (Nat.le_of_ble_eq_true rfl) ⟨Nat.zero_le _, Nat.zero_le _⟩ dX7_sameFaultBefore_9 (fun H locs hw => ?_)
      refine lv_if_eq (tgt := 66) hx hb dX7_sameFaultBefore_12 (by decide) (fun c4 => ?_) (fun c4 => ?_)
      · replace hM := i_pos hM c4
        refine lv_iinc (v := (x2 + 1)) (lv' := [(2, .int (x2 + 1)), (0, .ref (h 44)), (1, .int x1)]) hx hb dX7_sameFaultBefore_66 hl (k := 2) rfl rfl (by decide) rfl (fun ls hl => ?_)
        refine lv_goto (tgt := 2) hx hb dX7_sameFaultBefore_69 (by decide) ?_
        exact ih _ _ _ _ hM _ _ hw _ (lv_sub hl [1, 2, 0] rfl)
      · replace hM := i_neg hM c4
        refine lv_aload_n hx hb dX7_sameFaultBefore_15 rfl (lv_at hl 0 rfl) ?_
        refine q_get (C := RX7) (T := TX7) (N := 15) (ci := 7) E (fun w h => List.mem_cons_of_mem _ (inX7 w h)) hw 16 rfl rfl 0 (by decide) (List.mem_cons_of_mem _ tb_262) (v := .ref (h 16)) rfl dX7_sameFaultBefore_16 ?_
        refine lv_iload_n hx hb dX7_sameFaultBefore_19 rfl (lv_at hl 2 rfl) ?_
        obtain ⟨g5, hM⟩ := g_some hM
        refine q_ald E hw 17 (n := 60) rfl g5 (x := (σ 16 (ix x2))) rfl dX7_sameFaultBefore_20 ?_
        refine lv_aload_n hx hb dX7_sameFaultBefore_21 rfl (lv_at hl 0 rfl) ?_
        refine q_get (C := RX7) (T := TX7) (N := 15) (ci := 7) E (fun w h => List.mem_cons_of_mem _ (inX7 w h)) hw 16 rfl rfl 0 (by decide) (List.mem_cons_of_mem _ tb_262) (v := .ref (h 16)) rfl dX7_sameFaultBefore_22 ?_
        refine lv_iload_n hx hb dX7_sameFaultBefore_25 rfl (lv_at hl 1 rfl) ?_
        obtain ⟨g6, hM⟩ := g_some hM
        refine q_ald E hw 17 (n := 60) rfl g6 (x := (σ 16 (ix x1))) rfl dX7_sameFaultBefore_26 ?_
        refine lv_icmp_ne (tgt := 66) hx hb dX7_sameFaultBefore_27 (by decide) (fun c7 => ?_) (fun c7 => ?_)
        · replace hM := i_neg hM c7
          refine lv_iinc (v := (x2 + 1)) (lv' := [(2, .int (x2 + 1)), (0, .ref (h 44)), (1, .int x1)]) hx hb dX7_sameFaultBefore_66 hl (k := 2) rfl rfl (by decide) rfl (fun ls hl => ?_)
          refine lv_goto (tgt := 2) hx hb dX7_sameFaultBefore_69 (by decide) ?_
          exact ih _ _ _ _ hM _ _ hw _ (lv_sub hl [1, 2, 0] rfl)
        · replace hM := i_pos hM c7
          refine lv_aload_n hx hb dX7_sameFaultBefore_30 rfl (lv_at hl 0 rfl) ?_
          refine q_get (C := RX7) (T := TX7) (N := 15) (ci := 7) E (fun w h => List.mem_cons_of_mem _ (inX7 w h)) hw 16 rfl rfl 2 (by decide) (List.mem_cons_of_mem _ tb_266) (v := .ref (h 18)) rfl dX7_sameFaultBefore_31 ?_
          refine lv_iload_n hx hb dX7_sameFaultBefore_34 rfl (lv_at hl 2 rfl) ?_
          refine q_ald E hw 19 (n := 60) rfl g5 (x := (σ 18 (ix x2))) rfl dX7_sameFaultBefore_35 ?_
          refine lv_aload_n hx hb dX7_sameFaultBefore_36 rfl (lv_at hl 0 rfl) ?_
          refine q_get (C := RX7) (T := TX7) (N := 15) (ci := 7) E (fun w h => List.mem_cons_of_mem _ (inX7 w h)) hw 16 rfl rfl 2 (by decide) (List.mem_cons_of_mem _ tb_266) (v := .ref (h 18)) rfl dX7_sameFaultBefore_37 ?_
          refine lv_iload_n hx hb dX7_sameFaultBefore_40 rfl (lv_at hl 1 rfl) ?_
          refine q_ald E hw 19 (n := 60) rfl g6 (x := (σ 18 (ix x1))) rfl dX7_sameFaultBefore_41 ?_
          refine lv_icmp_ne (tgt := 66) hx hb dX7_sameFaultBefore_42 (by decide) (fun c8 => ?_) (fun c8 => ?_)
          · replace hM := i_neg hM c8
            refine lv_iinc (v := (x2 + 1)) (lv' := [(2, .int (x2 + 1)), (0, .ref (h 44)), (1, .int x1)]) hx hb dX7_sameFaultBefore_66 hl (k := 2) rfl rfl (by decide) rfl (fun ls hl => ?_)
            refine lv_goto (tgt := 2) hx hb dX7_sameFaultBefore_69 (by decide) ?_
            exact ih _ _ _ _ hM _ _ hw _ (lv_sub hl [1, 2, 0] rfl)
          · replace hM := i_pos hM c8
            refine lv_aload_n hx hb dX7_sameFaultBefore_45 rfl (lv_at hl 0 rfl) ?_
            refine q_get (C := RX7) (T := TX7) (N := 15) (ci := 7) E (fun w h => List.mem_cons_of_mem _ (inX7 w h)) hw 16 rfl rfl 11 (by decide) (List.mem_cons_of_mem _ tb_290) (v := .ref (h 27)) rfl dX7_sameFaultBefore_46 ?_
            refine lv_iload_n hx hb dX7_sameFaultBefore_49 rfl (lv_at hl 1 rfl) ?_
            refine q_ald E hw 28 (n := 60) rfl g6 (x := (σ 27 (ix x1))) rfl dX7_sameFaultBefore_50 ?_
            refine lv_aload_n hx hb dX7_sameFaultBefore_51 rfl (lv_at hl 0 rfl) ?_
            refine q_get (C := RX7) (T := TX7) (N := 15) (ci := 7) E (fun w h => List.mem_cons_of_mem _ (inX7 w h)) hw 16 rfl rfl 11 (by decide) (List.mem_cons_of_mem _ tb_290) (v := .ref (h 27)) rfl dX7_sameFaultBefore_52 ?_
            refine lv_iload_n hx hb dX7_sameFaultBefore_55 rfl (lv_at hl 2 rfl) ?_
            refine q_ald E hw 28 (n := 60) rfl g5 (x := (σ 27 (ix x2))) rfl dX7_sameFaultBefore_56 ?_
            refine lv_isub hx hb dX7_sameFaultBefore_57 ?_
            refine lv_sipush (v := 240) hx hb dX7_sameFaultBefore_58 (by decide) ?_
            refine lv_icmp_gt (tgt := 66) hx hb dX7_sameFaultBefore_61 (by decide) (fun c9 => ?_) (fun c9 => ?_)
            · replace hM := i_pos hM c9
              refine lv_iinc (v := (x2 + 1)) (lv' := [(2, .int (x2 + 1)), (0, .ref (h 44)), (1, .int x1)]) hx hb dX7_sameFaultBefore_66 hl (k := 2) rfl rfl (by decide) rfl (fun ls hl => ?_)
              refine lv_goto (tgt := 2) hx hb dX7_sameFaultBefore_69 (by decide) ?_
              exact ih _ _ _ _ hM _ _ hw _ (lv_sub hl [1, 2, 0] rfl)
            · replace hM := i_neg hM c9
              refine lv_iload_n hx hb dX7_sameFaultBefore_64 rfl (lv_at hl 2 rfl) ?_
              cases hM
              exact q_reti E hw dX7_sameFaultBefore_65
def f_X7_sameFaultBefore (N : Nat)  (x1 : Int32) (σ : Sg) : Option (Int32) := f_X7_sameFaultBefore_2 N N x1 0 σ
set_option maxRecDepth 100000 in
set_option maxHeartbeats 4000000 in
theorem c_X7_sameFaultBefore (l : Launch) (D : va_G) (cA : Nat → ClassId) (tS : Nat → Nat) (A : Nat → Prop) (h : Nat → Nat) (L : Nat) (F : va_W) (N : Nat) (x1 : Int32) (σ : Sg) (r0 : Int32) (hM : f_X7_sameFaultBefore N x1 σ = some r0) : Ct l yX7_sameFaultBefore (Cond.code yX7_sameFaultBefore cX7_sameFaultBefore 3 (some .int) :: bw) 2 42 D cA tS A [.ref (h 44), .int x1] (wK cA h σ ++ (wLg cA h σ L ++ (wC cA h σ ++ F))) (some (.int r0)) (wK cA h σ ++ (wLg cA h σ L ++ (wC cA h σ ++ F))) := by
  refine ct_of (by decide +kernel) (Nat.le_of_ble_eq_true rfl) ?_
  intro p e s m below meth c E hw ls hl
  replace E : Ev p cX7_sameFaultBefore 3 (some .int) RX7 (Cond.code yX7_sameFaultBefore cX7_sameFaultBefore 3 (some .int) :: bw) D cA tS A s m _ meth c := E
  replace hl : lv_has ls 3 [(0, .ref (h 44)), (1, .int x1)] := hl
  have hx := E.1.1
  have hb := E.1.2.1
  unfold f_X7_sameFaultBefore at hM
  refine lv_iconst (v := 0) hx hb dX7_sameFaultBefore_0 (by decide) ?_
  refine lv_istore_n (lv' := [(2, .int 0), (0, .ref (h 44)), (1, .int x1)]) hx hb dX7_sameFaultBefore_1 rfl hl (by decide) rfl (fun ls hl => ?_)
  exact s_X7_sameFaultBefore_2 l D cA tS A h L F N E N _ _ _ _ hM _ _ hw _ (lv_sub hl [1, 2, 0] rfl)
def f_X7_solvedBelow_4 (N : Nat)  : Nat → Int32 → Int32 → Int32 → Sg → Option (Int32)
  | 0, _, _, _, _ => none
  | n + 1, x1, x2, x3, σ => (if (σ 15 0) ≤ x3 then some x2 else if ib x3 60 then (if (σ 21 (ix x3)) = 3 then (if x1 ≤ (σ 25 (ix x3)) then f_X7_solvedBelow_4 N n x1 x2 (x3 + 1) σ else f_X7_solvedBelow_4 N n x1 (x2 + 1) (x3 + 1) σ) else f_X7_solvedBelow_4 N n x1 x2 (x3 + 1) σ) else none)
set_option maxRecDepth 100000 in
set_option maxHeartbeats 4000000 in
theorem s_X7_solvedBelow_4 (l : Launch) (D : va_G) (cA : Nat → ClassId) (tS : Nat → Nat) (A : Nat → Prop) (h : Nat → Nat) (L : Nat) (F : va_W) (N : Nat) {p : Program} {e : Env} {s : State} {m : MethodId} {args : Array Value} {below : List Frame} {meth : Method} {c : Code} (E : Ev p cX7_solvedBelow 4 (some .int) RX7 (Cond.code yX7_solvedBelow cX7_solvedBelow 4 (some .int) :: bw) D cA tS A s m args meth c) : ∀ (n : Nat) (x1 : Int32) (x2 : Int32) (x3 : Int32) (σ : Sg) (r0 : Int32) (hM : f_X7_solvedBelow_4 N n x1 x2 x3 σ = some r0) (H : Heap) (locs : List Loc) (hw : Wd D A (wK cA h σ ++ (wLg cA h σ L ++ (wC cA h σ ++ F))) s.heap H locs) (ls : Array Slot) (hl : lv_has ls 4 [(0, .ref (h 44)), (1, .int x1), (2, .int x2), (3, .int x3)]), W p l e ({ frames := 0, cells := 0, slots := 0, locals := 0 } : Room) s m args below meth c H locs 0 0 (MQ below (QW D A (some (.int r0)) (wK cA h σ ++ (wLg cA h σ L ++ (wC cA h σ ++ F)))) args s 0 0 A) (F0 m 4 ls []) := by
  have hx := E.1.1
  have hb := E.1.2.1
  intro n
  induction n with
  | zero =>
    intro x1 x2 x3 σ r0 hM
    cases hM
  | succ n ih =>
    intro x1 x2 x3 σ r0 hM H locs hw ls hl
    rw [f_X7_solvedBelow_4] at hM
    refine lv_iload_n hx hb dX7_solvedBelow_4 rfl (lv_at hl 3 rfl) ?_
    refine lv_aload_n hx hb dX7_solvedBelow_5 rfl (lv_at hl 0 rfl) ?_
    refine q_get (C := RX7) (T := TX7) (N := 15) (ci := 7) E (fun w h => List.mem_cons_of_mem _ (inX7 w h)) hw 16 rfl rfl 14 (by decide) (List.mem_cons_of_mem _ tb_298) (v := .int (σ 15 0)) rfl dX7_solvedBelow_6 ?_
    refine lv_icmp_ge (tgt := 41) hx hb dX7_solvedBelow_9 (by decide) (fun c1 => ?_) (fun c1 => ?_)
    · replace hM := i_pos hM c1
      refine lv_iload_n hx hb dX7_solvedBelow_41 rfl (lv_at hl 2 rfl) ?_
      cases hM
      exact q_reti E hw dX7_solvedBelow_42
    · replace hM := i_neg hM c1
      refine lv_aload_n hx hb dX7_solvedBelow_12 rfl (lv_at hl 0 rfl) ?_
      refine q_get (C := RX7) (T := TX7) (N := 15) (ci := 7) E (fun w h => List.mem_cons_of_mem _ (inX7 w h)) hw 16 rfl rfl 5 (by decide) (List.mem_cons_of_mem _ tb_273) (v := .ref (h 21)) rfl dX7_solvedBelow_13 ?_
      refine lv_iload_n hx hb dX7_solvedBelow_16 rfl (lv_at hl 3 rfl) ?_
      obtain ⟨g2, hM⟩ := g_some hM
      refine q_ald E hw 22 (n := 60) rfl g2 (x := (σ 21 (ix x3))) rfl dX7_solvedBelow_17 ?_
      refine lv_iconst (v := 3) hx hb dX7_solvedBelow_18 (by decide) ?_
      refine lv_icmp_ne (tgt := 35) hx hb dX7_solvedBelow_19 (by decide) (fun c3 => ?_) (fun c3 => ?_)
      · replace hM := i_neg hM c3
        refine lv_iinc (v := (x3 + 1)) (lv' := [(3, .int (x3 + 1)), (0, .ref (h 44)), (1, .int x1), (2, .int x2)]) hx hb dX7_solvedBelow_35 hl (k := 3) rfl rfl (by decide) rfl (fun ls hl => ?_)
        refine lv_goto (tgt := 4) hx hb dX7_solvedBelow_38 (by decide) ?_
        exact ih _ _ _ _ _ hM _ _ hw _ (lv_sub hl [1, 2, 3, 0] rfl)
      · replace hM := i_pos hM c3
        refine lv_aload_n hx hb dX7_solvedBelow_22 rfl (lv_at hl 0 rfl) ?_
        refine q_get (C := RX7) (T := TX7) (N := 15) (ci := 7) E (fun w h => List.mem_cons_of_mem _ (inX7 w h)) hw 16 rfl rfl 9 (by decide) (List.mem_cons_of_mem _ tb_284) (v := .ref (h 25)) rfl dX7_solvedBelow_23 ?_
        refine lv_iload_n hx hb dX7_solvedBelow_26 rfl (lv_at hl 3 rfl) ?_
        refine q_ald E hw 26 (n := 60) rfl g2 (x := (σ 25 (ix x3))) rfl dX7_solvedBelow_27 ?_
        refine lv_iload_n hx hb dX7_solvedBelow_28 rfl (lv_at hl 1 rfl) ?_
        refine lv_icmp_ge (tgt := 35) hx hb dX7_solvedBelow_29 (by decide) (fun c4 => ?_) (fun c4 => ?_)
        · replace hM := i_pos hM c4
          refine lv_iinc (v := (x3 + 1)) (lv' := [(3, .int (x3 + 1)), (0, .ref (h 44)), (1, .int x1), (2, .int x2)]) hx hb dX7_solvedBelow_35 hl (k := 3) rfl rfl (by decide) rfl (fun ls hl => ?_)
          refine lv_goto (tgt := 4) hx hb dX7_solvedBelow_38 (by decide) ?_
          exact ih _ _ _ _ _ hM _ _ hw _ (lv_sub hl [1, 2, 3, 0] rfl)
        · replace hM := i_neg hM c4
          refine lv_iinc (v := (x2 + 1)) (lv' := [(2, .int (x2 + 1)), (0, .ref (h 44)), (1, .int x1), (3, .int x3)]) hx hb dX7_solvedBelow_32 hl (k := 2) rfl rfl (by decide) rfl (fun ls hl => ?_)
          refine lv_iinc (v := (x3 + 1)) (lv' := [(3, .int (x3 + 1)), (2, .int (x2 + 1)), (0, .ref (h 44)), (1, .int x1)]) hx hb dX7_solvedBelow_35 hl (k := 3) rfl rfl (by decide) rfl (fun ls hl => ?_)
          refine lv_goto (tgt := 4) hx hb dX7_solvedBelow_38 (by decide) ?_
          exact ih _ _ _ _ _ hM _ _ hw _ (lv_sub hl [2, 3, 1, 0] rfl)
def f_X7_solvedBelow (N : Nat)  (x1 : Int32) (σ : Sg) : Option (Int32) := f_X7_solvedBelow_4 N N x1 0 0 σ
set_option maxRecDepth 100000 in
set_option maxHeartbeats 4000000 in
theorem c_X7_solvedBelow (l : Launch) (D : va_G) (cA : Nat → ClassId) (tS : Nat → Nat) (A : Nat → Prop) (h : Nat → Nat) (L : Nat) (F : va_W) (N : Nat) (x1 : Int32) (σ : Sg) (r0 : Int32) (hM : f_X7_solvedBelow N x1 σ = some r0) : Ct l yX7_solvedBelow (Cond.code yX7_solvedBelow cX7_solvedBelow 4 (some .int) :: bw) 0 0 D cA tS A [.ref (h 44), .int x1] (wK cA h σ ++ (wLg cA h σ L ++ (wC cA h σ ++ F))) (some (.int r0)) (wK cA h σ ++ (wLg cA h σ L ++ (wC cA h σ ++ F))) := by
  refine ct_of (by decide +kernel) (Nat.le_of_ble_eq_true rfl) ?_
  intro p e s m below meth c E hw ls hl
  replace E : Ev p cX7_solvedBelow 4 (some .int) RX7 (Cond.code yX7_solvedBelow cX7_solvedBelow 4 (some .int) :: bw) D cA tS A s m _ meth c := E
  replace hl : lv_has ls 4 [(0, .ref (h 44)), (1, .int x1)] := hl
  have hx := E.1.1
  have hb := E.1.2.1
  unfold f_X7_solvedBelow at hM
  refine lv_iconst (v := 0) hx hb dX7_solvedBelow_0 (by decide) ?_
  refine lv_istore_n (lv' := [(2, .int 0), (0, .ref (h 44)), (1, .int x1)]) hx hb dX7_solvedBelow_1 rfl hl (by decide) rfl (fun ls hl => ?_)
  refine lv_iconst (v := 0) hx hb dX7_solvedBelow_2 (by decide) ?_
  refine lv_istore_n (lv' := [(3, .int 0), (2, .int 0), (0, .ref (h 44)), (1, .int x1)]) hx hb dX7_solvedBelow_3 rfl hl (by decide) rfl (fun ls hl => ?_)
  exact s_X7_solvedBelow_4 l D cA tS A h L F N E N _ _ _ _ _ hM _ _ hw _ (lv_sub hl [2, 3, 1, 0] rfl)
def f_X7_solvedClock_2 (N : Nat)  : Nat → Int32 → Int32 → Sg → Option (Int32)
  | 0, _, _, _ => none
  | n + 1, x1, x2, σ => (if (σ 15 0) ≤ x2 then some (-1) else if ib x2 60 then (if (σ 21 (ix x2)) = 3 then (f_X7_solvedBelow N (σ 25 (ix x2)) σ).bind (fun p4 => (if x1 ≤ p4 then f_X7_solvedClock_2 N n x1 (x2 + 1) σ else (f_X7_solvedBelow N ((σ 25 (ix x2)) + 1) σ).bind (fun p7 => (if p7 < x1 then f_X7_solvedClock_2 N n x1 (x2 + 1) σ else some (σ 25 (ix x2)))))) else f_X7_solvedClock_2 N n x1 (x2 + 1) σ) else none)
set_option maxRecDepth 100000 in
set_option maxHeartbeats 4000000 in
theorem s_X7_solvedClock_2 (l : Launch) (D : va_G) (cA : Nat → ClassId) (tS : Nat → Nat) (A : Nat → Prop) (h : Nat → Nat) (L : Nat) (F : va_W) (N : Nat) {p : Program} {e : Env} {s : State} {m : MethodId} {args : Array Value} {below : List Frame} {meth : Method} {c : Code} (E : Ev p cX7_solvedClock 3 (some .int) RX7 (Cond.code yX7_solvedClock cX7_solvedClock 3 (some .int) :: bw) D cA tS A s m args meth c) : ∀ (n : Nat) (x1 : Int32) (x2 : Int32) (σ : Sg) (r0 : Int32) (hM : f_X7_solvedClock_2 N n x1 x2 σ = some r0) (H : Heap) (locs : List Loc) (hw : Wd D A (wK cA h σ ++ (wLg cA h σ L ++ (wC cA h σ ++ F))) s.heap H locs) (ls : Array Slot) (hl : lv_has ls 3 [(0, .ref (h 44)), (1, .int x1), (2, .int x2)]), W p l e ({ frames := 1, cells := 0, slots := 0, locals := 23 } : Room) s m args below meth c H locs 0 0 (MQ below (QW D A (some (.int r0)) (wK cA h σ ++ (wLg cA h σ L ++ (wC cA h σ ++ F)))) args s 0 0 A) (F0 m 2 ls []) := by
  have hx := E.1.1
  have hb := E.1.2.1
  intro n
  induction n with
  | zero =>
    intro x1 x2 σ r0 hM
    cases hM
  | succ n ih =>
    intro x1 x2 σ r0 hM H locs hw ls hl
    rw [f_X7_solvedClock_2] at hM
    refine lv_iload_n hx hb dX7_solvedClock_2 rfl (lv_at hl 2 rfl) ?_
    refine lv_aload_n hx hb dX7_solvedClock_3 rfl (lv_at hl 0 rfl) ?_
    refine q_get (C := RX7) (T := TX7) (N := 15) (ci := 7) E (fun w h => List.mem_cons_of_mem _ (inX7 w h)) hw 16 rfl rfl 14 (by decide) (List.mem_cons_of_mem _ tb_298) (v := .int (σ 15 0)) rfl dX7_solvedClock_4 ?_
    refine lv_icmp_ge (tgt := 63) hx hb dX7_solvedClock_7 (by decide) (fun c1 => ?_) (fun c1 => ?_)
    · replace hM := i_pos hM c1
      refine lv_iconst (v := (-1)) hx hb dX7_solvedClock_63 (by decide) ?_
      cases hM
      exact q_reti E hw dX7_solvedClock_64
    · replace hM := i_neg hM c1
      refine lv_aload_n hx hb dX7_solvedClock_10 rfl (lv_at hl 0 rfl) ?_
      refine q_get (C := RX7) (T := TX7) (N := 15) (ci := 7) E (fun w h => List.mem_cons_of_mem _ (inX7 w h)) hw 16 rfl rfl 5 (by decide) (List.mem_cons_of_mem _ tb_273) (v := .ref (h 21)) rfl dX7_solvedClock_11 ?_
      refine lv_iload_n hx hb dX7_solvedClock_14 rfl (lv_at hl 2 rfl) ?_
      obtain ⟨g2, hM⟩ := g_some hM
      refine q_ald E hw 22 (n := 60) rfl g2 (x := (σ 21 (ix x2))) rfl dX7_solvedClock_15 ?_
      refine lv_iconst (v := 3) hx hb dX7_solvedClock_16 (by decide) ?_
      refine lv_icmp_ne (tgt := 57) hx hb dX7_solvedClock_17 (by decide) (fun c3 => ?_) (fun c3 => ?_)
      · replace hM := i_neg hM c3
        refine lv_iinc (v := (x2 + 1)) (lv' := [(2, .int (x2 + 1)), (0, .ref (h 44)), (1, .int x1)]) hx hb dX7_solvedClock_57 hl (k := 2) rfl rfl (by decide) rfl (fun ls hl => ?_)
        refine lv_goto (tgt := 2) hx hb dX7_solvedClock_60 (by decide) ?_
        exact ih _ _ _ _ hM _ _ hw _ (lv_sub hl [1, 2, 0] rfl)
      · replace hM := i_pos hM c3
        refine lv_aload_n hx hb dX7_solvedClock_20 rfl (lv_at hl 0 rfl) ?_
        refine lv_aload_n hx hb dX7_solvedClock_21 rfl (lv_at hl 0 rfl) ?_
        refine q_get (C := RX7) (T := TX7) (N := 15) (ci := 7) E (fun w h => List.mem_cons_of_mem _ (inX7 w h)) hw 16 rfl rfl 9 (by decide) (List.mem_cons_of_mem _ tb_284) (v := .ref (h 25)) rfl dX7_solvedClock_22 ?_
        refine lv_iload_n hx hb dX7_solvedClock_25 rfl (lv_at hl 2 rfl) ?_
        refine q_ald E hw 26 (n := 60) rfl g2 (x := (σ 25 (ix x2))) rfl dX7_solvedClock_26 ?_
        obtain ⟨p4, h5, hM⟩ := b_some hM
        refine q_cv (As := [.int (σ 25 (ix x2))]) (rest := []) E hw hl (c_X7_solvedBelow l D cA tS A h L F N (σ 25 (ix x2)) σ p4 h5) 1 (bwV bw_c tb_895 tb_897 tb_32 tb_108 tb_898) rfl (by decide +kernel) ⟨Nat.le_of_ble_eq_true rfl, Nat.le_of_ble_eq_true rfl⟩ 16 7 (T := TX7) (N := 15) rfl rfl rfl rfl (Nat.le_of_ble_eq_true rfl) ⟨Nat.zero_le _, Nat.zero_le _⟩ dX7_solvedClock_27 (fun H locs hw => ?_)
        refine lv_iload_n hx hb dX7_solvedClock_30 rfl (lv_at hl 1 rfl) ?_
        refine lv_icmp_ge (tgt := 57) hx hb dX7_solvedClock_31 (by decide) (fun c6 => ?_) (fun c6 => ?_)
        · replace hM := i_pos hM c6
          refine lv_iinc (v := (x2 + 1)) (lv' := [(2, .int (x2 + 1)), (0, .ref (h 44)), (1, .int x1)]) hx hb dX7_solvedClock_57 hl (k := 2) rfl rfl (by decide) rfl (fun ls hl => ?_)
          refine lv_goto (tgt := 2) hx hb dX7_solvedClock_60 (by decide) ?_
          exact ih _ _ _ _ hM _ _ hw _ (lv_sub hl [1, 2, 0] rfl)
        · replace hM := i_neg hM c6
          refine lv_aload_n hx hb dX7_solvedClock_34 rfl (lv_at hl 0 rfl) ?_
          refine lv_aload_n hx hb dX7_solvedClock_35 rfl (lv_at hl 0 rfl) ?_
          refine q_get (C := RX7) (T := TX7) (N := 15) (ci := 7) E (fun w h => List.mem_cons_of_mem _ (inX7 w h)) hw 16 rfl rfl 9 (by decide) (List.mem_cons_of_mem _ tb_284) (v := .ref (h 25)) rfl dX7_solvedClock_36 ?_
          refine lv_iload_n hx hb dX7_solvedClock_39 rfl (lv_at hl 2 rfl) ?_
          refine q_ald E hw 26 (n := 60) rfl g2 (x := (σ 25 (ix x2))) rfl dX7_solvedClock_40 ?_
          refine lv_iconst (v := 1) hx hb dX7_solvedClock_41 (by decide) ?_
          refine lv_iadd hx hb dX7_solvedClock_42 ?_
          obtain ⟨p7, h8, hM⟩ := b_some hM
          refine q_cv (As := [.int ((σ 25 (ix x2)) + 1)]) (rest := []) E hw hl (c_X7_solvedBelow l D cA tS A h L F N ((σ 25 (ix x2)) + 1) σ p7 h8) 1 (bwV bw_c tb_895 tb_897 tb_32 tb_108 tb_898) rfl (by decide +kernel) ⟨Nat.le_of_ble_eq_true rfl, Nat.le_of_ble_eq_true rfl⟩ 16 7 (T := TX7) (N := 15) rfl rfl rfl rfl (Nat.le_of_ble_eq_true rfl) ⟨Nat.zero_le _, Nat.zero_le _⟩ dX7_solvedClock_43 (fun H locs hw => ?_)
          refine lv_iload_n hx hb dX7_solvedClock_46 rfl (lv_at hl 1 rfl) ?_
          refine lv_icmp_lt (tgt := 57) hx hb dX7_solvedClock_47 (by decide) (fun c9 => ?_) (fun c9 => ?_)
          · replace hM := i_pos hM c9
            refine lv_iinc (v := (x2 + 1)) (lv' := [(2, .int (x2 + 1)), (0, .ref (h 44)), (1, .int x1)]) hx hb dX7_solvedClock_57 hl (k := 2) rfl rfl (by decide) rfl (fun ls hl => ?_)
            refine lv_goto (tgt := 2) hx hb dX7_solvedClock_60 (by decide) ?_
            exact ih _ _ _ _ hM _ _ hw _ (lv_sub hl [1, 2, 0] rfl)
          · replace hM := i_neg hM c9
            refine lv_aload_n hx hb dX7_solvedClock_50 rfl (lv_at hl 0 rfl) ?_
            refine q_get (C := RX7) (T := TX7) (N := 15) (ci := 7) E (fun w h => List.mem_cons_of_mem _ (inX7 w h)) hw 16 rfl rfl 9 (by decide) (List.mem_cons_of_mem _ tb_284) (v := .ref (h 25)) rfl dX7_solvedClock_51 ?_
            refine lv_iload_n hx hb dX7_solvedClock_54 rfl (lv_at hl 2 rfl) ?_
            refine q_ald E hw 26 (n := 60) rfl g2 (x := (σ 25 (ix x2))) rfl dX7_solvedClock_55 ?_
            cases hM
            exact q_reti E hw dX7_solvedClock_56
def f_X7_solvedClock (N : Nat)  (x1 : Int32) (σ : Sg) : Option (Int32) := f_X7_solvedClock_2 N N x1 0 σ
set_option maxRecDepth 100000 in
set_option maxHeartbeats 4000000 in
theorem c_X7_solvedClock (l : Launch) (D : va_G) (cA : Nat → ClassId) (tS : Nat → Nat) (A : Nat → Prop) (h : Nat → Nat) (L : Nat) (F : va_W) (N : Nat) (x1 : Int32) (σ : Sg) (r0 : Int32) (hM : f_X7_solvedClock N x1 σ = some r0) : Ct l yX7_solvedClock (Cond.code yX7_solvedClock cX7_solvedClock 3 (some .int) :: bw) 1 23 D cA tS A [.ref (h 44), .int x1] (wK cA h σ ++ (wLg cA h σ L ++ (wC cA h σ ++ F))) (some (.int r0)) (wK cA h σ ++ (wLg cA h σ L ++ (wC cA h σ ++ F))) := by
  refine ct_of (by decide +kernel) (Nat.le_of_ble_eq_true rfl) ?_
  intro p e s m below meth c E hw ls hl
  replace E : Ev p cX7_solvedClock 3 (some .int) RX7 (Cond.code yX7_solvedClock cX7_solvedClock 3 (some .int) :: bw) D cA tS A s m _ meth c := E
  replace hl : lv_has ls 3 [(0, .ref (h 44)), (1, .int x1)] := hl
  have hx := E.1.1
  have hb := E.1.2.1
  unfold f_X7_solvedClock at hM
  refine lv_iconst (v := 0) hx hb dX7_solvedClock_0 (by decide) ?_
  refine lv_istore_n (lv' := [(2, .int 0), (0, .ref (h 44)), (1, .int x1)]) hx hb dX7_solvedClock_1 rfl hl (by decide) rfl (fun ls hl => ?_)
  exact s_X7_solvedClock_2 l D cA tS A h L F N E N _ _ _ _ hM _ _ hw _ (lv_sub hl [1, 2, 0] rfl)
def f_X8_within   (x0 : Int32) (x1 : Int32) (x2 : Int32) : Option (Int32) := (if x0 < x1 then some 0 else (if x2 < x0 then some 0 else some 1))
set_option maxRecDepth 100000 in
set_option maxHeartbeats 4000000 in
theorem c_X8_within (l : Launch) (D : va_G) (cA : Nat → ClassId) (tS : Nat → Nat) (A : Nat → Prop) (F : va_W) (x0 : Int32) (x1 : Int32) (x2 : Int32) (r0 : Int32) (hM : f_X8_within x0 x1 x2 = some r0) : Ct l yX8_within (Cond.code yX8_within cX8_within 3 (some .boolean) :: bw) 0 0 D cA tS A [.int x0, .int x1, .int x2] F (some (.int r0)) F := by
  refine ct_of (by decide +kernel) (Nat.le_of_ble_eq_true rfl) ?_
  intro p e s m below meth c E hw ls hl
  replace E : Ev p cX8_within 3 (some .boolean) RX8 (Cond.code yX8_within cX8_within 3 (some .boolean) :: bw) D cA tS A s m _ meth c := E
  replace hl : lv_has ls 3 [(0, .int x0), (1, .int x1), (2, .int x2)] := hl
  have hx := E.1.1
  have hb := E.1.2.1
  unfold f_X8_within at hM
  refine lv_iload_n hx hb dX8_within_0 rfl (lv_at hl 0 rfl) ?_
  refine lv_iload_n hx hb dX8_within_1 rfl (lv_at hl 1 rfl) ?_
  refine lv_icmp_lt (tgt := 14) hx hb dX8_within_2 (by decide) (fun c1 => ?_) (fun c1 => ?_)
  · replace hM := i_pos hM c1
    refine lv_iconst (v := 0) hx hb dX8_within_14 (by decide) ?_
    cases hM
    exact q_retz E hw (by decide) dX8_within_15
  · replace hM := i_neg hM c1
    refine lv_iload_n hx hb dX8_within_5 rfl (lv_at hl 0 rfl) ?_
    refine lv_iload_n hx hb dX8_within_6 rfl (lv_at hl 2 rfl) ?_
    refine lv_icmp_gt (tgt := 14) hx hb dX8_within_7 (by decide) (fun c2 => ?_) (fun c2 => ?_)
    · replace hM := i_pos hM c2
      refine lv_iconst (v := 0) hx hb dX8_within_14 (by decide) ?_
      cases hM
      exact q_retz E hw (by decide) dX8_within_15
    · replace hM := i_neg hM c2
      refine lv_iconst (v := 1) hx hb dX8_within_10 (by decide) ?_
      refine lv_goto (tgt := 15) hx hb dX8_within_11 (by decide) ?_
      cases hM
      exact q_retz E hw (by decide) dX8_within_15
