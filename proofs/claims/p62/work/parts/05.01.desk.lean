set_option maxRecDepth 100000 in
set_option maxHeartbeats 4000000 in
theorem s_X7_countAt_5 (l : Launch) (D : va_G) (cA : Nat → ClassId) (tS : Nat → Nat) (A : Nat → Prop) (h : Nat → Nat) (L : Nat) (F : va_W) (N : Nat) {p : Program} {e : Env} {s : State} {m : MethodId} {args : Array Value} {below : List Frame} {meth : Method} {c : Code} (E : Ev p cX7_countAt 5 (some .int) RX7 (Cond.code yX7_countAt cX7_countAt 5 (some .int) :: bw) D cA tS A s m args meth c) : ∀ (n : Nat) (x1 : Int32) (x2 : Int32) (x3 : Int32) (x4 : Int32) (σ : Sg) (r0 : Int32) (hM : f_X7_countAt_5 N n x1 x2 x3 x4 σ = some r0) (H : Heap) (locs : List Loc) (hw : Wd D A (wK cA h σ ++ (wLg cA h σ L ++ (wC cA h σ ++ F))) s.heap H locs) (ls : Array Slot) (hl : lv_has ls 5 [(0, .ref (h 44)), (1, .int x1), (2, .int x2), (3, .int x3), (4, .int x4)]), W p l e ({ frames := 0, cells := 0, slots := 0, locals := 0 } : Room) s m args below meth c H locs 0 0 (MQ below (QW D A (some (.int r0)) (wK cA h σ ++ (wLg cA h σ L ++ (wC cA h σ ++ F)))) args s 0 0 A) (F0 m 5 ls []) := by
  have hx := E.1.1
  have hb := E.1.2.1
  intro n
  induction n with
  | zero =>
    intro x1 x2 x3 x4 σ r0 hM
    cases hM
  | succ n ih =>
    intro x1 x2 x3 x4 σ r0 hM H locs hw ls hl
    rw [f_X7_countAt_5] at hM
    refine lv_iload hx hb dX7_countAt_5 (lv_at hl 4 rfl) ?_
    refine lv_aload_n hx hb dX7_countAt_7 rfl (lv_at hl 0 rfl) ?_
    refine q_get (C := RX7) (T := TX7) (N := 15) (ci := 7) E (fun w h => List.mem_cons_of_mem _ (inX7 w h)) hw 16 rfl rfl 14 (by decide) (List.mem_cons_of_mem _ tb_184) (v := .int (σ 15 0)) rfl dX7_countAt_8 ?_
    refine lv_icmp_ge (tgt := 45) hx hb dX7_countAt_11 (by decide) (fun c1 => ?_) (fun c1 => ?_)
    · replace hM := i_pos hM c1
      refine lv_iload_n hx hb dX7_countAt_45 rfl (lv_at hl 3 rfl) ?_
      cases hM
      exact q_reti E hw dX7_countAt_46
    · replace hM := i_neg hM c1
      refine lv_aload_n hx hb dX7_countAt_14 rfl (lv_at hl 0 rfl) ?_
      refine q_get (C := RX7) (T := TX7) (N := 15) (ci := 7) E (fun w h => List.mem_cons_of_mem _ (inX7 w h)) hw 16 rfl rfl 5 (by decide) (List.mem_cons_of_mem _ tb_159) (v := .ref (h 21)) rfl dX7_countAt_15 ?_
      refine lv_iload hx hb dX7_countAt_18 (lv_at hl 4 rfl) ?_
      obtain ⟨g2, hM⟩ := g_some hM
      refine q_ald E hw 22 (n := 60) rfl g2 (x := (σ 21 (ix x4))) rfl dX7_countAt_20 ?_
      refine lv_iload_n hx hb dX7_countAt_21 rfl (lv_at hl 2 rfl) ?_
      refine lv_icmp_ne (tgt := 39) hx hb dX7_countAt_22 (by decide) (fun c3 => ?_) (fun c3 => ?_)
      · replace hM := i_neg hM c3
        refine lv_iinc (v := (x4 + 1)) (lv' := [(4, .int (x4 + 1)), (0, .ref (h 44)), (1, .int x1), (2, .int x2), (3, .int x3)]) hx hb dX7_countAt_39 hl (k := 4) rfl rfl (by decide) rfl (fun ls hl => ?_)
        refine lv_goto (tgt := 5) hx hb dX7_countAt_42 (by decide) ?_
        exact ih _ _ _ _ _ _ hM _ _ hw _ (lv_sub hl [1, 2, 3, 4, 0] rfl)
      · replace hM := i_pos hM c3
        refine lv_aload_n hx hb dX7_countAt_25 rfl (lv_at hl 0 rfl) ?_
        refine q_get (C := RX7) (T := TX7) (N := 15) (ci := 7) E (fun w h => List.mem_cons_of_mem _ (inX7 w h)) hw 16 rfl rfl 4 (by decide) (List.mem_cons_of_mem _ tb_156) (v := .ref (h 20)) rfl dX7_countAt_26 ?_
        refine lv_iload hx hb dX7_countAt_29 (lv_at hl 4 rfl) ?_
        refine q_ald E hw 21 (n := 60) rfl g2 (x := (σ 20 (ix x4))) rfl dX7_countAt_31 ?_
        refine lv_iload_n hx hb dX7_countAt_32 rfl (lv_at hl 1 rfl) ?_
        refine lv_icmp_ne (tgt := 39) hx hb dX7_countAt_33 (by decide) (fun c4 => ?_) (fun c4 => ?_)
        · replace hM := i_neg hM c4
          refine lv_iinc (v := (x4 + 1)) (lv' := [(4, .int (x4 + 1)), (0, .ref (h 44)), (1, .int x1), (2, .int x2), (3, .int x3)]) hx hb dX7_countAt_39 hl (k := 4) rfl rfl (by decide) rfl (fun ls hl => ?_)
          refine lv_goto (tgt := 5) hx hb dX7_countAt_42 (by decide) ?_
          exact ih _ _ _ _ _ _ hM _ _ hw _ (lv_sub hl [1, 2, 3, 4, 0] rfl)
        · replace hM := i_pos hM c4
          refine lv_iinc (v := (x3 + 1)) (lv' := [(3, .int (x3 + 1)), (0, .ref (h 44)), (1, .int x1), (2, .int x2), (4, .int x4)]) hx hb dX7_countAt_36 hl (k := 3) rfl rfl (by decide) rfl (fun ls hl => ?_)
          refine lv_iinc (v := (x4 + 1)) (lv' := [(4, .int (x4 + 1)), (3, .int (x3 + 1)), (0, .ref (h 44)), (1, .int x1), (2, .int x2)]) hx hb dX7_countAt_39 hl (k := 4) rfl rfl (by decide) rfl (fun ls hl => ?_)
          refine lv_goto (tgt := 5) hx hb dX7_countAt_42 (by decide) ?_
          exact ih _ _ _ _ _ _ hM _ _ hw _ (lv_sub hl [2, 3, 4, 1, 0] rfl)
set_option maxRecDepth 100000 in
set_option maxHeartbeats 4000000 in
theorem c_X7_countAt (l : Launch) (D : va_G) (cA : Nat → ClassId) (tS : Nat → Nat) (A : Nat → Prop) (h : Nat → Nat) (L : Nat) (F : va_W) (N : Nat) (x1 : Int32) (x2 : Int32) (σ : Sg) (r0 : Int32) (hM : f_X7_countAt N x1 x2 σ = some r0) : Ct l yX7_countAt (Cond.code yX7_countAt cX7_countAt 5 (some .int) :: bw) 0 0 D cA tS A [.ref (h 44), .int x1, .int x2] (wK cA h σ ++ (wLg cA h σ L ++ (wC cA h σ ++ F))) (some (.int r0)) (wK cA h σ ++ (wLg cA h σ L ++ (wC cA h σ ++ F))) := by
  refine ct_of (by decide +kernel) (Nat.le_of_ble_eq_true rfl) ?_
  intro p e s m below meth c E hw ls hl
  replace E : Ev p cX7_countAt 5 (some .int) RX7 (Cond.code yX7_countAt cX7_countAt 5 (some .int) :: bw) D cA tS A s m _ meth c := E
  replace hl : lv_has ls 5 [(0, .ref (h 44)), (1, .int x1), (2, .int x2)] := hl
  have hx := E.1.1
  have hb := E.1.2.1
  unfold f_X7_countAt at hM
  refine lv_iconst (v := 0) hx hb dX7_countAt_0 (by decide) ?_
  refine lv_istore_n (lv' := [(3, .int 0), (0, .ref (h 44)), (1, .int x1), (2, .int x2)]) hx hb dX7_countAt_1 rfl hl (by decide) rfl (fun ls hl => ?_)
  refine lv_iconst (v := 0) hx hb dX7_countAt_2 (by decide) ?_
  refine lv_istore (lv' := [(4, .int 0), (3, .int 0), (0, .ref (h 44)), (1, .int x1), (2, .int x2)]) hx hb dX7_countAt_3 hl (by decide) rfl (fun ls hl => ?_)
  exact s_X7_countAt_5 l D cA tS A h L F N E N _ _ _ _ _ _ hM _ _ hw _ (lv_sub hl [2, 3, 4, 1, 0] rfl)
set_option maxRecDepth 100000 in
set_option maxHeartbeats 4000000 in
theorem s_X1_staff_38 (l : Launch) (D : va_G) (cA : Nat → ClassId) (tS : Nat → Nat) (A : Nat → Prop) (h : Nat → Nat) (L : Nat) (F : va_W) (N : Nat) {p : Program} {e : Env} {s : State} {m : MethodId} {args : Array Value} {below : List Frame} {meth : Method} {c : Code} (E : Ev p cX1_staff 6 (some .int) RX1 (Cond.code yX1_staff cX1_staff 6 (some .int) :: bw) D cA tS A s m args meth c) : ∀ (n : Nat) (x1 : Int32) (x3 : Int32) (x4 : Int32) (x5 : Int32) (σ : Sg) (r0 : Int32) (s0 : Sg) (hM : f_X1_staff_38 N n x1 x3 x4 x5 σ = some (r0, s0)) (H : Heap) (locs : List Loc) (hw : Wd D A (wK cA h σ ++ (wLg cA h σ L ++ (wC cA h σ ++ F))) s.heap H locs) (ls : Array Slot) (hl : lv_has ls 6 [(0, .ref (h 42)), (1, .int x1), (3, .int x3), (4, .int x4), (5, .int x5)]), W p l e ({ frames := 1, cells := 0, slots := 0, locals := 24 } : Room) s m args below meth c H locs 0 0 (MQ below (QW D A (some (.int r0)) (wK cA h s0 ++ (wLg cA h s0 L ++ (wC cA h s0 ++ F)))) args s 0 0 A) (F0 m 38 ls []) := by
  have hx := E.1.1
  have hb := E.1.2.1
  intro n
  induction n with
  | zero =>
    intro x1 x3 x4 x5 σ r0 s0 hM
    cases hM
  | succ n ih =>
    intro x1 x3 x4 x5 σ r0 s0 hM H locs hw ls hl
    rw [f_X1_staff_38] at hM
    refine lv_iload hx hb dX1_staff_38 (lv_at hl 4 rfl) ?_
    refine lv_if_lt (tgt := 96) hx hb dX1_staff_40 (by decide) (fun c1 => ?_) (fun c1 => ?_)
    · replace hM := i_pos hM c1
      refine lv_iload_n hx hb dX1_staff_96 rfl (lv_at hl 2 rfl) ?_
      cases hM
      exact q_reti E hw dX1_staff_97
    · replace hM := i_neg hM c1
      refine lv_iload hx hb dX1_staff_43 (lv_at hl 3 rfl) ?_
      refine lv_if_le (tgt := 96) hx hb dX1_staff_45 (by decide) (fun c2 => ?_) (fun c2 => ?_)
      · replace hM := i_pos hM c2
        refine lv_iload_n hx hb dX1_staff_96 rfl (lv_at hl 2 rfl) ?_
        cases hM
        exact q_reti E hw dX1_staff_97
      · replace hM := i_neg hM c2
        refine lv_aload_n hx hb dX1_staff_48 rfl (lv_at hl 0 rfl) ?_
        refine q_get (C := RX1) (T := TX1) (N := 6) (ci := 1) E (fun w h => List.mem_cons_of_mem _ (inX1 w h)) hw 12 rfl rfl 3 (by decide) (List.mem_cons_of_mem _ tb_272) (v := .ref (h 44)) rfl dX1_staff_49 ?_
        refine q_get (C := RX7) (T := TX7) (N := 15) (ci := 7) E (fun w h => List.mem_cons_of_mem _ (inX7 w h)) hw 16 rfl rfl 5 (by decide) (List.mem_cons_of_mem _ tb_160) (v := .ref (h 21)) rfl dX1_staff_52 ?_
        refine lv_iload hx hb dX1_staff_55 (lv_at hl 4 rfl) ?_
        obtain ⟨g3, hM⟩ := g_some hM
        refine q_ald E hw 22 (n := 60) rfl g3 (x := (σ 21 (ix x5))) rfl dX1_staff_57 ?_
        refine lv_iconst (v := 1) hx hb dX1_staff_58 (by decide) ?_
        refine lv_icmp_ne (tgt := 90) hx hb dX1_staff_59 (by decide) (fun c4 => ?_) (fun c4 => ?_)
        · replace hM := i_neg hM c4
          refine lv_iinc (v := (x5 + (-1))) (lv' := [(5, .int (x5 + (-1))), (0, .ref (h 42)), (1, .int x1), (3, .int x3), (4, .int x4)]) hx hb dX1_staff_90 hl (k := 4) rfl rfl (by decide) rfl (fun ls hl => ?_)
          refine lv_goto (tgt := 38) hx hb dX1_staff_93 (by decide) ?_
          exact ih _ _ _ _ _ _ _ hM _ _ hw _ (lv_sub hl [1, 2, 3, 4, 0] rfl)
        · replace hM := i_pos hM c4
          refine lv_aload_n hx hb dX1_staff_62 rfl (lv_at hl 0 rfl) ?_
          refine q_get (C := RX1) (T := TX1) (N := 6) (ci := 1) E (fun w h => List.mem_cons_of_mem _ (inX1 w h)) hw 12 rfl rfl 3 (by decide) (List.mem_cons_of_mem _ tb_272) (v := .ref (h 44)) rfl dX1_staff_63 ?_
          refine q_get (C := RX7) (T := TX7) (N := 15) (ci := 7) E (fun w h => List.mem_cons_of_mem _ (inX7 w h)) hw 16 rfl rfl 4 (by decide) (List.mem_cons_of_mem _ tb_157) (v := .ref (h 20)) rfl dX1_staff_66 ?_
          refine lv_iload hx hb dX1_staff_69 (lv_at hl 4 rfl) ?_
          refine q_ald E hw 21 (n := 60) rfl g3 (x := (σ 20 (ix x5))) rfl dX1_staff_71 ?_
          refine lv_iload_n hx hb dX1_staff_72 rfl (lv_at hl 1 rfl) ?_
          refine lv_icmp_ne (tgt := 90) hx hb dX1_staff_73 (by decide) (fun c5 => ?_) (fun c5 => ?_)
          · replace hM := i_neg hM c5
            refine lv_iinc (v := (x5 + (-1))) (lv' := [(5, .int (x5 + (-1))), (0, .ref (h 42)), (1, .int x1), (3, .int x3), (4, .int x4)]) hx hb dX1_staff_90 hl (k := 4) rfl rfl (by decide) rfl (fun ls hl => ?_)
            refine lv_goto (tgt := 38) hx hb dX1_staff_93 (by decide) ?_
            exact ih _ _ _ _ _ _ _ hM _ _ hw _ (lv_sub hl [1, 2, 3, 4, 0] rfl)
          · replace hM := i_pos hM c5
            refine lv_aload_n hx hb dX1_staff_76 rfl (lv_at hl 0 rfl) ?_
            refine q_get (C := RX1) (T := TX1) (N := 6) (ci := 1) E (fun w h => List.mem_cons_of_mem _ (inX1 w h)) hw 12 rfl rfl 3 (by decide) (List.mem_cons_of_mem _ tb_272) (v := .ref (h 44)) rfl dX1_staff_77 ?_
            refine q_get (C := RX7) (T := TX7) (N := 15) (ci := 7) E (fun w h => List.mem_cons_of_mem _ (inX7 w h)) hw 16 rfl rfl 5 (by decide) (List.mem_cons_of_mem _ tb_160) (v := .ref (h 21)) rfl dX1_staff_80 ?_
            refine lv_iload hx hb dX1_staff_83 (lv_at hl 4 rfl) ?_
            refine lv_iconst (v := 0) hx hb dX1_staff_85 (by decide) ?_
            refine q_ast E hw 22 (n := 60) rfl g3 (wK cA h (up σ 21 (ix x5) 0) ++ (wLg cA h (up σ 21 (ix x5) 0) L ++ (wC cA h (up σ 21 (ix x5) 0) ++ F))) st_K_Lg_C_21 dX1_staff_86 (fun H locs hw => ?_)
            refine lv_iinc (v := (x4 + (-1))) (lv' := [(4, .int (x4 + (-1))), (0, .ref (h 42)), (1, .int x1), (3, .int x3), (5, .int x5)]) hx hb dX1_staff_87 hl (k := 3) rfl rfl (by decide) rfl (fun ls hl => ?_)
            refine lv_iinc (v := (x5 + (-1))) (lv' := [(5, .int (x5 + (-1))), (4, .int (x4 + (-1))), (0, .ref (h 42)), (1, .int x1), (3, .int x3)]) hx hb dX1_staff_90 hl (k := 4) rfl rfl (by decide) rfl (fun ls hl => ?_)
            refine lv_goto (tgt := 38) hx hb dX1_staff_93 (by decide) ?_
            exact ih _ _ _ _ _ _ _ hM _ _ hw _ (lv_sub hl [2, 3, 4, 1, 0] rfl)
set_option maxRecDepth 100000 in
set_option maxHeartbeats 4000000 in
theorem c_X1_staff (l : Launch) (D : va_G) (cA : Nat → ClassId) (tS : Nat → Nat) (A : Nat → Prop) (h : Nat → Nat) (L : Nat) (F : va_W) (N : Nat) (x1 : Int32) (x2 : Int32) (σ : Sg) (r0 : Int32) (s0 : Sg) (hM : f_X1_staff N x1 x2 σ = some (r0, s0)) : Ct l yX1_staff (Cond.code yX1_staff cX1_staff 6 (some .int) :: bw) 1 24 D cA tS A [.ref (h 42), .int x1, .int x2] (wK cA h σ ++ (wLg cA h σ L ++ (wC cA h σ ++ F))) (some (.int r0)) (wK cA h s0 ++ (wLg cA h s0 L ++ (wC cA h s0 ++ F))) := by
  refine ct_of (by decide +kernel) (Nat.le_of_ble_eq_true rfl) ?_
  intro p e s m below meth c E hw ls hl
  replace E : Ev p cX1_staff 6 (some .int) RX1 (Cond.code yX1_staff cX1_staff 6 (some .int) :: bw) D cA tS A s m _ meth c := E
  replace hl : lv_has ls 6 [(0, .ref (h 42)), (1, .int x1), (2, .int x2)] := hl
  have hx := E.1.1
  have hb := E.1.2.1
  unfold f_X1_staff at hM
  refine lv_aload_n hx hb dX1_staff_0 rfl (lv_at hl 0 rfl) ?_
  refine q_get (C := RX1) (T := TX1) (N := 6) (ci := 1) E (fun w h => List.mem_cons_of_mem _ (inX1 w h)) hw 12 rfl rfl 2 (by decide) (List.mem_cons_of_mem _ tb_270) (v := .ref (h 30)) rfl dX1_staff_1 ?_
  refine lv_iload_n hx hb dX1_staff_4 rfl (lv_at hl 1 rfl) ?_
  obtain ⟨g1, hM⟩ := g_some hM
  refine q_ald E hw 31 (n := 4) rfl g1 (x := (σ 30 (ix x1))) rfl dX1_staff_5 ?_
  refine lv_istore_n (lv' := [(3, .int (σ 30 (ix x1))), (0, .ref (h 42)), (1, .int x1), (2, .int x2)]) hx hb dX1_staff_6 rfl hl (by decide) rfl (fun ls hl => ?_)
  refine lv_aload_n hx hb dX1_staff_7 rfl (lv_at hl 1 rfl) ?_
  refine q_get (C := RX1) (T := TX1) (N := 6) (ci := 1) E (fun w h => List.mem_cons_of_mem _ (inX1 w h)) hw 12 rfl rfl 2 (by decide) (List.mem_cons_of_mem _ tb_270) (v := .ref (h 30)) rfl dX1_staff_8 ?_
  refine lv_iload_n hx hb dX1_staff_11 rfl (lv_at hl 2 rfl) ?_
  refine lv_iload_n hx hb dX1_staff_12 rfl (lv_at hl 3 rfl) ?_
  refine q_ast E hw 31 (n := 4) rfl g1 (wK cA h (up σ 30 (ix x1) x2) ++ (wLg cA h (up σ 30 (ix x1) x2) L ++ (wC cA h (up σ 30 (ix x1) x2) ++ F))) st_K_Lg_C_30 dX1_staff_13 (fun H locs hw => ?_)
  refine lv_aload_n hx hb dX1_staff_14 rfl (lv_at hl 1 rfl) ?_
  refine q_get (C := RX1) (T := TX1) (N := 6) (ci := 1) E (fun w h => List.mem_cons_of_mem _ (inX1 w h)) hw 12 rfl rfl 3 (by decide) (List.mem_cons_of_mem _ tb_272) (v := .ref (h 44)) rfl dX1_staff_15 ?_
  refine lv_iload_n hx hb dX1_staff_18 rfl (lv_at hl 2 rfl) ?_
  refine lv_iconst (v := 1) hx hb dX1_staff_19 (by decide) ?_
  obtain ⟨p2, h3, hM⟩ := b_some hM
  refine q_cv (As := [.int x1, .int 1]) (rest := []) E hw hl (c_X7_countAt l D cA tS A h L F N x1 1 (up σ 30 (ix x1) x2) p2 h3) 2 (bwV bw_c tb_584 tb_585 tb_586 tb_52 tb_587) rfl (by decide +kernel) ⟨Nat.le_of_ble_eq_true rfl, Nat.le_of_ble_eq_true rfl⟩ 16 7 (T := TX7) (N := 15) rfl rfl rfl rfl (Nat.le_of_ble_eq_true rfl) ⟨Nat.zero_le _, Nat.zero_le _⟩ dX1_staff_20 (fun H locs hw => ?_)
  refine lv_iload_n hx hb dX1_staff_23 rfl (lv_at hl 3 rfl) ?_
  refine lv_isub hx hb dX1_staff_24 ?_
  refine lv_istore (lv' := [(4, .int (p2 - x2)), (3, .int (σ 30 (ix x1))), (0, .ref (h 42)), (1, .int x1), (2, .int x2)]) hx hb dX1_staff_25 hl (by decide) rfl (fun ls hl => ?_)
  refine lv_aload_n hx hb dX1_staff_27 rfl (lv_at hl 2 rfl) ?_
  refine q_get (C := RX1) (T := TX1) (N := 6) (ci := 1) E (fun w h => List.mem_cons_of_mem _ (inX1 w h)) hw 12 rfl rfl 3 (by decide) (List.mem_cons_of_mem _ tb_272) (v := .ref (h 44)) rfl dX1_staff_28 ?_
  refine q_get (C := RX7) (T := TX7) (N := 15) (ci := 7) E (fun w h => List.mem_cons_of_mem _ (inX7 w h)) hw 16 rfl rfl 14 (by decide) (List.mem_cons_of_mem _ tb_185) (v := .int (σ 15 0)) (q_fld (congrFun (up_ne σ 30 (ix x1) x2 15 (by decide)) 0) rfl) dX1_staff_31 ?_
  refine lv_iconst (v := 1) hx hb dX1_staff_34 (by decide) ?_
  refine lv_isub hx hb dX1_staff_35 ?_
  refine lv_istore (lv' := [(5, .int ((σ 15 0) - 1)), (4, .int (p2 - x2)), (3, .int (σ 30 (ix x1))), (0, .ref (h 42)), (1, .int x1), (2, .int x2)]) hx hb dX1_staff_36 hl (by decide) rfl (fun ls hl => ?_)
  exact s_X1_staff_38 l D cA tS A h L F N E N _ _ _ _ _ _ _ hM _ _ hw _ (lv_sub hl [3, 4, 2, 1, 0] rfl)
set_option maxRecDepth 100000 in
set_option maxHeartbeats 4000000 in
theorem c_X7_add (l : Launch) (D : va_G) (cA : Nat → ClassId) (tS : Nat → Nat) (A : Nat → Prop) (h : Nat → Nat) (L : Nat) (F : va_W) (x1 : Int32) (x2 : Int32) (x3 : Int32) (x4 : Int32) (x5 : Int32) (σ : Sg) (r0 : Int32) (s0 : Sg) (hM : f_X7_add x1 x2 x3 x4 x5 σ = some (r0, s0)) : Ct l yX7_add (Cond.code yX7_add cX7_add 7 (some .int) :: bw) 0 0 D cA tS A [.ref (h 44), .int x1, .int x2, .int x3, .int x4, .int x5] (wK cA h σ ++ (wLg cA h σ L ++ (wC cA h σ ++ F))) (some (.int r0)) (wK cA h s0 ++ (wLg cA h s0 L ++ (wC cA h s0 ++ F))) := by
  refine ct_of (by decide +kernel) (Nat.le_of_ble_eq_true rfl) ?_
  intro p e s m below meth c E hw ls hl
  replace E : Ev p cX7_add 7 (some .int) RX7 (Cond.code yX7_add cX7_add 7 (some .int) :: bw) D cA tS A s m _ meth c := E
  replace hl : lv_has ls 7 [(0, .ref (h 44)), (1, .int x1), (2, .int x2), (3, .int x3), (4, .int x4), (5, .int x5)] := hl
  have hx := E.1.1
  have hb := E.1.2.1
  unfold f_X7_add at hM
  refine lv_aload_n hx hb dX7_add_0 rfl (lv_at hl 0 rfl) ?_
  refine q_get (C := RX7) (T := TX7) (N := 15) (ci := 7) E (fun w h => List.mem_cons_of_mem _ (inX7 w h)) hw 16 rfl rfl 14 (by decide) (List.mem_cons_of_mem _ tb_184) (v := .int (σ 15 0)) rfl dX7_add_1 ?_
  refine lv_istore (lv' := [(6, .int (σ 15 0)), (0, .ref (h 44)), (1, .int x1), (2, .int x2), (3, .int x3), (4, .int x4), (5, .int x5)]) hx hb dX7_add_4 hl (by decide) rfl (fun ls hl => ?_)
  refine lv_aload_n hx hb dX7_add_6 rfl (lv_at hl 1 rfl) ?_
  refine q_get (C := RX7) (T := TX7) (N := 15) (ci := 7) E (fun w h => List.mem_cons_of_mem _ (inX7 w h)) hw 16 rfl rfl 0 (by decide) (List.mem_cons_of_mem _ tb_149) (v := .ref (h 16)) rfl dX7_add_7 ?_
  refine lv_iload hx hb dX7_add_10 (lv_at hl 0 rfl) ?_
  refine lv_iload_n hx hb dX7_add_12 rfl (lv_at hl 2 rfl) ?_
  obtain ⟨g1, hM⟩ := g_some hM
  refine q_ast E hw 17 (n := 60) rfl g1 (wK cA h (up σ 16 (ix (σ 15 0)) x1) ++ (wLg cA h (up σ 16 (ix (σ 15 0)) x1) L ++ (wC cA h (up σ 16 (ix (σ 15 0)) x1) ++ F))) st_K_Lg_C_16 dX7_add_13 (fun H locs hw => ?_)
  refine lv_aload_n hx hb dX7_add_14 rfl (lv_at hl 1 rfl) ?_
  refine q_get (C := RX7) (T := TX7) (N := 15) (ci := 7) E (fun w h => List.mem_cons_of_mem _ (inX7 w h)) hw 16 rfl rfl 1 (by decide) (List.mem_cons_of_mem _ tb_152) (v := .ref (h 17)) rfl dX7_add_15 ?_
  refine lv_iload hx hb dX7_add_18 (lv_at hl 0 rfl) ?_
  refine lv_iload_n hx hb dX7_add_20 rfl (lv_at hl 3 rfl) ?_
  refine q_ast E hw 18 (n := 60) rfl g1 (wK cA h (up (up σ 16 (ix (σ 15 0)) x1) 17 (ix (σ 15 0)) x2) ++ (wLg cA h (up (up σ 16 (ix (σ 15 0)) x1) 17 (ix (σ 15 0)) x2) L ++ (wC cA h (up (up σ 16 (ix (σ 15 0)) x1) 17 (ix (σ 15 0)) x2) ++ F))) st_K_Lg_C_17 dX7_add_21 (fun H locs hw => ?_)
  refine lv_aload_n hx hb dX7_add_22 rfl (lv_at hl 1 rfl) ?_
  refine q_get (C := RX7) (T := TX7) (N := 15) (ci := 7) E (fun w h => List.mem_cons_of_mem _ (inX7 w h)) hw 16 rfl rfl 2 (by decide) (List.mem_cons_of_mem _ tb_153) (v := .ref (h 18)) rfl dX7_add_23 ?_
  refine lv_iload hx hb dX7_add_26 (lv_at hl 0 rfl) ?_
  refine lv_iload_n hx hb dX7_add_28 rfl (lv_at hl 4 rfl) ?_
  refine q_ast E hw 19 (n := 60) rfl g1 (wK cA h (up (up (up σ 16 (ix (σ 15 0)) x1) 17 (ix (σ 15 0)) x2) 18 (ix (σ 15 0)) x3) ++ (wLg cA h (up (up (up σ 16 (ix (σ 15 0)) x1) 17 (ix (σ 15 0)) x2) 18 (ix (σ 15 0)) x3) L ++ (wC cA h (up (up (up σ 16 (ix (σ 15 0)) x1) 17 (ix (σ 15 0)) x2) 18 (ix (σ 15 0)) x3) ++ F))) st_K_Lg_C_18 dX7_add_29 (fun H locs hw => ?_)
  refine lv_aload_n hx hb dX7_add_30 rfl (lv_at hl 1 rfl) ?_
  refine q_get (C := RX7) (T := TX7) (N := 15) (ci := 7) E (fun w h => List.mem_cons_of_mem _ (inX7 w h)) hw 16 rfl rfl 3 (by decide) (List.mem_cons_of_mem _ tb_154) (v := .ref (h 19)) rfl dX7_add_31 ?_
  refine lv_iload hx hb dX7_add_34 (lv_at hl 0 rfl) ?_
  refine lv_iload hx hb dX7_add_36 (lv_at hl 5 rfl) ?_
  refine q_ast E hw 20 (n := 60) rfl g1 (wK cA h (up (up (up (up σ 16 (ix (σ 15 0)) x1) 17 (ix (σ 15 0)) x2) 18 (ix (σ 15 0)) x3) 19 (ix (σ 15 0)) x4) ++ (wLg cA h (up (up (up (up σ 16 (ix (σ 15 0)) x1) 17 (ix (σ 15 0)) x2) 18 (ix (σ 15 0)) x3) 19 (ix (σ 15 0)) x4) L ++ (wC cA h (up (up (up (up σ 16 (ix (σ 15 0)) x1) 17 (ix (σ 15 0)) x2) 18 (ix (σ 15 0)) x3) 19 (ix (σ 15 0)) x4) ++ F))) st_K_Lg_C_19 dX7_add_38 (fun H locs hw => ?_)
  refine lv_aload_n hx hb dX7_add_39 rfl (lv_at hl 1 rfl) ?_
  refine q_get (C := RX7) (T := TX7) (N := 15) (ci := 7) E (fun w h => List.mem_cons_of_mem _ (inX7 w h)) hw 16 rfl rfl 4 (by decide) (List.mem_cons_of_mem _ tb_156) (v := .ref (h 20)) rfl dX7_add_40 ?_
  refine lv_iload hx hb dX7_add_43 (lv_at hl 0 rfl) ?_
  refine lv_iconst (v := 0) hx hb dX7_add_45 (by decide) ?_
  refine q_ast E hw 21 (n := 60) rfl g1 (wK cA h (up (up (up (up (up σ 16 (ix (σ 15 0)) x1) 17 (ix (σ 15 0)) x2) 18 (ix (σ 15 0)) x3) 19 (ix (σ 15 0)) x4) 20 (ix (σ 15 0)) 0) ++ (wLg cA h (up (up (up (up (up σ 16 (ix (σ 15 0)) x1) 17 (ix (σ 15 0)) x2) 18 (ix (σ 15 0)) x3) 19 (ix (σ 15 0)) x4) 20 (ix (σ 15 0)) 0) L ++ (wC cA h (up (up (up (up (up σ 16 (ix (σ 15 0)) x1) 17 (ix (σ 15 0)) x2) 18 (ix (σ 15 0)) x3) 19 (ix (σ 15 0)) x4) 20 (ix (σ 15 0)) 0) ++ F))) st_K_Lg_C_20 dX7_add_46 (fun H locs hw => ?_)
  refine lv_aload_n hx hb dX7_add_47 rfl (lv_at hl 1 rfl) ?_
  refine q_get (C := RX7) (T := TX7) (N := 15) (ci := 7) E (fun w h => List.mem_cons_of_mem _ (inX7 w h)) hw 16 rfl rfl 5 (by decide) (List.mem_cons_of_mem _ tb_159) (v := .ref (h 21)) rfl dX7_add_48 ?_
  refine lv_iload hx hb dX7_add_51 (lv_at hl 0 rfl) ?_
  refine lv_iconst (v := 0) hx hb dX7_add_53 (by decide) ?_
  refine q_ast E hw 22 (n := 60) rfl g1 (wK cA h (up (up (up (up (up (up σ 16 (ix (σ 15 0)) x1) 17 (ix (σ 15 0)) x2) 18 (ix (σ 15 0)) x3) 19 (ix (σ 15 0)) x4) 20 (ix (σ 15 0)) 0) 21 (ix (σ 15 0)) 0) ++ (wLg cA h (up (up (up (up (up (up σ 16 (ix (σ 15 0)) x1) 17 (ix (σ 15 0)) x2) 18 (ix (σ 15 0)) x3) 19 (ix (σ 15 0)) x4) 20 (ix (σ 15 0)) 0) 21 (ix (σ 15 0)) 0) L ++ (wC cA h (up (up (up (up (up (up σ 16 (ix (σ 15 0)) x1) 17 (ix (σ 15 0)) x2) 18 (ix (σ 15 0)) x3) 19 (ix (σ 15 0)) x4) 20 (ix (σ 15 0)) 0) 21 (ix (σ 15 0)) 0) ++ F))) st_K_Lg_C_21 dX7_add_54 (fun H locs hw => ?_)
  refine lv_aload_n hx hb dX7_add_55 rfl (lv_at hl 1 rfl) ?_
  refine q_get (C := RX7) (T := TX7) (N := 15) (ci := 7) E (fun w h => List.mem_cons_of_mem _ (inX7 w h)) hw 16 rfl rfl 6 (by decide) (List.mem_cons_of_mem _ tb_162) (v := .ref (h 22)) rfl dX7_add_56 ?_
  refine lv_iload hx hb dX7_add_59 (lv_at hl 0 rfl) ?_
  refine lv_iconst (v := 0) hx hb dX7_add_61 (by decide) ?_
  refine q_ast E hw 23 (n := 60) rfl g1 (wK cA h (up (up (up (up (up (up (up σ 16 (ix (σ 15 0)) x1) 17 (ix (σ 15 0)) x2) 18 (ix (σ 15 0)) x3) 19 (ix (σ 15 0)) x4) 20 (ix (σ 15 0)) 0) 21 (ix (σ 15 0)) 0) 22 (ix (σ 15 0)) 0) ++ (wLg cA h (up (up (up (up (up (up (up σ 16 (ix (σ 15 0)) x1) 17 (ix (σ 15 0)) x2) 18 (ix (σ 15 0)) x3) 19 (ix (σ 15 0)) x4) 20 (ix (σ 15 0)) 0) 21 (ix (σ 15 0)) 0) 22 (ix (σ 15 0)) 0) L ++ (wC cA h (up (up (up (up (up (up (up σ 16 (ix (σ 15 0)) x1) 17 (ix (σ 15 0)) x2) 18 (ix (σ 15 0)) x3) 19 (ix (σ 15 0)) x4) 20 (ix (σ 15 0)) 0) 21 (ix (σ 15 0)) 0) 22 (ix (σ 15 0)) 0) ++ F))) st_K_Lg_C_22 dX7_add_62 (fun H locs hw => ?_)
  refine lv_aload_n hx hb dX7_add_63 rfl (lv_at hl 1 rfl) ?_
  refine q_get (C := RX7) (T := TX7) (N := 15) (ci := 7) E (fun w h => List.mem_cons_of_mem _ (inX7 w h)) hw 16 rfl rfl 7 (by decide) (List.mem_cons_of_mem _ tb_165) (v := .ref (h 23)) rfl dX7_add_64 ?_
  refine lv_iload hx hb dX7_add_67 (lv_at hl 0 rfl) ?_
  refine lv_iconst (v := 0) hx hb dX7_add_69 (by decide) ?_
  refine q_ast E hw 24 (n := 60) rfl g1 (wK cA h (up (up (up (up (up (up (up (up σ 16 (ix (σ 15 0)) x1) 17 (ix (σ 15 0)) x2) 18 (ix (σ 15 0)) x3) 19 (ix (σ 15 0)) x4) 20 (ix (σ 15 0)) 0) 21 (ix (σ 15 0)) 0) 22 (ix (σ 15 0)) 0) 23 (ix (σ 15 0)) 0) ++ (wLg cA h (up (up (up (up (up (up (up (up σ 16 (ix (σ 15 0)) x1) 17 (ix (σ 15 0)) x2) 18 (ix (σ 15 0)) x3) 19 (ix (σ 15 0)) x4) 20 (ix (σ 15 0)) 0) 21 (ix (σ 15 0)) 0) 22 (ix (σ 15 0)) 0) 23 (ix (σ 15 0)) 0) L ++ (wC cA h (up (up (up (up (up (up (up (up σ 16 (ix (σ 15 0)) x1) 17 (ix (σ 15 0)) x2) 18 (ix (σ 15 0)) x3) 19 (ix (σ 15 0)) x4) 20 (ix (σ 15 0)) 0) 21 (ix (σ 15 0)) 0) 22 (ix (σ 15 0)) 0) 23 (ix (σ 15 0)) 0) ++ F))) st_K_Lg_C_23 dX7_add_70 (fun H locs hw => ?_)
  refine lv_aload_n hx hb dX7_add_71 rfl (lv_at hl 1 rfl) ?_
  refine q_get (C := RX7) (T := TX7) (N := 15) (ci := 7) E (fun w h => List.mem_cons_of_mem _ (inX7 w h)) hw 16 rfl rfl 8 (by decide) (List.mem_cons_of_mem _ tb_167) (v := .ref (h 24)) rfl dX7_add_72 ?_
  refine lv_iload hx hb dX7_add_75 (lv_at hl 0 rfl) ?_
  refine lv_iconst (v := 0) hx hb dX7_add_77 (by decide) ?_
  refine q_ast E hw 25 (n := 60) rfl g1 (wK cA h (up (up (up (up (up (up (up (up (up σ 16 (ix (σ 15 0)) x1) 17 (ix (σ 15 0)) x2) 18 (ix (σ 15 0)) x3) 19 (ix (σ 15 0)) x4) 20 (ix (σ 15 0)) 0) 21 (ix (σ 15 0)) 0) 22 (ix (σ 15 0)) 0) 23 (ix (σ 15 0)) 0) 24 (ix (σ 15 0)) 0) ++ (wLg cA h (up (up (up (up (up (up (up (up (up σ 16 (ix (σ 15 0)) x1) 17 (ix (σ 15 0)) x2) 18 (ix (σ 15 0)) x3) 19 (ix (σ 15 0)) x4) 20 (ix (σ 15 0)) 0) 21 (ix (σ 15 0)) 0) 22 (ix (σ 15 0)) 0) 23 (ix (σ 15 0)) 0) 24 (ix (σ 15 0)) 0) L ++ (wC cA h (up (up (up (up (up (up (up (up (up σ 16 (ix (σ 15 0)) x1) 17 (ix (σ 15 0)) x2) 18 (ix (σ 15 0)) x3) 19 (ix (σ 15 0)) x4) 20 (ix (σ 15 0)) 0) 21 (ix (σ 15 0)) 0) 22 (ix (σ 15 0)) 0) 23 (ix (σ 15 0)) 0) 24 (ix (σ 15 0)) 0) ++ F))) st_K_Lg_C_24 dX7_add_78 (fun H locs hw => ?_)
  refine lv_aload_n hx hb dX7_add_79 rfl (lv_at hl 1 rfl) ?_
  refine q_get (C := RX7) (T := TX7) (N := 15) (ci := 7) E (fun w h => List.mem_cons_of_mem _ (inX7 w h)) hw 16 rfl rfl 9 (by decide) (List.mem_cons_of_mem _ tb_170) (v := .ref (h 25)) rfl dX7_add_80 ?_
  refine lv_iload hx hb dX7_add_83 (lv_at hl 0 rfl) ?_
  refine lv_iconst (v := 0) hx hb dX7_add_85 (by decide) ?_
  refine q_ast E hw 26 (n := 60) rfl g1 (wK cA h (up (up (up (up (up (up (up (up (up (up σ 16 (ix (σ 15 0)) x1) 17 (ix (σ 15 0)) x2) 18 (ix (σ 15 0)) x3) 19 (ix (σ 15 0)) x4) 20 (ix (σ 15 0)) 0) 21 (ix (σ 15 0)) 0) 22 (ix (σ 15 0)) 0) 23 (ix (σ 15 0)) 0) 24 (ix (σ 15 0)) 0) 25 (ix (σ 15 0)) 0) ++ (wLg cA h (up (up (up (up (up (up (up (up (up (up σ 16 (ix (σ 15 0)) x1) 17 (ix (σ 15 0)) x2) 18 (ix (σ 15 0)) x3) 19 (ix (σ 15 0)) x4) 20 (ix (σ 15 0)) 0) 21 (ix (σ 15 0)) 0) 22 (ix (σ 15 0)) 0) 23 (ix (σ 15 0)) 0) 24 (ix (σ 15 0)) 0) 25 (ix (σ 15 0)) 0) L ++ (wC cA h (up (up (up (up (up (up (up (up (up (up σ 16 (ix (σ 15 0)) x1) 17 (ix (σ 15 0)) x2) 18 (ix (σ 15 0)) x3) 19 (ix (σ 15 0)) x4) 20 (ix (σ 15 0)) 0) 21 (ix (σ 15 0)) 0) 22 (ix (σ 15 0)) 0) 23 (ix (σ 15 0)) 0) 24 (ix (σ 15 0)) 0) 25 (ix (σ 15 0)) 0) ++ F))) st_K_Lg_C_25 dX7_add_86 (fun H locs hw => ?_)
  refine lv_aload_n hx hb dX7_add_87 rfl (lv_at hl 1 rfl) ?_
  refine q_get (C := RX7) (T := TX7) (N := 15) (ci := 7) E (fun w h => List.mem_cons_of_mem _ (inX7 w h)) hw 16 rfl rfl 10 (by decide) (List.mem_cons_of_mem _ tb_173) (v := .ref (h 26)) rfl dX7_add_88 ?_
  refine lv_iload hx hb dX7_add_91 (lv_at hl 0 rfl) ?_
  refine lv_iconst (v := (-1)) hx hb dX7_add_93 (by decide) ?_
  refine q_ast E hw 27 (n := 60) rfl g1 (wK cA h (up (up (up (up (up (up (up (up (up (up (up σ 16 (ix (σ 15 0)) x1) 17 (ix (σ 15 0)) x2) 18 (ix (σ 15 0)) x3) 19 (ix (σ 15 0)) x4) 20 (ix (σ 15 0)) 0) 21 (ix (σ 15 0)) 0) 22 (ix (σ 15 0)) 0) 23 (ix (σ 15 0)) 0) 24 (ix (σ 15 0)) 0) 25 (ix (σ 15 0)) 0) 26 (ix (σ 15 0)) (-1)) ++ (wLg cA h (up (up (up (up (up (up (up (up (up (up (up σ 16 (ix (σ 15 0)) x1) 17 (ix (σ 15 0)) x2) 18 (ix (σ 15 0)) x3) 19 (ix (σ 15 0)) x4) 20 (ix (σ 15 0)) 0) 21 (ix (σ 15 0)) 0) 22 (ix (σ 15 0)) 0) 23 (ix (σ 15 0)) 0) 24 (ix (σ 15 0)) 0) 25 (ix (σ 15 0)) 0) 26 (ix (σ 15 0)) (-1)) L ++ (wC cA h (up (up (up (up (up (up (up (up (up (up (up σ 16 (ix (σ 15 0)) x1) 17 (ix (σ 15 0)) x2) 18 (ix (σ 15 0)) x3) 19 (ix (σ 15 0)) x4) 20 (ix (σ 15 0)) 0) 21 (ix (σ 15 0)) 0) 22 (ix (σ 15 0)) 0) 23 (ix (σ 15 0)) 0) 24 (ix (σ 15 0)) 0) 25 (ix (σ 15 0)) 0) 26 (ix (σ 15 0)) (-1)) ++ F))) st_K_Lg_C_26 dX7_add_94 (fun H locs hw => ?_)
  refine lv_aload_n hx hb dX7_add_95 rfl (lv_at hl 1 rfl) ?_
  refine q_get (C := RX7) (T := TX7) (N := 15) (ci := 7) E (fun w h => List.mem_cons_of_mem _ (inX7 w h)) hw 16 rfl rfl 11 (by decide) (List.mem_cons_of_mem _ tb_176) (v := .ref (h 27)) rfl dX7_add_96 ?_
  refine lv_iload hx hb dX7_add_99 (lv_at hl 0 rfl) ?_
  refine lv_iload hx hb dX7_add_101 (lv_at hl 6 rfl) ?_
  refine q_ast E hw 28 (n := 60) rfl g1 (wK cA h (up (up (up (up (up (up (up (up (up (up (up (up σ 16 (ix (σ 15 0)) x1) 17 (ix (σ 15 0)) x2) 18 (ix (σ 15 0)) x3) 19 (ix (σ 15 0)) x4) 20 (ix (σ 15 0)) 0) 21 (ix (σ 15 0)) 0) 22 (ix (σ 15 0)) 0) 23 (ix (σ 15 0)) 0) 24 (ix (σ 15 0)) 0) 25 (ix (σ 15 0)) 0) 26 (ix (σ 15 0)) (-1)) 27 (ix (σ 15 0)) x5) ++ (wLg cA h (up (up (up (up (up (up (up (up (up (up (up (up σ 16 (ix (σ 15 0)) x1) 17 (ix (σ 15 0)) x2) 18 (ix (σ 15 0)) x3) 19 (ix (σ 15 0)) x4) 20 (ix (σ 15 0)) 0) 21 (ix (σ 15 0)) 0) 22 (ix (σ 15 0)) 0) 23 (ix (σ 15 0)) 0) 24 (ix (σ 15 0)) 0) 25 (ix (σ 15 0)) 0) 26 (ix (σ 15 0)) (-1)) 27 (ix (σ 15 0)) x5) L ++ (wC cA h (up (up (up (up (up (up (up (up (up (up (up (up σ 16 (ix (σ 15 0)) x1) 17 (ix (σ 15 0)) x2) 18 (ix (σ 15 0)) x3) 19 (ix (σ 15 0)) x4) 20 (ix (σ 15 0)) 0) 21 (ix (σ 15 0)) 0) 22 (ix (σ 15 0)) 0) 23 (ix (σ 15 0)) 0) 24 (ix (σ 15 0)) 0) 25 (ix (σ 15 0)) 0) 26 (ix (σ 15 0)) (-1)) 27 (ix (σ 15 0)) x5) ++ F))) st_K_Lg_C_27 dX7_add_103 (fun H locs hw => ?_)
  refine lv_aload_n hx hb dX7_add_104 rfl (lv_at hl 1 rfl) ?_
  refine q_get (C := RX7) (T := TX7) (N := 15) (ci := 7) E (fun w h => List.mem_cons_of_mem _ (inX7 w h)) hw 16 rfl rfl 12 (by decide) (List.mem_cons_of_mem _ tb_178) (v := .ref (h 28)) rfl dX7_add_105 ?_
  refine lv_iload hx hb dX7_add_108 (lv_at hl 0 rfl) ?_
  refine lv_iconst (v := (-1)) hx hb dX7_add_110 (by decide) ?_
  refine q_ast E hw 29 (n := 60) rfl g1 (wK cA h (up (up (up (up (up (up (up (up (up (up (up (up (up σ 16 (ix (σ 15 0)) x1) 17 (ix (σ 15 0)) x2) 18 (ix (σ 15 0)) x3) 19 (ix (σ 15 0)) x4) 20 (ix (σ 15 0)) 0) 21 (ix (σ 15 0)) 0) 22 (ix (σ 15 0)) 0) 23 (ix (σ 15 0)) 0) 24 (ix (σ 15 0)) 0) 25 (ix (σ 15 0)) 0) 26 (ix (σ 15 0)) (-1)) 27 (ix (σ 15 0)) x5) 28 (ix (σ 15 0)) (-1)) ++ (wLg cA h (up (up (up (up (up (up (up (up (up (up (up (up (up σ 16 (ix (σ 15 0)) x1) 17 (ix (σ 15 0)) x2) 18 (ix (σ 15 0)) x3) 19 (ix (σ 15 0)) x4) 20 (ix (σ 15 0)) 0) 21 (ix (σ 15 0)) 0) 22 (ix (σ 15 0)) 0) 23 (ix (σ 15 0)) 0) 24 (ix (σ 15 0)) 0) 25 (ix (σ 15 0)) 0) 26 (ix (σ 15 0)) (-1)) 27 (ix (σ 15 0)) x5) 28 (ix (σ 15 0)) (-1)) L ++ (wC cA h (up (up (up (up (up (up (up (up (up (up (up (up (up σ 16 (ix (σ 15 0)) x1) 17 (ix (σ 15 0)) x2) 18 (ix (σ 15 0)) x3) 19 (ix (σ 15 0)) x4) 20 (ix (σ 15 0)) 0) 21 (ix (σ 15 0)) 0) 22 (ix (σ 15 0)) 0) 23 (ix (σ 15 0)) 0) 24 (ix (σ 15 0)) 0) 25 (ix (σ 15 0)) 0) 26 (ix (σ 15 0)) (-1)) 27 (ix (σ 15 0)) x5) 28 (ix (σ 15 0)) (-1)) ++ F))) st_K_Lg_C_28 dX7_add_111 (fun H locs hw => ?_)
  refine lv_aload_n hx hb dX7_add_112 rfl (lv_at hl 1 rfl) ?_
  refine q_get (C := RX7) (T := TX7) (N := 15) (ci := 7) E (fun w h => List.mem_cons_of_mem _ (inX7 w h)) hw 16 rfl rfl 13 (by decide) (List.mem_cons_of_mem _ tb_181) (v := .ref (h 29)) rfl dX7_add_113 ?_
  refine lv_iload hx hb dX7_add_116 (lv_at hl 0 rfl) ?_
  refine lv_iconst (v := (-1)) hx hb dX7_add_118 (by decide) ?_
  refine q_ast E hw 30 (n := 60) rfl g1 (wK cA h (up (up (up (up (up (up (up (up (up (up (up (up (up (up σ 16 (ix (σ 15 0)) x1) 17 (ix (σ 15 0)) x2) 18 (ix (σ 15 0)) x3) 19 (ix (σ 15 0)) x4) 20 (ix (σ 15 0)) 0) 21 (ix (σ 15 0)) 0) 22 (ix (σ 15 0)) 0) 23 (ix (σ 15 0)) 0) 24 (ix (σ 15 0)) 0) 25 (ix (σ 15 0)) 0) 26 (ix (σ 15 0)) (-1)) 27 (ix (σ 15 0)) x5) 28 (ix (σ 15 0)) (-1)) 29 (ix (σ 15 0)) (-1)) ++ (wLg cA h (up (up (up (up (up (up (up (up (up (up (up (up (up (up σ 16 (ix (σ 15 0)) x1) 17 (ix (σ 15 0)) x2) 18 (ix (σ 15 0)) x3) 19 (ix (σ 15 0)) x4) 20 (ix (σ 15 0)) 0) 21 (ix (σ 15 0)) 0) 22 (ix (σ 15 0)) 0) 23 (ix (σ 15 0)) 0) 24 (ix (σ 15 0)) 0) 25 (ix (σ 15 0)) 0) 26 (ix (σ 15 0)) (-1)) 27 (ix (σ 15 0)) x5) 28 (ix (σ 15 0)) (-1)) 29 (ix (σ 15 0)) (-1)) L ++ (wC cA h (up (up (up (up (up (up (up (up (up (up (up (up (up (up σ 16 (ix (σ 15 0)) x1) 17 (ix (σ 15 0)) x2) 18 (ix (σ 15 0)) x3) 19 (ix (σ 15 0)) x4) 20 (ix (σ 15 0)) 0) 21 (ix (σ 15 0)) 0) 22 (ix (σ 15 0)) 0) 23 (ix (σ 15 0)) 0) 24 (ix (σ 15 0)) 0) 25 (ix (σ 15 0)) 0) 26 (ix (σ 15 0)) (-1)) 27 (ix (σ 15 0)) x5) 28 (ix (σ 15 0)) (-1)) 29 (ix (σ 15 0)) (-1)) ++ F))) st_K_Lg_C_29 dX7_add_119 (fun H locs hw => ?_)
  refine lv_aload_n hx hb dX7_add_120 rfl (lv_at hl 1 rfl) ?_
  refine lv_dup hx hb dX7_add_121 rfl ?_
  refine q_get (C := RX7) (T := TX7) (N := 15) (ci := 7) E (fun w h => List.mem_cons_of_mem _ (inX7 w h)) hw 16 rfl rfl 14 (by decide) (List.mem_cons_of_mem _ tb_184) (v := .int (σ 15 0)) (q_fld (congrFun ((((((((((((((up_ne (up (up (up (up (up (up (up (up (up (up (up (up (up σ 16 (ix (σ 15 0)) x1) 17 (ix (σ 15 0)) x2) 18 (ix (σ 15 0)) x3) 19 (ix (σ 15 0)) x4) 20 (ix (σ 15 0)) 0) 21 (ix (σ 15 0)) 0) 22 (ix (σ 15 0)) 0) 23 (ix (σ 15 0)) 0) 24 (ix (σ 15 0)) 0) 25 (ix (σ 15 0)) 0) 26 (ix (σ 15 0)) (-1)) 27 (ix (σ 15 0)) x5) 28 (ix (σ 15 0)) (-1)) 29 (ix (σ 15 0)) (-1) 15 (by decide)).trans (up_ne (up (up (up (up (up (up (up (up (up (up (up (up σ 16 (ix (σ 15 0)) x1) 17 (ix (σ 15 0)) x2) 18 (ix (σ 15 0)) x3) 19 (ix (σ 15 0)) x4) 20 (ix (σ 15 0)) 0) 21 (ix (σ 15 0)) 0) 22 (ix (σ 15 0)) 0) 23 (ix (σ 15 0)) 0) 24 (ix (σ 15 0)) 0) 25 (ix (σ 15 0)) 0) 26 (ix (σ 15 0)) (-1)) 27 (ix (σ 15 0)) x5) 28 (ix (σ 15 0)) (-1) 15 (by decide))).trans (up_ne (up (up (up (up (up (up (up (up (up (up (up σ 16 (ix (σ 15 0)) x1) 17 (ix (σ 15 0)) x2) 18 (ix (σ 15 0)) x3) 19 (ix (σ 15 0)) x4) 20 (ix (σ 15 0)) 0) 21 (ix (σ 15 0)) 0) 22 (ix (σ 15 0)) 0) 23 (ix (σ 15 0)) 0) 24 (ix (σ 15 0)) 0) 25 (ix (σ 15 0)) 0) 26 (ix (σ 15 0)) (-1)) 27 (ix (σ 15 0)) x5 15 (by decide))).trans (up_ne (up (up (up (up (up (up (up (up (up (up σ 16 (ix (σ 15 0)) x1) 17 (ix (σ 15 0)) x2) 18 (ix (σ 15 0)) x3) 19 (ix (σ 15 0)) x4) 20 (ix (σ 15 0)) 0) 21 (ix (σ 15 0)) 0) 22 (ix (σ 15 0)) 0) 23 (ix (σ 15 0)) 0) 24 (ix (σ 15 0)) 0) 25 (ix (σ 15 0)) 0) 26 (ix (σ 15 0)) (-1) 15 (by decide))).trans (up_ne (up (up (up (up (up (up (up (up (up σ 16 (ix (σ 15 0)) x1) 17 (ix (σ 15 0)) x2) 18 (ix (σ 15 0)) x3) 19 (ix (σ 15 0)) x4) 20 (ix (σ 15 0)) 0) 21 (ix (σ 15 0)) 0) 22 (ix (σ 15 0)) 0) 23 (ix (σ 15 0)) 0) 24 (ix (σ 15 0)) 0) 25 (ix (σ 15 0)) 0 15 (by decide))).trans (up_ne (up (up (up (up (up (up (up (up σ 16 (ix (σ 15 0)) x1) 17 (ix (σ 15 0)) x2) 18 (ix (σ 15 0)) x3) 19 (ix (σ 15 0)) x4) 20 (ix (σ 15 0)) 0) 21 (ix (σ 15 0)) 0) 22 (ix (σ 15 0)) 0) 23 (ix (σ 15 0)) 0) 24 (ix (σ 15 0)) 0 15 (by decide))).trans (up_ne (up (up (up (up (up (up (up σ 16 (ix (σ 15 0)) x1) 17 (ix (σ 15 0)) x2) 18 (ix (σ 15 0)) x3) 19 (ix (σ 15 0)) x4) 20 (ix (σ 15 0)) 0) 21 (ix (σ 15 0)) 0) 22 (ix (σ 15 0)) 0) 23 (ix (σ 15 0)) 0 15 (by decide))).trans (up_ne (up (up (up (up (up (up σ 16 (ix (σ 15 0)) x1) 17 (ix (σ 15 0)) x2) 18 (ix (σ 15 0)) x3) 19 (ix (σ 15 0)) x4) 20 (ix (σ 15 0)) 0) 21 (ix (σ 15 0)) 0) 22 (ix (σ 15 0)) 0 15 (by decide))).trans (up_ne (up (up (up (up (up σ 16 (ix (σ 15 0)) x1) 17 (ix (σ 15 0)) x2) 18 (ix (σ 15 0)) x3) 19 (ix (σ 15 0)) x4) 20 (ix (σ 15 0)) 0) 21 (ix (σ 15 0)) 0 15 (by decide))).trans (up_ne (up (up (up (up σ 16 (ix (σ 15 0)) x1) 17 (ix (σ 15 0)) x2) 18 (ix (σ 15 0)) x3) 19 (ix (σ 15 0)) x4) 20 (ix (σ 15 0)) 0 15 (by decide))).trans (up_ne (up (up (up σ 16 (ix (σ 15 0)) x1) 17 (ix (σ 15 0)) x2) 18 (ix (σ 15 0)) x3) 19 (ix (σ 15 0)) x4 15 (by decide))).trans (up_ne (up (up σ 16 (ix (σ 15 0)) x1) 17 (ix (σ 15 0)) x2) 18 (ix (σ 15 0)) x3 15 (by decide))).trans (up_ne (up σ 16 (ix (σ 15 0)) x1) 17 (ix (σ 15 0)) x2 15 (by decide))).trans (up_ne σ 16 (ix (σ 15 0)) x1 15 (by decide))) 0) rfl) dX7_add_122 ?_
  refine lv_iconst (v := 1) hx hb dX7_add_125 (by decide) ?_
  refine lv_iadd hx hb dX7_add_126 ?_
  refine q_puti (C := RX7) (T := TX7) (N := 15) (ci := 7) E (fun w h => List.mem_cons_of_mem _ (inX7 w h)) tyX7 tyX7_ok nmX7 hw 16 rfl rfl 14 (by decide) (List.mem_cons_of_mem _ tb_184) rfl rfl (Nat.le_of_ble_eq_true rfl) (wK cA h (up (up (up (up (up (up (up (up (up (up (up (up (up (up (up σ 16 (ix (σ 15 0)) x1) 17 (ix (σ 15 0)) x2) 18 (ix (σ 15 0)) x3) 19 (ix (σ 15 0)) x4) 20 (ix (σ 15 0)) 0) 21 (ix (σ 15 0)) 0) 22 (ix (σ 15 0)) 0) 23 (ix (σ 15 0)) 0) 24 (ix (σ 15 0)) 0) 25 (ix (σ 15 0)) 0) 26 (ix (σ 15 0)) (-1)) 27 (ix (σ 15 0)) x5) 28 (ix (σ 15 0)) (-1)) 29 (ix (σ 15 0)) (-1)) 15 0 ((σ 15 0) + 1)) ++ (wLg cA h (up (up (up (up (up (up (up (up (up (up (up (up (up (up (up σ 16 (ix (σ 15 0)) x1) 17 (ix (σ 15 0)) x2) 18 (ix (σ 15 0)) x3) 19 (ix (σ 15 0)) x4) 20 (ix (σ 15 0)) 0) 21 (ix (σ 15 0)) 0) 22 (ix (σ 15 0)) 0) 23 (ix (σ 15 0)) 0) 24 (ix (σ 15 0)) 0) 25 (ix (σ 15 0)) 0) 26 (ix (σ 15 0)) (-1)) 27 (ix (σ 15 0)) x5) 28 (ix (σ 15 0)) (-1)) 29 (ix (σ 15 0)) (-1)) 15 0 ((σ 15 0) + 1)) L ++ (wC cA h (up (up (up (up (up (up (up (up (up (up (up (up (up (up (up σ 16 (ix (σ 15 0)) x1) 17 (ix (σ 15 0)) x2) 18 (ix (σ 15 0)) x3) 19 (ix (σ 15 0)) x4) 20 (ix (σ 15 0)) 0) 21 (ix (σ 15 0)) 0) 22 (ix (σ 15 0)) 0) 23 (ix (σ 15 0)) 0) 24 (ix (σ 15 0)) 0) 25 (ix (σ 15 0)) 0) 26 (ix (σ 15 0)) (-1)) 27 (ix (σ 15 0)) x5) 28 (ix (σ 15 0)) (-1)) 29 (ix (σ 15 0)) (-1)) 15 0 ((σ 15 0) + 1)) ++ F))) st_K_Lg_C_15 dX7_add_127 (fun H locs hw => ?_)
  refine lv_iload hx hb dX7_add_130 (lv_at hl 0 rfl) ?_
  cases hM
  exact q_reti E hw dX7_add_132
set_option maxRecDepth 100000 in
set_option maxHeartbeats 4000000 in
theorem c_X4_write (l : Launch) (D : va_G) (cA : Nat → ClassId) (tS : Nat → Nat) (A : Nat → Prop) (h : Nat → Nat) (L : Nat) (F : va_W) (x1 : Int32) (x2 : Int32) (x3 : Int32) (x4 : Int32) (σ : Sg) (s0 : Sg) (hM : f_X4_write L x1 x2 x3 x4 σ = some s0) : Ct l yX4_write (Cond.code yX4_write cX4_write 5 none :: bw) 0 0 D cA tS A [.ref (h 41), .int x1, .int x2, .int x3, .int x4] (wK cA h σ ++ (wLg cA h σ L ++ (wC cA h σ ++ F))) none (wK cA h s0 ++ (wLg cA h s0 L ++ (wC cA h s0 ++ F))) := by
  refine ct_of (by decide +kernel) (Nat.le_of_ble_eq_true rfl) ?_
  intro p e s m below meth c E hw ls hl
  replace E : Ev p cX4_write 5 none RX4 (Cond.code yX4_write cX4_write 5 none :: bw) D cA tS A s m _ meth c := E
  replace hl : lv_has ls 5 [(0, .ref (h 41)), (1, .int x1), (2, .int x2), (3, .int x3), (4, .int x4)] := hl
  have hx := E.1.1
  have hb := E.1.2.1
  unfold f_X4_write at hM
  refine lv_aload_n hx hb dX4_write_0 rfl (lv_at hl 0 rfl) ?_
  refine q_get (C := RX4) (T := TX4) (N := 5) (ci := 4) E (fun w h => List.mem_cons_of_mem _ (inX4 w h)) hw 7 rfl rfl 4 (by decide) (List.mem_cons_of_mem _ tb_235) (v := .int (σ 7 0)) rfl dX4_write_1 ?_
  refine lv_aload_n hx hb dX4_write_4 rfl (lv_at hl 0 rfl) ?_
  refine q_get (C := RX4) (T := TX4) (N := 5) (ci := 4) E (fun w h => List.mem_cons_of_mem _ (inX4 w h)) hw 7 rfl rfl 0 (by decide) (List.mem_cons_of_mem _ tb_227) (v := .ref (h 8)) rfl dX4_write_5 ?_
  refine va_alen hx hb E.2.2.2.2.1 hw.1 8 0 rfl rfl (v := (Int32.ofNat L)) rfl dX4_write_8 ?_
  refine lv_icmp_lt (tgt := 13) hx hb dX4_write_9 (by decide) (fun c1 => ?_) (fun c1 => ?_)
  · replace hM := i_pos hM c1
    refine lv_aload_n hx hb dX4_write_13 rfl (lv_at hl 0 rfl) ?_
    refine q_get (C := RX4) (T := TX4) (N := 5) (ci := 4) E (fun w h => List.mem_cons_of_mem _ (inX4 w h)) hw 7 rfl rfl 0 (by decide) (List.mem_cons_of_mem _ tb_227) (v := .ref (h 8)) rfl dX4_write_14 ?_
    refine lv_aload_n hx hb dX4_write_17 rfl (lv_at hl 0 rfl) ?_
    refine q_get (C := RX4) (T := TX4) (N := 5) (ci := 4) E (fun w h => List.mem_cons_of_mem _ (inX4 w h)) hw 7 rfl rfl 4 (by decide) (List.mem_cons_of_mem _ tb_235) (v := .int (σ 7 0)) rfl dX4_write_18 ?_
    refine lv_iload_n hx hb dX4_write_21 rfl (lv_at hl 1 rfl) ?_
    obtain ⟨g2, hM⟩ := g_some hM
    refine q_ast E hw 8 (n := L) rfl g2 (wK cA h (up σ 8 (ix (σ 7 0)) x1) ++ (wLg cA h (up σ 8 (ix (σ 7 0)) x1) L ++ (wC cA h (up σ 8 (ix (σ 7 0)) x1) ++ F))) st_K_Lg_C_8 dX4_write_22 (fun H locs hw => ?_)
    refine lv_aload_n hx hb dX4_write_23 rfl (lv_at hl 0 rfl) ?_
    refine q_get (C := RX4) (T := TX4) (N := 5) (ci := 4) E (fun w h => List.mem_cons_of_mem _ (inX4 w h)) hw 7 rfl rfl 1 (by decide) (List.mem_cons_of_mem _ tb_229) (v := .ref (h 9)) rfl dX4_write_24 ?_
    refine lv_aload_n hx hb dX4_write_27 rfl (lv_at hl 0 rfl) ?_
    refine q_get (C := RX4) (T := TX4) (N := 5) (ci := 4) E (fun w h => List.mem_cons_of_mem _ (inX4 w h)) hw 7 rfl rfl 4 (by decide) (List.mem_cons_of_mem _ tb_235) (v := .int (σ 7 0)) (q_fld (congrFun (up_ne σ 8 (ix (σ 7 0)) x1 7 (by decide)) 0) rfl) dX4_write_28 ?_
    refine lv_iload_n hx hb dX4_write_31 rfl (lv_at hl 2 rfl) ?_
    refine q_ast E hw 9 (n := L) rfl g2 (wK cA h (up (up σ 8 (ix (σ 7 0)) x1) 9 (ix (σ 7 0)) x2) ++ (wLg cA h (up (up σ 8 (ix (σ 7 0)) x1) 9 (ix (σ 7 0)) x2) L ++ (wC cA h (up (up σ 8 (ix (σ 7 0)) x1) 9 (ix (σ 7 0)) x2) ++ F))) st_K_Lg_C_9 dX4_write_32 (fun H locs hw => ?_)
    refine lv_aload_n hx hb dX4_write_33 rfl (lv_at hl 0 rfl) ?_
    refine q_get (C := RX4) (T := TX4) (N := 5) (ci := 4) E (fun w h => List.mem_cons_of_mem _ (inX4 w h)) hw 7 rfl rfl 2 (by decide) (List.mem_cons_of_mem _ tb_231) (v := .ref (h 10)) rfl dX4_write_34 ?_
    refine lv_aload_n hx hb dX4_write_37 rfl (lv_at hl 0 rfl) ?_
    refine q_get (C := RX4) (T := TX4) (N := 5) (ci := 4) E (fun w h => List.mem_cons_of_mem _ (inX4 w h)) hw 7 rfl rfl 4 (by decide) (List.mem_cons_of_mem _ tb_235) (v := .int (σ 7 0)) (q_fld (congrFun ((up_ne (up σ 8 (ix (σ 7 0)) x1) 9 (ix (σ 7 0)) x2 7 (by decide)).trans (up_ne σ 8 (ix (σ 7 0)) x1 7 (by decide))) 0) rfl) dX4_write_38 ?_
    refine lv_iload_n hx hb dX4_write_41 rfl (lv_at hl 3 rfl) ?_
    refine q_ast E hw 10 (n := L) rfl g2 (wK cA h (up (up (up σ 8 (ix (σ 7 0)) x1) 9 (ix (σ 7 0)) x2) 10 (ix (σ 7 0)) x3) ++ (wLg cA h (up (up (up σ 8 (ix (σ 7 0)) x1) 9 (ix (σ 7 0)) x2) 10 (ix (σ 7 0)) x3) L ++ (wC cA h (up (up (up σ 8 (ix (σ 7 0)) x1) 9 (ix (σ 7 0)) x2) 10 (ix (σ 7 0)) x3) ++ F))) st_K_Lg_C_10 dX4_write_42 (fun H locs hw => ?_)
    refine lv_aload_n hx hb dX4_write_43 rfl (lv_at hl 0 rfl) ?_
    refine q_get (C := RX4) (T := TX4) (N := 5) (ci := 4) E (fun w h => List.mem_cons_of_mem _ (inX4 w h)) hw 7 rfl rfl 3 (by decide) (List.mem_cons_of_mem _ tb_233) (v := .ref (h 11)) rfl dX4_write_44 ?_
    refine lv_aload_n hx hb dX4_write_47 rfl (lv_at hl 0 rfl) ?_
    refine q_get (C := RX4) (T := TX4) (N := 5) (ci := 4) E (fun w h => List.mem_cons_of_mem _ (inX4 w h)) hw 7 rfl rfl 4 (by decide) (List.mem_cons_of_mem _ tb_235) (v := .int (σ 7 0)) (q_fld (congrFun (((up_ne (up (up σ 8 (ix (σ 7 0)) x1) 9 (ix (σ 7 0)) x2) 10 (ix (σ 7 0)) x3 7 (by decide)).trans (up_ne (up σ 8 (ix (σ 7 0)) x1) 9 (ix (σ 7 0)) x2 7 (by decide))).trans (up_ne σ 8 (ix (σ 7 0)) x1 7 (by decide))) 0) rfl) dX4_write_48 ?_
    refine lv_iload hx hb dX4_write_51 (lv_at hl 4 rfl) ?_
    refine q_ast E hw 11 (n := L) rfl g2 (wK cA h (up (up (up (up σ 8 (ix (σ 7 0)) x1) 9 (ix (σ 7 0)) x2) 10 (ix (σ 7 0)) x3) 11 (ix (σ 7 0)) x4) ++ (wLg cA h (up (up (up (up σ 8 (ix (σ 7 0)) x1) 9 (ix (σ 7 0)) x2) 10 (ix (σ 7 0)) x3) 11 (ix (σ 7 0)) x4) L ++ (wC cA h (up (up (up (up σ 8 (ix (σ 7 0)) x1) 9 (ix (σ 7 0)) x2) 10 (ix (σ 7 0)) x3) 11 (ix (σ 7 0)) x4) ++ F))) st_K_Lg_C_11 dX4_write_53 (fun H locs hw => ?_)
    refine lv_aload_n hx hb dX4_write_54 rfl (lv_at hl 0 rfl) ?_
    refine lv_dup hx hb dX4_write_55 rfl ?_
    refine q_get (C := RX4) (T := TX4) (N := 5) (ci := 4) E (fun w h => List.mem_cons_of_mem _ (inX4 w h)) hw 7 rfl rfl 4 (by decide) (List.mem_cons_of_mem _ tb_235) (v := .int (σ 7 0)) (q_fld (congrFun ((((up_ne (up (up (up σ 8 (ix (σ 7 0)) x1) 9 (ix (σ 7 0)) x2) 10 (ix (σ 7 0)) x3) 11 (ix (σ 7 0)) x4 7 (by decide)).trans (up_ne (up (up σ 8 (ix (σ 7 0)) x1) 9 (ix (σ 7 0)) x2) 10 (ix (σ 7 0)) x3 7 (by decide))).trans (up_ne (up σ 8 (ix (σ 7 0)) x1) 9 (ix (σ 7 0)) x2 7 (by decide))).trans (up_ne σ 8 (ix (σ 7 0)) x1 7 (by decide))) 0) rfl) dX4_write_56 ?_
    refine lv_iconst (v := 1) hx hb dX4_write_59 (by decide) ?_
    refine lv_iadd hx hb dX4_write_60 ?_
    refine q_puti (C := RX4) (T := TX4) (N := 5) (ci := 4) E (fun w h => List.mem_cons_of_mem _ (inX4 w h)) tyX4 tyX4_ok nmX4 hw 7 rfl rfl 4 (by decide) (List.mem_cons_of_mem _ tb_235) rfl rfl (Nat.le_of_ble_eq_true rfl) (wK cA h (up (up (up (up (up σ 8 (ix (σ 7 0)) x1) 9 (ix (σ 7 0)) x2) 10 (ix (σ 7 0)) x3) 11 (ix (σ 7 0)) x4) 7 0 ((σ 7 0) + 1)) ++ (wLg cA h (up (up (up (up (up σ 8 (ix (σ 7 0)) x1) 9 (ix (σ 7 0)) x2) 10 (ix (σ 7 0)) x3) 11 (ix (σ 7 0)) x4) 7 0 ((σ 7 0) + 1)) L ++ (wC cA h (up (up (up (up (up σ 8 (ix (σ 7 0)) x1) 9 (ix (σ 7 0)) x2) 10 (ix (σ 7 0)) x3) 11 (ix (σ 7 0)) x4) 7 0 ((σ 7 0) + 1)) ++ F))) st_K_Lg_C_7 dX4_write_61 (fun H locs hw => ?_)
    cases hM
    exact q_retv E hw dX4_write_64
  · replace hM := i_neg hM c1
    cases hM
    exact q_retv E hw dX4_write_12
set_option maxRecDepth 100000 in
set_option maxHeartbeats 4000000 in
theorem c_X1_enter (l : Launch) (D : va_G) (cA : Nat → ClassId) (tS : Nat → Nat) (A : Nat → Prop) (h : Nat → Nat) (L : Nat) (F : va_W) (x1 : Int32) (x2 : Int32) (x3 : Int32) (x4 : Int32) (σ : Sg) (r0 : Int32) (s0 : Sg) (hM : f_X1_enter L x1 x2 x3 x4 σ = some (r0, s0)) : Ct l yX1_enter (Cond.code yX1_enter cX1_enter 6 (some .int) :: bw) 1 26 D cA tS A [.ref (h 42), .int x1, .int x2, .int x3, .int x4] (wK cA h σ ++ (wLg cA h σ L ++ (wC cA h σ ++ F))) (some (.int r0)) (wK cA h s0 ++ (wLg cA h s0 L ++ (wC cA h s0 ++ F))) := by
  refine ct_of (by decide +kernel) (Nat.le_of_ble_eq_true rfl) ?_
  intro p e s m below meth c E hw ls hl
  replace E : Ev p cX1_enter 6 (some .int) RX1 (Cond.code yX1_enter cX1_enter 6 (some .int) :: bw) D cA tS A s m _ meth c := E
  replace hl : lv_has ls 6 [(0, .ref (h 42)), (1, .int x1), (2, .int x2), (3, .int x3), (4, .int x4)] := hl
  have hx := E.1.1
  have hb := E.1.2.1
  unfold f_X1_enter at hM
  refine lv_aload_n hx hb dX1_enter_0 rfl (lv_at hl 0 rfl) ?_
  refine q_get (C := RX1) (T := TX1) (N := 6) (ci := 1) E (fun w h => List.mem_cons_of_mem _ (inX1 w h)) hw 12 rfl rfl 3 (by decide) (List.mem_cons_of_mem _ tb_272) (v := .ref (h 44)) rfl dX1_enter_1 ?_
  refine lv_iload_n hx hb dX1_enter_4 rfl (lv_at hl 1 rfl) ?_
  refine lv_iload_n hx hb dX1_enter_5 rfl (lv_at hl 2 rfl) ?_
  refine lv_iload_n hx hb dX1_enter_6 rfl (lv_at hl 3 rfl) ?_
  refine lv_iload hx hb dX1_enter_7 (lv_at hl 4 rfl) ?_
  refine lv_aload_n hx hb dX1_enter_9 rfl (lv_at hl 0 rfl) ?_
  refine q_get (C := RX1) (T := TX1) (N := 6) (ci := 1) E (fun w h => List.mem_cons_of_mem _ (inX1 w h)) hw 12 rfl rfl 5 (by decide) (List.mem_cons_of_mem _ tb_276) (v := .int (σ 12 0)) rfl dX1_enter_10 ?_
  obtain ⟨p1, h2, hM⟩ := b_some hM
  refine q_cv (As := [.int x1, .int x2, .int x3, .int x4, .int (σ 12 0)]) (rest := []) E hw hl (c_X7_add l D cA tS A h L F x1 x2 x3 x4 (σ 12 0) σ p1.1 p1.2 h2) 5 (bwV bw_c tb_592 tb_593 tb_594 tb_52 tb_595) rfl (by decide +kernel) ⟨Nat.le_of_ble_eq_true rfl, Nat.le_of_ble_eq_true rfl⟩ 16 7 (T := TX7) (N := 15) rfl rfl rfl rfl (Nat.le_of_ble_eq_true rfl) ⟨Nat.zero_le _, Nat.zero_le _⟩ dX1_enter_13 (fun H locs hw => ?_)
  refine lv_istore (lv' := [(5, .int p1.1), (0, .ref (h 42)), (1, .int x1), (2, .int x2), (3, .int x3), (4, .int x4)]) hx hb dX1_enter_16 hl (by decide) rfl (fun ls hl => ?_)
  refine lv_aload_n hx hb dX1_enter_18 rfl (lv_at hl 1 rfl) ?_
  refine q_get (C := RX1) (T := TX1) (N := 6) (ci := 1) E (fun w h => List.mem_cons_of_mem _ (inX1 w h)) hw 12 rfl rfl 4 (by decide) (List.mem_cons_of_mem _ tb_274) (v := .ref (h 41)) rfl dX1_enter_19 ?_
  refine lv_aload_n hx hb dX1_enter_22 rfl (lv_at hl 1 rfl) ?_
  refine q_get (C := RX1) (T := TX1) (N := 6) (ci := 1) E (fun w h => List.mem_cons_of_mem _ (inX1 w h)) hw 12 rfl rfl 5 (by decide) (List.mem_cons_of_mem _ tb_276) (v := .int (p1.2 12 0)) rfl dX1_enter_23 ?_
  refine lv_iconst (v := 0) hx hb dX1_enter_26 (by decide) ?_
  refine lv_iload hx hb dX1_enter_27 (lv_at hl 0 rfl) ?_
  refine lv_iload_n hx hb dX1_enter_29 rfl (lv_at hl 2 rfl) ?_
  obtain ⟨p3, h4, hM⟩ := b_some hM
  refine q_cvv (As := [.int (p1.2 12 0), .int 0, .int p1.1, .int x1]) (rest := []) E hw hl (c_X4_write l D cA tS A h L F (p1.2 12 0) 0 p1.1 x1 p1.2 p3 h4) 4 (bwV bw_c tb_596 tb_597 tb_598 tb_53 tb_599) rfl (by decide +kernel) ⟨Nat.le_of_ble_eq_true rfl, Nat.le_of_ble_eq_true rfl⟩ 7 4 (T := TX4) (N := 5) rfl rfl rfl rfl (Nat.le_of_ble_eq_true rfl) ⟨Nat.zero_le _, Nat.zero_le _⟩ dX1_enter_30 (fun H locs hw => ?_)
  refine lv_iload hx hb dX1_enter_33 (lv_at hl 0 rfl) ?_
  cases hM
  exact q_reti E hw dX1_enter_35
set_option maxRecDepth 100000 in
set_option maxHeartbeats 4000000 in
theorem c_X1_move (l : Launch) (D : va_G) (cA : Nat → ClassId) (tS : Nat → Nat) (A : Nat → Prop) (h : Nat → Nat) (L : Nat) (F : va_W) (x1 : Int32) (x2 : Int32) (x3 : Int32) (σ : Sg) (r0 : Int32) (s0 : Sg) (hM : f_X1_move L x1 x2 x3 σ = some (r0, s0)) : Ct l yX1_move (Cond.code yX1_move cX1_move 4 (some .int) :: bw) 1 24 D cA tS A [.ref (h 42), .int x1, .int x2, .int x3] (wK cA h σ ++ (wLg cA h σ L ++ (wC cA h σ ++ F))) (some (.int r0)) (wK cA h s0 ++ (wLg cA h s0 L ++ (wC cA h s0 ++ F))) := by
  refine ct_of (by decide +kernel) (Nat.le_of_ble_eq_true rfl) ?_
  intro p e s m below meth c E hw ls hl
  replace E : Ev p cX1_move 4 (some .int) RX1 (Cond.code yX1_move cX1_move 4 (some .int) :: bw) D cA tS A s m _ meth c := E
  replace hl : lv_has ls 4 [(0, .ref (h 42)), (1, .int x1), (2, .int x2), (3, .int x3)] := hl
  have hx := E.1.1
  have hb := E.1.2.1
  unfold f_X1_move at hM
  refine lv_aload_n hx hb dX1_move_0 rfl (lv_at hl 0 rfl) ?_
  refine q_get (C := RX1) (T := TX1) (N := 6) (ci := 1) E (fun w h => List.mem_cons_of_mem _ (inX1 w h)) hw 12 rfl rfl 3 (by decide) (List.mem_cons_of_mem _ tb_272) (v := .ref (h 44)) rfl dX1_move_1 ?_
  refine q_get (C := RX7) (T := TX7) (N := 15) (ci := 7) E (fun w h => List.mem_cons_of_mem _ (inX7 w h)) hw 16 rfl rfl 5 (by decide) (List.mem_cons_of_mem _ tb_160) (v := .ref (h 21)) rfl dX1_move_4 ?_
  refine lv_iload_n hx hb dX1_move_7 rfl (lv_at hl 1 rfl) ?_
  refine lv_iload_n hx hb dX1_move_8 rfl (lv_at hl 2 rfl) ?_
  obtain ⟨g1, hM⟩ := g_some hM
  refine q_ast E hw 22 (n := 60) rfl g1 (wK cA h (up σ 21 (ix x1) x2) ++ (wLg cA h (up σ 21 (ix x1) x2) L ++ (wC cA h (up σ 21 (ix x1) x2) ++ F))) st_K_Lg_C_21 dX1_move_9 (fun H locs hw => ?_)
  refine lv_aload_n hx hb dX1_move_10 rfl (lv_at hl 0 rfl) ?_
  refine q_get (C := RX1) (T := TX1) (N := 6) (ci := 1) E (fun w h => List.mem_cons_of_mem _ (inX1 w h)) hw 12 rfl rfl 4 (by decide) (List.mem_cons_of_mem _ tb_274) (v := .ref (h 41)) rfl dX1_move_11 ?_
  refine lv_aload_n hx hb dX1_move_14 rfl (lv_at hl 0 rfl) ?_
  refine q_get (C := RX1) (T := TX1) (N := 6) (ci := 1) E (fun w h => List.mem_cons_of_mem _ (inX1 w h)) hw 12 rfl rfl 5 (by decide) (List.mem_cons_of_mem _ tb_276) (v := .int (σ 12 0)) (q_fld (congrFun (up_ne σ 21 (ix x1) x2 12 (by decide)) 0) rfl) dX1_move_15 ?_
  refine lv_iload_n hx hb dX1_move_18 rfl (lv_at hl 3 rfl) ?_
  refine lv_iload_n hx hb dX1_move_19 rfl (lv_at hl 1 rfl) ?_
  refine lv_iconst (v := 0) hx hb dX1_move_20 (by decide) ?_
  obtain ⟨p2, h3, hM⟩ := b_some hM
  refine q_cvv (As := [.int (σ 12 0), .int x3, .int x1, .int 0]) (rest := []) E hw hl (c_X4_write l D cA tS A h L F (σ 12 0) x3 x1 0 (up σ 21 (ix x1) x2) p2 h3) 4 (bwV bw_c tb_596 tb_597 tb_598 tb_53 tb_599) rfl (by decide +kernel) ⟨Nat.le_of_ble_eq_true rfl, Nat.le_of_ble_eq_true rfl⟩ 7 4 (T := TX4) (N := 5) rfl rfl rfl rfl (Nat.le_of_ble_eq_true rfl) ⟨Nat.zero_le _, Nat.zero_le _⟩ dX1_move_21 (fun H locs hw => ?_)
  refine lv_aload_n hx hb dX1_move_24 rfl (lv_at hl 0 rfl) ?_
  refine q_get (C := RX1) (T := TX1) (N := 6) (ci := 1) E (fun w h => List.mem_cons_of_mem _ (inX1 w h)) hw 12 rfl rfl 3 (by decide) (List.mem_cons_of_mem _ tb_272) (v := .ref (h 44)) rfl dX1_move_25 ?_
  refine q_get (C := RX7) (T := TX7) (N := 15) (ci := 7) E (fun w h => List.mem_cons_of_mem _ (inX7 w h)) hw 16 rfl rfl 9 (by decide) (List.mem_cons_of_mem _ tb_171) (v := .ref (h 25)) rfl dX1_move_28 ?_
  refine lv_iload_n hx hb dX1_move_31 rfl (lv_at hl 1 rfl) ?_
  refine q_ald E hw 26 (n := 60) rfl g1 (x := (p2 25 (ix x1))) rfl dX1_move_32 ?_
  cases hM
  exact q_reti E hw dX1_move_33
set_option maxRecDepth 100000 in
set_option maxHeartbeats 4000000 in
theorem c_X1_raise (l : Launch) (D : va_G) (cA : Nat → ClassId) (tS : Nat → Nat) (A : Nat → Prop) (h : Nat → Nat) (L : Nat) (F : va_W) (x1 : Int32) (x2 : Int32) (σ : Sg) (r0 : Int32) (s0 : Sg) (hM : f_X1_raise L x1 x2 σ = some (r0, s0)) : Ct l yX1_raise (Cond.code yX1_raise cX1_raise 3 (some .int) :: bw) 1 24 D cA tS A [.ref (h 42), .int x1, .int x2] (wK cA h σ ++ (wLg cA h σ L ++ (wC cA h σ ++ F))) (some (.int r0)) (wK cA h s0 ++ (wLg cA h s0 L ++ (wC cA h s0 ++ F))) := by
  refine ct_of (by decide +kernel) (Nat.le_of_ble_eq_true rfl) ?_
  intro p e s m below meth c E hw ls hl
  replace E : Ev p cX1_raise 3 (some .int) RX1 (Cond.code yX1_raise cX1_raise 3 (some .int) :: bw) D cA tS A s m _ meth c := E
  replace hl : lv_has ls 3 [(0, .ref (h 42)), (1, .int x1), (2, .int x2)] := hl
  have hx := E.1.1
  have hb := E.1.2.1
  unfold f_X1_raise at hM
  refine lv_aload_n hx hb dX1_raise_0 rfl (lv_at hl 0 rfl) ?_
  refine q_get (C := RX1) (T := TX1) (N := 6) (ci := 1) E (fun w h => List.mem_cons_of_mem _ (inX1 w h)) hw 12 rfl rfl 3 (by decide) (List.mem_cons_of_mem _ tb_272) (v := .ref (h 44)) rfl dX1_raise_1 ?_
  refine q_get (C := RX7) (T := TX7) (N := 15) (ci := 7) E (fun w h => List.mem_cons_of_mem _ (inX7 w h)) hw 16 rfl rfl 4 (by decide) (List.mem_cons_of_mem _ tb_157) (v := .ref (h 20)) rfl dX1_raise_4 ?_
  refine lv_iload_n hx hb dX1_raise_7 rfl (lv_at hl 1 rfl) ?_
  refine lv_dup2_11 hx hb dX1_raise_8 rfl rfl ?_
  obtain ⟨g1, hM⟩ := g_some hM
  refine q_ald E hw 21 (n := 60) rfl g1 (x := (σ 20 (ix x1))) rfl dX1_raise_9 ?_
  refine lv_iconst (v := 1) hx hb dX1_raise_10 (by decide) ?_
  refine lv_iadd hx hb dX1_raise_11 ?_
  refine q_ast E hw 21 (n := 60) rfl g1 (wK cA h (up σ 20 (ix x1) ((σ 20 (ix x1)) + 1)) ++ (wLg cA h (up σ 20 (ix x1) ((σ 20 (ix x1)) + 1)) L ++ (wC cA h (up σ 20 (ix x1) ((σ 20 (ix x1)) + 1)) ++ F))) st_K_Lg_C_20 dX1_raise_12 (fun H locs hw => ?_)
  refine lv_aload_n hx hb dX1_raise_13 rfl (lv_at hl 0 rfl) ?_
  refine q_get (C := RX1) (T := TX1) (N := 6) (ci := 1) E (fun w h => List.mem_cons_of_mem _ (inX1 w h)) hw 12 rfl rfl 3 (by decide) (List.mem_cons_of_mem _ tb_272) (v := .ref (h 44)) rfl dX1_raise_14 ?_
  refine q_get (C := RX7) (T := TX7) (N := 15) (ci := 7) E (fun w h => List.mem_cons_of_mem _ (inX7 w h)) hw 16 rfl rfl 5 (by decide) (List.mem_cons_of_mem _ tb_160) (v := .ref (h 21)) rfl dX1_raise_17 ?_
  refine lv_iload_n hx hb dX1_raise_20 rfl (lv_at hl 1 rfl) ?_
  refine lv_iconst (v := 0) hx hb dX1_raise_21 (by decide) ?_
  refine q_ast E hw 22 (n := 60) rfl g1 (wK cA h (up (up σ 20 (ix x1) ((σ 20 (ix x1)) + 1)) 21 (ix x1) 0) ++ (wLg cA h (up (up σ 20 (ix x1) ((σ 20 (ix x1)) + 1)) 21 (ix x1) 0) L ++ (wC cA h (up (up σ 20 (ix x1) ((σ 20 (ix x1)) + 1)) 21 (ix x1) 0) ++ F))) st_K_Lg_C_21 dX1_raise_22 (fun H locs hw => ?_)
  refine lv_aload_n hx hb dX1_raise_23 rfl (lv_at hl 0 rfl) ?_
  refine q_get (C := RX1) (T := TX1) (N := 6) (ci := 1) E (fun w h => List.mem_cons_of_mem _ (inX1 w h)) hw 12 rfl rfl 3 (by decide) (List.mem_cons_of_mem _ tb_272) (v := .ref (h 44)) rfl dX1_raise_24 ?_
  refine q_get (C := RX7) (T := TX7) (N := 15) (ci := 7) E (fun w h => List.mem_cons_of_mem _ (inX7 w h)) hw 16 rfl rfl 6 (by decide) (List.mem_cons_of_mem _ tb_163) (v := .ref (h 22)) rfl dX1_raise_27 ?_
  refine lv_iload_n hx hb dX1_raise_30 rfl (lv_at hl 1 rfl) ?_
  refine lv_iconst (v := 0) hx hb dX1_raise_31 (by decide) ?_
  refine q_ast E hw 23 (n := 60) rfl g1 (wK cA h (up (up (up σ 20 (ix x1) ((σ 20 (ix x1)) + 1)) 21 (ix x1) 0) 22 (ix x1) 0) ++ (wLg cA h (up (up (up σ 20 (ix x1) ((σ 20 (ix x1)) + 1)) 21 (ix x1) 0) 22 (ix x1) 0) L ++ (wC cA h (up (up (up σ 20 (ix x1) ((σ 20 (ix x1)) + 1)) 21 (ix x1) 0) 22 (ix x1) 0) ++ F))) st_K_Lg_C_22 dX1_raise_32 (fun H locs hw => ?_)
  refine lv_aload_n hx hb dX1_raise_33 rfl (lv_at hl 0 rfl) ?_
  refine q_get (C := RX1) (T := TX1) (N := 6) (ci := 1) E (fun w h => List.mem_cons_of_mem _ (inX1 w h)) hw 12 rfl rfl 3 (by decide) (List.mem_cons_of_mem _ tb_272) (v := .ref (h 44)) rfl dX1_raise_34 ?_
  refine q_get (C := RX7) (T := TX7) (N := 15) (ci := 7) E (fun w h => List.mem_cons_of_mem _ (inX7 w h)) hw 16 rfl rfl 7 (by decide) (List.mem_cons_of_mem _ tb_166) (v := .ref (h 23)) rfl dX1_raise_37 ?_
  refine lv_iload_n hx hb dX1_raise_40 rfl (lv_at hl 1 rfl) ?_
  refine lv_iconst (v := 0) hx hb dX1_raise_41 (by decide) ?_
  refine q_ast E hw 24 (n := 60) rfl g1 (wK cA h (up (up (up (up σ 20 (ix x1) ((σ 20 (ix x1)) + 1)) 21 (ix x1) 0) 22 (ix x1) 0) 23 (ix x1) 0) ++ (wLg cA h (up (up (up (up σ 20 (ix x1) ((σ 20 (ix x1)) + 1)) 21 (ix x1) 0) 22 (ix x1) 0) 23 (ix x1) 0) L ++ (wC cA h (up (up (up (up σ 20 (ix x1) ((σ 20 (ix x1)) + 1)) 21 (ix x1) 0) 22 (ix x1) 0) 23 (ix x1) 0) ++ F))) st_K_Lg_C_23 dX1_raise_42 (fun H locs hw => ?_)
  refine lv_aload_n hx hb dX1_raise_43 rfl (lv_at hl 0 rfl) ?_
  refine q_get (C := RX1) (T := TX1) (N := 6) (ci := 1) E (fun w h => List.mem_cons_of_mem _ (inX1 w h)) hw 12 rfl rfl 4 (by decide) (List.mem_cons_of_mem _ tb_274) (v := .ref (h 41)) rfl dX1_raise_44 ?_
  refine lv_iload_n hx hb dX1_raise_47 rfl (lv_at hl 2 rfl) ?_
  refine lv_iconst (v := 4) hx hb dX1_raise_48 (by decide) ?_
  refine lv_iload_n hx hb dX1_raise_49 rfl (lv_at hl 1 rfl) ?_
  refine lv_aload_n hx hb dX1_raise_50 rfl (lv_at hl 0 rfl) ?_
  refine q_get (C := RX1) (T := TX1) (N := 6) (ci := 1) E (fun w h => List.mem_cons_of_mem _ (inX1 w h)) hw 12 rfl rfl 3 (by decide) (List.mem_cons_of_mem _ tb_272) (v := .ref (h 44)) rfl dX1_raise_51 ?_
  refine q_get (C := RX7) (T := TX7) (N := 15) (ci := 7) E (fun w h => List.mem_cons_of_mem _ (inX7 w h)) hw 16 rfl rfl 4 (by decide) (List.mem_cons_of_mem _ tb_157) (v := .ref (h 20)) rfl dX1_raise_54 ?_
  refine lv_iload_n hx hb dX1_raise_57 rfl (lv_at hl 1 rfl) ?_
  refine q_ald E hw 21 (n := 60) rfl g1 (x := ((up σ 20 (ix x1) ((σ 20 (ix x1)) + 1)) 20 (ix x1))) (congrFun (((up_ne (up (up (up σ 20 (ix x1) ((σ 20 (ix x1)) + 1)) 21 (ix x1) 0) 22 (ix x1) 0) 23 (ix x1) 0 20 (by decide)).trans (up_ne (up (up σ 20 (ix x1) ((σ 20 (ix x1)) + 1)) 21 (ix x1) 0) 22 (ix x1) 0 20 (by decide))).trans (up_ne (up σ 20 (ix x1) ((σ 20 (ix x1)) + 1)) 21 (ix x1) 0 20 (by decide))) (ix x1)) dX1_raise_58 ?_
  obtain ⟨p2, h3, hM⟩ := b_some hM
  refine q_cvv (As := [.int x2, .int 4, .int x1, .int ((up σ 20 (ix x1) ((σ 20 (ix x1)) + 1)) 20 (ix x1))]) (rest := []) E hw hl (c_X4_write l D cA tS A h L F x2 4 x1 ((up σ 20 (ix x1) ((σ 20 (ix x1)) + 1)) 20 (ix x1)) (up (up (up (up σ 20 (ix x1) ((σ 20 (ix x1)) + 1)) 21 (ix x1) 0) 22 (ix x1) 0) 23 (ix x1) 0) p2 h3) 4 (bwV bw_c tb_596 tb_597 tb_598 tb_53 tb_599) rfl (by decide +kernel) ⟨Nat.le_of_ble_eq_true rfl, Nat.le_of_ble_eq_true rfl⟩ 7 4 (T := TX4) (N := 5) rfl rfl rfl rfl (Nat.le_of_ble_eq_true rfl) ⟨Nat.zero_le _, Nat.zero_le _⟩ dX1_raise_59 (fun H locs hw => ?_)
  refine lv_aload_n hx hb dX1_raise_62 rfl (lv_at hl 0 rfl) ?_
  refine q_get (C := RX1) (T := TX1) (N := 6) (ci := 1) E (fun w h => List.mem_cons_of_mem _ (inX1 w h)) hw 12 rfl rfl 3 (by decide) (List.mem_cons_of_mem _ tb_272) (v := .ref (h 44)) rfl dX1_raise_63 ?_
  refine q_get (C := RX7) (T := TX7) (N := 15) (ci := 7) E (fun w h => List.mem_cons_of_mem _ (inX7 w h)) hw 16 rfl rfl 4 (by decide) (List.mem_cons_of_mem _ tb_157) (v := .ref (h 20)) rfl dX1_raise_66 ?_
  refine lv_iload_n hx hb dX1_raise_69 rfl (lv_at hl 1 rfl) ?_
  refine q_ald E hw 21 (n := 60) rfl g1 (x := (p2 20 (ix x1))) rfl dX1_raise_70 ?_
  cases hM
  exact q_reti E hw dX1_raise_71
set_option maxRecDepth 100000 in
set_option maxHeartbeats 4000000 in
theorem c_X1_markSolved (l : Launch) (D : va_G) (cA : Nat → ClassId) (tS : Nat → Nat) (A : Nat → Prop) (h : Nat → Nat) (L : Nat) (F : va_W) (x1 : Int32) (x2 : Int32) (σ : Sg) (s0 : Sg) (hM : f_X1_markSolved L x1 x2 σ = some s0) : Ct l yX1_markSolved (Cond.code yX1_markSolved cX1_markSolved 3 none :: bw) 1 24 D cA tS A [.ref (h 42), .int x1, .int x2] (wK cA h σ ++ (wLg cA h σ L ++ (wC cA h σ ++ F))) none (wK cA h s0 ++ (wLg cA h s0 L ++ (wC cA h s0 ++ F))) := by
  refine ct_of (by decide +kernel) (Nat.le_of_ble_eq_true rfl) ?_
  intro p e s m below meth c E hw ls hl
  replace E : Ev p cX1_markSolved 3 none RX1 (Cond.code yX1_markSolved cX1_markSolved 3 none :: bw) D cA tS A s m _ meth c := E
  replace hl : lv_has ls 3 [(0, .ref (h 42)), (1, .int x1), (2, .int x2)] := hl
  have hx := E.1.1
  have hb := E.1.2.1
  unfold f_X1_markSolved at hM
  refine lv_aload_n hx hb dX1_markSolved_0 rfl (lv_at hl 0 rfl) ?_
  refine q_get (C := RX1) (T := TX1) (N := 6) (ci := 1) E (fun w h => List.mem_cons_of_mem _ (inX1 w h)) hw 12 rfl rfl 3 (by decide) (List.mem_cons_of_mem _ tb_272) (v := .ref (h 44)) rfl dX1_markSolved_1 ?_
  refine q_get (C := RX7) (T := TX7) (N := 15) (ci := 7) E (fun w h => List.mem_cons_of_mem _ (inX7 w h)) hw 16 rfl rfl 5 (by decide) (List.mem_cons_of_mem _ tb_160) (v := .ref (h 21)) rfl dX1_markSolved_4 ?_
  refine lv_iload_n hx hb dX1_markSolved_7 rfl (lv_at hl 1 rfl) ?_
  refine lv_iconst (v := 3) hx hb dX1_markSolved_8 (by decide) ?_
  obtain ⟨g1, hM⟩ := g_some hM
  refine q_ast E hw 22 (n := 60) rfl g1 (wK cA h (up σ 21 (ix x1) 3) ++ (wLg cA h (up σ 21 (ix x1) 3) L ++ (wC cA h (up σ 21 (ix x1) 3) ++ F))) st_K_Lg_C_21 dX1_markSolved_9 (fun H locs hw => ?_)
  refine lv_aload_n hx hb dX1_markSolved_10 rfl (lv_at hl 0 rfl) ?_
  refine q_get (C := RX1) (T := TX1) (N := 6) (ci := 1) E (fun w h => List.mem_cons_of_mem _ (inX1 w h)) hw 12 rfl rfl 3 (by decide) (List.mem_cons_of_mem _ tb_272) (v := .ref (h 44)) rfl dX1_markSolved_11 ?_
  refine q_get (C := RX7) (T := TX7) (N := 15) (ci := 7) E (fun w h => List.mem_cons_of_mem _ (inX7 w h)) hw 16 rfl rfl 13 (by decide) (List.mem_cons_of_mem _ tb_182) (v := .ref (h 29)) rfl dX1_markSolved_14 ?_
  refine lv_iload_n hx hb dX1_markSolved_17 rfl (lv_at hl 1 rfl) ?_
  refine lv_iload_n hx hb dX1_markSolved_18 rfl (lv_at hl 2 rfl) ?_
  refine q_ast E hw 30 (n := 60) rfl g1 (wK cA h (up (up σ 21 (ix x1) 3) 29 (ix x1) x2) ++ (wLg cA h (up (up σ 21 (ix x1) 3) 29 (ix x1) x2) L ++ (wC cA h (up (up σ 21 (ix x1) 3) 29 (ix x1) x2) ++ F))) st_K_Lg_C_29 dX1_markSolved_19 (fun H locs hw => ?_)
  refine lv_aload_n hx hb dX1_markSolved_20 rfl (lv_at hl 0 rfl) ?_
  refine q_get (C := RX1) (T := TX1) (N := 6) (ci := 1) E (fun w h => List.mem_cons_of_mem _ (inX1 w h)) hw 12 rfl rfl 4 (by decide) (List.mem_cons_of_mem _ tb_274) (v := .ref (h 41)) rfl dX1_markSolved_21 ?_
  refine lv_iload_n hx hb dX1_markSolved_24 rfl (lv_at hl 2 rfl) ?_
  refine lv_iconst (v := 5) hx hb dX1_markSolved_25 (by decide) ?_
  refine lv_iload_n hx hb dX1_markSolved_26 rfl (lv_at hl 1 rfl) ?_
  refine lv_iconst (v := 0) hx hb dX1_markSolved_27 (by decide) ?_
  obtain ⟨p2, h3, hM⟩ := b_some hM
  refine q_cvv (As := [.int x2, .int 5, .int x1, .int 0]) (rest := []) E hw hl (c_X4_write l D cA tS A h L F x2 5 x1 0 (up (up σ 21 (ix x1) 3) 29 (ix x1) x2) p2 h3) 4 (bwV bw_c tb_596 tb_597 tb_598 tb_53 tb_599) rfl (by decide +kernel) ⟨Nat.le_of_ble_eq_true rfl, Nat.le_of_ble_eq_true rfl⟩ 7 4 (T := TX4) (N := 5) rfl rfl rfl rfl (Nat.le_of_ble_eq_true rfl) ⟨Nat.zero_le _, Nat.zero_le _⟩ dX1_markSolved_28 (fun H locs hw => ?_)
  cases hM
  exact q_retv E hw dX1_markSolved_31
set_option maxRecDepth 100000 in
set_option maxHeartbeats 4000000 in
theorem s_X1_finish_11 (l : Launch) (D : va_G) (cA : Nat → ClassId) (tS : Nat → Nat) (A : Nat → Prop) (h : Nat → Nat) (L : Nat) (F : va_W) (N : Nat) {p : Program} {e : Env} {s : State} {m : MethodId} {args : Array Value} {below : List Frame} {meth : Method} {c : Code} (E : Ev p cX1_finish 5 (some .int) RX1 (Cond.code yX1_finish cX1_finish 5 (some .int) :: bw) D cA tS A s m args meth c) : ∀ (n : Nat) (x1 : Int32) (x2 : Int32) (x3 : Int32) (x4 : Int32) (σ : Sg) (r0 : Int32) (s0 : Sg) (hM : f_X1_finish_11 N L n x1 x2 x3 x4 σ = some (r0, s0)) (H : Heap) (locs : List Loc) (hw : Wd D A (wK cA h σ ++ (wLg cA h σ L ++ (wC cA h σ ++ F))) s.heap H locs) (ls : Array Slot) (hl : lv_has ls 5 [(0, .ref (h 42)), (1, .int x1), (2, .int x2), (3, .int x3), (4, .int x4)]), W p l e ({ frames := 2, cells := 0, slots := 0, locals := 46 } : Room) s m args below meth c H locs 0 0 (MQ below (QW D A (some (.int r0)) (wK cA h s0 ++ (wLg cA h s0 L ++ (wC cA h s0 ++ F)))) args s 0 0 A) (F0 m 11 ls []) := by
  have hx := E.1.1
  have hb := E.1.2.1
  intro n
  induction n with
  | zero =>
    intro x1 x2 x3 x4 σ r0 s0 hM
    cases hM
  | succ n ih =>
    intro x1 x2 x3 x4 σ r0 s0 hM H locs hw ls hl
    rw [f_X1_finish_11] at hM
    refine lv_iload hx hb dX1_finish_11 (lv_at hl 4 rfl) ?_
    refine lv_aload_n hx hb dX1_finish_13 rfl (lv_at hl 0 rfl) ?_
    refine q_get (C := RX1) (T := TX1) (N := 6) (ci := 1) E (fun w h => List.mem_cons_of_mem _ (inX1 w h)) hw 12 rfl rfl 3 (by decide) (List.mem_cons_of_mem _ tb_272) (v := .ref (h 44)) rfl dX1_finish_14 ?_
    refine q_get (C := RX7) (T := TX7) (N := 15) (ci := 7) E (fun w h => List.mem_cons_of_mem _ (inX7 w h)) hw 16 rfl rfl 14 (by decide) (List.mem_cons_of_mem _ tb_185) (v := .int (σ 15 0)) rfl dX1_finish_17 ?_
    refine lv_icmp_ge (tgt := 53) hx hb dX1_finish_20 (by decide) (fun c1 => ?_) (fun c1 => ?_)
    · replace hM := i_pos hM c1
      refine lv_iload_n hx hb dX1_finish_53 rfl (lv_at hl 3 rfl) ?_
      cases hM
      exact q_reti E hw dX1_finish_54
    · replace hM := i_neg hM c1
      refine lv_aload_n hx hb dX1_finish_23 rfl (lv_at hl 0 rfl) ?_
      refine q_get (C := RX1) (T := TX1) (N := 6) (ci := 1) E (fun w h => List.mem_cons_of_mem _ (inX1 w h)) hw 12 rfl rfl 3 (by decide) (List.mem_cons_of_mem _ tb_272) (v := .ref (h 44)) rfl dX1_finish_24 ?_
      refine q_get (C := RX7) (T := TX7) (N := 15) (ci := 7) E (fun w h => List.mem_cons_of_mem _ (inX7 w h)) hw 16 rfl rfl 10 (by decide) (List.mem_cons_of_mem _ tb_174) (v := .ref (h 26)) rfl dX1_finish_27 ?_
      refine lv_iload hx hb dX1_finish_30 (lv_at hl 4 rfl) ?_
      obtain ⟨g2, hM⟩ := g_some hM
      refine q_ald E hw 27 (n := 60) rfl g2 (x := (σ 26 (ix x4))) rfl dX1_finish_32 ?_
      refine lv_iload_n hx hb dX1_finish_33 rfl (lv_at hl 1 rfl) ?_
      refine lv_icmp_ne (tgt := 47) hx hb dX1_finish_34 (by decide) (fun c3 => ?_) (fun c3 => ?_)
      · replace hM := i_neg hM c3
        refine lv_iinc (v := (x4 + 1)) (lv' := [(4, .int (x4 + 1)), (0, .ref (h 42)), (1, .int x1), (2, .int x2), (3, .int x3)]) hx hb dX1_finish_47 hl (k := 4) rfl rfl (by decide) rfl (fun ls hl => ?_)
        refine lv_goto (tgt := 11) hx hb dX1_finish_50 (by decide) ?_
        exact ih _ _ _ _ _ _ _ hM _ _ hw _ (lv_sub hl [1, 2, 3, 4, 0] rfl)
      · replace hM := i_pos hM c3
        refine lv_aload_n hx hb dX1_finish_37 rfl (lv_at hl 0 rfl) ?_
        refine lv_iload hx hb dX1_finish_38 (lv_at hl 4 rfl) ?_
        refine lv_iload_n hx hb dX1_finish_40 rfl (lv_at hl 2 rfl) ?_
        obtain ⟨p4, h5, hM⟩ := b_some hM
        refine q_cvv (As := [.int x4, .int x2]) (rest := []) E hw hl (c_X1_markSolved l D cA tS A h L F x4 x2 σ p4 h5) 2 (bwV bw_c tb_612 tb_614 tb_18 tb_49 tb_615) rfl (by decide +kernel) ⟨Nat.le_of_ble_eq_true rfl, Nat.le_of_ble_eq_true rfl⟩ 12 1 (T := TX1) (N := 6) rfl rfl rfl rfl (Nat.le_of_ble_eq_true rfl) ⟨Nat.zero_le _, Nat.zero_le _⟩ dX1_finish_41 (fun H locs hw => ?_)
        refine lv_iinc (v := (x3 + 1)) (lv' := [(3, .int (x3 + 1)), (0, .ref (h 42)), (1, .int x1), (2, .int x2), (4, .int x4)]) hx hb dX1_finish_44 hl (k := 3) rfl rfl (by decide) rfl (fun ls hl => ?_)
        refine lv_iinc (v := (x4 + 1)) (lv' := [(4, .int (x4 + 1)), (3, .int (x3 + 1)), (0, .ref (h 42)), (1, .int x1), (2, .int x2)]) hx hb dX1_finish_47 hl (k := 4) rfl rfl (by decide) rfl (fun ls hl => ?_)
        refine lv_goto (tgt := 11) hx hb dX1_finish_50 (by decide) ?_
        exact ih _ _ _ _ _ _ _ hM _ _ hw _ (lv_sub hl [2, 3, 4, 1, 0] rfl)
set_option maxRecDepth 100000 in
set_option maxHeartbeats 4000000 in
theorem c_X1_finish (l : Launch) (D : va_G) (cA : Nat → ClassId) (tS : Nat → Nat) (A : Nat → Prop) (h : Nat → Nat) (L : Nat) (F : va_W) (N : Nat) (x1 : Int32) (x2 : Int32) (σ : Sg) (r0 : Int32) (s0 : Sg) (hM : f_X1_finish N L x1 x2 σ = some (r0, s0)) : Ct l yX1_finish (Cond.code yX1_finish cX1_finish 5 (some .int) :: bw) 2 46 D cA tS A [.ref (h 42), .int x1, .int x2] (wK cA h σ ++ (wLg cA h σ L ++ (wC cA h σ ++ F))) (some (.int r0)) (wK cA h s0 ++ (wLg cA h s0 L ++ (wC cA h s0 ++ F))) := by
  refine ct_of (by decide +kernel) (Nat.le_of_ble_eq_true rfl) ?_
  intro p e s m below meth c E hw ls hl
  replace E : Ev p cX1_finish 5 (some .int) RX1 (Cond.code yX1_finish cX1_finish 5 (some .int) :: bw) D cA tS A s m _ meth c := E
  replace hl : lv_has ls 5 [(0, .ref (h 42)), (1, .int x1), (2, .int x2)] := hl
  have hx := E.1.1
  have hb := E.1.2.1
  unfold f_X1_finish at hM
  refine lv_aload_n hx hb dX1_finish_0 rfl (lv_at hl 0 rfl) ?_
  refine lv_iload_n hx hb dX1_finish_1 rfl (lv_at hl 1 rfl) ?_
  refine lv_iload_n hx hb dX1_finish_2 rfl (lv_at hl 2 rfl) ?_
  obtain ⟨p1, h2, hM⟩ := b_some hM
  refine q_cvv (As := [.int x1, .int x2]) (rest := []) E hw hl (c_X1_markSolved l D cA tS A h L F x1 x2 σ p1 h2) 2 (bwV bw_c tb_612 tb_614 tb_18 tb_49 tb_615) rfl (by decide +kernel) ⟨Nat.le_of_ble_eq_true rfl, Nat.le_of_ble_eq_true rfl⟩ 12 1 (T := TX1) (N := 6) rfl rfl rfl rfl (Nat.le_of_ble_eq_true rfl) ⟨Nat.zero_le _, Nat.zero_le _⟩ dX1_finish_3 (fun H locs hw => ?_)
  refine lv_iconst (v := 1) hx hb dX1_finish_6 (by decide) ?_
  refine lv_istore_n (lv' := [(3, .int 1), (0, .ref (h 42)), (1, .int x1), (2, .int x2)]) hx hb dX1_finish_7 rfl hl (by decide) rfl (fun ls hl => ?_)
  refine lv_iconst (v := 0) hx hb dX1_finish_8 (by decide) ?_
  refine lv_istore (lv' := [(4, .int 0), (3, .int 1), (0, .ref (h 42)), (1, .int x1), (2, .int x2)]) hx hb dX1_finish_9 hl (by decide) rfl (fun ls hl => ?_)
  exact s_X1_finish_11 l D cA tS A h L F N E N _ _ _ _ _ _ _ hM _ _ hw _ (lv_sub hl [2, 3, 4, 1, 0] rfl)
set_option maxRecDepth 100000 in
set_option maxHeartbeats 4000000 in
theorem c_X1_revive (l : Launch) (D : va_G) (cA : Nat → ClassId) (tS : Nat → Nat) (A : Nat → Prop) (h : Nat → Nat) (L : Nat) (F : va_W) (x1 : Int32) (x2 : Int32) (σ : Sg) (s0 : Sg) (hM : f_X1_revive x1 x2 σ = some s0) : Ct l yX1_revive (Cond.code yX1_revive cX1_revive 3 none :: bw) 0 0 D cA tS A [.ref (h 42), .int x1, .int x2] (wK cA h σ ++ (wLg cA h σ L ++ (wC cA h σ ++ F))) none (wK cA h s0 ++ (wLg cA h s0 L ++ (wC cA h s0 ++ F))) := by
  refine ct_of (by decide +kernel) (Nat.le_of_ble_eq_true rfl) ?_
  intro p e s m below meth c E hw ls hl
  replace E : Ev p cX1_revive 3 none RX1 (Cond.code yX1_revive cX1_revive 3 none :: bw) D cA tS A s m _ meth c := E
  replace hl : lv_has ls 3 [(0, .ref (h 42)), (1, .int x1), (2, .int x2)] := hl
  have hx := E.1.1
  have hb := E.1.2.1
  unfold f_X1_revive at hM
  refine lv_aload_n hx hb dX1_revive_0 rfl (lv_at hl 0 rfl) ?_
  refine q_get (C := RX1) (T := TX1) (N := 6) (ci := 1) E (fun w h => List.mem_cons_of_mem _ (inX1 w h)) hw 12 rfl rfl 3 (by decide) (List.mem_cons_of_mem _ tb_272) (v := .ref (h 44)) rfl dX1_revive_1 ?_
  refine q_get (C := RX7) (T := TX7) (N := 15) (ci := 7) E (fun w h => List.mem_cons_of_mem _ (inX7 w h)) hw 16 rfl rfl 5 (by decide) (List.mem_cons_of_mem _ tb_160) (v := .ref (h 21)) rfl dX1_revive_4 ?_
  refine lv_iload_n hx hb dX1_revive_7 rfl (lv_at hl 1 rfl) ?_
  refine lv_iload_n hx hb dX1_revive_8 rfl (lv_at hl 2 rfl) ?_
  obtain ⟨g1, hM⟩ := g_some hM
  refine q_ast E hw 22 (n := 60) rfl g1 (wK cA h (up σ 21 (ix x1) x2) ++ (wLg cA h (up σ 21 (ix x1) x2) L ++ (wC cA h (up σ 21 (ix x1) x2) ++ F))) st_K_Lg_C_21 dX1_revive_9 (fun H locs hw => ?_)
  refine lv_aload_n hx hb dX1_revive_10 rfl (lv_at hl 0 rfl) ?_
  refine q_get (C := RX1) (T := TX1) (N := 6) (ci := 1) E (fun w h => List.mem_cons_of_mem _ (inX1 w h)) hw 12 rfl rfl 3 (by decide) (List.mem_cons_of_mem _ tb_272) (v := .ref (h 44)) rfl dX1_revive_11 ?_
  refine q_get (C := RX7) (T := TX7) (N := 15) (ci := 7) E (fun w h => List.mem_cons_of_mem _ (inX7 w h)) hw 16 rfl rfl 13 (by decide) (List.mem_cons_of_mem _ tb_182) (v := .ref (h 29)) rfl dX1_revive_14 ?_
  refine lv_iload_n hx hb dX1_revive_17 rfl (lv_at hl 1 rfl) ?_
  refine lv_iconst (v := (-1)) hx hb dX1_revive_18 (by decide) ?_
  refine q_ast E hw 30 (n := 60) rfl g1 (wK cA h (up (up σ 21 (ix x1) x2) 29 (ix x1) (-1)) ++ (wLg cA h (up (up σ 21 (ix x1) x2) 29 (ix x1) (-1)) L ++ (wC cA h (up (up σ 21 (ix x1) x2) 29 (ix x1) (-1)) ++ F))) st_K_Lg_C_29 dX1_revive_19 (fun H locs hw => ?_)
  cases hM
  exact q_retv E hw dX1_revive_20
set_option maxRecDepth 100000 in
set_option maxHeartbeats 4000000 in
theorem s_X1_reviveWithTwins_45 (l : Launch) (D : va_G) (cA : Nat → ClassId) (tS : Nat → Nat) (A : Nat → Prop) (h : Nat → Nat) (L : Nat) (F : va_W) (N : Nat) {p : Program} {e : Env} {s : State} {m : MethodId} {args : Array Value} {below : List Frame} {meth : Method} {c : Code} (E : Ev p cX1_reviveWithTwins 4 (some .int) RX1 (Cond.code yX1_reviveWithTwins cX1_reviveWithTwins 4 (some .int) :: bw) D cA tS A s m args meth c) : ∀ (n : Nat) (x1 : Int32) (x2 : Int32) (x3 : Int32) (σ : Sg) (r0 : Int32) (s0 : Sg) (hM : f_X1_reviveWithTwins_45 N L n x1 x2 x3 σ = some (r0, s0)) (H : Heap) (locs : List Loc) (hw : Wd D A (wK cA h σ ++ (wLg cA h σ L ++ (wC cA h σ ++ F))) s.heap H locs) (ls : Array Slot) (hl : lv_has ls 4 [(0, .ref (h 42)), (1, .int x1), (2, .int x2), (3, .int x3)]), W p l e ({ frames := 1, cells := 0, slots := 0, locals := 24 } : Room) s m args below meth c H locs 0 0 (MQ below (QW D A (some (.int r0)) (wK cA h s0 ++ (wLg cA h s0 L ++ (wC cA h s0 ++ F)))) args s 0 0 A) (F0 m 45 ls []) := by
  have hx := E.1.1
  have hb := E.1.2.1
  intro n
  induction n with
  | zero =>
    intro x1 x2 x3 σ r0 s0 hM
    cases hM
  | succ n ih =>
    intro x1 x2 x3 σ r0 s0 hM H locs hw ls hl
    rw [f_X1_reviveWithTwins_45] at hM
    refine lv_iload_n hx hb dX1_reviveWithTwins_45 rfl (lv_at hl 3 rfl) ?_
    refine lv_aload_n hx hb dX1_reviveWithTwins_46 rfl (lv_at hl 0 rfl) ?_
    refine q_get (C := RX1) (T := TX1) (N := 6) (ci := 1) E (fun w h => List.mem_cons_of_mem _ (inX1 w h)) hw 12 rfl rfl 3 (by decide) (List.mem_cons_of_mem _ tb_272) (v := .ref (h 44)) rfl dX1_reviveWithTwins_47 ?_
    refine q_get (C := RX7) (T := TX7) (N := 15) (ci := 7) E (fun w h => List.mem_cons_of_mem _ (inX7 w h)) hw 16 rfl rfl 14 (by decide) (List.mem_cons_of_mem _ tb_185) (v := .int (σ 15 0)) rfl dX1_reviveWithTwins_50 ?_
    refine lv_icmp_ge (tgt := 84) hx hb dX1_reviveWithTwins_53 (by decide) (fun c1 => ?_) (fun c1 => ?_)
    · replace hM := i_pos hM c1
      refine lv_iload_n hx hb dX1_reviveWithTwins_84 rfl (lv_at hl 2 rfl) ?_
      cases hM
      exact q_reti E hw dX1_reviveWithTwins_85
    · replace hM := i_neg hM c1
      refine lv_aload_n hx hb dX1_reviveWithTwins_56 rfl (lv_at hl 0 rfl) ?_
      refine q_get (C := RX1) (T := TX1) (N := 6) (ci := 1) E (fun w h => List.mem_cons_of_mem _ (inX1 w h)) hw 12 rfl rfl 3 (by decide) (List.mem_cons_of_mem _ tb_272) (v := .ref (h 44)) rfl dX1_reviveWithTwins_57 ?_
      refine q_get (C := RX7) (T := TX7) (N := 15) (ci := 7) E (fun w h => List.mem_cons_of_mem _ (inX7 w h)) hw 16 rfl rfl 10 (by decide) (List.mem_cons_of_mem _ tb_174) (v := .ref (h 26)) rfl dX1_reviveWithTwins_60 ?_
      refine lv_iload_n hx hb dX1_reviveWithTwins_63 rfl (lv_at hl 3 rfl) ?_
      obtain ⟨g2, hM⟩ := g_some hM
      refine q_ald E hw 27 (n := 60) rfl g2 (x := (σ 26 (ix x3))) rfl dX1_reviveWithTwins_64 ?_
      refine lv_iload_n hx hb dX1_reviveWithTwins_65 rfl (lv_at hl 1 rfl) ?_
      refine lv_icmp_ne (tgt := 78) hx hb dX1_reviveWithTwins_66 (by decide) (fun c3 => ?_) (fun c3 => ?_)
      · replace hM := i_neg hM c3
        refine lv_iinc (v := (x3 + 1)) (lv' := [(3, .int (x3 + 1)), (0, .ref (h 42)), (1, .int x1), (2, .int x2)]) hx hb dX1_reviveWithTwins_78 hl (k := 3) rfl rfl (by decide) rfl (fun ls hl => ?_)
        refine lv_goto (tgt := 45) hx hb dX1_reviveWithTwins_81 (by decide) ?_
        exact ih _ _ _ _ _ _ hM _ _ hw _ (lv_sub hl [1, 2, 3, 0] rfl)
      · replace hM := i_pos hM c3
        refine lv_aload_n hx hb dX1_reviveWithTwins_69 rfl (lv_at hl 0 rfl) ?_
        refine lv_iload_n hx hb dX1_reviveWithTwins_70 rfl (lv_at hl 3 rfl) ?_
        refine lv_iconst (v := 4) hx hb dX1_reviveWithTwins_71 (by decide) ?_
        obtain ⟨p4, h5, hM⟩ := b_some hM
        refine q_cvv (As := [.int x3, .int 4]) (rest := []) E hw hl (c_X1_revive l D cA tS A h L F x3 4 σ p4 h5) 2 (bwV bw_c tb_620 tb_622 tb_20 tb_49 tb_623) rfl (by decide +kernel) ⟨Nat.le_of_ble_eq_true rfl, Nat.le_of_ble_eq_true rfl⟩ 12 1 (T := TX1) (N := 6) rfl rfl rfl rfl (Nat.le_of_ble_eq_true rfl) ⟨Nat.zero_le _, Nat.zero_le _⟩ dX1_reviveWithTwins_72 (fun H locs hw => ?_)
        refine lv_iinc (v := (x2 + 1)) (lv' := [(2, .int (x2 + 1)), (0, .ref (h 42)), (1, .int x1), (3, .int x3)]) hx hb dX1_reviveWithTwins_75 hl (k := 2) rfl rfl (by decide) rfl (fun ls hl => ?_)
        refine lv_iinc (v := (x3 + 1)) (lv' := [(3, .int (x3 + 1)), (2, .int (x2 + 1)), (0, .ref (h 42)), (1, .int x1)]) hx hb dX1_reviveWithTwins_78 hl (k := 3) rfl rfl (by decide) rfl (fun ls hl => ?_)
        refine lv_goto (tgt := 45) hx hb dX1_reviveWithTwins_81 (by decide) ?_
        exact ih _ _ _ _ _ _ hM _ _ hw _ (lv_sub hl [2, 3, 1, 0] rfl)
set_option maxRecDepth 100000 in
set_option maxHeartbeats 4000000 in
theorem c_X1_reviveWithTwins (l : Launch) (D : va_G) (cA : Nat → ClassId) (tS : Nat → Nat) (A : Nat → Prop) (h : Nat → Nat) (L : Nat) (F : va_W) (N : Nat) (x1 : Int32) (σ : Sg) (r0 : Int32) (s0 : Sg) (hM : f_X1_reviveWithTwins N L x1 σ = some (r0, s0)) : Ct l yX1_reviveWithTwins (Cond.code yX1_reviveWithTwins cX1_reviveWithTwins 4 (some .int) :: bw) 1 24 D cA tS A [.ref (h 42), .int x1] (wK cA h σ ++ (wLg cA h σ L ++ (wC cA h σ ++ F))) (some (.int r0)) (wK cA h s0 ++ (wLg cA h s0 L ++ (wC cA h s0 ++ F))) := by
  refine ct_of (by decide +kernel) (Nat.le_of_ble_eq_true rfl) ?_
  intro p e s m below meth c E hw ls hl
  replace E : Ev p cX1_reviveWithTwins 4 (some .int) RX1 (Cond.code yX1_reviveWithTwins cX1_reviveWithTwins 4 (some .int) :: bw) D cA tS A s m _ meth c := E
  replace hl : lv_has ls 4 [(0, .ref (h 42)), (1, .int x1)] := hl
  have hx := E.1.1
  have hb := E.1.2.1
  unfold f_X1_reviveWithTwins at hM
  refine lv_aload_n hx hb dX1_reviveWithTwins_0 rfl (lv_at hl 0 rfl) ?_
  refine lv_iload_n hx hb dX1_reviveWithTwins_1 rfl (lv_at hl 1 rfl) ?_
  refine lv_iconst (v := 0) hx hb dX1_reviveWithTwins_2 (by decide) ?_
  obtain ⟨p1, h2, hM⟩ := b_some hM
  refine q_cvv (As := [.int x1, .int 0]) (rest := []) E hw hl (c_X1_revive l D cA tS A h L F x1 0 σ p1 h2) 2 (bwV bw_c tb_620 tb_622 tb_20 tb_49 tb_623) rfl (by decide +kernel) ⟨Nat.le_of_ble_eq_true rfl, Nat.le_of_ble_eq_true rfl⟩ 12 1 (T := TX1) (N := 6) rfl rfl rfl rfl (Nat.le_of_ble_eq_true rfl) ⟨Nat.zero_le _, Nat.zero_le _⟩ dX1_reviveWithTwins_3 (fun H locs hw => ?_)
  refine lv_aload_n hx hb dX1_reviveWithTwins_6 rfl (lv_at hl 0 rfl) ?_
  refine q_get (C := RX1) (T := TX1) (N := 6) (ci := 1) E (fun w h => List.mem_cons_of_mem _ (inX1 w h)) hw 12 rfl rfl 3 (by decide) (List.mem_cons_of_mem _ tb_272) (v := .ref (h 44)) rfl dX1_reviveWithTwins_7 ?_
  refine q_get (C := RX7) (T := TX7) (N := 15) (ci := 7) E (fun w h => List.mem_cons_of_mem _ (inX7 w h)) hw 16 rfl rfl 6 (by decide) (List.mem_cons_of_mem _ tb_163) (v := .ref (h 22)) rfl dX1_reviveWithTwins_10 ?_
  refine lv_iload_n hx hb dX1_reviveWithTwins_13 rfl (lv_at hl 1 rfl) ?_
  refine lv_iconst (v := 0) hx hb dX1_reviveWithTwins_14 (by decide) ?_
  obtain ⟨g3, hM⟩ := g_some hM
  refine q_ast E hw 23 (n := 60) rfl g3 (wK cA h (up p1 22 (ix x1) 0) ++ (wLg cA h (up p1 22 (ix x1) 0) L ++ (wC cA h (up p1 22 (ix x1) 0) ++ F))) st_K_Lg_C_22 dX1_reviveWithTwins_15 (fun H locs hw => ?_)
  refine lv_aload_n hx hb dX1_reviveWithTwins_16 rfl (lv_at hl 0 rfl) ?_
  refine q_get (C := RX1) (T := TX1) (N := 6) (ci := 1) E (fun w h => List.mem_cons_of_mem _ (inX1 w h)) hw 12 rfl rfl 3 (by decide) (List.mem_cons_of_mem _ tb_272) (v := .ref (h 44)) rfl dX1_reviveWithTwins_17 ?_
  refine q_get (C := RX7) (T := TX7) (N := 15) (ci := 7) E (fun w h => List.mem_cons_of_mem _ (inX7 w h)) hw 16 rfl rfl 7 (by decide) (List.mem_cons_of_mem _ tb_166) (v := .ref (h 23)) rfl dX1_reviveWithTwins_20 ?_
  refine lv_iload_n hx hb dX1_reviveWithTwins_23 rfl (lv_at hl 1 rfl) ?_
  refine lv_iconst (v := 0) hx hb dX1_reviveWithTwins_24 (by decide) ?_
  refine q_ast E hw 24 (n := 60) rfl g3 (wK cA h (up (up p1 22 (ix x1) 0) 23 (ix x1) 0) ++ (wLg cA h (up (up p1 22 (ix x1) 0) 23 (ix x1) 0) L ++ (wC cA h (up (up p1 22 (ix x1) 0) 23 (ix x1) 0) ++ F))) st_K_Lg_C_23 dX1_reviveWithTwins_25 (fun H locs hw => ?_)
  refine lv_aload_n hx hb dX1_reviveWithTwins_26 rfl (lv_at hl 0 rfl) ?_
  refine q_get (C := RX1) (T := TX1) (N := 6) (ci := 1) E (fun w h => List.mem_cons_of_mem _ (inX1 w h)) hw 12 rfl rfl 4 (by decide) (List.mem_cons_of_mem _ tb_274) (v := .ref (h 41)) rfl dX1_reviveWithTwins_27 ?_
  refine lv_aload_n hx hb dX1_reviveWithTwins_30 rfl (lv_at hl 0 rfl) ?_
  refine q_get (C := RX1) (T := TX1) (N := 6) (ci := 1) E (fun w h => List.mem_cons_of_mem _ (inX1 w h)) hw 12 rfl rfl 5 (by decide) (List.mem_cons_of_mem _ tb_276) (v := .int (p1 12 0)) (q_fld (congrFun ((up_ne (up p1 22 (ix x1) 0) 23 (ix x1) 0 12 (by decide)).trans (up_ne p1 22 (ix x1) 0 12 (by decide))) 0) rfl) dX1_reviveWithTwins_31 ?_
  refine lv_bipush (v := 10) hx hb dX1_reviveWithTwins_34 (by decide) ?_
  refine lv_iload_n hx hb dX1_reviveWithTwins_36 rfl (lv_at hl 1 rfl) ?_
  refine lv_iconst (v := 0) hx hb dX1_reviveWithTwins_37 (by decide) ?_
  obtain ⟨p4, h5, hM⟩ := b_some hM
  refine q_cvv (As := [.int (p1 12 0), .int 10, .int x1, .int 0]) (rest := []) E hw hl (c_X4_write l D cA tS A h L F (p1 12 0) 10 x1 0 (up (up p1 22 (ix x1) 0) 23 (ix x1) 0) p4 h5) 4 (bwV bw_c tb_596 tb_597 tb_598 tb_53 tb_599) rfl (by decide +kernel) ⟨Nat.le_of_ble_eq_true rfl, Nat.le_of_ble_eq_true rfl⟩ 7 4 (T := TX4) (N := 5) rfl rfl rfl rfl (Nat.le_of_ble_eq_true rfl) ⟨Nat.zero_le _, Nat.zero_le _⟩ dX1_reviveWithTwins_38 (fun H locs hw => ?_)
  refine lv_iconst (v := 1) hx hb dX1_reviveWithTwins_41 (by decide) ?_
  refine lv_istore_n (lv' := [(2, .int 1), (0, .ref (h 42)), (1, .int x1)]) hx hb dX1_reviveWithTwins_42 rfl hl (by decide) rfl (fun ls hl => ?_)
  refine lv_iconst (v := 0) hx hb dX1_reviveWithTwins_43 (by decide) ?_
  refine lv_istore_n (lv' := [(3, .int 0), (2, .int 1), (0, .ref (h 42)), (1, .int x1)]) hx hb dX1_reviveWithTwins_44 rfl hl (by decide) rfl (fun ls hl => ?_)
  exact s_X1_reviveWithTwins_45 l D cA tS A h L F N E N _ _ _ _ _ _ hM _ _ hw _ (lv_sub hl [2, 3, 1, 0] rfl)
set_option maxRecDepth 100000 in
set_option maxHeartbeats 4000000 in
theorem s_X7_twinMask_5 (l : Launch) (D : va_G) (cA : Nat → ClassId) (tS : Nat → Nat) (A : Nat → Prop) (h : Nat → Nat) (L : Nat) (F : va_W) (N : Nat) {p : Program} {e : Env} {s : State} {m : MethodId} {args : Array Value} {below : List Frame} {meth : Method} {c : Code} (E : Ev p cX7_twinMask 5 (some .long) RX7 (Cond.code yX7_twinMask cX7_twinMask 5 (some .long) :: bw) D cA tS A s m args meth c) : ∀ (n : Nat) (x1 : Int32) (y2 : Int64) (x4 : Int32) (σ : Sg) (r0 : Int64) (hM : f_X7_twinMask_5 N n x1 y2 x4 σ = some r0) (H : Heap) (locs : List Loc) (hw : Wd D A (wK cA h σ ++ (wLg cA h σ L ++ (wC cA h σ ++ F))) s.heap H locs) (ls : Array Slot) (hl : lv_has ls 5 [(0, .ref (h 44)), (1, .int x1), (2, .long y2), (4, .int x4)]), W p l e ({ frames := 0, cells := 0, slots := 0, locals := 0 } : Room) s m args below meth c H locs 0 0 (MQ below (QW D A (some (.long r0)) (wK cA h σ ++ (wLg cA h σ L ++ (wC cA h σ ++ F)))) args s 0 0 A) (F0 m 5 ls []) := by
  have hx := E.1.1
  have hb := E.1.2.1
  intro n
  induction n with
  | zero =>
    intro x1 y2 x4 σ r0 hM
    cases hM
  | succ n ih =>
    intro x1 y2 x4 σ r0 hM H locs hw ls hl
    rw [f_X7_twinMask_5] at hM
    refine lv_iload hx hb dX7_twinMask_5 (lv_at hl 3 rfl) ?_
    refine lv_aload_n hx hb dX7_twinMask_7 rfl (lv_at hl 0 rfl) ?_
    refine q_get (C := RX7) (T := TX7) (N := 15) (ci := 7) E (fun w h => List.mem_cons_of_mem _ (inX7 w h)) hw 16 rfl rfl 14 (by decide) (List.mem_cons_of_mem _ tb_184) (v := .int (σ 15 0)) rfl dX7_twinMask_8 ?_
    refine lv_icmp_ge (tgt := 38) hx hb dX7_twinMask_11 (by decide) (fun c1 => ?_) (fun c1 => ?_)
    · replace hM := i_pos hM c1
      refine lv_lload_n hx hb dX7_twinMask_38 rfl (lv_at hl 2 rfl) ?_
      cases hM
      exact q_retl E hw dX7_twinMask_39
    · replace hM := i_neg hM c1
      refine lv_aload_n hx hb dX7_twinMask_14 rfl (lv_at hl 0 rfl) ?_
      refine q_get (C := RX7) (T := TX7) (N := 15) (ci := 7) E (fun w h => List.mem_cons_of_mem _ (inX7 w h)) hw 16 rfl rfl 10 (by decide) (List.mem_cons_of_mem _ tb_173) (v := .ref (h 26)) rfl dX7_twinMask_15 ?_
      refine lv_iload hx hb dX7_twinMask_18 (lv_at hl 3 rfl) ?_
      obtain ⟨g2, hM⟩ := g_some hM
      refine q_ald E hw 27 (n := 60) rfl g2 (x := (σ 26 (ix x4))) rfl dX7_twinMask_20 ?_
      refine lv_iload_n hx hb dX7_twinMask_21 rfl (lv_at hl 1 rfl) ?_
      refine lv_icmp_ne (tgt := 32) hx hb dX7_twinMask_22 (by decide) (fun c3 => ?_) (fun c3 => ?_)
      · replace hM := i_neg hM c3
        refine lv_iinc (v := (x4 + 1)) (lv' := [(4, .int (x4 + 1)), (0, .ref (h 44)), (1, .int x1), (2, .long y2)]) hx hb dX7_twinMask_32 hl (k := 3) rfl rfl (by decide) rfl (fun ls hl => ?_)
        refine lv_goto (tgt := 5) hx hb dX7_twinMask_35 (by decide) ?_
        exact ih _ _ _ _ _ hM _ _ hw _ (lv_sub hl [1, 2, 3, 0] rfl)
      · replace hM := i_pos hM c3
        refine lv_lload_n hx hb dX7_twinMask_25 rfl (lv_at hl 2 rfl) ?_
        refine lv_lconst (v := 1) hx hb dX7_twinMask_26 (by decide) ?_
        refine lv_iload hx hb dX7_twinMask_27 (lv_at hl 3 rfl) ?_
        refine lv_lshl (v := (1 <<< ((x4 : Int32).toInt64 &&& 63))) hx hb dX7_twinMask_29 rfl ?_
        refine lv_lor hx hb dX7_twinMask_30 ?_
        refine lv_lstore_n (lv' := [(2, .long (y2 ||| (1 <<< ((x4 : Int32).toInt64 &&& 63)))), (0, .ref (h 44)), (1, .int x1), (4, .int x4)]) hx hb dX7_twinMask_31 rfl hl (by decide) rfl (fun ls hl => ?_)
        refine lv_iinc (v := (x4 + 1)) (lv' := [(4, .int (x4 + 1)), (2, .long (y2 ||| (1 <<< ((x4 : Int32).toInt64 &&& 63)))), (0, .ref (h 44)), (1, .int x1)]) hx hb dX7_twinMask_32 hl (k := 3) rfl rfl (by decide) rfl (fun ls hl => ?_)
        refine lv_goto (tgt := 5) hx hb dX7_twinMask_35 (by decide) ?_
        exact ih _ _ _ _ _ hM _ _ hw _ (lv_sub hl [2, 3, 1, 0] rfl)
set_option maxRecDepth 100000 in
set_option maxHeartbeats 4000000 in
theorem c_X7_twinMask (l : Launch) (D : va_G) (cA : Nat → ClassId) (tS : Nat → Nat) (A : Nat → Prop) (h : Nat → Nat) (L : Nat) (F : va_W) (N : Nat) (x1 : Int32) (σ : Sg) (r0 : Int64) (hM : f_X7_twinMask N x1 σ = some r0) : Ct l yX7_twinMask (Cond.code yX7_twinMask cX7_twinMask 5 (some .long) :: bw) 0 0 D cA tS A [.ref (h 44), .int x1] (wK cA h σ ++ (wLg cA h σ L ++ (wC cA h σ ++ F))) (some (.long r0)) (wK cA h σ ++ (wLg cA h σ L ++ (wC cA h σ ++ F))) := by
  refine ct_of (by decide +kernel) (Nat.le_of_ble_eq_true rfl) ?_
  intro p e s m below meth c E hw ls hl
  replace E : Ev p cX7_twinMask 5 (some .long) RX7 (Cond.code yX7_twinMask cX7_twinMask 5 (some .long) :: bw) D cA tS A s m _ meth c := E
  replace hl : lv_has ls 5 [(0, .ref (h 44)), (1, .int x1)] := hl
  have hx := E.1.1
  have hb := E.1.2.1
  unfold f_X7_twinMask at hM
  refine lv_lconst (v := 0) hx hb dX7_twinMask_0 (by decide) ?_
  refine lv_lstore_n (lv' := [(2, .long 0), (0, .ref (h 44)), (1, .int x1)]) hx hb dX7_twinMask_1 rfl hl (by decide) rfl (fun ls hl => ?_)
  refine lv_iconst (v := 0) hx hb dX7_twinMask_2 (by decide) ?_
  refine lv_istore (lv' := [(4, .int 0), (2, .long 0), (0, .ref (h 44)), (1, .int x1)]) hx hb dX7_twinMask_3 hl (by decide) rfl (fun ls hl => ?_)
  exact s_X7_twinMask_5 l D cA tS A h L F N E N _ _ _ _ _ hM _ _ hw _ (lv_sub hl [2, 3, 1, 0] rfl)
set_option maxRecDepth 100000 in
set_option maxHeartbeats 4000000 in
theorem c_J13_bitCount_95d88 (l : Launch) (D : va_G) (cA : Nat → ClassId) (tS : Nat → Nat) (A : Nat → Prop) (F : va_W) (y0 : Int64) (r0 : Int32) (hM : f_J13_bitCount_95d88 y0 = some r0) : Ct l yJ13_bitCount_95d88 (Cond.code yJ13_bitCount_95d88 cJ13_bitCount_95d88 2 (some .int) :: bw) 0 0 D cA tS A [.long y0] F (some (.int r0)) F := by
  refine ct_of (by decide +kernel) (Nat.le_of_ble_eq_true rfl) ?_
  intro p e s m below meth c E hw ls hl
  replace E : Ev p cJ13_bitCount_95d88 2 (some .int) RJ13 (Cond.code yJ13_bitCount_95d88 cJ13_bitCount_95d88 2 (some .int) :: bw) D cA tS A s m _ meth c := E
  replace hl : lv_has ls 2 [(0, .long y0)] := hl
  have hx := E.1.1
  have hb := E.1.2.1
  unfold f_J13_bitCount_95d88 at hM
  refine lv_lload_n hx hb dJ13_bitCount_95d88_0 rfl (lv_at hl 0 rfl) ?_
  refine lv_lload_n hx hb dJ13_bitCount_95d88_1 rfl (lv_at hl 0 rfl) ?_
  refine lv_iconst (v := 1) hx hb dJ13_bitCount_95d88_2 (by decide) ?_
  refine lv_lushr (v := (((y0 : Int64).toUInt64 >>> ((1 : Int32).toInt64.toUInt64 &&& Int64.toUInt64 63)).toInt64)) hx hb dJ13_bitCount_95d88_3 rfl ?_
  refine lv_ldc2 (v := 6148914691236517205) hx hb E.1.2.2.2.1 (E.1.2.2.2.2 _ (List.mem_cons_of_mem _ tb_635)) dJ13_bitCount_95d88_4 ?_
  refine lv_land hx hb dJ13_bitCount_95d88_7 ?_
  refine lv_lsub hx hb dJ13_bitCount_95d88_8 ?_
  refine lv_lstore_n (lv' := [(0, .long (y0 - ((((y0 : Int64).toUInt64 >>> ((1 : Int32).toInt64.toUInt64 &&& Int64.toUInt64 63)).toInt64) &&& 6148914691236517205)))]) hx hb dJ13_bitCount_95d88_9 rfl hl (by decide) rfl (fun ls hl => ?_)
  refine lv_lload_n hx hb dJ13_bitCount_95d88_10 rfl (lv_at hl 0 rfl) ?_
  refine lv_ldc2 (v := 3689348814741910323) hx hb E.1.2.2.2.1 (E.1.2.2.2.2 _ (List.mem_cons_of_mem _ tb_636)) dJ13_bitCount_95d88_11 ?_
  refine lv_land hx hb dJ13_bitCount_95d88_14 ?_
  refine lv_lload_n hx hb dJ13_bitCount_95d88_15 rfl (lv_at hl 0 rfl) ?_
  refine lv_iconst (v := 2) hx hb dJ13_bitCount_95d88_16 (by decide) ?_
  refine lv_lushr (v := ((((y0 - ((((y0 : Int64).toUInt64 >>> ((1 : Int32).toInt64.toUInt64 &&& Int64.toUInt64 63)).toInt64) &&& 6148914691236517205)) : Int64).toUInt64 >>> ((2 : Int32).toInt64.toUInt64 &&& Int64.toUInt64 63)).toInt64)) hx hb dJ13_bitCount_95d88_17 rfl ?_
  refine lv_ldc2 (v := 3689348814741910323) hx hb E.1.2.2.2.1 (E.1.2.2.2.2 _ (List.mem_cons_of_mem _ tb_636)) dJ13_bitCount_95d88_18 ?_
  refine lv_land hx hb dJ13_bitCount_95d88_21 ?_
  refine lv_ladd hx hb dJ13_bitCount_95d88_22 ?_
  refine lv_lstore_n (lv' := [(0, .long (((y0 - ((((y0 : Int64).toUInt64 >>> ((1 : Int32).toInt64.toUInt64 &&& Int64.toUInt64 63)).toInt64) &&& 6148914691236517205)) &&& 3689348814741910323) + (((((y0 - ((((y0 : Int64).toUInt64 >>> ((1 : Int32).toInt64.toUInt64 &&& Int64.toUInt64 63)).toInt64) &&& 6148914691236517205)) : Int64).toUInt64 >>> ((2 : Int32).toInt64.toUInt64 &&& Int64.toUInt64 63)).toInt64) &&& 3689348814741910323)))]) hx hb dJ13_bitCount_95d88_23 rfl hl (by decide) rfl (fun ls hl => ?_)
  refine lv_lload_n hx hb dJ13_bitCount_95d88_24 rfl (lv_at hl 0 rfl) ?_
  refine lv_lload_n hx hb dJ13_bitCount_95d88_25 rfl (lv_at hl 0 rfl) ?_
  refine lv_iconst (v := 4) hx hb dJ13_bitCount_95d88_26 (by decide) ?_
  refine lv_lushr (v := ((((((y0 - ((((y0 : Int64).toUInt64 >>> ((1 : Int32).toInt64.toUInt64 &&& Int64.toUInt64 63)).toInt64) &&& 6148914691236517205)) &&& 3689348814741910323) + (((((y0 - ((((y0 : Int64).toUInt64 >>> ((1 : Int32).toInt64.toUInt64 &&& Int64.toUInt64 63)).toInt64) &&& 6148914691236517205)) : Int64).toUInt64 >>> ((2 : Int32).toInt64.toUInt64 &&& Int64.toUInt64 63)).toInt64) &&& 3689348814741910323)) : Int64).toUInt64 >>> ((4 : Int32).toInt64.toUInt64 &&& Int64.toUInt64 63)).toInt64)) hx hb dJ13_bitCount_95d88_27 rfl ?_
  refine lv_ladd hx hb dJ13_bitCount_95d88_28 ?_
  refine lv_ldc2 (v := 1085102592571150095) hx hb E.1.2.2.2.1 (E.1.2.2.2.2 _ (List.mem_cons_of_mem _ tb_637)) dJ13_bitCount_95d88_29 ?_
  refine lv_land hx hb dJ13_bitCount_95d88_32 ?_
  refine lv_lstore_n (lv' := [(0, .long (((((y0 - ((((y0 : Int64).toUInt64 >>> ((1 : Int32).toInt64.toUInt64 &&& Int64.toUInt64 63)).toInt64) &&& 6148914691236517205)) &&& 3689348814741910323) + (((((y0 - ((((y0 : Int64).toUInt64 >>> ((1 : Int32).toInt64.toUInt64 &&& Int64.toUInt64 63)).toInt64) &&& 6148914691236517205)) : Int64).toUInt64 >>> ((2 : Int32).toInt64.toUInt64 &&& Int64.toUInt64 63)).toInt64) &&& 3689348814741910323)) + ((((((y0 - ((((y0 : Int64).toUInt64 >>> ((1 : Int32).toInt64.toUInt64 &&& Int64.toUInt64 63)).toInt64) &&& 6148914691236517205)) &&& 3689348814741910323) + (((((y0 - ((((y0 : Int64).toUInt64 >>> ((1 : Int32).toInt64.toUInt64 &&& Int64.toUInt64 63)).toInt64) &&& 6148914691236517205)) : Int64).toUInt64 >>> ((2 : Int32).toInt64.toUInt64 &&& Int64.toUInt64 63)).toInt64) &&& 3689348814741910323)) : Int64).toUInt64 >>> ((4 : Int32).toInt64.toUInt64 &&& Int64.toUInt64 63)).toInt64)) &&& 1085102592571150095))]) hx hb dJ13_bitCount_95d88_33 rfl hl (by decide) rfl (fun ls hl => ?_)
  refine lv_lload_n hx hb dJ13_bitCount_95d88_34 rfl (lv_at hl 0 rfl) ?_
  refine lv_lload_n hx hb dJ13_bitCount_95d88_35 rfl (lv_at hl 0 rfl) ?_
  refine lv_bipush (v := 8) hx hb dJ13_bitCount_95d88_36 (by decide) ?_
  refine lv_lushr (v := ((((((((y0 - ((((y0 : Int64).toUInt64 >>> ((1 : Int32).toInt64.toUInt64 &&& Int64.toUInt64 63)).toInt64) &&& 6148914691236517205)) &&& 3689348814741910323) + (((((y0 - ((((y0 : Int64).toUInt64 >>> ((1 : Int32).toInt64.toUInt64 &&& Int64.toUInt64 63)).toInt64) &&& 6148914691236517205)) : Int64).toUInt64 >>> ((2 : Int32).toInt64.toUInt64 &&& Int64.toUInt64 63)).toInt64) &&& 3689348814741910323)) + ((((((y0 - ((((y0 : Int64).toUInt64 >>> ((1 : Int32).toInt64.toUInt64 &&& Int64.toUInt64 63)).toInt64) &&& 6148914691236517205)) &&& 3689348814741910323) + (((((y0 - ((((y0 : Int64).toUInt64 >>> ((1 : Int32).toInt64.toUInt64 &&& Int64.toUInt64 63)).toInt64) &&& 6148914691236517205)) : Int64).toUInt64 >>> ((2 : Int32).toInt64.toUInt64 &&& Int64.toUInt64 63)).toInt64) &&& 3689348814741910323)) : Int64).toUInt64 >>> ((4 : Int32).toInt64.toUInt64 &&& Int64.toUInt64 63)).toInt64)) &&& 1085102592571150095) : Int64).toUInt64 >>> ((8 : Int32).toInt64.toUInt64 &&& Int64.toUInt64 63)).toInt64)) hx hb dJ13_bitCount_95d88_38 rfl ?_
  refine lv_ladd hx hb dJ13_bitCount_95d88_39 ?_
  refine lv_lstore_n (lv' := [(0, .long ((((((y0 - ((((y0 : Int64).toUInt64 >>> ((1 : Int32).toInt64.toUInt64 &&& Int64.toUInt64 63)).toInt64) &&& 6148914691236517205)) &&& 3689348814741910323) + (((((y0 - ((((y0 : Int64).toUInt64 >>> ((1 : Int32).toInt64.toUInt64 &&& Int64.toUInt64 63)).toInt64) &&& 6148914691236517205)) : Int64).toUInt64 >>> ((2 : Int32).toInt64.toUInt64 &&& Int64.toUInt64 63)).toInt64) &&& 3689348814741910323)) + ((((((y0 - ((((y0 : Int64).toUInt64 >>> ((1 : Int32).toInt64.toUInt64 &&& Int64.toUInt64 63)).toInt64) &&& 6148914691236517205)) &&& 3689348814741910323) + (((((y0 - ((((y0 : Int64).toUInt64 >>> ((1 : Int32).toInt64.toUInt64 &&& Int64.toUInt64 63)).toInt64) &&& 6148914691236517205)) : Int64).toUInt64 >>> ((2 : Int32).toInt64.toUInt64 &&& Int64.toUInt64 63)).toInt64) &&& 3689348814741910323)) : Int64).toUInt64 >>> ((4 : Int32).toInt64.toUInt64 &&& Int64.toUInt64 63)).toInt64)) &&& 1085102592571150095) + ((((((((y0 - ((((y0 : Int64).toUInt64 >>> ((1 : Int32).toInt64.toUInt64 &&& Int64.toUInt64 63)).toInt64) &&& 6148914691236517205)) &&& 3689348814741910323) + (((((y0 - ((((y0 : Int64).toUInt64 >>> ((1 : Int32).toInt64.toUInt64 &&& Int64.toUInt64 63)).toInt64) &&& 6148914691236517205)) : Int64).toUInt64 >>> ((2 : Int32).toInt64.toUInt64 &&& Int64.toUInt64 63)).toInt64) &&& 3689348814741910323)) + ((((((y0 - ((((y0 : Int64).toUInt64 >>> ((1 : Int32).toInt64.toUInt64 &&& Int64.toUInt64 63)).toInt64) &&& 6148914691236517205)) &&& 3689348814741910323) + (((((y0 - ((((y0 : Int64).toUInt64 >>> ((1 : Int32).toInt64.toUInt64 &&& Int64.toUInt64 63)).toInt64) &&& 6148914691236517205)) : Int64).toUInt64 >>> ((2 : Int32).toInt64.toUInt64 &&& Int64.toUInt64 63)).toInt64) &&& 3689348814741910323)) : Int64).toUInt64 >>> ((4 : Int32).toInt64.toUInt64 &&& Int64.toUInt64 63)).toInt64)) &&& 1085102592571150095) : Int64).toUInt64 >>> ((8 : Int32).toInt64.toUInt64 &&& Int64.toUInt64 63)).toInt64)))]) hx hb dJ13_bitCount_95d88_40 rfl hl (by decide) rfl (fun ls hl => ?_)
  refine lv_lload_n hx hb dJ13_bitCount_95d88_41 rfl (lv_at hl 0 rfl) ?_
  refine lv_lload_n hx hb dJ13_bitCount_95d88_42 rfl (lv_at hl 0 rfl) ?_
  refine lv_bipush (v := 16) hx hb dJ13_bitCount_95d88_43 (by decide) ?_
  refine lv_lushr (v := (((((((((y0 - ((((y0 : Int64).toUInt64 >>> ((1 : Int32).toInt64.toUInt64 &&& Int64.toUInt64 63)).toInt64) &&& 6148914691236517205)) &&& 3689348814741910323) + (((((y0 - ((((y0 : Int64).toUInt64 >>> ((1 : Int32).toInt64.toUInt64 &&& Int64.toUInt64 63)).toInt64) &&& 6148914691236517205)) : Int64).toUInt64 >>> ((2 : Int32).toInt64.toUInt64 &&& Int64.toUInt64 63)).toInt64) &&& 3689348814741910323)) + ((((((y0 - ((((y0 : Int64).toUInt64 >>> ((1 : Int32).toInt64.toUInt64 &&& Int64.toUInt64 63)).toInt64) &&& 6148914691236517205)) &&& 3689348814741910323) + (((((y0 - ((((y0 : Int64).toUInt64 >>> ((1 : Int32).toInt64.toUInt64 &&& Int64.toUInt64 63)).toInt64) &&& 6148914691236517205)) : Int64).toUInt64 >>> ((2 : Int32).toInt64.toUInt64 &&& Int64.toUInt64 63)).toInt64) &&& 3689348814741910323)) : Int64).toUInt64 >>> ((4 : Int32).toInt64.toUInt64 &&& Int64.toUInt64 63)).toInt64)) &&& 1085102592571150095) + ((((((((y0 - ((((y0 : Int64).toUInt64 >>> ((1 : Int32).toInt64.toUInt64 &&& Int64.toUInt64 63)).toInt64) &&& 6148914691236517205)) &&& 3689348814741910323) + (((((y0 - ((((y0 : Int64).toUInt64 >>> ((1 : Int32).toInt64.toUInt64 &&& Int64.toUInt64 63)).toInt64) &&& 6148914691236517205)) : Int64).toUInt64 >>> ((2 : Int32).toInt64.toUInt64 &&& Int64.toUInt64 63)).toInt64) &&& 3689348814741910323)) + ((((((y0 - ((((y0 : Int64).toUInt64 >>> ((1 : Int32).toInt64.toUInt64 &&& Int64.toUInt64 63)).toInt64) &&& 6148914691236517205)) &&& 3689348814741910323) + (((((y0 - ((((y0 : Int64).toUInt64 >>> ((1 : Int32).toInt64.toUInt64 &&& Int64.toUInt64 63)).toInt64) &&& 6148914691236517205)) : Int64).toUInt64 >>> ((2 : Int32).toInt64.toUInt64 &&& Int64.toUInt64 63)).toInt64) &&& 3689348814741910323)) : Int64).toUInt64 >>> ((4 : Int32).toInt64.toUInt64 &&& Int64.toUInt64 63)).toInt64)) &&& 1085102592571150095) : Int64).toUInt64 >>> ((8 : Int32).toInt64.toUInt64 &&& Int64.toUInt64 63)).toInt64)) : Int64).toUInt64 >>> ((16 : Int32).toInt64.toUInt64 &&& Int64.toUInt64 63)).toInt64)) hx hb dJ13_bitCount_95d88_45 rfl ?_
  refine lv_ladd hx hb dJ13_bitCount_95d88_46 ?_
  refine lv_lstore_n (lv' := [(0, .long (((((((y0 - ((((y0 : Int64).toUInt64 >>> ((1 : Int32).toInt64.toUInt64 &&& Int64.toUInt64 63)).toInt64) &&& 6148914691236517205)) &&& 3689348814741910323) + (((((y0 - ((((y0 : Int64).toUInt64 >>> ((1 : Int32).toInt64.toUInt64 &&& Int64.toUInt64 63)).toInt64) &&& 6148914691236517205)) : Int64).toUInt64 >>> ((2 : Int32).toInt64.toUInt64 &&& Int64.toUInt64 63)).toInt64) &&& 3689348814741910323)) + ((((((y0 - ((((y0 : Int64).toUInt64 >>> ((1 : Int32).toInt64.toUInt64 &&& Int64.toUInt64 63)).toInt64) &&& 6148914691236517205)) &&& 3689348814741910323) + (((((y0 - ((((y0 : Int64).toUInt64 >>> ((1 : Int32).toInt64.toUInt64 &&& Int64.toUInt64 63)).toInt64) &&& 6148914691236517205)) : Int64).toUInt64 >>> ((2 : Int32).toInt64.toUInt64 &&& Int64.toUInt64 63)).toInt64) &&& 3689348814741910323)) : Int64).toUInt64 >>> ((4 : Int32).toInt64.toUInt64 &&& Int64.toUInt64 63)).toInt64)) &&& 1085102592571150095) + ((((((((y0 - ((((y0 : Int64).toUInt64 >>> ((1 : Int32).toInt64.toUInt64 &&& Int64.toUInt64 63)).toInt64) &&& 6148914691236517205)) &&& 3689348814741910323) + (((((y0 - ((((y0 : Int64).toUInt64 >>> ((1 : Int32).toInt64.toUInt64 &&& Int64.toUInt64 63)).toInt64) &&& 6148914691236517205)) : Int64).toUInt64 >>> ((2 : Int32).toInt64.toUInt64 &&& Int64.toUInt64 63)).toInt64) &&& 3689348814741910323)) + ((((((y0 - ((((y0 : Int64).toUInt64 >>> ((1 : Int32).toInt64.toUInt64 &&& Int64.toUInt64 63)).toInt64) &&& 6148914691236517205)) &&& 3689348814741910323) + (((((y0 - ((((y0 : Int64).toUInt64 >>> ((1 : Int32).toInt64.toUInt64 &&& Int64.toUInt64 63)).toInt64) &&& 6148914691236517205)) : Int64).toUInt64 >>> ((2 : Int32).toInt64.toUInt64 &&& Int64.toUInt64 63)).toInt64) &&& 3689348814741910323)) : Int64).toUInt64 >>> ((4 : Int32).toInt64.toUInt64 &&& Int64.toUInt64 63)).toInt64)) &&& 1085102592571150095) : Int64).toUInt64 >>> ((8 : Int32).toInt64.toUInt64 &&& Int64.toUInt64 63)).toInt64)) + (((((((((y0 - ((((y0 : Int64).toUInt64 >>> ((1 : Int32).toInt64.toUInt64 &&& Int64.toUInt64 63)).toInt64) &&& 6148914691236517205)) &&& 3689348814741910323) + (((((y0 - ((((y0 : Int64).toUInt64 >>> ((1 : Int32).toInt64.toUInt64 &&& Int64.toUInt64 63)).toInt64) &&& 6148914691236517205)) : Int64).toUInt64 >>> ((2 : Int32).toInt64.toUInt64 &&& Int64.toUInt64 63)).toInt64) &&& 3689348814741910323)) + ((((((y0 - ((((y0 : Int64).toUInt64 >>> ((1 : Int32).toInt64.toUInt64 &&& Int64.toUInt64 63)).toInt64) &&& 6148914691236517205)) &&& 3689348814741910323) + (((((y0 - ((((y0 : Int64).toUInt64 >>> ((1 : Int32).toInt64.toUInt64 &&& Int64.toUInt64 63)).toInt64) &&& 6148914691236517205)) : Int64).toUInt64 >>> ((2 : Int32).toInt64.toUInt64 &&& Int64.toUInt64 63)).toInt64) &&& 3689348814741910323)) : Int64).toUInt64 >>> ((4 : Int32).toInt64.toUInt64 &&& Int64.toUInt64 63)).toInt64)) &&& 1085102592571150095) + ((((((((y0 - ((((y0 : Int64).toUInt64 >>> ((1 : Int32).toInt64.toUInt64 &&& Int64.toUInt64 63)).toInt64) &&& 6148914691236517205)) &&& 3689348814741910323) + (((((y0 - ((((y0 : Int64).toUInt64 >>> ((1 : Int32).toInt64.toUInt64 &&& Int64.toUInt64 63)).toInt64) &&& 6148914691236517205)) : Int64).toUInt64 >>> ((2 : Int32).toInt64.toUInt64 &&& Int64.toUInt64 63)).toInt64) &&& 3689348814741910323)) + ((((((y0 - ((((y0 : Int64).toUInt64 >>> ((1 : Int32).toInt64.toUInt64 &&& Int64.toUInt64 63)).toInt64) &&& 6148914691236517205)) &&& 3689348814741910323) + (((((y0 - ((((y0 : Int64).toUInt64 >>> ((1 : Int32).toInt64.toUInt64 &&& Int64.toUInt64 63)).toInt64) &&& 6148914691236517205)) : Int64).toUInt64 >>> ((2 : Int32).toInt64.toUInt64 &&& Int64.toUInt64 63)).toInt64) &&& 3689348814741910323)) : Int64).toUInt64 >>> ((4 : Int32).toInt64.toUInt64 &&& Int64.toUInt64 63)).toInt64)) &&& 1085102592571150095) : Int64).toUInt64 >>> ((8 : Int32).toInt64.toUInt64 &&& Int64.toUInt64 63)).toInt64)) : Int64).toUInt64 >>> ((16 : Int32).toInt64.toUInt64 &&& Int64.toUInt64 63)).toInt64)))]) hx hb dJ13_bitCount_95d88_47 rfl hl (by decide) rfl (fun ls hl => ?_)
  refine lv_lload_n hx hb dJ13_bitCount_95d88_48 rfl (lv_at hl 0 rfl) ?_
  refine lv_lload_n hx hb dJ13_bitCount_95d88_49 rfl (lv_at hl 0 rfl) ?_
  refine lv_bipush (v := 32) hx hb dJ13_bitCount_95d88_50 (by decide) ?_
  refine lv_lushr (v := ((((((((((y0 - ((((y0 : Int64).toUInt64 >>> ((1 : Int32).toInt64.toUInt64 &&& Int64.toUInt64 63)).toInt64) &&& 6148914691236517205)) &&& 3689348814741910323) + (((((y0 - ((((y0 : Int64).toUInt64 >>> ((1 : Int32).toInt64.toUInt64 &&& Int64.toUInt64 63)).toInt64) &&& 6148914691236517205)) : Int64).toUInt64 >>> ((2 : Int32).toInt64.toUInt64 &&& Int64.toUInt64 63)).toInt64) &&& 3689348814741910323)) + ((((((y0 - ((((y0 : Int64).toUInt64 >>> ((1 : Int32).toInt64.toUInt64 &&& Int64.toUInt64 63)).toInt64) &&& 6148914691236517205)) &&& 3689348814741910323) + (((((y0 - ((((y0 : Int64).toUInt64 >>> ((1 : Int32).toInt64.toUInt64 &&& Int64.toUInt64 63)).toInt64) &&& 6148914691236517205)) : Int64).toUInt64 >>> ((2 : Int32).toInt64.toUInt64 &&& Int64.toUInt64 63)).toInt64) &&& 3689348814741910323)) : Int64).toUInt64 >>> ((4 : Int32).toInt64.toUInt64 &&& Int64.toUInt64 63)).toInt64)) &&& 1085102592571150095) + ((((((((y0 - ((((y0 : Int64).toUInt64 >>> ((1 : Int32).toInt64.toUInt64 &&& Int64.toUInt64 63)).toInt64) &&& 6148914691236517205)) &&& 3689348814741910323) + (((((y0 - ((((y0 : Int64).toUInt64 >>> ((1 : Int32).toInt64.toUInt64 &&& Int64.toUInt64 63)).toInt64) &&& 6148914691236517205)) : Int64).toUInt64 >>> ((2 : Int32).toInt64.toUInt64 &&& Int64.toUInt64 63)).toInt64) &&& 3689348814741910323)) + ((((((y0 - ((((y0 : Int64).toUInt64 >>> ((1 : Int32).toInt64.toUInt64 &&& Int64.toUInt64 63)).toInt64) &&& 6148914691236517205)) &&& 3689348814741910323) + (((((y0 - ((((y0 : Int64).toUInt64 >>> ((1 : Int32).toInt64.toUInt64 &&& Int64.toUInt64 63)).toInt64) &&& 6148914691236517205)) : Int64).toUInt64 >>> ((2 : Int32).toInt64.toUInt64 &&& Int64.toUInt64 63)).toInt64) &&& 3689348814741910323)) : Int64).toUInt64 >>> ((4 : Int32).toInt64.toUInt64 &&& Int64.toUInt64 63)).toInt64)) &&& 1085102592571150095) : Int64).toUInt64 >>> ((8 : Int32).toInt64.toUInt64 &&& Int64.toUInt64 63)).toInt64)) + (((((((((y0 - ((((y0 : Int64).toUInt64 >>> ((1 : Int32).toInt64.toUInt64 &&& Int64.toUInt64 63)).toInt64) &&& 6148914691236517205)) &&& 3689348814741910323) + (((((y0 - ((((y0 : Int64).toUInt64 >>> ((1 : Int32).toInt64.toUInt64 &&& Int64.toUInt64 63)).toInt64) &&& 6148914691236517205)) : Int64).toUInt64 >>> ((2 : Int32).toInt64.toUInt64 &&& Int64.toUInt64 63)).toInt64) &&& 3689348814741910323)) + ((((((y0 - ((((y0 : Int64).toUInt64 >>> ((1 : Int32).toInt64.toUInt64 &&& Int64.toUInt64 63)).toInt64) &&& 6148914691236517205)) &&& 3689348814741910323) + (((((y0 - ((((y0 : Int64).toUInt64 >>> ((1 : Int32).toInt64.toUInt64 &&& Int64.toUInt64 63)).toInt64) &&& 6148914691236517205)) : Int64).toUInt64 >>> ((2 : Int32).toInt64.toUInt64 &&& Int64.toUInt64 63)).toInt64) &&& 3689348814741910323)) : Int64).toUInt64 >>> ((4 : Int32).toInt64.toUInt64 &&& Int64.toUInt64 63)).toInt64)) &&& 1085102592571150095) + ((((((((y0 - ((((y0 : Int64).toUInt64 >>> ((1 : Int32).toInt64.toUInt64 &&& Int64.toUInt64 63)).toInt64) &&& 6148914691236517205)) &&& 3689348814741910323) + (((((y0 - ((((y0 : Int64).toUInt64 >>> ((1 : Int32).toInt64.toUInt64 &&& Int64.toUInt64 63)).toInt64) &&& 6148914691236517205)) : Int64).toUInt64 >>> ((2 : Int32).toInt64.toUInt64 &&& Int64.toUInt64 63)).toInt64) &&& 3689348814741910323)) + ((((((y0 - ((((y0 : Int64).toUInt64 >>> ((1 : Int32).toInt64.toUInt64 &&& Int64.toUInt64 63)).toInt64) &&& 6148914691236517205)) &&& 3689348814741910323) + (((((y0 - ((((y0 : Int64).toUInt64 >>> ((1 : Int32).toInt64.toUInt64 &&& Int64.toUInt64 63)).toInt64) &&& 6148914691236517205)) : Int64).toUInt64 >>> ((2 : Int32).toInt64.toUInt64 &&& Int64.toUInt64 63)).toInt64) &&& 3689348814741910323)) : Int64).toUInt64 >>> ((4 : Int32).toInt64.toUInt64 &&& Int64.toUInt64 63)).toInt64)) &&& 1085102592571150095) : Int64).toUInt64 >>> ((8 : Int32).toInt64.toUInt64 &&& Int64.toUInt64 63)).toInt64)) : Int64).toUInt64 >>> ((16 : Int32).toInt64.toUInt64 &&& Int64.toUInt64 63)).toInt64)) : Int64).toUInt64 >>> ((32 : Int32).toInt64.toUInt64 &&& Int64.toUInt64 63)).toInt64)) hx hb dJ13_bitCount_95d88_52 rfl ?_
  refine lv_ladd hx hb dJ13_bitCount_95d88_53 ?_
  refine lv_lstore_n (lv' := [(0, .long ((((((((y0 - ((((y0 : Int64).toUInt64 >>> ((1 : Int32).toInt64.toUInt64 &&& Int64.toUInt64 63)).toInt64) &&& 6148914691236517205)) &&& 3689348814741910323) + (((((y0 - ((((y0 : Int64).toUInt64 >>> ((1 : Int32).toInt64.toUInt64 &&& Int64.toUInt64 63)).toInt64) &&& 6148914691236517205)) : Int64).toUInt64 >>> ((2 : Int32).toInt64.toUInt64 &&& Int64.toUInt64 63)).toInt64) &&& 3689348814741910323)) + ((((((y0 - ((((y0 : Int64).toUInt64 >>> ((1 : Int32).toInt64.toUInt64 &&& Int64.toUInt64 63)).toInt64) &&& 6148914691236517205)) &&& 3689348814741910323) + (((((y0 - ((((y0 : Int64).toUInt64 >>> ((1 : Int32).toInt64.toUInt64 &&& Int64.toUInt64 63)).toInt64) &&& 6148914691236517205)) : Int64).toUInt64 >>> ((2 : Int32).toInt64.toUInt64 &&& Int64.toUInt64 63)).toInt64) &&& 3689348814741910323)) : Int64).toUInt64 >>> ((4 : Int32).toInt64.toUInt64 &&& Int64.toUInt64 63)).toInt64)) &&& 1085102592571150095) + ((((((((y0 - ((((y0 : Int64).toUInt64 >>> ((1 : Int32).toInt64.toUInt64 &&& Int64.toUInt64 63)).toInt64) &&& 6148914691236517205)) &&& 3689348814741910323) + (((((y0 - ((((y0 : Int64).toUInt64 >>> ((1 : Int32).toInt64.toUInt64 &&& Int64.toUInt64 63)).toInt64) &&& 6148914691236517205)) : Int64).toUInt64 >>> ((2 : Int32).toInt64.toUInt64 &&& Int64.toUInt64 63)).toInt64) &&& 3689348814741910323)) + ((((((y0 - ((((y0 : Int64).toUInt64 >>> ((1 : Int32).toInt64.toUInt64 &&& Int64.toUInt64 63)).toInt64) &&& 6148914691236517205)) &&& 3689348814741910323) + (((((y0 - ((((y0 : Int64).toUInt64 >>> ((1 : Int32).toInt64.toUInt64 &&& Int64.toUInt64 63)).toInt64) &&& 6148914691236517205)) : Int64).toUInt64 >>> ((2 : Int32).toInt64.toUInt64 &&& Int64.toUInt64 63)).toInt64) &&& 3689348814741910323)) : Int64).toUInt64 >>> ((4 : Int32).toInt64.toUInt64 &&& Int64.toUInt64 63)).toInt64)) &&& 1085102592571150095) : Int64).toUInt64 >>> ((8 : Int32).toInt64.toUInt64 &&& Int64.toUInt64 63)).toInt64)) + (((((((((y0 - ((((y0 : Int64).toUInt64 >>> ((1 : Int32).toInt64.toUInt64 &&& Int64.toUInt64 63)).toInt64) &&& 6148914691236517205)) &&& 3689348814741910323) + (((((y0 - ((((y0 : Int64).toUInt64 >>> ((1 : Int32).toInt64.toUInt64 &&& Int64.toUInt64 63)).toInt64) &&& 6148914691236517205)) : Int64).toUInt64 >>> ((2 : Int32).toInt64.toUInt64 &&& Int64.toUInt64 63)).toInt64) &&& 3689348814741910323)) + ((((((y0 - ((((y0 : Int64).toUInt64 >>> ((1 : Int32).toInt64.toUInt64 &&& Int64.toUInt64 63)).toInt64) &&& 6148914691236517205)) &&& 3689348814741910323) + (((((y0 - ((((y0 : Int64).toUInt64 >>> ((1 : Int32).toInt64.toUInt64 &&& Int64.toUInt64 63)).toInt64) &&& 6148914691236517205)) : Int64).toUInt64 >>> ((2 : Int32).toInt64.toUInt64 &&& Int64.toUInt64 63)).toInt64) &&& 3689348814741910323)) : Int64).toUInt64 >>> ((4 : Int32).toInt64.toUInt64 &&& Int64.toUInt64 63)).toInt64)) &&& 1085102592571150095) + ((((((((y0 - ((((y0 : Int64).toUInt64 >>> ((1 : Int32).toInt64.toUInt64 &&& Int64.toUInt64 63)).toInt64) &&& 6148914691236517205)) &&& 3689348814741910323) + (((((y0 - ((((y0 : Int64).toUInt64 >>> ((1 : Int32).toInt64.toUInt64 &&& Int64.toUInt64 63)).toInt64) &&& 6148914691236517205)) : Int64).toUInt64 >>> ((2 : Int32).toInt64.toUInt64 &&& Int64.toUInt64 63)).toInt64) &&& 3689348814741910323)) + ((((((y0 - ((((y0 : Int64).toUInt64 >>> ((1 : Int32).toInt64.toUInt64 &&& Int64.toUInt64 63)).toInt64) &&& 6148914691236517205)) &&& 3689348814741910323) + (((((y0 - ((((y0 : Int64).toUInt64 >>> ((1 : Int32).toInt64.toUInt64 &&& Int64.toUInt64 63)).toInt64) &&& 6148914691236517205)) : Int64).toUInt64 >>> ((2 : Int32).toInt64.toUInt64 &&& Int64.toUInt64 63)).toInt64) &&& 3689348814741910323)) : Int64).toUInt64 >>> ((4 : Int32).toInt64.toUInt64 &&& Int64.toUInt64 63)).toInt64)) &&& 1085102592571150095) : Int64).toUInt64 >>> ((8 : Int32).toInt64.toUInt64 &&& Int64.toUInt64 63)).toInt64)) : Int64).toUInt64 >>> ((16 : Int32).toInt64.toUInt64 &&& Int64.toUInt64 63)).toInt64)) + ((((((((((y0 - ((((y0 : Int64).toUInt64 >>> ((1 : Int32).toInt64.toUInt64 &&& Int64.toUInt64 63)).toInt64) &&& 6148914691236517205)) &&& 3689348814741910323) + (((((y0 - ((((y0 : Int64).toUInt64 >>> ((1 : Int32).toInt64.toUInt64 &&& Int64.toUInt64 63)).toInt64) &&& 6148914691236517205)) : Int64).toUInt64 >>> ((2 : Int32).toInt64.toUInt64 &&& Int64.toUInt64 63)).toInt64) &&& 3689348814741910323)) + ((((((y0 - ((((y0 : Int64).toUInt64 >>> ((1 : Int32).toInt64.toUInt64 &&& Int64.toUInt64 63)).toInt64) &&& 6148914691236517205)) &&& 3689348814741910323) + (((((y0 - ((((y0 : Int64).toUInt64 >>> ((1 : Int32).toInt64.toUInt64 &&& Int64.toUInt64 63)).toInt64) &&& 6148914691236517205)) : Int64).toUInt64 >>> ((2 : Int32).toInt64.toUInt64 &&& Int64.toUInt64 63)).toInt64) &&& 3689348814741910323)) : Int64).toUInt64 >>> ((4 : Int32).toInt64.toUInt64 &&& Int64.toUInt64 63)).toInt64)) &&& 1085102592571150095) + ((((((((y0 - ((((y0 : Int64).toUInt64 >>> ((1 : Int32).toInt64.toUInt64 &&& Int64.toUInt64 63)).toInt64) &&& 6148914691236517205)) &&& 3689348814741910323) + (((((y0 - ((((y0 : Int64).toUInt64 >>> ((1 : Int32).toInt64.toUInt64 &&& Int64.toUInt64 63)).toInt64) &&& 6148914691236517205)) : Int64).toUInt64 >>> ((2 : Int32).toInt64.toUInt64 &&& Int64.toUInt64 63)).toInt64) &&& 3689348814741910323)) + ((((((y0 - ((((y0 : Int64).toUInt64 >>> ((1 : Int32).toInt64.toUInt64 &&& Int64.toUInt64 63)).toInt64) &&& 6148914691236517205)) &&& 3689348814741910323) + (((((y0 - ((((y0 : Int64).toUInt64 >>> ((1 : Int32).toInt64.toUInt64 &&& Int64.toUInt64 63)).toInt64) &&& 6148914691236517205)) : Int64).toUInt64 >>> ((2 : Int32).toInt64.toUInt64 &&& Int64.toUInt64 63)).toInt64) &&& 3689348814741910323)) : Int64).toUInt64 >>> ((4 : Int32).toInt64.toUInt64 &&& Int64.toUInt64 63)).toInt64)) &&& 1085102592571150095) : Int64).toUInt64 >>> ((8 : Int32).toInt64.toUInt64 &&& Int64.toUInt64 63)).toInt64)) + (((((((((y0 - ((((y0 : Int64).toUInt64 >>> ((1 : Int32).toInt64.toUInt64 &&& Int64.toUInt64 63)).toInt64) &&& 6148914691236517205)) &&& 3689348814741910323) + (((((y0 - ((((y0 : Int64).toUInt64 >>> ((1 : Int32).toInt64.toUInt64 &&& Int64.toUInt64 63)).toInt64) &&& 6148914691236517205)) : Int64).toUInt64 >>> ((2 : Int32).toInt64.toUInt64 &&& Int64.toUInt64 63)).toInt64) &&& 3689348814741910323)) + ((((((y0 - ((((y0 : Int64).toUInt64 >>> ((1 : Int32).toInt64.toUInt64 &&& Int64.toUInt64 63)).toInt64) &&& 6148914691236517205)) &&& 3689348814741910323) + (((((y0 - ((((y0 : Int64).toUInt64 >>> ((1 : Int32).toInt64.toUInt64 &&& Int64.toUInt64 63)).toInt64) &&& 6148914691236517205)) : Int64).toUInt64 >>> ((2 : Int32).toInt64.toUInt64 &&& Int64.toUInt64 63)).toInt64) &&& 3689348814741910323)) : Int64).toUInt64 >>> ((4 : Int32).toInt64.toUInt64 &&& Int64.toUInt64 63)).toInt64)) &&& 1085102592571150095) + ((((((((y0 - ((((y0 : Int64).toUInt64 >>> ((1 : Int32).toInt64.toUInt64 &&& Int64.toUInt64 63)).toInt64) &&& 6148914691236517205)) &&& 3689348814741910323) + (((((y0 - ((((y0 : Int64).toUInt64 >>> ((1 : Int32).toInt64.toUInt64 &&& Int64.toUInt64 63)).toInt64) &&& 6148914691236517205)) : Int64).toUInt64 >>> ((2 : Int32).toInt64.toUInt64 &&& Int64.toUInt64 63)).toInt64) &&& 3689348814741910323)) + ((((((y0 - ((((y0 : Int64).toUInt64 >>> ((1 : Int32).toInt64.toUInt64 &&& Int64.toUInt64 63)).toInt64) &&& 6148914691236517205)) &&& 3689348814741910323) + (((((y0 - ((((y0 : Int64).toUInt64 >>> ((1 : Int32).toInt64.toUInt64 &&& Int64.toUInt64 63)).toInt64) &&& 6148914691236517205)) : Int64).toUInt64 >>> ((2 : Int32).toInt64.toUInt64 &&& Int64.toUInt64 63)).toInt64) &&& 3689348814741910323)) : Int64).toUInt64 >>> ((4 : Int32).toInt64.toUInt64 &&& Int64.toUInt64 63)).toInt64)) &&& 1085102592571150095) : Int64).toUInt64 >>> ((8 : Int32).toInt64.toUInt64 &&& Int64.toUInt64 63)).toInt64)) : Int64).toUInt64 >>> ((16 : Int32).toInt64.toUInt64 &&& Int64.toUInt64 63)).toInt64)) : Int64).toUInt64 >>> ((32 : Int32).toInt64.toUInt64 &&& Int64.toUInt64 63)).toInt64)))]) hx hb dJ13_bitCount_95d88_54 rfl hl (by decide) rfl (fun ls hl => ?_)
  refine lv_lload_n hx hb dJ13_bitCount_95d88_55 rfl (lv_at hl 0 rfl) ?_
  refine lv_l2i (v := (((((((((y0 - ((((y0 : Int64).toUInt64 >>> ((1 : Int32).toInt64.toUInt64 &&& Int64.toUInt64 63)).toInt64) &&& 6148914691236517205)) &&& 3689348814741910323) + (((((y0 - ((((y0 : Int64).toUInt64 >>> ((1 : Int32).toInt64.toUInt64 &&& Int64.toUInt64 63)).toInt64) &&& 6148914691236517205)) : Int64).toUInt64 >>> ((2 : Int32).toInt64.toUInt64 &&& Int64.toUInt64 63)).toInt64) &&& 3689348814741910323)) + ((((((y0 - ((((y0 : Int64).toUInt64 >>> ((1 : Int32).toInt64.toUInt64 &&& Int64.toUInt64 63)).toInt64) &&& 6148914691236517205)) &&& 3689348814741910323) + (((((y0 - ((((y0 : Int64).toUInt64 >>> ((1 : Int32).toInt64.toUInt64 &&& Int64.toUInt64 63)).toInt64) &&& 6148914691236517205)) : Int64).toUInt64 >>> ((2 : Int32).toInt64.toUInt64 &&& Int64.toUInt64 63)).toInt64) &&& 3689348814741910323)) : Int64).toUInt64 >>> ((4 : Int32).toInt64.toUInt64 &&& Int64.toUInt64 63)).toInt64)) &&& 1085102592571150095) + ((((((((y0 - ((((y0 : Int64).toUInt64 >>> ((1 : Int32).toInt64.toUInt64 &&& Int64.toUInt64 63)).toInt64) &&& 6148914691236517205)) &&& 3689348814741910323) + (((((y0 - ((((y0 : Int64).toUInt64 >>> ((1 : Int32).toInt64.toUInt64 &&& Int64.toUInt64 63)).toInt64) &&& 6148914691236517205)) : Int64).toUInt64 >>> ((2 : Int32).toInt64.toUInt64 &&& Int64.toUInt64 63)).toInt64) &&& 3689348814741910323)) + ((((((y0 - ((((y0 : Int64).toUInt64 >>> ((1 : Int32).toInt64.toUInt64 &&& Int64.toUInt64 63)).toInt64) &&& 6148914691236517205)) &&& 3689348814741910323) + (((((y0 - ((((y0 : Int64).toUInt64 >>> ((1 : Int32).toInt64.toUInt64 &&& Int64.toUInt64 63)).toInt64) &&& 6148914691236517205)) : Int64).toUInt64 >>> ((2 : Int32).toInt64.toUInt64 &&& Int64.toUInt64 63)).toInt64) &&& 3689348814741910323)) : Int64).toUInt64 >>> ((4 : Int32).toInt64.toUInt64 &&& Int64.toUInt64 63)).toInt64)) &&& 1085102592571150095) : Int64).toUInt64 >>> ((8 : Int32).toInt64.toUInt64 &&& Int64.toUInt64 63)).toInt64)) + (((((((((y0 - ((((y0 : Int64).toUInt64 >>> ((1 : Int32).toInt64.toUInt64 &&& Int64.toUInt64 63)).toInt64) &&& 6148914691236517205)) &&& 3689348814741910323) + (((((y0 - ((((y0 : Int64).toUInt64 >>> ((1 : Int32).toInt64.toUInt64 &&& Int64.toUInt64 63)).toInt64) &&& 6148914691236517205)) : Int64).toUInt64 >>> ((2 : Int32).toInt64.toUInt64 &&& Int64.toUInt64 63)).toInt64) &&& 3689348814741910323)) + ((((((y0 - ((((y0 : Int64).toUInt64 >>> ((1 : Int32).toInt64.toUInt64 &&& Int64.toUInt64 63)).toInt64) &&& 6148914691236517205)) &&& 3689348814741910323) + (((((y0 - ((((y0 : Int64).toUInt64 >>> ((1 : Int32).toInt64.toUInt64 &&& Int64.toUInt64 63)).toInt64) &&& 6148914691236517205)) : Int64).toUInt64 >>> ((2 : Int32).toInt64.toUInt64 &&& Int64.toUInt64 63)).toInt64) &&& 3689348814741910323)) : Int64).toUInt64 >>> ((4 : Int32).toInt64.toUInt64 &&& Int64.toUInt64 63)).toInt64)) &&& 1085102592571150095) + ((((((((y0 - ((((y0 : Int64).toUInt64 >>> ((1 : Int32).toInt64.toUInt64 &&& Int64.toUInt64 63)).toInt64) &&& 6148914691236517205)) &&& 3689348814741910323) + (((((y0 - ((((y0 : Int64).toUInt64 >>> ((1 : Int32).toInt64.toUInt64 &&& Int64.toUInt64 63)).toInt64) &&& 6148914691236517205)) : Int64).toUInt64 >>> ((2 : Int32).toInt64.toUInt64 &&& Int64.toUInt64 63)).toInt64) &&& 3689348814741910323)) + ((((((y0 - ((((y0 : Int64).toUInt64 >>> ((1 : Int32).toInt64.toUInt64 &&& Int64.toUInt64 63)).toInt64) &&& 6148914691236517205)) &&& 3689348814741910323) + (((((y0 - ((((y0 : Int64).toUInt64 >>> ((1 : Int32).toInt64.toUInt64 &&& Int64.toUInt64 63)).toInt64) &&& 6148914691236517205)) : Int64).toUInt64 >>> ((2 : Int32).toInt64.toUInt64 &&& Int64.toUInt64 63)).toInt64) &&& 3689348814741910323)) : Int64).toUInt64 >>> ((4 : Int32).toInt64.toUInt64 &&& Int64.toUInt64 63)).toInt64)) &&& 1085102592571150095) : Int64).toUInt64 >>> ((8 : Int32).toInt64.toUInt64 &&& Int64.toUInt64 63)).toInt64)) : Int64).toUInt64 >>> ((16 : Int32).toInt64.toUInt64 &&& Int64.toUInt64 63)).toInt64)) + ((((((((((y0 - ((((y0 : Int64).toUInt64 >>> ((1 : Int32).toInt64.toUInt64 &&& Int64.toUInt64 63)).toInt64) &&& 6148914691236517205)) &&& 3689348814741910323) + (((((y0 - ((((y0 : Int64).toUInt64 >>> ((1 : Int32).toInt64.toUInt64 &&& Int64.toUInt64 63)).toInt64) &&& 6148914691236517205)) : Int64).toUInt64 >>> ((2 : Int32).toInt64.toUInt64 &&& Int64.toUInt64 63)).toInt64) &&& 3689348814741910323)) + ((((((y0 - ((((y0 : Int64).toUInt64 >>> ((1 : Int32).toInt64.toUInt64 &&& Int64.toUInt64 63)).toInt64) &&& 6148914691236517205)) &&& 3689348814741910323) + (((((y0 - ((((y0 : Int64).toUInt64 >>> ((1 : Int32).toInt64.toUInt64 &&& Int64.toUInt64 63)).toInt64) &&& 6148914691236517205)) : Int64).toUInt64 >>> ((2 : Int32).toInt64.toUInt64 &&& Int64.toUInt64 63)).toInt64) &&& 3689348814741910323)) : Int64).toUInt64 >>> ((4 : Int32).toInt64.toUInt64 &&& Int64.toUInt64 63)).toInt64)) &&& 1085102592571150095) + ((((((((y0 - ((((y0 : Int64).toUInt64 >>> ((1 : Int32).toInt64.toUInt64 &&& Int64.toUInt64 63)).toInt64) &&& 6148914691236517205)) &&& 3689348814741910323) + (((((y0 - ((((y0 : Int64).toUInt64 >>> ((1 : Int32).toInt64.toUInt64 &&& Int64.toUInt64 63)).toInt64) &&& 6148914691236517205)) : Int64).toUInt64 >>> ((2 : Int32).toInt64.toUInt64 &&& Int64.toUInt64 63)).toInt64) &&& 3689348814741910323)) + ((((((y0 - ((((y0 : Int64).toUInt64 >>> ((1 : Int32).toInt64.toUInt64 &&& Int64.toUInt64 63)).toInt64) &&& 6148914691236517205)) &&& 3689348814741910323) + (((((y0 - ((((y0 : Int64).toUInt64 >>> ((1 : Int32).toInt64.toUInt64 &&& Int64.toUInt64 63)).toInt64) &&& 6148914691236517205)) : Int64).toUInt64 >>> ((2 : Int32).toInt64.toUInt64 &&& Int64.toUInt64 63)).toInt64) &&& 3689348814741910323)) : Int64).toUInt64 >>> ((4 : Int32).toInt64.toUInt64 &&& Int64.toUInt64 63)).toInt64)) &&& 1085102592571150095) : Int64).toUInt64 >>> ((8 : Int32).toInt64.toUInt64 &&& Int64.toUInt64 63)).toInt64)) + (((((((((y0 - ((((y0 : Int64).toUInt64 >>> ((1 : Int32).toInt64.toUInt64 &&& Int64.toUInt64 63)).toInt64) &&& 6148914691236517205)) &&& 3689348814741910323) + (((((y0 - ((((y0 : Int64).toUInt64 >>> ((1 : Int32).toInt64.toUInt64 &&& Int64.toUInt64 63)).toInt64) &&& 6148914691236517205)) : Int64).toUInt64 >>> ((2 : Int32).toInt64.toUInt64 &&& Int64.toUInt64 63)).toInt64) &&& 3689348814741910323)) + ((((((y0 - ((((y0 : Int64).toUInt64 >>> ((1 : Int32).toInt64.toUInt64 &&& Int64.toUInt64 63)).toInt64) &&& 6148914691236517205)) &&& 3689348814741910323) + (((((y0 - ((((y0 : Int64).toUInt64 >>> ((1 : Int32).toInt64.toUInt64 &&& Int64.toUInt64 63)).toInt64) &&& 6148914691236517205)) : Int64).toUInt64 >>> ((2 : Int32).toInt64.toUInt64 &&& Int64.toUInt64 63)).toInt64) &&& 3689348814741910323)) : Int64).toUInt64 >>> ((4 : Int32).toInt64.toUInt64 &&& Int64.toUInt64 63)).toInt64)) &&& 1085102592571150095) + ((((((((y0 - ((((y0 : Int64).toUInt64 >>> ((1 : Int32).toInt64.toUInt64 &&& Int64.toUInt64 63)).toInt64) &&& 6148914691236517205)) &&& 3689348814741910323) + (((((y0 - ((((y0 : Int64).toUInt64 >>> ((1 : Int32).toInt64.toUInt64 &&& Int64.toUInt64 63)).toInt64) &&& 6148914691236517205)) : Int64).toUInt64 >>> ((2 : Int32).toInt64.toUInt64 &&& Int64.toUInt64 63)).toInt64) &&& 3689348814741910323)) + ((((((y0 - ((((y0 : Int64).toUInt64 >>> ((1 : Int32).toInt64.toUInt64 &&& Int64.toUInt64 63)).toInt64) &&& 6148914691236517205)) &&& 3689348814741910323) + (((((y0 - ((((y0 : Int64).toUInt64 >>> ((1 : Int32).toInt64.toUInt64 &&& Int64.toUInt64 63)).toInt64) &&& 6148914691236517205)) : Int64).toUInt64 >>> ((2 : Int32).toInt64.toUInt64 &&& Int64.toUInt64 63)).toInt64) &&& 3689348814741910323)) : Int64).toUInt64 >>> ((4 : Int32).toInt64.toUInt64 &&& Int64.toUInt64 63)).toInt64)) &&& 1085102592571150095) : Int64).toUInt64 >>> ((8 : Int32).toInt64.toUInt64 &&& Int64.toUInt64 63)).toInt64)) : Int64).toUInt64 >>> ((16 : Int32).toInt64.toUInt64 &&& Int64.toUInt64 63)).toInt64)) : Int64).toUInt64 >>> ((32 : Int32).toInt64.toUInt64 &&& Int64.toUInt64 63)).toInt64)) : Int64).toInt32) hx hb dJ13_bitCount_95d88_56 rfl ?_
  refine lv_bipush (v := 127) hx hb dJ13_bitCount_95d88_57 (by decide) ?_
  refine lv_iand hx hb dJ13_bitCount_95d88_59 ?_
  cases hM
  exact q_reti E hw dJ13_bitCount_95d88_60
set_option maxRecDepth 100000 in
set_option maxHeartbeats 4000000 in
theorem s_X1_tie_2 (l : Launch) (D : va_G) (cA : Nat → ClassId) (tS : Nat → Nat) (A : Nat → Prop) (h : Nat → Nat) (L : Nat) (F : va_W) (N : Nat) {p : Program} {e : Env} {s : State} {m : MethodId} {args : Array Value} {below : List Frame} {meth : Method} {c : Code} (E : Ev p cX1_tie 4 (some .int) RX1 (Cond.code yX1_tie cX1_tie 4 (some .int) :: bw) D cA tS A s m args meth c) : ∀ (n : Nat) (x1 : Int32) (x2 : Int32) (x3 : Int32) (σ : Sg) (r0 : Int32) (s0 : Sg) (hM : f_X1_tie_2 N L n x1 x2 x3 σ = some (r0, s0)) (H : Heap) (locs : List Loc) (hw : Wd D A (wK cA h σ ++ (wLg cA h σ L ++ (wC cA h σ ++ F))) s.heap H locs) (ls : Array Slot) (hl : lv_has ls 4 [(0, .ref (h 42)), (1, .int x1), (2, .int x2), (3, .int x3)]), W p l e ({ frames := 1, cells := 0, slots := 0, locals := 24 } : Room) s m args below meth c H locs 0 0 (MQ below (QW D A (some (.int r0)) (wK cA h s0 ++ (wLg cA h s0 L ++ (wC cA h s0 ++ F)))) args s 0 0 A) (F0 m 2 ls []) := by
  have hx := E.1.1
  have hb := E.1.2.1
  intro n
  induction n with
  | zero =>
    intro x1 x2 x3 σ r0 s0 hM
    cases hM
  | succ n ih =>
    intro x1 x2 x3 σ r0 s0 hM H locs hw ls hl
    rw [f_X1_tie_2] at hM
    refine lv_iload_n hx hb dX1_tie_2 rfl (lv_at hl 3 rfl) ?_
    refine lv_aload_n hx hb dX1_tie_3 rfl (lv_at hl 0 rfl) ?_
    refine q_get (C := RX1) (T := TX1) (N := 6) (ci := 1) E (fun w h => List.mem_cons_of_mem _ (inX1 w h)) hw 12 rfl rfl 3 (by decide) (List.mem_cons_of_mem _ tb_272) (v := .ref (h 44)) rfl dX1_tie_4 ?_
    refine q_get (C := RX7) (T := TX7) (N := 15) (ci := 7) E (fun w h => List.mem_cons_of_mem _ (inX7 w h)) hw 16 rfl rfl 14 (by decide) (List.mem_cons_of_mem _ tb_185) (v := .int (σ 15 0)) rfl dX1_tie_7 ?_
    refine lv_icmp_ge (tgt := 42) hx hb dX1_tie_10 (by decide) (fun c1 => ?_) (fun c1 => ?_)
    · replace hM := i_pos hM c1
      refine lv_aload_n hx hb dX1_tie_42 rfl (lv_at hl 0 rfl) ?_
      refine q_get (C := RX1) (T := TX1) (N := 6) (ci := 1) E (fun w h => List.mem_cons_of_mem _ (inX1 w h)) hw 12 rfl rfl 3 (by decide) (List.mem_cons_of_mem _ tb_272) (v := .ref (h 44)) rfl dX1_tie_43 ?_
      refine q_get (C := RX7) (T := TX7) (N := 15) (ci := 7) E (fun w h => List.mem_cons_of_mem _ (inX7 w h)) hw 16 rfl rfl 5 (by decide) (List.mem_cons_of_mem _ tb_160) (v := .ref (h 21)) rfl dX1_tie_46 ?_
      refine lv_iload_n hx hb dX1_tie_49 rfl (lv_at hl 1 rfl) ?_
      refine lv_iconst (v := 4) hx hb dX1_tie_50 (by decide) ?_
      obtain ⟨g2, hM⟩ := g_some hM
      refine q_ast E hw 22 (n := 60) rfl g2 (wK cA h (up σ 21 (ix x1) 4) ++ (wLg cA h (up σ 21 (ix x1) 4) L ++ (wC cA h (up σ 21 (ix x1) 4) ++ F))) st_K_Lg_C_21 dX1_tie_51 (fun H locs hw => ?_)
      refine lv_aload_n hx hb dX1_tie_52 rfl (lv_at hl 0 rfl) ?_
      refine q_get (C := RX1) (T := TX1) (N := 6) (ci := 1) E (fun w h => List.mem_cons_of_mem _ (inX1 w h)) hw 12 rfl rfl 3 (by decide) (List.mem_cons_of_mem _ tb_272) (v := .ref (h 44)) rfl dX1_tie_53 ?_
      refine q_get (C := RX7) (T := TX7) (N := 15) (ci := 7) E (fun w h => List.mem_cons_of_mem _ (inX7 w h)) hw 16 rfl rfl 10 (by decide) (List.mem_cons_of_mem _ tb_174) (v := .ref (h 26)) rfl dX1_tie_56 ?_
      refine lv_iload_n hx hb dX1_tie_59 rfl (lv_at hl 1 rfl) ?_
      refine lv_iload_n hx hb dX1_tie_60 rfl (lv_at hl 2 rfl) ?_
      refine q_ast E hw 27 (n := 60) rfl g2 (wK cA h (up (up σ 21 (ix x1) 4) 26 (ix x1) x2) ++ (wLg cA h (up (up σ 21 (ix x1) 4) 26 (ix x1) x2) L ++ (wC cA h (up (up σ 21 (ix x1) 4) 26 (ix x1) x2) ++ F))) st_K_Lg_C_26 dX1_tie_61 (fun H locs hw => ?_)
      refine lv_aload_n hx hb dX1_tie_62 rfl (lv_at hl 0 rfl) ?_
      refine q_get (C := RX1) (T := TX1) (N := 6) (ci := 1) E (fun w h => List.mem_cons_of_mem _ (inX1 w h)) hw 12 rfl rfl 4 (by decide) (List.mem_cons_of_mem _ tb_274) (v := .ref (h 41)) rfl dX1_tie_63 ?_
      refine lv_aload_n hx hb dX1_tie_66 rfl (lv_at hl 0 rfl) ?_
      refine q_get (C := RX1) (T := TX1) (N := 6) (ci := 1) E (fun w h => List.mem_cons_of_mem _ (inX1 w h)) hw 12 rfl rfl 5 (by decide) (List.mem_cons_of_mem _ tb_276) (v := .int (σ 12 0)) (q_fld (congrFun ((up_ne (up σ 21 (ix x1) 4) 26 (ix x1) x2 12 (by decide)).trans (up_ne σ 21 (ix x1) 4 12 (by decide))) 0) rfl) dX1_tie_67 ?_
      refine lv_bipush (v := 6) hx hb dX1_tie_70 (by decide) ?_
      refine lv_iload_n hx hb dX1_tie_72 rfl (lv_at hl 1 rfl) ?_
      refine lv_iload_n hx hb dX1_tie_73 rfl (lv_at hl 2 rfl) ?_
      obtain ⟨p3, h4, hM⟩ := b_some hM
      refine q_cvv (As := [.int (σ 12 0), .int 6, .int x1, .int x2]) (rest := []) E hw hl (c_X4_write l D cA tS A h L F (σ 12 0) 6 x1 x2 (up (up σ 21 (ix x1) 4) 26 (ix x1) x2) p3 h4) 4 (bwV bw_c tb_596 tb_597 tb_598 tb_53 tb_599) rfl (by decide +kernel) ⟨Nat.le_of_ble_eq_true rfl, Nat.le_of_ble_eq_true rfl⟩ 7 4 (T := TX4) (N := 5) rfl rfl rfl rfl (Nat.le_of_ble_eq_true rfl) ⟨Nat.zero_le _, Nat.zero_le _⟩ dX1_tie_74 (fun H locs hw => ?_)
      refine lv_aload_n hx hb dX1_tie_77 rfl (lv_at hl 0 rfl) ?_
      refine q_get (C := RX1) (T := TX1) (N := 6) (ci := 1) E (fun w h => List.mem_cons_of_mem _ (inX1 w h)) hw 12 rfl rfl 3 (by decide) (List.mem_cons_of_mem _ tb_272) (v := .ref (h 44)) rfl dX1_tie_78 ?_
      refine lv_iload_n hx hb dX1_tie_81 rfl (lv_at hl 2 rfl) ?_
      obtain ⟨p5, h6, hM⟩ := b_some hM
      refine q_cv (As := [.int x2]) (rest := []) E hw hl (c_X7_twinMask l D cA tS A h L F N x2 p3 p5 h6) 1 (bwV bw_c tb_628 tb_629 tb_630 tb_52 tb_631) rfl (by decide +kernel) ⟨Nat.le_of_ble_eq_true rfl, Nat.le_of_ble_eq_true rfl⟩ 16 7 (T := TX7) (N := 15) rfl rfl rfl rfl (Nat.le_of_ble_eq_true rfl) ⟨Nat.zero_le _, Nat.zero_le _⟩ dX1_tie_82 (fun H locs hw => ?_)
      obtain ⟨p7, h8, hM⟩ := b_some hM
      refine q_cs (As := [.long p5]) (rest := []) E hw hl (c_J13_bitCount_95d88 l D cA tS A (wK cA h p3 ++ (wLg cA h p3 L ++ (wC cA h p3 ++ F))) p5 p7 h8) 1 (bwS bw_c tb_632 tb_633 tb_63 tb_634) rfl (by decide +kernel) ⟨Nat.le_of_ble_eq_true rfl, Nat.le_of_ble_eq_true rfl⟩ rfl rfl (Nat.le_of_ble_eq_true rfl) ⟨Nat.zero_le _, Nat.zero_le _⟩ dX1_tie_85 (fun H locs hw => ?_)
      cases hM
      exact q_reti E hw dX1_tie_88
    · replace hM := i_neg hM c1
      refine lv_aload_n hx hb dX1_tie_13 rfl (lv_at hl 0 rfl) ?_
      refine q_get (C := RX1) (T := TX1) (N := 6) (ci := 1) E (fun w h => List.mem_cons_of_mem _ (inX1 w h)) hw 12 rfl rfl 3 (by decide) (List.mem_cons_of_mem _ tb_272) (v := .ref (h 44)) rfl dX1_tie_14 ?_
      refine q_get (C := RX7) (T := TX7) (N := 15) (ci := 7) E (fun w h => List.mem_cons_of_mem _ (inX7 w h)) hw 16 rfl rfl 10 (by decide) (List.mem_cons_of_mem _ tb_174) (v := .ref (h 26)) rfl dX1_tie_17 ?_
      refine lv_iload_n hx hb dX1_tie_20 rfl (lv_at hl 3 rfl) ?_
      obtain ⟨g9, hM⟩ := g_some hM
      refine q_ald E hw 27 (n := 60) rfl g9 (x := (σ 26 (ix x3))) rfl dX1_tie_21 ?_
      refine lv_iload_n hx hb dX1_tie_22 rfl (lv_at hl 1 rfl) ?_
      refine lv_icmp_ne (tgt := 36) hx hb dX1_tie_23 (by decide) (fun c10 => ?_) (fun c10 => ?_)
      · replace hM := i_neg hM c10
        refine lv_iinc (v := (x3 + 1)) (lv' := [(3, .int (x3 + 1)), (0, .ref (h 42)), (1, .int x1), (2, .int x2)]) hx hb dX1_tie_36 hl (k := 3) rfl rfl (by decide) rfl (fun ls hl => ?_)
        refine lv_goto (tgt := 2) hx hb dX1_tie_39 (by decide) ?_
        exact ih _ _ _ _ _ _ hM _ _ hw _ (lv_sub hl [1, 2, 3, 0] rfl)
      · replace hM := i_pos hM c10
        refine lv_aload_n hx hb dX1_tie_26 rfl (lv_at hl 0 rfl) ?_
        refine q_get (C := RX1) (T := TX1) (N := 6) (ci := 1) E (fun w h => List.mem_cons_of_mem _ (inX1 w h)) hw 12 rfl rfl 3 (by decide) (List.mem_cons_of_mem _ tb_272) (v := .ref (h 44)) rfl dX1_tie_27 ?_
        refine q_get (C := RX7) (T := TX7) (N := 15) (ci := 7) E (fun w h => List.mem_cons_of_mem _ (inX7 w h)) hw 16 rfl rfl 10 (by decide) (List.mem_cons_of_mem _ tb_174) (v := .ref (h 26)) rfl dX1_tie_30 ?_
        refine lv_iload_n hx hb dX1_tie_33 rfl (lv_at hl 3 rfl) ?_
        refine lv_iload_n hx hb dX1_tie_34 rfl (lv_at hl 2 rfl) ?_
        refine q_ast E hw 27 (n := 60) rfl g9 (wK cA h (up σ 26 (ix x3) x2) ++ (wLg cA h (up σ 26 (ix x3) x2) L ++ (wC cA h (up σ 26 (ix x3) x2) ++ F))) st_K_Lg_C_26 dX1_tie_35 (fun H locs hw => ?_)
        refine lv_iinc (v := (x3 + 1)) (lv' := [(3, .int (x3 + 1)), (0, .ref (h 42)), (1, .int x1), (2, .int x2)]) hx hb dX1_tie_36 hl (k := 3) rfl rfl (by decide) rfl (fun ls hl => ?_)
        refine lv_goto (tgt := 2) hx hb dX1_tie_39 (by decide) ?_
        exact ih _ _ _ _ _ _ hM _ _ hw _ (lv_sub hl [1, 2, 3, 0] rfl)
set_option maxRecDepth 100000 in
set_option maxHeartbeats 4000000 in
theorem c_X1_tie (l : Launch) (D : va_G) (cA : Nat → ClassId) (tS : Nat → Nat) (A : Nat → Prop) (h : Nat → Nat) (L : Nat) (F : va_W) (N : Nat) (x1 : Int32) (x2 : Int32) (σ : Sg) (r0 : Int32) (s0 : Sg) (hM : f_X1_tie N L x1 x2 σ = some (r0, s0)) : Ct l yX1_tie (Cond.code yX1_tie cX1_tie 4 (some .int) :: bw) 1 24 D cA tS A [.ref (h 42), .int x1, .int x2] (wK cA h σ ++ (wLg cA h σ L ++ (wC cA h σ ++ F))) (some (.int r0)) (wK cA h s0 ++ (wLg cA h s0 L ++ (wC cA h s0 ++ F))) := by
  refine ct_of (by decide +kernel) (Nat.le_of_ble_eq_true rfl) ?_
  intro p e s m below meth c E hw ls hl
  replace E : Ev p cX1_tie 4 (some .int) RX1 (Cond.code yX1_tie cX1_tie 4 (some .int) :: bw) D cA tS A s m _ meth c := E
  replace hl : lv_has ls 4 [(0, .ref (h 42)), (1, .int x1), (2, .int x2)] := hl
  have hx := E.1.1
  have hb := E.1.2.1
  unfold f_X1_tie at hM
  refine lv_iconst (v := 0) hx hb dX1_tie_0 (by decide) ?_
  refine lv_istore_n (lv' := [(3, .int 0), (0, .ref (h 42)), (1, .int x1), (2, .int x2)]) hx hb dX1_tie_1 rfl hl (by decide) rfl (fun ls hl => ?_)
  exact s_X1_tie_2 l D cA tS A h L F N E N _ _ _ _ _ _ hM _ _ hw _ (lv_sub hl [1, 2, 3, 0] rfl)
set_option maxRecDepth 100000 in
set_option maxHeartbeats 4000000 in
theorem c_X1_untie (l : Launch) (D : va_G) (cA : Nat → ClassId) (tS : Nat → Nat) (A : Nat → Prop) (h : Nat → Nat) (L : Nat) (F : va_W) (x1 : Int32) (σ : Sg) (r0 : Int32) (s0 : Sg) (hM : f_X1_untie L x1 σ = some (r0, s0)) : Ct l yX1_untie (Cond.code yX1_untie cX1_untie 3 (some .int) :: bw) 1 24 D cA tS A [.ref (h 42), .int x1] (wK cA h σ ++ (wLg cA h σ L ++ (wC cA h σ ++ F))) (some (.int r0)) (wK cA h s0 ++ (wLg cA h s0 L ++ (wC cA h s0 ++ F))) := by
  refine ct_of (by decide +kernel) (Nat.le_of_ble_eq_true rfl) ?_
  intro p e s m below meth c E hw ls hl
  replace E : Ev p cX1_untie 3 (some .int) RX1 (Cond.code yX1_untie cX1_untie 3 (some .int) :: bw) D cA tS A s m _ meth c := E
  replace hl : lv_has ls 3 [(0, .ref (h 42)), (1, .int x1)] := hl
  have hx := E.1.1
  have hb := E.1.2.1
  unfold f_X1_untie at hM
  refine lv_aload_n hx hb dX1_untie_0 rfl (lv_at hl 0 rfl) ?_
  refine q_get (C := RX1) (T := TX1) (N := 6) (ci := 1) E (fun w h => List.mem_cons_of_mem _ (inX1 w h)) hw 12 rfl rfl 3 (by decide) (List.mem_cons_of_mem _ tb_272) (v := .ref (h 44)) rfl dX1_untie_1 ?_
  refine q_get (C := RX7) (T := TX7) (N := 15) (ci := 7) E (fun w h => List.mem_cons_of_mem _ (inX7 w h)) hw 16 rfl rfl 10 (by decide) (List.mem_cons_of_mem _ tb_174) (v := .ref (h 26)) rfl dX1_untie_4 ?_
  refine lv_iload_n hx hb dX1_untie_7 rfl (lv_at hl 1 rfl) ?_
  obtain ⟨g1, hM⟩ := g_some hM
  refine q_ald E hw 27 (n := 60) rfl g1 (x := (σ 26 (ix x1))) rfl dX1_untie_8 ?_
  refine lv_istore_n (lv' := [(2, .int (σ 26 (ix x1))), (0, .ref (h 42)), (1, .int x1)]) hx hb dX1_untie_9 rfl hl (by decide) rfl (fun ls hl => ?_)
  refine lv_aload_n hx hb dX1_untie_10 rfl (lv_at hl 1 rfl) ?_
  refine q_get (C := RX1) (T := TX1) (N := 6) (ci := 1) E (fun w h => List.mem_cons_of_mem _ (inX1 w h)) hw 12 rfl rfl 3 (by decide) (List.mem_cons_of_mem _ tb_272) (v := .ref (h 44)) rfl dX1_untie_11 ?_
  refine q_get (C := RX7) (T := TX7) (N := 15) (ci := 7) E (fun w h => List.mem_cons_of_mem _ (inX7 w h)) hw 16 rfl rfl 5 (by decide) (List.mem_cons_of_mem _ tb_160) (v := .ref (h 21)) rfl dX1_untie_14 ?_
  refine lv_iload_n hx hb dX1_untie_17 rfl (lv_at hl 2 rfl) ?_
  refine lv_iconst (v := 0) hx hb dX1_untie_18 (by decide) ?_
  refine q_ast E hw 22 (n := 60) rfl g1 (wK cA h (up σ 21 (ix x1) 0) ++ (wLg cA h (up σ 21 (ix x1) 0) L ++ (wC cA h (up σ 21 (ix x1) 0) ++ F))) st_K_Lg_C_21 dX1_untie_19 (fun H locs hw => ?_)
  refine lv_aload_n hx hb dX1_untie_20 rfl (lv_at hl 1 rfl) ?_
  refine q_get (C := RX1) (T := TX1) (N := 6) (ci := 1) E (fun w h => List.mem_cons_of_mem _ (inX1 w h)) hw 12 rfl rfl 3 (by decide) (List.mem_cons_of_mem _ tb_272) (v := .ref (h 44)) rfl dX1_untie_21 ?_
  refine q_get (C := RX7) (T := TX7) (N := 15) (ci := 7) E (fun w h => List.mem_cons_of_mem _ (inX7 w h)) hw 16 rfl rfl 10 (by decide) (List.mem_cons_of_mem _ tb_174) (v := .ref (h 26)) rfl dX1_untie_24 ?_
  refine lv_iload_n hx hb dX1_untie_27 rfl (lv_at hl 2 rfl) ?_
  refine lv_iconst (v := (-1)) hx hb dX1_untie_28 (by decide) ?_
  refine q_ast E hw 27 (n := 60) rfl g1 (wK cA h (up (up σ 21 (ix x1) 0) 26 (ix x1) (-1)) ++ (wLg cA h (up (up σ 21 (ix x1) 0) 26 (ix x1) (-1)) L ++ (wC cA h (up (up σ 21 (ix x1) 0) 26 (ix x1) (-1)) ++ F))) st_K_Lg_C_26 dX1_untie_29 (fun H locs hw => ?_)
  refine lv_aload_n hx hb dX1_untie_30 rfl (lv_at hl 1 rfl) ?_
  refine q_get (C := RX1) (T := TX1) (N := 6) (ci := 1) E (fun w h => List.mem_cons_of_mem _ (inX1 w h)) hw 12 rfl rfl 4 (by decide) (List.mem_cons_of_mem _ tb_274) (v := .ref (h 41)) rfl dX1_untie_31 ?_
  refine lv_aload_n hx hb dX1_untie_34 rfl (lv_at hl 1 rfl) ?_
  refine q_get (C := RX1) (T := TX1) (N := 6) (ci := 1) E (fun w h => List.mem_cons_of_mem _ (inX1 w h)) hw 12 rfl rfl 5 (by decide) (List.mem_cons_of_mem _ tb_276) (v := .int (σ 12 0)) (q_fld (congrFun ((up_ne (up σ 21 (ix x1) 0) 26 (ix x1) (-1) 12 (by decide)).trans (up_ne σ 21 (ix x1) 0 12 (by decide))) 0) rfl) dX1_untie_35 ?_
  refine lv_bipush (v := 7) hx hb dX1_untie_38 (by decide) ?_
  refine lv_iload_n hx hb dX1_untie_40 rfl (lv_at hl 2 rfl) ?_
  refine lv_iload_n hx hb dX1_untie_41 rfl (lv_at hl 0 rfl) ?_
  obtain ⟨p2, h3, hM⟩ := b_some hM
  refine q_cvv (As := [.int (σ 12 0), .int 7, .int x1, .int (σ 26 (ix x1))]) (rest := []) E hw hl (c_X4_write l D cA tS A h L F (σ 12 0) 7 x1 (σ 26 (ix x1)) (up (up σ 21 (ix x1) 0) 26 (ix x1) (-1)) p2 h3) 4 (bwV bw_c tb_596 tb_597 tb_598 tb_53 tb_599) rfl (by decide +kernel) ⟨Nat.le_of_ble_eq_true rfl, Nat.le_of_ble_eq_true rfl⟩ 7 4 (T := TX4) (N := 5) rfl rfl rfl rfl (Nat.le_of_ble_eq_true rfl) ⟨Nat.zero_le _, Nat.zero_le _⟩ dX1_untie_42 (fun H locs hw => ?_)
  refine lv_iload_n hx hb dX1_untie_45 rfl (lv_at hl 0 rfl) ?_
  cases hM
  exact q_reti E hw dX1_untie_46
set_option maxRecDepth 100000 in
set_option maxHeartbeats 4000000 in
theorem c_X1_rank (l : Launch) (D : va_G) (cA : Nat → ClassId) (tS : Nat → Nat) (A : Nat → Prop) (h : Nat → Nat) (L : Nat) (F : va_W) (x1 : Int32) (x2 : Int32) (σ : Sg) (r0 : Int32) (s0 : Sg) (hM : f_X1_rank x1 x2 σ = some (r0, s0)) : Ct l yX1_rank (Cond.code yX1_rank cX1_rank 4 (some .int) :: bw) 0 0 D cA tS A [.ref (h 42), .int x1, .int x2] (wK cA h σ ++ (wLg cA h σ L ++ (wC cA h σ ++ F))) (some (.int r0)) (wK cA h s0 ++ (wLg cA h s0 L ++ (wC cA h s0 ++ F))) := by
  refine ct_of (by decide +kernel) (Nat.le_of_ble_eq_true rfl) ?_
  intro p e s m below meth c E hw ls hl
  replace E : Ev p cX1_rank 4 (some .int) RX1 (Cond.code yX1_rank cX1_rank 4 (some .int) :: bw) D cA tS A s m _ meth c := E
  replace hl : lv_has ls 4 [(0, .ref (h 42)), (1, .int x1), (2, .int x2)] := hl
  have hx := E.1.1
  have hb := E.1.2.1
  unfold f_X1_rank at hM
  refine lv_aload_n hx hb dX1_rank_0 rfl (lv_at hl 0 rfl) ?_
  refine q_get (C := RX1) (T := TX1) (N := 6) (ci := 1) E (fun w h => List.mem_cons_of_mem _ (inX1 w h)) hw 12 rfl rfl 3 (by decide) (List.mem_cons_of_mem _ tb_272) (v := .ref (h 44)) rfl dX1_rank_1 ?_
  refine q_get (C := RX7) (T := TX7) (N := 15) (ci := 7) E (fun w h => List.mem_cons_of_mem _ (inX7 w h)) hw 16 rfl rfl 3 (by decide) (List.mem_cons_of_mem _ tb_155) (v := .ref (h 19)) rfl dX1_rank_4 ?_
  refine lv_iload_n hx hb dX1_rank_7 rfl (lv_at hl 1 rfl) ?_
  obtain ⟨g1, hM⟩ := g_some hM
  refine q_ald E hw 20 (n := 60) rfl g1 (x := (σ 19 (ix x1))) rfl dX1_rank_8 ?_
  refine lv_istore_n (lv' := [(3, .int (σ 19 (ix x1))), (0, .ref (h 42)), (1, .int x1), (2, .int x2)]) hx hb dX1_rank_9 rfl hl (by decide) rfl (fun ls hl => ?_)
  refine lv_aload_n hx hb dX1_rank_10 rfl (lv_at hl 1 rfl) ?_
  refine q_get (C := RX1) (T := TX1) (N := 6) (ci := 1) E (fun w h => List.mem_cons_of_mem _ (inX1 w h)) hw 12 rfl rfl 3 (by decide) (List.mem_cons_of_mem _ tb_272) (v := .ref (h 44)) rfl dX1_rank_11 ?_
  refine q_get (C := RX7) (T := TX7) (N := 15) (ci := 7) E (fun w h => List.mem_cons_of_mem _ (inX7 w h)) hw 16 rfl rfl 3 (by decide) (List.mem_cons_of_mem _ tb_155) (v := .ref (h 19)) rfl dX1_rank_14 ?_
  refine lv_iload_n hx hb dX1_rank_17 rfl (lv_at hl 2 rfl) ?_
  refine lv_iload_n hx hb dX1_rank_18 rfl (lv_at hl 3 rfl) ?_
  refine q_ast E hw 20 (n := 60) rfl g1 (wK cA h (up σ 19 (ix x1) x2) ++ (wLg cA h (up σ 19 (ix x1) x2) L ++ (wC cA h (up σ 19 (ix x1) x2) ++ F))) st_K_Lg_C_19 dX1_rank_19 (fun H locs hw => ?_)
  refine lv_iload_n hx hb dX1_rank_20 rfl (lv_at hl 0 rfl) ?_
  cases hM
  exact q_reti E hw dX1_rank_21
set_option maxRecDepth 100000 in
set_option maxHeartbeats 4000000 in
theorem c_X1_make (l : Launch) (D : va_G) (cA : Nat → ClassId) (tS : Nat → Nat) (A : Nat → Prop) (h : Nat → Nat) (L : Nat) (F : va_W) (N : Nat) (x1 : Int32) (x2 : Int32) (x3 : Int32) (x4 : Int32) (x5 : Int32) (σ : Sg) (r0 : Int32) (s0 : Sg) (hM : f_X1_make N L x1 x2 x3 x4 x5 σ = some (r0, s0)) : Ct l yX1_make (Cond.code yX1_make cX1_make 6 (some .int) :: bw) 3 70 D cA tS A [.ref (h 42), .int x1, .int x2, .int x3, .int x4, .int x5] (wK cA h σ ++ (wLg cA h σ L ++ (wC cA h σ ++ F))) (some (.int r0)) (wK cA h s0 ++ (wLg cA h s0 L ++ (wC cA h s0 ++ F))) := by
  refine ct_of (by decide +kernel) (Nat.le_of_ble_eq_true rfl) ?_
  intro p e s m below meth c E hw ls hl
  replace E : Ev p cX1_make 6 (some .int) RX1 (Cond.code yX1_make cX1_make 6 (some .int) :: bw) D cA tS A s m _ meth c := E
  replace hl : lv_has ls 6 [(0, .ref (h 42)), (1, .int x1), (2, .int x2), (3, .int x3), (4, .int x4), (5, .int x5)] := hl
  have hx := E.1.1
  have hb := E.1.2.1
  unfold f_X1_make at hM
  refine lv_iload_n hx hb dX1_make_0 rfl (lv_at hl 1 rfl) ?_
  by_cases c23 : x1 = 0
  · replace hM := i_pos hM c23
    refine lv_tableIn (tgt := 64) hx hb dX1_make_1 (by rw [c23]; decide) (by rw [c23]; decide) (off := 63) (by rw [c23]; decide) (by decide) ?_
    refine lv_aload_n hx hb dX1_make_64 rfl (lv_at hl 0 rfl) ?_
    refine q_get (C := RX1) (T := TX1) (N := 6) (ci := 1) E (fun w h => List.mem_cons_of_mem _ (inX1 w h)) hw 12 rfl rfl 0 (by decide) (List.mem_cons_of_mem _ tb_266) (v := .ref (h 43)) rfl dX1_make_65 ?_
    refine lv_iload_n hx hb dX1_make_68 rfl (lv_at hl 2 rfl) ?_
    refine lv_iload_n hx hb dX1_make_69 rfl (lv_at hl 3 rfl) ?_
    refine lv_iload hx hb dX1_make_70 (lv_at hl 4 rfl) ?_
    obtain ⟨p1, h2, hM⟩ := b_some hM
    refine q_cvv (As := [.int x2, .int x3, .int x4]) (rest := []) E hw hl (c_X0_setHours l D cA tS A h L F x2 x3 x4 σ p1 h2) 3 (bwV bw_c tb_576 tb_577 tb_578 tb_50 tb_579) rfl (by decide +kernel) ⟨Nat.le_of_ble_eq_true rfl, Nat.le_of_ble_eq_true rfl⟩ 13 0 (T := TX0) (N := 2) rfl rfl rfl rfl (Nat.le_of_ble_eq_true rfl) ⟨Nat.zero_le _, Nat.zero_le _⟩ dX1_make_72 (fun H locs hw => ?_)
    refine lv_iconst (v := 0) hx hb dX1_make_75 (by decide) ?_
    cases hM
    exact q_reti E hw dX1_make_76
  replace hM := i_neg hM c23
  by_cases c24 : x1 = 2
  · replace hM := i_pos hM c24
    refine lv_tableIn (tgt := 77) hx hb dX1_make_1 (by rw [c24]; decide) (by rw [c24]; decide) (off := 76) (by rw [c24]; decide) (by decide) ?_
    refine lv_aload_n hx hb dX1_make_77 rfl (lv_at hl 0 rfl) ?_
    refine lv_iload_n hx hb dX1_make_78 rfl (lv_at hl 2 rfl) ?_
    refine lv_iload_n hx hb dX1_make_79 rfl (lv_at hl 3 rfl) ?_
    obtain ⟨p3, h4, hM⟩ := b_some hM
    refine q_cv (As := [.int x2, .int x3]) (rest := []) E hw hl (c_X1_staff l D cA tS A h L F N x2 x3 σ p3.1 p3.2 h4) 2 (bwV bw_c tb_580 tb_582 tb_13 tb_49 tb_583) rfl (by decide +kernel) ⟨Nat.le_of_ble_eq_true rfl, Nat.le_of_ble_eq_true rfl⟩ 12 1 (T := TX1) (N := 6) rfl rfl rfl rfl (Nat.le_of_ble_eq_true rfl) ⟨Nat.zero_le _, Nat.zero_le _⟩ dX1_make_80 (fun H locs hw => ?_)
    cases hM
    exact q_reti E hw dX1_make_83
  replace hM := i_neg hM c24
  by_cases c25 : x1 = 3
  · replace hM := i_pos hM c25
    refine lv_tableIn (tgt := 84) hx hb dX1_make_1 (by rw [c25]; decide) (by rw [c25]; decide) (off := 83) (by rw [c25]; decide) (by decide) ?_
    refine lv_aload_n hx hb dX1_make_84 rfl (lv_at hl 0 rfl) ?_
    refine lv_iload_n hx hb dX1_make_85 rfl (lv_at hl 2 rfl) ?_
    refine lv_iload_n hx hb dX1_make_86 rfl (lv_at hl 3 rfl) ?_
    refine lv_iload hx hb dX1_make_87 (lv_at hl 4 rfl) ?_
    refine lv_iload hx hb dX1_make_89 (lv_at hl 5 rfl) ?_
    obtain ⟨p5, h6, hM⟩ := b_some hM
    refine q_cv (As := [.int x2, .int x3, .int x4, .int x5]) (rest := []) E hw hl (c_X1_enter l D cA tS A h L F x2 x3 x4 x5 σ p5.1 p5.2 h6) 4 (bwV bw_c tb_588 tb_590 tb_14 tb_49 tb_591) rfl (by decide +kernel) ⟨Nat.le_of_ble_eq_true rfl, Nat.le_of_ble_eq_true rfl⟩ 12 1 (T := TX1) (N := 6) rfl rfl rfl rfl (Nat.le_of_ble_eq_true rfl) ⟨Nat.zero_le _, Nat.zero_le _⟩ dX1_make_91 (fun H locs hw => ?_)
    cases hM
    exact q_reti E hw dX1_make_94
  replace hM := i_neg hM c25
  by_cases c26 : x1 = 4
  · replace hM := i_pos hM c26
    refine lv_tableIn (tgt := 95) hx hb dX1_make_1 (by rw [c26]; decide) (by rw [c26]; decide) (off := 94) (by rw [c26]; decide) (by decide) ?_
    refine lv_aload_n hx hb dX1_make_95 rfl (lv_at hl 0 rfl) ?_
    refine lv_iload_n hx hb dX1_make_96 rfl (lv_at hl 2 rfl) ?_
    refine lv_iconst (v := 2) hx hb dX1_make_97 (by decide) ?_
    refine lv_iconst (v := 2) hx hb dX1_make_98 (by decide) ?_
    obtain ⟨p7, h8, hM⟩ := b_some hM
    refine q_cv (As := [.int x2, .int 2, .int 2]) (rest := []) E hw hl (c_X1_move l D cA tS A h L F x2 2 2 σ p7.1 p7.2 h8) 3 (bwV bw_c tb_600 tb_602 tb_15 tb_49 tb_603) rfl (by decide +kernel) ⟨Nat.le_of_ble_eq_true rfl, Nat.le_of_ble_eq_true rfl⟩ 12 1 (T := TX1) (N := 6) rfl rfl rfl rfl (Nat.le_of_ble_eq_true rfl) ⟨Nat.zero_le _, Nat.zero_le _⟩ dX1_make_99 (fun H locs hw => ?_)
    cases hM
    exact q_reti E hw dX1_make_102
  replace hM := i_neg hM c26
  by_cases c27 : x1 = 5
  · replace hM := i_pos hM c27
    refine lv_tableIn (tgt := 103) hx hb dX1_make_1 (by rw [c27]; decide) (by rw [c27]; decide) (off := 102) (by rw [c27]; decide) (by decide) ?_
    refine lv_aload_n hx hb dX1_make_103 rfl (lv_at hl 0 rfl) ?_
    refine lv_iload_n hx hb dX1_make_104 rfl (lv_at hl 2 rfl) ?_
    refine lv_iconst (v := 0) hx hb dX1_make_105 (by decide) ?_
    refine lv_iconst (v := 3) hx hb dX1_make_106 (by decide) ?_
    obtain ⟨p9, h10, hM⟩ := b_some hM
    refine q_cv (As := [.int x2, .int 0, .int 3]) (rest := []) E hw hl (c_X1_move l D cA tS A h L F x2 0 3 σ p9.1 p9.2 h10) 3 (bwV bw_c tb_600 tb_602 tb_15 tb_49 tb_603) rfl (by decide +kernel) ⟨Nat.le_of_ble_eq_true rfl, Nat.le_of_ble_eq_true rfl⟩ 12 1 (T := TX1) (N := 6) rfl rfl rfl rfl (Nat.le_of_ble_eq_true rfl) ⟨Nat.zero_le _, Nat.zero_le _⟩ dX1_make_107 (fun H locs hw => ?_)
    cases hM
    exact q_reti E hw dX1_make_110
  replace hM := i_neg hM c27
  by_cases c28 : x1 = 6
  · replace hM := i_pos hM c28
    refine lv_tableIn (tgt := 111) hx hb dX1_make_1 (by rw [c28]; decide) (by rw [c28]; decide) (off := 110) (by rw [c28]; decide) (by decide) ?_
    refine lv_aload_n hx hb dX1_make_111 rfl (lv_at hl 0 rfl) ?_
    refine lv_iload_n hx hb dX1_make_112 rfl (lv_at hl 2 rfl) ?_
    refine lv_aload_n hx hb dX1_make_113 rfl (lv_at hl 0 rfl) ?_
    refine q_get (C := RX1) (T := TX1) (N := 6) (ci := 1) E (fun w h => List.mem_cons_of_mem _ (inX1 w h)) hw 12 rfl rfl 5 (by decide) (List.mem_cons_of_mem _ tb_276) (v := .int (σ 12 0)) rfl dX1_make_114 ?_
    obtain ⟨p11, h12, hM⟩ := b_some hM
    refine q_cv (As := [.int x2, .int (σ 12 0)]) (rest := []) E hw hl (c_X1_raise l D cA tS A h L F x2 (σ 12 0) σ p11.1 p11.2 h12) 2 (bwV bw_c tb_604 tb_606 tb_16 tb_49 tb_607) rfl (by decide +kernel) ⟨Nat.le_of_ble_eq_true rfl, Nat.le_of_ble_eq_true rfl⟩ 12 1 (T := TX1) (N := 6) rfl rfl rfl rfl (Nat.le_of_ble_eq_true rfl) ⟨Nat.zero_le _, Nat.zero_le _⟩ dX1_make_117 (fun H locs hw => ?_)
    cases hM
    exact q_reti E hw dX1_make_120
  replace hM := i_neg hM c28
  by_cases c29 : x1 = 7
  · replace hM := i_pos hM c29
    refine lv_tableIn (tgt := 121) hx hb dX1_make_1 (by rw [c29]; decide) (by rw [c29]; decide) (off := 120) (by rw [c29]; decide) (by decide) ?_
    refine lv_aload_n hx hb dX1_make_121 rfl (lv_at hl 0 rfl) ?_
    refine lv_iload_n hx hb dX1_make_122 rfl (lv_at hl 2 rfl) ?_
    refine lv_aload_n hx hb dX1_make_123 rfl (lv_at hl 0 rfl) ?_
    refine q_get (C := RX1) (T := TX1) (N := 6) (ci := 1) E (fun w h => List.mem_cons_of_mem _ (inX1 w h)) hw 12 rfl rfl 5 (by decide) (List.mem_cons_of_mem _ tb_276) (v := .int (σ 12 0)) rfl dX1_make_124 ?_
    obtain ⟨p13, h14, hM⟩ := b_some hM
    refine q_cv (As := [.int x2, .int (σ 12 0)]) (rest := []) E hw hl (c_X1_finish l D cA tS A h L F N x2 (σ 12 0) σ p13.1 p13.2 h14) 2 (bwV bw_c tb_608 tb_610 tb_17 tb_49 tb_611) rfl (by decide +kernel) ⟨Nat.le_of_ble_eq_true rfl, Nat.le_of_ble_eq_true rfl⟩ 12 1 (T := TX1) (N := 6) rfl rfl rfl rfl (Nat.le_of_ble_eq_true rfl) ⟨Nat.zero_le _, Nat.zero_le _⟩ dX1_make_127 (fun H locs hw => ?_)
    cases hM
    exact q_reti E hw dX1_make_130
  replace hM := i_neg hM c29
  by_cases c30 : x1 = 8
  · replace hM := i_pos hM c30
    refine lv_tableIn (tgt := 131) hx hb dX1_make_1 (by rw [c30]; decide) (by rw [c30]; decide) (off := 130) (by rw [c30]; decide) (by decide) ?_
    refine lv_aload_n hx hb dX1_make_131 rfl (lv_at hl 0 rfl) ?_
    refine lv_iload_n hx hb dX1_make_132 rfl (lv_at hl 2 rfl) ?_
    obtain ⟨p15, h16, hM⟩ := b_some hM
    refine q_cv (As := [.int x2]) (rest := []) E hw hl (c_X1_reviveWithTwins l D cA tS A h L F N x2 σ p15.1 p15.2 h16) 1 (bwV bw_c tb_616 tb_618 tb_19 tb_49 tb_619) rfl (by decide +kernel) ⟨Nat.le_of_ble_eq_true rfl, Nat.le_of_ble_eq_true rfl⟩ 12 1 (T := TX1) (N := 6) rfl rfl rfl rfl (Nat.le_of_ble_eq_true rfl) ⟨Nat.zero_le _, Nat.zero_le _⟩ dX1_make_133 (fun H locs hw => ?_)
    cases hM
    exact q_reti E hw dX1_make_136
  replace hM := i_neg hM c30
  by_cases c31 : x1 = 9
  · replace hM := i_pos hM c31
    refine lv_tableIn (tgt := 137) hx hb dX1_make_1 (by rw [c31]; decide) (by rw [c31]; decide) (off := 136) (by rw [c31]; decide) (by decide) ?_
    refine lv_aload_n hx hb dX1_make_137 rfl (lv_at hl 0 rfl) ?_
    refine lv_iload_n hx hb dX1_make_138 rfl (lv_at hl 2 rfl) ?_
    refine lv_iload_n hx hb dX1_make_139 rfl (lv_at hl 3 rfl) ?_
    obtain ⟨p17, h18, hM⟩ := b_some hM
    refine q_cv (As := [.int x2, .int x3]) (rest := []) E hw hl (c_X1_tie l D cA tS A h L F N x2 x3 σ p17.1 p17.2 h18) 2 (bwV bw_c tb_624 tb_626 tb_21 tb_49 tb_627) rfl (by decide +kernel) ⟨Nat.le_of_ble_eq_true rfl, Nat.le_of_ble_eq_true rfl⟩ 12 1 (T := TX1) (N := 6) rfl rfl rfl rfl (Nat.le_of_ble_eq_true rfl) ⟨Nat.zero_le _, Nat.zero_le _⟩ dX1_make_140 (fun H locs hw => ?_)
    cases hM
    exact q_reti E hw dX1_make_143
  replace hM := i_neg hM c31
  by_cases c32 : x1 = 10
  · replace hM := i_pos hM c32
    refine lv_tableIn (tgt := 144) hx hb dX1_make_1 (by rw [c32]; decide) (by rw [c32]; decide) (off := 143) (by rw [c32]; decide) (by decide) ?_
    refine lv_aload_n hx hb dX1_make_144 rfl (lv_at hl 0 rfl) ?_
    refine lv_iload_n hx hb dX1_make_145 rfl (lv_at hl 2 rfl) ?_
    obtain ⟨p19, h20, hM⟩ := b_some hM
    refine q_cv (As := [.int x2]) (rest := []) E hw hl (c_X1_untie l D cA tS A h L F x2 σ p19.1 p19.2 h20) 1 (bwV bw_c tb_638 tb_640 tb_22 tb_49 tb_641) rfl (by decide +kernel) ⟨Nat.le_of_ble_eq_true rfl, Nat.le_of_ble_eq_true rfl⟩ 12 1 (T := TX1) (N := 6) rfl rfl rfl rfl (Nat.le_of_ble_eq_true rfl) ⟨Nat.zero_le _, Nat.zero_le _⟩ dX1_make_146 (fun H locs hw => ?_)
    cases hM
    exact q_reti E hw dX1_make_149
  replace hM := i_neg hM c32
  by_cases c33 : x1 = 11
  · replace hM := i_pos hM c33
    refine lv_tableIn (tgt := 150) hx hb dX1_make_1 (by rw [c33]; decide) (by rw [c33]; decide) (off := 149) (by rw [c33]; decide) (by decide) ?_
    refine lv_aload_n hx hb dX1_make_150 rfl (lv_at hl 0 rfl) ?_
    refine lv_iload_n hx hb dX1_make_151 rfl (lv_at hl 2 rfl) ?_
    refine lv_iload_n hx hb dX1_make_152 rfl (lv_at hl 3 rfl) ?_
    obtain ⟨p21, h22, hM⟩ := b_some hM
    refine q_cv (As := [.int x2, .int x3]) (rest := []) E hw hl (c_X1_rank l D cA tS A h L F x2 x3 σ p21.1 p21.2 h22) 2 (bwV bw_c tb_642 tb_644 tb_23 tb_49 tb_645) rfl (by decide +kernel) ⟨Nat.le_of_ble_eq_true rfl, Nat.le_of_ble_eq_true rfl⟩ 12 1 (T := TX1) (N := 6) rfl rfl rfl rfl (Nat.le_of_ble_eq_true rfl) ⟨Nat.zero_le _, Nat.zero_le _⟩ dX1_make_153 (fun H locs hw => ?_)
    cases hM
    exact q_reti E hw dX1_make_156
  replace hM := i_neg hM c33
  refine q_tableD (tgt := 157) hx hb dX1_make_1 (fun hq => ?_) (by decide) ?_
  · have hz : (x1).toInt = 0 ∨ (x1).toInt = 1 ∨ (x1).toInt = 2 ∨ (x1).toInt = 3 ∨ (x1).toInt = 4 ∨ (x1).toInt = 5 ∨ (x1).toInt = 6 ∨ (x1).toInt = 7 ∨ (x1).toInt = 8 ∨ (x1).toInt = 9 ∨ (x1).toInt = 10 ∨ (x1).toInt = 11 := by omega
    rcases hz with hz | hz | hz | hz | hz | hz | hz | hz | hz | hz | hz | hz
    · exact absurd (Int32.toInt_inj.mp (hz.trans (by decide))) c23
    · rw [hz]; decide
    · exact absurd (Int32.toInt_inj.mp (hz.trans (by decide))) c24
    · exact absurd (Int32.toInt_inj.mp (hz.trans (by decide))) c25
    · exact absurd (Int32.toInt_inj.mp (hz.trans (by decide))) c26
    · exact absurd (Int32.toInt_inj.mp (hz.trans (by decide))) c27
    · exact absurd (Int32.toInt_inj.mp (hz.trans (by decide))) c28
    · exact absurd (Int32.toInt_inj.mp (hz.trans (by decide))) c29
    · exact absurd (Int32.toInt_inj.mp (hz.trans (by decide))) c30
    · exact absurd (Int32.toInt_inj.mp (hz.trans (by decide))) c31
    · exact absurd (Int32.toInt_inj.mp (hz.trans (by decide))) c32
    · exact absurd (Int32.toInt_inj.mp (hz.trans (by decide))) c33
  refine lv_iconst (v := 0) hx hb dX1_make_157 (by decide) ?_
  cases hM
  exact q_reti E hw dX1_make_158
set_option maxRecDepth 100000 in
set_option maxHeartbeats 4000000 in
theorem c_X1_minutesLeft (l : Launch) (D : va_G) (cA : Nat → ClassId) (tS : Nat → Nat) (A : Nat → Prop) (h : Nat → Nat) (L : Nat) (F : va_W) (x1 : Int32) (σ : Sg) (r0 : Int32) (hM : f_X1_minutesLeft x1 σ = some r0) : Ct l yX1_minutesLeft (Cond.code yX1_minutesLeft cX1_minutesLeft 2 (some .int) :: bw) 0 0 D cA tS A [.ref (h 42), .int x1] (wK cA h σ ++ (wLg cA h σ L ++ (wC cA h σ ++ F))) (some (.int r0)) (wK cA h σ ++ (wLg cA h σ L ++ (wC cA h σ ++ F))) := by
  refine ct_of (by decide +kernel) (Nat.le_of_ble_eq_true rfl) ?_
  intro p e s m below meth c E hw ls hl
  replace E : Ev p cX1_minutesLeft 2 (some .int) RX1 (Cond.code yX1_minutesLeft cX1_minutesLeft 2 (some .int) :: bw) D cA tS A s m _ meth c := E
  replace hl : lv_has ls 2 [(0, .ref (h 42)), (1, .int x1)] := hl
  have hx := E.1.1
  have hb := E.1.2.1
  unfold f_X1_minutesLeft at hM
  refine lv_aload_n hx hb dX1_minutesLeft_0 rfl (lv_at hl 0 rfl) ?_
  refine q_get (C := RX1) (T := TX1) (N := 6) (ci := 1) E (fun w h => List.mem_cons_of_mem _ (inX1 w h)) hw 12 rfl rfl 1 (by decide) (List.mem_cons_of_mem _ tb_268) (v := .ref (h 40)) rfl dX1_minutesLeft_1 ?_
  refine q_get (C := RX3) (T := TX3) (N := 7) (ci := 3) E (fun w h => List.mem_cons_of_mem _ (inX3 w h)) hw 0 rfl rfl 1 (by decide) (List.mem_cons_of_mem _ tb_115) (v := .ref (h 2)) rfl dX1_minutesLeft_4 ?_
  refine lv_aload_n hx hb dX1_minutesLeft_7 rfl (lv_at hl 0 rfl) ?_
  refine q_get (C := RX1) (T := TX1) (N := 6) (ci := 1) E (fun w h => List.mem_cons_of_mem _ (inX1 w h)) hw 12 rfl rfl 3 (by decide) (List.mem_cons_of_mem _ tb_272) (v := .ref (h 44)) rfl dX1_minutesLeft_8 ?_
  refine q_get (C := RX7) (T := TX7) (N := 15) (ci := 7) E (fun w h => List.mem_cons_of_mem _ (inX7 w h)) hw 16 rfl rfl 0 (by decide) (List.mem_cons_of_mem _ tb_151) (v := .ref (h 16)) rfl dX1_minutesLeft_11 ?_
  refine lv_iload_n hx hb dX1_minutesLeft_14 rfl (lv_at hl 1 rfl) ?_
  obtain ⟨g1, hM⟩ := g_some hM
  refine q_ald E hw 17 (n := 60) rfl g1 (x := (σ 16 (ix x1))) rfl dX1_minutesLeft_15 ?_
  obtain ⟨g2, hM⟩ := g_some hM
  refine q_ald E hw 2 (n := 6) rfl g2 (x := (σ 2 (ix (σ 16 (ix x1))))) rfl dX1_minutesLeft_16 ?_
  refine lv_aload_n hx hb dX1_minutesLeft_17 rfl (lv_at hl 0 rfl) ?_
  refine q_get (C := RX1) (T := TX1) (N := 6) (ci := 1) E (fun w h => List.mem_cons_of_mem _ (inX1 w h)) hw 12 rfl rfl 3 (by decide) (List.mem_cons_of_mem _ tb_272) (v := .ref (h 44)) rfl dX1_minutesLeft_18 ?_
  refine q_get (C := RX7) (T := TX7) (N := 15) (ci := 7) E (fun w h => List.mem_cons_of_mem _ (inX7 w h)) hw 16 rfl rfl 9 (by decide) (List.mem_cons_of_mem _ tb_171) (v := .ref (h 25)) rfl dX1_minutesLeft_21 ?_
  refine lv_iload_n hx hb dX1_minutesLeft_24 rfl (lv_at hl 1 rfl) ?_
  refine q_ald E hw 26 (n := 60) rfl g1 (x := (σ 25 (ix x1))) rfl dX1_minutesLeft_25 ?_
  refine lv_isub hx hb dX1_minutesLeft_26 ?_
  cases hM
  exact q_reti E hw dX1_minutesLeft_27
set_option maxRecDepth 100000 in
set_option maxHeartbeats 4000000 in
theorem c_X1_isMoreUrgent (l : Launch) (D : va_G) (cA : Nat → ClassId) (tS : Nat → Nat) (A : Nat → Prop) (h : Nat → Nat) (L : Nat) (F : va_W) (x1 : Int32) (x2 : Int32) (σ : Sg) (r0 : Int32) (hM : f_X1_isMoreUrgent x1 x2 σ = some r0) : Ct l yX1_isMoreUrgent (Cond.code yX1_isMoreUrgent cX1_isMoreUrgent 3 (some .boolean) :: bw) 1 21 D cA tS A [.ref (h 42), .int x1, .int x2] (wK cA h σ ++ (wLg cA h σ L ++ (wC cA h σ ++ F))) (some (.int r0)) (wK cA h σ ++ (wLg cA h σ L ++ (wC cA h σ ++ F))) := by
  refine ct_of (by decide +kernel) (Nat.le_of_ble_eq_true rfl) ?_
  intro p e s m below meth c E hw ls hl
  replace E : Ev p cX1_isMoreUrgent 3 (some .boolean) RX1 (Cond.code yX1_isMoreUrgent cX1_isMoreUrgent 3 (some .boolean) :: bw) D cA tS A s m _ meth c := E
  replace hl : lv_has ls 3 [(0, .ref (h 42)), (1, .int x1), (2, .int x2)] := hl
  have hx := E.1.1
  have hb := E.1.2.1
  unfold f_X1_isMoreUrgent at hM
  refine lv_aload_n hx hb dX1_isMoreUrgent_0 rfl (lv_at hl 0 rfl) ?_
  refine q_get (C := RX1) (T := TX1) (N := 6) (ci := 1) E (fun w h => List.mem_cons_of_mem _ (inX1 w h)) hw 12 rfl rfl 3 (by decide) (List.mem_cons_of_mem _ tb_272) (v := .ref (h 44)) rfl dX1_isMoreUrgent_1 ?_
  refine q_get (C := RX7) (T := TX7) (N := 15) (ci := 7) E (fun w h => List.mem_cons_of_mem _ (inX7 w h)) hw 16 rfl rfl 3 (by decide) (List.mem_cons_of_mem _ tb_155) (v := .ref (h 19)) rfl dX1_isMoreUrgent_4 ?_
  refine lv_iload_n hx hb dX1_isMoreUrgent_7 rfl (lv_at hl 1 rfl) ?_
  obtain ⟨g1, hM⟩ := g_some hM
  refine q_ald E hw 20 (n := 60) rfl g1 (x := (σ 19 (ix x1))) rfl dX1_isMoreUrgent_8 ?_
  refine lv_aload_n hx hb dX1_isMoreUrgent_9 rfl (lv_at hl 0 rfl) ?_
  refine q_get (C := RX1) (T := TX1) (N := 6) (ci := 1) E (fun w h => List.mem_cons_of_mem _ (inX1 w h)) hw 12 rfl rfl 3 (by decide) (List.mem_cons_of_mem _ tb_272) (v := .ref (h 44)) rfl dX1_isMoreUrgent_10 ?_
  refine q_get (C := RX7) (T := TX7) (N := 15) (ci := 7) E (fun w h => List.mem_cons_of_mem _ (inX7 w h)) hw 16 rfl rfl 3 (by decide) (List.mem_cons_of_mem _ tb_155) (v := .ref (h 19)) rfl dX1_isMoreUrgent_13 ?_
  refine lv_iload_n hx hb dX1_isMoreUrgent_16 rfl (lv_at hl 2 rfl) ?_
  obtain ⟨g2, hM⟩ := g_some hM
  refine q_ald E hw 20 (n := 60) rfl g2 (x := (σ 19 (ix x2))) rfl dX1_isMoreUrgent_17 ?_
  refine lv_icmp_eq (tgt := 48) hx hb dX1_isMoreUrgent_18 (by decide) (fun c3 => ?_) (fun c3 => ?_)
  · replace hM := i_pos hM c3
    refine lv_aload_n hx hb dX1_isMoreUrgent_48 rfl (lv_at hl 0 rfl) ?_
    refine lv_iload_n hx hb dX1_isMoreUrgent_49 rfl (lv_at hl 1 rfl) ?_
    obtain ⟨p4, h5, hM⟩ := b_some hM
    refine q_cv (As := [.int x1]) (rest := []) E hw hl (c_X1_minutesLeft l D cA tS A h L F x1 σ p4 h5) 1 (bwV bw_c tb_792 tb_794 tb_31 tb_49 tb_795) rfl (by decide +kernel) ⟨Nat.le_of_ble_eq_true rfl, Nat.le_of_ble_eq_true rfl⟩ 12 1 (T := TX1) (N := 6) rfl rfl rfl rfl (Nat.le_of_ble_eq_true rfl) ⟨Nat.zero_le _, Nat.zero_le _⟩ dX1_isMoreUrgent_50 (fun H locs hw => ?_)
    refine lv_aload_n hx hb dX1_isMoreUrgent_53 rfl (lv_at hl 0 rfl) ?_
    refine lv_iload_n hx hb dX1_isMoreUrgent_54 rfl (lv_at hl 2 rfl) ?_
    obtain ⟨p6, h7, hM⟩ := b_some hM
    refine q_cv (As := [.int x2]) (rest := [.int p4]) E hw hl (c_X1_minutesLeft l D cA tS A h L F x2 σ p6 h7) 1 (bwV bw_c tb_792 tb_794 tb_31 tb_49 tb_795) rfl (by decide +kernel) ⟨Nat.le_of_ble_eq_true rfl, Nat.le_of_ble_eq_true rfl⟩ 12 1 (T := TX1) (N := 6) rfl rfl rfl rfl (Nat.le_of_ble_eq_true rfl) ⟨Nat.zero_le _, Nat.zero_le _⟩ dX1_isMoreUrgent_55 (fun H locs hw => ?_)
    refine lv_icmp_ge (tgt := 65) hx hb dX1_isMoreUrgent_58 (by decide) (fun c8 => ?_) (fun c8 => ?_)
    · replace hM := i_pos hM c8
      refine lv_iconst (v := 0) hx hb dX1_isMoreUrgent_65 (by decide) ?_
      cases hM
      exact q_retz E hw (by decide) dX1_isMoreUrgent_66
    · replace hM := i_neg hM c8
      refine lv_iconst (v := 1) hx hb dX1_isMoreUrgent_61 (by decide) ?_
      refine lv_goto (tgt := 66) hx hb dX1_isMoreUrgent_62 (by decide) ?_
      cases hM
      exact q_retz E hw (by decide) dX1_isMoreUrgent_66
  · replace hM := i_neg hM c3
    refine lv_aload_n hx hb dX1_isMoreUrgent_21 rfl (lv_at hl 0 rfl) ?_
    refine q_get (C := RX1) (T := TX1) (N := 6) (ci := 1) E (fun w h => List.mem_cons_of_mem _ (inX1 w h)) hw 12 rfl rfl 3 (by decide) (List.mem_cons_of_mem _ tb_272) (v := .ref (h 44)) rfl dX1_isMoreUrgent_22 ?_
    refine q_get (C := RX7) (T := TX7) (N := 15) (ci := 7) E (fun w h => List.mem_cons_of_mem _ (inX7 w h)) hw 16 rfl rfl 3 (by decide) (List.mem_cons_of_mem _ tb_155) (v := .ref (h 19)) rfl dX1_isMoreUrgent_25 ?_
    refine lv_iload_n hx hb dX1_isMoreUrgent_28 rfl (lv_at hl 1 rfl) ?_
    refine q_ald E hw 20 (n := 60) rfl g1 (x := (σ 19 (ix x1))) rfl dX1_isMoreUrgent_29 ?_
    refine lv_aload_n hx hb dX1_isMoreUrgent_30 rfl (lv_at hl 0 rfl) ?_
    refine q_get (C := RX1) (T := TX1) (N := 6) (ci := 1) E (fun w h => List.mem_cons_of_mem _ (inX1 w h)) hw 12 rfl rfl 3 (by decide) (List.mem_cons_of_mem _ tb_272) (v := .ref (h 44)) rfl dX1_isMoreUrgent_31 ?_
    refine q_get (C := RX7) (T := TX7) (N := 15) (ci := 7) E (fun w h => List.mem_cons_of_mem _ (inX7 w h)) hw 16 rfl rfl 3 (by decide) (List.mem_cons_of_mem _ tb_155) (v := .ref (h 19)) rfl dX1_isMoreUrgent_34 ?_
    refine lv_iload_n hx hb dX1_isMoreUrgent_37 rfl (lv_at hl 2 rfl) ?_
    refine q_ald E hw 20 (n := 60) rfl g2 (x := (σ 19 (ix x2))) rfl dX1_isMoreUrgent_38 ?_
    refine lv_icmp_le (tgt := 46) hx hb dX1_isMoreUrgent_39 (by decide) (fun c9 => ?_) (fun c9 => ?_)
    · replace hM := i_pos hM c9
      refine lv_iconst (v := 0) hx hb dX1_isMoreUrgent_46 (by decide) ?_
      cases hM
      exact q_retz E hw (by decide) dX1_isMoreUrgent_47
    · replace hM := i_neg hM c9
      refine lv_iconst (v := 1) hx hb dX1_isMoreUrgent_42 (by decide) ?_
      refine lv_goto (tgt := 47) hx hb dX1_isMoreUrgent_43 (by decide) ?_
      cases hM
      exact q_retz E hw (by decide) dX1_isMoreUrgent_47
set_option maxRecDepth 100000 in
set_option maxHeartbeats 4000000 in
theorem s_X1_firstQueued_4 (l : Launch) (D : va_G) (cA : Nat → ClassId) (tS : Nat → Nat) (A : Nat → Prop) (h : Nat → Nat) (L : Nat) (F : va_W) (N : Nat) {p : Program} {e : Env} {s : State} {m : MethodId} {args : Array Value} {below : List Frame} {meth : Method} {c : Code} (E : Ev p cX1_firstQueued 4 (some .int) RX1 (Cond.code yX1_firstQueued cX1_firstQueued 4 (some .int) :: bw) D cA tS A s m args meth c) : ∀ (n : Nat) (x1 : Int32) (x2 : Int32) (x3 : Int32) (σ : Sg) (r0 : Int32) (hM : f_X1_firstQueued_4 N n x1 x2 x3 σ = some r0) (H : Heap) (locs : List Loc) (hw : Wd D A (wK cA h σ ++ (wLg cA h σ L ++ (wC cA h σ ++ F))) s.heap H locs) (ls : Array Slot) (hl : lv_has ls 4 [(0, .ref (h 42)), (1, .int x1), (2, .int x2), (3, .int x3)]), W p l e ({ frames := 2, cells := 0, slots := 0, locals := 43 } : Room) s m args below meth c H locs 0 0 (MQ below (QW D A (some (.int r0)) (wK cA h σ ++ (wLg cA h σ L ++ (wC cA h σ ++ F)))) args s 0 0 A) (F0 m 4 ls []) := by
  have hx := E.1.1
  have hb := E.1.2.1
  intro n
  induction n with
  | zero =>
    intro x1 x2 x3 σ r0 hM
    cases hM
  | succ n ih =>
    intro x1 x2 x3 σ r0 hM H locs hw ls hl
    rw [f_X1_firstQueued_4] at hM
    refine lv_iload_n hx hb dX1_firstQueued_4 rfl (lv_at hl 3 rfl) ?_
    refine lv_aload_n hx hb dX1_firstQueued_5 rfl (lv_at hl 0 rfl) ?_
    refine q_get (C := RX1) (T := TX1) (N := 6) (ci := 1) E (fun w h => List.mem_cons_of_mem _ (inX1 w h)) hw 12 rfl rfl 3 (by decide) (List.mem_cons_of_mem _ tb_272) (v := .ref (h 44)) rfl dX1_firstQueued_6 ?_
    refine q_get (C := RX7) (T := TX7) (N := 15) (ci := 7) E (fun w h => List.mem_cons_of_mem _ (inX7 w h)) hw 16 rfl rfl 14 (by decide) (List.mem_cons_of_mem _ tb_185) (v := .int (σ 15 0)) rfl dX1_firstQueued_9 ?_
    refine lv_icmp_ge (tgt := 62) hx hb dX1_firstQueued_12 (by decide) (fun c1 => ?_) (fun c1 => ?_)
    · replace hM := i_pos hM c1
      refine lv_iload_n hx hb dX1_firstQueued_62 rfl (lv_at hl 2 rfl) ?_
      cases hM
      exact q_reti E hw dX1_firstQueued_63
    · replace hM := i_neg hM c1
      refine lv_aload_n hx hb dX1_firstQueued_15 rfl (lv_at hl 0 rfl) ?_
      refine q_get (C := RX1) (T := TX1) (N := 6) (ci := 1) E (fun w h => List.mem_cons_of_mem _ (inX1 w h)) hw 12 rfl rfl 3 (by decide) (List.mem_cons_of_mem _ tb_272) (v := .ref (h 44)) rfl dX1_firstQueued_16 ?_
      refine q_get (C := RX7) (T := TX7) (N := 15) (ci := 7) E (fun w h => List.mem_cons_of_mem _ (inX7 w h)) hw 16 rfl rfl 5 (by decide) (List.mem_cons_of_mem _ tb_160) (v := .ref (h 21)) rfl dX1_firstQueued_19 ?_
      refine lv_iload_n hx hb dX1_firstQueued_22 rfl (lv_at hl 3 rfl) ?_
      obtain ⟨g2, hM⟩ := g_some hM
      refine q_ald E hw 22 (n := 60) rfl g2 (x := (σ 21 (ix x3))) rfl dX1_firstQueued_23 ?_
      refine lv_if_ne (tgt := 56) hx hb dX1_firstQueued_24 (by decide) (fun c3 => ?_) (fun c3 => ?_)
      · replace hM := i_neg hM c3
        refine lv_iinc (v := (x3 + 1)) (lv' := [(3, .int (x3 + 1)), (0, .ref (h 42)), (1, .int x1), (2, .int x2)]) hx hb dX1_firstQueued_56 hl (k := 3) rfl rfl (by decide) rfl (fun ls hl => ?_)
        refine lv_goto (tgt := 4) hx hb dX1_firstQueued_59 (by decide) ?_
        exact ih _ _ _ _ _ hM _ _ hw _ (lv_sub hl [1, 2, 3, 0] rfl)
      · replace hM := i_pos hM c3
        refine lv_aload_n hx hb dX1_firstQueued_27 rfl (lv_at hl 0 rfl) ?_
        refine q_get (C := RX1) (T := TX1) (N := 6) (ci := 1) E (fun w h => List.mem_cons_of_mem _ (inX1 w h)) hw 12 rfl rfl 3 (by decide) (List.mem_cons_of_mem _ tb_272) (v := .ref (h 44)) rfl dX1_firstQueued_28 ?_
        refine q_get (C := RX7) (T := TX7) (N := 15) (ci := 7) E (fun w h => List.mem_cons_of_mem _ (inX7 w h)) hw 16 rfl rfl 4 (by decide) (List.mem_cons_of_mem _ tb_157) (v := .ref (h 20)) rfl dX1_firstQueued_31 ?_
        refine lv_iload_n hx hb dX1_firstQueued_34 rfl (lv_at hl 3 rfl) ?_
        refine q_ald E hw 21 (n := 60) rfl g2 (x := (σ 20 (ix x3))) rfl dX1_firstQueued_35 ?_
        refine lv_iload_n hx hb dX1_firstQueued_36 rfl (lv_at hl 1 rfl) ?_
        refine lv_icmp_ne (tgt := 56) hx hb dX1_firstQueued_37 (by decide) (fun c4 => ?_) (fun c4 => ?_)
        · replace hM := i_neg hM c4
          refine lv_iinc (v := (x3 + 1)) (lv' := [(3, .int (x3 + 1)), (0, .ref (h 42)), (1, .int x1), (2, .int x2)]) hx hb dX1_firstQueued_56 hl (k := 3) rfl rfl (by decide) rfl (fun ls hl => ?_)
          refine lv_goto (tgt := 4) hx hb dX1_firstQueued_59 (by decide) ?_
          exact ih _ _ _ _ _ hM _ _ hw _ (lv_sub hl [1, 2, 3, 0] rfl)
        · replace hM := i_pos hM c4
          refine lv_iload_n hx hb dX1_firstQueued_40 rfl (lv_at hl 2 rfl) ?_
          refine lv_iconst (v := (-1)) hx hb dX1_firstQueued_41 (by decide) ?_
          refine lv_icmp_eq (tgt := 54) hx hb dX1_firstQueued_42 (by decide) (fun c5 => ?_) (fun c5 => ?_)
          · replace hM := i_pos hM c5
            refine lv_iload_n hx hb dX1_firstQueued_54 rfl (lv_at hl 3 rfl) ?_
            refine lv_istore_n (lv' := [(2, .int x3), (0, .ref (h 42)), (1, .int x1), (3, .int x3)]) hx hb dX1_firstQueued_55 rfl hl (by decide) rfl (fun ls hl => ?_)
            refine lv_iinc (v := (x3 + 1)) (lv' := [(3, .int (x3 + 1)), (2, .int x3), (0, .ref (h 42)), (1, .int x1)]) hx hb dX1_firstQueued_56 hl (k := 3) rfl rfl (by decide) rfl (fun ls hl => ?_)
            refine lv_goto (tgt := 4) hx hb dX1_firstQueued_59 (by decide) ?_
            exact ih _ _ _ _ _ hM _ _ hw _ (lv_sub hl [2, 3, 1, 0] rfl)
          · replace hM := i_neg hM c5
            refine lv_aload_n hx hb dX1_firstQueued_45 rfl (lv_at hl 0 rfl) ?_
            refine lv_iload_n hx hb dX1_firstQueued_46 rfl (lv_at hl 3 rfl) ?_
            refine lv_iload_n hx hb dX1_firstQueued_47 rfl (lv_at hl 2 rfl) ?_
            obtain ⟨p6, h7, hM⟩ := b_some hM
            refine q_cv (As := [.int x3, .int x2]) (rest := []) E hw hl (c_X1_isMoreUrgent l D cA tS A h L F x3 x2 σ p6 h7) 2 (bwV bw_c tb_788 tb_790 tb_30 tb_49 tb_791) rfl (by decide +kernel) ⟨Nat.le_of_ble_eq_true rfl, Nat.le_of_ble_eq_true rfl⟩ 12 1 (T := TX1) (N := 6) rfl rfl rfl rfl (Nat.le_of_ble_eq_true rfl) ⟨Nat.zero_le _, Nat.zero_le _⟩ dX1_firstQueued_48 (fun H locs hw => ?_)
            refine lv_if_eq (tgt := 56) hx hb dX1_firstQueued_51 (by decide) (fun c8 => ?_) (fun c8 => ?_)
            · replace hM := i_pos hM c8
              refine lv_iinc (v := (x3 + 1)) (lv' := [(3, .int (x3 + 1)), (0, .ref (h 42)), (1, .int x1), (2, .int x2)]) hx hb dX1_firstQueued_56 hl (k := 3) rfl rfl (by decide) rfl (fun ls hl => ?_)
              refine lv_goto (tgt := 4) hx hb dX1_firstQueued_59 (by decide) ?_
              exact ih _ _ _ _ _ hM _ _ hw _ (lv_sub hl [1, 2, 3, 0] rfl)
            · replace hM := i_neg hM c8
              refine lv_iload_n hx hb dX1_firstQueued_54 rfl (lv_at hl 3 rfl) ?_
              refine lv_istore_n (lv' := [(2, .int x3), (0, .ref (h 42)), (1, .int x1), (3, .int x3)]) hx hb dX1_firstQueued_55 rfl hl (by decide) rfl (fun ls hl => ?_)
              refine lv_iinc (v := (x3 + 1)) (lv' := [(3, .int (x3 + 1)), (2, .int x3), (0, .ref (h 42)), (1, .int x1)]) hx hb dX1_firstQueued_56 hl (k := 3) rfl rfl (by decide) rfl (fun ls hl => ?_)
              refine lv_goto (tgt := 4) hx hb dX1_firstQueued_59 (by decide) ?_
              exact ih _ _ _ _ _ hM _ _ hw _ (lv_sub hl [2, 3, 1, 0] rfl)
set_option maxRecDepth 100000 in
set_option maxHeartbeats 4000000 in
theorem c_X1_firstQueued (l : Launch) (D : va_G) (cA : Nat → ClassId) (tS : Nat → Nat) (A : Nat → Prop) (h : Nat → Nat) (L : Nat) (F : va_W) (N : Nat) (x1 : Int32) (σ : Sg) (r0 : Int32) (hM : f_X1_firstQueued N x1 σ = some r0) : Ct l yX1_firstQueued (Cond.code yX1_firstQueued cX1_firstQueued 4 (some .int) :: bw) 2 43 D cA tS A [.ref (h 42), .int x1] (wK cA h σ ++ (wLg cA h σ L ++ (wC cA h σ ++ F))) (some (.int r0)) (wK cA h σ ++ (wLg cA h σ L ++ (wC cA h σ ++ F))) := by
  refine ct_of (by decide +kernel) (Nat.le_of_ble_eq_true rfl) ?_
  intro p e s m below meth c E hw ls hl
  replace E : Ev p cX1_firstQueued 4 (some .int) RX1 (Cond.code yX1_firstQueued cX1_firstQueued 4 (some .int) :: bw) D cA tS A s m _ meth c := E
  replace hl : lv_has ls 4 [(0, .ref (h 42)), (1, .int x1)] := hl
  have hx := E.1.1
  have hb := E.1.2.1
  unfold f_X1_firstQueued at hM
  refine lv_iconst (v := (-1)) hx hb dX1_firstQueued_0 (by decide) ?_
  refine lv_istore_n (lv' := [(2, .int (-1)), (0, .ref (h 42)), (1, .int x1)]) hx hb dX1_firstQueued_1 rfl hl (by decide) rfl (fun ls hl => ?_)
  refine lv_iconst (v := 0) hx hb dX1_firstQueued_2 (by decide) ?_
  refine lv_istore_n (lv' := [(3, .int 0), (2, .int (-1)), (0, .ref (h 42)), (1, .int x1)]) hx hb dX1_firstQueued_3 rfl hl (by decide) rfl (fun ls hl => ?_)
  exact s_X1_firstQueued_4 l D cA tS A h L F N E N _ _ _ _ _ hM _ _ hw _ (lv_sub hl [2, 3, 1, 0] rfl)
set_option maxRecDepth 100000 in
set_option maxHeartbeats 4000000 in
theorem c_X7_isAnswered (l : Launch) (D : va_G) (cA : Nat → ClassId) (tS : Nat → Nat) (A : Nat → Prop) (h : Nat → Nat) (L : Nat) (F : va_W) (x1 : Int32) (σ : Sg) (r0 : Int32) (hM : f_X7_isAnswered x1 σ = some r0) : Ct l yX7_isAnswered (Cond.code yX7_isAnswered cX7_isAnswered 2 (some .boolean) :: bw) 0 0 D cA tS A [.ref (h 44), .int x1] (wK cA h σ ++ (wLg cA h σ L ++ (wC cA h σ ++ F))) (some (.int r0)) (wK cA h σ ++ (wLg cA h σ L ++ (wC cA h σ ++ F))) := by
  refine ct_of (by decide +kernel) (Nat.le_of_ble_eq_true rfl) ?_
  intro p e s m below meth c E hw ls hl
  replace E : Ev p cX7_isAnswered 2 (some .boolean) RX7 (Cond.code yX7_isAnswered cX7_isAnswered 2 (some .boolean) :: bw) D cA tS A s m _ meth c := E
  replace hl : lv_has ls 2 [(0, .ref (h 44)), (1, .int x1)] := hl
  have hx := E.1.1
  have hb := E.1.2.1
  unfold f_X7_isAnswered at hM
  refine lv_aload_n hx hb dX7_isAnswered_0 rfl (lv_at hl 0 rfl) ?_
  refine q_get (C := RX7) (T := TX7) (N := 15) (ci := 7) E (fun w h => List.mem_cons_of_mem _ (inX7 w h)) hw 16 rfl rfl 12 (by decide) (List.mem_cons_of_mem _ tb_178) (v := .ref (h 28)) rfl dX7_isAnswered_1 ?_
  refine lv_iload_n hx hb dX7_isAnswered_4 rfl (lv_at hl 1 rfl) ?_
  obtain ⟨g1, hM⟩ := g_some hM
  refine q_ald E hw 29 (n := 60) rfl g1 (x := (σ 28 (ix x1))) rfl dX7_isAnswered_5 ?_
  refine lv_iconst (v := (-1)) hx hb dX7_isAnswered_6 (by decide) ?_
  refine lv_icmp_eq (tgt := 14) hx hb dX7_isAnswered_7 (by decide) (fun c2 => ?_) (fun c2 => ?_)
  · replace hM := i_pos hM c2
    refine lv_iconst (v := 0) hx hb dX7_isAnswered_14 (by decide) ?_
    cases hM
    exact q_retz E hw (by decide) dX7_isAnswered_15
  · replace hM := i_neg hM c2
    refine lv_iconst (v := 1) hx hb dX7_isAnswered_10 (by decide) ?_
    refine lv_goto (tgt := 15) hx hb dX7_isAnswered_11 (by decide) ?_
    cases hM
    exact q_retz E hw (by decide) dX7_isAnswered_15
set_option maxRecDepth 100000 in
set_option maxHeartbeats 4000000 in
theorem c_X1_take (l : Launch) (D : va_G) (cA : Nat → ClassId) (tS : Nat → Nat) (A : Nat → Prop) (h : Nat → Nat) (L : Nat) (F : va_W) (x1 : Int32) (σ : Sg) (s0 : Sg) (hM : f_X1_take L x1 σ = some s0) : Ct l yX1_take (Cond.code yX1_take cX1_take 2 none :: bw) 1 24 D cA tS A [.ref (h 42), .int x1] (wK cA h σ ++ (wLg cA h σ L ++ (wC cA h σ ++ F))) none (wK cA h s0 ++ (wLg cA h s0 L ++ (wC cA h s0 ++ F))) := by
  refine ct_of (by decide +kernel) (Nat.le_of_ble_eq_true rfl) ?_
  intro p e s m below meth c E hw ls hl
  replace E : Ev p cX1_take 2 none RX1 (Cond.code yX1_take cX1_take 2 none :: bw) D cA tS A s m _ meth c := E
  replace hl : lv_has ls 2 [(0, .ref (h 42)), (1, .int x1)] := hl
  have hx := E.1.1
  have hb := E.1.2.1
  unfold f_X1_take at hM
  refine lv_aload_n hx hb dX1_take_0 rfl (lv_at hl 0 rfl) ?_
  refine q_get (C := RX1) (T := TX1) (N := 6) (ci := 1) E (fun w h => List.mem_cons_of_mem _ (inX1 w h)) hw 12 rfl rfl 3 (by decide) (List.mem_cons_of_mem _ tb_272) (v := .ref (h 44)) rfl dX1_take_1 ?_
  refine q_get (C := RX7) (T := TX7) (N := 15) (ci := 7) E (fun w h => List.mem_cons_of_mem _ (inX7 w h)) hw 16 rfl rfl 5 (by decide) (List.mem_cons_of_mem _ tb_160) (v := .ref (h 21)) rfl dX1_take_4 ?_
  refine lv_iload_n hx hb dX1_take_7 rfl (lv_at hl 1 rfl) ?_
  refine lv_iconst (v := 1) hx hb dX1_take_8 (by decide) ?_
  obtain ⟨g1, hM⟩ := g_some hM
  refine q_ast E hw 22 (n := 60) rfl g1 (wK cA h (up σ 21 (ix x1) 1) ++ (wLg cA h (up σ 21 (ix x1) 1) L ++ (wC cA h (up σ 21 (ix x1) 1) ++ F))) st_K_Lg_C_21 dX1_take_9 (fun H locs hw => ?_)
  refine lv_aload_n hx hb dX1_take_10 rfl (lv_at hl 0 rfl) ?_
  refine q_get (C := RX1) (T := TX1) (N := 6) (ci := 1) E (fun w h => List.mem_cons_of_mem _ (inX1 w h)) hw 12 rfl rfl 3 (by decide) (List.mem_cons_of_mem _ tb_272) (v := .ref (h 44)) rfl dX1_take_11 ?_
  refine lv_iload_n hx hb dX1_take_14 rfl (lv_at hl 1 rfl) ?_
  obtain ⟨p2, h3, hM⟩ := b_some hM
  refine q_cv (As := [.int x1]) (rest := []) E hw hl (c_X7_isAnswered l D cA tS A h L F x1 (up σ 21 (ix x1) 1) p2 h3) 1 (bwV bw_c tb_800 tb_801 tb_802 tb_52 tb_803) rfl (by decide +kernel) ⟨Nat.le_of_ble_eq_true rfl, Nat.le_of_ble_eq_true rfl⟩ 16 7 (T := TX7) (N := 15) rfl rfl rfl rfl (Nat.le_of_ble_eq_true rfl) ⟨Nat.zero_le _, Nat.zero_le _⟩ dX1_take_15 (fun H locs hw => ?_)
  refine lv_if_ne (tgt := 34) hx hb dX1_take_18 (by decide) (fun c4 => ?_) (fun c4 => ?_)
  · replace hM := i_neg hM c4
    refine lv_aload_n hx hb dX1_take_34 rfl (lv_at hl 0 rfl) ?_
    refine q_get (C := RX1) (T := TX1) (N := 6) (ci := 1) E (fun w h => List.mem_cons_of_mem _ (inX1 w h)) hw 12 rfl rfl 4 (by decide) (List.mem_cons_of_mem _ tb_274) (v := .ref (h 41)) rfl dX1_take_35 ?_
    refine lv_aload_n hx hb dX1_take_38 rfl (lv_at hl 0 rfl) ?_
    refine q_get (C := RX1) (T := TX1) (N := 6) (ci := 1) E (fun w h => List.mem_cons_of_mem _ (inX1 w h)) hw 12 rfl rfl 5 (by decide) (List.mem_cons_of_mem _ tb_276) (v := .int (σ 12 0)) (q_fld (congrFun (up_ne σ 21 (ix x1) 1 12 (by decide)) 0) rfl) dX1_take_39 ?_
    refine lv_iconst (v := 1) hx hb dX1_take_42 (by decide) ?_
    refine lv_iload_n hx hb dX1_take_43 rfl (lv_at hl 1 rfl) ?_
    refine lv_aload_n hx hb dX1_take_44 rfl (lv_at hl 0 rfl) ?_
    refine q_get (C := RX1) (T := TX1) (N := 6) (ci := 1) E (fun w h => List.mem_cons_of_mem _ (inX1 w h)) hw 12 rfl rfl 3 (by decide) (List.mem_cons_of_mem _ tb_272) (v := .ref (h 44)) rfl dX1_take_45 ?_
    refine q_get (C := RX7) (T := TX7) (N := 15) (ci := 7) E (fun w h => List.mem_cons_of_mem _ (inX7 w h)) hw 16 rfl rfl 4 (by decide) (List.mem_cons_of_mem _ tb_157) (v := .ref (h 20)) rfl dX1_take_48 ?_
    refine lv_iload_n hx hb dX1_take_51 rfl (lv_at hl 1 rfl) ?_
    refine q_ald E hw 21 (n := 60) rfl g1 (x := (σ 20 (ix x1))) (congrFun (up_ne σ 21 (ix x1) 1 20 (by decide)) (ix x1)) dX1_take_52 ?_
    obtain ⟨p5, h6, hM⟩ := b_some hM
    refine q_cvv (As := [.int (σ 12 0), .int 1, .int x1, .int (σ 20 (ix x1))]) (rest := []) E hw hl (c_X4_write l D cA tS A h L F (σ 12 0) 1 x1 (σ 20 (ix x1)) (up σ 21 (ix x1) 1) p5 h6) 4 (bwV bw_c tb_596 tb_597 tb_598 tb_53 tb_599) rfl (by decide +kernel) ⟨Nat.le_of_ble_eq_true rfl, Nat.le_of_ble_eq_true rfl⟩ 7 4 (T := TX4) (N := 5) rfl rfl rfl rfl (Nat.le_of_ble_eq_true rfl) ⟨Nat.zero_le _, Nat.zero_le _⟩ dX1_take_53 (fun H locs hw => ?_)
    cases hM
    exact q_retv E hw dX1_take_56
  · replace hM := i_pos hM c4
    refine lv_aload_n hx hb dX1_take_21 rfl (lv_at hl 0 rfl) ?_
    refine q_get (C := RX1) (T := TX1) (N := 6) (ci := 1) E (fun w h => List.mem_cons_of_mem _ (inX1 w h)) hw 12 rfl rfl 3 (by decide) (List.mem_cons_of_mem _ tb_272) (v := .ref (h 44)) rfl dX1_take_22 ?_
    refine q_get (C := RX7) (T := TX7) (N := 15) (ci := 7) E (fun w h => List.mem_cons_of_mem _ (inX7 w h)) hw 16 rfl rfl 12 (by decide) (List.mem_cons_of_mem _ tb_179) (v := .ref (h 28)) rfl dX1_take_25 ?_
    refine lv_iload_n hx hb dX1_take_28 rfl (lv_at hl 1 rfl) ?_
    refine lv_aload_n hx hb dX1_take_29 rfl (lv_at hl 0 rfl) ?_
    refine q_get (C := RX1) (T := TX1) (N := 6) (ci := 1) E (fun w h => List.mem_cons_of_mem _ (inX1 w h)) hw 12 rfl rfl 5 (by decide) (List.mem_cons_of_mem _ tb_276) (v := .int (σ 12 0)) (q_fld (congrFun (up_ne σ 21 (ix x1) 1 12 (by decide)) 0) rfl) dX1_take_30 ?_
    refine q_ast E hw 29 (n := 60) rfl g1 (wK cA h (up (up σ 21 (ix x1) 1) 28 (ix x1) (σ 12 0)) ++ (wLg cA h (up (up σ 21 (ix x1) 1) 28 (ix x1) (σ 12 0)) L ++ (wC cA h (up (up σ 21 (ix x1) 1) 28 (ix x1) (σ 12 0)) ++ F))) st_K_Lg_C_28 dX1_take_33 (fun H locs hw => ?_)
    refine lv_aload_n hx hb dX1_take_34 rfl (lv_at hl 0 rfl) ?_
    refine q_get (C := RX1) (T := TX1) (N := 6) (ci := 1) E (fun w h => List.mem_cons_of_mem _ (inX1 w h)) hw 12 rfl rfl 4 (by decide) (List.mem_cons_of_mem _ tb_274) (v := .ref (h 41)) rfl dX1_take_35 ?_
    refine lv_aload_n hx hb dX1_take_38 rfl (lv_at hl 0 rfl) ?_
    refine q_get (C := RX1) (T := TX1) (N := 6) (ci := 1) E (fun w h => List.mem_cons_of_mem _ (inX1 w h)) hw 12 rfl rfl 5 (by decide) (List.mem_cons_of_mem _ tb_276) (v := .int (σ 12 0)) (q_fld (congrFun ((up_ne (up σ 21 (ix x1) 1) 28 (ix x1) (σ 12 0) 12 (by decide)).trans (up_ne σ 21 (ix x1) 1 12 (by decide))) 0) rfl) dX1_take_39 ?_
    refine lv_iconst (v := 1) hx hb dX1_take_42 (by decide) ?_
    refine lv_iload_n hx hb dX1_take_43 rfl (lv_at hl 1 rfl) ?_
    refine lv_aload_n hx hb dX1_take_44 rfl (lv_at hl 0 rfl) ?_
    refine q_get (C := RX1) (T := TX1) (N := 6) (ci := 1) E (fun w h => List.mem_cons_of_mem _ (inX1 w h)) hw 12 rfl rfl 3 (by decide) (List.mem_cons_of_mem _ tb_272) (v := .ref (h 44)) rfl dX1_take_45 ?_
    refine q_get (C := RX7) (T := TX7) (N := 15) (ci := 7) E (fun w h => List.mem_cons_of_mem _ (inX7 w h)) hw 16 rfl rfl 4 (by decide) (List.mem_cons_of_mem _ tb_157) (v := .ref (h 20)) rfl dX1_take_48 ?_
    refine lv_iload_n hx hb dX1_take_51 rfl (lv_at hl 1 rfl) ?_
    refine q_ald E hw 21 (n := 60) rfl g1 (x := (σ 20 (ix x1))) (congrFun ((up_ne (up σ 21 (ix x1) 1) 28 (ix x1) (σ 12 0) 20 (by decide)).trans (up_ne σ 21 (ix x1) 1 20 (by decide))) (ix x1)) dX1_take_52 ?_
    obtain ⟨p7, h8, hM⟩ := b_some hM
    refine q_cvv (As := [.int (σ 12 0), .int 1, .int x1, .int (σ 20 (ix x1))]) (rest := []) E hw hl (c_X4_write l D cA tS A h L F (σ 12 0) 1 x1 (σ 20 (ix x1)) (up (up σ 21 (ix x1) 1) 28 (ix x1) (σ 12 0)) p7 h8) 4 (bwV bw_c tb_596 tb_597 tb_598 tb_53 tb_599) rfl (by decide +kernel) ⟨Nat.le_of_ble_eq_true rfl, Nat.le_of_ble_eq_true rfl⟩ 7 4 (T := TX4) (N := 5) rfl rfl rfl rfl (Nat.le_of_ble_eq_true rfl) ⟨Nat.zero_le _, Nat.zero_le _⟩ dX1_take_53 (fun H locs hw => ?_)
    cases hM
    exact q_retv E hw dX1_take_56
set_option maxRecDepth 100000 in
set_option maxHeartbeats 4000000 in
theorem s_X1_takeTickets_17 (l : Launch) (D : va_G) (cA : Nat → ClassId) (tS : Nat → Nat) (A : Nat → Prop) (h : Nat → Nat) (L : Nat) (F : va_W) (N : Nat) (k2 : Int32 → Sg → Option (Sg)) {p : Program} {e : Env} {s : State} {m : MethodId} {args : Array Value} {below : List Frame} {meth : Method} {c : Code} (E : Ev p cX1_takeTickets 4 none RX1 (Cond.code yX1_takeTickets cX1_takeTickets 4 none :: bw) D cA tS A s m args meth c) (hk2 : ∀ (x1 : Int32) (σ : Sg) (s0 : Sg) (hM : k2 x1 σ = some s0) (H : Heap) (locs : List Loc) (hw : Wd D A (wK cA h σ ++ (wLg cA h σ L ++ (wC cA h σ ++ F))) s.heap H locs) (ls : Array Slot) (hl : lv_has ls 4 [(0, .ref (h 42)), (1, .int x1)]), W p l e ({ frames := 3, cells := 0, slots := 0, locals := 66 } : Room) s m args below meth c H locs 0 0 (MQ below (QW D A none (wK cA h s0 ++ (wLg cA h s0 L ++ (wC cA h s0 ++ F)))) args s 0 0 A) (F0 m 2 ls [])) : ∀ (n : Nat) (x1 : Int32) (x2 : Int32) (σ : Sg) (s0 : Sg) (hM : f_X1_takeTickets_17 N L k2 n x1 x2 σ = some s0) (H : Heap) (locs : List Loc) (hw : Wd D A (wK cA h σ ++ (wLg cA h σ L ++ (wC cA h σ ++ F))) s.heap H locs) (ls : Array Slot) (hl : lv_has ls 4 [(0, .ref (h 42)), (1, .int x1), (2, .int x2)]), W p l e ({ frames := 3, cells := 0, slots := 0, locals := 66 } : Room) s m args below meth c H locs 0 0 (MQ below (QW D A none (wK cA h s0 ++ (wLg cA h s0 L ++ (wC cA h s0 ++ F)))) args s 0 0 A) (F0 m 17 ls []) := by
  have hx := E.1.1
  have hb := E.1.2.1
  intro n
  induction n with
  | zero =>
    intro x1 x2 σ s0 hM
    cases hM
  | succ n ih =>
    intro x1 x2 σ s0 hM H locs hw ls hl
    rw [f_X1_takeTickets_17] at hM
    refine lv_iload_n hx hb dX1_takeTickets_17 rfl (lv_at hl 2 rfl) ?_
    refine lv_aload_n hx hb dX1_takeTickets_18 rfl (lv_at hl 0 rfl) ?_
    refine q_get (C := RX1) (T := TX1) (N := 6) (ci := 1) E (fun w h => List.mem_cons_of_mem _ (inX1 w h)) hw 12 rfl rfl 2 (by decide) (List.mem_cons_of_mem _ tb_270) (v := .ref (h 30)) rfl dX1_takeTickets_19 ?_
    refine lv_iload_n hx hb dX1_takeTickets_22 rfl (lv_at hl 1 rfl) ?_
    obtain ⟨g1, hM⟩ := g_some hM
    refine q_ald E hw 31 (n := 4) rfl g1 (x := (σ 30 (ix x1))) rfl dX1_takeTickets_23 ?_
    refine lv_icmp_ge (tgt := 52) hx hb dX1_takeTickets_24 (by decide) (fun c2 => ?_) (fun c2 => ?_)
    · replace hM := i_pos hM c2
      refine lv_iinc (v := (x1 + 1)) (lv' := [(1, .int (x1 + 1)), (0, .ref (h 42)), (2, .int x2)]) hx hb dX1_takeTickets_52 hl (k := 1) rfl rfl (by decide) rfl (fun ls hl => ?_)
      refine lv_goto (tgt := 2) hx hb dX1_takeTickets_55 (by decide) ?_
      exact hk2 _ _ _ hM _ _ hw _ (lv_sub hl [1, 0] rfl)
    · replace hM := i_neg hM c2
      refine lv_aload_n hx hb dX1_takeTickets_27 rfl (lv_at hl 0 rfl) ?_
      refine lv_iload_n hx hb dX1_takeTickets_28 rfl (lv_at hl 1 rfl) ?_
      obtain ⟨p3, h4, hM⟩ := b_some hM
      refine q_cv (As := [.int x1]) (rest := []) E hw hl (c_X1_firstQueued l D cA tS A h L F N x1 σ p3 h4) 1 (bwV bw_c tb_784 tb_785 tb_786 tb_49 tb_787) rfl (by decide +kernel) ⟨Nat.le_of_ble_eq_true rfl, Nat.le_of_ble_eq_true rfl⟩ 12 1 (T := TX1) (N := 6) rfl rfl rfl rfl (Nat.le_of_ble_eq_true rfl) ⟨Nat.zero_le _, Nat.zero_le _⟩ dX1_takeTickets_29 (fun H locs hw => ?_)
      refine lv_istore_n (lv' := [(3, .int p3), (0, .ref (h 42)), (1, .int x1), (2, .int x2)]) hx hb dX1_takeTickets_32 rfl hl (by decide) rfl (fun ls hl => ?_)
      refine lv_iload_n hx hb dX1_takeTickets_33 rfl (lv_at hl 0 rfl) ?_
      refine lv_iconst (v := (-1)) hx hb dX1_takeTickets_34 (by decide) ?_
      refine lv_icmp_ne (tgt := 41) hx hb dX1_takeTickets_35 (by decide) (fun c5 => ?_) (fun c5 => ?_)
      · replace hM := i_neg hM c5
        refine lv_aload_n hx hb dX1_takeTickets_41 rfl (lv_at hl 1 rfl) ?_
        refine lv_iload_n hx hb dX1_takeTickets_42 rfl (lv_at hl 0 rfl) ?_
        obtain ⟨p6, h7, hM⟩ := b_some hM
        refine q_cvv (As := [.int p3]) (rest := []) E hw hl (c_X1_take l D cA tS A h L F p3 σ p6 h7) 1 (bwV bw_c tb_796 tb_798 tb_32 tb_49 tb_799) rfl (by decide +kernel) ⟨Nat.le_of_ble_eq_true rfl, Nat.le_of_ble_eq_true rfl⟩ 12 1 (T := TX1) (N := 6) rfl rfl rfl rfl (Nat.le_of_ble_eq_true rfl) ⟨Nat.zero_le _, Nat.zero_le _⟩ dX1_takeTickets_43 (fun H locs hw => ?_)
        refine lv_iinc (v := (x2 + 1)) (lv' := [(2, .int (x2 + 1)), (3, .int p3), (0, .ref (h 42)), (1, .int x1)]) hx hb dX1_takeTickets_46 hl (k := 3) rfl rfl (by decide) rfl (fun ls hl => ?_)
        refine lv_goto (tgt := 17) hx hb dX1_takeTickets_49 (by decide) ?_
        exact ih _ _ _ _ hM _ _ hw _ (lv_sub hl [2, 3, 0] rfl)
      · replace hM := i_pos hM c5
        refine lv_goto (tgt := 52) hx hb dX1_takeTickets_38 (by decide) ?_
        refine lv_iinc (v := (x1 + 1)) (lv' := [(1, .int (x1 + 1)), (3, .int p3), (0, .ref (h 42)), (2, .int x2)]) hx hb dX1_takeTickets_52 hl (k := 2) rfl rfl (by decide) rfl (fun ls hl => ?_)
        refine lv_goto (tgt := 2) hx hb dX1_takeTickets_55 (by decide) ?_
        exact hk2 _ _ _ hM _ _ hw _ (lv_sub hl [2, 0] rfl)
set_option maxRecDepth 100000 in
set_option maxHeartbeats 4000000 in
theorem s_X1_takeTickets_2 (l : Launch) (D : va_G) (cA : Nat → ClassId) (tS : Nat → Nat) (A : Nat → Prop) (h : Nat → Nat) (L : Nat) (F : va_W) (N : Nat) {p : Program} {e : Env} {s : State} {m : MethodId} {args : Array Value} {below : List Frame} {meth : Method} {c : Code} (E : Ev p cX1_takeTickets 4 none RX1 (Cond.code yX1_takeTickets cX1_takeTickets 4 none :: bw) D cA tS A s m args meth c) : ∀ (n : Nat) (x1 : Int32) (σ : Sg) (s0 : Sg) (hM : f_X1_takeTickets_2 N L n x1 σ = some s0) (H : Heap) (locs : List Loc) (hw : Wd D A (wK cA h σ ++ (wLg cA h σ L ++ (wC cA h σ ++ F))) s.heap H locs) (ls : Array Slot) (hl : lv_has ls 4 [(0, .ref (h 42)), (1, .int x1)]), W p l e ({ frames := 3, cells := 0, slots := 0, locals := 66 } : Room) s m args below meth c H locs 0 0 (MQ below (QW D A none (wK cA h s0 ++ (wLg cA h s0 L ++ (wC cA h s0 ++ F)))) args s 0 0 A) (F0 m 2 ls []) := by
  have hx := E.1.1
  have hb := E.1.2.1
  intro n
  induction n with
  | zero =>
    intro x1 σ s0 hM
    cases hM
  | succ n ih =>
    intro x1 σ s0 hM H locs hw ls hl
    rw [f_X1_takeTickets_2] at hM
    refine lv_iload_n hx hb dX1_takeTickets_2 rfl (lv_at hl 1 rfl) ?_
    refine lv_iconst (v := 4) hx hb dX1_takeTickets_3 (by decide) ?_
    refine lv_icmp_ge (tgt := 58) hx hb dX1_takeTickets_4 (by decide) (fun c1 => ?_) (fun c1 => ?_)
    · replace hM := i_pos hM c1
      cases hM
      exact q_retv E hw dX1_takeTickets_58
    · replace hM := i_neg hM c1
      refine lv_aload_n hx hb dX1_takeTickets_7 rfl (lv_at hl 0 rfl) ?_
      refine q_get (C := RX1) (T := TX1) (N := 6) (ci := 1) E (fun w h => List.mem_cons_of_mem _ (inX1 w h)) hw 12 rfl rfl 3 (by decide) (List.mem_cons_of_mem _ tb_272) (v := .ref (h 44)) rfl dX1_takeTickets_8 ?_
      refine lv_iload_n hx hb dX1_takeTickets_11 rfl (lv_at hl 1 rfl) ?_
      refine lv_iconst (v := 1) hx hb dX1_takeTickets_12 (by decide) ?_
      obtain ⟨p2, h3, hM⟩ := b_some hM
      refine q_cv (As := [.int x1, .int 1]) (rest := []) E hw hl (c_X7_countAt l D cA tS A h L F N x1 1 σ p2 h3) 2 (bwV bw_c tb_584 tb_585 tb_586 tb_52 tb_587) rfl (by decide +kernel) ⟨Nat.le_of_ble_eq_true rfl, Nat.le_of_ble_eq_true rfl⟩ 16 7 (T := TX7) (N := 15) rfl rfl rfl rfl (Nat.le_of_ble_eq_true rfl) ⟨Nat.zero_le _, Nat.zero_le _⟩ dX1_takeTickets_13 (fun H locs hw => ?_)
      refine lv_istore_n (lv' := [(2, .int p2), (0, .ref (h 42)), (1, .int x1)]) hx hb dX1_takeTickets_16 rfl hl (by decide) rfl (fun ls hl => ?_)
      exact s_X1_takeTickets_17 l D cA tS A h L F N (fun x1 σ => f_X1_takeTickets_2 N L n x1 σ) E ih N _ _ _ _ hM _ _ hw _ (lv_sub hl [1, 2, 0] rfl)
set_option maxRecDepth 100000 in
set_option maxHeartbeats 4000000 in
theorem c_X1_takeTickets (l : Launch) (D : va_G) (cA : Nat → ClassId) (tS : Nat → Nat) (A : Nat → Prop) (h : Nat → Nat) (L : Nat) (F : va_W) (N : Nat) (σ : Sg) (s0 : Sg) (hM : f_X1_takeTickets N L σ = some s0) : Ct l yX1_takeTickets (Cond.code yX1_takeTickets cX1_takeTickets 4 none :: bw) 3 66 D cA tS A [.ref (h 42)] (wK cA h σ ++ (wLg cA h σ L ++ (wC cA h σ ++ F))) none (wK cA h s0 ++ (wLg cA h s0 L ++ (wC cA h s0 ++ F))) := by
  refine ct_of (by decide +kernel) (Nat.le_of_ble_eq_true rfl) ?_
  intro p e s m below meth c E hw ls hl
  replace E : Ev p cX1_takeTickets 4 none RX1 (Cond.code yX1_takeTickets cX1_takeTickets 4 none :: bw) D cA tS A s m _ meth c := E
  replace hl : lv_has ls 4 [(0, .ref (h 42))] := hl
  have hx := E.1.1
  have hb := E.1.2.1
  unfold f_X1_takeTickets at hM
  refine lv_iconst (v := 0) hx hb dX1_takeTickets_0 (by decide) ?_
  refine lv_istore_n (lv' := [(1, .int 0), (0, .ref (h 42))]) hx hb dX1_takeTickets_1 rfl hl (by decide) rfl (fun ls hl => ?_)
  exact s_X1_takeTickets_2 l D cA tS A h L F N E N _ _ _ hM _ _ hw _ (lv_sub hl [1, 0] rfl)
set_option maxRecDepth 100000 in
set_option maxHeartbeats 4000000 in
theorem c_X1_counts (l : Launch) (D : va_G) (cA : Nat → ClassId) (tS : Nat → Nat) (A : Nat → Prop) (h : Nat → Nat) (L : Nat) (F : va_W) (x1 : Int32) (x2 : Int32) (σ : Sg) (r0 : Int32) (hM : f_X1_counts x1 x2 σ = some r0) : Ct l yX1_counts (Cond.code yX1_counts cX1_counts 3 (some .boolean) :: bw) 0 0 D cA tS A [.ref (h 42), .int x1, .int x2] (wK cA h σ ++ (wLg cA h σ L ++ (wC cA h σ ++ F))) (some (.int r0)) (wK cA h σ ++ (wLg cA h σ L ++ (wC cA h σ ++ F))) := by
  refine ct_of (by decide +kernel) (Nat.le_of_ble_eq_true rfl) ?_
  intro p e s m below meth c E hw ls hl
  replace E : Ev p cX1_counts 3 (some .boolean) RX1 (Cond.code yX1_counts cX1_counts 3 (some .boolean) :: bw) D cA tS A s m _ meth c := E
  replace hl : lv_has ls 3 [(0, .ref (h 42)), (1, .int x1), (2, .int x2)] := hl
  have hx := E.1.1
  have hb := E.1.2.1
  unfold f_X1_counts at hM
  refine lv_iload_n hx hb dX1_counts_0 rfl (lv_at hl 2 rfl) ?_
  refine lv_if_ne (tgt := 24) hx hb dX1_counts_1 (by decide) (fun c1 => ?_) (fun c1 => ?_)
  · replace hM := i_neg hM c1
    refine lv_iconst (v := 1) hx hb dX1_counts_24 (by decide) ?_
    refine lv_goto (tgt := 29) hx hb dX1_counts_25 (by decide) ?_
    cases hM
    exact q_retz E hw (by decide) dX1_counts_29
  · replace hM := i_pos hM c1
    refine lv_aload_n hx hb dX1_counts_4 rfl (lv_at hl 0 rfl) ?_
    refine q_get (C := RX1) (T := TX1) (N := 6) (ci := 1) E (fun w h => List.mem_cons_of_mem _ (inX1 w h)) hw 12 rfl rfl 1 (by decide) (List.mem_cons_of_mem _ tb_268) (v := .ref (h 40)) rfl dX1_counts_5 ?_
    refine q_get (C := RX3) (T := TX3) (N := 7) (ci := 3) E (fun w h => List.mem_cons_of_mem _ (inX3 w h)) hw 0 rfl rfl 5 (by decide) (List.mem_cons_of_mem _ tb_123) (v := .ref (h 6)) rfl dX1_counts_8 ?_
    refine lv_aload_n hx hb dX1_counts_11 rfl (lv_at hl 0 rfl) ?_
    refine q_get (C := RX1) (T := TX1) (N := 6) (ci := 1) E (fun w h => List.mem_cons_of_mem _ (inX1 w h)) hw 12 rfl rfl 3 (by decide) (List.mem_cons_of_mem _ tb_272) (v := .ref (h 44)) rfl dX1_counts_12 ?_
    refine q_get (C := RX7) (T := TX7) (N := 15) (ci := 7) E (fun w h => List.mem_cons_of_mem _ (inX7 w h)) hw 16 rfl rfl 0 (by decide) (List.mem_cons_of_mem _ tb_151) (v := .ref (h 16)) rfl dX1_counts_15 ?_
    refine lv_iload_n hx hb dX1_counts_18 rfl (lv_at hl 1 rfl) ?_
    obtain ⟨g2, hM⟩ := g_some hM
    refine q_ald E hw 17 (n := 60) rfl g2 (x := (σ 16 (ix x1))) rfl dX1_counts_19 ?_
    obtain ⟨g3, hM⟩ := g_some hM
    refine q_zld E hw 6 (n := 6) rfl g3 (x := (σ 6 (ix (σ 16 (ix x1))))) rfl dX1_counts_20 ?_
    refine lv_if_eq (tgt := 28) hx hb dX1_counts_21 (by decide) (fun c4 => ?_) (fun c4 => ?_)
    · replace hM := i_pos hM c4
      refine lv_iconst (v := 0) hx hb dX1_counts_28 (by decide) ?_
      cases hM
      exact q_retz E hw (by decide) dX1_counts_29
    · replace hM := i_neg hM c4
      refine lv_iconst (v := 1) hx hb dX1_counts_24 (by decide) ?_
      refine lv_goto (tgt := 29) hx hb dX1_counts_25 (by decide) ?_
      cases hM
      exact q_retz E hw (by decide) dX1_counts_29
