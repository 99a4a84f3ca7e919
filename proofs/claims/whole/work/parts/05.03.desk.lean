set_option maxRecDepth 100000 in
set_option maxHeartbeats 4000000 in
theorem s_X7_sameFaultBefore_2 (l : Launch) (D : va_G) (cA : Nat → ClassId) (tS : Nat → Nat) (A : Nat → Prop) (h : Nat → Nat) (L : Nat) (F : va_W) (N : Nat) {p : Program} {e : Env} {s : State} {m : MethodId} {args : Array Value} {below : List Frame} {meth : Method} {c : Code} (E : Ev p cX7_sameFaultBefore 3 (some .int) RX7 (Cond.code yX7_sameFaultBefore cX7_sameFaultBefore 3 (some .int) :: bw) D cA tS A s m args meth c) : ∀ (n : Nat) (x1 : Int32) (x2 : Int32) (σ : Sg) (r0 : Int32) (hM : f_X7_sameFaultBefore_2 N n x1 x2 σ = some r0) (H : Heap) (locs : List Loc) (hw : Wd D A (wK cA h σ ++ (wLg cA h σ L ++ (wC cA h σ ++ F))) s.heap H locs) (ls : Array Slot) (hl : lv_has ls 3 [(0, .ref (h 44)), (1, .int x1), (2, .int x2)]), W p l e ({ frames := 1, cells := 0, slots := 0, locals := 21 } : Room) s m args below meth c H locs 0 0 (MQ below (QW D A (some (.int r0)) (wK cA h σ ++ (wLg cA h σ L ++ (wC cA h σ ++ F)))) args s 0 0 A) (F0 m 2 ls []) := by
  have hx := E.1.1
  have hb := E.1.2.1
  intro n
  induction n with
  | zero =>
    intro x1 x2 σ r0 hM
    cases hM
  | succ n ih =>
    intro x1 x2 σ r0 hM H locs hw ls hl
    rw [f_X7_sameFaultBefore_2] at hM
    refine lv_iload_n hx hb dX7_sameFaultBefore_2 rfl (lv_at hl 2 rfl) ?_
    refine lv_iload_n hx hb dX7_sameFaultBefore_3 rfl (lv_at hl 1 rfl) ?_
    refine lv_icmp_ge (tgt := 72) hx hb dX7_sameFaultBefore_4 (by decide) (fun c1 => ?_) (fun c1 => ?_)
    · replace hM := i_pos hM c1
      refine lv_iconst (v := (-1)) hx hb dX7_sameFaultBefore_72 (by decide) ?_
      cases hM
      exact q_reti E hw dX7_sameFaultBefore_73
    · replace hM := i_neg hM c1
      refine lv_aload_n hx hb dX7_sameFaultBefore_7 rfl (lv_at hl 0 rfl) ?_
      refine lv_iload_n hx hb dX7_sameFaultBefore_8 rfl (lv_at hl 2 rfl) ?_
      obtain ⟨p2, h3, hM⟩ := b_some hM
      refine q_cv (As := [.int x2]) (rest := []) E hw hl (c_X7_standsAlone l D cA tS A h L F x2 σ p2 h3) 1 (bwV bw_c tb_848 tb_491 tb_492 tb_104 tb_493) rfl (by decide +kernel) ⟨Nat.le_of_ble_eq_true rfl, Nat.le_of_ble_eq_true rfl⟩ 16 7 (T := TX7) (N := 15) rfl rfl rfl rfl (Nat.le_of_ble_eq_true rfl) ⟨Nat.zero_le _, Nat.zero_le _⟩ dX7_sameFaultBefore_9 (fun H locs hw => ?_)
      refine lv_if_eq (tgt := 66) hx hb dX7_sameFaultBefore_12 (by decide) (fun c4 => ?_) (fun c4 => ?_)
      · replace hM := i_pos hM c4
        refine lv_iinc (v := (x2 + 1)) (lv' := [(2, .int (x2 + 1)), (0, .ref (h 44)), (1, .int x1)]) hx hb dX7_sameFaultBefore_66 hl (k := 2) rfl rfl (by decide) rfl (fun ls hl => ?_)
        refine lv_goto (tgt := 2) hx hb dX7_sameFaultBefore_69 (by decide) ?_
        exact ih _ _ _ _ hM _ _ hw _ (lv_sub hl [1, 2, 0] rfl)
      · replace hM := i_neg hM c4
        refine lv_aload_n hx hb dX7_sameFaultBefore_15 rfl (lv_at hl 0 rfl) ?_
        refine q_get (C := RX7) (T := TX7) (N := 15) (ci := 7) E (fun w h => List.mem_cons_of_mem _ (inX7 w h)) hw 16 rfl rfl 0 (by decide) (List.mem_cons_of_mem _ tb_196) (v := .ref (h 16)) rfl dX7_sameFaultBefore_16 ?_
        refine lv_iload_n hx hb dX7_sameFaultBefore_19 rfl (lv_at hl 2 rfl) ?_
        obtain ⟨g5, hM⟩ := g_some hM
        refine q_ald E hw 17 (n := 60) rfl g5 (x := (σ 16 (ix x2))) rfl dX7_sameFaultBefore_20 ?_
        refine lv_aload_n hx hb dX7_sameFaultBefore_21 rfl (lv_at hl 0 rfl) ?_
        refine q_get (C := RX7) (T := TX7) (N := 15) (ci := 7) E (fun w h => List.mem_cons_of_mem _ (inX7 w h)) hw 16 rfl rfl 0 (by decide) (List.mem_cons_of_mem _ tb_196) (v := .ref (h 16)) rfl dX7_sameFaultBefore_22 ?_
        refine lv_iload_n hx hb dX7_sameFaultBefore_25 rfl (lv_at hl 1 rfl) ?_
        obtain ⟨g6, hM⟩ := g_some hM
        refine q_ald E hw 17 (n := 60) rfl g6 (x := (σ 16 (ix x1))) rfl dX7_sameFaultBefore_26 ?_
        refine lv_icmp_ne (tgt := 66) hx hb dX7_sameFaultBefore_27 (by decide) (fun c7 => ?_) (fun c7 => ?_)
        · replace hM := i_neg hM c7
          refine lv_iinc (v := (x2 + 1)) (lv' := [(2, .int (x2 + 1)), (0, .ref (h 44)), (1, .int x1)]) hx hb dX7_sameFaultBefore_66 hl (k := 2) rfl rfl (by decide) rfl (fun ls hl => ?_)
          refine lv_goto (tgt := 2) hx hb dX7_sameFaultBefore_69 (by decide) ?_
          exact ih _ _ _ _ hM _ _ hw _ (lv_sub hl [1, 2, 0] rfl)
        · replace hM := i_pos hM c7
          refine lv_aload_n hx hb dX7_sameFaultBefore_30 rfl (lv_at hl 0 rfl) ?_
          refine q_get (C := RX7) (T := TX7) (N := 15) (ci := 7) E (fun w h => List.mem_cons_of_mem _ (inX7 w h)) hw 16 rfl rfl 2 (by decide) (List.mem_cons_of_mem _ tb_200) (v := .ref (h 18)) rfl dX7_sameFaultBefore_31 ?_
          refine lv_iload_n hx hb dX7_sameFaultBefore_34 rfl (lv_at hl 2 rfl) ?_
          refine q_ald E hw 19 (n := 60) rfl g5 (x := (σ 18 (ix x2))) rfl dX7_sameFaultBefore_35 ?_
          refine lv_aload_n hx hb dX7_sameFaultBefore_36 rfl (lv_at hl 0 rfl) ?_
          refine q_get (C := RX7) (T := TX7) (N := 15) (ci := 7) E (fun w h => List.mem_cons_of_mem _ (inX7 w h)) hw 16 rfl rfl 2 (by decide) (List.mem_cons_of_mem _ tb_200) (v := .ref (h 18)) rfl dX7_sameFaultBefore_37 ?_
          refine lv_iload_n hx hb dX7_sameFaultBefore_40 rfl (lv_at hl 1 rfl) ?_
          refine q_ald E hw 19 (n := 60) rfl g6 (x := (σ 18 (ix x1))) rfl dX7_sameFaultBefore_41 ?_
          refine lv_icmp_ne (tgt := 66) hx hb dX7_sameFaultBefore_42 (by decide) (fun c8 => ?_) (fun c8 => ?_)
          · replace hM := i_neg hM c8
            refine lv_iinc (v := (x2 + 1)) (lv' := [(2, .int (x2 + 1)), (0, .ref (h 44)), (1, .int x1)]) hx hb dX7_sameFaultBefore_66 hl (k := 2) rfl rfl (by decide) rfl (fun ls hl => ?_)
            refine lv_goto (tgt := 2) hx hb dX7_sameFaultBefore_69 (by decide) ?_
            exact ih _ _ _ _ hM _ _ hw _ (lv_sub hl [1, 2, 0] rfl)
          · replace hM := i_pos hM c8
            refine lv_aload_n hx hb dX7_sameFaultBefore_45 rfl (lv_at hl 0 rfl) ?_
            refine q_get (C := RX7) (T := TX7) (N := 15) (ci := 7) E (fun w h => List.mem_cons_of_mem _ (inX7 w h)) hw 16 rfl rfl 11 (by decide) (List.mem_cons_of_mem _ tb_224) (v := .ref (h 27)) rfl dX7_sameFaultBefore_46 ?_
            refine lv_iload_n hx hb dX7_sameFaultBefore_49 rfl (lv_at hl 1 rfl) ?_
            refine q_ald E hw 28 (n := 60) rfl g6 (x := (σ 27 (ix x1))) rfl dX7_sameFaultBefore_50 ?_
            refine lv_aload_n hx hb dX7_sameFaultBefore_51 rfl (lv_at hl 0 rfl) ?_
            refine q_get (C := RX7) (T := TX7) (N := 15) (ci := 7) E (fun w h => List.mem_cons_of_mem _ (inX7 w h)) hw 16 rfl rfl 11 (by decide) (List.mem_cons_of_mem _ tb_224) (v := .ref (h 27)) rfl dX7_sameFaultBefore_52 ?_
            refine lv_iload_n hx hb dX7_sameFaultBefore_55 rfl (lv_at hl 2 rfl) ?_
            refine q_ald E hw 28 (n := 60) rfl g5 (x := (σ 27 (ix x2))) rfl dX7_sameFaultBefore_56 ?_
            refine lv_isub hx hb dX7_sameFaultBefore_57 ?_
            refine lv_sipush (v := 240) hx hb dX7_sameFaultBefore_58 (by decide) ?_
            refine lv_icmp_gt (tgt := 66) hx hb dX7_sameFaultBefore_61 (by decide) (fun c9 => ?_) (fun c9 => ?_)
            · replace hM := i_pos hM c9
              refine lv_iinc (v := (x2 + 1)) (lv' := [(2, .int (x2 + 1)), (0, .ref (h 44)), (1, .int x1)]) hx hb dX7_sameFaultBefore_66 hl (k := 2) rfl rfl (by decide) rfl (fun ls hl => ?_)
              refine lv_goto (tgt := 2) hx hb dX7_sameFaultBefore_69 (by decide) ?_
              exact ih _ _ _ _ hM _ _ hw _ (lv_sub hl [1, 2, 0] rfl)
            · replace hM := i_neg hM c9
              refine lv_iload_n hx hb dX7_sameFaultBefore_64 rfl (lv_at hl 2 rfl) ?_
              cases hM
              exact q_reti E hw dX7_sameFaultBefore_65
set_option maxRecDepth 100000 in
set_option maxHeartbeats 4000000 in
theorem c_X7_sameFaultBefore (l : Launch) (D : va_G) (cA : Nat → ClassId) (tS : Nat → Nat) (A : Nat → Prop) (h : Nat → Nat) (L : Nat) (F : va_W) (N : Nat) (x1 : Int32) (σ : Sg) (r0 : Int32) (hM : f_X7_sameFaultBefore N x1 σ = some r0) : Ct l yX7_sameFaultBefore (Cond.code yX7_sameFaultBefore cX7_sameFaultBefore 3 (some .int) :: bw) 1 21 D cA tS A [.ref (h 44), .int x1] (wK cA h σ ++ (wLg cA h σ L ++ (wC cA h σ ++ F))) (some (.int r0)) (wK cA h σ ++ (wLg cA h σ L ++ (wC cA h σ ++ F))) := by
  refine ct_of (by decide +kernel) (Nat.le_of_ble_eq_true rfl) ?_
  intro p e s m below meth c E hw ls hl
  replace E : Ev p cX7_sameFaultBefore 3 (some .int) RX7 (Cond.code yX7_sameFaultBefore cX7_sameFaultBefore 3 (some .int) :: bw) D cA tS A s m _ meth c := E
  replace hl : lv_has ls 3 [(0, .ref (h 44)), (1, .int x1)] := hl
  have hx := E.1.1
  have hb := E.1.2.1
  unfold f_X7_sameFaultBefore at hM
  refine lv_iconst (v := 0) hx hb dX7_sameFaultBefore_0 (by decide) ?_
  refine lv_istore_n (lv' := [(2, .int 0), (0, .ref (h 44)), (1, .int x1)]) hx hb dX7_sameFaultBefore_1 rfl hl (by decide) rfl (fun ls hl => ?_)
  exact s_X7_sameFaultBefore_2 l D cA tS A h L F N E N _ _ _ _ hM _ _ hw _ (lv_sub hl [1, 2, 0] rfl)
set_option maxRecDepth 100000 in
set_option maxHeartbeats 4000000 in
theorem s_X7_solvedBelow_4 (l : Launch) (D : va_G) (cA : Nat → ClassId) (tS : Nat → Nat) (A : Nat → Prop) (h : Nat → Nat) (L : Nat) (F : va_W) (N : Nat) {p : Program} {e : Env} {s : State} {m : MethodId} {args : Array Value} {below : List Frame} {meth : Method} {c : Code} (E : Ev p cX7_solvedBelow 4 (some .int) RX7 (Cond.code yX7_solvedBelow cX7_solvedBelow 4 (some .int) :: bw) D cA tS A s m args meth c) : ∀ (n : Nat) (x1 : Int32) (x2 : Int32) (x3 : Int32) (σ : Sg) (r0 : Int32) (hM : f_X7_solvedBelow_4 N n x1 x2 x3 σ = some r0) (H : Heap) (locs : List Loc) (hw : Wd D A (wK cA h σ ++ (wLg cA h σ L ++ (wC cA h σ ++ F))) s.heap H locs) (ls : Array Slot) (hl : lv_has ls 4 [(0, .ref (h 44)), (1, .int x1), (2, .int x2), (3, .int x3)]), W p l e ({ frames := 0, cells := 0, slots := 0, locals := 0 } : Room) s m args below meth c H locs 0 0 (MQ below (QW D A (some (.int r0)) (wK cA h σ ++ (wLg cA h σ L ++ (wC cA h σ ++ F)))) args s 0 0 A) (F0 m 4 ls []) := by
  have hx := E.1.1
  have hb := E.1.2.1
  intro n
  induction n with
  | zero =>
    intro x1 x2 x3 σ r0 hM
    cases hM
  | succ n ih =>
    intro x1 x2 x3 σ r0 hM H locs hw ls hl
    rw [f_X7_solvedBelow_4] at hM
    refine lv_iload_n hx hb dX7_solvedBelow_4 rfl (lv_at hl 3 rfl) ?_
    refine lv_aload_n hx hb dX7_solvedBelow_5 rfl (lv_at hl 0 rfl) ?_
    refine q_get (C := RX7) (T := TX7) (N := 15) (ci := 7) E (fun w h => List.mem_cons_of_mem _ (inX7 w h)) hw 16 rfl rfl 14 (by decide) (List.mem_cons_of_mem _ tb_232) (v := .int (σ 15 0)) rfl dX7_solvedBelow_6 ?_
    refine lv_icmp_ge (tgt := 41) hx hb dX7_solvedBelow_9 (by decide) (fun c1 => ?_) (fun c1 => ?_)
    · replace hM := i_pos hM c1
      refine lv_iload_n hx hb dX7_solvedBelow_41 rfl (lv_at hl 2 rfl) ?_
      cases hM
      exact q_reti E hw dX7_solvedBelow_42
    · replace hM := i_neg hM c1
      refine lv_aload_n hx hb dX7_solvedBelow_12 rfl (lv_at hl 0 rfl) ?_
      refine q_get (C := RX7) (T := TX7) (N := 15) (ci := 7) E (fun w h => List.mem_cons_of_mem _ (inX7 w h)) hw 16 rfl rfl 5 (by decide) (List.mem_cons_of_mem _ tb_207) (v := .ref (h 21)) rfl dX7_solvedBelow_13 ?_
      refine lv_iload_n hx hb dX7_solvedBelow_16 rfl (lv_at hl 3 rfl) ?_
      obtain ⟨g2, hM⟩ := g_some hM
      refine q_ald E hw 22 (n := 60) rfl g2 (x := (σ 21 (ix x3))) rfl dX7_solvedBelow_17 ?_
      refine lv_iconst (v := 3) hx hb dX7_solvedBelow_18 (by decide) ?_
      refine lv_icmp_ne (tgt := 35) hx hb dX7_solvedBelow_19 (by decide) (fun c3 => ?_) (fun c3 => ?_)
      · replace hM := i_neg hM c3
        refine lv_iinc (v := (x3 + 1)) (lv' := [(3, .int (x3 + 1)), (0, .ref (h 44)), (1, .int x1), (2, .int x2)]) hx hb dX7_solvedBelow_35 hl (k := 3) rfl rfl (by decide) rfl (fun ls hl => ?_)
        refine lv_goto (tgt := 4) hx hb dX7_solvedBelow_38 (by decide) ?_
        exact ih _ _ _ _ _ hM _ _ hw _ (lv_sub hl [1, 2, 3, 0] rfl)
      · replace hM := i_pos hM c3
        refine lv_aload_n hx hb dX7_solvedBelow_22 rfl (lv_at hl 0 rfl) ?_
        refine q_get (C := RX7) (T := TX7) (N := 15) (ci := 7) E (fun w h => List.mem_cons_of_mem _ (inX7 w h)) hw 16 rfl rfl 9 (by decide) (List.mem_cons_of_mem _ tb_218) (v := .ref (h 25)) rfl dX7_solvedBelow_23 ?_
        refine lv_iload_n hx hb dX7_solvedBelow_26 rfl (lv_at hl 3 rfl) ?_
        refine q_ald E hw 26 (n := 60) rfl g2 (x := (σ 25 (ix x3))) rfl dX7_solvedBelow_27 ?_
        refine lv_iload_n hx hb dX7_solvedBelow_28 rfl (lv_at hl 1 rfl) ?_
        refine lv_icmp_ge (tgt := 35) hx hb dX7_solvedBelow_29 (by decide) (fun c4 => ?_) (fun c4 => ?_)
        · replace hM := i_pos hM c4
          refine lv_iinc (v := (x3 + 1)) (lv' := [(3, .int (x3 + 1)), (0, .ref (h 44)), (1, .int x1), (2, .int x2)]) hx hb dX7_solvedBelow_35 hl (k := 3) rfl rfl (by decide) rfl (fun ls hl => ?_)
          refine lv_goto (tgt := 4) hx hb dX7_solvedBelow_38 (by decide) ?_
          exact ih _ _ _ _ _ hM _ _ hw _ (lv_sub hl [1, 2, 3, 0] rfl)
        · replace hM := i_neg hM c4
          refine lv_iinc (v := (x2 + 1)) (lv' := [(2, .int (x2 + 1)), (0, .ref (h 44)), (1, .int x1), (3, .int x3)]) hx hb dX7_solvedBelow_32 hl (k := 2) rfl rfl (by decide) rfl (fun ls hl => ?_)
          refine lv_iinc (v := (x3 + 1)) (lv' := [(3, .int (x3 + 1)), (2, .int (x2 + 1)), (0, .ref (h 44)), (1, .int x1)]) hx hb dX7_solvedBelow_35 hl (k := 3) rfl rfl (by decide) rfl (fun ls hl => ?_)
          refine lv_goto (tgt := 4) hx hb dX7_solvedBelow_38 (by decide) ?_
          exact ih _ _ _ _ _ hM _ _ hw _ (lv_sub hl [2, 3, 1, 0] rfl)
set_option maxRecDepth 100000 in
set_option maxHeartbeats 4000000 in
theorem c_X7_solvedBelow (l : Launch) (D : va_G) (cA : Nat → ClassId) (tS : Nat → Nat) (A : Nat → Prop) (h : Nat → Nat) (L : Nat) (F : va_W) (N : Nat) (x1 : Int32) (σ : Sg) (r0 : Int32) (hM : f_X7_solvedBelow N x1 σ = some r0) : Ct l yX7_solvedBelow (Cond.code yX7_solvedBelow cX7_solvedBelow 4 (some .int) :: bw) 0 0 D cA tS A [.ref (h 44), .int x1] (wK cA h σ ++ (wLg cA h σ L ++ (wC cA h σ ++ F))) (some (.int r0)) (wK cA h σ ++ (wLg cA h σ L ++ (wC cA h σ ++ F))) := by
  refine ct_of (by decide +kernel) (Nat.le_of_ble_eq_true rfl) ?_
  intro p e s m below meth c E hw ls hl
  replace E : Ev p cX7_solvedBelow 4 (some .int) RX7 (Cond.code yX7_solvedBelow cX7_solvedBelow 4 (some .int) :: bw) D cA tS A s m _ meth c := E
  replace hl : lv_has ls 4 [(0, .ref (h 44)), (1, .int x1)] := hl
  have hx := E.1.1
  have hb := E.1.2.1
  unfold f_X7_solvedBelow at hM
  refine lv_iconst (v := 0) hx hb dX7_solvedBelow_0 (by decide) ?_
  refine lv_istore_n (lv' := [(2, .int 0), (0, .ref (h 44)), (1, .int x1)]) hx hb dX7_solvedBelow_1 rfl hl (by decide) rfl (fun ls hl => ?_)
  refine lv_iconst (v := 0) hx hb dX7_solvedBelow_2 (by decide) ?_
  refine lv_istore_n (lv' := [(3, .int 0), (2, .int 0), (0, .ref (h 44)), (1, .int x1)]) hx hb dX7_solvedBelow_3 rfl hl (by decide) rfl (fun ls hl => ?_)
  exact s_X7_solvedBelow_4 l D cA tS A h L F N E N _ _ _ _ _ hM _ _ hw _ (lv_sub hl [2, 3, 1, 0] rfl)
set_option maxRecDepth 100000 in
set_option maxHeartbeats 4000000 in
theorem s_X7_solvedClock_2 (l : Launch) (D : va_G) (cA : Nat → ClassId) (tS : Nat → Nat) (A : Nat → Prop) (h : Nat → Nat) (L : Nat) (F : va_W) (N : Nat) {p : Program} {e : Env} {s : State} {m : MethodId} {args : Array Value} {below : List Frame} {meth : Method} {c : Code} (E : Ev p cX7_solvedClock 3 (some .int) RX7 (Cond.code yX7_solvedClock cX7_solvedClock 3 (some .int) :: bw) D cA tS A s m args meth c) : ∀ (n : Nat) (x1 : Int32) (x2 : Int32) (σ : Sg) (r0 : Int32) (hM : f_X7_solvedClock_2 N n x1 x2 σ = some r0) (H : Heap) (locs : List Loc) (hw : Wd D A (wK cA h σ ++ (wLg cA h σ L ++ (wC cA h σ ++ F))) s.heap H locs) (ls : Array Slot) (hl : lv_has ls 3 [(0, .ref (h 44)), (1, .int x1), (2, .int x2)]), W p l e ({ frames := 1, cells := 0, slots := 0, locals := 23 } : Room) s m args below meth c H locs 0 0 (MQ below (QW D A (some (.int r0)) (wK cA h σ ++ (wLg cA h σ L ++ (wC cA h σ ++ F)))) args s 0 0 A) (F0 m 2 ls []) := by
  have hx := E.1.1
  have hb := E.1.2.1
  intro n
  induction n with
  | zero =>
    intro x1 x2 σ r0 hM
    cases hM
  | succ n ih =>
    intro x1 x2 σ r0 hM H locs hw ls hl
    rw [f_X7_solvedClock_2] at hM
    refine lv_iload_n hx hb dX7_solvedClock_2 rfl (lv_at hl 2 rfl) ?_
    refine lv_aload_n hx hb dX7_solvedClock_3 rfl (lv_at hl 0 rfl) ?_
    refine q_get (C := RX7) (T := TX7) (N := 15) (ci := 7) E (fun w h => List.mem_cons_of_mem _ (inX7 w h)) hw 16 rfl rfl 14 (by decide) (List.mem_cons_of_mem _ tb_232) (v := .int (σ 15 0)) rfl dX7_solvedClock_4 ?_
    refine lv_icmp_ge (tgt := 63) hx hb dX7_solvedClock_7 (by decide) (fun c1 => ?_) (fun c1 => ?_)
    · replace hM := i_pos hM c1
      refine lv_iconst (v := (-1)) hx hb dX7_solvedClock_63 (by decide) ?_
      cases hM
      exact q_reti E hw dX7_solvedClock_64
    · replace hM := i_neg hM c1
      refine lv_aload_n hx hb dX7_solvedClock_10 rfl (lv_at hl 0 rfl) ?_
      refine q_get (C := RX7) (T := TX7) (N := 15) (ci := 7) E (fun w h => List.mem_cons_of_mem _ (inX7 w h)) hw 16 rfl rfl 5 (by decide) (List.mem_cons_of_mem _ tb_207) (v := .ref (h 21)) rfl dX7_solvedClock_11 ?_
      refine lv_iload_n hx hb dX7_solvedClock_14 rfl (lv_at hl 2 rfl) ?_
      obtain ⟨g2, hM⟩ := g_some hM
      refine q_ald E hw 22 (n := 60) rfl g2 (x := (σ 21 (ix x2))) rfl dX7_solvedClock_15 ?_
      refine lv_iconst (v := 3) hx hb dX7_solvedClock_16 (by decide) ?_
      refine lv_icmp_ne (tgt := 57) hx hb dX7_solvedClock_17 (by decide) (fun c3 => ?_) (fun c3 => ?_)
      · replace hM := i_neg hM c3
        refine lv_iinc (v := (x2 + 1)) (lv' := [(2, .int (x2 + 1)), (0, .ref (h 44)), (1, .int x1)]) hx hb dX7_solvedClock_57 hl (k := 2) rfl rfl (by decide) rfl (fun ls hl => ?_)
        refine lv_goto (tgt := 2) hx hb dX7_solvedClock_60 (by decide) ?_
        exact ih _ _ _ _ hM _ _ hw _ (lv_sub hl [1, 2, 0] rfl)
      · replace hM := i_pos hM c3
        refine lv_aload_n hx hb dX7_solvedClock_20 rfl (lv_at hl 0 rfl) ?_
        refine lv_aload_n hx hb dX7_solvedClock_21 rfl (lv_at hl 0 rfl) ?_
        refine q_get (C := RX7) (T := TX7) (N := 15) (ci := 7) E (fun w h => List.mem_cons_of_mem _ (inX7 w h)) hw 16 rfl rfl 9 (by decide) (List.mem_cons_of_mem _ tb_218) (v := .ref (h 25)) rfl dX7_solvedClock_22 ?_
        refine lv_iload_n hx hb dX7_solvedClock_25 rfl (lv_at hl 2 rfl) ?_
        refine q_ald E hw 26 (n := 60) rfl g2 (x := (σ 25 (ix x2))) rfl dX7_solvedClock_26 ?_
        obtain ⟨p4, h5, hM⟩ := b_some hM
        refine q_cv (As := [.int (σ 25 (ix x2))]) (rest := []) E hw hl (c_X7_solvedBelow l D cA tS A h L F N (σ 25 (ix x2)) σ p4 h5) 1 (bwV bw_c tb_886 tb_888 tb_32 tb_104 tb_889) rfl (by decide +kernel) ⟨Nat.le_of_ble_eq_true rfl, Nat.le_of_ble_eq_true rfl⟩ 16 7 (T := TX7) (N := 15) rfl rfl rfl rfl (Nat.le_of_ble_eq_true rfl) ⟨Nat.zero_le _, Nat.zero_le _⟩ dX7_solvedClock_27 (fun H locs hw => ?_)
        refine lv_iload_n hx hb dX7_solvedClock_30 rfl (lv_at hl 1 rfl) ?_
        refine lv_icmp_ge (tgt := 57) hx hb dX7_solvedClock_31 (by decide) (fun c6 => ?_) (fun c6 => ?_)
        · replace hM := i_pos hM c6
          refine lv_iinc (v := (x2 + 1)) (lv' := [(2, .int (x2 + 1)), (0, .ref (h 44)), (1, .int x1)]) hx hb dX7_solvedClock_57 hl (k := 2) rfl rfl (by decide) rfl (fun ls hl => ?_)
          refine lv_goto (tgt := 2) hx hb dX7_solvedClock_60 (by decide) ?_
          exact ih _ _ _ _ hM _ _ hw _ (lv_sub hl [1, 2, 0] rfl)
        · replace hM := i_neg hM c6
          refine lv_aload_n hx hb dX7_solvedClock_34 rfl (lv_at hl 0 rfl) ?_
          refine lv_aload_n hx hb dX7_solvedClock_35 rfl (lv_at hl 0 rfl) ?_
          refine q_get (C := RX7) (T := TX7) (N := 15) (ci := 7) E (fun w h => List.mem_cons_of_mem _ (inX7 w h)) hw 16 rfl rfl 9 (by decide) (List.mem_cons_of_mem _ tb_218) (v := .ref (h 25)) rfl dX7_solvedClock_36 ?_
          refine lv_iload_n hx hb dX7_solvedClock_39 rfl (lv_at hl 2 rfl) ?_
          refine q_ald E hw 26 (n := 60) rfl g2 (x := (σ 25 (ix x2))) rfl dX7_solvedClock_40 ?_
          refine lv_iconst (v := 1) hx hb dX7_solvedClock_41 (by decide) ?_
          refine lv_iadd hx hb dX7_solvedClock_42 ?_
          obtain ⟨p7, h8, hM⟩ := b_some hM
          refine q_cv (As := [.int ((σ 25 (ix x2)) + 1)]) (rest := []) E hw hl (c_X7_solvedBelow l D cA tS A h L F N ((σ 25 (ix x2)) + 1) σ p7 h8) 1 (bwV bw_c tb_886 tb_888 tb_32 tb_104 tb_889) rfl (by decide +kernel) ⟨Nat.le_of_ble_eq_true rfl, Nat.le_of_ble_eq_true rfl⟩ 16 7 (T := TX7) (N := 15) rfl rfl rfl rfl (Nat.le_of_ble_eq_true rfl) ⟨Nat.zero_le _, Nat.zero_le _⟩ dX7_solvedClock_43 (fun H locs hw => ?_)
          refine lv_iload_n hx hb dX7_solvedClock_46 rfl (lv_at hl 1 rfl) ?_
          refine lv_icmp_lt (tgt := 57) hx hb dX7_solvedClock_47 (by decide) (fun c9 => ?_) (fun c9 => ?_)
          · replace hM := i_pos hM c9
            refine lv_iinc (v := (x2 + 1)) (lv' := [(2, .int (x2 + 1)), (0, .ref (h 44)), (1, .int x1)]) hx hb dX7_solvedClock_57 hl (k := 2) rfl rfl (by decide) rfl (fun ls hl => ?_)
            refine lv_goto (tgt := 2) hx hb dX7_solvedClock_60 (by decide) ?_
            exact ih _ _ _ _ hM _ _ hw _ (lv_sub hl [1, 2, 0] rfl)
          · replace hM := i_neg hM c9
            refine lv_aload_n hx hb dX7_solvedClock_50 rfl (lv_at hl 0 rfl) ?_
            refine q_get (C := RX7) (T := TX7) (N := 15) (ci := 7) E (fun w h => List.mem_cons_of_mem _ (inX7 w h)) hw 16 rfl rfl 9 (by decide) (List.mem_cons_of_mem _ tb_218) (v := .ref (h 25)) rfl dX7_solvedClock_51 ?_
            refine lv_iload_n hx hb dX7_solvedClock_54 rfl (lv_at hl 2 rfl) ?_
            refine q_ald E hw 26 (n := 60) rfl g2 (x := (σ 25 (ix x2))) rfl dX7_solvedClock_55 ?_
            cases hM
            exact q_reti E hw dX7_solvedClock_56
set_option maxRecDepth 100000 in
set_option maxHeartbeats 4000000 in
theorem c_X7_solvedClock (l : Launch) (D : va_G) (cA : Nat → ClassId) (tS : Nat → Nat) (A : Nat → Prop) (h : Nat → Nat) (L : Nat) (F : va_W) (N : Nat) (x1 : Int32) (σ : Sg) (r0 : Int32) (hM : f_X7_solvedClock N x1 σ = some r0) : Ct l yX7_solvedClock (Cond.code yX7_solvedClock cX7_solvedClock 3 (some .int) :: bw) 1 23 D cA tS A [.ref (h 44), .int x1] (wK cA h σ ++ (wLg cA h σ L ++ (wC cA h σ ++ F))) (some (.int r0)) (wK cA h σ ++ (wLg cA h σ L ++ (wC cA h σ ++ F))) := by
  refine ct_of (by decide +kernel) (Nat.le_of_ble_eq_true rfl) ?_
  intro p e s m below meth c E hw ls hl
  replace E : Ev p cX7_solvedClock 3 (some .int) RX7 (Cond.code yX7_solvedClock cX7_solvedClock 3 (some .int) :: bw) D cA tS A s m _ meth c := E
  replace hl : lv_has ls 3 [(0, .ref (h 44)), (1, .int x1)] := hl
  have hx := E.1.1
  have hb := E.1.2.1
  unfold f_X7_solvedClock at hM
  refine lv_iconst (v := 0) hx hb dX7_solvedClock_0 (by decide) ?_
  refine lv_istore_n (lv' := [(2, .int 0), (0, .ref (h 44)), (1, .int x1)]) hx hb dX7_solvedClock_1 rfl hl (by decide) rfl (fun ls hl => ?_)
  exact s_X7_solvedClock_2 l D cA tS A h L F N E N _ _ _ _ hM _ _ hw _ (lv_sub hl [1, 2, 0] rfl)
