set_option maxRecDepth 100000 in
set_option maxHeartbeats 4000000 in
theorem c_X9_isBetween (l : Launch) (D : va_G) (cA : Nat → ClassId) (tS : Nat → Nat) (A : Nat → Prop) (F : va_W) (x0 : Int32) (x1 : Int32) (x2 : Int32) (r0 : Int32) (hM : f_X9_isBetween x0 x1 x2 = some r0) : Ct l yX9_isBetween (Cond.code yX9_isBetween cX9_isBetween 3 (some .boolean) :: bw) 0 0 D cA tS A [.int x0, .int x1, .int x2] F (some (.int r0)) F := by
  refine ct_of (by decide +kernel) (Nat.le_of_ble_eq_true rfl) ?_
  intro p e s m below meth c E hw ls hl
  replace E : Ev p cX9_isBetween 3 (some .boolean) RX9 (Cond.code yX9_isBetween cX9_isBetween 3 (some .boolean) :: bw) D cA tS A s m _ meth c := E
  replace hl : lv_has ls 3 [(0, .int x0), (1, .int x1), (2, .int x2)] := hl
  have hx := E.1.1
  have hb := E.1.2.1
  unfold f_X9_isBetween at hM
  refine lv_iload_n hx hb dX9_isBetween_0 rfl (lv_at hl 0 rfl) ?_
  refine lv_iload_n hx hb dX9_isBetween_1 rfl (lv_at hl 1 rfl) ?_
  refine lv_icmp_lt (tgt := 14) hx hb dX9_isBetween_2 (by decide) (fun c1 => ?_) (fun c1 => ?_)
  · replace hM := i_pos hM c1
    refine lv_iconst (v := 0) hx hb dX9_isBetween_14 (by decide) ?_
    cases hM
    exact q_retz E hw (by decide) dX9_isBetween_15
  · replace hM := i_neg hM c1
    refine lv_iload_n hx hb dX9_isBetween_5 rfl (lv_at hl 0 rfl) ?_
    refine lv_iload_n hx hb dX9_isBetween_6 rfl (lv_at hl 2 rfl) ?_
    refine lv_icmp_gt (tgt := 14) hx hb dX9_isBetween_7 (by decide) (fun c2 => ?_) (fun c2 => ?_)
    · replace hM := i_pos hM c2
      refine lv_iconst (v := 0) hx hb dX9_isBetween_14 (by decide) ?_
      cases hM
      exact q_retz E hw (by decide) dX9_isBetween_15
    · replace hM := i_neg hM c2
      refine lv_iconst (v := 1) hx hb dX9_isBetween_10 (by decide) ?_
      refine lv_goto (tgt := 15) hx hb dX9_isBetween_11 (by decide) ?_
      cases hM
      exact q_retz E hw (by decide) dX9_isBetween_15
set_option maxRecDepth 100000 in
set_option maxHeartbeats 4000000 in
theorem s_X9_beginAtZero_64 (l : Launch) (D : va_G) (cA : Nat → ClassId) (tS : Nat → Nat) (A : Nat → Prop) (h : Nat → Nat) (F : va_W) (N : Nat) {p : Program} {e : Env} {s : State} {m : MethodId} {args : Array Value} {below : List Frame} {meth : Method} {c : Code} (E : Ev p cX9_beginAtZero 2 none RX9 (Cond.code yX9_beginAtZero cX9_beginAtZero 2 none :: bw) D cA tS A s m args meth c) : ∀ (n : Nat) (x1 : Int32) (σ : Sg) (wd : Int64) (s0 : Sg) (hM : f_X9_beginAtZero_64 N n x1 σ wd = some s0) (H : Heap) (locs : List Loc) (hw : Wd D A (wM cA h σ wd ++ F) s.heap H locs) (ls : Array Slot) (hl : lv_has ls 2 [(0, .ref (h 0)), (1, .int x1)]), W p l e ({ frames := 0, cells := 0, slots := 0, locals := 0 } : Room) s m args below meth c H locs 0 0 (MQ below (QW D A none (wM cA h s0 wd ++ F)) args s 0 0 A) (F0 m 64 ls []) := by
  have hx := E.1.1
  have hb := E.1.2.1
  intro n
  induction n with
  | zero =>
    intro x1 σ wd s0 hM
    cases hM
  | succ n ih =>
    intro x1 σ wd s0 hM H locs hw ls hl
    rw [f_X9_beginAtZero_64] at hM
    refine lv_iload_n hx hb dX9_beginAtZero_64 rfl (lv_at hl 1 rfl) ?_
    refine lv_iconst (v := 4) hx hb dX9_beginAtZero_65 (by decide) ?_
    refine lv_icmp_ge (tgt := 85) hx hb dX9_beginAtZero_66 (by decide) (fun c1 => ?_) (fun c1 => ?_)
    · replace hM := i_pos hM c1
      refine lv_aload_n hx hb dX9_beginAtZero_85 rfl (lv_at hl 0 rfl) ?_
      refine q_get (C := RX9) (T := TX9) (N := 17) (ci := 9) E (fun w h => List.mem_cons_of_mem _ (inX9 w h)) hw 0 rfl rfl 0 (by decide) (List.mem_cons_of_mem _ tb_1145) (v := .ref (h 1)) rfl dX9_beginAtZero_86 ?_
      refine lv_bipush (v := 56) hx hb dX9_beginAtZero_89 (by decide) ?_
      refine lv_iconst (v := 0) hx hb dX9_beginAtZero_91 (by decide) ?_
      refine q_ast E hw 1 (n := 4619) rfl (by decide +kernel) (wM cA h (up σ 1 (ix 56) 0) wd ++ F) st_M_1 dX9_beginAtZero_92 (fun H locs hw => ?_)
      refine lv_aload_n hx hb dX9_beginAtZero_93 rfl (lv_at hl 0 rfl) ?_
      refine q_get (C := RX9) (T := TX9) (N := 17) (ci := 9) E (fun w h => List.mem_cons_of_mem _ (inX9 w h)) hw 0 rfl rfl 0 (by decide) (List.mem_cons_of_mem _ tb_1145) (v := .ref (h 1)) rfl dX9_beginAtZero_94 ?_
      refine lv_bipush (v := 58) hx hb dX9_beginAtZero_97 (by decide) ?_
      refine lv_iconst (v := 0) hx hb dX9_beginAtZero_99 (by decide) ?_
      refine q_ast E hw 1 (n := 4619) rfl (by decide +kernel) (wM cA h (up (up σ 1 (ix 56) 0) 1 (ix 58) 0) wd ++ F) st_M_1 dX9_beginAtZero_100 (fun H locs hw => ?_)
      cases hM
      exact q_retv E hw dX9_beginAtZero_101
    · replace hM := i_neg hM c1
      refine lv_aload_n hx hb dX9_beginAtZero_69 rfl (lv_at hl 0 rfl) ?_
      refine q_get (C := RX9) (T := TX9) (N := 17) (ci := 9) E (fun w h => List.mem_cons_of_mem _ (inX9 w h)) hw 0 rfl rfl 0 (by decide) (List.mem_cons_of_mem _ tb_1145) (v := .ref (h 1)) rfl dX9_beginAtZero_70 ?_
      refine lv_bipush (v := 15) hx hb dX9_beginAtZero_73 (by decide) ?_
      refine lv_iload_n hx hb dX9_beginAtZero_75 rfl (lv_at hl 1 rfl) ?_
      refine lv_iadd hx hb dX9_beginAtZero_76 ?_
      refine lv_iconst (v := 1) hx hb dX9_beginAtZero_77 (by decide) ?_
      obtain ⟨g2, hM⟩ := g_some hM
      refine q_ast E hw 1 (n := 4619) rfl g2 (wM cA h (up σ 1 (ix (15 + x1)) 1) wd ++ F) st_M_1 dX9_beginAtZero_78 (fun H locs hw => ?_)
      refine lv_iinc (v := (x1 + 1)) (lv' := [(1, .int (x1 + 1)), (0, .ref (h 0))]) hx hb dX9_beginAtZero_79 hl (k := 1) rfl rfl (by decide) rfl (fun ls hl => ?_)
      refine lv_goto (tgt := 64) hx hb dX9_beginAtZero_82 (by decide) ?_
      exact ih _ _ _ _ hM _ _ hw _ (lv_sub hl [1, 0] rfl)
set_option maxRecDepth 100000 in
set_option maxHeartbeats 4000000 in
theorem s_X9_beginAtZero_9 (l : Launch) (D : va_G) (cA : Nat → ClassId) (tS : Nat → Nat) (A : Nat → Prop) (h : Nat → Nat) (F : va_W) (N : Nat) {p : Program} {e : Env} {s : State} {m : MethodId} {args : Array Value} {below : List Frame} {meth : Method} {c : Code} (E : Ev p cX9_beginAtZero 2 none RX9 (Cond.code yX9_beginAtZero cX9_beginAtZero 2 none :: bw) D cA tS A s m args meth c) : ∀ (n : Nat) (x1 : Int32) (σ : Sg) (wd : Int64) (s0 : Sg) (hM : f_X9_beginAtZero_9 N n x1 σ wd = some s0) (H : Heap) (locs : List Loc) (hw : Wd D A (wM cA h σ wd ++ F) s.heap H locs) (ls : Array Slot) (hl : lv_has ls 2 [(0, .ref (h 0)), (1, .int x1)]), W p l e ({ frames := 0, cells := 0, slots := 0, locals := 0 } : Room) s m args below meth c H locs 0 0 (MQ below (QW D A none (wM cA h s0 wd ++ F)) args s 0 0 A) (F0 m 9 ls []) := by
  have hx := E.1.1
  have hb := E.1.2.1
  intro n
  induction n with
  | zero =>
    intro x1 σ wd s0 hM
    cases hM
  | succ n ih =>
    intro x1 σ wd s0 hM H locs hw ls hl
    rw [f_X9_beginAtZero_9] at hM
    refine lv_iload_n hx hb dX9_beginAtZero_9 rfl (lv_at hl 1 rfl) ?_
    refine lv_bipush (v := 7) hx hb dX9_beginAtZero_10 (by decide) ?_
    refine lv_icmp_ge (tgt := 62) hx hb dX9_beginAtZero_12 (by decide) (fun c1 => ?_) (fun c1 => ?_)
    · replace hM := i_pos hM c1
      refine lv_iconst (v := 0) hx hb dX9_beginAtZero_62 (by decide) ?_
      refine lv_istore_n (lv' := [(1, .int 0), (0, .ref (h 0))]) hx hb dX9_beginAtZero_63 rfl hl (by decide) rfl (fun ls hl => ?_)
      exact s_X9_beginAtZero_64 l D cA tS A h F N E N _ _ _ _ hM _ _ hw _ (lv_sub hl [1, 0] rfl)
    · replace hM := i_neg hM c1
      refine lv_aload_n hx hb dX9_beginAtZero_15 rfl (lv_at hl 0 rfl) ?_
      refine q_get (C := RX9) (T := TX9) (N := 17) (ci := 9) E (fun w h => List.mem_cons_of_mem _ (inX9 w h)) hw 0 rfl rfl 0 (by decide) (List.mem_cons_of_mem _ tb_1145) (v := .ref (h 1)) rfl dX9_beginAtZero_16 ?_
      refine lv_iconst (v := 1) hx hb dX9_beginAtZero_19 (by decide) ?_
      refine lv_iload_n hx hb dX9_beginAtZero_20 rfl (lv_at hl 1 rfl) ?_
      refine lv_iadd hx hb dX9_beginAtZero_21 ?_
      refine lv_iload_n hx hb dX9_beginAtZero_22 rfl (lv_at hl 1 rfl) ?_
      refine lv_iconst (v := 5) hx hb dX9_beginAtZero_23 (by decide) ?_
      refine lv_icmp_ge (tgt := 33) hx hb dX9_beginAtZero_24 (by decide) (fun c2 => ?_) (fun c2 => ?_)
      · replace hM := i_pos hM c2
        refine lv_iconst (v := 0) hx hb dX9_beginAtZero_33 (by decide) ?_
        obtain ⟨g3, hM⟩ := g_some hM
        refine q_ast E hw 1 (n := 4619) rfl g3 (wM cA h (up σ 1 (ix (1 + x1)) 0) wd ++ F) st_M_1 dX9_beginAtZero_34 (fun H locs hw => ?_)
        refine lv_aload_n hx hb dX9_beginAtZero_35 rfl (lv_at hl 0 rfl) ?_
        refine q_get (C := RX9) (T := TX9) (N := 17) (ci := 9) E (fun w h => List.mem_cons_of_mem _ (inX9 w h)) hw 0 rfl rfl 0 (by decide) (List.mem_cons_of_mem _ tb_1145) (v := .ref (h 1)) rfl dX9_beginAtZero_36 ?_
        refine lv_bipush (v := 8) hx hb dX9_beginAtZero_39 (by decide) ?_
        refine lv_iload_n hx hb dX9_beginAtZero_41 rfl (lv_at hl 1 rfl) ?_
        refine lv_iadd hx hb dX9_beginAtZero_42 ?_
        refine lv_iload_n hx hb dX9_beginAtZero_43 rfl (lv_at hl 1 rfl) ?_
        refine lv_iconst (v := 5) hx hb dX9_beginAtZero_44 (by decide) ?_
        refine lv_icmp_ge (tgt := 54) hx hb dX9_beginAtZero_45 (by decide) (fun c4 => ?_) (fun c4 => ?_)
        · replace hM := i_pos hM c4
          refine lv_iconst (v := 0) hx hb dX9_beginAtZero_54 (by decide) ?_
          obtain ⟨g5, hM⟩ := g_some hM
          refine q_ast E hw 1 (n := 4619) rfl g5 (wM cA h (up (up σ 1 (ix (1 + x1)) 0) 1 (ix (8 + x1)) 0) wd ++ F) st_M_1 dX9_beginAtZero_55 (fun H locs hw => ?_)
          refine lv_iinc (v := (x1 + 1)) (lv' := [(1, .int (x1 + 1)), (0, .ref (h 0))]) hx hb dX9_beginAtZero_56 hl (k := 1) rfl rfl (by decide) rfl (fun ls hl => ?_)
          refine lv_goto (tgt := 9) hx hb dX9_beginAtZero_59 (by decide) ?_
          exact ih _ _ _ _ hM _ _ hw _ (lv_sub hl [1, 0] rfl)
        · replace hM := i_neg hM c4
          refine lv_sipush (v := 1020) hx hb dX9_beginAtZero_48 (by decide) ?_
          refine lv_goto (tgt := 55) hx hb dX9_beginAtZero_51 (by decide) ?_
          obtain ⟨g6, hM⟩ := g_some hM
          refine q_ast E hw 1 (n := 4619) rfl g6 (wM cA h (up (up σ 1 (ix (1 + x1)) 0) 1 (ix (8 + x1)) 1020) wd ++ F) st_M_1 dX9_beginAtZero_55 (fun H locs hw => ?_)
          refine lv_iinc (v := (x1 + 1)) (lv' := [(1, .int (x1 + 1)), (0, .ref (h 0))]) hx hb dX9_beginAtZero_56 hl (k := 1) rfl rfl (by decide) rfl (fun ls hl => ?_)
          refine lv_goto (tgt := 9) hx hb dX9_beginAtZero_59 (by decide) ?_
          exact ih _ _ _ _ hM _ _ hw _ (lv_sub hl [1, 0] rfl)
      · replace hM := i_neg hM c2
        refine lv_sipush (v := 540) hx hb dX9_beginAtZero_27 (by decide) ?_
        refine lv_goto (tgt := 34) hx hb dX9_beginAtZero_30 (by decide) ?_
        obtain ⟨g7, hM⟩ := g_some hM
        refine q_ast E hw 1 (n := 4619) rfl g7 (wM cA h (up σ 1 (ix (1 + x1)) 540) wd ++ F) st_M_1 dX9_beginAtZero_34 (fun H locs hw => ?_)
        refine lv_aload_n hx hb dX9_beginAtZero_35 rfl (lv_at hl 0 rfl) ?_
        refine q_get (C := RX9) (T := TX9) (N := 17) (ci := 9) E (fun w h => List.mem_cons_of_mem _ (inX9 w h)) hw 0 rfl rfl 0 (by decide) (List.mem_cons_of_mem _ tb_1145) (v := .ref (h 1)) rfl dX9_beginAtZero_36 ?_
        refine lv_bipush (v := 8) hx hb dX9_beginAtZero_39 (by decide) ?_
        refine lv_iload_n hx hb dX9_beginAtZero_41 rfl (lv_at hl 1 rfl) ?_
        refine lv_iadd hx hb dX9_beginAtZero_42 ?_
        refine lv_iload_n hx hb dX9_beginAtZero_43 rfl (lv_at hl 1 rfl) ?_
        refine lv_iconst (v := 5) hx hb dX9_beginAtZero_44 (by decide) ?_
        refine lv_icmp_ge (tgt := 54) hx hb dX9_beginAtZero_45 (by decide) (fun c8 => ?_) (fun c8 => ?_)
        · replace hM := i_pos hM c8
          refine lv_iconst (v := 0) hx hb dX9_beginAtZero_54 (by decide) ?_
          obtain ⟨g9, hM⟩ := g_some hM
          refine q_ast E hw 1 (n := 4619) rfl g9 (wM cA h (up (up σ 1 (ix (1 + x1)) 540) 1 (ix (8 + x1)) 0) wd ++ F) st_M_1 dX9_beginAtZero_55 (fun H locs hw => ?_)
          refine lv_iinc (v := (x1 + 1)) (lv' := [(1, .int (x1 + 1)), (0, .ref (h 0))]) hx hb dX9_beginAtZero_56 hl (k := 1) rfl rfl (by decide) rfl (fun ls hl => ?_)
          refine lv_goto (tgt := 9) hx hb dX9_beginAtZero_59 (by decide) ?_
          exact ih _ _ _ _ hM _ _ hw _ (lv_sub hl [1, 0] rfl)
        · replace hM := i_neg hM c8
          refine lv_sipush (v := 1020) hx hb dX9_beginAtZero_48 (by decide) ?_
          refine lv_goto (tgt := 55) hx hb dX9_beginAtZero_51 (by decide) ?_
          obtain ⟨g10, hM⟩ := g_some hM
          refine q_ast E hw 1 (n := 4619) rfl g10 (wM cA h (up (up σ 1 (ix (1 + x1)) 540) 1 (ix (8 + x1)) 1020) wd ++ F) st_M_1 dX9_beginAtZero_55 (fun H locs hw => ?_)
          refine lv_iinc (v := (x1 + 1)) (lv' := [(1, .int (x1 + 1)), (0, .ref (h 0))]) hx hb dX9_beginAtZero_56 hl (k := 1) rfl rfl (by decide) rfl (fun ls hl => ?_)
          refine lv_goto (tgt := 9) hx hb dX9_beginAtZero_59 (by decide) ?_
          exact ih _ _ _ _ hM _ _ hw _ (lv_sub hl [1, 0] rfl)
set_option maxRecDepth 100000 in
set_option maxHeartbeats 4000000 in
theorem c_X9_beginAtZero (l : Launch) (D : va_G) (cA : Nat → ClassId) (tS : Nat → Nat) (A : Nat → Prop) (h : Nat → Nat) (F : va_W) (N : Nat) (σ : Sg) (wd : Int64) (s0 : Sg) (hM : f_X9_beginAtZero N σ wd = some s0) : Ct l yX9_beginAtZero (Cond.code yX9_beginAtZero cX9_beginAtZero 2 none :: bw) 0 0 D cA tS A [.ref (h 0)] (wM cA h σ wd ++ F) none (wM cA h s0 wd ++ F) := by
  refine ct_of (by decide +kernel) (Nat.le_of_ble_eq_true rfl) ?_
  intro p e s m below meth c E hw ls hl
  replace E : Ev p cX9_beginAtZero 2 none RX9 (Cond.code yX9_beginAtZero cX9_beginAtZero 2 none :: bw) D cA tS A s m _ meth c := E
  replace hl : lv_has ls 2 [(0, .ref (h 0))] := hl
  have hx := E.1.1
  have hb := E.1.2.1
  unfold f_X9_beginAtZero at hM
  refine lv_aload_n hx hb dX9_beginAtZero_0 rfl (lv_at hl 0 rfl) ?_
  refine q_get (C := RX9) (T := TX9) (N := 17) (ci := 9) E (fun w h => List.mem_cons_of_mem _ (inX9 w h)) hw 0 rfl rfl 0 (by decide) (List.mem_cons_of_mem _ tb_1145) (v := .ref (h 1)) rfl dX9_beginAtZero_1 ?_
  refine lv_iconst (v := 0) hx hb dX9_beginAtZero_4 (by decide) ?_
  refine lv_iconst (v := 0) hx hb dX9_beginAtZero_5 (by decide) ?_
  refine q_ast E hw 1 (n := 4619) rfl (by decide +kernel) (wM cA h (up σ 1 (ix 0) 0) wd ++ F) st_M_1 dX9_beginAtZero_6 (fun H locs hw => ?_)
  refine lv_iconst (v := 0) hx hb dX9_beginAtZero_7 (by decide) ?_
  refine lv_istore_n (lv' := [(1, .int 0), (0, .ref (h 0))]) hx hb dX9_beginAtZero_8 rfl hl (by decide) rfl (fun ls hl => ?_)
  exact s_X9_beginAtZero_9 l D cA tS A h F N E N _ _ _ _ hM _ _ hw _ (lv_sub hl [1, 0] rfl)
set_option maxRecDepth 100000 in
set_option maxHeartbeats 4000000 in
theorem c_X9_ticket (l : Launch) (D : va_G) (cA : Nat → ClassId) (tS : Nat → Nat) (A : Nat → Prop) (h : Nat → Nat) (F : va_W) (x1 : Int32) (x2 : Int32) (σ : Sg) (wd : Int64) (r0 : Int32) (hM : f_X9_ticket x1 x2 σ wd = some r0) : Ct l yX9_ticket (Cond.code yX9_ticket cX9_ticket 3 (some .int) :: bw) 0 0 D cA tS A [.ref (h 0), .int x1, .int x2] (wM cA h σ wd ++ F) (some (.int r0)) (wM cA h σ wd ++ F) := by
  refine ct_of (by decide +kernel) (Nat.le_of_ble_eq_true rfl) ?_
  intro p e s m below meth c E hw ls hl
  replace E : Ev p cX9_ticket 3 (some .int) RX9 (Cond.code yX9_ticket cX9_ticket 3 (some .int) :: bw) D cA tS A s m _ meth c := E
  replace hl : lv_has ls 3 [(0, .ref (h 0)), (1, .int x1), (2, .int x2)] := hl
  have hx := E.1.1
  have hb := E.1.2.1
  unfold f_X9_ticket at hM
  refine lv_aload_n hx hb dX9_ticket_0 rfl (lv_at hl 0 rfl) ?_
  refine q_get (C := RX9) (T := TX9) (N := 17) (ci := 9) E (fun w h => List.mem_cons_of_mem _ (inX9 w h)) hw 0 rfl rfl 0 (by decide) (List.mem_cons_of_mem _ tb_1145) (v := .ref (h 1)) rfl dX9_ticket_1 ?_
  refine lv_bipush (v := 59) hx hb dX9_ticket_4 (by decide) ?_
  refine lv_bipush (v := 16) hx hb dX9_ticket_6 (by decide) ?_
  refine lv_iload_n hx hb dX9_ticket_8 rfl (lv_at hl 1 rfl) ?_
  refine lv_imul hx hb dX9_ticket_9 ?_
  refine lv_iadd hx hb dX9_ticket_10 ?_
  refine lv_iload_n hx hb dX9_ticket_11 rfl (lv_at hl 2 rfl) ?_
  refine lv_iadd hx hb dX9_ticket_12 ?_
  obtain ⟨g1, hM⟩ := g_some hM
  refine q_ald E hw 1 (n := 4619) rfl g1 (x := (σ 1 (ix ((59 + (16 * x1)) + x2)))) rfl dX9_ticket_13 ?_
  cases hM
  exact q_reti E hw dX9_ticket_14
set_option maxRecDepth 100000 in
set_option maxHeartbeats 4000000 in
theorem c_X9_setTicket (l : Launch) (D : va_G) (cA : Nat → ClassId) (tS : Nat → Nat) (A : Nat → Prop) (h : Nat → Nat) (F : va_W) (x1 : Int32) (x2 : Int32) (x3 : Int32) (σ : Sg) (wd : Int64) (s0 : Sg) (hM : f_X9_setTicket x1 x2 x3 σ wd = some s0) : Ct l yX9_setTicket (Cond.code yX9_setTicket cX9_setTicket 4 none :: bw) 0 0 D cA tS A [.ref (h 0), .int x1, .int x2, .int x3] (wM cA h σ wd ++ F) none (wM cA h s0 wd ++ F) := by
  refine ct_of (by decide +kernel) (Nat.le_of_ble_eq_true rfl) ?_
  intro p e s m below meth c E hw ls hl
  replace E : Ev p cX9_setTicket 4 none RX9 (Cond.code yX9_setTicket cX9_setTicket 4 none :: bw) D cA tS A s m _ meth c := E
  replace hl : lv_has ls 4 [(0, .ref (h 0)), (1, .int x1), (2, .int x2), (3, .int x3)] := hl
  have hx := E.1.1
  have hb := E.1.2.1
  unfold f_X9_setTicket at hM
  refine lv_aload_n hx hb dX9_setTicket_0 rfl (lv_at hl 0 rfl) ?_
  refine q_get (C := RX9) (T := TX9) (N := 17) (ci := 9) E (fun w h => List.mem_cons_of_mem _ (inX9 w h)) hw 0 rfl rfl 0 (by decide) (List.mem_cons_of_mem _ tb_1145) (v := .ref (h 1)) rfl dX9_setTicket_1 ?_
  refine lv_bipush (v := 59) hx hb dX9_setTicket_4 (by decide) ?_
  refine lv_bipush (v := 16) hx hb dX9_setTicket_6 (by decide) ?_
  refine lv_iload_n hx hb dX9_setTicket_8 rfl (lv_at hl 1 rfl) ?_
  refine lv_imul hx hb dX9_setTicket_9 ?_
  refine lv_iadd hx hb dX9_setTicket_10 ?_
  refine lv_iload_n hx hb dX9_setTicket_11 rfl (lv_at hl 2 rfl) ?_
  refine lv_iadd hx hb dX9_setTicket_12 ?_
  refine lv_iload_n hx hb dX9_setTicket_13 rfl (lv_at hl 3 rfl) ?_
  obtain ⟨g1, hM⟩ := g_some hM
  refine q_ast E hw 1 (n := 4619) rfl g1 (wM cA h (up σ 1 (ix ((59 + (16 * x1)) + x2)) x3) wd ++ F) st_M_1 dX9_setTicket_14 (fun H locs hw => ?_)
  cases hM
  exact q_retv E hw dX9_setTicket_15
set_option maxRecDepth 100000 in
set_option maxHeartbeats 4000000 in
theorem c_X9_kind (l : Launch) (D : va_G) (cA : Nat → ClassId) (tS : Nat → Nat) (A : Nat → Prop) (h : Nat → Nat) (F : va_W) (x1 : Int32) (x2 : Int32) (σ : Sg) (wd : Int64) (r0 : Int32) (hM : f_X9_kind x1 x2 σ wd = some r0) : Ct l yX9_kind (Cond.code yX9_kind cX9_kind 3 (some .int) :: bw) 0 0 D cA tS A [.ref (h 0), .int x1, .int x2] (wM cA h σ wd ++ F) (some (.int r0)) (wM cA h σ wd ++ F) := by
  refine ct_of (by decide +kernel) (Nat.le_of_ble_eq_true rfl) ?_
  intro p e s m below meth c E hw ls hl
  replace E : Ev p cX9_kind 3 (some .int) RX9 (Cond.code yX9_kind cX9_kind 3 (some .int) :: bw) D cA tS A s m _ meth c := E
  replace hl : lv_has ls 3 [(0, .ref (h 0)), (1, .int x1), (2, .int x2)] := hl
  have hx := E.1.1
  have hb := E.1.2.1
  unfold f_X9_kind at hM
  refine lv_aload_n hx hb dX9_kind_0 rfl (lv_at hl 0 rfl) ?_
  refine q_get (C := RX9) (T := TX9) (N := 17) (ci := 9) E (fun w h => List.mem_cons_of_mem _ (inX9 w h)) hw 0 rfl rfl 0 (by decide) (List.mem_cons_of_mem _ tb_1145) (v := .ref (h 1)) rfl dX9_kind_1 ?_
  refine lv_bipush (v := 20) hx hb dX9_kind_4 (by decide) ?_
  refine lv_bipush (v := 6) hx hb dX9_kind_6 (by decide) ?_
  refine lv_iload_n hx hb dX9_kind_8 rfl (lv_at hl 1 rfl) ?_
  refine lv_imul hx hb dX9_kind_9 ?_
  refine lv_iadd hx hb dX9_kind_10 ?_
  refine lv_iload_n hx hb dX9_kind_11 rfl (lv_at hl 2 rfl) ?_
  refine lv_iadd hx hb dX9_kind_12 ?_
  obtain ⟨g1, hM⟩ := g_some hM
  refine q_ald E hw 1 (n := 4619) rfl g1 (x := (σ 1 (ix ((20 + (6 * x1)) + x2)))) rfl dX9_kind_13 ?_
  cases hM
  exact q_reti E hw dX9_kind_14
set_option maxRecDepth 100000 in
set_option maxHeartbeats 4000000 in
theorem c_X9_ofKind (l : Launch) (D : va_G) (cA : Nat → ClassId) (tS : Nat → Nat) (A : Nat → Prop) (h : Nat → Nat) (F : va_W) (x1 : Int32) (x2 : Int32) (σ : Sg) (wd : Int64) (r0 : Int32) (hM : f_X9_ofKind x1 x2 σ wd = some r0) : Ct l yX9_ofKind (Cond.code yX9_ofKind cX9_ofKind 3 (some .int) :: bw) 1 22 D cA tS A [.ref (h 0), .int x1, .int x2] (wM cA h σ wd ++ F) (some (.int r0)) (wM cA h σ wd ++ F) := by
  refine ct_of (by decide +kernel) (Nat.le_of_ble_eq_true rfl) ?_
  intro p e s m below meth c E hw ls hl
  replace E : Ev p cX9_ofKind 3 (some .int) RX9 (Cond.code yX9_ofKind cX9_ofKind 3 (some .int) :: bw) D cA tS A s m _ meth c := E
  replace hl : lv_has ls 3 [(0, .ref (h 0)), (1, .int x1), (2, .int x2)] := hl
  have hx := E.1.1
  have hb := E.1.2.1
  unfold f_X9_ofKind at hM
  refine lv_aload_n hx hb dX9_ofKind_0 rfl (lv_at hl 0 rfl) ?_
  refine lv_aload_n hx hb dX9_ofKind_1 rfl (lv_at hl 0 rfl) ?_
  refine lv_iload_n hx hb dX9_ofKind_2 rfl (lv_at hl 1 rfl) ?_
  refine lv_iconst (v := 0) hx hb dX9_ofKind_3 (by decide) ?_
  obtain ⟨p1, h2, hM⟩ := b_some hM
  refine q_cv (As := [.int x1, .int 0]) (rest := [.ref (h 0)]) E hw hl (c_X9_ticket l D cA tS A h F x1 0 σ wd p1 h2) 2 (bwV bw_c tb_1241 tb_1243 tb_51 tb_111 tb_1244) rfl (by decide +kernel) ⟨Nat.le_of_ble_eq_true rfl, Nat.le_of_ble_eq_true rfl⟩ 0 9 (T := TX9) (N := 17) rfl rfl rfl rfl (Nat.le_of_ble_eq_true rfl) ⟨Nat.zero_le _, Nat.zero_le _⟩ dX9_ofKind_4 (fun H locs hw => ?_)
  refine lv_iload_n hx hb dX9_ofKind_7 rfl (lv_at hl 2 rfl) ?_
  obtain ⟨p3, h4, hM⟩ := b_some hM
  refine q_cv (As := [.int p1, .int x2]) (rest := []) E hw hl (c_X9_kind l D cA tS A h F p1 x2 σ wd p3 h4) 2 (bwV bw_c tb_1407 tb_1409 tb_74 tb_111 tb_1410) rfl (by decide +kernel) ⟨Nat.le_of_ble_eq_true rfl, Nat.le_of_ble_eq_true rfl⟩ 0 9 (T := TX9) (N := 17) rfl rfl rfl rfl (Nat.le_of_ble_eq_true rfl) ⟨Nat.zero_le _, Nat.zero_le _⟩ dX9_ofKind_8 (fun H locs hw => ?_)
  cases hM
  exact q_reti E hw dX9_ofKind_11
set_option maxRecDepth 100000 in
set_option maxHeartbeats 4000000 in
theorem c_X9_isTicket (l : Launch) (D : va_G) (cA : Nat → ClassId) (tS : Nat → Nat) (A : Nat → Prop) (h : Nat → Nat) (F : va_W) (x1 : Int32) (σ : Sg) (wd : Int64) (r0 : Int32) (hM : f_X9_isTicket x1 σ wd = some r0) : Ct l yX9_isTicket (Cond.code yX9_isTicket cX9_isTicket 2 (some .boolean) :: bw) 1 22 D cA tS A [.ref (h 0), .int x1] (wM cA h σ wd ++ F) (some (.int r0)) (wM cA h σ wd ++ F) := by
  refine ct_of (by decide +kernel) (Nat.le_of_ble_eq_true rfl) ?_
  intro p e s m below meth c E hw ls hl
  replace E : Ev p cX9_isTicket 2 (some .boolean) RX9 (Cond.code yX9_isTicket cX9_isTicket 2 (some .boolean) :: bw) D cA tS A s m _ meth c := E
  replace hl : lv_has ls 2 [(0, .ref (h 0)), (1, .int x1)] := hl
  have hx := E.1.1
  have hb := E.1.2.1
  unfold f_X9_isTicket at hM
  refine lv_iload_n hx hb dX9_isTicket_0 rfl (lv_at hl 1 rfl) ?_
  refine lv_iconst (v := 0) hx hb dX9_isTicket_1 (by decide) ?_
  refine lv_aload_n hx hb dX9_isTicket_2 rfl (lv_at hl 0 rfl) ?_
  refine q_get (C := RX9) (T := TX9) (N := 17) (ci := 9) E (fun w h => List.mem_cons_of_mem _ (inX9 w h)) hw 0 rfl rfl 0 (by decide) (List.mem_cons_of_mem _ tb_1145) (v := .ref (h 1)) rfl dX9_isTicket_3 ?_
  refine lv_bipush (v := 56) hx hb dX9_isTicket_6 (by decide) ?_
  refine q_ald E hw 1 (n := 4619) rfl (by decide +kernel) (x := (σ 1 (ix 56))) rfl dX9_isTicket_8 ?_
  refine lv_iconst (v := 1) hx hb dX9_isTicket_9 (by decide) ?_
  refine lv_isub hx hb dX9_isTicket_10 ?_
  obtain ⟨p1, h2, hM⟩ := b_some hM
  refine q_cs (As := [.int x1, .int 0, .int ((σ 1 (ix 56)) - 1)]) (rest := []) E hw hl (c_X9_isBetween l D cA tS A (wM cA h σ wd ++ F) x1 0 ((σ 1 (ix 56)) - 1) p1 h2) 3 (bwS bw_c tb_1212 tb_1213 tb_111 tb_1214) rfl (by decide +kernel) ⟨Nat.le_of_ble_eq_true rfl, Nat.le_of_ble_eq_true rfl⟩ rfl rfl (Nat.le_of_ble_eq_true rfl) ⟨Nat.zero_le _, Nat.zero_le _⟩ dX9_isTicket_11 (fun H locs hw => ?_)
  obtain ⟨g3, hM⟩ := g_some hM
  cases hM
  exact q_retz E hw g3 dX9_isTicket_14
set_option maxRecDepth 100000 in
set_option maxHeartbeats 4000000 in
theorem c_X9_isKind (l : Launch) (D : va_G) (cA : Nat → ClassId) (tS : Nat → Nat) (A : Nat → Prop) (h : Nat → Nat) (F : va_W) (x1 : Int32) (σ : Sg) (wd : Int64) (r0 : Int32) (hM : f_X9_isKind x1 σ wd = some r0) : Ct l yX9_isKind (Cond.code yX9_isKind cX9_isKind 2 (some .boolean) :: bw) 1 22 D cA tS A [.ref (h 0), .int x1] (wM cA h σ wd ++ F) (some (.int r0)) (wM cA h σ wd ++ F) := by
  refine ct_of (by decide +kernel) (Nat.le_of_ble_eq_true rfl) ?_
  intro p e s m below meth c E hw ls hl
  replace E : Ev p cX9_isKind 2 (some .boolean) RX9 (Cond.code yX9_isKind cX9_isKind 2 (some .boolean) :: bw) D cA tS A s m _ meth c := E
  replace hl : lv_has ls 2 [(0, .ref (h 0)), (1, .int x1)] := hl
  have hx := E.1.1
  have hb := E.1.2.1
  unfold f_X9_isKind at hM
  refine lv_iload_n hx hb dX9_isKind_0 rfl (lv_at hl 1 rfl) ?_
  refine lv_iconst (v := 0) hx hb dX9_isKind_1 (by decide) ?_
  refine lv_aload_n hx hb dX9_isKind_2 rfl (lv_at hl 0 rfl) ?_
  refine q_get (C := RX9) (T := TX9) (N := 17) (ci := 9) E (fun w h => List.mem_cons_of_mem _ (inX9 w h)) hw 0 rfl rfl 0 (by decide) (List.mem_cons_of_mem _ tb_1145) (v := .ref (h 1)) rfl dX9_isKind_3 ?_
  refine lv_bipush (v := 19) hx hb dX9_isKind_6 (by decide) ?_
  refine q_ald E hw 1 (n := 4619) rfl (by decide +kernel) (x := (σ 1 (ix 19))) rfl dX9_isKind_8 ?_
  refine lv_iconst (v := 1) hx hb dX9_isKind_9 (by decide) ?_
  refine lv_isub hx hb dX9_isKind_10 ?_
  obtain ⟨p1, h2, hM⟩ := b_some hM
  refine q_cs (As := [.int x1, .int 0, .int ((σ 1 (ix 19)) - 1)]) (rest := []) E hw hl (c_X9_isBetween l D cA tS A (wM cA h σ wd ++ F) x1 0 ((σ 1 (ix 19)) - 1) p1 h2) 3 (bwS bw_c tb_1212 tb_1213 tb_111 tb_1214) rfl (by decide +kernel) ⟨Nat.le_of_ble_eq_true rfl, Nat.le_of_ble_eq_true rfl⟩ rfl rfl (Nat.le_of_ble_eq_true rfl) ⟨Nat.zero_le _, Nat.zero_le _⟩ dX9_isKind_11 (fun H locs hw => ?_)
  obtain ⟨g3, hM⟩ := g_some hM
  cases hM
  exact q_retz E hw g3 dX9_isKind_14
set_option maxRecDepth 100000 in
set_option maxHeartbeats 4000000 in
theorem c_X9_isLevel (l : Launch) (D : va_G) (cA : Nat → ClassId) (tS : Nat → Nat) (A : Nat → Prop) (F : va_W) (x0 : Int32) (r0 : Int32) (hM : f_X9_isLevel x0 = some r0) : Ct l yX9_isLevel (Cond.code yX9_isLevel cX9_isLevel 1 (some .boolean) :: bw) 1 22 D cA tS A [.int x0] F (some (.int r0)) F := by
  refine ct_of (by decide +kernel) (Nat.le_of_ble_eq_true rfl) ?_
  intro p e s m below meth c E hw ls hl
  replace E : Ev p cX9_isLevel 1 (some .boolean) RX9 (Cond.code yX9_isLevel cX9_isLevel 1 (some .boolean) :: bw) D cA tS A s m _ meth c := E
  replace hl : lv_has ls 1 [(0, .int x0)] := hl
  have hx := E.1.1
  have hb := E.1.2.1
  unfold f_X9_isLevel at hM
  refine lv_iload_n hx hb dX9_isLevel_0 rfl (lv_at hl 0 rfl) ?_
  refine lv_iconst (v := 0) hx hb dX9_isLevel_1 (by decide) ?_
  refine lv_iconst (v := 3) hx hb dX9_isLevel_2 (by decide) ?_
  obtain ⟨p1, h2, hM⟩ := b_some hM
  refine q_cs (As := [.int x0, .int 0, .int 3]) (rest := []) E hw hl (c_X9_isBetween l D cA tS A F x0 0 3 p1 h2) 3 (bwS bw_c tb_1212 tb_1213 tb_111 tb_1214) rfl (by decide +kernel) ⟨Nat.le_of_ble_eq_true rfl, Nat.le_of_ble_eq_true rfl⟩ rfl rfl (Nat.le_of_ble_eq_true rfl) ⟨Nat.zero_le _, Nat.zero_le _⟩ dX9_isLevel_3 (fun H locs hw => ?_)
  obtain ⟨g3, hM⟩ := g_some hM
  cases hM
  exact q_retz E hw g3 dX9_isLevel_6
set_option maxRecDepth 100000 in
set_option maxHeartbeats 4000000 in
theorem c_X9_isDay (l : Launch) (D : va_G) (cA : Nat → ClassId) (tS : Nat → Nat) (A : Nat → Prop) (F : va_W) (x0 : Int32) (r0 : Int32) (hM : f_X9_isDay x0 = some r0) : Ct l yX9_isDay (Cond.code yX9_isDay cX9_isDay 1 (some .boolean) :: bw) 1 22 D cA tS A [.int x0] F (some (.int r0)) F := by
  refine ct_of (by decide +kernel) (Nat.le_of_ble_eq_true rfl) ?_
  intro p e s m below meth c E hw ls hl
  replace E : Ev p cX9_isDay 1 (some .boolean) RX9 (Cond.code yX9_isDay cX9_isDay 1 (some .boolean) :: bw) D cA tS A s m _ meth c := E
  replace hl : lv_has ls 1 [(0, .int x0)] := hl
  have hx := E.1.1
  have hb := E.1.2.1
  unfold f_X9_isDay at hM
  refine lv_iload_n hx hb dX9_isDay_0 rfl (lv_at hl 0 rfl) ?_
  refine lv_iconst (v := 0) hx hb dX9_isDay_1 (by decide) ?_
  refine lv_bipush (v := 6) hx hb dX9_isDay_2 (by decide) ?_
  obtain ⟨p1, h2, hM⟩ := b_some hM
  refine q_cs (As := [.int x0, .int 0, .int 6]) (rest := []) E hw hl (c_X9_isBetween l D cA tS A F x0 0 6 p1 h2) 3 (bwS bw_c tb_1212 tb_1213 tb_111 tb_1214) rfl (by decide +kernel) ⟨Nat.le_of_ble_eq_true rfl, Nat.le_of_ble_eq_true rfl⟩ rfl rfl (Nat.le_of_ble_eq_true rfl) ⟨Nat.zero_le _, Nat.zero_le _⟩ dX9_isDay_4 (fun H locs hw => ?_)
  obtain ⟨g3, hM⟩ := g_some hM
  cases hM
  exact q_retz E hw g3 dX9_isDay_7
set_option maxRecDepth 100000 in
set_option maxHeartbeats 4000000 in
theorem c_X9_is (l : Launch) (D : va_G) (cA : Nat → ClassId) (tS : Nat → Nat) (A : Nat → Prop) (h : Nat → Nat) (F : va_W) (x1 : Int32) (x2 : Int32) (σ : Sg) (wd : Int64) (r0 : Int32) (hM : f_X9_is x1 x2 σ wd = some r0) : Ct l yX9_is (Cond.code yX9_is cX9_is 3 (some .boolean) :: bw) 1 22 D cA tS A [.ref (h 0), .int x1, .int x2] (wM cA h σ wd ++ F) (some (.int r0)) (wM cA h σ wd ++ F) := by
  refine ct_of (by decide +kernel) (Nat.le_of_ble_eq_true rfl) ?_
  intro p e s m below meth c E hw ls hl
  replace E : Ev p cX9_is 3 (some .boolean) RX9 (Cond.code yX9_is cX9_is 3 (some .boolean) :: bw) D cA tS A s m _ meth c := E
  replace hl : lv_has ls 3 [(0, .ref (h 0)), (1, .int x1), (2, .int x2)] := hl
  have hx := E.1.1
  have hb := E.1.2.1
  unfold f_X9_is at hM
  refine lv_aload_n hx hb dX9_is_0 rfl (lv_at hl 0 rfl) ?_
  refine lv_iload_n hx hb dX9_is_1 rfl (lv_at hl 1 rfl) ?_
  refine lv_bipush (v := 9) hx hb dX9_is_2 (by decide) ?_
  obtain ⟨p1, h2, hM⟩ := b_some hM
  refine q_cv (As := [.int x1, .int 9]) (rest := []) E hw hl (c_X9_ticket l D cA tS A h F x1 9 σ wd p1 h2) 2 (bwV bw_c tb_1241 tb_1243 tb_51 tb_111 tb_1244) rfl (by decide +kernel) ⟨Nat.le_of_ble_eq_true rfl, Nat.le_of_ble_eq_true rfl⟩ 0 9 (T := TX9) (N := 17) rfl rfl rfl rfl (Nat.le_of_ble_eq_true rfl) ⟨Nat.zero_le _, Nat.zero_le _⟩ dX9_is_4 (fun H locs hw => ?_)
  refine lv_iload_n hx hb dX9_is_7 rfl (lv_at hl 2 rfl) ?_
  refine lv_icmp_ne (tgt := 15) hx hb dX9_is_8 (by decide) (fun c3 => ?_) (fun c3 => ?_)
  · replace hM := i_neg hM c3
    refine lv_iconst (v := 0) hx hb dX9_is_15 (by decide) ?_
    cases hM
    exact q_retz E hw (by decide) dX9_is_16
  · replace hM := i_pos hM c3
    refine lv_iconst (v := 1) hx hb dX9_is_11 (by decide) ?_
    refine lv_goto (tgt := 16) hx hb dX9_is_12 (by decide) ?_
    cases hM
    exact q_retz E hw (by decide) dX9_is_16
set_option maxRecDepth 100000 in
set_option maxHeartbeats 4000000 in
theorem c_X9_isAlive (l : Launch) (D : va_G) (cA : Nat → ClassId) (tS : Nat → Nat) (A : Nat → Prop) (h : Nat → Nat) (F : va_W) (x1 : Int32) (σ : Sg) (wd : Int64) (r0 : Int32) (hM : f_X9_isAlive x1 σ wd = some r0) : Ct l yX9_isAlive (Cond.code yX9_isAlive cX9_isAlive 2 (some .boolean) :: bw) 1 22 D cA tS A [.ref (h 0), .int x1] (wM cA h σ wd ++ F) (some (.int r0)) (wM cA h σ wd ++ F) := by
  refine ct_of (by decide +kernel) (Nat.le_of_ble_eq_true rfl) ?_
  intro p e s m below meth c E hw ls hl
  replace E : Ev p cX9_isAlive 2 (some .boolean) RX9 (Cond.code yX9_isAlive cX9_isAlive 2 (some .boolean) :: bw) D cA tS A s m _ meth c := E
  replace hl : lv_has ls 2 [(0, .ref (h 0)), (1, .int x1)] := hl
  have hx := E.1.1
  have hb := E.1.2.1
  unfold f_X9_isAlive at hM
  refine lv_aload_n hx hb dX9_isAlive_0 rfl (lv_at hl 0 rfl) ?_
  refine lv_iload_n hx hb dX9_isAlive_1 rfl (lv_at hl 1 rfl) ?_
  refine lv_bipush (v := 9) hx hb dX9_isAlive_2 (by decide) ?_
  obtain ⟨p1, h2, hM⟩ := b_some hM
  refine q_cv (As := [.int x1, .int 9]) (rest := []) E hw hl (c_X9_ticket l D cA tS A h F x1 9 σ wd p1 h2) 2 (bwV bw_c tb_1241 tb_1243 tb_51 tb_111 tb_1244) rfl (by decide +kernel) ⟨Nat.le_of_ble_eq_true rfl, Nat.le_of_ble_eq_true rfl⟩ 0 9 (T := TX9) (N := 17) rfl rfl rfl rfl (Nat.le_of_ble_eq_true rfl) ⟨Nat.zero_le _, Nat.zero_le _⟩ dX9_isAlive_4 (fun H locs hw => ?_)
  refine lv_iconst (v := 2) hx hb dX9_isAlive_7 (by decide) ?_
  refine lv_icmp_gt (tgt := 15) hx hb dX9_isAlive_8 (by decide) (fun c3 => ?_) (fun c3 => ?_)
  · replace hM := i_pos hM c3
    refine lv_iconst (v := 0) hx hb dX9_isAlive_15 (by decide) ?_
    cases hM
    exact q_retz E hw (by decide) dX9_isAlive_16
  · replace hM := i_neg hM c3
    refine lv_iconst (v := 1) hx hb dX9_isAlive_11 (by decide) ?_
    refine lv_goto (tgt := 16) hx hb dX9_isAlive_12 (by decide) ?_
    cases hM
    exact q_retz E hw (by decide) dX9_isAlive_16
set_option maxRecDepth 100000 in
set_option maxHeartbeats 4000000 in
theorem c_X9_log (l : Launch) (D : va_G) (cA : Nat → ClassId) (tS : Nat → Nat) (A : Nat → Prop) (h : Nat → Nat) (F : va_W) (x1 : Int32) (x2 : Int32) (x3 : Int32) (x4 : Int32) (σ : Sg) (wd : Int64) (s0 : Sg) (hM : f_X9_log x1 x2 x3 x4 σ wd = some s0) : Ct l yX9_log (Cond.code yX9_log cX9_log 6 none :: bw) 0 0 D cA tS A [.ref (h 0), .int x1, .int x2, .int x3, .int x4] (wM cA h σ wd ++ F) none (wM cA h s0 wd ++ F) := by
  refine ct_of (by decide +kernel) (Nat.le_of_ble_eq_true rfl) ?_
  intro p e s m below meth c E hw ls hl
  replace E : Ev p cX9_log 6 none RX9 (Cond.code yX9_log cX9_log 6 none :: bw) D cA tS A s m _ meth c := E
  replace hl : lv_has ls 6 [(0, .ref (h 0)), (1, .int x1), (2, .int x2), (3, .int x3), (4, .int x4)] := hl
  have hx := E.1.1
  have hb := E.1.2.1
  unfold f_X9_log at hM
  refine lv_aload_n hx hb dX9_log_0 rfl (lv_at hl 0 rfl) ?_
  refine q_get (C := RX9) (T := TX9) (N := 17) (ci := 9) E (fun w h => List.mem_cons_of_mem _ (inX9 w h)) hw 0 rfl rfl 0 (by decide) (List.mem_cons_of_mem _ tb_1145) (v := .ref (h 1)) rfl dX9_log_1 ?_
  refine lv_bipush (v := 58) hx hb dX9_log_4 (by decide) ?_
  refine q_ald E hw 1 (n := 4619) rfl (by decide +kernel) (x := (σ 1 (ix 58))) rfl dX9_log_6 ?_
  refine lv_sipush (v := 600) hx hb dX9_log_7 (by decide) ?_
  refine lv_icmp_ne (tgt := 14) hx hb dX9_log_10 (by decide) (fun c1 => ?_) (fun c1 => ?_)
  · replace hM := i_neg hM c1
    refine lv_sipush (v := 2219) hx hb dX9_log_14 (by decide) ?_
    refine lv_iconst (v := 4) hx hb dX9_log_17 (by decide) ?_
    refine lv_aload_n hx hb dX9_log_18 rfl (lv_at hl 0 rfl) ?_
    refine q_get (C := RX9) (T := TX9) (N := 17) (ci := 9) E (fun w h => List.mem_cons_of_mem _ (inX9 w h)) hw 0 rfl rfl 0 (by decide) (List.mem_cons_of_mem _ tb_1145) (v := .ref (h 1)) rfl dX9_log_19 ?_
    refine lv_bipush (v := 58) hx hb dX9_log_22 (by decide) ?_
    refine q_ald E hw 1 (n := 4619) rfl (by decide +kernel) (x := (σ 1 (ix 58))) rfl dX9_log_24 ?_
    refine lv_imul hx hb dX9_log_25 ?_
    refine lv_iadd hx hb dX9_log_26 ?_
    refine lv_istore (lv' := [(5, .int (2219 + (4 * (σ 1 (ix 58))))), (0, .ref (h 0)), (1, .int x1), (2, .int x2), (3, .int x3), (4, .int x4)]) hx hb dX9_log_27 hl (by decide) rfl (fun ls hl => ?_)
    refine lv_aload_n hx hb dX9_log_29 rfl (lv_at hl 1 rfl) ?_
    refine q_get (C := RX9) (T := TX9) (N := 17) (ci := 9) E (fun w h => List.mem_cons_of_mem _ (inX9 w h)) hw 0 rfl rfl 0 (by decide) (List.mem_cons_of_mem _ tb_1145) (v := .ref (h 1)) rfl dX9_log_30 ?_
    refine lv_iload hx hb dX9_log_33 (lv_at hl 0 rfl) ?_
    refine lv_iload_n hx hb dX9_log_35 rfl (lv_at hl 2 rfl) ?_
    obtain ⟨g2, hM⟩ := g_some hM
    refine q_ast E hw 1 (n := 4619) rfl g2 (wM cA h (up σ 1 (ix (2219 + (4 * (σ 1 (ix 58))))) x1) wd ++ F) st_M_1 dX9_log_36 (fun H locs hw => ?_)
    refine lv_aload_n hx hb dX9_log_37 rfl (lv_at hl 1 rfl) ?_
    refine q_get (C := RX9) (T := TX9) (N := 17) (ci := 9) E (fun w h => List.mem_cons_of_mem _ (inX9 w h)) hw 0 rfl rfl 0 (by decide) (List.mem_cons_of_mem _ tb_1145) (v := .ref (h 1)) rfl dX9_log_38 ?_
    refine lv_iload hx hb dX9_log_41 (lv_at hl 0 rfl) ?_
    refine lv_iconst (v := 1) hx hb dX9_log_43 (by decide) ?_
    refine lv_iadd hx hb dX9_log_44 ?_
    refine lv_iload_n hx hb dX9_log_45 rfl (lv_at hl 3 rfl) ?_
    obtain ⟨g3, hM⟩ := g_some hM
    refine q_ast E hw 1 (n := 4619) rfl g3 (wM cA h (up (up σ 1 (ix (2219 + (4 * (σ 1 (ix 58))))) x1) 1 (ix ((2219 + (4 * (σ 1 (ix 58)))) + 1)) x2) wd ++ F) st_M_1 dX9_log_46 (fun H locs hw => ?_)
    refine lv_aload_n hx hb dX9_log_47 rfl (lv_at hl 1 rfl) ?_
    refine q_get (C := RX9) (T := TX9) (N := 17) (ci := 9) E (fun w h => List.mem_cons_of_mem _ (inX9 w h)) hw 0 rfl rfl 0 (by decide) (List.mem_cons_of_mem _ tb_1145) (v := .ref (h 1)) rfl dX9_log_48 ?_
    refine lv_iload hx hb dX9_log_51 (lv_at hl 0 rfl) ?_
    refine lv_iconst (v := 2) hx hb dX9_log_53 (by decide) ?_
    refine lv_iadd hx hb dX9_log_54 ?_
    refine lv_iload_n hx hb dX9_log_55 rfl (lv_at hl 4 rfl) ?_
    obtain ⟨g4, hM⟩ := g_some hM
    refine q_ast E hw 1 (n := 4619) rfl g4 (wM cA h (up (up (up σ 1 (ix (2219 + (4 * (σ 1 (ix 58))))) x1) 1 (ix ((2219 + (4 * (σ 1 (ix 58)))) + 1)) x2) 1 (ix ((2219 + (4 * (σ 1 (ix 58)))) + 2)) x3) wd ++ F) st_M_1 dX9_log_56 (fun H locs hw => ?_)
    refine lv_aload_n hx hb dX9_log_57 rfl (lv_at hl 1 rfl) ?_
    refine q_get (C := RX9) (T := TX9) (N := 17) (ci := 9) E (fun w h => List.mem_cons_of_mem _ (inX9 w h)) hw 0 rfl rfl 0 (by decide) (List.mem_cons_of_mem _ tb_1145) (v := .ref (h 1)) rfl dX9_log_58 ?_
    refine lv_iload hx hb dX9_log_61 (lv_at hl 0 rfl) ?_
    refine lv_iconst (v := 3) hx hb dX9_log_63 (by decide) ?_
    refine lv_iadd hx hb dX9_log_64 ?_
    refine lv_iload hx hb dX9_log_65 (lv_at hl 5 rfl) ?_
    obtain ⟨g5, hM⟩ := g_some hM
    refine q_ast E hw 1 (n := 4619) rfl g5 (wM cA h (up (up (up (up σ 1 (ix (2219 + (4 * (σ 1 (ix 58))))) x1) 1 (ix ((2219 + (4 * (σ 1 (ix 58)))) + 1)) x2) 1 (ix ((2219 + (4 * (σ 1 (ix 58)))) + 2)) x3) 1 (ix ((2219 + (4 * (σ 1 (ix 58)))) + 3)) x4) wd ++ F) st_M_1 dX9_log_67 (fun H locs hw => ?_)
    refine lv_aload_n hx hb dX9_log_68 rfl (lv_at hl 1 rfl) ?_
    refine q_get (C := RX9) (T := TX9) (N := 17) (ci := 9) E (fun w h => List.mem_cons_of_mem _ (inX9 w h)) hw 0 rfl rfl 0 (by decide) (List.mem_cons_of_mem _ tb_1145) (v := .ref (h 1)) rfl dX9_log_69 ?_
    refine lv_bipush (v := 58) hx hb dX9_log_72 (by decide) ?_
    refine lv_dup2_11 hx hb dX9_log_74 rfl rfl ?_
    refine q_ald E hw 1 (n := 4619) rfl (by decide +kernel) (x := ((up (up (up (up σ 1 (ix (2219 + (4 * (σ 1 (ix 58))))) x1) 1 (ix ((2219 + (4 * (σ 1 (ix 58)))) + 1)) x2) 1 (ix ((2219 + (4 * (σ 1 (ix 58)))) + 2)) x3) 1 (ix ((2219 + (4 * (σ 1 (ix 58)))) + 3)) x4) 1 (ix 58))) rfl dX9_log_75 ?_
    refine lv_iconst (v := 1) hx hb dX9_log_76 (by decide) ?_
    refine lv_iadd hx hb dX9_log_77 ?_
    refine q_ast E hw 1 (n := 4619) rfl (by decide +kernel) (wM cA h (up (up (up (up (up σ 1 (ix (2219 + (4 * (σ 1 (ix 58))))) x1) 1 (ix ((2219 + (4 * (σ 1 (ix 58)))) + 1)) x2) 1 (ix ((2219 + (4 * (σ 1 (ix 58)))) + 2)) x3) 1 (ix ((2219 + (4 * (σ 1 (ix 58)))) + 3)) x4) 1 (ix 58) (((up (up (up (up σ 1 (ix (2219 + (4 * (σ 1 (ix 58))))) x1) 1 (ix ((2219 + (4 * (σ 1 (ix 58)))) + 1)) x2) 1 (ix ((2219 + (4 * (σ 1 (ix 58)))) + 2)) x3) 1 (ix ((2219 + (4 * (σ 1 (ix 58)))) + 3)) x4) 1 (ix 58)) + 1)) wd ++ F) st_M_1 dX9_log_78 (fun H locs hw => ?_)
    cases hM
    exact q_retv E hw dX9_log_79
  · replace hM := i_pos hM c1
    cases hM
    exact q_retv E hw dX9_log_13
set_option maxRecDepth 100000 in
set_option maxHeartbeats 4000000 in
theorem s_X9_areHours_12 (l : Launch) (D : va_G) (cA : Nat → ClassId) (tS : Nat → Nat) (A : Nat → Prop) (F : va_W) {p : Program} {e : Env} {s : State} {m : MethodId} {args : Array Value} {below : List Frame} {meth : Method} {c : Code} (E : Ev p cX9_areHours 3 (some .boolean) RX9 (Cond.code yX9_areHours cX9_areHours 3 (some .boolean) :: bw) D cA tS A s m args meth c) : ∀ (x0 : Int32) (x1 : Int32) (r0 : Int32) (hM : f_X9_areHours_12 x0 x1 = some r0) (H : Heap) (locs : List Loc) (hw : Wd D A F s.heap H locs) (ls : Array Slot) (hl : lv_has ls 3 [(0, .int x0), (1, .int x1)]), W p l e ({ frames := 1, cells := 0, slots := 0, locals := 22 } : Room) s m args below meth c H locs 0 0 (MQ below (QW D A (some (.int r0)) F) args s 0 0 A) (F0 m 12 ls []) := by
  have hx := E.1.1
  have hb := E.1.2.1
  intro x0 x1 r0 hM H locs hw ls hl
  unfold f_X9_areHours_12 at hM
  refine lv_iconst (v := 0) hx hb dX9_areHours_12 (by decide) ?_
  refine lv_istore_n (lv' := [(2, .int 0), (0, .int x0), (1, .int x1)]) hx hb dX9_areHours_13 rfl hl (by decide) rfl (fun ls hl => ?_)
  refine lv_iload_n hx hb dX9_areHours_14 rfl (lv_at hl 0 rfl) ?_
  refine lv_if_ne (tgt := 42) hx hb dX9_areHours_15 (by decide) (fun c1 => ?_) (fun c1 => ?_)
  · first | exact absurd (by decide) c1 | exact absurd c1 (by decide)
  · refine lv_iload_n hx hb dX9_areHours_18 rfl (lv_at hl 1 rfl) ?_
    refine lv_iconst (v := 0) hx hb dX9_areHours_19 (by decide) ?_
    refine lv_sipush (v := 1439) hx hb dX9_areHours_20 (by decide) ?_
    obtain ⟨p2, h3, hM⟩ := b_some hM
    refine q_cs (As := [.int x0, .int 0, .int 1439]) (rest := []) E hw hl (c_X9_isBetween l D cA tS A F x0 0 1439 p2 h3) 3 (bwS bw_c tb_1212 tb_1213 tb_111 tb_1214) rfl (by decide +kernel) ⟨Nat.le_of_ble_eq_true rfl, Nat.le_of_ble_eq_true rfl⟩ rfl rfl (Nat.le_of_ble_eq_true rfl) ⟨Nat.zero_le _, Nat.zero_le _⟩ dX9_areHours_23 (fun H locs hw => ?_)
    refine lv_if_eq (tgt := 46) hx hb dX9_areHours_26 (by decide) (fun c4 => ?_) (fun c4 => ?_)
    · replace hM := i_pos hM c4
      refine lv_iconst (v := 0) hx hb dX9_areHours_46 (by decide) ?_
      cases hM
      exact q_retz E hw (by decide) dX9_areHours_47
    · replace hM := i_neg hM c4
      refine lv_iload_n hx hb dX9_areHours_29 rfl (lv_at hl 2 rfl) ?_
      refine lv_iload_n hx hb dX9_areHours_30 rfl (lv_at hl 1 rfl) ?_
      refine lv_iconst (v := 1) hx hb dX9_areHours_31 (by decide) ?_
      refine lv_iadd hx hb dX9_areHours_32 ?_
      refine lv_sipush (v := 1440) hx hb dX9_areHours_33 (by decide) ?_
      obtain ⟨p5, h6, hM⟩ := b_some hM
      refine q_cs (As := [.int x1, .int (x0 + 1), .int 1440]) (rest := []) E hw hl (c_X9_isBetween l D cA tS A F x1 (x0 + 1) 1440 p5 h6) 3 (bwS bw_c tb_1212 tb_1213 tb_111 tb_1214) rfl (by decide +kernel) ⟨Nat.le_of_ble_eq_true rfl, Nat.le_of_ble_eq_true rfl⟩ rfl rfl (Nat.le_of_ble_eq_true rfl) ⟨Nat.zero_le _, Nat.zero_le _⟩ dX9_areHours_36 (fun H locs hw => ?_)
      refine lv_if_eq (tgt := 46) hx hb dX9_areHours_39 (by decide) (fun c7 => ?_) (fun c7 => ?_)
      · replace hM := i_pos hM c7
        refine lv_iconst (v := 0) hx hb dX9_areHours_46 (by decide) ?_
        cases hM
        exact q_retz E hw (by decide) dX9_areHours_47
      · replace hM := i_neg hM c7
        refine lv_iconst (v := 1) hx hb dX9_areHours_42 (by decide) ?_
        refine lv_goto (tgt := 47) hx hb dX9_areHours_43 (by decide) ?_
        cases hM
        exact q_retz E hw (by decide) dX9_areHours_47
set_option maxRecDepth 100000 in
set_option maxHeartbeats 4000000 in
theorem c_X9_areHours (l : Launch) (D : va_G) (cA : Nat → ClassId) (tS : Nat → Nat) (A : Nat → Prop) (F : va_W) (x0 : Int32) (x1 : Int32) (r0 : Int32) (hM : f_X9_areHours x0 x1 = some r0) : Ct l yX9_areHours (Cond.code yX9_areHours cX9_areHours 3 (some .boolean) :: bw) 1 22 D cA tS A [.int x0, .int x1] F (some (.int r0)) F := by
  refine ct_of (by decide +kernel) (Nat.le_of_ble_eq_true rfl) ?_
  intro p e s m below meth c E hw ls hl
  replace E : Ev p cX9_areHours 3 (some .boolean) RX9 (Cond.code yX9_areHours cX9_areHours 3 (some .boolean) :: bw) D cA tS A s m _ meth c := E
  replace hl : lv_has ls 3 [(0, .int x0), (1, .int x1)] := hl
  have hx := E.1.1
  have hb := E.1.2.1
  unfold f_X9_areHours at hM
  refine lv_iload_n hx hb dX9_areHours_0 rfl (lv_at hl 0 rfl) ?_
  refine lv_if_ne (tgt := 12) hx hb dX9_areHours_1 (by decide) (fun c1 => ?_) (fun c1 => ?_)
  · replace hM := i_neg hM c1
    exact s_X9_areHours_12 l D cA tS A F E _ _ _ hM _ _ hw _ (lv_sub hl [0, 1] rfl)
  · replace hM := i_pos hM c1
    refine lv_iload_n hx hb dX9_areHours_4 rfl (lv_at hl 1 rfl) ?_
    refine lv_if_ne (tgt := 12) hx hb dX9_areHours_5 (by decide) (fun c2 => ?_) (fun c2 => ?_)
    · replace hM := i_neg hM c2
      exact s_X9_areHours_12 l D cA tS A F E _ _ _ hM _ _ hw _ (lv_sub hl [0, 1] rfl)
    · replace hM := i_pos hM c2
      refine lv_iconst (v := 1) hx hb dX9_areHours_8 (by decide) ?_
      refine lv_goto (tgt := 13) hx hb dX9_areHours_9 (by decide) ?_
      refine lv_istore_n (lv' := [(2, .int 1), (0, .int x0), (1, .int x1)]) hx hb dX9_areHours_13 rfl hl (by decide) rfl (fun ls hl => ?_)
      refine lv_iload_n hx hb dX9_areHours_14 rfl (lv_at hl 0 rfl) ?_
      refine lv_if_ne (tgt := 42) hx hb dX9_areHours_15 (by decide) (fun c3 => ?_) (fun c3 => ?_)
      · refine lv_iconst (v := 1) hx hb dX9_areHours_42 (by decide) ?_
        refine lv_goto (tgt := 47) hx hb dX9_areHours_43 (by decide) ?_
        cases hM
        exact q_retz E hw (by decide) dX9_areHours_47
      · first | exact absurd (by decide) c3 | exact absurd c3 (by decide)
set_option maxRecDepth 100000 in
set_option maxHeartbeats 4000000 in
theorem c_X9_reportError (l : Launch) (D : va_G) (cA : Nat → ClassId) (tS : Nat → Nat) (A : Nat → Prop) (h : Nat → Nat) (F : va_W) (x1 : Int32) (x2 : Int32) (x3 : Int32) (x4 : Int32) (σ : Sg) (wd : Int64) (r0 : Int32) (hM : f_X9_reportError x1 x2 x3 x4 σ wd = some r0) : Ct l yX9_reportError (Cond.code yX9_reportError cX9_reportError 5 (some .int) :: bw) 2 43 D cA tS A [.ref (h 0), .int x1, .int x2, .int x3, .int x4] (wM cA h σ wd ++ F) (some (.int r0)) (wM cA h σ wd ++ F) := by
  refine ct_of (by decide +kernel) (Nat.le_of_ble_eq_true rfl) ?_
  intro p e s m below meth c E hw ls hl
  replace E : Ev p cX9_reportError 5 (some .int) RX9 (Cond.code yX9_reportError cX9_reportError 5 (some .int) :: bw) D cA tS A s m _ meth c := E
  replace hl : lv_has ls 5 [(0, .ref (h 0)), (1, .int x1), (2, .int x2), (3, .int x3), (4, .int x4)] := hl
  have hx := E.1.1
  have hb := E.1.2.1
  unfold f_X9_reportError at hM
  refine lv_aload_n hx hb dX9_reportError_0 rfl (lv_at hl 0 rfl) ?_
  refine lv_iload_n hx hb dX9_reportError_1 rfl (lv_at hl 1 rfl) ?_
  obtain ⟨p1, h2, hM⟩ := b_some hM
  refine q_cv (As := [.int x1]) (rest := []) E hw hl (c_X9_isKind l D cA tS A h F x1 σ wd p1 h2) 1 (bwV bw_c tb_1225 tb_1227 tb_47 tb_111 tb_1228) rfl (by decide +kernel) ⟨Nat.le_of_ble_eq_true rfl, Nat.le_of_ble_eq_true rfl⟩ 0 9 (T := TX9) (N := 17) rfl rfl rfl rfl (Nat.le_of_ble_eq_true rfl) ⟨Nat.zero_le _, Nat.zero_le _⟩ dX9_reportError_2 (fun H locs hw => ?_)
  refine lv_if_ne (tgt := 11) hx hb dX9_reportError_5 (by decide) (fun c3 => ?_) (fun c3 => ?_)
  · replace hM := i_neg hM c3
    refine lv_iload_n hx hb dX9_reportError_11 rfl (lv_at hl 2 rfl) ?_
    refine lv_iconst (v := 0) hx hb dX9_reportError_12 (by decide) ?_
    refine lv_bipush (v := 99) hx hb dX9_reportError_13 (by decide) ?_
    obtain ⟨p4, h5, hM⟩ := b_some hM
    refine q_cs (As := [.int x2, .int 0, .int 99]) (rest := []) E hw hl (c_X9_isBetween l D cA tS A (wM cA h σ wd ++ F) x2 0 99 p4 h5) 3 (bwS bw_c tb_1212 tb_1213 tb_111 tb_1214) rfl (by decide +kernel) ⟨Nat.le_of_ble_eq_true rfl, Nat.le_of_ble_eq_true rfl⟩ rfl rfl (Nat.le_of_ble_eq_true rfl) ⟨Nat.zero_le _, Nat.zero_le _⟩ dX9_reportError_15 (fun H locs hw => ?_)
    refine lv_if_eq (tgt := 42) hx hb dX9_reportError_18 (by decide) (fun c6 => ?_) (fun c6 => ?_)
    · replace hM := i_pos hM c6
      refine lv_bipush (v := (-4)) hx hb dX9_reportError_42 (by decide) ?_
      cases hM
      exact q_reti E hw dX9_reportError_44
    · replace hM := i_neg hM c6
      refine lv_iload_n hx hb dX9_reportError_21 rfl (lv_at hl 3 rfl) ?_
      refine lv_iconst (v := 0) hx hb dX9_reportError_22 (by decide) ?_
      refine lv_sipush (v := 999) hx hb dX9_reportError_23 (by decide) ?_
      obtain ⟨p7, h8, hM⟩ := b_some hM
      refine q_cs (As := [.int x3, .int 0, .int 999]) (rest := []) E hw hl (c_X9_isBetween l D cA tS A (wM cA h σ wd ++ F) x3 0 999 p7 h8) 3 (bwS bw_c tb_1212 tb_1213 tb_111 tb_1214) rfl (by decide +kernel) ⟨Nat.le_of_ble_eq_true rfl, Nat.le_of_ble_eq_true rfl⟩ rfl rfl (Nat.le_of_ble_eq_true rfl) ⟨Nat.zero_le _, Nat.zero_le _⟩ dX9_reportError_26 (fun H locs hw => ?_)
      refine lv_if_eq (tgt := 42) hx hb dX9_reportError_29 (by decide) (fun c9 => ?_) (fun c9 => ?_)
      · replace hM := i_pos hM c9
        refine lv_bipush (v := (-4)) hx hb dX9_reportError_42 (by decide) ?_
        cases hM
        exact q_reti E hw dX9_reportError_44
      · replace hM := i_neg hM c9
        refine lv_iload hx hb dX9_reportError_32 (lv_at hl 4 rfl) ?_
        refine lv_iconst (v := 0) hx hb dX9_reportError_34 (by decide) ?_
        refine lv_iconst (v := 3) hx hb dX9_reportError_35 (by decide) ?_
        obtain ⟨p10, h11, hM⟩ := b_some hM
        refine q_cs (As := [.int x4, .int 0, .int 3]) (rest := []) E hw hl (c_X9_isBetween l D cA tS A (wM cA h σ wd ++ F) x4 0 3 p10 h11) 3 (bwS bw_c tb_1212 tb_1213 tb_111 tb_1214) rfl (by decide +kernel) ⟨Nat.le_of_ble_eq_true rfl, Nat.le_of_ble_eq_true rfl⟩ rfl rfl (Nat.le_of_ble_eq_true rfl) ⟨Nat.zero_le _, Nat.zero_le _⟩ dX9_reportError_36 (fun H locs hw => ?_)
        refine lv_if_ne (tgt := 45) hx hb dX9_reportError_39 (by decide) (fun c12 => ?_) (fun c12 => ?_)
        · replace hM := i_neg hM c12
          refine lv_aload_n hx hb dX9_reportError_45 rfl (lv_at hl 0 rfl) ?_
          refine q_get (C := RX9) (T := TX9) (N := 17) (ci := 9) E (fun w h => List.mem_cons_of_mem _ (inX9 w h)) hw 0 rfl rfl 0 (by decide) (List.mem_cons_of_mem _ tb_1145) (v := .ref (h 1)) rfl dX9_reportError_46 ?_
          refine lv_bipush (v := 56) hx hb dX9_reportError_49 (by decide) ?_
          refine q_ald E hw 1 (n := 4619) rfl (by decide +kernel) (x := (σ 1 (ix 56))) rfl dX9_reportError_51 ?_
          refine lv_bipush (v := 60) hx hb dX9_reportError_52 (by decide) ?_
          refine lv_icmp_ne (tgt := 62) hx hb dX9_reportError_54 (by decide) (fun c13 => ?_) (fun c13 => ?_)
          · replace hM := i_neg hM c13
            refine lv_iconst (v := 0) hx hb dX9_reportError_62 (by decide) ?_
            cases hM
            exact q_reti E hw dX9_reportError_63
          · replace hM := i_pos hM c13
            refine lv_bipush (v := (-6)) hx hb dX9_reportError_57 (by decide) ?_
            refine lv_goto (tgt := 63) hx hb dX9_reportError_59 (by decide) ?_
            cases hM
            exact q_reti E hw dX9_reportError_63
        · replace hM := i_pos hM c12
          refine lv_bipush (v := (-4)) hx hb dX9_reportError_42 (by decide) ?_
          cases hM
          exact q_reti E hw dX9_reportError_44
  · replace hM := i_pos hM c3
    refine lv_bipush (v := (-3)) hx hb dX9_reportError_8 (by decide) ?_
    cases hM
    exact q_reti E hw dX9_reportError_10
set_option maxRecDepth 100000 in
set_option maxHeartbeats 4000000 in
theorem c_X9_joinError (l : Launch) (D : va_G) (cA : Nat → ClassId) (tS : Nat → Nat) (A : Nat → Prop) (h : Nat → Nat) (F : va_W) (x1 : Int32) (x2 : Int32) (σ : Sg) (wd : Int64) (r0 : Int32) (hM : f_X9_joinError x1 x2 σ wd = some r0) : Ct l yX9_joinError (Cond.code yX9_joinError cX9_joinError 3 (some .int) :: bw) 2 43 D cA tS A [.ref (h 0), .int x1, .int x2] (wM cA h σ wd ++ F) (some (.int r0)) (wM cA h σ wd ++ F) := by
  refine ct_of (by decide +kernel) (Nat.le_of_ble_eq_true rfl) ?_
  intro p e s m below meth c E hw ls hl
  replace E : Ev p cX9_joinError 3 (some .int) RX9 (Cond.code yX9_joinError cX9_joinError 3 (some .int) :: bw) D cA tS A s m _ meth c := E
  replace hl : lv_has ls 3 [(0, .ref (h 0)), (1, .int x1), (2, .int x2)] := hl
  have hx := E.1.1
  have hb := E.1.2.1
  unfold f_X9_joinError at hM
  refine lv_aload_n hx hb dX9_joinError_0 rfl (lv_at hl 0 rfl) ?_
  refine lv_iload_n hx hb dX9_joinError_1 rfl (lv_at hl 1 rfl) ?_
  obtain ⟨p1, h2, hM⟩ := b_some hM
  refine q_cv (As := [.int x1]) (rest := []) E hw hl (c_X9_isTicket l D cA tS A h F x1 σ wd p1 h2) 1 (bwV bw_c tb_1233 tb_1235 tb_49 tb_111 tb_1236) rfl (by decide +kernel) ⟨Nat.le_of_ble_eq_true rfl, Nat.le_of_ble_eq_true rfl⟩ 0 9 (T := TX9) (N := 17) rfl rfl rfl rfl (Nat.le_of_ble_eq_true rfl) ⟨Nat.zero_le _, Nat.zero_le _⟩ dX9_joinError_2 (fun H locs hw => ?_)
  refine lv_if_eq (tgt := 16) hx hb dX9_joinError_5 (by decide) (fun c3 => ?_) (fun c3 => ?_)
  · replace hM := i_pos hM c3
    refine lv_bipush (v := (-2)) hx hb dX9_joinError_16 (by decide) ?_
    cases hM
    exact q_reti E hw dX9_joinError_18
  · replace hM := i_neg hM c3
    refine lv_aload_n hx hb dX9_joinError_8 rfl (lv_at hl 0 rfl) ?_
    refine lv_iload_n hx hb dX9_joinError_9 rfl (lv_at hl 2 rfl) ?_
    obtain ⟨p4, h5, hM⟩ := b_some hM
    refine q_cv (As := [.int x2]) (rest := []) E hw hl (c_X9_isTicket l D cA tS A h F x2 σ wd p4 h5) 1 (bwV bw_c tb_1233 tb_1235 tb_49 tb_111 tb_1236) rfl (by decide +kernel) ⟨Nat.le_of_ble_eq_true rfl, Nat.le_of_ble_eq_true rfl⟩ 0 9 (T := TX9) (N := 17) rfl rfl rfl rfl (Nat.le_of_ble_eq_true rfl) ⟨Nat.zero_le _, Nat.zero_le _⟩ dX9_joinError_10 (fun H locs hw => ?_)
    refine lv_if_ne (tgt := 19) hx hb dX9_joinError_13 (by decide) (fun c6 => ?_) (fun c6 => ?_)
    · replace hM := i_neg hM c6
      refine lv_iload_n hx hb dX9_joinError_19 rfl (lv_at hl 1 rfl) ?_
      refine lv_iload_n hx hb dX9_joinError_20 rfl (lv_at hl 2 rfl) ?_
      refine lv_icmp_eq (tgt := 44) hx hb dX9_joinError_21 (by decide) (fun c7 => ?_) (fun c7 => ?_)
      · replace hM := i_pos hM c7
        refine lv_bipush (v := (-5)) hx hb dX9_joinError_44 (by decide) ?_
        cases hM
        exact q_reti E hw dX9_joinError_46
      · replace hM := i_neg hM c7
        refine lv_aload_n hx hb dX9_joinError_24 rfl (lv_at hl 0 rfl) ?_
        refine lv_iload_n hx hb dX9_joinError_25 rfl (lv_at hl 1 rfl) ?_
        obtain ⟨p8, h9, hM⟩ := b_some hM
        refine q_cv (As := [.int x1]) (rest := []) E hw hl (c_X9_isAlive l D cA tS A h F x1 σ wd p8 h9) 1 (bwV bw_c tb_1237 tb_1239 tb_50 tb_111 tb_1240) rfl (by decide +kernel) ⟨Nat.le_of_ble_eq_true rfl, Nat.le_of_ble_eq_true rfl⟩ 0 9 (T := TX9) (N := 17) rfl rfl rfl rfl (Nat.le_of_ble_eq_true rfl) ⟨Nat.zero_le _, Nat.zero_le _⟩ dX9_joinError_26 (fun H locs hw => ?_)
        refine lv_if_eq (tgt := 44) hx hb dX9_joinError_29 (by decide) (fun c10 => ?_) (fun c10 => ?_)
        · replace hM := i_pos hM c10
          refine lv_bipush (v := (-5)) hx hb dX9_joinError_44 (by decide) ?_
          cases hM
          exact q_reti E hw dX9_joinError_46
        · replace hM := i_neg hM c10
          refine lv_aload_n hx hb dX9_joinError_32 rfl (lv_at hl 0 rfl) ?_
          refine lv_iload_n hx hb dX9_joinError_33 rfl (lv_at hl 2 rfl) ?_
          obtain ⟨p11, h12, hM⟩ := b_some hM
          refine q_cv (As := [.int x2]) (rest := []) E hw hl (c_X9_isAlive l D cA tS A h F x2 σ wd p11 h12) 1 (bwV bw_c tb_1237 tb_1239 tb_50 tb_111 tb_1240) rfl (by decide +kernel) ⟨Nat.le_of_ble_eq_true rfl, Nat.le_of_ble_eq_true rfl⟩ 0 9 (T := TX9) (N := 17) rfl rfl rfl rfl (Nat.le_of_ble_eq_true rfl) ⟨Nat.zero_le _, Nat.zero_le _⟩ dX9_joinError_34 (fun H locs hw => ?_)
          refine lv_if_eq (tgt := 44) hx hb dX9_joinError_37 (by decide) (fun c13 => ?_) (fun c13 => ?_)
          · replace hM := i_pos hM c13
            refine lv_bipush (v := (-5)) hx hb dX9_joinError_44 (by decide) ?_
            cases hM
            exact q_reti E hw dX9_joinError_46
          · replace hM := i_neg hM c13
            refine lv_iconst (v := 0) hx hb dX9_joinError_40 (by decide) ?_
            refine lv_goto (tgt := 46) hx hb dX9_joinError_41 (by decide) ?_
            cases hM
            exact q_reti E hw dX9_joinError_46
    · replace hM := i_pos hM c6
      refine lv_bipush (v := (-2)) hx hb dX9_joinError_16 (by decide) ?_
      cases hM
      exact q_reti E hw dX9_joinError_18
set_option maxRecDepth 100000 in
set_option maxHeartbeats 4000000 in
theorem c_X9_priorityError (l : Launch) (D : va_G) (cA : Nat → ClassId) (tS : Nat → Nat) (A : Nat → Prop) (h : Nat → Nat) (F : va_W) (x1 : Int32) (x2 : Int32) (σ : Sg) (wd : Int64) (r0 : Int32) (hM : f_X9_priorityError x1 x2 σ wd = some r0) : Ct l yX9_priorityError (Cond.code yX9_priorityError cX9_priorityError 3 (some .int) :: bw) 2 44 D cA tS A [.ref (h 0), .int x1, .int x2] (wM cA h σ wd ++ F) (some (.int r0)) (wM cA h σ wd ++ F) := by
  refine ct_of (by decide +kernel) (Nat.le_of_ble_eq_true rfl) ?_
  intro p e s m below meth c E hw ls hl
  replace E : Ev p cX9_priorityError 3 (some .int) RX9 (Cond.code yX9_priorityError cX9_priorityError 3 (some .int) :: bw) D cA tS A s m _ meth c := E
  replace hl : lv_has ls 3 [(0, .ref (h 0)), (1, .int x1), (2, .int x2)] := hl
  have hx := E.1.1
  have hb := E.1.2.1
  unfold f_X9_priorityError at hM
  refine lv_aload_n hx hb dX9_priorityError_0 rfl (lv_at hl 0 rfl) ?_
  refine lv_iload_n hx hb dX9_priorityError_1 rfl (lv_at hl 1 rfl) ?_
  obtain ⟨p1, h2, hM⟩ := b_some hM
  refine q_cv (As := [.int x1]) (rest := []) E hw hl (c_X9_isTicket l D cA tS A h F x1 σ wd p1 h2) 1 (bwV bw_c tb_1233 tb_1235 tb_49 tb_111 tb_1236) rfl (by decide +kernel) ⟨Nat.le_of_ble_eq_true rfl, Nat.le_of_ble_eq_true rfl⟩ 0 9 (T := TX9) (N := 17) rfl rfl rfl rfl (Nat.le_of_ble_eq_true rfl) ⟨Nat.zero_le _, Nat.zero_le _⟩ dX9_priorityError_2 (fun H locs hw => ?_)
  refine lv_if_ne (tgt := 11) hx hb dX9_priorityError_5 (by decide) (fun c3 => ?_) (fun c3 => ?_)
  · replace hM := i_neg hM c3
    refine lv_iload_n hx hb dX9_priorityError_11 rfl (lv_at hl 2 rfl) ?_
    refine lv_iconst (v := 0) hx hb dX9_priorityError_12 (by decide) ?_
    refine lv_iconst (v := 3) hx hb dX9_priorityError_13 (by decide) ?_
    obtain ⟨p4, h5, hM⟩ := b_some hM
    refine q_cs (As := [.int x2, .int 0, .int 3]) (rest := []) E hw hl (c_X9_isBetween l D cA tS A (wM cA h σ wd ++ F) x2 0 3 p4 h5) 3 (bwS bw_c tb_1212 tb_1213 tb_111 tb_1214) rfl (by decide +kernel) ⟨Nat.le_of_ble_eq_true rfl, Nat.le_of_ble_eq_true rfl⟩ rfl rfl (Nat.le_of_ble_eq_true rfl) ⟨Nat.zero_le _, Nat.zero_le _⟩ dX9_priorityError_14 (fun H locs hw => ?_)
    refine lv_if_ne (tgt := 23) hx hb dX9_priorityError_17 (by decide) (fun c6 => ?_) (fun c6 => ?_)
    · replace hM := i_neg hM c6
      refine lv_aload_n hx hb dX9_priorityError_23 rfl (lv_at hl 0 rfl) ?_
      refine lv_iload_n hx hb dX9_priorityError_24 rfl (lv_at hl 1 rfl) ?_
      refine lv_iconst (v := 3) hx hb dX9_priorityError_25 (by decide) ?_
      obtain ⟨p7, h8, hM⟩ := b_some hM
      refine q_cv (As := [.int x1, .int 3]) (rest := []) E hw hl (c_X9_is l D cA tS A h F x1 3 σ wd p7 h8) 2 (bwV bw_c tb_1249 tb_1251 tb_53 tb_111 tb_1252) rfl (by decide +kernel) ⟨Nat.le_of_ble_eq_true rfl, Nat.le_of_ble_eq_true rfl⟩ 0 9 (T := TX9) (N := 17) rfl rfl rfl rfl (Nat.le_of_ble_eq_true rfl) ⟨Nat.zero_le _, Nat.zero_le _⟩ dX9_priorityError_26 (fun H locs hw => ?_)
      refine lv_if_eq (tgt := 37) hx hb dX9_priorityError_29 (by decide) (fun c9 => ?_) (fun c9 => ?_)
      · replace hM := i_pos hM c9
        refine lv_iconst (v := 0) hx hb dX9_priorityError_37 (by decide) ?_
        cases hM
        exact q_reti E hw dX9_priorityError_38
      · replace hM := i_neg hM c9
        refine lv_bipush (v := (-5)) hx hb dX9_priorityError_32 (by decide) ?_
        refine lv_goto (tgt := 38) hx hb dX9_priorityError_34 (by decide) ?_
        cases hM
        exact q_reti E hw dX9_priorityError_38
    · replace hM := i_pos hM c6
      refine lv_bipush (v := (-4)) hx hb dX9_priorityError_20 (by decide) ?_
      cases hM
      exact q_reti E hw dX9_priorityError_22
  · replace hM := i_pos hM c3
    refine lv_bipush (v := (-2)) hx hb dX9_priorityError_8 (by decide) ?_
    cases hM
    exact q_reti E hw dX9_priorityError_10
set_option maxRecDepth 100000 in
set_option maxHeartbeats 4000000 in
theorem c_X9_mayChange (l : Launch) (D : va_G) (cA : Nat → ClassId) (tS : Nat → Nat) (A : Nat → Prop) (h : Nat → Nat) (F : va_W) (x1 : Int32) (x2 : Int32) (σ : Sg) (wd : Int64) (r0 : Int32) (hM : f_X9_mayChange x1 x2 σ wd = some r0) : Ct l yX9_mayChange (Cond.code yX9_mayChange cX9_mayChange 3 (some .boolean) :: bw) 2 44 D cA tS A [.ref (h 0), .int x1, .int x2] (wM cA h σ wd ++ F) (some (.int r0)) (wM cA h σ wd ++ F) := by
  refine ct_of (by decide +kernel) (Nat.le_of_ble_eq_true rfl) ?_
  intro p e s m below meth c E hw ls hl
  replace E : Ev p cX9_mayChange 3 (some .boolean) RX9 (Cond.code yX9_mayChange cX9_mayChange 3 (some .boolean) :: bw) D cA tS A s m _ meth c := E
  replace hl : lv_has ls 3 [(0, .ref (h 0)), (1, .int x1), (2, .int x2)] := hl
  have hx := E.1.1
  have hb := E.1.2.1
  unfold f_X9_mayChange at hM
  refine lv_iload_n hx hb dX9_mayChange_0 rfl (lv_at hl 1 rfl) ?_
  by_cases c34 : x1 = 3
  · replace hM := i_pos hM c34
    refine lv_tableIn (tgt := 36) hx hb dX9_mayChange_1 (by rw [c34]; decide) (by rw [c34]; decide) (off := 35) (by rw [c34]; decide) (by decide) ?_
    refine lv_aload_n hx hb dX9_mayChange_36 rfl (lv_at hl 0 rfl) ?_
    refine lv_iload_n hx hb dX9_mayChange_37 rfl (lv_at hl 2 rfl) ?_
    refine lv_iconst (v := 0) hx hb dX9_mayChange_38 (by decide) ?_
    obtain ⟨p4, h5, hM⟩ := b_some hM
    refine q_cv (As := [.int x2, .int 0]) (rest := []) E hw hl (c_X9_is l D cA tS A h F x2 0 σ wd p4 h5) 2 (bwV bw_c tb_1249 tb_1251 tb_53 tb_111 tb_1252) rfl (by decide +kernel) ⟨Nat.le_of_ble_eq_true rfl, Nat.le_of_ble_eq_true rfl⟩ 0 9 (T := TX9) (N := 17) rfl rfl rfl rfl (Nat.le_of_ble_eq_true rfl) ⟨Nat.zero_le _, Nat.zero_le _⟩ dX9_mayChange_39 (fun H locs hw => ?_)
    refine lv_if_ne (tgt := 54) hx hb dX9_mayChange_42 (by decide) (fun c6 => ?_) (fun c6 => ?_)
    · replace hM := i_neg hM c6
      refine lv_iconst (v := 1) hx hb dX9_mayChange_54 (by decide) ?_
      refine lv_goto (tgt := 59) hx hb dX9_mayChange_55 (by decide) ?_
      cases hM
      exact q_retz E hw (by decide) dX9_mayChange_59
    · replace hM := i_pos hM c6
      refine lv_aload_n hx hb dX9_mayChange_45 rfl (lv_at hl 0 rfl) ?_
      refine lv_iload_n hx hb dX9_mayChange_46 rfl (lv_at hl 2 rfl) ?_
      refine lv_iconst (v := 1) hx hb dX9_mayChange_47 (by decide) ?_
      obtain ⟨p7, h8, hM⟩ := b_some hM
      refine q_cv (As := [.int x2, .int 1]) (rest := []) E hw hl (c_X9_is l D cA tS A h F x2 1 σ wd p7 h8) 2 (bwV bw_c tb_1249 tb_1251 tb_53 tb_111 tb_1252) rfl (by decide +kernel) ⟨Nat.le_of_ble_eq_true rfl, Nat.le_of_ble_eq_true rfl⟩ 0 9 (T := TX9) (N := 17) rfl rfl rfl rfl (Nat.le_of_ble_eq_true rfl) ⟨Nat.zero_le _, Nat.zero_le _⟩ dX9_mayChange_48 (fun H locs hw => ?_)
      refine lv_if_eq (tgt := 58) hx hb dX9_mayChange_51 (by decide) (fun c9 => ?_) (fun c9 => ?_)
      · replace hM := i_pos hM c9
        refine lv_iconst (v := 0) hx hb dX9_mayChange_58 (by decide) ?_
        cases hM
        exact q_retz E hw (by decide) dX9_mayChange_59
      · replace hM := i_neg hM c9
        refine lv_iconst (v := 1) hx hb dX9_mayChange_54 (by decide) ?_
        refine lv_goto (tgt := 59) hx hb dX9_mayChange_55 (by decide) ?_
        cases hM
        exact q_retz E hw (by decide) dX9_mayChange_59
  replace hM := i_neg hM c34
  by_cases c35 : x1 = 4
  · replace hM := i_pos hM c35
    refine lv_tableIn (tgt := 60) hx hb dX9_mayChange_1 (by rw [c35]; decide) (by rw [c35]; decide) (off := 59) (by rw [c35]; decide) (by decide) ?_
    refine lv_aload_n hx hb dX9_mayChange_60 rfl (lv_at hl 0 rfl) ?_
    refine lv_iload_n hx hb dX9_mayChange_61 rfl (lv_at hl 2 rfl) ?_
    refine lv_iconst (v := 2) hx hb dX9_mayChange_62 (by decide) ?_
    obtain ⟨p10, h11, hM⟩ := b_some hM
    refine q_cv (As := [.int x2, .int 2]) (rest := []) E hw hl (c_X9_is l D cA tS A h F x2 2 σ wd p10 h11) 2 (bwV bw_c tb_1249 tb_1251 tb_53 tb_111 tb_1252) rfl (by decide +kernel) ⟨Nat.le_of_ble_eq_true rfl, Nat.le_of_ble_eq_true rfl⟩ 0 9 (T := TX9) (N := 17) rfl rfl rfl rfl (Nat.le_of_ble_eq_true rfl) ⟨Nat.zero_le _, Nat.zero_le _⟩ dX9_mayChange_63 (fun H locs hw => ?_)
    obtain ⟨g12, hM⟩ := g_some hM
    cases hM
    exact q_retz E hw g12 dX9_mayChange_66
  replace hM := i_neg hM c35
  by_cases c36 : x1 = 5
  · replace hM := i_pos hM c36
    refine lv_tableIn (tgt := 67) hx hb dX9_mayChange_1 (by rw [c36]; decide) (by rw [c36]; decide) (off := 66) (by rw [c36]; decide) (by decide) ?_
    refine lv_aload_n hx hb dX9_mayChange_67 rfl (lv_at hl 0 rfl) ?_
    refine lv_iload_n hx hb dX9_mayChange_68 rfl (lv_at hl 2 rfl) ?_
    refine lv_iconst (v := 0) hx hb dX9_mayChange_69 (by decide) ?_
    obtain ⟨p13, h14, hM⟩ := b_some hM
    refine q_cv (As := [.int x2, .int 0]) (rest := []) E hw hl (c_X9_is l D cA tS A h F x2 0 σ wd p13 h14) 2 (bwV bw_c tb_1249 tb_1251 tb_53 tb_111 tb_1252) rfl (by decide +kernel) ⟨Nat.le_of_ble_eq_true rfl, Nat.le_of_ble_eq_true rfl⟩ 0 9 (T := TX9) (N := 17) rfl rfl rfl rfl (Nat.le_of_ble_eq_true rfl) ⟨Nat.zero_le _, Nat.zero_le _⟩ dX9_mayChange_70 (fun H locs hw => ?_)
    refine lv_if_ne (tgt := 85) hx hb dX9_mayChange_73 (by decide) (fun c15 => ?_) (fun c15 => ?_)
    · replace hM := i_neg hM c15
      refine lv_aload_n hx hb dX9_mayChange_85 rfl (lv_at hl 0 rfl) ?_
      refine lv_iload_n hx hb dX9_mayChange_86 rfl (lv_at hl 2 rfl) ?_
      refine lv_iconst (v := 4) hx hb dX9_mayChange_87 (by decide) ?_
      obtain ⟨p16, h17, hM⟩ := b_some hM
      refine q_cv (As := [.int x2, .int 4]) (rest := []) E hw hl (c_X9_ticket l D cA tS A h F x2 4 σ wd p16 h17) 2 (bwV bw_c tb_1241 tb_1243 tb_51 tb_111 tb_1244) rfl (by decide +kernel) ⟨Nat.le_of_ble_eq_true rfl, Nat.le_of_ble_eq_true rfl⟩ 0 9 (T := TX9) (N := 17) rfl rfl rfl rfl (Nat.le_of_ble_eq_true rfl) ⟨Nat.zero_le _, Nat.zero_le _⟩ dX9_mayChange_88 (fun H locs hw => ?_)
      refine lv_iconst (v := 3) hx hb dX9_mayChange_91 (by decide) ?_
      refine lv_icmp_ge (tgt := 99) hx hb dX9_mayChange_92 (by decide) (fun c18 => ?_) (fun c18 => ?_)
      · replace hM := i_pos hM c18
        refine lv_iconst (v := 0) hx hb dX9_mayChange_99 (by decide) ?_
        cases hM
        exact q_retz E hw (by decide) dX9_mayChange_100
      · replace hM := i_neg hM c18
        refine lv_iconst (v := 1) hx hb dX9_mayChange_95 (by decide) ?_
        refine lv_goto (tgt := 100) hx hb dX9_mayChange_96 (by decide) ?_
        cases hM
        exact q_retz E hw (by decide) dX9_mayChange_100
    · replace hM := i_pos hM c15
      refine lv_aload_n hx hb dX9_mayChange_76 rfl (lv_at hl 0 rfl) ?_
      refine lv_iload_n hx hb dX9_mayChange_77 rfl (lv_at hl 2 rfl) ?_
      refine lv_iconst (v := 1) hx hb dX9_mayChange_78 (by decide) ?_
      obtain ⟨p19, h20, hM⟩ := b_some hM
      refine q_cv (As := [.int x2, .int 1]) (rest := []) E hw hl (c_X9_is l D cA tS A h F x2 1 σ wd p19 h20) 2 (bwV bw_c tb_1249 tb_1251 tb_53 tb_111 tb_1252) rfl (by decide +kernel) ⟨Nat.le_of_ble_eq_true rfl, Nat.le_of_ble_eq_true rfl⟩ 0 9 (T := TX9) (N := 17) rfl rfl rfl rfl (Nat.le_of_ble_eq_true rfl) ⟨Nat.zero_le _, Nat.zero_le _⟩ dX9_mayChange_79 (fun H locs hw => ?_)
      refine lv_if_eq (tgt := 99) hx hb dX9_mayChange_82 (by decide) (fun c21 => ?_) (fun c21 => ?_)
      · replace hM := i_pos hM c21
        refine lv_iconst (v := 0) hx hb dX9_mayChange_99 (by decide) ?_
        cases hM
        exact q_retz E hw (by decide) dX9_mayChange_100
      · replace hM := i_neg hM c21
        refine lv_aload_n hx hb dX9_mayChange_85 rfl (lv_at hl 0 rfl) ?_
        refine lv_iload_n hx hb dX9_mayChange_86 rfl (lv_at hl 2 rfl) ?_
        refine lv_iconst (v := 4) hx hb dX9_mayChange_87 (by decide) ?_
        obtain ⟨p22, h23, hM⟩ := b_some hM
        refine q_cv (As := [.int x2, .int 4]) (rest := []) E hw hl (c_X9_ticket l D cA tS A h F x2 4 σ wd p22 h23) 2 (bwV bw_c tb_1241 tb_1243 tb_51 tb_111 tb_1244) rfl (by decide +kernel) ⟨Nat.le_of_ble_eq_true rfl, Nat.le_of_ble_eq_true rfl⟩ 0 9 (T := TX9) (N := 17) rfl rfl rfl rfl (Nat.le_of_ble_eq_true rfl) ⟨Nat.zero_le _, Nat.zero_le _⟩ dX9_mayChange_88 (fun H locs hw => ?_)
        refine lv_iconst (v := 3) hx hb dX9_mayChange_91 (by decide) ?_
        refine lv_icmp_ge (tgt := 99) hx hb dX9_mayChange_92 (by decide) (fun c24 => ?_) (fun c24 => ?_)
        · replace hM := i_pos hM c24
          refine lv_iconst (v := 0) hx hb dX9_mayChange_99 (by decide) ?_
          cases hM
          exact q_retz E hw (by decide) dX9_mayChange_100
        · replace hM := i_neg hM c24
          refine lv_iconst (v := 1) hx hb dX9_mayChange_95 (by decide) ?_
          refine lv_goto (tgt := 100) hx hb dX9_mayChange_96 (by decide) ?_
          cases hM
          exact q_retz E hw (by decide) dX9_mayChange_100
  replace hM := i_neg hM c36
  by_cases c37 : x1 = 6
  · replace hM := i_pos hM c37
    refine lv_tableIn (tgt := 101) hx hb dX9_mayChange_1 (by rw [c37]; decide) (by rw [c37]; decide) (off := 100) (by rw [c37]; decide) (by decide) ?_
    refine lv_aload_n hx hb dX9_mayChange_101 rfl (lv_at hl 0 rfl) ?_
    refine lv_iload_n hx hb dX9_mayChange_102 rfl (lv_at hl 2 rfl) ?_
    obtain ⟨p25, h26, hM⟩ := b_some hM
    refine q_cv (As := [.int x2]) (rest := []) E hw hl (c_X9_isAlive l D cA tS A h F x2 σ wd p25 h26) 1 (bwV bw_c tb_1237 tb_1239 tb_50 tb_111 tb_1240) rfl (by decide +kernel) ⟨Nat.le_of_ble_eq_true rfl, Nat.le_of_ble_eq_true rfl⟩ 0 9 (T := TX9) (N := 17) rfl rfl rfl rfl (Nat.le_of_ble_eq_true rfl) ⟨Nat.zero_le _, Nat.zero_le _⟩ dX9_mayChange_103 (fun H locs hw => ?_)
    obtain ⟨g27, hM⟩ := g_some hM
    cases hM
    exact q_retz E hw g27 dX9_mayChange_106
  replace hM := i_neg hM c37
  by_cases c38 : x1 = 7
  · replace hM := i_pos hM c38
    refine lv_tableIn (tgt := 107) hx hb dX9_mayChange_1 (by rw [c38]; decide) (by rw [c38]; decide) (off := 106) (by rw [c38]; decide) (by decide) ?_
    refine lv_aload_n hx hb dX9_mayChange_107 rfl (lv_at hl 0 rfl) ?_
    refine lv_iload_n hx hb dX9_mayChange_108 rfl (lv_at hl 2 rfl) ?_
    refine lv_iconst (v := 3) hx hb dX9_mayChange_109 (by decide) ?_
    obtain ⟨p28, h29, hM⟩ := b_some hM
    refine q_cv (As := [.int x2, .int 3]) (rest := []) E hw hl (c_X9_is l D cA tS A h F x2 3 σ wd p28 h29) 2 (bwV bw_c tb_1249 tb_1251 tb_53 tb_111 tb_1252) rfl (by decide +kernel) ⟨Nat.le_of_ble_eq_true rfl, Nat.le_of_ble_eq_true rfl⟩ 0 9 (T := TX9) (N := 17) rfl rfl rfl rfl (Nat.le_of_ble_eq_true rfl) ⟨Nat.zero_le _, Nat.zero_le _⟩ dX9_mayChange_110 (fun H locs hw => ?_)
    refine lv_if_eq (tgt := 131) hx hb dX9_mayChange_113 (by decide) (fun c30 => ?_) (fun c30 => ?_)
    · replace hM := i_pos hM c30
      refine lv_iconst (v := 0) hx hb dX9_mayChange_131 (by decide) ?_
      cases hM
      exact q_retz E hw (by decide) dX9_mayChange_132
    · replace hM := i_neg hM c30
      refine lv_aload_n hx hb dX9_mayChange_116 rfl (lv_at hl 0 rfl) ?_
      refine lv_iload_n hx hb dX9_mayChange_117 rfl (lv_at hl 2 rfl) ?_
      refine lv_bipush (v := 10) hx hb dX9_mayChange_118 (by decide) ?_
      obtain ⟨p31, h32, hM⟩ := b_some hM
      refine q_cv (As := [.int x2, .int 10]) (rest := []) E hw hl (c_X9_ticket l D cA tS A h F x2 10 σ wd p31 h32) 2 (bwV bw_c tb_1241 tb_1243 tb_51 tb_111 tb_1244) rfl (by decide +kernel) ⟨Nat.le_of_ble_eq_true rfl, Nat.le_of_ble_eq_true rfl⟩ 0 9 (T := TX9) (N := 17) rfl rfl rfl rfl (Nat.le_of_ble_eq_true rfl) ⟨Nat.zero_le _, Nat.zero_le _⟩ dX9_mayChange_120 (fun H locs hw => ?_)
      refine lv_iconst (v := (-1)) hx hb dX9_mayChange_123 (by decide) ?_
      refine lv_icmp_ne (tgt := 131) hx hb dX9_mayChange_124 (by decide) (fun c33 => ?_) (fun c33 => ?_)
      · replace hM := i_neg hM c33
        refine lv_iconst (v := 0) hx hb dX9_mayChange_131 (by decide) ?_
        cases hM
        exact q_retz E hw (by decide) dX9_mayChange_132
      · replace hM := i_pos hM c33
        refine lv_iconst (v := 1) hx hb dX9_mayChange_127 (by decide) ?_
        refine lv_goto (tgt := 132) hx hb dX9_mayChange_128 (by decide) ?_
        cases hM
        exact q_retz E hw (by decide) dX9_mayChange_132
  replace hM := i_neg hM c38
  refine q_tableD (tgt := 133) hx hb dX9_mayChange_1 (fun hq => ?_) (by decide) ?_
  · have hz : (x1).toInt = 3 ∨ (x1).toInt = 4 ∨ (x1).toInt = 5 ∨ (x1).toInt = 6 ∨ (x1).toInt = 7 := by omega
    rcases hz with hz | hz | hz | hz | hz
    · exact absurd (Int32.toInt_inj.mp (hz.trans (by decide))) c34
    · exact absurd (Int32.toInt_inj.mp (hz.trans (by decide))) c35
    · exact absurd (Int32.toInt_inj.mp (hz.trans (by decide))) c36
    · exact absurd (Int32.toInt_inj.mp (hz.trans (by decide))) c37
    · exact absurd (Int32.toInt_inj.mp (hz.trans (by decide))) c38
  refine lv_aload_n hx hb dX9_mayChange_133 rfl (lv_at hl 0 rfl) ?_
  refine lv_iload_n hx hb dX9_mayChange_134 rfl (lv_at hl 2 rfl) ?_
  refine lv_iconst (v := 4) hx hb dX9_mayChange_135 (by decide) ?_
  obtain ⟨p1, h2, hM⟩ := b_some hM
  refine q_cv (As := [.int x2, .int 4]) (rest := []) E hw hl (c_X9_is l D cA tS A h F x2 4 σ wd p1 h2) 2 (bwV bw_c tb_1249 tb_1251 tb_53 tb_111 tb_1252) rfl (by decide +kernel) ⟨Nat.le_of_ble_eq_true rfl, Nat.le_of_ble_eq_true rfl⟩ 0 9 (T := TX9) (N := 17) rfl rfl rfl rfl (Nat.le_of_ble_eq_true rfl) ⟨Nat.zero_le _, Nat.zero_le _⟩ dX9_mayChange_136 (fun H locs hw => ?_)
  obtain ⟨g3, hM⟩ := g_some hM
  cases hM
  exact q_retz E hw g3 dX9_mayChange_139
set_option maxRecDepth 100000 in
set_option maxHeartbeats 4000000 in
theorem c_X9_errorOf (l : Launch) (D : va_G) (cA : Nat → ClassId) (tS : Nat → Nat) (A : Nat → Prop) (h : Nat → Nat) (F : va_W) (x1 : Int32) (x2 : Int32) (x3 : Int32) (x4 : Int32) (x5 : Int32) (σ : Sg) (wd : Int64) (r0 : Int32) (hM : f_X9_errorOf x1 x2 x3 x4 x5 σ wd = some r0) : Ct l yX9_errorOf (Cond.code yX9_errorOf cX9_errorOf 6 (some .int) :: bw) 3 67 D cA tS A [.ref (h 0), .int x1, .int x2, .int x3, .int x4, .int x5] (wM cA h σ wd ++ F) (some (.int r0)) (wM cA h σ wd ++ F) := by
  refine ct_of (by decide +kernel) (Nat.le_of_ble_eq_true rfl) ?_
  intro p e s m below meth c E hw ls hl
  replace E : Ev p cX9_errorOf 6 (some .int) RX9 (Cond.code yX9_errorOf cX9_errorOf 6 (some .int) :: bw) D cA tS A s m _ meth c := E
  replace hl : lv_has ls 6 [(0, .ref (h 0)), (1, .int x1), (2, .int x2), (3, .int x3), (4, .int x4), (5, .int x5)] := hl
  have hx := E.1.1
  have hb := E.1.2.1
  unfold f_X9_errorOf at hM
  refine lv_iload_n hx hb dX9_errorOf_0 rfl (lv_at hl 1 rfl) ?_
  by_cases c25 : x1 = 0
  · replace hM := i_pos hM c25
    refine lv_tableIn (tgt := 60) hx hb dX9_errorOf_1 (by rw [c25]; decide) (by rw [c25]; decide) (off := 59) (by rw [c25]; decide) (by decide) ?_
    refine lv_iload_n hx hb dX9_errorOf_60 rfl (lv_at hl 2 rfl) ?_
    obtain ⟨p7, h8, hM⟩ := b_some hM
    refine q_cs (As := [.int x2]) (rest := []) E hw hl (c_X9_isDay l D cA tS A (wM cA h σ wd ++ F) x2 p7 h8) 1 (bwS bw_c tb_1209 tb_1210 tb_111 tb_1211) rfl (by decide +kernel) ⟨Nat.le_of_ble_eq_true rfl, Nat.le_of_ble_eq_true rfl⟩ rfl rfl (Nat.le_of_ble_eq_true rfl) ⟨Nat.zero_le _, Nat.zero_le _⟩ dX9_errorOf_61 (fun H locs hw => ?_)
    refine lv_if_eq (tgt := 80) hx hb dX9_errorOf_64 (by decide) (fun c9 => ?_) (fun c9 => ?_)
    · replace hM := i_pos hM c9
      refine lv_bipush (v := (-4)) hx hb dX9_errorOf_80 (by decide) ?_
      cases hM
      exact q_reti E hw dX9_errorOf_82
    · replace hM := i_neg hM c9
      refine lv_iload_n hx hb dX9_errorOf_67 rfl (lv_at hl 3 rfl) ?_
      refine lv_iload hx hb dX9_errorOf_68 (lv_at hl 4 rfl) ?_
      obtain ⟨p10, h11, hM⟩ := b_some hM
      refine q_cs (As := [.int x3, .int x4]) (rest := []) E hw hl (c_X9_areHours l D cA tS A (wM cA h σ wd ++ F) x3 x4 p10 h11) 2 (bwS bw_c tb_1215 tb_1216 tb_111 tb_1217) rfl (by decide +kernel) ⟨Nat.le_of_ble_eq_true rfl, Nat.le_of_ble_eq_true rfl⟩ rfl rfl (Nat.le_of_ble_eq_true rfl) ⟨Nat.zero_le _, Nat.zero_le _⟩ dX9_errorOf_70 (fun H locs hw => ?_)
      refine lv_if_eq (tgt := 80) hx hb dX9_errorOf_73 (by decide) (fun c12 => ?_) (fun c12 => ?_)
      · replace hM := i_pos hM c12
        refine lv_bipush (v := (-4)) hx hb dX9_errorOf_80 (by decide) ?_
        cases hM
        exact q_reti E hw dX9_errorOf_82
      · replace hM := i_neg hM c12
        refine lv_iconst (v := 0) hx hb dX9_errorOf_76 (by decide) ?_
        refine lv_goto (tgt := 82) hx hb dX9_errorOf_77 (by decide) ?_
        cases hM
        exact q_reti E hw dX9_errorOf_82
  replace hM := i_neg hM c25
  by_cases c26 : x1 = 1
  · replace hM := i_pos hM c26
    refine lv_tableIn (tgt := 83) hx hb dX9_errorOf_1 (by rw [c26]; decide) (by rw [c26]; decide) (off := 82) (by rw [c26]; decide) (by decide) ?_
    refine lv_iload_n hx hb dX9_errorOf_83 rfl (lv_at hl 2 rfl) ?_
    obtain ⟨p13, h14, hM⟩ := b_some hM
    refine q_cs (As := [.int x2]) (rest := []) E hw hl (c_X9_isLevel l D cA tS A (wM cA h σ wd ++ F) x2 p13 h14) 1 (bwS bw_c tb_1218 tb_1219 tb_111 tb_1220) rfl (by decide +kernel) ⟨Nat.le_of_ble_eq_true rfl, Nat.le_of_ble_eq_true rfl⟩ rfl rfl (Nat.le_of_ble_eq_true rfl) ⟨Nat.zero_le _, Nat.zero_le _⟩ dX9_errorOf_84 (fun H locs hw => ?_)
    refine lv_if_eq (tgt := 104) hx hb dX9_errorOf_87 (by decide) (fun c15 => ?_) (fun c15 => ?_)
    · replace hM := i_pos hM c15
      refine lv_bipush (v := (-4)) hx hb dX9_errorOf_104 (by decide) ?_
      cases hM
      exact q_reti E hw dX9_errorOf_106
    · replace hM := i_neg hM c15
      refine lv_iload_n hx hb dX9_errorOf_90 rfl (lv_at hl 3 rfl) ?_
      refine lv_iconst (v := 0) hx hb dX9_errorOf_91 (by decide) ?_
      refine lv_bipush (v := 9) hx hb dX9_errorOf_92 (by decide) ?_
      obtain ⟨p16, h17, hM⟩ := b_some hM
      refine q_cs (As := [.int x3, .int 0, .int 9]) (rest := []) E hw hl (c_X9_isBetween l D cA tS A (wM cA h σ wd ++ F) x3 0 9 p16 h17) 3 (bwS bw_c tb_1212 tb_1213 tb_111 tb_1214) rfl (by decide +kernel) ⟨Nat.le_of_ble_eq_true rfl, Nat.le_of_ble_eq_true rfl⟩ rfl rfl (Nat.le_of_ble_eq_true rfl) ⟨Nat.zero_le _, Nat.zero_le _⟩ dX9_errorOf_94 (fun H locs hw => ?_)
      refine lv_if_eq (tgt := 104) hx hb dX9_errorOf_97 (by decide) (fun c18 => ?_) (fun c18 => ?_)
      · replace hM := i_pos hM c18
        refine lv_bipush (v := (-4)) hx hb dX9_errorOf_104 (by decide) ?_
        cases hM
        exact q_reti E hw dX9_errorOf_106
      · replace hM := i_neg hM c18
        refine lv_iconst (v := 0) hx hb dX9_errorOf_100 (by decide) ?_
        refine lv_goto (tgt := 106) hx hb dX9_errorOf_101 (by decide) ?_
        cases hM
        exact q_reti E hw dX9_errorOf_106
  replace hM := i_neg hM c26
  by_cases c27 : x1 = 2
  · replace hM := i_pos hM c27
    refine lv_tableIn (tgt := 107) hx hb dX9_errorOf_1 (by rw [c27]; decide) (by rw [c27]; decide) (off := 106) (by rw [c27]; decide) (by decide) ?_
    refine lv_aload_n hx hb dX9_errorOf_107 rfl (lv_at hl 0 rfl) ?_
    refine lv_iload_n hx hb dX9_errorOf_108 rfl (lv_at hl 2 rfl) ?_
    refine lv_iload_n hx hb dX9_errorOf_109 rfl (lv_at hl 3 rfl) ?_
    refine lv_iload hx hb dX9_errorOf_110 (lv_at hl 4 rfl) ?_
    refine lv_iload hx hb dX9_errorOf_112 (lv_at hl 5 rfl) ?_
    obtain ⟨p19, h20, hM⟩ := b_some hM
    refine q_cv (As := [.int x2, .int x3, .int x4, .int x5]) (rest := []) E hw hl (c_X9_reportError l D cA tS A h F x2 x3 x4 x5 σ wd p19 h20) 4 (bwV bw_c tb_1221 tb_1223 tb_46 tb_111 tb_1224) rfl (by decide +kernel) ⟨Nat.le_of_ble_eq_true rfl, Nat.le_of_ble_eq_true rfl⟩ 0 9 (T := TX9) (N := 17) rfl rfl rfl rfl (Nat.le_of_ble_eq_true rfl) ⟨Nat.zero_le _, Nat.zero_le _⟩ dX9_errorOf_114 (fun H locs hw => ?_)
    cases hM
    exact q_reti E hw dX9_errorOf_117
  replace hM := i_neg hM c27
  by_cases c28 : x1 = 8
  · replace hM := i_pos hM c28
    refine lv_tableIn (tgt := 118) hx hb dX9_errorOf_1 (by rw [c28]; decide) (by rw [c28]; decide) (off := 117) (by rw [c28]; decide) (by decide) ?_
    refine lv_aload_n hx hb dX9_errorOf_118 rfl (lv_at hl 0 rfl) ?_
    refine lv_iload_n hx hb dX9_errorOf_119 rfl (lv_at hl 2 rfl) ?_
    refine lv_iload_n hx hb dX9_errorOf_120 rfl (lv_at hl 3 rfl) ?_
    obtain ⟨p21, h22, hM⟩ := b_some hM
    refine q_cv (As := [.int x2, .int x3]) (rest := []) E hw hl (c_X9_joinError l D cA tS A h F x2 x3 σ wd p21 h22) 2 (bwV bw_c tb_1229 tb_1231 tb_48 tb_111 tb_1232) rfl (by decide +kernel) ⟨Nat.le_of_ble_eq_true rfl, Nat.le_of_ble_eq_true rfl⟩ 0 9 (T := TX9) (N := 17) rfl rfl rfl rfl (Nat.le_of_ble_eq_true rfl) ⟨Nat.zero_le _, Nat.zero_le _⟩ dX9_errorOf_121 (fun H locs hw => ?_)
    cases hM
    exact q_reti E hw dX9_errorOf_124
  replace hM := i_neg hM c28
  by_cases c29 : x1 = 10
  · replace hM := i_pos hM c29
    refine lv_tableIn (tgt := 125) hx hb dX9_errorOf_1 (by rw [c29]; decide) (by rw [c29]; decide) (off := 124) (by rw [c29]; decide) (by decide) ?_
    refine lv_aload_n hx hb dX9_errorOf_125 rfl (lv_at hl 0 rfl) ?_
    refine lv_iload_n hx hb dX9_errorOf_126 rfl (lv_at hl 2 rfl) ?_
    refine lv_iload_n hx hb dX9_errorOf_127 rfl (lv_at hl 3 rfl) ?_
    obtain ⟨p23, h24, hM⟩ := b_some hM
    refine q_cv (As := [.int x2, .int x3]) (rest := []) E hw hl (c_X9_priorityError l D cA tS A h F x2 x3 σ wd p23 h24) 2 (bwV bw_c tb_1245 tb_1247 tb_52 tb_111 tb_1248) rfl (by decide +kernel) ⟨Nat.le_of_ble_eq_true rfl, Nat.le_of_ble_eq_true rfl⟩ 0 9 (T := TX9) (N := 17) rfl rfl rfl rfl (Nat.le_of_ble_eq_true rfl) ⟨Nat.zero_le _, Nat.zero_le _⟩ dX9_errorOf_128 (fun H locs hw => ?_)
    cases hM
    exact q_reti E hw dX9_errorOf_131
  replace hM := i_neg hM c29
  refine q_tableD (tgt := 132) hx hb dX9_errorOf_1 (fun hq => ?_) (by decide) ?_
  · have hz : (x1).toInt = 0 ∨ (x1).toInt = 1 ∨ (x1).toInt = 2 ∨ (x1).toInt = 3 ∨ (x1).toInt = 4 ∨ (x1).toInt = 5 ∨ (x1).toInt = 6 ∨ (x1).toInt = 7 ∨ (x1).toInt = 8 ∨ (x1).toInt = 9 ∨ (x1).toInt = 10 := by omega
    rcases hz with hz | hz | hz | hz | hz | hz | hz | hz | hz | hz | hz
    · exact absurd (Int32.toInt_inj.mp (hz.trans (by decide))) c25
    · exact absurd (Int32.toInt_inj.mp (hz.trans (by decide))) c26
    · exact absurd (Int32.toInt_inj.mp (hz.trans (by decide))) c27
    · rw [hz]; decide
    · rw [hz]; decide
    · rw [hz]; decide
    · rw [hz]; decide
    · rw [hz]; decide
    · exact absurd (Int32.toInt_inj.mp (hz.trans (by decide))) c28
    · rw [hz]; decide
    · exact absurd (Int32.toInt_inj.mp (hz.trans (by decide))) c29
  refine lv_aload_n hx hb dX9_errorOf_132 rfl (lv_at hl 0 rfl) ?_
  refine lv_iload_n hx hb dX9_errorOf_133 rfl (lv_at hl 2 rfl) ?_
  obtain ⟨p1, h2, hM⟩ := b_some hM
  refine q_cv (As := [.int x2]) (rest := []) E hw hl (c_X9_isTicket l D cA tS A h F x2 σ wd p1 h2) 1 (bwV bw_c tb_1233 tb_1235 tb_49 tb_111 tb_1236) rfl (by decide +kernel) ⟨Nat.le_of_ble_eq_true rfl, Nat.le_of_ble_eq_true rfl⟩ 0 9 (T := TX9) (N := 17) rfl rfl rfl rfl (Nat.le_of_ble_eq_true rfl) ⟨Nat.zero_le _, Nat.zero_le _⟩ dX9_errorOf_134 (fun H locs hw => ?_)
  refine lv_if_ne (tgt := 143) hx hb dX9_errorOf_137 (by decide) (fun c3 => ?_) (fun c3 => ?_)
  · replace hM := i_neg hM c3
    refine lv_aload_n hx hb dX9_errorOf_143 rfl (lv_at hl 0 rfl) ?_
    refine lv_iload_n hx hb dX9_errorOf_144 rfl (lv_at hl 1 rfl) ?_
    refine lv_iload_n hx hb dX9_errorOf_145 rfl (lv_at hl 2 rfl) ?_
    obtain ⟨p4, h5, hM⟩ := b_some hM
    refine q_cv (As := [.int x1, .int x2]) (rest := []) E hw hl (c_X9_mayChange l D cA tS A h F x1 x2 σ wd p4 h5) 2 (bwV bw_c tb_1253 tb_1255 tb_54 tb_111 tb_1256) rfl (by decide +kernel) ⟨Nat.le_of_ble_eq_true rfl, Nat.le_of_ble_eq_true rfl⟩ 0 9 (T := TX9) (N := 17) rfl rfl rfl rfl (Nat.le_of_ble_eq_true rfl) ⟨Nat.zero_le _, Nat.zero_le _⟩ dX9_errorOf_146 (fun H locs hw => ?_)
    refine lv_if_eq (tgt := 156) hx hb dX9_errorOf_149 (by decide) (fun c6 => ?_) (fun c6 => ?_)
    · replace hM := i_pos hM c6
      refine lv_bipush (v := (-5)) hx hb dX9_errorOf_156 (by decide) ?_
      cases hM
      exact q_reti E hw dX9_errorOf_158
    · replace hM := i_neg hM c6
      refine lv_iconst (v := 0) hx hb dX9_errorOf_152 (by decide) ?_
      refine lv_goto (tgt := 158) hx hb dX9_errorOf_153 (by decide) ?_
      cases hM
      exact q_reti E hw dX9_errorOf_158
  · replace hM := i_pos hM c3
    refine lv_bipush (v := (-2)) hx hb dX9_errorOf_140 (by decide) ?_
    cases hM
    exact q_reti E hw dX9_errorOf_142
set_option maxRecDepth 100000 in
set_option maxHeartbeats 4000000 in
theorem s_X9_countOf_5 (l : Launch) (D : va_G) (cA : Nat → ClassId) (tS : Nat → Nat) (A : Nat → Prop) (h : Nat → Nat) (F : va_W) (N : Nat) {p : Program} {e : Env} {s : State} {m : MethodId} {args : Array Value} {below : List Frame} {meth : Method} {c : Code} (E : Ev p cX9_countOf 5 (some .int) RX9 (Cond.code yX9_countOf cX9_countOf 5 (some .int) :: bw) D cA tS A s m args meth c) : ∀ (n : Nat) (x1 : Int32) (x2 : Int32) (x3 : Int32) (x4 : Int32) (σ : Sg) (wd : Int64) (r0 : Int32) (hM : f_X9_countOf_5 N n x1 x2 x3 x4 σ wd = some r0) (H : Heap) (locs : List Loc) (hw : Wd D A (wM cA h σ wd ++ F) s.heap H locs) (ls : Array Slot) (hl : lv_has ls 5 [(0, .ref (h 0)), (1, .int x1), (2, .int x2), (3, .int x3), (4, .int x4)]), W p l e ({ frames := 2, cells := 0, slots := 0, locals := 44 } : Room) s m args below meth c H locs 0 0 (MQ below (QW D A (some (.int r0)) (wM cA h σ wd ++ F)) args s 0 0 A) (F0 m 5 ls []) := by
  have hx := E.1.1
  have hb := E.1.2.1
  intro n
  induction n with
  | zero =>
    intro x1 x2 x3 x4 σ wd r0 hM
    cases hM
  | succ n ih =>
    intro x1 x2 x3 x4 σ wd r0 hM H locs hw ls hl
    rw [f_X9_countOf_5] at hM
    refine lv_iload hx hb dX9_countOf_5 (lv_at hl 4 rfl) ?_
    refine lv_aload_n hx hb dX9_countOf_7 rfl (lv_at hl 0 rfl) ?_
    refine q_get (C := RX9) (T := TX9) (N := 17) (ci := 9) E (fun w h => List.mem_cons_of_mem _ (inX9 w h)) hw 0 rfl rfl 0 (by decide) (List.mem_cons_of_mem _ tb_1145) (v := .ref (h 1)) rfl dX9_countOf_8 ?_
    refine lv_bipush (v := 56) hx hb dX9_countOf_11 (by decide) ?_
    refine q_ald E hw 1 (n := 4619) rfl (by decide +kernel) (x := (σ 1 (ix 56))) rfl dX9_countOf_13 ?_
    refine lv_icmp_ge (tgt := 52) hx hb dX9_countOf_14 (by decide) (fun c1 => ?_) (fun c1 => ?_)
    · replace hM := i_pos hM c1
      refine lv_iload_n hx hb dX9_countOf_52 rfl (lv_at hl 3 rfl) ?_
      cases hM
      exact q_reti E hw dX9_countOf_53
    · replace hM := i_neg hM c1
      refine lv_iload_n hx hb dX9_countOf_17 rfl (lv_at hl 3 rfl) ?_
      refine lv_aload_n hx hb dX9_countOf_18 rfl (lv_at hl 0 rfl) ?_
      refine lv_iload hx hb dX9_countOf_19 (lv_at hl 4 rfl) ?_
      refine lv_iload_n hx hb dX9_countOf_21 rfl (lv_at hl 2 rfl) ?_
      obtain ⟨p2, h3, hM⟩ := b_some hM
      refine q_cv (As := [.int x4, .int x2]) (rest := [.int x3]) E hw hl (c_X9_is l D cA tS A h F x4 x2 σ wd p2 h3) 2 (bwV bw_c tb_1249 tb_1251 tb_53 tb_111 tb_1252) rfl (by decide +kernel) ⟨Nat.le_of_ble_eq_true rfl, Nat.le_of_ble_eq_true rfl⟩ 0 9 (T := TX9) (N := 17) rfl rfl rfl rfl (Nat.le_of_ble_eq_true rfl) ⟨Nat.zero_le _, Nat.zero_le _⟩ dX9_countOf_22 (fun H locs hw => ?_)
      refine lv_if_eq (tgt := 43) hx hb dX9_countOf_25 (by decide) (fun c4 => ?_) (fun c4 => ?_)
      · replace hM := i_pos hM c4
        refine lv_iconst (v := 0) hx hb dX9_countOf_43 (by decide) ?_
        refine lv_iadd hx hb dX9_countOf_44 ?_
        refine lv_istore_n (lv' := [(3, .int (x3 + 0)), (0, .ref (h 0)), (1, .int x1), (2, .int x2), (4, .int x4)]) hx hb dX9_countOf_45 rfl hl (by decide) rfl (fun ls hl => ?_)
        refine lv_iinc (v := (x4 + 1)) (lv' := [(4, .int (x4 + 1)), (3, .int (x3 + 0)), (0, .ref (h 0)), (1, .int x1), (2, .int x2)]) hx hb dX9_countOf_46 hl (k := 4) rfl rfl (by decide) rfl (fun ls hl => ?_)
        refine lv_goto (tgt := 5) hx hb dX9_countOf_49 (by decide) ?_
        exact ih _ _ _ _ _ _ _ hM _ _ hw _ (lv_sub hl [2, 3, 4, 1, 0] rfl)
      · replace hM := i_neg hM c4
        refine lv_aload_n hx hb dX9_countOf_28 rfl (lv_at hl 0 rfl) ?_
        refine lv_iload hx hb dX9_countOf_29 (lv_at hl 4 rfl) ?_
        refine lv_iconst (v := 4) hx hb dX9_countOf_31 (by decide) ?_
        obtain ⟨p5, h6, hM⟩ := b_some hM
        refine q_cv (As := [.int x4, .int 4]) (rest := [.int x3]) E hw hl (c_X9_ticket l D cA tS A h F x4 4 σ wd p5 h6) 2 (bwV bw_c tb_1241 tb_1243 tb_51 tb_111 tb_1244) rfl (by decide +kernel) ⟨Nat.le_of_ble_eq_true rfl, Nat.le_of_ble_eq_true rfl⟩ 0 9 (T := TX9) (N := 17) rfl rfl rfl rfl (Nat.le_of_ble_eq_true rfl) ⟨Nat.zero_le _, Nat.zero_le _⟩ dX9_countOf_32 (fun H locs hw => ?_)
        refine lv_iload_n hx hb dX9_countOf_35 rfl (lv_at hl 1 rfl) ?_
        refine lv_icmp_ne (tgt := 43) hx hb dX9_countOf_36 (by decide) (fun c7 => ?_) (fun c7 => ?_)
        · replace hM := i_neg hM c7
          refine lv_iconst (v := 0) hx hb dX9_countOf_43 (by decide) ?_
          refine lv_iadd hx hb dX9_countOf_44 ?_
          refine lv_istore_n (lv' := [(3, .int (x3 + 0)), (0, .ref (h 0)), (1, .int x1), (2, .int x2), (4, .int x4)]) hx hb dX9_countOf_45 rfl hl (by decide) rfl (fun ls hl => ?_)
          refine lv_iinc (v := (x4 + 1)) (lv' := [(4, .int (x4 + 1)), (3, .int (x3 + 0)), (0, .ref (h 0)), (1, .int x1), (2, .int x2)]) hx hb dX9_countOf_46 hl (k := 4) rfl rfl (by decide) rfl (fun ls hl => ?_)
          refine lv_goto (tgt := 5) hx hb dX9_countOf_49 (by decide) ?_
          exact ih _ _ _ _ _ _ _ hM _ _ hw _ (lv_sub hl [2, 3, 4, 1, 0] rfl)
        · replace hM := i_pos hM c7
          refine lv_iconst (v := 1) hx hb dX9_countOf_39 (by decide) ?_
          refine lv_goto (tgt := 44) hx hb dX9_countOf_40 (by decide) ?_
          refine lv_iadd hx hb dX9_countOf_44 ?_
          refine lv_istore_n (lv' := [(3, .int (x3 + 1)), (0, .ref (h 0)), (1, .int x1), (2, .int x2), (4, .int x4)]) hx hb dX9_countOf_45 rfl hl (by decide) rfl (fun ls hl => ?_)
          refine lv_iinc (v := (x4 + 1)) (lv' := [(4, .int (x4 + 1)), (3, .int (x3 + 1)), (0, .ref (h 0)), (1, .int x1), (2, .int x2)]) hx hb dX9_countOf_46 hl (k := 4) rfl rfl (by decide) rfl (fun ls hl => ?_)
          refine lv_goto (tgt := 5) hx hb dX9_countOf_49 (by decide) ?_
          exact ih _ _ _ _ _ _ _ hM _ _ hw _ (lv_sub hl [2, 3, 4, 1, 0] rfl)
set_option maxRecDepth 100000 in
set_option maxHeartbeats 4000000 in
theorem c_X9_countOf (l : Launch) (D : va_G) (cA : Nat → ClassId) (tS : Nat → Nat) (A : Nat → Prop) (h : Nat → Nat) (F : va_W) (N : Nat) (x1 : Int32) (x2 : Int32) (σ : Sg) (wd : Int64) (r0 : Int32) (hM : f_X9_countOf N x1 x2 σ wd = some r0) : Ct l yX9_countOf (Cond.code yX9_countOf cX9_countOf 5 (some .int) :: bw) 2 44 D cA tS A [.ref (h 0), .int x1, .int x2] (wM cA h σ wd ++ F) (some (.int r0)) (wM cA h σ wd ++ F) := by
  refine ct_of (by decide +kernel) (Nat.le_of_ble_eq_true rfl) ?_
  intro p e s m below meth c E hw ls hl
  replace E : Ev p cX9_countOf 5 (some .int) RX9 (Cond.code yX9_countOf cX9_countOf 5 (some .int) :: bw) D cA tS A s m _ meth c := E
  replace hl : lv_has ls 5 [(0, .ref (h 0)), (1, .int x1), (2, .int x2)] := hl
  have hx := E.1.1
  have hb := E.1.2.1
  unfold f_X9_countOf at hM
  refine lv_iconst (v := 0) hx hb dX9_countOf_0 (by decide) ?_
  refine lv_istore_n (lv' := [(3, .int 0), (0, .ref (h 0)), (1, .int x1), (2, .int x2)]) hx hb dX9_countOf_1 rfl hl (by decide) rfl (fun ls hl => ?_)
  refine lv_iconst (v := 0) hx hb dX9_countOf_2 (by decide) ?_
  refine lv_istore (lv' := [(4, .int 0), (3, .int 0), (0, .ref (h 0)), (1, .int x1), (2, .int x2)]) hx hb dX9_countOf_3 hl (by decide) rfl (fun ls hl => ?_)
  exact s_X9_countOf_5 l D cA tS A h F N E N _ _ _ _ _ _ _ hM _ _ hw _ (lv_sub hl [2, 3, 4, 1, 0] rfl)
set_option maxRecDepth 100000 in
set_option maxHeartbeats 4000000 in
theorem c_X9_busy (l : Launch) (D : va_G) (cA : Nat → ClassId) (tS : Nat → Nat) (A : Nat → Prop) (h : Nat → Nat) (F : va_W) (N : Nat) (x1 : Int32) (σ : Sg) (wd : Int64) (r0 : Int32) (hM : f_X9_busy N x1 σ wd = some r0) : Ct l yX9_busy (Cond.code yX9_busy cX9_busy 2 (some .int) :: bw) 3 68 D cA tS A [.ref (h 0), .int x1] (wM cA h σ wd ++ F) (some (.int r0)) (wM cA h σ wd ++ F) := by
  refine ct_of (by decide +kernel) (Nat.le_of_ble_eq_true rfl) ?_
  intro p e s m below meth c E hw ls hl
  replace E : Ev p cX9_busy 2 (some .int) RX9 (Cond.code yX9_busy cX9_busy 2 (some .int) :: bw) D cA tS A s m _ meth c := E
  replace hl : lv_has ls 2 [(0, .ref (h 0)), (1, .int x1)] := hl
  have hx := E.1.1
  have hb := E.1.2.1
  unfold f_X9_busy at hM
  refine lv_aload_n hx hb dX9_busy_0 rfl (lv_at hl 0 rfl) ?_
  refine lv_iload_n hx hb dX9_busy_1 rfl (lv_at hl 1 rfl) ?_
  refine lv_iconst (v := 1) hx hb dX9_busy_2 (by decide) ?_
  obtain ⟨p1, h2, hM⟩ := b_some hM
  refine q_cv (As := [.int x1, .int 1]) (rest := []) E hw hl (c_X9_countOf l D cA tS A h F N x1 1 σ wd p1 h2) 2 (bwV bw_c tb_1269 tb_1271 tb_58 tb_111 tb_1272) rfl (by decide +kernel) ⟨Nat.le_of_ble_eq_true rfl, Nat.le_of_ble_eq_true rfl⟩ 0 9 (T := TX9) (N := 17) rfl rfl rfl rfl (Nat.le_of_ble_eq_true rfl) ⟨Nat.zero_le _, Nat.zero_le _⟩ dX9_busy_3 (fun H locs hw => ?_)
  cases hM
  exact q_reti E hw dX9_busy_6
set_option maxRecDepth 100000 in
set_option maxHeartbeats 4000000 in
theorem s_X9_makeAgents_31 (l : Launch) (D : va_G) (cA : Nat → ClassId) (tS : Nat → Nat) (A : Nat → Prop) (h : Nat → Nat) (F : va_W) (N : Nat) {p : Program} {e : Env} {s : State} {m : MethodId} {args : Array Value} {below : List Frame} {meth : Method} {c : Code} (E : Ev p cX9_makeAgents 5 (some .int) RX9 (Cond.code yX9_makeAgents cX9_makeAgents 5 (some .int) :: bw) D cA tS A s m args meth c) : ∀ (n : Nat) (x1 : Int32) (x2 : Int32) (x3 : Int32) (x4 : Int32) (σ : Sg) (wd : Int64) (r0 : Int32) (s0 : Sg) (hM : f_X9_makeAgents_31 N n x1 x2 x3 x4 σ wd = some (r0, s0)) (H : Heap) (locs : List Loc) (hw : Wd D A (wM cA h σ wd ++ F) s.heap H locs) (ls : Array Slot) (hl : lv_has ls 5 [(0, .ref (h 0)), (1, .int x1), (2, .int x2), (3, .int x3), (4, .int x4)]), W p l e ({ frames := 4, cells := 0, slots := 0, locals := 89 } : Room) s m args below meth c H locs 0 0 (MQ below (QW D A (some (.int r0)) (wM cA h s0 wd ++ F)) args s 0 0 A) (F0 m 31 ls []) := by
  have hx := E.1.1
  have hb := E.1.2.1
  intro n
  induction n with
  | zero =>
    intro x1 x2 x3 x4 σ wd r0 s0 hM
    cases hM
  | succ n ih =>
    intro x1 x2 x3 x4 σ wd r0 s0 hM H locs hw ls hl
    rw [f_X9_makeAgents_31] at hM
    refine lv_iload hx hb dX9_makeAgents_31 (lv_at hl 4 rfl) ?_
    refine lv_if_lt (tgt := 81) hx hb dX9_makeAgents_33 (by decide) (fun c1 => ?_) (fun c1 => ?_)
    · replace hM := i_pos hM c1
      refine lv_iload_n hx hb dX9_makeAgents_81 rfl (lv_at hl 3 rfl) ?_
      cases hM
      exact q_reti E hw dX9_makeAgents_82
    · replace hM := i_neg hM c1
      refine lv_aload_n hx hb dX9_makeAgents_36 rfl (lv_at hl 0 rfl) ?_
      refine lv_iload_n hx hb dX9_makeAgents_37 rfl (lv_at hl 1 rfl) ?_
      obtain ⟨p2, h3, hM⟩ := b_some hM
      refine q_cv (As := [.int x1]) (rest := []) E hw hl (c_X9_busy l D cA tS A h F N x1 σ wd p2 h3) 1 (bwV bw_c tb_1265 tb_1267 tb_57 tb_111 tb_1268) rfl (by decide +kernel) ⟨Nat.le_of_ble_eq_true rfl, Nat.le_of_ble_eq_true rfl⟩ 0 9 (T := TX9) (N := 17) rfl rfl rfl rfl (Nat.le_of_ble_eq_true rfl) ⟨Nat.zero_le _, Nat.zero_le _⟩ dX9_makeAgents_38 (fun H locs hw => ?_)
      refine lv_iload_n hx hb dX9_makeAgents_41 rfl (lv_at hl 2 rfl) ?_
      refine lv_icmp_le (tgt := 81) hx hb dX9_makeAgents_42 (by decide) (fun c4 => ?_) (fun c4 => ?_)
      · replace hM := i_pos hM c4
        refine lv_iload_n hx hb dX9_makeAgents_81 rfl (lv_at hl 3 rfl) ?_
        cases hM
        exact q_reti E hw dX9_makeAgents_82
      · replace hM := i_neg hM c4
        refine lv_aload_n hx hb dX9_makeAgents_45 rfl (lv_at hl 0 rfl) ?_
        refine lv_iload hx hb dX9_makeAgents_46 (lv_at hl 4 rfl) ?_
        refine lv_iconst (v := 1) hx hb dX9_makeAgents_48 (by decide) ?_
        obtain ⟨p5, h6, hM⟩ := b_some hM
        refine q_cv (As := [.int x4, .int 1]) (rest := []) E hw hl (c_X9_is l D cA tS A h F x4 1 σ wd p5 h6) 2 (bwV bw_c tb_1249 tb_1251 tb_53 tb_111 tb_1252) rfl (by decide +kernel) ⟨Nat.le_of_ble_eq_true rfl, Nat.le_of_ble_eq_true rfl⟩ 0 9 (T := TX9) (N := 17) rfl rfl rfl rfl (Nat.le_of_ble_eq_true rfl) ⟨Nat.zero_le _, Nat.zero_le _⟩ dX9_makeAgents_49 (fun H locs hw => ?_)
        refine lv_if_eq (tgt := 75) hx hb dX9_makeAgents_52 (by decide) (fun c7 => ?_) (fun c7 => ?_)
        · replace hM := i_pos hM c7
          refine lv_iinc (v := (x4 + (-1))) (lv' := [(4, .int (x4 + (-1))), (0, .ref (h 0)), (1, .int x1), (2, .int x2), (3, .int x3)]) hx hb dX9_makeAgents_75 hl (k := 4) rfl rfl (by decide) rfl (fun ls hl => ?_)
          refine lv_goto (tgt := 31) hx hb dX9_makeAgents_78 (by decide) ?_
          exact ih _ _ _ _ _ _ _ _ hM _ _ hw _ (lv_sub hl [1, 2, 3, 4, 0] rfl)
        · replace hM := i_neg hM c7
          refine lv_aload_n hx hb dX9_makeAgents_55 rfl (lv_at hl 0 rfl) ?_
          refine lv_iload hx hb dX9_makeAgents_56 (lv_at hl 4 rfl) ?_
          refine lv_iconst (v := 4) hx hb dX9_makeAgents_58 (by decide) ?_
          obtain ⟨p8, h9, hM⟩ := b_some hM
          refine q_cv (As := [.int x4, .int 4]) (rest := []) E hw hl (c_X9_ticket l D cA tS A h F x4 4 σ wd p8 h9) 2 (bwV bw_c tb_1241 tb_1243 tb_51 tb_111 tb_1244) rfl (by decide +kernel) ⟨Nat.le_of_ble_eq_true rfl, Nat.le_of_ble_eq_true rfl⟩ 0 9 (T := TX9) (N := 17) rfl rfl rfl rfl (Nat.le_of_ble_eq_true rfl) ⟨Nat.zero_le _, Nat.zero_le _⟩ dX9_makeAgents_59 (fun H locs hw => ?_)
          refine lv_iload_n hx hb dX9_makeAgents_62 rfl (lv_at hl 1 rfl) ?_
          refine lv_icmp_ne (tgt := 75) hx hb dX9_makeAgents_63 (by decide) (fun c10 => ?_) (fun c10 => ?_)
          · replace hM := i_neg hM c10
            refine lv_iinc (v := (x4 + (-1))) (lv' := [(4, .int (x4 + (-1))), (0, .ref (h 0)), (1, .int x1), (2, .int x2), (3, .int x3)]) hx hb dX9_makeAgents_75 hl (k := 4) rfl rfl (by decide) rfl (fun ls hl => ?_)
            refine lv_goto (tgt := 31) hx hb dX9_makeAgents_78 (by decide) ?_
            exact ih _ _ _ _ _ _ _ _ hM _ _ hw _ (lv_sub hl [1, 2, 3, 4, 0] rfl)
          · replace hM := i_pos hM c10
            refine lv_aload_n hx hb dX9_makeAgents_66 rfl (lv_at hl 0 rfl) ?_
            refine lv_iload hx hb dX9_makeAgents_67 (lv_at hl 4 rfl) ?_
            refine lv_bipush (v := 9) hx hb dX9_makeAgents_69 (by decide) ?_
            refine lv_iconst (v := 0) hx hb dX9_makeAgents_71 (by decide) ?_
            obtain ⟨p11, h12, hM⟩ := b_some hM
            refine q_cvv (As := [.int x4, .int 9, .int 0]) (rest := []) E hw hl (c_X9_setTicket l D cA tS A h F x4 9 0 σ wd p11 h12) 3 (bwV bw_c tb_1273 tb_1275 tb_59 tb_111 tb_1276) rfl (by decide +kernel) ⟨Nat.le_of_ble_eq_true rfl, Nat.le_of_ble_eq_true rfl⟩ 0 9 (T := TX9) (N := 17) rfl rfl rfl rfl (Nat.le_of_ble_eq_true rfl) ⟨Nat.zero_le _, Nat.zero_le _⟩ dX9_makeAgents_72 (fun H locs hw => ?_)
            refine lv_iinc (v := (x4 + (-1))) (lv' := [(4, .int (x4 + (-1))), (0, .ref (h 0)), (1, .int x1), (2, .int x2), (3, .int x3)]) hx hb dX9_makeAgents_75 hl (k := 4) rfl rfl (by decide) rfl (fun ls hl => ?_)
            refine lv_goto (tgt := 31) hx hb dX9_makeAgents_78 (by decide) ?_
            exact ih _ _ _ _ _ _ _ _ hM _ _ hw _ (lv_sub hl [1, 2, 3, 4, 0] rfl)
set_option maxRecDepth 100000 in
set_option maxHeartbeats 4000000 in
theorem c_X9_makeAgents (l : Launch) (D : va_G) (cA : Nat → ClassId) (tS : Nat → Nat) (A : Nat → Prop) (h : Nat → Nat) (F : va_W) (N : Nat) (x1 : Int32) (x2 : Int32) (σ : Sg) (wd : Int64) (r0 : Int32) (s0 : Sg) (hM : f_X9_makeAgents N x1 x2 σ wd = some (r0, s0)) : Ct l yX9_makeAgents (Cond.code yX9_makeAgents cX9_makeAgents 5 (some .int) :: bw) 4 89 D cA tS A [.ref (h 0), .int x1, .int x2] (wM cA h σ wd ++ F) (some (.int r0)) (wM cA h s0 wd ++ F) := by
  refine ct_of (by decide +kernel) (Nat.le_of_ble_eq_true rfl) ?_
  intro p e s m below meth c E hw ls hl
  replace E : Ev p cX9_makeAgents 5 (some .int) RX9 (Cond.code yX9_makeAgents cX9_makeAgents 5 (some .int) :: bw) D cA tS A s m _ meth c := E
  replace hl : lv_has ls 5 [(0, .ref (h 0)), (1, .int x1), (2, .int x2)] := hl
  have hx := E.1.1
  have hb := E.1.2.1
  unfold f_X9_makeAgents at hM
  refine lv_aload_n hx hb dX9_makeAgents_0 rfl (lv_at hl 0 rfl) ?_
  refine q_get (C := RX9) (T := TX9) (N := 17) (ci := 9) E (fun w h => List.mem_cons_of_mem _ (inX9 w h)) hw 0 rfl rfl 0 (by decide) (List.mem_cons_of_mem _ tb_1145) (v := .ref (h 1)) rfl dX9_makeAgents_1 ?_
  refine lv_bipush (v := 15) hx hb dX9_makeAgents_4 (by decide) ?_
  refine lv_iload_n hx hb dX9_makeAgents_6 rfl (lv_at hl 1 rfl) ?_
  refine lv_iadd hx hb dX9_makeAgents_7 ?_
  obtain ⟨g1, hM⟩ := g_some hM
  refine q_ald E hw 1 (n := 4619) rfl g1 (x := (σ 1 (ix (15 + x1)))) rfl dX9_makeAgents_8 ?_
  refine lv_istore_n (lv' := [(3, .int (σ 1 (ix (15 + x1)))), (0, .ref (h 0)), (1, .int x1), (2, .int x2)]) hx hb dX9_makeAgents_9 rfl hl (by decide) rfl (fun ls hl => ?_)
  refine lv_aload_n hx hb dX9_makeAgents_10 rfl (lv_at hl 1 rfl) ?_
  refine q_get (C := RX9) (T := TX9) (N := 17) (ci := 9) E (fun w h => List.mem_cons_of_mem _ (inX9 w h)) hw 0 rfl rfl 0 (by decide) (List.mem_cons_of_mem _ tb_1145) (v := .ref (h 1)) rfl dX9_makeAgents_11 ?_
  refine lv_bipush (v := 15) hx hb dX9_makeAgents_14 (by decide) ?_
  refine lv_iload_n hx hb dX9_makeAgents_16 rfl (lv_at hl 2 rfl) ?_
  refine lv_iadd hx hb dX9_makeAgents_17 ?_
  refine lv_iload_n hx hb dX9_makeAgents_18 rfl (lv_at hl 3 rfl) ?_
  refine q_ast E hw 1 (n := 4619) rfl g1 (wM cA h (up σ 1 (ix (15 + x1)) x2) wd ++ F) st_M_1 dX9_makeAgents_19 (fun H locs hw => ?_)
  refine lv_aload_n hx hb dX9_makeAgents_20 rfl (lv_at hl 1 rfl) ?_
  refine q_get (C := RX9) (T := TX9) (N := 17) (ci := 9) E (fun w h => List.mem_cons_of_mem _ (inX9 w h)) hw 0 rfl rfl 0 (by decide) (List.mem_cons_of_mem _ tb_1145) (v := .ref (h 1)) rfl dX9_makeAgents_21 ?_
  refine lv_bipush (v := 56) hx hb dX9_makeAgents_24 (by decide) ?_
  refine q_ald E hw 1 (n := 4619) rfl (by decide +kernel) (x := ((up σ 1 (ix (15 + x1)) x2) 1 (ix 56))) rfl dX9_makeAgents_26 ?_
  refine lv_iconst (v := 1) hx hb dX9_makeAgents_27 (by decide) ?_
  refine lv_isub hx hb dX9_makeAgents_28 ?_
  refine lv_istore (lv' := [(4, .int (((up σ 1 (ix (15 + x1)) x2) 1 (ix 56)) - 1)), (3, .int (σ 1 (ix (15 + x1)))), (0, .ref (h 0)), (1, .int x1), (2, .int x2)]) hx hb dX9_makeAgents_29 hl (by decide) rfl (fun ls hl => ?_)
  exact s_X9_makeAgents_31 l D cA tS A h F N E N _ _ _ _ _ _ _ _ hM _ _ hw _ (lv_sub hl [2, 3, 4, 1, 0] rfl)
set_option maxRecDepth 100000 in
set_option maxHeartbeats 4000000 in
theorem s_X9_makeTicket_12 (l : Launch) (D : va_G) (cA : Nat → ClassId) (tS : Nat → Nat) (A : Nat → Prop) (h : Nat → Nat) (F : va_W) (N : Nat) {p : Program} {e : Env} {s : State} {m : MethodId} {args : Array Value} {below : List Frame} {meth : Method} {c : Code} (E : Ev p cX9_makeTicket 7 (some .int) RX9 (Cond.code yX9_makeTicket cX9_makeTicket 7 (some .int) :: bw) D cA tS A s m args meth c) : ∀ (n : Nat) (x1 : Int32) (x2 : Int32) (x3 : Int32) (x4 : Int32) (x5 : Int32) (x6 : Int32) (σ : Sg) (wd : Int64) (r0 : Int32) (s0 : Sg) (hM : f_X9_makeTicket_12 N n x1 x2 x3 x4 x5 x6 σ wd = some (r0, s0)) (H : Heap) (locs : List Loc) (hw : Wd D A (wM cA h σ wd ++ F) s.heap H locs) (ls : Array Slot) (hl : lv_has ls 7 [(0, .ref (h 0)), (1, .int x1), (2, .int x2), (3, .int x3), (4, .int x4), (5, .int x5), (6, .int x6)]), W p l e ({ frames := 1, cells := 0, slots := 0, locals := 25 } : Room) s m args below meth c H locs 0 0 (MQ below (QW D A (some (.int r0)) (wM cA h s0 wd ++ F)) args s 0 0 A) (F0 m 12 ls []) := by
  have hx := E.1.1
  have hb := E.1.2.1
  intro n
  induction n with
  | zero =>
    intro x1 x2 x3 x4 x5 x6 σ wd r0 s0 hM
    cases hM
  | succ n ih =>
    intro x1 x2 x3 x4 x5 x6 σ wd r0 s0 hM H locs hw ls hl
    rw [f_X9_makeTicket_12] at hM
    refine lv_iload hx hb dX9_makeTicket_12 (lv_at hl 6 rfl) ?_
    refine lv_bipush (v := 16) hx hb dX9_makeTicket_14 (by decide) ?_
    refine lv_icmp_ge (tgt := 34) hx hb dX9_makeTicket_16 (by decide) (fun c1 => ?_) (fun c1 => ?_)
    · replace hM := i_pos hM c1
      refine lv_aload_n hx hb dX9_makeTicket_34 rfl (lv_at hl 0 rfl) ?_
      refine lv_iload hx hb dX9_makeTicket_35 (lv_at hl 5 rfl) ?_
      refine lv_iconst (v := 0) hx hb dX9_makeTicket_37 (by decide) ?_
      refine lv_iload_n hx hb dX9_makeTicket_38 rfl (lv_at hl 1 rfl) ?_
      obtain ⟨p2, h3, hM⟩ := b_some hM
      refine q_cvv (As := [.int x5, .int 0, .int x1]) (rest := []) E hw hl (c_X9_setTicket l D cA tS A h F x5 0 x1 σ wd p2 h3) 3 (bwV bw_c tb_1273 tb_1275 tb_59 tb_111 tb_1276) rfl (by decide +kernel) ⟨Nat.le_of_ble_eq_true rfl, Nat.le_of_ble_eq_true rfl⟩ 0 9 (T := TX9) (N := 17) rfl rfl rfl rfl (Nat.le_of_ble_eq_true rfl) ⟨Nat.zero_le _, Nat.zero_le _⟩ dX9_makeTicket_39 (fun H locs hw => ?_)
      refine lv_aload_n hx hb dX9_makeTicket_42 rfl (lv_at hl 0 rfl) ?_
      refine lv_iload hx hb dX9_makeTicket_43 (lv_at hl 5 rfl) ?_
      refine lv_iconst (v := 1) hx hb dX9_makeTicket_45 (by decide) ?_
      refine lv_iload_n hx hb dX9_makeTicket_46 rfl (lv_at hl 2 rfl) ?_
      obtain ⟨p4, h5, hM⟩ := b_some hM
      refine q_cvv (As := [.int x5, .int 1, .int x2]) (rest := []) E hw hl (c_X9_setTicket l D cA tS A h F x5 1 x2 p2 wd p4 h5) 3 (bwV bw_c tb_1273 tb_1275 tb_59 tb_111 tb_1276) rfl (by decide +kernel) ⟨Nat.le_of_ble_eq_true rfl, Nat.le_of_ble_eq_true rfl⟩ 0 9 (T := TX9) (N := 17) rfl rfl rfl rfl (Nat.le_of_ble_eq_true rfl) ⟨Nat.zero_le _, Nat.zero_le _⟩ dX9_makeTicket_47 (fun H locs hw => ?_)
      refine lv_aload_n hx hb dX9_makeTicket_50 rfl (lv_at hl 0 rfl) ?_
      refine lv_iload hx hb dX9_makeTicket_51 (lv_at hl 5 rfl) ?_
      refine lv_iconst (v := 2) hx hb dX9_makeTicket_53 (by decide) ?_
      refine lv_iload_n hx hb dX9_makeTicket_54 rfl (lv_at hl 3 rfl) ?_
      obtain ⟨p6, h7, hM⟩ := b_some hM
      refine q_cvv (As := [.int x5, .int 2, .int x3]) (rest := []) E hw hl (c_X9_setTicket l D cA tS A h F x5 2 x3 p4 wd p6 h7) 3 (bwV bw_c tb_1273 tb_1275 tb_59 tb_111 tb_1276) rfl (by decide +kernel) ⟨Nat.le_of_ble_eq_true rfl, Nat.le_of_ble_eq_true rfl⟩ 0 9 (T := TX9) (N := 17) rfl rfl rfl rfl (Nat.le_of_ble_eq_true rfl) ⟨Nat.zero_le _, Nat.zero_le _⟩ dX9_makeTicket_55 (fun H locs hw => ?_)
      refine lv_aload_n hx hb dX9_makeTicket_58 rfl (lv_at hl 0 rfl) ?_
      refine lv_iload hx hb dX9_makeTicket_59 (lv_at hl 5 rfl) ?_
      refine lv_iconst (v := 3) hx hb dX9_makeTicket_61 (by decide) ?_
      refine lv_iload hx hb dX9_makeTicket_62 (lv_at hl 4 rfl) ?_
      obtain ⟨p8, h9, hM⟩ := b_some hM
      refine q_cvv (As := [.int x5, .int 3, .int x4]) (rest := []) E hw hl (c_X9_setTicket l D cA tS A h F x5 3 x4 p6 wd p8 h9) 3 (bwV bw_c tb_1273 tb_1275 tb_59 tb_111 tb_1276) rfl (by decide +kernel) ⟨Nat.le_of_ble_eq_true rfl, Nat.le_of_ble_eq_true rfl⟩ 0 9 (T := TX9) (N := 17) rfl rfl rfl rfl (Nat.le_of_ble_eq_true rfl) ⟨Nat.zero_le _, Nat.zero_le _⟩ dX9_makeTicket_64 (fun H locs hw => ?_)
      refine lv_aload_n hx hb dX9_makeTicket_67 rfl (lv_at hl 0 rfl) ?_
      refine lv_iload hx hb dX9_makeTicket_68 (lv_at hl 5 rfl) ?_
      refine lv_bipush (v := 10) hx hb dX9_makeTicket_70 (by decide) ?_
      refine lv_iconst (v := (-1)) hx hb dX9_makeTicket_72 (by decide) ?_
      obtain ⟨p10, h11, hM⟩ := b_some hM
      refine q_cvv (As := [.int x5, .int 10, .int (-1)]) (rest := []) E hw hl (c_X9_setTicket l D cA tS A h F x5 10 (-1) p8 wd p10 h11) 3 (bwV bw_c tb_1273 tb_1275 tb_59 tb_111 tb_1276) rfl (by decide +kernel) ⟨Nat.le_of_ble_eq_true rfl, Nat.le_of_ble_eq_true rfl⟩ 0 9 (T := TX9) (N := 17) rfl rfl rfl rfl (Nat.le_of_ble_eq_true rfl) ⟨Nat.zero_le _, Nat.zero_le _⟩ dX9_makeTicket_73 (fun H locs hw => ?_)
      refine lv_aload_n hx hb dX9_makeTicket_76 rfl (lv_at hl 0 rfl) ?_
      refine lv_iload hx hb dX9_makeTicket_77 (lv_at hl 5 rfl) ?_
      refine lv_bipush (v := 11) hx hb dX9_makeTicket_79 (by decide) ?_
      refine lv_aload_n hx hb dX9_makeTicket_81 rfl (lv_at hl 0 rfl) ?_
      refine q_get (C := RX9) (T := TX9) (N := 17) (ci := 9) E (fun w h => List.mem_cons_of_mem _ (inX9 w h)) hw 0 rfl rfl 0 (by decide) (List.mem_cons_of_mem _ tb_1145) (v := .ref (h 1)) rfl dX9_makeTicket_82 ?_
      refine lv_iconst (v := 0) hx hb dX9_makeTicket_85 (by decide) ?_
      refine q_ald E hw 1 (n := 4619) rfl (by decide +kernel) (x := (p10 1 (ix 0))) rfl dX9_makeTicket_86 ?_
      obtain ⟨p12, h13, hM⟩ := b_some hM
      refine q_cvv (As := [.int x5, .int 11, .int (p10 1 (ix 0))]) (rest := []) E hw hl (c_X9_setTicket l D cA tS A h F x5 11 (p10 1 (ix 0)) p10 wd p12 h13) 3 (bwV bw_c tb_1273 tb_1275 tb_59 tb_111 tb_1276) rfl (by decide +kernel) ⟨Nat.le_of_ble_eq_true rfl, Nat.le_of_ble_eq_true rfl⟩ 0 9 (T := TX9) (N := 17) rfl rfl rfl rfl (Nat.le_of_ble_eq_true rfl) ⟨Nat.zero_le _, Nat.zero_le _⟩ dX9_makeTicket_87 (fun H locs hw => ?_)
      refine lv_aload_n hx hb dX9_makeTicket_90 rfl (lv_at hl 0 rfl) ?_
      refine lv_iload hx hb dX9_makeTicket_91 (lv_at hl 5 rfl) ?_
      refine lv_bipush (v := 12) hx hb dX9_makeTicket_93 (by decide) ?_
      refine lv_iconst (v := (-1)) hx hb dX9_makeTicket_95 (by decide) ?_
      obtain ⟨p14, h15, hM⟩ := b_some hM
      refine q_cvv (As := [.int x5, .int 12, .int (-1)]) (rest := []) E hw hl (c_X9_setTicket l D cA tS A h F x5 12 (-1) p12 wd p14 h15) 3 (bwV bw_c tb_1273 tb_1275 tb_59 tb_111 tb_1276) rfl (by decide +kernel) ⟨Nat.le_of_ble_eq_true rfl, Nat.le_of_ble_eq_true rfl⟩ 0 9 (T := TX9) (N := 17) rfl rfl rfl rfl (Nat.le_of_ble_eq_true rfl) ⟨Nat.zero_le _, Nat.zero_le _⟩ dX9_makeTicket_96 (fun H locs hw => ?_)
      refine lv_aload_n hx hb dX9_makeTicket_99 rfl (lv_at hl 0 rfl) ?_
      refine lv_iload hx hb dX9_makeTicket_100 (lv_at hl 5 rfl) ?_
      refine lv_bipush (v := 13) hx hb dX9_makeTicket_102 (by decide) ?_
      refine lv_iconst (v := (-1)) hx hb dX9_makeTicket_104 (by decide) ?_
      obtain ⟨p16, h17, hM⟩ := b_some hM
      refine q_cvv (As := [.int x5, .int 13, .int (-1)]) (rest := []) E hw hl (c_X9_setTicket l D cA tS A h F x5 13 (-1) p14 wd p16 h17) 3 (bwV bw_c tb_1273 tb_1275 tb_59 tb_111 tb_1276) rfl (by decide +kernel) ⟨Nat.le_of_ble_eq_true rfl, Nat.le_of_ble_eq_true rfl⟩ 0 9 (T := TX9) (N := 17) rfl rfl rfl rfl (Nat.le_of_ble_eq_true rfl) ⟨Nat.zero_le _, Nat.zero_le _⟩ dX9_makeTicket_105 (fun H locs hw => ?_)
      refine lv_aload_n hx hb dX9_makeTicket_108 rfl (lv_at hl 0 rfl) ?_
      refine q_get (C := RX9) (T := TX9) (N := 17) (ci := 9) E (fun w h => List.mem_cons_of_mem _ (inX9 w h)) hw 0 rfl rfl 0 (by decide) (List.mem_cons_of_mem _ tb_1145) (v := .ref (h 1)) rfl dX9_makeTicket_109 ?_
      refine lv_bipush (v := 56) hx hb dX9_makeTicket_112 (by decide) ?_
      refine lv_dup2_11 hx hb dX9_makeTicket_114 rfl rfl ?_
      refine q_ald E hw 1 (n := 4619) rfl (by decide +kernel) (x := (p16 1 (ix 56))) rfl dX9_makeTicket_115 ?_
      refine lv_iconst (v := 1) hx hb dX9_makeTicket_116 (by decide) ?_
      refine lv_iadd hx hb dX9_makeTicket_117 ?_
      refine q_ast E hw 1 (n := 4619) rfl (by decide +kernel) (wM cA h (up p16 1 (ix 56) ((p16 1 (ix 56)) + 1)) wd ++ F) st_M_1 dX9_makeTicket_118 (fun H locs hw => ?_)
      refine lv_aload_n hx hb dX9_makeTicket_119 rfl (lv_at hl 0 rfl) ?_
      refine lv_aload_n hx hb dX9_makeTicket_120 rfl (lv_at hl 0 rfl) ?_
      refine q_get (C := RX9) (T := TX9) (N := 17) (ci := 9) E (fun w h => List.mem_cons_of_mem _ (inX9 w h)) hw 0 rfl rfl 0 (by decide) (List.mem_cons_of_mem _ tb_1145) (v := .ref (h 1)) rfl dX9_makeTicket_121 ?_
      refine lv_iconst (v := 0) hx hb dX9_makeTicket_124 (by decide) ?_
      refine q_ald E hw 1 (n := 4619) rfl (by decide +kernel) (x := ((up p16 1 (ix 56) ((p16 1 (ix 56)) + 1)) 1 (ix 0))) rfl dX9_makeTicket_125 ?_
      refine lv_iconst (v := 0) hx hb dX9_makeTicket_126 (by decide) ?_
      refine lv_iload hx hb dX9_makeTicket_127 (lv_at hl 5 rfl) ?_
      refine lv_iload_n hx hb dX9_makeTicket_129 rfl (lv_at hl 1 rfl) ?_
      obtain ⟨p18, h19, hM⟩ := b_some hM
      refine q_cvv (As := [.int ((up p16 1 (ix 56) ((p16 1 (ix 56)) + 1)) 1 (ix 0)), .int 0, .int x5, .int x1]) (rest := []) E hw hl (c_X9_log l D cA tS A h F ((up p16 1 (ix 56) ((p16 1 (ix 56)) + 1)) 1 (ix 0)) 0 x5 x1 (up p16 1 (ix 56) ((p16 1 (ix 56)) + 1)) wd p18 h19) 4 (bwV bw_c tb_1281 tb_1283 tb_61 tb_111 tb_1284) rfl (by decide +kernel) ⟨Nat.le_of_ble_eq_true rfl, Nat.le_of_ble_eq_true rfl⟩ 0 9 (T := TX9) (N := 17) rfl rfl rfl rfl (Nat.le_of_ble_eq_true rfl) ⟨Nat.zero_le _, Nat.zero_le _⟩ dX9_makeTicket_130 (fun H locs hw => ?_)
      refine lv_iload hx hb dX9_makeTicket_133 (lv_at hl 5 rfl) ?_
      cases hM
      exact q_reti E hw dX9_makeTicket_135
    · replace hM := i_neg hM c1
      refine lv_aload_n hx hb dX9_makeTicket_19 rfl (lv_at hl 0 rfl) ?_
      refine lv_iload hx hb dX9_makeTicket_20 (lv_at hl 5 rfl) ?_
      refine lv_iload hx hb dX9_makeTicket_22 (lv_at hl 6 rfl) ?_
      refine lv_iconst (v := 0) hx hb dX9_makeTicket_24 (by decide) ?_
      obtain ⟨p20, h21, hM⟩ := b_some hM
      refine q_cvv (As := [.int x5, .int x6, .int 0]) (rest := []) E hw hl (c_X9_setTicket l D cA tS A h F x5 x6 0 σ wd p20 h21) 3 (bwV bw_c tb_1273 tb_1275 tb_59 tb_111 tb_1276) rfl (by decide +kernel) ⟨Nat.le_of_ble_eq_true rfl, Nat.le_of_ble_eq_true rfl⟩ 0 9 (T := TX9) (N := 17) rfl rfl rfl rfl (Nat.le_of_ble_eq_true rfl) ⟨Nat.zero_le _, Nat.zero_le _⟩ dX9_makeTicket_25 (fun H locs hw => ?_)
      refine lv_iinc (v := (x6 + 1)) (lv' := [(6, .int (x6 + 1)), (0, .ref (h 0)), (1, .int x1), (2, .int x2), (3, .int x3), (4, .int x4), (5, .int x5)]) hx hb dX9_makeTicket_28 hl (k := 6) rfl rfl (by decide) rfl (fun ls hl => ?_)
      refine lv_goto (tgt := 12) hx hb dX9_makeTicket_31 (by decide) ?_
      exact ih _ _ _ _ _ _ _ _ _ _ hM _ _ hw _ (lv_sub hl [1, 2, 3, 4, 5, 6, 0] rfl)
set_option maxRecDepth 100000 in
set_option maxHeartbeats 4000000 in
theorem c_X9_makeTicket (l : Launch) (D : va_G) (cA : Nat → ClassId) (tS : Nat → Nat) (A : Nat → Prop) (h : Nat → Nat) (F : va_W) (N : Nat) (x1 : Int32) (x2 : Int32) (x3 : Int32) (x4 : Int32) (σ : Sg) (wd : Int64) (r0 : Int32) (s0 : Sg) (hM : f_X9_makeTicket N x1 x2 x3 x4 σ wd = some (r0, s0)) : Ct l yX9_makeTicket (Cond.code yX9_makeTicket cX9_makeTicket 7 (some .int) :: bw) 1 25 D cA tS A [.ref (h 0), .int x1, .int x2, .int x3, .int x4] (wM cA h σ wd ++ F) (some (.int r0)) (wM cA h s0 wd ++ F) := by
  refine ct_of (by decide +kernel) (Nat.le_of_ble_eq_true rfl) ?_
  intro p e s m below meth c E hw ls hl
  replace E : Ev p cX9_makeTicket 7 (some .int) RX9 (Cond.code yX9_makeTicket cX9_makeTicket 7 (some .int) :: bw) D cA tS A s m _ meth c := E
  replace hl : lv_has ls 7 [(0, .ref (h 0)), (1, .int x1), (2, .int x2), (3, .int x3), (4, .int x4)] := hl
  have hx := E.1.1
  have hb := E.1.2.1
  unfold f_X9_makeTicket at hM
  refine lv_aload_n hx hb dX9_makeTicket_0 rfl (lv_at hl 0 rfl) ?_
  refine q_get (C := RX9) (T := TX9) (N := 17) (ci := 9) E (fun w h => List.mem_cons_of_mem _ (inX9 w h)) hw 0 rfl rfl 0 (by decide) (List.mem_cons_of_mem _ tb_1145) (v := .ref (h 1)) rfl dX9_makeTicket_1 ?_
  refine lv_bipush (v := 56) hx hb dX9_makeTicket_4 (by decide) ?_
  refine q_ald E hw 1 (n := 4619) rfl (by decide +kernel) (x := (σ 1 (ix 56))) rfl dX9_makeTicket_6 ?_
  refine lv_istore (lv' := [(5, .int (σ 1 (ix 56))), (0, .ref (h 0)), (1, .int x1), (2, .int x2), (3, .int x3), (4, .int x4)]) hx hb dX9_makeTicket_7 hl (by decide) rfl (fun ls hl => ?_)
  refine lv_iconst (v := 0) hx hb dX9_makeTicket_9 (by decide) ?_
  refine lv_istore (lv' := [(6, .int 0), (5, .int (σ 1 (ix 56))), (0, .ref (h 0)), (1, .int x1), (2, .int x2), (3, .int x3), (4, .int x4)]) hx hb dX9_makeTicket_10 hl (by decide) rfl (fun ls hl => ?_)
  exact s_X9_makeTicket_12 l D cA tS A h F N E N _ _ _ _ _ _ _ _ _ _ hM _ _ hw _ (lv_sub hl [2, 3, 4, 5, 6, 1, 0] rfl)
set_option maxRecDepth 100000 in
set_option maxHeartbeats 4000000 in
theorem c_X9_letClimb (l : Launch) (D : va_G) (cA : Nat → ClassId) (tS : Nat → Nat) (A : Nat → Prop) (h : Nat → Nat) (F : va_W) (x1 : Int32) (x2 : Int32) (σ : Sg) (wd : Int64) (s0 : Sg) (hM : f_X9_letClimb x1 x2 σ wd = some s0) : Ct l yX9_letClimb (Cond.code yX9_letClimb cX9_letClimb 3 none :: bw) 1 25 D cA tS A [.ref (h 0), .int x1, .int x2] (wM cA h σ wd ++ F) none (wM cA h s0 wd ++ F) := by
  refine ct_of (by decide +kernel) (Nat.le_of_ble_eq_true rfl) ?_
  intro p e s m below meth c E hw ls hl
  replace E : Ev p cX9_letClimb 3 none RX9 (Cond.code yX9_letClimb cX9_letClimb 3 none :: bw) D cA tS A s m _ meth c := E
  replace hl : lv_has ls 3 [(0, .ref (h 0)), (1, .int x1), (2, .int x2)] := hl
  have hx := E.1.1
  have hb := E.1.2.1
  unfold f_X9_letClimb at hM
  refine lv_aload_n hx hb dX9_letClimb_0 rfl (lv_at hl 0 rfl) ?_
  refine lv_iload_n hx hb dX9_letClimb_1 rfl (lv_at hl 1 rfl) ?_
  refine lv_iconst (v := 4) hx hb dX9_letClimb_2 (by decide) ?_
  refine lv_aload_n hx hb dX9_letClimb_3 rfl (lv_at hl 0 rfl) ?_
  refine lv_iload_n hx hb dX9_letClimb_4 rfl (lv_at hl 1 rfl) ?_
  refine lv_iconst (v := 4) hx hb dX9_letClimb_5 (by decide) ?_
  obtain ⟨p1, h2, hM⟩ := b_some hM
  refine q_cv (As := [.int x1, .int 4]) (rest := [.int 4, .int x1, .ref (h 0)]) E hw hl (c_X9_ticket l D cA tS A h F x1 4 σ wd p1 h2) 2 (bwV bw_c tb_1241 tb_1243 tb_51 tb_111 tb_1244) rfl (by decide +kernel) ⟨Nat.le_of_ble_eq_true rfl, Nat.le_of_ble_eq_true rfl⟩ 0 9 (T := TX9) (N := 17) rfl rfl rfl rfl (Nat.le_of_ble_eq_true rfl) ⟨Nat.zero_le _, Nat.zero_le _⟩ dX9_letClimb_6 (fun H locs hw => ?_)
  refine lv_iconst (v := 1) hx hb dX9_letClimb_9 (by decide) ?_
  refine lv_iadd hx hb dX9_letClimb_10 ?_
  obtain ⟨p3, h4, hM⟩ := b_some hM
  refine q_cvv (As := [.int x1, .int 4, .int (p1 + 1)]) (rest := []) E hw hl (c_X9_setTicket l D cA tS A h F x1 4 (p1 + 1) σ wd p3 h4) 3 (bwV bw_c tb_1273 tb_1275 tb_59 tb_111 tb_1276) rfl (by decide +kernel) ⟨Nat.le_of_ble_eq_true rfl, Nat.le_of_ble_eq_true rfl⟩ 0 9 (T := TX9) (N := 17) rfl rfl rfl rfl (Nat.le_of_ble_eq_true rfl) ⟨Nat.zero_le _, Nat.zero_le _⟩ dX9_letClimb_11 (fun H locs hw => ?_)
  refine lv_aload_n hx hb dX9_letClimb_14 rfl (lv_at hl 0 rfl) ?_
  refine lv_iload_n hx hb dX9_letClimb_15 rfl (lv_at hl 1 rfl) ?_
  refine lv_bipush (v := 9) hx hb dX9_letClimb_16 (by decide) ?_
  refine lv_iconst (v := 0) hx hb dX9_letClimb_18 (by decide) ?_
  obtain ⟨p5, h6, hM⟩ := b_some hM
  refine q_cvv (As := [.int x1, .int 9, .int 0]) (rest := []) E hw hl (c_X9_setTicket l D cA tS A h F x1 9 0 p3 wd p5 h6) 3 (bwV bw_c tb_1273 tb_1275 tb_59 tb_111 tb_1276) rfl (by decide +kernel) ⟨Nat.le_of_ble_eq_true rfl, Nat.le_of_ble_eq_true rfl⟩ 0 9 (T := TX9) (N := 17) rfl rfl rfl rfl (Nat.le_of_ble_eq_true rfl) ⟨Nat.zero_le _, Nat.zero_le _⟩ dX9_letClimb_19 (fun H locs hw => ?_)
  refine lv_aload_n hx hb dX9_letClimb_22 rfl (lv_at hl 0 rfl) ?_
  refine lv_iload_n hx hb dX9_letClimb_23 rfl (lv_at hl 1 rfl) ?_
  refine lv_iconst (v := 5) hx hb dX9_letClimb_24 (by decide) ?_
  refine lv_iconst (v := 0) hx hb dX9_letClimb_25 (by decide) ?_
  obtain ⟨p7, h8, hM⟩ := b_some hM
  refine q_cvv (As := [.int x1, .int 5, .int 0]) (rest := []) E hw hl (c_X9_setTicket l D cA tS A h F x1 5 0 p5 wd p7 h8) 3 (bwV bw_c tb_1273 tb_1275 tb_59 tb_111 tb_1276) rfl (by decide +kernel) ⟨Nat.le_of_ble_eq_true rfl, Nat.le_of_ble_eq_true rfl⟩ 0 9 (T := TX9) (N := 17) rfl rfl rfl rfl (Nat.le_of_ble_eq_true rfl) ⟨Nat.zero_le _, Nat.zero_le _⟩ dX9_letClimb_26 (fun H locs hw => ?_)
  refine lv_aload_n hx hb dX9_letClimb_29 rfl (lv_at hl 0 rfl) ?_
  refine lv_iload_n hx hb dX9_letClimb_30 rfl (lv_at hl 1 rfl) ?_
  refine lv_bipush (v := 6) hx hb dX9_letClimb_31 (by decide) ?_
  refine lv_iconst (v := 0) hx hb dX9_letClimb_33 (by decide) ?_
  obtain ⟨p9, h10, hM⟩ := b_some hM
  refine q_cvv (As := [.int x1, .int 6, .int 0]) (rest := []) E hw hl (c_X9_setTicket l D cA tS A h F x1 6 0 p7 wd p9 h10) 3 (bwV bw_c tb_1273 tb_1275 tb_59 tb_111 tb_1276) rfl (by decide +kernel) ⟨Nat.le_of_ble_eq_true rfl, Nat.le_of_ble_eq_true rfl⟩ 0 9 (T := TX9) (N := 17) rfl rfl rfl rfl (Nat.le_of_ble_eq_true rfl) ⟨Nat.zero_le _, Nat.zero_le _⟩ dX9_letClimb_34 (fun H locs hw => ?_)
  refine lv_aload_n hx hb dX9_letClimb_37 rfl (lv_at hl 0 rfl) ?_
  refine lv_iload_n hx hb dX9_letClimb_38 rfl (lv_at hl 2 rfl) ?_
  refine lv_iconst (v := 4) hx hb dX9_letClimb_39 (by decide) ?_
  refine lv_iload_n hx hb dX9_letClimb_40 rfl (lv_at hl 1 rfl) ?_
  refine lv_aload_n hx hb dX9_letClimb_41 rfl (lv_at hl 0 rfl) ?_
  refine lv_iload_n hx hb dX9_letClimb_42 rfl (lv_at hl 1 rfl) ?_
  refine lv_iconst (v := 4) hx hb dX9_letClimb_43 (by decide) ?_
  obtain ⟨p11, h12, hM⟩ := b_some hM
  refine q_cv (As := [.int x1, .int 4]) (rest := [.int x1, .int 4, .int x2, .ref (h 0)]) E hw hl (c_X9_ticket l D cA tS A h F x1 4 p9 wd p11 h12) 2 (bwV bw_c tb_1241 tb_1243 tb_51 tb_111 tb_1244) rfl (by decide +kernel) ⟨Nat.le_of_ble_eq_true rfl, Nat.le_of_ble_eq_true rfl⟩ 0 9 (T := TX9) (N := 17) rfl rfl rfl rfl (Nat.le_of_ble_eq_true rfl) ⟨Nat.zero_le _, Nat.zero_le _⟩ dX9_letClimb_44 (fun H locs hw => ?_)
  obtain ⟨p13, h14, hM⟩ := b_some hM
  refine q_cvv (As := [.int x2, .int 4, .int x1, .int p11]) (rest := []) E hw hl (c_X9_log l D cA tS A h F x2 4 x1 p11 p9 wd p13 h14) 4 (bwV bw_c tb_1281 tb_1283 tb_61 tb_111 tb_1284) rfl (by decide +kernel) ⟨Nat.le_of_ble_eq_true rfl, Nat.le_of_ble_eq_true rfl⟩ 0 9 (T := TX9) (N := 17) rfl rfl rfl rfl (Nat.le_of_ble_eq_true rfl) ⟨Nat.zero_le _, Nat.zero_le _⟩ dX9_letClimb_47 (fun H locs hw => ?_)
  cases hM
  exact q_retv E hw dX9_letClimb_50
set_option maxRecDepth 100000 in
set_option maxHeartbeats 4000000 in
theorem c_X9_solveOne (l : Launch) (D : va_G) (cA : Nat → ClassId) (tS : Nat → Nat) (A : Nat → Prop) (h : Nat → Nat) (F : va_W) (x1 : Int32) (x2 : Int32) (σ : Sg) (wd : Int64) (s0 : Sg) (hM : f_X9_solveOne x1 x2 σ wd = some s0) : Ct l yX9_solveOne (Cond.code yX9_solveOne cX9_solveOne 3 none :: bw) 1 25 D cA tS A [.ref (h 0), .int x1, .int x2] (wM cA h σ wd ++ F) none (wM cA h s0 wd ++ F) := by
  refine ct_of (by decide +kernel) (Nat.le_of_ble_eq_true rfl) ?_
  intro p e s m below meth c E hw ls hl
  replace E : Ev p cX9_solveOne 3 none RX9 (Cond.code yX9_solveOne cX9_solveOne 3 none :: bw) D cA tS A s m _ meth c := E
  replace hl : lv_has ls 3 [(0, .ref (h 0)), (1, .int x1), (2, .int x2)] := hl
  have hx := E.1.1
  have hb := E.1.2.1
  unfold f_X9_solveOne at hM
  refine lv_aload_n hx hb dX9_solveOne_0 rfl (lv_at hl 0 rfl) ?_
  refine lv_iload_n hx hb dX9_solveOne_1 rfl (lv_at hl 1 rfl) ?_
  refine lv_bipush (v := 9) hx hb dX9_solveOne_2 (by decide) ?_
  refine lv_iconst (v := 3) hx hb dX9_solveOne_4 (by decide) ?_
  obtain ⟨p1, h2, hM⟩ := b_some hM
  refine q_cvv (As := [.int x1, .int 9, .int 3]) (rest := []) E hw hl (c_X9_setTicket l D cA tS A h F x1 9 3 σ wd p1 h2) 3 (bwV bw_c tb_1273 tb_1275 tb_59 tb_111 tb_1276) rfl (by decide +kernel) ⟨Nat.le_of_ble_eq_true rfl, Nat.le_of_ble_eq_true rfl⟩ 0 9 (T := TX9) (N := 17) rfl rfl rfl rfl (Nat.le_of_ble_eq_true rfl) ⟨Nat.zero_le _, Nat.zero_le _⟩ dX9_solveOne_5 (fun H locs hw => ?_)
  refine lv_aload_n hx hb dX9_solveOne_8 rfl (lv_at hl 0 rfl) ?_
  refine lv_iload_n hx hb dX9_solveOne_9 rfl (lv_at hl 1 rfl) ?_
  refine lv_bipush (v := 13) hx hb dX9_solveOne_10 (by decide) ?_
  refine lv_iload_n hx hb dX9_solveOne_12 rfl (lv_at hl 2 rfl) ?_
  obtain ⟨p3, h4, hM⟩ := b_some hM
  refine q_cvv (As := [.int x1, .int 13, .int x2]) (rest := []) E hw hl (c_X9_setTicket l D cA tS A h F x1 13 x2 p1 wd p3 h4) 3 (bwV bw_c tb_1273 tb_1275 tb_59 tb_111 tb_1276) rfl (by decide +kernel) ⟨Nat.le_of_ble_eq_true rfl, Nat.le_of_ble_eq_true rfl⟩ 0 9 (T := TX9) (N := 17) rfl rfl rfl rfl (Nat.le_of_ble_eq_true rfl) ⟨Nat.zero_le _, Nat.zero_le _⟩ dX9_solveOne_13 (fun H locs hw => ?_)
  refine lv_aload_n hx hb dX9_solveOne_16 rfl (lv_at hl 0 rfl) ?_
  refine lv_iload_n hx hb dX9_solveOne_17 rfl (lv_at hl 2 rfl) ?_
  refine lv_iconst (v := 5) hx hb dX9_solveOne_18 (by decide) ?_
  refine lv_iload_n hx hb dX9_solveOne_19 rfl (lv_at hl 1 rfl) ?_
  refine lv_iconst (v := 0) hx hb dX9_solveOne_20 (by decide) ?_
  obtain ⟨p5, h6, hM⟩ := b_some hM
  refine q_cvv (As := [.int x2, .int 5, .int x1, .int 0]) (rest := []) E hw hl (c_X9_log l D cA tS A h F x2 5 x1 0 p3 wd p5 h6) 4 (bwV bw_c tb_1281 tb_1283 tb_61 tb_111 tb_1284) rfl (by decide +kernel) ⟨Nat.le_of_ble_eq_true rfl, Nat.le_of_ble_eq_true rfl⟩ 0 9 (T := TX9) (N := 17) rfl rfl rfl rfl (Nat.le_of_ble_eq_true rfl) ⟨Nat.zero_le _, Nat.zero_le _⟩ dX9_solveOne_21 (fun H locs hw => ?_)
  cases hM
  exact q_retv E hw dX9_solveOne_24
set_option maxRecDepth 100000 in
set_option maxHeartbeats 4000000 in
theorem s_X9_makeSolved_11 (l : Launch) (D : va_G) (cA : Nat → ClassId) (tS : Nat → Nat) (A : Nat → Prop) (h : Nat → Nat) (F : va_W) (N : Nat) {p : Program} {e : Env} {s : State} {m : MethodId} {args : Array Value} {below : List Frame} {meth : Method} {c : Code} (E : Ev p cX9_makeSolved 5 (some .int) RX9 (Cond.code yX9_makeSolved cX9_makeSolved 5 (some .int) :: bw) D cA tS A s m args meth c) : ∀ (n : Nat) (x1 : Int32) (x2 : Int32) (x3 : Int32) (x4 : Int32) (σ : Sg) (wd : Int64) (r0 : Int32) (s0 : Sg) (hM : f_X9_makeSolved_11 N n x1 x2 x3 x4 σ wd = some (r0, s0)) (H : Heap) (locs : List Loc) (hw : Wd D A (wM cA h σ wd ++ F) s.heap H locs) (ls : Array Slot) (hl : lv_has ls 5 [(0, .ref (h 0)), (1, .int x1), (2, .int x2), (3, .int x3), (4, .int x4)]), W p l e ({ frames := 2, cells := 0, slots := 0, locals := 47 } : Room) s m args below meth c H locs 0 0 (MQ below (QW D A (some (.int r0)) (wM cA h s0 wd ++ F)) args s 0 0 A) (F0 m 11 ls []) := by
  have hx := E.1.1
  have hb := E.1.2.1
  intro n
  induction n with
  | zero =>
    intro x1 x2 x3 x4 σ wd r0 s0 hM
    cases hM
  | succ n ih =>
    intro x1 x2 x3 x4 σ wd r0 s0 hM H locs hw ls hl
    rw [f_X9_makeSolved_11] at hM
    refine lv_iload hx hb dX9_makeSolved_11 (lv_at hl 4 rfl) ?_
    refine lv_aload_n hx hb dX9_makeSolved_13 rfl (lv_at hl 0 rfl) ?_
    refine q_get (C := RX9) (T := TX9) (N := 17) (ci := 9) E (fun w h => List.mem_cons_of_mem _ (inX9 w h)) hw 0 rfl rfl 0 (by decide) (List.mem_cons_of_mem _ tb_1145) (v := .ref (h 1)) rfl dX9_makeSolved_14 ?_
    refine lv_bipush (v := 56) hx hb dX9_makeSolved_17 (by decide) ?_
    refine q_ald E hw 1 (n := 4619) rfl (by decide +kernel) (x := (σ 1 (ix 56))) rfl dX9_makeSolved_19 ?_
    refine lv_icmp_ge (tgt := 51) hx hb dX9_makeSolved_20 (by decide) (fun c1 => ?_) (fun c1 => ?_)
    · replace hM := i_pos hM c1
      refine lv_iload_n hx hb dX9_makeSolved_51 rfl (lv_at hl 3 rfl) ?_
      cases hM
      exact q_reti E hw dX9_makeSolved_52
    · replace hM := i_neg hM c1
      refine lv_aload_n hx hb dX9_makeSolved_23 rfl (lv_at hl 0 rfl) ?_
      refine lv_iload hx hb dX9_makeSolved_24 (lv_at hl 4 rfl) ?_
      refine lv_bipush (v := 10) hx hb dX9_makeSolved_26 (by decide) ?_
      obtain ⟨p2, h3, hM⟩ := b_some hM
      refine q_cv (As := [.int x4, .int 10]) (rest := []) E hw hl (c_X9_ticket l D cA tS A h F x4 10 σ wd p2 h3) 2 (bwV bw_c tb_1241 tb_1243 tb_51 tb_111 tb_1244) rfl (by decide +kernel) ⟨Nat.le_of_ble_eq_true rfl, Nat.le_of_ble_eq_true rfl⟩ 0 9 (T := TX9) (N := 17) rfl rfl rfl rfl (Nat.le_of_ble_eq_true rfl) ⟨Nat.zero_le _, Nat.zero_le _⟩ dX9_makeSolved_28 (fun H locs hw => ?_)
      refine lv_iload_n hx hb dX9_makeSolved_31 rfl (lv_at hl 1 rfl) ?_
      refine lv_icmp_ne (tgt := 45) hx hb dX9_makeSolved_32 (by decide) (fun c4 => ?_) (fun c4 => ?_)
      · replace hM := i_neg hM c4
        refine lv_iinc (v := (x4 + 1)) (lv' := [(4, .int (x4 + 1)), (0, .ref (h 0)), (1, .int x1), (2, .int x2), (3, .int x3)]) hx hb dX9_makeSolved_45 hl (k := 4) rfl rfl (by decide) rfl (fun ls hl => ?_)
        refine lv_goto (tgt := 11) hx hb dX9_makeSolved_48 (by decide) ?_
        exact ih _ _ _ _ _ _ _ _ hM _ _ hw _ (lv_sub hl [1, 2, 3, 4, 0] rfl)
      · replace hM := i_pos hM c4
        refine lv_aload_n hx hb dX9_makeSolved_35 rfl (lv_at hl 0 rfl) ?_
        refine lv_iload hx hb dX9_makeSolved_36 (lv_at hl 4 rfl) ?_
        refine lv_iload_n hx hb dX9_makeSolved_38 rfl (lv_at hl 2 rfl) ?_
        obtain ⟨p5, h6, hM⟩ := b_some hM
        refine q_cvv (As := [.int x4, .int x2]) (rest := []) E hw hl (c_X9_solveOne l D cA tS A h F x4 x2 σ wd p5 h6) 2 (bwV bw_c tb_1293 tb_1295 tb_64 tb_111 tb_1296) rfl (by decide +kernel) ⟨Nat.le_of_ble_eq_true rfl, Nat.le_of_ble_eq_true rfl⟩ 0 9 (T := TX9) (N := 17) rfl rfl rfl rfl (Nat.le_of_ble_eq_true rfl) ⟨Nat.zero_le _, Nat.zero_le _⟩ dX9_makeSolved_39 (fun H locs hw => ?_)
        refine lv_iinc (v := (x3 + 1)) (lv' := [(3, .int (x3 + 1)), (0, .ref (h 0)), (1, .int x1), (2, .int x2), (4, .int x4)]) hx hb dX9_makeSolved_42 hl (k := 3) rfl rfl (by decide) rfl (fun ls hl => ?_)
        refine lv_iinc (v := (x4 + 1)) (lv' := [(4, .int (x4 + 1)), (3, .int (x3 + 1)), (0, .ref (h 0)), (1, .int x1), (2, .int x2)]) hx hb dX9_makeSolved_45 hl (k := 4) rfl rfl (by decide) rfl (fun ls hl => ?_)
        refine lv_goto (tgt := 11) hx hb dX9_makeSolved_48 (by decide) ?_
        exact ih _ _ _ _ _ _ _ _ hM _ _ hw _ (lv_sub hl [2, 3, 4, 1, 0] rfl)
set_option maxRecDepth 100000 in
set_option maxHeartbeats 4000000 in
theorem c_X9_makeSolved (l : Launch) (D : va_G) (cA : Nat → ClassId) (tS : Nat → Nat) (A : Nat → Prop) (h : Nat → Nat) (F : va_W) (N : Nat) (x1 : Int32) (x2 : Int32) (σ : Sg) (wd : Int64) (r0 : Int32) (s0 : Sg) (hM : f_X9_makeSolved N x1 x2 σ wd = some (r0, s0)) : Ct l yX9_makeSolved (Cond.code yX9_makeSolved cX9_makeSolved 5 (some .int) :: bw) 2 47 D cA tS A [.ref (h 0), .int x1, .int x2] (wM cA h σ wd ++ F) (some (.int r0)) (wM cA h s0 wd ++ F) := by
  refine ct_of (by decide +kernel) (Nat.le_of_ble_eq_true rfl) ?_
  intro p e s m below meth c E hw ls hl
  replace E : Ev p cX9_makeSolved 5 (some .int) RX9 (Cond.code yX9_makeSolved cX9_makeSolved 5 (some .int) :: bw) D cA tS A s m _ meth c := E
  replace hl : lv_has ls 5 [(0, .ref (h 0)), (1, .int x1), (2, .int x2)] := hl
  have hx := E.1.1
  have hb := E.1.2.1
  unfold f_X9_makeSolved at hM
  refine lv_aload_n hx hb dX9_makeSolved_0 rfl (lv_at hl 0 rfl) ?_
  refine lv_iload_n hx hb dX9_makeSolved_1 rfl (lv_at hl 1 rfl) ?_
  refine lv_iload_n hx hb dX9_makeSolved_2 rfl (lv_at hl 2 rfl) ?_
  obtain ⟨p1, h2, hM⟩ := b_some hM
  refine q_cvv (As := [.int x1, .int x2]) (rest := []) E hw hl (c_X9_solveOne l D cA tS A h F x1 x2 σ wd p1 h2) 2 (bwV bw_c tb_1293 tb_1295 tb_64 tb_111 tb_1296) rfl (by decide +kernel) ⟨Nat.le_of_ble_eq_true rfl, Nat.le_of_ble_eq_true rfl⟩ 0 9 (T := TX9) (N := 17) rfl rfl rfl rfl (Nat.le_of_ble_eq_true rfl) ⟨Nat.zero_le _, Nat.zero_le _⟩ dX9_makeSolved_3 (fun H locs hw => ?_)
  refine lv_iconst (v := 1) hx hb dX9_makeSolved_6 (by decide) ?_
  refine lv_istore_n (lv' := [(3, .int 1), (0, .ref (h 0)), (1, .int x1), (2, .int x2)]) hx hb dX9_makeSolved_7 rfl hl (by decide) rfl (fun ls hl => ?_)
  refine lv_iconst (v := 0) hx hb dX9_makeSolved_8 (by decide) ?_
  refine lv_istore (lv' := [(4, .int 0), (3, .int 1), (0, .ref (h 0)), (1, .int x1), (2, .int x2)]) hx hb dX9_makeSolved_9 hl (by decide) rfl (fun ls hl => ?_)
  exact s_X9_makeSolved_11 l D cA tS A h F N E N _ _ _ _ _ _ _ _ hM _ _ hw _ (lv_sub hl [2, 3, 4, 1, 0] rfl)
