def f_X9_isBetween    (x0 : Int32) (x1 : Int32) (x2 : Int32) : Option (Int32) := (if x0 < x1 then some 0 else (if x2 < x0 then some 0 else some 1))
set_option maxRecDepth 100000 in
set_option maxHeartbeats 4000000 in
theorem c_X9_isBetween (l : Launch) (D : va_G) (cA : Nat → ClassId) (tS : Nat → Nat) (A : Nat → Prop) (F : va_W) (x0 : Int32) (x1 : Int32) (x2 : Int32) (r0 : Int32) (hM : f_X9_isBetween x0 x1 x2 = some r0) : Ct l yX9_isBetween (Cond.code yX9_isBetween cX9_isBetween 3 (some .boolean) :: bw) 0 0 D cA tS A [.int x0, .int x1, .int x2] F (some (.int r0)) F := by
  refine ct_of (by decide +kernel) (Nat.le_of_ble_eq_true rfl) ?_
  intro p e s m below meth c E hw ls hl
  replace E : Ev p cX9_isBetween 3 (some .boolean) RX9 (Cond.code yX9_isBetween cX9_isBetween 3 (some .boolean) :: bw) D cA tS A s m _ meth c := E
  replace hl : lv_has ls 3 [(0, .int x0), (1, .int x1), (2, .int x2)] := hl
  have hx := E.1.1
  have hb := E.1.2.1
  unfold f_X9_isBetween at hM
  refine lv_iload_n hx hb dX9_isBetween_0 rfl (lv_at hl 0 rfl) ?_
  refine lv_iload_n hx hb dX9_isBetween_1 rfl (lv_at hl 1 rfl) ?_
  refine lv_icmp_lt (tgt := 14) hx hb dX9_isBetween_2 (by decide) (fun c1 => ?_) (fun c1 => ?_)
  · replace hM := i_pos hM c1
    refine lv_iconst (v := 0) hx hb dX9_isBetween_14 (by decide) ?_
    cases hM
    exact q_retz E hw (by decide) dX9_isBetween_15
  · replace hM := i_neg hM c1
    refine lv_iload_n hx hb dX9_isBetween_5 rfl (lv_at hl 0 rfl) ?_
    refine lv_iload_n hx hb dX9_isBetween_6 rfl (lv_at hl 2 rfl) ?_
    refine lv_icmp_gt (tgt := 14) hx hb dX9_isBetween_7 (by decide) (fun c2 => ?_) (fun c2 => ?_)
    · replace hM := i_pos hM c2
      refine lv_iconst (v := 0) hx hb dX9_isBetween_14 (by decide) ?_
      cases hM
      exact q_retz E hw (by decide) dX9_isBetween_15
    · replace hM := i_neg hM c2
      refine lv_iconst (v := 1) hx hb dX9_isBetween_10 (by decide) ?_
      refine lv_goto (tgt := 15) hx hb dX9_isBetween_11 (by decide) ?_
      cases hM
      exact q_retz E hw (by decide) dX9_isBetween_15
def f_X9_beginAtZero_64 (N : Nat)   : Nat → Int32 → Sg → Int64 → Option (Sg)
  | 0, _, _, _ => none
  | n + 1, x1, σ, wd => (if 4 ≤ x1 then some (up (up σ 1 (ix 56) 0) 1 (ix 58) 0) else if ib (15 + x1) 4619 then f_X9_beginAtZero_64 N n (x1 + 1) (up σ 1 (ix (15 + x1)) 1) wd else none)
set_option maxRecDepth 100000 in
set_option maxHeartbeats 4000000 in
theorem s_X9_beginAtZero_64 (l : Launch) (D : va_G) (cA : Nat → ClassId) (tS : Nat → Nat) (A : Nat → Prop) (h : Nat → Nat) (F : va_W) (N : Nat) {p : Program} {e : Env} {s : State} {m : MethodId} {args : Array Value} {below : List Frame} {meth : Method} {c : Code} (E : Ev p cX9_beginAtZero 2 none RX9 (Cond.code yX9_beginAtZero cX9_beginAtZero 2 none :: bw) D cA tS A s m args meth c) : ∀ (n : Nat) (x1 : Int32) (σ : Sg) (wd : Int64) (s0 : Sg) (hM : f_X9_beginAtZero_64 N n x1 σ wd = some s0) (H : Heap) (locs : List Loc) (hw : Wd D A (wM cA h σ wd ++ F) s.heap H locs) (ls : Array Slot) (hl : lv_has ls 2 [(0, .ref (h 0)), (1, .int x1)]), W p l e ({ frames := 0, cells := 0, slots := 0, locals := 0 } : Room) s m args below meth c H locs 0 0 (MQ below (QW D A none (wM cA h s0 wd ++ F)) args s 0 0 A) (F0 m 64 ls []) := by
  have hx := E.1.1
  have hb := E.1.2.1
  intro n
  induction n with
  | zero =>
    intro x1 σ wd s0 hM
    cases hM
  | succ n ih =>
    intro x1 σ wd s0 hM H locs hw ls hl
    rw [f_X9_beginAtZero_64] at hM
    refine lv_iload_n hx hb dX9_beginAtZero_64 rfl (lv_at hl 1 rfl) ?_
    refine lv_iconst (v := 4) hx hb dX9_beginAtZero_65 (by decide) ?_
    refine lv_icmp_ge (tgt := 85) hx hb dX9_beginAtZero_66 (by decide) (fun c1 => ?_) (fun c1 => ?_)
    · replace hM := i_pos hM c1
      refine lv_aload_n hx hb dX9_beginAtZero_85 rfl (lv_at hl 0 rfl) ?_
      refine q_get (C := RX9) (T := TX9) (N := 17) (ci := 9) E (fun w h => List.mem_cons_of_mem _ (inX9 w h)) hw 0 rfl rfl 0 (by decide) (List.mem_cons_of_mem _ tb_1157) (v := .ref (h 1)) rfl dX9_beginAtZero_86 ?_
      refine lv_bipush (v := 56) hx hb dX9_beginAtZero_89 (by decide) ?_
      refine lv_iconst (v := 0) hx hb dX9_beginAtZero_91 (by decide) ?_
      refine q_ast E hw 1 (n := 4619) rfl (by decide +kernel) (wM cA h (up σ 1 (ix 56) 0) wd ++ F) st_M_1 dX9_beginAtZero_92 (fun H locs hw => ?_)
      refine lv_aload_n hx hb dX9_beginAtZero_93 rfl (lv_at hl 0 rfl) ?_
      refine q_get (C := RX9) (T := TX9) (N := 17) (ci := 9) E (fun w h => List.mem_cons_of_mem _ (inX9 w h)) hw 0 rfl rfl 0 (by decide) (List.mem_cons_of_mem _ tb_1157) (v := .ref (h 1)) rfl dX9_beginAtZero_94 ?_
      refine lv_bipush (v := 58) hx hb dX9_beginAtZero_97 (by decide) ?_
      refine lv_iconst (v := 0) hx hb dX9_beginAtZero_99 (by decide) ?_
      refine q_ast E hw 1 (n := 4619) rfl (by decide +kernel) (wM cA h (up (up σ 1 (ix 56) 0) 1 (ix 58) 0) wd ++ F) st_M_1 dX9_beginAtZero_100 (fun H locs hw => ?_)
      cases hM
      exact q_retv E hw dX9_beginAtZero_101
    · replace hM := i_neg hM c1
      refine lv_aload_n hx hb dX9_beginAtZero_69 rfl (lv_at hl 0 rfl) ?_
      refine q_get (C := RX9) (T := TX9) (N := 17) (ci := 9) E (fun w h => List.mem_cons_of_mem _ (inX9 w h)) hw 0 rfl rfl 0 (by decide) (List.mem_cons_of_mem _ tb_1157) (v := .ref (h 1)) rfl dX9_beginAtZero_70 ?_
      refine lv_bipush (v := 15) hx hb dX9_beginAtZero_73 (by decide) ?_
      refine lv_iload_n hx hb dX9_beginAtZero_75 rfl (lv_at hl 1 rfl) ?_
      refine lv_iadd hx hb dX9_beginAtZero_76 ?_
      refine lv_iconst (v := 1) hx hb dX9_beginAtZero_77 (by decide) ?_
      obtain ⟨g2, hM⟩ := g_some hM
      refine q_ast E hw 1 (n := 4619) rfl g2 (wM cA h (up σ 1 (ix (15 + x1)) 1) wd ++ F) st_M_1 dX9_beginAtZero_78 (fun H locs hw => ?_)
      refine lv_iinc (v := (x1 + 1)) (lv' := [(1, .int (x1 + 1)), (0, .ref (h 0))]) hx hb dX9_beginAtZero_79 hl (k := 1) rfl rfl (by decide) rfl (fun ls hl => ?_)
      refine lv_goto (tgt := 64) hx hb dX9_beginAtZero_82 (by decide) ?_
      exact ih _ _ _ _ hM _ _ hw _ (lv_sub hl [1, 0] rfl)
def f_X9_beginAtZero_9 (N : Nat)   : Nat → Int32 → Sg → Int64 → Option (Sg)
  | 0, _, _, _ => none
  | n + 1, x1, σ, wd => (if 7 ≤ x1 then f_X9_beginAtZero_64 N N 0 σ wd else (if 5 ≤ x1 then if ib (1 + x1) 4619 then (if 5 ≤ x1 then if ib (8 + x1) 4619 then f_X9_beginAtZero_9 N n (x1 + 1) (up (up σ 1 (ix (1 + x1)) 0) 1 (ix (8 + x1)) 0) wd else none else if ib (8 + x1) 4619 then f_X9_beginAtZero_9 N n (x1 + 1) (up (up σ 1 (ix (1 + x1)) 0) 1 (ix (8 + x1)) 1020) wd else none) else none else if ib (1 + x1) 4619 then (if 5 ≤ x1 then if ib (8 + x1) 4619 then f_X9_beginAtZero_9 N n (x1 + 1) (up (up σ 1 (ix (1 + x1)) 540) 1 (ix (8 + x1)) 0) wd else none else if ib (8 + x1) 4619 then f_X9_beginAtZero_9 N n (x1 + 1) (up (up σ 1 (ix (1 + x1)) 540) 1 (ix (8 + x1)) 1020) wd else none) else none))
set_option maxRecDepth 100000 in
set_option maxHeartbeats 4000000 in
theorem s_X9_beginAtZero_9 (l : Launch) (D : va_G) (cA : Nat → ClassId) (tS : Nat → Nat) (A : Nat → Prop) (h : Nat → Nat) (F : va_W) (N : Nat) {p : Program} {e : Env} {s : State} {m : MethodId} {args : Array Value} {below : List Frame} {meth : Method} {c : Code} (E : Ev p cX9_beginAtZero 2 none RX9 (Cond.code yX9_beginAtZero cX9_beginAtZero 2 none :: bw) D cA tS A s m args meth c) : ∀ (n : Nat) (x1 : Int32) (σ : Sg) (wd : Int64) (s0 : Sg) (hM : f_X9_beginAtZero_9 N n x1 σ wd = some s0) (H : Heap) (locs : List Loc) (hw : Wd D A (wM cA h σ wd ++ F) s.heap H locs) (ls : Array Slot) (hl : lv_has ls 2 [(0, .ref (h 0)), (1, .int x1)]), W p l e ({ frames := 0, cells := 0, slots := 0, locals := 0 } : Room) s m args below meth c H locs 0 0 (MQ below (QW D A none (wM cA h s0 wd ++ F)) args s 0 0 A) (F0 m 9 ls []) := by
  have hx := E.1.1
  have hb := E.1.2.1
  intro n
  induction n with
  | zero =>
    intro x1 σ wd s0 hM
    cases hM
  | succ n ih =>
    intro x1 σ wd s0 hM H locs hw ls hl
    rw [f_X9_beginAtZero_9] at hM
    refine lv_iload_n hx hb dX9_beginAtZero_9 rfl (lv_at hl 1 rfl) ?_
    refine lv_bipush (v := 7) hx hb dX9_beginAtZero_10 (by decide) ?_
    refine lv_icmp_ge (tgt := 62) hx hb dX9_beginAtZero_12 (by decide) (fun c1 => ?_) (fun c1 => ?_)
    · replace hM := i_pos hM c1
      refine lv_iconst (v := 0) hx hb dX9_beginAtZero_62 (by decide) ?_
      refine lv_istore_n (lv' := [(1, .int 0), (0, .ref (h 0))]) hx hb dX9_beginAtZero_63 rfl hl (by decide) rfl (fun ls hl => ?_)
      exact s_X9_beginAtZero_64 l D cA tS A h F N E N _ _ _ _ hM _ _ hw _ (lv_sub hl [1, 0] rfl)
    · replace hM := i_neg hM c1
      refine lv_aload_n hx hb dX9_beginAtZero_15 rfl (lv_at hl 0 rfl) ?_
      refine q_get (C := RX9) (T := TX9) (N := 17) (ci := 9) E (fun w h => List.mem_cons_of_mem _ (inX9 w h)) hw 0 rfl rfl 0 (by decide) (List.mem_cons_of_mem _ tb_1157) (v := .ref (h 1)) rfl dX9_beginAtZero_16 ?_
      refine lv_iconst (v := 1) hx hb dX9_beginAtZero_19 (by decide) ?_
      refine lv_iload_n hx hb dX9_beginAtZero_20 rfl (lv_at hl 1 rfl) ?_
      refine lv_iadd hx hb dX9_beginAtZero_21 ?_
      refine lv_iload_n hx hb dX9_beginAtZero_22 rfl (lv_at hl 1 rfl) ?_
      refine lv_iconst (v := 5) hx hb dX9_beginAtZero_23 (by decide) ?_
      refine lv_icmp_ge (tgt := 33) hx hb dX9_beginAtZero_24 (by decide) (fun c2 => ?_) (fun c2 => ?_)
      · replace hM := i_pos hM c2
        refine lv_iconst (v := 0) hx hb dX9_beginAtZero_33 (by decide) ?_
        obtain ⟨g3, hM⟩ := g_some hM
        refine q_ast E hw 1 (n := 4619) rfl g3 (wM cA h (up σ 1 (ix (1 + x1)) 0) wd ++ F) st_M_1 dX9_beginAtZero_34 (fun H locs hw => ?_)
        refine lv_aload_n hx hb dX9_beginAtZero_35 rfl (lv_at hl 0 rfl) ?_
        refine q_get (C := RX9) (T := TX9) (N := 17) (ci := 9) E (fun w h => List.mem_cons_of_mem _ (inX9 w h)) hw 0 rfl rfl 0 (by decide) (List.mem_cons_of_mem _ tb_1157) (v := .ref (h 1)) rfl dX9_beginAtZero_36 ?_
        refine lv_bipush (v := 8) hx hb dX9_beginAtZero_39 (by decide) ?_
        refine lv_iload_n hx hb dX9_beginAtZero_41 rfl (lv_at hl 1 rfl) ?_
        refine lv_iadd hx hb dX9_beginAtZero_42 ?_
        refine lv_iload_n hx hb dX9_beginAtZero_43 rfl (lv_at hl 1 rfl) ?_
        refine lv_iconst (v := 5) hx hb dX9_beginAtZero_44 (by decide) ?_
        refine lv_icmp_ge (tgt := 54) hx hb dX9_beginAtZero_45 (by decide) (fun c4 => ?_) (fun c4 => ?_)
        · replace hM := i_pos hM c4
          refine lv_iconst (v := 0) hx hb dX9_beginAtZero_54 (by decide) ?_
          obtain ⟨g5, hM⟩ := g_some hM
          refine q_ast E hw 1 (n := 4619) rfl g5 (wM cA h (up (up σ 1 (ix (1 + x1)) 0) 1 (ix (8 + x1)) 0) wd ++ F) st_M_1 dX9_beginAtZero_55 (fun H locs hw => ?_)
          refine lv_iinc (v := (x1 + 1)) (lv' := [(1, .int (x1 + 1)), (0, .ref (h 0))]) hx hb dX9_beginAtZero_56 hl (k := 1) rfl rfl (by decide) rfl (fun ls hl => ?_)
          refine lv_goto (tgt := 9) hx hb dX9_beginAtZero_59 (by decide) ?_
          exact ih _ _ _ _ hM _ _ hw _ (lv_sub hl [1, 0] rfl)
        · replace hM := i_neg hM c4
          refine lv_sipush (v := 1020) hx hb dX9_beginAtZero_48 (by decide) ?_
          refine lv_goto (tgt := 55) hx hb dX9_beginAtZero_51 (by decide) ?_
          obtain ⟨g6, hM⟩ := g_some hM
          refine q_ast E hw 1 (n := 4619) rfl g6 (wM cA h (up (up σ 1 (ix (1 + x1)) 0) 1 (ix (8 + x1)) 1020) wd ++ F) st_M_1 dX9_beginAtZero_55 (fun H locs hw => ?_)
          refine lv_iinc (v := (x1 + 1)) (lv' := [(1, .int (x1 + 1)), (0, .ref (h 0))]) hx hb dX9_beginAtZero_56 hl (k := 1) rfl rfl (by decide) rfl (fun ls hl => ?_)
          refine lv_goto (tgt := 9) hx hb dX9_beginAtZero_59 (by decide) ?_
          exact ih _ _ _ _ hM _ _ hw _ (lv_sub hl [1, 0] rfl)
      · replace hM := i_neg hM c2
        refine lv_sipush (v := 540) hx hb dX9_beginAtZero_27 (by decide) ?_
        refine lv_goto (tgt := 34) hx hb dX9_beginAtZero_30 (by decide) ?_
        obtain ⟨g7, hM⟩ := g_some hM
        refine q_ast E hw 1 (n := 4619) rfl g7 (wM cA h (up σ 1 (ix (1 + x1)) 540) wd ++ F) st_M_1 dX9_beginAtZero_34 (fun H locs hw => ?_)
        refine lv_aload_n hx hb dX9_beginAtZero_35 rfl (lv_at hl 0 rfl) ?_
        refine q_get (C := RX9) (T := TX9) (N := 17) (ci := 9) E (fun w h => List.mem_cons_of_mem _ (inX9 w h)) hw 0 rfl rfl 0 (by decide) (List.mem_cons_of_mem _ tb_1157) (v := .ref (h 1)) rfl dX9_beginAtZero_36 ?_
        refine lv_bipush (v := 8) hx hb dX9_beginAtZero_39 (by decide) ?_
        refine lv_iload_n hx hb dX9_beginAtZero_41 rfl (lv_at hl 1 rfl) ?_
        refine lv_iadd hx hb dX9_beginAtZero_42 ?_
        refine lv_iload_n hx hb dX9_beginAtZero_43 rfl (lv_at hl 1 rfl) ?_
        refine lv_iconst (v := 5) hx hb dX9_beginAtZero_44 (by decide) ?_
        refine lv_icmp_ge (tgt := 54) hx hb dX9_beginAtZero_45 (by decide) (fun c8 => ?_) (fun c8 => ?_)
        · replace hM := i_pos hM c8
          refine lv_iconst (v := 0) hx hb dX9_beginAtZero_54 (by decide) ?_
          obtain ⟨g9, hM⟩ := g_some hM
          refine q_ast E hw 1 (n := 4619) rfl g9 (wM cA h (up (up σ 1 (ix (1 + x1)) 540) 1 (ix (8 + x1)) 0) wd ++ F) st_M_1 dX9_beginAtZero_55 (fun H locs hw => ?_)
          refine lv_iinc (v := (x1 + 1)) (lv' := [(1, .int (x1 + 1)), (0, .ref (h 0))]) hx hb dX9_beginAtZero_56 hl (k := 1) rfl rfl (by decide) rfl (fun ls hl => ?_)
          refine lv_goto (tgt := 9) hx hb dX9_beginAtZero_59 (by decide) ?_
          exact ih _ _ _ _ hM _ _ hw _ (lv_sub hl [1, 0] rfl)
        · replace hM := i_neg hM c8
          refine lv_sipush (v := 1020) hx hb dX9_beginAtZero_48 (by decide) ?_
          refine lv_goto (tgt := 55) hx hb dX9_beginAtZero_51 (by decide) ?_
          obtain ⟨g10, hM⟩ := g_some hM
          refine q_ast E hw 1 (n := 4619) rfl g10 (wM cA h (up (up σ 1 (ix (1 + x1)) 540) 1 (ix (8 + x1)) 1020) wd ++ F) st_M_1 dX9_beginAtZero_55 (fun H locs hw => ?_)
          refine lv_iinc (v := (x1 + 1)) (lv' := [(1, .int (x1 + 1)), (0, .ref (h 0))]) hx hb dX9_beginAtZero_56 hl (k := 1) rfl rfl (by decide) rfl (fun ls hl => ?_)
          refine lv_goto (tgt := 9) hx hb dX9_beginAtZero_59 (by decide) ?_
          exact ih _ _ _ _ hM _ _ hw _ (lv_sub hl [1, 0] rfl)
def f_X9_beginAtZero (N : Nat)   (σ : Sg) (wd : Int64) : Option (Sg) := f_X9_beginAtZero_9 N N 0 (up σ 1 (ix 0) 0) wd
set_option maxRecDepth 100000 in
set_option maxHeartbeats 4000000 in
theorem c_X9_beginAtZero (l : Launch) (D : va_G) (cA : Nat → ClassId) (tS : Nat → Nat) (A : Nat → Prop) (h : Nat → Nat) (F : va_W) (N : Nat) (σ : Sg) (wd : Int64) (s0 : Sg) (hM : f_X9_beginAtZero N σ wd = some s0) : Ct l yX9_beginAtZero (Cond.code yX9_beginAtZero cX9_beginAtZero 2 none :: bw) 0 0 D cA tS A [.ref (h 0)] (wM cA h σ wd ++ F) none (wM cA h s0 wd ++ F) := by
  refine ct_of (by decide +kernel) (Nat.le_of_ble_eq_true rfl) ?_
  intro p e s m below meth c E hw ls hl
  replace E : Ev p cX9_beginAtZero 2 none RX9 (Cond.code yX9_beginAtZero cX9_beginAtZero 2 none :: bw) D cA tS A s m _ meth c := E
  replace hl : lv_has ls 2 [(0, .ref (h 0))] := hl
  have hx := E.1.1
  have hb := E.1.2.1
  unfold f_X9_beginAtZero at hM
  refine lv_aload_n hx hb dX9_beginAtZero_0 rfl (lv_at hl 0 rfl) ?_
  refine q_get (C := RX9) (T := TX9) (N := 17) (ci := 9) E (fun w h => List.mem_cons_of_mem _ (inX9 w h)) hw 0 rfl rfl 0 (by decide) (List.mem_cons_of_mem _ tb_1157) (v := .ref (h 1)) rfl dX9_beginAtZero_1 ?_
  refine lv_iconst (v := 0) hx hb dX9_beginAtZero_4 (by decide) ?_
  refine lv_iconst (v := 0) hx hb dX9_beginAtZero_5 (by decide) ?_
  refine q_ast E hw 1 (n := 4619) rfl (by decide +kernel) (wM cA h (up σ 1 (ix 0) 0) wd ++ F) st_M_1 dX9_beginAtZero_6 (fun H locs hw => ?_)
  refine lv_iconst (v := 0) hx hb dX9_beginAtZero_7 (by decide) ?_
  refine lv_istore_n (lv' := [(1, .int 0), (0, .ref (h 0))]) hx hb dX9_beginAtZero_8 rfl hl (by decide) rfl (fun ls hl => ?_)
  exact s_X9_beginAtZero_9 l D cA tS A h F N E N _ _ _ _ hM _ _ hw _ (lv_sub hl [1, 0] rfl)
def f_X9_ticket    (x1 : Int32) (x2 : Int32) (σ : Sg) (wd : Int64) : Option (Int32) := if ib ((59 + (16 * x1)) + x2) 4619 then some (σ 1 (ix ((59 + (16 * x1)) + x2))) else none
set_option maxRecDepth 100000 in
set_option maxHeartbeats 4000000 in
theorem c_X9_ticket (l : Launch) (D : va_G) (cA : Nat → ClassId) (tS : Nat → Nat) (A : Nat → Prop) (h : Nat → Nat) (F : va_W) (x1 : Int32) (x2 : Int32) (σ : Sg) (wd : Int64) (r0 : Int32) (hM : f_X9_ticket x1 x2 σ wd = some r0) : Ct l yX9_ticket (Cond.code yX9_ticket cX9_ticket 3 (some .int) :: bw) 0 0 D cA tS A [.ref (h 0), .int x1, .int x2] (wM cA h σ wd ++ F) (some (.int r0)) (wM cA h σ wd ++ F) := by
  refine ct_of (by decide +kernel) (Nat.le_of_ble_eq_true rfl) ?_
  intro p e s m below meth c E hw ls hl
  replace E : Ev p cX9_ticket 3 (some .int) RX9 (Cond.code yX9_ticket cX9_ticket 3 (some .int) :: bw) D cA tS A s m _ meth c := E
  replace hl : lv_has ls 3 [(0, .ref (h 0)), (1, .int x1), (2, .int x2)] := hl
  have hx := E.1.1
  have hb := E.1.2.1
  unfold f_X9_ticket at hM
  refine lv_aload_n hx hb dX9_ticket_0 rfl (lv_at hl 0 rfl) ?_
  refine q_get (C := RX9) (T := TX9) (N := 17) (ci := 9) E (fun w h => List.mem_cons_of_mem _ (inX9 w h)) hw 0 rfl rfl 0 (by decide) (List.mem_cons_of_mem _ tb_1157) (v := .ref (h 1)) rfl dX9_ticket_1 ?_
  refine lv_bipush (v := 59) hx hb dX9_ticket_4 (by decide) ?_
  refine lv_bipush (v := 16) hx hb dX9_ticket_6 (by decide) ?_
  refine lv_iload_n hx hb dX9_ticket_8 rfl (lv_at hl 1 rfl) ?_
  refine lv_imul hx hb dX9_ticket_9 ?_
  refine lv_iadd hx hb dX9_ticket_10 ?_
  refine lv_iload_n hx hb dX9_ticket_11 rfl (lv_at hl 2 rfl) ?_
  refine lv_iadd hx hb dX9_ticket_12 ?_
  obtain ⟨g1, hM⟩ := g_some hM
  refine q_ald E hw 1 (n := 4619) rfl g1 (x := (σ 1 (ix ((59 + (16 * x1)) + x2)))) rfl dX9_ticket_13 ?_
  cases hM
  exact q_reti E hw dX9_ticket_14
def f_X9_setTicket    (x1 : Int32) (x2 : Int32) (x3 : Int32) (σ : Sg) (wd : Int64) : Option (Sg) := if ib ((59 + (16 * x1)) + x2) 4619 then some (up σ 1 (ix ((59 + (16 * x1)) + x2)) x3) else none
set_option maxRecDepth 100000 in
set_option maxHeartbeats 4000000 in
theorem c_X9_setTicket (l : Launch) (D : va_G) (cA : Nat → ClassId) (tS : Nat → Nat) (A : Nat → Prop) (h : Nat → Nat) (F : va_W) (x1 : Int32) (x2 : Int32) (x3 : Int32) (σ : Sg) (wd : Int64) (s0 : Sg) (hM : f_X9_setTicket x1 x2 x3 σ wd = some s0) : Ct l yX9_setTicket (Cond.code yX9_setTicket cX9_setTicket 4 none :: bw) 0 0 D cA tS A [.ref (h 0), .int x1, .int x2, .int x3] (wM cA h σ wd ++ F) none (wM cA h s0 wd ++ F) := by
  refine ct_of (by decide +kernel) (Nat.le_of_ble_eq_true rfl) ?_
  intro p e s m below meth c E hw ls hl
  replace E : Ev p cX9_setTicket 4 none RX9 (Cond.code yX9_setTicket cX9_setTicket 4 none :: bw) D cA tS A s m _ meth c := E
  replace hl : lv_has ls 4 [(0, .ref (h 0)), (1, .int x1), (2, .int x2), (3, .int x3)] := hl
  have hx := E.1.1
  have hb := E.1.2.1
  unfold f_X9_setTicket at hM
  refine lv_aload_n hx hb dX9_setTicket_0 rfl (lv_at hl 0 rfl) ?_
  refine q_get (C := RX9) (T := TX9) (N := 17) (ci := 9) E (fun w h => List.mem_cons_of_mem _ (inX9 w h)) hw 0 rfl rfl 0 (by decide) (List.mem_cons_of_mem _ tb_1157) (v := .ref (h 1)) rfl dX9_setTicket_1 ?_
  refine lv_bipush (v := 59) hx hb dX9_setTicket_4 (by decide) ?_
  refine lv_bipush (v := 16) hx hb dX9_setTicket_6 (by decide) ?_
  refine lv_iload_n hx hb dX9_setTicket_8 rfl (lv_at hl 1 rfl) ?_
  refine lv_imul hx hb dX9_setTicket_9 ?_
  refine lv_iadd hx hb dX9_setTicket_10 ?_
  refine lv_iload_n hx hb dX9_setTicket_11 rfl (lv_at hl 2 rfl) ?_
  refine lv_iadd hx hb dX9_setTicket_12 ?_
  refine lv_iload_n hx hb dX9_setTicket_13 rfl (lv_at hl 3 rfl) ?_
  obtain ⟨g1, hM⟩ := g_some hM
  refine q_ast E hw 1 (n := 4619) rfl g1 (wM cA h (up σ 1 (ix ((59 + (16 * x1)) + x2)) x3) wd ++ F) st_M_1 dX9_setTicket_14 (fun H locs hw => ?_)
  cases hM
  exact q_retv E hw dX9_setTicket_15
def f_X9_kind    (x1 : Int32) (x2 : Int32) (σ : Sg) (wd : Int64) : Option (Int32) := if ib ((20 + (6 * x1)) + x2) 4619 then some (σ 1 (ix ((20 + (6 * x1)) + x2))) else none
set_option maxRecDepth 100000 in
set_option maxHeartbeats 4000000 in
theorem c_X9_kind (l : Launch) (D : va_G) (cA : Nat → ClassId) (tS : Nat → Nat) (A : Nat → Prop) (h : Nat → Nat) (F : va_W) (x1 : Int32) (x2 : Int32) (σ : Sg) (wd : Int64) (r0 : Int32) (hM : f_X9_kind x1 x2 σ wd = some r0) : Ct l yX9_kind (Cond.code yX9_kind cX9_kind 3 (some .int) :: bw) 0 0 D cA tS A [.ref (h 0), .int x1, .int x2] (wM cA h σ wd ++ F) (some (.int r0)) (wM cA h σ wd ++ F) := by
  refine ct_of (by decide +kernel) (Nat.le_of_ble_eq_true rfl) ?_
  intro p e s m below meth c E hw ls hl
  replace E : Ev p cX9_kind 3 (some .int) RX9 (Cond.code yX9_kind cX9_kind 3 (some .int) :: bw) D cA tS A s m _ meth c := E
  replace hl : lv_has ls 3 [(0, .ref (h 0)), (1, .int x1), (2, .int x2)] := hl
  have hx := E.1.1
  have hb := E.1.2.1
  unfold f_X9_kind at hM
  refine lv_aload_n hx hb dX9_kind_0 rfl (lv_at hl 0 rfl) ?_
  refine q_get (C := RX9) (T := TX9) (N := 17) (ci := 9) E (fun w h => List.mem_cons_of_mem _ (inX9 w h)) hw 0 rfl rfl 0 (by decide) (List.mem_cons_of_mem _ tb_1157) (v := .ref (h 1)) rfl dX9_kind_1 ?_
  refine lv_bipush (v := 20) hx hb dX9_kind_4 (by decide) ?_
  refine lv_bipush (v := 6) hx hb dX9_kind_6 (by decide) ?_
  refine lv_iload_n hx hb dX9_kind_8 rfl (lv_at hl 1 rfl) ?_
  refine lv_imul hx hb dX9_kind_9 ?_
  refine lv_iadd hx hb dX9_kind_10 ?_
  refine lv_iload_n hx hb dX9_kind_11 rfl (lv_at hl 2 rfl) ?_
  refine lv_iadd hx hb dX9_kind_12 ?_
  obtain ⟨g1, hM⟩ := g_some hM
  refine q_ald E hw 1 (n := 4619) rfl g1 (x := (σ 1 (ix ((20 + (6 * x1)) + x2)))) rfl dX9_kind_13 ?_
  cases hM
  exact q_reti E hw dX9_kind_14
def f_X9_ofKind    (x1 : Int32) (x2 : Int32) (σ : Sg) (wd : Int64) : Option (Int32) := (f_X9_ticket x1 0 σ wd).bind (fun p1 => (f_X9_kind p1 x2 σ wd).bind (fun p3 => some p3))
set_option maxRecDepth 100000 in
set_option maxHeartbeats 4000000 in
theorem c_X9_ofKind (l : Launch) (D : va_G) (cA : Nat → ClassId) (tS : Nat → Nat) (A : Nat → Prop) (h : Nat → Nat) (F : va_W) (x1 : Int32) (x2 : Int32) (σ : Sg) (wd : Int64) (r0 : Int32) (hM : f_X9_ofKind x1 x2 σ wd = some r0) : Ct l yX9_ofKind (Cond.code yX9_ofKind cX9_ofKind 3 (some .int) :: bw) 1 22 D cA tS A [.ref (h 0), .int x1, .int x2] (wM cA h σ wd ++ F) (some (.int r0)) (wM cA h σ wd ++ F) := by
  refine ct_of (by decide +kernel) (Nat.le_of_ble_eq_true rfl) ?_
  intro p e s m below meth c E hw ls hl
  replace E : Ev p cX9_ofKind 3 (some .int) RX9 (Cond.code yX9_ofKind cX9_ofKind 3 (some .int) :: bw) D cA tS A s m _ meth c := E
  replace hl : lv_has ls 3 [(0, .ref (h 0)), (1, .int x1), (2, .int x2)] := hl
  have hx := E.1.1
  have hb := E.1.2.1
  unfold f_X9_ofKind at hM
  refine lv_aload_n hx hb dX9_ofKind_0 rfl (lv_at hl 0 rfl) ?_
  refine lv_aload_n hx hb dX9_ofKind_1 rfl (lv_at hl 0 rfl) ?_
  refine lv_iload_n hx hb dX9_ofKind_2 rfl (lv_at hl 1 rfl) ?_
  refine lv_iconst (v := 0) hx hb dX9_ofKind_3 (by decide) ?_
  obtain ⟨p1, h2, hM⟩ := b_some hM
  refine q_cv (As := [.int x1, .int 0]) (rest := [.ref (h 0)]) E hw hl (c_X9_ticket l D cA tS A h F x1 0 σ wd p1 h2) 2 (bwV bw_c tb_1253 tb_1255 tb_52 tb_112 tb_1256) rfl (by decide +kernel) ⟨Nat.le_of_ble_eq_true rfl, Nat.le_of_ble_eq_true rfl⟩ 0 9 (T := TX9) (N := 17) rfl rfl rfl rfl (Nat.le_of_ble_eq_true rfl) ⟨Nat.zero_le _, Nat.zero_le _⟩ dX9_ofKind_4 (fun H locs hw => ?_)
  refine lv_iload_n hx hb dX9_ofKind_7 rfl (lv_at hl 2 rfl) ?_
  obtain ⟨p3, h4, hM⟩ := b_some hM
  refine q_cv (As := [.int p1, .int x2]) (rest := []) E hw hl (c_X9_kind l D cA tS A h F p1 x2 σ wd p3 h4) 2 (bwV bw_c tb_1419 tb_1421 tb_75 tb_112 tb_1422) rfl (by decide +kernel) ⟨Nat.le_of_ble_eq_true rfl, Nat.le_of_ble_eq_true rfl⟩ 0 9 (T := TX9) (N := 17) rfl rfl rfl rfl (Nat.le_of_ble_eq_true rfl) ⟨Nat.zero_le _, Nat.zero_le _⟩ dX9_ofKind_8 (fun H locs hw => ?_)
  cases hM
  exact q_reti E hw dX9_ofKind_11
def f_X9_isTicket    (x1 : Int32) (σ : Sg) (wd : Int64) : Option (Int32) := (f_X9_isBetween x1 0 ((σ 1 (ix 56)) - 1)).bind (fun p1 => if bz p1 then some p1 else none)
set_option maxRecDepth 100000 in
set_option maxHeartbeats 4000000 in
theorem c_X9_isTicket (l : Launch) (D : va_G) (cA : Nat → ClassId) (tS : Nat → Nat) (A : Nat → Prop) (h : Nat → Nat) (F : va_W) (x1 : Int32) (σ : Sg) (wd : Int64) (r0 : Int32) (hM : f_X9_isTicket x1 σ wd = some r0) : Ct l yX9_isTicket (Cond.code yX9_isTicket cX9_isTicket 2 (some .boolean) :: bw) 1 22 D cA tS A [.ref (h 0), .int x1] (wM cA h σ wd ++ F) (some (.int r0)) (wM cA h σ wd ++ F) := by
  refine ct_of (by decide +kernel) (Nat.le_of_ble_eq_true rfl) ?_
  intro p e s m below meth c E hw ls hl
  replace E : Ev p cX9_isTicket 2 (some .boolean) RX9 (Cond.code yX9_isTicket cX9_isTicket 2 (some .boolean) :: bw) D cA tS A s m _ meth c := E
  replace hl : lv_has ls 2 [(0, .ref (h 0)), (1, .int x1)] := hl
  have hx := E.1.1
  have hb := E.1.2.1
  unfold f_X9_isTicket at hM
  refine lv_iload_n hx hb dX9_isTicket_0 rfl (lv_at hl 1 rfl) ?_
  refine lv_iconst (v := 0) hx hb dX9_isTicket_1 (by decide) ?_
  refine lv_aload_n hx hb dX9_isTicket_2 rfl (lv_at hl 0 rfl) ?_
  refine q_get (C := RX9) (T := TX9) (N := 17) (ci := 9) E (fun w h => List.mem_cons_of_mem _ (inX9 w h)) hw 0 rfl rfl 0 (by decide) (List.mem_cons_of_mem _ tb_1157) (v := .ref (h 1)) rfl dX9_isTicket_3 ?_
  refine lv_bipush (v := 56) hx hb dX9_isTicket_6 (by decide) ?_
  refine q_ald E hw 1 (n := 4619) rfl (by decide +kernel) (x := (σ 1 (ix 56))) rfl dX9_isTicket_8 ?_
  refine lv_iconst (v := 1) hx hb dX9_isTicket_9 (by decide) ?_
  refine lv_isub hx hb dX9_isTicket_10 ?_
  obtain ⟨p1, h2, hM⟩ := b_some hM
  refine q_cs (As := [.int x1, .int 0, .int ((σ 1 (ix 56)) - 1)]) (rest := []) E hw hl (c_X9_isBetween l D cA tS A (wM cA h σ wd ++ F) x1 0 ((σ 1 (ix 56)) - 1) p1 h2) 3 (bwS bw_c tb_1224 tb_1225 tb_112 tb_1226) rfl (by decide +kernel) ⟨Nat.le_of_ble_eq_true rfl, Nat.le_of_ble_eq_true rfl⟩ rfl rfl (Nat.le_of_ble_eq_true rfl) ⟨Nat.zero_le _, Nat.zero_le _⟩ dX9_isTicket_11 (fun H locs hw => ?_)
  obtain ⟨g3, hM⟩ := g_some hM
  cases hM
  exact q_retz E hw g3 dX9_isTicket_14
def f_X9_isKind    (x1 : Int32) (σ : Sg) (wd : Int64) : Option (Int32) := (f_X9_isBetween x1 0 ((σ 1 (ix 19)) - 1)).bind (fun p1 => if bz p1 then some p1 else none)
set_option maxRecDepth 100000 in
set_option maxHeartbeats 4000000 in
theorem c_X9_isKind (l : Launch) (D : va_G) (cA : Nat → ClassId) (tS : Nat → Nat) (A : Nat → Prop) (h : Nat → Nat) (F : va_W) (x1 : Int32) (σ : Sg) (wd : Int64) (r0 : Int32) (hM : f_X9_isKind x1 σ wd = some r0) : Ct l yX9_isKind (Cond.code yX9_isKind cX9_isKind 2 (some .boolean) :: bw) 1 22 D cA tS A [.ref (h 0), .int x1] (wM cA h σ wd ++ F) (some (.int r0)) (wM cA h σ wd ++ F) := by
  refine ct_of (by decide +kernel) (Nat.le_of_ble_eq_true rfl) ?_
  intro p e s m below meth c E hw ls hl
  replace E : Ev p cX9_isKind 2 (some .boolean) RX9 (Cond.code yX9_isKind cX9_isKind 2 (some .boolean) :: bw) D cA tS A s m _ meth c := E
  replace hl : lv_has ls 2 [(0, .ref (h 0)), (1, .int x1)] := hl
  have hx := E.1.1
  have hb := E.1.2.1
  unfold f_X9_isKind at hM
  refine lv_iload_n hx hb dX9_isKind_0 rfl (lv_at hl 1 rfl) ?_
  refine lv_iconst (v := 0) hx hb dX9_isKind_1 (by decide) ?_
  refine lv_aload_n hx hb dX9_isKind_2 rfl (lv_at hl 0 rfl) ?_
  refine q_get (C := RX9) (T := TX9) (N := 17) (ci := 9) E (fun w h => List.mem_cons_of_mem _ (inX9 w h)) hw 0 rfl rfl 0 (by decide) (List.mem_cons_of_mem _ tb_1157) (v := .ref (h 1)) rfl dX9_isKind_3 ?_
  refine lv_bipush (v := 19) hx hb dX9_isKind_6 (by decide) ?_
  refine q_ald E hw 1 (n := 4619) rfl (by decide +kernel) (x := (σ 1 (ix 19))) rfl dX9_isKind_8 ?_
  refine lv_iconst (v := 1) hx hb dX9_isKind_9 (by decide) ?_
  refine lv_isub hx hb dX9_isKind_10 ?_
  obtain ⟨p1, h2, hM⟩ := b_some hM
  refine q_cs (As := [.int x1, .int 0, .int ((σ 1 (ix 19)) - 1)]) (rest := []) E hw hl (c_X9_isBetween l D cA tS A (wM cA h σ wd ++ F) x1 0 ((σ 1 (ix 19)) - 1) p1 h2) 3 (bwS bw_c tb_1224 tb_1225 tb_112 tb_1226) rfl (by decide +kernel) ⟨Nat.le_of_ble_eq_true rfl, Nat.le_of_ble_eq_true rfl⟩ rfl rfl (Nat.le_of_ble_eq_true rfl) ⟨Nat.zero_le _, Nat.zero_le _⟩ dX9_isKind_11 (fun H locs hw => ?_)
  obtain ⟨g3, hM⟩ := g_some hM
  cases hM
  exact q_retz E hw g3 dX9_isKind_14
def f_X9_isLevel    (x0 : Int32) : Option (Int32) := (f_X9_isBetween x0 0 3).bind (fun p1 => if bz p1 then some p1 else none)
set_option maxRecDepth 100000 in
set_option maxHeartbeats 4000000 in
theorem c_X9_isLevel (l : Launch) (D : va_G) (cA : Nat → ClassId) (tS : Nat → Nat) (A : Nat → Prop) (F : va_W) (x0 : Int32) (r0 : Int32) (hM : f_X9_isLevel x0 = some r0) : Ct l yX9_isLevel (Cond.code yX9_isLevel cX9_isLevel 1 (some .boolean) :: bw) 1 22 D cA tS A [.int x0] F (some (.int r0)) F := by
  refine ct_of (by decide +kernel) (Nat.le_of_ble_eq_true rfl) ?_
  intro p e s m below meth c E hw ls hl
  replace E : Ev p cX9_isLevel 1 (some .boolean) RX9 (Cond.code yX9_isLevel cX9_isLevel 1 (some .boolean) :: bw) D cA tS A s m _ meth c := E
  replace hl : lv_has ls 1 [(0, .int x0)] := hl
  have hx := E.1.1
  have hb := E.1.2.1
  unfold f_X9_isLevel at hM
  refine lv_iload_n hx hb dX9_isLevel_0 rfl (lv_at hl 0 rfl) ?_
  refine lv_iconst (v := 0) hx hb dX9_isLevel_1 (by decide) ?_
  refine lv_iconst (v := 3) hx hb dX9_isLevel_2 (by decide) ?_
  obtain ⟨p1, h2, hM⟩ := b_some hM
  refine q_cs (As := [.int x0, .int 0, .int 3]) (rest := []) E hw hl (c_X9_isBetween l D cA tS A F x0 0 3 p1 h2) 3 (bwS bw_c tb_1224 tb_1225 tb_112 tb_1226) rfl (by decide +kernel) ⟨Nat.le_of_ble_eq_true rfl, Nat.le_of_ble_eq_true rfl⟩ rfl rfl (Nat.le_of_ble_eq_true rfl) ⟨Nat.zero_le _, Nat.zero_le _⟩ dX9_isLevel_3 (fun H locs hw => ?_)
  obtain ⟨g3, hM⟩ := g_some hM
  cases hM
  exact q_retz E hw g3 dX9_isLevel_6
def f_X9_isDay    (x0 : Int32) : Option (Int32) := (f_X9_isBetween x0 0 6).bind (fun p1 => if bz p1 then some p1 else none)
set_option maxRecDepth 100000 in
set_option maxHeartbeats 4000000 in
theorem c_X9_isDay (l : Launch) (D : va_G) (cA : Nat → ClassId) (tS : Nat → Nat) (A : Nat → Prop) (F : va_W) (x0 : Int32) (r0 : Int32) (hM : f_X9_isDay x0 = some r0) : Ct l yX9_isDay (Cond.code yX9_isDay cX9_isDay 1 (some .boolean) :: bw) 1 22 D cA tS A [.int x0] F (some (.int r0)) F := by
  refine ct_of (by decide +kernel) (Nat.le_of_ble_eq_true rfl) ?_
  intro p e s m below meth c E hw ls hl
  replace E : Ev p cX9_isDay 1 (some .boolean) RX9 (Cond.code yX9_isDay cX9_isDay 1 (some .boolean) :: bw) D cA tS A s m _ meth c := E
  replace hl : lv_has ls 1 [(0, .int x0)] := hl
  have hx := E.1.1
  have hb := E.1.2.1
  unfold f_X9_isDay at hM
  refine lv_iload_n hx hb dX9_isDay_0 rfl (lv_at hl 0 rfl) ?_
  refine lv_iconst (v := 0) hx hb dX9_isDay_1 (by decide) ?_
  refine lv_bipush (v := 6) hx hb dX9_isDay_2 (by decide) ?_
  obtain ⟨p1, h2, hM⟩ := b_some hM
  refine q_cs (As := [.int x0, .int 0, .int 6]) (rest := []) E hw hl (c_X9_isBetween l D cA tS A F x0 0 6 p1 h2) 3 (bwS bw_c tb_1224 tb_1225 tb_112 tb_1226) rfl (by decide +kernel) ⟨Nat.le_of_ble_eq_true rfl, Nat.le_of_ble_eq_true rfl⟩ rfl rfl (Nat.le_of_ble_eq_true rfl) ⟨Nat.zero_le _, Nat.zero_le _⟩ dX9_isDay_4 (fun H locs hw => ?_)
  obtain ⟨g3, hM⟩ := g_some hM
  cases hM
  exact q_retz E hw g3 dX9_isDay_7
def f_X9_is    (x1 : Int32) (x2 : Int32) (σ : Sg) (wd : Int64) : Option (Int32) := (f_X9_ticket x1 9 σ wd).bind (fun p1 => (if p1 = x2 then some 1 else some 0))
set_option maxRecDepth 100000 in
set_option maxHeartbeats 4000000 in
theorem c_X9_is (l : Launch) (D : va_G) (cA : Nat → ClassId) (tS : Nat → Nat) (A : Nat → Prop) (h : Nat → Nat) (F : va_W) (x1 : Int32) (x2 : Int32) (σ : Sg) (wd : Int64) (r0 : Int32) (hM : f_X9_is x1 x2 σ wd = some r0) : Ct l yX9_is (Cond.code yX9_is cX9_is 3 (some .boolean) :: bw) 1 22 D cA tS A [.ref (h 0), .int x1, .int x2] (wM cA h σ wd ++ F) (some (.int r0)) (wM cA h σ wd ++ F) := by
  refine ct_of (by decide +kernel) (Nat.le_of_ble_eq_true rfl) ?_
  intro p e s m below meth c E hw ls hl
  replace E : Ev p cX9_is 3 (some .boolean) RX9 (Cond.code yX9_is cX9_is 3 (some .boolean) :: bw) D cA tS A s m _ meth c := E
  replace hl : lv_has ls 3 [(0, .ref (h 0)), (1, .int x1), (2, .int x2)] := hl
  have hx := E.1.1
  have hb := E.1.2.1
  unfold f_X9_is at hM
  refine lv_aload_n hx hb dX9_is_0 rfl (lv_at hl 0 rfl) ?_
  refine lv_iload_n hx hb dX9_is_1 rfl (lv_at hl 1 rfl) ?_
  refine lv_bipush (v := 9) hx hb dX9_is_2 (by decide) ?_
  obtain ⟨p1, h2, hM⟩ := b_some hM
  refine q_cv (As := [.int x1, .int 9]) (rest := []) E hw hl (c_X9_ticket l D cA tS A h F x1 9 σ wd p1 h2) 2 (bwV bw_c tb_1253 tb_1255 tb_52 tb_112 tb_1256) rfl (by decide +kernel) ⟨Nat.le_of_ble_eq_true rfl, Nat.le_of_ble_eq_true rfl⟩ 0 9 (T := TX9) (N := 17) rfl rfl rfl rfl (Nat.le_of_ble_eq_true rfl) ⟨Nat.zero_le _, Nat.zero_le _⟩ dX9_is_4 (fun H locs hw => ?_)
  refine lv_iload_n hx hb dX9_is_7 rfl (lv_at hl 2 rfl) ?_
  refine lv_icmp_ne (tgt := 15) hx hb dX9_is_8 (by decide) (fun c3 => ?_) (fun c3 => ?_)
  · replace hM := i_neg hM c3
    refine lv_iconst (v := 0) hx hb dX9_is_15 (by decide) ?_
    cases hM
    exact q_retz E hw (by decide) dX9_is_16
  · replace hM := i_pos hM c3
    refine lv_iconst (v := 1) hx hb dX9_is_11 (by decide) ?_
    refine lv_goto (tgt := 16) hx hb dX9_is_12 (by decide) ?_
    cases hM
    exact q_retz E hw (by decide) dX9_is_16
def f_X9_isAlive    (x1 : Int32) (σ : Sg) (wd : Int64) : Option (Int32) := (f_X9_ticket x1 9 σ wd).bind (fun p1 => (if 2 < p1 then some 0 else some 1))
set_option maxRecDepth 100000 in
set_option maxHeartbeats 4000000 in
theorem c_X9_isAlive (l : Launch) (D : va_G) (cA : Nat → ClassId) (tS : Nat → Nat) (A : Nat → Prop) (h : Nat → Nat) (F : va_W) (x1 : Int32) (σ : Sg) (wd : Int64) (r0 : Int32) (hM : f_X9_isAlive x1 σ wd = some r0) : Ct l yX9_isAlive (Cond.code yX9_isAlive cX9_isAlive 2 (some .boolean) :: bw) 1 22 D cA tS A [.ref (h 0), .int x1] (wM cA h σ wd ++ F) (some (.int r0)) (wM cA h σ wd ++ F) := by
  refine ct_of (by decide +kernel) (Nat.le_of_ble_eq_true rfl) ?_
  intro p e s m below meth c E hw ls hl
  replace E : Ev p cX9_isAlive 2 (some .boolean) RX9 (Cond.code yX9_isAlive cX9_isAlive 2 (some .boolean) :: bw) D cA tS A s m _ meth c := E
  replace hl : lv_has ls 2 [(0, .ref (h 0)), (1, .int x1)] := hl
  have hx := E.1.1
  have hb := E.1.2.1
  unfold f_X9_isAlive at hM
  refine lv_aload_n hx hb dX9_isAlive_0 rfl (lv_at hl 0 rfl) ?_
  refine lv_iload_n hx hb dX9_isAlive_1 rfl (lv_at hl 1 rfl) ?_
  refine lv_bipush (v := 9) hx hb dX9_isAlive_2 (by decide) ?_
  obtain ⟨p1, h2, hM⟩ := b_some hM
  refine q_cv (As := [.int x1, .int 9]) (rest := []) E hw hl (c_X9_ticket l D cA tS A h F x1 9 σ wd p1 h2) 2 (bwV bw_c tb_1253 tb_1255 tb_52 tb_112 tb_1256) rfl (by decide +kernel) ⟨Nat.le_of_ble_eq_true rfl, Nat.le_of_ble_eq_true rfl⟩ 0 9 (T := TX9) (N := 17) rfl rfl rfl rfl (Nat.le_of_ble_eq_true rfl) ⟨Nat.zero_le _, Nat.zero_le _⟩ dX9_isAlive_4 (fun H locs hw => ?_)
  refine lv_iconst (v := 2) hx hb dX9_isAlive_7 (by decide) ?_
  refine lv_icmp_gt (tgt := 15) hx hb dX9_isAlive_8 (by decide) (fun c3 => ?_) (fun c3 => ?_)
  · replace hM := i_pos hM c3
    refine lv_iconst (v := 0) hx hb dX9_isAlive_15 (by decide) ?_
    cases hM
    exact q_retz E hw (by decide) dX9_isAlive_16
  · replace hM := i_neg hM c3
    refine lv_iconst (v := 1) hx hb dX9_isAlive_11 (by decide) ?_
    refine lv_goto (tgt := 16) hx hb dX9_isAlive_12 (by decide) ?_
    cases hM
    exact q_retz E hw (by decide) dX9_isAlive_16
def f_X9_log    (x1 : Int32) (x2 : Int32) (x3 : Int32) (x4 : Int32) (σ : Sg) (wd : Int64) : Option (Sg) := (if (σ 1 (ix 58)) = 600 then some σ else if ib (2219 + (4 * (σ 1 (ix 58)))) 4619 then if ib ((2219 + (4 * (σ 1 (ix 58)))) + 1) 4619 then if ib ((2219 + (4 * (σ 1 (ix 58)))) + 2) 4619 then if ib ((2219 + (4 * (σ 1 (ix 58)))) + 3) 4619 then some (up (up (up (up (up σ 1 (ix (2219 + (4 * (σ 1 (ix 58))))) x1) 1 (ix ((2219 + (4 * (σ 1 (ix 58)))) + 1)) x2) 1 (ix ((2219 + (4 * (σ 1 (ix 58)))) + 2)) x3) 1 (ix ((2219 + (4 * (σ 1 (ix 58)))) + 3)) x4) 1 (ix 58) (((up (up (up (up σ 1 (ix (2219 + (4 * (σ 1 (ix 58))))) x1) 1 (ix ((2219 + (4 * (σ 1 (ix 58)))) + 1)) x2) 1 (ix ((2219 + (4 * (σ 1 (ix 58)))) + 2)) x3) 1 (ix ((2219 + (4 * (σ 1 (ix 58)))) + 3)) x4) 1 (ix 58)) + 1)) else none else none else none else none)
set_option maxRecDepth 100000 in
set_option maxHeartbeats 4000000 in
theorem c_X9_log (l : Launch) (D : va_G) (cA : Nat → ClassId) (tS : Nat → Nat) (A : Nat → Prop) (h : Nat → Nat) (F : va_W) (x1 : Int32) (x2 : Int32) (x3 : Int32) (x4 : Int32) (σ : Sg) (wd : Int64) (s0 : Sg) (hM : f_X9_log x1 x2 x3 x4 σ wd = some s0) : Ct l yX9_log (Cond.code yX9_log cX9_log 6 none :: bw) 0 0 D cA tS A [.ref (h 0), .int x1, .int x2, .int x3, .int x4] (wM cA h σ wd ++ F) none (wM cA h s0 wd ++ F) := by
  refine ct_of (by decide +kernel) (Nat.le_of_ble_eq_true rfl) ?_
  intro p e s m below meth c E hw ls hl
  replace E : Ev p cX9_log 6 none RX9 (Cond.code yX9_log cX9_log 6 none :: bw) D cA tS A s m _ meth c := E
  replace hl : lv_has ls 6 [(0, .ref (h 0)), (1, .int x1), (2, .int x2), (3, .int x3), (4, .int x4)] := hl
  have hx := E.1.1
  have hb := E.1.2.1
  unfold f_X9_log at hM
  refine lv_aload_n hx hb dX9_log_0 rfl (lv_at hl 0 rfl) ?_
  refine q_get (C := RX9) (T := TX9) (N := 17) (ci := 9) E (fun w h => List.mem_cons_of_mem _ (inX9 w h)) hw 0 rfl rfl 0 (by decide) (List.mem_cons_of_mem _ tb_1157) (v := .ref (h 1)) rfl dX9_log_1 ?_
  refine lv_bipush (v := 58) hx hb dX9_log_4 (by decide) ?_
  refine q_ald E hw 1 (n := 4619) rfl (by decide +kernel) (x := (σ 1 (ix 58))) rfl dX9_log_6 ?_
  refine lv_sipush (v := 600) hx hb dX9_log_7 (by decide) ?_
  refine lv_icmp_ne (tgt := 14) hx hb dX9_log_10 (by decide) (fun c1 => ?_) (fun c1 => ?_)
  · replace hM := i_neg hM c1
    refine lv_sipush (v := 2219) hx hb dX9_log_14 (by decide) ?_
    refine lv_iconst (v := 4) hx hb dX9_log_17 (by decide) ?_
    refine lv_aload_n hx hb dX9_log_18 rfl (lv_at hl 0 rfl) ?_
    refine q_get (C := RX9) (T := TX9) (N := 17) (ci := 9) E (fun w h => List.mem_cons_of_mem _ (inX9 w h)) hw 0 rfl rfl 0 (by decide) (List.mem_cons_of_mem _ tb_1157) (v := .ref (h 1)) rfl dX9_log_19 ?_
    refine lv_bipush (v := 58) hx hb dX9_log_22 (by decide) ?_
    refine q_ald E hw 1 (n := 4619) rfl (by decide +kernel) (x := (σ 1 (ix 58))) rfl dX9_log_24 ?_
    refine lv_imul hx hb dX9_log_25 ?_
    refine lv_iadd hx hb dX9_log_26 ?_
    refine lv_istore (lv' := [(5, .int (2219 + (4 * (σ 1 (ix 58))))), (0, .ref (h 0)), (1, .int x1), (2, .int x2), (3, .int x3), (4, .int x4)]) hx hb dX9_log_27 hl (by decide) rfl (fun ls hl => ?_)
    refine lv_aload_n hx hb dX9_log_29 rfl (lv_at hl 1 rfl) ?_
    refine q_get (C := RX9) (T := TX9) (N := 17) (ci := 9) E (fun w h => List.mem_cons_of_mem _ (inX9 w h)) hw 0 rfl rfl 0 (by decide) (List.mem_cons_of_mem _ tb_1157) (v := .ref (h 1)) rfl dX9_log_30 ?_
    refine lv_iload hx hb dX9_log_33 (lv_at hl 0 rfl) ?_
    refine lv_iload_n hx hb dX9_log_35 rfl (lv_at hl 2 rfl) ?_
    obtain ⟨g2, hM⟩ := g_some hM
    refine q_ast E hw 1 (n := 4619) rfl g2 (wM cA h (up σ 1 (ix (2219 + (4 * (σ 1 (ix 58))))) x1) wd ++ F) st_M_1 dX9_log_36 (fun H locs hw => ?_)
    refine lv_aload_n hx hb dX9_log_37 rfl (lv_at hl 1 rfl) ?_
    refine q_get (C := RX9) (T := TX9) (N := 17) (ci := 9) E (fun w h => List.mem_cons_of_mem _ (inX9 w h)) hw 0 rfl rfl 0 (by decide) (List.mem_cons_of_mem _ tb_1157) (v := .ref (h 1)) rfl dX9_log_38 ?_
    refine lv_iload hx hb dX9_log_41 (lv_at hl 0 rfl) ?_
    refine lv_iconst (v := 1) hx hb dX9_log_43 (by decide) ?_
    refine lv_iadd hx hb dX9_log_44 ?_
    refine lv_iload_n hx hb dX9_log_45 rfl (lv_at hl 3 rfl) ?_
    obtain ⟨g3, hM⟩ := g_some hM
    refine q_ast E hw 1 (n := 4619) rfl g3 (wM cA h (up (up σ 1 (ix (2219 + (4 * (σ 1 (ix 58))))) x1) 1 (ix ((2219 + (4 * (σ 1 (ix 58)))) + 1)) x2) wd ++ F) st_M_1 dX9_log_46 (fun H locs hw => ?_)
    refine lv_aload_n hx hb dX9_log_47 rfl (lv_at hl 1 rfl) ?_
    refine q_get (C := RX9) (T := TX9) (N := 17) (ci := 9) E (fun w h => List.mem_cons_of_mem _ (inX9 w h)) hw 0 rfl rfl 0 (by decide) (List.mem_cons_of_mem _ tb_1157) (v := .ref (h 1)) rfl dX9_log_48 ?_
    refine lv_iload hx hb dX9_log_51 (lv_at hl 0 rfl) ?_
    refine lv_iconst (v := 2) hx hb dX9_log_53 (by decide) ?_
    refine lv_iadd hx hb dX9_log_54 ?_
    refine lv_iload_n hx hb dX9_log_55 rfl (lv_at hl 4 rfl) ?_
    obtain ⟨g4, hM⟩ := g_some hM
    refine q_ast E hw 1 (n := 4619) rfl g4 (wM cA h (up (up (up σ 1 (ix (2219 + (4 * (σ 1 (ix 58))))) x1) 1 (ix ((2219 + (4 * (σ 1 (ix 58)))) + 1)) x2) 1 (ix ((2219 + (4 * (σ 1 (ix 58)))) + 2)) x3) wd ++ F) st_M_1 dX9_log_56 (fun H locs hw => ?_)
    refine lv_aload_n hx hb dX9_log_57 rfl (lv_at hl 1 rfl) ?_
    refine q_get (C := RX9) (T := TX9) (N := 17) (ci := 9) E (fun w h => List.mem_cons_of_mem _ (inX9 w h)) hw 0 rfl rfl 0 (by decide) (List.mem_cons_of_mem _ tb_1157) (v := .ref (h 1)) rfl dX9_log_58 ?_
    refine lv_iload hx hb dX9_log_61 (lv_at hl 0 rfl) ?_
    refine lv_iconst (v := 3) hx hb dX9_log_63 (by decide) ?_
    refine lv_iadd hx hb dX9_log_64 ?_
    refine lv_iload hx hb dX9_log_65 (lv_at hl 5 rfl) ?_
    obtain ⟨g5, hM⟩ := g_some hM
    refine q_ast E hw 1 (n := 4619) rfl g5 (wM cA h (up (up (up (up σ 1 (ix (2219 + (4 * (σ 1 (ix 58))))) x1) 1 (ix ((2219 + (4 * (σ 1 (ix 58)))) + 1)) x2) 1 (ix ((2219 + (4 * (σ 1 (ix 58)))) + 2)) x3) 1 (ix ((2219 + (4 * (σ 1 (ix 58)))) + 3)) x4) wd ++ F) st_M_1 dX9_log_67 (fun H locs hw => ?_)
    refine lv_aload_n hx hb dX9_log_68 rfl (lv_at hl 1 rfl) ?_
    refine q_get (C := RX9) (T := TX9) (N := 17) (ci := 9) E (fun w h => List.mem_cons_of_mem _ (inX9 w h)) hw 0 rfl rfl 0 (by decide) (List.mem_cons_of_mem _ tb_1157) (v := .ref (h 1)) rfl dX9_log_69 ?_
    refine lv_bipush (v := 58) hx hb dX9_log_72 (by decide) ?_
    refine lv_dup2_11 hx hb dX9_log_74 rfl rfl ?_
    refine q_ald E hw 1 (n := 4619) rfl (by decide +kernel) (x := ((up (up (up (up σ 1 (ix (2219 + (4 * (σ 1 (ix 58))))) x1) 1 (ix ((2219 + (4 * (σ 1 (ix 58)))) + 1)) x2) 1 (ix ((2219 + (4 * (σ 1 (ix 58)))) + 2)) x3) 1 (ix ((2219 + (4 * (σ 1 (ix 58)))) + 3)) x4) 1 (ix 58))) rfl dX9_log_75 ?_
    refine lv_iconst (v := 1) hx hb dX9_log_76 (by decide) ?_
    refine lv_iadd hx hb dX9_log_77 ?_
    refine q_ast E hw 1 (n := 4619) rfl (by decide +kernel) (wM cA h (up (up (up (up (up σ 1 (ix (2219 + (4 * (σ 1 (ix 58))))) x1) 1 (ix ((2219 + (4 * (σ 1 (ix 58)))) + 1)) x2) 1 (ix ((2219 + (4 * (σ 1 (ix 58)))) + 2)) x3) 1 (ix ((2219 + (4 * (σ 1 (ix 58)))) + 3)) x4) 1 (ix 58) (((up (up (up (up σ 1 (ix (2219 + (4 * (σ 1 (ix 58))))) x1) 1 (ix ((2219 + (4 * (σ 1 (ix 58)))) + 1)) x2) 1 (ix ((2219 + (4 * (σ 1 (ix 58)))) + 2)) x3) 1 (ix ((2219 + (4 * (σ 1 (ix 58)))) + 3)) x4) 1 (ix 58)) + 1)) wd ++ F) st_M_1 dX9_log_78 (fun H locs hw => ?_)
    cases hM
    exact q_retv E hw dX9_log_79
  · replace hM := i_pos hM c1
    cases hM
    exact q_retv E hw dX9_log_13
def f_X9_areHours_12    (x0 : Int32) (x1 : Int32) : Option (Int32) := (f_X9_isBetween x0 0 1439).bind (fun p2 => (if p2 = 0 then some 0 else (f_X9_isBetween x1 (x0 + 1) 1440).bind (fun p5 => (if p5 = 0 then some 0 else some 1))))
set_option maxRecDepth 100000 in
set_option maxHeartbeats 4000000 in
theorem s_X9_areHours_12 (l : Launch) (D : va_G) (cA : Nat → ClassId) (tS : Nat → Nat) (A : Nat → Prop) (F : va_W) {p : Program} {e : Env} {s : State} {m : MethodId} {args : Array Value} {below : List Frame} {meth : Method} {c : Code} (E : Ev p cX9_areHours 3 (some .boolean) RX9 (Cond.code yX9_areHours cX9_areHours 3 (some .boolean) :: bw) D cA tS A s m args meth c) : ∀ (x0 : Int32) (x1 : Int32) (r0 : Int32) (hM : f_X9_areHours_12 x0 x1 = some r0) (H : Heap) (locs : List Loc) (hw : Wd D A F s.heap H locs) (ls : Array Slot) (hl : lv_has ls 3 [(0, .int x0), (1, .int x1)]), W p l e ({ frames := 1, cells := 0, slots := 0, locals := 22 } : Room) s m args below meth c H locs 0 0 (MQ below (QW D A (some (.int r0)) F) args s 0 0 A) (F0 m 12 ls []) := by
  have hx := E.1.1
  have hb := E.1.2.1
  intro x0 x1 r0 hM H locs hw ls hl
  unfold f_X9_areHours_12 at hM
  refine lv_iconst (v := 0) hx hb dX9_areHours_12 (by decide) ?_
  refine lv_istore_n (lv' := [(2, .int 0), (0, .int x0), (1, .int x1)]) hx hb dX9_areHours_13 rfl hl (by decide) rfl (fun ls hl => ?_)
  refine lv_iload_n hx hb dX9_areHours_14 rfl (lv_at hl 0 rfl) ?_
  refine lv_if_ne (tgt := 42) hx hb dX9_areHours_15 (by decide) (fun c1 => ?_) (fun c1 => ?_)
  · first | exact absurd (by decide) c1 | exact absurd c1 (by decide)
  · refine lv_iload_n hx hb dX9_areHours_18 rfl (lv_at hl 1 rfl) ?_
    refine lv_iconst (v := 0) hx hb dX9_areHours_19 (by decide) ?_
    refine lv_sipush (v := 1439) hx hb dX9_areHours_20 (by decide) ?_
    obtain ⟨p2, h3, hM⟩ := b_some hM
    refine q_cs (As := [.int x0, .int 0, .int 1439]) (rest := []) E hw hl (c_X9_isBetween l D cA tS A F x0 0 1439 p2 h3) 3 (bwS bw_c tb_1224 tb_1225 tb_112 tb_1226) rfl (by decide +kernel) ⟨Nat.le_of_ble_eq_true rfl, Nat.le_of_ble_eq_true rfl⟩ rfl rfl (Nat.le_of_ble_eq_true rfl) ⟨Nat.zero_le _, Nat.zero_le _⟩ dX9_areHours_23 (fun H locs hw => ?_)
    refine lv_if_eq (tgt := 46) hx hb dX9_areHours_26 (by decide) (fun c4 => ?_) (fun c4 => ?_)
    · replace hM := i_pos hM c4
      refine lv_iconst (v := 0) hx hb dX9_areHours_46 (by decide) ?_
      cases hM
      exact q_retz E hw (by decide) dX9_areHours_47
    · replace hM := i_neg hM c4
      refine lv_iload_n hx hb dX9_areHours_29 rfl (lv_at hl 2 rfl) ?_
      refine lv_iload_n hx hb dX9_areHours_30 rfl (lv_at hl 1 rfl) ?_
      refine lv_iconst (v := 1) hx hb dX9_areHours_31 (by decide) ?_
      refine lv_iadd hx hb dX9_areHours_32 ?_
      refine lv_sipush (v := 1440) hx hb dX9_areHours_33 (by decide) ?_
      obtain ⟨p5, h6, hM⟩ := b_some hM
      refine q_cs (As := [.int x1, .int (x0 + 1), .int 1440]) (rest := []) E hw hl (c_X9_isBetween l D cA tS A F x1 (x0 + 1) 1440 p5 h6) 3 (bwS bw_c tb_1224 tb_1225 tb_112 tb_1226) rfl (by decide +kernel) ⟨Nat.le_of_ble_eq_true rfl, Nat.le_of_ble_eq_true rfl⟩ rfl rfl (Nat.le_of_ble_eq_true rfl) ⟨Nat.zero_le _, Nat.zero_le _⟩ dX9_areHours_36 (fun H locs hw => ?_)
      refine lv_if_eq (tgt := 46) hx hb dX9_areHours_39 (by decide) (fun c7 => ?_) (fun c7 => ?_)
      · replace hM := i_pos hM c7
        refine lv_iconst (v := 0) hx hb dX9_areHours_46 (by decide) ?_
        cases hM
        exact q_retz E hw (by decide) dX9_areHours_47
      · replace hM := i_neg hM c7
        refine lv_iconst (v := 1) hx hb dX9_areHours_42 (by decide) ?_
        refine lv_goto (tgt := 47) hx hb dX9_areHours_43 (by decide) ?_
        cases hM
        exact q_retz E hw (by decide) dX9_areHours_47
def f_X9_areHours    (x0 : Int32) (x1 : Int32) : Option (Int32) := (if x0 = 0 then (if x1 = 0 then some 1 else f_X9_areHours_12 x0 x1) else f_X9_areHours_12 x0 x1)
set_option maxRecDepth 100000 in
set_option maxHeartbeats 4000000 in
theorem c_X9_areHours (l : Launch) (D : va_G) (cA : Nat → ClassId) (tS : Nat → Nat) (A : Nat → Prop) (F : va_W) (x0 : Int32) (x1 : Int32) (r0 : Int32) (hM : f_X9_areHours x0 x1 = some r0) : Ct l yX9_areHours (Cond.code yX9_areHours cX9_areHours 3 (some .boolean) :: bw) 1 22 D cA tS A [.int x0, .int x1] F (some (.int r0)) F := by
  refine ct_of (by decide +kernel) (Nat.le_of_ble_eq_true rfl) ?_
  intro p e s m below meth c E hw ls hl
  replace E : Ev p cX9_areHours 3 (some .boolean) RX9 (Cond.code yX9_areHours cX9_areHours 3 (some .boolean) :: bw) D cA tS A s m _ meth c := E
  replace hl : lv_has ls 3 [(0, .int x0), (1, .int x1)] := hl
  have hx := E.1.1
  have hb := E.1.2.1
  unfold f_X9_areHours at hM
  refine lv_iload_n hx hb dX9_areHours_0 rfl (lv_at hl 0 rfl) ?_
  refine lv_if_ne (tgt := 12) hx hb dX9_areHours_1 (by decide) (fun c1 => ?_) (fun c1 => ?_)
  · replace hM := i_neg hM c1
    exact s_X9_areHours_12 l D cA tS A F E _ _ _ hM _ _ hw _ (lv_sub hl [0, 1] rfl)
  · replace hM := i_pos hM c1
    refine lv_iload_n hx hb dX9_areHours_4 rfl (lv_at hl 1 rfl) ?_
    refine lv_if_ne (tgt := 12) hx hb dX9_areHours_5 (by decide) (fun c2 => ?_) (fun c2 => ?_)
    · replace hM := i_neg hM c2
      exact s_X9_areHours_12 l D cA tS A F E _ _ _ hM _ _ hw _ (lv_sub hl [0, 1] rfl)
    · replace hM := i_pos hM c2
      refine lv_iconst (v := 1) hx hb dX9_areHours_8 (by decide) ?_
      refine lv_goto (tgt := 13) hx hb dX9_areHours_9 (by decide) ?_
      refine lv_istore_n (lv' := [(2, .int 1), (0, .int x0), (1, .int x1)]) hx hb dX9_areHours_13 rfl hl (by decide) rfl (fun ls hl => ?_)
      refine lv_iload_n hx hb dX9_areHours_14 rfl (lv_at hl 0 rfl) ?_
      refine lv_if_ne (tgt := 42) hx hb dX9_areHours_15 (by decide) (fun c3 => ?_) (fun c3 => ?_)
      · refine lv_iconst (v := 1) hx hb dX9_areHours_42 (by decide) ?_
        refine lv_goto (tgt := 47) hx hb dX9_areHours_43 (by decide) ?_
        cases hM
        exact q_retz E hw (by decide) dX9_areHours_47
      · first | exact absurd (by decide) c3 | exact absurd c3 (by decide)
def f_X9_reportError    (x1 : Int32) (x2 : Int32) (x3 : Int32) (x4 : Int32) (σ : Sg) (wd : Int64) : Option (Int32) := (f_X9_isKind x1 σ wd).bind (fun p1 => (if p1 = 0 then some (-3) else (f_X9_isBetween x2 0 99).bind (fun p4 => (if p4 = 0 then some (-4) else (f_X9_isBetween x3 0 999).bind (fun p7 => (if p7 = 0 then some (-4) else (f_X9_isBetween x4 0 3).bind (fun p10 => (if p10 = 0 then some (-4) else (if (σ 1 (ix 56)) = 60 then some (-6) else some 0)))))))))
set_option maxRecDepth 100000 in
set_option maxHeartbeats 4000000 in
theorem c_X9_reportError (l : Launch) (D : va_G) (cA : Nat → ClassId) (tS : Nat → Nat) (A : Nat → Prop) (h : Nat → Nat) (F : va_W) (x1 : Int32) (x2 : Int32) (x3 : Int32) (x4 : Int32) (σ : Sg) (wd : Int64) (r0 : Int32) (hM : f_X9_reportError x1 x2 x3 x4 σ wd = some r0) : Ct l yX9_reportError (Cond.code yX9_reportError cX9_reportError 5 (some .int) :: bw) 2 43 D cA tS A [.ref (h 0), .int x1, .int x2, .int x3, .int x4] (wM cA h σ wd ++ F) (some (.int r0)) (wM cA h σ wd ++ F) := by
  refine ct_of (by decide +kernel) (Nat.le_of_ble_eq_true rfl) ?_
  intro p e s m below meth c E hw ls hl
  replace E : Ev p cX9_reportError 5 (some .int) RX9 (Cond.code yX9_reportError cX9_reportError 5 (some .int) :: bw) D cA tS A s m _ meth c := E
  replace hl : lv_has ls 5 [(0, .ref (h 0)), (1, .int x1), (2, .int x2), (3, .int x3), (4, .int x4)] := hl
  have hx := E.1.1
  have hb := E.1.2.1
  unfold f_X9_reportError at hM
  refine lv_aload_n hx hb dX9_reportError_0 rfl (lv_at hl 0 rfl) ?_
  refine lv_iload_n hx hb dX9_reportError_1 rfl (lv_at hl 1 rfl) ?_
  obtain ⟨p1, h2, hM⟩ := b_some hM
  refine q_cv (As := [.int x1]) (rest := []) E hw hl (c_X9_isKind l D cA tS A h F x1 σ wd p1 h2) 1 (bwV bw_c tb_1237 tb_1239 tb_48 tb_112 tb_1240) rfl (by decide +kernel) ⟨Nat.le_of_ble_eq_true rfl, Nat.le_of_ble_eq_true rfl⟩ 0 9 (T := TX9) (N := 17) rfl rfl rfl rfl (Nat.le_of_ble_eq_true rfl) ⟨Nat.zero_le _, Nat.zero_le _⟩ dX9_reportError_2 (fun H locs hw => ?_)
  refine lv_if_ne (tgt := 11) hx hb dX9_reportError_5 (by decide) (fun c3 => ?_) (fun c3 => ?_)
  · replace hM := i_neg hM c3
    refine lv_iload_n hx hb dX9_reportError_11 rfl (lv_at hl 2 rfl) ?_
    refine lv_iconst (v := 0) hx hb dX9_reportError_12 (by decide) ?_
    refine lv_bipush (v := 99) hx hb dX9_reportError_13 (by decide) ?_
    obtain ⟨p4, h5, hM⟩ := b_some hM
    refine q_cs (As := [.int x2, .int 0, .int 99]) (rest := []) E hw hl (c_X9_isBetween l D cA tS A (wM cA h σ wd ++ F) x2 0 99 p4 h5) 3 (bwS bw_c tb_1224 tb_1225 tb_112 tb_1226) rfl (by decide +kernel) ⟨Nat.le_of_ble_eq_true rfl, Nat.le_of_ble_eq_true rfl⟩ rfl rfl (Nat.le_of_ble_eq_true rfl) ⟨Nat.zero_le _, Nat.zero_le _⟩ dX9_reportError_15 (fun H locs hw => ?_)
    refine lv_if_eq (tgt := 42) hx hb dX9_reportError_18 (by decide) (fun c6 => ?_) (fun c6 => ?_)
    · replace hM := i_pos hM c6
      refine lv_bipush (v := (-4)) hx hb dX9_reportError_42 (by decide) ?_
      cases hM
      exact q_reti E hw dX9_reportError_44
    · replace hM := i_neg hM c6
      refine lv_iload_n hx hb dX9_reportError_21 rfl (lv_at hl 3 rfl) ?_
      refine lv_iconst (v := 0) hx hb dX9_reportError_22 (by decide) ?_
      refine lv_sipush (v := 999) hx hb dX9_reportError_23 (by decide) ?_
      obtain ⟨p7, h8, hM⟩ := b_some hM
      refine q_cs (As := [.int x3, .int 0, .int 999]) (rest := []) E hw hl (c_X9_isBetween l D cA tS A (wM cA h σ wd ++ F) x3 0 999 p7 h8) 3 (bwS bw_c tb_1224 tb_1225 tb_112 tb_1226) rfl (by decide +kernel) ⟨Nat.le_of_ble_eq_true rfl, Nat.le_of_ble_eq_true rfl⟩ rfl rfl (Nat.le_of_ble_eq_true rfl) ⟨Nat.zero_le _, Nat.zero_le _⟩ dX9_reportError_26 (fun H locs hw => ?_)
      refine lv_if_eq (tgt := 42) hx hb dX9_reportError_29 (by decide) (fun c9 => ?_) (fun c9 => ?_)
      · replace hM := i_pos hM c9
        refine lv_bipush (v := (-4)) hx hb dX9_reportError_42 (by decide) ?_
        cases hM
        exact q_reti E hw dX9_reportError_44
      · replace hM := i_neg hM c9
        refine lv_iload hx hb dX9_reportError_32 (lv_at hl 4 rfl) ?_
        refine lv_iconst (v := 0) hx hb dX9_reportError_34 (by decide) ?_
        refine lv_iconst (v := 3) hx hb dX9_reportError_35 (by decide) ?_
        obtain ⟨p10, h11, hM⟩ := b_some hM
        refine q_cs (As := [.int x4, .int 0, .int 3]) (rest := []) E hw hl (c_X9_isBetween l D cA tS A (wM cA h σ wd ++ F) x4 0 3 p10 h11) 3 (bwS bw_c tb_1224 tb_1225 tb_112 tb_1226) rfl (by decide +kernel) ⟨Nat.le_of_ble_eq_true rfl, Nat.le_of_ble_eq_true rfl⟩ rfl rfl (Nat.le_of_ble_eq_true rfl) ⟨Nat.zero_le _, Nat.zero_le _⟩ dX9_reportError_36 (fun H locs hw => ?_)
        refine lv_if_ne (tgt := 45) hx hb dX9_reportError_39 (by decide) (fun c12 => ?_) (fun c12 => ?_)
        · replace hM := i_neg hM c12
          refine lv_aload_n hx hb dX9_reportError_45 rfl (lv_at hl 0 rfl) ?_
          refine q_get (C := RX9) (T := TX9) (N := 17) (ci := 9) E (fun w h => List.mem_cons_of_mem _ (inX9 w h)) hw 0 rfl rfl 0 (by decide) (List.mem_cons_of_mem _ tb_1157) (v := .ref (h 1)) rfl dX9_reportError_46 ?_
          refine lv_bipush (v := 56) hx hb dX9_reportError_49 (by decide) ?_
          refine q_ald E hw 1 (n := 4619) rfl (by decide +kernel) (x := (σ 1 (ix 56))) rfl dX9_reportError_51 ?_
          refine lv_bipush (v := 60) hx hb dX9_reportError_52 (by decide) ?_
          refine lv_icmp_ne (tgt := 62) hx hb dX9_reportError_54 (by decide) (fun c13 => ?_) (fun c13 => ?_)
          · replace hM := i_neg hM c13
            refine lv_iconst (v := 0) hx hb dX9_reportError_62 (by decide) ?_
            cases hM
            exact q_reti E hw dX9_reportError_63
          · replace hM := i_pos hM c13
            refine lv_bipush (v := (-6)) hx hb dX9_reportError_57 (by decide) ?_
            refine lv_goto (tgt := 63) hx hb dX9_reportError_59 (by decide) ?_
            cases hM
            exact q_reti E hw dX9_reportError_63
        · replace hM := i_pos hM c12
          refine lv_bipush (v := (-4)) hx hb dX9_reportError_42 (by decide) ?_
          cases hM
          exact q_reti E hw dX9_reportError_44
  · replace hM := i_pos hM c3
    refine lv_bipush (v := (-3)) hx hb dX9_reportError_8 (by decide) ?_
    cases hM
    exact q_reti E hw dX9_reportError_10
def f_X9_joinError    (x1 : Int32) (x2 : Int32) (σ : Sg) (wd : Int64) : Option (Int32) := (f_X9_isTicket x1 σ wd).bind (fun p1 => (if p1 = 0 then some (-2) else (f_X9_isTicket x2 σ wd).bind (fun p4 => (if p4 = 0 then some (-2) else (if x1 = x2 then some (-5) else (f_X9_isAlive x1 σ wd).bind (fun p8 => (if p8 = 0 then some (-5) else (f_X9_isAlive x2 σ wd).bind (fun p11 => (if p11 = 0 then some (-5) else some 0)))))))))
set_option maxRecDepth 100000 in
set_option maxHeartbeats 4000000 in
theorem c_X9_joinError (l : Launch) (D : va_G) (cA : Nat → ClassId) (tS : Nat → Nat) (A : Nat → Prop) (h : Nat → Nat) (F : va_W) (x1 : Int32) (x2 : Int32) (σ : Sg) (wd : Int64) (r0 : Int32) (hM : f_X9_joinError x1 x2 σ wd = some r0) : Ct l yX9_joinError (Cond.code yX9_joinError cX9_joinError 3 (some .int) :: bw) 2 43 D cA tS A [.ref (h 0), .int x1, .int x2] (wM cA h σ wd ++ F) (some (.int r0)) (wM cA h σ wd ++ F) := by
  refine ct_of (by decide +kernel) (Nat.le_of_ble_eq_true rfl) ?_
  intro p e s m below meth c E hw ls hl
  replace E : Ev p cX9_joinError 3 (some .int) RX9 (Cond.code yX9_joinError cX9_joinError 3 (some .int) :: bw) D cA tS A s m _ meth c := E
  replace hl : lv_has ls 3 [(0, .ref (h 0)), (1, .int x1), (2, .int x2)] := hl
  have hx := E.1.1
  have hb := E.1.2.1
  unfold f_X9_joinError at hM
  refine lv_aload_n hx hb dX9_joinError_0 rfl (lv_at hl 0 rfl) ?_
  refine lv_iload_n hx hb dX9_joinError_1 rfl (lv_at hl 1 rfl) ?_
  obtain ⟨p1, h2, hM⟩ := b_some hM
  refine q_cv (As := [.int x1]) (rest := []) E hw hl (c_X9_isTicket l D cA tS A h F x1 σ wd p1 h2) 1 (bwV bw_c tb_1245 tb_1247 tb_50 tb_112 tb_1248) rfl (by decide +kernel) ⟨Nat.le_of_ble_eq_true rfl, Nat.le_of_ble_eq_true rfl⟩ 0 9 (T := TX9) (N := 17) rfl rfl rfl rfl (Nat.le_of_ble_eq_true rfl) ⟨Nat.zero_le _, Nat.zero_le _⟩ dX9_joinError_2 (fun H locs hw => ?_)
  refine lv_if_eq (tgt := 16) hx hb dX9_joinError_5 (by decide) (fun c3 => ?_) (fun c3 => ?_)
  · replace hM := i_pos hM c3
    refine lv_bipush (v := (-2)) hx hb dX9_joinError_16 (by decide) ?_
    cases hM
    exact q_reti E hw dX9_joinError_18
  · replace hM := i_neg hM c3
    refine lv_aload_n hx hb dX9_joinError_8 rfl (lv_at hl 0 rfl) ?_
    refine lv_iload_n hx hb dX9_joinError_9 rfl (lv_at hl 2 rfl) ?_
    obtain ⟨p4, h5, hM⟩ := b_some hM
    refine q_cv (As := [.int x2]) (rest := []) E hw hl (c_X9_isTicket l D cA tS A h F x2 σ wd p4 h5) 1 (bwV bw_c tb_1245 tb_1247 tb_50 tb_112 tb_1248) rfl (by decide +kernel) ⟨Nat.le_of_ble_eq_true rfl, Nat.le_of_ble_eq_true rfl⟩ 0 9 (T := TX9) (N := 17) rfl rfl rfl rfl (Nat.le_of_ble_eq_true rfl) ⟨Nat.zero_le _, Nat.zero_le _⟩ dX9_joinError_10 (fun H locs hw => ?_)
    refine lv_if_ne (tgt := 19) hx hb dX9_joinError_13 (by decide) (fun c6 => ?_) (fun c6 => ?_)
    · replace hM := i_neg hM c6
      refine lv_iload_n hx hb dX9_joinError_19 rfl (lv_at hl 1 rfl) ?_
      refine lv_iload_n hx hb dX9_joinError_20 rfl (lv_at hl 2 rfl) ?_
      refine lv_icmp_eq (tgt := 44) hx hb dX9_joinError_21 (by decide) (fun c7 => ?_) (fun c7 => ?_)
      · replace hM := i_pos hM c7
        refine lv_bipush (v := (-5)) hx hb dX9_joinError_44 (by decide) ?_
        cases hM
        exact q_reti E hw dX9_joinError_46
      · replace hM := i_neg hM c7
        refine lv_aload_n hx hb dX9_joinError_24 rfl (lv_at hl 0 rfl) ?_
        refine lv_iload_n hx hb dX9_joinError_25 rfl (lv_at hl 1 rfl) ?_
        obtain ⟨p8, h9, hM⟩ := b_some hM
        refine q_cv (As := [.int x1]) (rest := []) E hw hl (c_X9_isAlive l D cA tS A h F x1 σ wd p8 h9) 1 (bwV bw_c tb_1249 tb_1251 tb_51 tb_112 tb_1252) rfl (by decide +kernel) ⟨Nat.le_of_ble_eq_true rfl, Nat.le_of_ble_eq_true rfl⟩ 0 9 (T := TX9) (N := 17) rfl rfl rfl rfl (Nat.le_of_ble_eq_true rfl) ⟨Nat.zero_le _, Nat.zero_le _⟩ dX9_joinError_26 (fun H locs hw => ?_)
        refine lv_if_eq (tgt := 44) hx hb dX9_joinError_29 (by decide) (fun c10 => ?_) (fun c10 => ?_)
        · replace hM := i_pos hM c10
          refine lv_bipush (v := (-5)) hx hb dX9_joinError_44 (by decide) ?_
          cases hM
          exact q_reti E hw dX9_joinError_46
        · replace hM := i_neg hM c10
          refine lv_aload_n hx hb dX9_joinError_32 rfl (lv_at hl 0 rfl) ?_
          refine lv_iload_n hx hb dX9_joinError_33 rfl (lv_at hl 2 rfl) ?_
          obtain ⟨p11, h12, hM⟩ := b_some hM
          refine q_cv (As := [.int x2]) (rest := []) E hw hl (c_X9_isAlive l D cA tS A h F x2 σ wd p11 h12) 1 (bwV bw_c tb_1249 tb_1251 tb_51 tb_112 tb_1252) rfl (by decide +kernel) ⟨Nat.le_of_ble_eq_true rfl, Nat.le_of_ble_eq_true rfl⟩ 0 9 (T := TX9) (N := 17) rfl rfl rfl rfl (Nat.le_of_ble_eq_true rfl) ⟨Nat.zero_le _, Nat.zero_le _⟩ dX9_joinError_34 (fun H locs hw => ?_)
          refine lv_if_eq (tgt := 44) hx hb dX9_joinError_37 (by decide) (fun c13 => ?_) (fun c13 => ?_)
          · replace hM := i_pos hM c13
            refine lv_bipush (v := (-5)) hx hb dX9_joinError_44 (by decide) ?_
            cases hM
            exact q_reti E hw dX9_joinError_46
          · replace hM := i_neg hM c13
            refine lv_iconst (v := 0) hx hb dX9_joinError_40 (by decide) ?_
            refine lv_goto (tgt := 46) hx hb dX9_joinError_41 (by decide) ?_
            cases hM
            exact q_reti E hw dX9_joinError_46
    · replace hM := i_pos hM c6
      refine lv_bipush (v := (-2)) hx hb dX9_joinError_16 (by decide) ?_
      cases hM
      exact q_reti E hw dX9_joinError_18
def f_X9_priorityError    (x1 : Int32) (x2 : Int32) (σ : Sg) (wd : Int64) : Option (Int32) := (f_X9_isTicket x1 σ wd).bind (fun p1 => (if p1 = 0 then some (-2) else (f_X9_isBetween x2 0 3).bind (fun p4 => (if p4 = 0 then some (-4) else (f_X9_is x1 3 σ wd).bind (fun p7 => (if p7 = 0 then some 0 else some (-5)))))))
set_option maxRecDepth 100000 in
set_option maxHeartbeats 4000000 in
theorem c_X9_priorityError (l : Launch) (D : va_G) (cA : Nat → ClassId) (tS : Nat → Nat) (A : Nat → Prop) (h : Nat → Nat) (F : va_W) (x1 : Int32) (x2 : Int32) (σ : Sg) (wd : Int64) (r0 : Int32) (hM : f_X9_priorityError x1 x2 σ wd = some r0) : Ct l yX9_priorityError (Cond.code yX9_priorityError cX9_priorityError 3 (some .int) :: bw) 2 44 D cA tS A [.ref (h 0), .int x1, .int x2] (wM cA h σ wd ++ F) (some (.int r0)) (wM cA h σ wd ++ F) := by
  refine ct_of (by decide +kernel) (Nat.le_of_ble_eq_true rfl) ?_
  intro p e s m below meth c E hw ls hl
  replace E : Ev p cX9_priorityError 3 (some .int) RX9 (Cond.code yX9_priorityError cX9_priorityError 3 (some .int) :: bw) D cA tS A s m _ meth c := E
  replace hl : lv_has ls 3 [(0, .ref (h 0)), (1, .int x1), (2, .int x2)] := hl
  have hx := E.1.1
  have hb := E.1.2.1
  unfold f_X9_priorityError at hM
  refine lv_aload_n hx hb dX9_priorityError_0 rfl (lv_at hl 0 rfl) ?_
  refine lv_iload_n hx hb dX9_priorityError_1 rfl (lv_at hl 1 rfl) ?_
  obtain ⟨p1, h2, hM⟩ := b_some hM
  refine q_cv (As := [.int x1]) (rest := []) E hw hl (c_X9_isTicket l D cA tS A h F x1 σ wd p1 h2) 1 (bwV bw_c tb_1245 tb_1247 tb_50 tb_112 tb_1248) rfl (by decide +kernel) ⟨Nat.le_of_ble_eq_true rfl, Nat.le_of_ble_eq_true rfl⟩ 0 9 (T := TX9) (N := 17) rfl rfl rfl rfl (Nat.le_of_ble_eq_true rfl) ⟨Nat.zero_le _, Nat.zero_le _⟩ dX9_priorityError_2 (fun H locs hw => ?_)
  refine lv_if_ne (tgt := 11) hx hb dX9_priorityError_5 (by decide) (fun c3 => ?_) (fun c3 => ?_)
  · replace hM := i_neg hM c3
    refine lv_iload_n hx hb dX9_priorityError_11 rfl (lv_at hl 2 rfl) ?_
    refine lv_iconst (v := 0) hx hb dX9_priorityError_12 (by decide) ?_
    refine lv_iconst (v := 3) hx hb dX9_priorityError_13 (by decide) ?_
    obtain ⟨p4, h5, hM⟩ := b_some hM
    refine q_cs (As := [.int x2, .int 0, .int 3]) (rest := []) E hw hl (c_X9_isBetween l D cA tS A (wM cA h σ wd ++ F) x2 0 3 p4 h5) 3 (bwS bw_c tb_1224 tb_1225 tb_112 tb_1226) rfl (by decide +kernel) ⟨Nat.le_of_ble_eq_true rfl, Nat.le_of_ble_eq_true rfl⟩ rfl rfl (Nat.le_of_ble_eq_true rfl) ⟨Nat.zero_le _, Nat.zero_le _⟩ dX9_priorityError_14 (fun H locs hw => ?_)
    refine lv_if_ne (tgt := 23) hx hb dX9_priorityError_17 (by decide) (fun c6 => ?_) (fun c6 => ?_)
    · replace hM := i_neg hM c6
      refine lv_aload_n hx hb dX9_priorityError_23 rfl (lv_at hl 0 rfl) ?_
      refine lv_iload_n hx hb dX9_priorityError_24 rfl (lv_at hl 1 rfl) ?_
      refine lv_iconst (v := 3) hx hb dX9_priorityError_25 (by decide) ?_
      obtain ⟨p7, h8, hM⟩ := b_some hM
      refine q_cv (As := [.int x1, .int 3]) (rest := []) E hw hl (c_X9_is l D cA tS A h F x1 3 σ wd p7 h8) 2 (bwV bw_c tb_1261 tb_1263 tb_54 tb_112 tb_1264) rfl (by decide +kernel) ⟨Nat.le_of_ble_eq_true rfl, Nat.le_of_ble_eq_true rfl⟩ 0 9 (T := TX9) (N := 17) rfl rfl rfl rfl (Nat.le_of_ble_eq_true rfl) ⟨Nat.zero_le _, Nat.zero_le _⟩ dX9_priorityError_26 (fun H locs hw => ?_)
      refine lv_if_eq (tgt := 37) hx hb dX9_priorityError_29 (by decide) (fun c9 => ?_) (fun c9 => ?_)
      · replace hM := i_pos hM c9
        refine lv_iconst (v := 0) hx hb dX9_priorityError_37 (by decide) ?_
        cases hM
        exact q_reti E hw dX9_priorityError_38
      · replace hM := i_neg hM c9
        refine lv_bipush (v := (-5)) hx hb dX9_priorityError_32 (by decide) ?_
        refine lv_goto (tgt := 38) hx hb dX9_priorityError_34 (by decide) ?_
        cases hM
        exact q_reti E hw dX9_priorityError_38
    · replace hM := i_pos hM c6
      refine lv_bipush (v := (-4)) hx hb dX9_priorityError_20 (by decide) ?_
      cases hM
      exact q_reti E hw dX9_priorityError_22
  · replace hM := i_pos hM c3
    refine lv_bipush (v := (-2)) hx hb dX9_priorityError_8 (by decide) ?_
    cases hM
    exact q_reti E hw dX9_priorityError_10
def f_X9_mayChange    (x1 : Int32) (x2 : Int32) (σ : Sg) (wd : Int64) : Option (Int32) := (if x1 = 3 then (f_X9_is x2 0 σ wd).bind (fun p4 => (if p4 = 0 then (f_X9_is x2 1 σ wd).bind (fun p7 => (if p7 = 0 then some 0 else some 1)) else some 1)) else if x1 = 4 then (f_X9_is x2 2 σ wd).bind (fun p10 => if bz p10 then some p10 else none) else if x1 = 5 then (f_X9_is x2 0 σ wd).bind (fun p13 => (if p13 = 0 then (f_X9_is x2 1 σ wd).bind (fun p19 => (if p19 = 0 then some 0 else (f_X9_ticket x2 4 σ wd).bind (fun p22 => (if 3 ≤ p22 then some 0 else some 1)))) else (f_X9_ticket x2 4 σ wd).bind (fun p16 => (if 3 ≤ p16 then some 0 else some 1)))) else if x1 = 6 then (f_X9_isAlive x2 σ wd).bind (fun p25 => if bz p25 then some p25 else none) else if x1 = 7 then (f_X9_is x2 3 σ wd).bind (fun p28 => (if p28 = 0 then some 0 else (f_X9_ticket x2 10 σ wd).bind (fun p31 => (if p31 = (-1) then some 1 else some 0)))) else (f_X9_is x2 4 σ wd).bind (fun p1 => if bz p1 then some p1 else none))
set_option maxRecDepth 100000 in
set_option maxHeartbeats 4000000 in
theorem c_X9_mayChange (l : Launch) (D : va_G) (cA : Nat → ClassId) (tS : Nat → Nat) (A : Nat → Prop) (h : Nat → Nat) (F : va_W) (x1 : Int32) (x2 : Int32) (σ : Sg) (wd : Int64) (r0 : Int32) (hM : f_X9_mayChange x1 x2 σ wd = some r0) : Ct l yX9_mayChange (Cond.code yX9_mayChange cX9_mayChange 3 (some .boolean) :: bw) 2 44 D cA tS A [.ref (h 0), .int x1, .int x2] (wM cA h σ wd ++ F) (some (.int r0)) (wM cA h σ wd ++ F) := by
  refine ct_of (by decide +kernel) (Nat.le_of_ble_eq_true rfl) ?_
  intro p e s m below meth c E hw ls hl
  replace E : Ev p cX9_mayChange 3 (some .boolean) RX9 (Cond.code yX9_mayChange cX9_mayChange 3 (some .boolean) :: bw) D cA tS A s m _ meth c := E
  replace hl : lv_has ls 3 [(0, .ref (h 0)), (1, .int x1), (2, .int x2)] := hl
  have hx := E.1.1
  have hb := E.1.2.1
  unfold f_X9_mayChange at hM
  refine lv_iload_n hx hb dX9_mayChange_0 rfl (lv_at hl 1 rfl) ?_
  by_cases c34 : x1 = 3
  · replace hM := i_pos hM c34
    refine lv_tableIn (tgt := 36) hx hb dX9_mayChange_1 (by rw [c34]; decide) (by rw [c34]; decide) (off := 35) (by rw [c34]; decide) (by decide) ?_
    refine lv_aload_n hx hb dX9_mayChange_36 rfl (lv_at hl 0 rfl) ?_
    refine lv_iload_n hx hb dX9_mayChange_37 rfl (lv_at hl 2 rfl) ?_
    refine lv_iconst (v := 0) hx hb dX9_mayChange_38 (by decide) ?_
    obtain ⟨p4, h5, hM⟩ := b_some hM
    refine q_cv (As := [.int x2, .int 0]) (rest := []) E hw hl (c_X9_is l D cA tS A h F x2 0 σ wd p4 h5) 2 (bwV bw_c tb_1261 tb_1263 tb_54 tb_112 tb_1264) rfl (by decide +kernel) ⟨Nat.le_of_ble_eq_true rfl, Nat.le_of_ble_eq_true rfl⟩ 0 9 (T := TX9) (N := 17) rfl rfl rfl rfl (Nat.le_of_ble_eq_true rfl) ⟨Nat.zero_le _, Nat.zero_le _⟩ dX9_mayChange_39 (fun H locs hw => ?_)
    refine lv_if_ne (tgt := 54) hx hb dX9_mayChange_42 (by decide) (fun c6 => ?_) (fun c6 => ?_)
    · replace hM := i_neg hM c6
      refine lv_iconst (v := 1) hx hb dX9_mayChange_54 (by decide) ?_
      refine lv_goto (tgt := 59) hx hb dX9_mayChange_55 (by decide) ?_
      cases hM
      exact q_retz E hw (by decide) dX9_mayChange_59
    · replace hM := i_pos hM c6
      refine lv_aload_n hx hb dX9_mayChange_45 rfl (lv_at hl 0 rfl) ?_
      refine lv_iload_n hx hb dX9_mayChange_46 rfl (lv_at hl 2 rfl) ?_
      refine lv_iconst (v := 1) hx hb dX9_mayChange_47 (by decide) ?_
      obtain ⟨p7, h8, hM⟩ := b_some hM
      refine q_cv (As := [.int x2, .int 1]) (rest := []) E hw hl (c_X9_is l D cA tS A h F x2 1 σ wd p7 h8) 2 (bwV bw_c tb_1261 tb_1263 tb_54 tb_112 tb_1264) rfl (by decide +kernel) ⟨Nat.le_of_ble_eq_true rfl, Nat.le_of_ble_eq_true rfl⟩ 0 9 (T := TX9) (N := 17) rfl rfl rfl rfl (Nat.le_of_ble_eq_true rfl) ⟨Nat.zero_le _, Nat.zero_le _⟩ dX9_mayChange_48 (fun H locs hw => ?_)
      refine lv_if_eq (tgt := 58) hx hb dX9_mayChange_51 (by decide) (fun c9 => ?_) (fun c9 => ?_)
      · replace hM := i_pos hM c9
        refine lv_iconst (v := 0) hx hb dX9_mayChange_58 (by decide) ?_
        cases hM
        exact q_retz E hw (by decide) dX9_mayChange_59
      · replace hM := i_neg hM c9
        refine lv_iconst (v := 1) hx hb dX9_mayChange_54 (by decide) ?_
        refine lv_goto (tgt := 59) hx hb dX9_mayChange_55 (by decide) ?_
        cases hM
        exact q_retz E hw (by decide) dX9_mayChange_59
  replace hM := i_neg hM c34
  by_cases c35 : x1 = 4
  · replace hM := i_pos hM c35
    refine lv_tableIn (tgt := 60) hx hb dX9_mayChange_1 (by rw [c35]; decide) (by rw [c35]; decide) (off := 59) (by rw [c35]; decide) (by decide) ?_
    refine lv_aload_n hx hb dX9_mayChange_60 rfl (lv_at hl 0 rfl) ?_
    refine lv_iload_n hx hb dX9_mayChange_61 rfl (lv_at hl 2 rfl) ?_
    refine lv_iconst (v := 2) hx hb dX9_mayChange_62 (by decide) ?_
    obtain ⟨p10, h11, hM⟩ := b_some hM
    refine q_cv (As := [.int x2, .int 2]) (rest := []) E hw hl (c_X9_is l D cA tS A h F x2 2 σ wd p10 h11) 2 (bwV bw_c tb_1261 tb_1263 tb_54 tb_112 tb_1264) rfl (by decide +kernel) ⟨Nat.le_of_ble_eq_true rfl, Nat.le_of_ble_eq_true rfl⟩ 0 9 (T := TX9) (N := 17) rfl rfl rfl rfl (Nat.le_of_ble_eq_true rfl) ⟨Nat.zero_le _, Nat.zero_le _⟩ dX9_mayChange_63 (fun H locs hw => ?_)
    obtain ⟨g12, hM⟩ := g_some hM
    cases hM
    exact q_retz E hw g12 dX9_mayChange_66
  replace hM := i_neg hM c35
  by_cases c36 : x1 = 5
  · replace hM := i_pos hM c36
    refine lv_tableIn (tgt := 67) hx hb dX9_mayChange_1 (by rw [c36]; decide) (by rw [c36]; decide) (off := 66) (by rw [c36]; decide) (by decide) ?_
    refine lv_aload_n hx hb dX9_mayChange_67 rfl (lv_at hl 0 rfl) ?_
    refine lv_iload_n hx hb dX9_mayChange_68 rfl (lv_at hl 2 rfl) ?_
    refine lv_iconst (v := 0) hx hb dX9_mayChange_69 (by decide) ?_
    obtain ⟨p13, h14, hM⟩ := b_some hM
    refine q_cv (As := [.int x2, .int 0]) (rest := []) E hw hl (c_X9_is l D cA tS A h F x2 0 σ wd p13 h14) 2 (bwV bw_c tb_1261 tb_1263 tb_54 tb_112 tb_1264) rfl (by decide +kernel) ⟨Nat.le_of_ble_eq_true rfl, Nat.le_of_ble_eq_true rfl⟩ 0 9 (T := TX9) (N := 17) rfl rfl rfl rfl (Nat.le_of_ble_eq_true rfl) ⟨Nat.zero_le _, Nat.zero_le _⟩ dX9_mayChange_70 (fun H locs hw => ?_)
    refine lv_if_ne (tgt := 85) hx hb dX9_mayChange_73 (by decide) (fun c15 => ?_) (fun c15 => ?_)
    · replace hM := i_neg hM c15
      refine lv_aload_n hx hb dX9_mayChange_85 rfl (lv_at hl 0 rfl) ?_
      refine lv_iload_n hx hb dX9_mayChange_86 rfl (lv_at hl 2 rfl) ?_
      refine lv_iconst (v := 4) hx hb dX9_mayChange_87 (by decide) ?_
      obtain ⟨p16, h17, hM⟩ := b_some hM
      refine q_cv (As := [.int x2, .int 4]) (rest := []) E hw hl (c_X9_ticket l D cA tS A h F x2 4 σ wd p16 h17) 2 (bwV bw_c tb_1253 tb_1255 tb_52 tb_112 tb_1256) rfl (by decide +kernel) ⟨Nat.le_of_ble_eq_true rfl, Nat.le_of_ble_eq_true rfl⟩ 0 9 (T := TX9) (N := 17) rfl rfl rfl rfl (Nat.le_of_ble_eq_true rfl) ⟨Nat.zero_le _, Nat.zero_le _⟩ dX9_mayChange_88 (fun H locs hw => ?_)
      refine lv_iconst (v := 3) hx hb dX9_mayChange_91 (by decide) ?_
      refine lv_icmp_ge (tgt := 99) hx hb dX9_mayChange_92 (by decide) (fun c18 => ?_) (fun c18 => ?_)
      · replace hM := i_pos hM c18
        refine lv_iconst (v := 0) hx hb dX9_mayChange_99 (by decide) ?_
        cases hM
        exact q_retz E hw (by decide) dX9_mayChange_100
      · replace hM := i_neg hM c18
        refine lv_iconst (v := 1) hx hb dX9_mayChange_95 (by decide) ?_
        refine lv_goto (tgt := 100) hx hb dX9_mayChange_96 (by decide) ?_
        cases hM
        exact q_retz E hw (by decide) dX9_mayChange_100
    · replace hM := i_pos hM c15
      refine lv_aload_n hx hb dX9_mayChange_76 rfl (lv_at hl 0 rfl) ?_
      refine lv_iload_n hx hb dX9_mayChange_77 rfl (lv_at hl 2 rfl) ?_
      refine lv_iconst (v := 1) hx hb dX9_mayChange_78 (by decide) ?_
      obtain ⟨p19, h20, hM⟩ := b_some hM
      refine q_cv (As := [.int x2, .int 1]) (rest := []) E hw hl (c_X9_is l D cA tS A h F x2 1 σ wd p19 h20) 2 (bwV bw_c tb_1261 tb_1263 tb_54 tb_112 tb_1264) rfl (by decide +kernel) ⟨Nat.le_of_ble_eq_true rfl, Nat.le_of_ble_eq_true rfl⟩ 0 9 (T := TX9) (N := 17) rfl rfl rfl rfl (Nat.le_of_ble_eq_true rfl) ⟨Nat.zero_le _, Nat.zero_le _⟩ dX9_mayChange_79 (fun H locs hw => ?_)
      refine lv_if_eq (tgt := 99) hx hb dX9_mayChange_82 (by decide) (fun c21 => ?_) (fun c21 => ?_)
      · replace hM := i_pos hM c21
        refine lv_iconst (v := 0) hx hb dX9_mayChange_99 (by decide) ?_
        cases hM
        exact q_retz E hw (by decide) dX9_mayChange_100
      · replace hM := i_neg hM c21
        refine lv_aload_n hx hb dX9_mayChange_85 rfl (lv_at hl 0 rfl) ?_
        refine lv_iload_n hx hb dX9_mayChange_86 rfl (lv_at hl 2 rfl) ?_
        refine lv_iconst (v := 4) hx hb dX9_mayChange_87 (by decide) ?_
        obtain ⟨p22, h23, hM⟩ := b_some hM
        refine q_cv (As := [.int x2, .int 4]) (rest := []) E hw hl (c_X9_ticket l D cA tS A h F x2 4 σ wd p22 h23) 2 (bwV bw_c tb_1253 tb_1255 tb_52 tb_112 tb_1256) rfl (by decide +kernel) ⟨Nat.le_of_ble_eq_true rfl, Nat.le_of_ble_eq_true rfl⟩ 0 9 (T := TX9) (N := 17) rfl rfl rfl rfl (Nat.le_of_ble_eq_true rfl) ⟨Nat.zero_le _, Nat.zero_le _⟩ dX9_mayChange_88 (fun H locs hw => ?_)
        refine lv_iconst (v := 3) hx hb dX9_mayChange_91 (by decide) ?_
        refine lv_icmp_ge (tgt := 99) hx hb dX9_mayChange_92 (by decide) (fun c24 => ?_) (fun c24 => ?_)
        · replace hM := i_pos hM c24
          refine lv_iconst (v := 0) hx hb dX9_mayChange_99 (by decide) ?_
          cases hM
          exact q_retz E hw (by decide) dX9_mayChange_100
        · replace hM := i_neg hM c24
          refine lv_iconst (v := 1) hx hb dX9_mayChange_95 (by decide) ?_
          refine lv_goto (tgt := 100) hx hb dX9_mayChange_96 (by decide) ?_
          cases hM
          exact q_retz E hw (by decide) dX9_mayChange_100
  replace hM := i_neg hM c36
  by_cases c37 : x1 = 6
  · replace hM := i_pos hM c37
    refine lv_tableIn (tgt := 101) hx hb dX9_mayChange_1 (by rw [c37]; decide) (by rw [c37]; decide) (off := 100) (by rw [c37]; decide) (by decide) ?_
    refine lv_aload_n hx hb dX9_mayChange_101 rfl (lv_at hl 0 rfl) ?_
    refine lv_iload_n hx hb dX9_mayChange_102 rfl (lv_at hl 2 rfl) ?_
    obtain ⟨p25, h26, hM⟩ := b_some hM
    refine q_cv (As := [.int x2]) (rest := []) E hw hl (c_X9_isAlive l D cA tS A h F x2 σ wd p25 h26) 1 (bwV bw_c tb_1249 tb_1251 tb_51 tb_112 tb_1252) rfl (by decide +kernel) ⟨Nat.le_of_ble_eq_true rfl, Nat.le_of_ble_eq_true rfl⟩ 0 9 (T := TX9) (N := 17) rfl rfl rfl rfl (Nat.le_of_ble_eq_true rfl) ⟨Nat.zero_le _, Nat.zero_le _⟩ dX9_mayChange_103 (fun H locs hw => ?_)
    obtain ⟨g27, hM⟩ := g_some hM
    cases hM
    exact q_retz E hw g27 dX9_mayChange_106
  replace hM := i_neg hM c37
  by_cases c38 : x1 = 7
  · replace hM := i_pos hM c38
    refine lv_tableIn (tgt := 107) hx hb dX9_mayChange_1 (by rw [c38]; decide) (by rw [c38]; decide) (off := 106) (by rw [c38]; decide) (by decide) ?_
    refine lv_aload_n hx hb dX9_mayChange_107 rfl (lv_at hl 0 rfl) ?_
    refine lv_iload_n hx hb dX9_mayChange_108 rfl (lv_at hl 2 rfl) ?_
    refine lv_iconst (v := 3) hx hb dX9_mayChange_109 (by decide) ?_
    obtain ⟨p28, h29, hM⟩ := b_some hM
    refine q_cv (As := [.int x2, .int 3]) (rest := []) E hw hl (c_X9_is l D cA tS A h F x2 3 σ wd p28 h29) 2 (bwV bw_c tb_1261 tb_1263 tb_54 tb_112 tb_1264) rfl (by decide +kernel) ⟨Nat.le_of_ble_eq_true rfl, Nat.le_of_ble_eq_true rfl⟩ 0 9 (T := TX9) (N := 17) rfl rfl rfl rfl (Nat.le_of_ble_eq_true rfl) ⟨Nat.zero_le _, Nat.zero_le _⟩ dX9_mayChange_110 (fun H locs hw => ?_)
    refine lv_if_eq (tgt := 131) hx hb dX9_mayChange_113 (by decide) (fun c30 => ?_) (fun c30 => ?_)
    · replace hM := i_pos hM c30
      refine lv_iconst (v := 0) hx hb dX9_mayChange_131 (by decide) ?_
      cases hM
      exact q_retz E hw (by decide) dX9_mayChange_132
    · replace hM := i_neg hM c30
      refine lv_aload_n hx hb dX9_mayChange_116 rfl (lv_at hl 0 rfl) ?_
      refine lv_iload_n hx hb dX9_mayChange_117 rfl (lv_at hl 2 rfl) ?_
      refine lv_bipush (v := 10) hx hb dX9_mayChange_118 (by decide) ?_
      obtain ⟨p31, h32, hM⟩ := b_some hM
      refine q_cv (As := [.int x2, .int 10]) (rest := []) E hw hl (c_X9_ticket l D cA tS A h F x2 10 σ wd p31 h32) 2 (bwV bw_c tb_1253 tb_1255 tb_52 tb_112 tb_1256) rfl (by decide +kernel) ⟨Nat.le_of_ble_eq_true rfl, Nat.le_of_ble_eq_true rfl⟩ 0 9 (T := TX9) (N := 17) rfl rfl rfl rfl (Nat.le_of_ble_eq_true rfl) ⟨Nat.zero_le _, Nat.zero_le _⟩ dX9_mayChange_120 (fun H locs hw => ?_)
      refine lv_iconst (v := (-1)) hx hb dX9_mayChange_123 (by decide) ?_
      refine lv_icmp_ne (tgt := 131) hx hb dX9_mayChange_124 (by decide) (fun c33 => ?_) (fun c33 => ?_)
      · replace hM := i_neg hM c33
        refine lv_iconst (v := 0) hx hb dX9_mayChange_131 (by decide) ?_
        cases hM
        exact q_retz E hw (by decide) dX9_mayChange_132
      · replace hM := i_pos hM c33
        refine lv_iconst (v := 1) hx hb dX9_mayChange_127 (by decide) ?_
        refine lv_goto (tgt := 132) hx hb dX9_mayChange_128 (by decide) ?_
        cases hM
        exact q_retz E hw (by decide) dX9_mayChange_132
  replace hM := i_neg hM c38
  refine q_tableD (tgt := 133) hx hb dX9_mayChange_1 (fun hq => ?_) (by decide) ?_
  · have hz : (x1).toInt = 3 ∨ (x1).toInt = 4 ∨ (x1).toInt = 5 ∨ (x1).toInt = 6 ∨ (x1).toInt = 7 := by omega
    rcases hz with hz | hz | hz | hz | hz
    · exact absurd (Int32.toInt_inj.mp (hz.trans (by decide))) c34
    · exact absurd (Int32.toInt_inj.mp (hz.trans (by decide))) c35
    · exact absurd (Int32.toInt_inj.mp (hz.trans (by decide))) c36
    · exact absurd (Int32.toInt_inj.mp (hz.trans (by decide))) c37
    · exact absurd (Int32.toInt_inj.mp (hz.trans (by decide))) c38
  refine lv_aload_n hx hb dX9_mayChange_133 rfl (lv_at hl 0 rfl) ?_
  refine lv_iload_n hx hb dX9_mayChange_134 rfl (lv_at hl 2 rfl) ?_
  refine lv_iconst (v := 4) hx hb dX9_mayChange_135 (by decide) ?_
  obtain ⟨p1, h2, hM⟩ := b_some hM
  refine q_cv (As := [.int x2, .int 4]) (rest := []) E hw hl (c_X9_is l D cA tS A h F x2 4 σ wd p1 h2) 2 (bwV bw_c tb_1261 tb_1263 tb_54 tb_112 tb_1264) rfl (by decide +kernel) ⟨Nat.le_of_ble_eq_true rfl, Nat.le_of_ble_eq_true rfl⟩ 0 9 (T := TX9) (N := 17) rfl rfl rfl rfl (Nat.le_of_ble_eq_true rfl) ⟨Nat.zero_le _, Nat.zero_le _⟩ dX9_mayChange_136 (fun H locs hw => ?_)
  obtain ⟨g3, hM⟩ := g_some hM
  cases hM
  exact q_retz E hw g3 dX9_mayChange_139
def f_X9_errorOf    (x1 : Int32) (x2 : Int32) (x3 : Int32) (x4 : Int32) (x5 : Int32) (σ : Sg) (wd : Int64) : Option (Int32) := (if x1 = 0 then (f_X9_isDay x2).bind (fun p7 => (if p7 = 0 then some (-4) else (f_X9_areHours x3 x4).bind (fun p10 => (if p10 = 0 then some (-4) else some 0)))) else if x1 = 1 then (f_X9_isLevel x2).bind (fun p13 => (if p13 = 0 then some (-4) else (f_X9_isBetween x3 0 9).bind (fun p16 => (if p16 = 0 then some (-4) else some 0)))) else if x1 = 2 then (f_X9_reportError x2 x3 x4 x5 σ wd).bind (fun p19 => some p19) else if x1 = 8 then (f_X9_joinError x2 x3 σ wd).bind (fun p21 => some p21) else if x1 = 10 then (f_X9_priorityError x2 x3 σ wd).bind (fun p23 => some p23) else (f_X9_isTicket x2 σ wd).bind (fun p1 => (if p1 = 0 then some (-2) else (f_X9_mayChange x1 x2 σ wd).bind (fun p4 => (if p4 = 0 then some (-5) else some 0)))))
set_option maxRecDepth 100000 in
set_option maxHeartbeats 4000000 in
theorem c_X9_errorOf (l : Launch) (D : va_G) (cA : Nat → ClassId) (tS : Nat → Nat) (A : Nat → Prop) (h : Nat → Nat) (F : va_W) (x1 : Int32) (x2 : Int32) (x3 : Int32) (x4 : Int32) (x5 : Int32) (σ : Sg) (wd : Int64) (r0 : Int32) (hM : f_X9_errorOf x1 x2 x3 x4 x5 σ wd = some r0) : Ct l yX9_errorOf (Cond.code yX9_errorOf cX9_errorOf 6 (some .int) :: bw) 3 67 D cA tS A [.ref (h 0), .int x1, .int x2, .int x3, .int x4, .int x5] (wM cA h σ wd ++ F) (some (.int r0)) (wM cA h σ wd ++ F) := by
  refine ct_of (by decide +kernel) (Nat.le_of_ble_eq_true rfl) ?_
  intro p e s m below meth c E hw ls hl
  replace E : Ev p cX9_errorOf 6 (some .int) RX9 (Cond.code yX9_errorOf cX9_errorOf 6 (some .int) :: bw) D cA tS A s m _ meth c := E
  replace hl : lv_has ls 6 [(0, .ref (h 0)), (1, .int x1), (2, .int x2), (3, .int x3), (4, .int x4), (5, .int x5)] := hl
  have hx := E.1.1
  have hb := E.1.2.1
  unfold f_X9_errorOf at hM
  refine lv_iload_n hx hb dX9_errorOf_0 rfl (lv_at hl 1 rfl) ?_
  by_cases c25 : x1 = 0
  · replace hM := i_pos hM c25
    refine lv_tableIn (tgt := 60) hx hb dX9_errorOf_1 (by rw [c25]; decide) (by rw [c25]; decide) (off := 59) (by rw [c25]; decide) (by decide) ?_
    refine lv_iload_n hx hb dX9_errorOf_60 rfl (lv_at hl 2 rfl) ?_
    obtain ⟨p7, h8, hM⟩ := b_some hM
    refine q_cs (As := [.int x2]) (rest := []) E hw hl (c_X9_isDay l D cA tS A (wM cA h σ wd ++ F) x2 p7 h8) 1 (bwS bw_c tb_1221 tb_1222 tb_112 tb_1223) rfl (by decide +kernel) ⟨Nat.le_of_ble_eq_true rfl, Nat.le_of_ble_eq_true rfl⟩ rfl rfl (Nat.le_of_ble_eq_true rfl) ⟨Nat.zero_le _, Nat.zero_le _⟩ dX9_errorOf_61 (fun H locs hw => ?_)
    refine lv_if_eq (tgt := 80) hx hb dX9_errorOf_64 (by decide) (fun c9 => ?_) (fun c9 => ?_)
    · replace hM := i_pos hM c9
      refine lv_bipush (v := (-4)) hx hb dX9_errorOf_80 (by decide) ?_
      cases hM
      exact q_reti E hw dX9_errorOf_82
    · replace hM := i_neg hM c9
      refine lv_iload_n hx hb dX9_errorOf_67 rfl (lv_at hl 3 rfl) ?_
      refine lv_iload hx hb dX9_errorOf_68 (lv_at hl 4 rfl) ?_
      obtain ⟨p10, h11, hM⟩ := b_some hM
      refine q_cs (As := [.int x3, .int x4]) (rest := []) E hw hl (c_X9_areHours l D cA tS A (wM cA h σ wd ++ F) x3 x4 p10 h11) 2 (bwS bw_c tb_1227 tb_1228 tb_112 tb_1229) rfl (by decide +kernel) ⟨Nat.le_of_ble_eq_true rfl, Nat.le_of_ble_eq_true rfl⟩ rfl rfl (Nat.le_of_ble_eq_true rfl) ⟨Nat.zero_le _, Nat.zero_le _⟩ dX9_errorOf_70 (fun H locs hw => ?_)
      refine lv_if_eq (tgt := 80) hx hb dX9_errorOf_73 (by decide) (fun c12 => ?_) (fun c12 => ?_)
      · replace hM := i_pos hM c12
        refine lv_bipush (v := (-4)) hx hb dX9_errorOf_80 (by decide) ?_
        cases hM
        exact q_reti E hw dX9_errorOf_82
      · replace hM := i_neg hM c12
        refine lv_iconst (v := 0) hx hb dX9_errorOf_76 (by decide) ?_
        refine lv_goto (tgt := 82) hx hb dX9_errorOf_77 (by decide) ?_
        cases hM
        exact q_reti E hw dX9_errorOf_82
  replace hM := i_neg hM c25
  by_cases c26 : x1 = 1
  · replace hM := i_pos hM c26
    refine lv_tableIn (tgt := 83) hx hb dX9_errorOf_1 (by rw [c26]; decide) (by rw [c26]; decide) (off := 82) (by rw [c26]; decide) (by decide) ?_
    refine lv_iload_n hx hb dX9_errorOf_83 rfl (lv_at hl 2 rfl) ?_
    obtain ⟨p13, h14, hM⟩ := b_some hM
    refine q_cs (As := [.int x2]) (rest := []) E hw hl (c_X9_isLevel l D cA tS A (wM cA h σ wd ++ F) x2 p13 h14) 1 (bwS bw_c tb_1230 tb_1231 tb_112 tb_1232) rfl (by decide +kernel) ⟨Nat.le_of_ble_eq_true rfl, Nat.le_of_ble_eq_true rfl⟩ rfl rfl (Nat.le_of_ble_eq_true rfl) ⟨Nat.zero_le _, Nat.zero_le _⟩ dX9_errorOf_84 (fun H locs hw => ?_)
    refine lv_if_eq (tgt := 104) hx hb dX9_errorOf_87 (by decide) (fun c15 => ?_) (fun c15 => ?_)
    · replace hM := i_pos hM c15
      refine lv_bipush (v := (-4)) hx hb dX9_errorOf_104 (by decide) ?_
      cases hM
      exact q_reti E hw dX9_errorOf_106
    · replace hM := i_neg hM c15
      refine lv_iload_n hx hb dX9_errorOf_90 rfl (lv_at hl 3 rfl) ?_
      refine lv_iconst (v := 0) hx hb dX9_errorOf_91 (by decide) ?_
      refine lv_bipush (v := 9) hx hb dX9_errorOf_92 (by decide) ?_
      obtain ⟨p16, h17, hM⟩ := b_some hM
      refine q_cs (As := [.int x3, .int 0, .int 9]) (rest := []) E hw hl (c_X9_isBetween l D cA tS A (wM cA h σ wd ++ F) x3 0 9 p16 h17) 3 (bwS bw_c tb_1224 tb_1225 tb_112 tb_1226) rfl (by decide +kernel) ⟨Nat.le_of_ble_eq_true rfl, Nat.le_of_ble_eq_true rfl⟩ rfl rfl (Nat.le_of_ble_eq_true rfl) ⟨Nat.zero_le _, Nat.zero_le _⟩ dX9_errorOf_94 (fun H locs hw => ?_)
      refine lv_if_eq (tgt := 104) hx hb dX9_errorOf_97 (by decide) (fun c18 => ?_) (fun c18 => ?_)
      · replace hM := i_pos hM c18
        refine lv_bipush (v := (-4)) hx hb dX9_errorOf_104 (by decide) ?_
        cases hM
        exact q_reti E hw dX9_errorOf_106
      · replace hM := i_neg hM c18
        refine lv_iconst (v := 0) hx hb dX9_errorOf_100 (by decide) ?_
        refine lv_goto (tgt := 106) hx hb dX9_errorOf_101 (by decide) ?_
        cases hM
        exact q_reti E hw dX9_errorOf_106
  replace hM := i_neg hM c26
  by_cases c27 : x1 = 2
  · replace hM := i_pos hM c27
    refine lv_tableIn (tgt := 107) hx hb dX9_errorOf_1 (by rw [c27]; decide) (by rw [c27]; decide) (off := 106) (by rw [c27]; decide) (by decide) ?_
    refine lv_aload_n hx hb dX9_errorOf_107 rfl (lv_at hl 0 rfl) ?_
    refine lv_iload_n hx hb dX9_errorOf_108 rfl (lv_at hl 2 rfl) ?_
    refine lv_iload_n hx hb dX9_errorOf_109 rfl (lv_at hl 3 rfl) ?_
    refine lv_iload hx hb dX9_errorOf_110 (lv_at hl 4 rfl) ?_
    refine lv_iload hx hb dX9_errorOf_112 (lv_at hl 5 rfl) ?_
    obtain ⟨p19, h20, hM⟩ := b_some hM
    refine q_cv (As := [.int x2, .int x3, .int x4, .int x5]) (rest := []) E hw hl (c_X9_reportError l D cA tS A h F x2 x3 x4 x5 σ wd p19 h20) 4 (bwV bw_c tb_1233 tb_1235 tb_47 tb_112 tb_1236) rfl (by decide +kernel) ⟨Nat.le_of_ble_eq_true rfl, Nat.le_of_ble_eq_true rfl⟩ 0 9 (T := TX9) (N := 17) rfl rfl rfl rfl (Nat.le_of_ble_eq_true rfl) ⟨Nat.zero_le _, Nat.zero_le _⟩ dX9_errorOf_114 (fun H locs hw => ?_)
    cases hM
    exact q_reti E hw dX9_errorOf_117
  replace hM := i_neg hM c27
  by_cases c28 : x1 = 8
  · replace hM := i_pos hM c28
    refine lv_tableIn (tgt := 118) hx hb dX9_errorOf_1 (by rw [c28]; decide) (by rw [c28]; decide) (off := 117) (by rw [c28]; decide) (by decide) ?_
    refine lv_aload_n hx hb dX9_errorOf_118 rfl (lv_at hl 0 rfl) ?_
    refine lv_iload_n hx hb dX9_errorOf_119 rfl (lv_at hl 2 rfl) ?_
    refine lv_iload_n hx hb dX9_errorOf_120 rfl (lv_at hl 3 rfl) ?_
    obtain ⟨p21, h22, hM⟩ := b_some hM
    refine q_cv (As := [.int x2, .int x3]) (rest := []) E hw hl (c_X9_joinError l D cA tS A h F x2 x3 σ wd p21 h22) 2 (bwV bw_c tb_1241 tb_1243 tb_49 tb_112 tb_1244) rfl (by decide +kernel) ⟨Nat.le_of_ble_eq_true rfl, Nat.le_of_ble_eq_true rfl⟩ 0 9 (T := TX9) (N := 17) rfl rfl rfl rfl (Nat.le_of_ble_eq_true rfl) ⟨Nat.zero_le _, Nat.zero_le _⟩ dX9_errorOf_121 (fun H locs hw => ?_)
    cases hM
    exact q_reti E hw dX9_errorOf_124
  replace hM := i_neg hM c28
  by_cases c29 : x1 = 10
  · replace hM := i_pos hM c29
    refine lv_tableIn (tgt := 125) hx hb dX9_errorOf_1 (by rw [c29]; decide) (by rw [c29]; decide) (off := 124) (by rw [c29]; decide) (by decide) ?_
    refine lv_aload_n hx hb dX9_errorOf_125 rfl (lv_at hl 0 rfl) ?_
    refine lv_iload_n hx hb dX9_errorOf_126 rfl (lv_at hl 2 rfl) ?_
    refine lv_iload_n hx hb dX9_errorOf_127 rfl (lv_at hl 3 rfl) ?_
    obtain ⟨p23, h24, hM⟩ := b_some hM
    refine q_cv (As := [.int x2, .int x3]) (rest := []) E hw hl (c_X9_priorityError l D cA tS A h F x2 x3 σ wd p23 h24) 2 (bwV bw_c tb_1257 tb_1259 tb_53 tb_112 tb_1260) rfl (by decide +kernel) ⟨Nat.le_of_ble_eq_true rfl, Nat.le_of_ble_eq_true rfl⟩ 0 9 (T := TX9) (N := 17) rfl rfl rfl rfl (Nat.le_of_ble_eq_true rfl) ⟨Nat.zero_le _, Nat.zero_le _⟩ dX9_errorOf_128 (fun H locs hw => ?_)
    cases hM
    exact q_reti E hw dX9_errorOf_131
  replace hM := i_neg hM c29
  refine q_tableD (tgt := 132) hx hb dX9_errorOf_1 (fun hq => ?_) (by decide) ?_
  · have hz : (x1).toInt = 0 ∨ (x1).toInt = 1 ∨ (x1).toInt = 2 ∨ (x1).toInt = 3 ∨ (x1).toInt = 4 ∨ (x1).toInt = 5 ∨ (x1).toInt = 6 ∨ (x1).toInt = 7 ∨ (x1).toInt = 8 ∨ (x1).toInt = 9 ∨ (x1).toInt = 10 := by omega
    rcases hz with hz | hz | hz | hz | hz | hz | hz | hz | hz | hz | hz
    · exact absurd (Int32.toInt_inj.mp (hz.trans (by decide))) c25
    · exact absurd (Int32.toInt_inj.mp (hz.trans (by decide))) c26
    · exact absurd (Int32.toInt_inj.mp (hz.trans (by decide))) c27
    · rw [hz]; decide
    · rw [hz]; decide
    · rw [hz]; decide
    · rw [hz]; decide
    · rw [hz]; decide
    · exact absurd (Int32.toInt_inj.mp (hz.trans (by decide))) c28
    · rw [hz]; decide
    · exact absurd (Int32.toInt_inj.mp (hz.trans (by decide))) c29
  refine lv_aload_n hx hb dX9_errorOf_132 rfl (lv_at hl 0 rfl) ?_
  refine lv_iload_n hx hb dX9_errorOf_133 rfl (lv_at hl 2 rfl) ?_
  obtain ⟨p1, h2, hM⟩ := b_some hM
  refine q_cv (As := [.int x2]) (rest := []) E hw hl (c_X9_isTicket l D cA tS A h F x2 σ wd p1 h2) 1 (bwV bw_c tb_1245 tb_1247 tb_50 tb_112 tb_1248) rfl (by decide +kernel) ⟨Nat.le_of_ble_eq_true rfl, Nat.le_of_ble_eq_true rfl⟩ 0 9 (T := TX9) (N := 17) rfl rfl rfl rfl (Nat.le_of_ble_eq_true rfl) ⟨Nat.zero_le _, Nat.zero_le _⟩ dX9_errorOf_134 (fun H locs hw => ?_)
  refine lv_if_ne (tgt := 143) hx hb dX9_errorOf_137 (by decide) (fun c3 => ?_) (fun c3 => ?_)
  · replace hM := i_neg hM c3
    refine lv_aload_n hx hb dX9_errorOf_143 rfl (lv_at hl 0 rfl) ?_
    refine lv_iload_n hx hb dX9_errorOf_144 rfl (lv_at hl 1 rfl) ?_
    refine lv_iload_n hx hb dX9_errorOf_145 rfl (lv_at hl 2 rfl) ?_
    obtain ⟨p4, h5, hM⟩ := b_some hM
    refine q_cv (As := [.int x1, .int x2]) (rest := []) E hw hl (c_X9_mayChange l D cA tS A h F x1 x2 σ wd p4 h5) 2 (bwV bw_c tb_1265 tb_1267 tb_55 tb_112 tb_1268) rfl (by decide +kernel) ⟨Nat.le_of_ble_eq_true rfl, Nat.le_of_ble_eq_true rfl⟩ 0 9 (T := TX9) (N := 17) rfl rfl rfl rfl (Nat.le_of_ble_eq_true rfl) ⟨Nat.zero_le _, Nat.zero_le _⟩ dX9_errorOf_146 (fun H locs hw => ?_)
    refine lv_if_eq (tgt := 156) hx hb dX9_errorOf_149 (by decide) (fun c6 => ?_) (fun c6 => ?_)
    · replace hM := i_pos hM c6
      refine lv_bipush (v := (-5)) hx hb dX9_errorOf_156 (by decide) ?_
      cases hM
      exact q_reti E hw dX9_errorOf_158
    · replace hM := i_neg hM c6
      refine lv_iconst (v := 0) hx hb dX9_errorOf_152 (by decide) ?_
      refine lv_goto (tgt := 158) hx hb dX9_errorOf_153 (by decide) ?_
      cases hM
      exact q_reti E hw dX9_errorOf_158
  · replace hM := i_pos hM c3
    refine lv_bipush (v := (-2)) hx hb dX9_errorOf_140 (by decide) ?_
    cases hM
    exact q_reti E hw dX9_errorOf_142
def f_X9_countOf_5 (N : Nat)   : Nat → Int32 → Int32 → Int32 → Int32 → Sg → Int64 → Option (Int32)
  | 0, _, _, _, _, _, _ => none
  | n + 1, x1, x2, x3, x4, σ, wd => (if (σ 1 (ix 56)) ≤ x4 then some x3 else (f_X9_is x4 x2 σ wd).bind (fun p2 => (if p2 = 0 then f_X9_countOf_5 N n x1 x2 (x3 + 0) (x4 + 1) σ wd else (f_X9_ticket x4 4 σ wd).bind (fun p5 => (if p5 = x1 then f_X9_countOf_5 N n x1 x2 (x3 + 1) (x4 + 1) σ wd else f_X9_countOf_5 N n x1 x2 (x3 + 0) (x4 + 1) σ wd)))))
set_option maxRecDepth 100000 in
set_option maxHeartbeats 4000000 in
theorem s_X9_countOf_5 (l : Launch) (D : va_G) (cA : Nat → ClassId) (tS : Nat → Nat) (A : Nat → Prop) (h : Nat → Nat) (F : va_W) (N : Nat) {p : Program} {e : Env} {s : State} {m : MethodId} {args : Array Value} {below : List Frame} {meth : Method} {c : Code} (E : Ev p cX9_countOf 5 (some .int) RX9 (Cond.code yX9_countOf cX9_countOf 5 (some .int) :: bw) D cA tS A s m args meth c) : ∀ (n : Nat) (x1 : Int32) (x2 : Int32) (x3 : Int32) (x4 : Int32) (σ : Sg) (wd : Int64) (r0 : Int32) (hM : f_X9_countOf_5 N n x1 x2 x3 x4 σ wd = some r0) (H : Heap) (locs : List Loc) (hw : Wd D A (wM cA h σ wd ++ F) s.heap H locs) (ls : Array Slot) (hl : lv_has ls 5 [(0, .ref (h 0)), (1, .int x1), (2, .int x2), (3, .int x3), (4, .int x4)]), W p l e ({ frames := 2, cells := 0, slots := 0, locals := 44 } : Room) s m args below meth c H locs 0 0 (MQ below (QW D A (some (.int r0)) (wM cA h σ wd ++ F)) args s 0 0 A) (F0 m 5 ls []) := by
  have hx := E.1.1
  have hb := E.1.2.1
  intro n
  induction n with
  | zero =>
    intro x1 x2 x3 x4 σ wd r0 hM
    cases hM
  | succ n ih =>
    intro x1 x2 x3 x4 σ wd r0 hM H locs hw ls hl
    rw [f_X9_countOf_5] at hM
    refine lv_iload hx hb dX9_countOf_5 (lv_at hl 4 rfl) ?_
    refine lv_aload_n hx hb dX9_countOf_7 rfl (lv_at hl 0 rfl) ?_
    refine q_get (C := RX9) (T := TX9) (N := 17) (ci := 9) E (fun w h => List.mem_cons_of_mem _ (inX9 w h)) hw 0 rfl rfl 0 (by decide) (List.mem_cons_of_mem _ tb_1157) (v := .ref (h 1)) rfl dX9_countOf_8 ?_
    refine lv_bipush (v := 56) hx hb dX9_countOf_11 (by decide) ?_
    refine q_ald E hw 1 (n := 4619) rfl (by decide +kernel) (x := (σ 1 (ix 56))) rfl dX9_countOf_13 ?_
    refine lv_icmp_ge (tgt := 52) hx hb dX9_countOf_14 (by decide) (fun c1 => ?_) (fun c1 => ?_)
    · replace hM := i_pos hM c1
      refine lv_iload_n hx hb dX9_countOf_52 rfl (lv_at hl 3 rfl) ?_
      cases hM
      exact q_reti E hw dX9_countOf_53
    · replace hM := i_neg hM c1
      refine lv_iload_n hx hb dX9_countOf_17 rfl (lv_at hl 3 rfl) ?_
      refine lv_aload_n hx hb dX9_countOf_18 rfl (lv_at hl 0 rfl) ?_
      refine lv_iload hx hb dX9_countOf_19 (lv_at hl 4 rfl) ?_
      refine lv_iload_n hx hb dX9_countOf_21 rfl (lv_at hl 2 rfl) ?_
      obtain ⟨p2, h3, hM⟩ := b_some hM
      refine q_cv (As := [.int x4, .int x2]) (rest := [.int x3]) E hw hl (c_X9_is l D cA tS A h F x4 x2 σ wd p2 h3) 2 (bwV bw_c tb_1261 tb_1263 tb_54 tb_112 tb_1264) rfl (by decide +kernel) ⟨Nat.le_of_ble_eq_true rfl, Nat.le_of_ble_eq_true rfl⟩ 0 9 (T := TX9) (N := 17) rfl rfl rfl rfl (Nat.le_of_ble_eq_true rfl) ⟨Nat.zero_le _, Nat.zero_le _⟩ dX9_countOf_22 (fun H locs hw => ?_)
      refine lv_if_eq (tgt := 43) hx hb dX9_countOf_25 (by decide) (fun c4 => ?_) (fun c4 => ?_)
      · replace hM := i_pos hM c4
        refine lv_iconst (v := 0) hx hb dX9_countOf_43 (by decide) ?_
        refine lv_iadd hx hb dX9_countOf_44 ?_
        refine lv_istore_n (lv' := [(3, .int (x3 + 0)), (0, .ref (h 0)), (1, .int x1), (2, .int x2), (4, .int x4)]) hx hb dX9_countOf_45 rfl hl (by decide) rfl (fun ls hl => ?_)
        refine lv_iinc (v := (x4 + 1)) (lv' := [(4, .int (x4 + 1)), (3, .int (x3 + 0)), (0, .ref (h 0)), (1, .int x1), (2, .int x2)]) hx hb dX9_countOf_46 hl (k := 4) rfl rfl (by decide) rfl (fun ls hl => ?_)
        refine lv_goto (tgt := 5) hx hb dX9_countOf_49 (by decide) ?_
        exact ih _ _ _ _ _ _ _ hM _ _ hw _ (lv_sub hl [2, 3, 4, 1, 0] rfl)
      · replace hM := i_neg hM c4
        refine lv_aload_n hx hb dX9_countOf_28 rfl (lv_at hl 0 rfl) ?_
        refine lv_iload hx hb dX9_countOf_29 (lv_at hl 4 rfl) ?_
        refine lv_iconst (v := 4) hx hb dX9_countOf_31 (by decide) ?_
        obtain ⟨p5, h6, hM⟩ := b_some hM
        refine q_cv (As := [.int x4, .int 4]) (rest := [.int x3]) E hw hl (c_X9_ticket l D cA tS A h F x4 4 σ wd p5 h6) 2 (bwV bw_c tb_1253 tb_1255 tb_52 tb_112 tb_1256) rfl (by decide +kernel) ⟨Nat.le_of_ble_eq_true rfl, Nat.le_of_ble_eq_true rfl⟩ 0 9 (T := TX9) (N := 17) rfl rfl rfl rfl (Nat.le_of_ble_eq_true rfl) ⟨Nat.zero_le _, Nat.zero_le _⟩ dX9_countOf_32 (fun H locs hw => ?_)
        refine lv_iload_n hx hb dX9_countOf_35 rfl (lv_at hl 1 rfl) ?_
        refine lv_icmp_ne (tgt := 43) hx hb dX9_countOf_36 (by decide) (fun c7 => ?_) (fun c7 => ?_)
        · replace hM := i_neg hM c7
          refine lv_iconst (v := 0) hx hb dX9_countOf_43 (by decide) ?_
          refine lv_iadd hx hb dX9_countOf_44 ?_
          refine lv_istore_n (lv' := [(3, .int (x3 + 0)), (0, .ref (h 0)), (1, .int x1), (2, .int x2), (4, .int x4)]) hx hb dX9_countOf_45 rfl hl (by decide) rfl (fun ls hl => ?_)
          refine lv_iinc (v := (x4 + 1)) (lv' := [(4, .int (x4 + 1)), (3, .int (x3 + 0)), (0, .ref (h 0)), (1, .int x1), (2, .int x2)]) hx hb dX9_countOf_46 hl (k := 4) rfl rfl (by decide) rfl (fun ls hl => ?_)
          refine lv_goto (tgt := 5) hx hb dX9_countOf_49 (by decide) ?_
          exact ih _ _ _ _ _ _ _ hM _ _ hw _ (lv_sub hl [2, 3, 4, 1, 0] rfl)
        · replace hM := i_pos hM c7
          refine lv_iconst (v := 1) hx hb dX9_countOf_39 (by decide) ?_
          refine lv_goto (tgt := 44) hx hb dX9_countOf_40 (by decide) ?_
          refine lv_iadd hx hb dX9_countOf_44 ?_
          refine lv_istore_n (lv' := [(3, .int (x3 + 1)), (0, .ref (h 0)), (1, .int x1), (2, .int x2), (4, .int x4)]) hx hb dX9_countOf_45 rfl hl (by decide) rfl (fun ls hl => ?_)
          refine lv_iinc (v := (x4 + 1)) (lv' := [(4, .int (x4 + 1)), (3, .int (x3 + 1)), (0, .ref (h 0)), (1, .int x1), (2, .int x2)]) hx hb dX9_countOf_46 hl (k := 4) rfl rfl (by decide) rfl (fun ls hl => ?_)
          refine lv_goto (tgt := 5) hx hb dX9_countOf_49 (by decide) ?_
          exact ih _ _ _ _ _ _ _ hM _ _ hw _ (lv_sub hl [2, 3, 4, 1, 0] rfl)
def f_X9_countOf (N : Nat)   (x1 : Int32) (x2 : Int32) (σ : Sg) (wd : Int64) : Option (Int32) := f_X9_countOf_5 N N x1 x2 0 0 σ wd
set_option maxRecDepth 100000 in
set_option maxHeartbeats 4000000 in
theorem c_X9_countOf (l : Launch) (D : va_G) (cA : Nat → ClassId) (tS : Nat → Nat) (A : Nat → Prop) (h : Nat → Nat) (F : va_W) (N : Nat) (x1 : Int32) (x2 : Int32) (σ : Sg) (wd : Int64) (r0 : Int32) (hM : f_X9_countOf N x1 x2 σ wd = some r0) : Ct l yX9_countOf (Cond.code yX9_countOf cX9_countOf 5 (some .int) :: bw) 2 44 D cA tS A [.ref (h 0), .int x1, .int x2] (wM cA h σ wd ++ F) (some (.int r0)) (wM cA h σ wd ++ F) := by
  refine ct_of (by decide +kernel) (Nat.le_of_ble_eq_true rfl) ?_
  intro p e s m below meth c E hw ls hl
  replace E : Ev p cX9_countOf 5 (some .int) RX9 (Cond.code yX9_countOf cX9_countOf 5 (some .int) :: bw) D cA tS A s m _ meth c := E
  replace hl : lv_has ls 5 [(0, .ref (h 0)), (1, .int x1), (2, .int x2)] := hl
  have hx := E.1.1
  have hb := E.1.2.1
  unfold f_X9_countOf at hM
  refine lv_iconst (v := 0) hx hb dX9_countOf_0 (by decide) ?_
  refine lv_istore_n (lv' := [(3, .int 0), (0, .ref (h 0)), (1, .int x1), (2, .int x2)]) hx hb dX9_countOf_1 rfl hl (by decide) rfl (fun ls hl => ?_)
  refine lv_iconst (v := 0) hx hb dX9_countOf_2 (by decide) ?_
  refine lv_istore (lv' := [(4, .int 0), (3, .int 0), (0, .ref (h 0)), (1, .int x1), (2, .int x2)]) hx hb dX9_countOf_3 hl (by decide) rfl (fun ls hl => ?_)
  exact s_X9_countOf_5 l D cA tS A h F N E N _ _ _ _ _ _ _ hM _ _ hw _ (lv_sub hl [2, 3, 4, 1, 0] rfl)
def f_X9_busy (N : Nat)   (x1 : Int32) (σ : Sg) (wd : Int64) : Option (Int32) := (f_X9_countOf N x1 1 σ wd).bind (fun p1 => some p1)
set_option maxRecDepth 100000 in
set_option maxHeartbeats 4000000 in
theorem c_X9_busy (l : Launch) (D : va_G) (cA : Nat → ClassId) (tS : Nat → Nat) (A : Nat → Prop) (h : Nat → Nat) (F : va_W) (N : Nat) (x1 : Int32) (σ : Sg) (wd : Int64) (r0 : Int32) (hM : f_X9_busy N x1 σ wd = some r0) : Ct l yX9_busy (Cond.code yX9_busy cX9_busy 2 (some .int) :: bw) 3 68 D cA tS A [.ref (h 0), .int x1] (wM cA h σ wd ++ F) (some (.int r0)) (wM cA h σ wd ++ F) := by
  refine ct_of (by decide +kernel) (Nat.le_of_ble_eq_true rfl) ?_
  intro p e s m below meth c E hw ls hl
  replace E : Ev p cX9_busy 2 (some .int) RX9 (Cond.code yX9_busy cX9_busy 2 (some .int) :: bw) D cA tS A s m _ meth c := E
  replace hl : lv_has ls 2 [(0, .ref (h 0)), (1, .int x1)] := hl
  have hx := E.1.1
  have hb := E.1.2.1
  unfold f_X9_busy at hM
  refine lv_aload_n hx hb dX9_busy_0 rfl (lv_at hl 0 rfl) ?_
  refine lv_iload_n hx hb dX9_busy_1 rfl (lv_at hl 1 rfl) ?_
  refine lv_iconst (v := 1) hx hb dX9_busy_2 (by decide) ?_
  obtain ⟨p1, h2, hM⟩ := b_some hM
  refine q_cv (As := [.int x1, .int 1]) (rest := []) E hw hl (c_X9_countOf l D cA tS A h F N x1 1 σ wd p1 h2) 2 (bwV bw_c tb_1281 tb_1283 tb_59 tb_112 tb_1284) rfl (by decide +kernel) ⟨Nat.le_of_ble_eq_true rfl, Nat.le_of_ble_eq_true rfl⟩ 0 9 (T := TX9) (N := 17) rfl rfl rfl rfl (Nat.le_of_ble_eq_true rfl) ⟨Nat.zero_le _, Nat.zero_le _⟩ dX9_busy_3 (fun H locs hw => ?_)
  cases hM
  exact q_reti E hw dX9_busy_6
def f_X9_makeAgents_31 (N : Nat)   : Nat → Int32 → Int32 → Int32 → Int32 → Sg → Int64 → Option (Int32 × Sg)
  | 0, _, _, _, _, _, _ => none
  | n + 1, x1, x2, x3, x4, σ, wd => (if x4 < 0 then some (x3, σ) else (f_X9_busy N x1 σ wd).bind (fun p2 => (if p2 ≤ x2 then some (x3, σ) else (f_X9_is x4 1 σ wd).bind (fun p5 => (if p5 = 0 then f_X9_makeAgents_31 N n x1 x2 x3 (x4 + (-1)) σ wd else (f_X9_ticket x4 4 σ wd).bind (fun p8 => (if p8 = x1 then (f_X9_setTicket x4 9 0 σ wd).bind (fun p11 => f_X9_makeAgents_31 N n x1 x2 x3 (x4 + (-1)) p11 wd) else f_X9_makeAgents_31 N n x1 x2 x3 (x4 + (-1)) σ wd)))))))
set_option maxRecDepth 100000 in
set_option maxHeartbeats 4000000 in
theorem s_X9_makeAgents_31 (l : Launch) (D : va_G) (cA : Nat → ClassId) (tS : Nat → Nat) (A : Nat → Prop) (h : Nat → Nat) (F : va_W) (N : Nat) {p : Program} {e : Env} {s : State} {m : MethodId} {args : Array Value} {below : List Frame} {meth : Method} {c : Code} (E : Ev p cX9_makeAgents 5 (some .int) RX9 (Cond.code yX9_makeAgents cX9_makeAgents 5 (some .int) :: bw) D cA tS A s m args meth c) : ∀ (n : Nat) (x1 : Int32) (x2 : Int32) (x3 : Int32) (x4 : Int32) (σ : Sg) (wd : Int64) (r0 : Int32) (s0 : Sg) (hM : f_X9_makeAgents_31 N n x1 x2 x3 x4 σ wd = some (r0, s0)) (H : Heap) (locs : List Loc) (hw : Wd D A (wM cA h σ wd ++ F) s.heap H locs) (ls : Array Slot) (hl : lv_has ls 5 [(0, .ref (h 0)), (1, .int x1), (2, .int x2), (3, .int x3), (4, .int x4)]), W p l e ({ frames := 4, cells := 0, slots := 0, locals := 89 } : Room) s m args below meth c H locs 0 0 (MQ below (QW D A (some (.int r0)) (wM cA h s0 wd ++ F)) args s 0 0 A) (F0 m 31 ls []) := by
  have hx := E.1.1
  have hb := E.1.2.1
  intro n
  induction n with
  | zero =>
    intro x1 x2 x3 x4 σ wd r0 s0 hM
    cases hM
  | succ n ih =>
    intro x1 x2 x3 x4 σ wd r0 s0 hM H locs hw ls hl
    rw [f_X9_makeAgents_31] at hM
    refine lv_iload hx hb dX9_makeAgents_31 (lv_at hl 4 rfl) ?_
    refine lv_if_lt (tgt := 81) hx hb dX9_makeAgents_33 (by decide) (fun c1 => ?_) (fun c1 => ?_)
    · replace hM := i_pos hM c1
      refine lv_iload_n hx hb dX9_makeAgents_81 rfl (lv_at hl 3 rfl) ?_
      cases hM
      exact q_reti E hw dX9_makeAgents_82
    · replace hM := i_neg hM c1
      refine lv_aload_n hx hb dX9_makeAgents_36 rfl (lv_at hl 0 rfl) ?_
      refine lv_iload_n hx hb dX9_makeAgents_37 rfl (lv_at hl 1 rfl) ?_
      obtain ⟨p2, h3, hM⟩ := b_some hM
      refine q_cv (As := [.int x1]) (rest := []) E hw hl (c_X9_busy l D cA tS A h F N x1 σ wd p2 h3) 1 (bwV bw_c tb_1277 tb_1279 tb_58 tb_112 tb_1280) rfl (by decide +kernel) ⟨Nat.le_of_ble_eq_true rfl, Nat.le_of_ble_eq_true rfl⟩ 0 9 (T := TX9) (N := 17) rfl rfl rfl rfl (Nat.le_of_ble_eq_true rfl) ⟨Nat.zero_le _, Nat.zero_le _⟩ dX9_makeAgents_38 (fun H locs hw => ?_)
      refine lv_iload_n hx hb dX9_makeAgents_41 rfl (lv_at hl 2 rfl) ?_
      refine lv_icmp_le (tgt := 81) hx hb dX9_makeAgents_42 (by decide) (fun c4 => ?_) (fun c4 => ?_)
      · replace hM := i_pos hM c4
        refine lv_iload_n hx hb dX9_makeAgents_81 rfl (lv_at hl 3 rfl) ?_
        cases hM
        exact q_reti E hw dX9_makeAgents_82
      · replace hM := i_neg hM c4
        refine lv_aload_n hx hb dX9_makeAgents_45 rfl (lv_at hl 0 rfl) ?_
        refine lv_iload hx hb dX9_makeAgents_46 (lv_at hl 4 rfl) ?_
        refine lv_iconst (v := 1) hx hb dX9_makeAgents_48 (by decide) ?_
        obtain ⟨p5, h6, hM⟩ := b_some hM
        refine q_cv (As := [.int x4, .int 1]) (rest := []) E hw hl (c_X9_is l D cA tS A h F x4 1 σ wd p5 h6) 2 (bwV bw_c tb_1261 tb_1263 tb_54 tb_112 tb_1264) rfl (by decide +kernel) ⟨Nat.le_of_ble_eq_true rfl, Nat.le_of_ble_eq_true rfl⟩ 0 9 (T := TX9) (N := 17) rfl rfl rfl rfl (Nat.le_of_ble_eq_true rfl) ⟨Nat.zero_le _, Nat.zero_le _⟩ dX9_makeAgents_49 (fun H locs hw => ?_)
        refine lv_if_eq (tgt := 75) hx hb dX9_makeAgents_52 (by decide) (fun c7 => ?_) (fun c7 => ?_)
        · replace hM := i_pos hM c7
          refine lv_iinc (v := (x4 + (-1))) (lv' := [(4, .int (x4 + (-1))), (0, .ref (h 0)), (1, .int x1), (2, .int x2), (3, .int x3)]) hx hb dX9_makeAgents_75 hl (k := 4) rfl rfl (by decide) rfl (fun ls hl => ?_)
          refine lv_goto (tgt := 31) hx hb dX9_makeAgents_78 (by decide) ?_
          exact ih _ _ _ _ _ _ _ _ hM _ _ hw _ (lv_sub hl [1, 2, 3, 4, 0] rfl)
        · replace hM := i_neg hM c7
          refine lv_aload_n hx hb dX9_makeAgents_55 rfl (lv_at hl 0 rfl) ?_
          refine lv_iload hx hb dX9_makeAgents_56 (lv_at hl 4 rfl) ?_
          refine lv_iconst (v := 4) hx hb dX9_makeAgents_58 (by decide) ?_
          obtain ⟨p8, h9, hM⟩ := b_some hM
          refine q_cv (As := [.int x4, .int 4]) (rest := []) E hw hl (c_X9_ticket l D cA tS A h F x4 4 σ wd p8 h9) 2 (bwV bw_c tb_1253 tb_1255 tb_52 tb_112 tb_1256) rfl (by decide +kernel) ⟨Nat.le_of_ble_eq_true rfl, Nat.le_of_ble_eq_true rfl⟩ 0 9 (T := TX9) (N := 17) rfl rfl rfl rfl (Nat.le_of_ble_eq_true rfl) ⟨Nat.zero_le _, Nat.zero_le _⟩ dX9_makeAgents_59 (fun H locs hw => ?_)
          refine lv_iload_n hx hb dX9_makeAgents_62 rfl (lv_at hl 1 rfl) ?_
          refine lv_icmp_ne (tgt := 75) hx hb dX9_makeAgents_63 (by decide) (fun c10 => ?_) (fun c10 => ?_)
          · replace hM := i_neg hM c10
            refine lv_iinc (v := (x4 + (-1))) (lv' := [(4, .int (x4 + (-1))), (0, .ref (h 0)), (1, .int x1), (2, .int x2), (3, .int x3)]) hx hb dX9_makeAgents_75 hl (k := 4) rfl rfl (by decide) rfl (fun ls hl => ?_)
            refine lv_goto (tgt := 31) hx hb dX9_makeAgents_78 (by decide) ?_
            exact ih _ _ _ _ _ _ _ _ hM _ _ hw _ (lv_sub hl [1, 2, 3, 4, 0] rfl)
          · replace hM := i_pos hM c10
            refine lv_aload_n hx hb dX9_makeAgents_66 rfl (lv_at hl 0 rfl) ?_
            refine lv_iload hx hb dX9_makeAgents_67 (lv_at hl 4 rfl) ?_
            refine lv_bipush (v := 9) hx hb dX9_makeAgents_69 (by decide) ?_
            refine lv_iconst (v := 0) hx hb dX9_makeAgents_71 (by decide) ?_
            obtain ⟨p11, h12, hM⟩ := b_some hM
            refine q_cvv (As := [.int x4, .int 9, .int 0]) (rest := []) E hw hl (c_X9_setTicket l D cA tS A h F x4 9 0 σ wd p11 h12) 3 (bwV bw_c tb_1285 tb_1287 tb_60 tb_112 tb_1288) rfl (by decide +kernel) ⟨Nat.le_of_ble_eq_true rfl, Nat.le_of_ble_eq_true rfl⟩ 0 9 (T := TX9) (N := 17) rfl rfl rfl rfl (Nat.le_of_ble_eq_true rfl) ⟨Nat.zero_le _, Nat.zero_le _⟩ dX9_makeAgents_72 (fun H locs hw => ?_)
            refine lv_iinc (v := (x4 + (-1))) (lv' := [(4, .int (x4 + (-1))), (0, .ref (h 0)), (1, .int x1), (2, .int x2), (3, .int x3)]) hx hb dX9_makeAgents_75 hl (k := 4) rfl rfl (by decide) rfl (fun ls hl => ?_)
            refine lv_goto (tgt := 31) hx hb dX9_makeAgents_78 (by decide) ?_
            exact ih _ _ _ _ _ _ _ _ hM _ _ hw _ (lv_sub hl [1, 2, 3, 4, 0] rfl)
def f_X9_makeAgents (N : Nat)   (x1 : Int32) (x2 : Int32) (σ : Sg) (wd : Int64) : Option (Int32 × Sg) := if ib (15 + x1) 4619 then f_X9_makeAgents_31 N N x1 x2 (σ 1 (ix (15 + x1))) (((up σ 1 (ix (15 + x1)) x2) 1 (ix 56)) - 1) (up σ 1 (ix (15 + x1)) x2) wd else none
set_option maxRecDepth 100000 in
set_option maxHeartbeats 4000000 in
theorem c_X9_makeAgents (l : Launch) (D : va_G) (cA : Nat → ClassId) (tS : Nat → Nat) (A : Nat → Prop) (h : Nat → Nat) (F : va_W) (N : Nat) (x1 : Int32) (x2 : Int32) (σ : Sg) (wd : Int64) (r0 : Int32) (s0 : Sg) (hM : f_X9_makeAgents N x1 x2 σ wd = some (r0, s0)) : Ct l yX9_makeAgents (Cond.code yX9_makeAgents cX9_makeAgents 5 (some .int) :: bw) 4 89 D cA tS A [.ref (h 0), .int x1, .int x2] (wM cA h σ wd ++ F) (some (.int r0)) (wM cA h s0 wd ++ F) := by
  refine ct_of (by decide +kernel) (Nat.le_of_ble_eq_true rfl) ?_
  intro p e s m below meth c E hw ls hl
  replace E : Ev p cX9_makeAgents 5 (some .int) RX9 (Cond.code yX9_makeAgents cX9_makeAgents 5 (some .int) :: bw) D cA tS A s m _ meth c := E
  replace hl : lv_has ls 5 [(0, .ref (h 0)), (1, .int x1), (2, .int x2)] := hl
  have hx := E.1.1
  have hb := E.1.2.1
  unfold f_X9_makeAgents at hM
  refine lv_aload_n hx hb dX9_makeAgents_0 rfl (lv_at hl 0 rfl) ?_
  refine q_get (C := RX9) (T := TX9) (N := 17) (ci := 9) E (fun w h => List.mem_cons_of_mem _ (inX9 w h)) hw 0 rfl rfl 0 (by decide) (List.mem_cons_of_mem _ tb_1157) (v := .ref (h 1)) rfl dX9_makeAgents_1 ?_
  refine lv_bipush (v := 15) hx hb dX9_makeAgents_4 (by decide) ?_
  refine lv_iload_n hx hb dX9_makeAgents_6 rfl (lv_at hl 1 rfl) ?_
  refine lv_iadd hx hb dX9_makeAgents_7 ?_
  obtain ⟨g1, hM⟩ := g_some hM
  refine q_ald E hw 1 (n := 4619) rfl g1 (x := (σ 1 (ix (15 + x1)))) rfl dX9_makeAgents_8 ?_
  refine lv_istore_n (lv' := [(3, .int (σ 1 (ix (15 + x1)))), (0, .ref (h 0)), (1, .int x1), (2, .int x2)]) hx hb dX9_makeAgents_9 rfl hl (by decide) rfl (fun ls hl => ?_)
  refine lv_aload_n hx hb dX9_makeAgents_10 rfl (lv_at hl 1 rfl) ?_
  refine q_get (C := RX9) (T := TX9) (N := 17) (ci := 9) E (fun w h => List.mem_cons_of_mem _ (inX9 w h)) hw 0 rfl rfl 0 (by decide) (List.mem_cons_of_mem _ tb_1157) (v := .ref (h 1)) rfl dX9_makeAgents_11 ?_
  refine lv_bipush (v := 15) hx hb dX9_makeAgents_14 (by decide) ?_
  refine lv_iload_n hx hb dX9_makeAgents_16 rfl (lv_at hl 2 rfl) ?_
  refine lv_iadd hx hb dX9_makeAgents_17 ?_
  refine lv_iload_n hx hb dX9_makeAgents_18 rfl (lv_at hl 3 rfl) ?_
  refine q_ast E hw 1 (n := 4619) rfl g1 (wM cA h (up σ 1 (ix (15 + x1)) x2) wd ++ F) st_M_1 dX9_makeAgents_19 (fun H locs hw => ?_)
  refine lv_aload_n hx hb dX9_makeAgents_20 rfl (lv_at hl 1 rfl) ?_
  refine q_get (C := RX9) (T := TX9) (N := 17) (ci := 9) E (fun w h => List.mem_cons_of_mem _ (inX9 w h)) hw 0 rfl rfl 0 (by decide) (List.mem_cons_of_mem _ tb_1157) (v := .ref (h 1)) rfl dX9_makeAgents_21 ?_
  refine lv_bipush (v := 56) hx hb dX9_makeAgents_24 (by decide) ?_
  refine q_ald E hw 1 (n := 4619) rfl (by decide +kernel) (x := ((up σ 1 (ix (15 + x1)) x2) 1 (ix 56))) rfl dX9_makeAgents_26 ?_
  refine lv_iconst (v := 1) hx hb dX9_makeAgents_27 (by decide) ?_
  refine lv_isub hx hb dX9_makeAgents_28 ?_
  refine lv_istore (lv' := [(4, .int (((up σ 1 (ix (15 + x1)) x2) 1 (ix 56)) - 1)), (3, .int (σ 1 (ix (15 + x1)))), (0, .ref (h 0)), (1, .int x1), (2, .int x2)]) hx hb dX9_makeAgents_29 hl (by decide) rfl (fun ls hl => ?_)
  exact s_X9_makeAgents_31 l D cA tS A h F N E N _ _ _ _ _ _ _ _ hM _ _ hw _ (lv_sub hl [2, 3, 4, 1, 0] rfl)
def f_X9_makeTicket_12 (N : Nat)   : Nat → Int32 → Int32 → Int32 → Int32 → Int32 → Int32 → Sg → Int64 → Option (Int32 × Sg)
  | 0, _, _, _, _, _, _, _, _ => none
  | n + 1, x1, x2, x3, x4, x5, x6, σ, wd => (if 16 ≤ x6 then (f_X9_setTicket x5 0 x1 σ wd).bind (fun p2 => (f_X9_setTicket x5 1 x2 p2 wd).bind (fun p4 => (f_X9_setTicket x5 2 x3 p4 wd).bind (fun p6 => (f_X9_setTicket x5 3 x4 p6 wd).bind (fun p8 => (f_X9_setTicket x5 10 (-1) p8 wd).bind (fun p10 => (f_X9_setTicket x5 11 (p10 1 (ix 0)) p10 wd).bind (fun p12 => (f_X9_setTicket x5 12 (-1) p12 wd).bind (fun p14 => (f_X9_setTicket x5 13 (-1) p14 wd).bind (fun p16 => (f_X9_log ((up p16 1 (ix 56) ((p16 1 (ix 56)) + 1)) 1 (ix 0)) 0 x5 x1 (up p16 1 (ix 56) ((p16 1 (ix 56)) + 1)) wd).bind (fun p18 => some (x5, p18)))))))))) else (f_X9_setTicket x5 x6 0 σ wd).bind (fun p20 => f_X9_makeTicket_12 N n x1 x2 x3 x4 x5 (x6 + 1) p20 wd))
set_option maxRecDepth 100000 in
set_option maxHeartbeats 4000000 in
theorem s_X9_makeTicket_12 (l : Launch) (D : va_G) (cA : Nat → ClassId) (tS : Nat → Nat) (A : Nat → Prop) (h : Nat → Nat) (F : va_W) (N : Nat) {p : Program} {e : Env} {s : State} {m : MethodId} {args : Array Value} {below : List Frame} {meth : Method} {c : Code} (E : Ev p cX9_makeTicket 7 (some .int) RX9 (Cond.code yX9_makeTicket cX9_makeTicket 7 (some .int) :: bw) D cA tS A s m args meth c) : ∀ (n : Nat) (x1 : Int32) (x2 : Int32) (x3 : Int32) (x4 : Int32) (x5 : Int32) (x6 : Int32) (σ : Sg) (wd : Int64) (r0 : Int32) (s0 : Sg) (hM : f_X9_makeTicket_12 N n x1 x2 x3 x4 x5 x6 σ wd = some (r0, s0)) (H : Heap) (locs : List Loc) (hw : Wd D A (wM cA h σ wd ++ F) s.heap H locs) (ls : Array Slot) (hl : lv_has ls 7 [(0, .ref (h 0)), (1, .int x1), (2, .int x2), (3, .int x3), (4, .int x4), (5, .int x5), (6, .int x6)]), W p l e ({ frames := 1, cells := 0, slots := 0, locals := 25 } : Room) s m args below meth c H locs 0 0 (MQ below (QW D A (some (.int r0)) (wM cA h s0 wd ++ F)) args s 0 0 A) (F0 m 12 ls []) := by
  have hx := E.1.1
  have hb := E.1.2.1
  intro n
  induction n with
  | zero =>
    intro x1 x2 x3 x4 x5 x6 σ wd r0 s0 hM
    cases hM
  | succ n ih =>
    intro x1 x2 x3 x4 x5 x6 σ wd r0 s0 hM H locs hw ls hl
    rw [f_X9_makeTicket_12] at hM
    refine lv_iload hx hb dX9_makeTicket_12 (lv_at hl 6 rfl) ?_
    refine lv_bipush (v := 16) hx hb dX9_makeTicket_14 (by decide) ?_
    refine lv_icmp_ge (tgt := 34) hx hb dX9_makeTicket_16 (by decide) (fun c1 => ?_) (fun c1 => ?_)
    · replace hM := i_pos hM c1
      refine lv_aload_n hx hb dX9_makeTicket_34 rfl (lv_at hl 0 rfl) ?_
      refine lv_iload hx hb dX9_makeTicket_35 (lv_at hl 5 rfl) ?_
      refine lv_iconst (v := 0) hx hb dX9_makeTicket_37 (by decide) ?_
      refine lv_iload_n hx hb dX9_makeTicket_38 rfl (lv_at hl 1 rfl) ?_
      obtain ⟨p2, h3, hM⟩ := b_some hM
      refine q_cvv (As := [.int x5, .int 0, .int x1]) (rest := []) E hw hl (c_X9_setTicket l D cA tS A h F x5 0 x1 σ wd p2 h3) 3 (bwV bw_c tb_1285 tb_1287 tb_60 tb_112 tb_1288) rfl (by decide +kernel) ⟨Nat.le_of_ble_eq_true rfl, Nat.le_of_ble_eq_true rfl⟩ 0 9 (T := TX9) (N := 17) rfl rfl rfl rfl (Nat.le_of_ble_eq_true rfl) ⟨Nat.zero_le _, Nat.zero_le _⟩ dX9_makeTicket_39 (fun H locs hw => ?_)
      refine lv_aload_n hx hb dX9_makeTicket_42 rfl (lv_at hl 0 rfl) ?_
      refine lv_iload hx hb dX9_makeTicket_43 (lv_at hl 5 rfl) ?_
      refine lv_iconst (v := 1) hx hb dX9_makeTicket_45 (by decide) ?_
      refine lv_iload_n hx hb dX9_makeTicket_46 rfl (lv_at hl 2 rfl) ?_
      obtain ⟨p4, h5, hM⟩ := b_some hM
      refine q_cvv (As := [.int x5, .int 1, .int x2]) (rest := []) E hw hl (c_X9_setTicket l D cA tS A h F x5 1 x2 p2 wd p4 h5) 3 (bwV bw_c tb_1285 tb_1287 tb_60 tb_112 tb_1288) rfl (by decide +kernel) ⟨Nat.le_of_ble_eq_true rfl, Nat.le_of_ble_eq_true rfl⟩ 0 9 (T := TX9) (N := 17) rfl rfl rfl rfl (Nat.le_of_ble_eq_true rfl) ⟨Nat.zero_le _, Nat.zero_le _⟩ dX9_makeTicket_47 (fun H locs hw => ?_)
      refine lv_aload_n hx hb dX9_makeTicket_50 rfl (lv_at hl 0 rfl) ?_
      refine lv_iload hx hb dX9_makeTicket_51 (lv_at hl 5 rfl) ?_
      refine lv_iconst (v := 2) hx hb dX9_makeTicket_53 (by decide) ?_
      refine lv_iload_n hx hb dX9_makeTicket_54 rfl (lv_at hl 3 rfl) ?_
      obtain ⟨p6, h7, hM⟩ := b_some hM
      refine q_cvv (As := [.int x5, .int 2, .int x3]) (rest := []) E hw hl (c_X9_setTicket l D cA tS A h F x5 2 x3 p4 wd p6 h7) 3 (bwV bw_c tb_1285 tb_1287 tb_60 tb_112 tb_1288) rfl (by decide +kernel) ⟨Nat.le_of_ble_eq_true rfl, Nat.le_of_ble_eq_true rfl⟩ 0 9 (T := TX9) (N := 17) rfl rfl rfl rfl (Nat.le_of_ble_eq_true rfl) ⟨Nat.zero_le _, Nat.zero_le _⟩ dX9_makeTicket_55 (fun H locs hw => ?_)
      refine lv_aload_n hx hb dX9_makeTicket_58 rfl (lv_at hl 0 rfl) ?_
      refine lv_iload hx hb dX9_makeTicket_59 (lv_at hl 5 rfl) ?_
      refine lv_iconst (v := 3) hx hb dX9_makeTicket_61 (by decide) ?_
      refine lv_iload hx hb dX9_makeTicket_62 (lv_at hl 4 rfl) ?_
      obtain ⟨p8, h9, hM⟩ := b_some hM
      refine q_cvv (As := [.int x5, .int 3, .int x4]) (rest := []) E hw hl (c_X9_setTicket l D cA tS A h F x5 3 x4 p6 wd p8 h9) 3 (bwV bw_c tb_1285 tb_1287 tb_60 tb_112 tb_1288) rfl (by decide +kernel) ⟨Nat.le_of_ble_eq_true rfl, Nat.le_of_ble_eq_true rfl⟩ 0 9 (T := TX9) (N := 17) rfl rfl rfl rfl (Nat.le_of_ble_eq_true rfl) ⟨Nat.zero_le _, Nat.zero_le _⟩ dX9_makeTicket_64 (fun H locs hw => ?_)
      refine lv_aload_n hx hb dX9_makeTicket_67 rfl (lv_at hl 0 rfl) ?_
      refine lv_iload hx hb dX9_makeTicket_68 (lv_at hl 5 rfl) ?_
      refine lv_bipush (v := 10) hx hb dX9_makeTicket_70 (by decide) ?_
      refine lv_iconst (v := (-1)) hx hb dX9_makeTicket_72 (by decide) ?_
      obtain ⟨p10, h11, hM⟩ := b_some hM
      refine q_cvv (As := [.int x5, .int 10, .int (-1)]) (rest := []) E hw hl (c_X9_setTicket l D cA tS A h F x5 10 (-1) p8 wd p10 h11) 3 (bwV bw_c tb_1285 tb_1287 tb_60 tb_112 tb_1288) rfl (by decide +kernel) ⟨Nat.le_of_ble_eq_true rfl, Nat.le_of_ble_eq_true rfl⟩ 0 9 (T := TX9) (N := 17) rfl rfl rfl rfl (Nat.le_of_ble_eq_true rfl) ⟨Nat.zero_le _, Nat.zero_le _⟩ dX9_makeTicket_73 (fun H locs hw => ?_)
      refine lv_aload_n hx hb dX9_makeTicket_76 rfl (lv_at hl 0 rfl) ?_
      refine lv_iload hx hb dX9_makeTicket_77 (lv_at hl 5 rfl) ?_
      refine lv_bipush (v := 11) hx hb dX9_makeTicket_79 (by decide) ?_
      refine lv_aload_n hx hb dX9_makeTicket_81 rfl (lv_at hl 0 rfl) ?_
      refine q_get (C := RX9) (T := TX9) (N := 17) (ci := 9) E (fun w h => List.mem_cons_of_mem _ (inX9 w h)) hw 0 rfl rfl 0 (by decide) (List.mem_cons_of_mem _ tb_1157) (v := .ref (h 1)) rfl dX9_makeTicket_82 ?_
      refine lv_iconst (v := 0) hx hb dX9_makeTicket_85 (by decide) ?_
      refine q_ald E hw 1 (n := 4619) rfl (by decide +kernel) (x := (p10 1 (ix 0))) rfl dX9_makeTicket_86 ?_
      obtain ⟨p12, h13, hM⟩ := b_some hM
      refine q_cvv (As := [.int x5, .int 11, .int (p10 1 (ix 0))]) (rest := []) E hw hl (c_X9_setTicket l D cA tS A h F x5 11 (p10 1 (ix 0)) p10 wd p12 h13) 3 (bwV bw_c tb_1285 tb_1287 tb_60 tb_112 tb_1288) rfl (by decide +kernel) ⟨Nat.le_of_ble_eq_true rfl, Nat.le_of_ble_eq_true rfl⟩ 0 9 (T := TX9) (N := 17) rfl rfl rfl rfl (Nat.le_of_ble_eq_true rfl) ⟨Nat.zero_le _, Nat.zero_le _⟩ dX9_makeTicket_87 (fun H locs hw => ?_)
      refine lv_aload_n hx hb dX9_makeTicket_90 rfl (lv_at hl 0 rfl) ?_
      refine lv_iload hx hb dX9_makeTicket_91 (lv_at hl 5 rfl) ?_
      refine lv_bipush (v := 12) hx hb dX9_makeTicket_93 (by decide) ?_
      refine lv_iconst (v := (-1)) hx hb dX9_makeTicket_95 (by decide) ?_
      obtain ⟨p14, h15, hM⟩ := b_some hM
      refine q_cvv (As := [.int x5, .int 12, .int (-1)]) (rest := []) E hw hl (c_X9_setTicket l D cA tS A h F x5 12 (-1) p12 wd p14 h15) 3 (bwV bw_c tb_1285 tb_1287 tb_60 tb_112 tb_1288) rfl (by decide +kernel) ⟨Nat.le_of_ble_eq_true rfl, Nat.le_of_ble_eq_true rfl⟩ 0 9 (T := TX9) (N := 17) rfl rfl rfl rfl (Nat.le_of_ble_eq_true rfl) ⟨Nat.zero_le _, Nat.zero_le _⟩ dX9_makeTicket_96 (fun H locs hw => ?_)
      refine lv_aload_n hx hb dX9_makeTicket_99 rfl (lv_at hl 0 rfl) ?_
      refine lv_iload hx hb dX9_makeTicket_100 (lv_at hl 5 rfl) ?_
      refine lv_bipush (v := 13) hx hb dX9_makeTicket_102 (by decide) ?_
      refine lv_iconst (v := (-1)) hx hb dX9_makeTicket_104 (by decide) ?_
      obtain ⟨p16, h17, hM⟩ := b_some hM
      refine q_cvv (As := [.int x5, .int 13, .int (-1)]) (rest := []) E hw hl (c_X9_setTicket l D cA tS A h F x5 13 (-1) p14 wd p16 h17) 3 (bwV bw_c tb_1285 tb_1287 tb_60 tb_112 tb_1288) rfl (by decide +kernel) ⟨Nat.le_of_ble_eq_true rfl, Nat.le_of_ble_eq_true rfl⟩ 0 9 (T := TX9) (N := 17) rfl rfl rfl rfl (Nat.le_of_ble_eq_true rfl) ⟨Nat.zero_le _, Nat.zero_le _⟩ dX9_makeTicket_105 (fun H locs hw => ?_)
      refine lv_aload_n hx hb dX9_makeTicket_108 rfl (lv_at hl 0 rfl) ?_
      refine q_get (C := RX9) (T := TX9) (N := 17) (ci := 9) E (fun w h => List.mem_cons_of_mem _ (inX9 w h)) hw 0 rfl rfl 0 (by decide) (List.mem_cons_of_mem _ tb_1157) (v := .ref (h 1)) rfl dX9_makeTicket_109 ?_
      refine lv_bipush (v := 56) hx hb dX9_makeTicket_112 (by decide) ?_
      refine lv_dup2_11 hx hb dX9_makeTicket_114 rfl rfl ?_
      refine q_ald E hw 1 (n := 4619) rfl (by decide +kernel) (x := (p16 1 (ix 56))) rfl dX9_makeTicket_115 ?_
      refine lv_iconst (v := 1) hx hb dX9_makeTicket_116 (by decide) ?_
      refine lv_iadd hx hb dX9_makeTicket_117 ?_
      refine q_ast E hw 1 (n := 4619) rfl (by decide +kernel) (wM cA h (up p16 1 (ix 56) ((p16 1 (ix 56)) + 1)) wd ++ F) st_M_1 dX9_makeTicket_118 (fun H locs hw => ?_)
      refine lv_aload_n hx hb dX9_makeTicket_119 rfl (lv_at hl 0 rfl) ?_
      refine lv_aload_n hx hb dX9_makeTicket_120 rfl (lv_at hl 0 rfl) ?_
      refine q_get (C := RX9) (T := TX9) (N := 17) (ci := 9) E (fun w h => List.mem_cons_of_mem _ (inX9 w h)) hw 0 rfl rfl 0 (by decide) (List.mem_cons_of_mem _ tb_1157) (v := .ref (h 1)) rfl dX9_makeTicket_121 ?_
      refine lv_iconst (v := 0) hx hb dX9_makeTicket_124 (by decide) ?_
      refine q_ald E hw 1 (n := 4619) rfl (by decide +kernel) (x := ((up p16 1 (ix 56) ((p16 1 (ix 56)) + 1)) 1 (ix 0))) rfl dX9_makeTicket_125 ?_
      refine lv_iconst (v := 0) hx hb dX9_makeTicket_126 (by decide) ?_
      refine lv_iload hx hb dX9_makeTicket_127 (lv_at hl 5 rfl) ?_
      refine lv_iload_n hx hb dX9_makeTicket_129 rfl (lv_at hl 1 rfl) ?_
      obtain ⟨p18, h19, hM⟩ := b_some hM
      refine q_cvv (As := [.int ((up p16 1 (ix 56) ((p16 1 (ix 56)) + 1)) 1 (ix 0)), .int 0, .int x5, .int x1]) (rest := []) E hw hl (c_X9_log l D cA tS A h F ((up p16 1 (ix 56) ((p16 1 (ix 56)) + 1)) 1 (ix 0)) 0 x5 x1 (up p16 1 (ix 56) ((p16 1 (ix 56)) + 1)) wd p18 h19) 4 (bwV bw_c tb_1293 tb_1295 tb_62 tb_112 tb_1296) rfl (by decide +kernel) ⟨Nat.le_of_ble_eq_true rfl, Nat.le_of_ble_eq_true rfl⟩ 0 9 (T := TX9) (N := 17) rfl rfl rfl rfl (Nat.le_of_ble_eq_true rfl) ⟨Nat.zero_le _, Nat.zero_le _⟩ dX9_makeTicket_130 (fun H locs hw => ?_)
      refine lv_iload hx hb dX9_makeTicket_133 (lv_at hl 5 rfl) ?_
      cases hM
      exact q_reti E hw dX9_makeTicket_135
    · replace hM := i_neg hM c1
      refine lv_aload_n hx hb dX9_makeTicket_19 rfl (lv_at hl 0 rfl) ?_
      refine lv_iload hx hb dX9_makeTicket_20 (lv_at hl 5 rfl) ?_
      refine lv_iload hx hb dX9_makeTicket_22 (lv_at hl 6 rfl) ?_
      refine lv_iconst (v := 0) hx hb dX9_makeTicket_24 (by decide) ?_
      obtain ⟨p20, h21, hM⟩ := b_some hM
      refine q_cvv (As := [.int x5, .int x6, .int 0]) (rest := []) E hw hl (c_X9_setTicket l D cA tS A h F x5 x6 0 σ wd p20 h21) 3 (bwV bw_c tb_1285 tb_1287 tb_60 tb_112 tb_1288) rfl (by decide +kernel) ⟨Nat.le_of_ble_eq_true rfl, Nat.le_of_ble_eq_true rfl⟩ 0 9 (T := TX9) (N := 17) rfl rfl rfl rfl (Nat.le_of_ble_eq_true rfl) ⟨Nat.zero_le _, Nat.zero_le _⟩ dX9_makeTicket_25 (fun H locs hw => ?_)
      refine lv_iinc (v := (x6 + 1)) (lv' := [(6, .int (x6 + 1)), (0, .ref (h 0)), (1, .int x1), (2, .int x2), (3, .int x3), (4, .int x4), (5, .int x5)]) hx hb dX9_makeTicket_28 hl (k := 6) rfl rfl (by decide) rfl (fun ls hl => ?_)
      refine lv_goto (tgt := 12) hx hb dX9_makeTicket_31 (by decide) ?_
      exact ih _ _ _ _ _ _ _ _ _ _ hM _ _ hw _ (lv_sub hl [1, 2, 3, 4, 5, 6, 0] rfl)
def f_X9_makeTicket (N : Nat)   (x1 : Int32) (x2 : Int32) (x3 : Int32) (x4 : Int32) (σ : Sg) (wd : Int64) : Option (Int32 × Sg) := f_X9_makeTicket_12 N N x1 x2 x3 x4 (σ 1 (ix 56)) 0 σ wd
set_option maxRecDepth 100000 in
set_option maxHeartbeats 4000000 in
theorem c_X9_makeTicket (l : Launch) (D : va_G) (cA : Nat → ClassId) (tS : Nat → Nat) (A : Nat → Prop) (h : Nat → Nat) (F : va_W) (N : Nat) (x1 : Int32) (x2 : Int32) (x3 : Int32) (x4 : Int32) (σ : Sg) (wd : Int64) (r0 : Int32) (s0 : Sg) (hM : f_X9_makeTicket N x1 x2 x3 x4 σ wd = some (r0, s0)) : Ct l yX9_makeTicket (Cond.code yX9_makeTicket cX9_makeTicket 7 (some .int) :: bw) 1 25 D cA tS A [.ref (h 0), .int x1, .int x2, .int x3, .int x4] (wM cA h σ wd ++ F) (some (.int r0)) (wM cA h s0 wd ++ F) := by
  refine ct_of (by decide +kernel) (Nat.le_of_ble_eq_true rfl) ?_
  intro p e s m below meth c E hw ls hl
  replace E : Ev p cX9_makeTicket 7 (some .int) RX9 (Cond.code yX9_makeTicket cX9_makeTicket 7 (some .int) :: bw) D cA tS A s m _ meth c := E
  replace hl : lv_has ls 7 [(0, .ref (h 0)), (1, .int x1), (2, .int x2), (3, .int x3), (4, .int x4)] := hl
  have hx := E.1.1
  have hb := E.1.2.1
  unfold f_X9_makeTicket at hM
  refine lv_aload_n hx hb dX9_makeTicket_0 rfl (lv_at hl 0 rfl) ?_
  refine q_get (C := RX9) (T := TX9) (N := 17) (ci := 9) E (fun w h => List.mem_cons_of_mem _ (inX9 w h)) hw 0 rfl rfl 0 (by decide) (List.mem_cons_of_mem _ tb_1157) (v := .ref (h 1)) rfl dX9_makeTicket_1 ?_
  refine lv_bipush (v := 56) hx hb dX9_makeTicket_4 (by decide) ?_
  refine q_ald E hw 1 (n := 4619) rfl (by decide +kernel) (x := (σ 1 (ix 56))) rfl dX9_makeTicket_6 ?_
  refine lv_istore (lv' := [(5, .int (σ 1 (ix 56))), (0, .ref (h 0)), (1, .int x1), (2, .int x2), (3, .int x3), (4, .int x4)]) hx hb dX9_makeTicket_7 hl (by decide) rfl (fun ls hl => ?_)
  refine lv_iconst (v := 0) hx hb dX9_makeTicket_9 (by decide) ?_
  refine lv_istore (lv' := [(6, .int 0), (5, .int (σ 1 (ix 56))), (0, .ref (h 0)), (1, .int x1), (2, .int x2), (3, .int x3), (4, .int x4)]) hx hb dX9_makeTicket_10 hl (by decide) rfl (fun ls hl => ?_)
  exact s_X9_makeTicket_12 l D cA tS A h F N E N _ _ _ _ _ _ _ _ _ _ hM _ _ hw _ (lv_sub hl [2, 3, 4, 5, 6, 1, 0] rfl)
def f_X9_letClimb    (x1 : Int32) (x2 : Int32) (σ : Sg) (wd : Int64) : Option (Sg) := (f_X9_ticket x1 4 σ wd).bind (fun p1 => (f_X9_setTicket x1 4 (p1 + 1) σ wd).bind (fun p3 => (f_X9_setTicket x1 9 0 p3 wd).bind (fun p5 => (f_X9_setTicket x1 5 0 p5 wd).bind (fun p7 => (f_X9_setTicket x1 6 0 p7 wd).bind (fun p9 => (f_X9_ticket x1 4 p9 wd).bind (fun p11 => (f_X9_log x2 4 x1 p11 p9 wd).bind (fun p13 => some p13)))))))
set_option maxRecDepth 100000 in
set_option maxHeartbeats 4000000 in
theorem c_X9_letClimb (l : Launch) (D : va_G) (cA : Nat → ClassId) (tS : Nat → Nat) (A : Nat → Prop) (h : Nat → Nat) (F : va_W) (x1 : Int32) (x2 : Int32) (σ : Sg) (wd : Int64) (s0 : Sg) (hM : f_X9_letClimb x1 x2 σ wd = some s0) : Ct l yX9_letClimb (Cond.code yX9_letClimb cX9_letClimb 3 none :: bw) 1 25 D cA tS A [.ref (h 0), .int x1, .int x2] (wM cA h σ wd ++ F) none (wM cA h s0 wd ++ F) := by
  refine ct_of (by decide +kernel) (Nat.le_of_ble_eq_true rfl) ?_
  intro p e s m below meth c E hw ls hl
  replace E : Ev p cX9_letClimb 3 none RX9 (Cond.code yX9_letClimb cX9_letClimb 3 none :: bw) D cA tS A s m _ meth c := E
  replace hl : lv_has ls 3 [(0, .ref (h 0)), (1, .int x1), (2, .int x2)] := hl
  have hx := E.1.1
  have hb := E.1.2.1
  unfold f_X9_letClimb at hM
  refine lv_aload_n hx hb dX9_letClimb_0 rfl (lv_at hl 0 rfl) ?_
  refine lv_iload_n hx hb dX9_letClimb_1 rfl (lv_at hl 1 rfl) ?_
  refine lv_iconst (v := 4) hx hb dX9_letClimb_2 (by decide) ?_
  refine lv_aload_n hx hb dX9_letClimb_3 rfl (lv_at hl 0 rfl) ?_
  refine lv_iload_n hx hb dX9_letClimb_4 rfl (lv_at hl 1 rfl) ?_
  refine lv_iconst (v := 4) hx hb dX9_letClimb_5 (by decide) ?_
  obtain ⟨p1, h2, hM⟩ := b_some hM
  refine q_cv (As := [.int x1, .int 4]) (rest := [.int 4, .int x1, .ref (h 0)]) E hw hl (c_X9_ticket l D cA tS A h F x1 4 σ wd p1 h2) 2 (bwV bw_c tb_1253 tb_1255 tb_52 tb_112 tb_1256) rfl (by decide +kernel) ⟨Nat.le_of_ble_eq_true rfl, Nat.le_of_ble_eq_true rfl⟩ 0 9 (T := TX9) (N := 17) rfl rfl rfl rfl (Nat.le_of_ble_eq_true rfl) ⟨Nat.zero_le _, Nat.zero_le _⟩ dX9_letClimb_6 (fun H locs hw => ?_)
  refine lv_iconst (v := 1) hx hb dX9_letClimb_9 (by decide) ?_
  refine lv_iadd hx hb dX9_letClimb_10 ?_
  obtain ⟨p3, h4, hM⟩ := b_some hM
  refine q_cvv (As := [.int x1, .int 4, .int (p1 + 1)]) (rest := []) E hw hl (c_X9_setTicket l D cA tS A h F x1 4 (p1 + 1) σ wd p3 h4) 3 (bwV bw_c tb_1285 tb_1287 tb_60 tb_112 tb_1288) rfl (by decide +kernel) ⟨Nat.le_of_ble_eq_true rfl, Nat.le_of_ble_eq_true rfl⟩ 0 9 (T := TX9) (N := 17) rfl rfl rfl rfl (Nat.le_of_ble_eq_true rfl) ⟨Nat.zero_le _, Nat.zero_le _⟩ dX9_letClimb_11 (fun H locs hw => ?_)
  refine lv_aload_n hx hb dX9_letClimb_14 rfl (lv_at hl 0 rfl) ?_
  refine lv_iload_n hx hb dX9_letClimb_15 rfl (lv_at hl 1 rfl) ?_
  refine lv_bipush (v := 9) hx hb dX9_letClimb_16 (by decide) ?_
  refine lv_iconst (v := 0) hx hb dX9_letClimb_18 (by decide) ?_
  obtain ⟨p5, h6, hM⟩ := b_some hM
  refine q_cvv (As := [.int x1, .int 9, .int 0]) (rest := []) E hw hl (c_X9_setTicket l D cA tS A h F x1 9 0 p3 wd p5 h6) 3 (bwV bw_c tb_1285 tb_1287 tb_60 tb_112 tb_1288) rfl (by decide +kernel) ⟨Nat.le_of_ble_eq_true rfl, Nat.le_of_ble_eq_true rfl⟩ 0 9 (T := TX9) (N := 17) rfl rfl rfl rfl (Nat.le_of_ble_eq_true rfl) ⟨Nat.zero_le _, Nat.zero_le _⟩ dX9_letClimb_19 (fun H locs hw => ?_)
  refine lv_aload_n hx hb dX9_letClimb_22 rfl (lv_at hl 0 rfl) ?_
  refine lv_iload_n hx hb dX9_letClimb_23 rfl (lv_at hl 1 rfl) ?_
  refine lv_iconst (v := 5) hx hb dX9_letClimb_24 (by decide) ?_
  refine lv_iconst (v := 0) hx hb dX9_letClimb_25 (by decide) ?_
  obtain ⟨p7, h8, hM⟩ := b_some hM
  refine q_cvv (As := [.int x1, .int 5, .int 0]) (rest := []) E hw hl (c_X9_setTicket l D cA tS A h F x1 5 0 p5 wd p7 h8) 3 (bwV bw_c tb_1285 tb_1287 tb_60 tb_112 tb_1288) rfl (by decide +kernel) ⟨Nat.le_of_ble_eq_true rfl, Nat.le_of_ble_eq_true rfl⟩ 0 9 (T := TX9) (N := 17) rfl rfl rfl rfl (Nat.le_of_ble_eq_true rfl) ⟨Nat.zero_le _, Nat.zero_le _⟩ dX9_letClimb_26 (fun H locs hw => ?_)
  refine lv_aload_n hx hb dX9_letClimb_29 rfl (lv_at hl 0 rfl) ?_
  refine lv_iload_n hx hb dX9_letClimb_30 rfl (lv_at hl 1 rfl) ?_
  refine lv_bipush (v := 6) hx hb dX9_letClimb_31 (by decide) ?_
  refine lv_iconst (v := 0) hx hb dX9_letClimb_33 (by decide) ?_
  obtain ⟨p9, h10, hM⟩ := b_some hM
  refine q_cvv (As := [.int x1, .int 6, .int 0]) (rest := []) E hw hl (c_X9_setTicket l D cA tS A h F x1 6 0 p7 wd p9 h10) 3 (bwV bw_c tb_1285 tb_1287 tb_60 tb_112 tb_1288) rfl (by decide +kernel) ⟨Nat.le_of_ble_eq_true rfl, Nat.le_of_ble_eq_true rfl⟩ 0 9 (T := TX9) (N := 17) rfl rfl rfl rfl (Nat.le_of_ble_eq_true rfl) ⟨Nat.zero_le _, Nat.zero_le _⟩ dX9_letClimb_34 (fun H locs hw => ?_)
  refine lv_aload_n hx hb dX9_letClimb_37 rfl (lv_at hl 0 rfl) ?_
  refine lv_iload_n hx hb dX9_letClimb_38 rfl (lv_at hl 2 rfl) ?_
  refine lv_iconst (v := 4) hx hb dX9_letClimb_39 (by decide) ?_
  refine lv_iload_n hx hb dX9_letClimb_40 rfl (lv_at hl 1 rfl) ?_
  refine lv_aload_n hx hb dX9_letClimb_41 rfl (lv_at hl 0 rfl) ?_
  refine lv_iload_n hx hb dX9_letClimb_42 rfl (lv_at hl 1 rfl) ?_
  refine lv_iconst (v := 4) hx hb dX9_letClimb_43 (by decide) ?_
  obtain ⟨p11, h12, hM⟩ := b_some hM
  refine q_cv (As := [.int x1, .int 4]) (rest := [.int x1, .int 4, .int x2, .ref (h 0)]) E hw hl (c_X9_ticket l D cA tS A h F x1 4 p9 wd p11 h12) 2 (bwV bw_c tb_1253 tb_1255 tb_52 tb_112 tb_1256) rfl (by decide +kernel) ⟨Nat.le_of_ble_eq_true rfl, Nat.le_of_ble_eq_true rfl⟩ 0 9 (T := TX9) (N := 17) rfl rfl rfl rfl (Nat.le_of_ble_eq_true rfl) ⟨Nat.zero_le _, Nat.zero_le _⟩ dX9_letClimb_44 (fun H locs hw => ?_)
  obtain ⟨p13, h14, hM⟩ := b_some hM
  refine q_cvv (As := [.int x2, .int 4, .int x1, .int p11]) (rest := []) E hw hl (c_X9_log l D cA tS A h F x2 4 x1 p11 p9 wd p13 h14) 4 (bwV bw_c tb_1293 tb_1295 tb_62 tb_112 tb_1296) rfl (by decide +kernel) ⟨Nat.le_of_ble_eq_true rfl, Nat.le_of_ble_eq_true rfl⟩ 0 9 (T := TX9) (N := 17) rfl rfl rfl rfl (Nat.le_of_ble_eq_true rfl) ⟨Nat.zero_le _, Nat.zero_le _⟩ dX9_letClimb_47 (fun H locs hw => ?_)
  cases hM
  exact q_retv E hw dX9_letClimb_50
def f_X9_solveOne    (x1 : Int32) (x2 : Int32) (σ : Sg) (wd : Int64) : Option (Sg) := (f_X9_setTicket x1 9 3 σ wd).bind (fun p1 => (f_X9_setTicket x1 13 x2 p1 wd).bind (fun p3 => (f_X9_log x2 5 x1 0 p3 wd).bind (fun p5 => some p5)))
set_option maxRecDepth 100000 in
set_option maxHeartbeats 4000000 in
theorem c_X9_solveOne (l : Launch) (D : va_G) (cA : Nat → ClassId) (tS : Nat → Nat) (A : Nat → Prop) (h : Nat → Nat) (F : va_W) (x1 : Int32) (x2 : Int32) (σ : Sg) (wd : Int64) (s0 : Sg) (hM : f_X9_solveOne x1 x2 σ wd = some s0) : Ct l yX9_solveOne (Cond.code yX9_solveOne cX9_solveOne 3 none :: bw) 1 25 D cA tS A [.ref (h 0), .int x1, .int x2] (wM cA h σ wd ++ F) none (wM cA h s0 wd ++ F) := by
  refine ct_of (by decide +kernel) (Nat.le_of_ble_eq_true rfl) ?_
  intro p e s m below meth c E hw ls hl
  replace E : Ev p cX9_solveOne 3 none RX9 (Cond.code yX9_solveOne cX9_solveOne 3 none :: bw) D cA tS A s m _ meth c := E
  replace hl : lv_has ls 3 [(0, .ref (h 0)), (1, .int x1), (2, .int x2)] := hl
  have hx := E.1.1
  have hb := E.1.2.1
  unfold f_X9_solveOne at hM
  refine lv_aload_n hx hb dX9_solveOne_0 rfl (lv_at hl 0 rfl) ?_
  refine lv_iload_n hx hb dX9_solveOne_1 rfl (lv_at hl 1 rfl) ?_
  refine lv_bipush (v := 9) hx hb dX9_solveOne_2 (by decide) ?_
  refine lv_iconst (v := 3) hx hb dX9_solveOne_4 (by decide) ?_
  obtain ⟨p1, h2, hM⟩ := b_some hM
  refine q_cvv (As := [.int x1, .int 9, .int 3]) (rest := []) E hw hl (c_X9_setTicket l D cA tS A h F x1 9 3 σ wd p1 h2) 3 (bwV bw_c tb_1285 tb_1287 tb_60 tb_112 tb_1288) rfl (by decide +kernel) ⟨Nat.le_of_ble_eq_true rfl, Nat.le_of_ble_eq_true rfl⟩ 0 9 (T := TX9) (N := 17) rfl rfl rfl rfl (Nat.le_of_ble_eq_true rfl) ⟨Nat.zero_le _, Nat.zero_le _⟩ dX9_solveOne_5 (fun H locs hw => ?_)
  refine lv_aload_n hx hb dX9_solveOne_8 rfl (lv_at hl 0 rfl) ?_
  refine lv_iload_n hx hb dX9_solveOne_9 rfl (lv_at hl 1 rfl) ?_
  refine lv_bipush (v := 13) hx hb dX9_solveOne_10 (by decide) ?_
  refine lv_iload_n hx hb dX9_solveOne_12 rfl (lv_at hl 2 rfl) ?_
  obtain ⟨p3, h4, hM⟩ := b_some hM
  refine q_cvv (As := [.int x1, .int 13, .int x2]) (rest := []) E hw hl (c_X9_setTicket l D cA tS A h F x1 13 x2 p1 wd p3 h4) 3 (bwV bw_c tb_1285 tb_1287 tb_60 tb_112 tb_1288) rfl (by decide +kernel) ⟨Nat.le_of_ble_eq_true rfl, Nat.le_of_ble_eq_true rfl⟩ 0 9 (T := TX9) (N := 17) rfl rfl rfl rfl (Nat.le_of_ble_eq_true rfl) ⟨Nat.zero_le _, Nat.zero_le _⟩ dX9_solveOne_13 (fun H locs hw => ?_)
  refine lv_aload_n hx hb dX9_solveOne_16 rfl (lv_at hl 0 rfl) ?_
  refine lv_iload_n hx hb dX9_solveOne_17 rfl (lv_at hl 2 rfl) ?_
  refine lv_iconst (v := 5) hx hb dX9_solveOne_18 (by decide) ?_
  refine lv_iload_n hx hb dX9_solveOne_19 rfl (lv_at hl 1 rfl) ?_
  refine lv_iconst (v := 0) hx hb dX9_solveOne_20 (by decide) ?_
  obtain ⟨p5, h6, hM⟩ := b_some hM
  refine q_cvv (As := [.int x2, .int 5, .int x1, .int 0]) (rest := []) E hw hl (c_X9_log l D cA tS A h F x2 5 x1 0 p3 wd p5 h6) 4 (bwV bw_c tb_1293 tb_1295 tb_62 tb_112 tb_1296) rfl (by decide +kernel) ⟨Nat.le_of_ble_eq_true rfl, Nat.le_of_ble_eq_true rfl⟩ 0 9 (T := TX9) (N := 17) rfl rfl rfl rfl (Nat.le_of_ble_eq_true rfl) ⟨Nat.zero_le _, Nat.zero_le _⟩ dX9_solveOne_21 (fun H locs hw => ?_)
  cases hM
  exact q_retv E hw dX9_solveOne_24
def f_X9_makeSolved_11 (N : Nat)   : Nat → Int32 → Int32 → Int32 → Int32 → Sg → Int64 → Option (Int32 × Sg)
  | 0, _, _, _, _, _, _ => none
  | n + 1, x1, x2, x3, x4, σ, wd => (if (σ 1 (ix 56)) ≤ x4 then some (x3, σ) else (f_X9_ticket x4 10 σ wd).bind (fun p2 => (if p2 = x1 then (f_X9_solveOne x4 x2 σ wd).bind (fun p5 => f_X9_makeSolved_11 N n x1 x2 (x3 + 1) (x4 + 1) p5 wd) else f_X9_makeSolved_11 N n x1 x2 x3 (x4 + 1) σ wd)))
set_option maxRecDepth 100000 in
set_option maxHeartbeats 4000000 in
theorem s_X9_makeSolved_11 (l : Launch) (D : va_G) (cA : Nat → ClassId) (tS : Nat → Nat) (A : Nat → Prop) (h : Nat → Nat) (F : va_W) (N : Nat) {p : Program} {e : Env} {s : State} {m : MethodId} {args : Array Value} {below : List Frame} {meth : Method} {c : Code} (E : Ev p cX9_makeSolved 5 (some .int) RX9 (Cond.code yX9_makeSolved cX9_makeSolved 5 (some .int) :: bw) D cA tS A s m args meth c) : ∀ (n : Nat) (x1 : Int32) (x2 : Int32) (x3 : Int32) (x4 : Int32) (σ : Sg) (wd : Int64) (r0 : Int32) (s0 : Sg) (hM : f_X9_makeSolved_11 N n x1 x2 x3 x4 σ wd = some (r0, s0)) (H : Heap) (locs : List Loc) (hw : Wd D A (wM cA h σ wd ++ F) s.heap H locs) (ls : Array Slot) (hl : lv_has ls 5 [(0, .ref (h 0)), (1, .int x1), (2, .int x2), (3, .int x3), (4, .int x4)]), W p l e ({ frames := 2, cells := 0, slots := 0, locals := 47 } : Room) s m args below meth c H locs 0 0 (MQ below (QW D A (some (.int r0)) (wM cA h s0 wd ++ F)) args s 0 0 A) (F0 m 11 ls []) := by
  have hx := E.1.1
  have hb := E.1.2.1
  intro n
  induction n with
  | zero =>
    intro x1 x2 x3 x4 σ wd r0 s0 hM
    cases hM
  | succ n ih =>
    intro x1 x2 x3 x4 σ wd r0 s0 hM H locs hw ls hl
    rw [f_X9_makeSolved_11] at hM
    refine lv_iload hx hb dX9_makeSolved_11 (lv_at hl 4 rfl) ?_
    refine lv_aload_n hx hb dX9_makeSolved_13 rfl (lv_at hl 0 rfl) ?_
    refine q_get (C := RX9) (T := TX9) (N := 17) (ci := 9) E (fun w h => List.mem_cons_of_mem _ (inX9 w h)) hw 0 rfl rfl 0 (by decide) (List.mem_cons_of_mem _ tb_1157) (v := .ref (h 1)) rfl dX9_makeSolved_14 ?_
    refine lv_bipush (v := 56) hx hb dX9_makeSolved_17 (by decide) ?_
    refine q_ald E hw 1 (n := 4619) rfl (by decide +kernel) (x := (σ 1 (ix 56))) rfl dX9_makeSolved_19 ?_
    refine lv_icmp_ge (tgt := 51) hx hb dX9_makeSolved_20 (by decide) (fun c1 => ?_) (fun c1 => ?_)
    · replace hM := i_pos hM c1
      refine lv_iload_n hx hb dX9_makeSolved_51 rfl (lv_at hl 3 rfl) ?_
      cases hM
      exact q_reti E hw dX9_makeSolved_52
    · replace hM := i_neg hM c1
      refine lv_aload_n hx hb dX9_makeSolved_23 rfl (lv_at hl 0 rfl) ?_
      refine lv_iload hx hb dX9_makeSolved_24 (lv_at hl 4 rfl) ?_
      refine lv_bipush (v := 10) hx hb dX9_makeSolved_26 (by decide) ?_
      obtain ⟨p2, h3, hM⟩ := b_some hM
      refine q_cv (As := [.int x4, .int 10]) (rest := []) E hw hl (c_X9_ticket l D cA tS A h F x4 10 σ wd p2 h3) 2 (bwV bw_c tb_1253 tb_1255 tb_52 tb_112 tb_1256) rfl (by decide +kernel) ⟨Nat.le_of_ble_eq_true rfl, Nat.le_of_ble_eq_true rfl⟩ 0 9 (T := TX9) (N := 17) rfl rfl rfl rfl (Nat.le_of_ble_eq_true rfl) ⟨Nat.zero_le _, Nat.zero_le _⟩ dX9_makeSolved_28 (fun H locs hw => ?_)
      refine lv_iload_n hx hb dX9_makeSolved_31 rfl (lv_at hl 1 rfl) ?_
      refine lv_icmp_ne (tgt := 45) hx hb dX9_makeSolved_32 (by decide) (fun c4 => ?_) (fun c4 => ?_)
      · replace hM := i_neg hM c4
        refine lv_iinc (v := (x4 + 1)) (lv' := [(4, .int (x4 + 1)), (0, .ref (h 0)), (1, .int x1), (2, .int x2), (3, .int x3)]) hx hb dX9_makeSolved_45 hl (k := 4) rfl rfl (by decide) rfl (fun ls hl => ?_)
        refine lv_goto (tgt := 11) hx hb dX9_makeSolved_48 (by decide) ?_
        exact ih _ _ _ _ _ _ _ _ hM _ _ hw _ (lv_sub hl [1, 2, 3, 4, 0] rfl)
      · replace hM := i_pos hM c4
        refine lv_aload_n hx hb dX9_makeSolved_35 rfl (lv_at hl 0 rfl) ?_
        refine lv_iload hx hb dX9_makeSolved_36 (lv_at hl 4 rfl) ?_
        refine lv_iload_n hx hb dX9_makeSolved_38 rfl (lv_at hl 2 rfl) ?_
        obtain ⟨p5, h6, hM⟩ := b_some hM
        refine q_cvv (As := [.int x4, .int x2]) (rest := []) E hw hl (c_X9_solveOne l D cA tS A h F x4 x2 σ wd p5 h6) 2 (bwV bw_c tb_1305 tb_1307 tb_65 tb_112 tb_1308) rfl (by decide +kernel) ⟨Nat.le_of_ble_eq_true rfl, Nat.le_of_ble_eq_true rfl⟩ 0 9 (T := TX9) (N := 17) rfl rfl rfl rfl (Nat.le_of_ble_eq_true rfl) ⟨Nat.zero_le _, Nat.zero_le _⟩ dX9_makeSolved_39 (fun H locs hw => ?_)
        refine lv_iinc (v := (x3 + 1)) (lv' := [(3, .int (x3 + 1)), (0, .ref (h 0)), (1, .int x1), (2, .int x2), (4, .int x4)]) hx hb dX9_makeSolved_42 hl (k := 3) rfl rfl (by decide) rfl (fun ls hl => ?_)
        refine lv_iinc (v := (x4 + 1)) (lv' := [(4, .int (x4 + 1)), (3, .int (x3 + 1)), (0, .ref (h 0)), (1, .int x1), (2, .int x2)]) hx hb dX9_makeSolved_45 hl (k := 4) rfl rfl (by decide) rfl (fun ls hl => ?_)
        refine lv_goto (tgt := 11) hx hb dX9_makeSolved_48 (by decide) ?_
        exact ih _ _ _ _ _ _ _ _ hM _ _ hw _ (lv_sub hl [2, 3, 4, 1, 0] rfl)
def f_X9_makeSolved (N : Nat)   (x1 : Int32) (x2 : Int32) (σ : Sg) (wd : Int64) : Option (Int32 × Sg) := (f_X9_solveOne x1 x2 σ wd).bind (fun p1 => f_X9_makeSolved_11 N N x1 x2 1 0 p1 wd)
set_option maxRecDepth 100000 in
set_option maxHeartbeats 4000000 in
theorem c_X9_makeSolved (l : Launch) (D : va_G) (cA : Nat → ClassId) (tS : Nat → Nat) (A : Nat → Prop) (h : Nat → Nat) (F : va_W) (N : Nat) (x1 : Int32) (x2 : Int32) (σ : Sg) (wd : Int64) (r0 : Int32) (s0 : Sg) (hM : f_X9_makeSolved N x1 x2 σ wd = some (r0, s0)) : Ct l yX9_makeSolved (Cond.code yX9_makeSolved cX9_makeSolved 5 (some .int) :: bw) 2 47 D cA tS A [.ref (h 0), .int x1, .int x2] (wM cA h σ wd ++ F) (some (.int r0)) (wM cA h s0 wd ++ F) := by
  refine ct_of (by decide +kernel) (Nat.le_of_ble_eq_true rfl) ?_
  intro p e s m below meth c E hw ls hl
  replace E : Ev p cX9_makeSolved 5 (some .int) RX9 (Cond.code yX9_makeSolved cX9_makeSolved 5 (some .int) :: bw) D cA tS A s m _ meth c := E
  replace hl : lv_has ls 5 [(0, .ref (h 0)), (1, .int x1), (2, .int x2)] := hl
  have hx := E.1.1
  have hb := E.1.2.1
  unfold f_X9_makeSolved at hM
  refine lv_aload_n hx hb dX9_makeSolved_0 rfl (lv_at hl 0 rfl) ?_
  refine lv_iload_n hx hb dX9_makeSolved_1 rfl (lv_at hl 1 rfl) ?_
  refine lv_iload_n hx hb dX9_makeSolved_2 rfl (lv_at hl 2 rfl) ?_
  obtain ⟨p1, h2, hM⟩ := b_some hM
  refine q_cvv (As := [.int x1, .int x2]) (rest := []) E hw hl (c_X9_solveOne l D cA tS A h F x1 x2 σ wd p1 h2) 2 (bwV bw_c tb_1305 tb_1307 tb_65 tb_112 tb_1308) rfl (by decide +kernel) ⟨Nat.le_of_ble_eq_true rfl, Nat.le_of_ble_eq_true rfl⟩ 0 9 (T := TX9) (N := 17) rfl rfl rfl rfl (Nat.le_of_ble_eq_true rfl) ⟨Nat.zero_le _, Nat.zero_le _⟩ dX9_makeSolved_3 (fun H locs hw => ?_)
  refine lv_iconst (v := 1) hx hb dX9_makeSolved_6 (by decide) ?_
  refine lv_istore_n (lv' := [(3, .int 1), (0, .ref (h 0)), (1, .int x1), (2, .int x2)]) hx hb dX9_makeSolved_7 rfl hl (by decide) rfl (fun ls hl => ?_)
  refine lv_iconst (v := 0) hx hb dX9_makeSolved_8 (by decide) ?_
  refine lv_istore (lv' := [(4, .int 0), (3, .int 1), (0, .ref (h 0)), (1, .int x1), (2, .int x2)]) hx hb dX9_makeSolved_9 hl (by decide) rfl (fun ls hl => ?_)
  exact s_X9_makeSolved_11 l D cA tS A h F N E N _ _ _ _ _ _ _ _ hM _ _ hw _ (lv_sub hl [2, 3, 4, 1, 0] rfl)
def f_X9_makeOpen_49 (N : Nat)   : Nat → Int32 → Int32 → Int32 → Sg → Int64 → Option (Int32 × Sg)
  | 0, _, _, _, _, _ => none
  | n + 1, x1, x2, x3, σ, wd => (if (σ 1 (ix 56)) ≤ x3 then some (x2, σ) else (f_X9_ticket x3 10 σ wd).bind (fun p2 => (if p2 = x1 then (f_X9_setTicket x3 9 4 σ wd).bind (fun p5 => (f_X9_setTicket x3 13 (-1) p5 wd).bind (fun p7 => f_X9_makeOpen_49 N n x1 (x2 + 1) (x3 + 1) p7 wd)) else f_X9_makeOpen_49 N n x1 x2 (x3 + 1) σ wd)))
set_option maxRecDepth 100000 in
set_option maxHeartbeats 4000000 in
theorem s_X9_makeOpen_49 (l : Launch) (D : va_G) (cA : Nat → ClassId) (tS : Nat → Nat) (A : Nat → Prop) (h : Nat → Nat) (F : va_W) (N : Nat) {p : Program} {e : Env} {s : State} {m : MethodId} {args : Array Value} {below : List Frame} {meth : Method} {c : Code} (E : Ev p cX9_makeOpen 4 (some .int) RX9 (Cond.code yX9_makeOpen cX9_makeOpen 4 (some .int) :: bw) D cA tS A s m args meth c) : ∀ (n : Nat) (x1 : Int32) (x2 : Int32) (x3 : Int32) (σ : Sg) (wd : Int64) (r0 : Int32) (s0 : Sg) (hM : f_X9_makeOpen_49 N n x1 x2 x3 σ wd = some (r0, s0)) (H : Heap) (locs : List Loc) (hw : Wd D A (wM cA h σ wd ++ F) s.heap H locs) (ls : Array Slot) (hl : lv_has ls 4 [(0, .ref (h 0)), (1, .int x1), (2, .int x2), (3, .int x3)]), W p l e ({ frames := 1, cells := 0, slots := 0, locals := 25 } : Room) s m args below meth c H locs 0 0 (MQ below (QW D A (some (.int r0)) (wM cA h s0 wd ++ F)) args s 0 0 A) (F0 m 49 ls []) := by
  have hx := E.1.1
  have hb := E.1.2.1
  intro n
  induction n with
  | zero =>
    intro x1 x2 x3 σ wd r0 s0 hM
    cases hM
  | succ n ih =>
    intro x1 x2 x3 σ wd r0 s0 hM H locs hw ls hl
    rw [f_X9_makeOpen_49] at hM
    refine lv_iload_n hx hb dX9_makeOpen_49 rfl (lv_at hl 3 rfl) ?_
    refine lv_aload_n hx hb dX9_makeOpen_50 rfl (lv_at hl 0 rfl) ?_
    refine q_get (C := RX9) (T := TX9) (N := 17) (ci := 9) E (fun w h => List.mem_cons_of_mem _ (inX9 w h)) hw 0 rfl rfl 0 (by decide) (List.mem_cons_of_mem _ tb_1157) (v := .ref (h 1)) rfl dX9_makeOpen_51 ?_
    refine lv_bipush (v := 56) hx hb dX9_makeOpen_54 (by decide) ?_
    refine q_ald E hw 1 (n := 4619) rfl (by decide +kernel) (x := (σ 1 (ix 56))) rfl dX9_makeOpen_56 ?_
    refine lv_icmp_ge (tgt := 96) hx hb dX9_makeOpen_57 (by decide) (fun c1 => ?_) (fun c1 => ?_)
    · replace hM := i_pos hM c1
      refine lv_iload_n hx hb dX9_makeOpen_96 rfl (lv_at hl 2 rfl) ?_
      cases hM
      exact q_reti E hw dX9_makeOpen_97
    · replace hM := i_neg hM c1
      refine lv_aload_n hx hb dX9_makeOpen_60 rfl (lv_at hl 0 rfl) ?_
      refine lv_iload_n hx hb dX9_makeOpen_61 rfl (lv_at hl 3 rfl) ?_
      refine lv_bipush (v := 10) hx hb dX9_makeOpen_62 (by decide) ?_
      obtain ⟨p2, h3, hM⟩ := b_some hM
      refine q_cv (As := [.int x3, .int 10]) (rest := []) E hw hl (c_X9_ticket l D cA tS A h F x3 10 σ wd p2 h3) 2 (bwV bw_c tb_1253 tb_1255 tb_52 tb_112 tb_1256) rfl (by decide +kernel) ⟨Nat.le_of_ble_eq_true rfl, Nat.le_of_ble_eq_true rfl⟩ 0 9 (T := TX9) (N := 17) rfl rfl rfl rfl (Nat.le_of_ble_eq_true rfl) ⟨Nat.zero_le _, Nat.zero_le _⟩ dX9_makeOpen_64 (fun H locs hw => ?_)
      refine lv_iload_n hx hb dX9_makeOpen_67 rfl (lv_at hl 1 rfl) ?_
      refine lv_icmp_ne (tgt := 90) hx hb dX9_makeOpen_68 (by decide) (fun c4 => ?_) (fun c4 => ?_)
      · replace hM := i_neg hM c4
        refine lv_iinc (v := (x3 + 1)) (lv' := [(3, .int (x3 + 1)), (0, .ref (h 0)), (1, .int x1), (2, .int x2)]) hx hb dX9_makeOpen_90 hl (k := 3) rfl rfl (by decide) rfl (fun ls hl => ?_)
        refine lv_goto (tgt := 49) hx hb dX9_makeOpen_93 (by decide) ?_
        exact ih _ _ _ _ _ _ _ hM _ _ hw _ (lv_sub hl [1, 2, 3, 0] rfl)
      · replace hM := i_pos hM c4
        refine lv_aload_n hx hb dX9_makeOpen_71 rfl (lv_at hl 0 rfl) ?_
        refine lv_iload_n hx hb dX9_makeOpen_72 rfl (lv_at hl 3 rfl) ?_
        refine lv_bipush (v := 9) hx hb dX9_makeOpen_73 (by decide) ?_
        refine lv_iconst (v := 4) hx hb dX9_makeOpen_75 (by decide) ?_
        obtain ⟨p5, h6, hM⟩ := b_some hM
        refine q_cvv (As := [.int x3, .int 9, .int 4]) (rest := []) E hw hl (c_X9_setTicket l D cA tS A h F x3 9 4 σ wd p5 h6) 3 (bwV bw_c tb_1285 tb_1287 tb_60 tb_112 tb_1288) rfl (by decide +kernel) ⟨Nat.le_of_ble_eq_true rfl, Nat.le_of_ble_eq_true rfl⟩ 0 9 (T := TX9) (N := 17) rfl rfl rfl rfl (Nat.le_of_ble_eq_true rfl) ⟨Nat.zero_le _, Nat.zero_le _⟩ dX9_makeOpen_76 (fun H locs hw => ?_)
        refine lv_aload_n hx hb dX9_makeOpen_79 rfl (lv_at hl 0 rfl) ?_
        refine lv_iload_n hx hb dX9_makeOpen_80 rfl (lv_at hl 3 rfl) ?_
        refine lv_bipush (v := 13) hx hb dX9_makeOpen_81 (by decide) ?_
        refine lv_iconst (v := (-1)) hx hb dX9_makeOpen_83 (by decide) ?_
        obtain ⟨p7, h8, hM⟩ := b_some hM
        refine q_cvv (As := [.int x3, .int 13, .int (-1)]) (rest := []) E hw hl (c_X9_setTicket l D cA tS A h F x3 13 (-1) p5 wd p7 h8) 3 (bwV bw_c tb_1285 tb_1287 tb_60 tb_112 tb_1288) rfl (by decide +kernel) ⟨Nat.le_of_ble_eq_true rfl, Nat.le_of_ble_eq_true rfl⟩ 0 9 (T := TX9) (N := 17) rfl rfl rfl rfl (Nat.le_of_ble_eq_true rfl) ⟨Nat.zero_le _, Nat.zero_le _⟩ dX9_makeOpen_84 (fun H locs hw => ?_)
        refine lv_iinc (v := (x2 + 1)) (lv' := [(2, .int (x2 + 1)), (0, .ref (h 0)), (1, .int x1), (3, .int x3)]) hx hb dX9_makeOpen_87 hl (k := 2) rfl rfl (by decide) rfl (fun ls hl => ?_)
        refine lv_iinc (v := (x3 + 1)) (lv' := [(3, .int (x3 + 1)), (2, .int (x2 + 1)), (0, .ref (h 0)), (1, .int x1)]) hx hb dX9_makeOpen_90 hl (k := 3) rfl rfl (by decide) rfl (fun ls hl => ?_)
        refine lv_goto (tgt := 49) hx hb dX9_makeOpen_93 (by decide) ?_
        exact ih _ _ _ _ _ _ _ hM _ _ hw _ (lv_sub hl [2, 3, 1, 0] rfl)
def f_X9_makeOpen (N : Nat)   (x1 : Int32) (σ : Sg) (wd : Int64) : Option (Int32 × Sg) := (f_X9_setTicket x1 9 0 σ wd).bind (fun p1 => (f_X9_setTicket x1 13 (-1) p1 wd).bind (fun p3 => (f_X9_setTicket x1 5 0 p3 wd).bind (fun p5 => (f_X9_setTicket x1 6 0 p5 wd).bind (fun p7 => (f_X9_log (p7 1 (ix 0)) 10 x1 0 p7 wd).bind (fun p9 => f_X9_makeOpen_49 N N x1 1 0 p9 wd)))))
set_option maxRecDepth 100000 in
set_option maxHeartbeats 4000000 in
theorem c_X9_makeOpen (l : Launch) (D : va_G) (cA : Nat → ClassId) (tS : Nat → Nat) (A : Nat → Prop) (h : Nat → Nat) (F : va_W) (N : Nat) (x1 : Int32) (σ : Sg) (wd : Int64) (r0 : Int32) (s0 : Sg) (hM : f_X9_makeOpen N x1 σ wd = some (r0, s0)) : Ct l yX9_makeOpen (Cond.code yX9_makeOpen cX9_makeOpen 4 (some .int) :: bw) 1 25 D cA tS A [.ref (h 0), .int x1] (wM cA h σ wd ++ F) (some (.int r0)) (wM cA h s0 wd ++ F) := by
  refine ct_of (by decide +kernel) (Nat.le_of_ble_eq_true rfl) ?_
  intro p e s m below meth c E hw ls hl
  replace E : Ev p cX9_makeOpen 4 (some .int) RX9 (Cond.code yX9_makeOpen cX9_makeOpen 4 (some .int) :: bw) D cA tS A s m _ meth c := E
  replace hl : lv_has ls 4 [(0, .ref (h 0)), (1, .int x1)] := hl
  have hx := E.1.1
  have hb := E.1.2.1
  unfold f_X9_makeOpen at hM
  refine lv_aload_n hx hb dX9_makeOpen_0 rfl (lv_at hl 0 rfl) ?_
  refine lv_iload_n hx hb dX9_makeOpen_1 rfl (lv_at hl 1 rfl) ?_
  refine lv_bipush (v := 9) hx hb dX9_makeOpen_2 (by decide) ?_
  refine lv_iconst (v := 0) hx hb dX9_makeOpen_4 (by decide) ?_
  obtain ⟨p1, h2, hM⟩ := b_some hM
  refine q_cvv (As := [.int x1, .int 9, .int 0]) (rest := []) E hw hl (c_X9_setTicket l D cA tS A h F x1 9 0 σ wd p1 h2) 3 (bwV bw_c tb_1285 tb_1287 tb_60 tb_112 tb_1288) rfl (by decide +kernel) ⟨Nat.le_of_ble_eq_true rfl, Nat.le_of_ble_eq_true rfl⟩ 0 9 (T := TX9) (N := 17) rfl rfl rfl rfl (Nat.le_of_ble_eq_true rfl) ⟨Nat.zero_le _, Nat.zero_le _⟩ dX9_makeOpen_5 (fun H locs hw => ?_)
  refine lv_aload_n hx hb dX9_makeOpen_8 rfl (lv_at hl 0 rfl) ?_
  refine lv_iload_n hx hb dX9_makeOpen_9 rfl (lv_at hl 1 rfl) ?_
  refine lv_bipush (v := 13) hx hb dX9_makeOpen_10 (by decide) ?_
  refine lv_iconst (v := (-1)) hx hb dX9_makeOpen_12 (by decide) ?_
  obtain ⟨p3, h4, hM⟩ := b_some hM
  refine q_cvv (As := [.int x1, .int 13, .int (-1)]) (rest := []) E hw hl (c_X9_setTicket l D cA tS A h F x1 13 (-1) p1 wd p3 h4) 3 (bwV bw_c tb_1285 tb_1287 tb_60 tb_112 tb_1288) rfl (by decide +kernel) ⟨Nat.le_of_ble_eq_true rfl, Nat.le_of_ble_eq_true rfl⟩ 0 9 (T := TX9) (N := 17) rfl rfl rfl rfl (Nat.le_of_ble_eq_true rfl) ⟨Nat.zero_le _, Nat.zero_le _⟩ dX9_makeOpen_13 (fun H locs hw => ?_)
  refine lv_aload_n hx hb dX9_makeOpen_16 rfl (lv_at hl 0 rfl) ?_
  refine lv_iload_n hx hb dX9_makeOpen_17 rfl (lv_at hl 1 rfl) ?_
  refine lv_iconst (v := 5) hx hb dX9_makeOpen_18 (by decide) ?_
  refine lv_iconst (v := 0) hx hb dX9_makeOpen_19 (by decide) ?_
  obtain ⟨p5, h6, hM⟩ := b_some hM
  refine q_cvv (As := [.int x1, .int 5, .int 0]) (rest := []) E hw hl (c_X9_setTicket l D cA tS A h F x1 5 0 p3 wd p5 h6) 3 (bwV bw_c tb_1285 tb_1287 tb_60 tb_112 tb_1288) rfl (by decide +kernel) ⟨Nat.le_of_ble_eq_true rfl, Nat.le_of_ble_eq_true rfl⟩ 0 9 (T := TX9) (N := 17) rfl rfl rfl rfl (Nat.le_of_ble_eq_true rfl) ⟨Nat.zero_le _, Nat.zero_le _⟩ dX9_makeOpen_20 (fun H locs hw => ?_)
  refine lv_aload_n hx hb dX9_makeOpen_23 rfl (lv_at hl 0 rfl) ?_
  refine lv_iload_n hx hb dX9_makeOpen_24 rfl (lv_at hl 1 rfl) ?_
  refine lv_bipush (v := 6) hx hb dX9_makeOpen_25 (by decide) ?_
  refine lv_iconst (v := 0) hx hb dX9_makeOpen_27 (by decide) ?_
  obtain ⟨p7, h8, hM⟩ := b_some hM
  refine q_cvv (As := [.int x1, .int 6, .int 0]) (rest := []) E hw hl (c_X9_setTicket l D cA tS A h F x1 6 0 p5 wd p7 h8) 3 (bwV bw_c tb_1285 tb_1287 tb_60 tb_112 tb_1288) rfl (by decide +kernel) ⟨Nat.le_of_ble_eq_true rfl, Nat.le_of_ble_eq_true rfl⟩ 0 9 (T := TX9) (N := 17) rfl rfl rfl rfl (Nat.le_of_ble_eq_true rfl) ⟨Nat.zero_le _, Nat.zero_le _⟩ dX9_makeOpen_28 (fun H locs hw => ?_)
  refine lv_aload_n hx hb dX9_makeOpen_31 rfl (lv_at hl 0 rfl) ?_
  refine lv_aload_n hx hb dX9_makeOpen_32 rfl (lv_at hl 0 rfl) ?_
  refine q_get (C := RX9) (T := TX9) (N := 17) (ci := 9) E (fun w h => List.mem_cons_of_mem _ (inX9 w h)) hw 0 rfl rfl 0 (by decide) (List.mem_cons_of_mem _ tb_1157) (v := .ref (h 1)) rfl dX9_makeOpen_33 ?_
  refine lv_iconst (v := 0) hx hb dX9_makeOpen_36 (by decide) ?_
  refine q_ald E hw 1 (n := 4619) rfl (by decide +kernel) (x := (p7 1 (ix 0))) rfl dX9_makeOpen_37 ?_
  refine lv_bipush (v := 10) hx hb dX9_makeOpen_38 (by decide) ?_
  refine lv_iload_n hx hb dX9_makeOpen_40 rfl (lv_at hl 1 rfl) ?_
  refine lv_iconst (v := 0) hx hb dX9_makeOpen_41 (by decide) ?_
  obtain ⟨p9, h10, hM⟩ := b_some hM
  refine q_cvv (As := [.int (p7 1 (ix 0)), .int 10, .int x1, .int 0]) (rest := []) E hw hl (c_X9_log l D cA tS A h F (p7 1 (ix 0)) 10 x1 0 p7 wd p9 h10) 4 (bwV bw_c tb_1293 tb_1295 tb_62 tb_112 tb_1296) rfl (by decide +kernel) ⟨Nat.le_of_ble_eq_true rfl, Nat.le_of_ble_eq_true rfl⟩ 0 9 (T := TX9) (N := 17) rfl rfl rfl rfl (Nat.le_of_ble_eq_true rfl) ⟨Nat.zero_le _, Nat.zero_le _⟩ dX9_makeOpen_42 (fun H locs hw => ?_)
  refine lv_iconst (v := 1) hx hb dX9_makeOpen_45 (by decide) ?_
  refine lv_istore_n (lv' := [(2, .int 1), (0, .ref (h 0)), (1, .int x1)]) hx hb dX9_makeOpen_46 rfl hl (by decide) rfl (fun ls hl => ?_)
  refine lv_iconst (v := 0) hx hb dX9_makeOpen_47 (by decide) ?_
  refine lv_istore_n (lv' := [(3, .int 0), (2, .int 1), (0, .ref (h 0)), (1, .int x1)]) hx hb dX9_makeOpen_48 rfl hl (by decide) rfl (fun ls hl => ?_)
  exact s_X9_makeOpen_49 l D cA tS A h F N E N _ _ _ _ _ _ _ hM _ _ hw _ (lv_sub hl [2, 3, 1, 0] rfl)
def f_X9_makeTwin_52 (N : Nat)  (k13 : Int32 → Int32 → Int32 → Int32 → Sg → Int64 → Option (Int32 × Sg)) (x1 : Int32) (x2 : Int32) (x3 : Int32) (x4 : Int32) (σ : Sg) (wd : Int64) : Option (Int32 × Sg) := (f_X9_ticket x4 10 σ wd).bind (fun p1 => (if p1 = x2 then k13 x1 x2 (x3 + 1) (x4 + 1) σ wd else k13 x1 x2 (x3 + 0) (x4 + 1) σ wd))
set_option maxRecDepth 100000 in
set_option maxHeartbeats 4000000 in
theorem s_X9_makeTwin_52 (l : Launch) (D : va_G) (cA : Nat → ClassId) (tS : Nat → Nat) (A : Nat → Prop) (h : Nat → Nat) (F : va_W) (N : Nat) (k13 : Int32 → Int32 → Int32 → Int32 → Sg → Int64 → Option (Int32 × Sg)) {p : Program} {e : Env} {s : State} {m : MethodId} {args : Array Value} {below : List Frame} {meth : Method} {c : Code} (E : Ev p cX9_makeTwin 5 (some .int) RX9 (Cond.code yX9_makeTwin cX9_makeTwin 5 (some .int) :: bw) D cA tS A s m args meth c) (hk13 : ∀ (x1 : Int32) (x2 : Int32) (x3 : Int32) (x4 : Int32) (σ : Sg) (wd : Int64) (r0 : Int32) (s0 : Sg) (hM : k13 x1 x2 x3 x4 σ wd = some (r0, s0)) (H : Heap) (locs : List Loc) (hw : Wd D A (wM cA h σ wd ++ F) s.heap H locs) (ls : Array Slot) (hl : lv_has ls 5 [(0, .ref (h 0)), (1, .int x1), (2, .int x2), (3, .int x3), (4, .int x4)]), W p l e ({ frames := 1, cells := 0, slots := 0, locals := 25 } : Room) s m args below meth c H locs 0 0 (MQ below (QW D A (some (.int r0)) (wM cA h s0 wd ++ F)) args s 0 0 A) (F0 m 13 ls [])) : ∀ (x1 : Int32) (x2 : Int32) (x3 : Int32) (x4 : Int32) (σ : Sg) (wd : Int64) (r0 : Int32) (s0 : Sg) (hM : f_X9_makeTwin_52 N k13 x1 x2 x3 x4 σ wd = some (r0, s0)) (H : Heap) (locs : List Loc) (hw : Wd D A (wM cA h σ wd ++ F) s.heap H locs) (ls : Array Slot) (hl : lv_has ls 5 [(0, .ref (h 0)), (1, .int x1), (2, .int x2), (3, .int x3), (4, .int x4)]), W p l e ({ frames := 1, cells := 0, slots := 0, locals := 25 } : Room) s m args below meth c H locs 0 0 (MQ below (QW D A (some (.int r0)) (wM cA h s0 wd ++ F)) args s 0 0 A) (F0 m 52 ls []) := by
  have hx := E.1.1
  have hb := E.1.2.1
  intro x1 x2 x3 x4 σ wd r0 s0 hM H locs hw ls hl
  unfold f_X9_makeTwin_52 at hM
  refine lv_iload_n hx hb dX9_makeTwin_52 rfl (lv_at hl 3 rfl) ?_
  refine lv_aload_n hx hb dX9_makeTwin_53 rfl (lv_at hl 0 rfl) ?_
  refine lv_iload hx hb dX9_makeTwin_54 (lv_at hl 4 rfl) ?_
  refine lv_bipush (v := 10) hx hb dX9_makeTwin_56 (by decide) ?_
  obtain ⟨p1, h2, hM⟩ := b_some hM
  refine q_cv (As := [.int x4, .int 10]) (rest := [.int x3]) E hw hl (c_X9_ticket l D cA tS A h F x4 10 σ wd p1 h2) 2 (bwV bw_c tb_1253 tb_1255 tb_52 tb_112 tb_1256) rfl (by decide +kernel) ⟨Nat.le_of_ble_eq_true rfl, Nat.le_of_ble_eq_true rfl⟩ 0 9 (T := TX9) (N := 17) rfl rfl rfl rfl (Nat.le_of_ble_eq_true rfl) ⟨Nat.zero_le _, Nat.zero_le _⟩ dX9_makeTwin_58 (fun H locs hw => ?_)
  refine lv_iload_n hx hb dX9_makeTwin_61 rfl (lv_at hl 2 rfl) ?_
  refine lv_icmp_ne (tgt := 69) hx hb dX9_makeTwin_62 (by decide) (fun c3 => ?_) (fun c3 => ?_)
  · replace hM := i_neg hM c3
    refine lv_iconst (v := 0) hx hb dX9_makeTwin_69 (by decide) ?_
    refine lv_iadd hx hb dX9_makeTwin_70 ?_
    refine lv_istore_n (lv' := [(3, .int (x3 + 0)), (0, .ref (h 0)), (1, .int x1), (2, .int x2), (4, .int x4)]) hx hb dX9_makeTwin_71 rfl hl (by decide) rfl (fun ls hl => ?_)
    refine lv_iinc (v := (x4 + 1)) (lv' := [(4, .int (x4 + 1)), (3, .int (x3 + 0)), (0, .ref (h 0)), (1, .int x1), (2, .int x2)]) hx hb dX9_makeTwin_72 hl (k := 4) rfl rfl (by decide) rfl (fun ls hl => ?_)
    refine lv_goto (tgt := 13) hx hb dX9_makeTwin_75 (by decide) ?_
    exact hk13 _ _ _ _ _ _ _ _ hM _ _ hw _ (lv_sub hl [2, 3, 4, 1, 0] rfl)
  · replace hM := i_pos hM c3
    refine lv_iconst (v := 1) hx hb dX9_makeTwin_65 (by decide) ?_
    refine lv_goto (tgt := 70) hx hb dX9_makeTwin_66 (by decide) ?_
    refine lv_iadd hx hb dX9_makeTwin_70 ?_
    refine lv_istore_n (lv' := [(3, .int (x3 + 1)), (0, .ref (h 0)), (1, .int x1), (2, .int x2), (4, .int x4)]) hx hb dX9_makeTwin_71 rfl hl (by decide) rfl (fun ls hl => ?_)
    refine lv_iinc (v := (x4 + 1)) (lv' := [(4, .int (x4 + 1)), (3, .int (x3 + 1)), (0, .ref (h 0)), (1, .int x1), (2, .int x2)]) hx hb dX9_makeTwin_72 hl (k := 4) rfl rfl (by decide) rfl (fun ls hl => ?_)
    refine lv_goto (tgt := 13) hx hb dX9_makeTwin_75 (by decide) ?_
    exact hk13 _ _ _ _ _ _ _ _ hM _ _ hw _ (lv_sub hl [2, 3, 4, 1, 0] rfl)
def f_X9_makeTwin_13 (N : Nat)   : Nat → Int32 → Int32 → Int32 → Int32 → Sg → Int64 → Option (Int32 × Sg)
  | 0, _, _, _, _, _, _ => none
  | n + 1, x1, x2, x3, x4, σ, wd => (if (σ 1 (ix 56)) ≤ x4 then (f_X9_log (σ 1 (ix 0)) 6 x1 x2 σ wd).bind (fun p2 => some (x3, p2)) else (if x4 = x1 then (f_X9_setTicket x4 10 x2 σ wd).bind (fun p5 => f_X9_makeTwin_52 N (fun x1 x2 x3 x4 σ wd => f_X9_makeTwin_13 N n x1 x2 x3 x4 σ wd) x1 x2 x3 x4 p5 wd) else (f_X9_ticket x4 10 σ wd).bind (fun p7 => (if p7 = x1 then (f_X9_setTicket x4 10 x2 σ wd).bind (fun p10 => f_X9_makeTwin_52 N (fun x1 x2 x3 x4 σ wd => f_X9_makeTwin_13 N n x1 x2 x3 x4 σ wd) x1 x2 x3 x4 p10 wd) else f_X9_makeTwin_52 N (fun x1 x2 x3 x4 σ wd => f_X9_makeTwin_13 N n x1 x2 x3 x4 σ wd) x1 x2 x3 x4 σ wd))))
set_option maxRecDepth 100000 in
set_option maxHeartbeats 4000000 in
theorem s_X9_makeTwin_13 (l : Launch) (D : va_G) (cA : Nat → ClassId) (tS : Nat → Nat) (A : Nat → Prop) (h : Nat → Nat) (F : va_W) (N : Nat) {p : Program} {e : Env} {s : State} {m : MethodId} {args : Array Value} {below : List Frame} {meth : Method} {c : Code} (E : Ev p cX9_makeTwin 5 (some .int) RX9 (Cond.code yX9_makeTwin cX9_makeTwin 5 (some .int) :: bw) D cA tS A s m args meth c) : ∀ (n : Nat) (x1 : Int32) (x2 : Int32) (x3 : Int32) (x4 : Int32) (σ : Sg) (wd : Int64) (r0 : Int32) (s0 : Sg) (hM : f_X9_makeTwin_13 N n x1 x2 x3 x4 σ wd = some (r0, s0)) (H : Heap) (locs : List Loc) (hw : Wd D A (wM cA h σ wd ++ F) s.heap H locs) (ls : Array Slot) (hl : lv_has ls 5 [(0, .ref (h 0)), (1, .int x1), (2, .int x2), (3, .int x3), (4, .int x4)]), W p l e ({ frames := 1, cells := 0, slots := 0, locals := 25 } : Room) s m args below meth c H locs 0 0 (MQ below (QW D A (some (.int r0)) (wM cA h s0 wd ++ F)) args s 0 0 A) (F0 m 13 ls []) := by
  have hx := E.1.1
  have hb := E.1.2.1
  intro n
  induction n with
  | zero =>
    intro x1 x2 x3 x4 σ wd r0 s0 hM
    cases hM
  | succ n ih =>
    intro x1 x2 x3 x4 σ wd r0 s0 hM H locs hw ls hl
    rw [f_X9_makeTwin_13] at hM
    refine lv_iload hx hb dX9_makeTwin_13 (lv_at hl 4 rfl) ?_
    refine lv_aload_n hx hb dX9_makeTwin_15 rfl (lv_at hl 0 rfl) ?_
    refine q_get (C := RX9) (T := TX9) (N := 17) (ci := 9) E (fun w h => List.mem_cons_of_mem _ (inX9 w h)) hw 0 rfl rfl 0 (by decide) (List.mem_cons_of_mem _ tb_1157) (v := .ref (h 1)) rfl dX9_makeTwin_16 ?_
    refine lv_bipush (v := 56) hx hb dX9_makeTwin_19 (by decide) ?_
    refine q_ald E hw 1 (n := 4619) rfl (by decide +kernel) (x := (σ 1 (ix 56))) rfl dX9_makeTwin_21 ?_
    refine lv_icmp_ge (tgt := 78) hx hb dX9_makeTwin_22 (by decide) (fun c1 => ?_) (fun c1 => ?_)
    · replace hM := i_pos hM c1
      refine lv_aload_n hx hb dX9_makeTwin_78 rfl (lv_at hl 0 rfl) ?_
      refine lv_aload_n hx hb dX9_makeTwin_79 rfl (lv_at hl 0 rfl) ?_
      refine q_get (C := RX9) (T := TX9) (N := 17) (ci := 9) E (fun w h => List.mem_cons_of_mem _ (inX9 w h)) hw 0 rfl rfl 0 (by decide) (List.mem_cons_of_mem _ tb_1157) (v := .ref (h 1)) rfl dX9_makeTwin_80 ?_
      refine lv_iconst (v := 0) hx hb dX9_makeTwin_83 (by decide) ?_
      refine q_ald E hw 1 (n := 4619) rfl (by decide +kernel) (x := (σ 1 (ix 0))) rfl dX9_makeTwin_84 ?_
      refine lv_bipush (v := 6) hx hb dX9_makeTwin_85 (by decide) ?_
      refine lv_iload_n hx hb dX9_makeTwin_87 rfl (lv_at hl 1 rfl) ?_
      refine lv_iload_n hx hb dX9_makeTwin_88 rfl (lv_at hl 2 rfl) ?_
      obtain ⟨p2, h3, hM⟩ := b_some hM
      refine q_cvv (As := [.int (σ 1 (ix 0)), .int 6, .int x1, .int x2]) (rest := []) E hw hl (c_X9_log l D cA tS A h F (σ 1 (ix 0)) 6 x1 x2 σ wd p2 h3) 4 (bwV bw_c tb_1293 tb_1295 tb_62 tb_112 tb_1296) rfl (by decide +kernel) ⟨Nat.le_of_ble_eq_true rfl, Nat.le_of_ble_eq_true rfl⟩ 0 9 (T := TX9) (N := 17) rfl rfl rfl rfl (Nat.le_of_ble_eq_true rfl) ⟨Nat.zero_le _, Nat.zero_le _⟩ dX9_makeTwin_89 (fun H locs hw => ?_)
      refine lv_iload_n hx hb dX9_makeTwin_92 rfl (lv_at hl 3 rfl) ?_
      cases hM
      exact q_reti E hw dX9_makeTwin_93
    · replace hM := i_neg hM c1
      refine lv_iload hx hb dX9_makeTwin_25 (lv_at hl 4 rfl) ?_
      refine lv_iload_n hx hb dX9_makeTwin_27 rfl (lv_at hl 1 rfl) ?_
      refine lv_icmp_eq (tgt := 43) hx hb dX9_makeTwin_28 (by decide) (fun c4 => ?_) (fun c4 => ?_)
      · replace hM := i_pos hM c4
        refine lv_aload_n hx hb dX9_makeTwin_43 rfl (lv_at hl 0 rfl) ?_
        refine lv_iload hx hb dX9_makeTwin_44 (lv_at hl 4 rfl) ?_
        refine lv_bipush (v := 10) hx hb dX9_makeTwin_46 (by decide) ?_
        refine lv_iload_n hx hb dX9_makeTwin_48 rfl (lv_at hl 2 rfl) ?_
        obtain ⟨p5, h6, hM⟩ := b_some hM
        refine q_cvv (As := [.int x4, .int 10, .int x2]) (rest := []) E hw hl (c_X9_setTicket l D cA tS A h F x4 10 x2 σ wd p5 h6) 3 (bwV bw_c tb_1285 tb_1287 tb_60 tb_112 tb_1288) rfl (by decide +kernel) ⟨Nat.le_of_ble_eq_true rfl, Nat.le_of_ble_eq_true rfl⟩ 0 9 (T := TX9) (N := 17) rfl rfl rfl rfl (Nat.le_of_ble_eq_true rfl) ⟨Nat.zero_le _, Nat.zero_le _⟩ dX9_makeTwin_49 (fun H locs hw => ?_)
        exact s_X9_makeTwin_52 l D cA tS A h F N (fun x1 x2 x3 x4 σ wd => f_X9_makeTwin_13 N n x1 x2 x3 x4 σ wd) E ih _ _ _ _ _ _ _ _ hM _ _ hw _ (lv_sub hl [0, 1, 2, 3, 4] rfl)
      · replace hM := i_neg hM c4
        refine lv_aload_n hx hb dX9_makeTwin_31 rfl (lv_at hl 0 rfl) ?_
        refine lv_iload hx hb dX9_makeTwin_32 (lv_at hl 4 rfl) ?_
        refine lv_bipush (v := 10) hx hb dX9_makeTwin_34 (by decide) ?_
        obtain ⟨p7, h8, hM⟩ := b_some hM
        refine q_cv (As := [.int x4, .int 10]) (rest := []) E hw hl (c_X9_ticket l D cA tS A h F x4 10 σ wd p7 h8) 2 (bwV bw_c tb_1253 tb_1255 tb_52 tb_112 tb_1256) rfl (by decide +kernel) ⟨Nat.le_of_ble_eq_true rfl, Nat.le_of_ble_eq_true rfl⟩ 0 9 (T := TX9) (N := 17) rfl rfl rfl rfl (Nat.le_of_ble_eq_true rfl) ⟨Nat.zero_le _, Nat.zero_le _⟩ dX9_makeTwin_36 (fun H locs hw => ?_)
        refine lv_iload_n hx hb dX9_makeTwin_39 rfl (lv_at hl 1 rfl) ?_
        refine lv_icmp_ne (tgt := 52) hx hb dX9_makeTwin_40 (by decide) (fun c9 => ?_) (fun c9 => ?_)
        · replace hM := i_neg hM c9
          exact s_X9_makeTwin_52 l D cA tS A h F N (fun x1 x2 x3 x4 σ wd => f_X9_makeTwin_13 N n x1 x2 x3 x4 σ wd) E ih _ _ _ _ _ _ _ _ hM _ _ hw _ (lv_sub hl [0, 1, 2, 3, 4] rfl)
        · replace hM := i_pos hM c9
          refine lv_aload_n hx hb dX9_makeTwin_43 rfl (lv_at hl 0 rfl) ?_
          refine lv_iload hx hb dX9_makeTwin_44 (lv_at hl 4 rfl) ?_
          refine lv_bipush (v := 10) hx hb dX9_makeTwin_46 (by decide) ?_
          refine lv_iload_n hx hb dX9_makeTwin_48 rfl (lv_at hl 2 rfl) ?_
          obtain ⟨p10, h11, hM⟩ := b_some hM
          refine q_cvv (As := [.int x4, .int 10, .int x2]) (rest := []) E hw hl (c_X9_setTicket l D cA tS A h F x4 10 x2 σ wd p10 h11) 3 (bwV bw_c tb_1285 tb_1287 tb_60 tb_112 tb_1288) rfl (by decide +kernel) ⟨Nat.le_of_ble_eq_true rfl, Nat.le_of_ble_eq_true rfl⟩ 0 9 (T := TX9) (N := 17) rfl rfl rfl rfl (Nat.le_of_ble_eq_true rfl) ⟨Nat.zero_le _, Nat.zero_le _⟩ dX9_makeTwin_49 (fun H locs hw => ?_)
          exact s_X9_makeTwin_52 l D cA tS A h F N (fun x1 x2 x3 x4 σ wd => f_X9_makeTwin_13 N n x1 x2 x3 x4 σ wd) E ih _ _ _ _ _ _ _ _ hM _ _ hw _ (lv_sub hl [0, 1, 2, 3, 4] rfl)
def f_X9_makeTwin (N : Nat)   (x1 : Int32) (x2 : Int32) (σ : Sg) (wd : Int64) : Option (Int32 × Sg) := (f_X9_setTicket x1 9 4 σ wd).bind (fun p1 => f_X9_makeTwin_13 N N x1 x2 0 0 p1 wd)
set_option maxRecDepth 100000 in
set_option maxHeartbeats 4000000 in
theorem c_X9_makeTwin (l : Launch) (D : va_G) (cA : Nat → ClassId) (tS : Nat → Nat) (A : Nat → Prop) (h : Nat → Nat) (F : va_W) (N : Nat) (x1 : Int32) (x2 : Int32) (σ : Sg) (wd : Int64) (r0 : Int32) (s0 : Sg) (hM : f_X9_makeTwin N x1 x2 σ wd = some (r0, s0)) : Ct l yX9_makeTwin (Cond.code yX9_makeTwin cX9_makeTwin 5 (some .int) :: bw) 1 25 D cA tS A [.ref (h 0), .int x1, .int x2] (wM cA h σ wd ++ F) (some (.int r0)) (wM cA h s0 wd ++ F) := by
  refine ct_of (by decide +kernel) (Nat.le_of_ble_eq_true rfl) ?_
  intro p e s m below meth c E hw ls hl
  replace E : Ev p cX9_makeTwin 5 (some .int) RX9 (Cond.code yX9_makeTwin cX9_makeTwin 5 (some .int) :: bw) D cA tS A s m _ meth c := E
  replace hl : lv_has ls 5 [(0, .ref (h 0)), (1, .int x1), (2, .int x2)] := hl
  have hx := E.1.1
  have hb := E.1.2.1
  unfold f_X9_makeTwin at hM
  refine lv_aload_n hx hb dX9_makeTwin_0 rfl (lv_at hl 0 rfl) ?_
  refine lv_iload_n hx hb dX9_makeTwin_1 rfl (lv_at hl 1 rfl) ?_
  refine lv_bipush (v := 9) hx hb dX9_makeTwin_2 (by decide) ?_
  refine lv_iconst (v := 4) hx hb dX9_makeTwin_4 (by decide) ?_
  obtain ⟨p1, h2, hM⟩ := b_some hM
  refine q_cvv (As := [.int x1, .int 9, .int 4]) (rest := []) E hw hl (c_X9_setTicket l D cA tS A h F x1 9 4 σ wd p1 h2) 3 (bwV bw_c tb_1285 tb_1287 tb_60 tb_112 tb_1288) rfl (by decide +kernel) ⟨Nat.le_of_ble_eq_true rfl, Nat.le_of_ble_eq_true rfl⟩ 0 9 (T := TX9) (N := 17) rfl rfl rfl rfl (Nat.le_of_ble_eq_true rfl) ⟨Nat.zero_le _, Nat.zero_le _⟩ dX9_makeTwin_5 (fun H locs hw => ?_)
  refine lv_iconst (v := 0) hx hb dX9_makeTwin_8 (by decide) ?_
  refine lv_istore_n (lv' := [(3, .int 0), (0, .ref (h 0)), (1, .int x1), (2, .int x2)]) hx hb dX9_makeTwin_9 rfl hl (by decide) rfl (fun ls hl => ?_)
  refine lv_iconst (v := 0) hx hb dX9_makeTwin_10 (by decide) ?_
  refine lv_istore (lv' := [(4, .int 0), (3, .int 0), (0, .ref (h 0)), (1, .int x1), (2, .int x2)]) hx hb dX9_makeTwin_11 hl (by decide) rfl (fun ls hl => ?_)
  exact s_X9_makeTwin_13 l D cA tS A h F N E N _ _ _ _ _ _ _ _ hM _ _ hw _ (lv_sub hl [2, 3, 4, 1, 0] rfl)
def f_X9_makeOwn    (x1 : Int32) (σ : Sg) (wd : Int64) : Option (Int32 × Sg) := (f_X9_ticket x1 10 σ wd).bind (fun p1 => (f_X9_setTicket x1 10 (-1) σ wd).bind (fun p3 => (f_X9_setTicket x1 9 0 p3 wd).bind (fun p5 => (f_X9_log (p5 1 (ix 0)) 7 x1 p1 p5 wd).bind (fun p7 => some (p1, p7)))))
set_option maxRecDepth 100000 in
set_option maxHeartbeats 4000000 in
theorem c_X9_makeOwn (l : Launch) (D : va_G) (cA : Nat → ClassId) (tS : Nat → Nat) (A : Nat → Prop) (h : Nat → Nat) (F : va_W) (x1 : Int32) (σ : Sg) (wd : Int64) (r0 : Int32) (s0 : Sg) (hM : f_X9_makeOwn x1 σ wd = some (r0, s0)) : Ct l yX9_makeOwn (Cond.code yX9_makeOwn cX9_makeOwn 3 (some .int) :: bw) 1 25 D cA tS A [.ref (h 0), .int x1] (wM cA h σ wd ++ F) (some (.int r0)) (wM cA h s0 wd ++ F) := by
  refine ct_of (by decide +kernel) (Nat.le_of_ble_eq_true rfl) ?_
  intro p e s m below meth c E hw ls hl
  replace E : Ev p cX9_makeOwn 3 (some .int) RX9 (Cond.code yX9_makeOwn cX9_makeOwn 3 (some .int) :: bw) D cA tS A s m _ meth c := E
  replace hl : lv_has ls 3 [(0, .ref (h 0)), (1, .int x1)] := hl
  have hx := E.1.1
  have hb := E.1.2.1
  unfold f_X9_makeOwn at hM
  refine lv_aload_n hx hb dX9_makeOwn_0 rfl (lv_at hl 0 rfl) ?_
  refine lv_iload_n hx hb dX9_makeOwn_1 rfl (lv_at hl 1 rfl) ?_
  refine lv_bipush (v := 10) hx hb dX9_makeOwn_2 (by decide) ?_
  obtain ⟨p1, h2, hM⟩ := b_some hM
  refine q_cv (As := [.int x1, .int 10]) (rest := []) E hw hl (c_X9_ticket l D cA tS A h F x1 10 σ wd p1 h2) 2 (bwV bw_c tb_1253 tb_1255 tb_52 tb_112 tb_1256) rfl (by decide +kernel) ⟨Nat.le_of_ble_eq_true rfl, Nat.le_of_ble_eq_true rfl⟩ 0 9 (T := TX9) (N := 17) rfl rfl rfl rfl (Nat.le_of_ble_eq_true rfl) ⟨Nat.zero_le _, Nat.zero_le _⟩ dX9_makeOwn_4 (fun H locs hw => ?_)
  refine lv_istore_n (lv' := [(2, .int p1), (0, .ref (h 0)), (1, .int x1)]) hx hb dX9_makeOwn_7 rfl hl (by decide) rfl (fun ls hl => ?_)
  refine lv_aload_n hx hb dX9_makeOwn_8 rfl (lv_at hl 1 rfl) ?_
  refine lv_iload_n hx hb dX9_makeOwn_9 rfl (lv_at hl 2 rfl) ?_
  refine lv_bipush (v := 10) hx hb dX9_makeOwn_10 (by decide) ?_
  refine lv_iconst (v := (-1)) hx hb dX9_makeOwn_12 (by decide) ?_
  obtain ⟨p3, h4, hM⟩ := b_some hM
  refine q_cvv (As := [.int x1, .int 10, .int (-1)]) (rest := []) E hw hl (c_X9_setTicket l D cA tS A h F x1 10 (-1) σ wd p3 h4) 3 (bwV bw_c tb_1285 tb_1287 tb_60 tb_112 tb_1288) rfl (by decide +kernel) ⟨Nat.le_of_ble_eq_true rfl, Nat.le_of_ble_eq_true rfl⟩ 0 9 (T := TX9) (N := 17) rfl rfl rfl rfl (Nat.le_of_ble_eq_true rfl) ⟨Nat.zero_le _, Nat.zero_le _⟩ dX9_makeOwn_13 (fun H locs hw => ?_)
  refine lv_aload_n hx hb dX9_makeOwn_16 rfl (lv_at hl 1 rfl) ?_
  refine lv_iload_n hx hb dX9_makeOwn_17 rfl (lv_at hl 2 rfl) ?_
  refine lv_bipush (v := 9) hx hb dX9_makeOwn_18 (by decide) ?_
  refine lv_iconst (v := 0) hx hb dX9_makeOwn_20 (by decide) ?_
  obtain ⟨p5, h6, hM⟩ := b_some hM
  refine q_cvv (As := [.int x1, .int 9, .int 0]) (rest := []) E hw hl (c_X9_setTicket l D cA tS A h F x1 9 0 p3 wd p5 h6) 3 (bwV bw_c tb_1285 tb_1287 tb_60 tb_112 tb_1288) rfl (by decide +kernel) ⟨Nat.le_of_ble_eq_true rfl, Nat.le_of_ble_eq_true rfl⟩ 0 9 (T := TX9) (N := 17) rfl rfl rfl rfl (Nat.le_of_ble_eq_true rfl) ⟨Nat.zero_le _, Nat.zero_le _⟩ dX9_makeOwn_21 (fun H locs hw => ?_)
  refine lv_aload_n hx hb dX9_makeOwn_24 rfl (lv_at hl 1 rfl) ?_
  refine lv_aload_n hx hb dX9_makeOwn_25 rfl (lv_at hl 1 rfl) ?_
  refine q_get (C := RX9) (T := TX9) (N := 17) (ci := 9) E (fun w h => List.mem_cons_of_mem _ (inX9 w h)) hw 0 rfl rfl 0 (by decide) (List.mem_cons_of_mem _ tb_1157) (v := .ref (h 1)) rfl dX9_makeOwn_26 ?_
  refine lv_iconst (v := 0) hx hb dX9_makeOwn_29 (by decide) ?_
  refine q_ald E hw 1 (n := 4619) rfl (by decide +kernel) (x := (p5 1 (ix 0))) rfl dX9_makeOwn_30 ?_
  refine lv_bipush (v := 7) hx hb dX9_makeOwn_31 (by decide) ?_
  refine lv_iload_n hx hb dX9_makeOwn_33 rfl (lv_at hl 2 rfl) ?_
  refine lv_iload_n hx hb dX9_makeOwn_34 rfl (lv_at hl 0 rfl) ?_
  obtain ⟨p7, h8, hM⟩ := b_some hM
  refine q_cvv (As := [.int (p5 1 (ix 0)), .int 7, .int x1, .int p1]) (rest := []) E hw hl (c_X9_log l D cA tS A h F (p5 1 (ix 0)) 7 x1 p1 p5 wd p7 h8) 4 (bwV bw_c tb_1293 tb_1295 tb_62 tb_112 tb_1296) rfl (by decide +kernel) ⟨Nat.le_of_ble_eq_true rfl, Nat.le_of_ble_eq_true rfl⟩ 0 9 (T := TX9) (N := 17) rfl rfl rfl rfl (Nat.le_of_ble_eq_true rfl) ⟨Nat.zero_le _, Nat.zero_le _⟩ dX9_makeOwn_35 (fun H locs hw => ?_)
  refine lv_iload_n hx hb dX9_makeOwn_38 rfl (lv_at hl 0 rfl) ?_
  cases hM
  exact q_reti E hw dX9_makeOwn_39
def f_X9_make (N : Nat)   (x1 : Int32) (x2 : Int32) (x3 : Int32) (x4 : Int32) (x5 : Int32) (σ : Sg) (wd : Int64) : Option (Int32 × Sg) := (if x1 = 0 then if ib (1 + x2) 4619 then if ib (8 + x2) 4619 then some (0, (up (up σ 1 (ix (1 + x2)) x3) 1 (ix (8 + x2)) x4)) else none else none else if x1 = 1 then (f_X9_makeAgents N x2 x3 σ wd).bind (fun p7 => some (p7.1, p7.2)) else if x1 = 2 then (f_X9_makeTicket N x2 x3 x4 x5 σ wd).bind (fun p9 => some (p9.1, p9.2)) else if x1 = 3 then (f_X9_setTicket x2 9 2 σ wd).bind (fun p11 => (f_X9_log (p11 1 (ix 0)) 2 x2 0 p11 wd).bind (fun p13 => (f_X9_ticket x2 8 p13 wd).bind (fun p15 => some (p15, p13)))) else if x1 = 4 then (f_X9_setTicket x2 9 0 σ wd).bind (fun p17 => (f_X9_log (p17 1 (ix 0)) 3 x2 0 p17 wd).bind (fun p19 => (f_X9_ticket x2 8 p19 wd).bind (fun p21 => some (p21, p19)))) else if x1 = 5 then (f_X9_letClimb x2 (σ 1 (ix 0)) σ wd).bind (fun p23 => (f_X9_ticket x2 4 p23 wd).bind (fun p25 => some (p25, p23))) else if x1 = 6 then (f_X9_makeSolved N x2 (σ 1 (ix 0)) σ wd).bind (fun p27 => some (p27.1, p27.2)) else if x1 = 7 then (f_X9_makeOpen N x2 σ wd).bind (fun p29 => some (p29.1, p29.2)) else if x1 = 8 then (f_X9_makeTwin N x2 x3 σ wd).bind (fun p31 => some (p31.1, p31.2)) else if x1 = 9 then (f_X9_makeOwn x2 σ wd).bind (fun p33 => some (p33.1, p33.2)) else (f_X9_ticket x2 3 σ wd).bind (fun p1 => (f_X9_setTicket x2 3 x3 σ wd).bind (fun p3 => some (p1, p3))))
set_option maxRecDepth 100000 in
set_option maxHeartbeats 4000000 in
theorem c_X9_make (l : Launch) (D : va_G) (cA : Nat → ClassId) (tS : Nat → Nat) (A : Nat → Prop) (h : Nat → Nat) (F : va_W) (N : Nat) (x1 : Int32) (x2 : Int32) (x3 : Int32) (x4 : Int32) (x5 : Int32) (σ : Sg) (wd : Int64) (r0 : Int32) (s0 : Sg) (hM : f_X9_make N x1 x2 x3 x4 x5 σ wd = some (r0, s0)) : Ct l yX9_make (Cond.code yX9_make cX9_make 7 (some .int) :: bw) 5 113 D cA tS A [.ref (h 0), .int x1, .int x2, .int x3, .int x4, .int x5] (wM cA h σ wd ++ F) (some (.int r0)) (wM cA h s0 wd ++ F) := by
  refine ct_of (by decide +kernel) (Nat.le_of_ble_eq_true rfl) ?_
  intro p e s m below meth c E hw ls hl
  replace E : Ev p cX9_make 7 (some .int) RX9 (Cond.code yX9_make cX9_make 7 (some .int) :: bw) D cA tS A s m _ meth c := E
  replace hl : lv_has ls 7 [(0, .ref (h 0)), (1, .int x1), (2, .int x2), (3, .int x3), (4, .int x4), (5, .int x5)] := hl
  have hx := E.1.1
  have hb := E.1.2.1
  unfold f_X9_make at hM
  refine lv_iload_n hx hb dX9_make_0 rfl (lv_at hl 1 rfl) ?_
  by_cases c35 : x1 = 0
  · replace hM := i_pos hM c35
    refine lv_tableIn (tgt := 56) hx hb dX9_make_1 (by rw [c35]; decide) (by rw [c35]; decide) (off := 55) (by rw [c35]; decide) (by decide) ?_
    refine lv_aload_n hx hb dX9_make_56 rfl (lv_at hl 0 rfl) ?_
    refine q_get (C := RX9) (T := TX9) (N := 17) (ci := 9) E (fun w h => List.mem_cons_of_mem _ (inX9 w h)) hw 0 rfl rfl 0 (by decide) (List.mem_cons_of_mem _ tb_1157) (v := .ref (h 1)) rfl dX9_make_57 ?_
    refine lv_iconst (v := 1) hx hb dX9_make_60 (by decide) ?_
    refine lv_iload_n hx hb dX9_make_61 rfl (lv_at hl 2 rfl) ?_
    refine lv_iadd hx hb dX9_make_62 ?_
    refine lv_iload_n hx hb dX9_make_63 rfl (lv_at hl 3 rfl) ?_
    obtain ⟨g5, hM⟩ := g_some hM
    refine q_ast E hw 1 (n := 4619) rfl g5 (wM cA h (up σ 1 (ix (1 + x2)) x3) wd ++ F) st_M_1 dX9_make_64 (fun H locs hw => ?_)
    refine lv_aload_n hx hb dX9_make_65 rfl (lv_at hl 0 rfl) ?_
    refine q_get (C := RX9) (T := TX9) (N := 17) (ci := 9) E (fun w h => List.mem_cons_of_mem _ (inX9 w h)) hw 0 rfl rfl 0 (by decide) (List.mem_cons_of_mem _ tb_1157) (v := .ref (h 1)) rfl dX9_make_66 ?_
    refine lv_bipush (v := 8) hx hb dX9_make_69 (by decide) ?_
    refine lv_iload_n hx hb dX9_make_71 rfl (lv_at hl 2 rfl) ?_
    refine lv_iadd hx hb dX9_make_72 ?_
    refine lv_iload hx hb dX9_make_73 (lv_at hl 4 rfl) ?_
    obtain ⟨g6, hM⟩ := g_some hM
    refine q_ast E hw 1 (n := 4619) rfl g6 (wM cA h (up (up σ 1 (ix (1 + x2)) x3) 1 (ix (8 + x2)) x4) wd ++ F) st_M_1 dX9_make_75 (fun H locs hw => ?_)
    refine lv_iconst (v := 0) hx hb dX9_make_76 (by decide) ?_
    cases hM
    exact q_reti E hw dX9_make_77
  replace hM := i_neg hM c35
  by_cases c36 : x1 = 1
  · replace hM := i_pos hM c36
    refine lv_tableIn (tgt := 78) hx hb dX9_make_1 (by rw [c36]; decide) (by rw [c36]; decide) (off := 77) (by rw [c36]; decide) (by decide) ?_
    refine lv_aload_n hx hb dX9_make_78 rfl (lv_at hl 0 rfl) ?_
    refine lv_iload_n hx hb dX9_make_79 rfl (lv_at hl 2 rfl) ?_
    refine lv_iload_n hx hb dX9_make_80 rfl (lv_at hl 3 rfl) ?_
    obtain ⟨p7, h8, hM⟩ := b_some hM
    refine q_cv (As := [.int x2, .int x3]) (rest := []) E hw hl (c_X9_makeAgents l D cA tS A h F N x2 x3 σ wd p7.1 p7.2 h8) 2 (bwV bw_c tb_1273 tb_1275 tb_57 tb_112 tb_1276) rfl (by decide +kernel) ⟨Nat.le_of_ble_eq_true rfl, Nat.le_of_ble_eq_true rfl⟩ 0 9 (T := TX9) (N := 17) rfl rfl rfl rfl (Nat.le_of_ble_eq_true rfl) ⟨Nat.zero_le _, Nat.zero_le _⟩ dX9_make_81 (fun H locs hw => ?_)
    cases hM
    exact q_reti E hw dX9_make_84
  replace hM := i_neg hM c36
  by_cases c37 : x1 = 2
  · replace hM := i_pos hM c37
    refine lv_tableIn (tgt := 85) hx hb dX9_make_1 (by rw [c37]; decide) (by rw [c37]; decide) (off := 84) (by rw [c37]; decide) (by decide) ?_
    refine lv_aload_n hx hb dX9_make_85 rfl (lv_at hl 0 rfl) ?_
    refine lv_iload_n hx hb dX9_make_86 rfl (lv_at hl 2 rfl) ?_
    refine lv_iload_n hx hb dX9_make_87 rfl (lv_at hl 3 rfl) ?_
    refine lv_iload hx hb dX9_make_88 (lv_at hl 4 rfl) ?_
    refine lv_iload hx hb dX9_make_90 (lv_at hl 5 rfl) ?_
    obtain ⟨p9, h10, hM⟩ := b_some hM
    refine q_cv (As := [.int x2, .int x3, .int x4, .int x5]) (rest := []) E hw hl (c_X9_makeTicket l D cA tS A h F N x2 x3 x4 x5 σ wd p9.1 p9.2 h10) 4 (bwV bw_c tb_1289 tb_1291 tb_61 tb_112 tb_1292) rfl (by decide +kernel) ⟨Nat.le_of_ble_eq_true rfl, Nat.le_of_ble_eq_true rfl⟩ 0 9 (T := TX9) (N := 17) rfl rfl rfl rfl (Nat.le_of_ble_eq_true rfl) ⟨Nat.zero_le _, Nat.zero_le _⟩ dX9_make_92 (fun H locs hw => ?_)
    cases hM
    exact q_reti E hw dX9_make_95
  replace hM := i_neg hM c37
  by_cases c38 : x1 = 3
  · replace hM := i_pos hM c38
    refine lv_tableIn (tgt := 96) hx hb dX9_make_1 (by rw [c38]; decide) (by rw [c38]; decide) (off := 95) (by rw [c38]; decide) (by decide) ?_
    refine lv_aload_n hx hb dX9_make_96 rfl (lv_at hl 0 rfl) ?_
    refine lv_iload_n hx hb dX9_make_97 rfl (lv_at hl 2 rfl) ?_
    refine lv_bipush (v := 9) hx hb dX9_make_98 (by decide) ?_
    refine lv_iconst (v := 2) hx hb dX9_make_100 (by decide) ?_
    obtain ⟨p11, h12, hM⟩ := b_some hM
    refine q_cvv (As := [.int x2, .int 9, .int 2]) (rest := []) E hw hl (c_X9_setTicket l D cA tS A h F x2 9 2 σ wd p11 h12) 3 (bwV bw_c tb_1285 tb_1287 tb_60 tb_112 tb_1288) rfl (by decide +kernel) ⟨Nat.le_of_ble_eq_true rfl, Nat.le_of_ble_eq_true rfl⟩ 0 9 (T := TX9) (N := 17) rfl rfl rfl rfl (Nat.le_of_ble_eq_true rfl) ⟨Nat.zero_le _, Nat.zero_le _⟩ dX9_make_101 (fun H locs hw => ?_)
    refine lv_aload_n hx hb dX9_make_104 rfl (lv_at hl 0 rfl) ?_
    refine lv_aload_n hx hb dX9_make_105 rfl (lv_at hl 0 rfl) ?_
    refine q_get (C := RX9) (T := TX9) (N := 17) (ci := 9) E (fun w h => List.mem_cons_of_mem _ (inX9 w h)) hw 0 rfl rfl 0 (by decide) (List.mem_cons_of_mem _ tb_1157) (v := .ref (h 1)) rfl dX9_make_106 ?_
    refine lv_iconst (v := 0) hx hb dX9_make_109 (by decide) ?_
    refine q_ald E hw 1 (n := 4619) rfl (by decide +kernel) (x := (p11 1 (ix 0))) rfl dX9_make_110 ?_
    refine lv_iconst (v := 2) hx hb dX9_make_111 (by decide) ?_
    refine lv_iload_n hx hb dX9_make_112 rfl (lv_at hl 2 rfl) ?_
    refine lv_iconst (v := 0) hx hb dX9_make_113 (by decide) ?_
    obtain ⟨p13, h14, hM⟩ := b_some hM
    refine q_cvv (As := [.int (p11 1 (ix 0)), .int 2, .int x2, .int 0]) (rest := []) E hw hl (c_X9_log l D cA tS A h F (p11 1 (ix 0)) 2 x2 0 p11 wd p13 h14) 4 (bwV bw_c tb_1293 tb_1295 tb_62 tb_112 tb_1296) rfl (by decide +kernel) ⟨Nat.le_of_ble_eq_true rfl, Nat.le_of_ble_eq_true rfl⟩ 0 9 (T := TX9) (N := 17) rfl rfl rfl rfl (Nat.le_of_ble_eq_true rfl) ⟨Nat.zero_le _, Nat.zero_le _⟩ dX9_make_114 (fun H locs hw => ?_)
    refine lv_aload_n hx hb dX9_make_117 rfl (lv_at hl 0 rfl) ?_
    refine lv_iload_n hx hb dX9_make_118 rfl (lv_at hl 2 rfl) ?_
    refine lv_bipush (v := 8) hx hb dX9_make_119 (by decide) ?_
    obtain ⟨p15, h16, hM⟩ := b_some hM
    refine q_cv (As := [.int x2, .int 8]) (rest := []) E hw hl (c_X9_ticket l D cA tS A h F x2 8 p13 wd p15 h16) 2 (bwV bw_c tb_1253 tb_1255 tb_52 tb_112 tb_1256) rfl (by decide +kernel) ⟨Nat.le_of_ble_eq_true rfl, Nat.le_of_ble_eq_true rfl⟩ 0 9 (T := TX9) (N := 17) rfl rfl rfl rfl (Nat.le_of_ble_eq_true rfl) ⟨Nat.zero_le _, Nat.zero_le _⟩ dX9_make_121 (fun H locs hw => ?_)
    cases hM
    exact q_reti E hw dX9_make_124
  replace hM := i_neg hM c38
  by_cases c39 : x1 = 4
  · replace hM := i_pos hM c39
    refine lv_tableIn (tgt := 125) hx hb dX9_make_1 (by rw [c39]; decide) (by rw [c39]; decide) (off := 124) (by rw [c39]; decide) (by decide) ?_
    refine lv_aload_n hx hb dX9_make_125 rfl (lv_at hl 0 rfl) ?_
    refine lv_iload_n hx hb dX9_make_126 rfl (lv_at hl 2 rfl) ?_
    refine lv_bipush (v := 9) hx hb dX9_make_127 (by decide) ?_
    refine lv_iconst (v := 0) hx hb dX9_make_129 (by decide) ?_
    obtain ⟨p17, h18, hM⟩ := b_some hM
    refine q_cvv (As := [.int x2, .int 9, .int 0]) (rest := []) E hw hl (c_X9_setTicket l D cA tS A h F x2 9 0 σ wd p17 h18) 3 (bwV bw_c tb_1285 tb_1287 tb_60 tb_112 tb_1288) rfl (by decide +kernel) ⟨Nat.le_of_ble_eq_true rfl, Nat.le_of_ble_eq_true rfl⟩ 0 9 (T := TX9) (N := 17) rfl rfl rfl rfl (Nat.le_of_ble_eq_true rfl) ⟨Nat.zero_le _, Nat.zero_le _⟩ dX9_make_130 (fun H locs hw => ?_)
    refine lv_aload_n hx hb dX9_make_133 rfl (lv_at hl 0 rfl) ?_
    refine lv_aload_n hx hb dX9_make_134 rfl (lv_at hl 0 rfl) ?_
    refine q_get (C := RX9) (T := TX9) (N := 17) (ci := 9) E (fun w h => List.mem_cons_of_mem _ (inX9 w h)) hw 0 rfl rfl 0 (by decide) (List.mem_cons_of_mem _ tb_1157) (v := .ref (h 1)) rfl dX9_make_135 ?_
    refine lv_iconst (v := 0) hx hb dX9_make_138 (by decide) ?_
    refine q_ald E hw 1 (n := 4619) rfl (by decide +kernel) (x := (p17 1 (ix 0))) rfl dX9_make_139 ?_
    refine lv_iconst (v := 3) hx hb dX9_make_140 (by decide) ?_
    refine lv_iload_n hx hb dX9_make_141 rfl (lv_at hl 2 rfl) ?_
    refine lv_iconst (v := 0) hx hb dX9_make_142 (by decide) ?_
    obtain ⟨p19, h20, hM⟩ := b_some hM
    refine q_cvv (As := [.int (p17 1 (ix 0)), .int 3, .int x2, .int 0]) (rest := []) E hw hl (c_X9_log l D cA tS A h F (p17 1 (ix 0)) 3 x2 0 p17 wd p19 h20) 4 (bwV bw_c tb_1293 tb_1295 tb_62 tb_112 tb_1296) rfl (by decide +kernel) ⟨Nat.le_of_ble_eq_true rfl, Nat.le_of_ble_eq_true rfl⟩ 0 9 (T := TX9) (N := 17) rfl rfl rfl rfl (Nat.le_of_ble_eq_true rfl) ⟨Nat.zero_le _, Nat.zero_le _⟩ dX9_make_143 (fun H locs hw => ?_)
    refine lv_aload_n hx hb dX9_make_146 rfl (lv_at hl 0 rfl) ?_
    refine lv_iload_n hx hb dX9_make_147 rfl (lv_at hl 2 rfl) ?_
    refine lv_bipush (v := 8) hx hb dX9_make_148 (by decide) ?_
    obtain ⟨p21, h22, hM⟩ := b_some hM
    refine q_cv (As := [.int x2, .int 8]) (rest := []) E hw hl (c_X9_ticket l D cA tS A h F x2 8 p19 wd p21 h22) 2 (bwV bw_c tb_1253 tb_1255 tb_52 tb_112 tb_1256) rfl (by decide +kernel) ⟨Nat.le_of_ble_eq_true rfl, Nat.le_of_ble_eq_true rfl⟩ 0 9 (T := TX9) (N := 17) rfl rfl rfl rfl (Nat.le_of_ble_eq_true rfl) ⟨Nat.zero_le _, Nat.zero_le _⟩ dX9_make_150 (fun H locs hw => ?_)
    cases hM
    exact q_reti E hw dX9_make_153
  replace hM := i_neg hM c39
  by_cases c40 : x1 = 5
  · replace hM := i_pos hM c40
    refine lv_tableIn (tgt := 154) hx hb dX9_make_1 (by rw [c40]; decide) (by rw [c40]; decide) (off := 153) (by rw [c40]; decide) (by decide) ?_
    refine lv_aload_n hx hb dX9_make_154 rfl (lv_at hl 0 rfl) ?_
    refine lv_iload_n hx hb dX9_make_155 rfl (lv_at hl 2 rfl) ?_
    refine lv_aload_n hx hb dX9_make_156 rfl (lv_at hl 0 rfl) ?_
    refine q_get (C := RX9) (T := TX9) (N := 17) (ci := 9) E (fun w h => List.mem_cons_of_mem _ (inX9 w h)) hw 0 rfl rfl 0 (by decide) (List.mem_cons_of_mem _ tb_1157) (v := .ref (h 1)) rfl dX9_make_157 ?_
    refine lv_iconst (v := 0) hx hb dX9_make_160 (by decide) ?_
    refine q_ald E hw 1 (n := 4619) rfl (by decide +kernel) (x := (σ 1 (ix 0))) rfl dX9_make_161 ?_
    obtain ⟨p23, h24, hM⟩ := b_some hM
    refine q_cvv (As := [.int x2, .int (σ 1 (ix 0))]) (rest := []) E hw hl (c_X9_letClimb l D cA tS A h F x2 (σ 1 (ix 0)) σ wd p23 h24) 2 (bwV bw_c tb_1297 tb_1299 tb_63 tb_112 tb_1300) rfl (by decide +kernel) ⟨Nat.le_of_ble_eq_true rfl, Nat.le_of_ble_eq_true rfl⟩ 0 9 (T := TX9) (N := 17) rfl rfl rfl rfl (Nat.le_of_ble_eq_true rfl) ⟨Nat.zero_le _, Nat.zero_le _⟩ dX9_make_162 (fun H locs hw => ?_)
    refine lv_aload_n hx hb dX9_make_165 rfl (lv_at hl 0 rfl) ?_
    refine lv_iload_n hx hb dX9_make_166 rfl (lv_at hl 2 rfl) ?_
    refine lv_iconst (v := 4) hx hb dX9_make_167 (by decide) ?_
    obtain ⟨p25, h26, hM⟩ := b_some hM
    refine q_cv (As := [.int x2, .int 4]) (rest := []) E hw hl (c_X9_ticket l D cA tS A h F x2 4 p23 wd p25 h26) 2 (bwV bw_c tb_1253 tb_1255 tb_52 tb_112 tb_1256) rfl (by decide +kernel) ⟨Nat.le_of_ble_eq_true rfl, Nat.le_of_ble_eq_true rfl⟩ 0 9 (T := TX9) (N := 17) rfl rfl rfl rfl (Nat.le_of_ble_eq_true rfl) ⟨Nat.zero_le _, Nat.zero_le _⟩ dX9_make_168 (fun H locs hw => ?_)
    cases hM
    exact q_reti E hw dX9_make_171
  replace hM := i_neg hM c40
  by_cases c41 : x1 = 6
  · replace hM := i_pos hM c41
    refine lv_tableIn (tgt := 172) hx hb dX9_make_1 (by rw [c41]; decide) (by rw [c41]; decide) (off := 171) (by rw [c41]; decide) (by decide) ?_
    refine lv_aload_n hx hb dX9_make_172 rfl (lv_at hl 0 rfl) ?_
    refine lv_iload_n hx hb dX9_make_173 rfl (lv_at hl 2 rfl) ?_
    refine lv_aload_n hx hb dX9_make_174 rfl (lv_at hl 0 rfl) ?_
    refine q_get (C := RX9) (T := TX9) (N := 17) (ci := 9) E (fun w h => List.mem_cons_of_mem _ (inX9 w h)) hw 0 rfl rfl 0 (by decide) (List.mem_cons_of_mem _ tb_1157) (v := .ref (h 1)) rfl dX9_make_175 ?_
    refine lv_iconst (v := 0) hx hb dX9_make_178 (by decide) ?_
    refine q_ald E hw 1 (n := 4619) rfl (by decide +kernel) (x := (σ 1 (ix 0))) rfl dX9_make_179 ?_
    obtain ⟨p27, h28, hM⟩ := b_some hM
    refine q_cv (As := [.int x2, .int (σ 1 (ix 0))]) (rest := []) E hw hl (c_X9_makeSolved l D cA tS A h F N x2 (σ 1 (ix 0)) σ wd p27.1 p27.2 h28) 2 (bwV bw_c tb_1301 tb_1303 tb_64 tb_112 tb_1304) rfl (by decide +kernel) ⟨Nat.le_of_ble_eq_true rfl, Nat.le_of_ble_eq_true rfl⟩ 0 9 (T := TX9) (N := 17) rfl rfl rfl rfl (Nat.le_of_ble_eq_true rfl) ⟨Nat.zero_le _, Nat.zero_le _⟩ dX9_make_180 (fun H locs hw => ?_)
    cases hM
    exact q_reti E hw dX9_make_183
  replace hM := i_neg hM c41
  by_cases c42 : x1 = 7
  · replace hM := i_pos hM c42
    refine lv_tableIn (tgt := 184) hx hb dX9_make_1 (by rw [c42]; decide) (by rw [c42]; decide) (off := 183) (by rw [c42]; decide) (by decide) ?_
    refine lv_aload_n hx hb dX9_make_184 rfl (lv_at hl 0 rfl) ?_
    refine lv_iload_n hx hb dX9_make_185 rfl (lv_at hl 2 rfl) ?_
    obtain ⟨p29, h30, hM⟩ := b_some hM
    refine q_cv (As := [.int x2]) (rest := []) E hw hl (c_X9_makeOpen l D cA tS A h F N x2 σ wd p29.1 p29.2 h30) 1 (bwV bw_c tb_1309 tb_1311 tb_66 tb_112 tb_1312) rfl (by decide +kernel) ⟨Nat.le_of_ble_eq_true rfl, Nat.le_of_ble_eq_true rfl⟩ 0 9 (T := TX9) (N := 17) rfl rfl rfl rfl (Nat.le_of_ble_eq_true rfl) ⟨Nat.zero_le _, Nat.zero_le _⟩ dX9_make_186 (fun H locs hw => ?_)
    cases hM
    exact q_reti E hw dX9_make_189
  replace hM := i_neg hM c42
  by_cases c43 : x1 = 8
  · replace hM := i_pos hM c43
    refine lv_tableIn (tgt := 190) hx hb dX9_make_1 (by rw [c43]; decide) (by rw [c43]; decide) (off := 189) (by rw [c43]; decide) (by decide) ?_
    refine lv_aload_n hx hb dX9_make_190 rfl (lv_at hl 0 rfl) ?_
    refine lv_iload_n hx hb dX9_make_191 rfl (lv_at hl 2 rfl) ?_
    refine lv_iload_n hx hb dX9_make_192 rfl (lv_at hl 3 rfl) ?_
    obtain ⟨p31, h32, hM⟩ := b_some hM
    refine q_cv (As := [.int x2, .int x3]) (rest := []) E hw hl (c_X9_makeTwin l D cA tS A h F N x2 x3 σ wd p31.1 p31.2 h32) 2 (bwV bw_c tb_1313 tb_1315 tb_67 tb_112 tb_1316) rfl (by decide +kernel) ⟨Nat.le_of_ble_eq_true rfl, Nat.le_of_ble_eq_true rfl⟩ 0 9 (T := TX9) (N := 17) rfl rfl rfl rfl (Nat.le_of_ble_eq_true rfl) ⟨Nat.zero_le _, Nat.zero_le _⟩ dX9_make_193 (fun H locs hw => ?_)
    cases hM
    exact q_reti E hw dX9_make_196
  replace hM := i_neg hM c43
  by_cases c44 : x1 = 9
  · replace hM := i_pos hM c44
    refine lv_tableIn (tgt := 197) hx hb dX9_make_1 (by rw [c44]; decide) (by rw [c44]; decide) (off := 196) (by rw [c44]; decide) (by decide) ?_
    refine lv_aload_n hx hb dX9_make_197 rfl (lv_at hl 0 rfl) ?_
    refine lv_iload_n hx hb dX9_make_198 rfl (lv_at hl 2 rfl) ?_
    obtain ⟨p33, h34, hM⟩ := b_some hM
    refine q_cv (As := [.int x2]) (rest := []) E hw hl (c_X9_makeOwn l D cA tS A h F x2 σ wd p33.1 p33.2 h34) 1 (bwV bw_c tb_1317 tb_1319 tb_68 tb_112 tb_1320) rfl (by decide +kernel) ⟨Nat.le_of_ble_eq_true rfl, Nat.le_of_ble_eq_true rfl⟩ 0 9 (T := TX9) (N := 17) rfl rfl rfl rfl (Nat.le_of_ble_eq_true rfl) ⟨Nat.zero_le _, Nat.zero_le _⟩ dX9_make_199 (fun H locs hw => ?_)
    cases hM
    exact q_reti E hw dX9_make_202
  replace hM := i_neg hM c44
  refine q_tableD (tgt := 203) hx hb dX9_make_1 (fun hq => ?_) (by decide) ?_
  · have hz : (x1).toInt = 0 ∨ (x1).toInt = 1 ∨ (x1).toInt = 2 ∨ (x1).toInt = 3 ∨ (x1).toInt = 4 ∨ (x1).toInt = 5 ∨ (x1).toInt = 6 ∨ (x1).toInt = 7 ∨ (x1).toInt = 8 ∨ (x1).toInt = 9 := by omega
    rcases hz with hz | hz | hz | hz | hz | hz | hz | hz | hz | hz
    · exact absurd (Int32.toInt_inj.mp (hz.trans (by decide))) c35
    · exact absurd (Int32.toInt_inj.mp (hz.trans (by decide))) c36
    · exact absurd (Int32.toInt_inj.mp (hz.trans (by decide))) c37
    · exact absurd (Int32.toInt_inj.mp (hz.trans (by decide))) c38
    · exact absurd (Int32.toInt_inj.mp (hz.trans (by decide))) c39
    · exact absurd (Int32.toInt_inj.mp (hz.trans (by decide))) c40
    · exact absurd (Int32.toInt_inj.mp (hz.trans (by decide))) c41
    · exact absurd (Int32.toInt_inj.mp (hz.trans (by decide))) c42
    · exact absurd (Int32.toInt_inj.mp (hz.trans (by decide))) c43
    · exact absurd (Int32.toInt_inj.mp (hz.trans (by decide))) c44
  refine lv_aload_n hx hb dX9_make_203 rfl (lv_at hl 0 rfl) ?_
  refine lv_iload_n hx hb dX9_make_204 rfl (lv_at hl 2 rfl) ?_
  refine lv_iconst (v := 3) hx hb dX9_make_205 (by decide) ?_
  obtain ⟨p1, h2, hM⟩ := b_some hM
  refine q_cv (As := [.int x2, .int 3]) (rest := []) E hw hl (c_X9_ticket l D cA tS A h F x2 3 σ wd p1 h2) 2 (bwV bw_c tb_1253 tb_1255 tb_52 tb_112 tb_1256) rfl (by decide +kernel) ⟨Nat.le_of_ble_eq_true rfl, Nat.le_of_ble_eq_true rfl⟩ 0 9 (T := TX9) (N := 17) rfl rfl rfl rfl (Nat.le_of_ble_eq_true rfl) ⟨Nat.zero_le _, Nat.zero_le _⟩ dX9_make_206 (fun H locs hw => ?_)
  refine lv_istore (lv' := [(6, .int p1), (0, .ref (h 0)), (1, .int x1), (2, .int x2), (3, .int x3), (4, .int x4), (5, .int x5)]) hx hb dX9_make_209 hl (by decide) rfl (fun ls hl => ?_)
  refine lv_aload_n hx hb dX9_make_211 rfl (lv_at hl 1 rfl) ?_
  refine lv_iload_n hx hb dX9_make_212 rfl (lv_at hl 3 rfl) ?_
  refine lv_iconst (v := 3) hx hb dX9_make_213 (by decide) ?_
  refine lv_iload_n hx hb dX9_make_214 rfl (lv_at hl 4 rfl) ?_
  obtain ⟨p3, h4, hM⟩ := b_some hM
  refine q_cvv (As := [.int x2, .int 3, .int x3]) (rest := []) E hw hl (c_X9_setTicket l D cA tS A h F x2 3 x3 σ wd p3 h4) 3 (bwV bw_c tb_1285 tb_1287 tb_60 tb_112 tb_1288) rfl (by decide +kernel) ⟨Nat.le_of_ble_eq_true rfl, Nat.le_of_ble_eq_true rfl⟩ 0 9 (T := TX9) (N := 17) rfl rfl rfl rfl (Nat.le_of_ble_eq_true rfl) ⟨Nat.zero_le _, Nat.zero_le _⟩ dX9_make_215 (fun H locs hw => ?_)
  refine lv_iload hx hb dX9_make_218 (lv_at hl 0 rfl) ?_
  cases hM
  exact q_reti E hw dX9_make_220
def f_X9_change (N : Nat)   (x1 : Int32) (x2 : Int32) (x3 : Int32) (x4 : Int32) (x5 : Int32) (σ : Sg) (wd : Int64) : Option (Int32 × Sg) := (f_X9_errorOf x1 x2 x3 x4 x5 σ wd).bind (fun p1 => (if p1 = 0 then (if (σ 1 (ix 57)) = 200 then some ((-6), σ) else if ib (1019 + (6 * (σ 1 (ix 57)))) 4619 then if ib ((1019 + (6 * (σ 1 (ix 57)))) + 1) 4619 then if ib ((1019 + (6 * (σ 1 (ix 57)))) + 2) 4619 then if ib ((1019 + (6 * (σ 1 (ix 57)))) + 3) 4619 then if ib ((1019 + (6 * (σ 1 (ix 57)))) + 4) 4619 then if ib ((1019 + (6 * (σ 1 (ix 57)))) + 5) 4619 then (f_X9_make N x1 x2 x3 x4 x5 (up (up (up (up (up (up (up σ 1 (ix (1019 + (6 * (σ 1 (ix 57))))) (σ 1 (ix 0))) 1 (ix ((1019 + (6 * (σ 1 (ix 57)))) + 1)) x1) 1 (ix ((1019 + (6 * (σ 1 (ix 57)))) + 2)) x2) 1 (ix ((1019 + (6 * (σ 1 (ix 57)))) + 3)) x3) 1 (ix ((1019 + (6 * (σ 1 (ix 57)))) + 4)) x4) 1 (ix ((1019 + (6 * (σ 1 (ix 57)))) + 5)) x5) 1 (ix 57) (((up (up (up (up (up (up σ 1 (ix (1019 + (6 * (σ 1 (ix 57))))) (σ 1 (ix 0))) 1 (ix ((1019 + (6 * (σ 1 (ix 57)))) + 1)) x1) 1 (ix ((1019 + (6 * (σ 1 (ix 57)))) + 2)) x2) 1 (ix ((1019 + (6 * (σ 1 (ix 57)))) + 3)) x3) 1 (ix ((1019 + (6 * (σ 1 (ix 57)))) + 4)) x4) 1 (ix ((1019 + (6 * (σ 1 (ix 57)))) + 5)) x5) 1 (ix 57)) + 1)) wd).bind (fun p11 => some (p11.1, p11.2)) else none else none else none else none else none else none) else some (p1, σ)))
set_option maxRecDepth 100000 in
set_option maxHeartbeats 4000000 in
theorem c_X9_change (l : Launch) (D : va_G) (cA : Nat → ClassId) (tS : Nat → Nat) (A : Nat → Prop) (h : Nat → Nat) (F : va_W) (N : Nat) (x1 : Int32) (x2 : Int32) (x3 : Int32) (x4 : Int32) (x5 : Int32) (σ : Sg) (wd : Int64) (r0 : Int32) (s0 : Sg) (hM : f_X9_change N x1 x2 x3 x4 x5 σ wd = some (r0, s0)) : Ct l yX9_change (Cond.code yX9_change cX9_change 8 (some .int) :: bw) 6 139 D cA tS A [.ref (h 0), .int x1, .int x2, .int x3, .int x4, .int x5] (wM cA h σ wd ++ F) (some (.int r0)) (wM cA h s0 wd ++ F) := by
  refine ct_of (by decide +kernel) (Nat.le_of_ble_eq_true rfl) ?_
  intro p e s m below meth c E hw ls hl
  replace E : Ev p cX9_change 8 (some .int) RX9 (Cond.code yX9_change cX9_change 8 (some .int) :: bw) D cA tS A s m _ meth c := E
  replace hl : lv_has ls 8 [(0, .ref (h 0)), (1, .int x1), (2, .int x2), (3, .int x3), (4, .int x4), (5, .int x5)] := hl
  have hx := E.1.1
  have hb := E.1.2.1
  unfold f_X9_change at hM
  refine lv_aload_n hx hb dX9_change_0 rfl (lv_at hl 0 rfl) ?_
  refine lv_iload_n hx hb dX9_change_1 rfl (lv_at hl 1 rfl) ?_
  refine lv_iload_n hx hb dX9_change_2 rfl (lv_at hl 2 rfl) ?_
  refine lv_iload_n hx hb dX9_change_3 rfl (lv_at hl 3 rfl) ?_
  refine lv_iload hx hb dX9_change_4 (lv_at hl 4 rfl) ?_
  refine lv_iload hx hb dX9_change_6 (lv_at hl 5 rfl) ?_
  obtain ⟨p1, h2, hM⟩ := b_some hM
  refine q_cv (As := [.int x1, .int x2, .int x3, .int x4, .int x5]) (rest := []) E hw hl (c_X9_errorOf l D cA tS A h F x1 x2 x3 x4 x5 σ wd p1 h2) 5 (bwV bw_c tb_1217 tb_1219 tb_46 tb_112 tb_1220) rfl (by decide +kernel) ⟨Nat.le_of_ble_eq_true rfl, Nat.le_of_ble_eq_true rfl⟩ 0 9 (T := TX9) (N := 17) rfl rfl rfl rfl (Nat.le_of_ble_eq_true rfl) ⟨Nat.zero_le _, Nat.zero_le _⟩ dX9_change_8 (fun H locs hw => ?_)
  refine lv_istore (lv' := [(6, .int p1), (0, .ref (h 0)), (1, .int x1), (2, .int x2), (3, .int x3), (4, .int x4), (5, .int x5)]) hx hb dX9_change_11 hl (by decide) rfl (fun ls hl => ?_)
  refine lv_iload hx hb dX9_change_13 (lv_at hl 0 rfl) ?_
  refine lv_if_eq (tgt := 21) hx hb dX9_change_15 (by decide) (fun c3 => ?_) (fun c3 => ?_)
  · replace hM := i_pos hM c3
    refine lv_aload_n hx hb dX9_change_21 rfl (lv_at hl 1 rfl) ?_
    refine q_get (C := RX9) (T := TX9) (N := 17) (ci := 9) E (fun w h => List.mem_cons_of_mem _ (inX9 w h)) hw 0 rfl rfl 0 (by decide) (List.mem_cons_of_mem _ tb_1157) (v := .ref (h 1)) rfl dX9_change_22 ?_
    refine lv_bipush (v := 57) hx hb dX9_change_25 (by decide) ?_
    refine q_ald E hw 1 (n := 4619) rfl (by decide +kernel) (x := (σ 1 (ix 57))) rfl dX9_change_27 ?_
    refine lv_sipush (v := 200) hx hb dX9_change_28 (by decide) ?_
    refine lv_icmp_ne (tgt := 37) hx hb dX9_change_31 (by decide) (fun c4 => ?_) (fun c4 => ?_)
    · replace hM := i_neg hM c4
      refine lv_sipush (v := 1019) hx hb dX9_change_37 (by decide) ?_
      refine lv_bipush (v := 6) hx hb dX9_change_40 (by decide) ?_
      refine lv_aload_n hx hb dX9_change_42 rfl (lv_at hl 1 rfl) ?_
      refine q_get (C := RX9) (T := TX9) (N := 17) (ci := 9) E (fun w h => List.mem_cons_of_mem _ (inX9 w h)) hw 0 rfl rfl 0 (by decide) (List.mem_cons_of_mem _ tb_1157) (v := .ref (h 1)) rfl dX9_change_43 ?_
      refine lv_bipush (v := 57) hx hb dX9_change_46 (by decide) ?_
      refine q_ald E hw 1 (n := 4619) rfl (by decide +kernel) (x := (σ 1 (ix 57))) rfl dX9_change_48 ?_
      refine lv_imul hx hb dX9_change_49 ?_
      refine lv_iadd hx hb dX9_change_50 ?_
      refine lv_istore (lv' := [(7, .int (1019 + (6 * (σ 1 (ix 57))))), (6, .int p1), (0, .ref (h 0)), (1, .int x1), (2, .int x2), (3, .int x3), (4, .int x4), (5, .int x5)]) hx hb dX9_change_51 hl (by decide) rfl (fun ls hl => ?_)
      refine lv_aload_n hx hb dX9_change_53 rfl (lv_at hl 2 rfl) ?_
      refine q_get (C := RX9) (T := TX9) (N := 17) (ci := 9) E (fun w h => List.mem_cons_of_mem _ (inX9 w h)) hw 0 rfl rfl 0 (by decide) (List.mem_cons_of_mem _ tb_1157) (v := .ref (h 1)) rfl dX9_change_54 ?_
      refine lv_iload hx hb dX9_change_57 (lv_at hl 0 rfl) ?_
      refine lv_aload_n hx hb dX9_change_59 rfl (lv_at hl 2 rfl) ?_
      refine q_get (C := RX9) (T := TX9) (N := 17) (ci := 9) E (fun w h => List.mem_cons_of_mem _ (inX9 w h)) hw 0 rfl rfl 0 (by decide) (List.mem_cons_of_mem _ tb_1157) (v := .ref (h 1)) rfl dX9_change_60 ?_
      refine lv_iconst (v := 0) hx hb dX9_change_63 (by decide) ?_
      refine q_ald E hw 1 (n := 4619) rfl (by decide +kernel) (x := (σ 1 (ix 0))) rfl dX9_change_64 ?_
      obtain ⟨g5, hM⟩ := g_some hM
      refine q_ast E hw 1 (n := 4619) rfl g5 (wM cA h (up σ 1 (ix (1019 + (6 * (σ 1 (ix 57))))) (σ 1 (ix 0))) wd ++ F) st_M_1 dX9_change_65 (fun H locs hw => ?_)
      refine lv_aload_n hx hb dX9_change_66 rfl (lv_at hl 2 rfl) ?_
      refine q_get (C := RX9) (T := TX9) (N := 17) (ci := 9) E (fun w h => List.mem_cons_of_mem _ (inX9 w h)) hw 0 rfl rfl 0 (by decide) (List.mem_cons_of_mem _ tb_1157) (v := .ref (h 1)) rfl dX9_change_67 ?_
      refine lv_iload hx hb dX9_change_70 (lv_at hl 0 rfl) ?_
      refine lv_iconst (v := 1) hx hb dX9_change_72 (by decide) ?_
      refine lv_iadd hx hb dX9_change_73 ?_
      refine lv_iload_n hx hb dX9_change_74 rfl (lv_at hl 3 rfl) ?_
      obtain ⟨g6, hM⟩ := g_some hM
      refine q_ast E hw 1 (n := 4619) rfl g6 (wM cA h (up (up σ 1 (ix (1019 + (6 * (σ 1 (ix 57))))) (σ 1 (ix 0))) 1 (ix ((1019 + (6 * (σ 1 (ix 57)))) + 1)) x1) wd ++ F) st_M_1 dX9_change_75 (fun H locs hw => ?_)
      refine lv_aload_n hx hb dX9_change_76 rfl (lv_at hl 2 rfl) ?_
      refine q_get (C := RX9) (T := TX9) (N := 17) (ci := 9) E (fun w h => List.mem_cons_of_mem _ (inX9 w h)) hw 0 rfl rfl 0 (by decide) (List.mem_cons_of_mem _ tb_1157) (v := .ref (h 1)) rfl dX9_change_77 ?_
      refine lv_iload hx hb dX9_change_80 (lv_at hl 0 rfl) ?_
      refine lv_iconst (v := 2) hx hb dX9_change_82 (by decide) ?_
      refine lv_iadd hx hb dX9_change_83 ?_
      refine lv_iload_n hx hb dX9_change_84 rfl (lv_at hl 4 rfl) ?_
      obtain ⟨g7, hM⟩ := g_some hM
      refine q_ast E hw 1 (n := 4619) rfl g7 (wM cA h (up (up (up σ 1 (ix (1019 + (6 * (σ 1 (ix 57))))) (σ 1 (ix 0))) 1 (ix ((1019 + (6 * (σ 1 (ix 57)))) + 1)) x1) 1 (ix ((1019 + (6 * (σ 1 (ix 57)))) + 2)) x2) wd ++ F) st_M_1 dX9_change_85 (fun H locs hw => ?_)
      refine lv_aload_n hx hb dX9_change_86 rfl (lv_at hl 2 rfl) ?_
      refine q_get (C := RX9) (T := TX9) (N := 17) (ci := 9) E (fun w h => List.mem_cons_of_mem _ (inX9 w h)) hw 0 rfl rfl 0 (by decide) (List.mem_cons_of_mem _ tb_1157) (v := .ref (h 1)) rfl dX9_change_87 ?_
      refine lv_iload hx hb dX9_change_90 (lv_at hl 0 rfl) ?_
      refine lv_iconst (v := 3) hx hb dX9_change_92 (by decide) ?_
      refine lv_iadd hx hb dX9_change_93 ?_
      refine lv_iload_n hx hb dX9_change_94 rfl (lv_at hl 5 rfl) ?_
      obtain ⟨g8, hM⟩ := g_some hM
      refine q_ast E hw 1 (n := 4619) rfl g8 (wM cA h (up (up (up (up σ 1 (ix (1019 + (6 * (σ 1 (ix 57))))) (σ 1 (ix 0))) 1 (ix ((1019 + (6 * (σ 1 (ix 57)))) + 1)) x1) 1 (ix ((1019 + (6 * (σ 1 (ix 57)))) + 2)) x2) 1 (ix ((1019 + (6 * (σ 1 (ix 57)))) + 3)) x3) wd ++ F) st_M_1 dX9_change_95 (fun H locs hw => ?_)
      refine lv_aload_n hx hb dX9_change_96 rfl (lv_at hl 2 rfl) ?_
      refine q_get (C := RX9) (T := TX9) (N := 17) (ci := 9) E (fun w h => List.mem_cons_of_mem _ (inX9 w h)) hw 0 rfl rfl 0 (by decide) (List.mem_cons_of_mem _ tb_1157) (v := .ref (h 1)) rfl dX9_change_97 ?_
      refine lv_iload hx hb dX9_change_100 (lv_at hl 0 rfl) ?_
      refine lv_iconst (v := 4) hx hb dX9_change_102 (by decide) ?_
      refine lv_iadd hx hb dX9_change_103 ?_
      refine lv_iload hx hb dX9_change_104 (lv_at hl 6 rfl) ?_
      obtain ⟨g9, hM⟩ := g_some hM
      refine q_ast E hw 1 (n := 4619) rfl g9 (wM cA h (up (up (up (up (up σ 1 (ix (1019 + (6 * (σ 1 (ix 57))))) (σ 1 (ix 0))) 1 (ix ((1019 + (6 * (σ 1 (ix 57)))) + 1)) x1) 1 (ix ((1019 + (6 * (σ 1 (ix 57)))) + 2)) x2) 1 (ix ((1019 + (6 * (σ 1 (ix 57)))) + 3)) x3) 1 (ix ((1019 + (6 * (σ 1 (ix 57)))) + 4)) x4) wd ++ F) st_M_1 dX9_change_106 (fun H locs hw => ?_)
      refine lv_aload_n hx hb dX9_change_107 rfl (lv_at hl 2 rfl) ?_
      refine q_get (C := RX9) (T := TX9) (N := 17) (ci := 9) E (fun w h => List.mem_cons_of_mem _ (inX9 w h)) hw 0 rfl rfl 0 (by decide) (List.mem_cons_of_mem _ tb_1157) (v := .ref (h 1)) rfl dX9_change_108 ?_
      refine lv_iload hx hb dX9_change_111 (lv_at hl 0 rfl) ?_
      refine lv_iconst (v := 5) hx hb dX9_change_113 (by decide) ?_
      refine lv_iadd hx hb dX9_change_114 ?_
      refine lv_iload hx hb dX9_change_115 (lv_at hl 7 rfl) ?_
      obtain ⟨g10, hM⟩ := g_some hM
      refine q_ast E hw 1 (n := 4619) rfl g10 (wM cA h (up (up (up (up (up (up σ 1 (ix (1019 + (6 * (σ 1 (ix 57))))) (σ 1 (ix 0))) 1 (ix ((1019 + (6 * (σ 1 (ix 57)))) + 1)) x1) 1 (ix ((1019 + (6 * (σ 1 (ix 57)))) + 2)) x2) 1 (ix ((1019 + (6 * (σ 1 (ix 57)))) + 3)) x3) 1 (ix ((1019 + (6 * (σ 1 (ix 57)))) + 4)) x4) 1 (ix ((1019 + (6 * (σ 1 (ix 57)))) + 5)) x5) wd ++ F) st_M_1 dX9_change_117 (fun H locs hw => ?_)
      refine lv_aload_n hx hb dX9_change_118 rfl (lv_at hl 2 rfl) ?_
      refine q_get (C := RX9) (T := TX9) (N := 17) (ci := 9) E (fun w h => List.mem_cons_of_mem _ (inX9 w h)) hw 0 rfl rfl 0 (by decide) (List.mem_cons_of_mem _ tb_1157) (v := .ref (h 1)) rfl dX9_change_119 ?_
      refine lv_bipush (v := 57) hx hb dX9_change_122 (by decide) ?_
      refine lv_dup2_11 hx hb dX9_change_124 rfl rfl ?_
      refine q_ald E hw 1 (n := 4619) rfl (by decide +kernel) (x := ((up (up (up (up (up (up σ 1 (ix (1019 + (6 * (σ 1 (ix 57))))) (σ 1 (ix 0))) 1 (ix ((1019 + (6 * (σ 1 (ix 57)))) + 1)) x1) 1 (ix ((1019 + (6 * (σ 1 (ix 57)))) + 2)) x2) 1 (ix ((1019 + (6 * (σ 1 (ix 57)))) + 3)) x3) 1 (ix ((1019 + (6 * (σ 1 (ix 57)))) + 4)) x4) 1 (ix ((1019 + (6 * (σ 1 (ix 57)))) + 5)) x5) 1 (ix 57))) rfl dX9_change_125 ?_
      refine lv_iconst (v := 1) hx hb dX9_change_126 (by decide) ?_
      refine lv_iadd hx hb dX9_change_127 ?_
      refine q_ast E hw 1 (n := 4619) rfl (by decide +kernel) (wM cA h (up (up (up (up (up (up (up σ 1 (ix (1019 + (6 * (σ 1 (ix 57))))) (σ 1 (ix 0))) 1 (ix ((1019 + (6 * (σ 1 (ix 57)))) + 1)) x1) 1 (ix ((1019 + (6 * (σ 1 (ix 57)))) + 2)) x2) 1 (ix ((1019 + (6 * (σ 1 (ix 57)))) + 3)) x3) 1 (ix ((1019 + (6 * (σ 1 (ix 57)))) + 4)) x4) 1 (ix ((1019 + (6 * (σ 1 (ix 57)))) + 5)) x5) 1 (ix 57) (((up (up (up (up (up (up σ 1 (ix (1019 + (6 * (σ 1 (ix 57))))) (σ 1 (ix 0))) 1 (ix ((1019 + (6 * (σ 1 (ix 57)))) + 1)) x1) 1 (ix ((1019 + (6 * (σ 1 (ix 57)))) + 2)) x2) 1 (ix ((1019 + (6 * (σ 1 (ix 57)))) + 3)) x3) 1 (ix ((1019 + (6 * (σ 1 (ix 57)))) + 4)) x4) 1 (ix ((1019 + (6 * (σ 1 (ix 57)))) + 5)) x5) 1 (ix 57)) + 1)) wd ++ F) st_M_1 dX9_change_128 (fun H locs hw => ?_)
      refine lv_aload_n hx hb dX9_change_129 rfl (lv_at hl 2 rfl) ?_
      refine lv_iload_n hx hb dX9_change_130 rfl (lv_at hl 3 rfl) ?_
      refine lv_iload_n hx hb dX9_change_131 rfl (lv_at hl 4 rfl) ?_
      refine lv_iload_n hx hb dX9_change_132 rfl (lv_at hl 5 rfl) ?_
      refine lv_iload hx hb dX9_change_133 (lv_at hl 6 rfl) ?_
      refine lv_iload hx hb dX9_change_135 (lv_at hl 7 rfl) ?_
      obtain ⟨p11, h12, hM⟩ := b_some hM
      refine q_cv (As := [.int x1, .int x2, .int x3, .int x4, .int x5]) (rest := []) E hw hl (c_X9_make l D cA tS A h F N x1 x2 x3 x4 x5 (up (up (up (up (up (up (up σ 1 (ix (1019 + (6 * (σ 1 (ix 57))))) (σ 1 (ix 0))) 1 (ix ((1019 + (6 * (σ 1 (ix 57)))) + 1)) x1) 1 (ix ((1019 + (6 * (σ 1 (ix 57)))) + 2)) x2) 1 (ix ((1019 + (6 * (σ 1 (ix 57)))) + 3)) x3) 1 (ix ((1019 + (6 * (σ 1 (ix 57)))) + 4)) x4) 1 (ix ((1019 + (6 * (σ 1 (ix 57)))) + 5)) x5) 1 (ix 57) (((up (up (up (up (up (up σ 1 (ix (1019 + (6 * (σ 1 (ix 57))))) (σ 1 (ix 0))) 1 (ix ((1019 + (6 * (σ 1 (ix 57)))) + 1)) x1) 1 (ix ((1019 + (6 * (σ 1 (ix 57)))) + 2)) x2) 1 (ix ((1019 + (6 * (σ 1 (ix 57)))) + 3)) x3) 1 (ix ((1019 + (6 * (σ 1 (ix 57)))) + 4)) x4) 1 (ix ((1019 + (6 * (σ 1 (ix 57)))) + 5)) x5) 1 (ix 57)) + 1)) wd p11.1 p11.2 h12) 5 (bwV bw_c tb_1269 tb_1271 tb_56 tb_112 tb_1272) rfl (by decide +kernel) ⟨Nat.le_of_ble_eq_true rfl, Nat.le_of_ble_eq_true rfl⟩ 0 9 (T := TX9) (N := 17) rfl rfl rfl rfl (Nat.le_of_ble_eq_true rfl) ⟨Nat.zero_le _, Nat.zero_le _⟩ dX9_change_137 (fun H locs hw => ?_)
      cases hM
      exact q_reti E hw dX9_change_140
    · replace hM := i_pos hM c4
      refine lv_bipush (v := (-6)) hx hb dX9_change_34 (by decide) ?_
      cases hM
      exact q_reti E hw dX9_change_36
  · replace hM := i_neg hM c3
    refine lv_iload hx hb dX9_change_18 (lv_at hl 0 rfl) ?_
    cases hM
    exact q_reti E hw dX9_change_20
def f_X9_setDay (N : Nat)   (x1 : Int32) (x2 : Int32) (x3 : Int32) (σ : Sg) (wd : Int64) : Option (Int32 × Sg) := (f_X9_change N 0 x1 x2 x3 0 σ wd).bind (fun p1 => some (p1.1, p1.2))
set_option maxRecDepth 100000 in
set_option maxHeartbeats 4000000 in
theorem c_X9_setDay (l : Launch) (D : va_G) (cA : Nat → ClassId) (tS : Nat → Nat) (A : Nat → Prop) (h : Nat → Nat) (F : va_W) (N : Nat) (x1 : Int32) (x2 : Int32) (x3 : Int32) (σ : Sg) (wd : Int64) (r0 : Int32) (s0 : Sg) (hM : f_X9_setDay N x1 x2 x3 σ wd = some (r0, s0)) : Ct l yX9_setDay (Cond.code yX9_setDay cX9_setDay 4 (some .int) :: bw) 7 166 D cA tS A [.ref (h 0), .int x1, .int x2, .int x3] (wM cA h σ wd ++ F) (some (.int r0)) (wM cA h s0 wd ++ F) := by
  refine ct_of (by decide +kernel) (Nat.le_of_ble_eq_true rfl) ?_
  intro p e s m below meth c E hw ls hl
  replace E : Ev p cX9_setDay 4 (some .int) RX9 (Cond.code yX9_setDay cX9_setDay 4 (some .int) :: bw) D cA tS A s m _ meth c := E
  replace hl : lv_has ls 4 [(0, .ref (h 0)), (1, .int x1), (2, .int x2), (3, .int x3)] := hl
  have hx := E.1.1
  have hb := E.1.2.1
  unfold f_X9_setDay at hM
  refine lv_aload_n hx hb dX9_setDay_0 rfl (lv_at hl 0 rfl) ?_
  refine lv_iconst (v := 0) hx hb dX9_setDay_1 (by decide) ?_
  refine lv_iload_n hx hb dX9_setDay_2 rfl (lv_at hl 1 rfl) ?_
  refine lv_iload_n hx hb dX9_setDay_3 rfl (lv_at hl 2 rfl) ?_
  refine lv_iload_n hx hb dX9_setDay_4 rfl (lv_at hl 3 rfl) ?_
  refine lv_iconst (v := 0) hx hb dX9_setDay_5 (by decide) ?_
  obtain ⟨p1, h2, hM⟩ := b_some hM
  refine q_cv (As := [.int 0, .int x1, .int x2, .int x3, .int 0]) (rest := []) E hw hl (c_X9_change l D cA tS A h F N 0 x1 x2 x3 0 σ wd p1.1 p1.2 h2) 5 (bwV bw_c tb_1213 tb_1215 tb_45 tb_112 tb_1216) rfl (by decide +kernel) ⟨Nat.le_of_ble_eq_true rfl, Nat.le_of_ble_eq_true rfl⟩ 0 9 (T := TX9) (N := 17) rfl rfl rfl rfl (Nat.le_of_ble_eq_true rfl) ⟨Nat.zero_le _, Nat.zero_le _⟩ dX9_setDay_6 (fun H locs hw => ?_)
  cases hM
  exact q_reti E hw dX9_setDay_9
def f_X9_openingMinute    (x1 : Int32) (σ : Sg) (wd : Int64) : Option (Int32) := (f_X9_isDay x1).bind (fun p1 => (if p1 = 0 then some (-4) else if ib (1 + x1) 4619 then some (σ 1 (ix (1 + x1))) else none))
set_option maxRecDepth 100000 in
set_option maxHeartbeats 4000000 in
theorem c_X9_openingMinute (l : Launch) (D : va_G) (cA : Nat → ClassId) (tS : Nat → Nat) (A : Nat → Prop) (h : Nat → Nat) (F : va_W) (x1 : Int32) (σ : Sg) (wd : Int64) (r0 : Int32) (hM : f_X9_openingMinute x1 σ wd = some r0) : Ct l yX9_openingMinute (Cond.code yX9_openingMinute cX9_openingMinute 2 (some .int) :: bw) 2 42 D cA tS A [.ref (h 0), .int x1] (wM cA h σ wd ++ F) (some (.int r0)) (wM cA h σ wd ++ F) := by
  refine ct_of (by decide +kernel) (Nat.le_of_ble_eq_true rfl) ?_
  intro p e s m below meth c E hw ls hl
  replace E : Ev p cX9_openingMinute 2 (some .int) RX9 (Cond.code yX9_openingMinute cX9_openingMinute 2 (some .int) :: bw) D cA tS A s m _ meth c := E
  replace hl : lv_has ls 2 [(0, .ref (h 0)), (1, .int x1)] := hl
  have hx := E.1.1
  have hb := E.1.2.1
  unfold f_X9_openingMinute at hM
  refine lv_iload_n hx hb dX9_openingMinute_0 rfl (lv_at hl 1 rfl) ?_
  obtain ⟨p1, h2, hM⟩ := b_some hM
  refine q_cs (As := [.int x1]) (rest := []) E hw hl (c_X9_isDay l D cA tS A (wM cA h σ wd ++ F) x1 p1 h2) 1 (bwS bw_c tb_1221 tb_1222 tb_112 tb_1223) rfl (by decide +kernel) ⟨Nat.le_of_ble_eq_true rfl, Nat.le_of_ble_eq_true rfl⟩ rfl rfl (Nat.le_of_ble_eq_true rfl) ⟨Nat.zero_le _, Nat.zero_le _⟩ dX9_openingMinute_1 (fun H locs hw => ?_)
  refine lv_if_eq (tgt := 18) hx hb dX9_openingMinute_4 (by decide) (fun c3 => ?_) (fun c3 => ?_)
  · replace hM := i_pos hM c3
    refine lv_bipush (v := (-4)) hx hb dX9_openingMinute_18 (by decide) ?_
    cases hM
    exact q_reti E hw dX9_openingMinute_20
  · replace hM := i_neg hM c3
    refine lv_aload_n hx hb dX9_openingMinute_7 rfl (lv_at hl 0 rfl) ?_
    refine q_get (C := RX9) (T := TX9) (N := 17) (ci := 9) E (fun w h => List.mem_cons_of_mem _ (inX9 w h)) hw 0 rfl rfl 0 (by decide) (List.mem_cons_of_mem _ tb_1157) (v := .ref (h 1)) rfl dX9_openingMinute_8 ?_
    refine lv_iconst (v := 1) hx hb dX9_openingMinute_11 (by decide) ?_
    refine lv_iload_n hx hb dX9_openingMinute_12 rfl (lv_at hl 1 rfl) ?_
    refine lv_iadd hx hb dX9_openingMinute_13 ?_
    obtain ⟨g4, hM⟩ := g_some hM
    refine q_ald E hw 1 (n := 4619) rfl g4 (x := (σ 1 (ix (1 + x1)))) rfl dX9_openingMinute_14 ?_
    refine lv_goto (tgt := 20) hx hb dX9_openingMinute_15 (by decide) ?_
    cases hM
    exact q_reti E hw dX9_openingMinute_20
def f_X9_closingMinute    (x1 : Int32) (σ : Sg) (wd : Int64) : Option (Int32) := (f_X9_isDay x1).bind (fun p1 => (if p1 = 0 then some (-4) else if ib (8 + x1) 4619 then some (σ 1 (ix (8 + x1))) else none))
set_option maxRecDepth 100000 in
set_option maxHeartbeats 4000000 in
theorem c_X9_closingMinute (l : Launch) (D : va_G) (cA : Nat → ClassId) (tS : Nat → Nat) (A : Nat → Prop) (h : Nat → Nat) (F : va_W) (x1 : Int32) (σ : Sg) (wd : Int64) (r0 : Int32) (hM : f_X9_closingMinute x1 σ wd = some r0) : Ct l yX9_closingMinute (Cond.code yX9_closingMinute cX9_closingMinute 2 (some .int) :: bw) 2 42 D cA tS A [.ref (h 0), .int x1] (wM cA h σ wd ++ F) (some (.int r0)) (wM cA h σ wd ++ F) := by
  refine ct_of (by decide +kernel) (Nat.le_of_ble_eq_true rfl) ?_
  intro p e s m below meth c E hw ls hl
  replace E : Ev p cX9_closingMinute 2 (some .int) RX9 (Cond.code yX9_closingMinute cX9_closingMinute 2 (some .int) :: bw) D cA tS A s m _ meth c := E
  replace hl : lv_has ls 2 [(0, .ref (h 0)), (1, .int x1)] := hl
  have hx := E.1.1
  have hb := E.1.2.1
  unfold f_X9_closingMinute at hM
  refine lv_iload_n hx hb dX9_closingMinute_0 rfl (lv_at hl 1 rfl) ?_
  obtain ⟨p1, h2, hM⟩ := b_some hM
  refine q_cs (As := [.int x1]) (rest := []) E hw hl (c_X9_isDay l D cA tS A (wM cA h σ wd ++ F) x1 p1 h2) 1 (bwS bw_c tb_1221 tb_1222 tb_112 tb_1223) rfl (by decide +kernel) ⟨Nat.le_of_ble_eq_true rfl, Nat.le_of_ble_eq_true rfl⟩ rfl rfl (Nat.le_of_ble_eq_true rfl) ⟨Nat.zero_le _, Nat.zero_le _⟩ dX9_closingMinute_1 (fun H locs hw => ?_)
  refine lv_if_eq (tgt := 19) hx hb dX9_closingMinute_4 (by decide) (fun c3 => ?_) (fun c3 => ?_)
  · replace hM := i_pos hM c3
    refine lv_bipush (v := (-4)) hx hb dX9_closingMinute_19 (by decide) ?_
    cases hM
    exact q_reti E hw dX9_closingMinute_21
  · replace hM := i_neg hM c3
    refine lv_aload_n hx hb dX9_closingMinute_7 rfl (lv_at hl 0 rfl) ?_
    refine q_get (C := RX9) (T := TX9) (N := 17) (ci := 9) E (fun w h => List.mem_cons_of_mem _ (inX9 w h)) hw 0 rfl rfl 0 (by decide) (List.mem_cons_of_mem _ tb_1157) (v := .ref (h 1)) rfl dX9_closingMinute_8 ?_
    refine lv_bipush (v := 8) hx hb dX9_closingMinute_11 (by decide) ?_
    refine lv_iload_n hx hb dX9_closingMinute_13 rfl (lv_at hl 1 rfl) ?_
    refine lv_iadd hx hb dX9_closingMinute_14 ?_
    obtain ⟨g4, hM⟩ := g_some hM
    refine q_ald E hw 1 (n := 4619) rfl g4 (x := (σ 1 (ix (8 + x1)))) rfl dX9_closingMinute_15 ?_
    refine lv_goto (tgt := 21) hx hb dX9_closingMinute_16 (by decide) ?_
    cases hM
    exact q_reti E hw dX9_closingMinute_21
def f_X9_isOpenMinute    (x1 : Int32) (σ : Sg) (wd : Int64) : Option (Int32) := if ib (1 + (x1 / 1440)) 4619 then (if (x1 - ((x1 / 1440) * 1440)) < (σ 1 (ix (1 + (x1 / 1440)))) then some 0 else if ib (8 + (x1 / 1440)) 4619 then (if (σ 1 (ix (8 + (x1 / 1440)))) ≤ (x1 - ((x1 / 1440) * 1440)) then some 0 else some 1) else none) else none
set_option maxRecDepth 100000 in
set_option maxHeartbeats 4000000 in
theorem c_X9_isOpenMinute (l : Launch) (D : va_G) (cA : Nat → ClassId) (tS : Nat → Nat) (A : Nat → Prop) (h : Nat → Nat) (F : va_W) (x1 : Int32) (σ : Sg) (wd : Int64) (r0 : Int32) (hM : f_X9_isOpenMinute x1 σ wd = some r0) : Ct l yX9_isOpenMinute (Cond.code yX9_isOpenMinute cX9_isOpenMinute 4 (some .boolean) :: bw) 0 0 D cA tS A [.ref (h 0), .int x1] (wM cA h σ wd ++ F) (some (.int r0)) (wM cA h σ wd ++ F) := by
  refine ct_of (by decide +kernel) (Nat.le_of_ble_eq_true rfl) ?_
  intro p e s m below meth c E hw ls hl
  replace E : Ev p cX9_isOpenMinute 4 (some .boolean) RX9 (Cond.code yX9_isOpenMinute cX9_isOpenMinute 4 (some .boolean) :: bw) D cA tS A s m _ meth c := E
  replace hl : lv_has ls 4 [(0, .ref (h 0)), (1, .int x1)] := hl
  have hx := E.1.1
  have hb := E.1.2.1
  unfold f_X9_isOpenMinute at hM
  refine lv_iload_n hx hb dX9_isOpenMinute_0 rfl (lv_at hl 1 rfl) ?_
  refine lv_sipush (v := 1440) hx hb dX9_isOpenMinute_1 (by decide) ?_
  refine lv_idiv hx hb dX9_isOpenMinute_4 (by decide) ?_
  refine lv_istore_n (lv' := [(2, .int (x1 / 1440)), (0, .ref (h 0)), (1, .int x1)]) hx hb dX9_isOpenMinute_5 rfl hl (by decide) rfl (fun ls hl => ?_)
  refine lv_iload_n hx hb dX9_isOpenMinute_6 rfl (lv_at hl 2 rfl) ?_
  refine lv_sipush (v := 1440) hx hb dX9_isOpenMinute_7 (by decide) ?_
  refine lv_irem hx hb dX9_isOpenMinute_10 (by decide) ?_
  refine lv_istore_n (lv' := [(3, .int (x1 - ((x1 / 1440) * 1440))), (2, .int (x1 / 1440)), (0, .ref (h 0)), (1, .int x1)]) hx hb dX9_isOpenMinute_11 rfl hl (by decide) rfl (fun ls hl => ?_)
  refine lv_iload_n hx hb dX9_isOpenMinute_12 rfl (lv_at hl 0 rfl) ?_
  refine lv_aload_n hx hb dX9_isOpenMinute_13 rfl (lv_at hl 2 rfl) ?_
  refine q_get (C := RX9) (T := TX9) (N := 17) (ci := 9) E (fun w h => List.mem_cons_of_mem _ (inX9 w h)) hw 0 rfl rfl 0 (by decide) (List.mem_cons_of_mem _ tb_1157) (v := .ref (h 1)) rfl dX9_isOpenMinute_14 ?_
  refine lv_iconst (v := 1) hx hb dX9_isOpenMinute_17 (by decide) ?_
  refine lv_iload_n hx hb dX9_isOpenMinute_18 rfl (lv_at hl 1 rfl) ?_
  refine lv_iadd hx hb dX9_isOpenMinute_19 ?_
  obtain ⟨g1, hM⟩ := g_some hM
  refine q_ald E hw 1 (n := 4619) rfl g1 (x := (σ 1 (ix (1 + (x1 / 1440))))) rfl dX9_isOpenMinute_20 ?_
  refine lv_icmp_lt (tgt := 41) hx hb dX9_isOpenMinute_21 (by decide) (fun c2 => ?_) (fun c2 => ?_)
  · replace hM := i_pos hM c2
    refine lv_iconst (v := 0) hx hb dX9_isOpenMinute_41 (by decide) ?_
    cases hM
    exact q_retz E hw (by decide) dX9_isOpenMinute_42
  · replace hM := i_neg hM c2
    refine lv_iload_n hx hb dX9_isOpenMinute_24 rfl (lv_at hl 0 rfl) ?_
    refine lv_aload_n hx hb dX9_isOpenMinute_25 rfl (lv_at hl 2 rfl) ?_
    refine q_get (C := RX9) (T := TX9) (N := 17) (ci := 9) E (fun w h => List.mem_cons_of_mem _ (inX9 w h)) hw 0 rfl rfl 0 (by decide) (List.mem_cons_of_mem _ tb_1157) (v := .ref (h 1)) rfl dX9_isOpenMinute_26 ?_
    refine lv_bipush (v := 8) hx hb dX9_isOpenMinute_29 (by decide) ?_
    refine lv_iload_n hx hb dX9_isOpenMinute_31 rfl (lv_at hl 1 rfl) ?_
    refine lv_iadd hx hb dX9_isOpenMinute_32 ?_
    obtain ⟨g3, hM⟩ := g_some hM
    refine q_ald E hw 1 (n := 4619) rfl g3 (x := (σ 1 (ix (8 + (x1 / 1440))))) rfl dX9_isOpenMinute_33 ?_
    refine lv_icmp_ge (tgt := 41) hx hb dX9_isOpenMinute_34 (by decide) (fun c4 => ?_) (fun c4 => ?_)
    · replace hM := i_pos hM c4
      refine lv_iconst (v := 0) hx hb dX9_isOpenMinute_41 (by decide) ?_
      cases hM
      exact q_retz E hw (by decide) dX9_isOpenMinute_42
    · replace hM := i_neg hM c4
      refine lv_iconst (v := 1) hx hb dX9_isOpenMinute_37 (by decide) ?_
      refine lv_goto (tgt := 42) hx hb dX9_isOpenMinute_38 (by decide) ?_
      cases hM
      exact q_retz E hw (by decide) dX9_isOpenMinute_42
def f_X9_isOpen    (x1 : Int32) (σ : Sg) (wd : Int64) : Option (Int32) := (f_X9_isBetween x1 0 10079).bind (fun p1 => (if p1 = 0 then some (-4) else (f_X9_isOpenMinute x1 σ wd).bind (fun p4 => (if p4 = 0 then some 0 else some 1))))
set_option maxRecDepth 100000 in
set_option maxHeartbeats 4000000 in
theorem c_X9_isOpen (l : Launch) (D : va_G) (cA : Nat → ClassId) (tS : Nat → Nat) (A : Nat → Prop) (h : Nat → Nat) (F : va_W) (x1 : Int32) (σ : Sg) (wd : Int64) (r0 : Int32) (hM : f_X9_isOpen x1 σ wd = some r0) : Ct l yX9_isOpen (Cond.code yX9_isOpen cX9_isOpen 2 (some .int) :: bw) 1 23 D cA tS A [.ref (h 0), .int x1] (wM cA h σ wd ++ F) (some (.int r0)) (wM cA h σ wd ++ F) := by
  refine ct_of (by decide +kernel) (Nat.le_of_ble_eq_true rfl) ?_
  intro p e s m below meth c E hw ls hl
  replace E : Ev p cX9_isOpen 2 (some .int) RX9 (Cond.code yX9_isOpen cX9_isOpen 2 (some .int) :: bw) D cA tS A s m _ meth c := E
  replace hl : lv_has ls 2 [(0, .ref (h 0)), (1, .int x1)] := hl
  have hx := E.1.1
  have hb := E.1.2.1
  unfold f_X9_isOpen at hM
  refine lv_iload_n hx hb dX9_isOpen_0 rfl (lv_at hl 1 rfl) ?_
  refine lv_iconst (v := 0) hx hb dX9_isOpen_1 (by decide) ?_
  refine lv_sipush (v := 10079) hx hb dX9_isOpen_2 (by decide) ?_
  obtain ⟨p1, h2, hM⟩ := b_some hM
  refine q_cs (As := [.int x1, .int 0, .int 10079]) (rest := []) E hw hl (c_X9_isBetween l D cA tS A (wM cA h σ wd ++ F) x1 0 10079 p1 h2) 3 (bwS bw_c tb_1224 tb_1225 tb_112 tb_1226) rfl (by decide +kernel) ⟨Nat.le_of_ble_eq_true rfl, Nat.le_of_ble_eq_true rfl⟩ rfl rfl (Nat.le_of_ble_eq_true rfl) ⟨Nat.zero_le _, Nat.zero_le _⟩ dX9_isOpen_5 (fun H locs hw => ?_)
  refine lv_if_ne (tgt := 14) hx hb dX9_isOpen_8 (by decide) (fun c3 => ?_) (fun c3 => ?_)
  · replace hM := i_neg hM c3
    refine lv_aload_n hx hb dX9_isOpen_14 rfl (lv_at hl 0 rfl) ?_
    refine lv_iload_n hx hb dX9_isOpen_15 rfl (lv_at hl 1 rfl) ?_
    obtain ⟨p4, h5, hM⟩ := b_some hM
    refine q_cv (As := [.int x1]) (rest := []) E hw hl (c_X9_isOpenMinute l D cA tS A h F x1 σ wd p4 h5) 1 (bwV bw_c tb_1333 tb_1335 tb_69 tb_112 tb_1336) rfl (by decide +kernel) ⟨Nat.le_of_ble_eq_true rfl, Nat.le_of_ble_eq_true rfl⟩ 0 9 (T := TX9) (N := 17) rfl rfl rfl rfl (Nat.le_of_ble_eq_true rfl) ⟨Nat.zero_le _, Nat.zero_le _⟩ dX9_isOpen_16 (fun H locs hw => ?_)
    refine lv_if_eq (tgt := 26) hx hb dX9_isOpen_19 (by decide) (fun c6 => ?_) (fun c6 => ?_)
    · replace hM := i_pos hM c6
      refine lv_iconst (v := 0) hx hb dX9_isOpen_26 (by decide) ?_
      cases hM
      exact q_reti E hw dX9_isOpen_27
    · replace hM := i_neg hM c6
      refine lv_iconst (v := 1) hx hb dX9_isOpen_22 (by decide) ?_
      refine lv_goto (tgt := 27) hx hb dX9_isOpen_23 (by decide) ?_
      cases hM
      exact q_reti E hw dX9_isOpen_27
  · replace hM := i_pos hM c3
    refine lv_bipush (v := (-4)) hx hb dX9_isOpen_11 (by decide) ?_
    cases hM
    exact q_reti E hw dX9_isOpen_13
def f_X9_openMinutes_30 (N : Nat)   : Nat → Int32 → Int32 → Int32 → Int32 → Sg → Int64 → Option (Int32)
  | 0, _, _, _, _, _, _ => none
  | n + 1, x1, x2, x3, x4, σ, wd => (if 7 ≤ x4 then some x3 else if ib (1 + x4) 4619 then if ib (8 + x4) 4619 then f_X9_openMinutes_30 N n x1 x2 (x3 + (if 0 < ((if ((1440 * x4) + (σ 1 (ix (8 + x4)))) < x2 then ((1440 * x4) + (σ 1 (ix (8 + x4)))) else x2) - (if x1 < ((1440 * x4) + (σ 1 (ix (1 + x4)))) then ((1440 * x4) + (σ 1 (ix (1 + x4)))) else x1)) then ((if ((1440 * x4) + (σ 1 (ix (8 + x4)))) < x2 then ((1440 * x4) + (σ 1 (ix (8 + x4)))) else x2) - (if x1 < ((1440 * x4) + (σ 1 (ix (1 + x4)))) then ((1440 * x4) + (σ 1 (ix (1 + x4)))) else x1)) else 0)) (x4 + 1) σ wd else none else none)
set_option maxRecDepth 100000 in
set_option maxHeartbeats 4000000 in
theorem s_X9_openMinutes_30 (l : Launch) (D : va_G) (cA : Nat → ClassId) (tS : Nat → Nat) (A : Nat → Prop) (h : Nat → Nat) (F : va_W) (N : Nat) {p : Program} {e : Env} {s : State} {m : MethodId} {args : Array Value} {below : List Frame} {meth : Method} {c : Code} (E : Ev p cX9_openMinutes 7 (some .int) RX9 (Cond.code yX9_openMinutes cX9_openMinutes 7 (some .int) :: bw) D cA tS A s m args meth c) : ∀ (n : Nat) (x1 : Int32) (x2 : Int32) (x3 : Int32) (x4 : Int32) (σ : Sg) (wd : Int64) (r0 : Int32) (hM : f_X9_openMinutes_30 N n x1 x2 x3 x4 σ wd = some r0) (H : Heap) (locs : List Loc) (hw : Wd D A (wM cA h σ wd ++ F) s.heap H locs) (ls : Array Slot) (hl : lv_has ls 7 [(0, .ref (h 0)), (1, .int x1), (2, .int x2), (3, .int x3), (4, .int x4)]), W p l e ({ frames := 1, cells := 0, slots := 0, locals := 22 } : Room) s m args below meth c H locs 0 0 (MQ below (QW D A (some (.int r0)) (wM cA h σ wd ++ F)) args s 0 0 A) (F0 m 30 ls []) := by
  have hx := E.1.1
  have hb := E.1.2.1
  intro n
  induction n with
  | zero =>
    intro x1 x2 x3 x4 σ wd r0 hM
    cases hM
  | succ n ih =>
    intro x1 x2 x3 x4 σ wd r0 hM H locs hw ls hl
    rw [f_X9_openMinutes_30] at hM
    refine lv_iload hx hb dX9_openMinutes_30 (lv_at hl 4 rfl) ?_
    refine lv_bipush (v := 7) hx hb dX9_openMinutes_32 (by decide) ?_
    refine lv_icmp_ge (tgt := 100) hx hb dX9_openMinutes_34 (by decide) (fun c1 => ?_) (fun c1 => ?_)
    · replace hM := i_pos hM c1
      refine lv_iload_n hx hb dX9_openMinutes_100 rfl (lv_at hl 3 rfl) ?_
      cases hM
      exact q_reti E hw dX9_openMinutes_101
    · replace hM := i_neg hM c1
      refine lv_iload_n hx hb dX9_openMinutes_37 rfl (lv_at hl 1 rfl) ?_
      refine lv_sipush (v := 1440) hx hb dX9_openMinutes_38 (by decide) ?_
      refine lv_iload hx hb dX9_openMinutes_41 (lv_at hl 4 rfl) ?_
      refine lv_imul hx hb dX9_openMinutes_43 ?_
      refine lv_aload_n hx hb dX9_openMinutes_44 rfl (lv_at hl 0 rfl) ?_
      refine q_get (C := RX9) (T := TX9) (N := 17) (ci := 9) E (fun w h => List.mem_cons_of_mem _ (inX9 w h)) hw 0 rfl rfl 0 (by decide) (List.mem_cons_of_mem _ tb_1157) (v := .ref (h 1)) rfl dX9_openMinutes_45 ?_
      refine lv_iconst (v := 1) hx hb dX9_openMinutes_48 (by decide) ?_
      refine lv_iload hx hb dX9_openMinutes_49 (lv_at hl 4 rfl) ?_
      refine lv_iadd hx hb dX9_openMinutes_51 ?_
      obtain ⟨g2, hM⟩ := g_some hM
      refine q_ald E hw 1 (n := 4619) rfl g2 (x := (σ 1 (ix (1 + x4)))) rfl dX9_openMinutes_52 ?_
      refine lv_iadd hx hb dX9_openMinutes_53 ?_
      refine va_mmax hx hb (E.1.2.2.1.trans hl.1.symm) E.1.2.2.2.1 (E.1.2.2.2.2 _ (List.mem_cons_of_mem _ tb_1341)) (E.1.2.2.2.2 _ (List.mem_cons_of_mem _ tb_177)) (E.1.2.2.2.2 _ (List.mem_cons_of_mem _ tb_104)) (E.1.2.2.2.2 _ (List.mem_cons_of_mem _ tb_178)) (Nat.le_of_ble_eq_true rfl) (Nat.le_of_ble_eq_true rfl) (Nat.zero_le _) (Nat.zero_le _) dX9_openMinutes_54 ?_
      refine lv_istore (lv' := [(5, .int (if x1 < ((1440 * x4) + (σ 1 (ix (1 + x4)))) then ((1440 * x4) + (σ 1 (ix (1 + x4)))) else x1)), (0, .ref (h 0)), (1, .int x1), (2, .int x2), (3, .int x3), (4, .int x4)]) hx hb dX9_openMinutes_57 hl (by decide) rfl (fun ls hl => ?_)
      refine lv_iload_n hx hb dX9_openMinutes_59 rfl (lv_at hl 3 rfl) ?_
      refine lv_sipush (v := 1440) hx hb dX9_openMinutes_60 (by decide) ?_
      refine lv_iload hx hb dX9_openMinutes_63 (lv_at hl 5 rfl) ?_
      refine lv_imul hx hb dX9_openMinutes_65 ?_
      refine lv_aload_n hx hb dX9_openMinutes_66 rfl (lv_at hl 1 rfl) ?_
      refine q_get (C := RX9) (T := TX9) (N := 17) (ci := 9) E (fun w h => List.mem_cons_of_mem _ (inX9 w h)) hw 0 rfl rfl 0 (by decide) (List.mem_cons_of_mem _ tb_1157) (v := .ref (h 1)) rfl dX9_openMinutes_67 ?_
      refine lv_bipush (v := 8) hx hb dX9_openMinutes_70 (by decide) ?_
      refine lv_iload hx hb dX9_openMinutes_72 (lv_at hl 5 rfl) ?_
      refine lv_iadd hx hb dX9_openMinutes_74 ?_
      obtain ⟨g3, hM⟩ := g_some hM
      refine q_ald E hw 1 (n := 4619) rfl g3 (x := (σ 1 (ix (8 + x4)))) rfl dX9_openMinutes_75 ?_
      refine lv_iadd hx hb dX9_openMinutes_76 ?_
      refine va_mmin hx hb (E.1.2.2.1.trans hl.1.symm) E.1.2.2.2.1 (E.1.2.2.2.2 _ (List.mem_cons_of_mem _ tb_1342)) (E.1.2.2.2.2 _ (List.mem_cons_of_mem _ tb_626)) (E.1.2.2.2.2 _ (List.mem_cons_of_mem _ tb_104)) (E.1.2.2.2.2 _ (List.mem_cons_of_mem _ tb_627)) (Nat.le_of_ble_eq_true rfl) (Nat.le_of_ble_eq_true rfl) (Nat.zero_le _) (Nat.zero_le _) dX9_openMinutes_77 ?_
      refine lv_istore (lv' := [(6, .int (if ((1440 * x4) + (σ 1 (ix (8 + x4)))) < x2 then ((1440 * x4) + (σ 1 (ix (8 + x4)))) else x2)), (5, .int (if x1 < ((1440 * x4) + (σ 1 (ix (1 + x4)))) then ((1440 * x4) + (σ 1 (ix (1 + x4)))) else x1)), (0, .ref (h 0)), (1, .int x1), (2, .int x2), (3, .int x3), (4, .int x4)]) hx hb dX9_openMinutes_80 hl (by decide) rfl (fun ls hl => ?_)
      refine lv_iload_n hx hb dX9_openMinutes_82 rfl (lv_at hl 5 rfl) ?_
      refine lv_iconst (v := 0) hx hb dX9_openMinutes_83 (by decide) ?_
      refine lv_iload hx hb dX9_openMinutes_84 (lv_at hl 0 rfl) ?_
      refine lv_iload hx hb dX9_openMinutes_86 (lv_at hl 1 rfl) ?_
      refine lv_isub hx hb dX9_openMinutes_88 ?_
      refine va_mmax hx hb (E.1.2.2.1.trans hl.1.symm) E.1.2.2.2.1 (E.1.2.2.2.2 _ (List.mem_cons_of_mem _ tb_1341)) (E.1.2.2.2.2 _ (List.mem_cons_of_mem _ tb_177)) (E.1.2.2.2.2 _ (List.mem_cons_of_mem _ tb_104)) (E.1.2.2.2.2 _ (List.mem_cons_of_mem _ tb_178)) (Nat.le_of_ble_eq_true rfl) (Nat.le_of_ble_eq_true rfl) (Nat.zero_le _) (Nat.zero_le _) dX9_openMinutes_89 ?_
      refine lv_iadd hx hb dX9_openMinutes_92 ?_
      refine lv_istore_n (lv' := [(3, .int (x3 + (if 0 < ((if ((1440 * x4) + (σ 1 (ix (8 + x4)))) < x2 then ((1440 * x4) + (σ 1 (ix (8 + x4)))) else x2) - (if x1 < ((1440 * x4) + (σ 1 (ix (1 + x4)))) then ((1440 * x4) + (σ 1 (ix (1 + x4)))) else x1)) then ((if ((1440 * x4) + (σ 1 (ix (8 + x4)))) < x2 then ((1440 * x4) + (σ 1 (ix (8 + x4)))) else x2) - (if x1 < ((1440 * x4) + (σ 1 (ix (1 + x4)))) then ((1440 * x4) + (σ 1 (ix (1 + x4)))) else x1)) else 0))), (6, .int (if ((1440 * x4) + (σ 1 (ix (8 + x4)))) < x2 then ((1440 * x4) + (σ 1 (ix (8 + x4)))) else x2)), (5, .int (if x1 < ((1440 * x4) + (σ 1 (ix (1 + x4)))) then ((1440 * x4) + (σ 1 (ix (1 + x4)))) else x1)), (0, .ref (h 0)), (1, .int x1), (2, .int x2), (4, .int x4)]) hx hb dX9_openMinutes_93 rfl hl (by decide) rfl (fun ls hl => ?_)
      refine lv_iinc (v := (x4 + 1)) (lv' := [(4, .int (x4 + 1)), (3, .int (x3 + (if 0 < ((if ((1440 * x4) + (σ 1 (ix (8 + x4)))) < x2 then ((1440 * x4) + (σ 1 (ix (8 + x4)))) else x2) - (if x1 < ((1440 * x4) + (σ 1 (ix (1 + x4)))) then ((1440 * x4) + (σ 1 (ix (1 + x4)))) else x1)) then ((if ((1440 * x4) + (σ 1 (ix (8 + x4)))) < x2 then ((1440 * x4) + (σ 1 (ix (8 + x4)))) else x2) - (if x1 < ((1440 * x4) + (σ 1 (ix (1 + x4)))) then ((1440 * x4) + (σ 1 (ix (1 + x4)))) else x1)) else 0))), (6, .int (if ((1440 * x4) + (σ 1 (ix (8 + x4)))) < x2 then ((1440 * x4) + (σ 1 (ix (8 + x4)))) else x2)), (5, .int (if x1 < ((1440 * x4) + (σ 1 (ix (1 + x4)))) then ((1440 * x4) + (σ 1 (ix (1 + x4)))) else x1)), (0, .ref (h 0)), (1, .int x1), (2, .int x2)]) hx hb dX9_openMinutes_94 hl (k := 6) rfl rfl (by decide) rfl (fun ls hl => ?_)
      refine lv_goto (tgt := 30) hx hb dX9_openMinutes_97 (by decide) ?_
      exact ih _ _ _ _ _ _ _ hM _ _ hw _ (lv_sub hl [4, 5, 6, 1, 0] rfl)
def f_X9_openMinutes (N : Nat)   (x1 : Int32) (x2 : Int32) (σ : Sg) (wd : Int64) : Option (Int32) := (f_X9_isBetween x1 0 10080).bind (fun p1 => (if p1 = 0 then some (-4) else (f_X9_isBetween x2 x1 10080).bind (fun p4 => (if p4 = 0 then some (-4) else f_X9_openMinutes_30 N N x1 x2 0 0 σ wd))))
set_option maxRecDepth 100000 in
set_option maxHeartbeats 4000000 in
theorem c_X9_openMinutes (l : Launch) (D : va_G) (cA : Nat → ClassId) (tS : Nat → Nat) (A : Nat → Prop) (h : Nat → Nat) (F : va_W) (N : Nat) (x1 : Int32) (x2 : Int32) (σ : Sg) (wd : Int64) (r0 : Int32) (hM : f_X9_openMinutes N x1 x2 σ wd = some r0) : Ct l yX9_openMinutes (Cond.code yX9_openMinutes cX9_openMinutes 7 (some .int) :: bw) 1 22 D cA tS A [.ref (h 0), .int x1, .int x2] (wM cA h σ wd ++ F) (some (.int r0)) (wM cA h σ wd ++ F) := by
  refine ct_of (by decide +kernel) (Nat.le_of_ble_eq_true rfl) ?_
  intro p e s m below meth c E hw ls hl
  replace E : Ev p cX9_openMinutes 7 (some .int) RX9 (Cond.code yX9_openMinutes cX9_openMinutes 7 (some .int) :: bw) D cA tS A s m _ meth c := E
  replace hl : lv_has ls 7 [(0, .ref (h 0)), (1, .int x1), (2, .int x2)] := hl
  have hx := E.1.1
  have hb := E.1.2.1
  unfold f_X9_openMinutes at hM
  refine lv_iload_n hx hb dX9_openMinutes_0 rfl (lv_at hl 1 rfl) ?_
  refine lv_iconst (v := 0) hx hb dX9_openMinutes_1 (by decide) ?_
  refine lv_sipush (v := 10080) hx hb dX9_openMinutes_2 (by decide) ?_
  obtain ⟨p1, h2, hM⟩ := b_some hM
  refine q_cs (As := [.int x1, .int 0, .int 10080]) (rest := []) E hw hl (c_X9_isBetween l D cA tS A (wM cA h σ wd ++ F) x1 0 10080 p1 h2) 3 (bwS bw_c tb_1224 tb_1225 tb_112 tb_1226) rfl (by decide +kernel) ⟨Nat.le_of_ble_eq_true rfl, Nat.le_of_ble_eq_true rfl⟩ rfl rfl (Nat.le_of_ble_eq_true rfl) ⟨Nat.zero_le _, Nat.zero_le _⟩ dX9_openMinutes_5 (fun H locs hw => ?_)
  refine lv_if_eq (tgt := 22) hx hb dX9_openMinutes_8 (by decide) (fun c3 => ?_) (fun c3 => ?_)
  · replace hM := i_pos hM c3
    refine lv_bipush (v := (-4)) hx hb dX9_openMinutes_22 (by decide) ?_
    cases hM
    exact q_reti E hw dX9_openMinutes_24
  · replace hM := i_neg hM c3
    refine lv_iload_n hx hb dX9_openMinutes_11 rfl (lv_at hl 2 rfl) ?_
    refine lv_iload_n hx hb dX9_openMinutes_12 rfl (lv_at hl 1 rfl) ?_
    refine lv_sipush (v := 10080) hx hb dX9_openMinutes_13 (by decide) ?_
    obtain ⟨p4, h5, hM⟩ := b_some hM
    refine q_cs (As := [.int x2, .int x1, .int 10080]) (rest := []) E hw hl (c_X9_isBetween l D cA tS A (wM cA h σ wd ++ F) x2 x1 10080 p4 h5) 3 (bwS bw_c tb_1224 tb_1225 tb_112 tb_1226) rfl (by decide +kernel) ⟨Nat.le_of_ble_eq_true rfl, Nat.le_of_ble_eq_true rfl⟩ rfl rfl (Nat.le_of_ble_eq_true rfl) ⟨Nat.zero_le _, Nat.zero_le _⟩ dX9_openMinutes_16 (fun H locs hw => ?_)
    refine lv_if_ne (tgt := 25) hx hb dX9_openMinutes_19 (by decide) (fun c6 => ?_) (fun c6 => ?_)
    · replace hM := i_neg hM c6
      refine lv_iconst (v := 0) hx hb dX9_openMinutes_25 (by decide) ?_
      refine lv_istore_n (lv' := [(3, .int 0), (0, .ref (h 0)), (1, .int x1), (2, .int x2)]) hx hb dX9_openMinutes_26 rfl hl (by decide) rfl (fun ls hl => ?_)
      refine lv_iconst (v := 0) hx hb dX9_openMinutes_27 (by decide) ?_
      refine lv_istore (lv' := [(4, .int 0), (3, .int 0), (0, .ref (h 0)), (1, .int x1), (2, .int x2)]) hx hb dX9_openMinutes_28 hl (by decide) rfl (fun ls hl => ?_)
      exact s_X9_openMinutes_30 l D cA tS A h F N E N _ _ _ _ _ _ _ hM _ _ hw _ (lv_sub hl [2, 3, 4, 1, 0] rfl)
    · replace hM := i_pos hM c6
      refine lv_bipush (v := (-4)) hx hb dX9_openMinutes_22 (by decide) ?_
      cases hM
      exact q_reti E hw dX9_openMinutes_24
def f_X9_addKind_57    (x1 : Int32) (x2 : Int32) (x3 : Int32) (x4 : Int32) (x5 : Int32) (x6 : Int32) (σ : Sg) (wd : Int64) : Option (Int32 × Sg) := some ((-4), σ)
set_option maxRecDepth 100000 in
set_option maxHeartbeats 4000000 in
theorem s_X9_addKind_57 (l : Launch) (D : va_G) (cA : Nat → ClassId) (tS : Nat → Nat) (A : Nat → Prop) (h : Nat → Nat) (F : va_W) {p : Program} {e : Env} {s : State} {m : MethodId} {args : Array Value} {below : List Frame} {meth : Method} {c : Code} (E : Ev p cX9_addKind 10 (some .int) RX9 (Cond.code yX9_addKind cX9_addKind 10 (some .int) :: bw) D cA tS A s m args meth c) : ∀ (x1 : Int32) (x2 : Int32) (x3 : Int32) (x4 : Int32) (x5 : Int32) (x6 : Int32) (σ : Sg) (wd : Int64) (r0 : Int32) (s0 : Sg) (hM : f_X9_addKind_57 x1 x2 x3 x4 x5 x6 σ wd = some (r0, s0)) (H : Heap) (locs : List Loc) (hw : Wd D A (wM cA h σ wd ++ F) s.heap H locs) (ls : Array Slot) (hl : lv_has ls 10 [(0, .ref (h 0)), (1, .int x1), (2, .int x2), (3, .int x3), (4, .int x4), (5, .int x5), (6, .int x6)]), W p l e ({ frames := 2, cells := 0, slots := 0, locals := 42 } : Room) s m args below meth c H locs 0 0 (MQ below (QW D A (some (.int r0)) (wM cA h s0 wd ++ F)) args s 0 0 A) (F0 m 57 ls []) := by
  have hx := E.1.1
  have hb := E.1.2.1
  intro x1 x2 x3 x4 x5 x6 σ wd r0 s0 hM H locs hw ls hl
  unfold f_X9_addKind_57 at hM
  refine lv_iconst (v := 0) hx hb dX9_addKind_57 (by decide) ?_
  refine lv_istore (lv' := [(7, .int 0), (0, .ref (h 0)), (1, .int x1), (2, .int x2), (3, .int x3), (4, .int x4), (5, .int x5), (6, .int x6)]) hx hb dX9_addKind_58 hl (by decide) rfl (fun ls hl => ?_)
  refine lv_iload hx hb dX9_addKind_60 (lv_at hl 0 rfl) ?_
  refine lv_if_ne (tgt := 68) hx hb dX9_addKind_62 (by decide) (fun c1 => ?_) (fun c1 => ?_)
  · first | exact absurd (by decide) c1 | exact absurd c1 (by decide)
  · refine lv_bipush (v := (-4)) hx hb dX9_addKind_65 (by decide) ?_
    cases hM
    exact q_reti E hw dX9_addKind_67
def f_X9_addKind    (x1 : Int32) (x2 : Int32) (x3 : Int32) (x4 : Int32) (x5 : Int32) (x6 : Int32) (σ : Sg) (wd : Int64) : Option (Int32 × Sg) := (f_X9_isBetween x1 0 10080).bind (fun p1 => (if p1 = 0 then f_X9_addKind_57 x1 x2 x3 x4 x5 x6 σ wd else (f_X9_isBetween x2 0 10080).bind (fun p4 => (if p4 = 0 then f_X9_addKind_57 x1 x2 x3 x4 x5 x6 σ wd else (f_X9_isBetween x3 1 480).bind (fun p7 => (if p7 = 0 then f_X9_addKind_57 x1 x2 x3 x4 x5 x6 σ wd else (f_X9_isLevel x4).bind (fun p10 => (if p10 = 0 then f_X9_addKind_57 x1 x2 x3 x4 x5 x6 σ wd else (f_X9_isBetween x5 0 10080).bind (fun p13 => (if p13 = 0 then f_X9_addKind_57 x1 x2 x3 x4 x5 x6 σ wd else (if (σ 1 (ix 19)) = 6 then some ((-6), σ) else if ib ((20 + (6 * (σ 1 (ix 19)))) + 0) 4619 then if ib ((20 + (6 * (σ 1 (ix 19)))) + 1) 4619 then if ib ((20 + (6 * (σ 1 (ix 19)))) + 2) 4619 then if ib ((20 + (6 * (σ 1 (ix 19)))) + 3) 4619 then if ib ((20 + (6 * (σ 1 (ix 19)))) + 4) 4619 then (if x6 = 0 then if ib ((20 + (6 * (σ 1 (ix 19)))) + 5) 4619 then some ((σ 1 (ix 19)), (up (up (up (up (up (up (up σ 1 (ix ((20 + (6 * (σ 1 (ix 19)))) + 0)) x1) 1 (ix ((20 + (6 * (σ 1 (ix 19)))) + 1)) x2) 1 (ix ((20 + (6 * (σ 1 (ix 19)))) + 2)) x3) 1 (ix ((20 + (6 * (σ 1 (ix 19)))) + 3)) x4) 1 (ix ((20 + (6 * (σ 1 (ix 19)))) + 4)) x5) 1 (ix ((20 + (6 * (σ 1 (ix 19)))) + 5)) 0) 1 (ix 19) (((up (up (up (up (up (up σ 1 (ix ((20 + (6 * (σ 1 (ix 19)))) + 0)) x1) 1 (ix ((20 + (6 * (σ 1 (ix 19)))) + 1)) x2) 1 (ix ((20 + (6 * (σ 1 (ix 19)))) + 2)) x3) 1 (ix ((20 + (6 * (σ 1 (ix 19)))) + 3)) x4) 1 (ix ((20 + (6 * (σ 1 (ix 19)))) + 4)) x5) 1 (ix ((20 + (6 * (σ 1 (ix 19)))) + 5)) 0) 1 (ix 19)) + 1))) else none else if ib ((20 + (6 * (σ 1 (ix 19)))) + 5) 4619 then some ((σ 1 (ix 19)), (up (up (up (up (up (up (up σ 1 (ix ((20 + (6 * (σ 1 (ix 19)))) + 0)) x1) 1 (ix ((20 + (6 * (σ 1 (ix 19)))) + 1)) x2) 1 (ix ((20 + (6 * (σ 1 (ix 19)))) + 2)) x3) 1 (ix ((20 + (6 * (σ 1 (ix 19)))) + 3)) x4) 1 (ix ((20 + (6 * (σ 1 (ix 19)))) + 4)) x5) 1 (ix ((20 + (6 * (σ 1 (ix 19)))) + 5)) 1) 1 (ix 19) (((up (up (up (up (up (up σ 1 (ix ((20 + (6 * (σ 1 (ix 19)))) + 0)) x1) 1 (ix ((20 + (6 * (σ 1 (ix 19)))) + 1)) x2) 1 (ix ((20 + (6 * (σ 1 (ix 19)))) + 2)) x3) 1 (ix ((20 + (6 * (σ 1 (ix 19)))) + 3)) x4) 1 (ix ((20 + (6 * (σ 1 (ix 19)))) + 4)) x5) 1 (ix ((20 + (6 * (σ 1 (ix 19)))) + 5)) 1) 1 (ix 19)) + 1))) else none) else none else none else none else none else none)))))))))))
set_option maxRecDepth 100000 in
set_option maxHeartbeats 4000000 in
theorem c_X9_addKind (l : Launch) (D : va_G) (cA : Nat → ClassId) (tS : Nat → Nat) (A : Nat → Prop) (h : Nat → Nat) (F : va_W) (x1 : Int32) (x2 : Int32) (x3 : Int32) (x4 : Int32) (x5 : Int32) (x6 : Int32) (σ : Sg) (wd : Int64) (r0 : Int32) (s0 : Sg) (hM : f_X9_addKind x1 x2 x3 x4 x5 x6 σ wd = some (r0, s0)) : Ct l yX9_addKind (Cond.code yX9_addKind cX9_addKind 10 (some .int) :: bw) 2 42 D cA tS A [.ref (h 0), .int x1, .int x2, .int x3, .int x4, .int x5, .int x6] (wM cA h σ wd ++ F) (some (.int r0)) (wM cA h s0 wd ++ F) := by
  refine ct_of (by decide +kernel) (Nat.le_of_ble_eq_true rfl) ?_
  intro p e s m below meth c E hw ls hl
  replace E : Ev p cX9_addKind 10 (some .int) RX9 (Cond.code yX9_addKind cX9_addKind 10 (some .int) :: bw) D cA tS A s m _ meth c := E
  replace hl : lv_has ls 10 [(0, .ref (h 0)), (1, .int x1), (2, .int x2), (3, .int x3), (4, .int x4), (5, .int x5), (6, .int x6)] := hl
  have hx := E.1.1
  have hb := E.1.2.1
  unfold f_X9_addKind at hM
  refine lv_iload_n hx hb dX9_addKind_0 rfl (lv_at hl 1 rfl) ?_
  refine lv_iconst (v := 0) hx hb dX9_addKind_1 (by decide) ?_
  refine lv_sipush (v := 10080) hx hb dX9_addKind_2 (by decide) ?_
  obtain ⟨p1, h2, hM⟩ := b_some hM
  refine q_cs (As := [.int x1, .int 0, .int 10080]) (rest := []) E hw hl (c_X9_isBetween l D cA tS A (wM cA h σ wd ++ F) x1 0 10080 p1 h2) 3 (bwS bw_c tb_1224 tb_1225 tb_112 tb_1226) rfl (by decide +kernel) ⟨Nat.le_of_ble_eq_true rfl, Nat.le_of_ble_eq_true rfl⟩ rfl rfl (Nat.le_of_ble_eq_true rfl) ⟨Nat.zero_le _, Nat.zero_le _⟩ dX9_addKind_5 (fun H locs hw => ?_)
  refine lv_if_eq (tgt := 57) hx hb dX9_addKind_8 (by decide) (fun c3 => ?_) (fun c3 => ?_)
  · replace hM := i_pos hM c3
    exact s_X9_addKind_57 l D cA tS A h F E _ _ _ _ _ _ _ _ _ _ hM _ _ hw _ (lv_sub hl [0, 1, 2, 3, 4, 5, 6] rfl)
  · replace hM := i_neg hM c3
    refine lv_iload_n hx hb dX9_addKind_11 rfl (lv_at hl 2 rfl) ?_
    refine lv_iconst (v := 0) hx hb dX9_addKind_12 (by decide) ?_
    refine lv_sipush (v := 10080) hx hb dX9_addKind_13 (by decide) ?_
    obtain ⟨p4, h5, hM⟩ := b_some hM
    refine q_cs (As := [.int x2, .int 0, .int 10080]) (rest := []) E hw hl (c_X9_isBetween l D cA tS A (wM cA h σ wd ++ F) x2 0 10080 p4 h5) 3 (bwS bw_c tb_1224 tb_1225 tb_112 tb_1226) rfl (by decide +kernel) ⟨Nat.le_of_ble_eq_true rfl, Nat.le_of_ble_eq_true rfl⟩ rfl rfl (Nat.le_of_ble_eq_true rfl) ⟨Nat.zero_le _, Nat.zero_le _⟩ dX9_addKind_16 (fun H locs hw => ?_)
    refine lv_if_eq (tgt := 57) hx hb dX9_addKind_19 (by decide) (fun c6 => ?_) (fun c6 => ?_)
    · replace hM := i_pos hM c6
      exact s_X9_addKind_57 l D cA tS A h F E _ _ _ _ _ _ _ _ _ _ hM _ _ hw _ (lv_sub hl [0, 1, 2, 3, 4, 5, 6] rfl)
    · replace hM := i_neg hM c6
      refine lv_iload_n hx hb dX9_addKind_22 rfl (lv_at hl 3 rfl) ?_
      refine lv_iconst (v := 1) hx hb dX9_addKind_23 (by decide) ?_
      refine lv_sipush (v := 480) hx hb dX9_addKind_24 (by decide) ?_
      obtain ⟨p7, h8, hM⟩ := b_some hM
      refine q_cs (As := [.int x3, .int 1, .int 480]) (rest := []) E hw hl (c_X9_isBetween l D cA tS A (wM cA h σ wd ++ F) x3 1 480 p7 h8) 3 (bwS bw_c tb_1224 tb_1225 tb_112 tb_1226) rfl (by decide +kernel) ⟨Nat.le_of_ble_eq_true rfl, Nat.le_of_ble_eq_true rfl⟩ rfl rfl (Nat.le_of_ble_eq_true rfl) ⟨Nat.zero_le _, Nat.zero_le _⟩ dX9_addKind_27 (fun H locs hw => ?_)
      refine lv_if_eq (tgt := 57) hx hb dX9_addKind_30 (by decide) (fun c9 => ?_) (fun c9 => ?_)
      · replace hM := i_pos hM c9
        exact s_X9_addKind_57 l D cA tS A h F E _ _ _ _ _ _ _ _ _ _ hM _ _ hw _ (lv_sub hl [0, 1, 2, 3, 4, 5, 6] rfl)
      · replace hM := i_neg hM c9
        refine lv_iload hx hb dX9_addKind_33 (lv_at hl 4 rfl) ?_
        obtain ⟨p10, h11, hM⟩ := b_some hM
        refine q_cs (As := [.int x4]) (rest := []) E hw hl (c_X9_isLevel l D cA tS A (wM cA h σ wd ++ F) x4 p10 h11) 1 (bwS bw_c tb_1230 tb_1231 tb_112 tb_1232) rfl (by decide +kernel) ⟨Nat.le_of_ble_eq_true rfl, Nat.le_of_ble_eq_true rfl⟩ rfl rfl (Nat.le_of_ble_eq_true rfl) ⟨Nat.zero_le _, Nat.zero_le _⟩ dX9_addKind_35 (fun H locs hw => ?_)
        refine lv_if_eq (tgt := 57) hx hb dX9_addKind_38 (by decide) (fun c12 => ?_) (fun c12 => ?_)
        · replace hM := i_pos hM c12
          exact s_X9_addKind_57 l D cA tS A h F E _ _ _ _ _ _ _ _ _ _ hM _ _ hw _ (lv_sub hl [0, 1, 2, 3, 4, 5, 6] rfl)
        · replace hM := i_neg hM c12
          refine lv_iload hx hb dX9_addKind_41 (lv_at hl 5 rfl) ?_
          refine lv_iconst (v := 0) hx hb dX9_addKind_43 (by decide) ?_
          refine lv_sipush (v := 10080) hx hb dX9_addKind_44 (by decide) ?_
          obtain ⟨p13, h14, hM⟩ := b_some hM
          refine q_cs (As := [.int x5, .int 0, .int 10080]) (rest := []) E hw hl (c_X9_isBetween l D cA tS A (wM cA h σ wd ++ F) x5 0 10080 p13 h14) 3 (bwS bw_c tb_1224 tb_1225 tb_112 tb_1226) rfl (by decide +kernel) ⟨Nat.le_of_ble_eq_true rfl, Nat.le_of_ble_eq_true rfl⟩ rfl rfl (Nat.le_of_ble_eq_true rfl) ⟨Nat.zero_le _, Nat.zero_le _⟩ dX9_addKind_47 (fun H locs hw => ?_)
          refine lv_if_eq (tgt := 57) hx hb dX9_addKind_50 (by decide) (fun c15 => ?_) (fun c15 => ?_)
          · replace hM := i_pos hM c15
            exact s_X9_addKind_57 l D cA tS A h F E _ _ _ _ _ _ _ _ _ _ hM _ _ hw _ (lv_sub hl [0, 1, 2, 3, 4, 5, 6] rfl)
          · replace hM := i_neg hM c15
            refine lv_iconst (v := 1) hx hb dX9_addKind_53 (by decide) ?_
            refine lv_goto (tgt := 58) hx hb dX9_addKind_54 (by decide) ?_
            refine lv_istore (lv' := [(7, .int 1), (0, .ref (h 0)), (1, .int x1), (2, .int x2), (3, .int x3), (4, .int x4), (5, .int x5), (6, .int x6)]) hx hb dX9_addKind_58 hl (by decide) rfl (fun ls hl => ?_)
            refine lv_iload hx hb dX9_addKind_60 (lv_at hl 0 rfl) ?_
            refine lv_if_ne (tgt := 68) hx hb dX9_addKind_62 (by decide) (fun c16 => ?_) (fun c16 => ?_)
            · refine lv_aload_n hx hb dX9_addKind_68 rfl (lv_at hl 1 rfl) ?_
              refine q_get (C := RX9) (T := TX9) (N := 17) (ci := 9) E (fun w h => List.mem_cons_of_mem _ (inX9 w h)) hw 0 rfl rfl 0 (by decide) (List.mem_cons_of_mem _ tb_1157) (v := .ref (h 1)) rfl dX9_addKind_69 ?_
              refine lv_bipush (v := 19) hx hb dX9_addKind_72 (by decide) ?_
              refine q_ald E hw 1 (n := 4619) rfl (by decide +kernel) (x := (σ 1 (ix 19))) rfl dX9_addKind_74 ?_
              refine lv_istore (lv' := [(8, .int (σ 1 (ix 19))), (7, .int 1), (0, .ref (h 0)), (1, .int x1), (2, .int x2), (3, .int x3), (4, .int x4), (5, .int x5), (6, .int x6)]) hx hb dX9_addKind_75 hl (by decide) rfl (fun ls hl => ?_)
              refine lv_iload hx hb dX9_addKind_77 (lv_at hl 0 rfl) ?_
              refine lv_bipush (v := 6) hx hb dX9_addKind_79 (by decide) ?_
              refine lv_icmp_ne (tgt := 87) hx hb dX9_addKind_81 (by decide) (fun c17 => ?_) (fun c17 => ?_)
              · replace hM := i_neg hM c17
                refine lv_bipush (v := 20) hx hb dX9_addKind_87 (by decide) ?_
                refine lv_bipush (v := 6) hx hb dX9_addKind_89 (by decide) ?_
                refine lv_iload hx hb dX9_addKind_91 (lv_at hl 0 rfl) ?_
                refine lv_imul hx hb dX9_addKind_93 ?_
                refine lv_iadd hx hb dX9_addKind_94 ?_
                refine lv_istore (lv' := [(9, .int (20 + (6 * (σ 1 (ix 19))))), (8, .int (σ 1 (ix 19))), (7, .int 1), (0, .ref (h 0)), (1, .int x1), (2, .int x2), (3, .int x3), (4, .int x4), (5, .int x5), (6, .int x6)]) hx hb dX9_addKind_95 hl (by decide) rfl (fun ls hl => ?_)
                refine lv_aload_n hx hb dX9_addKind_97 rfl (lv_at hl 3 rfl) ?_
                refine q_get (C := RX9) (T := TX9) (N := 17) (ci := 9) E (fun w h => List.mem_cons_of_mem _ (inX9 w h)) hw 0 rfl rfl 0 (by decide) (List.mem_cons_of_mem _ tb_1157) (v := .ref (h 1)) rfl dX9_addKind_98 ?_
                refine lv_iload hx hb dX9_addKind_101 (lv_at hl 0 rfl) ?_
                refine lv_iconst (v := 0) hx hb dX9_addKind_103 (by decide) ?_
                refine lv_iadd hx hb dX9_addKind_104 ?_
                refine lv_iload_n hx hb dX9_addKind_105 rfl (lv_at hl 4 rfl) ?_
                obtain ⟨g18, hM⟩ := g_some hM
                refine q_ast E hw 1 (n := 4619) rfl g18 (wM cA h (up σ 1 (ix ((20 + (6 * (σ 1 (ix 19)))) + 0)) x1) wd ++ F) st_M_1 dX9_addKind_106 (fun H locs hw => ?_)
                refine lv_aload_n hx hb dX9_addKind_107 rfl (lv_at hl 3 rfl) ?_
                refine q_get (C := RX9) (T := TX9) (N := 17) (ci := 9) E (fun w h => List.mem_cons_of_mem _ (inX9 w h)) hw 0 rfl rfl 0 (by decide) (List.mem_cons_of_mem _ tb_1157) (v := .ref (h 1)) rfl dX9_addKind_108 ?_
                refine lv_iload hx hb dX9_addKind_111 (lv_at hl 0 rfl) ?_
                refine lv_iconst (v := 1) hx hb dX9_addKind_113 (by decide) ?_
                refine lv_iadd hx hb dX9_addKind_114 ?_
                refine lv_iload_n hx hb dX9_addKind_115 rfl (lv_at hl 5 rfl) ?_
                obtain ⟨g19, hM⟩ := g_some hM
                refine q_ast E hw 1 (n := 4619) rfl g19 (wM cA h (up (up σ 1 (ix ((20 + (6 * (σ 1 (ix 19)))) + 0)) x1) 1 (ix ((20 + (6 * (σ 1 (ix 19)))) + 1)) x2) wd ++ F) st_M_1 dX9_addKind_116 (fun H locs hw => ?_)
                refine lv_aload_n hx hb dX9_addKind_117 rfl (lv_at hl 3 rfl) ?_
                refine q_get (C := RX9) (T := TX9) (N := 17) (ci := 9) E (fun w h => List.mem_cons_of_mem _ (inX9 w h)) hw 0 rfl rfl 0 (by decide) (List.mem_cons_of_mem _ tb_1157) (v := .ref (h 1)) rfl dX9_addKind_118 ?_
                refine lv_iload hx hb dX9_addKind_121 (lv_at hl 0 rfl) ?_
                refine lv_iconst (v := 2) hx hb dX9_addKind_123 (by decide) ?_
                refine lv_iadd hx hb dX9_addKind_124 ?_
                refine lv_iload_n hx hb dX9_addKind_125 rfl (lv_at hl 6 rfl) ?_
                obtain ⟨g20, hM⟩ := g_some hM
                refine q_ast E hw 1 (n := 4619) rfl g20 (wM cA h (up (up (up σ 1 (ix ((20 + (6 * (σ 1 (ix 19)))) + 0)) x1) 1 (ix ((20 + (6 * (σ 1 (ix 19)))) + 1)) x2) 1 (ix ((20 + (6 * (σ 1 (ix 19)))) + 2)) x3) wd ++ F) st_M_1 dX9_addKind_126 (fun H locs hw => ?_)
                refine lv_aload_n hx hb dX9_addKind_127 rfl (lv_at hl 3 rfl) ?_
                refine q_get (C := RX9) (T := TX9) (N := 17) (ci := 9) E (fun w h => List.mem_cons_of_mem _ (inX9 w h)) hw 0 rfl rfl 0 (by decide) (List.mem_cons_of_mem _ tb_1157) (v := .ref (h 1)) rfl dX9_addKind_128 ?_
                refine lv_iload hx hb dX9_addKind_131 (lv_at hl 0 rfl) ?_
                refine lv_iconst (v := 3) hx hb dX9_addKind_133 (by decide) ?_
                refine lv_iadd hx hb dX9_addKind_134 ?_
                refine lv_iload hx hb dX9_addKind_135 (lv_at hl 7 rfl) ?_
                obtain ⟨g21, hM⟩ := g_some hM
                refine q_ast E hw 1 (n := 4619) rfl g21 (wM cA h (up (up (up (up σ 1 (ix ((20 + (6 * (σ 1 (ix 19)))) + 0)) x1) 1 (ix ((20 + (6 * (σ 1 (ix 19)))) + 1)) x2) 1 (ix ((20 + (6 * (σ 1 (ix 19)))) + 2)) x3) 1 (ix ((20 + (6 * (σ 1 (ix 19)))) + 3)) x4) wd ++ F) st_M_1 dX9_addKind_137 (fun H locs hw => ?_)
                refine lv_aload_n hx hb dX9_addKind_138 rfl (lv_at hl 3 rfl) ?_
                refine q_get (C := RX9) (T := TX9) (N := 17) (ci := 9) E (fun w h => List.mem_cons_of_mem _ (inX9 w h)) hw 0 rfl rfl 0 (by decide) (List.mem_cons_of_mem _ tb_1157) (v := .ref (h 1)) rfl dX9_addKind_139 ?_
                refine lv_iload hx hb dX9_addKind_142 (lv_at hl 0 rfl) ?_
                refine lv_iconst (v := 4) hx hb dX9_addKind_144 (by decide) ?_
                refine lv_iadd hx hb dX9_addKind_145 ?_
                refine lv_iload hx hb dX9_addKind_146 (lv_at hl 8 rfl) ?_
                obtain ⟨g22, hM⟩ := g_some hM
                refine q_ast E hw 1 (n := 4619) rfl g22 (wM cA h (up (up (up (up (up σ 1 (ix ((20 + (6 * (σ 1 (ix 19)))) + 0)) x1) 1 (ix ((20 + (6 * (σ 1 (ix 19)))) + 1)) x2) 1 (ix ((20 + (6 * (σ 1 (ix 19)))) + 2)) x3) 1 (ix ((20 + (6 * (σ 1 (ix 19)))) + 3)) x4) 1 (ix ((20 + (6 * (σ 1 (ix 19)))) + 4)) x5) wd ++ F) st_M_1 dX9_addKind_148 (fun H locs hw => ?_)
                refine lv_aload_n hx hb dX9_addKind_149 rfl (lv_at hl 3 rfl) ?_
                refine q_get (C := RX9) (T := TX9) (N := 17) (ci := 9) E (fun w h => List.mem_cons_of_mem _ (inX9 w h)) hw 0 rfl rfl 0 (by decide) (List.mem_cons_of_mem _ tb_1157) (v := .ref (h 1)) rfl dX9_addKind_150 ?_
                refine lv_iload hx hb dX9_addKind_153 (lv_at hl 0 rfl) ?_
                refine lv_iconst (v := 5) hx hb dX9_addKind_155 (by decide) ?_
                refine lv_iadd hx hb dX9_addKind_156 ?_
                refine lv_iload hx hb dX9_addKind_157 (lv_at hl 9 rfl) ?_
                refine lv_if_eq (tgt := 166) hx hb dX9_addKind_159 (by decide) (fun c23 => ?_) (fun c23 => ?_)
                · replace hM := i_pos hM c23
                  refine lv_iconst (v := 0) hx hb dX9_addKind_166 (by decide) ?_
                  obtain ⟨g24, hM⟩ := g_some hM
                  refine q_ast E hw 1 (n := 4619) rfl g24 (wM cA h (up (up (up (up (up (up σ 1 (ix ((20 + (6 * (σ 1 (ix 19)))) + 0)) x1) 1 (ix ((20 + (6 * (σ 1 (ix 19)))) + 1)) x2) 1 (ix ((20 + (6 * (σ 1 (ix 19)))) + 2)) x3) 1 (ix ((20 + (6 * (σ 1 (ix 19)))) + 3)) x4) 1 (ix ((20 + (6 * (σ 1 (ix 19)))) + 4)) x5) 1 (ix ((20 + (6 * (σ 1 (ix 19)))) + 5)) 0) wd ++ F) st_M_1 dX9_addKind_167 (fun H locs hw => ?_)
                  refine lv_aload_n hx hb dX9_addKind_168 rfl (lv_at hl 3 rfl) ?_
                  refine q_get (C := RX9) (T := TX9) (N := 17) (ci := 9) E (fun w h => List.mem_cons_of_mem _ (inX9 w h)) hw 0 rfl rfl 0 (by decide) (List.mem_cons_of_mem _ tb_1157) (v := .ref (h 1)) rfl dX9_addKind_169 ?_
                  refine lv_bipush (v := 19) hx hb dX9_addKind_172 (by decide) ?_
                  refine lv_dup2_11 hx hb dX9_addKind_174 rfl rfl ?_
                  refine q_ald E hw 1 (n := 4619) rfl (by decide +kernel) (x := ((up (up (up (up (up (up σ 1 (ix ((20 + (6 * (σ 1 (ix 19)))) + 0)) x1) 1 (ix ((20 + (6 * (σ 1 (ix 19)))) + 1)) x2) 1 (ix ((20 + (6 * (σ 1 (ix 19)))) + 2)) x3) 1 (ix ((20 + (6 * (σ 1 (ix 19)))) + 3)) x4) 1 (ix ((20 + (6 * (σ 1 (ix 19)))) + 4)) x5) 1 (ix ((20 + (6 * (σ 1 (ix 19)))) + 5)) 0) 1 (ix 19))) rfl dX9_addKind_175 ?_
                  refine lv_iconst (v := 1) hx hb dX9_addKind_176 (by decide) ?_
                  refine lv_iadd hx hb dX9_addKind_177 ?_
                  refine q_ast E hw 1 (n := 4619) rfl (by decide +kernel) (wM cA h (up (up (up (up (up (up (up σ 1 (ix ((20 + (6 * (σ 1 (ix 19)))) + 0)) x1) 1 (ix ((20 + (6 * (σ 1 (ix 19)))) + 1)) x2) 1 (ix ((20 + (6 * (σ 1 (ix 19)))) + 2)) x3) 1 (ix ((20 + (6 * (σ 1 (ix 19)))) + 3)) x4) 1 (ix ((20 + (6 * (σ 1 (ix 19)))) + 4)) x5) 1 (ix ((20 + (6 * (σ 1 (ix 19)))) + 5)) 0) 1 (ix 19) (((up (up (up (up (up (up σ 1 (ix ((20 + (6 * (σ 1 (ix 19)))) + 0)) x1) 1 (ix ((20 + (6 * (σ 1 (ix 19)))) + 1)) x2) 1 (ix ((20 + (6 * (σ 1 (ix 19)))) + 2)) x3) 1 (ix ((20 + (6 * (σ 1 (ix 19)))) + 3)) x4) 1 (ix ((20 + (6 * (σ 1 (ix 19)))) + 4)) x5) 1 (ix ((20 + (6 * (σ 1 (ix 19)))) + 5)) 0) 1 (ix 19)) + 1)) wd ++ F) st_M_1 dX9_addKind_178 (fun H locs hw => ?_)
                  refine lv_iload hx hb dX9_addKind_179 (lv_at hl 1 rfl) ?_
                  cases hM
                  exact q_reti E hw dX9_addKind_181
                · replace hM := i_neg hM c23
                  refine lv_iconst (v := 1) hx hb dX9_addKind_162 (by decide) ?_
                  refine lv_goto (tgt := 167) hx hb dX9_addKind_163 (by decide) ?_
                  obtain ⟨g25, hM⟩ := g_some hM
                  refine q_ast E hw 1 (n := 4619) rfl g25 (wM cA h (up (up (up (up (up (up σ 1 (ix ((20 + (6 * (σ 1 (ix 19)))) + 0)) x1) 1 (ix ((20 + (6 * (σ 1 (ix 19)))) + 1)) x2) 1 (ix ((20 + (6 * (σ 1 (ix 19)))) + 2)) x3) 1 (ix ((20 + (6 * (σ 1 (ix 19)))) + 3)) x4) 1 (ix ((20 + (6 * (σ 1 (ix 19)))) + 4)) x5) 1 (ix ((20 + (6 * (σ 1 (ix 19)))) + 5)) 1) wd ++ F) st_M_1 dX9_addKind_167 (fun H locs hw => ?_)
                  refine lv_aload_n hx hb dX9_addKind_168 rfl (lv_at hl 3 rfl) ?_
                  refine q_get (C := RX9) (T := TX9) (N := 17) (ci := 9) E (fun w h => List.mem_cons_of_mem _ (inX9 w h)) hw 0 rfl rfl 0 (by decide) (List.mem_cons_of_mem _ tb_1157) (v := .ref (h 1)) rfl dX9_addKind_169 ?_
                  refine lv_bipush (v := 19) hx hb dX9_addKind_172 (by decide) ?_
                  refine lv_dup2_11 hx hb dX9_addKind_174 rfl rfl ?_
                  refine q_ald E hw 1 (n := 4619) rfl (by decide +kernel) (x := ((up (up (up (up (up (up σ 1 (ix ((20 + (6 * (σ 1 (ix 19)))) + 0)) x1) 1 (ix ((20 + (6 * (σ 1 (ix 19)))) + 1)) x2) 1 (ix ((20 + (6 * (σ 1 (ix 19)))) + 2)) x3) 1 (ix ((20 + (6 * (σ 1 (ix 19)))) + 3)) x4) 1 (ix ((20 + (6 * (σ 1 (ix 19)))) + 4)) x5) 1 (ix ((20 + (6 * (σ 1 (ix 19)))) + 5)) 1) 1 (ix 19))) rfl dX9_addKind_175 ?_
                  refine lv_iconst (v := 1) hx hb dX9_addKind_176 (by decide) ?_
                  refine lv_iadd hx hb dX9_addKind_177 ?_
                  refine q_ast E hw 1 (n := 4619) rfl (by decide +kernel) (wM cA h (up (up (up (up (up (up (up σ 1 (ix ((20 + (6 * (σ 1 (ix 19)))) + 0)) x1) 1 (ix ((20 + (6 * (σ 1 (ix 19)))) + 1)) x2) 1 (ix ((20 + (6 * (σ 1 (ix 19)))) + 2)) x3) 1 (ix ((20 + (6 * (σ 1 (ix 19)))) + 3)) x4) 1 (ix ((20 + (6 * (σ 1 (ix 19)))) + 4)) x5) 1 (ix ((20 + (6 * (σ 1 (ix 19)))) + 5)) 1) 1 (ix 19) (((up (up (up (up (up (up σ 1 (ix ((20 + (6 * (σ 1 (ix 19)))) + 0)) x1) 1 (ix ((20 + (6 * (σ 1 (ix 19)))) + 1)) x2) 1 (ix ((20 + (6 * (σ 1 (ix 19)))) + 2)) x3) 1 (ix ((20 + (6 * (σ 1 (ix 19)))) + 3)) x4) 1 (ix ((20 + (6 * (σ 1 (ix 19)))) + 4)) x5) 1 (ix ((20 + (6 * (σ 1 (ix 19)))) + 5)) 1) 1 (ix 19)) + 1)) wd ++ F) st_M_1 dX9_addKind_178 (fun H locs hw => ?_)
                  refine lv_iload hx hb dX9_addKind_179 (lv_at hl 1 rfl) ?_
                  cases hM
                  exact q_reti E hw dX9_addKind_181
              · replace hM := i_pos hM c17
                refine lv_bipush (v := (-6)) hx hb dX9_addKind_84 (by decide) ?_
                cases hM
                exact q_reti E hw dX9_addKind_86
            · first | exact absurd (by decide) c16 | exact absurd c16 (by decide)
def f_X9_kindCount    (σ : Sg) (wd : Int64) : Option (Int32) := some (σ 1 (ix 19))
set_option maxRecDepth 100000 in
set_option maxHeartbeats 4000000 in
theorem c_X9_kindCount (l : Launch) (D : va_G) (cA : Nat → ClassId) (tS : Nat → Nat) (A : Nat → Prop) (h : Nat → Nat) (F : va_W) (σ : Sg) (wd : Int64) (r0 : Int32) (hM : f_X9_kindCount σ wd = some r0) : Ct l yX9_kindCount (Cond.code yX9_kindCount cX9_kindCount 1 (some .int) :: bw) 0 0 D cA tS A [.ref (h 0)] (wM cA h σ wd ++ F) (some (.int r0)) (wM cA h σ wd ++ F) := by
  refine ct_of (by decide +kernel) (Nat.le_of_ble_eq_true rfl) ?_
  intro p e s m below meth c E hw ls hl
  replace E : Ev p cX9_kindCount 1 (some .int) RX9 (Cond.code yX9_kindCount cX9_kindCount 1 (some .int) :: bw) D cA tS A s m _ meth c := E
  replace hl : lv_has ls 1 [(0, .ref (h 0))] := hl
  have hx := E.1.1
  have hb := E.1.2.1
  unfold f_X9_kindCount at hM
  refine lv_aload_n hx hb dX9_kindCount_0 rfl (lv_at hl 0 rfl) ?_
  refine q_get (C := RX9) (T := TX9) (N := 17) (ci := 9) E (fun w h => List.mem_cons_of_mem _ (inX9 w h)) hw 0 rfl rfl 0 (by decide) (List.mem_cons_of_mem _ tb_1157) (v := .ref (h 1)) rfl dX9_kindCount_1 ?_
  refine lv_bipush (v := 19) hx hb dX9_kindCount_4 (by decide) ?_
  refine q_ald E hw 1 (n := 4619) rfl (by decide +kernel) (x := (σ 1 (ix 19))) rfl dX9_kindCount_6 ?_
  cases hM
  exact q_reti E hw dX9_kindCount_7
def f_X9_setAgents (N : Nat)   (x1 : Int32) (x2 : Int32) (σ : Sg) (wd : Int64) : Option (Int32 × Sg) := (f_X9_change N 1 x1 x2 0 0 σ wd).bind (fun p1 => some (p1.1, p1.2))
set_option maxRecDepth 100000 in
set_option maxHeartbeats 4000000 in
theorem c_X9_setAgents (l : Launch) (D : va_G) (cA : Nat → ClassId) (tS : Nat → Nat) (A : Nat → Prop) (h : Nat → Nat) (F : va_W) (N : Nat) (x1 : Int32) (x2 : Int32) (σ : Sg) (wd : Int64) (r0 : Int32) (s0 : Sg) (hM : f_X9_setAgents N x1 x2 σ wd = some (r0, s0)) : Ct l yX9_setAgents (Cond.code yX9_setAgents cX9_setAgents 3 (some .int) :: bw) 7 166 D cA tS A [.ref (h 0), .int x1, .int x2] (wM cA h σ wd ++ F) (some (.int r0)) (wM cA h s0 wd ++ F) := by
  refine ct_of (by decide +kernel) (Nat.le_of_ble_eq_true rfl) ?_
  intro p e s m below meth c E hw ls hl
  replace E : Ev p cX9_setAgents 3 (some .int) RX9 (Cond.code yX9_setAgents cX9_setAgents 3 (some .int) :: bw) D cA tS A s m _ meth c := E
  replace hl : lv_has ls 3 [(0, .ref (h 0)), (1, .int x1), (2, .int x2)] := hl
  have hx := E.1.1
  have hb := E.1.2.1
  unfold f_X9_setAgents at hM
  refine lv_aload_n hx hb dX9_setAgents_0 rfl (lv_at hl 0 rfl) ?_
  refine lv_iconst (v := 1) hx hb dX9_setAgents_1 (by decide) ?_
  refine lv_iload_n hx hb dX9_setAgents_2 rfl (lv_at hl 1 rfl) ?_
  refine lv_iload_n hx hb dX9_setAgents_3 rfl (lv_at hl 2 rfl) ?_
  refine lv_iconst (v := 0) hx hb dX9_setAgents_4 (by decide) ?_
  refine lv_iconst (v := 0) hx hb dX9_setAgents_5 (by decide) ?_
  obtain ⟨p1, h2, hM⟩ := b_some hM
  refine q_cv (As := [.int 1, .int x1, .int x2, .int 0, .int 0]) (rest := []) E hw hl (c_X9_change l D cA tS A h F N 1 x1 x2 0 0 σ wd p1.1 p1.2 h2) 5 (bwV bw_c tb_1213 tb_1215 tb_45 tb_112 tb_1216) rfl (by decide +kernel) ⟨Nat.le_of_ble_eq_true rfl, Nat.le_of_ble_eq_true rfl⟩ 0 9 (T := TX9) (N := 17) rfl rfl rfl rfl (Nat.le_of_ble_eq_true rfl) ⟨Nat.zero_le _, Nat.zero_le _⟩ dX9_setAgents_6 (fun H locs hw => ?_)
  cases hM
  exact q_reti E hw dX9_setAgents_9
def f_X9_agents    (x1 : Int32) (σ : Sg) (wd : Int64) : Option (Int32) := (f_X9_isLevel x1).bind (fun p1 => (if p1 = 0 then some (-4) else if ib (15 + x1) 4619 then some (σ 1 (ix (15 + x1))) else none))
set_option maxRecDepth 100000 in
set_option maxHeartbeats 4000000 in
theorem c_X9_agents (l : Launch) (D : va_G) (cA : Nat → ClassId) (tS : Nat → Nat) (A : Nat → Prop) (h : Nat → Nat) (F : va_W) (x1 : Int32) (σ : Sg) (wd : Int64) (r0 : Int32) (hM : f_X9_agents x1 σ wd = some r0) : Ct l yX9_agents (Cond.code yX9_agents cX9_agents 2 (some .int) :: bw) 2 42 D cA tS A [.ref (h 0), .int x1] (wM cA h σ wd ++ F) (some (.int r0)) (wM cA h σ wd ++ F) := by
  refine ct_of (by decide +kernel) (Nat.le_of_ble_eq_true rfl) ?_
  intro p e s m below meth c E hw ls hl
  replace E : Ev p cX9_agents 2 (some .int) RX9 (Cond.code yX9_agents cX9_agents 2 (some .int) :: bw) D cA tS A s m _ meth c := E
  replace hl : lv_has ls 2 [(0, .ref (h 0)), (1, .int x1)] := hl
  have hx := E.1.1
  have hb := E.1.2.1
  unfold f_X9_agents at hM
  refine lv_iload_n hx hb dX9_agents_0 rfl (lv_at hl 1 rfl) ?_
  obtain ⟨p1, h2, hM⟩ := b_some hM
  refine q_cs (As := [.int x1]) (rest := []) E hw hl (c_X9_isLevel l D cA tS A (wM cA h σ wd ++ F) x1 p1 h2) 1 (bwS bw_c tb_1230 tb_1231 tb_112 tb_1232) rfl (by decide +kernel) ⟨Nat.le_of_ble_eq_true rfl, Nat.le_of_ble_eq_true rfl⟩ rfl rfl (Nat.le_of_ble_eq_true rfl) ⟨Nat.zero_le _, Nat.zero_le _⟩ dX9_agents_1 (fun H locs hw => ?_)
  refine lv_if_eq (tgt := 19) hx hb dX9_agents_4 (by decide) (fun c3 => ?_) (fun c3 => ?_)
  · replace hM := i_pos hM c3
    refine lv_bipush (v := (-4)) hx hb dX9_agents_19 (by decide) ?_
    cases hM
    exact q_reti E hw dX9_agents_21
  · replace hM := i_neg hM c3
    refine lv_aload_n hx hb dX9_agents_7 rfl (lv_at hl 0 rfl) ?_
    refine q_get (C := RX9) (T := TX9) (N := 17) (ci := 9) E (fun w h => List.mem_cons_of_mem _ (inX9 w h)) hw 0 rfl rfl 0 (by decide) (List.mem_cons_of_mem _ tb_1157) (v := .ref (h 1)) rfl dX9_agents_8 ?_
    refine lv_bipush (v := 15) hx hb dX9_agents_11 (by decide) ?_
    refine lv_iload_n hx hb dX9_agents_13 rfl (lv_at hl 1 rfl) ?_
    refine lv_iadd hx hb dX9_agents_14 ?_
    obtain ⟨g4, hM⟩ := g_some hM
    refine q_ald E hw 1 (n := 4619) rfl g4 (x := (σ 1 (ix (15 + x1)))) rfl dX9_agents_15 ?_
    refine lv_goto (tgt := 21) hx hb dX9_agents_16 (by decide) ?_
    cases hM
    exact q_reti E hw dX9_agents_21
def f_X9_report (N : Nat)   (x1 : Int32) (x2 : Int32) (x3 : Int32) (x4 : Int32) (σ : Sg) (wd : Int64) : Option (Int32 × Sg) := (f_X9_change N 2 x1 x2 x3 x4 σ wd).bind (fun p1 => some (p1.1, p1.2))
set_option maxRecDepth 100000 in
set_option maxHeartbeats 4000000 in
theorem c_X9_report (l : Launch) (D : va_G) (cA : Nat → ClassId) (tS : Nat → Nat) (A : Nat → Prop) (h : Nat → Nat) (F : va_W) (N : Nat) (x1 : Int32) (x2 : Int32) (x3 : Int32) (x4 : Int32) (σ : Sg) (wd : Int64) (r0 : Int32) (s0 : Sg) (hM : f_X9_report N x1 x2 x3 x4 σ wd = some (r0, s0)) : Ct l yX9_report (Cond.code yX9_report cX9_report 5 (some .int) :: bw) 7 166 D cA tS A [.ref (h 0), .int x1, .int x2, .int x3, .int x4] (wM cA h σ wd ++ F) (some (.int r0)) (wM cA h s0 wd ++ F) := by
  refine ct_of (by decide +kernel) (Nat.le_of_ble_eq_true rfl) ?_
  intro p e s m below meth c E hw ls hl
  replace E : Ev p cX9_report 5 (some .int) RX9 (Cond.code yX9_report cX9_report 5 (some .int) :: bw) D cA tS A s m _ meth c := E
  replace hl : lv_has ls 5 [(0, .ref (h 0)), (1, .int x1), (2, .int x2), (3, .int x3), (4, .int x4)] := hl
  have hx := E.1.1
  have hb := E.1.2.1
  unfold f_X9_report at hM
  refine lv_aload_n hx hb dX9_report_0 rfl (lv_at hl 0 rfl) ?_
  refine lv_iconst (v := 2) hx hb dX9_report_1 (by decide) ?_
  refine lv_iload_n hx hb dX9_report_2 rfl (lv_at hl 1 rfl) ?_
  refine lv_iload_n hx hb dX9_report_3 rfl (lv_at hl 2 rfl) ?_
  refine lv_iload_n hx hb dX9_report_4 rfl (lv_at hl 3 rfl) ?_
  refine lv_iload hx hb dX9_report_5 (lv_at hl 4 rfl) ?_
  obtain ⟨p1, h2, hM⟩ := b_some hM
  refine q_cv (As := [.int 2, .int x1, .int x2, .int x3, .int x4]) (rest := []) E hw hl (c_X9_change l D cA tS A h F N 2 x1 x2 x3 x4 σ wd p1.1 p1.2 h2) 5 (bwV bw_c tb_1213 tb_1215 tb_45 tb_112 tb_1216) rfl (by decide +kernel) ⟨Nat.le_of_ble_eq_true rfl, Nat.le_of_ble_eq_true rfl⟩ 0 9 (T := TX9) (N := 17) rfl rfl rfl rfl (Nat.le_of_ble_eq_true rfl) ⟨Nat.zero_le _, Nat.zero_le _⟩ dX9_report_7 (fun H locs hw => ?_)
  cases hM
  exact q_reti E hw dX9_report_10
def f_X9_pause (N : Nat)   (x1 : Int32) (σ : Sg) (wd : Int64) : Option (Int32 × Sg) := (f_X9_change N 3 x1 0 0 0 σ wd).bind (fun p1 => some (p1.1, p1.2))
set_option maxRecDepth 100000 in
set_option maxHeartbeats 4000000 in
theorem c_X9_pause (l : Launch) (D : va_G) (cA : Nat → ClassId) (tS : Nat → Nat) (A : Nat → Prop) (h : Nat → Nat) (F : va_W) (N : Nat) (x1 : Int32) (σ : Sg) (wd : Int64) (r0 : Int32) (s0 : Sg) (hM : f_X9_pause N x1 σ wd = some (r0, s0)) : Ct l yX9_pause (Cond.code yX9_pause cX9_pause 2 (some .int) :: bw) 7 166 D cA tS A [.ref (h 0), .int x1] (wM cA h σ wd ++ F) (some (.int r0)) (wM cA h s0 wd ++ F) := by
  refine ct_of (by decide +kernel) (Nat.le_of_ble_eq_true rfl) ?_
  intro p e s m below meth c E hw ls hl
  replace E : Ev p cX9_pause 2 (some .int) RX9 (Cond.code yX9_pause cX9_pause 2 (some .int) :: bw) D cA tS A s m _ meth c := E
  replace hl : lv_has ls 2 [(0, .ref (h 0)), (1, .int x1)] := hl
  have hx := E.1.1
  have hb := E.1.2.1
  unfold f_X9_pause at hM
  refine lv_aload_n hx hb dX9_pause_0 rfl (lv_at hl 0 rfl) ?_
  refine lv_iconst (v := 3) hx hb dX9_pause_1 (by decide) ?_
  refine lv_iload_n hx hb dX9_pause_2 rfl (lv_at hl 1 rfl) ?_
  refine lv_iconst (v := 0) hx hb dX9_pause_3 (by decide) ?_
  refine lv_iconst (v := 0) hx hb dX9_pause_4 (by decide) ?_
  refine lv_iconst (v := 0) hx hb dX9_pause_5 (by decide) ?_
  obtain ⟨p1, h2, hM⟩ := b_some hM
  refine q_cv (As := [.int 3, .int x1, .int 0, .int 0, .int 0]) (rest := []) E hw hl (c_X9_change l D cA tS A h F N 3 x1 0 0 0 σ wd p1.1 p1.2 h2) 5 (bwV bw_c tb_1213 tb_1215 tb_45 tb_112 tb_1216) rfl (by decide +kernel) ⟨Nat.le_of_ble_eq_true rfl, Nat.le_of_ble_eq_true rfl⟩ 0 9 (T := TX9) (N := 17) rfl rfl rfl rfl (Nat.le_of_ble_eq_true rfl) ⟨Nat.zero_le _, Nat.zero_le _⟩ dX9_pause_6 (fun H locs hw => ?_)
  cases hM
  exact q_reti E hw dX9_pause_9
def f_X9_resume (N : Nat)   (x1 : Int32) (σ : Sg) (wd : Int64) : Option (Int32 × Sg) := (f_X9_change N 4 x1 0 0 0 σ wd).bind (fun p1 => some (p1.1, p1.2))
set_option maxRecDepth 100000 in
set_option maxHeartbeats 4000000 in
theorem c_X9_resume (l : Launch) (D : va_G) (cA : Nat → ClassId) (tS : Nat → Nat) (A : Nat → Prop) (h : Nat → Nat) (F : va_W) (N : Nat) (x1 : Int32) (σ : Sg) (wd : Int64) (r0 : Int32) (s0 : Sg) (hM : f_X9_resume N x1 σ wd = some (r0, s0)) : Ct l yX9_resume (Cond.code yX9_resume cX9_resume 2 (some .int) :: bw) 7 166 D cA tS A [.ref (h 0), .int x1] (wM cA h σ wd ++ F) (some (.int r0)) (wM cA h s0 wd ++ F) := by
  refine ct_of (by decide +kernel) (Nat.le_of_ble_eq_true rfl) ?_
  intro p e s m below meth c E hw ls hl
  replace E : Ev p cX9_resume 2 (some .int) RX9 (Cond.code yX9_resume cX9_resume 2 (some .int) :: bw) D cA tS A s m _ meth c := E
  replace hl : lv_has ls 2 [(0, .ref (h 0)), (1, .int x1)] := hl
  have hx := E.1.1
  have hb := E.1.2.1
  unfold f_X9_resume at hM
  refine lv_aload_n hx hb dX9_resume_0 rfl (lv_at hl 0 rfl) ?_
  refine lv_iconst (v := 4) hx hb dX9_resume_1 (by decide) ?_
  refine lv_iload_n hx hb dX9_resume_2 rfl (lv_at hl 1 rfl) ?_
  refine lv_iconst (v := 0) hx hb dX9_resume_3 (by decide) ?_
  refine lv_iconst (v := 0) hx hb dX9_resume_4 (by decide) ?_
  refine lv_iconst (v := 0) hx hb dX9_resume_5 (by decide) ?_
  obtain ⟨p1, h2, hM⟩ := b_some hM
  refine q_cv (As := [.int 4, .int x1, .int 0, .int 0, .int 0]) (rest := []) E hw hl (c_X9_change l D cA tS A h F N 4 x1 0 0 0 σ wd p1.1 p1.2 h2) 5 (bwV bw_c tb_1213 tb_1215 tb_45 tb_112 tb_1216) rfl (by decide +kernel) ⟨Nat.le_of_ble_eq_true rfl, Nat.le_of_ble_eq_true rfl⟩ 0 9 (T := TX9) (N := 17) rfl rfl rfl rfl (Nat.le_of_ble_eq_true rfl) ⟨Nat.zero_le _, Nat.zero_le _⟩ dX9_resume_6 (fun H locs hw => ?_)
  cases hM
  exact q_reti E hw dX9_resume_9
def f_X9_climb (N : Nat)   (x1 : Int32) (σ : Sg) (wd : Int64) : Option (Int32 × Sg) := (f_X9_change N 5 x1 0 0 0 σ wd).bind (fun p1 => some (p1.1, p1.2))
set_option maxRecDepth 100000 in
set_option maxHeartbeats 4000000 in
theorem c_X9_climb (l : Launch) (D : va_G) (cA : Nat → ClassId) (tS : Nat → Nat) (A : Nat → Prop) (h : Nat → Nat) (F : va_W) (N : Nat) (x1 : Int32) (σ : Sg) (wd : Int64) (r0 : Int32) (s0 : Sg) (hM : f_X9_climb N x1 σ wd = some (r0, s0)) : Ct l yX9_climb (Cond.code yX9_climb cX9_climb 2 (some .int) :: bw) 7 166 D cA tS A [.ref (h 0), .int x1] (wM cA h σ wd ++ F) (some (.int r0)) (wM cA h s0 wd ++ F) := by
  refine ct_of (by decide +kernel) (Nat.le_of_ble_eq_true rfl) ?_
  intro p e s m below meth c E hw ls hl
  replace E : Ev p cX9_climb 2 (some .int) RX9 (Cond.code yX9_climb cX9_climb 2 (some .int) :: bw) D cA tS A s m _ meth c := E
  replace hl : lv_has ls 2 [(0, .ref (h 0)), (1, .int x1)] := hl
  have hx := E.1.1
  have hb := E.1.2.1
  unfold f_X9_climb at hM
  refine lv_aload_n hx hb dX9_climb_0 rfl (lv_at hl 0 rfl) ?_
  refine lv_iconst (v := 5) hx hb dX9_climb_1 (by decide) ?_
  refine lv_iload_n hx hb dX9_climb_2 rfl (lv_at hl 1 rfl) ?_
  refine lv_iconst (v := 0) hx hb dX9_climb_3 (by decide) ?_
  refine lv_iconst (v := 0) hx hb dX9_climb_4 (by decide) ?_
  refine lv_iconst (v := 0) hx hb dX9_climb_5 (by decide) ?_
  obtain ⟨p1, h2, hM⟩ := b_some hM
  refine q_cv (As := [.int 5, .int x1, .int 0, .int 0, .int 0]) (rest := []) E hw hl (c_X9_change l D cA tS A h F N 5 x1 0 0 0 σ wd p1.1 p1.2 h2) 5 (bwV bw_c tb_1213 tb_1215 tb_45 tb_112 tb_1216) rfl (by decide +kernel) ⟨Nat.le_of_ble_eq_true rfl, Nat.le_of_ble_eq_true rfl⟩ 0 9 (T := TX9) (N := 17) rfl rfl rfl rfl (Nat.le_of_ble_eq_true rfl) ⟨Nat.zero_le _, Nat.zero_le _⟩ dX9_climb_6 (fun H locs hw => ?_)
  cases hM
  exact q_reti E hw dX9_climb_9
def f_X9_solve (N : Nat)   (x1 : Int32) (σ : Sg) (wd : Int64) : Option (Int32 × Sg) := (f_X9_change N 6 x1 0 0 0 σ wd).bind (fun p1 => some (p1.1, p1.2))
set_option maxRecDepth 100000 in
set_option maxHeartbeats 4000000 in
theorem c_X9_solve (l : Launch) (D : va_G) (cA : Nat → ClassId) (tS : Nat → Nat) (A : Nat → Prop) (h : Nat → Nat) (F : va_W) (N : Nat) (x1 : Int32) (σ : Sg) (wd : Int64) (r0 : Int32) (s0 : Sg) (hM : f_X9_solve N x1 σ wd = some (r0, s0)) : Ct l yX9_solve (Cond.code yX9_solve cX9_solve 2 (some .int) :: bw) 7 166 D cA tS A [.ref (h 0), .int x1] (wM cA h σ wd ++ F) (some (.int r0)) (wM cA h s0 wd ++ F) := by
  refine ct_of (by decide +kernel) (Nat.le_of_ble_eq_true rfl) ?_
  intro p e s m below meth c E hw ls hl
  replace E : Ev p cX9_solve 2 (some .int) RX9 (Cond.code yX9_solve cX9_solve 2 (some .int) :: bw) D cA tS A s m _ meth c := E
  replace hl : lv_has ls 2 [(0, .ref (h 0)), (1, .int x1)] := hl
  have hx := E.1.1
  have hb := E.1.2.1
  unfold f_X9_solve at hM
  refine lv_aload_n hx hb dX9_solve_0 rfl (lv_at hl 0 rfl) ?_
  refine lv_bipush (v := 6) hx hb dX9_solve_1 (by decide) ?_
  refine lv_iload_n hx hb dX9_solve_3 rfl (lv_at hl 1 rfl) ?_
  refine lv_iconst (v := 0) hx hb dX9_solve_4 (by decide) ?_
  refine lv_iconst (v := 0) hx hb dX9_solve_5 (by decide) ?_
  refine lv_iconst (v := 0) hx hb dX9_solve_6 (by decide) ?_
  obtain ⟨p1, h2, hM⟩ := b_some hM
  refine q_cv (As := [.int 6, .int x1, .int 0, .int 0, .int 0]) (rest := []) E hw hl (c_X9_change l D cA tS A h F N 6 x1 0 0 0 σ wd p1.1 p1.2 h2) 5 (bwV bw_c tb_1213 tb_1215 tb_45 tb_112 tb_1216) rfl (by decide +kernel) ⟨Nat.le_of_ble_eq_true rfl, Nat.le_of_ble_eq_true rfl⟩ 0 9 (T := TX9) (N := 17) rfl rfl rfl rfl (Nat.le_of_ble_eq_true rfl) ⟨Nat.zero_le _, Nat.zero_le _⟩ dX9_solve_7 (fun H locs hw => ?_)
  cases hM
  exact q_reti E hw dX9_solve_10
def f_X9_reopen (N : Nat)   (x1 : Int32) (σ : Sg) (wd : Int64) : Option (Int32 × Sg) := (f_X9_change N 7 x1 0 0 0 σ wd).bind (fun p1 => some (p1.1, p1.2))
set_option maxRecDepth 100000 in
set_option maxHeartbeats 4000000 in
theorem c_X9_reopen (l : Launch) (D : va_G) (cA : Nat → ClassId) (tS : Nat → Nat) (A : Nat → Prop) (h : Nat → Nat) (F : va_W) (N : Nat) (x1 : Int32) (σ : Sg) (wd : Int64) (r0 : Int32) (s0 : Sg) (hM : f_X9_reopen N x1 σ wd = some (r0, s0)) : Ct l yX9_reopen (Cond.code yX9_reopen cX9_reopen 2 (some .int) :: bw) 7 166 D cA tS A [.ref (h 0), .int x1] (wM cA h σ wd ++ F) (some (.int r0)) (wM cA h s0 wd ++ F) := by
  refine ct_of (by decide +kernel) (Nat.le_of_ble_eq_true rfl) ?_
  intro p e s m below meth c E hw ls hl
  replace E : Ev p cX9_reopen 2 (some .int) RX9 (Cond.code yX9_reopen cX9_reopen 2 (some .int) :: bw) D cA tS A s m _ meth c := E
  replace hl : lv_has ls 2 [(0, .ref (h 0)), (1, .int x1)] := hl
  have hx := E.1.1
  have hb := E.1.2.1
  unfold f_X9_reopen at hM
  refine lv_aload_n hx hb dX9_reopen_0 rfl (lv_at hl 0 rfl) ?_
  refine lv_bipush (v := 7) hx hb dX9_reopen_1 (by decide) ?_
  refine lv_iload_n hx hb dX9_reopen_3 rfl (lv_at hl 1 rfl) ?_
  refine lv_iconst (v := 0) hx hb dX9_reopen_4 (by decide) ?_
  refine lv_iconst (v := 0) hx hb dX9_reopen_5 (by decide) ?_
  refine lv_iconst (v := 0) hx hb dX9_reopen_6 (by decide) ?_
  obtain ⟨p1, h2, hM⟩ := b_some hM
  refine q_cv (As := [.int 7, .int x1, .int 0, .int 0, .int 0]) (rest := []) E hw hl (c_X9_change l D cA tS A h F N 7 x1 0 0 0 σ wd p1.1 p1.2 h2) 5 (bwV bw_c tb_1213 tb_1215 tb_45 tb_112 tb_1216) rfl (by decide +kernel) ⟨Nat.le_of_ble_eq_true rfl, Nat.le_of_ble_eq_true rfl⟩ 0 9 (T := TX9) (N := 17) rfl rfl rfl rfl (Nat.le_of_ble_eq_true rfl) ⟨Nat.zero_le _, Nat.zero_le _⟩ dX9_reopen_7 (fun H locs hw => ?_)
  cases hM
  exact q_reti E hw dX9_reopen_10
def f_X9_join (N : Nat)   (x1 : Int32) (x2 : Int32) (σ : Sg) (wd : Int64) : Option (Int32 × Sg) := (f_X9_change N 8 x1 x2 0 0 σ wd).bind (fun p1 => some (p1.1, p1.2))
set_option maxRecDepth 100000 in
set_option maxHeartbeats 4000000 in
theorem c_X9_join (l : Launch) (D : va_G) (cA : Nat → ClassId) (tS : Nat → Nat) (A : Nat → Prop) (h : Nat → Nat) (F : va_W) (N : Nat) (x1 : Int32) (x2 : Int32) (σ : Sg) (wd : Int64) (r0 : Int32) (s0 : Sg) (hM : f_X9_join N x1 x2 σ wd = some (r0, s0)) : Ct l yX9_join (Cond.code yX9_join cX9_join 3 (some .int) :: bw) 7 166 D cA tS A [.ref (h 0), .int x1, .int x2] (wM cA h σ wd ++ F) (some (.int r0)) (wM cA h s0 wd ++ F) := by
  refine ct_of (by decide +kernel) (Nat.le_of_ble_eq_true rfl) ?_
  intro p e s m below meth c E hw ls hl
  replace E : Ev p cX9_join 3 (some .int) RX9 (Cond.code yX9_join cX9_join 3 (some .int) :: bw) D cA tS A s m _ meth c := E
  replace hl : lv_has ls 3 [(0, .ref (h 0)), (1, .int x1), (2, .int x2)] := hl
  have hx := E.1.1
  have hb := E.1.2.1
  unfold f_X9_join at hM
  refine lv_aload_n hx hb dX9_join_0 rfl (lv_at hl 0 rfl) ?_
  refine lv_bipush (v := 8) hx hb dX9_join_1 (by decide) ?_
  refine lv_iload_n hx hb dX9_join_3 rfl (lv_at hl 1 rfl) ?_
  refine lv_iload_n hx hb dX9_join_4 rfl (lv_at hl 2 rfl) ?_
  refine lv_iconst (v := 0) hx hb dX9_join_5 (by decide) ?_
  refine lv_iconst (v := 0) hx hb dX9_join_6 (by decide) ?_
  obtain ⟨p1, h2, hM⟩ := b_some hM
  refine q_cv (As := [.int 8, .int x1, .int x2, .int 0, .int 0]) (rest := []) E hw hl (c_X9_change l D cA tS A h F N 8 x1 x2 0 0 σ wd p1.1 p1.2 h2) 5 (bwV bw_c tb_1213 tb_1215 tb_45 tb_112 tb_1216) rfl (by decide +kernel) ⟨Nat.le_of_ble_eq_true rfl, Nat.le_of_ble_eq_true rfl⟩ 0 9 (T := TX9) (N := 17) rfl rfl rfl rfl (Nat.le_of_ble_eq_true rfl) ⟨Nat.zero_le _, Nat.zero_le _⟩ dX9_join_7 (fun H locs hw => ?_)
  cases hM
  exact q_reti E hw dX9_join_10
def f_X9_part (N : Nat)   (x1 : Int32) (σ : Sg) (wd : Int64) : Option (Int32 × Sg) := (f_X9_change N 9 x1 0 0 0 σ wd).bind (fun p1 => some (p1.1, p1.2))
set_option maxRecDepth 100000 in
set_option maxHeartbeats 4000000 in
theorem c_X9_part (l : Launch) (D : va_G) (cA : Nat → ClassId) (tS : Nat → Nat) (A : Nat → Prop) (h : Nat → Nat) (F : va_W) (N : Nat) (x1 : Int32) (σ : Sg) (wd : Int64) (r0 : Int32) (s0 : Sg) (hM : f_X9_part N x1 σ wd = some (r0, s0)) : Ct l yX9_part (Cond.code yX9_part cX9_part 2 (some .int) :: bw) 7 166 D cA tS A [.ref (h 0), .int x1] (wM cA h σ wd ++ F) (some (.int r0)) (wM cA h s0 wd ++ F) := by
  refine ct_of (by decide +kernel) (Nat.le_of_ble_eq_true rfl) ?_
  intro p e s m below meth c E hw ls hl
  replace E : Ev p cX9_part 2 (some .int) RX9 (Cond.code yX9_part cX9_part 2 (some .int) :: bw) D cA tS A s m _ meth c := E
  replace hl : lv_has ls 2 [(0, .ref (h 0)), (1, .int x1)] := hl
  have hx := E.1.1
  have hb := E.1.2.1
  unfold f_X9_part at hM
  refine lv_aload_n hx hb dX9_part_0 rfl (lv_at hl 0 rfl) ?_
  refine lv_bipush (v := 9) hx hb dX9_part_1 (by decide) ?_
  refine lv_iload_n hx hb dX9_part_3 rfl (lv_at hl 1 rfl) ?_
  refine lv_iconst (v := 0) hx hb dX9_part_4 (by decide) ?_
  refine lv_iconst (v := 0) hx hb dX9_part_5 (by decide) ?_
  refine lv_iconst (v := 0) hx hb dX9_part_6 (by decide) ?_
  obtain ⟨p1, h2, hM⟩ := b_some hM
  refine q_cv (As := [.int 9, .int x1, .int 0, .int 0, .int 0]) (rest := []) E hw hl (c_X9_change l D cA tS A h F N 9 x1 0 0 0 σ wd p1.1 p1.2 h2) 5 (bwV bw_c tb_1213 tb_1215 tb_45 tb_112 tb_1216) rfl (by decide +kernel) ⟨Nat.le_of_ble_eq_true rfl, Nat.le_of_ble_eq_true rfl⟩ 0 9 (T := TX9) (N := 17) rfl rfl rfl rfl (Nat.le_of_ble_eq_true rfl) ⟨Nat.zero_le _, Nat.zero_le _⟩ dX9_part_7 (fun H locs hw => ?_)
  cases hM
  exact q_reti E hw dX9_part_10
def f_X9_setPriority (N : Nat)   (x1 : Int32) (x2 : Int32) (σ : Sg) (wd : Int64) : Option (Int32 × Sg) := (f_X9_change N 10 x1 x2 0 0 σ wd).bind (fun p1 => some (p1.1, p1.2))
set_option maxRecDepth 100000 in
set_option maxHeartbeats 4000000 in
theorem c_X9_setPriority (l : Launch) (D : va_G) (cA : Nat → ClassId) (tS : Nat → Nat) (A : Nat → Prop) (h : Nat → Nat) (F : va_W) (N : Nat) (x1 : Int32) (x2 : Int32) (σ : Sg) (wd : Int64) (r0 : Int32) (s0 : Sg) (hM : f_X9_setPriority N x1 x2 σ wd = some (r0, s0)) : Ct l yX9_setPriority (Cond.code yX9_setPriority cX9_setPriority 3 (some .int) :: bw) 7 166 D cA tS A [.ref (h 0), .int x1, .int x2] (wM cA h σ wd ++ F) (some (.int r0)) (wM cA h s0 wd ++ F) := by
  refine ct_of (by decide +kernel) (Nat.le_of_ble_eq_true rfl) ?_
  intro p e s m below meth c E hw ls hl
  replace E : Ev p cX9_setPriority 3 (some .int) RX9 (Cond.code yX9_setPriority cX9_setPriority 3 (some .int) :: bw) D cA tS A s m _ meth c := E
  replace hl : lv_has ls 3 [(0, .ref (h 0)), (1, .int x1), (2, .int x2)] := hl
  have hx := E.1.1
  have hb := E.1.2.1
  unfold f_X9_setPriority at hM
  refine lv_aload_n hx hb dX9_setPriority_0 rfl (lv_at hl 0 rfl) ?_
  refine lv_bipush (v := 10) hx hb dX9_setPriority_1 (by decide) ?_
  refine lv_iload_n hx hb dX9_setPriority_3 rfl (lv_at hl 1 rfl) ?_
  refine lv_iload_n hx hb dX9_setPriority_4 rfl (lv_at hl 2 rfl) ?_
  refine lv_iconst (v := 0) hx hb dX9_setPriority_5 (by decide) ?_
  refine lv_iconst (v := 0) hx hb dX9_setPriority_6 (by decide) ?_
  obtain ⟨p1, h2, hM⟩ := b_some hM
  refine q_cv (As := [.int 10, .int x1, .int x2, .int 0, .int 0]) (rest := []) E hw hl (c_X9_change l D cA tS A h F N 10 x1 x2 0 0 σ wd p1.1 p1.2 h2) 5 (bwV bw_c tb_1213 tb_1215 tb_45 tb_112 tb_1216) rfl (by decide +kernel) ⟨Nat.le_of_ble_eq_true rfl, Nat.le_of_ble_eq_true rfl⟩ 0 9 (T := TX9) (N := 17) rfl rfl rfl rfl (Nat.le_of_ble_eq_true rfl) ⟨Nat.zero_le _, Nat.zero_le _⟩ dX9_setPriority_7 (fun H locs hw => ?_)
  cases hM
  exact q_reti E hw dX9_setPriority_10
def f_X9_timeLeft    (x1 : Int32) (σ : Sg) (wd : Int64) : Option (Int32) := (f_X9_ofKind x1 1 σ wd).bind (fun p1 => (f_X9_ticket x1 8 σ wd).bind (fun p3 => some (p1 - p3)))
set_option maxRecDepth 100000 in
set_option maxHeartbeats 4000000 in
theorem c_X9_timeLeft (l : Launch) (D : va_G) (cA : Nat → ClassId) (tS : Nat → Nat) (A : Nat → Prop) (h : Nat → Nat) (F : va_W) (x1 : Int32) (σ : Sg) (wd : Int64) (r0 : Int32) (hM : f_X9_timeLeft x1 σ wd = some r0) : Ct l yX9_timeLeft (Cond.code yX9_timeLeft cX9_timeLeft 2 (some .int) :: bw) 2 44 D cA tS A [.ref (h 0), .int x1] (wM cA h σ wd ++ F) (some (.int r0)) (wM cA h σ wd ++ F) := by
  refine ct_of (by decide +kernel) (Nat.le_of_ble_eq_true rfl) ?_
  intro p e s m below meth c E hw ls hl
  replace E : Ev p cX9_timeLeft 2 (some .int) RX9 (Cond.code yX9_timeLeft cX9_timeLeft 2 (some .int) :: bw) D cA tS A s m _ meth c := E
  replace hl : lv_has ls 2 [(0, .ref (h 0)), (1, .int x1)] := hl
  have hx := E.1.1
  have hb := E.1.2.1
  unfold f_X9_timeLeft at hM
  refine lv_aload_n hx hb dX9_timeLeft_0 rfl (lv_at hl 0 rfl) ?_
  refine lv_iload_n hx hb dX9_timeLeft_1 rfl (lv_at hl 1 rfl) ?_
  refine lv_iconst (v := 1) hx hb dX9_timeLeft_2 (by decide) ?_
  obtain ⟨p1, h2, hM⟩ := b_some hM
  refine q_cv (As := [.int x1, .int 1]) (rest := []) E hw hl (c_X9_ofKind l D cA tS A h F x1 1 σ wd p1 h2) 2 (bwV bw_c tb_1415 tb_1417 tb_74 tb_112 tb_1418) rfl (by decide +kernel) ⟨Nat.le_of_ble_eq_true rfl, Nat.le_of_ble_eq_true rfl⟩ 0 9 (T := TX9) (N := 17) rfl rfl rfl rfl (Nat.le_of_ble_eq_true rfl) ⟨Nat.zero_le _, Nat.zero_le _⟩ dX9_timeLeft_3 (fun H locs hw => ?_)
  refine lv_aload_n hx hb dX9_timeLeft_6 rfl (lv_at hl 0 rfl) ?_
  refine lv_iload_n hx hb dX9_timeLeft_7 rfl (lv_at hl 1 rfl) ?_
  refine lv_bipush (v := 8) hx hb dX9_timeLeft_8 (by decide) ?_
  obtain ⟨p3, h4, hM⟩ := b_some hM
  refine q_cv (As := [.int x1, .int 8]) (rest := [.int p1]) E hw hl (c_X9_ticket l D cA tS A h F x1 8 σ wd p3 h4) 2 (bwV bw_c tb_1253 tb_1255 tb_52 tb_112 tb_1256) rfl (by decide +kernel) ⟨Nat.le_of_ble_eq_true rfl, Nat.le_of_ble_eq_true rfl⟩ 0 9 (T := TX9) (N := 17) rfl rfl rfl rfl (Nat.le_of_ble_eq_true rfl) ⟨Nat.zero_le _, Nat.zero_le _⟩ dX9_timeLeft_10 (fun H locs hw => ?_)
  refine lv_isub hx hb dX9_timeLeft_13 ?_
  cases hM
  exact q_reti E hw dX9_timeLeft_14
def f_X9_mostUrgent_4 (N : Nat)   : Nat → Int32 → Int32 → Int32 → Sg → Int64 → Option (Int32)
  | 0, _, _, _, _, _ => none
  | n + 1, x1, x2, x3, σ, wd => (if (σ 1 (ix 56)) ≤ x3 then some x2 else (f_X9_is x3 0 σ wd).bind (fun p2 => (if p2 = 0 then f_X9_mostUrgent_4 N n x1 x2 (x3 + 1) σ wd else (f_X9_ticket x3 4 σ wd).bind (fun p5 => (if p5 = x1 then (if x2 = (-1) then f_X9_mostUrgent_4 N n x1 x3 (x3 + 1) σ wd else (f_X9_ticket x3 3 σ wd).bind (fun p9 => (f_X9_ticket x2 3 σ wd).bind (fun p11 => (if p9 = p11 then (f_X9_timeLeft x3 σ wd).bind (fun p14 => (f_X9_timeLeft x2 σ wd).bind (fun p16 => (if p16 ≤ p14 then f_X9_mostUrgent_4 N n x1 x2 (x3 + 1) σ wd else f_X9_mostUrgent_4 N n x1 x3 (x3 + 1) σ wd))) else (f_X9_ticket x3 3 σ wd).bind (fun p19 => (f_X9_ticket x2 3 σ wd).bind (fun p21 => (if p19 ≤ p21 then f_X9_mostUrgent_4 N n x1 x2 (x3 + 1) σ wd else f_X9_mostUrgent_4 N n x1 x3 (x3 + 1) σ wd))))))) else f_X9_mostUrgent_4 N n x1 x2 (x3 + 1) σ wd)))))
set_option maxRecDepth 100000 in
set_option maxHeartbeats 4000000 in
theorem s_X9_mostUrgent_4 (l : Launch) (D : va_G) (cA : Nat → ClassId) (tS : Nat → Nat) (A : Nat → Prop) (h : Nat → Nat) (F : va_W) (N : Nat) {p : Program} {e : Env} {s : State} {m : MethodId} {args : Array Value} {below : List Frame} {meth : Method} {c : Code} (E : Ev p cX9_mostUrgent 4 (some .int) RX9 (Cond.code yX9_mostUrgent cX9_mostUrgent 4 (some .int) :: bw) D cA tS A s m args meth c) : ∀ (n : Nat) (x1 : Int32) (x2 : Int32) (x3 : Int32) (σ : Sg) (wd : Int64) (r0 : Int32) (hM : f_X9_mostUrgent_4 N n x1 x2 x3 σ wd = some r0) (H : Heap) (locs : List Loc) (hw : Wd D A (wM cA h σ wd ++ F) s.heap H locs) (ls : Array Slot) (hl : lv_has ls 4 [(0, .ref (h 0)), (1, .int x1), (2, .int x2), (3, .int x3)]), W p l e ({ frames := 3, cells := 0, slots := 0, locals := 65 } : Room) s m args below meth c H locs 0 0 (MQ below (QW D A (some (.int r0)) (wM cA h σ wd ++ F)) args s 0 0 A) (F0 m 4 ls []) := by
  have hx := E.1.1
  have hb := E.1.2.1
  intro n
  induction n with
  | zero =>
    intro x1 x2 x3 σ wd r0 hM
    cases hM
  | succ n ih =>
    intro x1 x2 x3 σ wd r0 hM H locs hw ls hl
    rw [f_X9_mostUrgent_4] at hM
    refine lv_iload_n hx hb dX9_mostUrgent_4 rfl (lv_at hl 3 rfl) ?_
    refine lv_aload_n hx hb dX9_mostUrgent_5 rfl (lv_at hl 0 rfl) ?_
    refine q_get (C := RX9) (T := TX9) (N := 17) (ci := 9) E (fun w h => List.mem_cons_of_mem _ (inX9 w h)) hw 0 rfl rfl 0 (by decide) (List.mem_cons_of_mem _ tb_1157) (v := .ref (h 1)) rfl dX9_mostUrgent_6 ?_
    refine lv_bipush (v := 56) hx hb dX9_mostUrgent_9 (by decide) ?_
    refine q_ald E hw 1 (n := 4619) rfl (by decide +kernel) (x := (σ 1 (ix 56))) rfl dX9_mostUrgent_11 ?_
    refine lv_icmp_ge (tgt := 111) hx hb dX9_mostUrgent_12 (by decide) (fun c1 => ?_) (fun c1 => ?_)
    · replace hM := i_pos hM c1
      refine lv_iload_n hx hb dX9_mostUrgent_111 rfl (lv_at hl 2 rfl) ?_
      cases hM
      exact q_reti E hw dX9_mostUrgent_112
    · replace hM := i_neg hM c1
      refine lv_aload_n hx hb dX9_mostUrgent_15 rfl (lv_at hl 0 rfl) ?_
      refine lv_iload_n hx hb dX9_mostUrgent_16 rfl (lv_at hl 3 rfl) ?_
      refine lv_iconst (v := 0) hx hb dX9_mostUrgent_17 (by decide) ?_
      obtain ⟨p2, h3, hM⟩ := b_some hM
      refine q_cv (As := [.int x3, .int 0]) (rest := []) E hw hl (c_X9_is l D cA tS A h F x3 0 σ wd p2 h3) 2 (bwV bw_c tb_1261 tb_1263 tb_54 tb_112 tb_1264) rfl (by decide +kernel) ⟨Nat.le_of_ble_eq_true rfl, Nat.le_of_ble_eq_true rfl⟩ 0 9 (T := TX9) (N := 17) rfl rfl rfl rfl (Nat.le_of_ble_eq_true rfl) ⟨Nat.zero_le _, Nat.zero_le _⟩ dX9_mostUrgent_18 (fun H locs hw => ?_)
      refine lv_if_eq (tgt := 105) hx hb dX9_mostUrgent_21 (by decide) (fun c4 => ?_) (fun c4 => ?_)
      · replace hM := i_pos hM c4
        refine lv_iinc (v := (x3 + 1)) (lv' := [(3, .int (x3 + 1)), (0, .ref (h 0)), (1, .int x1), (2, .int x2)]) hx hb dX9_mostUrgent_105 hl (k := 3) rfl rfl (by decide) rfl (fun ls hl => ?_)
        refine lv_goto (tgt := 4) hx hb dX9_mostUrgent_108 (by decide) ?_
        exact ih _ _ _ _ _ _ hM _ _ hw _ (lv_sub hl [1, 2, 3, 0] rfl)
      · replace hM := i_neg hM c4
        refine lv_aload_n hx hb dX9_mostUrgent_24 rfl (lv_at hl 0 rfl) ?_
        refine lv_iload_n hx hb dX9_mostUrgent_25 rfl (lv_at hl 3 rfl) ?_
        refine lv_iconst (v := 4) hx hb dX9_mostUrgent_26 (by decide) ?_
        obtain ⟨p5, h6, hM⟩ := b_some hM
        refine q_cv (As := [.int x3, .int 4]) (rest := []) E hw hl (c_X9_ticket l D cA tS A h F x3 4 σ wd p5 h6) 2 (bwV bw_c tb_1253 tb_1255 tb_52 tb_112 tb_1256) rfl (by decide +kernel) ⟨Nat.le_of_ble_eq_true rfl, Nat.le_of_ble_eq_true rfl⟩ 0 9 (T := TX9) (N := 17) rfl rfl rfl rfl (Nat.le_of_ble_eq_true rfl) ⟨Nat.zero_le _, Nat.zero_le _⟩ dX9_mostUrgent_27 (fun H locs hw => ?_)
        refine lv_iload_n hx hb dX9_mostUrgent_30 rfl (lv_at hl 1 rfl) ?_
        refine lv_icmp_eq (tgt := 37) hx hb dX9_mostUrgent_31 (by decide) (fun c7 => ?_) (fun c7 => ?_)
        · replace hM := i_pos hM c7
          refine lv_iload_n hx hb dX9_mostUrgent_37 rfl (lv_at hl 2 rfl) ?_
          refine lv_iconst (v := (-1)) hx hb dX9_mostUrgent_38 (by decide) ?_
          refine lv_icmp_ne (tgt := 47) hx hb dX9_mostUrgent_39 (by decide) (fun c8 => ?_) (fun c8 => ?_)
          · replace hM := i_neg hM c8
            refine lv_aload_n hx hb dX9_mostUrgent_47 rfl (lv_at hl 0 rfl) ?_
            refine lv_iload_n hx hb dX9_mostUrgent_48 rfl (lv_at hl 3 rfl) ?_
            refine lv_iconst (v := 3) hx hb dX9_mostUrgent_49 (by decide) ?_
            obtain ⟨p9, h10, hM⟩ := b_some hM
            refine q_cv (As := [.int x3, .int 3]) (rest := []) E hw hl (c_X9_ticket l D cA tS A h F x3 3 σ wd p9 h10) 2 (bwV bw_c tb_1253 tb_1255 tb_52 tb_112 tb_1256) rfl (by decide +kernel) ⟨Nat.le_of_ble_eq_true rfl, Nat.le_of_ble_eq_true rfl⟩ 0 9 (T := TX9) (N := 17) rfl rfl rfl rfl (Nat.le_of_ble_eq_true rfl) ⟨Nat.zero_le _, Nat.zero_le _⟩ dX9_mostUrgent_50 (fun H locs hw => ?_)
            refine lv_aload_n hx hb dX9_mostUrgent_53 rfl (lv_at hl 0 rfl) ?_
            refine lv_iload_n hx hb dX9_mostUrgent_54 rfl (lv_at hl 2 rfl) ?_
            refine lv_iconst (v := 3) hx hb dX9_mostUrgent_55 (by decide) ?_
            obtain ⟨p11, h12, hM⟩ := b_some hM
            refine q_cv (As := [.int x2, .int 3]) (rest := [.int p9]) E hw hl (c_X9_ticket l D cA tS A h F x2 3 σ wd p11 h12) 2 (bwV bw_c tb_1253 tb_1255 tb_52 tb_112 tb_1256) rfl (by decide +kernel) ⟨Nat.le_of_ble_eq_true rfl, Nat.le_of_ble_eq_true rfl⟩ 0 9 (T := TX9) (N := 17) rfl rfl rfl rfl (Nat.le_of_ble_eq_true rfl) ⟨Nat.zero_le _, Nat.zero_le _⟩ dX9_mostUrgent_56 (fun H locs hw => ?_)
            refine lv_icmp_eq (tgt := 86) hx hb dX9_mostUrgent_59 (by decide) (fun c13 => ?_) (fun c13 => ?_)
            · replace hM := i_pos hM c13
              refine lv_aload_n hx hb dX9_mostUrgent_86 rfl (lv_at hl 0 rfl) ?_
              refine lv_iload_n hx hb dX9_mostUrgent_87 rfl (lv_at hl 3 rfl) ?_
              obtain ⟨p14, h15, hM⟩ := b_some hM
              refine q_cv (As := [.int x3]) (rest := []) E hw hl (c_X9_timeLeft l D cA tS A h F x3 σ wd p14 h15) 1 (bwV bw_c tb_1411 tb_1413 tb_73 tb_112 tb_1414) rfl (by decide +kernel) ⟨Nat.le_of_ble_eq_true rfl, Nat.le_of_ble_eq_true rfl⟩ 0 9 (T := TX9) (N := 17) rfl rfl rfl rfl (Nat.le_of_ble_eq_true rfl) ⟨Nat.zero_le _, Nat.zero_le _⟩ dX9_mostUrgent_88 (fun H locs hw => ?_)
              refine lv_aload_n hx hb dX9_mostUrgent_91 rfl (lv_at hl 0 rfl) ?_
              refine lv_iload_n hx hb dX9_mostUrgent_92 rfl (lv_at hl 2 rfl) ?_
              obtain ⟨p16, h17, hM⟩ := b_some hM
              refine q_cv (As := [.int x2]) (rest := [.int p14]) E hw hl (c_X9_timeLeft l D cA tS A h F x2 σ wd p16 h17) 1 (bwV bw_c tb_1411 tb_1413 tb_73 tb_112 tb_1414) rfl (by decide +kernel) ⟨Nat.le_of_ble_eq_true rfl, Nat.le_of_ble_eq_true rfl⟩ 0 9 (T := TX9) (N := 17) rfl rfl rfl rfl (Nat.le_of_ble_eq_true rfl) ⟨Nat.zero_le _, Nat.zero_le _⟩ dX9_mostUrgent_93 (fun H locs hw => ?_)
              refine lv_icmp_ge (tgt := 103) hx hb dX9_mostUrgent_96 (by decide) (fun c18 => ?_) (fun c18 => ?_)
              · replace hM := i_pos hM c18
                refine lv_iload_n hx hb dX9_mostUrgent_103 rfl (lv_at hl 2 rfl) ?_
                refine lv_istore_n (lv' := [(2, .int x2), (0, .ref (h 0)), (1, .int x1), (3, .int x3)]) hx hb dX9_mostUrgent_104 rfl hl (by decide) rfl (fun ls hl => ?_)
                refine lv_iinc (v := (x3 + 1)) (lv' := [(3, .int (x3 + 1)), (2, .int x2), (0, .ref (h 0)), (1, .int x1)]) hx hb dX9_mostUrgent_105 hl (k := 3) rfl rfl (by decide) rfl (fun ls hl => ?_)
                refine lv_goto (tgt := 4) hx hb dX9_mostUrgent_108 (by decide) ?_
                exact ih _ _ _ _ _ _ hM _ _ hw _ (lv_sub hl [2, 3, 1, 0] rfl)
              · replace hM := i_neg hM c18
                refine lv_iload_n hx hb dX9_mostUrgent_99 rfl (lv_at hl 3 rfl) ?_
                refine lv_goto (tgt := 104) hx hb dX9_mostUrgent_100 (by decide) ?_
                refine lv_istore_n (lv' := [(2, .int x3), (0, .ref (h 0)), (1, .int x1), (3, .int x3)]) hx hb dX9_mostUrgent_104 rfl hl (by decide) rfl (fun ls hl => ?_)
                refine lv_iinc (v := (x3 + 1)) (lv' := [(3, .int (x3 + 1)), (2, .int x3), (0, .ref (h 0)), (1, .int x1)]) hx hb dX9_mostUrgent_105 hl (k := 3) rfl rfl (by decide) rfl (fun ls hl => ?_)
                refine lv_goto (tgt := 4) hx hb dX9_mostUrgent_108 (by decide) ?_
                exact ih _ _ _ _ _ _ hM _ _ hw _ (lv_sub hl [2, 3, 1, 0] rfl)
            · replace hM := i_neg hM c13
              refine lv_aload_n hx hb dX9_mostUrgent_62 rfl (lv_at hl 0 rfl) ?_
              refine lv_iload_n hx hb dX9_mostUrgent_63 rfl (lv_at hl 3 rfl) ?_
              refine lv_iconst (v := 3) hx hb dX9_mostUrgent_64 (by decide) ?_
              obtain ⟨p19, h20, hM⟩ := b_some hM
              refine q_cv (As := [.int x3, .int 3]) (rest := []) E hw hl (c_X9_ticket l D cA tS A h F x3 3 σ wd p19 h20) 2 (bwV bw_c tb_1253 tb_1255 tb_52 tb_112 tb_1256) rfl (by decide +kernel) ⟨Nat.le_of_ble_eq_true rfl, Nat.le_of_ble_eq_true rfl⟩ 0 9 (T := TX9) (N := 17) rfl rfl rfl rfl (Nat.le_of_ble_eq_true rfl) ⟨Nat.zero_le _, Nat.zero_le _⟩ dX9_mostUrgent_65 (fun H locs hw => ?_)
              refine lv_aload_n hx hb dX9_mostUrgent_68 rfl (lv_at hl 0 rfl) ?_
              refine lv_iload_n hx hb dX9_mostUrgent_69 rfl (lv_at hl 2 rfl) ?_
              refine lv_iconst (v := 3) hx hb dX9_mostUrgent_70 (by decide) ?_
              obtain ⟨p21, h22, hM⟩ := b_some hM
              refine q_cv (As := [.int x2, .int 3]) (rest := [.int p19]) E hw hl (c_X9_ticket l D cA tS A h F x2 3 σ wd p21 h22) 2 (bwV bw_c tb_1253 tb_1255 tb_52 tb_112 tb_1256) rfl (by decide +kernel) ⟨Nat.le_of_ble_eq_true rfl, Nat.le_of_ble_eq_true rfl⟩ 0 9 (T := TX9) (N := 17) rfl rfl rfl rfl (Nat.le_of_ble_eq_true rfl) ⟨Nat.zero_le _, Nat.zero_le _⟩ dX9_mostUrgent_71 (fun H locs hw => ?_)
              refine lv_icmp_le (tgt := 81) hx hb dX9_mostUrgent_74 (by decide) (fun c23 => ?_) (fun c23 => ?_)
              · replace hM := i_pos hM c23
                refine lv_iload_n hx hb dX9_mostUrgent_81 rfl (lv_at hl 2 rfl) ?_
                refine lv_istore_n (lv' := [(2, .int x2), (0, .ref (h 0)), (1, .int x1), (3, .int x3)]) hx hb dX9_mostUrgent_82 rfl hl (by decide) rfl (fun ls hl => ?_)
                refine lv_goto (tgt := 105) hx hb dX9_mostUrgent_83 (by decide) ?_
                refine lv_iinc (v := (x3 + 1)) (lv' := [(3, .int (x3 + 1)), (2, .int x2), (0, .ref (h 0)), (1, .int x1)]) hx hb dX9_mostUrgent_105 hl (k := 3) rfl rfl (by decide) rfl (fun ls hl => ?_)
                refine lv_goto (tgt := 4) hx hb dX9_mostUrgent_108 (by decide) ?_
                exact ih _ _ _ _ _ _ hM _ _ hw _ (lv_sub hl [2, 3, 1, 0] rfl)
              · replace hM := i_neg hM c23
                refine lv_iload_n hx hb dX9_mostUrgent_77 rfl (lv_at hl 3 rfl) ?_
                refine lv_goto (tgt := 82) hx hb dX9_mostUrgent_78 (by decide) ?_
                refine lv_istore_n (lv' := [(2, .int x3), (0, .ref (h 0)), (1, .int x1), (3, .int x3)]) hx hb dX9_mostUrgent_82 rfl hl (by decide) rfl (fun ls hl => ?_)
                refine lv_goto (tgt := 105) hx hb dX9_mostUrgent_83 (by decide) ?_
                refine lv_iinc (v := (x3 + 1)) (lv' := [(3, .int (x3 + 1)), (2, .int x3), (0, .ref (h 0)), (1, .int x1)]) hx hb dX9_mostUrgent_105 hl (k := 3) rfl rfl (by decide) rfl (fun ls hl => ?_)
                refine lv_goto (tgt := 4) hx hb dX9_mostUrgent_108 (by decide) ?_
                exact ih _ _ _ _ _ _ hM _ _ hw _ (lv_sub hl [2, 3, 1, 0] rfl)
          · replace hM := i_pos hM c8
            refine lv_iload_n hx hb dX9_mostUrgent_42 rfl (lv_at hl 3 rfl) ?_
            refine lv_istore_n (lv' := [(2, .int x3), (0, .ref (h 0)), (1, .int x1), (3, .int x3)]) hx hb dX9_mostUrgent_43 rfl hl (by decide) rfl (fun ls hl => ?_)
            refine lv_goto (tgt := 105) hx hb dX9_mostUrgent_44 (by decide) ?_
            refine lv_iinc (v := (x3 + 1)) (lv' := [(3, .int (x3 + 1)), (2, .int x3), (0, .ref (h 0)), (1, .int x1)]) hx hb dX9_mostUrgent_105 hl (k := 3) rfl rfl (by decide) rfl (fun ls hl => ?_)
            refine lv_goto (tgt := 4) hx hb dX9_mostUrgent_108 (by decide) ?_
            exact ih _ _ _ _ _ _ hM _ _ hw _ (lv_sub hl [2, 3, 1, 0] rfl)
        · replace hM := i_neg hM c7
          refine lv_goto (tgt := 105) hx hb dX9_mostUrgent_34 (by decide) ?_
          refine lv_iinc (v := (x3 + 1)) (lv' := [(3, .int (x3 + 1)), (0, .ref (h 0)), (1, .int x1), (2, .int x2)]) hx hb dX9_mostUrgent_105 hl (k := 3) rfl rfl (by decide) rfl (fun ls hl => ?_)
          refine lv_goto (tgt := 4) hx hb dX9_mostUrgent_108 (by decide) ?_
          exact ih _ _ _ _ _ _ hM _ _ hw _ (lv_sub hl [1, 2, 3, 0] rfl)
def f_X9_mostUrgent (N : Nat)   (x1 : Int32) (σ : Sg) (wd : Int64) : Option (Int32) := f_X9_mostUrgent_4 N N x1 (-1) 0 σ wd
set_option maxRecDepth 100000 in
set_option maxHeartbeats 4000000 in
theorem c_X9_mostUrgent (l : Launch) (D : va_G) (cA : Nat → ClassId) (tS : Nat → Nat) (A : Nat → Prop) (h : Nat → Nat) (F : va_W) (N : Nat) (x1 : Int32) (σ : Sg) (wd : Int64) (r0 : Int32) (hM : f_X9_mostUrgent N x1 σ wd = some r0) : Ct l yX9_mostUrgent (Cond.code yX9_mostUrgent cX9_mostUrgent 4 (some .int) :: bw) 3 65 D cA tS A [.ref (h 0), .int x1] (wM cA h σ wd ++ F) (some (.int r0)) (wM cA h σ wd ++ F) := by
  refine ct_of (by decide +kernel) (Nat.le_of_ble_eq_true rfl) ?_
  intro p e s m below meth c E hw ls hl
  replace E : Ev p cX9_mostUrgent 4 (some .int) RX9 (Cond.code yX9_mostUrgent cX9_mostUrgent 4 (some .int) :: bw) D cA tS A s m _ meth c := E
  replace hl : lv_has ls 4 [(0, .ref (h 0)), (1, .int x1)] := hl
  have hx := E.1.1
  have hb := E.1.2.1
  unfold f_X9_mostUrgent at hM
  refine lv_iconst (v := (-1)) hx hb dX9_mostUrgent_0 (by decide) ?_
  refine lv_istore_n (lv' := [(2, .int (-1)), (0, .ref (h 0)), (1, .int x1)]) hx hb dX9_mostUrgent_1 rfl hl (by decide) rfl (fun ls hl => ?_)
  refine lv_iconst (v := 0) hx hb dX9_mostUrgent_2 (by decide) ?_
  refine lv_istore_n (lv' := [(3, .int 0), (2, .int (-1)), (0, .ref (h 0)), (1, .int x1)]) hx hb dX9_mostUrgent_3 rfl hl (by decide) rfl (fun ls hl => ?_)
  exact s_X9_mostUrgent_4 l D cA tS A h F N E N _ _ _ _ _ _ hM _ _ hw _ (lv_sub hl [2, 3, 1, 0] rfl)
def f_X9_takeTickets_67 (N : Nat)  (k30 : Int32 → Int32 → Int32 → Sg → Int64 → Option (Sg)) (x1 : Int32) (x2 : Int32) (x3 : Int32) (σ : Sg) (wd : Int64) : Option (Sg) := (f_X9_log (σ 1 (ix 0)) 1 x3 x1 σ wd).bind (fun p1 => (if (x2 + (-1)) ≤ 0 then k30 x1 (x2 + (-1)) (-1) p1 wd else (f_X9_mostUrgent N x1 p1 wd).bind (fun p4 => k30 x1 (x2 + (-1)) p4 p1 wd)))
set_option maxRecDepth 100000 in
set_option maxHeartbeats 4000000 in
theorem s_X9_takeTickets_67 (l : Launch) (D : va_G) (cA : Nat → ClassId) (tS : Nat → Nat) (A : Nat → Prop) (h : Nat → Nat) (F : va_W) (N : Nat) (k30 : Int32 → Int32 → Int32 → Sg → Int64 → Option (Sg)) {p : Program} {e : Env} {s : State} {m : MethodId} {args : Array Value} {below : List Frame} {meth : Method} {c : Code} (E : Ev p cX9_takeTickets 4 none RX9 (Cond.code yX9_takeTickets cX9_takeTickets 4 none :: bw) D cA tS A s m args meth c) (hk30 : ∀ (x1 : Int32) (x2 : Int32) (x3 : Int32) (σ : Sg) (wd : Int64) (s0 : Sg) (hM : k30 x1 x2 x3 σ wd = some s0) (H : Heap) (locs : List Loc) (hw : Wd D A (wM cA h σ wd ++ F) s.heap H locs) (ls : Array Slot) (hl : lv_has ls 4 [(0, .ref (h 0)), (1, .int x1), (2, .int x2), (3, .int x3)]), W p l e ({ frames := 4, cells := 0, slots := 0, locals := 89 } : Room) s m args below meth c H locs 0 0 (MQ below (QW D A none (wM cA h s0 wd ++ F)) args s 0 0 A) (F0 m 30 ls [])) : ∀ (x1 : Int32) (x2 : Int32) (x3 : Int32) (σ : Sg) (wd : Int64) (s0 : Sg) (hM : f_X9_takeTickets_67 N k30 x1 x2 x3 σ wd = some s0) (H : Heap) (locs : List Loc) (hw : Wd D A (wM cA h σ wd ++ F) s.heap H locs) (ls : Array Slot) (hl : lv_has ls 4 [(0, .ref (h 0)), (1, .int x1), (2, .int x2), (3, .int x3)]), W p l e ({ frames := 4, cells := 0, slots := 0, locals := 89 } : Room) s m args below meth c H locs 0 0 (MQ below (QW D A none (wM cA h s0 wd ++ F)) args s 0 0 A) (F0 m 67 ls []) := by
  have hx := E.1.1
  have hb := E.1.2.1
  intro x1 x2 x3 σ wd s0 hM H locs hw ls hl
  unfold f_X9_takeTickets_67 at hM
  refine lv_aload_n hx hb dX9_takeTickets_67 rfl (lv_at hl 0 rfl) ?_
  refine lv_aload_n hx hb dX9_takeTickets_68 rfl (lv_at hl 0 rfl) ?_
  refine q_get (C := RX9) (T := TX9) (N := 17) (ci := 9) E (fun w h => List.mem_cons_of_mem _ (inX9 w h)) hw 0 rfl rfl 0 (by decide) (List.mem_cons_of_mem _ tb_1157) (v := .ref (h 1)) rfl dX9_takeTickets_69 ?_
  refine lv_iconst (v := 0) hx hb dX9_takeTickets_72 (by decide) ?_
  refine q_ald E hw 1 (n := 4619) rfl (by decide +kernel) (x := (σ 1 (ix 0))) rfl dX9_takeTickets_73 ?_
  refine lv_iconst (v := 1) hx hb dX9_takeTickets_74 (by decide) ?_
  refine lv_iload_n hx hb dX9_takeTickets_75 rfl (lv_at hl 3 rfl) ?_
  refine lv_iload_n hx hb dX9_takeTickets_76 rfl (lv_at hl 1 rfl) ?_
  obtain ⟨p1, h2, hM⟩ := b_some hM
  refine q_cvv (As := [.int (σ 1 (ix 0)), .int 1, .int x3, .int x1]) (rest := []) E hw hl (c_X9_log l D cA tS A h F (σ 1 (ix 0)) 1 x3 x1 σ wd p1 h2) 4 (bwV bw_c tb_1293 tb_1295 tb_62 tb_112 tb_1296) rfl (by decide +kernel) ⟨Nat.le_of_ble_eq_true rfl, Nat.le_of_ble_eq_true rfl⟩ 0 9 (T := TX9) (N := 17) rfl rfl rfl rfl (Nat.le_of_ble_eq_true rfl) ⟨Nat.zero_le _, Nat.zero_le _⟩ dX9_takeTickets_77 (fun H locs hw => ?_)
  refine lv_iinc (v := (x2 + (-1))) (lv' := [(2, .int (x2 + (-1))), (0, .ref (h 0)), (1, .int x1), (3, .int x3)]) hx hb dX9_takeTickets_80 hl (k := 2) rfl rfl (by decide) rfl (fun ls hl => ?_)
  refine lv_iload_n hx hb dX9_takeTickets_83 rfl (lv_at hl 0 rfl) ?_
  refine lv_if_le (tgt := 95) hx hb dX9_takeTickets_84 (by decide) (fun c3 => ?_) (fun c3 => ?_)
  · replace hM := i_pos hM c3
    refine lv_iconst (v := (-1)) hx hb dX9_takeTickets_95 (by decide) ?_
    refine lv_istore_n (lv' := [(3, .int (-1)), (2, .int (x2 + (-1))), (0, .ref (h 0)), (1, .int x1)]) hx hb dX9_takeTickets_96 rfl hl (by decide) rfl (fun ls hl => ?_)
    refine lv_goto (tgt := 30) hx hb dX9_takeTickets_97 (by decide) ?_
    exact hk30 _ _ _ _ _ _ hM _ _ hw _ (lv_sub hl [2, 3, 1, 0] rfl)
  · replace hM := i_neg hM c3
    refine lv_aload_n hx hb dX9_takeTickets_87 rfl (lv_at hl 1 rfl) ?_
    refine lv_iload_n hx hb dX9_takeTickets_88 rfl (lv_at hl 2 rfl) ?_
    obtain ⟨p4, h5, hM⟩ := b_some hM
    refine q_cv (As := [.int x1]) (rest := []) E hw hl (c_X9_mostUrgent l D cA tS A h F N x1 p1 wd p4 h5) 1 (bwV bw_c tb_1407 tb_1409 tb_72 tb_112 tb_1410) rfl (by decide +kernel) ⟨Nat.le_of_ble_eq_true rfl, Nat.le_of_ble_eq_true rfl⟩ 0 9 (T := TX9) (N := 17) rfl rfl rfl rfl (Nat.le_of_ble_eq_true rfl) ⟨Nat.zero_le _, Nat.zero_le _⟩ dX9_takeTickets_89 (fun H locs hw => ?_)
    refine lv_goto (tgt := 96) hx hb dX9_takeTickets_92 (by decide) ?_
    refine lv_istore_n (lv' := [(3, .int p4), (2, .int (x2 + (-1))), (0, .ref (h 0)), (1, .int x1)]) hx hb dX9_takeTickets_96 rfl hl (by decide) rfl (fun ls hl => ?_)
    refine lv_goto (tgt := 30) hx hb dX9_takeTickets_97 (by decide) ?_
    exact hk30 _ _ _ _ _ _ hM _ _ hw _ (lv_sub hl [2, 3, 1, 0] rfl)
def f_X9_takeTickets_30 (N : Nat)   : Nat → Int32 → Int32 → Int32 → Sg → Int64 → Option (Sg)
  | 0, _, _, _, _, _ => none
  | n + 1, x1, x2, x3, σ, wd => (if x3 = (-1) then some σ else (f_X9_setTicket x3 9 1 σ wd).bind (fun p2 => (f_X9_ticket x3 12 p2 wd).bind (fun p4 => (if p4 = (-1) then (f_X9_setTicket x3 12 (p2 1 (ix 0)) p2 wd).bind (fun p7 => f_X9_takeTickets_67 N (fun x1 x2 x3 σ wd => f_X9_takeTickets_30 N n x1 x2 x3 σ wd) x1 x2 x3 p7 wd) else f_X9_takeTickets_67 N (fun x1 x2 x3 σ wd => f_X9_takeTickets_30 N n x1 x2 x3 σ wd) x1 x2 x3 p2 wd))))
set_option maxRecDepth 100000 in
set_option maxHeartbeats 4000000 in
theorem s_X9_takeTickets_30 (l : Launch) (D : va_G) (cA : Nat → ClassId) (tS : Nat → Nat) (A : Nat → Prop) (h : Nat → Nat) (F : va_W) (N : Nat) {p : Program} {e : Env} {s : State} {m : MethodId} {args : Array Value} {below : List Frame} {meth : Method} {c : Code} (E : Ev p cX9_takeTickets 4 none RX9 (Cond.code yX9_takeTickets cX9_takeTickets 4 none :: bw) D cA tS A s m args meth c) : ∀ (n : Nat) (x1 : Int32) (x2 : Int32) (x3 : Int32) (σ : Sg) (wd : Int64) (s0 : Sg) (hM : f_X9_takeTickets_30 N n x1 x2 x3 σ wd = some s0) (H : Heap) (locs : List Loc) (hw : Wd D A (wM cA h σ wd ++ F) s.heap H locs) (ls : Array Slot) (hl : lv_has ls 4 [(0, .ref (h 0)), (1, .int x1), (2, .int x2), (3, .int x3)]), W p l e ({ frames := 4, cells := 0, slots := 0, locals := 89 } : Room) s m args below meth c H locs 0 0 (MQ below (QW D A none (wM cA h s0 wd ++ F)) args s 0 0 A) (F0 m 30 ls []) := by
  have hx := E.1.1
  have hb := E.1.2.1
  intro n
  induction n with
  | zero =>
    intro x1 x2 x3 σ wd s0 hM
    cases hM
  | succ n ih =>
    intro x1 x2 x3 σ wd s0 hM H locs hw ls hl
    rw [f_X9_takeTickets_30] at hM
    refine lv_iload_n hx hb dX9_takeTickets_30 rfl (lv_at hl 3 rfl) ?_
    refine lv_iconst (v := (-1)) hx hb dX9_takeTickets_31 (by decide) ?_
    refine lv_icmp_eq (tgt := 100) hx hb dX9_takeTickets_32 (by decide) (fun c1 => ?_) (fun c1 => ?_)
    · replace hM := i_pos hM c1
      cases hM
      exact q_retv E hw dX9_takeTickets_100
    · replace hM := i_neg hM c1
      refine lv_aload_n hx hb dX9_takeTickets_35 rfl (lv_at hl 0 rfl) ?_
      refine lv_iload_n hx hb dX9_takeTickets_36 rfl (lv_at hl 3 rfl) ?_
      refine lv_bipush (v := 9) hx hb dX9_takeTickets_37 (by decide) ?_
      refine lv_iconst (v := 1) hx hb dX9_takeTickets_39 (by decide) ?_
      obtain ⟨p2, h3, hM⟩ := b_some hM
      refine q_cvv (As := [.int x3, .int 9, .int 1]) (rest := []) E hw hl (c_X9_setTicket l D cA tS A h F x3 9 1 σ wd p2 h3) 3 (bwV bw_c tb_1285 tb_1287 tb_60 tb_112 tb_1288) rfl (by decide +kernel) ⟨Nat.le_of_ble_eq_true rfl, Nat.le_of_ble_eq_true rfl⟩ 0 9 (T := TX9) (N := 17) rfl rfl rfl rfl (Nat.le_of_ble_eq_true rfl) ⟨Nat.zero_le _, Nat.zero_le _⟩ dX9_takeTickets_40 (fun H locs hw => ?_)
      refine lv_aload_n hx hb dX9_takeTickets_43 rfl (lv_at hl 0 rfl) ?_
      refine lv_iload_n hx hb dX9_takeTickets_44 rfl (lv_at hl 3 rfl) ?_
      refine lv_bipush (v := 12) hx hb dX9_takeTickets_45 (by decide) ?_
      obtain ⟨p4, h5, hM⟩ := b_some hM
      refine q_cv (As := [.int x3, .int 12]) (rest := []) E hw hl (c_X9_ticket l D cA tS A h F x3 12 p2 wd p4 h5) 2 (bwV bw_c tb_1253 tb_1255 tb_52 tb_112 tb_1256) rfl (by decide +kernel) ⟨Nat.le_of_ble_eq_true rfl, Nat.le_of_ble_eq_true rfl⟩ 0 9 (T := TX9) (N := 17) rfl rfl rfl rfl (Nat.le_of_ble_eq_true rfl) ⟨Nat.zero_le _, Nat.zero_le _⟩ dX9_takeTickets_47 (fun H locs hw => ?_)
      refine lv_iconst (v := (-1)) hx hb dX9_takeTickets_50 (by decide) ?_
      refine lv_icmp_ne (tgt := 67) hx hb dX9_takeTickets_51 (by decide) (fun c6 => ?_) (fun c6 => ?_)
      · replace hM := i_neg hM c6
        exact s_X9_takeTickets_67 l D cA tS A h F N (fun x1 x2 x3 σ wd => f_X9_takeTickets_30 N n x1 x2 x3 σ wd) E ih _ _ _ _ _ _ hM _ _ hw _ (lv_sub hl [0, 1, 2, 3] rfl)
      · replace hM := i_pos hM c6
        refine lv_aload_n hx hb dX9_takeTickets_54 rfl (lv_at hl 0 rfl) ?_
        refine lv_iload_n hx hb dX9_takeTickets_55 rfl (lv_at hl 3 rfl) ?_
        refine lv_bipush (v := 12) hx hb dX9_takeTickets_56 (by decide) ?_
        refine lv_aload_n hx hb dX9_takeTickets_58 rfl (lv_at hl 0 rfl) ?_
        refine q_get (C := RX9) (T := TX9) (N := 17) (ci := 9) E (fun w h => List.mem_cons_of_mem _ (inX9 w h)) hw 0 rfl rfl 0 (by decide) (List.mem_cons_of_mem _ tb_1157) (v := .ref (h 1)) rfl dX9_takeTickets_59 ?_
        refine lv_iconst (v := 0) hx hb dX9_takeTickets_62 (by decide) ?_
        refine q_ald E hw 1 (n := 4619) rfl (by decide +kernel) (x := (p2 1 (ix 0))) rfl dX9_takeTickets_63 ?_
        obtain ⟨p7, h8, hM⟩ := b_some hM
        refine q_cvv (As := [.int x3, .int 12, .int (p2 1 (ix 0))]) (rest := []) E hw hl (c_X9_setTicket l D cA tS A h F x3 12 (p2 1 (ix 0)) p2 wd p7 h8) 3 (bwV bw_c tb_1285 tb_1287 tb_60 tb_112 tb_1288) rfl (by decide +kernel) ⟨Nat.le_of_ble_eq_true rfl, Nat.le_of_ble_eq_true rfl⟩ 0 9 (T := TX9) (N := 17) rfl rfl rfl rfl (Nat.le_of_ble_eq_true rfl) ⟨Nat.zero_le _, Nat.zero_le _⟩ dX9_takeTickets_64 (fun H locs hw => ?_)
        exact s_X9_takeTickets_67 l D cA tS A h F N (fun x1 x2 x3 σ wd => f_X9_takeTickets_30 N n x1 x2 x3 σ wd) E ih _ _ _ _ _ _ hM _ _ hw _ (lv_sub hl [0, 1, 2, 3] rfl)
def f_X9_takeTickets (N : Nat)   (x1 : Int32) (σ : Sg) (wd : Int64) : Option (Sg) := if ib (15 + x1) 4619 then (f_X9_busy N x1 σ wd).bind (fun p2 => (if ((σ 1 (ix (15 + x1))) - p2) ≤ 0 then f_X9_takeTickets_30 N N x1 ((σ 1 (ix (15 + x1))) - p2) (-1) σ wd else (f_X9_mostUrgent N x1 σ wd).bind (fun p5 => f_X9_takeTickets_30 N N x1 ((σ 1 (ix (15 + x1))) - p2) p5 σ wd))) else none
set_option maxRecDepth 100000 in
set_option maxHeartbeats 4000000 in
theorem c_X9_takeTickets (l : Launch) (D : va_G) (cA : Nat → ClassId) (tS : Nat → Nat) (A : Nat → Prop) (h : Nat → Nat) (F : va_W) (N : Nat) (x1 : Int32) (σ : Sg) (wd : Int64) (s0 : Sg) (hM : f_X9_takeTickets N x1 σ wd = some s0) : Ct l yX9_takeTickets (Cond.code yX9_takeTickets cX9_takeTickets 4 none :: bw) 4 89 D cA tS A [.ref (h 0), .int x1] (wM cA h σ wd ++ F) none (wM cA h s0 wd ++ F) := by
  refine ct_of (by decide +kernel) (Nat.le_of_ble_eq_true rfl) ?_
  intro p e s m below meth c E hw ls hl
  replace E : Ev p cX9_takeTickets 4 none RX9 (Cond.code yX9_takeTickets cX9_takeTickets 4 none :: bw) D cA tS A s m _ meth c := E
  replace hl : lv_has ls 4 [(0, .ref (h 0)), (1, .int x1)] := hl
  have hx := E.1.1
  have hb := E.1.2.1
  unfold f_X9_takeTickets at hM
  refine lv_aload_n hx hb dX9_takeTickets_0 rfl (lv_at hl 0 rfl) ?_
  refine q_get (C := RX9) (T := TX9) (N := 17) (ci := 9) E (fun w h => List.mem_cons_of_mem _ (inX9 w h)) hw 0 rfl rfl 0 (by decide) (List.mem_cons_of_mem _ tb_1157) (v := .ref (h 1)) rfl dX9_takeTickets_1 ?_
  refine lv_bipush (v := 15) hx hb dX9_takeTickets_4 (by decide) ?_
  refine lv_iload_n hx hb dX9_takeTickets_6 rfl (lv_at hl 1 rfl) ?_
  refine lv_iadd hx hb dX9_takeTickets_7 ?_
  obtain ⟨g1, hM⟩ := g_some hM
  refine q_ald E hw 1 (n := 4619) rfl g1 (x := (σ 1 (ix (15 + x1)))) rfl dX9_takeTickets_8 ?_
  refine lv_aload_n hx hb dX9_takeTickets_9 rfl (lv_at hl 0 rfl) ?_
  refine lv_iload_n hx hb dX9_takeTickets_10 rfl (lv_at hl 1 rfl) ?_
  obtain ⟨p2, h3, hM⟩ := b_some hM
  refine q_cv (As := [.int x1]) (rest := [.int (σ 1 (ix (15 + x1)))]) E hw hl (c_X9_busy l D cA tS A h F N x1 σ wd p2 h3) 1 (bwV bw_c tb_1277 tb_1279 tb_58 tb_112 tb_1280) rfl (by decide +kernel) ⟨Nat.le_of_ble_eq_true rfl, Nat.le_of_ble_eq_true rfl⟩ 0 9 (T := TX9) (N := 17) rfl rfl rfl rfl (Nat.le_of_ble_eq_true rfl) ⟨Nat.zero_le _, Nat.zero_le _⟩ dX9_takeTickets_11 (fun H locs hw => ?_)
  refine lv_isub hx hb dX9_takeTickets_14 ?_
  refine lv_istore_n (lv' := [(2, .int ((σ 1 (ix (15 + x1))) - p2)), (0, .ref (h 0)), (1, .int x1)]) hx hb dX9_takeTickets_15 rfl hl (by decide) rfl (fun ls hl => ?_)
  refine lv_iload_n hx hb dX9_takeTickets_16 rfl (lv_at hl 0 rfl) ?_
  refine lv_if_le (tgt := 28) hx hb dX9_takeTickets_17 (by decide) (fun c4 => ?_) (fun c4 => ?_)
  · replace hM := i_pos hM c4
    refine lv_iconst (v := (-1)) hx hb dX9_takeTickets_28 (by decide) ?_
    refine lv_istore_n (lv' := [(3, .int (-1)), (2, .int ((σ 1 (ix (15 + x1))) - p2)), (0, .ref (h 0)), (1, .int x1)]) hx hb dX9_takeTickets_29 rfl hl (by decide) rfl (fun ls hl => ?_)
    exact s_X9_takeTickets_30 l D cA tS A h F N E N _ _ _ _ _ _ hM _ _ hw _ (lv_sub hl [2, 3, 1, 0] rfl)
  · replace hM := i_neg hM c4
    refine lv_aload_n hx hb dX9_takeTickets_20 rfl (lv_at hl 1 rfl) ?_
    refine lv_iload_n hx hb dX9_takeTickets_21 rfl (lv_at hl 2 rfl) ?_
    obtain ⟨p5, h6, hM⟩ := b_some hM
    refine q_cv (As := [.int x1]) (rest := []) E hw hl (c_X9_mostUrgent l D cA tS A h F N x1 σ wd p5 h6) 1 (bwV bw_c tb_1407 tb_1409 tb_72 tb_112 tb_1410) rfl (by decide +kernel) ⟨Nat.le_of_ble_eq_true rfl, Nat.le_of_ble_eq_true rfl⟩ 0 9 (T := TX9) (N := 17) rfl rfl rfl rfl (Nat.le_of_ble_eq_true rfl) ⟨Nat.zero_le _, Nat.zero_le _⟩ dX9_takeTickets_22 (fun H locs hw => ?_)
    refine lv_goto (tgt := 29) hx hb dX9_takeTickets_25 (by decide) ?_
    refine lv_istore_n (lv' := [(3, .int p5), (2, .int ((σ 1 (ix (15 + x1))) - p2)), (0, .ref (h 0)), (1, .int x1)]) hx hb dX9_takeTickets_29 rfl hl (by decide) rfl (fun ls hl => ?_)
    exact s_X9_takeTickets_30 l D cA tS A h F N E N _ _ _ _ _ _ hM _ _ hw _ (lv_sub hl [2, 3, 1, 0] rfl)
def f_X9_runsResponse    (x1 : Int32) (σ : Sg) (wd : Int64) : Option (Int32) := (f_X9_ticket x1 12 σ wd).bind (fun p1 => (if p1 = (-1) then (f_X9_is x1 0 σ wd).bind (fun p4 => (if p4 = 0 then (f_X9_is x1 2 σ wd).bind (fun p7 => (if p7 = 0 then (f_X9_is x1 4 σ wd).bind (fun p10 => (if p10 = 0 then some 0 else (f_X9_ticket x1 10 σ wd).bind (fun p13 => (f_X9_ticket p13 12 σ wd).bind (fun p15 => (if p15 = (-1) then some 1 else some 0))))) else some 1)) else some 1)) else some 0))
set_option maxRecDepth 100000 in
set_option maxHeartbeats 4000000 in
theorem c_X9_runsResponse (l : Launch) (D : va_G) (cA : Nat → ClassId) (tS : Nat → Nat) (A : Nat → Prop) (h : Nat → Nat) (F : va_W) (x1 : Int32) (σ : Sg) (wd : Int64) (r0 : Int32) (hM : f_X9_runsResponse x1 σ wd = some r0) : Ct l yX9_runsResponse (Cond.code yX9_runsResponse cX9_runsResponse 2 (some .boolean) :: bw) 2 44 D cA tS A [.ref (h 0), .int x1] (wM cA h σ wd ++ F) (some (.int r0)) (wM cA h σ wd ++ F) := by
  refine ct_of (by decide +kernel) (Nat.le_of_ble_eq_true rfl) ?_
  intro p e s m below meth c E hw ls hl
  replace E : Ev p cX9_runsResponse 2 (some .boolean) RX9 (Cond.code yX9_runsResponse cX9_runsResponse 2 (some .boolean) :: bw) D cA tS A s m _ meth c := E
  replace hl : lv_has ls 2 [(0, .ref (h 0)), (1, .int x1)] := hl
  have hx := E.1.1
  have hb := E.1.2.1
  unfold f_X9_runsResponse at hM
  refine lv_aload_n hx hb dX9_runsResponse_0 rfl (lv_at hl 0 rfl) ?_
  refine lv_iload_n hx hb dX9_runsResponse_1 rfl (lv_at hl 1 rfl) ?_
  refine lv_bipush (v := 12) hx hb dX9_runsResponse_2 (by decide) ?_
  obtain ⟨p1, h2, hM⟩ := b_some hM
  refine q_cv (As := [.int x1, .int 12]) (rest := []) E hw hl (c_X9_ticket l D cA tS A h F x1 12 σ wd p1 h2) 2 (bwV bw_c tb_1253 tb_1255 tb_52 tb_112 tb_1256) rfl (by decide +kernel) ⟨Nat.le_of_ble_eq_true rfl, Nat.le_of_ble_eq_true rfl⟩ 0 9 (T := TX9) (N := 17) rfl rfl rfl rfl (Nat.le_of_ble_eq_true rfl) ⟨Nat.zero_le _, Nat.zero_le _⟩ dX9_runsResponse_4 (fun H locs hw => ?_)
  refine lv_iconst (v := (-1)) hx hb dX9_runsResponse_7 (by decide) ?_
  refine lv_icmp_eq (tgt := 13) hx hb dX9_runsResponse_8 (by decide) (fun c3 => ?_) (fun c3 => ?_)
  · replace hM := i_pos hM c3
    refine lv_aload_n hx hb dX9_runsResponse_13 rfl (lv_at hl 0 rfl) ?_
    refine lv_iload_n hx hb dX9_runsResponse_14 rfl (lv_at hl 1 rfl) ?_
    refine lv_iconst (v := 0) hx hb dX9_runsResponse_15 (by decide) ?_
    obtain ⟨p4, h5, hM⟩ := b_some hM
    refine q_cv (As := [.int x1, .int 0]) (rest := []) E hw hl (c_X9_is l D cA tS A h F x1 0 σ wd p4 h5) 2 (bwV bw_c tb_1261 tb_1263 tb_54 tb_112 tb_1264) rfl (by decide +kernel) ⟨Nat.le_of_ble_eq_true rfl, Nat.le_of_ble_eq_true rfl⟩ 0 9 (T := TX9) (N := 17) rfl rfl rfl rfl (Nat.le_of_ble_eq_true rfl) ⟨Nat.zero_le _, Nat.zero_le _⟩ dX9_runsResponse_16 (fun H locs hw => ?_)
    refine lv_if_ne (tgt := 57) hx hb dX9_runsResponse_19 (by decide) (fun c6 => ?_) (fun c6 => ?_)
    · replace hM := i_neg hM c6
      refine lv_iconst (v := 1) hx hb dX9_runsResponse_57 (by decide) ?_
      refine lv_goto (tgt := 62) hx hb dX9_runsResponse_58 (by decide) ?_
      cases hM
      exact q_retz E hw (by decide) dX9_runsResponse_62
    · replace hM := i_pos hM c6
      refine lv_aload_n hx hb dX9_runsResponse_22 rfl (lv_at hl 0 rfl) ?_
      refine lv_iload_n hx hb dX9_runsResponse_23 rfl (lv_at hl 1 rfl) ?_
      refine lv_iconst (v := 2) hx hb dX9_runsResponse_24 (by decide) ?_
      obtain ⟨p7, h8, hM⟩ := b_some hM
      refine q_cv (As := [.int x1, .int 2]) (rest := []) E hw hl (c_X9_is l D cA tS A h F x1 2 σ wd p7 h8) 2 (bwV bw_c tb_1261 tb_1263 tb_54 tb_112 tb_1264) rfl (by decide +kernel) ⟨Nat.le_of_ble_eq_true rfl, Nat.le_of_ble_eq_true rfl⟩ 0 9 (T := TX9) (N := 17) rfl rfl rfl rfl (Nat.le_of_ble_eq_true rfl) ⟨Nat.zero_le _, Nat.zero_le _⟩ dX9_runsResponse_25 (fun H locs hw => ?_)
      refine lv_if_ne (tgt := 57) hx hb dX9_runsResponse_28 (by decide) (fun c9 => ?_) (fun c9 => ?_)
      · replace hM := i_neg hM c9
        refine lv_iconst (v := 1) hx hb dX9_runsResponse_57 (by decide) ?_
        refine lv_goto (tgt := 62) hx hb dX9_runsResponse_58 (by decide) ?_
        cases hM
        exact q_retz E hw (by decide) dX9_runsResponse_62
      · replace hM := i_pos hM c9
        refine lv_aload_n hx hb dX9_runsResponse_31 rfl (lv_at hl 0 rfl) ?_
        refine lv_iload_n hx hb dX9_runsResponse_32 rfl (lv_at hl 1 rfl) ?_
        refine lv_iconst (v := 4) hx hb dX9_runsResponse_33 (by decide) ?_
        obtain ⟨p10, h11, hM⟩ := b_some hM
        refine q_cv (As := [.int x1, .int 4]) (rest := []) E hw hl (c_X9_is l D cA tS A h F x1 4 σ wd p10 h11) 2 (bwV bw_c tb_1261 tb_1263 tb_54 tb_112 tb_1264) rfl (by decide +kernel) ⟨Nat.le_of_ble_eq_true rfl, Nat.le_of_ble_eq_true rfl⟩ 0 9 (T := TX9) (N := 17) rfl rfl rfl rfl (Nat.le_of_ble_eq_true rfl) ⟨Nat.zero_le _, Nat.zero_le _⟩ dX9_runsResponse_34 (fun H locs hw => ?_)
        refine lv_if_eq (tgt := 61) hx hb dX9_runsResponse_37 (by decide) (fun c12 => ?_) (fun c12 => ?_)
        · replace hM := i_pos hM c12
          refine lv_iconst (v := 0) hx hb dX9_runsResponse_61 (by decide) ?_
          cases hM
          exact q_retz E hw (by decide) dX9_runsResponse_62
        · replace hM := i_neg hM c12
          refine lv_aload_n hx hb dX9_runsResponse_40 rfl (lv_at hl 0 rfl) ?_
          refine lv_aload_n hx hb dX9_runsResponse_41 rfl (lv_at hl 0 rfl) ?_
          refine lv_iload_n hx hb dX9_runsResponse_42 rfl (lv_at hl 1 rfl) ?_
          refine lv_bipush (v := 10) hx hb dX9_runsResponse_43 (by decide) ?_
          obtain ⟨p13, h14, hM⟩ := b_some hM
          refine q_cv (As := [.int x1, .int 10]) (rest := [.ref (h 0)]) E hw hl (c_X9_ticket l D cA tS A h F x1 10 σ wd p13 h14) 2 (bwV bw_c tb_1253 tb_1255 tb_52 tb_112 tb_1256) rfl (by decide +kernel) ⟨Nat.le_of_ble_eq_true rfl, Nat.le_of_ble_eq_true rfl⟩ 0 9 (T := TX9) (N := 17) rfl rfl rfl rfl (Nat.le_of_ble_eq_true rfl) ⟨Nat.zero_le _, Nat.zero_le _⟩ dX9_runsResponse_45 (fun H locs hw => ?_)
          refine lv_bipush (v := 12) hx hb dX9_runsResponse_48 (by decide) ?_
          obtain ⟨p15, h16, hM⟩ := b_some hM
          refine q_cv (As := [.int p13, .int 12]) (rest := []) E hw hl (c_X9_ticket l D cA tS A h F p13 12 σ wd p15 h16) 2 (bwV bw_c tb_1253 tb_1255 tb_52 tb_112 tb_1256) rfl (by decide +kernel) ⟨Nat.le_of_ble_eq_true rfl, Nat.le_of_ble_eq_true rfl⟩ 0 9 (T := TX9) (N := 17) rfl rfl rfl rfl (Nat.le_of_ble_eq_true rfl) ⟨Nat.zero_le _, Nat.zero_le _⟩ dX9_runsResponse_50 (fun H locs hw => ?_)
          refine lv_iconst (v := (-1)) hx hb dX9_runsResponse_53 (by decide) ?_
          refine lv_icmp_ne (tgt := 61) hx hb dX9_runsResponse_54 (by decide) (fun c17 => ?_) (fun c17 => ?_)
          · replace hM := i_neg hM c17
            refine lv_iconst (v := 0) hx hb dX9_runsResponse_61 (by decide) ?_
            cases hM
            exact q_retz E hw (by decide) dX9_runsResponse_62
          · replace hM := i_pos hM c17
            refine lv_iconst (v := 1) hx hb dX9_runsResponse_57 (by decide) ?_
            refine lv_goto (tgt := 62) hx hb dX9_runsResponse_58 (by decide) ?_
            cases hM
            exact q_retz E hw (by decide) dX9_runsResponse_62
  · replace hM := i_neg hM c3
    refine lv_iconst (v := 0) hx hb dX9_runsResponse_11 (by decide) ?_
    cases hM
    exact q_retz E hw (by decide) dX9_runsResponse_12
def f_X9_runsResolve    (x1 : Int32) (σ : Sg) (wd : Int64) : Option (Int32) := (f_X9_is x1 4 σ wd).bind (fun p1 => (if p1 = 0 then (f_X9_ticket x1 9 σ wd).bind (fun p4 => (if p4 = 0 then some 1 else (if p4 = 1 then some 1 else some 0))) else (f_X9_ticket x1 10 σ wd).bind (fun p8 => (f_X9_ticket p8 9 σ wd).bind (fun p10 => (if p10 = 0 then some 1 else (if p10 = 1 then some 1 else some 0))))))
set_option maxRecDepth 100000 in
set_option maxHeartbeats 4000000 in
theorem c_X9_runsResolve (l : Launch) (D : va_G) (cA : Nat → ClassId) (tS : Nat → Nat) (A : Nat → Prop) (h : Nat → Nat) (F : va_W) (x1 : Int32) (σ : Sg) (wd : Int64) (r0 : Int32) (hM : f_X9_runsResolve x1 σ wd = some r0) : Ct l yX9_runsResolve (Cond.code yX9_runsResolve cX9_runsResolve 3 (some .boolean) :: bw) 2 44 D cA tS A [.ref (h 0), .int x1] (wM cA h σ wd ++ F) (some (.int r0)) (wM cA h σ wd ++ F) := by
  refine ct_of (by decide +kernel) (Nat.le_of_ble_eq_true rfl) ?_
  intro p e s m below meth c E hw ls hl
  replace E : Ev p cX9_runsResolve 3 (some .boolean) RX9 (Cond.code yX9_runsResolve cX9_runsResolve 3 (some .boolean) :: bw) D cA tS A s m _ meth c := E
  replace hl : lv_has ls 3 [(0, .ref (h 0)), (1, .int x1)] := hl
  have hx := E.1.1
  have hb := E.1.2.1
  unfold f_X9_runsResolve at hM
  refine lv_aload_n hx hb dX9_runsResolve_0 rfl (lv_at hl 0 rfl) ?_
  refine lv_iload_n hx hb dX9_runsResolve_1 rfl (lv_at hl 1 rfl) ?_
  refine lv_iconst (v := 4) hx hb dX9_runsResolve_2 (by decide) ?_
  obtain ⟨p1, h2, hM⟩ := b_some hM
  refine q_cv (As := [.int x1, .int 4]) (rest := []) E hw hl (c_X9_is l D cA tS A h F x1 4 σ wd p1 h2) 2 (bwV bw_c tb_1261 tb_1263 tb_54 tb_112 tb_1264) rfl (by decide +kernel) ⟨Nat.le_of_ble_eq_true rfl, Nat.le_of_ble_eq_true rfl⟩ 0 9 (T := TX9) (N := 17) rfl rfl rfl rfl (Nat.le_of_ble_eq_true rfl) ⟨Nat.zero_le _, Nat.zero_le _⟩ dX9_runsResolve_3 (fun H locs hw => ?_)
  refine lv_if_eq (tgt := 25) hx hb dX9_runsResolve_6 (by decide) (fun c3 => ?_) (fun c3 => ?_)
  · replace hM := i_pos hM c3
    refine lv_aload_n hx hb dX9_runsResolve_25 rfl (lv_at hl 0 rfl) ?_
    refine lv_iload_n hx hb dX9_runsResolve_26 rfl (lv_at hl 1 rfl) ?_
    refine lv_bipush (v := 9) hx hb dX9_runsResolve_27 (by decide) ?_
    obtain ⟨p4, h5, hM⟩ := b_some hM
    refine q_cv (As := [.int x1, .int 9]) (rest := []) E hw hl (c_X9_ticket l D cA tS A h F x1 9 σ wd p4 h5) 2 (bwV bw_c tb_1253 tb_1255 tb_52 tb_112 tb_1256) rfl (by decide +kernel) ⟨Nat.le_of_ble_eq_true rfl, Nat.le_of_ble_eq_true rfl⟩ 0 9 (T := TX9) (N := 17) rfl rfl rfl rfl (Nat.le_of_ble_eq_true rfl) ⟨Nat.zero_le _, Nat.zero_le _⟩ dX9_runsResolve_29 (fun H locs hw => ?_)
    refine lv_istore_n (lv' := [(2, .int p4), (0, .ref (h 0)), (1, .int x1)]) hx hb dX9_runsResolve_32 rfl hl (by decide) rfl (fun ls hl => ?_)
    refine lv_iload_n hx hb dX9_runsResolve_33 rfl (lv_at hl 0 rfl) ?_
    refine lv_if_eq (tgt := 42) hx hb dX9_runsResolve_34 (by decide) (fun c6 => ?_) (fun c6 => ?_)
    · replace hM := i_pos hM c6
      refine lv_iconst (v := 1) hx hb dX9_runsResolve_42 (by decide) ?_
      refine lv_goto (tgt := 47) hx hb dX9_runsResolve_43 (by decide) ?_
      cases hM
      exact q_retz E hw (by decide) dX9_runsResolve_47
    · replace hM := i_neg hM c6
      refine lv_iload_n hx hb dX9_runsResolve_37 rfl (lv_at hl 0 rfl) ?_
      refine lv_iconst (v := 1) hx hb dX9_runsResolve_38 (by decide) ?_
      refine lv_icmp_ne (tgt := 46) hx hb dX9_runsResolve_39 (by decide) (fun c7 => ?_) (fun c7 => ?_)
      · replace hM := i_neg hM c7
        refine lv_iconst (v := 0) hx hb dX9_runsResolve_46 (by decide) ?_
        cases hM
        exact q_retz E hw (by decide) dX9_runsResolve_47
      · replace hM := i_pos hM c7
        refine lv_iconst (v := 1) hx hb dX9_runsResolve_42 (by decide) ?_
        refine lv_goto (tgt := 47) hx hb dX9_runsResolve_43 (by decide) ?_
        cases hM
        exact q_retz E hw (by decide) dX9_runsResolve_47
  · replace hM := i_neg hM c3
    refine lv_aload_n hx hb dX9_runsResolve_9 rfl (lv_at hl 0 rfl) ?_
    refine lv_aload_n hx hb dX9_runsResolve_10 rfl (lv_at hl 0 rfl) ?_
    refine lv_iload_n hx hb dX9_runsResolve_11 rfl (lv_at hl 1 rfl) ?_
    refine lv_bipush (v := 10) hx hb dX9_runsResolve_12 (by decide) ?_
    obtain ⟨p8, h9, hM⟩ := b_some hM
    refine q_cv (As := [.int x1, .int 10]) (rest := [.ref (h 0)]) E hw hl (c_X9_ticket l D cA tS A h F x1 10 σ wd p8 h9) 2 (bwV bw_c tb_1253 tb_1255 tb_52 tb_112 tb_1256) rfl (by decide +kernel) ⟨Nat.le_of_ble_eq_true rfl, Nat.le_of_ble_eq_true rfl⟩ 0 9 (T := TX9) (N := 17) rfl rfl rfl rfl (Nat.le_of_ble_eq_true rfl) ⟨Nat.zero_le _, Nat.zero_le _⟩ dX9_runsResolve_14 (fun H locs hw => ?_)
    refine lv_bipush (v := 9) hx hb dX9_runsResolve_17 (by decide) ?_
    obtain ⟨p10, h11, hM⟩ := b_some hM
    refine q_cv (As := [.int p8, .int 9]) (rest := []) E hw hl (c_X9_ticket l D cA tS A h F p8 9 σ wd p10 h11) 2 (bwV bw_c tb_1253 tb_1255 tb_52 tb_112 tb_1256) rfl (by decide +kernel) ⟨Nat.le_of_ble_eq_true rfl, Nat.le_of_ble_eq_true rfl⟩ 0 9 (T := TX9) (N := 17) rfl rfl rfl rfl (Nat.le_of_ble_eq_true rfl) ⟨Nat.zero_le _, Nat.zero_le _⟩ dX9_runsResolve_19 (fun H locs hw => ?_)
    refine lv_goto (tgt := 32) hx hb dX9_runsResolve_22 (by decide) ?_
    refine lv_istore_n (lv' := [(2, .int p10), (0, .ref (h 0)), (1, .int x1)]) hx hb dX9_runsResolve_32 rfl hl (by decide) rfl (fun ls hl => ?_)
    refine lv_iload_n hx hb dX9_runsResolve_33 rfl (lv_at hl 0 rfl) ?_
    refine lv_if_eq (tgt := 42) hx hb dX9_runsResolve_34 (by decide) (fun c12 => ?_) (fun c12 => ?_)
    · replace hM := i_pos hM c12
      refine lv_iconst (v := 1) hx hb dX9_runsResolve_42 (by decide) ?_
      refine lv_goto (tgt := 47) hx hb dX9_runsResolve_43 (by decide) ?_
      cases hM
      exact q_retz E hw (by decide) dX9_runsResolve_47
    · replace hM := i_neg hM c12
      refine lv_iload_n hx hb dX9_runsResolve_37 rfl (lv_at hl 0 rfl) ?_
      refine lv_iconst (v := 1) hx hb dX9_runsResolve_38 (by decide) ?_
      refine lv_icmp_ne (tgt := 46) hx hb dX9_runsResolve_39 (by decide) (fun c13 => ?_) (fun c13 => ?_)
      · replace hM := i_neg hM c13
        refine lv_iconst (v := 0) hx hb dX9_runsResolve_46 (by decide) ?_
        cases hM
        exact q_retz E hw (by decide) dX9_runsResolve_47
      · replace hM := i_pos hM c13
        refine lv_iconst (v := 1) hx hb dX9_runsResolve_42 (by decide) ?_
        refine lv_goto (tgt := 47) hx hb dX9_runsResolve_43 (by decide) ?_
        cases hM
        exact q_retz E hw (by decide) dX9_runsResolve_47
def f_X9_grow    (x1 : Int32) (x2 : Int32) (σ : Sg) (wd : Int64) : Option (Sg) := (f_X9_ticket x1 x2 σ wd).bind (fun p1 => (f_X9_setTicket x1 x2 (p1 + 1) σ wd).bind (fun p3 => some p3))
set_option maxRecDepth 100000 in
set_option maxHeartbeats 4000000 in
theorem c_X9_grow (l : Launch) (D : va_G) (cA : Nat → ClassId) (tS : Nat → Nat) (A : Nat → Prop) (h : Nat → Nat) (F : va_W) (x1 : Int32) (x2 : Int32) (σ : Sg) (wd : Int64) (s0 : Sg) (hM : f_X9_grow x1 x2 σ wd = some s0) : Ct l yX9_grow (Cond.code yX9_grow cX9_grow 3 none :: bw) 1 23 D cA tS A [.ref (h 0), .int x1, .int x2] (wM cA h σ wd ++ F) none (wM cA h s0 wd ++ F) := by
  refine ct_of (by decide +kernel) (Nat.le_of_ble_eq_true rfl) ?_
  intro p e s m below meth c E hw ls hl
  replace E : Ev p cX9_grow 3 none RX9 (Cond.code yX9_grow cX9_grow 3 none :: bw) D cA tS A s m _ meth c := E
  replace hl : lv_has ls 3 [(0, .ref (h 0)), (1, .int x1), (2, .int x2)] := hl
  have hx := E.1.1
  have hb := E.1.2.1
  unfold f_X9_grow at hM
  refine lv_aload_n hx hb dX9_grow_0 rfl (lv_at hl 0 rfl) ?_
  refine lv_iload_n hx hb dX9_grow_1 rfl (lv_at hl 1 rfl) ?_
  refine lv_iload_n hx hb dX9_grow_2 rfl (lv_at hl 2 rfl) ?_
  refine lv_aload_n hx hb dX9_grow_3 rfl (lv_at hl 0 rfl) ?_
  refine lv_iload_n hx hb dX9_grow_4 rfl (lv_at hl 1 rfl) ?_
  refine lv_iload_n hx hb dX9_grow_5 rfl (lv_at hl 2 rfl) ?_
  obtain ⟨p1, h2, hM⟩ := b_some hM
  refine q_cv (As := [.int x1, .int x2]) (rest := [.int x2, .int x1, .ref (h 0)]) E hw hl (c_X9_ticket l D cA tS A h F x1 x2 σ wd p1 h2) 2 (bwV bw_c tb_1253 tb_1255 tb_52 tb_112 tb_1256) rfl (by decide +kernel) ⟨Nat.le_of_ble_eq_true rfl, Nat.le_of_ble_eq_true rfl⟩ 0 9 (T := TX9) (N := 17) rfl rfl rfl rfl (Nat.le_of_ble_eq_true rfl) ⟨Nat.zero_le _, Nat.zero_le _⟩ dX9_grow_6 (fun H locs hw => ?_)
  refine lv_iconst (v := 1) hx hb dX9_grow_9 (by decide) ?_
  refine lv_iadd hx hb dX9_grow_10 ?_
  obtain ⟨p3, h4, hM⟩ := b_some hM
  refine q_cvv (As := [.int x1, .int x2, .int (p1 + 1)]) (rest := []) E hw hl (c_X9_setTicket l D cA tS A h F x1 x2 (p1 + 1) σ wd p3 h4) 3 (bwV bw_c tb_1285 tb_1287 tb_60 tb_112 tb_1288) rfl (by decide +kernel) ⟨Nat.le_of_ble_eq_true rfl, Nat.le_of_ble_eq_true rfl⟩ 0 9 (T := TX9) (N := 17) rfl rfl rfl rfl (Nat.le_of_ble_eq_true rfl) ⟨Nat.zero_le _, Nat.zero_le _⟩ dX9_grow_11 (fun H locs hw => ?_)
  cases hM
  exact q_retv E hw dX9_grow_14
def f_X9_noteBreach    (x1 : Int32) (x2 : Int32) (x3 : Int32) (x4 : Int32) (x5 : Int32) (σ : Sg) (wd : Int64) : Option (Sg) := (f_X9_ticket x1 x3 σ wd).bind (fun p1 => (if p1 = 0 then (f_X9_ticket x1 x2 σ wd).bind (fun p4 => (f_X9_ofKind x1 x4 σ wd).bind (fun p6 => (if p4 ≤ p6 then some σ else (f_X9_setTicket x1 x3 1 σ wd).bind (fun p9 => (f_X9_ofKind x1 x4 p9 wd).bind (fun p11 => (f_X9_log ((p9 1 (ix 0)) + 1) x5 x1 p11 p9 wd).bind (fun p13 => some p13)))))) else some σ))
set_option maxRecDepth 100000 in
set_option maxHeartbeats 4000000 in
theorem c_X9_noteBreach (l : Launch) (D : va_G) (cA : Nat → ClassId) (tS : Nat → Nat) (A : Nat → Prop) (h : Nat → Nat) (F : va_W) (x1 : Int32) (x2 : Int32) (x3 : Int32) (x4 : Int32) (x5 : Int32) (σ : Sg) (wd : Int64) (s0 : Sg) (hM : f_X9_noteBreach x1 x2 x3 x4 x5 σ wd = some s0) : Ct l yX9_noteBreach (Cond.code yX9_noteBreach cX9_noteBreach 6 none :: bw) 2 44 D cA tS A [.ref (h 0), .int x1, .int x2, .int x3, .int x4, .int x5] (wM cA h σ wd ++ F) none (wM cA h s0 wd ++ F) := by
  refine ct_of (by decide +kernel) (Nat.le_of_ble_eq_true rfl) ?_
  intro p e s m below meth c E hw ls hl
  replace E : Ev p cX9_noteBreach 6 none RX9 (Cond.code yX9_noteBreach cX9_noteBreach 6 none :: bw) D cA tS A s m _ meth c := E
  replace hl : lv_has ls 6 [(0, .ref (h 0)), (1, .int x1), (2, .int x2), (3, .int x3), (4, .int x4), (5, .int x5)] := hl
  have hx := E.1.1
  have hb := E.1.2.1
  unfold f_X9_noteBreach at hM
  refine lv_aload_n hx hb dX9_noteBreach_0 rfl (lv_at hl 0 rfl) ?_
  refine lv_iload_n hx hb dX9_noteBreach_1 rfl (lv_at hl 1 rfl) ?_
  refine lv_iload_n hx hb dX9_noteBreach_2 rfl (lv_at hl 3 rfl) ?_
  obtain ⟨p1, h2, hM⟩ := b_some hM
  refine q_cv (As := [.int x1, .int x3]) (rest := []) E hw hl (c_X9_ticket l D cA tS A h F x1 x3 σ wd p1 h2) 2 (bwV bw_c tb_1253 tb_1255 tb_52 tb_112 tb_1256) rfl (by decide +kernel) ⟨Nat.le_of_ble_eq_true rfl, Nat.le_of_ble_eq_true rfl⟩ 0 9 (T := TX9) (N := 17) rfl rfl rfl rfl (Nat.le_of_ble_eq_true rfl) ⟨Nat.zero_le _, Nat.zero_le _⟩ dX9_noteBreach_3 (fun H locs hw => ?_)
  refine lv_if_ne (tgt := 54) hx hb dX9_noteBreach_6 (by decide) (fun c3 => ?_) (fun c3 => ?_)
  · replace hM := i_neg hM c3
    cases hM
    exact q_retv E hw dX9_noteBreach_54
  · replace hM := i_pos hM c3
    refine lv_aload_n hx hb dX9_noteBreach_9 rfl (lv_at hl 0 rfl) ?_
    refine lv_iload_n hx hb dX9_noteBreach_10 rfl (lv_at hl 1 rfl) ?_
    refine lv_iload_n hx hb dX9_noteBreach_11 rfl (lv_at hl 2 rfl) ?_
    obtain ⟨p4, h5, hM⟩ := b_some hM
    refine q_cv (As := [.int x1, .int x2]) (rest := []) E hw hl (c_X9_ticket l D cA tS A h F x1 x2 σ wd p4 h5) 2 (bwV bw_c tb_1253 tb_1255 tb_52 tb_112 tb_1256) rfl (by decide +kernel) ⟨Nat.le_of_ble_eq_true rfl, Nat.le_of_ble_eq_true rfl⟩ 0 9 (T := TX9) (N := 17) rfl rfl rfl rfl (Nat.le_of_ble_eq_true rfl) ⟨Nat.zero_le _, Nat.zero_le _⟩ dX9_noteBreach_12 (fun H locs hw => ?_)
    refine lv_aload_n hx hb dX9_noteBreach_15 rfl (lv_at hl 0 rfl) ?_
    refine lv_iload_n hx hb dX9_noteBreach_16 rfl (lv_at hl 1 rfl) ?_
    refine lv_iload hx hb dX9_noteBreach_17 (lv_at hl 4 rfl) ?_
    obtain ⟨p6, h7, hM⟩ := b_some hM
    refine q_cv (As := [.int x1, .int x4]) (rest := [.int p4]) E hw hl (c_X9_ofKind l D cA tS A h F x1 x4 σ wd p6 h7) 2 (bwV bw_c tb_1415 tb_1417 tb_74 tb_112 tb_1418) rfl (by decide +kernel) ⟨Nat.le_of_ble_eq_true rfl, Nat.le_of_ble_eq_true rfl⟩ 0 9 (T := TX9) (N := 17) rfl rfl rfl rfl (Nat.le_of_ble_eq_true rfl) ⟨Nat.zero_le _, Nat.zero_le _⟩ dX9_noteBreach_19 (fun H locs hw => ?_)
    refine lv_icmp_le (tgt := 54) hx hb dX9_noteBreach_22 (by decide) (fun c8 => ?_) (fun c8 => ?_)
    · replace hM := i_pos hM c8
      cases hM
      exact q_retv E hw dX9_noteBreach_54
    · replace hM := i_neg hM c8
      refine lv_aload_n hx hb dX9_noteBreach_25 rfl (lv_at hl 0 rfl) ?_
      refine lv_iload_n hx hb dX9_noteBreach_26 rfl (lv_at hl 1 rfl) ?_
      refine lv_iload_n hx hb dX9_noteBreach_27 rfl (lv_at hl 3 rfl) ?_
      refine lv_iconst (v := 1) hx hb dX9_noteBreach_28 (by decide) ?_
      obtain ⟨p9, h10, hM⟩ := b_some hM
      refine q_cvv (As := [.int x1, .int x3, .int 1]) (rest := []) E hw hl (c_X9_setTicket l D cA tS A h F x1 x3 1 σ wd p9 h10) 3 (bwV bw_c tb_1285 tb_1287 tb_60 tb_112 tb_1288) rfl (by decide +kernel) ⟨Nat.le_of_ble_eq_true rfl, Nat.le_of_ble_eq_true rfl⟩ 0 9 (T := TX9) (N := 17) rfl rfl rfl rfl (Nat.le_of_ble_eq_true rfl) ⟨Nat.zero_le _, Nat.zero_le _⟩ dX9_noteBreach_29 (fun H locs hw => ?_)
      refine lv_aload_n hx hb dX9_noteBreach_32 rfl (lv_at hl 0 rfl) ?_
      refine lv_aload_n hx hb dX9_noteBreach_33 rfl (lv_at hl 0 rfl) ?_
      refine q_get (C := RX9) (T := TX9) (N := 17) (ci := 9) E (fun w h => List.mem_cons_of_mem _ (inX9 w h)) hw 0 rfl rfl 0 (by decide) (List.mem_cons_of_mem _ tb_1157) (v := .ref (h 1)) rfl dX9_noteBreach_34 ?_
      refine lv_iconst (v := 0) hx hb dX9_noteBreach_37 (by decide) ?_
      refine q_ald E hw 1 (n := 4619) rfl (by decide +kernel) (x := (p9 1 (ix 0))) rfl dX9_noteBreach_38 ?_
      refine lv_iconst (v := 1) hx hb dX9_noteBreach_39 (by decide) ?_
      refine lv_iadd hx hb dX9_noteBreach_40 ?_
      refine lv_iload hx hb dX9_noteBreach_41 (lv_at hl 5 rfl) ?_
      refine lv_iload_n hx hb dX9_noteBreach_43 rfl (lv_at hl 1 rfl) ?_
      refine lv_aload_n hx hb dX9_noteBreach_44 rfl (lv_at hl 0 rfl) ?_
      refine lv_iload_n hx hb dX9_noteBreach_45 rfl (lv_at hl 1 rfl) ?_
      refine lv_iload hx hb dX9_noteBreach_46 (lv_at hl 4 rfl) ?_
      obtain ⟨p11, h12, hM⟩ := b_some hM
      refine q_cv (As := [.int x1, .int x4]) (rest := [.int x1, .int x5, .int ((p9 1 (ix 0)) + 1), .ref (h 0)]) E hw hl (c_X9_ofKind l D cA tS A h F x1 x4 p9 wd p11 h12) 2 (bwV bw_c tb_1415 tb_1417 tb_74 tb_112 tb_1418) rfl (by decide +kernel) ⟨Nat.le_of_ble_eq_true rfl, Nat.le_of_ble_eq_true rfl⟩ 0 9 (T := TX9) (N := 17) rfl rfl rfl rfl (Nat.le_of_ble_eq_true rfl) ⟨Nat.zero_le _, Nat.zero_le _⟩ dX9_noteBreach_48 (fun H locs hw => ?_)
      obtain ⟨p13, h14, hM⟩ := b_some hM
      refine q_cvv (As := [.int ((p9 1 (ix 0)) + 1), .int x5, .int x1, .int p11]) (rest := []) E hw hl (c_X9_log l D cA tS A h F ((p9 1 (ix 0)) + 1) x5 x1 p11 p9 wd p13 h14) 4 (bwV bw_c tb_1293 tb_1295 tb_62 tb_112 tb_1296) rfl (by decide +kernel) ⟨Nat.le_of_ble_eq_true rfl, Nat.le_of_ble_eq_true rfl⟩ 0 9 (T := TX9) (N := 17) rfl rfl rfl rfl (Nat.le_of_ble_eq_true rfl) ⟨Nat.zero_le _, Nat.zero_le _⟩ dX9_noteBreach_51 (fun H locs hw => ?_)
      cases hM
      exact q_retv E hw dX9_noteBreach_54
def f_X9_runClocks_51    (x1 : Int32) (x3 : Int32) (σ : Sg) (wd : Int64) : Option (Sg) := (if x3 = 0 then some σ else (f_X9_grow x1 8 σ wd).bind (fun p2 => (f_X9_noteBreach x1 8 15 1 9 p2 wd).bind (fun p4 => some p4)))
set_option maxRecDepth 100000 in
set_option maxHeartbeats 4000000 in
theorem s_X9_runClocks_51 (l : Launch) (D : va_G) (cA : Nat → ClassId) (tS : Nat → Nat) (A : Nat → Prop) (h : Nat → Nat) (F : va_W) {p : Program} {e : Env} {s : State} {m : MethodId} {args : Array Value} {below : List Frame} {meth : Method} {c : Code} (E : Ev p cX9_runClocks 4 none RX9 (Cond.code yX9_runClocks cX9_runClocks 4 none :: bw) D cA tS A s m args meth c) : ∀ (x1 : Int32) (x3 : Int32) (σ : Sg) (wd : Int64) (s0 : Sg) (hM : f_X9_runClocks_51 x1 x3 σ wd = some s0) (H : Heap) (locs : List Loc) (hw : Wd D A (wM cA h σ wd ++ F) s.heap H locs) (ls : Array Slot) (hl : lv_has ls 4 [(0, .ref (h 0)), (1, .int x1), (3, .int x3)]), W p l e ({ frames := 3, cells := 0, slots := 0, locals := 69 } : Room) s m args below meth c H locs 0 0 (MQ below (QW D A none (wM cA h s0 wd ++ F)) args s 0 0 A) (F0 m 51 ls []) := by
  have hx := E.1.1
  have hb := E.1.2.1
  intro x1 x3 σ wd s0 hM H locs hw ls hl
  unfold f_X9_runClocks_51 at hM
  refine lv_iload_n hx hb dX9_runClocks_51 rfl (lv_at hl 2 rfl) ?_
  refine lv_if_eq (tgt := 74) hx hb dX9_runClocks_52 (by decide) (fun c1 => ?_) (fun c1 => ?_)
  · replace hM := i_pos hM c1
    cases hM
    exact q_retv E hw dX9_runClocks_74
  · replace hM := i_neg hM c1
    refine lv_aload_n hx hb dX9_runClocks_55 rfl (lv_at hl 0 rfl) ?_
    refine lv_iload_n hx hb dX9_runClocks_56 rfl (lv_at hl 1 rfl) ?_
    refine lv_bipush (v := 8) hx hb dX9_runClocks_57 (by decide) ?_
    obtain ⟨p2, h3, hM⟩ := b_some hM
    refine q_cvv (As := [.int x1, .int 8]) (rest := []) E hw hl (c_X9_grow l D cA tS A h F x1 8 σ wd p2 h3) 2 (bwV bw_c tb_1435 tb_1437 tb_79 tb_112 tb_1438) rfl (by decide +kernel) ⟨Nat.le_of_ble_eq_true rfl, Nat.le_of_ble_eq_true rfl⟩ 0 9 (T := TX9) (N := 17) rfl rfl rfl rfl (Nat.le_of_ble_eq_true rfl) ⟨Nat.zero_le _, Nat.zero_le _⟩ dX9_runClocks_59 (fun H locs hw => ?_)
    refine lv_aload_n hx hb dX9_runClocks_62 rfl (lv_at hl 0 rfl) ?_
    refine lv_iload_n hx hb dX9_runClocks_63 rfl (lv_at hl 1 rfl) ?_
    refine lv_bipush (v := 8) hx hb dX9_runClocks_64 (by decide) ?_
    refine lv_bipush (v := 15) hx hb dX9_runClocks_66 (by decide) ?_
    refine lv_iconst (v := 1) hx hb dX9_runClocks_68 (by decide) ?_
    refine lv_bipush (v := 9) hx hb dX9_runClocks_69 (by decide) ?_
    obtain ⟨p4, h5, hM⟩ := b_some hM
    refine q_cvv (As := [.int x1, .int 8, .int 15, .int 1, .int 9]) (rest := []) E hw hl (c_X9_noteBreach l D cA tS A h F x1 8 15 1 9 p2 wd p4 h5) 5 (bwV bw_c tb_1439 tb_1441 tb_80 tb_112 tb_1442) rfl (by decide +kernel) ⟨Nat.le_of_ble_eq_true rfl, Nat.le_of_ble_eq_true rfl⟩ 0 9 (T := TX9) (N := 17) rfl rfl rfl rfl (Nat.le_of_ble_eq_true rfl) ⟨Nat.zero_le _, Nat.zero_le _⟩ dX9_runClocks_71 (fun H locs hw => ?_)
    cases hM
    exact q_retv E hw dX9_runClocks_74
def f_X9_runClocks_28    (x1 : Int32) (x2 : Int32) (x3 : Int32) (σ : Sg) (wd : Int64) : Option (Sg) := (if x2 = 0 then f_X9_runClocks_51 x1 x3 σ wd else (f_X9_grow x1 7 σ wd).bind (fun p2 => (f_X9_noteBreach x1 7 14 0 8 p2 wd).bind (fun p4 => f_X9_runClocks_51 x1 x3 p4 wd)))
set_option maxRecDepth 100000 in
set_option maxHeartbeats 4000000 in
theorem s_X9_runClocks_28 (l : Launch) (D : va_G) (cA : Nat → ClassId) (tS : Nat → Nat) (A : Nat → Prop) (h : Nat → Nat) (F : va_W) {p : Program} {e : Env} {s : State} {m : MethodId} {args : Array Value} {below : List Frame} {meth : Method} {c : Code} (E : Ev p cX9_runClocks 4 none RX9 (Cond.code yX9_runClocks cX9_runClocks 4 none :: bw) D cA tS A s m args meth c) : ∀ (x1 : Int32) (x2 : Int32) (x3 : Int32) (σ : Sg) (wd : Int64) (s0 : Sg) (hM : f_X9_runClocks_28 x1 x2 x3 σ wd = some s0) (H : Heap) (locs : List Loc) (hw : Wd D A (wM cA h σ wd ++ F) s.heap H locs) (ls : Array Slot) (hl : lv_has ls 4 [(0, .ref (h 0)), (1, .int x1), (2, .int x2), (3, .int x3)]), W p l e ({ frames := 3, cells := 0, slots := 0, locals := 69 } : Room) s m args below meth c H locs 0 0 (MQ below (QW D A none (wM cA h s0 wd ++ F)) args s 0 0 A) (F0 m 28 ls []) := by
  have hx := E.1.1
  have hb := E.1.2.1
  intro x1 x2 x3 σ wd s0 hM H locs hw ls hl
  unfold f_X9_runClocks_28 at hM
  refine lv_iload_n hx hb dX9_runClocks_28 rfl (lv_at hl 2 rfl) ?_
  refine lv_if_eq (tgt := 51) hx hb dX9_runClocks_29 (by decide) (fun c1 => ?_) (fun c1 => ?_)
  · replace hM := i_pos hM c1
    exact s_X9_runClocks_51 l D cA tS A h F E _ _ _ _ _ hM _ _ hw _ (lv_sub hl [0, 1, 3] rfl)
  · replace hM := i_neg hM c1
    refine lv_aload_n hx hb dX9_runClocks_32 rfl (lv_at hl 0 rfl) ?_
    refine lv_iload_n hx hb dX9_runClocks_33 rfl (lv_at hl 1 rfl) ?_
    refine lv_bipush (v := 7) hx hb dX9_runClocks_34 (by decide) ?_
    obtain ⟨p2, h3, hM⟩ := b_some hM
    refine q_cvv (As := [.int x1, .int 7]) (rest := []) E hw hl (c_X9_grow l D cA tS A h F x1 7 σ wd p2 h3) 2 (bwV bw_c tb_1435 tb_1437 tb_79 tb_112 tb_1438) rfl (by decide +kernel) ⟨Nat.le_of_ble_eq_true rfl, Nat.le_of_ble_eq_true rfl⟩ 0 9 (T := TX9) (N := 17) rfl rfl rfl rfl (Nat.le_of_ble_eq_true rfl) ⟨Nat.zero_le _, Nat.zero_le _⟩ dX9_runClocks_36 (fun H locs hw => ?_)
    refine lv_aload_n hx hb dX9_runClocks_39 rfl (lv_at hl 0 rfl) ?_
    refine lv_iload_n hx hb dX9_runClocks_40 rfl (lv_at hl 1 rfl) ?_
    refine lv_bipush (v := 7) hx hb dX9_runClocks_41 (by decide) ?_
    refine lv_bipush (v := 14) hx hb dX9_runClocks_43 (by decide) ?_
    refine lv_iconst (v := 0) hx hb dX9_runClocks_45 (by decide) ?_
    refine lv_bipush (v := 8) hx hb dX9_runClocks_46 (by decide) ?_
    obtain ⟨p4, h5, hM⟩ := b_some hM
    refine q_cvv (As := [.int x1, .int 7, .int 14, .int 0, .int 8]) (rest := []) E hw hl (c_X9_noteBreach l D cA tS A h F x1 7 14 0 8 p2 wd p4 h5) 5 (bwV bw_c tb_1439 tb_1441 tb_80 tb_112 tb_1442) rfl (by decide +kernel) ⟨Nat.le_of_ble_eq_true rfl, Nat.le_of_ble_eq_true rfl⟩ 0 9 (T := TX9) (N := 17) rfl rfl rfl rfl (Nat.le_of_ble_eq_true rfl) ⟨Nat.zero_le _, Nat.zero_le _⟩ dX9_runClocks_48 (fun H locs hw => ?_)
    exact s_X9_runClocks_51 l D cA tS A h F E _ _ _ _ _ hM _ _ hw _ (lv_sub hl [0, 1, 3] rfl)
def f_X9_runClocks    (x1 : Int32) (σ : Sg) (wd : Int64) : Option (Sg) := (f_X9_runsResponse x1 σ wd).bind (fun p1 => (f_X9_runsResolve x1 σ wd).bind (fun p3 => (f_X9_is x1 0 σ wd).bind (fun p5 => (if p5 = 0 then f_X9_runClocks_28 x1 p1 p3 σ wd else (f_X9_grow x1 6 σ wd).bind (fun p8 => f_X9_runClocks_28 x1 p1 p3 p8 wd)))))
set_option maxRecDepth 100000 in
set_option maxHeartbeats 4000000 in
theorem c_X9_runClocks (l : Launch) (D : va_G) (cA : Nat → ClassId) (tS : Nat → Nat) (A : Nat → Prop) (h : Nat → Nat) (F : va_W) (x1 : Int32) (σ : Sg) (wd : Int64) (s0 : Sg) (hM : f_X9_runClocks x1 σ wd = some s0) : Ct l yX9_runClocks (Cond.code yX9_runClocks cX9_runClocks 4 none :: bw) 3 69 D cA tS A [.ref (h 0), .int x1] (wM cA h σ wd ++ F) none (wM cA h s0 wd ++ F) := by
  refine ct_of (by decide +kernel) (Nat.le_of_ble_eq_true rfl) ?_
  intro p e s m below meth c E hw ls hl
  replace E : Ev p cX9_runClocks 4 none RX9 (Cond.code yX9_runClocks cX9_runClocks 4 none :: bw) D cA tS A s m _ meth c := E
  replace hl : lv_has ls 4 [(0, .ref (h 0)), (1, .int x1)] := hl
  have hx := E.1.1
  have hb := E.1.2.1
  unfold f_X9_runClocks at hM
  refine lv_aload_n hx hb dX9_runClocks_0 rfl (lv_at hl 0 rfl) ?_
  refine lv_iload_n hx hb dX9_runClocks_1 rfl (lv_at hl 1 rfl) ?_
  obtain ⟨p1, h2, hM⟩ := b_some hM
  refine q_cv (As := [.int x1]) (rest := []) E hw hl (c_X9_runsResponse l D cA tS A h F x1 σ wd p1 h2) 1 (bwV bw_c tb_1427 tb_1429 tb_77 tb_112 tb_1430) rfl (by decide +kernel) ⟨Nat.le_of_ble_eq_true rfl, Nat.le_of_ble_eq_true rfl⟩ 0 9 (T := TX9) (N := 17) rfl rfl rfl rfl (Nat.le_of_ble_eq_true rfl) ⟨Nat.zero_le _, Nat.zero_le _⟩ dX9_runClocks_2 (fun H locs hw => ?_)
  refine lv_istore_n (lv' := [(2, .int p1), (0, .ref (h 0)), (1, .int x1)]) hx hb dX9_runClocks_5 rfl hl (by decide) rfl (fun ls hl => ?_)
  refine lv_aload_n hx hb dX9_runClocks_6 rfl (lv_at hl 1 rfl) ?_
  refine lv_iload_n hx hb dX9_runClocks_7 rfl (lv_at hl 2 rfl) ?_
  obtain ⟨p3, h4, hM⟩ := b_some hM
  refine q_cv (As := [.int x1]) (rest := []) E hw hl (c_X9_runsResolve l D cA tS A h F x1 σ wd p3 h4) 1 (bwV bw_c tb_1431 tb_1433 tb_78 tb_112 tb_1434) rfl (by decide +kernel) ⟨Nat.le_of_ble_eq_true rfl, Nat.le_of_ble_eq_true rfl⟩ 0 9 (T := TX9) (N := 17) rfl rfl rfl rfl (Nat.le_of_ble_eq_true rfl) ⟨Nat.zero_le _, Nat.zero_le _⟩ dX9_runClocks_8 (fun H locs hw => ?_)
  refine lv_istore_n (lv' := [(3, .int p3), (2, .int p1), (0, .ref (h 0)), (1, .int x1)]) hx hb dX9_runClocks_11 rfl hl (by decide) rfl (fun ls hl => ?_)
  refine lv_aload_n hx hb dX9_runClocks_12 rfl (lv_at hl 2 rfl) ?_
  refine lv_iload_n hx hb dX9_runClocks_13 rfl (lv_at hl 3 rfl) ?_
  refine lv_iconst (v := 0) hx hb dX9_runClocks_14 (by decide) ?_
  obtain ⟨p5, h6, hM⟩ := b_some hM
  refine q_cv (As := [.int x1, .int 0]) (rest := []) E hw hl (c_X9_is l D cA tS A h F x1 0 σ wd p5 h6) 2 (bwV bw_c tb_1261 tb_1263 tb_54 tb_112 tb_1264) rfl (by decide +kernel) ⟨Nat.le_of_ble_eq_true rfl, Nat.le_of_ble_eq_true rfl⟩ 0 9 (T := TX9) (N := 17) rfl rfl rfl rfl (Nat.le_of_ble_eq_true rfl) ⟨Nat.zero_le _, Nat.zero_le _⟩ dX9_runClocks_15 (fun H locs hw => ?_)
  refine lv_if_eq (tgt := 28) hx hb dX9_runClocks_18 (by decide) (fun c7 => ?_) (fun c7 => ?_)
  · replace hM := i_pos hM c7
    exact s_X9_runClocks_28 l D cA tS A h F E _ _ _ _ _ _ hM _ _ hw _ (lv_sub hl [2, 3, 1, 0] rfl)
  · replace hM := i_neg hM c7
    refine lv_aload_n hx hb dX9_runClocks_21 rfl (lv_at hl 2 rfl) ?_
    refine lv_iload_n hx hb dX9_runClocks_22 rfl (lv_at hl 3 rfl) ?_
    refine lv_bipush (v := 6) hx hb dX9_runClocks_23 (by decide) ?_
    obtain ⟨p8, h9, hM⟩ := b_some hM
    refine q_cvv (As := [.int x1, .int 6]) (rest := []) E hw hl (c_X9_grow l D cA tS A h F x1 6 σ wd p8 h9) 2 (bwV bw_c tb_1435 tb_1437 tb_79 tb_112 tb_1438) rfl (by decide +kernel) ⟨Nat.le_of_ble_eq_true rfl, Nat.le_of_ble_eq_true rfl⟩ 0 9 (T := TX9) (N := 17) rfl rfl rfl rfl (Nat.le_of_ble_eq_true rfl) ⟨Nat.zero_le _, Nat.zero_le _⟩ dX9_runClocks_25 (fun H locs hw => ?_)
    exact s_X9_runClocks_28 l D cA tS A h F E _ _ _ _ _ _ hM _ _ hw _ (lv_sub hl [2, 3, 1, 0] rfl)
def f_X9_workOn (N : Nat)   (x1 : Int32) (σ : Sg) (wd : Int64) : Option (Int32 × Sg) := (f_X9_grow x1 5 σ wd).bind (fun p1 => (f_X9_ticket x1 5 p1 wd).bind (fun p3 => (f_X9_ofKind x1 2 p1 wd).bind (fun p5 => (if p5 ≤ p3 then (f_X9_ticket x1 4 p1 wd).bind (fun p8 => (f_X9_ofKind x1 3 p1 wd).bind (fun p10 => (if p8 < p10 then (f_X9_letClimb x1 ((p1 1 (ix 0)) + 1) p1 wd).bind (fun p13 => some (0, p13)) else (f_X9_makeSolved N x1 ((p1 1 (ix 0)) + 1) p1 wd).bind (fun p15 => some (p15.1, p15.2))))) else some (0, p1)))))
set_option maxRecDepth 100000 in
set_option maxHeartbeats 4000000 in
theorem c_X9_workOn (l : Launch) (D : va_G) (cA : Nat → ClassId) (tS : Nat → Nat) (A : Nat → Prop) (h : Nat → Nat) (F : va_W) (N : Nat) (x1 : Int32) (σ : Sg) (wd : Int64) (r0 : Int32) (s0 : Sg) (hM : f_X9_workOn N x1 σ wd = some (r0, s0)) : Ct l yX9_workOn (Cond.code yX9_workOn cX9_workOn 2 (some .int) :: bw) 3 71 D cA tS A [.ref (h 0), .int x1] (wM cA h σ wd ++ F) (some (.int r0)) (wM cA h s0 wd ++ F) := by
  refine ct_of (by decide +kernel) (Nat.le_of_ble_eq_true rfl) ?_
  intro p e s m below meth c E hw ls hl
  replace E : Ev p cX9_workOn 2 (some .int) RX9 (Cond.code yX9_workOn cX9_workOn 2 (some .int) :: bw) D cA tS A s m _ meth c := E
  replace hl : lv_has ls 2 [(0, .ref (h 0)), (1, .int x1)] := hl
  have hx := E.1.1
  have hb := E.1.2.1
  unfold f_X9_workOn at hM
  refine lv_aload_n hx hb dX9_workOn_0 rfl (lv_at hl 0 rfl) ?_
  refine lv_iload_n hx hb dX9_workOn_1 rfl (lv_at hl 1 rfl) ?_
  refine lv_iconst (v := 5) hx hb dX9_workOn_2 (by decide) ?_
  obtain ⟨p1, h2, hM⟩ := b_some hM
  refine q_cvv (As := [.int x1, .int 5]) (rest := []) E hw hl (c_X9_grow l D cA tS A h F x1 5 σ wd p1 h2) 2 (bwV bw_c tb_1435 tb_1437 tb_79 tb_112 tb_1438) rfl (by decide +kernel) ⟨Nat.le_of_ble_eq_true rfl, Nat.le_of_ble_eq_true rfl⟩ 0 9 (T := TX9) (N := 17) rfl rfl rfl rfl (Nat.le_of_ble_eq_true rfl) ⟨Nat.zero_le _, Nat.zero_le _⟩ dX9_workOn_3 (fun H locs hw => ?_)
  refine lv_aload_n hx hb dX9_workOn_6 rfl (lv_at hl 0 rfl) ?_
  refine lv_iload_n hx hb dX9_workOn_7 rfl (lv_at hl 1 rfl) ?_
  refine lv_iconst (v := 5) hx hb dX9_workOn_8 (by decide) ?_
  obtain ⟨p3, h4, hM⟩ := b_some hM
  refine q_cv (As := [.int x1, .int 5]) (rest := []) E hw hl (c_X9_ticket l D cA tS A h F x1 5 p1 wd p3 h4) 2 (bwV bw_c tb_1253 tb_1255 tb_52 tb_112 tb_1256) rfl (by decide +kernel) ⟨Nat.le_of_ble_eq_true rfl, Nat.le_of_ble_eq_true rfl⟩ 0 9 (T := TX9) (N := 17) rfl rfl rfl rfl (Nat.le_of_ble_eq_true rfl) ⟨Nat.zero_le _, Nat.zero_le _⟩ dX9_workOn_9 (fun H locs hw => ?_)
  refine lv_aload_n hx hb dX9_workOn_12 rfl (lv_at hl 0 rfl) ?_
  refine lv_iload_n hx hb dX9_workOn_13 rfl (lv_at hl 1 rfl) ?_
  refine lv_iconst (v := 2) hx hb dX9_workOn_14 (by decide) ?_
  obtain ⟨p5, h6, hM⟩ := b_some hM
  refine q_cv (As := [.int x1, .int 2]) (rest := [.int p3]) E hw hl (c_X9_ofKind l D cA tS A h F x1 2 p1 wd p5 h6) 2 (bwV bw_c tb_1415 tb_1417 tb_74 tb_112 tb_1418) rfl (by decide +kernel) ⟨Nat.le_of_ble_eq_true rfl, Nat.le_of_ble_eq_true rfl⟩ 0 9 (T := TX9) (N := 17) rfl rfl rfl rfl (Nat.le_of_ble_eq_true rfl) ⟨Nat.zero_le _, Nat.zero_le _⟩ dX9_workOn_15 (fun H locs hw => ?_)
  refine lv_icmp_ge (tgt := 23) hx hb dX9_workOn_18 (by decide) (fun c7 => ?_) (fun c7 => ?_)
  · replace hM := i_pos hM c7
    refine lv_aload_n hx hb dX9_workOn_23 rfl (lv_at hl 0 rfl) ?_
    refine lv_iload_n hx hb dX9_workOn_24 rfl (lv_at hl 1 rfl) ?_
    refine lv_iconst (v := 4) hx hb dX9_workOn_25 (by decide) ?_
    obtain ⟨p8, h9, hM⟩ := b_some hM
    refine q_cv (As := [.int x1, .int 4]) (rest := []) E hw hl (c_X9_ticket l D cA tS A h F x1 4 p1 wd p8 h9) 2 (bwV bw_c tb_1253 tb_1255 tb_52 tb_112 tb_1256) rfl (by decide +kernel) ⟨Nat.le_of_ble_eq_true rfl, Nat.le_of_ble_eq_true rfl⟩ 0 9 (T := TX9) (N := 17) rfl rfl rfl rfl (Nat.le_of_ble_eq_true rfl) ⟨Nat.zero_le _, Nat.zero_le _⟩ dX9_workOn_26 (fun H locs hw => ?_)
    refine lv_aload_n hx hb dX9_workOn_29 rfl (lv_at hl 0 rfl) ?_
    refine lv_iload_n hx hb dX9_workOn_30 rfl (lv_at hl 1 rfl) ?_
    refine lv_iconst (v := 3) hx hb dX9_workOn_31 (by decide) ?_
    obtain ⟨p10, h11, hM⟩ := b_some hM
    refine q_cv (As := [.int x1, .int 3]) (rest := [.int p8]) E hw hl (c_X9_ofKind l D cA tS A h F x1 3 p1 wd p10 h11) 2 (bwV bw_c tb_1415 tb_1417 tb_74 tb_112 tb_1418) rfl (by decide +kernel) ⟨Nat.le_of_ble_eq_true rfl, Nat.le_of_ble_eq_true rfl⟩ 0 9 (T := TX9) (N := 17) rfl rfl rfl rfl (Nat.le_of_ble_eq_true rfl) ⟨Nat.zero_le _, Nat.zero_le _⟩ dX9_workOn_32 (fun H locs hw => ?_)
    refine lv_icmp_lt (tgt := 52) hx hb dX9_workOn_35 (by decide) (fun c12 => ?_) (fun c12 => ?_)
    · replace hM := i_pos hM c12
      refine lv_aload_n hx hb dX9_workOn_52 rfl (lv_at hl 0 rfl) ?_
      refine lv_iload_n hx hb dX9_workOn_53 rfl (lv_at hl 1 rfl) ?_
      refine lv_aload_n hx hb dX9_workOn_54 rfl (lv_at hl 0 rfl) ?_
      refine q_get (C := RX9) (T := TX9) (N := 17) (ci := 9) E (fun w h => List.mem_cons_of_mem _ (inX9 w h)) hw 0 rfl rfl 0 (by decide) (List.mem_cons_of_mem _ tb_1157) (v := .ref (h 1)) rfl dX9_workOn_55 ?_
      refine lv_iconst (v := 0) hx hb dX9_workOn_58 (by decide) ?_
      refine q_ald E hw 1 (n := 4619) rfl (by decide +kernel) (x := (p1 1 (ix 0))) rfl dX9_workOn_59 ?_
      refine lv_iconst (v := 1) hx hb dX9_workOn_60 (by decide) ?_
      refine lv_iadd hx hb dX9_workOn_61 ?_
      obtain ⟨p13, h14, hM⟩ := b_some hM
      refine q_cvv (As := [.int x1, .int ((p1 1 (ix 0)) + 1)]) (rest := []) E hw hl (c_X9_letClimb l D cA tS A h F x1 ((p1 1 (ix 0)) + 1) p1 wd p13 h14) 2 (bwV bw_c tb_1297 tb_1299 tb_63 tb_112 tb_1300) rfl (by decide +kernel) ⟨Nat.le_of_ble_eq_true rfl, Nat.le_of_ble_eq_true rfl⟩ 0 9 (T := TX9) (N := 17) rfl rfl rfl rfl (Nat.le_of_ble_eq_true rfl) ⟨Nat.zero_le _, Nat.zero_le _⟩ dX9_workOn_62 (fun H locs hw => ?_)
      refine lv_iconst (v := 0) hx hb dX9_workOn_65 (by decide) ?_
      cases hM
      exact q_reti E hw dX9_workOn_66
    · replace hM := i_neg hM c12
      refine lv_aload_n hx hb dX9_workOn_38 rfl (lv_at hl 0 rfl) ?_
      refine lv_iload_n hx hb dX9_workOn_39 rfl (lv_at hl 1 rfl) ?_
      refine lv_aload_n hx hb dX9_workOn_40 rfl (lv_at hl 0 rfl) ?_
      refine q_get (C := RX9) (T := TX9) (N := 17) (ci := 9) E (fun w h => List.mem_cons_of_mem _ (inX9 w h)) hw 0 rfl rfl 0 (by decide) (List.mem_cons_of_mem _ tb_1157) (v := .ref (h 1)) rfl dX9_workOn_41 ?_
      refine lv_iconst (v := 0) hx hb dX9_workOn_44 (by decide) ?_
      refine q_ald E hw 1 (n := 4619) rfl (by decide +kernel) (x := (p1 1 (ix 0))) rfl dX9_workOn_45 ?_
      refine lv_iconst (v := 1) hx hb dX9_workOn_46 (by decide) ?_
      refine lv_iadd hx hb dX9_workOn_47 ?_
      obtain ⟨p15, h16, hM⟩ := b_some hM
      refine q_cv (As := [.int x1, .int ((p1 1 (ix 0)) + 1)]) (rest := []) E hw hl (c_X9_makeSolved l D cA tS A h F N x1 ((p1 1 (ix 0)) + 1) p1 wd p15.1 p15.2 h16) 2 (bwV bw_c tb_1301 tb_1303 tb_64 tb_112 tb_1304) rfl (by decide +kernel) ⟨Nat.le_of_ble_eq_true rfl, Nat.le_of_ble_eq_true rfl⟩ 0 9 (T := TX9) (N := 17) rfl rfl rfl rfl (Nat.le_of_ble_eq_true rfl) ⟨Nat.zero_le _, Nat.zero_le _⟩ dX9_workOn_48 (fun H locs hw => ?_)
      cases hM
      exact q_reti E hw dX9_workOn_51
  · replace hM := i_neg hM c7
    refine lv_iconst (v := 0) hx hb dX9_workOn_21 (by decide) ?_
    cases hM
    exact q_reti E hw dX9_workOn_22
def f_X9_climbsByItself    (x1 : Int32) (σ : Sg) (wd : Int64) : Option (Int32) := (f_X9_ofKind x1 4 σ wd).bind (fun p1 => (f_X9_is x1 0 σ wd).bind (fun p3 => (if p3 = 0 then some 0 else (if p1 ≤ 0 then some 0 else (f_X9_ticket x1 6 σ wd).bind (fun p7 => (if p7 < p1 then some 0 else (f_X9_ticket x1 4 σ wd).bind (fun p10 => (if 3 ≤ p10 then some 0 else some 1))))))))
set_option maxRecDepth 100000 in
set_option maxHeartbeats 4000000 in
theorem c_X9_climbsByItself (l : Launch) (D : va_G) (cA : Nat → ClassId) (tS : Nat → Nat) (A : Nat → Prop) (h : Nat → Nat) (F : va_W) (x1 : Int32) (σ : Sg) (wd : Int64) (r0 : Int32) (hM : f_X9_climbsByItself x1 σ wd = some r0) : Ct l yX9_climbsByItself (Cond.code yX9_climbsByItself cX9_climbsByItself 3 (some .boolean) :: bw) 2 44 D cA tS A [.ref (h 0), .int x1] (wM cA h σ wd ++ F) (some (.int r0)) (wM cA h σ wd ++ F) := by
  refine ct_of (by decide +kernel) (Nat.le_of_ble_eq_true rfl) ?_
  intro p e s m below meth c E hw ls hl
  replace E : Ev p cX9_climbsByItself 3 (some .boolean) RX9 (Cond.code yX9_climbsByItself cX9_climbsByItself 3 (some .boolean) :: bw) D cA tS A s m _ meth c := E
  replace hl : lv_has ls 3 [(0, .ref (h 0)), (1, .int x1)] := hl
  have hx := E.1.1
  have hb := E.1.2.1
  unfold f_X9_climbsByItself at hM
  refine lv_aload_n hx hb dX9_climbsByItself_0 rfl (lv_at hl 0 rfl) ?_
  refine lv_iload_n hx hb dX9_climbsByItself_1 rfl (lv_at hl 1 rfl) ?_
  refine lv_iconst (v := 4) hx hb dX9_climbsByItself_2 (by decide) ?_
  obtain ⟨p1, h2, hM⟩ := b_some hM
  refine q_cv (As := [.int x1, .int 4]) (rest := []) E hw hl (c_X9_ofKind l D cA tS A h F x1 4 σ wd p1 h2) 2 (bwV bw_c tb_1415 tb_1417 tb_74 tb_112 tb_1418) rfl (by decide +kernel) ⟨Nat.le_of_ble_eq_true rfl, Nat.le_of_ble_eq_true rfl⟩ 0 9 (T := TX9) (N := 17) rfl rfl rfl rfl (Nat.le_of_ble_eq_true rfl) ⟨Nat.zero_le _, Nat.zero_le _⟩ dX9_climbsByItself_3 (fun H locs hw => ?_)
  refine lv_istore_n (lv' := [(2, .int p1), (0, .ref (h 0)), (1, .int x1)]) hx hb dX9_climbsByItself_6 rfl hl (by decide) rfl (fun ls hl => ?_)
  refine lv_aload_n hx hb dX9_climbsByItself_7 rfl (lv_at hl 1 rfl) ?_
  refine lv_iload_n hx hb dX9_climbsByItself_8 rfl (lv_at hl 2 rfl) ?_
  refine lv_iconst (v := 0) hx hb dX9_climbsByItself_9 (by decide) ?_
  obtain ⟨p3, h4, hM⟩ := b_some hM
  refine q_cv (As := [.int x1, .int 0]) (rest := []) E hw hl (c_X9_is l D cA tS A h F x1 0 σ wd p3 h4) 2 (bwV bw_c tb_1261 tb_1263 tb_54 tb_112 tb_1264) rfl (by decide +kernel) ⟨Nat.le_of_ble_eq_true rfl, Nat.le_of_ble_eq_true rfl⟩ 0 9 (T := TX9) (N := 17) rfl rfl rfl rfl (Nat.le_of_ble_eq_true rfl) ⟨Nat.zero_le _, Nat.zero_le _⟩ dX9_climbsByItself_10 (fun H locs hw => ?_)
  refine lv_if_eq (tgt := 45) hx hb dX9_climbsByItself_13 (by decide) (fun c5 => ?_) (fun c5 => ?_)
  · replace hM := i_pos hM c5
    refine lv_iconst (v := 0) hx hb dX9_climbsByItself_45 (by decide) ?_
    cases hM
    exact q_retz E hw (by decide) dX9_climbsByItself_46
  · replace hM := i_neg hM c5
    refine lv_iload_n hx hb dX9_climbsByItself_16 rfl (lv_at hl 0 rfl) ?_
    refine lv_if_le (tgt := 45) hx hb dX9_climbsByItself_17 (by decide) (fun c6 => ?_) (fun c6 => ?_)
    · replace hM := i_pos hM c6
      refine lv_iconst (v := 0) hx hb dX9_climbsByItself_45 (by decide) ?_
      cases hM
      exact q_retz E hw (by decide) dX9_climbsByItself_46
    · replace hM := i_neg hM c6
      refine lv_aload_n hx hb dX9_climbsByItself_20 rfl (lv_at hl 1 rfl) ?_
      refine lv_iload_n hx hb dX9_climbsByItself_21 rfl (lv_at hl 2 rfl) ?_
      refine lv_bipush (v := 6) hx hb dX9_climbsByItself_22 (by decide) ?_
      obtain ⟨p7, h8, hM⟩ := b_some hM
      refine q_cv (As := [.int x1, .int 6]) (rest := []) E hw hl (c_X9_ticket l D cA tS A h F x1 6 σ wd p7 h8) 2 (bwV bw_c tb_1253 tb_1255 tb_52 tb_112 tb_1256) rfl (by decide +kernel) ⟨Nat.le_of_ble_eq_true rfl, Nat.le_of_ble_eq_true rfl⟩ 0 9 (T := TX9) (N := 17) rfl rfl rfl rfl (Nat.le_of_ble_eq_true rfl) ⟨Nat.zero_le _, Nat.zero_le _⟩ dX9_climbsByItself_24 (fun H locs hw => ?_)
      refine lv_iload_n hx hb dX9_climbsByItself_27 rfl (lv_at hl 0 rfl) ?_
      refine lv_icmp_lt (tgt := 45) hx hb dX9_climbsByItself_28 (by decide) (fun c9 => ?_) (fun c9 => ?_)
      · replace hM := i_pos hM c9
        refine lv_iconst (v := 0) hx hb dX9_climbsByItself_45 (by decide) ?_
        cases hM
        exact q_retz E hw (by decide) dX9_climbsByItself_46
      · replace hM := i_neg hM c9
        refine lv_aload_n hx hb dX9_climbsByItself_31 rfl (lv_at hl 1 rfl) ?_
        refine lv_iload_n hx hb dX9_climbsByItself_32 rfl (lv_at hl 2 rfl) ?_
        refine lv_iconst (v := 4) hx hb dX9_climbsByItself_33 (by decide) ?_
        obtain ⟨p10, h11, hM⟩ := b_some hM
        refine q_cv (As := [.int x1, .int 4]) (rest := []) E hw hl (c_X9_ticket l D cA tS A h F x1 4 σ wd p10 h11) 2 (bwV bw_c tb_1253 tb_1255 tb_52 tb_112 tb_1256) rfl (by decide +kernel) ⟨Nat.le_of_ble_eq_true rfl, Nat.le_of_ble_eq_true rfl⟩ 0 9 (T := TX9) (N := 17) rfl rfl rfl rfl (Nat.le_of_ble_eq_true rfl) ⟨Nat.zero_le _, Nat.zero_le _⟩ dX9_climbsByItself_34 (fun H locs hw => ?_)
        refine lv_iconst (v := 3) hx hb dX9_climbsByItself_37 (by decide) ?_
        refine lv_icmp_ge (tgt := 45) hx hb dX9_climbsByItself_38 (by decide) (fun c12 => ?_) (fun c12 => ?_)
        · replace hM := i_pos hM c12
          refine lv_iconst (v := 0) hx hb dX9_climbsByItself_45 (by decide) ?_
          cases hM
          exact q_retz E hw (by decide) dX9_climbsByItself_46
        · replace hM := i_neg hM c12
          refine lv_iconst (v := 1) hx hb dX9_climbsByItself_41 (by decide) ?_
          refine lv_goto (tgt := 46) hx hb dX9_climbsByItself_42 (by decide) ?_
          cases hM
          exact q_retz E hw (by decide) dX9_climbsByItself_46
def f_X9_passMinute_115 (N : Nat)   : Nat → Int32 → Int32 → Sg → Int64 → Option (Int32 × Sg)
  | 0, _, _, _, _ => none
  | n + 1, x2, x3, σ, wd => (if (σ 1 (ix 56)) ≤ x3 then some (x2, (up σ 1 (ix 0) ((σ 1 (ix 0)) + 1))) else (f_X9_climbsByItself x3 σ wd).bind (fun p2 => (if p2 = 0 then f_X9_passMinute_115 N n x2 (x3 + 1) σ wd else (f_X9_letClimb x3 ((σ 1 (ix 0)) + 1) σ wd).bind (fun p5 => f_X9_passMinute_115 N n x2 (x3 + 1) p5 wd))))
set_option maxRecDepth 100000 in
set_option maxHeartbeats 4000000 in
theorem s_X9_passMinute_115 (l : Launch) (D : va_G) (cA : Nat → ClassId) (tS : Nat → Nat) (A : Nat → Prop) (h : Nat → Nat) (F : va_W) (N : Nat) {p : Program} {e : Env} {s : State} {m : MethodId} {args : Array Value} {below : List Frame} {meth : Method} {c : Code} (E : Ev p cX9_passMinute 4 (some .int) RX9 (Cond.code yX9_passMinute cX9_passMinute 4 (some .int) :: bw) D cA tS A s m args meth c) : ∀ (n : Nat) (x2 : Int32) (x3 : Int32) (σ : Sg) (wd : Int64) (r0 : Int32) (s0 : Sg) (hM : f_X9_passMinute_115 N n x2 x3 σ wd = some (r0, s0)) (H : Heap) (locs : List Loc) (hw : Wd D A (wM cA h σ wd ++ F) s.heap H locs) (ls : Array Slot) (hl : lv_has ls 4 [(0, .ref (h 0)), (2, .int x2), (3, .int x3)]), W p l e ({ frames := 5, cells := 0, slots := 0, locals := 112 } : Room) s m args below meth c H locs 0 0 (MQ below (QW D A (some (.int r0)) (wM cA h s0 wd ++ F)) args s 0 0 A) (F0 m 115 ls []) := by
  have hx := E.1.1
  have hb := E.1.2.1
  intro n
  induction n with
  | zero =>
    intro x2 x3 σ wd r0 s0 hM
    cases hM
  | succ n ih =>
    intro x2 x3 σ wd r0 s0 hM H locs hw ls hl
    rw [f_X9_passMinute_115] at hM
    refine lv_iload_n hx hb dX9_passMinute_115 rfl (lv_at hl 2 rfl) ?_
    refine lv_aload_n hx hb dX9_passMinute_116 rfl (lv_at hl 0 rfl) ?_
    refine q_get (C := RX9) (T := TX9) (N := 17) (ci := 9) E (fun w h => List.mem_cons_of_mem _ (inX9 w h)) hw 0 rfl rfl 0 (by decide) (List.mem_cons_of_mem _ tb_1157) (v := .ref (h 1)) rfl dX9_passMinute_117 ?_
    refine lv_bipush (v := 56) hx hb dX9_passMinute_120 (by decide) ?_
    refine q_ald E hw 1 (n := 4619) rfl (by decide +kernel) (x := (σ 1 (ix 56))) rfl dX9_passMinute_122 ?_
    refine lv_icmp_ge (tgt := 153) hx hb dX9_passMinute_123 (by decide) (fun c1 => ?_) (fun c1 => ?_)
    · replace hM := i_pos hM c1
      refine lv_aload_n hx hb dX9_passMinute_153 rfl (lv_at hl 0 rfl) ?_
      refine q_get (C := RX9) (T := TX9) (N := 17) (ci := 9) E (fun w h => List.mem_cons_of_mem _ (inX9 w h)) hw 0 rfl rfl 0 (by decide) (List.mem_cons_of_mem _ tb_1157) (v := .ref (h 1)) rfl dX9_passMinute_154 ?_
      refine lv_iconst (v := 0) hx hb dX9_passMinute_157 (by decide) ?_
      refine lv_dup2_11 hx hb dX9_passMinute_158 rfl rfl ?_
      refine q_ald E hw 1 (n := 4619) rfl (by decide +kernel) (x := (σ 1 (ix 0))) rfl dX9_passMinute_159 ?_
      refine lv_iconst (v := 1) hx hb dX9_passMinute_160 (by decide) ?_
      refine lv_iadd hx hb dX9_passMinute_161 ?_
      refine q_ast E hw 1 (n := 4619) rfl (by decide +kernel) (wM cA h (up σ 1 (ix 0) ((σ 1 (ix 0)) + 1)) wd ++ F) st_M_1 dX9_passMinute_162 (fun H locs hw => ?_)
      refine lv_iload_n hx hb dX9_passMinute_163 rfl (lv_at hl 1 rfl) ?_
      cases hM
      exact q_reti E hw dX9_passMinute_164
    · replace hM := i_neg hM c1
      refine lv_aload_n hx hb dX9_passMinute_126 rfl (lv_at hl 0 rfl) ?_
      refine lv_iload_n hx hb dX9_passMinute_127 rfl (lv_at hl 2 rfl) ?_
      obtain ⟨p2, h3, hM⟩ := b_some hM
      refine q_cv (As := [.int x3]) (rest := []) E hw hl (c_X9_climbsByItself l D cA tS A h F x3 σ wd p2 h3) 1 (bwV bw_c tb_1447 tb_1449 tb_82 tb_112 tb_1450) rfl (by decide +kernel) ⟨Nat.le_of_ble_eq_true rfl, Nat.le_of_ble_eq_true rfl⟩ 0 9 (T := TX9) (N := 17) rfl rfl rfl rfl (Nat.le_of_ble_eq_true rfl) ⟨Nat.zero_le _, Nat.zero_le _⟩ dX9_passMinute_128 (fun H locs hw => ?_)
      refine lv_if_eq (tgt := 147) hx hb dX9_passMinute_131 (by decide) (fun c4 => ?_) (fun c4 => ?_)
      · replace hM := i_pos hM c4
        refine lv_iinc (v := (x3 + 1)) (lv' := [(3, .int (x3 + 1)), (0, .ref (h 0)), (2, .int x2)]) hx hb dX9_passMinute_147 hl (k := 2) rfl rfl (by decide) rfl (fun ls hl => ?_)
        refine lv_goto (tgt := 115) hx hb dX9_passMinute_150 (by decide) ?_
        exact ih _ _ _ _ _ _ hM _ _ hw _ (lv_sub hl [1, 2, 0] rfl)
      · replace hM := i_neg hM c4
        refine lv_aload_n hx hb dX9_passMinute_134 rfl (lv_at hl 0 rfl) ?_
        refine lv_iload_n hx hb dX9_passMinute_135 rfl (lv_at hl 2 rfl) ?_
        refine lv_aload_n hx hb dX9_passMinute_136 rfl (lv_at hl 0 rfl) ?_
        refine q_get (C := RX9) (T := TX9) (N := 17) (ci := 9) E (fun w h => List.mem_cons_of_mem _ (inX9 w h)) hw 0 rfl rfl 0 (by decide) (List.mem_cons_of_mem _ tb_1157) (v := .ref (h 1)) rfl dX9_passMinute_137 ?_
        refine lv_iconst (v := 0) hx hb dX9_passMinute_140 (by decide) ?_
        refine q_ald E hw 1 (n := 4619) rfl (by decide +kernel) (x := (σ 1 (ix 0))) rfl dX9_passMinute_141 ?_
        refine lv_iconst (v := 1) hx hb dX9_passMinute_142 (by decide) ?_
        refine lv_iadd hx hb dX9_passMinute_143 ?_
        obtain ⟨p5, h6, hM⟩ := b_some hM
        refine q_cvv (As := [.int x3, .int ((σ 1 (ix 0)) + 1)]) (rest := []) E hw hl (c_X9_letClimb l D cA tS A h F x3 ((σ 1 (ix 0)) + 1) σ wd p5 h6) 2 (bwV bw_c tb_1297 tb_1299 tb_63 tb_112 tb_1300) rfl (by decide +kernel) ⟨Nat.le_of_ble_eq_true rfl, Nat.le_of_ble_eq_true rfl⟩ 0 9 (T := TX9) (N := 17) rfl rfl rfl rfl (Nat.le_of_ble_eq_true rfl) ⟨Nat.zero_le _, Nat.zero_le _⟩ dX9_passMinute_144 (fun H locs hw => ?_)
        refine lv_iinc (v := (x3 + 1)) (lv' := [(3, .int (x3 + 1)), (0, .ref (h 0)), (2, .int x2)]) hx hb dX9_passMinute_147 hl (k := 2) rfl rfl (by decide) rfl (fun ls hl => ?_)
        refine lv_goto (tgt := 115) hx hb dX9_passMinute_150 (by decide) ?_
        exact ih _ _ _ _ _ _ hM _ _ hw _ (lv_sub hl [1, 2, 0] rfl)
def f_X9_passMinute_75 (N : Nat)   : Nat → Int32 → Int32 → Int32 → Sg → Int64 → Option (Int32 × Sg)
  | 0, _, _, _, _, _ => none
  | n + 1, x1, x2, x3, σ, wd => (if (σ 1 (ix 56)) ≤ x3 then f_X9_passMinute_115 N N x2 0 σ wd else (if x1 = 0 then f_X9_passMinute_115 N N x2 0 σ wd else (f_X9_is x3 1 σ wd).bind (fun p3 => (if p3 = 0 then f_X9_passMinute_75 N n x1 x2 (x3 + 1) σ wd else (f_X9_workOn N x3 σ wd).bind (fun p6 => f_X9_passMinute_75 N n x1 (x2 + p6.1) (x3 + 1) p6.2 wd)))))
set_option maxRecDepth 100000 in
set_option maxHeartbeats 4000000 in
theorem s_X9_passMinute_75 (l : Launch) (D : va_G) (cA : Nat → ClassId) (tS : Nat → Nat) (A : Nat → Prop) (h : Nat → Nat) (F : va_W) (N : Nat) {p : Program} {e : Env} {s : State} {m : MethodId} {args : Array Value} {below : List Frame} {meth : Method} {c : Code} (E : Ev p cX9_passMinute 4 (some .int) RX9 (Cond.code yX9_passMinute cX9_passMinute 4 (some .int) :: bw) D cA tS A s m args meth c) : ∀ (n : Nat) (x1 : Int32) (x2 : Int32) (x3 : Int32) (σ : Sg) (wd : Int64) (r0 : Int32) (s0 : Sg) (hM : f_X9_passMinute_75 N n x1 x2 x3 σ wd = some (r0, s0)) (H : Heap) (locs : List Loc) (hw : Wd D A (wM cA h σ wd ++ F) s.heap H locs) (ls : Array Slot) (hl : lv_has ls 4 [(0, .ref (h 0)), (1, .int x1), (2, .int x2), (3, .int x3)]), W p l e ({ frames := 5, cells := 0, slots := 0, locals := 112 } : Room) s m args below meth c H locs 0 0 (MQ below (QW D A (some (.int r0)) (wM cA h s0 wd ++ F)) args s 0 0 A) (F0 m 75 ls []) := by
  have hx := E.1.1
  have hb := E.1.2.1
  intro n
  induction n with
  | zero =>
    intro x1 x2 x3 σ wd r0 s0 hM
    cases hM
  | succ n ih =>
    intro x1 x2 x3 σ wd r0 s0 hM H locs hw ls hl
    rw [f_X9_passMinute_75] at hM
    refine lv_iload_n hx hb dX9_passMinute_75 rfl (lv_at hl 3 rfl) ?_
    refine lv_aload_n hx hb dX9_passMinute_76 rfl (lv_at hl 0 rfl) ?_
    refine q_get (C := RX9) (T := TX9) (N := 17) (ci := 9) E (fun w h => List.mem_cons_of_mem _ (inX9 w h)) hw 0 rfl rfl 0 (by decide) (List.mem_cons_of_mem _ tb_1157) (v := .ref (h 1)) rfl dX9_passMinute_77 ?_
    refine lv_bipush (v := 56) hx hb dX9_passMinute_80 (by decide) ?_
    refine q_ald E hw 1 (n := 4619) rfl (by decide +kernel) (x := (σ 1 (ix 56))) rfl dX9_passMinute_82 ?_
    refine lv_icmp_ge (tgt := 113) hx hb dX9_passMinute_83 (by decide) (fun c1 => ?_) (fun c1 => ?_)
    · replace hM := i_pos hM c1
      refine lv_iconst (v := 0) hx hb dX9_passMinute_113 (by decide) ?_
      refine lv_istore_n (lv' := [(3, .int 0), (0, .ref (h 0)), (1, .int x1), (2, .int x2)]) hx hb dX9_passMinute_114 rfl hl (by decide) rfl (fun ls hl => ?_)
      exact s_X9_passMinute_115 l D cA tS A h F N E N _ _ _ _ _ _ hM _ _ hw _ (lv_sub hl [1, 3, 0] rfl)
    · replace hM := i_neg hM c1
      refine lv_iload_n hx hb dX9_passMinute_86 rfl (lv_at hl 1 rfl) ?_
      refine lv_if_eq (tgt := 113) hx hb dX9_passMinute_87 (by decide) (fun c2 => ?_) (fun c2 => ?_)
      · replace hM := i_pos hM c2
        refine lv_iconst (v := 0) hx hb dX9_passMinute_113 (by decide) ?_
        refine lv_istore_n (lv' := [(3, .int 0), (0, .ref (h 0)), (1, .int x1), (2, .int x2)]) hx hb dX9_passMinute_114 rfl hl (by decide) rfl (fun ls hl => ?_)
        exact s_X9_passMinute_115 l D cA tS A h F N E N _ _ _ _ _ _ hM _ _ hw _ (lv_sub hl [1, 3, 0] rfl)
      · replace hM := i_neg hM c2
        refine lv_aload_n hx hb dX9_passMinute_90 rfl (lv_at hl 0 rfl) ?_
        refine lv_iload_n hx hb dX9_passMinute_91 rfl (lv_at hl 3 rfl) ?_
        refine lv_iconst (v := 1) hx hb dX9_passMinute_92 (by decide) ?_
        obtain ⟨p3, h4, hM⟩ := b_some hM
        refine q_cv (As := [.int x3, .int 1]) (rest := []) E hw hl (c_X9_is l D cA tS A h F x3 1 σ wd p3 h4) 2 (bwV bw_c tb_1261 tb_1263 tb_54 tb_112 tb_1264) rfl (by decide +kernel) ⟨Nat.le_of_ble_eq_true rfl, Nat.le_of_ble_eq_true rfl⟩ 0 9 (T := TX9) (N := 17) rfl rfl rfl rfl (Nat.le_of_ble_eq_true rfl) ⟨Nat.zero_le _, Nat.zero_le _⟩ dX9_passMinute_93 (fun H locs hw => ?_)
        refine lv_if_eq (tgt := 107) hx hb dX9_passMinute_96 (by decide) (fun c5 => ?_) (fun c5 => ?_)
        · replace hM := i_pos hM c5
          refine lv_iinc (v := (x3 + 1)) (lv' := [(3, .int (x3 + 1)), (0, .ref (h 0)), (1, .int x1), (2, .int x2)]) hx hb dX9_passMinute_107 hl (k := 3) rfl rfl (by decide) rfl (fun ls hl => ?_)
          refine lv_goto (tgt := 75) hx hb dX9_passMinute_110 (by decide) ?_
          exact ih _ _ _ _ _ _ _ hM _ _ hw _ (lv_sub hl [1, 2, 3, 0] rfl)
        · replace hM := i_neg hM c5
          refine lv_iload_n hx hb dX9_passMinute_99 rfl (lv_at hl 2 rfl) ?_
          refine lv_aload_n hx hb dX9_passMinute_100 rfl (lv_at hl 0 rfl) ?_
          refine lv_iload_n hx hb dX9_passMinute_101 rfl (lv_at hl 3 rfl) ?_
          obtain ⟨p6, h7, hM⟩ := b_some hM
          refine q_cv (As := [.int x3]) (rest := [.int x2]) E hw hl (c_X9_workOn l D cA tS A h F N x3 σ wd p6.1 p6.2 h7) 1 (bwV bw_c tb_1443 tb_1445 tb_81 tb_112 tb_1446) rfl (by decide +kernel) ⟨Nat.le_of_ble_eq_true rfl, Nat.le_of_ble_eq_true rfl⟩ 0 9 (T := TX9) (N := 17) rfl rfl rfl rfl (Nat.le_of_ble_eq_true rfl) ⟨Nat.zero_le _, Nat.zero_le _⟩ dX9_passMinute_102 (fun H locs hw => ?_)
          refine lv_iadd hx hb dX9_passMinute_105 ?_
          refine lv_istore_n (lv' := [(2, .int (x2 + p6.1)), (0, .ref (h 0)), (1, .int x1), (3, .int x3)]) hx hb dX9_passMinute_106 rfl hl (by decide) rfl (fun ls hl => ?_)
          refine lv_iinc (v := (x3 + 1)) (lv' := [(3, .int (x3 + 1)), (2, .int (x2 + p6.1)), (0, .ref (h 0)), (1, .int x1)]) hx hb dX9_passMinute_107 hl (k := 3) rfl rfl (by decide) rfl (fun ls hl => ?_)
          refine lv_goto (tgt := 75) hx hb dX9_passMinute_110 (by decide) ?_
          exact ih _ _ _ _ _ _ _ hM _ _ hw _ (lv_sub hl [2, 3, 1, 0] rfl)
def f_X9_passMinute_35 (N : Nat)   : Nat → Int32 → Int32 → Sg → Int64 → Option (Int32 × Sg)
  | 0, _, _, _, _ => none
  | n + 1, x1, x2, σ, wd => (if (σ 1 (ix 56)) ≤ x2 then f_X9_passMinute_75 N N x1 0 0 σ wd else (if x1 = 0 then (f_X9_ofKind x2 5 σ wd).bind (fun p5 => (if p5 = 1 then (f_X9_runClocks x2 σ wd).bind (fun p8 => f_X9_passMinute_35 N n x1 (x2 + 1) p8 wd) else f_X9_passMinute_35 N n x1 (x2 + 1) σ wd)) else (f_X9_runClocks x2 σ wd).bind (fun p3 => f_X9_passMinute_35 N n x1 (x2 + 1) p3 wd)))
set_option maxRecDepth 100000 in
set_option maxHeartbeats 4000000 in
theorem s_X9_passMinute_35 (l : Launch) (D : va_G) (cA : Nat → ClassId) (tS : Nat → Nat) (A : Nat → Prop) (h : Nat → Nat) (F : va_W) (N : Nat) {p : Program} {e : Env} {s : State} {m : MethodId} {args : Array Value} {below : List Frame} {meth : Method} {c : Code} (E : Ev p cX9_passMinute 4 (some .int) RX9 (Cond.code yX9_passMinute cX9_passMinute 4 (some .int) :: bw) D cA tS A s m args meth c) : ∀ (n : Nat) (x1 : Int32) (x2 : Int32) (σ : Sg) (wd : Int64) (r0 : Int32) (s0 : Sg) (hM : f_X9_passMinute_35 N n x1 x2 σ wd = some (r0, s0)) (H : Heap) (locs : List Loc) (hw : Wd D A (wM cA h σ wd ++ F) s.heap H locs) (ls : Array Slot) (hl : lv_has ls 4 [(0, .ref (h 0)), (1, .int x1), (2, .int x2)]), W p l e ({ frames := 5, cells := 0, slots := 0, locals := 112 } : Room) s m args below meth c H locs 0 0 (MQ below (QW D A (some (.int r0)) (wM cA h s0 wd ++ F)) args s 0 0 A) (F0 m 35 ls []) := by
  have hx := E.1.1
  have hb := E.1.2.1
  intro n
  induction n with
  | zero =>
    intro x1 x2 σ wd r0 s0 hM
    cases hM
  | succ n ih =>
    intro x1 x2 σ wd r0 s0 hM H locs hw ls hl
    rw [f_X9_passMinute_35] at hM
    refine lv_iload_n hx hb dX9_passMinute_35 rfl (lv_at hl 2 rfl) ?_
    refine lv_aload_n hx hb dX9_passMinute_36 rfl (lv_at hl 0 rfl) ?_
    refine q_get (C := RX9) (T := TX9) (N := 17) (ci := 9) E (fun w h => List.mem_cons_of_mem _ (inX9 w h)) hw 0 rfl rfl 0 (by decide) (List.mem_cons_of_mem _ tb_1157) (v := .ref (h 1)) rfl dX9_passMinute_37 ?_
    refine lv_bipush (v := 56) hx hb dX9_passMinute_40 (by decide) ?_
    refine q_ald E hw 1 (n := 4619) rfl (by decide +kernel) (x := (σ 1 (ix 56))) rfl dX9_passMinute_42 ?_
    refine lv_icmp_ge (tgt := 71) hx hb dX9_passMinute_43 (by decide) (fun c1 => ?_) (fun c1 => ?_)
    · replace hM := i_pos hM c1
      refine lv_iconst (v := 0) hx hb dX9_passMinute_71 (by decide) ?_
      refine lv_istore_n (lv' := [(2, .int 0), (0, .ref (h 0)), (1, .int x1)]) hx hb dX9_passMinute_72 rfl hl (by decide) rfl (fun ls hl => ?_)
      refine lv_iconst (v := 0) hx hb dX9_passMinute_73 (by decide) ?_
      refine lv_istore_n (lv' := [(3, .int 0), (2, .int 0), (0, .ref (h 0)), (1, .int x1)]) hx hb dX9_passMinute_74 rfl hl (by decide) rfl (fun ls hl => ?_)
      exact s_X9_passMinute_75 l D cA tS A h F N E N _ _ _ _ _ _ _ hM _ _ hw _ (lv_sub hl [2, 3, 1, 0] rfl)
    · replace hM := i_neg hM c1
      refine lv_iload_n hx hb dX9_passMinute_46 rfl (lv_at hl 1 rfl) ?_
      refine lv_if_ne (tgt := 60) hx hb dX9_passMinute_47 (by decide) (fun c2 => ?_) (fun c2 => ?_)
      · replace hM := i_neg hM c2
        refine lv_aload_n hx hb dX9_passMinute_60 rfl (lv_at hl 0 rfl) ?_
        refine lv_iload_n hx hb dX9_passMinute_61 rfl (lv_at hl 2 rfl) ?_
        obtain ⟨p3, h4, hM⟩ := b_some hM
        refine q_cvv (As := [.int x2]) (rest := []) E hw hl (c_X9_runClocks l D cA tS A h F x2 σ wd p3 h4) 1 (bwV bw_c tb_1423 tb_1425 tb_76 tb_112 tb_1426) rfl (by decide +kernel) ⟨Nat.le_of_ble_eq_true rfl, Nat.le_of_ble_eq_true rfl⟩ 0 9 (T := TX9) (N := 17) rfl rfl rfl rfl (Nat.le_of_ble_eq_true rfl) ⟨Nat.zero_le _, Nat.zero_le _⟩ dX9_passMinute_62 (fun H locs hw => ?_)
        refine lv_iinc (v := (x2 + 1)) (lv' := [(2, .int (x2 + 1)), (0, .ref (h 0)), (1, .int x1)]) hx hb dX9_passMinute_65 hl (k := 2) rfl rfl (by decide) rfl (fun ls hl => ?_)
        refine lv_goto (tgt := 35) hx hb dX9_passMinute_68 (by decide) ?_
        exact ih _ _ _ _ _ _ hM _ _ hw _ (lv_sub hl [1, 2, 0] rfl)
      · replace hM := i_pos hM c2
        refine lv_aload_n hx hb dX9_passMinute_50 rfl (lv_at hl 0 rfl) ?_
        refine lv_iload_n hx hb dX9_passMinute_51 rfl (lv_at hl 2 rfl) ?_
        refine lv_iconst (v := 5) hx hb dX9_passMinute_52 (by decide) ?_
        obtain ⟨p5, h6, hM⟩ := b_some hM
        refine q_cv (As := [.int x2, .int 5]) (rest := []) E hw hl (c_X9_ofKind l D cA tS A h F x2 5 σ wd p5 h6) 2 (bwV bw_c tb_1415 tb_1417 tb_74 tb_112 tb_1418) rfl (by decide +kernel) ⟨Nat.le_of_ble_eq_true rfl, Nat.le_of_ble_eq_true rfl⟩ 0 9 (T := TX9) (N := 17) rfl rfl rfl rfl (Nat.le_of_ble_eq_true rfl) ⟨Nat.zero_le _, Nat.zero_le _⟩ dX9_passMinute_53 (fun H locs hw => ?_)
        refine lv_iconst (v := 1) hx hb dX9_passMinute_56 (by decide) ?_
        refine lv_icmp_ne (tgt := 65) hx hb dX9_passMinute_57 (by decide) (fun c7 => ?_) (fun c7 => ?_)
        · replace hM := i_neg hM c7
          refine lv_iinc (v := (x2 + 1)) (lv' := [(2, .int (x2 + 1)), (0, .ref (h 0)), (1, .int x1)]) hx hb dX9_passMinute_65 hl (k := 2) rfl rfl (by decide) rfl (fun ls hl => ?_)
          refine lv_goto (tgt := 35) hx hb dX9_passMinute_68 (by decide) ?_
          exact ih _ _ _ _ _ _ hM _ _ hw _ (lv_sub hl [1, 2, 0] rfl)
        · replace hM := i_pos hM c7
          refine lv_aload_n hx hb dX9_passMinute_60 rfl (lv_at hl 0 rfl) ?_
          refine lv_iload_n hx hb dX9_passMinute_61 rfl (lv_at hl 2 rfl) ?_
          obtain ⟨p8, h9, hM⟩ := b_some hM
          refine q_cvv (As := [.int x2]) (rest := []) E hw hl (c_X9_runClocks l D cA tS A h F x2 σ wd p8 h9) 1 (bwV bw_c tb_1423 tb_1425 tb_76 tb_112 tb_1426) rfl (by decide +kernel) ⟨Nat.le_of_ble_eq_true rfl, Nat.le_of_ble_eq_true rfl⟩ 0 9 (T := TX9) (N := 17) rfl rfl rfl rfl (Nat.le_of_ble_eq_true rfl) ⟨Nat.zero_le _, Nat.zero_le _⟩ dX9_passMinute_62 (fun H locs hw => ?_)
          refine lv_iinc (v := (x2 + 1)) (lv' := [(2, .int (x2 + 1)), (0, .ref (h 0)), (1, .int x1)]) hx hb dX9_passMinute_65 hl (k := 2) rfl rfl (by decide) rfl (fun ls hl => ?_)
          refine lv_goto (tgt := 35) hx hb dX9_passMinute_68 (by decide) ?_
          exact ih _ _ _ _ _ _ hM _ _ hw _ (lv_sub hl [1, 2, 0] rfl)
def f_X9_passMinute_13 (N : Nat)   : Nat → Int32 → Int32 → Sg → Int64 → Option (Int32 × Sg)
  | 0, _, _, _, _ => none
  | n + 1, x1, x2, σ, wd => (if 4 ≤ x2 then f_X9_passMinute_35 N N x1 0 σ wd else (if x1 = 0 then f_X9_passMinute_35 N N x1 0 σ wd else (f_X9_takeTickets N x2 σ wd).bind (fun p3 => f_X9_passMinute_13 N n x1 (x2 + 1) p3 wd)))
set_option maxRecDepth 100000 in
set_option maxHeartbeats 4000000 in
theorem s_X9_passMinute_13 (l : Launch) (D : va_G) (cA : Nat → ClassId) (tS : Nat → Nat) (A : Nat → Prop) (h : Nat → Nat) (F : va_W) (N : Nat) {p : Program} {e : Env} {s : State} {m : MethodId} {args : Array Value} {below : List Frame} {meth : Method} {c : Code} (E : Ev p cX9_passMinute 4 (some .int) RX9 (Cond.code yX9_passMinute cX9_passMinute 4 (some .int) :: bw) D cA tS A s m args meth c) : ∀ (n : Nat) (x1 : Int32) (x2 : Int32) (σ : Sg) (wd : Int64) (r0 : Int32) (s0 : Sg) (hM : f_X9_passMinute_13 N n x1 x2 σ wd = some (r0, s0)) (H : Heap) (locs : List Loc) (hw : Wd D A (wM cA h σ wd ++ F) s.heap H locs) (ls : Array Slot) (hl : lv_has ls 4 [(0, .ref (h 0)), (1, .int x1), (2, .int x2)]), W p l e ({ frames := 5, cells := 0, slots := 0, locals := 112 } : Room) s m args below meth c H locs 0 0 (MQ below (QW D A (some (.int r0)) (wM cA h s0 wd ++ F)) args s 0 0 A) (F0 m 13 ls []) := by
  have hx := E.1.1
  have hb := E.1.2.1
  intro n
  induction n with
  | zero =>
    intro x1 x2 σ wd r0 s0 hM
    cases hM
  | succ n ih =>
    intro x1 x2 σ wd r0 s0 hM H locs hw ls hl
    rw [f_X9_passMinute_13] at hM
    refine lv_iload_n hx hb dX9_passMinute_13 rfl (lv_at hl 2 rfl) ?_
    refine lv_iconst (v := 4) hx hb dX9_passMinute_14 (by decide) ?_
    refine lv_icmp_ge (tgt := 33) hx hb dX9_passMinute_15 (by decide) (fun c1 => ?_) (fun c1 => ?_)
    · replace hM := i_pos hM c1
      refine lv_iconst (v := 0) hx hb dX9_passMinute_33 (by decide) ?_
      refine lv_istore_n (lv' := [(2, .int 0), (0, .ref (h 0)), (1, .int x1)]) hx hb dX9_passMinute_34 rfl hl (by decide) rfl (fun ls hl => ?_)
      exact s_X9_passMinute_35 l D cA tS A h F N E N _ _ _ _ _ _ hM _ _ hw _ (lv_sub hl [1, 2, 0] rfl)
    · replace hM := i_neg hM c1
      refine lv_iload_n hx hb dX9_passMinute_18 rfl (lv_at hl 1 rfl) ?_
      refine lv_if_eq (tgt := 33) hx hb dX9_passMinute_19 (by decide) (fun c2 => ?_) (fun c2 => ?_)
      · replace hM := i_pos hM c2
        refine lv_iconst (v := 0) hx hb dX9_passMinute_33 (by decide) ?_
        refine lv_istore_n (lv' := [(2, .int 0), (0, .ref (h 0)), (1, .int x1)]) hx hb dX9_passMinute_34 rfl hl (by decide) rfl (fun ls hl => ?_)
        exact s_X9_passMinute_35 l D cA tS A h F N E N _ _ _ _ _ _ hM _ _ hw _ (lv_sub hl [1, 2, 0] rfl)
      · replace hM := i_neg hM c2
        refine lv_aload_n hx hb dX9_passMinute_22 rfl (lv_at hl 0 rfl) ?_
        refine lv_iload_n hx hb dX9_passMinute_23 rfl (lv_at hl 2 rfl) ?_
        obtain ⟨p3, h4, hM⟩ := b_some hM
        refine q_cvv (As := [.int x2]) (rest := []) E hw hl (c_X9_takeTickets l D cA tS A h F N x2 σ wd p3 h4) 1 (bwV bw_c tb_1403 tb_1405 tb_71 tb_112 tb_1406) rfl (by decide +kernel) ⟨Nat.le_of_ble_eq_true rfl, Nat.le_of_ble_eq_true rfl⟩ 0 9 (T := TX9) (N := 17) rfl rfl rfl rfl (Nat.le_of_ble_eq_true rfl) ⟨Nat.zero_le _, Nat.zero_le _⟩ dX9_passMinute_24 (fun H locs hw => ?_)
        refine lv_iinc (v := (x2 + 1)) (lv' := [(2, .int (x2 + 1)), (0, .ref (h 0)), (1, .int x1)]) hx hb dX9_passMinute_27 hl (k := 2) rfl rfl (by decide) rfl (fun ls hl => ?_)
        refine lv_goto (tgt := 13) hx hb dX9_passMinute_30 (by decide) ?_
        exact ih _ _ _ _ _ _ hM _ _ hw _ (lv_sub hl [1, 2, 0] rfl)
def f_X9_passMinute (N : Nat)   (σ : Sg) (wd : Int64) : Option (Int32 × Sg) := (f_X9_isOpenMinute (σ 1 (ix 0)) σ wd).bind (fun p1 => f_X9_passMinute_13 N N p1 0 σ wd)
set_option maxRecDepth 100000 in
set_option maxHeartbeats 4000000 in
theorem c_X9_passMinute (l : Launch) (D : va_G) (cA : Nat → ClassId) (tS : Nat → Nat) (A : Nat → Prop) (h : Nat → Nat) (F : va_W) (N : Nat) (σ : Sg) (wd : Int64) (r0 : Int32) (s0 : Sg) (hM : f_X9_passMinute N σ wd = some (r0, s0)) : Ct l yX9_passMinute (Cond.code yX9_passMinute cX9_passMinute 4 (some .int) :: bw) 5 112 D cA tS A [.ref (h 0)] (wM cA h σ wd ++ F) (some (.int r0)) (wM cA h s0 wd ++ F) := by
  refine ct_of (by decide +kernel) (Nat.le_of_ble_eq_true rfl) ?_
  intro p e s m below meth c E hw ls hl
  replace E : Ev p cX9_passMinute 4 (some .int) RX9 (Cond.code yX9_passMinute cX9_passMinute 4 (some .int) :: bw) D cA tS A s m _ meth c := E
  replace hl : lv_has ls 4 [(0, .ref (h 0))] := hl
  have hx := E.1.1
  have hb := E.1.2.1
  unfold f_X9_passMinute at hM
  refine lv_aload_n hx hb dX9_passMinute_0 rfl (lv_at hl 0 rfl) ?_
  refine lv_aload_n hx hb dX9_passMinute_1 rfl (lv_at hl 0 rfl) ?_
  refine q_get (C := RX9) (T := TX9) (N := 17) (ci := 9) E (fun w h => List.mem_cons_of_mem _ (inX9 w h)) hw 0 rfl rfl 0 (by decide) (List.mem_cons_of_mem _ tb_1157) (v := .ref (h 1)) rfl dX9_passMinute_2 ?_
  refine lv_iconst (v := 0) hx hb dX9_passMinute_5 (by decide) ?_
  refine q_ald E hw 1 (n := 4619) rfl (by decide +kernel) (x := (σ 1 (ix 0))) rfl dX9_passMinute_6 ?_
  obtain ⟨p1, h2, hM⟩ := b_some hM
  refine q_cv (As := [.int (σ 1 (ix 0))]) (rest := []) E hw hl (c_X9_isOpenMinute l D cA tS A h F (σ 1 (ix 0)) σ wd p1 h2) 1 (bwV bw_c tb_1333 tb_1335 tb_69 tb_112 tb_1336) rfl (by decide +kernel) ⟨Nat.le_of_ble_eq_true rfl, Nat.le_of_ble_eq_true rfl⟩ 0 9 (T := TX9) (N := 17) rfl rfl rfl rfl (Nat.le_of_ble_eq_true rfl) ⟨Nat.zero_le _, Nat.zero_le _⟩ dX9_passMinute_7 (fun H locs hw => ?_)
  refine lv_istore_n (lv' := [(1, .int p1), (0, .ref (h 0))]) hx hb dX9_passMinute_10 rfl hl (by decide) rfl (fun ls hl => ?_)
  refine lv_iconst (v := 0) hx hb dX9_passMinute_11 (by decide) ?_
  refine lv_istore_n (lv' := [(2, .int 0), (1, .int p1), (0, .ref (h 0))]) hx hb dX9_passMinute_12 rfl hl (by decide) rfl (fun ls hl => ?_)
  exact s_X9_passMinute_13 l D cA tS A h F N E N _ _ _ _ _ _ hM _ _ hw _ (lv_sub hl [2, 1, 0] rfl)
def f_X9_pass_25 (N : Nat)   : Nat → Int32 → Int32 → Int32 → Sg → Int64 → Option (Int32 × Sg)
  | 0, _, _, _, _, _ => none
  | n + 1, x1, x2, x3, σ, wd => (if x1 ≤ x3 then some (x2, σ) else (f_X9_passMinute N σ wd).bind (fun p2 => f_X9_pass_25 N n x1 (x2 + p2.1) (x3 + 1) p2.2 wd))
set_option maxRecDepth 100000 in
set_option maxHeartbeats 4000000 in
theorem s_X9_pass_25 (l : Launch) (D : va_G) (cA : Nat → ClassId) (tS : Nat → Nat) (A : Nat → Prop) (h : Nat → Nat) (F : va_W) (N : Nat) {p : Program} {e : Env} {s : State} {m : MethodId} {args : Array Value} {below : List Frame} {meth : Method} {c : Code} (E : Ev p cX9_pass 4 (some .int) RX9 (Cond.code yX9_pass cX9_pass 4 (some .int) :: bw) D cA tS A s m args meth c) : ∀ (n : Nat) (x1 : Int32) (x2 : Int32) (x3 : Int32) (σ : Sg) (wd : Int64) (r0 : Int32) (s0 : Sg) (hM : f_X9_pass_25 N n x1 x2 x3 σ wd = some (r0, s0)) (H : Heap) (locs : List Loc) (hw : Wd D A (wM cA h σ wd ++ F) s.heap H locs) (ls : Array Slot) (hl : lv_has ls 4 [(0, .ref (h 0)), (1, .int x1), (2, .int x2), (3, .int x3)]), W p l e ({ frames := 6, cells := 0, slots := 0, locals := 135 } : Room) s m args below meth c H locs 0 0 (MQ below (QW D A (some (.int r0)) (wM cA h s0 wd ++ F)) args s 0 0 A) (F0 m 25 ls []) := by
  have hx := E.1.1
  have hb := E.1.2.1
  intro n
  induction n with
  | zero =>
    intro x1 x2 x3 σ wd r0 s0 hM
    cases hM
  | succ n ih =>
    intro x1 x2 x3 σ wd r0 s0 hM H locs hw ls hl
    rw [f_X9_pass_25] at hM
    refine lv_iload_n hx hb dX9_pass_25 rfl (lv_at hl 3 rfl) ?_
    refine lv_iload_n hx hb dX9_pass_26 rfl (lv_at hl 1 rfl) ?_
    refine lv_icmp_ge (tgt := 43) hx hb dX9_pass_27 (by decide) (fun c1 => ?_) (fun c1 => ?_)
    · replace hM := i_pos hM c1
      refine lv_iload_n hx hb dX9_pass_43 rfl (lv_at hl 2 rfl) ?_
      cases hM
      exact q_reti E hw dX9_pass_44
    · replace hM := i_neg hM c1
      refine lv_iload_n hx hb dX9_pass_30 rfl (lv_at hl 2 rfl) ?_
      refine lv_aload_n hx hb dX9_pass_31 rfl (lv_at hl 0 rfl) ?_
      obtain ⟨p2, h3, hM⟩ := b_some hM
      refine q_cv (As := []) (rest := [.int x2]) E hw hl (c_X9_passMinute l D cA tS A h F N σ wd p2.1 p2.2 h3) 0 (bwV bw_c tb_1399 tb_1401 tb_70 tb_112 tb_1402) rfl (by decide +kernel) ⟨Nat.le_of_ble_eq_true rfl, Nat.le_of_ble_eq_true rfl⟩ 0 9 (T := TX9) (N := 17) rfl rfl rfl rfl (Nat.le_of_ble_eq_true rfl) ⟨Nat.zero_le _, Nat.zero_le _⟩ dX9_pass_32 (fun H locs hw => ?_)
      refine lv_iadd hx hb dX9_pass_35 ?_
      refine lv_istore_n (lv' := [(2, .int (x2 + p2.1)), (0, .ref (h 0)), (1, .int x1), (3, .int x3)]) hx hb dX9_pass_36 rfl hl (by decide) rfl (fun ls hl => ?_)
      refine lv_iinc (v := (x3 + 1)) (lv' := [(3, .int (x3 + 1)), (2, .int (x2 + p2.1)), (0, .ref (h 0)), (1, .int x1)]) hx hb dX9_pass_37 hl (k := 3) rfl rfl (by decide) rfl (fun ls hl => ?_)
      refine lv_goto (tgt := 25) hx hb dX9_pass_40 (by decide) ?_
      exact ih _ _ _ _ _ _ _ hM _ _ hw _ (lv_sub hl [2, 3, 1, 0] rfl)
def f_X9_pass (N : Nat)   (x1 : Int32) (σ : Sg) (wd : Int64) : Option (Int32 × Sg) := (f_X9_isBetween x1 1 (10080 - (σ 1 (ix 0)))).bind (fun p1 => (if p1 = 0 then some ((-4), σ) else f_X9_pass_25 N N x1 0 0 σ wd))
set_option maxRecDepth 100000 in
set_option maxHeartbeats 4000000 in
theorem c_X9_pass (l : Launch) (D : va_G) (cA : Nat → ClassId) (tS : Nat → Nat) (A : Nat → Prop) (h : Nat → Nat) (F : va_W) (N : Nat) (x1 : Int32) (σ : Sg) (wd : Int64) (r0 : Int32) (s0 : Sg) (hM : f_X9_pass N x1 σ wd = some (r0, s0)) : Ct l yX9_pass (Cond.code yX9_pass cX9_pass 4 (some .int) :: bw) 6 135 D cA tS A [.ref (h 0), .int x1] (wM cA h σ wd ++ F) (some (.int r0)) (wM cA h s0 wd ++ F) := by
  refine ct_of (by decide +kernel) (Nat.le_of_ble_eq_true rfl) ?_
  intro p e s m below meth c E hw ls hl
  replace E : Ev p cX9_pass 4 (some .int) RX9 (Cond.code yX9_pass cX9_pass 4 (some .int) :: bw) D cA tS A s m _ meth c := E
  replace hl : lv_has ls 4 [(0, .ref (h 0)), (1, .int x1)] := hl
  have hx := E.1.1
  have hb := E.1.2.1
  unfold f_X9_pass at hM
  refine lv_iload_n hx hb dX9_pass_0 rfl (lv_at hl 1 rfl) ?_
  refine lv_iconst (v := 1) hx hb dX9_pass_1 (by decide) ?_
  refine lv_sipush (v := 10080) hx hb dX9_pass_2 (by decide) ?_
  refine lv_aload_n hx hb dX9_pass_5 rfl (lv_at hl 0 rfl) ?_
  refine q_get (C := RX9) (T := TX9) (N := 17) (ci := 9) E (fun w h => List.mem_cons_of_mem _ (inX9 w h)) hw 0 rfl rfl 0 (by decide) (List.mem_cons_of_mem _ tb_1157) (v := .ref (h 1)) rfl dX9_pass_6 ?_
  refine lv_iconst (v := 0) hx hb dX9_pass_9 (by decide) ?_
  refine q_ald E hw 1 (n := 4619) rfl (by decide +kernel) (x := (σ 1 (ix 0))) rfl dX9_pass_10 ?_
  refine lv_isub hx hb dX9_pass_11 ?_
  obtain ⟨p1, h2, hM⟩ := b_some hM
  refine q_cs (As := [.int x1, .int 1, .int (10080 - (σ 1 (ix 0)))]) (rest := []) E hw hl (c_X9_isBetween l D cA tS A (wM cA h σ wd ++ F) x1 1 (10080 - (σ 1 (ix 0))) p1 h2) 3 (bwS bw_c tb_1224 tb_1225 tb_112 tb_1226) rfl (by decide +kernel) ⟨Nat.le_of_ble_eq_true rfl, Nat.le_of_ble_eq_true rfl⟩ rfl rfl (Nat.le_of_ble_eq_true rfl) ⟨Nat.zero_le _, Nat.zero_le _⟩ dX9_pass_12 (fun H locs hw => ?_)
  refine lv_if_ne (tgt := 21) hx hb dX9_pass_15 (by decide) (fun c3 => ?_) (fun c3 => ?_)
  · replace hM := i_neg hM c3
    refine lv_iconst (v := 0) hx hb dX9_pass_21 (by decide) ?_
    refine lv_istore_n (lv' := [(2, .int 0), (0, .ref (h 0)), (1, .int x1)]) hx hb dX9_pass_22 rfl hl (by decide) rfl (fun ls hl => ?_)
    refine lv_iconst (v := 0) hx hb dX9_pass_23 (by decide) ?_
    refine lv_istore_n (lv' := [(3, .int 0), (2, .int 0), (0, .ref (h 0)), (1, .int x1)]) hx hb dX9_pass_24 rfl hl (by decide) rfl (fun ls hl => ?_)
    exact s_X9_pass_25 l D cA tS A h F N E N _ _ _ _ _ _ _ hM _ _ hw _ (lv_sub hl [2, 3, 1, 0] rfl)
  · replace hM := i_pos hM c3
    refine lv_bipush (v := (-4)) hx hb dX9_pass_18 (by decide) ?_
    cases hM
    exact q_reti E hw dX9_pass_20
def f_X9_now    (σ : Sg) (wd : Int64) : Option (Int32) := some (σ 1 (ix 0))
set_option maxRecDepth 100000 in
set_option maxHeartbeats 4000000 in
theorem c_X9_now (l : Launch) (D : va_G) (cA : Nat → ClassId) (tS : Nat → Nat) (A : Nat → Prop) (h : Nat → Nat) (F : va_W) (σ : Sg) (wd : Int64) (r0 : Int32) (hM : f_X9_now σ wd = some r0) : Ct l yX9_now (Cond.code yX9_now cX9_now 1 (some .int) :: bw) 0 0 D cA tS A [.ref (h 0)] (wM cA h σ wd ++ F) (some (.int r0)) (wM cA h σ wd ++ F) := by
  refine ct_of (by decide +kernel) (Nat.le_of_ble_eq_true rfl) ?_
  intro p e s m below meth c E hw ls hl
  replace E : Ev p cX9_now 1 (some .int) RX9 (Cond.code yX9_now cX9_now 1 (some .int) :: bw) D cA tS A s m _ meth c := E
  replace hl : lv_has ls 1 [(0, .ref (h 0))] := hl
  have hx := E.1.1
  have hb := E.1.2.1
  unfold f_X9_now at hM
  refine lv_aload_n hx hb dX9_now_0 rfl (lv_at hl 0 rfl) ?_
  refine q_get (C := RX9) (T := TX9) (N := 17) (ci := 9) E (fun w h => List.mem_cons_of_mem _ (inX9 w h)) hw 0 rfl rfl 0 (by decide) (List.mem_cons_of_mem _ tb_1157) (v := .ref (h 1)) rfl dX9_now_1 ?_
  refine lv_iconst (v := 0) hx hb dX9_now_4 (by decide) ?_
  refine q_ald E hw 1 (n := 4619) rfl (by decide +kernel) (x := (σ 1 (ix 0))) rfl dX9_now_5 ?_
  cases hM
  exact q_reti E hw dX9_now_6
def f_X9_ticketCount    (σ : Sg) (wd : Int64) : Option (Int32) := some (σ 1 (ix 56))
set_option maxRecDepth 100000 in
set_option maxHeartbeats 4000000 in
theorem c_X9_ticketCount (l : Launch) (D : va_G) (cA : Nat → ClassId) (tS : Nat → Nat) (A : Nat → Prop) (h : Nat → Nat) (F : va_W) (σ : Sg) (wd : Int64) (r0 : Int32) (hM : f_X9_ticketCount σ wd = some r0) : Ct l yX9_ticketCount (Cond.code yX9_ticketCount cX9_ticketCount 1 (some .int) :: bw) 0 0 D cA tS A [.ref (h 0)] (wM cA h σ wd ++ F) (some (.int r0)) (wM cA h σ wd ++ F) := by
  refine ct_of (by decide +kernel) (Nat.le_of_ble_eq_true rfl) ?_
  intro p e s m below meth c E hw ls hl
  replace E : Ev p cX9_ticketCount 1 (some .int) RX9 (Cond.code yX9_ticketCount cX9_ticketCount 1 (some .int) :: bw) D cA tS A s m _ meth c := E
  replace hl : lv_has ls 1 [(0, .ref (h 0))] := hl
  have hx := E.1.1
  have hb := E.1.2.1
  unfold f_X9_ticketCount at hM
  refine lv_aload_n hx hb dX9_ticketCount_0 rfl (lv_at hl 0 rfl) ?_
  refine q_get (C := RX9) (T := TX9) (N := 17) (ci := 9) E (fun w h => List.mem_cons_of_mem _ (inX9 w h)) hw 0 rfl rfl 0 (by decide) (List.mem_cons_of_mem _ tb_1157) (v := .ref (h 1)) rfl dX9_ticketCount_1 ?_
  refine lv_bipush (v := 56) hx hb dX9_ticketCount_4 (by decide) ?_
  refine q_ald E hw 1 (n := 4619) rfl (by decide +kernel) (x := (σ 1 (ix 56))) rfl dX9_ticketCount_6 ?_
  cases hM
  exact q_reti E hw dX9_ticketCount_7
def f_X9_fieldOf    (x1 : Int32) (x2 : Int32) (σ : Sg) (wd : Int64) : Option (Int32) := (f_X9_isTicket x1 σ wd).bind (fun p1 => (if p1 = 0 then some (-2) else (f_X9_ticket x1 x2 σ wd).bind (fun p4 => some p4)))
set_option maxRecDepth 100000 in
set_option maxHeartbeats 4000000 in
theorem c_X9_fieldOf (l : Launch) (D : va_G) (cA : Nat → ClassId) (tS : Nat → Nat) (A : Nat → Prop) (h : Nat → Nat) (F : va_W) (x1 : Int32) (x2 : Int32) (σ : Sg) (wd : Int64) (r0 : Int32) (hM : f_X9_fieldOf x1 x2 σ wd = some r0) : Ct l yX9_fieldOf (Cond.code yX9_fieldOf cX9_fieldOf 3 (some .int) :: bw) 2 43 D cA tS A [.ref (h 0), .int x1, .int x2] (wM cA h σ wd ++ F) (some (.int r0)) (wM cA h σ wd ++ F) := by
  refine ct_of (by decide +kernel) (Nat.le_of_ble_eq_true rfl) ?_
  intro p e s m below meth c E hw ls hl
  replace E : Ev p cX9_fieldOf 3 (some .int) RX9 (Cond.code yX9_fieldOf cX9_fieldOf 3 (some .int) :: bw) D cA tS A s m _ meth c := E
  replace hl : lv_has ls 3 [(0, .ref (h 0)), (1, .int x1), (2, .int x2)] := hl
  have hx := E.1.1
  have hb := E.1.2.1
  unfold f_X9_fieldOf at hM
  refine lv_aload_n hx hb dX9_fieldOf_0 rfl (lv_at hl 0 rfl) ?_
  refine lv_iload_n hx hb dX9_fieldOf_1 rfl (lv_at hl 1 rfl) ?_
  obtain ⟨p1, h2, hM⟩ := b_some hM
  refine q_cv (As := [.int x1]) (rest := []) E hw hl (c_X9_isTicket l D cA tS A h F x1 σ wd p1 h2) 1 (bwV bw_c tb_1245 tb_1247 tb_50 tb_112 tb_1248) rfl (by decide +kernel) ⟨Nat.le_of_ble_eq_true rfl, Nat.le_of_ble_eq_true rfl⟩ 0 9 (T := TX9) (N := 17) rfl rfl rfl rfl (Nat.le_of_ble_eq_true rfl) ⟨Nat.zero_le _, Nat.zero_le _⟩ dX9_fieldOf_2 (fun H locs hw => ?_)
  refine lv_if_eq (tgt := 17) hx hb dX9_fieldOf_5 (by decide) (fun c3 => ?_) (fun c3 => ?_)
  · replace hM := i_pos hM c3
    refine lv_bipush (v := (-2)) hx hb dX9_fieldOf_17 (by decide) ?_
    cases hM
    exact q_reti E hw dX9_fieldOf_19
  · replace hM := i_neg hM c3
    refine lv_aload_n hx hb dX9_fieldOf_8 rfl (lv_at hl 0 rfl) ?_
    refine lv_iload_n hx hb dX9_fieldOf_9 rfl (lv_at hl 1 rfl) ?_
    refine lv_iload_n hx hb dX9_fieldOf_10 rfl (lv_at hl 2 rfl) ?_
    obtain ⟨p4, h5, hM⟩ := b_some hM
    refine q_cv (As := [.int x1, .int x2]) (rest := []) E hw hl (c_X9_ticket l D cA tS A h F x1 x2 σ wd p4 h5) 2 (bwV bw_c tb_1253 tb_1255 tb_52 tb_112 tb_1256) rfl (by decide +kernel) ⟨Nat.le_of_ble_eq_true rfl, Nat.le_of_ble_eq_true rfl⟩ 0 9 (T := TX9) (N := 17) rfl rfl rfl rfl (Nat.le_of_ble_eq_true rfl) ⟨Nat.zero_le _, Nat.zero_le _⟩ dX9_fieldOf_11 (fun H locs hw => ?_)
    refine lv_goto (tgt := 19) hx hb dX9_fieldOf_14 (by decide) ?_
    cases hM
    exact q_reti E hw dX9_fieldOf_19
def f_X9_stateOf    (x1 : Int32) (σ : Sg) (wd : Int64) : Option (Int32) := (f_X9_fieldOf x1 9 σ wd).bind (fun p1 => some p1)
set_option maxRecDepth 100000 in
set_option maxHeartbeats 4000000 in
theorem c_X9_stateOf (l : Launch) (D : va_G) (cA : Nat → ClassId) (tS : Nat → Nat) (A : Nat → Prop) (h : Nat → Nat) (F : va_W) (x1 : Int32) (σ : Sg) (wd : Int64) (r0 : Int32) (hM : f_X9_stateOf x1 σ wd = some r0) : Ct l yX9_stateOf (Cond.code yX9_stateOf cX9_stateOf 2 (some .int) :: bw) 3 65 D cA tS A [.ref (h 0), .int x1] (wM cA h σ wd ++ F) (some (.int r0)) (wM cA h σ wd ++ F) := by
  refine ct_of (by decide +kernel) (Nat.le_of_ble_eq_true rfl) ?_
  intro p e s m below meth c E hw ls hl
  replace E : Ev p cX9_stateOf 2 (some .int) RX9 (Cond.code yX9_stateOf cX9_stateOf 2 (some .int) :: bw) D cA tS A s m _ meth c := E
  replace hl : lv_has ls 2 [(0, .ref (h 0)), (1, .int x1)] := hl
  have hx := E.1.1
  have hb := E.1.2.1
  unfold f_X9_stateOf at hM
  refine lv_aload_n hx hb dX9_stateOf_0 rfl (lv_at hl 0 rfl) ?_
  refine lv_iload_n hx hb dX9_stateOf_1 rfl (lv_at hl 1 rfl) ?_
  refine lv_bipush (v := 9) hx hb dX9_stateOf_2 (by decide) ?_
  obtain ⟨p1, h2, hM⟩ := b_some hM
  refine q_cv (As := [.int x1, .int 9]) (rest := []) E hw hl (c_X9_fieldOf l D cA tS A h F x1 9 σ wd p1 h2) 2 (bwV bw_c tb_1463 tb_1465 tb_83 tb_112 tb_1466) rfl (by decide +kernel) ⟨Nat.le_of_ble_eq_true rfl, Nat.le_of_ble_eq_true rfl⟩ 0 9 (T := TX9) (N := 17) rfl rfl rfl rfl (Nat.le_of_ble_eq_true rfl) ⟨Nat.zero_le _, Nat.zero_le _⟩ dX9_stateOf_4 (fun H locs hw => ?_)
  cases hM
  exact q_reti E hw dX9_stateOf_7
def f_X9_kindOf    (x1 : Int32) (σ : Sg) (wd : Int64) : Option (Int32) := (f_X9_fieldOf x1 0 σ wd).bind (fun p1 => some p1)
set_option maxRecDepth 100000 in
set_option maxHeartbeats 4000000 in
theorem c_X9_kindOf (l : Launch) (D : va_G) (cA : Nat → ClassId) (tS : Nat → Nat) (A : Nat → Prop) (h : Nat → Nat) (F : va_W) (x1 : Int32) (σ : Sg) (wd : Int64) (r0 : Int32) (hM : f_X9_kindOf x1 σ wd = some r0) : Ct l yX9_kindOf (Cond.code yX9_kindOf cX9_kindOf 2 (some .int) :: bw) 3 65 D cA tS A [.ref (h 0), .int x1] (wM cA h σ wd ++ F) (some (.int r0)) (wM cA h σ wd ++ F) := by
  refine ct_of (by decide +kernel) (Nat.le_of_ble_eq_true rfl) ?_
  intro p e s m below meth c E hw ls hl
  replace E : Ev p cX9_kindOf 2 (some .int) RX9 (Cond.code yX9_kindOf cX9_kindOf 2 (some .int) :: bw) D cA tS A s m _ meth c := E
  replace hl : lv_has ls 2 [(0, .ref (h 0)), (1, .int x1)] := hl
  have hx := E.1.1
  have hb := E.1.2.1
  unfold f_X9_kindOf at hM
  refine lv_aload_n hx hb dX9_kindOf_0 rfl (lv_at hl 0 rfl) ?_
  refine lv_iload_n hx hb dX9_kindOf_1 rfl (lv_at hl 1 rfl) ?_
  refine lv_iconst (v := 0) hx hb dX9_kindOf_2 (by decide) ?_
  obtain ⟨p1, h2, hM⟩ := b_some hM
  refine q_cv (As := [.int x1, .int 0]) (rest := []) E hw hl (c_X9_fieldOf l D cA tS A h F x1 0 σ wd p1 h2) 2 (bwV bw_c tb_1463 tb_1465 tb_83 tb_112 tb_1466) rfl (by decide +kernel) ⟨Nat.le_of_ble_eq_true rfl, Nat.le_of_ble_eq_true rfl⟩ 0 9 (T := TX9) (N := 17) rfl rfl rfl rfl (Nat.le_of_ble_eq_true rfl) ⟨Nat.zero_le _, Nat.zero_le _⟩ dX9_kindOf_3 (fun H locs hw => ?_)
  cases hM
  exact q_reti E hw dX9_kindOf_6
def f_X9_levelOf    (x1 : Int32) (σ : Sg) (wd : Int64) : Option (Int32) := (f_X9_fieldOf x1 4 σ wd).bind (fun p1 => some p1)
set_option maxRecDepth 100000 in
set_option maxHeartbeats 4000000 in
theorem c_X9_levelOf (l : Launch) (D : va_G) (cA : Nat → ClassId) (tS : Nat → Nat) (A : Nat → Prop) (h : Nat → Nat) (F : va_W) (x1 : Int32) (σ : Sg) (wd : Int64) (r0 : Int32) (hM : f_X9_levelOf x1 σ wd = some r0) : Ct l yX9_levelOf (Cond.code yX9_levelOf cX9_levelOf 2 (some .int) :: bw) 3 65 D cA tS A [.ref (h 0), .int x1] (wM cA h σ wd ++ F) (some (.int r0)) (wM cA h σ wd ++ F) := by
  refine ct_of (by decide +kernel) (Nat.le_of_ble_eq_true rfl) ?_
  intro p e s m below meth c E hw ls hl
  replace E : Ev p cX9_levelOf 2 (some .int) RX9 (Cond.code yX9_levelOf cX9_levelOf 2 (some .int) :: bw) D cA tS A s m _ meth c := E
  replace hl : lv_has ls 2 [(0, .ref (h 0)), (1, .int x1)] := hl
  have hx := E.1.1
  have hb := E.1.2.1
  unfold f_X9_levelOf at hM
  refine lv_aload_n hx hb dX9_levelOf_0 rfl (lv_at hl 0 rfl) ?_
  refine lv_iload_n hx hb dX9_levelOf_1 rfl (lv_at hl 1 rfl) ?_
  refine lv_iconst (v := 4) hx hb dX9_levelOf_2 (by decide) ?_
  obtain ⟨p1, h2, hM⟩ := b_some hM
  refine q_cv (As := [.int x1, .int 4]) (rest := []) E hw hl (c_X9_fieldOf l D cA tS A h F x1 4 σ wd p1 h2) 2 (bwV bw_c tb_1463 tb_1465 tb_83 tb_112 tb_1466) rfl (by decide +kernel) ⟨Nat.le_of_ble_eq_true rfl, Nat.le_of_ble_eq_true rfl⟩ 0 9 (T := TX9) (N := 17) rfl rfl rfl rfl (Nat.le_of_ble_eq_true rfl) ⟨Nat.zero_le _, Nat.zero_le _⟩ dX9_levelOf_3 (fun H locs hw => ?_)
  cases hM
  exact q_reti E hw dX9_levelOf_6
def f_X9_priorityOf    (x1 : Int32) (σ : Sg) (wd : Int64) : Option (Int32) := (f_X9_fieldOf x1 3 σ wd).bind (fun p1 => some p1)
set_option maxRecDepth 100000 in
set_option maxHeartbeats 4000000 in
theorem c_X9_priorityOf (l : Launch) (D : va_G) (cA : Nat → ClassId) (tS : Nat → Nat) (A : Nat → Prop) (h : Nat → Nat) (F : va_W) (x1 : Int32) (σ : Sg) (wd : Int64) (r0 : Int32) (hM : f_X9_priorityOf x1 σ wd = some r0) : Ct l yX9_priorityOf (Cond.code yX9_priorityOf cX9_priorityOf 2 (some .int) :: bw) 3 65 D cA tS A [.ref (h 0), .int x1] (wM cA h σ wd ++ F) (some (.int r0)) (wM cA h σ wd ++ F) := by
  refine ct_of (by decide +kernel) (Nat.le_of_ble_eq_true rfl) ?_
  intro p e s m below meth c E hw ls hl
  replace E : Ev p cX9_priorityOf 2 (some .int) RX9 (Cond.code yX9_priorityOf cX9_priorityOf 2 (some .int) :: bw) D cA tS A s m _ meth c := E
  replace hl : lv_has ls 2 [(0, .ref (h 0)), (1, .int x1)] := hl
  have hx := E.1.1
  have hb := E.1.2.1
  unfold f_X9_priorityOf at hM
  refine lv_aload_n hx hb dX9_priorityOf_0 rfl (lv_at hl 0 rfl) ?_
  refine lv_iload_n hx hb dX9_priorityOf_1 rfl (lv_at hl 1 rfl) ?_
  refine lv_iconst (v := 3) hx hb dX9_priorityOf_2 (by decide) ?_
  obtain ⟨p1, h2, hM⟩ := b_some hM
  refine q_cv (As := [.int x1, .int 3]) (rest := []) E hw hl (c_X9_fieldOf l D cA tS A h F x1 3 σ wd p1 h2) 2 (bwV bw_c tb_1463 tb_1465 tb_83 tb_112 tb_1466) rfl (by decide +kernel) ⟨Nat.le_of_ble_eq_true rfl, Nat.le_of_ble_eq_true rfl⟩ 0 9 (T := TX9) (N := 17) rfl rfl rfl rfl (Nat.le_of_ble_eq_true rfl) ⟨Nat.zero_le _, Nat.zero_le _⟩ dX9_priorityOf_3 (fun H locs hw => ?_)
  cases hM
  exact q_reti E hw dX9_priorityOf_6
def f_X9_progress    (x1 : Int32) (σ : Sg) (wd : Int64) : Option (Int32) := (f_X9_fieldOf x1 5 σ wd).bind (fun p1 => some p1)
set_option maxRecDepth 100000 in
set_option maxHeartbeats 4000000 in
theorem c_X9_progress (l : Launch) (D : va_G) (cA : Nat → ClassId) (tS : Nat → Nat) (A : Nat → Prop) (h : Nat → Nat) (F : va_W) (x1 : Int32) (σ : Sg) (wd : Int64) (r0 : Int32) (hM : f_X9_progress x1 σ wd = some r0) : Ct l yX9_progress (Cond.code yX9_progress cX9_progress 2 (some .int) :: bw) 3 65 D cA tS A [.ref (h 0), .int x1] (wM cA h σ wd ++ F) (some (.int r0)) (wM cA h σ wd ++ F) := by
  refine ct_of (by decide +kernel) (Nat.le_of_ble_eq_true rfl) ?_
  intro p e s m below meth c E hw ls hl
  replace E : Ev p cX9_progress 2 (some .int) RX9 (Cond.code yX9_progress cX9_progress 2 (some .int) :: bw) D cA tS A s m _ meth c := E
  replace hl : lv_has ls 2 [(0, .ref (h 0)), (1, .int x1)] := hl
  have hx := E.1.1
  have hb := E.1.2.1
  unfold f_X9_progress at hM
  refine lv_aload_n hx hb dX9_progress_0 rfl (lv_at hl 0 rfl) ?_
  refine lv_iload_n hx hb dX9_progress_1 rfl (lv_at hl 1 rfl) ?_
  refine lv_iconst (v := 5) hx hb dX9_progress_2 (by decide) ?_
  obtain ⟨p1, h2, hM⟩ := b_some hM
  refine q_cv (As := [.int x1, .int 5]) (rest := []) E hw hl (c_X9_fieldOf l D cA tS A h F x1 5 σ wd p1 h2) 2 (bwV bw_c tb_1463 tb_1465 tb_83 tb_112 tb_1466) rfl (by decide +kernel) ⟨Nat.le_of_ble_eq_true rfl, Nat.le_of_ble_eq_true rfl⟩ 0 9 (T := TX9) (N := 17) rfl rfl rfl rfl (Nat.le_of_ble_eq_true rfl) ⟨Nat.zero_le _, Nat.zero_le _⟩ dX9_progress_3 (fun H locs hw => ?_)
  cases hM
  exact q_reti E hw dX9_progress_6
def f_X9_rootOf    (x1 : Int32) (σ : Sg) (wd : Int64) : Option (Int32) := (f_X9_fieldOf x1 10 σ wd).bind (fun p1 => some p1)
set_option maxRecDepth 100000 in
set_option maxHeartbeats 4000000 in
theorem c_X9_rootOf (l : Launch) (D : va_G) (cA : Nat → ClassId) (tS : Nat → Nat) (A : Nat → Prop) (h : Nat → Nat) (F : va_W) (x1 : Int32) (σ : Sg) (wd : Int64) (r0 : Int32) (hM : f_X9_rootOf x1 σ wd = some r0) : Ct l yX9_rootOf (Cond.code yX9_rootOf cX9_rootOf 2 (some .int) :: bw) 3 65 D cA tS A [.ref (h 0), .int x1] (wM cA h σ wd ++ F) (some (.int r0)) (wM cA h σ wd ++ F) := by
  refine ct_of (by decide +kernel) (Nat.le_of_ble_eq_true rfl) ?_
  intro p e s m below meth c E hw ls hl
  replace E : Ev p cX9_rootOf 2 (some .int) RX9 (Cond.code yX9_rootOf cX9_rootOf 2 (some .int) :: bw) D cA tS A s m _ meth c := E
  replace hl : lv_has ls 2 [(0, .ref (h 0)), (1, .int x1)] := hl
  have hx := E.1.1
  have hb := E.1.2.1
  unfold f_X9_rootOf at hM
  refine lv_aload_n hx hb dX9_rootOf_0 rfl (lv_at hl 0 rfl) ?_
  refine lv_iload_n hx hb dX9_rootOf_1 rfl (lv_at hl 1 rfl) ?_
  refine lv_bipush (v := 10) hx hb dX9_rootOf_2 (by decide) ?_
  obtain ⟨p1, h2, hM⟩ := b_some hM
  refine q_cv (As := [.int x1, .int 10]) (rest := []) E hw hl (c_X9_fieldOf l D cA tS A h F x1 10 σ wd p1 h2) 2 (bwV bw_c tb_1463 tb_1465 tb_83 tb_112 tb_1466) rfl (by decide +kernel) ⟨Nat.le_of_ble_eq_true rfl, Nat.le_of_ble_eq_true rfl⟩ 0 9 (T := TX9) (N := 17) rfl rfl rfl rfl (Nat.le_of_ble_eq_true rfl) ⟨Nat.zero_le _, Nat.zero_le _⟩ dX9_rootOf_4 (fun H locs hw => ?_)
  cases hM
  exact q_reti E hw dX9_rootOf_7
def f_X9_twins_17 (N : Nat)   : Nat → Int32 → Int64 → Int32 → Sg → Int64 → Option (Int64)
  | 0, _, _, _, _, _ => none
  | n + 1, x1, y2, x4, σ, wd => (if (σ 1 (ix 56)) ≤ x4 then some y2 else (f_X9_ticket x4 10 σ wd).bind (fun p2 => (if p2 = x1 then f_X9_twins_17 N n x1 (y2 ||| (1 <<< ((x4 : Int32).toInt64 &&& 63))) (x4 + 1) σ wd else f_X9_twins_17 N n x1 (y2 ||| 0) (x4 + 1) σ wd)))
set_option maxRecDepth 100000 in
set_option maxHeartbeats 4000000 in
theorem s_X9_twins_17 (l : Launch) (D : va_G) (cA : Nat → ClassId) (tS : Nat → Nat) (A : Nat → Prop) (h : Nat → Nat) (F : va_W) (N : Nat) {p : Program} {e : Env} {s : State} {m : MethodId} {args : Array Value} {below : List Frame} {meth : Method} {c : Code} (E : Ev p cX9_twins 5 (some .long) RX9 (Cond.code yX9_twins cX9_twins 5 (some .long) :: bw) D cA tS A s m args meth c) : ∀ (n : Nat) (x1 : Int32) (y2 : Int64) (x4 : Int32) (σ : Sg) (wd : Int64) (r0 : Int64) (hM : f_X9_twins_17 N n x1 y2 x4 σ wd = some r0) (H : Heap) (locs : List Loc) (hw : Wd D A (wM cA h σ wd ++ F) s.heap H locs) (ls : Array Slot) (hl : lv_has ls 5 [(0, .ref (h 0)), (1, .int x1), (2, .long y2), (4, .int x4)]), W p l e ({ frames := 2, cells := 0, slots := 0, locals := 43 } : Room) s m args below meth c H locs 0 0 (MQ below (QW D A (some (.long r0)) (wM cA h σ wd ++ F)) args s 0 0 A) (F0 m 17 ls []) := by
  have hx := E.1.1
  have hb := E.1.2.1
  intro n
  induction n with
  | zero =>
    intro x1 y2 x4 σ wd r0 hM
    cases hM
  | succ n ih =>
    intro x1 y2 x4 σ wd r0 hM H locs hw ls hl
    rw [f_X9_twins_17] at hM
    refine lv_iload hx hb dX9_twins_17 (lv_at hl 3 rfl) ?_
    refine lv_aload_n hx hb dX9_twins_19 rfl (lv_at hl 0 rfl) ?_
    refine q_get (C := RX9) (T := TX9) (N := 17) (ci := 9) E (fun w h => List.mem_cons_of_mem _ (inX9 w h)) hw 0 rfl rfl 0 (by decide) (List.mem_cons_of_mem _ tb_1157) (v := .ref (h 1)) rfl dX9_twins_20 ?_
    refine lv_bipush (v := 56) hx hb dX9_twins_23 (by decide) ?_
    refine q_ald E hw 1 (n := 4619) rfl (by decide +kernel) (x := (σ 1 (ix 56))) rfl dX9_twins_25 ?_
    refine lv_icmp_ge (tgt := 58) hx hb dX9_twins_26 (by decide) (fun c1 => ?_) (fun c1 => ?_)
    · replace hM := i_pos hM c1
      refine lv_lload_n hx hb dX9_twins_58 rfl (lv_at hl 2 rfl) ?_
      cases hM
      exact q_retl E hw dX9_twins_59
    · replace hM := i_neg hM c1
      refine lv_lload_n hx hb dX9_twins_29 rfl (lv_at hl 2 rfl) ?_
      refine lv_aload_n hx hb dX9_twins_30 rfl (lv_at hl 0 rfl) ?_
      refine lv_iload hx hb dX9_twins_31 (lv_at hl 3 rfl) ?_
      refine lv_bipush (v := 10) hx hb dX9_twins_33 (by decide) ?_
      obtain ⟨p2, h3, hM⟩ := b_some hM
      refine q_cv (As := [.int x4, .int 10]) (rest := [.long y2]) E hw hl (c_X9_ticket l D cA tS A h F x4 10 σ wd p2 h3) 2 (bwV bw_c tb_1253 tb_1255 tb_52 tb_112 tb_1256) rfl (by decide +kernel) ⟨Nat.le_of_ble_eq_true rfl, Nat.le_of_ble_eq_true rfl⟩ 0 9 (T := TX9) (N := 17) rfl rfl rfl rfl (Nat.le_of_ble_eq_true rfl) ⟨Nat.zero_le _, Nat.zero_le _⟩ dX9_twins_35 (fun H locs hw => ?_)
      refine lv_iload_n hx hb dX9_twins_38 rfl (lv_at hl 1 rfl) ?_
      refine lv_icmp_ne (tgt := 49) hx hb dX9_twins_39 (by decide) (fun c4 => ?_) (fun c4 => ?_)
      · replace hM := i_neg hM c4
        refine lv_lconst (v := 0) hx hb dX9_twins_49 (by decide) ?_
        refine lv_lor hx hb dX9_twins_50 ?_
        refine lv_lstore_n (lv' := [(2, .long (y2 ||| 0)), (0, .ref (h 0)), (1, .int x1), (4, .int x4)]) hx hb dX9_twins_51 rfl hl (by decide) rfl (fun ls hl => ?_)
        refine lv_iinc (v := (x4 + 1)) (lv' := [(4, .int (x4 + 1)), (2, .long (y2 ||| 0)), (0, .ref (h 0)), (1, .int x1)]) hx hb dX9_twins_52 hl (k := 3) rfl rfl (by decide) rfl (fun ls hl => ?_)
        refine lv_goto (tgt := 17) hx hb dX9_twins_55 (by decide) ?_
        exact ih _ _ _ _ _ _ hM _ _ hw _ (lv_sub hl [2, 3, 1, 0] rfl)
      · replace hM := i_pos hM c4
        refine lv_lconst (v := 1) hx hb dX9_twins_42 (by decide) ?_
        refine lv_iload hx hb dX9_twins_43 (lv_at hl 3 rfl) ?_
        refine lv_lshl (v := (1 <<< ((x4 : Int32).toInt64 &&& 63))) hx hb dX9_twins_45 rfl ?_
        refine lv_goto (tgt := 50) hx hb dX9_twins_46 (by decide) ?_
        refine lv_lor hx hb dX9_twins_50 ?_
        refine lv_lstore_n (lv' := [(2, .long (y2 ||| (1 <<< ((x4 : Int32).toInt64 &&& 63)))), (0, .ref (h 0)), (1, .int x1), (4, .int x4)]) hx hb dX9_twins_51 rfl hl (by decide) rfl (fun ls hl => ?_)
        refine lv_iinc (v := (x4 + 1)) (lv' := [(4, .int (x4 + 1)), (2, .long (y2 ||| (1 <<< ((x4 : Int32).toInt64 &&& 63)))), (0, .ref (h 0)), (1, .int x1)]) hx hb dX9_twins_52 hl (k := 3) rfl rfl (by decide) rfl (fun ls hl => ?_)
        refine lv_goto (tgt := 17) hx hb dX9_twins_55 (by decide) ?_
        exact ih _ _ _ _ _ _ hM _ _ hw _ (lv_sub hl [2, 3, 1, 0] rfl)
def f_X9_twins (N : Nat)   (x1 : Int32) (σ : Sg) (wd : Int64) : Option (Int64) := (f_X9_isTicket x1 σ wd).bind (fun p1 => (if p1 = 0 then some (-2) else f_X9_twins_17 N N x1 0 0 σ wd))
set_option maxRecDepth 100000 in
set_option maxHeartbeats 4000000 in
theorem c_X9_twins (l : Launch) (D : va_G) (cA : Nat → ClassId) (tS : Nat → Nat) (A : Nat → Prop) (h : Nat → Nat) (F : va_W) (N : Nat) (x1 : Int32) (σ : Sg) (wd : Int64) (r0 : Int64) (hM : f_X9_twins N x1 σ wd = some r0) : Ct l yX9_twins (Cond.code yX9_twins cX9_twins 5 (some .long) :: bw) 2 43 D cA tS A [.ref (h 0), .int x1] (wM cA h σ wd ++ F) (some (.long r0)) (wM cA h σ wd ++ F) := by
  refine ct_of (by decide +kernel) (Nat.le_of_ble_eq_true rfl) ?_
  intro p e s m below meth c E hw ls hl
  replace E : Ev p cX9_twins 5 (some .long) RX9 (Cond.code yX9_twins cX9_twins 5 (some .long) :: bw) D cA tS A s m _ meth c := E
  replace hl : lv_has ls 5 [(0, .ref (h 0)), (1, .int x1)] := hl
  have hx := E.1.1
  have hb := E.1.2.1
  unfold f_X9_twins at hM
  refine lv_aload_n hx hb dX9_twins_0 rfl (lv_at hl 0 rfl) ?_
  refine lv_iload_n hx hb dX9_twins_1 rfl (lv_at hl 1 rfl) ?_
  obtain ⟨p1, h2, hM⟩ := b_some hM
  refine q_cv (As := [.int x1]) (rest := []) E hw hl (c_X9_isTicket l D cA tS A h F x1 σ wd p1 h2) 1 (bwV bw_c tb_1245 tb_1247 tb_50 tb_112 tb_1248) rfl (by decide +kernel) ⟨Nat.le_of_ble_eq_true rfl, Nat.le_of_ble_eq_true rfl⟩ 0 9 (T := TX9) (N := 17) rfl rfl rfl rfl (Nat.le_of_ble_eq_true rfl) ⟨Nat.zero_le _, Nat.zero_le _⟩ dX9_twins_2 (fun H locs hw => ?_)
  refine lv_if_ne (tgt := 12) hx hb dX9_twins_5 (by decide) (fun c3 => ?_) (fun c3 => ?_)
  · replace hM := i_neg hM c3
    refine lv_lconst (v := 0) hx hb dX9_twins_12 (by decide) ?_
    refine lv_lstore_n (lv' := [(2, .long 0), (0, .ref (h 0)), (1, .int x1)]) hx hb dX9_twins_13 rfl hl (by decide) rfl (fun ls hl => ?_)
    refine lv_iconst (v := 0) hx hb dX9_twins_14 (by decide) ?_
    refine lv_istore (lv' := [(4, .int 0), (2, .long 0), (0, .ref (h 0)), (1, .int x1)]) hx hb dX9_twins_15 hl (by decide) rfl (fun ls hl => ?_)
    exact s_X9_twins_17 l D cA tS A h F N E N _ _ _ _ _ _ hM _ _ hw _ (lv_sub hl [2, 3, 1, 0] rfl)
  · replace hM := i_pos hM c3
    refine lv_ldc2 (v := (-2)) hx hb E.1.2.2.2.1 (E.1.2.2.2.2 _ (List.mem_cons_of_mem _ tb_1491)) dX9_twins_8 ?_
    cases hM
    exact q_retl E hw dX9_twins_11
def f_X9_reportedAt    (x1 : Int32) (σ : Sg) (wd : Int64) : Option (Int32) := (f_X9_fieldOf x1 11 σ wd).bind (fun p1 => some p1)
set_option maxRecDepth 100000 in
set_option maxHeartbeats 4000000 in
theorem c_X9_reportedAt (l : Launch) (D : va_G) (cA : Nat → ClassId) (tS : Nat → Nat) (A : Nat → Prop) (h : Nat → Nat) (F : va_W) (x1 : Int32) (σ : Sg) (wd : Int64) (r0 : Int32) (hM : f_X9_reportedAt x1 σ wd = some r0) : Ct l yX9_reportedAt (Cond.code yX9_reportedAt cX9_reportedAt 2 (some .int) :: bw) 3 65 D cA tS A [.ref (h 0), .int x1] (wM cA h σ wd ++ F) (some (.int r0)) (wM cA h σ wd ++ F) := by
  refine ct_of (by decide +kernel) (Nat.le_of_ble_eq_true rfl) ?_
  intro p e s m below meth c E hw ls hl
  replace E : Ev p cX9_reportedAt 2 (some .int) RX9 (Cond.code yX9_reportedAt cX9_reportedAt 2 (some .int) :: bw) D cA tS A s m _ meth c := E
  replace hl : lv_has ls 2 [(0, .ref (h 0)), (1, .int x1)] := hl
  have hx := E.1.1
  have hb := E.1.2.1
  unfold f_X9_reportedAt at hM
  refine lv_aload_n hx hb dX9_reportedAt_0 rfl (lv_at hl 0 rfl) ?_
  refine lv_iload_n hx hb dX9_reportedAt_1 rfl (lv_at hl 1 rfl) ?_
  refine lv_bipush (v := 11) hx hb dX9_reportedAt_2 (by decide) ?_
  obtain ⟨p1, h2, hM⟩ := b_some hM
  refine q_cv (As := [.int x1, .int 11]) (rest := []) E hw hl (c_X9_fieldOf l D cA tS A h F x1 11 σ wd p1 h2) 2 (bwV bw_c tb_1463 tb_1465 tb_83 tb_112 tb_1466) rfl (by decide +kernel) ⟨Nat.le_of_ble_eq_true rfl, Nat.le_of_ble_eq_true rfl⟩ 0 9 (T := TX9) (N := 17) rfl rfl rfl rfl (Nat.le_of_ble_eq_true rfl) ⟨Nat.zero_le _, Nat.zero_le _⟩ dX9_reportedAt_4 (fun H locs hw => ?_)
  cases hM
  exact q_reti E hw dX9_reportedAt_7
def f_X9_answeredAt    (x1 : Int32) (σ : Sg) (wd : Int64) : Option (Int32) := (f_X9_fieldOf x1 12 σ wd).bind (fun p1 => some p1)
set_option maxRecDepth 100000 in
set_option maxHeartbeats 4000000 in
theorem c_X9_answeredAt (l : Launch) (D : va_G) (cA : Nat → ClassId) (tS : Nat → Nat) (A : Nat → Prop) (h : Nat → Nat) (F : va_W) (x1 : Int32) (σ : Sg) (wd : Int64) (r0 : Int32) (hM : f_X9_answeredAt x1 σ wd = some r0) : Ct l yX9_answeredAt (Cond.code yX9_answeredAt cX9_answeredAt 2 (some .int) :: bw) 3 65 D cA tS A [.ref (h 0), .int x1] (wM cA h σ wd ++ F) (some (.int r0)) (wM cA h σ wd ++ F) := by
  refine ct_of (by decide +kernel) (Nat.le_of_ble_eq_true rfl) ?_
  intro p e s m below meth c E hw ls hl
  replace E : Ev p cX9_answeredAt 2 (some .int) RX9 (Cond.code yX9_answeredAt cX9_answeredAt 2 (some .int) :: bw) D cA tS A s m _ meth c := E
  replace hl : lv_has ls 2 [(0, .ref (h 0)), (1, .int x1)] := hl
  have hx := E.1.1
  have hb := E.1.2.1
  unfold f_X9_answeredAt at hM
  refine lv_aload_n hx hb dX9_answeredAt_0 rfl (lv_at hl 0 rfl) ?_
  refine lv_iload_n hx hb dX9_answeredAt_1 rfl (lv_at hl 1 rfl) ?_
  refine lv_bipush (v := 12) hx hb dX9_answeredAt_2 (by decide) ?_
  obtain ⟨p1, h2, hM⟩ := b_some hM
  refine q_cv (As := [.int x1, .int 12]) (rest := []) E hw hl (c_X9_fieldOf l D cA tS A h F x1 12 σ wd p1 h2) 2 (bwV bw_c tb_1463 tb_1465 tb_83 tb_112 tb_1466) rfl (by decide +kernel) ⟨Nat.le_of_ble_eq_true rfl, Nat.le_of_ble_eq_true rfl⟩ 0 9 (T := TX9) (N := 17) rfl rfl rfl rfl (Nat.le_of_ble_eq_true rfl) ⟨Nat.zero_le _, Nat.zero_le _⟩ dX9_answeredAt_4 (fun H locs hw => ?_)
  cases hM
  exact q_reti E hw dX9_answeredAt_7
def f_X9_solvedAt    (x1 : Int32) (σ : Sg) (wd : Int64) : Option (Int32) := (f_X9_fieldOf x1 13 σ wd).bind (fun p1 => some p1)
set_option maxRecDepth 100000 in
set_option maxHeartbeats 4000000 in
theorem c_X9_solvedAt (l : Launch) (D : va_G) (cA : Nat → ClassId) (tS : Nat → Nat) (A : Nat → Prop) (h : Nat → Nat) (F : va_W) (x1 : Int32) (σ : Sg) (wd : Int64) (r0 : Int32) (hM : f_X9_solvedAt x1 σ wd = some r0) : Ct l yX9_solvedAt (Cond.code yX9_solvedAt cX9_solvedAt 2 (some .int) :: bw) 3 65 D cA tS A [.ref (h 0), .int x1] (wM cA h σ wd ++ F) (some (.int r0)) (wM cA h σ wd ++ F) := by
  refine ct_of (by decide +kernel) (Nat.le_of_ble_eq_true rfl) ?_
  intro p e s m below meth c E hw ls hl
  replace E : Ev p cX9_solvedAt 2 (some .int) RX9 (Cond.code yX9_solvedAt cX9_solvedAt 2 (some .int) :: bw) D cA tS A s m _ meth c := E
  replace hl : lv_has ls 2 [(0, .ref (h 0)), (1, .int x1)] := hl
  have hx := E.1.1
  have hb := E.1.2.1
  unfold f_X9_solvedAt at hM
  refine lv_aload_n hx hb dX9_solvedAt_0 rfl (lv_at hl 0 rfl) ?_
  refine lv_iload_n hx hb dX9_solvedAt_1 rfl (lv_at hl 1 rfl) ?_
  refine lv_bipush (v := 13) hx hb dX9_solvedAt_2 (by decide) ?_
  obtain ⟨p1, h2, hM⟩ := b_some hM
  refine q_cv (As := [.int x1, .int 13]) (rest := []) E hw hl (c_X9_fieldOf l D cA tS A h F x1 13 σ wd p1 h2) 2 (bwV bw_c tb_1463 tb_1465 tb_83 tb_112 tb_1466) rfl (by decide +kernel) ⟨Nat.le_of_ble_eq_true rfl, Nat.le_of_ble_eq_true rfl⟩ 0 9 (T := TX9) (N := 17) rfl rfl rfl rfl (Nat.le_of_ble_eq_true rfl) ⟨Nat.zero_le _, Nat.zero_le _⟩ dX9_solvedAt_4 (fun H locs hw => ?_)
  cases hM
  exact q_reti E hw dX9_solvedAt_7
def f_X9_responseClock    (x1 : Int32) (σ : Sg) (wd : Int64) : Option (Int32) := (f_X9_fieldOf x1 7 σ wd).bind (fun p1 => some p1)
set_option maxRecDepth 100000 in
set_option maxHeartbeats 4000000 in
theorem c_X9_responseClock (l : Launch) (D : va_G) (cA : Nat → ClassId) (tS : Nat → Nat) (A : Nat → Prop) (h : Nat → Nat) (F : va_W) (x1 : Int32) (σ : Sg) (wd : Int64) (r0 : Int32) (hM : f_X9_responseClock x1 σ wd = some r0) : Ct l yX9_responseClock (Cond.code yX9_responseClock cX9_responseClock 2 (some .int) :: bw) 3 65 D cA tS A [.ref (h 0), .int x1] (wM cA h σ wd ++ F) (some (.int r0)) (wM cA h σ wd ++ F) := by
  refine ct_of (by decide +kernel) (Nat.le_of_ble_eq_true rfl) ?_
  intro p e s m below meth c E hw ls hl
  replace E : Ev p cX9_responseClock 2 (some .int) RX9 (Cond.code yX9_responseClock cX9_responseClock 2 (some .int) :: bw) D cA tS A s m _ meth c := E
  replace hl : lv_has ls 2 [(0, .ref (h 0)), (1, .int x1)] := hl
  have hx := E.1.1
  have hb := E.1.2.1
  unfold f_X9_responseClock at hM
  refine lv_aload_n hx hb dX9_responseClock_0 rfl (lv_at hl 0 rfl) ?_
  refine lv_iload_n hx hb dX9_responseClock_1 rfl (lv_at hl 1 rfl) ?_
  refine lv_bipush (v := 7) hx hb dX9_responseClock_2 (by decide) ?_
  obtain ⟨p1, h2, hM⟩ := b_some hM
  refine q_cv (As := [.int x1, .int 7]) (rest := []) E hw hl (c_X9_fieldOf l D cA tS A h F x1 7 σ wd p1 h2) 2 (bwV bw_c tb_1463 tb_1465 tb_83 tb_112 tb_1466) rfl (by decide +kernel) ⟨Nat.le_of_ble_eq_true rfl, Nat.le_of_ble_eq_true rfl⟩ 0 9 (T := TX9) (N := 17) rfl rfl rfl rfl (Nat.le_of_ble_eq_true rfl) ⟨Nat.zero_le _, Nat.zero_le _⟩ dX9_responseClock_4 (fun H locs hw => ?_)
  cases hM
  exact q_reti E hw dX9_responseClock_7
def f_X9_resolveClock    (x1 : Int32) (σ : Sg) (wd : Int64) : Option (Int32) := (f_X9_fieldOf x1 8 σ wd).bind (fun p1 => some p1)
set_option maxRecDepth 100000 in
set_option maxHeartbeats 4000000 in
theorem c_X9_resolveClock (l : Launch) (D : va_G) (cA : Nat → ClassId) (tS : Nat → Nat) (A : Nat → Prop) (h : Nat → Nat) (F : va_W) (x1 : Int32) (σ : Sg) (wd : Int64) (r0 : Int32) (hM : f_X9_resolveClock x1 σ wd = some r0) : Ct l yX9_resolveClock (Cond.code yX9_resolveClock cX9_resolveClock 2 (some .int) :: bw) 3 65 D cA tS A [.ref (h 0), .int x1] (wM cA h σ wd ++ F) (some (.int r0)) (wM cA h σ wd ++ F) := by
  refine ct_of (by decide +kernel) (Nat.le_of_ble_eq_true rfl) ?_
  intro p e s m below meth c E hw ls hl
  replace E : Ev p cX9_resolveClock 2 (some .int) RX9 (Cond.code yX9_resolveClock cX9_resolveClock 2 (some .int) :: bw) D cA tS A s m _ meth c := E
  replace hl : lv_has ls 2 [(0, .ref (h 0)), (1, .int x1)] := hl
  have hx := E.1.1
  have hb := E.1.2.1
  unfold f_X9_resolveClock at hM
  refine lv_aload_n hx hb dX9_resolveClock_0 rfl (lv_at hl 0 rfl) ?_
  refine lv_iload_n hx hb dX9_resolveClock_1 rfl (lv_at hl 1 rfl) ?_
  refine lv_bipush (v := 8) hx hb dX9_resolveClock_2 (by decide) ?_
  obtain ⟨p1, h2, hM⟩ := b_some hM
  refine q_cv (As := [.int x1, .int 8]) (rest := []) E hw hl (c_X9_fieldOf l D cA tS A h F x1 8 σ wd p1 h2) 2 (bwV bw_c tb_1463 tb_1465 tb_83 tb_112 tb_1466) rfl (by decide +kernel) ⟨Nat.le_of_ble_eq_true rfl, Nat.le_of_ble_eq_true rfl⟩ 0 9 (T := TX9) (N := 17) rfl rfl rfl rfl (Nat.le_of_ble_eq_true rfl) ⟨Nat.zero_le _, Nat.zero_le _⟩ dX9_resolveClock_4 (fun H locs hw => ?_)
  cases hM
  exact q_reti E hw dX9_resolveClock_7
def f_X9_queueLength (N : Nat)   (x1 : Int32) (σ : Sg) (wd : Int64) : Option (Int32) := (f_X9_isLevel x1).bind (fun p1 => (if p1 = 0 then some (-4) else (f_X9_countOf N x1 0 σ wd).bind (fun p4 => some p4)))
set_option maxRecDepth 100000 in
set_option maxHeartbeats 4000000 in
theorem c_X9_queueLength (l : Launch) (D : va_G) (cA : Nat → ClassId) (tS : Nat → Nat) (A : Nat → Prop) (h : Nat → Nat) (F : va_W) (N : Nat) (x1 : Int32) (σ : Sg) (wd : Int64) (r0 : Int32) (hM : f_X9_queueLength N x1 σ wd = some r0) : Ct l yX9_queueLength (Cond.code yX9_queueLength cX9_queueLength 2 (some .int) :: bw) 3 68 D cA tS A [.ref (h 0), .int x1] (wM cA h σ wd ++ F) (some (.int r0)) (wM cA h σ wd ++ F) := by
  refine ct_of (by decide +kernel) (Nat.le_of_ble_eq_true rfl) ?_
  intro p e s m below meth c E hw ls hl
  replace E : Ev p cX9_queueLength 2 (some .int) RX9 (Cond.code yX9_queueLength cX9_queueLength 2 (some .int) :: bw) D cA tS A s m _ meth c := E
  replace hl : lv_has ls 2 [(0, .ref (h 0)), (1, .int x1)] := hl
  have hx := E.1.1
  have hb := E.1.2.1
  unfold f_X9_queueLength at hM
  refine lv_iload_n hx hb dX9_queueLength_0 rfl (lv_at hl 1 rfl) ?_
  obtain ⟨p1, h2, hM⟩ := b_some hM
  refine q_cs (As := [.int x1]) (rest := []) E hw hl (c_X9_isLevel l D cA tS A (wM cA h σ wd ++ F) x1 p1 h2) 1 (bwS bw_c tb_1230 tb_1231 tb_112 tb_1232) rfl (by decide +kernel) ⟨Nat.le_of_ble_eq_true rfl, Nat.le_of_ble_eq_true rfl⟩ rfl rfl (Nat.le_of_ble_eq_true rfl) ⟨Nat.zero_le _, Nat.zero_le _⟩ dX9_queueLength_1 (fun H locs hw => ?_)
  refine lv_if_eq (tgt := 16) hx hb dX9_queueLength_4 (by decide) (fun c3 => ?_) (fun c3 => ?_)
  · replace hM := i_pos hM c3
    refine lv_bipush (v := (-4)) hx hb dX9_queueLength_16 (by decide) ?_
    cases hM
    exact q_reti E hw dX9_queueLength_18
  · replace hM := i_neg hM c3
    refine lv_aload_n hx hb dX9_queueLength_7 rfl (lv_at hl 0 rfl) ?_
    refine lv_iload_n hx hb dX9_queueLength_8 rfl (lv_at hl 1 rfl) ?_
    refine lv_iconst (v := 0) hx hb dX9_queueLength_9 (by decide) ?_
    obtain ⟨p4, h5, hM⟩ := b_some hM
    refine q_cv (As := [.int x1, .int 0]) (rest := []) E hw hl (c_X9_countOf l D cA tS A h F N x1 0 σ wd p4 h5) 2 (bwV bw_c tb_1281 tb_1283 tb_59 tb_112 tb_1284) rfl (by decide +kernel) ⟨Nat.le_of_ble_eq_true rfl, Nat.le_of_ble_eq_true rfl⟩ 0 9 (T := TX9) (N := 17) rfl rfl rfl rfl (Nat.le_of_ble_eq_true rfl) ⟨Nat.zero_le _, Nat.zero_le _⟩ dX9_queueLength_10 (fun H locs hw => ?_)
    refine lv_goto (tgt := 18) hx hb dX9_queueLength_13 (by decide) ?_
    cases hM
    exact q_reti E hw dX9_queueLength_18
def f_X9_nextTicket (N : Nat)   (x1 : Int32) (σ : Sg) (wd : Int64) : Option (Int32) := (f_X9_isLevel x1).bind (fun p1 => (if p1 = 0 then some (-4) else (f_X9_mostUrgent N x1 σ wd).bind (fun p4 => some p4)))
set_option maxRecDepth 100000 in
set_option maxHeartbeats 4000000 in
theorem c_X9_nextTicket (l : Launch) (D : va_G) (cA : Nat → ClassId) (tS : Nat → Nat) (A : Nat → Prop) (h : Nat → Nat) (F : va_W) (N : Nat) (x1 : Int32) (σ : Sg) (wd : Int64) (r0 : Int32) (hM : f_X9_nextTicket N x1 σ wd = some r0) : Ct l yX9_nextTicket (Cond.code yX9_nextTicket cX9_nextTicket 2 (some .int) :: bw) 4 88 D cA tS A [.ref (h 0), .int x1] (wM cA h σ wd ++ F) (some (.int r0)) (wM cA h σ wd ++ F) := by
  refine ct_of (by decide +kernel) (Nat.le_of_ble_eq_true rfl) ?_
  intro p e s m below meth c E hw ls hl
  replace E : Ev p cX9_nextTicket 2 (some .int) RX9 (Cond.code yX9_nextTicket cX9_nextTicket 2 (some .int) :: bw) D cA tS A s m _ meth c := E
  replace hl : lv_has ls 2 [(0, .ref (h 0)), (1, .int x1)] := hl
  have hx := E.1.1
  have hb := E.1.2.1
  unfold f_X9_nextTicket at hM
  refine lv_iload_n hx hb dX9_nextTicket_0 rfl (lv_at hl 1 rfl) ?_
  obtain ⟨p1, h2, hM⟩ := b_some hM
  refine q_cs (As := [.int x1]) (rest := []) E hw hl (c_X9_isLevel l D cA tS A (wM cA h σ wd ++ F) x1 p1 h2) 1 (bwS bw_c tb_1230 tb_1231 tb_112 tb_1232) rfl (by decide +kernel) ⟨Nat.le_of_ble_eq_true rfl, Nat.le_of_ble_eq_true rfl⟩ rfl rfl (Nat.le_of_ble_eq_true rfl) ⟨Nat.zero_le _, Nat.zero_le _⟩ dX9_nextTicket_1 (fun H locs hw => ?_)
  refine lv_if_eq (tgt := 15) hx hb dX9_nextTicket_4 (by decide) (fun c3 => ?_) (fun c3 => ?_)
  · replace hM := i_pos hM c3
    refine lv_bipush (v := (-4)) hx hb dX9_nextTicket_15 (by decide) ?_
    cases hM
    exact q_reti E hw dX9_nextTicket_17
  · replace hM := i_neg hM c3
    refine lv_aload_n hx hb dX9_nextTicket_7 rfl (lv_at hl 0 rfl) ?_
    refine lv_iload_n hx hb dX9_nextTicket_8 rfl (lv_at hl 1 rfl) ?_
    obtain ⟨p4, h5, hM⟩ := b_some hM
    refine q_cv (As := [.int x1]) (rest := []) E hw hl (c_X9_mostUrgent l D cA tS A h F N x1 σ wd p4 h5) 1 (bwV bw_c tb_1407 tb_1409 tb_72 tb_112 tb_1410) rfl (by decide +kernel) ⟨Nat.le_of_ble_eq_true rfl, Nat.le_of_ble_eq_true rfl⟩ 0 9 (T := TX9) (N := 17) rfl rfl rfl rfl (Nat.le_of_ble_eq_true rfl) ⟨Nat.zero_le _, Nat.zero_le _⟩ dX9_nextTicket_9 (fun H locs hw => ?_)
    refine lv_goto (tgt := 17) hx hb dX9_nextTicket_12 (by decide) ?_
    cases hM
    exact q_reti E hw dX9_nextTicket_17
def f_X9_busyAgents (N : Nat)   (x1 : Int32) (σ : Sg) (wd : Int64) : Option (Int32) := (f_X9_isLevel x1).bind (fun p1 => (if p1 = 0 then some (-4) else (f_X9_busy N x1 σ wd).bind (fun p4 => some p4)))
set_option maxRecDepth 100000 in
set_option maxHeartbeats 4000000 in
theorem c_X9_busyAgents (l : Launch) (D : va_G) (cA : Nat → ClassId) (tS : Nat → Nat) (A : Nat → Prop) (h : Nat → Nat) (F : va_W) (N : Nat) (x1 : Int32) (σ : Sg) (wd : Int64) (r0 : Int32) (hM : f_X9_busyAgents N x1 σ wd = some r0) : Ct l yX9_busyAgents (Cond.code yX9_busyAgents cX9_busyAgents 2 (some .int) :: bw) 4 89 D cA tS A [.ref (h 0), .int x1] (wM cA h σ wd ++ F) (some (.int r0)) (wM cA h σ wd ++ F) := by
  refine ct_of (by decide +kernel) (Nat.le_of_ble_eq_true rfl) ?_
  intro p e s m below meth c E hw ls hl
  replace E : Ev p cX9_busyAgents 2 (some .int) RX9 (Cond.code yX9_busyAgents cX9_busyAgents 2 (some .int) :: bw) D cA tS A s m _ meth c := E
  replace hl : lv_has ls 2 [(0, .ref (h 0)), (1, .int x1)] := hl
  have hx := E.1.1
  have hb := E.1.2.1
  unfold f_X9_busyAgents at hM
  refine lv_iload_n hx hb dX9_busyAgents_0 rfl (lv_at hl 1 rfl) ?_
  obtain ⟨p1, h2, hM⟩ := b_some hM
  refine q_cs (As := [.int x1]) (rest := []) E hw hl (c_X9_isLevel l D cA tS A (wM cA h σ wd ++ F) x1 p1 h2) 1 (bwS bw_c tb_1230 tb_1231 tb_112 tb_1232) rfl (by decide +kernel) ⟨Nat.le_of_ble_eq_true rfl, Nat.le_of_ble_eq_true rfl⟩ rfl rfl (Nat.le_of_ble_eq_true rfl) ⟨Nat.zero_le _, Nat.zero_le _⟩ dX9_busyAgents_1 (fun H locs hw => ?_)
  refine lv_if_eq (tgt := 15) hx hb dX9_busyAgents_4 (by decide) (fun c3 => ?_) (fun c3 => ?_)
  · replace hM := i_pos hM c3
    refine lv_bipush (v := (-4)) hx hb dX9_busyAgents_15 (by decide) ?_
    cases hM
    exact q_reti E hw dX9_busyAgents_17
  · replace hM := i_neg hM c3
    refine lv_aload_n hx hb dX9_busyAgents_7 rfl (lv_at hl 0 rfl) ?_
    refine lv_iload_n hx hb dX9_busyAgents_8 rfl (lv_at hl 1 rfl) ?_
    obtain ⟨p4, h5, hM⟩ := b_some hM
    refine q_cv (As := [.int x1]) (rest := []) E hw hl (c_X9_busy l D cA tS A h F N x1 σ wd p4 h5) 1 (bwV bw_c tb_1277 tb_1279 tb_58 tb_112 tb_1280) rfl (by decide +kernel) ⟨Nat.le_of_ble_eq_true rfl, Nat.le_of_ble_eq_true rfl⟩ 0 9 (T := TX9) (N := 17) rfl rfl rfl rfl (Nat.le_of_ble_eq_true rfl) ⟨Nat.zero_le _, Nat.zero_le _⟩ dX9_busyAgents_9 (fun H locs hw => ?_)
    refine lv_goto (tgt := 17) hx hb dX9_busyAgents_12 (by decide) ?_
    cases hM
    exact q_reti E hw dX9_busyAgents_17
def f_X9_suggestRoot_52 (N : Nat)  (k13 : Int32 → Int32 → Sg → Int64 → Option (Int32)) (x1 : Int32) (x2 : Int32) (σ : Sg) (wd : Int64) : Option (Int32) := k13 x1 (x2 + 1) σ wd
set_option maxRecDepth 100000 in
set_option maxHeartbeats 4000000 in
theorem s_X9_suggestRoot_52 (l : Launch) (D : va_G) (cA : Nat → ClassId) (tS : Nat → Nat) (A : Nat → Prop) (h : Nat → Nat) (F : va_W) (N : Nat) (k13 : Int32 → Int32 → Sg → Int64 → Option (Int32)) {p : Program} {e : Env} {s : State} {m : MethodId} {args : Array Value} {below : List Frame} {meth : Method} {c : Code} (E : Ev p cX9_suggestRoot 4 (some .int) RX9 (Cond.code yX9_suggestRoot cX9_suggestRoot 4 (some .int) :: bw) D cA tS A s m args meth c) (hk13 : ∀ (x1 : Int32) (x2 : Int32) (σ : Sg) (wd : Int64) (r0 : Int32) (hM : k13 x1 x2 σ wd = some r0) (H : Heap) (locs : List Loc) (hw : Wd D A (wM cA h σ wd ++ F) s.heap H locs) (ls : Array Slot) (hl : lv_has ls 4 [(0, .ref (h 0)), (1, .int x1), (2, .int x2)]), W p l e ({ frames := 2, cells := 0, slots := 0, locals := 43 } : Room) s m args below meth c H locs 0 0 (MQ below (QW D A (some (.int r0)) (wM cA h σ wd ++ F)) args s 0 0 A) (F0 m 13 ls [])) : ∀ (x1 : Int32) (x2 : Int32) (σ : Sg) (wd : Int64) (r0 : Int32) (hM : f_X9_suggestRoot_52 N k13 x1 x2 σ wd = some r0) (H : Heap) (locs : List Loc) (hw : Wd D A (wM cA h σ wd ++ F) s.heap H locs) (ls : Array Slot) (hl : lv_has ls 4 [(0, .ref (h 0)), (1, .int x1), (2, .int x2)]), W p l e ({ frames := 2, cells := 0, slots := 0, locals := 43 } : Room) s m args below meth c H locs 0 0 (MQ below (QW D A (some (.int r0)) (wM cA h σ wd ++ F)) args s 0 0 A) (F0 m 52 ls []) := by
  have hx := E.1.1
  have hb := E.1.2.1
  intro x1 x2 σ wd r0 hM H locs hw ls hl
  unfold f_X9_suggestRoot_52 at hM
  refine lv_iconst (v := 0) hx hb dX9_suggestRoot_52 (by decide) ?_
  refine lv_istore_n (lv' := [(3, .int 0), (0, .ref (h 0)), (1, .int x1), (2, .int x2)]) hx hb dX9_suggestRoot_53 rfl hl (by decide) rfl (fun ls hl => ?_)
  refine lv_iload_n hx hb dX9_suggestRoot_54 rfl (lv_at hl 0 rfl) ?_
  refine lv_if_eq (tgt := 89) hx hb dX9_suggestRoot_55 (by decide) (fun c1 => ?_) (fun c1 => ?_)
  · refine lv_iinc (v := (x2 + 1)) (lv' := [(2, .int (x2 + 1)), (3, .int 0), (0, .ref (h 0)), (1, .int x1)]) hx hb dX9_suggestRoot_89 hl (k := 3) rfl rfl (by decide) rfl (fun ls hl => ?_)
    refine lv_goto (tgt := 13) hx hb dX9_suggestRoot_92 (by decide) ?_
    exact hk13 _ _ _ _ _ hM _ _ hw _ (lv_sub hl [2, 3, 0] rfl)
  · first | exact absurd (by decide) c1 | exact absurd c1 (by decide)
def f_X9_suggestRoot_13 (N : Nat)   : Nat → Int32 → Int32 → Sg → Int64 → Option (Int32)
  | 0, _, _, _, _ => none
  | n + 1, x1, x2, σ, wd => (if x1 ≤ x2 then some (-1) else (f_X9_ticket x2 0 σ wd).bind (fun p2 => (f_X9_ticket x1 0 σ wd).bind (fun p4 => (if p2 = p4 then (f_X9_ticket x2 2 σ wd).bind (fun p7 => (f_X9_ticket x1 2 σ wd).bind (fun p9 => (if p7 = p9 then (f_X9_isAlive x2 σ wd).bind (fun p13 => (if p13 = 0 then f_X9_suggestRoot_13 N n x1 (x2 + 1) σ wd else (f_X9_ticket x1 11 σ wd).bind (fun p16 => (f_X9_ticket x2 11 σ wd).bind (fun p18 => (if 240 < (p16 - p18) then f_X9_suggestRoot_13 N n x1 (x2 + 1) σ wd else some x2))))) else f_X9_suggestRoot_52 N (fun x1 x2 σ wd => f_X9_suggestRoot_13 N n x1 x2 σ wd) x1 x2 σ wd))) else f_X9_suggestRoot_52 N (fun x1 x2 σ wd => f_X9_suggestRoot_13 N n x1 x2 σ wd) x1 x2 σ wd))))
set_option maxRecDepth 100000 in
set_option maxHeartbeats 4000000 in
theorem s_X9_suggestRoot_13 (l : Launch) (D : va_G) (cA : Nat → ClassId) (tS : Nat → Nat) (A : Nat → Prop) (h : Nat → Nat) (F : va_W) (N : Nat) {p : Program} {e : Env} {s : State} {m : MethodId} {args : Array Value} {below : List Frame} {meth : Method} {c : Code} (E : Ev p cX9_suggestRoot 4 (some .int) RX9 (Cond.code yX9_suggestRoot cX9_suggestRoot 4 (some .int) :: bw) D cA tS A s m args meth c) : ∀ (n : Nat) (x1 : Int32) (x2 : Int32) (σ : Sg) (wd : Int64) (r0 : Int32) (hM : f_X9_suggestRoot_13 N n x1 x2 σ wd = some r0) (H : Heap) (locs : List Loc) (hw : Wd D A (wM cA h σ wd ++ F) s.heap H locs) (ls : Array Slot) (hl : lv_has ls 4 [(0, .ref (h 0)), (1, .int x1), (2, .int x2)]), W p l e ({ frames := 2, cells := 0, slots := 0, locals := 43 } : Room) s m args below meth c H locs 0 0 (MQ below (QW D A (some (.int r0)) (wM cA h σ wd ++ F)) args s 0 0 A) (F0 m 13 ls []) := by
  have hx := E.1.1
  have hb := E.1.2.1
  intro n
  induction n with
  | zero =>
    intro x1 x2 σ wd r0 hM
    cases hM
  | succ n ih =>
    intro x1 x2 σ wd r0 hM H locs hw ls hl
    rw [f_X9_suggestRoot_13] at hM
    refine lv_iload_n hx hb dX9_suggestRoot_13 rfl (lv_at hl 2 rfl) ?_
    refine lv_iload_n hx hb dX9_suggestRoot_14 rfl (lv_at hl 1 rfl) ?_
    refine lv_icmp_ge (tgt := 95) hx hb dX9_suggestRoot_15 (by decide) (fun c1 => ?_) (fun c1 => ?_)
    · replace hM := i_pos hM c1
      refine lv_iconst (v := (-1)) hx hb dX9_suggestRoot_95 (by decide) ?_
      cases hM
      exact q_reti E hw dX9_suggestRoot_96
    · replace hM := i_neg hM c1
      refine lv_aload_n hx hb dX9_suggestRoot_18 rfl (lv_at hl 0 rfl) ?_
      refine lv_iload_n hx hb dX9_suggestRoot_19 rfl (lv_at hl 2 rfl) ?_
      refine lv_iconst (v := 0) hx hb dX9_suggestRoot_20 (by decide) ?_
      obtain ⟨p2, h3, hM⟩ := b_some hM
      refine q_cv (As := [.int x2, .int 0]) (rest := []) E hw hl (c_X9_ticket l D cA tS A h F x2 0 σ wd p2 h3) 2 (bwV bw_c tb_1253 tb_1255 tb_52 tb_112 tb_1256) rfl (by decide +kernel) ⟨Nat.le_of_ble_eq_true rfl, Nat.le_of_ble_eq_true rfl⟩ 0 9 (T := TX9) (N := 17) rfl rfl rfl rfl (Nat.le_of_ble_eq_true rfl) ⟨Nat.zero_le _, Nat.zero_le _⟩ dX9_suggestRoot_21 (fun H locs hw => ?_)
      refine lv_aload_n hx hb dX9_suggestRoot_24 rfl (lv_at hl 0 rfl) ?_
      refine lv_iload_n hx hb dX9_suggestRoot_25 rfl (lv_at hl 1 rfl) ?_
      refine lv_iconst (v := 0) hx hb dX9_suggestRoot_26 (by decide) ?_
      obtain ⟨p4, h5, hM⟩ := b_some hM
      refine q_cv (As := [.int x1, .int 0]) (rest := [.int p2]) E hw hl (c_X9_ticket l D cA tS A h F x1 0 σ wd p4 h5) 2 (bwV bw_c tb_1253 tb_1255 tb_52 tb_112 tb_1256) rfl (by decide +kernel) ⟨Nat.le_of_ble_eq_true rfl, Nat.le_of_ble_eq_true rfl⟩ 0 9 (T := TX9) (N := 17) rfl rfl rfl rfl (Nat.le_of_ble_eq_true rfl) ⟨Nat.zero_le _, Nat.zero_le _⟩ dX9_suggestRoot_27 (fun H locs hw => ?_)
      refine lv_icmp_ne (tgt := 52) hx hb dX9_suggestRoot_30 (by decide) (fun c6 => ?_) (fun c6 => ?_)
      · replace hM := i_neg hM c6
        exact s_X9_suggestRoot_52 l D cA tS A h F N (fun x1 x2 σ wd => f_X9_suggestRoot_13 N n x1 x2 σ wd) E ih _ _ _ _ _ hM _ _ hw _ (lv_sub hl [0, 1, 2] rfl)
      · replace hM := i_pos hM c6
        refine lv_aload_n hx hb dX9_suggestRoot_33 rfl (lv_at hl 0 rfl) ?_
        refine lv_iload_n hx hb dX9_suggestRoot_34 rfl (lv_at hl 2 rfl) ?_
        refine lv_iconst (v := 2) hx hb dX9_suggestRoot_35 (by decide) ?_
        obtain ⟨p7, h8, hM⟩ := b_some hM
        refine q_cv (As := [.int x2, .int 2]) (rest := []) E hw hl (c_X9_ticket l D cA tS A h F x2 2 σ wd p7 h8) 2 (bwV bw_c tb_1253 tb_1255 tb_52 tb_112 tb_1256) rfl (by decide +kernel) ⟨Nat.le_of_ble_eq_true rfl, Nat.le_of_ble_eq_true rfl⟩ 0 9 (T := TX9) (N := 17) rfl rfl rfl rfl (Nat.le_of_ble_eq_true rfl) ⟨Nat.zero_le _, Nat.zero_le _⟩ dX9_suggestRoot_36 (fun H locs hw => ?_)
        refine lv_aload_n hx hb dX9_suggestRoot_39 rfl (lv_at hl 0 rfl) ?_
        refine lv_iload_n hx hb dX9_suggestRoot_40 rfl (lv_at hl 1 rfl) ?_
        refine lv_iconst (v := 2) hx hb dX9_suggestRoot_41 (by decide) ?_
        obtain ⟨p9, h10, hM⟩ := b_some hM
        refine q_cv (As := [.int x1, .int 2]) (rest := [.int p7]) E hw hl (c_X9_ticket l D cA tS A h F x1 2 σ wd p9 h10) 2 (bwV bw_c tb_1253 tb_1255 tb_52 tb_112 tb_1256) rfl (by decide +kernel) ⟨Nat.le_of_ble_eq_true rfl, Nat.le_of_ble_eq_true rfl⟩ 0 9 (T := TX9) (N := 17) rfl rfl rfl rfl (Nat.le_of_ble_eq_true rfl) ⟨Nat.zero_le _, Nat.zero_le _⟩ dX9_suggestRoot_42 (fun H locs hw => ?_)
        refine lv_icmp_ne (tgt := 52) hx hb dX9_suggestRoot_45 (by decide) (fun c11 => ?_) (fun c11 => ?_)
        · replace hM := i_neg hM c11
          exact s_X9_suggestRoot_52 l D cA tS A h F N (fun x1 x2 σ wd => f_X9_suggestRoot_13 N n x1 x2 σ wd) E ih _ _ _ _ _ hM _ _ hw _ (lv_sub hl [0, 1, 2] rfl)
        · replace hM := i_pos hM c11
          refine lv_iconst (v := 1) hx hb dX9_suggestRoot_48 (by decide) ?_
          refine lv_goto (tgt := 53) hx hb dX9_suggestRoot_49 (by decide) ?_
          refine lv_istore_n (lv' := [(3, .int 1), (0, .ref (h 0)), (1, .int x1), (2, .int x2)]) hx hb dX9_suggestRoot_53 rfl hl (by decide) rfl (fun ls hl => ?_)
          refine lv_iload_n hx hb dX9_suggestRoot_54 rfl (lv_at hl 0 rfl) ?_
          refine lv_if_eq (tgt := 89) hx hb dX9_suggestRoot_55 (by decide) (fun c12 => ?_) (fun c12 => ?_)
          · first | exact absurd (by decide) c12 | exact absurd c12 (by decide)
          · refine lv_aload_n hx hb dX9_suggestRoot_58 rfl (lv_at hl 1 rfl) ?_
            refine lv_iload_n hx hb dX9_suggestRoot_59 rfl (lv_at hl 3 rfl) ?_
            obtain ⟨p13, h14, hM⟩ := b_some hM
            refine q_cv (As := [.int x2]) (rest := []) E hw hl (c_X9_isAlive l D cA tS A h F x2 σ wd p13 h14) 1 (bwV bw_c tb_1249 tb_1251 tb_51 tb_112 tb_1252) rfl (by decide +kernel) ⟨Nat.le_of_ble_eq_true rfl, Nat.le_of_ble_eq_true rfl⟩ 0 9 (T := TX9) (N := 17) rfl rfl rfl rfl (Nat.le_of_ble_eq_true rfl) ⟨Nat.zero_le _, Nat.zero_le _⟩ dX9_suggestRoot_60 (fun H locs hw => ?_)
            refine lv_if_eq (tgt := 89) hx hb dX9_suggestRoot_63 (by decide) (fun c15 => ?_) (fun c15 => ?_)
            · replace hM := i_pos hM c15
              refine lv_iinc (v := (x2 + 1)) (lv' := [(2, .int (x2 + 1)), (3, .int 1), (0, .ref (h 0)), (1, .int x1)]) hx hb dX9_suggestRoot_89 hl (k := 3) rfl rfl (by decide) rfl (fun ls hl => ?_)
              refine lv_goto (tgt := 13) hx hb dX9_suggestRoot_92 (by decide) ?_
              exact ih _ _ _ _ _ hM _ _ hw _ (lv_sub hl [2, 3, 0] rfl)
            · replace hM := i_neg hM c15
              refine lv_aload_n hx hb dX9_suggestRoot_66 rfl (lv_at hl 1 rfl) ?_
              refine lv_iload_n hx hb dX9_suggestRoot_67 rfl (lv_at hl 2 rfl) ?_
              refine lv_bipush (v := 11) hx hb dX9_suggestRoot_68 (by decide) ?_
              obtain ⟨p16, h17, hM⟩ := b_some hM
              refine q_cv (As := [.int x1, .int 11]) (rest := []) E hw hl (c_X9_ticket l D cA tS A h F x1 11 σ wd p16 h17) 2 (bwV bw_c tb_1253 tb_1255 tb_52 tb_112 tb_1256) rfl (by decide +kernel) ⟨Nat.le_of_ble_eq_true rfl, Nat.le_of_ble_eq_true rfl⟩ 0 9 (T := TX9) (N := 17) rfl rfl rfl rfl (Nat.le_of_ble_eq_true rfl) ⟨Nat.zero_le _, Nat.zero_le _⟩ dX9_suggestRoot_70 (fun H locs hw => ?_)
              refine lv_aload_n hx hb dX9_suggestRoot_73 rfl (lv_at hl 1 rfl) ?_
              refine lv_iload_n hx hb dX9_suggestRoot_74 rfl (lv_at hl 3 rfl) ?_
              refine lv_bipush (v := 11) hx hb dX9_suggestRoot_75 (by decide) ?_
              obtain ⟨p18, h19, hM⟩ := b_some hM
              refine q_cv (As := [.int x2, .int 11]) (rest := [.int p16]) E hw hl (c_X9_ticket l D cA tS A h F x2 11 σ wd p18 h19) 2 (bwV bw_c tb_1253 tb_1255 tb_52 tb_112 tb_1256) rfl (by decide +kernel) ⟨Nat.le_of_ble_eq_true rfl, Nat.le_of_ble_eq_true rfl⟩ 0 9 (T := TX9) (N := 17) rfl rfl rfl rfl (Nat.le_of_ble_eq_true rfl) ⟨Nat.zero_le _, Nat.zero_le _⟩ dX9_suggestRoot_77 (fun H locs hw => ?_)
              refine lv_isub hx hb dX9_suggestRoot_80 ?_
              refine lv_sipush (v := 240) hx hb dX9_suggestRoot_81 (by decide) ?_
              refine lv_icmp_gt (tgt := 89) hx hb dX9_suggestRoot_84 (by decide) (fun c20 => ?_) (fun c20 => ?_)
              · replace hM := i_pos hM c20
                refine lv_iinc (v := (x2 + 1)) (lv' := [(2, .int (x2 + 1)), (3, .int 1), (0, .ref (h 0)), (1, .int x1)]) hx hb dX9_suggestRoot_89 hl (k := 3) rfl rfl (by decide) rfl (fun ls hl => ?_)
                refine lv_goto (tgt := 13) hx hb dX9_suggestRoot_92 (by decide) ?_
                exact ih _ _ _ _ _ hM _ _ hw _ (lv_sub hl [2, 3, 0] rfl)
              · replace hM := i_neg hM c20
                refine lv_iload_n hx hb dX9_suggestRoot_87 rfl (lv_at hl 3 rfl) ?_
                cases hM
                exact q_reti E hw dX9_suggestRoot_88
def f_X9_suggestRoot (N : Nat)   (x1 : Int32) (σ : Sg) (wd : Int64) : Option (Int32) := (f_X9_isTicket x1 σ wd).bind (fun p1 => (if p1 = 0 then some (-2) else f_X9_suggestRoot_13 N N x1 0 σ wd))
set_option maxRecDepth 100000 in
set_option maxHeartbeats 4000000 in
theorem c_X9_suggestRoot (l : Launch) (D : va_G) (cA : Nat → ClassId) (tS : Nat → Nat) (A : Nat → Prop) (h : Nat → Nat) (F : va_W) (N : Nat) (x1 : Int32) (σ : Sg) (wd : Int64) (r0 : Int32) (hM : f_X9_suggestRoot N x1 σ wd = some r0) : Ct l yX9_suggestRoot (Cond.code yX9_suggestRoot cX9_suggestRoot 4 (some .int) :: bw) 2 43 D cA tS A [.ref (h 0), .int x1] (wM cA h σ wd ++ F) (some (.int r0)) (wM cA h σ wd ++ F) := by
  refine ct_of (by decide +kernel) (Nat.le_of_ble_eq_true rfl) ?_
  intro p e s m below meth c E hw ls hl
  replace E : Ev p cX9_suggestRoot 4 (some .int) RX9 (Cond.code yX9_suggestRoot cX9_suggestRoot 4 (some .int) :: bw) D cA tS A s m _ meth c := E
  replace hl : lv_has ls 4 [(0, .ref (h 0)), (1, .int x1)] := hl
  have hx := E.1.1
  have hb := E.1.2.1
  unfold f_X9_suggestRoot at hM
  refine lv_aload_n hx hb dX9_suggestRoot_0 rfl (lv_at hl 0 rfl) ?_
  refine lv_iload_n hx hb dX9_suggestRoot_1 rfl (lv_at hl 1 rfl) ?_
  obtain ⟨p1, h2, hM⟩ := b_some hM
  refine q_cv (As := [.int x1]) (rest := []) E hw hl (c_X9_isTicket l D cA tS A h F x1 σ wd p1 h2) 1 (bwV bw_c tb_1245 tb_1247 tb_50 tb_112 tb_1248) rfl (by decide +kernel) ⟨Nat.le_of_ble_eq_true rfl, Nat.le_of_ble_eq_true rfl⟩ 0 9 (T := TX9) (N := 17) rfl rfl rfl rfl (Nat.le_of_ble_eq_true rfl) ⟨Nat.zero_le _, Nat.zero_le _⟩ dX9_suggestRoot_2 (fun H locs hw => ?_)
  refine lv_if_ne (tgt := 11) hx hb dX9_suggestRoot_5 (by decide) (fun c3 => ?_) (fun c3 => ?_)
  · replace hM := i_neg hM c3
    refine lv_iconst (v := 0) hx hb dX9_suggestRoot_11 (by decide) ?_
    refine lv_istore_n (lv' := [(2, .int 0), (0, .ref (h 0)), (1, .int x1)]) hx hb dX9_suggestRoot_12 rfl hl (by decide) rfl (fun ls hl => ?_)
    exact s_X9_suggestRoot_13 l D cA tS A h F N E N _ _ _ _ _ hM _ _ hw _ (lv_sub hl [1, 2, 0] rfl)
  · replace hM := i_pos hM c3
    refine lv_bipush (v := (-2)) hx hb dX9_suggestRoot_8 (by decide) ?_
    cases hM
    exact q_reti E hw dX9_suggestRoot_10
def f_X9_customerTickets_19 (N : Nat)   : Nat → Int32 → Int64 → Int32 → Sg → Int64 → Option (Int64)
  | 0, _, _, _, _, _ => none
  | n + 1, x1, y2, x4, σ, wd => (if (σ 1 (ix 56)) ≤ x4 then some y2 else (f_X9_ticket x4 1 σ wd).bind (fun p2 => (if p2 = x1 then (f_X9_is x4 3 σ wd).bind (fun p5 => (if p5 = 0 then f_X9_customerTickets_19 N n x1 (y2 ||| (1 <<< ((x4 : Int32).toInt64 &&& 63))) (x4 + 1) σ wd else f_X9_customerTickets_19 N n x1 (y2 ||| 0) (x4 + 1) σ wd)) else f_X9_customerTickets_19 N n x1 (y2 ||| 0) (x4 + 1) σ wd)))
set_option maxRecDepth 100000 in
set_option maxHeartbeats 4000000 in
theorem s_X9_customerTickets_19 (l : Launch) (D : va_G) (cA : Nat → ClassId) (tS : Nat → Nat) (A : Nat → Prop) (h : Nat → Nat) (F : va_W) (N : Nat) {p : Program} {e : Env} {s : State} {m : MethodId} {args : Array Value} {below : List Frame} {meth : Method} {c : Code} (E : Ev p cX9_customerTickets 5 (some .long) RX9 (Cond.code yX9_customerTickets cX9_customerTickets 5 (some .long) :: bw) D cA tS A s m args meth c) : ∀ (n : Nat) (x1 : Int32) (y2 : Int64) (x4 : Int32) (σ : Sg) (wd : Int64) (r0 : Int64) (hM : f_X9_customerTickets_19 N n x1 y2 x4 σ wd = some r0) (H : Heap) (locs : List Loc) (hw : Wd D A (wM cA h σ wd ++ F) s.heap H locs) (ls : Array Slot) (hl : lv_has ls 5 [(0, .ref (h 0)), (1, .int x1), (2, .long y2), (4, .int x4)]), W p l e ({ frames := 2, cells := 0, slots := 0, locals := 44 } : Room) s m args below meth c H locs 0 0 (MQ below (QW D A (some (.long r0)) (wM cA h σ wd ++ F)) args s 0 0 A) (F0 m 19 ls []) := by
  have hx := E.1.1
  have hb := E.1.2.1
  intro n
  induction n with
  | zero =>
    intro x1 y2 x4 σ wd r0 hM
    cases hM
  | succ n ih =>
    intro x1 y2 x4 σ wd r0 hM H locs hw ls hl
    rw [f_X9_customerTickets_19] at hM
    refine lv_iload hx hb dX9_customerTickets_19 (lv_at hl 3 rfl) ?_
    refine lv_aload_n hx hb dX9_customerTickets_21 rfl (lv_at hl 0 rfl) ?_
    refine q_get (C := RX9) (T := TX9) (N := 17) (ci := 9) E (fun w h => List.mem_cons_of_mem _ (inX9 w h)) hw 0 rfl rfl 0 (by decide) (List.mem_cons_of_mem _ tb_1157) (v := .ref (h 1)) rfl dX9_customerTickets_22 ?_
    refine lv_bipush (v := 56) hx hb dX9_customerTickets_25 (by decide) ?_
    refine q_ald E hw 1 (n := 4619) rfl (by decide +kernel) (x := (σ 1 (ix 56))) rfl dX9_customerTickets_27 ?_
    refine lv_icmp_ge (tgt := 69) hx hb dX9_customerTickets_28 (by decide) (fun c1 => ?_) (fun c1 => ?_)
    · replace hM := i_pos hM c1
      refine lv_lload_n hx hb dX9_customerTickets_69 rfl (lv_at hl 2 rfl) ?_
      cases hM
      exact q_retl E hw dX9_customerTickets_70
    · replace hM := i_neg hM c1
      refine lv_lload_n hx hb dX9_customerTickets_31 rfl (lv_at hl 2 rfl) ?_
      refine lv_aload_n hx hb dX9_customerTickets_32 rfl (lv_at hl 0 rfl) ?_
      refine lv_iload hx hb dX9_customerTickets_33 (lv_at hl 3 rfl) ?_
      refine lv_iconst (v := 1) hx hb dX9_customerTickets_35 (by decide) ?_
      obtain ⟨p2, h3, hM⟩ := b_some hM
      refine q_cv (As := [.int x4, .int 1]) (rest := [.long y2]) E hw hl (c_X9_ticket l D cA tS A h F x4 1 σ wd p2 h3) 2 (bwV bw_c tb_1253 tb_1255 tb_52 tb_112 tb_1256) rfl (by decide +kernel) ⟨Nat.le_of_ble_eq_true rfl, Nat.le_of_ble_eq_true rfl⟩ 0 9 (T := TX9) (N := 17) rfl rfl rfl rfl (Nat.le_of_ble_eq_true rfl) ⟨Nat.zero_le _, Nat.zero_le _⟩ dX9_customerTickets_36 (fun H locs hw => ?_)
      refine lv_iload_n hx hb dX9_customerTickets_39 rfl (lv_at hl 1 rfl) ?_
      refine lv_icmp_ne (tgt := 60) hx hb dX9_customerTickets_40 (by decide) (fun c4 => ?_) (fun c4 => ?_)
      · replace hM := i_neg hM c4
        refine lv_lconst (v := 0) hx hb dX9_customerTickets_60 (by decide) ?_
        refine lv_lor hx hb dX9_customerTickets_61 ?_
        refine lv_lstore_n (lv' := [(2, .long (y2 ||| 0)), (0, .ref (h 0)), (1, .int x1), (4, .int x4)]) hx hb dX9_customerTickets_62 rfl hl (by decide) rfl (fun ls hl => ?_)
        refine lv_iinc (v := (x4 + 1)) (lv' := [(4, .int (x4 + 1)), (2, .long (y2 ||| 0)), (0, .ref (h 0)), (1, .int x1)]) hx hb dX9_customerTickets_63 hl (k := 3) rfl rfl (by decide) rfl (fun ls hl => ?_)
        refine lv_goto (tgt := 19) hx hb dX9_customerTickets_66 (by decide) ?_
        exact ih _ _ _ _ _ _ hM _ _ hw _ (lv_sub hl [2, 3, 1, 0] rfl)
      · replace hM := i_pos hM c4
        refine lv_aload_n hx hb dX9_customerTickets_43 rfl (lv_at hl 0 rfl) ?_
        refine lv_iload hx hb dX9_customerTickets_44 (lv_at hl 3 rfl) ?_
        refine lv_iconst (v := 3) hx hb dX9_customerTickets_46 (by decide) ?_
        obtain ⟨p5, h6, hM⟩ := b_some hM
        refine q_cv (As := [.int x4, .int 3]) (rest := [.long y2]) E hw hl (c_X9_is l D cA tS A h F x4 3 σ wd p5 h6) 2 (bwV bw_c tb_1261 tb_1263 tb_54 tb_112 tb_1264) rfl (by decide +kernel) ⟨Nat.le_of_ble_eq_true rfl, Nat.le_of_ble_eq_true rfl⟩ 0 9 (T := TX9) (N := 17) rfl rfl rfl rfl (Nat.le_of_ble_eq_true rfl) ⟨Nat.zero_le _, Nat.zero_le _⟩ dX9_customerTickets_47 (fun H locs hw => ?_)
        refine lv_if_ne (tgt := 60) hx hb dX9_customerTickets_50 (by decide) (fun c7 => ?_) (fun c7 => ?_)
        · replace hM := i_neg hM c7
          refine lv_lconst (v := 0) hx hb dX9_customerTickets_60 (by decide) ?_
          refine lv_lor hx hb dX9_customerTickets_61 ?_
          refine lv_lstore_n (lv' := [(2, .long (y2 ||| 0)), (0, .ref (h 0)), (1, .int x1), (4, .int x4)]) hx hb dX9_customerTickets_62 rfl hl (by decide) rfl (fun ls hl => ?_)
          refine lv_iinc (v := (x4 + 1)) (lv' := [(4, .int (x4 + 1)), (2, .long (y2 ||| 0)), (0, .ref (h 0)), (1, .int x1)]) hx hb dX9_customerTickets_63 hl (k := 3) rfl rfl (by decide) rfl (fun ls hl => ?_)
          refine lv_goto (tgt := 19) hx hb dX9_customerTickets_66 (by decide) ?_
          exact ih _ _ _ _ _ _ hM _ _ hw _ (lv_sub hl [2, 3, 1, 0] rfl)
        · replace hM := i_pos hM c7
          refine lv_lconst (v := 1) hx hb dX9_customerTickets_53 (by decide) ?_
          refine lv_iload hx hb dX9_customerTickets_54 (lv_at hl 3 rfl) ?_
          refine lv_lshl (v := (1 <<< ((x4 : Int32).toInt64 &&& 63))) hx hb dX9_customerTickets_56 rfl ?_
          refine lv_goto (tgt := 61) hx hb dX9_customerTickets_57 (by decide) ?_
          refine lv_lor hx hb dX9_customerTickets_61 ?_
          refine lv_lstore_n (lv' := [(2, .long (y2 ||| (1 <<< ((x4 : Int32).toInt64 &&& 63)))), (0, .ref (h 0)), (1, .int x1), (4, .int x4)]) hx hb dX9_customerTickets_62 rfl hl (by decide) rfl (fun ls hl => ?_)
          refine lv_iinc (v := (x4 + 1)) (lv' := [(4, .int (x4 + 1)), (2, .long (y2 ||| (1 <<< ((x4 : Int32).toInt64 &&& 63)))), (0, .ref (h 0)), (1, .int x1)]) hx hb dX9_customerTickets_63 hl (k := 3) rfl rfl (by decide) rfl (fun ls hl => ?_)
          refine lv_goto (tgt := 19) hx hb dX9_customerTickets_66 (by decide) ?_
          exact ih _ _ _ _ _ _ hM _ _ hw _ (lv_sub hl [2, 3, 1, 0] rfl)
def f_X9_customerTickets (N : Nat)   (x1 : Int32) (σ : Sg) (wd : Int64) : Option (Int64) := (f_X9_isBetween x1 0 99).bind (fun p1 => (if p1 = 0 then some (-4) else f_X9_customerTickets_19 N N x1 0 0 σ wd))
set_option maxRecDepth 100000 in
set_option maxHeartbeats 4000000 in
theorem c_X9_customerTickets (l : Launch) (D : va_G) (cA : Nat → ClassId) (tS : Nat → Nat) (A : Nat → Prop) (h : Nat → Nat) (F : va_W) (N : Nat) (x1 : Int32) (σ : Sg) (wd : Int64) (r0 : Int64) (hM : f_X9_customerTickets N x1 σ wd = some r0) : Ct l yX9_customerTickets (Cond.code yX9_customerTickets cX9_customerTickets 5 (some .long) :: bw) 2 44 D cA tS A [.ref (h 0), .int x1] (wM cA h σ wd ++ F) (some (.long r0)) (wM cA h σ wd ++ F) := by
  refine ct_of (by decide +kernel) (Nat.le_of_ble_eq_true rfl) ?_
  intro p e s m below meth c E hw ls hl
  replace E : Ev p cX9_customerTickets 5 (some .long) RX9 (Cond.code yX9_customerTickets cX9_customerTickets 5 (some .long) :: bw) D cA tS A s m _ meth c := E
  replace hl : lv_has ls 5 [(0, .ref (h 0)), (1, .int x1)] := hl
  have hx := E.1.1
  have hb := E.1.2.1
  unfold f_X9_customerTickets at hM
  refine lv_iload_n hx hb dX9_customerTickets_0 rfl (lv_at hl 1 rfl) ?_
  refine lv_iconst (v := 0) hx hb dX9_customerTickets_1 (by decide) ?_
  refine lv_bipush (v := 99) hx hb dX9_customerTickets_2 (by decide) ?_
  obtain ⟨p1, h2, hM⟩ := b_some hM
  refine q_cs (As := [.int x1, .int 0, .int 99]) (rest := []) E hw hl (c_X9_isBetween l D cA tS A (wM cA h σ wd ++ F) x1 0 99 p1 h2) 3 (bwS bw_c tb_1224 tb_1225 tb_112 tb_1226) rfl (by decide +kernel) ⟨Nat.le_of_ble_eq_true rfl, Nat.le_of_ble_eq_true rfl⟩ rfl rfl (Nat.le_of_ble_eq_true rfl) ⟨Nat.zero_le _, Nat.zero_le _⟩ dX9_customerTickets_4 (fun H locs hw => ?_)
  refine lv_if_ne (tgt := 14) hx hb dX9_customerTickets_7 (by decide) (fun c3 => ?_) (fun c3 => ?_)
  · replace hM := i_neg hM c3
    refine lv_lconst (v := 0) hx hb dX9_customerTickets_14 (by decide) ?_
    refine lv_lstore_n (lv' := [(2, .long 0), (0, .ref (h 0)), (1, .int x1)]) hx hb dX9_customerTickets_15 rfl hl (by decide) rfl (fun ls hl => ?_)
    refine lv_iconst (v := 0) hx hb dX9_customerTickets_16 (by decide) ?_
    refine lv_istore (lv' := [(4, .int 0), (2, .long 0), (0, .ref (h 0)), (1, .int x1)]) hx hb dX9_customerTickets_17 hl (by decide) rfl (fun ls hl => ?_)
    exact s_X9_customerTickets_19 l D cA tS A h F N E N _ _ _ _ _ _ hM _ _ hw _ (lv_sub hl [2, 3, 1, 0] rfl)
  · replace hM := i_pos hM c3
    refine lv_ldc2 (v := (-4)) hx hb E.1.2.2.2.1 (E.1.2.2.2.2 _ (List.mem_cons_of_mem _ tb_1532)) dX9_customerTickets_10 ?_
    cases hM
    exact q_retl E hw dX9_customerTickets_13
def f_X9_breachesOf_5 (N : Nat)   : Nat → Int32 → Int32 → Int32 → Int32 → Sg → Int64 → Option (Int32)
  | 0, _, _, _, _, _, _ => none
  | n + 1, x1, x2, x3, x4, σ, wd => (if (σ 1 (ix 56)) ≤ x4 then some x3 else (if x1 = (-1) then (f_X9_ticket x4 x2 σ wd).bind (fun p3 => f_X9_breachesOf_5 N n x1 x2 (x3 + p3) (x4 + 1) σ wd) else (f_X9_ticket x4 0 σ wd).bind (fun p5 => (if p5 = x1 then (f_X9_ticket x4 x2 σ wd).bind (fun p8 => f_X9_breachesOf_5 N n x1 x2 (x3 + p8) (x4 + 1) σ wd) else f_X9_breachesOf_5 N n x1 x2 (x3 + 0) (x4 + 1) σ wd))))
set_option maxRecDepth 100000 in
set_option maxHeartbeats 4000000 in
theorem s_X9_breachesOf_5 (l : Launch) (D : va_G) (cA : Nat → ClassId) (tS : Nat → Nat) (A : Nat → Prop) (h : Nat → Nat) (F : va_W) (N : Nat) {p : Program} {e : Env} {s : State} {m : MethodId} {args : Array Value} {below : List Frame} {meth : Method} {c : Code} (E : Ev p cX9_breachesOf 5 (some .int) RX9 (Cond.code yX9_breachesOf cX9_breachesOf 5 (some .int) :: bw) D cA tS A s m args meth c) : ∀ (n : Nat) (x1 : Int32) (x2 : Int32) (x3 : Int32) (x4 : Int32) (σ : Sg) (wd : Int64) (r0 : Int32) (hM : f_X9_breachesOf_5 N n x1 x2 x3 x4 σ wd = some r0) (H : Heap) (locs : List Loc) (hw : Wd D A (wM cA h σ wd ++ F) s.heap H locs) (ls : Array Slot) (hl : lv_has ls 5 [(0, .ref (h 0)), (1, .int x1), (2, .int x2), (3, .int x3), (4, .int x4)]), W p l e ({ frames := 1, cells := 0, slots := 0, locals := 22 } : Room) s m args below meth c H locs 0 0 (MQ below (QW D A (some (.int r0)) (wM cA h σ wd ++ F)) args s 0 0 A) (F0 m 5 ls []) := by
  have hx := E.1.1
  have hb := E.1.2.1
  intro n
  induction n with
  | zero =>
    intro x1 x2 x3 x4 σ wd r0 hM
    cases hM
  | succ n ih =>
    intro x1 x2 x3 x4 σ wd r0 hM H locs hw ls hl
    rw [f_X9_breachesOf_5] at hM
    refine lv_iload hx hb dX9_breachesOf_5 (lv_at hl 4 rfl) ?_
    refine lv_aload_n hx hb dX9_breachesOf_7 rfl (lv_at hl 0 rfl) ?_
    refine q_get (C := RX9) (T := TX9) (N := 17) (ci := 9) E (fun w h => List.mem_cons_of_mem _ (inX9 w h)) hw 0 rfl rfl 0 (by decide) (List.mem_cons_of_mem _ tb_1157) (v := .ref (h 1)) rfl dX9_breachesOf_8 ?_
    refine lv_bipush (v := 56) hx hb dX9_breachesOf_11 (by decide) ?_
    refine q_ald E hw 1 (n := 4619) rfl (by decide +kernel) (x := (σ 1 (ix 56))) rfl dX9_breachesOf_13 ?_
    refine lv_icmp_ge (tgt := 53) hx hb dX9_breachesOf_14 (by decide) (fun c1 => ?_) (fun c1 => ?_)
    · replace hM := i_pos hM c1
      refine lv_iload_n hx hb dX9_breachesOf_53 rfl (lv_at hl 3 rfl) ?_
      cases hM
      exact q_reti E hw dX9_breachesOf_54
    · replace hM := i_neg hM c1
      refine lv_iload_n hx hb dX9_breachesOf_17 rfl (lv_at hl 3 rfl) ?_
      refine lv_iload_n hx hb dX9_breachesOf_18 rfl (lv_at hl 1 rfl) ?_
      refine lv_iconst (v := (-1)) hx hb dX9_breachesOf_19 (by decide) ?_
      refine lv_icmp_eq (tgt := 34) hx hb dX9_breachesOf_20 (by decide) (fun c2 => ?_) (fun c2 => ?_)
      · replace hM := i_pos hM c2
        refine lv_aload_n hx hb dX9_breachesOf_34 rfl (lv_at hl 0 rfl) ?_
        refine lv_iload hx hb dX9_breachesOf_35 (lv_at hl 4 rfl) ?_
        refine lv_iload_n hx hb dX9_breachesOf_37 rfl (lv_at hl 2 rfl) ?_
        obtain ⟨p3, h4, hM⟩ := b_some hM
        refine q_cv (As := [.int x4, .int x2]) (rest := [.int x3]) E hw hl (c_X9_ticket l D cA tS A h F x4 x2 σ wd p3 h4) 2 (bwV bw_c tb_1253 tb_1255 tb_52 tb_112 tb_1256) rfl (by decide +kernel) ⟨Nat.le_of_ble_eq_true rfl, Nat.le_of_ble_eq_true rfl⟩ 0 9 (T := TX9) (N := 17) rfl rfl rfl rfl (Nat.le_of_ble_eq_true rfl) ⟨Nat.zero_le _, Nat.zero_le _⟩ dX9_breachesOf_38 (fun H locs hw => ?_)
        refine lv_goto (tgt := 45) hx hb dX9_breachesOf_41 (by decide) ?_
        refine lv_iadd hx hb dX9_breachesOf_45 ?_
        refine lv_istore_n (lv' := [(3, .int (x3 + p3)), (0, .ref (h 0)), (1, .int x1), (2, .int x2), (4, .int x4)]) hx hb dX9_breachesOf_46 rfl hl (by decide) rfl (fun ls hl => ?_)
        refine lv_iinc (v := (x4 + 1)) (lv' := [(4, .int (x4 + 1)), (3, .int (x3 + p3)), (0, .ref (h 0)), (1, .int x1), (2, .int x2)]) hx hb dX9_breachesOf_47 hl (k := 4) rfl rfl (by decide) rfl (fun ls hl => ?_)
        refine lv_goto (tgt := 5) hx hb dX9_breachesOf_50 (by decide) ?_
        exact ih _ _ _ _ _ _ _ hM _ _ hw _ (lv_sub hl [2, 3, 4, 1, 0] rfl)
      · replace hM := i_neg hM c2
        refine lv_aload_n hx hb dX9_breachesOf_23 rfl (lv_at hl 0 rfl) ?_
        refine lv_iload hx hb dX9_breachesOf_24 (lv_at hl 4 rfl) ?_
        refine lv_iconst (v := 0) hx hb dX9_breachesOf_26 (by decide) ?_
        obtain ⟨p5, h6, hM⟩ := b_some hM
        refine q_cv (As := [.int x4, .int 0]) (rest := [.int x3]) E hw hl (c_X9_ticket l D cA tS A h F x4 0 σ wd p5 h6) 2 (bwV bw_c tb_1253 tb_1255 tb_52 tb_112 tb_1256) rfl (by decide +kernel) ⟨Nat.le_of_ble_eq_true rfl, Nat.le_of_ble_eq_true rfl⟩ 0 9 (T := TX9) (N := 17) rfl rfl rfl rfl (Nat.le_of_ble_eq_true rfl) ⟨Nat.zero_le _, Nat.zero_le _⟩ dX9_breachesOf_27 (fun H locs hw => ?_)
        refine lv_iload_n hx hb dX9_breachesOf_30 rfl (lv_at hl 1 rfl) ?_
        refine lv_icmp_ne (tgt := 44) hx hb dX9_breachesOf_31 (by decide) (fun c7 => ?_) (fun c7 => ?_)
        · replace hM := i_neg hM c7
          refine lv_iconst (v := 0) hx hb dX9_breachesOf_44 (by decide) ?_
          refine lv_iadd hx hb dX9_breachesOf_45 ?_
          refine lv_istore_n (lv' := [(3, .int (x3 + 0)), (0, .ref (h 0)), (1, .int x1), (2, .int x2), (4, .int x4)]) hx hb dX9_breachesOf_46 rfl hl (by decide) rfl (fun ls hl => ?_)
          refine lv_iinc (v := (x4 + 1)) (lv' := [(4, .int (x4 + 1)), (3, .int (x3 + 0)), (0, .ref (h 0)), (1, .int x1), (2, .int x2)]) hx hb dX9_breachesOf_47 hl (k := 4) rfl rfl (by decide) rfl (fun ls hl => ?_)
          refine lv_goto (tgt := 5) hx hb dX9_breachesOf_50 (by decide) ?_
          exact ih _ _ _ _ _ _ _ hM _ _ hw _ (lv_sub hl [2, 3, 4, 1, 0] rfl)
        · replace hM := i_pos hM c7
          refine lv_aload_n hx hb dX9_breachesOf_34 rfl (lv_at hl 0 rfl) ?_
          refine lv_iload hx hb dX9_breachesOf_35 (lv_at hl 4 rfl) ?_
          refine lv_iload_n hx hb dX9_breachesOf_37 rfl (lv_at hl 2 rfl) ?_
          obtain ⟨p8, h9, hM⟩ := b_some hM
          refine q_cv (As := [.int x4, .int x2]) (rest := [.int x3]) E hw hl (c_X9_ticket l D cA tS A h F x4 x2 σ wd p8 h9) 2 (bwV bw_c tb_1253 tb_1255 tb_52 tb_112 tb_1256) rfl (by decide +kernel) ⟨Nat.le_of_ble_eq_true rfl, Nat.le_of_ble_eq_true rfl⟩ 0 9 (T := TX9) (N := 17) rfl rfl rfl rfl (Nat.le_of_ble_eq_true rfl) ⟨Nat.zero_le _, Nat.zero_le _⟩ dX9_breachesOf_38 (fun H locs hw => ?_)
          refine lv_goto (tgt := 45) hx hb dX9_breachesOf_41 (by decide) ?_
          refine lv_iadd hx hb dX9_breachesOf_45 ?_
          refine lv_istore_n (lv' := [(3, .int (x3 + p8)), (0, .ref (h 0)), (1, .int x1), (2, .int x2), (4, .int x4)]) hx hb dX9_breachesOf_46 rfl hl (by decide) rfl (fun ls hl => ?_)
          refine lv_iinc (v := (x4 + 1)) (lv' := [(4, .int (x4 + 1)), (3, .int (x3 + p8)), (0, .ref (h 0)), (1, .int x1), (2, .int x2)]) hx hb dX9_breachesOf_47 hl (k := 4) rfl rfl (by decide) rfl (fun ls hl => ?_)
          refine lv_goto (tgt := 5) hx hb dX9_breachesOf_50 (by decide) ?_
          exact ih _ _ _ _ _ _ _ hM _ _ hw _ (lv_sub hl [2, 3, 4, 1, 0] rfl)
def f_X9_breachesOf (N : Nat)   (x1 : Int32) (x2 : Int32) (σ : Sg) (wd : Int64) : Option (Int32) := f_X9_breachesOf_5 N N x1 x2 0 0 σ wd
set_option maxRecDepth 100000 in
set_option maxHeartbeats 4000000 in
theorem c_X9_breachesOf (l : Launch) (D : va_G) (cA : Nat → ClassId) (tS : Nat → Nat) (A : Nat → Prop) (h : Nat → Nat) (F : va_W) (N : Nat) (x1 : Int32) (x2 : Int32) (σ : Sg) (wd : Int64) (r0 : Int32) (hM : f_X9_breachesOf N x1 x2 σ wd = some r0) : Ct l yX9_breachesOf (Cond.code yX9_breachesOf cX9_breachesOf 5 (some .int) :: bw) 1 22 D cA tS A [.ref (h 0), .int x1, .int x2] (wM cA h σ wd ++ F) (some (.int r0)) (wM cA h σ wd ++ F) := by
  refine ct_of (by decide +kernel) (Nat.le_of_ble_eq_true rfl) ?_
  intro p e s m below meth c E hw ls hl
  replace E : Ev p cX9_breachesOf 5 (some .int) RX9 (Cond.code yX9_breachesOf cX9_breachesOf 5 (some .int) :: bw) D cA tS A s m _ meth c := E
  replace hl : lv_has ls 5 [(0, .ref (h 0)), (1, .int x1), (2, .int x2)] := hl
  have hx := E.1.1
  have hb := E.1.2.1
  unfold f_X9_breachesOf at hM
  refine lv_iconst (v := 0) hx hb dX9_breachesOf_0 (by decide) ?_
  refine lv_istore_n (lv' := [(3, .int 0), (0, .ref (h 0)), (1, .int x1), (2, .int x2)]) hx hb dX9_breachesOf_1 rfl hl (by decide) rfl (fun ls hl => ?_)
  refine lv_iconst (v := 0) hx hb dX9_breachesOf_2 (by decide) ?_
  refine lv_istore (lv' := [(4, .int 0), (3, .int 0), (0, .ref (h 0)), (1, .int x1), (2, .int x2)]) hx hb dX9_breachesOf_3 hl (by decide) rfl (fun ls hl => ?_)
  exact s_X9_breachesOf_5 l D cA tS A h F N E N _ _ _ _ _ _ _ hM _ _ hw _ (lv_sub hl [2, 3, 4, 1, 0] rfl)
def f_X9_responseBreaches (N : Nat)   (x1 : Int32) (σ : Sg) (wd : Int64) : Option (Int32) := (if x1 = (-1) then (f_X9_breachesOf N x1 14 σ wd).bind (fun p2 => some p2) else (f_X9_isKind x1 σ wd).bind (fun p4 => (if p4 = 0 then some (-3) else (f_X9_breachesOf N x1 14 σ wd).bind (fun p7 => some p7))))
set_option maxRecDepth 100000 in
set_option maxHeartbeats 4000000 in
theorem c_X9_responseBreaches (l : Launch) (D : va_G) (cA : Nat → ClassId) (tS : Nat → Nat) (A : Nat → Prop) (h : Nat → Nat) (F : va_W) (N : Nat) (x1 : Int32) (σ : Sg) (wd : Int64) (r0 : Int32) (hM : f_X9_responseBreaches N x1 σ wd = some r0) : Ct l yX9_responseBreaches (Cond.code yX9_responseBreaches cX9_responseBreaches 2 (some .int) :: bw) 2 46 D cA tS A [.ref (h 0), .int x1] (wM cA h σ wd ++ F) (some (.int r0)) (wM cA h σ wd ++ F) := by
  refine ct_of (by decide +kernel) (Nat.le_of_ble_eq_true rfl) ?_
  intro p e s m below meth c E hw ls hl
  replace E : Ev p cX9_responseBreaches 2 (some .int) RX9 (Cond.code yX9_responseBreaches cX9_responseBreaches 2 (some .int) :: bw) D cA tS A s m _ meth c := E
  replace hl : lv_has ls 2 [(0, .ref (h 0)), (1, .int x1)] := hl
  have hx := E.1.1
  have hb := E.1.2.1
  unfold f_X9_responseBreaches at hM
  refine lv_iload_n hx hb dX9_responseBreaches_0 rfl (lv_at hl 1 rfl) ?_
  refine lv_iconst (v := (-1)) hx hb dX9_responseBreaches_1 (by decide) ?_
  refine lv_icmp_eq (tgt := 13) hx hb dX9_responseBreaches_2 (by decide) (fun c1 => ?_) (fun c1 => ?_)
  · replace hM := i_pos hM c1
    refine lv_aload_n hx hb dX9_responseBreaches_13 rfl (lv_at hl 0 rfl) ?_
    refine lv_iload_n hx hb dX9_responseBreaches_14 rfl (lv_at hl 1 rfl) ?_
    refine lv_bipush (v := 14) hx hb dX9_responseBreaches_15 (by decide) ?_
    obtain ⟨p2, h3, hM⟩ := b_some hM
    refine q_cv (As := [.int x1, .int 14]) (rest := []) E hw hl (c_X9_breachesOf l D cA tS A h F N x1 14 σ wd p2 h3) 2 (bwV bw_c tb_1537 tb_1539 tb_84 tb_112 tb_1540) rfl (by decide +kernel) ⟨Nat.le_of_ble_eq_true rfl, Nat.le_of_ble_eq_true rfl⟩ 0 9 (T := TX9) (N := 17) rfl rfl rfl rfl (Nat.le_of_ble_eq_true rfl) ⟨Nat.zero_le _, Nat.zero_le _⟩ dX9_responseBreaches_17 (fun H locs hw => ?_)
    refine lv_goto (tgt := 25) hx hb dX9_responseBreaches_20 (by decide) ?_
    cases hM
    exact q_reti E hw dX9_responseBreaches_25
  · replace hM := i_neg hM c1
    refine lv_aload_n hx hb dX9_responseBreaches_5 rfl (lv_at hl 0 rfl) ?_
    refine lv_iload_n hx hb dX9_responseBreaches_6 rfl (lv_at hl 1 rfl) ?_
    obtain ⟨p4, h5, hM⟩ := b_some hM
    refine q_cv (As := [.int x1]) (rest := []) E hw hl (c_X9_isKind l D cA tS A h F x1 σ wd p4 h5) 1 (bwV bw_c tb_1237 tb_1239 tb_48 tb_112 tb_1240) rfl (by decide +kernel) ⟨Nat.le_of_ble_eq_true rfl, Nat.le_of_ble_eq_true rfl⟩ 0 9 (T := TX9) (N := 17) rfl rfl rfl rfl (Nat.le_of_ble_eq_true rfl) ⟨Nat.zero_le _, Nat.zero_le _⟩ dX9_responseBreaches_7 (fun H locs hw => ?_)
    refine lv_if_eq (tgt := 23) hx hb dX9_responseBreaches_10 (by decide) (fun c6 => ?_) (fun c6 => ?_)
    · replace hM := i_pos hM c6
      refine lv_bipush (v := (-3)) hx hb dX9_responseBreaches_23 (by decide) ?_
      cases hM
      exact q_reti E hw dX9_responseBreaches_25
    · replace hM := i_neg hM c6
      refine lv_aload_n hx hb dX9_responseBreaches_13 rfl (lv_at hl 0 rfl) ?_
      refine lv_iload_n hx hb dX9_responseBreaches_14 rfl (lv_at hl 1 rfl) ?_
      refine lv_bipush (v := 14) hx hb dX9_responseBreaches_15 (by decide) ?_
      obtain ⟨p7, h8, hM⟩ := b_some hM
      refine q_cv (As := [.int x1, .int 14]) (rest := []) E hw hl (c_X9_breachesOf l D cA tS A h F N x1 14 σ wd p7 h8) 2 (bwV bw_c tb_1537 tb_1539 tb_84 tb_112 tb_1540) rfl (by decide +kernel) ⟨Nat.le_of_ble_eq_true rfl, Nat.le_of_ble_eq_true rfl⟩ 0 9 (T := TX9) (N := 17) rfl rfl rfl rfl (Nat.le_of_ble_eq_true rfl) ⟨Nat.zero_le _, Nat.zero_le _⟩ dX9_responseBreaches_17 (fun H locs hw => ?_)
      refine lv_goto (tgt := 25) hx hb dX9_responseBreaches_20 (by decide) ?_
      cases hM
      exact q_reti E hw dX9_responseBreaches_25
def f_X9_resolveBreaches (N : Nat)   (x1 : Int32) (σ : Sg) (wd : Int64) : Option (Int32) := (if x1 = (-1) then (f_X9_breachesOf N x1 15 σ wd).bind (fun p2 => some p2) else (f_X9_isKind x1 σ wd).bind (fun p4 => (if p4 = 0 then some (-3) else (f_X9_breachesOf N x1 15 σ wd).bind (fun p7 => some p7))))
set_option maxRecDepth 100000 in
set_option maxHeartbeats 4000000 in
theorem c_X9_resolveBreaches (l : Launch) (D : va_G) (cA : Nat → ClassId) (tS : Nat → Nat) (A : Nat → Prop) (h : Nat → Nat) (F : va_W) (N : Nat) (x1 : Int32) (σ : Sg) (wd : Int64) (r0 : Int32) (hM : f_X9_resolveBreaches N x1 σ wd = some r0) : Ct l yX9_resolveBreaches (Cond.code yX9_resolveBreaches cX9_resolveBreaches 2 (some .int) :: bw) 2 46 D cA tS A [.ref (h 0), .int x1] (wM cA h σ wd ++ F) (some (.int r0)) (wM cA h σ wd ++ F) := by
  refine ct_of (by decide +kernel) (Nat.le_of_ble_eq_true rfl) ?_
  intro p e s m below meth c E hw ls hl
  replace E : Ev p cX9_resolveBreaches 2 (some .int) RX9 (Cond.code yX9_resolveBreaches cX9_resolveBreaches 2 (some .int) :: bw) D cA tS A s m _ meth c := E
  replace hl : lv_has ls 2 [(0, .ref (h 0)), (1, .int x1)] := hl
  have hx := E.1.1
  have hb := E.1.2.1
  unfold f_X9_resolveBreaches at hM
  refine lv_iload_n hx hb dX9_resolveBreaches_0 rfl (lv_at hl 1 rfl) ?_
  refine lv_iconst (v := (-1)) hx hb dX9_resolveBreaches_1 (by decide) ?_
  refine lv_icmp_eq (tgt := 13) hx hb dX9_resolveBreaches_2 (by decide) (fun c1 => ?_) (fun c1 => ?_)
  · replace hM := i_pos hM c1
    refine lv_aload_n hx hb dX9_resolveBreaches_13 rfl (lv_at hl 0 rfl) ?_
    refine lv_iload_n hx hb dX9_resolveBreaches_14 rfl (lv_at hl 1 rfl) ?_
    refine lv_bipush (v := 15) hx hb dX9_resolveBreaches_15 (by decide) ?_
    obtain ⟨p2, h3, hM⟩ := b_some hM
    refine q_cv (As := [.int x1, .int 15]) (rest := []) E hw hl (c_X9_breachesOf l D cA tS A h F N x1 15 σ wd p2 h3) 2 (bwV bw_c tb_1537 tb_1539 tb_84 tb_112 tb_1540) rfl (by decide +kernel) ⟨Nat.le_of_ble_eq_true rfl, Nat.le_of_ble_eq_true rfl⟩ 0 9 (T := TX9) (N := 17) rfl rfl rfl rfl (Nat.le_of_ble_eq_true rfl) ⟨Nat.zero_le _, Nat.zero_le _⟩ dX9_resolveBreaches_17 (fun H locs hw => ?_)
    refine lv_goto (tgt := 25) hx hb dX9_resolveBreaches_20 (by decide) ?_
    cases hM
    exact q_reti E hw dX9_resolveBreaches_25
  · replace hM := i_neg hM c1
    refine lv_aload_n hx hb dX9_resolveBreaches_5 rfl (lv_at hl 0 rfl) ?_
    refine lv_iload_n hx hb dX9_resolveBreaches_6 rfl (lv_at hl 1 rfl) ?_
    obtain ⟨p4, h5, hM⟩ := b_some hM
    refine q_cv (As := [.int x1]) (rest := []) E hw hl (c_X9_isKind l D cA tS A h F x1 σ wd p4 h5) 1 (bwV bw_c tb_1237 tb_1239 tb_48 tb_112 tb_1240) rfl (by decide +kernel) ⟨Nat.le_of_ble_eq_true rfl, Nat.le_of_ble_eq_true rfl⟩ 0 9 (T := TX9) (N := 17) rfl rfl rfl rfl (Nat.le_of_ble_eq_true rfl) ⟨Nat.zero_le _, Nat.zero_le _⟩ dX9_resolveBreaches_7 (fun H locs hw => ?_)
    refine lv_if_eq (tgt := 23) hx hb dX9_resolveBreaches_10 (by decide) (fun c6 => ?_) (fun c6 => ?_)
    · replace hM := i_pos hM c6
      refine lv_bipush (v := (-3)) hx hb dX9_resolveBreaches_23 (by decide) ?_
      cases hM
      exact q_reti E hw dX9_resolveBreaches_25
    · replace hM := i_neg hM c6
      refine lv_aload_n hx hb dX9_resolveBreaches_13 rfl (lv_at hl 0 rfl) ?_
      refine lv_iload_n hx hb dX9_resolveBreaches_14 rfl (lv_at hl 1 rfl) ?_
      refine lv_bipush (v := 15) hx hb dX9_resolveBreaches_15 (by decide) ?_
      obtain ⟨p7, h8, hM⟩ := b_some hM
      refine q_cv (As := [.int x1, .int 15]) (rest := []) E hw hl (c_X9_breachesOf l D cA tS A h F N x1 15 σ wd p7 h8) 2 (bwV bw_c tb_1537 tb_1539 tb_84 tb_112 tb_1540) rfl (by decide +kernel) ⟨Nat.le_of_ble_eq_true rfl, Nat.le_of_ble_eq_true rfl⟩ 0 9 (T := TX9) (N := 17) rfl rfl rfl rfl (Nat.le_of_ble_eq_true rfl) ⟨Nat.zero_le _, Nat.zero_le _⟩ dX9_resolveBreaches_17 (fun H locs hw => ?_)
      refine lv_goto (tgt := 25) hx hb dX9_resolveBreaches_20 (by decide) ?_
      cases hM
      exact q_reti E hw dX9_resolveBreaches_25
def f_X9_solvedUpTo_4 (N : Nat)   : Nat → Int32 → Int32 → Int32 → Sg → Int64 → Option (Int32)
  | 0, _, _, _, _, _ => none
  | n + 1, x1, x2, x3, σ, wd => (if (σ 1 (ix 56)) ≤ x3 then some x2 else (f_X9_is x3 3 σ wd).bind (fun p2 => (if p2 = 0 then f_X9_solvedUpTo_4 N n x1 (x2 + 0) (x3 + 1) σ wd else (f_X9_ticket x3 8 σ wd).bind (fun p5 => (if x1 < p5 then f_X9_solvedUpTo_4 N n x1 (x2 + 0) (x3 + 1) σ wd else f_X9_solvedUpTo_4 N n x1 (x2 + 1) (x3 + 1) σ wd)))))
set_option maxRecDepth 100000 in
set_option maxHeartbeats 4000000 in
theorem s_X9_solvedUpTo_4 (l : Launch) (D : va_G) (cA : Nat → ClassId) (tS : Nat → Nat) (A : Nat → Prop) (h : Nat → Nat) (F : va_W) (N : Nat) {p : Program} {e : Env} {s : State} {m : MethodId} {args : Array Value} {below : List Frame} {meth : Method} {c : Code} (E : Ev p cX9_solvedUpTo 4 (some .int) RX9 (Cond.code yX9_solvedUpTo cX9_solvedUpTo 4 (some .int) :: bw) D cA tS A s m args meth c) : ∀ (n : Nat) (x1 : Int32) (x2 : Int32) (x3 : Int32) (σ : Sg) (wd : Int64) (r0 : Int32) (hM : f_X9_solvedUpTo_4 N n x1 x2 x3 σ wd = some r0) (H : Heap) (locs : List Loc) (hw : Wd D A (wM cA h σ wd ++ F) s.heap H locs) (ls : Array Slot) (hl : lv_has ls 4 [(0, .ref (h 0)), (1, .int x1), (2, .int x2), (3, .int x3)]), W p l e ({ frames := 2, cells := 0, slots := 0, locals := 44 } : Room) s m args below meth c H locs 0 0 (MQ below (QW D A (some (.int r0)) (wM cA h σ wd ++ F)) args s 0 0 A) (F0 m 4 ls []) := by
  have hx := E.1.1
  have hb := E.1.2.1
  intro n
  induction n with
  | zero =>
    intro x1 x2 x3 σ wd r0 hM
    cases hM
  | succ n ih =>
    intro x1 x2 x3 σ wd r0 hM H locs hw ls hl
    rw [f_X9_solvedUpTo_4] at hM
    refine lv_iload_n hx hb dX9_solvedUpTo_4 rfl (lv_at hl 3 rfl) ?_
    refine lv_aload_n hx hb dX9_solvedUpTo_5 rfl (lv_at hl 0 rfl) ?_
    refine q_get (C := RX9) (T := TX9) (N := 17) (ci := 9) E (fun w h => List.mem_cons_of_mem _ (inX9 w h)) hw 0 rfl rfl 0 (by decide) (List.mem_cons_of_mem _ tb_1157) (v := .ref (h 1)) rfl dX9_solvedUpTo_6 ?_
    refine lv_bipush (v := 56) hx hb dX9_solvedUpTo_9 (by decide) ?_
    refine q_ald E hw 1 (n := 4619) rfl (by decide +kernel) (x := (σ 1 (ix 56))) rfl dX9_solvedUpTo_11 ?_
    refine lv_icmp_ge (tgt := 49) hx hb dX9_solvedUpTo_12 (by decide) (fun c1 => ?_) (fun c1 => ?_)
    · replace hM := i_pos hM c1
      refine lv_iload_n hx hb dX9_solvedUpTo_49 rfl (lv_at hl 2 rfl) ?_
      cases hM
      exact q_reti E hw dX9_solvedUpTo_50
    · replace hM := i_neg hM c1
      refine lv_iload_n hx hb dX9_solvedUpTo_15 rfl (lv_at hl 2 rfl) ?_
      refine lv_aload_n hx hb dX9_solvedUpTo_16 rfl (lv_at hl 0 rfl) ?_
      refine lv_iload_n hx hb dX9_solvedUpTo_17 rfl (lv_at hl 3 rfl) ?_
      refine lv_iconst (v := 3) hx hb dX9_solvedUpTo_18 (by decide) ?_
      obtain ⟨p2, h3, hM⟩ := b_some hM
      refine q_cv (As := [.int x3, .int 3]) (rest := [.int x2]) E hw hl (c_X9_is l D cA tS A h F x3 3 σ wd p2 h3) 2 (bwV bw_c tb_1261 tb_1263 tb_54 tb_112 tb_1264) rfl (by decide +kernel) ⟨Nat.le_of_ble_eq_true rfl, Nat.le_of_ble_eq_true rfl⟩ 0 9 (T := TX9) (N := 17) rfl rfl rfl rfl (Nat.le_of_ble_eq_true rfl) ⟨Nat.zero_le _, Nat.zero_le _⟩ dX9_solvedUpTo_19 (fun H locs hw => ?_)
      refine lv_if_eq (tgt := 40) hx hb dX9_solvedUpTo_22 (by decide) (fun c4 => ?_) (fun c4 => ?_)
      · replace hM := i_pos hM c4
        refine lv_iconst (v := 0) hx hb dX9_solvedUpTo_40 (by decide) ?_
        refine lv_iadd hx hb dX9_solvedUpTo_41 ?_
        refine lv_istore_n (lv' := [(2, .int (x2 + 0)), (0, .ref (h 0)), (1, .int x1), (3, .int x3)]) hx hb dX9_solvedUpTo_42 rfl hl (by decide) rfl (fun ls hl => ?_)
        refine lv_iinc (v := (x3 + 1)) (lv' := [(3, .int (x3 + 1)), (2, .int (x2 + 0)), (0, .ref (h 0)), (1, .int x1)]) hx hb dX9_solvedUpTo_43 hl (k := 3) rfl rfl (by decide) rfl (fun ls hl => ?_)
        refine lv_goto (tgt := 4) hx hb dX9_solvedUpTo_46 (by decide) ?_
        exact ih _ _ _ _ _ _ hM _ _ hw _ (lv_sub hl [2, 3, 1, 0] rfl)
      · replace hM := i_neg hM c4
        refine lv_aload_n hx hb dX9_solvedUpTo_25 rfl (lv_at hl 0 rfl) ?_
        refine lv_iload_n hx hb dX9_solvedUpTo_26 rfl (lv_at hl 3 rfl) ?_
        refine lv_bipush (v := 8) hx hb dX9_solvedUpTo_27 (by decide) ?_
        obtain ⟨p5, h6, hM⟩ := b_some hM
        refine q_cv (As := [.int x3, .int 8]) (rest := [.int x2]) E hw hl (c_X9_ticket l D cA tS A h F x3 8 σ wd p5 h6) 2 (bwV bw_c tb_1253 tb_1255 tb_52 tb_112 tb_1256) rfl (by decide +kernel) ⟨Nat.le_of_ble_eq_true rfl, Nat.le_of_ble_eq_true rfl⟩ 0 9 (T := TX9) (N := 17) rfl rfl rfl rfl (Nat.le_of_ble_eq_true rfl) ⟨Nat.zero_le _, Nat.zero_le _⟩ dX9_solvedUpTo_29 (fun H locs hw => ?_)
        refine lv_iload_n hx hb dX9_solvedUpTo_32 rfl (lv_at hl 1 rfl) ?_
        refine lv_icmp_gt (tgt := 40) hx hb dX9_solvedUpTo_33 (by decide) (fun c7 => ?_) (fun c7 => ?_)
        · replace hM := i_pos hM c7
          refine lv_iconst (v := 0) hx hb dX9_solvedUpTo_40 (by decide) ?_
          refine lv_iadd hx hb dX9_solvedUpTo_41 ?_
          refine lv_istore_n (lv' := [(2, .int (x2 + 0)), (0, .ref (h 0)), (1, .int x1), (3, .int x3)]) hx hb dX9_solvedUpTo_42 rfl hl (by decide) rfl (fun ls hl => ?_)
          refine lv_iinc (v := (x3 + 1)) (lv' := [(3, .int (x3 + 1)), (2, .int (x2 + 0)), (0, .ref (h 0)), (1, .int x1)]) hx hb dX9_solvedUpTo_43 hl (k := 3) rfl rfl (by decide) rfl (fun ls hl => ?_)
          refine lv_goto (tgt := 4) hx hb dX9_solvedUpTo_46 (by decide) ?_
          exact ih _ _ _ _ _ _ hM _ _ hw _ (lv_sub hl [2, 3, 1, 0] rfl)
        · replace hM := i_neg hM c7
          refine lv_iconst (v := 1) hx hb dX9_solvedUpTo_36 (by decide) ?_
          refine lv_goto (tgt := 41) hx hb dX9_solvedUpTo_37 (by decide) ?_
          refine lv_iadd hx hb dX9_solvedUpTo_41 ?_
          refine lv_istore_n (lv' := [(2, .int (x2 + 1)), (0, .ref (h 0)), (1, .int x1), (3, .int x3)]) hx hb dX9_solvedUpTo_42 rfl hl (by decide) rfl (fun ls hl => ?_)
          refine lv_iinc (v := (x3 + 1)) (lv' := [(3, .int (x3 + 1)), (2, .int (x2 + 1)), (0, .ref (h 0)), (1, .int x1)]) hx hb dX9_solvedUpTo_43 hl (k := 3) rfl rfl (by decide) rfl (fun ls hl => ?_)
          refine lv_goto (tgt := 4) hx hb dX9_solvedUpTo_46 (by decide) ?_
          exact ih _ _ _ _ _ _ hM _ _ hw _ (lv_sub hl [2, 3, 1, 0] rfl)
def f_X9_solvedUpTo (N : Nat)   (x1 : Int32) (σ : Sg) (wd : Int64) : Option (Int32) := f_X9_solvedUpTo_4 N N x1 0 0 σ wd
set_option maxRecDepth 100000 in
set_option maxHeartbeats 4000000 in
theorem c_X9_solvedUpTo (l : Launch) (D : va_G) (cA : Nat → ClassId) (tS : Nat → Nat) (A : Nat → Prop) (h : Nat → Nat) (F : va_W) (N : Nat) (x1 : Int32) (σ : Sg) (wd : Int64) (r0 : Int32) (hM : f_X9_solvedUpTo N x1 σ wd = some r0) : Ct l yX9_solvedUpTo (Cond.code yX9_solvedUpTo cX9_solvedUpTo 4 (some .int) :: bw) 2 44 D cA tS A [.ref (h 0), .int x1] (wM cA h σ wd ++ F) (some (.int r0)) (wM cA h σ wd ++ F) := by
  refine ct_of (by decide +kernel) (Nat.le_of_ble_eq_true rfl) ?_
  intro p e s m below meth c E hw ls hl
  replace E : Ev p cX9_solvedUpTo 4 (some .int) RX9 (Cond.code yX9_solvedUpTo cX9_solvedUpTo 4 (some .int) :: bw) D cA tS A s m _ meth c := E
  replace hl : lv_has ls 4 [(0, .ref (h 0)), (1, .int x1)] := hl
  have hx := E.1.1
  have hb := E.1.2.1
  unfold f_X9_solvedUpTo at hM
  refine lv_iconst (v := 0) hx hb dX9_solvedUpTo_0 (by decide) ?_
  refine lv_istore_n (lv' := [(2, .int 0), (0, .ref (h 0)), (1, .int x1)]) hx hb dX9_solvedUpTo_1 rfl hl (by decide) rfl (fun ls hl => ?_)
  refine lv_iconst (v := 0) hx hb dX9_solvedUpTo_2 (by decide) ?_
  refine lv_istore_n (lv' := [(3, .int 0), (2, .int 0), (0, .ref (h 0)), (1, .int x1)]) hx hb dX9_solvedUpTo_3 rfl hl (by decide) rfl (fun ls hl => ?_)
  exact s_X9_solvedUpTo_4 l D cA tS A h F N E N _ _ _ _ _ _ hM _ _ hw _ (lv_sub hl [2, 3, 1, 0] rfl)
def f_X9_resolvePercentile_67 (N : Nat)   : Nat → Int32 → Int32 → Int32 → Sg → Int64 → Option (Int32)
  | 0, _, _, _, _, _ => none
  | n + 1, x3, x4, x5, σ, wd => (if (σ 1 (ix 56)) ≤ x5 then some x4 else (f_X9_ticket x5 8 σ wd).bind (fun p2 => (f_X9_is x5 3 σ wd).bind (fun p4 => (if p4 = 0 then f_X9_resolvePercentile_67 N n x3 x4 (x5 + 1) σ wd else (f_X9_solvedUpTo N p2 σ wd).bind (fun p7 => (if p7 < x3 then f_X9_resolvePercentile_67 N n x3 x4 (x5 + 1) σ wd else (if x4 = (-1) then f_X9_resolvePercentile_67 N n x3 p2 (x5 + 1) σ wd else f_X9_resolvePercentile_67 N n x3 (if p2 < x4 then p2 else x4) (x5 + 1) σ wd)))))))
set_option maxRecDepth 100000 in
set_option maxHeartbeats 4000000 in
theorem s_X9_resolvePercentile_67 (l : Launch) (D : va_G) (cA : Nat → ClassId) (tS : Nat → Nat) (A : Nat → Prop) (h : Nat → Nat) (F : va_W) (N : Nat) {p : Program} {e : Env} {s : State} {m : MethodId} {args : Array Value} {below : List Frame} {meth : Method} {c : Code} (E : Ev p cX9_resolvePercentile 7 (some .int) RX9 (Cond.code yX9_resolvePercentile cX9_resolvePercentile 7 (some .int) :: bw) D cA tS A s m args meth c) : ∀ (n : Nat) (x3 : Int32) (x4 : Int32) (x5 : Int32) (σ : Sg) (wd : Int64) (r0 : Int32) (hM : f_X9_resolvePercentile_67 N n x3 x4 x5 σ wd = some r0) (H : Heap) (locs : List Loc) (hw : Wd D A (wM cA h σ wd ++ F) s.heap H locs) (ls : Array Slot) (hl : lv_has ls 7 [(0, .ref (h 0)), (3, .int x3), (4, .int x4), (5, .int x5)]), W p l e ({ frames := 3, cells := 0, slots := 0, locals := 67 } : Room) s m args below meth c H locs 0 0 (MQ below (QW D A (some (.int r0)) (wM cA h σ wd ++ F)) args s 0 0 A) (F0 m 67 ls []) := by
  have hx := E.1.1
  have hb := E.1.2.1
  intro n
  induction n with
  | zero =>
    intro x3 x4 x5 σ wd r0 hM
    cases hM
  | succ n ih =>
    intro x3 x4 x5 σ wd r0 hM H locs hw ls hl
    rw [f_X9_resolvePercentile_67] at hM
    refine lv_iload hx hb dX9_resolvePercentile_67 (lv_at hl 3 rfl) ?_
    refine lv_aload_n hx hb dX9_resolvePercentile_69 rfl (lv_at hl 0 rfl) ?_
    refine q_get (C := RX9) (T := TX9) (N := 17) (ci := 9) E (fun w h => List.mem_cons_of_mem _ (inX9 w h)) hw 0 rfl rfl 0 (by decide) (List.mem_cons_of_mem _ tb_1157) (v := .ref (h 1)) rfl dX9_resolvePercentile_70 ?_
    refine lv_bipush (v := 56) hx hb dX9_resolvePercentile_73 (by decide) ?_
    refine q_ald E hw 1 (n := 4619) rfl (by decide +kernel) (x := (σ 1 (ix 56))) rfl dX9_resolvePercentile_75 ?_
    refine lv_icmp_ge (tgt := 135) hx hb dX9_resolvePercentile_76 (by decide) (fun c1 => ?_) (fun c1 => ?_)
    · replace hM := i_pos hM c1
      refine lv_iload hx hb dX9_resolvePercentile_135 (lv_at hl 2 rfl) ?_
      cases hM
      exact q_reti E hw dX9_resolvePercentile_137
    · replace hM := i_neg hM c1
      refine lv_aload_n hx hb dX9_resolvePercentile_79 rfl (lv_at hl 0 rfl) ?_
      refine lv_iload hx hb dX9_resolvePercentile_80 (lv_at hl 3 rfl) ?_
      refine lv_bipush (v := 8) hx hb dX9_resolvePercentile_82 (by decide) ?_
      obtain ⟨p2, h3, hM⟩ := b_some hM
      refine q_cv (As := [.int x5, .int 8]) (rest := []) E hw hl (c_X9_ticket l D cA tS A h F x5 8 σ wd p2 h3) 2 (bwV bw_c tb_1253 tb_1255 tb_52 tb_112 tb_1256) rfl (by decide +kernel) ⟨Nat.le_of_ble_eq_true rfl, Nat.le_of_ble_eq_true rfl⟩ 0 9 (T := TX9) (N := 17) rfl rfl rfl rfl (Nat.le_of_ble_eq_true rfl) ⟨Nat.zero_le _, Nat.zero_le _⟩ dX9_resolvePercentile_84 (fun H locs hw => ?_)
      refine lv_istore (lv' := [(6, .int p2), (0, .ref (h 0)), (3, .int x3), (4, .int x4), (5, .int x5)]) hx hb dX9_resolvePercentile_87 hl (by decide) rfl (fun ls hl => ?_)
      refine lv_aload_n hx hb dX9_resolvePercentile_89 rfl (lv_at hl 1 rfl) ?_
      refine lv_iload hx hb dX9_resolvePercentile_90 (lv_at hl 4 rfl) ?_
      refine lv_iconst (v := 3) hx hb dX9_resolvePercentile_92 (by decide) ?_
      obtain ⟨p4, h5, hM⟩ := b_some hM
      refine q_cv (As := [.int x5, .int 3]) (rest := []) E hw hl (c_X9_is l D cA tS A h F x5 3 σ wd p4 h5) 2 (bwV bw_c tb_1261 tb_1263 tb_54 tb_112 tb_1264) rfl (by decide +kernel) ⟨Nat.le_of_ble_eq_true rfl, Nat.le_of_ble_eq_true rfl⟩ 0 9 (T := TX9) (N := 17) rfl rfl rfl rfl (Nat.le_of_ble_eq_true rfl) ⟨Nat.zero_le _, Nat.zero_le _⟩ dX9_resolvePercentile_93 (fun H locs hw => ?_)
      refine lv_if_eq (tgt := 129) hx hb dX9_resolvePercentile_96 (by decide) (fun c6 => ?_) (fun c6 => ?_)
      · replace hM := i_pos hM c6
        refine lv_iinc (v := (x5 + 1)) (lv' := [(5, .int (x5 + 1)), (6, .int p2), (0, .ref (h 0)), (3, .int x3), (4, .int x4)]) hx hb dX9_resolvePercentile_129 hl (k := 4) rfl rfl (by decide) rfl (fun ls hl => ?_)
        refine lv_goto (tgt := 67) hx hb dX9_resolvePercentile_132 (by decide) ?_
        exact ih _ _ _ _ _ _ hM _ _ hw _ (lv_sub hl [2, 3, 4, 0] rfl)
      · replace hM := i_neg hM c6
        refine lv_aload_n hx hb dX9_resolvePercentile_99 rfl (lv_at hl 1 rfl) ?_
        refine lv_iload hx hb dX9_resolvePercentile_100 (lv_at hl 0 rfl) ?_
        obtain ⟨p7, h8, hM⟩ := b_some hM
        refine q_cv (As := [.int p2]) (rest := []) E hw hl (c_X9_solvedUpTo l D cA tS A h F N p2 σ wd p7 h8) 1 (bwV bw_c tb_1549 tb_1551 tb_85 tb_112 tb_1552) rfl (by decide +kernel) ⟨Nat.le_of_ble_eq_true rfl, Nat.le_of_ble_eq_true rfl⟩ 0 9 (T := TX9) (N := 17) rfl rfl rfl rfl (Nat.le_of_ble_eq_true rfl) ⟨Nat.zero_le _, Nat.zero_le _⟩ dX9_resolvePercentile_102 (fun H locs hw => ?_)
        refine lv_iload_n hx hb dX9_resolvePercentile_105 rfl (lv_at hl 2 rfl) ?_
        refine lv_icmp_lt (tgt := 129) hx hb dX9_resolvePercentile_106 (by decide) (fun c9 => ?_) (fun c9 => ?_)
        · replace hM := i_pos hM c9
          refine lv_iinc (v := (x5 + 1)) (lv' := [(5, .int (x5 + 1)), (6, .int p2), (0, .ref (h 0)), (3, .int x3), (4, .int x4)]) hx hb dX9_resolvePercentile_129 hl (k := 4) rfl rfl (by decide) rfl (fun ls hl => ?_)
          refine lv_goto (tgt := 67) hx hb dX9_resolvePercentile_132 (by decide) ?_
          exact ih _ _ _ _ _ _ hM _ _ hw _ (lv_sub hl [2, 3, 4, 0] rfl)
        · replace hM := i_neg hM c9
          refine lv_iload hx hb dX9_resolvePercentile_109 (lv_at hl 3 rfl) ?_
          refine lv_iconst (v := (-1)) hx hb dX9_resolvePercentile_111 (by decide) ?_
          refine lv_icmp_ne (tgt := 120) hx hb dX9_resolvePercentile_112 (by decide) (fun c10 => ?_) (fun c10 => ?_)
          · replace hM := i_neg hM c10
            refine lv_iload hx hb dX9_resolvePercentile_120 (lv_at hl 3 rfl) ?_
            refine lv_iload hx hb dX9_resolvePercentile_122 (lv_at hl 0 rfl) ?_
            refine va_mmin hx hb (E.1.2.2.1.trans hl.1.symm) E.1.2.2.2.1 (E.1.2.2.2.2 _ (List.mem_cons_of_mem _ tb_1342)) (E.1.2.2.2.2 _ (List.mem_cons_of_mem _ tb_626)) (E.1.2.2.2.2 _ (List.mem_cons_of_mem _ tb_104)) (E.1.2.2.2.2 _ (List.mem_cons_of_mem _ tb_627)) (Nat.le_of_ble_eq_true rfl) (Nat.le_of_ble_eq_true rfl) (Nat.zero_le _) (Nat.zero_le _) dX9_resolvePercentile_124 ?_
            refine lv_istore (lv' := [(4, .int (if p2 < x4 then p2 else x4)), (6, .int p2), (0, .ref (h 0)), (3, .int x3), (5, .int x5)]) hx hb dX9_resolvePercentile_127 hl (by decide) rfl (fun ls hl => ?_)
            refine lv_iinc (v := (x5 + 1)) (lv' := [(5, .int (x5 + 1)), (4, .int (if p2 < x4 then p2 else x4)), (6, .int p2), (0, .ref (h 0)), (3, .int x3)]) hx hb dX9_resolvePercentile_129 hl (k := 4) rfl rfl (by decide) rfl (fun ls hl => ?_)
            refine lv_goto (tgt := 67) hx hb dX9_resolvePercentile_132 (by decide) ?_
            exact ih _ _ _ _ _ _ hM _ _ hw _ (lv_sub hl [3, 4, 1, 0] rfl)
          · replace hM := i_pos hM c10
            refine lv_iload hx hb dX9_resolvePercentile_115 (lv_at hl 0 rfl) ?_
            refine lv_goto (tgt := 127) hx hb dX9_resolvePercentile_117 (by decide) ?_
            refine lv_istore (lv' := [(4, .int p2), (6, .int p2), (0, .ref (h 0)), (3, .int x3), (5, .int x5)]) hx hb dX9_resolvePercentile_127 hl (by decide) rfl (fun ls hl => ?_)
            refine lv_iinc (v := (x5 + 1)) (lv' := [(5, .int (x5 + 1)), (4, .int p2), (6, .int p2), (0, .ref (h 0)), (3, .int x3)]) hx hb dX9_resolvePercentile_129 hl (k := 4) rfl rfl (by decide) rfl (fun ls hl => ?_)
            refine lv_goto (tgt := 67) hx hb dX9_resolvePercentile_132 (by decide) ?_
            exact ih _ _ _ _ _ _ hM _ _ hw _ (lv_sub hl [3, 4, 1, 0] rfl)
def f_X9_resolvePercentile_17 (N : Nat)   : Nat → Int32 → Int32 → Int32 → Sg → Int64 → Option (Int32)
  | 0, _, _, _, _, _ => none
  | n + 1, x1, x2, x3, σ, wd => (if (σ 1 (ix 56)) ≤ x3 then f_X9_resolvePercentile_67 N N (((x1 * x2) + 99) / 100) (-1) 0 σ wd else (f_X9_is x3 3 σ wd).bind (fun p2 => (if p2 = 0 then f_X9_resolvePercentile_17 N n x1 (x2 + 0) (x3 + 1) σ wd else f_X9_resolvePercentile_17 N n x1 (x2 + 1) (x3 + 1) σ wd)))
set_option maxRecDepth 100000 in
set_option maxHeartbeats 4000000 in
theorem s_X9_resolvePercentile_17 (l : Launch) (D : va_G) (cA : Nat → ClassId) (tS : Nat → Nat) (A : Nat → Prop) (h : Nat → Nat) (F : va_W) (N : Nat) {p : Program} {e : Env} {s : State} {m : MethodId} {args : Array Value} {below : List Frame} {meth : Method} {c : Code} (E : Ev p cX9_resolvePercentile 7 (some .int) RX9 (Cond.code yX9_resolvePercentile cX9_resolvePercentile 7 (some .int) :: bw) D cA tS A s m args meth c) : ∀ (n : Nat) (x1 : Int32) (x2 : Int32) (x3 : Int32) (σ : Sg) (wd : Int64) (r0 : Int32) (hM : f_X9_resolvePercentile_17 N n x1 x2 x3 σ wd = some r0) (H : Heap) (locs : List Loc) (hw : Wd D A (wM cA h σ wd ++ F) s.heap H locs) (ls : Array Slot) (hl : lv_has ls 7 [(0, .ref (h 0)), (1, .int x1), (2, .int x2), (3, .int x3)]), W p l e ({ frames := 3, cells := 0, slots := 0, locals := 67 } : Room) s m args below meth c H locs 0 0 (MQ below (QW D A (some (.int r0)) (wM cA h σ wd ++ F)) args s 0 0 A) (F0 m 17 ls []) := by
  have hx := E.1.1
  have hb := E.1.2.1
  intro n
  induction n with
  | zero =>
    intro x1 x2 x3 σ wd r0 hM
    cases hM
  | succ n ih =>
    intro x1 x2 x3 σ wd r0 hM H locs hw ls hl
    rw [f_X9_resolvePercentile_17] at hM
    refine lv_iload_n hx hb dX9_resolvePercentile_17 rfl (lv_at hl 3 rfl) ?_
    refine lv_aload_n hx hb dX9_resolvePercentile_18 rfl (lv_at hl 0 rfl) ?_
    refine q_get (C := RX9) (T := TX9) (N := 17) (ci := 9) E (fun w h => List.mem_cons_of_mem _ (inX9 w h)) hw 0 rfl rfl 0 (by decide) (List.mem_cons_of_mem _ tb_1157) (v := .ref (h 1)) rfl dX9_resolvePercentile_19 ?_
    refine lv_bipush (v := 56) hx hb dX9_resolvePercentile_22 (by decide) ?_
    refine q_ald E hw 1 (n := 4619) rfl (by decide +kernel) (x := (σ 1 (ix 56))) rfl dX9_resolvePercentile_24 ?_
    refine lv_icmp_ge (tgt := 51) hx hb dX9_resolvePercentile_25 (by decide) (fun c1 => ?_) (fun c1 => ?_)
    · replace hM := i_pos hM c1
      refine lv_iload_n hx hb dX9_resolvePercentile_51 rfl (lv_at hl 1 rfl) ?_
      refine lv_iload_n hx hb dX9_resolvePercentile_52 rfl (lv_at hl 2 rfl) ?_
      refine lv_imul hx hb dX9_resolvePercentile_53 ?_
      refine lv_bipush (v := 99) hx hb dX9_resolvePercentile_54 (by decide) ?_
      refine lv_iadd hx hb dX9_resolvePercentile_56 ?_
      refine lv_bipush (v := 100) hx hb dX9_resolvePercentile_57 (by decide) ?_
      refine lv_idiv hx hb dX9_resolvePercentile_59 (by decide) ?_
      refine lv_istore_n (lv' := [(3, .int (((x1 * x2) + 99) / 100)), (0, .ref (h 0)), (1, .int x1), (2, .int x2)]) hx hb dX9_resolvePercentile_60 rfl hl (by decide) rfl (fun ls hl => ?_)
      refine lv_iconst (v := (-1)) hx hb dX9_resolvePercentile_61 (by decide) ?_
      refine lv_istore (lv' := [(4, .int (-1)), (3, .int (((x1 * x2) + 99) / 100)), (0, .ref (h 0)), (1, .int x1), (2, .int x2)]) hx hb dX9_resolvePercentile_62 hl (by decide) rfl (fun ls hl => ?_)
      refine lv_iconst (v := 0) hx hb dX9_resolvePercentile_64 (by decide) ?_
      refine lv_istore (lv' := [(5, .int 0), (4, .int (-1)), (3, .int (((x1 * x2) + 99) / 100)), (0, .ref (h 0)), (1, .int x1), (2, .int x2)]) hx hb dX9_resolvePercentile_65 hl (by decide) rfl (fun ls hl => ?_)
      exact s_X9_resolvePercentile_67 l D cA tS A h F N E N _ _ _ _ _ _ hM _ _ hw _ (lv_sub hl [3, 2, 1, 0] rfl)
    · replace hM := i_neg hM c1
      refine lv_iload_n hx hb dX9_resolvePercentile_28 rfl (lv_at hl 2 rfl) ?_
      refine lv_aload_n hx hb dX9_resolvePercentile_29 rfl (lv_at hl 0 rfl) ?_
      refine lv_iload_n hx hb dX9_resolvePercentile_30 rfl (lv_at hl 3 rfl) ?_
      refine lv_iconst (v := 3) hx hb dX9_resolvePercentile_31 (by decide) ?_
      obtain ⟨p2, h3, hM⟩ := b_some hM
      refine q_cv (As := [.int x3, .int 3]) (rest := [.int x2]) E hw hl (c_X9_is l D cA tS A h F x3 3 σ wd p2 h3) 2 (bwV bw_c tb_1261 tb_1263 tb_54 tb_112 tb_1264) rfl (by decide +kernel) ⟨Nat.le_of_ble_eq_true rfl, Nat.le_of_ble_eq_true rfl⟩ 0 9 (T := TX9) (N := 17) rfl rfl rfl rfl (Nat.le_of_ble_eq_true rfl) ⟨Nat.zero_le _, Nat.zero_le _⟩ dX9_resolvePercentile_32 (fun H locs hw => ?_)
      refine lv_if_eq (tgt := 42) hx hb dX9_resolvePercentile_35 (by decide) (fun c4 => ?_) (fun c4 => ?_)
      · replace hM := i_pos hM c4
        refine lv_iconst (v := 0) hx hb dX9_resolvePercentile_42 (by decide) ?_
        refine lv_iadd hx hb dX9_resolvePercentile_43 ?_
        refine lv_istore_n (lv' := [(2, .int (x2 + 0)), (0, .ref (h 0)), (1, .int x1), (3, .int x3)]) hx hb dX9_resolvePercentile_44 rfl hl (by decide) rfl (fun ls hl => ?_)
        refine lv_iinc (v := (x3 + 1)) (lv' := [(3, .int (x3 + 1)), (2, .int (x2 + 0)), (0, .ref (h 0)), (1, .int x1)]) hx hb dX9_resolvePercentile_45 hl (k := 3) rfl rfl (by decide) rfl (fun ls hl => ?_)
        refine lv_goto (tgt := 17) hx hb dX9_resolvePercentile_48 (by decide) ?_
        exact ih _ _ _ _ _ _ hM _ _ hw _ (lv_sub hl [2, 3, 1, 0] rfl)
      · replace hM := i_neg hM c4
        refine lv_iconst (v := 1) hx hb dX9_resolvePercentile_38 (by decide) ?_
        refine lv_goto (tgt := 43) hx hb dX9_resolvePercentile_39 (by decide) ?_
        refine lv_iadd hx hb dX9_resolvePercentile_43 ?_
        refine lv_istore_n (lv' := [(2, .int (x2 + 1)), (0, .ref (h 0)), (1, .int x1), (3, .int x3)]) hx hb dX9_resolvePercentile_44 rfl hl (by decide) rfl (fun ls hl => ?_)
        refine lv_iinc (v := (x3 + 1)) (lv' := [(3, .int (x3 + 1)), (2, .int (x2 + 1)), (0, .ref (h 0)), (1, .int x1)]) hx hb dX9_resolvePercentile_45 hl (k := 3) rfl rfl (by decide) rfl (fun ls hl => ?_)
        refine lv_goto (tgt := 17) hx hb dX9_resolvePercentile_48 (by decide) ?_
        exact ih _ _ _ _ _ _ hM _ _ hw _ (lv_sub hl [2, 3, 1, 0] rfl)
def f_X9_resolvePercentile (N : Nat)   (x1 : Int32) (σ : Sg) (wd : Int64) : Option (Int32) := (f_X9_isBetween x1 1 100).bind (fun p1 => (if p1 = 0 then some (-4) else f_X9_resolvePercentile_17 N N x1 0 0 σ wd))
set_option maxRecDepth 100000 in
set_option maxHeartbeats 4000000 in
theorem c_X9_resolvePercentile (l : Launch) (D : va_G) (cA : Nat → ClassId) (tS : Nat → Nat) (A : Nat → Prop) (h : Nat → Nat) (F : va_W) (N : Nat) (x1 : Int32) (σ : Sg) (wd : Int64) (r0 : Int32) (hM : f_X9_resolvePercentile N x1 σ wd = some r0) : Ct l yX9_resolvePercentile (Cond.code yX9_resolvePercentile cX9_resolvePercentile 7 (some .int) :: bw) 3 67 D cA tS A [.ref (h 0), .int x1] (wM cA h σ wd ++ F) (some (.int r0)) (wM cA h σ wd ++ F) := by
  refine ct_of (by decide +kernel) (Nat.le_of_ble_eq_true rfl) ?_
  intro p e s m below meth c E hw ls hl
  replace E : Ev p cX9_resolvePercentile 7 (some .int) RX9 (Cond.code yX9_resolvePercentile cX9_resolvePercentile 7 (some .int) :: bw) D cA tS A s m _ meth c := E
  replace hl : lv_has ls 7 [(0, .ref (h 0)), (1, .int x1)] := hl
  have hx := E.1.1
  have hb := E.1.2.1
  unfold f_X9_resolvePercentile at hM
  refine lv_iload_n hx hb dX9_resolvePercentile_0 rfl (lv_at hl 1 rfl) ?_
  refine lv_iconst (v := 1) hx hb dX9_resolvePercentile_1 (by decide) ?_
  refine lv_bipush (v := 100) hx hb dX9_resolvePercentile_2 (by decide) ?_
  obtain ⟨p1, h2, hM⟩ := b_some hM
  refine q_cs (As := [.int x1, .int 1, .int 100]) (rest := []) E hw hl (c_X9_isBetween l D cA tS A (wM cA h σ wd ++ F) x1 1 100 p1 h2) 3 (bwS bw_c tb_1224 tb_1225 tb_112 tb_1226) rfl (by decide +kernel) ⟨Nat.le_of_ble_eq_true rfl, Nat.le_of_ble_eq_true rfl⟩ rfl rfl (Nat.le_of_ble_eq_true rfl) ⟨Nat.zero_le _, Nat.zero_le _⟩ dX9_resolvePercentile_4 (fun H locs hw => ?_)
  refine lv_if_ne (tgt := 13) hx hb dX9_resolvePercentile_7 (by decide) (fun c3 => ?_) (fun c3 => ?_)
  · replace hM := i_neg hM c3
    refine lv_iconst (v := 0) hx hb dX9_resolvePercentile_13 (by decide) ?_
    refine lv_istore_n (lv' := [(2, .int 0), (0, .ref (h 0)), (1, .int x1)]) hx hb dX9_resolvePercentile_14 rfl hl (by decide) rfl (fun ls hl => ?_)
    refine lv_iconst (v := 0) hx hb dX9_resolvePercentile_15 (by decide) ?_
    refine lv_istore_n (lv' := [(3, .int 0), (2, .int 0), (0, .ref (h 0)), (1, .int x1)]) hx hb dX9_resolvePercentile_16 rfl hl (by decide) rfl (fun ls hl => ?_)
    exact s_X9_resolvePercentile_17 l D cA tS A h F N E N _ _ _ _ _ _ hM _ _ hw _ (lv_sub hl [2, 3, 1, 0] rfl)
  · replace hM := i_pos hM c3
    refine lv_bipush (v := (-4)) hx hb dX9_resolvePercentile_10 (by decide) ?_
    cases hM
    exact q_reti E hw dX9_resolvePercentile_12
def f_X9_copyState_state_backup_3 (N : Nat)   : Nat → Int32 → Int32 → Int32 → Sg → Int64 → Option (Sg)
  | 0, _, _, _, _, _ => none
  | n + 1, x2, x4, x5, σ, wd => (if 4619 ≤ x5 then some σ else if ib (x2 + x5) 4619 then if ib (x4 + x5) 4619 then f_X9_copyState_state_backup_3 N n x2 x4 (x5 + 1) (up σ 2 (ix (x4 + x5)) (σ 1 (ix (x2 + x5)))) wd else none else none)
set_option maxRecDepth 100000 in
set_option maxHeartbeats 4000000 in
theorem s_X9_copyState_state_backup_3 (l : Launch) (D : va_G) (cA : Nat → ClassId) (tS : Nat → Nat) (A : Nat → Prop) (h : Nat → Nat) (F : va_W) (N : Nat) {p : Program} {e : Env} {s : State} {m : MethodId} {args : Array Value} {below : List Frame} {meth : Method} {c : Code} (E : Ev p cX9_copyState 6 none RX9 (Cond.code yX9_copyState cX9_copyState 6 none :: bw) D cA tS A s m args meth c) : ∀ (n : Nat) (x2 : Int32) (x4 : Int32) (x5 : Int32) (σ : Sg) (wd : Int64) (s0 : Sg) (hM : f_X9_copyState_state_backup_3 N n x2 x4 x5 σ wd = some s0) (H : Heap) (locs : List Loc) (hw : Wd D A (wM cA h σ wd ++ F) s.heap H locs) (ls : Array Slot) (hl : lv_has ls 6 [(1, .ref (h 1)), (2, .int x2), (3, .ref (h 2)), (4, .int x4), (5, .int x5)]), W p l e ({ frames := 0, cells := 0, slots := 0, locals := 0 } : Room) s m args below meth c H locs 0 0 (MQ below (QW D A none (wM cA h s0 wd ++ F)) args s 0 0 A) (F0 m 3 ls []) := by
  have hx := E.1.1
  have hb := E.1.2.1
  intro n
  induction n with
  | zero =>
    intro x2 x4 x5 σ wd s0 hM
    cases hM
  | succ n ih =>
    intro x2 x4 x5 σ wd s0 hM H locs hw ls hl
    rw [f_X9_copyState_state_backup_3] at hM
    refine lv_iload hx hb dX9_copyState_3 (lv_at hl 4 rfl) ?_
    refine lv_sipush (v := 4619) hx hb dX9_copyState_5 (by decide) ?_
    refine lv_icmp_ge (tgt := 30) hx hb dX9_copyState_8 (by decide) (fun c1 => ?_) (fun c1 => ?_)
    · replace hM := i_pos hM c1
      cases hM
      exact q_retv E hw dX9_copyState_30
    · replace hM := i_neg hM c1
      refine lv_aload_n hx hb dX9_copyState_11 rfl (lv_at hl 2 rfl) ?_
      refine lv_iload hx hb dX9_copyState_12 (lv_at hl 3 rfl) ?_
      refine lv_iload hx hb dX9_copyState_14 (lv_at hl 4 rfl) ?_
      refine lv_iadd hx hb dX9_copyState_16 ?_
      refine lv_aload_n hx hb dX9_copyState_17 rfl (lv_at hl 0 rfl) ?_
      refine lv_iload_n hx hb dX9_copyState_18 rfl (lv_at hl 1 rfl) ?_
      refine lv_iload hx hb dX9_copyState_19 (lv_at hl 4 rfl) ?_
      refine lv_iadd hx hb dX9_copyState_21 ?_
      obtain ⟨g2, hM⟩ := g_some hM
      refine q_ald E hw 1 (n := 4619) rfl g2 (x := (σ 1 (ix (x2 + x5)))) rfl dX9_copyState_22 ?_
      obtain ⟨g3, hM⟩ := g_some hM
      refine q_ast E hw 2 (n := 4619) rfl g3 (wM cA h (up σ 2 (ix (x4 + x5)) (σ 1 (ix (x2 + x5)))) wd ++ F) st_M_2 dX9_copyState_23 (fun H locs hw => ?_)
      refine lv_iinc (v := (x5 + 1)) (lv' := [(5, .int (x5 + 1)), (1, .ref (h 1)), (2, .int x2), (3, .ref (h 2)), (4, .int x4)]) hx hb dX9_copyState_24 hl (k := 4) rfl rfl (by decide) rfl (fun ls hl => ?_)
      refine lv_goto (tgt := 3) hx hb dX9_copyState_27 (by decide) ?_
      exact ih _ _ _ _ _ _ hM _ _ hw _ (lv_sub hl [1, 2, 3, 4, 0] rfl)
def f_X9_copyState_state_backup (N : Nat)   (x2 : Int32) (x4 : Int32) (σ : Sg) (wd : Int64) : Option (Sg) := f_X9_copyState_state_backup_3 N N x2 x4 0 σ wd
set_option maxRecDepth 100000 in
set_option maxHeartbeats 4000000 in
theorem c_X9_copyState_state_backup (l : Launch) (D : va_G) (cA : Nat → ClassId) (tS : Nat → Nat) (A : Nat → Prop) (h : Nat → Nat) (F : va_W) (N : Nat) (x2 : Int32) (x4 : Int32) (σ : Sg) (wd : Int64) (s0 : Sg) (hM : f_X9_copyState_state_backup N x2 x4 σ wd = some s0) : Ct l yX9_copyState (Cond.code yX9_copyState cX9_copyState 6 none :: bw) 0 0 D cA tS A [.ref (h 0), .ref (h 1), .int x2, .ref (h 2), .int x4] (wM cA h σ wd ++ F) none (wM cA h s0 wd ++ F) := by
  refine ct_of (by decide +kernel) (Nat.le_of_ble_eq_true rfl) ?_
  intro p e s m below meth c E hw ls hl
  replace E : Ev p cX9_copyState 6 none RX9 (Cond.code yX9_copyState cX9_copyState 6 none :: bw) D cA tS A s m _ meth c := E
  replace hl : lv_has ls 6 [(0, .ref (h 0)), (1, .ref (h 1)), (2, .int x2), (3, .ref (h 2)), (4, .int x4)] := hl
  have hx := E.1.1
  have hb := E.1.2.1
  unfold f_X9_copyState_state_backup at hM
  refine lv_iconst (v := 0) hx hb dX9_copyState_0 (by decide) ?_
  refine lv_istore (lv' := [(5, .int 0), (0, .ref (h 0)), (1, .ref (h 1)), (2, .int x2), (3, .ref (h 2)), (4, .int x4)]) hx hb dX9_copyState_1 hl (by decide) rfl (fun ls hl => ?_)
  exact s_X9_copyState_state_backup_3 l D cA tS A h F N E N _ _ _ _ _ _ hM _ _ hw _ (lv_sub hl [2, 3, 4, 5, 0] rfl)
def f_X9_copyState_backup_state_3 (N : Nat)   : Nat → Int32 → Int32 → Int32 → Sg → Int64 → Option (Sg)
  | 0, _, _, _, _, _ => none
  | n + 1, x2, x4, x5, σ, wd => (if 4619 ≤ x5 then some σ else if ib (x2 + x5) 4619 then if ib (x4 + x5) 4619 then f_X9_copyState_backup_state_3 N n x2 x4 (x5 + 1) (up σ 1 (ix (x4 + x5)) (σ 2 (ix (x2 + x5)))) wd else none else none)
set_option maxRecDepth 100000 in
set_option maxHeartbeats 4000000 in
theorem s_X9_copyState_backup_state_3 (l : Launch) (D : va_G) (cA : Nat → ClassId) (tS : Nat → Nat) (A : Nat → Prop) (h : Nat → Nat) (F : va_W) (N : Nat) {p : Program} {e : Env} {s : State} {m : MethodId} {args : Array Value} {below : List Frame} {meth : Method} {c : Code} (E : Ev p cX9_copyState 6 none RX9 (Cond.code yX9_copyState cX9_copyState 6 none :: bw) D cA tS A s m args meth c) : ∀ (n : Nat) (x2 : Int32) (x4 : Int32) (x5 : Int32) (σ : Sg) (wd : Int64) (s0 : Sg) (hM : f_X9_copyState_backup_state_3 N n x2 x4 x5 σ wd = some s0) (H : Heap) (locs : List Loc) (hw : Wd D A (wM cA h σ wd ++ F) s.heap H locs) (ls : Array Slot) (hl : lv_has ls 6 [(1, .ref (h 2)), (2, .int x2), (3, .ref (h 1)), (4, .int x4), (5, .int x5)]), W p l e ({ frames := 0, cells := 0, slots := 0, locals := 0 } : Room) s m args below meth c H locs 0 0 (MQ below (QW D A none (wM cA h s0 wd ++ F)) args s 0 0 A) (F0 m 3 ls []) := by
  have hx := E.1.1
  have hb := E.1.2.1
  intro n
  induction n with
  | zero =>
    intro x2 x4 x5 σ wd s0 hM
    cases hM
  | succ n ih =>
    intro x2 x4 x5 σ wd s0 hM H locs hw ls hl
    rw [f_X9_copyState_backup_state_3] at hM
    refine lv_iload hx hb dX9_copyState_3 (lv_at hl 4 rfl) ?_
    refine lv_sipush (v := 4619) hx hb dX9_copyState_5 (by decide) ?_
    refine lv_icmp_ge (tgt := 30) hx hb dX9_copyState_8 (by decide) (fun c1 => ?_) (fun c1 => ?_)
    · replace hM := i_pos hM c1
      cases hM
      exact q_retv E hw dX9_copyState_30
    · replace hM := i_neg hM c1
      refine lv_aload_n hx hb dX9_copyState_11 rfl (lv_at hl 2 rfl) ?_
      refine lv_iload hx hb dX9_copyState_12 (lv_at hl 3 rfl) ?_
      refine lv_iload hx hb dX9_copyState_14 (lv_at hl 4 rfl) ?_
      refine lv_iadd hx hb dX9_copyState_16 ?_
      refine lv_aload_n hx hb dX9_copyState_17 rfl (lv_at hl 0 rfl) ?_
      refine lv_iload_n hx hb dX9_copyState_18 rfl (lv_at hl 1 rfl) ?_
      refine lv_iload hx hb dX9_copyState_19 (lv_at hl 4 rfl) ?_
      refine lv_iadd hx hb dX9_copyState_21 ?_
      obtain ⟨g2, hM⟩ := g_some hM
      refine q_ald E hw 2 (n := 4619) rfl g2 (x := (σ 2 (ix (x2 + x5)))) rfl dX9_copyState_22 ?_
      obtain ⟨g3, hM⟩ := g_some hM
      refine q_ast E hw 1 (n := 4619) rfl g3 (wM cA h (up σ 1 (ix (x4 + x5)) (σ 2 (ix (x2 + x5)))) wd ++ F) st_M_1 dX9_copyState_23 (fun H locs hw => ?_)
      refine lv_iinc (v := (x5 + 1)) (lv' := [(5, .int (x5 + 1)), (1, .ref (h 2)), (2, .int x2), (3, .ref (h 1)), (4, .int x4)]) hx hb dX9_copyState_24 hl (k := 4) rfl rfl (by decide) rfl (fun ls hl => ?_)
      refine lv_goto (tgt := 3) hx hb dX9_copyState_27 (by decide) ?_
      exact ih _ _ _ _ _ _ hM _ _ hw _ (lv_sub hl [1, 2, 3, 4, 0] rfl)
def f_X9_copyState_backup_state (N : Nat)   (x2 : Int32) (x4 : Int32) (σ : Sg) (wd : Int64) : Option (Sg) := f_X9_copyState_backup_state_3 N N x2 x4 0 σ wd
set_option maxRecDepth 100000 in
set_option maxHeartbeats 4000000 in
theorem c_X9_copyState_backup_state (l : Launch) (D : va_G) (cA : Nat → ClassId) (tS : Nat → Nat) (A : Nat → Prop) (h : Nat → Nat) (F : va_W) (N : Nat) (x2 : Int32) (x4 : Int32) (σ : Sg) (wd : Int64) (s0 : Sg) (hM : f_X9_copyState_backup_state N x2 x4 σ wd = some s0) : Ct l yX9_copyState (Cond.code yX9_copyState cX9_copyState 6 none :: bw) 0 0 D cA tS A [.ref (h 0), .ref (h 2), .int x2, .ref (h 1), .int x4] (wM cA h σ wd ++ F) none (wM cA h s0 wd ++ F) := by
  refine ct_of (by decide +kernel) (Nat.le_of_ble_eq_true rfl) ?_
  intro p e s m below meth c E hw ls hl
  replace E : Ev p cX9_copyState 6 none RX9 (Cond.code yX9_copyState cX9_copyState 6 none :: bw) D cA tS A s m _ meth c := E
  replace hl : lv_has ls 6 [(0, .ref (h 0)), (1, .ref (h 2)), (2, .int x2), (3, .ref (h 1)), (4, .int x4)] := hl
  have hx := E.1.1
  have hb := E.1.2.1
  unfold f_X9_copyState_backup_state at hM
  refine lv_iconst (v := 0) hx hb dX9_copyState_0 (by decide) ?_
  refine lv_istore (lv' := [(5, .int 0), (0, .ref (h 0)), (1, .ref (h 2)), (2, .int x2), (3, .ref (h 1)), (4, .int x4)]) hx hb dX9_copyState_1 hl (by decide) rfl (fun ls hl => ?_)
  exact s_X9_copyState_backup_state_3 l D cA tS A h F N E N _ _ _ _ _ _ hM _ _ hw _ (lv_sub hl [2, 3, 4, 5, 0] rfl)
def f_X9_copyState_state_saved_3 (N : Nat)   : Nat → Int32 → Int32 → Int32 → Sg → Int64 → Option (Sg)
  | 0, _, _, _, _, _ => none
  | n + 1, x2, x4, x5, σ, wd => (if 4619 ≤ x5 then some σ else if ib (x2 + x5) 4619 then if ib (x4 + x5) 9238 then f_X9_copyState_state_saved_3 N n x2 x4 (x5 + 1) (up σ 3 (ix (x4 + x5)) (σ 1 (ix (x2 + x5)))) wd else none else none)
set_option maxRecDepth 100000 in
set_option maxHeartbeats 4000000 in
theorem s_X9_copyState_state_saved_3 (l : Launch) (D : va_G) (cA : Nat → ClassId) (tS : Nat → Nat) (A : Nat → Prop) (h : Nat → Nat) (F : va_W) (N : Nat) {p : Program} {e : Env} {s : State} {m : MethodId} {args : Array Value} {below : List Frame} {meth : Method} {c : Code} (E : Ev p cX9_copyState 6 none RX9 (Cond.code yX9_copyState cX9_copyState 6 none :: bw) D cA tS A s m args meth c) : ∀ (n : Nat) (x2 : Int32) (x4 : Int32) (x5 : Int32) (σ : Sg) (wd : Int64) (s0 : Sg) (hM : f_X9_copyState_state_saved_3 N n x2 x4 x5 σ wd = some s0) (H : Heap) (locs : List Loc) (hw : Wd D A (wM cA h σ wd ++ F) s.heap H locs) (ls : Array Slot) (hl : lv_has ls 6 [(1, .ref (h 1)), (2, .int x2), (3, .ref (h 3)), (4, .int x4), (5, .int x5)]), W p l e ({ frames := 0, cells := 0, slots := 0, locals := 0 } : Room) s m args below meth c H locs 0 0 (MQ below (QW D A none (wM cA h s0 wd ++ F)) args s 0 0 A) (F0 m 3 ls []) := by
  have hx := E.1.1
  have hb := E.1.2.1
  intro n
  induction n with
  | zero =>
    intro x2 x4 x5 σ wd s0 hM
    cases hM
  | succ n ih =>
    intro x2 x4 x5 σ wd s0 hM H locs hw ls hl
    rw [f_X9_copyState_state_saved_3] at hM
    refine lv_iload hx hb dX9_copyState_3 (lv_at hl 4 rfl) ?_
    refine lv_sipush (v := 4619) hx hb dX9_copyState_5 (by decide) ?_
    refine lv_icmp_ge (tgt := 30) hx hb dX9_copyState_8 (by decide) (fun c1 => ?_) (fun c1 => ?_)
    · replace hM := i_pos hM c1
      cases hM
      exact q_retv E hw dX9_copyState_30
    · replace hM := i_neg hM c1
      refine lv_aload_n hx hb dX9_copyState_11 rfl (lv_at hl 2 rfl) ?_
      refine lv_iload hx hb dX9_copyState_12 (lv_at hl 3 rfl) ?_
      refine lv_iload hx hb dX9_copyState_14 (lv_at hl 4 rfl) ?_
      refine lv_iadd hx hb dX9_copyState_16 ?_
      refine lv_aload_n hx hb dX9_copyState_17 rfl (lv_at hl 0 rfl) ?_
      refine lv_iload_n hx hb dX9_copyState_18 rfl (lv_at hl 1 rfl) ?_
      refine lv_iload hx hb dX9_copyState_19 (lv_at hl 4 rfl) ?_
      refine lv_iadd hx hb dX9_copyState_21 ?_
      obtain ⟨g2, hM⟩ := g_some hM
      refine q_ald E hw 1 (n := 4619) rfl g2 (x := (σ 1 (ix (x2 + x5)))) rfl dX9_copyState_22 ?_
      obtain ⟨g3, hM⟩ := g_some hM
      refine q_ast E hw 3 (n := 9238) rfl g3 (wM cA h (up σ 3 (ix (x4 + x5)) (σ 1 (ix (x2 + x5)))) wd ++ F) st_M_3 dX9_copyState_23 (fun H locs hw => ?_)
      refine lv_iinc (v := (x5 + 1)) (lv' := [(5, .int (x5 + 1)), (1, .ref (h 1)), (2, .int x2), (3, .ref (h 3)), (4, .int x4)]) hx hb dX9_copyState_24 hl (k := 4) rfl rfl (by decide) rfl (fun ls hl => ?_)
      refine lv_goto (tgt := 3) hx hb dX9_copyState_27 (by decide) ?_
      exact ih _ _ _ _ _ _ hM _ _ hw _ (lv_sub hl [1, 2, 3, 4, 0] rfl)
def f_X9_copyState_state_saved (N : Nat)   (x2 : Int32) (x4 : Int32) (σ : Sg) (wd : Int64) : Option (Sg) := f_X9_copyState_state_saved_3 N N x2 x4 0 σ wd
set_option maxRecDepth 100000 in
set_option maxHeartbeats 4000000 in
theorem c_X9_copyState_state_saved (l : Launch) (D : va_G) (cA : Nat → ClassId) (tS : Nat → Nat) (A : Nat → Prop) (h : Nat → Nat) (F : va_W) (N : Nat) (x2 : Int32) (x4 : Int32) (σ : Sg) (wd : Int64) (s0 : Sg) (hM : f_X9_copyState_state_saved N x2 x4 σ wd = some s0) : Ct l yX9_copyState (Cond.code yX9_copyState cX9_copyState 6 none :: bw) 0 0 D cA tS A [.ref (h 0), .ref (h 1), .int x2, .ref (h 3), .int x4] (wM cA h σ wd ++ F) none (wM cA h s0 wd ++ F) := by
  refine ct_of (by decide +kernel) (Nat.le_of_ble_eq_true rfl) ?_
  intro p e s m below meth c E hw ls hl
  replace E : Ev p cX9_copyState 6 none RX9 (Cond.code yX9_copyState cX9_copyState 6 none :: bw) D cA tS A s m _ meth c := E
  replace hl : lv_has ls 6 [(0, .ref (h 0)), (1, .ref (h 1)), (2, .int x2), (3, .ref (h 3)), (4, .int x4)] := hl
  have hx := E.1.1
  have hb := E.1.2.1
  unfold f_X9_copyState_state_saved at hM
  refine lv_iconst (v := 0) hx hb dX9_copyState_0 (by decide) ?_
  refine lv_istore (lv' := [(5, .int 0), (0, .ref (h 0)), (1, .ref (h 1)), (2, .int x2), (3, .ref (h 3)), (4, .int x4)]) hx hb dX9_copyState_1 hl (by decide) rfl (fun ls hl => ?_)
  exact s_X9_copyState_state_saved_3 l D cA tS A h F N E N _ _ _ _ _ _ hM _ _ hw _ (lv_sub hl [2, 3, 4, 5, 0] rfl)
def f_X9_copyState_saved_state_3 (N : Nat)   : Nat → Int32 → Int32 → Int32 → Sg → Int64 → Option (Sg)
  | 0, _, _, _, _, _ => none
  | n + 1, x2, x4, x5, σ, wd => (if 4619 ≤ x5 then some σ else if ib (x2 + x5) 9238 then if ib (x4 + x5) 4619 then f_X9_copyState_saved_state_3 N n x2 x4 (x5 + 1) (up σ 1 (ix (x4 + x5)) (σ 3 (ix (x2 + x5)))) wd else none else none)
set_option maxRecDepth 100000 in
set_option maxHeartbeats 4000000 in
theorem s_X9_copyState_saved_state_3 (l : Launch) (D : va_G) (cA : Nat → ClassId) (tS : Nat → Nat) (A : Nat → Prop) (h : Nat → Nat) (F : va_W) (N : Nat) {p : Program} {e : Env} {s : State} {m : MethodId} {args : Array Value} {below : List Frame} {meth : Method} {c : Code} (E : Ev p cX9_copyState 6 none RX9 (Cond.code yX9_copyState cX9_copyState 6 none :: bw) D cA tS A s m args meth c) : ∀ (n : Nat) (x2 : Int32) (x4 : Int32) (x5 : Int32) (σ : Sg) (wd : Int64) (s0 : Sg) (hM : f_X9_copyState_saved_state_3 N n x2 x4 x5 σ wd = some s0) (H : Heap) (locs : List Loc) (hw : Wd D A (wM cA h σ wd ++ F) s.heap H locs) (ls : Array Slot) (hl : lv_has ls 6 [(1, .ref (h 3)), (2, .int x2), (3, .ref (h 1)), (4, .int x4), (5, .int x5)]), W p l e ({ frames := 0, cells := 0, slots := 0, locals := 0 } : Room) s m args below meth c H locs 0 0 (MQ below (QW D A none (wM cA h s0 wd ++ F)) args s 0 0 A) (F0 m 3 ls []) := by
  have hx := E.1.1
  have hb := E.1.2.1
  intro n
  induction n with
  | zero =>
    intro x2 x4 x5 σ wd s0 hM
    cases hM
  | succ n ih =>
    intro x2 x4 x5 σ wd s0 hM H locs hw ls hl
    rw [f_X9_copyState_saved_state_3] at hM
    refine lv_iload hx hb dX9_copyState_3 (lv_at hl 4 rfl) ?_
    refine lv_sipush (v := 4619) hx hb dX9_copyState_5 (by decide) ?_
    refine lv_icmp_ge (tgt := 30) hx hb dX9_copyState_8 (by decide) (fun c1 => ?_) (fun c1 => ?_)
    · replace hM := i_pos hM c1
      cases hM
      exact q_retv E hw dX9_copyState_30
    · replace hM := i_neg hM c1
      refine lv_aload_n hx hb dX9_copyState_11 rfl (lv_at hl 2 rfl) ?_
      refine lv_iload hx hb dX9_copyState_12 (lv_at hl 3 rfl) ?_
      refine lv_iload hx hb dX9_copyState_14 (lv_at hl 4 rfl) ?_
      refine lv_iadd hx hb dX9_copyState_16 ?_
      refine lv_aload_n hx hb dX9_copyState_17 rfl (lv_at hl 0 rfl) ?_
      refine lv_iload_n hx hb dX9_copyState_18 rfl (lv_at hl 1 rfl) ?_
      refine lv_iload hx hb dX9_copyState_19 (lv_at hl 4 rfl) ?_
      refine lv_iadd hx hb dX9_copyState_21 ?_
      obtain ⟨g2, hM⟩ := g_some hM
      refine q_ald E hw 3 (n := 9238) rfl g2 (x := (σ 3 (ix (x2 + x5)))) rfl dX9_copyState_22 ?_
      obtain ⟨g3, hM⟩ := g_some hM
      refine q_ast E hw 1 (n := 4619) rfl g3 (wM cA h (up σ 1 (ix (x4 + x5)) (σ 3 (ix (x2 + x5)))) wd ++ F) st_M_1 dX9_copyState_23 (fun H locs hw => ?_)
      refine lv_iinc (v := (x5 + 1)) (lv' := [(5, .int (x5 + 1)), (1, .ref (h 3)), (2, .int x2), (3, .ref (h 1)), (4, .int x4)]) hx hb dX9_copyState_24 hl (k := 4) rfl rfl (by decide) rfl (fun ls hl => ?_)
      refine lv_goto (tgt := 3) hx hb dX9_copyState_27 (by decide) ?_
      exact ih _ _ _ _ _ _ hM _ _ hw _ (lv_sub hl [1, 2, 3, 4, 0] rfl)
def f_X9_copyState_saved_state (N : Nat)   (x2 : Int32) (x4 : Int32) (σ : Sg) (wd : Int64) : Option (Sg) := f_X9_copyState_saved_state_3 N N x2 x4 0 σ wd
set_option maxRecDepth 100000 in
set_option maxHeartbeats 4000000 in
theorem c_X9_copyState_saved_state (l : Launch) (D : va_G) (cA : Nat → ClassId) (tS : Nat → Nat) (A : Nat → Prop) (h : Nat → Nat) (F : va_W) (N : Nat) (x2 : Int32) (x4 : Int32) (σ : Sg) (wd : Int64) (s0 : Sg) (hM : f_X9_copyState_saved_state N x2 x4 σ wd = some s0) : Ct l yX9_copyState (Cond.code yX9_copyState cX9_copyState 6 none :: bw) 0 0 D cA tS A [.ref (h 0), .ref (h 3), .int x2, .ref (h 1), .int x4] (wM cA h σ wd ++ F) none (wM cA h s0 wd ++ F) := by
  refine ct_of (by decide +kernel) (Nat.le_of_ble_eq_true rfl) ?_
  intro p e s m below meth c E hw ls hl
  replace E : Ev p cX9_copyState 6 none RX9 (Cond.code yX9_copyState cX9_copyState 6 none :: bw) D cA tS A s m _ meth c := E
  replace hl : lv_has ls 6 [(0, .ref (h 0)), (1, .ref (h 3)), (2, .int x2), (3, .ref (h 1)), (4, .int x4)] := hl
  have hx := E.1.1
  have hb := E.1.2.1
  unfold f_X9_copyState_saved_state at hM
  refine lv_iconst (v := 0) hx hb dX9_copyState_0 (by decide) ?_
  refine lv_istore (lv' := [(5, .int 0), (0, .ref (h 0)), (1, .ref (h 3)), (2, .int x2), (3, .ref (h 1)), (4, .int x4)]) hx hb dX9_copyState_1 hl (by decide) rfl (fun ls hl => ?_)
  exact s_X9_copyState_saved_state_3 l D cA tS A h F N E N _ _ _ _ _ _ hM _ _ hw _ (lv_sub hl [2, 3, 4, 5, 0] rfl)
def f_X9_allBreaches (N : Nat)   (σ : Sg) (wd : Int64) : Option (Int32) := (f_X9_breachesOf N (-1) 14 σ wd).bind (fun p1 => (f_X9_breachesOf N (-1) 15 σ wd).bind (fun p3 => some (p1 + p3)))
set_option maxRecDepth 100000 in
set_option maxHeartbeats 4000000 in
theorem c_X9_allBreaches (l : Launch) (D : va_G) (cA : Nat → ClassId) (tS : Nat → Nat) (A : Nat → Prop) (h : Nat → Nat) (F : va_W) (N : Nat) (σ : Sg) (wd : Int64) (r0 : Int32) (hM : f_X9_allBreaches N σ wd = some r0) : Ct l yX9_allBreaches (Cond.code yX9_allBreaches cX9_allBreaches 1 (some .int) :: bw) 2 46 D cA tS A [.ref (h 0)] (wM cA h σ wd ++ F) (some (.int r0)) (wM cA h σ wd ++ F) := by
  refine ct_of (by decide +kernel) (Nat.le_of_ble_eq_true rfl) ?_
  intro p e s m below meth c E hw ls hl
  replace E : Ev p cX9_allBreaches 1 (some .int) RX9 (Cond.code yX9_allBreaches cX9_allBreaches 1 (some .int) :: bw) D cA tS A s m _ meth c := E
  replace hl : lv_has ls 1 [(0, .ref (h 0))] := hl
  have hx := E.1.1
  have hb := E.1.2.1
  unfold f_X9_allBreaches at hM
  refine lv_aload_n hx hb dX9_allBreaches_0 rfl (lv_at hl 0 rfl) ?_
  refine lv_iconst (v := (-1)) hx hb dX9_allBreaches_1 (by decide) ?_
  refine lv_bipush (v := 14) hx hb dX9_allBreaches_2 (by decide) ?_
  obtain ⟨p1, h2, hM⟩ := b_some hM
  refine q_cv (As := [.int (-1), .int 14]) (rest := []) E hw hl (c_X9_breachesOf l D cA tS A h F N (-1) 14 σ wd p1 h2) 2 (bwV bw_c tb_1537 tb_1539 tb_84 tb_112 tb_1540) rfl (by decide +kernel) ⟨Nat.le_of_ble_eq_true rfl, Nat.le_of_ble_eq_true rfl⟩ 0 9 (T := TX9) (N := 17) rfl rfl rfl rfl (Nat.le_of_ble_eq_true rfl) ⟨Nat.zero_le _, Nat.zero_le _⟩ dX9_allBreaches_4 (fun H locs hw => ?_)
  refine lv_aload_n hx hb dX9_allBreaches_7 rfl (lv_at hl 0 rfl) ?_
  refine lv_iconst (v := (-1)) hx hb dX9_allBreaches_8 (by decide) ?_
  refine lv_bipush (v := 15) hx hb dX9_allBreaches_9 (by decide) ?_
  obtain ⟨p3, h4, hM⟩ := b_some hM
  refine q_cv (As := [.int (-1), .int 15]) (rest := [.int p1]) E hw hl (c_X9_breachesOf l D cA tS A h F N (-1) 15 σ wd p3 h4) 2 (bwV bw_c tb_1537 tb_1539 tb_84 tb_112 tb_1540) rfl (by decide +kernel) ⟨Nat.le_of_ble_eq_true rfl, Nat.le_of_ble_eq_true rfl⟩ 0 9 (T := TX9) (N := 17) rfl rfl rfl rfl (Nat.le_of_ble_eq_true rfl) ⟨Nat.zero_le _, Nat.zero_le _⟩ dX9_allBreaches_11 (fun H locs hw => ?_)
  refine lv_iadd hx hb dX9_allBreaches_14 ?_
  cases hM
  exact q_reti E hw dX9_allBreaches_15
def f_X9_forecast_58 (N : Nat)   (x1 : Int32) (σ : Sg) (wd : Int64) : Option (Int32 × Sg) := (f_X9_ticket x1 13 σ wd).bind (fun p1 => (f_X9_copyState_backup_state N 0 0 σ wd).bind (fun p3 => some (p1, p3)))
set_option maxRecDepth 100000 in
set_option maxHeartbeats 4000000 in
theorem s_X9_forecast_58 (l : Launch) (D : va_G) (cA : Nat → ClassId) (tS : Nat → Nat) (A : Nat → Prop) (h : Nat → Nat) (F : va_W) (N : Nat) {p : Program} {e : Env} {s : State} {m : MethodId} {args : Array Value} {below : List Frame} {meth : Method} {c : Code} (E : Ev p cX9_forecast 4 (some .int) RX9 (Cond.code yX9_forecast cX9_forecast 4 (some .int) :: bw) D cA tS A s m args meth c) : ∀ (x1 : Int32) (σ : Sg) (wd : Int64) (r0 : Int32) (s0 : Sg) (hM : f_X9_forecast_58 N x1 σ wd = some (r0, s0)) (H : Heap) (locs : List Loc) (hw : Wd D A (wM cA h σ wd ++ F) s.heap H locs) (ls : Array Slot) (hl : lv_has ls 4 [(0, .ref (h 0)), (1, .int x1)]), W p l e ({ frames := 6, cells := 0, slots := 0, locals := 135 } : Room) s m args below meth c H locs 0 0 (MQ below (QW D A (some (.int r0)) (wM cA h s0 wd ++ F)) args s 0 0 A) (F0 m 58 ls []) := by
  have hx := E.1.1
  have hb := E.1.2.1
  intro x1 σ wd r0 s0 hM H locs hw ls hl
  unfold f_X9_forecast_58 at hM
  refine lv_aload_n hx hb dX9_forecast_58 rfl (lv_at hl 0 rfl) ?_
  refine lv_iload_n hx hb dX9_forecast_59 rfl (lv_at hl 1 rfl) ?_
  refine lv_bipush (v := 13) hx hb dX9_forecast_60 (by decide) ?_
  obtain ⟨p1, h2, hM⟩ := b_some hM
  refine q_cv (As := [.int x1, .int 13]) (rest := []) E hw hl (c_X9_ticket l D cA tS A h F x1 13 σ wd p1 h2) 2 (bwV bw_c tb_1253 tb_1255 tb_52 tb_112 tb_1256) rfl (by decide +kernel) ⟨Nat.le_of_ble_eq_true rfl, Nat.le_of_ble_eq_true rfl⟩ 0 9 (T := TX9) (N := 17) rfl rfl rfl rfl (Nat.le_of_ble_eq_true rfl) ⟨Nat.zero_le _, Nat.zero_le _⟩ dX9_forecast_62 (fun H locs hw => ?_)
  refine lv_istore_n (lv' := [(3, .int p1), (0, .ref (h 0)), (1, .int x1)]) hx hb dX9_forecast_65 rfl hl (by decide) rfl (fun ls hl => ?_)
  refine lv_aload_n hx hb dX9_forecast_66 rfl (lv_at hl 1 rfl) ?_
  refine lv_aload_n hx hb dX9_forecast_67 rfl (lv_at hl 1 rfl) ?_
  refine q_get (C := RX9) (T := TX9) (N := 17) (ci := 9) E (fun w h => List.mem_cons_of_mem _ (inX9 w h)) hw 0 rfl rfl 1 (by decide) (List.mem_cons_of_mem _ tb_1158) (v := .ref (h 2)) rfl dX9_forecast_68 ?_
  refine lv_iconst (v := 0) hx hb dX9_forecast_71 (by decide) ?_
  refine lv_aload_n hx hb dX9_forecast_72 rfl (lv_at hl 1 rfl) ?_
  refine q_get (C := RX9) (T := TX9) (N := 17) (ci := 9) E (fun w h => List.mem_cons_of_mem _ (inX9 w h)) hw 0 rfl rfl 0 (by decide) (List.mem_cons_of_mem _ tb_1157) (v := .ref (h 1)) rfl dX9_forecast_73 ?_
  refine lv_iconst (v := 0) hx hb dX9_forecast_76 (by decide) ?_
  obtain ⟨p3, h4, hM⟩ := b_some hM
  refine q_cvv (As := [.ref (h 2), .int 0, .ref (h 1), .int 0]) (rest := []) E hw hl (c_X9_copyState_backup_state l D cA tS A h F N 0 0 σ wd p3 h4) 4 (bwV bw_c tb_1557 tb_1559 tb_86 tb_112 tb_1560) rfl (by decide +kernel) ⟨Nat.le_of_ble_eq_true rfl, Nat.le_of_ble_eq_true rfl⟩ 0 9 (T := TX9) (N := 17) rfl rfl rfl rfl (Nat.le_of_ble_eq_true rfl) ⟨Nat.zero_le _, Nat.zero_le _⟩ dX9_forecast_77 (fun H locs hw => ?_)
  refine lv_iload_n hx hb dX9_forecast_80 rfl (lv_at hl 0 rfl) ?_
  cases hM
  exact q_reti E hw dX9_forecast_81
def f_X9_forecast_27 (N : Nat)   : Nat → Int32 → Int32 → Sg → Int64 → Option (Int32 × Sg)
  | 0, _, _, _, _ => none
  | n + 1, x1, x2, σ, wd => (if 10080 ≤ (σ 1 (ix 0)) then f_X9_forecast_58 N x1 σ wd else (f_X9_is x1 3 σ wd).bind (fun p2 => (if p2 = 0 then (f_X9_passMinute N σ wd).bind (fun p5 => f_X9_forecast_27 N n x1 (x2 + p5.1) p5.2 wd) else f_X9_forecast_58 N x1 σ wd)))
set_option maxRecDepth 100000 in
set_option maxHeartbeats 4000000 in
theorem s_X9_forecast_27 (l : Launch) (D : va_G) (cA : Nat → ClassId) (tS : Nat → Nat) (A : Nat → Prop) (h : Nat → Nat) (F : va_W) (N : Nat) {p : Program} {e : Env} {s : State} {m : MethodId} {args : Array Value} {below : List Frame} {meth : Method} {c : Code} (E : Ev p cX9_forecast 4 (some .int) RX9 (Cond.code yX9_forecast cX9_forecast 4 (some .int) :: bw) D cA tS A s m args meth c) : ∀ (n : Nat) (x1 : Int32) (x2 : Int32) (σ : Sg) (wd : Int64) (r0 : Int32) (s0 : Sg) (hM : f_X9_forecast_27 N n x1 x2 σ wd = some (r0, s0)) (H : Heap) (locs : List Loc) (hw : Wd D A (wM cA h σ wd ++ F) s.heap H locs) (ls : Array Slot) (hl : lv_has ls 4 [(0, .ref (h 0)), (1, .int x1), (2, .int x2)]), W p l e ({ frames := 6, cells := 0, slots := 0, locals := 135 } : Room) s m args below meth c H locs 0 0 (MQ below (QW D A (some (.int r0)) (wM cA h s0 wd ++ F)) args s 0 0 A) (F0 m 27 ls []) := by
  have hx := E.1.1
  have hb := E.1.2.1
  intro n
  induction n with
  | zero =>
    intro x1 x2 σ wd r0 s0 hM
    cases hM
  | succ n ih =>
    intro x1 x2 σ wd r0 s0 hM H locs hw ls hl
    rw [f_X9_forecast_27] at hM
    refine lv_aload_n hx hb dX9_forecast_27 rfl (lv_at hl 0 rfl) ?_
    refine q_get (C := RX9) (T := TX9) (N := 17) (ci := 9) E (fun w h => List.mem_cons_of_mem _ (inX9 w h)) hw 0 rfl rfl 0 (by decide) (List.mem_cons_of_mem _ tb_1157) (v := .ref (h 1)) rfl dX9_forecast_28 ?_
    refine lv_iconst (v := 0) hx hb dX9_forecast_31 (by decide) ?_
    refine q_ald E hw 1 (n := 4619) rfl (by decide +kernel) (x := (σ 1 (ix 0))) rfl dX9_forecast_32 ?_
    refine lv_sipush (v := 10080) hx hb dX9_forecast_33 (by decide) ?_
    refine lv_icmp_ge (tgt := 58) hx hb dX9_forecast_36 (by decide) (fun c1 => ?_) (fun c1 => ?_)
    · replace hM := i_pos hM c1
      exact s_X9_forecast_58 l D cA tS A h F N E _ _ _ _ _ hM _ _ hw _ (lv_sub hl [0, 1] rfl)
    · replace hM := i_neg hM c1
      refine lv_aload_n hx hb dX9_forecast_39 rfl (lv_at hl 0 rfl) ?_
      refine lv_iload_n hx hb dX9_forecast_40 rfl (lv_at hl 1 rfl) ?_
      refine lv_iconst (v := 3) hx hb dX9_forecast_41 (by decide) ?_
      obtain ⟨p2, h3, hM⟩ := b_some hM
      refine q_cv (As := [.int x1, .int 3]) (rest := []) E hw hl (c_X9_is l D cA tS A h F x1 3 σ wd p2 h3) 2 (bwV bw_c tb_1261 tb_1263 tb_54 tb_112 tb_1264) rfl (by decide +kernel) ⟨Nat.le_of_ble_eq_true rfl, Nat.le_of_ble_eq_true rfl⟩ 0 9 (T := TX9) (N := 17) rfl rfl rfl rfl (Nat.le_of_ble_eq_true rfl) ⟨Nat.zero_le _, Nat.zero_le _⟩ dX9_forecast_42 (fun H locs hw => ?_)
      refine lv_if_ne (tgt := 58) hx hb dX9_forecast_45 (by decide) (fun c4 => ?_) (fun c4 => ?_)
      · replace hM := i_neg hM c4
        exact s_X9_forecast_58 l D cA tS A h F N E _ _ _ _ _ hM _ _ hw _ (lv_sub hl [0, 1] rfl)
      · replace hM := i_pos hM c4
        refine lv_iload_n hx hb dX9_forecast_48 rfl (lv_at hl 2 rfl) ?_
        refine lv_aload_n hx hb dX9_forecast_49 rfl (lv_at hl 0 rfl) ?_
        obtain ⟨p5, h6, hM⟩ := b_some hM
        refine q_cv (As := []) (rest := [.int x2]) E hw hl (c_X9_passMinute l D cA tS A h F N σ wd p5.1 p5.2 h6) 0 (bwV bw_c tb_1399 tb_1401 tb_70 tb_112 tb_1402) rfl (by decide +kernel) ⟨Nat.le_of_ble_eq_true rfl, Nat.le_of_ble_eq_true rfl⟩ 0 9 (T := TX9) (N := 17) rfl rfl rfl rfl (Nat.le_of_ble_eq_true rfl) ⟨Nat.zero_le _, Nat.zero_le _⟩ dX9_forecast_50 (fun H locs hw => ?_)
        refine lv_iadd hx hb dX9_forecast_53 ?_
        refine lv_istore_n (lv' := [(2, .int (x2 + p5.1)), (0, .ref (h 0)), (1, .int x1)]) hx hb dX9_forecast_54 rfl hl (by decide) rfl (fun ls hl => ?_)
        refine lv_goto (tgt := 27) hx hb dX9_forecast_55 (by decide) ?_
        exact ih _ _ _ _ _ _ hM _ _ hw _ (lv_sub hl [1, 2, 0] rfl)
def f_X9_forecast (N : Nat)   (x1 : Int32) (σ : Sg) (wd : Int64) : Option (Int32 × Sg) := (f_X9_isTicket x1 σ wd).bind (fun p1 => (if p1 = 0 then some ((-2), σ) else (f_X9_copyState_state_backup N 0 0 σ wd).bind (fun p4 => f_X9_forecast_27 N N x1 0 p4 wd)))
set_option maxRecDepth 100000 in
set_option maxHeartbeats 4000000 in
theorem c_X9_forecast (l : Launch) (D : va_G) (cA : Nat → ClassId) (tS : Nat → Nat) (A : Nat → Prop) (h : Nat → Nat) (F : va_W) (N : Nat) (x1 : Int32) (σ : Sg) (wd : Int64) (r0 : Int32) (s0 : Sg) (hM : f_X9_forecast N x1 σ wd = some (r0, s0)) : Ct l yX9_forecast (Cond.code yX9_forecast cX9_forecast 4 (some .int) :: bw) 6 135 D cA tS A [.ref (h 0), .int x1] (wM cA h σ wd ++ F) (some (.int r0)) (wM cA h s0 wd ++ F) := by
  refine ct_of (by decide +kernel) (Nat.le_of_ble_eq_true rfl) ?_
  intro p e s m below meth c E hw ls hl
  replace E : Ev p cX9_forecast 4 (some .int) RX9 (Cond.code yX9_forecast cX9_forecast 4 (some .int) :: bw) D cA tS A s m _ meth c := E
  replace hl : lv_has ls 4 [(0, .ref (h 0)), (1, .int x1)] := hl
  have hx := E.1.1
  have hb := E.1.2.1
  unfold f_X9_forecast at hM
  refine lv_aload_n hx hb dX9_forecast_0 rfl (lv_at hl 0 rfl) ?_
  refine lv_iload_n hx hb dX9_forecast_1 rfl (lv_at hl 1 rfl) ?_
  obtain ⟨p1, h2, hM⟩ := b_some hM
  refine q_cv (As := [.int x1]) (rest := []) E hw hl (c_X9_isTicket l D cA tS A h F x1 σ wd p1 h2) 1 (bwV bw_c tb_1245 tb_1247 tb_50 tb_112 tb_1248) rfl (by decide +kernel) ⟨Nat.le_of_ble_eq_true rfl, Nat.le_of_ble_eq_true rfl⟩ 0 9 (T := TX9) (N := 17) rfl rfl rfl rfl (Nat.le_of_ble_eq_true rfl) ⟨Nat.zero_le _, Nat.zero_le _⟩ dX9_forecast_2 (fun H locs hw => ?_)
  refine lv_if_ne (tgt := 11) hx hb dX9_forecast_5 (by decide) (fun c3 => ?_) (fun c3 => ?_)
  · replace hM := i_neg hM c3
    refine lv_aload_n hx hb dX9_forecast_11 rfl (lv_at hl 0 rfl) ?_
    refine lv_aload_n hx hb dX9_forecast_12 rfl (lv_at hl 0 rfl) ?_
    refine q_get (C := RX9) (T := TX9) (N := 17) (ci := 9) E (fun w h => List.mem_cons_of_mem _ (inX9 w h)) hw 0 rfl rfl 0 (by decide) (List.mem_cons_of_mem _ tb_1157) (v := .ref (h 1)) rfl dX9_forecast_13 ?_
    refine lv_iconst (v := 0) hx hb dX9_forecast_16 (by decide) ?_
    refine lv_aload_n hx hb dX9_forecast_17 rfl (lv_at hl 0 rfl) ?_
    refine q_get (C := RX9) (T := TX9) (N := 17) (ci := 9) E (fun w h => List.mem_cons_of_mem _ (inX9 w h)) hw 0 rfl rfl 1 (by decide) (List.mem_cons_of_mem _ tb_1158) (v := .ref (h 2)) rfl dX9_forecast_18 ?_
    refine lv_iconst (v := 0) hx hb dX9_forecast_21 (by decide) ?_
    obtain ⟨p4, h5, hM⟩ := b_some hM
    refine q_cvv (As := [.ref (h 1), .int 0, .ref (h 2), .int 0]) (rest := []) E hw hl (c_X9_copyState_state_backup l D cA tS A h F N 0 0 σ wd p4 h5) 4 (bwV bw_c tb_1557 tb_1559 tb_86 tb_112 tb_1560) rfl (by decide +kernel) ⟨Nat.le_of_ble_eq_true rfl, Nat.le_of_ble_eq_true rfl⟩ 0 9 (T := TX9) (N := 17) rfl rfl rfl rfl (Nat.le_of_ble_eq_true rfl) ⟨Nat.zero_le _, Nat.zero_le _⟩ dX9_forecast_22 (fun H locs hw => ?_)
    refine lv_iconst (v := 0) hx hb dX9_forecast_25 (by decide) ?_
    refine lv_istore_n (lv' := [(2, .int 0), (0, .ref (h 0)), (1, .int x1)]) hx hb dX9_forecast_26 rfl hl (by decide) rfl (fun ls hl => ?_)
    exact s_X9_forecast_27 l D cA tS A h F N E N _ _ _ _ _ _ hM _ _ hw _ (lv_sub hl [1, 2, 0] rfl)
  · replace hM := i_pos hM c3
    refine lv_bipush (v := (-2)) hx hb dX9_forecast_8 (by decide) ?_
    cases hM
    exact q_reti E hw dX9_forecast_10
def f_X9_breachesAhead_21 (N : Nat)   : Nat → Int32 → Int32 → Sg → Int64 → Option (Int32 × Sg)
  | 0, _, _, _, _ => none
  | n + 1, x1, x2, σ, wd => (if 10080 ≤ (σ 1 (ix 0)) then (f_X9_allBreaches N σ wd).bind (fun p2 => (f_X9_copyState_backup_state N 0 0 σ wd).bind (fun p4 => some ((p2 - x1), p4))) else (f_X9_passMinute N σ wd).bind (fun p6 => f_X9_breachesAhead_21 N n x1 (x2 + p6.1) p6.2 wd))
set_option maxRecDepth 100000 in
set_option maxHeartbeats 4000000 in
theorem s_X9_breachesAhead_21 (l : Launch) (D : va_G) (cA : Nat → ClassId) (tS : Nat → Nat) (A : Nat → Prop) (h : Nat → Nat) (F : va_W) (N : Nat) {p : Program} {e : Env} {s : State} {m : MethodId} {args : Array Value} {below : List Frame} {meth : Method} {c : Code} (E : Ev p cX9_breachesAhead 4 (some .int) RX9 (Cond.code yX9_breachesAhead cX9_breachesAhead 4 (some .int) :: bw) D cA tS A s m args meth c) : ∀ (n : Nat) (x1 : Int32) (x2 : Int32) (σ : Sg) (wd : Int64) (r0 : Int32) (s0 : Sg) (hM : f_X9_breachesAhead_21 N n x1 x2 σ wd = some (r0, s0)) (H : Heap) (locs : List Loc) (hw : Wd D A (wM cA h σ wd ++ F) s.heap H locs) (ls : Array Slot) (hl : lv_has ls 4 [(0, .ref (h 0)), (1, .int x1), (2, .int x2)]), W p l e ({ frames := 6, cells := 0, slots := 0, locals := 135 } : Room) s m args below meth c H locs 0 0 (MQ below (QW D A (some (.int r0)) (wM cA h s0 wd ++ F)) args s 0 0 A) (F0 m 21 ls []) := by
  have hx := E.1.1
  have hb := E.1.2.1
  intro n
  induction n with
  | zero =>
    intro x1 x2 σ wd r0 s0 hM
    cases hM
  | succ n ih =>
    intro x1 x2 σ wd r0 s0 hM H locs hw ls hl
    rw [f_X9_breachesAhead_21] at hM
    refine lv_aload_n hx hb dX9_breachesAhead_21 rfl (lv_at hl 0 rfl) ?_
    refine q_get (C := RX9) (T := TX9) (N := 17) (ci := 9) E (fun w h => List.mem_cons_of_mem _ (inX9 w h)) hw 0 rfl rfl 0 (by decide) (List.mem_cons_of_mem _ tb_1157) (v := .ref (h 1)) rfl dX9_breachesAhead_22 ?_
    refine lv_iconst (v := 0) hx hb dX9_breachesAhead_25 (by decide) ?_
    refine q_ald E hw 1 (n := 4619) rfl (by decide +kernel) (x := (σ 1 (ix 0))) rfl dX9_breachesAhead_26 ?_
    refine lv_sipush (v := 10080) hx hb dX9_breachesAhead_27 (by decide) ?_
    refine lv_icmp_ge (tgt := 43) hx hb dX9_breachesAhead_30 (by decide) (fun c1 => ?_) (fun c1 => ?_)
    · replace hM := i_pos hM c1
      refine lv_aload_n hx hb dX9_breachesAhead_43 rfl (lv_at hl 0 rfl) ?_
      obtain ⟨p2, h3, hM⟩ := b_some hM
      refine q_cv (As := []) (rest := []) E hw hl (c_X9_allBreaches l D cA tS A h F N σ wd p2 h3) 0 (bwV bw_c tb_1565 tb_1567 tb_87 tb_112 tb_1568) rfl (by decide +kernel) ⟨Nat.le_of_ble_eq_true rfl, Nat.le_of_ble_eq_true rfl⟩ 0 9 (T := TX9) (N := 17) rfl rfl rfl rfl (Nat.le_of_ble_eq_true rfl) ⟨Nat.zero_le _, Nat.zero_le _⟩ dX9_breachesAhead_44 (fun H locs hw => ?_)
      refine lv_iload_n hx hb dX9_breachesAhead_47 rfl (lv_at hl 1 rfl) ?_
      refine lv_isub hx hb dX9_breachesAhead_48 ?_
      refine lv_istore_n (lv' := [(3, .int (p2 - x1)), (0, .ref (h 0)), (1, .int x1), (2, .int x2)]) hx hb dX9_breachesAhead_49 rfl hl (by decide) rfl (fun ls hl => ?_)
      refine lv_aload_n hx hb dX9_breachesAhead_50 rfl (lv_at hl 1 rfl) ?_
      refine lv_aload_n hx hb dX9_breachesAhead_51 rfl (lv_at hl 1 rfl) ?_
      refine q_get (C := RX9) (T := TX9) (N := 17) (ci := 9) E (fun w h => List.mem_cons_of_mem _ (inX9 w h)) hw 0 rfl rfl 1 (by decide) (List.mem_cons_of_mem _ tb_1158) (v := .ref (h 2)) rfl dX9_breachesAhead_52 ?_
      refine lv_iconst (v := 0) hx hb dX9_breachesAhead_55 (by decide) ?_
      refine lv_aload_n hx hb dX9_breachesAhead_56 rfl (lv_at hl 1 rfl) ?_
      refine q_get (C := RX9) (T := TX9) (N := 17) (ci := 9) E (fun w h => List.mem_cons_of_mem _ (inX9 w h)) hw 0 rfl rfl 0 (by decide) (List.mem_cons_of_mem _ tb_1157) (v := .ref (h 1)) rfl dX9_breachesAhead_57 ?_
      refine lv_iconst (v := 0) hx hb dX9_breachesAhead_60 (by decide) ?_
      obtain ⟨p4, h5, hM⟩ := b_some hM
      refine q_cvv (As := [.ref (h 2), .int 0, .ref (h 1), .int 0]) (rest := []) E hw hl (c_X9_copyState_backup_state l D cA tS A h F N 0 0 σ wd p4 h5) 4 (bwV bw_c tb_1557 tb_1559 tb_86 tb_112 tb_1560) rfl (by decide +kernel) ⟨Nat.le_of_ble_eq_true rfl, Nat.le_of_ble_eq_true rfl⟩ 0 9 (T := TX9) (N := 17) rfl rfl rfl rfl (Nat.le_of_ble_eq_true rfl) ⟨Nat.zero_le _, Nat.zero_le _⟩ dX9_breachesAhead_61 (fun H locs hw => ?_)
      refine lv_iload_n hx hb dX9_breachesAhead_64 rfl (lv_at hl 0 rfl) ?_
      cases hM
      exact q_reti E hw dX9_breachesAhead_65
    · replace hM := i_neg hM c1
      refine lv_iload_n hx hb dX9_breachesAhead_33 rfl (lv_at hl 2 rfl) ?_
      refine lv_aload_n hx hb dX9_breachesAhead_34 rfl (lv_at hl 0 rfl) ?_
      obtain ⟨p6, h7, hM⟩ := b_some hM
      refine q_cv (As := []) (rest := [.int x2]) E hw hl (c_X9_passMinute l D cA tS A h F N σ wd p6.1 p6.2 h7) 0 (bwV bw_c tb_1399 tb_1401 tb_70 tb_112 tb_1402) rfl (by decide +kernel) ⟨Nat.le_of_ble_eq_true rfl, Nat.le_of_ble_eq_true rfl⟩ 0 9 (T := TX9) (N := 17) rfl rfl rfl rfl (Nat.le_of_ble_eq_true rfl) ⟨Nat.zero_le _, Nat.zero_le _⟩ dX9_breachesAhead_35 (fun H locs hw => ?_)
      refine lv_iadd hx hb dX9_breachesAhead_38 ?_
      refine lv_istore_n (lv' := [(2, .int (x2 + p6.1)), (0, .ref (h 0)), (1, .int x1)]) hx hb dX9_breachesAhead_39 rfl hl (by decide) rfl (fun ls hl => ?_)
      refine lv_goto (tgt := 21) hx hb dX9_breachesAhead_40 (by decide) ?_
      exact ih _ _ _ _ _ _ hM _ _ hw _ (lv_sub hl [1, 2, 0] rfl)
def f_X9_breachesAhead (N : Nat)   (σ : Sg) (wd : Int64) : Option (Int32 × Sg) := (f_X9_copyState_state_backup N 0 0 σ wd).bind (fun p1 => (f_X9_allBreaches N p1 wd).bind (fun p3 => f_X9_breachesAhead_21 N N p3 0 p1 wd))
set_option maxRecDepth 100000 in
set_option maxHeartbeats 4000000 in
theorem c_X9_breachesAhead (l : Launch) (D : va_G) (cA : Nat → ClassId) (tS : Nat → Nat) (A : Nat → Prop) (h : Nat → Nat) (F : va_W) (N : Nat) (σ : Sg) (wd : Int64) (r0 : Int32) (s0 : Sg) (hM : f_X9_breachesAhead N σ wd = some (r0, s0)) : Ct l yX9_breachesAhead (Cond.code yX9_breachesAhead cX9_breachesAhead 4 (some .int) :: bw) 6 135 D cA tS A [.ref (h 0)] (wM cA h σ wd ++ F) (some (.int r0)) (wM cA h s0 wd ++ F) := by
  refine ct_of (by decide +kernel) (Nat.le_of_ble_eq_true rfl) ?_
  intro p e s m below meth c E hw ls hl
  replace E : Ev p cX9_breachesAhead 4 (some .int) RX9 (Cond.code yX9_breachesAhead cX9_breachesAhead 4 (some .int) :: bw) D cA tS A s m _ meth c := E
  replace hl : lv_has ls 4 [(0, .ref (h 0))] := hl
  have hx := E.1.1
  have hb := E.1.2.1
  unfold f_X9_breachesAhead at hM
  refine lv_aload_n hx hb dX9_breachesAhead_0 rfl (lv_at hl 0 rfl) ?_
  refine lv_aload_n hx hb dX9_breachesAhead_1 rfl (lv_at hl 0 rfl) ?_
  refine q_get (C := RX9) (T := TX9) (N := 17) (ci := 9) E (fun w h => List.mem_cons_of_mem _ (inX9 w h)) hw 0 rfl rfl 0 (by decide) (List.mem_cons_of_mem _ tb_1157) (v := .ref (h 1)) rfl dX9_breachesAhead_2 ?_
  refine lv_iconst (v := 0) hx hb dX9_breachesAhead_5 (by decide) ?_
  refine lv_aload_n hx hb dX9_breachesAhead_6 rfl (lv_at hl 0 rfl) ?_
  refine q_get (C := RX9) (T := TX9) (N := 17) (ci := 9) E (fun w h => List.mem_cons_of_mem _ (inX9 w h)) hw 0 rfl rfl 1 (by decide) (List.mem_cons_of_mem _ tb_1158) (v := .ref (h 2)) rfl dX9_breachesAhead_7 ?_
  refine lv_iconst (v := 0) hx hb dX9_breachesAhead_10 (by decide) ?_
  obtain ⟨p1, h2, hM⟩ := b_some hM
  refine q_cvv (As := [.ref (h 1), .int 0, .ref (h 2), .int 0]) (rest := []) E hw hl (c_X9_copyState_state_backup l D cA tS A h F N 0 0 σ wd p1 h2) 4 (bwV bw_c tb_1557 tb_1559 tb_86 tb_112 tb_1560) rfl (by decide +kernel) ⟨Nat.le_of_ble_eq_true rfl, Nat.le_of_ble_eq_true rfl⟩ 0 9 (T := TX9) (N := 17) rfl rfl rfl rfl (Nat.le_of_ble_eq_true rfl) ⟨Nat.zero_le _, Nat.zero_le _⟩ dX9_breachesAhead_11 (fun H locs hw => ?_)
  refine lv_aload_n hx hb dX9_breachesAhead_14 rfl (lv_at hl 0 rfl) ?_
  obtain ⟨p3, h4, hM⟩ := b_some hM
  refine q_cv (As := []) (rest := []) E hw hl (c_X9_allBreaches l D cA tS A h F N p1 wd p3 h4) 0 (bwV bw_c tb_1565 tb_1567 tb_87 tb_112 tb_1568) rfl (by decide +kernel) ⟨Nat.le_of_ble_eq_true rfl, Nat.le_of_ble_eq_true rfl⟩ 0 9 (T := TX9) (N := 17) rfl rfl rfl rfl (Nat.le_of_ble_eq_true rfl) ⟨Nat.zero_le _, Nat.zero_le _⟩ dX9_breachesAhead_15 (fun H locs hw => ?_)
  refine lv_istore_n (lv' := [(1, .int p3), (0, .ref (h 0))]) hx hb dX9_breachesAhead_18 rfl hl (by decide) rfl (fun ls hl => ?_)
  refine lv_iconst (v := 0) hx hb dX9_breachesAhead_19 (by decide) ?_
  refine lv_istore_n (lv' := [(2, .int 0), (1, .int p3), (0, .ref (h 0))]) hx hb dX9_breachesAhead_20 rfl hl (by decide) rfl (fun ls hl => ?_)
  exact s_X9_breachesAhead_21 l D cA tS A h F N E N _ _ _ _ _ _ hM _ _ hw _ (lv_sub hl [2, 1, 0] rfl)
def f_X9_replay_230 (N : Nat)   : Nat → Int32 → Sg → Int64 → Option (Int32 × Sg)
  | 0, _, _, _ => none
  | n + 1, x3, σ, wd => (if (σ 2 (ix 0)) ≤ (σ 1 (ix 0)) then (f_X9_allBreaches N σ wd).bind (fun p2 => (f_X9_copyState_backup_state N 0 0 σ wd).bind (fun p4 => some (p2, p4))) else (f_X9_passMinute N σ wd).bind (fun p6 => f_X9_replay_230 N n (x3 + p6.1) p6.2 wd))
set_option maxRecDepth 100000 in
set_option maxHeartbeats 4000000 in
theorem s_X9_replay_230 (l : Launch) (D : va_G) (cA : Nat → ClassId) (tS : Nat → Nat) (A : Nat → Prop) (h : Nat → Nat) (F : va_W) (N : Nat) {p : Program} {e : Env} {s : State} {m : MethodId} {args : Array Value} {below : List Frame} {meth : Method} {c : Code} (E : Ev p cX9_replay 7 (some .int) RX9 (Cond.code yX9_replay cX9_replay 7 (some .int) :: bw) D cA tS A s m args meth c) : ∀ (n : Nat) (x3 : Int32) (σ : Sg) (wd : Int64) (r0 : Int32) (s0 : Sg) (hM : f_X9_replay_230 N n x3 σ wd = some (r0, s0)) (H : Heap) (locs : List Loc) (hw : Wd D A (wM cA h σ wd ++ F) s.heap H locs) (ls : Array Slot) (hl : lv_has ls 7 [(0, .ref (h 0)), (3, .int x3)]), W p l e ({ frames := 6, cells := 0, slots := 0, locals := 139 } : Room) s m args below meth c H locs 0 0 (MQ below (QW D A (some (.int r0)) (wM cA h s0 wd ++ F)) args s 0 0 A) (F0 m 230 ls []) := by
  have hx := E.1.1
  have hb := E.1.2.1
  intro n
  induction n with
  | zero =>
    intro x3 σ wd r0 s0 hM
    cases hM
  | succ n ih =>
    intro x3 σ wd r0 s0 hM H locs hw ls hl
    rw [f_X9_replay_230] at hM
    refine lv_aload_n hx hb dX9_replay_230 rfl (lv_at hl 0 rfl) ?_
    refine q_get (C := RX9) (T := TX9) (N := 17) (ci := 9) E (fun w h => List.mem_cons_of_mem _ (inX9 w h)) hw 0 rfl rfl 0 (by decide) (List.mem_cons_of_mem _ tb_1157) (v := .ref (h 1)) rfl dX9_replay_231 ?_
    refine lv_iconst (v := 0) hx hb dX9_replay_234 (by decide) ?_
    refine q_ald E hw 1 (n := 4619) rfl (by decide +kernel) (x := (σ 1 (ix 0))) rfl dX9_replay_235 ?_
    refine lv_aload_n hx hb dX9_replay_236 rfl (lv_at hl 0 rfl) ?_
    refine q_get (C := RX9) (T := TX9) (N := 17) (ci := 9) E (fun w h => List.mem_cons_of_mem _ (inX9 w h)) hw 0 rfl rfl 1 (by decide) (List.mem_cons_of_mem _ tb_1158) (v := .ref (h 2)) rfl dX9_replay_237 ?_
    refine lv_iconst (v := 0) hx hb dX9_replay_240 (by decide) ?_
    refine q_ald E hw 2 (n := 4619) rfl (by decide +kernel) (x := (σ 2 (ix 0))) rfl dX9_replay_241 ?_
    refine lv_icmp_ge (tgt := 255) hx hb dX9_replay_242 (by decide) (fun c1 => ?_) (fun c1 => ?_)
    · replace hM := i_pos hM c1
      refine lv_aload_n hx hb dX9_replay_255 rfl (lv_at hl 0 rfl) ?_
      obtain ⟨p2, h3, hM⟩ := b_some hM
      refine q_cv (As := []) (rest := []) E hw hl (c_X9_allBreaches l D cA tS A h F N σ wd p2 h3) 0 (bwV bw_c tb_1565 tb_1567 tb_87 tb_112 tb_1568) rfl (by decide +kernel) ⟨Nat.le_of_ble_eq_true rfl, Nat.le_of_ble_eq_true rfl⟩ 0 9 (T := TX9) (N := 17) rfl rfl rfl rfl (Nat.le_of_ble_eq_true rfl) ⟨Nat.zero_le _, Nat.zero_le _⟩ dX9_replay_256 (fun H locs hw => ?_)
      refine lv_istore (lv' := [(4, .int p2), (0, .ref (h 0)), (3, .int x3)]) hx hb dX9_replay_259 hl (by decide) rfl (fun ls hl => ?_)
      refine lv_aload_n hx hb dX9_replay_261 rfl (lv_at hl 1 rfl) ?_
      refine lv_aload_n hx hb dX9_replay_262 rfl (lv_at hl 1 rfl) ?_
      refine q_get (C := RX9) (T := TX9) (N := 17) (ci := 9) E (fun w h => List.mem_cons_of_mem _ (inX9 w h)) hw 0 rfl rfl 1 (by decide) (List.mem_cons_of_mem _ tb_1158) (v := .ref (h 2)) rfl dX9_replay_263 ?_
      refine lv_iconst (v := 0) hx hb dX9_replay_266 (by decide) ?_
      refine lv_aload_n hx hb dX9_replay_267 rfl (lv_at hl 1 rfl) ?_
      refine q_get (C := RX9) (T := TX9) (N := 17) (ci := 9) E (fun w h => List.mem_cons_of_mem _ (inX9 w h)) hw 0 rfl rfl 0 (by decide) (List.mem_cons_of_mem _ tb_1157) (v := .ref (h 1)) rfl dX9_replay_268 ?_
      refine lv_iconst (v := 0) hx hb dX9_replay_271 (by decide) ?_
      obtain ⟨p4, h5, hM⟩ := b_some hM
      refine q_cvv (As := [.ref (h 2), .int 0, .ref (h 1), .int 0]) (rest := []) E hw hl (c_X9_copyState_backup_state l D cA tS A h F N 0 0 σ wd p4 h5) 4 (bwV bw_c tb_1557 tb_1559 tb_86 tb_112 tb_1560) rfl (by decide +kernel) ⟨Nat.le_of_ble_eq_true rfl, Nat.le_of_ble_eq_true rfl⟩ 0 9 (T := TX9) (N := 17) rfl rfl rfl rfl (Nat.le_of_ble_eq_true rfl) ⟨Nat.zero_le _, Nat.zero_le _⟩ dX9_replay_272 (fun H locs hw => ?_)
      refine lv_iload hx hb dX9_replay_275 (lv_at hl 0 rfl) ?_
      cases hM
      exact q_reti E hw dX9_replay_277
    · replace hM := i_neg hM c1
      refine lv_iload_n hx hb dX9_replay_245 rfl (lv_at hl 1 rfl) ?_
      refine lv_aload_n hx hb dX9_replay_246 rfl (lv_at hl 0 rfl) ?_
      obtain ⟨p6, h7, hM⟩ := b_some hM
      refine q_cv (As := []) (rest := [.int x3]) E hw hl (c_X9_passMinute l D cA tS A h F N σ wd p6.1 p6.2 h7) 0 (bwV bw_c tb_1399 tb_1401 tb_70 tb_112 tb_1402) rfl (by decide +kernel) ⟨Nat.le_of_ble_eq_true rfl, Nat.le_of_ble_eq_true rfl⟩ 0 9 (T := TX9) (N := 17) rfl rfl rfl rfl (Nat.le_of_ble_eq_true rfl) ⟨Nat.zero_le _, Nat.zero_le _⟩ dX9_replay_247 (fun H locs hw => ?_)
      refine lv_iadd hx hb dX9_replay_250 ?_
      refine lv_istore_n (lv' := [(3, .int (x3 + p6.1)), (0, .ref (h 0))]) hx hb dX9_replay_251 rfl hl (by decide) rfl (fun ls hl => ?_)
      refine lv_goto (tgt := 230) hx hb dX9_replay_252 (by decide) ?_
      exact ih _ _ _ _ _ hM _ _ hw _ (lv_sub hl [1, 0] rfl)
def f_X9_replay_112 (N : Nat)  (k33 : Int32 → Int32 → Int32 → Sg → Int64 → Option (Int32 × Sg)) (x1 : Int32) (x3 : Int32) (x4 : Int32) (x5 : Int32) (σ : Sg) (wd : Int64) : Option (Int32 × Sg) := if ib (x5 + 1) 4619 then if ib (x5 + 2) 4619 then if ib (x5 + 3) 4619 then if ib (x5 + 4) 4619 then if ib (x5 + 5) 4619 then (f_X9_errorOf (σ 1 (ix (x5 + 1))) (σ 1 (ix (x5 + 2))) (σ 1 (ix (x5 + 3))) (σ 1 (ix (x5 + 4))) (σ 1 (ix (x5 + 5))) σ wd).bind (fun p7 => (if p7 = 0 then (f_X9_make N (σ 1 (ix (x5 + 1))) (σ 1 (ix (x5 + 2))) (σ 1 (ix (x5 + 3))) (σ 1 (ix (x5 + 4))) (σ 1 (ix (x5 + 5))) σ wd).bind (fun p10 => k33 x1 (x3 + p10.1) (x4 + 1) p10.2 wd) else k33 x1 x3 (x4 + 1) σ wd)) else none else none else none else none else none
set_option maxRecDepth 100000 in
set_option maxHeartbeats 4000000 in
theorem s_X9_replay_112 (l : Launch) (D : va_G) (cA : Nat → ClassId) (tS : Nat → Nat) (A : Nat → Prop) (h : Nat → Nat) (F : va_W) (N : Nat) (k33 : Int32 → Int32 → Int32 → Sg → Int64 → Option (Int32 × Sg)) {p : Program} {e : Env} {s : State} {m : MethodId} {args : Array Value} {below : List Frame} {meth : Method} {c : Code} (E : Ev p cX9_replay 7 (some .int) RX9 (Cond.code yX9_replay cX9_replay 7 (some .int) :: bw) D cA tS A s m args meth c) (hk33 : ∀ (x1 : Int32) (x3 : Int32) (x4 : Int32) (σ : Sg) (wd : Int64) (r0 : Int32) (s0 : Sg) (hM : k33 x1 x3 x4 σ wd = some (r0, s0)) (H : Heap) (locs : List Loc) (hw : Wd D A (wM cA h σ wd ++ F) s.heap H locs) (ls : Array Slot) (hl : lv_has ls 7 [(0, .ref (h 0)), (1, .int x1), (3, .int x3), (4, .int x4)]), W p l e ({ frames := 6, cells := 0, slots := 0, locals := 139 } : Room) s m args below meth c H locs 0 0 (MQ below (QW D A (some (.int r0)) (wM cA h s0 wd ++ F)) args s 0 0 A) (F0 m 33 ls [])) : ∀ (x1 : Int32) (x3 : Int32) (x4 : Int32) (x5 : Int32) (σ : Sg) (wd : Int64) (r0 : Int32) (s0 : Sg) (hM : f_X9_replay_112 N k33 x1 x3 x4 x5 σ wd = some (r0, s0)) (H : Heap) (locs : List Loc) (hw : Wd D A (wM cA h σ wd ++ F) s.heap H locs) (ls : Array Slot) (hl : lv_has ls 7 [(0, .ref (h 0)), (1, .int x1), (3, .int x3), (4, .int x4), (5, .int x5)]), W p l e ({ frames := 6, cells := 0, slots := 0, locals := 139 } : Room) s m args below meth c H locs 0 0 (MQ below (QW D A (some (.int r0)) (wM cA h s0 wd ++ F)) args s 0 0 A) (F0 m 112 ls []) := by
  have hx := E.1.1
  have hb := E.1.2.1
  intro x1 x3 x4 x5 σ wd r0 s0 hM H locs hw ls hl
  unfold f_X9_replay_112 at hM
  refine lv_iconst (v := 0) hx hb dX9_replay_112 (by decide) ?_
  refine lv_istore (lv' := [(6, .int 0), (0, .ref (h 0)), (1, .int x1), (3, .int x3), (4, .int x4), (5, .int x5)]) hx hb dX9_replay_113 hl (by decide) rfl (fun ls hl => ?_)
  refine lv_iload hx hb dX9_replay_115 (lv_at hl 0 rfl) ?_
  refine lv_if_ne (tgt := 224) hx hb dX9_replay_117 (by decide) (fun c1 => ?_) (fun c1 => ?_)
  · first | exact absurd (by decide) c1 | exact absurd c1 (by decide)
  · refine lv_aload_n hx hb dX9_replay_120 rfl (lv_at hl 1 rfl) ?_
    refine lv_aload_n hx hb dX9_replay_121 rfl (lv_at hl 1 rfl) ?_
    refine q_get (C := RX9) (T := TX9) (N := 17) (ci := 9) E (fun w h => List.mem_cons_of_mem _ (inX9 w h)) hw 0 rfl rfl 0 (by decide) (List.mem_cons_of_mem _ tb_1157) (v := .ref (h 1)) rfl dX9_replay_122 ?_
    refine lv_iload hx hb dX9_replay_125 (lv_at hl 5 rfl) ?_
    refine lv_iconst (v := 1) hx hb dX9_replay_127 (by decide) ?_
    refine lv_iadd hx hb dX9_replay_128 ?_
    obtain ⟨g2, hM⟩ := g_some hM
    refine q_ald E hw 1 (n := 4619) rfl g2 (x := (σ 1 (ix (x5 + 1)))) rfl dX9_replay_129 ?_
    refine lv_aload_n hx hb dX9_replay_130 rfl (lv_at hl 1 rfl) ?_
    refine q_get (C := RX9) (T := TX9) (N := 17) (ci := 9) E (fun w h => List.mem_cons_of_mem _ (inX9 w h)) hw 0 rfl rfl 0 (by decide) (List.mem_cons_of_mem _ tb_1157) (v := .ref (h 1)) rfl dX9_replay_131 ?_
    refine lv_iload hx hb dX9_replay_134 (lv_at hl 5 rfl) ?_
    refine lv_iconst (v := 2) hx hb dX9_replay_136 (by decide) ?_
    refine lv_iadd hx hb dX9_replay_137 ?_
    obtain ⟨g3, hM⟩ := g_some hM
    refine q_ald E hw 1 (n := 4619) rfl g3 (x := (σ 1 (ix (x5 + 2)))) rfl dX9_replay_138 ?_
    refine lv_aload_n hx hb dX9_replay_139 rfl (lv_at hl 1 rfl) ?_
    refine q_get (C := RX9) (T := TX9) (N := 17) (ci := 9) E (fun w h => List.mem_cons_of_mem _ (inX9 w h)) hw 0 rfl rfl 0 (by decide) (List.mem_cons_of_mem _ tb_1157) (v := .ref (h 1)) rfl dX9_replay_140 ?_
    refine lv_iload hx hb dX9_replay_143 (lv_at hl 5 rfl) ?_
    refine lv_iconst (v := 3) hx hb dX9_replay_145 (by decide) ?_
    refine lv_iadd hx hb dX9_replay_146 ?_
    obtain ⟨g4, hM⟩ := g_some hM
    refine q_ald E hw 1 (n := 4619) rfl g4 (x := (σ 1 (ix (x5 + 3)))) rfl dX9_replay_147 ?_
    refine lv_aload_n hx hb dX9_replay_148 rfl (lv_at hl 1 rfl) ?_
    refine q_get (C := RX9) (T := TX9) (N := 17) (ci := 9) E (fun w h => List.mem_cons_of_mem _ (inX9 w h)) hw 0 rfl rfl 0 (by decide) (List.mem_cons_of_mem _ tb_1157) (v := .ref (h 1)) rfl dX9_replay_149 ?_
    refine lv_iload hx hb dX9_replay_152 (lv_at hl 5 rfl) ?_
    refine lv_iconst (v := 4) hx hb dX9_replay_154 (by decide) ?_
    refine lv_iadd hx hb dX9_replay_155 ?_
    obtain ⟨g5, hM⟩ := g_some hM
    refine q_ald E hw 1 (n := 4619) rfl g5 (x := (σ 1 (ix (x5 + 4)))) rfl dX9_replay_156 ?_
    refine lv_aload_n hx hb dX9_replay_157 rfl (lv_at hl 1 rfl) ?_
    refine q_get (C := RX9) (T := TX9) (N := 17) (ci := 9) E (fun w h => List.mem_cons_of_mem _ (inX9 w h)) hw 0 rfl rfl 0 (by decide) (List.mem_cons_of_mem _ tb_1157) (v := .ref (h 1)) rfl dX9_replay_158 ?_
    refine lv_iload hx hb dX9_replay_161 (lv_at hl 5 rfl) ?_
    refine lv_iconst (v := 5) hx hb dX9_replay_163 (by decide) ?_
    refine lv_iadd hx hb dX9_replay_164 ?_
    obtain ⟨g6, hM⟩ := g_some hM
    refine q_ald E hw 1 (n := 4619) rfl g6 (x := (σ 1 (ix (x5 + 5)))) rfl dX9_replay_165 ?_
    obtain ⟨p7, h8, hM⟩ := b_some hM
    refine q_cv (As := [.int (σ 1 (ix (x5 + 1))), .int (σ 1 (ix (x5 + 2))), .int (σ 1 (ix (x5 + 3))), .int (σ 1 (ix (x5 + 4))), .int (σ 1 (ix (x5 + 5)))]) (rest := []) E hw hl (c_X9_errorOf l D cA tS A h F (σ 1 (ix (x5 + 1))) (σ 1 (ix (x5 + 2))) (σ 1 (ix (x5 + 3))) (σ 1 (ix (x5 + 4))) (σ 1 (ix (x5 + 5))) σ wd p7 h8) 5 (bwV bw_c tb_1217 tb_1219 tb_46 tb_112 tb_1220) rfl (by decide +kernel) ⟨Nat.le_of_ble_eq_true rfl, Nat.le_of_ble_eq_true rfl⟩ 0 9 (T := TX9) (N := 17) rfl rfl rfl rfl (Nat.le_of_ble_eq_true rfl) ⟨Nat.zero_le _, Nat.zero_le _⟩ dX9_replay_166 (fun H locs hw => ?_)
    refine lv_if_ne (tgt := 224) hx hb dX9_replay_169 (by decide) (fun c9 => ?_) (fun c9 => ?_)
    · replace hM := i_neg hM c9
      refine lv_iinc (v := (x4 + 1)) (lv' := [(4, .int (x4 + 1)), (6, .int 0), (0, .ref (h 0)), (1, .int x1), (3, .int x3), (5, .int x5)]) hx hb dX9_replay_224 hl (k := 4) rfl rfl (by decide) rfl (fun ls hl => ?_)
      refine lv_goto (tgt := 33) hx hb dX9_replay_227 (by decide) ?_
      exact hk33 _ _ _ _ _ _ _ hM _ _ hw _ (lv_sub hl [2, 3, 4, 0] rfl)
    · replace hM := i_pos hM c9
      refine lv_iload_n hx hb dX9_replay_172 rfl (lv_at hl 3 rfl) ?_
      refine lv_aload_n hx hb dX9_replay_173 rfl (lv_at hl 1 rfl) ?_
      refine lv_aload_n hx hb dX9_replay_174 rfl (lv_at hl 1 rfl) ?_
      refine q_get (C := RX9) (T := TX9) (N := 17) (ci := 9) E (fun w h => List.mem_cons_of_mem _ (inX9 w h)) hw 0 rfl rfl 0 (by decide) (List.mem_cons_of_mem _ tb_1157) (v := .ref (h 1)) rfl dX9_replay_175 ?_
      refine lv_iload hx hb dX9_replay_178 (lv_at hl 5 rfl) ?_
      refine lv_iconst (v := 1) hx hb dX9_replay_180 (by decide) ?_
      refine lv_iadd hx hb dX9_replay_181 ?_
      refine q_ald E hw 1 (n := 4619) rfl g2 (x := (σ 1 (ix (x5 + 1)))) rfl dX9_replay_182 ?_
      refine lv_aload_n hx hb dX9_replay_183 rfl (lv_at hl 1 rfl) ?_
      refine q_get (C := RX9) (T := TX9) (N := 17) (ci := 9) E (fun w h => List.mem_cons_of_mem _ (inX9 w h)) hw 0 rfl rfl 0 (by decide) (List.mem_cons_of_mem _ tb_1157) (v := .ref (h 1)) rfl dX9_replay_184 ?_
      refine lv_iload hx hb dX9_replay_187 (lv_at hl 5 rfl) ?_
      refine lv_iconst (v := 2) hx hb dX9_replay_189 (by decide) ?_
      refine lv_iadd hx hb dX9_replay_190 ?_
      refine q_ald E hw 1 (n := 4619) rfl g3 (x := (σ 1 (ix (x5 + 2)))) rfl dX9_replay_191 ?_
      refine lv_aload_n hx hb dX9_replay_192 rfl (lv_at hl 1 rfl) ?_
      refine q_get (C := RX9) (T := TX9) (N := 17) (ci := 9) E (fun w h => List.mem_cons_of_mem _ (inX9 w h)) hw 0 rfl rfl 0 (by decide) (List.mem_cons_of_mem _ tb_1157) (v := .ref (h 1)) rfl dX9_replay_193 ?_
      refine lv_iload hx hb dX9_replay_196 (lv_at hl 5 rfl) ?_
      refine lv_iconst (v := 3) hx hb dX9_replay_198 (by decide) ?_
      refine lv_iadd hx hb dX9_replay_199 ?_
      refine q_ald E hw 1 (n := 4619) rfl g4 (x := (σ 1 (ix (x5 + 3)))) rfl dX9_replay_200 ?_
      refine lv_aload_n hx hb dX9_replay_201 rfl (lv_at hl 1 rfl) ?_
      refine q_get (C := RX9) (T := TX9) (N := 17) (ci := 9) E (fun w h => List.mem_cons_of_mem _ (inX9 w h)) hw 0 rfl rfl 0 (by decide) (List.mem_cons_of_mem _ tb_1157) (v := .ref (h 1)) rfl dX9_replay_202 ?_
      refine lv_iload hx hb dX9_replay_205 (lv_at hl 5 rfl) ?_
      refine lv_iconst (v := 4) hx hb dX9_replay_207 (by decide) ?_
      refine lv_iadd hx hb dX9_replay_208 ?_
      refine q_ald E hw 1 (n := 4619) rfl g5 (x := (σ 1 (ix (x5 + 4)))) rfl dX9_replay_209 ?_
      refine lv_aload_n hx hb dX9_replay_210 rfl (lv_at hl 1 rfl) ?_
      refine q_get (C := RX9) (T := TX9) (N := 17) (ci := 9) E (fun w h => List.mem_cons_of_mem _ (inX9 w h)) hw 0 rfl rfl 0 (by decide) (List.mem_cons_of_mem _ tb_1157) (v := .ref (h 1)) rfl dX9_replay_211 ?_
      refine lv_iload hx hb dX9_replay_214 (lv_at hl 5 rfl) ?_
      refine lv_iconst (v := 5) hx hb dX9_replay_216 (by decide) ?_
      refine lv_iadd hx hb dX9_replay_217 ?_
      refine q_ald E hw 1 (n := 4619) rfl g6 (x := (σ 1 (ix (x5 + 5)))) rfl dX9_replay_218 ?_
      obtain ⟨p10, h11, hM⟩ := b_some hM
      refine q_cv (As := [.int (σ 1 (ix (x5 + 1))), .int (σ 1 (ix (x5 + 2))), .int (σ 1 (ix (x5 + 3))), .int (σ 1 (ix (x5 + 4))), .int (σ 1 (ix (x5 + 5)))]) (rest := [.int x3]) E hw hl (c_X9_make l D cA tS A h F N (σ 1 (ix (x5 + 1))) (σ 1 (ix (x5 + 2))) (σ 1 (ix (x5 + 3))) (σ 1 (ix (x5 + 4))) (σ 1 (ix (x5 + 5))) σ wd p10.1 p10.2 h11) 5 (bwV bw_c tb_1269 tb_1271 tb_56 tb_112 tb_1272) rfl (by decide +kernel) ⟨Nat.le_of_ble_eq_true rfl, Nat.le_of_ble_eq_true rfl⟩ 0 9 (T := TX9) (N := 17) rfl rfl rfl rfl (Nat.le_of_ble_eq_true rfl) ⟨Nat.zero_le _, Nat.zero_le _⟩ dX9_replay_219 (fun H locs hw => ?_)
      refine lv_iadd hx hb dX9_replay_222 ?_
      refine lv_istore_n (lv' := [(3, .int (x3 + p10.1)), (6, .int 0), (0, .ref (h 0)), (1, .int x1), (4, .int x4), (5, .int x5)]) hx hb dX9_replay_223 rfl hl (by decide) rfl (fun ls hl => ?_)
      refine lv_iinc (v := (x4 + 1)) (lv' := [(4, .int (x4 + 1)), (3, .int (x3 + p10.1)), (6, .int 0), (0, .ref (h 0)), (1, .int x1), (5, .int x5)]) hx hb dX9_replay_224 hl (k := 4) rfl rfl (by decide) rfl (fun ls hl => ?_)
      refine lv_goto (tgt := 33) hx hb dX9_replay_227 (by decide) ?_
      exact hk33 _ _ _ _ _ _ _ hM _ _ hw _ (lv_sub hl [3, 4, 1, 0] rfl)
def f_X9_replay_56 (N : Nat)  (k33 : Int32 → Int32 → Int32 → Sg → Int64 → Option (Int32 × Sg)) : Nat → Int32 → Int32 → Int32 → Int32 → Sg → Int64 → Option (Int32 × Sg)
  | 0, _, _, _, _, _, _ => none
  | n + 1, x1, x3, x4, x5, σ, wd => if ib x5 4619 then (if (σ 1 (ix x5)) ≤ (σ 1 (ix 0)) then if ib (x5 + 1) 4619 then (if (σ 1 (ix (x5 + 1))) = 1 then if ib (x5 + 2) 4619 then (if (σ 1 (ix (x5 + 2))) = x1 then k33 x1 x3 (x4 + 1) σ wd else f_X9_replay_112 N k33 x1 x3 x4 x5 σ wd) else none else f_X9_replay_112 N k33 x1 x3 x4 x5 σ wd) else none else (f_X9_passMinute N σ wd).bind (fun p8 => f_X9_replay_56 N k33 n x1 (x3 + p8.1) x4 x5 p8.2 wd)) else none
set_option maxRecDepth 100000 in
set_option maxHeartbeats 4000000 in
theorem s_X9_replay_56 (l : Launch) (D : va_G) (cA : Nat → ClassId) (tS : Nat → Nat) (A : Nat → Prop) (h : Nat → Nat) (F : va_W) (N : Nat) (k33 : Int32 → Int32 → Int32 → Sg → Int64 → Option (Int32 × Sg)) {p : Program} {e : Env} {s : State} {m : MethodId} {args : Array Value} {below : List Frame} {meth : Method} {c : Code} (E : Ev p cX9_replay 7 (some .int) RX9 (Cond.code yX9_replay cX9_replay 7 (some .int) :: bw) D cA tS A s m args meth c) (hk33 : ∀ (x1 : Int32) (x3 : Int32) (x4 : Int32) (σ : Sg) (wd : Int64) (r0 : Int32) (s0 : Sg) (hM : k33 x1 x3 x4 σ wd = some (r0, s0)) (H : Heap) (locs : List Loc) (hw : Wd D A (wM cA h σ wd ++ F) s.heap H locs) (ls : Array Slot) (hl : lv_has ls 7 [(0, .ref (h 0)), (1, .int x1), (3, .int x3), (4, .int x4)]), W p l e ({ frames := 6, cells := 0, slots := 0, locals := 139 } : Room) s m args below meth c H locs 0 0 (MQ below (QW D A (some (.int r0)) (wM cA h s0 wd ++ F)) args s 0 0 A) (F0 m 33 ls [])) : ∀ (n : Nat) (x1 : Int32) (x3 : Int32) (x4 : Int32) (x5 : Int32) (σ : Sg) (wd : Int64) (r0 : Int32) (s0 : Sg) (hM : f_X9_replay_56 N k33 n x1 x3 x4 x5 σ wd = some (r0, s0)) (H : Heap) (locs : List Loc) (hw : Wd D A (wM cA h σ wd ++ F) s.heap H locs) (ls : Array Slot) (hl : lv_has ls 7 [(0, .ref (h 0)), (1, .int x1), (3, .int x3), (4, .int x4), (5, .int x5)]), W p l e ({ frames := 6, cells := 0, slots := 0, locals := 139 } : Room) s m args below meth c H locs 0 0 (MQ below (QW D A (some (.int r0)) (wM cA h s0 wd ++ F)) args s 0 0 A) (F0 m 56 ls []) := by
  have hx := E.1.1
  have hb := E.1.2.1
  intro n
  induction n with
  | zero =>
    intro x1 x3 x4 x5 σ wd r0 s0 hM
    cases hM
  | succ n ih =>
    intro x1 x3 x4 x5 σ wd r0 s0 hM H locs hw ls hl
    rw [f_X9_replay_56] at hM
    refine lv_aload_n hx hb dX9_replay_56 rfl (lv_at hl 0 rfl) ?_
    refine q_get (C := RX9) (T := TX9) (N := 17) (ci := 9) E (fun w h => List.mem_cons_of_mem _ (inX9 w h)) hw 0 rfl rfl 0 (by decide) (List.mem_cons_of_mem _ tb_1157) (v := .ref (h 1)) rfl dX9_replay_57 ?_
    refine lv_iconst (v := 0) hx hb dX9_replay_60 (by decide) ?_
    refine q_ald E hw 1 (n := 4619) rfl (by decide +kernel) (x := (σ 1 (ix 0))) rfl dX9_replay_61 ?_
    refine lv_aload_n hx hb dX9_replay_62 rfl (lv_at hl 0 rfl) ?_
    refine q_get (C := RX9) (T := TX9) (N := 17) (ci := 9) E (fun w h => List.mem_cons_of_mem _ (inX9 w h)) hw 0 rfl rfl 0 (by decide) (List.mem_cons_of_mem _ tb_1157) (v := .ref (h 1)) rfl dX9_replay_63 ?_
    refine lv_iload hx hb dX9_replay_66 (lv_at hl 4 rfl) ?_
    obtain ⟨g1, hM⟩ := g_some hM
    refine q_ald E hw 1 (n := 4619) rfl g1 (x := (σ 1 (ix x5))) rfl dX9_replay_68 ?_
    refine lv_icmp_ge (tgt := 82) hx hb dX9_replay_69 (by decide) (fun c2 => ?_) (fun c2 => ?_)
    · replace hM := i_pos hM c2
      refine lv_aload_n hx hb dX9_replay_82 rfl (lv_at hl 0 rfl) ?_
      refine q_get (C := RX9) (T := TX9) (N := 17) (ci := 9) E (fun w h => List.mem_cons_of_mem _ (inX9 w h)) hw 0 rfl rfl 0 (by decide) (List.mem_cons_of_mem _ tb_1157) (v := .ref (h 1)) rfl dX9_replay_83 ?_
      refine lv_iload hx hb dX9_replay_86 (lv_at hl 4 rfl) ?_
      refine lv_iconst (v := 1) hx hb dX9_replay_88 (by decide) ?_
      refine lv_iadd hx hb dX9_replay_89 ?_
      obtain ⟨g3, hM⟩ := g_some hM
      refine q_ald E hw 1 (n := 4619) rfl g3 (x := (σ 1 (ix (x5 + 1)))) rfl dX9_replay_90 ?_
      refine lv_iconst (v := 1) hx hb dX9_replay_91 (by decide) ?_
      refine lv_icmp_ne (tgt := 112) hx hb dX9_replay_92 (by decide) (fun c4 => ?_) (fun c4 => ?_)
      · replace hM := i_neg hM c4
        exact s_X9_replay_112 l D cA tS A h F N k33 E hk33 _ _ _ _ _ _ _ _ hM _ _ hw _ (lv_sub hl [0, 1, 2, 3, 4] rfl)
      · replace hM := i_pos hM c4
        refine lv_aload_n hx hb dX9_replay_95 rfl (lv_at hl 0 rfl) ?_
        refine q_get (C := RX9) (T := TX9) (N := 17) (ci := 9) E (fun w h => List.mem_cons_of_mem _ (inX9 w h)) hw 0 rfl rfl 0 (by decide) (List.mem_cons_of_mem _ tb_1157) (v := .ref (h 1)) rfl dX9_replay_96 ?_
        refine lv_iload hx hb dX9_replay_99 (lv_at hl 4 rfl) ?_
        refine lv_iconst (v := 2) hx hb dX9_replay_101 (by decide) ?_
        refine lv_iadd hx hb dX9_replay_102 ?_
        obtain ⟨g5, hM⟩ := g_some hM
        refine q_ald E hw 1 (n := 4619) rfl g5 (x := (σ 1 (ix (x5 + 2)))) rfl dX9_replay_103 ?_
        refine lv_iload_n hx hb dX9_replay_104 rfl (lv_at hl 1 rfl) ?_
        refine lv_icmp_ne (tgt := 112) hx hb dX9_replay_105 (by decide) (fun c6 => ?_) (fun c6 => ?_)
        · replace hM := i_neg hM c6
          exact s_X9_replay_112 l D cA tS A h F N k33 E hk33 _ _ _ _ _ _ _ _ hM _ _ hw _ (lv_sub hl [0, 1, 2, 3, 4] rfl)
        · replace hM := i_pos hM c6
          refine lv_iconst (v := 1) hx hb dX9_replay_108 (by decide) ?_
          refine lv_goto (tgt := 113) hx hb dX9_replay_109 (by decide) ?_
          refine lv_istore (lv' := [(6, .int 1), (0, .ref (h 0)), (1, .int x1), (3, .int x3), (4, .int x4), (5, .int x5)]) hx hb dX9_replay_113 hl (by decide) rfl (fun ls hl => ?_)
          refine lv_iload hx hb dX9_replay_115 (lv_at hl 0 rfl) ?_
          refine lv_if_ne (tgt := 224) hx hb dX9_replay_117 (by decide) (fun c7 => ?_) (fun c7 => ?_)
          · refine lv_iinc (v := (x4 + 1)) (lv' := [(4, .int (x4 + 1)), (6, .int 1), (0, .ref (h 0)), (1, .int x1), (3, .int x3), (5, .int x5)]) hx hb dX9_replay_224 hl (k := 4) rfl rfl (by decide) rfl (fun ls hl => ?_)
            refine lv_goto (tgt := 33) hx hb dX9_replay_227 (by decide) ?_
            exact hk33 _ _ _ _ _ _ _ hM _ _ hw _ (lv_sub hl [2, 3, 4, 0] rfl)
          · first | exact absurd (by decide) c7 | exact absurd c7 (by decide)
    · replace hM := i_neg hM c2
      refine lv_iload_n hx hb dX9_replay_72 rfl (lv_at hl 2 rfl) ?_
      refine lv_aload_n hx hb dX9_replay_73 rfl (lv_at hl 0 rfl) ?_
      obtain ⟨p8, h9, hM⟩ := b_some hM
      refine q_cv (As := []) (rest := [.int x3]) E hw hl (c_X9_passMinute l D cA tS A h F N σ wd p8.1 p8.2 h9) 0 (bwV bw_c tb_1399 tb_1401 tb_70 tb_112 tb_1402) rfl (by decide +kernel) ⟨Nat.le_of_ble_eq_true rfl, Nat.le_of_ble_eq_true rfl⟩ 0 9 (T := TX9) (N := 17) rfl rfl rfl rfl (Nat.le_of_ble_eq_true rfl) ⟨Nat.zero_le _, Nat.zero_le _⟩ dX9_replay_74 (fun H locs hw => ?_)
      refine lv_iadd hx hb dX9_replay_77 ?_
      refine lv_istore_n (lv' := [(3, .int (x3 + p8.1)), (0, .ref (h 0)), (1, .int x1), (4, .int x4), (5, .int x5)]) hx hb dX9_replay_78 rfl hl (by decide) rfl (fun ls hl => ?_)
      refine lv_goto (tgt := 56) hx hb dX9_replay_79 (by decide) ?_
      exact ih _ _ _ _ _ _ _ _ hM _ _ hw _ (lv_sub hl [1, 2, 0, 3, 4] rfl)
def f_X9_replay_33 (N : Nat)   : Nat → Int32 → Int32 → Int32 → Sg → Int64 → Option (Int32 × Sg)
  | 0, _, _, _, _, _ => none
  | n + 1, x1, x3, x4, σ, wd => (if (σ 1 (ix 57)) ≤ x4 then f_X9_replay_230 N N x3 σ wd else f_X9_replay_56 N (fun x1 x3 x4 σ wd => f_X9_replay_33 N n x1 x3 x4 σ wd) N x1 x3 x4 (1019 + (6 * x4)) σ wd)
set_option maxRecDepth 100000 in
set_option maxHeartbeats 4000000 in
theorem s_X9_replay_33 (l : Launch) (D : va_G) (cA : Nat → ClassId) (tS : Nat → Nat) (A : Nat → Prop) (h : Nat → Nat) (F : va_W) (N : Nat) {p : Program} {e : Env} {s : State} {m : MethodId} {args : Array Value} {below : List Frame} {meth : Method} {c : Code} (E : Ev p cX9_replay 7 (some .int) RX9 (Cond.code yX9_replay cX9_replay 7 (some .int) :: bw) D cA tS A s m args meth c) : ∀ (n : Nat) (x1 : Int32) (x3 : Int32) (x4 : Int32) (σ : Sg) (wd : Int64) (r0 : Int32) (s0 : Sg) (hM : f_X9_replay_33 N n x1 x3 x4 σ wd = some (r0, s0)) (H : Heap) (locs : List Loc) (hw : Wd D A (wM cA h σ wd ++ F) s.heap H locs) (ls : Array Slot) (hl : lv_has ls 7 [(0, .ref (h 0)), (1, .int x1), (3, .int x3), (4, .int x4)]), W p l e ({ frames := 6, cells := 0, slots := 0, locals := 139 } : Room) s m args below meth c H locs 0 0 (MQ below (QW D A (some (.int r0)) (wM cA h s0 wd ++ F)) args s 0 0 A) (F0 m 33 ls []) := by
  have hx := E.1.1
  have hb := E.1.2.1
  intro n
  induction n with
  | zero =>
    intro x1 x3 x4 σ wd r0 s0 hM
    cases hM
  | succ n ih =>
    intro x1 x3 x4 σ wd r0 s0 hM H locs hw ls hl
    rw [f_X9_replay_33] at hM
    refine lv_iload hx hb dX9_replay_33 (lv_at hl 3 rfl) ?_
    refine lv_aload_n hx hb dX9_replay_35 rfl (lv_at hl 0 rfl) ?_
    refine q_get (C := RX9) (T := TX9) (N := 17) (ci := 9) E (fun w h => List.mem_cons_of_mem _ (inX9 w h)) hw 0 rfl rfl 0 (by decide) (List.mem_cons_of_mem _ tb_1157) (v := .ref (h 1)) rfl dX9_replay_36 ?_
    refine lv_bipush (v := 57) hx hb dX9_replay_39 (by decide) ?_
    refine q_ald E hw 1 (n := 4619) rfl (by decide +kernel) (x := (σ 1 (ix 57))) rfl dX9_replay_41 ?_
    refine lv_icmp_ge (tgt := 230) hx hb dX9_replay_42 (by decide) (fun c1 => ?_) (fun c1 => ?_)
    · replace hM := i_pos hM c1
      exact s_X9_replay_230 l D cA tS A h F N E N _ _ _ _ _ hM _ _ hw _ (lv_sub hl [0, 2] rfl)
    · replace hM := i_neg hM c1
      refine lv_sipush (v := 1019) hx hb dX9_replay_45 (by decide) ?_
      refine lv_bipush (v := 6) hx hb dX9_replay_48 (by decide) ?_
      refine lv_iload hx hb dX9_replay_50 (lv_at hl 3 rfl) ?_
      refine lv_imul hx hb dX9_replay_52 ?_
      refine lv_iadd hx hb dX9_replay_53 ?_
      refine lv_istore (lv' := [(5, .int (1019 + (6 * x4))), (0, .ref (h 0)), (1, .int x1), (3, .int x3), (4, .int x4)]) hx hb dX9_replay_54 hl (by decide) rfl (fun ls hl => ?_)
      exact s_X9_replay_56 l D cA tS A h F N (fun x1 x3 x4 σ wd => f_X9_replay_33 N n x1 x3 x4 σ wd) E ih N _ _ _ _ _ _ _ _ hM _ _ hw _ (lv_sub hl [1, 2, 3, 4, 0] rfl)
def f_X9_replay (N : Nat)   (x1 : Int32) (x2 : Int32) (σ : Sg) (wd : Int64) : Option (Int32 × Sg) := (f_X9_copyState_state_backup N 0 0 σ wd).bind (fun p1 => (f_X9_beginAtZero N p1 wd).bind (fun p3 => if ib (15 + x1) 4619 then f_X9_replay_33 N N x1 0 0 (up p3 1 (ix (15 + x1)) x2) wd else none))
set_option maxRecDepth 100000 in
set_option maxHeartbeats 4000000 in
theorem c_X9_replay (l : Launch) (D : va_G) (cA : Nat → ClassId) (tS : Nat → Nat) (A : Nat → Prop) (h : Nat → Nat) (F : va_W) (N : Nat) (x1 : Int32) (x2 : Int32) (σ : Sg) (wd : Int64) (r0 : Int32) (s0 : Sg) (hM : f_X9_replay N x1 x2 σ wd = some (r0, s0)) : Ct l yX9_replay (Cond.code yX9_replay cX9_replay 7 (some .int) :: bw) 6 139 D cA tS A [.ref (h 0), .int x1, .int x2] (wM cA h σ wd ++ F) (some (.int r0)) (wM cA h s0 wd ++ F) := by
  refine ct_of (by decide +kernel) (Nat.le_of_ble_eq_true rfl) ?_
  intro p e s m below meth c E hw ls hl
  replace E : Ev p cX9_replay 7 (some .int) RX9 (Cond.code yX9_replay cX9_replay 7 (some .int) :: bw) D cA tS A s m _ meth c := E
  replace hl : lv_has ls 7 [(0, .ref (h 0)), (1, .int x1), (2, .int x2)] := hl
  have hx := E.1.1
  have hb := E.1.2.1
  unfold f_X9_replay at hM
  refine lv_aload_n hx hb dX9_replay_0 rfl (lv_at hl 0 rfl) ?_
  refine lv_aload_n hx hb dX9_replay_1 rfl (lv_at hl 0 rfl) ?_
  refine q_get (C := RX9) (T := TX9) (N := 17) (ci := 9) E (fun w h => List.mem_cons_of_mem _ (inX9 w h)) hw 0 rfl rfl 0 (by decide) (List.mem_cons_of_mem _ tb_1157) (v := .ref (h 1)) rfl dX9_replay_2 ?_
  refine lv_iconst (v := 0) hx hb dX9_replay_5 (by decide) ?_
  refine lv_aload_n hx hb dX9_replay_6 rfl (lv_at hl 0 rfl) ?_
  refine q_get (C := RX9) (T := TX9) (N := 17) (ci := 9) E (fun w h => List.mem_cons_of_mem _ (inX9 w h)) hw 0 rfl rfl 1 (by decide) (List.mem_cons_of_mem _ tb_1158) (v := .ref (h 2)) rfl dX9_replay_7 ?_
  refine lv_iconst (v := 0) hx hb dX9_replay_10 (by decide) ?_
  obtain ⟨p1, h2, hM⟩ := b_some hM
  refine q_cvv (As := [.ref (h 1), .int 0, .ref (h 2), .int 0]) (rest := []) E hw hl (c_X9_copyState_state_backup l D cA tS A h F N 0 0 σ wd p1 h2) 4 (bwV bw_c tb_1557 tb_1559 tb_86 tb_112 tb_1560) rfl (by decide +kernel) ⟨Nat.le_of_ble_eq_true rfl, Nat.le_of_ble_eq_true rfl⟩ 0 9 (T := TX9) (N := 17) rfl rfl rfl rfl (Nat.le_of_ble_eq_true rfl) ⟨Nat.zero_le _, Nat.zero_le _⟩ dX9_replay_11 (fun H locs hw => ?_)
  refine lv_aload_n hx hb dX9_replay_14 rfl (lv_at hl 0 rfl) ?_
  obtain ⟨p3, h4, hM⟩ := b_some hM
  refine q_cvv (As := []) (rest := []) E hw hl (c_X9_beginAtZero l D cA tS A h F N p1 wd p3 h4) 0 (bwV bw_c tb_1153 tb_1155 tb_44 tb_112 tb_1156) rfl (by decide +kernel) ⟨Nat.le_of_ble_eq_true rfl, Nat.le_of_ble_eq_true rfl⟩ 0 9 (T := TX9) (N := 17) rfl rfl rfl rfl (Nat.le_of_ble_eq_true rfl) ⟨Nat.zero_le _, Nat.zero_le _⟩ dX9_replay_15 (fun H locs hw => ?_)
  refine lv_aload_n hx hb dX9_replay_18 rfl (lv_at hl 0 rfl) ?_
  refine q_get (C := RX9) (T := TX9) (N := 17) (ci := 9) E (fun w h => List.mem_cons_of_mem _ (inX9 w h)) hw 0 rfl rfl 0 (by decide) (List.mem_cons_of_mem _ tb_1157) (v := .ref (h 1)) rfl dX9_replay_19 ?_
  refine lv_bipush (v := 15) hx hb dX9_replay_22 (by decide) ?_
  refine lv_iload_n hx hb dX9_replay_24 rfl (lv_at hl 1 rfl) ?_
  refine lv_iadd hx hb dX9_replay_25 ?_
  refine lv_iload_n hx hb dX9_replay_26 rfl (lv_at hl 2 rfl) ?_
  obtain ⟨g5, hM⟩ := g_some hM
  refine q_ast E hw 1 (n := 4619) rfl g5 (wM cA h (up p3 1 (ix (15 + x1)) x2) wd ++ F) st_M_1 dX9_replay_27 (fun H locs hw => ?_)
  refine lv_iconst (v := 0) hx hb dX9_replay_28 (by decide) ?_
  refine lv_istore_n (lv' := [(3, .int 0), (0, .ref (h 0)), (1, .int x1), (2, .int x2)]) hx hb dX9_replay_29 rfl hl (by decide) rfl (fun ls hl => ?_)
  refine lv_iconst (v := 0) hx hb dX9_replay_30 (by decide) ?_
  refine lv_istore (lv' := [(4, .int 0), (3, .int 0), (0, .ref (h 0)), (1, .int x1), (2, .int x2)]) hx hb dX9_replay_31 hl (by decide) rfl (fun ls hl => ?_)
  exact s_X9_replay_33 l D cA tS A h F N E N _ _ _ _ _ _ _ hM _ _ hw _ (lv_sub hl [2, 3, 1, 0] rfl)
def f_X9_breachesWith (N : Nat)   (x1 : Int32) (x2 : Int32) (σ : Sg) (wd : Int64) : Option (Int32 × Sg) := (f_X9_isLevel x1).bind (fun p1 => (if p1 = 0 then some ((-4), σ) else (f_X9_isBetween x2 0 9).bind (fun p4 => (if p4 = 0 then some ((-4), σ) else (f_X9_replay N x1 x2 σ wd).bind (fun p7 => some (p7.1, p7.2))))))
set_option maxRecDepth 100000 in
set_option maxHeartbeats 4000000 in
theorem c_X9_breachesWith (l : Launch) (D : va_G) (cA : Nat → ClassId) (tS : Nat → Nat) (A : Nat → Prop) (h : Nat → Nat) (F : va_W) (N : Nat) (x1 : Int32) (x2 : Int32) (σ : Sg) (wd : Int64) (r0 : Int32) (s0 : Sg) (hM : f_X9_breachesWith N x1 x2 σ wd = some (r0, s0)) : Ct l yX9_breachesWith (Cond.code yX9_breachesWith cX9_breachesWith 3 (some .int) :: bw) 7 165 D cA tS A [.ref (h 0), .int x1, .int x2] (wM cA h σ wd ++ F) (some (.int r0)) (wM cA h s0 wd ++ F) := by
  refine ct_of (by decide +kernel) (Nat.le_of_ble_eq_true rfl) ?_
  intro p e s m below meth c E hw ls hl
  replace E : Ev p cX9_breachesWith 3 (some .int) RX9 (Cond.code yX9_breachesWith cX9_breachesWith 3 (some .int) :: bw) D cA tS A s m _ meth c := E
  replace hl : lv_has ls 3 [(0, .ref (h 0)), (1, .int x1), (2, .int x2)] := hl
  have hx := E.1.1
  have hb := E.1.2.1
  unfold f_X9_breachesWith at hM
  refine lv_iload_n hx hb dX9_breachesWith_0 rfl (lv_at hl 1 rfl) ?_
  obtain ⟨p1, h2, hM⟩ := b_some hM
  refine q_cs (As := [.int x1]) (rest := []) E hw hl (c_X9_isLevel l D cA tS A (wM cA h σ wd ++ F) x1 p1 h2) 1 (bwS bw_c tb_1230 tb_1231 tb_112 tb_1232) rfl (by decide +kernel) ⟨Nat.le_of_ble_eq_true rfl, Nat.le_of_ble_eq_true rfl⟩ rfl rfl (Nat.le_of_ble_eq_true rfl) ⟨Nat.zero_le _, Nat.zero_le _⟩ dX9_breachesWith_1 (fun H locs hw => ?_)
  refine lv_if_eq (tgt := 26) hx hb dX9_breachesWith_4 (by decide) (fun c3 => ?_) (fun c3 => ?_)
  · replace hM := i_pos hM c3
    refine lv_bipush (v := (-4)) hx hb dX9_breachesWith_26 (by decide) ?_
    cases hM
    exact q_reti E hw dX9_breachesWith_28
  · replace hM := i_neg hM c3
    refine lv_iload_n hx hb dX9_breachesWith_7 rfl (lv_at hl 2 rfl) ?_
    refine lv_iconst (v := 0) hx hb dX9_breachesWith_8 (by decide) ?_
    refine lv_bipush (v := 9) hx hb dX9_breachesWith_9 (by decide) ?_
    obtain ⟨p4, h5, hM⟩ := b_some hM
    refine q_cs (As := [.int x2, .int 0, .int 9]) (rest := []) E hw hl (c_X9_isBetween l D cA tS A (wM cA h σ wd ++ F) x2 0 9 p4 h5) 3 (bwS bw_c tb_1224 tb_1225 tb_112 tb_1226) rfl (by decide +kernel) ⟨Nat.le_of_ble_eq_true rfl, Nat.le_of_ble_eq_true rfl⟩ rfl rfl (Nat.le_of_ble_eq_true rfl) ⟨Nat.zero_le _, Nat.zero_le _⟩ dX9_breachesWith_11 (fun H locs hw => ?_)
    refine lv_if_eq (tgt := 26) hx hb dX9_breachesWith_14 (by decide) (fun c6 => ?_) (fun c6 => ?_)
    · replace hM := i_pos hM c6
      refine lv_bipush (v := (-4)) hx hb dX9_breachesWith_26 (by decide) ?_
      cases hM
      exact q_reti E hw dX9_breachesWith_28
    · replace hM := i_neg hM c6
      refine lv_aload_n hx hb dX9_breachesWith_17 rfl (lv_at hl 0 rfl) ?_
      refine lv_iload_n hx hb dX9_breachesWith_18 rfl (lv_at hl 1 rfl) ?_
      refine lv_iload_n hx hb dX9_breachesWith_19 rfl (lv_at hl 2 rfl) ?_
      obtain ⟨p7, h8, hM⟩ := b_some hM
      refine q_cv (As := [.int x1, .int x2]) (rest := []) E hw hl (c_X9_replay l D cA tS A h F N x1 x2 σ wd p7.1 p7.2 h8) 2 (bwV bw_c tb_1573 tb_1575 tb_88 tb_112 tb_1576) rfl (by decide +kernel) ⟨Nat.le_of_ble_eq_true rfl, Nat.le_of_ble_eq_true rfl⟩ 0 9 (T := TX9) (N := 17) rfl rfl rfl rfl (Nat.le_of_ble_eq_true rfl) ⟨Nat.zero_le _, Nat.zero_le _⟩ dX9_breachesWith_20 (fun H locs hw => ?_)
      refine lv_goto (tgt := 28) hx hb dX9_breachesWith_23 (by decide) ?_
      cases hM
      exact q_reti E hw dX9_breachesWith_28
def f_X9_leastAgents_12 (N : Nat)   : Nat → Int32 → Int32 → Sg → Int64 → Option (Int32 × Sg)
  | 0, _, _, _, _ => none
  | n + 1, x1, x2, σ, wd => (if 9 < x2 then some ((-1), σ) else (f_X9_replay N x1 x2 σ wd).bind (fun p2 => (if p2.1 = 0 then some (x2, p2.2) else f_X9_leastAgents_12 N n x1 (x2 + 1) p2.2 wd)))
set_option maxRecDepth 100000 in
set_option maxHeartbeats 4000000 in
theorem s_X9_leastAgents_12 (l : Launch) (D : va_G) (cA : Nat → ClassId) (tS : Nat → Nat) (A : Nat → Prop) (h : Nat → Nat) (F : va_W) (N : Nat) {p : Program} {e : Env} {s : State} {m : MethodId} {args : Array Value} {below : List Frame} {meth : Method} {c : Code} (E : Ev p cX9_leastAgents 3 (some .int) RX9 (Cond.code yX9_leastAgents cX9_leastAgents 3 (some .int) :: bw) D cA tS A s m args meth c) : ∀ (n : Nat) (x1 : Int32) (x2 : Int32) (σ : Sg) (wd : Int64) (r0 : Int32) (s0 : Sg) (hM : f_X9_leastAgents_12 N n x1 x2 σ wd = some (r0, s0)) (H : Heap) (locs : List Loc) (hw : Wd D A (wM cA h σ wd ++ F) s.heap H locs) (ls : Array Slot) (hl : lv_has ls 3 [(0, .ref (h 0)), (1, .int x1), (2, .int x2)]), W p l e ({ frames := 7, cells := 0, slots := 0, locals := 165 } : Room) s m args below meth c H locs 0 0 (MQ below (QW D A (some (.int r0)) (wM cA h s0 wd ++ F)) args s 0 0 A) (F0 m 12 ls []) := by
  have hx := E.1.1
  have hb := E.1.2.1
  intro n
  induction n with
  | zero =>
    intro x1 x2 σ wd r0 s0 hM
    cases hM
  | succ n ih =>
    intro x1 x2 σ wd r0 s0 hM H locs hw ls hl
    rw [f_X9_leastAgents_12] at hM
    refine lv_iload_n hx hb dX9_leastAgents_12 rfl (lv_at hl 2 rfl) ?_
    refine lv_bipush (v := 9) hx hb dX9_leastAgents_13 (by decide) ?_
    refine lv_icmp_gt (tgt := 35) hx hb dX9_leastAgents_15 (by decide) (fun c1 => ?_) (fun c1 => ?_)
    · replace hM := i_pos hM c1
      refine lv_iconst (v := (-1)) hx hb dX9_leastAgents_35 (by decide) ?_
      cases hM
      exact q_reti E hw dX9_leastAgents_36
    · replace hM := i_neg hM c1
      refine lv_aload_n hx hb dX9_leastAgents_18 rfl (lv_at hl 0 rfl) ?_
      refine lv_iload_n hx hb dX9_leastAgents_19 rfl (lv_at hl 1 rfl) ?_
      refine lv_iload_n hx hb dX9_leastAgents_20 rfl (lv_at hl 2 rfl) ?_
      obtain ⟨p2, h3, hM⟩ := b_some hM
      refine q_cv (As := [.int x1, .int x2]) (rest := []) E hw hl (c_X9_replay l D cA tS A h F N x1 x2 σ wd p2.1 p2.2 h3) 2 (bwV bw_c tb_1573 tb_1575 tb_88 tb_112 tb_1576) rfl (by decide +kernel) ⟨Nat.le_of_ble_eq_true rfl, Nat.le_of_ble_eq_true rfl⟩ 0 9 (T := TX9) (N := 17) rfl rfl rfl rfl (Nat.le_of_ble_eq_true rfl) ⟨Nat.zero_le _, Nat.zero_le _⟩ dX9_leastAgents_21 (fun H locs hw => ?_)
      refine lv_if_ne (tgt := 29) hx hb dX9_leastAgents_24 (by decide) (fun c4 => ?_) (fun c4 => ?_)
      · replace hM := i_neg hM c4
        refine lv_iinc (v := (x2 + 1)) (lv' := [(2, .int (x2 + 1)), (0, .ref (h 0)), (1, .int x1)]) hx hb dX9_leastAgents_29 hl (k := 2) rfl rfl (by decide) rfl (fun ls hl => ?_)
        refine lv_goto (tgt := 12) hx hb dX9_leastAgents_32 (by decide) ?_
        exact ih _ _ _ _ _ _ hM _ _ hw _ (lv_sub hl [1, 2, 0] rfl)
      · replace hM := i_pos hM c4
        refine lv_iload_n hx hb dX9_leastAgents_27 rfl (lv_at hl 2 rfl) ?_
        cases hM
        exact q_reti E hw dX9_leastAgents_28
def f_X9_leastAgents (N : Nat)   (x1 : Int32) (σ : Sg) (wd : Int64) : Option (Int32 × Sg) := (f_X9_isLevel x1).bind (fun p1 => (if p1 = 0 then some ((-4), σ) else f_X9_leastAgents_12 N N x1 0 σ wd))
set_option maxRecDepth 100000 in
set_option maxHeartbeats 4000000 in
theorem c_X9_leastAgents (l : Launch) (D : va_G) (cA : Nat → ClassId) (tS : Nat → Nat) (A : Nat → Prop) (h : Nat → Nat) (F : va_W) (N : Nat) (x1 : Int32) (σ : Sg) (wd : Int64) (r0 : Int32) (s0 : Sg) (hM : f_X9_leastAgents N x1 σ wd = some (r0, s0)) : Ct l yX9_leastAgents (Cond.code yX9_leastAgents cX9_leastAgents 3 (some .int) :: bw) 7 165 D cA tS A [.ref (h 0), .int x1] (wM cA h σ wd ++ F) (some (.int r0)) (wM cA h s0 wd ++ F) := by
  refine ct_of (by decide +kernel) (Nat.le_of_ble_eq_true rfl) ?_
  intro p e s m below meth c E hw ls hl
  replace E : Ev p cX9_leastAgents 3 (some .int) RX9 (Cond.code yX9_leastAgents cX9_leastAgents 3 (some .int) :: bw) D cA tS A s m _ meth c := E
  replace hl : lv_has ls 3 [(0, .ref (h 0)), (1, .int x1)] := hl
  have hx := E.1.1
  have hb := E.1.2.1
  unfold f_X9_leastAgents at hM
  refine lv_iload_n hx hb dX9_leastAgents_0 rfl (lv_at hl 1 rfl) ?_
  obtain ⟨p1, h2, hM⟩ := b_some hM
  refine q_cs (As := [.int x1]) (rest := []) E hw hl (c_X9_isLevel l D cA tS A (wM cA h σ wd ++ F) x1 p1 h2) 1 (bwS bw_c tb_1230 tb_1231 tb_112 tb_1232) rfl (by decide +kernel) ⟨Nat.le_of_ble_eq_true rfl, Nat.le_of_ble_eq_true rfl⟩ rfl rfl (Nat.le_of_ble_eq_true rfl) ⟨Nat.zero_le _, Nat.zero_le _⟩ dX9_leastAgents_1 (fun H locs hw => ?_)
  refine lv_if_ne (tgt := 10) hx hb dX9_leastAgents_4 (by decide) (fun c3 => ?_) (fun c3 => ?_)
  · replace hM := i_neg hM c3
    refine lv_iconst (v := 0) hx hb dX9_leastAgents_10 (by decide) ?_
    refine lv_istore_n (lv' := [(2, .int 0), (0, .ref (h 0)), (1, .int x1)]) hx hb dX9_leastAgents_11 rfl hl (by decide) rfl (fun ls hl => ?_)
    exact s_X9_leastAgents_12 l D cA tS A h F N E N _ _ _ _ _ _ hM _ _ hw _ (lv_sub hl [1, 2, 0] rfl)
  · replace hM := i_pos hM c3
    refine lv_bipush (v := (-4)) hx hb dX9_leastAgents_7 (by decide) ?_
    cases hM
    exact q_reti E hw dX9_leastAgents_9
def f_X9_historyLength    (σ : Sg) (wd : Int64) : Option (Int32) := some (σ 1 (ix 57))
set_option maxRecDepth 100000 in
set_option maxHeartbeats 4000000 in
theorem c_X9_historyLength (l : Launch) (D : va_G) (cA : Nat → ClassId) (tS : Nat → Nat) (A : Nat → Prop) (h : Nat → Nat) (F : va_W) (σ : Sg) (wd : Int64) (r0 : Int32) (hM : f_X9_historyLength σ wd = some r0) : Ct l yX9_historyLength (Cond.code yX9_historyLength cX9_historyLength 1 (some .int) :: bw) 0 0 D cA tS A [.ref (h 0)] (wM cA h σ wd ++ F) (some (.int r0)) (wM cA h σ wd ++ F) := by
  refine ct_of (by decide +kernel) (Nat.le_of_ble_eq_true rfl) ?_
  intro p e s m below meth c E hw ls hl
  replace E : Ev p cX9_historyLength 1 (some .int) RX9 (Cond.code yX9_historyLength cX9_historyLength 1 (some .int) :: bw) D cA tS A s m _ meth c := E
  replace hl : lv_has ls 1 [(0, .ref (h 0))] := hl
  have hx := E.1.1
  have hb := E.1.2.1
  unfold f_X9_historyLength at hM
  refine lv_aload_n hx hb dX9_historyLength_0 rfl (lv_at hl 0 rfl) ?_
  refine q_get (C := RX9) (T := TX9) (N := 17) (ci := 9) E (fun w h => List.mem_cons_of_mem _ (inX9 w h)) hw 0 rfl rfl 0 (by decide) (List.mem_cons_of_mem _ tb_1157) (v := .ref (h 1)) rfl dX9_historyLength_1 ?_
  refine lv_bipush (v := 57) hx hb dX9_historyLength_4 (by decide) ?_
  refine q_ald E hw 1 (n := 4619) rfl (by decide +kernel) (x := (σ 1 (ix 57))) rfl dX9_historyLength_6 ?_
  cases hM
  exact q_reti E hw dX9_historyLength_7
def f_X9_logSize    (σ : Sg) (wd : Int64) : Option (Int32) := some (σ 1 (ix 58))
set_option maxRecDepth 100000 in
set_option maxHeartbeats 4000000 in
theorem c_X9_logSize (l : Launch) (D : va_G) (cA : Nat → ClassId) (tS : Nat → Nat) (A : Nat → Prop) (h : Nat → Nat) (F : va_W) (σ : Sg) (wd : Int64) (r0 : Int32) (hM : f_X9_logSize σ wd = some r0) : Ct l yX9_logSize (Cond.code yX9_logSize cX9_logSize 1 (some .int) :: bw) 0 0 D cA tS A [.ref (h 0)] (wM cA h σ wd ++ F) (some (.int r0)) (wM cA h σ wd ++ F) := by
  refine ct_of (by decide +kernel) (Nat.le_of_ble_eq_true rfl) ?_
  intro p e s m below meth c E hw ls hl
  replace E : Ev p cX9_logSize 1 (some .int) RX9 (Cond.code yX9_logSize cX9_logSize 1 (some .int) :: bw) D cA tS A s m _ meth c := E
  replace hl : lv_has ls 1 [(0, .ref (h 0))] := hl
  have hx := E.1.1
  have hb := E.1.2.1
  unfold f_X9_logSize at hM
  refine lv_aload_n hx hb dX9_logSize_0 rfl (lv_at hl 0 rfl) ?_
  refine q_get (C := RX9) (T := TX9) (N := 17) (ci := 9) E (fun w h => List.mem_cons_of_mem _ (inX9 w h)) hw 0 rfl rfl 0 (by decide) (List.mem_cons_of_mem _ tb_1157) (v := .ref (h 1)) rfl dX9_logSize_1 ?_
  refine lv_bipush (v := 58) hx hb dX9_logSize_4 (by decide) ?_
  refine q_ald E hw 1 (n := 4619) rfl (by decide +kernel) (x := (σ 1 (ix 58))) rfl dX9_logSize_6 ?_
  cases hM
  exact q_reti E hw dX9_logSize_7
def f_X9_eventField    (x1 : Int32) (x2 : Int32) (σ : Sg) (wd : Int64) : Option (Int32) := (f_X9_isBetween x1 0 ((σ 1 (ix 58)) - 1)).bind (fun p1 => (if p1 = 0 then some (-4) else if ib ((2219 + (4 * x1)) + x2) 4619 then some (σ 1 (ix ((2219 + (4 * x1)) + x2))) else none))
set_option maxRecDepth 100000 in
set_option maxHeartbeats 4000000 in
theorem c_X9_eventField (l : Launch) (D : va_G) (cA : Nat → ClassId) (tS : Nat → Nat) (A : Nat → Prop) (h : Nat → Nat) (F : va_W) (x1 : Int32) (x2 : Int32) (σ : Sg) (wd : Int64) (r0 : Int32) (hM : f_X9_eventField x1 x2 σ wd = some r0) : Ct l yX9_eventField (Cond.code yX9_eventField cX9_eventField 3 (some .int) :: bw) 1 22 D cA tS A [.ref (h 0), .int x1, .int x2] (wM cA h σ wd ++ F) (some (.int r0)) (wM cA h σ wd ++ F) := by
  refine ct_of (by decide +kernel) (Nat.le_of_ble_eq_true rfl) ?_
  intro p e s m below meth c E hw ls hl
  replace E : Ev p cX9_eventField 3 (some .int) RX9 (Cond.code yX9_eventField cX9_eventField 3 (some .int) :: bw) D cA tS A s m _ meth c := E
  replace hl : lv_has ls 3 [(0, .ref (h 0)), (1, .int x1), (2, .int x2)] := hl
  have hx := E.1.1
  have hb := E.1.2.1
  unfold f_X9_eventField at hM
  refine lv_iload_n hx hb dX9_eventField_0 rfl (lv_at hl 1 rfl) ?_
  refine lv_iconst (v := 0) hx hb dX9_eventField_1 (by decide) ?_
  refine lv_aload_n hx hb dX9_eventField_2 rfl (lv_at hl 0 rfl) ?_
  refine q_get (C := RX9) (T := TX9) (N := 17) (ci := 9) E (fun w h => List.mem_cons_of_mem _ (inX9 w h)) hw 0 rfl rfl 0 (by decide) (List.mem_cons_of_mem _ tb_1157) (v := .ref (h 1)) rfl dX9_eventField_3 ?_
  refine lv_bipush (v := 58) hx hb dX9_eventField_6 (by decide) ?_
  refine q_ald E hw 1 (n := 4619) rfl (by decide +kernel) (x := (σ 1 (ix 58))) rfl dX9_eventField_8 ?_
  refine lv_iconst (v := 1) hx hb dX9_eventField_9 (by decide) ?_
  refine lv_isub hx hb dX9_eventField_10 ?_
  obtain ⟨p1, h2, hM⟩ := b_some hM
  refine q_cs (As := [.int x1, .int 0, .int ((σ 1 (ix 58)) - 1)]) (rest := []) E hw hl (c_X9_isBetween l D cA tS A (wM cA h σ wd ++ F) x1 0 ((σ 1 (ix 58)) - 1) p1 h2) 3 (bwS bw_c tb_1224 tb_1225 tb_112 tb_1226) rfl (by decide +kernel) ⟨Nat.le_of_ble_eq_true rfl, Nat.le_of_ble_eq_true rfl⟩ rfl rfl (Nat.le_of_ble_eq_true rfl) ⟨Nat.zero_le _, Nat.zero_le _⟩ dX9_eventField_11 (fun H locs hw => ?_)
  refine lv_if_eq (tgt := 34) hx hb dX9_eventField_14 (by decide) (fun c3 => ?_) (fun c3 => ?_)
  · replace hM := i_pos hM c3
    refine lv_bipush (v := (-4)) hx hb dX9_eventField_34 (by decide) ?_
    cases hM
    exact q_reti E hw dX9_eventField_36
  · replace hM := i_neg hM c3
    refine lv_aload_n hx hb dX9_eventField_17 rfl (lv_at hl 0 rfl) ?_
    refine q_get (C := RX9) (T := TX9) (N := 17) (ci := 9) E (fun w h => List.mem_cons_of_mem _ (inX9 w h)) hw 0 rfl rfl 0 (by decide) (List.mem_cons_of_mem _ tb_1157) (v := .ref (h 1)) rfl dX9_eventField_18 ?_
    refine lv_sipush (v := 2219) hx hb dX9_eventField_21 (by decide) ?_
    refine lv_iconst (v := 4) hx hb dX9_eventField_24 (by decide) ?_
    refine lv_iload_n hx hb dX9_eventField_25 rfl (lv_at hl 1 rfl) ?_
    refine lv_imul hx hb dX9_eventField_26 ?_
    refine lv_iadd hx hb dX9_eventField_27 ?_
    refine lv_iload_n hx hb dX9_eventField_28 rfl (lv_at hl 2 rfl) ?_
    refine lv_iadd hx hb dX9_eventField_29 ?_
    obtain ⟨g4, hM⟩ := g_some hM
    refine q_ald E hw 1 (n := 4619) rfl g4 (x := (σ 1 (ix ((2219 + (4 * x1)) + x2)))) rfl dX9_eventField_30 ?_
    refine lv_goto (tgt := 36) hx hb dX9_eventField_31 (by decide) ?_
    cases hM
    exact q_reti E hw dX9_eventField_36
def f_X9_logTime    (x1 : Int32) (σ : Sg) (wd : Int64) : Option (Int32) := (f_X9_eventField x1 0 σ wd).bind (fun p1 => some p1)
set_option maxRecDepth 100000 in
set_option maxHeartbeats 4000000 in
theorem c_X9_logTime (l : Launch) (D : va_G) (cA : Nat → ClassId) (tS : Nat → Nat) (A : Nat → Prop) (h : Nat → Nat) (F : va_W) (x1 : Int32) (σ : Sg) (wd : Int64) (r0 : Int32) (hM : f_X9_logTime x1 σ wd = some r0) : Ct l yX9_logTime (Cond.code yX9_logTime cX9_logTime 2 (some .int) :: bw) 2 44 D cA tS A [.ref (h 0), .int x1] (wM cA h σ wd ++ F) (some (.int r0)) (wM cA h σ wd ++ F) := by
  refine ct_of (by decide +kernel) (Nat.le_of_ble_eq_true rfl) ?_
  intro p e s m below meth c E hw ls hl
  replace E : Ev p cX9_logTime 2 (some .int) RX9 (Cond.code yX9_logTime cX9_logTime 2 (some .int) :: bw) D cA tS A s m _ meth c := E
  replace hl : lv_has ls 2 [(0, .ref (h 0)), (1, .int x1)] := hl
  have hx := E.1.1
  have hb := E.1.2.1
  unfold f_X9_logTime at hM
  refine lv_aload_n hx hb dX9_logTime_0 rfl (lv_at hl 0 rfl) ?_
  refine lv_iload_n hx hb dX9_logTime_1 rfl (lv_at hl 1 rfl) ?_
  refine lv_iconst (v := 0) hx hb dX9_logTime_2 (by decide) ?_
  obtain ⟨p1, h2, hM⟩ := b_some hM
  refine q_cv (As := [.int x1, .int 0]) (rest := []) E hw hl (c_X9_eventField l D cA tS A h F x1 0 σ wd p1 h2) 2 (bwV bw_c tb_1593 tb_1595 tb_89 tb_112 tb_1596) rfl (by decide +kernel) ⟨Nat.le_of_ble_eq_true rfl, Nat.le_of_ble_eq_true rfl⟩ 0 9 (T := TX9) (N := 17) rfl rfl rfl rfl (Nat.le_of_ble_eq_true rfl) ⟨Nat.zero_le _, Nat.zero_le _⟩ dX9_logTime_3 (fun H locs hw => ?_)
  cases hM
  exact q_reti E hw dX9_logTime_6
def f_X9_logType    (x1 : Int32) (σ : Sg) (wd : Int64) : Option (Int32) := (f_X9_eventField x1 1 σ wd).bind (fun p1 => some p1)
set_option maxRecDepth 100000 in
set_option maxHeartbeats 4000000 in
theorem c_X9_logType (l : Launch) (D : va_G) (cA : Nat → ClassId) (tS : Nat → Nat) (A : Nat → Prop) (h : Nat → Nat) (F : va_W) (x1 : Int32) (σ : Sg) (wd : Int64) (r0 : Int32) (hM : f_X9_logType x1 σ wd = some r0) : Ct l yX9_logType (Cond.code yX9_logType cX9_logType 2 (some .int) :: bw) 2 44 D cA tS A [.ref (h 0), .int x1] (wM cA h σ wd ++ F) (some (.int r0)) (wM cA h σ wd ++ F) := by
  refine ct_of (by decide +kernel) (Nat.le_of_ble_eq_true rfl) ?_
  intro p e s m below meth c E hw ls hl
  replace E : Ev p cX9_logType 2 (some .int) RX9 (Cond.code yX9_logType cX9_logType 2 (some .int) :: bw) D cA tS A s m _ meth c := E
  replace hl : lv_has ls 2 [(0, .ref (h 0)), (1, .int x1)] := hl
  have hx := E.1.1
  have hb := E.1.2.1
  unfold f_X9_logType at hM
  refine lv_aload_n hx hb dX9_logType_0 rfl (lv_at hl 0 rfl) ?_
  refine lv_iload_n hx hb dX9_logType_1 rfl (lv_at hl 1 rfl) ?_
  refine lv_iconst (v := 1) hx hb dX9_logType_2 (by decide) ?_
  obtain ⟨p1, h2, hM⟩ := b_some hM
  refine q_cv (As := [.int x1, .int 1]) (rest := []) E hw hl (c_X9_eventField l D cA tS A h F x1 1 σ wd p1 h2) 2 (bwV bw_c tb_1593 tb_1595 tb_89 tb_112 tb_1596) rfl (by decide +kernel) ⟨Nat.le_of_ble_eq_true rfl, Nat.le_of_ble_eq_true rfl⟩ 0 9 (T := TX9) (N := 17) rfl rfl rfl rfl (Nat.le_of_ble_eq_true rfl) ⟨Nat.zero_le _, Nat.zero_le _⟩ dX9_logType_3 (fun H locs hw => ?_)
  cases hM
  exact q_reti E hw dX9_logType_6
def f_X9_logTicket    (x1 : Int32) (σ : Sg) (wd : Int64) : Option (Int32) := (f_X9_eventField x1 2 σ wd).bind (fun p1 => some p1)
set_option maxRecDepth 100000 in
set_option maxHeartbeats 4000000 in
theorem c_X9_logTicket (l : Launch) (D : va_G) (cA : Nat → ClassId) (tS : Nat → Nat) (A : Nat → Prop) (h : Nat → Nat) (F : va_W) (x1 : Int32) (σ : Sg) (wd : Int64) (r0 : Int32) (hM : f_X9_logTicket x1 σ wd = some r0) : Ct l yX9_logTicket (Cond.code yX9_logTicket cX9_logTicket 2 (some .int) :: bw) 2 44 D cA tS A [.ref (h 0), .int x1] (wM cA h σ wd ++ F) (some (.int r0)) (wM cA h σ wd ++ F) := by
  refine ct_of (by decide +kernel) (Nat.le_of_ble_eq_true rfl) ?_
  intro p e s m below meth c E hw ls hl
  replace E : Ev p cX9_logTicket 2 (some .int) RX9 (Cond.code yX9_logTicket cX9_logTicket 2 (some .int) :: bw) D cA tS A s m _ meth c := E
  replace hl : lv_has ls 2 [(0, .ref (h 0)), (1, .int x1)] := hl
  have hx := E.1.1
  have hb := E.1.2.1
  unfold f_X9_logTicket at hM
  refine lv_aload_n hx hb dX9_logTicket_0 rfl (lv_at hl 0 rfl) ?_
  refine lv_iload_n hx hb dX9_logTicket_1 rfl (lv_at hl 1 rfl) ?_
  refine lv_iconst (v := 2) hx hb dX9_logTicket_2 (by decide) ?_
  obtain ⟨p1, h2, hM⟩ := b_some hM
  refine q_cv (As := [.int x1, .int 2]) (rest := []) E hw hl (c_X9_eventField l D cA tS A h F x1 2 σ wd p1 h2) 2 (bwV bw_c tb_1593 tb_1595 tb_89 tb_112 tb_1596) rfl (by decide +kernel) ⟨Nat.le_of_ble_eq_true rfl, Nat.le_of_ble_eq_true rfl⟩ 0 9 (T := TX9) (N := 17) rfl rfl rfl rfl (Nat.le_of_ble_eq_true rfl) ⟨Nat.zero_le _, Nat.zero_le _⟩ dX9_logTicket_3 (fun H locs hw => ?_)
  cases hM
  exact q_reti E hw dX9_logTicket_6
def f_X9_logDetail    (x1 : Int32) (σ : Sg) (wd : Int64) : Option (Int32) := (f_X9_eventField x1 3 σ wd).bind (fun p1 => some p1)
set_option maxRecDepth 100000 in
set_option maxHeartbeats 4000000 in
theorem c_X9_logDetail (l : Launch) (D : va_G) (cA : Nat → ClassId) (tS : Nat → Nat) (A : Nat → Prop) (h : Nat → Nat) (F : va_W) (x1 : Int32) (σ : Sg) (wd : Int64) (r0 : Int32) (hM : f_X9_logDetail x1 σ wd = some r0) : Ct l yX9_logDetail (Cond.code yX9_logDetail cX9_logDetail 2 (some .int) :: bw) 2 44 D cA tS A [.ref (h 0), .int x1] (wM cA h σ wd ++ F) (some (.int r0)) (wM cA h σ wd ++ F) := by
  refine ct_of (by decide +kernel) (Nat.le_of_ble_eq_true rfl) ?_
  intro p e s m below meth c E hw ls hl
  replace E : Ev p cX9_logDetail 2 (some .int) RX9 (Cond.code yX9_logDetail cX9_logDetail 2 (some .int) :: bw) D cA tS A s m _ meth c := E
  replace hl : lv_has ls 2 [(0, .ref (h 0)), (1, .int x1)] := hl
  have hx := E.1.1
  have hb := E.1.2.1
  unfold f_X9_logDetail at hM
  refine lv_aload_n hx hb dX9_logDetail_0 rfl (lv_at hl 0 rfl) ?_
  refine lv_iload_n hx hb dX9_logDetail_1 rfl (lv_at hl 1 rfl) ?_
  refine lv_iconst (v := 3) hx hb dX9_logDetail_2 (by decide) ?_
  obtain ⟨p1, h2, hM⟩ := b_some hM
  refine q_cv (As := [.int x1, .int 3]) (rest := []) E hw hl (c_X9_eventField l D cA tS A h F x1 3 σ wd p1 h2) 2 (bwV bw_c tb_1593 tb_1595 tb_89 tb_112 tb_1596) rfl (by decide +kernel) ⟨Nat.le_of_ble_eq_true rfl, Nat.le_of_ble_eq_true rfl⟩ 0 9 (T := TX9) (N := 17) rfl rfl rfl rfl (Nat.le_of_ble_eq_true rfl) ⟨Nat.zero_le _, Nat.zero_le _⟩ dX9_logDetail_3 (fun H locs hw => ?_)
  cases hM
  exact q_reti E hw dX9_logDetail_6
def f_X9_appendText_18 (N : Nat)   : Nat → Int32 → Int32 → Sg → Int64 → Option (Int32 × Sg)
  | 0, _, _, _, _ => none
  | n + 1, x1, x2, σ, wd => (if x2 < 0 then some ((σ 6 0), σ) else if ib (σ 6 0) 400 then f_X9_appendText_18 N n x1 (x2 + (-8)) (up (up σ 5 (ix (σ 6 0)) ((x1 >>> (x2 &&& 31)) &&& 255)) 6 0 ((σ 6 0) + 1)) wd else none)
set_option maxRecDepth 100000 in
set_option maxHeartbeats 4000000 in
theorem s_X9_appendText_18 (l : Launch) (D : va_G) (cA : Nat → ClassId) (tS : Nat → Nat) (A : Nat → Prop) (h : Nat → Nat) (F : va_W) (N : Nat) {p : Program} {e : Env} {s : State} {m : MethodId} {args : Array Value} {below : List Frame} {meth : Method} {c : Code} (E : Ev p cX9_appendText 3 (some .int) RX9 (Cond.code yX9_appendText cX9_appendText 3 (some .int) :: bw) D cA tS A s m args meth c) : ∀ (n : Nat) (x1 : Int32) (x2 : Int32) (σ : Sg) (wd : Int64) (r0 : Int32) (s0 : Sg) (hM : f_X9_appendText_18 N n x1 x2 σ wd = some (r0, s0)) (H : Heap) (locs : List Loc) (hw : Wd D A (wM cA h σ wd ++ F) s.heap H locs) (ls : Array Slot) (hl : lv_has ls 3 [(0, .ref (h 0)), (1, .int x1), (2, .int x2)]), W p l e ({ frames := 0, cells := 0, slots := 0, locals := 0 } : Room) s m args below meth c H locs 0 0 (MQ below (QW D A (some (.int r0)) (wM cA h s0 wd ++ F)) args s 0 0 A) (F0 m 18 ls []) := by
  have hx := E.1.1
  have hb := E.1.2.1
  intro n
  induction n with
  | zero =>
    intro x1 x2 σ wd r0 s0 hM
    cases hM
  | succ n ih =>
    intro x1 x2 σ wd r0 s0 hM H locs hw ls hl
    rw [f_X9_appendText_18] at hM
    refine lv_iload_n hx hb dX9_appendText_18 rfl (lv_at hl 2 rfl) ?_
    refine lv_if_lt (tgt := 54) hx hb dX9_appendText_19 (by decide) (fun c1 => ?_) (fun c1 => ?_)
    · replace hM := i_pos hM c1
      refine lv_aload_n hx hb dX9_appendText_54 rfl (lv_at hl 0 rfl) ?_
      refine q_get (C := RX9) (T := TX9) (N := 17) (ci := 9) E (fun w h => List.mem_cons_of_mem _ (inX9 w h)) hw 0 rfl rfl 5 (by decide) (List.mem_cons_of_mem _ tb_1162) (v := .int (σ 6 0)) rfl dX9_appendText_55 ?_
      cases hM
      exact q_reti E hw dX9_appendText_58
    · replace hM := i_neg hM c1
      refine lv_aload_n hx hb dX9_appendText_22 rfl (lv_at hl 0 rfl) ?_
      refine q_get (C := RX9) (T := TX9) (N := 17) (ci := 9) E (fun w h => List.mem_cons_of_mem _ (inX9 w h)) hw 0 rfl rfl 4 (by decide) (List.mem_cons_of_mem _ tb_1161) (v := .ref (h 5)) rfl dX9_appendText_23 ?_
      refine lv_aload_n hx hb dX9_appendText_26 rfl (lv_at hl 0 rfl) ?_
      refine q_get (C := RX9) (T := TX9) (N := 17) (ci := 9) E (fun w h => List.mem_cons_of_mem _ (inX9 w h)) hw 0 rfl rfl 5 (by decide) (List.mem_cons_of_mem _ tb_1162) (v := .int (σ 6 0)) rfl dX9_appendText_27 ?_
      refine lv_iload_n hx hb dX9_appendText_30 rfl (lv_at hl 1 rfl) ?_
      refine lv_iload_n hx hb dX9_appendText_31 rfl (lv_at hl 2 rfl) ?_
      refine lv_ishr hx hb dX9_appendText_32 ?_
      refine lv_sipush (v := 255) hx hb dX9_appendText_33 (by decide) ?_
      refine lv_iand hx hb dX9_appendText_36 ?_
      obtain ⟨g2, hM⟩ := g_some hM
      refine q_ast E hw 5 (n := 400) rfl g2 (wM cA h (up σ 5 (ix (σ 6 0)) ((x1 >>> (x2 &&& 31)) &&& 255)) wd ++ F) st_M_5 dX9_appendText_37 (fun H locs hw => ?_)
      refine lv_aload_n hx hb dX9_appendText_38 rfl (lv_at hl 0 rfl) ?_
      refine lv_dup hx hb dX9_appendText_39 rfl ?_
      refine q_get (C := RX9) (T := TX9) (N := 17) (ci := 9) E (fun w h => List.mem_cons_of_mem _ (inX9 w h)) hw 0 rfl rfl 5 (by decide) (List.mem_cons_of_mem _ tb_1162) (v := .int (σ 6 0)) (q_fld (congrFun (up_ne σ 5 (ix (σ 6 0)) ((x1 >>> (x2 &&& 31)) &&& 255) 6 (by decide)) 0) rfl) dX9_appendText_40 ?_
      refine lv_iconst (v := 1) hx hb dX9_appendText_43 (by decide) ?_
      refine lv_iadd hx hb dX9_appendText_44 ?_
      refine q_puti (C := RX9) (T := TX9) (N := 17) (ci := 9) E (fun w h => List.mem_cons_of_mem _ (inX9 w h)) tyX9 tyX9_ok nmX9 hw 0 rfl rfl 5 (by decide) (List.mem_cons_of_mem _ tb_1162) rfl rfl (Nat.le_of_ble_eq_true rfl) (wM cA h (up (up σ 5 (ix (σ 6 0)) ((x1 >>> (x2 &&& 31)) &&& 255)) 6 0 ((σ 6 0) + 1)) wd ++ F) st_M_6 dX9_appendText_45 (fun H locs hw => ?_)
      refine lv_iinc (v := (x2 + (-8))) (lv' := [(2, .int (x2 + (-8))), (0, .ref (h 0)), (1, .int x1)]) hx hb dX9_appendText_48 hl (k := 2) rfl rfl (by decide) rfl (fun ls hl => ?_)
      refine lv_goto (tgt := 18) hx hb dX9_appendText_51 (by decide) ?_
      exact ih _ _ _ _ _ _ hM _ _ hw _ (lv_sub hl [1, 2, 0] rfl)
def f_X9_appendText (N : Nat)   (x1 : Int32) (σ : Sg) (wd : Int64) : Option (Int32 × Sg) := (if ((σ 6 0) + 4) ≤ 400 then f_X9_appendText_18 N N x1 24 σ wd else some ((-6), σ))
set_option maxRecDepth 100000 in
set_option maxHeartbeats 4000000 in
theorem c_X9_appendText (l : Launch) (D : va_G) (cA : Nat → ClassId) (tS : Nat → Nat) (A : Nat → Prop) (h : Nat → Nat) (F : va_W) (N : Nat) (x1 : Int32) (σ : Sg) (wd : Int64) (r0 : Int32) (s0 : Sg) (hM : f_X9_appendText N x1 σ wd = some (r0, s0)) : Ct l yX9_appendText (Cond.code yX9_appendText cX9_appendText 3 (some .int) :: bw) 0 0 D cA tS A [.ref (h 0), .int x1] (wM cA h σ wd ++ F) (some (.int r0)) (wM cA h s0 wd ++ F) := by
  refine ct_of (by decide +kernel) (Nat.le_of_ble_eq_true rfl) ?_
  intro p e s m below meth c E hw ls hl
  replace E : Ev p cX9_appendText 3 (some .int) RX9 (Cond.code yX9_appendText cX9_appendText 3 (some .int) :: bw) D cA tS A s m _ meth c := E
  replace hl : lv_has ls 3 [(0, .ref (h 0)), (1, .int x1)] := hl
  have hx := E.1.1
  have hb := E.1.2.1
  unfold f_X9_appendText at hM
  refine lv_aload_n hx hb dX9_appendText_0 rfl (lv_at hl 0 rfl) ?_
  refine q_get (C := RX9) (T := TX9) (N := 17) (ci := 9) E (fun w h => List.mem_cons_of_mem _ (inX9 w h)) hw 0 rfl rfl 5 (by decide) (List.mem_cons_of_mem _ tb_1162) (v := .int (σ 6 0)) rfl dX9_appendText_1 ?_
  refine lv_iconst (v := 4) hx hb dX9_appendText_4 (by decide) ?_
  refine lv_iadd hx hb dX9_appendText_5 ?_
  refine lv_sipush (v := 400) hx hb dX9_appendText_6 (by decide) ?_
  refine lv_icmp_le (tgt := 15) hx hb dX9_appendText_9 (by decide) (fun c1 => ?_) (fun c1 => ?_)
  · replace hM := i_pos hM c1
    refine lv_bipush (v := 24) hx hb dX9_appendText_15 (by decide) ?_
    refine lv_istore_n (lv' := [(2, .int 24), (0, .ref (h 0)), (1, .int x1)]) hx hb dX9_appendText_17 rfl hl (by decide) rfl (fun ls hl => ?_)
    exact s_X9_appendText_18 l D cA tS A h F N E N _ _ _ _ _ _ hM _ _ hw _ (lv_sub hl [1, 2, 0] rfl)
  · replace hM := i_neg hM c1
    refine lv_bipush (v := (-6)) hx hb dX9_appendText_12 (by decide) ?_
    cases hM
    exact q_reti E hw dX9_appendText_14
def f_X9_truncateText    (x1 : Int32) (σ : Sg) (wd : Int64) : Option (Int32 × Sg) := (f_X9_isBetween x1 0 (σ 6 0)).bind (fun p1 => (if p1 = 0 then some ((-4), σ) else some (x1, (up σ 6 0 x1))))
set_option maxRecDepth 100000 in
set_option maxHeartbeats 4000000 in
theorem c_X9_truncateText (l : Launch) (D : va_G) (cA : Nat → ClassId) (tS : Nat → Nat) (A : Nat → Prop) (h : Nat → Nat) (F : va_W) (x1 : Int32) (σ : Sg) (wd : Int64) (r0 : Int32) (s0 : Sg) (hM : f_X9_truncateText x1 σ wd = some (r0, s0)) : Ct l yX9_truncateText (Cond.code yX9_truncateText cX9_truncateText 2 (some .int) :: bw) 1 22 D cA tS A [.ref (h 0), .int x1] (wM cA h σ wd ++ F) (some (.int r0)) (wM cA h s0 wd ++ F) := by
  refine ct_of (by decide +kernel) (Nat.le_of_ble_eq_true rfl) ?_
  intro p e s m below meth c E hw ls hl
  replace E : Ev p cX9_truncateText 2 (some .int) RX9 (Cond.code yX9_truncateText cX9_truncateText 2 (some .int) :: bw) D cA tS A s m _ meth c := E
  replace hl : lv_has ls 2 [(0, .ref (h 0)), (1, .int x1)] := hl
  have hx := E.1.1
  have hb := E.1.2.1
  unfold f_X9_truncateText at hM
  refine lv_iload_n hx hb dX9_truncateText_0 rfl (lv_at hl 1 rfl) ?_
  refine lv_iconst (v := 0) hx hb dX9_truncateText_1 (by decide) ?_
  refine lv_aload_n hx hb dX9_truncateText_2 rfl (lv_at hl 0 rfl) ?_
  refine q_get (C := RX9) (T := TX9) (N := 17) (ci := 9) E (fun w h => List.mem_cons_of_mem _ (inX9 w h)) hw 0 rfl rfl 5 (by decide) (List.mem_cons_of_mem _ tb_1162) (v := .int (σ 6 0)) rfl dX9_truncateText_3 ?_
  obtain ⟨p1, h2, hM⟩ := b_some hM
  refine q_cs (As := [.int x1, .int 0, .int (σ 6 0)]) (rest := []) E hw hl (c_X9_isBetween l D cA tS A (wM cA h σ wd ++ F) x1 0 (σ 6 0) p1 h2) 3 (bwS bw_c tb_1224 tb_1225 tb_112 tb_1226) rfl (by decide +kernel) ⟨Nat.le_of_ble_eq_true rfl, Nat.le_of_ble_eq_true rfl⟩ rfl rfl (Nat.le_of_ble_eq_true rfl) ⟨Nat.zero_le _, Nat.zero_le _⟩ dX9_truncateText_6 (fun H locs hw => ?_)
  refine lv_if_ne (tgt := 15) hx hb dX9_truncateText_9 (by decide) (fun c3 => ?_) (fun c3 => ?_)
  · replace hM := i_neg hM c3
    refine lv_aload_n hx hb dX9_truncateText_15 rfl (lv_at hl 0 rfl) ?_
    refine lv_iload_n hx hb dX9_truncateText_16 rfl (lv_at hl 1 rfl) ?_
    refine q_puti (C := RX9) (T := TX9) (N := 17) (ci := 9) E (fun w h => List.mem_cons_of_mem _ (inX9 w h)) tyX9 tyX9_ok nmX9 hw 0 rfl rfl 5 (by decide) (List.mem_cons_of_mem _ tb_1162) rfl rfl (Nat.le_of_ble_eq_true rfl) (wM cA h (up σ 6 0 x1) wd ++ F) st_M_6 dX9_truncateText_17 (fun H locs hw => ?_)
    refine lv_aload_n hx hb dX9_truncateText_20 rfl (lv_at hl 0 rfl) ?_
    refine q_get (C := RX9) (T := TX9) (N := 17) (ci := 9) E (fun w h => List.mem_cons_of_mem _ (inX9 w h)) hw 0 rfl rfl 5 (by decide) (List.mem_cons_of_mem _ tb_1162) (v := .int x1) (q_fld (up_at0 σ 6 x1) rfl) dX9_truncateText_21 ?_
    cases hM
    exact q_reti E hw dX9_truncateText_24
  · replace hM := i_pos hM c3
    refine lv_bipush (v := (-4)) hx hb dX9_truncateText_12 (by decide) ?_
    cases hM
    exact q_reti E hw dX9_truncateText_14
def f_X9_byteAt    (x1 : Int32) (σ : Sg) (wd : Int64) : Option (Int32) := (if (σ 6 0) ≤ x1 then some (-1) else if ib x1 400 then some (σ 5 (ix x1)) else none)
set_option maxRecDepth 100000 in
set_option maxHeartbeats 4000000 in
theorem c_X9_byteAt (l : Launch) (D : va_G) (cA : Nat → ClassId) (tS : Nat → Nat) (A : Nat → Prop) (h : Nat → Nat) (F : va_W) (x1 : Int32) (σ : Sg) (wd : Int64) (r0 : Int32) (hM : f_X9_byteAt x1 σ wd = some r0) : Ct l yX9_byteAt (Cond.code yX9_byteAt cX9_byteAt 2 (some .int) :: bw) 0 0 D cA tS A [.ref (h 0), .int x1] (wM cA h σ wd ++ F) (some (.int r0)) (wM cA h σ wd ++ F) := by
  refine ct_of (by decide +kernel) (Nat.le_of_ble_eq_true rfl) ?_
  intro p e s m below meth c E hw ls hl
  replace E : Ev p cX9_byteAt 2 (some .int) RX9 (Cond.code yX9_byteAt cX9_byteAt 2 (some .int) :: bw) D cA tS A s m _ meth c := E
  replace hl : lv_has ls 2 [(0, .ref (h 0)), (1, .int x1)] := hl
  have hx := E.1.1
  have hb := E.1.2.1
  unfold f_X9_byteAt at hM
  refine lv_iload_n hx hb dX9_byteAt_0 rfl (lv_at hl 1 rfl) ?_
  refine lv_aload_n hx hb dX9_byteAt_1 rfl (lv_at hl 0 rfl) ?_
  refine q_get (C := RX9) (T := TX9) (N := 17) (ci := 9) E (fun w h => List.mem_cons_of_mem _ (inX9 w h)) hw 0 rfl rfl 5 (by decide) (List.mem_cons_of_mem _ tb_1162) (v := .int (σ 6 0)) rfl dX9_byteAt_2 ?_
  refine lv_icmp_ge (tgt := 17) hx hb dX9_byteAt_5 (by decide) (fun c1 => ?_) (fun c1 => ?_)
  · replace hM := i_pos hM c1
    refine lv_iconst (v := (-1)) hx hb dX9_byteAt_17 (by decide) ?_
    cases hM
    exact q_reti E hw dX9_byteAt_18
  · replace hM := i_neg hM c1
    refine lv_aload_n hx hb dX9_byteAt_8 rfl (lv_at hl 0 rfl) ?_
    refine q_get (C := RX9) (T := TX9) (N := 17) (ci := 9) E (fun w h => List.mem_cons_of_mem _ (inX9 w h)) hw 0 rfl rfl 4 (by decide) (List.mem_cons_of_mem _ tb_1161) (v := .ref (h 5)) rfl dX9_byteAt_9 ?_
    refine lv_iload_n hx hb dX9_byteAt_12 rfl (lv_at hl 1 rfl) ?_
    obtain ⟨g2, hM⟩ := g_some hM
    refine q_ald E hw 5 (n := 400) rfl g2 (x := (σ 5 (ix x1))) rfl dX9_byteAt_13 ?_
    refine lv_goto (tgt := 18) hx hb dX9_byteAt_14 (by decide) ?_
    cases hM
    exact q_reti E hw dX9_byteAt_18
def f_X9_isLetter    (x0 : Int32) : Option (Int32) := (f_X9_isBetween x0 97 122).bind (fun p1 => if bz p1 then some p1 else none)
set_option maxRecDepth 100000 in
set_option maxHeartbeats 4000000 in
theorem c_X9_isLetter (l : Launch) (D : va_G) (cA : Nat → ClassId) (tS : Nat → Nat) (A : Nat → Prop) (F : va_W) (x0 : Int32) (r0 : Int32) (hM : f_X9_isLetter x0 = some r0) : Ct l yX9_isLetter (Cond.code yX9_isLetter cX9_isLetter 1 (some .boolean) :: bw) 1 22 D cA tS A [.int x0] F (some (.int r0)) F := by
  refine ct_of (by decide +kernel) (Nat.le_of_ble_eq_true rfl) ?_
  intro p e s m below meth c E hw ls hl
  replace E : Ev p cX9_isLetter 1 (some .boolean) RX9 (Cond.code yX9_isLetter cX9_isLetter 1 (some .boolean) :: bw) D cA tS A s m _ meth c := E
  replace hl : lv_has ls 1 [(0, .int x0)] := hl
  have hx := E.1.1
  have hb := E.1.2.1
  unfold f_X9_isLetter at hM
  refine lv_iload_n hx hb dX9_isLetter_0 rfl (lv_at hl 0 rfl) ?_
  refine lv_bipush (v := 97) hx hb dX9_isLetter_1 (by decide) ?_
  refine lv_bipush (v := 122) hx hb dX9_isLetter_3 (by decide) ?_
  obtain ⟨p1, h2, hM⟩ := b_some hM
  refine q_cs (As := [.int x0, .int 97, .int 122]) (rest := []) E hw hl (c_X9_isBetween l D cA tS A F x0 97 122 p1 h2) 3 (bwS bw_c tb_1224 tb_1225 tb_112 tb_1226) rfl (by decide +kernel) ⟨Nat.le_of_ble_eq_true rfl, Nat.le_of_ble_eq_true rfl⟩ rfl rfl (Nat.le_of_ble_eq_true rfl) ⟨Nat.zero_le _, Nat.zero_le _⟩ dX9_isLetter_5 (fun H locs hw => ?_)
  obtain ⟨g3, hM⟩ := g_some hM
  cases hM
  exact q_retz E hw g3 dX9_isLetter_8
def f_X9_isDigit    (x0 : Int32) : Option (Int32) := (f_X9_isBetween x0 48 57).bind (fun p1 => if bz p1 then some p1 else none)
set_option maxRecDepth 100000 in
set_option maxHeartbeats 4000000 in
theorem c_X9_isDigit (l : Launch) (D : va_G) (cA : Nat → ClassId) (tS : Nat → Nat) (A : Nat → Prop) (F : va_W) (x0 : Int32) (r0 : Int32) (hM : f_X9_isDigit x0 = some r0) : Ct l yX9_isDigit (Cond.code yX9_isDigit cX9_isDigit 1 (some .boolean) :: bw) 1 22 D cA tS A [.int x0] F (some (.int r0)) F := by
  refine ct_of (by decide +kernel) (Nat.le_of_ble_eq_true rfl) ?_
  intro p e s m below meth c E hw ls hl
  replace E : Ev p cX9_isDigit 1 (some .boolean) RX9 (Cond.code yX9_isDigit cX9_isDigit 1 (some .boolean) :: bw) D cA tS A s m _ meth c := E
  replace hl : lv_has ls 1 [(0, .int x0)] := hl
  have hx := E.1.1
  have hb := E.1.2.1
  unfold f_X9_isDigit at hM
  refine lv_iload_n hx hb dX9_isDigit_0 rfl (lv_at hl 0 rfl) ?_
  refine lv_bipush (v := 48) hx hb dX9_isDigit_1 (by decide) ?_
  refine lv_bipush (v := 57) hx hb dX9_isDigit_3 (by decide) ?_
  obtain ⟨p1, h2, hM⟩ := b_some hM
  refine q_cs (As := [.int x0, .int 48, .int 57]) (rest := []) E hw hl (c_X9_isBetween l D cA tS A F x0 48 57 p1 h2) 3 (bwS bw_c tb_1224 tb_1225 tb_112 tb_1226) rfl (by decide +kernel) ⟨Nat.le_of_ble_eq_true rfl, Nat.le_of_ble_eq_true rfl⟩ rfl rfl (Nat.le_of_ble_eq_true rfl) ⟨Nat.zero_le _, Nat.zero_le _⟩ dX9_isDigit_5 (fun H locs hw => ?_)
  obtain ⟨g3, hM⟩ := g_some hM
  cases hM
  exact q_retz E hw g3 dX9_isDigit_8
def f_X9_nextToken_96 (N : Nat)   : Nat → Sg → Int64 → Option (Sg × Int64)
  | 0, _, _ => none
  | n + 1, σ, wd => (f_X9_byteAt (σ 7 0) σ wd).bind (fun p1 => (f_X9_isLetter p1).bind (fun p3 => (if p3 = 0 then some (σ, wd) else (if 9 ≤ (σ 10 0) then f_X9_nextToken_96 N n (up (up σ 10 0 ((σ 10 0) + 1)) 7 0 ((σ 7 0) + 1)) wd else (f_X9_byteAt (σ 7 0) σ wd).bind (fun p7 => f_X9_nextToken_96 N n (up (up σ 10 0 ((σ 10 0) + 1)) 7 0 ((σ 7 0) + 1)) (((27 * wd) + ((p7 : Int32).toInt64)) - 96))))))
set_option maxRecDepth 100000 in
set_option maxHeartbeats 4000000 in
theorem s_X9_nextToken_96 (l : Launch) (D : va_G) (cA : Nat → ClassId) (tS : Nat → Nat) (A : Nat → Prop) (h : Nat → Nat) (F : va_W) (N : Nat) {p : Program} {e : Env} {s : State} {m : MethodId} {args : Array Value} {below : List Frame} {meth : Method} {c : Code} (E : Ev p cX9_nextToken 2 none RX9 (Cond.code yX9_nextToken cX9_nextToken 2 none :: bw) D cA tS A s m args meth c) : ∀ (n : Nat) (σ : Sg) (wd : Int64) (s0 : Sg) (wd0 : Int64) (hM : f_X9_nextToken_96 N n σ wd = some (s0, wd0)) (H : Heap) (locs : List Loc) (hw : Wd D A (wM cA h σ wd ++ F) s.heap H locs) (ls : Array Slot) (hl : lv_has ls 2 [(0, .ref (h 0))]), W p l e ({ frames := 2, cells := 0, slots := 0, locals := 42 } : Room) s m args below meth c H locs 0 0 (MQ below (QW D A none (wM cA h s0 wd0 ++ F)) args s 0 0 A) (F0 m 96 ls []) := by
  have hx := E.1.1
  have hb := E.1.2.1
  intro n
  induction n with
  | zero =>
    intro σ wd s0 wd0 hM
    cases hM
  | succ n ih =>
    intro σ wd s0 wd0 hM H locs hw ls hl
    rw [f_X9_nextToken_96] at hM
    refine lv_aload_n hx hb dX9_nextToken_96 rfl (lv_at hl 0 rfl) ?_
    refine lv_aload_n hx hb dX9_nextToken_97 rfl (lv_at hl 0 rfl) ?_
    refine q_get (C := RX9) (T := TX9) (N := 17) (ci := 9) E (fun w h => List.mem_cons_of_mem _ (inX9 w h)) hw 0 rfl rfl 6 (by decide) (List.mem_cons_of_mem _ tb_1163) (v := .int (σ 7 0)) rfl dX9_nextToken_98 ?_
    obtain ⟨p1, h2, hM⟩ := b_some hM
    refine q_cv (As := [.int (σ 7 0)]) (rest := []) E hw hl (c_X9_byteAt l D cA tS A h F (σ 7 0) σ wd p1 h2) 1 (bwV bw_c tb_1625 tb_1627 tb_91 tb_112 tb_1628) rfl (by decide +kernel) ⟨Nat.le_of_ble_eq_true rfl, Nat.le_of_ble_eq_true rfl⟩ 0 9 (T := TX9) (N := 17) rfl rfl rfl rfl (Nat.le_of_ble_eq_true rfl) ⟨Nat.zero_le _, Nat.zero_le _⟩ dX9_nextToken_101 (fun H locs hw => ?_)
    obtain ⟨p3, h4, hM⟩ := b_some hM
    refine q_cs (As := [.int p1]) (rest := []) E hw hl (c_X9_isLetter l D cA tS A (wM cA h σ wd ++ F) p1 p3 h4) 1 (bwS bw_c tb_1629 tb_1630 tb_112 tb_1631) rfl (by decide +kernel) ⟨Nat.le_of_ble_eq_true rfl, Nat.le_of_ble_eq_true rfl⟩ rfl rfl (Nat.le_of_ble_eq_true rfl) ⟨Nat.zero_le _, Nat.zero_le _⟩ dX9_nextToken_104 (fun H locs hw => ?_)
    refine lv_if_eq (tgt := 278) hx hb dX9_nextToken_107 (by decide) (fun c5 => ?_) (fun c5 => ?_)
    · replace hM := i_pos hM c5
      cases hM
      exact q_retv E hw dX9_nextToken_278
    · replace hM := i_neg hM c5
      refine lv_aload_n hx hb dX9_nextToken_110 rfl (lv_at hl 0 rfl) ?_
      refine lv_aload_n hx hb dX9_nextToken_111 rfl (lv_at hl 0 rfl) ?_
      refine q_get (C := RX9) (T := TX9) (N := 17) (ci := 9) E (fun w h => List.mem_cons_of_mem _ (inX9 w h)) hw 0 rfl rfl 9 (by decide) (List.mem_cons_of_mem _ tb_1166) (v := .int (σ 10 0)) rfl dX9_nextToken_112 ?_
      refine lv_bipush (v := 9) hx hb dX9_nextToken_115 (by decide) ?_
      refine lv_icmp_ge (tgt := 145) hx hb dX9_nextToken_117 (by decide) (fun c6 => ?_) (fun c6 => ?_)
      · replace hM := i_pos hM c6
        refine lv_aload_n hx hb dX9_nextToken_145 rfl (lv_at hl 0 rfl) ?_
        refine q_get (C := RX9) (T := TX9) (N := 17) (ci := 9) E (fun w h => List.mem_cons_of_mem _ (inX9 w h)) hw 0 rfl rfl 14 (by decide) (List.mem_cons_of_mem _ tb_1171) (v := .long wd) rfl dX9_nextToken_146 ?_
        refine q_putl (C := RX9) (T := TX9) (N := 17) (ci := 9) E (fun w h => List.mem_cons_of_mem _ (inX9 w h)) tyX9 tyX9_ok nmX9 hw 0 rfl rfl 14 (by decide) (List.mem_cons_of_mem _ tb_1171) rfl rfl (Nat.le_of_ble_eq_true rfl) (wM cA h σ wd ++ F) rfl dX9_nextToken_149 (fun H locs hw => ?_)
        refine lv_aload_n hx hb dX9_nextToken_152 rfl (lv_at hl 0 rfl) ?_
        refine lv_dup hx hb dX9_nextToken_153 rfl ?_
        refine q_get (C := RX9) (T := TX9) (N := 17) (ci := 9) E (fun w h => List.mem_cons_of_mem _ (inX9 w h)) hw 0 rfl rfl 9 (by decide) (List.mem_cons_of_mem _ tb_1166) (v := .int (σ 10 0)) rfl dX9_nextToken_154 ?_
        refine lv_iconst (v := 1) hx hb dX9_nextToken_157 (by decide) ?_
        refine lv_iadd hx hb dX9_nextToken_158 ?_
        refine q_puti (C := RX9) (T := TX9) (N := 17) (ci := 9) E (fun w h => List.mem_cons_of_mem _ (inX9 w h)) tyX9 tyX9_ok nmX9 hw 0 rfl rfl 9 (by decide) (List.mem_cons_of_mem _ tb_1166) rfl rfl (Nat.le_of_ble_eq_true rfl) (wM cA h (up σ 10 0 ((σ 10 0) + 1)) wd ++ F) st_M_10 dX9_nextToken_159 (fun H locs hw => ?_)
        refine lv_aload_n hx hb dX9_nextToken_162 rfl (lv_at hl 0 rfl) ?_
        refine lv_dup hx hb dX9_nextToken_163 rfl ?_
        refine q_get (C := RX9) (T := TX9) (N := 17) (ci := 9) E (fun w h => List.mem_cons_of_mem _ (inX9 w h)) hw 0 rfl rfl 6 (by decide) (List.mem_cons_of_mem _ tb_1163) (v := .int (σ 7 0)) (q_fld (congrFun (up_ne σ 10 0 ((σ 10 0) + 1) 7 (by decide)) 0) rfl) dX9_nextToken_164 ?_
        refine lv_iconst (v := 1) hx hb dX9_nextToken_167 (by decide) ?_
        refine lv_iadd hx hb dX9_nextToken_168 ?_
        refine q_puti (C := RX9) (T := TX9) (N := 17) (ci := 9) E (fun w h => List.mem_cons_of_mem _ (inX9 w h)) tyX9 tyX9_ok nmX9 hw 0 rfl rfl 6 (by decide) (List.mem_cons_of_mem _ tb_1163) rfl rfl (Nat.le_of_ble_eq_true rfl) (wM cA h (up (up σ 10 0 ((σ 10 0) + 1)) 7 0 ((σ 7 0) + 1)) wd ++ F) st_M_7 dX9_nextToken_169 (fun H locs hw => ?_)
        refine lv_goto (tgt := 96) hx hb dX9_nextToken_172 (by decide) ?_
        exact ih _ _ _ _ hM _ _ hw _ (lv_sub hl [0] rfl)
      · replace hM := i_neg hM c6
        refine lv_ldc2 (v := 27) hx hb E.1.2.2.2.1 (E.1.2.2.2.2 _ (List.mem_cons_of_mem _ tb_1632)) dX9_nextToken_120 ?_
        refine lv_aload_n hx hb dX9_nextToken_123 rfl (lv_at hl 0 rfl) ?_
        refine q_get (C := RX9) (T := TX9) (N := 17) (ci := 9) E (fun w h => List.mem_cons_of_mem _ (inX9 w h)) hw 0 rfl rfl 14 (by decide) (List.mem_cons_of_mem _ tb_1171) (v := .long wd) rfl dX9_nextToken_124 ?_
        refine lv_lmul hx hb dX9_nextToken_127 ?_
        refine lv_aload_n hx hb dX9_nextToken_128 rfl (lv_at hl 0 rfl) ?_
        refine lv_aload_n hx hb dX9_nextToken_129 rfl (lv_at hl 0 rfl) ?_
        refine q_get (C := RX9) (T := TX9) (N := 17) (ci := 9) E (fun w h => List.mem_cons_of_mem _ (inX9 w h)) hw 0 rfl rfl 6 (by decide) (List.mem_cons_of_mem _ tb_1163) (v := .int (σ 7 0)) rfl dX9_nextToken_130 ?_
        obtain ⟨p7, h8, hM⟩ := b_some hM
        refine q_cv (As := [.int (σ 7 0)]) (rest := [.long (27 * wd), .ref (h 0)]) E hw hl (c_X9_byteAt l D cA tS A h F (σ 7 0) σ wd p7 h8) 1 (bwV bw_c tb_1625 tb_1627 tb_91 tb_112 tb_1628) rfl (by decide +kernel) ⟨Nat.le_of_ble_eq_true rfl, Nat.le_of_ble_eq_true rfl⟩ 0 9 (T := TX9) (N := 17) rfl rfl rfl rfl (Nat.le_of_ble_eq_true rfl) ⟨Nat.zero_le _, Nat.zero_le _⟩ dX9_nextToken_133 (fun H locs hw => ?_)
        refine lv_i2l (v := (p7 : Int32).toInt64) hx hb dX9_nextToken_136 rfl ?_
        refine lv_ladd hx hb dX9_nextToken_137 ?_
        refine lv_ldc2 (v := 96) hx hb E.1.2.2.2.1 (E.1.2.2.2.2 _ (List.mem_cons_of_mem _ tb_1633)) dX9_nextToken_138 ?_
        refine lv_lsub hx hb dX9_nextToken_141 ?_
        refine lv_goto (tgt := 149) hx hb dX9_nextToken_142 (by decide) ?_
        refine q_putl (C := RX9) (T := TX9) (N := 17) (ci := 9) E (fun w h => List.mem_cons_of_mem _ (inX9 w h)) tyX9 tyX9_ok nmX9 hw 0 rfl rfl 14 (by decide) (List.mem_cons_of_mem _ tb_1171) rfl rfl (Nat.le_of_ble_eq_true rfl) (wM cA h σ (((27 * wd) + ((p7 : Int32).toInt64)) - 96) ++ F) rfl dX9_nextToken_149 (fun H locs hw => ?_)
        refine lv_aload_n hx hb dX9_nextToken_152 rfl (lv_at hl 0 rfl) ?_
        refine lv_dup hx hb dX9_nextToken_153 rfl ?_
        refine q_get (C := RX9) (T := TX9) (N := 17) (ci := 9) E (fun w h => List.mem_cons_of_mem _ (inX9 w h)) hw 0 rfl rfl 9 (by decide) (List.mem_cons_of_mem _ tb_1166) (v := .int (σ 10 0)) rfl dX9_nextToken_154 ?_
        refine lv_iconst (v := 1) hx hb dX9_nextToken_157 (by decide) ?_
        refine lv_iadd hx hb dX9_nextToken_158 ?_
        refine q_puti (C := RX9) (T := TX9) (N := 17) (ci := 9) E (fun w h => List.mem_cons_of_mem _ (inX9 w h)) tyX9 tyX9_ok nmX9 hw 0 rfl rfl 9 (by decide) (List.mem_cons_of_mem _ tb_1166) rfl rfl (Nat.le_of_ble_eq_true rfl) (wM cA h (up σ 10 0 ((σ 10 0) + 1)) (((27 * wd) + ((p7 : Int32).toInt64)) - 96) ++ F) st_M_10 dX9_nextToken_159 (fun H locs hw => ?_)
        refine lv_aload_n hx hb dX9_nextToken_162 rfl (lv_at hl 0 rfl) ?_
        refine lv_dup hx hb dX9_nextToken_163 rfl ?_
        refine q_get (C := RX9) (T := TX9) (N := 17) (ci := 9) E (fun w h => List.mem_cons_of_mem _ (inX9 w h)) hw 0 rfl rfl 6 (by decide) (List.mem_cons_of_mem _ tb_1163) (v := .int (σ 7 0)) (q_fld (congrFun (up_ne σ 10 0 ((σ 10 0) + 1) 7 (by decide)) 0) rfl) dX9_nextToken_164 ?_
        refine lv_iconst (v := 1) hx hb dX9_nextToken_167 (by decide) ?_
        refine lv_iadd hx hb dX9_nextToken_168 ?_
        refine q_puti (C := RX9) (T := TX9) (N := 17) (ci := 9) E (fun w h => List.mem_cons_of_mem _ (inX9 w h)) tyX9 tyX9_ok nmX9 hw 0 rfl rfl 6 (by decide) (List.mem_cons_of_mem _ tb_1163) rfl rfl (Nat.le_of_ble_eq_true rfl) (wM cA h (up (up σ 10 0 ((σ 10 0) + 1)) 7 0 ((σ 7 0) + 1)) (((27 * wd) + ((p7 : Int32).toInt64)) - 96) ++ F) st_M_7 dX9_nextToken_169 (fun H locs hw => ?_)
        refine lv_goto (tgt := 96) hx hb dX9_nextToken_172 (by decide) ?_
        exact ih _ _ _ _ hM _ _ hw _ (lv_sub hl [0] rfl)
def f_X9_nextToken_187 (N : Nat)   : Nat → Sg → Int64 → Option (Sg × Int64)
  | 0, _, _ => none
  | n + 1, σ, wd => (f_X9_byteAt (σ 7 0) σ wd).bind (fun p1 => (f_X9_isDigit p1).bind (fun p3 => (if p3 = 0 then some (σ, wd) else (if (σ 11 0) ≤ 99999 then (f_X9_byteAt (σ 7 0) σ wd).bind (fun p7 => f_X9_nextToken_187 N n (up (up σ 11 0 (((10 * (σ 11 0)) + p7) - 48)) 7 0 ((σ 7 0) + 1)) wd) else f_X9_nextToken_187 N n (up (up σ 11 0 (σ 11 0)) 7 0 ((σ 7 0) + 1)) wd))))
set_option maxRecDepth 100000 in
set_option maxHeartbeats 4000000 in
theorem s_X9_nextToken_187 (l : Launch) (D : va_G) (cA : Nat → ClassId) (tS : Nat → Nat) (A : Nat → Prop) (h : Nat → Nat) (F : va_W) (N : Nat) {p : Program} {e : Env} {s : State} {m : MethodId} {args : Array Value} {below : List Frame} {meth : Method} {c : Code} (E : Ev p cX9_nextToken 2 none RX9 (Cond.code yX9_nextToken cX9_nextToken 2 none :: bw) D cA tS A s m args meth c) : ∀ (n : Nat) (σ : Sg) (wd : Int64) (s0 : Sg) (wd0 : Int64) (hM : f_X9_nextToken_187 N n σ wd = some (s0, wd0)) (H : Heap) (locs : List Loc) (hw : Wd D A (wM cA h σ wd ++ F) s.heap H locs) (ls : Array Slot) (hl : lv_has ls 2 [(0, .ref (h 0))]), W p l e ({ frames := 2, cells := 0, slots := 0, locals := 42 } : Room) s m args below meth c H locs 0 0 (MQ below (QW D A none (wM cA h s0 wd0 ++ F)) args s 0 0 A) (F0 m 187 ls []) := by
  have hx := E.1.1
  have hb := E.1.2.1
  intro n
  induction n with
  | zero =>
    intro σ wd s0 wd0 hM
    cases hM
  | succ n ih =>
    intro σ wd s0 wd0 hM H locs hw ls hl
    rw [f_X9_nextToken_187] at hM
    refine lv_aload_n hx hb dX9_nextToken_187 rfl (lv_at hl 0 rfl) ?_
    refine lv_aload_n hx hb dX9_nextToken_188 rfl (lv_at hl 0 rfl) ?_
    refine q_get (C := RX9) (T := TX9) (N := 17) (ci := 9) E (fun w h => List.mem_cons_of_mem _ (inX9 w h)) hw 0 rfl rfl 6 (by decide) (List.mem_cons_of_mem _ tb_1163) (v := .int (σ 7 0)) rfl dX9_nextToken_189 ?_
    obtain ⟨p1, h2, hM⟩ := b_some hM
    refine q_cv (As := [.int (σ 7 0)]) (rest := []) E hw hl (c_X9_byteAt l D cA tS A h F (σ 7 0) σ wd p1 h2) 1 (bwV bw_c tb_1625 tb_1627 tb_91 tb_112 tb_1628) rfl (by decide +kernel) ⟨Nat.le_of_ble_eq_true rfl, Nat.le_of_ble_eq_true rfl⟩ 0 9 (T := TX9) (N := 17) rfl rfl rfl rfl (Nat.le_of_ble_eq_true rfl) ⟨Nat.zero_le _, Nat.zero_le _⟩ dX9_nextToken_192 (fun H locs hw => ?_)
    obtain ⟨p3, h4, hM⟩ := b_some hM
    refine q_cs (As := [.int p1]) (rest := []) E hw hl (c_X9_isDigit l D cA tS A (wM cA h σ wd ++ F) p1 p3 h4) 1 (bwS bw_c tb_1634 tb_1635 tb_112 tb_1636) rfl (by decide +kernel) ⟨Nat.le_of_ble_eq_true rfl, Nat.le_of_ble_eq_true rfl⟩ rfl rfl (Nat.le_of_ble_eq_true rfl) ⟨Nat.zero_le _, Nat.zero_le _⟩ dX9_nextToken_195 (fun H locs hw => ?_)
    refine lv_if_eq (tgt := 278) hx hb dX9_nextToken_198 (by decide) (fun c5 => ?_) (fun c5 => ?_)
    · replace hM := i_pos hM c5
      cases hM
      exact q_retv E hw dX9_nextToken_278
    · replace hM := i_neg hM c5
      refine lv_aload_n hx hb dX9_nextToken_201 rfl (lv_at hl 0 rfl) ?_
      refine lv_aload_n hx hb dX9_nextToken_202 rfl (lv_at hl 0 rfl) ?_
      refine q_get (C := RX9) (T := TX9) (N := 17) (ci := 9) E (fun w h => List.mem_cons_of_mem _ (inX9 w h)) hw 0 rfl rfl 10 (by decide) (List.mem_cons_of_mem _ tb_1167) (v := .int (σ 11 0)) rfl dX9_nextToken_203 ?_
      refine lv_ldc (v := 99999) hx hb E.1.2.2.2.1 (E.1.2.2.2.2 _ (List.mem_cons_of_mem _ tb_1637)) dX9_nextToken_206 ?_
      refine lv_icmp_le (tgt := 218) hx hb dX9_nextToken_208 (by decide) (fun c6 => ?_) (fun c6 => ?_)
      · replace hM := i_pos hM c6
        refine lv_bipush (v := 10) hx hb dX9_nextToken_218 (by decide) ?_
        refine lv_aload_n hx hb dX9_nextToken_220 rfl (lv_at hl 0 rfl) ?_
        refine q_get (C := RX9) (T := TX9) (N := 17) (ci := 9) E (fun w h => List.mem_cons_of_mem _ (inX9 w h)) hw 0 rfl rfl 10 (by decide) (List.mem_cons_of_mem _ tb_1167) (v := .int (σ 11 0)) rfl dX9_nextToken_221 ?_
        refine lv_imul hx hb dX9_nextToken_224 ?_
        refine lv_aload_n hx hb dX9_nextToken_225 rfl (lv_at hl 0 rfl) ?_
        refine lv_aload_n hx hb dX9_nextToken_226 rfl (lv_at hl 0 rfl) ?_
        refine q_get (C := RX9) (T := TX9) (N := 17) (ci := 9) E (fun w h => List.mem_cons_of_mem _ (inX9 w h)) hw 0 rfl rfl 6 (by decide) (List.mem_cons_of_mem _ tb_1163) (v := .int (σ 7 0)) rfl dX9_nextToken_227 ?_
        obtain ⟨p7, h8, hM⟩ := b_some hM
        refine q_cv (As := [.int (σ 7 0)]) (rest := [.int (10 * (σ 11 0)), .ref (h 0)]) E hw hl (c_X9_byteAt l D cA tS A h F (σ 7 0) σ wd p7 h8) 1 (bwV bw_c tb_1625 tb_1627 tb_91 tb_112 tb_1628) rfl (by decide +kernel) ⟨Nat.le_of_ble_eq_true rfl, Nat.le_of_ble_eq_true rfl⟩ 0 9 (T := TX9) (N := 17) rfl rfl rfl rfl (Nat.le_of_ble_eq_true rfl) ⟨Nat.zero_le _, Nat.zero_le _⟩ dX9_nextToken_230 (fun H locs hw => ?_)
        refine lv_iadd hx hb dX9_nextToken_233 ?_
        refine lv_bipush (v := 48) hx hb dX9_nextToken_234 (by decide) ?_
        refine lv_isub hx hb dX9_nextToken_236 ?_
        refine q_puti (C := RX9) (T := TX9) (N := 17) (ci := 9) E (fun w h => List.mem_cons_of_mem _ (inX9 w h)) tyX9 tyX9_ok nmX9 hw 0 rfl rfl 10 (by decide) (List.mem_cons_of_mem _ tb_1167) rfl rfl (Nat.le_of_ble_eq_true rfl) (wM cA h (up σ 11 0 (((10 * (σ 11 0)) + p7) - 48)) wd ++ F) st_M_11 dX9_nextToken_237 (fun H locs hw => ?_)
        refine lv_aload_n hx hb dX9_nextToken_240 rfl (lv_at hl 0 rfl) ?_
        refine lv_dup hx hb dX9_nextToken_241 rfl ?_
        refine q_get (C := RX9) (T := TX9) (N := 17) (ci := 9) E (fun w h => List.mem_cons_of_mem _ (inX9 w h)) hw 0 rfl rfl 6 (by decide) (List.mem_cons_of_mem _ tb_1163) (v := .int (σ 7 0)) (q_fld (congrFun (up_ne σ 11 0 (((10 * (σ 11 0)) + p7) - 48) 7 (by decide)) 0) rfl) dX9_nextToken_242 ?_
        refine lv_iconst (v := 1) hx hb dX9_nextToken_245 (by decide) ?_
        refine lv_iadd hx hb dX9_nextToken_246 ?_
        refine q_puti (C := RX9) (T := TX9) (N := 17) (ci := 9) E (fun w h => List.mem_cons_of_mem _ (inX9 w h)) tyX9 tyX9_ok nmX9 hw 0 rfl rfl 6 (by decide) (List.mem_cons_of_mem _ tb_1163) rfl rfl (Nat.le_of_ble_eq_true rfl) (wM cA h (up (up σ 11 0 (((10 * (σ 11 0)) + p7) - 48)) 7 0 ((σ 7 0) + 1)) wd ++ F) st_M_7 dX9_nextToken_247 (fun H locs hw => ?_)
        refine lv_goto (tgt := 187) hx hb dX9_nextToken_250 (by decide) ?_
        exact ih _ _ _ _ hM _ _ hw _ (lv_sub hl [0] rfl)
      · replace hM := i_neg hM c6
        refine lv_aload_n hx hb dX9_nextToken_211 rfl (lv_at hl 0 rfl) ?_
        refine q_get (C := RX9) (T := TX9) (N := 17) (ci := 9) E (fun w h => List.mem_cons_of_mem _ (inX9 w h)) hw 0 rfl rfl 10 (by decide) (List.mem_cons_of_mem _ tb_1167) (v := .int (σ 11 0)) rfl dX9_nextToken_212 ?_
        refine lv_goto (tgt := 237) hx hb dX9_nextToken_215 (by decide) ?_
        refine q_puti (C := RX9) (T := TX9) (N := 17) (ci := 9) E (fun w h => List.mem_cons_of_mem _ (inX9 w h)) tyX9 tyX9_ok nmX9 hw 0 rfl rfl 10 (by decide) (List.mem_cons_of_mem _ tb_1167) rfl rfl (Nat.le_of_ble_eq_true rfl) (wM cA h (up σ 11 0 (σ 11 0)) wd ++ F) st_M_11 dX9_nextToken_237 (fun H locs hw => ?_)
        refine lv_aload_n hx hb dX9_nextToken_240 rfl (lv_at hl 0 rfl) ?_
        refine lv_dup hx hb dX9_nextToken_241 rfl ?_
        refine q_get (C := RX9) (T := TX9) (N := 17) (ci := 9) E (fun w h => List.mem_cons_of_mem _ (inX9 w h)) hw 0 rfl rfl 6 (by decide) (List.mem_cons_of_mem _ tb_1163) (v := .int (σ 7 0)) (q_fld (congrFun (up_ne σ 11 0 (σ 11 0) 7 (by decide)) 0) rfl) dX9_nextToken_242 ?_
        refine lv_iconst (v := 1) hx hb dX9_nextToken_245 (by decide) ?_
        refine lv_iadd hx hb dX9_nextToken_246 ?_
        refine q_puti (C := RX9) (T := TX9) (N := 17) (ci := 9) E (fun w h => List.mem_cons_of_mem _ (inX9 w h)) tyX9 tyX9_ok nmX9 hw 0 rfl rfl 6 (by decide) (List.mem_cons_of_mem _ tb_1163) rfl rfl (Nat.le_of_ble_eq_true rfl) (wM cA h (up (up σ 11 0 (σ 11 0)) 7 0 ((σ 7 0) + 1)) wd ++ F) st_M_7 dX9_nextToken_247 (fun H locs hw => ?_)
        refine lv_goto (tgt := 187) hx hb dX9_nextToken_250 (by decide) ?_
        exact ih _ _ _ _ hM _ _ hw _ (lv_sub hl [0] rfl)
def f_X9_nextToken_0 (N : Nat)   : Nat → Sg → Int64 → Option (Sg × Int64)
  | 0, _, _ => none
  | n + 1, σ, wd => (f_X9_byteAt (σ 7 0) σ wd).bind (fun p1 => (if p1 = 32 then f_X9_nextToken_0 N n (up σ 7 0 ((σ 7 0) + 1)) wd else (f_X9_byteAt (σ 7 0) σ wd).bind (fun p4 => (if p4 = 10 then f_X9_nextToken_0 N n (up σ 7 0 ((σ 7 0) + 1)) wd else (f_X9_byteAt (σ 7 0) (up (up (up σ 8 0 (σ 7 0)) 10 0 0) 11 0 0) 0).bind (fun p7 => (if p7 = (-1) then some ((up (up (up (up σ 8 0 (σ 7 0)) 10 0 0) 11 0 0) 9 0 0), 0) else (f_X9_isLetter p7).bind (fun p10 => (if p10 = 0 then (f_X9_isDigit p7).bind (fun p13 => (if p13 = 0 then (if p7 = 59 then some ((up (up (up (up (up σ 8 0 (σ 7 0)) 10 0 0) 11 0 0) 9 0 4) 7 0 ((σ 7 0) + 1)), 0) else some ((up (up (up (up (up σ 8 0 (σ 7 0)) 10 0 0) 11 0 0) 9 0 1) 7 0 ((σ 7 0) + 1)), 0)) else f_X9_nextToken_187 N N (up (up (up (up σ 8 0 (σ 7 0)) 10 0 0) 11 0 0) 9 0 3) 0)) else f_X9_nextToken_96 N N (up (up (up (up σ 8 0 (σ 7 0)) 10 0 0) 11 0 0) 9 0 2) 0))))))))
set_option maxRecDepth 100000 in
set_option maxHeartbeats 4000000 in
theorem s_X9_nextToken_0 (l : Launch) (D : va_G) (cA : Nat → ClassId) (tS : Nat → Nat) (A : Nat → Prop) (h : Nat → Nat) (F : va_W) (N : Nat) {p : Program} {e : Env} {s : State} {m : MethodId} {args : Array Value} {below : List Frame} {meth : Method} {c : Code} (E : Ev p cX9_nextToken 2 none RX9 (Cond.code yX9_nextToken cX9_nextToken 2 none :: bw) D cA tS A s m args meth c) : ∀ (n : Nat) (σ : Sg) (wd : Int64) (s0 : Sg) (wd0 : Int64) (hM : f_X9_nextToken_0 N n σ wd = some (s0, wd0)) (H : Heap) (locs : List Loc) (hw : Wd D A (wM cA h σ wd ++ F) s.heap H locs) (ls : Array Slot) (hl : lv_has ls 2 [(0, .ref (h 0))]), W p l e ({ frames := 2, cells := 0, slots := 0, locals := 42 } : Room) s m args below meth c H locs 0 0 (MQ below (QW D A none (wM cA h s0 wd0 ++ F)) args s 0 0 A) (F0 m 0 ls []) := by
  have hx := E.1.1
  have hb := E.1.2.1
  intro n
  induction n with
  | zero =>
    intro σ wd s0 wd0 hM
    cases hM
  | succ n ih =>
    intro σ wd s0 wd0 hM H locs hw ls hl
    rw [f_X9_nextToken_0] at hM
    refine lv_aload_n hx hb dX9_nextToken_0 rfl (lv_at hl 0 rfl) ?_
    refine lv_aload_n hx hb dX9_nextToken_1 rfl (lv_at hl 0 rfl) ?_
    refine q_get (C := RX9) (T := TX9) (N := 17) (ci := 9) E (fun w h => List.mem_cons_of_mem _ (inX9 w h)) hw 0 rfl rfl 6 (by decide) (List.mem_cons_of_mem _ tb_1163) (v := .int (σ 7 0)) rfl dX9_nextToken_2 ?_
    obtain ⟨p1, h2, hM⟩ := b_some hM
    refine q_cv (As := [.int (σ 7 0)]) (rest := []) E hw hl (c_X9_byteAt l D cA tS A h F (σ 7 0) σ wd p1 h2) 1 (bwV bw_c tb_1625 tb_1627 tb_91 tb_112 tb_1628) rfl (by decide +kernel) ⟨Nat.le_of_ble_eq_true rfl, Nat.le_of_ble_eq_true rfl⟩ 0 9 (T := TX9) (N := 17) rfl rfl rfl rfl (Nat.le_of_ble_eq_true rfl) ⟨Nat.zero_le _, Nat.zero_le _⟩ dX9_nextToken_5 (fun H locs hw => ?_)
    refine lv_bipush (v := 32) hx hb dX9_nextToken_8 (by decide) ?_
    refine lv_icmp_eq (tgt := 26) hx hb dX9_nextToken_10 (by decide) (fun c3 => ?_) (fun c3 => ?_)
    · replace hM := i_pos hM c3
      refine lv_aload_n hx hb dX9_nextToken_26 rfl (lv_at hl 0 rfl) ?_
      refine lv_dup hx hb dX9_nextToken_27 rfl ?_
      refine q_get (C := RX9) (T := TX9) (N := 17) (ci := 9) E (fun w h => List.mem_cons_of_mem _ (inX9 w h)) hw 0 rfl rfl 6 (by decide) (List.mem_cons_of_mem _ tb_1163) (v := .int (σ 7 0)) rfl dX9_nextToken_28 ?_
      refine lv_iconst (v := 1) hx hb dX9_nextToken_31 (by decide) ?_
      refine lv_iadd hx hb dX9_nextToken_32 ?_
      refine q_puti (C := RX9) (T := TX9) (N := 17) (ci := 9) E (fun w h => List.mem_cons_of_mem _ (inX9 w h)) tyX9 tyX9_ok nmX9 hw 0 rfl rfl 6 (by decide) (List.mem_cons_of_mem _ tb_1163) rfl rfl (Nat.le_of_ble_eq_true rfl) (wM cA h (up σ 7 0 ((σ 7 0) + 1)) wd ++ F) st_M_7 dX9_nextToken_33 (fun H locs hw => ?_)
      refine lv_goto (tgt := 0) hx hb dX9_nextToken_36 (by decide) ?_
      exact ih _ _ _ _ hM _ _ hw _ (lv_sub hl [0] rfl)
    · replace hM := i_neg hM c3
      refine lv_aload_n hx hb dX9_nextToken_13 rfl (lv_at hl 0 rfl) ?_
      refine lv_aload_n hx hb dX9_nextToken_14 rfl (lv_at hl 0 rfl) ?_
      refine q_get (C := RX9) (T := TX9) (N := 17) (ci := 9) E (fun w h => List.mem_cons_of_mem _ (inX9 w h)) hw 0 rfl rfl 6 (by decide) (List.mem_cons_of_mem _ tb_1163) (v := .int (σ 7 0)) rfl dX9_nextToken_15 ?_
      obtain ⟨p4, h5, hM⟩ := b_some hM
      refine q_cv (As := [.int (σ 7 0)]) (rest := []) E hw hl (c_X9_byteAt l D cA tS A h F (σ 7 0) σ wd p4 h5) 1 (bwV bw_c tb_1625 tb_1627 tb_91 tb_112 tb_1628) rfl (by decide +kernel) ⟨Nat.le_of_ble_eq_true rfl, Nat.le_of_ble_eq_true rfl⟩ 0 9 (T := TX9) (N := 17) rfl rfl rfl rfl (Nat.le_of_ble_eq_true rfl) ⟨Nat.zero_le _, Nat.zero_le _⟩ dX9_nextToken_18 (fun H locs hw => ?_)
      refine lv_bipush (v := 10) hx hb dX9_nextToken_21 (by decide) ?_
      refine lv_icmp_ne (tgt := 39) hx hb dX9_nextToken_23 (by decide) (fun c6 => ?_) (fun c6 => ?_)
      · replace hM := i_neg hM c6
        refine lv_aload_n hx hb dX9_nextToken_39 rfl (lv_at hl 0 rfl) ?_
        refine lv_aload_n hx hb dX9_nextToken_40 rfl (lv_at hl 0 rfl) ?_
        refine q_get (C := RX9) (T := TX9) (N := 17) (ci := 9) E (fun w h => List.mem_cons_of_mem _ (inX9 w h)) hw 0 rfl rfl 6 (by decide) (List.mem_cons_of_mem _ tb_1163) (v := .int (σ 7 0)) rfl dX9_nextToken_41 ?_
        refine q_puti (C := RX9) (T := TX9) (N := 17) (ci := 9) E (fun w h => List.mem_cons_of_mem _ (inX9 w h)) tyX9 tyX9_ok nmX9 hw 0 rfl rfl 7 (by decide) (List.mem_cons_of_mem _ tb_1164) rfl rfl (Nat.le_of_ble_eq_true rfl) (wM cA h (up σ 8 0 (σ 7 0)) wd ++ F) st_M_8 dX9_nextToken_44 (fun H locs hw => ?_)
        refine lv_aload_n hx hb dX9_nextToken_47 rfl (lv_at hl 0 rfl) ?_
        refine lv_iconst (v := 0) hx hb dX9_nextToken_48 (by decide) ?_
        refine q_puti (C := RX9) (T := TX9) (N := 17) (ci := 9) E (fun w h => List.mem_cons_of_mem _ (inX9 w h)) tyX9 tyX9_ok nmX9 hw 0 rfl rfl 9 (by decide) (List.mem_cons_of_mem _ tb_1166) rfl rfl (Nat.le_of_ble_eq_true rfl) (wM cA h (up (up σ 8 0 (σ 7 0)) 10 0 0) wd ++ F) st_M_10 dX9_nextToken_49 (fun H locs hw => ?_)
        refine lv_aload_n hx hb dX9_nextToken_52 rfl (lv_at hl 0 rfl) ?_
        refine lv_lconst (v := 0) hx hb dX9_nextToken_53 (by decide) ?_
        refine q_putl (C := RX9) (T := TX9) (N := 17) (ci := 9) E (fun w h => List.mem_cons_of_mem _ (inX9 w h)) tyX9 tyX9_ok nmX9 hw 0 rfl rfl 14 (by decide) (List.mem_cons_of_mem _ tb_1171) rfl rfl (Nat.le_of_ble_eq_true rfl) (wM cA h (up (up σ 8 0 (σ 7 0)) 10 0 0) 0 ++ F) rfl dX9_nextToken_54 (fun H locs hw => ?_)
        refine lv_aload_n hx hb dX9_nextToken_57 rfl (lv_at hl 0 rfl) ?_
        refine lv_iconst (v := 0) hx hb dX9_nextToken_58 (by decide) ?_
        refine q_puti (C := RX9) (T := TX9) (N := 17) (ci := 9) E (fun w h => List.mem_cons_of_mem _ (inX9 w h)) tyX9 tyX9_ok nmX9 hw 0 rfl rfl 10 (by decide) (List.mem_cons_of_mem _ tb_1167) rfl rfl (Nat.le_of_ble_eq_true rfl) (wM cA h (up (up (up σ 8 0 (σ 7 0)) 10 0 0) 11 0 0) 0 ++ F) st_M_11 dX9_nextToken_59 (fun H locs hw => ?_)
        refine lv_aload_n hx hb dX9_nextToken_62 rfl (lv_at hl 0 rfl) ?_
        refine lv_aload_n hx hb dX9_nextToken_63 rfl (lv_at hl 0 rfl) ?_
        refine q_get (C := RX9) (T := TX9) (N := 17) (ci := 9) E (fun w h => List.mem_cons_of_mem _ (inX9 w h)) hw 0 rfl rfl 6 (by decide) (List.mem_cons_of_mem _ tb_1163) (v := .int (σ 7 0)) (q_fld (congrFun (((up_ne (up (up σ 8 0 (σ 7 0)) 10 0 0) 11 0 0 7 (by decide)).trans (up_ne (up σ 8 0 (σ 7 0)) 10 0 0 7 (by decide))).trans (up_ne σ 8 0 (σ 7 0) 7 (by decide))) 0) rfl) dX9_nextToken_64 ?_
        obtain ⟨p7, h8, hM⟩ := b_some hM
        refine q_cv (As := [.int (σ 7 0)]) (rest := []) E hw hl (c_X9_byteAt l D cA tS A h F (σ 7 0) (up (up (up σ 8 0 (σ 7 0)) 10 0 0) 11 0 0) 0 p7 h8) 1 (bwV bw_c tb_1625 tb_1627 tb_91 tb_112 tb_1628) rfl (by decide +kernel) ⟨Nat.le_of_ble_eq_true rfl, Nat.le_of_ble_eq_true rfl⟩ 0 9 (T := TX9) (N := 17) rfl rfl rfl rfl (Nat.le_of_ble_eq_true rfl) ⟨Nat.zero_le _, Nat.zero_le _⟩ dX9_nextToken_67 (fun H locs hw => ?_)
        refine lv_istore_n (lv' := [(1, .int p7), (0, .ref (h 0))]) hx hb dX9_nextToken_70 rfl hl (by decide) rfl (fun ls hl => ?_)
        refine lv_iload_n hx hb dX9_nextToken_71 rfl (lv_at hl 0 rfl) ?_
        refine lv_iconst (v := (-1)) hx hb dX9_nextToken_72 (by decide) ?_
        refine lv_icmp_ne (tgt := 84) hx hb dX9_nextToken_73 (by decide) (fun c9 => ?_) (fun c9 => ?_)
        · replace hM := i_neg hM c9
          refine lv_iload_n hx hb dX9_nextToken_84 rfl (lv_at hl 0 rfl) ?_
          obtain ⟨p10, h11, hM⟩ := b_some hM
          refine q_cs (As := [.int p7]) (rest := []) E hw hl (c_X9_isLetter l D cA tS A (wM cA h (up (up (up σ 8 0 (σ 7 0)) 10 0 0) 11 0 0) 0 ++ F) p7 p10 h11) 1 (bwS bw_c tb_1629 tb_1630 tb_112 tb_1631) rfl (by decide +kernel) ⟨Nat.le_of_ble_eq_true rfl, Nat.le_of_ble_eq_true rfl⟩ rfl rfl (Nat.le_of_ble_eq_true rfl) ⟨Nat.zero_le _, Nat.zero_le _⟩ dX9_nextToken_85 (fun H locs hw => ?_)
          refine lv_if_eq (tgt := 175) hx hb dX9_nextToken_88 (by decide) (fun c12 => ?_) (fun c12 => ?_)
          · replace hM := i_pos hM c12
            refine lv_iload_n hx hb dX9_nextToken_175 rfl (lv_at hl 0 rfl) ?_
            obtain ⟨p13, h14, hM⟩ := b_some hM
            refine q_cs (As := [.int p7]) (rest := []) E hw hl (c_X9_isDigit l D cA tS A (wM cA h (up (up (up σ 8 0 (σ 7 0)) 10 0 0) 11 0 0) 0 ++ F) p7 p13 h14) 1 (bwS bw_c tb_1634 tb_1635 tb_112 tb_1636) rfl (by decide +kernel) ⟨Nat.le_of_ble_eq_true rfl, Nat.le_of_ble_eq_true rfl⟩ rfl rfl (Nat.le_of_ble_eq_true rfl) ⟨Nat.zero_le _, Nat.zero_le _⟩ dX9_nextToken_176 (fun H locs hw => ?_)
            refine lv_if_eq (tgt := 253) hx hb dX9_nextToken_179 (by decide) (fun c15 => ?_) (fun c15 => ?_)
            · replace hM := i_pos hM c15
              refine lv_aload_n hx hb dX9_nextToken_253 rfl (lv_at hl 1 rfl) ?_
              refine lv_iload_n hx hb dX9_nextToken_254 rfl (lv_at hl 0 rfl) ?_
              refine lv_bipush (v := 59) hx hb dX9_nextToken_255 (by decide) ?_
              refine lv_icmp_ne (tgt := 264) hx hb dX9_nextToken_257 (by decide) (fun c16 => ?_) (fun c16 => ?_)
              · replace hM := i_neg hM c16
                refine lv_iconst (v := 1) hx hb dX9_nextToken_264 (by decide) ?_
                refine q_puti (C := RX9) (T := TX9) (N := 17) (ci := 9) E (fun w h => List.mem_cons_of_mem _ (inX9 w h)) tyX9 tyX9_ok nmX9 hw 0 rfl rfl 8 (by decide) (List.mem_cons_of_mem _ tb_1165) rfl rfl (Nat.le_of_ble_eq_true rfl) (wM cA h (up (up (up (up σ 8 0 (σ 7 0)) 10 0 0) 11 0 0) 9 0 1) 0 ++ F) st_M_9 dX9_nextToken_265 (fun H locs hw => ?_)
                refine lv_aload_n hx hb dX9_nextToken_268 rfl (lv_at hl 1 rfl) ?_
                refine lv_dup hx hb dX9_nextToken_269 rfl ?_
                refine q_get (C := RX9) (T := TX9) (N := 17) (ci := 9) E (fun w h => List.mem_cons_of_mem _ (inX9 w h)) hw 0 rfl rfl 6 (by decide) (List.mem_cons_of_mem _ tb_1163) (v := .int (σ 7 0)) (q_fld (congrFun ((((up_ne (up (up (up σ 8 0 (σ 7 0)) 10 0 0) 11 0 0) 9 0 1 7 (by decide)).trans (up_ne (up (up σ 8 0 (σ 7 0)) 10 0 0) 11 0 0 7 (by decide))).trans (up_ne (up σ 8 0 (σ 7 0)) 10 0 0 7 (by decide))).trans (up_ne σ 8 0 (σ 7 0) 7 (by decide))) 0) rfl) dX9_nextToken_270 ?_
                refine lv_iconst (v := 1) hx hb dX9_nextToken_273 (by decide) ?_
                refine lv_iadd hx hb dX9_nextToken_274 ?_
                refine q_puti (C := RX9) (T := TX9) (N := 17) (ci := 9) E (fun w h => List.mem_cons_of_mem _ (inX9 w h)) tyX9 tyX9_ok nmX9 hw 0 rfl rfl 6 (by decide) (List.mem_cons_of_mem _ tb_1163) rfl rfl (Nat.le_of_ble_eq_true rfl) (wM cA h (up (up (up (up (up σ 8 0 (σ 7 0)) 10 0 0) 11 0 0) 9 0 1) 7 0 ((σ 7 0) + 1)) 0 ++ F) st_M_7 dX9_nextToken_275 (fun H locs hw => ?_)
                cases hM
                exact q_retv E hw dX9_nextToken_278
              · replace hM := i_pos hM c16
                refine lv_iconst (v := 4) hx hb dX9_nextToken_260 (by decide) ?_
                refine lv_goto (tgt := 265) hx hb dX9_nextToken_261 (by decide) ?_
                refine q_puti (C := RX9) (T := TX9) (N := 17) (ci := 9) E (fun w h => List.mem_cons_of_mem _ (inX9 w h)) tyX9 tyX9_ok nmX9 hw 0 rfl rfl 8 (by decide) (List.mem_cons_of_mem _ tb_1165) rfl rfl (Nat.le_of_ble_eq_true rfl) (wM cA h (up (up (up (up σ 8 0 (σ 7 0)) 10 0 0) 11 0 0) 9 0 4) 0 ++ F) st_M_9 dX9_nextToken_265 (fun H locs hw => ?_)
                refine lv_aload_n hx hb dX9_nextToken_268 rfl (lv_at hl 1 rfl) ?_
                refine lv_dup hx hb dX9_nextToken_269 rfl ?_
                refine q_get (C := RX9) (T := TX9) (N := 17) (ci := 9) E (fun w h => List.mem_cons_of_mem _ (inX9 w h)) hw 0 rfl rfl 6 (by decide) (List.mem_cons_of_mem _ tb_1163) (v := .int (σ 7 0)) (q_fld (congrFun ((((up_ne (up (up (up σ 8 0 (σ 7 0)) 10 0 0) 11 0 0) 9 0 4 7 (by decide)).trans (up_ne (up (up σ 8 0 (σ 7 0)) 10 0 0) 11 0 0 7 (by decide))).trans (up_ne (up σ 8 0 (σ 7 0)) 10 0 0 7 (by decide))).trans (up_ne σ 8 0 (σ 7 0) 7 (by decide))) 0) rfl) dX9_nextToken_270 ?_
                refine lv_iconst (v := 1) hx hb dX9_nextToken_273 (by decide) ?_
                refine lv_iadd hx hb dX9_nextToken_274 ?_
                refine q_puti (C := RX9) (T := TX9) (N := 17) (ci := 9) E (fun w h => List.mem_cons_of_mem _ (inX9 w h)) tyX9 tyX9_ok nmX9 hw 0 rfl rfl 6 (by decide) (List.mem_cons_of_mem _ tb_1163) rfl rfl (Nat.le_of_ble_eq_true rfl) (wM cA h (up (up (up (up (up σ 8 0 (σ 7 0)) 10 0 0) 11 0 0) 9 0 4) 7 0 ((σ 7 0) + 1)) 0 ++ F) st_M_7 dX9_nextToken_275 (fun H locs hw => ?_)
                cases hM
                exact q_retv E hw dX9_nextToken_278
            · replace hM := i_neg hM c15
              refine lv_aload_n hx hb dX9_nextToken_182 rfl (lv_at hl 1 rfl) ?_
              refine lv_iconst (v := 3) hx hb dX9_nextToken_183 (by decide) ?_
              refine q_puti (C := RX9) (T := TX9) (N := 17) (ci := 9) E (fun w h => List.mem_cons_of_mem _ (inX9 w h)) tyX9 tyX9_ok nmX9 hw 0 rfl rfl 8 (by decide) (List.mem_cons_of_mem _ tb_1165) rfl rfl (Nat.le_of_ble_eq_true rfl) (wM cA h (up (up (up (up σ 8 0 (σ 7 0)) 10 0 0) 11 0 0) 9 0 3) 0 ++ F) st_M_9 dX9_nextToken_184 (fun H locs hw => ?_)
              exact s_X9_nextToken_187 l D cA tS A h F N E N _ _ _ _ hM _ _ hw _ (lv_sub hl [1] rfl)
          · replace hM := i_neg hM c12
            refine lv_aload_n hx hb dX9_nextToken_91 rfl (lv_at hl 1 rfl) ?_
            refine lv_iconst (v := 2) hx hb dX9_nextToken_92 (by decide) ?_
            refine q_puti (C := RX9) (T := TX9) (N := 17) (ci := 9) E (fun w h => List.mem_cons_of_mem _ (inX9 w h)) tyX9 tyX9_ok nmX9 hw 0 rfl rfl 8 (by decide) (List.mem_cons_of_mem _ tb_1165) rfl rfl (Nat.le_of_ble_eq_true rfl) (wM cA h (up (up (up (up σ 8 0 (σ 7 0)) 10 0 0) 11 0 0) 9 0 2) 0 ++ F) st_M_9 dX9_nextToken_93 (fun H locs hw => ?_)
            exact s_X9_nextToken_96 l D cA tS A h F N E N _ _ _ _ hM _ _ hw _ (lv_sub hl [1] rfl)
        · replace hM := i_pos hM c9
          refine lv_aload_n hx hb dX9_nextToken_76 rfl (lv_at hl 1 rfl) ?_
          refine lv_iconst (v := 0) hx hb dX9_nextToken_77 (by decide) ?_
          refine q_puti (C := RX9) (T := TX9) (N := 17) (ci := 9) E (fun w h => List.mem_cons_of_mem _ (inX9 w h)) tyX9 tyX9_ok nmX9 hw 0 rfl rfl 8 (by decide) (List.mem_cons_of_mem _ tb_1165) rfl rfl (Nat.le_of_ble_eq_true rfl) (wM cA h (up (up (up (up σ 8 0 (σ 7 0)) 10 0 0) 11 0 0) 9 0 0) 0 ++ F) st_M_9 dX9_nextToken_78 (fun H locs hw => ?_)
          refine lv_goto (tgt := 278) hx hb dX9_nextToken_81 (by decide) ?_
          cases hM
          exact q_retv E hw dX9_nextToken_278
      · replace hM := i_pos hM c6
        refine lv_aload_n hx hb dX9_nextToken_26 rfl (lv_at hl 0 rfl) ?_
        refine lv_dup hx hb dX9_nextToken_27 rfl ?_
        refine q_get (C := RX9) (T := TX9) (N := 17) (ci := 9) E (fun w h => List.mem_cons_of_mem _ (inX9 w h)) hw 0 rfl rfl 6 (by decide) (List.mem_cons_of_mem _ tb_1163) (v := .int (σ 7 0)) rfl dX9_nextToken_28 ?_
        refine lv_iconst (v := 1) hx hb dX9_nextToken_31 (by decide) ?_
        refine lv_iadd hx hb dX9_nextToken_32 ?_
        refine q_puti (C := RX9) (T := TX9) (N := 17) (ci := 9) E (fun w h => List.mem_cons_of_mem _ (inX9 w h)) tyX9 tyX9_ok nmX9 hw 0 rfl rfl 6 (by decide) (List.mem_cons_of_mem _ tb_1163) rfl rfl (Nat.le_of_ble_eq_true rfl) (wM cA h (up σ 7 0 ((σ 7 0) + 1)) wd ++ F) st_M_7 dX9_nextToken_33 (fun H locs hw => ?_)
        refine lv_goto (tgt := 0) hx hb dX9_nextToken_36 (by decide) ?_
        exact ih _ _ _ _ hM _ _ hw _ (lv_sub hl [0] rfl)
def f_X9_nextToken (N : Nat)   (σ : Sg) (wd : Int64) : Option (Sg × Int64) := f_X9_nextToken_0 N N σ wd
set_option maxRecDepth 100000 in
set_option maxHeartbeats 4000000 in
theorem c_X9_nextToken (l : Launch) (D : va_G) (cA : Nat → ClassId) (tS : Nat → Nat) (A : Nat → Prop) (h : Nat → Nat) (F : va_W) (N : Nat) (σ : Sg) (wd : Int64) (s0 : Sg) (wd0 : Int64) (hM : f_X9_nextToken N σ wd = some (s0, wd0)) : Ct l yX9_nextToken (Cond.code yX9_nextToken cX9_nextToken 2 none :: bw) 2 42 D cA tS A [.ref (h 0)] (wM cA h σ wd ++ F) none (wM cA h s0 wd0 ++ F) := by
  refine ct_of (by decide +kernel) (Nat.le_of_ble_eq_true rfl) ?_
  intro p e s m below meth c E hw ls hl
  replace E : Ev p cX9_nextToken 2 none RX9 (Cond.code yX9_nextToken cX9_nextToken 2 none :: bw) D cA tS A s m _ meth c := E
  replace hl : lv_has ls 2 [(0, .ref (h 0))] := hl
  have hx := E.1.1
  have hb := E.1.2.1
  unfold f_X9_nextToken at hM
  exact s_X9_nextToken_0 l D cA tS A h F N E N _ _ _ _ hM _ _ hw _ (lv_sub hl [0] rfl)
def f_X9_isWord_26 (N : Nat)   : Nat → Nat → Int64 → Int32 → Sg → Int64 → Option (Int32)
  | 0, _, _, _, _, _ => none
  | n + 1, k1, y2, x4, σ, wd => if k1 < 15 then (f_J0_length_8abf5 k1).bind (fun p1 => (if p1 ≤ x4 then (if (lg_cmp wd y2) = 0 then some 1 else some 0) else (f_J0_charAt_5068e k1 x4).bind (fun p6 => f_X9_isWord_26 N n k1 (((27 * y2) + ((p6 : Int32).toInt64)) - 96) (x4 + 1) σ wd))) else none
set_option maxRecDepth 100000 in
set_option maxHeartbeats 4000000 in
theorem s_X9_isWord_26 (l : Launch) (D : va_G) (cA : Nat → ClassId) (tS : Nat → Nat) (A : Nat → Prop) (h : Nat → Nat) (F : va_W) (N : Nat) {p : Program} {e : Env} {s : State} {m : MethodId} {args : Array Value} {below : List Frame} {meth : Method} {c : Code} (E : Ev p cX9_isWord 5 (some .boolean) RX9 (Cond.code yX9_isWord cX9_isWord 5 (some .boolean) :: bw) D cA tS A s m args meth c) : ∀ (n : Nat) (k1 : Nat) (y2 : Int64) (x4 : Int32) (σ : Sg) (wd : Int64) (r0 : Int32) (hM : f_X9_isWord_26 N n k1 y2 x4 σ wd = some r0) (H : Heap) (locs : List Loc) (hw : Wd D A (wM cA h σ wd ++ F) s.heap H locs) (ls : Array Slot) (hl : lv_has ls 5 [(0, .ref (h 0)), (1, .ref (adK tS k1)), (2, .long y2), (4, .int x4)]), W p l e ({ frames := 4, cells := 0, slots := 0, locals := 85 } : Room) s m args below meth c H locs 0 0 (MQ below (QW D A (some (.int r0)) (wM cA h σ wd ++ F)) args s 0 0 A) (F0 m 26 ls []) := by
  have hx := E.1.1
  have hb := E.1.2.1
  intro n
  induction n with
  | zero =>
    intro k1 y2 x4 σ wd r0 hM
    cases hM
  | succ n ih =>
    intro k1 y2 x4 σ wd r0 hM H locs hw ls hl
    rw [f_X9_isWord_26] at hM
    refine lv_iload hx hb dX9_isWord_26 (lv_at hl 3 rfl) ?_
    refine lv_aload_n hx hb dX9_isWord_28 rfl (lv_at hl 1 rfl) ?_
    obtain ⟨g3, hM⟩ := g_some hM
    obtain ⟨p1, h2, hM⟩ := b_some hM
    refine q_cvs (k := k1) (As := []) (rest := [.int x4]) E hw hl (c_J0_length_8abf5 l D cA tS A (wM cA h σ wd ++ F) k1 p1 h2) 0 (bwV bw_c tb_1651 tb_1041 tb_1042 tb_114 tb_1043) rfl (by decide +kernel) ⟨Nat.le_of_ble_eq_true rfl, Nat.le_of_ble_eq_true rfl⟩ g3 rfl rfl (Nat.le_of_ble_eq_true rfl) ⟨Nat.zero_le _, Nat.zero_le _⟩ dX9_isWord_29 (fun H locs hw => ?_)
    refine lv_icmp_ge (tgt := 59) hx hb dX9_isWord_32 (by decide) (fun c4 => ?_) (fun c4 => ?_)
    · replace hM := i_pos hM c4
      refine lv_aload_n hx hb dX9_isWord_59 rfl (lv_at hl 0 rfl) ?_
      refine q_get (C := RX9) (T := TX9) (N := 17) (ci := 9) E (fun w h => List.mem_cons_of_mem _ (inX9 w h)) hw 0 rfl rfl 14 (by decide) (List.mem_cons_of_mem _ tb_1171) (v := .long wd) rfl dX9_isWord_60 ?_
      refine lv_lload_n hx hb dX9_isWord_63 rfl (lv_at hl 2 rfl) ?_
      refine W.lcmp hx hb dX9_isWord_64 ?_
      refine lv_if_ne (tgt := 72) hx hb dX9_isWord_65 (by decide) (fun c5 => ?_) (fun c5 => ?_)
      · replace hM := i_neg hM c5
        refine lv_iconst (v := 0) hx hb dX9_isWord_72 (by decide) ?_
        cases hM
        exact q_retz E hw (by decide) dX9_isWord_73
      · replace hM := i_pos hM c5
        refine lv_iconst (v := 1) hx hb dX9_isWord_68 (by decide) ?_
        refine lv_goto (tgt := 73) hx hb dX9_isWord_69 (by decide) ?_
        cases hM
        exact q_retz E hw (by decide) dX9_isWord_73
    · replace hM := i_neg hM c4
      refine lv_ldc2 (v := 27) hx hb E.1.2.2.2.1 (E.1.2.2.2.2 _ (List.mem_cons_of_mem _ tb_1632)) dX9_isWord_35 ?_
      refine lv_lload_n hx hb dX9_isWord_38 rfl (lv_at hl 2 rfl) ?_
      refine lv_lmul hx hb dX9_isWord_39 ?_
      refine lv_aload_n hx hb dX9_isWord_40 rfl (lv_at hl 1 rfl) ?_
      refine lv_iload hx hb dX9_isWord_41 (lv_at hl 3 rfl) ?_
      obtain ⟨p6, h7, hM⟩ := b_some hM
      refine q_cvs (k := k1) (As := [.int x4]) (rest := [.long (27 * y2)]) E hw hl (c_J0_charAt_5068e l D cA tS A (wM cA h σ wd ++ F) k1 x4 p6 h7) 1 (bwV bw_c tb_1652 tb_1051 tb_1052 tb_114 tb_1053) rfl (by decide +kernel) ⟨Nat.le_of_ble_eq_true rfl, Nat.le_of_ble_eq_true rfl⟩ g3 rfl rfl (Nat.le_of_ble_eq_true rfl) ⟨Nat.zero_le _, Nat.zero_le _⟩ dX9_isWord_43 (fun H locs hw => ?_)
      refine lv_i2l (v := (p6 : Int32).toInt64) hx hb dX9_isWord_46 rfl ?_
      refine lv_ladd hx hb dX9_isWord_47 ?_
      refine lv_ldc2 (v := 96) hx hb E.1.2.2.2.1 (E.1.2.2.2.2 _ (List.mem_cons_of_mem _ tb_1633)) dX9_isWord_48 ?_
      refine lv_lsub hx hb dX9_isWord_51 ?_
      refine lv_lstore_n (lv' := [(2, .long (((27 * y2) + ((p6 : Int32).toInt64)) - 96)), (0, .ref (h 0)), (1, .ref (adK tS k1)), (4, .int x4)]) hx hb dX9_isWord_52 rfl hl (by decide) rfl (fun ls hl => ?_)
      refine lv_iinc (v := (x4 + 1)) (lv' := [(4, .int (x4 + 1)), (2, .long (((27 * y2) + ((p6 : Int32).toInt64)) - 96)), (0, .ref (h 0)), (1, .ref (adK tS k1))]) hx hb dX9_isWord_53 hl (k := 3) rfl rfl (by decide) rfl (fun ls hl => ?_)
      refine lv_goto (tgt := 26) hx hb dX9_isWord_56 (by decide) ?_
      exact ih _ _ _ _ _ _ hM _ _ hw _ (lv_sub hl [2, 3, 1, 0] rfl)
def f_X9_isWord (N : Nat)   (k1 : Nat) (σ : Sg) (wd : Int64) : Option (Int32) := (if (σ 9 0) = 2 then if k1 < 15 then (f_J0_length_8abf5 k1).bind (fun p2 => (if (σ 10 0) = p2 then f_X9_isWord_26 N N k1 0 0 σ wd else some 0)) else none else some 0)
set_option maxRecDepth 100000 in
set_option maxHeartbeats 4000000 in
theorem c_X9_isWord (l : Launch) (D : va_G) (cA : Nat → ClassId) (tS : Nat → Nat) (A : Nat → Prop) (h : Nat → Nat) (F : va_W) (N : Nat) (k1 : Nat) (σ : Sg) (wd : Int64) (r0 : Int32) (hM : f_X9_isWord N k1 σ wd = some r0) : Ct l yX9_isWord (Cond.code yX9_isWord cX9_isWord 5 (some .boolean) :: bw) 4 85 D cA tS A [.ref (h 0), .ref (adK tS k1)] (wM cA h σ wd ++ F) (some (.int r0)) (wM cA h σ wd ++ F) := by
  refine ct_of (by decide +kernel) (Nat.le_of_ble_eq_true rfl) ?_
  intro p e s m below meth c E hw ls hl
  replace E : Ev p cX9_isWord 5 (some .boolean) RX9 (Cond.code yX9_isWord cX9_isWord 5 (some .boolean) :: bw) D cA tS A s m _ meth c := E
  replace hl : lv_has ls 5 [(0, .ref (h 0)), (1, .ref (adK tS k1))] := hl
  have hx := E.1.1
  have hb := E.1.2.1
  unfold f_X9_isWord at hM
  refine lv_aload_n hx hb dX9_isWord_0 rfl (lv_at hl 0 rfl) ?_
  refine q_get (C := RX9) (T := TX9) (N := 17) (ci := 9) E (fun w h => List.mem_cons_of_mem _ (inX9 w h)) hw 0 rfl rfl 8 (by decide) (List.mem_cons_of_mem _ tb_1165) (v := .int (σ 9 0)) rfl dX9_isWord_1 ?_
  refine lv_iconst (v := 2) hx hb dX9_isWord_4 (by decide) ?_
  refine lv_icmp_ne (tgt := 19) hx hb dX9_isWord_5 (by decide) (fun c1 => ?_) (fun c1 => ?_)
  · replace hM := i_neg hM c1
    refine lv_iconst (v := 0) hx hb dX9_isWord_19 (by decide) ?_
    cases hM
    exact q_retz E hw (by decide) dX9_isWord_20
  · replace hM := i_pos hM c1
    refine lv_aload_n hx hb dX9_isWord_8 rfl (lv_at hl 0 rfl) ?_
    refine q_get (C := RX9) (T := TX9) (N := 17) (ci := 9) E (fun w h => List.mem_cons_of_mem _ (inX9 w h)) hw 0 rfl rfl 9 (by decide) (List.mem_cons_of_mem _ tb_1166) (v := .int (σ 10 0)) rfl dX9_isWord_9 ?_
    refine lv_aload_n hx hb dX9_isWord_12 rfl (lv_at hl 1 rfl) ?_
    obtain ⟨g4, hM⟩ := g_some hM
    obtain ⟨p2, h3, hM⟩ := b_some hM
    refine q_cvs (k := k1) (As := []) (rest := [.int (σ 10 0)]) E hw hl (c_J0_length_8abf5 l D cA tS A (wM cA h σ wd ++ F) k1 p2 h3) 0 (bwV bw_c tb_1651 tb_1041 tb_1042 tb_114 tb_1043) rfl (by decide +kernel) ⟨Nat.le_of_ble_eq_true rfl, Nat.le_of_ble_eq_true rfl⟩ g4 rfl rfl (Nat.le_of_ble_eq_true rfl) ⟨Nat.zero_le _, Nat.zero_le _⟩ dX9_isWord_13 (fun H locs hw => ?_)
    refine lv_icmp_eq (tgt := 21) hx hb dX9_isWord_16 (by decide) (fun c5 => ?_) (fun c5 => ?_)
    · replace hM := i_pos hM c5
      refine lv_lconst (v := 0) hx hb dX9_isWord_21 (by decide) ?_
      refine lv_lstore_n (lv' := [(2, .long 0), (0, .ref (h 0)), (1, .ref (adK tS k1))]) hx hb dX9_isWord_22 rfl hl (by decide) rfl (fun ls hl => ?_)
      refine lv_iconst (v := 0) hx hb dX9_isWord_23 (by decide) ?_
      refine lv_istore (lv' := [(4, .int 0), (2, .long 0), (0, .ref (h 0)), (1, .ref (adK tS k1))]) hx hb dX9_isWord_24 hl (by decide) rfl (fun ls hl => ?_)
      exact s_X9_isWord_26 l D cA tS A h F N E N _ _ _ _ _ _ hM _ _ hw _ (lv_sub hl [2, 3, 1, 0] rfl)
    · replace hM := i_neg hM c5
      refine lv_iconst (v := 0) hx hb dX9_isWord_19 (by decide) ?_
      cases hM
      exact q_retz E hw (by decide) dX9_isWord_20
def f_X9_statementOfWord (N : Nat)   (σ : Sg) (wd : Int64) : Option (Int32) := (f_X9_isWord N 1 σ wd).bind (fun p1 => (if p1 = 0 then (f_X9_isWord N 2 σ wd).bind (fun p4 => (if p4 = 0 then (f_X9_isWord N 3 σ wd).bind (fun p7 => (if p7 = 0 then (f_X9_isWord N 4 σ wd).bind (fun p10 => (if p10 = 0 then (f_X9_isWord N 5 σ wd).bind (fun p13 => (if p13 = 0 then (f_X9_isWord N 6 σ wd).bind (fun p16 => (if p16 = 0 then (f_X9_isWord N 7 σ wd).bind (fun p19 => (if p19 = 0 then (f_X9_isWord N 8 σ wd).bind (fun p22 => (if p22 = 0 then (f_X9_isWord N 9 σ wd).bind (fun p25 => (if p25 = 0 then (f_X9_isWord N 10 σ wd).bind (fun p28 => (if p28 = 0 then (f_X9_isWord N 11 σ wd).bind (fun p31 => (if p31 = 0 then (f_X9_isWord N 12 σ wd).bind (fun p34 => (if p34 = 0 then (f_X9_isWord N 13 σ wd).bind (fun p37 => (if p37 = 0 then some (-1) else some 12)) else some 10)) else some 9)) else some 8)) else some 7)) else some 6)) else some 5)) else some 4)) else some 3)) else some 2)) else some 1)) else some 11)) else some 0))
set_option maxRecDepth 100000 in
set_option maxHeartbeats 4000000 in
theorem c_X9_statementOfWord (l : Launch) (D : va_G) (cA : Nat → ClassId) (tS : Nat → Nat) (A : Nat → Prop) (h : Nat → Nat) (F : va_W) (N : Nat) (σ : Sg) (wd : Int64) (r0 : Int32) (hM : f_X9_statementOfWord N σ wd = some r0) : Ct l yX9_statementOfWord (Cond.code yX9_statementOfWord cX9_statementOfWord 1 (some .int) :: bw) 5 109 D cA tS A [.ref (h 0)] (wM cA h σ wd ++ F) (some (.int r0)) (wM cA h σ wd ++ F) := by
  refine ct_of (by decide +kernel) (Nat.le_of_ble_eq_true rfl) ?_
  intro p e s m below meth c E hw ls hl
  replace E : Ev p cX9_statementOfWord 1 (some .int) RX9 (Cond.code yX9_statementOfWord cX9_statementOfWord 1 (some .int) :: bw) D cA tS A s m _ meth c := E
  replace hl : lv_has ls 1 [(0, .ref (h 0))] := hl
  have hx := E.1.1
  have hb := E.1.2.1
  unfold f_X9_statementOfWord at hM
  refine lv_aload_n hx hb dX9_statementOfWord_0 rfl (lv_at hl 0 rfl) ?_
  refine va_ldcS hx hb E.1.2.2.2.1 (E.2.2.2.2.2.2.2.2.1 (RX9, 254, "day", 1) (by decide +kernel)) dX9_statementOfWord_1 ?_
  obtain ⟨p1, h2, hM⟩ := b_some hM
  refine q_cv (As := [.ref (adK tS 1)]) (rest := []) E hw hl (c_X9_isWord l D cA tS A h F N 1 σ wd p1 h2) 1 (bwV bw_c tb_1647 tb_1649 tb_94 tb_112 tb_1650) rfl (by decide +kernel) ⟨Nat.le_of_ble_eq_true rfl, Nat.le_of_ble_eq_true rfl⟩ 0 9 (T := TX9) (N := 17) rfl rfl rfl rfl (Nat.le_of_ble_eq_true rfl) ⟨Nat.zero_le _, Nat.zero_le _⟩ dX9_statementOfWord_3 (fun H locs hw => ?_)
  refine lv_if_eq (tgt := 11) hx hb dX9_statementOfWord_6 (by decide) (fun c3 => ?_) (fun c3 => ?_)
  · replace hM := i_pos hM c3
    refine lv_aload_n hx hb dX9_statementOfWord_11 rfl (lv_at hl 0 rfl) ?_
    refine va_ldcSw hx hb E.1.2.2.2.1 (E.2.2.2.2.2.2.2.2.1 (RX9, 260, "kind", 2) (by decide +kernel)) dX9_statementOfWord_12 ?_
    obtain ⟨p4, h5, hM⟩ := b_some hM
    refine q_cv (As := [.ref (adK tS 2)]) (rest := []) E hw hl (c_X9_isWord l D cA tS A h F N 2 σ wd p4 h5) 1 (bwV bw_c tb_1647 tb_1649 tb_94 tb_112 tb_1650) rfl (by decide +kernel) ⟨Nat.le_of_ble_eq_true rfl, Nat.le_of_ble_eq_true rfl⟩ 0 9 (T := TX9) (N := 17) rfl rfl rfl rfl (Nat.le_of_ble_eq_true rfl) ⟨Nat.zero_le _, Nat.zero_le _⟩ dX9_statementOfWord_15 (fun H locs hw => ?_)
    refine lv_if_eq (tgt := 24) hx hb dX9_statementOfWord_18 (by decide) (fun c6 => ?_) (fun c6 => ?_)
    · replace hM := i_pos hM c6
      refine lv_aload_n hx hb dX9_statementOfWord_24 rfl (lv_at hl 0 rfl) ?_
      refine va_ldcSw hx hb E.1.2.2.2.1 (E.2.2.2.2.2.2.2.2.1 (RX9, 261, "agents", 3) (by decide +kernel)) dX9_statementOfWord_25 ?_
      obtain ⟨p7, h8, hM⟩ := b_some hM
      refine q_cv (As := [.ref (adK tS 3)]) (rest := []) E hw hl (c_X9_isWord l D cA tS A h F N 3 σ wd p7 h8) 1 (bwV bw_c tb_1647 tb_1649 tb_94 tb_112 tb_1650) rfl (by decide +kernel) ⟨Nat.le_of_ble_eq_true rfl, Nat.le_of_ble_eq_true rfl⟩ 0 9 (T := TX9) (N := 17) rfl rfl rfl rfl (Nat.le_of_ble_eq_true rfl) ⟨Nat.zero_le _, Nat.zero_le _⟩ dX9_statementOfWord_28 (fun H locs hw => ?_)
      refine lv_if_eq (tgt := 36) hx hb dX9_statementOfWord_31 (by decide) (fun c9 => ?_) (fun c9 => ?_)
      · replace hM := i_pos hM c9
        refine lv_aload_n hx hb dX9_statementOfWord_36 rfl (lv_at hl 0 rfl) ?_
        refine va_ldcSw hx hb E.1.2.2.2.1 (E.2.2.2.2.2.2.2.2.1 (RX9, 263, "report", 4) (by decide +kernel)) dX9_statementOfWord_37 ?_
        obtain ⟨p10, h11, hM⟩ := b_some hM
        refine q_cv (As := [.ref (adK tS 4)]) (rest := []) E hw hl (c_X9_isWord l D cA tS A h F N 4 σ wd p10 h11) 1 (bwV bw_c tb_1647 tb_1649 tb_94 tb_112 tb_1650) rfl (by decide +kernel) ⟨Nat.le_of_ble_eq_true rfl, Nat.le_of_ble_eq_true rfl⟩ 0 9 (T := TX9) (N := 17) rfl rfl rfl rfl (Nat.le_of_ble_eq_true rfl) ⟨Nat.zero_le _, Nat.zero_le _⟩ dX9_statementOfWord_40 (fun H locs hw => ?_)
        refine lv_if_eq (tgt := 48) hx hb dX9_statementOfWord_43 (by decide) (fun c12 => ?_) (fun c12 => ?_)
        · replace hM := i_pos hM c12
          refine lv_aload_n hx hb dX9_statementOfWord_48 rfl (lv_at hl 0 rfl) ?_
          refine va_ldcSw hx hb E.1.2.2.2.1 (E.2.2.2.2.2.2.2.2.1 (RX9, 265, "pause", 5) (by decide +kernel)) dX9_statementOfWord_49 ?_
          obtain ⟨p13, h14, hM⟩ := b_some hM
          refine q_cv (As := [.ref (adK tS 5)]) (rest := []) E hw hl (c_X9_isWord l D cA tS A h F N 5 σ wd p13 h14) 1 (bwV bw_c tb_1647 tb_1649 tb_94 tb_112 tb_1650) rfl (by decide +kernel) ⟨Nat.le_of_ble_eq_true rfl, Nat.le_of_ble_eq_true rfl⟩ 0 9 (T := TX9) (N := 17) rfl rfl rfl rfl (Nat.le_of_ble_eq_true rfl) ⟨Nat.zero_le _, Nat.zero_le _⟩ dX9_statementOfWord_52 (fun H locs hw => ?_)
          refine lv_if_eq (tgt := 60) hx hb dX9_statementOfWord_55 (by decide) (fun c15 => ?_) (fun c15 => ?_)
          · replace hM := i_pos hM c15
            refine lv_aload_n hx hb dX9_statementOfWord_60 rfl (lv_at hl 0 rfl) ?_
            refine va_ldcSw hx hb E.1.2.2.2.1 (E.2.2.2.2.2.2.2.2.1 (RX9, 267, "resume", 6) (by decide +kernel)) dX9_statementOfWord_61 ?_
            obtain ⟨p16, h17, hM⟩ := b_some hM
            refine q_cv (As := [.ref (adK tS 6)]) (rest := []) E hw hl (c_X9_isWord l D cA tS A h F N 6 σ wd p16 h17) 1 (bwV bw_c tb_1647 tb_1649 tb_94 tb_112 tb_1650) rfl (by decide +kernel) ⟨Nat.le_of_ble_eq_true rfl, Nat.le_of_ble_eq_true rfl⟩ 0 9 (T := TX9) (N := 17) rfl rfl rfl rfl (Nat.le_of_ble_eq_true rfl) ⟨Nat.zero_le _, Nat.zero_le _⟩ dX9_statementOfWord_64 (fun H locs hw => ?_)
            refine lv_if_eq (tgt := 72) hx hb dX9_statementOfWord_67 (by decide) (fun c18 => ?_) (fun c18 => ?_)
            · replace hM := i_pos hM c18
              refine lv_aload_n hx hb dX9_statementOfWord_72 rfl (lv_at hl 0 rfl) ?_
              refine va_ldcSw hx hb E.1.2.2.2.1 (E.2.2.2.2.2.2.2.2.1 (RX9, 269, "climb", 7) (by decide +kernel)) dX9_statementOfWord_73 ?_
              obtain ⟨p19, h20, hM⟩ := b_some hM
              refine q_cv (As := [.ref (adK tS 7)]) (rest := []) E hw hl (c_X9_isWord l D cA tS A h F N 7 σ wd p19 h20) 1 (bwV bw_c tb_1647 tb_1649 tb_94 tb_112 tb_1650) rfl (by decide +kernel) ⟨Nat.le_of_ble_eq_true rfl, Nat.le_of_ble_eq_true rfl⟩ 0 9 (T := TX9) (N := 17) rfl rfl rfl rfl (Nat.le_of_ble_eq_true rfl) ⟨Nat.zero_le _, Nat.zero_le _⟩ dX9_statementOfWord_76 (fun H locs hw => ?_)
              refine lv_if_eq (tgt := 84) hx hb dX9_statementOfWord_79 (by decide) (fun c21 => ?_) (fun c21 => ?_)
              · replace hM := i_pos hM c21
                refine lv_aload_n hx hb dX9_statementOfWord_84 rfl (lv_at hl 0 rfl) ?_
                refine va_ldcSw hx hb E.1.2.2.2.1 (E.2.2.2.2.2.2.2.2.1 (RX9, 271, "solve", 8) (by decide +kernel)) dX9_statementOfWord_85 ?_
                obtain ⟨p22, h23, hM⟩ := b_some hM
                refine q_cv (As := [.ref (adK tS 8)]) (rest := []) E hw hl (c_X9_isWord l D cA tS A h F N 8 σ wd p22 h23) 1 (bwV bw_c tb_1647 tb_1649 tb_94 tb_112 tb_1650) rfl (by decide +kernel) ⟨Nat.le_of_ble_eq_true rfl, Nat.le_of_ble_eq_true rfl⟩ 0 9 (T := TX9) (N := 17) rfl rfl rfl rfl (Nat.le_of_ble_eq_true rfl) ⟨Nat.zero_le _, Nat.zero_le _⟩ dX9_statementOfWord_88 (fun H locs hw => ?_)
                refine lv_if_eq (tgt := 97) hx hb dX9_statementOfWord_91 (by decide) (fun c24 => ?_) (fun c24 => ?_)
                · replace hM := i_pos hM c24
                  refine lv_aload_n hx hb dX9_statementOfWord_97 rfl (lv_at hl 0 rfl) ?_
                  refine va_ldcSw hx hb E.1.2.2.2.1 (E.2.2.2.2.2.2.2.2.1 (RX9, 273, "reopen", 9) (by decide +kernel)) dX9_statementOfWord_98 ?_
                  obtain ⟨p25, h26, hM⟩ := b_some hM
                  refine q_cv (As := [.ref (adK tS 9)]) (rest := []) E hw hl (c_X9_isWord l D cA tS A h F N 9 σ wd p25 h26) 1 (bwV bw_c tb_1647 tb_1649 tb_94 tb_112 tb_1650) rfl (by decide +kernel) ⟨Nat.le_of_ble_eq_true rfl, Nat.le_of_ble_eq_true rfl⟩ 0 9 (T := TX9) (N := 17) rfl rfl rfl rfl (Nat.le_of_ble_eq_true rfl) ⟨Nat.zero_le _, Nat.zero_le _⟩ dX9_statementOfWord_101 (fun H locs hw => ?_)
                  refine lv_if_eq (tgt := 110) hx hb dX9_statementOfWord_104 (by decide) (fun c27 => ?_) (fun c27 => ?_)
                  · replace hM := i_pos hM c27
                    refine lv_aload_n hx hb dX9_statementOfWord_110 rfl (lv_at hl 0 rfl) ?_
                    refine va_ldcSw hx hb E.1.2.2.2.1 (E.2.2.2.2.2.2.2.2.1 (RX9, 275, "join", 10) (by decide +kernel)) dX9_statementOfWord_111 ?_
                    obtain ⟨p28, h29, hM⟩ := b_some hM
                    refine q_cv (As := [.ref (adK tS 10)]) (rest := []) E hw hl (c_X9_isWord l D cA tS A h F N 10 σ wd p28 h29) 1 (bwV bw_c tb_1647 tb_1649 tb_94 tb_112 tb_1650) rfl (by decide +kernel) ⟨Nat.le_of_ble_eq_true rfl, Nat.le_of_ble_eq_true rfl⟩ 0 9 (T := TX9) (N := 17) rfl rfl rfl rfl (Nat.le_of_ble_eq_true rfl) ⟨Nat.zero_le _, Nat.zero_le _⟩ dX9_statementOfWord_114 (fun H locs hw => ?_)
                    refine lv_if_eq (tgt := 123) hx hb dX9_statementOfWord_117 (by decide) (fun c30 => ?_) (fun c30 => ?_)
                    · replace hM := i_pos hM c30
                      refine lv_aload_n hx hb dX9_statementOfWord_123 rfl (lv_at hl 0 rfl) ?_
                      refine va_ldcSw hx hb E.1.2.2.2.1 (E.2.2.2.2.2.2.2.2.1 (RX9, 277, "part", 11) (by decide +kernel)) dX9_statementOfWord_124 ?_
                      obtain ⟨p31, h32, hM⟩ := b_some hM
                      refine q_cv (As := [.ref (adK tS 11)]) (rest := []) E hw hl (c_X9_isWord l D cA tS A h F N 11 σ wd p31 h32) 1 (bwV bw_c tb_1647 tb_1649 tb_94 tb_112 tb_1650) rfl (by decide +kernel) ⟨Nat.le_of_ble_eq_true rfl, Nat.le_of_ble_eq_true rfl⟩ 0 9 (T := TX9) (N := 17) rfl rfl rfl rfl (Nat.le_of_ble_eq_true rfl) ⟨Nat.zero_le _, Nat.zero_le _⟩ dX9_statementOfWord_127 (fun H locs hw => ?_)
                      refine lv_if_eq (tgt := 136) hx hb dX9_statementOfWord_130 (by decide) (fun c33 => ?_) (fun c33 => ?_)
                      · replace hM := i_pos hM c33
                        refine lv_aload_n hx hb dX9_statementOfWord_136 rfl (lv_at hl 0 rfl) ?_
                        refine va_ldcSw hx hb E.1.2.2.2.1 (E.2.2.2.2.2.2.2.2.1 (RX9, 279, "priority", 12) (by decide +kernel)) dX9_statementOfWord_137 ?_
                        obtain ⟨p34, h35, hM⟩ := b_some hM
                        refine q_cv (As := [.ref (adK tS 12)]) (rest := []) E hw hl (c_X9_isWord l D cA tS A h F N 12 σ wd p34 h35) 1 (bwV bw_c tb_1647 tb_1649 tb_94 tb_112 tb_1650) rfl (by decide +kernel) ⟨Nat.le_of_ble_eq_true rfl, Nat.le_of_ble_eq_true rfl⟩ 0 9 (T := TX9) (N := 17) rfl rfl rfl rfl (Nat.le_of_ble_eq_true rfl) ⟨Nat.zero_le _, Nat.zero_le _⟩ dX9_statementOfWord_140 (fun H locs hw => ?_)
                        refine lv_if_eq (tgt := 149) hx hb dX9_statementOfWord_143 (by decide) (fun c36 => ?_) (fun c36 => ?_)
                        · replace hM := i_pos hM c36
                          refine lv_aload_n hx hb dX9_statementOfWord_149 rfl (lv_at hl 0 rfl) ?_
                          refine va_ldcSw hx hb E.1.2.2.2.1 (E.2.2.2.2.2.2.2.2.1 (RX9, 281, "pass", 13) (by decide +kernel)) dX9_statementOfWord_150 ?_
                          obtain ⟨p37, h38, hM⟩ := b_some hM
                          refine q_cv (As := [.ref (adK tS 13)]) (rest := []) E hw hl (c_X9_isWord l D cA tS A h F N 13 σ wd p37 h38) 1 (bwV bw_c tb_1647 tb_1649 tb_94 tb_112 tb_1650) rfl (by decide +kernel) ⟨Nat.le_of_ble_eq_true rfl, Nat.le_of_ble_eq_true rfl⟩ 0 9 (T := TX9) (N := 17) rfl rfl rfl rfl (Nat.le_of_ble_eq_true rfl) ⟨Nat.zero_le _, Nat.zero_le _⟩ dX9_statementOfWord_153 (fun H locs hw => ?_)
                          refine lv_if_eq (tgt := 164) hx hb dX9_statementOfWord_156 (by decide) (fun c39 => ?_) (fun c39 => ?_)
                          · replace hM := i_pos hM c39
                            refine lv_iconst (v := (-1)) hx hb dX9_statementOfWord_164 (by decide) ?_
                            cases hM
                            exact q_reti E hw dX9_statementOfWord_165
                          · replace hM := i_neg hM c39
                            refine lv_bipush (v := 12) hx hb dX9_statementOfWord_159 (by decide) ?_
                            refine lv_goto (tgt := 165) hx hb dX9_statementOfWord_161 (by decide) ?_
                            cases hM
                            exact q_reti E hw dX9_statementOfWord_165
                        · replace hM := i_neg hM c36
                          refine lv_bipush (v := 10) hx hb dX9_statementOfWord_146 (by decide) ?_
                          cases hM
                          exact q_reti E hw dX9_statementOfWord_148
                      · replace hM := i_neg hM c33
                        refine lv_bipush (v := 9) hx hb dX9_statementOfWord_133 (by decide) ?_
                        cases hM
                        exact q_reti E hw dX9_statementOfWord_135
                    · replace hM := i_neg hM c30
                      refine lv_bipush (v := 8) hx hb dX9_statementOfWord_120 (by decide) ?_
                      cases hM
                      exact q_reti E hw dX9_statementOfWord_122
                  · replace hM := i_neg hM c27
                    refine lv_bipush (v := 7) hx hb dX9_statementOfWord_107 (by decide) ?_
                    cases hM
                    exact q_reti E hw dX9_statementOfWord_109
                · replace hM := i_neg hM c24
                  refine lv_bipush (v := 6) hx hb dX9_statementOfWord_94 (by decide) ?_
                  cases hM
                  exact q_reti E hw dX9_statementOfWord_96
              · replace hM := i_neg hM c21
                refine lv_iconst (v := 5) hx hb dX9_statementOfWord_82 (by decide) ?_
                cases hM
                exact q_reti E hw dX9_statementOfWord_83
            · replace hM := i_neg hM c18
              refine lv_iconst (v := 4) hx hb dX9_statementOfWord_70 (by decide) ?_
              cases hM
              exact q_reti E hw dX9_statementOfWord_71
          · replace hM := i_neg hM c15
            refine lv_iconst (v := 3) hx hb dX9_statementOfWord_58 (by decide) ?_
            cases hM
            exact q_reti E hw dX9_statementOfWord_59
        · replace hM := i_neg hM c12
          refine lv_iconst (v := 2) hx hb dX9_statementOfWord_46 (by decide) ?_
          cases hM
          exact q_reti E hw dX9_statementOfWord_47
      · replace hM := i_neg hM c9
        refine lv_iconst (v := 1) hx hb dX9_statementOfWord_34 (by decide) ?_
        cases hM
        exact q_reti E hw dX9_statementOfWord_35
    · replace hM := i_neg hM c6
      refine lv_bipush (v := 11) hx hb dX9_statementOfWord_21 (by decide) ?_
      cases hM
      exact q_reti E hw dX9_statementOfWord_23
  · replace hM := i_neg hM c3
    refine lv_iconst (v := 0) hx hb dX9_statementOfWord_9 (by decide) ?_
    cases hM
    exact q_reti E hw dX9_statementOfWord_10
def f_X9_argumentsOf    (x0 : Int32) : Option (Int32) := (if x0 = 0 then some 3 else if x0 = 1 then some 2 else if x0 = 2 then some 4 else if x0 = 8 then some 2 else if x0 = 10 then some 2 else if x0 = 11 then some 5 else some 1)
set_option maxRecDepth 100000 in
set_option maxHeartbeats 4000000 in
theorem c_X9_argumentsOf (l : Launch) (D : va_G) (cA : Nat → ClassId) (tS : Nat → Nat) (A : Nat → Prop) (F : va_W) (x0 : Int32) (r0 : Int32) (hM : f_X9_argumentsOf x0 = some r0) : Ct l yX9_argumentsOf (Cond.code yX9_argumentsOf cX9_argumentsOf 1 (some .int) :: bw) 0 0 D cA tS A [.int x0] F (some (.int r0)) F := by
  refine ct_of (by decide +kernel) (Nat.le_of_ble_eq_true rfl) ?_
  intro p e s m below meth c E hw ls hl
  replace E : Ev p cX9_argumentsOf 1 (some .int) RX9 (Cond.code yX9_argumentsOf cX9_argumentsOf 1 (some .int) :: bw) D cA tS A s m _ meth c := E
  replace hl : lv_has ls 1 [(0, .int x0)] := hl
  have hx := E.1.1
  have hb := E.1.2.1
  unfold f_X9_argumentsOf at hM
  refine lv_iload_n hx hb dX9_argumentsOf_0 rfl (lv_at hl 0 rfl) ?_
  by_cases c1 : x0 = 0
  · replace hM := i_pos hM c1
    refine lv_tableIn (tgt := 68) hx hb dX9_argumentsOf_1 (by rw [c1]; decide) (by rw [c1]; decide) (off := 67) (by rw [c1]; decide) (by decide) ?_
    refine lv_iconst (v := 3) hx hb dX9_argumentsOf_68 (by decide) ?_
    cases hM
    exact q_reti E hw dX9_argumentsOf_69
  replace hM := i_neg hM c1
  by_cases c2 : x0 = 1
  · replace hM := i_pos hM c2
    refine lv_tableIn (tgt := 70) hx hb dX9_argumentsOf_1 (by rw [c2]; decide) (by rw [c2]; decide) (off := 69) (by rw [c2]; decide) (by decide) ?_
    refine lv_iconst (v := 2) hx hb dX9_argumentsOf_70 (by decide) ?_
    cases hM
    exact q_reti E hw dX9_argumentsOf_71
  replace hM := i_neg hM c2
  by_cases c3 : x0 = 2
  · replace hM := i_pos hM c3
    refine lv_tableIn (tgt := 66) hx hb dX9_argumentsOf_1 (by rw [c3]; decide) (by rw [c3]; decide) (off := 65) (by rw [c3]; decide) (by decide) ?_
    refine lv_iconst (v := 4) hx hb dX9_argumentsOf_66 (by decide) ?_
    cases hM
    exact q_reti E hw dX9_argumentsOf_67
  replace hM := i_neg hM c3
  by_cases c4 : x0 = 8
  · replace hM := i_pos hM c4
    refine lv_tableIn (tgt := 70) hx hb dX9_argumentsOf_1 (by rw [c4]; decide) (by rw [c4]; decide) (off := 69) (by rw [c4]; decide) (by decide) ?_
    refine lv_iconst (v := 2) hx hb dX9_argumentsOf_70 (by decide) ?_
    cases hM
    exact q_reti E hw dX9_argumentsOf_71
  replace hM := i_neg hM c4
  by_cases c5 : x0 = 10
  · replace hM := i_pos hM c5
    refine lv_tableIn (tgt := 70) hx hb dX9_argumentsOf_1 (by rw [c5]; decide) (by rw [c5]; decide) (off := 69) (by rw [c5]; decide) (by decide) ?_
    refine lv_iconst (v := 2) hx hb dX9_argumentsOf_70 (by decide) ?_
    cases hM
    exact q_reti E hw dX9_argumentsOf_71
  replace hM := i_neg hM c5
  by_cases c6 : x0 = 11
  · replace hM := i_pos hM c6
    refine lv_tableIn (tgt := 64) hx hb dX9_argumentsOf_1 (by rw [c6]; decide) (by rw [c6]; decide) (off := 63) (by rw [c6]; decide) (by decide) ?_
    refine lv_iconst (v := 5) hx hb dX9_argumentsOf_64 (by decide) ?_
    cases hM
    exact q_reti E hw dX9_argumentsOf_65
  replace hM := i_neg hM c6
  refine q_tableD (tgt := 72) hx hb dX9_argumentsOf_1 (fun hq => ?_) (by decide) ?_
  · have hz : (x0).toInt = 0 ∨ (x0).toInt = 1 ∨ (x0).toInt = 2 ∨ (x0).toInt = 3 ∨ (x0).toInt = 4 ∨ (x0).toInt = 5 ∨ (x0).toInt = 6 ∨ (x0).toInt = 7 ∨ (x0).toInt = 8 ∨ (x0).toInt = 9 ∨ (x0).toInt = 10 ∨ (x0).toInt = 11 := by omega
    rcases hz with hz | hz | hz | hz | hz | hz | hz | hz | hz | hz | hz | hz
    · exact absurd (Int32.toInt_inj.mp (hz.trans (by decide))) c1
    · exact absurd (Int32.toInt_inj.mp (hz.trans (by decide))) c2
    · exact absurd (Int32.toInt_inj.mp (hz.trans (by decide))) c3
    · rw [hz]; decide
    · rw [hz]; decide
    · rw [hz]; decide
    · rw [hz]; decide
    · rw [hz]; decide
    · exact absurd (Int32.toInt_inj.mp (hz.trans (by decide))) c4
    · rw [hz]; decide
    · exact absurd (Int32.toInt_inj.mp (hz.trans (by decide))) c5
    · exact absurd (Int32.toInt_inj.mp (hz.trans (by decide))) c6
  refine lv_iconst (v := 1) hx hb dX9_argumentsOf_72 (by decide) ?_
  cases hM
  exact q_reti E hw dX9_argumentsOf_73
def f_X9_require    (x1 : Int32) (x2 : Int32) (σ : Sg) (wd : Int64) : Option (Sg) := (if x1 = 0 then (if (σ 12 0) = 0 then some (up (up σ 12 0 x2) 13 0 (σ 8 0)) else some σ) else some σ)
set_option maxRecDepth 100000 in
set_option maxHeartbeats 4000000 in
theorem c_X9_require (l : Launch) (D : va_G) (cA : Nat → ClassId) (tS : Nat → Nat) (A : Nat → Prop) (h : Nat → Nat) (F : va_W) (x1 : Int32) (x2 : Int32) (σ : Sg) (wd : Int64) (s0 : Sg) (hM : f_X9_require x1 x2 σ wd = some s0) : Ct l yX9_require (Cond.code yX9_require cX9_require 3 none :: bw) 0 0 D cA tS A [.ref (h 0), .int x1, .int x2] (wM cA h σ wd ++ F) none (wM cA h s0 wd ++ F) := by
  refine ct_of (by decide +kernel) (Nat.le_of_ble_eq_true rfl) ?_
  intro p e s m below meth c E hw ls hl
  replace E : Ev p cX9_require 3 none RX9 (Cond.code yX9_require cX9_require 3 none :: bw) D cA tS A s m _ meth c := E
  replace hl : lv_has ls 3 [(0, .ref (h 0)), (1, .int x1), (2, .int x2)] := hl
  have hx := E.1.1
  have hb := E.1.2.1
  unfold f_X9_require at hM
  refine lv_iload_n hx hb dX9_require_0 rfl (lv_at hl 1 rfl) ?_
  refine lv_if_ne (tgt := 24) hx hb dX9_require_1 (by decide) (fun c1 => ?_) (fun c1 => ?_)
  · replace hM := i_neg hM c1
    cases hM
    exact q_retv E hw dX9_require_24
  · replace hM := i_pos hM c1
    refine lv_aload_n hx hb dX9_require_4 rfl (lv_at hl 0 rfl) ?_
    refine q_get (C := RX9) (T := TX9) (N := 17) (ci := 9) E (fun w h => List.mem_cons_of_mem _ (inX9 w h)) hw 0 rfl rfl 11 (by decide) (List.mem_cons_of_mem _ tb_1168) (v := .int (σ 12 0)) rfl dX9_require_5 ?_
    refine lv_if_ne (tgt := 24) hx hb dX9_require_8 (by decide) (fun c2 => ?_) (fun c2 => ?_)
    · replace hM := i_neg hM c2
      cases hM
      exact q_retv E hw dX9_require_24
    · replace hM := i_pos hM c2
      refine lv_aload_n hx hb dX9_require_11 rfl (lv_at hl 0 rfl) ?_
      refine lv_iload_n hx hb dX9_require_12 rfl (lv_at hl 2 rfl) ?_
      refine q_puti (C := RX9) (T := TX9) (N := 17) (ci := 9) E (fun w h => List.mem_cons_of_mem _ (inX9 w h)) tyX9 tyX9_ok nmX9 hw 0 rfl rfl 11 (by decide) (List.mem_cons_of_mem _ tb_1168) rfl rfl (Nat.le_of_ble_eq_true rfl) (wM cA h (up σ 12 0 x2) wd ++ F) st_M_12 dX9_require_13 (fun H locs hw => ?_)
      refine lv_aload_n hx hb dX9_require_16 rfl (lv_at hl 0 rfl) ?_
      refine lv_aload_n hx hb dX9_require_17 rfl (lv_at hl 0 rfl) ?_
      refine q_get (C := RX9) (T := TX9) (N := 17) (ci := 9) E (fun w h => List.mem_cons_of_mem _ (inX9 w h)) hw 0 rfl rfl 7 (by decide) (List.mem_cons_of_mem _ tb_1164) (v := .int (σ 8 0)) (q_fld (congrFun (up_ne σ 12 0 x2 8 (by decide)) 0) rfl) dX9_require_18 ?_
      refine q_puti (C := RX9) (T := TX9) (N := 17) (ci := 9) E (fun w h => List.mem_cons_of_mem _ (inX9 w h)) tyX9 tyX9_ok nmX9 hw 0 rfl rfl 12 (by decide) (List.mem_cons_of_mem _ tb_1169) rfl rfl (Nat.le_of_ble_eq_true rfl) (wM cA h (up (up σ 12 0 x2) 13 0 (σ 8 0)) wd ++ F) st_M_13 dX9_require_21 (fun H locs hw => ?_)
      cases hM
      exact q_retv E hw dX9_require_24
def f_X9_advance (N : Nat)   (σ : Sg) (wd : Int64) : Option (Sg × Int64) := (if (σ 12 0) = 0 then (f_X9_nextToken N σ wd).bind (fun p2 => some (p2.1, p2.2)) else some (σ, wd))
set_option maxRecDepth 100000 in
set_option maxHeartbeats 4000000 in
theorem c_X9_advance (l : Launch) (D : va_G) (cA : Nat → ClassId) (tS : Nat → Nat) (A : Nat → Prop) (h : Nat → Nat) (F : va_W) (N : Nat) (σ : Sg) (wd : Int64) (s0 : Sg) (wd0 : Int64) (hM : f_X9_advance N σ wd = some (s0, wd0)) : Ct l yX9_advance (Cond.code yX9_advance cX9_advance 1 none :: bw) 3 63 D cA tS A [.ref (h 0)] (wM cA h σ wd ++ F) none (wM cA h s0 wd0 ++ F) := by
  refine ct_of (by decide +kernel) (Nat.le_of_ble_eq_true rfl) ?_
  intro p e s m below meth c E hw ls hl
  replace E : Ev p cX9_advance 1 none RX9 (Cond.code yX9_advance cX9_advance 1 none :: bw) D cA tS A s m _ meth c := E
  replace hl : lv_has ls 1 [(0, .ref (h 0))] := hl
  have hx := E.1.1
  have hb := E.1.2.1
  unfold f_X9_advance at hM
  refine lv_aload_n hx hb dX9_advance_0 rfl (lv_at hl 0 rfl) ?_
  refine q_get (C := RX9) (T := TX9) (N := 17) (ci := 9) E (fun w h => List.mem_cons_of_mem _ (inX9 w h)) hw 0 rfl rfl 11 (by decide) (List.mem_cons_of_mem _ tb_1168) (v := .int (σ 12 0)) rfl dX9_advance_1 ?_
  refine lv_if_ne (tgt := 11) hx hb dX9_advance_4 (by decide) (fun c1 => ?_) (fun c1 => ?_)
  · replace hM := i_neg hM c1
    cases hM
    exact q_retv E hw dX9_advance_11
  · replace hM := i_pos hM c1
    refine lv_aload_n hx hb dX9_advance_7 rfl (lv_at hl 0 rfl) ?_
    obtain ⟨p2, h3, hM⟩ := b_some hM
    refine q_cvv (As := []) (rest := []) E hw hl (c_X9_nextToken l D cA tS A h F N σ wd p2.1 p2.2 h3) 0 (bwV bw_c tb_1621 tb_1623 tb_90 tb_112 tb_1624) rfl (by decide +kernel) ⟨Nat.le_of_ble_eq_true rfl, Nat.le_of_ble_eq_true rfl⟩ 0 9 (T := TX9) (N := 17) rfl rfl rfl rfl (Nat.le_of_ble_eq_true rfl) ⟨Nat.zero_le _, Nat.zero_le _⟩ dX9_advance_8 (fun H locs hw => ?_)
    cases hM
    exact q_retv E hw dX9_advance_11
def f_X9_parseNumber (N : Nat)   (σ : Sg) (wd : Int64) : Option (Int32 × Sg × Int64) := (if (σ 9 0) = 3 then (f_X9_require 1 1 σ wd).bind (fun p13 => (if 99999 < (p13 11 0) then (f_X9_require 0 2 p13 wd).bind (fun p16 => (f_X9_advance N p16 wd).bind (fun p18 => some ((p16 11 0), p18.1, p18.2))) else (f_X9_require 1 2 p13 wd).bind (fun p20 => (f_X9_advance N p20 wd).bind (fun p22 => some ((p20 11 0), p22.1, p22.2))))) else (f_X9_require 0 1 σ wd).bind (fun p2 => (if 99999 < (p2 11 0) then (f_X9_require 0 2 p2 wd).bind (fun p5 => (f_X9_advance N p5 wd).bind (fun p7 => some ((p5 11 0), p7.1, p7.2))) else (f_X9_require 1 2 p2 wd).bind (fun p9 => (f_X9_advance N p9 wd).bind (fun p11 => some ((p9 11 0), p11.1, p11.2))))))
set_option maxRecDepth 100000 in
set_option maxHeartbeats 4000000 in
theorem c_X9_parseNumber (l : Launch) (D : va_G) (cA : Nat → ClassId) (tS : Nat → Nat) (A : Nat → Prop) (h : Nat → Nat) (F : va_W) (N : Nat) (σ : Sg) (wd : Int64) (r0 : Int32) (s0 : Sg) (wd0 : Int64) (hM : f_X9_parseNumber N σ wd = some (r0, s0, wd0)) : Ct l yX9_parseNumber (Cond.code yX9_parseNumber cX9_parseNumber 2 (some .int) :: bw) 4 83 D cA tS A [.ref (h 0)] (wM cA h σ wd ++ F) (some (.int r0)) (wM cA h s0 wd0 ++ F) := by
  refine ct_of (by decide +kernel) (Nat.le_of_ble_eq_true rfl) ?_
  intro p e s m below meth c E hw ls hl
  replace E : Ev p cX9_parseNumber 2 (some .int) RX9 (Cond.code yX9_parseNumber cX9_parseNumber 2 (some .int) :: bw) D cA tS A s m _ meth c := E
  replace hl : lv_has ls 2 [(0, .ref (h 0))] := hl
  have hx := E.1.1
  have hb := E.1.2.1
  unfold f_X9_parseNumber at hM
  refine lv_aload_n hx hb dX9_parseNumber_0 rfl (lv_at hl 0 rfl) ?_
  refine lv_aload_n hx hb dX9_parseNumber_1 rfl (lv_at hl 0 rfl) ?_
  refine q_get (C := RX9) (T := TX9) (N := 17) (ci := 9) E (fun w h => List.mem_cons_of_mem _ (inX9 w h)) hw 0 rfl rfl 8 (by decide) (List.mem_cons_of_mem _ tb_1165) (v := .int (σ 9 0)) rfl dX9_parseNumber_2 ?_
  refine lv_iconst (v := 3) hx hb dX9_parseNumber_5 (by decide) ?_
  refine lv_icmp_ne (tgt := 13) hx hb dX9_parseNumber_6 (by decide) (fun c1 => ?_) (fun c1 => ?_)
  · replace hM := i_neg hM c1
    refine lv_iconst (v := 0) hx hb dX9_parseNumber_13 (by decide) ?_
    refine lv_iconst (v := 1) hx hb dX9_parseNumber_14 (by decide) ?_
    obtain ⟨p2, h3, hM⟩ := b_some hM
    refine q_cvv (As := [.int 0, .int 1]) (rest := []) E hw hl (c_X9_require l D cA tS A h F 0 1 σ wd p2 h3) 2 (bwV bw_c tb_1665 tb_1667 tb_95 tb_112 tb_1668) rfl (by decide +kernel) ⟨Nat.le_of_ble_eq_true rfl, Nat.le_of_ble_eq_true rfl⟩ 0 9 (T := TX9) (N := 17) rfl rfl rfl rfl (Nat.le_of_ble_eq_true rfl) ⟨Nat.zero_le _, Nat.zero_le _⟩ dX9_parseNumber_15 (fun H locs hw => ?_)
    refine lv_aload_n hx hb dX9_parseNumber_18 rfl (lv_at hl 0 rfl) ?_
    refine lv_aload_n hx hb dX9_parseNumber_19 rfl (lv_at hl 0 rfl) ?_
    refine q_get (C := RX9) (T := TX9) (N := 17) (ci := 9) E (fun w h => List.mem_cons_of_mem _ (inX9 w h)) hw 0 rfl rfl 10 (by decide) (List.mem_cons_of_mem _ tb_1167) (v := .int (p2 11 0)) rfl dX9_parseNumber_20 ?_
    refine lv_ldc (v := 99999) hx hb E.1.2.2.2.1 (E.1.2.2.2.2 _ (List.mem_cons_of_mem _ tb_1637)) dX9_parseNumber_23 ?_
    refine lv_icmp_gt (tgt := 32) hx hb dX9_parseNumber_25 (by decide) (fun c4 => ?_) (fun c4 => ?_)
    · replace hM := i_pos hM c4
      refine lv_iconst (v := 0) hx hb dX9_parseNumber_32 (by decide) ?_
      refine lv_iconst (v := 2) hx hb dX9_parseNumber_33 (by decide) ?_
      obtain ⟨p5, h6, hM⟩ := b_some hM
      refine q_cvv (As := [.int 0, .int 2]) (rest := []) E hw hl (c_X9_require l D cA tS A h F 0 2 p2 wd p5 h6) 2 (bwV bw_c tb_1665 tb_1667 tb_95 tb_112 tb_1668) rfl (by decide +kernel) ⟨Nat.le_of_ble_eq_true rfl, Nat.le_of_ble_eq_true rfl⟩ 0 9 (T := TX9) (N := 17) rfl rfl rfl rfl (Nat.le_of_ble_eq_true rfl) ⟨Nat.zero_le _, Nat.zero_le _⟩ dX9_parseNumber_34 (fun H locs hw => ?_)
      refine lv_aload_n hx hb dX9_parseNumber_37 rfl (lv_at hl 0 rfl) ?_
      refine q_get (C := RX9) (T := TX9) (N := 17) (ci := 9) E (fun w h => List.mem_cons_of_mem _ (inX9 w h)) hw 0 rfl rfl 10 (by decide) (List.mem_cons_of_mem _ tb_1167) (v := .int (p5 11 0)) rfl dX9_parseNumber_38 ?_
      refine lv_istore_n (lv' := [(1, .int (p5 11 0)), (0, .ref (h 0))]) hx hb dX9_parseNumber_41 rfl hl (by decide) rfl (fun ls hl => ?_)
      refine lv_aload_n hx hb dX9_parseNumber_42 rfl (lv_at hl 1 rfl) ?_
      obtain ⟨p7, h8, hM⟩ := b_some hM
      refine q_cvv (As := []) (rest := []) E hw hl (c_X9_advance l D cA tS A h F N p5 wd p7.1 p7.2 h8) 0 (bwV bw_c tb_1669 tb_1671 tb_96 tb_112 tb_1672) rfl (by decide +kernel) ⟨Nat.le_of_ble_eq_true rfl, Nat.le_of_ble_eq_true rfl⟩ 0 9 (T := TX9) (N := 17) rfl rfl rfl rfl (Nat.le_of_ble_eq_true rfl) ⟨Nat.zero_le _, Nat.zero_le _⟩ dX9_parseNumber_43 (fun H locs hw => ?_)
      refine lv_iload_n hx hb dX9_parseNumber_46 rfl (lv_at hl 0 rfl) ?_
      cases hM
      exact q_reti E hw dX9_parseNumber_47
    · replace hM := i_neg hM c4
      refine lv_iconst (v := 1) hx hb dX9_parseNumber_28 (by decide) ?_
      refine lv_goto (tgt := 33) hx hb dX9_parseNumber_29 (by decide) ?_
      refine lv_iconst (v := 2) hx hb dX9_parseNumber_33 (by decide) ?_
      obtain ⟨p9, h10, hM⟩ := b_some hM
      refine q_cvv (As := [.int 1, .int 2]) (rest := []) E hw hl (c_X9_require l D cA tS A h F 1 2 p2 wd p9 h10) 2 (bwV bw_c tb_1665 tb_1667 tb_95 tb_112 tb_1668) rfl (by decide +kernel) ⟨Nat.le_of_ble_eq_true rfl, Nat.le_of_ble_eq_true rfl⟩ 0 9 (T := TX9) (N := 17) rfl rfl rfl rfl (Nat.le_of_ble_eq_true rfl) ⟨Nat.zero_le _, Nat.zero_le _⟩ dX9_parseNumber_34 (fun H locs hw => ?_)
      refine lv_aload_n hx hb dX9_parseNumber_37 rfl (lv_at hl 0 rfl) ?_
      refine q_get (C := RX9) (T := TX9) (N := 17) (ci := 9) E (fun w h => List.mem_cons_of_mem _ (inX9 w h)) hw 0 rfl rfl 10 (by decide) (List.mem_cons_of_mem _ tb_1167) (v := .int (p9 11 0)) rfl dX9_parseNumber_38 ?_
      refine lv_istore_n (lv' := [(1, .int (p9 11 0)), (0, .ref (h 0))]) hx hb dX9_parseNumber_41 rfl hl (by decide) rfl (fun ls hl => ?_)
      refine lv_aload_n hx hb dX9_parseNumber_42 rfl (lv_at hl 1 rfl) ?_
      obtain ⟨p11, h12, hM⟩ := b_some hM
      refine q_cvv (As := []) (rest := []) E hw hl (c_X9_advance l D cA tS A h F N p9 wd p11.1 p11.2 h12) 0 (bwV bw_c tb_1669 tb_1671 tb_96 tb_112 tb_1672) rfl (by decide +kernel) ⟨Nat.le_of_ble_eq_true rfl, Nat.le_of_ble_eq_true rfl⟩ 0 9 (T := TX9) (N := 17) rfl rfl rfl rfl (Nat.le_of_ble_eq_true rfl) ⟨Nat.zero_le _, Nat.zero_le _⟩ dX9_parseNumber_43 (fun H locs hw => ?_)
      refine lv_iload_n hx hb dX9_parseNumber_46 rfl (lv_at hl 0 rfl) ?_
      cases hM
      exact q_reti E hw dX9_parseNumber_47
  · replace hM := i_pos hM c1
    refine lv_iconst (v := 1) hx hb dX9_parseNumber_9 (by decide) ?_
    refine lv_goto (tgt := 14) hx hb dX9_parseNumber_10 (by decide) ?_
    refine lv_iconst (v := 1) hx hb dX9_parseNumber_14 (by decide) ?_
    obtain ⟨p13, h14, hM⟩ := b_some hM
    refine q_cvv (As := [.int 1, .int 1]) (rest := []) E hw hl (c_X9_require l D cA tS A h F 1 1 σ wd p13 h14) 2 (bwV bw_c tb_1665 tb_1667 tb_95 tb_112 tb_1668) rfl (by decide +kernel) ⟨Nat.le_of_ble_eq_true rfl, Nat.le_of_ble_eq_true rfl⟩ 0 9 (T := TX9) (N := 17) rfl rfl rfl rfl (Nat.le_of_ble_eq_true rfl) ⟨Nat.zero_le _, Nat.zero_le _⟩ dX9_parseNumber_15 (fun H locs hw => ?_)
    refine lv_aload_n hx hb dX9_parseNumber_18 rfl (lv_at hl 0 rfl) ?_
    refine lv_aload_n hx hb dX9_parseNumber_19 rfl (lv_at hl 0 rfl) ?_
    refine q_get (C := RX9) (T := TX9) (N := 17) (ci := 9) E (fun w h => List.mem_cons_of_mem _ (inX9 w h)) hw 0 rfl rfl 10 (by decide) (List.mem_cons_of_mem _ tb_1167) (v := .int (p13 11 0)) rfl dX9_parseNumber_20 ?_
    refine lv_ldc (v := 99999) hx hb E.1.2.2.2.1 (E.1.2.2.2.2 _ (List.mem_cons_of_mem _ tb_1637)) dX9_parseNumber_23 ?_
    refine lv_icmp_gt (tgt := 32) hx hb dX9_parseNumber_25 (by decide) (fun c15 => ?_) (fun c15 => ?_)
    · replace hM := i_pos hM c15
      refine lv_iconst (v := 0) hx hb dX9_parseNumber_32 (by decide) ?_
      refine lv_iconst (v := 2) hx hb dX9_parseNumber_33 (by decide) ?_
      obtain ⟨p16, h17, hM⟩ := b_some hM
      refine q_cvv (As := [.int 0, .int 2]) (rest := []) E hw hl (c_X9_require l D cA tS A h F 0 2 p13 wd p16 h17) 2 (bwV bw_c tb_1665 tb_1667 tb_95 tb_112 tb_1668) rfl (by decide +kernel) ⟨Nat.le_of_ble_eq_true rfl, Nat.le_of_ble_eq_true rfl⟩ 0 9 (T := TX9) (N := 17) rfl rfl rfl rfl (Nat.le_of_ble_eq_true rfl) ⟨Nat.zero_le _, Nat.zero_le _⟩ dX9_parseNumber_34 (fun H locs hw => ?_)
      refine lv_aload_n hx hb dX9_parseNumber_37 rfl (lv_at hl 0 rfl) ?_
      refine q_get (C := RX9) (T := TX9) (N := 17) (ci := 9) E (fun w h => List.mem_cons_of_mem _ (inX9 w h)) hw 0 rfl rfl 10 (by decide) (List.mem_cons_of_mem _ tb_1167) (v := .int (p16 11 0)) rfl dX9_parseNumber_38 ?_
      refine lv_istore_n (lv' := [(1, .int (p16 11 0)), (0, .ref (h 0))]) hx hb dX9_parseNumber_41 rfl hl (by decide) rfl (fun ls hl => ?_)
      refine lv_aload_n hx hb dX9_parseNumber_42 rfl (lv_at hl 1 rfl) ?_
      obtain ⟨p18, h19, hM⟩ := b_some hM
      refine q_cvv (As := []) (rest := []) E hw hl (c_X9_advance l D cA tS A h F N p16 wd p18.1 p18.2 h19) 0 (bwV bw_c tb_1669 tb_1671 tb_96 tb_112 tb_1672) rfl (by decide +kernel) ⟨Nat.le_of_ble_eq_true rfl, Nat.le_of_ble_eq_true rfl⟩ 0 9 (T := TX9) (N := 17) rfl rfl rfl rfl (Nat.le_of_ble_eq_true rfl) ⟨Nat.zero_le _, Nat.zero_le _⟩ dX9_parseNumber_43 (fun H locs hw => ?_)
      refine lv_iload_n hx hb dX9_parseNumber_46 rfl (lv_at hl 0 rfl) ?_
      cases hM
      exact q_reti E hw dX9_parseNumber_47
    · replace hM := i_neg hM c15
      refine lv_iconst (v := 1) hx hb dX9_parseNumber_28 (by decide) ?_
      refine lv_goto (tgt := 33) hx hb dX9_parseNumber_29 (by decide) ?_
      refine lv_iconst (v := 2) hx hb dX9_parseNumber_33 (by decide) ?_
      obtain ⟨p20, h21, hM⟩ := b_some hM
      refine q_cvv (As := [.int 1, .int 2]) (rest := []) E hw hl (c_X9_require l D cA tS A h F 1 2 p13 wd p20 h21) 2 (bwV bw_c tb_1665 tb_1667 tb_95 tb_112 tb_1668) rfl (by decide +kernel) ⟨Nat.le_of_ble_eq_true rfl, Nat.le_of_ble_eq_true rfl⟩ 0 9 (T := TX9) (N := 17) rfl rfl rfl rfl (Nat.le_of_ble_eq_true rfl) ⟨Nat.zero_le _, Nat.zero_le _⟩ dX9_parseNumber_34 (fun H locs hw => ?_)
      refine lv_aload_n hx hb dX9_parseNumber_37 rfl (lv_at hl 0 rfl) ?_
      refine q_get (C := RX9) (T := TX9) (N := 17) (ci := 9) E (fun w h => List.mem_cons_of_mem _ (inX9 w h)) hw 0 rfl rfl 10 (by decide) (List.mem_cons_of_mem _ tb_1167) (v := .int (p20 11 0)) rfl dX9_parseNumber_38 ?_
      refine lv_istore_n (lv' := [(1, .int (p20 11 0)), (0, .ref (h 0))]) hx hb dX9_parseNumber_41 rfl hl (by decide) rfl (fun ls hl => ?_)
      refine lv_aload_n hx hb dX9_parseNumber_42 rfl (lv_at hl 1 rfl) ?_
      obtain ⟨p22, h23, hM⟩ := b_some hM
      refine q_cvv (As := []) (rest := []) E hw hl (c_X9_advance l D cA tS A h F N p20 wd p22.1 p22.2 h23) 0 (bwV bw_c tb_1669 tb_1671 tb_96 tb_112 tb_1672) rfl (by decide +kernel) ⟨Nat.le_of_ble_eq_true rfl, Nat.le_of_ble_eq_true rfl⟩ 0 9 (T := TX9) (N := 17) rfl rfl rfl rfl (Nat.le_of_ble_eq_true rfl) ⟨Nat.zero_le _, Nat.zero_le _⟩ dX9_parseNumber_43 (fun H locs hw => ?_)
      refine lv_iload_n hx hb dX9_parseNumber_46 rfl (lv_at hl 0 rfl) ?_
      cases hM
      exact q_reti E hw dX9_parseNumber_47
def f_X9_parseStatement_154 (N : Nat)   (σ : Sg) (wd : Int64) : Option (Sg × Int64) := (if (σ 9 0) = 4 then (f_X9_require 1 1 σ wd).bind (fun p6 => (f_X9_advance N p6 wd).bind (fun p8 => some ((up p8.1 16 0 ((p8.1 16 0) + 1)), p8.2))) else (f_X9_require 0 1 σ wd).bind (fun p2 => (f_X9_advance N p2 wd).bind (fun p4 => some ((up p4.1 16 0 ((p4.1 16 0) + 1)), p4.2))))
set_option maxRecDepth 100000 in
set_option maxHeartbeats 4000000 in
theorem s_X9_parseStatement_154 (l : Launch) (D : va_G) (cA : Nat → ClassId) (tS : Nat → Nat) (A : Nat → Prop) (h : Nat → Nat) (F : va_W) (N : Nat) {p : Program} {e : Env} {s : State} {m : MethodId} {args : Array Value} {below : List Frame} {meth : Method} {c : Code} (E : Ev p cX9_parseStatement 4 none RX9 (Cond.code yX9_parseStatement cX9_parseStatement 4 none :: bw) D cA tS A s m args meth c) : ∀ (σ : Sg) (wd : Int64) (s0 : Sg) (wd0 : Int64) (hM : f_X9_parseStatement_154 N σ wd = some (s0, wd0)) (H : Heap) (locs : List Loc) (hw : Wd D A (wM cA h σ wd ++ F) s.heap H locs) (ls : Array Slot) (hl : lv_has ls 4 [(0, .ref (h 0))]), W p l e ({ frames := 6, cells := 0, slots := 0, locals := 129 } : Room) s m args below meth c H locs 0 0 (MQ below (QW D A none (wM cA h s0 wd0 ++ F)) args s 0 0 A) (F0 m 154 ls []) := by
  have hx := E.1.1
  have hb := E.1.2.1
  intro σ wd s0 wd0 hM H locs hw ls hl
  unfold f_X9_parseStatement_154 at hM
  refine lv_aload_n hx hb dX9_parseStatement_154 rfl (lv_at hl 0 rfl) ?_
  refine lv_aload_n hx hb dX9_parseStatement_155 rfl (lv_at hl 0 rfl) ?_
  refine q_get (C := RX9) (T := TX9) (N := 17) (ci := 9) E (fun w h => List.mem_cons_of_mem _ (inX9 w h)) hw 0 rfl rfl 8 (by decide) (List.mem_cons_of_mem _ tb_1165) (v := .int (σ 9 0)) rfl dX9_parseStatement_156 ?_
  refine lv_iconst (v := 4) hx hb dX9_parseStatement_159 (by decide) ?_
  refine lv_icmp_ne (tgt := 167) hx hb dX9_parseStatement_160 (by decide) (fun c1 => ?_) (fun c1 => ?_)
  · replace hM := i_neg hM c1
    refine lv_iconst (v := 0) hx hb dX9_parseStatement_167 (by decide) ?_
    refine lv_iconst (v := 1) hx hb dX9_parseStatement_168 (by decide) ?_
    obtain ⟨p2, h3, hM⟩ := b_some hM
    refine q_cvv (As := [.int 0, .int 1]) (rest := []) E hw hl (c_X9_require l D cA tS A h F 0 1 σ wd p2 h3) 2 (bwV bw_c tb_1665 tb_1667 tb_95 tb_112 tb_1668) rfl (by decide +kernel) ⟨Nat.le_of_ble_eq_true rfl, Nat.le_of_ble_eq_true rfl⟩ 0 9 (T := TX9) (N := 17) rfl rfl rfl rfl (Nat.le_of_ble_eq_true rfl) ⟨Nat.zero_le _, Nat.zero_le _⟩ dX9_parseStatement_169 (fun H locs hw => ?_)
    refine lv_aload_n hx hb dX9_parseStatement_172 rfl (lv_at hl 0 rfl) ?_
    obtain ⟨p4, h5, hM⟩ := b_some hM
    refine q_cvv (As := []) (rest := []) E hw hl (c_X9_advance l D cA tS A h F N p2 wd p4.1 p4.2 h5) 0 (bwV bw_c tb_1669 tb_1671 tb_96 tb_112 tb_1672) rfl (by decide +kernel) ⟨Nat.le_of_ble_eq_true rfl, Nat.le_of_ble_eq_true rfl⟩ 0 9 (T := TX9) (N := 17) rfl rfl rfl rfl (Nat.le_of_ble_eq_true rfl) ⟨Nat.zero_le _, Nat.zero_le _⟩ dX9_parseStatement_173 (fun H locs hw => ?_)
    refine lv_aload_n hx hb dX9_parseStatement_176 rfl (lv_at hl 0 rfl) ?_
    refine lv_dup hx hb dX9_parseStatement_177 rfl ?_
    refine q_get (C := RX9) (T := TX9) (N := 17) (ci := 9) E (fun w h => List.mem_cons_of_mem _ (inX9 w h)) hw 0 rfl rfl 16 (by decide) (List.mem_cons_of_mem _ tb_1173) (v := .int (p4.1 16 0)) rfl dX9_parseStatement_178 ?_
    refine lv_iconst (v := 1) hx hb dX9_parseStatement_181 (by decide) ?_
    refine lv_iadd hx hb dX9_parseStatement_182 ?_
    refine q_puti (C := RX9) (T := TX9) (N := 17) (ci := 9) E (fun w h => List.mem_cons_of_mem _ (inX9 w h)) tyX9 tyX9_ok nmX9 hw 0 rfl rfl 16 (by decide) (List.mem_cons_of_mem _ tb_1173) rfl rfl (Nat.le_of_ble_eq_true rfl) (wM cA h (up p4.1 16 0 ((p4.1 16 0) + 1)) p4.2 ++ F) st_M_16 dX9_parseStatement_183 (fun H locs hw => ?_)
    cases hM
    exact q_retv E hw dX9_parseStatement_186
  · replace hM := i_pos hM c1
    refine lv_iconst (v := 1) hx hb dX9_parseStatement_163 (by decide) ?_
    refine lv_goto (tgt := 168) hx hb dX9_parseStatement_164 (by decide) ?_
    refine lv_iconst (v := 1) hx hb dX9_parseStatement_168 (by decide) ?_
    obtain ⟨p6, h7, hM⟩ := b_some hM
    refine q_cvv (As := [.int 1, .int 1]) (rest := []) E hw hl (c_X9_require l D cA tS A h F 1 1 σ wd p6 h7) 2 (bwV bw_c tb_1665 tb_1667 tb_95 tb_112 tb_1668) rfl (by decide +kernel) ⟨Nat.le_of_ble_eq_true rfl, Nat.le_of_ble_eq_true rfl⟩ 0 9 (T := TX9) (N := 17) rfl rfl rfl rfl (Nat.le_of_ble_eq_true rfl) ⟨Nat.zero_le _, Nat.zero_le _⟩ dX9_parseStatement_169 (fun H locs hw => ?_)
    refine lv_aload_n hx hb dX9_parseStatement_172 rfl (lv_at hl 0 rfl) ?_
    obtain ⟨p8, h9, hM⟩ := b_some hM
    refine q_cvv (As := []) (rest := []) E hw hl (c_X9_advance l D cA tS A h F N p6 wd p8.1 p8.2 h9) 0 (bwV bw_c tb_1669 tb_1671 tb_96 tb_112 tb_1672) rfl (by decide +kernel) ⟨Nat.le_of_ble_eq_true rfl, Nat.le_of_ble_eq_true rfl⟩ 0 9 (T := TX9) (N := 17) rfl rfl rfl rfl (Nat.le_of_ble_eq_true rfl) ⟨Nat.zero_le _, Nat.zero_le _⟩ dX9_parseStatement_173 (fun H locs hw => ?_)
    refine lv_aload_n hx hb dX9_parseStatement_176 rfl (lv_at hl 0 rfl) ?_
    refine lv_dup hx hb dX9_parseStatement_177 rfl ?_
    refine q_get (C := RX9) (T := TX9) (N := 17) (ci := 9) E (fun w h => List.mem_cons_of_mem _ (inX9 w h)) hw 0 rfl rfl 16 (by decide) (List.mem_cons_of_mem _ tb_1173) (v := .int (p8.1 16 0)) rfl dX9_parseStatement_178 ?_
    refine lv_iconst (v := 1) hx hb dX9_parseStatement_181 (by decide) ?_
    refine lv_iadd hx hb dX9_parseStatement_182 ?_
    refine q_puti (C := RX9) (T := TX9) (N := 17) (ci := 9) E (fun w h => List.mem_cons_of_mem _ (inX9 w h)) tyX9 tyX9_ok nmX9 hw 0 rfl rfl 16 (by decide) (List.mem_cons_of_mem _ tb_1173) rfl rfl (Nat.le_of_ble_eq_true rfl) (wM cA h (up p8.1 16 0 ((p8.1 16 0) + 1)) p8.2 ++ F) st_M_16 dX9_parseStatement_183 (fun H locs hw => ?_)
    cases hM
    exact q_retv E hw dX9_parseStatement_186
def f_X9_parseStatement_91 (N : Nat)   : Nat → Int32 → Int32 → Int32 → Sg → Int64 → Option (Sg × Int64)
  | 0, _, _, _, _, _ => none
  | n + 1, x1, x2, x3, σ, wd => (f_X9_argumentsOf x1).bind (fun p1 => (if p1 < x3 then (if (σ 12 0) = 0 then (if x1 = 11 then (f_X9_isWord N 0 σ wd).bind (fun p6 => (if p6 = 0 then f_X9_parseStatement_154 N σ wd else if ib (x2 + 6) 280 then (f_X9_advance N (up σ 15 (ix (x2 + 6)) 1) wd).bind (fun p10 => f_X9_parseStatement_154 N p10.1 p10.2) else none)) else f_X9_parseStatement_154 N σ wd) else f_X9_parseStatement_154 N σ wd) else (f_X9_parseNumber N σ wd).bind (fun p12 => if ib (x2 + x3) 280 then f_X9_parseStatement_91 N n x1 x2 (x3 + 1) (up p12.2.1 15 (ix (x2 + x3)) p12.1) p12.2.2 else none)))
set_option maxRecDepth 100000 in
set_option maxHeartbeats 4000000 in
theorem s_X9_parseStatement_91 (l : Launch) (D : va_G) (cA : Nat → ClassId) (tS : Nat → Nat) (A : Nat → Prop) (h : Nat → Nat) (F : va_W) (N : Nat) {p : Program} {e : Env} {s : State} {m : MethodId} {args : Array Value} {below : List Frame} {meth : Method} {c : Code} (E : Ev p cX9_parseStatement 4 none RX9 (Cond.code yX9_parseStatement cX9_parseStatement 4 none :: bw) D cA tS A s m args meth c) : ∀ (n : Nat) (x1 : Int32) (x2 : Int32) (x3 : Int32) (σ : Sg) (wd : Int64) (s0 : Sg) (wd0 : Int64) (hM : f_X9_parseStatement_91 N n x1 x2 x3 σ wd = some (s0, wd0)) (H : Heap) (locs : List Loc) (hw : Wd D A (wM cA h σ wd ++ F) s.heap H locs) (ls : Array Slot) (hl : lv_has ls 4 [(0, .ref (h 0)), (1, .int x1), (2, .int x2), (3, .int x3)]), W p l e ({ frames := 6, cells := 0, slots := 0, locals := 129 } : Room) s m args below meth c H locs 0 0 (MQ below (QW D A none (wM cA h s0 wd0 ++ F)) args s 0 0 A) (F0 m 91 ls []) := by
  have hx := E.1.1
  have hb := E.1.2.1
  intro n
  induction n with
  | zero =>
    intro x1 x2 x3 σ wd s0 wd0 hM
    cases hM
  | succ n ih =>
    intro x1 x2 x3 σ wd s0 wd0 hM H locs hw ls hl
    rw [f_X9_parseStatement_91] at hM
    refine lv_iload_n hx hb dX9_parseStatement_91 rfl (lv_at hl 3 rfl) ?_
    refine lv_iload_n hx hb dX9_parseStatement_92 rfl (lv_at hl 1 rfl) ?_
    obtain ⟨p1, h2, hM⟩ := b_some hM
    refine q_cs (As := [.int x1]) (rest := [.int x3]) E hw hl (c_X9_argumentsOf l D cA tS A (wM cA h σ wd ++ F) x1 p1 h2) 1 (bwS bw_c tb_1673 tb_1674 tb_112 tb_1675) rfl (by decide +kernel) ⟨Nat.le_of_ble_eq_true rfl, Nat.le_of_ble_eq_true rfl⟩ rfl rfl (Nat.le_of_ble_eq_true rfl) ⟨Nat.zero_le _, Nat.zero_le _⟩ dX9_parseStatement_93 (fun H locs hw => ?_)
    refine lv_icmp_gt (tgt := 117) hx hb dX9_parseStatement_96 (by decide) (fun c3 => ?_) (fun c3 => ?_)
    · replace hM := i_pos hM c3
      refine lv_aload_n hx hb dX9_parseStatement_117 rfl (lv_at hl 0 rfl) ?_
      refine q_get (C := RX9) (T := TX9) (N := 17) (ci := 9) E (fun w h => List.mem_cons_of_mem _ (inX9 w h)) hw 0 rfl rfl 11 (by decide) (List.mem_cons_of_mem _ tb_1168) (v := .int (σ 12 0)) rfl dX9_parseStatement_118 ?_
      refine lv_if_ne (tgt := 154) hx hb dX9_parseStatement_121 (by decide) (fun c4 => ?_) (fun c4 => ?_)
      · replace hM := i_neg hM c4
        exact s_X9_parseStatement_154 l D cA tS A h F N E _ _ _ _ hM _ _ hw _ (lv_sub hl [0] rfl)
      · replace hM := i_pos hM c4
        refine lv_iload_n hx hb dX9_parseStatement_124 rfl (lv_at hl 1 rfl) ?_
        refine lv_bipush (v := 11) hx hb dX9_parseStatement_125 (by decide) ?_
        refine lv_icmp_ne (tgt := 154) hx hb dX9_parseStatement_127 (by decide) (fun c5 => ?_) (fun c5 => ?_)
        · replace hM := i_neg hM c5
          exact s_X9_parseStatement_154 l D cA tS A h F N E _ _ _ _ hM _ _ hw _ (lv_sub hl [0] rfl)
        · replace hM := i_pos hM c5
          refine lv_aload_n hx hb dX9_parseStatement_130 rfl (lv_at hl 0 rfl) ?_
          refine va_ldcSw hx hb E.1.2.2.2.1 (E.2.2.2.2.2.2.2.2.1 (RX9, 308, "always", 0) (by decide +kernel)) dX9_parseStatement_131 ?_
          obtain ⟨p6, h7, hM⟩ := b_some hM
          refine q_cv (As := [.ref (adK tS 0)]) (rest := []) E hw hl (c_X9_isWord l D cA tS A h F N 0 σ wd p6 h7) 1 (bwV bw_c tb_1647 tb_1649 tb_94 tb_112 tb_1650) rfl (by decide +kernel) ⟨Nat.le_of_ble_eq_true rfl, Nat.le_of_ble_eq_true rfl⟩ 0 9 (T := TX9) (N := 17) rfl rfl rfl rfl (Nat.le_of_ble_eq_true rfl) ⟨Nat.zero_le _, Nat.zero_le _⟩ dX9_parseStatement_134 (fun H locs hw => ?_)
          refine lv_if_eq (tgt := 154) hx hb dX9_parseStatement_137 (by decide) (fun c8 => ?_) (fun c8 => ?_)
          · replace hM := i_pos hM c8
            exact s_X9_parseStatement_154 l D cA tS A h F N E _ _ _ _ hM _ _ hw _ (lv_sub hl [0] rfl)
          · replace hM := i_neg hM c8
            refine lv_aload_n hx hb dX9_parseStatement_140 rfl (lv_at hl 0 rfl) ?_
            refine q_get (C := RX9) (T := TX9) (N := 17) (ci := 9) E (fun w h => List.mem_cons_of_mem _ (inX9 w h)) hw 0 rfl rfl 15 (by decide) (List.mem_cons_of_mem _ tb_1172) (v := .ref (h 15)) rfl dX9_parseStatement_141 ?_
            refine lv_iload_n hx hb dX9_parseStatement_144 rfl (lv_at hl 2 rfl) ?_
            refine lv_bipush (v := 6) hx hb dX9_parseStatement_145 (by decide) ?_
            refine lv_iadd hx hb dX9_parseStatement_147 ?_
            refine lv_iconst (v := 1) hx hb dX9_parseStatement_148 (by decide) ?_
            obtain ⟨g9, hM⟩ := g_some hM
            refine q_ast E hw 6 (n := 280) rfl g9 (wM cA h (up σ 15 (ix (x2 + 6)) 1) wd ++ F) st_M_15 dX9_parseStatement_149 (fun H locs hw => ?_)
            refine lv_aload_n hx hb dX9_parseStatement_150 rfl (lv_at hl 0 rfl) ?_
            obtain ⟨p10, h11, hM⟩ := b_some hM
            refine q_cvv (As := []) (rest := []) E hw hl (c_X9_advance l D cA tS A h F N (up σ 15 (ix (x2 + 6)) 1) wd p10.1 p10.2 h11) 0 (bwV bw_c tb_1669 tb_1671 tb_96 tb_112 tb_1672) rfl (by decide +kernel) ⟨Nat.le_of_ble_eq_true rfl, Nat.le_of_ble_eq_true rfl⟩ 0 9 (T := TX9) (N := 17) rfl rfl rfl rfl (Nat.le_of_ble_eq_true rfl) ⟨Nat.zero_le _, Nat.zero_le _⟩ dX9_parseStatement_151 (fun H locs hw => ?_)
            exact s_X9_parseStatement_154 l D cA tS A h F N E _ _ _ _ hM _ _ hw _ (lv_sub hl [0] rfl)
    · replace hM := i_neg hM c3
      refine lv_aload_n hx hb dX9_parseStatement_99 rfl (lv_at hl 0 rfl) ?_
      refine q_get (C := RX9) (T := TX9) (N := 17) (ci := 9) E (fun w h => List.mem_cons_of_mem _ (inX9 w h)) hw 0 rfl rfl 15 (by decide) (List.mem_cons_of_mem _ tb_1172) (v := .ref (h 15)) rfl dX9_parseStatement_100 ?_
      refine lv_iload_n hx hb dX9_parseStatement_103 rfl (lv_at hl 2 rfl) ?_
      refine lv_iload_n hx hb dX9_parseStatement_104 rfl (lv_at hl 3 rfl) ?_
      refine lv_iadd hx hb dX9_parseStatement_105 ?_
      refine lv_aload_n hx hb dX9_parseStatement_106 rfl (lv_at hl 0 rfl) ?_
      obtain ⟨p12, h13, hM⟩ := b_some hM
      refine q_cv (As := []) (rest := [.int (x2 + x3), .ref (h 15)]) E hw hl (c_X9_parseNumber l D cA tS A h F N σ wd p12.1 p12.2.1 p12.2.2 h13) 0 (bwV bw_c tb_1676 tb_1678 tb_97 tb_112 tb_1679) rfl (by decide +kernel) ⟨Nat.le_of_ble_eq_true rfl, Nat.le_of_ble_eq_true rfl⟩ 0 9 (T := TX9) (N := 17) rfl rfl rfl rfl (Nat.le_of_ble_eq_true rfl) ⟨Nat.zero_le _, Nat.zero_le _⟩ dX9_parseStatement_107 (fun H locs hw => ?_)
      obtain ⟨g14, hM⟩ := g_some hM
      refine q_ast E hw 6 (n := 280) rfl g14 (wM cA h (up p12.2.1 15 (ix (x2 + x3)) p12.1) p12.2.2 ++ F) st_M_15 dX9_parseStatement_110 (fun H locs hw => ?_)
      refine lv_iinc (v := (x3 + 1)) (lv' := [(3, .int (x3 + 1)), (0, .ref (h 0)), (1, .int x1), (2, .int x2)]) hx hb dX9_parseStatement_111 hl (k := 3) rfl rfl (by decide) rfl (fun ls hl => ?_)
      refine lv_goto (tgt := 91) hx hb dX9_parseStatement_114 (by decide) ?_
      exact ih _ _ _ _ _ _ _ hM _ _ hw _ (lv_sub hl [1, 2, 3, 0] rfl)
def f_X9_parseStatement_57 (N : Nat)   : Nat → Int32 → Int32 → Int32 → Sg → Int64 → Option (Sg × Int64)
  | 0, _, _, _, _, _ => none
  | n + 1, x1, x2, x3, σ, wd => (if 7 ≤ x3 then if ib x2 280 then (f_X9_advance N (up σ 15 (ix x2) x1) wd).bind (fun p3 => f_X9_parseStatement_91 N N x1 x2 1 p3.1 p3.2) else none else if ib (x2 + x3) 280 then f_X9_parseStatement_57 N n x1 x2 (x3 + 1) (up σ 15 (ix (x2 + x3)) 0) wd else none)
set_option maxRecDepth 100000 in
set_option maxHeartbeats 4000000 in
theorem s_X9_parseStatement_57 (l : Launch) (D : va_G) (cA : Nat → ClassId) (tS : Nat → Nat) (A : Nat → Prop) (h : Nat → Nat) (F : va_W) (N : Nat) {p : Program} {e : Env} {s : State} {m : MethodId} {args : Array Value} {below : List Frame} {meth : Method} {c : Code} (E : Ev p cX9_parseStatement 4 none RX9 (Cond.code yX9_parseStatement cX9_parseStatement 4 none :: bw) D cA tS A s m args meth c) : ∀ (n : Nat) (x1 : Int32) (x2 : Int32) (x3 : Int32) (σ : Sg) (wd : Int64) (s0 : Sg) (wd0 : Int64) (hM : f_X9_parseStatement_57 N n x1 x2 x3 σ wd = some (s0, wd0)) (H : Heap) (locs : List Loc) (hw : Wd D A (wM cA h σ wd ++ F) s.heap H locs) (ls : Array Slot) (hl : lv_has ls 4 [(0, .ref (h 0)), (1, .int x1), (2, .int x2), (3, .int x3)]), W p l e ({ frames := 6, cells := 0, slots := 0, locals := 129 } : Room) s m args below meth c H locs 0 0 (MQ below (QW D A none (wM cA h s0 wd0 ++ F)) args s 0 0 A) (F0 m 57 ls []) := by
  have hx := E.1.1
  have hb := E.1.2.1
  intro n
  induction n with
  | zero =>
    intro x1 x2 x3 σ wd s0 wd0 hM
    cases hM
  | succ n ih =>
    intro x1 x2 x3 σ wd s0 wd0 hM H locs hw ls hl
    rw [f_X9_parseStatement_57] at hM
    refine lv_iload_n hx hb dX9_parseStatement_57 rfl (lv_at hl 3 rfl) ?_
    refine lv_bipush (v := 7) hx hb dX9_parseStatement_58 (by decide) ?_
    refine lv_icmp_ge (tgt := 78) hx hb dX9_parseStatement_60 (by decide) (fun c1 => ?_) (fun c1 => ?_)
    · replace hM := i_pos hM c1
      refine lv_aload_n hx hb dX9_parseStatement_78 rfl (lv_at hl 0 rfl) ?_
      refine q_get (C := RX9) (T := TX9) (N := 17) (ci := 9) E (fun w h => List.mem_cons_of_mem _ (inX9 w h)) hw 0 rfl rfl 15 (by decide) (List.mem_cons_of_mem _ tb_1172) (v := .ref (h 15)) rfl dX9_parseStatement_79 ?_
      refine lv_iload_n hx hb dX9_parseStatement_82 rfl (lv_at hl 2 rfl) ?_
      refine lv_iload_n hx hb dX9_parseStatement_83 rfl (lv_at hl 1 rfl) ?_
      obtain ⟨g2, hM⟩ := g_some hM
      refine q_ast E hw 6 (n := 280) rfl g2 (wM cA h (up σ 15 (ix x2) x1) wd ++ F) st_M_15 dX9_parseStatement_84 (fun H locs hw => ?_)
      refine lv_aload_n hx hb dX9_parseStatement_85 rfl (lv_at hl 0 rfl) ?_
      obtain ⟨p3, h4, hM⟩ := b_some hM
      refine q_cvv (As := []) (rest := []) E hw hl (c_X9_advance l D cA tS A h F N (up σ 15 (ix x2) x1) wd p3.1 p3.2 h4) 0 (bwV bw_c tb_1669 tb_1671 tb_96 tb_112 tb_1672) rfl (by decide +kernel) ⟨Nat.le_of_ble_eq_true rfl, Nat.le_of_ble_eq_true rfl⟩ 0 9 (T := TX9) (N := 17) rfl rfl rfl rfl (Nat.le_of_ble_eq_true rfl) ⟨Nat.zero_le _, Nat.zero_le _⟩ dX9_parseStatement_86 (fun H locs hw => ?_)
      refine lv_iconst (v := 1) hx hb dX9_parseStatement_89 (by decide) ?_
      refine lv_istore_n (lv' := [(3, .int 1), (0, .ref (h 0)), (1, .int x1), (2, .int x2)]) hx hb dX9_parseStatement_90 rfl hl (by decide) rfl (fun ls hl => ?_)
      exact s_X9_parseStatement_91 l D cA tS A h F N E N _ _ _ _ _ _ _ hM _ _ hw _ (lv_sub hl [1, 2, 3, 0] rfl)
    · replace hM := i_neg hM c1
      refine lv_aload_n hx hb dX9_parseStatement_63 rfl (lv_at hl 0 rfl) ?_
      refine q_get (C := RX9) (T := TX9) (N := 17) (ci := 9) E (fun w h => List.mem_cons_of_mem _ (inX9 w h)) hw 0 rfl rfl 15 (by decide) (List.mem_cons_of_mem _ tb_1172) (v := .ref (h 15)) rfl dX9_parseStatement_64 ?_
      refine lv_iload_n hx hb dX9_parseStatement_67 rfl (lv_at hl 2 rfl) ?_
      refine lv_iload_n hx hb dX9_parseStatement_68 rfl (lv_at hl 3 rfl) ?_
      refine lv_iadd hx hb dX9_parseStatement_69 ?_
      refine lv_iconst (v := 0) hx hb dX9_parseStatement_70 (by decide) ?_
      obtain ⟨g5, hM⟩ := g_some hM
      refine q_ast E hw 6 (n := 280) rfl g5 (wM cA h (up σ 15 (ix (x2 + x3)) 0) wd ++ F) st_M_15 dX9_parseStatement_71 (fun H locs hw => ?_)
      refine lv_iinc (v := (x3 + 1)) (lv' := [(3, .int (x3 + 1)), (0, .ref (h 0)), (1, .int x1), (2, .int x2)]) hx hb dX9_parseStatement_72 hl (k := 3) rfl rfl (by decide) rfl (fun ls hl => ?_)
      refine lv_goto (tgt := 57) hx hb dX9_parseStatement_75 (by decide) ?_
      exact ih _ _ _ _ _ _ _ hM _ _ hw _ (lv_sub hl [1, 2, 3, 0] rfl)
def f_X9_parseStatement (N : Nat)   (σ : Sg) (wd : Int64) : Option (Sg × Int64) := (f_X9_statementOfWord N σ wd).bind (fun p1 => (if p1 = (-1) then (f_X9_require 0 1 σ wd).bind (fun p4 => (if 40 ≤ (p4 16 0) then (f_X9_require 0 3 p4 wd).bind (fun p7 => (if (p7 12 0) = 0 then f_X9_parseStatement_57 N N p1 (7 * (p7 16 0)) 0 p7 wd else some (p7, wd))) else (f_X9_require 1 3 p4 wd).bind (fun p10 => (if (p10 12 0) = 0 then f_X9_parseStatement_57 N N p1 (7 * (p10 16 0)) 0 p10 wd else some (p10, wd))))) else (f_X9_require 1 1 σ wd).bind (fun p13 => (if 40 ≤ (p13 16 0) then (f_X9_require 0 3 p13 wd).bind (fun p16 => (if (p16 12 0) = 0 then f_X9_parseStatement_57 N N p1 (7 * (p16 16 0)) 0 p16 wd else some (p16, wd))) else (f_X9_require 1 3 p13 wd).bind (fun p19 => (if (p19 12 0) = 0 then f_X9_parseStatement_57 N N p1 (7 * (p19 16 0)) 0 p19 wd else some (p19, wd)))))))
set_option maxRecDepth 100000 in
set_option maxHeartbeats 4000000 in
theorem c_X9_parseStatement (l : Launch) (D : va_G) (cA : Nat → ClassId) (tS : Nat → Nat) (A : Nat → Prop) (h : Nat → Nat) (F : va_W) (N : Nat) (σ : Sg) (wd : Int64) (s0 : Sg) (wd0 : Int64) (hM : f_X9_parseStatement N σ wd = some (s0, wd0)) : Ct l yX9_parseStatement (Cond.code yX9_parseStatement cX9_parseStatement 4 none :: bw) 6 129 D cA tS A [.ref (h 0)] (wM cA h σ wd ++ F) none (wM cA h s0 wd0 ++ F) := by
  refine ct_of (by decide +kernel) (Nat.le_of_ble_eq_true rfl) ?_
  intro p e s m below meth c E hw ls hl
  replace E : Ev p cX9_parseStatement 4 none RX9 (Cond.code yX9_parseStatement cX9_parseStatement 4 none :: bw) D cA tS A s m _ meth c := E
  replace hl : lv_has ls 4 [(0, .ref (h 0))] := hl
  have hx := E.1.1
  have hb := E.1.2.1
  unfold f_X9_parseStatement at hM
  refine lv_aload_n hx hb dX9_parseStatement_0 rfl (lv_at hl 0 rfl) ?_
  obtain ⟨p1, h2, hM⟩ := b_some hM
  refine q_cv (As := []) (rest := []) E hw hl (c_X9_statementOfWord l D cA tS A h F N σ wd p1 h2) 0 (bwV bw_c tb_1642 tb_1644 tb_93 tb_112 tb_1645) rfl (by decide +kernel) ⟨Nat.le_of_ble_eq_true rfl, Nat.le_of_ble_eq_true rfl⟩ 0 9 (T := TX9) (N := 17) rfl rfl rfl rfl (Nat.le_of_ble_eq_true rfl) ⟨Nat.zero_le _, Nat.zero_le _⟩ dX9_parseStatement_1 (fun H locs hw => ?_)
  refine lv_istore_n (lv' := [(1, .int p1), (0, .ref (h 0))]) hx hb dX9_parseStatement_4 rfl hl (by decide) rfl (fun ls hl => ?_)
  refine lv_aload_n hx hb dX9_parseStatement_5 rfl (lv_at hl 1 rfl) ?_
  refine lv_iload_n hx hb dX9_parseStatement_6 rfl (lv_at hl 0 rfl) ?_
  refine lv_iconst (v := (-1)) hx hb dX9_parseStatement_7 (by decide) ?_
  refine lv_icmp_eq (tgt := 15) hx hb dX9_parseStatement_8 (by decide) (fun c3 => ?_) (fun c3 => ?_)
  · replace hM := i_pos hM c3
    refine lv_iconst (v := 0) hx hb dX9_parseStatement_15 (by decide) ?_
    refine lv_iconst (v := 1) hx hb dX9_parseStatement_16 (by decide) ?_
    obtain ⟨p4, h5, hM⟩ := b_some hM
    refine q_cvv (As := [.int 0, .int 1]) (rest := []) E hw hl (c_X9_require l D cA tS A h F 0 1 σ wd p4 h5) 2 (bwV bw_c tb_1665 tb_1667 tb_95 tb_112 tb_1668) rfl (by decide +kernel) ⟨Nat.le_of_ble_eq_true rfl, Nat.le_of_ble_eq_true rfl⟩ 0 9 (T := TX9) (N := 17) rfl rfl rfl rfl (Nat.le_of_ble_eq_true rfl) ⟨Nat.zero_le _, Nat.zero_le _⟩ dX9_parseStatement_17 (fun H locs hw => ?_)
    refine lv_aload_n hx hb dX9_parseStatement_20 rfl (lv_at hl 1 rfl) ?_
    refine lv_aload_n hx hb dX9_parseStatement_21 rfl (lv_at hl 1 rfl) ?_
    refine q_get (C := RX9) (T := TX9) (N := 17) (ci := 9) E (fun w h => List.mem_cons_of_mem _ (inX9 w h)) hw 0 rfl rfl 16 (by decide) (List.mem_cons_of_mem _ tb_1173) (v := .int (p4 16 0)) rfl dX9_parseStatement_22 ?_
    refine lv_bipush (v := 40) hx hb dX9_parseStatement_25 (by decide) ?_
    refine lv_icmp_ge (tgt := 34) hx hb dX9_parseStatement_27 (by decide) (fun c6 => ?_) (fun c6 => ?_)
    · replace hM := i_pos hM c6
      refine lv_iconst (v := 0) hx hb dX9_parseStatement_34 (by decide) ?_
      refine lv_iconst (v := 3) hx hb dX9_parseStatement_35 (by decide) ?_
      obtain ⟨p7, h8, hM⟩ := b_some hM
      refine q_cvv (As := [.int 0, .int 3]) (rest := []) E hw hl (c_X9_require l D cA tS A h F 0 3 p4 wd p7 h8) 2 (bwV bw_c tb_1665 tb_1667 tb_95 tb_112 tb_1668) rfl (by decide +kernel) ⟨Nat.le_of_ble_eq_true rfl, Nat.le_of_ble_eq_true rfl⟩ 0 9 (T := TX9) (N := 17) rfl rfl rfl rfl (Nat.le_of_ble_eq_true rfl) ⟨Nat.zero_le _, Nat.zero_le _⟩ dX9_parseStatement_36 (fun H locs hw => ?_)
      refine lv_aload_n hx hb dX9_parseStatement_39 rfl (lv_at hl 1 rfl) ?_
      refine q_get (C := RX9) (T := TX9) (N := 17) (ci := 9) E (fun w h => List.mem_cons_of_mem _ (inX9 w h)) hw 0 rfl rfl 11 (by decide) (List.mem_cons_of_mem _ tb_1168) (v := .int (p7 12 0)) rfl dX9_parseStatement_40 ?_
      refine lv_if_eq (tgt := 47) hx hb dX9_parseStatement_43 (by decide) (fun c9 => ?_) (fun c9 => ?_)
      · replace hM := i_pos hM c9
        refine lv_bipush (v := 7) hx hb dX9_parseStatement_47 (by decide) ?_
        refine lv_aload_n hx hb dX9_parseStatement_49 rfl (lv_at hl 1 rfl) ?_
        refine q_get (C := RX9) (T := TX9) (N := 17) (ci := 9) E (fun w h => List.mem_cons_of_mem _ (inX9 w h)) hw 0 rfl rfl 16 (by decide) (List.mem_cons_of_mem _ tb_1173) (v := .int (p7 16 0)) rfl dX9_parseStatement_50 ?_
        refine lv_imul hx hb dX9_parseStatement_53 ?_
        refine lv_istore_n (lv' := [(2, .int (7 * (p7 16 0))), (1, .int p1), (0, .ref (h 0))]) hx hb dX9_parseStatement_54 rfl hl (by decide) rfl (fun ls hl => ?_)
        refine lv_iconst (v := 0) hx hb dX9_parseStatement_55 (by decide) ?_
        refine lv_istore_n (lv' := [(3, .int 0), (2, .int (7 * (p7 16 0))), (1, .int p1), (0, .ref (h 0))]) hx hb dX9_parseStatement_56 rfl hl (by decide) rfl (fun ls hl => ?_)
        exact s_X9_parseStatement_57 l D cA tS A h F N E N _ _ _ _ _ _ _ hM _ _ hw _ (lv_sub hl [3, 2, 1, 0] rfl)
      · replace hM := i_neg hM c9
        cases hM
        exact q_retv E hw dX9_parseStatement_46
    · replace hM := i_neg hM c6
      refine lv_iconst (v := 1) hx hb dX9_parseStatement_30 (by decide) ?_
      refine lv_goto (tgt := 35) hx hb dX9_parseStatement_31 (by decide) ?_
      refine lv_iconst (v := 3) hx hb dX9_parseStatement_35 (by decide) ?_
      obtain ⟨p10, h11, hM⟩ := b_some hM
      refine q_cvv (As := [.int 1, .int 3]) (rest := []) E hw hl (c_X9_require l D cA tS A h F 1 3 p4 wd p10 h11) 2 (bwV bw_c tb_1665 tb_1667 tb_95 tb_112 tb_1668) rfl (by decide +kernel) ⟨Nat.le_of_ble_eq_true rfl, Nat.le_of_ble_eq_true rfl⟩ 0 9 (T := TX9) (N := 17) rfl rfl rfl rfl (Nat.le_of_ble_eq_true rfl) ⟨Nat.zero_le _, Nat.zero_le _⟩ dX9_parseStatement_36 (fun H locs hw => ?_)
      refine lv_aload_n hx hb dX9_parseStatement_39 rfl (lv_at hl 1 rfl) ?_
      refine q_get (C := RX9) (T := TX9) (N := 17) (ci := 9) E (fun w h => List.mem_cons_of_mem _ (inX9 w h)) hw 0 rfl rfl 11 (by decide) (List.mem_cons_of_mem _ tb_1168) (v := .int (p10 12 0)) rfl dX9_parseStatement_40 ?_
      refine lv_if_eq (tgt := 47) hx hb dX9_parseStatement_43 (by decide) (fun c12 => ?_) (fun c12 => ?_)
      · replace hM := i_pos hM c12
        refine lv_bipush (v := 7) hx hb dX9_parseStatement_47 (by decide) ?_
        refine lv_aload_n hx hb dX9_parseStatement_49 rfl (lv_at hl 1 rfl) ?_
        refine q_get (C := RX9) (T := TX9) (N := 17) (ci := 9) E (fun w h => List.mem_cons_of_mem _ (inX9 w h)) hw 0 rfl rfl 16 (by decide) (List.mem_cons_of_mem _ tb_1173) (v := .int (p10 16 0)) rfl dX9_parseStatement_50 ?_
        refine lv_imul hx hb dX9_parseStatement_53 ?_
        refine lv_istore_n (lv' := [(2, .int (7 * (p10 16 0))), (1, .int p1), (0, .ref (h 0))]) hx hb dX9_parseStatement_54 rfl hl (by decide) rfl (fun ls hl => ?_)
        refine lv_iconst (v := 0) hx hb dX9_parseStatement_55 (by decide) ?_
        refine lv_istore_n (lv' := [(3, .int 0), (2, .int (7 * (p10 16 0))), (1, .int p1), (0, .ref (h 0))]) hx hb dX9_parseStatement_56 rfl hl (by decide) rfl (fun ls hl => ?_)
        exact s_X9_parseStatement_57 l D cA tS A h F N E N _ _ _ _ _ _ _ hM _ _ hw _ (lv_sub hl [3, 2, 1, 0] rfl)
      · replace hM := i_neg hM c12
        cases hM
        exact q_retv E hw dX9_parseStatement_46
  · replace hM := i_neg hM c3
    refine lv_iconst (v := 1) hx hb dX9_parseStatement_11 (by decide) ?_
    refine lv_goto (tgt := 16) hx hb dX9_parseStatement_12 (by decide) ?_
    refine lv_iconst (v := 1) hx hb dX9_parseStatement_16 (by decide) ?_
    obtain ⟨p13, h14, hM⟩ := b_some hM
    refine q_cvv (As := [.int 1, .int 1]) (rest := []) E hw hl (c_X9_require l D cA tS A h F 1 1 σ wd p13 h14) 2 (bwV bw_c tb_1665 tb_1667 tb_95 tb_112 tb_1668) rfl (by decide +kernel) ⟨Nat.le_of_ble_eq_true rfl, Nat.le_of_ble_eq_true rfl⟩ 0 9 (T := TX9) (N := 17) rfl rfl rfl rfl (Nat.le_of_ble_eq_true rfl) ⟨Nat.zero_le _, Nat.zero_le _⟩ dX9_parseStatement_17 (fun H locs hw => ?_)
    refine lv_aload_n hx hb dX9_parseStatement_20 rfl (lv_at hl 1 rfl) ?_
    refine lv_aload_n hx hb dX9_parseStatement_21 rfl (lv_at hl 1 rfl) ?_
    refine q_get (C := RX9) (T := TX9) (N := 17) (ci := 9) E (fun w h => List.mem_cons_of_mem _ (inX9 w h)) hw 0 rfl rfl 16 (by decide) (List.mem_cons_of_mem _ tb_1173) (v := .int (p13 16 0)) rfl dX9_parseStatement_22 ?_
    refine lv_bipush (v := 40) hx hb dX9_parseStatement_25 (by decide) ?_
    refine lv_icmp_ge (tgt := 34) hx hb dX9_parseStatement_27 (by decide) (fun c15 => ?_) (fun c15 => ?_)
    · replace hM := i_pos hM c15
      refine lv_iconst (v := 0) hx hb dX9_parseStatement_34 (by decide) ?_
      refine lv_iconst (v := 3) hx hb dX9_parseStatement_35 (by decide) ?_
      obtain ⟨p16, h17, hM⟩ := b_some hM
      refine q_cvv (As := [.int 0, .int 3]) (rest := []) E hw hl (c_X9_require l D cA tS A h F 0 3 p13 wd p16 h17) 2 (bwV bw_c tb_1665 tb_1667 tb_95 tb_112 tb_1668) rfl (by decide +kernel) ⟨Nat.le_of_ble_eq_true rfl, Nat.le_of_ble_eq_true rfl⟩ 0 9 (T := TX9) (N := 17) rfl rfl rfl rfl (Nat.le_of_ble_eq_true rfl) ⟨Nat.zero_le _, Nat.zero_le _⟩ dX9_parseStatement_36 (fun H locs hw => ?_)
      refine lv_aload_n hx hb dX9_parseStatement_39 rfl (lv_at hl 1 rfl) ?_
      refine q_get (C := RX9) (T := TX9) (N := 17) (ci := 9) E (fun w h => List.mem_cons_of_mem _ (inX9 w h)) hw 0 rfl rfl 11 (by decide) (List.mem_cons_of_mem _ tb_1168) (v := .int (p16 12 0)) rfl dX9_parseStatement_40 ?_
      refine lv_if_eq (tgt := 47) hx hb dX9_parseStatement_43 (by decide) (fun c18 => ?_) (fun c18 => ?_)
      · replace hM := i_pos hM c18
        refine lv_bipush (v := 7) hx hb dX9_parseStatement_47 (by decide) ?_
        refine lv_aload_n hx hb dX9_parseStatement_49 rfl (lv_at hl 1 rfl) ?_
        refine q_get (C := RX9) (T := TX9) (N := 17) (ci := 9) E (fun w h => List.mem_cons_of_mem _ (inX9 w h)) hw 0 rfl rfl 16 (by decide) (List.mem_cons_of_mem _ tb_1173) (v := .int (p16 16 0)) rfl dX9_parseStatement_50 ?_
        refine lv_imul hx hb dX9_parseStatement_53 ?_
        refine lv_istore_n (lv' := [(2, .int (7 * (p16 16 0))), (1, .int p1), (0, .ref (h 0))]) hx hb dX9_parseStatement_54 rfl hl (by decide) rfl (fun ls hl => ?_)
        refine lv_iconst (v := 0) hx hb dX9_parseStatement_55 (by decide) ?_
        refine lv_istore_n (lv' := [(3, .int 0), (2, .int (7 * (p16 16 0))), (1, .int p1), (0, .ref (h 0))]) hx hb dX9_parseStatement_56 rfl hl (by decide) rfl (fun ls hl => ?_)
        exact s_X9_parseStatement_57 l D cA tS A h F N E N _ _ _ _ _ _ _ hM _ _ hw _ (lv_sub hl [3, 2, 1, 0] rfl)
      · replace hM := i_neg hM c18
        cases hM
        exact q_retv E hw dX9_parseStatement_46
    · replace hM := i_neg hM c15
      refine lv_iconst (v := 1) hx hb dX9_parseStatement_30 (by decide) ?_
      refine lv_goto (tgt := 35) hx hb dX9_parseStatement_31 (by decide) ?_
      refine lv_iconst (v := 3) hx hb dX9_parseStatement_35 (by decide) ?_
      obtain ⟨p19, h20, hM⟩ := b_some hM
      refine q_cvv (As := [.int 1, .int 3]) (rest := []) E hw hl (c_X9_require l D cA tS A h F 1 3 p13 wd p19 h20) 2 (bwV bw_c tb_1665 tb_1667 tb_95 tb_112 tb_1668) rfl (by decide +kernel) ⟨Nat.le_of_ble_eq_true rfl, Nat.le_of_ble_eq_true rfl⟩ 0 9 (T := TX9) (N := 17) rfl rfl rfl rfl (Nat.le_of_ble_eq_true rfl) ⟨Nat.zero_le _, Nat.zero_le _⟩ dX9_parseStatement_36 (fun H locs hw => ?_)
      refine lv_aload_n hx hb dX9_parseStatement_39 rfl (lv_at hl 1 rfl) ?_
      refine q_get (C := RX9) (T := TX9) (N := 17) (ci := 9) E (fun w h => List.mem_cons_of_mem _ (inX9 w h)) hw 0 rfl rfl 11 (by decide) (List.mem_cons_of_mem _ tb_1168) (v := .int (p19 12 0)) rfl dX9_parseStatement_40 ?_
      refine lv_if_eq (tgt := 47) hx hb dX9_parseStatement_43 (by decide) (fun c21 => ?_) (fun c21 => ?_)
      · replace hM := i_pos hM c21
        refine lv_bipush (v := 7) hx hb dX9_parseStatement_47 (by decide) ?_
        refine lv_aload_n hx hb dX9_parseStatement_49 rfl (lv_at hl 1 rfl) ?_
        refine q_get (C := RX9) (T := TX9) (N := 17) (ci := 9) E (fun w h => List.mem_cons_of_mem _ (inX9 w h)) hw 0 rfl rfl 16 (by decide) (List.mem_cons_of_mem _ tb_1173) (v := .int (p19 16 0)) rfl dX9_parseStatement_50 ?_
        refine lv_imul hx hb dX9_parseStatement_53 ?_
        refine lv_istore_n (lv' := [(2, .int (7 * (p19 16 0))), (1, .int p1), (0, .ref (h 0))]) hx hb dX9_parseStatement_54 rfl hl (by decide) rfl (fun ls hl => ?_)
        refine lv_iconst (v := 0) hx hb dX9_parseStatement_55 (by decide) ?_
        refine lv_istore_n (lv' := [(3, .int 0), (2, .int (7 * (p19 16 0))), (1, .int p1), (0, .ref (h 0))]) hx hb dX9_parseStatement_56 rfl hl (by decide) rfl (fun ls hl => ?_)
        exact s_X9_parseStatement_57 l D cA tS A h F N E N _ _ _ _ _ _ _ hM _ _ hw _ (lv_sub hl [3, 2, 1, 0] rfl)
      · replace hM := i_neg hM c21
        cases hM
        exact q_retv E hw dX9_parseStatement_46
def f_X9_execute (N : Nat)   (x1 : Int32) (σ : Sg) (wd : Int64) : Option (Int32 × Sg) := if ib (7 * x1) 280 then if ib ((7 * x1) + 1) 280 then if ib ((7 * x1) + 2) 280 then if ib ((7 * x1) + 3) 280 then if ib ((7 * x1) + 4) 280 then (if (σ 15 (ix (7 * x1))) = 11 then if ib ((7 * x1) + 5) 280 then if ib ((7 * x1) + 6) 280 then (if (σ 15 (ix ((7 * x1) + 6))) = 1 then (f_X9_addKind (σ 15 (ix ((7 * x1) + 1))) (σ 15 (ix ((7 * x1) + 2))) (σ 15 (ix ((7 * x1) + 3))) (σ 15 (ix ((7 * x1) + 4))) (σ 15 (ix ((7 * x1) + 5))) 1 σ wd).bind (fun p17 => some (p17.1, p17.2)) else (f_X9_addKind (σ 15 (ix ((7 * x1) + 1))) (σ 15 (ix ((7 * x1) + 2))) (σ 15 (ix ((7 * x1) + 3))) (σ 15 (ix ((7 * x1) + 4))) (σ 15 (ix ((7 * x1) + 5))) 0 σ wd).bind (fun p15 => some (p15.1, p15.2))) else none else none else (if (σ 15 (ix (7 * x1))) = 12 then (f_X9_pass N (σ 15 (ix ((7 * x1) + 1))) σ wd).bind (fun p10 => some (p10.1, p10.2)) else (f_X9_change N (σ 15 (ix (7 * x1))) (σ 15 (ix ((7 * x1) + 1))) (σ 15 (ix ((7 * x1) + 2))) (σ 15 (ix ((7 * x1) + 3))) (σ 15 (ix ((7 * x1) + 4))) σ wd).bind (fun p8 => some (p8.1, p8.2)))) else none else none else none else none else none
set_option maxRecDepth 100000 in
set_option maxHeartbeats 4000000 in
theorem c_X9_execute (l : Launch) (D : va_G) (cA : Nat → ClassId) (tS : Nat → Nat) (A : Nat → Prop) (h : Nat → Nat) (F : va_W) (N : Nat) (x1 : Int32) (σ : Sg) (wd : Int64) (r0 : Int32) (s0 : Sg) (hM : f_X9_execute N x1 σ wd = some (r0, s0)) : Ct l yX9_execute (Cond.code yX9_execute cX9_execute 8 (some .int) :: bw) 7 166 D cA tS A [.ref (h 0), .int x1] (wM cA h σ wd ++ F) (some (.int r0)) (wM cA h s0 wd ++ F) := by
  refine ct_of (by decide +kernel) (Nat.le_of_ble_eq_true rfl) ?_
  intro p e s m below meth c E hw ls hl
  replace E : Ev p cX9_execute 8 (some .int) RX9 (Cond.code yX9_execute cX9_execute 8 (some .int) :: bw) D cA tS A s m _ meth c := E
  replace hl : lv_has ls 8 [(0, .ref (h 0)), (1, .int x1)] := hl
  have hx := E.1.1
  have hb := E.1.2.1
  unfold f_X9_execute at hM
  refine lv_bipush (v := 7) hx hb dX9_execute_0 (by decide) ?_
  refine lv_iload_n hx hb dX9_execute_2 rfl (lv_at hl 1 rfl) ?_
  refine lv_imul hx hb dX9_execute_3 ?_
  refine lv_istore_n (lv' := [(2, .int (7 * x1)), (0, .ref (h 0)), (1, .int x1)]) hx hb dX9_execute_4 rfl hl (by decide) rfl (fun ls hl => ?_)
  refine lv_aload_n hx hb dX9_execute_5 rfl (lv_at hl 1 rfl) ?_
  refine q_get (C := RX9) (T := TX9) (N := 17) (ci := 9) E (fun w h => List.mem_cons_of_mem _ (inX9 w h)) hw 0 rfl rfl 15 (by decide) (List.mem_cons_of_mem _ tb_1172) (v := .ref (h 15)) rfl dX9_execute_6 ?_
  refine lv_iload_n hx hb dX9_execute_9 rfl (lv_at hl 0 rfl) ?_
  obtain ⟨g1, hM⟩ := g_some hM
  refine q_ald E hw 6 (n := 280) rfl g1 (x := (σ 15 (ix (7 * x1)))) rfl dX9_execute_10 ?_
  refine lv_istore_n (lv' := [(3, .int (σ 15 (ix (7 * x1)))), (2, .int (7 * x1)), (0, .ref (h 0)), (1, .int x1)]) hx hb dX9_execute_11 rfl hl (by decide) rfl (fun ls hl => ?_)
  refine lv_aload_n hx hb dX9_execute_12 rfl (lv_at hl 2 rfl) ?_
  refine q_get (C := RX9) (T := TX9) (N := 17) (ci := 9) E (fun w h => List.mem_cons_of_mem _ (inX9 w h)) hw 0 rfl rfl 15 (by decide) (List.mem_cons_of_mem _ tb_1172) (v := .ref (h 15)) rfl dX9_execute_13 ?_
  refine lv_iload_n hx hb dX9_execute_16 rfl (lv_at hl 1 rfl) ?_
  refine lv_iconst (v := 1) hx hb dX9_execute_17 (by decide) ?_
  refine lv_iadd hx hb dX9_execute_18 ?_
  obtain ⟨g2, hM⟩ := g_some hM
  refine q_ald E hw 6 (n := 280) rfl g2 (x := (σ 15 (ix ((7 * x1) + 1)))) rfl dX9_execute_19 ?_
  refine lv_istore (lv' := [(4, .int (σ 15 (ix ((7 * x1) + 1)))), (3, .int (σ 15 (ix (7 * x1)))), (2, .int (7 * x1)), (0, .ref (h 0)), (1, .int x1)]) hx hb dX9_execute_20 hl (by decide) rfl (fun ls hl => ?_)
  refine lv_aload_n hx hb dX9_execute_22 rfl (lv_at hl 3 rfl) ?_
  refine q_get (C := RX9) (T := TX9) (N := 17) (ci := 9) E (fun w h => List.mem_cons_of_mem _ (inX9 w h)) hw 0 rfl rfl 15 (by decide) (List.mem_cons_of_mem _ tb_1172) (v := .ref (h 15)) rfl dX9_execute_23 ?_
  refine lv_iload_n hx hb dX9_execute_26 rfl (lv_at hl 2 rfl) ?_
  refine lv_iconst (v := 2) hx hb dX9_execute_27 (by decide) ?_
  refine lv_iadd hx hb dX9_execute_28 ?_
  obtain ⟨g3, hM⟩ := g_some hM
  refine q_ald E hw 6 (n := 280) rfl g3 (x := (σ 15 (ix ((7 * x1) + 2)))) rfl dX9_execute_29 ?_
  refine lv_istore (lv' := [(5, .int (σ 15 (ix ((7 * x1) + 2)))), (4, .int (σ 15 (ix ((7 * x1) + 1)))), (3, .int (σ 15 (ix (7 * x1)))), (2, .int (7 * x1)), (0, .ref (h 0)), (1, .int x1)]) hx hb dX9_execute_30 hl (by decide) rfl (fun ls hl => ?_)
  refine lv_aload_n hx hb dX9_execute_32 rfl (lv_at hl 4 rfl) ?_
  refine q_get (C := RX9) (T := TX9) (N := 17) (ci := 9) E (fun w h => List.mem_cons_of_mem _ (inX9 w h)) hw 0 rfl rfl 15 (by decide) (List.mem_cons_of_mem _ tb_1172) (v := .ref (h 15)) rfl dX9_execute_33 ?_
  refine lv_iload_n hx hb dX9_execute_36 rfl (lv_at hl 3 rfl) ?_
  refine lv_iconst (v := 3) hx hb dX9_execute_37 (by decide) ?_
  refine lv_iadd hx hb dX9_execute_38 ?_
  obtain ⟨g4, hM⟩ := g_some hM
  refine q_ald E hw 6 (n := 280) rfl g4 (x := (σ 15 (ix ((7 * x1) + 3)))) rfl dX9_execute_39 ?_
  refine lv_istore (lv' := [(6, .int (σ 15 (ix ((7 * x1) + 3)))), (5, .int (σ 15 (ix ((7 * x1) + 2)))), (4, .int (σ 15 (ix ((7 * x1) + 1)))), (3, .int (σ 15 (ix (7 * x1)))), (2, .int (7 * x1)), (0, .ref (h 0)), (1, .int x1)]) hx hb dX9_execute_40 hl (by decide) rfl (fun ls hl => ?_)
  refine lv_aload_n hx hb dX9_execute_42 rfl (lv_at hl 5 rfl) ?_
  refine q_get (C := RX9) (T := TX9) (N := 17) (ci := 9) E (fun w h => List.mem_cons_of_mem _ (inX9 w h)) hw 0 rfl rfl 15 (by decide) (List.mem_cons_of_mem _ tb_1172) (v := .ref (h 15)) rfl dX9_execute_43 ?_
  refine lv_iload_n hx hb dX9_execute_46 rfl (lv_at hl 4 rfl) ?_
  refine lv_iconst (v := 4) hx hb dX9_execute_47 (by decide) ?_
  refine lv_iadd hx hb dX9_execute_48 ?_
  obtain ⟨g5, hM⟩ := g_some hM
  refine q_ald E hw 6 (n := 280) rfl g5 (x := (σ 15 (ix ((7 * x1) + 4)))) rfl dX9_execute_49 ?_
  refine lv_istore (lv' := [(7, .int (σ 15 (ix ((7 * x1) + 4)))), (6, .int (σ 15 (ix ((7 * x1) + 3)))), (5, .int (σ 15 (ix ((7 * x1) + 2)))), (4, .int (σ 15 (ix ((7 * x1) + 1)))), (3, .int (σ 15 (ix (7 * x1)))), (2, .int (7 * x1)), (0, .ref (h 0)), (1, .int x1)]) hx hb dX9_execute_50 hl (by decide) rfl (fun ls hl => ?_)
  refine lv_iload_n hx hb dX9_execute_52 rfl (lv_at hl 4 rfl) ?_
  refine lv_bipush (v := 11) hx hb dX9_execute_53 (by decide) ?_
  refine lv_icmp_ne (tgt := 97) hx hb dX9_execute_55 (by decide) (fun c6 => ?_) (fun c6 => ?_)
  · replace hM := i_neg hM c6
    refine lv_iload_n hx hb dX9_execute_97 rfl (lv_at hl 4 rfl) ?_
    refine lv_bipush (v := 12) hx hb dX9_execute_98 (by decide) ?_
    refine lv_icmp_ne (tgt := 112) hx hb dX9_execute_100 (by decide) (fun c7 => ?_) (fun c7 => ?_)
    · replace hM := i_neg hM c7
      refine lv_aload_n hx hb dX9_execute_112 rfl (lv_at hl 6 rfl) ?_
      refine lv_iload_n hx hb dX9_execute_113 rfl (lv_at hl 4 rfl) ?_
      refine lv_iload hx hb dX9_execute_114 (lv_at hl 3 rfl) ?_
      refine lv_iload hx hb dX9_execute_116 (lv_at hl 2 rfl) ?_
      refine lv_iload hx hb dX9_execute_118 (lv_at hl 1 rfl) ?_
      refine lv_iload hx hb dX9_execute_120 (lv_at hl 0 rfl) ?_
      obtain ⟨p8, h9, hM⟩ := b_some hM
      refine q_cv (As := [.int (σ 15 (ix (7 * x1))), .int (σ 15 (ix ((7 * x1) + 1))), .int (σ 15 (ix ((7 * x1) + 2))), .int (σ 15 (ix ((7 * x1) + 3))), .int (σ 15 (ix ((7 * x1) + 4)))]) (rest := []) E hw hl (c_X9_change l D cA tS A h F N (σ 15 (ix (7 * x1))) (σ 15 (ix ((7 * x1) + 1))) (σ 15 (ix ((7 * x1) + 2))) (σ 15 (ix ((7 * x1) + 3))) (σ 15 (ix ((7 * x1) + 4))) σ wd p8.1 p8.2 h9) 5 (bwV bw_c tb_1213 tb_1215 tb_45 tb_112 tb_1216) rfl (by decide +kernel) ⟨Nat.le_of_ble_eq_true rfl, Nat.le_of_ble_eq_true rfl⟩ 0 9 (T := TX9) (N := 17) rfl rfl rfl rfl (Nat.le_of_ble_eq_true rfl) ⟨Nat.zero_le _, Nat.zero_le _⟩ dX9_execute_122 (fun H locs hw => ?_)
      cases hM
      exact q_reti E hw dX9_execute_125
    · replace hM := i_pos hM c7
      refine lv_aload_n hx hb dX9_execute_103 rfl (lv_at hl 6 rfl) ?_
      refine lv_iload hx hb dX9_execute_104 (lv_at hl 3 rfl) ?_
      obtain ⟨p10, h11, hM⟩ := b_some hM
      refine q_cv (As := [.int (σ 15 (ix ((7 * x1) + 1)))]) (rest := []) E hw hl (c_X9_pass l D cA tS A h F N (σ 15 (ix ((7 * x1) + 1))) σ wd p10.1 p10.2 h11) 1 (bwV bw_c tb_1686 tb_1396 tb_1397 tb_112 tb_1398) rfl (by decide +kernel) ⟨Nat.le_of_ble_eq_true rfl, Nat.le_of_ble_eq_true rfl⟩ 0 9 (T := TX9) (N := 17) rfl rfl rfl rfl (Nat.le_of_ble_eq_true rfl) ⟨Nat.zero_le _, Nat.zero_le _⟩ dX9_execute_106 (fun H locs hw => ?_)
      refine lv_goto (tgt := 125) hx hb dX9_execute_109 (by decide) ?_
      cases hM
      exact q_reti E hw dX9_execute_125
  · replace hM := i_pos hM c6
    refine lv_aload_n hx hb dX9_execute_58 rfl (lv_at hl 6 rfl) ?_
    refine lv_iload hx hb dX9_execute_59 (lv_at hl 3 rfl) ?_
    refine lv_iload hx hb dX9_execute_61 (lv_at hl 2 rfl) ?_
    refine lv_iload hx hb dX9_execute_63 (lv_at hl 1 rfl) ?_
    refine lv_iload hx hb dX9_execute_65 (lv_at hl 0 rfl) ?_
    refine lv_aload_n hx hb dX9_execute_67 rfl (lv_at hl 6 rfl) ?_
    refine q_get (C := RX9) (T := TX9) (N := 17) (ci := 9) E (fun w h => List.mem_cons_of_mem _ (inX9 w h)) hw 0 rfl rfl 15 (by decide) (List.mem_cons_of_mem _ tb_1172) (v := .ref (h 15)) rfl dX9_execute_68 ?_
    refine lv_iload_n hx hb dX9_execute_71 rfl (lv_at hl 5 rfl) ?_
    refine lv_iconst (v := 5) hx hb dX9_execute_72 (by decide) ?_
    refine lv_iadd hx hb dX9_execute_73 ?_
    obtain ⟨g12, hM⟩ := g_some hM
    refine q_ald E hw 6 (n := 280) rfl g12 (x := (σ 15 (ix ((7 * x1) + 5)))) rfl dX9_execute_74 ?_
    refine lv_aload_n hx hb dX9_execute_75 rfl (lv_at hl 6 rfl) ?_
    refine q_get (C := RX9) (T := TX9) (N := 17) (ci := 9) E (fun w h => List.mem_cons_of_mem _ (inX9 w h)) hw 0 rfl rfl 15 (by decide) (List.mem_cons_of_mem _ tb_1172) (v := .ref (h 15)) rfl dX9_execute_76 ?_
    refine lv_iload_n hx hb dX9_execute_79 rfl (lv_at hl 5 rfl) ?_
    refine lv_bipush (v := 6) hx hb dX9_execute_80 (by decide) ?_
    refine lv_iadd hx hb dX9_execute_82 ?_
    obtain ⟨g13, hM⟩ := g_some hM
    refine q_ald E hw 6 (n := 280) rfl g13 (x := (σ 15 (ix ((7 * x1) + 6)))) rfl dX9_execute_83 ?_
    refine lv_iconst (v := 1) hx hb dX9_execute_84 (by decide) ?_
    refine lv_icmp_ne (tgt := 92) hx hb dX9_execute_85 (by decide) (fun c14 => ?_) (fun c14 => ?_)
    · replace hM := i_neg hM c14
      refine lv_iconst (v := 0) hx hb dX9_execute_92 (by decide) ?_
      obtain ⟨p15, h16, hM⟩ := b_some hM
      refine q_cv (As := [.int (σ 15 (ix ((7 * x1) + 1))), .int (σ 15 (ix ((7 * x1) + 2))), .int (σ 15 (ix ((7 * x1) + 3))), .int (σ 15 (ix ((7 * x1) + 4))), .int (σ 15 (ix ((7 * x1) + 5))), .int 0]) (rest := []) E hw hl (c_X9_addKind l D cA tS A h F (σ 15 (ix ((7 * x1) + 1))) (σ 15 (ix ((7 * x1) + 2))) (σ 15 (ix ((7 * x1) + 3))) (σ 15 (ix ((7 * x1) + 4))) (σ 15 (ix ((7 * x1) + 5))) 0 σ wd p15.1 p15.2 h16) 6 (bwV bw_c tb_1685 tb_1344 tb_1345 tb_112 tb_1346) rfl (by decide +kernel) ⟨Nat.le_of_ble_eq_true rfl, Nat.le_of_ble_eq_true rfl⟩ 0 9 (T := TX9) (N := 17) rfl rfl rfl rfl (Nat.le_of_ble_eq_true rfl) ⟨Nat.zero_le _, Nat.zero_le _⟩ dX9_execute_93 (fun H locs hw => ?_)
      cases hM
      exact q_reti E hw dX9_execute_96
    · replace hM := i_pos hM c14
      refine lv_iconst (v := 1) hx hb dX9_execute_88 (by decide) ?_
      refine lv_goto (tgt := 93) hx hb dX9_execute_89 (by decide) ?_
      obtain ⟨p17, h18, hM⟩ := b_some hM
      refine q_cv (As := [.int (σ 15 (ix ((7 * x1) + 1))), .int (σ 15 (ix ((7 * x1) + 2))), .int (σ 15 (ix ((7 * x1) + 3))), .int (σ 15 (ix ((7 * x1) + 4))), .int (σ 15 (ix ((7 * x1) + 5))), .int 1]) (rest := []) E hw hl (c_X9_addKind l D cA tS A h F (σ 15 (ix ((7 * x1) + 1))) (σ 15 (ix ((7 * x1) + 2))) (σ 15 (ix ((7 * x1) + 3))) (σ 15 (ix ((7 * x1) + 4))) (σ 15 (ix ((7 * x1) + 5))) 1 σ wd p17.1 p17.2 h18) 6 (bwV bw_c tb_1685 tb_1344 tb_1345 tb_112 tb_1346) rfl (by decide +kernel) ⟨Nat.le_of_ble_eq_true rfl, Nat.le_of_ble_eq_true rfl⟩ 0 9 (T := TX9) (N := 17) rfl rfl rfl rfl (Nat.le_of_ble_eq_true rfl) ⟨Nat.zero_le _, Nat.zero_le _⟩ dX9_execute_93 (fun H locs hw => ?_)
      cases hM
      exact q_reti E hw dX9_execute_96
def f_X9_runScript_67 (N : Nat)   : Nat → Int32 → Sg → Int64 → Option (Int32 × Sg × Int64)
  | 0, _, _, _ => none
  | n + 1, x1, σ, wd => (if (σ 16 0) ≤ x1 then some (x1, σ, wd) else (if (σ 14 0) = 0 then (f_X9_execute N x1 σ wd).bind (fun p3 => (if (-1) ≤ p3.1 then (if (-1) ≤ p3.1 then f_X9_runScript_67 N n (x1 + 1) (up p3.2 14 0 0) wd else f_X9_runScript_67 N n (x1 + 0) (up p3.2 14 0 0) wd) else (if (-1) ≤ p3.1 then f_X9_runScript_67 N n (x1 + 1) (up p3.2 14 0 p3.1) wd else f_X9_runScript_67 N n (x1 + 0) (up p3.2 14 0 p3.1) wd))) else some (x1, σ, wd)))
set_option maxRecDepth 100000 in
set_option maxHeartbeats 4000000 in
theorem s_X9_runScript_67 (l : Launch) (D : va_G) (cA : Nat → ClassId) (tS : Nat → Nat) (A : Nat → Prop) (h : Nat → Nat) (F : va_W) (N : Nat) {p : Program} {e : Env} {s : State} {m : MethodId} {args : Array Value} {below : List Frame} {meth : Method} {c : Code} (E : Ev p cX9_runScript 3 (some .int) RX9 (Cond.code yX9_runScript cX9_runScript 3 (some .int) :: bw) D cA tS A s m args meth c) : ∀ (n : Nat) (x1 : Int32) (σ : Sg) (wd : Int64) (r0 : Int32) (s0 : Sg) (wd0 : Int64) (hM : f_X9_runScript_67 N n x1 σ wd = some (r0, s0, wd0)) (H : Heap) (locs : List Loc) (hw : Wd D A (wM cA h σ wd ++ F) s.heap H locs) (ls : Array Slot) (hl : lv_has ls 3 [(0, .ref (h 0)), (1, .int x1)]), W p l e ({ frames := 8, cells := 0, slots := 0, locals := 193 } : Room) s m args below meth c H locs 0 0 (MQ below (QW D A (some (.int r0)) (wM cA h s0 wd0 ++ F)) args s 0 0 A) (F0 m 67 ls []) := by
  have hx := E.1.1
  have hb := E.1.2.1
  intro n
  induction n with
  | zero =>
    intro x1 σ wd r0 s0 wd0 hM
    cases hM
  | succ n ih =>
    intro x1 σ wd r0 s0 wd0 hM H locs hw ls hl
    rw [f_X9_runScript_67] at hM
    refine lv_iload_n hx hb dX9_runScript_67 rfl (lv_at hl 1 rfl) ?_
    refine lv_aload_n hx hb dX9_runScript_68 rfl (lv_at hl 0 rfl) ?_
    refine q_get (C := RX9) (T := TX9) (N := 17) (ci := 9) E (fun w h => List.mem_cons_of_mem _ (inX9 w h)) hw 0 rfl rfl 16 (by decide) (List.mem_cons_of_mem _ tb_1173) (v := .int (σ 16 0)) rfl dX9_runScript_69 ?_
    refine lv_icmp_ge (tgt := 118) hx hb dX9_runScript_72 (by decide) (fun c1 => ?_) (fun c1 => ?_)
    · replace hM := i_pos hM c1
      refine lv_iload_n hx hb dX9_runScript_118 rfl (lv_at hl 1 rfl) ?_
      cases hM
      exact q_reti E hw dX9_runScript_119
    · replace hM := i_neg hM c1
      refine lv_aload_n hx hb dX9_runScript_75 rfl (lv_at hl 0 rfl) ?_
      refine q_get (C := RX9) (T := TX9) (N := 17) (ci := 9) E (fun w h => List.mem_cons_of_mem _ (inX9 w h)) hw 0 rfl rfl 13 (by decide) (List.mem_cons_of_mem _ tb_1170) (v := .int (σ 14 0)) rfl dX9_runScript_76 ?_
      refine lv_if_ne (tgt := 118) hx hb dX9_runScript_79 (by decide) (fun c2 => ?_) (fun c2 => ?_)
      · replace hM := i_neg hM c2
        refine lv_iload_n hx hb dX9_runScript_118 rfl (lv_at hl 1 rfl) ?_
        cases hM
        exact q_reti E hw dX9_runScript_119
      · replace hM := i_pos hM c2
        refine lv_aload_n hx hb dX9_runScript_82 rfl (lv_at hl 0 rfl) ?_
        refine lv_iload_n hx hb dX9_runScript_83 rfl (lv_at hl 1 rfl) ?_
        obtain ⟨p3, h4, hM⟩ := b_some hM
        refine q_cv (As := [.int x1]) (rest := []) E hw hl (c_X9_execute l D cA tS A h F N x1 σ wd p3.1 p3.2 h4) 1 (bwV bw_c tb_1681 tb_1683 tb_98 tb_112 tb_1684) rfl (by decide +kernel) ⟨Nat.le_of_ble_eq_true rfl, Nat.le_of_ble_eq_true rfl⟩ 0 9 (T := TX9) (N := 17) rfl rfl rfl rfl (Nat.le_of_ble_eq_true rfl) ⟨Nat.zero_le _, Nat.zero_le _⟩ dX9_runScript_84 (fun H locs hw => ?_)
        refine lv_istore_n (lv' := [(2, .int p3.1), (0, .ref (h 0)), (1, .int x1)]) hx hb dX9_runScript_87 rfl hl (by decide) rfl (fun ls hl => ?_)
        refine lv_aload_n hx hb dX9_runScript_88 rfl (lv_at hl 1 rfl) ?_
        refine lv_iload_n hx hb dX9_runScript_89 rfl (lv_at hl 0 rfl) ?_
        refine lv_iconst (v := (-1)) hx hb dX9_runScript_90 (by decide) ?_
        refine lv_icmp_ge (tgt := 98) hx hb dX9_runScript_91 (by decide) (fun c5 => ?_) (fun c5 => ?_)
        · replace hM := i_pos hM c5
          refine lv_iconst (v := 0) hx hb dX9_runScript_98 (by decide) ?_
          refine q_puti (C := RX9) (T := TX9) (N := 17) (ci := 9) E (fun w h => List.mem_cons_of_mem _ (inX9 w h)) tyX9 tyX9_ok nmX9 hw 0 rfl rfl 13 (by decide) (List.mem_cons_of_mem _ tb_1170) rfl rfl (Nat.le_of_ble_eq_true rfl) (wM cA h (up p3.2 14 0 0) wd ++ F) st_M_14 dX9_runScript_99 (fun H locs hw => ?_)
          refine lv_iload_n hx hb dX9_runScript_102 rfl (lv_at hl 2 rfl) ?_
          refine lv_iload_n hx hb dX9_runScript_103 rfl (lv_at hl 0 rfl) ?_
          refine lv_iconst (v := (-1)) hx hb dX9_runScript_104 (by decide) ?_
          refine lv_icmp_ge (tgt := 112) hx hb dX9_runScript_105 (by decide) (fun c6 => ?_) (fun c6 => ?_)
          · replace hM := i_pos hM c6
            refine lv_iconst (v := 1) hx hb dX9_runScript_112 (by decide) ?_
            refine lv_iadd hx hb dX9_runScript_113 ?_
            refine lv_istore_n (lv' := [(1, .int (x1 + 1)), (2, .int p3.1), (0, .ref (h 0))]) hx hb dX9_runScript_114 rfl hl (by decide) rfl (fun ls hl => ?_)
            refine lv_goto (tgt := 67) hx hb dX9_runScript_115 (by decide) ?_
            exact ih _ _ _ _ _ _ hM _ _ hw _ (lv_sub hl [2, 0] rfl)
          · replace hM := i_neg hM c6
            refine lv_iconst (v := 0) hx hb dX9_runScript_108 (by decide) ?_
            refine lv_goto (tgt := 113) hx hb dX9_runScript_109 (by decide) ?_
            refine lv_iadd hx hb dX9_runScript_113 ?_
            refine lv_istore_n (lv' := [(1, .int (x1 + 0)), (2, .int p3.1), (0, .ref (h 0))]) hx hb dX9_runScript_114 rfl hl (by decide) rfl (fun ls hl => ?_)
            refine lv_goto (tgt := 67) hx hb dX9_runScript_115 (by decide) ?_
            exact ih _ _ _ _ _ _ hM _ _ hw _ (lv_sub hl [2, 0] rfl)
        · replace hM := i_neg hM c5
          refine lv_iload_n hx hb dX9_runScript_94 rfl (lv_at hl 0 rfl) ?_
          refine lv_goto (tgt := 99) hx hb dX9_runScript_95 (by decide) ?_
          refine q_puti (C := RX9) (T := TX9) (N := 17) (ci := 9) E (fun w h => List.mem_cons_of_mem _ (inX9 w h)) tyX9 tyX9_ok nmX9 hw 0 rfl rfl 13 (by decide) (List.mem_cons_of_mem _ tb_1170) rfl rfl (Nat.le_of_ble_eq_true rfl) (wM cA h (up p3.2 14 0 p3.1) wd ++ F) st_M_14 dX9_runScript_99 (fun H locs hw => ?_)
          refine lv_iload_n hx hb dX9_runScript_102 rfl (lv_at hl 2 rfl) ?_
          refine lv_iload_n hx hb dX9_runScript_103 rfl (lv_at hl 0 rfl) ?_
          refine lv_iconst (v := (-1)) hx hb dX9_runScript_104 (by decide) ?_
          refine lv_icmp_ge (tgt := 112) hx hb dX9_runScript_105 (by decide) (fun c7 => ?_) (fun c7 => ?_)
          · replace hM := i_pos hM c7
            refine lv_iconst (v := 1) hx hb dX9_runScript_112 (by decide) ?_
            refine lv_iadd hx hb dX9_runScript_113 ?_
            refine lv_istore_n (lv' := [(1, .int (x1 + 1)), (2, .int p3.1), (0, .ref (h 0))]) hx hb dX9_runScript_114 rfl hl (by decide) rfl (fun ls hl => ?_)
            refine lv_goto (tgt := 67) hx hb dX9_runScript_115 (by decide) ?_
            exact ih _ _ _ _ _ _ hM _ _ hw _ (lv_sub hl [2, 0] rfl)
          · replace hM := i_neg hM c7
            refine lv_iconst (v := 0) hx hb dX9_runScript_108 (by decide) ?_
            refine lv_goto (tgt := 113) hx hb dX9_runScript_109 (by decide) ?_
            refine lv_iadd hx hb dX9_runScript_113 ?_
            refine lv_istore_n (lv' := [(1, .int (x1 + 0)), (2, .int p3.1), (0, .ref (h 0))]) hx hb dX9_runScript_114 rfl hl (by decide) rfl (fun ls hl => ?_)
            refine lv_goto (tgt := 67) hx hb dX9_runScript_115 (by decide) ?_
            exact ih _ _ _ _ _ _ hM _ _ hw _ (lv_sub hl [2, 0] rfl)
def f_X9_runScript_29 (N : Nat)   : Nat → Sg → Int64 → Option (Int32 × Sg × Int64)
  | 0, _, _ => none
  | n + 1, σ, wd => (if (σ 12 0) = 0 then (if (σ 9 0) = 0 then (if (σ 12 0) = 0 then f_X9_runScript_67 N N 0 (up σ 6 0 0) wd else some ((-7), (up σ 6 0 0), wd)) else (f_X9_parseStatement N σ wd).bind (fun p5 => f_X9_runScript_29 N n p5.1 p5.2)) else (if (σ 12 0) = 0 then f_X9_runScript_67 N N 0 (up σ 6 0 0) wd else some ((-7), (up σ 6 0 0), wd)))
set_option maxRecDepth 100000 in
set_option maxHeartbeats 4000000 in
theorem s_X9_runScript_29 (l : Launch) (D : va_G) (cA : Nat → ClassId) (tS : Nat → Nat) (A : Nat → Prop) (h : Nat → Nat) (F : va_W) (N : Nat) {p : Program} {e : Env} {s : State} {m : MethodId} {args : Array Value} {below : List Frame} {meth : Method} {c : Code} (E : Ev p cX9_runScript 3 (some .int) RX9 (Cond.code yX9_runScript cX9_runScript 3 (some .int) :: bw) D cA tS A s m args meth c) : ∀ (n : Nat) (σ : Sg) (wd : Int64) (r0 : Int32) (s0 : Sg) (wd0 : Int64) (hM : f_X9_runScript_29 N n σ wd = some (r0, s0, wd0)) (H : Heap) (locs : List Loc) (hw : Wd D A (wM cA h σ wd ++ F) s.heap H locs) (ls : Array Slot) (hl : lv_has ls 3 [(0, .ref (h 0))]), W p l e ({ frames := 8, cells := 0, slots := 0, locals := 193 } : Room) s m args below meth c H locs 0 0 (MQ below (QW D A (some (.int r0)) (wM cA h s0 wd0 ++ F)) args s 0 0 A) (F0 m 29 ls []) := by
  have hx := E.1.1
  have hb := E.1.2.1
  intro n
  induction n with
  | zero =>
    intro σ wd r0 s0 wd0 hM
    cases hM
  | succ n ih =>
    intro σ wd r0 s0 wd0 hM H locs hw ls hl
    rw [f_X9_runScript_29] at hM
    refine lv_aload_n hx hb dX9_runScript_29 rfl (lv_at hl 0 rfl) ?_
    refine q_get (C := RX9) (T := TX9) (N := 17) (ci := 9) E (fun w h => List.mem_cons_of_mem _ (inX9 w h)) hw 0 rfl rfl 11 (by decide) (List.mem_cons_of_mem _ tb_1168) (v := .int (σ 12 0)) rfl dX9_runScript_30 ?_
    refine lv_if_ne (tgt := 50) hx hb dX9_runScript_33 (by decide) (fun c1 => ?_) (fun c1 => ?_)
    · replace hM := i_neg hM c1
      refine lv_aload_n hx hb dX9_runScript_50 rfl (lv_at hl 0 rfl) ?_
      refine lv_iconst (v := 0) hx hb dX9_runScript_51 (by decide) ?_
      refine q_puti (C := RX9) (T := TX9) (N := 17) (ci := 9) E (fun w h => List.mem_cons_of_mem _ (inX9 w h)) tyX9 tyX9_ok nmX9 hw 0 rfl rfl 5 (by decide) (List.mem_cons_of_mem _ tb_1162) rfl rfl (Nat.le_of_ble_eq_true rfl) (wM cA h (up σ 6 0 0) wd ++ F) st_M_6 dX9_runScript_52 (fun H locs hw => ?_)
      refine lv_aload_n hx hb dX9_runScript_55 rfl (lv_at hl 0 rfl) ?_
      refine q_get (C := RX9) (T := TX9) (N := 17) (ci := 9) E (fun w h => List.mem_cons_of_mem _ (inX9 w h)) hw 0 rfl rfl 11 (by decide) (List.mem_cons_of_mem _ tb_1168) (v := .int (σ 12 0)) (q_fld (congrFun (up_ne σ 6 0 0 12 (by decide)) 0) rfl) dX9_runScript_56 ?_
      refine lv_if_eq (tgt := 65) hx hb dX9_runScript_59 (by decide) (fun c2 => ?_) (fun c2 => ?_)
      · replace hM := i_pos hM c2
        refine lv_iconst (v := 0) hx hb dX9_runScript_65 (by decide) ?_
        refine lv_istore_n (lv' := [(1, .int 0), (0, .ref (h 0))]) hx hb dX9_runScript_66 rfl hl (by decide) rfl (fun ls hl => ?_)
        exact s_X9_runScript_67 l D cA tS A h F N E N _ _ _ _ _ _ hM _ _ hw _ (lv_sub hl [1, 0] rfl)
      · replace hM := i_neg hM c2
        refine lv_bipush (v := (-7)) hx hb dX9_runScript_62 (by decide) ?_
        cases hM
        exact q_reti E hw dX9_runScript_64
    · replace hM := i_pos hM c1
      refine lv_aload_n hx hb dX9_runScript_36 rfl (lv_at hl 0 rfl) ?_
      refine q_get (C := RX9) (T := TX9) (N := 17) (ci := 9) E (fun w h => List.mem_cons_of_mem _ (inX9 w h)) hw 0 rfl rfl 8 (by decide) (List.mem_cons_of_mem _ tb_1165) (v := .int (σ 9 0)) rfl dX9_runScript_37 ?_
      refine lv_if_eq (tgt := 50) hx hb dX9_runScript_40 (by decide) (fun c3 => ?_) (fun c3 => ?_)
      · replace hM := i_pos hM c3
        refine lv_aload_n hx hb dX9_runScript_50 rfl (lv_at hl 0 rfl) ?_
        refine lv_iconst (v := 0) hx hb dX9_runScript_51 (by decide) ?_
        refine q_puti (C := RX9) (T := TX9) (N := 17) (ci := 9) E (fun w h => List.mem_cons_of_mem _ (inX9 w h)) tyX9 tyX9_ok nmX9 hw 0 rfl rfl 5 (by decide) (List.mem_cons_of_mem _ tb_1162) rfl rfl (Nat.le_of_ble_eq_true rfl) (wM cA h (up σ 6 0 0) wd ++ F) st_M_6 dX9_runScript_52 (fun H locs hw => ?_)
        refine lv_aload_n hx hb dX9_runScript_55 rfl (lv_at hl 0 rfl) ?_
        refine q_get (C := RX9) (T := TX9) (N := 17) (ci := 9) E (fun w h => List.mem_cons_of_mem _ (inX9 w h)) hw 0 rfl rfl 11 (by decide) (List.mem_cons_of_mem _ tb_1168) (v := .int (σ 12 0)) (q_fld (congrFun (up_ne σ 6 0 0 12 (by decide)) 0) rfl) dX9_runScript_56 ?_
        refine lv_if_eq (tgt := 65) hx hb dX9_runScript_59 (by decide) (fun c4 => ?_) (fun c4 => ?_)
        · replace hM := i_pos hM c4
          refine lv_iconst (v := 0) hx hb dX9_runScript_65 (by decide) ?_
          refine lv_istore_n (lv' := [(1, .int 0), (0, .ref (h 0))]) hx hb dX9_runScript_66 rfl hl (by decide) rfl (fun ls hl => ?_)
          exact s_X9_runScript_67 l D cA tS A h F N E N _ _ _ _ _ _ hM _ _ hw _ (lv_sub hl [1, 0] rfl)
        · replace hM := i_neg hM c4
          refine lv_bipush (v := (-7)) hx hb dX9_runScript_62 (by decide) ?_
          cases hM
          exact q_reti E hw dX9_runScript_64
      · replace hM := i_neg hM c3
        refine lv_aload_n hx hb dX9_runScript_43 rfl (lv_at hl 0 rfl) ?_
        obtain ⟨p5, h6, hM⟩ := b_some hM
        refine q_cvv (As := []) (rest := []) E hw hl (c_X9_parseStatement l D cA tS A h F N σ wd p5.1 p5.2 h6) 0 (bwV bw_c tb_1638 tb_1640 tb_92 tb_112 tb_1641) rfl (by decide +kernel) ⟨Nat.le_of_ble_eq_true rfl, Nat.le_of_ble_eq_true rfl⟩ 0 9 (T := TX9) (N := 17) rfl rfl rfl rfl (Nat.le_of_ble_eq_true rfl) ⟨Nat.zero_le _, Nat.zero_le _⟩ dX9_runScript_44 (fun H locs hw => ?_)
        refine lv_goto (tgt := 29) hx hb dX9_runScript_47 (by decide) ?_
        exact ih _ _ _ _ _ hM _ _ hw _ (lv_sub hl [0] rfl)
def f_X9_runScript (N : Nat)   (σ : Sg) (wd : Int64) : Option (Int32 × Sg × Int64) := (f_X9_nextToken N (up (up (up (up (up σ 12 0 0) 13 0 (-1)) 14 0 0) 16 0 0) 7 0 0) wd).bind (fun p1 => f_X9_runScript_29 N N p1.1 p1.2)
set_option maxRecDepth 100000 in
set_option maxHeartbeats 4000000 in
theorem c_X9_runScript (l : Launch) (D : va_G) (cA : Nat → ClassId) (tS : Nat → Nat) (A : Nat → Prop) (h : Nat → Nat) (F : va_W) (N : Nat) (σ : Sg) (wd : Int64) (r0 : Int32) (s0 : Sg) (wd0 : Int64) (hM : f_X9_runScript N σ wd = some (r0, s0, wd0)) : Ct l yX9_runScript (Cond.code yX9_runScript cX9_runScript 3 (some .int) :: bw) 8 193 D cA tS A [.ref (h 0)] (wM cA h σ wd ++ F) (some (.int r0)) (wM cA h s0 wd0 ++ F) := by
  refine ct_of (by decide +kernel) (Nat.le_of_ble_eq_true rfl) ?_
  intro p e s m below meth c E hw ls hl
  replace E : Ev p cX9_runScript 3 (some .int) RX9 (Cond.code yX9_runScript cX9_runScript 3 (some .int) :: bw) D cA tS A s m _ meth c := E
  replace hl : lv_has ls 3 [(0, .ref (h 0))] := hl
  have hx := E.1.1
  have hb := E.1.2.1
  unfold f_X9_runScript at hM
  refine lv_aload_n hx hb dX9_runScript_0 rfl (lv_at hl 0 rfl) ?_
  refine lv_iconst (v := 0) hx hb dX9_runScript_1 (by decide) ?_
  refine q_puti (C := RX9) (T := TX9) (N := 17) (ci := 9) E (fun w h => List.mem_cons_of_mem _ (inX9 w h)) tyX9 tyX9_ok nmX9 hw 0 rfl rfl 11 (by decide) (List.mem_cons_of_mem _ tb_1168) rfl rfl (Nat.le_of_ble_eq_true rfl) (wM cA h (up σ 12 0 0) wd ++ F) st_M_12 dX9_runScript_2 (fun H locs hw => ?_)
  refine lv_aload_n hx hb dX9_runScript_5 rfl (lv_at hl 0 rfl) ?_
  refine lv_iconst (v := (-1)) hx hb dX9_runScript_6 (by decide) ?_
  refine q_puti (C := RX9) (T := TX9) (N := 17) (ci := 9) E (fun w h => List.mem_cons_of_mem _ (inX9 w h)) tyX9 tyX9_ok nmX9 hw 0 rfl rfl 12 (by decide) (List.mem_cons_of_mem _ tb_1169) rfl rfl (Nat.le_of_ble_eq_true rfl) (wM cA h (up (up σ 12 0 0) 13 0 (-1)) wd ++ F) st_M_13 dX9_runScript_7 (fun H locs hw => ?_)
  refine lv_aload_n hx hb dX9_runScript_10 rfl (lv_at hl 0 rfl) ?_
  refine lv_iconst (v := 0) hx hb dX9_runScript_11 (by decide) ?_
  refine q_puti (C := RX9) (T := TX9) (N := 17) (ci := 9) E (fun w h => List.mem_cons_of_mem _ (inX9 w h)) tyX9 tyX9_ok nmX9 hw 0 rfl rfl 13 (by decide) (List.mem_cons_of_mem _ tb_1170) rfl rfl (Nat.le_of_ble_eq_true rfl) (wM cA h (up (up (up σ 12 0 0) 13 0 (-1)) 14 0 0) wd ++ F) st_M_14 dX9_runScript_12 (fun H locs hw => ?_)
  refine lv_aload_n hx hb dX9_runScript_15 rfl (lv_at hl 0 rfl) ?_
  refine lv_iconst (v := 0) hx hb dX9_runScript_16 (by decide) ?_
  refine q_puti (C := RX9) (T := TX9) (N := 17) (ci := 9) E (fun w h => List.mem_cons_of_mem _ (inX9 w h)) tyX9 tyX9_ok nmX9 hw 0 rfl rfl 16 (by decide) (List.mem_cons_of_mem _ tb_1173) rfl rfl (Nat.le_of_ble_eq_true rfl) (wM cA h (up (up (up (up σ 12 0 0) 13 0 (-1)) 14 0 0) 16 0 0) wd ++ F) st_M_16 dX9_runScript_17 (fun H locs hw => ?_)
  refine lv_aload_n hx hb dX9_runScript_20 rfl (lv_at hl 0 rfl) ?_
  refine lv_iconst (v := 0) hx hb dX9_runScript_21 (by decide) ?_
  refine q_puti (C := RX9) (T := TX9) (N := 17) (ci := 9) E (fun w h => List.mem_cons_of_mem _ (inX9 w h)) tyX9 tyX9_ok nmX9 hw 0 rfl rfl 6 (by decide) (List.mem_cons_of_mem _ tb_1163) rfl rfl (Nat.le_of_ble_eq_true rfl) (wM cA h (up (up (up (up (up σ 12 0 0) 13 0 (-1)) 14 0 0) 16 0 0) 7 0 0) wd ++ F) st_M_7 dX9_runScript_22 (fun H locs hw => ?_)
  refine lv_aload_n hx hb dX9_runScript_25 rfl (lv_at hl 0 rfl) ?_
  obtain ⟨p1, h2, hM⟩ := b_some hM
  refine q_cvv (As := []) (rest := []) E hw hl (c_X9_nextToken l D cA tS A h F N (up (up (up (up (up σ 12 0 0) 13 0 (-1)) 14 0 0) 16 0 0) 7 0 0) wd p1.1 p1.2 h2) 0 (bwV bw_c tb_1621 tb_1623 tb_90 tb_112 tb_1624) rfl (by decide +kernel) ⟨Nat.le_of_ble_eq_true rfl, Nat.le_of_ble_eq_true rfl⟩ 0 9 (T := TX9) (N := 17) rfl rfl rfl rfl (Nat.le_of_ble_eq_true rfl) ⟨Nat.zero_le _, Nat.zero_le _⟩ dX9_runScript_26 (fun H locs hw => ?_)
  exact s_X9_runScript_29 l D cA tS A h F N E N _ _ _ _ _ hM _ _ hw _ (lv_sub hl [0] rfl)
def f_X9_errorCode    (σ : Sg) (wd : Int64) : Option (Int32) := some (σ 12 0)
set_option maxRecDepth 100000 in
set_option maxHeartbeats 4000000 in
theorem c_X9_errorCode (l : Launch) (D : va_G) (cA : Nat → ClassId) (tS : Nat → Nat) (A : Nat → Prop) (h : Nat → Nat) (F : va_W) (σ : Sg) (wd : Int64) (r0 : Int32) (hM : f_X9_errorCode σ wd = some r0) : Ct l yX9_errorCode (Cond.code yX9_errorCode cX9_errorCode 1 (some .int) :: bw) 0 0 D cA tS A [.ref (h 0)] (wM cA h σ wd ++ F) (some (.int r0)) (wM cA h σ wd ++ F) := by
  refine ct_of (by decide +kernel) (Nat.le_of_ble_eq_true rfl) ?_
  intro p e s m below meth c E hw ls hl
  replace E : Ev p cX9_errorCode 1 (some .int) RX9 (Cond.code yX9_errorCode cX9_errorCode 1 (some .int) :: bw) D cA tS A s m _ meth c := E
  replace hl : lv_has ls 1 [(0, .ref (h 0))] := hl
  have hx := E.1.1
  have hb := E.1.2.1
  unfold f_X9_errorCode at hM
  refine lv_aload_n hx hb dX9_errorCode_0 rfl (lv_at hl 0 rfl) ?_
  refine q_get (C := RX9) (T := TX9) (N := 17) (ci := 9) E (fun w h => List.mem_cons_of_mem _ (inX9 w h)) hw 0 rfl rfl 11 (by decide) (List.mem_cons_of_mem _ tb_1168) (v := .int (σ 12 0)) rfl dX9_errorCode_1 ?_
  cases hM
  exact q_reti E hw dX9_errorCode_4
def f_X9_errorPosition    (σ : Sg) (wd : Int64) : Option (Int32) := some (σ 13 0)
set_option maxRecDepth 100000 in
set_option maxHeartbeats 4000000 in
theorem c_X9_errorPosition (l : Launch) (D : va_G) (cA : Nat → ClassId) (tS : Nat → Nat) (A : Nat → Prop) (h : Nat → Nat) (F : va_W) (σ : Sg) (wd : Int64) (r0 : Int32) (hM : f_X9_errorPosition σ wd = some r0) : Ct l yX9_errorPosition (Cond.code yX9_errorPosition cX9_errorPosition 1 (some .int) :: bw) 0 0 D cA tS A [.ref (h 0)] (wM cA h σ wd ++ F) (some (.int r0)) (wM cA h σ wd ++ F) := by
  refine ct_of (by decide +kernel) (Nat.le_of_ble_eq_true rfl) ?_
  intro p e s m below meth c E hw ls hl
  replace E : Ev p cX9_errorPosition 1 (some .int) RX9 (Cond.code yX9_errorPosition cX9_errorPosition 1 (some .int) :: bw) D cA tS A s m _ meth c := E
  replace hl : lv_has ls 1 [(0, .ref (h 0))] := hl
  have hx := E.1.1
  have hb := E.1.2.1
  unfold f_X9_errorPosition at hM
  refine lv_aload_n hx hb dX9_errorPosition_0 rfl (lv_at hl 0 rfl) ?_
  refine q_get (C := RX9) (T := TX9) (N := 17) (ci := 9) E (fun w h => List.mem_cons_of_mem _ (inX9 w h)) hw 0 rfl rfl 12 (by decide) (List.mem_cons_of_mem _ tb_1169) (v := .int (σ 13 0)) rfl dX9_errorPosition_1 ?_
  cases hM
  exact q_reti E hw dX9_errorPosition_4
def f_X9_scriptFailure    (σ : Sg) (wd : Int64) : Option (Int32) := some (σ 14 0)
set_option maxRecDepth 100000 in
set_option maxHeartbeats 4000000 in
theorem c_X9_scriptFailure (l : Launch) (D : va_G) (cA : Nat → ClassId) (tS : Nat → Nat) (A : Nat → Prop) (h : Nat → Nat) (F : va_W) (σ : Sg) (wd : Int64) (r0 : Int32) (hM : f_X9_scriptFailure σ wd = some r0) : Ct l yX9_scriptFailure (Cond.code yX9_scriptFailure cX9_scriptFailure 1 (some .int) :: bw) 0 0 D cA tS A [.ref (h 0)] (wM cA h σ wd ++ F) (some (.int r0)) (wM cA h σ wd ++ F) := by
  refine ct_of (by decide +kernel) (Nat.le_of_ble_eq_true rfl) ?_
  intro p e s m below meth c E hw ls hl
  replace E : Ev p cX9_scriptFailure 1 (some .int) RX9 (Cond.code yX9_scriptFailure cX9_scriptFailure 1 (some .int) :: bw) D cA tS A s m _ meth c := E
  replace hl : lv_has ls 1 [(0, .ref (h 0))] := hl
  have hx := E.1.1
  have hb := E.1.2.1
  unfold f_X9_scriptFailure at hM
  refine lv_aload_n hx hb dX9_scriptFailure_0 rfl (lv_at hl 0 rfl) ?_
  refine q_get (C := RX9) (T := TX9) (N := 17) (ci := 9) E (fun w h => List.mem_cons_of_mem _ (inX9 w h)) hw 0 rfl rfl 13 (by decide) (List.mem_cons_of_mem _ tb_1170) (v := .int (σ 14 0)) rfl dX9_scriptFailure_1 ?_
  cases hM
  exact q_reti E hw dX9_scriptFailure_4
def f_X9_save (N : Nat)   (x1 : Int32) (σ : Sg) (wd : Int64) : Option (Int32 × Sg) := (f_X9_isBetween x1 0 1).bind (fun p1 => (if p1 = 0 then some (0, σ) else (f_X9_copyState_state_saved N 0 (4619 * x1) σ wd).bind (fun p4 => if ib x1 2 then some (1, (up p4 4 (ix x1) (vp_nar .boolean 1))) else none)))
set_option maxRecDepth 100000 in
set_option maxHeartbeats 4000000 in
theorem c_X9_save (l : Launch) (D : va_G) (cA : Nat → ClassId) (tS : Nat → Nat) (A : Nat → Prop) (h : Nat → Nat) (F : va_W) (N : Nat) (x1 : Int32) (σ : Sg) (wd : Int64) (r0 : Int32) (s0 : Sg) (hM : f_X9_save N x1 σ wd = some (r0, s0)) : Ct l yX9_save (Cond.code yX9_save cX9_save 2 (some .boolean) :: bw) 1 25 D cA tS A [.ref (h 0), .int x1] (wM cA h σ wd ++ F) (some (.int r0)) (wM cA h s0 wd ++ F) := by
  refine ct_of (by decide +kernel) (Nat.le_of_ble_eq_true rfl) ?_
  intro p e s m below meth c E hw ls hl
  replace E : Ev p cX9_save 2 (some .boolean) RX9 (Cond.code yX9_save cX9_save 2 (some .boolean) :: bw) D cA tS A s m _ meth c := E
  replace hl : lv_has ls 2 [(0, .ref (h 0)), (1, .int x1)] := hl
  have hx := E.1.1
  have hb := E.1.2.1
  unfold f_X9_save at hM
  refine lv_iload_n hx hb dX9_save_0 rfl (lv_at hl 1 rfl) ?_
  refine lv_iconst (v := 0) hx hb dX9_save_1 (by decide) ?_
  refine lv_iconst (v := 1) hx hb dX9_save_2 (by decide) ?_
  obtain ⟨p1, h2, hM⟩ := b_some hM
  refine q_cs (As := [.int x1, .int 0, .int 1]) (rest := []) E hw hl (c_X9_isBetween l D cA tS A (wM cA h σ wd ++ F) x1 0 1 p1 h2) 3 (bwS bw_c tb_1224 tb_1225 tb_112 tb_1226) rfl (by decide +kernel) ⟨Nat.le_of_ble_eq_true rfl, Nat.le_of_ble_eq_true rfl⟩ rfl rfl (Nat.le_of_ble_eq_true rfl) ⟨Nat.zero_le _, Nat.zero_le _⟩ dX9_save_3 (fun H locs hw => ?_)
  refine lv_if_ne (tgt := 11) hx hb dX9_save_6 (by decide) (fun c3 => ?_) (fun c3 => ?_)
  · replace hM := i_neg hM c3
    refine lv_aload_n hx hb dX9_save_11 rfl (lv_at hl 0 rfl) ?_
    refine lv_aload_n hx hb dX9_save_12 rfl (lv_at hl 0 rfl) ?_
    refine q_get (C := RX9) (T := TX9) (N := 17) (ci := 9) E (fun w h => List.mem_cons_of_mem _ (inX9 w h)) hw 0 rfl rfl 0 (by decide) (List.mem_cons_of_mem _ tb_1157) (v := .ref (h 1)) rfl dX9_save_13 ?_
    refine lv_iconst (v := 0) hx hb dX9_save_16 (by decide) ?_
    refine lv_aload_n hx hb dX9_save_17 rfl (lv_at hl 0 rfl) ?_
    refine q_get (C := RX9) (T := TX9) (N := 17) (ci := 9) E (fun w h => List.mem_cons_of_mem _ (inX9 w h)) hw 0 rfl rfl 2 (by decide) (List.mem_cons_of_mem _ tb_1159) (v := .ref (h 3)) rfl dX9_save_18 ?_
    refine lv_sipush (v := 4619) hx hb dX9_save_21 (by decide) ?_
    refine lv_iload_n hx hb dX9_save_24 rfl (lv_at hl 1 rfl) ?_
    refine lv_imul hx hb dX9_save_25 ?_
    obtain ⟨p4, h5, hM⟩ := b_some hM
    refine q_cvv (As := [.ref (h 1), .int 0, .ref (h 3), .int (4619 * x1)]) (rest := []) E hw hl (c_X9_copyState_state_saved l D cA tS A h F N 0 (4619 * x1) σ wd p4 h5) 4 (bwV bw_c tb_1557 tb_1559 tb_86 tb_112 tb_1560) rfl (by decide +kernel) ⟨Nat.le_of_ble_eq_true rfl, Nat.le_of_ble_eq_true rfl⟩ 0 9 (T := TX9) (N := 17) rfl rfl rfl rfl (Nat.le_of_ble_eq_true rfl) ⟨Nat.zero_le _, Nat.zero_le _⟩ dX9_save_26 (fun H locs hw => ?_)
    refine lv_aload_n hx hb dX9_save_29 rfl (lv_at hl 0 rfl) ?_
    refine q_get (C := RX9) (T := TX9) (N := 17) (ci := 9) E (fun w h => List.mem_cons_of_mem _ (inX9 w h)) hw 0 rfl rfl 3 (by decide) (List.mem_cons_of_mem _ tb_1160) (v := .ref (h 4)) rfl dX9_save_30 ?_
    refine lv_iload_n hx hb dX9_save_33 rfl (lv_at hl 1 rfl) ?_
    refine lv_iconst (v := 1) hx hb dX9_save_34 (by decide) ?_
    obtain ⟨g6, hM⟩ := g_some hM
    refine q_zst E hw 4 (n := 2) rfl g6 (wM cA h (up p4 4 (ix x1) (vp_nar .boolean 1)) wd ++ F) st_M_4 dX9_save_35 (fun H locs hw => ?_)
    refine lv_iconst (v := 1) hx hb dX9_save_36 (by decide) ?_
    cases hM
    exact q_retz E hw (by decide) dX9_save_37
  · replace hM := i_pos hM c3
    refine lv_iconst (v := 0) hx hb dX9_save_9 (by decide) ?_
    cases hM
    exact q_retz E hw (by decide) dX9_save_10
def f_X9_restore (N : Nat)   (x1 : Int32) (σ : Sg) (wd : Int64) : Option (Int32 × Sg) := (f_X9_isBetween x1 0 1).bind (fun p1 => (if p1 = 0 then some (0, σ) else if ib x1 2 then (if (σ 4 (ix x1)) = 0 then some (0, σ) else (f_X9_copyState_saved_state N (4619 * x1) 0 σ wd).bind (fun p6 => some (1, p6))) else none))
set_option maxRecDepth 100000 in
set_option maxHeartbeats 4000000 in
theorem c_X9_restore (l : Launch) (D : va_G) (cA : Nat → ClassId) (tS : Nat → Nat) (A : Nat → Prop) (h : Nat → Nat) (F : va_W) (N : Nat) (x1 : Int32) (σ : Sg) (wd : Int64) (r0 : Int32) (s0 : Sg) (hM : f_X9_restore N x1 σ wd = some (r0, s0)) : Ct l yX9_restore (Cond.code yX9_restore cX9_restore 2 (some .boolean) :: bw) 1 25 D cA tS A [.ref (h 0), .int x1] (wM cA h σ wd ++ F) (some (.int r0)) (wM cA h s0 wd ++ F) := by
  refine ct_of (by decide +kernel) (Nat.le_of_ble_eq_true rfl) ?_
  intro p e s m below meth c E hw ls hl
  replace E : Ev p cX9_restore 2 (some .boolean) RX9 (Cond.code yX9_restore cX9_restore 2 (some .boolean) :: bw) D cA tS A s m _ meth c := E
  replace hl : lv_has ls 2 [(0, .ref (h 0)), (1, .int x1)] := hl
  have hx := E.1.1
  have hb := E.1.2.1
  unfold f_X9_restore at hM
  refine lv_iload_n hx hb dX9_restore_0 rfl (lv_at hl 1 rfl) ?_
  refine lv_iconst (v := 0) hx hb dX9_restore_1 (by decide) ?_
  refine lv_iconst (v := 1) hx hb dX9_restore_2 (by decide) ?_
  obtain ⟨p1, h2, hM⟩ := b_some hM
  refine q_cs (As := [.int x1, .int 0, .int 1]) (rest := []) E hw hl (c_X9_isBetween l D cA tS A (wM cA h σ wd ++ F) x1 0 1 p1 h2) 3 (bwS bw_c tb_1224 tb_1225 tb_112 tb_1226) rfl (by decide +kernel) ⟨Nat.le_of_ble_eq_true rfl, Nat.le_of_ble_eq_true rfl⟩ rfl rfl (Nat.le_of_ble_eq_true rfl) ⟨Nat.zero_le _, Nat.zero_le _⟩ dX9_restore_3 (fun H locs hw => ?_)
  refine lv_if_eq (tgt := 18) hx hb dX9_restore_6 (by decide) (fun c3 => ?_) (fun c3 => ?_)
  · replace hM := i_pos hM c3
    refine lv_iconst (v := 0) hx hb dX9_restore_18 (by decide) ?_
    cases hM
    exact q_retz E hw (by decide) dX9_restore_19
  · replace hM := i_neg hM c3
    refine lv_aload_n hx hb dX9_restore_9 rfl (lv_at hl 0 rfl) ?_
    refine q_get (C := RX9) (T := TX9) (N := 17) (ci := 9) E (fun w h => List.mem_cons_of_mem _ (inX9 w h)) hw 0 rfl rfl 3 (by decide) (List.mem_cons_of_mem _ tb_1160) (v := .ref (h 4)) rfl dX9_restore_10 ?_
    refine lv_iload_n hx hb dX9_restore_13 rfl (lv_at hl 1 rfl) ?_
    obtain ⟨g4, hM⟩ := g_some hM
    refine q_zld E hw 4 (n := 2) rfl g4 (x := (σ 4 (ix x1))) rfl dX9_restore_14 ?_
    refine lv_if_ne (tgt := 20) hx hb dX9_restore_15 (by decide) (fun c5 => ?_) (fun c5 => ?_)
    · replace hM := i_neg hM c5
      refine lv_aload_n hx hb dX9_restore_20 rfl (lv_at hl 0 rfl) ?_
      refine lv_aload_n hx hb dX9_restore_21 rfl (lv_at hl 0 rfl) ?_
      refine q_get (C := RX9) (T := TX9) (N := 17) (ci := 9) E (fun w h => List.mem_cons_of_mem _ (inX9 w h)) hw 0 rfl rfl 2 (by decide) (List.mem_cons_of_mem _ tb_1159) (v := .ref (h 3)) rfl dX9_restore_22 ?_
      refine lv_sipush (v := 4619) hx hb dX9_restore_25 (by decide) ?_
      refine lv_iload_n hx hb dX9_restore_28 rfl (lv_at hl 1 rfl) ?_
      refine lv_imul hx hb dX9_restore_29 ?_
      refine lv_aload_n hx hb dX9_restore_30 rfl (lv_at hl 0 rfl) ?_
      refine q_get (C := RX9) (T := TX9) (N := 17) (ci := 9) E (fun w h => List.mem_cons_of_mem _ (inX9 w h)) hw 0 rfl rfl 0 (by decide) (List.mem_cons_of_mem _ tb_1157) (v := .ref (h 1)) rfl dX9_restore_31 ?_
      refine lv_iconst (v := 0) hx hb dX9_restore_34 (by decide) ?_
      obtain ⟨p6, h7, hM⟩ := b_some hM
      refine q_cvv (As := [.ref (h 3), .int (4619 * x1), .ref (h 1), .int 0]) (rest := []) E hw hl (c_X9_copyState_saved_state l D cA tS A h F N (4619 * x1) 0 σ wd p6 h7) 4 (bwV bw_c tb_1557 tb_1559 tb_86 tb_112 tb_1560) rfl (by decide +kernel) ⟨Nat.le_of_ble_eq_true rfl, Nat.le_of_ble_eq_true rfl⟩ 0 9 (T := TX9) (N := 17) rfl rfl rfl rfl (Nat.le_of_ble_eq_true rfl) ⟨Nat.zero_le _, Nat.zero_le _⟩ dX9_restore_35 (fun H locs hw => ?_)
      refine lv_iconst (v := 1) hx hb dX9_restore_38 (by decide) ?_
      cases hM
      exact q_retz E hw (by decide) dX9_restore_39
    · replace hM := i_pos hM c5
      refine lv_iconst (v := 0) hx hb dX9_restore_18 (by decide) ?_
      cases hM
      exact q_retz E hw (by decide) dX9_restore_19
