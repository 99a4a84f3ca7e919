set_option maxRecDepth 100000 in
set_option maxHeartbeats 4000000 in
theorem s_X9_makeOpen_49 (l : Launch) (D : va_G) (cA : Nat → ClassId) (tS : Nat → Nat) (A : Nat → Prop) (h : Nat → Nat) (F : va_W) (N : Nat) {p : Program} {e : Env} {s : State} {m : MethodId} {args : Array Value} {below : List Frame} {meth : Method} {c : Code} (E : Ev p cX9_makeOpen 4 (some .int) RX9 (Cond.code yX9_makeOpen cX9_makeOpen 4 (some .int) :: bw) D cA tS A s m args meth c) : ∀ (n : Nat) (x1 : Int32) (x2 : Int32) (x3 : Int32) (σ : Sg) (wd : Int64) (r0 : Int32) (s0 : Sg) (hM : f_X9_makeOpen_49 N n x1 x2 x3 σ wd = some (r0, s0)) (H : Heap) (locs : List Loc) (hw : Wd D A (wM cA h σ wd ++ F) s.heap H locs) (ls : Array Slot) (hl : lv_has ls 4 [(0, .ref (h 0)), (1, .int x1), (2, .int x2), (3, .int x3)]), W p l e ({ frames := 1, cells := 0, slots := 0, locals := 25 } : Room) s m args below meth c H locs 0 0 (MQ below (QW D A (some (.int r0)) (wM cA h s0 wd ++ F)) args s 0 0 A) (F0 m 49 ls []) := by
  have hx := E.1.1
  have hb := E.1.2.1
  intro n
  induction n with
  | zero =>
    intro x1 x2 x3 σ wd r0 s0 hM
    cases hM
  | succ n ih =>
    intro x1 x2 x3 σ wd r0 s0 hM H locs hw ls hl
    rw [f_X9_makeOpen_49] at hM
    refine lv_iload_n hx hb dX9_makeOpen_49 rfl (lv_at hl 3 rfl) ?_
    refine lv_aload_n hx hb dX9_makeOpen_50 rfl (lv_at hl 0 rfl) ?_
    refine q_get (C := RX9) (T := TX9) (N := 17) (ci := 9) E (fun w h => List.mem_cons_of_mem _ (inX9 w h)) hw 0 rfl rfl 0 (by decide) (List.mem_cons_of_mem _ tb_1145) (v := .ref (h 1)) rfl dX9_makeOpen_51 ?_
    refine lv_bipush (v := 56) hx hb dX9_makeOpen_54 (by decide) ?_
    refine q_ald E hw 1 (n := 4619) rfl (by decide +kernel) (x := (σ 1 (ix 56))) rfl dX9_makeOpen_56 ?_
    refine lv_icmp_ge (tgt := 96) hx hb dX9_makeOpen_57 (by decide) (fun c1 => ?_) (fun c1 => ?_)
    · replace hM := i_pos hM c1
      refine lv_iload_n hx hb dX9_makeOpen_96 rfl (lv_at hl 2 rfl) ?_
      cases hM
      exact q_reti E hw dX9_makeOpen_97
    · replace hM := i_neg hM c1
      refine lv_aload_n hx hb dX9_makeOpen_60 rfl (lv_at hl 0 rfl) ?_
      refine lv_iload_n hx hb dX9_makeOpen_61 rfl (lv_at hl 3 rfl) ?_
      refine lv_bipush (v := 10) hx hb dX9_makeOpen_62 (by decide) ?_
      obtain ⟨p2, h3, hM⟩ := b_some hM
      refine q_cv (As := [.int x3, .int 10]) (rest := []) E hw hl (c_X9_ticket l D cA tS A h F x3 10 σ wd p2 h3) 2 (bwV bw_c tb_1241 tb_1243 tb_51 tb_111 tb_1244) rfl (by decide +kernel) ⟨Nat.le_of_ble_eq_true rfl, Nat.le_of_ble_eq_true rfl⟩ 0 9 (T := TX9) (N := 17) rfl rfl rfl rfl (Nat.le_of_ble_eq_true rfl) ⟨Nat.zero_le _, Nat.zero_le _⟩ dX9_makeOpen_64 (fun H locs hw => ?_)
      refine lv_iload_n hx hb dX9_makeOpen_67 rfl (lv_at hl 1 rfl) ?_
      refine lv_icmp_ne (tgt := 90) hx hb dX9_makeOpen_68 (by decide) (fun c4 => ?_) (fun c4 => ?_)
      · replace hM := i_neg hM c4
        refine lv_iinc (v := (x3 + 1)) (lv' := [(3, .int (x3 + 1)), (0, .ref (h 0)), (1, .int x1), (2, .int x2)]) hx hb dX9_makeOpen_90 hl (k := 3) rfl rfl (by decide) rfl (fun ls hl => ?_)
        refine lv_goto (tgt := 49) hx hb dX9_makeOpen_93 (by decide) ?_
        exact ih _ _ _ _ _ _ _ hM _ _ hw _ (lv_sub hl [1, 2, 3, 0] rfl)
      · replace hM := i_pos hM c4
        refine lv_aload_n hx hb dX9_makeOpen_71 rfl (lv_at hl 0 rfl) ?_
        refine lv_iload_n hx hb dX9_makeOpen_72 rfl (lv_at hl 3 rfl) ?_
        refine lv_bipush (v := 9) hx hb dX9_makeOpen_73 (by decide) ?_
        refine lv_iconst (v := 4) hx hb dX9_makeOpen_75 (by decide) ?_
        obtain ⟨p5, h6, hM⟩ := b_some hM
        refine q_cvv (As := [.int x3, .int 9, .int 4]) (rest := []) E hw hl (c_X9_setTicket l D cA tS A h F x3 9 4 σ wd p5 h6) 3 (bwV bw_c tb_1273 tb_1275 tb_59 tb_111 tb_1276) rfl (by decide +kernel) ⟨Nat.le_of_ble_eq_true rfl, Nat.le_of_ble_eq_true rfl⟩ 0 9 (T := TX9) (N := 17) rfl rfl rfl rfl (Nat.le_of_ble_eq_true rfl) ⟨Nat.zero_le _, Nat.zero_le _⟩ dX9_makeOpen_76 (fun H locs hw => ?_)
        refine lv_aload_n hx hb dX9_makeOpen_79 rfl (lv_at hl 0 rfl) ?_
        refine lv_iload_n hx hb dX9_makeOpen_80 rfl (lv_at hl 3 rfl) ?_
        refine lv_bipush (v := 13) hx hb dX9_makeOpen_81 (by decide) ?_
        refine lv_iconst (v := (-1)) hx hb dX9_makeOpen_83 (by decide) ?_
        obtain ⟨p7, h8, hM⟩ := b_some hM
        refine q_cvv (As := [.int x3, .int 13, .int (-1)]) (rest := []) E hw hl (c_X9_setTicket l D cA tS A h F x3 13 (-1) p5 wd p7 h8) 3 (bwV bw_c tb_1273 tb_1275 tb_59 tb_111 tb_1276) rfl (by decide +kernel) ⟨Nat.le_of_ble_eq_true rfl, Nat.le_of_ble_eq_true rfl⟩ 0 9 (T := TX9) (N := 17) rfl rfl rfl rfl (Nat.le_of_ble_eq_true rfl) ⟨Nat.zero_le _, Nat.zero_le _⟩ dX9_makeOpen_84 (fun H locs hw => ?_)
        refine lv_iinc (v := (x2 + 1)) (lv' := [(2, .int (x2 + 1)), (0, .ref (h 0)), (1, .int x1), (3, .int x3)]) hx hb dX9_makeOpen_87 hl (k := 2) rfl rfl (by decide) rfl (fun ls hl => ?_)
        refine lv_iinc (v := (x3 + 1)) (lv' := [(3, .int (x3 + 1)), (2, .int (x2 + 1)), (0, .ref (h 0)), (1, .int x1)]) hx hb dX9_makeOpen_90 hl (k := 3) rfl rfl (by decide) rfl (fun ls hl => ?_)
        refine lv_goto (tgt := 49) hx hb dX9_makeOpen_93 (by decide) ?_
        exact ih _ _ _ _ _ _ _ hM _ _ hw _ (lv_sub hl [2, 3, 1, 0] rfl)
set_option maxRecDepth 100000 in
set_option maxHeartbeats 4000000 in
theorem c_X9_makeOpen (l : Launch) (D : va_G) (cA : Nat → ClassId) (tS : Nat → Nat) (A : Nat → Prop) (h : Nat → Nat) (F : va_W) (N : Nat) (x1 : Int32) (σ : Sg) (wd : Int64) (r0 : Int32) (s0 : Sg) (hM : f_X9_makeOpen N x1 σ wd = some (r0, s0)) : Ct l yX9_makeOpen (Cond.code yX9_makeOpen cX9_makeOpen 4 (some .int) :: bw) 1 25 D cA tS A [.ref (h 0), .int x1] (wM cA h σ wd ++ F) (some (.int r0)) (wM cA h s0 wd ++ F) := by
  refine ct_of (by decide +kernel) (Nat.le_of_ble_eq_true rfl) ?_
  intro p e s m below meth c E hw ls hl
  replace E : Ev p cX9_makeOpen 4 (some .int) RX9 (Cond.code yX9_makeOpen cX9_makeOpen 4 (some .int) :: bw) D cA tS A s m _ meth c := E
  replace hl : lv_has ls 4 [(0, .ref (h 0)), (1, .int x1)] := hl
  have hx := E.1.1
  have hb := E.1.2.1
  unfold f_X9_makeOpen at hM
  refine lv_aload_n hx hb dX9_makeOpen_0 rfl (lv_at hl 0 rfl) ?_
  refine lv_iload_n hx hb dX9_makeOpen_1 rfl (lv_at hl 1 rfl) ?_
  refine lv_bipush (v := 9) hx hb dX9_makeOpen_2 (by decide) ?_
  refine lv_iconst (v := 0) hx hb dX9_makeOpen_4 (by decide) ?_
  obtain ⟨p1, h2, hM⟩ := b_some hM
  refine q_cvv (As := [.int x1, .int 9, .int 0]) (rest := []) E hw hl (c_X9_setTicket l D cA tS A h F x1 9 0 σ wd p1 h2) 3 (bwV bw_c tb_1273 tb_1275 tb_59 tb_111 tb_1276) rfl (by decide +kernel) ⟨Nat.le_of_ble_eq_true rfl, Nat.le_of_ble_eq_true rfl⟩ 0 9 (T := TX9) (N := 17) rfl rfl rfl rfl (Nat.le_of_ble_eq_true rfl) ⟨Nat.zero_le _, Nat.zero_le _⟩ dX9_makeOpen_5 (fun H locs hw => ?_)
  refine lv_aload_n hx hb dX9_makeOpen_8 rfl (lv_at hl 0 rfl) ?_
  refine lv_iload_n hx hb dX9_makeOpen_9 rfl (lv_at hl 1 rfl) ?_
  refine lv_bipush (v := 13) hx hb dX9_makeOpen_10 (by decide) ?_
  refine lv_iconst (v := (-1)) hx hb dX9_makeOpen_12 (by decide) ?_
  obtain ⟨p3, h4, hM⟩ := b_some hM
  refine q_cvv (As := [.int x1, .int 13, .int (-1)]) (rest := []) E hw hl (c_X9_setTicket l D cA tS A h F x1 13 (-1) p1 wd p3 h4) 3 (bwV bw_c tb_1273 tb_1275 tb_59 tb_111 tb_1276) rfl (by decide +kernel) ⟨Nat.le_of_ble_eq_true rfl, Nat.le_of_ble_eq_true rfl⟩ 0 9 (T := TX9) (N := 17) rfl rfl rfl rfl (Nat.le_of_ble_eq_true rfl) ⟨Nat.zero_le _, Nat.zero_le _⟩ dX9_makeOpen_13 (fun H locs hw => ?_)
  refine lv_aload_n hx hb dX9_makeOpen_16 rfl (lv_at hl 0 rfl) ?_
  refine lv_iload_n hx hb dX9_makeOpen_17 rfl (lv_at hl 1 rfl) ?_
  refine lv_iconst (v := 5) hx hb dX9_makeOpen_18 (by decide) ?_
  refine lv_iconst (v := 0) hx hb dX9_makeOpen_19 (by decide) ?_
  obtain ⟨p5, h6, hM⟩ := b_some hM
  refine q_cvv (As := [.int x1, .int 5, .int 0]) (rest := []) E hw hl (c_X9_setTicket l D cA tS A h F x1 5 0 p3 wd p5 h6) 3 (bwV bw_c tb_1273 tb_1275 tb_59 tb_111 tb_1276) rfl (by decide +kernel) ⟨Nat.le_of_ble_eq_true rfl, Nat.le_of_ble_eq_true rfl⟩ 0 9 (T := TX9) (N := 17) rfl rfl rfl rfl (Nat.le_of_ble_eq_true rfl) ⟨Nat.zero_le _, Nat.zero_le _⟩ dX9_makeOpen_20 (fun H locs hw => ?_)
  refine lv_aload_n hx hb dX9_makeOpen_23 rfl (lv_at hl 0 rfl) ?_
  refine lv_iload_n hx hb dX9_makeOpen_24 rfl (lv_at hl 1 rfl) ?_
  refine lv_bipush (v := 6) hx hb dX9_makeOpen_25 (by decide) ?_
  refine lv_iconst (v := 0) hx hb dX9_makeOpen_27 (by decide) ?_
  obtain ⟨p7, h8, hM⟩ := b_some hM
  refine q_cvv (As := [.int x1, .int 6, .int 0]) (rest := []) E hw hl (c_X9_setTicket l D cA tS A h F x1 6 0 p5 wd p7 h8) 3 (bwV bw_c tb_1273 tb_1275 tb_59 tb_111 tb_1276) rfl (by decide +kernel) ⟨Nat.le_of_ble_eq_true rfl, Nat.le_of_ble_eq_true rfl⟩ 0 9 (T := TX9) (N := 17) rfl rfl rfl rfl (Nat.le_of_ble_eq_true rfl) ⟨Nat.zero_le _, Nat.zero_le _⟩ dX9_makeOpen_28 (fun H locs hw => ?_)
  refine lv_aload_n hx hb dX9_makeOpen_31 rfl (lv_at hl 0 rfl) ?_
  refine lv_aload_n hx hb dX9_makeOpen_32 rfl (lv_at hl 0 rfl) ?_
  refine q_get (C := RX9) (T := TX9) (N := 17) (ci := 9) E (fun w h => List.mem_cons_of_mem _ (inX9 w h)) hw 0 rfl rfl 0 (by decide) (List.mem_cons_of_mem _ tb_1145) (v := .ref (h 1)) rfl dX9_makeOpen_33 ?_
  refine lv_iconst (v := 0) hx hb dX9_makeOpen_36 (by decide) ?_
  refine q_ald E hw 1 (n := 4619) rfl (by decide +kernel) (x := (p7 1 (ix 0))) rfl dX9_makeOpen_37 ?_
  refine lv_bipush (v := 10) hx hb dX9_makeOpen_38 (by decide) ?_
  refine lv_iload_n hx hb dX9_makeOpen_40 rfl (lv_at hl 1 rfl) ?_
  refine lv_iconst (v := 0) hx hb dX9_makeOpen_41 (by decide) ?_
  obtain ⟨p9, h10, hM⟩ := b_some hM
  refine q_cvv (As := [.int (p7 1 (ix 0)), .int 10, .int x1, .int 0]) (rest := []) E hw hl (c_X9_log l D cA tS A h F (p7 1 (ix 0)) 10 x1 0 p7 wd p9 h10) 4 (bwV bw_c tb_1281 tb_1283 tb_61 tb_111 tb_1284) rfl (by decide +kernel) ⟨Nat.le_of_ble_eq_true rfl, Nat.le_of_ble_eq_true rfl⟩ 0 9 (T := TX9) (N := 17) rfl rfl rfl rfl (Nat.le_of_ble_eq_true rfl) ⟨Nat.zero_le _, Nat.zero_le _⟩ dX9_makeOpen_42 (fun H locs hw => ?_)
  refine lv_iconst (v := 1) hx hb dX9_makeOpen_45 (by decide) ?_
  refine lv_istore_n (lv' := [(2, .int 1), (0, .ref (h 0)), (1, .int x1)]) hx hb dX9_makeOpen_46 rfl hl (by decide) rfl (fun ls hl => ?_)
  refine lv_iconst (v := 0) hx hb dX9_makeOpen_47 (by decide) ?_
  refine lv_istore_n (lv' := [(3, .int 0), (2, .int 1), (0, .ref (h 0)), (1, .int x1)]) hx hb dX9_makeOpen_48 rfl hl (by decide) rfl (fun ls hl => ?_)
  exact s_X9_makeOpen_49 l D cA tS A h F N E N _ _ _ _ _ _ _ hM _ _ hw _ (lv_sub hl [2, 3, 1, 0] rfl)
set_option maxRecDepth 100000 in
set_option maxHeartbeats 4000000 in
theorem s_X9_makeTwin_52 (l : Launch) (D : va_G) (cA : Nat → ClassId) (tS : Nat → Nat) (A : Nat → Prop) (h : Nat → Nat) (F : va_W) (N : Nat) (k13 : Int32 → Int32 → Int32 → Int32 → Sg → Int64 → Option (Int32 × Sg)) {p : Program} {e : Env} {s : State} {m : MethodId} {args : Array Value} {below : List Frame} {meth : Method} {c : Code} (E : Ev p cX9_makeTwin 5 (some .int) RX9 (Cond.code yX9_makeTwin cX9_makeTwin 5 (some .int) :: bw) D cA tS A s m args meth c) (hk13 : ∀ (x1 : Int32) (x2 : Int32) (x3 : Int32) (x4 : Int32) (σ : Sg) (wd : Int64) (r0 : Int32) (s0 : Sg) (hM : k13 x1 x2 x3 x4 σ wd = some (r0, s0)) (H : Heap) (locs : List Loc) (hw : Wd D A (wM cA h σ wd ++ F) s.heap H locs) (ls : Array Slot) (hl : lv_has ls 5 [(0, .ref (h 0)), (1, .int x1), (2, .int x2), (3, .int x3), (4, .int x4)]), W p l e ({ frames := 1, cells := 0, slots := 0, locals := 25 } : Room) s m args below meth c H locs 0 0 (MQ below (QW D A (some (.int r0)) (wM cA h s0 wd ++ F)) args s 0 0 A) (F0 m 13 ls [])) : ∀ (x1 : Int32) (x2 : Int32) (x3 : Int32) (x4 : Int32) (σ : Sg) (wd : Int64) (r0 : Int32) (s0 : Sg) (hM : f_X9_makeTwin_52 N k13 x1 x2 x3 x4 σ wd = some (r0, s0)) (H : Heap) (locs : List Loc) (hw : Wd D A (wM cA h σ wd ++ F) s.heap H locs) (ls : Array Slot) (hl : lv_has ls 5 [(0, .ref (h 0)), (1, .int x1), (2, .int x2), (3, .int x3), (4, .int x4)]), W p l e ({ frames := 1, cells := 0, slots := 0, locals := 25 } : Room) s m args below meth c H locs 0 0 (MQ below (QW D A (some (.int r0)) (wM cA h s0 wd ++ F)) args s 0 0 A) (F0 m 52 ls []) := by
  have hx := E.1.1
  have hb := E.1.2.1
  intro x1 x2 x3 x4 σ wd r0 s0 hM H locs hw ls hl
  unfold f_X9_makeTwin_52 at hM
  refine lv_iload_n hx hb dX9_makeTwin_52 rfl (lv_at hl 3 rfl) ?_
  refine lv_aload_n hx hb dX9_makeTwin_53 rfl (lv_at hl 0 rfl) ?_
  refine lv_iload hx hb dX9_makeTwin_54 (lv_at hl 4 rfl) ?_
  refine lv_bipush (v := 10) hx hb dX9_makeTwin_56 (by decide) ?_
  obtain ⟨p1, h2, hM⟩ := b_some hM
  refine q_cv (As := [.int x4, .int 10]) (rest := [.int x3]) E hw hl (c_X9_ticket l D cA tS A h F x4 10 σ wd p1 h2) 2 (bwV bw_c tb_1241 tb_1243 tb_51 tb_111 tb_1244) rfl (by decide +kernel) ⟨Nat.le_of_ble_eq_true rfl, Nat.le_of_ble_eq_true rfl⟩ 0 9 (T := TX9) (N := 17) rfl rfl rfl rfl (Nat.le_of_ble_eq_true rfl) ⟨Nat.zero_le _, Nat.zero_le _⟩ dX9_makeTwin_58 (fun H locs hw => ?_)
  refine lv_iload_n hx hb dX9_makeTwin_61 rfl (lv_at hl 2 rfl) ?_
  refine lv_icmp_ne (tgt := 69) hx hb dX9_makeTwin_62 (by decide) (fun c3 => ?_) (fun c3 => ?_)
  · replace hM := i_neg hM c3
    refine lv_iconst (v := 0) hx hb dX9_makeTwin_69 (by decide) ?_
    refine lv_iadd hx hb dX9_makeTwin_70 ?_
    refine lv_istore_n (lv' := [(3, .int (x3 + 0)), (0, .ref (h 0)), (1, .int x1), (2, .int x2), (4, .int x4)]) hx hb dX9_makeTwin_71 rfl hl (by decide) rfl (fun ls hl => ?_)
    refine lv_iinc (v := (x4 + 1)) (lv' := [(4, .int (x4 + 1)), (3, .int (x3 + 0)), (0, .ref (h 0)), (1, .int x1), (2, .int x2)]) hx hb dX9_makeTwin_72 hl (k := 4) rfl rfl (by decide) rfl (fun ls hl => ?_)
    refine lv_goto (tgt := 13) hx hb dX9_makeTwin_75 (by decide) ?_
    exact hk13 _ _ _ _ _ _ _ _ hM _ _ hw _ (lv_sub hl [2, 3, 4, 1, 0] rfl)
  · replace hM := i_pos hM c3
    refine lv_iconst (v := 1) hx hb dX9_makeTwin_65 (by decide) ?_
    refine lv_goto (tgt := 70) hx hb dX9_makeTwin_66 (by decide) ?_
    refine lv_iadd hx hb dX9_makeTwin_70 ?_
    refine lv_istore_n (lv' := [(3, .int (x3 + 1)), (0, .ref (h 0)), (1, .int x1), (2, .int x2), (4, .int x4)]) hx hb dX9_makeTwin_71 rfl hl (by decide) rfl (fun ls hl => ?_)
    refine lv_iinc (v := (x4 + 1)) (lv' := [(4, .int (x4 + 1)), (3, .int (x3 + 1)), (0, .ref (h 0)), (1, .int x1), (2, .int x2)]) hx hb dX9_makeTwin_72 hl (k := 4) rfl rfl (by decide) rfl (fun ls hl => ?_)
    refine lv_goto (tgt := 13) hx hb dX9_makeTwin_75 (by decide) ?_
    exact hk13 _ _ _ _ _ _ _ _ hM _ _ hw _ (lv_sub hl [2, 3, 4, 1, 0] rfl)
set_option maxRecDepth 100000 in
set_option maxHeartbeats 4000000 in
theorem s_X9_makeTwin_13 (l : Launch) (D : va_G) (cA : Nat → ClassId) (tS : Nat → Nat) (A : Nat → Prop) (h : Nat → Nat) (F : va_W) (N : Nat) {p : Program} {e : Env} {s : State} {m : MethodId} {args : Array Value} {below : List Frame} {meth : Method} {c : Code} (E : Ev p cX9_makeTwin 5 (some .int) RX9 (Cond.code yX9_makeTwin cX9_makeTwin 5 (some .int) :: bw) D cA tS A s m args meth c) : ∀ (n : Nat) (x1 : Int32) (x2 : Int32) (x3 : Int32) (x4 : Int32) (σ : Sg) (wd : Int64) (r0 : Int32) (s0 : Sg) (hM : f_X9_makeTwin_13 N n x1 x2 x3 x4 σ wd = some (r0, s0)) (H : Heap) (locs : List Loc) (hw : Wd D A (wM cA h σ wd ++ F) s.heap H locs) (ls : Array Slot) (hl : lv_has ls 5 [(0, .ref (h 0)), (1, .int x1), (2, .int x2), (3, .int x3), (4, .int x4)]), W p l e ({ frames := 1, cells := 0, slots := 0, locals := 25 } : Room) s m args below meth c H locs 0 0 (MQ below (QW D A (some (.int r0)) (wM cA h s0 wd ++ F)) args s 0 0 A) (F0 m 13 ls []) := by
  have hx := E.1.1
  have hb := E.1.2.1
  intro n
  induction n with
  | zero =>
    intro x1 x2 x3 x4 σ wd r0 s0 hM
    cases hM
  | succ n ih =>
    intro x1 x2 x3 x4 σ wd r0 s0 hM H locs hw ls hl
    rw [f_X9_makeTwin_13] at hM
    refine lv_iload hx hb dX9_makeTwin_13 (lv_at hl 4 rfl) ?_
    refine lv_aload_n hx hb dX9_makeTwin_15 rfl (lv_at hl 0 rfl) ?_
    refine q_get (C := RX9) (T := TX9) (N := 17) (ci := 9) E (fun w h => List.mem_cons_of_mem _ (inX9 w h)) hw 0 rfl rfl 0 (by decide) (List.mem_cons_of_mem _ tb_1145) (v := .ref (h 1)) rfl dX9_makeTwin_16 ?_
    refine lv_bipush (v := 56) hx hb dX9_makeTwin_19 (by decide) ?_
    refine q_ald E hw 1 (n := 4619) rfl (by decide +kernel) (x := (σ 1 (ix 56))) rfl dX9_makeTwin_21 ?_
    refine lv_icmp_ge (tgt := 78) hx hb dX9_makeTwin_22 (by decide) (fun c1 => ?_) (fun c1 => ?_)
    · replace hM := i_pos hM c1
      refine lv_aload_n hx hb dX9_makeTwin_78 rfl (lv_at hl 0 rfl) ?_
      refine lv_aload_n hx hb dX9_makeTwin_79 rfl (lv_at hl 0 rfl) ?_
      refine q_get (C := RX9) (T := TX9) (N := 17) (ci := 9) E (fun w h => List.mem_cons_of_mem _ (inX9 w h)) hw 0 rfl rfl 0 (by decide) (List.mem_cons_of_mem _ tb_1145) (v := .ref (h 1)) rfl dX9_makeTwin_80 ?_
      refine lv_iconst (v := 0) hx hb dX9_makeTwin_83 (by decide) ?_
      refine q_ald E hw 1 (n := 4619) rfl (by decide +kernel) (x := (σ 1 (ix 0))) rfl dX9_makeTwin_84 ?_
      refine lv_bipush (v := 6) hx hb dX9_makeTwin_85 (by decide) ?_
      refine lv_iload_n hx hb dX9_makeTwin_87 rfl (lv_at hl 1 rfl) ?_
      refine lv_iload_n hx hb dX9_makeTwin_88 rfl (lv_at hl 2 rfl) ?_
      obtain ⟨p2, h3, hM⟩ := b_some hM
      refine q_cvv (As := [.int (σ 1 (ix 0)), .int 6, .int x1, .int x2]) (rest := []) E hw hl (c_X9_log l D cA tS A h F (σ 1 (ix 0)) 6 x1 x2 σ wd p2 h3) 4 (bwV bw_c tb_1281 tb_1283 tb_61 tb_111 tb_1284) rfl (by decide +kernel) ⟨Nat.le_of_ble_eq_true rfl, Nat.le_of_ble_eq_true rfl⟩ 0 9 (T := TX9) (N := 17) rfl rfl rfl rfl (Nat.le_of_ble_eq_true rfl) ⟨Nat.zero_le _, Nat.zero_le _⟩ dX9_makeTwin_89 (fun H locs hw => ?_)
      refine lv_iload_n hx hb dX9_makeTwin_92 rfl (lv_at hl 3 rfl) ?_
      cases hM
      exact q_reti E hw dX9_makeTwin_93
    · replace hM := i_neg hM c1
      refine lv_iload hx hb dX9_makeTwin_25 (lv_at hl 4 rfl) ?_
      refine lv_iload_n hx hb dX9_makeTwin_27 rfl (lv_at hl 1 rfl) ?_
      refine lv_icmp_eq (tgt := 43) hx hb dX9_makeTwin_28 (by decide) (fun c4 => ?_) (fun c4 => ?_)
      · replace hM := i_pos hM c4
        refine lv_aload_n hx hb dX9_makeTwin_43 rfl (lv_at hl 0 rfl) ?_
        refine lv_iload hx hb dX9_makeTwin_44 (lv_at hl 4 rfl) ?_
        refine lv_bipush (v := 10) hx hb dX9_makeTwin_46 (by decide) ?_
        refine lv_iload_n hx hb dX9_makeTwin_48 rfl (lv_at hl 2 rfl) ?_
        obtain ⟨p5, h6, hM⟩ := b_some hM
        refine q_cvv (As := [.int x4, .int 10, .int x2]) (rest := []) E hw hl (c_X9_setTicket l D cA tS A h F x4 10 x2 σ wd p5 h6) 3 (bwV bw_c tb_1273 tb_1275 tb_59 tb_111 tb_1276) rfl (by decide +kernel) ⟨Nat.le_of_ble_eq_true rfl, Nat.le_of_ble_eq_true rfl⟩ 0 9 (T := TX9) (N := 17) rfl rfl rfl rfl (Nat.le_of_ble_eq_true rfl) ⟨Nat.zero_le _, Nat.zero_le _⟩ dX9_makeTwin_49 (fun H locs hw => ?_)
        exact s_X9_makeTwin_52 l D cA tS A h F N (fun x1 x2 x3 x4 σ wd => f_X9_makeTwin_13 N n x1 x2 x3 x4 σ wd) E ih _ _ _ _ _ _ _ _ hM _ _ hw _ (lv_sub hl [0, 1, 2, 3, 4] rfl)
      · replace hM := i_neg hM c4
        refine lv_aload_n hx hb dX9_makeTwin_31 rfl (lv_at hl 0 rfl) ?_
        refine lv_iload hx hb dX9_makeTwin_32 (lv_at hl 4 rfl) ?_
        refine lv_bipush (v := 10) hx hb dX9_makeTwin_34 (by decide) ?_
        obtain ⟨p7, h8, hM⟩ := b_some hM
        refine q_cv (As := [.int x4, .int 10]) (rest := []) E hw hl (c_X9_ticket l D cA tS A h F x4 10 σ wd p7 h8) 2 (bwV bw_c tb_1241 tb_1243 tb_51 tb_111 tb_1244) rfl (by decide +kernel) ⟨Nat.le_of_ble_eq_true rfl, Nat.le_of_ble_eq_true rfl⟩ 0 9 (T := TX9) (N := 17) rfl rfl rfl rfl (Nat.le_of_ble_eq_true rfl) ⟨Nat.zero_le _, Nat.zero_le _⟩ dX9_makeTwin_36 (fun H locs hw => ?_)
        refine lv_iload_n hx hb dX9_makeTwin_39 rfl (lv_at hl 1 rfl) ?_
        refine lv_icmp_ne (tgt := 52) hx hb dX9_makeTwin_40 (by decide) (fun c9 => ?_) (fun c9 => ?_)
        · replace hM := i_neg hM c9
          exact s_X9_makeTwin_52 l D cA tS A h F N (fun x1 x2 x3 x4 σ wd => f_X9_makeTwin_13 N n x1 x2 x3 x4 σ wd) E ih _ _ _ _ _ _ _ _ hM _ _ hw _ (lv_sub hl [0, 1, 2, 3, 4] rfl)
        · replace hM := i_pos hM c9
          refine lv_aload_n hx hb dX9_makeTwin_43 rfl (lv_at hl 0 rfl) ?_
          refine lv_iload hx hb dX9_makeTwin_44 (lv_at hl 4 rfl) ?_
          refine lv_bipush (v := 10) hx hb dX9_makeTwin_46 (by decide) ?_
          refine lv_iload_n hx hb dX9_makeTwin_48 rfl (lv_at hl 2 rfl) ?_
          obtain ⟨p10, h11, hM⟩ := b_some hM
          refine q_cvv (As := [.int x4, .int 10, .int x2]) (rest := []) E hw hl (c_X9_setTicket l D cA tS A h F x4 10 x2 σ wd p10 h11) 3 (bwV bw_c tb_1273 tb_1275 tb_59 tb_111 tb_1276) rfl (by decide +kernel) ⟨Nat.le_of_ble_eq_true rfl, Nat.le_of_ble_eq_true rfl⟩ 0 9 (T := TX9) (N := 17) rfl rfl rfl rfl (Nat.le_of_ble_eq_true rfl) ⟨Nat.zero_le _, Nat.zero_le _⟩ dX9_makeTwin_49 (fun H locs hw => ?_)
          exact s_X9_makeTwin_52 l D cA tS A h F N (fun x1 x2 x3 x4 σ wd => f_X9_makeTwin_13 N n x1 x2 x3 x4 σ wd) E ih _ _ _ _ _ _ _ _ hM _ _ hw _ (lv_sub hl [0, 1, 2, 3, 4] rfl)
set_option maxRecDepth 100000 in
set_option maxHeartbeats 4000000 in
theorem c_X9_makeTwin (l : Launch) (D : va_G) (cA : Nat → ClassId) (tS : Nat → Nat) (A : Nat → Prop) (h : Nat → Nat) (F : va_W) (N : Nat) (x1 : Int32) (x2 : Int32) (σ : Sg) (wd : Int64) (r0 : Int32) (s0 : Sg) (hM : f_X9_makeTwin N x1 x2 σ wd = some (r0, s0)) : Ct l yX9_makeTwin (Cond.code yX9_makeTwin cX9_makeTwin 5 (some .int) :: bw) 1 25 D cA tS A [.ref (h 0), .int x1, .int x2] (wM cA h σ wd ++ F) (some (.int r0)) (wM cA h s0 wd ++ F) := by
  refine ct_of (by decide +kernel) (Nat.le_of_ble_eq_true rfl) ?_
  intro p e s m below meth c E hw ls hl
  replace E : Ev p cX9_makeTwin 5 (some .int) RX9 (Cond.code yX9_makeTwin cX9_makeTwin 5 (some .int) :: bw) D cA tS A s m _ meth c := E
  replace hl : lv_has ls 5 [(0, .ref (h 0)), (1, .int x1), (2, .int x2)] := hl
  have hx := E.1.1
  have hb := E.1.2.1
  unfold f_X9_makeTwin at hM
  refine lv_aload_n hx hb dX9_makeTwin_0 rfl (lv_at hl 0 rfl) ?_
  refine lv_iload_n hx hb dX9_makeTwin_1 rfl (lv_at hl 1 rfl) ?_
  refine lv_bipush (v := 9) hx hb dX9_makeTwin_2 (by decide) ?_
  refine lv_iconst (v := 4) hx hb dX9_makeTwin_4 (by decide) ?_
  obtain ⟨p1, h2, hM⟩ := b_some hM
  refine q_cvv (As := [.int x1, .int 9, .int 4]) (rest := []) E hw hl (c_X9_setTicket l D cA tS A h F x1 9 4 σ wd p1 h2) 3 (bwV bw_c tb_1273 tb_1275 tb_59 tb_111 tb_1276) rfl (by decide +kernel) ⟨Nat.le_of_ble_eq_true rfl, Nat.le_of_ble_eq_true rfl⟩ 0 9 (T := TX9) (N := 17) rfl rfl rfl rfl (Nat.le_of_ble_eq_true rfl) ⟨Nat.zero_le _, Nat.zero_le _⟩ dX9_makeTwin_5 (fun H locs hw => ?_)
  refine lv_iconst (v := 0) hx hb dX9_makeTwin_8 (by decide) ?_
  refine lv_istore_n (lv' := [(3, .int 0), (0, .ref (h 0)), (1, .int x1), (2, .int x2)]) hx hb dX9_makeTwin_9 rfl hl (by decide) rfl (fun ls hl => ?_)
  refine lv_iconst (v := 0) hx hb dX9_makeTwin_10 (by decide) ?_
  refine lv_istore (lv' := [(4, .int 0), (3, .int 0), (0, .ref (h 0)), (1, .int x1), (2, .int x2)]) hx hb dX9_makeTwin_11 hl (by decide) rfl (fun ls hl => ?_)
  exact s_X9_makeTwin_13 l D cA tS A h F N E N _ _ _ _ _ _ _ _ hM _ _ hw _ (lv_sub hl [2, 3, 4, 1, 0] rfl)
set_option maxRecDepth 100000 in
set_option maxHeartbeats 4000000 in
theorem c_X9_makeOwn (l : Launch) (D : va_G) (cA : Nat → ClassId) (tS : Nat → Nat) (A : Nat → Prop) (h : Nat → Nat) (F : va_W) (x1 : Int32) (σ : Sg) (wd : Int64) (r0 : Int32) (s0 : Sg) (hM : f_X9_makeOwn x1 σ wd = some (r0, s0)) : Ct l yX9_makeOwn (Cond.code yX9_makeOwn cX9_makeOwn 3 (some .int) :: bw) 1 25 D cA tS A [.ref (h 0), .int x1] (wM cA h σ wd ++ F) (some (.int r0)) (wM cA h s0 wd ++ F) := by
  refine ct_of (by decide +kernel) (Nat.le_of_ble_eq_true rfl) ?_
  intro p e s m below meth c E hw ls hl
  replace E : Ev p cX9_makeOwn 3 (some .int) RX9 (Cond.code yX9_makeOwn cX9_makeOwn 3 (some .int) :: bw) D cA tS A s m _ meth c := E
  replace hl : lv_has ls 3 [(0, .ref (h 0)), (1, .int x1)] := hl
  have hx := E.1.1
  have hb := E.1.2.1
  unfold f_X9_makeOwn at hM
  refine lv_aload_n hx hb dX9_makeOwn_0 rfl (lv_at hl 0 rfl) ?_
  refine lv_iload_n hx hb dX9_makeOwn_1 rfl (lv_at hl 1 rfl) ?_
  refine lv_bipush (v := 10) hx hb dX9_makeOwn_2 (by decide) ?_
  obtain ⟨p1, h2, hM⟩ := b_some hM
  refine q_cv (As := [.int x1, .int 10]) (rest := []) E hw hl (c_X9_ticket l D cA tS A h F x1 10 σ wd p1 h2) 2 (bwV bw_c tb_1241 tb_1243 tb_51 tb_111 tb_1244) rfl (by decide +kernel) ⟨Nat.le_of_ble_eq_true rfl, Nat.le_of_ble_eq_true rfl⟩ 0 9 (T := TX9) (N := 17) rfl rfl rfl rfl (Nat.le_of_ble_eq_true rfl) ⟨Nat.zero_le _, Nat.zero_le _⟩ dX9_makeOwn_4 (fun H locs hw => ?_)
  refine lv_istore_n (lv' := [(2, .int p1), (0, .ref (h 0)), (1, .int x1)]) hx hb dX9_makeOwn_7 rfl hl (by decide) rfl (fun ls hl => ?_)
  refine lv_aload_n hx hb dX9_makeOwn_8 rfl (lv_at hl 1 rfl) ?_
  refine lv_iload_n hx hb dX9_makeOwn_9 rfl (lv_at hl 2 rfl) ?_
  refine lv_bipush (v := 10) hx hb dX9_makeOwn_10 (by decide) ?_
  refine lv_iconst (v := (-1)) hx hb dX9_makeOwn_12 (by decide) ?_
  obtain ⟨p3, h4, hM⟩ := b_some hM
  refine q_cvv (As := [.int x1, .int 10, .int (-1)]) (rest := []) E hw hl (c_X9_setTicket l D cA tS A h F x1 10 (-1) σ wd p3 h4) 3 (bwV bw_c tb_1273 tb_1275 tb_59 tb_111 tb_1276) rfl (by decide +kernel) ⟨Nat.le_of_ble_eq_true rfl, Nat.le_of_ble_eq_true rfl⟩ 0 9 (T := TX9) (N := 17) rfl rfl rfl rfl (Nat.le_of_ble_eq_true rfl) ⟨Nat.zero_le _, Nat.zero_le _⟩ dX9_makeOwn_13 (fun H locs hw => ?_)
  refine lv_aload_n hx hb dX9_makeOwn_16 rfl (lv_at hl 1 rfl) ?_
  refine lv_iload_n hx hb dX9_makeOwn_17 rfl (lv_at hl 2 rfl) ?_
  refine lv_bipush (v := 9) hx hb dX9_makeOwn_18 (by decide) ?_
  refine lv_iconst (v := 0) hx hb dX9_makeOwn_20 (by decide) ?_
  obtain ⟨p5, h6, hM⟩ := b_some hM
  refine q_cvv (As := [.int x1, .int 9, .int 0]) (rest := []) E hw hl (c_X9_setTicket l D cA tS A h F x1 9 0 p3 wd p5 h6) 3 (bwV bw_c tb_1273 tb_1275 tb_59 tb_111 tb_1276) rfl (by decide +kernel) ⟨Nat.le_of_ble_eq_true rfl, Nat.le_of_ble_eq_true rfl⟩ 0 9 (T := TX9) (N := 17) rfl rfl rfl rfl (Nat.le_of_ble_eq_true rfl) ⟨Nat.zero_le _, Nat.zero_le _⟩ dX9_makeOwn_21 (fun H locs hw => ?_)
  refine lv_aload_n hx hb dX9_makeOwn_24 rfl (lv_at hl 1 rfl) ?_
  refine lv_aload_n hx hb dX9_makeOwn_25 rfl (lv_at hl 1 rfl) ?_
  refine q_get (C := RX9) (T := TX9) (N := 17) (ci := 9) E (fun w h => List.mem_cons_of_mem _ (inX9 w h)) hw 0 rfl rfl 0 (by decide) (List.mem_cons_of_mem _ tb_1145) (v := .ref (h 1)) rfl dX9_makeOwn_26 ?_
  refine lv_iconst (v := 0) hx hb dX9_makeOwn_29 (by decide) ?_
  refine q_ald E hw 1 (n := 4619) rfl (by decide +kernel) (x := (p5 1 (ix 0))) rfl dX9_makeOwn_30 ?_
  refine lv_bipush (v := 7) hx hb dX9_makeOwn_31 (by decide) ?_
  refine lv_iload_n hx hb dX9_makeOwn_33 rfl (lv_at hl 2 rfl) ?_
  refine lv_iload_n hx hb dX9_makeOwn_34 rfl (lv_at hl 0 rfl) ?_
  obtain ⟨p7, h8, hM⟩ := b_some hM
  refine q_cvv (As := [.int (p5 1 (ix 0)), .int 7, .int x1, .int p1]) (rest := []) E hw hl (c_X9_log l D cA tS A h F (p5 1 (ix 0)) 7 x1 p1 p5 wd p7 h8) 4 (bwV bw_c tb_1281 tb_1283 tb_61 tb_111 tb_1284) rfl (by decide +kernel) ⟨Nat.le_of_ble_eq_true rfl, Nat.le_of_ble_eq_true rfl⟩ 0 9 (T := TX9) (N := 17) rfl rfl rfl rfl (Nat.le_of_ble_eq_true rfl) ⟨Nat.zero_le _, Nat.zero_le _⟩ dX9_makeOwn_35 (fun H locs hw => ?_)
  refine lv_iload_n hx hb dX9_makeOwn_38 rfl (lv_at hl 0 rfl) ?_
  cases hM
  exact q_reti E hw dX9_makeOwn_39
set_option maxRecDepth 100000 in
set_option maxHeartbeats 4000000 in
theorem c_X9_make (l : Launch) (D : va_G) (cA : Nat → ClassId) (tS : Nat → Nat) (A : Nat → Prop) (h : Nat → Nat) (F : va_W) (N : Nat) (x1 : Int32) (x2 : Int32) (x3 : Int32) (x4 : Int32) (x5 : Int32) (σ : Sg) (wd : Int64) (r0 : Int32) (s0 : Sg) (hM : f_X9_make N x1 x2 x3 x4 x5 σ wd = some (r0, s0)) : Ct l yX9_make (Cond.code yX9_make cX9_make 7 (some .int) :: bw) 5 113 D cA tS A [.ref (h 0), .int x1, .int x2, .int x3, .int x4, .int x5] (wM cA h σ wd ++ F) (some (.int r0)) (wM cA h s0 wd ++ F) := by
  refine ct_of (by decide +kernel) (Nat.le_of_ble_eq_true rfl) ?_
  intro p e s m below meth c E hw ls hl
  replace E : Ev p cX9_make 7 (some .int) RX9 (Cond.code yX9_make cX9_make 7 (some .int) :: bw) D cA tS A s m _ meth c := E
  replace hl : lv_has ls 7 [(0, .ref (h 0)), (1, .int x1), (2, .int x2), (3, .int x3), (4, .int x4), (5, .int x5)] := hl
  have hx := E.1.1
  have hb := E.1.2.1
  unfold f_X9_make at hM
  refine lv_iload_n hx hb dX9_make_0 rfl (lv_at hl 1 rfl) ?_
  by_cases c35 : x1 = 0
  · replace hM := i_pos hM c35
    refine lv_tableIn (tgt := 56) hx hb dX9_make_1 (by rw [c35]; decide) (by rw [c35]; decide) (off := 55) (by rw [c35]; decide) (by decide) ?_
    refine lv_aload_n hx hb dX9_make_56 rfl (lv_at hl 0 rfl) ?_
    refine q_get (C := RX9) (T := TX9) (N := 17) (ci := 9) E (fun w h => List.mem_cons_of_mem _ (inX9 w h)) hw 0 rfl rfl 0 (by decide) (List.mem_cons_of_mem _ tb_1145) (v := .ref (h 1)) rfl dX9_make_57 ?_
    refine lv_iconst (v := 1) hx hb dX9_make_60 (by decide) ?_
    refine lv_iload_n hx hb dX9_make_61 rfl (lv_at hl 2 rfl) ?_
    refine lv_iadd hx hb dX9_make_62 ?_
    refine lv_iload_n hx hb dX9_make_63 rfl (lv_at hl 3 rfl) ?_
    obtain ⟨g5, hM⟩ := g_some hM
    refine q_ast E hw 1 (n := 4619) rfl g5 (wM cA h (up σ 1 (ix (1 + x2)) x3) wd ++ F) st_M_1 dX9_make_64 (fun H locs hw => ?_)
    refine lv_aload_n hx hb dX9_make_65 rfl (lv_at hl 0 rfl) ?_
    refine q_get (C := RX9) (T := TX9) (N := 17) (ci := 9) E (fun w h => List.mem_cons_of_mem _ (inX9 w h)) hw 0 rfl rfl 0 (by decide) (List.mem_cons_of_mem _ tb_1145) (v := .ref (h 1)) rfl dX9_make_66 ?_
    refine lv_bipush (v := 8) hx hb dX9_make_69 (by decide) ?_
    refine lv_iload_n hx hb dX9_make_71 rfl (lv_at hl 2 rfl) ?_
    refine lv_iadd hx hb dX9_make_72 ?_
    refine lv_iload hx hb dX9_make_73 (lv_at hl 4 rfl) ?_
    obtain ⟨g6, hM⟩ := g_some hM
    refine q_ast E hw 1 (n := 4619) rfl g6 (wM cA h (up (up σ 1 (ix (1 + x2)) x3) 1 (ix (8 + x2)) x4) wd ++ F) st_M_1 dX9_make_75 (fun H locs hw => ?_)
    refine lv_iconst (v := 0) hx hb dX9_make_76 (by decide) ?_
    cases hM
    exact q_reti E hw dX9_make_77
  replace hM := i_neg hM c35
  by_cases c36 : x1 = 1
  · replace hM := i_pos hM c36
    refine lv_tableIn (tgt := 78) hx hb dX9_make_1 (by rw [c36]; decide) (by rw [c36]; decide) (off := 77) (by rw [c36]; decide) (by decide) ?_
    refine lv_aload_n hx hb dX9_make_78 rfl (lv_at hl 0 rfl) ?_
    refine lv_iload_n hx hb dX9_make_79 rfl (lv_at hl 2 rfl) ?_
    refine lv_iload_n hx hb dX9_make_80 rfl (lv_at hl 3 rfl) ?_
    obtain ⟨p7, h8, hM⟩ := b_some hM
    refine q_cv (As := [.int x2, .int x3]) (rest := []) E hw hl (c_X9_makeAgents l D cA tS A h F N x2 x3 σ wd p7.1 p7.2 h8) 2 (bwV bw_c tb_1261 tb_1263 tb_56 tb_111 tb_1264) rfl (by decide +kernel) ⟨Nat.le_of_ble_eq_true rfl, Nat.le_of_ble_eq_true rfl⟩ 0 9 (T := TX9) (N := 17) rfl rfl rfl rfl (Nat.le_of_ble_eq_true rfl) ⟨Nat.zero_le _, Nat.zero_le _⟩ dX9_make_81 (fun H locs hw => ?_)
    cases hM
    exact q_reti E hw dX9_make_84
  replace hM := i_neg hM c36
  by_cases c37 : x1 = 2
  · replace hM := i_pos hM c37
    refine lv_tableIn (tgt := 85) hx hb dX9_make_1 (by rw [c37]; decide) (by rw [c37]; decide) (off := 84) (by rw [c37]; decide) (by decide) ?_
    refine lv_aload_n hx hb dX9_make_85 rfl (lv_at hl 0 rfl) ?_
    refine lv_iload_n hx hb dX9_make_86 rfl (lv_at hl 2 rfl) ?_
    refine lv_iload_n hx hb dX9_make_87 rfl (lv_at hl 3 rfl) ?_
    refine lv_iload hx hb dX9_make_88 (lv_at hl 4 rfl) ?_
    refine lv_iload hx hb dX9_make_90 (lv_at hl 5 rfl) ?_
    obtain ⟨p9, h10, hM⟩ := b_some hM
    refine q_cv (As := [.int x2, .int x3, .int x4, .int x5]) (rest := []) E hw hl (c_X9_makeTicket l D cA tS A h F N x2 x3 x4 x5 σ wd p9.1 p9.2 h10) 4 (bwV bw_c tb_1277 tb_1279 tb_60 tb_111 tb_1280) rfl (by decide +kernel) ⟨Nat.le_of_ble_eq_true rfl, Nat.le_of_ble_eq_true rfl⟩ 0 9 (T := TX9) (N := 17) rfl rfl rfl rfl (Nat.le_of_ble_eq_true rfl) ⟨Nat.zero_le _, Nat.zero_le _⟩ dX9_make_92 (fun H locs hw => ?_)
    cases hM
    exact q_reti E hw dX9_make_95
  replace hM := i_neg hM c37
  by_cases c38 : x1 = 3
  · replace hM := i_pos hM c38
    refine lv_tableIn (tgt := 96) hx hb dX9_make_1 (by rw [c38]; decide) (by rw [c38]; decide) (off := 95) (by rw [c38]; decide) (by decide) ?_
    refine lv_aload_n hx hb dX9_make_96 rfl (lv_at hl 0 rfl) ?_
    refine lv_iload_n hx hb dX9_make_97 rfl (lv_at hl 2 rfl) ?_
    refine lv_bipush (v := 9) hx hb dX9_make_98 (by decide) ?_
    refine lv_iconst (v := 2) hx hb dX9_make_100 (by decide) ?_
    obtain ⟨p11, h12, hM⟩ := b_some hM
    refine q_cvv (As := [.int x2, .int 9, .int 2]) (rest := []) E hw hl (c_X9_setTicket l D cA tS A h F x2 9 2 σ wd p11 h12) 3 (bwV bw_c tb_1273 tb_1275 tb_59 tb_111 tb_1276) rfl (by decide +kernel) ⟨Nat.le_of_ble_eq_true rfl, Nat.le_of_ble_eq_true rfl⟩ 0 9 (T := TX9) (N := 17) rfl rfl rfl rfl (Nat.le_of_ble_eq_true rfl) ⟨Nat.zero_le _, Nat.zero_le _⟩ dX9_make_101 (fun H locs hw => ?_)
    refine lv_aload_n hx hb dX9_make_104 rfl (lv_at hl 0 rfl) ?_
    refine lv_aload_n hx hb dX9_make_105 rfl (lv_at hl 0 rfl) ?_
    refine q_get (C := RX9) (T := TX9) (N := 17) (ci := 9) E (fun w h => List.mem_cons_of_mem _ (inX9 w h)) hw 0 rfl rfl 0 (by decide) (List.mem_cons_of_mem _ tb_1145) (v := .ref (h 1)) rfl dX9_make_106 ?_
    refine lv_iconst (v := 0) hx hb dX9_make_109 (by decide) ?_
    refine q_ald E hw 1 (n := 4619) rfl (by decide +kernel) (x := (p11 1 (ix 0))) rfl dX9_make_110 ?_
    refine lv_iconst (v := 2) hx hb dX9_make_111 (by decide) ?_
    refine lv_iload_n hx hb dX9_make_112 rfl (lv_at hl 2 rfl) ?_
    refine lv_iconst (v := 0) hx hb dX9_make_113 (by decide) ?_
    obtain ⟨p13, h14, hM⟩ := b_some hM
    refine q_cvv (As := [.int (p11 1 (ix 0)), .int 2, .int x2, .int 0]) (rest := []) E hw hl (c_X9_log l D cA tS A h F (p11 1 (ix 0)) 2 x2 0 p11 wd p13 h14) 4 (bwV bw_c tb_1281 tb_1283 tb_61 tb_111 tb_1284) rfl (by decide +kernel) ⟨Nat.le_of_ble_eq_true rfl, Nat.le_of_ble_eq_true rfl⟩ 0 9 (T := TX9) (N := 17) rfl rfl rfl rfl (Nat.le_of_ble_eq_true rfl) ⟨Nat.zero_le _, Nat.zero_le _⟩ dX9_make_114 (fun H locs hw => ?_)
    refine lv_aload_n hx hb dX9_make_117 rfl (lv_at hl 0 rfl) ?_
    refine lv_iload_n hx hb dX9_make_118 rfl (lv_at hl 2 rfl) ?_
    refine lv_bipush (v := 8) hx hb dX9_make_119 (by decide) ?_
    obtain ⟨p15, h16, hM⟩ := b_some hM
    refine q_cv (As := [.int x2, .int 8]) (rest := []) E hw hl (c_X9_ticket l D cA tS A h F x2 8 p13 wd p15 h16) 2 (bwV bw_c tb_1241 tb_1243 tb_51 tb_111 tb_1244) rfl (by decide +kernel) ⟨Nat.le_of_ble_eq_true rfl, Nat.le_of_ble_eq_true rfl⟩ 0 9 (T := TX9) (N := 17) rfl rfl rfl rfl (Nat.le_of_ble_eq_true rfl) ⟨Nat.zero_le _, Nat.zero_le _⟩ dX9_make_121 (fun H locs hw => ?_)
    cases hM
    exact q_reti E hw dX9_make_124
  replace hM := i_neg hM c38
  by_cases c39 : x1 = 4
  · replace hM := i_pos hM c39
    refine lv_tableIn (tgt := 125) hx hb dX9_make_1 (by rw [c39]; decide) (by rw [c39]; decide) (off := 124) (by rw [c39]; decide) (by decide) ?_
    refine lv_aload_n hx hb dX9_make_125 rfl (lv_at hl 0 rfl) ?_
    refine lv_iload_n hx hb dX9_make_126 rfl (lv_at hl 2 rfl) ?_
    refine lv_bipush (v := 9) hx hb dX9_make_127 (by decide) ?_
    refine lv_iconst (v := 0) hx hb dX9_make_129 (by decide) ?_
    obtain ⟨p17, h18, hM⟩ := b_some hM
    refine q_cvv (As := [.int x2, .int 9, .int 0]) (rest := []) E hw hl (c_X9_setTicket l D cA tS A h F x2 9 0 σ wd p17 h18) 3 (bwV bw_c tb_1273 tb_1275 tb_59 tb_111 tb_1276) rfl (by decide +kernel) ⟨Nat.le_of_ble_eq_true rfl, Nat.le_of_ble_eq_true rfl⟩ 0 9 (T := TX9) (N := 17) rfl rfl rfl rfl (Nat.le_of_ble_eq_true rfl) ⟨Nat.zero_le _, Nat.zero_le _⟩ dX9_make_130 (fun H locs hw => ?_)
    refine lv_aload_n hx hb dX9_make_133 rfl (lv_at hl 0 rfl) ?_
    refine lv_aload_n hx hb dX9_make_134 rfl (lv_at hl 0 rfl) ?_
    refine q_get (C := RX9) (T := TX9) (N := 17) (ci := 9) E (fun w h => List.mem_cons_of_mem _ (inX9 w h)) hw 0 rfl rfl 0 (by decide) (List.mem_cons_of_mem _ tb_1145) (v := .ref (h 1)) rfl dX9_make_135 ?_
    refine lv_iconst (v := 0) hx hb dX9_make_138 (by decide) ?_
    refine q_ald E hw 1 (n := 4619) rfl (by decide +kernel) (x := (p17 1 (ix 0))) rfl dX9_make_139 ?_
    refine lv_iconst (v := 3) hx hb dX9_make_140 (by decide) ?_
    refine lv_iload_n hx hb dX9_make_141 rfl (lv_at hl 2 rfl) ?_
    refine lv_iconst (v := 0) hx hb dX9_make_142 (by decide) ?_
    obtain ⟨p19, h20, hM⟩ := b_some hM
    refine q_cvv (As := [.int (p17 1 (ix 0)), .int 3, .int x2, .int 0]) (rest := []) E hw hl (c_X9_log l D cA tS A h F (p17 1 (ix 0)) 3 x2 0 p17 wd p19 h20) 4 (bwV bw_c tb_1281 tb_1283 tb_61 tb_111 tb_1284) rfl (by decide +kernel) ⟨Nat.le_of_ble_eq_true rfl, Nat.le_of_ble_eq_true rfl⟩ 0 9 (T := TX9) (N := 17) rfl rfl rfl rfl (Nat.le_of_ble_eq_true rfl) ⟨Nat.zero_le _, Nat.zero_le _⟩ dX9_make_143 (fun H locs hw => ?_)
    refine lv_aload_n hx hb dX9_make_146 rfl (lv_at hl 0 rfl) ?_
    refine lv_iload_n hx hb dX9_make_147 rfl (lv_at hl 2 rfl) ?_
    refine lv_bipush (v := 8) hx hb dX9_make_148 (by decide) ?_
    obtain ⟨p21, h22, hM⟩ := b_some hM
    refine q_cv (As := [.int x2, .int 8]) (rest := []) E hw hl (c_X9_ticket l D cA tS A h F x2 8 p19 wd p21 h22) 2 (bwV bw_c tb_1241 tb_1243 tb_51 tb_111 tb_1244) rfl (by decide +kernel) ⟨Nat.le_of_ble_eq_true rfl, Nat.le_of_ble_eq_true rfl⟩ 0 9 (T := TX9) (N := 17) rfl rfl rfl rfl (Nat.le_of_ble_eq_true rfl) ⟨Nat.zero_le _, Nat.zero_le _⟩ dX9_make_150 (fun H locs hw => ?_)
    cases hM
    exact q_reti E hw dX9_make_153
  replace hM := i_neg hM c39
  by_cases c40 : x1 = 5
  · replace hM := i_pos hM c40
    refine lv_tableIn (tgt := 154) hx hb dX9_make_1 (by rw [c40]; decide) (by rw [c40]; decide) (off := 153) (by rw [c40]; decide) (by decide) ?_
    refine lv_aload_n hx hb dX9_make_154 rfl (lv_at hl 0 rfl) ?_
    refine lv_iload_n hx hb dX9_make_155 rfl (lv_at hl 2 rfl) ?_
    refine lv_aload_n hx hb dX9_make_156 rfl (lv_at hl 0 rfl) ?_
    refine q_get (C := RX9) (T := TX9) (N := 17) (ci := 9) E (fun w h => List.mem_cons_of_mem _ (inX9 w h)) hw 0 rfl rfl 0 (by decide) (List.mem_cons_of_mem _ tb_1145) (v := .ref (h 1)) rfl dX9_make_157 ?_
    refine lv_iconst (v := 0) hx hb dX9_make_160 (by decide) ?_
    refine q_ald E hw 1 (n := 4619) rfl (by decide +kernel) (x := (σ 1 (ix 0))) rfl dX9_make_161 ?_
    obtain ⟨p23, h24, hM⟩ := b_some hM
    refine q_cvv (As := [.int x2, .int (σ 1 (ix 0))]) (rest := []) E hw hl (c_X9_letClimb l D cA tS A h F x2 (σ 1 (ix 0)) σ wd p23 h24) 2 (bwV bw_c tb_1285 tb_1287 tb_62 tb_111 tb_1288) rfl (by decide +kernel) ⟨Nat.le_of_ble_eq_true rfl, Nat.le_of_ble_eq_true rfl⟩ 0 9 (T := TX9) (N := 17) rfl rfl rfl rfl (Nat.le_of_ble_eq_true rfl) ⟨Nat.zero_le _, Nat.zero_le _⟩ dX9_make_162 (fun H locs hw => ?_)
    refine lv_aload_n hx hb dX9_make_165 rfl (lv_at hl 0 rfl) ?_
    refine lv_iload_n hx hb dX9_make_166 rfl (lv_at hl 2 rfl) ?_
    refine lv_iconst (v := 4) hx hb dX9_make_167 (by decide) ?_
    obtain ⟨p25, h26, hM⟩ := b_some hM
    refine q_cv (As := [.int x2, .int 4]) (rest := []) E hw hl (c_X9_ticket l D cA tS A h F x2 4 p23 wd p25 h26) 2 (bwV bw_c tb_1241 tb_1243 tb_51 tb_111 tb_1244) rfl (by decide +kernel) ⟨Nat.le_of_ble_eq_true rfl, Nat.le_of_ble_eq_true rfl⟩ 0 9 (T := TX9) (N := 17) rfl rfl rfl rfl (Nat.le_of_ble_eq_true rfl) ⟨Nat.zero_le _, Nat.zero_le _⟩ dX9_make_168 (fun H locs hw => ?_)
    cases hM
    exact q_reti E hw dX9_make_171
  replace hM := i_neg hM c40
  by_cases c41 : x1 = 6
  · replace hM := i_pos hM c41
    refine lv_tableIn (tgt := 172) hx hb dX9_make_1 (by rw [c41]; decide) (by rw [c41]; decide) (off := 171) (by rw [c41]; decide) (by decide) ?_
    refine lv_aload_n hx hb dX9_make_172 rfl (lv_at hl 0 rfl) ?_
    refine lv_iload_n hx hb dX9_make_173 rfl (lv_at hl 2 rfl) ?_
    refine lv_aload_n hx hb dX9_make_174 rfl (lv_at hl 0 rfl) ?_
    refine q_get (C := RX9) (T := TX9) (N := 17) (ci := 9) E (fun w h => List.mem_cons_of_mem _ (inX9 w h)) hw 0 rfl rfl 0 (by decide) (List.mem_cons_of_mem _ tb_1145) (v := .ref (h 1)) rfl dX9_make_175 ?_
    refine lv_iconst (v := 0) hx hb dX9_make_178 (by decide) ?_
    refine q_ald E hw 1 (n := 4619) rfl (by decide +kernel) (x := (σ 1 (ix 0))) rfl dX9_make_179 ?_
    obtain ⟨p27, h28, hM⟩ := b_some hM
    refine q_cv (As := [.int x2, .int (σ 1 (ix 0))]) (rest := []) E hw hl (c_X9_makeSolved l D cA tS A h F N x2 (σ 1 (ix 0)) σ wd p27.1 p27.2 h28) 2 (bwV bw_c tb_1289 tb_1291 tb_63 tb_111 tb_1292) rfl (by decide +kernel) ⟨Nat.le_of_ble_eq_true rfl, Nat.le_of_ble_eq_true rfl⟩ 0 9 (T := TX9) (N := 17) rfl rfl rfl rfl (Nat.le_of_ble_eq_true rfl) ⟨Nat.zero_le _, Nat.zero_le _⟩ dX9_make_180 (fun H locs hw => ?_)
    cases hM
    exact q_reti E hw dX9_make_183
  replace hM := i_neg hM c41
  by_cases c42 : x1 = 7
  · replace hM := i_pos hM c42
    refine lv_tableIn (tgt := 184) hx hb dX9_make_1 (by rw [c42]; decide) (by rw [c42]; decide) (off := 183) (by rw [c42]; decide) (by decide) ?_
    refine lv_aload_n hx hb dX9_make_184 rfl (lv_at hl 0 rfl) ?_
    refine lv_iload_n hx hb dX9_make_185 rfl (lv_at hl 2 rfl) ?_
    obtain ⟨p29, h30, hM⟩ := b_some hM
    refine q_cv (As := [.int x2]) (rest := []) E hw hl (c_X9_makeOpen l D cA tS A h F N x2 σ wd p29.1 p29.2 h30) 1 (bwV bw_c tb_1297 tb_1299 tb_65 tb_111 tb_1300) rfl (by decide +kernel) ⟨Nat.le_of_ble_eq_true rfl, Nat.le_of_ble_eq_true rfl⟩ 0 9 (T := TX9) (N := 17) rfl rfl rfl rfl (Nat.le_of_ble_eq_true rfl) ⟨Nat.zero_le _, Nat.zero_le _⟩ dX9_make_186 (fun H locs hw => ?_)
    cases hM
    exact q_reti E hw dX9_make_189
  replace hM := i_neg hM c42
  by_cases c43 : x1 = 8
  · replace hM := i_pos hM c43
    refine lv_tableIn (tgt := 190) hx hb dX9_make_1 (by rw [c43]; decide) (by rw [c43]; decide) (off := 189) (by rw [c43]; decide) (by decide) ?_
    refine lv_aload_n hx hb dX9_make_190 rfl (lv_at hl 0 rfl) ?_
    refine lv_iload_n hx hb dX9_make_191 rfl (lv_at hl 2 rfl) ?_
    refine lv_iload_n hx hb dX9_make_192 rfl (lv_at hl 3 rfl) ?_
    obtain ⟨p31, h32, hM⟩ := b_some hM
    refine q_cv (As := [.int x2, .int x3]) (rest := []) E hw hl (c_X9_makeTwin l D cA tS A h F N x2 x3 σ wd p31.1 p31.2 h32) 2 (bwV bw_c tb_1301 tb_1303 tb_66 tb_111 tb_1304) rfl (by decide +kernel) ⟨Nat.le_of_ble_eq_true rfl, Nat.le_of_ble_eq_true rfl⟩ 0 9 (T := TX9) (N := 17) rfl rfl rfl rfl (Nat.le_of_ble_eq_true rfl) ⟨Nat.zero_le _, Nat.zero_le _⟩ dX9_make_193 (fun H locs hw => ?_)
    cases hM
    exact q_reti E hw dX9_make_196
  replace hM := i_neg hM c43
  by_cases c44 : x1 = 9
  · replace hM := i_pos hM c44
    refine lv_tableIn (tgt := 197) hx hb dX9_make_1 (by rw [c44]; decide) (by rw [c44]; decide) (off := 196) (by rw [c44]; decide) (by decide) ?_
    refine lv_aload_n hx hb dX9_make_197 rfl (lv_at hl 0 rfl) ?_
    refine lv_iload_n hx hb dX9_make_198 rfl (lv_at hl 2 rfl) ?_
    obtain ⟨p33, h34, hM⟩ := b_some hM
    refine q_cv (As := [.int x2]) (rest := []) E hw hl (c_X9_makeOwn l D cA tS A h F x2 σ wd p33.1 p33.2 h34) 1 (bwV bw_c tb_1305 tb_1307 tb_67 tb_111 tb_1308) rfl (by decide +kernel) ⟨Nat.le_of_ble_eq_true rfl, Nat.le_of_ble_eq_true rfl⟩ 0 9 (T := TX9) (N := 17) rfl rfl rfl rfl (Nat.le_of_ble_eq_true rfl) ⟨Nat.zero_le _, Nat.zero_le _⟩ dX9_make_199 (fun H locs hw => ?_)
    cases hM
    exact q_reti E hw dX9_make_202
  replace hM := i_neg hM c44
  refine q_tableD (tgt := 203) hx hb dX9_make_1 (fun hq => ?_) (by decide) ?_
  · have hz : (x1).toInt = 0 ∨ (x1).toInt = 1 ∨ (x1).toInt = 2 ∨ (x1).toInt = 3 ∨ (x1).toInt = 4 ∨ (x1).toInt = 5 ∨ (x1).toInt = 6 ∨ (x1).toInt = 7 ∨ (x1).toInt = 8 ∨ (x1).toInt = 9 := by omega
    rcases hz with hz | hz | hz | hz | hz | hz | hz | hz | hz | hz
    · exact absurd (Int32.toInt_inj.mp (hz.trans (by decide))) c35
    · exact absurd (Int32.toInt_inj.mp (hz.trans (by decide))) c36
    · exact absurd (Int32.toInt_inj.mp (hz.trans (by decide))) c37
    · exact absurd (Int32.toInt_inj.mp (hz.trans (by decide))) c38
    · exact absurd (Int32.toInt_inj.mp (hz.trans (by decide))) c39
    · exact absurd (Int32.toInt_inj.mp (hz.trans (by decide))) c40
    · exact absurd (Int32.toInt_inj.mp (hz.trans (by decide))) c41
    · exact absurd (Int32.toInt_inj.mp (hz.trans (by decide))) c42
    · exact absurd (Int32.toInt_inj.mp (hz.trans (by decide))) c43
    · exact absurd (Int32.toInt_inj.mp (hz.trans (by decide))) c44
  refine lv_aload_n hx hb dX9_make_203 rfl (lv_at hl 0 rfl) ?_
  refine lv_iload_n hx hb dX9_make_204 rfl (lv_at hl 2 rfl) ?_
  refine lv_iconst (v := 3) hx hb dX9_make_205 (by decide) ?_
  obtain ⟨p1, h2, hM⟩ := b_some hM
  refine q_cv (As := [.int x2, .int 3]) (rest := []) E hw hl (c_X9_ticket l D cA tS A h F x2 3 σ wd p1 h2) 2 (bwV bw_c tb_1241 tb_1243 tb_51 tb_111 tb_1244) rfl (by decide +kernel) ⟨Nat.le_of_ble_eq_true rfl, Nat.le_of_ble_eq_true rfl⟩ 0 9 (T := TX9) (N := 17) rfl rfl rfl rfl (Nat.le_of_ble_eq_true rfl) ⟨Nat.zero_le _, Nat.zero_le _⟩ dX9_make_206 (fun H locs hw => ?_)
  refine lv_istore (lv' := [(6, .int p1), (0, .ref (h 0)), (1, .int x1), (2, .int x2), (3, .int x3), (4, .int x4), (5, .int x5)]) hx hb dX9_make_209 hl (by decide) rfl (fun ls hl => ?_)
  refine lv_aload_n hx hb dX9_make_211 rfl (lv_at hl 1 rfl) ?_
  refine lv_iload_n hx hb dX9_make_212 rfl (lv_at hl 3 rfl) ?_
  refine lv_iconst (v := 3) hx hb dX9_make_213 (by decide) ?_
  refine lv_iload_n hx hb dX9_make_214 rfl (lv_at hl 4 rfl) ?_
  obtain ⟨p3, h4, hM⟩ := b_some hM
  refine q_cvv (As := [.int x2, .int 3, .int x3]) (rest := []) E hw hl (c_X9_setTicket l D cA tS A h F x2 3 x3 σ wd p3 h4) 3 (bwV bw_c tb_1273 tb_1275 tb_59 tb_111 tb_1276) rfl (by decide +kernel) ⟨Nat.le_of_ble_eq_true rfl, Nat.le_of_ble_eq_true rfl⟩ 0 9 (T := TX9) (N := 17) rfl rfl rfl rfl (Nat.le_of_ble_eq_true rfl) ⟨Nat.zero_le _, Nat.zero_le _⟩ dX9_make_215 (fun H locs hw => ?_)
  refine lv_iload hx hb dX9_make_218 (lv_at hl 0 rfl) ?_
  cases hM
  exact q_reti E hw dX9_make_220
set_option maxRecDepth 100000 in
set_option maxHeartbeats 4000000 in
theorem c_X9_change (l : Launch) (D : va_G) (cA : Nat → ClassId) (tS : Nat → Nat) (A : Nat → Prop) (h : Nat → Nat) (F : va_W) (N : Nat) (x1 : Int32) (x2 : Int32) (x3 : Int32) (x4 : Int32) (x5 : Int32) (σ : Sg) (wd : Int64) (r0 : Int32) (s0 : Sg) (hM : f_X9_change N x1 x2 x3 x4 x5 σ wd = some (r0, s0)) : Ct l yX9_change (Cond.code yX9_change cX9_change 8 (some .int) :: bw) 6 139 D cA tS A [.ref (h 0), .int x1, .int x2, .int x3, .int x4, .int x5] (wM cA h σ wd ++ F) (some (.int r0)) (wM cA h s0 wd ++ F) := by
  refine ct_of (by decide +kernel) (Nat.le_of_ble_eq_true rfl) ?_
  intro p e s m below meth c E hw ls hl
  replace E : Ev p cX9_change 8 (some .int) RX9 (Cond.code yX9_change cX9_change 8 (some .int) :: bw) D cA tS A s m _ meth c := E
  replace hl : lv_has ls 8 [(0, .ref (h 0)), (1, .int x1), (2, .int x2), (3, .int x3), (4, .int x4), (5, .int x5)] := hl
  have hx := E.1.1
  have hb := E.1.2.1
  unfold f_X9_change at hM
  refine lv_aload_n hx hb dX9_change_0 rfl (lv_at hl 0 rfl) ?_
  refine lv_iload_n hx hb dX9_change_1 rfl (lv_at hl 1 rfl) ?_
  refine lv_iload_n hx hb dX9_change_2 rfl (lv_at hl 2 rfl) ?_
  refine lv_iload_n hx hb dX9_change_3 rfl (lv_at hl 3 rfl) ?_
  refine lv_iload hx hb dX9_change_4 (lv_at hl 4 rfl) ?_
  refine lv_iload hx hb dX9_change_6 (lv_at hl 5 rfl) ?_
  obtain ⟨p1, h2, hM⟩ := b_some hM
  refine q_cv (As := [.int x1, .int x2, .int x3, .int x4, .int x5]) (rest := []) E hw hl (c_X9_errorOf l D cA tS A h F x1 x2 x3 x4 x5 σ wd p1 h2) 5 (bwV bw_c tb_1205 tb_1207 tb_45 tb_111 tb_1208) rfl (by decide +kernel) ⟨Nat.le_of_ble_eq_true rfl, Nat.le_of_ble_eq_true rfl⟩ 0 9 (T := TX9) (N := 17) rfl rfl rfl rfl (Nat.le_of_ble_eq_true rfl) ⟨Nat.zero_le _, Nat.zero_le _⟩ dX9_change_8 (fun H locs hw => ?_)
  refine lv_istore (lv' := [(6, .int p1), (0, .ref (h 0)), (1, .int x1), (2, .int x2), (3, .int x3), (4, .int x4), (5, .int x5)]) hx hb dX9_change_11 hl (by decide) rfl (fun ls hl => ?_)
  refine lv_iload hx hb dX9_change_13 (lv_at hl 0 rfl) ?_
  refine lv_if_eq (tgt := 21) hx hb dX9_change_15 (by decide) (fun c3 => ?_) (fun c3 => ?_)
  · replace hM := i_pos hM c3
    refine lv_aload_n hx hb dX9_change_21 rfl (lv_at hl 1 rfl) ?_
    refine q_get (C := RX9) (T := TX9) (N := 17) (ci := 9) E (fun w h => List.mem_cons_of_mem _ (inX9 w h)) hw 0 rfl rfl 0 (by decide) (List.mem_cons_of_mem _ tb_1145) (v := .ref (h 1)) rfl dX9_change_22 ?_
    refine lv_bipush (v := 57) hx hb dX9_change_25 (by decide) ?_
    refine q_ald E hw 1 (n := 4619) rfl (by decide +kernel) (x := (σ 1 (ix 57))) rfl dX9_change_27 ?_
    refine lv_sipush (v := 200) hx hb dX9_change_28 (by decide) ?_
    refine lv_icmp_ne (tgt := 37) hx hb dX9_change_31 (by decide) (fun c4 => ?_) (fun c4 => ?_)
    · replace hM := i_neg hM c4
      refine lv_sipush (v := 1019) hx hb dX9_change_37 (by decide) ?_
      refine lv_bipush (v := 6) hx hb dX9_change_40 (by decide) ?_
      refine lv_aload_n hx hb dX9_change_42 rfl (lv_at hl 1 rfl) ?_
      refine q_get (C := RX9) (T := TX9) (N := 17) (ci := 9) E (fun w h => List.mem_cons_of_mem _ (inX9 w h)) hw 0 rfl rfl 0 (by decide) (List.mem_cons_of_mem _ tb_1145) (v := .ref (h 1)) rfl dX9_change_43 ?_
      refine lv_bipush (v := 57) hx hb dX9_change_46 (by decide) ?_
      refine q_ald E hw 1 (n := 4619) rfl (by decide +kernel) (x := (σ 1 (ix 57))) rfl dX9_change_48 ?_
      refine lv_imul hx hb dX9_change_49 ?_
      refine lv_iadd hx hb dX9_change_50 ?_
      refine lv_istore (lv' := [(7, .int (1019 + (6 * (σ 1 (ix 57))))), (6, .int p1), (0, .ref (h 0)), (1, .int x1), (2, .int x2), (3, .int x3), (4, .int x4), (5, .int x5)]) hx hb dX9_change_51 hl (by decide) rfl (fun ls hl => ?_)
      refine lv_aload_n hx hb dX9_change_53 rfl (lv_at hl 2 rfl) ?_
      refine q_get (C := RX9) (T := TX9) (N := 17) (ci := 9) E (fun w h => List.mem_cons_of_mem _ (inX9 w h)) hw 0 rfl rfl 0 (by decide) (List.mem_cons_of_mem _ tb_1145) (v := .ref (h 1)) rfl dX9_change_54 ?_
      refine lv_iload hx hb dX9_change_57 (lv_at hl 0 rfl) ?_
      refine lv_aload_n hx hb dX9_change_59 rfl (lv_at hl 2 rfl) ?_
      refine q_get (C := RX9) (T := TX9) (N := 17) (ci := 9) E (fun w h => List.mem_cons_of_mem _ (inX9 w h)) hw 0 rfl rfl 0 (by decide) (List.mem_cons_of_mem _ tb_1145) (v := .ref (h 1)) rfl dX9_change_60 ?_
      refine lv_iconst (v := 0) hx hb dX9_change_63 (by decide) ?_
      refine q_ald E hw 1 (n := 4619) rfl (by decide +kernel) (x := (σ 1 (ix 0))) rfl dX9_change_64 ?_
      obtain ⟨g5, hM⟩ := g_some hM
      refine q_ast E hw 1 (n := 4619) rfl g5 (wM cA h (up σ 1 (ix (1019 + (6 * (σ 1 (ix 57))))) (σ 1 (ix 0))) wd ++ F) st_M_1 dX9_change_65 (fun H locs hw => ?_)
      refine lv_aload_n hx hb dX9_change_66 rfl (lv_at hl 2 rfl) ?_
      refine q_get (C := RX9) (T := TX9) (N := 17) (ci := 9) E (fun w h => List.mem_cons_of_mem _ (inX9 w h)) hw 0 rfl rfl 0 (by decide) (List.mem_cons_of_mem _ tb_1145) (v := .ref (h 1)) rfl dX9_change_67 ?_
      refine lv_iload hx hb dX9_change_70 (lv_at hl 0 rfl) ?_
      refine lv_iconst (v := 1) hx hb dX9_change_72 (by decide) ?_
      refine lv_iadd hx hb dX9_change_73 ?_
      refine lv_iload_n hx hb dX9_change_74 rfl (lv_at hl 3 rfl) ?_
      obtain ⟨g6, hM⟩ := g_some hM
      refine q_ast E hw 1 (n := 4619) rfl g6 (wM cA h (up (up σ 1 (ix (1019 + (6 * (σ 1 (ix 57))))) (σ 1 (ix 0))) 1 (ix ((1019 + (6 * (σ 1 (ix 57)))) + 1)) x1) wd ++ F) st_M_1 dX9_change_75 (fun H locs hw => ?_)
      refine lv_aload_n hx hb dX9_change_76 rfl (lv_at hl 2 rfl) ?_
      refine q_get (C := RX9) (T := TX9) (N := 17) (ci := 9) E (fun w h => List.mem_cons_of_mem _ (inX9 w h)) hw 0 rfl rfl 0 (by decide) (List.mem_cons_of_mem _ tb_1145) (v := .ref (h 1)) rfl dX9_change_77 ?_
      refine lv_iload hx hb dX9_change_80 (lv_at hl 0 rfl) ?_
      refine lv_iconst (v := 2) hx hb dX9_change_82 (by decide) ?_
      refine lv_iadd hx hb dX9_change_83 ?_
      refine lv_iload_n hx hb dX9_change_84 rfl (lv_at hl 4 rfl) ?_
      obtain ⟨g7, hM⟩ := g_some hM
      refine q_ast E hw 1 (n := 4619) rfl g7 (wM cA h (up (up (up σ 1 (ix (1019 + (6 * (σ 1 (ix 57))))) (σ 1 (ix 0))) 1 (ix ((1019 + (6 * (σ 1 (ix 57)))) + 1)) x1) 1 (ix ((1019 + (6 * (σ 1 (ix 57)))) + 2)) x2) wd ++ F) st_M_1 dX9_change_85 (fun H locs hw => ?_)
      refine lv_aload_n hx hb dX9_change_86 rfl (lv_at hl 2 rfl) ?_
      refine q_get (C := RX9) (T := TX9) (N := 17) (ci := 9) E (fun w h => List.mem_cons_of_mem _ (inX9 w h)) hw 0 rfl rfl 0 (by decide) (List.mem_cons_of_mem _ tb_1145) (v := .ref (h 1)) rfl dX9_change_87 ?_
      refine lv_iload hx hb dX9_change_90 (lv_at hl 0 rfl) ?_
      refine lv_iconst (v := 3) hx hb dX9_change_92 (by decide) ?_
      refine lv_iadd hx hb dX9_change_93 ?_
      refine lv_iload_n hx hb dX9_change_94 rfl (lv_at hl 5 rfl) ?_
      obtain ⟨g8, hM⟩ := g_some hM
      refine q_ast E hw 1 (n := 4619) rfl g8 (wM cA h (up (up (up (up σ 1 (ix (1019 + (6 * (σ 1 (ix 57))))) (σ 1 (ix 0))) 1 (ix ((1019 + (6 * (σ 1 (ix 57)))) + 1)) x1) 1 (ix ((1019 + (6 * (σ 1 (ix 57)))) + 2)) x2) 1 (ix ((1019 + (6 * (σ 1 (ix 57)))) + 3)) x3) wd ++ F) st_M_1 dX9_change_95 (fun H locs hw => ?_)
      refine lv_aload_n hx hb dX9_change_96 rfl (lv_at hl 2 rfl) ?_
      refine q_get (C := RX9) (T := TX9) (N := 17) (ci := 9) E (fun w h => List.mem_cons_of_mem _ (inX9 w h)) hw 0 rfl rfl 0 (by decide) (List.mem_cons_of_mem _ tb_1145) (v := .ref (h 1)) rfl dX9_change_97 ?_
      refine lv_iload hx hb dX9_change_100 (lv_at hl 0 rfl) ?_
      refine lv_iconst (v := 4) hx hb dX9_change_102 (by decide) ?_
      refine lv_iadd hx hb dX9_change_103 ?_
      refine lv_iload hx hb dX9_change_104 (lv_at hl 6 rfl) ?_
      obtain ⟨g9, hM⟩ := g_some hM
      refine q_ast E hw 1 (n := 4619) rfl g9 (wM cA h (up (up (up (up (up σ 1 (ix (1019 + (6 * (σ 1 (ix 57))))) (σ 1 (ix 0))) 1 (ix ((1019 + (6 * (σ 1 (ix 57)))) + 1)) x1) 1 (ix ((1019 + (6 * (σ 1 (ix 57)))) + 2)) x2) 1 (ix ((1019 + (6 * (σ 1 (ix 57)))) + 3)) x3) 1 (ix ((1019 + (6 * (σ 1 (ix 57)))) + 4)) x4) wd ++ F) st_M_1 dX9_change_106 (fun H locs hw => ?_)
      refine lv_aload_n hx hb dX9_change_107 rfl (lv_at hl 2 rfl) ?_
      refine q_get (C := RX9) (T := TX9) (N := 17) (ci := 9) E (fun w h => List.mem_cons_of_mem _ (inX9 w h)) hw 0 rfl rfl 0 (by decide) (List.mem_cons_of_mem _ tb_1145) (v := .ref (h 1)) rfl dX9_change_108 ?_
      refine lv_iload hx hb dX9_change_111 (lv_at hl 0 rfl) ?_
      refine lv_iconst (v := 5) hx hb dX9_change_113 (by decide) ?_
      refine lv_iadd hx hb dX9_change_114 ?_
      refine lv_iload hx hb dX9_change_115 (lv_at hl 7 rfl) ?_
      obtain ⟨g10, hM⟩ := g_some hM
      refine q_ast E hw 1 (n := 4619) rfl g10 (wM cA h (up (up (up (up (up (up σ 1 (ix (1019 + (6 * (σ 1 (ix 57))))) (σ 1 (ix 0))) 1 (ix ((1019 + (6 * (σ 1 (ix 57)))) + 1)) x1) 1 (ix ((1019 + (6 * (σ 1 (ix 57)))) + 2)) x2) 1 (ix ((1019 + (6 * (σ 1 (ix 57)))) + 3)) x3) 1 (ix ((1019 + (6 * (σ 1 (ix 57)))) + 4)) x4) 1 (ix ((1019 + (6 * (σ 1 (ix 57)))) + 5)) x5) wd ++ F) st_M_1 dX9_change_117 (fun H locs hw => ?_)
      refine lv_aload_n hx hb dX9_change_118 rfl (lv_at hl 2 rfl) ?_
      refine q_get (C := RX9) (T := TX9) (N := 17) (ci := 9) E (fun w h => List.mem_cons_of_mem _ (inX9 w h)) hw 0 rfl rfl 0 (by decide) (List.mem_cons_of_mem _ tb_1145) (v := .ref (h 1)) rfl dX9_change_119 ?_
      refine lv_bipush (v := 57) hx hb dX9_change_122 (by decide) ?_
      refine lv_dup2_11 hx hb dX9_change_124 rfl rfl ?_
      refine q_ald E hw 1 (n := 4619) rfl (by decide +kernel) (x := ((up (up (up (up (up (up σ 1 (ix (1019 + (6 * (σ 1 (ix 57))))) (σ 1 (ix 0))) 1 (ix ((1019 + (6 * (σ 1 (ix 57)))) + 1)) x1) 1 (ix ((1019 + (6 * (σ 1 (ix 57)))) + 2)) x2) 1 (ix ((1019 + (6 * (σ 1 (ix 57)))) + 3)) x3) 1 (ix ((1019 + (6 * (σ 1 (ix 57)))) + 4)) x4) 1 (ix ((1019 + (6 * (σ 1 (ix 57)))) + 5)) x5) 1 (ix 57))) rfl dX9_change_125 ?_
      refine lv_iconst (v := 1) hx hb dX9_change_126 (by decide) ?_
      refine lv_iadd hx hb dX9_change_127 ?_
      refine q_ast E hw 1 (n := 4619) rfl (by decide +kernel) (wM cA h (up (up (up (up (up (up (up σ 1 (ix (1019 + (6 * (σ 1 (ix 57))))) (σ 1 (ix 0))) 1 (ix ((1019 + (6 * (σ 1 (ix 57)))) + 1)) x1) 1 (ix ((1019 + (6 * (σ 1 (ix 57)))) + 2)) x2) 1 (ix ((1019 + (6 * (σ 1 (ix 57)))) + 3)) x3) 1 (ix ((1019 + (6 * (σ 1 (ix 57)))) + 4)) x4) 1 (ix ((1019 + (6 * (σ 1 (ix 57)))) + 5)) x5) 1 (ix 57) (((up (up (up (up (up (up σ 1 (ix (1019 + (6 * (σ 1 (ix 57))))) (σ 1 (ix 0))) 1 (ix ((1019 + (6 * (σ 1 (ix 57)))) + 1)) x1) 1 (ix ((1019 + (6 * (σ 1 (ix 57)))) + 2)) x2) 1 (ix ((1019 + (6 * (σ 1 (ix 57)))) + 3)) x3) 1 (ix ((1019 + (6 * (σ 1 (ix 57)))) + 4)) x4) 1 (ix ((1019 + (6 * (σ 1 (ix 57)))) + 5)) x5) 1 (ix 57)) + 1)) wd ++ F) st_M_1 dX9_change_128 (fun H locs hw => ?_)
      refine lv_aload_n hx hb dX9_change_129 rfl (lv_at hl 2 rfl) ?_
      refine lv_iload_n hx hb dX9_change_130 rfl (lv_at hl 3 rfl) ?_
      refine lv_iload_n hx hb dX9_change_131 rfl (lv_at hl 4 rfl) ?_
      refine lv_iload_n hx hb dX9_change_132 rfl (lv_at hl 5 rfl) ?_
      refine lv_iload hx hb dX9_change_133 (lv_at hl 6 rfl) ?_
      refine lv_iload hx hb dX9_change_135 (lv_at hl 7 rfl) ?_
      obtain ⟨p11, h12, hM⟩ := b_some hM
      refine q_cv (As := [.int x1, .int x2, .int x3, .int x4, .int x5]) (rest := []) E hw hl (c_X9_make l D cA tS A h F N x1 x2 x3 x4 x5 (up (up (up (up (up (up (up σ 1 (ix (1019 + (6 * (σ 1 (ix 57))))) (σ 1 (ix 0))) 1 (ix ((1019 + (6 * (σ 1 (ix 57)))) + 1)) x1) 1 (ix ((1019 + (6 * (σ 1 (ix 57)))) + 2)) x2) 1 (ix ((1019 + (6 * (σ 1 (ix 57)))) + 3)) x3) 1 (ix ((1019 + (6 * (σ 1 (ix 57)))) + 4)) x4) 1 (ix ((1019 + (6 * (σ 1 (ix 57)))) + 5)) x5) 1 (ix 57) (((up (up (up (up (up (up σ 1 (ix (1019 + (6 * (σ 1 (ix 57))))) (σ 1 (ix 0))) 1 (ix ((1019 + (6 * (σ 1 (ix 57)))) + 1)) x1) 1 (ix ((1019 + (6 * (σ 1 (ix 57)))) + 2)) x2) 1 (ix ((1019 + (6 * (σ 1 (ix 57)))) + 3)) x3) 1 (ix ((1019 + (6 * (σ 1 (ix 57)))) + 4)) x4) 1 (ix ((1019 + (6 * (σ 1 (ix 57)))) + 5)) x5) 1 (ix 57)) + 1)) wd p11.1 p11.2 h12) 5 (bwV bw_c tb_1257 tb_1259 tb_55 tb_111 tb_1260) rfl (by decide +kernel) ⟨Nat.le_of_ble_eq_true rfl, Nat.le_of_ble_eq_true rfl⟩ 0 9 (T := TX9) (N := 17) rfl rfl rfl rfl (Nat.le_of_ble_eq_true rfl) ⟨Nat.zero_le _, Nat.zero_le _⟩ dX9_change_137 (fun H locs hw => ?_)
      cases hM
      exact q_reti E hw dX9_change_140
    · replace hM := i_pos hM c4
      refine lv_bipush (v := (-6)) hx hb dX9_change_34 (by decide) ?_
      cases hM
      exact q_reti E hw dX9_change_36
  · replace hM := i_neg hM c3
    refine lv_iload hx hb dX9_change_18 (lv_at hl 0 rfl) ?_
    cases hM
    exact q_reti E hw dX9_change_20
set_option maxRecDepth 100000 in
set_option maxHeartbeats 4000000 in
theorem c_X9_setDay (l : Launch) (D : va_G) (cA : Nat → ClassId) (tS : Nat → Nat) (A : Nat → Prop) (h : Nat → Nat) (F : va_W) (N : Nat) (x1 : Int32) (x2 : Int32) (x3 : Int32) (σ : Sg) (wd : Int64) (r0 : Int32) (s0 : Sg) (hM : f_X9_setDay N x1 x2 x3 σ wd = some (r0, s0)) : Ct l yX9_setDay (Cond.code yX9_setDay cX9_setDay 4 (some .int) :: bw) 7 166 D cA tS A [.ref (h 0), .int x1, .int x2, .int x3] (wM cA h σ wd ++ F) (some (.int r0)) (wM cA h s0 wd ++ F) := by
  refine ct_of (by decide +kernel) (Nat.le_of_ble_eq_true rfl) ?_
  intro p e s m below meth c E hw ls hl
  replace E : Ev p cX9_setDay 4 (some .int) RX9 (Cond.code yX9_setDay cX9_setDay 4 (some .int) :: bw) D cA tS A s m _ meth c := E
  replace hl : lv_has ls 4 [(0, .ref (h 0)), (1, .int x1), (2, .int x2), (3, .int x3)] := hl
  have hx := E.1.1
  have hb := E.1.2.1
  unfold f_X9_setDay at hM
  refine lv_aload_n hx hb dX9_setDay_0 rfl (lv_at hl 0 rfl) ?_
  refine lv_iconst (v := 0) hx hb dX9_setDay_1 (by decide) ?_
  refine lv_iload_n hx hb dX9_setDay_2 rfl (lv_at hl 1 rfl) ?_
  refine lv_iload_n hx hb dX9_setDay_3 rfl (lv_at hl 2 rfl) ?_
  refine lv_iload_n hx hb dX9_setDay_4 rfl (lv_at hl 3 rfl) ?_
  refine lv_iconst (v := 0) hx hb dX9_setDay_5 (by decide) ?_
  obtain ⟨p1, h2, hM⟩ := b_some hM
  refine q_cv (As := [.int 0, .int x1, .int x2, .int x3, .int 0]) (rest := []) E hw hl (c_X9_change l D cA tS A h F N 0 x1 x2 x3 0 σ wd p1.1 p1.2 h2) 5 (bwV bw_c tb_1201 tb_1203 tb_44 tb_111 tb_1204) rfl (by decide +kernel) ⟨Nat.le_of_ble_eq_true rfl, Nat.le_of_ble_eq_true rfl⟩ 0 9 (T := TX9) (N := 17) rfl rfl rfl rfl (Nat.le_of_ble_eq_true rfl) ⟨Nat.zero_le _, Nat.zero_le _⟩ dX9_setDay_6 (fun H locs hw => ?_)
  cases hM
  exact q_reti E hw dX9_setDay_9
set_option maxRecDepth 100000 in
set_option maxHeartbeats 4000000 in
theorem c_X9_openingMinute (l : Launch) (D : va_G) (cA : Nat → ClassId) (tS : Nat → Nat) (A : Nat → Prop) (h : Nat → Nat) (F : va_W) (x1 : Int32) (σ : Sg) (wd : Int64) (r0 : Int32) (hM : f_X9_openingMinute x1 σ wd = some r0) : Ct l yX9_openingMinute (Cond.code yX9_openingMinute cX9_openingMinute 2 (some .int) :: bw) 2 42 D cA tS A [.ref (h 0), .int x1] (wM cA h σ wd ++ F) (some (.int r0)) (wM cA h σ wd ++ F) := by
  refine ct_of (by decide +kernel) (Nat.le_of_ble_eq_true rfl) ?_
  intro p e s m below meth c E hw ls hl
  replace E : Ev p cX9_openingMinute 2 (some .int) RX9 (Cond.code yX9_openingMinute cX9_openingMinute 2 (some .int) :: bw) D cA tS A s m _ meth c := E
  replace hl : lv_has ls 2 [(0, .ref (h 0)), (1, .int x1)] := hl
  have hx := E.1.1
  have hb := E.1.2.1
  unfold f_X9_openingMinute at hM
  refine lv_iload_n hx hb dX9_openingMinute_0 rfl (lv_at hl 1 rfl) ?_
  obtain ⟨p1, h2, hM⟩ := b_some hM
  refine q_cs (As := [.int x1]) (rest := []) E hw hl (c_X9_isDay l D cA tS A (wM cA h σ wd ++ F) x1 p1 h2) 1 (bwS bw_c tb_1209 tb_1210 tb_111 tb_1211) rfl (by decide +kernel) ⟨Nat.le_of_ble_eq_true rfl, Nat.le_of_ble_eq_true rfl⟩ rfl rfl (Nat.le_of_ble_eq_true rfl) ⟨Nat.zero_le _, Nat.zero_le _⟩ dX9_openingMinute_1 (fun H locs hw => ?_)
  refine lv_if_eq (tgt := 18) hx hb dX9_openingMinute_4 (by decide) (fun c3 => ?_) (fun c3 => ?_)
  · replace hM := i_pos hM c3
    refine lv_bipush (v := (-4)) hx hb dX9_openingMinute_18 (by decide) ?_
    cases hM
    exact q_reti E hw dX9_openingMinute_20
  · replace hM := i_neg hM c3
    refine lv_aload_n hx hb dX9_openingMinute_7 rfl (lv_at hl 0 rfl) ?_
    refine q_get (C := RX9) (T := TX9) (N := 17) (ci := 9) E (fun w h => List.mem_cons_of_mem _ (inX9 w h)) hw 0 rfl rfl 0 (by decide) (List.mem_cons_of_mem _ tb_1145) (v := .ref (h 1)) rfl dX9_openingMinute_8 ?_
    refine lv_iconst (v := 1) hx hb dX9_openingMinute_11 (by decide) ?_
    refine lv_iload_n hx hb dX9_openingMinute_12 rfl (lv_at hl 1 rfl) ?_
    refine lv_iadd hx hb dX9_openingMinute_13 ?_
    obtain ⟨g4, hM⟩ := g_some hM
    refine q_ald E hw 1 (n := 4619) rfl g4 (x := (σ 1 (ix (1 + x1)))) rfl dX9_openingMinute_14 ?_
    refine lv_goto (tgt := 20) hx hb dX9_openingMinute_15 (by decide) ?_
    cases hM
    exact q_reti E hw dX9_openingMinute_20
set_option maxRecDepth 100000 in
set_option maxHeartbeats 4000000 in
theorem c_X9_closingMinute (l : Launch) (D : va_G) (cA : Nat → ClassId) (tS : Nat → Nat) (A : Nat → Prop) (h : Nat → Nat) (F : va_W) (x1 : Int32) (σ : Sg) (wd : Int64) (r0 : Int32) (hM : f_X9_closingMinute x1 σ wd = some r0) : Ct l yX9_closingMinute (Cond.code yX9_closingMinute cX9_closingMinute 2 (some .int) :: bw) 2 42 D cA tS A [.ref (h 0), .int x1] (wM cA h σ wd ++ F) (some (.int r0)) (wM cA h σ wd ++ F) := by
  refine ct_of (by decide +kernel) (Nat.le_of_ble_eq_true rfl) ?_
  intro p e s m below meth c E hw ls hl
  replace E : Ev p cX9_closingMinute 2 (some .int) RX9 (Cond.code yX9_closingMinute cX9_closingMinute 2 (some .int) :: bw) D cA tS A s m _ meth c := E
  replace hl : lv_has ls 2 [(0, .ref (h 0)), (1, .int x1)] := hl
  have hx := E.1.1
  have hb := E.1.2.1
  unfold f_X9_closingMinute at hM
  refine lv_iload_n hx hb dX9_closingMinute_0 rfl (lv_at hl 1 rfl) ?_
  obtain ⟨p1, h2, hM⟩ := b_some hM
  refine q_cs (As := [.int x1]) (rest := []) E hw hl (c_X9_isDay l D cA tS A (wM cA h σ wd ++ F) x1 p1 h2) 1 (bwS bw_c tb_1209 tb_1210 tb_111 tb_1211) rfl (by decide +kernel) ⟨Nat.le_of_ble_eq_true rfl, Nat.le_of_ble_eq_true rfl⟩ rfl rfl (Nat.le_of_ble_eq_true rfl) ⟨Nat.zero_le _, Nat.zero_le _⟩ dX9_closingMinute_1 (fun H locs hw => ?_)
  refine lv_if_eq (tgt := 19) hx hb dX9_closingMinute_4 (by decide) (fun c3 => ?_) (fun c3 => ?_)
  · replace hM := i_pos hM c3
    refine lv_bipush (v := (-4)) hx hb dX9_closingMinute_19 (by decide) ?_
    cases hM
    exact q_reti E hw dX9_closingMinute_21
  · replace hM := i_neg hM c3
    refine lv_aload_n hx hb dX9_closingMinute_7 rfl (lv_at hl 0 rfl) ?_
    refine q_get (C := RX9) (T := TX9) (N := 17) (ci := 9) E (fun w h => List.mem_cons_of_mem _ (inX9 w h)) hw 0 rfl rfl 0 (by decide) (List.mem_cons_of_mem _ tb_1145) (v := .ref (h 1)) rfl dX9_closingMinute_8 ?_
    refine lv_bipush (v := 8) hx hb dX9_closingMinute_11 (by decide) ?_
    refine lv_iload_n hx hb dX9_closingMinute_13 rfl (lv_at hl 1 rfl) ?_
    refine lv_iadd hx hb dX9_closingMinute_14 ?_
    obtain ⟨g4, hM⟩ := g_some hM
    refine q_ald E hw 1 (n := 4619) rfl g4 (x := (σ 1 (ix (8 + x1)))) rfl dX9_closingMinute_15 ?_
    refine lv_goto (tgt := 21) hx hb dX9_closingMinute_16 (by decide) ?_
    cases hM
    exact q_reti E hw dX9_closingMinute_21
set_option maxRecDepth 100000 in
set_option maxHeartbeats 4000000 in
theorem c_X9_isOpenMinute (l : Launch) (D : va_G) (cA : Nat → ClassId) (tS : Nat → Nat) (A : Nat → Prop) (h : Nat → Nat) (F : va_W) (x1 : Int32) (σ : Sg) (wd : Int64) (r0 : Int32) (hM : f_X9_isOpenMinute x1 σ wd = some r0) : Ct l yX9_isOpenMinute (Cond.code yX9_isOpenMinute cX9_isOpenMinute 4 (some .boolean) :: bw) 0 0 D cA tS A [.ref (h 0), .int x1] (wM cA h σ wd ++ F) (some (.int r0)) (wM cA h σ wd ++ F) := by
  refine ct_of (by decide +kernel) (Nat.le_of_ble_eq_true rfl) ?_
  intro p e s m below meth c E hw ls hl
  replace E : Ev p cX9_isOpenMinute 4 (some .boolean) RX9 (Cond.code yX9_isOpenMinute cX9_isOpenMinute 4 (some .boolean) :: bw) D cA tS A s m _ meth c := E
  replace hl : lv_has ls 4 [(0, .ref (h 0)), (1, .int x1)] := hl
  have hx := E.1.1
  have hb := E.1.2.1
  unfold f_X9_isOpenMinute at hM
  refine lv_iload_n hx hb dX9_isOpenMinute_0 rfl (lv_at hl 1 rfl) ?_
  refine lv_sipush (v := 1440) hx hb dX9_isOpenMinute_1 (by decide) ?_
  refine lv_idiv hx hb dX9_isOpenMinute_4 (by decide) ?_
  refine lv_istore_n (lv' := [(2, .int (x1 / 1440)), (0, .ref (h 0)), (1, .int x1)]) hx hb dX9_isOpenMinute_5 rfl hl (by decide) rfl (fun ls hl => ?_)
  refine lv_iload_n hx hb dX9_isOpenMinute_6 rfl (lv_at hl 2 rfl) ?_
  refine lv_sipush (v := 1440) hx hb dX9_isOpenMinute_7 (by decide) ?_
  refine lv_irem hx hb dX9_isOpenMinute_10 (by decide) ?_
  refine lv_istore_n (lv' := [(3, .int (x1 - ((x1 / 1440) * 1440))), (2, .int (x1 / 1440)), (0, .ref (h 0)), (1, .int x1)]) hx hb dX9_isOpenMinute_11 rfl hl (by decide) rfl (fun ls hl => ?_)
  refine lv_iload_n hx hb dX9_isOpenMinute_12 rfl (lv_at hl 0 rfl) ?_
  refine lv_aload_n hx hb dX9_isOpenMinute_13 rfl (lv_at hl 2 rfl) ?_
  refine q_get (C := RX9) (T := TX9) (N := 17) (ci := 9) E (fun w h => List.mem_cons_of_mem _ (inX9 w h)) hw 0 rfl rfl 0 (by decide) (List.mem_cons_of_mem _ tb_1145) (v := .ref (h 1)) rfl dX9_isOpenMinute_14 ?_
  refine lv_iconst (v := 1) hx hb dX9_isOpenMinute_17 (by decide) ?_
  refine lv_iload_n hx hb dX9_isOpenMinute_18 rfl (lv_at hl 1 rfl) ?_
  refine lv_iadd hx hb dX9_isOpenMinute_19 ?_
  obtain ⟨g1, hM⟩ := g_some hM
  refine q_ald E hw 1 (n := 4619) rfl g1 (x := (σ 1 (ix (1 + (x1 / 1440))))) rfl dX9_isOpenMinute_20 ?_
  refine lv_icmp_lt (tgt := 41) hx hb dX9_isOpenMinute_21 (by decide) (fun c2 => ?_) (fun c2 => ?_)
  · replace hM := i_pos hM c2
    refine lv_iconst (v := 0) hx hb dX9_isOpenMinute_41 (by decide) ?_
    cases hM
    exact q_retz E hw (by decide) dX9_isOpenMinute_42
  · replace hM := i_neg hM c2
    refine lv_iload_n hx hb dX9_isOpenMinute_24 rfl (lv_at hl 0 rfl) ?_
    refine lv_aload_n hx hb dX9_isOpenMinute_25 rfl (lv_at hl 2 rfl) ?_
    refine q_get (C := RX9) (T := TX9) (N := 17) (ci := 9) E (fun w h => List.mem_cons_of_mem _ (inX9 w h)) hw 0 rfl rfl 0 (by decide) (List.mem_cons_of_mem _ tb_1145) (v := .ref (h 1)) rfl dX9_isOpenMinute_26 ?_
    refine lv_bipush (v := 8) hx hb dX9_isOpenMinute_29 (by decide) ?_
    refine lv_iload_n hx hb dX9_isOpenMinute_31 rfl (lv_at hl 1 rfl) ?_
    refine lv_iadd hx hb dX9_isOpenMinute_32 ?_
    obtain ⟨g3, hM⟩ := g_some hM
    refine q_ald E hw 1 (n := 4619) rfl g3 (x := (σ 1 (ix (8 + (x1 / 1440))))) rfl dX9_isOpenMinute_33 ?_
    refine lv_icmp_ge (tgt := 41) hx hb dX9_isOpenMinute_34 (by decide) (fun c4 => ?_) (fun c4 => ?_)
    · replace hM := i_pos hM c4
      refine lv_iconst (v := 0) hx hb dX9_isOpenMinute_41 (by decide) ?_
      cases hM
      exact q_retz E hw (by decide) dX9_isOpenMinute_42
    · replace hM := i_neg hM c4
      refine lv_iconst (v := 1) hx hb dX9_isOpenMinute_37 (by decide) ?_
      refine lv_goto (tgt := 42) hx hb dX9_isOpenMinute_38 (by decide) ?_
      cases hM
      exact q_retz E hw (by decide) dX9_isOpenMinute_42
set_option maxRecDepth 100000 in
set_option maxHeartbeats 4000000 in
theorem c_X9_isOpen (l : Launch) (D : va_G) (cA : Nat → ClassId) (tS : Nat → Nat) (A : Nat → Prop) (h : Nat → Nat) (F : va_W) (x1 : Int32) (σ : Sg) (wd : Int64) (r0 : Int32) (hM : f_X9_isOpen x1 σ wd = some r0) : Ct l yX9_isOpen (Cond.code yX9_isOpen cX9_isOpen 2 (some .int) :: bw) 1 23 D cA tS A [.ref (h 0), .int x1] (wM cA h σ wd ++ F) (some (.int r0)) (wM cA h σ wd ++ F) := by
  refine ct_of (by decide +kernel) (Nat.le_of_ble_eq_true rfl) ?_
  intro p e s m below meth c E hw ls hl
  replace E : Ev p cX9_isOpen 2 (some .int) RX9 (Cond.code yX9_isOpen cX9_isOpen 2 (some .int) :: bw) D cA tS A s m _ meth c := E
  replace hl : lv_has ls 2 [(0, .ref (h 0)), (1, .int x1)] := hl
  have hx := E.1.1
  have hb := E.1.2.1
  unfold f_X9_isOpen at hM
  refine lv_iload_n hx hb dX9_isOpen_0 rfl (lv_at hl 1 rfl) ?_
  refine lv_iconst (v := 0) hx hb dX9_isOpen_1 (by decide) ?_
  refine lv_sipush (v := 10079) hx hb dX9_isOpen_2 (by decide) ?_
  obtain ⟨p1, h2, hM⟩ := b_some hM
  refine q_cs (As := [.int x1, .int 0, .int 10079]) (rest := []) E hw hl (c_X9_isBetween l D cA tS A (wM cA h σ wd ++ F) x1 0 10079 p1 h2) 3 (bwS bw_c tb_1212 tb_1213 tb_111 tb_1214) rfl (by decide +kernel) ⟨Nat.le_of_ble_eq_true rfl, Nat.le_of_ble_eq_true rfl⟩ rfl rfl (Nat.le_of_ble_eq_true rfl) ⟨Nat.zero_le _, Nat.zero_le _⟩ dX9_isOpen_5 (fun H locs hw => ?_)
  refine lv_if_ne (tgt := 14) hx hb dX9_isOpen_8 (by decide) (fun c3 => ?_) (fun c3 => ?_)
  · replace hM := i_neg hM c3
    refine lv_aload_n hx hb dX9_isOpen_14 rfl (lv_at hl 0 rfl) ?_
    refine lv_iload_n hx hb dX9_isOpen_15 rfl (lv_at hl 1 rfl) ?_
    obtain ⟨p4, h5, hM⟩ := b_some hM
    refine q_cv (As := [.int x1]) (rest := []) E hw hl (c_X9_isOpenMinute l D cA tS A h F x1 σ wd p4 h5) 1 (bwV bw_c tb_1321 tb_1323 tb_68 tb_111 tb_1324) rfl (by decide +kernel) ⟨Nat.le_of_ble_eq_true rfl, Nat.le_of_ble_eq_true rfl⟩ 0 9 (T := TX9) (N := 17) rfl rfl rfl rfl (Nat.le_of_ble_eq_true rfl) ⟨Nat.zero_le _, Nat.zero_le _⟩ dX9_isOpen_16 (fun H locs hw => ?_)
    refine lv_if_eq (tgt := 26) hx hb dX9_isOpen_19 (by decide) (fun c6 => ?_) (fun c6 => ?_)
    · replace hM := i_pos hM c6
      refine lv_iconst (v := 0) hx hb dX9_isOpen_26 (by decide) ?_
      cases hM
      exact q_reti E hw dX9_isOpen_27
    · replace hM := i_neg hM c6
      refine lv_iconst (v := 1) hx hb dX9_isOpen_22 (by decide) ?_
      refine lv_goto (tgt := 27) hx hb dX9_isOpen_23 (by decide) ?_
      cases hM
      exact q_reti E hw dX9_isOpen_27
  · replace hM := i_pos hM c3
    refine lv_bipush (v := (-4)) hx hb dX9_isOpen_11 (by decide) ?_
    cases hM
    exact q_reti E hw dX9_isOpen_13
set_option maxRecDepth 100000 in
set_option maxHeartbeats 4000000 in
theorem s_X9_openMinutes_30 (l : Launch) (D : va_G) (cA : Nat → ClassId) (tS : Nat → Nat) (A : Nat → Prop) (h : Nat → Nat) (F : va_W) (N : Nat) {p : Program} {e : Env} {s : State} {m : MethodId} {args : Array Value} {below : List Frame} {meth : Method} {c : Code} (E : Ev p cX9_openMinutes 7 (some .int) RX9 (Cond.code yX9_openMinutes cX9_openMinutes 7 (some .int) :: bw) D cA tS A s m args meth c) : ∀ (n : Nat) (x1 : Int32) (x2 : Int32) (x3 : Int32) (x4 : Int32) (σ : Sg) (wd : Int64) (r0 : Int32) (hM : f_X9_openMinutes_30 N n x1 x2 x3 x4 σ wd = some r0) (H : Heap) (locs : List Loc) (hw : Wd D A (wM cA h σ wd ++ F) s.heap H locs) (ls : Array Slot) (hl : lv_has ls 7 [(0, .ref (h 0)), (1, .int x1), (2, .int x2), (3, .int x3), (4, .int x4)]), W p l e ({ frames := 1, cells := 0, slots := 0, locals := 22 } : Room) s m args below meth c H locs 0 0 (MQ below (QW D A (some (.int r0)) (wM cA h σ wd ++ F)) args s 0 0 A) (F0 m 30 ls []) := by
  have hx := E.1.1
  have hb := E.1.2.1
  intro n
  induction n with
  | zero =>
    intro x1 x2 x3 x4 σ wd r0 hM
    cases hM
  | succ n ih =>
    intro x1 x2 x3 x4 σ wd r0 hM H locs hw ls hl
    rw [f_X9_openMinutes_30] at hM
    refine lv_iload hx hb dX9_openMinutes_30 (lv_at hl 4 rfl) ?_
    refine lv_bipush (v := 7) hx hb dX9_openMinutes_32 (by decide) ?_
    refine lv_icmp_ge (tgt := 100) hx hb dX9_openMinutes_34 (by decide) (fun c1 => ?_) (fun c1 => ?_)
    · replace hM := i_pos hM c1
      refine lv_iload_n hx hb dX9_openMinutes_100 rfl (lv_at hl 3 rfl) ?_
      cases hM
      exact q_reti E hw dX9_openMinutes_101
    · replace hM := i_neg hM c1
      refine lv_iload_n hx hb dX9_openMinutes_37 rfl (lv_at hl 1 rfl) ?_
      refine lv_sipush (v := 1440) hx hb dX9_openMinutes_38 (by decide) ?_
      refine lv_iload hx hb dX9_openMinutes_41 (lv_at hl 4 rfl) ?_
      refine lv_imul hx hb dX9_openMinutes_43 ?_
      refine lv_aload_n hx hb dX9_openMinutes_44 rfl (lv_at hl 0 rfl) ?_
      refine q_get (C := RX9) (T := TX9) (N := 17) (ci := 9) E (fun w h => List.mem_cons_of_mem _ (inX9 w h)) hw 0 rfl rfl 0 (by decide) (List.mem_cons_of_mem _ tb_1145) (v := .ref (h 1)) rfl dX9_openMinutes_45 ?_
      refine lv_iconst (v := 1) hx hb dX9_openMinutes_48 (by decide) ?_
      refine lv_iload hx hb dX9_openMinutes_49 (lv_at hl 4 rfl) ?_
      refine lv_iadd hx hb dX9_openMinutes_51 ?_
      obtain ⟨g2, hM⟩ := g_some hM
      refine q_ald E hw 1 (n := 4619) rfl g2 (x := (σ 1 (ix (1 + x4)))) rfl dX9_openMinutes_52 ?_
      refine lv_iadd hx hb dX9_openMinutes_53 ?_
      refine va_mmax hx hb (E.1.2.2.1.trans hl.1.symm) E.1.2.2.2.1 (E.1.2.2.2.2 _ (List.mem_cons_of_mem _ tb_1329)) (E.1.2.2.2.2 _ (List.mem_cons_of_mem _ tb_273)) (E.1.2.2.2.2 _ (List.mem_cons_of_mem _ tb_106)) (E.1.2.2.2.2 _ (List.mem_cons_of_mem _ tb_274)) (Nat.le_of_ble_eq_true rfl) (Nat.le_of_ble_eq_true rfl) (Nat.zero_le _) (Nat.zero_le _) dX9_openMinutes_54 ?_
      refine lv_istore (lv' := [(5, .int (if x1 < ((1440 * x4) + (σ 1 (ix (1 + x4)))) then ((1440 * x4) + (σ 1 (ix (1 + x4)))) else x1)), (0, .ref (h 0)), (1, .int x1), (2, .int x2), (3, .int x3), (4, .int x4)]) hx hb dX9_openMinutes_57 hl (by decide) rfl (fun ls hl => ?_)
      refine lv_iload_n hx hb dX9_openMinutes_59 rfl (lv_at hl 3 rfl) ?_
      refine lv_sipush (v := 1440) hx hb dX9_openMinutes_60 (by decide) ?_
      refine lv_iload hx hb dX9_openMinutes_63 (lv_at hl 5 rfl) ?_
      refine lv_imul hx hb dX9_openMinutes_65 ?_
      refine lv_aload_n hx hb dX9_openMinutes_66 rfl (lv_at hl 1 rfl) ?_
      refine q_get (C := RX9) (T := TX9) (N := 17) (ci := 9) E (fun w h => List.mem_cons_of_mem _ (inX9 w h)) hw 0 rfl rfl 0 (by decide) (List.mem_cons_of_mem _ tb_1145) (v := .ref (h 1)) rfl dX9_openMinutes_67 ?_
      refine lv_bipush (v := 8) hx hb dX9_openMinutes_70 (by decide) ?_
      refine lv_iload hx hb dX9_openMinutes_72 (lv_at hl 5 rfl) ?_
      refine lv_iadd hx hb dX9_openMinutes_74 ?_
      obtain ⟨g3, hM⟩ := g_some hM
      refine q_ald E hw 1 (n := 4619) rfl g3 (x := (σ 1 (ix (8 + x4)))) rfl dX9_openMinutes_75 ?_
      refine lv_iadd hx hb dX9_openMinutes_76 ?_
      refine va_mmin hx hb (E.1.2.2.1.trans hl.1.symm) E.1.2.2.2.1 (E.1.2.2.2.2 _ (List.mem_cons_of_mem _ tb_1330)) (E.1.2.2.2.2 _ (List.mem_cons_of_mem _ tb_616)) (E.1.2.2.2.2 _ (List.mem_cons_of_mem _ tb_106)) (E.1.2.2.2.2 _ (List.mem_cons_of_mem _ tb_617)) (Nat.le_of_ble_eq_true rfl) (Nat.le_of_ble_eq_true rfl) (Nat.zero_le _) (Nat.zero_le _) dX9_openMinutes_77 ?_
      refine lv_istore (lv' := [(6, .int (if ((1440 * x4) + (σ 1 (ix (8 + x4)))) < x2 then ((1440 * x4) + (σ 1 (ix (8 + x4)))) else x2)), (5, .int (if x1 < ((1440 * x4) + (σ 1 (ix (1 + x4)))) then ((1440 * x4) + (σ 1 (ix (1 + x4)))) else x1)), (0, .ref (h 0)), (1, .int x1), (2, .int x2), (3, .int x3), (4, .int x4)]) hx hb dX9_openMinutes_80 hl (by decide) rfl (fun ls hl => ?_)
      refine lv_iload_n hx hb dX9_openMinutes_82 rfl (lv_at hl 5 rfl) ?_
      refine lv_iconst (v := 0) hx hb dX9_openMinutes_83 (by decide) ?_
      refine lv_iload hx hb dX9_openMinutes_84 (lv_at hl 0 rfl) ?_
      refine lv_iload hx hb dX9_openMinutes_86 (lv_at hl 1 rfl) ?_
      refine lv_isub hx hb dX9_openMinutes_88 ?_
      refine va_mmax hx hb (E.1.2.2.1.trans hl.1.symm) E.1.2.2.2.1 (E.1.2.2.2.2 _ (List.mem_cons_of_mem _ tb_1329)) (E.1.2.2.2.2 _ (List.mem_cons_of_mem _ tb_273)) (E.1.2.2.2.2 _ (List.mem_cons_of_mem _ tb_106)) (E.1.2.2.2.2 _ (List.mem_cons_of_mem _ tb_274)) (Nat.le_of_ble_eq_true rfl) (Nat.le_of_ble_eq_true rfl) (Nat.zero_le _) (Nat.zero_le _) dX9_openMinutes_89 ?_
      refine lv_iadd hx hb dX9_openMinutes_92 ?_
      refine lv_istore_n (lv' := [(3, .int (x3 + (if 0 < ((if ((1440 * x4) + (σ 1 (ix (8 + x4)))) < x2 then ((1440 * x4) + (σ 1 (ix (8 + x4)))) else x2) - (if x1 < ((1440 * x4) + (σ 1 (ix (1 + x4)))) then ((1440 * x4) + (σ 1 (ix (1 + x4)))) else x1)) then ((if ((1440 * x4) + (σ 1 (ix (8 + x4)))) < x2 then ((1440 * x4) + (σ 1 (ix (8 + x4)))) else x2) - (if x1 < ((1440 * x4) + (σ 1 (ix (1 + x4)))) then ((1440 * x4) + (σ 1 (ix (1 + x4)))) else x1)) else 0))), (6, .int (if ((1440 * x4) + (σ 1 (ix (8 + x4)))) < x2 then ((1440 * x4) + (σ 1 (ix (8 + x4)))) else x2)), (5, .int (if x1 < ((1440 * x4) + (σ 1 (ix (1 + x4)))) then ((1440 * x4) + (σ 1 (ix (1 + x4)))) else x1)), (0, .ref (h 0)), (1, .int x1), (2, .int x2), (4, .int x4)]) hx hb dX9_openMinutes_93 rfl hl (by decide) rfl (fun ls hl => ?_)
      refine lv_iinc (v := (x4 + 1)) (lv' := [(4, .int (x4 + 1)), (3, .int (x3 + (if 0 < ((if ((1440 * x4) + (σ 1 (ix (8 + x4)))) < x2 then ((1440 * x4) + (σ 1 (ix (8 + x4)))) else x2) - (if x1 < ((1440 * x4) + (σ 1 (ix (1 + x4)))) then ((1440 * x4) + (σ 1 (ix (1 + x4)))) else x1)) then ((if ((1440 * x4) + (σ 1 (ix (8 + x4)))) < x2 then ((1440 * x4) + (σ 1 (ix (8 + x4)))) else x2) - (if x1 < ((1440 * x4) + (σ 1 (ix (1 + x4)))) then ((1440 * x4) + (σ 1 (ix (1 + x4)))) else x1)) else 0))), (6, .int (if ((1440 * x4) + (σ 1 (ix (8 + x4)))) < x2 then ((1440 * x4) + (σ 1 (ix (8 + x4)))) else x2)), (5, .int (if x1 < ((1440 * x4) + (σ 1 (ix (1 + x4)))) then ((1440 * x4) + (σ 1 (ix (1 + x4)))) else x1)), (0, .ref (h 0)), (1, .int x1), (2, .int x2)]) hx hb dX9_openMinutes_94 hl (k := 6) rfl rfl (by decide) rfl (fun ls hl => ?_)
      refine lv_goto (tgt := 30) hx hb dX9_openMinutes_97 (by decide) ?_
      exact ih _ _ _ _ _ _ _ hM _ _ hw _ (lv_sub hl [4, 5, 6, 1, 0] rfl)
set_option maxRecDepth 100000 in
set_option maxHeartbeats 4000000 in
theorem c_X9_openMinutes (l : Launch) (D : va_G) (cA : Nat → ClassId) (tS : Nat → Nat) (A : Nat → Prop) (h : Nat → Nat) (F : va_W) (N : Nat) (x1 : Int32) (x2 : Int32) (σ : Sg) (wd : Int64) (r0 : Int32) (hM : f_X9_openMinutes N x1 x2 σ wd = some r0) : Ct l yX9_openMinutes (Cond.code yX9_openMinutes cX9_openMinutes 7 (some .int) :: bw) 1 22 D cA tS A [.ref (h 0), .int x1, .int x2] (wM cA h σ wd ++ F) (some (.int r0)) (wM cA h σ wd ++ F) := by
  refine ct_of (by decide +kernel) (Nat.le_of_ble_eq_true rfl) ?_
  intro p e s m below meth c E hw ls hl
  replace E : Ev p cX9_openMinutes 7 (some .int) RX9 (Cond.code yX9_openMinutes cX9_openMinutes 7 (some .int) :: bw) D cA tS A s m _ meth c := E
  replace hl : lv_has ls 7 [(0, .ref (h 0)), (1, .int x1), (2, .int x2)] := hl
  have hx := E.1.1
  have hb := E.1.2.1
  unfold f_X9_openMinutes at hM
  refine lv_iload_n hx hb dX9_openMinutes_0 rfl (lv_at hl 1 rfl) ?_
  refine lv_iconst (v := 0) hx hb dX9_openMinutes_1 (by decide) ?_
  refine lv_sipush (v := 10080) hx hb dX9_openMinutes_2 (by decide) ?_
  obtain ⟨p1, h2, hM⟩ := b_some hM
  refine q_cs (As := [.int x1, .int 0, .int 10080]) (rest := []) E hw hl (c_X9_isBetween l D cA tS A (wM cA h σ wd ++ F) x1 0 10080 p1 h2) 3 (bwS bw_c tb_1212 tb_1213 tb_111 tb_1214) rfl (by decide +kernel) ⟨Nat.le_of_ble_eq_true rfl, Nat.le_of_ble_eq_true rfl⟩ rfl rfl (Nat.le_of_ble_eq_true rfl) ⟨Nat.zero_le _, Nat.zero_le _⟩ dX9_openMinutes_5 (fun H locs hw => ?_)
  refine lv_if_eq (tgt := 22) hx hb dX9_openMinutes_8 (by decide) (fun c3 => ?_) (fun c3 => ?_)
  · replace hM := i_pos hM c3
    refine lv_bipush (v := (-4)) hx hb dX9_openMinutes_22 (by decide) ?_
    cases hM
    exact q_reti E hw dX9_openMinutes_24
  · replace hM := i_neg hM c3
    refine lv_iload_n hx hb dX9_openMinutes_11 rfl (lv_at hl 2 rfl) ?_
    refine lv_iload_n hx hb dX9_openMinutes_12 rfl (lv_at hl 1 rfl) ?_
    refine lv_sipush (v := 10080) hx hb dX9_openMinutes_13 (by decide) ?_
    obtain ⟨p4, h5, hM⟩ := b_some hM
    refine q_cs (As := [.int x2, .int x1, .int 10080]) (rest := []) E hw hl (c_X9_isBetween l D cA tS A (wM cA h σ wd ++ F) x2 x1 10080 p4 h5) 3 (bwS bw_c tb_1212 tb_1213 tb_111 tb_1214) rfl (by decide +kernel) ⟨Nat.le_of_ble_eq_true rfl, Nat.le_of_ble_eq_true rfl⟩ rfl rfl (Nat.le_of_ble_eq_true rfl) ⟨Nat.zero_le _, Nat.zero_le _⟩ dX9_openMinutes_16 (fun H locs hw => ?_)
    refine lv_if_ne (tgt := 25) hx hb dX9_openMinutes_19 (by decide) (fun c6 => ?_) (fun c6 => ?_)
    · replace hM := i_neg hM c6
      refine lv_iconst (v := 0) hx hb dX9_openMinutes_25 (by decide) ?_
      refine lv_istore_n (lv' := [(3, .int 0), (0, .ref (h 0)), (1, .int x1), (2, .int x2)]) hx hb dX9_openMinutes_26 rfl hl (by decide) rfl (fun ls hl => ?_)
      refine lv_iconst (v := 0) hx hb dX9_openMinutes_27 (by decide) ?_
      refine lv_istore (lv' := [(4, .int 0), (3, .int 0), (0, .ref (h 0)), (1, .int x1), (2, .int x2)]) hx hb dX9_openMinutes_28 hl (by decide) rfl (fun ls hl => ?_)
      exact s_X9_openMinutes_30 l D cA tS A h F N E N _ _ _ _ _ _ _ hM _ _ hw _ (lv_sub hl [2, 3, 4, 1, 0] rfl)
    · replace hM := i_pos hM c6
      refine lv_bipush (v := (-4)) hx hb dX9_openMinutes_22 (by decide) ?_
      cases hM
      exact q_reti E hw dX9_openMinutes_24
set_option maxRecDepth 100000 in
set_option maxHeartbeats 4000000 in
theorem s_X9_addKind_57 (l : Launch) (D : va_G) (cA : Nat → ClassId) (tS : Nat → Nat) (A : Nat → Prop) (h : Nat → Nat) (F : va_W) {p : Program} {e : Env} {s : State} {m : MethodId} {args : Array Value} {below : List Frame} {meth : Method} {c : Code} (E : Ev p cX9_addKind 10 (some .int) RX9 (Cond.code yX9_addKind cX9_addKind 10 (some .int) :: bw) D cA tS A s m args meth c) : ∀ (x1 : Int32) (x2 : Int32) (x3 : Int32) (x4 : Int32) (x5 : Int32) (x6 : Int32) (σ : Sg) (wd : Int64) (r0 : Int32) (s0 : Sg) (hM : f_X9_addKind_57 x1 x2 x3 x4 x5 x6 σ wd = some (r0, s0)) (H : Heap) (locs : List Loc) (hw : Wd D A (wM cA h σ wd ++ F) s.heap H locs) (ls : Array Slot) (hl : lv_has ls 10 [(0, .ref (h 0)), (1, .int x1), (2, .int x2), (3, .int x3), (4, .int x4), (5, .int x5), (6, .int x6)]), W p l e ({ frames := 2, cells := 0, slots := 0, locals := 42 } : Room) s m args below meth c H locs 0 0 (MQ below (QW D A (some (.int r0)) (wM cA h s0 wd ++ F)) args s 0 0 A) (F0 m 57 ls []) := by
  have hx := E.1.1
  have hb := E.1.2.1
  intro x1 x2 x3 x4 x5 x6 σ wd r0 s0 hM H locs hw ls hl
  unfold f_X9_addKind_57 at hM
  refine lv_iconst (v := 0) hx hb dX9_addKind_57 (by decide) ?_
  refine lv_istore (lv' := [(7, .int 0), (0, .ref (h 0)), (1, .int x1), (2, .int x2), (3, .int x3), (4, .int x4), (5, .int x5), (6, .int x6)]) hx hb dX9_addKind_58 hl (by decide) rfl (fun ls hl => ?_)
  refine lv_iload hx hb dX9_addKind_60 (lv_at hl 0 rfl) ?_
  refine lv_if_ne (tgt := 68) hx hb dX9_addKind_62 (by decide) (fun c1 => ?_) (fun c1 => ?_)
  · first | exact absurd (by decide) c1 | exact absurd c1 (by decide)
  · refine lv_bipush (v := (-4)) hx hb dX9_addKind_65 (by decide) ?_
    cases hM
    exact q_reti E hw dX9_addKind_67
set_option maxRecDepth 100000 in
set_option maxHeartbeats 4000000 in
theorem c_X9_addKind (l : Launch) (D : va_G) (cA : Nat → ClassId) (tS : Nat → Nat) (A : Nat → Prop) (h : Nat → Nat) (F : va_W) (x1 : Int32) (x2 : Int32) (x3 : Int32) (x4 : Int32) (x5 : Int32) (x6 : Int32) (σ : Sg) (wd : Int64) (r0 : Int32) (s0 : Sg) (hM : f_X9_addKind x1 x2 x3 x4 x5 x6 σ wd = some (r0, s0)) : Ct l yX9_addKind (Cond.code yX9_addKind cX9_addKind 10 (some .int) :: bw) 2 42 D cA tS A [.ref (h 0), .int x1, .int x2, .int x3, .int x4, .int x5, .int x6] (wM cA h σ wd ++ F) (some (.int r0)) (wM cA h s0 wd ++ F) := by
  refine ct_of (by decide +kernel) (Nat.le_of_ble_eq_true rfl) ?_
  intro p e s m below meth c E hw ls hl
  replace E : Ev p cX9_addKind 10 (some .int) RX9 (Cond.code yX9_addKind cX9_addKind 10 (some .int) :: bw) D cA tS A s m _ meth c := E
  replace hl : lv_has ls 10 [(0, .ref (h 0)), (1, .int x1), (2, .int x2), (3, .int x3), (4, .int x4), (5, .int x5), (6, .int x6)] := hl
  have hx := E.1.1
  have hb := E.1.2.1
  unfold f_X9_addKind at hM
  refine lv_iload_n hx hb dX9_addKind_0 rfl (lv_at hl 1 rfl) ?_
  refine lv_iconst (v := 0) hx hb dX9_addKind_1 (by decide) ?_
  refine lv_sipush (v := 10080) hx hb dX9_addKind_2 (by decide) ?_
  obtain ⟨p1, h2, hM⟩ := b_some hM
  refine q_cs (As := [.int x1, .int 0, .int 10080]) (rest := []) E hw hl (c_X9_isBetween l D cA tS A (wM cA h σ wd ++ F) x1 0 10080 p1 h2) 3 (bwS bw_c tb_1212 tb_1213 tb_111 tb_1214) rfl (by decide +kernel) ⟨Nat.le_of_ble_eq_true rfl, Nat.le_of_ble_eq_true rfl⟩ rfl rfl (Nat.le_of_ble_eq_true rfl) ⟨Nat.zero_le _, Nat.zero_le _⟩ dX9_addKind_5 (fun H locs hw => ?_)
  refine lv_if_eq (tgt := 57) hx hb dX9_addKind_8 (by decide) (fun c3 => ?_) (fun c3 => ?_)
  · replace hM := i_pos hM c3
    exact s_X9_addKind_57 l D cA tS A h F E _ _ _ _ _ _ _ _ _ _ hM _ _ hw _ (lv_sub hl [0, 1, 2, 3, 4, 5, 6] rfl)
  · replace hM := i_neg hM c3
    refine lv_iload_n hx hb dX9_addKind_11 rfl (lv_at hl 2 rfl) ?_
    refine lv_iconst (v := 0) hx hb dX9_addKind_12 (by decide) ?_
    refine lv_sipush (v := 10080) hx hb dX9_addKind_13 (by decide) ?_
    obtain ⟨p4, h5, hM⟩ := b_some hM
    refine q_cs (As := [.int x2, .int 0, .int 10080]) (rest := []) E hw hl (c_X9_isBetween l D cA tS A (wM cA h σ wd ++ F) x2 0 10080 p4 h5) 3 (bwS bw_c tb_1212 tb_1213 tb_111 tb_1214) rfl (by decide +kernel) ⟨Nat.le_of_ble_eq_true rfl, Nat.le_of_ble_eq_true rfl⟩ rfl rfl (Nat.le_of_ble_eq_true rfl) ⟨Nat.zero_le _, Nat.zero_le _⟩ dX9_addKind_16 (fun H locs hw => ?_)
    refine lv_if_eq (tgt := 57) hx hb dX9_addKind_19 (by decide) (fun c6 => ?_) (fun c6 => ?_)
    · replace hM := i_pos hM c6
      exact s_X9_addKind_57 l D cA tS A h F E _ _ _ _ _ _ _ _ _ _ hM _ _ hw _ (lv_sub hl [0, 1, 2, 3, 4, 5, 6] rfl)
    · replace hM := i_neg hM c6
      refine lv_iload_n hx hb dX9_addKind_22 rfl (lv_at hl 3 rfl) ?_
      refine lv_iconst (v := 1) hx hb dX9_addKind_23 (by decide) ?_
      refine lv_sipush (v := 480) hx hb dX9_addKind_24 (by decide) ?_
      obtain ⟨p7, h8, hM⟩ := b_some hM
      refine q_cs (As := [.int x3, .int 1, .int 480]) (rest := []) E hw hl (c_X9_isBetween l D cA tS A (wM cA h σ wd ++ F) x3 1 480 p7 h8) 3 (bwS bw_c tb_1212 tb_1213 tb_111 tb_1214) rfl (by decide +kernel) ⟨Nat.le_of_ble_eq_true rfl, Nat.le_of_ble_eq_true rfl⟩ rfl rfl (Nat.le_of_ble_eq_true rfl) ⟨Nat.zero_le _, Nat.zero_le _⟩ dX9_addKind_27 (fun H locs hw => ?_)
      refine lv_if_eq (tgt := 57) hx hb dX9_addKind_30 (by decide) (fun c9 => ?_) (fun c9 => ?_)
      · replace hM := i_pos hM c9
        exact s_X9_addKind_57 l D cA tS A h F E _ _ _ _ _ _ _ _ _ _ hM _ _ hw _ (lv_sub hl [0, 1, 2, 3, 4, 5, 6] rfl)
      · replace hM := i_neg hM c9
        refine lv_iload hx hb dX9_addKind_33 (lv_at hl 4 rfl) ?_
        obtain ⟨p10, h11, hM⟩ := b_some hM
        refine q_cs (As := [.int x4]) (rest := []) E hw hl (c_X9_isLevel l D cA tS A (wM cA h σ wd ++ F) x4 p10 h11) 1 (bwS bw_c tb_1218 tb_1219 tb_111 tb_1220) rfl (by decide +kernel) ⟨Nat.le_of_ble_eq_true rfl, Nat.le_of_ble_eq_true rfl⟩ rfl rfl (Nat.le_of_ble_eq_true rfl) ⟨Nat.zero_le _, Nat.zero_le _⟩ dX9_addKind_35 (fun H locs hw => ?_)
        refine lv_if_eq (tgt := 57) hx hb dX9_addKind_38 (by decide) (fun c12 => ?_) (fun c12 => ?_)
        · replace hM := i_pos hM c12
          exact s_X9_addKind_57 l D cA tS A h F E _ _ _ _ _ _ _ _ _ _ hM _ _ hw _ (lv_sub hl [0, 1, 2, 3, 4, 5, 6] rfl)
        · replace hM := i_neg hM c12
          refine lv_iload hx hb dX9_addKind_41 (lv_at hl 5 rfl) ?_
          refine lv_iconst (v := 0) hx hb dX9_addKind_43 (by decide) ?_
          refine lv_sipush (v := 10080) hx hb dX9_addKind_44 (by decide) ?_
          obtain ⟨p13, h14, hM⟩ := b_some hM
          refine q_cs (As := [.int x5, .int 0, .int 10080]) (rest := []) E hw hl (c_X9_isBetween l D cA tS A (wM cA h σ wd ++ F) x5 0 10080 p13 h14) 3 (bwS bw_c tb_1212 tb_1213 tb_111 tb_1214) rfl (by decide +kernel) ⟨Nat.le_of_ble_eq_true rfl, Nat.le_of_ble_eq_true rfl⟩ rfl rfl (Nat.le_of_ble_eq_true rfl) ⟨Nat.zero_le _, Nat.zero_le _⟩ dX9_addKind_47 (fun H locs hw => ?_)
          refine lv_if_eq (tgt := 57) hx hb dX9_addKind_50 (by decide) (fun c15 => ?_) (fun c15 => ?_)
          · replace hM := i_pos hM c15
            exact s_X9_addKind_57 l D cA tS A h F E _ _ _ _ _ _ _ _ _ _ hM _ _ hw _ (lv_sub hl [0, 1, 2, 3, 4, 5, 6] rfl)
          · replace hM := i_neg hM c15
            refine lv_iconst (v := 1) hx hb dX9_addKind_53 (by decide) ?_
            refine lv_goto (tgt := 58) hx hb dX9_addKind_54 (by decide) ?_
            refine lv_istore (lv' := [(7, .int 1), (0, .ref (h 0)), (1, .int x1), (2, .int x2), (3, .int x3), (4, .int x4), (5, .int x5), (6, .int x6)]) hx hb dX9_addKind_58 hl (by decide) rfl (fun ls hl => ?_)
            refine lv_iload hx hb dX9_addKind_60 (lv_at hl 0 rfl) ?_
            refine lv_if_ne (tgt := 68) hx hb dX9_addKind_62 (by decide) (fun c16 => ?_) (fun c16 => ?_)
            · refine lv_aload_n hx hb dX9_addKind_68 rfl (lv_at hl 1 rfl) ?_
              refine q_get (C := RX9) (T := TX9) (N := 17) (ci := 9) E (fun w h => List.mem_cons_of_mem _ (inX9 w h)) hw 0 rfl rfl 0 (by decide) (List.mem_cons_of_mem _ tb_1145) (v := .ref (h 1)) rfl dX9_addKind_69 ?_
              refine lv_bipush (v := 19) hx hb dX9_addKind_72 (by decide) ?_
              refine q_ald E hw 1 (n := 4619) rfl (by decide +kernel) (x := (σ 1 (ix 19))) rfl dX9_addKind_74 ?_
              refine lv_istore (lv' := [(8, .int (σ 1 (ix 19))), (7, .int 1), (0, .ref (h 0)), (1, .int x1), (2, .int x2), (3, .int x3), (4, .int x4), (5, .int x5), (6, .int x6)]) hx hb dX9_addKind_75 hl (by decide) rfl (fun ls hl => ?_)
              refine lv_iload hx hb dX9_addKind_77 (lv_at hl 0 rfl) ?_
              refine lv_bipush (v := 6) hx hb dX9_addKind_79 (by decide) ?_
              refine lv_icmp_ne (tgt := 87) hx hb dX9_addKind_81 (by decide) (fun c17 => ?_) (fun c17 => ?_)
              · replace hM := i_neg hM c17
                refine lv_bipush (v := 20) hx hb dX9_addKind_87 (by decide) ?_
                refine lv_bipush (v := 6) hx hb dX9_addKind_89 (by decide) ?_
                refine lv_iload hx hb dX9_addKind_91 (lv_at hl 0 rfl) ?_
                refine lv_imul hx hb dX9_addKind_93 ?_
                refine lv_iadd hx hb dX9_addKind_94 ?_
                refine lv_istore (lv' := [(9, .int (20 + (6 * (σ 1 (ix 19))))), (8, .int (σ 1 (ix 19))), (7, .int 1), (0, .ref (h 0)), (1, .int x1), (2, .int x2), (3, .int x3), (4, .int x4), (5, .int x5), (6, .int x6)]) hx hb dX9_addKind_95 hl (by decide) rfl (fun ls hl => ?_)
                refine lv_aload_n hx hb dX9_addKind_97 rfl (lv_at hl 3 rfl) ?_
                refine q_get (C := RX9) (T := TX9) (N := 17) (ci := 9) E (fun w h => List.mem_cons_of_mem _ (inX9 w h)) hw 0 rfl rfl 0 (by decide) (List.mem_cons_of_mem _ tb_1145) (v := .ref (h 1)) rfl dX9_addKind_98 ?_
                refine lv_iload hx hb dX9_addKind_101 (lv_at hl 0 rfl) ?_
                refine lv_iconst (v := 0) hx hb dX9_addKind_103 (by decide) ?_
                refine lv_iadd hx hb dX9_addKind_104 ?_
                refine lv_iload_n hx hb dX9_addKind_105 rfl (lv_at hl 4 rfl) ?_
                obtain ⟨g18, hM⟩ := g_some hM
                refine q_ast E hw 1 (n := 4619) rfl g18 (wM cA h (up σ 1 (ix ((20 + (6 * (σ 1 (ix 19)))) + 0)) x1) wd ++ F) st_M_1 dX9_addKind_106 (fun H locs hw => ?_)
                refine lv_aload_n hx hb dX9_addKind_107 rfl (lv_at hl 3 rfl) ?_
                refine q_get (C := RX9) (T := TX9) (N := 17) (ci := 9) E (fun w h => List.mem_cons_of_mem _ (inX9 w h)) hw 0 rfl rfl 0 (by decide) (List.mem_cons_of_mem _ tb_1145) (v := .ref (h 1)) rfl dX9_addKind_108 ?_
                refine lv_iload hx hb dX9_addKind_111 (lv_at hl 0 rfl) ?_
                refine lv_iconst (v := 1) hx hb dX9_addKind_113 (by decide) ?_
                refine lv_iadd hx hb dX9_addKind_114 ?_
                refine lv_iload_n hx hb dX9_addKind_115 rfl (lv_at hl 5 rfl) ?_
                obtain ⟨g19, hM⟩ := g_some hM
                refine q_ast E hw 1 (n := 4619) rfl g19 (wM cA h (up (up σ 1 (ix ((20 + (6 * (σ 1 (ix 19)))) + 0)) x1) 1 (ix ((20 + (6 * (σ 1 (ix 19)))) + 1)) x2) wd ++ F) st_M_1 dX9_addKind_116 (fun H locs hw => ?_)
                refine lv_aload_n hx hb dX9_addKind_117 rfl (lv_at hl 3 rfl) ?_
                refine q_get (C := RX9) (T := TX9) (N := 17) (ci := 9) E (fun w h => List.mem_cons_of_mem _ (inX9 w h)) hw 0 rfl rfl 0 (by decide) (List.mem_cons_of_mem _ tb_1145) (v := .ref (h 1)) rfl dX9_addKind_118 ?_
                refine lv_iload hx hb dX9_addKind_121 (lv_at hl 0 rfl) ?_
                refine lv_iconst (v := 2) hx hb dX9_addKind_123 (by decide) ?_
                refine lv_iadd hx hb dX9_addKind_124 ?_
                refine lv_iload_n hx hb dX9_addKind_125 rfl (lv_at hl 6 rfl) ?_
                obtain ⟨g20, hM⟩ := g_some hM
                refine q_ast E hw 1 (n := 4619) rfl g20 (wM cA h (up (up (up σ 1 (ix ((20 + (6 * (σ 1 (ix 19)))) + 0)) x1) 1 (ix ((20 + (6 * (σ 1 (ix 19)))) + 1)) x2) 1 (ix ((20 + (6 * (σ 1 (ix 19)))) + 2)) x3) wd ++ F) st_M_1 dX9_addKind_126 (fun H locs hw => ?_)
                refine lv_aload_n hx hb dX9_addKind_127 rfl (lv_at hl 3 rfl) ?_
                refine q_get (C := RX9) (T := TX9) (N := 17) (ci := 9) E (fun w h => List.mem_cons_of_mem _ (inX9 w h)) hw 0 rfl rfl 0 (by decide) (List.mem_cons_of_mem _ tb_1145) (v := .ref (h 1)) rfl dX9_addKind_128 ?_
                refine lv_iload hx hb dX9_addKind_131 (lv_at hl 0 rfl) ?_
                refine lv_iconst (v := 3) hx hb dX9_addKind_133 (by decide) ?_
                refine lv_iadd hx hb dX9_addKind_134 ?_
                refine lv_iload hx hb dX9_addKind_135 (lv_at hl 7 rfl) ?_
                obtain ⟨g21, hM⟩ := g_some hM
                refine q_ast E hw 1 (n := 4619) rfl g21 (wM cA h (up (up (up (up σ 1 (ix ((20 + (6 * (σ 1 (ix 19)))) + 0)) x1) 1 (ix ((20 + (6 * (σ 1 (ix 19)))) + 1)) x2) 1 (ix ((20 + (6 * (σ 1 (ix 19)))) + 2)) x3) 1 (ix ((20 + (6 * (σ 1 (ix 19)))) + 3)) x4) wd ++ F) st_M_1 dX9_addKind_137 (fun H locs hw => ?_)
                refine lv_aload_n hx hb dX9_addKind_138 rfl (lv_at hl 3 rfl) ?_
                refine q_get (C := RX9) (T := TX9) (N := 17) (ci := 9) E (fun w h => List.mem_cons_of_mem _ (inX9 w h)) hw 0 rfl rfl 0 (by decide) (List.mem_cons_of_mem _ tb_1145) (v := .ref (h 1)) rfl dX9_addKind_139 ?_
                refine lv_iload hx hb dX9_addKind_142 (lv_at hl 0 rfl) ?_
                refine lv_iconst (v := 4) hx hb dX9_addKind_144 (by decide) ?_
                refine lv_iadd hx hb dX9_addKind_145 ?_
                refine lv_iload hx hb dX9_addKind_146 (lv_at hl 8 rfl) ?_
                obtain ⟨g22, hM⟩ := g_some hM
                refine q_ast E hw 1 (n := 4619) rfl g22 (wM cA h (up (up (up (up (up σ 1 (ix ((20 + (6 * (σ 1 (ix 19)))) + 0)) x1) 1 (ix ((20 + (6 * (σ 1 (ix 19)))) + 1)) x2) 1 (ix ((20 + (6 * (σ 1 (ix 19)))) + 2)) x3) 1 (ix ((20 + (6 * (σ 1 (ix 19)))) + 3)) x4) 1 (ix ((20 + (6 * (σ 1 (ix 19)))) + 4)) x5) wd ++ F) st_M_1 dX9_addKind_148 (fun H locs hw => ?_)
                refine lv_aload_n hx hb dX9_addKind_149 rfl (lv_at hl 3 rfl) ?_
                refine q_get (C := RX9) (T := TX9) (N := 17) (ci := 9) E (fun w h => List.mem_cons_of_mem _ (inX9 w h)) hw 0 rfl rfl 0 (by decide) (List.mem_cons_of_mem _ tb_1145) (v := .ref (h 1)) rfl dX9_addKind_150 ?_
                refine lv_iload hx hb dX9_addKind_153 (lv_at hl 0 rfl) ?_
                refine lv_iconst (v := 5) hx hb dX9_addKind_155 (by decide) ?_
                refine lv_iadd hx hb dX9_addKind_156 ?_
                refine lv_iload hx hb dX9_addKind_157 (lv_at hl 9 rfl) ?_
                refine lv_if_eq (tgt := 166) hx hb dX9_addKind_159 (by decide) (fun c23 => ?_) (fun c23 => ?_)
                · replace hM := i_pos hM c23
                  refine lv_iconst (v := 0) hx hb dX9_addKind_166 (by decide) ?_
                  obtain ⟨g24, hM⟩ := g_some hM
                  refine q_ast E hw 1 (n := 4619) rfl g24 (wM cA h (up (up (up (up (up (up σ 1 (ix ((20 + (6 * (σ 1 (ix 19)))) + 0)) x1) 1 (ix ((20 + (6 * (σ 1 (ix 19)))) + 1)) x2) 1 (ix ((20 + (6 * (σ 1 (ix 19)))) + 2)) x3) 1 (ix ((20 + (6 * (σ 1 (ix 19)))) + 3)) x4) 1 (ix ((20 + (6 * (σ 1 (ix 19)))) + 4)) x5) 1 (ix ((20 + (6 * (σ 1 (ix 19)))) + 5)) 0) wd ++ F) st_M_1 dX9_addKind_167 (fun H locs hw => ?_)
                  refine lv_aload_n hx hb dX9_addKind_168 rfl (lv_at hl 3 rfl) ?_
                  refine q_get (C := RX9) (T := TX9) (N := 17) (ci := 9) E (fun w h => List.mem_cons_of_mem _ (inX9 w h)) hw 0 rfl rfl 0 (by decide) (List.mem_cons_of_mem _ tb_1145) (v := .ref (h 1)) rfl dX9_addKind_169 ?_
                  refine lv_bipush (v := 19) hx hb dX9_addKind_172 (by decide) ?_
                  refine lv_dup2_11 hx hb dX9_addKind_174 rfl rfl ?_
                  refine q_ald E hw 1 (n := 4619) rfl (by decide +kernel) (x := ((up (up (up (up (up (up σ 1 (ix ((20 + (6 * (σ 1 (ix 19)))) + 0)) x1) 1 (ix ((20 + (6 * (σ 1 (ix 19)))) + 1)) x2) 1 (ix ((20 + (6 * (σ 1 (ix 19)))) + 2)) x3) 1 (ix ((20 + (6 * (σ 1 (ix 19)))) + 3)) x4) 1 (ix ((20 + (6 * (σ 1 (ix 19)))) + 4)) x5) 1 (ix ((20 + (6 * (σ 1 (ix 19)))) + 5)) 0) 1 (ix 19))) rfl dX9_addKind_175 ?_
                  refine lv_iconst (v := 1) hx hb dX9_addKind_176 (by decide) ?_
                  refine lv_iadd hx hb dX9_addKind_177 ?_
                  refine q_ast E hw 1 (n := 4619) rfl (by decide +kernel) (wM cA h (up (up (up (up (up (up (up σ 1 (ix ((20 + (6 * (σ 1 (ix 19)))) + 0)) x1) 1 (ix ((20 + (6 * (σ 1 (ix 19)))) + 1)) x2) 1 (ix ((20 + (6 * (σ 1 (ix 19)))) + 2)) x3) 1 (ix ((20 + (6 * (σ 1 (ix 19)))) + 3)) x4) 1 (ix ((20 + (6 * (σ 1 (ix 19)))) + 4)) x5) 1 (ix ((20 + (6 * (σ 1 (ix 19)))) + 5)) 0) 1 (ix 19) (((up (up (up (up (up (up σ 1 (ix ((20 + (6 * (σ 1 (ix 19)))) + 0)) x1) 1 (ix ((20 + (6 * (σ 1 (ix 19)))) + 1)) x2) 1 (ix ((20 + (6 * (σ 1 (ix 19)))) + 2)) x3) 1 (ix ((20 + (6 * (σ 1 (ix 19)))) + 3)) x4) 1 (ix ((20 + (6 * (σ 1 (ix 19)))) + 4)) x5) 1 (ix ((20 + (6 * (σ 1 (ix 19)))) + 5)) 0) 1 (ix 19)) + 1)) wd ++ F) st_M_1 dX9_addKind_178 (fun H locs hw => ?_)
                  refine lv_iload hx hb dX9_addKind_179 (lv_at hl 1 rfl) ?_
                  cases hM
                  exact q_reti E hw dX9_addKind_181
                · replace hM := i_neg hM c23
                  refine lv_iconst (v := 1) hx hb dX9_addKind_162 (by decide) ?_
                  refine lv_goto (tgt := 167) hx hb dX9_addKind_163 (by decide) ?_
                  obtain ⟨g25, hM⟩ := g_some hM
                  refine q_ast E hw 1 (n := 4619) rfl g25 (wM cA h (up (up (up (up (up (up σ 1 (ix ((20 + (6 * (σ 1 (ix 19)))) + 0)) x1) 1 (ix ((20 + (6 * (σ 1 (ix 19)))) + 1)) x2) 1 (ix ((20 + (6 * (σ 1 (ix 19)))) + 2)) x3) 1 (ix ((20 + (6 * (σ 1 (ix 19)))) + 3)) x4) 1 (ix ((20 + (6 * (σ 1 (ix 19)))) + 4)) x5) 1 (ix ((20 + (6 * (σ 1 (ix 19)))) + 5)) 1) wd ++ F) st_M_1 dX9_addKind_167 (fun H locs hw => ?_)
                  refine lv_aload_n hx hb dX9_addKind_168 rfl (lv_at hl 3 rfl) ?_
                  refine q_get (C := RX9) (T := TX9) (N := 17) (ci := 9) E (fun w h => List.mem_cons_of_mem _ (inX9 w h)) hw 0 rfl rfl 0 (by decide) (List.mem_cons_of_mem _ tb_1145) (v := .ref (h 1)) rfl dX9_addKind_169 ?_
                  refine lv_bipush (v := 19) hx hb dX9_addKind_172 (by decide) ?_
                  refine lv_dup2_11 hx hb dX9_addKind_174 rfl rfl ?_
                  refine q_ald E hw 1 (n := 4619) rfl (by decide +kernel) (x := ((up (up (up (up (up (up σ 1 (ix ((20 + (6 * (σ 1 (ix 19)))) + 0)) x1) 1 (ix ((20 + (6 * (σ 1 (ix 19)))) + 1)) x2) 1 (ix ((20 + (6 * (σ 1 (ix 19)))) + 2)) x3) 1 (ix ((20 + (6 * (σ 1 (ix 19)))) + 3)) x4) 1 (ix ((20 + (6 * (σ 1 (ix 19)))) + 4)) x5) 1 (ix ((20 + (6 * (σ 1 (ix 19)))) + 5)) 1) 1 (ix 19))) rfl dX9_addKind_175 ?_
                  refine lv_iconst (v := 1) hx hb dX9_addKind_176 (by decide) ?_
                  refine lv_iadd hx hb dX9_addKind_177 ?_
                  refine q_ast E hw 1 (n := 4619) rfl (by decide +kernel) (wM cA h (up (up (up (up (up (up (up σ 1 (ix ((20 + (6 * (σ 1 (ix 19)))) + 0)) x1) 1 (ix ((20 + (6 * (σ 1 (ix 19)))) + 1)) x2) 1 (ix ((20 + (6 * (σ 1 (ix 19)))) + 2)) x3) 1 (ix ((20 + (6 * (σ 1 (ix 19)))) + 3)) x4) 1 (ix ((20 + (6 * (σ 1 (ix 19)))) + 4)) x5) 1 (ix ((20 + (6 * (σ 1 (ix 19)))) + 5)) 1) 1 (ix 19) (((up (up (up (up (up (up σ 1 (ix ((20 + (6 * (σ 1 (ix 19)))) + 0)) x1) 1 (ix ((20 + (6 * (σ 1 (ix 19)))) + 1)) x2) 1 (ix ((20 + (6 * (σ 1 (ix 19)))) + 2)) x3) 1 (ix ((20 + (6 * (σ 1 (ix 19)))) + 3)) x4) 1 (ix ((20 + (6 * (σ 1 (ix 19)))) + 4)) x5) 1 (ix ((20 + (6 * (σ 1 (ix 19)))) + 5)) 1) 1 (ix 19)) + 1)) wd ++ F) st_M_1 dX9_addKind_178 (fun H locs hw => ?_)
                  refine lv_iload hx hb dX9_addKind_179 (lv_at hl 1 rfl) ?_
                  cases hM
                  exact q_reti E hw dX9_addKind_181
              · replace hM := i_pos hM c17
                refine lv_bipush (v := (-6)) hx hb dX9_addKind_84 (by decide) ?_
                cases hM
                exact q_reti E hw dX9_addKind_86
            · first | exact absurd (by decide) c16 | exact absurd c16 (by decide)
set_option maxRecDepth 100000 in
set_option maxHeartbeats 4000000 in
theorem c_X9_kindCount (l : Launch) (D : va_G) (cA : Nat → ClassId) (tS : Nat → Nat) (A : Nat → Prop) (h : Nat → Nat) (F : va_W) (σ : Sg) (wd : Int64) (r0 : Int32) (hM : f_X9_kindCount σ wd = some r0) : Ct l yX9_kindCount (Cond.code yX9_kindCount cX9_kindCount 1 (some .int) :: bw) 0 0 D cA tS A [.ref (h 0)] (wM cA h σ wd ++ F) (some (.int r0)) (wM cA h σ wd ++ F) := by
  refine ct_of (by decide +kernel) (Nat.le_of_ble_eq_true rfl) ?_
  intro p e s m below meth c E hw ls hl
  replace E : Ev p cX9_kindCount 1 (some .int) RX9 (Cond.code yX9_kindCount cX9_kindCount 1 (some .int) :: bw) D cA tS A s m _ meth c := E
  replace hl : lv_has ls 1 [(0, .ref (h 0))] := hl
  have hx := E.1.1
  have hb := E.1.2.1
  unfold f_X9_kindCount at hM
  refine lv_aload_n hx hb dX9_kindCount_0 rfl (lv_at hl 0 rfl) ?_
  refine q_get (C := RX9) (T := TX9) (N := 17) (ci := 9) E (fun w h => List.mem_cons_of_mem _ (inX9 w h)) hw 0 rfl rfl 0 (by decide) (List.mem_cons_of_mem _ tb_1145) (v := .ref (h 1)) rfl dX9_kindCount_1 ?_
  refine lv_bipush (v := 19) hx hb dX9_kindCount_4 (by decide) ?_
  refine q_ald E hw 1 (n := 4619) rfl (by decide +kernel) (x := (σ 1 (ix 19))) rfl dX9_kindCount_6 ?_
  cases hM
  exact q_reti E hw dX9_kindCount_7
set_option maxRecDepth 100000 in
set_option maxHeartbeats 4000000 in
theorem c_X9_setAgents (l : Launch) (D : va_G) (cA : Nat → ClassId) (tS : Nat → Nat) (A : Nat → Prop) (h : Nat → Nat) (F : va_W) (N : Nat) (x1 : Int32) (x2 : Int32) (σ : Sg) (wd : Int64) (r0 : Int32) (s0 : Sg) (hM : f_X9_setAgents N x1 x2 σ wd = some (r0, s0)) : Ct l yX9_setAgents (Cond.code yX9_setAgents cX9_setAgents 3 (some .int) :: bw) 7 166 D cA tS A [.ref (h 0), .int x1, .int x2] (wM cA h σ wd ++ F) (some (.int r0)) (wM cA h s0 wd ++ F) := by
  refine ct_of (by decide +kernel) (Nat.le_of_ble_eq_true rfl) ?_
  intro p e s m below meth c E hw ls hl
  replace E : Ev p cX9_setAgents 3 (some .int) RX9 (Cond.code yX9_setAgents cX9_setAgents 3 (some .int) :: bw) D cA tS A s m _ meth c := E
  replace hl : lv_has ls 3 [(0, .ref (h 0)), (1, .int x1), (2, .int x2)] := hl
  have hx := E.1.1
  have hb := E.1.2.1
  unfold f_X9_setAgents at hM
  refine lv_aload_n hx hb dX9_setAgents_0 rfl (lv_at hl 0 rfl) ?_
  refine lv_iconst (v := 1) hx hb dX9_setAgents_1 (by decide) ?_
  refine lv_iload_n hx hb dX9_setAgents_2 rfl (lv_at hl 1 rfl) ?_
  refine lv_iload_n hx hb dX9_setAgents_3 rfl (lv_at hl 2 rfl) ?_
  refine lv_iconst (v := 0) hx hb dX9_setAgents_4 (by decide) ?_
  refine lv_iconst (v := 0) hx hb dX9_setAgents_5 (by decide) ?_
  obtain ⟨p1, h2, hM⟩ := b_some hM
  refine q_cv (As := [.int 1, .int x1, .int x2, .int 0, .int 0]) (rest := []) E hw hl (c_X9_change l D cA tS A h F N 1 x1 x2 0 0 σ wd p1.1 p1.2 h2) 5 (bwV bw_c tb_1201 tb_1203 tb_44 tb_111 tb_1204) rfl (by decide +kernel) ⟨Nat.le_of_ble_eq_true rfl, Nat.le_of_ble_eq_true rfl⟩ 0 9 (T := TX9) (N := 17) rfl rfl rfl rfl (Nat.le_of_ble_eq_true rfl) ⟨Nat.zero_le _, Nat.zero_le _⟩ dX9_setAgents_6 (fun H locs hw => ?_)
  cases hM
  exact q_reti E hw dX9_setAgents_9
set_option maxRecDepth 100000 in
set_option maxHeartbeats 4000000 in
theorem c_X9_agents (l : Launch) (D : va_G) (cA : Nat → ClassId) (tS : Nat → Nat) (A : Nat → Prop) (h : Nat → Nat) (F : va_W) (x1 : Int32) (σ : Sg) (wd : Int64) (r0 : Int32) (hM : f_X9_agents x1 σ wd = some r0) : Ct l yX9_agents (Cond.code yX9_agents cX9_agents 2 (some .int) :: bw) 2 42 D cA tS A [.ref (h 0), .int x1] (wM cA h σ wd ++ F) (some (.int r0)) (wM cA h σ wd ++ F) := by
  refine ct_of (by decide +kernel) (Nat.le_of_ble_eq_true rfl) ?_
  intro p e s m below meth c E hw ls hl
  replace E : Ev p cX9_agents 2 (some .int) RX9 (Cond.code yX9_agents cX9_agents 2 (some .int) :: bw) D cA tS A s m _ meth c := E
  replace hl : lv_has ls 2 [(0, .ref (h 0)), (1, .int x1)] := hl
  have hx := E.1.1
  have hb := E.1.2.1
  unfold f_X9_agents at hM
  refine lv_iload_n hx hb dX9_agents_0 rfl (lv_at hl 1 rfl) ?_
  obtain ⟨p1, h2, hM⟩ := b_some hM
  refine q_cs (As := [.int x1]) (rest := []) E hw hl (c_X9_isLevel l D cA tS A (wM cA h σ wd ++ F) x1 p1 h2) 1 (bwS bw_c tb_1218 tb_1219 tb_111 tb_1220) rfl (by decide +kernel) ⟨Nat.le_of_ble_eq_true rfl, Nat.le_of_ble_eq_true rfl⟩ rfl rfl (Nat.le_of_ble_eq_true rfl) ⟨Nat.zero_le _, Nat.zero_le _⟩ dX9_agents_1 (fun H locs hw => ?_)
  refine lv_if_eq (tgt := 19) hx hb dX9_agents_4 (by decide) (fun c3 => ?_) (fun c3 => ?_)
  · replace hM := i_pos hM c3
    refine lv_bipush (v := (-4)) hx hb dX9_agents_19 (by decide) ?_
    cases hM
    exact q_reti E hw dX9_agents_21
  · replace hM := i_neg hM c3
    refine lv_aload_n hx hb dX9_agents_7 rfl (lv_at hl 0 rfl) ?_
    refine q_get (C := RX9) (T := TX9) (N := 17) (ci := 9) E (fun w h => List.mem_cons_of_mem _ (inX9 w h)) hw 0 rfl rfl 0 (by decide) (List.mem_cons_of_mem _ tb_1145) (v := .ref (h 1)) rfl dX9_agents_8 ?_
    refine lv_bipush (v := 15) hx hb dX9_agents_11 (by decide) ?_
    refine lv_iload_n hx hb dX9_agents_13 rfl (lv_at hl 1 rfl) ?_
    refine lv_iadd hx hb dX9_agents_14 ?_
    obtain ⟨g4, hM⟩ := g_some hM
    refine q_ald E hw 1 (n := 4619) rfl g4 (x := (σ 1 (ix (15 + x1)))) rfl dX9_agents_15 ?_
    refine lv_goto (tgt := 21) hx hb dX9_agents_16 (by decide) ?_
    cases hM
    exact q_reti E hw dX9_agents_21
set_option maxRecDepth 100000 in
set_option maxHeartbeats 4000000 in
theorem c_X9_report (l : Launch) (D : va_G) (cA : Nat → ClassId) (tS : Nat → Nat) (A : Nat → Prop) (h : Nat → Nat) (F : va_W) (N : Nat) (x1 : Int32) (x2 : Int32) (x3 : Int32) (x4 : Int32) (σ : Sg) (wd : Int64) (r0 : Int32) (s0 : Sg) (hM : f_X9_report N x1 x2 x3 x4 σ wd = some (r0, s0)) : Ct l yX9_report (Cond.code yX9_report cX9_report 5 (some .int) :: bw) 7 166 D cA tS A [.ref (h 0), .int x1, .int x2, .int x3, .int x4] (wM cA h σ wd ++ F) (some (.int r0)) (wM cA h s0 wd ++ F) := by
  refine ct_of (by decide +kernel) (Nat.le_of_ble_eq_true rfl) ?_
  intro p e s m below meth c E hw ls hl
  replace E : Ev p cX9_report 5 (some .int) RX9 (Cond.code yX9_report cX9_report 5 (some .int) :: bw) D cA tS A s m _ meth c := E
  replace hl : lv_has ls 5 [(0, .ref (h 0)), (1, .int x1), (2, .int x2), (3, .int x3), (4, .int x4)] := hl
  have hx := E.1.1
  have hb := E.1.2.1
  unfold f_X9_report at hM
  refine lv_aload_n hx hb dX9_report_0 rfl (lv_at hl 0 rfl) ?_
  refine lv_iconst (v := 2) hx hb dX9_report_1 (by decide) ?_
  refine lv_iload_n hx hb dX9_report_2 rfl (lv_at hl 1 rfl) ?_
  refine lv_iload_n hx hb dX9_report_3 rfl (lv_at hl 2 rfl) ?_
  refine lv_iload_n hx hb dX9_report_4 rfl (lv_at hl 3 rfl) ?_
  refine lv_iload hx hb dX9_report_5 (lv_at hl 4 rfl) ?_
  obtain ⟨p1, h2, hM⟩ := b_some hM
  refine q_cv (As := [.int 2, .int x1, .int x2, .int x3, .int x4]) (rest := []) E hw hl (c_X9_change l D cA tS A h F N 2 x1 x2 x3 x4 σ wd p1.1 p1.2 h2) 5 (bwV bw_c tb_1201 tb_1203 tb_44 tb_111 tb_1204) rfl (by decide +kernel) ⟨Nat.le_of_ble_eq_true rfl, Nat.le_of_ble_eq_true rfl⟩ 0 9 (T := TX9) (N := 17) rfl rfl rfl rfl (Nat.le_of_ble_eq_true rfl) ⟨Nat.zero_le _, Nat.zero_le _⟩ dX9_report_7 (fun H locs hw => ?_)
  cases hM
  exact q_reti E hw dX9_report_10
set_option maxRecDepth 100000 in
set_option maxHeartbeats 4000000 in
theorem c_X9_pause (l : Launch) (D : va_G) (cA : Nat → ClassId) (tS : Nat → Nat) (A : Nat → Prop) (h : Nat → Nat) (F : va_W) (N : Nat) (x1 : Int32) (σ : Sg) (wd : Int64) (r0 : Int32) (s0 : Sg) (hM : f_X9_pause N x1 σ wd = some (r0, s0)) : Ct l yX9_pause (Cond.code yX9_pause cX9_pause 2 (some .int) :: bw) 7 166 D cA tS A [.ref (h 0), .int x1] (wM cA h σ wd ++ F) (some (.int r0)) (wM cA h s0 wd ++ F) := by
  refine ct_of (by decide +kernel) (Nat.le_of_ble_eq_true rfl) ?_
  intro p e s m below meth c E hw ls hl
  replace E : Ev p cX9_pause 2 (some .int) RX9 (Cond.code yX9_pause cX9_pause 2 (some .int) :: bw) D cA tS A s m _ meth c := E
  replace hl : lv_has ls 2 [(0, .ref (h 0)), (1, .int x1)] := hl
  have hx := E.1.1
  have hb := E.1.2.1
  unfold f_X9_pause at hM
  refine lv_aload_n hx hb dX9_pause_0 rfl (lv_at hl 0 rfl) ?_
  refine lv_iconst (v := 3) hx hb dX9_pause_1 (by decide) ?_
  refine lv_iload_n hx hb dX9_pause_2 rfl (lv_at hl 1 rfl) ?_
  refine lv_iconst (v := 0) hx hb dX9_pause_3 (by decide) ?_
  refine lv_iconst (v := 0) hx hb dX9_pause_4 (by decide) ?_
  refine lv_iconst (v := 0) hx hb dX9_pause_5 (by decide) ?_
  obtain ⟨p1, h2, hM⟩ := b_some hM
  refine q_cv (As := [.int 3, .int x1, .int 0, .int 0, .int 0]) (rest := []) E hw hl (c_X9_change l D cA tS A h F N 3 x1 0 0 0 σ wd p1.1 p1.2 h2) 5 (bwV bw_c tb_1201 tb_1203 tb_44 tb_111 tb_1204) rfl (by decide +kernel) ⟨Nat.le_of_ble_eq_true rfl, Nat.le_of_ble_eq_true rfl⟩ 0 9 (T := TX9) (N := 17) rfl rfl rfl rfl (Nat.le_of_ble_eq_true rfl) ⟨Nat.zero_le _, Nat.zero_le _⟩ dX9_pause_6 (fun H locs hw => ?_)
  cases hM
  exact q_reti E hw dX9_pause_9
set_option maxRecDepth 100000 in
set_option maxHeartbeats 4000000 in
theorem c_X9_resume (l : Launch) (D : va_G) (cA : Nat → ClassId) (tS : Nat → Nat) (A : Nat → Prop) (h : Nat → Nat) (F : va_W) (N : Nat) (x1 : Int32) (σ : Sg) (wd : Int64) (r0 : Int32) (s0 : Sg) (hM : f_X9_resume N x1 σ wd = some (r0, s0)) : Ct l yX9_resume (Cond.code yX9_resume cX9_resume 2 (some .int) :: bw) 7 166 D cA tS A [.ref (h 0), .int x1] (wM cA h σ wd ++ F) (some (.int r0)) (wM cA h s0 wd ++ F) := by
  refine ct_of (by decide +kernel) (Nat.le_of_ble_eq_true rfl) ?_
  intro p e s m below meth c E hw ls hl
  replace E : Ev p cX9_resume 2 (some .int) RX9 (Cond.code yX9_resume cX9_resume 2 (some .int) :: bw) D cA tS A s m _ meth c := E
  replace hl : lv_has ls 2 [(0, .ref (h 0)), (1, .int x1)] := hl
  have hx := E.1.1
  have hb := E.1.2.1
  unfold f_X9_resume at hM
  refine lv_aload_n hx hb dX9_resume_0 rfl (lv_at hl 0 rfl) ?_
  refine lv_iconst (v := 4) hx hb dX9_resume_1 (by decide) ?_
  refine lv_iload_n hx hb dX9_resume_2 rfl (lv_at hl 1 rfl) ?_
  refine lv_iconst (v := 0) hx hb dX9_resume_3 (by decide) ?_
  refine lv_iconst (v := 0) hx hb dX9_resume_4 (by decide) ?_
  refine lv_iconst (v := 0) hx hb dX9_resume_5 (by decide) ?_
  obtain ⟨p1, h2, hM⟩ := b_some hM
  refine q_cv (As := [.int 4, .int x1, .int 0, .int 0, .int 0]) (rest := []) E hw hl (c_X9_change l D cA tS A h F N 4 x1 0 0 0 σ wd p1.1 p1.2 h2) 5 (bwV bw_c tb_1201 tb_1203 tb_44 tb_111 tb_1204) rfl (by decide +kernel) ⟨Nat.le_of_ble_eq_true rfl, Nat.le_of_ble_eq_true rfl⟩ 0 9 (T := TX9) (N := 17) rfl rfl rfl rfl (Nat.le_of_ble_eq_true rfl) ⟨Nat.zero_le _, Nat.zero_le _⟩ dX9_resume_6 (fun H locs hw => ?_)
  cases hM
  exact q_reti E hw dX9_resume_9
set_option maxRecDepth 100000 in
set_option maxHeartbeats 4000000 in
theorem c_X9_climb (l : Launch) (D : va_G) (cA : Nat → ClassId) (tS : Nat → Nat) (A : Nat → Prop) (h : Nat → Nat) (F : va_W) (N : Nat) (x1 : Int32) (σ : Sg) (wd : Int64) (r0 : Int32) (s0 : Sg) (hM : f_X9_climb N x1 σ wd = some (r0, s0)) : Ct l yX9_climb (Cond.code yX9_climb cX9_climb 2 (some .int) :: bw) 7 166 D cA tS A [.ref (h 0), .int x1] (wM cA h σ wd ++ F) (some (.int r0)) (wM cA h s0 wd ++ F) := by
  refine ct_of (by decide +kernel) (Nat.le_of_ble_eq_true rfl) ?_
  intro p e s m below meth c E hw ls hl
  replace E : Ev p cX9_climb 2 (some .int) RX9 (Cond.code yX9_climb cX9_climb 2 (some .int) :: bw) D cA tS A s m _ meth c := E
  replace hl : lv_has ls 2 [(0, .ref (h 0)), (1, .int x1)] := hl
  have hx := E.1.1
  have hb := E.1.2.1
  unfold f_X9_climb at hM
  refine lv_aload_n hx hb dX9_climb_0 rfl (lv_at hl 0 rfl) ?_
  refine lv_iconst (v := 5) hx hb dX9_climb_1 (by decide) ?_
  refine lv_iload_n hx hb dX9_climb_2 rfl (lv_at hl 1 rfl) ?_
  refine lv_iconst (v := 0) hx hb dX9_climb_3 (by decide) ?_
  refine lv_iconst (v := 0) hx hb dX9_climb_4 (by decide) ?_
  refine lv_iconst (v := 0) hx hb dX9_climb_5 (by decide) ?_
  obtain ⟨p1, h2, hM⟩ := b_some hM
  refine q_cv (As := [.int 5, .int x1, .int 0, .int 0, .int 0]) (rest := []) E hw hl (c_X9_change l D cA tS A h F N 5 x1 0 0 0 σ wd p1.1 p1.2 h2) 5 (bwV bw_c tb_1201 tb_1203 tb_44 tb_111 tb_1204) rfl (by decide +kernel) ⟨Nat.le_of_ble_eq_true rfl, Nat.le_of_ble_eq_true rfl⟩ 0 9 (T := TX9) (N := 17) rfl rfl rfl rfl (Nat.le_of_ble_eq_true rfl) ⟨Nat.zero_le _, Nat.zero_le _⟩ dX9_climb_6 (fun H locs hw => ?_)
  cases hM
  exact q_reti E hw dX9_climb_9
set_option maxRecDepth 100000 in
set_option maxHeartbeats 4000000 in
theorem c_X9_solve (l : Launch) (D : va_G) (cA : Nat → ClassId) (tS : Nat → Nat) (A : Nat → Prop) (h : Nat → Nat) (F : va_W) (N : Nat) (x1 : Int32) (σ : Sg) (wd : Int64) (r0 : Int32) (s0 : Sg) (hM : f_X9_solve N x1 σ wd = some (r0, s0)) : Ct l yX9_solve (Cond.code yX9_solve cX9_solve 2 (some .int) :: bw) 7 166 D cA tS A [.ref (h 0), .int x1] (wM cA h σ wd ++ F) (some (.int r0)) (wM cA h s0 wd ++ F) := by
  refine ct_of (by decide +kernel) (Nat.le_of_ble_eq_true rfl) ?_
  intro p e s m below meth c E hw ls hl
  replace E : Ev p cX9_solve 2 (some .int) RX9 (Cond.code yX9_solve cX9_solve 2 (some .int) :: bw) D cA tS A s m _ meth c := E
  replace hl : lv_has ls 2 [(0, .ref (h 0)), (1, .int x1)] := hl
  have hx := E.1.1
  have hb := E.1.2.1
  unfold f_X9_solve at hM
  refine lv_aload_n hx hb dX9_solve_0 rfl (lv_at hl 0 rfl) ?_
  refine lv_bipush (v := 6) hx hb dX9_solve_1 (by decide) ?_
  refine lv_iload_n hx hb dX9_solve_3 rfl (lv_at hl 1 rfl) ?_
  refine lv_iconst (v := 0) hx hb dX9_solve_4 (by decide) ?_
  refine lv_iconst (v := 0) hx hb dX9_solve_5 (by decide) ?_
  refine lv_iconst (v := 0) hx hb dX9_solve_6 (by decide) ?_
  obtain ⟨p1, h2, hM⟩ := b_some hM
  refine q_cv (As := [.int 6, .int x1, .int 0, .int 0, .int 0]) (rest := []) E hw hl (c_X9_change l D cA tS A h F N 6 x1 0 0 0 σ wd p1.1 p1.2 h2) 5 (bwV bw_c tb_1201 tb_1203 tb_44 tb_111 tb_1204) rfl (by decide +kernel) ⟨Nat.le_of_ble_eq_true rfl, Nat.le_of_ble_eq_true rfl⟩ 0 9 (T := TX9) (N := 17) rfl rfl rfl rfl (Nat.le_of_ble_eq_true rfl) ⟨Nat.zero_le _, Nat.zero_le _⟩ dX9_solve_7 (fun H locs hw => ?_)
  cases hM
  exact q_reti E hw dX9_solve_10
set_option maxRecDepth 100000 in
set_option maxHeartbeats 4000000 in
theorem c_X9_reopen (l : Launch) (D : va_G) (cA : Nat → ClassId) (tS : Nat → Nat) (A : Nat → Prop) (h : Nat → Nat) (F : va_W) (N : Nat) (x1 : Int32) (σ : Sg) (wd : Int64) (r0 : Int32) (s0 : Sg) (hM : f_X9_reopen N x1 σ wd = some (r0, s0)) : Ct l yX9_reopen (Cond.code yX9_reopen cX9_reopen 2 (some .int) :: bw) 7 166 D cA tS A [.ref (h 0), .int x1] (wM cA h σ wd ++ F) (some (.int r0)) (wM cA h s0 wd ++ F) := by
  refine ct_of (by decide +kernel) (Nat.le_of_ble_eq_true rfl) ?_
  intro p e s m below meth c E hw ls hl
  replace E : Ev p cX9_reopen 2 (some .int) RX9 (Cond.code yX9_reopen cX9_reopen 2 (some .int) :: bw) D cA tS A s m _ meth c := E
  replace hl : lv_has ls 2 [(0, .ref (h 0)), (1, .int x1)] := hl
  have hx := E.1.1
  have hb := E.1.2.1
  unfold f_X9_reopen at hM
  refine lv_aload_n hx hb dX9_reopen_0 rfl (lv_at hl 0 rfl) ?_
  refine lv_bipush (v := 7) hx hb dX9_reopen_1 (by decide) ?_
  refine lv_iload_n hx hb dX9_reopen_3 rfl (lv_at hl 1 rfl) ?_
  refine lv_iconst (v := 0) hx hb dX9_reopen_4 (by decide) ?_
  refine lv_iconst (v := 0) hx hb dX9_reopen_5 (by decide) ?_
  refine lv_iconst (v := 0) hx hb dX9_reopen_6 (by decide) ?_
  obtain ⟨p1, h2, hM⟩ := b_some hM
  refine q_cv (As := [.int 7, .int x1, .int 0, .int 0, .int 0]) (rest := []) E hw hl (c_X9_change l D cA tS A h F N 7 x1 0 0 0 σ wd p1.1 p1.2 h2) 5 (bwV bw_c tb_1201 tb_1203 tb_44 tb_111 tb_1204) rfl (by decide +kernel) ⟨Nat.le_of_ble_eq_true rfl, Nat.le_of_ble_eq_true rfl⟩ 0 9 (T := TX9) (N := 17) rfl rfl rfl rfl (Nat.le_of_ble_eq_true rfl) ⟨Nat.zero_le _, Nat.zero_le _⟩ dX9_reopen_7 (fun H locs hw => ?_)
  cases hM
  exact q_reti E hw dX9_reopen_10
set_option maxRecDepth 100000 in
set_option maxHeartbeats 4000000 in
theorem c_X9_join (l : Launch) (D : va_G) (cA : Nat → ClassId) (tS : Nat → Nat) (A : Nat → Prop) (h : Nat → Nat) (F : va_W) (N : Nat) (x1 : Int32) (x2 : Int32) (σ : Sg) (wd : Int64) (r0 : Int32) (s0 : Sg) (hM : f_X9_join N x1 x2 σ wd = some (r0, s0)) : Ct l yX9_join (Cond.code yX9_join cX9_join 3 (some .int) :: bw) 7 166 D cA tS A [.ref (h 0), .int x1, .int x2] (wM cA h σ wd ++ F) (some (.int r0)) (wM cA h s0 wd ++ F) := by
  refine ct_of (by decide +kernel) (Nat.le_of_ble_eq_true rfl) ?_
  intro p e s m below meth c E hw ls hl
  replace E : Ev p cX9_join 3 (some .int) RX9 (Cond.code yX9_join cX9_join 3 (some .int) :: bw) D cA tS A s m _ meth c := E
  replace hl : lv_has ls 3 [(0, .ref (h 0)), (1, .int x1), (2, .int x2)] := hl
  have hx := E.1.1
  have hb := E.1.2.1
  unfold f_X9_join at hM
  refine lv_aload_n hx hb dX9_join_0 rfl (lv_at hl 0 rfl) ?_
  refine lv_bipush (v := 8) hx hb dX9_join_1 (by decide) ?_
  refine lv_iload_n hx hb dX9_join_3 rfl (lv_at hl 1 rfl) ?_
  refine lv_iload_n hx hb dX9_join_4 rfl (lv_at hl 2 rfl) ?_
  refine lv_iconst (v := 0) hx hb dX9_join_5 (by decide) ?_
  refine lv_iconst (v := 0) hx hb dX9_join_6 (by decide) ?_
  obtain ⟨p1, h2, hM⟩ := b_some hM
  refine q_cv (As := [.int 8, .int x1, .int x2, .int 0, .int 0]) (rest := []) E hw hl (c_X9_change l D cA tS A h F N 8 x1 x2 0 0 σ wd p1.1 p1.2 h2) 5 (bwV bw_c tb_1201 tb_1203 tb_44 tb_111 tb_1204) rfl (by decide +kernel) ⟨Nat.le_of_ble_eq_true rfl, Nat.le_of_ble_eq_true rfl⟩ 0 9 (T := TX9) (N := 17) rfl rfl rfl rfl (Nat.le_of_ble_eq_true rfl) ⟨Nat.zero_le _, Nat.zero_le _⟩ dX9_join_7 (fun H locs hw => ?_)
  cases hM
  exact q_reti E hw dX9_join_10
set_option maxRecDepth 100000 in
set_option maxHeartbeats 4000000 in
theorem c_X9_part (l : Launch) (D : va_G) (cA : Nat → ClassId) (tS : Nat → Nat) (A : Nat → Prop) (h : Nat → Nat) (F : va_W) (N : Nat) (x1 : Int32) (σ : Sg) (wd : Int64) (r0 : Int32) (s0 : Sg) (hM : f_X9_part N x1 σ wd = some (r0, s0)) : Ct l yX9_part (Cond.code yX9_part cX9_part 2 (some .int) :: bw) 7 166 D cA tS A [.ref (h 0), .int x1] (wM cA h σ wd ++ F) (some (.int r0)) (wM cA h s0 wd ++ F) := by
  refine ct_of (by decide +kernel) (Nat.le_of_ble_eq_true rfl) ?_
  intro p e s m below meth c E hw ls hl
  replace E : Ev p cX9_part 2 (some .int) RX9 (Cond.code yX9_part cX9_part 2 (some .int) :: bw) D cA tS A s m _ meth c := E
  replace hl : lv_has ls 2 [(0, .ref (h 0)), (1, .int x1)] := hl
  have hx := E.1.1
  have hb := E.1.2.1
  unfold f_X9_part at hM
  refine lv_aload_n hx hb dX9_part_0 rfl (lv_at hl 0 rfl) ?_
  refine lv_bipush (v := 9) hx hb dX9_part_1 (by decide) ?_
  refine lv_iload_n hx hb dX9_part_3 rfl (lv_at hl 1 rfl) ?_
  refine lv_iconst (v := 0) hx hb dX9_part_4 (by decide) ?_
  refine lv_iconst (v := 0) hx hb dX9_part_5 (by decide) ?_
  refine lv_iconst (v := 0) hx hb dX9_part_6 (by decide) ?_
  obtain ⟨p1, h2, hM⟩ := b_some hM
  refine q_cv (As := [.int 9, .int x1, .int 0, .int 0, .int 0]) (rest := []) E hw hl (c_X9_change l D cA tS A h F N 9 x1 0 0 0 σ wd p1.1 p1.2 h2) 5 (bwV bw_c tb_1201 tb_1203 tb_44 tb_111 tb_1204) rfl (by decide +kernel) ⟨Nat.le_of_ble_eq_true rfl, Nat.le_of_ble_eq_true rfl⟩ 0 9 (T := TX9) (N := 17) rfl rfl rfl rfl (Nat.le_of_ble_eq_true rfl) ⟨Nat.zero_le _, Nat.zero_le _⟩ dX9_part_7 (fun H locs hw => ?_)
  cases hM
  exact q_reti E hw dX9_part_10
set_option maxRecDepth 100000 in
set_option maxHeartbeats 4000000 in
theorem c_X9_setPriority (l : Launch) (D : va_G) (cA : Nat → ClassId) (tS : Nat → Nat) (A : Nat → Prop) (h : Nat → Nat) (F : va_W) (N : Nat) (x1 : Int32) (x2 : Int32) (σ : Sg) (wd : Int64) (r0 : Int32) (s0 : Sg) (hM : f_X9_setPriority N x1 x2 σ wd = some (r0, s0)) : Ct l yX9_setPriority (Cond.code yX9_setPriority cX9_setPriority 3 (some .int) :: bw) 7 166 D cA tS A [.ref (h 0), .int x1, .int x2] (wM cA h σ wd ++ F) (some (.int r0)) (wM cA h s0 wd ++ F) := by
  refine ct_of (by decide +kernel) (Nat.le_of_ble_eq_true rfl) ?_
  intro p e s m below meth c E hw ls hl
  replace E : Ev p cX9_setPriority 3 (some .int) RX9 (Cond.code yX9_setPriority cX9_setPriority 3 (some .int) :: bw) D cA tS A s m _ meth c := E
  replace hl : lv_has ls 3 [(0, .ref (h 0)), (1, .int x1), (2, .int x2)] := hl
  have hx := E.1.1
  have hb := E.1.2.1
  unfold f_X9_setPriority at hM
  refine lv_aload_n hx hb dX9_setPriority_0 rfl (lv_at hl 0 rfl) ?_
  refine lv_bipush (v := 10) hx hb dX9_setPriority_1 (by decide) ?_
  refine lv_iload_n hx hb dX9_setPriority_3 rfl (lv_at hl 1 rfl) ?_
  refine lv_iload_n hx hb dX9_setPriority_4 rfl (lv_at hl 2 rfl) ?_
  refine lv_iconst (v := 0) hx hb dX9_setPriority_5 (by decide) ?_
  refine lv_iconst (v := 0) hx hb dX9_setPriority_6 (by decide) ?_
  obtain ⟨p1, h2, hM⟩ := b_some hM
  refine q_cv (As := [.int 10, .int x1, .int x2, .int 0, .int 0]) (rest := []) E hw hl (c_X9_change l D cA tS A h F N 10 x1 x2 0 0 σ wd p1.1 p1.2 h2) 5 (bwV bw_c tb_1201 tb_1203 tb_44 tb_111 tb_1204) rfl (by decide +kernel) ⟨Nat.le_of_ble_eq_true rfl, Nat.le_of_ble_eq_true rfl⟩ 0 9 (T := TX9) (N := 17) rfl rfl rfl rfl (Nat.le_of_ble_eq_true rfl) ⟨Nat.zero_le _, Nat.zero_le _⟩ dX9_setPriority_7 (fun H locs hw => ?_)
  cases hM
  exact q_reti E hw dX9_setPriority_10
set_option maxRecDepth 100000 in
set_option maxHeartbeats 4000000 in
theorem c_X9_timeLeft (l : Launch) (D : va_G) (cA : Nat → ClassId) (tS : Nat → Nat) (A : Nat → Prop) (h : Nat → Nat) (F : va_W) (x1 : Int32) (σ : Sg) (wd : Int64) (r0 : Int32) (hM : f_X9_timeLeft x1 σ wd = some r0) : Ct l yX9_timeLeft (Cond.code yX9_timeLeft cX9_timeLeft 2 (some .int) :: bw) 2 44 D cA tS A [.ref (h 0), .int x1] (wM cA h σ wd ++ F) (some (.int r0)) (wM cA h σ wd ++ F) := by
  refine ct_of (by decide +kernel) (Nat.le_of_ble_eq_true rfl) ?_
  intro p e s m below meth c E hw ls hl
  replace E : Ev p cX9_timeLeft 2 (some .int) RX9 (Cond.code yX9_timeLeft cX9_timeLeft 2 (some .int) :: bw) D cA tS A s m _ meth c := E
  replace hl : lv_has ls 2 [(0, .ref (h 0)), (1, .int x1)] := hl
  have hx := E.1.1
  have hb := E.1.2.1
  unfold f_X9_timeLeft at hM
  refine lv_aload_n hx hb dX9_timeLeft_0 rfl (lv_at hl 0 rfl) ?_
  refine lv_iload_n hx hb dX9_timeLeft_1 rfl (lv_at hl 1 rfl) ?_
  refine lv_iconst (v := 1) hx hb dX9_timeLeft_2 (by decide) ?_
  obtain ⟨p1, h2, hM⟩ := b_some hM
  refine q_cv (As := [.int x1, .int 1]) (rest := []) E hw hl (c_X9_ofKind l D cA tS A h F x1 1 σ wd p1 h2) 2 (bwV bw_c tb_1403 tb_1405 tb_73 tb_111 tb_1406) rfl (by decide +kernel) ⟨Nat.le_of_ble_eq_true rfl, Nat.le_of_ble_eq_true rfl⟩ 0 9 (T := TX9) (N := 17) rfl rfl rfl rfl (Nat.le_of_ble_eq_true rfl) ⟨Nat.zero_le _, Nat.zero_le _⟩ dX9_timeLeft_3 (fun H locs hw => ?_)
  refine lv_aload_n hx hb dX9_timeLeft_6 rfl (lv_at hl 0 rfl) ?_
  refine lv_iload_n hx hb dX9_timeLeft_7 rfl (lv_at hl 1 rfl) ?_
  refine lv_bipush (v := 8) hx hb dX9_timeLeft_8 (by decide) ?_
  obtain ⟨p3, h4, hM⟩ := b_some hM
  refine q_cv (As := [.int x1, .int 8]) (rest := [.int p1]) E hw hl (c_X9_ticket l D cA tS A h F x1 8 σ wd p3 h4) 2 (bwV bw_c tb_1241 tb_1243 tb_51 tb_111 tb_1244) rfl (by decide +kernel) ⟨Nat.le_of_ble_eq_true rfl, Nat.le_of_ble_eq_true rfl⟩ 0 9 (T := TX9) (N := 17) rfl rfl rfl rfl (Nat.le_of_ble_eq_true rfl) ⟨Nat.zero_le _, Nat.zero_le _⟩ dX9_timeLeft_10 (fun H locs hw => ?_)
  refine lv_isub hx hb dX9_timeLeft_13 ?_
  cases hM
  exact q_reti E hw dX9_timeLeft_14
set_option maxRecDepth 100000 in
set_option maxHeartbeats 4000000 in
theorem s_X9_mostUrgent_4 (l : Launch) (D : va_G) (cA : Nat → ClassId) (tS : Nat → Nat) (A : Nat → Prop) (h : Nat → Nat) (F : va_W) (N : Nat) {p : Program} {e : Env} {s : State} {m : MethodId} {args : Array Value} {below : List Frame} {meth : Method} {c : Code} (E : Ev p cX9_mostUrgent 4 (some .int) RX9 (Cond.code yX9_mostUrgent cX9_mostUrgent 4 (some .int) :: bw) D cA tS A s m args meth c) : ∀ (n : Nat) (x1 : Int32) (x2 : Int32) (x3 : Int32) (σ : Sg) (wd : Int64) (r0 : Int32) (hM : f_X9_mostUrgent_4 N n x1 x2 x3 σ wd = some r0) (H : Heap) (locs : List Loc) (hw : Wd D A (wM cA h σ wd ++ F) s.heap H locs) (ls : Array Slot) (hl : lv_has ls 4 [(0, .ref (h 0)), (1, .int x1), (2, .int x2), (3, .int x3)]), W p l e ({ frames := 3, cells := 0, slots := 0, locals := 65 } : Room) s m args below meth c H locs 0 0 (MQ below (QW D A (some (.int r0)) (wM cA h σ wd ++ F)) args s 0 0 A) (F0 m 4 ls []) := by
  have hx := E.1.1
  have hb := E.1.2.1
  intro n
  induction n with
  | zero =>
    intro x1 x2 x3 σ wd r0 hM
    cases hM
  | succ n ih =>
    intro x1 x2 x3 σ wd r0 hM H locs hw ls hl
    rw [f_X9_mostUrgent_4] at hM
    refine lv_iload_n hx hb dX9_mostUrgent_4 rfl (lv_at hl 3 rfl) ?_
    refine lv_aload_n hx hb dX9_mostUrgent_5 rfl (lv_at hl 0 rfl) ?_
    refine q_get (C := RX9) (T := TX9) (N := 17) (ci := 9) E (fun w h => List.mem_cons_of_mem _ (inX9 w h)) hw 0 rfl rfl 0 (by decide) (List.mem_cons_of_mem _ tb_1145) (v := .ref (h 1)) rfl dX9_mostUrgent_6 ?_
    refine lv_bipush (v := 56) hx hb dX9_mostUrgent_9 (by decide) ?_
    refine q_ald E hw 1 (n := 4619) rfl (by decide +kernel) (x := (σ 1 (ix 56))) rfl dX9_mostUrgent_11 ?_
    refine lv_icmp_ge (tgt := 111) hx hb dX9_mostUrgent_12 (by decide) (fun c1 => ?_) (fun c1 => ?_)
    · replace hM := i_pos hM c1
      refine lv_iload_n hx hb dX9_mostUrgent_111 rfl (lv_at hl 2 rfl) ?_
      cases hM
      exact q_reti E hw dX9_mostUrgent_112
    · replace hM := i_neg hM c1
      refine lv_aload_n hx hb dX9_mostUrgent_15 rfl (lv_at hl 0 rfl) ?_
      refine lv_iload_n hx hb dX9_mostUrgent_16 rfl (lv_at hl 3 rfl) ?_
      refine lv_iconst (v := 0) hx hb dX9_mostUrgent_17 (by decide) ?_
      obtain ⟨p2, h3, hM⟩ := b_some hM
      refine q_cv (As := [.int x3, .int 0]) (rest := []) E hw hl (c_X9_is l D cA tS A h F x3 0 σ wd p2 h3) 2 (bwV bw_c tb_1249 tb_1251 tb_53 tb_111 tb_1252) rfl (by decide +kernel) ⟨Nat.le_of_ble_eq_true rfl, Nat.le_of_ble_eq_true rfl⟩ 0 9 (T := TX9) (N := 17) rfl rfl rfl rfl (Nat.le_of_ble_eq_true rfl) ⟨Nat.zero_le _, Nat.zero_le _⟩ dX9_mostUrgent_18 (fun H locs hw => ?_)
      refine lv_if_eq (tgt := 105) hx hb dX9_mostUrgent_21 (by decide) (fun c4 => ?_) (fun c4 => ?_)
      · replace hM := i_pos hM c4
        refine lv_iinc (v := (x3 + 1)) (lv' := [(3, .int (x3 + 1)), (0, .ref (h 0)), (1, .int x1), (2, .int x2)]) hx hb dX9_mostUrgent_105 hl (k := 3) rfl rfl (by decide) rfl (fun ls hl => ?_)
        refine lv_goto (tgt := 4) hx hb dX9_mostUrgent_108 (by decide) ?_
        exact ih _ _ _ _ _ _ hM _ _ hw _ (lv_sub hl [1, 2, 3, 0] rfl)
      · replace hM := i_neg hM c4
        refine lv_aload_n hx hb dX9_mostUrgent_24 rfl (lv_at hl 0 rfl) ?_
        refine lv_iload_n hx hb dX9_mostUrgent_25 rfl (lv_at hl 3 rfl) ?_
        refine lv_iconst (v := 4) hx hb dX9_mostUrgent_26 (by decide) ?_
        obtain ⟨p5, h6, hM⟩ := b_some hM
        refine q_cv (As := [.int x3, .int 4]) (rest := []) E hw hl (c_X9_ticket l D cA tS A h F x3 4 σ wd p5 h6) 2 (bwV bw_c tb_1241 tb_1243 tb_51 tb_111 tb_1244) rfl (by decide +kernel) ⟨Nat.le_of_ble_eq_true rfl, Nat.le_of_ble_eq_true rfl⟩ 0 9 (T := TX9) (N := 17) rfl rfl rfl rfl (Nat.le_of_ble_eq_true rfl) ⟨Nat.zero_le _, Nat.zero_le _⟩ dX9_mostUrgent_27 (fun H locs hw => ?_)
        refine lv_iload_n hx hb dX9_mostUrgent_30 rfl (lv_at hl 1 rfl) ?_
        refine lv_icmp_eq (tgt := 37) hx hb dX9_mostUrgent_31 (by decide) (fun c7 => ?_) (fun c7 => ?_)
        · replace hM := i_pos hM c7
          refine lv_iload_n hx hb dX9_mostUrgent_37 rfl (lv_at hl 2 rfl) ?_
          refine lv_iconst (v := (-1)) hx hb dX9_mostUrgent_38 (by decide) ?_
          refine lv_icmp_ne (tgt := 47) hx hb dX9_mostUrgent_39 (by decide) (fun c8 => ?_) (fun c8 => ?_)
          · replace hM := i_neg hM c8
            refine lv_aload_n hx hb dX9_mostUrgent_47 rfl (lv_at hl 0 rfl) ?_
            refine lv_iload_n hx hb dX9_mostUrgent_48 rfl (lv_at hl 3 rfl) ?_
            refine lv_iconst (v := 3) hx hb dX9_mostUrgent_49 (by decide) ?_
            obtain ⟨p9, h10, hM⟩ := b_some hM
            refine q_cv (As := [.int x3, .int 3]) (rest := []) E hw hl (c_X9_ticket l D cA tS A h F x3 3 σ wd p9 h10) 2 (bwV bw_c tb_1241 tb_1243 tb_51 tb_111 tb_1244) rfl (by decide +kernel) ⟨Nat.le_of_ble_eq_true rfl, Nat.le_of_ble_eq_true rfl⟩ 0 9 (T := TX9) (N := 17) rfl rfl rfl rfl (Nat.le_of_ble_eq_true rfl) ⟨Nat.zero_le _, Nat.zero_le _⟩ dX9_mostUrgent_50 (fun H locs hw => ?_)
            refine lv_aload_n hx hb dX9_mostUrgent_53 rfl (lv_at hl 0 rfl) ?_
            refine lv_iload_n hx hb dX9_mostUrgent_54 rfl (lv_at hl 2 rfl) ?_
            refine lv_iconst (v := 3) hx hb dX9_mostUrgent_55 (by decide) ?_
            obtain ⟨p11, h12, hM⟩ := b_some hM
            refine q_cv (As := [.int x2, .int 3]) (rest := [.int p9]) E hw hl (c_X9_ticket l D cA tS A h F x2 3 σ wd p11 h12) 2 (bwV bw_c tb_1241 tb_1243 tb_51 tb_111 tb_1244) rfl (by decide +kernel) ⟨Nat.le_of_ble_eq_true rfl, Nat.le_of_ble_eq_true rfl⟩ 0 9 (T := TX9) (N := 17) rfl rfl rfl rfl (Nat.le_of_ble_eq_true rfl) ⟨Nat.zero_le _, Nat.zero_le _⟩ dX9_mostUrgent_56 (fun H locs hw => ?_)
            refine lv_icmp_eq (tgt := 86) hx hb dX9_mostUrgent_59 (by decide) (fun c13 => ?_) (fun c13 => ?_)
            · replace hM := i_pos hM c13
              refine lv_aload_n hx hb dX9_mostUrgent_86 rfl (lv_at hl 0 rfl) ?_
              refine lv_iload_n hx hb dX9_mostUrgent_87 rfl (lv_at hl 3 rfl) ?_
              obtain ⟨p14, h15, hM⟩ := b_some hM
              refine q_cv (As := [.int x3]) (rest := []) E hw hl (c_X9_timeLeft l D cA tS A h F x3 σ wd p14 h15) 1 (bwV bw_c tb_1399 tb_1401 tb_72 tb_111 tb_1402) rfl (by decide +kernel) ⟨Nat.le_of_ble_eq_true rfl, Nat.le_of_ble_eq_true rfl⟩ 0 9 (T := TX9) (N := 17) rfl rfl rfl rfl (Nat.le_of_ble_eq_true rfl) ⟨Nat.zero_le _, Nat.zero_le _⟩ dX9_mostUrgent_88 (fun H locs hw => ?_)
              refine lv_aload_n hx hb dX9_mostUrgent_91 rfl (lv_at hl 0 rfl) ?_
              refine lv_iload_n hx hb dX9_mostUrgent_92 rfl (lv_at hl 2 rfl) ?_
              obtain ⟨p16, h17, hM⟩ := b_some hM
              refine q_cv (As := [.int x2]) (rest := [.int p14]) E hw hl (c_X9_timeLeft l D cA tS A h F x2 σ wd p16 h17) 1 (bwV bw_c tb_1399 tb_1401 tb_72 tb_111 tb_1402) rfl (by decide +kernel) ⟨Nat.le_of_ble_eq_true rfl, Nat.le_of_ble_eq_true rfl⟩ 0 9 (T := TX9) (N := 17) rfl rfl rfl rfl (Nat.le_of_ble_eq_true rfl) ⟨Nat.zero_le _, Nat.zero_le _⟩ dX9_mostUrgent_93 (fun H locs hw => ?_)
              refine lv_icmp_ge (tgt := 103) hx hb dX9_mostUrgent_96 (by decide) (fun c18 => ?_) (fun c18 => ?_)
              · replace hM := i_pos hM c18
                refine lv_iload_n hx hb dX9_mostUrgent_103 rfl (lv_at hl 2 rfl) ?_
                refine lv_istore_n (lv' := [(2, .int x2), (0, .ref (h 0)), (1, .int x1), (3, .int x3)]) hx hb dX9_mostUrgent_104 rfl hl (by decide) rfl (fun ls hl => ?_)
                refine lv_iinc (v := (x3 + 1)) (lv' := [(3, .int (x3 + 1)), (2, .int x2), (0, .ref (h 0)), (1, .int x1)]) hx hb dX9_mostUrgent_105 hl (k := 3) rfl rfl (by decide) rfl (fun ls hl => ?_)
                refine lv_goto (tgt := 4) hx hb dX9_mostUrgent_108 (by decide) ?_
                exact ih _ _ _ _ _ _ hM _ _ hw _ (lv_sub hl [2, 3, 1, 0] rfl)
              · replace hM := i_neg hM c18
                refine lv_iload_n hx hb dX9_mostUrgent_99 rfl (lv_at hl 3 rfl) ?_
                refine lv_goto (tgt := 104) hx hb dX9_mostUrgent_100 (by decide) ?_
                refine lv_istore_n (lv' := [(2, .int x3), (0, .ref (h 0)), (1, .int x1), (3, .int x3)]) hx hb dX9_mostUrgent_104 rfl hl (by decide) rfl (fun ls hl => ?_)
                refine lv_iinc (v := (x3 + 1)) (lv' := [(3, .int (x3 + 1)), (2, .int x3), (0, .ref (h 0)), (1, .int x1)]) hx hb dX9_mostUrgent_105 hl (k := 3) rfl rfl (by decide) rfl (fun ls hl => ?_)
                refine lv_goto (tgt := 4) hx hb dX9_mostUrgent_108 (by decide) ?_
                exact ih _ _ _ _ _ _ hM _ _ hw _ (lv_sub hl [2, 3, 1, 0] rfl)
            · replace hM := i_neg hM c13
              refine lv_aload_n hx hb dX9_mostUrgent_62 rfl (lv_at hl 0 rfl) ?_
              refine lv_iload_n hx hb dX9_mostUrgent_63 rfl (lv_at hl 3 rfl) ?_
              refine lv_iconst (v := 3) hx hb dX9_mostUrgent_64 (by decide) ?_
              obtain ⟨p19, h20, hM⟩ := b_some hM
              refine q_cv (As := [.int x3, .int 3]) (rest := []) E hw hl (c_X9_ticket l D cA tS A h F x3 3 σ wd p19 h20) 2 (bwV bw_c tb_1241 tb_1243 tb_51 tb_111 tb_1244) rfl (by decide +kernel) ⟨Nat.le_of_ble_eq_true rfl, Nat.le_of_ble_eq_true rfl⟩ 0 9 (T := TX9) (N := 17) rfl rfl rfl rfl (Nat.le_of_ble_eq_true rfl) ⟨Nat.zero_le _, Nat.zero_le _⟩ dX9_mostUrgent_65 (fun H locs hw => ?_)
              refine lv_aload_n hx hb dX9_mostUrgent_68 rfl (lv_at hl 0 rfl) ?_
              refine lv_iload_n hx hb dX9_mostUrgent_69 rfl (lv_at hl 2 rfl) ?_
              refine lv_iconst (v := 3) hx hb dX9_mostUrgent_70 (by decide) ?_
              obtain ⟨p21, h22, hM⟩ := b_some hM
              refine q_cv (As := [.int x2, .int 3]) (rest := [.int p19]) E hw hl (c_X9_ticket l D cA tS A h F x2 3 σ wd p21 h22) 2 (bwV bw_c tb_1241 tb_1243 tb_51 tb_111 tb_1244) rfl (by decide +kernel) ⟨Nat.le_of_ble_eq_true rfl, Nat.le_of_ble_eq_true rfl⟩ 0 9 (T := TX9) (N := 17) rfl rfl rfl rfl (Nat.le_of_ble_eq_true rfl) ⟨Nat.zero_le _, Nat.zero_le _⟩ dX9_mostUrgent_71 (fun H locs hw => ?_)
              refine lv_icmp_le (tgt := 81) hx hb dX9_mostUrgent_74 (by decide) (fun c23 => ?_) (fun c23 => ?_)
              · replace hM := i_pos hM c23
                refine lv_iload_n hx hb dX9_mostUrgent_81 rfl (lv_at hl 2 rfl) ?_
                refine lv_istore_n (lv' := [(2, .int x2), (0, .ref (h 0)), (1, .int x1), (3, .int x3)]) hx hb dX9_mostUrgent_82 rfl hl (by decide) rfl (fun ls hl => ?_)
                refine lv_goto (tgt := 105) hx hb dX9_mostUrgent_83 (by decide) ?_
                refine lv_iinc (v := (x3 + 1)) (lv' := [(3, .int (x3 + 1)), (2, .int x2), (0, .ref (h 0)), (1, .int x1)]) hx hb dX9_mostUrgent_105 hl (k := 3) rfl rfl (by decide) rfl (fun ls hl => ?_)
                refine lv_goto (tgt := 4) hx hb dX9_mostUrgent_108 (by decide) ?_
                exact ih _ _ _ _ _ _ hM _ _ hw _ (lv_sub hl [2, 3, 1, 0] rfl)
              · replace hM := i_neg hM c23
                refine lv_iload_n hx hb dX9_mostUrgent_77 rfl (lv_at hl 3 rfl) ?_
                refine lv_goto (tgt := 82) hx hb dX9_mostUrgent_78 (by decide) ?_
                refine lv_istore_n (lv' := [(2, .int x3), (0, .ref (h 0)), (1, .int x1), (3, .int x3)]) hx hb dX9_mostUrgent_82 rfl hl (by decide) rfl (fun ls hl => ?_)
                refine lv_goto (tgt := 105) hx hb dX9_mostUrgent_83 (by decide) ?_
                refine lv_iinc (v := (x3 + 1)) (lv' := [(3, .int (x3 + 1)), (2, .int x3), (0, .ref (h 0)), (1, .int x1)]) hx hb dX9_mostUrgent_105 hl (k := 3) rfl rfl (by decide) rfl (fun ls hl => ?_)
                refine lv_goto (tgt := 4) hx hb dX9_mostUrgent_108 (by decide) ?_
                exact ih _ _ _ _ _ _ hM _ _ hw _ (lv_sub hl [2, 3, 1, 0] rfl)
          · replace hM := i_pos hM c8
            refine lv_iload_n hx hb dX9_mostUrgent_42 rfl (lv_at hl 3 rfl) ?_
            refine lv_istore_n (lv' := [(2, .int x3), (0, .ref (h 0)), (1, .int x1), (3, .int x3)]) hx hb dX9_mostUrgent_43 rfl hl (by decide) rfl (fun ls hl => ?_)
            refine lv_goto (tgt := 105) hx hb dX9_mostUrgent_44 (by decide) ?_
            refine lv_iinc (v := (x3 + 1)) (lv' := [(3, .int (x3 + 1)), (2, .int x3), (0, .ref (h 0)), (1, .int x1)]) hx hb dX9_mostUrgent_105 hl (k := 3) rfl rfl (by decide) rfl (fun ls hl => ?_)
            refine lv_goto (tgt := 4) hx hb dX9_mostUrgent_108 (by decide) ?_
            exact ih _ _ _ _ _ _ hM _ _ hw _ (lv_sub hl [2, 3, 1, 0] rfl)
        · replace hM := i_neg hM c7
          refine lv_goto (tgt := 105) hx hb dX9_mostUrgent_34 (by decide) ?_
          refine lv_iinc (v := (x3 + 1)) (lv' := [(3, .int (x3 + 1)), (0, .ref (h 0)), (1, .int x1), (2, .int x2)]) hx hb dX9_mostUrgent_105 hl (k := 3) rfl rfl (by decide) rfl (fun ls hl => ?_)
          refine lv_goto (tgt := 4) hx hb dX9_mostUrgent_108 (by decide) ?_
          exact ih _ _ _ _ _ _ hM _ _ hw _ (lv_sub hl [1, 2, 3, 0] rfl)
set_option maxRecDepth 100000 in
set_option maxHeartbeats 4000000 in
theorem c_X9_mostUrgent (l : Launch) (D : va_G) (cA : Nat → ClassId) (tS : Nat → Nat) (A : Nat → Prop) (h : Nat → Nat) (F : va_W) (N : Nat) (x1 : Int32) (σ : Sg) (wd : Int64) (r0 : Int32) (hM : f_X9_mostUrgent N x1 σ wd = some r0) : Ct l yX9_mostUrgent (Cond.code yX9_mostUrgent cX9_mostUrgent 4 (some .int) :: bw) 3 65 D cA tS A [.ref (h 0), .int x1] (wM cA h σ wd ++ F) (some (.int r0)) (wM cA h σ wd ++ F) := by
  refine ct_of (by decide +kernel) (Nat.le_of_ble_eq_true rfl) ?_
  intro p e s m below meth c E hw ls hl
  replace E : Ev p cX9_mostUrgent 4 (some .int) RX9 (Cond.code yX9_mostUrgent cX9_mostUrgent 4 (some .int) :: bw) D cA tS A s m _ meth c := E
  replace hl : lv_has ls 4 [(0, .ref (h 0)), (1, .int x1)] := hl
  have hx := E.1.1
  have hb := E.1.2.1
  unfold f_X9_mostUrgent at hM
  refine lv_iconst (v := (-1)) hx hb dX9_mostUrgent_0 (by decide) ?_
  refine lv_istore_n (lv' := [(2, .int (-1)), (0, .ref (h 0)), (1, .int x1)]) hx hb dX9_mostUrgent_1 rfl hl (by decide) rfl (fun ls hl => ?_)
  refine lv_iconst (v := 0) hx hb dX9_mostUrgent_2 (by decide) ?_
  refine lv_istore_n (lv' := [(3, .int 0), (2, .int (-1)), (0, .ref (h 0)), (1, .int x1)]) hx hb dX9_mostUrgent_3 rfl hl (by decide) rfl (fun ls hl => ?_)
  exact s_X9_mostUrgent_4 l D cA tS A h F N E N _ _ _ _ _ _ hM _ _ hw _ (lv_sub hl [2, 3, 1, 0] rfl)
