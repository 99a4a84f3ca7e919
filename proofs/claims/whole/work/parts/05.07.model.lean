set_option maxRecDepth 100000 in
set_option maxHeartbeats 4000000 in
theorem s_X9_takeTickets_67 (l : Launch) (D : va_G) (cA : Nat → ClassId) (tS : Nat → Nat) (A : Nat → Prop) (h : Nat → Nat) (F : va_W) (N : Nat) (k30 : Int32 → Int32 → Int32 → Sg → Int64 → Option (Sg)) {p : Program} {e : Env} {s : State} {m : MethodId} {args : Array Value} {below : List Frame} {meth : Method} {c : Code} (E : Ev p cX9_takeTickets 4 none RX9 (Cond.code yX9_takeTickets cX9_takeTickets 4 none :: bw) D cA tS A s m args meth c) (hk30 : ∀ (x1 : Int32) (x2 : Int32) (x3 : Int32) (σ : Sg) (wd : Int64) (s0 : Sg) (hM : k30 x1 x2 x3 σ wd = some s0) (H : Heap) (locs : List Loc) (hw : Wd D A (wM cA h σ wd ++ F) s.heap H locs) (ls : Array Slot) (hl : lv_has ls 4 [(0, .ref (h 0)), (1, .int x1), (2, .int x2), (3, .int x3)]), W p l e ({ frames := 4, cells := 0, slots := 0, locals := 89 } : Room) s m args below meth c H locs 0 0 (MQ below (QW D A none (wM cA h s0 wd ++ F)) args s 0 0 A) (F0 m 30 ls [])) : ∀ (x1 : Int32) (x2 : Int32) (x3 : Int32) (σ : Sg) (wd : Int64) (s0 : Sg) (hM : f_X9_takeTickets_67 N k30 x1 x2 x3 σ wd = some s0) (H : Heap) (locs : List Loc) (hw : Wd D A (wM cA h σ wd ++ F) s.heap H locs) (ls : Array Slot) (hl : lv_has ls 4 [(0, .ref (h 0)), (1, .int x1), (2, .int x2), (3, .int x3)]), W p l e ({ frames := 4, cells := 0, slots := 0, locals := 89 } : Room) s m args below meth c H locs 0 0 (MQ below (QW D A none (wM cA h s0 wd ++ F)) args s 0 0 A) (F0 m 67 ls []) := by
  have hx := E.1.1
  have hb := E.1.2.1
  intro x1 x2 x3 σ wd s0 hM H locs hw ls hl
  unfold f_X9_takeTickets_67 at hM
  refine lv_aload_n hx hb dX9_takeTickets_67 rfl (lv_at hl 0 rfl) ?_
  refine lv_aload_n hx hb dX9_takeTickets_68 rfl (lv_at hl 0 rfl) ?_
  refine q_get (C := RX9) (T := TX9) (N := 17) (ci := 9) E (fun w h => List.mem_cons_of_mem _ (inX9 w h)) hw 0 rfl rfl 0 (by decide) (List.mem_cons_of_mem _ tb_1145) (v := .ref (h 1)) rfl dX9_takeTickets_69 ?_
  refine lv_iconst (v := 0) hx hb dX9_takeTickets_72 (by decide) ?_
  refine q_ald E hw 1 (n := 4619) rfl (by decide +kernel) (x := (σ 1 (ix 0))) rfl dX9_takeTickets_73 ?_
  refine lv_iconst (v := 1) hx hb dX9_takeTickets_74 (by decide) ?_
  refine lv_iload_n hx hb dX9_takeTickets_75 rfl (lv_at hl 3 rfl) ?_
  refine lv_iload_n hx hb dX9_takeTickets_76 rfl (lv_at hl 1 rfl) ?_
  obtain ⟨p1, h2, hM⟩ := b_some hM
  refine q_cvv (As := [.int (σ 1 (ix 0)), .int 1, .int x3, .int x1]) (rest := []) E hw hl (c_X9_log l D cA tS A h F (σ 1 (ix 0)) 1 x3 x1 σ wd p1 h2) 4 (bwV bw_c tb_1281 tb_1283 tb_61 tb_111 tb_1284) rfl (by decide +kernel) ⟨Nat.le_of_ble_eq_true rfl, Nat.le_of_ble_eq_true rfl⟩ 0 9 (T := TX9) (N := 17) rfl rfl rfl rfl (Nat.le_of_ble_eq_true rfl) ⟨Nat.zero_le _, Nat.zero_le _⟩ dX9_takeTickets_77 (fun H locs hw => ?_)
  refine lv_iinc (v := (x2 + (-1))) (lv' := [(2, .int (x2 + (-1))), (0, .ref (h 0)), (1, .int x1), (3, .int x3)]) hx hb dX9_takeTickets_80 hl (k := 2) rfl rfl (by decide) rfl (fun ls hl => ?_)
  refine lv_iload_n hx hb dX9_takeTickets_83 rfl (lv_at hl 0 rfl) ?_
  refine lv_if_le (tgt := 95) hx hb dX9_takeTickets_84 (by decide) (fun c3 => ?_) (fun c3 => ?_)
  · replace hM := i_pos hM c3
    refine lv_iconst (v := (-1)) hx hb dX9_takeTickets_95 (by decide) ?_
    refine lv_istore_n (lv' := [(3, .int (-1)), (2, .int (x2 + (-1))), (0, .ref (h 0)), (1, .int x1)]) hx hb dX9_takeTickets_96 rfl hl (by decide) rfl (fun ls hl => ?_)
    refine lv_goto (tgt := 30) hx hb dX9_takeTickets_97 (by decide) ?_
    exact hk30 _ _ _ _ _ _ hM _ _ hw _ (lv_sub hl [2, 3, 1, 0] rfl)
  · replace hM := i_neg hM c3
    refine lv_aload_n hx hb dX9_takeTickets_87 rfl (lv_at hl 1 rfl) ?_
    refine lv_iload_n hx hb dX9_takeTickets_88 rfl (lv_at hl 2 rfl) ?_
    obtain ⟨p4, h5, hM⟩ := b_some hM
    refine q_cv (As := [.int x1]) (rest := []) E hw hl (c_X9_mostUrgent l D cA tS A h F N x1 p1 wd p4 h5) 1 (bwV bw_c tb_1395 tb_1397 tb_71 tb_111 tb_1398) rfl (by decide +kernel) ⟨Nat.le_of_ble_eq_true rfl, Nat.le_of_ble_eq_true rfl⟩ 0 9 (T := TX9) (N := 17) rfl rfl rfl rfl (Nat.le_of_ble_eq_true rfl) ⟨Nat.zero_le _, Nat.zero_le _⟩ dX9_takeTickets_89 (fun H locs hw => ?_)
    refine lv_goto (tgt := 96) hx hb dX9_takeTickets_92 (by decide) ?_
    refine lv_istore_n (lv' := [(3, .int p4), (2, .int (x2 + (-1))), (0, .ref (h 0)), (1, .int x1)]) hx hb dX9_takeTickets_96 rfl hl (by decide) rfl (fun ls hl => ?_)
    refine lv_goto (tgt := 30) hx hb dX9_takeTickets_97 (by decide) ?_
    exact hk30 _ _ _ _ _ _ hM _ _ hw _ (lv_sub hl [2, 3, 1, 0] rfl)
set_option maxRecDepth 100000 in
set_option maxHeartbeats 4000000 in
theorem s_X9_takeTickets_30 (l : Launch) (D : va_G) (cA : Nat → ClassId) (tS : Nat → Nat) (A : Nat → Prop) (h : Nat → Nat) (F : va_W) (N : Nat) {p : Program} {e : Env} {s : State} {m : MethodId} {args : Array Value} {below : List Frame} {meth : Method} {c : Code} (E : Ev p cX9_takeTickets 4 none RX9 (Cond.code yX9_takeTickets cX9_takeTickets 4 none :: bw) D cA tS A s m args meth c) : ∀ (n : Nat) (x1 : Int32) (x2 : Int32) (x3 : Int32) (σ : Sg) (wd : Int64) (s0 : Sg) (hM : f_X9_takeTickets_30 N n x1 x2 x3 σ wd = some s0) (H : Heap) (locs : List Loc) (hw : Wd D A (wM cA h σ wd ++ F) s.heap H locs) (ls : Array Slot) (hl : lv_has ls 4 [(0, .ref (h 0)), (1, .int x1), (2, .int x2), (3, .int x3)]), W p l e ({ frames := 4, cells := 0, slots := 0, locals := 89 } : Room) s m args below meth c H locs 0 0 (MQ below (QW D A none (wM cA h s0 wd ++ F)) args s 0 0 A) (F0 m 30 ls []) := by
  have hx := E.1.1
  have hb := E.1.2.1
  intro n
  induction n with
  | zero =>
    intro x1 x2 x3 σ wd s0 hM
    cases hM
  | succ n ih =>
    intro x1 x2 x3 σ wd s0 hM H locs hw ls hl
    rw [f_X9_takeTickets_30] at hM
    refine lv_iload_n hx hb dX9_takeTickets_30 rfl (lv_at hl 3 rfl) ?_
    refine lv_iconst (v := (-1)) hx hb dX9_takeTickets_31 (by decide) ?_
    refine lv_icmp_eq (tgt := 100) hx hb dX9_takeTickets_32 (by decide) (fun c1 => ?_) (fun c1 => ?_)
    · replace hM := i_pos hM c1
      cases hM
      exact q_retv E hw dX9_takeTickets_100
    · replace hM := i_neg hM c1
      refine lv_aload_n hx hb dX9_takeTickets_35 rfl (lv_at hl 0 rfl) ?_
      refine lv_iload_n hx hb dX9_takeTickets_36 rfl (lv_at hl 3 rfl) ?_
      refine lv_bipush (v := 9) hx hb dX9_takeTickets_37 (by decide) ?_
      refine lv_iconst (v := 1) hx hb dX9_takeTickets_39 (by decide) ?_
      obtain ⟨p2, h3, hM⟩ := b_some hM
      refine q_cvv (As := [.int x3, .int 9, .int 1]) (rest := []) E hw hl (c_X9_setTicket l D cA tS A h F x3 9 1 σ wd p2 h3) 3 (bwV bw_c tb_1273 tb_1275 tb_59 tb_111 tb_1276) rfl (by decide +kernel) ⟨Nat.le_of_ble_eq_true rfl, Nat.le_of_ble_eq_true rfl⟩ 0 9 (T := TX9) (N := 17) rfl rfl rfl rfl (Nat.le_of_ble_eq_true rfl) ⟨Nat.zero_le _, Nat.zero_le _⟩ dX9_takeTickets_40 (fun H locs hw => ?_)
      refine lv_aload_n hx hb dX9_takeTickets_43 rfl (lv_at hl 0 rfl) ?_
      refine lv_iload_n hx hb dX9_takeTickets_44 rfl (lv_at hl 3 rfl) ?_
      refine lv_bipush (v := 12) hx hb dX9_takeTickets_45 (by decide) ?_
      obtain ⟨p4, h5, hM⟩ := b_some hM
      refine q_cv (As := [.int x3, .int 12]) (rest := []) E hw hl (c_X9_ticket l D cA tS A h F x3 12 p2 wd p4 h5) 2 (bwV bw_c tb_1241 tb_1243 tb_51 tb_111 tb_1244) rfl (by decide +kernel) ⟨Nat.le_of_ble_eq_true rfl, Nat.le_of_ble_eq_true rfl⟩ 0 9 (T := TX9) (N := 17) rfl rfl rfl rfl (Nat.le_of_ble_eq_true rfl) ⟨Nat.zero_le _, Nat.zero_le _⟩ dX9_takeTickets_47 (fun H locs hw => ?_)
      refine lv_iconst (v := (-1)) hx hb dX9_takeTickets_50 (by decide) ?_
      refine lv_icmp_ne (tgt := 67) hx hb dX9_takeTickets_51 (by decide) (fun c6 => ?_) (fun c6 => ?_)
      · replace hM := i_neg hM c6
        exact s_X9_takeTickets_67 l D cA tS A h F N (fun x1 x2 x3 σ wd => f_X9_takeTickets_30 N n x1 x2 x3 σ wd) E ih _ _ _ _ _ _ hM _ _ hw _ (lv_sub hl [0, 1, 2, 3] rfl)
      · replace hM := i_pos hM c6
        refine lv_aload_n hx hb dX9_takeTickets_54 rfl (lv_at hl 0 rfl) ?_
        refine lv_iload_n hx hb dX9_takeTickets_55 rfl (lv_at hl 3 rfl) ?_
        refine lv_bipush (v := 12) hx hb dX9_takeTickets_56 (by decide) ?_
        refine lv_aload_n hx hb dX9_takeTickets_58 rfl (lv_at hl 0 rfl) ?_
        refine q_get (C := RX9) (T := TX9) (N := 17) (ci := 9) E (fun w h => List.mem_cons_of_mem _ (inX9 w h)) hw 0 rfl rfl 0 (by decide) (List.mem_cons_of_mem _ tb_1145) (v := .ref (h 1)) rfl dX9_takeTickets_59 ?_
        refine lv_iconst (v := 0) hx hb dX9_takeTickets_62 (by decide) ?_
        refine q_ald E hw 1 (n := 4619) rfl (by decide +kernel) (x := (p2 1 (ix 0))) rfl dX9_takeTickets_63 ?_
        obtain ⟨p7, h8, hM⟩ := b_some hM
        refine q_cvv (As := [.int x3, .int 12, .int (p2 1 (ix 0))]) (rest := []) E hw hl (c_X9_setTicket l D cA tS A h F x3 12 (p2 1 (ix 0)) p2 wd p7 h8) 3 (bwV bw_c tb_1273 tb_1275 tb_59 tb_111 tb_1276) rfl (by decide +kernel) ⟨Nat.le_of_ble_eq_true rfl, Nat.le_of_ble_eq_true rfl⟩ 0 9 (T := TX9) (N := 17) rfl rfl rfl rfl (Nat.le_of_ble_eq_true rfl) ⟨Nat.zero_le _, Nat.zero_le _⟩ dX9_takeTickets_64 (fun H locs hw => ?_)
        exact s_X9_takeTickets_67 l D cA tS A h F N (fun x1 x2 x3 σ wd => f_X9_takeTickets_30 N n x1 x2 x3 σ wd) E ih _ _ _ _ _ _ hM _ _ hw _ (lv_sub hl [0, 1, 2, 3] rfl)
set_option maxRecDepth 100000 in
set_option maxHeartbeats 4000000 in
theorem c_X9_takeTickets (l : Launch) (D : va_G) (cA : Nat → ClassId) (tS : Nat → Nat) (A : Nat → Prop) (h : Nat → Nat) (F : va_W) (N : Nat) (x1 : Int32) (σ : Sg) (wd : Int64) (s0 : Sg) (hM : f_X9_takeTickets N x1 σ wd = some s0) : Ct l yX9_takeTickets (Cond.code yX9_takeTickets cX9_takeTickets 4 none :: bw) 4 89 D cA tS A [.ref (h 0), .int x1] (wM cA h σ wd ++ F) none (wM cA h s0 wd ++ F) := by
  refine ct_of (by decide +kernel) (Nat.le_of_ble_eq_true rfl) ?_
  intro p e s m below meth c E hw ls hl
  replace E : Ev p cX9_takeTickets 4 none RX9 (Cond.code yX9_takeTickets cX9_takeTickets 4 none :: bw) D cA tS A s m _ meth c := E
  replace hl : lv_has ls 4 [(0, .ref (h 0)), (1, .int x1)] := hl
  have hx := E.1.1
  have hb := E.1.2.1
  unfold f_X9_takeTickets at hM
  refine lv_aload_n hx hb dX9_takeTickets_0 rfl (lv_at hl 0 rfl) ?_
  refine q_get (C := RX9) (T := TX9) (N := 17) (ci := 9) E (fun w h => List.mem_cons_of_mem _ (inX9 w h)) hw 0 rfl rfl 0 (by decide) (List.mem_cons_of_mem _ tb_1145) (v := .ref (h 1)) rfl dX9_takeTickets_1 ?_
  refine lv_bipush (v := 15) hx hb dX9_takeTickets_4 (by decide) ?_
  refine lv_iload_n hx hb dX9_takeTickets_6 rfl (lv_at hl 1 rfl) ?_
  refine lv_iadd hx hb dX9_takeTickets_7 ?_
  obtain ⟨g1, hM⟩ := g_some hM
  refine q_ald E hw 1 (n := 4619) rfl g1 (x := (σ 1 (ix (15 + x1)))) rfl dX9_takeTickets_8 ?_
  refine lv_aload_n hx hb dX9_takeTickets_9 rfl (lv_at hl 0 rfl) ?_
  refine lv_iload_n hx hb dX9_takeTickets_10 rfl (lv_at hl 1 rfl) ?_
  obtain ⟨p2, h3, hM⟩ := b_some hM
  refine q_cv (As := [.int x1]) (rest := [.int (σ 1 (ix (15 + x1)))]) E hw hl (c_X9_busy l D cA tS A h F N x1 σ wd p2 h3) 1 (bwV bw_c tb_1265 tb_1267 tb_57 tb_111 tb_1268) rfl (by decide +kernel) ⟨Nat.le_of_ble_eq_true rfl, Nat.le_of_ble_eq_true rfl⟩ 0 9 (T := TX9) (N := 17) rfl rfl rfl rfl (Nat.le_of_ble_eq_true rfl) ⟨Nat.zero_le _, Nat.zero_le _⟩ dX9_takeTickets_11 (fun H locs hw => ?_)
  refine lv_isub hx hb dX9_takeTickets_14 ?_
  refine lv_istore_n (lv' := [(2, .int ((σ 1 (ix (15 + x1))) - p2)), (0, .ref (h 0)), (1, .int x1)]) hx hb dX9_takeTickets_15 rfl hl (by decide) rfl (fun ls hl => ?_)
  refine lv_iload_n hx hb dX9_takeTickets_16 rfl (lv_at hl 0 rfl) ?_
  refine lv_if_le (tgt := 28) hx hb dX9_takeTickets_17 (by decide) (fun c4 => ?_) (fun c4 => ?_)
  · replace hM := i_pos hM c4
    refine lv_iconst (v := (-1)) hx hb dX9_takeTickets_28 (by decide) ?_
    refine lv_istore_n (lv' := [(3, .int (-1)), (2, .int ((σ 1 (ix (15 + x1))) - p2)), (0, .ref (h 0)), (1, .int x1)]) hx hb dX9_takeTickets_29 rfl hl (by decide) rfl (fun ls hl => ?_)
    exact s_X9_takeTickets_30 l D cA tS A h F N E N _ _ _ _ _ _ hM _ _ hw _ (lv_sub hl [2, 3, 1, 0] rfl)
  · replace hM := i_neg hM c4
    refine lv_aload_n hx hb dX9_takeTickets_20 rfl (lv_at hl 1 rfl) ?_
    refine lv_iload_n hx hb dX9_takeTickets_21 rfl (lv_at hl 2 rfl) ?_
    obtain ⟨p5, h6, hM⟩ := b_some hM
    refine q_cv (As := [.int x1]) (rest := []) E hw hl (c_X9_mostUrgent l D cA tS A h F N x1 σ wd p5 h6) 1 (bwV bw_c tb_1395 tb_1397 tb_71 tb_111 tb_1398) rfl (by decide +kernel) ⟨Nat.le_of_ble_eq_true rfl, Nat.le_of_ble_eq_true rfl⟩ 0 9 (T := TX9) (N := 17) rfl rfl rfl rfl (Nat.le_of_ble_eq_true rfl) ⟨Nat.zero_le _, Nat.zero_le _⟩ dX9_takeTickets_22 (fun H locs hw => ?_)
    refine lv_goto (tgt := 29) hx hb dX9_takeTickets_25 (by decide) ?_
    refine lv_istore_n (lv' := [(3, .int p5), (2, .int ((σ 1 (ix (15 + x1))) - p2)), (0, .ref (h 0)), (1, .int x1)]) hx hb dX9_takeTickets_29 rfl hl (by decide) rfl (fun ls hl => ?_)
    exact s_X9_takeTickets_30 l D cA tS A h F N E N _ _ _ _ _ _ hM _ _ hw _ (lv_sub hl [2, 3, 1, 0] rfl)
set_option maxRecDepth 100000 in
set_option maxHeartbeats 4000000 in
theorem c_X9_runsResponse (l : Launch) (D : va_G) (cA : Nat → ClassId) (tS : Nat → Nat) (A : Nat → Prop) (h : Nat → Nat) (F : va_W) (x1 : Int32) (σ : Sg) (wd : Int64) (r0 : Int32) (hM : f_X9_runsResponse x1 σ wd = some r0) : Ct l yX9_runsResponse (Cond.code yX9_runsResponse cX9_runsResponse 2 (some .boolean) :: bw) 2 44 D cA tS A [.ref (h 0), .int x1] (wM cA h σ wd ++ F) (some (.int r0)) (wM cA h σ wd ++ F) := by
  refine ct_of (by decide +kernel) (Nat.le_of_ble_eq_true rfl) ?_
  intro p e s m below meth c E hw ls hl
  replace E : Ev p cX9_runsResponse 2 (some .boolean) RX9 (Cond.code yX9_runsResponse cX9_runsResponse 2 (some .boolean) :: bw) D cA tS A s m _ meth c := E
  replace hl : lv_has ls 2 [(0, .ref (h 0)), (1, .int x1)] := hl
  have hx := E.1.1
  have hb := E.1.2.1
  unfold f_X9_runsResponse at hM
  refine lv_aload_n hx hb dX9_runsResponse_0 rfl (lv_at hl 0 rfl) ?_
  refine lv_iload_n hx hb dX9_runsResponse_1 rfl (lv_at hl 1 rfl) ?_
  refine lv_bipush (v := 12) hx hb dX9_runsResponse_2 (by decide) ?_
  obtain ⟨p1, h2, hM⟩ := b_some hM
  refine q_cv (As := [.int x1, .int 12]) (rest := []) E hw hl (c_X9_ticket l D cA tS A h F x1 12 σ wd p1 h2) 2 (bwV bw_c tb_1241 tb_1243 tb_51 tb_111 tb_1244) rfl (by decide +kernel) ⟨Nat.le_of_ble_eq_true rfl, Nat.le_of_ble_eq_true rfl⟩ 0 9 (T := TX9) (N := 17) rfl rfl rfl rfl (Nat.le_of_ble_eq_true rfl) ⟨Nat.zero_le _, Nat.zero_le _⟩ dX9_runsResponse_4 (fun H locs hw => ?_)
  refine lv_iconst (v := (-1)) hx hb dX9_runsResponse_7 (by decide) ?_
  refine lv_icmp_eq (tgt := 13) hx hb dX9_runsResponse_8 (by decide) (fun c3 => ?_) (fun c3 => ?_)
  · replace hM := i_pos hM c3
    refine lv_aload_n hx hb dX9_runsResponse_13 rfl (lv_at hl 0 rfl) ?_
    refine lv_iload_n hx hb dX9_runsResponse_14 rfl (lv_at hl 1 rfl) ?_
    refine lv_iconst (v := 0) hx hb dX9_runsResponse_15 (by decide) ?_
    obtain ⟨p4, h5, hM⟩ := b_some hM
    refine q_cv (As := [.int x1, .int 0]) (rest := []) E hw hl (c_X9_is l D cA tS A h F x1 0 σ wd p4 h5) 2 (bwV bw_c tb_1249 tb_1251 tb_53 tb_111 tb_1252) rfl (by decide +kernel) ⟨Nat.le_of_ble_eq_true rfl, Nat.le_of_ble_eq_true rfl⟩ 0 9 (T := TX9) (N := 17) rfl rfl rfl rfl (Nat.le_of_ble_eq_true rfl) ⟨Nat.zero_le _, Nat.zero_le _⟩ dX9_runsResponse_16 (fun H locs hw => ?_)
    refine lv_if_ne (tgt := 57) hx hb dX9_runsResponse_19 (by decide) (fun c6 => ?_) (fun c6 => ?_)
    · replace hM := i_neg hM c6
      refine lv_iconst (v := 1) hx hb dX9_runsResponse_57 (by decide) ?_
      refine lv_goto (tgt := 62) hx hb dX9_runsResponse_58 (by decide) ?_
      cases hM
      exact q_retz E hw (by decide) dX9_runsResponse_62
    · replace hM := i_pos hM c6
      refine lv_aload_n hx hb dX9_runsResponse_22 rfl (lv_at hl 0 rfl) ?_
      refine lv_iload_n hx hb dX9_runsResponse_23 rfl (lv_at hl 1 rfl) ?_
      refine lv_iconst (v := 2) hx hb dX9_runsResponse_24 (by decide) ?_
      obtain ⟨p7, h8, hM⟩ := b_some hM
      refine q_cv (As := [.int x1, .int 2]) (rest := []) E hw hl (c_X9_is l D cA tS A h F x1 2 σ wd p7 h8) 2 (bwV bw_c tb_1249 tb_1251 tb_53 tb_111 tb_1252) rfl (by decide +kernel) ⟨Nat.le_of_ble_eq_true rfl, Nat.le_of_ble_eq_true rfl⟩ 0 9 (T := TX9) (N := 17) rfl rfl rfl rfl (Nat.le_of_ble_eq_true rfl) ⟨Nat.zero_le _, Nat.zero_le _⟩ dX9_runsResponse_25 (fun H locs hw => ?_)
      refine lv_if_ne (tgt := 57) hx hb dX9_runsResponse_28 (by decide) (fun c9 => ?_) (fun c9 => ?_)
      · replace hM := i_neg hM c9
        refine lv_iconst (v := 1) hx hb dX9_runsResponse_57 (by decide) ?_
        refine lv_goto (tgt := 62) hx hb dX9_runsResponse_58 (by decide) ?_
        cases hM
        exact q_retz E hw (by decide) dX9_runsResponse_62
      · replace hM := i_pos hM c9
        refine lv_aload_n hx hb dX9_runsResponse_31 rfl (lv_at hl 0 rfl) ?_
        refine lv_iload_n hx hb dX9_runsResponse_32 rfl (lv_at hl 1 rfl) ?_
        refine lv_iconst (v := 4) hx hb dX9_runsResponse_33 (by decide) ?_
        obtain ⟨p10, h11, hM⟩ := b_some hM
        refine q_cv (As := [.int x1, .int 4]) (rest := []) E hw hl (c_X9_is l D cA tS A h F x1 4 σ wd p10 h11) 2 (bwV bw_c tb_1249 tb_1251 tb_53 tb_111 tb_1252) rfl (by decide +kernel) ⟨Nat.le_of_ble_eq_true rfl, Nat.le_of_ble_eq_true rfl⟩ 0 9 (T := TX9) (N := 17) rfl rfl rfl rfl (Nat.le_of_ble_eq_true rfl) ⟨Nat.zero_le _, Nat.zero_le _⟩ dX9_runsResponse_34 (fun H locs hw => ?_)
        refine lv_if_eq (tgt := 61) hx hb dX9_runsResponse_37 (by decide) (fun c12 => ?_) (fun c12 => ?_)
        · replace hM := i_pos hM c12
          refine lv_iconst (v := 0) hx hb dX9_runsResponse_61 (by decide) ?_
          cases hM
          exact q_retz E hw (by decide) dX9_runsResponse_62
        · replace hM := i_neg hM c12
          refine lv_aload_n hx hb dX9_runsResponse_40 rfl (lv_at hl 0 rfl) ?_
          refine lv_aload_n hx hb dX9_runsResponse_41 rfl (lv_at hl 0 rfl) ?_
          refine lv_iload_n hx hb dX9_runsResponse_42 rfl (lv_at hl 1 rfl) ?_
          refine lv_bipush (v := 10) hx hb dX9_runsResponse_43 (by decide) ?_
          obtain ⟨p13, h14, hM⟩ := b_some hM
          refine q_cv (As := [.int x1, .int 10]) (rest := [.ref (h 0)]) E hw hl (c_X9_ticket l D cA tS A h F x1 10 σ wd p13 h14) 2 (bwV bw_c tb_1241 tb_1243 tb_51 tb_111 tb_1244) rfl (by decide +kernel) ⟨Nat.le_of_ble_eq_true rfl, Nat.le_of_ble_eq_true rfl⟩ 0 9 (T := TX9) (N := 17) rfl rfl rfl rfl (Nat.le_of_ble_eq_true rfl) ⟨Nat.zero_le _, Nat.zero_le _⟩ dX9_runsResponse_45 (fun H locs hw => ?_)
          refine lv_bipush (v := 12) hx hb dX9_runsResponse_48 (by decide) ?_
          obtain ⟨p15, h16, hM⟩ := b_some hM
          refine q_cv (As := [.int p13, .int 12]) (rest := []) E hw hl (c_X9_ticket l D cA tS A h F p13 12 σ wd p15 h16) 2 (bwV bw_c tb_1241 tb_1243 tb_51 tb_111 tb_1244) rfl (by decide +kernel) ⟨Nat.le_of_ble_eq_true rfl, Nat.le_of_ble_eq_true rfl⟩ 0 9 (T := TX9) (N := 17) rfl rfl rfl rfl (Nat.le_of_ble_eq_true rfl) ⟨Nat.zero_le _, Nat.zero_le _⟩ dX9_runsResponse_50 (fun H locs hw => ?_)
          refine lv_iconst (v := (-1)) hx hb dX9_runsResponse_53 (by decide) ?_
          refine lv_icmp_ne (tgt := 61) hx hb dX9_runsResponse_54 (by decide) (fun c17 => ?_) (fun c17 => ?_)
          · replace hM := i_neg hM c17
            refine lv_iconst (v := 0) hx hb dX9_runsResponse_61 (by decide) ?_
            cases hM
            exact q_retz E hw (by decide) dX9_runsResponse_62
          · replace hM := i_pos hM c17
            refine lv_iconst (v := 1) hx hb dX9_runsResponse_57 (by decide) ?_
            refine lv_goto (tgt := 62) hx hb dX9_runsResponse_58 (by decide) ?_
            cases hM
            exact q_retz E hw (by decide) dX9_runsResponse_62
  · replace hM := i_neg hM c3
    refine lv_iconst (v := 0) hx hb dX9_runsResponse_11 (by decide) ?_
    cases hM
    exact q_retz E hw (by decide) dX9_runsResponse_12
set_option maxRecDepth 100000 in
set_option maxHeartbeats 4000000 in
theorem c_X9_runsResolve (l : Launch) (D : va_G) (cA : Nat → ClassId) (tS : Nat → Nat) (A : Nat → Prop) (h : Nat → Nat) (F : va_W) (x1 : Int32) (σ : Sg) (wd : Int64) (r0 : Int32) (hM : f_X9_runsResolve x1 σ wd = some r0) : Ct l yX9_runsResolve (Cond.code yX9_runsResolve cX9_runsResolve 3 (some .boolean) :: bw) 2 44 D cA tS A [.ref (h 0), .int x1] (wM cA h σ wd ++ F) (some (.int r0)) (wM cA h σ wd ++ F) := by
  refine ct_of (by decide +kernel) (Nat.le_of_ble_eq_true rfl) ?_
  intro p e s m below meth c E hw ls hl
  replace E : Ev p cX9_runsResolve 3 (some .boolean) RX9 (Cond.code yX9_runsResolve cX9_runsResolve 3 (some .boolean) :: bw) D cA tS A s m _ meth c := E
  replace hl : lv_has ls 3 [(0, .ref (h 0)), (1, .int x1)] := hl
  have hx := E.1.1
  have hb := E.1.2.1
  unfold f_X9_runsResolve at hM
  refine lv_aload_n hx hb dX9_runsResolve_0 rfl (lv_at hl 0 rfl) ?_
  refine lv_iload_n hx hb dX9_runsResolve_1 rfl (lv_at hl 1 rfl) ?_
  refine lv_iconst (v := 4) hx hb dX9_runsResolve_2 (by decide) ?_
  obtain ⟨p1, h2, hM⟩ := b_some hM
  refine q_cv (As := [.int x1, .int 4]) (rest := []) E hw hl (c_X9_is l D cA tS A h F x1 4 σ wd p1 h2) 2 (bwV bw_c tb_1249 tb_1251 tb_53 tb_111 tb_1252) rfl (by decide +kernel) ⟨Nat.le_of_ble_eq_true rfl, Nat.le_of_ble_eq_true rfl⟩ 0 9 (T := TX9) (N := 17) rfl rfl rfl rfl (Nat.le_of_ble_eq_true rfl) ⟨Nat.zero_le _, Nat.zero_le _⟩ dX9_runsResolve_3 (fun H locs hw => ?_)
  refine lv_if_eq (tgt := 25) hx hb dX9_runsResolve_6 (by decide) (fun c3 => ?_) (fun c3 => ?_)
  · replace hM := i_pos hM c3
    refine lv_aload_n hx hb dX9_runsResolve_25 rfl (lv_at hl 0 rfl) ?_
    refine lv_iload_n hx hb dX9_runsResolve_26 rfl (lv_at hl 1 rfl) ?_
    refine lv_bipush (v := 9) hx hb dX9_runsResolve_27 (by decide) ?_
    obtain ⟨p4, h5, hM⟩ := b_some hM
    refine q_cv (As := [.int x1, .int 9]) (rest := []) E hw hl (c_X9_ticket l D cA tS A h F x1 9 σ wd p4 h5) 2 (bwV bw_c tb_1241 tb_1243 tb_51 tb_111 tb_1244) rfl (by decide +kernel) ⟨Nat.le_of_ble_eq_true rfl, Nat.le_of_ble_eq_true rfl⟩ 0 9 (T := TX9) (N := 17) rfl rfl rfl rfl (Nat.le_of_ble_eq_true rfl) ⟨Nat.zero_le _, Nat.zero_le _⟩ dX9_runsResolve_29 (fun H locs hw => ?_)
    refine lv_istore_n (lv' := [(2, .int p4), (0, .ref (h 0)), (1, .int x1)]) hx hb dX9_runsResolve_32 rfl hl (by decide) rfl (fun ls hl => ?_)
    refine lv_iload_n hx hb dX9_runsResolve_33 rfl (lv_at hl 0 rfl) ?_
    refine lv_if_eq (tgt := 42) hx hb dX9_runsResolve_34 (by decide) (fun c6 => ?_) (fun c6 => ?_)
    · replace hM := i_pos hM c6
      refine lv_iconst (v := 1) hx hb dX9_runsResolve_42 (by decide) ?_
      refine lv_goto (tgt := 47) hx hb dX9_runsResolve_43 (by decide) ?_
      cases hM
      exact q_retz E hw (by decide) dX9_runsResolve_47
    · replace hM := i_neg hM c6
      refine lv_iload_n hx hb dX9_runsResolve_37 rfl (lv_at hl 0 rfl) ?_
      refine lv_iconst (v := 1) hx hb dX9_runsResolve_38 (by decide) ?_
      refine lv_icmp_ne (tgt := 46) hx hb dX9_runsResolve_39 (by decide) (fun c7 => ?_) (fun c7 => ?_)
      · replace hM := i_neg hM c7
        refine lv_iconst (v := 0) hx hb dX9_runsResolve_46 (by decide) ?_
        cases hM
        exact q_retz E hw (by decide) dX9_runsResolve_47
      · replace hM := i_pos hM c7
        refine lv_iconst (v := 1) hx hb dX9_runsResolve_42 (by decide) ?_
        refine lv_goto (tgt := 47) hx hb dX9_runsResolve_43 (by decide) ?_
        cases hM
        exact q_retz E hw (by decide) dX9_runsResolve_47
  · replace hM := i_neg hM c3
    refine lv_aload_n hx hb dX9_runsResolve_9 rfl (lv_at hl 0 rfl) ?_
    refine lv_aload_n hx hb dX9_runsResolve_10 rfl (lv_at hl 0 rfl) ?_
    refine lv_iload_n hx hb dX9_runsResolve_11 rfl (lv_at hl 1 rfl) ?_
    refine lv_bipush (v := 10) hx hb dX9_runsResolve_12 (by decide) ?_
    obtain ⟨p8, h9, hM⟩ := b_some hM
    refine q_cv (As := [.int x1, .int 10]) (rest := [.ref (h 0)]) E hw hl (c_X9_ticket l D cA tS A h F x1 10 σ wd p8 h9) 2 (bwV bw_c tb_1241 tb_1243 tb_51 tb_111 tb_1244) rfl (by decide +kernel) ⟨Nat.le_of_ble_eq_true rfl, Nat.le_of_ble_eq_true rfl⟩ 0 9 (T := TX9) (N := 17) rfl rfl rfl rfl (Nat.le_of_ble_eq_true rfl) ⟨Nat.zero_le _, Nat.zero_le _⟩ dX9_runsResolve_14 (fun H locs hw => ?_)
    refine lv_bipush (v := 9) hx hb dX9_runsResolve_17 (by decide) ?_
    obtain ⟨p10, h11, hM⟩ := b_some hM
    refine q_cv (As := [.int p8, .int 9]) (rest := []) E hw hl (c_X9_ticket l D cA tS A h F p8 9 σ wd p10 h11) 2 (bwV bw_c tb_1241 tb_1243 tb_51 tb_111 tb_1244) rfl (by decide +kernel) ⟨Nat.le_of_ble_eq_true rfl, Nat.le_of_ble_eq_true rfl⟩ 0 9 (T := TX9) (N := 17) rfl rfl rfl rfl (Nat.le_of_ble_eq_true rfl) ⟨Nat.zero_le _, Nat.zero_le _⟩ dX9_runsResolve_19 (fun H locs hw => ?_)
    refine lv_goto (tgt := 32) hx hb dX9_runsResolve_22 (by decide) ?_
    refine lv_istore_n (lv' := [(2, .int p10), (0, .ref (h 0)), (1, .int x1)]) hx hb dX9_runsResolve_32 rfl hl (by decide) rfl (fun ls hl => ?_)
    refine lv_iload_n hx hb dX9_runsResolve_33 rfl (lv_at hl 0 rfl) ?_
    refine lv_if_eq (tgt := 42) hx hb dX9_runsResolve_34 (by decide) (fun c12 => ?_) (fun c12 => ?_)
    · replace hM := i_pos hM c12
      refine lv_iconst (v := 1) hx hb dX9_runsResolve_42 (by decide) ?_
      refine lv_goto (tgt := 47) hx hb dX9_runsResolve_43 (by decide) ?_
      cases hM
      exact q_retz E hw (by decide) dX9_runsResolve_47
    · replace hM := i_neg hM c12
      refine lv_iload_n hx hb dX9_runsResolve_37 rfl (lv_at hl 0 rfl) ?_
      refine lv_iconst (v := 1) hx hb dX9_runsResolve_38 (by decide) ?_
      refine lv_icmp_ne (tgt := 46) hx hb dX9_runsResolve_39 (by decide) (fun c13 => ?_) (fun c13 => ?_)
      · replace hM := i_neg hM c13
        refine lv_iconst (v := 0) hx hb dX9_runsResolve_46 (by decide) ?_
        cases hM
        exact q_retz E hw (by decide) dX9_runsResolve_47
      · replace hM := i_pos hM c13
        refine lv_iconst (v := 1) hx hb dX9_runsResolve_42 (by decide) ?_
        refine lv_goto (tgt := 47) hx hb dX9_runsResolve_43 (by decide) ?_
        cases hM
        exact q_retz E hw (by decide) dX9_runsResolve_47
set_option maxRecDepth 100000 in
set_option maxHeartbeats 4000000 in
theorem c_X9_grow (l : Launch) (D : va_G) (cA : Nat → ClassId) (tS : Nat → Nat) (A : Nat → Prop) (h : Nat → Nat) (F : va_W) (x1 : Int32) (x2 : Int32) (σ : Sg) (wd : Int64) (s0 : Sg) (hM : f_X9_grow x1 x2 σ wd = some s0) : Ct l yX9_grow (Cond.code yX9_grow cX9_grow 3 none :: bw) 1 23 D cA tS A [.ref (h 0), .int x1, .int x2] (wM cA h σ wd ++ F) none (wM cA h s0 wd ++ F) := by
  refine ct_of (by decide +kernel) (Nat.le_of_ble_eq_true rfl) ?_
  intro p e s m below meth c E hw ls hl
  replace E : Ev p cX9_grow 3 none RX9 (Cond.code yX9_grow cX9_grow 3 none :: bw) D cA tS A s m _ meth c := E
  replace hl : lv_has ls 3 [(0, .ref (h 0)), (1, .int x1), (2, .int x2)] := hl
  have hx := E.1.1
  have hb := E.1.2.1
  unfold f_X9_grow at hM
  refine lv_aload_n hx hb dX9_grow_0 rfl (lv_at hl 0 rfl) ?_
  refine lv_iload_n hx hb dX9_grow_1 rfl (lv_at hl 1 rfl) ?_
  refine lv_iload_n hx hb dX9_grow_2 rfl (lv_at hl 2 rfl) ?_
  refine lv_aload_n hx hb dX9_grow_3 rfl (lv_at hl 0 rfl) ?_
  refine lv_iload_n hx hb dX9_grow_4 rfl (lv_at hl 1 rfl) ?_
  refine lv_iload_n hx hb dX9_grow_5 rfl (lv_at hl 2 rfl) ?_
  obtain ⟨p1, h2, hM⟩ := b_some hM
  refine q_cv (As := [.int x1, .int x2]) (rest := [.int x2, .int x1, .ref (h 0)]) E hw hl (c_X9_ticket l D cA tS A h F x1 x2 σ wd p1 h2) 2 (bwV bw_c tb_1241 tb_1243 tb_51 tb_111 tb_1244) rfl (by decide +kernel) ⟨Nat.le_of_ble_eq_true rfl, Nat.le_of_ble_eq_true rfl⟩ 0 9 (T := TX9) (N := 17) rfl rfl rfl rfl (Nat.le_of_ble_eq_true rfl) ⟨Nat.zero_le _, Nat.zero_le _⟩ dX9_grow_6 (fun H locs hw => ?_)
  refine lv_iconst (v := 1) hx hb dX9_grow_9 (by decide) ?_
  refine lv_iadd hx hb dX9_grow_10 ?_
  obtain ⟨p3, h4, hM⟩ := b_some hM
  refine q_cvv (As := [.int x1, .int x2, .int (p1 + 1)]) (rest := []) E hw hl (c_X9_setTicket l D cA tS A h F x1 x2 (p1 + 1) σ wd p3 h4) 3 (bwV bw_c tb_1273 tb_1275 tb_59 tb_111 tb_1276) rfl (by decide +kernel) ⟨Nat.le_of_ble_eq_true rfl, Nat.le_of_ble_eq_true rfl⟩ 0 9 (T := TX9) (N := 17) rfl rfl rfl rfl (Nat.le_of_ble_eq_true rfl) ⟨Nat.zero_le _, Nat.zero_le _⟩ dX9_grow_11 (fun H locs hw => ?_)
  cases hM
  exact q_retv E hw dX9_grow_14
set_option maxRecDepth 100000 in
set_option maxHeartbeats 4000000 in
theorem c_X9_noteBreach (l : Launch) (D : va_G) (cA : Nat → ClassId) (tS : Nat → Nat) (A : Nat → Prop) (h : Nat → Nat) (F : va_W) (x1 : Int32) (x2 : Int32) (x3 : Int32) (x4 : Int32) (x5 : Int32) (σ : Sg) (wd : Int64) (s0 : Sg) (hM : f_X9_noteBreach x1 x2 x3 x4 x5 σ wd = some s0) : Ct l yX9_noteBreach (Cond.code yX9_noteBreach cX9_noteBreach 6 none :: bw) 2 44 D cA tS A [.ref (h 0), .int x1, .int x2, .int x3, .int x4, .int x5] (wM cA h σ wd ++ F) none (wM cA h s0 wd ++ F) := by
  refine ct_of (by decide +kernel) (Nat.le_of_ble_eq_true rfl) ?_
  intro p e s m below meth c E hw ls hl
  replace E : Ev p cX9_noteBreach 6 none RX9 (Cond.code yX9_noteBreach cX9_noteBreach 6 none :: bw) D cA tS A s m _ meth c := E
  replace hl : lv_has ls 6 [(0, .ref (h 0)), (1, .int x1), (2, .int x2), (3, .int x3), (4, .int x4), (5, .int x5)] := hl
  have hx := E.1.1
  have hb := E.1.2.1
  unfold f_X9_noteBreach at hM
  refine lv_aload_n hx hb dX9_noteBreach_0 rfl (lv_at hl 0 rfl) ?_
  refine lv_iload_n hx hb dX9_noteBreach_1 rfl (lv_at hl 1 rfl) ?_
  refine lv_iload_n hx hb dX9_noteBreach_2 rfl (lv_at hl 3 rfl) ?_
  obtain ⟨p1, h2, hM⟩ := b_some hM
  refine q_cv (As := [.int x1, .int x3]) (rest := []) E hw hl (c_X9_ticket l D cA tS A h F x1 x3 σ wd p1 h2) 2 (bwV bw_c tb_1241 tb_1243 tb_51 tb_111 tb_1244) rfl (by decide +kernel) ⟨Nat.le_of_ble_eq_true rfl, Nat.le_of_ble_eq_true rfl⟩ 0 9 (T := TX9) (N := 17) rfl rfl rfl rfl (Nat.le_of_ble_eq_true rfl) ⟨Nat.zero_le _, Nat.zero_le _⟩ dX9_noteBreach_3 (fun H locs hw => ?_)
  refine lv_if_ne (tgt := 54) hx hb dX9_noteBreach_6 (by decide) (fun c3 => ?_) (fun c3 => ?_)
  · replace hM := i_neg hM c3
    cases hM
    exact q_retv E hw dX9_noteBreach_54
  · replace hM := i_pos hM c3
    refine lv_aload_n hx hb dX9_noteBreach_9 rfl (lv_at hl 0 rfl) ?_
    refine lv_iload_n hx hb dX9_noteBreach_10 rfl (lv_at hl 1 rfl) ?_
    refine lv_iload_n hx hb dX9_noteBreach_11 rfl (lv_at hl 2 rfl) ?_
    obtain ⟨p4, h5, hM⟩ := b_some hM
    refine q_cv (As := [.int x1, .int x2]) (rest := []) E hw hl (c_X9_ticket l D cA tS A h F x1 x2 σ wd p4 h5) 2 (bwV bw_c tb_1241 tb_1243 tb_51 tb_111 tb_1244) rfl (by decide +kernel) ⟨Nat.le_of_ble_eq_true rfl, Nat.le_of_ble_eq_true rfl⟩ 0 9 (T := TX9) (N := 17) rfl rfl rfl rfl (Nat.le_of_ble_eq_true rfl) ⟨Nat.zero_le _, Nat.zero_le _⟩ dX9_noteBreach_12 (fun H locs hw => ?_)
    refine lv_aload_n hx hb dX9_noteBreach_15 rfl (lv_at hl 0 rfl) ?_
    refine lv_iload_n hx hb dX9_noteBreach_16 rfl (lv_at hl 1 rfl) ?_
    refine lv_iload hx hb dX9_noteBreach_17 (lv_at hl 4 rfl) ?_
    obtain ⟨p6, h7, hM⟩ := b_some hM
    refine q_cv (As := [.int x1, .int x4]) (rest := [.int p4]) E hw hl (c_X9_ofKind l D cA tS A h F x1 x4 σ wd p6 h7) 2 (bwV bw_c tb_1403 tb_1405 tb_73 tb_111 tb_1406) rfl (by decide +kernel) ⟨Nat.le_of_ble_eq_true rfl, Nat.le_of_ble_eq_true rfl⟩ 0 9 (T := TX9) (N := 17) rfl rfl rfl rfl (Nat.le_of_ble_eq_true rfl) ⟨Nat.zero_le _, Nat.zero_le _⟩ dX9_noteBreach_19 (fun H locs hw => ?_)
    refine lv_icmp_le (tgt := 54) hx hb dX9_noteBreach_22 (by decide) (fun c8 => ?_) (fun c8 => ?_)
    · replace hM := i_pos hM c8
      cases hM
      exact q_retv E hw dX9_noteBreach_54
    · replace hM := i_neg hM c8
      refine lv_aload_n hx hb dX9_noteBreach_25 rfl (lv_at hl 0 rfl) ?_
      refine lv_iload_n hx hb dX9_noteBreach_26 rfl (lv_at hl 1 rfl) ?_
      refine lv_iload_n hx hb dX9_noteBreach_27 rfl (lv_at hl 3 rfl) ?_
      refine lv_iconst (v := 1) hx hb dX9_noteBreach_28 (by decide) ?_
      obtain ⟨p9, h10, hM⟩ := b_some hM
      refine q_cvv (As := [.int x1, .int x3, .int 1]) (rest := []) E hw hl (c_X9_setTicket l D cA tS A h F x1 x3 1 σ wd p9 h10) 3 (bwV bw_c tb_1273 tb_1275 tb_59 tb_111 tb_1276) rfl (by decide +kernel) ⟨Nat.le_of_ble_eq_true rfl, Nat.le_of_ble_eq_true rfl⟩ 0 9 (T := TX9) (N := 17) rfl rfl rfl rfl (Nat.le_of_ble_eq_true rfl) ⟨Nat.zero_le _, Nat.zero_le _⟩ dX9_noteBreach_29 (fun H locs hw => ?_)
      refine lv_aload_n hx hb dX9_noteBreach_32 rfl (lv_at hl 0 rfl) ?_
      refine lv_aload_n hx hb dX9_noteBreach_33 rfl (lv_at hl 0 rfl) ?_
      refine q_get (C := RX9) (T := TX9) (N := 17) (ci := 9) E (fun w h => List.mem_cons_of_mem _ (inX9 w h)) hw 0 rfl rfl 0 (by decide) (List.mem_cons_of_mem _ tb_1145) (v := .ref (h 1)) rfl dX9_noteBreach_34 ?_
      refine lv_iconst (v := 0) hx hb dX9_noteBreach_37 (by decide) ?_
      refine q_ald E hw 1 (n := 4619) rfl (by decide +kernel) (x := (p9 1 (ix 0))) rfl dX9_noteBreach_38 ?_
      refine lv_iconst (v := 1) hx hb dX9_noteBreach_39 (by decide) ?_
      refine lv_iadd hx hb dX9_noteBreach_40 ?_
      refine lv_iload hx hb dX9_noteBreach_41 (lv_at hl 5 rfl) ?_
      refine lv_iload_n hx hb dX9_noteBreach_43 rfl (lv_at hl 1 rfl) ?_
      refine lv_aload_n hx hb dX9_noteBreach_44 rfl (lv_at hl 0 rfl) ?_
      refine lv_iload_n hx hb dX9_noteBreach_45 rfl (lv_at hl 1 rfl) ?_
      refine lv_iload hx hb dX9_noteBreach_46 (lv_at hl 4 rfl) ?_
      obtain ⟨p11, h12, hM⟩ := b_some hM
      refine q_cv (As := [.int x1, .int x4]) (rest := [.int x1, .int x5, .int ((p9 1 (ix 0)) + 1), .ref (h 0)]) E hw hl (c_X9_ofKind l D cA tS A h F x1 x4 p9 wd p11 h12) 2 (bwV bw_c tb_1403 tb_1405 tb_73 tb_111 tb_1406) rfl (by decide +kernel) ⟨Nat.le_of_ble_eq_true rfl, Nat.le_of_ble_eq_true rfl⟩ 0 9 (T := TX9) (N := 17) rfl rfl rfl rfl (Nat.le_of_ble_eq_true rfl) ⟨Nat.zero_le _, Nat.zero_le _⟩ dX9_noteBreach_48 (fun H locs hw => ?_)
      obtain ⟨p13, h14, hM⟩ := b_some hM
      refine q_cvv (As := [.int ((p9 1 (ix 0)) + 1), .int x5, .int x1, .int p11]) (rest := []) E hw hl (c_X9_log l D cA tS A h F ((p9 1 (ix 0)) + 1) x5 x1 p11 p9 wd p13 h14) 4 (bwV bw_c tb_1281 tb_1283 tb_61 tb_111 tb_1284) rfl (by decide +kernel) ⟨Nat.le_of_ble_eq_true rfl, Nat.le_of_ble_eq_true rfl⟩ 0 9 (T := TX9) (N := 17) rfl rfl rfl rfl (Nat.le_of_ble_eq_true rfl) ⟨Nat.zero_le _, Nat.zero_le _⟩ dX9_noteBreach_51 (fun H locs hw => ?_)
      cases hM
      exact q_retv E hw dX9_noteBreach_54
set_option maxRecDepth 100000 in
set_option maxHeartbeats 4000000 in
theorem s_X9_runClocks_51 (l : Launch) (D : va_G) (cA : Nat → ClassId) (tS : Nat → Nat) (A : Nat → Prop) (h : Nat → Nat) (F : va_W) {p : Program} {e : Env} {s : State} {m : MethodId} {args : Array Value} {below : List Frame} {meth : Method} {c : Code} (E : Ev p cX9_runClocks 4 none RX9 (Cond.code yX9_runClocks cX9_runClocks 4 none :: bw) D cA tS A s m args meth c) : ∀ (x1 : Int32) (x3 : Int32) (σ : Sg) (wd : Int64) (s0 : Sg) (hM : f_X9_runClocks_51 x1 x3 σ wd = some s0) (H : Heap) (locs : List Loc) (hw : Wd D A (wM cA h σ wd ++ F) s.heap H locs) (ls : Array Slot) (hl : lv_has ls 4 [(0, .ref (h 0)), (1, .int x1), (3, .int x3)]), W p l e ({ frames := 3, cells := 0, slots := 0, locals := 69 } : Room) s m args below meth c H locs 0 0 (MQ below (QW D A none (wM cA h s0 wd ++ F)) args s 0 0 A) (F0 m 51 ls []) := by
  have hx := E.1.1
  have hb := E.1.2.1
  intro x1 x3 σ wd s0 hM H locs hw ls hl
  unfold f_X9_runClocks_51 at hM
  refine lv_iload_n hx hb dX9_runClocks_51 rfl (lv_at hl 2 rfl) ?_
  refine lv_if_eq (tgt := 74) hx hb dX9_runClocks_52 (by decide) (fun c1 => ?_) (fun c1 => ?_)
  · replace hM := i_pos hM c1
    cases hM
    exact q_retv E hw dX9_runClocks_74
  · replace hM := i_neg hM c1
    refine lv_aload_n hx hb dX9_runClocks_55 rfl (lv_at hl 0 rfl) ?_
    refine lv_iload_n hx hb dX9_runClocks_56 rfl (lv_at hl 1 rfl) ?_
    refine lv_bipush (v := 8) hx hb dX9_runClocks_57 (by decide) ?_
    obtain ⟨p2, h3, hM⟩ := b_some hM
    refine q_cvv (As := [.int x1, .int 8]) (rest := []) E hw hl (c_X9_grow l D cA tS A h F x1 8 σ wd p2 h3) 2 (bwV bw_c tb_1423 tb_1425 tb_78 tb_111 tb_1426) rfl (by decide +kernel) ⟨Nat.le_of_ble_eq_true rfl, Nat.le_of_ble_eq_true rfl⟩ 0 9 (T := TX9) (N := 17) rfl rfl rfl rfl (Nat.le_of_ble_eq_true rfl) ⟨Nat.zero_le _, Nat.zero_le _⟩ dX9_runClocks_59 (fun H locs hw => ?_)
    refine lv_aload_n hx hb dX9_runClocks_62 rfl (lv_at hl 0 rfl) ?_
    refine lv_iload_n hx hb dX9_runClocks_63 rfl (lv_at hl 1 rfl) ?_
    refine lv_bipush (v := 8) hx hb dX9_runClocks_64 (by decide) ?_
    refine lv_bipush (v := 15) hx hb dX9_runClocks_66 (by decide) ?_
    refine lv_iconst (v := 1) hx hb dX9_runClocks_68 (by decide) ?_
    refine lv_bipush (v := 9) hx hb dX9_runClocks_69 (by decide) ?_
    obtain ⟨p4, h5, hM⟩ := b_some hM
    refine q_cvv (As := [.int x1, .int 8, .int 15, .int 1, .int 9]) (rest := []) E hw hl (c_X9_noteBreach l D cA tS A h F x1 8 15 1 9 p2 wd p4 h5) 5 (bwV bw_c tb_1427 tb_1429 tb_79 tb_111 tb_1430) rfl (by decide +kernel) ⟨Nat.le_of_ble_eq_true rfl, Nat.le_of_ble_eq_true rfl⟩ 0 9 (T := TX9) (N := 17) rfl rfl rfl rfl (Nat.le_of_ble_eq_true rfl) ⟨Nat.zero_le _, Nat.zero_le _⟩ dX9_runClocks_71 (fun H locs hw => ?_)
    cases hM
    exact q_retv E hw dX9_runClocks_74
set_option maxRecDepth 100000 in
set_option maxHeartbeats 4000000 in
theorem s_X9_runClocks_28 (l : Launch) (D : va_G) (cA : Nat → ClassId) (tS : Nat → Nat) (A : Nat → Prop) (h : Nat → Nat) (F : va_W) {p : Program} {e : Env} {s : State} {m : MethodId} {args : Array Value} {below : List Frame} {meth : Method} {c : Code} (E : Ev p cX9_runClocks 4 none RX9 (Cond.code yX9_runClocks cX9_runClocks 4 none :: bw) D cA tS A s m args meth c) : ∀ (x1 : Int32) (x2 : Int32) (x3 : Int32) (σ : Sg) (wd : Int64) (s0 : Sg) (hM : f_X9_runClocks_28 x1 x2 x3 σ wd = some s0) (H : Heap) (locs : List Loc) (hw : Wd D A (wM cA h σ wd ++ F) s.heap H locs) (ls : Array Slot) (hl : lv_has ls 4 [(0, .ref (h 0)), (1, .int x1), (2, .int x2), (3, .int x3)]), W p l e ({ frames := 3, cells := 0, slots := 0, locals := 69 } : Room) s m args below meth c H locs 0 0 (MQ below (QW D A none (wM cA h s0 wd ++ F)) args s 0 0 A) (F0 m 28 ls []) := by
  have hx := E.1.1
  have hb := E.1.2.1
  intro x1 x2 x3 σ wd s0 hM H locs hw ls hl
  unfold f_X9_runClocks_28 at hM
  refine lv_iload_n hx hb dX9_runClocks_28 rfl (lv_at hl 2 rfl) ?_
  refine lv_if_eq (tgt := 51) hx hb dX9_runClocks_29 (by decide) (fun c1 => ?_) (fun c1 => ?_)
  · replace hM := i_pos hM c1
    exact s_X9_runClocks_51 l D cA tS A h F E _ _ _ _ _ hM _ _ hw _ (lv_sub hl [0, 1, 3] rfl)
  · replace hM := i_neg hM c1
    refine lv_aload_n hx hb dX9_runClocks_32 rfl (lv_at hl 0 rfl) ?_
    refine lv_iload_n hx hb dX9_runClocks_33 rfl (lv_at hl 1 rfl) ?_
    refine lv_bipush (v := 7) hx hb dX9_runClocks_34 (by decide) ?_
    obtain ⟨p2, h3, hM⟩ := b_some hM
    refine q_cvv (As := [.int x1, .int 7]) (rest := []) E hw hl (c_X9_grow l D cA tS A h F x1 7 σ wd p2 h3) 2 (bwV bw_c tb_1423 tb_1425 tb_78 tb_111 tb_1426) rfl (by decide +kernel) ⟨Nat.le_of_ble_eq_true rfl, Nat.le_of_ble_eq_true rfl⟩ 0 9 (T := TX9) (N := 17) rfl rfl rfl rfl (Nat.le_of_ble_eq_true rfl) ⟨Nat.zero_le _, Nat.zero_le _⟩ dX9_runClocks_36 (fun H locs hw => ?_)
    refine lv_aload_n hx hb dX9_runClocks_39 rfl (lv_at hl 0 rfl) ?_
    refine lv_iload_n hx hb dX9_runClocks_40 rfl (lv_at hl 1 rfl) ?_
    refine lv_bipush (v := 7) hx hb dX9_runClocks_41 (by decide) ?_
    refine lv_bipush (v := 14) hx hb dX9_runClocks_43 (by decide) ?_
    refine lv_iconst (v := 0) hx hb dX9_runClocks_45 (by decide) ?_
    refine lv_bipush (v := 8) hx hb dX9_runClocks_46 (by decide) ?_
    obtain ⟨p4, h5, hM⟩ := b_some hM
    refine q_cvv (As := [.int x1, .int 7, .int 14, .int 0, .int 8]) (rest := []) E hw hl (c_X9_noteBreach l D cA tS A h F x1 7 14 0 8 p2 wd p4 h5) 5 (bwV bw_c tb_1427 tb_1429 tb_79 tb_111 tb_1430) rfl (by decide +kernel) ⟨Nat.le_of_ble_eq_true rfl, Nat.le_of_ble_eq_true rfl⟩ 0 9 (T := TX9) (N := 17) rfl rfl rfl rfl (Nat.le_of_ble_eq_true rfl) ⟨Nat.zero_le _, Nat.zero_le _⟩ dX9_runClocks_48 (fun H locs hw => ?_)
    exact s_X9_runClocks_51 l D cA tS A h F E _ _ _ _ _ hM _ _ hw _ (lv_sub hl [0, 1, 3] rfl)
set_option maxRecDepth 100000 in
set_option maxHeartbeats 4000000 in
theorem c_X9_runClocks (l : Launch) (D : va_G) (cA : Nat → ClassId) (tS : Nat → Nat) (A : Nat → Prop) (h : Nat → Nat) (F : va_W) (x1 : Int32) (σ : Sg) (wd : Int64) (s0 : Sg) (hM : f_X9_runClocks x1 σ wd = some s0) : Ct l yX9_runClocks (Cond.code yX9_runClocks cX9_runClocks 4 none :: bw) 3 69 D cA tS A [.ref (h 0), .int x1] (wM cA h σ wd ++ F) none (wM cA h s0 wd ++ F) := by
  refine ct_of (by decide +kernel) (Nat.le_of_ble_eq_true rfl) ?_
  intro p e s m below meth c E hw ls hl
  replace E : Ev p cX9_runClocks 4 none RX9 (Cond.code yX9_runClocks cX9_runClocks 4 none :: bw) D cA tS A s m _ meth c := E
  replace hl : lv_has ls 4 [(0, .ref (h 0)), (1, .int x1)] := hl
  have hx := E.1.1
  have hb := E.1.2.1
  unfold f_X9_runClocks at hM
  refine lv_aload_n hx hb dX9_runClocks_0 rfl (lv_at hl 0 rfl) ?_
  refine lv_iload_n hx hb dX9_runClocks_1 rfl (lv_at hl 1 rfl) ?_
  obtain ⟨p1, h2, hM⟩ := b_some hM
  refine q_cv (As := [.int x1]) (rest := []) E hw hl (c_X9_runsResponse l D cA tS A h F x1 σ wd p1 h2) 1 (bwV bw_c tb_1415 tb_1417 tb_76 tb_111 tb_1418) rfl (by decide +kernel) ⟨Nat.le_of_ble_eq_true rfl, Nat.le_of_ble_eq_true rfl⟩ 0 9 (T := TX9) (N := 17) rfl rfl rfl rfl (Nat.le_of_ble_eq_true rfl) ⟨Nat.zero_le _, Nat.zero_le _⟩ dX9_runClocks_2 (fun H locs hw => ?_)
  refine lv_istore_n (lv' := [(2, .int p1), (0, .ref (h 0)), (1, .int x1)]) hx hb dX9_runClocks_5 rfl hl (by decide) rfl (fun ls hl => ?_)
  refine lv_aload_n hx hb dX9_runClocks_6 rfl (lv_at hl 1 rfl) ?_
  refine lv_iload_n hx hb dX9_runClocks_7 rfl (lv_at hl 2 rfl) ?_
  obtain ⟨p3, h4, hM⟩ := b_some hM
  refine q_cv (As := [.int x1]) (rest := []) E hw hl (c_X9_runsResolve l D cA tS A h F x1 σ wd p3 h4) 1 (bwV bw_c tb_1419 tb_1421 tb_77 tb_111 tb_1422) rfl (by decide +kernel) ⟨Nat.le_of_ble_eq_true rfl, Nat.le_of_ble_eq_true rfl⟩ 0 9 (T := TX9) (N := 17) rfl rfl rfl rfl (Nat.le_of_ble_eq_true rfl) ⟨Nat.zero_le _, Nat.zero_le _⟩ dX9_runClocks_8 (fun H locs hw => ?_)
  refine lv_istore_n (lv' := [(3, .int p3), (2, .int p1), (0, .ref (h 0)), (1, .int x1)]) hx hb dX9_runClocks_11 rfl hl (by decide) rfl (fun ls hl => ?_)
  refine lv_aload_n hx hb dX9_runClocks_12 rfl (lv_at hl 2 rfl) ?_
  refine lv_iload_n hx hb dX9_runClocks_13 rfl (lv_at hl 3 rfl) ?_
  refine lv_iconst (v := 0) hx hb dX9_runClocks_14 (by decide) ?_
  obtain ⟨p5, h6, hM⟩ := b_some hM
  refine q_cv (As := [.int x1, .int 0]) (rest := []) E hw hl (c_X9_is l D cA tS A h F x1 0 σ wd p5 h6) 2 (bwV bw_c tb_1249 tb_1251 tb_53 tb_111 tb_1252) rfl (by decide +kernel) ⟨Nat.le_of_ble_eq_true rfl, Nat.le_of_ble_eq_true rfl⟩ 0 9 (T := TX9) (N := 17) rfl rfl rfl rfl (Nat.le_of_ble_eq_true rfl) ⟨Nat.zero_le _, Nat.zero_le _⟩ dX9_runClocks_15 (fun H locs hw => ?_)
  refine lv_if_eq (tgt := 28) hx hb dX9_runClocks_18 (by decide) (fun c7 => ?_) (fun c7 => ?_)
  · replace hM := i_pos hM c7
    exact s_X9_runClocks_28 l D cA tS A h F E _ _ _ _ _ _ hM _ _ hw _ (lv_sub hl [2, 3, 1, 0] rfl)
  · replace hM := i_neg hM c7
    refine lv_aload_n hx hb dX9_runClocks_21 rfl (lv_at hl 2 rfl) ?_
    refine lv_iload_n hx hb dX9_runClocks_22 rfl (lv_at hl 3 rfl) ?_
    refine lv_bipush (v := 6) hx hb dX9_runClocks_23 (by decide) ?_
    obtain ⟨p8, h9, hM⟩ := b_some hM
    refine q_cvv (As := [.int x1, .int 6]) (rest := []) E hw hl (c_X9_grow l D cA tS A h F x1 6 σ wd p8 h9) 2 (bwV bw_c tb_1423 tb_1425 tb_78 tb_111 tb_1426) rfl (by decide +kernel) ⟨Nat.le_of_ble_eq_true rfl, Nat.le_of_ble_eq_true rfl⟩ 0 9 (T := TX9) (N := 17) rfl rfl rfl rfl (Nat.le_of_ble_eq_true rfl) ⟨Nat.zero_le _, Nat.zero_le _⟩ dX9_runClocks_25 (fun H locs hw => ?_)
    exact s_X9_runClocks_28 l D cA tS A h F E _ _ _ _ _ _ hM _ _ hw _ (lv_sub hl [2, 3, 1, 0] rfl)
set_option maxRecDepth 100000 in
set_option maxHeartbeats 4000000 in
theorem c_X9_workOn (l : Launch) (D : va_G) (cA : Nat → ClassId) (tS : Nat → Nat) (A : Nat → Prop) (h : Nat → Nat) (F : va_W) (N : Nat) (x1 : Int32) (σ : Sg) (wd : Int64) (r0 : Int32) (s0 : Sg) (hM : f_X9_workOn N x1 σ wd = some (r0, s0)) : Ct l yX9_workOn (Cond.code yX9_workOn cX9_workOn 2 (some .int) :: bw) 3 71 D cA tS A [.ref (h 0), .int x1] (wM cA h σ wd ++ F) (some (.int r0)) (wM cA h s0 wd ++ F) := by
  refine ct_of (by decide +kernel) (Nat.le_of_ble_eq_true rfl) ?_
  intro p e s m below meth c E hw ls hl
  replace E : Ev p cX9_workOn 2 (some .int) RX9 (Cond.code yX9_workOn cX9_workOn 2 (some .int) :: bw) D cA tS A s m _ meth c := E
  replace hl : lv_has ls 2 [(0, .ref (h 0)), (1, .int x1)] := hl
  have hx := E.1.1
  have hb := E.1.2.1
  unfold f_X9_workOn at hM
  refine lv_aload_n hx hb dX9_workOn_0 rfl (lv_at hl 0 rfl) ?_
  refine lv_iload_n hx hb dX9_workOn_1 rfl (lv_at hl 1 rfl) ?_
  refine lv_iconst (v := 5) hx hb dX9_workOn_2 (by decide) ?_
  obtain ⟨p1, h2, hM⟩ := b_some hM
  refine q_cvv (As := [.int x1, .int 5]) (rest := []) E hw hl (c_X9_grow l D cA tS A h F x1 5 σ wd p1 h2) 2 (bwV bw_c tb_1423 tb_1425 tb_78 tb_111 tb_1426) rfl (by decide +kernel) ⟨Nat.le_of_ble_eq_true rfl, Nat.le_of_ble_eq_true rfl⟩ 0 9 (T := TX9) (N := 17) rfl rfl rfl rfl (Nat.le_of_ble_eq_true rfl) ⟨Nat.zero_le _, Nat.zero_le _⟩ dX9_workOn_3 (fun H locs hw => ?_)
  refine lv_aload_n hx hb dX9_workOn_6 rfl (lv_at hl 0 rfl) ?_
  refine lv_iload_n hx hb dX9_workOn_7 rfl (lv_at hl 1 rfl) ?_
  refine lv_iconst (v := 5) hx hb dX9_workOn_8 (by decide) ?_
  obtain ⟨p3, h4, hM⟩ := b_some hM
  refine q_cv (As := [.int x1, .int 5]) (rest := []) E hw hl (c_X9_ticket l D cA tS A h F x1 5 p1 wd p3 h4) 2 (bwV bw_c tb_1241 tb_1243 tb_51 tb_111 tb_1244) rfl (by decide +kernel) ⟨Nat.le_of_ble_eq_true rfl, Nat.le_of_ble_eq_true rfl⟩ 0 9 (T := TX9) (N := 17) rfl rfl rfl rfl (Nat.le_of_ble_eq_true rfl) ⟨Nat.zero_le _, Nat.zero_le _⟩ dX9_workOn_9 (fun H locs hw => ?_)
  refine lv_aload_n hx hb dX9_workOn_12 rfl (lv_at hl 0 rfl) ?_
  refine lv_iload_n hx hb dX9_workOn_13 rfl (lv_at hl 1 rfl) ?_
  refine lv_iconst (v := 2) hx hb dX9_workOn_14 (by decide) ?_
  obtain ⟨p5, h6, hM⟩ := b_some hM
  refine q_cv (As := [.int x1, .int 2]) (rest := [.int p3]) E hw hl (c_X9_ofKind l D cA tS A h F x1 2 p1 wd p5 h6) 2 (bwV bw_c tb_1403 tb_1405 tb_73 tb_111 tb_1406) rfl (by decide +kernel) ⟨Nat.le_of_ble_eq_true rfl, Nat.le_of_ble_eq_true rfl⟩ 0 9 (T := TX9) (N := 17) rfl rfl rfl rfl (Nat.le_of_ble_eq_true rfl) ⟨Nat.zero_le _, Nat.zero_le _⟩ dX9_workOn_15 (fun H locs hw => ?_)
  refine lv_icmp_ge (tgt := 23) hx hb dX9_workOn_18 (by decide) (fun c7 => ?_) (fun c7 => ?_)
  · replace hM := i_pos hM c7
    refine lv_aload_n hx hb dX9_workOn_23 rfl (lv_at hl 0 rfl) ?_
    refine lv_iload_n hx hb dX9_workOn_24 rfl (lv_at hl 1 rfl) ?_
    refine lv_iconst (v := 4) hx hb dX9_workOn_25 (by decide) ?_
    obtain ⟨p8, h9, hM⟩ := b_some hM
    refine q_cv (As := [.int x1, .int 4]) (rest := []) E hw hl (c_X9_ticket l D cA tS A h F x1 4 p1 wd p8 h9) 2 (bwV bw_c tb_1241 tb_1243 tb_51 tb_111 tb_1244) rfl (by decide +kernel) ⟨Nat.le_of_ble_eq_true rfl, Nat.le_of_ble_eq_true rfl⟩ 0 9 (T := TX9) (N := 17) rfl rfl rfl rfl (Nat.le_of_ble_eq_true rfl) ⟨Nat.zero_le _, Nat.zero_le _⟩ dX9_workOn_26 (fun H locs hw => ?_)
    refine lv_aload_n hx hb dX9_workOn_29 rfl (lv_at hl 0 rfl) ?_
    refine lv_iload_n hx hb dX9_workOn_30 rfl (lv_at hl 1 rfl) ?_
    refine lv_iconst (v := 3) hx hb dX9_workOn_31 (by decide) ?_
    obtain ⟨p10, h11, hM⟩ := b_some hM
    refine q_cv (As := [.int x1, .int 3]) (rest := [.int p8]) E hw hl (c_X9_ofKind l D cA tS A h F x1 3 p1 wd p10 h11) 2 (bwV bw_c tb_1403 tb_1405 tb_73 tb_111 tb_1406) rfl (by decide +kernel) ⟨Nat.le_of_ble_eq_true rfl, Nat.le_of_ble_eq_true rfl⟩ 0 9 (T := TX9) (N := 17) rfl rfl rfl rfl (Nat.le_of_ble_eq_true rfl) ⟨Nat.zero_le _, Nat.zero_le _⟩ dX9_workOn_32 (fun H locs hw => ?_)
    refine lv_icmp_lt (tgt := 52) hx hb dX9_workOn_35 (by decide) (fun c12 => ?_) (fun c12 => ?_)
    · replace hM := i_pos hM c12
      refine lv_aload_n hx hb dX9_workOn_52 rfl (lv_at hl 0 rfl) ?_
      refine lv_iload_n hx hb dX9_workOn_53 rfl (lv_at hl 1 rfl) ?_
      refine lv_aload_n hx hb dX9_workOn_54 rfl (lv_at hl 0 rfl) ?_
      refine q_get (C := RX9) (T := TX9) (N := 17) (ci := 9) E (fun w h => List.mem_cons_of_mem _ (inX9 w h)) hw 0 rfl rfl 0 (by decide) (List.mem_cons_of_mem _ tb_1145) (v := .ref (h 1)) rfl dX9_workOn_55 ?_
      refine lv_iconst (v := 0) hx hb dX9_workOn_58 (by decide) ?_
      refine q_ald E hw 1 (n := 4619) rfl (by decide +kernel) (x := (p1 1 (ix 0))) rfl dX9_workOn_59 ?_
      refine lv_iconst (v := 1) hx hb dX9_workOn_60 (by decide) ?_
      refine lv_iadd hx hb dX9_workOn_61 ?_
      obtain ⟨p13, h14, hM⟩ := b_some hM
      refine q_cvv (As := [.int x1, .int ((p1 1 (ix 0)) + 1)]) (rest := []) E hw hl (c_X9_letClimb l D cA tS A h F x1 ((p1 1 (ix 0)) + 1) p1 wd p13 h14) 2 (bwV bw_c tb_1285 tb_1287 tb_62 tb_111 tb_1288) rfl (by decide +kernel) ⟨Nat.le_of_ble_eq_true rfl, Nat.le_of_ble_eq_true rfl⟩ 0 9 (T := TX9) (N := 17) rfl rfl rfl rfl (Nat.le_of_ble_eq_true rfl) ⟨Nat.zero_le _, Nat.zero_le _⟩ dX9_workOn_62 (fun H locs hw => ?_)
      refine lv_iconst (v := 0) hx hb dX9_workOn_65 (by decide) ?_
      cases hM
      exact q_reti E hw dX9_workOn_66
    · replace hM := i_neg hM c12
      refine lv_aload_n hx hb dX9_workOn_38 rfl (lv_at hl 0 rfl) ?_
      refine lv_iload_n hx hb dX9_workOn_39 rfl (lv_at hl 1 rfl) ?_
      refine lv_aload_n hx hb dX9_workOn_40 rfl (lv_at hl 0 rfl) ?_
      refine q_get (C := RX9) (T := TX9) (N := 17) (ci := 9) E (fun w h => List.mem_cons_of_mem _ (inX9 w h)) hw 0 rfl rfl 0 (by decide) (List.mem_cons_of_mem _ tb_1145) (v := .ref (h 1)) rfl dX9_workOn_41 ?_
      refine lv_iconst (v := 0) hx hb dX9_workOn_44 (by decide) ?_
      refine q_ald E hw 1 (n := 4619) rfl (by decide +kernel) (x := (p1 1 (ix 0))) rfl dX9_workOn_45 ?_
      refine lv_iconst (v := 1) hx hb dX9_workOn_46 (by decide) ?_
      refine lv_iadd hx hb dX9_workOn_47 ?_
      obtain ⟨p15, h16, hM⟩ := b_some hM
      refine q_cv (As := [.int x1, .int ((p1 1 (ix 0)) + 1)]) (rest := []) E hw hl (c_X9_makeSolved l D cA tS A h F N x1 ((p1 1 (ix 0)) + 1) p1 wd p15.1 p15.2 h16) 2 (bwV bw_c tb_1289 tb_1291 tb_63 tb_111 tb_1292) rfl (by decide +kernel) ⟨Nat.le_of_ble_eq_true rfl, Nat.le_of_ble_eq_true rfl⟩ 0 9 (T := TX9) (N := 17) rfl rfl rfl rfl (Nat.le_of_ble_eq_true rfl) ⟨Nat.zero_le _, Nat.zero_le _⟩ dX9_workOn_48 (fun H locs hw => ?_)
      cases hM
      exact q_reti E hw dX9_workOn_51
  · replace hM := i_neg hM c7
    refine lv_iconst (v := 0) hx hb dX9_workOn_21 (by decide) ?_
    cases hM
    exact q_reti E hw dX9_workOn_22
set_option maxRecDepth 100000 in
set_option maxHeartbeats 4000000 in
theorem c_X9_climbsByItself (l : Launch) (D : va_G) (cA : Nat → ClassId) (tS : Nat → Nat) (A : Nat → Prop) (h : Nat → Nat) (F : va_W) (x1 : Int32) (σ : Sg) (wd : Int64) (r0 : Int32) (hM : f_X9_climbsByItself x1 σ wd = some r0) : Ct l yX9_climbsByItself (Cond.code yX9_climbsByItself cX9_climbsByItself 3 (some .boolean) :: bw) 2 44 D cA tS A [.ref (h 0), .int x1] (wM cA h σ wd ++ F) (some (.int r0)) (wM cA h σ wd ++ F) := by
  refine ct_of (by decide +kernel) (Nat.le_of_ble_eq_true rfl) ?_
  intro p e s m below meth c E hw ls hl
  replace E : Ev p cX9_climbsByItself 3 (some .boolean) RX9 (Cond.code yX9_climbsByItself cX9_climbsByItself 3 (some .boolean) :: bw) D cA tS A s m _ meth c := E
  replace hl : lv_has ls 3 [(0, .ref (h 0)), (1, .int x1)] := hl
  have hx := E.1.1
  have hb := E.1.2.1
  unfold f_X9_climbsByItself at hM
  refine lv_aload_n hx hb dX9_climbsByItself_0 rfl (lv_at hl 0 rfl) ?_
  refine lv_iload_n hx hb dX9_climbsByItself_1 rfl (lv_at hl 1 rfl) ?_
  refine lv_iconst (v := 4) hx hb dX9_climbsByItself_2 (by decide) ?_
  obtain ⟨p1, h2, hM⟩ := b_some hM
  refine q_cv (As := [.int x1, .int 4]) (rest := []) E hw hl (c_X9_ofKind l D cA tS A h F x1 4 σ wd p1 h2) 2 (bwV bw_c tb_1403 tb_1405 tb_73 tb_111 tb_1406) rfl (by decide +kernel) ⟨Nat.le_of_ble_eq_true rfl, Nat.le_of_ble_eq_true rfl⟩ 0 9 (T := TX9) (N := 17) rfl rfl rfl rfl (Nat.le_of_ble_eq_true rfl) ⟨Nat.zero_le _, Nat.zero_le _⟩ dX9_climbsByItself_3 (fun H locs hw => ?_)
  refine lv_istore_n (lv' := [(2, .int p1), (0, .ref (h 0)), (1, .int x1)]) hx hb dX9_climbsByItself_6 rfl hl (by decide) rfl (fun ls hl => ?_)
  refine lv_aload_n hx hb dX9_climbsByItself_7 rfl (lv_at hl 1 rfl) ?_
  refine lv_iload_n hx hb dX9_climbsByItself_8 rfl (lv_at hl 2 rfl) ?_
  refine lv_iconst (v := 0) hx hb dX9_climbsByItself_9 (by decide) ?_
  obtain ⟨p3, h4, hM⟩ := b_some hM
  refine q_cv (As := [.int x1, .int 0]) (rest := []) E hw hl (c_X9_is l D cA tS A h F x1 0 σ wd p3 h4) 2 (bwV bw_c tb_1249 tb_1251 tb_53 tb_111 tb_1252) rfl (by decide +kernel) ⟨Nat.le_of_ble_eq_true rfl, Nat.le_of_ble_eq_true rfl⟩ 0 9 (T := TX9) (N := 17) rfl rfl rfl rfl (Nat.le_of_ble_eq_true rfl) ⟨Nat.zero_le _, Nat.zero_le _⟩ dX9_climbsByItself_10 (fun H locs hw => ?_)
  refine lv_if_eq (tgt := 45) hx hb dX9_climbsByItself_13 (by decide) (fun c5 => ?_) (fun c5 => ?_)
  · replace hM := i_pos hM c5
    refine lv_iconst (v := 0) hx hb dX9_climbsByItself_45 (by decide) ?_
    cases hM
    exact q_retz E hw (by decide) dX9_climbsByItself_46
  · replace hM := i_neg hM c5
    refine lv_iload_n hx hb dX9_climbsByItself_16 rfl (lv_at hl 0 rfl) ?_
    refine lv_if_le (tgt := 45) hx hb dX9_climbsByItself_17 (by decide) (fun c6 => ?_) (fun c6 => ?_)
    · replace hM := i_pos hM c6
      refine lv_iconst (v := 0) hx hb dX9_climbsByItself_45 (by decide) ?_
      cases hM
      exact q_retz E hw (by decide) dX9_climbsByItself_46
    · replace hM := i_neg hM c6
      refine lv_aload_n hx hb dX9_climbsByItself_20 rfl (lv_at hl 1 rfl) ?_
      refine lv_iload_n hx hb dX9_climbsByItself_21 rfl (lv_at hl 2 rfl) ?_
      refine lv_bipush (v := 6) hx hb dX9_climbsByItself_22 (by decide) ?_
      obtain ⟨p7, h8, hM⟩ := b_some hM
      refine q_cv (As := [.int x1, .int 6]) (rest := []) E hw hl (c_X9_ticket l D cA tS A h F x1 6 σ wd p7 h8) 2 (bwV bw_c tb_1241 tb_1243 tb_51 tb_111 tb_1244) rfl (by decide +kernel) ⟨Nat.le_of_ble_eq_true rfl, Nat.le_of_ble_eq_true rfl⟩ 0 9 (T := TX9) (N := 17) rfl rfl rfl rfl (Nat.le_of_ble_eq_true rfl) ⟨Nat.zero_le _, Nat.zero_le _⟩ dX9_climbsByItself_24 (fun H locs hw => ?_)
      refine lv_iload_n hx hb dX9_climbsByItself_27 rfl (lv_at hl 0 rfl) ?_
      refine lv_icmp_lt (tgt := 45) hx hb dX9_climbsByItself_28 (by decide) (fun c9 => ?_) (fun c9 => ?_)
      · replace hM := i_pos hM c9
        refine lv_iconst (v := 0) hx hb dX9_climbsByItself_45 (by decide) ?_
        cases hM
        exact q_retz E hw (by decide) dX9_climbsByItself_46
      · replace hM := i_neg hM c9
        refine lv_aload_n hx hb dX9_climbsByItself_31 rfl (lv_at hl 1 rfl) ?_
        refine lv_iload_n hx hb dX9_climbsByItself_32 rfl (lv_at hl 2 rfl) ?_
        refine lv_iconst (v := 4) hx hb dX9_climbsByItself_33 (by decide) ?_
        obtain ⟨p10, h11, hM⟩ := b_some hM
        refine q_cv (As := [.int x1, .int 4]) (rest := []) E hw hl (c_X9_ticket l D cA tS A h F x1 4 σ wd p10 h11) 2 (bwV bw_c tb_1241 tb_1243 tb_51 tb_111 tb_1244) rfl (by decide +kernel) ⟨Nat.le_of_ble_eq_true rfl, Nat.le_of_ble_eq_true rfl⟩ 0 9 (T := TX9) (N := 17) rfl rfl rfl rfl (Nat.le_of_ble_eq_true rfl) ⟨Nat.zero_le _, Nat.zero_le _⟩ dX9_climbsByItself_34 (fun H locs hw => ?_)
        refine lv_iconst (v := 3) hx hb dX9_climbsByItself_37 (by decide) ?_
        refine lv_icmp_ge (tgt := 45) hx hb dX9_climbsByItself_38 (by decide) (fun c12 => ?_) (fun c12 => ?_)
        · replace hM := i_pos hM c12
          refine lv_iconst (v := 0) hx hb dX9_climbsByItself_45 (by decide) ?_
          cases hM
          exact q_retz E hw (by decide) dX9_climbsByItself_46
        · replace hM := i_neg hM c12
          refine lv_iconst (v := 1) hx hb dX9_climbsByItself_41 (by decide) ?_
          refine lv_goto (tgt := 46) hx hb dX9_climbsByItself_42 (by decide) ?_
          cases hM
          exact q_retz E hw (by decide) dX9_climbsByItself_46
set_option maxRecDepth 100000 in
set_option maxHeartbeats 4000000 in
theorem s_X9_passMinute_115 (l : Launch) (D : va_G) (cA : Nat → ClassId) (tS : Nat → Nat) (A : Nat → Prop) (h : Nat → Nat) (F : va_W) (N : Nat) {p : Program} {e : Env} {s : State} {m : MethodId} {args : Array Value} {below : List Frame} {meth : Method} {c : Code} (E : Ev p cX9_passMinute 4 (some .int) RX9 (Cond.code yX9_passMinute cX9_passMinute 4 (some .int) :: bw) D cA tS A s m args meth c) : ∀ (n : Nat) (x2 : Int32) (x3 : Int32) (σ : Sg) (wd : Int64) (r0 : Int32) (s0 : Sg) (hM : f_X9_passMinute_115 N n x2 x3 σ wd = some (r0, s0)) (H : Heap) (locs : List Loc) (hw : Wd D A (wM cA h σ wd ++ F) s.heap H locs) (ls : Array Slot) (hl : lv_has ls 4 [(0, .ref (h 0)), (2, .int x2), (3, .int x3)]), W p l e ({ frames := 5, cells := 0, slots := 0, locals := 112 } : Room) s m args below meth c H locs 0 0 (MQ below (QW D A (some (.int r0)) (wM cA h s0 wd ++ F)) args s 0 0 A) (F0 m 115 ls []) := by
  have hx := E.1.1
  have hb := E.1.2.1
  intro n
  induction n with
  | zero =>
    intro x2 x3 σ wd r0 s0 hM
    cases hM
  | succ n ih =>
    intro x2 x3 σ wd r0 s0 hM H locs hw ls hl
    rw [f_X9_passMinute_115] at hM
    refine lv_iload_n hx hb dX9_passMinute_115 rfl (lv_at hl 2 rfl) ?_
    refine lv_aload_n hx hb dX9_passMinute_116 rfl (lv_at hl 0 rfl) ?_
    refine q_get (C := RX9) (T := TX9) (N := 17) (ci := 9) E (fun w h => List.mem_cons_of_mem _ (inX9 w h)) hw 0 rfl rfl 0 (by decide) (List.mem_cons_of_mem _ tb_1145) (v := .ref (h 1)) rfl dX9_passMinute_117 ?_
    refine lv_bipush (v := 56) hx hb dX9_passMinute_120 (by decide) ?_
    refine q_ald E hw 1 (n := 4619) rfl (by decide +kernel) (x := (σ 1 (ix 56))) rfl dX9_passMinute_122 ?_
    refine lv_icmp_ge (tgt := 153) hx hb dX9_passMinute_123 (by decide) (fun c1 => ?_) (fun c1 => ?_)
    · replace hM := i_pos hM c1
      refine lv_aload_n hx hb dX9_passMinute_153 rfl (lv_at hl 0 rfl) ?_
      refine q_get (C := RX9) (T := TX9) (N := 17) (ci := 9) E (fun w h => List.mem_cons_of_mem _ (inX9 w h)) hw 0 rfl rfl 0 (by decide) (List.mem_cons_of_mem _ tb_1145) (v := .ref (h 1)) rfl dX9_passMinute_154 ?_
      refine lv_iconst (v := 0) hx hb dX9_passMinute_157 (by decide) ?_
      refine lv_dup2_11 hx hb dX9_passMinute_158 rfl rfl ?_
      refine q_ald E hw 1 (n := 4619) rfl (by decide +kernel) (x := (σ 1 (ix 0))) rfl dX9_passMinute_159 ?_
      refine lv_iconst (v := 1) hx hb dX9_passMinute_160 (by decide) ?_
      refine lv_iadd hx hb dX9_passMinute_161 ?_
      refine q_ast E hw 1 (n := 4619) rfl (by decide +kernel) (wM cA h (up σ 1 (ix 0) ((σ 1 (ix 0)) + 1)) wd ++ F) st_M_1 dX9_passMinute_162 (fun H locs hw => ?_)
      refine lv_iload_n hx hb dX9_passMinute_163 rfl (lv_at hl 1 rfl) ?_
      cases hM
      exact q_reti E hw dX9_passMinute_164
    · replace hM := i_neg hM c1
      refine lv_aload_n hx hb dX9_passMinute_126 rfl (lv_at hl 0 rfl) ?_
      refine lv_iload_n hx hb dX9_passMinute_127 rfl (lv_at hl 2 rfl) ?_
      obtain ⟨p2, h3, hM⟩ := b_some hM
      refine q_cv (As := [.int x3]) (rest := []) E hw hl (c_X9_climbsByItself l D cA tS A h F x3 σ wd p2 h3) 1 (bwV bw_c tb_1435 tb_1437 tb_81 tb_111 tb_1438) rfl (by decide +kernel) ⟨Nat.le_of_ble_eq_true rfl, Nat.le_of_ble_eq_true rfl⟩ 0 9 (T := TX9) (N := 17) rfl rfl rfl rfl (Nat.le_of_ble_eq_true rfl) ⟨Nat.zero_le _, Nat.zero_le _⟩ dX9_passMinute_128 (fun H locs hw => ?_)
      refine lv_if_eq (tgt := 147) hx hb dX9_passMinute_131 (by decide) (fun c4 => ?_) (fun c4 => ?_)
      · replace hM := i_pos hM c4
        refine lv_iinc (v := (x3 + 1)) (lv' := [(3, .int (x3 + 1)), (0, .ref (h 0)), (2, .int x2)]) hx hb dX9_passMinute_147 hl (k := 2) rfl rfl (by decide) rfl (fun ls hl => ?_)
        refine lv_goto (tgt := 115) hx hb dX9_passMinute_150 (by decide) ?_
        exact ih _ _ _ _ _ _ hM _ _ hw _ (lv_sub hl [1, 2, 0] rfl)
      · replace hM := i_neg hM c4
        refine lv_aload_n hx hb dX9_passMinute_134 rfl (lv_at hl 0 rfl) ?_
        refine lv_iload_n hx hb dX9_passMinute_135 rfl (lv_at hl 2 rfl) ?_
        refine lv_aload_n hx hb dX9_passMinute_136 rfl (lv_at hl 0 rfl) ?_
        refine q_get (C := RX9) (T := TX9) (N := 17) (ci := 9) E (fun w h => List.mem_cons_of_mem _ (inX9 w h)) hw 0 rfl rfl 0 (by decide) (List.mem_cons_of_mem _ tb_1145) (v := .ref (h 1)) rfl dX9_passMinute_137 ?_
        refine lv_iconst (v := 0) hx hb dX9_passMinute_140 (by decide) ?_
        refine q_ald E hw 1 (n := 4619) rfl (by decide +kernel) (x := (σ 1 (ix 0))) rfl dX9_passMinute_141 ?_
        refine lv_iconst (v := 1) hx hb dX9_passMinute_142 (by decide) ?_
        refine lv_iadd hx hb dX9_passMinute_143 ?_
        obtain ⟨p5, h6, hM⟩ := b_some hM
        refine q_cvv (As := [.int x3, .int ((σ 1 (ix 0)) + 1)]) (rest := []) E hw hl (c_X9_letClimb l D cA tS A h F x3 ((σ 1 (ix 0)) + 1) σ wd p5 h6) 2 (bwV bw_c tb_1285 tb_1287 tb_62 tb_111 tb_1288) rfl (by decide +kernel) ⟨Nat.le_of_ble_eq_true rfl, Nat.le_of_ble_eq_true rfl⟩ 0 9 (T := TX9) (N := 17) rfl rfl rfl rfl (Nat.le_of_ble_eq_true rfl) ⟨Nat.zero_le _, Nat.zero_le _⟩ dX9_passMinute_144 (fun H locs hw => ?_)
        refine lv_iinc (v := (x3 + 1)) (lv' := [(3, .int (x3 + 1)), (0, .ref (h 0)), (2, .int x2)]) hx hb dX9_passMinute_147 hl (k := 2) rfl rfl (by decide) rfl (fun ls hl => ?_)
        refine lv_goto (tgt := 115) hx hb dX9_passMinute_150 (by decide) ?_
        exact ih _ _ _ _ _ _ hM _ _ hw _ (lv_sub hl [1, 2, 0] rfl)
set_option maxRecDepth 100000 in
set_option maxHeartbeats 4000000 in
theorem s_X9_passMinute_75 (l : Launch) (D : va_G) (cA : Nat → ClassId) (tS : Nat → Nat) (A : Nat → Prop) (h : Nat → Nat) (F : va_W) (N : Nat) {p : Program} {e : Env} {s : State} {m : MethodId} {args : Array Value} {below : List Frame} {meth : Method} {c : Code} (E : Ev p cX9_passMinute 4 (some .int) RX9 (Cond.code yX9_passMinute cX9_passMinute 4 (some .int) :: bw) D cA tS A s m args meth c) : ∀ (n : Nat) (x1 : Int32) (x2 : Int32) (x3 : Int32) (σ : Sg) (wd : Int64) (r0 : Int32) (s0 : Sg) (hM : f_X9_passMinute_75 N n x1 x2 x3 σ wd = some (r0, s0)) (H : Heap) (locs : List Loc) (hw : Wd D A (wM cA h σ wd ++ F) s.heap H locs) (ls : Array Slot) (hl : lv_has ls 4 [(0, .ref (h 0)), (1, .int x1), (2, .int x2), (3, .int x3)]), W p l e ({ frames := 5, cells := 0, slots := 0, locals := 112 } : Room) s m args below meth c H locs 0 0 (MQ below (QW D A (some (.int r0)) (wM cA h s0 wd ++ F)) args s 0 0 A) (F0 m 75 ls []) := by
  have hx := E.1.1
  have hb := E.1.2.1
  intro n
  induction n with
  | zero =>
    intro x1 x2 x3 σ wd r0 s0 hM
    cases hM
  | succ n ih =>
    intro x1 x2 x3 σ wd r0 s0 hM H locs hw ls hl
    rw [f_X9_passMinute_75] at hM
    refine lv_iload_n hx hb dX9_passMinute_75 rfl (lv_at hl 3 rfl) ?_
    refine lv_aload_n hx hb dX9_passMinute_76 rfl (lv_at hl 0 rfl) ?_
    refine q_get (C := RX9) (T := TX9) (N := 17) (ci := 9) E (fun w h => List.mem_cons_of_mem _ (inX9 w h)) hw 0 rfl rfl 0 (by decide) (List.mem_cons_of_mem _ tb_1145) (v := .ref (h 1)) rfl dX9_passMinute_77 ?_
    refine lv_bipush (v := 56) hx hb dX9_passMinute_80 (by decide) ?_
    refine q_ald E hw 1 (n := 4619) rfl (by decide +kernel) (x := (σ 1 (ix 56))) rfl dX9_passMinute_82 ?_
    refine lv_icmp_ge (tgt := 113) hx hb dX9_passMinute_83 (by decide) (fun c1 => ?_) (fun c1 => ?_)
    · replace hM := i_pos hM c1
      refine lv_iconst (v := 0) hx hb dX9_passMinute_113 (by decide) ?_
      refine lv_istore_n (lv' := [(3, .int 0), (0, .ref (h 0)), (1, .int x1), (2, .int x2)]) hx hb dX9_passMinute_114 rfl hl (by decide) rfl (fun ls hl => ?_)
      exact s_X9_passMinute_115 l D cA tS A h F N E N _ _ _ _ _ _ hM _ _ hw _ (lv_sub hl [1, 3, 0] rfl)
    · replace hM := i_neg hM c1
      refine lv_iload_n hx hb dX9_passMinute_86 rfl (lv_at hl 1 rfl) ?_
      refine lv_if_eq (tgt := 113) hx hb dX9_passMinute_87 (by decide) (fun c2 => ?_) (fun c2 => ?_)
      · replace hM := i_pos hM c2
        refine lv_iconst (v := 0) hx hb dX9_passMinute_113 (by decide) ?_
        refine lv_istore_n (lv' := [(3, .int 0), (0, .ref (h 0)), (1, .int x1), (2, .int x2)]) hx hb dX9_passMinute_114 rfl hl (by decide) rfl (fun ls hl => ?_)
        exact s_X9_passMinute_115 l D cA tS A h F N E N _ _ _ _ _ _ hM _ _ hw _ (lv_sub hl [1, 3, 0] rfl)
      · replace hM := i_neg hM c2
        refine lv_aload_n hx hb dX9_passMinute_90 rfl (lv_at hl 0 rfl) ?_
        refine lv_iload_n hx hb dX9_passMinute_91 rfl (lv_at hl 3 rfl) ?_
        refine lv_iconst (v := 1) hx hb dX9_passMinute_92 (by decide) ?_
        obtain ⟨p3, h4, hM⟩ := b_some hM
        refine q_cv (As := [.int x3, .int 1]) (rest := []) E hw hl (c_X9_is l D cA tS A h F x3 1 σ wd p3 h4) 2 (bwV bw_c tb_1249 tb_1251 tb_53 tb_111 tb_1252) rfl (by decide +kernel) ⟨Nat.le_of_ble_eq_true rfl, Nat.le_of_ble_eq_true rfl⟩ 0 9 (T := TX9) (N := 17) rfl rfl rfl rfl (Nat.le_of_ble_eq_true rfl) ⟨Nat.zero_le _, Nat.zero_le _⟩ dX9_passMinute_93 (fun H locs hw => ?_)
        refine lv_if_eq (tgt := 107) hx hb dX9_passMinute_96 (by decide) (fun c5 => ?_) (fun c5 => ?_)
        · replace hM := i_pos hM c5
          refine lv_iinc (v := (x3 + 1)) (lv' := [(3, .int (x3 + 1)), (0, .ref (h 0)), (1, .int x1), (2, .int x2)]) hx hb dX9_passMinute_107 hl (k := 3) rfl rfl (by decide) rfl (fun ls hl => ?_)
          refine lv_goto (tgt := 75) hx hb dX9_passMinute_110 (by decide) ?_
          exact ih _ _ _ _ _ _ _ hM _ _ hw _ (lv_sub hl [1, 2, 3, 0] rfl)
        · replace hM := i_neg hM c5
          refine lv_iload_n hx hb dX9_passMinute_99 rfl (lv_at hl 2 rfl) ?_
          refine lv_aload_n hx hb dX9_passMinute_100 rfl (lv_at hl 0 rfl) ?_
          refine lv_iload_n hx hb dX9_passMinute_101 rfl (lv_at hl 3 rfl) ?_
          obtain ⟨p6, h7, hM⟩ := b_some hM
          refine q_cv (As := [.int x3]) (rest := [.int x2]) E hw hl (c_X9_workOn l D cA tS A h F N x3 σ wd p6.1 p6.2 h7) 1 (bwV bw_c tb_1431 tb_1433 tb_80 tb_111 tb_1434) rfl (by decide +kernel) ⟨Nat.le_of_ble_eq_true rfl, Nat.le_of_ble_eq_true rfl⟩ 0 9 (T := TX9) (N := 17) rfl rfl rfl rfl (Nat.le_of_ble_eq_true rfl) ⟨Nat.zero_le _, Nat.zero_le _⟩ dX9_passMinute_102 (fun H locs hw => ?_)
          refine lv_iadd hx hb dX9_passMinute_105 ?_
          refine lv_istore_n (lv' := [(2, .int (x2 + p6.1)), (0, .ref (h 0)), (1, .int x1), (3, .int x3)]) hx hb dX9_passMinute_106 rfl hl (by decide) rfl (fun ls hl => ?_)
          refine lv_iinc (v := (x3 + 1)) (lv' := [(3, .int (x3 + 1)), (2, .int (x2 + p6.1)), (0, .ref (h 0)), (1, .int x1)]) hx hb dX9_passMinute_107 hl (k := 3) rfl rfl (by decide) rfl (fun ls hl => ?_)
          refine lv_goto (tgt := 75) hx hb dX9_passMinute_110 (by decide) ?_
          exact ih _ _ _ _ _ _ _ hM _ _ hw _ (lv_sub hl [2, 3, 1, 0] rfl)
set_option maxRecDepth 100000 in
set_option maxHeartbeats 4000000 in
theorem s_X9_passMinute_35 (l : Launch) (D : va_G) (cA : Nat → ClassId) (tS : Nat → Nat) (A : Nat → Prop) (h : Nat → Nat) (F : va_W) (N : Nat) {p : Program} {e : Env} {s : State} {m : MethodId} {args : Array Value} {below : List Frame} {meth : Method} {c : Code} (E : Ev p cX9_passMinute 4 (some .int) RX9 (Cond.code yX9_passMinute cX9_passMinute 4 (some .int) :: bw) D cA tS A s m args meth c) : ∀ (n : Nat) (x1 : Int32) (x2 : Int32) (σ : Sg) (wd : Int64) (r0 : Int32) (s0 : Sg) (hM : f_X9_passMinute_35 N n x1 x2 σ wd = some (r0, s0)) (H : Heap) (locs : List Loc) (hw : Wd D A (wM cA h σ wd ++ F) s.heap H locs) (ls : Array Slot) (hl : lv_has ls 4 [(0, .ref (h 0)), (1, .int x1), (2, .int x2)]), W p l e ({ frames := 5, cells := 0, slots := 0, locals := 112 } : Room) s m args below meth c H locs 0 0 (MQ below (QW D A (some (.int r0)) (wM cA h s0 wd ++ F)) args s 0 0 A) (F0 m 35 ls []) := by
  have hx := E.1.1
  have hb := E.1.2.1
  intro n
  induction n with
  | zero =>
    intro x1 x2 σ wd r0 s0 hM
    cases hM
  | succ n ih =>
    intro x1 x2 σ wd r0 s0 hM H locs hw ls hl
    rw [f_X9_passMinute_35] at hM
    refine lv_iload_n hx hb dX9_passMinute_35 rfl (lv_at hl 2 rfl) ?_
    refine lv_aload_n hx hb dX9_passMinute_36 rfl (lv_at hl 0 rfl) ?_
    refine q_get (C := RX9) (T := TX9) (N := 17) (ci := 9) E (fun w h => List.mem_cons_of_mem _ (inX9 w h)) hw 0 rfl rfl 0 (by decide) (List.mem_cons_of_mem _ tb_1145) (v := .ref (h 1)) rfl dX9_passMinute_37 ?_
    refine lv_bipush (v := 56) hx hb dX9_passMinute_40 (by decide) ?_
    refine q_ald E hw 1 (n := 4619) rfl (by decide +kernel) (x := (σ 1 (ix 56))) rfl dX9_passMinute_42 ?_
    refine lv_icmp_ge (tgt := 71) hx hb dX9_passMinute_43 (by decide) (fun c1 => ?_) (fun c1 => ?_)
    · replace hM := i_pos hM c1
      refine lv_iconst (v := 0) hx hb dX9_passMinute_71 (by decide) ?_
      refine lv_istore_n (lv' := [(2, .int 0), (0, .ref (h 0)), (1, .int x1)]) hx hb dX9_passMinute_72 rfl hl (by decide) rfl (fun ls hl => ?_)
      refine lv_iconst (v := 0) hx hb dX9_passMinute_73 (by decide) ?_
      refine lv_istore_n (lv' := [(3, .int 0), (2, .int 0), (0, .ref (h 0)), (1, .int x1)]) hx hb dX9_passMinute_74 rfl hl (by decide) rfl (fun ls hl => ?_)
      exact s_X9_passMinute_75 l D cA tS A h F N E N _ _ _ _ _ _ _ hM _ _ hw _ (lv_sub hl [2, 3, 1, 0] rfl)
    · replace hM := i_neg hM c1
      refine lv_iload_n hx hb dX9_passMinute_46 rfl (lv_at hl 1 rfl) ?_
      refine lv_if_ne (tgt := 60) hx hb dX9_passMinute_47 (by decide) (fun c2 => ?_) (fun c2 => ?_)
      · replace hM := i_neg hM c2
        refine lv_aload_n hx hb dX9_passMinute_60 rfl (lv_at hl 0 rfl) ?_
        refine lv_iload_n hx hb dX9_passMinute_61 rfl (lv_at hl 2 rfl) ?_
        obtain ⟨p3, h4, hM⟩ := b_some hM
        refine q_cvv (As := [.int x2]) (rest := []) E hw hl (c_X9_runClocks l D cA tS A h F x2 σ wd p3 h4) 1 (bwV bw_c tb_1411 tb_1413 tb_75 tb_111 tb_1414) rfl (by decide +kernel) ⟨Nat.le_of_ble_eq_true rfl, Nat.le_of_ble_eq_true rfl⟩ 0 9 (T := TX9) (N := 17) rfl rfl rfl rfl (Nat.le_of_ble_eq_true rfl) ⟨Nat.zero_le _, Nat.zero_le _⟩ dX9_passMinute_62 (fun H locs hw => ?_)
        refine lv_iinc (v := (x2 + 1)) (lv' := [(2, .int (x2 + 1)), (0, .ref (h 0)), (1, .int x1)]) hx hb dX9_passMinute_65 hl (k := 2) rfl rfl (by decide) rfl (fun ls hl => ?_)
        refine lv_goto (tgt := 35) hx hb dX9_passMinute_68 (by decide) ?_
        exact ih _ _ _ _ _ _ hM _ _ hw _ (lv_sub hl [1, 2, 0] rfl)
      · replace hM := i_pos hM c2
        refine lv_aload_n hx hb dX9_passMinute_50 rfl (lv_at hl 0 rfl) ?_
        refine lv_iload_n hx hb dX9_passMinute_51 rfl (lv_at hl 2 rfl) ?_
        refine lv_iconst (v := 5) hx hb dX9_passMinute_52 (by decide) ?_
        obtain ⟨p5, h6, hM⟩ := b_some hM
        refine q_cv (As := [.int x2, .int 5]) (rest := []) E hw hl (c_X9_ofKind l D cA tS A h F x2 5 σ wd p5 h6) 2 (bwV bw_c tb_1403 tb_1405 tb_73 tb_111 tb_1406) rfl (by decide +kernel) ⟨Nat.le_of_ble_eq_true rfl, Nat.le_of_ble_eq_true rfl⟩ 0 9 (T := TX9) (N := 17) rfl rfl rfl rfl (Nat.le_of_ble_eq_true rfl) ⟨Nat.zero_le _, Nat.zero_le _⟩ dX9_passMinute_53 (fun H locs hw => ?_)
        refine lv_iconst (v := 1) hx hb dX9_passMinute_56 (by decide) ?_
        refine lv_icmp_ne (tgt := 65) hx hb dX9_passMinute_57 (by decide) (fun c7 => ?_) (fun c7 => ?_)
        · replace hM := i_neg hM c7
          refine lv_iinc (v := (x2 + 1)) (lv' := [(2, .int (x2 + 1)), (0, .ref (h 0)), (1, .int x1)]) hx hb dX9_passMinute_65 hl (k := 2) rfl rfl (by decide) rfl (fun ls hl => ?_)
          refine lv_goto (tgt := 35) hx hb dX9_passMinute_68 (by decide) ?_
          exact ih _ _ _ _ _ _ hM _ _ hw _ (lv_sub hl [1, 2, 0] rfl)
        · replace hM := i_pos hM c7
          refine lv_aload_n hx hb dX9_passMinute_60 rfl (lv_at hl 0 rfl) ?_
          refine lv_iload_n hx hb dX9_passMinute_61 rfl (lv_at hl 2 rfl) ?_
          obtain ⟨p8, h9, hM⟩ := b_some hM
          refine q_cvv (As := [.int x2]) (rest := []) E hw hl (c_X9_runClocks l D cA tS A h F x2 σ wd p8 h9) 1 (bwV bw_c tb_1411 tb_1413 tb_75 tb_111 tb_1414) rfl (by decide +kernel) ⟨Nat.le_of_ble_eq_true rfl, Nat.le_of_ble_eq_true rfl⟩ 0 9 (T := TX9) (N := 17) rfl rfl rfl rfl (Nat.le_of_ble_eq_true rfl) ⟨Nat.zero_le _, Nat.zero_le _⟩ dX9_passMinute_62 (fun H locs hw => ?_)
          refine lv_iinc (v := (x2 + 1)) (lv' := [(2, .int (x2 + 1)), (0, .ref (h 0)), (1, .int x1)]) hx hb dX9_passMinute_65 hl (k := 2) rfl rfl (by decide) rfl (fun ls hl => ?_)
          refine lv_goto (tgt := 35) hx hb dX9_passMinute_68 (by decide) ?_
          exact ih _ _ _ _ _ _ hM _ _ hw _ (lv_sub hl [1, 2, 0] rfl)
set_option maxRecDepth 100000 in
set_option maxHeartbeats 4000000 in
theorem s_X9_passMinute_13 (l : Launch) (D : va_G) (cA : Nat → ClassId) (tS : Nat → Nat) (A : Nat → Prop) (h : Nat → Nat) (F : va_W) (N : Nat) {p : Program} {e : Env} {s : State} {m : MethodId} {args : Array Value} {below : List Frame} {meth : Method} {c : Code} (E : Ev p cX9_passMinute 4 (some .int) RX9 (Cond.code yX9_passMinute cX9_passMinute 4 (some .int) :: bw) D cA tS A s m args meth c) : ∀ (n : Nat) (x1 : Int32) (x2 : Int32) (σ : Sg) (wd : Int64) (r0 : Int32) (s0 : Sg) (hM : f_X9_passMinute_13 N n x1 x2 σ wd = some (r0, s0)) (H : Heap) (locs : List Loc) (hw : Wd D A (wM cA h σ wd ++ F) s.heap H locs) (ls : Array Slot) (hl : lv_has ls 4 [(0, .ref (h 0)), (1, .int x1), (2, .int x2)]), W p l e ({ frames := 5, cells := 0, slots := 0, locals := 112 } : Room) s m args below meth c H locs 0 0 (MQ below (QW D A (some (.int r0)) (wM cA h s0 wd ++ F)) args s 0 0 A) (F0 m 13 ls []) := by
  have hx := E.1.1
  have hb := E.1.2.1
  intro n
  induction n with
  | zero =>
    intro x1 x2 σ wd r0 s0 hM
    cases hM
  | succ n ih =>
    intro x1 x2 σ wd r0 s0 hM H locs hw ls hl
    rw [f_X9_passMinute_13] at hM
    refine lv_iload_n hx hb dX9_passMinute_13 rfl (lv_at hl 2 rfl) ?_
    refine lv_iconst (v := 4) hx hb dX9_passMinute_14 (by decide) ?_
    refine lv_icmp_ge (tgt := 33) hx hb dX9_passMinute_15 (by decide) (fun c1 => ?_) (fun c1 => ?_)
    · replace hM := i_pos hM c1
      refine lv_iconst (v := 0) hx hb dX9_passMinute_33 (by decide) ?_
      refine lv_istore_n (lv' := [(2, .int 0), (0, .ref (h 0)), (1, .int x1)]) hx hb dX9_passMinute_34 rfl hl (by decide) rfl (fun ls hl => ?_)
      exact s_X9_passMinute_35 l D cA tS A h F N E N _ _ _ _ _ _ hM _ _ hw _ (lv_sub hl [1, 2, 0] rfl)
    · replace hM := i_neg hM c1
      refine lv_iload_n hx hb dX9_passMinute_18 rfl (lv_at hl 1 rfl) ?_
      refine lv_if_eq (tgt := 33) hx hb dX9_passMinute_19 (by decide) (fun c2 => ?_) (fun c2 => ?_)
      · replace hM := i_pos hM c2
        refine lv_iconst (v := 0) hx hb dX9_passMinute_33 (by decide) ?_
        refine lv_istore_n (lv' := [(2, .int 0), (0, .ref (h 0)), (1, .int x1)]) hx hb dX9_passMinute_34 rfl hl (by decide) rfl (fun ls hl => ?_)
        exact s_X9_passMinute_35 l D cA tS A h F N E N _ _ _ _ _ _ hM _ _ hw _ (lv_sub hl [1, 2, 0] rfl)
      · replace hM := i_neg hM c2
        refine lv_aload_n hx hb dX9_passMinute_22 rfl (lv_at hl 0 rfl) ?_
        refine lv_iload_n hx hb dX9_passMinute_23 rfl (lv_at hl 2 rfl) ?_
        obtain ⟨p3, h4, hM⟩ := b_some hM
        refine q_cvv (As := [.int x2]) (rest := []) E hw hl (c_X9_takeTickets l D cA tS A h F N x2 σ wd p3 h4) 1 (bwV bw_c tb_1391 tb_1393 tb_70 tb_111 tb_1394) rfl (by decide +kernel) ⟨Nat.le_of_ble_eq_true rfl, Nat.le_of_ble_eq_true rfl⟩ 0 9 (T := TX9) (N := 17) rfl rfl rfl rfl (Nat.le_of_ble_eq_true rfl) ⟨Nat.zero_le _, Nat.zero_le _⟩ dX9_passMinute_24 (fun H locs hw => ?_)
        refine lv_iinc (v := (x2 + 1)) (lv' := [(2, .int (x2 + 1)), (0, .ref (h 0)), (1, .int x1)]) hx hb dX9_passMinute_27 hl (k := 2) rfl rfl (by decide) rfl (fun ls hl => ?_)
        refine lv_goto (tgt := 13) hx hb dX9_passMinute_30 (by decide) ?_
        exact ih _ _ _ _ _ _ hM _ _ hw _ (lv_sub hl [1, 2, 0] rfl)
set_option maxRecDepth 100000 in
set_option maxHeartbeats 4000000 in
theorem c_X9_passMinute (l : Launch) (D : va_G) (cA : Nat → ClassId) (tS : Nat → Nat) (A : Nat → Prop) (h : Nat → Nat) (F : va_W) (N : Nat) (σ : Sg) (wd : Int64) (r0 : Int32) (s0 : Sg) (hM : f_X9_passMinute N σ wd = some (r0, s0)) : Ct l yX9_passMinute (Cond.code yX9_passMinute cX9_passMinute 4 (some .int) :: bw) 5 112 D cA tS A [.ref (h 0)] (wM cA h σ wd ++ F) (some (.int r0)) (wM cA h s0 wd ++ F) := by
  refine ct_of (by decide +kernel) (Nat.le_of_ble_eq_true rfl) ?_
  intro p e s m below meth c E hw ls hl
  replace E : Ev p cX9_passMinute 4 (some .int) RX9 (Cond.code yX9_passMinute cX9_passMinute 4 (some .int) :: bw) D cA tS A s m _ meth c := E
  replace hl : lv_has ls 4 [(0, .ref (h 0))] := hl
  have hx := E.1.1
  have hb := E.1.2.1
  unfold f_X9_passMinute at hM
  refine lv_aload_n hx hb dX9_passMinute_0 rfl (lv_at hl 0 rfl) ?_
  refine lv_aload_n hx hb dX9_passMinute_1 rfl (lv_at hl 0 rfl) ?_
  refine q_get (C := RX9) (T := TX9) (N := 17) (ci := 9) E (fun w h => List.mem_cons_of_mem _ (inX9 w h)) hw 0 rfl rfl 0 (by decide) (List.mem_cons_of_mem _ tb_1145) (v := .ref (h 1)) rfl dX9_passMinute_2 ?_
  refine lv_iconst (v := 0) hx hb dX9_passMinute_5 (by decide) ?_
  refine q_ald E hw 1 (n := 4619) rfl (by decide +kernel) (x := (σ 1 (ix 0))) rfl dX9_passMinute_6 ?_
  obtain ⟨p1, h2, hM⟩ := b_some hM
  refine q_cv (As := [.int (σ 1 (ix 0))]) (rest := []) E hw hl (c_X9_isOpenMinute l D cA tS A h F (σ 1 (ix 0)) σ wd p1 h2) 1 (bwV bw_c tb_1321 tb_1323 tb_68 tb_111 tb_1324) rfl (by decide +kernel) ⟨Nat.le_of_ble_eq_true rfl, Nat.le_of_ble_eq_true rfl⟩ 0 9 (T := TX9) (N := 17) rfl rfl rfl rfl (Nat.le_of_ble_eq_true rfl) ⟨Nat.zero_le _, Nat.zero_le _⟩ dX9_passMinute_7 (fun H locs hw => ?_)
  refine lv_istore_n (lv' := [(1, .int p1), (0, .ref (h 0))]) hx hb dX9_passMinute_10 rfl hl (by decide) rfl (fun ls hl => ?_)
  refine lv_iconst (v := 0) hx hb dX9_passMinute_11 (by decide) ?_
  refine lv_istore_n (lv' := [(2, .int 0), (1, .int p1), (0, .ref (h 0))]) hx hb dX9_passMinute_12 rfl hl (by decide) rfl (fun ls hl => ?_)
  exact s_X9_passMinute_13 l D cA tS A h F N E N _ _ _ _ _ _ hM _ _ hw _ (lv_sub hl [2, 1, 0] rfl)
set_option maxRecDepth 100000 in
set_option maxHeartbeats 4000000 in
theorem s_X9_pass_25 (l : Launch) (D : va_G) (cA : Nat → ClassId) (tS : Nat → Nat) (A : Nat → Prop) (h : Nat → Nat) (F : va_W) (N : Nat) {p : Program} {e : Env} {s : State} {m : MethodId} {args : Array Value} {below : List Frame} {meth : Method} {c : Code} (E : Ev p cX9_pass 4 (some .int) RX9 (Cond.code yX9_pass cX9_pass 4 (some .int) :: bw) D cA tS A s m args meth c) : ∀ (n : Nat) (x1 : Int32) (x2 : Int32) (x3 : Int32) (σ : Sg) (wd : Int64) (r0 : Int32) (s0 : Sg) (hM : f_X9_pass_25 N n x1 x2 x3 σ wd = some (r0, s0)) (H : Heap) (locs : List Loc) (hw : Wd D A (wM cA h σ wd ++ F) s.heap H locs) (ls : Array Slot) (hl : lv_has ls 4 [(0, .ref (h 0)), (1, .int x1), (2, .int x2), (3, .int x3)]), W p l e ({ frames := 6, cells := 0, slots := 0, locals := 135 } : Room) s m args below meth c H locs 0 0 (MQ below (QW D A (some (.int r0)) (wM cA h s0 wd ++ F)) args s 0 0 A) (F0 m 25 ls []) := by
  have hx := E.1.1
  have hb := E.1.2.1
  intro n
  induction n with
  | zero =>
    intro x1 x2 x3 σ wd r0 s0 hM
    cases hM
  | succ n ih =>
    intro x1 x2 x3 σ wd r0 s0 hM H locs hw ls hl
    rw [f_X9_pass_25] at hM
    refine lv_iload_n hx hb dX9_pass_25 rfl (lv_at hl 3 rfl) ?_
    refine lv_iload_n hx hb dX9_pass_26 rfl (lv_at hl 1 rfl) ?_
    refine lv_icmp_ge (tgt := 43) hx hb dX9_pass_27 (by decide) (fun c1 => ?_) (fun c1 => ?_)
    · replace hM := i_pos hM c1
      refine lv_iload_n hx hb dX9_pass_43 rfl (lv_at hl 2 rfl) ?_
      cases hM
      exact q_reti E hw dX9_pass_44
    · replace hM := i_neg hM c1
      refine lv_iload_n hx hb dX9_pass_30 rfl (lv_at hl 2 rfl) ?_
      refine lv_aload_n hx hb dX9_pass_31 rfl (lv_at hl 0 rfl) ?_
      obtain ⟨p2, h3, hM⟩ := b_some hM
      refine q_cv (As := []) (rest := [.int x2]) E hw hl (c_X9_passMinute l D cA tS A h F N σ wd p2.1 p2.2 h3) 0 (bwV bw_c tb_1387 tb_1389 tb_69 tb_111 tb_1390) rfl (by decide +kernel) ⟨Nat.le_of_ble_eq_true rfl, Nat.le_of_ble_eq_true rfl⟩ 0 9 (T := TX9) (N := 17) rfl rfl rfl rfl (Nat.le_of_ble_eq_true rfl) ⟨Nat.zero_le _, Nat.zero_le _⟩ dX9_pass_32 (fun H locs hw => ?_)
      refine lv_iadd hx hb dX9_pass_35 ?_
      refine lv_istore_n (lv' := [(2, .int (x2 + p2.1)), (0, .ref (h 0)), (1, .int x1), (3, .int x3)]) hx hb dX9_pass_36 rfl hl (by decide) rfl (fun ls hl => ?_)
      refine lv_iinc (v := (x3 + 1)) (lv' := [(3, .int (x3 + 1)), (2, .int (x2 + p2.1)), (0, .ref (h 0)), (1, .int x1)]) hx hb dX9_pass_37 hl (k := 3) rfl rfl (by decide) rfl (fun ls hl => ?_)
      refine lv_goto (tgt := 25) hx hb dX9_pass_40 (by decide) ?_
      exact ih _ _ _ _ _ _ _ hM _ _ hw _ (lv_sub hl [2, 3, 1, 0] rfl)
set_option maxRecDepth 100000 in
set_option maxHeartbeats 4000000 in
theorem c_X9_pass (l : Launch) (D : va_G) (cA : Nat → ClassId) (tS : Nat → Nat) (A : Nat → Prop) (h : Nat → Nat) (F : va_W) (N : Nat) (x1 : Int32) (σ : Sg) (wd : Int64) (r0 : Int32) (s0 : Sg) (hM : f_X9_pass N x1 σ wd = some (r0, s0)) : Ct l yX9_pass (Cond.code yX9_pass cX9_pass 4 (some .int) :: bw) 6 135 D cA tS A [.ref (h 0), .int x1] (wM cA h σ wd ++ F) (some (.int r0)) (wM cA h s0 wd ++ F) := by
  refine ct_of (by decide +kernel) (Nat.le_of_ble_eq_true rfl) ?_
  intro p e s m below meth c E hw ls hl
  replace E : Ev p cX9_pass 4 (some .int) RX9 (Cond.code yX9_pass cX9_pass 4 (some .int) :: bw) D cA tS A s m _ meth c := E
  replace hl : lv_has ls 4 [(0, .ref (h 0)), (1, .int x1)] := hl
  have hx := E.1.1
  have hb := E.1.2.1
  unfold f_X9_pass at hM
  refine lv_iload_n hx hb dX9_pass_0 rfl (lv_at hl 1 rfl) ?_
  refine lv_iconst (v := 1) hx hb dX9_pass_1 (by decide) ?_
  refine lv_sipush (v := 10080) hx hb dX9_pass_2 (by decide) ?_
  refine lv_aload_n hx hb dX9_pass_5 rfl (lv_at hl 0 rfl) ?_
  refine q_get (C := RX9) (T := TX9) (N := 17) (ci := 9) E (fun w h => List.mem_cons_of_mem _ (inX9 w h)) hw 0 rfl rfl 0 (by decide) (List.mem_cons_of_mem _ tb_1145) (v := .ref (h 1)) rfl dX9_pass_6 ?_
  refine lv_iconst (v := 0) hx hb dX9_pass_9 (by decide) ?_
  refine q_ald E hw 1 (n := 4619) rfl (by decide +kernel) (x := (σ 1 (ix 0))) rfl dX9_pass_10 ?_
  refine lv_isub hx hb dX9_pass_11 ?_
  obtain ⟨p1, h2, hM⟩ := b_some hM
  refine q_cs (As := [.int x1, .int 1, .int (10080 - (σ 1 (ix 0)))]) (rest := []) E hw hl (c_X9_isBetween l D cA tS A (wM cA h σ wd ++ F) x1 1 (10080 - (σ 1 (ix 0))) p1 h2) 3 (bwS bw_c tb_1212 tb_1213 tb_111 tb_1214) rfl (by decide +kernel) ⟨Nat.le_of_ble_eq_true rfl, Nat.le_of_ble_eq_true rfl⟩ rfl rfl (Nat.le_of_ble_eq_true rfl) ⟨Nat.zero_le _, Nat.zero_le _⟩ dX9_pass_12 (fun H locs hw => ?_)
  refine lv_if_ne (tgt := 21) hx hb dX9_pass_15 (by decide) (fun c3 => ?_) (fun c3 => ?_)
  · replace hM := i_neg hM c3
    refine lv_iconst (v := 0) hx hb dX9_pass_21 (by decide) ?_
    refine lv_istore_n (lv' := [(2, .int 0), (0, .ref (h 0)), (1, .int x1)]) hx hb dX9_pass_22 rfl hl (by decide) rfl (fun ls hl => ?_)
    refine lv_iconst (v := 0) hx hb dX9_pass_23 (by decide) ?_
    refine lv_istore_n (lv' := [(3, .int 0), (2, .int 0), (0, .ref (h 0)), (1, .int x1)]) hx hb dX9_pass_24 rfl hl (by decide) rfl (fun ls hl => ?_)
    exact s_X9_pass_25 l D cA tS A h F N E N _ _ _ _ _ _ _ hM _ _ hw _ (lv_sub hl [2, 3, 1, 0] rfl)
  · replace hM := i_pos hM c3
    refine lv_bipush (v := (-4)) hx hb dX9_pass_18 (by decide) ?_
    cases hM
    exact q_reti E hw dX9_pass_20
set_option maxRecDepth 100000 in
set_option maxHeartbeats 4000000 in
theorem c_X9_now (l : Launch) (D : va_G) (cA : Nat → ClassId) (tS : Nat → Nat) (A : Nat → Prop) (h : Nat → Nat) (F : va_W) (σ : Sg) (wd : Int64) (r0 : Int32) (hM : f_X9_now σ wd = some r0) : Ct l yX9_now (Cond.code yX9_now cX9_now 1 (some .int) :: bw) 0 0 D cA tS A [.ref (h 0)] (wM cA h σ wd ++ F) (some (.int r0)) (wM cA h σ wd ++ F) := by
  refine ct_of (by decide +kernel) (Nat.le_of_ble_eq_true rfl) ?_
  intro p e s m below meth c E hw ls hl
  replace E : Ev p cX9_now 1 (some .int) RX9 (Cond.code yX9_now cX9_now 1 (some .int) :: bw) D cA tS A s m _ meth c := E
  replace hl : lv_has ls 1 [(0, .ref (h 0))] := hl
  have hx := E.1.1
  have hb := E.1.2.1
  unfold f_X9_now at hM
  refine lv_aload_n hx hb dX9_now_0 rfl (lv_at hl 0 rfl) ?_
  refine q_get (C := RX9) (T := TX9) (N := 17) (ci := 9) E (fun w h => List.mem_cons_of_mem _ (inX9 w h)) hw 0 rfl rfl 0 (by decide) (List.mem_cons_of_mem _ tb_1145) (v := .ref (h 1)) rfl dX9_now_1 ?_
  refine lv_iconst (v := 0) hx hb dX9_now_4 (by decide) ?_
  refine q_ald E hw 1 (n := 4619) rfl (by decide +kernel) (x := (σ 1 (ix 0))) rfl dX9_now_5 ?_
  cases hM
  exact q_reti E hw dX9_now_6
set_option maxRecDepth 100000 in
set_option maxHeartbeats 4000000 in
theorem c_X9_ticketCount (l : Launch) (D : va_G) (cA : Nat → ClassId) (tS : Nat → Nat) (A : Nat → Prop) (h : Nat → Nat) (F : va_W) (σ : Sg) (wd : Int64) (r0 : Int32) (hM : f_X9_ticketCount σ wd = some r0) : Ct l yX9_ticketCount (Cond.code yX9_ticketCount cX9_ticketCount 1 (some .int) :: bw) 0 0 D cA tS A [.ref (h 0)] (wM cA h σ wd ++ F) (some (.int r0)) (wM cA h σ wd ++ F) := by
  refine ct_of (by decide +kernel) (Nat.le_of_ble_eq_true rfl) ?_
  intro p e s m below meth c E hw ls hl
  replace E : Ev p cX9_ticketCount 1 (some .int) RX9 (Cond.code yX9_ticketCount cX9_ticketCount 1 (some .int) :: bw) D cA tS A s m _ meth c := E
  replace hl : lv_has ls 1 [(0, .ref (h 0))] := hl
  have hx := E.1.1
  have hb := E.1.2.1
  unfold f_X9_ticketCount at hM
  refine lv_aload_n hx hb dX9_ticketCount_0 rfl (lv_at hl 0 rfl) ?_
  refine q_get (C := RX9) (T := TX9) (N := 17) (ci := 9) E (fun w h => List.mem_cons_of_mem _ (inX9 w h)) hw 0 rfl rfl 0 (by decide) (List.mem_cons_of_mem _ tb_1145) (v := .ref (h 1)) rfl dX9_ticketCount_1 ?_
  refine lv_bipush (v := 56) hx hb dX9_ticketCount_4 (by decide) ?_
  refine q_ald E hw 1 (n := 4619) rfl (by decide +kernel) (x := (σ 1 (ix 56))) rfl dX9_ticketCount_6 ?_
  cases hM
  exact q_reti E hw dX9_ticketCount_7
set_option maxRecDepth 100000 in
set_option maxHeartbeats 4000000 in
theorem c_X9_fieldOf (l : Launch) (D : va_G) (cA : Nat → ClassId) (tS : Nat → Nat) (A : Nat → Prop) (h : Nat → Nat) (F : va_W) (x1 : Int32) (x2 : Int32) (σ : Sg) (wd : Int64) (r0 : Int32) (hM : f_X9_fieldOf x1 x2 σ wd = some r0) : Ct l yX9_fieldOf (Cond.code yX9_fieldOf cX9_fieldOf 3 (some .int) :: bw) 2 43 D cA tS A [.ref (h 0), .int x1, .int x2] (wM cA h σ wd ++ F) (some (.int r0)) (wM cA h σ wd ++ F) := by
  refine ct_of (by decide +kernel) (Nat.le_of_ble_eq_true rfl) ?_
  intro p e s m below meth c E hw ls hl
  replace E : Ev p cX9_fieldOf 3 (some .int) RX9 (Cond.code yX9_fieldOf cX9_fieldOf 3 (some .int) :: bw) D cA tS A s m _ meth c := E
  replace hl : lv_has ls 3 [(0, .ref (h 0)), (1, .int x1), (2, .int x2)] := hl
  have hx := E.1.1
  have hb := E.1.2.1
  unfold f_X9_fieldOf at hM
  refine lv_aload_n hx hb dX9_fieldOf_0 rfl (lv_at hl 0 rfl) ?_
  refine lv_iload_n hx hb dX9_fieldOf_1 rfl (lv_at hl 1 rfl) ?_
  obtain ⟨p1, h2, hM⟩ := b_some hM
  refine q_cv (As := [.int x1]) (rest := []) E hw hl (c_X9_isTicket l D cA tS A h F x1 σ wd p1 h2) 1 (bwV bw_c tb_1233 tb_1235 tb_49 tb_111 tb_1236) rfl (by decide +kernel) ⟨Nat.le_of_ble_eq_true rfl, Nat.le_of_ble_eq_true rfl⟩ 0 9 (T := TX9) (N := 17) rfl rfl rfl rfl (Nat.le_of_ble_eq_true rfl) ⟨Nat.zero_le _, Nat.zero_le _⟩ dX9_fieldOf_2 (fun H locs hw => ?_)
  refine lv_if_eq (tgt := 17) hx hb dX9_fieldOf_5 (by decide) (fun c3 => ?_) (fun c3 => ?_)
  · replace hM := i_pos hM c3
    refine lv_bipush (v := (-2)) hx hb dX9_fieldOf_17 (by decide) ?_
    cases hM
    exact q_reti E hw dX9_fieldOf_19
  · replace hM := i_neg hM c3
    refine lv_aload_n hx hb dX9_fieldOf_8 rfl (lv_at hl 0 rfl) ?_
    refine lv_iload_n hx hb dX9_fieldOf_9 rfl (lv_at hl 1 rfl) ?_
    refine lv_iload_n hx hb dX9_fieldOf_10 rfl (lv_at hl 2 rfl) ?_
    obtain ⟨p4, h5, hM⟩ := b_some hM
    refine q_cv (As := [.int x1, .int x2]) (rest := []) E hw hl (c_X9_ticket l D cA tS A h F x1 x2 σ wd p4 h5) 2 (bwV bw_c tb_1241 tb_1243 tb_51 tb_111 tb_1244) rfl (by decide +kernel) ⟨Nat.le_of_ble_eq_true rfl, Nat.le_of_ble_eq_true rfl⟩ 0 9 (T := TX9) (N := 17) rfl rfl rfl rfl (Nat.le_of_ble_eq_true rfl) ⟨Nat.zero_le _, Nat.zero_le _⟩ dX9_fieldOf_11 (fun H locs hw => ?_)
    refine lv_goto (tgt := 19) hx hb dX9_fieldOf_14 (by decide) ?_
    cases hM
    exact q_reti E hw dX9_fieldOf_19
set_option maxRecDepth 100000 in
set_option maxHeartbeats 4000000 in
theorem c_X9_stateOf (l : Launch) (D : va_G) (cA : Nat → ClassId) (tS : Nat → Nat) (A : Nat → Prop) (h : Nat → Nat) (F : va_W) (x1 : Int32) (σ : Sg) (wd : Int64) (r0 : Int32) (hM : f_X9_stateOf x1 σ wd = some r0) : Ct l yX9_stateOf (Cond.code yX9_stateOf cX9_stateOf 2 (some .int) :: bw) 3 65 D cA tS A [.ref (h 0), .int x1] (wM cA h σ wd ++ F) (some (.int r0)) (wM cA h σ wd ++ F) := by
  refine ct_of (by decide +kernel) (Nat.le_of_ble_eq_true rfl) ?_
  intro p e s m below meth c E hw ls hl
  replace E : Ev p cX9_stateOf 2 (some .int) RX9 (Cond.code yX9_stateOf cX9_stateOf 2 (some .int) :: bw) D cA tS A s m _ meth c := E
  replace hl : lv_has ls 2 [(0, .ref (h 0)), (1, .int x1)] := hl
  have hx := E.1.1
  have hb := E.1.2.1
  unfold f_X9_stateOf at hM
  refine lv_aload_n hx hb dX9_stateOf_0 rfl (lv_at hl 0 rfl) ?_
  refine lv_iload_n hx hb dX9_stateOf_1 rfl (lv_at hl 1 rfl) ?_
  refine lv_bipush (v := 9) hx hb dX9_stateOf_2 (by decide) ?_
  obtain ⟨p1, h2, hM⟩ := b_some hM
  refine q_cv (As := [.int x1, .int 9]) (rest := []) E hw hl (c_X9_fieldOf l D cA tS A h F x1 9 σ wd p1 h2) 2 (bwV bw_c tb_1451 tb_1453 tb_82 tb_111 tb_1454) rfl (by decide +kernel) ⟨Nat.le_of_ble_eq_true rfl, Nat.le_of_ble_eq_true rfl⟩ 0 9 (T := TX9) (N := 17) rfl rfl rfl rfl (Nat.le_of_ble_eq_true rfl) ⟨Nat.zero_le _, Nat.zero_le _⟩ dX9_stateOf_4 (fun H locs hw => ?_)
  cases hM
  exact q_reti E hw dX9_stateOf_7
set_option maxRecDepth 100000 in
set_option maxHeartbeats 4000000 in
theorem c_X9_kindOf (l : Launch) (D : va_G) (cA : Nat → ClassId) (tS : Nat → Nat) (A : Nat → Prop) (h : Nat → Nat) (F : va_W) (x1 : Int32) (σ : Sg) (wd : Int64) (r0 : Int32) (hM : f_X9_kindOf x1 σ wd = some r0) : Ct l yX9_kindOf (Cond.code yX9_kindOf cX9_kindOf 2 (some .int) :: bw) 3 65 D cA tS A [.ref (h 0), .int x1] (wM cA h σ wd ++ F) (some (.int r0)) (wM cA h σ wd ++ F) := by
  refine ct_of (by decide +kernel) (Nat.le_of_ble_eq_true rfl) ?_
  intro p e s m below meth c E hw ls hl
  replace E : Ev p cX9_kindOf 2 (some .int) RX9 (Cond.code yX9_kindOf cX9_kindOf 2 (some .int) :: bw) D cA tS A s m _ meth c := E
  replace hl : lv_has ls 2 [(0, .ref (h 0)), (1, .int x1)] := hl
  have hx := E.1.1
  have hb := E.1.2.1
  unfold f_X9_kindOf at hM
  refine lv_aload_n hx hb dX9_kindOf_0 rfl (lv_at hl 0 rfl) ?_
  refine lv_iload_n hx hb dX9_kindOf_1 rfl (lv_at hl 1 rfl) ?_
  refine lv_iconst (v := 0) hx hb dX9_kindOf_2 (by decide) ?_
  obtain ⟨p1, h2, hM⟩ := b_some hM
  refine q_cv (As := [.int x1, .int 0]) (rest := []) E hw hl (c_X9_fieldOf l D cA tS A h F x1 0 σ wd p1 h2) 2 (bwV bw_c tb_1451 tb_1453 tb_82 tb_111 tb_1454) rfl (by decide +kernel) ⟨Nat.le_of_ble_eq_true rfl, Nat.le_of_ble_eq_true rfl⟩ 0 9 (T := TX9) (N := 17) rfl rfl rfl rfl (Nat.le_of_ble_eq_true rfl) ⟨Nat.zero_le _, Nat.zero_le _⟩ dX9_kindOf_3 (fun H locs hw => ?_)
  cases hM
  exact q_reti E hw dX9_kindOf_6
set_option maxRecDepth 100000 in
set_option maxHeartbeats 4000000 in
theorem c_X9_levelOf (l : Launch) (D : va_G) (cA : Nat → ClassId) (tS : Nat → Nat) (A : Nat → Prop) (h : Nat → Nat) (F : va_W) (x1 : Int32) (σ : Sg) (wd : Int64) (r0 : Int32) (hM : f_X9_levelOf x1 σ wd = some r0) : Ct l yX9_levelOf (Cond.code yX9_levelOf cX9_levelOf 2 (some .int) :: bw) 3 65 D cA tS A [.ref (h 0), .int x1] (wM cA h σ wd ++ F) (some (.int r0)) (wM cA h σ wd ++ F) := by
  refine ct_of (by decide +kernel) (Nat.le_of_ble_eq_true rfl) ?_
  intro p e s m below meth c E hw ls hl
  replace E : Ev p cX9_levelOf 2 (some .int) RX9 (Cond.code yX9_levelOf cX9_levelOf 2 (some .int) :: bw) D cA tS A s m _ meth c := E
  replace hl : lv_has ls 2 [(0, .ref (h 0)), (1, .int x1)] := hl
  have hx := E.1.1
  have hb := E.1.2.1
  unfold f_X9_levelOf at hM
  refine lv_aload_n hx hb dX9_levelOf_0 rfl (lv_at hl 0 rfl) ?_
  refine lv_iload_n hx hb dX9_levelOf_1 rfl (lv_at hl 1 rfl) ?_
  refine lv_iconst (v := 4) hx hb dX9_levelOf_2 (by decide) ?_
  obtain ⟨p1, h2, hM⟩ := b_some hM
  refine q_cv (As := [.int x1, .int 4]) (rest := []) E hw hl (c_X9_fieldOf l D cA tS A h F x1 4 σ wd p1 h2) 2 (bwV bw_c tb_1451 tb_1453 tb_82 tb_111 tb_1454) rfl (by decide +kernel) ⟨Nat.le_of_ble_eq_true rfl, Nat.le_of_ble_eq_true rfl⟩ 0 9 (T := TX9) (N := 17) rfl rfl rfl rfl (Nat.le_of_ble_eq_true rfl) ⟨Nat.zero_le _, Nat.zero_le _⟩ dX9_levelOf_3 (fun H locs hw => ?_)
  cases hM
  exact q_reti E hw dX9_levelOf_6
set_option maxRecDepth 100000 in
set_option maxHeartbeats 4000000 in
theorem c_X9_priorityOf (l : Launch) (D : va_G) (cA : Nat → ClassId) (tS : Nat → Nat) (A : Nat → Prop) (h : Nat → Nat) (F : va_W) (x1 : Int32) (σ : Sg) (wd : Int64) (r0 : Int32) (hM : f_X9_priorityOf x1 σ wd = some r0) : Ct l yX9_priorityOf (Cond.code yX9_priorityOf cX9_priorityOf 2 (some .int) :: bw) 3 65 D cA tS A [.ref (h 0), .int x1] (wM cA h σ wd ++ F) (some (.int r0)) (wM cA h σ wd ++ F) := by
  refine ct_of (by decide +kernel) (Nat.le_of_ble_eq_true rfl) ?_
  intro p e s m below meth c E hw ls hl
  replace E : Ev p cX9_priorityOf 2 (some .int) RX9 (Cond.code yX9_priorityOf cX9_priorityOf 2 (some .int) :: bw) D cA tS A s m _ meth c := E
  replace hl : lv_has ls 2 [(0, .ref (h 0)), (1, .int x1)] := hl
  have hx := E.1.1
  have hb := E.1.2.1
  unfold f_X9_priorityOf at hM
  refine lv_aload_n hx hb dX9_priorityOf_0 rfl (lv_at hl 0 rfl) ?_
  refine lv_iload_n hx hb dX9_priorityOf_1 rfl (lv_at hl 1 rfl) ?_
  refine lv_iconst (v := 3) hx hb dX9_priorityOf_2 (by decide) ?_
  obtain ⟨p1, h2, hM⟩ := b_some hM
  refine q_cv (As := [.int x1, .int 3]) (rest := []) E hw hl (c_X9_fieldOf l D cA tS A h F x1 3 σ wd p1 h2) 2 (bwV bw_c tb_1451 tb_1453 tb_82 tb_111 tb_1454) rfl (by decide +kernel) ⟨Nat.le_of_ble_eq_true rfl, Nat.le_of_ble_eq_true rfl⟩ 0 9 (T := TX9) (N := 17) rfl rfl rfl rfl (Nat.le_of_ble_eq_true rfl) ⟨Nat.zero_le _, Nat.zero_le _⟩ dX9_priorityOf_3 (fun H locs hw => ?_)
  cases hM
  exact q_reti E hw dX9_priorityOf_6
set_option maxRecDepth 100000 in
set_option maxHeartbeats 4000000 in
theorem c_X9_progress (l : Launch) (D : va_G) (cA : Nat → ClassId) (tS : Nat → Nat) (A : Nat → Prop) (h : Nat → Nat) (F : va_W) (x1 : Int32) (σ : Sg) (wd : Int64) (r0 : Int32) (hM : f_X9_progress x1 σ wd = some r0) : Ct l yX9_progress (Cond.code yX9_progress cX9_progress 2 (some .int) :: bw) 3 65 D cA tS A [.ref (h 0), .int x1] (wM cA h σ wd ++ F) (some (.int r0)) (wM cA h σ wd ++ F) := by
  refine ct_of (by decide +kernel) (Nat.le_of_ble_eq_true rfl) ?_
  intro p e s m below meth c E hw ls hl
  replace E : Ev p cX9_progress 2 (some .int) RX9 (Cond.code yX9_progress cX9_progress 2 (some .int) :: bw) D cA tS A s m _ meth c := E
  replace hl : lv_has ls 2 [(0, .ref (h 0)), (1, .int x1)] := hl
  have hx := E.1.1
  have hb := E.1.2.1
  unfold f_X9_progress at hM
  refine lv_aload_n hx hb dX9_progress_0 rfl (lv_at hl 0 rfl) ?_
  refine lv_iload_n hx hb dX9_progress_1 rfl (lv_at hl 1 rfl) ?_
  refine lv_iconst (v := 5) hx hb dX9_progress_2 (by decide) ?_
  obtain ⟨p1, h2, hM⟩ := b_some hM
  refine q_cv (As := [.int x1, .int 5]) (rest := []) E hw hl (c_X9_fieldOf l D cA tS A h F x1 5 σ wd p1 h2) 2 (bwV bw_c tb_1451 tb_1453 tb_82 tb_111 tb_1454) rfl (by decide +kernel) ⟨Nat.le_of_ble_eq_true rfl, Nat.le_of_ble_eq_true rfl⟩ 0 9 (T := TX9) (N := 17) rfl rfl rfl rfl (Nat.le_of_ble_eq_true rfl) ⟨Nat.zero_le _, Nat.zero_le _⟩ dX9_progress_3 (fun H locs hw => ?_)
  cases hM
  exact q_reti E hw dX9_progress_6
set_option maxRecDepth 100000 in
set_option maxHeartbeats 4000000 in
theorem c_X9_rootOf (l : Launch) (D : va_G) (cA : Nat → ClassId) (tS : Nat → Nat) (A : Nat → Prop) (h : Nat → Nat) (F : va_W) (x1 : Int32) (σ : Sg) (wd : Int64) (r0 : Int32) (hM : f_X9_rootOf x1 σ wd = some r0) : Ct l yX9_rootOf (Cond.code yX9_rootOf cX9_rootOf 2 (some .int) :: bw) 3 65 D cA tS A [.ref (h 0), .int x1] (wM cA h σ wd ++ F) (some (.int r0)) (wM cA h σ wd ++ F) := by
  refine ct_of (by decide +kernel) (Nat.le_of_ble_eq_true rfl) ?_
  intro p e s m below meth c E hw ls hl
  replace E : Ev p cX9_rootOf 2 (some .int) RX9 (Cond.code yX9_rootOf cX9_rootOf 2 (some .int) :: bw) D cA tS A s m _ meth c := E
  replace hl : lv_has ls 2 [(0, .ref (h 0)), (1, .int x1)] := hl
  have hx := E.1.1
  have hb := E.1.2.1
  unfold f_X9_rootOf at hM
  refine lv_aload_n hx hb dX9_rootOf_0 rfl (lv_at hl 0 rfl) ?_
  refine lv_iload_n hx hb dX9_rootOf_1 rfl (lv_at hl 1 rfl) ?_
  refine lv_bipush (v := 10) hx hb dX9_rootOf_2 (by decide) ?_
  obtain ⟨p1, h2, hM⟩ := b_some hM
  refine q_cv (As := [.int x1, .int 10]) (rest := []) E hw hl (c_X9_fieldOf l D cA tS A h F x1 10 σ wd p1 h2) 2 (bwV bw_c tb_1451 tb_1453 tb_82 tb_111 tb_1454) rfl (by decide +kernel) ⟨Nat.le_of_ble_eq_true rfl, Nat.le_of_ble_eq_true rfl⟩ 0 9 (T := TX9) (N := 17) rfl rfl rfl rfl (Nat.le_of_ble_eq_true rfl) ⟨Nat.zero_le _, Nat.zero_le _⟩ dX9_rootOf_4 (fun H locs hw => ?_)
  cases hM
  exact q_reti E hw dX9_rootOf_7
set_option maxRecDepth 100000 in
set_option maxHeartbeats 4000000 in
theorem s_X9_twins_17 (l : Launch) (D : va_G) (cA : Nat → ClassId) (tS : Nat → Nat) (A : Nat → Prop) (h : Nat → Nat) (F : va_W) (N : Nat) {p : Program} {e : Env} {s : State} {m : MethodId} {args : Array Value} {below : List Frame} {meth : Method} {c : Code} (E : Ev p cX9_twins 5 (some .long) RX9 (Cond.code yX9_twins cX9_twins 5 (some .long) :: bw) D cA tS A s m args meth c) : ∀ (n : Nat) (x1 : Int32) (y2 : Int64) (x4 : Int32) (σ : Sg) (wd : Int64) (r0 : Int64) (hM : f_X9_twins_17 N n x1 y2 x4 σ wd = some r0) (H : Heap) (locs : List Loc) (hw : Wd D A (wM cA h σ wd ++ F) s.heap H locs) (ls : Array Slot) (hl : lv_has ls 5 [(0, .ref (h 0)), (1, .int x1), (2, .long y2), (4, .int x4)]), W p l e ({ frames := 2, cells := 0, slots := 0, locals := 43 } : Room) s m args below meth c H locs 0 0 (MQ below (QW D A (some (.long r0)) (wM cA h σ wd ++ F)) args s 0 0 A) (F0 m 17 ls []) := by
  have hx := E.1.1
  have hb := E.1.2.1
  intro n
  induction n with
  | zero =>
    intro x1 y2 x4 σ wd r0 hM
    cases hM
  | succ n ih =>
    intro x1 y2 x4 σ wd r0 hM H locs hw ls hl
    rw [f_X9_twins_17] at hM
    refine lv_iload hx hb dX9_twins_17 (lv_at hl 3 rfl) ?_
    refine lv_aload_n hx hb dX9_twins_19 rfl (lv_at hl 0 rfl) ?_
    refine q_get (C := RX9) (T := TX9) (N := 17) (ci := 9) E (fun w h => List.mem_cons_of_mem _ (inX9 w h)) hw 0 rfl rfl 0 (by decide) (List.mem_cons_of_mem _ tb_1145) (v := .ref (h 1)) rfl dX9_twins_20 ?_
    refine lv_bipush (v := 56) hx hb dX9_twins_23 (by decide) ?_
    refine q_ald E hw 1 (n := 4619) rfl (by decide +kernel) (x := (σ 1 (ix 56))) rfl dX9_twins_25 ?_
    refine lv_icmp_ge (tgt := 58) hx hb dX9_twins_26 (by decide) (fun c1 => ?_) (fun c1 => ?_)
    · replace hM := i_pos hM c1
      refine lv_lload_n hx hb dX9_twins_58 rfl (lv_at hl 2 rfl) ?_
      cases hM
      exact q_retl E hw dX9_twins_59
    · replace hM := i_neg hM c1
      refine lv_lload_n hx hb dX9_twins_29 rfl (lv_at hl 2 rfl) ?_
      refine lv_aload_n hx hb dX9_twins_30 rfl (lv_at hl 0 rfl) ?_
      refine lv_iload hx hb dX9_twins_31 (lv_at hl 3 rfl) ?_
      refine lv_bipush (v := 10) hx hb dX9_twins_33 (by decide) ?_
      obtain ⟨p2, h3, hM⟩ := b_some hM
      refine q_cv (As := [.int x4, .int 10]) (rest := [.long y2]) E hw hl (c_X9_ticket l D cA tS A h F x4 10 σ wd p2 h3) 2 (bwV bw_c tb_1241 tb_1243 tb_51 tb_111 tb_1244) rfl (by decide +kernel) ⟨Nat.le_of_ble_eq_true rfl, Nat.le_of_ble_eq_true rfl⟩ 0 9 (T := TX9) (N := 17) rfl rfl rfl rfl (Nat.le_of_ble_eq_true rfl) ⟨Nat.zero_le _, Nat.zero_le _⟩ dX9_twins_35 (fun H locs hw => ?_)
      refine lv_iload_n hx hb dX9_twins_38 rfl (lv_at hl 1 rfl) ?_
      refine lv_icmp_ne (tgt := 49) hx hb dX9_twins_39 (by decide) (fun c4 => ?_) (fun c4 => ?_)
      · replace hM := i_neg hM c4
        refine lv_lconst (v := 0) hx hb dX9_twins_49 (by decide) ?_
        refine lv_lor hx hb dX9_twins_50 ?_
        refine lv_lstore_n (lv' := [(2, .long (y2 ||| 0)), (0, .ref (h 0)), (1, .int x1), (4, .int x4)]) hx hb dX9_twins_51 rfl hl (by decide) rfl (fun ls hl => ?_)
        refine lv_iinc (v := (x4 + 1)) (lv' := [(4, .int (x4 + 1)), (2, .long (y2 ||| 0)), (0, .ref (h 0)), (1, .int x1)]) hx hb dX9_twins_52 hl (k := 3) rfl rfl (by decide) rfl (fun ls hl => ?_)
        refine lv_goto (tgt := 17) hx hb dX9_twins_55 (by decide) ?_
        exact ih _ _ _ _ _ _ hM _ _ hw _ (lv_sub hl [2, 3, 1, 0] rfl)
      · replace hM := i_pos hM c4
        refine lv_lconst (v := 1) hx hb dX9_twins_42 (by decide) ?_
        refine lv_iload hx hb dX9_twins_43 (lv_at hl 3 rfl) ?_
        refine lv_lshl (v := (1 <<< ((x4 : Int32).toInt64 &&& 63))) hx hb dX9_twins_45 rfl ?_
        refine lv_goto (tgt := 50) hx hb dX9_twins_46 (by decide) ?_
        refine lv_lor hx hb dX9_twins_50 ?_
        refine lv_lstore_n (lv' := [(2, .long (y2 ||| (1 <<< ((x4 : Int32).toInt64 &&& 63)))), (0, .ref (h 0)), (1, .int x1), (4, .int x4)]) hx hb dX9_twins_51 rfl hl (by decide) rfl (fun ls hl => ?_)
        refine lv_iinc (v := (x4 + 1)) (lv' := [(4, .int (x4 + 1)), (2, .long (y2 ||| (1 <<< ((x4 : Int32).toInt64 &&& 63)))), (0, .ref (h 0)), (1, .int x1)]) hx hb dX9_twins_52 hl (k := 3) rfl rfl (by decide) rfl (fun ls hl => ?_)
        refine lv_goto (tgt := 17) hx hb dX9_twins_55 (by decide) ?_
        exact ih _ _ _ _ _ _ hM _ _ hw _ (lv_sub hl [2, 3, 1, 0] rfl)
set_option maxRecDepth 100000 in
set_option maxHeartbeats 4000000 in
theorem c_X9_twins (l : Launch) (D : va_G) (cA : Nat → ClassId) (tS : Nat → Nat) (A : Nat → Prop) (h : Nat → Nat) (F : va_W) (N : Nat) (x1 : Int32) (σ : Sg) (wd : Int64) (r0 : Int64) (hM : f_X9_twins N x1 σ wd = some r0) : Ct l yX9_twins (Cond.code yX9_twins cX9_twins 5 (some .long) :: bw) 2 43 D cA tS A [.ref (h 0), .int x1] (wM cA h σ wd ++ F) (some (.long r0)) (wM cA h σ wd ++ F) := by
  refine ct_of (by decide +kernel) (Nat.le_of_ble_eq_true rfl) ?_
  intro p e s m below meth c E hw ls hl
  replace E : Ev p cX9_twins 5 (some .long) RX9 (Cond.code yX9_twins cX9_twins 5 (some .long) :: bw) D cA tS A s m _ meth c := E
  replace hl : lv_has ls 5 [(0, .ref (h 0)), (1, .int x1)] := hl
  have hx := E.1.1
  have hb := E.1.2.1
  unfold f_X9_twins at hM
  refine lv_aload_n hx hb dX9_twins_0 rfl (lv_at hl 0 rfl) ?_
  refine lv_iload_n hx hb dX9_twins_1 rfl (lv_at hl 1 rfl) ?_
  obtain ⟨p1, h2, hM⟩ := b_some hM
  refine q_cv (As := [.int x1]) (rest := []) E hw hl (c_X9_isTicket l D cA tS A h F x1 σ wd p1 h2) 1 (bwV bw_c tb_1233 tb_1235 tb_49 tb_111 tb_1236) rfl (by decide +kernel) ⟨Nat.le_of_ble_eq_true rfl, Nat.le_of_ble_eq_true rfl⟩ 0 9 (T := TX9) (N := 17) rfl rfl rfl rfl (Nat.le_of_ble_eq_true rfl) ⟨Nat.zero_le _, Nat.zero_le _⟩ dX9_twins_2 (fun H locs hw => ?_)
  refine lv_if_ne (tgt := 12) hx hb dX9_twins_5 (by decide) (fun c3 => ?_) (fun c3 => ?_)
  · replace hM := i_neg hM c3
    refine lv_lconst (v := 0) hx hb dX9_twins_12 (by decide) ?_
    refine lv_lstore_n (lv' := [(2, .long 0), (0, .ref (h 0)), (1, .int x1)]) hx hb dX9_twins_13 rfl hl (by decide) rfl (fun ls hl => ?_)
    refine lv_iconst (v := 0) hx hb dX9_twins_14 (by decide) ?_
    refine lv_istore (lv' := [(4, .int 0), (2, .long 0), (0, .ref (h 0)), (1, .int x1)]) hx hb dX9_twins_15 hl (by decide) rfl (fun ls hl => ?_)
    exact s_X9_twins_17 l D cA tS A h F N E N _ _ _ _ _ _ hM _ _ hw _ (lv_sub hl [2, 3, 1, 0] rfl)
  · replace hM := i_pos hM c3
    refine lv_ldc2 (v := (-2)) hx hb E.1.2.2.2.1 (E.1.2.2.2.2 _ (List.mem_cons_of_mem _ tb_1479)) dX9_twins_8 ?_
    cases hM
    exact q_retl E hw dX9_twins_11
set_option maxRecDepth 100000 in
set_option maxHeartbeats 4000000 in
theorem c_X9_reportedAt (l : Launch) (D : va_G) (cA : Nat → ClassId) (tS : Nat → Nat) (A : Nat → Prop) (h : Nat → Nat) (F : va_W) (x1 : Int32) (σ : Sg) (wd : Int64) (r0 : Int32) (hM : f_X9_reportedAt x1 σ wd = some r0) : Ct l yX9_reportedAt (Cond.code yX9_reportedAt cX9_reportedAt 2 (some .int) :: bw) 3 65 D cA tS A [.ref (h 0), .int x1] (wM cA h σ wd ++ F) (some (.int r0)) (wM cA h σ wd ++ F) := by
  refine ct_of (by decide +kernel) (Nat.le_of_ble_eq_true rfl) ?_
  intro p e s m below meth c E hw ls hl
  replace E : Ev p cX9_reportedAt 2 (some .int) RX9 (Cond.code yX9_reportedAt cX9_reportedAt 2 (some .int) :: bw) D cA tS A s m _ meth c := E
  replace hl : lv_has ls 2 [(0, .ref (h 0)), (1, .int x1)] := hl
  have hx := E.1.1
  have hb := E.1.2.1
  unfold f_X9_reportedAt at hM
  refine lv_aload_n hx hb dX9_reportedAt_0 rfl (lv_at hl 0 rfl) ?_
  refine lv_iload_n hx hb dX9_reportedAt_1 rfl (lv_at hl 1 rfl) ?_
  refine lv_bipush (v := 11) hx hb dX9_reportedAt_2 (by decide) ?_
  obtain ⟨p1, h2, hM⟩ := b_some hM
  refine q_cv (As := [.int x1, .int 11]) (rest := []) E hw hl (c_X9_fieldOf l D cA tS A h F x1 11 σ wd p1 h2) 2 (bwV bw_c tb_1451 tb_1453 tb_82 tb_111 tb_1454) rfl (by decide +kernel) ⟨Nat.le_of_ble_eq_true rfl, Nat.le_of_ble_eq_true rfl⟩ 0 9 (T := TX9) (N := 17) rfl rfl rfl rfl (Nat.le_of_ble_eq_true rfl) ⟨Nat.zero_le _, Nat.zero_le _⟩ dX9_reportedAt_4 (fun H locs hw => ?_)
  cases hM
  exact q_reti E hw dX9_reportedAt_7
set_option maxRecDepth 100000 in
set_option maxHeartbeats 4000000 in
theorem c_X9_answeredAt (l : Launch) (D : va_G) (cA : Nat → ClassId) (tS : Nat → Nat) (A : Nat → Prop) (h : Nat → Nat) (F : va_W) (x1 : Int32) (σ : Sg) (wd : Int64) (r0 : Int32) (hM : f_X9_answeredAt x1 σ wd = some r0) : Ct l yX9_answeredAt (Cond.code yX9_answeredAt cX9_answeredAt 2 (some .int) :: bw) 3 65 D cA tS A [.ref (h 0), .int x1] (wM cA h σ wd ++ F) (some (.int r0)) (wM cA h σ wd ++ F) := by
  refine ct_of (by decide +kernel) (Nat.le_of_ble_eq_true rfl) ?_
  intro p e s m below meth c E hw ls hl
  replace E : Ev p cX9_answeredAt 2 (some .int) RX9 (Cond.code yX9_answeredAt cX9_answeredAt 2 (some .int) :: bw) D cA tS A s m _ meth c := E
  replace hl : lv_has ls 2 [(0, .ref (h 0)), (1, .int x1)] := hl
  have hx := E.1.1
  have hb := E.1.2.1
  unfold f_X9_answeredAt at hM
  refine lv_aload_n hx hb dX9_answeredAt_0 rfl (lv_at hl 0 rfl) ?_
  refine lv_iload_n hx hb dX9_answeredAt_1 rfl (lv_at hl 1 rfl) ?_
  refine lv_bipush (v := 12) hx hb dX9_answeredAt_2 (by decide) ?_
  obtain ⟨p1, h2, hM⟩ := b_some hM
  refine q_cv (As := [.int x1, .int 12]) (rest := []) E hw hl (c_X9_fieldOf l D cA tS A h F x1 12 σ wd p1 h2) 2 (bwV bw_c tb_1451 tb_1453 tb_82 tb_111 tb_1454) rfl (by decide +kernel) ⟨Nat.le_of_ble_eq_true rfl, Nat.le_of_ble_eq_true rfl⟩ 0 9 (T := TX9) (N := 17) rfl rfl rfl rfl (Nat.le_of_ble_eq_true rfl) ⟨Nat.zero_le _, Nat.zero_le _⟩ dX9_answeredAt_4 (fun H locs hw => ?_)
  cases hM
  exact q_reti E hw dX9_answeredAt_7
set_option maxRecDepth 100000 in
set_option maxHeartbeats 4000000 in
theorem c_X9_solvedAt (l : Launch) (D : va_G) (cA : Nat → ClassId) (tS : Nat → Nat) (A : Nat → Prop) (h : Nat → Nat) (F : va_W) (x1 : Int32) (σ : Sg) (wd : Int64) (r0 : Int32) (hM : f_X9_solvedAt x1 σ wd = some r0) : Ct l yX9_solvedAt (Cond.code yX9_solvedAt cX9_solvedAt 2 (some .int) :: bw) 3 65 D cA tS A [.ref (h 0), .int x1] (wM cA h σ wd ++ F) (some (.int r0)) (wM cA h σ wd ++ F) := by
  refine ct_of (by decide +kernel) (Nat.le_of_ble_eq_true rfl) ?_
  intro p e s m below meth c E hw ls hl
  replace E : Ev p cX9_solvedAt 2 (some .int) RX9 (Cond.code yX9_solvedAt cX9_solvedAt 2 (some .int) :: bw) D cA tS A s m _ meth c := E
  replace hl : lv_has ls 2 [(0, .ref (h 0)), (1, .int x1)] := hl
  have hx := E.1.1
  have hb := E.1.2.1
  unfold f_X9_solvedAt at hM
  refine lv_aload_n hx hb dX9_solvedAt_0 rfl (lv_at hl 0 rfl) ?_
  refine lv_iload_n hx hb dX9_solvedAt_1 rfl (lv_at hl 1 rfl) ?_
  refine lv_bipush (v := 13) hx hb dX9_solvedAt_2 (by decide) ?_
  obtain ⟨p1, h2, hM⟩ := b_some hM
  refine q_cv (As := [.int x1, .int 13]) (rest := []) E hw hl (c_X9_fieldOf l D cA tS A h F x1 13 σ wd p1 h2) 2 (bwV bw_c tb_1451 tb_1453 tb_82 tb_111 tb_1454) rfl (by decide +kernel) ⟨Nat.le_of_ble_eq_true rfl, Nat.le_of_ble_eq_true rfl⟩ 0 9 (T := TX9) (N := 17) rfl rfl rfl rfl (Nat.le_of_ble_eq_true rfl) ⟨Nat.zero_le _, Nat.zero_le _⟩ dX9_solvedAt_4 (fun H locs hw => ?_)
  cases hM
  exact q_reti E hw dX9_solvedAt_7
set_option maxRecDepth 100000 in
set_option maxHeartbeats 4000000 in
theorem c_X9_responseClock (l : Launch) (D : va_G) (cA : Nat → ClassId) (tS : Nat → Nat) (A : Nat → Prop) (h : Nat → Nat) (F : va_W) (x1 : Int32) (σ : Sg) (wd : Int64) (r0 : Int32) (hM : f_X9_responseClock x1 σ wd = some r0) : Ct l yX9_responseClock (Cond.code yX9_responseClock cX9_responseClock 2 (some .int) :: bw) 3 65 D cA tS A [.ref (h 0), .int x1] (wM cA h σ wd ++ F) (some (.int r0)) (wM cA h σ wd ++ F) := by
  refine ct_of (by decide +kernel) (Nat.le_of_ble_eq_true rfl) ?_
  intro p e s m below meth c E hw ls hl
  replace E : Ev p cX9_responseClock 2 (some .int) RX9 (Cond.code yX9_responseClock cX9_responseClock 2 (some .int) :: bw) D cA tS A s m _ meth c := E
  replace hl : lv_has ls 2 [(0, .ref (h 0)), (1, .int x1)] := hl
  have hx := E.1.1
  have hb := E.1.2.1
  unfold f_X9_responseClock at hM
  refine lv_aload_n hx hb dX9_responseClock_0 rfl (lv_at hl 0 rfl) ?_
  refine lv_iload_n hx hb dX9_responseClock_1 rfl (lv_at hl 1 rfl) ?_
  refine lv_bipush (v := 7) hx hb dX9_responseClock_2 (by decide) ?_
  obtain ⟨p1, h2, hM⟩ := b_some hM
  refine q_cv (As := [.int x1, .int 7]) (rest := []) E hw hl (c_X9_fieldOf l D cA tS A h F x1 7 σ wd p1 h2) 2 (bwV bw_c tb_1451 tb_1453 tb_82 tb_111 tb_1454) rfl (by decide +kernel) ⟨Nat.le_of_ble_eq_true rfl, Nat.le_of_ble_eq_true rfl⟩ 0 9 (T := TX9) (N := 17) rfl rfl rfl rfl (Nat.le_of_ble_eq_true rfl) ⟨Nat.zero_le _, Nat.zero_le _⟩ dX9_responseClock_4 (fun H locs hw => ?_)
  cases hM
  exact q_reti E hw dX9_responseClock_7
set_option maxRecDepth 100000 in
set_option maxHeartbeats 4000000 in
theorem c_X9_resolveClock (l : Launch) (D : va_G) (cA : Nat → ClassId) (tS : Nat → Nat) (A : Nat → Prop) (h : Nat → Nat) (F : va_W) (x1 : Int32) (σ : Sg) (wd : Int64) (r0 : Int32) (hM : f_X9_resolveClock x1 σ wd = some r0) : Ct l yX9_resolveClock (Cond.code yX9_resolveClock cX9_resolveClock 2 (some .int) :: bw) 3 65 D cA tS A [.ref (h 0), .int x1] (wM cA h σ wd ++ F) (some (.int r0)) (wM cA h σ wd ++ F) := by
  refine ct_of (by decide +kernel) (Nat.le_of_ble_eq_true rfl) ?_
  intro p e s m below meth c E hw ls hl
  replace E : Ev p cX9_resolveClock 2 (some .int) RX9 (Cond.code yX9_resolveClock cX9_resolveClock 2 (some .int) :: bw) D cA tS A s m _ meth c := E
  replace hl : lv_has ls 2 [(0, .ref (h 0)), (1, .int x1)] := hl
  have hx := E.1.1
  have hb := E.1.2.1
  unfold f_X9_resolveClock at hM
  refine lv_aload_n hx hb dX9_resolveClock_0 rfl (lv_at hl 0 rfl) ?_
  refine lv_iload_n hx hb dX9_resolveClock_1 rfl (lv_at hl 1 rfl) ?_
  refine lv_bipush (v := 8) hx hb dX9_resolveClock_2 (by decide) ?_
  obtain ⟨p1, h2, hM⟩ := b_some hM
  refine q_cv (As := [.int x1, .int 8]) (rest := []) E hw hl (c_X9_fieldOf l D cA tS A h F x1 8 σ wd p1 h2) 2 (bwV bw_c tb_1451 tb_1453 tb_82 tb_111 tb_1454) rfl (by decide +kernel) ⟨Nat.le_of_ble_eq_true rfl, Nat.le_of_ble_eq_true rfl⟩ 0 9 (T := TX9) (N := 17) rfl rfl rfl rfl (Nat.le_of_ble_eq_true rfl) ⟨Nat.zero_le _, Nat.zero_le _⟩ dX9_resolveClock_4 (fun H locs hw => ?_)
  cases hM
  exact q_reti E hw dX9_resolveClock_7
set_option maxRecDepth 100000 in
set_option maxHeartbeats 4000000 in
theorem c_X9_queueLength (l : Launch) (D : va_G) (cA : Nat → ClassId) (tS : Nat → Nat) (A : Nat → Prop) (h : Nat → Nat) (F : va_W) (N : Nat) (x1 : Int32) (σ : Sg) (wd : Int64) (r0 : Int32) (hM : f_X9_queueLength N x1 σ wd = some r0) : Ct l yX9_queueLength (Cond.code yX9_queueLength cX9_queueLength 2 (some .int) :: bw) 3 68 D cA tS A [.ref (h 0), .int x1] (wM cA h σ wd ++ F) (some (.int r0)) (wM cA h σ wd ++ F) := by
  refine ct_of (by decide +kernel) (Nat.le_of_ble_eq_true rfl) ?_
  intro p e s m below meth c E hw ls hl
  replace E : Ev p cX9_queueLength 2 (some .int) RX9 (Cond.code yX9_queueLength cX9_queueLength 2 (some .int) :: bw) D cA tS A s m _ meth c := E
  replace hl : lv_has ls 2 [(0, .ref (h 0)), (1, .int x1)] := hl
  have hx := E.1.1
  have hb := E.1.2.1
  unfold f_X9_queueLength at hM
  refine lv_iload_n hx hb dX9_queueLength_0 rfl (lv_at hl 1 rfl) ?_
  obtain ⟨p1, h2, hM⟩ := b_some hM
  refine q_cs (As := [.int x1]) (rest := []) E hw hl (c_X9_isLevel l D cA tS A (wM cA h σ wd ++ F) x1 p1 h2) 1 (bwS bw_c tb_1218 tb_1219 tb_111 tb_1220) rfl (by decide +kernel) ⟨Nat.le_of_ble_eq_true rfl, Nat.le_of_ble_eq_true rfl⟩ rfl rfl (Nat.le_of_ble_eq_true rfl) ⟨Nat.zero_le _, Nat.zero_le _⟩ dX9_queueLength_1 (fun H locs hw => ?_)
  refine lv_if_eq (tgt := 16) hx hb dX9_queueLength_4 (by decide) (fun c3 => ?_) (fun c3 => ?_)
  · replace hM := i_pos hM c3
    refine lv_bipush (v := (-4)) hx hb dX9_queueLength_16 (by decide) ?_
    cases hM
    exact q_reti E hw dX9_queueLength_18
  · replace hM := i_neg hM c3
    refine lv_aload_n hx hb dX9_queueLength_7 rfl (lv_at hl 0 rfl) ?_
    refine lv_iload_n hx hb dX9_queueLength_8 rfl (lv_at hl 1 rfl) ?_
    refine lv_iconst (v := 0) hx hb dX9_queueLength_9 (by decide) ?_
    obtain ⟨p4, h5, hM⟩ := b_some hM
    refine q_cv (As := [.int x1, .int 0]) (rest := []) E hw hl (c_X9_countOf l D cA tS A h F N x1 0 σ wd p4 h5) 2 (bwV bw_c tb_1269 tb_1271 tb_58 tb_111 tb_1272) rfl (by decide +kernel) ⟨Nat.le_of_ble_eq_true rfl, Nat.le_of_ble_eq_true rfl⟩ 0 9 (T := TX9) (N := 17) rfl rfl rfl rfl (Nat.le_of_ble_eq_true rfl) ⟨Nat.zero_le _, Nat.zero_le _⟩ dX9_queueLength_10 (fun H locs hw => ?_)
    refine lv_goto (tgt := 18) hx hb dX9_queueLength_13 (by decide) ?_
    cases hM
    exact q_reti E hw dX9_queueLength_18
set_option maxRecDepth 100000 in
set_option maxHeartbeats 4000000 in
theorem c_X9_nextTicket (l : Launch) (D : va_G) (cA : Nat → ClassId) (tS : Nat → Nat) (A : Nat → Prop) (h : Nat → Nat) (F : va_W) (N : Nat) (x1 : Int32) (σ : Sg) (wd : Int64) (r0 : Int32) (hM : f_X9_nextTicket N x1 σ wd = some r0) : Ct l yX9_nextTicket (Cond.code yX9_nextTicket cX9_nextTicket 2 (some .int) :: bw) 4 88 D cA tS A [.ref (h 0), .int x1] (wM cA h σ wd ++ F) (some (.int r0)) (wM cA h σ wd ++ F) := by
  refine ct_of (by decide +kernel) (Nat.le_of_ble_eq_true rfl) ?_
  intro p e s m below meth c E hw ls hl
  replace E : Ev p cX9_nextTicket 2 (some .int) RX9 (Cond.code yX9_nextTicket cX9_nextTicket 2 (some .int) :: bw) D cA tS A s m _ meth c := E
  replace hl : lv_has ls 2 [(0, .ref (h 0)), (1, .int x1)] := hl
  have hx := E.1.1
  have hb := E.1.2.1
  unfold f_X9_nextTicket at hM
  refine lv_iload_n hx hb dX9_nextTicket_0 rfl (lv_at hl 1 rfl) ?_
  obtain ⟨p1, h2, hM⟩ := b_some hM
  refine q_cs (As := [.int x1]) (rest := []) E hw hl (c_X9_isLevel l D cA tS A (wM cA h σ wd ++ F) x1 p1 h2) 1 (bwS bw_c tb_1218 tb_1219 tb_111 tb_1220) rfl (by decide +kernel) ⟨Nat.le_of_ble_eq_true rfl, Nat.le_of_ble_eq_true rfl⟩ rfl rfl (Nat.le_of_ble_eq_true rfl) ⟨Nat.zero_le _, Nat.zero_le _⟩ dX9_nextTicket_1 (fun H locs hw => ?_)
  refine lv_if_eq (tgt := 15) hx hb dX9_nextTicket_4 (by decide) (fun c3 => ?_) (fun c3 => ?_)
  · replace hM := i_pos hM c3
    refine lv_bipush (v := (-4)) hx hb dX9_nextTicket_15 (by decide) ?_
    cases hM
    exact q_reti E hw dX9_nextTicket_17
  · replace hM := i_neg hM c3
    refine lv_aload_n hx hb dX9_nextTicket_7 rfl (lv_at hl 0 rfl) ?_
    refine lv_iload_n hx hb dX9_nextTicket_8 rfl (lv_at hl 1 rfl) ?_
    obtain ⟨p4, h5, hM⟩ := b_some hM
    refine q_cv (As := [.int x1]) (rest := []) E hw hl (c_X9_mostUrgent l D cA tS A h F N x1 σ wd p4 h5) 1 (bwV bw_c tb_1395 tb_1397 tb_71 tb_111 tb_1398) rfl (by decide +kernel) ⟨Nat.le_of_ble_eq_true rfl, Nat.le_of_ble_eq_true rfl⟩ 0 9 (T := TX9) (N := 17) rfl rfl rfl rfl (Nat.le_of_ble_eq_true rfl) ⟨Nat.zero_le _, Nat.zero_le _⟩ dX9_nextTicket_9 (fun H locs hw => ?_)
    refine lv_goto (tgt := 17) hx hb dX9_nextTicket_12 (by decide) ?_
    cases hM
    exact q_reti E hw dX9_nextTicket_17
set_option maxRecDepth 100000 in
set_option maxHeartbeats 4000000 in
theorem c_X9_busyAgents (l : Launch) (D : va_G) (cA : Nat → ClassId) (tS : Nat → Nat) (A : Nat → Prop) (h : Nat → Nat) (F : va_W) (N : Nat) (x1 : Int32) (σ : Sg) (wd : Int64) (r0 : Int32) (hM : f_X9_busyAgents N x1 σ wd = some r0) : Ct l yX9_busyAgents (Cond.code yX9_busyAgents cX9_busyAgents 2 (some .int) :: bw) 4 89 D cA tS A [.ref (h 0), .int x1] (wM cA h σ wd ++ F) (some (.int r0)) (wM cA h σ wd ++ F) := by
  refine ct_of (by decide +kernel) (Nat.le_of_ble_eq_true rfl) ?_
  intro p e s m below meth c E hw ls hl
  replace E : Ev p cX9_busyAgents 2 (some .int) RX9 (Cond.code yX9_busyAgents cX9_busyAgents 2 (some .int) :: bw) D cA tS A s m _ meth c := E
  replace hl : lv_has ls 2 [(0, .ref (h 0)), (1, .int x1)] := hl
  have hx := E.1.1
  have hb := E.1.2.1
  unfold f_X9_busyAgents at hM
  refine lv_iload_n hx hb dX9_busyAgents_0 rfl (lv_at hl 1 rfl) ?_
  obtain ⟨p1, h2, hM⟩ := b_some hM
  refine q_cs (As := [.int x1]) (rest := []) E hw hl (c_X9_isLevel l D cA tS A (wM cA h σ wd ++ F) x1 p1 h2) 1 (bwS bw_c tb_1218 tb_1219 tb_111 tb_1220) rfl (by decide +kernel) ⟨Nat.le_of_ble_eq_true rfl, Nat.le_of_ble_eq_true rfl⟩ rfl rfl (Nat.le_of_ble_eq_true rfl) ⟨Nat.zero_le _, Nat.zero_le _⟩ dX9_busyAgents_1 (fun H locs hw => ?_)
  refine lv_if_eq (tgt := 15) hx hb dX9_busyAgents_4 (by decide) (fun c3 => ?_) (fun c3 => ?_)
  · replace hM := i_pos hM c3
    refine lv_bipush (v := (-4)) hx hb dX9_busyAgents_15 (by decide) ?_
    cases hM
    exact q_reti E hw dX9_busyAgents_17
  · replace hM := i_neg hM c3
    refine lv_aload_n hx hb dX9_busyAgents_7 rfl (lv_at hl 0 rfl) ?_
    refine lv_iload_n hx hb dX9_busyAgents_8 rfl (lv_at hl 1 rfl) ?_
    obtain ⟨p4, h5, hM⟩ := b_some hM
    refine q_cv (As := [.int x1]) (rest := []) E hw hl (c_X9_busy l D cA tS A h F N x1 σ wd p4 h5) 1 (bwV bw_c tb_1265 tb_1267 tb_57 tb_111 tb_1268) rfl (by decide +kernel) ⟨Nat.le_of_ble_eq_true rfl, Nat.le_of_ble_eq_true rfl⟩ 0 9 (T := TX9) (N := 17) rfl rfl rfl rfl (Nat.le_of_ble_eq_true rfl) ⟨Nat.zero_le _, Nat.zero_le _⟩ dX9_busyAgents_9 (fun H locs hw => ?_)
    refine lv_goto (tgt := 17) hx hb dX9_busyAgents_12 (by decide) ?_
    cases hM
    exact q_reti E hw dX9_busyAgents_17
set_option maxRecDepth 100000 in
set_option maxHeartbeats 4000000 in
theorem s_X9_suggestRoot_52 (l : Launch) (D : va_G) (cA : Nat → ClassId) (tS : Nat → Nat) (A : Nat → Prop) (h : Nat → Nat) (F : va_W) (N : Nat) (k13 : Int32 → Int32 → Sg → Int64 → Option (Int32)) {p : Program} {e : Env} {s : State} {m : MethodId} {args : Array Value} {below : List Frame} {meth : Method} {c : Code} (E : Ev p cX9_suggestRoot 4 (some .int) RX9 (Cond.code yX9_suggestRoot cX9_suggestRoot 4 (some .int) :: bw) D cA tS A s m args meth c) (hk13 : ∀ (x1 : Int32) (x2 : Int32) (σ : Sg) (wd : Int64) (r0 : Int32) (hM : k13 x1 x2 σ wd = some r0) (H : Heap) (locs : List Loc) (hw : Wd D A (wM cA h σ wd ++ F) s.heap H locs) (ls : Array Slot) (hl : lv_has ls 4 [(0, .ref (h 0)), (1, .int x1), (2, .int x2)]), W p l e ({ frames := 2, cells := 0, slots := 0, locals := 43 } : Room) s m args below meth c H locs 0 0 (MQ below (QW D A (some (.int r0)) (wM cA h σ wd ++ F)) args s 0 0 A) (F0 m 13 ls [])) : ∀ (x1 : Int32) (x2 : Int32) (σ : Sg) (wd : Int64) (r0 : Int32) (hM : f_X9_suggestRoot_52 N k13 x1 x2 σ wd = some r0) (H : Heap) (locs : List Loc) (hw : Wd D A (wM cA h σ wd ++ F) s.heap H locs) (ls : Array Slot) (hl : lv_has ls 4 [(0, .ref (h 0)), (1, .int x1), (2, .int x2)]), W p l e ({ frames := 2, cells := 0, slots := 0, locals := 43 } : Room) s m args below meth c H locs 0 0 (MQ below (QW D A (some (.int r0)) (wM cA h σ wd ++ F)) args s 0 0 A) (F0 m 52 ls []) := by
  have hx := E.1.1
  have hb := E.1.2.1
  intro x1 x2 σ wd r0 hM H locs hw ls hl
  unfold f_X9_suggestRoot_52 at hM
  refine lv_iconst (v := 0) hx hb dX9_suggestRoot_52 (by decide) ?_
  refine lv_istore_n (lv' := [(3, .int 0), (0, .ref (h 0)), (1, .int x1), (2, .int x2)]) hx hb dX9_suggestRoot_53 rfl hl (by decide) rfl (fun ls hl => ?_)
  refine lv_iload_n hx hb dX9_suggestRoot_54 rfl (lv_at hl 0 rfl) ?_
  refine lv_if_eq (tgt := 89) hx hb dX9_suggestRoot_55 (by decide) (fun c1 => ?_) (fun c1 => ?_)
  · refine lv_iinc (v := (x2 + 1)) (lv' := [(2, .int (x2 + 1)), (3, .int 0), (0, .ref (h 0)), (1, .int x1)]) hx hb dX9_suggestRoot_89 hl (k := 3) rfl rfl (by decide) rfl (fun ls hl => ?_)
    refine lv_goto (tgt := 13) hx hb dX9_suggestRoot_92 (by decide) ?_
    exact hk13 _ _ _ _ _ hM _ _ hw _ (lv_sub hl [2, 3, 0] rfl)
  · first | exact absurd (by decide) c1 | exact absurd c1 (by decide)
set_option maxRecDepth 100000 in
set_option maxHeartbeats 4000000 in
theorem s_X9_suggestRoot_13 (l : Launch) (D : va_G) (cA : Nat → ClassId) (tS : Nat → Nat) (A : Nat → Prop) (h : Nat → Nat) (F : va_W) (N : Nat) {p : Program} {e : Env} {s : State} {m : MethodId} {args : Array Value} {below : List Frame} {meth : Method} {c : Code} (E : Ev p cX9_suggestRoot 4 (some .int) RX9 (Cond.code yX9_suggestRoot cX9_suggestRoot 4 (some .int) :: bw) D cA tS A s m args meth c) : ∀ (n : Nat) (x1 : Int32) (x2 : Int32) (σ : Sg) (wd : Int64) (r0 : Int32) (hM : f_X9_suggestRoot_13 N n x1 x2 σ wd = some r0) (H : Heap) (locs : List Loc) (hw : Wd D A (wM cA h σ wd ++ F) s.heap H locs) (ls : Array Slot) (hl : lv_has ls 4 [(0, .ref (h 0)), (1, .int x1), (2, .int x2)]), W p l e ({ frames := 2, cells := 0, slots := 0, locals := 43 } : Room) s m args below meth c H locs 0 0 (MQ below (QW D A (some (.int r0)) (wM cA h σ wd ++ F)) args s 0 0 A) (F0 m 13 ls []) := by
  have hx := E.1.1
  have hb := E.1.2.1
  intro n
  induction n with
  | zero =>
    intro x1 x2 σ wd r0 hM
    cases hM
  | succ n ih =>
    intro x1 x2 σ wd r0 hM H locs hw ls hl
    rw [f_X9_suggestRoot_13] at hM
    refine lv_iload_n hx hb dX9_suggestRoot_13 rfl (lv_at hl 2 rfl) ?_
    refine lv_iload_n hx hb dX9_suggestRoot_14 rfl (lv_at hl 1 rfl) ?_
    refine lv_icmp_ge (tgt := 95) hx hb dX9_suggestRoot_15 (by decide) (fun c1 => ?_) (fun c1 => ?_)
    · replace hM := i_pos hM c1
      refine lv_iconst (v := (-1)) hx hb dX9_suggestRoot_95 (by decide) ?_
      cases hM
      exact q_reti E hw dX9_suggestRoot_96
    · replace hM := i_neg hM c1
      refine lv_aload_n hx hb dX9_suggestRoot_18 rfl (lv_at hl 0 rfl) ?_
      refine lv_iload_n hx hb dX9_suggestRoot_19 rfl (lv_at hl 2 rfl) ?_
      refine lv_iconst (v := 0) hx hb dX9_suggestRoot_20 (by decide) ?_
      obtain ⟨p2, h3, hM⟩ := b_some hM
      refine q_cv (As := [.int x2, .int 0]) (rest := []) E hw hl (c_X9_ticket l D cA tS A h F x2 0 σ wd p2 h3) 2 (bwV bw_c tb_1241 tb_1243 tb_51 tb_111 tb_1244) rfl (by decide +kernel) ⟨Nat.le_of_ble_eq_true rfl, Nat.le_of_ble_eq_true rfl⟩ 0 9 (T := TX9) (N := 17) rfl rfl rfl rfl (Nat.le_of_ble_eq_true rfl) ⟨Nat.zero_le _, Nat.zero_le _⟩ dX9_suggestRoot_21 (fun H locs hw => ?_)
      refine lv_aload_n hx hb dX9_suggestRoot_24 rfl (lv_at hl 0 rfl) ?_
      refine lv_iload_n hx hb dX9_suggestRoot_25 rfl (lv_at hl 1 rfl) ?_
      refine lv_iconst (v := 0) hx hb dX9_suggestRoot_26 (by decide) ?_
      obtain ⟨p4, h5, hM⟩ := b_some hM
      refine q_cv (As := [.int x1, .int 0]) (rest := [.int p2]) E hw hl (c_X9_ticket l D cA tS A h F x1 0 σ wd p4 h5) 2 (bwV bw_c tb_1241 tb_1243 tb_51 tb_111 tb_1244) rfl (by decide +kernel) ⟨Nat.le_of_ble_eq_true rfl, Nat.le_of_ble_eq_true rfl⟩ 0 9 (T := TX9) (N := 17) rfl rfl rfl rfl (Nat.le_of_ble_eq_true rfl) ⟨Nat.zero_le _, Nat.zero_le _⟩ dX9_suggestRoot_27 (fun H locs hw => ?_)
      refine lv_icmp_ne (tgt := 52) hx hb dX9_suggestRoot_30 (by decide) (fun c6 => ?_) (fun c6 => ?_)
      · replace hM := i_neg hM c6
        exact s_X9_suggestRoot_52 l D cA tS A h F N (fun x1 x2 σ wd => f_X9_suggestRoot_13 N n x1 x2 σ wd) E ih _ _ _ _ _ hM _ _ hw _ (lv_sub hl [0, 1, 2] rfl)
      · replace hM := i_pos hM c6
        refine lv_aload_n hx hb dX9_suggestRoot_33 rfl (lv_at hl 0 rfl) ?_
        refine lv_iload_n hx hb dX9_suggestRoot_34 rfl (lv_at hl 2 rfl) ?_
        refine lv_iconst (v := 2) hx hb dX9_suggestRoot_35 (by decide) ?_
        obtain ⟨p7, h8, hM⟩ := b_some hM
        refine q_cv (As := [.int x2, .int 2]) (rest := []) E hw hl (c_X9_ticket l D cA tS A h F x2 2 σ wd p7 h8) 2 (bwV bw_c tb_1241 tb_1243 tb_51 tb_111 tb_1244) rfl (by decide +kernel) ⟨Nat.le_of_ble_eq_true rfl, Nat.le_of_ble_eq_true rfl⟩ 0 9 (T := TX9) (N := 17) rfl rfl rfl rfl (Nat.le_of_ble_eq_true rfl) ⟨Nat.zero_le _, Nat.zero_le _⟩ dX9_suggestRoot_36 (fun H locs hw => ?_)
        refine lv_aload_n hx hb dX9_suggestRoot_39 rfl (lv_at hl 0 rfl) ?_
        refine lv_iload_n hx hb dX9_suggestRoot_40 rfl (lv_at hl 1 rfl) ?_
        refine lv_iconst (v := 2) hx hb dX9_suggestRoot_41 (by decide) ?_
        obtain ⟨p9, h10, hM⟩ := b_some hM
        refine q_cv (As := [.int x1, .int 2]) (rest := [.int p7]) E hw hl (c_X9_ticket l D cA tS A h F x1 2 σ wd p9 h10) 2 (bwV bw_c tb_1241 tb_1243 tb_51 tb_111 tb_1244) rfl (by decide +kernel) ⟨Nat.le_of_ble_eq_true rfl, Nat.le_of_ble_eq_true rfl⟩ 0 9 (T := TX9) (N := 17) rfl rfl rfl rfl (Nat.le_of_ble_eq_true rfl) ⟨Nat.zero_le _, Nat.zero_le _⟩ dX9_suggestRoot_42 (fun H locs hw => ?_)
        refine lv_icmp_ne (tgt := 52) hx hb dX9_suggestRoot_45 (by decide) (fun c11 => ?_) (fun c11 => ?_)
        · replace hM := i_neg hM c11
          exact s_X9_suggestRoot_52 l D cA tS A h F N (fun x1 x2 σ wd => f_X9_suggestRoot_13 N n x1 x2 σ wd) E ih _ _ _ _ _ hM _ _ hw _ (lv_sub hl [0, 1, 2] rfl)
        · replace hM := i_pos hM c11
          refine lv_iconst (v := 1) hx hb dX9_suggestRoot_48 (by decide) ?_
          refine lv_goto (tgt := 53) hx hb dX9_suggestRoot_49 (by decide) ?_
          refine lv_istore_n (lv' := [(3, .int 1), (0, .ref (h 0)), (1, .int x1), (2, .int x2)]) hx hb dX9_suggestRoot_53 rfl hl (by decide) rfl (fun ls hl => ?_)
          refine lv_iload_n hx hb dX9_suggestRoot_54 rfl (lv_at hl 0 rfl) ?_
          refine lv_if_eq (tgt := 89) hx hb dX9_suggestRoot_55 (by decide) (fun c12 => ?_) (fun c12 => ?_)
          · first | exact absurd (by decide) c12 | exact absurd c12 (by decide)
          · refine lv_aload_n hx hb dX9_suggestRoot_58 rfl (lv_at hl 1 rfl) ?_
            refine lv_iload_n hx hb dX9_suggestRoot_59 rfl (lv_at hl 3 rfl) ?_
            obtain ⟨p13, h14, hM⟩ := b_some hM
            refine q_cv (As := [.int x2]) (rest := []) E hw hl (c_X9_isAlive l D cA tS A h F x2 σ wd p13 h14) 1 (bwV bw_c tb_1237 tb_1239 tb_50 tb_111 tb_1240) rfl (by decide +kernel) ⟨Nat.le_of_ble_eq_true rfl, Nat.le_of_ble_eq_true rfl⟩ 0 9 (T := TX9) (N := 17) rfl rfl rfl rfl (Nat.le_of_ble_eq_true rfl) ⟨Nat.zero_le _, Nat.zero_le _⟩ dX9_suggestRoot_60 (fun H locs hw => ?_)
            refine lv_if_eq (tgt := 89) hx hb dX9_suggestRoot_63 (by decide) (fun c15 => ?_) (fun c15 => ?_)
            · replace hM := i_pos hM c15
              refine lv_iinc (v := (x2 + 1)) (lv' := [(2, .int (x2 + 1)), (3, .int 1), (0, .ref (h 0)), (1, .int x1)]) hx hb dX9_suggestRoot_89 hl (k := 3) rfl rfl (by decide) rfl (fun ls hl => ?_)
              refine lv_goto (tgt := 13) hx hb dX9_suggestRoot_92 (by decide) ?_
              exact ih _ _ _ _ _ hM _ _ hw _ (lv_sub hl [2, 3, 0] rfl)
            · replace hM := i_neg hM c15
              refine lv_aload_n hx hb dX9_suggestRoot_66 rfl (lv_at hl 1 rfl) ?_
              refine lv_iload_n hx hb dX9_suggestRoot_67 rfl (lv_at hl 2 rfl) ?_
              refine lv_bipush (v := 11) hx hb dX9_suggestRoot_68 (by decide) ?_
              obtain ⟨p16, h17, hM⟩ := b_some hM
              refine q_cv (As := [.int x1, .int 11]) (rest := []) E hw hl (c_X9_ticket l D cA tS A h F x1 11 σ wd p16 h17) 2 (bwV bw_c tb_1241 tb_1243 tb_51 tb_111 tb_1244) rfl (by decide +kernel) ⟨Nat.le_of_ble_eq_true rfl, Nat.le_of_ble_eq_true rfl⟩ 0 9 (T := TX9) (N := 17) rfl rfl rfl rfl (Nat.le_of_ble_eq_true rfl) ⟨Nat.zero_le _, Nat.zero_le _⟩ dX9_suggestRoot_70 (fun H locs hw => ?_)
              refine lv_aload_n hx hb dX9_suggestRoot_73 rfl (lv_at hl 1 rfl) ?_
              refine lv_iload_n hx hb dX9_suggestRoot_74 rfl (lv_at hl 3 rfl) ?_
              refine lv_bipush (v := 11) hx hb dX9_suggestRoot_75 (by decide) ?_
              obtain ⟨p18, h19, hM⟩ := b_some hM
              refine q_cv (As := [.int x2, .int 11]) (rest := [.int p16]) E hw hl (c_X9_ticket l D cA tS A h F x2 11 σ wd p18 h19) 2 (bwV bw_c tb_1241 tb_1243 tb_51 tb_111 tb_1244) rfl (by decide +kernel) ⟨Nat.le_of_ble_eq_true rfl, Nat.le_of_ble_eq_true rfl⟩ 0 9 (T := TX9) (N := 17) rfl rfl rfl rfl (Nat.le_of_ble_eq_true rfl) ⟨Nat.zero_le _, Nat.zero_le _⟩ dX9_suggestRoot_77 (fun H locs hw => ?_)
              refine lv_isub hx hb dX9_suggestRoot_80 ?_
              refine lv_sipush (v := 240) hx hb dX9_suggestRoot_81 (by decide) ?_
              refine lv_icmp_gt (tgt := 89) hx hb dX9_suggestRoot_84 (by decide) (fun c20 => ?_) (fun c20 => ?_)
              · replace hM := i_pos hM c20
                refine lv_iinc (v := (x2 + 1)) (lv' := [(2, .int (x2 + 1)), (3, .int 1), (0, .ref (h 0)), (1, .int x1)]) hx hb dX9_suggestRoot_89 hl (k := 3) rfl rfl (by decide) rfl (fun ls hl => ?_)
                refine lv_goto (tgt := 13) hx hb dX9_suggestRoot_92 (by decide) ?_
                exact ih _ _ _ _ _ hM _ _ hw _ (lv_sub hl [2, 3, 0] rfl)
              · replace hM := i_neg hM c20
                refine lv_iload_n hx hb dX9_suggestRoot_87 rfl (lv_at hl 3 rfl) ?_
                cases hM
                exact q_reti E hw dX9_suggestRoot_88
set_option maxRecDepth 100000 in
set_option maxHeartbeats 4000000 in
theorem c_X9_suggestRoot (l : Launch) (D : va_G) (cA : Nat → ClassId) (tS : Nat → Nat) (A : Nat → Prop) (h : Nat → Nat) (F : va_W) (N : Nat) (x1 : Int32) (σ : Sg) (wd : Int64) (r0 : Int32) (hM : f_X9_suggestRoot N x1 σ wd = some r0) : Ct l yX9_suggestRoot (Cond.code yX9_suggestRoot cX9_suggestRoot 4 (some .int) :: bw) 2 43 D cA tS A [.ref (h 0), .int x1] (wM cA h σ wd ++ F) (some (.int r0)) (wM cA h σ wd ++ F) := by
  refine ct_of (by decide +kernel) (Nat.le_of_ble_eq_true rfl) ?_
  intro p e s m below meth c E hw ls hl
  replace E : Ev p cX9_suggestRoot 4 (some .int) RX9 (Cond.code yX9_suggestRoot cX9_suggestRoot 4 (some .int) :: bw) D cA tS A s m _ meth c := E
  replace hl : lv_has ls 4 [(0, .ref (h 0)), (1, .int x1)] := hl
  have hx := E.1.1
  have hb := E.1.2.1
  unfold f_X9_suggestRoot at hM
  refine lv_aload_n hx hb dX9_suggestRoot_0 rfl (lv_at hl 0 rfl) ?_
  refine lv_iload_n hx hb dX9_suggestRoot_1 rfl (lv_at hl 1 rfl) ?_
  obtain ⟨p1, h2, hM⟩ := b_some hM
  refine q_cv (As := [.int x1]) (rest := []) E hw hl (c_X9_isTicket l D cA tS A h F x1 σ wd p1 h2) 1 (bwV bw_c tb_1233 tb_1235 tb_49 tb_111 tb_1236) rfl (by decide +kernel) ⟨Nat.le_of_ble_eq_true rfl, Nat.le_of_ble_eq_true rfl⟩ 0 9 (T := TX9) (N := 17) rfl rfl rfl rfl (Nat.le_of_ble_eq_true rfl) ⟨Nat.zero_le _, Nat.zero_le _⟩ dX9_suggestRoot_2 (fun H locs hw => ?_)
  refine lv_if_ne (tgt := 11) hx hb dX9_suggestRoot_5 (by decide) (fun c3 => ?_) (fun c3 => ?_)
  · replace hM := i_neg hM c3
    refine lv_iconst (v := 0) hx hb dX9_suggestRoot_11 (by decide) ?_
    refine lv_istore_n (lv' := [(2, .int 0), (0, .ref (h 0)), (1, .int x1)]) hx hb dX9_suggestRoot_12 rfl hl (by decide) rfl (fun ls hl => ?_)
    exact s_X9_suggestRoot_13 l D cA tS A h F N E N _ _ _ _ _ hM _ _ hw _ (lv_sub hl [1, 2, 0] rfl)
  · replace hM := i_pos hM c3
    refine lv_bipush (v := (-2)) hx hb dX9_suggestRoot_8 (by decide) ?_
    cases hM
    exact q_reti E hw dX9_suggestRoot_10
set_option maxRecDepth 100000 in
set_option maxHeartbeats 4000000 in
theorem s_X9_customerTickets_19 (l : Launch) (D : va_G) (cA : Nat → ClassId) (tS : Nat → Nat) (A : Nat → Prop) (h : Nat → Nat) (F : va_W) (N : Nat) {p : Program} {e : Env} {s : State} {m : MethodId} {args : Array Value} {below : List Frame} {meth : Method} {c : Code} (E : Ev p cX9_customerTickets 5 (some .long) RX9 (Cond.code yX9_customerTickets cX9_customerTickets 5 (some .long) :: bw) D cA tS A s m args meth c) : ∀ (n : Nat) (x1 : Int32) (y2 : Int64) (x4 : Int32) (σ : Sg) (wd : Int64) (r0 : Int64) (hM : f_X9_customerTickets_19 N n x1 y2 x4 σ wd = some r0) (H : Heap) (locs : List Loc) (hw : Wd D A (wM cA h σ wd ++ F) s.heap H locs) (ls : Array Slot) (hl : lv_has ls 5 [(0, .ref (h 0)), (1, .int x1), (2, .long y2), (4, .int x4)]), W p l e ({ frames := 2, cells := 0, slots := 0, locals := 44 } : Room) s m args below meth c H locs 0 0 (MQ below (QW D A (some (.long r0)) (wM cA h σ wd ++ F)) args s 0 0 A) (F0 m 19 ls []) := by
  have hx := E.1.1
  have hb := E.1.2.1
  intro n
  induction n with
  | zero =>
    intro x1 y2 x4 σ wd r0 hM
    cases hM
  | succ n ih =>
    intro x1 y2 x4 σ wd r0 hM H locs hw ls hl
    rw [f_X9_customerTickets_19] at hM
    refine lv_iload hx hb dX9_customerTickets_19 (lv_at hl 3 rfl) ?_
    refine lv_aload_n hx hb dX9_customerTickets_21 rfl (lv_at hl 0 rfl) ?_
    refine q_get (C := RX9) (T := TX9) (N := 17) (ci := 9) E (fun w h => List.mem_cons_of_mem _ (inX9 w h)) hw 0 rfl rfl 0 (by decide) (List.mem_cons_of_mem _ tb_1145) (v := .ref (h 1)) rfl dX9_customerTickets_22 ?_
    refine lv_bipush (v := 56) hx hb dX9_customerTickets_25 (by decide) ?_
    refine q_ald E hw 1 (n := 4619) rfl (by decide +kernel) (x := (σ 1 (ix 56))) rfl dX9_customerTickets_27 ?_
    refine lv_icmp_ge (tgt := 69) hx hb dX9_customerTickets_28 (by decide) (fun c1 => ?_) (fun c1 => ?_)
    · replace hM := i_pos hM c1
      refine lv_lload_n hx hb dX9_customerTickets_69 rfl (lv_at hl 2 rfl) ?_
      cases hM
      exact q_retl E hw dX9_customerTickets_70
    · replace hM := i_neg hM c1
      refine lv_lload_n hx hb dX9_customerTickets_31 rfl (lv_at hl 2 rfl) ?_
      refine lv_aload_n hx hb dX9_customerTickets_32 rfl (lv_at hl 0 rfl) ?_
      refine lv_iload hx hb dX9_customerTickets_33 (lv_at hl 3 rfl) ?_
      refine lv_iconst (v := 1) hx hb dX9_customerTickets_35 (by decide) ?_
      obtain ⟨p2, h3, hM⟩ := b_some hM
      refine q_cv (As := [.int x4, .int 1]) (rest := [.long y2]) E hw hl (c_X9_ticket l D cA tS A h F x4 1 σ wd p2 h3) 2 (bwV bw_c tb_1241 tb_1243 tb_51 tb_111 tb_1244) rfl (by decide +kernel) ⟨Nat.le_of_ble_eq_true rfl, Nat.le_of_ble_eq_true rfl⟩ 0 9 (T := TX9) (N := 17) rfl rfl rfl rfl (Nat.le_of_ble_eq_true rfl) ⟨Nat.zero_le _, Nat.zero_le _⟩ dX9_customerTickets_36 (fun H locs hw => ?_)
      refine lv_iload_n hx hb dX9_customerTickets_39 rfl (lv_at hl 1 rfl) ?_
      refine lv_icmp_ne (tgt := 60) hx hb dX9_customerTickets_40 (by decide) (fun c4 => ?_) (fun c4 => ?_)
      · replace hM := i_neg hM c4
        refine lv_lconst (v := 0) hx hb dX9_customerTickets_60 (by decide) ?_
        refine lv_lor hx hb dX9_customerTickets_61 ?_
        refine lv_lstore_n (lv' := [(2, .long (y2 ||| 0)), (0, .ref (h 0)), (1, .int x1), (4, .int x4)]) hx hb dX9_customerTickets_62 rfl hl (by decide) rfl (fun ls hl => ?_)
        refine lv_iinc (v := (x4 + 1)) (lv' := [(4, .int (x4 + 1)), (2, .long (y2 ||| 0)), (0, .ref (h 0)), (1, .int x1)]) hx hb dX9_customerTickets_63 hl (k := 3) rfl rfl (by decide) rfl (fun ls hl => ?_)
        refine lv_goto (tgt := 19) hx hb dX9_customerTickets_66 (by decide) ?_
        exact ih _ _ _ _ _ _ hM _ _ hw _ (lv_sub hl [2, 3, 1, 0] rfl)
      · replace hM := i_pos hM c4
        refine lv_aload_n hx hb dX9_customerTickets_43 rfl (lv_at hl 0 rfl) ?_
        refine lv_iload hx hb dX9_customerTickets_44 (lv_at hl 3 rfl) ?_
        refine lv_iconst (v := 3) hx hb dX9_customerTickets_46 (by decide) ?_
        obtain ⟨p5, h6, hM⟩ := b_some hM
        refine q_cv (As := [.int x4, .int 3]) (rest := [.long y2]) E hw hl (c_X9_is l D cA tS A h F x4 3 σ wd p5 h6) 2 (bwV bw_c tb_1249 tb_1251 tb_53 tb_111 tb_1252) rfl (by decide +kernel) ⟨Nat.le_of_ble_eq_true rfl, Nat.le_of_ble_eq_true rfl⟩ 0 9 (T := TX9) (N := 17) rfl rfl rfl rfl (Nat.le_of_ble_eq_true rfl) ⟨Nat.zero_le _, Nat.zero_le _⟩ dX9_customerTickets_47 (fun H locs hw => ?_)
        refine lv_if_ne (tgt := 60) hx hb dX9_customerTickets_50 (by decide) (fun c7 => ?_) (fun c7 => ?_)
        · replace hM := i_neg hM c7
          refine lv_lconst (v := 0) hx hb dX9_customerTickets_60 (by decide) ?_
          refine lv_lor hx hb dX9_customerTickets_61 ?_
          refine lv_lstore_n (lv' := [(2, .long (y2 ||| 0)), (0, .ref (h 0)), (1, .int x1), (4, .int x4)]) hx hb dX9_customerTickets_62 rfl hl (by decide) rfl (fun ls hl => ?_)
          refine lv_iinc (v := (x4 + 1)) (lv' := [(4, .int (x4 + 1)), (2, .long (y2 ||| 0)), (0, .ref (h 0)), (1, .int x1)]) hx hb dX9_customerTickets_63 hl (k := 3) rfl rfl (by decide) rfl (fun ls hl => ?_)
          refine lv_goto (tgt := 19) hx hb dX9_customerTickets_66 (by decide) ?_
          exact ih _ _ _ _ _ _ hM _ _ hw _ (lv_sub hl [2, 3, 1, 0] rfl)
        · replace hM := i_pos hM c7
          refine lv_lconst (v := 1) hx hb dX9_customerTickets_53 (by decide) ?_
          refine lv_iload hx hb dX9_customerTickets_54 (lv_at hl 3 rfl) ?_
          refine lv_lshl (v := (1 <<< ((x4 : Int32).toInt64 &&& 63))) hx hb dX9_customerTickets_56 rfl ?_
          refine lv_goto (tgt := 61) hx hb dX9_customerTickets_57 (by decide) ?_
          refine lv_lor hx hb dX9_customerTickets_61 ?_
          refine lv_lstore_n (lv' := [(2, .long (y2 ||| (1 <<< ((x4 : Int32).toInt64 &&& 63)))), (0, .ref (h 0)), (1, .int x1), (4, .int x4)]) hx hb dX9_customerTickets_62 rfl hl (by decide) rfl (fun ls hl => ?_)
          refine lv_iinc (v := (x4 + 1)) (lv' := [(4, .int (x4 + 1)), (2, .long (y2 ||| (1 <<< ((x4 : Int32).toInt64 &&& 63)))), (0, .ref (h 0)), (1, .int x1)]) hx hb dX9_customerTickets_63 hl (k := 3) rfl rfl (by decide) rfl (fun ls hl => ?_)
          refine lv_goto (tgt := 19) hx hb dX9_customerTickets_66 (by decide) ?_
          exact ih _ _ _ _ _ _ hM _ _ hw _ (lv_sub hl [2, 3, 1, 0] rfl)
set_option maxRecDepth 100000 in
set_option maxHeartbeats 4000000 in
theorem c_X9_customerTickets (l : Launch) (D : va_G) (cA : Nat → ClassId) (tS : Nat → Nat) (A : Nat → Prop) (h : Nat → Nat) (F : va_W) (N : Nat) (x1 : Int32) (σ : Sg) (wd : Int64) (r0 : Int64) (hM : f_X9_customerTickets N x1 σ wd = some r0) : Ct l yX9_customerTickets (Cond.code yX9_customerTickets cX9_customerTickets 5 (some .long) :: bw) 2 44 D cA tS A [.ref (h 0), .int x1] (wM cA h σ wd ++ F) (some (.long r0)) (wM cA h σ wd ++ F) := by
  refine ct_of (by decide +kernel) (Nat.le_of_ble_eq_true rfl) ?_
  intro p e s m below meth c E hw ls hl
  replace E : Ev p cX9_customerTickets 5 (some .long) RX9 (Cond.code yX9_customerTickets cX9_customerTickets 5 (some .long) :: bw) D cA tS A s m _ meth c := E
  replace hl : lv_has ls 5 [(0, .ref (h 0)), (1, .int x1)] := hl
  have hx := E.1.1
  have hb := E.1.2.1
  unfold f_X9_customerTickets at hM
  refine lv_iload_n hx hb dX9_customerTickets_0 rfl (lv_at hl 1 rfl) ?_
  refine lv_iconst (v := 0) hx hb dX9_customerTickets_1 (by decide) ?_
  refine lv_bipush (v := 99) hx hb dX9_customerTickets_2 (by decide) ?_
  obtain ⟨p1, h2, hM⟩ := b_some hM
  refine q_cs (As := [.int x1, .int 0, .int 99]) (rest := []) E hw hl (c_X9_isBetween l D cA tS A (wM cA h σ wd ++ F) x1 0 99 p1 h2) 3 (bwS bw_c tb_1212 tb_1213 tb_111 tb_1214) rfl (by decide +kernel) ⟨Nat.le_of_ble_eq_true rfl, Nat.le_of_ble_eq_true rfl⟩ rfl rfl (Nat.le_of_ble_eq_true rfl) ⟨Nat.zero_le _, Nat.zero_le _⟩ dX9_customerTickets_4 (fun H locs hw => ?_)
  refine lv_if_ne (tgt := 14) hx hb dX9_customerTickets_7 (by decide) (fun c3 => ?_) (fun c3 => ?_)
  · replace hM := i_neg hM c3
    refine lv_lconst (v := 0) hx hb dX9_customerTickets_14 (by decide) ?_
    refine lv_lstore_n (lv' := [(2, .long 0), (0, .ref (h 0)), (1, .int x1)]) hx hb dX9_customerTickets_15 rfl hl (by decide) rfl (fun ls hl => ?_)
    refine lv_iconst (v := 0) hx hb dX9_customerTickets_16 (by decide) ?_
    refine lv_istore (lv' := [(4, .int 0), (2, .long 0), (0, .ref (h 0)), (1, .int x1)]) hx hb dX9_customerTickets_17 hl (by decide) rfl (fun ls hl => ?_)
    exact s_X9_customerTickets_19 l D cA tS A h F N E N _ _ _ _ _ _ hM _ _ hw _ (lv_sub hl [2, 3, 1, 0] rfl)
  · replace hM := i_pos hM c3
    refine lv_ldc2 (v := (-4)) hx hb E.1.2.2.2.1 (E.1.2.2.2.2 _ (List.mem_cons_of_mem _ tb_1520)) dX9_customerTickets_10 ?_
    cases hM
    exact q_retl E hw dX9_customerTickets_13
