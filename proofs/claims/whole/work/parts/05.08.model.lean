set_option maxRecDepth 100000 in
set_option maxHeartbeats 4000000 in
theorem s_X9_breachesOf_5 (l : Launch) (D : va_G) (cA : Nat → ClassId) (tS : Nat → Nat) (A : Nat → Prop) (h : Nat → Nat) (F : va_W) (N : Nat) {p : Program} {e : Env} {s : State} {m : MethodId} {args : Array Value} {below : List Frame} {meth : Method} {c : Code} (E : Ev p cX9_breachesOf 5 (some .int) RX9 (Cond.code yX9_breachesOf cX9_breachesOf 5 (some .int) :: bw) D cA tS A s m args meth c) : ∀ (n : Nat) (x1 : Int32) (x2 : Int32) (x3 : Int32) (x4 : Int32) (σ : Sg) (wd : Int64) (r0 : Int32) (hM : f_X9_breachesOf_5 N n x1 x2 x3 x4 σ wd = some r0) (H : Heap) (locs : List Loc) (hw : Wd D A (wM cA h σ wd ++ F) s.heap H locs) (ls : Array Slot) (hl : lv_has ls 5 [(0, .ref (h 0)), (1, .int x1), (2, .int x2), (3, .int x3), (4, .int x4)]), W p l e ({ frames := 1, cells := 0, slots := 0, locals := 22 } : Room) s m args below meth c H locs 0 0 (MQ below (QW D A (some (.int r0)) (wM cA h σ wd ++ F)) args s 0 0 A) (F0 m 5 ls []) := by
  have hx := E.1.1
  have hb := E.1.2.1
  intro n
  induction n with
  | zero =>
    intro x1 x2 x3 x4 σ wd r0 hM
    cases hM
  | succ n ih =>
    intro x1 x2 x3 x4 σ wd r0 hM H locs hw ls hl
    rw [f_X9_breachesOf_5] at hM
    refine lv_iload hx hb dX9_breachesOf_5 (lv_at hl 4 rfl) ?_
    refine lv_aload_n hx hb dX9_breachesOf_7 rfl (lv_at hl 0 rfl) ?_
    refine q_get (C := RX9) (T := TX9) (N := 17) (ci := 9) E (fun w h => List.mem_cons_of_mem _ (inX9 w h)) hw 0 rfl rfl 0 (by decide) (List.mem_cons_of_mem _ tb_1145) (v := .ref (h 1)) rfl dX9_breachesOf_8 ?_
    refine lv_bipush (v := 56) hx hb dX9_breachesOf_11 (by decide) ?_
    refine q_ald E hw 1 (n := 4619) rfl (by decide +kernel) (x := (σ 1 (ix 56))) rfl dX9_breachesOf_13 ?_
    refine lv_icmp_ge (tgt := 53) hx hb dX9_breachesOf_14 (by decide) (fun c1 => ?_) (fun c1 => ?_)
    · replace hM := i_pos hM c1
      refine lv_iload_n hx hb dX9_breachesOf_53 rfl (lv_at hl 3 rfl) ?_
      cases hM
      exact q_reti E hw dX9_breachesOf_54
    · replace hM := i_neg hM c1
      refine lv_iload_n hx hb dX9_breachesOf_17 rfl (lv_at hl 3 rfl) ?_
      refine lv_iload_n hx hb dX9_breachesOf_18 rfl (lv_at hl 1 rfl) ?_
      refine lv_iconst (v := (-1)) hx hb dX9_breachesOf_19 (by decide) ?_
      refine lv_icmp_eq (tgt := 34) hx hb dX9_breachesOf_20 (by decide) (fun c2 => ?_) (fun c2 => ?_)
      · replace hM := i_pos hM c2
        refine lv_aload_n hx hb dX9_breachesOf_34 rfl (lv_at hl 0 rfl) ?_
        refine lv_iload hx hb dX9_breachesOf_35 (lv_at hl 4 rfl) ?_
        refine lv_iload_n hx hb dX9_breachesOf_37 rfl (lv_at hl 2 rfl) ?_
        obtain ⟨p3, h4, hM⟩ := b_some hM
        refine q_cv (As := [.int x4, .int x2]) (rest := [.int x3]) E hw hl (c_X9_ticket l D cA tS A h F x4 x2 σ wd p3 h4) 2 (bwV bw_c tb_1241 tb_1243 tb_51 tb_111 tb_1244) rfl (by decide +kernel) ⟨Nat.le_of_ble_eq_true rfl, Nat.le_of_ble_eq_true rfl⟩ 0 9 (T := TX9) (N := 17) rfl rfl rfl rfl (Nat.le_of_ble_eq_true rfl) ⟨Nat.zero_le _, Nat.zero_le _⟩ dX9_breachesOf_38 (fun H locs hw => ?_)
        refine lv_goto (tgt := 45) hx hb dX9_breachesOf_41 (by decide) ?_
        refine lv_iadd hx hb dX9_breachesOf_45 ?_
        refine lv_istore_n (lv' := [(3, .int (x3 + p3)), (0, .ref (h 0)), (1, .int x1), (2, .int x2), (4, .int x4)]) hx hb dX9_breachesOf_46 rfl hl (by decide) rfl (fun ls hl => ?_)
        refine lv_iinc (v := (x4 + 1)) (lv' := [(4, .int (x4 + 1)), (3, .int (x3 + p3)), (0, .ref (h 0)), (1, .int x1), (2, .int x2)]) hx hb dX9_breachesOf_47 hl (k := 4) rfl rfl (by decide) rfl (fun ls hl => ?_)
        refine lv_goto (tgt := 5) hx hb dX9_breachesOf_50 (by decide) ?_
        exact ih _ _ _ _ _ _ _ hM _ _ hw _ (lv_sub hl [2, 3, 4, 1, 0] rfl)
      · replace hM := i_neg hM c2
        refine lv_aload_n hx hb dX9_breachesOf_23 rfl (lv_at hl 0 rfl) ?_
        refine lv_iload hx hb dX9_breachesOf_24 (lv_at hl 4 rfl) ?_
        refine lv_iconst (v := 0) hx hb dX9_breachesOf_26 (by decide) ?_
        obtain ⟨p5, h6, hM⟩ := b_some hM
        refine q_cv (As := [.int x4, .int 0]) (rest := [.int x3]) E hw hl (c_X9_ticket l D cA tS A h F x4 0 σ wd p5 h6) 2 (bwV bw_c tb_1241 tb_1243 tb_51 tb_111 tb_1244) rfl (by decide +kernel) ⟨Nat.le_of_ble_eq_true rfl, Nat.le_of_ble_eq_true rfl⟩ 0 9 (T := TX9) (N := 17) rfl rfl rfl rfl (Nat.le_of_ble_eq_true rfl) ⟨Nat.zero_le _, Nat.zero_le _⟩ dX9_breachesOf_27 (fun H locs hw => ?_)
        refine lv_iload_n hx hb dX9_breachesOf_30 rfl (lv_at hl 1 rfl) ?_
        refine lv_icmp_ne (tgt := 44) hx hb dX9_breachesOf_31 (by decide) (fun c7 => ?_) (fun c7 => ?_)
        · replace hM := i_neg hM c7
          refine lv_iconst (v := 0) hx hb dX9_breachesOf_44 (by decide) ?_
          refine lv_iadd hx hb dX9_breachesOf_45 ?_
          refine lv_istore_n (lv' := [(3, .int (x3 + 0)), (0, .ref (h 0)), (1, .int x1), (2, .int x2), (4, .int x4)]) hx hb dX9_breachesOf_46 rfl hl (by decide) rfl (fun ls hl => ?_)
          refine lv_iinc (v := (x4 + 1)) (lv' := [(4, .int (x4 + 1)), (3, .int (x3 + 0)), (0, .ref (h 0)), (1, .int x1), (2, .int x2)]) hx hb dX9_breachesOf_47 hl (k := 4) rfl rfl (by decide) rfl (fun ls hl => ?_)
          refine lv_goto (tgt := 5) hx hb dX9_breachesOf_50 (by decide) ?_
          exact ih _ _ _ _ _ _ _ hM _ _ hw _ (lv_sub hl [2, 3, 4, 1, 0] rfl)
        · replace hM := i_pos hM c7
          refine lv_aload_n hx hb dX9_breachesOf_34 rfl (lv_at hl 0 rfl) ?_
          refine lv_iload hx hb dX9_breachesOf_35 (lv_at hl 4 rfl) ?_
          refine lv_iload_n hx hb dX9_breachesOf_37 rfl (lv_at hl 2 rfl) ?_
          obtain ⟨p8, h9, hM⟩ := b_some hM
          refine q_cv (As := [.int x4, .int x2]) (rest := [.int x3]) E hw hl (c_X9_ticket l D cA tS A h F x4 x2 σ wd p8 h9) 2 (bwV bw_c tb_1241 tb_1243 tb_51 tb_111 tb_1244) rfl (by decide +kernel) ⟨Nat.le_of_ble_eq_true rfl, Nat.le_of_ble_eq_true rfl⟩ 0 9 (T := TX9) (N := 17) rfl rfl rfl rfl (Nat.le_of_ble_eq_true rfl) ⟨Nat.zero_le _, Nat.zero_le _⟩ dX9_breachesOf_38 (fun H locs hw => ?_)
          refine lv_goto (tgt := 45) hx hb dX9_breachesOf_41 (by decide) ?_
          refine lv_iadd hx hb dX9_breachesOf_45 ?_
          refine lv_istore_n (lv' := [(3, .int (x3 + p8)), (0, .ref (h 0)), (1, .int x1), (2, .int x2), (4, .int x4)]) hx hb dX9_breachesOf_46 rfl hl (by decide) rfl (fun ls hl => ?_)
          refine lv_iinc (v := (x4 + 1)) (lv' := [(4, .int (x4 + 1)), (3, .int (x3 + p8)), (0, .ref (h 0)), (1, .int x1), (2, .int x2)]) hx hb dX9_breachesOf_47 hl (k := 4) rfl rfl (by decide) rfl (fun ls hl => ?_)
          refine lv_goto (tgt := 5) hx hb dX9_breachesOf_50 (by decide) ?_
          exact ih _ _ _ _ _ _ _ hM _ _ hw _ (lv_sub hl [2, 3, 4, 1, 0] rfl)
set_option maxRecDepth 100000 in
set_option maxHeartbeats 4000000 in
theorem c_X9_breachesOf (l : Launch) (D : va_G) (cA : Nat → ClassId) (tS : Nat → Nat) (A : Nat → Prop) (h : Nat → Nat) (F : va_W) (N : Nat) (x1 : Int32) (x2 : Int32) (σ : Sg) (wd : Int64) (r0 : Int32) (hM : f_X9_breachesOf N x1 x2 σ wd = some r0) : Ct l yX9_breachesOf (Cond.code yX9_breachesOf cX9_breachesOf 5 (some .int) :: bw) 1 22 D cA tS A [.ref (h 0), .int x1, .int x2] (wM cA h σ wd ++ F) (some (.int r0)) (wM cA h σ wd ++ F) := by
  refine ct_of (by decide +kernel) (Nat.le_of_ble_eq_true rfl) ?_
  intro p e s m below meth c E hw ls hl
  replace E : Ev p cX9_breachesOf 5 (some .int) RX9 (Cond.code yX9_breachesOf cX9_breachesOf 5 (some .int) :: bw) D cA tS A s m _ meth c := E
  replace hl : lv_has ls 5 [(0, .ref (h 0)), (1, .int x1), (2, .int x2)] := hl
  have hx := E.1.1
  have hb := E.1.2.1
  unfold f_X9_breachesOf at hM
  refine lv_iconst (v := 0) hx hb dX9_breachesOf_0 (by decide) ?_
  refine lv_istore_n (lv' := [(3, .int 0), (0, .ref (h 0)), (1, .int x1), (2, .int x2)]) hx hb dX9_breachesOf_1 rfl hl (by decide) rfl (fun ls hl => ?_)
  refine lv_iconst (v := 0) hx hb dX9_breachesOf_2 (by decide) ?_
  refine lv_istore (lv' := [(4, .int 0), (3, .int 0), (0, .ref (h 0)), (1, .int x1), (2, .int x2)]) hx hb dX9_breachesOf_3 hl (by decide) rfl (fun ls hl => ?_)
  exact s_X9_breachesOf_5 l D cA tS A h F N E N _ _ _ _ _ _ _ hM _ _ hw _ (lv_sub hl [2, 3, 4, 1, 0] rfl)
set_option maxRecDepth 100000 in
set_option maxHeartbeats 4000000 in
theorem c_X9_responseBreaches (l : Launch) (D : va_G) (cA : Nat → ClassId) (tS : Nat → Nat) (A : Nat → Prop) (h : Nat → Nat) (F : va_W) (N : Nat) (x1 : Int32) (σ : Sg) (wd : Int64) (r0 : Int32) (hM : f_X9_responseBreaches N x1 σ wd = some r0) : Ct l yX9_responseBreaches (Cond.code yX9_responseBreaches cX9_responseBreaches 2 (some .int) :: bw) 2 46 D cA tS A [.ref (h 0), .int x1] (wM cA h σ wd ++ F) (some (.int r0)) (wM cA h σ wd ++ F) := by
  refine ct_of (by decide +kernel) (Nat.le_of_ble_eq_true rfl) ?_
  intro p e s m below meth c E hw ls hl
  replace E : Ev p cX9_responseBreaches 2 (some .int) RX9 (Cond.code yX9_responseBreaches cX9_responseBreaches 2 (some .int) :: bw) D cA tS A s m _ meth c := E
  replace hl : lv_has ls 2 [(0, .ref (h 0)), (1, .int x1)] := hl
  have hx := E.1.1
  have hb := E.1.2.1
  unfold f_X9_responseBreaches at hM
  refine lv_iload_n hx hb dX9_responseBreaches_0 rfl (lv_at hl 1 rfl) ?_
  refine lv_iconst (v := (-1)) hx hb dX9_responseBreaches_1 (by decide) ?_
  refine lv_icmp_eq (tgt := 13) hx hb dX9_responseBreaches_2 (by decide) (fun c1 => ?_) (fun c1 => ?_)
  · replace hM := i_pos hM c1
    refine lv_aload_n hx hb dX9_responseBreaches_13 rfl (lv_at hl 0 rfl) ?_
    refine lv_iload_n hx hb dX9_responseBreaches_14 rfl (lv_at hl 1 rfl) ?_
    refine lv_bipush (v := 14) hx hb dX9_responseBreaches_15 (by decide) ?_
    obtain ⟨p2, h3, hM⟩ := b_some hM
    refine q_cv (As := [.int x1, .int 14]) (rest := []) E hw hl (c_X9_breachesOf l D cA tS A h F N x1 14 σ wd p2 h3) 2 (bwV bw_c tb_1525 tb_1527 tb_83 tb_111 tb_1528) rfl (by decide +kernel) ⟨Nat.le_of_ble_eq_true rfl, Nat.le_of_ble_eq_true rfl⟩ 0 9 (T := TX9) (N := 17) rfl rfl rfl rfl (Nat.le_of_ble_eq_true rfl) ⟨Nat.zero_le _, Nat.zero_le _⟩ dX9_responseBreaches_17 (fun H locs hw => ?_)
    refine lv_goto (tgt := 25) hx hb dX9_responseBreaches_20 (by decide) ?_
    cases hM
    exact q_reti E hw dX9_responseBreaches_25
  · replace hM := i_neg hM c1
    refine lv_aload_n hx hb dX9_responseBreaches_5 rfl (lv_at hl 0 rfl) ?_
    refine lv_iload_n hx hb dX9_responseBreaches_6 rfl (lv_at hl 1 rfl) ?_
    obtain ⟨p4, h5, hM⟩ := b_some hM
    refine q_cv (As := [.int x1]) (rest := []) E hw hl (c_X9_isKind l D cA tS A h F x1 σ wd p4 h5) 1 (bwV bw_c tb_1225 tb_1227 tb_47 tb_111 tb_1228) rfl (by decide +kernel) ⟨Nat.le_of_ble_eq_true rfl, Nat.le_of_ble_eq_true rfl⟩ 0 9 (T := TX9) (N := 17) rfl rfl rfl rfl (Nat.le_of_ble_eq_true rfl) ⟨Nat.zero_le _, Nat.zero_le _⟩ dX9_responseBreaches_7 (fun H locs hw => ?_)
    refine lv_if_eq (tgt := 23) hx hb dX9_responseBreaches_10 (by decide) (fun c6 => ?_) (fun c6 => ?_)
    · replace hM := i_pos hM c6
      refine lv_bipush (v := (-3)) hx hb dX9_responseBreaches_23 (by decide) ?_
      cases hM
      exact q_reti E hw dX9_responseBreaches_25
    · replace hM := i_neg hM c6
      refine lv_aload_n hx hb dX9_responseBreaches_13 rfl (lv_at hl 0 rfl) ?_
      refine lv_iload_n hx hb dX9_responseBreaches_14 rfl (lv_at hl 1 rfl) ?_
      refine lv_bipush (v := 14) hx hb dX9_responseBreaches_15 (by decide) ?_
      obtain ⟨p7, h8, hM⟩ := b_some hM
      refine q_cv (As := [.int x1, .int 14]) (rest := []) E hw hl (c_X9_breachesOf l D cA tS A h F N x1 14 σ wd p7 h8) 2 (bwV bw_c tb_1525 tb_1527 tb_83 tb_111 tb_1528) rfl (by decide +kernel) ⟨Nat.le_of_ble_eq_true rfl, Nat.le_of_ble_eq_true rfl⟩ 0 9 (T := TX9) (N := 17) rfl rfl rfl rfl (Nat.le_of_ble_eq_true rfl) ⟨Nat.zero_le _, Nat.zero_le _⟩ dX9_responseBreaches_17 (fun H locs hw => ?_)
      refine lv_goto (tgt := 25) hx hb dX9_responseBreaches_20 (by decide) ?_
      cases hM
      exact q_reti E hw dX9_responseBreaches_25
set_option maxRecDepth 100000 in
set_option maxHeartbeats 4000000 in
theorem c_X9_resolveBreaches (l : Launch) (D : va_G) (cA : Nat → ClassId) (tS : Nat → Nat) (A : Nat → Prop) (h : Nat → Nat) (F : va_W) (N : Nat) (x1 : Int32) (σ : Sg) (wd : Int64) (r0 : Int32) (hM : f_X9_resolveBreaches N x1 σ wd = some r0) : Ct l yX9_resolveBreaches (Cond.code yX9_resolveBreaches cX9_resolveBreaches 2 (some .int) :: bw) 2 46 D cA tS A [.ref (h 0), .int x1] (wM cA h σ wd ++ F) (some (.int r0)) (wM cA h σ wd ++ F) := by
  refine ct_of (by decide +kernel) (Nat.le_of_ble_eq_true rfl) ?_
  intro p e s m below meth c E hw ls hl
  replace E : Ev p cX9_resolveBreaches 2 (some .int) RX9 (Cond.code yX9_resolveBreaches cX9_resolveBreaches 2 (some .int) :: bw) D cA tS A s m _ meth c := E
  replace hl : lv_has ls 2 [(0, .ref (h 0)), (1, .int x1)] := hl
  have hx := E.1.1
  have hb := E.1.2.1
  unfold f_X9_resolveBreaches at hM
  refine lv_iload_n hx hb dX9_resolveBreaches_0 rfl (lv_at hl 1 rfl) ?_
  refine lv_iconst (v := (-1)) hx hb dX9_resolveBreaches_1 (by decide) ?_
  refine lv_icmp_eq (tgt := 13) hx hb dX9_resolveBreaches_2 (by decide) (fun c1 => ?_) (fun c1 => ?_)
  · replace hM := i_pos hM c1
    refine lv_aload_n hx hb dX9_resolveBreaches_13 rfl (lv_at hl 0 rfl) ?_
    refine lv_iload_n hx hb dX9_resolveBreaches_14 rfl (lv_at hl 1 rfl) ?_
    refine lv_bipush (v := 15) hx hb dX9_resolveBreaches_15 (by decide) ?_
    obtain ⟨p2, h3, hM⟩ := b_some hM
    refine q_cv (As := [.int x1, .int 15]) (rest := []) E hw hl (c_X9_breachesOf l D cA tS A h F N x1 15 σ wd p2 h3) 2 (bwV bw_c tb_1525 tb_1527 tb_83 tb_111 tb_1528) rfl (by decide +kernel) ⟨Nat.le_of_ble_eq_true rfl, Nat.le_of_ble_eq_true rfl⟩ 0 9 (T := TX9) (N := 17) rfl rfl rfl rfl (Nat.le_of_ble_eq_true rfl) ⟨Nat.zero_le _, Nat.zero_le _⟩ dX9_resolveBreaches_17 (fun H locs hw => ?_)
    refine lv_goto (tgt := 25) hx hb dX9_resolveBreaches_20 (by decide) ?_
    cases hM
    exact q_reti E hw dX9_resolveBreaches_25
  · replace hM := i_neg hM c1
    refine lv_aload_n hx hb dX9_resolveBreaches_5 rfl (lv_at hl 0 rfl) ?_
    refine lv_iload_n hx hb dX9_resolveBreaches_6 rfl (lv_at hl 1 rfl) ?_
    obtain ⟨p4, h5, hM⟩ := b_some hM
    refine q_cv (As := [.int x1]) (rest := []) E hw hl (c_X9_isKind l D cA tS A h F x1 σ wd p4 h5) 1 (bwV bw_c tb_1225 tb_1227 tb_47 tb_111 tb_1228) rfl (by decide +kernel) ⟨Nat.le_of_ble_eq_true rfl, Nat.le_of_ble_eq_true rfl⟩ 0 9 (T := TX9) (N := 17) rfl rfl rfl rfl (Nat.le_of_ble_eq_true rfl) ⟨Nat.zero_le _, Nat.zero_le _⟩ dX9_resolveBreaches_7 (fun H locs hw => ?_)
    refine lv_if_eq (tgt := 23) hx hb dX9_resolveBreaches_10 (by decide) (fun c6 => ?_) (fun c6 => ?_)
    · replace hM := i_pos hM c6
      refine lv_bipush (v := (-3)) hx hb dX9_resolveBreaches_23 (by decide) ?_
      cases hM
      exact q_reti E hw dX9_resolveBreaches_25
    · replace hM := i_neg hM c6
      refine lv_aload_n hx hb dX9_resolveBreaches_13 rfl (lv_at hl 0 rfl) ?_
      refine lv_iload_n hx hb dX9_resolveBreaches_14 rfl (lv_at hl 1 rfl) ?_
      refine lv_bipush (v := 15) hx hb dX9_resolveBreaches_15 (by decide) ?_
      obtain ⟨p7, h8, hM⟩ := b_some hM
      refine q_cv (As := [.int x1, .int 15]) (rest := []) E hw hl (c_X9_breachesOf l D cA tS A h F N x1 15 σ wd p7 h8) 2 (bwV bw_c tb_1525 tb_1527 tb_83 tb_111 tb_1528) rfl (by decide +kernel) ⟨Nat.le_of_ble_eq_true rfl, Nat.le_of_ble_eq_true rfl⟩ 0 9 (T := TX9) (N := 17) rfl rfl rfl rfl (Nat.le_of_ble_eq_true rfl) ⟨Nat.zero_le _, Nat.zero_le _⟩ dX9_resolveBreaches_17 (fun H locs hw => ?_)
      refine lv_goto (tgt := 25) hx hb dX9_resolveBreaches_20 (by decide) ?_
      cases hM
      exact q_reti E hw dX9_resolveBreaches_25
set_option maxRecDepth 100000 in
set_option maxHeartbeats 4000000 in
theorem s_X9_solvedUpTo_4 (l : Launch) (D : va_G) (cA : Nat → ClassId) (tS : Nat → Nat) (A : Nat → Prop) (h : Nat → Nat) (F : va_W) (N : Nat) {p : Program} {e : Env} {s : State} {m : MethodId} {args : Array Value} {below : List Frame} {meth : Method} {c : Code} (E : Ev p cX9_solvedUpTo 4 (some .int) RX9 (Cond.code yX9_solvedUpTo cX9_solvedUpTo 4 (some .int) :: bw) D cA tS A s m args meth c) : ∀ (n : Nat) (x1 : Int32) (x2 : Int32) (x3 : Int32) (σ : Sg) (wd : Int64) (r0 : Int32) (hM : f_X9_solvedUpTo_4 N n x1 x2 x3 σ wd = some r0) (H : Heap) (locs : List Loc) (hw : Wd D A (wM cA h σ wd ++ F) s.heap H locs) (ls : Array Slot) (hl : lv_has ls 4 [(0, .ref (h 0)), (1, .int x1), (2, .int x2), (3, .int x3)]), W p l e ({ frames := 2, cells := 0, slots := 0, locals := 44 } : Room) s m args below meth c H locs 0 0 (MQ below (QW D A (some (.int r0)) (wM cA h σ wd ++ F)) args s 0 0 A) (F0 m 4 ls []) := by
  have hx := E.1.1
  have hb := E.1.2.1
  intro n
  induction n with
  | zero =>
    intro x1 x2 x3 σ wd r0 hM
    cases hM
  | succ n ih =>
    intro x1 x2 x3 σ wd r0 hM H locs hw ls hl
    rw [f_X9_solvedUpTo_4] at hM
    refine lv_iload_n hx hb dX9_solvedUpTo_4 rfl (lv_at hl 3 rfl) ?_
    refine lv_aload_n hx hb dX9_solvedUpTo_5 rfl (lv_at hl 0 rfl) ?_
    refine q_get (C := RX9) (T := TX9) (N := 17) (ci := 9) E (fun w h => List.mem_cons_of_mem _ (inX9 w h)) hw 0 rfl rfl 0 (by decide) (List.mem_cons_of_mem _ tb_1145) (v := .ref (h 1)) rfl dX9_solvedUpTo_6 ?_
    refine lv_bipush (v := 56) hx hb dX9_solvedUpTo_9 (by decide) ?_
    refine q_ald E hw 1 (n := 4619) rfl (by decide +kernel) (x := (σ 1 (ix 56))) rfl dX9_solvedUpTo_11 ?_
    refine lv_icmp_ge (tgt := 49) hx hb dX9_solvedUpTo_12 (by decide) (fun c1 => ?_) (fun c1 => ?_)
    · replace hM := i_pos hM c1
      refine lv_iload_n hx hb dX9_solvedUpTo_49 rfl (lv_at hl 2 rfl) ?_
      cases hM
      exact q_reti E hw dX9_solvedUpTo_50
    · replace hM := i_neg hM c1
      refine lv_iload_n hx hb dX9_solvedUpTo_15 rfl (lv_at hl 2 rfl) ?_
      refine lv_aload_n hx hb dX9_solvedUpTo_16 rfl (lv_at hl 0 rfl) ?_
      refine lv_iload_n hx hb dX9_solvedUpTo_17 rfl (lv_at hl 3 rfl) ?_
      refine lv_iconst (v := 3) hx hb dX9_solvedUpTo_18 (by decide) ?_
      obtain ⟨p2, h3, hM⟩ := b_some hM
      refine q_cv (As := [.int x3, .int 3]) (rest := [.int x2]) E hw hl (c_X9_is l D cA tS A h F x3 3 σ wd p2 h3) 2 (bwV bw_c tb_1249 tb_1251 tb_53 tb_111 tb_1252) rfl (by decide +kernel) ⟨Nat.le_of_ble_eq_true rfl, Nat.le_of_ble_eq_true rfl⟩ 0 9 (T := TX9) (N := 17) rfl rfl rfl rfl (Nat.le_of_ble_eq_true rfl) ⟨Nat.zero_le _, Nat.zero_le _⟩ dX9_solvedUpTo_19 (fun H locs hw => ?_)
      refine lv_if_eq (tgt := 40) hx hb dX9_solvedUpTo_22 (by decide) (fun c4 => ?_) (fun c4 => ?_)
      · replace hM := i_pos hM c4
        refine lv_iconst (v := 0) hx hb dX9_solvedUpTo_40 (by decide) ?_
        refine lv_iadd hx hb dX9_solvedUpTo_41 ?_
        refine lv_istore_n (lv' := [(2, .int (x2 + 0)), (0, .ref (h 0)), (1, .int x1), (3, .int x3)]) hx hb dX9_solvedUpTo_42 rfl hl (by decide) rfl (fun ls hl => ?_)
        refine lv_iinc (v := (x3 + 1)) (lv' := [(3, .int (x3 + 1)), (2, .int (x2 + 0)), (0, .ref (h 0)), (1, .int x1)]) hx hb dX9_solvedUpTo_43 hl (k := 3) rfl rfl (by decide) rfl (fun ls hl => ?_)
        refine lv_goto (tgt := 4) hx hb dX9_solvedUpTo_46 (by decide) ?_
        exact ih _ _ _ _ _ _ hM _ _ hw _ (lv_sub hl [2, 3, 1, 0] rfl)
      · replace hM := i_neg hM c4
        refine lv_aload_n hx hb dX9_solvedUpTo_25 rfl (lv_at hl 0 rfl) ?_
        refine lv_iload_n hx hb dX9_solvedUpTo_26 rfl (lv_at hl 3 rfl) ?_
        refine lv_bipush (v := 8) hx hb dX9_solvedUpTo_27 (by decide) ?_
        obtain ⟨p5, h6, hM⟩ := b_some hM
        refine q_cv (As := [.int x3, .int 8]) (rest := [.int x2]) E hw hl (c_X9_ticket l D cA tS A h F x3 8 σ wd p5 h6) 2 (bwV bw_c tb_1241 tb_1243 tb_51 tb_111 tb_1244) rfl (by decide +kernel) ⟨Nat.le_of_ble_eq_true rfl, Nat.le_of_ble_eq_true rfl⟩ 0 9 (T := TX9) (N := 17) rfl rfl rfl rfl (Nat.le_of_ble_eq_true rfl) ⟨Nat.zero_le _, Nat.zero_le _⟩ dX9_solvedUpTo_29 (fun H locs hw => ?_)
        refine lv_iload_n hx hb dX9_solvedUpTo_32 rfl (lv_at hl 1 rfl) ?_
        refine lv_icmp_gt (tgt := 40) hx hb dX9_solvedUpTo_33 (by decide) (fun c7 => ?_) (fun c7 => ?_)
        · replace hM := i_pos hM c7
          refine lv_iconst (v := 0) hx hb dX9_solvedUpTo_40 (by decide) ?_
          refine lv_iadd hx hb dX9_solvedUpTo_41 ?_
          refine lv_istore_n (lv' := [(2, .int (x2 + 0)), (0, .ref (h 0)), (1, .int x1), (3, .int x3)]) hx hb dX9_solvedUpTo_42 rfl hl (by decide) rfl (fun ls hl => ?_)
          refine lv_iinc (v := (x3 + 1)) (lv' := [(3, .int (x3 + 1)), (2, .int (x2 + 0)), (0, .ref (h 0)), (1, .int x1)]) hx hb dX9_solvedUpTo_43 hl (k := 3) rfl rfl (by decide) rfl (fun ls hl => ?_)
          refine lv_goto (tgt := 4) hx hb dX9_solvedUpTo_46 (by decide) ?_
          exact ih _ _ _ _ _ _ hM _ _ hw _ (lv_sub hl [2, 3, 1, 0] rfl)
        · replace hM := i_neg hM c7
          refine lv_iconst (v := 1) hx hb dX9_solvedUpTo_36 (by decide) ?_
          refine lv_goto (tgt := 41) hx hb dX9_solvedUpTo_37 (by decide) ?_
          refine lv_iadd hx hb dX9_solvedUpTo_41 ?_
          refine lv_istore_n (lv' := [(2, .int (x2 + 1)), (0, .ref (h 0)), (1, .int x1), (3, .int x3)]) hx hb dX9_solvedUpTo_42 rfl hl (by decide) rfl (fun ls hl => ?_)
          refine lv_iinc (v := (x3 + 1)) (lv' := [(3, .int (x3 + 1)), (2, .int (x2 + 1)), (0, .ref (h 0)), (1, .int x1)]) hx hb dX9_solvedUpTo_43 hl (k := 3) rfl rfl (by decide) rfl (fun ls hl => ?_)
          refine lv_goto (tgt := 4) hx hb dX9_solvedUpTo_46 (by decide) ?_
          exact ih _ _ _ _ _ _ hM _ _ hw _ (lv_sub hl [2, 3, 1, 0] rfl)
set_option maxRecDepth 100000 in
set_option maxHeartbeats 4000000 in
theorem c_X9_solvedUpTo (l : Launch) (D : va_G) (cA : Nat → ClassId) (tS : Nat → Nat) (A : Nat → Prop) (h : Nat → Nat) (F : va_W) (N : Nat) (x1 : Int32) (σ : Sg) (wd : Int64) (r0 : Int32) (hM : f_X9_solvedUpTo N x1 σ wd = some r0) : Ct l yX9_solvedUpTo (Cond.code yX9_solvedUpTo cX9_solvedUpTo 4 (some .int) :: bw) 2 44 D cA tS A [.ref (h 0), .int x1] (wM cA h σ wd ++ F) (some (.int r0)) (wM cA h σ wd ++ F) := by
  refine ct_of (by decide +kernel) (Nat.le_of_ble_eq_true rfl) ?_
  intro p e s m below meth c E hw ls hl
  replace E : Ev p cX9_solvedUpTo 4 (some .int) RX9 (Cond.code yX9_solvedUpTo cX9_solvedUpTo 4 (some .int) :: bw) D cA tS A s m _ meth c := E
  replace hl : lv_has ls 4 [(0, .ref (h 0)), (1, .int x1)] := hl
  have hx := E.1.1
  have hb := E.1.2.1
  unfold f_X9_solvedUpTo at hM
  refine lv_iconst (v := 0) hx hb dX9_solvedUpTo_0 (by decide) ?_
  refine lv_istore_n (lv' := [(2, .int 0), (0, .ref (h 0)), (1, .int x1)]) hx hb dX9_solvedUpTo_1 rfl hl (by decide) rfl (fun ls hl => ?_)
  refine lv_iconst (v := 0) hx hb dX9_solvedUpTo_2 (by decide) ?_
  refine lv_istore_n (lv' := [(3, .int 0), (2, .int 0), (0, .ref (h 0)), (1, .int x1)]) hx hb dX9_solvedUpTo_3 rfl hl (by decide) rfl (fun ls hl => ?_)
  exact s_X9_solvedUpTo_4 l D cA tS A h F N E N _ _ _ _ _ _ hM _ _ hw _ (lv_sub hl [2, 3, 1, 0] rfl)
set_option maxRecDepth 100000 in
set_option maxHeartbeats 4000000 in
theorem s_X9_resolvePercentile_67 (l : Launch) (D : va_G) (cA : Nat → ClassId) (tS : Nat → Nat) (A : Nat → Prop) (h : Nat → Nat) (F : va_W) (N : Nat) {p : Program} {e : Env} {s : State} {m : MethodId} {args : Array Value} {below : List Frame} {meth : Method} {c : Code} (E : Ev p cX9_resolvePercentile 7 (some .int) RX9 (Cond.code yX9_resolvePercentile cX9_resolvePercentile 7 (some .int) :: bw) D cA tS A s m args meth c) : ∀ (n : Nat) (x3 : Int32) (x4 : Int32) (x5 : Int32) (σ : Sg) (wd : Int64) (r0 : Int32) (hM : f_X9_resolvePercentile_67 N n x3 x4 x5 σ wd = some r0) (H : Heap) (locs : List Loc) (hw : Wd D A (wM cA h σ wd ++ F) s.heap H locs) (ls : Array Slot) (hl : lv_has ls 7 [(0, .ref (h 0)), (3, .int x3), (4, .int x4), (5, .int x5)]), W p l e ({ frames := 3, cells := 0, slots := 0, locals := 67 } : Room) s m args below meth c H locs 0 0 (MQ below (QW D A (some (.int r0)) (wM cA h σ wd ++ F)) args s 0 0 A) (F0 m 67 ls []) := by
  have hx := E.1.1
  have hb := E.1.2.1
  intro n
  induction n with
  | zero =>
    intro x3 x4 x5 σ wd r0 hM
    cases hM
  | succ n ih =>
    intro x3 x4 x5 σ wd r0 hM H locs hw ls hl
    rw [f_X9_resolvePercentile_67] at hM
    refine lv_iload hx hb dX9_resolvePercentile_67 (lv_at hl 3 rfl) ?_
    refine lv_aload_n hx hb dX9_resolvePercentile_69 rfl (lv_at hl 0 rfl) ?_
    refine q_get (C := RX9) (T := TX9) (N := 17) (ci := 9) E (fun w h => List.mem_cons_of_mem _ (inX9 w h)) hw 0 rfl rfl 0 (by decide) (List.mem_cons_of_mem _ tb_1145) (v := .ref (h 1)) rfl dX9_resolvePercentile_70 ?_
    refine lv_bipush (v := 56) hx hb dX9_resolvePercentile_73 (by decide) ?_
    refine q_ald E hw 1 (n := 4619) rfl (by decide +kernel) (x := (σ 1 (ix 56))) rfl dX9_resolvePercentile_75 ?_
    refine lv_icmp_ge (tgt := 135) hx hb dX9_resolvePercentile_76 (by decide) (fun c1 => ?_) (fun c1 => ?_)
    · replace hM := i_pos hM c1
      refine lv_iload hx hb dX9_resolvePercentile_135 (lv_at hl 2 rfl) ?_
      cases hM
      exact q_reti E hw dX9_resolvePercentile_137
    · replace hM := i_neg hM c1
      refine lv_aload_n hx hb dX9_resolvePercentile_79 rfl (lv_at hl 0 rfl) ?_
      refine lv_iload hx hb dX9_resolvePercentile_80 (lv_at hl 3 rfl) ?_
      refine lv_bipush (v := 8) hx hb dX9_resolvePercentile_82 (by decide) ?_
      obtain ⟨p2, h3, hM⟩ := b_some hM
      refine q_cv (As := [.int x5, .int 8]) (rest := []) E hw hl (c_X9_ticket l D cA tS A h F x5 8 σ wd p2 h3) 2 (bwV bw_c tb_1241 tb_1243 tb_51 tb_111 tb_1244) rfl (by decide +kernel) ⟨Nat.le_of_ble_eq_true rfl, Nat.le_of_ble_eq_true rfl⟩ 0 9 (T := TX9) (N := 17) rfl rfl rfl rfl (Nat.le_of_ble_eq_true rfl) ⟨Nat.zero_le _, Nat.zero_le _⟩ dX9_resolvePercentile_84 (fun H locs hw => ?_)
      refine lv_istore (lv' := [(6, .int p2), (0, .ref (h 0)), (3, .int x3), (4, .int x4), (5, .int x5)]) hx hb dX9_resolvePercentile_87 hl (by decide) rfl (fun ls hl => ?_)
      refine lv_aload_n hx hb dX9_resolvePercentile_89 rfl (lv_at hl 1 rfl) ?_
      refine lv_iload hx hb dX9_resolvePercentile_90 (lv_at hl 4 rfl) ?_
      refine lv_iconst (v := 3) hx hb dX9_resolvePercentile_92 (by decide) ?_
      obtain ⟨p4, h5, hM⟩ := b_some hM
      refine q_cv (As := [.int x5, .int 3]) (rest := []) E hw hl (c_X9_is l D cA tS A h F x5 3 σ wd p4 h5) 2 (bwV bw_c tb_1249 tb_1251 tb_53 tb_111 tb_1252) rfl (by decide +kernel) ⟨Nat.le_of_ble_eq_true rfl, Nat.le_of_ble_eq_true rfl⟩ 0 9 (T := TX9) (N := 17) rfl rfl rfl rfl (Nat.le_of_ble_eq_true rfl) ⟨Nat.zero_le _, Nat.zero_le _⟩ dX9_resolvePercentile_93 (fun H locs hw => ?_)
      refine lv_if_eq (tgt := 129) hx hb dX9_resolvePercentile_96 (by decide) (fun c6 => ?_) (fun c6 => ?_)
      · replace hM := i_pos hM c6
        refine lv_iinc (v := (x5 + 1)) (lv' := [(5, .int (x5 + 1)), (6, .int p2), (0, .ref (h 0)), (3, .int x3), (4, .int x4)]) hx hb dX9_resolvePercentile_129 hl (k := 4) rfl rfl (by decide) rfl (fun ls hl => ?_)
        refine lv_goto (tgt := 67) hx hb dX9_resolvePercentile_132 (by decide) ?_
        exact ih _ _ _ _ _ _ hM _ _ hw _ (lv_sub hl [2, 3, 4, 0] rfl)
      · replace hM := i_neg hM c6
        refine lv_aload_n hx hb dX9_resolvePercentile_99 rfl (lv_at hl 1 rfl) ?_
        refine lv_iload hx hb dX9_resolvePercentile_100 (lv_at hl 0 rfl) ?_
        obtain ⟨p7, h8, hM⟩ := b_some hM
        refine q_cv (As := [.int p2]) (rest := []) E hw hl (c_X9_solvedUpTo l D cA tS A h F N p2 σ wd p7 h8) 1 (bwV bw_c tb_1537 tb_1539 tb_84 tb_111 tb_1540) rfl (by decide +kernel) ⟨Nat.le_of_ble_eq_true rfl, Nat.le_of_ble_eq_true rfl⟩ 0 9 (T := TX9) (N := 17) rfl rfl rfl rfl (Nat.le_of_ble_eq_true rfl) ⟨Nat.zero_le _, Nat.zero_le _⟩ dX9_resolvePercentile_102 (fun H locs hw => ?_)
        refine lv_iload_n hx hb dX9_resolvePercentile_105 rfl (lv_at hl 2 rfl) ?_
        refine lv_icmp_lt (tgt := 129) hx hb dX9_resolvePercentile_106 (by decide) (fun c9 => ?_) (fun c9 => ?_)
        · replace hM := i_pos hM c9
          refine lv_iinc (v := (x5 + 1)) (lv' := [(5, .int (x5 + 1)), (6, .int p2), (0, .ref (h 0)), (3, .int x3), (4, .int x4)]) hx hb dX9_resolvePercentile_129 hl (k := 4) rfl rfl (by decide) rfl (fun ls hl => ?_)
          refine lv_goto (tgt := 67) hx hb dX9_resolvePercentile_132 (by decide) ?_
          exact ih _ _ _ _ _ _ hM _ _ hw _ (lv_sub hl [2, 3, 4, 0] rfl)
        · replace hM := i_neg hM c9
          refine lv_iload hx hb dX9_resolvePercentile_109 (lv_at hl 3 rfl) ?_
          refine lv_iconst (v := (-1)) hx hb dX9_resolvePercentile_111 (by decide) ?_
          refine lv_icmp_ne (tgt := 120) hx hb dX9_resolvePercentile_112 (by decide) (fun c10 => ?_) (fun c10 => ?_)
          · replace hM := i_neg hM c10
            refine lv_iload hx hb dX9_resolvePercentile_120 (lv_at hl 3 rfl) ?_
            refine lv_iload hx hb dX9_resolvePercentile_122 (lv_at hl 0 rfl) ?_
            refine va_mmin hx hb (E.1.2.2.1.trans hl.1.symm) E.1.2.2.2.1 (E.1.2.2.2.2 _ (List.mem_cons_of_mem _ tb_1330)) (E.1.2.2.2.2 _ (List.mem_cons_of_mem _ tb_616)) (E.1.2.2.2.2 _ (List.mem_cons_of_mem _ tb_106)) (E.1.2.2.2.2 _ (List.mem_cons_of_mem _ tb_617)) (Nat.le_of_ble_eq_true rfl) (Nat.le_of_ble_eq_true rfl) (Nat.zero_le _) (Nat.zero_le _) dX9_resolvePercentile_124 ?_
            refine lv_istore (lv' := [(4, .int (if p2 < x4 then p2 else x4)), (6, .int p2), (0, .ref (h 0)), (3, .int x3), (5, .int x5)]) hx hb dX9_resolvePercentile_127 hl (by decide) rfl (fun ls hl => ?_)
            refine lv_iinc (v := (x5 + 1)) (lv' := [(5, .int (x5 + 1)), (4, .int (if p2 < x4 then p2 else x4)), (6, .int p2), (0, .ref (h 0)), (3, .int x3)]) hx hb dX9_resolvePercentile_129 hl (k := 4) rfl rfl (by decide) rfl (fun ls hl => ?_)
            refine lv_goto (tgt := 67) hx hb dX9_resolvePercentile_132 (by decide) ?_
            exact ih _ _ _ _ _ _ hM _ _ hw _ (lv_sub hl [3, 4, 1, 0] rfl)
          · replace hM := i_pos hM c10
            refine lv_iload hx hb dX9_resolvePercentile_115 (lv_at hl 0 rfl) ?_
            refine lv_goto (tgt := 127) hx hb dX9_resolvePercentile_117 (by decide) ?_
            refine lv_istore (lv' := [(4, .int p2), (6, .int p2), (0, .ref (h 0)), (3, .int x3), (5, .int x5)]) hx hb dX9_resolvePercentile_127 hl (by decide) rfl (fun ls hl => ?_)
            refine lv_iinc (v := (x5 + 1)) (lv' := [(5, .int (x5 + 1)), (4, .int p2), (6, .int p2), (0, .ref (h 0)), (3, .int x3)]) hx hb dX9_resolvePercentile_129 hl (k := 4) rfl rfl (by decide) rfl (fun ls hl => ?_)
            refine lv_goto (tgt := 67) hx hb dX9_resolvePercentile_132 (by decide) ?_
            exact ih _ _ _ _ _ _ hM _ _ hw _ (lv_sub hl [3, 4, 1, 0] rfl)
set_option maxRecDepth 100000 in
set_option maxHeartbeats 4000000 in
theorem s_X9_resolvePercentile_17 (l : Launch) (D : va_G) (cA : Nat → ClassId) (tS : Nat → Nat) (A : Nat → Prop) (h : Nat → Nat) (F : va_W) (N : Nat) {p : Program} {e : Env} {s : State} {m : MethodId} {args : Array Value} {below : List Frame} {meth : Method} {c : Code} (E : Ev p cX9_resolvePercentile 7 (some .int) RX9 (Cond.code yX9_resolvePercentile cX9_resolvePercentile 7 (some .int) :: bw) D cA tS A s m args meth c) : ∀ (n : Nat) (x1 : Int32) (x2 : Int32) (x3 : Int32) (σ : Sg) (wd : Int64) (r0 : Int32) (hM : f_X9_resolvePercentile_17 N n x1 x2 x3 σ wd = some r0) (H : Heap) (locs : List Loc) (hw : Wd D A (wM cA h σ wd ++ F) s.heap H locs) (ls : Array Slot) (hl : lv_has ls 7 [(0, .ref (h 0)), (1, .int x1), (2, .int x2), (3, .int x3)]), W p l e ({ frames := 3, cells := 0, slots := 0, locals := 67 } : Room) s m args below meth c H locs 0 0 (MQ below (QW D A (some (.int r0)) (wM cA h σ wd ++ F)) args s 0 0 A) (F0 m 17 ls []) := by
  have hx := E.1.1
  have hb := E.1.2.1
  intro n
  induction n with
  | zero =>
    intro x1 x2 x3 σ wd r0 hM
    cases hM
  | succ n ih =>
    intro x1 x2 x3 σ wd r0 hM H locs hw ls hl
    rw [f_X9_resolvePercentile_17] at hM
    refine lv_iload_n hx hb dX9_resolvePercentile_17 rfl (lv_at hl 3 rfl) ?_
    refine lv_aload_n hx hb dX9_resolvePercentile_18 rfl (lv_at hl 0 rfl) ?_
    refine q_get (C := RX9) (T := TX9) (N := 17) (ci := 9) E (fun w h => List.mem_cons_of_mem _ (inX9 w h)) hw 0 rfl rfl 0 (by decide) (List.mem_cons_of_mem _ tb_1145) (v := .ref (h 1)) rfl dX9_resolvePercentile_19 ?_
    refine lv_bipush (v := 56) hx hb dX9_resolvePercentile_22 (by decide) ?_
    refine q_ald E hw 1 (n := 4619) rfl (by decide +kernel) (x := (σ 1 (ix 56))) rfl dX9_resolvePercentile_24 ?_
    refine lv_icmp_ge (tgt := 51) hx hb dX9_resolvePercentile_25 (by decide) (fun c1 => ?_) (fun c1 => ?_)
    · replace hM := i_pos hM c1
      refine lv_iload_n hx hb dX9_resolvePercentile_51 rfl (lv_at hl 1 rfl) ?_
      refine lv_iload_n hx hb dX9_resolvePercentile_52 rfl (lv_at hl 2 rfl) ?_
      refine lv_imul hx hb dX9_resolvePercentile_53 ?_
      refine lv_bipush (v := 99) hx hb dX9_resolvePercentile_54 (by decide) ?_
      refine lv_iadd hx hb dX9_resolvePercentile_56 ?_
      refine lv_bipush (v := 100) hx hb dX9_resolvePercentile_57 (by decide) ?_
      refine lv_idiv hx hb dX9_resolvePercentile_59 (by decide) ?_
      refine lv_istore_n (lv' := [(3, .int (((x1 * x2) + 99) / 100)), (0, .ref (h 0)), (1, .int x1), (2, .int x2)]) hx hb dX9_resolvePercentile_60 rfl hl (by decide) rfl (fun ls hl => ?_)
      refine lv_iconst (v := (-1)) hx hb dX9_resolvePercentile_61 (by decide) ?_
      refine lv_istore (lv' := [(4, .int (-1)), (3, .int (((x1 * x2) + 99) / 100)), (0, .ref (h 0)), (1, .int x1), (2, .int x2)]) hx hb dX9_resolvePercentile_62 hl (by decide) rfl (fun ls hl => ?_)
      refine lv_iconst (v := 0) hx hb dX9_resolvePercentile_64 (by decide) ?_
      refine lv_istore (lv' := [(5, .int 0), (4, .int (-1)), (3, .int (((x1 * x2) + 99) / 100)), (0, .ref (h 0)), (1, .int x1), (2, .int x2)]) hx hb dX9_resolvePercentile_65 hl (by decide) rfl (fun ls hl => ?_)
      exact s_X9_resolvePercentile_67 l D cA tS A h F N E N _ _ _ _ _ _ hM _ _ hw _ (lv_sub hl [3, 2, 1, 0] rfl)
    · replace hM := i_neg hM c1
      refine lv_iload_n hx hb dX9_resolvePercentile_28 rfl (lv_at hl 2 rfl) ?_
      refine lv_aload_n hx hb dX9_resolvePercentile_29 rfl (lv_at hl 0 rfl) ?_
      refine lv_iload_n hx hb dX9_resolvePercentile_30 rfl (lv_at hl 3 rfl) ?_
      refine lv_iconst (v := 3) hx hb dX9_resolvePercentile_31 (by decide) ?_
      obtain ⟨p2, h3, hM⟩ := b_some hM
      refine q_cv (As := [.int x3, .int 3]) (rest := [.int x2]) E hw hl (c_X9_is l D cA tS A h F x3 3 σ wd p2 h3) 2 (bwV bw_c tb_1249 tb_1251 tb_53 tb_111 tb_1252) rfl (by decide +kernel) ⟨Nat.le_of_ble_eq_true rfl, Nat.le_of_ble_eq_true rfl⟩ 0 9 (T := TX9) (N := 17) rfl rfl rfl rfl (Nat.le_of_ble_eq_true rfl) ⟨Nat.zero_le _, Nat.zero_le _⟩ dX9_resolvePercentile_32 (fun H locs hw => ?_)
      refine lv_if_eq (tgt := 42) hx hb dX9_resolvePercentile_35 (by decide) (fun c4 => ?_) (fun c4 => ?_)
      · replace hM := i_pos hM c4
        refine lv_iconst (v := 0) hx hb dX9_resolvePercentile_42 (by decide) ?_
        refine lv_iadd hx hb dX9_resolvePercentile_43 ?_
        refine lv_istore_n (lv' := [(2, .int (x2 + 0)), (0, .ref (h 0)), (1, .int x1), (3, .int x3)]) hx hb dX9_resolvePercentile_44 rfl hl (by decide) rfl (fun ls hl => ?_)
        refine lv_iinc (v := (x3 + 1)) (lv' := [(3, .int (x3 + 1)), (2, .int (x2 + 0)), (0, .ref (h 0)), (1, .int x1)]) hx hb dX9_resolvePercentile_45 hl (k := 3) rfl rfl (by decide) rfl (fun ls hl => ?_)
        refine lv_goto (tgt := 17) hx hb dX9_resolvePercentile_48 (by decide) ?_
        exact ih _ _ _ _ _ _ hM _ _ hw _ (lv_sub hl [2, 3, 1, 0] rfl)
      · replace hM := i_neg hM c4
        refine lv_iconst (v := 1) hx hb dX9_resolvePercentile_38 (by decide) ?_
        refine lv_goto (tgt := 43) hx hb dX9_resolvePercentile_39 (by decide) ?_
        refine lv_iadd hx hb dX9_resolvePercentile_43 ?_
        refine lv_istore_n (lv' := [(2, .int (x2 + 1)), (0, .ref (h 0)), (1, .int x1), (3, .int x3)]) hx hb dX9_resolvePercentile_44 rfl hl (by decide) rfl (fun ls hl => ?_)
        refine lv_iinc (v := (x3 + 1)) (lv' := [(3, .int (x3 + 1)), (2, .int (x2 + 1)), (0, .ref (h 0)), (1, .int x1)]) hx hb dX9_resolvePercentile_45 hl (k := 3) rfl rfl (by decide) rfl (fun ls hl => ?_)
        refine lv_goto (tgt := 17) hx hb dX9_resolvePercentile_48 (by decide) ?_
        exact ih _ _ _ _ _ _ hM _ _ hw _ (lv_sub hl [2, 3, 1, 0] rfl)
set_option maxRecDepth 100000 in
set_option maxHeartbeats 4000000 in
theorem c_X9_resolvePercentile (l : Launch) (D : va_G) (cA : Nat → ClassId) (tS : Nat → Nat) (A : Nat → Prop) (h : Nat → Nat) (F : va_W) (N : Nat) (x1 : Int32) (σ : Sg) (wd : Int64) (r0 : Int32) (hM : f_X9_resolvePercentile N x1 σ wd = some r0) : Ct l yX9_resolvePercentile (Cond.code yX9_resolvePercentile cX9_resolvePercentile 7 (some .int) :: bw) 3 67 D cA tS A [.ref (h 0), .int x1] (wM cA h σ wd ++ F) (some (.int r0)) (wM cA h σ wd ++ F) := by
  refine ct_of (by decide +kernel) (Nat.le_of_ble_eq_true rfl) ?_
  intro p e s m below meth c E hw ls hl
  replace E : Ev p cX9_resolvePercentile 7 (some .int) RX9 (Cond.code yX9_resolvePercentile cX9_resolvePercentile 7 (some .int) :: bw) D cA tS A s m _ meth c := E
  replace hl : lv_has ls 7 [(0, .ref (h 0)), (1, .int x1)] := hl
  have hx := E.1.1
  have hb := E.1.2.1
  unfold f_X9_resolvePercentile at hM
  refine lv_iload_n hx hb dX9_resolvePercentile_0 rfl (lv_at hl 1 rfl) ?_
  refine lv_iconst (v := 1) hx hb dX9_resolvePercentile_1 (by decide) ?_
  refine lv_bipush (v := 100) hx hb dX9_resolvePercentile_2 (by decide) ?_
  obtain ⟨p1, h2, hM⟩ := b_some hM
  refine q_cs (As := [.int x1, .int 1, .int 100]) (rest := []) E hw hl (c_X9_isBetween l D cA tS A (wM cA h σ wd ++ F) x1 1 100 p1 h2) 3 (bwS bw_c tb_1212 tb_1213 tb_111 tb_1214) rfl (by decide +kernel) ⟨Nat.le_of_ble_eq_true rfl, Nat.le_of_ble_eq_true rfl⟩ rfl rfl (Nat.le_of_ble_eq_true rfl) ⟨Nat.zero_le _, Nat.zero_le _⟩ dX9_resolvePercentile_4 (fun H locs hw => ?_)
  refine lv_if_ne (tgt := 13) hx hb dX9_resolvePercentile_7 (by decide) (fun c3 => ?_) (fun c3 => ?_)
  · replace hM := i_neg hM c3
    refine lv_iconst (v := 0) hx hb dX9_resolvePercentile_13 (by decide) ?_
    refine lv_istore_n (lv' := [(2, .int 0), (0, .ref (h 0)), (1, .int x1)]) hx hb dX9_resolvePercentile_14 rfl hl (by decide) rfl (fun ls hl => ?_)
    refine lv_iconst (v := 0) hx hb dX9_resolvePercentile_15 (by decide) ?_
    refine lv_istore_n (lv' := [(3, .int 0), (2, .int 0), (0, .ref (h 0)), (1, .int x1)]) hx hb dX9_resolvePercentile_16 rfl hl (by decide) rfl (fun ls hl => ?_)
    exact s_X9_resolvePercentile_17 l D cA tS A h F N E N _ _ _ _ _ _ hM _ _ hw _ (lv_sub hl [2, 3, 1, 0] rfl)
  · replace hM := i_pos hM c3
    refine lv_bipush (v := (-4)) hx hb dX9_resolvePercentile_10 (by decide) ?_
    cases hM
    exact q_reti E hw dX9_resolvePercentile_12
set_option maxRecDepth 100000 in
set_option maxHeartbeats 4000000 in
theorem s_X9_copyState_state_backup_3 (l : Launch) (D : va_G) (cA : Nat → ClassId) (tS : Nat → Nat) (A : Nat → Prop) (h : Nat → Nat) (F : va_W) (N : Nat) {p : Program} {e : Env} {s : State} {m : MethodId} {args : Array Value} {below : List Frame} {meth : Method} {c : Code} (E : Ev p cX9_copyState 6 none RX9 (Cond.code yX9_copyState cX9_copyState 6 none :: bw) D cA tS A s m args meth c) : ∀ (n : Nat) (x2 : Int32) (x4 : Int32) (x5 : Int32) (σ : Sg) (wd : Int64) (s0 : Sg) (hM : f_X9_copyState_state_backup_3 N n x2 x4 x5 σ wd = some s0) (H : Heap) (locs : List Loc) (hw : Wd D A (wM cA h σ wd ++ F) s.heap H locs) (ls : Array Slot) (hl : lv_has ls 6 [(1, .ref (h 1)), (2, .int x2), (3, .ref (h 2)), (4, .int x4), (5, .int x5)]), W p l e ({ frames := 0, cells := 0, slots := 0, locals := 0 } : Room) s m args below meth c H locs 0 0 (MQ below (QW D A none (wM cA h s0 wd ++ F)) args s 0 0 A) (F0 m 3 ls []) := by
  have hx := E.1.1
  have hb := E.1.2.1
  intro n
  induction n with
  | zero =>
    intro x2 x4 x5 σ wd s0 hM
    cases hM
  | succ n ih =>
    intro x2 x4 x5 σ wd s0 hM H locs hw ls hl
    rw [f_X9_copyState_state_backup_3] at hM
    refine lv_iload hx hb dX9_copyState_3 (lv_at hl 4 rfl) ?_
    refine lv_sipush (v := 4619) hx hb dX9_copyState_5 (by decide) ?_
    refine lv_icmp_ge (tgt := 30) hx hb dX9_copyState_8 (by decide) (fun c1 => ?_) (fun c1 => ?_)
    · replace hM := i_pos hM c1
      cases hM
      exact q_retv E hw dX9_copyState_30
    · replace hM := i_neg hM c1
      refine lv_aload_n hx hb dX9_copyState_11 rfl (lv_at hl 2 rfl) ?_
      refine lv_iload hx hb dX9_copyState_12 (lv_at hl 3 rfl) ?_
      refine lv_iload hx hb dX9_copyState_14 (lv_at hl 4 rfl) ?_
      refine lv_iadd hx hb dX9_copyState_16 ?_
      refine lv_aload_n hx hb dX9_copyState_17 rfl (lv_at hl 0 rfl) ?_
      refine lv_iload_n hx hb dX9_copyState_18 rfl (lv_at hl 1 rfl) ?_
      refine lv_iload hx hb dX9_copyState_19 (lv_at hl 4 rfl) ?_
      refine lv_iadd hx hb dX9_copyState_21 ?_
      obtain ⟨g2, hM⟩ := g_some hM
      refine q_ald E hw 1 (n := 4619) rfl g2 (x := (σ 1 (ix (x2 + x5)))) rfl dX9_copyState_22 ?_
      obtain ⟨g3, hM⟩ := g_some hM
      refine q_ast E hw 2 (n := 4619) rfl g3 (wM cA h (up σ 2 (ix (x4 + x5)) (σ 1 (ix (x2 + x5)))) wd ++ F) st_M_2 dX9_copyState_23 (fun H locs hw => ?_)
      refine lv_iinc (v := (x5 + 1)) (lv' := [(5, .int (x5 + 1)), (1, .ref (h 1)), (2, .int x2), (3, .ref (h 2)), (4, .int x4)]) hx hb dX9_copyState_24 hl (k := 4) rfl rfl (by decide) rfl (fun ls hl => ?_)
      refine lv_goto (tgt := 3) hx hb dX9_copyState_27 (by decide) ?_
      exact ih _ _ _ _ _ _ hM _ _ hw _ (lv_sub hl [1, 2, 3, 4, 0] rfl)
set_option maxRecDepth 100000 in
set_option maxHeartbeats 4000000 in
theorem c_X9_copyState_state_backup (l : Launch) (D : va_G) (cA : Nat → ClassId) (tS : Nat → Nat) (A : Nat → Prop) (h : Nat → Nat) (F : va_W) (N : Nat) (x2 : Int32) (x4 : Int32) (σ : Sg) (wd : Int64) (s0 : Sg) (hM : f_X9_copyState_state_backup N x2 x4 σ wd = some s0) : Ct l yX9_copyState (Cond.code yX9_copyState cX9_copyState 6 none :: bw) 0 0 D cA tS A [.ref (h 0), .ref (h 1), .int x2, .ref (h 2), .int x4] (wM cA h σ wd ++ F) none (wM cA h s0 wd ++ F) := by
  refine ct_of (by decide +kernel) (Nat.le_of_ble_eq_true rfl) ?_
  intro p e s m below meth c E hw ls hl
  replace E : Ev p cX9_copyState 6 none RX9 (Cond.code yX9_copyState cX9_copyState 6 none :: bw) D cA tS A s m _ meth c := E
  replace hl : lv_has ls 6 [(0, .ref (h 0)), (1, .ref (h 1)), (2, .int x2), (3, .ref (h 2)), (4, .int x4)] := hl
  have hx := E.1.1
  have hb := E.1.2.1
  unfold f_X9_copyState_state_backup at hM
  refine lv_iconst (v := 0) hx hb dX9_copyState_0 (by decide) ?_
  refine lv_istore (lv' := [(5, .int 0), (0, .ref (h 0)), (1, .ref (h 1)), (2, .int x2), (3, .ref (h 2)), (4, .int x4)]) hx hb dX9_copyState_1 hl (by decide) rfl (fun ls hl => ?_)
  exact s_X9_copyState_state_backup_3 l D cA tS A h F N E N _ _ _ _ _ _ hM _ _ hw _ (lv_sub hl [2, 3, 4, 5, 0] rfl)
set_option maxRecDepth 100000 in
set_option maxHeartbeats 4000000 in
theorem s_X9_copyState_backup_state_3 (l : Launch) (D : va_G) (cA : Nat → ClassId) (tS : Nat → Nat) (A : Nat → Prop) (h : Nat → Nat) (F : va_W) (N : Nat) {p : Program} {e : Env} {s : State} {m : MethodId} {args : Array Value} {below : List Frame} {meth : Method} {c : Code} (E : Ev p cX9_copyState 6 none RX9 (Cond.code yX9_copyState cX9_copyState 6 none :: bw) D cA tS A s m args meth c) : ∀ (n : Nat) (x2 : Int32) (x4 : Int32) (x5 : Int32) (σ : Sg) (wd : Int64) (s0 : Sg) (hM : f_X9_copyState_backup_state_3 N n x2 x4 x5 σ wd = some s0) (H : Heap) (locs : List Loc) (hw : Wd D A (wM cA h σ wd ++ F) s.heap H locs) (ls : Array Slot) (hl : lv_has ls 6 [(1, .ref (h 2)), (2, .int x2), (3, .ref (h 1)), (4, .int x4), (5, .int x5)]), W p l e ({ frames := 0, cells := 0, slots := 0, locals := 0 } : Room) s m args below meth c H locs 0 0 (MQ below (QW D A none (wM cA h s0 wd ++ F)) args s 0 0 A) (F0 m 3 ls []) := by
  have hx := E.1.1
  have hb := E.1.2.1
  intro n
  induction n with
  | zero =>
    intro x2 x4 x5 σ wd s0 hM
    cases hM
  | succ n ih =>
    intro x2 x4 x5 σ wd s0 hM H locs hw ls hl
    rw [f_X9_copyState_backup_state_3] at hM
    refine lv_iload hx hb dX9_copyState_3 (lv_at hl 4 rfl) ?_
    refine lv_sipush (v := 4619) hx hb dX9_copyState_5 (by decide) ?_
    refine lv_icmp_ge (tgt := 30) hx hb dX9_copyState_8 (by decide) (fun c1 => ?_) (fun c1 => ?_)
    · replace hM := i_pos hM c1
      cases hM
      exact q_retv E hw dX9_copyState_30
    · replace hM := i_neg hM c1
      refine lv_aload_n hx hb dX9_copyState_11 rfl (lv_at hl 2 rfl) ?_
      refine lv_iload hx hb dX9_copyState_12 (lv_at hl 3 rfl) ?_
      refine lv_iload hx hb dX9_copyState_14 (lv_at hl 4 rfl) ?_
      refine lv_iadd hx hb dX9_copyState_16 ?_
      refine lv_aload_n hx hb dX9_copyState_17 rfl (lv_at hl 0 rfl) ?_
      refine lv_iload_n hx hb dX9_copyState_18 rfl (lv_at hl 1 rfl) ?_
      refine lv_iload hx hb dX9_copyState_19 (lv_at hl 4 rfl) ?_
      refine lv_iadd hx hb dX9_copyState_21 ?_
      obtain ⟨g2, hM⟩ := g_some hM
      refine q_ald E hw 2 (n := 4619) rfl g2 (x := (σ 2 (ix (x2 + x5)))) rfl dX9_copyState_22 ?_
      obtain ⟨g3, hM⟩ := g_some hM
      refine q_ast E hw 1 (n := 4619) rfl g3 (wM cA h (up σ 1 (ix (x4 + x5)) (σ 2 (ix (x2 + x5)))) wd ++ F) st_M_1 dX9_copyState_23 (fun H locs hw => ?_)
      refine lv_iinc (v := (x5 + 1)) (lv' := [(5, .int (x5 + 1)), (1, .ref (h 2)), (2, .int x2), (3, .ref (h 1)), (4, .int x4)]) hx hb dX9_copyState_24 hl (k := 4) rfl rfl (by decide) rfl (fun ls hl => ?_)
      refine lv_goto (tgt := 3) hx hb dX9_copyState_27 (by decide) ?_
      exact ih _ _ _ _ _ _ hM _ _ hw _ (lv_sub hl [1, 2, 3, 4, 0] rfl)
set_option maxRecDepth 100000 in
set_option maxHeartbeats 4000000 in
theorem c_X9_copyState_backup_state (l : Launch) (D : va_G) (cA : Nat → ClassId) (tS : Nat → Nat) (A : Nat → Prop) (h : Nat → Nat) (F : va_W) (N : Nat) (x2 : Int32) (x4 : Int32) (σ : Sg) (wd : Int64) (s0 : Sg) (hM : f_X9_copyState_backup_state N x2 x4 σ wd = some s0) : Ct l yX9_copyState (Cond.code yX9_copyState cX9_copyState 6 none :: bw) 0 0 D cA tS A [.ref (h 0), .ref (h 2), .int x2, .ref (h 1), .int x4] (wM cA h σ wd ++ F) none (wM cA h s0 wd ++ F) := by
  refine ct_of (by decide +kernel) (Nat.le_of_ble_eq_true rfl) ?_
  intro p e s m below meth c E hw ls hl
  replace E : Ev p cX9_copyState 6 none RX9 (Cond.code yX9_copyState cX9_copyState 6 none :: bw) D cA tS A s m _ meth c := E
  replace hl : lv_has ls 6 [(0, .ref (h 0)), (1, .ref (h 2)), (2, .int x2), (3, .ref (h 1)), (4, .int x4)] := hl
  have hx := E.1.1
  have hb := E.1.2.1
  unfold f_X9_copyState_backup_state at hM
  refine lv_iconst (v := 0) hx hb dX9_copyState_0 (by decide) ?_
  refine lv_istore (lv' := [(5, .int 0), (0, .ref (h 0)), (1, .ref (h 2)), (2, .int x2), (3, .ref (h 1)), (4, .int x4)]) hx hb dX9_copyState_1 hl (by decide) rfl (fun ls hl => ?_)
  exact s_X9_copyState_backup_state_3 l D cA tS A h F N E N _ _ _ _ _ _ hM _ _ hw _ (lv_sub hl [2, 3, 4, 5, 0] rfl)
set_option maxRecDepth 100000 in
set_option maxHeartbeats 4000000 in
theorem s_X9_copyState_state_saved_3 (l : Launch) (D : va_G) (cA : Nat → ClassId) (tS : Nat → Nat) (A : Nat → Prop) (h : Nat → Nat) (F : va_W) (N : Nat) {p : Program} {e : Env} {s : State} {m : MethodId} {args : Array Value} {below : List Frame} {meth : Method} {c : Code} (E : Ev p cX9_copyState 6 none RX9 (Cond.code yX9_copyState cX9_copyState 6 none :: bw) D cA tS A s m args meth c) : ∀ (n : Nat) (x2 : Int32) (x4 : Int32) (x5 : Int32) (σ : Sg) (wd : Int64) (s0 : Sg) (hM : f_X9_copyState_state_saved_3 N n x2 x4 x5 σ wd = some s0) (H : Heap) (locs : List Loc) (hw : Wd D A (wM cA h σ wd ++ F) s.heap H locs) (ls : Array Slot) (hl : lv_has ls 6 [(1, .ref (h 1)), (2, .int x2), (3, .ref (h 3)), (4, .int x4), (5, .int x5)]), W p l e ({ frames := 0, cells := 0, slots := 0, locals := 0 } : Room) s m args below meth c H locs 0 0 (MQ below (QW D A none (wM cA h s0 wd ++ F)) args s 0 0 A) (F0 m 3 ls []) := by
  have hx := E.1.1
  have hb := E.1.2.1
  intro n
  induction n with
  | zero =>
    intro x2 x4 x5 σ wd s0 hM
    cases hM
  | succ n ih =>
    intro x2 x4 x5 σ wd s0 hM H locs hw ls hl
    rw [f_X9_copyState_state_saved_3] at hM
    refine lv_iload hx hb dX9_copyState_3 (lv_at hl 4 rfl) ?_
    refine lv_sipush (v := 4619) hx hb dX9_copyState_5 (by decide) ?_
    refine lv_icmp_ge (tgt := 30) hx hb dX9_copyState_8 (by decide) (fun c1 => ?_) (fun c1 => ?_)
    · replace hM := i_pos hM c1
      cases hM
      exact q_retv E hw dX9_copyState_30
    · replace hM := i_neg hM c1
      refine lv_aload_n hx hb dX9_copyState_11 rfl (lv_at hl 2 rfl) ?_
      refine lv_iload hx hb dX9_copyState_12 (lv_at hl 3 rfl) ?_
      refine lv_iload hx hb dX9_copyState_14 (lv_at hl 4 rfl) ?_
      refine lv_iadd hx hb dX9_copyState_16 ?_
      refine lv_aload_n hx hb dX9_copyState_17 rfl (lv_at hl 0 rfl) ?_
      refine lv_iload_n hx hb dX9_copyState_18 rfl (lv_at hl 1 rfl) ?_
      refine lv_iload hx hb dX9_copyState_19 (lv_at hl 4 rfl) ?_
      refine lv_iadd hx hb dX9_copyState_21 ?_
      obtain ⟨g2, hM⟩ := g_some hM
      refine q_ald E hw 1 (n := 4619) rfl g2 (x := (σ 1 (ix (x2 + x5)))) rfl dX9_copyState_22 ?_
      obtain ⟨g3, hM⟩ := g_some hM
      refine q_ast E hw 3 (n := 9238) rfl g3 (wM cA h (up σ 3 (ix (x4 + x5)) (σ 1 (ix (x2 + x5)))) wd ++ F) st_M_3 dX9_copyState_23 (fun H locs hw => ?_)
      refine lv_iinc (v := (x5 + 1)) (lv' := [(5, .int (x5 + 1)), (1, .ref (h 1)), (2, .int x2), (3, .ref (h 3)), (4, .int x4)]) hx hb dX9_copyState_24 hl (k := 4) rfl rfl (by decide) rfl (fun ls hl => ?_)
      refine lv_goto (tgt := 3) hx hb dX9_copyState_27 (by decide) ?_
      exact ih _ _ _ _ _ _ hM _ _ hw _ (lv_sub hl [1, 2, 3, 4, 0] rfl)
set_option maxRecDepth 100000 in
set_option maxHeartbeats 4000000 in
theorem c_X9_copyState_state_saved (l : Launch) (D : va_G) (cA : Nat → ClassId) (tS : Nat → Nat) (A : Nat → Prop) (h : Nat → Nat) (F : va_W) (N : Nat) (x2 : Int32) (x4 : Int32) (σ : Sg) (wd : Int64) (s0 : Sg) (hM : f_X9_copyState_state_saved N x2 x4 σ wd = some s0) : Ct l yX9_copyState (Cond.code yX9_copyState cX9_copyState 6 none :: bw) 0 0 D cA tS A [.ref (h 0), .ref (h 1), .int x2, .ref (h 3), .int x4] (wM cA h σ wd ++ F) none (wM cA h s0 wd ++ F) := by
  refine ct_of (by decide +kernel) (Nat.le_of_ble_eq_true rfl) ?_
  intro p e s m below meth c E hw ls hl
  replace E : Ev p cX9_copyState 6 none RX9 (Cond.code yX9_copyState cX9_copyState 6 none :: bw) D cA tS A s m _ meth c := E
  replace hl : lv_has ls 6 [(0, .ref (h 0)), (1, .ref (h 1)), (2, .int x2), (3, .ref (h 3)), (4, .int x4)] := hl
  have hx := E.1.1
  have hb := E.1.2.1
  unfold f_X9_copyState_state_saved at hM
  refine lv_iconst (v := 0) hx hb dX9_copyState_0 (by decide) ?_
  refine lv_istore (lv' := [(5, .int 0), (0, .ref (h 0)), (1, .ref (h 1)), (2, .int x2), (3, .ref (h 3)), (4, .int x4)]) hx hb dX9_copyState_1 hl (by decide) rfl (fun ls hl => ?_)
  exact s_X9_copyState_state_saved_3 l D cA tS A h F N E N _ _ _ _ _ _ hM _ _ hw _ (lv_sub hl [2, 3, 4, 5, 0] rfl)
set_option maxRecDepth 100000 in
set_option maxHeartbeats 4000000 in
theorem s_X9_copyState_saved_state_3 (l : Launch) (D : va_G) (cA : Nat → ClassId) (tS : Nat → Nat) (A : Nat → Prop) (h : Nat → Nat) (F : va_W) (N : Nat) {p : Program} {e : Env} {s : State} {m : MethodId} {args : Array Value} {below : List Frame} {meth : Method} {c : Code} (E : Ev p cX9_copyState 6 none RX9 (Cond.code yX9_copyState cX9_copyState 6 none :: bw) D cA tS A s m args meth c) : ∀ (n : Nat) (x2 : Int32) (x4 : Int32) (x5 : Int32) (σ : Sg) (wd : Int64) (s0 : Sg) (hM : f_X9_copyState_saved_state_3 N n x2 x4 x5 σ wd = some s0) (H : Heap) (locs : List Loc) (hw : Wd D A (wM cA h σ wd ++ F) s.heap H locs) (ls : Array Slot) (hl : lv_has ls 6 [(1, .ref (h 3)), (2, .int x2), (3, .ref (h 1)), (4, .int x4), (5, .int x5)]), W p l e ({ frames := 0, cells := 0, slots := 0, locals := 0 } : Room) s m args below meth c H locs 0 0 (MQ below (QW D A none (wM cA h s0 wd ++ F)) args s 0 0 A) (F0 m 3 ls []) := by
  have hx := E.1.1
  have hb := E.1.2.1
  intro n
  induction n with
  | zero =>
    intro x2 x4 x5 σ wd s0 hM
    cases hM
  | succ n ih =>
    intro x2 x4 x5 σ wd s0 hM H locs hw ls hl
    rw [f_X9_copyState_saved_state_3] at hM
    refine lv_iload hx hb dX9_copyState_3 (lv_at hl 4 rfl) ?_
    refine lv_sipush (v := 4619) hx hb dX9_copyState_5 (by decide) ?_
    refine lv_icmp_ge (tgt := 30) hx hb dX9_copyState_8 (by decide) (fun c1 => ?_) (fun c1 => ?_)
    · replace hM := i_pos hM c1
      cases hM
      exact q_retv E hw dX9_copyState_30
    · replace hM := i_neg hM c1
      refine lv_aload_n hx hb dX9_copyState_11 rfl (lv_at hl 2 rfl) ?_
      refine lv_iload hx hb dX9_copyState_12 (lv_at hl 3 rfl) ?_
      refine lv_iload hx hb dX9_copyState_14 (lv_at hl 4 rfl) ?_
      refine lv_iadd hx hb dX9_copyState_16 ?_
      refine lv_aload_n hx hb dX9_copyState_17 rfl (lv_at hl 0 rfl) ?_
      refine lv_iload_n hx hb dX9_copyState_18 rfl (lv_at hl 1 rfl) ?_
      refine lv_iload hx hb dX9_copyState_19 (lv_at hl 4 rfl) ?_
      refine lv_iadd hx hb dX9_copyState_21 ?_
      obtain ⟨g2, hM⟩ := g_some hM
      refine q_ald E hw 3 (n := 9238) rfl g2 (x := (σ 3 (ix (x2 + x5)))) rfl dX9_copyState_22 ?_
      obtain ⟨g3, hM⟩ := g_some hM
      refine q_ast E hw 1 (n := 4619) rfl g3 (wM cA h (up σ 1 (ix (x4 + x5)) (σ 3 (ix (x2 + x5)))) wd ++ F) st_M_1 dX9_copyState_23 (fun H locs hw => ?_)
      refine lv_iinc (v := (x5 + 1)) (lv' := [(5, .int (x5 + 1)), (1, .ref (h 3)), (2, .int x2), (3, .ref (h 1)), (4, .int x4)]) hx hb dX9_copyState_24 hl (k := 4) rfl rfl (by decide) rfl (fun ls hl => ?_)
      refine lv_goto (tgt := 3) hx hb dX9_copyState_27 (by decide) ?_
      exact ih _ _ _ _ _ _ hM _ _ hw _ (lv_sub hl [1, 2, 3, 4, 0] rfl)
set_option maxRecDepth 100000 in
set_option maxHeartbeats 4000000 in
theorem c_X9_copyState_saved_state (l : Launch) (D : va_G) (cA : Nat → ClassId) (tS : Nat → Nat) (A : Nat → Prop) (h : Nat → Nat) (F : va_W) (N : Nat) (x2 : Int32) (x4 : Int32) (σ : Sg) (wd : Int64) (s0 : Sg) (hM : f_X9_copyState_saved_state N x2 x4 σ wd = some s0) : Ct l yX9_copyState (Cond.code yX9_copyState cX9_copyState 6 none :: bw) 0 0 D cA tS A [.ref (h 0), .ref (h 3), .int x2, .ref (h 1), .int x4] (wM cA h σ wd ++ F) none (wM cA h s0 wd ++ F) := by
  refine ct_of (by decide +kernel) (Nat.le_of_ble_eq_true rfl) ?_
  intro p e s m below meth c E hw ls hl
  replace E : Ev p cX9_copyState 6 none RX9 (Cond.code yX9_copyState cX9_copyState 6 none :: bw) D cA tS A s m _ meth c := E
  replace hl : lv_has ls 6 [(0, .ref (h 0)), (1, .ref (h 3)), (2, .int x2), (3, .ref (h 1)), (4, .int x4)] := hl
  have hx := E.1.1
  have hb := E.1.2.1
  unfold f_X9_copyState_saved_state at hM
  refine lv_iconst (v := 0) hx hb dX9_copyState_0 (by decide) ?_
  refine lv_istore (lv' := [(5, .int 0), (0, .ref (h 0)), (1, .ref (h 3)), (2, .int x2), (3, .ref (h 1)), (4, .int x4)]) hx hb dX9_copyState_1 hl (by decide) rfl (fun ls hl => ?_)
  exact s_X9_copyState_saved_state_3 l D cA tS A h F N E N _ _ _ _ _ _ hM _ _ hw _ (lv_sub hl [2, 3, 4, 5, 0] rfl)
set_option maxRecDepth 100000 in
set_option maxHeartbeats 4000000 in
theorem c_X9_allBreaches (l : Launch) (D : va_G) (cA : Nat → ClassId) (tS : Nat → Nat) (A : Nat → Prop) (h : Nat → Nat) (F : va_W) (N : Nat) (σ : Sg) (wd : Int64) (r0 : Int32) (hM : f_X9_allBreaches N σ wd = some r0) : Ct l yX9_allBreaches (Cond.code yX9_allBreaches cX9_allBreaches 1 (some .int) :: bw) 2 46 D cA tS A [.ref (h 0)] (wM cA h σ wd ++ F) (some (.int r0)) (wM cA h σ wd ++ F) := by
  refine ct_of (by decide +kernel) (Nat.le_of_ble_eq_true rfl) ?_
  intro p e s m below meth c E hw ls hl
  replace E : Ev p cX9_allBreaches 1 (some .int) RX9 (Cond.code yX9_allBreaches cX9_allBreaches 1 (some .int) :: bw) D cA tS A s m _ meth c := E
  replace hl : lv_has ls 1 [(0, .ref (h 0))] := hl
  have hx := E.1.1
  have hb := E.1.2.1
  unfold f_X9_allBreaches at hM
  refine lv_aload_n hx hb dX9_allBreaches_0 rfl (lv_at hl 0 rfl) ?_
  refine lv_iconst (v := (-1)) hx hb dX9_allBreaches_1 (by decide) ?_
  refine lv_bipush (v := 14) hx hb dX9_allBreaches_2 (by decide) ?_
  obtain ⟨p1, h2, hM⟩ := b_some hM
  refine q_cv (As := [.int (-1), .int 14]) (rest := []) E hw hl (c_X9_breachesOf l D cA tS A h F N (-1) 14 σ wd p1 h2) 2 (bwV bw_c tb_1525 tb_1527 tb_83 tb_111 tb_1528) rfl (by decide +kernel) ⟨Nat.le_of_ble_eq_true rfl, Nat.le_of_ble_eq_true rfl⟩ 0 9 (T := TX9) (N := 17) rfl rfl rfl rfl (Nat.le_of_ble_eq_true rfl) ⟨Nat.zero_le _, Nat.zero_le _⟩ dX9_allBreaches_4 (fun H locs hw => ?_)
  refine lv_aload_n hx hb dX9_allBreaches_7 rfl (lv_at hl 0 rfl) ?_
  refine lv_iconst (v := (-1)) hx hb dX9_allBreaches_8 (by decide) ?_
  refine lv_bipush (v := 15) hx hb dX9_allBreaches_9 (by decide) ?_
  obtain ⟨p3, h4, hM⟩ := b_some hM
  refine q_cv (As := [.int (-1), .int 15]) (rest := [.int p1]) E hw hl (c_X9_breachesOf l D cA tS A h F N (-1) 15 σ wd p3 h4) 2 (bwV bw_c tb_1525 tb_1527 tb_83 tb_111 tb_1528) rfl (by decide +kernel) ⟨Nat.le_of_ble_eq_true rfl, Nat.le_of_ble_eq_true rfl⟩ 0 9 (T := TX9) (N := 17) rfl rfl rfl rfl (Nat.le_of_ble_eq_true rfl) ⟨Nat.zero_le _, Nat.zero_le _⟩ dX9_allBreaches_11 (fun H locs hw => ?_)
  refine lv_iadd hx hb dX9_allBreaches_14 ?_
  cases hM
  exact q_reti E hw dX9_allBreaches_15
set_option maxRecDepth 100000 in
set_option maxHeartbeats 4000000 in
theorem s_X9_forecast_58 (l : Launch) (D : va_G) (cA : Nat → ClassId) (tS : Nat → Nat) (A : Nat → Prop) (h : Nat → Nat) (F : va_W) (N : Nat) {p : Program} {e : Env} {s : State} {m : MethodId} {args : Array Value} {below : List Frame} {meth : Method} {c : Code} (E : Ev p cX9_forecast 4 (some .int) RX9 (Cond.code yX9_forecast cX9_forecast 4 (some .int) :: bw) D cA tS A s m args meth c) : ∀ (x1 : Int32) (σ : Sg) (wd : Int64) (r0 : Int32) (s0 : Sg) (hM : f_X9_forecast_58 N x1 σ wd = some (r0, s0)) (H : Heap) (locs : List Loc) (hw : Wd D A (wM cA h σ wd ++ F) s.heap H locs) (ls : Array Slot) (hl : lv_has ls 4 [(0, .ref (h 0)), (1, .int x1)]), W p l e ({ frames := 6, cells := 0, slots := 0, locals := 135 } : Room) s m args below meth c H locs 0 0 (MQ below (QW D A (some (.int r0)) (wM cA h s0 wd ++ F)) args s 0 0 A) (F0 m 58 ls []) := by
  have hx := E.1.1
  have hb := E.1.2.1
  intro x1 σ wd r0 s0 hM H locs hw ls hl
  unfold f_X9_forecast_58 at hM
  refine lv_aload_n hx hb dX9_forecast_58 rfl (lv_at hl 0 rfl) ?_
  refine lv_iload_n hx hb dX9_forecast_59 rfl (lv_at hl 1 rfl) ?_
  refine lv_bipush (v := 13) hx hb dX9_forecast_60 (by decide) ?_
  obtain ⟨p1, h2, hM⟩ := b_some hM
  refine q_cv (As := [.int x1, .int 13]) (rest := []) E hw hl (c_X9_ticket l D cA tS A h F x1 13 σ wd p1 h2) 2 (bwV bw_c tb_1241 tb_1243 tb_51 tb_111 tb_1244) rfl (by decide +kernel) ⟨Nat.le_of_ble_eq_true rfl, Nat.le_of_ble_eq_true rfl⟩ 0 9 (T := TX9) (N := 17) rfl rfl rfl rfl (Nat.le_of_ble_eq_true rfl) ⟨Nat.zero_le _, Nat.zero_le _⟩ dX9_forecast_62 (fun H locs hw => ?_)
  refine lv_istore_n (lv' := [(3, .int p1), (0, .ref (h 0)), (1, .int x1)]) hx hb dX9_forecast_65 rfl hl (by decide) rfl (fun ls hl => ?_)
  refine lv_aload_n hx hb dX9_forecast_66 rfl (lv_at hl 1 rfl) ?_
  refine lv_aload_n hx hb dX9_forecast_67 rfl (lv_at hl 1 rfl) ?_
  refine q_get (C := RX9) (T := TX9) (N := 17) (ci := 9) E (fun w h => List.mem_cons_of_mem _ (inX9 w h)) hw 0 rfl rfl 1 (by decide) (List.mem_cons_of_mem _ tb_1146) (v := .ref (h 2)) rfl dX9_forecast_68 ?_
  refine lv_iconst (v := 0) hx hb dX9_forecast_71 (by decide) ?_
  refine lv_aload_n hx hb dX9_forecast_72 rfl (lv_at hl 1 rfl) ?_
  refine q_get (C := RX9) (T := TX9) (N := 17) (ci := 9) E (fun w h => List.mem_cons_of_mem _ (inX9 w h)) hw 0 rfl rfl 0 (by decide) (List.mem_cons_of_mem _ tb_1145) (v := .ref (h 1)) rfl dX9_forecast_73 ?_
  refine lv_iconst (v := 0) hx hb dX9_forecast_76 (by decide) ?_
  obtain ⟨p3, h4, hM⟩ := b_some hM
  refine q_cvv (As := [.ref (h 2), .int 0, .ref (h 1), .int 0]) (rest := []) E hw hl (c_X9_copyState_backup_state l D cA tS A h F N 0 0 σ wd p3 h4) 4 (bwV bw_c tb_1545 tb_1547 tb_85 tb_111 tb_1548) rfl (by decide +kernel) ⟨Nat.le_of_ble_eq_true rfl, Nat.le_of_ble_eq_true rfl⟩ 0 9 (T := TX9) (N := 17) rfl rfl rfl rfl (Nat.le_of_ble_eq_true rfl) ⟨Nat.zero_le _, Nat.zero_le _⟩ dX9_forecast_77 (fun H locs hw => ?_)
  refine lv_iload_n hx hb dX9_forecast_80 rfl (lv_at hl 0 rfl) ?_
  cases hM
  exact q_reti E hw dX9_forecast_81
set_option maxRecDepth 100000 in
set_option maxHeartbeats 4000000 in
theorem s_X9_forecast_27 (l : Launch) (D : va_G) (cA : Nat → ClassId) (tS : Nat → Nat) (A : Nat → Prop) (h : Nat → Nat) (F : va_W) (N : Nat) {p : Program} {e : Env} {s : State} {m : MethodId} {args : Array Value} {below : List Frame} {meth : Method} {c : Code} (E : Ev p cX9_forecast 4 (some .int) RX9 (Cond.code yX9_forecast cX9_forecast 4 (some .int) :: bw) D cA tS A s m args meth c) : ∀ (n : Nat) (x1 : Int32) (x2 : Int32) (σ : Sg) (wd : Int64) (r0 : Int32) (s0 : Sg) (hM : f_X9_forecast_27 N n x1 x2 σ wd = some (r0, s0)) (H : Heap) (locs : List Loc) (hw : Wd D A (wM cA h σ wd ++ F) s.heap H locs) (ls : Array Slot) (hl : lv_has ls 4 [(0, .ref (h 0)), (1, .int x1), (2, .int x2)]), W p l e ({ frames := 6, cells := 0, slots := 0, locals := 135 } : Room) s m args below meth c H locs 0 0 (MQ below (QW D A (some (.int r0)) (wM cA h s0 wd ++ F)) args s 0 0 A) (F0 m 27 ls []) := by
  have hx := E.1.1
  have hb := E.1.2.1
  intro n
  induction n with
  | zero =>
    intro x1 x2 σ wd r0 s0 hM
    cases hM
  | succ n ih =>
    intro x1 x2 σ wd r0 s0 hM H locs hw ls hl
    rw [f_X9_forecast_27] at hM
    refine lv_aload_n hx hb dX9_forecast_27 rfl (lv_at hl 0 rfl) ?_
    refine q_get (C := RX9) (T := TX9) (N := 17) (ci := 9) E (fun w h => List.mem_cons_of_mem _ (inX9 w h)) hw 0 rfl rfl 0 (by decide) (List.mem_cons_of_mem _ tb_1145) (v := .ref (h 1)) rfl dX9_forecast_28 ?_
    refine lv_iconst (v := 0) hx hb dX9_forecast_31 (by decide) ?_
    refine q_ald E hw 1 (n := 4619) rfl (by decide +kernel) (x := (σ 1 (ix 0))) rfl dX9_forecast_32 ?_
    refine lv_sipush (v := 10080) hx hb dX9_forecast_33 (by decide) ?_
    refine lv_icmp_ge (tgt := 58) hx hb dX9_forecast_36 (by decide) (fun c1 => ?_) (fun c1 => ?_)
    · replace hM := i_pos hM c1
      exact s_X9_forecast_58 l D cA tS A h F N E _ _ _ _ _ hM _ _ hw _ (lv_sub hl [0, 1] rfl)
    · replace hM := i_neg hM c1
      refine lv_aload_n hx hb dX9_forecast_39 rfl (lv_at hl 0 rfl) ?_
      refine lv_iload_n hx hb dX9_forecast_40 rfl (lv_at hl 1 rfl) ?_
      refine lv_iconst (v := 3) hx hb dX9_forecast_41 (by decide) ?_
      obtain ⟨p2, h3, hM⟩ := b_some hM
      refine q_cv (As := [.int x1, .int 3]) (rest := []) E hw hl (c_X9_is l D cA tS A h F x1 3 σ wd p2 h3) 2 (bwV bw_c tb_1249 tb_1251 tb_53 tb_111 tb_1252) rfl (by decide +kernel) ⟨Nat.le_of_ble_eq_true rfl, Nat.le_of_ble_eq_true rfl⟩ 0 9 (T := TX9) (N := 17) rfl rfl rfl rfl (Nat.le_of_ble_eq_true rfl) ⟨Nat.zero_le _, Nat.zero_le _⟩ dX9_forecast_42 (fun H locs hw => ?_)
      refine lv_if_ne (tgt := 58) hx hb dX9_forecast_45 (by decide) (fun c4 => ?_) (fun c4 => ?_)
      · replace hM := i_neg hM c4
        exact s_X9_forecast_58 l D cA tS A h F N E _ _ _ _ _ hM _ _ hw _ (lv_sub hl [0, 1] rfl)
      · replace hM := i_pos hM c4
        refine lv_iload_n hx hb dX9_forecast_48 rfl (lv_at hl 2 rfl) ?_
        refine lv_aload_n hx hb dX9_forecast_49 rfl (lv_at hl 0 rfl) ?_
        obtain ⟨p5, h6, hM⟩ := b_some hM
        refine q_cv (As := []) (rest := [.int x2]) E hw hl (c_X9_passMinute l D cA tS A h F N σ wd p5.1 p5.2 h6) 0 (bwV bw_c tb_1387 tb_1389 tb_69 tb_111 tb_1390) rfl (by decide +kernel) ⟨Nat.le_of_ble_eq_true rfl, Nat.le_of_ble_eq_true rfl⟩ 0 9 (T := TX9) (N := 17) rfl rfl rfl rfl (Nat.le_of_ble_eq_true rfl) ⟨Nat.zero_le _, Nat.zero_le _⟩ dX9_forecast_50 (fun H locs hw => ?_)
        refine lv_iadd hx hb dX9_forecast_53 ?_
        refine lv_istore_n (lv' := [(2, .int (x2 + p5.1)), (0, .ref (h 0)), (1, .int x1)]) hx hb dX9_forecast_54 rfl hl (by decide) rfl (fun ls hl => ?_)
        refine lv_goto (tgt := 27) hx hb dX9_forecast_55 (by decide) ?_
        exact ih _ _ _ _ _ _ hM _ _ hw _ (lv_sub hl [1, 2, 0] rfl)
set_option maxRecDepth 100000 in
set_option maxHeartbeats 4000000 in
theorem c_X9_forecast (l : Launch) (D : va_G) (cA : Nat → ClassId) (tS : Nat → Nat) (A : Nat → Prop) (h : Nat → Nat) (F : va_W) (N : Nat) (x1 : Int32) (σ : Sg) (wd : Int64) (r0 : Int32) (s0 : Sg) (hM : f_X9_forecast N x1 σ wd = some (r0, s0)) : Ct l yX9_forecast (Cond.code yX9_forecast cX9_forecast 4 (some .int) :: bw) 6 135 D cA tS A [.ref (h 0), .int x1] (wM cA h σ wd ++ F) (some (.int r0)) (wM cA h s0 wd ++ F) := by
  refine ct_of (by decide +kernel) (Nat.le_of_ble_eq_true rfl) ?_
  intro p e s m below meth c E hw ls hl
  replace E : Ev p cX9_forecast 4 (some .int) RX9 (Cond.code yX9_forecast cX9_forecast 4 (some .int) :: bw) D cA tS A s m _ meth c := E
  replace hl : lv_has ls 4 [(0, .ref (h 0)), (1, .int x1)] := hl
  have hx := E.1.1
  have hb := E.1.2.1
  unfold f_X9_forecast at hM
  refine lv_aload_n hx hb dX9_forecast_0 rfl (lv_at hl 0 rfl) ?_
  refine lv_iload_n hx hb dX9_forecast_1 rfl (lv_at hl 1 rfl) ?_
  obtain ⟨p1, h2, hM⟩ := b_some hM
  refine q_cv (As := [.int x1]) (rest := []) E hw hl (c_X9_isTicket l D cA tS A h F x1 σ wd p1 h2) 1 (bwV bw_c tb_1233 tb_1235 tb_49 tb_111 tb_1236) rfl (by decide +kernel) ⟨Nat.le_of_ble_eq_true rfl, Nat.le_of_ble_eq_true rfl⟩ 0 9 (T := TX9) (N := 17) rfl rfl rfl rfl (Nat.le_of_ble_eq_true rfl) ⟨Nat.zero_le _, Nat.zero_le _⟩ dX9_forecast_2 (fun H locs hw => ?_)
  refine lv_if_ne (tgt := 11) hx hb dX9_forecast_5 (by decide) (fun c3 => ?_) (fun c3 => ?_)
  · replace hM := i_neg hM c3
    refine lv_aload_n hx hb dX9_forecast_11 rfl (lv_at hl 0 rfl) ?_
    refine lv_aload_n hx hb dX9_forecast_12 rfl (lv_at hl 0 rfl) ?_
    refine q_get (C := RX9) (T := TX9) (N := 17) (ci := 9) E (fun w h => List.mem_cons_of_mem _ (inX9 w h)) hw 0 rfl rfl 0 (by decide) (List.mem_cons_of_mem _ tb_1145) (v := .ref (h 1)) rfl dX9_forecast_13 ?_
    refine lv_iconst (v := 0) hx hb dX9_forecast_16 (by decide) ?_
    refine lv_aload_n hx hb dX9_forecast_17 rfl (lv_at hl 0 rfl) ?_
    refine q_get (C := RX9) (T := TX9) (N := 17) (ci := 9) E (fun w h => List.mem_cons_of_mem _ (inX9 w h)) hw 0 rfl rfl 1 (by decide) (List.mem_cons_of_mem _ tb_1146) (v := .ref (h 2)) rfl dX9_forecast_18 ?_
    refine lv_iconst (v := 0) hx hb dX9_forecast_21 (by decide) ?_
    obtain ⟨p4, h5, hM⟩ := b_some hM
    refine q_cvv (As := [.ref (h 1), .int 0, .ref (h 2), .int 0]) (rest := []) E hw hl (c_X9_copyState_state_backup l D cA tS A h F N 0 0 σ wd p4 h5) 4 (bwV bw_c tb_1545 tb_1547 tb_85 tb_111 tb_1548) rfl (by decide +kernel) ⟨Nat.le_of_ble_eq_true rfl, Nat.le_of_ble_eq_true rfl⟩ 0 9 (T := TX9) (N := 17) rfl rfl rfl rfl (Nat.le_of_ble_eq_true rfl) ⟨Nat.zero_le _, Nat.zero_le _⟩ dX9_forecast_22 (fun H locs hw => ?_)
    refine lv_iconst (v := 0) hx hb dX9_forecast_25 (by decide) ?_
    refine lv_istore_n (lv' := [(2, .int 0), (0, .ref (h 0)), (1, .int x1)]) hx hb dX9_forecast_26 rfl hl (by decide) rfl (fun ls hl => ?_)
    exact s_X9_forecast_27 l D cA tS A h F N E N _ _ _ _ _ _ hM _ _ hw _ (lv_sub hl [1, 2, 0] rfl)
  · replace hM := i_pos hM c3
    refine lv_bipush (v := (-2)) hx hb dX9_forecast_8 (by decide) ?_
    cases hM
    exact q_reti E hw dX9_forecast_10
set_option maxRecDepth 100000 in
set_option maxHeartbeats 4000000 in
theorem s_X9_breachesAhead_21 (l : Launch) (D : va_G) (cA : Nat → ClassId) (tS : Nat → Nat) (A : Nat → Prop) (h : Nat → Nat) (F : va_W) (N : Nat) {p : Program} {e : Env} {s : State} {m : MethodId} {args : Array Value} {below : List Frame} {meth : Method} {c : Code} (E : Ev p cX9_breachesAhead 4 (some .int) RX9 (Cond.code yX9_breachesAhead cX9_breachesAhead 4 (some .int) :: bw) D cA tS A s m args meth c) : ∀ (n : Nat) (x1 : Int32) (x2 : Int32) (σ : Sg) (wd : Int64) (r0 : Int32) (s0 : Sg) (hM : f_X9_breachesAhead_21 N n x1 x2 σ wd = some (r0, s0)) (H : Heap) (locs : List Loc) (hw : Wd D A (wM cA h σ wd ++ F) s.heap H locs) (ls : Array Slot) (hl : lv_has ls 4 [(0, .ref (h 0)), (1, .int x1), (2, .int x2)]), W p l e ({ frames := 6, cells := 0, slots := 0, locals := 135 } : Room) s m args below meth c H locs 0 0 (MQ below (QW D A (some (.int r0)) (wM cA h s0 wd ++ F)) args s 0 0 A) (F0 m 21 ls []) := by
  have hx := E.1.1
  have hb := E.1.2.1
  intro n
  induction n with
  | zero =>
    intro x1 x2 σ wd r0 s0 hM
    cases hM
  | succ n ih =>
    intro x1 x2 σ wd r0 s0 hM H locs hw ls hl
    rw [f_X9_breachesAhead_21] at hM
    refine lv_aload_n hx hb dX9_breachesAhead_21 rfl (lv_at hl 0 rfl) ?_
    refine q_get (C := RX9) (T := TX9) (N := 17) (ci := 9) E (fun w h => List.mem_cons_of_mem _ (inX9 w h)) hw 0 rfl rfl 0 (by decide) (List.mem_cons_of_mem _ tb_1145) (v := .ref (h 1)) rfl dX9_breachesAhead_22 ?_
    refine lv_iconst (v := 0) hx hb dX9_breachesAhead_25 (by decide) ?_
    refine q_ald E hw 1 (n := 4619) rfl (by decide +kernel) (x := (σ 1 (ix 0))) rfl dX9_breachesAhead_26 ?_
    refine lv_sipush (v := 10080) hx hb dX9_breachesAhead_27 (by decide) ?_
    refine lv_icmp_ge (tgt := 43) hx hb dX9_breachesAhead_30 (by decide) (fun c1 => ?_) (fun c1 => ?_)
    · replace hM := i_pos hM c1
      refine lv_aload_n hx hb dX9_breachesAhead_43 rfl (lv_at hl 0 rfl) ?_
      obtain ⟨p2, h3, hM⟩ := b_some hM
      refine q_cv (As := []) (rest := []) E hw hl (c_X9_allBreaches l D cA tS A h F N σ wd p2 h3) 0 (bwV bw_c tb_1553 tb_1555 tb_86 tb_111 tb_1556) rfl (by decide +kernel) ⟨Nat.le_of_ble_eq_true rfl, Nat.le_of_ble_eq_true rfl⟩ 0 9 (T := TX9) (N := 17) rfl rfl rfl rfl (Nat.le_of_ble_eq_true rfl) ⟨Nat.zero_le _, Nat.zero_le _⟩ dX9_breachesAhead_44 (fun H locs hw => ?_)
      refine lv_iload_n hx hb dX9_breachesAhead_47 rfl (lv_at hl 1 rfl) ?_
      refine lv_isub hx hb dX9_breachesAhead_48 ?_
      refine lv_istore_n (lv' := [(3, .int (p2 - x1)), (0, .ref (h 0)), (1, .int x1), (2, .int x2)]) hx hb dX9_breachesAhead_49 rfl hl (by decide) rfl (fun ls hl => ?_)
      refine lv_aload_n hx hb dX9_breachesAhead_50 rfl (lv_at hl 1 rfl) ?_
      refine lv_aload_n hx hb dX9_breachesAhead_51 rfl (lv_at hl 1 rfl) ?_
      refine q_get (C := RX9) (T := TX9) (N := 17) (ci := 9) E (fun w h => List.mem_cons_of_mem _ (inX9 w h)) hw 0 rfl rfl 1 (by decide) (List.mem_cons_of_mem _ tb_1146) (v := .ref (h 2)) rfl dX9_breachesAhead_52 ?_
      refine lv_iconst (v := 0) hx hb dX9_breachesAhead_55 (by decide) ?_
      refine lv_aload_n hx hb dX9_breachesAhead_56 rfl (lv_at hl 1 rfl) ?_
      refine q_get (C := RX9) (T := TX9) (N := 17) (ci := 9) E (fun w h => List.mem_cons_of_mem _ (inX9 w h)) hw 0 rfl rfl 0 (by decide) (List.mem_cons_of_mem _ tb_1145) (v := .ref (h 1)) rfl dX9_breachesAhead_57 ?_
      refine lv_iconst (v := 0) hx hb dX9_breachesAhead_60 (by decide) ?_
      obtain ⟨p4, h5, hM⟩ := b_some hM
      refine q_cvv (As := [.ref (h 2), .int 0, .ref (h 1), .int 0]) (rest := []) E hw hl (c_X9_copyState_backup_state l D cA tS A h F N 0 0 σ wd p4 h5) 4 (bwV bw_c tb_1545 tb_1547 tb_85 tb_111 tb_1548) rfl (by decide +kernel) ⟨Nat.le_of_ble_eq_true rfl, Nat.le_of_ble_eq_true rfl⟩ 0 9 (T := TX9) (N := 17) rfl rfl rfl rfl (Nat.le_of_ble_eq_true rfl) ⟨Nat.zero_le _, Nat.zero_le _⟩ dX9_breachesAhead_61 (fun H locs hw => ?_)
      refine lv_iload_n hx hb dX9_breachesAhead_64 rfl (lv_at hl 0 rfl) ?_
      cases hM
      exact q_reti E hw dX9_breachesAhead_65
    · replace hM := i_neg hM c1
      refine lv_iload_n hx hb dX9_breachesAhead_33 rfl (lv_at hl 2 rfl) ?_
      refine lv_aload_n hx hb dX9_breachesAhead_34 rfl (lv_at hl 0 rfl) ?_
      obtain ⟨p6, h7, hM⟩ := b_some hM
      refine q_cv (As := []) (rest := [.int x2]) E hw hl (c_X9_passMinute l D cA tS A h F N σ wd p6.1 p6.2 h7) 0 (bwV bw_c tb_1387 tb_1389 tb_69 tb_111 tb_1390) rfl (by decide +kernel) ⟨Nat.le_of_ble_eq_true rfl, Nat.le_of_ble_eq_true rfl⟩ 0 9 (T := TX9) (N := 17) rfl rfl rfl rfl (Nat.le_of_ble_eq_true rfl) ⟨Nat.zero_le _, Nat.zero_le _⟩ dX9_breachesAhead_35 (fun H locs hw => ?_)
      refine lv_iadd hx hb dX9_breachesAhead_38 ?_
      refine lv_istore_n (lv' := [(2, .int (x2 + p6.1)), (0, .ref (h 0)), (1, .int x1)]) hx hb dX9_breachesAhead_39 rfl hl (by decide) rfl (fun ls hl => ?_)
      refine lv_goto (tgt := 21) hx hb dX9_breachesAhead_40 (by decide) ?_
      exact ih _ _ _ _ _ _ hM _ _ hw _ (lv_sub hl [1, 2, 0] rfl)
set_option maxRecDepth 100000 in
set_option maxHeartbeats 4000000 in
theorem c_X9_breachesAhead (l : Launch) (D : va_G) (cA : Nat → ClassId) (tS : Nat → Nat) (A : Nat → Prop) (h : Nat → Nat) (F : va_W) (N : Nat) (σ : Sg) (wd : Int64) (r0 : Int32) (s0 : Sg) (hM : f_X9_breachesAhead N σ wd = some (r0, s0)) : Ct l yX9_breachesAhead (Cond.code yX9_breachesAhead cX9_breachesAhead 4 (some .int) :: bw) 6 135 D cA tS A [.ref (h 0)] (wM cA h σ wd ++ F) (some (.int r0)) (wM cA h s0 wd ++ F) := by
  refine ct_of (by decide +kernel) (Nat.le_of_ble_eq_true rfl) ?_
  intro p e s m below meth c E hw ls hl
  replace E : Ev p cX9_breachesAhead 4 (some .int) RX9 (Cond.code yX9_breachesAhead cX9_breachesAhead 4 (some .int) :: bw) D cA tS A s m _ meth c := E
  replace hl : lv_has ls 4 [(0, .ref (h 0))] := hl
  have hx := E.1.1
  have hb := E.1.2.1
  unfold f_X9_breachesAhead at hM
  refine lv_aload_n hx hb dX9_breachesAhead_0 rfl (lv_at hl 0 rfl) ?_
  refine lv_aload_n hx hb dX9_breachesAhead_1 rfl (lv_at hl 0 rfl) ?_
  refine q_get (C := RX9) (T := TX9) (N := 17) (ci := 9) E (fun w h => List.mem_cons_of_mem _ (inX9 w h)) hw 0 rfl rfl 0 (by decide) (List.mem_cons_of_mem _ tb_1145) (v := .ref (h 1)) rfl dX9_breachesAhead_2 ?_
  refine lv_iconst (v := 0) hx hb dX9_breachesAhead_5 (by decide) ?_
  refine lv_aload_n hx hb dX9_breachesAhead_6 rfl (lv_at hl 0 rfl) ?_
  refine q_get (C := RX9) (T := TX9) (N := 17) (ci := 9) E (fun w h => List.mem_cons_of_mem _ (inX9 w h)) hw 0 rfl rfl 1 (by decide) (List.mem_cons_of_mem _ tb_1146) (v := .ref (h 2)) rfl dX9_breachesAhead_7 ?_
  refine lv_iconst (v := 0) hx hb dX9_breachesAhead_10 (by decide) ?_
  obtain ⟨p1, h2, hM⟩ := b_some hM
  refine q_cvv (As := [.ref (h 1), .int 0, .ref (h 2), .int 0]) (rest := []) E hw hl (c_X9_copyState_state_backup l D cA tS A h F N 0 0 σ wd p1 h2) 4 (bwV bw_c tb_1545 tb_1547 tb_85 tb_111 tb_1548) rfl (by decide +kernel) ⟨Nat.le_of_ble_eq_true rfl, Nat.le_of_ble_eq_true rfl⟩ 0 9 (T := TX9) (N := 17) rfl rfl rfl rfl (Nat.le_of_ble_eq_true rfl) ⟨Nat.zero_le _, Nat.zero_le _⟩ dX9_breachesAhead_11 (fun H locs hw => ?_)
  refine lv_aload_n hx hb dX9_breachesAhead_14 rfl (lv_at hl 0 rfl) ?_
  obtain ⟨p3, h4, hM⟩ := b_some hM
  refine q_cv (As := []) (rest := []) E hw hl (c_X9_allBreaches l D cA tS A h F N p1 wd p3 h4) 0 (bwV bw_c tb_1553 tb_1555 tb_86 tb_111 tb_1556) rfl (by decide +kernel) ⟨Nat.le_of_ble_eq_true rfl, Nat.le_of_ble_eq_true rfl⟩ 0 9 (T := TX9) (N := 17) rfl rfl rfl rfl (Nat.le_of_ble_eq_true rfl) ⟨Nat.zero_le _, Nat.zero_le _⟩ dX9_breachesAhead_15 (fun H locs hw => ?_)
  refine lv_istore_n (lv' := [(1, .int p3), (0, .ref (h 0))]) hx hb dX9_breachesAhead_18 rfl hl (by decide) rfl (fun ls hl => ?_)
  refine lv_iconst (v := 0) hx hb dX9_breachesAhead_19 (by decide) ?_
  refine lv_istore_n (lv' := [(2, .int 0), (1, .int p3), (0, .ref (h 0))]) hx hb dX9_breachesAhead_20 rfl hl (by decide) rfl (fun ls hl => ?_)
  exact s_X9_breachesAhead_21 l D cA tS A h F N E N _ _ _ _ _ _ hM _ _ hw _ (lv_sub hl [2, 1, 0] rfl)
set_option maxRecDepth 100000 in
set_option maxHeartbeats 4000000 in
theorem s_X9_replay_230 (l : Launch) (D : va_G) (cA : Nat → ClassId) (tS : Nat → Nat) (A : Nat → Prop) (h : Nat → Nat) (F : va_W) (N : Nat) {p : Program} {e : Env} {s : State} {m : MethodId} {args : Array Value} {below : List Frame} {meth : Method} {c : Code} (E : Ev p cX9_replay 7 (some .int) RX9 (Cond.code yX9_replay cX9_replay 7 (some .int) :: bw) D cA tS A s m args meth c) : ∀ (n : Nat) (x3 : Int32) (σ : Sg) (wd : Int64) (r0 : Int32) (s0 : Sg) (hM : f_X9_replay_230 N n x3 σ wd = some (r0, s0)) (H : Heap) (locs : List Loc) (hw : Wd D A (wM cA h σ wd ++ F) s.heap H locs) (ls : Array Slot) (hl : lv_has ls 7 [(0, .ref (h 0)), (3, .int x3)]), W p l e ({ frames := 6, cells := 0, slots := 0, locals := 139 } : Room) s m args below meth c H locs 0 0 (MQ below (QW D A (some (.int r0)) (wM cA h s0 wd ++ F)) args s 0 0 A) (F0 m 230 ls []) := by
  have hx := E.1.1
  have hb := E.1.2.1
  intro n
  induction n with
  | zero =>
    intro x3 σ wd r0 s0 hM
    cases hM
  | succ n ih =>
    intro x3 σ wd r0 s0 hM H locs hw ls hl
    rw [f_X9_replay_230] at hM
    refine lv_aload_n hx hb dX9_replay_230 rfl (lv_at hl 0 rfl) ?_
    refine q_get (C := RX9) (T := TX9) (N := 17) (ci := 9) E (fun w h => List.mem_cons_of_mem _ (inX9 w h)) hw 0 rfl rfl 0 (by decide) (List.mem_cons_of_mem _ tb_1145) (v := .ref (h 1)) rfl dX9_replay_231 ?_
    refine lv_iconst (v := 0) hx hb dX9_replay_234 (by decide) ?_
    refine q_ald E hw 1 (n := 4619) rfl (by decide +kernel) (x := (σ 1 (ix 0))) rfl dX9_replay_235 ?_
    refine lv_aload_n hx hb dX9_replay_236 rfl (lv_at hl 0 rfl) ?_
    refine q_get (C := RX9) (T := TX9) (N := 17) (ci := 9) E (fun w h => List.mem_cons_of_mem _ (inX9 w h)) hw 0 rfl rfl 1 (by decide) (List.mem_cons_of_mem _ tb_1146) (v := .ref (h 2)) rfl dX9_replay_237 ?_
    refine lv_iconst (v := 0) hx hb dX9_replay_240 (by decide) ?_
    refine q_ald E hw 2 (n := 4619) rfl (by decide +kernel) (x := (σ 2 (ix 0))) rfl dX9_replay_241 ?_
    refine lv_icmp_ge (tgt := 255) hx hb dX9_replay_242 (by decide) (fun c1 => ?_) (fun c1 => ?_)
    · replace hM := i_pos hM c1
      refine lv_aload_n hx hb dX9_replay_255 rfl (lv_at hl 0 rfl) ?_
      obtain ⟨p2, h3, hM⟩ := b_some hM
      refine q_cv (As := []) (rest := []) E hw hl (c_X9_allBreaches l D cA tS A h F N σ wd p2 h3) 0 (bwV bw_c tb_1553 tb_1555 tb_86 tb_111 tb_1556) rfl (by decide +kernel) ⟨Nat.le_of_ble_eq_true rfl, Nat.le_of_ble_eq_true rfl⟩ 0 9 (T := TX9) (N := 17) rfl rfl rfl rfl (Nat.le_of_ble_eq_true rfl) ⟨Nat.zero_le _, Nat.zero_le _⟩ dX9_replay_256 (fun H locs hw => ?_)
      refine lv_istore (lv' := [(4, .int p2), (0, .ref (h 0)), (3, .int x3)]) hx hb dX9_replay_259 hl (by decide) rfl (fun ls hl => ?_)
      refine lv_aload_n hx hb dX9_replay_261 rfl (lv_at hl 1 rfl) ?_
      refine lv_aload_n hx hb dX9_replay_262 rfl (lv_at hl 1 rfl) ?_
      refine q_get (C := RX9) (T := TX9) (N := 17) (ci := 9) E (fun w h => List.mem_cons_of_mem _ (inX9 w h)) hw 0 rfl rfl 1 (by decide) (List.mem_cons_of_mem _ tb_1146) (v := .ref (h 2)) rfl dX9_replay_263 ?_
      refine lv_iconst (v := 0) hx hb dX9_replay_266 (by decide) ?_
      refine lv_aload_n hx hb dX9_replay_267 rfl (lv_at hl 1 rfl) ?_
      refine q_get (C := RX9) (T := TX9) (N := 17) (ci := 9) E (fun w h => List.mem_cons_of_mem _ (inX9 w h)) hw 0 rfl rfl 0 (by decide) (List.mem_cons_of_mem _ tb_1145) (v := .ref (h 1)) rfl dX9_replay_268 ?_
      refine lv_iconst (v := 0) hx hb dX9_replay_271 (by decide) ?_
      obtain ⟨p4, h5, hM⟩ := b_some hM
      refine q_cvv (As := [.ref (h 2), .int 0, .ref (h 1), .int 0]) (rest := []) E hw hl (c_X9_copyState_backup_state l D cA tS A h F N 0 0 σ wd p4 h5) 4 (bwV bw_c tb_1545 tb_1547 tb_85 tb_111 tb_1548) rfl (by decide +kernel) ⟨Nat.le_of_ble_eq_true rfl, Nat.le_of_ble_eq_true rfl⟩ 0 9 (T := TX9) (N := 17) rfl rfl rfl rfl (Nat.le_of_ble_eq_true rfl) ⟨Nat.zero_le _, Nat.zero_le _⟩ dX9_replay_272 (fun H locs hw => ?_)
      refine lv_iload hx hb dX9_replay_275 (lv_at hl 0 rfl) ?_
      cases hM
      exact q_reti E hw dX9_replay_277
    · replace hM := i_neg hM c1
      refine lv_iload_n hx hb dX9_replay_245 rfl (lv_at hl 1 rfl) ?_
      refine lv_aload_n hx hb dX9_replay_246 rfl (lv_at hl 0 rfl) ?_
      obtain ⟨p6, h7, hM⟩ := b_some hM
      refine q_cv (As := []) (rest := [.int x3]) E hw hl (c_X9_passMinute l D cA tS A h F N σ wd p6.1 p6.2 h7) 0 (bwV bw_c tb_1387 tb_1389 tb_69 tb_111 tb_1390) rfl (by decide +kernel) ⟨Nat.le_of_ble_eq_true rfl, Nat.le_of_ble_eq_true rfl⟩ 0 9 (T := TX9) (N := 17) rfl rfl rfl rfl (Nat.le_of_ble_eq_true rfl) ⟨Nat.zero_le _, Nat.zero_le _⟩ dX9_replay_247 (fun H locs hw => ?_)
      refine lv_iadd hx hb dX9_replay_250 ?_
      refine lv_istore_n (lv' := [(3, .int (x3 + p6.1)), (0, .ref (h 0))]) hx hb dX9_replay_251 rfl hl (by decide) rfl (fun ls hl => ?_)
      refine lv_goto (tgt := 230) hx hb dX9_replay_252 (by decide) ?_
      exact ih _ _ _ _ _ hM _ _ hw _ (lv_sub hl [1, 0] rfl)
set_option maxRecDepth 100000 in
set_option maxHeartbeats 4000000 in
theorem s_X9_replay_112 (l : Launch) (D : va_G) (cA : Nat → ClassId) (tS : Nat → Nat) (A : Nat → Prop) (h : Nat → Nat) (F : va_W) (N : Nat) (k33 : Int32 → Int32 → Int32 → Sg → Int64 → Option (Int32 × Sg)) {p : Program} {e : Env} {s : State} {m : MethodId} {args : Array Value} {below : List Frame} {meth : Method} {c : Code} (E : Ev p cX9_replay 7 (some .int) RX9 (Cond.code yX9_replay cX9_replay 7 (some .int) :: bw) D cA tS A s m args meth c) (hk33 : ∀ (x1 : Int32) (x3 : Int32) (x4 : Int32) (σ : Sg) (wd : Int64) (r0 : Int32) (s0 : Sg) (hM : k33 x1 x3 x4 σ wd = some (r0, s0)) (H : Heap) (locs : List Loc) (hw : Wd D A (wM cA h σ wd ++ F) s.heap H locs) (ls : Array Slot) (hl : lv_has ls 7 [(0, .ref (h 0)), (1, .int x1), (3, .int x3), (4, .int x4)]), W p l e ({ frames := 6, cells := 0, slots := 0, locals := 139 } : Room) s m args below meth c H locs 0 0 (MQ below (QW D A (some (.int r0)) (wM cA h s0 wd ++ F)) args s 0 0 A) (F0 m 33 ls [])) : ∀ (x1 : Int32) (x3 : Int32) (x4 : Int32) (x5 : Int32) (σ : Sg) (wd : Int64) (r0 : Int32) (s0 : Sg) (hM : f_X9_replay_112 N k33 x1 x3 x4 x5 σ wd = some (r0, s0)) (H : Heap) (locs : List Loc) (hw : Wd D A (wM cA h σ wd ++ F) s.heap H locs) (ls : Array Slot) (hl : lv_has ls 7 [(0, .ref (h 0)), (1, .int x1), (3, .int x3), (4, .int x4), (5, .int x5)]), W p l e ({ frames := 6, cells := 0, slots := 0, locals := 139 } : Room) s m args below meth c H locs 0 0 (MQ below (QW D A (some (.int r0)) (wM cA h s0 wd ++ F)) args s 0 0 A) (F0 m 112 ls []) := by
  have hx := E.1.1
  have hb := E.1.2.1
  intro x1 x3 x4 x5 σ wd r0 s0 hM H locs hw ls hl
  unfold f_X9_replay_112 at hM
  refine lv_iconst (v := 0) hx hb dX9_replay_112 (by decide) ?_
  refine lv_istore (lv' := [(6, .int 0), (0, .ref (h 0)), (1, .int x1), (3, .int x3), (4, .int x4), (5, .int x5)]) hx hb dX9_replay_113 hl (by decide) rfl (fun ls hl => ?_)
  refine lv_iload hx hb dX9_replay_115 (lv_at hl 0 rfl) ?_
  refine lv_if_ne (tgt := 224) hx hb dX9_replay_117 (by decide) (fun c1 => ?_) (fun c1 => ?_)
  · first | exact absurd (by decide) c1 | exact absurd c1 (by decide)
  · refine lv_aload_n hx hb dX9_replay_120 rfl (lv_at hl 1 rfl) ?_
    refine lv_aload_n hx hb dX9_replay_121 rfl (lv_at hl 1 rfl) ?_
    refine q_get (C := RX9) (T := TX9) (N := 17) (ci := 9) E (fun w h => List.mem_cons_of_mem _ (inX9 w h)) hw 0 rfl rfl 0 (by decide) (List.mem_cons_of_mem _ tb_1145) (v := .ref (h 1)) rfl dX9_replay_122 ?_
    refine lv_iload hx hb dX9_replay_125 (lv_at hl 5 rfl) ?_
    refine lv_iconst (v := 1) hx hb dX9_replay_127 (by decide) ?_
    refine lv_iadd hx hb dX9_replay_128 ?_
    obtain ⟨g2, hM⟩ := g_some hM
    refine q_ald E hw 1 (n := 4619) rfl g2 (x := (σ 1 (ix (x5 + 1)))) rfl dX9_replay_129 ?_
    refine lv_aload_n hx hb dX9_replay_130 rfl (lv_at hl 1 rfl) ?_
    refine q_get (C := RX9) (T := TX9) (N := 17) (ci := 9) E (fun w h => List.mem_cons_of_mem _ (inX9 w h)) hw 0 rfl rfl 0 (by decide) (List.mem_cons_of_mem _ tb_1145) (v := .ref (h 1)) rfl dX9_replay_131 ?_
    refine lv_iload hx hb dX9_replay_134 (lv_at hl 5 rfl) ?_
    refine lv_iconst (v := 2) hx hb dX9_replay_136 (by decide) ?_
    refine lv_iadd hx hb dX9_replay_137 ?_
    obtain ⟨g3, hM⟩ := g_some hM
    refine q_ald E hw 1 (n := 4619) rfl g3 (x := (σ 1 (ix (x5 + 2)))) rfl dX9_replay_138 ?_
    refine lv_aload_n hx hb dX9_replay_139 rfl (lv_at hl 1 rfl) ?_
    refine q_get (C := RX9) (T := TX9) (N := 17) (ci := 9) E (fun w h => List.mem_cons_of_mem _ (inX9 w h)) hw 0 rfl rfl 0 (by decide) (List.mem_cons_of_mem _ tb_1145) (v := .ref (h 1)) rfl dX9_replay_140 ?_
    refine lv_iload hx hb dX9_replay_143 (lv_at hl 5 rfl) ?_
    refine lv_iconst (v := 3) hx hb dX9_replay_145 (by decide) ?_
    refine lv_iadd hx hb dX9_replay_146 ?_
    obtain ⟨g4, hM⟩ := g_some hM
    refine q_ald E hw 1 (n := 4619) rfl g4 (x := (σ 1 (ix (x5 + 3)))) rfl dX9_replay_147 ?_
    refine lv_aload_n hx hb dX9_replay_148 rfl (lv_at hl 1 rfl) ?_
    refine q_get (C := RX9) (T := TX9) (N := 17) (ci := 9) E (fun w h => List.mem_cons_of_mem _ (inX9 w h)) hw 0 rfl rfl 0 (by decide) (List.mem_cons_of_mem _ tb_1145) (v := .ref (h 1)) rfl dX9_replay_149 ?_
    refine lv_iload hx hb dX9_replay_152 (lv_at hl 5 rfl) ?_
    refine lv_iconst (v := 4) hx hb dX9_replay_154 (by decide) ?_
    refine lv_iadd hx hb dX9_replay_155 ?_
    obtain ⟨g5, hM⟩ := g_some hM
    refine q_ald E hw 1 (n := 4619) rfl g5 (x := (σ 1 (ix (x5 + 4)))) rfl dX9_replay_156 ?_
    refine lv_aload_n hx hb dX9_replay_157 rfl (lv_at hl 1 rfl) ?_
    refine q_get (C := RX9) (T := TX9) (N := 17) (ci := 9) E (fun w h => List.mem_cons_of_mem _ (inX9 w h)) hw 0 rfl rfl 0 (by decide) (List.mem_cons_of_mem _ tb_1145) (v := .ref (h 1)) rfl dX9_replay_158 ?_
    refine lv_iload hx hb dX9_replay_161 (lv_at hl 5 rfl) ?_
    refine lv_iconst (v := 5) hx hb dX9_replay_163 (by decide) ?_
    refine lv_iadd hx hb dX9_replay_164 ?_
    obtain ⟨g6, hM⟩ := g_some hM
    refine q_ald E hw 1 (n := 4619) rfl g6 (x := (σ 1 (ix (x5 + 5)))) rfl dX9_replay_165 ?_
    obtain ⟨p7, h8, hM⟩ := b_some hM
    refine q_cv (As := [.int (σ 1 (ix (x5 + 1))), .int (σ 1 (ix (x5 + 2))), .int (σ 1 (ix (x5 + 3))), .int (σ 1 (ix (x5 + 4))), .int (σ 1 (ix (x5 + 5)))]) (rest := []) E hw hl (c_X9_errorOf l D cA tS A h F (σ 1 (ix (x5 + 1))) (σ 1 (ix (x5 + 2))) (σ 1 (ix (x5 + 3))) (σ 1 (ix (x5 + 4))) (σ 1 (ix (x5 + 5))) σ wd p7 h8) 5 (bwV bw_c tb_1205 tb_1207 tb_45 tb_111 tb_1208) rfl (by decide +kernel) ⟨Nat.le_of_ble_eq_true rfl, Nat.le_of_ble_eq_true rfl⟩ 0 9 (T := TX9) (N := 17) rfl rfl rfl rfl (Nat.le_of_ble_eq_true rfl) ⟨Nat.zero_le _, Nat.zero_le _⟩ dX9_replay_166 (fun H locs hw => ?_)
    refine lv_if_ne (tgt := 224) hx hb dX9_replay_169 (by decide) (fun c9 => ?_) (fun c9 => ?_)
    · replace hM := i_neg hM c9
      refine lv_iinc (v := (x4 + 1)) (lv' := [(4, .int (x4 + 1)), (6, .int 0), (0, .ref (h 0)), (1, .int x1), (3, .int x3), (5, .int x5)]) hx hb dX9_replay_224 hl (k := 4) rfl rfl (by decide) rfl (fun ls hl => ?_)
      refine lv_goto (tgt := 33) hx hb dX9_replay_227 (by decide) ?_
      exact hk33 _ _ _ _ _ _ _ hM _ _ hw _ (lv_sub hl [2, 3, 4, 0] rfl)
    · replace hM := i_pos hM c9
      refine lv_iload_n hx hb dX9_replay_172 rfl (lv_at hl 3 rfl) ?_
      refine lv_aload_n hx hb dX9_replay_173 rfl (lv_at hl 1 rfl) ?_
      refine lv_aload_n hx hb dX9_replay_174 rfl (lv_at hl 1 rfl) ?_
      refine q_get (C := RX9) (T := TX9) (N := 17) (ci := 9) E (fun w h => List.mem_cons_of_mem _ (inX9 w h)) hw 0 rfl rfl 0 (by decide) (List.mem_cons_of_mem _ tb_1145) (v := .ref (h 1)) rfl dX9_replay_175 ?_
      refine lv_iload hx hb dX9_replay_178 (lv_at hl 5 rfl) ?_
      refine lv_iconst (v := 1) hx hb dX9_replay_180 (by decide) ?_
      refine lv_iadd hx hb dX9_replay_181 ?_
      refine q_ald E hw 1 (n := 4619) rfl g2 (x := (σ 1 (ix (x5 + 1)))) rfl dX9_replay_182 ?_
      refine lv_aload_n hx hb dX9_replay_183 rfl (lv_at hl 1 rfl) ?_
      refine q_get (C := RX9) (T := TX9) (N := 17) (ci := 9) E (fun w h => List.mem_cons_of_mem _ (inX9 w h)) hw 0 rfl rfl 0 (by decide) (List.mem_cons_of_mem _ tb_1145) (v := .ref (h 1)) rfl dX9_replay_184 ?_
      refine lv_iload hx hb dX9_replay_187 (lv_at hl 5 rfl) ?_
      refine lv_iconst (v := 2) hx hb dX9_replay_189 (by decide) ?_
      refine lv_iadd hx hb dX9_replay_190 ?_
      refine q_ald E hw 1 (n := 4619) rfl g3 (x := (σ 1 (ix (x5 + 2)))) rfl dX9_replay_191 ?_
      refine lv_aload_n hx hb dX9_replay_192 rfl (lv_at hl 1 rfl) ?_
      refine q_get (C := RX9) (T := TX9) (N := 17) (ci := 9) E (fun w h => List.mem_cons_of_mem _ (inX9 w h)) hw 0 rfl rfl 0 (by decide) (List.mem_cons_of_mem _ tb_1145) (v := .ref (h 1)) rfl dX9_replay_193 ?_
      refine lv_iload hx hb dX9_replay_196 (lv_at hl 5 rfl) ?_
      refine lv_iconst (v := 3) hx hb dX9_replay_198 (by decide) ?_
      refine lv_iadd hx hb dX9_replay_199 ?_
      refine q_ald E hw 1 (n := 4619) rfl g4 (x := (σ 1 (ix (x5 + 3)))) rfl dX9_replay_200 ?_
      refine lv_aload_n hx hb dX9_replay_201 rfl (lv_at hl 1 rfl) ?_
      refine q_get (C := RX9) (T := TX9) (N := 17) (ci := 9) E (fun w h => List.mem_cons_of_mem _ (inX9 w h)) hw 0 rfl rfl 0 (by decide) (List.mem_cons_of_mem _ tb_1145) (v := .ref (h 1)) rfl dX9_replay_202 ?_
      refine lv_iload hx hb dX9_replay_205 (lv_at hl 5 rfl) ?_
      refine lv_iconst (v := 4) hx hb dX9_replay_207 (by decide) ?_
      refine lv_iadd hx hb dX9_replay_208 ?_
      refine q_ald E hw 1 (n := 4619) rfl g5 (x := (σ 1 (ix (x5 + 4)))) rfl dX9_replay_209 ?_
      refine lv_aload_n hx hb dX9_replay_210 rfl (lv_at hl 1 rfl) ?_
      refine q_get (C := RX9) (T := TX9) (N := 17) (ci := 9) E (fun w h => List.mem_cons_of_mem _ (inX9 w h)) hw 0 rfl rfl 0 (by decide) (List.mem_cons_of_mem _ tb_1145) (v := .ref (h 1)) rfl dX9_replay_211 ?_
      refine lv_iload hx hb dX9_replay_214 (lv_at hl 5 rfl) ?_
      refine lv_iconst (v := 5) hx hb dX9_replay_216 (by decide) ?_
      refine lv_iadd hx hb dX9_replay_217 ?_
      refine q_ald E hw 1 (n := 4619) rfl g6 (x := (σ 1 (ix (x5 + 5)))) rfl dX9_replay_218 ?_
      obtain ⟨p10, h11, hM⟩ := b_some hM
      refine q_cv (As := [.int (σ 1 (ix (x5 + 1))), .int (σ 1 (ix (x5 + 2))), .int (σ 1 (ix (x5 + 3))), .int (σ 1 (ix (x5 + 4))), .int (σ 1 (ix (x5 + 5)))]) (rest := [.int x3]) E hw hl (c_X9_make l D cA tS A h F N (σ 1 (ix (x5 + 1))) (σ 1 (ix (x5 + 2))) (σ 1 (ix (x5 + 3))) (σ 1 (ix (x5 + 4))) (σ 1 (ix (x5 + 5))) σ wd p10.1 p10.2 h11) 5 (bwV bw_c tb_1257 tb_1259 tb_55 tb_111 tb_1260) rfl (by decide +kernel) ⟨Nat.le_of_ble_eq_true rfl, Nat.le_of_ble_eq_true rfl⟩ 0 9 (T := TX9) (N := 17) rfl rfl rfl rfl (Nat.le_of_ble_eq_true rfl) ⟨Nat.zero_le _, Nat.zero_le _⟩ dX9_replay_219 (fun H locs hw => ?_)
      refine lv_iadd hx hb dX9_replay_222 ?_
      refine lv_istore_n (lv' := [(3, .int (x3 + p10.1)), (6, .int 0), (0, .ref (h 0)), (1, .int x1), (4, .int x4), (5, .int x5)]) hx hb dX9_replay_223 rfl hl (by decide) rfl (fun ls hl => ?_)
      refine lv_iinc (v := (x4 + 1)) (lv' := [(4, .int (x4 + 1)), (3, .int (x3 + p10.1)), (6, .int 0), (0, .ref (h 0)), (1, .int x1), (5, .int x5)]) hx hb dX9_replay_224 hl (k := 4) rfl rfl (by decide) rfl (fun ls hl => ?_)
      refine lv_goto (tgt := 33) hx hb dX9_replay_227 (by decide) ?_
      exact hk33 _ _ _ _ _ _ _ hM _ _ hw _ (lv_sub hl [3, 4, 1, 0] rfl)
set_option maxRecDepth 100000 in
set_option maxHeartbeats 4000000 in
theorem s_X9_replay_56 (l : Launch) (D : va_G) (cA : Nat → ClassId) (tS : Nat → Nat) (A : Nat → Prop) (h : Nat → Nat) (F : va_W) (N : Nat) (k33 : Int32 → Int32 → Int32 → Sg → Int64 → Option (Int32 × Sg)) {p : Program} {e : Env} {s : State} {m : MethodId} {args : Array Value} {below : List Frame} {meth : Method} {c : Code} (E : Ev p cX9_replay 7 (some .int) RX9 (Cond.code yX9_replay cX9_replay 7 (some .int) :: bw) D cA tS A s m args meth c) (hk33 : ∀ (x1 : Int32) (x3 : Int32) (x4 : Int32) (σ : Sg) (wd : Int64) (r0 : Int32) (s0 : Sg) (hM : k33 x1 x3 x4 σ wd = some (r0, s0)) (H : Heap) (locs : List Loc) (hw : Wd D A (wM cA h σ wd ++ F) s.heap H locs) (ls : Array Slot) (hl : lv_has ls 7 [(0, .ref (h 0)), (1, .int x1), (3, .int x3), (4, .int x4)]), W p l e ({ frames := 6, cells := 0, slots := 0, locals := 139 } : Room) s m args below meth c H locs 0 0 (MQ below (QW D A (some (.int r0)) (wM cA h s0 wd ++ F)) args s 0 0 A) (F0 m 33 ls [])) : ∀ (n : Nat) (x1 : Int32) (x3 : Int32) (x4 : Int32) (x5 : Int32) (σ : Sg) (wd : Int64) (r0 : Int32) (s0 : Sg) (hM : f_X9_replay_56 N k33 n x1 x3 x4 x5 σ wd = some (r0, s0)) (H : Heap) (locs : List Loc) (hw : Wd D A (wM cA h σ wd ++ F) s.heap H locs) (ls : Array Slot) (hl : lv_has ls 7 [(0, .ref (h 0)), (1, .int x1), (3, .int x3), (4, .int x4), (5, .int x5)]), W p l e ({ frames := 6, cells := 0, slots := 0, locals := 139 } : Room) s m args below meth c H locs 0 0 (MQ below (QW D A (some (.int r0)) (wM cA h s0 wd ++ F)) args s 0 0 A) (F0 m 56 ls []) := by
  have hx := E.1.1
  have hb := E.1.2.1
  intro n
  induction n with
  | zero =>
    intro x1 x3 x4 x5 σ wd r0 s0 hM
    cases hM
  | succ n ih =>
    intro x1 x3 x4 x5 σ wd r0 s0 hM H locs hw ls hl
    rw [f_X9_replay_56] at hM
    refine lv_aload_n hx hb dX9_replay_56 rfl (lv_at hl 0 rfl) ?_
    refine q_get (C := RX9) (T := TX9) (N := 17) (ci := 9) E (fun w h => List.mem_cons_of_mem _ (inX9 w h)) hw 0 rfl rfl 0 (by decide) (List.mem_cons_of_mem _ tb_1145) (v := .ref (h 1)) rfl dX9_replay_57 ?_
    refine lv_iconst (v := 0) hx hb dX9_replay_60 (by decide) ?_
    refine q_ald E hw 1 (n := 4619) rfl (by decide +kernel) (x := (σ 1 (ix 0))) rfl dX9_replay_61 ?_
    refine lv_aload_n hx hb dX9_replay_62 rfl (lv_at hl 0 rfl) ?_
    refine q_get (C := RX9) (T := TX9) (N := 17) (ci := 9) E (fun w h => List.mem_cons_of_mem _ (inX9 w h)) hw 0 rfl rfl 0 (by decide) (List.mem_cons_of_mem _ tb_1145) (v := .ref (h 1)) rfl dX9_replay_63 ?_
    refine lv_iload hx hb dX9_replay_66 (lv_at hl 4 rfl) ?_
    obtain ⟨g1, hM⟩ := g_some hM
    refine q_ald E hw 1 (n := 4619) rfl g1 (x := (σ 1 (ix x5))) rfl dX9_replay_68 ?_
    refine lv_icmp_ge (tgt := 82) hx hb dX9_replay_69 (by decide) (fun c2 => ?_) (fun c2 => ?_)
    · replace hM := i_pos hM c2
      refine lv_aload_n hx hb dX9_replay_82 rfl (lv_at hl 0 rfl) ?_
      refine q_get (C := RX9) (T := TX9) (N := 17) (ci := 9) E (fun w h => List.mem_cons_of_mem _ (inX9 w h)) hw 0 rfl rfl 0 (by decide) (List.mem_cons_of_mem _ tb_1145) (v := .ref (h 1)) rfl dX9_replay_83 ?_
      refine lv_iload hx hb dX9_replay_86 (lv_at hl 4 rfl) ?_
      refine lv_iconst (v := 1) hx hb dX9_replay_88 (by decide) ?_
      refine lv_iadd hx hb dX9_replay_89 ?_
      obtain ⟨g3, hM⟩ := g_some hM
      refine q_ald E hw 1 (n := 4619) rfl g3 (x := (σ 1 (ix (x5 + 1)))) rfl dX9_replay_90 ?_
      refine lv_iconst (v := 1) hx hb dX9_replay_91 (by decide) ?_
      refine lv_icmp_ne (tgt := 112) hx hb dX9_replay_92 (by decide) (fun c4 => ?_) (fun c4 => ?_)
      · replace hM := i_neg hM c4
        exact s_X9_replay_112 l D cA tS A h F N k33 E hk33 _ _ _ _ _ _ _ _ hM _ _ hw _ (lv_sub hl [0, 1, 2, 3, 4] rfl)
      · replace hM := i_pos hM c4
        refine lv_aload_n hx hb dX9_replay_95 rfl (lv_at hl 0 rfl) ?_
        refine q_get (C := RX9) (T := TX9) (N := 17) (ci := 9) E (fun w h => List.mem_cons_of_mem _ (inX9 w h)) hw 0 rfl rfl 0 (by decide) (List.mem_cons_of_mem _ tb_1145) (v := .ref (h 1)) rfl dX9_replay_96 ?_
        refine lv_iload hx hb dX9_replay_99 (lv_at hl 4 rfl) ?_
        refine lv_iconst (v := 2) hx hb dX9_replay_101 (by decide) ?_
        refine lv_iadd hx hb dX9_replay_102 ?_
        obtain ⟨g5, hM⟩ := g_some hM
        refine q_ald E hw 1 (n := 4619) rfl g5 (x := (σ 1 (ix (x5 + 2)))) rfl dX9_replay_103 ?_
        refine lv_iload_n hx hb dX9_replay_104 rfl (lv_at hl 1 rfl) ?_
        refine lv_icmp_ne (tgt := 112) hx hb dX9_replay_105 (by decide) (fun c6 => ?_) (fun c6 => ?_)
        · replace hM := i_neg hM c6
          exact s_X9_replay_112 l D cA tS A h F N k33 E hk33 _ _ _ _ _ _ _ _ hM _ _ hw _ (lv_sub hl [0, 1, 2, 3, 4] rfl)
        · replace hM := i_pos hM c6
          refine lv_iconst (v := 1) hx hb dX9_replay_108 (by decide) ?_
          refine lv_goto (tgt := 113) hx hb dX9_replay_109 (by decide) ?_
          refine lv_istore (lv' := [(6, .int 1), (0, .ref (h 0)), (1, .int x1), (3, .int x3), (4, .int x4), (5, .int x5)]) hx hb dX9_replay_113 hl (by decide) rfl (fun ls hl => ?_)
          refine lv_iload hx hb dX9_replay_115 (lv_at hl 0 rfl) ?_
          refine lv_if_ne (tgt := 224) hx hb dX9_replay_117 (by decide) (fun c7 => ?_) (fun c7 => ?_)
          · refine lv_iinc (v := (x4 + 1)) (lv' := [(4, .int (x4 + 1)), (6, .int 1), (0, .ref (h 0)), (1, .int x1), (3, .int x3), (5, .int x5)]) hx hb dX9_replay_224 hl (k := 4) rfl rfl (by decide) rfl (fun ls hl => ?_)
            refine lv_goto (tgt := 33) hx hb dX9_replay_227 (by decide) ?_
            exact hk33 _ _ _ _ _ _ _ hM _ _ hw _ (lv_sub hl [2, 3, 4, 0] rfl)
          · first | exact absurd (by decide) c7 | exact absurd c7 (by decide)
    · replace hM := i_neg hM c2
      refine lv_iload_n hx hb dX9_replay_72 rfl (lv_at hl 2 rfl) ?_
      refine lv_aload_n hx hb dX9_replay_73 rfl (lv_at hl 0 rfl) ?_
      obtain ⟨p8, h9, hM⟩ := b_some hM
      refine q_cv (As := []) (rest := [.int x3]) E hw hl (c_X9_passMinute l D cA tS A h F N σ wd p8.1 p8.2 h9) 0 (bwV bw_c tb_1387 tb_1389 tb_69 tb_111 tb_1390) rfl (by decide +kernel) ⟨Nat.le_of_ble_eq_true rfl, Nat.le_of_ble_eq_true rfl⟩ 0 9 (T := TX9) (N := 17) rfl rfl rfl rfl (Nat.le_of_ble_eq_true rfl) ⟨Nat.zero_le _, Nat.zero_le _⟩ dX9_replay_74 (fun H locs hw => ?_)
      refine lv_iadd hx hb dX9_replay_77 ?_
      refine lv_istore_n (lv' := [(3, .int (x3 + p8.1)), (0, .ref (h 0)), (1, .int x1), (4, .int x4), (5, .int x5)]) hx hb dX9_replay_78 rfl hl (by decide) rfl (fun ls hl => ?_)
      refine lv_goto (tgt := 56) hx hb dX9_replay_79 (by decide) ?_
      exact ih _ _ _ _ _ _ _ _ hM _ _ hw _ (lv_sub hl [1, 2, 0, 3, 4] rfl)
set_option maxRecDepth 100000 in
set_option maxHeartbeats 4000000 in
theorem s_X9_replay_33 (l : Launch) (D : va_G) (cA : Nat → ClassId) (tS : Nat → Nat) (A : Nat → Prop) (h : Nat → Nat) (F : va_W) (N : Nat) {p : Program} {e : Env} {s : State} {m : MethodId} {args : Array Value} {below : List Frame} {meth : Method} {c : Code} (E : Ev p cX9_replay 7 (some .int) RX9 (Cond.code yX9_replay cX9_replay 7 (some .int) :: bw) D cA tS A s m args meth c) : ∀ (n : Nat) (x1 : Int32) (x3 : Int32) (x4 : Int32) (σ : Sg) (wd : Int64) (r0 : Int32) (s0 : Sg) (hM : f_X9_replay_33 N n x1 x3 x4 σ wd = some (r0, s0)) (H : Heap) (locs : List Loc) (hw : Wd D A (wM cA h σ wd ++ F) s.heap H locs) (ls : Array Slot) (hl : lv_has ls 7 [(0, .ref (h 0)), (1, .int x1), (3, .int x3), (4, .int x4)]), W p l e ({ frames := 6, cells := 0, slots := 0, locals := 139 } : Room) s m args below meth c H locs 0 0 (MQ below (QW D A (some (.int r0)) (wM cA h s0 wd ++ F)) args s 0 0 A) (F0 m 33 ls []) := by
  have hx := E.1.1
  have hb := E.1.2.1
  intro n
  induction n with
  | zero =>
    intro x1 x3 x4 σ wd r0 s0 hM
    cases hM
  | succ n ih =>
    intro x1 x3 x4 σ wd r0 s0 hM H locs hw ls hl
    rw [f_X9_replay_33] at hM
    refine lv_iload hx hb dX9_replay_33 (lv_at hl 3 rfl) ?_
    refine lv_aload_n hx hb dX9_replay_35 rfl (lv_at hl 0 rfl) ?_
    refine q_get (C := RX9) (T := TX9) (N := 17) (ci := 9) E (fun w h => List.mem_cons_of_mem _ (inX9 w h)) hw 0 rfl rfl 0 (by decide) (List.mem_cons_of_mem _ tb_1145) (v := .ref (h 1)) rfl dX9_replay_36 ?_
    refine lv_bipush (v := 57) hx hb dX9_replay_39 (by decide) ?_
    refine q_ald E hw 1 (n := 4619) rfl (by decide +kernel) (x := (σ 1 (ix 57))) rfl dX9_replay_41 ?_
    refine lv_icmp_ge (tgt := 230) hx hb dX9_replay_42 (by decide) (fun c1 => ?_) (fun c1 => ?_)
    · replace hM := i_pos hM c1
      exact s_X9_replay_230 l D cA tS A h F N E N _ _ _ _ _ hM _ _ hw _ (lv_sub hl [0, 2] rfl)
    · replace hM := i_neg hM c1
      refine lv_sipush (v := 1019) hx hb dX9_replay_45 (by decide) ?_
      refine lv_bipush (v := 6) hx hb dX9_replay_48 (by decide) ?_
      refine lv_iload hx hb dX9_replay_50 (lv_at hl 3 rfl) ?_
      refine lv_imul hx hb dX9_replay_52 ?_
      refine lv_iadd hx hb dX9_replay_53 ?_
      refine lv_istore (lv' := [(5, .int (1019 + (6 * x4))), (0, .ref (h 0)), (1, .int x1), (3, .int x3), (4, .int x4)]) hx hb dX9_replay_54 hl (by decide) rfl (fun ls hl => ?_)
      exact s_X9_replay_56 l D cA tS A h F N (fun x1 x3 x4 σ wd => f_X9_replay_33 N n x1 x3 x4 σ wd) E ih N _ _ _ _ _ _ _ _ hM _ _ hw _ (lv_sub hl [1, 2, 3, 4, 0] rfl)
set_option maxRecDepth 100000 in
set_option maxHeartbeats 4000000 in
theorem c_X9_replay (l : Launch) (D : va_G) (cA : Nat → ClassId) (tS : Nat → Nat) (A : Nat → Prop) (h : Nat → Nat) (F : va_W) (N : Nat) (x1 : Int32) (x2 : Int32) (σ : Sg) (wd : Int64) (r0 : Int32) (s0 : Sg) (hM : f_X9_replay N x1 x2 σ wd = some (r0, s0)) : Ct l yX9_replay (Cond.code yX9_replay cX9_replay 7 (some .int) :: bw) 6 139 D cA tS A [.ref (h 0), .int x1, .int x2] (wM cA h σ wd ++ F) (some (.int r0)) (wM cA h s0 wd ++ F) := by
  refine ct_of (by decide +kernel) (Nat.le_of_ble_eq_true rfl) ?_
  intro p e s m below meth c E hw ls hl
  replace E : Ev p cX9_replay 7 (some .int) RX9 (Cond.code yX9_replay cX9_replay 7 (some .int) :: bw) D cA tS A s m _ meth c := E
  replace hl : lv_has ls 7 [(0, .ref (h 0)), (1, .int x1), (2, .int x2)] := hl
  have hx := E.1.1
  have hb := E.1.2.1
  unfold f_X9_replay at hM
  refine lv_aload_n hx hb dX9_replay_0 rfl (lv_at hl 0 rfl) ?_
  refine lv_aload_n hx hb dX9_replay_1 rfl (lv_at hl 0 rfl) ?_
  refine q_get (C := RX9) (T := TX9) (N := 17) (ci := 9) E (fun w h => List.mem_cons_of_mem _ (inX9 w h)) hw 0 rfl rfl 0 (by decide) (List.mem_cons_of_mem _ tb_1145) (v := .ref (h 1)) rfl dX9_replay_2 ?_
  refine lv_iconst (v := 0) hx hb dX9_replay_5 (by decide) ?_
  refine lv_aload_n hx hb dX9_replay_6 rfl (lv_at hl 0 rfl) ?_
  refine q_get (C := RX9) (T := TX9) (N := 17) (ci := 9) E (fun w h => List.mem_cons_of_mem _ (inX9 w h)) hw 0 rfl rfl 1 (by decide) (List.mem_cons_of_mem _ tb_1146) (v := .ref (h 2)) rfl dX9_replay_7 ?_
  refine lv_iconst (v := 0) hx hb dX9_replay_10 (by decide) ?_
  obtain ⟨p1, h2, hM⟩ := b_some hM
  refine q_cvv (As := [.ref (h 1), .int 0, .ref (h 2), .int 0]) (rest := []) E hw hl (c_X9_copyState_state_backup l D cA tS A h F N 0 0 σ wd p1 h2) 4 (bwV bw_c tb_1545 tb_1547 tb_85 tb_111 tb_1548) rfl (by decide +kernel) ⟨Nat.le_of_ble_eq_true rfl, Nat.le_of_ble_eq_true rfl⟩ 0 9 (T := TX9) (N := 17) rfl rfl rfl rfl (Nat.le_of_ble_eq_true rfl) ⟨Nat.zero_le _, Nat.zero_le _⟩ dX9_replay_11 (fun H locs hw => ?_)
  refine lv_aload_n hx hb dX9_replay_14 rfl (lv_at hl 0 rfl) ?_
  obtain ⟨p3, h4, hM⟩ := b_some hM
  refine q_cvv (As := []) (rest := []) E hw hl (c_X9_beginAtZero l D cA tS A h F N p1 wd p3 h4) 0 (bwV bw_c tb_1141 tb_1143 tb_43 tb_111 tb_1144) rfl (by decide +kernel) ⟨Nat.le_of_ble_eq_true rfl, Nat.le_of_ble_eq_true rfl⟩ 0 9 (T := TX9) (N := 17) rfl rfl rfl rfl (Nat.le_of_ble_eq_true rfl) ⟨Nat.zero_le _, Nat.zero_le _⟩ dX9_replay_15 (fun H locs hw => ?_)
  refine lv_aload_n hx hb dX9_replay_18 rfl (lv_at hl 0 rfl) ?_
  refine q_get (C := RX9) (T := TX9) (N := 17) (ci := 9) E (fun w h => List.mem_cons_of_mem _ (inX9 w h)) hw 0 rfl rfl 0 (by decide) (List.mem_cons_of_mem _ tb_1145) (v := .ref (h 1)) rfl dX9_replay_19 ?_
  refine lv_bipush (v := 15) hx hb dX9_replay_22 (by decide) ?_
  refine lv_iload_n hx hb dX9_replay_24 rfl (lv_at hl 1 rfl) ?_
  refine lv_iadd hx hb dX9_replay_25 ?_
  refine lv_iload_n hx hb dX9_replay_26 rfl (lv_at hl 2 rfl) ?_
  obtain ⟨g5, hM⟩ := g_some hM
  refine q_ast E hw 1 (n := 4619) rfl g5 (wM cA h (up p3 1 (ix (15 + x1)) x2) wd ++ F) st_M_1 dX9_replay_27 (fun H locs hw => ?_)
  refine lv_iconst (v := 0) hx hb dX9_replay_28 (by decide) ?_
  refine lv_istore_n (lv' := [(3, .int 0), (0, .ref (h 0)), (1, .int x1), (2, .int x2)]) hx hb dX9_replay_29 rfl hl (by decide) rfl (fun ls hl => ?_)
  refine lv_iconst (v := 0) hx hb dX9_replay_30 (by decide) ?_
  refine lv_istore (lv' := [(4, .int 0), (3, .int 0), (0, .ref (h 0)), (1, .int x1), (2, .int x2)]) hx hb dX9_replay_31 hl (by decide) rfl (fun ls hl => ?_)
  exact s_X9_replay_33 l D cA tS A h F N E N _ _ _ _ _ _ _ hM _ _ hw _ (lv_sub hl [2, 3, 1, 0] rfl)
set_option maxRecDepth 100000 in
set_option maxHeartbeats 4000000 in
theorem c_X9_breachesWith (l : Launch) (D : va_G) (cA : Nat → ClassId) (tS : Nat → Nat) (A : Nat → Prop) (h : Nat → Nat) (F : va_W) (N : Nat) (x1 : Int32) (x2 : Int32) (σ : Sg) (wd : Int64) (r0 : Int32) (s0 : Sg) (hM : f_X9_breachesWith N x1 x2 σ wd = some (r0, s0)) : Ct l yX9_breachesWith (Cond.code yX9_breachesWith cX9_breachesWith 3 (some .int) :: bw) 7 165 D cA tS A [.ref (h 0), .int x1, .int x2] (wM cA h σ wd ++ F) (some (.int r0)) (wM cA h s0 wd ++ F) := by
  refine ct_of (by decide +kernel) (Nat.le_of_ble_eq_true rfl) ?_
  intro p e s m below meth c E hw ls hl
  replace E : Ev p cX9_breachesWith 3 (some .int) RX9 (Cond.code yX9_breachesWith cX9_breachesWith 3 (some .int) :: bw) D cA tS A s m _ meth c := E
  replace hl : lv_has ls 3 [(0, .ref (h 0)), (1, .int x1), (2, .int x2)] := hl
  have hx := E.1.1
  have hb := E.1.2.1
  unfold f_X9_breachesWith at hM
  refine lv_iload_n hx hb dX9_breachesWith_0 rfl (lv_at hl 1 rfl) ?_
  obtain ⟨p1, h2, hM⟩ := b_some hM
  refine q_cs (As := [.int x1]) (rest := []) E hw hl (c_X9_isLevel l D cA tS A (wM cA h σ wd ++ F) x1 p1 h2) 1 (bwS bw_c tb_1218 tb_1219 tb_111 tb_1220) rfl (by decide +kernel) ⟨Nat.le_of_ble_eq_true rfl, Nat.le_of_ble_eq_true rfl⟩ rfl rfl (Nat.le_of_ble_eq_true rfl) ⟨Nat.zero_le _, Nat.zero_le _⟩ dX9_breachesWith_1 (fun H locs hw => ?_)
  refine lv_if_eq (tgt := 26) hx hb dX9_breachesWith_4 (by decide) (fun c3 => ?_) (fun c3 => ?_)
  · replace hM := i_pos hM c3
    refine lv_bipush (v := (-4)) hx hb dX9_breachesWith_26 (by decide) ?_
    cases hM
    exact q_reti E hw dX9_breachesWith_28
  · replace hM := i_neg hM c3
    refine lv_iload_n hx hb dX9_breachesWith_7 rfl (lv_at hl 2 rfl) ?_
    refine lv_iconst (v := 0) hx hb dX9_breachesWith_8 (by decide) ?_
    refine lv_bipush (v := 9) hx hb dX9_breachesWith_9 (by decide) ?_
    obtain ⟨p4, h5, hM⟩ := b_some hM
    refine q_cs (As := [.int x2, .int 0, .int 9]) (rest := []) E hw hl (c_X9_isBetween l D cA tS A (wM cA h σ wd ++ F) x2 0 9 p4 h5) 3 (bwS bw_c tb_1212 tb_1213 tb_111 tb_1214) rfl (by decide +kernel) ⟨Nat.le_of_ble_eq_true rfl, Nat.le_of_ble_eq_true rfl⟩ rfl rfl (Nat.le_of_ble_eq_true rfl) ⟨Nat.zero_le _, Nat.zero_le _⟩ dX9_breachesWith_11 (fun H locs hw => ?_)
    refine lv_if_eq (tgt := 26) hx hb dX9_breachesWith_14 (by decide) (fun c6 => ?_) (fun c6 => ?_)
    · replace hM := i_pos hM c6
      refine lv_bipush (v := (-4)) hx hb dX9_breachesWith_26 (by decide) ?_
      cases hM
      exact q_reti E hw dX9_breachesWith_28
    · replace hM := i_neg hM c6
      refine lv_aload_n hx hb dX9_breachesWith_17 rfl (lv_at hl 0 rfl) ?_
      refine lv_iload_n hx hb dX9_breachesWith_18 rfl (lv_at hl 1 rfl) ?_
      refine lv_iload_n hx hb dX9_breachesWith_19 rfl (lv_at hl 2 rfl) ?_
      obtain ⟨p7, h8, hM⟩ := b_some hM
      refine q_cv (As := [.int x1, .int x2]) (rest := []) E hw hl (c_X9_replay l D cA tS A h F N x1 x2 σ wd p7.1 p7.2 h8) 2 (bwV bw_c tb_1561 tb_1563 tb_87 tb_111 tb_1564) rfl (by decide +kernel) ⟨Nat.le_of_ble_eq_true rfl, Nat.le_of_ble_eq_true rfl⟩ 0 9 (T := TX9) (N := 17) rfl rfl rfl rfl (Nat.le_of_ble_eq_true rfl) ⟨Nat.zero_le _, Nat.zero_le _⟩ dX9_breachesWith_20 (fun H locs hw => ?_)
      refine lv_goto (tgt := 28) hx hb dX9_breachesWith_23 (by decide) ?_
      cases hM
      exact q_reti E hw dX9_breachesWith_28
set_option maxRecDepth 100000 in
set_option maxHeartbeats 4000000 in
theorem s_X9_leastAgents_12 (l : Launch) (D : va_G) (cA : Nat → ClassId) (tS : Nat → Nat) (A : Nat → Prop) (h : Nat → Nat) (F : va_W) (N : Nat) {p : Program} {e : Env} {s : State} {m : MethodId} {args : Array Value} {below : List Frame} {meth : Method} {c : Code} (E : Ev p cX9_leastAgents 3 (some .int) RX9 (Cond.code yX9_leastAgents cX9_leastAgents 3 (some .int) :: bw) D cA tS A s m args meth c) : ∀ (n : Nat) (x1 : Int32) (x2 : Int32) (σ : Sg) (wd : Int64) (r0 : Int32) (s0 : Sg) (hM : f_X9_leastAgents_12 N n x1 x2 σ wd = some (r0, s0)) (H : Heap) (locs : List Loc) (hw : Wd D A (wM cA h σ wd ++ F) s.heap H locs) (ls : Array Slot) (hl : lv_has ls 3 [(0, .ref (h 0)), (1, .int x1), (2, .int x2)]), W p l e ({ frames := 7, cells := 0, slots := 0, locals := 165 } : Room) s m args below meth c H locs 0 0 (MQ below (QW D A (some (.int r0)) (wM cA h s0 wd ++ F)) args s 0 0 A) (F0 m 12 ls []) := by
  have hx := E.1.1
  have hb := E.1.2.1
  intro n
  induction n with
  | zero =>
    intro x1 x2 σ wd r0 s0 hM
    cases hM
  | succ n ih =>
    intro x1 x2 σ wd r0 s0 hM H locs hw ls hl
    rw [f_X9_leastAgents_12] at hM
    refine lv_iload_n hx hb dX9_leastAgents_12 rfl (lv_at hl 2 rfl) ?_
    refine lv_bipush (v := 9) hx hb dX9_leastAgents_13 (by decide) ?_
    refine lv_icmp_gt (tgt := 35) hx hb dX9_leastAgents_15 (by decide) (fun c1 => ?_) (fun c1 => ?_)
    · replace hM := i_pos hM c1
      refine lv_iconst (v := (-1)) hx hb dX9_leastAgents_35 (by decide) ?_
      cases hM
      exact q_reti E hw dX9_leastAgents_36
    · replace hM := i_neg hM c1
      refine lv_aload_n hx hb dX9_leastAgents_18 rfl (lv_at hl 0 rfl) ?_
      refine lv_iload_n hx hb dX9_leastAgents_19 rfl (lv_at hl 1 rfl) ?_
      refine lv_iload_n hx hb dX9_leastAgents_20 rfl (lv_at hl 2 rfl) ?_
      obtain ⟨p2, h3, hM⟩ := b_some hM
      refine q_cv (As := [.int x1, .int x2]) (rest := []) E hw hl (c_X9_replay l D cA tS A h F N x1 x2 σ wd p2.1 p2.2 h3) 2 (bwV bw_c tb_1561 tb_1563 tb_87 tb_111 tb_1564) rfl (by decide +kernel) ⟨Nat.le_of_ble_eq_true rfl, Nat.le_of_ble_eq_true rfl⟩ 0 9 (T := TX9) (N := 17) rfl rfl rfl rfl (Nat.le_of_ble_eq_true rfl) ⟨Nat.zero_le _, Nat.zero_le _⟩ dX9_leastAgents_21 (fun H locs hw => ?_)
      refine lv_if_ne (tgt := 29) hx hb dX9_leastAgents_24 (by decide) (fun c4 => ?_) (fun c4 => ?_)
      · replace hM := i_neg hM c4
        refine lv_iinc (v := (x2 + 1)) (lv' := [(2, .int (x2 + 1)), (0, .ref (h 0)), (1, .int x1)]) hx hb dX9_leastAgents_29 hl (k := 2) rfl rfl (by decide) rfl (fun ls hl => ?_)
        refine lv_goto (tgt := 12) hx hb dX9_leastAgents_32 (by decide) ?_
        exact ih _ _ _ _ _ _ hM _ _ hw _ (lv_sub hl [1, 2, 0] rfl)
      · replace hM := i_pos hM c4
        refine lv_iload_n hx hb dX9_leastAgents_27 rfl (lv_at hl 2 rfl) ?_
        cases hM
        exact q_reti E hw dX9_leastAgents_28
set_option maxRecDepth 100000 in
set_option maxHeartbeats 4000000 in
theorem c_X9_leastAgents (l : Launch) (D : va_G) (cA : Nat → ClassId) (tS : Nat → Nat) (A : Nat → Prop) (h : Nat → Nat) (F : va_W) (N : Nat) (x1 : Int32) (σ : Sg) (wd : Int64) (r0 : Int32) (s0 : Sg) (hM : f_X9_leastAgents N x1 σ wd = some (r0, s0)) : Ct l yX9_leastAgents (Cond.code yX9_leastAgents cX9_leastAgents 3 (some .int) :: bw) 7 165 D cA tS A [.ref (h 0), .int x1] (wM cA h σ wd ++ F) (some (.int r0)) (wM cA h s0 wd ++ F) := by
  refine ct_of (by decide +kernel) (Nat.le_of_ble_eq_true rfl) ?_
  intro p e s m below meth c E hw ls hl
  replace E : Ev p cX9_leastAgents 3 (some .int) RX9 (Cond.code yX9_leastAgents cX9_leastAgents 3 (some .int) :: bw) D cA tS A s m _ meth c := E
  replace hl : lv_has ls 3 [(0, .ref (h 0)), (1, .int x1)] := hl
  have hx := E.1.1
  have hb := E.1.2.1
  unfold f_X9_leastAgents at hM
  refine lv_iload_n hx hb dX9_leastAgents_0 rfl (lv_at hl 1 rfl) ?_
  obtain ⟨p1, h2, hM⟩ := b_some hM
  refine q_cs (As := [.int x1]) (rest := []) E hw hl (c_X9_isLevel l D cA tS A (wM cA h σ wd ++ F) x1 p1 h2) 1 (bwS bw_c tb_1218 tb_1219 tb_111 tb_1220) rfl (by decide +kernel) ⟨Nat.le_of_ble_eq_true rfl, Nat.le_of_ble_eq_true rfl⟩ rfl rfl (Nat.le_of_ble_eq_true rfl) ⟨Nat.zero_le _, Nat.zero_le _⟩ dX9_leastAgents_1 (fun H locs hw => ?_)
  refine lv_if_ne (tgt := 10) hx hb dX9_leastAgents_4 (by decide) (fun c3 => ?_) (fun c3 => ?_)
  · replace hM := i_neg hM c3
    refine lv_iconst (v := 0) hx hb dX9_leastAgents_10 (by decide) ?_
    refine lv_istore_n (lv' := [(2, .int 0), (0, .ref (h 0)), (1, .int x1)]) hx hb dX9_leastAgents_11 rfl hl (by decide) rfl (fun ls hl => ?_)
    exact s_X9_leastAgents_12 l D cA tS A h F N E N _ _ _ _ _ _ hM _ _ hw _ (lv_sub hl [1, 2, 0] rfl)
  · replace hM := i_pos hM c3
    refine lv_bipush (v := (-4)) hx hb dX9_leastAgents_7 (by decide) ?_
    cases hM
    exact q_reti E hw dX9_leastAgents_9
set_option maxRecDepth 100000 in
set_option maxHeartbeats 4000000 in
theorem c_X9_historyLength (l : Launch) (D : va_G) (cA : Nat → ClassId) (tS : Nat → Nat) (A : Nat → Prop) (h : Nat → Nat) (F : va_W) (σ : Sg) (wd : Int64) (r0 : Int32) (hM : f_X9_historyLength σ wd = some r0) : Ct l yX9_historyLength (Cond.code yX9_historyLength cX9_historyLength 1 (some .int) :: bw) 0 0 D cA tS A [.ref (h 0)] (wM cA h σ wd ++ F) (some (.int r0)) (wM cA h σ wd ++ F) := by
  refine ct_of (by decide +kernel) (Nat.le_of_ble_eq_true rfl) ?_
  intro p e s m below meth c E hw ls hl
  replace E : Ev p cX9_historyLength 1 (some .int) RX9 (Cond.code yX9_historyLength cX9_historyLength 1 (some .int) :: bw) D cA tS A s m _ meth c := E
  replace hl : lv_has ls 1 [(0, .ref (h 0))] := hl
  have hx := E.1.1
  have hb := E.1.2.1
  unfold f_X9_historyLength at hM
  refine lv_aload_n hx hb dX9_historyLength_0 rfl (lv_at hl 0 rfl) ?_
  refine q_get (C := RX9) (T := TX9) (N := 17) (ci := 9) E (fun w h => List.mem_cons_of_mem _ (inX9 w h)) hw 0 rfl rfl 0 (by decide) (List.mem_cons_of_mem _ tb_1145) (v := .ref (h 1)) rfl dX9_historyLength_1 ?_
  refine lv_bipush (v := 57) hx hb dX9_historyLength_4 (by decide) ?_
  refine q_ald E hw 1 (n := 4619) rfl (by decide +kernel) (x := (σ 1 (ix 57))) rfl dX9_historyLength_6 ?_
  cases hM
  exact q_reti E hw dX9_historyLength_7
set_option maxRecDepth 100000 in
set_option maxHeartbeats 4000000 in
theorem c_X9_logSize (l : Launch) (D : va_G) (cA : Nat → ClassId) (tS : Nat → Nat) (A : Nat → Prop) (h : Nat → Nat) (F : va_W) (σ : Sg) (wd : Int64) (r0 : Int32) (hM : f_X9_logSize σ wd = some r0) : Ct l yX9_logSize (Cond.code yX9_logSize cX9_logSize 1 (some .int) :: bw) 0 0 D cA tS A [.ref (h 0)] (wM cA h σ wd ++ F) (some (.int r0)) (wM cA h σ wd ++ F) := by
  refine ct_of (by decide +kernel) (Nat.le_of_ble_eq_true rfl) ?_
  intro p e s m below meth c E hw ls hl
  replace E : Ev p cX9_logSize 1 (some .int) RX9 (Cond.code yX9_logSize cX9_logSize 1 (some .int) :: bw) D cA tS A s m _ meth c := E
  replace hl : lv_has ls 1 [(0, .ref (h 0))] := hl
  have hx := E.1.1
  have hb := E.1.2.1
  unfold f_X9_logSize at hM
  refine lv_aload_n hx hb dX9_logSize_0 rfl (lv_at hl 0 rfl) ?_
  refine q_get (C := RX9) (T := TX9) (N := 17) (ci := 9) E (fun w h => List.mem_cons_of_mem _ (inX9 w h)) hw 0 rfl rfl 0 (by decide) (List.mem_cons_of_mem _ tb_1145) (v := .ref (h 1)) rfl dX9_logSize_1 ?_
  refine lv_bipush (v := 58) hx hb dX9_logSize_4 (by decide) ?_
  refine q_ald E hw 1 (n := 4619) rfl (by decide +kernel) (x := (σ 1 (ix 58))) rfl dX9_logSize_6 ?_
  cases hM
  exact q_reti E hw dX9_logSize_7
set_option maxRecDepth 100000 in
set_option maxHeartbeats 4000000 in
theorem c_X9_eventField (l : Launch) (D : va_G) (cA : Nat → ClassId) (tS : Nat → Nat) (A : Nat → Prop) (h : Nat → Nat) (F : va_W) (x1 : Int32) (x2 : Int32) (σ : Sg) (wd : Int64) (r0 : Int32) (hM : f_X9_eventField x1 x2 σ wd = some r0) : Ct l yX9_eventField (Cond.code yX9_eventField cX9_eventField 3 (some .int) :: bw) 1 22 D cA tS A [.ref (h 0), .int x1, .int x2] (wM cA h σ wd ++ F) (some (.int r0)) (wM cA h σ wd ++ F) := by
  refine ct_of (by decide +kernel) (Nat.le_of_ble_eq_true rfl) ?_
  intro p e s m below meth c E hw ls hl
  replace E : Ev p cX9_eventField 3 (some .int) RX9 (Cond.code yX9_eventField cX9_eventField 3 (some .int) :: bw) D cA tS A s m _ meth c := E
  replace hl : lv_has ls 3 [(0, .ref (h 0)), (1, .int x1), (2, .int x2)] := hl
  have hx := E.1.1
  have hb := E.1.2.1
  unfold f_X9_eventField at hM
  refine lv_iload_n hx hb dX9_eventField_0 rfl (lv_at hl 1 rfl) ?_
  refine lv_iconst (v := 0) hx hb dX9_eventField_1 (by decide) ?_
  refine lv_aload_n hx hb dX9_eventField_2 rfl (lv_at hl 0 rfl) ?_
  refine q_get (C := RX9) (T := TX9) (N := 17) (ci := 9) E (fun w h => List.mem_cons_of_mem _ (inX9 w h)) hw 0 rfl rfl 0 (by decide) (List.mem_cons_of_mem _ tb_1145) (v := .ref (h 1)) rfl dX9_eventField_3 ?_
  refine lv_bipush (v := 58) hx hb dX9_eventField_6 (by decide) ?_
  refine q_ald E hw 1 (n := 4619) rfl (by decide +kernel) (x := (σ 1 (ix 58))) rfl dX9_eventField_8 ?_
  refine lv_iconst (v := 1) hx hb dX9_eventField_9 (by decide) ?_
  refine lv_isub hx hb dX9_eventField_10 ?_
  obtain ⟨p1, h2, hM⟩ := b_some hM
  refine q_cs (As := [.int x1, .int 0, .int ((σ 1 (ix 58)) - 1)]) (rest := []) E hw hl (c_X9_isBetween l D cA tS A (wM cA h σ wd ++ F) x1 0 ((σ 1 (ix 58)) - 1) p1 h2) 3 (bwS bw_c tb_1212 tb_1213 tb_111 tb_1214) rfl (by decide +kernel) ⟨Nat.le_of_ble_eq_true rfl, Nat.le_of_ble_eq_true rfl⟩ rfl rfl (Nat.le_of_ble_eq_true rfl) ⟨Nat.zero_le _, Nat.zero_le _⟩ dX9_eventField_11 (fun H locs hw => ?_)
  refine lv_if_eq (tgt := 34) hx hb dX9_eventField_14 (by decide) (fun c3 => ?_) (fun c3 => ?_)
  · replace hM := i_pos hM c3
    refine lv_bipush (v := (-4)) hx hb dX9_eventField_34 (by decide) ?_
    cases hM
    exact q_reti E hw dX9_eventField_36
  · replace hM := i_neg hM c3
    refine lv_aload_n hx hb dX9_eventField_17 rfl (lv_at hl 0 rfl) ?_
    refine q_get (C := RX9) (T := TX9) (N := 17) (ci := 9) E (fun w h => List.mem_cons_of_mem _ (inX9 w h)) hw 0 rfl rfl 0 (by decide) (List.mem_cons_of_mem _ tb_1145) (v := .ref (h 1)) rfl dX9_eventField_18 ?_
    refine lv_sipush (v := 2219) hx hb dX9_eventField_21 (by decide) ?_
    refine lv_iconst (v := 4) hx hb dX9_eventField_24 (by decide) ?_
    refine lv_iload_n hx hb dX9_eventField_25 rfl (lv_at hl 1 rfl) ?_
    refine lv_imul hx hb dX9_eventField_26 ?_
    refine lv_iadd hx hb dX9_eventField_27 ?_
    refine lv_iload_n hx hb dX9_eventField_28 rfl (lv_at hl 2 rfl) ?_
    refine lv_iadd hx hb dX9_eventField_29 ?_
    obtain ⟨g4, hM⟩ := g_some hM
    refine q_ald E hw 1 (n := 4619) rfl g4 (x := (σ 1 (ix ((2219 + (4 * x1)) + x2)))) rfl dX9_eventField_30 ?_
    refine lv_goto (tgt := 36) hx hb dX9_eventField_31 (by decide) ?_
    cases hM
    exact q_reti E hw dX9_eventField_36
set_option maxRecDepth 100000 in
set_option maxHeartbeats 4000000 in
theorem c_X9_logTime (l : Launch) (D : va_G) (cA : Nat → ClassId) (tS : Nat → Nat) (A : Nat → Prop) (h : Nat → Nat) (F : va_W) (x1 : Int32) (σ : Sg) (wd : Int64) (r0 : Int32) (hM : f_X9_logTime x1 σ wd = some r0) : Ct l yX9_logTime (Cond.code yX9_logTime cX9_logTime 2 (some .int) :: bw) 2 44 D cA tS A [.ref (h 0), .int x1] (wM cA h σ wd ++ F) (some (.int r0)) (wM cA h σ wd ++ F) := by
  refine ct_of (by decide +kernel) (Nat.le_of_ble_eq_true rfl) ?_
  intro p e s m below meth c E hw ls hl
  replace E : Ev p cX9_logTime 2 (some .int) RX9 (Cond.code yX9_logTime cX9_logTime 2 (some .int) :: bw) D cA tS A s m _ meth c := E
  replace hl : lv_has ls 2 [(0, .ref (h 0)), (1, .int x1)] := hl
  have hx := E.1.1
  have hb := E.1.2.1
  unfold f_X9_logTime at hM
  refine lv_aload_n hx hb dX9_logTime_0 rfl (lv_at hl 0 rfl) ?_
  refine lv_iload_n hx hb dX9_logTime_1 rfl (lv_at hl 1 rfl) ?_
  refine lv_iconst (v := 0) hx hb dX9_logTime_2 (by decide) ?_
  obtain ⟨p1, h2, hM⟩ := b_some hM
  refine q_cv (As := [.int x1, .int 0]) (rest := []) E hw hl (c_X9_eventField l D cA tS A h F x1 0 σ wd p1 h2) 2 (bwV bw_c tb_1581 tb_1583 tb_88 tb_111 tb_1584) rfl (by decide +kernel) ⟨Nat.le_of_ble_eq_true rfl, Nat.le_of_ble_eq_true rfl⟩ 0 9 (T := TX9) (N := 17) rfl rfl rfl rfl (Nat.le_of_ble_eq_true rfl) ⟨Nat.zero_le _, Nat.zero_le _⟩ dX9_logTime_3 (fun H locs hw => ?_)
  cases hM
  exact q_reti E hw dX9_logTime_6
set_option maxRecDepth 100000 in
set_option maxHeartbeats 4000000 in
theorem c_X9_logType (l : Launch) (D : va_G) (cA : Nat → ClassId) (tS : Nat → Nat) (A : Nat → Prop) (h : Nat → Nat) (F : va_W) (x1 : Int32) (σ : Sg) (wd : Int64) (r0 : Int32) (hM : f_X9_logType x1 σ wd = some r0) : Ct l yX9_logType (Cond.code yX9_logType cX9_logType 2 (some .int) :: bw) 2 44 D cA tS A [.ref (h 0), .int x1] (wM cA h σ wd ++ F) (some (.int r0)) (wM cA h σ wd ++ F) := by
  refine ct_of (by decide +kernel) (Nat.le_of_ble_eq_true rfl) ?_
  intro p e s m below meth c E hw ls hl
  replace E : Ev p cX9_logType 2 (some .int) RX9 (Cond.code yX9_logType cX9_logType 2 (some .int) :: bw) D cA tS A s m _ meth c := E
  replace hl : lv_has ls 2 [(0, .ref (h 0)), (1, .int x1)] := hl
  have hx := E.1.1
  have hb := E.1.2.1
  unfold f_X9_logType at hM
  refine lv_aload_n hx hb dX9_logType_0 rfl (lv_at hl 0 rfl) ?_
  refine lv_iload_n hx hb dX9_logType_1 rfl (lv_at hl 1 rfl) ?_
  refine lv_iconst (v := 1) hx hb dX9_logType_2 (by decide) ?_
  obtain ⟨p1, h2, hM⟩ := b_some hM
  refine q_cv (As := [.int x1, .int 1]) (rest := []) E hw hl (c_X9_eventField l D cA tS A h F x1 1 σ wd p1 h2) 2 (bwV bw_c tb_1581 tb_1583 tb_88 tb_111 tb_1584) rfl (by decide +kernel) ⟨Nat.le_of_ble_eq_true rfl, Nat.le_of_ble_eq_true rfl⟩ 0 9 (T := TX9) (N := 17) rfl rfl rfl rfl (Nat.le_of_ble_eq_true rfl) ⟨Nat.zero_le _, Nat.zero_le _⟩ dX9_logType_3 (fun H locs hw => ?_)
  cases hM
  exact q_reti E hw dX9_logType_6
set_option maxRecDepth 100000 in
set_option maxHeartbeats 4000000 in
theorem c_X9_logTicket (l : Launch) (D : va_G) (cA : Nat → ClassId) (tS : Nat → Nat) (A : Nat → Prop) (h : Nat → Nat) (F : va_W) (x1 : Int32) (σ : Sg) (wd : Int64) (r0 : Int32) (hM : f_X9_logTicket x1 σ wd = some r0) : Ct l yX9_logTicket (Cond.code yX9_logTicket cX9_logTicket 2 (some .int) :: bw) 2 44 D cA tS A [.ref (h 0), .int x1] (wM cA h σ wd ++ F) (some (.int r0)) (wM cA h σ wd ++ F) := by
  refine ct_of (by decide +kernel) (Nat.le_of_ble_eq_true rfl) ?_
  intro p e s m below meth c E hw ls hl
  replace E : Ev p cX9_logTicket 2 (some .int) RX9 (Cond.code yX9_logTicket cX9_logTicket 2 (some .int) :: bw) D cA tS A s m _ meth c := E
  replace hl : lv_has ls 2 [(0, .ref (h 0)), (1, .int x1)] := hl
  have hx := E.1.1
  have hb := E.1.2.1
  unfold f_X9_logTicket at hM
  refine lv_aload_n hx hb dX9_logTicket_0 rfl (lv_at hl 0 rfl) ?_
  refine lv_iload_n hx hb dX9_logTicket_1 rfl (lv_at hl 1 rfl) ?_
  refine lv_iconst (v := 2) hx hb dX9_logTicket_2 (by decide) ?_
  obtain ⟨p1, h2, hM⟩ := b_some hM
  refine q_cv (As := [.int x1, .int 2]) (rest := []) E hw hl (c_X9_eventField l D cA tS A h F x1 2 σ wd p1 h2) 2 (bwV bw_c tb_1581 tb_1583 tb_88 tb_111 tb_1584) rfl (by decide +kernel) ⟨Nat.le_of_ble_eq_true rfl, Nat.le_of_ble_eq_true rfl⟩ 0 9 (T := TX9) (N := 17) rfl rfl rfl rfl (Nat.le_of_ble_eq_true rfl) ⟨Nat.zero_le _, Nat.zero_le _⟩ dX9_logTicket_3 (fun H locs hw => ?_)
  cases hM
  exact q_reti E hw dX9_logTicket_6
set_option maxRecDepth 100000 in
set_option maxHeartbeats 4000000 in
theorem c_X9_logDetail (l : Launch) (D : va_G) (cA : Nat → ClassId) (tS : Nat → Nat) (A : Nat → Prop) (h : Nat → Nat) (F : va_W) (x1 : Int32) (σ : Sg) (wd : Int64) (r0 : Int32) (hM : f_X9_logDetail x1 σ wd = some r0) : Ct l yX9_logDetail (Cond.code yX9_logDetail cX9_logDetail 2 (some .int) :: bw) 2 44 D cA tS A [.ref (h 0), .int x1] (wM cA h σ wd ++ F) (some (.int r0)) (wM cA h σ wd ++ F) := by
  refine ct_of (by decide +kernel) (Nat.le_of_ble_eq_true rfl) ?_
  intro p e s m below meth c E hw ls hl
  replace E : Ev p cX9_logDetail 2 (some .int) RX9 (Cond.code yX9_logDetail cX9_logDetail 2 (some .int) :: bw) D cA tS A s m _ meth c := E
  replace hl : lv_has ls 2 [(0, .ref (h 0)), (1, .int x1)] := hl
  have hx := E.1.1
  have hb := E.1.2.1
  unfold f_X9_logDetail at hM
  refine lv_aload_n hx hb dX9_logDetail_0 rfl (lv_at hl 0 rfl) ?_
  refine lv_iload_n hx hb dX9_logDetail_1 rfl (lv_at hl 1 rfl) ?_
  refine lv_iconst (v := 3) hx hb dX9_logDetail_2 (by decide) ?_
  obtain ⟨p1, h2, hM⟩ := b_some hM
  refine q_cv (As := [.int x1, .int 3]) (rest := []) E hw hl (c_X9_eventField l D cA tS A h F x1 3 σ wd p1 h2) 2 (bwV bw_c tb_1581 tb_1583 tb_88 tb_111 tb_1584) rfl (by decide +kernel) ⟨Nat.le_of_ble_eq_true rfl, Nat.le_of_ble_eq_true rfl⟩ 0 9 (T := TX9) (N := 17) rfl rfl rfl rfl (Nat.le_of_ble_eq_true rfl) ⟨Nat.zero_le _, Nat.zero_le _⟩ dX9_logDetail_3 (fun H locs hw => ?_)
  cases hM
  exact q_reti E hw dX9_logDetail_6
set_option maxRecDepth 100000 in
set_option maxHeartbeats 4000000 in
theorem s_X9_appendText_18 (l : Launch) (D : va_G) (cA : Nat → ClassId) (tS : Nat → Nat) (A : Nat → Prop) (h : Nat → Nat) (F : va_W) (N : Nat) {p : Program} {e : Env} {s : State} {m : MethodId} {args : Array Value} {below : List Frame} {meth : Method} {c : Code} (E : Ev p cX9_appendText 3 (some .int) RX9 (Cond.code yX9_appendText cX9_appendText 3 (some .int) :: bw) D cA tS A s m args meth c) : ∀ (n : Nat) (x1 : Int32) (x2 : Int32) (σ : Sg) (wd : Int64) (r0 : Int32) (s0 : Sg) (hM : f_X9_appendText_18 N n x1 x2 σ wd = some (r0, s0)) (H : Heap) (locs : List Loc) (hw : Wd D A (wM cA h σ wd ++ F) s.heap H locs) (ls : Array Slot) (hl : lv_has ls 3 [(0, .ref (h 0)), (1, .int x1), (2, .int x2)]), W p l e ({ frames := 0, cells := 0, slots := 0, locals := 0 } : Room) s m args below meth c H locs 0 0 (MQ below (QW D A (some (.int r0)) (wM cA h s0 wd ++ F)) args s 0 0 A) (F0 m 18 ls []) := by
  have hx := E.1.1
  have hb := E.1.2.1
  intro n
  induction n with
  | zero =>
    intro x1 x2 σ wd r0 s0 hM
    cases hM
  | succ n ih =>
    intro x1 x2 σ wd r0 s0 hM H locs hw ls hl
    rw [f_X9_appendText_18] at hM
    refine lv_iload_n hx hb dX9_appendText_18 rfl (lv_at hl 2 rfl) ?_
    refine lv_if_lt (tgt := 54) hx hb dX9_appendText_19 (by decide) (fun c1 => ?_) (fun c1 => ?_)
    · replace hM := i_pos hM c1
      refine lv_aload_n hx hb dX9_appendText_54 rfl (lv_at hl 0 rfl) ?_
      refine q_get (C := RX9) (T := TX9) (N := 17) (ci := 9) E (fun w h => List.mem_cons_of_mem _ (inX9 w h)) hw 0 rfl rfl 5 (by decide) (List.mem_cons_of_mem _ tb_1150) (v := .int (σ 6 0)) rfl dX9_appendText_55 ?_
      cases hM
      exact q_reti E hw dX9_appendText_58
    · replace hM := i_neg hM c1
      refine lv_aload_n hx hb dX9_appendText_22 rfl (lv_at hl 0 rfl) ?_
      refine q_get (C := RX9) (T := TX9) (N := 17) (ci := 9) E (fun w h => List.mem_cons_of_mem _ (inX9 w h)) hw 0 rfl rfl 4 (by decide) (List.mem_cons_of_mem _ tb_1149) (v := .ref (h 5)) rfl dX9_appendText_23 ?_
      refine lv_aload_n hx hb dX9_appendText_26 rfl (lv_at hl 0 rfl) ?_
      refine q_get (C := RX9) (T := TX9) (N := 17) (ci := 9) E (fun w h => List.mem_cons_of_mem _ (inX9 w h)) hw 0 rfl rfl 5 (by decide) (List.mem_cons_of_mem _ tb_1150) (v := .int (σ 6 0)) rfl dX9_appendText_27 ?_
      refine lv_iload_n hx hb dX9_appendText_30 rfl (lv_at hl 1 rfl) ?_
      refine lv_iload_n hx hb dX9_appendText_31 rfl (lv_at hl 2 rfl) ?_
      refine lv_ishr hx hb dX9_appendText_32 ?_
      refine lv_sipush (v := 255) hx hb dX9_appendText_33 (by decide) ?_
      refine lv_iand hx hb dX9_appendText_36 ?_
      obtain ⟨g2, hM⟩ := g_some hM
      refine q_ast E hw 5 (n := 400) rfl g2 (wM cA h (up σ 5 (ix (σ 6 0)) ((x1 >>> (x2 &&& 31)) &&& 255)) wd ++ F) st_M_5 dX9_appendText_37 (fun H locs hw => ?_)
      refine lv_aload_n hx hb dX9_appendText_38 rfl (lv_at hl 0 rfl) ?_
      refine lv_dup hx hb dX9_appendText_39 rfl ?_
      refine q_get (C := RX9) (T := TX9) (N := 17) (ci := 9) E (fun w h => List.mem_cons_of_mem _ (inX9 w h)) hw 0 rfl rfl 5 (by decide) (List.mem_cons_of_mem _ tb_1150) (v := .int (σ 6 0)) (q_fld (congrFun (up_ne σ 5 (ix (σ 6 0)) ((x1 >>> (x2 &&& 31)) &&& 255) 6 (by decide)) 0) rfl) dX9_appendText_40 ?_
      refine lv_iconst (v := 1) hx hb dX9_appendText_43 (by decide) ?_
      refine lv_iadd hx hb dX9_appendText_44 ?_
      refine q_puti (C := RX9) (T := TX9) (N := 17) (ci := 9) E (fun w h => List.mem_cons_of_mem _ (inX9 w h)) tyX9 tyX9_ok nmX9 hw 0 rfl rfl 5 (by decide) (List.mem_cons_of_mem _ tb_1150) rfl rfl (Nat.le_of_ble_eq_true rfl) (wM cA h (up (up σ 5 (ix (σ 6 0)) ((x1 >>> (x2 &&& 31)) &&& 255)) 6 0 ((σ 6 0) + 1)) wd ++ F) st_M_6 dX9_appendText_45 (fun H locs hw => ?_)
      refine lv_iinc (v := (x2 + (-8))) (lv' := [(2, .int (x2 + (-8))), (0, .ref (h 0)), (1, .int x1)]) hx hb dX9_appendText_48 hl (k := 2) rfl rfl (by decide) rfl (fun ls hl => ?_)
      refine lv_goto (tgt := 18) hx hb dX9_appendText_51 (by decide) ?_
      exact ih _ _ _ _ _ _ hM _ _ hw _ (lv_sub hl [1, 2, 0] rfl)
set_option maxRecDepth 100000 in
set_option maxHeartbeats 4000000 in
theorem c_X9_appendText (l : Launch) (D : va_G) (cA : Nat → ClassId) (tS : Nat → Nat) (A : Nat → Prop) (h : Nat → Nat) (F : va_W) (N : Nat) (x1 : Int32) (σ : Sg) (wd : Int64) (r0 : Int32) (s0 : Sg) (hM : f_X9_appendText N x1 σ wd = some (r0, s0)) : Ct l yX9_appendText (Cond.code yX9_appendText cX9_appendText 3 (some .int) :: bw) 0 0 D cA tS A [.ref (h 0), .int x1] (wM cA h σ wd ++ F) (some (.int r0)) (wM cA h s0 wd ++ F) := by
  refine ct_of (by decide +kernel) (Nat.le_of_ble_eq_true rfl) ?_
  intro p e s m below meth c E hw ls hl
  replace E : Ev p cX9_appendText 3 (some .int) RX9 (Cond.code yX9_appendText cX9_appendText 3 (some .int) :: bw) D cA tS A s m _ meth c := E
  replace hl : lv_has ls 3 [(0, .ref (h 0)), (1, .int x1)] := hl
  have hx := E.1.1
  have hb := E.1.2.1
  unfold f_X9_appendText at hM
  refine lv_aload_n hx hb dX9_appendText_0 rfl (lv_at hl 0 rfl) ?_
  refine q_get (C := RX9) (T := TX9) (N := 17) (ci := 9) E (fun w h => List.mem_cons_of_mem _ (inX9 w h)) hw 0 rfl rfl 5 (by decide) (List.mem_cons_of_mem _ tb_1150) (v := .int (σ 6 0)) rfl dX9_appendText_1 ?_
  refine lv_iconst (v := 4) hx hb dX9_appendText_4 (by decide) ?_
  refine lv_iadd hx hb dX9_appendText_5 ?_
  refine lv_sipush (v := 400) hx hb dX9_appendText_6 (by decide) ?_
  refine lv_icmp_le (tgt := 15) hx hb dX9_appendText_9 (by decide) (fun c1 => ?_) (fun c1 => ?_)
  · replace hM := i_pos hM c1
    refine lv_bipush (v := 24) hx hb dX9_appendText_15 (by decide) ?_
    refine lv_istore_n (lv' := [(2, .int 24), (0, .ref (h 0)), (1, .int x1)]) hx hb dX9_appendText_17 rfl hl (by decide) rfl (fun ls hl => ?_)
    exact s_X9_appendText_18 l D cA tS A h F N E N _ _ _ _ _ _ hM _ _ hw _ (lv_sub hl [1, 2, 0] rfl)
  · replace hM := i_neg hM c1
    refine lv_bipush (v := (-6)) hx hb dX9_appendText_12 (by decide) ?_
    cases hM
    exact q_reti E hw dX9_appendText_14
set_option maxRecDepth 100000 in
set_option maxHeartbeats 4000000 in
theorem c_X9_truncateText (l : Launch) (D : va_G) (cA : Nat → ClassId) (tS : Nat → Nat) (A : Nat → Prop) (h : Nat → Nat) (F : va_W) (x1 : Int32) (σ : Sg) (wd : Int64) (r0 : Int32) (s0 : Sg) (hM : f_X9_truncateText x1 σ wd = some (r0, s0)) : Ct l yX9_truncateText (Cond.code yX9_truncateText cX9_truncateText 2 (some .int) :: bw) 1 22 D cA tS A [.ref (h 0), .int x1] (wM cA h σ wd ++ F) (some (.int r0)) (wM cA h s0 wd ++ F) := by
  refine ct_of (by decide +kernel) (Nat.le_of_ble_eq_true rfl) ?_
  intro p e s m below meth c E hw ls hl
  replace E : Ev p cX9_truncateText 2 (some .int) RX9 (Cond.code yX9_truncateText cX9_truncateText 2 (some .int) :: bw) D cA tS A s m _ meth c := E
  replace hl : lv_has ls 2 [(0, .ref (h 0)), (1, .int x1)] := hl
  have hx := E.1.1
  have hb := E.1.2.1
  unfold f_X9_truncateText at hM
  refine lv_iload_n hx hb dX9_truncateText_0 rfl (lv_at hl 1 rfl) ?_
  refine lv_iconst (v := 0) hx hb dX9_truncateText_1 (by decide) ?_
  refine lv_aload_n hx hb dX9_truncateText_2 rfl (lv_at hl 0 rfl) ?_
  refine q_get (C := RX9) (T := TX9) (N := 17) (ci := 9) E (fun w h => List.mem_cons_of_mem _ (inX9 w h)) hw 0 rfl rfl 5 (by decide) (List.mem_cons_of_mem _ tb_1150) (v := .int (σ 6 0)) rfl dX9_truncateText_3 ?_
  obtain ⟨p1, h2, hM⟩ := b_some hM
  refine q_cs (As := [.int x1, .int 0, .int (σ 6 0)]) (rest := []) E hw hl (c_X9_isBetween l D cA tS A (wM cA h σ wd ++ F) x1 0 (σ 6 0) p1 h2) 3 (bwS bw_c tb_1212 tb_1213 tb_111 tb_1214) rfl (by decide +kernel) ⟨Nat.le_of_ble_eq_true rfl, Nat.le_of_ble_eq_true rfl⟩ rfl rfl (Nat.le_of_ble_eq_true rfl) ⟨Nat.zero_le _, Nat.zero_le _⟩ dX9_truncateText_6 (fun H locs hw => ?_)
  refine lv_if_ne (tgt := 15) hx hb dX9_truncateText_9 (by decide) (fun c3 => ?_) (fun c3 => ?_)
  · replace hM := i_neg hM c3
    refine lv_aload_n hx hb dX9_truncateText_15 rfl (lv_at hl 0 rfl) ?_
    refine lv_iload_n hx hb dX9_truncateText_16 rfl (lv_at hl 1 rfl) ?_
    refine q_puti (C := RX9) (T := TX9) (N := 17) (ci := 9) E (fun w h => List.mem_cons_of_mem _ (inX9 w h)) tyX9 tyX9_ok nmX9 hw 0 rfl rfl 5 (by decide) (List.mem_cons_of_mem _ tb_1150) rfl rfl (Nat.le_of_ble_eq_true rfl) (wM cA h (up σ 6 0 x1) wd ++ F) st_M_6 dX9_truncateText_17 (fun H locs hw => ?_)
    refine lv_aload_n hx hb dX9_truncateText_20 rfl (lv_at hl 0 rfl) ?_
    refine q_get (C := RX9) (T := TX9) (N := 17) (ci := 9) E (fun w h => List.mem_cons_of_mem _ (inX9 w h)) hw 0 rfl rfl 5 (by decide) (List.mem_cons_of_mem _ tb_1150) (v := .int x1) (q_fld (up_at0 σ 6 x1) rfl) dX9_truncateText_21 ?_
    cases hM
    exact q_reti E hw dX9_truncateText_24
  · replace hM := i_pos hM c3
    refine lv_bipush (v := (-4)) hx hb dX9_truncateText_12 (by decide) ?_
    cases hM
    exact q_reti E hw dX9_truncateText_14
set_option maxRecDepth 100000 in
set_option maxHeartbeats 4000000 in
theorem c_X9_byteAt (l : Launch) (D : va_G) (cA : Nat → ClassId) (tS : Nat → Nat) (A : Nat → Prop) (h : Nat → Nat) (F : va_W) (x1 : Int32) (σ : Sg) (wd : Int64) (r0 : Int32) (hM : f_X9_byteAt x1 σ wd = some r0) : Ct l yX9_byteAt (Cond.code yX9_byteAt cX9_byteAt 2 (some .int) :: bw) 0 0 D cA tS A [.ref (h 0), .int x1] (wM cA h σ wd ++ F) (some (.int r0)) (wM cA h σ wd ++ F) := by
  refine ct_of (by decide +kernel) (Nat.le_of_ble_eq_true rfl) ?_
  intro p e s m below meth c E hw ls hl
  replace E : Ev p cX9_byteAt 2 (some .int) RX9 (Cond.code yX9_byteAt cX9_byteAt 2 (some .int) :: bw) D cA tS A s m _ meth c := E
  replace hl : lv_has ls 2 [(0, .ref (h 0)), (1, .int x1)] := hl
  have hx := E.1.1
  have hb := E.1.2.1
  unfold f_X9_byteAt at hM
  refine lv_iload_n hx hb dX9_byteAt_0 rfl (lv_at hl 1 rfl) ?_
  refine lv_aload_n hx hb dX9_byteAt_1 rfl (lv_at hl 0 rfl) ?_
  refine q_get (C := RX9) (T := TX9) (N := 17) (ci := 9) E (fun w h => List.mem_cons_of_mem _ (inX9 w h)) hw 0 rfl rfl 5 (by decide) (List.mem_cons_of_mem _ tb_1150) (v := .int (σ 6 0)) rfl dX9_byteAt_2 ?_
  refine lv_icmp_ge (tgt := 17) hx hb dX9_byteAt_5 (by decide) (fun c1 => ?_) (fun c1 => ?_)
  · replace hM := i_pos hM c1
    refine lv_iconst (v := (-1)) hx hb dX9_byteAt_17 (by decide) ?_
    cases hM
    exact q_reti E hw dX9_byteAt_18
  · replace hM := i_neg hM c1
    refine lv_aload_n hx hb dX9_byteAt_8 rfl (lv_at hl 0 rfl) ?_
    refine q_get (C := RX9) (T := TX9) (N := 17) (ci := 9) E (fun w h => List.mem_cons_of_mem _ (inX9 w h)) hw 0 rfl rfl 4 (by decide) (List.mem_cons_of_mem _ tb_1149) (v := .ref (h 5)) rfl dX9_byteAt_9 ?_
    refine lv_iload_n hx hb dX9_byteAt_12 rfl (lv_at hl 1 rfl) ?_
    obtain ⟨g2, hM⟩ := g_some hM
    refine q_ald E hw 5 (n := 400) rfl g2 (x := (σ 5 (ix x1))) rfl dX9_byteAt_13 ?_
    refine lv_goto (tgt := 18) hx hb dX9_byteAt_14 (by decide) ?_
    cases hM
    exact q_reti E hw dX9_byteAt_18
set_option maxRecDepth 100000 in
set_option maxHeartbeats 4000000 in
theorem c_X9_isLetter (l : Launch) (D : va_G) (cA : Nat → ClassId) (tS : Nat → Nat) (A : Nat → Prop) (F : va_W) (x0 : Int32) (r0 : Int32) (hM : f_X9_isLetter x0 = some r0) : Ct l yX9_isLetter (Cond.code yX9_isLetter cX9_isLetter 1 (some .boolean) :: bw) 1 22 D cA tS A [.int x0] F (some (.int r0)) F := by
  refine ct_of (by decide +kernel) (Nat.le_of_ble_eq_true rfl) ?_
  intro p e s m below meth c E hw ls hl
  replace E : Ev p cX9_isLetter 1 (some .boolean) RX9 (Cond.code yX9_isLetter cX9_isLetter 1 (some .boolean) :: bw) D cA tS A s m _ meth c := E
  replace hl : lv_has ls 1 [(0, .int x0)] := hl
  have hx := E.1.1
  have hb := E.1.2.1
  unfold f_X9_isLetter at hM
  refine lv_iload_n hx hb dX9_isLetter_0 rfl (lv_at hl 0 rfl) ?_
  refine lv_bipush (v := 97) hx hb dX9_isLetter_1 (by decide) ?_
  refine lv_bipush (v := 122) hx hb dX9_isLetter_3 (by decide) ?_
  obtain ⟨p1, h2, hM⟩ := b_some hM
  refine q_cs (As := [.int x0, .int 97, .int 122]) (rest := []) E hw hl (c_X9_isBetween l D cA tS A F x0 97 122 p1 h2) 3 (bwS bw_c tb_1212 tb_1213 tb_111 tb_1214) rfl (by decide +kernel) ⟨Nat.le_of_ble_eq_true rfl, Nat.le_of_ble_eq_true rfl⟩ rfl rfl (Nat.le_of_ble_eq_true rfl) ⟨Nat.zero_le _, Nat.zero_le _⟩ dX9_isLetter_5 (fun H locs hw => ?_)
  obtain ⟨g3, hM⟩ := g_some hM
  cases hM
  exact q_retz E hw g3 dX9_isLetter_8
set_option maxRecDepth 100000 in
set_option maxHeartbeats 4000000 in
theorem c_X9_isDigit (l : Launch) (D : va_G) (cA : Nat → ClassId) (tS : Nat → Nat) (A : Nat → Prop) (F : va_W) (x0 : Int32) (r0 : Int32) (hM : f_X9_isDigit x0 = some r0) : Ct l yX9_isDigit (Cond.code yX9_isDigit cX9_isDigit 1 (some .boolean) :: bw) 1 22 D cA tS A [.int x0] F (some (.int r0)) F := by
  refine ct_of (by decide +kernel) (Nat.le_of_ble_eq_true rfl) ?_
  intro p e s m below meth c E hw ls hl
  replace E : Ev p cX9_isDigit 1 (some .boolean) RX9 (Cond.code yX9_isDigit cX9_isDigit 1 (some .boolean) :: bw) D cA tS A s m _ meth c := E
  replace hl : lv_has ls 1 [(0, .int x0)] := hl
  have hx := E.1.1
  have hb := E.1.2.1
  unfold f_X9_isDigit at hM
  refine lv_iload_n hx hb dX9_isDigit_0 rfl (lv_at hl 0 rfl) ?_
  refine lv_bipush (v := 48) hx hb dX9_isDigit_1 (by decide) ?_
  refine lv_bipush (v := 57) hx hb dX9_isDigit_3 (by decide) ?_
  obtain ⟨p1, h2, hM⟩ := b_some hM
  refine q_cs (As := [.int x0, .int 48, .int 57]) (rest := []) E hw hl (c_X9_isBetween l D cA tS A F x0 48 57 p1 h2) 3 (bwS bw_c tb_1212 tb_1213 tb_111 tb_1214) rfl (by decide +kernel) ⟨Nat.le_of_ble_eq_true rfl, Nat.le_of_ble_eq_true rfl⟩ rfl rfl (Nat.le_of_ble_eq_true rfl) ⟨Nat.zero_le _, Nat.zero_le _⟩ dX9_isDigit_5 (fun H locs hw => ?_)
  obtain ⟨g3, hM⟩ := g_some hM
  cases hM
  exact q_retz E hw g3 dX9_isDigit_8
