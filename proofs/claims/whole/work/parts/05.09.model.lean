set_option maxRecDepth 100000 in
set_option maxHeartbeats 4000000 in
theorem s_X9_nextToken_96 (l : Launch) (D : va_G) (cA : Nat → ClassId) (tS : Nat → Nat) (A : Nat → Prop) (h : Nat → Nat) (F : va_W) (N : Nat) {p : Program} {e : Env} {s : State} {m : MethodId} {args : Array Value} {below : List Frame} {meth : Method} {c : Code} (E : Ev p cX9_nextToken 2 none RX9 (Cond.code yX9_nextToken cX9_nextToken 2 none :: bw) D cA tS A s m args meth c) : ∀ (n : Nat) (σ : Sg) (wd : Int64) (s0 : Sg) (wd0 : Int64) (hM : f_X9_nextToken_96 N n σ wd = some (s0, wd0)) (H : Heap) (locs : List Loc) (hw : Wd D A (wM cA h σ wd ++ F) s.heap H locs) (ls : Array Slot) (hl : lv_has ls 2 [(0, .ref (h 0))]), W p l e ({ frames := 2, cells := 0, slots := 0, locals := 42 } : Room) s m args below meth c H locs 0 0 (MQ below (QW D A none (wM cA h s0 wd0 ++ F)) args s 0 0 A) (F0 m 96 ls []) := by
  have hx := E.1.1
  have hb := E.1.2.1
  intro n
  induction n with
  | zero =>
    intro σ wd s0 wd0 hM
    cases hM
  | succ n ih =>
    intro σ wd s0 wd0 hM H locs hw ls hl
    rw [f_X9_nextToken_96] at hM
    refine lv_aload_n hx hb dX9_nextToken_96 rfl (lv_at hl 0 rfl) ?_
    refine lv_aload_n hx hb dX9_nextToken_97 rfl (lv_at hl 0 rfl) ?_
    refine q_get (C := RX9) (T := TX9) (N := 17) (ci := 9) E (fun w h => List.mem_cons_of_mem _ (inX9 w h)) hw 0 rfl rfl 6 (by decide) (List.mem_cons_of_mem _ tb_1151) (v := .int (σ 7 0)) rfl dX9_nextToken_98 ?_
    obtain ⟨p1, h2, hM⟩ := b_some hM
    refine q_cv (As := [.int (σ 7 0)]) (rest := []) E hw hl (c_X9_byteAt l D cA tS A h F (σ 7 0) σ wd p1 h2) 1 (bwV bw_c tb_1613 tb_1615 tb_90 tb_111 tb_1616) rfl (by decide +kernel) ⟨Nat.le_of_ble_eq_true rfl, Nat.le_of_ble_eq_true rfl⟩ 0 9 (T := TX9) (N := 17) rfl rfl rfl rfl (Nat.le_of_ble_eq_true rfl) ⟨Nat.zero_le _, Nat.zero_le _⟩ dX9_nextToken_101 (fun H locs hw => ?_)
    obtain ⟨p3, h4, hM⟩ := b_some hM
    refine q_cs (As := [.int p1]) (rest := []) E hw hl (c_X9_isLetter l D cA tS A (wM cA h σ wd ++ F) p1 p3 h4) 1 (bwS bw_c tb_1617 tb_1618 tb_111 tb_1619) rfl (by decide +kernel) ⟨Nat.le_of_ble_eq_true rfl, Nat.le_of_ble_eq_true rfl⟩ rfl rfl (Nat.le_of_ble_eq_true rfl) ⟨Nat.zero_le _, Nat.zero_le _⟩ dX9_nextToken_104 (fun H locs hw => ?_)
    refine lv_if_eq (tgt := 278) hx hb dX9_nextToken_107 (by decide) (fun c5 => ?_) (fun c5 => ?_)
    · replace hM := i_pos hM c5
      cases hM
      exact q_retv E hw dX9_nextToken_278
    · replace hM := i_neg hM c5
      refine lv_aload_n hx hb dX9_nextToken_110 rfl (lv_at hl 0 rfl) ?_
      refine lv_aload_n hx hb dX9_nextToken_111 rfl (lv_at hl 0 rfl) ?_
      refine q_get (C := RX9) (T := TX9) (N := 17) (ci := 9) E (fun w h => List.mem_cons_of_mem _ (inX9 w h)) hw 0 rfl rfl 9 (by decide) (List.mem_cons_of_mem _ tb_1154) (v := .int (σ 10 0)) rfl dX9_nextToken_112 ?_
      refine lv_bipush (v := 9) hx hb dX9_nextToken_115 (by decide) ?_
      refine lv_icmp_ge (tgt := 145) hx hb dX9_nextToken_117 (by decide) (fun c6 => ?_) (fun c6 => ?_)
      · replace hM := i_pos hM c6
        refine lv_aload_n hx hb dX9_nextToken_145 rfl (lv_at hl 0 rfl) ?_
        refine q_get (C := RX9) (T := TX9) (N := 17) (ci := 9) E (fun w h => List.mem_cons_of_mem _ (inX9 w h)) hw 0 rfl rfl 14 (by decide) (List.mem_cons_of_mem _ tb_1159) (v := .long wd) rfl dX9_nextToken_146 ?_
        refine q_putl (C := RX9) (T := TX9) (N := 17) (ci := 9) E (fun w h => List.mem_cons_of_mem _ (inX9 w h)) tyX9 tyX9_ok nmX9 hw 0 rfl rfl 14 (by decide) (List.mem_cons_of_mem _ tb_1159) rfl rfl (Nat.le_of_ble_eq_true rfl) (wM cA h σ wd ++ F) rfl dX9_nextToken_149 (fun H locs hw => ?_)
        refine lv_aload_n hx hb dX9_nextToken_152 rfl (lv_at hl 0 rfl) ?_
        refine lv_dup hx hb dX9_nextToken_153 rfl ?_
        refine q_get (C := RX9) (T := TX9) (N := 17) (ci := 9) E (fun w h => List.mem_cons_of_mem _ (inX9 w h)) hw 0 rfl rfl 9 (by decide) (List.mem_cons_of_mem _ tb_1154) (v := .int (σ 10 0)) rfl dX9_nextToken_154 ?_
        refine lv_iconst (v := 1) hx hb dX9_nextToken_157 (by decide) ?_
        refine lv_iadd hx hb dX9_nextToken_158 ?_
        refine q_puti (C := RX9) (T := TX9) (N := 17) (ci := 9) E (fun w h => List.mem_cons_of_mem _ (inX9 w h)) tyX9 tyX9_ok nmX9 hw 0 rfl rfl 9 (by decide) (List.mem_cons_of_mem _ tb_1154) rfl rfl (Nat.le_of_ble_eq_true rfl) (wM cA h (up σ 10 0 ((σ 10 0) + 1)) wd ++ F) st_M_10 dX9_nextToken_159 (fun H locs hw => ?_)
        refine lv_aload_n hx hb dX9_nextToken_162 rfl (lv_at hl 0 rfl) ?_
        refine lv_dup hx hb dX9_nextToken_163 rfl ?_
        refine q_get (C := RX9) (T := TX9) (N := 17) (ci := 9) E (fun w h => List.mem_cons_of_mem _ (inX9 w h)) hw 0 rfl rfl 6 (by decide) (List.mem_cons_of_mem _ tb_1151) (v := .int (σ 7 0)) (q_fld (congrFun (up_ne σ 10 0 ((σ 10 0) + 1) 7 (by decide)) 0) rfl) dX9_nextToken_164 ?_
        refine lv_iconst (v := 1) hx hb dX9_nextToken_167 (by decide) ?_
        refine lv_iadd hx hb dX9_nextToken_168 ?_
        refine q_puti (C := RX9) (T := TX9) (N := 17) (ci := 9) E (fun w h => List.mem_cons_of_mem _ (inX9 w h)) tyX9 tyX9_ok nmX9 hw 0 rfl rfl 6 (by decide) (List.mem_cons_of_mem _ tb_1151) rfl rfl (Nat.le_of_ble_eq_true rfl) (wM cA h (up (up σ 10 0 ((σ 10 0) + 1)) 7 0 ((σ 7 0) + 1)) wd ++ F) st_M_7 dX9_nextToken_169 (fun H locs hw => ?_)
        refine lv_goto (tgt := 96) hx hb dX9_nextToken_172 (by decide) ?_
        exact ih _ _ _ _ hM _ _ hw _ (lv_sub hl [0] rfl)
      · replace hM := i_neg hM c6
        refine lv_ldc2 (v := 27) hx hb E.1.2.2.2.1 (E.1.2.2.2.2 _ (List.mem_cons_of_mem _ tb_1620)) dX9_nextToken_120 ?_
        refine lv_aload_n hx hb dX9_nextToken_123 rfl (lv_at hl 0 rfl) ?_
        refine q_get (C := RX9) (T := TX9) (N := 17) (ci := 9) E (fun w h => List.mem_cons_of_mem _ (inX9 w h)) hw 0 rfl rfl 14 (by decide) (List.mem_cons_of_mem _ tb_1159) (v := .long wd) rfl dX9_nextToken_124 ?_
        refine lv_lmul hx hb dX9_nextToken_127 ?_
        refine lv_aload_n hx hb dX9_nextToken_128 rfl (lv_at hl 0 rfl) ?_
        refine lv_aload_n hx hb dX9_nextToken_129 rfl (lv_at hl 0 rfl) ?_
        refine q_get (C := RX9) (T := TX9) (N := 17) (ci := 9) E (fun w h => List.mem_cons_of_mem _ (inX9 w h)) hw 0 rfl rfl 6 (by decide) (List.mem_cons_of_mem _ tb_1151) (v := .int (σ 7 0)) rfl dX9_nextToken_130 ?_
        obtain ⟨p7, h8, hM⟩ := b_some hM
        refine q_cv (As := [.int (σ 7 0)]) (rest := [.long (27 * wd), .ref (h 0)]) E hw hl (c_X9_byteAt l D cA tS A h F (σ 7 0) σ wd p7 h8) 1 (bwV bw_c tb_1613 tb_1615 tb_90 tb_111 tb_1616) rfl (by decide +kernel) ⟨Nat.le_of_ble_eq_true rfl, Nat.le_of_ble_eq_true rfl⟩ 0 9 (T := TX9) (N := 17) rfl rfl rfl rfl (Nat.le_of_ble_eq_true rfl) ⟨Nat.zero_le _, Nat.zero_le _⟩ dX9_nextToken_133 (fun H locs hw => ?_)
        refine lv_i2l (v := (p7 : Int32).toInt64) hx hb dX9_nextToken_136 rfl ?_
        refine lv_ladd hx hb dX9_nextToken_137 ?_
        refine lv_ldc2 (v := 96) hx hb E.1.2.2.2.1 (E.1.2.2.2.2 _ (List.mem_cons_of_mem _ tb_1621)) dX9_nextToken_138 ?_
        refine lv_lsub hx hb dX9_nextToken_141 ?_
        refine lv_goto (tgt := 149) hx hb dX9_nextToken_142 (by decide) ?_
        refine q_putl (C := RX9) (T := TX9) (N := 17) (ci := 9) E (fun w h => List.mem_cons_of_mem _ (inX9 w h)) tyX9 tyX9_ok nmX9 hw 0 rfl rfl 14 (by decide) (List.mem_cons_of_mem _ tb_1159) rfl rfl (Nat.le_of_ble_eq_true rfl) (wM cA h σ (((27 * wd) + ((p7 : Int32).toInt64)) - 96) ++ F) rfl dX9_nextToken_149 (fun H locs hw => ?_)
        refine lv_aload_n hx hb dX9_nextToken_152 rfl (lv_at hl 0 rfl) ?_
        refine lv_dup hx hb dX9_nextToken_153 rfl ?_
        refine q_get (C := RX9) (T := TX9) (N := 17) (ci := 9) E (fun w h => List.mem_cons_of_mem _ (inX9 w h)) hw 0 rfl rfl 9 (by decide) (List.mem_cons_of_mem _ tb_1154) (v := .int (σ 10 0)) rfl dX9_nextToken_154 ?_
        refine lv_iconst (v := 1) hx hb dX9_nextToken_157 (by decide) ?_
        refine lv_iadd hx hb dX9_nextToken_158 ?_
        refine q_puti (C := RX9) (T := TX9) (N := 17) (ci := 9) E (fun w h => List.mem_cons_of_mem _ (inX9 w h)) tyX9 tyX9_ok nmX9 hw 0 rfl rfl 9 (by decide) (List.mem_cons_of_mem _ tb_1154) rfl rfl (Nat.le_of_ble_eq_true rfl) (wM cA h (up σ 10 0 ((σ 10 0) + 1)) (((27 * wd) + ((p7 : Int32).toInt64)) - 96) ++ F) st_M_10 dX9_nextToken_159 (fun H locs hw => ?_)
        refine lv_aload_n hx hb dX9_nextToken_162 rfl (lv_at hl 0 rfl) ?_
        refine lv_dup hx hb dX9_nextToken_163 rfl ?_
        refine q_get (C := RX9) (T := TX9) (N := 17) (ci := 9) E (fun w h => List.mem_cons_of_mem _ (inX9 w h)) hw 0 rfl rfl 6 (by decide) (List.mem_cons_of_mem _ tb_1151) (v := .int (σ 7 0)) (q_fld (congrFun (up_ne σ 10 0 ((σ 10 0) + 1) 7 (by decide)) 0) rfl) dX9_nextToken_164 ?_
        refine lv_iconst (v := 1) hx hb dX9_nextToken_167 (by decide) ?_
        refine lv_iadd hx hb dX9_nextToken_168 ?_
        refine q_puti (C := RX9) (T := TX9) (N := 17) (ci := 9) E (fun w h => List.mem_cons_of_mem _ (inX9 w h)) tyX9 tyX9_ok nmX9 hw 0 rfl rfl 6 (by decide) (List.mem_cons_of_mem _ tb_1151) rfl rfl (Nat.le_of_ble_eq_true rfl) (wM cA h (up (up σ 10 0 ((σ 10 0) + 1)) 7 0 ((σ 7 0) + 1)) (((27 * wd) + ((p7 : Int32).toInt64)) - 96) ++ F) st_M_7 dX9_nextToken_169 (fun H locs hw => ?_)
        refine lv_goto (tgt := 96) hx hb dX9_nextToken_172 (by decide) ?_
        exact ih _ _ _ _ hM _ _ hw _ (lv_sub hl [0] rfl)
set_option maxRecDepth 100000 in
set_option maxHeartbeats 4000000 in
theorem s_X9_nextToken_187 (l : Launch) (D : va_G) (cA : Nat → ClassId) (tS : Nat → Nat) (A : Nat → Prop) (h : Nat → Nat) (F : va_W) (N : Nat) {p : Program} {e : Env} {s : State} {m : MethodId} {args : Array Value} {below : List Frame} {meth : Method} {c : Code} (E : Ev p cX9_nextToken 2 none RX9 (Cond.code yX9_nextToken cX9_nextToken 2 none :: bw) D cA tS A s m args meth c) : ∀ (n : Nat) (σ : Sg) (wd : Int64) (s0 : Sg) (wd0 : Int64) (hM : f_X9_nextToken_187 N n σ wd = some (s0, wd0)) (H : Heap) (locs : List Loc) (hw : Wd D A (wM cA h σ wd ++ F) s.heap H locs) (ls : Array Slot) (hl : lv_has ls 2 [(0, .ref (h 0))]), W p l e ({ frames := 2, cells := 0, slots := 0, locals := 42 } : Room) s m args below meth c H locs 0 0 (MQ below (QW D A none (wM cA h s0 wd0 ++ F)) args s 0 0 A) (F0 m 187 ls []) := by
  have hx := E.1.1
  have hb := E.1.2.1
  intro n
  induction n with
  | zero =>
    intro σ wd s0 wd0 hM
    cases hM
  | succ n ih =>
    intro σ wd s0 wd0 hM H locs hw ls hl
    rw [f_X9_nextToken_187] at hM
    refine lv_aload_n hx hb dX9_nextToken_187 rfl (lv_at hl 0 rfl) ?_
    refine lv_aload_n hx hb dX9_nextToken_188 rfl (lv_at hl 0 rfl) ?_
    refine q_get (C := RX9) (T := TX9) (N := 17) (ci := 9) E (fun w h => List.mem_cons_of_mem _ (inX9 w h)) hw 0 rfl rfl 6 (by decide) (List.mem_cons_of_mem _ tb_1151) (v := .int (σ 7 0)) rfl dX9_nextToken_189 ?_
    obtain ⟨p1, h2, hM⟩ := b_some hM
    refine q_cv (As := [.int (σ 7 0)]) (rest := []) E hw hl (c_X9_byteAt l D cA tS A h F (σ 7 0) σ wd p1 h2) 1 (bwV bw_c tb_1613 tb_1615 tb_90 tb_111 tb_1616) rfl (by decide +kernel) ⟨Nat.le_of_ble_eq_true rfl, Nat.le_of_ble_eq_true rfl⟩ 0 9 (T := TX9) (N := 17) rfl rfl rfl rfl (Nat.le_of_ble_eq_true rfl) ⟨Nat.zero_le _, Nat.zero_le _⟩ dX9_nextToken_192 (fun H locs hw => ?_)
    obtain ⟨p3, h4, hM⟩ := b_some hM
    refine q_cs (As := [.int p1]) (rest := []) E hw hl (c_X9_isDigit l D cA tS A (wM cA h σ wd ++ F) p1 p3 h4) 1 (bwS bw_c tb_1622 tb_1623 tb_111 tb_1624) rfl (by decide +kernel) ⟨Nat.le_of_ble_eq_true rfl, Nat.le_of_ble_eq_true rfl⟩ rfl rfl (Nat.le_of_ble_eq_true rfl) ⟨Nat.zero_le _, Nat.zero_le _⟩ dX9_nextToken_195 (fun H locs hw => ?_)
    refine lv_if_eq (tgt := 278) hx hb dX9_nextToken_198 (by decide) (fun c5 => ?_) (fun c5 => ?_)
    · replace hM := i_pos hM c5
      cases hM
      exact q_retv E hw dX9_nextToken_278
    · replace hM := i_neg hM c5
      refine lv_aload_n hx hb dX9_nextToken_201 rfl (lv_at hl 0 rfl) ?_
      refine lv_aload_n hx hb dX9_nextToken_202 rfl (lv_at hl 0 rfl) ?_
      refine q_get (C := RX9) (T := TX9) (N := 17) (ci := 9) E (fun w h => List.mem_cons_of_mem _ (inX9 w h)) hw 0 rfl rfl 10 (by decide) (List.mem_cons_of_mem _ tb_1155) (v := .int (σ 11 0)) rfl dX9_nextToken_203 ?_
      refine lv_ldc (v := 99999) hx hb E.1.2.2.2.1 (E.1.2.2.2.2 _ (List.mem_cons_of_mem _ tb_1625)) dX9_nextToken_206 ?_
      refine lv_icmp_le (tgt := 218) hx hb dX9_nextToken_208 (by decide) (fun c6 => ?_) (fun c6 => ?_)
      · replace hM := i_pos hM c6
        refine lv_bipush (v := 10) hx hb dX9_nextToken_218 (by decide) ?_
        refine lv_aload_n hx hb dX9_nextToken_220 rfl (lv_at hl 0 rfl) ?_
        refine q_get (C := RX9) (T := TX9) (N := 17) (ci := 9) E (fun w h => List.mem_cons_of_mem _ (inX9 w h)) hw 0 rfl rfl 10 (by decide) (List.mem_cons_of_mem _ tb_1155) (v := .int (σ 11 0)) rfl dX9_nextToken_221 ?_
        refine lv_imul hx hb dX9_nextToken_224 ?_
        refine lv_aload_n hx hb dX9_nextToken_225 rfl (lv_at hl 0 rfl) ?_
        refine lv_aload_n hx hb dX9_nextToken_226 rfl (lv_at hl 0 rfl) ?_
        refine q_get (C := RX9) (T := TX9) (N := 17) (ci := 9) E (fun w h => List.mem_cons_of_mem _ (inX9 w h)) hw 0 rfl rfl 6 (by decide) (List.mem_cons_of_mem _ tb_1151) (v := .int (σ 7 0)) rfl dX9_nextToken_227 ?_
        obtain ⟨p7, h8, hM⟩ := b_some hM
        refine q_cv (As := [.int (σ 7 0)]) (rest := [.int (10 * (σ 11 0)), .ref (h 0)]) E hw hl (c_X9_byteAt l D cA tS A h F (σ 7 0) σ wd p7 h8) 1 (bwV bw_c tb_1613 tb_1615 tb_90 tb_111 tb_1616) rfl (by decide +kernel) ⟨Nat.le_of_ble_eq_true rfl, Nat.le_of_ble_eq_true rfl⟩ 0 9 (T := TX9) (N := 17) rfl rfl rfl rfl (Nat.le_of_ble_eq_true rfl) ⟨Nat.zero_le _, Nat.zero_le _⟩ dX9_nextToken_230 (fun H locs hw => ?_)
        refine lv_iadd hx hb dX9_nextToken_233 ?_
        refine lv_bipush (v := 48) hx hb dX9_nextToken_234 (by decide) ?_
        refine lv_isub hx hb dX9_nextToken_236 ?_
        refine q_puti (C := RX9) (T := TX9) (N := 17) (ci := 9) E (fun w h => List.mem_cons_of_mem _ (inX9 w h)) tyX9 tyX9_ok nmX9 hw 0 rfl rfl 10 (by decide) (List.mem_cons_of_mem _ tb_1155) rfl rfl (Nat.le_of_ble_eq_true rfl) (wM cA h (up σ 11 0 (((10 * (σ 11 0)) + p7) - 48)) wd ++ F) st_M_11 dX9_nextToken_237 (fun H locs hw => ?_)
        refine lv_aload_n hx hb dX9_nextToken_240 rfl (lv_at hl 0 rfl) ?_
        refine lv_dup hx hb dX9_nextToken_241 rfl ?_
        refine q_get (C := RX9) (T := TX9) (N := 17) (ci := 9) E (fun w h => List.mem_cons_of_mem _ (inX9 w h)) hw 0 rfl rfl 6 (by decide) (List.mem_cons_of_mem _ tb_1151) (v := .int (σ 7 0)) (q_fld (congrFun (up_ne σ 11 0 (((10 * (σ 11 0)) + p7) - 48) 7 (by decide)) 0) rfl) dX9_nextToken_242 ?_
        refine lv_iconst (v := 1) hx hb dX9_nextToken_245 (by decide) ?_
        refine lv_iadd hx hb dX9_nextToken_246 ?_
        refine q_puti (C := RX9) (T := TX9) (N := 17) (ci := 9) E (fun w h => List.mem_cons_of_mem _ (inX9 w h)) tyX9 tyX9_ok nmX9 hw 0 rfl rfl 6 (by decide) (List.mem_cons_of_mem _ tb_1151) rfl rfl (Nat.le_of_ble_eq_true rfl) (wM cA h (up (up σ 11 0 (((10 * (σ 11 0)) + p7) - 48)) 7 0 ((σ 7 0) + 1)) wd ++ F) st_M_7 dX9_nextToken_247 (fun H locs hw => ?_)
        refine lv_goto (tgt := 187) hx hb dX9_nextToken_250 (by decide) ?_
        exact ih _ _ _ _ hM _ _ hw _ (lv_sub hl [0] rfl)
      · replace hM := i_neg hM c6
        refine lv_aload_n hx hb dX9_nextToken_211 rfl (lv_at hl 0 rfl) ?_
        refine q_get (C := RX9) (T := TX9) (N := 17) (ci := 9) E (fun w h => List.mem_cons_of_mem _ (inX9 w h)) hw 0 rfl rfl 10 (by decide) (List.mem_cons_of_mem _ tb_1155) (v := .int (σ 11 0)) rfl dX9_nextToken_212 ?_
        refine lv_goto (tgt := 237) hx hb dX9_nextToken_215 (by decide) ?_
        refine q_puti (C := RX9) (T := TX9) (N := 17) (ci := 9) E (fun w h => List.mem_cons_of_mem _ (inX9 w h)) tyX9 tyX9_ok nmX9 hw 0 rfl rfl 10 (by decide) (List.mem_cons_of_mem _ tb_1155) rfl rfl (Nat.le_of_ble_eq_true rfl) (wM cA h (up σ 11 0 (σ 11 0)) wd ++ F) st_M_11 dX9_nextToken_237 (fun H locs hw => ?_)
        refine lv_aload_n hx hb dX9_nextToken_240 rfl (lv_at hl 0 rfl) ?_
        refine lv_dup hx hb dX9_nextToken_241 rfl ?_
        refine q_get (C := RX9) (T := TX9) (N := 17) (ci := 9) E (fun w h => List.mem_cons_of_mem _ (inX9 w h)) hw 0 rfl rfl 6 (by decide) (List.mem_cons_of_mem _ tb_1151) (v := .int (σ 7 0)) (q_fld (congrFun (up_ne σ 11 0 (σ 11 0) 7 (by decide)) 0) rfl) dX9_nextToken_242 ?_
        refine lv_iconst (v := 1) hx hb dX9_nextToken_245 (by decide) ?_
        refine lv_iadd hx hb dX9_nextToken_246 ?_
        refine q_puti (C := RX9) (T := TX9) (N := 17) (ci := 9) E (fun w h => List.mem_cons_of_mem _ (inX9 w h)) tyX9 tyX9_ok nmX9 hw 0 rfl rfl 6 (by decide) (List.mem_cons_of_mem _ tb_1151) rfl rfl (Nat.le_of_ble_eq_true rfl) (wM cA h (up (up σ 11 0 (σ 11 0)) 7 0 ((σ 7 0) + 1)) wd ++ F) st_M_7 dX9_nextToken_247 (fun H locs hw => ?_)
        refine lv_goto (tgt := 187) hx hb dX9_nextToken_250 (by decide) ?_
        exact ih _ _ _ _ hM _ _ hw _ (lv_sub hl [0] rfl)
set_option maxRecDepth 100000 in
set_option maxHeartbeats 4000000 in
theorem s_X9_nextToken_0 (l : Launch) (D : va_G) (cA : Nat → ClassId) (tS : Nat → Nat) (A : Nat → Prop) (h : Nat → Nat) (F : va_W) (N : Nat) {p : Program} {e : Env} {s : State} {m : MethodId} {args : Array Value} {below : List Frame} {meth : Method} {c : Code} (E : Ev p cX9_nextToken 2 none RX9 (Cond.code yX9_nextToken cX9_nextToken 2 none :: bw) D cA tS A s m args meth c) : ∀ (n : Nat) (σ : Sg) (wd : Int64) (s0 : Sg) (wd0 : Int64) (hM : f_X9_nextToken_0 N n σ wd = some (s0, wd0)) (H : Heap) (locs : List Loc) (hw : Wd D A (wM cA h σ wd ++ F) s.heap H locs) (ls : Array Slot) (hl : lv_has ls 2 [(0, .ref (h 0))]), W p l e ({ frames := 2, cells := 0, slots := 0, locals := 42 } : Room) s m args below meth c H locs 0 0 (MQ below (QW D A none (wM cA h s0 wd0 ++ F)) args s 0 0 A) (F0 m 0 ls []) := by
  have hx := E.1.1
  have hb := E.1.2.1
  intro n
  induction n with
  | zero =>
    intro σ wd s0 wd0 hM
    cases hM
  | succ n ih =>
    intro σ wd s0 wd0 hM H locs hw ls hl
    rw [f_X9_nextToken_0] at hM
    refine lv_aload_n hx hb dX9_nextToken_0 rfl (lv_at hl 0 rfl) ?_
    refine lv_aload_n hx hb dX9_nextToken_1 rfl (lv_at hl 0 rfl) ?_
    refine q_get (C := RX9) (T := TX9) (N := 17) (ci := 9) E (fun w h => List.mem_cons_of_mem _ (inX9 w h)) hw 0 rfl rfl 6 (by decide) (List.mem_cons_of_mem _ tb_1151) (v := .int (σ 7 0)) rfl dX9_nextToken_2 ?_
    obtain ⟨p1, h2, hM⟩ := b_some hM
    refine q_cv (As := [.int (σ 7 0)]) (rest := []) E hw hl (c_X9_byteAt l D cA tS A h F (σ 7 0) σ wd p1 h2) 1 (bwV bw_c tb_1613 tb_1615 tb_90 tb_111 tb_1616) rfl (by decide +kernel) ⟨Nat.le_of_ble_eq_true rfl, Nat.le_of_ble_eq_true rfl⟩ 0 9 (T := TX9) (N := 17) rfl rfl rfl rfl (Nat.le_of_ble_eq_true rfl) ⟨Nat.zero_le _, Nat.zero_le _⟩ dX9_nextToken_5 (fun H locs hw => ?_)
    refine lv_bipush (v := 32) hx hb dX9_nextToken_8 (by decide) ?_
    refine lv_icmp_eq (tgt := 26) hx hb dX9_nextToken_10 (by decide) (fun c3 => ?_) (fun c3 => ?_)
    · replace hM := i_pos hM c3
      refine lv_aload_n hx hb dX9_nextToken_26 rfl (lv_at hl 0 rfl) ?_
      refine lv_dup hx hb dX9_nextToken_27 rfl ?_
      refine q_get (C := RX9) (T := TX9) (N := 17) (ci := 9) E (fun w h => List.mem_cons_of_mem _ (inX9 w h)) hw 0 rfl rfl 6 (by decide) (List.mem_cons_of_mem _ tb_1151) (v := .int (σ 7 0)) rfl dX9_nextToken_28 ?_
      refine lv_iconst (v := 1) hx hb dX9_nextToken_31 (by decide) ?_
      refine lv_iadd hx hb dX9_nextToken_32 ?_
      refine q_puti (C := RX9) (T := TX9) (N := 17) (ci := 9) E (fun w h => List.mem_cons_of_mem _ (inX9 w h)) tyX9 tyX9_ok nmX9 hw 0 rfl rfl 6 (by decide) (List.mem_cons_of_mem _ tb_1151) rfl rfl (Nat.le_of_ble_eq_true rfl) (wM cA h (up σ 7 0 ((σ 7 0) + 1)) wd ++ F) st_M_7 dX9_nextToken_33 (fun H locs hw => ?_)
      refine lv_goto (tgt := 0) hx hb dX9_nextToken_36 (by decide) ?_
      exact ih _ _ _ _ hM _ _ hw _ (lv_sub hl [0] rfl)
    · replace hM := i_neg hM c3
      refine lv_aload_n hx hb dX9_nextToken_13 rfl (lv_at hl 0 rfl) ?_
      refine lv_aload_n hx hb dX9_nextToken_14 rfl (lv_at hl 0 rfl) ?_
      refine q_get (C := RX9) (T := TX9) (N := 17) (ci := 9) E (fun w h => List.mem_cons_of_mem _ (inX9 w h)) hw 0 rfl rfl 6 (by decide) (List.mem_cons_of_mem _ tb_1151) (v := .int (σ 7 0)) rfl dX9_nextToken_15 ?_
      obtain ⟨p4, h5, hM⟩ := b_some hM
      refine q_cv (As := [.int (σ 7 0)]) (rest := []) E hw hl (c_X9_byteAt l D cA tS A h F (σ 7 0) σ wd p4 h5) 1 (bwV bw_c tb_1613 tb_1615 tb_90 tb_111 tb_1616) rfl (by decide +kernel) ⟨Nat.le_of_ble_eq_true rfl, Nat.le_of_ble_eq_true rfl⟩ 0 9 (T := TX9) (N := 17) rfl rfl rfl rfl (Nat.le_of_ble_eq_true rfl) ⟨Nat.zero_le _, Nat.zero_le _⟩ dX9_nextToken_18 (fun H locs hw => ?_)
      refine lv_bipush (v := 10) hx hb dX9_nextToken_21 (by decide) ?_
      refine lv_icmp_ne (tgt := 39) hx hb dX9_nextToken_23 (by decide) (fun c6 => ?_) (fun c6 => ?_)
      · replace hM := i_neg hM c6
        refine lv_aload_n hx hb dX9_nextToken_39 rfl (lv_at hl 0 rfl) ?_
        refine lv_aload_n hx hb dX9_nextToken_40 rfl (lv_at hl 0 rfl) ?_
        refine q_get (C := RX9) (T := TX9) (N := 17) (ci := 9) E (fun w h => List.mem_cons_of_mem _ (inX9 w h)) hw 0 rfl rfl 6 (by decide) (List.mem_cons_of_mem _ tb_1151) (v := .int (σ 7 0)) rfl dX9_nextToken_41 ?_
        refine q_puti (C := RX9) (T := TX9) (N := 17) (ci := 9) E (fun w h => List.mem_cons_of_mem _ (inX9 w h)) tyX9 tyX9_ok nmX9 hw 0 rfl rfl 7 (by decide) (List.mem_cons_of_mem _ tb_1152) rfl rfl (Nat.le_of_ble_eq_true rfl) (wM cA h (up σ 8 0 (σ 7 0)) wd ++ F) st_M_8 dX9_nextToken_44 (fun H locs hw => ?_)
        refine lv_aload_n hx hb dX9_nextToken_47 rfl (lv_at hl 0 rfl) ?_
        refine lv_iconst (v := 0) hx hb dX9_nextToken_48 (by decide) ?_
        refine q_puti (C := RX9) (T := TX9) (N := 17) (ci := 9) E (fun w h => List.mem_cons_of_mem _ (inX9 w h)) tyX9 tyX9_ok nmX9 hw 0 rfl rfl 9 (by decide) (List.mem_cons_of_mem _ tb_1154) rfl rfl (Nat.le_of_ble_eq_true rfl) (wM cA h (up (up σ 8 0 (σ 7 0)) 10 0 0) wd ++ F) st_M_10 dX9_nextToken_49 (fun H locs hw => ?_)
        refine lv_aload_n hx hb dX9_nextToken_52 rfl (lv_at hl 0 rfl) ?_
        refine lv_lconst (v := 0) hx hb dX9_nextToken_53 (by decide) ?_
        refine q_putl (C := RX9) (T := TX9) (N := 17) (ci := 9) E (fun w h => List.mem_cons_of_mem _ (inX9 w h)) tyX9 tyX9_ok nmX9 hw 0 rfl rfl 14 (by decide) (List.mem_cons_of_mem _ tb_1159) rfl rfl (Nat.le_of_ble_eq_true rfl) (wM cA h (up (up σ 8 0 (σ 7 0)) 10 0 0) 0 ++ F) rfl dX9_nextToken_54 (fun H locs hw => ?_)
        refine lv_aload_n hx hb dX9_nextToken_57 rfl (lv_at hl 0 rfl) ?_
        refine lv_iconst (v := 0) hx hb dX9_nextToken_58 (by decide) ?_
        refine q_puti (C := RX9) (T := TX9) (N := 17) (ci := 9) E (fun w h => List.mem_cons_of_mem _ (inX9 w h)) tyX9 tyX9_ok nmX9 hw 0 rfl rfl 10 (by decide) (List.mem_cons_of_mem _ tb_1155) rfl rfl (Nat.le_of_ble_eq_true rfl) (wM cA h (up (up (up σ 8 0 (σ 7 0)) 10 0 0) 11 0 0) 0 ++ F) st_M_11 dX9_nextToken_59 (fun H locs hw => ?_)
        refine lv_aload_n hx hb dX9_nextToken_62 rfl (lv_at hl 0 rfl) ?_
        refine lv_aload_n hx hb dX9_nextToken_63 rfl (lv_at hl 0 rfl) ?_
        refine q_get (C := RX9) (T := TX9) (N := 17) (ci := 9) E (fun w h => List.mem_cons_of_mem _ (inX9 w h)) hw 0 rfl rfl 6 (by decide) (List.mem_cons_of_mem _ tb_1151) (v := .int (σ 7 0)) (q_fld (congrFun (((up_ne (up (up σ 8 0 (σ 7 0)) 10 0 0) 11 0 0 7 (by decide)).trans (up_ne (up σ 8 0 (σ 7 0)) 10 0 0 7 (by decide))).trans (up_ne σ 8 0 (σ 7 0) 7 (by decide))) 0) rfl) dX9_nextToken_64 ?_
        obtain ⟨p7, h8, hM⟩ := b_some hM
        refine q_cv (As := [.int (σ 7 0)]) (rest := []) E hw hl (c_X9_byteAt l D cA tS A h F (σ 7 0) (up (up (up σ 8 0 (σ 7 0)) 10 0 0) 11 0 0) 0 p7 h8) 1 (bwV bw_c tb_1613 tb_1615 tb_90 tb_111 tb_1616) rfl (by decide +kernel) ⟨Nat.le_of_ble_eq_true rfl, Nat.le_of_ble_eq_true rfl⟩ 0 9 (T := TX9) (N := 17) rfl rfl rfl rfl (Nat.le_of_ble_eq_true rfl) ⟨Nat.zero_le _, Nat.zero_le _⟩ dX9_nextToken_67 (fun H locs hw => ?_)
        refine lv_istore_n (lv' := [(1, .int p7), (0, .ref (h 0))]) hx hb dX9_nextToken_70 rfl hl (by decide) rfl (fun ls hl => ?_)
        refine lv_iload_n hx hb dX9_nextToken_71 rfl (lv_at hl 0 rfl) ?_
        refine lv_iconst (v := (-1)) hx hb dX9_nextToken_72 (by decide) ?_
        refine lv_icmp_ne (tgt := 84) hx hb dX9_nextToken_73 (by decide) (fun c9 => ?_) (fun c9 => ?_)
        · replace hM := i_neg hM c9
          refine lv_iload_n hx hb dX9_nextToken_84 rfl (lv_at hl 0 rfl) ?_
          obtain ⟨p10, h11, hM⟩ := b_some hM
          refine q_cs (As := [.int p7]) (rest := []) E hw hl (c_X9_isLetter l D cA tS A (wM cA h (up (up (up σ 8 0 (σ 7 0)) 10 0 0) 11 0 0) 0 ++ F) p7 p10 h11) 1 (bwS bw_c tb_1617 tb_1618 tb_111 tb_1619) rfl (by decide +kernel) ⟨Nat.le_of_ble_eq_true rfl, Nat.le_of_ble_eq_true rfl⟩ rfl rfl (Nat.le_of_ble_eq_true rfl) ⟨Nat.zero_le _, Nat.zero_le _⟩ dX9_nextToken_85 (fun H locs hw => ?_)
          refine lv_if_eq (tgt := 175) hx hb dX9_nextToken_88 (by decide) (fun c12 => ?_) (fun c12 => ?_)
          · replace hM := i_pos hM c12
            refine lv_iload_n hx hb dX9_nextToken_175 rfl (lv_at hl 0 rfl) ?_
            obtain ⟨p13, h14, hM⟩ := b_some hM
            refine q_cs (As := [.int p7]) (rest := []) E hw hl (c_X9_isDigit l D cA tS A (wM cA h (up (up (up σ 8 0 (σ 7 0)) 10 0 0) 11 0 0) 0 ++ F) p7 p13 h14) 1 (bwS bw_c tb_1622 tb_1623 tb_111 tb_1624) rfl (by decide +kernel) ⟨Nat.le_of_ble_eq_true rfl, Nat.le_of_ble_eq_true rfl⟩ rfl rfl (Nat.le_of_ble_eq_true rfl) ⟨Nat.zero_le _, Nat.zero_le _⟩ dX9_nextToken_176 (fun H locs hw => ?_)
            refine lv_if_eq (tgt := 253) hx hb dX9_nextToken_179 (by decide) (fun c15 => ?_) (fun c15 => ?_)
            · replace hM := i_pos hM c15
              refine lv_aload_n hx hb dX9_nextToken_253 rfl (lv_at hl 1 rfl) ?_
              refine lv_iload_n hx hb dX9_nextToken_254 rfl (lv_at hl 0 rfl) ?_
              refine lv_bipush (v := 59) hx hb dX9_nextToken_255 (by decide) ?_
              refine lv_icmp_ne (tgt := 264) hx hb dX9_nextToken_257 (by decide) (fun c16 => ?_) (fun c16 => ?_)
              · replace hM := i_neg hM c16
                refine lv_iconst (v := 1) hx hb dX9_nextToken_264 (by decide) ?_
                refine q_puti (C := RX9) (T := TX9) (N := 17) (ci := 9) E (fun w h => List.mem_cons_of_mem _ (inX9 w h)) tyX9 tyX9_ok nmX9 hw 0 rfl rfl 8 (by decide) (List.mem_cons_of_mem _ tb_1153) rfl rfl (Nat.le_of_ble_eq_true rfl) (wM cA h (up (up (up (up σ 8 0 (σ 7 0)) 10 0 0) 11 0 0) 9 0 1) 0 ++ F) st_M_9 dX9_nextToken_265 (fun H locs hw => ?_)
                refine lv_aload_n hx hb dX9_nextToken_268 rfl (lv_at hl 1 rfl) ?_
                refine lv_dup hx hb dX9_nextToken_269 rfl ?_
                refine q_get (C := RX9) (T := TX9) (N := 17) (ci := 9) E (fun w h => List.mem_cons_of_mem _ (inX9 w h)) hw 0 rfl rfl 6 (by decide) (List.mem_cons_of_mem _ tb_1151) (v := .int (σ 7 0)) (q_fld (congrFun ((((up_ne (up (up (up σ 8 0 (σ 7 0)) 10 0 0) 11 0 0) 9 0 1 7 (by decide)).trans (up_ne (up (up σ 8 0 (σ 7 0)) 10 0 0) 11 0 0 7 (by decide))).trans (up_ne (up σ 8 0 (σ 7 0)) 10 0 0 7 (by decide))).trans (up_ne σ 8 0 (σ 7 0) 7 (by decide))) 0) rfl) dX9_nextToken_270 ?_
                refine lv_iconst (v := 1) hx hb dX9_nextToken_273 (by decide) ?_
                refine lv_iadd hx hb dX9_nextToken_274 ?_
                refine q_puti (C := RX9) (T := TX9) (N := 17) (ci := 9) E (fun w h => List.mem_cons_of_mem _ (inX9 w h)) tyX9 tyX9_ok nmX9 hw 0 rfl rfl 6 (by decide) (List.mem_cons_of_mem _ tb_1151) rfl rfl (Nat.le_of_ble_eq_true rfl) (wM cA h (up (up (up (up (up σ 8 0 (σ 7 0)) 10 0 0) 11 0 0) 9 0 1) 7 0 ((σ 7 0) + 1)) 0 ++ F) st_M_7 dX9_nextToken_275 (fun H locs hw => ?_)
                cases hM
                exact q_retv E hw dX9_nextToken_278
              · replace hM := i_pos hM c16
                refine lv_iconst (v := 4) hx hb dX9_nextToken_260 (by decide) ?_
                refine lv_goto (tgt := 265) hx hb dX9_nextToken_261 (by decide) ?_
                refine q_puti (C := RX9) (T := TX9) (N := 17) (ci := 9) E (fun w h => List.mem_cons_of_mem _ (inX9 w h)) tyX9 tyX9_ok nmX9 hw 0 rfl rfl 8 (by decide) (List.mem_cons_of_mem _ tb_1153) rfl rfl (Nat.le_of_ble_eq_true rfl) (wM cA h (up (up (up (up σ 8 0 (σ 7 0)) 10 0 0) 11 0 0) 9 0 4) 0 ++ F) st_M_9 dX9_nextToken_265 (fun H locs hw => ?_)
                refine lv_aload_n hx hb dX9_nextToken_268 rfl (lv_at hl 1 rfl) ?_
                refine lv_dup hx hb dX9_nextToken_269 rfl ?_
                refine q_get (C := RX9) (T := TX9) (N := 17) (ci := 9) E (fun w h => List.mem_cons_of_mem _ (inX9 w h)) hw 0 rfl rfl 6 (by decide) (List.mem_cons_of_mem _ tb_1151) (v := .int (σ 7 0)) (q_fld (congrFun ((((up_ne (up (up (up σ 8 0 (σ 7 0)) 10 0 0) 11 0 0) 9 0 4 7 (by decide)).trans (up_ne (up (up σ 8 0 (σ 7 0)) 10 0 0) 11 0 0 7 (by decide))).trans (up_ne (up σ 8 0 (σ 7 0)) 10 0 0 7 (by decide))).trans (up_ne σ 8 0 (σ 7 0) 7 (by decide))) 0) rfl) dX9_nextToken_270 ?_
                refine lv_iconst (v := 1) hx hb dX9_nextToken_273 (by decide) ?_
                refine lv_iadd hx hb dX9_nextToken_274 ?_
                refine q_puti (C := RX9) (T := TX9) (N := 17) (ci := 9) E (fun w h => List.mem_cons_of_mem _ (inX9 w h)) tyX9 tyX9_ok nmX9 hw 0 rfl rfl 6 (by decide) (List.mem_cons_of_mem _ tb_1151) rfl rfl (Nat.le_of_ble_eq_true rfl) (wM cA h (up (up (up (up (up σ 8 0 (σ 7 0)) 10 0 0) 11 0 0) 9 0 4) 7 0 ((σ 7 0) + 1)) 0 ++ F) st_M_7 dX9_nextToken_275 (fun H locs hw => ?_)
                cases hM
                exact q_retv E hw dX9_nextToken_278
            · replace hM := i_neg hM c15
              refine lv_aload_n hx hb dX9_nextToken_182 rfl (lv_at hl 1 rfl) ?_
              refine lv_iconst (v := 3) hx hb dX9_nextToken_183 (by decide) ?_
              refine q_puti (C := RX9) (T := TX9) (N := 17) (ci := 9) E (fun w h => List.mem_cons_of_mem _ (inX9 w h)) tyX9 tyX9_ok nmX9 hw 0 rfl rfl 8 (by decide) (List.mem_cons_of_mem _ tb_1153) rfl rfl (Nat.le_of_ble_eq_true rfl) (wM cA h (up (up (up (up σ 8 0 (σ 7 0)) 10 0 0) 11 0 0) 9 0 3) 0 ++ F) st_M_9 dX9_nextToken_184 (fun H locs hw => ?_)
              exact s_X9_nextToken_187 l D cA tS A h F N E N _ _ _ _ hM _ _ hw _ (lv_sub hl [1] rfl)
          · replace hM := i_neg hM c12
            refine lv_aload_n hx hb dX9_nextToken_91 rfl (lv_at hl 1 rfl) ?_
            refine lv_iconst (v := 2) hx hb dX9_nextToken_92 (by decide) ?_
            refine q_puti (C := RX9) (T := TX9) (N := 17) (ci := 9) E (fun w h => List.mem_cons_of_mem _ (inX9 w h)) tyX9 tyX9_ok nmX9 hw 0 rfl rfl 8 (by decide) (List.mem_cons_of_mem _ tb_1153) rfl rfl (Nat.le_of_ble_eq_true rfl) (wM cA h (up (up (up (up σ 8 0 (σ 7 0)) 10 0 0) 11 0 0) 9 0 2) 0 ++ F) st_M_9 dX9_nextToken_93 (fun H locs hw => ?_)
            exact s_X9_nextToken_96 l D cA tS A h F N E N _ _ _ _ hM _ _ hw _ (lv_sub hl [1] rfl)
        · replace hM := i_pos hM c9
          refine lv_aload_n hx hb dX9_nextToken_76 rfl (lv_at hl 1 rfl) ?_
          refine lv_iconst (v := 0) hx hb dX9_nextToken_77 (by decide) ?_
          refine q_puti (C := RX9) (T := TX9) (N := 17) (ci := 9) E (fun w h => List.mem_cons_of_mem _ (inX9 w h)) tyX9 tyX9_ok nmX9 hw 0 rfl rfl 8 (by decide) (List.mem_cons_of_mem _ tb_1153) rfl rfl (Nat.le_of_ble_eq_true rfl) (wM cA h (up (up (up (up σ 8 0 (σ 7 0)) 10 0 0) 11 0 0) 9 0 0) 0 ++ F) st_M_9 dX9_nextToken_78 (fun H locs hw => ?_)
          refine lv_goto (tgt := 278) hx hb dX9_nextToken_81 (by decide) ?_
          cases hM
          exact q_retv E hw dX9_nextToken_278
      · replace hM := i_pos hM c6
        refine lv_aload_n hx hb dX9_nextToken_26 rfl (lv_at hl 0 rfl) ?_
        refine lv_dup hx hb dX9_nextToken_27 rfl ?_
        refine q_get (C := RX9) (T := TX9) (N := 17) (ci := 9) E (fun w h => List.mem_cons_of_mem _ (inX9 w h)) hw 0 rfl rfl 6 (by decide) (List.mem_cons_of_mem _ tb_1151) (v := .int (σ 7 0)) rfl dX9_nextToken_28 ?_
        refine lv_iconst (v := 1) hx hb dX9_nextToken_31 (by decide) ?_
        refine lv_iadd hx hb dX9_nextToken_32 ?_
        refine q_puti (C := RX9) (T := TX9) (N := 17) (ci := 9) E (fun w h => List.mem_cons_of_mem _ (inX9 w h)) tyX9 tyX9_ok nmX9 hw 0 rfl rfl 6 (by decide) (List.mem_cons_of_mem _ tb_1151) rfl rfl (Nat.le_of_ble_eq_true rfl) (wM cA h (up σ 7 0 ((σ 7 0) + 1)) wd ++ F) st_M_7 dX9_nextToken_33 (fun H locs hw => ?_)
        refine lv_goto (tgt := 0) hx hb dX9_nextToken_36 (by decide) ?_
        exact ih _ _ _ _ hM _ _ hw _ (lv_sub hl [0] rfl)
set_option maxRecDepth 100000 in
set_option maxHeartbeats 4000000 in
theorem c_X9_nextToken (l : Launch) (D : va_G) (cA : Nat → ClassId) (tS : Nat → Nat) (A : Nat → Prop) (h : Nat → Nat) (F : va_W) (N : Nat) (σ : Sg) (wd : Int64) (s0 : Sg) (wd0 : Int64) (hM : f_X9_nextToken N σ wd = some (s0, wd0)) : Ct l yX9_nextToken (Cond.code yX9_nextToken cX9_nextToken 2 none :: bw) 2 42 D cA tS A [.ref (h 0)] (wM cA h σ wd ++ F) none (wM cA h s0 wd0 ++ F) := by
  refine ct_of (by decide +kernel) (Nat.le_of_ble_eq_true rfl) ?_
  intro p e s m below meth c E hw ls hl
  replace E : Ev p cX9_nextToken 2 none RX9 (Cond.code yX9_nextToken cX9_nextToken 2 none :: bw) D cA tS A s m _ meth c := E
  replace hl : lv_has ls 2 [(0, .ref (h 0))] := hl
  have hx := E.1.1
  have hb := E.1.2.1
  unfold f_X9_nextToken at hM
  exact s_X9_nextToken_0 l D cA tS A h F N E N _ _ _ _ hM _ _ hw _ (lv_sub hl [0] rfl)
set_option maxRecDepth 100000 in
set_option maxHeartbeats 4000000 in
theorem s_X9_isWord_26 (l : Launch) (D : va_G) (cA : Nat → ClassId) (tS : Nat → Nat) (A : Nat → Prop) (h : Nat → Nat) (F : va_W) (N : Nat) {p : Program} {e : Env} {s : State} {m : MethodId} {args : Array Value} {below : List Frame} {meth : Method} {c : Code} (E : Ev p cX9_isWord 5 (some .boolean) RX9 (Cond.code yX9_isWord cX9_isWord 5 (some .boolean) :: bw) D cA tS A s m args meth c) : ∀ (n : Nat) (k1 : Nat) (y2 : Int64) (x4 : Int32) (σ : Sg) (wd : Int64) (r0 : Int32) (hM : f_X9_isWord_26 N n k1 y2 x4 σ wd = some r0) (H : Heap) (locs : List Loc) (hw : Wd D A (wM cA h σ wd ++ F) s.heap H locs) (ls : Array Slot) (hl : lv_has ls 5 [(0, .ref (h 0)), (1, .ref (adK tS k1)), (2, .long y2), (4, .int x4)]), W p l e ({ frames := 4, cells := 0, slots := 0, locals := 85 } : Room) s m args below meth c H locs 0 0 (MQ below (QW D A (some (.int r0)) (wM cA h σ wd ++ F)) args s 0 0 A) (F0 m 26 ls []) := by
  have hx := E.1.1
  have hb := E.1.2.1
  intro n
  induction n with
  | zero =>
    intro k1 y2 x4 σ wd r0 hM
    cases hM
  | succ n ih =>
    intro k1 y2 x4 σ wd r0 hM H locs hw ls hl
    rw [f_X9_isWord_26] at hM
    refine lv_iload hx hb dX9_isWord_26 (lv_at hl 3 rfl) ?_
    refine lv_aload_n hx hb dX9_isWord_28 rfl (lv_at hl 1 rfl) ?_
    obtain ⟨g3, hM⟩ := g_some hM
    obtain ⟨p1, h2, hM⟩ := b_some hM
    refine q_cvs (k := k1) (As := []) (rest := [.int x4]) E hw hl (c_J0_length_8abf5 l D cA tS A (wM cA h σ wd ++ F) k1 p1 h2) 0 (bwV bw_c tb_1639 tb_1043 tb_1044 tb_113 tb_1045) rfl (by decide +kernel) ⟨Nat.le_of_ble_eq_true rfl, Nat.le_of_ble_eq_true rfl⟩ g3 rfl rfl (Nat.le_of_ble_eq_true rfl) ⟨Nat.zero_le _, Nat.zero_le _⟩ dX9_isWord_29 (fun H locs hw => ?_)
    refine lv_icmp_ge (tgt := 59) hx hb dX9_isWord_32 (by decide) (fun c4 => ?_) (fun c4 => ?_)
    · replace hM := i_pos hM c4
      refine lv_aload_n hx hb dX9_isWord_59 rfl (lv_at hl 0 rfl) ?_
      refine q_get (C := RX9) (T := TX9) (N := 17) (ci := 9) E (fun w h => List.mem_cons_of_mem _ (inX9 w h)) hw 0 rfl rfl 14 (by decide) (List.mem_cons_of_mem _ tb_1159) (v := .long wd) rfl dX9_isWord_60 ?_
      refine lv_lload_n hx hb dX9_isWord_63 rfl (lv_at hl 2 rfl) ?_
      refine W.lcmp hx hb dX9_isWord_64 ?_
      refine lv_if_ne (tgt := 72) hx hb dX9_isWord_65 (by decide) (fun c5 => ?_) (fun c5 => ?_)
      · replace hM := i_neg hM c5
        refine lv_iconst (v := 0) hx hb dX9_isWord_72 (by decide) ?_
        cases hM
        exact q_retz E hw (by decide) dX9_isWord_73
      · replace hM := i_pos hM c5
        refine lv_iconst (v := 1) hx hb dX9_isWord_68 (by decide) ?_
        refine lv_goto (tgt := 73) hx hb dX9_isWord_69 (by decide) ?_
        cases hM
        exact q_retz E hw (by decide) dX9_isWord_73
    · replace hM := i_neg hM c4
      refine lv_ldc2 (v := 27) hx hb E.1.2.2.2.1 (E.1.2.2.2.2 _ (List.mem_cons_of_mem _ tb_1620)) dX9_isWord_35 ?_
      refine lv_lload_n hx hb dX9_isWord_38 rfl (lv_at hl 2 rfl) ?_
      refine lv_lmul hx hb dX9_isWord_39 ?_
      refine lv_aload_n hx hb dX9_isWord_40 rfl (lv_at hl 1 rfl) ?_
      refine lv_iload hx hb dX9_isWord_41 (lv_at hl 3 rfl) ?_
      obtain ⟨p6, h7, hM⟩ := b_some hM
      refine q_cvs (k := k1) (As := [.int x4]) (rest := [.long (27 * y2)]) E hw hl (c_J0_charAt_5068e l D cA tS A (wM cA h σ wd ++ F) k1 x4 p6 h7) 1 (bwV bw_c tb_1640 tb_1053 tb_1054 tb_113 tb_1055) rfl (by decide +kernel) ⟨Nat.le_of_ble_eq_true rfl, Nat.le_of_ble_eq_true rfl⟩ g3 rfl rfl (Nat.le_of_ble_eq_true rfl) ⟨Nat.zero_le _, Nat.zero_le _⟩ dX9_isWord_43 (fun H locs hw => ?_)
      refine lv_i2l (v := (p6 : Int32).toInt64) hx hb dX9_isWord_46 rfl ?_
      refine lv_ladd hx hb dX9_isWord_47 ?_
      refine lv_ldc2 (v := 96) hx hb E.1.2.2.2.1 (E.1.2.2.2.2 _ (List.mem_cons_of_mem _ tb_1621)) dX9_isWord_48 ?_
      refine lv_lsub hx hb dX9_isWord_51 ?_
      refine lv_lstore_n (lv' := [(2, .long (((27 * y2) + ((p6 : Int32).toInt64)) - 96)), (0, .ref (h 0)), (1, .ref (adK tS k1)), (4, .int x4)]) hx hb dX9_isWord_52 rfl hl (by decide) rfl (fun ls hl => ?_)
      refine lv_iinc (v := (x4 + 1)) (lv' := [(4, .int (x4 + 1)), (2, .long (((27 * y2) + ((p6 : Int32).toInt64)) - 96)), (0, .ref (h 0)), (1, .ref (adK tS k1))]) hx hb dX9_isWord_53 hl (k := 3) rfl rfl (by decide) rfl (fun ls hl => ?_)
      refine lv_goto (tgt := 26) hx hb dX9_isWord_56 (by decide) ?_
      exact ih _ _ _ _ _ _ hM _ _ hw _ (lv_sub hl [2, 3, 1, 0] rfl)
set_option maxRecDepth 100000 in
set_option maxHeartbeats 4000000 in
theorem c_X9_isWord (l : Launch) (D : va_G) (cA : Nat → ClassId) (tS : Nat → Nat) (A : Nat → Prop) (h : Nat → Nat) (F : va_W) (N : Nat) (k1 : Nat) (σ : Sg) (wd : Int64) (r0 : Int32) (hM : f_X9_isWord N k1 σ wd = some r0) : Ct l yX9_isWord (Cond.code yX9_isWord cX9_isWord 5 (some .boolean) :: bw) 4 85 D cA tS A [.ref (h 0), .ref (adK tS k1)] (wM cA h σ wd ++ F) (some (.int r0)) (wM cA h σ wd ++ F) := by
  refine ct_of (by decide +kernel) (Nat.le_of_ble_eq_true rfl) ?_
  intro p e s m below meth c E hw ls hl
  replace E : Ev p cX9_isWord 5 (some .boolean) RX9 (Cond.code yX9_isWord cX9_isWord 5 (some .boolean) :: bw) D cA tS A s m _ meth c := E
  replace hl : lv_has ls 5 [(0, .ref (h 0)), (1, .ref (adK tS k1))] := hl
  have hx := E.1.1
  have hb := E.1.2.1
  unfold f_X9_isWord at hM
  refine lv_aload_n hx hb dX9_isWord_0 rfl (lv_at hl 0 rfl) ?_
  refine q_get (C := RX9) (T := TX9) (N := 17) (ci := 9) E (fun w h => List.mem_cons_of_mem _ (inX9 w h)) hw 0 rfl rfl 8 (by decide) (List.mem_cons_of_mem _ tb_1153) (v := .int (σ 9 0)) rfl dX9_isWord_1 ?_
  refine lv_iconst (v := 2) hx hb dX9_isWord_4 (by decide) ?_
  refine lv_icmp_ne (tgt := 19) hx hb dX9_isWord_5 (by decide) (fun c1 => ?_) (fun c1 => ?_)
  · replace hM := i_neg hM c1
    refine lv_iconst (v := 0) hx hb dX9_isWord_19 (by decide) ?_
    cases hM
    exact q_retz E hw (by decide) dX9_isWord_20
  · replace hM := i_pos hM c1
    refine lv_aload_n hx hb dX9_isWord_8 rfl (lv_at hl 0 rfl) ?_
    refine q_get (C := RX9) (T := TX9) (N := 17) (ci := 9) E (fun w h => List.mem_cons_of_mem _ (inX9 w h)) hw 0 rfl rfl 9 (by decide) (List.mem_cons_of_mem _ tb_1154) (v := .int (σ 10 0)) rfl dX9_isWord_9 ?_
    refine lv_aload_n hx hb dX9_isWord_12 rfl (lv_at hl 1 rfl) ?_
    obtain ⟨g4, hM⟩ := g_some hM
    obtain ⟨p2, h3, hM⟩ := b_some hM
    refine q_cvs (k := k1) (As := []) (rest := [.int (σ 10 0)]) E hw hl (c_J0_length_8abf5 l D cA tS A (wM cA h σ wd ++ F) k1 p2 h3) 0 (bwV bw_c tb_1639 tb_1043 tb_1044 tb_113 tb_1045) rfl (by decide +kernel) ⟨Nat.le_of_ble_eq_true rfl, Nat.le_of_ble_eq_true rfl⟩ g4 rfl rfl (Nat.le_of_ble_eq_true rfl) ⟨Nat.zero_le _, Nat.zero_le _⟩ dX9_isWord_13 (fun H locs hw => ?_)
    refine lv_icmp_eq (tgt := 21) hx hb dX9_isWord_16 (by decide) (fun c5 => ?_) (fun c5 => ?_)
    · replace hM := i_pos hM c5
      refine lv_lconst (v := 0) hx hb dX9_isWord_21 (by decide) ?_
      refine lv_lstore_n (lv' := [(2, .long 0), (0, .ref (h 0)), (1, .ref (adK tS k1))]) hx hb dX9_isWord_22 rfl hl (by decide) rfl (fun ls hl => ?_)
      refine lv_iconst (v := 0) hx hb dX9_isWord_23 (by decide) ?_
      refine lv_istore (lv' := [(4, .int 0), (2, .long 0), (0, .ref (h 0)), (1, .ref (adK tS k1))]) hx hb dX9_isWord_24 hl (by decide) rfl (fun ls hl => ?_)
      exact s_X9_isWord_26 l D cA tS A h F N E N _ _ _ _ _ _ hM _ _ hw _ (lv_sub hl [2, 3, 1, 0] rfl)
    · replace hM := i_neg hM c5
      refine lv_iconst (v := 0) hx hb dX9_isWord_19 (by decide) ?_
      cases hM
      exact q_retz E hw (by decide) dX9_isWord_20
set_option maxRecDepth 100000 in
set_option maxHeartbeats 4000000 in
theorem c_X9_statementOfWord (l : Launch) (D : va_G) (cA : Nat → ClassId) (tS : Nat → Nat) (A : Nat → Prop) (h : Nat → Nat) (F : va_W) (N : Nat) (σ : Sg) (wd : Int64) (r0 : Int32) (hM : f_X9_statementOfWord N σ wd = some r0) : Ct l yX9_statementOfWord (Cond.code yX9_statementOfWord cX9_statementOfWord 1 (some .int) :: bw) 5 109 D cA tS A [.ref (h 0)] (wM cA h σ wd ++ F) (some (.int r0)) (wM cA h σ wd ++ F) := by
  refine ct_of (by decide +kernel) (Nat.le_of_ble_eq_true rfl) ?_
  intro p e s m below meth c E hw ls hl
  replace E : Ev p cX9_statementOfWord 1 (some .int) RX9 (Cond.code yX9_statementOfWord cX9_statementOfWord 1 (some .int) :: bw) D cA tS A s m _ meth c := E
  replace hl : lv_has ls 1 [(0, .ref (h 0))] := hl
  have hx := E.1.1
  have hb := E.1.2.1
  unfold f_X9_statementOfWord at hM
  refine lv_aload_n hx hb dX9_statementOfWord_0 rfl (lv_at hl 0 rfl) ?_
  refine va_ldcS hx hb E.1.2.2.2.1 (E.2.2.2.2.2.2.2.2.1 (RX9, 254, "day", 1) (by decide +kernel)) dX9_statementOfWord_1 ?_
  obtain ⟨p1, h2, hM⟩ := b_some hM
  refine q_cv (As := [.ref (adK tS 1)]) (rest := []) E hw hl (c_X9_isWord l D cA tS A h F N 1 σ wd p1 h2) 1 (bwV bw_c tb_1635 tb_1637 tb_93 tb_111 tb_1638) rfl (by decide +kernel) ⟨Nat.le_of_ble_eq_true rfl, Nat.le_of_ble_eq_true rfl⟩ 0 9 (T := TX9) (N := 17) rfl rfl rfl rfl (Nat.le_of_ble_eq_true rfl) ⟨Nat.zero_le _, Nat.zero_le _⟩ dX9_statementOfWord_3 (fun H locs hw => ?_)
  refine lv_if_eq (tgt := 11) hx hb dX9_statementOfWord_6 (by decide) (fun c3 => ?_) (fun c3 => ?_)
  · replace hM := i_pos hM c3
    refine lv_aload_n hx hb dX9_statementOfWord_11 rfl (lv_at hl 0 rfl) ?_
    refine va_ldcSw hx hb E.1.2.2.2.1 (E.2.2.2.2.2.2.2.2.1 (RX9, 260, "kind", 2) (by decide +kernel)) dX9_statementOfWord_12 ?_
    obtain ⟨p4, h5, hM⟩ := b_some hM
    refine q_cv (As := [.ref (adK tS 2)]) (rest := []) E hw hl (c_X9_isWord l D cA tS A h F N 2 σ wd p4 h5) 1 (bwV bw_c tb_1635 tb_1637 tb_93 tb_111 tb_1638) rfl (by decide +kernel) ⟨Nat.le_of_ble_eq_true rfl, Nat.le_of_ble_eq_true rfl⟩ 0 9 (T := TX9) (N := 17) rfl rfl rfl rfl (Nat.le_of_ble_eq_true rfl) ⟨Nat.zero_le _, Nat.zero_le _⟩ dX9_statementOfWord_15 (fun H locs hw => ?_)
    refine lv_if_eq (tgt := 24) hx hb dX9_statementOfWord_18 (by decide) (fun c6 => ?_) (fun c6 => ?_)
    · replace hM := i_pos hM c6
      refine lv_aload_n hx hb dX9_statementOfWord_24 rfl (lv_at hl 0 rfl) ?_
      refine va_ldcSw hx hb E.1.2.2.2.1 (E.2.2.2.2.2.2.2.2.1 (RX9, 261, "agents", 3) (by decide +kernel)) dX9_statementOfWord_25 ?_
      obtain ⟨p7, h8, hM⟩ := b_some hM
      refine q_cv (As := [.ref (adK tS 3)]) (rest := []) E hw hl (c_X9_isWord l D cA tS A h F N 3 σ wd p7 h8) 1 (bwV bw_c tb_1635 tb_1637 tb_93 tb_111 tb_1638) rfl (by decide +kernel) ⟨Nat.le_of_ble_eq_true rfl, Nat.le_of_ble_eq_true rfl⟩ 0 9 (T := TX9) (N := 17) rfl rfl rfl rfl (Nat.le_of_ble_eq_true rfl) ⟨Nat.zero_le _, Nat.zero_le _⟩ dX9_statementOfWord_28 (fun H locs hw => ?_)
      refine lv_if_eq (tgt := 36) hx hb dX9_statementOfWord_31 (by decide) (fun c9 => ?_) (fun c9 => ?_)
      · replace hM := i_pos hM c9
        refine lv_aload_n hx hb dX9_statementOfWord_36 rfl (lv_at hl 0 rfl) ?_
        refine va_ldcSw hx hb E.1.2.2.2.1 (E.2.2.2.2.2.2.2.2.1 (RX9, 263, "report", 4) (by decide +kernel)) dX9_statementOfWord_37 ?_
        obtain ⟨p10, h11, hM⟩ := b_some hM
        refine q_cv (As := [.ref (adK tS 4)]) (rest := []) E hw hl (c_X9_isWord l D cA tS A h F N 4 σ wd p10 h11) 1 (bwV bw_c tb_1635 tb_1637 tb_93 tb_111 tb_1638) rfl (by decide +kernel) ⟨Nat.le_of_ble_eq_true rfl, Nat.le_of_ble_eq_true rfl⟩ 0 9 (T := TX9) (N := 17) rfl rfl rfl rfl (Nat.le_of_ble_eq_true rfl) ⟨Nat.zero_le _, Nat.zero_le _⟩ dX9_statementOfWord_40 (fun H locs hw => ?_)
        refine lv_if_eq (tgt := 48) hx hb dX9_statementOfWord_43 (by decide) (fun c12 => ?_) (fun c12 => ?_)
        · replace hM := i_pos hM c12
          refine lv_aload_n hx hb dX9_statementOfWord_48 rfl (lv_at hl 0 rfl) ?_
          refine va_ldcSw hx hb E.1.2.2.2.1 (E.2.2.2.2.2.2.2.2.1 (RX9, 265, "pause", 5) (by decide +kernel)) dX9_statementOfWord_49 ?_
          obtain ⟨p13, h14, hM⟩ := b_some hM
          refine q_cv (As := [.ref (adK tS 5)]) (rest := []) E hw hl (c_X9_isWord l D cA tS A h F N 5 σ wd p13 h14) 1 (bwV bw_c tb_1635 tb_1637 tb_93 tb_111 tb_1638) rfl (by decide +kernel) ⟨Nat.le_of_ble_eq_true rfl, Nat.le_of_ble_eq_true rfl⟩ 0 9 (T := TX9) (N := 17) rfl rfl rfl rfl (Nat.le_of_ble_eq_true rfl) ⟨Nat.zero_le _, Nat.zero_le _⟩ dX9_statementOfWord_52 (fun H locs hw => ?_)
          refine lv_if_eq (tgt := 60) hx hb dX9_statementOfWord_55 (by decide) (fun c15 => ?_) (fun c15 => ?_)
          · replace hM := i_pos hM c15
            refine lv_aload_n hx hb dX9_statementOfWord_60 rfl (lv_at hl 0 rfl) ?_
            refine va_ldcSw hx hb E.1.2.2.2.1 (E.2.2.2.2.2.2.2.2.1 (RX9, 267, "resume", 6) (by decide +kernel)) dX9_statementOfWord_61 ?_
            obtain ⟨p16, h17, hM⟩ := b_some hM
            refine q_cv (As := [.ref (adK tS 6)]) (rest := []) E hw hl (c_X9_isWord l D cA tS A h F N 6 σ wd p16 h17) 1 (bwV bw_c tb_1635 tb_1637 tb_93 tb_111 tb_1638) rfl (by decide +kernel) ⟨Nat.le_of_ble_eq_true rfl, Nat.le_of_ble_eq_true rfl⟩ 0 9 (T := TX9) (N := 17) rfl rfl rfl rfl (Nat.le_of_ble_eq_true rfl) ⟨Nat.zero_le _, Nat.zero_le _⟩ dX9_statementOfWord_64 (fun H locs hw => ?_)
            refine lv_if_eq (tgt := 72) hx hb dX9_statementOfWord_67 (by decide) (fun c18 => ?_) (fun c18 => ?_)
            · replace hM := i_pos hM c18
              refine lv_aload_n hx hb dX9_statementOfWord_72 rfl (lv_at hl 0 rfl) ?_
              refine va_ldcSw hx hb E.1.2.2.2.1 (E.2.2.2.2.2.2.2.2.1 (RX9, 269, "climb", 7) (by decide +kernel)) dX9_statementOfWord_73 ?_
              obtain ⟨p19, h20, hM⟩ := b_some hM
              refine q_cv (As := [.ref (adK tS 7)]) (rest := []) E hw hl (c_X9_isWord l D cA tS A h F N 7 σ wd p19 h20) 1 (bwV bw_c tb_1635 tb_1637 tb_93 tb_111 tb_1638) rfl (by decide +kernel) ⟨Nat.le_of_ble_eq_true rfl, Nat.le_of_ble_eq_true rfl⟩ 0 9 (T := TX9) (N := 17) rfl rfl rfl rfl (Nat.le_of_ble_eq_true rfl) ⟨Nat.zero_le _, Nat.zero_le _⟩ dX9_statementOfWord_76 (fun H locs hw => ?_)
              refine lv_if_eq (tgt := 84) hx hb dX9_statementOfWord_79 (by decide) (fun c21 => ?_) (fun c21 => ?_)
              · replace hM := i_pos hM c21
                refine lv_aload_n hx hb dX9_statementOfWord_84 rfl (lv_at hl 0 rfl) ?_
                refine va_ldcSw hx hb E.1.2.2.2.1 (E.2.2.2.2.2.2.2.2.1 (RX9, 271, "solve", 8) (by decide +kernel)) dX9_statementOfWord_85 ?_
                obtain ⟨p22, h23, hM⟩ := b_some hM
                refine q_cv (As := [.ref (adK tS 8)]) (rest := []) E hw hl (c_X9_isWord l D cA tS A h F N 8 σ wd p22 h23) 1 (bwV bw_c tb_1635 tb_1637 tb_93 tb_111 tb_1638) rfl (by decide +kernel) ⟨Nat.le_of_ble_eq_true rfl, Nat.le_of_ble_eq_true rfl⟩ 0 9 (T := TX9) (N := 17) rfl rfl rfl rfl (Nat.le_of_ble_eq_true rfl) ⟨Nat.zero_le _, Nat.zero_le _⟩ dX9_statementOfWord_88 (fun H locs hw => ?_)
                refine lv_if_eq (tgt := 97) hx hb dX9_statementOfWord_91 (by decide) (fun c24 => ?_) (fun c24 => ?_)
                · replace hM := i_pos hM c24
                  refine lv_aload_n hx hb dX9_statementOfWord_97 rfl (lv_at hl 0 rfl) ?_
                  refine va_ldcSw hx hb E.1.2.2.2.1 (E.2.2.2.2.2.2.2.2.1 (RX9, 273, "reopen", 9) (by decide +kernel)) dX9_statementOfWord_98 ?_
                  obtain ⟨p25, h26, hM⟩ := b_some hM
                  refine q_cv (As := [.ref (adK tS 9)]) (rest := []) E hw hl (c_X9_isWord l D cA tS A h F N 9 σ wd p25 h26) 1 (bwV bw_c tb_1635 tb_1637 tb_93 tb_111 tb_1638) rfl (by decide +kernel) ⟨Nat.le_of_ble_eq_true rfl, Nat.le_of_ble_eq_true rfl⟩ 0 9 (T := TX9) (N := 17) rfl rfl rfl rfl (Nat.le_of_ble_eq_true rfl) ⟨Nat.zero_le _, Nat.zero_le _⟩ dX9_statementOfWord_101 (fun H locs hw => ?_)
                  refine lv_if_eq (tgt := 110) hx hb dX9_statementOfWord_104 (by decide) (fun c27 => ?_) (fun c27 => ?_)
                  · replace hM := i_pos hM c27
                    refine lv_aload_n hx hb dX9_statementOfWord_110 rfl (lv_at hl 0 rfl) ?_
                    refine va_ldcSw hx hb E.1.2.2.2.1 (E.2.2.2.2.2.2.2.2.1 (RX9, 275, "join", 10) (by decide +kernel)) dX9_statementOfWord_111 ?_
                    obtain ⟨p28, h29, hM⟩ := b_some hM
                    refine q_cv (As := [.ref (adK tS 10)]) (rest := []) E hw hl (c_X9_isWord l D cA tS A h F N 10 σ wd p28 h29) 1 (bwV bw_c tb_1635 tb_1637 tb_93 tb_111 tb_1638) rfl (by decide +kernel) ⟨Nat.le_of_ble_eq_true rfl, Nat.le_of_ble_eq_true rfl⟩ 0 9 (T := TX9) (N := 17) rfl rfl rfl rfl (Nat.le_of_ble_eq_true rfl) ⟨Nat.zero_le _, Nat.zero_le _⟩ dX9_statementOfWord_114 (fun H locs hw => ?_)
                    refine lv_if_eq (tgt := 123) hx hb dX9_statementOfWord_117 (by decide) (fun c30 => ?_) (fun c30 => ?_)
                    · replace hM := i_pos hM c30
                      refine lv_aload_n hx hb dX9_statementOfWord_123 rfl (lv_at hl 0 rfl) ?_
                      refine va_ldcSw hx hb E.1.2.2.2.1 (E.2.2.2.2.2.2.2.2.1 (RX9, 277, "part", 11) (by decide +kernel)) dX9_statementOfWord_124 ?_
                      obtain ⟨p31, h32, hM⟩ := b_some hM
                      refine q_cv (As := [.ref (adK tS 11)]) (rest := []) E hw hl (c_X9_isWord l D cA tS A h F N 11 σ wd p31 h32) 1 (bwV bw_c tb_1635 tb_1637 tb_93 tb_111 tb_1638) rfl (by decide +kernel) ⟨Nat.le_of_ble_eq_true rfl, Nat.le_of_ble_eq_true rfl⟩ 0 9 (T := TX9) (N := 17) rfl rfl rfl rfl (Nat.le_of_ble_eq_true rfl) ⟨Nat.zero_le _, Nat.zero_le _⟩ dX9_statementOfWord_127 (fun H locs hw => ?_)
                      refine lv_if_eq (tgt := 136) hx hb dX9_statementOfWord_130 (by decide) (fun c33 => ?_) (fun c33 => ?_)
                      · replace hM := i_pos hM c33
                        refine lv_aload_n hx hb dX9_statementOfWord_136 rfl (lv_at hl 0 rfl) ?_
                        refine va_ldcSw hx hb E.1.2.2.2.1 (E.2.2.2.2.2.2.2.2.1 (RX9, 279, "priority", 12) (by decide +kernel)) dX9_statementOfWord_137 ?_
                        obtain ⟨p34, h35, hM⟩ := b_some hM
                        refine q_cv (As := [.ref (adK tS 12)]) (rest := []) E hw hl (c_X9_isWord l D cA tS A h F N 12 σ wd p34 h35) 1 (bwV bw_c tb_1635 tb_1637 tb_93 tb_111 tb_1638) rfl (by decide +kernel) ⟨Nat.le_of_ble_eq_true rfl, Nat.le_of_ble_eq_true rfl⟩ 0 9 (T := TX9) (N := 17) rfl rfl rfl rfl (Nat.le_of_ble_eq_true rfl) ⟨Nat.zero_le _, Nat.zero_le _⟩ dX9_statementOfWord_140 (fun H locs hw => ?_)
                        refine lv_if_eq (tgt := 149) hx hb dX9_statementOfWord_143 (by decide) (fun c36 => ?_) (fun c36 => ?_)
                        · replace hM := i_pos hM c36
                          refine lv_aload_n hx hb dX9_statementOfWord_149 rfl (lv_at hl 0 rfl) ?_
                          refine va_ldcSw hx hb E.1.2.2.2.1 (E.2.2.2.2.2.2.2.2.1 (RX9, 281, "pass", 13) (by decide +kernel)) dX9_statementOfWord_150 ?_
                          obtain ⟨p37, h38, hM⟩ := b_some hM
                          refine q_cv (As := [.ref (adK tS 13)]) (rest := []) E hw hl (c_X9_isWord l D cA tS A h F N 13 σ wd p37 h38) 1 (bwV bw_c tb_1635 tb_1637 tb_93 tb_111 tb_1638) rfl (by decide +kernel) ⟨Nat.le_of_ble_eq_true rfl, Nat.le_of_ble_eq_true rfl⟩ 0 9 (T := TX9) (N := 17) rfl rfl rfl rfl (Nat.le_of_ble_eq_true rfl) ⟨Nat.zero_le _, Nat.zero_le _⟩ dX9_statementOfWord_153 (fun H locs hw => ?_)
                          refine lv_if_eq (tgt := 164) hx hb dX9_statementOfWord_156 (by decide) (fun c39 => ?_) (fun c39 => ?_)
                          · replace hM := i_pos hM c39
                            refine lv_iconst (v := (-1)) hx hb dX9_statementOfWord_164 (by decide) ?_
                            cases hM
                            exact q_reti E hw dX9_statementOfWord_165
                          · replace hM := i_neg hM c39
                            refine lv_bipush (v := 12) hx hb dX9_statementOfWord_159 (by decide) ?_
                            refine lv_goto (tgt := 165) hx hb dX9_statementOfWord_161 (by decide) ?_
                            cases hM
                            exact q_reti E hw dX9_statementOfWord_165
                        · replace hM := i_neg hM c36
                          refine lv_bipush (v := 10) hx hb dX9_statementOfWord_146 (by decide) ?_
                          cases hM
                          exact q_reti E hw dX9_statementOfWord_148
                      · replace hM := i_neg hM c33
                        refine lv_bipush (v := 9) hx hb dX9_statementOfWord_133 (by decide) ?_
                        cases hM
                        exact q_reti E hw dX9_statementOfWord_135
                    · replace hM := i_neg hM c30
                      refine lv_bipush (v := 8) hx hb dX9_statementOfWord_120 (by decide) ?_
                      cases hM
                      exact q_reti E hw dX9_statementOfWord_122
                  · replace hM := i_neg hM c27
                    refine lv_bipush (v := 7) hx hb dX9_statementOfWord_107 (by decide) ?_
                    cases hM
                    exact q_reti E hw dX9_statementOfWord_109
                · replace hM := i_neg hM c24
                  refine lv_bipush (v := 6) hx hb dX9_statementOfWord_94 (by decide) ?_
                  cases hM
                  exact q_reti E hw dX9_statementOfWord_96
              · replace hM := i_neg hM c21
                refine lv_iconst (v := 5) hx hb dX9_statementOfWord_82 (by decide) ?_
                cases hM
                exact q_reti E hw dX9_statementOfWord_83
            · replace hM := i_neg hM c18
              refine lv_iconst (v := 4) hx hb dX9_statementOfWord_70 (by decide) ?_
              cases hM
              exact q_reti E hw dX9_statementOfWord_71
          · replace hM := i_neg hM c15
            refine lv_iconst (v := 3) hx hb dX9_statementOfWord_58 (by decide) ?_
            cases hM
            exact q_reti E hw dX9_statementOfWord_59
        · replace hM := i_neg hM c12
          refine lv_iconst (v := 2) hx hb dX9_statementOfWord_46 (by decide) ?_
          cases hM
          exact q_reti E hw dX9_statementOfWord_47
      · replace hM := i_neg hM c9
        refine lv_iconst (v := 1) hx hb dX9_statementOfWord_34 (by decide) ?_
        cases hM
        exact q_reti E hw dX9_statementOfWord_35
    · replace hM := i_neg hM c6
      refine lv_bipush (v := 11) hx hb dX9_statementOfWord_21 (by decide) ?_
      cases hM
      exact q_reti E hw dX9_statementOfWord_23
  · replace hM := i_neg hM c3
    refine lv_iconst (v := 0) hx hb dX9_statementOfWord_9 (by decide) ?_
    cases hM
    exact q_reti E hw dX9_statementOfWord_10
set_option maxRecDepth 100000 in
set_option maxHeartbeats 4000000 in
theorem c_X9_argumentsOf (l : Launch) (D : va_G) (cA : Nat → ClassId) (tS : Nat → Nat) (A : Nat → Prop) (F : va_W) (x0 : Int32) (r0 : Int32) (hM : f_X9_argumentsOf x0 = some r0) : Ct l yX9_argumentsOf (Cond.code yX9_argumentsOf cX9_argumentsOf 1 (some .int) :: bw) 0 0 D cA tS A [.int x0] F (some (.int r0)) F := by
  refine ct_of (by decide +kernel) (Nat.le_of_ble_eq_true rfl) ?_
  intro p e s m below meth c E hw ls hl
  replace E : Ev p cX9_argumentsOf 1 (some .int) RX9 (Cond.code yX9_argumentsOf cX9_argumentsOf 1 (some .int) :: bw) D cA tS A s m _ meth c := E
  replace hl : lv_has ls 1 [(0, .int x0)] := hl
  have hx := E.1.1
  have hb := E.1.2.1
  unfold f_X9_argumentsOf at hM
  refine lv_iload_n hx hb dX9_argumentsOf_0 rfl (lv_at hl 0 rfl) ?_
  by_cases c1 : x0 = 0
  · replace hM := i_pos hM c1
    refine lv_tableIn (tgt := 68) hx hb dX9_argumentsOf_1 (by rw [c1]; decide) (by rw [c1]; decide) (off := 67) (by rw [c1]; decide) (by decide) ?_
    refine lv_iconst (v := 3) hx hb dX9_argumentsOf_68 (by decide) ?_
    cases hM
    exact q_reti E hw dX9_argumentsOf_69
  replace hM := i_neg hM c1
  by_cases c2 : x0 = 1
  · replace hM := i_pos hM c2
    refine lv_tableIn (tgt := 70) hx hb dX9_argumentsOf_1 (by rw [c2]; decide) (by rw [c2]; decide) (off := 69) (by rw [c2]; decide) (by decide) ?_
    refine lv_iconst (v := 2) hx hb dX9_argumentsOf_70 (by decide) ?_
    cases hM
    exact q_reti E hw dX9_argumentsOf_71
  replace hM := i_neg hM c2
  by_cases c3 : x0 = 2
  · replace hM := i_pos hM c3
    refine lv_tableIn (tgt := 66) hx hb dX9_argumentsOf_1 (by rw [c3]; decide) (by rw [c3]; decide) (off := 65) (by rw [c3]; decide) (by decide) ?_
    refine lv_iconst (v := 4) hx hb dX9_argumentsOf_66 (by decide) ?_
    cases hM
    exact q_reti E hw dX9_argumentsOf_67
  replace hM := i_neg hM c3
  by_cases c4 : x0 = 8
  · replace hM := i_pos hM c4
    refine lv_tableIn (tgt := 70) hx hb dX9_argumentsOf_1 (by rw [c4]; decide) (by rw [c4]; decide) (off := 69) (by rw [c4]; decide) (by decide) ?_
    refine lv_iconst (v := 2) hx hb dX9_argumentsOf_70 (by decide) ?_
    cases hM
    exact q_reti E hw dX9_argumentsOf_71
  replace hM := i_neg hM c4
  by_cases c5 : x0 = 10
  · replace hM := i_pos hM c5
    refine lv_tableIn (tgt := 70) hx hb dX9_argumentsOf_1 (by rw [c5]; decide) (by rw [c5]; decide) (off := 69) (by rw [c5]; decide) (by decide) ?_
    refine lv_iconst (v := 2) hx hb dX9_argumentsOf_70 (by decide) ?_
    cases hM
    exact q_reti E hw dX9_argumentsOf_71
  replace hM := i_neg hM c5
  by_cases c6 : x0 = 11
  · replace hM := i_pos hM c6
    refine lv_tableIn (tgt := 64) hx hb dX9_argumentsOf_1 (by rw [c6]; decide) (by rw [c6]; decide) (off := 63) (by rw [c6]; decide) (by decide) ?_
    refine lv_iconst (v := 5) hx hb dX9_argumentsOf_64 (by decide) ?_
    cases hM
    exact q_reti E hw dX9_argumentsOf_65
  replace hM := i_neg hM c6
  refine q_tableD (tgt := 72) hx hb dX9_argumentsOf_1 (fun hq => ?_) (by decide) ?_
  · have hz : (x0).toInt = 0 ∨ (x0).toInt = 1 ∨ (x0).toInt = 2 ∨ (x0).toInt = 3 ∨ (x0).toInt = 4 ∨ (x0).toInt = 5 ∨ (x0).toInt = 6 ∨ (x0).toInt = 7 ∨ (x0).toInt = 8 ∨ (x0).toInt = 9 ∨ (x0).toInt = 10 ∨ (x0).toInt = 11 := by omega
    rcases hz with hz | hz | hz | hz | hz | hz | hz | hz | hz | hz | hz | hz
    · exact absurd (Int32.toInt_inj.mp (hz.trans (by decide))) c1
    · exact absurd (Int32.toInt_inj.mp (hz.trans (by decide))) c2
    · exact absurd (Int32.toInt_inj.mp (hz.trans (by decide))) c3
    · rw [hz]; decide
    · rw [hz]; decide
    · rw [hz]; decide
    · rw [hz]; decide
    · rw [hz]; decide
    · exact absurd (Int32.toInt_inj.mp (hz.trans (by decide))) c4
    · rw [hz]; decide
    · exact absurd (Int32.toInt_inj.mp (hz.trans (by decide))) c5
    · exact absurd (Int32.toInt_inj.mp (hz.trans (by decide))) c6
  refine lv_iconst (v := 1) hx hb dX9_argumentsOf_72 (by decide) ?_
  cases hM
  exact q_reti E hw dX9_argumentsOf_73
set_option maxRecDepth 100000 in
set_option maxHeartbeats 4000000 in
theorem c_X9_require (l : Launch) (D : va_G) (cA : Nat → ClassId) (tS : Nat → Nat) (A : Nat → Prop) (h : Nat → Nat) (F : va_W) (x1 : Int32) (x2 : Int32) (σ : Sg) (wd : Int64) (s0 : Sg) (hM : f_X9_require x1 x2 σ wd = some s0) : Ct l yX9_require (Cond.code yX9_require cX9_require 3 none :: bw) 0 0 D cA tS A [.ref (h 0), .int x1, .int x2] (wM cA h σ wd ++ F) none (wM cA h s0 wd ++ F) := by
  refine ct_of (by decide +kernel) (Nat.le_of_ble_eq_true rfl) ?_
  intro p e s m below meth c E hw ls hl
  replace E : Ev p cX9_require 3 none RX9 (Cond.code yX9_require cX9_require 3 none :: bw) D cA tS A s m _ meth c := E
  replace hl : lv_has ls 3 [(0, .ref (h 0)), (1, .int x1), (2, .int x2)] := hl
  have hx := E.1.1
  have hb := E.1.2.1
  unfold f_X9_require at hM
  refine lv_iload_n hx hb dX9_require_0 rfl (lv_at hl 1 rfl) ?_
  refine lv_if_ne (tgt := 24) hx hb dX9_require_1 (by decide) (fun c1 => ?_) (fun c1 => ?_)
  · replace hM := i_neg hM c1
    cases hM
    exact q_retv E hw dX9_require_24
  · replace hM := i_pos hM c1
    refine lv_aload_n hx hb dX9_require_4 rfl (lv_at hl 0 rfl) ?_
    refine q_get (C := RX9) (T := TX9) (N := 17) (ci := 9) E (fun w h => List.mem_cons_of_mem _ (inX9 w h)) hw 0 rfl rfl 11 (by decide) (List.mem_cons_of_mem _ tb_1156) (v := .int (σ 12 0)) rfl dX9_require_5 ?_
    refine lv_if_ne (tgt := 24) hx hb dX9_require_8 (by decide) (fun c2 => ?_) (fun c2 => ?_)
    · replace hM := i_neg hM c2
      cases hM
      exact q_retv E hw dX9_require_24
    · replace hM := i_pos hM c2
      refine lv_aload_n hx hb dX9_require_11 rfl (lv_at hl 0 rfl) ?_
      refine lv_iload_n hx hb dX9_require_12 rfl (lv_at hl 2 rfl) ?_
      refine q_puti (C := RX9) (T := TX9) (N := 17) (ci := 9) E (fun w h => List.mem_cons_of_mem _ (inX9 w h)) tyX9 tyX9_ok nmX9 hw 0 rfl rfl 11 (by decide) (List.mem_cons_of_mem _ tb_1156) rfl rfl (Nat.le_of_ble_eq_true rfl) (wM cA h (up σ 12 0 x2) wd ++ F) st_M_12 dX9_require_13 (fun H locs hw => ?_)
      refine lv_aload_n hx hb dX9_require_16 rfl (lv_at hl 0 rfl) ?_
      refine lv_aload_n hx hb dX9_require_17 rfl (lv_at hl 0 rfl) ?_
      refine q_get (C := RX9) (T := TX9) (N := 17) (ci := 9) E (fun w h => List.mem_cons_of_mem _ (inX9 w h)) hw 0 rfl rfl 7 (by decide) (List.mem_cons_of_mem _ tb_1152) (v := .int (σ 8 0)) (q_fld (congrFun (up_ne σ 12 0 x2 8 (by decide)) 0) rfl) dX9_require_18 ?_
      refine q_puti (C := RX9) (T := TX9) (N := 17) (ci := 9) E (fun w h => List.mem_cons_of_mem _ (inX9 w h)) tyX9 tyX9_ok nmX9 hw 0 rfl rfl 12 (by decide) (List.mem_cons_of_mem _ tb_1157) rfl rfl (Nat.le_of_ble_eq_true rfl) (wM cA h (up (up σ 12 0 x2) 13 0 (σ 8 0)) wd ++ F) st_M_13 dX9_require_21 (fun H locs hw => ?_)
      cases hM
      exact q_retv E hw dX9_require_24
set_option maxRecDepth 100000 in
set_option maxHeartbeats 4000000 in
theorem c_X9_advance (l : Launch) (D : va_G) (cA : Nat → ClassId) (tS : Nat → Nat) (A : Nat → Prop) (h : Nat → Nat) (F : va_W) (N : Nat) (σ : Sg) (wd : Int64) (s0 : Sg) (wd0 : Int64) (hM : f_X9_advance N σ wd = some (s0, wd0)) : Ct l yX9_advance (Cond.code yX9_advance cX9_advance 1 none :: bw) 3 63 D cA tS A [.ref (h 0)] (wM cA h σ wd ++ F) none (wM cA h s0 wd0 ++ F) := by
  refine ct_of (by decide +kernel) (Nat.le_of_ble_eq_true rfl) ?_
  intro p e s m below meth c E hw ls hl
  replace E : Ev p cX9_advance 1 none RX9 (Cond.code yX9_advance cX9_advance 1 none :: bw) D cA tS A s m _ meth c := E
  replace hl : lv_has ls 1 [(0, .ref (h 0))] := hl
  have hx := E.1.1
  have hb := E.1.2.1
  unfold f_X9_advance at hM
  refine lv_aload_n hx hb dX9_advance_0 rfl (lv_at hl 0 rfl) ?_
  refine q_get (C := RX9) (T := TX9) (N := 17) (ci := 9) E (fun w h => List.mem_cons_of_mem _ (inX9 w h)) hw 0 rfl rfl 11 (by decide) (List.mem_cons_of_mem _ tb_1156) (v := .int (σ 12 0)) rfl dX9_advance_1 ?_
  refine lv_if_ne (tgt := 11) hx hb dX9_advance_4 (by decide) (fun c1 => ?_) (fun c1 => ?_)
  · replace hM := i_neg hM c1
    cases hM
    exact q_retv E hw dX9_advance_11
  · replace hM := i_pos hM c1
    refine lv_aload_n hx hb dX9_advance_7 rfl (lv_at hl 0 rfl) ?_
    obtain ⟨p2, h3, hM⟩ := b_some hM
    refine q_cvv (As := []) (rest := []) E hw hl (c_X9_nextToken l D cA tS A h F N σ wd p2.1 p2.2 h3) 0 (bwV bw_c tb_1609 tb_1611 tb_89 tb_111 tb_1612) rfl (by decide +kernel) ⟨Nat.le_of_ble_eq_true rfl, Nat.le_of_ble_eq_true rfl⟩ 0 9 (T := TX9) (N := 17) rfl rfl rfl rfl (Nat.le_of_ble_eq_true rfl) ⟨Nat.zero_le _, Nat.zero_le _⟩ dX9_advance_8 (fun H locs hw => ?_)
    cases hM
    exact q_retv E hw dX9_advance_11
set_option maxRecDepth 100000 in
set_option maxHeartbeats 4000000 in
theorem c_X9_parseNumber (l : Launch) (D : va_G) (cA : Nat → ClassId) (tS : Nat → Nat) (A : Nat → Prop) (h : Nat → Nat) (F : va_W) (N : Nat) (σ : Sg) (wd : Int64) (r0 : Int32) (s0 : Sg) (wd0 : Int64) (hM : f_X9_parseNumber N σ wd = some (r0, s0, wd0)) : Ct l yX9_parseNumber (Cond.code yX9_parseNumber cX9_parseNumber 2 (some .int) :: bw) 4 83 D cA tS A [.ref (h 0)] (wM cA h σ wd ++ F) (some (.int r0)) (wM cA h s0 wd0 ++ F) := by
  refine ct_of (by decide +kernel) (Nat.le_of_ble_eq_true rfl) ?_
  intro p e s m below meth c E hw ls hl
  replace E : Ev p cX9_parseNumber 2 (some .int) RX9 (Cond.code yX9_parseNumber cX9_parseNumber 2 (some .int) :: bw) D cA tS A s m _ meth c := E
  replace hl : lv_has ls 2 [(0, .ref (h 0))] := hl
  have hx := E.1.1
  have hb := E.1.2.1
  unfold f_X9_parseNumber at hM
  refine lv_aload_n hx hb dX9_parseNumber_0 rfl (lv_at hl 0 rfl) ?_
  refine lv_aload_n hx hb dX9_parseNumber_1 rfl (lv_at hl 0 rfl) ?_
  refine q_get (C := RX9) (T := TX9) (N := 17) (ci := 9) E (fun w h => List.mem_cons_of_mem _ (inX9 w h)) hw 0 rfl rfl 8 (by decide) (List.mem_cons_of_mem _ tb_1153) (v := .int (σ 9 0)) rfl dX9_parseNumber_2 ?_
  refine lv_iconst (v := 3) hx hb dX9_parseNumber_5 (by decide) ?_
  refine lv_icmp_ne (tgt := 13) hx hb dX9_parseNumber_6 (by decide) (fun c1 => ?_) (fun c1 => ?_)
  · replace hM := i_neg hM c1
    refine lv_iconst (v := 0) hx hb dX9_parseNumber_13 (by decide) ?_
    refine lv_iconst (v := 1) hx hb dX9_parseNumber_14 (by decide) ?_
    obtain ⟨p2, h3, hM⟩ := b_some hM
    refine q_cvv (As := [.int 0, .int 1]) (rest := []) E hw hl (c_X9_require l D cA tS A h F 0 1 σ wd p2 h3) 2 (bwV bw_c tb_1653 tb_1655 tb_94 tb_111 tb_1656) rfl (by decide +kernel) ⟨Nat.le_of_ble_eq_true rfl, Nat.le_of_ble_eq_true rfl⟩ 0 9 (T := TX9) (N := 17) rfl rfl rfl rfl (Nat.le_of_ble_eq_true rfl) ⟨Nat.zero_le _, Nat.zero_le _⟩ dX9_parseNumber_15 (fun H locs hw => ?_)
    refine lv_aload_n hx hb dX9_parseNumber_18 rfl (lv_at hl 0 rfl) ?_
    refine lv_aload_n hx hb dX9_parseNumber_19 rfl (lv_at hl 0 rfl) ?_
    refine q_get (C := RX9) (T := TX9) (N := 17) (ci := 9) E (fun w h => List.mem_cons_of_mem _ (inX9 w h)) hw 0 rfl rfl 10 (by decide) (List.mem_cons_of_mem _ tb_1155) (v := .int (p2 11 0)) rfl dX9_parseNumber_20 ?_
    refine lv_ldc (v := 99999) hx hb E.1.2.2.2.1 (E.1.2.2.2.2 _ (List.mem_cons_of_mem _ tb_1625)) dX9_parseNumber_23 ?_
    refine lv_icmp_gt (tgt := 32) hx hb dX9_parseNumber_25 (by decide) (fun c4 => ?_) (fun c4 => ?_)
    · replace hM := i_pos hM c4
      refine lv_iconst (v := 0) hx hb dX9_parseNumber_32 (by decide) ?_
      refine lv_iconst (v := 2) hx hb dX9_parseNumber_33 (by decide) ?_
      obtain ⟨p5, h6, hM⟩ := b_some hM
      refine q_cvv (As := [.int 0, .int 2]) (rest := []) E hw hl (c_X9_require l D cA tS A h F 0 2 p2 wd p5 h6) 2 (bwV bw_c tb_1653 tb_1655 tb_94 tb_111 tb_1656) rfl (by decide +kernel) ⟨Nat.le_of_ble_eq_true rfl, Nat.le_of_ble_eq_true rfl⟩ 0 9 (T := TX9) (N := 17) rfl rfl rfl rfl (Nat.le_of_ble_eq_true rfl) ⟨Nat.zero_le _, Nat.zero_le _⟩ dX9_parseNumber_34 (fun H locs hw => ?_)
      refine lv_aload_n hx hb dX9_parseNumber_37 rfl (lv_at hl 0 rfl) ?_
      refine q_get (C := RX9) (T := TX9) (N := 17) (ci := 9) E (fun w h => List.mem_cons_of_mem _ (inX9 w h)) hw 0 rfl rfl 10 (by decide) (List.mem_cons_of_mem _ tb_1155) (v := .int (p5 11 0)) rfl dX9_parseNumber_38 ?_
      refine lv_istore_n (lv' := [(1, .int (p5 11 0)), (0, .ref (h 0))]) hx hb dX9_parseNumber_41 rfl hl (by decide) rfl (fun ls hl => ?_)
      refine lv_aload_n hx hb dX9_parseNumber_42 rfl (lv_at hl 1 rfl) ?_
      obtain ⟨p7, h8, hM⟩ := b_some hM
      refine q_cvv (As := []) (rest := []) E hw hl (c_X9_advance l D cA tS A h F N p5 wd p7.1 p7.2 h8) 0 (bwV bw_c tb_1657 tb_1659 tb_95 tb_111 tb_1660) rfl (by decide +kernel) ⟨Nat.le_of_ble_eq_true rfl, Nat.le_of_ble_eq_true rfl⟩ 0 9 (T := TX9) (N := 17) rfl rfl rfl rfl (Nat.le_of_ble_eq_true rfl) ⟨Nat.zero_le _, Nat.zero_le _⟩ dX9_parseNumber_43 (fun H locs hw => ?_)
      refine lv_iload_n hx hb dX9_parseNumber_46 rfl (lv_at hl 0 rfl) ?_
      cases hM
      exact q_reti E hw dX9_parseNumber_47
    · replace hM := i_neg hM c4
      refine lv_iconst (v := 1) hx hb dX9_parseNumber_28 (by decide) ?_
      refine lv_goto (tgt := 33) hx hb dX9_parseNumber_29 (by decide) ?_
      refine lv_iconst (v := 2) hx hb dX9_parseNumber_33 (by decide) ?_
      obtain ⟨p9, h10, hM⟩ := b_some hM
      refine q_cvv (As := [.int 1, .int 2]) (rest := []) E hw hl (c_X9_require l D cA tS A h F 1 2 p2 wd p9 h10) 2 (bwV bw_c tb_1653 tb_1655 tb_94 tb_111 tb_1656) rfl (by decide +kernel) ⟨Nat.le_of_ble_eq_true rfl, Nat.le_of_ble_eq_true rfl⟩ 0 9 (T := TX9) (N := 17) rfl rfl rfl rfl (Nat.le_of_ble_eq_true rfl) ⟨Nat.zero_le _, Nat.zero_le _⟩ dX9_parseNumber_34 (fun H locs hw => ?_)
      refine lv_aload_n hx hb dX9_parseNumber_37 rfl (lv_at hl 0 rfl) ?_
      refine q_get (C := RX9) (T := TX9) (N := 17) (ci := 9) E (fun w h => List.mem_cons_of_mem _ (inX9 w h)) hw 0 rfl rfl 10 (by decide) (List.mem_cons_of_mem _ tb_1155) (v := .int (p9 11 0)) rfl dX9_parseNumber_38 ?_
      refine lv_istore_n (lv' := [(1, .int (p9 11 0)), (0, .ref (h 0))]) hx hb dX9_parseNumber_41 rfl hl (by decide) rfl (fun ls hl => ?_)
      refine lv_aload_n hx hb dX9_parseNumber_42 rfl (lv_at hl 1 rfl) ?_
      obtain ⟨p11, h12, hM⟩ := b_some hM
      refine q_cvv (As := []) (rest := []) E hw hl (c_X9_advance l D cA tS A h F N p9 wd p11.1 p11.2 h12) 0 (bwV bw_c tb_1657 tb_1659 tb_95 tb_111 tb_1660) rfl (by decide +kernel) ⟨Nat.le_of_ble_eq_true rfl, Nat.le_of_ble_eq_true rfl⟩ 0 9 (T := TX9) (N := 17) rfl rfl rfl rfl (Nat.le_of_ble_eq_true rfl) ⟨Nat.zero_le _, Nat.zero_le _⟩ dX9_parseNumber_43 (fun H locs hw => ?_)
      refine lv_iload_n hx hb dX9_parseNumber_46 rfl (lv_at hl 0 rfl) ?_
      cases hM
      exact q_reti E hw dX9_parseNumber_47
  · replace hM := i_pos hM c1
    refine lv_iconst (v := 1) hx hb dX9_parseNumber_9 (by decide) ?_
    refine lv_goto (tgt := 14) hx hb dX9_parseNumber_10 (by decide) ?_
    refine lv_iconst (v := 1) hx hb dX9_parseNumber_14 (by decide) ?_
    obtain ⟨p13, h14, hM⟩ := b_some hM
    refine q_cvv (As := [.int 1, .int 1]) (rest := []) E hw hl (c_X9_require l D cA tS A h F 1 1 σ wd p13 h14) 2 (bwV bw_c tb_1653 tb_1655 tb_94 tb_111 tb_1656) rfl (by decide +kernel) ⟨Nat.le_of_ble_eq_true rfl, Nat.le_of_ble_eq_true rfl⟩ 0 9 (T := TX9) (N := 17) rfl rfl rfl rfl (Nat.le_of_ble_eq_true rfl) ⟨Nat.zero_le _, Nat.zero_le _⟩ dX9_parseNumber_15 (fun H locs hw => ?_)
    refine lv_aload_n hx hb dX9_parseNumber_18 rfl (lv_at hl 0 rfl) ?_
    refine lv_aload_n hx hb dX9_parseNumber_19 rfl (lv_at hl 0 rfl) ?_
    refine q_get (C := RX9) (T := TX9) (N := 17) (ci := 9) E (fun w h => List.mem_cons_of_mem _ (inX9 w h)) hw 0 rfl rfl 10 (by decide) (List.mem_cons_of_mem _ tb_1155) (v := .int (p13 11 0)) rfl dX9_parseNumber_20 ?_
    refine lv_ldc (v := 99999) hx hb E.1.2.2.2.1 (E.1.2.2.2.2 _ (List.mem_cons_of_mem _ tb_1625)) dX9_parseNumber_23 ?_
    refine lv_icmp_gt (tgt := 32) hx hb dX9_parseNumber_25 (by decide) (fun c15 => ?_) (fun c15 => ?_)
    · replace hM := i_pos hM c15
      refine lv_iconst (v := 0) hx hb dX9_parseNumber_32 (by decide) ?_
      refine lv_iconst (v := 2) hx hb dX9_parseNumber_33 (by decide) ?_
      obtain ⟨p16, h17, hM⟩ := b_some hM
      refine q_cvv (As := [.int 0, .int 2]) (rest := []) E hw hl (c_X9_require l D cA tS A h F 0 2 p13 wd p16 h17) 2 (bwV bw_c tb_1653 tb_1655 tb_94 tb_111 tb_1656) rfl (by decide +kernel) ⟨Nat.le_of_ble_eq_true rfl, Nat.le_of_ble_eq_true rfl⟩ 0 9 (T := TX9) (N := 17) rfl rfl rfl rfl (Nat.le_of_ble_eq_true rfl) ⟨Nat.zero_le _, Nat.zero_le _⟩ dX9_parseNumber_34 (fun H locs hw => ?_)
      refine lv_aload_n hx hb dX9_parseNumber_37 rfl (lv_at hl 0 rfl) ?_
      refine q_get (C := RX9) (T := TX9) (N := 17) (ci := 9) E (fun w h => List.mem_cons_of_mem _ (inX9 w h)) hw 0 rfl rfl 10 (by decide) (List.mem_cons_of_mem _ tb_1155) (v := .int (p16 11 0)) rfl dX9_parseNumber_38 ?_
      refine lv_istore_n (lv' := [(1, .int (p16 11 0)), (0, .ref (h 0))]) hx hb dX9_parseNumber_41 rfl hl (by decide) rfl (fun ls hl => ?_)
      refine lv_aload_n hx hb dX9_parseNumber_42 rfl (lv_at hl 1 rfl) ?_
      obtain ⟨p18, h19, hM⟩ := b_some hM
      refine q_cvv (As := []) (rest := []) E hw hl (c_X9_advance l D cA tS A h F N p16 wd p18.1 p18.2 h19) 0 (bwV bw_c tb_1657 tb_1659 tb_95 tb_111 tb_1660) rfl (by decide +kernel) ⟨Nat.le_of_ble_eq_true rfl, Nat.le_of_ble_eq_true rfl⟩ 0 9 (T := TX9) (N := 17) rfl rfl rfl rfl (Nat.le_of_ble_eq_true rfl) ⟨Nat.zero_le _, Nat.zero_le _⟩ dX9_parseNumber_43 (fun H locs hw => ?_)
      refine lv_iload_n hx hb dX9_parseNumber_46 rfl (lv_at hl 0 rfl) ?_
      cases hM
      exact q_reti E hw dX9_parseNumber_47
    · replace hM := i_neg hM c15
      refine lv_iconst (v := 1) hx hb dX9_parseNumber_28 (by decide) ?_
      refine lv_goto (tgt := 33) hx hb dX9_parseNumber_29 (by decide) ?_
      refine lv_iconst (v := 2) hx hb dX9_parseNumber_33 (by decide) ?_
      obtain ⟨p20, h21, hM⟩ := b_some hM
      refine q_cvv (As := [.int 1, .int 2]) (rest := []) E hw hl (c_X9_require l D cA tS A h F 1 2 p13 wd p20 h21) 2 (bwV bw_c tb_1653 tb_1655 tb_94 tb_111 tb_1656) rfl (by decide +kernel) ⟨Nat.le_of_ble_eq_true rfl, Nat.le_of_ble_eq_true rfl⟩ 0 9 (T := TX9) (N := 17) rfl rfl rfl rfl (Nat.le_of_ble_eq_true rfl) ⟨Nat.zero_le _, Nat.zero_le _⟩ dX9_parseNumber_34 (fun H locs hw => ?_)
      refine lv_aload_n hx hb dX9_parseNumber_37 rfl (lv_at hl 0 rfl) ?_
      refine q_get (C := RX9) (T := TX9) (N := 17) (ci := 9) E (fun w h => List.mem_cons_of_mem _ (inX9 w h)) hw 0 rfl rfl 10 (by decide) (List.mem_cons_of_mem _ tb_1155) (v := .int (p20 11 0)) rfl dX9_parseNumber_38 ?_
      refine lv_istore_n (lv' := [(1, .int (p20 11 0)), (0, .ref (h 0))]) hx hb dX9_parseNumber_41 rfl hl (by decide) rfl (fun ls hl => ?_)
      refine lv_aload_n hx hb dX9_parseNumber_42 rfl (lv_at hl 1 rfl) ?_
      obtain ⟨p22, h23, hM⟩ := b_some hM
      refine q_cvv (As := []) (rest := []) E hw hl (c_X9_advance l D cA tS A h F N p20 wd p22.1 p22.2 h23) 0 (bwV bw_c tb_1657 tb_1659 tb_95 tb_111 tb_1660) rfl (by decide +kernel) ⟨Nat.le_of_ble_eq_true rfl, Nat.le_of_ble_eq_true rfl⟩ 0 9 (T := TX9) (N := 17) rfl rfl rfl rfl (Nat.le_of_ble_eq_true rfl) ⟨Nat.zero_le _, Nat.zero_le _⟩ dX9_parseNumber_43 (fun H locs hw => ?_)
      refine lv_iload_n hx hb dX9_parseNumber_46 rfl (lv_at hl 0 rfl) ?_
      cases hM
      exact q_reti E hw dX9_parseNumber_47
set_option maxRecDepth 100000 in
set_option maxHeartbeats 4000000 in
theorem s_X9_parseStatement_154 (l : Launch) (D : va_G) (cA : Nat → ClassId) (tS : Nat → Nat) (A : Nat → Prop) (h : Nat → Nat) (F : va_W) (N : Nat) {p : Program} {e : Env} {s : State} {m : MethodId} {args : Array Value} {below : List Frame} {meth : Method} {c : Code} (E : Ev p cX9_parseStatement 4 none RX9 (Cond.code yX9_parseStatement cX9_parseStatement 4 none :: bw) D cA tS A s m args meth c) : ∀ (σ : Sg) (wd : Int64) (s0 : Sg) (wd0 : Int64) (hM : f_X9_parseStatement_154 N σ wd = some (s0, wd0)) (H : Heap) (locs : List Loc) (hw : Wd D A (wM cA h σ wd ++ F) s.heap H locs) (ls : Array Slot) (hl : lv_has ls 4 [(0, .ref (h 0))]), W p l e ({ frames := 6, cells := 0, slots := 0, locals := 129 } : Room) s m args below meth c H locs 0 0 (MQ below (QW D A none (wM cA h s0 wd0 ++ F)) args s 0 0 A) (F0 m 154 ls []) := by
  have hx := E.1.1
  have hb := E.1.2.1
  intro σ wd s0 wd0 hM H locs hw ls hl
  unfold f_X9_parseStatement_154 at hM
  refine lv_aload_n hx hb dX9_parseStatement_154 rfl (lv_at hl 0 rfl) ?_
  refine lv_aload_n hx hb dX9_parseStatement_155 rfl (lv_at hl 0 rfl) ?_
  refine q_get (C := RX9) (T := TX9) (N := 17) (ci := 9) E (fun w h => List.mem_cons_of_mem _ (inX9 w h)) hw 0 rfl rfl 8 (by decide) (List.mem_cons_of_mem _ tb_1153) (v := .int (σ 9 0)) rfl dX9_parseStatement_156 ?_
  refine lv_iconst (v := 4) hx hb dX9_parseStatement_159 (by decide) ?_
  refine lv_icmp_ne (tgt := 167) hx hb dX9_parseStatement_160 (by decide) (fun c1 => ?_) (fun c1 => ?_)
  · replace hM := i_neg hM c1
    refine lv_iconst (v := 0) hx hb dX9_parseStatement_167 (by decide) ?_
    refine lv_iconst (v := 1) hx hb dX9_parseStatement_168 (by decide) ?_
    obtain ⟨p2, h3, hM⟩ := b_some hM
    refine q_cvv (As := [.int 0, .int 1]) (rest := []) E hw hl (c_X9_require l D cA tS A h F 0 1 σ wd p2 h3) 2 (bwV bw_c tb_1653 tb_1655 tb_94 tb_111 tb_1656) rfl (by decide +kernel) ⟨Nat.le_of_ble_eq_true rfl, Nat.le_of_ble_eq_true rfl⟩ 0 9 (T := TX9) (N := 17) rfl rfl rfl rfl (Nat.le_of_ble_eq_true rfl) ⟨Nat.zero_le _, Nat.zero_le _⟩ dX9_parseStatement_169 (fun H locs hw => ?_)
    refine lv_aload_n hx hb dX9_parseStatement_172 rfl (lv_at hl 0 rfl) ?_
    obtain ⟨p4, h5, hM⟩ := b_some hM
    refine q_cvv (As := []) (rest := []) E hw hl (c_X9_advance l D cA tS A h F N p2 wd p4.1 p4.2 h5) 0 (bwV bw_c tb_1657 tb_1659 tb_95 tb_111 tb_1660) rfl (by decide +kernel) ⟨Nat.le_of_ble_eq_true rfl, Nat.le_of_ble_eq_true rfl⟩ 0 9 (T := TX9) (N := 17) rfl rfl rfl rfl (Nat.le_of_ble_eq_true rfl) ⟨Nat.zero_le _, Nat.zero_le _⟩ dX9_parseStatement_173 (fun H locs hw => ?_)
    refine lv_aload_n hx hb dX9_parseStatement_176 rfl (lv_at hl 0 rfl) ?_
    refine lv_dup hx hb dX9_parseStatement_177 rfl ?_
    refine q_get (C := RX9) (T := TX9) (N := 17) (ci := 9) E (fun w h => List.mem_cons_of_mem _ (inX9 w h)) hw 0 rfl rfl 16 (by decide) (List.mem_cons_of_mem _ tb_1161) (v := .int (p4.1 16 0)) rfl dX9_parseStatement_178 ?_
    refine lv_iconst (v := 1) hx hb dX9_parseStatement_181 (by decide) ?_
    refine lv_iadd hx hb dX9_parseStatement_182 ?_
    refine q_puti (C := RX9) (T := TX9) (N := 17) (ci := 9) E (fun w h => List.mem_cons_of_mem _ (inX9 w h)) tyX9 tyX9_ok nmX9 hw 0 rfl rfl 16 (by decide) (List.mem_cons_of_mem _ tb_1161) rfl rfl (Nat.le_of_ble_eq_true rfl) (wM cA h (up p4.1 16 0 ((p4.1 16 0) + 1)) p4.2 ++ F) st_M_16 dX9_parseStatement_183 (fun H locs hw => ?_)
    cases hM
    exact q_retv E hw dX9_parseStatement_186
  · replace hM := i_pos hM c1
    refine lv_iconst (v := 1) hx hb dX9_parseStatement_163 (by decide) ?_
    refine lv_goto (tgt := 168) hx hb dX9_parseStatement_164 (by decide) ?_
    refine lv_iconst (v := 1) hx hb dX9_parseStatement_168 (by decide) ?_
    obtain ⟨p6, h7, hM⟩ := b_some hM
    refine q_cvv (As := [.int 1, .int 1]) (rest := []) E hw hl (c_X9_require l D cA tS A h F 1 1 σ wd p6 h7) 2 (bwV bw_c tb_1653 tb_1655 tb_94 tb_111 tb_1656) rfl (by decide +kernel) ⟨Nat.le_of_ble_eq_true rfl, Nat.le_of_ble_eq_true rfl⟩ 0 9 (T := TX9) (N := 17) rfl rfl rfl rfl (Nat.le_of_ble_eq_true rfl) ⟨Nat.zero_le _, Nat.zero_le _⟩ dX9_parseStatement_169 (fun H locs hw => ?_)
    refine lv_aload_n hx hb dX9_parseStatement_172 rfl (lv_at hl 0 rfl) ?_
    obtain ⟨p8, h9, hM⟩ := b_some hM
    refine q_cvv (As := []) (rest := []) E hw hl (c_X9_advance l D cA tS A h F N p6 wd p8.1 p8.2 h9) 0 (bwV bw_c tb_1657 tb_1659 tb_95 tb_111 tb_1660) rfl (by decide +kernel) ⟨Nat.le_of_ble_eq_true rfl, Nat.le_of_ble_eq_true rfl⟩ 0 9 (T := TX9) (N := 17) rfl rfl rfl rfl (Nat.le_of_ble_eq_true rfl) ⟨Nat.zero_le _, Nat.zero_le _⟩ dX9_parseStatement_173 (fun H locs hw => ?_)
    refine lv_aload_n hx hb dX9_parseStatement_176 rfl (lv_at hl 0 rfl) ?_
    refine lv_dup hx hb dX9_parseStatement_177 rfl ?_
    refine q_get (C := RX9) (T := TX9) (N := 17) (ci := 9) E (fun w h => List.mem_cons_of_mem _ (inX9 w h)) hw 0 rfl rfl 16 (by decide) (List.mem_cons_of_mem _ tb_1161) (v := .int (p8.1 16 0)) rfl dX9_parseStatement_178 ?_
    refine lv_iconst (v := 1) hx hb dX9_parseStatement_181 (by decide) ?_
    refine lv_iadd hx hb dX9_parseStatement_182 ?_
    refine q_puti (C := RX9) (T := TX9) (N := 17) (ci := 9) E (fun w h => List.mem_cons_of_mem _ (inX9 w h)) tyX9 tyX9_ok nmX9 hw 0 rfl rfl 16 (by decide) (List.mem_cons_of_mem _ tb_1161) rfl rfl (Nat.le_of_ble_eq_true rfl) (wM cA h (up p8.1 16 0 ((p8.1 16 0) + 1)) p8.2 ++ F) st_M_16 dX9_parseStatement_183 (fun H locs hw => ?_)
    cases hM
    exact q_retv E hw dX9_parseStatement_186
set_option maxRecDepth 100000 in
set_option maxHeartbeats 4000000 in
theorem s_X9_parseStatement_91 (l : Launch) (D : va_G) (cA : Nat → ClassId) (tS : Nat → Nat) (A : Nat → Prop) (h : Nat → Nat) (F : va_W) (N : Nat) {p : Program} {e : Env} {s : State} {m : MethodId} {args : Array Value} {below : List Frame} {meth : Method} {c : Code} (E : Ev p cX9_parseStatement 4 none RX9 (Cond.code yX9_parseStatement cX9_parseStatement 4 none :: bw) D cA tS A s m args meth c) : ∀ (n : Nat) (x1 : Int32) (x2 : Int32) (x3 : Int32) (σ : Sg) (wd : Int64) (s0 : Sg) (wd0 : Int64) (hM : f_X9_parseStatement_91 N n x1 x2 x3 σ wd = some (s0, wd0)) (H : Heap) (locs : List Loc) (hw : Wd D A (wM cA h σ wd ++ F) s.heap H locs) (ls : Array Slot) (hl : lv_has ls 4 [(0, .ref (h 0)), (1, .int x1), (2, .int x2), (3, .int x3)]), W p l e ({ frames := 6, cells := 0, slots := 0, locals := 129 } : Room) s m args below meth c H locs 0 0 (MQ below (QW D A none (wM cA h s0 wd0 ++ F)) args s 0 0 A) (F0 m 91 ls []) := by
  have hx := E.1.1
  have hb := E.1.2.1
  intro n
  induction n with
  | zero =>
    intro x1 x2 x3 σ wd s0 wd0 hM
    cases hM
  | succ n ih =>
    intro x1 x2 x3 σ wd s0 wd0 hM H locs hw ls hl
    rw [f_X9_parseStatement_91] at hM
    refine lv_iload_n hx hb dX9_parseStatement_91 rfl (lv_at hl 3 rfl) ?_
    refine lv_iload_n hx hb dX9_parseStatement_92 rfl (lv_at hl 1 rfl) ?_
    obtain ⟨p1, h2, hM⟩ := b_some hM
    refine q_cs (As := [.int x1]) (rest := [.int x3]) E hw hl (c_X9_argumentsOf l D cA tS A (wM cA h σ wd ++ F) x1 p1 h2) 1 (bwS bw_c tb_1661 tb_1662 tb_111 tb_1663) rfl (by decide +kernel) ⟨Nat.le_of_ble_eq_true rfl, Nat.le_of_ble_eq_true rfl⟩ rfl rfl (Nat.le_of_ble_eq_true rfl) ⟨Nat.zero_le _, Nat.zero_le _⟩ dX9_parseStatement_93 (fun H locs hw => ?_)
    refine lv_icmp_gt (tgt := 117) hx hb dX9_parseStatement_96 (by decide) (fun c3 => ?_) (fun c3 => ?_)
    · replace hM := i_pos hM c3
      refine lv_aload_n hx hb dX9_parseStatement_117 rfl (lv_at hl 0 rfl) ?_
      refine q_get (C := RX9) (T := TX9) (N := 17) (ci := 9) E (fun w h => List.mem_cons_of_mem _ (inX9 w h)) hw 0 rfl rfl 11 (by decide) (List.mem_cons_of_mem _ tb_1156) (v := .int (σ 12 0)) rfl dX9_parseStatement_118 ?_
      refine lv_if_ne (tgt := 154) hx hb dX9_parseStatement_121 (by decide) (fun c4 => ?_) (fun c4 => ?_)
      · replace hM := i_neg hM c4
        exact s_X9_parseStatement_154 l D cA tS A h F N E _ _ _ _ hM _ _ hw _ (lv_sub hl [0] rfl)
      · replace hM := i_pos hM c4
        refine lv_iload_n hx hb dX9_parseStatement_124 rfl (lv_at hl 1 rfl) ?_
        refine lv_bipush (v := 11) hx hb dX9_parseStatement_125 (by decide) ?_
        refine lv_icmp_ne (tgt := 154) hx hb dX9_parseStatement_127 (by decide) (fun c5 => ?_) (fun c5 => ?_)
        · replace hM := i_neg hM c5
          exact s_X9_parseStatement_154 l D cA tS A h F N E _ _ _ _ hM _ _ hw _ (lv_sub hl [0] rfl)
        · replace hM := i_pos hM c5
          refine lv_aload_n hx hb dX9_parseStatement_130 rfl (lv_at hl 0 rfl) ?_
          refine va_ldcSw hx hb E.1.2.2.2.1 (E.2.2.2.2.2.2.2.2.1 (RX9, 308, "always", 0) (by decide +kernel)) dX9_parseStatement_131 ?_
          obtain ⟨p6, h7, hM⟩ := b_some hM
          refine q_cv (As := [.ref (adK tS 0)]) (rest := []) E hw hl (c_X9_isWord l D cA tS A h F N 0 σ wd p6 h7) 1 (bwV bw_c tb_1635 tb_1637 tb_93 tb_111 tb_1638) rfl (by decide +kernel) ⟨Nat.le_of_ble_eq_true rfl, Nat.le_of_ble_eq_true rfl⟩ 0 9 (T := TX9) (N := 17) rfl rfl rfl rfl (Nat.le_of_ble_eq_true rfl) ⟨Nat.zero_le _, Nat.zero_le _⟩ dX9_parseStatement_134 (fun H locs hw => ?_)
          refine lv_if_eq (tgt := 154) hx hb dX9_parseStatement_137 (by decide) (fun c8 => ?_) (fun c8 => ?_)
          · replace hM := i_pos hM c8
            exact s_X9_parseStatement_154 l D cA tS A h F N E _ _ _ _ hM _ _ hw _ (lv_sub hl [0] rfl)
          · replace hM := i_neg hM c8
            refine lv_aload_n hx hb dX9_parseStatement_140 rfl (lv_at hl 0 rfl) ?_
            refine q_get (C := RX9) (T := TX9) (N := 17) (ci := 9) E (fun w h => List.mem_cons_of_mem _ (inX9 w h)) hw 0 rfl rfl 15 (by decide) (List.mem_cons_of_mem _ tb_1160) (v := .ref (h 15)) rfl dX9_parseStatement_141 ?_
            refine lv_iload_n hx hb dX9_parseStatement_144 rfl (lv_at hl 2 rfl) ?_
            refine lv_bipush (v := 6) hx hb dX9_parseStatement_145 (by decide) ?_
            refine lv_iadd hx hb dX9_parseStatement_147 ?_
            refine lv_iconst (v := 1) hx hb dX9_parseStatement_148 (by decide) ?_
            obtain ⟨g9, hM⟩ := g_some hM
            refine q_ast E hw 6 (n := 280) rfl g9 (wM cA h (up σ 15 (ix (x2 + 6)) 1) wd ++ F) st_M_15 dX9_parseStatement_149 (fun H locs hw => ?_)
            refine lv_aload_n hx hb dX9_parseStatement_150 rfl (lv_at hl 0 rfl) ?_
            obtain ⟨p10, h11, hM⟩ := b_some hM
            refine q_cvv (As := []) (rest := []) E hw hl (c_X9_advance l D cA tS A h F N (up σ 15 (ix (x2 + 6)) 1) wd p10.1 p10.2 h11) 0 (bwV bw_c tb_1657 tb_1659 tb_95 tb_111 tb_1660) rfl (by decide +kernel) ⟨Nat.le_of_ble_eq_true rfl, Nat.le_of_ble_eq_true rfl⟩ 0 9 (T := TX9) (N := 17) rfl rfl rfl rfl (Nat.le_of_ble_eq_true rfl) ⟨Nat.zero_le _, Nat.zero_le _⟩ dX9_parseStatement_151 (fun H locs hw => ?_)
            exact s_X9_parseStatement_154 l D cA tS A h F N E _ _ _ _ hM _ _ hw _ (lv_sub hl [0] rfl)
    · replace hM := i_neg hM c3
      refine lv_aload_n hx hb dX9_parseStatement_99 rfl (lv_at hl 0 rfl) ?_
      refine q_get (C := RX9) (T := TX9) (N := 17) (ci := 9) E (fun w h => List.mem_cons_of_mem _ (inX9 w h)) hw 0 rfl rfl 15 (by decide) (List.mem_cons_of_mem _ tb_1160) (v := .ref (h 15)) rfl dX9_parseStatement_100 ?_
      refine lv_iload_n hx hb dX9_parseStatement_103 rfl (lv_at hl 2 rfl) ?_
      refine lv_iload_n hx hb dX9_parseStatement_104 rfl (lv_at hl 3 rfl) ?_
      refine lv_iadd hx hb dX9_parseStatement_105 ?_
      refine lv_aload_n hx hb dX9_parseStatement_106 rfl (lv_at hl 0 rfl) ?_
      obtain ⟨p12, h13, hM⟩ := b_some hM
      refine q_cv (As := []) (rest := [.int (x2 + x3), .ref (h 15)]) E hw hl (c_X9_parseNumber l D cA tS A h F N σ wd p12.1 p12.2.1 p12.2.2 h13) 0 (bwV bw_c tb_1664 tb_1666 tb_96 tb_111 tb_1667) rfl (by decide +kernel) ⟨Nat.le_of_ble_eq_true rfl, Nat.le_of_ble_eq_true rfl⟩ 0 9 (T := TX9) (N := 17) rfl rfl rfl rfl (Nat.le_of_ble_eq_true rfl) ⟨Nat.zero_le _, Nat.zero_le _⟩ dX9_parseStatement_107 (fun H locs hw => ?_)
      obtain ⟨g14, hM⟩ := g_some hM
      refine q_ast E hw 6 (n := 280) rfl g14 (wM cA h (up p12.2.1 15 (ix (x2 + x3)) p12.1) p12.2.2 ++ F) st_M_15 dX9_parseStatement_110 (fun H locs hw => ?_)
      refine lv_iinc (v := (x3 + 1)) (lv' := [(3, .int (x3 + 1)), (0, .ref (h 0)), (1, .int x1), (2, .int x2)]) hx hb dX9_parseStatement_111 hl (k := 3) rfl rfl (by decide) rfl (fun ls hl => ?_)
      refine lv_goto (tgt := 91) hx hb dX9_parseStatement_114 (by decide) ?_
      exact ih _ _ _ _ _ _ _ hM _ _ hw _ (lv_sub hl [1, 2, 3, 0] rfl)
set_option maxRecDepth 100000 in
set_option maxHeartbeats 4000000 in
theorem s_X9_parseStatement_57 (l : Launch) (D : va_G) (cA : Nat → ClassId) (tS : Nat → Nat) (A : Nat → Prop) (h : Nat → Nat) (F : va_W) (N : Nat) {p : Program} {e : Env} {s : State} {m : MethodId} {args : Array Value} {below : List Frame} {meth : Method} {c : Code} (E : Ev p cX9_parseStatement 4 none RX9 (Cond.code yX9_parseStatement cX9_parseStatement 4 none :: bw) D cA tS A s m args meth c) : ∀ (n : Nat) (x1 : Int32) (x2 : Int32) (x3 : Int32) (σ : Sg) (wd : Int64) (s0 : Sg) (wd0 : Int64) (hM : f_X9_parseStatement_57 N n x1 x2 x3 σ wd = some (s0, wd0)) (H : Heap) (locs : List Loc) (hw : Wd D A (wM cA h σ wd ++ F) s.heap H locs) (ls : Array Slot) (hl : lv_has ls 4 [(0, .ref (h 0)), (1, .int x1), (2, .int x2), (3, .int x3)]), W p l e ({ frames := 6, cells := 0, slots := 0, locals := 129 } : Room) s m args below meth c H locs 0 0 (MQ below (QW D A none (wM cA h s0 wd0 ++ F)) args s 0 0 A) (F0 m 57 ls []) := by
  have hx := E.1.1
  have hb := E.1.2.1
  intro n
  induction n with
  | zero =>
    intro x1 x2 x3 σ wd s0 wd0 hM
    cases hM
  | succ n ih =>
    intro x1 x2 x3 σ wd s0 wd0 hM H locs hw ls hl
    rw [f_X9_parseStatement_57] at hM
    refine lv_iload_n hx hb dX9_parseStatement_57 rfl (lv_at hl 3 rfl) ?_
    refine lv_bipush (v := 7) hx hb dX9_parseStatement_58 (by decide) ?_
    refine lv_icmp_ge (tgt := 78) hx hb dX9_parseStatement_60 (by decide) (fun c1 => ?_) (fun c1 => ?_)
    · replace hM := i_pos hM c1
      refine lv_aload_n hx hb dX9_parseStatement_78 rfl (lv_at hl 0 rfl) ?_
      refine q_get (C := RX9) (T := TX9) (N := 17) (ci := 9) E (fun w h => List.mem_cons_of_mem _ (inX9 w h)) hw 0 rfl rfl 15 (by decide) (List.mem_cons_of_mem _ tb_1160) (v := .ref (h 15)) rfl dX9_parseStatement_79 ?_
      refine lv_iload_n hx hb dX9_parseStatement_82 rfl (lv_at hl 2 rfl) ?_
      refine lv_iload_n hx hb dX9_parseStatement_83 rfl (lv_at hl 1 rfl) ?_
      obtain ⟨g2, hM⟩ := g_some hM
      refine q_ast E hw 6 (n := 280) rfl g2 (wM cA h (up σ 15 (ix x2) x1) wd ++ F) st_M_15 dX9_parseStatement_84 (fun H locs hw => ?_)
      refine lv_aload_n hx hb dX9_parseStatement_85 rfl (lv_at hl 0 rfl) ?_
      obtain ⟨p3, h4, hM⟩ := b_some hM
      refine q_cvv (As := []) (rest := []) E hw hl (c_X9_advance l D cA tS A h F N (up σ 15 (ix x2) x1) wd p3.1 p3.2 h4) 0 (bwV bw_c tb_1657 tb_1659 tb_95 tb_111 tb_1660) rfl (by decide +kernel) ⟨Nat.le_of_ble_eq_true rfl, Nat.le_of_ble_eq_true rfl⟩ 0 9 (T := TX9) (N := 17) rfl rfl rfl rfl (Nat.le_of_ble_eq_true rfl) ⟨Nat.zero_le _, Nat.zero_le _⟩ dX9_parseStatement_86 (fun H locs hw => ?_)
      refine lv_iconst (v := 1) hx hb dX9_parseStatement_89 (by decide) ?_
      refine lv_istore_n (lv' := [(3, .int 1), (0, .ref (h 0)), (1, .int x1), (2, .int x2)]) hx hb dX9_parseStatement_90 rfl hl (by decide) rfl (fun ls hl => ?_)
      exact s_X9_parseStatement_91 l D cA tS A h F N E N _ _ _ _ _ _ _ hM _ _ hw _ (lv_sub hl [1, 2, 3, 0] rfl)
    · replace hM := i_neg hM c1
      refine lv_aload_n hx hb dX9_parseStatement_63 rfl (lv_at hl 0 rfl) ?_
      refine q_get (C := RX9) (T := TX9) (N := 17) (ci := 9) E (fun w h => List.mem_cons_of_mem _ (inX9 w h)) hw 0 rfl rfl 15 (by decide) (List.mem_cons_of_mem _ tb_1160) (v := .ref (h 15)) rfl dX9_parseStatement_64 ?_
      refine lv_iload_n hx hb dX9_parseStatement_67 rfl (lv_at hl 2 rfl) ?_
      refine lv_iload_n hx hb dX9_parseStatement_68 rfl (lv_at hl 3 rfl) ?_
      refine lv_iadd hx hb dX9_parseStatement_69 ?_
      refine lv_iconst (v := 0) hx hb dX9_parseStatement_70 (by decide) ?_
      obtain ⟨g5, hM⟩ := g_some hM
      refine q_ast E hw 6 (n := 280) rfl g5 (wM cA h (up σ 15 (ix (x2 + x3)) 0) wd ++ F) st_M_15 dX9_parseStatement_71 (fun H locs hw => ?_)
      refine lv_iinc (v := (x3 + 1)) (lv' := [(3, .int (x3 + 1)), (0, .ref (h 0)), (1, .int x1), (2, .int x2)]) hx hb dX9_parseStatement_72 hl (k := 3) rfl rfl (by decide) rfl (fun ls hl => ?_)
      refine lv_goto (tgt := 57) hx hb dX9_parseStatement_75 (by decide) ?_
      exact ih _ _ _ _ _ _ _ hM _ _ hw _ (lv_sub hl [1, 2, 3, 0] rfl)
set_option maxRecDepth 100000 in
set_option maxHeartbeats 4000000 in
theorem c_X9_parseStatement (l : Launch) (D : va_G) (cA : Nat → ClassId) (tS : Nat → Nat) (A : Nat → Prop) (h : Nat → Nat) (F : va_W) (N : Nat) (σ : Sg) (wd : Int64) (s0 : Sg) (wd0 : Int64) (hM : f_X9_parseStatement N σ wd = some (s0, wd0)) : Ct l yX9_parseStatement (Cond.code yX9_parseStatement cX9_parseStatement 4 none :: bw) 6 129 D cA tS A [.ref (h 0)] (wM cA h σ wd ++ F) none (wM cA h s0 wd0 ++ F) := by
  refine ct_of (by decide +kernel) (Nat.le_of_ble_eq_true rfl) ?_
  intro p e s m below meth c E hw ls hl
  replace E : Ev p cX9_parseStatement 4 none RX9 (Cond.code yX9_parseStatement cX9_parseStatement 4 none :: bw) D cA tS A s m _ meth c := E
  replace hl : lv_has ls 4 [(0, .ref (h 0))] := hl
  have hx := E.1.1
  have hb := E.1.2.1
  unfold f_X9_parseStatement at hM
  refine lv_aload_n hx hb dX9_parseStatement_0 rfl (lv_at hl 0 rfl) ?_
  obtain ⟨p1, h2, hM⟩ := b_some hM
  refine q_cv (As := []) (rest := []) E hw hl (c_X9_statementOfWord l D cA tS A h F N σ wd p1 h2) 0 (bwV bw_c tb_1630 tb_1632 tb_92 tb_111 tb_1633) rfl (by decide +kernel) ⟨Nat.le_of_ble_eq_true rfl, Nat.le_of_ble_eq_true rfl⟩ 0 9 (T := TX9) (N := 17) rfl rfl rfl rfl (Nat.le_of_ble_eq_true rfl) ⟨Nat.zero_le _, Nat.zero_le _⟩ dX9_parseStatement_1 (fun H locs hw => ?_)
  refine lv_istore_n (lv' := [(1, .int p1), (0, .ref (h 0))]) hx hb dX9_parseStatement_4 rfl hl (by decide) rfl (fun ls hl => ?_)
  refine lv_aload_n hx hb dX9_parseStatement_5 rfl (lv_at hl 1 rfl) ?_
  refine lv_iload_n hx hb dX9_parseStatement_6 rfl (lv_at hl 0 rfl) ?_
  refine lv_iconst (v := (-1)) hx hb dX9_parseStatement_7 (by decide) ?_
  refine lv_icmp_eq (tgt := 15) hx hb dX9_parseStatement_8 (by decide) (fun c3 => ?_) (fun c3 => ?_)
  · replace hM := i_pos hM c3
    refine lv_iconst (v := 0) hx hb dX9_parseStatement_15 (by decide) ?_
    refine lv_iconst (v := 1) hx hb dX9_parseStatement_16 (by decide) ?_
    obtain ⟨p4, h5, hM⟩ := b_some hM
    refine q_cvv (As := [.int 0, .int 1]) (rest := []) E hw hl (c_X9_require l D cA tS A h F 0 1 σ wd p4 h5) 2 (bwV bw_c tb_1653 tb_1655 tb_94 tb_111 tb_1656) rfl (by decide +kernel) ⟨Nat.le_of_ble_eq_true rfl, Nat.le_of_ble_eq_true rfl⟩ 0 9 (T := TX9) (N := 17) rfl rfl rfl rfl (Nat.le_of_ble_eq_true rfl) ⟨Nat.zero_le _, Nat.zero_le _⟩ dX9_parseStatement_17 (fun H locs hw => ?_)
    refine lv_aload_n hx hb dX9_parseStatement_20 rfl (lv_at hl 1 rfl) ?_
    refine lv_aload_n hx hb dX9_parseStatement_21 rfl (lv_at hl 1 rfl) ?_
    refine q_get (C := RX9) (T := TX9) (N := 17) (ci := 9) E (fun w h => List.mem_cons_of_mem _ (inX9 w h)) hw 0 rfl rfl 16 (by decide) (List.mem_cons_of_mem _ tb_1161) (v := .int (p4 16 0)) rfl dX9_parseStatement_22 ?_
    refine lv_bipush (v := 40) hx hb dX9_parseStatement_25 (by decide) ?_
    refine lv_icmp_ge (tgt := 34) hx hb dX9_parseStatement_27 (by decide) (fun c6 => ?_) (fun c6 => ?_)
    · replace hM := i_pos hM c6
      refine lv_iconst (v := 0) hx hb dX9_parseStatement_34 (by decide) ?_
      refine lv_iconst (v := 3) hx hb dX9_parseStatement_35 (by decide) ?_
      obtain ⟨p7, h8, hM⟩ := b_some hM
      refine q_cvv (As := [.int 0, .int 3]) (rest := []) E hw hl (c_X9_require l D cA tS A h F 0 3 p4 wd p7 h8) 2 (bwV bw_c tb_1653 tb_1655 tb_94 tb_111 tb_1656) rfl (by decide +kernel) ⟨Nat.le_of_ble_eq_true rfl, Nat.le_of_ble_eq_true rfl⟩ 0 9 (T := TX9) (N := 17) rfl rfl rfl rfl (Nat.le_of_ble_eq_true rfl) ⟨Nat.zero_le _, Nat.zero_le _⟩ dX9_parseStatement_36 (fun H locs hw => ?_)
      refine lv_aload_n hx hb dX9_parseStatement_39 rfl (lv_at hl 1 rfl) ?_
      refine q_get (C := RX9) (T := TX9) (N := 17) (ci := 9) E (fun w h => List.mem_cons_of_mem _ (inX9 w h)) hw 0 rfl rfl 11 (by decide) (List.mem_cons_of_mem _ tb_1156) (v := .int (p7 12 0)) rfl dX9_parseStatement_40 ?_
      refine lv_if_eq (tgt := 47) hx hb dX9_parseStatement_43 (by decide) (fun c9 => ?_) (fun c9 => ?_)
      · replace hM := i_pos hM c9
        refine lv_bipush (v := 7) hx hb dX9_parseStatement_47 (by decide) ?_
        refine lv_aload_n hx hb dX9_parseStatement_49 rfl (lv_at hl 1 rfl) ?_
        refine q_get (C := RX9) (T := TX9) (N := 17) (ci := 9) E (fun w h => List.mem_cons_of_mem _ (inX9 w h)) hw 0 rfl rfl 16 (by decide) (List.mem_cons_of_mem _ tb_1161) (v := .int (p7 16 0)) rfl dX9_parseStatement_50 ?_
        refine lv_imul hx hb dX9_parseStatement_53 ?_
        refine lv_istore_n (lv' := [(2, .int (7 * (p7 16 0))), (1, .int p1), (0, .ref (h 0))]) hx hb dX9_parseStatement_54 rfl hl (by decide) rfl (fun ls hl => ?_)
        refine lv_iconst (v := 0) hx hb dX9_parseStatement_55 (by decide) ?_
        refine lv_istore_n (lv' := [(3, .int 0), (2, .int (7 * (p7 16 0))), (1, .int p1), (0, .ref (h 0))]) hx hb dX9_parseStatement_56 rfl hl (by decide) rfl (fun ls hl => ?_)
        exact s_X9_parseStatement_57 l D cA tS A h F N E N _ _ _ _ _ _ _ hM _ _ hw _ (lv_sub hl [3, 2, 1, 0] rfl)
      · replace hM := i_neg hM c9
        cases hM
        exact q_retv E hw dX9_parseStatement_46
    · replace hM := i_neg hM c6
      refine lv_iconst (v := 1) hx hb dX9_parseStatement_30 (by decide) ?_
      refine lv_goto (tgt := 35) hx hb dX9_parseStatement_31 (by decide) ?_
      refine lv_iconst (v := 3) hx hb dX9_parseStatement_35 (by decide) ?_
      obtain ⟨p10, h11, hM⟩ := b_some hM
      refine q_cvv (As := [.int 1, .int 3]) (rest := []) E hw hl (c_X9_require l D cA tS A h F 1 3 p4 wd p10 h11) 2 (bwV bw_c tb_1653 tb_1655 tb_94 tb_111 tb_1656) rfl (by decide +kernel) ⟨Nat.le_of_ble_eq_true rfl, Nat.le_of_ble_eq_true rfl⟩ 0 9 (T := TX9) (N := 17) rfl rfl rfl rfl (Nat.le_of_ble_eq_true rfl) ⟨Nat.zero_le _, Nat.zero_le _⟩ dX9_parseStatement_36 (fun H locs hw => ?_)
      refine lv_aload_n hx hb dX9_parseStatement_39 rfl (lv_at hl 1 rfl) ?_
      refine q_get (C := RX9) (T := TX9) (N := 17) (ci := 9) E (fun w h => List.mem_cons_of_mem _ (inX9 w h)) hw 0 rfl rfl 11 (by decide) (List.mem_cons_of_mem _ tb_1156) (v := .int (p10 12 0)) rfl dX9_parseStatement_40 ?_
      refine lv_if_eq (tgt := 47) hx hb dX9_parseStatement_43 (by decide) (fun c12 => ?_) (fun c12 => ?_)
      · replace hM := i_pos hM c12
        refine lv_bipush (v := 7) hx hb dX9_parseStatement_47 (by decide) ?_
        refine lv_aload_n hx hb dX9_parseStatement_49 rfl (lv_at hl 1 rfl) ?_
        refine q_get (C := RX9) (T := TX9) (N := 17) (ci := 9) E (fun w h => List.mem_cons_of_mem _ (inX9 w h)) hw 0 rfl rfl 16 (by decide) (List.mem_cons_of_mem _ tb_1161) (v := .int (p10 16 0)) rfl dX9_parseStatement_50 ?_
        refine lv_imul hx hb dX9_parseStatement_53 ?_
        refine lv_istore_n (lv' := [(2, .int (7 * (p10 16 0))), (1, .int p1), (0, .ref (h 0))]) hx hb dX9_parseStatement_54 rfl hl (by decide) rfl (fun ls hl => ?_)
        refine lv_iconst (v := 0) hx hb dX9_parseStatement_55 (by decide) ?_
        refine lv_istore_n (lv' := [(3, .int 0), (2, .int (7 * (p10 16 0))), (1, .int p1), (0, .ref (h 0))]) hx hb dX9_parseStatement_56 rfl hl (by decide) rfl (fun ls hl => ?_)
        exact s_X9_parseStatement_57 l D cA tS A h F N E N _ _ _ _ _ _ _ hM _ _ hw _ (lv_sub hl [3, 2, 1, 0] rfl)
      · replace hM := i_neg hM c12
        cases hM
        exact q_retv E hw dX9_parseStatement_46
  · replace hM := i_neg hM c3
    refine lv_iconst (v := 1) hx hb dX9_parseStatement_11 (by decide) ?_
    refine lv_goto (tgt := 16) hx hb dX9_parseStatement_12 (by decide) ?_
    refine lv_iconst (v := 1) hx hb dX9_parseStatement_16 (by decide) ?_
    obtain ⟨p13, h14, hM⟩ := b_some hM
    refine q_cvv (As := [.int 1, .int 1]) (rest := []) E hw hl (c_X9_require l D cA tS A h F 1 1 σ wd p13 h14) 2 (bwV bw_c tb_1653 tb_1655 tb_94 tb_111 tb_1656) rfl (by decide +kernel) ⟨Nat.le_of_ble_eq_true rfl, Nat.le_of_ble_eq_true rfl⟩ 0 9 (T := TX9) (N := 17) rfl rfl rfl rfl (Nat.le_of_ble_eq_true rfl) ⟨Nat.zero_le _, Nat.zero_le _⟩ dX9_parseStatement_17 (fun H locs hw => ?_)
    refine lv_aload_n hx hb dX9_parseStatement_20 rfl (lv_at hl 1 rfl) ?_
    refine lv_aload_n hx hb dX9_parseStatement_21 rfl (lv_at hl 1 rfl) ?_
    refine q_get (C := RX9) (T := TX9) (N := 17) (ci := 9) E (fun w h => List.mem_cons_of_mem _ (inX9 w h)) hw 0 rfl rfl 16 (by decide) (List.mem_cons_of_mem _ tb_1161) (v := .int (p13 16 0)) rfl dX9_parseStatement_22 ?_
    refine lv_bipush (v := 40) hx hb dX9_parseStatement_25 (by decide) ?_
    refine lv_icmp_ge (tgt := 34) hx hb dX9_parseStatement_27 (by decide) (fun c15 => ?_) (fun c15 => ?_)
    · replace hM := i_pos hM c15
      refine lv_iconst (v := 0) hx hb dX9_parseStatement_34 (by decide) ?_
      refine lv_iconst (v := 3) hx hb dX9_parseStatement_35 (by decide) ?_
      obtain ⟨p16, h17, hM⟩ := b_some hM
      refine q_cvv (As := [.int 0, .int 3]) (rest := []) E hw hl (c_X9_require l D cA tS A h F 0 3 p13 wd p16 h17) 2 (bwV bw_c tb_1653 tb_1655 tb_94 tb_111 tb_1656) rfl (by decide +kernel) ⟨Nat.le_of_ble_eq_true rfl, Nat.le_of_ble_eq_true rfl⟩ 0 9 (T := TX9) (N := 17) rfl rfl rfl rfl (Nat.le_of_ble_eq_true rfl) ⟨Nat.zero_le _, Nat.zero_le _⟩ dX9_parseStatement_36 (fun H locs hw => ?_)
      refine lv_aload_n hx hb dX9_parseStatement_39 rfl (lv_at hl 1 rfl) ?_
      refine q_get (C := RX9) (T := TX9) (N := 17) (ci := 9) E (fun w h => List.mem_cons_of_mem _ (inX9 w h)) hw 0 rfl rfl 11 (by decide) (List.mem_cons_of_mem _ tb_1156) (v := .int (p16 12 0)) rfl dX9_parseStatement_40 ?_
      refine lv_if_eq (tgt := 47) hx hb dX9_parseStatement_43 (by decide) (fun c18 => ?_) (fun c18 => ?_)
      · replace hM := i_pos hM c18
        refine lv_bipush (v := 7) hx hb dX9_parseStatement_47 (by decide) ?_
        refine lv_aload_n hx hb dX9_parseStatement_49 rfl (lv_at hl 1 rfl) ?_
        refine q_get (C := RX9) (T := TX9) (N := 17) (ci := 9) E (fun w h => List.mem_cons_of_mem _ (inX9 w h)) hw 0 rfl rfl 16 (by decide) (List.mem_cons_of_mem _ tb_1161) (v := .int (p16 16 0)) rfl dX9_parseStatement_50 ?_
        refine lv_imul hx hb dX9_parseStatement_53 ?_
        refine lv_istore_n (lv' := [(2, .int (7 * (p16 16 0))), (1, .int p1), (0, .ref (h 0))]) hx hb dX9_parseStatement_54 rfl hl (by decide) rfl (fun ls hl => ?_)
        refine lv_iconst (v := 0) hx hb dX9_parseStatement_55 (by decide) ?_
        refine lv_istore_n (lv' := [(3, .int 0), (2, .int (7 * (p16 16 0))), (1, .int p1), (0, .ref (h 0))]) hx hb dX9_parseStatement_56 rfl hl (by decide) rfl (fun ls hl => ?_)
        exact s_X9_parseStatement_57 l D cA tS A h F N E N _ _ _ _ _ _ _ hM _ _ hw _ (lv_sub hl [3, 2, 1, 0] rfl)
      · replace hM := i_neg hM c18
        cases hM
        exact q_retv E hw dX9_parseStatement_46
    · replace hM := i_neg hM c15
      refine lv_iconst (v := 1) hx hb dX9_parseStatement_30 (by decide) ?_
      refine lv_goto (tgt := 35) hx hb dX9_parseStatement_31 (by decide) ?_
      refine lv_iconst (v := 3) hx hb dX9_parseStatement_35 (by decide) ?_
      obtain ⟨p19, h20, hM⟩ := b_some hM
      refine q_cvv (As := [.int 1, .int 3]) (rest := []) E hw hl (c_X9_require l D cA tS A h F 1 3 p13 wd p19 h20) 2 (bwV bw_c tb_1653 tb_1655 tb_94 tb_111 tb_1656) rfl (by decide +kernel) ⟨Nat.le_of_ble_eq_true rfl, Nat.le_of_ble_eq_true rfl⟩ 0 9 (T := TX9) (N := 17) rfl rfl rfl rfl (Nat.le_of_ble_eq_true rfl) ⟨Nat.zero_le _, Nat.zero_le _⟩ dX9_parseStatement_36 (fun H locs hw => ?_)
      refine lv_aload_n hx hb dX9_parseStatement_39 rfl (lv_at hl 1 rfl) ?_
      refine q_get (C := RX9) (T := TX9) (N := 17) (ci := 9) E (fun w h => List.mem_cons_of_mem _ (inX9 w h)) hw 0 rfl rfl 11 (by decide) (List.mem_cons_of_mem _ tb_1156) (v := .int (p19 12 0)) rfl dX9_parseStatement_40 ?_
      refine lv_if_eq (tgt := 47) hx hb dX9_parseStatement_43 (by decide) (fun c21 => ?_) (fun c21 => ?_)
      · replace hM := i_pos hM c21
        refine lv_bipush (v := 7) hx hb dX9_parseStatement_47 (by decide) ?_
        refine lv_aload_n hx hb dX9_parseStatement_49 rfl (lv_at hl 1 rfl) ?_
        refine q_get (C := RX9) (T := TX9) (N := 17) (ci := 9) E (fun w h => List.mem_cons_of_mem _ (inX9 w h)) hw 0 rfl rfl 16 (by decide) (List.mem_cons_of_mem _ tb_1161) (v := .int (p19 16 0)) rfl dX9_parseStatement_50 ?_
        refine lv_imul hx hb dX9_parseStatement_53 ?_
        refine lv_istore_n (lv' := [(2, .int (7 * (p19 16 0))), (1, .int p1), (0, .ref (h 0))]) hx hb dX9_parseStatement_54 rfl hl (by decide) rfl (fun ls hl => ?_)
        refine lv_iconst (v := 0) hx hb dX9_parseStatement_55 (by decide) ?_
        refine lv_istore_n (lv' := [(3, .int 0), (2, .int (7 * (p19 16 0))), (1, .int p1), (0, .ref (h 0))]) hx hb dX9_parseStatement_56 rfl hl (by decide) rfl (fun ls hl => ?_)
        exact s_X9_parseStatement_57 l D cA tS A h F N E N _ _ _ _ _ _ _ hM _ _ hw _ (lv_sub hl [3, 2, 1, 0] rfl)
      · replace hM := i_neg hM c21
        cases hM
        exact q_retv E hw dX9_parseStatement_46
set_option maxRecDepth 100000 in
set_option maxHeartbeats 4000000 in
theorem c_X9_execute (l : Launch) (D : va_G) (cA : Nat → ClassId) (tS : Nat → Nat) (A : Nat → Prop) (h : Nat → Nat) (F : va_W) (N : Nat) (x1 : Int32) (σ : Sg) (wd : Int64) (r0 : Int32) (s0 : Sg) (hM : f_X9_execute N x1 σ wd = some (r0, s0)) : Ct l yX9_execute (Cond.code yX9_execute cX9_execute 8 (some .int) :: bw) 7 166 D cA tS A [.ref (h 0), .int x1] (wM cA h σ wd ++ F) (some (.int r0)) (wM cA h s0 wd ++ F) := by
  refine ct_of (by decide +kernel) (Nat.le_of_ble_eq_true rfl) ?_
  intro p e s m below meth c E hw ls hl
  replace E : Ev p cX9_execute 8 (some .int) RX9 (Cond.code yX9_execute cX9_execute 8 (some .int) :: bw) D cA tS A s m _ meth c := E
  replace hl : lv_has ls 8 [(0, .ref (h 0)), (1, .int x1)] := hl
  have hx := E.1.1
  have hb := E.1.2.1
  unfold f_X9_execute at hM
  refine lv_bipush (v := 7) hx hb dX9_execute_0 (by decide) ?_
  refine lv_iload_n hx hb dX9_execute_2 rfl (lv_at hl 1 rfl) ?_
  refine lv_imul hx hb dX9_execute_3 ?_
  refine lv_istore_n (lv' := [(2, .int (7 * x1)), (0, .ref (h 0)), (1, .int x1)]) hx hb dX9_execute_4 rfl hl (by decide) rfl (fun ls hl => ?_)
  refine lv_aload_n hx hb dX9_execute_5 rfl (lv_at hl 1 rfl) ?_
  refine q_get (C := RX9) (T := TX9) (N := 17) (ci := 9) E (fun w h => List.mem_cons_of_mem _ (inX9 w h)) hw 0 rfl rfl 15 (by decide) (List.mem_cons_of_mem _ tb_1160) (v := .ref (h 15)) rfl dX9_execute_6 ?_
  refine lv_iload_n hx hb dX9_execute_9 rfl (lv_at hl 0 rfl) ?_
  obtain ⟨g1, hM⟩ := g_some hM
  refine q_ald E hw 6 (n := 280) rfl g1 (x := (σ 15 (ix (7 * x1)))) rfl dX9_execute_10 ?_
  refine lv_istore_n (lv' := [(3, .int (σ 15 (ix (7 * x1)))), (2, .int (7 * x1)), (0, .ref (h 0)), (1, .int x1)]) hx hb dX9_execute_11 rfl hl (by decide) rfl (fun ls hl => ?_)
  refine lv_aload_n hx hb dX9_execute_12 rfl (lv_at hl 2 rfl) ?_
  refine q_get (C := RX9) (T := TX9) (N := 17) (ci := 9) E (fun w h => List.mem_cons_of_mem _ (inX9 w h)) hw 0 rfl rfl 15 (by decide) (List.mem_cons_of_mem _ tb_1160) (v := .ref (h 15)) rfl dX9_execute_13 ?_
  refine lv_iload_n hx hb dX9_execute_16 rfl (lv_at hl 1 rfl) ?_
  refine lv_iconst (v := 1) hx hb dX9_execute_17 (by decide) ?_
  refine lv_iadd hx hb dX9_execute_18 ?_
  obtain ⟨g2, hM⟩ := g_some hM
  refine q_ald E hw 6 (n := 280) rfl g2 (x := (σ 15 (ix ((7 * x1) + 1)))) rfl dX9_execute_19 ?_
  refine lv_istore (lv' := [(4, .int (σ 15 (ix ((7 * x1) + 1)))), (3, .int (σ 15 (ix (7 * x1)))), (2, .int (7 * x1)), (0, .ref (h 0)), (1, .int x1)]) hx hb dX9_execute_20 hl (by decide) rfl (fun ls hl => ?_)
  refine lv_aload_n hx hb dX9_execute_22 rfl (lv_at hl 3 rfl) ?_
  refine q_get (C := RX9) (T := TX9) (N := 17) (ci := 9) E (fun w h => List.mem_cons_of_mem _ (inX9 w h)) hw 0 rfl rfl 15 (by decide) (List.mem_cons_of_mem _ tb_1160) (v := .ref (h 15)) rfl dX9_execute_23 ?_
  refine lv_iload_n hx hb dX9_execute_26 rfl (lv_at hl 2 rfl) ?_
  refine lv_iconst (v := 2) hx hb dX9_execute_27 (by decide) ?_
  refine lv_iadd hx hb dX9_execute_28 ?_
  obtain ⟨g3, hM⟩ := g_some hM
  refine q_ald E hw 6 (n := 280) rfl g3 (x := (σ 15 (ix ((7 * x1) + 2)))) rfl dX9_execute_29 ?_
  refine lv_istore (lv' := [(5, .int (σ 15 (ix ((7 * x1) + 2)))), (4, .int (σ 15 (ix ((7 * x1) + 1)))), (3, .int (σ 15 (ix (7 * x1)))), (2, .int (7 * x1)), (0, .ref (h 0)), (1, .int x1)]) hx hb dX9_execute_30 hl (by decide) rfl (fun ls hl => ?_)
  refine lv_aload_n hx hb dX9_execute_32 rfl (lv_at hl 4 rfl) ?_
  refine q_get (C := RX9) (T := TX9) (N := 17) (ci := 9) E (fun w h => List.mem_cons_of_mem _ (inX9 w h)) hw 0 rfl rfl 15 (by decide) (List.mem_cons_of_mem _ tb_1160) (v := .ref (h 15)) rfl dX9_execute_33 ?_
  refine lv_iload_n hx hb dX9_execute_36 rfl (lv_at hl 3 rfl) ?_
  refine lv_iconst (v := 3) hx hb dX9_execute_37 (by decide) ?_
  refine lv_iadd hx hb dX9_execute_38 ?_
  obtain ⟨g4, hM⟩ := g_some hM
  refine q_ald E hw 6 (n := 280) rfl g4 (x := (σ 15 (ix ((7 * x1) + 3)))) rfl dX9_execute_39 ?_
  refine lv_istore (lv' := [(6, .int (σ 15 (ix ((7 * x1) + 3)))), (5, .int (σ 15 (ix ((7 * x1) + 2)))), (4, .int (σ 15 (ix ((7 * x1) + 1)))), (3, .int (σ 15 (ix (7 * x1)))), (2, .int (7 * x1)), (0, .ref (h 0)), (1, .int x1)]) hx hb dX9_execute_40 hl (by decide) rfl (fun ls hl => ?_)
  refine lv_aload_n hx hb dX9_execute_42 rfl (lv_at hl 5 rfl) ?_
  refine q_get (C := RX9) (T := TX9) (N := 17) (ci := 9) E (fun w h => List.mem_cons_of_mem _ (inX9 w h)) hw 0 rfl rfl 15 (by decide) (List.mem_cons_of_mem _ tb_1160) (v := .ref (h 15)) rfl dX9_execute_43 ?_
  refine lv_iload_n hx hb dX9_execute_46 rfl (lv_at hl 4 rfl) ?_
  refine lv_iconst (v := 4) hx hb dX9_execute_47 (by decide) ?_
  refine lv_iadd hx hb dX9_execute_48 ?_
  obtain ⟨g5, hM⟩ := g_some hM
  refine q_ald E hw 6 (n := 280) rfl g5 (x := (σ 15 (ix ((7 * x1) + 4)))) rfl dX9_execute_49 ?_
  refine lv_istore (lv' := [(7, .int (σ 15 (ix ((7 * x1) + 4)))), (6, .int (σ 15 (ix ((7 * x1) + 3)))), (5, .int (σ 15 (ix ((7 * x1) + 2)))), (4, .int (σ 15 (ix ((7 * x1) + 1)))), (3, .int (σ 15 (ix (7 * x1)))), (2, .int (7 * x1)), (0, .ref (h 0)), (1, .int x1)]) hx hb dX9_execute_50 hl (by decide) rfl (fun ls hl => ?_)
  refine lv_iload_n hx hb dX9_execute_52 rfl (lv_at hl 4 rfl) ?_
  refine lv_bipush (v := 11) hx hb dX9_execute_53 (by decide) ?_
  refine lv_icmp_ne (tgt := 97) hx hb dX9_execute_55 (by decide) (fun c6 => ?_) (fun c6 => ?_)
  · replace hM := i_neg hM c6
    refine lv_iload_n hx hb dX9_execute_97 rfl (lv_at hl 4 rfl) ?_
    refine lv_bipush (v := 12) hx hb dX9_execute_98 (by decide) ?_
    refine lv_icmp_ne (tgt := 112) hx hb dX9_execute_100 (by decide) (fun c7 => ?_) (fun c7 => ?_)
    · replace hM := i_neg hM c7
      refine lv_aload_n hx hb dX9_execute_112 rfl (lv_at hl 6 rfl) ?_
      refine lv_iload_n hx hb dX9_execute_113 rfl (lv_at hl 4 rfl) ?_
      refine lv_iload hx hb dX9_execute_114 (lv_at hl 3 rfl) ?_
      refine lv_iload hx hb dX9_execute_116 (lv_at hl 2 rfl) ?_
      refine lv_iload hx hb dX9_execute_118 (lv_at hl 1 rfl) ?_
      refine lv_iload hx hb dX9_execute_120 (lv_at hl 0 rfl) ?_
      obtain ⟨p8, h9, hM⟩ := b_some hM
      refine q_cv (As := [.int (σ 15 (ix (7 * x1))), .int (σ 15 (ix ((7 * x1) + 1))), .int (σ 15 (ix ((7 * x1) + 2))), .int (σ 15 (ix ((7 * x1) + 3))), .int (σ 15 (ix ((7 * x1) + 4)))]) (rest := []) E hw hl (c_X9_change l D cA tS A h F N (σ 15 (ix (7 * x1))) (σ 15 (ix ((7 * x1) + 1))) (σ 15 (ix ((7 * x1) + 2))) (σ 15 (ix ((7 * x1) + 3))) (σ 15 (ix ((7 * x1) + 4))) σ wd p8.1 p8.2 h9) 5 (bwV bw_c tb_1201 tb_1203 tb_44 tb_111 tb_1204) rfl (by decide +kernel) ⟨Nat.le_of_ble_eq_true rfl, Nat.le_of_ble_eq_true rfl⟩ 0 9 (T := TX9) (N := 17) rfl rfl rfl rfl (Nat.le_of_ble_eq_true rfl) ⟨Nat.zero_le _, Nat.zero_le _⟩ dX9_execute_122 (fun H locs hw => ?_)
      cases hM
      exact q_reti E hw dX9_execute_125
    · replace hM := i_pos hM c7
      refine lv_aload_n hx hb dX9_execute_103 rfl (lv_at hl 6 rfl) ?_
      refine lv_iload hx hb dX9_execute_104 (lv_at hl 3 rfl) ?_
      obtain ⟨p10, h11, hM⟩ := b_some hM
      refine q_cv (As := [.int (σ 15 (ix ((7 * x1) + 1)))]) (rest := []) E hw hl (c_X9_pass l D cA tS A h F N (σ 15 (ix ((7 * x1) + 1))) σ wd p10.1 p10.2 h11) 1 (bwV bw_c tb_1674 tb_1384 tb_1385 tb_111 tb_1386) rfl (by decide +kernel) ⟨Nat.le_of_ble_eq_true rfl, Nat.le_of_ble_eq_true rfl⟩ 0 9 (T := TX9) (N := 17) rfl rfl rfl rfl (Nat.le_of_ble_eq_true rfl) ⟨Nat.zero_le _, Nat.zero_le _⟩ dX9_execute_106 (fun H locs hw => ?_)
      refine lv_goto (tgt := 125) hx hb dX9_execute_109 (by decide) ?_
      cases hM
      exact q_reti E hw dX9_execute_125
  · replace hM := i_pos hM c6
    refine lv_aload_n hx hb dX9_execute_58 rfl (lv_at hl 6 rfl) ?_
    refine lv_iload hx hb dX9_execute_59 (lv_at hl 3 rfl) ?_
    refine lv_iload hx hb dX9_execute_61 (lv_at hl 2 rfl) ?_
    refine lv_iload hx hb dX9_execute_63 (lv_at hl 1 rfl) ?_
    refine lv_iload hx hb dX9_execute_65 (lv_at hl 0 rfl) ?_
    refine lv_aload_n hx hb dX9_execute_67 rfl (lv_at hl 6 rfl) ?_
    refine q_get (C := RX9) (T := TX9) (N := 17) (ci := 9) E (fun w h => List.mem_cons_of_mem _ (inX9 w h)) hw 0 rfl rfl 15 (by decide) (List.mem_cons_of_mem _ tb_1160) (v := .ref (h 15)) rfl dX9_execute_68 ?_
    refine lv_iload_n hx hb dX9_execute_71 rfl (lv_at hl 5 rfl) ?_
    refine lv_iconst (v := 5) hx hb dX9_execute_72 (by decide) ?_
    refine lv_iadd hx hb dX9_execute_73 ?_
    obtain ⟨g12, hM⟩ := g_some hM
    refine q_ald E hw 6 (n := 280) rfl g12 (x := (σ 15 (ix ((7 * x1) + 5)))) rfl dX9_execute_74 ?_
    refine lv_aload_n hx hb dX9_execute_75 rfl (lv_at hl 6 rfl) ?_
    refine q_get (C := RX9) (T := TX9) (N := 17) (ci := 9) E (fun w h => List.mem_cons_of_mem _ (inX9 w h)) hw 0 rfl rfl 15 (by decide) (List.mem_cons_of_mem _ tb_1160) (v := .ref (h 15)) rfl dX9_execute_76 ?_
    refine lv_iload_n hx hb dX9_execute_79 rfl (lv_at hl 5 rfl) ?_
    refine lv_bipush (v := 6) hx hb dX9_execute_80 (by decide) ?_
    refine lv_iadd hx hb dX9_execute_82 ?_
    obtain ⟨g13, hM⟩ := g_some hM
    refine q_ald E hw 6 (n := 280) rfl g13 (x := (σ 15 (ix ((7 * x1) + 6)))) rfl dX9_execute_83 ?_
    refine lv_iconst (v := 1) hx hb dX9_execute_84 (by decide) ?_
    refine lv_icmp_ne (tgt := 92) hx hb dX9_execute_85 (by decide) (fun c14 => ?_) (fun c14 => ?_)
    · replace hM := i_neg hM c14
      refine lv_iconst (v := 0) hx hb dX9_execute_92 (by decide) ?_
      obtain ⟨p15, h16, hM⟩ := b_some hM
      refine q_cv (As := [.int (σ 15 (ix ((7 * x1) + 1))), .int (σ 15 (ix ((7 * x1) + 2))), .int (σ 15 (ix ((7 * x1) + 3))), .int (σ 15 (ix ((7 * x1) + 4))), .int (σ 15 (ix ((7 * x1) + 5))), .int 0]) (rest := []) E hw hl (c_X9_addKind l D cA tS A h F (σ 15 (ix ((7 * x1) + 1))) (σ 15 (ix ((7 * x1) + 2))) (σ 15 (ix ((7 * x1) + 3))) (σ 15 (ix ((7 * x1) + 4))) (σ 15 (ix ((7 * x1) + 5))) 0 σ wd p15.1 p15.2 h16) 6 (bwV bw_c tb_1673 tb_1332 tb_1333 tb_111 tb_1334) rfl (by decide +kernel) ⟨Nat.le_of_ble_eq_true rfl, Nat.le_of_ble_eq_true rfl⟩ 0 9 (T := TX9) (N := 17) rfl rfl rfl rfl (Nat.le_of_ble_eq_true rfl) ⟨Nat.zero_le _, Nat.zero_le _⟩ dX9_execute_93 (fun H locs hw => ?_)
      cases hM
      exact q_reti E hw dX9_execute_96
    · replace hM := i_pos hM c14
      refine lv_iconst (v := 1) hx hb dX9_execute_88 (by decide) ?_
      refine lv_goto (tgt := 93) hx hb dX9_execute_89 (by decide) ?_
      obtain ⟨p17, h18, hM⟩ := b_some hM
      refine q_cv (As := [.int (σ 15 (ix ((7 * x1) + 1))), .int (σ 15 (ix ((7 * x1) + 2))), .int (σ 15 (ix ((7 * x1) + 3))), .int (σ 15 (ix ((7 * x1) + 4))), .int (σ 15 (ix ((7 * x1) + 5))), .int 1]) (rest := []) E hw hl (c_X9_addKind l D cA tS A h F (σ 15 (ix ((7 * x1) + 1))) (σ 15 (ix ((7 * x1) + 2))) (σ 15 (ix ((7 * x1) + 3))) (σ 15 (ix ((7 * x1) + 4))) (σ 15 (ix ((7 * x1) + 5))) 1 σ wd p17.1 p17.2 h18) 6 (bwV bw_c tb_1673 tb_1332 tb_1333 tb_111 tb_1334) rfl (by decide +kernel) ⟨Nat.le_of_ble_eq_true rfl, Nat.le_of_ble_eq_true rfl⟩ 0 9 (T := TX9) (N := 17) rfl rfl rfl rfl (Nat.le_of_ble_eq_true rfl) ⟨Nat.zero_le _, Nat.zero_le _⟩ dX9_execute_93 (fun H locs hw => ?_)
      cases hM
      exact q_reti E hw dX9_execute_96
set_option maxRecDepth 100000 in
set_option maxHeartbeats 4000000 in
theorem s_X9_runScript_67 (l : Launch) (D : va_G) (cA : Nat → ClassId) (tS : Nat → Nat) (A : Nat → Prop) (h : Nat → Nat) (F : va_W) (N : Nat) {p : Program} {e : Env} {s : State} {m : MethodId} {args : Array Value} {below : List Frame} {meth : Method} {c : Code} (E : Ev p cX9_runScript 3 (some .int) RX9 (Cond.code yX9_runScript cX9_runScript 3 (some .int) :: bw) D cA tS A s m args meth c) : ∀ (n : Nat) (x1 : Int32) (σ : Sg) (wd : Int64) (r0 : Int32) (s0 : Sg) (wd0 : Int64) (hM : f_X9_runScript_67 N n x1 σ wd = some (r0, s0, wd0)) (H : Heap) (locs : List Loc) (hw : Wd D A (wM cA h σ wd ++ F) s.heap H locs) (ls : Array Slot) (hl : lv_has ls 3 [(0, .ref (h 0)), (1, .int x1)]), W p l e ({ frames := 8, cells := 0, slots := 0, locals := 193 } : Room) s m args below meth c H locs 0 0 (MQ below (QW D A (some (.int r0)) (wM cA h s0 wd0 ++ F)) args s 0 0 A) (F0 m 67 ls []) := by
  have hx := E.1.1
  have hb := E.1.2.1
  intro n
  induction n with
  | zero =>
    intro x1 σ wd r0 s0 wd0 hM
    cases hM
  | succ n ih =>
    intro x1 σ wd r0 s0 wd0 hM H locs hw ls hl
    rw [f_X9_runScript_67] at hM
    refine lv_iload_n hx hb dX9_runScript_67 rfl (lv_at hl 1 rfl) ?_
    refine lv_aload_n hx hb dX9_runScript_68 rfl (lv_at hl 0 rfl) ?_
    refine q_get (C := RX9) (T := TX9) (N := 17) (ci := 9) E (fun w h => List.mem_cons_of_mem _ (inX9 w h)) hw 0 rfl rfl 16 (by decide) (List.mem_cons_of_mem _ tb_1161) (v := .int (σ 16 0)) rfl dX9_runScript_69 ?_
    refine lv_icmp_ge (tgt := 118) hx hb dX9_runScript_72 (by decide) (fun c1 => ?_) (fun c1 => ?_)
    · replace hM := i_pos hM c1
      refine lv_iload_n hx hb dX9_runScript_118 rfl (lv_at hl 1 rfl) ?_
      cases hM
      exact q_reti E hw dX9_runScript_119
    · replace hM := i_neg hM c1
      refine lv_aload_n hx hb dX9_runScript_75 rfl (lv_at hl 0 rfl) ?_
      refine q_get (C := RX9) (T := TX9) (N := 17) (ci := 9) E (fun w h => List.mem_cons_of_mem _ (inX9 w h)) hw 0 rfl rfl 13 (by decide) (List.mem_cons_of_mem _ tb_1158) (v := .int (σ 14 0)) rfl dX9_runScript_76 ?_
      refine lv_if_ne (tgt := 118) hx hb dX9_runScript_79 (by decide) (fun c2 => ?_) (fun c2 => ?_)
      · replace hM := i_neg hM c2
        refine lv_iload_n hx hb dX9_runScript_118 rfl (lv_at hl 1 rfl) ?_
        cases hM
        exact q_reti E hw dX9_runScript_119
      · replace hM := i_pos hM c2
        refine lv_aload_n hx hb dX9_runScript_82 rfl (lv_at hl 0 rfl) ?_
        refine lv_iload_n hx hb dX9_runScript_83 rfl (lv_at hl 1 rfl) ?_
        obtain ⟨p3, h4, hM⟩ := b_some hM
        refine q_cv (As := [.int x1]) (rest := []) E hw hl (c_X9_execute l D cA tS A h F N x1 σ wd p3.1 p3.2 h4) 1 (bwV bw_c tb_1669 tb_1671 tb_97 tb_111 tb_1672) rfl (by decide +kernel) ⟨Nat.le_of_ble_eq_true rfl, Nat.le_of_ble_eq_true rfl⟩ 0 9 (T := TX9) (N := 17) rfl rfl rfl rfl (Nat.le_of_ble_eq_true rfl) ⟨Nat.zero_le _, Nat.zero_le _⟩ dX9_runScript_84 (fun H locs hw => ?_)
        refine lv_istore_n (lv' := [(2, .int p3.1), (0, .ref (h 0)), (1, .int x1)]) hx hb dX9_runScript_87 rfl hl (by decide) rfl (fun ls hl => ?_)
        refine lv_aload_n hx hb dX9_runScript_88 rfl (lv_at hl 1 rfl) ?_
        refine lv_iload_n hx hb dX9_runScript_89 rfl (lv_at hl 0 rfl) ?_
        refine lv_iconst (v := (-1)) hx hb dX9_runScript_90 (by decide) ?_
        refine lv_icmp_ge (tgt := 98) hx hb dX9_runScript_91 (by decide) (fun c5 => ?_) (fun c5 => ?_)
        · replace hM := i_pos hM c5
          refine lv_iconst (v := 0) hx hb dX9_runScript_98 (by decide) ?_
          refine q_puti (C := RX9) (T := TX9) (N := 17) (ci := 9) E (fun w h => List.mem_cons_of_mem _ (inX9 w h)) tyX9 tyX9_ok nmX9 hw 0 rfl rfl 13 (by decide) (List.mem_cons_of_mem _ tb_1158) rfl rfl (Nat.le_of_ble_eq_true rfl) (wM cA h (up p3.2 14 0 0) wd ++ F) st_M_14 dX9_runScript_99 (fun H locs hw => ?_)
          refine lv_iload_n hx hb dX9_runScript_102 rfl (lv_at hl 2 rfl) ?_
          refine lv_iload_n hx hb dX9_runScript_103 rfl (lv_at hl 0 rfl) ?_
          refine lv_iconst (v := (-1)) hx hb dX9_runScript_104 (by decide) ?_
          refine lv_icmp_ge (tgt := 112) hx hb dX9_runScript_105 (by decide) (fun c6 => ?_) (fun c6 => ?_)
          · replace hM := i_pos hM c6
            refine lv_iconst (v := 1) hx hb dX9_runScript_112 (by decide) ?_
            refine lv_iadd hx hb dX9_runScript_113 ?_
            refine lv_istore_n (lv' := [(1, .int (x1 + 1)), (2, .int p3.1), (0, .ref (h 0))]) hx hb dX9_runScript_114 rfl hl (by decide) rfl (fun ls hl => ?_)
            refine lv_goto (tgt := 67) hx hb dX9_runScript_115 (by decide) ?_
            exact ih _ _ _ _ _ _ hM _ _ hw _ (lv_sub hl [2, 0] rfl)
          · replace hM := i_neg hM c6
            refine lv_iconst (v := 0) hx hb dX9_runScript_108 (by decide) ?_
            refine lv_goto (tgt := 113) hx hb dX9_runScript_109 (by decide) ?_
            refine lv_iadd hx hb dX9_runScript_113 ?_
            refine lv_istore_n (lv' := [(1, .int (x1 + 0)), (2, .int p3.1), (0, .ref (h 0))]) hx hb dX9_runScript_114 rfl hl (by decide) rfl (fun ls hl => ?_)
            refine lv_goto (tgt := 67) hx hb dX9_runScript_115 (by decide) ?_
            exact ih _ _ _ _ _ _ hM _ _ hw _ (lv_sub hl [2, 0] rfl)
        · replace hM := i_neg hM c5
          refine lv_iload_n hx hb dX9_runScript_94 rfl (lv_at hl 0 rfl) ?_
          refine lv_goto (tgt := 99) hx hb dX9_runScript_95 (by decide) ?_
          refine q_puti (C := RX9) (T := TX9) (N := 17) (ci := 9) E (fun w h => List.mem_cons_of_mem _ (inX9 w h)) tyX9 tyX9_ok nmX9 hw 0 rfl rfl 13 (by decide) (List.mem_cons_of_mem _ tb_1158) rfl rfl (Nat.le_of_ble_eq_true rfl) (wM cA h (up p3.2 14 0 p3.1) wd ++ F) st_M_14 dX9_runScript_99 (fun H locs hw => ?_)
          refine lv_iload_n hx hb dX9_runScript_102 rfl (lv_at hl 2 rfl) ?_
          refine lv_iload_n hx hb dX9_runScript_103 rfl (lv_at hl 0 rfl) ?_
          refine lv_iconst (v := (-1)) hx hb dX9_runScript_104 (by decide) ?_
          refine lv_icmp_ge (tgt := 112) hx hb dX9_runScript_105 (by decide) (fun c7 => ?_) (fun c7 => ?_)
          · replace hM := i_pos hM c7
            refine lv_iconst (v := 1) hx hb dX9_runScript_112 (by decide) ?_
            refine lv_iadd hx hb dX9_runScript_113 ?_
            refine lv_istore_n (lv' := [(1, .int (x1 + 1)), (2, .int p3.1), (0, .ref (h 0))]) hx hb dX9_runScript_114 rfl hl (by decide) rfl (fun ls hl => ?_)
            refine lv_goto (tgt := 67) hx hb dX9_runScript_115 (by decide) ?_
            exact ih _ _ _ _ _ _ hM _ _ hw _ (lv_sub hl [2, 0] rfl)
          · replace hM := i_neg hM c7
            refine lv_iconst (v := 0) hx hb dX9_runScript_108 (by decide) ?_
            refine lv_goto (tgt := 113) hx hb dX9_runScript_109 (by decide) ?_
            refine lv_iadd hx hb dX9_runScript_113 ?_
            refine lv_istore_n (lv' := [(1, .int (x1 + 0)), (2, .int p3.1), (0, .ref (h 0))]) hx hb dX9_runScript_114 rfl hl (by decide) rfl (fun ls hl => ?_)
            refine lv_goto (tgt := 67) hx hb dX9_runScript_115 (by decide) ?_
            exact ih _ _ _ _ _ _ hM _ _ hw _ (lv_sub hl [2, 0] rfl)
set_option maxRecDepth 100000 in
set_option maxHeartbeats 4000000 in
theorem s_X9_runScript_29 (l : Launch) (D : va_G) (cA : Nat → ClassId) (tS : Nat → Nat) (A : Nat → Prop) (h : Nat → Nat) (F : va_W) (N : Nat) {p : Program} {e : Env} {s : State} {m : MethodId} {args : Array Value} {below : List Frame} {meth : Method} {c : Code} (E : Ev p cX9_runScript 3 (some .int) RX9 (Cond.code yX9_runScript cX9_runScript 3 (some .int) :: bw) D cA tS A s m args meth c) : ∀ (n : Nat) (σ : Sg) (wd : Int64) (r0 : Int32) (s0 : Sg) (wd0 : Int64) (hM : f_X9_runScript_29 N n σ wd = some (r0, s0, wd0)) (H : Heap) (locs : List Loc) (hw : Wd D A (wM cA h σ wd ++ F) s.heap H locs) (ls : Array Slot) (hl : lv_has ls 3 [(0, .ref (h 0))]), W p l e ({ frames := 8, cells := 0, slots := 0, locals := 193 } : Room) s m args below meth c H locs 0 0 (MQ below (QW D A (some (.int r0)) (wM cA h s0 wd0 ++ F)) args s 0 0 A) (F0 m 29 ls []) := by
  have hx := E.1.1
  have hb := E.1.2.1
  intro n
  induction n with
  | zero =>
    intro σ wd r0 s0 wd0 hM
    cases hM
  | succ n ih =>
    intro σ wd r0 s0 wd0 hM H locs hw ls hl
    rw [f_X9_runScript_29] at hM
    refine lv_aload_n hx hb dX9_runScript_29 rfl (lv_at hl 0 rfl) ?_
    refine q_get (C := RX9) (T := TX9) (N := 17) (ci := 9) E (fun w h => List.mem_cons_of_mem _ (inX9 w h)) hw 0 rfl rfl 11 (by decide) (List.mem_cons_of_mem _ tb_1156) (v := .int (σ 12 0)) rfl dX9_runScript_30 ?_
    refine lv_if_ne (tgt := 50) hx hb dX9_runScript_33 (by decide) (fun c1 => ?_) (fun c1 => ?_)
    · replace hM := i_neg hM c1
      refine lv_aload_n hx hb dX9_runScript_50 rfl (lv_at hl 0 rfl) ?_
      refine lv_iconst (v := 0) hx hb dX9_runScript_51 (by decide) ?_
      refine q_puti (C := RX9) (T := TX9) (N := 17) (ci := 9) E (fun w h => List.mem_cons_of_mem _ (inX9 w h)) tyX9 tyX9_ok nmX9 hw 0 rfl rfl 5 (by decide) (List.mem_cons_of_mem _ tb_1150) rfl rfl (Nat.le_of_ble_eq_true rfl) (wM cA h (up σ 6 0 0) wd ++ F) st_M_6 dX9_runScript_52 (fun H locs hw => ?_)
      refine lv_aload_n hx hb dX9_runScript_55 rfl (lv_at hl 0 rfl) ?_
      refine q_get (C := RX9) (T := TX9) (N := 17) (ci := 9) E (fun w h => List.mem_cons_of_mem _ (inX9 w h)) hw 0 rfl rfl 11 (by decide) (List.mem_cons_of_mem _ tb_1156) (v := .int (σ 12 0)) (q_fld (congrFun (up_ne σ 6 0 0 12 (by decide)) 0) rfl) dX9_runScript_56 ?_
      refine lv_if_eq (tgt := 65) hx hb dX9_runScript_59 (by decide) (fun c2 => ?_) (fun c2 => ?_)
      · replace hM := i_pos hM c2
        refine lv_iconst (v := 0) hx hb dX9_runScript_65 (by decide) ?_
        refine lv_istore_n (lv' := [(1, .int 0), (0, .ref (h 0))]) hx hb dX9_runScript_66 rfl hl (by decide) rfl (fun ls hl => ?_)
        exact s_X9_runScript_67 l D cA tS A h F N E N _ _ _ _ _ _ hM _ _ hw _ (lv_sub hl [1, 0] rfl)
      · replace hM := i_neg hM c2
        refine lv_bipush (v := (-7)) hx hb dX9_runScript_62 (by decide) ?_
        cases hM
        exact q_reti E hw dX9_runScript_64
    · replace hM := i_pos hM c1
      refine lv_aload_n hx hb dX9_runScript_36 rfl (lv_at hl 0 rfl) ?_
      refine q_get (C := RX9) (T := TX9) (N := 17) (ci := 9) E (fun w h => List.mem_cons_of_mem _ (inX9 w h)) hw 0 rfl rfl 8 (by decide) (List.mem_cons_of_mem _ tb_1153) (v := .int (σ 9 0)) rfl dX9_runScript_37 ?_
      refine lv_if_eq (tgt := 50) hx hb dX9_runScript_40 (by decide) (fun c3 => ?_) (fun c3 => ?_)
      · replace hM := i_pos hM c3
        refine lv_aload_n hx hb dX9_runScript_50 rfl (lv_at hl 0 rfl) ?_
        refine lv_iconst (v := 0) hx hb dX9_runScript_51 (by decide) ?_
        refine q_puti (C := RX9) (T := TX9) (N := 17) (ci := 9) E (fun w h => List.mem_cons_of_mem _ (inX9 w h)) tyX9 tyX9_ok nmX9 hw 0 rfl rfl 5 (by decide) (List.mem_cons_of_mem _ tb_1150) rfl rfl (Nat.le_of_ble_eq_true rfl) (wM cA h (up σ 6 0 0) wd ++ F) st_M_6 dX9_runScript_52 (fun H locs hw => ?_)
        refine lv_aload_n hx hb dX9_runScript_55 rfl (lv_at hl 0 rfl) ?_
        refine q_get (C := RX9) (T := TX9) (N := 17) (ci := 9) E (fun w h => List.mem_cons_of_mem _ (inX9 w h)) hw 0 rfl rfl 11 (by decide) (List.mem_cons_of_mem _ tb_1156) (v := .int (σ 12 0)) (q_fld (congrFun (up_ne σ 6 0 0 12 (by decide)) 0) rfl) dX9_runScript_56 ?_
        refine lv_if_eq (tgt := 65) hx hb dX9_runScript_59 (by decide) (fun c4 => ?_) (fun c4 => ?_)
        · replace hM := i_pos hM c4
          refine lv_iconst (v := 0) hx hb dX9_runScript_65 (by decide) ?_
          refine lv_istore_n (lv' := [(1, .int 0), (0, .ref (h 0))]) hx hb dX9_runScript_66 rfl hl (by decide) rfl (fun ls hl => ?_)
          exact s_X9_runScript_67 l D cA tS A h F N E N _ _ _ _ _ _ hM _ _ hw _ (lv_sub hl [1, 0] rfl)
        · replace hM := i_neg hM c4
          refine lv_bipush (v := (-7)) hx hb dX9_runScript_62 (by decide) ?_
          cases hM
          exact q_reti E hw dX9_runScript_64
      · replace hM := i_neg hM c3
        refine lv_aload_n hx hb dX9_runScript_43 rfl (lv_at hl 0 rfl) ?_
        obtain ⟨p5, h6, hM⟩ := b_some hM
        refine q_cvv (As := []) (rest := []) E hw hl (c_X9_parseStatement l D cA tS A h F N σ wd p5.1 p5.2 h6) 0 (bwV bw_c tb_1626 tb_1628 tb_91 tb_111 tb_1629) rfl (by decide +kernel) ⟨Nat.le_of_ble_eq_true rfl, Nat.le_of_ble_eq_true rfl⟩ 0 9 (T := TX9) (N := 17) rfl rfl rfl rfl (Nat.le_of_ble_eq_true rfl) ⟨Nat.zero_le _, Nat.zero_le _⟩ dX9_runScript_44 (fun H locs hw => ?_)
        refine lv_goto (tgt := 29) hx hb dX9_runScript_47 (by decide) ?_
        exact ih _ _ _ _ _ hM _ _ hw _ (lv_sub hl [0] rfl)
set_option maxRecDepth 100000 in
set_option maxHeartbeats 4000000 in
theorem c_X9_runScript (l : Launch) (D : va_G) (cA : Nat → ClassId) (tS : Nat → Nat) (A : Nat → Prop) (h : Nat → Nat) (F : va_W) (N : Nat) (σ : Sg) (wd : Int64) (r0 : Int32) (s0 : Sg) (wd0 : Int64) (hM : f_X9_runScript N σ wd = some (r0, s0, wd0)) : Ct l yX9_runScript (Cond.code yX9_runScript cX9_runScript 3 (some .int) :: bw) 8 193 D cA tS A [.ref (h 0)] (wM cA h σ wd ++ F) (some (.int r0)) (wM cA h s0 wd0 ++ F) := by
  refine ct_of (by decide +kernel) (Nat.le_of_ble_eq_true rfl) ?_
  intro p e s m below meth c E hw ls hl
  replace E : Ev p cX9_runScript 3 (some .int) RX9 (Cond.code yX9_runScript cX9_runScript 3 (some .int) :: bw) D cA tS A s m _ meth c := E
  replace hl : lv_has ls 3 [(0, .ref (h 0))] := hl
  have hx := E.1.1
  have hb := E.1.2.1
  unfold f_X9_runScript at hM
  refine lv_aload_n hx hb dX9_runScript_0 rfl (lv_at hl 0 rfl) ?_
  refine lv_iconst (v := 0) hx hb dX9_runScript_1 (by decide) ?_
  refine q_puti (C := RX9) (T := TX9) (N := 17) (ci := 9) E (fun w h => List.mem_cons_of_mem _ (inX9 w h)) tyX9 tyX9_ok nmX9 hw 0 rfl rfl 11 (by decide) (List.mem_cons_of_mem _ tb_1156) rfl rfl (Nat.le_of_ble_eq_true rfl) (wM cA h (up σ 12 0 0) wd ++ F) st_M_12 dX9_runScript_2 (fun H locs hw => ?_)
  refine lv_aload_n hx hb dX9_runScript_5 rfl (lv_at hl 0 rfl) ?_
  refine lv_iconst (v := (-1)) hx hb dX9_runScript_6 (by decide) ?_
  refine q_puti (C := RX9) (T := TX9) (N := 17) (ci := 9) E (fun w h => List.mem_cons_of_mem _ (inX9 w h)) tyX9 tyX9_ok nmX9 hw 0 rfl rfl 12 (by decide) (List.mem_cons_of_mem _ tb_1157) rfl rfl (Nat.le_of_ble_eq_true rfl) (wM cA h (up (up σ 12 0 0) 13 0 (-1)) wd ++ F) st_M_13 dX9_runScript_7 (fun H locs hw => ?_)
  refine lv_aload_n hx hb dX9_runScript_10 rfl (lv_at hl 0 rfl) ?_
  refine lv_iconst (v := 0) hx hb dX9_runScript_11 (by decide) ?_
  refine q_puti (C := RX9) (T := TX9) (N := 17) (ci := 9) E (fun w h => List.mem_cons_of_mem _ (inX9 w h)) tyX9 tyX9_ok nmX9 hw 0 rfl rfl 13 (by decide) (List.mem_cons_of_mem _ tb_1158) rfl rfl (Nat.le_of_ble_eq_true rfl) (wM cA h (up (up (up σ 12 0 0) 13 0 (-1)) 14 0 0) wd ++ F) st_M_14 dX9_runScript_12 (fun H locs hw => ?_)
  refine lv_aload_n hx hb dX9_runScript_15 rfl (lv_at hl 0 rfl) ?_
  refine lv_iconst (v := 0) hx hb dX9_runScript_16 (by decide) ?_
  refine q_puti (C := RX9) (T := TX9) (N := 17) (ci := 9) E (fun w h => List.mem_cons_of_mem _ (inX9 w h)) tyX9 tyX9_ok nmX9 hw 0 rfl rfl 16 (by decide) (List.mem_cons_of_mem _ tb_1161) rfl rfl (Nat.le_of_ble_eq_true rfl) (wM cA h (up (up (up (up σ 12 0 0) 13 0 (-1)) 14 0 0) 16 0 0) wd ++ F) st_M_16 dX9_runScript_17 (fun H locs hw => ?_)
  refine lv_aload_n hx hb dX9_runScript_20 rfl (lv_at hl 0 rfl) ?_
  refine lv_iconst (v := 0) hx hb dX9_runScript_21 (by decide) ?_
  refine q_puti (C := RX9) (T := TX9) (N := 17) (ci := 9) E (fun w h => List.mem_cons_of_mem _ (inX9 w h)) tyX9 tyX9_ok nmX9 hw 0 rfl rfl 6 (by decide) (List.mem_cons_of_mem _ tb_1151) rfl rfl (Nat.le_of_ble_eq_true rfl) (wM cA h (up (up (up (up (up σ 12 0 0) 13 0 (-1)) 14 0 0) 16 0 0) 7 0 0) wd ++ F) st_M_7 dX9_runScript_22 (fun H locs hw => ?_)
  refine lv_aload_n hx hb dX9_runScript_25 rfl (lv_at hl 0 rfl) ?_
  obtain ⟨p1, h2, hM⟩ := b_some hM
  refine q_cvv (As := []) (rest := []) E hw hl (c_X9_nextToken l D cA tS A h F N (up (up (up (up (up σ 12 0 0) 13 0 (-1)) 14 0 0) 16 0 0) 7 0 0) wd p1.1 p1.2 h2) 0 (bwV bw_c tb_1609 tb_1611 tb_89 tb_111 tb_1612) rfl (by decide +kernel) ⟨Nat.le_of_ble_eq_true rfl, Nat.le_of_ble_eq_true rfl⟩ 0 9 (T := TX9) (N := 17) rfl rfl rfl rfl (Nat.le_of_ble_eq_true rfl) ⟨Nat.zero_le _, Nat.zero_le _⟩ dX9_runScript_26 (fun H locs hw => ?_)
  exact s_X9_runScript_29 l D cA tS A h F N E N _ _ _ _ _ hM _ _ hw _ (lv_sub hl [0] rfl)
set_option maxRecDepth 100000 in
set_option maxHeartbeats 4000000 in
theorem c_X9_errorCode (l : Launch) (D : va_G) (cA : Nat → ClassId) (tS : Nat → Nat) (A : Nat → Prop) (h : Nat → Nat) (F : va_W) (σ : Sg) (wd : Int64) (r0 : Int32) (hM : f_X9_errorCode σ wd = some r0) : Ct l yX9_errorCode (Cond.code yX9_errorCode cX9_errorCode 1 (some .int) :: bw) 0 0 D cA tS A [.ref (h 0)] (wM cA h σ wd ++ F) (some (.int r0)) (wM cA h σ wd ++ F) := by
  refine ct_of (by decide +kernel) (Nat.le_of_ble_eq_true rfl) ?_
  intro p e s m below meth c E hw ls hl
  replace E : Ev p cX9_errorCode 1 (some .int) RX9 (Cond.code yX9_errorCode cX9_errorCode 1 (some .int) :: bw) D cA tS A s m _ meth c := E
  replace hl : lv_has ls 1 [(0, .ref (h 0))] := hl
  have hx := E.1.1
  have hb := E.1.2.1
  unfold f_X9_errorCode at hM
  refine lv_aload_n hx hb dX9_errorCode_0 rfl (lv_at hl 0 rfl) ?_
  refine q_get (C := RX9) (T := TX9) (N := 17) (ci := 9) E (fun w h => List.mem_cons_of_mem _ (inX9 w h)) hw 0 rfl rfl 11 (by decide) (List.mem_cons_of_mem _ tb_1156) (v := .int (σ 12 0)) rfl dX9_errorCode_1 ?_
  cases hM
  exact q_reti E hw dX9_errorCode_4
set_option maxRecDepth 100000 in
set_option maxHeartbeats 4000000 in
theorem c_X9_errorPosition (l : Launch) (D : va_G) (cA : Nat → ClassId) (tS : Nat → Nat) (A : Nat → Prop) (h : Nat → Nat) (F : va_W) (σ : Sg) (wd : Int64) (r0 : Int32) (hM : f_X9_errorPosition σ wd = some r0) : Ct l yX9_errorPosition (Cond.code yX9_errorPosition cX9_errorPosition 1 (some .int) :: bw) 0 0 D cA tS A [.ref (h 0)] (wM cA h σ wd ++ F) (some (.int r0)) (wM cA h σ wd ++ F) := by
  refine ct_of (by decide +kernel) (Nat.le_of_ble_eq_true rfl) ?_
  intro p e s m below meth c E hw ls hl
  replace E : Ev p cX9_errorPosition 1 (some .int) RX9 (Cond.code yX9_errorPosition cX9_errorPosition 1 (some .int) :: bw) D cA tS A s m _ meth c := E
  replace hl : lv_has ls 1 [(0, .ref (h 0))] := hl
  have hx := E.1.1
  have hb := E.1.2.1
  unfold f_X9_errorPosition at hM
  refine lv_aload_n hx hb dX9_errorPosition_0 rfl (lv_at hl 0 rfl) ?_
  refine q_get (C := RX9) (T := TX9) (N := 17) (ci := 9) E (fun w h => List.mem_cons_of_mem _ (inX9 w h)) hw 0 rfl rfl 12 (by decide) (List.mem_cons_of_mem _ tb_1157) (v := .int (σ 13 0)) rfl dX9_errorPosition_1 ?_
  cases hM
  exact q_reti E hw dX9_errorPosition_4
set_option maxRecDepth 100000 in
set_option maxHeartbeats 4000000 in
theorem c_X9_scriptFailure (l : Launch) (D : va_G) (cA : Nat → ClassId) (tS : Nat → Nat) (A : Nat → Prop) (h : Nat → Nat) (F : va_W) (σ : Sg) (wd : Int64) (r0 : Int32) (hM : f_X9_scriptFailure σ wd = some r0) : Ct l yX9_scriptFailure (Cond.code yX9_scriptFailure cX9_scriptFailure 1 (some .int) :: bw) 0 0 D cA tS A [.ref (h 0)] (wM cA h σ wd ++ F) (some (.int r0)) (wM cA h σ wd ++ F) := by
  refine ct_of (by decide +kernel) (Nat.le_of_ble_eq_true rfl) ?_
  intro p e s m below meth c E hw ls hl
  replace E : Ev p cX9_scriptFailure 1 (some .int) RX9 (Cond.code yX9_scriptFailure cX9_scriptFailure 1 (some .int) :: bw) D cA tS A s m _ meth c := E
  replace hl : lv_has ls 1 [(0, .ref (h 0))] := hl
  have hx := E.1.1
  have hb := E.1.2.1
  unfold f_X9_scriptFailure at hM
  refine lv_aload_n hx hb dX9_scriptFailure_0 rfl (lv_at hl 0 rfl) ?_
  refine q_get (C := RX9) (T := TX9) (N := 17) (ci := 9) E (fun w h => List.mem_cons_of_mem _ (inX9 w h)) hw 0 rfl rfl 13 (by decide) (List.mem_cons_of_mem _ tb_1158) (v := .int (σ 14 0)) rfl dX9_scriptFailure_1 ?_
  cases hM
  exact q_reti E hw dX9_scriptFailure_4
set_option maxRecDepth 100000 in
set_option maxHeartbeats 4000000 in
theorem c_X9_save (l : Launch) (D : va_G) (cA : Nat → ClassId) (tS : Nat → Nat) (A : Nat → Prop) (h : Nat → Nat) (F : va_W) (N : Nat) (x1 : Int32) (σ : Sg) (wd : Int64) (r0 : Int32) (s0 : Sg) (hM : f_X9_save N x1 σ wd = some (r0, s0)) : Ct l yX9_save (Cond.code yX9_save cX9_save 2 (some .boolean) :: bw) 1 25 D cA tS A [.ref (h 0), .int x1] (wM cA h σ wd ++ F) (some (.int r0)) (wM cA h s0 wd ++ F) := by
  refine ct_of (by decide +kernel) (Nat.le_of_ble_eq_true rfl) ?_
  intro p e s m below meth c E hw ls hl
  replace E : Ev p cX9_save 2 (some .boolean) RX9 (Cond.code yX9_save cX9_save 2 (some .boolean) :: bw) D cA tS A s m _ meth c := E
  replace hl : lv_has ls 2 [(0, .ref (h 0)), (1, .int x1)] := hl
  have hx := E.1.1
  have hb := E.1.2.1
  unfold f_X9_save at hM
  refine lv_iload_n hx hb dX9_save_0 rfl (lv_at hl 1 rfl) ?_
  refine lv_iconst (v := 0) hx hb dX9_save_1 (by decide) ?_
  refine lv_iconst (v := 1) hx hb dX9_save_2 (by decide) ?_
  obtain ⟨p1, h2, hM⟩ := b_some hM
  refine q_cs (As := [.int x1, .int 0, .int 1]) (rest := []) E hw hl (c_X9_isBetween l D cA tS A (wM cA h σ wd ++ F) x1 0 1 p1 h2) 3 (bwS bw_c tb_1212 tb_1213 tb_111 tb_1214) rfl (by decide +kernel) ⟨Nat.le_of_ble_eq_true rfl, Nat.le_of_ble_eq_true rfl⟩ rfl rfl (Nat.le_of_ble_eq_true rfl) ⟨Nat.zero_le _, Nat.zero_le _⟩ dX9_save_3 (fun H locs hw => ?_)
  refine lv_if_ne (tgt := 11) hx hb dX9_save_6 (by decide) (fun c3 => ?_) (fun c3 => ?_)
  · replace hM := i_neg hM c3
    refine lv_aload_n hx hb dX9_save_11 rfl (lv_at hl 0 rfl) ?_
    refine lv_aload_n hx hb dX9_save_12 rfl (lv_at hl 0 rfl) ?_
    refine q_get (C := RX9) (T := TX9) (N := 17) (ci := 9) E (fun w h => List.mem_cons_of_mem _ (inX9 w h)) hw 0 rfl rfl 0 (by decide) (List.mem_cons_of_mem _ tb_1145) (v := .ref (h 1)) rfl dX9_save_13 ?_
    refine lv_iconst (v := 0) hx hb dX9_save_16 (by decide) ?_
    refine lv_aload_n hx hb dX9_save_17 rfl (lv_at hl 0 rfl) ?_
    refine q_get (C := RX9) (T := TX9) (N := 17) (ci := 9) E (fun w h => List.mem_cons_of_mem _ (inX9 w h)) hw 0 rfl rfl 2 (by decide) (List.mem_cons_of_mem _ tb_1147) (v := .ref (h 3)) rfl dX9_save_18 ?_
    refine lv_sipush (v := 4619) hx hb dX9_save_21 (by decide) ?_
    refine lv_iload_n hx hb dX9_save_24 rfl (lv_at hl 1 rfl) ?_
    refine lv_imul hx hb dX9_save_25 ?_
    obtain ⟨p4, h5, hM⟩ := b_some hM
    refine q_cvv (As := [.ref (h 1), .int 0, .ref (h 3), .int (4619 * x1)]) (rest := []) E hw hl (c_X9_copyState_state_saved l D cA tS A h F N 0 (4619 * x1) σ wd p4 h5) 4 (bwV bw_c tb_1545 tb_1547 tb_85 tb_111 tb_1548) rfl (by decide +kernel) ⟨Nat.le_of_ble_eq_true rfl, Nat.le_of_ble_eq_true rfl⟩ 0 9 (T := TX9) (N := 17) rfl rfl rfl rfl (Nat.le_of_ble_eq_true rfl) ⟨Nat.zero_le _, Nat.zero_le _⟩ dX9_save_26 (fun H locs hw => ?_)
    refine lv_aload_n hx hb dX9_save_29 rfl (lv_at hl 0 rfl) ?_
    refine q_get (C := RX9) (T := TX9) (N := 17) (ci := 9) E (fun w h => List.mem_cons_of_mem _ (inX9 w h)) hw 0 rfl rfl 3 (by decide) (List.mem_cons_of_mem _ tb_1148) (v := .ref (h 4)) rfl dX9_save_30 ?_
    refine lv_iload_n hx hb dX9_save_33 rfl (lv_at hl 1 rfl) ?_
    refine lv_iconst (v := 1) hx hb dX9_save_34 (by decide) ?_
    obtain ⟨g6, hM⟩ := g_some hM
    refine q_zst E hw 4 (n := 2) rfl g6 (wM cA h (up p4 4 (ix x1) (vp_nar .boolean 1)) wd ++ F) st_M_4 dX9_save_35 (fun H locs hw => ?_)
    refine lv_iconst (v := 1) hx hb dX9_save_36 (by decide) ?_
    cases hM
    exact q_retz E hw (by decide) dX9_save_37
  · replace hM := i_pos hM c3
    refine lv_iconst (v := 0) hx hb dX9_save_9 (by decide) ?_
    cases hM
    exact q_retz E hw (by decide) dX9_save_10
set_option maxRecDepth 100000 in
set_option maxHeartbeats 4000000 in
theorem c_X9_restore (l : Launch) (D : va_G) (cA : Nat → ClassId) (tS : Nat → Nat) (A : Nat → Prop) (h : Nat → Nat) (F : va_W) (N : Nat) (x1 : Int32) (σ : Sg) (wd : Int64) (r0 : Int32) (s0 : Sg) (hM : f_X9_restore N x1 σ wd = some (r0, s0)) : Ct l yX9_restore (Cond.code yX9_restore cX9_restore 2 (some .boolean) :: bw) 1 25 D cA tS A [.ref (h 0), .int x1] (wM cA h σ wd ++ F) (some (.int r0)) (wM cA h s0 wd ++ F) := by
  refine ct_of (by decide +kernel) (Nat.le_of_ble_eq_true rfl) ?_
  intro p e s m below meth c E hw ls hl
  replace E : Ev p cX9_restore 2 (some .boolean) RX9 (Cond.code yX9_restore cX9_restore 2 (some .boolean) :: bw) D cA tS A s m _ meth c := E
  replace hl : lv_has ls 2 [(0, .ref (h 0)), (1, .int x1)] := hl
  have hx := E.1.1
  have hb := E.1.2.1
  unfold f_X9_restore at hM
  refine lv_iload_n hx hb dX9_restore_0 rfl (lv_at hl 1 rfl) ?_
  refine lv_iconst (v := 0) hx hb dX9_restore_1 (by decide) ?_
  refine lv_iconst (v := 1) hx hb dX9_restore_2 (by decide) ?_
  obtain ⟨p1, h2, hM⟩ := b_some hM
  refine q_cs (As := [.int x1, .int 0, .int 1]) (rest := []) E hw hl (c_X9_isBetween l D cA tS A (wM cA h σ wd ++ F) x1 0 1 p1 h2) 3 (bwS bw_c tb_1212 tb_1213 tb_111 tb_1214) rfl (by decide +kernel) ⟨Nat.le_of_ble_eq_true rfl, Nat.le_of_ble_eq_true rfl⟩ rfl rfl (Nat.le_of_ble_eq_true rfl) ⟨Nat.zero_le _, Nat.zero_le _⟩ dX9_restore_3 (fun H locs hw => ?_)
  refine lv_if_eq (tgt := 18) hx hb dX9_restore_6 (by decide) (fun c3 => ?_) (fun c3 => ?_)
  · replace hM := i_pos hM c3
    refine lv_iconst (v := 0) hx hb dX9_restore_18 (by decide) ?_
    cases hM
    exact q_retz E hw (by decide) dX9_restore_19
  · replace hM := i_neg hM c3
    refine lv_aload_n hx hb dX9_restore_9 rfl (lv_at hl 0 rfl) ?_
    refine q_get (C := RX9) (T := TX9) (N := 17) (ci := 9) E (fun w h => List.mem_cons_of_mem _ (inX9 w h)) hw 0 rfl rfl 3 (by decide) (List.mem_cons_of_mem _ tb_1148) (v := .ref (h 4)) rfl dX9_restore_10 ?_
    refine lv_iload_n hx hb dX9_restore_13 rfl (lv_at hl 1 rfl) ?_
    obtain ⟨g4, hM⟩ := g_some hM
    refine q_zld E hw 4 (n := 2) rfl g4 (x := (σ 4 (ix x1))) rfl dX9_restore_14 ?_
    refine lv_if_ne (tgt := 20) hx hb dX9_restore_15 (by decide) (fun c5 => ?_) (fun c5 => ?_)
    · replace hM := i_neg hM c5
      refine lv_aload_n hx hb dX9_restore_20 rfl (lv_at hl 0 rfl) ?_
      refine lv_aload_n hx hb dX9_restore_21 rfl (lv_at hl 0 rfl) ?_
      refine q_get (C := RX9) (T := TX9) (N := 17) (ci := 9) E (fun w h => List.mem_cons_of_mem _ (inX9 w h)) hw 0 rfl rfl 2 (by decide) (List.mem_cons_of_mem _ tb_1147) (v := .ref (h 3)) rfl dX9_restore_22 ?_
      refine lv_sipush (v := 4619) hx hb dX9_restore_25 (by decide) ?_
      refine lv_iload_n hx hb dX9_restore_28 rfl (lv_at hl 1 rfl) ?_
      refine lv_imul hx hb dX9_restore_29 ?_
      refine lv_aload_n hx hb dX9_restore_30 rfl (lv_at hl 0 rfl) ?_
      refine q_get (C := RX9) (T := TX9) (N := 17) (ci := 9) E (fun w h => List.mem_cons_of_mem _ (inX9 w h)) hw 0 rfl rfl 0 (by decide) (List.mem_cons_of_mem _ tb_1145) (v := .ref (h 1)) rfl dX9_restore_31 ?_
      refine lv_iconst (v := 0) hx hb dX9_restore_34 (by decide) ?_
      obtain ⟨p6, h7, hM⟩ := b_some hM
      refine q_cvv (As := [.ref (h 3), .int (4619 * x1), .ref (h 1), .int 0]) (rest := []) E hw hl (c_X9_copyState_saved_state l D cA tS A h F N (4619 * x1) 0 σ wd p6 h7) 4 (bwV bw_c tb_1545 tb_1547 tb_85 tb_111 tb_1548) rfl (by decide +kernel) ⟨Nat.le_of_ble_eq_true rfl, Nat.le_of_ble_eq_true rfl⟩ 0 9 (T := TX9) (N := 17) rfl rfl rfl rfl (Nat.le_of_ble_eq_true rfl) ⟨Nat.zero_le _, Nat.zero_le _⟩ dX9_restore_35 (fun H locs hw => ?_)
      refine lv_iconst (v := 1) hx hb dX9_restore_38 (by decide) ?_
      cases hM
      exact q_retz E hw (by decide) dX9_restore_39
    · replace hM := i_pos hM c5
      refine lv_iconst (v := 0) hx hb dX9_restore_18 (by decide) ?_
      cases hM
      exact q_retz E hw (by decide) dX9_restore_19
