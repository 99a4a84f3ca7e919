/-! the constructors of Script, of the reference, of HelpDesk -/
def kZ : Sg := up zS 6 0 (-1)
theorem pm7 {α : Type} (a b c d e f r : List α) : (a ++ (b ++ (c ++ (d ++ (e ++ (f ++ r)))))).Perm (e ++ (f ++ (c ++ (a ++ (b ++ (d ++ r)))))) := by
  have e1 : a ++ (b ++ (c ++ (d ++ (e ++ (f ++ r))))) = (a ++ (b ++ (c ++ d))) ++ ((e ++ f) ++ r) := by simp only [List.append_assoc]
  have e2 : e ++ (f ++ (c ++ (a ++ (b ++ (d ++ r))))) = (e ++ f) ++ ((c ++ (a ++ b)) ++ (d ++ r)) := by simp only [List.append_assoc]
  have e3 : (a ++ (b ++ (c ++ d))) ++ r = ((a ++ b) ++ c) ++ (d ++ r) := by simp only [List.append_assoc]
  rw [e1, e2]
  refine (pmS _ _ _).trans (List.Perm.append_left (e ++ f) ?_)
  rw [e3]
  exact List.Perm.append_right (d ++ r) List.perm_append_comm
theorem wR_ex {cA : Nat → ClassId} {z z' : Nat → Nat} {κ κ' : Sg} (h : ∀ i, z' (100 + i) = z (100 + i)) (hk : κ' 65 = κ 65) : wR cA z' κ' = wR cA z κ := by
  unfold wR
  rw [hk]
  simp only [h]
theorem c_X5_init (l : Launch) (D : va_G) (cA : Nat → ClassId) (tS : Nat → Nat) (A : Nat → Prop) (h0 : Nat) (F : va_W) : CX l yX5_init (Cond.code yX5_init cX5_init 1 none :: bw) 1 44 (720) 12 D cA tS A [.ref h0] ((h0, .inr (5, [.null, .int 0, .null, .null, .null, .int 0, .int 0, .int 0, .int 0, .int 0, .int 0, .int 0, .int 0])) :: F) none (fun w0 => ∃ z : Nat → Nat, z 60 = h0 ∧ w0 = wSc cA z kZ ++ (wR cA z kZ ++ F)) := by
  refine cx_of (by decide +kernel) (Nat.le_of_ble_eq_true rfl) ?_
  intro p e s m below meth c E hKA hnm hw ls hl
  replace E : Ev p cX5_init 1 none RX5 (Cond.code yX5_init cX5_init 1 none :: bw) D cA tS A s m _ meth c := E
  replace hl : lv_has ls 1 [(0, .ref h0)] := hl
  have hx := E.1.1
  have hb := E.1.2.1
  refine lv_aload_n hx hb dX5_init_0 rfl (lv_at hl 0 rfl) ?_
  refine q_obj E hl (List.mem_cons_of_mem _ tb_337) (List.mem_cons_of_mem _ tb_72) (List.mem_cons_of_mem _ tb_73) (Nat.le_of_ble_eq_true rfl) (Nat.le_of_ble_eq_true rfl) dX5_init_1 ?_
  refine lv_aload_n hx hb dX5_init_4 rfl (lv_at hl 0 rfl) ?_
  refine lv_sipush (v := 400) hx hb dX5_init_5 (by decide) ?_
  refine q_newa (atype := .byte) (ty := .byte) 2 E hw rfl rfl (fun _ _ h => h) (List.mem_cons_of_mem _ tb_372) (N' := 400) (fun _ => rfl) (by decide) (by decide) (by decide) (Nat.le_of_ble_eq_true rfl) (Nat.le_of_ble_eq_true rfl) dX5_init_8 (fun q1 H hw => ?_)
  refine q_putF (C := RX5) (T := TX5) (N := 13) (ci := 5) E hnm (fun w h => List.mem_cons_of_mem _ (inX5 w h)) tyX5 tyX5_ok nmX5 hw 1 rfl rfl 0 (by decide) (List.mem_cons_of_mem _ tb_340) rfl rfl rfl rfl (Nat.le_of_ble_eq_true rfl) ((q1, .inl (cA 2, 400, .inl (fun _ => 0))) :: (h0, .inr (5, [.ref q1, .int 0, .null, .null, .null, .int 0, .int 0, .int 0, .int 0, .int 0, .int 0, .int 0, .int 0])) :: F) rfl dX5_init_10 (fun H locs hw => ?_)
  refine lv_aload_n hx hb dX5_init_13 rfl (lv_at hl 0 rfl) ?_
  refine lv_bipush (v := 40) hx hb dX5_init_14 (by decide) ?_
  refine q_newa (atype := .int) (ty := .int) 0 E hw rfl rfl (fun _ _ h => h) (List.mem_cons_of_mem _ tb_105) (N' := 40) (fun _ => rfl) (by decide) (by decide) (by decide) (Nat.le_of_ble_eq_true rfl) (Nat.le_of_ble_eq_true rfl) dX5_init_16 (fun q2 H hw => ?_)
  refine q_putF (C := RX5) (T := TX5) (N := 13) (ci := 5) E hnm (fun w h => List.mem_cons_of_mem _ (inX5 w h)) tyX5 tyX5_ok nmX5 hw 2 rfl rfl 2 (by decide) (List.mem_cons_of_mem _ tb_341) rfl rfl rfl rfl (Nat.le_of_ble_eq_true rfl) ((q2, .inl (cA 0, 40, .inl (fun _ => 0))) :: (q1, .inl (cA 2, 400, .inl (fun _ => 0))) :: (h0, .inr (5, [.ref q1, .int 0, .ref q2, .null, .null, .int 0, .int 0, .int 0, .int 0, .int 0, .int 0, .int 0, .int 0])) :: F) rfl dX5_init_18 (fun H locs hw => ?_)
  refine lv_aload_n hx hb dX5_init_21 rfl (lv_at hl 0 rfl) ?_
  refine lv_bipush (v := 40) hx hb dX5_init_22 (by decide) ?_
  refine lv_iconst (v := 5) hx hb dX5_init_24 (by decide) ?_
  refine q_multi E hKA hw (List.mem_cons_of_mem _ tb_338) (Nat.le_of_ble_eq_true rfl) (Nat.le_of_ble_eq_true rfl) dX5_init_25 (fun z q3 H locs hw => ?_)
  replace hw : Wd D A ((q3, .inl (cA 3, 40, .inr (.inr (.inr (.inr (fun i => if i < 40 then some (z (100 + i)) else none)))))) :: ((q2, .inl (cA 0, 40, .inl (fun _ => 0))) :: (q1, .inl (cA 2, 400, .inl (fun _ => 0))) :: (h0, .inr (5, [.ref q1, .int 0, .ref q2, .null, .null, .int 0, .int 0, .int 0, .int 0, .int 0, .int 0, .int 0, .int 0])) :: (wR cA z zS ++ F))) s.heap H locs := hw.perm (List.Perm.cons _ (pmS (wR cA z zS) ((q2, .inl (cA 0, 40, .inl (fun _ => 0))) :: (q1, .inl (cA 2, 400, .inl (fun _ => 0))) :: [(h0, .inr (5, [.ref q1, .int 0, .ref q2, .null, .null, .int 0, .int 0, .int 0, .int 0, .int 0, .int 0, .int 0, .int 0]))] : va_W) F))
  refine q_putF (C := RX5) (T := TX5) (N := 13) (ci := 5) E hnm (fun w h => List.mem_cons_of_mem _ (inX5 w h)) tyX5 tyX5_ok nmX5 hw 3 rfl rfl 3 (by decide) (List.mem_cons_of_mem _ tb_342) rfl rfl rfl rfl (Nat.le_of_ble_eq_true rfl) ((q3, .inl (cA 3, 40, .inr (.inr (.inr (.inr (fun i => if i < 40 then some (z (100 + i)) else none)))))) :: ((q2, .inl (cA 0, 40, .inl (fun _ => 0))) :: (q1, .inl (cA 2, 400, .inl (fun _ => 0))) :: (h0, .inr (5, [.ref q1, .int 0, .ref q2, .ref q3, .null, .int 0, .int 0, .int 0, .int 0, .int 0, .int 0, .int 0, .int 0])) :: (wR cA z zS ++ F))) rfl dX5_init_29 (fun H locs hw => ?_)
  refine lv_aload_n hx hb dX5_init_32 rfl (lv_at hl 0 rfl) ?_
  refine lv_bipush (v := 40) hx hb dX5_init_33 (by decide) ?_
  refine q_newa (atype := .boolean) (ty := .boolean) 1 E hw rfl rfl (fun _ _ h => h) (List.mem_cons_of_mem _ tb_142) (N' := 40) (fun _ => rfl) (by decide) (by decide) (by decide) (Nat.le_of_ble_eq_true rfl) (Nat.le_of_ble_eq_true rfl) dX5_init_35 (fun q4 H hw => ?_)
  refine q_putF (C := RX5) (T := TX5) (N := 13) (ci := 5) E hnm (fun w h => List.mem_cons_of_mem _ (inX5 w h)) tyX5 tyX5_ok nmX5 hw 4 rfl rfl 4 (by decide) (List.mem_cons_of_mem _ tb_343) rfl rfl rfl rfl (Nat.le_of_ble_eq_true rfl) ((q4, .inl (cA 1, 40, .inl (fun _ => 0))) :: (q3, .inl (cA 3, 40, .inr (.inr (.inr (.inr (fun i => if i < 40 then some (z (100 + i)) else none)))))) :: ((q2, .inl (cA 0, 40, .inl (fun _ => 0))) :: (q1, .inl (cA 2, 400, .inl (fun _ => 0))) :: (h0, .inr (5, [.ref q1, .int 0, .ref q2, .ref q3, .ref q4, .int 0, .int 0, .int 0, .int 0, .int 0, .int 0, .int 0, .int 0])) :: (wR cA z zS ++ F))) rfl dX5_init_37 (fun H locs hw => ?_)
  refine lv_aload_n hx hb dX5_init_40 rfl (lv_at hl 0 rfl) ?_
  refine lv_iconst (v := (-1)) hx hb dX5_init_41 (by decide) ?_
  refine q_puti (C := RX5) (T := TX5) (N := 13) (ci := 5) E (fun w h => List.mem_cons_of_mem _ (inX5 w h)) tyX5 tyX5_ok nmX5 hw 4 rfl rfl 7 (by decide) (List.mem_cons_of_mem _ tb_344) rfl rfl (Nat.le_of_ble_eq_true rfl) ((q4, .inl (cA 1, 40, .inl (fun _ => 0))) :: (q3, .inl (cA 3, 40, .inr (.inr (.inr (.inr (fun i => if i < 40 then some (z (100 + i)) else none)))))) :: ((q2, .inl (cA 0, 40, .inl (fun _ => 0))) :: (q1, .inl (cA 2, 400, .inl (fun _ => 0))) :: (h0, .inr (5, [.ref q1, .int 0, .ref q2, .ref q3, .ref q4, .int 0, .int 0, .int (-1), .int 0, .int 0, .int 0, .int 0, .int 0])) :: (wR cA z zS ++ F))) rfl dX5_init_42 (fun H locs hw => ?_)
  obtain ⟨y, y1, y60, y61, y62, y63, y64⟩ : ∃ y : Nat → Nat, (∀ i, y (100 + i) = z (100 + i)) ∧ y 60 = h0 ∧ y 61 = q1 ∧ y 62 = q2 ∧ y 63 = q3 ∧ y 64 = q4 :=
    ⟨fun k => if k < 100 then (if k = 60 then h0 else if k = 61 then q1 else if k = 62 then q2 else if k = 63 then q3 else q4) else z k, fun i => if_neg (by omega), rfl, rfl, rfl, rfl, rfl⟩
  have x1 : wSc cA y kZ = [(h0, .inr (5, [.ref q1, .int 0, .ref q2, .ref q3, .ref q4, .int 0, .int 0, .int (-1), .int 0, .int 0, .int 0, .int 0, .int 0])), (q1, .inl (cA 2, 400, .inl (fun _ => 0))), (q2, .inl (cA 0, 40, .inl (fun _ => 0))), (q4, .inl (cA 1, 40, .inl (fun _ => 0))), (q3, .inl (cA 3, 40, .inr (.inr (.inr (.inr (fun i => if i < 40 then some (z (100 + i)) else none))))))] := by
    unfold wSc
    rw [y60, y61, y62, y63, y64]
    simp only [y1]
    rfl
  have x2 : wR cA y kZ = wR cA z zS := wR_ex y1 rfl
  replace hw : Wd D A (wSc cA y kZ ++ (wR cA y kZ ++ F)) s.heap H locs := by
    rw [x1, x2]
    exact hw.perm ((List.Perm.swap _ _ _).trans (List.Perm.append_right (wR cA z zS ++ F) (List.reverse_perm ([(h0, .inr (5, [.ref q1, .int 0, .ref q2, .ref q3, .ref q4, .int 0, .int 0, .int (-1), .int 0, .int 0, .int 0, .int 0, .int 0])), (q1, .inl (cA 2, 400, .inl (fun _ => 0))), (q2, .inl (cA 0, 40, .inl (fun _ => 0))), (q4, .inl (cA 1, 40, .inl (fun _ => 0))), (q3, .inl (cA 3, 40, .inr (.inr (.inr (.inr (fun i => if i < 40 then some (z (100 + i)) else none))))))] : va_W))))
  refine W.widen (k := 44) (n := 720) (Nat.le_of_ble_eq_true rfl) (Nat.le_of_ble_eq_true rfl) ?_
  exact q_retX E hw ⟨y, y60, rfl⟩ dX5_init_45
theorem c_X8_init (l : Launch) (D : va_G) (cA : Nat → ClassId) (tS : Nat → Nat) (A : Nat → Prop) (h0 : Nat) (F : va_W) : CX l yX8_init (Cond.code yX8_init cX8_init 1 none :: bw) 5 118 (6202) 134 D cA tS A [.ref h0] ((h0, .inr (8, [.null, .null, .null, .null])) :: F) none (fun w0 => ∃ (h t z : Nat → Nat) (sv : Nat), w0 = wK cA h sBg ++ (wLg cA h sBg 600 ++ (wC cA h sBg ++ (wH cA h sBg ++ (wS h ++ (wX h0 (h 46) sv (t 42) (z 60) ++ (wK cA t sBg ++ (wLg cA t sBg 0 ++ (wC cA t sBg ++ (wSc cA z kZ ++ (wR cA z kZ ++ ([(sv, .inl (cA 4, 2, .inr (.inr (.inr (.inr (fun _ => none))))))] ++ F)))))))))))) := by
  refine cx_of (by decide +kernel) (Nat.le_of_ble_eq_true rfl) ?_
  intro p e s m below meth c E hKA hnm hw ls hl
  replace E : Ev p cX8_init 1 none RX8 (Cond.code yX8_init cX8_init 1 none :: bw) D cA tS A s m _ meth c := E
  replace hl : lv_has ls 1 [(0, .ref h0)] := hl
  have hx := E.1.1
  have hb := E.1.2.1
  refine lv_aload_n hx hb dX8_init_0 rfl (lv_at hl 0 rfl) ?_
  refine q_obj E hl (List.mem_cons_of_mem _ tb_79) (List.mem_cons_of_mem _ tb_72) (List.mem_cons_of_mem _ tb_73) (Nat.le_of_ble_eq_true rfl) (Nat.le_of_ble_eq_true rfl) dX8_init_1 ?_
  refine lv_aload_n hx hb dX8_init_4 rfl (lv_at hl 0 rfl) ?_
  refine q_new (C := RX6) (T := TX6) (N := 2) (ci := 6) E (fun w h => List.mem_cons_of_mem _ (inX6 w h)) tyX6 tyX6_ok hw rfl (fs := [.null, .null]) (fun j hj => by
      have : j = 0 ∨ j = 1 := by omega
      rcases this with rfl | rfl <;> rfl) (List.mem_cons_of_mem _ tb_80) (List.mem_cons_of_mem _ tb_81) (List.mem_cons_of_mem _ tb_48) (Nat.le_of_ble_eq_true rfl) (Nat.le_of_ble_eq_true rfl) dX8_init_5 (fun q1 H hw => ?_)
  refine lv_dup hx hb dX8_init_8 rfl ?_
  refine q_ctorN (As := []) E hKA hw hl (c_X6_init l D cA tS A q1 ((h0, .inr (8, [.null, .null, .null, .null])) :: F)) 0 (bwc bw_c tb_84) rfl (List.mem_cons_of_mem _ tb_48) (host := "HelpDesk") (by decide +kernel) (List.mem_cons_of_mem _ tb_83) rfl (by decide +kernel) ⟨(Nat.le_of_ble_eq_true rfl), (Nat.le_of_ble_eq_true rfl)⟩ rfl rfl (Nat.le_of_ble_eq_true rfl) ⟨(Nat.le_of_ble_eq_true rfl), (Nat.le_of_ble_eq_true rfl)⟩ dX8_init_9 (fun H locs w0 hp hw => ?_)
  obtain ⟨hs, rfl, rfl⟩ := hp
  refine q_putF (C := RX8) (T := TX8) (N := 4) (ci := 8) E hnm (fun w h => List.mem_cons_of_mem _ (inX8 w h)) tyX8 tyX8_ok nmX8 hw 40 rfl rfl 0 (by decide) (List.mem_cons_of_mem _ tb_373) rfl rfl rfl rfl (Nat.le_of_ble_eq_true rfl) (wK cA hs sBg ++ (wLg cA hs sBg 600 ++ (wC cA hs sBg ++ (wH cA hs sBg ++ (wS hs ++ ((h0, .inr (8, [.ref (hs 46), .null, .null, .null])) :: F)))))) rfl dX8_init_12 (fun H locs hw => ?_)
  refine lv_aload_n hx hb dX8_init_15 rfl (lv_at hl 0 rfl) ?_
  refine lv_iconst (v := 2) hx hb dX8_init_16 (by decide) ?_
  refine q_newst E hKA hw (List.mem_cons_of_mem _ tb_80) (Nat.le_of_ble_eq_true rfl) (Nat.le_of_ble_eq_true rfl) dX8_init_17 (fun q2 H hw => ?_)
  refine q_putF (C := RX8) (T := TX8) (N := 4) (ci := 8) E hnm (fun w h => List.mem_cons_of_mem _ (inX8 w h)) tyX8 tyX8_ok nmX8 hw 41 rfl rfl 1 (by decide) (List.mem_cons_of_mem _ tb_374) rfl rfl rfl rfl (Nat.le_of_ble_eq_true rfl) ((q2, .inl (cA 4, 2, .inr (.inr (.inr (.inr (fun _ => none)))))) :: (wK cA hs sBg ++ (wLg cA hs sBg 600 ++ (wC cA hs sBg ++ (wH cA hs sBg ++ (wS hs ++ ((h0, .inr (8, [.ref (hs 46), .ref q2, .null, .null])) :: F))))))) rfl dX8_init_20 (fun H locs hw => ?_)
  refine lv_aload_n hx hb dX8_init_23 rfl (lv_at hl 0 rfl) ?_
  refine q_new (C := RX1) (T := TX1) (N := 6) (ci := 1) E (fun w h => List.mem_cons_of_mem _ (inX1 w h)) tyX1 tyX1_ok hw rfl (fs := [.null, .null, .null, .null, .null, .int 0]) (fun j hj => by
      have : j = 0 ∨ j = 1 ∨ j = 2 ∨ j = 3 ∨ j = 4 ∨ j = 5 := by omega
      rcases this with rfl | rfl | rfl | rfl | rfl | rfl <;> rfl) (List.mem_cons_of_mem _ tb_330) (List.mem_cons_of_mem _ tb_87) (List.mem_cons_of_mem _ tb_49) (Nat.le_of_ble_eq_true rfl) (Nat.le_of_ble_eq_true rfl) dX8_init_24 (fun q3 H hw => ?_)
  refine lv_dup hx hb dX8_init_27 rfl ?_
  refine lv_iconst (v := 0) hx hb dX8_init_28 (by decide) ?_
  refine q_ctor (As := [.int 0]) E hKA hw hl (c_X1_init l D cA tS A q3 0 (Nat.zero_le _) ((q2, .inl (cA 4, 2, .inr (.inr (.inr (.inr (fun _ => none)))))) :: (wK cA hs sBg ++ (wLg cA hs sBg 600 ++ (wC cA hs sBg ++ (wH cA hs sBg ++ (wS hs ++ ((h0, .inr (8, [.ref (hs 46), .ref q2, .null, .null])) :: F)))))))) 1 (bwc bw_c tb_90) rfl (List.mem_cons_of_mem _ tb_49) (List.mem_cons_of_mem _ tb_331) (List.mem_cons_of_mem _ tb_89) rfl (by decide +kernel) ⟨(Nat.le_of_ble_eq_true rfl), (Nat.le_of_ble_eq_true rfl)⟩ rfl rfl (Nat.le_of_ble_eq_true rfl) ⟨(Nat.le_of_ble_eq_true rfl), (Nat.le_of_ble_eq_true rfl)⟩ dX8_init_29 (fun H locs w0 hp hw => ?_)
  obtain ⟨t, rfl, rfl⟩ := hp
  refine q_putF (C := RX8) (T := TX8) (N := 4) (ci := 8) E hnm (fun w h => List.mem_cons_of_mem _ (inX8 w h)) tyX8 tyX8_ok nmX8 hw 73 rfl rfl 2 (by decide) (List.mem_cons_of_mem _ tb_375) rfl rfl rfl rfl (Nat.le_of_ble_eq_true rfl) (wK cA t sBg ++ (wLg cA t sBg 0 ++ (wC cA t sBg ++ ((q2, .inl (cA 4, 2, .inr (.inr (.inr (.inr (fun _ => none)))))) :: (wK cA hs sBg ++ (wLg cA hs sBg 600 ++ (wC cA hs sBg ++ (wH cA hs sBg ++ (wS hs ++ ((h0, .inr (8, [.ref (hs 46), .ref q2, .ref (t 42), .null])) :: F)))))))))) rfl dX8_init_32 (fun H locs hw => ?_)
  refine lv_aload_n hx hb dX8_init_35 rfl (lv_at hl 0 rfl) ?_
  refine q_new (C := RX5) (T := TX5) (N := 13) (ci := 5) E (fun w h => List.mem_cons_of_mem _ (inX5 w h)) tyX5 tyX5_ok hw rfl (fs := [.null, .int 0, .null, .null, .null, .int 0, .int 0, .int 0, .int 0, .int 0, .int 0, .int 0, .int 0]) (fun j hj => by
      have : j = 0 ∨ j = 1 ∨ j = 2 ∨ j = 3 ∨ j = 4 ∨ j = 5 ∨ j = 6 ∨ j = 7 ∨ j = 8 ∨ j = 9 ∨ j = 10 ∨ j = 11 ∨ j = 12 := by omega
      rcases this with rfl | rfl | rfl | rfl | rfl | rfl | rfl | rfl | rfl | rfl | rfl | rfl | rfl <;> rfl) (List.mem_cons_of_mem _ tb_332) (List.mem_cons_of_mem _ tb_333) (List.mem_cons_of_mem _ tb_58) (Nat.le_of_ble_eq_true rfl) (Nat.le_of_ble_eq_true rfl) dX8_init_36 (fun q5 H hw => ?_)
  refine lv_dup hx hb dX8_init_39 rfl ?_
  refine q_ctorN (As := []) E hKA hw hl (c_X5_init l D cA tS A q5 (wK cA t sBg ++ (wLg cA t sBg 0 ++ (wC cA t sBg ++ ((q2, .inl (cA 4, 2, .inr (.inr (.inr (.inr (fun _ => none)))))) :: (wK cA hs sBg ++ (wLg cA hs sBg 600 ++ (wC cA hs sBg ++ (wH cA hs sBg ++ (wS hs ++ ((h0, .inr (8, [.ref (hs 46), .ref q2, .ref (t 42), .null])) :: F))))))))))) 0 (bwc bw_c tb_336) rfl (List.mem_cons_of_mem _ tb_58) (host := "HelpDesk") (by decide +kernel) (List.mem_cons_of_mem _ tb_335) rfl (by decide +kernel) ⟨(Nat.le_of_ble_eq_true rfl), (Nat.le_of_ble_eq_true rfl)⟩ rfl rfl (Nat.le_of_ble_eq_true rfl) ⟨(Nat.le_of_ble_eq_true rfl), (Nat.le_of_ble_eq_true rfl)⟩ dX8_init_40 (fun H locs w0 hp hw => ?_)
  obtain ⟨z, rfl, rfl⟩ := hp
  replace hw : Wd D A (wK cA hs sBg ++ (wLg cA hs sBg 600 ++ (wC cA hs sBg ++ (wH cA hs sBg ++ (wS hs ++ ((h0, .inr (8, [.ref (hs 46), .ref q2, .ref (t 42), .null])) :: (wK cA t sBg ++ (wLg cA t sBg 0 ++ (wC cA t sBg ++ (wSc cA z kZ ++ (wR cA z kZ ++ ([(q2, .inl (cA 4, 2, .inr (.inr (.inr (.inr (fun _ => none))))))] ++ F)))))))))))) s.heap H locs := by
    replace hw : Wd D A (wSc cA z kZ ++ (wR cA z kZ ++ ((wK cA t sBg ++ (wLg cA t sBg 0 ++ wC cA t sBg)) ++ (([(q2, .inl (cA 4, 2, .inr (.inr (.inr (.inr (fun _ => none))))))] : va_W) ++ ((wK cA hs sBg ++ (wLg cA hs sBg 600 ++ (wC cA hs sBg ++ (wH cA hs sBg ++ wS hs)))) ++ (([(h0, .inr (8, [.ref (hs 46), .ref q2, .ref (t 42), .null]))] : va_W) ++ F)))))) s.heap H locs := by
      simp only [List.append_assoc]
      exact hw
    have h1 := hw.perm (show (wSc cA z kZ ++ (wR cA z kZ ++ ((wK cA t sBg ++ (wLg cA t sBg 0 ++ wC cA t sBg)) ++ (([(q2, .inl (cA 4, 2, .inr (.inr (.inr (.inr (fun _ => none))))))] : va_W) ++ ((wK cA hs sBg ++ (wLg cA hs sBg 600 ++ (wC cA hs sBg ++ (wH cA hs sBg ++ wS hs)))) ++ (([(h0, .inr (8, [.ref (hs 46), .ref q2, .ref (t 42), .null]))] : va_W) ++ F)))))).Perm _ from pm7 (wSc cA z kZ) (wR cA z kZ) (wK cA t sBg ++ (wLg cA t sBg 0 ++ wC cA t sBg)) ([(q2, .inl (cA 4, 2, .inr (.inr (.inr (.inr (fun _ => none))))))] : va_W) (wK cA hs sBg ++ (wLg cA hs sBg 600 ++ (wC cA hs sBg ++ (wH cA hs sBg ++ wS hs)))) ([(h0, .inr (8, [.ref (hs 46), .ref q2, .ref (t 42), .null]))] : va_W) F)
    simp only [List.append_assoc] at h1
    exact h1
  refine q_putF (C := RX8) (T := TX8) (N := 4) (ci := 8) E hnm (fun w h => List.mem_cons_of_mem _ (inX8 w h)) tyX8 tyX8_ok nmX8 hw 40 rfl rfl 3 (by decide) (List.mem_cons_of_mem _ tb_376) rfl rfl rfl rfl (Nat.le_of_ble_eq_true rfl) (wK cA hs sBg ++ (wLg cA hs sBg 600 ++ (wC cA hs sBg ++ (wH cA hs sBg ++ (wS hs ++ ((h0, .inr (8, [.ref (hs 46), .ref q2, .ref (t 42), .ref (z 60)])) :: (wK cA t sBg ++ (wLg cA t sBg 0 ++ (wC cA t sBg ++ (wSc cA z kZ ++ (wR cA z kZ ++ ([(q2, .inl (cA 4, 2, .inr (.inr (.inr (.inr (fun _ => none))))))] ++ F)))))))))))) rfl dX8_init_43 (fun H locs hw => ?_)
  replace hw : Wd D A (wK cA hs sBg ++ (wLg cA hs sBg 600 ++ (wC cA hs sBg ++ (wH cA hs sBg ++ (wS hs ++ (wX h0 (hs 46) q2 (t 42) (z 60) ++ (wK cA t sBg ++ (wLg cA t sBg 0 ++ (wC cA t sBg ++ (wSc cA z kZ ++ (wR cA z kZ ++ ([(q2, .inl (cA 4, 2, .inr (.inr (.inr (.inr (fun _ => none))))))] ++ F)))))))))))) s.heap H locs := hw
  refine W.widen (k := 118) (n := 6202) (Nat.le_of_ble_eq_true rfl) (Nat.le_of_ble_eq_true rfl) ?_
  exact q_retX E hw ⟨hs, t, z, q2, rfl⟩ dX8_init_46
