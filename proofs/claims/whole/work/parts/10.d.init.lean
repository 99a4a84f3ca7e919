/-! the constructors of Log, Desk and State -/
theorem c_X4_init (l : Launch) (D : va_G) (cA : Nat → ClassId) (tS : Nat → Nat) (A : Nat → Prop) (h0 L : Nat) (hL : L ≤ 600) (F : va_W) : CX l yX4_init (Cond.code yX4_init cX4_init 3 none :: bw) 1 4 (4 * L) 13 D cA tS A [.ref h0, .int (nI L)] ((h0, .inr (4, [.null, .null, .null, .null, .int 0])) :: F) none (fun w0 => ∃ h : Nat → Nat, h 41 = h0 ∧ w0 = wLg cA h zS L ++ F) := by
  refine cx_of (by decide +kernel) (Nat.le_of_ble_eq_true rfl) ?_
  intro p e s m below meth c E hKA hnm hw ls hl
  replace E : Ev p cX4_init 3 none RX4 (Cond.code yX4_init cX4_init 3 none :: bw) D cA tS A s m _ meth c := E
  replace hl : lv_has ls 3 [(0, .ref h0), (1, .int (nI L))] := hl
  have hx := E.1.1
  have hb := E.1.2.1
  have em : (if (0 : Int32) < nI L then nI L else 0) = nI L := by
    by_cases q : (0 : Int32) < nI L
    · rw [if_pos q]
    · rw [if_neg q]
      have := z_le.mp (Int32.not_lt.mp q)
      rw [z_nI (by omega), z_0] at this
      exact z_eq.mpr (by rw [z_nI (by omega), z_0]; omega)
  have hn : ¬ nI L < 0 := fun q => by
    have := z_lt.mp q
    rw [z_nI (by omega), z_0] at this
    omega
  refine lv_aload_n hx hb dX4_init_0 rfl (lv_at hl 0 rfl) ?_
  refine q_obj E hl (List.mem_cons_of_mem _ tb_174) (List.mem_cons_of_mem _ tb_123) (List.mem_cons_of_mem _ tb_124) (Nat.le_of_ble_eq_true rfl) (Nat.le_of_ble_eq_true rfl) dX4_init_1 ?_
  refine lv_iconst (v := 0) hx hb dX4_init_4 (by decide) ?_
  refine lv_iload_n hx hb dX4_init_5 rfl (lv_at hl 1 rfl) ?_
  refine va_mmax hx hb (E.1.2.2.1.trans hl.1.symm) E.1.2.2.2.1 (E.1.2.2.2.2 _ (List.mem_cons_of_mem _ tb_175)) (E.1.2.2.2.2 _ (List.mem_cons_of_mem _ tb_176)) (E.1.2.2.2.2 _ (List.mem_cons_of_mem _ tb_103)) (E.1.2.2.2.2 _ (List.mem_cons_of_mem _ tb_177)) (Nat.le_of_ble_eq_true rfl) (Nat.le_of_ble_eq_true rfl) (Nat.zero_le _) (Nat.zero_le _) dX4_init_6 ?_
  rw [em]
  refine lv_istore_n (lv' := [(2, .int (nI L)), (0, .ref h0), (1, .int (nI L))]) hx hb dX4_init_9 rfl hl (by decide) rfl (fun ls hl => ?_)
  refine lv_aload_n hx hb dX4_init_10 rfl (lv_at hl 1 rfl) ?_
  refine lv_iload_n hx hb dX4_init_11 rfl (lv_at hl 0 rfl) ?_
  refine q_newa (atype := .int) (ty := .int) 0 E hw rfl rfl (fun _ _ h => h) (List.mem_cons_of_mem _ tb_167) (N' := L) (fun _ => rfl) hn (nI_clamp (by omega)) (by show L * 4 ≤ 536870912; omega) (Nat.le_of_ble_eq_true rfl) (by show 0 + L ≤ 4 * L; omega) dX4_init_12 (fun q1 H hw => ?_)
  refine q_putF (C := RX4) (T := TX4) (N := 5) (ci := 4) E hnm (fun w h => List.mem_cons_of_mem _ (inX4 w h)) tyX4 tyX4_ok nmX4 hw 1 rfl rfl 0 (by decide) (List.mem_cons_of_mem _ tb_178) rfl rfl rfl rfl (Nat.le_of_ble_eq_true rfl) ((q1, .inl (cA 0, L, .inl (fun _ => 0))) :: (h0, .inr (4, [.ref q1, .null, .null, .null, .int 0])) :: F) rfl dX4_init_14 (fun H locs hw => ?_)
  refine lv_aload_n hx hb dX4_init_17 rfl (lv_at hl 1 rfl) ?_
  refine lv_iload_n hx hb dX4_init_18 rfl (lv_at hl 0 rfl) ?_
  refine q_newa (atype := .int) (ty := .int) 0 E hw rfl rfl (fun _ _ h => h) (List.mem_cons_of_mem _ tb_167) (N' := L) (fun _ => rfl) hn (nI_clamp (by omega)) (by show L * 4 ≤ 536870912; omega) (Nat.le_of_ble_eq_true rfl) (by show 0 + L + L ≤ 4 * L; omega) dX4_init_19 (fun q2 H hw => ?_)
  refine q_putF (C := RX4) (T := TX4) (N := 5) (ci := 4) E hnm (fun w h => List.mem_cons_of_mem _ (inX4 w h)) tyX4 tyX4_ok nmX4 hw 2 rfl rfl 1 (by decide) (List.mem_cons_of_mem _ tb_180) rfl rfl rfl rfl (Nat.le_of_ble_eq_true rfl) ((q2, .inl (cA 0, L, .inl (fun _ => 0))) :: (q1, .inl (cA 0, L, .inl (fun _ => 0))) :: (h0, .inr (4, [.ref q1, .ref q2, .null, .null, .int 0])) :: F) rfl dX4_init_21 (fun H locs hw => ?_)
  refine lv_aload_n hx hb dX4_init_24 rfl (lv_at hl 1 rfl) ?_
  refine lv_iload_n hx hb dX4_init_25 rfl (lv_at hl 0 rfl) ?_
  refine q_newa (atype := .int) (ty := .int) 0 E hw rfl rfl (fun _ _ h => h) (List.mem_cons_of_mem _ tb_167) (N' := L) (fun _ => rfl) hn (nI_clamp (by omega)) (by show L * 4 ≤ 536870912; omega) (Nat.le_of_ble_eq_true rfl) (by show 0 + L + L + L ≤ 4 * L; omega) dX4_init_26 (fun q3 H hw => ?_)
  refine q_putF (C := RX4) (T := TX4) (N := 5) (ci := 4) E hnm (fun w h => List.mem_cons_of_mem _ (inX4 w h)) tyX4 tyX4_ok nmX4 hw 3 rfl rfl 2 (by decide) (List.mem_cons_of_mem _ tb_182) rfl rfl rfl rfl (Nat.le_of_ble_eq_true rfl) ((q3, .inl (cA 0, L, .inl (fun _ => 0))) :: (q2, .inl (cA 0, L, .inl (fun _ => 0))) :: (q1, .inl (cA 0, L, .inl (fun _ => 0))) :: (h0, .inr (4, [.ref q1, .ref q2, .ref q3, .null, .int 0])) :: F) rfl dX4_init_28 (fun H locs hw => ?_)
  refine lv_aload_n hx hb dX4_init_31 rfl (lv_at hl 1 rfl) ?_
  refine lv_iload_n hx hb dX4_init_32 rfl (lv_at hl 0 rfl) ?_
  refine q_newa (atype := .int) (ty := .int) 0 E hw rfl rfl (fun _ _ h => h) (List.mem_cons_of_mem _ tb_167) (N' := L) (fun _ => rfl) hn (nI_clamp (by omega)) (by show L * 4 ≤ 536870912; omega) (Nat.le_of_ble_eq_true rfl) (by show 0 + L + L + L + L ≤ 4 * L; omega) dX4_init_33 (fun q4 H hw => ?_)
  refine q_putF (C := RX4) (T := TX4) (N := 5) (ci := 4) E hnm (fun w h => List.mem_cons_of_mem _ (inX4 w h)) tyX4 tyX4_ok nmX4 hw 4 rfl rfl 3 (by decide) (List.mem_cons_of_mem _ tb_184) rfl rfl rfl rfl (Nat.le_of_ble_eq_true rfl) ((q4, .inl (cA 0, L, .inl (fun _ => 0))) :: (q3, .inl (cA 0, L, .inl (fun _ => 0))) :: (q2, .inl (cA 0, L, .inl (fun _ => 0))) :: (q1, .inl (cA 0, L, .inl (fun _ => 0))) :: (h0, .inr (4, [.ref q1, .ref q2, .ref q3, .ref q4, .int 0])) :: F) rfl dX4_init_35 (fun H locs hw => ?_)
  refine W.widen (k := 4) (n := 4 * L) (Nat.le_of_ble_eq_true rfl) (by omega) ?_
  exact q_retX E (hw.perm ((List.reverse_perm (wLg cA (fun k => if k = 41 then h0 else if k = 8 then q1 else if k = 9 then q2 else if k = 10 then q3 else q4) zS L)).append_right F)) ⟨(fun k => if k = 41 then h0 else if k = 8 then q1 else if k = 9 then q2 else if k = 10 then q3 else q4), rfl, rfl⟩ dX4_init_38
theorem pm3 {α : Type} (a b c : List α) : (a ++ (b ++ c)).Perm (c ++ (b ++ a)) := by
  rw [← List.append_assoc c b a]
  exact List.perm_append_comm.trans (List.Perm.append_right a List.perm_append_comm)
theorem pm4 {α : Type} (a b c d : List α) : (a ++ (b ++ (c ++ d))).Perm (d ++ (c ++ (b ++ a))) := by
  have e1 : d ++ (c ++ (b ++ a)) = (d ++ (c ++ b)) ++ a := by simp only [List.append_assoc]
  rw [e1]
  exact List.perm_append_comm.trans (List.Perm.append_right a (pm3 b c d))
theorem pm4r {α : Type} (a b c d r : List α) : (a ++ (b ++ (c ++ (d ++ r)))).Perm ((d ++ (c ++ (b ++ a))) ++ r) := by
  have e1 : a ++ (b ++ (c ++ (d ++ r))) = (a ++ (b ++ (c ++ d))) ++ r := by simp only [List.append_assoc]
  rw [e1]
  exact (pm4 a b c d).append_right r
theorem pm4b {α : Type} (a b c d r : List α) : (a ++ (b ++ (c ++ (d ++ r)))).Perm (d ++ (c ++ (a ++ (b ++ r)))) := by
  have e1 : a ++ (b ++ (c ++ (d ++ r))) = ((a ++ b) ++ (c ++ d)) ++ r := by simp only [List.append_assoc]
  have e2 : d ++ (c ++ (a ++ (b ++ r))) = (d ++ (c ++ (a ++ b))) ++ r := by simp only [List.append_assoc]
  rw [e1, e2]
  exact (pm3 (a ++ b) c d).append_right r
theorem c_X1_init (l : Launch) (D : va_G) (cA : Nat → ClassId) (tS : Nat → Nat) (A : Nat → Prop) (h0 : Nat) (k0 g0 : Nat) (F : va_W) : CX l yX1_init (Cond.code yX1_init cX1_init 3 none :: bw) 2 19 (875) 32 D cA tS A [.ref h0, .ref k0, .ref g0] ((h0, .inr (1, [.null, .null, .null, .null, .null, .int 0])) :: F) none (fun w0 => ∃ h : Nat → Nat, h 42 = h0 ∧ h 40 = k0 ∧ h 41 = g0 ∧ w0 = wC cA h zS ++ F) := by
  refine cx_of (by decide +kernel) (Nat.le_of_ble_eq_true rfl) ?_
  intro p e s m below meth c E hKA hnm hw ls hl
  replace E : Ev p cX1_init 3 none RX1 (Cond.code yX1_init cX1_init 3 none :: bw) D cA tS A s m _ meth c := E
  replace hl : lv_has ls 3 [(0, .ref h0), (1, .ref k0), (2, .ref g0)] := hl
  have hx := E.1.1
  have hb := E.1.2.1
  refine lv_aload_n hx hb dX1_init_0 rfl (lv_at hl 0 rfl) ?_
  refine q_obj E hl (List.mem_cons_of_mem _ tb_239) (List.mem_cons_of_mem _ tb_123) (List.mem_cons_of_mem _ tb_124) (Nat.le_of_ble_eq_true rfl) (Nat.le_of_ble_eq_true rfl) dX1_init_1 ?_
  refine lv_aload_n hx hb dX1_init_4 rfl (lv_at hl 0 rfl) ?_
  refine q_new (C := RX0) (T := TX0) (N := 2) (ci := 0) E (fun w h => List.mem_cons_of_mem _ (inX0 w h)) tyX0 tyX0_ok hw rfl (fs := [.null, .null]) (fun j hj => by
      have : j = 0 ∨ j = 1 := by omega
      rcases this with rfl | rfl <;> rfl) (List.mem_cons_of_mem _ tb_240) (List.mem_cons_of_mem _ tb_241) (List.mem_cons_of_mem _ tb_106) (Nat.le_of_ble_eq_true rfl) (Nat.le_of_ble_eq_true rfl) dX1_init_5 (fun q1 H hw => ?_)
  refine lv_dup hx hb dX1_init_8 rfl ?_
  refine q_ctorN (As := []) E hKA hw hl (c_X0_init l D cA tS A q1 ((h0, .inr (1, [.null, .null, .null, .null, .null, .int 0])) :: F)) 0 (bwc bw_c tb_244) rfl (List.mem_cons_of_mem _ tb_106) (host := "HelpDesk") (by decide +kernel) (List.mem_cons_of_mem _ tb_243) rfl (by decide +kernel) ⟨(Nat.le_of_ble_eq_true rfl), (Nat.le_of_ble_eq_true rfl)⟩ rfl rfl (Nat.le_of_ble_eq_true rfl) ⟨(Nat.le_of_ble_eq_true rfl), (Nat.le_of_ble_eq_true rfl)⟩ dX1_init_9 (fun H locs w0 hp hw => ?_)
  obtain ⟨a1, a2, rfl⟩ := hp
  replace hw : Wd D A ((q1, .inr (0, [.ref a1, .ref a2])) :: (a1, .inl (cA 0, 7, .inl (zS 13))) :: (a2, .inl (cA 0, 7, .inl (zS 14))) :: (h0, .inr (1, [.null, .null, .null, .null, .null, .int 0])) :: F) s.heap H locs := hw
  refine q_putF (C := RX1) (T := TX1) (N := 6) (ci := 1) E hnm (fun w h => List.mem_cons_of_mem _ (inX1 w h)) tyX1 tyX1_ok nmX1 hw 3 rfl rfl 2 (by decide) (List.mem_cons_of_mem _ tb_333) rfl rfl rfl rfl (Nat.le_of_ble_eq_true rfl) ((q1, .inr (0, [.ref a1, .ref a2])) :: (a1, .inl (cA 0, 7, .inl (zS 13))) :: (a2, .inl (cA 0, 7, .inl (zS 14))) :: (h0, .inr (1, [.null, .null, .ref q1, .null, .null, .int 0])) :: F) rfl dX1_init_12 (fun H locs hw => ?_)
  refine lv_aload_n hx hb dX1_init_15 rfl (lv_at hl 0 rfl) ?_
  refine q_new (C := RX7) (T := TX7) (N := 15) (ci := 7) E (fun w h => List.mem_cons_of_mem _ (inX7 w h)) tyX7 tyX7_ok hw rfl (fs := [.null, .null, .null, .null, .null, .null, .null, .null, .null, .null, .null, .null, .null, .null, .int 0]) (fun j hj => by
      have : j = 0 ∨ j = 1 ∨ j = 2 ∨ j = 3 ∨ j = 4 ∨ j = 5 ∨ j = 6 ∨ j = 7 ∨ j = 8 ∨ j = 9 ∨ j = 10 ∨ j = 11 ∨ j = 12 ∨ j = 13 ∨ j = 14 := by omega
      rcases this with rfl | rfl | rfl | rfl | rfl | rfl | rfl | rfl | rfl | rfl | rfl | rfl | rfl | rfl | rfl <;> rfl) (List.mem_cons_of_mem _ tb_255) (List.mem_cons_of_mem _ tb_256) (List.mem_cons_of_mem _ tb_107) (Nat.le_of_ble_eq_true rfl) (Nat.le_of_ble_eq_true rfl) dX1_init_16 (fun q2 H hw => ?_)
  refine lv_dup hx hb dX1_init_19 rfl ?_
  refine q_ctorN (As := []) E hKA hw hl (c_X7_init l D cA tS A q2 ((q1, .inr (0, [.ref a1, .ref a2])) :: (a1, .inl (cA 0, 7, .inl (zS 13))) :: (a2, .inl (cA 0, 7, .inl (zS 14))) :: (h0, .inr (1, [.null, .null, .ref q1, .null, .null, .int 0])) :: F)) 0 (bwc bw_c tb_259) rfl (List.mem_cons_of_mem _ tb_107) (host := "HelpDesk") (by decide +kernel) (List.mem_cons_of_mem _ tb_258) rfl (by decide +kernel) ⟨(Nat.le_of_ble_eq_true rfl), (Nat.le_of_ble_eq_true rfl)⟩ rfl rfl (Nat.le_of_ble_eq_true rfl) ⟨(Nat.le_of_ble_eq_true rfl), (Nat.le_of_ble_eq_true rfl)⟩ dX1_init_20 (fun H locs w0 hp hw => ?_)
  obtain ⟨f, rfl⟩ := hp
  replace hw : Wd D A (wTk cA f q2 ++ ((q1, .inr (0, [.ref a1, .ref a2])) :: (a1, .inl (cA 0, 7, .inl (zS 13))) :: (a2, .inl (cA 0, 7, .inl (zS 14))) :: (h0, .inr (1, [.null, .null, .ref q1, .null, .null, .int 0])) :: F)) s.heap H locs := hw
  refine q_putF (C := RX1) (T := TX1) (N := 6) (ci := 1) E hnm (fun w h => List.mem_cons_of_mem _ (inX1 w h)) tyX1 tyX1_ok nmX1 hw 18 rfl rfl 3 (by decide) (List.mem_cons_of_mem _ tb_335) rfl rfl rfl rfl (Nat.le_of_ble_eq_true rfl) (wTk cA f q2 ++ ((q1, .inr (0, [.ref a1, .ref a2])) :: (a1, .inl (cA 0, 7, .inl (zS 13))) :: (a2, .inl (cA 0, 7, .inl (zS 14))) :: (h0, .inr (1, [.null, .null, .ref q1, .ref q2, .null, .int 0])) :: F)) rfl dX1_init_23 (fun H locs hw => ?_)
  refine lv_aload_n hx hb dX1_init_26 rfl (lv_at hl 0 rfl) ?_
  refine lv_iconst (v := 4) hx hb dX1_init_27 (by decide) ?_
  refine q_newa (atype := .int) (ty := .int) 0 E hw rfl rfl (fun _ _ h => h) (List.mem_cons_of_mem _ tb_167) (N' := 4) (fun _ => rfl) (by decide) (by decide) (by decide) (Nat.le_of_ble_eq_true rfl) (Nat.le_of_ble_eq_true rfl) dX1_init_28 (fun q3 H hw => ?_)
  refine q_putF (C := RX1) (T := TX1) (N := 6) (ci := 1) E hnm (fun w h => List.mem_cons_of_mem _ (inX1 w h)) tyX1 tyX1_ok nmX1 hw 19 rfl rfl 4 (by decide) (List.mem_cons_of_mem _ tb_337) rfl rfl rfl rfl (Nat.le_of_ble_eq_true rfl) ((q3, .inl (cA 0, 4, .inl (fun _ => 0))) :: (wTk cA f q2 ++ ((q1, .inr (0, [.ref a1, .ref a2])) :: (a1, .inl (cA 0, 7, .inl (zS 13))) :: (a2, .inl (cA 0, 7, .inl (zS 14))) :: (h0, .inr (1, [.null, .null, .ref q1, .ref q2, .ref q3, .int 0])) :: F))) rfl dX1_init_30 (fun H locs hw => ?_)
  refine lv_aload_n hx hb dX1_init_33 rfl (lv_at hl 0 rfl) ?_
  refine lv_aload_n hx hb dX1_init_34 rfl (lv_at hl 1 rfl) ?_
  refine q_putF (C := RX1) (T := TX1) (N := 6) (ci := 1) E hnm (fun w h => List.mem_cons_of_mem _ (inX1 w h)) tyX1 tyX1_ok nmX1 hw 19 rfl rfl 0 (by decide) (List.mem_cons_of_mem _ tb_331) rfl rfl rfl rfl (Nat.le_of_ble_eq_true rfl) ((q3, .inl (cA 0, 4, .inl (fun _ => 0))) :: (wTk cA f q2 ++ ((q1, .inr (0, [.ref a1, .ref a2])) :: (a1, .inl (cA 0, 7, .inl (zS 13))) :: (a2, .inl (cA 0, 7, .inl (zS 14))) :: (h0, .inr (1, [.ref k0, .null, .ref q1, .ref q2, .ref q3, .int 0])) :: F))) rfl dX1_init_35 (fun H locs hw => ?_)
  refine lv_aload_n hx hb dX1_init_38 rfl (lv_at hl 0 rfl) ?_
  refine lv_aload_n hx hb dX1_init_39 rfl (lv_at hl 2 rfl) ?_
  refine q_putF (C := RX1) (T := TX1) (N := 6) (ci := 1) E hnm (fun w h => List.mem_cons_of_mem _ (inX1 w h)) tyX1 tyX1_ok nmX1 hw 19 rfl rfl 1 (by decide) (List.mem_cons_of_mem _ tb_332) rfl rfl rfl rfl (Nat.le_of_ble_eq_true rfl) ((q3, .inl (cA 0, 4, .inl (fun _ => 0))) :: (wTk cA f q2 ++ ((q1, .inr (0, [.ref a1, .ref a2])) :: (a1, .inl (cA 0, 7, .inl (zS 13))) :: (a2, .inl (cA 0, 7, .inl (zS 14))) :: (h0, .inr (1, [.ref k0, .ref g0, .ref q1, .ref q2, .ref q3, .int 0])) :: F))) rfl dX1_init_40 (fun H locs hw => ?_)
  refine W.widen (k := 19) (n := 875) (Nat.le_of_ble_eq_true rfl) (Nat.le_of_ble_eq_true rfl) ?_
  replace hw : Wd D A (wC cA (fun k => if k = 42 then h0 else if k = 40 then k0 else if k = 41 then g0 else if k = 43 then q1 else if k = 13 then a1 else if k = 14 then a2 else if k = 44 then q2 else if k = 30 then q3 else f k) zS ++ F) s.heap H locs := hw.perm (pm4r ([(q3, .inl (cA 0, 4, .inl (fun _ => 0)))] : va_W) (wTk cA f q2) ([(q1, .inr (0, [.ref a1, .ref a2])), (a1, .inl (cA 0, 7, .inl (zS 13))), (a2, .inl (cA 0, 7, .inl (zS 14)))] : va_W) ([(h0, .inr (1, [.ref k0, .ref g0, .ref q1, .ref q2, .ref q3, .int 0]))] : va_W) F)
  exact q_retX E hw ⟨(fun k => if k = 42 then h0 else if k = 40 then k0 else if k = 41 then g0 else if k = 43 then q1 else if k = 13 then a1 else if k = 14 then a2 else if k = 44 then q2 else if k = 30 then q3 else f k), rfl, rfl, rfl, rfl⟩ dX1_init_43
/-- what begin makes of the empty desk -/
def sBg : Sg := (f_X1_begin zS).getD zS
def hMix (hk hg hc hh : Nat → Nat) (h0 : Nat) : Nat → Nat := fun k => if k = 46 then h0 else if k = 40 then hk 40 else if k = 41 then hg 41 else if k = 45 then hh 45 else if k < 7 then hk k else if k < 12 then hg k else if k < 31 then hc k else if k < 38 then hh k else hc k
theorem c_X6_init (l : Launch) (D : va_G) (cA : Nat → ClassId) (tS : Nat → Nat) (A : Nat → Prop) (h0 : Nat) (F : va_W) : CX l yX6_init (Cond.code yX6_init cX6_init 1 none :: bw) 3 39 (4536) 93 D cA tS A [.ref h0] ((h0, .inr (6, [.null, .null, .null, .null])) :: F) none (fun w0 => ∃ (h : Nat → Nat), h 46 = h0 ∧ w0 = wK cA h sBg ++ (wLg cA h sBg 600 ++ (wC cA h sBg ++ (wH cA h sBg ++ (wS h ++ F))))) := by
  refine cx_of (by decide +kernel) (Nat.le_of_ble_eq_true rfl) ?_
  intro p e s m below meth c E hKA hnm hw ls hl
  replace E : Ev p cX6_init 1 none RX6 (Cond.code yX6_init cX6_init 1 none :: bw) D cA tS A s m _ meth c := E
  replace hl : lv_has ls 1 [(0, .ref h0)] := hl
  have hx := E.1.1
  have hb := E.1.2.1
  refine lv_aload_n hx hb dX6_init_0 rfl (lv_at hl 0 rfl) ?_
  refine q_obj E hl (List.mem_cons_of_mem _ tb_130) (List.mem_cons_of_mem _ tb_123) (List.mem_cons_of_mem _ tb_124) (Nat.le_of_ble_eq_true rfl) (Nat.le_of_ble_eq_true rfl) dX6_init_1 ?_
  refine lv_aload_n hx hb dX6_init_4 rfl (lv_at hl 0 rfl) ?_
  refine q_new (C := RX3) (T := TX3) (N := 7) (ci := 3) E (fun w h => List.mem_cons_of_mem _ (inX3 w h)) tyX3 tyX3_ok hw rfl (fs := [.null, .null, .null, .null, .null, .null, .int 0]) (fun j hj => by
      have : j = 0 ∨ j = 1 ∨ j = 2 ∨ j = 3 ∨ j = 4 ∨ j = 5 ∨ j = 6 := by omega
      rcases this with rfl | rfl | rfl | rfl | rfl | rfl | rfl <;> rfl) (List.mem_cons_of_mem _ tb_131) (List.mem_cons_of_mem _ tb_132) (List.mem_cons_of_mem _ tb_101) (Nat.le_of_ble_eq_true rfl) (Nat.le_of_ble_eq_true rfl) dX6_init_5 (fun q1 H hw => ?_)
  refine lv_dup hx hb dX6_init_8 rfl ?_
  refine q_ctorN (As := []) E hKA hw hl (c_X3_init l D cA tS A q1 ((h0, .inr (6, [.null, .null, .null, .null])) :: F)) 0 (bwc bw_c tb_135) rfl (List.mem_cons_of_mem _ tb_101) (host := "HelpDesk") (by decide +kernel) (List.mem_cons_of_mem _ tb_134) rfl (by decide +kernel) ⟨(Nat.le_of_ble_eq_true rfl), (Nat.le_of_ble_eq_true rfl)⟩ rfl rfl (Nat.le_of_ble_eq_true rfl) ⟨(Nat.le_of_ble_eq_true rfl), (Nat.le_of_ble_eq_true rfl)⟩ dX6_init_9 (fun H locs w0 hp hw => ?_)
  obtain ⟨hk, e1, rfl⟩ := hp
  refine q_putF (C := RX6) (T := TX6) (N := 4) (ci := 6) E hnm (fun w h => List.mem_cons_of_mem _ (inX6 w h)) tyX6 tyX6_ok nmX6 hw 7 rfl rfl 0 (by decide) (List.mem_cons_of_mem _ tb_372) rfl rfl rfl rfl (Nat.le_of_ble_eq_true rfl) (wK cA hk zS ++ ((h0, .inr (6, [.ref q1, .null, .null, .null])) :: F)) rfl dX6_init_12 (fun H locs hw => ?_)
  refine lv_aload_n hx hb dX6_init_15 rfl (lv_at hl 0 rfl) ?_
  refine q_new (C := RX4) (T := TX4) (N := 5) (ci := 4) E (fun w h => List.mem_cons_of_mem _ (inX4 w h)) tyX4 tyX4_ok hw rfl (fs := [.null, .null, .null, .null, .int 0]) (fun j hj => by
      have : j = 0 ∨ j = 1 ∨ j = 2 ∨ j = 3 ∨ j = 4 := by omega
      rcases this with rfl | rfl | rfl | rfl | rfl <;> rfl) (List.mem_cons_of_mem _ tb_169) (List.mem_cons_of_mem _ tb_170) (List.mem_cons_of_mem _ tb_102) (Nat.le_of_ble_eq_true rfl) (Nat.le_of_ble_eq_true rfl) dX6_init_16 (fun q2 H hw => ?_)
  refine lv_dup hx hb dX6_init_19 rfl ?_
  refine lv_sipush (v := 600) hx hb dX6_init_20 (by decide) ?_
  refine q_ctor (As := [.int 600]) E hKA hw hl (c_X4_init l D cA tS A q2 600 (Nat.le_refl _) (wK cA hk zS ++ ((h0, .inr (6, [.ref q1, .null, .null, .null])) :: F))) 1 (bwc bw_c tb_173) rfl (List.mem_cons_of_mem _ tb_102) (List.mem_cons_of_mem _ tb_171) (List.mem_cons_of_mem _ tb_172) rfl (by decide +kernel) ⟨(Nat.le_of_ble_eq_true rfl), (Nat.le_of_ble_eq_true rfl)⟩ rfl rfl (Nat.le_of_ble_eq_true rfl) ⟨(Nat.le_of_ble_eq_true rfl), (Nat.le_of_ble_eq_true rfl)⟩ dX6_init_23 (fun H locs w0 hp hw => ?_)
  obtain ⟨hg, e2, rfl⟩ := hp
  refine q_putF (C := RX6) (T := TX6) (N := 4) (ci := 6) E hnm (fun w h => List.mem_cons_of_mem _ (inX6 w h)) tyX6 tyX6_ok nmX6 hw 12 rfl rfl 1 (by decide) (List.mem_cons_of_mem _ tb_374) rfl rfl rfl rfl (Nat.le_of_ble_eq_true rfl) (wLg cA hg zS 600 ++ (wK cA hk zS ++ ((h0, .inr (6, [.ref q1, .ref q2, .null, .null])) :: F))) rfl dX6_init_26 (fun H locs hw => ?_)
  refine lv_aload_n hx hb dX6_init_29 rfl (lv_at hl 0 rfl) ?_
  refine q_new (C := RX2) (T := TX2) (N := 7) (ci := 2) E (fun w h => List.mem_cons_of_mem _ (inX2 w h)) tyX2 tyX2_ok hw rfl (fs := [.null, .null, .null, .null, .null, .null, .int 0]) (fun j hj => by
      have : j = 0 ∨ j = 1 ∨ j = 2 ∨ j = 3 ∨ j = 4 ∨ j = 5 ∨ j = 6 := by omega
      rcases this with rfl | rfl | rfl | rfl | rfl | rfl | rfl <;> rfl) (List.mem_cons_of_mem _ tb_199) (List.mem_cons_of_mem _ tb_200) (List.mem_cons_of_mem _ tb_104) (Nat.le_of_ble_eq_true rfl) (Nat.le_of_ble_eq_true rfl) dX6_init_30 (fun q3 H hw => ?_)
  refine lv_dup hx hb dX6_init_33 rfl ?_
  refine q_ctorN (As := []) E hKA hw hl (c_X2_init l D cA tS A q3 (wLg cA hg zS 600 ++ (wK cA hk zS ++ ((h0, .inr (6, [.ref q1, .ref q2, .null, .null])) :: F)))) 0 (bwc bw_c tb_203) rfl (List.mem_cons_of_mem _ tb_104) (host := "HelpDesk") (by decide +kernel) (List.mem_cons_of_mem _ tb_202) rfl (by decide +kernel) ⟨(Nat.le_of_ble_eq_true rfl), (Nat.le_of_ble_eq_true rfl)⟩ rfl rfl (Nat.le_of_ble_eq_true rfl) ⟨(Nat.le_of_ble_eq_true rfl), (Nat.le_of_ble_eq_true rfl)⟩ dX6_init_34 (fun H locs w0 hp hw => ?_)
  obtain ⟨hh, e3, rfl⟩ := hp
  refine q_putF (C := RX6) (T := TX6) (N := 4) (ci := 6) E hnm (fun w h => List.mem_cons_of_mem _ (inX6 w h)) tyX6 tyX6_ok nmX6 hw 19 rfl rfl 2 (by decide) (List.mem_cons_of_mem _ tb_376) rfl rfl rfl rfl (Nat.le_of_ble_eq_true rfl) (wH cA hh zS ++ (wLg cA hg zS 600 ++ (wK cA hk zS ++ ((h0, .inr (6, [.ref q1, .ref q2, .ref q3, .null])) :: F)))) rfl dX6_init_37 (fun H locs hw => ?_)
  refine lv_aload_n hx hb dX6_init_40 rfl (lv_at hl 0 rfl) ?_
  refine q_new (C := RX1) (T := TX1) (N := 6) (ci := 1) E (fun w h => List.mem_cons_of_mem _ (inX1 w h)) tyX1 tyX1_ok hw rfl (fs := [.null, .null, .null, .null, .null, .int 0]) (fun j hj => by
      have : j = 0 ∨ j = 1 ∨ j = 2 ∨ j = 3 ∨ j = 4 ∨ j = 5 := by omega
      rcases this with rfl | rfl | rfl | rfl | rfl | rfl <;> rfl) (List.mem_cons_of_mem _ tb_234) (List.mem_cons_of_mem _ tb_235) (List.mem_cons_of_mem _ tb_105) (Nat.le_of_ble_eq_true rfl) (Nat.le_of_ble_eq_true rfl) dX6_init_41 (fun q4 H hw => ?_)
  refine lv_dup hx hb dX6_init_44 rfl ?_
  refine lv_aload_n hx hb dX6_init_45 rfl (lv_at hl 0 rfl) ?_
  refine q_get (C := RX6) (T := TX6) (N := 4) (ci := 6) E (fun w h => List.mem_cons_of_mem _ (inX6 w h)) hw 20 rfl rfl 0 (by decide) (List.mem_cons_of_mem _ tb_372) (v := .ref q1) rfl dX6_init_46 ?_
  refine lv_aload_n hx hb dX6_init_49 rfl (lv_at hl 0 rfl) ?_
  refine q_get (C := RX6) (T := TX6) (N := 4) (ci := 6) E (fun w h => List.mem_cons_of_mem _ (inX6 w h)) hw 20 rfl rfl 1 (by decide) (List.mem_cons_of_mem _ tb_374) (v := .ref q2) rfl dX6_init_50 ?_
  refine q_ctor (As := [.ref q1, .ref q2]) E hKA hw hl (c_X1_init l D cA tS A q4 q1 q2 (wH cA hh zS ++ (wLg cA hg zS 600 ++ (wK cA hk zS ++ ((h0, .inr (6, [.ref q1, .ref q2, .ref q3, .null])) :: F))))) 2 (bwc bw_c tb_238) rfl (List.mem_cons_of_mem _ tb_105) (List.mem_cons_of_mem _ tb_236) (List.mem_cons_of_mem _ tb_237) rfl (by decide +kernel) ⟨(Nat.le_of_ble_eq_true rfl), (Nat.le_of_ble_eq_true rfl)⟩ rfl rfl (Nat.le_of_ble_eq_true rfl) ⟨(Nat.le_of_ble_eq_true rfl), (Nat.le_of_ble_eq_true rfl)⟩ dX6_init_53 (fun H locs w0 hp hw => ?_)
  obtain ⟨hc, e4, e5, e6, rfl⟩ := hp
  refine q_putF (C := RX6) (T := TX6) (N := 4) (ci := 6) E hnm (fun w h => List.mem_cons_of_mem _ (inX6 w h)) tyX6 tyX6_ok nmX6 hw 39 rfl rfl 3 (by decide) (List.mem_cons_of_mem _ tb_378) rfl rfl rfl rfl (Nat.le_of_ble_eq_true rfl) (wC cA hc zS ++ (wH cA hh zS ++ (wLg cA hg zS 600 ++ (wK cA hk zS ++ ((h0, .inr (6, [.ref q1, .ref q2, .ref q3, .ref q4])) :: F))))) rfl dX6_init_56 (fun H locs hw => ?_)
  refine lv_aload_n hx hb dX6_init_59 rfl (lv_at hl 0 rfl) ?_
  refine q_get (C := RX6) (T := TX6) (N := 4) (ci := 6) E (fun w h => List.mem_cons_of_mem _ (inX6 w h)) hw 39 rfl rfl 3 (by decide) (List.mem_cons_of_mem _ tb_378) (v := .ref q4) rfl dX6_init_60 ?_
  replace hw : Wd D A (wK cA (hMix hk hg hc hh h0) zS ++ (wLg cA (hMix hk hg hc hh h0) zS 600 ++ (wC cA (hMix hk hg hc hh h0) zS ++ (wH cA (hMix hk hg hc hh h0) zS ++ (wS (hMix hk hg hc hh h0) ++ F))))) s.heap H locs := by
    have x1 : wC cA (hMix hk hg hc hh h0) zS = wC cA hc zS := by
      unfold wC
      rw [e5, e6, ← e1, ← e2]
      rfl
    have x2 : wS (hMix hk hg hc hh h0) = [(h0, .inr (6, [.ref q1, .ref q2, .ref q3, .ref q4]))] := by
      rw [← e1, ← e2, ← e3, ← e4]
      rfl
    rw [x1, x2]
    exact hw.perm (pm4b (wC cA hc zS) (wH cA hh zS) (wLg cA hg zS 600) (wK cA hk zS) _)
  have hq4 : q4 = (hMix hk hg hc hh h0) 42 := e4.symm
  rw [hq4]
  refine q_cvv (As := []) (rest := []) E hw hl (c_X1_begin l D cA tS A (hMix hk hg hc hh h0) 600 (wH cA (hMix hk hg hc hh h0) zS ++ (wS (hMix hk hg hc hh h0) ++ F)) zS sBg rfl) 0 (bwV bw_c tb_354 tb_355 tb_356 tb_105 tb_357) rfl (by decide +kernel) ⟨(Nat.le_of_ble_eq_true rfl), (Nat.le_of_ble_eq_true rfl)⟩ 12 1 (T := TX1) (N := 6) rfl rfl rfl rfl (Nat.le_of_ble_eq_true rfl) ⟨(Nat.le_of_ble_eq_true rfl), (Nat.le_of_ble_eq_true rfl)⟩ dX6_init_63 (fun H locs hw => ?_)
  refine W.widen (k := 39) (n := 4536) (Nat.le_of_ble_eq_true rfl) (Nat.le_of_ble_eq_true rfl) ?_
  exact q_retX E hw ⟨(hMix hk hg hc hh h0), rfl, rfl⟩ dX6_init_66
