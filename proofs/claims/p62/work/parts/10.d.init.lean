/-! the constructors of Log, Desk and State -/
theorem c_X4_init (l : Launch) (D : va_G) (cA : Nat → ClassId) (tS : Nat → Nat) (A : Nat → Prop) (h0 L : Nat) (hL : L ≤ 600) (F : va_W) : CX l yX4_init (Cond.code yX4_init cX4_init 3 none :: bw) 1 4 (4 * L) 13 D cA tS A [.ref h0, .int (nI L)] ((h0, .inr (4, [.null, .null, .null, .null, .int 0])) :: F) none (fun w0 => ∃ h : Nat → Nat, h 41 = h0 ∧ w0 = wLg cA h zS L ++ F) := by
  refine cx_of (by decide +kernel) (Nat.le_of_ble_eq_true rfl) ?_
  intro p e s m below meth c E hKA hnm hw ls hl
  replace E : Ev p cX4_init 3 none RX4 (Cond.code yX4_init cX4_init 3 none :: bw) D cA tS A s m _ meth c := E
  replace hl : lv_has ls 3 [(0, .ref h0), (1, .int (nI L))] := hl
  have hx := E.1.1
  have hb := E.1.2.1
  have em : (if (0 : Int32) < nI L then nI L else 0) = nI L := by
    by_cases q : (0 : Int32) < nI L
    · rw [if_pos q]
    · rw [if_neg q]
      have := z_le.mp (Int32.not_lt.mp q)
      rw [z_nI (by omega), z_0] at this
      exact z_eq.mpr (by rw [z_nI (by omega), z_0]; omega)
  have hn : ¬ nI L < 0 := fun q => by
    have := z_lt.mp q
    rw [z_nI (by omega), z_0] at this
    omega
  refine lv_aload_n hx hb dX4_init_0 rfl (lv_at hl 0 rfl) ?_
  refine q_obj E hl (List.mem_cons_of_mem _ tb_223) (List.mem_cons_of_mem _ tb_72) (List.mem_cons_of_mem _ tb_73) (Nat.le_of_ble_eq_true rfl) (Nat.le_of_ble_eq_true rfl) dX4_init_1 ?_
  refine lv_iconst (v := 0) hx hb dX4_init_4 (by decide) ?_
  refine lv_iload_n hx hb dX4_init_5 rfl (lv_at hl 1 rfl) ?_
  refine va_mmax hx hb (E.1.2.2.1.trans hl.1.symm) E.1.2.2.2.1 (E.1.2.2.2.2 _ (List.mem_cons_of_mem _ tb_224)) (E.1.2.2.2.2 _ (List.mem_cons_of_mem _ tb_225)) (E.1.2.2.2.2 _ (List.mem_cons_of_mem _ tb_54)) (E.1.2.2.2.2 _ (List.mem_cons_of_mem _ tb_226)) (Nat.le_of_ble_eq_true rfl) (Nat.le_of_ble_eq_true rfl) (Nat.zero_le _) (Nat.zero_le _) dX4_init_6 ?_
  rw [em]
  refine lv_istore_n (lv' := [(2, .int (nI L)), (0, .ref h0), (1, .int (nI L))]) hx hb dX4_init_9 rfl hl (by decide) rfl (fun ls hl => ?_)
  refine lv_aload_n hx hb dX4_init_10 rfl (lv_at hl 1 rfl) ?_
  refine lv_iload_n hx hb dX4_init_11 rfl (lv_at hl 0 rfl) ?_
  refine q_newa (atype := .int) (ty := .int) 0 E hw rfl rfl (fun _ _ h => h) (List.mem_cons_of_mem _ tb_105) (N' := L) (fun _ => rfl) hn (nI_clamp (by omega)) (by show L * 4 ≤ 536870912; omega) (Nat.le_of_ble_eq_true rfl) (by show 0 + L ≤ 4 * L; omega) dX4_init_12 (fun q1 H hw => ?_)
  refine q_putF (C := RX4) (T := TX4) (N := 5) (ci := 4) E hnm (fun w h => List.mem_cons_of_mem _ (inX4 w h)) tyX4 tyX4_ok nmX4 hw 1 rfl rfl 0 (by decide) (List.mem_cons_of_mem _ tb_227) rfl rfl rfl rfl (Nat.le_of_ble_eq_true rfl) ((q1, .inl (cA 0, L, .inl (fun _ => 0))) :: (h0, .inr (4, [.ref q1, .null, .null, .null, .int 0])) :: F) rfl dX4_init_14 (fun H locs hw => ?_)
  refine lv_aload_n hx hb dX4_init_17 rfl (lv_at hl 1 rfl) ?_
  refine lv_iload_n hx hb dX4_init_18 rfl (lv_at hl 0 rfl) ?_
  refine q_newa (atype := .int) (ty := .int) 0 E hw rfl rfl (fun _ _ h => h) (List.mem_cons_of_mem _ tb_105) (N' := L) (fun _ => rfl) hn (nI_clamp (by omega)) (by show L * 4 ≤ 536870912; omega) (Nat.le_of_ble_eq_true rfl) (by show 0 + L + L ≤ 4 * L; omega) dX4_init_19 (fun q2 H hw => ?_)
  refine q_putF (C := RX4) (T := TX4) (N := 5) (ci := 4) E hnm (fun w h => List.mem_cons_of_mem _ (inX4 w h)) tyX4 tyX4_ok nmX4 hw 2 rfl rfl 1 (by decide) (List.mem_cons_of_mem _ tb_229) rfl rfl rfl rfl (Nat.le_of_ble_eq_true rfl) ((q2, .inl (cA 0, L, .inl (fun _ => 0))) :: (q1, .inl (cA 0, L, .inl (fun _ => 0))) :: (h0, .inr (4, [.ref q1, .ref q2, .null, .null, .int 0])) :: F) rfl dX4_init_21 (fun H locs hw => ?_)
  refine lv_aload_n hx hb dX4_init_24 rfl (lv_at hl 1 rfl) ?_
  refine lv_iload_n hx hb dX4_init_25 rfl (lv_at hl 0 rfl) ?_
  refine q_newa (atype := .int) (ty := .int) 0 E hw rfl rfl (fun _ _ h => h) (List.mem_cons_of_mem _ tb_105) (N' := L) (fun _ => rfl) hn (nI_clamp (by omega)) (by show L * 4 ≤ 536870912; omega) (Nat.le_of_ble_eq_true rfl) (by show 0 + L + L + L ≤ 4 * L; omega) dX4_init_26 (fun q3 H hw => ?_)
  refine q_putF (C := RX4) (T := TX4) (N := 5) (ci := 4) E hnm (fun w h => List.mem_cons_of_mem _ (inX4 w h)) tyX4 tyX4_ok nmX4 hw 3 rfl rfl 2 (by decide) (List.mem_cons_of_mem _ tb_231) rfl rfl rfl rfl (Nat.le_of_ble_eq_true rfl) ((q3, .inl (cA 0, L, .inl (fun _ => 0))) :: (q2, .inl (cA 0, L, .inl (fun _ => 0))) :: (q1, .inl (cA 0, L, .inl (fun _ => 0))) :: (h0, .inr (4, [.ref q1, .ref q2, .ref q3, .null, .int 0])) :: F) rfl dX4_init_28 (fun H locs hw => ?_)
  refine lv_aload_n hx hb dX4_init_31 rfl (lv_at hl 1 rfl) ?_
  refine lv_iload_n hx hb dX4_init_32 rfl (lv_at hl 0 rfl) ?_
  refine q_newa (atype := .int) (ty := .int) 0 E hw rfl rfl (fun _ _ h => h) (List.mem_cons_of_mem _ tb_105) (N' := L) (fun _ => rfl) hn (nI_clamp (by omega)) (by show L * 4 ≤ 536870912; omega) (Nat.le_of_ble_eq_true rfl) (by show 0 + L + L + L + L ≤ 4 * L; omega) dX4_init_33 (fun q4 H hw => ?_)
  refine q_putF (C := RX4) (T := TX4) (N := 5) (ci := 4) E hnm (fun w h => List.mem_cons_of_mem _ (inX4 w h)) tyX4 tyX4_ok nmX4 hw 4 rfl rfl 3 (by decide) (List.mem_cons_of_mem _ tb_233) rfl rfl rfl rfl (Nat.le_of_ble_eq_true rfl) ((q4, .inl (cA 0, L, .inl (fun _ => 0))) :: (q3, .inl (cA 0, L, .inl (fun _ => 0))) :: (q2, .inl (cA 0, L, .inl (fun _ => 0))) :: (q1, .inl (cA 0, L, .inl (fun _ => 0))) :: (h0, .inr (4, [.ref q1, .ref q2, .ref q3, .ref q4, .int 0])) :: F) rfl dX4_init_35 (fun H locs hw => ?_)
  refine W.widen (k := 4) (n := 4 * L) (Nat.le_of_ble_eq_true rfl) (by omega) ?_
  exact q_retX E (hw.perm ((List.reverse_perm (wLg cA (fun k => if k = 41 then h0 else if k = 8 then q1 else if k = 9 then q2 else if k = 10 then q3 else q4) zS L)).append_right F)) ⟨(fun k => if k = 41 then h0 else if k = 8 then q1 else if k = 9 then q2 else if k = 10 then q3 else q4), rfl, rfl⟩ dX4_init_38
theorem pm3 {α : Type} (a b c : List α) : (a ++ (b ++ c)).Perm (c ++ (b ++ a)) := by
  rw [← List.append_assoc c b a]
  exact List.perm_append_comm.trans (List.Perm.append_right a List.perm_append_comm)
theorem pmS {α : Type} (a b r : List α) : (a ++ (b ++ r)).Perm (b ++ (a ++ r)) := by
  rw [← List.append_assoc, ← List.append_assoc]
  exact List.Perm.append_right r List.perm_append_comm
/-- what beginWeek makes of the empty desk -/
def hDk (hk hg f : Nat → Nat) (h0 q1 a1 a2 q3 q4 : Nat) : Nat → Nat := fun k => if k = 42 then h0 else if k = 40 then hk 40 else if k = 41 then hg 41 else if k = 43 then q1 else if k = 13 then a1 else if k = 14 then a2 else if k = 44 then q4 else if k = 30 then q3 else if k < 7 then hk k else if k < 12 then hg k else f k
theorem pm6d {α : Type} (a b c d e f r : List α) : (a ++ (b ++ (c ++ (d ++ (e ++ (f ++ r)))))).Perm (d ++ (a ++ ((f ++ (e ++ (b ++ c))) ++ r))) := by
  have e1 : a ++ (b ++ (c ++ (d ++ (e ++ (f ++ r))))) = (a ++ ((b ++ c) ++ (d ++ (e ++ f)))) ++ r := by simp only [List.append_assoc]
  have e2 : d ++ (a ++ ((f ++ (e ++ (b ++ c))) ++ r)) = (d ++ (a ++ (f ++ (e ++ (b ++ c))))) ++ r := by simp only [List.append_assoc]
  rw [e1, e2]
  refine List.Perm.append_right r ?_
  exact (List.Perm.append_left a ((pmS (b ++ c) d (e ++ f)).trans (List.Perm.append_left d (pm3 (b ++ c) e f)))).trans (pmS a d _)
theorem c_X1_init (l : Launch) (D : va_G) (cA : Nat → ClassId) (tS : Nat → Nat) (A : Nat → Prop) (h0 L : Nat) (hL : L ≤ 600) (F : va_W) : CX l yX1_init (Cond.code yX1_init cX1_init 2 none :: bw) 3 31 (923 + 4 * L) 93 D cA tS A [.ref h0, .int (nI L)] ((h0, .inr (1, [.null, .null, .null, .null, .null, .int 0])) :: F) none (fun w0 => ∃ h : Nat → Nat, h 42 = h0 ∧ w0 = wK cA h sBg ++ (wLg cA h sBg L ++ (wC cA h sBg ++ F))) := by
  refine cx_of (by decide +kernel) (Nat.le_of_ble_eq_true rfl) ?_
  intro p e s m below meth c E hKA hnm hw ls hl
  replace E : Ev p cX1_init 2 none RX1 (Cond.code yX1_init cX1_init 2 none :: bw) D cA tS A s m _ meth c := E
  replace hl : lv_has ls 2 [(0, .ref h0), (1, .int (nI L))] := hl
  have hx := E.1.1
  have hb := E.1.2.1
  refine lv_aload_n hx hb dX1_init_0 rfl (lv_at hl 0 rfl) ?_
  refine q_obj E hl (List.mem_cons_of_mem _ tb_91) (List.mem_cons_of_mem _ tb_72) (List.mem_cons_of_mem _ tb_73) (Nat.le_of_ble_eq_true rfl) (Nat.le_of_ble_eq_true rfl) dX1_init_1 ?_
  refine lv_aload_n hx hb dX1_init_4 rfl (lv_at hl 0 rfl) ?_
  refine q_new (C := RX0) (T := TX0) (N := 2) (ci := 0) E (fun w h => List.mem_cons_of_mem _ (inX0 w h)) tyX0 tyX0_ok hw rfl (fs := [.null, .null]) (fun j hj => by
      have : j = 0 ∨ j = 1 := by omega
      rcases this with rfl | rfl <;> rfl) (List.mem_cons_of_mem _ tb_92) (List.mem_cons_of_mem _ tb_93) (List.mem_cons_of_mem _ tb_50) (Nat.le_of_ble_eq_true rfl) (by show 0 + 2 ≤ 923 + 4 * L; omega) dX1_init_5 (fun q1 H hw => ?_)
  refine lv_dup hx hb dX1_init_8 rfl ?_
  refine q_ctorN (As := []) E hKA hw hl (c_X0_init l D cA tS A q1 ((h0, .inr (1, [.null, .null, .null, .null, .null, .int 0])) :: F)) 0 (bwc bw_c tb_96) rfl (List.mem_cons_of_mem _ tb_50) (host := "HelpDesk") (by decide +kernel) (List.mem_cons_of_mem _ tb_95) rfl (by decide +kernel) ⟨(Nat.le_of_ble_eq_true rfl), (Nat.le_of_ble_eq_true rfl)⟩ rfl rfl (Nat.le_of_ble_eq_true rfl) ⟨(Nat.le_of_ble_eq_true rfl), (by show 0 + 2 + 14 ≤ 923 + 4 * L; omega)⟩ dX1_init_9 (fun H locs w0 hp hw => ?_)
  obtain ⟨a1, a2, rfl⟩ := hp
  replace hw : Wd D A ((q1, .inr (0, [.ref a1, .ref a2])) :: (a1, .inl (cA 0, 7, .inl (zS 13))) :: (a2, .inl (cA 0, 7, .inl (zS 14))) :: (h0, .inr (1, [.null, .null, .null, .null, .null, .int 0])) :: F) s.heap H locs := hw
  refine q_putF (C := RX1) (T := TX1) (N := 6) (ci := 1) E hnm (fun w h => List.mem_cons_of_mem _ (inX1 w h)) tyX1 tyX1_ok nmX1 hw 3 rfl rfl 0 (by decide) (List.mem_cons_of_mem _ tb_266) rfl rfl rfl rfl (Nat.le_of_ble_eq_true rfl) ((q1, .inr (0, [.ref a1, .ref a2])) :: (a1, .inl (cA 0, 7, .inl (zS 13))) :: (a2, .inl (cA 0, 7, .inl (zS 14))) :: (h0, .inr (1, [.ref q1, .null, .null, .null, .null, .int 0])) :: F) rfl dX1_init_12 (fun H locs hw => ?_)
  refine lv_aload_n hx hb dX1_init_15 rfl (lv_at hl 0 rfl) ?_
  refine q_new (C := RX3) (T := TX3) (N := 7) (ci := 3) E (fun w h => List.mem_cons_of_mem _ (inX3 w h)) tyX3 tyX3_ok hw rfl (fs := [.null, .null, .null, .null, .null, .null, .int 0]) (fun j hj => by
      have : j = 0 ∨ j = 1 ∨ j = 2 ∨ j = 3 ∨ j = 4 ∨ j = 5 ∨ j = 6 := by omega
      rcases this with rfl | rfl | rfl | rfl | rfl | rfl | rfl <;> rfl) (List.mem_cons_of_mem _ tb_106) (List.mem_cons_of_mem _ tb_107) (List.mem_cons_of_mem _ tb_51) (Nat.le_of_ble_eq_true rfl) (by show 0 + 2 + 14 + 7 ≤ 923 + 4 * L; omega) dX1_init_16 (fun q2 H hw => ?_)
  refine lv_dup hx hb dX1_init_19 rfl ?_
  refine q_ctorN (As := []) E hKA hw hl (c_X3_init l D cA tS A q2 ((q1, .inr (0, [.ref a1, .ref a2])) :: (a1, .inl (cA 0, 7, .inl (zS 13))) :: (a2, .inl (cA 0, 7, .inl (zS 14))) :: (h0, .inr (1, [.ref q1, .null, .null, .null, .null, .int 0])) :: F)) 0 (bwc bw_c tb_110) rfl (List.mem_cons_of_mem _ tb_51) (host := "HelpDesk") (by decide +kernel) (List.mem_cons_of_mem _ tb_109) rfl (by decide +kernel) ⟨(Nat.le_of_ble_eq_true rfl), (Nat.le_of_ble_eq_true rfl)⟩ rfl rfl (Nat.le_of_ble_eq_true rfl) ⟨(Nat.le_of_ble_eq_true rfl), (by show 0 + 2 + 14 + 7 + 36 ≤ 923 + 4 * L; omega)⟩ dX1_init_20 (fun H locs w0 hp hw => ?_)
  obtain ⟨hk, e1, rfl⟩ := hp
  refine q_putF (C := RX1) (T := TX1) (N := 6) (ci := 1) E hnm (fun w h => List.mem_cons_of_mem _ (inX1 w h)) tyX1 tyX1_ok nmX1 hw 10 rfl rfl 1 (by decide) (List.mem_cons_of_mem _ tb_268) rfl rfl rfl rfl (Nat.le_of_ble_eq_true rfl) (wK cA hk zS ++ ((q1, .inr (0, [.ref a1, .ref a2])) :: (a1, .inl (cA 0, 7, .inl (zS 13))) :: (a2, .inl (cA 0, 7, .inl (zS 14))) :: (h0, .inr (1, [.ref q1, .ref q2, .null, .null, .null, .int 0])) :: F)) rfl dX1_init_23 (fun H locs hw => ?_)
  refine lv_aload_n hx hb dX1_init_26 rfl (lv_at hl 0 rfl) ?_
  refine lv_iconst (v := 4) hx hb dX1_init_27 (by decide) ?_
  refine q_newa (atype := .int) (ty := .int) 0 E hw rfl rfl (fun _ _ h => h) (List.mem_cons_of_mem _ tb_105) (N' := 4) (fun _ => rfl) (by decide) (by decide) (by decide) (Nat.le_of_ble_eq_true rfl) (by show 0 + 2 + 14 + 7 + 36 + 4 ≤ 923 + 4 * L; omega) dX1_init_28 (fun q3 H hw => ?_)
  refine q_putF (C := RX1) (T := TX1) (N := 6) (ci := 1) E hnm (fun w h => List.mem_cons_of_mem _ (inX1 w h)) tyX1 tyX1_ok nmX1 hw 11 rfl rfl 2 (by decide) (List.mem_cons_of_mem _ tb_270) rfl rfl rfl rfl (Nat.le_of_ble_eq_true rfl) ((q3, .inl (cA 0, 4, .inl (fun _ => 0))) :: (wK cA hk zS ++ ((q1, .inr (0, [.ref a1, .ref a2])) :: (a1, .inl (cA 0, 7, .inl (zS 13))) :: (a2, .inl (cA 0, 7, .inl (zS 14))) :: (h0, .inr (1, [.ref q1, .ref q2, .ref q3, .null, .null, .int 0])) :: F))) rfl dX1_init_30 (fun H locs hw => ?_)
  refine lv_aload_n hx hb dX1_init_33 rfl (lv_at hl 0 rfl) ?_
  refine q_new (C := RX7) (T := TX7) (N := 15) (ci := 7) E (fun w h => List.mem_cons_of_mem _ (inX7 w h)) tyX7 tyX7_ok hw rfl (fs := [.null, .null, .null, .null, .null, .null, .null, .null, .null, .null, .null, .null, .null, .null, .int 0]) (fun j hj => by
      have : j = 0 ∨ j = 1 ∨ j = 2 ∨ j = 3 ∨ j = 4 ∨ j = 5 ∨ j = 6 ∨ j = 7 ∨ j = 8 ∨ j = 9 ∨ j = 10 ∨ j = 11 ∨ j = 12 ∨ j = 13 ∨ j = 14 := by omega
      rcases this with rfl | rfl | rfl | rfl | rfl | rfl | rfl | rfl | rfl | rfl | rfl | rfl | rfl | rfl | rfl <;> rfl) (List.mem_cons_of_mem _ tb_143) (List.mem_cons_of_mem _ tb_144) (List.mem_cons_of_mem _ tb_52) (Nat.le_of_ble_eq_true rfl) (by show 0 + 2 + 14 + 7 + 36 + 4 + 15 ≤ 923 + 4 * L; omega) dX1_init_34 (fun q4 H hw => ?_)
  refine lv_dup hx hb dX1_init_37 rfl ?_
  refine q_ctorN (As := []) E hKA hw hl (c_X7_init l D cA tS A q4 ((q3, .inl (cA 0, 4, .inl (fun _ => 0))) :: (wK cA hk zS ++ ((q1, .inr (0, [.ref a1, .ref a2])) :: (a1, .inl (cA 0, 7, .inl (zS 13))) :: (a2, .inl (cA 0, 7, .inl (zS 14))) :: (h0, .inr (1, [.ref q1, .ref q2, .ref q3, .null, .null, .int 0])) :: F)))) 0 (bwc bw_c tb_147) rfl (List.mem_cons_of_mem _ tb_52) (host := "HelpDesk") (by decide +kernel) (List.mem_cons_of_mem _ tb_146) rfl (by decide +kernel) ⟨(Nat.le_of_ble_eq_true rfl), (Nat.le_of_ble_eq_true rfl)⟩ rfl rfl (Nat.le_of_ble_eq_true rfl) ⟨(Nat.le_of_ble_eq_true rfl), (by show 0 + 2 + 14 + 7 + 36 + 4 + 15 + 840 ≤ 923 + 4 * L; omega)⟩ dX1_init_38 (fun H locs w0 hp hw => ?_)
  obtain ⟨f, rfl⟩ := hp
  refine q_putF (C := RX1) (T := TX1) (N := 6) (ci := 1) E hnm (fun w h => List.mem_cons_of_mem _ (inX1 w h)) tyX1 tyX1_ok nmX1 hw 26 rfl rfl 3 (by decide) (List.mem_cons_of_mem _ tb_272) rfl rfl rfl rfl (Nat.le_of_ble_eq_true rfl) (wTk cA f q4 ++ ((q3, .inl (cA 0, 4, .inl (fun _ => 0))) :: (wK cA hk zS ++ ((q1, .inr (0, [.ref a1, .ref a2])) :: (a1, .inl (cA 0, 7, .inl (zS 13))) :: (a2, .inl (cA 0, 7, .inl (zS 14))) :: (h0, .inr (1, [.ref q1, .ref q2, .ref q3, .ref q4, .null, .int 0])) :: F)))) rfl dX1_init_41 (fun H locs hw => ?_)
  refine lv_aload_n hx hb dX1_init_44 rfl (lv_at hl 0 rfl) ?_
  refine q_new (C := RX4) (T := TX4) (N := 5) (ci := 4) E (fun w h => List.mem_cons_of_mem _ (inX4 w h)) tyX4 tyX4_ok hw rfl (fs := [.null, .null, .null, .null, .int 0]) (fun j hj => by
      have : j = 0 ∨ j = 1 ∨ j = 2 ∨ j = 3 ∨ j = 4 := by omega
      rcases this with rfl | rfl | rfl | rfl | rfl <;> rfl) (List.mem_cons_of_mem _ tb_218) (List.mem_cons_of_mem _ tb_219) (List.mem_cons_of_mem _ tb_53) (Nat.le_of_ble_eq_true rfl) (by show 0 + 2 + 14 + 7 + 36 + 4 + 15 + 840 + 5 ≤ 923 + 4 * L; omega) dX1_init_45 (fun q5 H hw => ?_)
  refine lv_dup hx hb dX1_init_48 rfl ?_
  refine lv_iload_n hx hb dX1_init_49 rfl (lv_at hl 1 rfl) ?_
  refine q_ctor (As := [.int (nI L)]) E hKA hw hl (c_X4_init l D cA tS A q5 L hL (wTk cA f q4 ++ ((q3, .inl (cA 0, 4, .inl (fun _ => 0))) :: (wK cA hk zS ++ ((q1, .inr (0, [.ref a1, .ref a2])) :: (a1, .inl (cA 0, 7, .inl (zS 13))) :: (a2, .inl (cA 0, 7, .inl (zS 14))) :: (h0, .inr (1, [.ref q1, .ref q2, .ref q3, .ref q4, .null, .int 0])) :: F))))) 1 (bwc bw_c tb_222) rfl (List.mem_cons_of_mem _ tb_53) (List.mem_cons_of_mem _ tb_220) (List.mem_cons_of_mem _ tb_221) rfl (by decide +kernel) ⟨(Nat.le_of_ble_eq_true rfl), (Nat.le_of_ble_eq_true rfl)⟩ rfl rfl (Nat.le_of_ble_eq_true rfl) ⟨(Nat.le_of_ble_eq_true rfl), (by show 0 + 2 + 14 + 7 + 36 + 4 + 15 + 840 + 5 + 4 * L ≤ 923 + 4 * L; omega)⟩ dX1_init_50 (fun H locs w0 hp hw => ?_)
  obtain ⟨hg, e2, rfl⟩ := hp
  refine q_putF (C := RX1) (T := TX1) (N := 6) (ci := 1) E hnm (fun w h => List.mem_cons_of_mem _ (inX1 w h)) tyX1 tyX1_ok nmX1 hw 31 rfl rfl 4 (by decide) (List.mem_cons_of_mem _ tb_274) rfl rfl rfl rfl (Nat.le_of_ble_eq_true rfl) (wLg cA hg zS L ++ (wTk cA f q4 ++ ((q3, .inl (cA 0, 4, .inl (fun _ => 0))) :: (wK cA hk zS ++ ((q1, .inr (0, [.ref a1, .ref a2])) :: (a1, .inl (cA 0, 7, .inl (zS 13))) :: (a2, .inl (cA 0, 7, .inl (zS 14))) :: (h0, .inr (1, [.ref q1, .ref q2, .ref q3, .ref q4, .ref q5, .int 0])) :: F))))) rfl dX1_init_53 (fun H locs hw => ?_)
  replace hw : Wd D A (wK cA (hDk hk hg f h0 q1 a1 a2 q3 q4) zS ++ (wLg cA (hDk hk hg f h0 q1 a1 a2 q3 q4) zS L ++ (wC cA (hDk hk hg f h0 q1 a1 a2 q3 q4) zS ++ F))) s.heap H locs := by
    have x1 : wC cA (hDk hk hg f h0 q1 a1 a2 q3 q4) zS = ([(h0, .inr (1, [.ref q1, .ref q2, .ref q3, .ref q4, .ref q5, .int 0]))] : va_W) ++ (([(q1, .inr (0, [.ref a1, .ref a2])), (a1, .inl (cA 0, 7, .inl (zS 13))), (a2, .inl (cA 0, 7, .inl (zS 14)))] : va_W) ++ (wTk cA f q4 ++ ([(q3, .inl (cA 0, 4, .inl (fun _ => 0)))] : va_W))) := by
      unfold wC wTk
      rw [← e1, ← e2]
      rfl
    have x2 : wK cA (hDk hk hg f h0 q1 a1 a2 q3 q4) zS = wK cA hk zS := rfl
    have x3 : wLg cA (hDk hk hg f h0 q1 a1 a2 q3 q4) zS L = wLg cA hg zS L := rfl
    rw [x1, x2, x3]
    exact hw.perm (pm6d (wLg cA hg zS L) (wTk cA f q4) ([(q3, .inl (cA 0, 4, .inl (fun _ => 0)))] : va_W) (wK cA hk zS) ([(q1, .inr (0, [.ref a1, .ref a2])), (a1, .inl (cA 0, 7, .inl (zS 13))), (a2, .inl (cA 0, 7, .inl (zS 14)))] : va_W) ([(h0, .inr (1, [.ref q1, .ref q2, .ref q3, .ref q4, .ref q5, .int 0]))] : va_W) F)
  refine lv_aload_n hx hb dX1_init_56 rfl (lv_at hl 0 rfl) ?_
  refine q_cvv (As := []) (rest := []) E hw hl (c_X1_beginWeek l D cA tS A (hDk hk hg f h0 q1 a1 a2 q3 q4) L F zS sBg rfl) 0 (bwV bw_c tb_248 tb_249 tb_250 tb_49 tb_251) rfl (by decide +kernel) ⟨(Nat.le_of_ble_eq_true rfl), (Nat.le_of_ble_eq_true rfl)⟩ 12 1 (T := TX1) (N := 6) rfl rfl rfl rfl (Nat.le_of_ble_eq_true rfl) ⟨(Nat.le_of_ble_eq_true rfl), (by show 0 + 2 + 14 + 7 + 36 + 4 + 15 + 840 + 5 + 4 * L ≤ 923 + 4 * L; omega)⟩ dX1_init_57 (fun H locs hw => ?_)
  refine W.widen (k := 31) (n := 923 + 4 * L) (Nat.le_of_ble_eq_true rfl) (by omega) ?_
  exact q_retX E hw ⟨(hDk hk hg f h0 q1 a1 a2 q3 q4), rfl, rfl⟩ dX1_init_60
def hMix (hc hh : Nat → Nat) (h0 : Nat) : Nat → Nat := fun k => if k = 46 then h0 else if k = 45 then hh 45 else if k < 31 then hc k else if k < 38 then hh k else hc k
theorem pm4s {α : Type} (a b c d r : List α) : (a ++ (b ++ (c ++ (d ++ r)))).Perm (b ++ (c ++ (d ++ (a ++ r)))) := by
  have e1 : b ++ (c ++ (d ++ r)) = (b ++ (c ++ d)) ++ r := by simp only [List.append_assoc]
  have e2 : b ++ (c ++ (d ++ (a ++ r))) = (b ++ (c ++ d)) ++ (a ++ r) := by simp only [List.append_assoc]
  rw [e1, e2]
  exact pmS _ _ _
theorem c_X6_init (l : Launch) (D : va_G) (cA : Nat → ClassId) (tS : Nat → Nat) (A : Nat → Prop) (h0 : Nat) (F : va_W) : CX l yX6_init (Cond.code yX6_init cX6_init 1 none :: bw) 4 39 (4536) 114 D cA tS A [.ref h0] ((h0, .inr (6, [.null, .null])) :: F) none (fun w0 => ∃ (h : Nat → Nat), h 46 = h0 ∧ w0 = wK cA h sBg ++ (wLg cA h sBg 600 ++ (wC cA h sBg ++ (wH cA h sBg ++ (wS h ++ F))))) := by
  refine cx_of (by decide +kernel) (Nat.le_of_ble_eq_true rfl) ?_
  intro p e s m below meth c E hKA hnm hw ls hl
  replace E : Ev p cX6_init 1 none RX6 (Cond.code yX6_init cX6_init 1 none :: bw) D cA tS A s m _ meth c := E
  replace hl : lv_has ls 1 [(0, .ref h0)] := hl
  have hx := E.1.1
  have hb := E.1.2.1
  refine lv_aload_n hx hb dX6_init_0 rfl (lv_at hl 0 rfl) ?_
  refine q_obj E hl (List.mem_cons_of_mem _ tb_85) (List.mem_cons_of_mem _ tb_72) (List.mem_cons_of_mem _ tb_73) (Nat.le_of_ble_eq_true rfl) (Nat.le_of_ble_eq_true rfl) dX6_init_1 ?_
  refine lv_aload_n hx hb dX6_init_4 rfl (lv_at hl 0 rfl) ?_
  refine q_new (C := RX1) (T := TX1) (N := 6) (ci := 1) E (fun w h => List.mem_cons_of_mem _ (inX1 w h)) tyX1 tyX1_ok hw rfl (fs := [.null, .null, .null, .null, .null, .int 0]) (fun j hj => by
      have : j = 0 ∨ j = 1 ∨ j = 2 ∨ j = 3 ∨ j = 4 ∨ j = 5 := by omega
      rcases this with rfl | rfl | rfl | rfl | rfl | rfl <;> rfl) (List.mem_cons_of_mem _ tb_86) (List.mem_cons_of_mem _ tb_87) (List.mem_cons_of_mem _ tb_49) (Nat.le_of_ble_eq_true rfl) (Nat.le_of_ble_eq_true rfl) dX6_init_5 (fun q1 H hw => ?_)
  refine lv_dup hx hb dX6_init_8 rfl ?_
  refine lv_sipush (v := 600) hx hb dX6_init_9 (by decide) ?_
  refine q_ctor (As := [.int 600]) E hKA hw hl (c_X1_init l D cA tS A q1 600 (Nat.le_refl _) ((h0, .inr (6, [.null, .null])) :: F)) 1 (bwc bw_c tb_90) rfl (List.mem_cons_of_mem _ tb_49) (List.mem_cons_of_mem _ tb_88) (List.mem_cons_of_mem _ tb_89) rfl (by decide +kernel) ⟨(Nat.le_of_ble_eq_true rfl), (Nat.le_of_ble_eq_true rfl)⟩ rfl rfl (Nat.le_of_ble_eq_true rfl) ⟨(Nat.le_of_ble_eq_true rfl), (Nat.le_of_ble_eq_true rfl)⟩ dX6_init_12 (fun H locs w0 hp hw => ?_)
  obtain ⟨hc, e1, rfl⟩ := hp
  refine q_putF (C := RX6) (T := TX6) (N := 2) (ci := 6) E hnm (fun w h => List.mem_cons_of_mem _ (inX6 w h)) tyX6 tyX6_ok nmX6 hw 32 rfl rfl 0 (by decide) (List.mem_cons_of_mem _ tb_320) rfl rfl rfl rfl (Nat.le_of_ble_eq_true rfl) (wK cA hc sBg ++ (wLg cA hc sBg 600 ++ (wC cA hc sBg ++ ((h0, .inr (6, [.ref q1, .null])) :: F)))) rfl dX6_init_15 (fun H locs hw => ?_)
  refine lv_aload_n hx hb dX6_init_18 rfl (lv_at hl 0 rfl) ?_
  refine q_new (C := RX2) (T := TX2) (N := 7) (ci := 2) E (fun w h => List.mem_cons_of_mem _ (inX2 w h)) tyX2 tyX2_ok hw rfl (fs := [.null, .null, .null, .null, .null, .null, .int 0]) (fun j hj => by
      have : j = 0 ∨ j = 1 ∨ j = 2 ∨ j = 3 ∨ j = 4 ∨ j = 5 ∨ j = 6 := by omega
      rcases this with rfl | rfl | rfl | rfl | rfl | rfl | rfl <;> rfl) (List.mem_cons_of_mem _ tb_291) (List.mem_cons_of_mem _ tb_292) (List.mem_cons_of_mem _ tb_57) (Nat.le_of_ble_eq_true rfl) (Nat.le_of_ble_eq_true rfl) dX6_init_19 (fun q2 H hw => ?_)
  refine lv_dup hx hb dX6_init_22 rfl ?_
  refine q_ctorN (As := []) E hKA hw hl (c_X2_init l D cA tS A q2 (wK cA hc sBg ++ (wLg cA hc sBg 600 ++ (wC cA hc sBg ++ ((h0, .inr (6, [.ref q1, .null])) :: F))))) 0 (bwc bw_c tb_295) rfl (List.mem_cons_of_mem _ tb_57) (host := "HelpDesk") (by decide +kernel) (List.mem_cons_of_mem _ tb_294) rfl (by decide +kernel) ⟨(Nat.le_of_ble_eq_true rfl), (Nat.le_of_ble_eq_true rfl)⟩ rfl rfl (Nat.le_of_ble_eq_true rfl) ⟨(Nat.le_of_ble_eq_true rfl), (Nat.le_of_ble_eq_true rfl)⟩ dX6_init_23 (fun H locs w0 hp hw => ?_)
  obtain ⟨hh, e2, rfl⟩ := hp
  refine q_putF (C := RX6) (T := TX6) (N := 2) (ci := 6) E hnm (fun w h => List.mem_cons_of_mem _ (inX6 w h)) tyX6 tyX6_ok nmX6 hw 39 rfl rfl 1 (by decide) (List.mem_cons_of_mem _ tb_322) rfl rfl rfl rfl (Nat.le_of_ble_eq_true rfl) (wH cA hh zS ++ (wK cA hc sBg ++ (wLg cA hc sBg 600 ++ (wC cA hc sBg ++ ((h0, .inr (6, [.ref q1, .ref q2])) :: F))))) rfl dX6_init_26 (fun H locs hw => ?_)
  replace hw : Wd D A (wK cA (hMix hc hh h0) sBg ++ (wLg cA (hMix hc hh h0) sBg 600 ++ (wC cA (hMix hc hh h0) sBg ++ (wH cA (hMix hc hh h0) sBg ++ (wS (hMix hc hh h0) ++ F))))) s.heap H locs := by
    have x1 : wS (hMix hc hh h0) = [(h0, .inr (6, [.ref q1, .ref q2]))] := by
      rw [← e1, ← e2]
      rfl
    have x2 : wH cA (hMix hc hh h0) sBg = wH cA hh zS := rfl
    have x3 : wK cA (hMix hc hh h0) sBg = wK cA hc sBg := rfl
    have x4 : wLg cA (hMix hc hh h0) sBg 600 = wLg cA hc sBg 600 := rfl
    have x5 : wC cA (hMix hc hh h0) sBg = wC cA hc sBg := rfl
    rw [x1, x2, x3, x4, x5]
    exact hw.perm (pm4s (wH cA hh zS) (wK cA hc sBg) (wLg cA hc sBg 600) (wC cA hc sBg) _)
  refine W.widen (k := 39) (n := 4536) (Nat.le_of_ble_eq_true rfl) (Nat.le_of_ble_eq_true rfl) ?_
  exact q_retX E hw ⟨(hMix hc hh h0), rfl, rfl⟩ dX6_init_29
