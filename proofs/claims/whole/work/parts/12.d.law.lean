/-! the law's cases -/
section HLC
variable {p : Program} {e : Env} {s : State} {m : MethodId} {below : List Frame} {meth : Method} {c : Code} {H : Heap} {locs : List Loc} {cells slots : Nat} {Q : State → Prop}
variable {D : va_G} {cA : Nat → ClassId} {tS : Nat → Nat} {A : Nat → Prop} {ls : Array Slot} {b L ax sv : Nat} {xs : Nat → Int32} {x3 : Int32}
variable {h t z y : Nat → Nat} {σ τ κ μ : Sg} {wd : Int64} {f : Nat → Option Nat} {V0 V1 : va_W}
/-- join -/
theorem lc_15 (l : Launch) (E : Ev p cL_law 4 ret RL lw_tbl D cA tS A s m #[Value.ref b] meth c) (hKA : KA cA s) (hX : va_X b L xs s s.heap) (hbl : b < s.heap.size) (hbA : ¬ A b) (hl : lv_has ls 4 [(3, .int x3), (2, .ref (y 0)), (1, .ref ax), (0, .ref b)]) (hd : ∀ k : Nat, k ≤ 6 → vp_in (x3 + nI k) L) (hf0 : cells + 40 ≤ 600000 ∧ slots + 4540 ≤ 7302249) (X : LX cA σ τ κ μ f V0 V1) (hw : Wd D A (wQ cA h t z y ax sv σ τ κ μ wd f V0 V1) s.heap H locs)
    (hk : ∀ (σ' τ' κ' μ' : Sg) (wd' : Int64) (f' : Nat → Option Nat) (V0' V1' : va_W) (H1 : Heap) (locs1 : List Loc), LX cA σ' τ' κ' μ' f' V0' V1' → Wd D A (wQ cA h t z y ax sv σ' τ' κ' μ' wd' f' V0' V1') s.heap H1 locs1 → W p l e room_1 s m #[Value.ref b] below meth c H1 locs1 (cells + 40) (slots + 4540) Q (F0 m 1711 ls [])) :
    W p l e room_1 s m #[Value.ref b] below meth c H locs cells slots Q (F0 m 757 ls []) := by
  have hx := E.1.1
  have hb := E.1.2.1
  have hf1 : cells ≤ room_1.cells ∧ slots ≤ room_1.slots := ⟨by show cells ≤ 600000; omega, by show slots ≤ 7302249; omega⟩
  unfold wQ at hw
  obtain ⟨r, σ1, μ1, g1, g2, X1⟩ := L_ch X (show TY 9 8 from by unfold TY; decide) (xs (x3 + 1).toNatClampNeg) (xs (x3 + 2).toNatClampNeg) 0 0 wd
  have h1 : f_X8_join NN (xs (x3 + 1).toNatClampNeg) (xs (x3 + 2).toNatClampNeg) σ = some (r, σ1) := by
    unfold f_X8_join
    rw [g1]
    rfl
  have h2 : f_X9_join NN (xs (x3 + 1).toNatClampNeg) (xs (x3 + 2).toNatClampNeg) μ wd = some (r, μ1) := by
    unfold f_X9_join
    rw [g2]
    rfl
  refine lv_aload_n hx hb dL_law_757 rfl (lv_at hl 2 rfl) ?_
  refine lv_aload_n hx hb dL_law_758 rfl (lv_at hl 3 rfl) ?_
  refine lv_iload_n hx hb dL_law_759 rfl (lv_at hl 0 rfl) ?_
  refine lv_iconst (v := 1) hx hb dL_law_760 (by decide) ?_
  refine lv_iadd hx hb dL_law_761 ?_
  refine va_sld hx hb hX hbl hbA hw.2.2 (hd 1 (by decide)) dL_law_762 ?_
  refine lv_aload_n hx hb dL_law_763 rfl (lv_at hl 3 rfl) ?_
  refine lv_iload_n hx hb dL_law_764 rfl (lv_at hl 0 rfl) ?_
  refine lv_iconst (v := 2) hx hb dL_law_765 (by decide) ?_
  refine lv_iadd hx hb dL_law_766 ?_
  refine va_sld hx hb hX hbl hbA hw.2.2 (hd 2 (by decide)) dL_law_767 ?_
  refine lx_cv (As := [.int (xs (x3 + 1).toNatClampNeg), .int (xs (x3 + 2).toNatClampNeg)]) (rest := []) (σ' := σ1) (κ' := κ) (τ' := τ) E hw hl (c_X8_join l D cA tS A h ax sv (t 42) (z 60) _ NN (xs (x3 + 1).toNatClampNeg) (xs (x3 + 2).toNatClampNeg) σ r σ1 h1) 2 (bwV bw_l tb_662 tb_663 tb_664 tb_99 tb_665) rfl (by decide +kernel) ⟨(Nat.le_of_ble_eq_true rfl), (Nat.le_of_ble_eq_true rfl)⟩ rfl rfl (Nat.le_of_ble_eq_true rfl) hf1 dL_law_768 (fun H locs hw => ?_)
  refine lv_aload_n hx hb dL_law_771 rfl (lv_at hl 1 rfl) ?_
  refine lv_aload_n hx hb dL_law_772 rfl (lv_at hl 3 rfl) ?_
  refine lv_iload_n hx hb dL_law_773 rfl (lv_at hl 0 rfl) ?_
  refine lv_iconst (v := 1) hx hb dL_law_774 (by decide) ?_
  refine lv_iadd hx hb dL_law_775 ?_
  refine va_sld hx hb hX hbl hbA hw.2.2 (hd 1 (by decide)) dL_law_776 ?_
  refine lv_aload_n hx hb dL_law_777 rfl (lv_at hl 3 rfl) ?_
  refine lv_iload_n hx hb dL_law_778 rfl (lv_at hl 0 rfl) ?_
  refine lv_iconst (v := 2) hx hb dL_law_779 (by decide) ?_
  refine lv_iadd hx hb dL_law_780 ?_
  refine va_sld hx hb hX hbl hbA hw.2.2 (hd 2 (by decide)) dL_law_781 ?_
  refine lm_cv (As := [.int (xs (x3 + 1).toNatClampNeg), .int (xs (x3 + 2).toNatClampNeg)]) (rest := [.int r]) (μ' := μ1) (wd' := wd) E hw hl (c_X9_join l D cA tS A y _ NN (xs (x3 + 1).toNatClampNeg) (xs (x3 + 2).toNatClampNeg) μ wd r μ1 h2) 2 (bwV bw_l tb_1371 tb_1372 tb_1373 tb_111 tb_1374) rfl (by decide +kernel) ⟨(Nat.le_of_ble_eq_true rfl), (Nat.le_of_ble_eq_true rfl)⟩ rfl rfl (Nat.le_of_ble_eq_true rfl) hf1 dL_law_782 (fun H locs hw => ?_)
  refine lv_icmp_eq (tgt := 1711) hx hb dL_law_785 (by decide) (fun _ => ?_) (fun q => absurd rfl q)
  exact W.widen (Nat.le_add_right _ _) (Nat.le_add_right _ _) (hk _ _ _ _ _ _ _ _ _ _ X1 hw)
/-- part -/
theorem lc_16 (l : Launch) (E : Ev p cL_law 4 ret RL lw_tbl D cA tS A s m #[Value.ref b] meth c) (hKA : KA cA s) (hX : va_X b L xs s s.heap) (hbl : b < s.heap.size) (hbA : ¬ A b) (hl : lv_has ls 4 [(3, .int x3), (2, .ref (y 0)), (1, .ref ax), (0, .ref b)]) (hd : ∀ k : Nat, k ≤ 6 → vp_in (x3 + nI k) L) (hf0 : cells + 40 ≤ 600000 ∧ slots + 4540 ≤ 7302249) (X : LX cA σ τ κ μ f V0 V1) (hw : Wd D A (wQ cA h t z y ax sv σ τ κ μ wd f V0 V1) s.heap H locs)
    (hk : ∀ (σ' τ' κ' μ' : Sg) (wd' : Int64) (f' : Nat → Option Nat) (V0' V1' : va_W) (H1 : Heap) (locs1 : List Loc), LX cA σ' τ' κ' μ' f' V0' V1' → Wd D A (wQ cA h t z y ax sv σ' τ' κ' μ' wd' f' V0' V1') s.heap H1 locs1 → W p l e room_1 s m #[Value.ref b] below meth c H1 locs1 (cells + 40) (slots + 4540) Q (F0 m 1711 ls [])) :
    W p l e room_1 s m #[Value.ref b] below meth c H locs cells slots Q (F0 m 790 ls []) := by
  have hx := E.1.1
  have hb := E.1.2.1
  have hf1 : cells ≤ room_1.cells ∧ slots ≤ room_1.slots := ⟨by show cells ≤ 600000; omega, by show slots ≤ 7302249; omega⟩
  unfold wQ at hw
  obtain ⟨r, σ1, μ1, g1, g2, X1⟩ := L_ch X (show TY 10 9 from by unfold TY; decide) (xs (x3 + 1).toNatClampNeg) 0 0 0 wd
  have h1 : f_X8_part NN (xs (x3 + 1).toNatClampNeg) σ = some (r, σ1) := by
    unfold f_X8_part
    rw [g1]
    rfl
  have h2 : f_X9_part NN (xs (x3 + 1).toNatClampNeg) μ wd = some (r, μ1) := by
    unfold f_X9_part
    rw [g2]
    rfl
  refine lv_aload_n hx hb dL_law_790 rfl (lv_at hl 2 rfl) ?_
  refine lv_aload_n hx hb dL_law_791 rfl (lv_at hl 3 rfl) ?_
  refine lv_iload_n hx hb dL_law_792 rfl (lv_at hl 0 rfl) ?_
  refine lv_iconst (v := 1) hx hb dL_law_793 (by decide) ?_
  refine lv_iadd hx hb dL_law_794 ?_
  refine va_sld hx hb hX hbl hbA hw.2.2 (hd 1 (by decide)) dL_law_795 ?_
  refine lx_cv (As := [.int (xs (x3 + 1).toNatClampNeg)]) (rest := []) (σ' := σ1) (κ' := κ) (τ' := τ) E hw hl (c_X8_part l D cA tS A h ax sv (t 42) (z 60) _ NN (xs (x3 + 1).toNatClampNeg) σ r σ1 h1) 1 (bwV bw_l tb_666 tb_667 tb_668 tb_99 tb_669) rfl (by decide +kernel) ⟨(Nat.le_of_ble_eq_true rfl), (Nat.le_of_ble_eq_true rfl)⟩ rfl rfl (Nat.le_of_ble_eq_true rfl) hf1 dL_law_796 (fun H locs hw => ?_)
  refine lv_aload_n hx hb dL_law_799 rfl (lv_at hl 1 rfl) ?_
  refine lv_aload_n hx hb dL_law_800 rfl (lv_at hl 3 rfl) ?_
  refine lv_iload_n hx hb dL_law_801 rfl (lv_at hl 0 rfl) ?_
  refine lv_iconst (v := 1) hx hb dL_law_802 (by decide) ?_
  refine lv_iadd hx hb dL_law_803 ?_
  refine va_sld hx hb hX hbl hbA hw.2.2 (hd 1 (by decide)) dL_law_804 ?_
  refine lm_cv (As := [.int (xs (x3 + 1).toNatClampNeg)]) (rest := [.int r]) (μ' := μ1) (wd' := wd) E hw hl (c_X9_part l D cA tS A y _ NN (xs (x3 + 1).toNatClampNeg) μ wd r μ1 h2) 1 (bwV bw_l tb_1375 tb_1376 tb_1377 tb_111 tb_1378) rfl (by decide +kernel) ⟨(Nat.le_of_ble_eq_true rfl), (Nat.le_of_ble_eq_true rfl)⟩ rfl rfl (Nat.le_of_ble_eq_true rfl) hf1 dL_law_805 (fun H locs hw => ?_)
  refine lv_icmp_eq (tgt := 1711) hx hb dL_law_808 (by decide) (fun _ => ?_) (fun q => absurd rfl q)
  exact W.widen (Nat.le_add_right _ _) (Nat.le_add_right _ _) (hk _ _ _ _ _ _ _ _ _ _ X1 hw)
/-- setPriority -/
theorem lc_17 (l : Launch) (E : Ev p cL_law 4 ret RL lw_tbl D cA tS A s m #[Value.ref b] meth c) (hKA : KA cA s) (hX : va_X b L xs s s.heap) (hbl : b < s.heap.size) (hbA : ¬ A b) (hl : lv_has ls 4 [(3, .int x3), (2, .ref (y 0)), (1, .ref ax), (0, .ref b)]) (hd : ∀ k : Nat, k ≤ 6 → vp_in (x3 + nI k) L) (hf0 : cells + 40 ≤ 600000 ∧ slots + 4540 ≤ 7302249) (X : LX cA σ τ κ μ f V0 V1) (hw : Wd D A (wQ cA h t z y ax sv σ τ κ μ wd f V0 V1) s.heap H locs)
    (hk : ∀ (σ' τ' κ' μ' : Sg) (wd' : Int64) (f' : Nat → Option Nat) (V0' V1' : va_W) (H1 : Heap) (locs1 : List Loc), LX cA σ' τ' κ' μ' f' V0' V1' → Wd D A (wQ cA h t z y ax sv σ' τ' κ' μ' wd' f' V0' V1') s.heap H1 locs1 → W p l e room_1 s m #[Value.ref b] below meth c H1 locs1 (cells + 40) (slots + 4540) Q (F0 m 1711 ls [])) :
    W p l e room_1 s m #[Value.ref b] below meth c H locs cells slots Q (F0 m 813 ls []) := by
  have hx := E.1.1
  have hb := E.1.2.1
  have hf1 : cells ≤ room_1.cells ∧ slots ≤ room_1.slots := ⟨by show cells ≤ 600000; omega, by show slots ≤ 7302249; omega⟩
  unfold wQ at hw
  obtain ⟨r, σ1, μ1, g1, g2, X1⟩ := L_ch X (show TY 11 10 from by unfold TY; decide) (xs (x3 + 1).toNatClampNeg) (xs (x3 + 2).toNatClampNeg) 0 0 wd
  have h1 : f_X8_setPriority NN (xs (x3 + 1).toNatClampNeg) (xs (x3 + 2).toNatClampNeg) σ = some (r, σ1) := by
    unfold f_X8_setPriority
    rw [g1]
    rfl
  have h2 : f_X9_setPriority NN (xs (x3 + 1).toNatClampNeg) (xs (x3 + 2).toNatClampNeg) μ wd = some (r, μ1) := by
    unfold f_X9_setPriority
    rw [g2]
    rfl
  refine lv_aload_n hx hb dL_law_813 rfl (lv_at hl 2 rfl) ?_
  refine lv_aload_n hx hb dL_law_814 rfl (lv_at hl 3 rfl) ?_
  refine lv_iload_n hx hb dL_law_815 rfl (lv_at hl 0 rfl) ?_
  refine lv_iconst (v := 1) hx hb dL_law_816 (by decide) ?_
  refine lv_iadd hx hb dL_law_817 ?_
  refine va_sld hx hb hX hbl hbA hw.2.2 (hd 1 (by decide)) dL_law_818 ?_
  refine lv_aload_n hx hb dL_law_819 rfl (lv_at hl 3 rfl) ?_
  refine lv_iload_n hx hb dL_law_820 rfl (lv_at hl 0 rfl) ?_
  refine lv_iconst (v := 2) hx hb dL_law_821 (by decide) ?_
  refine lv_iadd hx hb dL_law_822 ?_
  refine va_sld hx hb hX hbl hbA hw.2.2 (hd 2 (by decide)) dL_law_823 ?_
  refine lx_cv (As := [.int (xs (x3 + 1).toNatClampNeg), .int (xs (x3 + 2).toNatClampNeg)]) (rest := []) (σ' := σ1) (κ' := κ) (τ' := τ) E hw hl (c_X8_setPriority l D cA tS A h ax sv (t 42) (z 60) _ NN (xs (x3 + 1).toNatClampNeg) (xs (x3 + 2).toNatClampNeg) σ r σ1 h1) 2 (bwV bw_l tb_670 tb_671 tb_672 tb_99 tb_673) rfl (by decide +kernel) ⟨(Nat.le_of_ble_eq_true rfl), (Nat.le_of_ble_eq_true rfl)⟩ rfl rfl (Nat.le_of_ble_eq_true rfl) hf1 dL_law_824 (fun H locs hw => ?_)
  refine lv_aload_n hx hb dL_law_827 rfl (lv_at hl 1 rfl) ?_
  refine lv_aload_n hx hb dL_law_828 rfl (lv_at hl 3 rfl) ?_
  refine lv_iload_n hx hb dL_law_829 rfl (lv_at hl 0 rfl) ?_
  refine lv_iconst (v := 1) hx hb dL_law_830 (by decide) ?_
  refine lv_iadd hx hb dL_law_831 ?_
  refine va_sld hx hb hX hbl hbA hw.2.2 (hd 1 (by decide)) dL_law_832 ?_
  refine lv_aload_n hx hb dL_law_833 rfl (lv_at hl 3 rfl) ?_
  refine lv_iload_n hx hb dL_law_834 rfl (lv_at hl 0 rfl) ?_
  refine lv_iconst (v := 2) hx hb dL_law_835 (by decide) ?_
  refine lv_iadd hx hb dL_law_836 ?_
  refine va_sld hx hb hX hbl hbA hw.2.2 (hd 2 (by decide)) dL_law_837 ?_
  refine lm_cv (As := [.int (xs (x3 + 1).toNatClampNeg), .int (xs (x3 + 2).toNatClampNeg)]) (rest := [.int r]) (μ' := μ1) (wd' := wd) E hw hl (c_X9_setPriority l D cA tS A y _ NN (xs (x3 + 1).toNatClampNeg) (xs (x3 + 2).toNatClampNeg) μ wd r μ1 h2) 2 (bwV bw_l tb_1379 tb_1380 tb_1381 tb_111 tb_1382) rfl (by decide +kernel) ⟨(Nat.le_of_ble_eq_true rfl), (Nat.le_of_ble_eq_true rfl)⟩ rfl rfl (Nat.le_of_ble_eq_true rfl) hf1 dL_law_838 (fun H locs hw => ?_)
  refine lv_icmp_eq (tgt := 1711) hx hb dL_law_841 (by decide) (fun _ => ?_) (fun q => absurd rfl q)
  exact W.widen (Nat.le_add_right _ _) (Nat.le_add_right _ _) (hk _ _ _ _ _ _ _ _ _ _ X1 hw)
/-- pass -/
theorem lc_18 (l : Launch) (E : Ev p cL_law 4 ret RL lw_tbl D cA tS A s m #[Value.ref b] meth c) (hKA : KA cA s) (hX : va_X b L xs s s.heap) (hbl : b < s.heap.size) (hbA : ¬ A b) (hl : lv_has ls 4 [(3, .int x3), (2, .ref (y 0)), (1, .ref ax), (0, .ref b)]) (hd : ∀ k : Nat, k ≤ 6 → vp_in (x3 + nI k) L) (hf0 : cells + 40 ≤ 600000 ∧ slots + 4540 ≤ 7302249) (X : LX cA σ τ κ μ f V0 V1) (hw : Wd D A (wQ cA h t z y ax sv σ τ κ μ wd f V0 V1) s.heap H locs)
    (hk : ∀ (σ' τ' κ' μ' : Sg) (wd' : Int64) (f' : Nat → Option Nat) (V0' V1' : va_W) (H1 : Heap) (locs1 : List Loc), LX cA σ' τ' κ' μ' f' V0' V1' → Wd D A (wQ cA h t z y ax sv σ' τ' κ' μ' wd' f' V0' V1') s.heap H1 locs1 → W p l e room_1 s m #[Value.ref b] below meth c H1 locs1 (cells + 40) (slots + 4540) Q (F0 m 1711 ls [])) :
    W p l e room_1 s m #[Value.ref b] below meth c H locs cells slots Q (F0 m 846 ls []) := by
  have hx := E.1.1
  have hb := E.1.2.1
  have hf1 : cells ≤ room_1.cells ∧ slots ≤ room_1.slots := ⟨by show cells ≤ 600000; omega, by show slots ≤ 7302249; omega⟩
  unfold wQ at hw
  obtain ⟨r, σ1, μ1, h1, h2, X1⟩ := L_pass X (xs (x3 + 1).toNatClampNeg) wd
  refine lv_aload_n hx hb dL_law_846 rfl (lv_at hl 2 rfl) ?_
  refine lv_aload_n hx hb dL_law_847 rfl (lv_at hl 3 rfl) ?_
  refine lv_iload_n hx hb dL_law_848 rfl (lv_at hl 0 rfl) ?_
  refine lv_iconst (v := 1) hx hb dL_law_849 (by decide) ?_
  refine lv_iadd hx hb dL_law_850 ?_
  refine va_sld hx hb hX hbl hbA hw.2.2 (hd 1 (by decide)) dL_law_851 ?_
  refine lx_cv (As := [.int (xs (x3 + 1).toNatClampNeg)]) (rest := []) (σ' := σ1) (κ' := κ) (τ' := τ) E hw hl (c_X8_pass l D cA tS A h ax sv (t 42) (z 60) _ NN (xs (x3 + 1).toNatClampNeg) σ r σ1 h1) 1 (bwV bw_l tb_674 tb_675 tb_676 tb_99 tb_677) rfl (by decide +kernel) ⟨(Nat.le_of_ble_eq_true rfl), (Nat.le_of_ble_eq_true rfl)⟩ rfl rfl (Nat.le_of_ble_eq_true rfl) hf1 dL_law_852 (fun H locs hw => ?_)
  refine lv_aload_n hx hb dL_law_855 rfl (lv_at hl 1 rfl) ?_
  refine lv_aload_n hx hb dL_law_856 rfl (lv_at hl 3 rfl) ?_
  refine lv_iload_n hx hb dL_law_857 rfl (lv_at hl 0 rfl) ?_
  refine lv_iconst (v := 1) hx hb dL_law_858 (by decide) ?_
  refine lv_iadd hx hb dL_law_859 ?_
  refine va_sld hx hb hX hbl hbA hw.2.2 (hd 1 (by decide)) dL_law_860 ?_
  refine lm_cv (As := [.int (xs (x3 + 1).toNatClampNeg)]) (rest := [.int r]) (μ' := μ1) (wd' := wd) E hw hl (c_X9_pass l D cA tS A y _ NN (xs (x3 + 1).toNatClampNeg) μ wd r μ1 h2) 1 (bwV bw_l tb_1383 tb_1384 tb_1385 tb_111 tb_1386) rfl (by decide +kernel) ⟨(Nat.le_of_ble_eq_true rfl), (Nat.le_of_ble_eq_true rfl)⟩ rfl rfl (Nat.le_of_ble_eq_true rfl) hf1 dL_law_861 (fun H locs hw => ?_)
  refine lv_icmp_eq (tgt := 1711) hx hb dL_law_864 (by decide) (fun _ => ?_) (fun q => absurd rfl q)
  exact W.widen (Nat.le_add_right _ _) (Nat.le_add_right _ _) (hk _ _ _ _ _ _ _ _ _ _ X1 hw)
/-- now -/
theorem lc_19 (l : Launch) (E : Ev p cL_law 4 ret RL lw_tbl D cA tS A s m #[Value.ref b] meth c) (hKA : KA cA s) (hX : va_X b L xs s s.heap) (hbl : b < s.heap.size) (hbA : ¬ A b) (hl : lv_has ls 4 [(3, .int x3), (2, .ref (y 0)), (1, .ref ax), (0, .ref b)]) (hd : ∀ k : Nat, k ≤ 6 → vp_in (x3 + nI k) L) (hf0 : cells + 40 ≤ 600000 ∧ slots + 4540 ≤ 7302249) (X : LX cA σ τ κ μ f V0 V1) (hw : Wd D A (wQ cA h t z y ax sv σ τ κ μ wd f V0 V1) s.heap H locs)
    (hk : ∀ (σ' τ' κ' μ' : Sg) (wd' : Int64) (f' : Nat → Option Nat) (V0' V1' : va_W) (H1 : Heap) (locs1 : List Loc), LX cA σ' τ' κ' μ' f' V0' V1' → Wd D A (wQ cA h t z y ax sv σ' τ' κ' μ' wd' f' V0' V1') s.heap H1 locs1 → W p l e room_1 s m #[Value.ref b] below meth c H1 locs1 (cells + 40) (slots + 4540) Q (F0 m 1711 ls [])) :
    W p l e room_1 s m #[Value.ref b] below meth c H locs cells slots Q (F0 m 869 ls []) := by
  have hx := E.1.1
  have hb := E.1.2.1
  have hf1 : cells ≤ room_1.cells ∧ slots ≤ room_1.slots := ⟨by show cells ≤ 600000; omega, by show slots ≤ 7302249; omega⟩
  unfold wQ at hw
  obtain ⟨cnt, kc, T, hl0, V⟩ := X.v
  obtain ⟨r, h1, h2⟩ := q_now V wd
  have X1 := X
  refine lv_aload_n hx hb dL_law_869 rfl (lv_at hl 2 rfl) ?_
  refine lx_cv (As := []) (rest := []) (σ' := σ) (κ' := κ) (τ' := τ) E hw hl (c_X8_now l D cA tS A h ax sv (t 42) (z 60) _ σ r h1) 0 (bwV bw_l tb_763 tb_764 tb_765 tb_99 tb_766) rfl (by decide +kernel) ⟨(Nat.le_of_ble_eq_true rfl), (Nat.le_of_ble_eq_true rfl)⟩ rfl rfl (Nat.le_of_ble_eq_true rfl) hf1 dL_law_870 (fun H locs hw => ?_)
  refine lv_aload_n hx hb dL_law_873 rfl (lv_at hl 1 rfl) ?_
  refine lm_cv (As := []) (rest := [.int r]) (μ' := μ) (wd' := wd) E hw hl (c_X9_now l D cA tS A y _ μ wd r h2) 0 (bwV bw_l tb_1439 tb_1440 tb_1441 tb_111 tb_1442) rfl (by decide +kernel) ⟨(Nat.le_of_ble_eq_true rfl), (Nat.le_of_ble_eq_true rfl)⟩ rfl rfl (Nat.le_of_ble_eq_true rfl) hf1 dL_law_874 (fun H locs hw => ?_)
  refine lv_icmp_eq (tgt := 1711) hx hb dL_law_877 (by decide) (fun _ => ?_) (fun q => absurd rfl q)
  exact W.widen (Nat.le_add_right _ _) (Nat.le_add_right _ _) (hk _ _ _ _ _ _ _ _ _ _ X1 hw)
/-- ticketCount -/
theorem lc_20 (l : Launch) (E : Ev p cL_law 4 ret RL lw_tbl D cA tS A s m #[Value.ref b] meth c) (hKA : KA cA s) (hX : va_X b L xs s s.heap) (hbl : b < s.heap.size) (hbA : ¬ A b) (hl : lv_has ls 4 [(3, .int x3), (2, .ref (y 0)), (1, .ref ax), (0, .ref b)]) (hd : ∀ k : Nat, k ≤ 6 → vp_in (x3 + nI k) L) (hf0 : cells + 40 ≤ 600000 ∧ slots + 4540 ≤ 7302249) (X : LX cA σ τ κ μ f V0 V1) (hw : Wd D A (wQ cA h t z y ax sv σ τ κ μ wd f V0 V1) s.heap H locs)
    (hk : ∀ (σ' τ' κ' μ' : Sg) (wd' : Int64) (f' : Nat → Option Nat) (V0' V1' : va_W) (H1 : Heap) (locs1 : List Loc), LX cA σ' τ' κ' μ' f' V0' V1' → Wd D A (wQ cA h t z y ax sv σ' τ' κ' μ' wd' f' V0' V1') s.heap H1 locs1 → W p l e room_1 s m #[Value.ref b] below meth c H1 locs1 (cells + 40) (slots + 4540) Q (F0 m 1711 ls [])) :
    W p l e room_1 s m #[Value.ref b] below meth c H locs cells slots Q (F0 m 882 ls []) := by
  have hx := E.1.1
  have hb := E.1.2.1
  have hf1 : cells ≤ room_1.cells ∧ slots ≤ room_1.slots := ⟨by show cells ≤ 600000; omega, by show slots ≤ 7302249; omega⟩
  unfold wQ at hw
  obtain ⟨cnt, kc, T, hl0, V⟩ := X.v
  obtain ⟨r, h1, h2⟩ := q_ticketCount V wd
  have X1 := X
  refine lv_aload_n hx hb dL_law_882 rfl (lv_at hl 2 rfl) ?_
  refine lx_cv (As := []) (rest := []) (σ' := σ) (κ' := κ) (τ' := τ) E hw hl (c_X8_ticketCount l D cA tS A h ax sv (t 42) (z 60) _ σ r h1) 0 (bwV bw_l tb_767 tb_768 tb_769 tb_99 tb_770) rfl (by decide +kernel) ⟨(Nat.le_of_ble_eq_true rfl), (Nat.le_of_ble_eq_true rfl)⟩ rfl rfl (Nat.le_of_ble_eq_true rfl) hf1 dL_law_883 (fun H locs hw => ?_)
  refine lv_aload_n hx hb dL_law_886 rfl (lv_at hl 1 rfl) ?_
  refine lm_cv (As := []) (rest := [.int r]) (μ' := μ) (wd' := wd) E hw hl (c_X9_ticketCount l D cA tS A y _ μ wd r h2) 0 (bwV bw_l tb_1443 tb_1444 tb_1445 tb_111 tb_1446) rfl (by decide +kernel) ⟨(Nat.le_of_ble_eq_true rfl), (Nat.le_of_ble_eq_true rfl)⟩ rfl rfl (Nat.le_of_ble_eq_true rfl) hf1 dL_law_887 (fun H locs hw => ?_)
  refine lv_icmp_eq (tgt := 1711) hx hb dL_law_890 (by decide) (fun _ => ?_) (fun q => absurd rfl q)
  exact W.widen (Nat.le_add_right _ _) (Nat.le_add_right _ _) (hk _ _ _ _ _ _ _ _ _ _ X1 hw)
/-- stateOf -/
theorem lc_21 (l : Launch) (E : Ev p cL_law 4 ret RL lw_tbl D cA tS A s m #[Value.ref b] meth c) (hKA : KA cA s) (hX : va_X b L xs s s.heap) (hbl : b < s.heap.size) (hbA : ¬ A b) (hl : lv_has ls 4 [(3, .int x3), (2, .ref (y 0)), (1, .ref ax), (0, .ref b)]) (hd : ∀ k : Nat, k ≤ 6 → vp_in (x3 + nI k) L) (hf0 : cells + 40 ≤ 600000 ∧ slots + 4540 ≤ 7302249) (X : LX cA σ τ κ μ f V0 V1) (hw : Wd D A (wQ cA h t z y ax sv σ τ κ μ wd f V0 V1) s.heap H locs)
    (hk : ∀ (σ' τ' κ' μ' : Sg) (wd' : Int64) (f' : Nat → Option Nat) (V0' V1' : va_W) (H1 : Heap) (locs1 : List Loc), LX cA σ' τ' κ' μ' f' V0' V1' → Wd D A (wQ cA h t z y ax sv σ' τ' κ' μ' wd' f' V0' V1') s.heap H1 locs1 → W p l e room_1 s m #[Value.ref b] below meth c H1 locs1 (cells + 40) (slots + 4540) Q (F0 m 1711 ls [])) :
    W p l e room_1 s m #[Value.ref b] below meth c H locs cells slots Q (F0 m 895 ls []) := by
  have hx := E.1.1
  have hb := E.1.2.1
  have hf1 : cells ≤ room_1.cells ∧ slots ≤ room_1.slots := ⟨by show cells ≤ 600000; omega, by show slots ≤ 7302249; omega⟩
  unfold wQ at hw
  obtain ⟨cnt, kc, T, hl0, V⟩ := X.v
  obtain ⟨r, h1, h2⟩ := q_stateOf V (xs (x3 + 1).toNatClampNeg) wd
  have X1 := X
  refine lv_aload_n hx hb dL_law_895 rfl (lv_at hl 2 rfl) ?_
  refine lv_aload_n hx hb dL_law_896 rfl (lv_at hl 3 rfl) ?_
  refine lv_iload_n hx hb dL_law_897 rfl (lv_at hl 0 rfl) ?_
  refine lv_iconst (v := 1) hx hb dL_law_898 (by decide) ?_
  refine lv_iadd hx hb dL_law_899 ?_
  refine va_sld hx hb hX hbl hbA hw.2.2 (hd 1 (by decide)) dL_law_900 ?_
  refine lx_cv (As := [.int (xs (x3 + 1).toNatClampNeg)]) (rest := []) (σ' := σ) (κ' := κ) (τ' := τ) E hw hl (c_X8_stateOf l D cA tS A h ax sv (t 42) (z 60) _ (xs (x3 + 1).toNatClampNeg) σ r h1) 1 (bwV bw_l tb_771 tb_772 tb_773 tb_99 tb_774) rfl (by decide +kernel) ⟨(Nat.le_of_ble_eq_true rfl), (Nat.le_of_ble_eq_true rfl)⟩ rfl rfl (Nat.le_of_ble_eq_true rfl) hf1 dL_law_901 (fun H locs hw => ?_)
  refine lv_aload_n hx hb dL_law_904 rfl (lv_at hl 1 rfl) ?_
  refine lv_aload_n hx hb dL_law_905 rfl (lv_at hl 3 rfl) ?_
  refine lv_iload_n hx hb dL_law_906 rfl (lv_at hl 0 rfl) ?_
  refine lv_iconst (v := 1) hx hb dL_law_907 (by decide) ?_
  refine lv_iadd hx hb dL_law_908 ?_
  refine va_sld hx hb hX hbl hbA hw.2.2 (hd 1 (by decide)) dL_law_909 ?_
  refine lm_cv (As := [.int (xs (x3 + 1).toNatClampNeg)]) (rest := [.int r]) (μ' := μ) (wd' := wd) E hw hl (c_X9_stateOf l D cA tS A y _ (xs (x3 + 1).toNatClampNeg) μ wd r h2) 1 (bwV bw_l tb_1447 tb_1448 tb_1449 tb_111 tb_1450) rfl (by decide +kernel) ⟨(Nat.le_of_ble_eq_true rfl), (Nat.le_of_ble_eq_true rfl)⟩ rfl rfl (Nat.le_of_ble_eq_true rfl) hf1 dL_law_910 (fun H locs hw => ?_)
  refine lv_icmp_eq (tgt := 1711) hx hb dL_law_913 (by decide) (fun _ => ?_) (fun q => absurd rfl q)
  exact W.widen (Nat.le_add_right _ _) (Nat.le_add_right _ _) (hk _ _ _ _ _ _ _ _ _ _ X1 hw)
/-- kindOf -/
theorem lc_22 (l : Launch) (E : Ev p cL_law 4 ret RL lw_tbl D cA tS A s m #[Value.ref b] meth c) (hKA : KA cA s) (hX : va_X b L xs s s.heap) (hbl : b < s.heap.size) (hbA : ¬ A b) (hl : lv_has ls 4 [(3, .int x3), (2, .ref (y 0)), (1, .ref ax), (0, .ref b)]) (hd : ∀ k : Nat, k ≤ 6 → vp_in (x3 + nI k) L) (hf0 : cells + 40 ≤ 600000 ∧ slots + 4540 ≤ 7302249) (X : LX cA σ τ κ μ f V0 V1) (hw : Wd D A (wQ cA h t z y ax sv σ τ κ μ wd f V0 V1) s.heap H locs)
    (hk : ∀ (σ' τ' κ' μ' : Sg) (wd' : Int64) (f' : Nat → Option Nat) (V0' V1' : va_W) (H1 : Heap) (locs1 : List Loc), LX cA σ' τ' κ' μ' f' V0' V1' → Wd D A (wQ cA h t z y ax sv σ' τ' κ' μ' wd' f' V0' V1') s.heap H1 locs1 → W p l e room_1 s m #[Value.ref b] below meth c H1 locs1 (cells + 40) (slots + 4540) Q (F0 m 1711 ls [])) :
    W p l e room_1 s m #[Value.ref b] below meth c H locs cells slots Q (F0 m 918 ls []) := by
  have hx := E.1.1
  have hb := E.1.2.1
  have hf1 : cells ≤ room_1.cells ∧ slots ≤ room_1.slots := ⟨by show cells ≤ 600000; omega, by show slots ≤ 7302249; omega⟩
  unfold wQ at hw
  obtain ⟨cnt, kc, T, hl0, V⟩ := X.v
  obtain ⟨r, h1, h2⟩ := q_kindOf V (xs (x3 + 1).toNatClampNeg) wd
  have X1 := X
  refine lv_aload_n hx hb dL_law_918 rfl (lv_at hl 2 rfl) ?_
  refine lv_aload_n hx hb dL_law_919 rfl (lv_at hl 3 rfl) ?_
  refine lv_iload_n hx hb dL_law_920 rfl (lv_at hl 0 rfl) ?_
  refine lv_iconst (v := 1) hx hb dL_law_921 (by decide) ?_
  refine lv_iadd hx hb dL_law_922 ?_
  refine va_sld hx hb hX hbl hbA hw.2.2 (hd 1 (by decide)) dL_law_923 ?_
  refine lx_cv (As := [.int (xs (x3 + 1).toNatClampNeg)]) (rest := []) (σ' := σ) (κ' := κ) (τ' := τ) E hw hl (c_X8_kindOf l D cA tS A h ax sv (t 42) (z 60) _ (xs (x3 + 1).toNatClampNeg) σ r h1) 1 (bwV bw_l tb_780 tb_781 tb_782 tb_99 tb_783) rfl (by decide +kernel) ⟨(Nat.le_of_ble_eq_true rfl), (Nat.le_of_ble_eq_true rfl)⟩ rfl rfl (Nat.le_of_ble_eq_true rfl) hf1 dL_law_924 (fun H locs hw => ?_)
  refine lv_aload_n hx hb dL_law_927 rfl (lv_at hl 1 rfl) ?_
  refine lv_aload_n hx hb dL_law_928 rfl (lv_at hl 3 rfl) ?_
  refine lv_iload_n hx hb dL_law_929 rfl (lv_at hl 0 rfl) ?_
  refine lv_iconst (v := 1) hx hb dL_law_930 (by decide) ?_
  refine lv_iadd hx hb dL_law_931 ?_
  refine va_sld hx hb hX hbl hbA hw.2.2 (hd 1 (by decide)) dL_law_932 ?_
  refine lm_cv (As := [.int (xs (x3 + 1).toNatClampNeg)]) (rest := [.int r]) (μ' := μ) (wd' := wd) E hw hl (c_X9_kindOf l D cA tS A y _ (xs (x3 + 1).toNatClampNeg) μ wd r h2) 1 (bwV bw_l tb_1455 tb_1456 tb_1457 tb_111 tb_1458) rfl (by decide +kernel) ⟨(Nat.le_of_ble_eq_true rfl), (Nat.le_of_ble_eq_true rfl)⟩ rfl rfl (Nat.le_of_ble_eq_true rfl) hf1 dL_law_933 (fun H locs hw => ?_)
  refine lv_icmp_eq (tgt := 1711) hx hb dL_law_936 (by decide) (fun _ => ?_) (fun q => absurd rfl q)
  exact W.widen (Nat.le_add_right _ _) (Nat.le_add_right _ _) (hk _ _ _ _ _ _ _ _ _ _ X1 hw)
/-- levelOf -/
theorem lc_23 (l : Launch) (E : Ev p cL_law 4 ret RL lw_tbl D cA tS A s m #[Value.ref b] meth c) (hKA : KA cA s) (hX : va_X b L xs s s.heap) (hbl : b < s.heap.size) (hbA : ¬ A b) (hl : lv_has ls 4 [(3, .int x3), (2, .ref (y 0)), (1, .ref ax), (0, .ref b)]) (hd : ∀ k : Nat, k ≤ 6 → vp_in (x3 + nI k) L) (hf0 : cells + 40 ≤ 600000 ∧ slots + 4540 ≤ 7302249) (X : LX cA σ τ κ μ f V0 V1) (hw : Wd D A (wQ cA h t z y ax sv σ τ κ μ wd f V0 V1) s.heap H locs)
    (hk : ∀ (σ' τ' κ' μ' : Sg) (wd' : Int64) (f' : Nat → Option Nat) (V0' V1' : va_W) (H1 : Heap) (locs1 : List Loc), LX cA σ' τ' κ' μ' f' V0' V1' → Wd D A (wQ cA h t z y ax sv σ' τ' κ' μ' wd' f' V0' V1') s.heap H1 locs1 → W p l e room_1 s m #[Value.ref b] below meth c H1 locs1 (cells + 40) (slots + 4540) Q (F0 m 1711 ls [])) :
    W p l e room_1 s m #[Value.ref b] below meth c H locs cells slots Q (F0 m 941 ls []) := by
  have hx := E.1.1
  have hb := E.1.2.1
  have hf1 : cells ≤ room_1.cells ∧ slots ≤ room_1.slots := ⟨by show cells ≤ 600000; omega, by show slots ≤ 7302249; omega⟩
  unfold wQ at hw
  obtain ⟨cnt, kc, T, hl0, V⟩ := X.v
  obtain ⟨r, h1, h2⟩ := q_levelOf V (xs (x3 + 1).toNatClampNeg) wd
  have X1 := X
  refine lv_aload_n hx hb dL_law_941 rfl (lv_at hl 2 rfl) ?_
  refine lv_aload_n hx hb dL_law_942 rfl (lv_at hl 3 rfl) ?_
  refine lv_iload_n hx hb dL_law_943 rfl (lv_at hl 0 rfl) ?_
  refine lv_iconst (v := 1) hx hb dL_law_944 (by decide) ?_
  refine lv_iadd hx hb dL_law_945 ?_
  refine va_sld hx hb hX hbl hbA hw.2.2 (hd 1 (by decide)) dL_law_946 ?_
  refine lx_cv (As := [.int (xs (x3 + 1).toNatClampNeg)]) (rest := []) (σ' := σ) (κ' := κ) (τ' := τ) E hw hl (c_X8_levelOf l D cA tS A h ax sv (t 42) (z 60) _ (xs (x3 + 1).toNatClampNeg) σ r h1) 1 (bwV bw_l tb_784 tb_785 tb_786 tb_99 tb_787) rfl (by decide +kernel) ⟨(Nat.le_of_ble_eq_true rfl), (Nat.le_of_ble_eq_true rfl)⟩ rfl rfl (Nat.le_of_ble_eq_true rfl) hf1 dL_law_947 (fun H locs hw => ?_)
  refine lv_aload_n hx hb dL_law_950 rfl (lv_at hl 1 rfl) ?_
  refine lv_aload_n hx hb dL_law_951 rfl (lv_at hl 3 rfl) ?_
  refine lv_iload_n hx hb dL_law_952 rfl (lv_at hl 0 rfl) ?_
  refine lv_iconst (v := 1) hx hb dL_law_953 (by decide) ?_
  refine lv_iadd hx hb dL_law_954 ?_
  refine va_sld hx hb hX hbl hbA hw.2.2 (hd 1 (by decide)) dL_law_955 ?_
  refine lm_cv (As := [.int (xs (x3 + 1).toNatClampNeg)]) (rest := [.int r]) (μ' := μ) (wd' := wd) E hw hl (c_X9_levelOf l D cA tS A y _ (xs (x3 + 1).toNatClampNeg) μ wd r h2) 1 (bwV bw_l tb_1459 tb_1460 tb_1461 tb_111 tb_1462) rfl (by decide +kernel) ⟨(Nat.le_of_ble_eq_true rfl), (Nat.le_of_ble_eq_true rfl)⟩ rfl rfl (Nat.le_of_ble_eq_true rfl) hf1 dL_law_956 (fun H locs hw => ?_)
  refine lv_icmp_eq (tgt := 1711) hx hb dL_law_959 (by decide) (fun _ => ?_) (fun q => absurd rfl q)
  exact W.widen (Nat.le_add_right _ _) (Nat.le_add_right _ _) (hk _ _ _ _ _ _ _ _ _ _ X1 hw)
/-- priorityOf -/
theorem lc_24 (l : Launch) (E : Ev p cL_law 4 ret RL lw_tbl D cA tS A s m #[Value.ref b] meth c) (hKA : KA cA s) (hX : va_X b L xs s s.heap) (hbl : b < s.heap.size) (hbA : ¬ A b) (hl : lv_has ls 4 [(3, .int x3), (2, .ref (y 0)), (1, .ref ax), (0, .ref b)]) (hd : ∀ k : Nat, k ≤ 6 → vp_in (x3 + nI k) L) (hf0 : cells + 40 ≤ 600000 ∧ slots + 4540 ≤ 7302249) (X : LX cA σ τ κ μ f V0 V1) (hw : Wd D A (wQ cA h t z y ax sv σ τ κ μ wd f V0 V1) s.heap H locs)
    (hk : ∀ (σ' τ' κ' μ' : Sg) (wd' : Int64) (f' : Nat → Option Nat) (V0' V1' : va_W) (H1 : Heap) (locs1 : List Loc), LX cA σ' τ' κ' μ' f' V0' V1' → Wd D A (wQ cA h t z y ax sv σ' τ' κ' μ' wd' f' V0' V1') s.heap H1 locs1 → W p l e room_1 s m #[Value.ref b] below meth c H1 locs1 (cells + 40) (slots + 4540) Q (F0 m 1711 ls [])) :
    W p l e room_1 s m #[Value.ref b] below meth c H locs cells slots Q (F0 m 964 ls []) := by
  have hx := E.1.1
  have hb := E.1.2.1
  have hf1 : cells ≤ room_1.cells ∧ slots ≤ room_1.slots := ⟨by show cells ≤ 600000; omega, by show slots ≤ 7302249; omega⟩
  unfold wQ at hw
  obtain ⟨cnt, kc, T, hl0, V⟩ := X.v
  obtain ⟨r, h1, h2⟩ := q_priorityOf V (xs (x3 + 1).toNatClampNeg) wd
  have X1 := X
  refine lv_aload_n hx hb dL_law_964 rfl (lv_at hl 2 rfl) ?_
  refine lv_aload_n hx hb dL_law_965 rfl (lv_at hl 3 rfl) ?_
  refine lv_iload_n hx hb dL_law_966 rfl (lv_at hl 0 rfl) ?_
  refine lv_iconst (v := 1) hx hb dL_law_967 (by decide) ?_
  refine lv_iadd hx hb dL_law_968 ?_
  refine va_sld hx hb hX hbl hbA hw.2.2 (hd 1 (by decide)) dL_law_969 ?_
  refine lx_cv (As := [.int (xs (x3 + 1).toNatClampNeg)]) (rest := []) (σ' := σ) (κ' := κ) (τ' := τ) E hw hl (c_X8_priorityOf l D cA tS A h ax sv (t 42) (z 60) _ (xs (x3 + 1).toNatClampNeg) σ r h1) 1 (bwV bw_l tb_788 tb_789 tb_790 tb_99 tb_791) rfl (by decide +kernel) ⟨(Nat.le_of_ble_eq_true rfl), (Nat.le_of_ble_eq_true rfl)⟩ rfl rfl (Nat.le_of_ble_eq_true rfl) hf1 dL_law_970 (fun H locs hw => ?_)
  refine lv_aload_n hx hb dL_law_973 rfl (lv_at hl 1 rfl) ?_
  refine lv_aload_n hx hb dL_law_974 rfl (lv_at hl 3 rfl) ?_
  refine lv_iload_n hx hb dL_law_975 rfl (lv_at hl 0 rfl) ?_
  refine lv_iconst (v := 1) hx hb dL_law_976 (by decide) ?_
  refine lv_iadd hx hb dL_law_977 ?_
  refine va_sld hx hb hX hbl hbA hw.2.2 (hd 1 (by decide)) dL_law_978 ?_
  refine lm_cv (As := [.int (xs (x3 + 1).toNatClampNeg)]) (rest := [.int r]) (μ' := μ) (wd' := wd) E hw hl (c_X9_priorityOf l D cA tS A y _ (xs (x3 + 1).toNatClampNeg) μ wd r h2) 1 (bwV bw_l tb_1463 tb_1464 tb_1465 tb_111 tb_1466) rfl (by decide +kernel) ⟨(Nat.le_of_ble_eq_true rfl), (Nat.le_of_ble_eq_true rfl)⟩ rfl rfl (Nat.le_of_ble_eq_true rfl) hf1 dL_law_979 (fun H locs hw => ?_)
  refine lv_icmp_eq (tgt := 1711) hx hb dL_law_982 (by decide) (fun _ => ?_) (fun q => absurd rfl q)
  exact W.widen (Nat.le_add_right _ _) (Nat.le_add_right _ _) (hk _ _ _ _ _ _ _ _ _ _ X1 hw)
/-- progress -/
theorem lc_25 (l : Launch) (E : Ev p cL_law 4 ret RL lw_tbl D cA tS A s m #[Value.ref b] meth c) (hKA : KA cA s) (hX : va_X b L xs s s.heap) (hbl : b < s.heap.size) (hbA : ¬ A b) (hl : lv_has ls 4 [(3, .int x3), (2, .ref (y 0)), (1, .ref ax), (0, .ref b)]) (hd : ∀ k : Nat, k ≤ 6 → vp_in (x3 + nI k) L) (hf0 : cells + 40 ≤ 600000 ∧ slots + 4540 ≤ 7302249) (X : LX cA σ τ κ μ f V0 V1) (hw : Wd D A (wQ cA h t z y ax sv σ τ κ μ wd f V0 V1) s.heap H locs)
    (hk : ∀ (σ' τ' κ' μ' : Sg) (wd' : Int64) (f' : Nat → Option Nat) (V0' V1' : va_W) (H1 : Heap) (locs1 : List Loc), LX cA σ' τ' κ' μ' f' V0' V1' → Wd D A (wQ cA h t z y ax sv σ' τ' κ' μ' wd' f' V0' V1') s.heap H1 locs1 → W p l e room_1 s m #[Value.ref b] below meth c H1 locs1 (cells + 40) (slots + 4540) Q (F0 m 1711 ls [])) :
    W p l e room_1 s m #[Value.ref b] below meth c H locs cells slots Q (F0 m 987 ls []) := by
  have hx := E.1.1
  have hb := E.1.2.1
  have hf1 : cells ≤ room_1.cells ∧ slots ≤ room_1.slots := ⟨by show cells ≤ 600000; omega, by show slots ≤ 7302249; omega⟩
  unfold wQ at hw
  obtain ⟨cnt, kc, T, hl0, V⟩ := X.v
  obtain ⟨r, h1, h2⟩ := q_progress V (xs (x3 + 1).toNatClampNeg) wd
  have X1 := X
  refine lv_aload_n hx hb dL_law_987 rfl (lv_at hl 2 rfl) ?_
  refine lv_aload_n hx hb dL_law_988 rfl (lv_at hl 3 rfl) ?_
  refine lv_iload_n hx hb dL_law_989 rfl (lv_at hl 0 rfl) ?_
  refine lv_iconst (v := 1) hx hb dL_law_990 (by decide) ?_
  refine lv_iadd hx hb dL_law_991 ?_
  refine va_sld hx hb hX hbl hbA hw.2.2 (hd 1 (by decide)) dL_law_992 ?_
  refine lx_cv (As := [.int (xs (x3 + 1).toNatClampNeg)]) (rest := []) (σ' := σ) (κ' := κ) (τ' := τ) E hw hl (c_X8_progress l D cA tS A h ax sv (t 42) (z 60) _ (xs (x3 + 1).toNatClampNeg) σ r h1) 1 (bwV bw_l tb_792 tb_793 tb_794 tb_99 tb_795) rfl (by decide +kernel) ⟨(Nat.le_of_ble_eq_true rfl), (Nat.le_of_ble_eq_true rfl)⟩ rfl rfl (Nat.le_of_ble_eq_true rfl) hf1 dL_law_993 (fun H locs hw => ?_)
  refine lv_aload_n hx hb dL_law_996 rfl (lv_at hl 1 rfl) ?_
  refine lv_aload_n hx hb dL_law_997 rfl (lv_at hl 3 rfl) ?_
  refine lv_iload_n hx hb dL_law_998 rfl (lv_at hl 0 rfl) ?_
  refine lv_iconst (v := 1) hx hb dL_law_999 (by decide) ?_
  refine lv_iadd hx hb dL_law_1000 ?_
  refine va_sld hx hb hX hbl hbA hw.2.2 (hd 1 (by decide)) dL_law_1001 ?_
  refine lm_cv (As := [.int (xs (x3 + 1).toNatClampNeg)]) (rest := [.int r]) (μ' := μ) (wd' := wd) E hw hl (c_X9_progress l D cA tS A y _ (xs (x3 + 1).toNatClampNeg) μ wd r h2) 1 (bwV bw_l tb_1467 tb_1468 tb_1469 tb_111 tb_1470) rfl (by decide +kernel) ⟨(Nat.le_of_ble_eq_true rfl), (Nat.le_of_ble_eq_true rfl)⟩ rfl rfl (Nat.le_of_ble_eq_true rfl) hf1 dL_law_1002 (fun H locs hw => ?_)
  refine lv_icmp_eq (tgt := 1711) hx hb dL_law_1005 (by decide) (fun _ => ?_) (fun q => absurd rfl q)
  exact W.widen (Nat.le_add_right _ _) (Nat.le_add_right _ _) (hk _ _ _ _ _ _ _ _ _ _ X1 hw)
/-- rootOf -/
theorem lc_26 (l : Launch) (E : Ev p cL_law 4 ret RL lw_tbl D cA tS A s m #[Value.ref b] meth c) (hKA : KA cA s) (hX : va_X b L xs s s.heap) (hbl : b < s.heap.size) (hbA : ¬ A b) (hl : lv_has ls 4 [(3, .int x3), (2, .ref (y 0)), (1, .ref ax), (0, .ref b)]) (hd : ∀ k : Nat, k ≤ 6 → vp_in (x3 + nI k) L) (hf0 : cells + 40 ≤ 600000 ∧ slots + 4540 ≤ 7302249) (X : LX cA σ τ κ μ f V0 V1) (hw : Wd D A (wQ cA h t z y ax sv σ τ κ μ wd f V0 V1) s.heap H locs)
    (hk : ∀ (σ' τ' κ' μ' : Sg) (wd' : Int64) (f' : Nat → Option Nat) (V0' V1' : va_W) (H1 : Heap) (locs1 : List Loc), LX cA σ' τ' κ' μ' f' V0' V1' → Wd D A (wQ cA h t z y ax sv σ' τ' κ' μ' wd' f' V0' V1') s.heap H1 locs1 → W p l e room_1 s m #[Value.ref b] below meth c H1 locs1 (cells + 40) (slots + 4540) Q (F0 m 1711 ls [])) :
    W p l e room_1 s m #[Value.ref b] below meth c H locs cells slots Q (F0 m 1010 ls []) := by
  have hx := E.1.1
  have hb := E.1.2.1
  have hf1 : cells ≤ room_1.cells ∧ slots ≤ room_1.slots := ⟨by show cells ≤ 600000; omega, by show slots ≤ 7302249; omega⟩
  unfold wQ at hw
  obtain ⟨cnt, kc, T, hl0, V⟩ := X.v
  obtain ⟨r, h1, h2⟩ := q_rootOf V (xs (x3 + 1).toNatClampNeg) wd
  have X1 := X
  refine lv_aload_n hx hb dL_law_1010 rfl (lv_at hl 2 rfl) ?_
  refine lv_aload_n hx hb dL_law_1011 rfl (lv_at hl 3 rfl) ?_
  refine lv_iload_n hx hb dL_law_1012 rfl (lv_at hl 0 rfl) ?_
  refine lv_iconst (v := 1) hx hb dL_law_1013 (by decide) ?_
  refine lv_iadd hx hb dL_law_1014 ?_
  refine va_sld hx hb hX hbl hbA hw.2.2 (hd 1 (by decide)) dL_law_1015 ?_
  refine lx_cv (As := [.int (xs (x3 + 1).toNatClampNeg)]) (rest := []) (σ' := σ) (κ' := κ) (τ' := τ) E hw hl (c_X8_rootOf l D cA tS A h ax sv (t 42) (z 60) _ (xs (x3 + 1).toNatClampNeg) σ r h1) 1 (bwV bw_l tb_796 tb_797 tb_798 tb_99 tb_799) rfl (by decide +kernel) ⟨(Nat.le_of_ble_eq_true rfl), (Nat.le_of_ble_eq_true rfl)⟩ rfl rfl (Nat.le_of_ble_eq_true rfl) hf1 dL_law_1016 (fun H locs hw => ?_)
  refine lv_aload_n hx hb dL_law_1019 rfl (lv_at hl 1 rfl) ?_
  refine lv_aload_n hx hb dL_law_1020 rfl (lv_at hl 3 rfl) ?_
  refine lv_iload_n hx hb dL_law_1021 rfl (lv_at hl 0 rfl) ?_
  refine lv_iconst (v := 1) hx hb dL_law_1022 (by decide) ?_
  refine lv_iadd hx hb dL_law_1023 ?_
  refine va_sld hx hb hX hbl hbA hw.2.2 (hd 1 (by decide)) dL_law_1024 ?_
  refine lm_cv (As := [.int (xs (x3 + 1).toNatClampNeg)]) (rest := [.int r]) (μ' := μ) (wd' := wd) E hw hl (c_X9_rootOf l D cA tS A y _ (xs (x3 + 1).toNatClampNeg) μ wd r h2) 1 (bwV bw_l tb_1471 tb_1472 tb_1473 tb_111 tb_1474) rfl (by decide +kernel) ⟨(Nat.le_of_ble_eq_true rfl), (Nat.le_of_ble_eq_true rfl)⟩ rfl rfl (Nat.le_of_ble_eq_true rfl) hf1 dL_law_1025 (fun H locs hw => ?_)
  refine lv_icmp_eq (tgt := 1711) hx hb dL_law_1028 (by decide) (fun _ => ?_) (fun q => absurd rfl q)
  exact W.widen (Nat.le_add_right _ _) (Nat.le_add_right _ _) (hk _ _ _ _ _ _ _ _ _ _ X1 hw)
/-- twins -/
theorem lc_27 (l : Launch) (E : Ev p cL_law 4 ret RL lw_tbl D cA tS A s m #[Value.ref b] meth c) (hKA : KA cA s) (hX : va_X b L xs s s.heap) (hbl : b < s.heap.size) (hbA : ¬ A b) (hl : lv_has ls 4 [(3, .int x3), (2, .ref (y 0)), (1, .ref ax), (0, .ref b)]) (hd : ∀ k : Nat, k ≤ 6 → vp_in (x3 + nI k) L) (hf0 : cells + 40 ≤ 600000 ∧ slots + 4540 ≤ 7302249) (X : LX cA σ τ κ μ f V0 V1) (hw : Wd D A (wQ cA h t z y ax sv σ τ κ μ wd f V0 V1) s.heap H locs)
    (hk : ∀ (σ' τ' κ' μ' : Sg) (wd' : Int64) (f' : Nat → Option Nat) (V0' V1' : va_W) (H1 : Heap) (locs1 : List Loc), LX cA σ' τ' κ' μ' f' V0' V1' → Wd D A (wQ cA h t z y ax sv σ' τ' κ' μ' wd' f' V0' V1') s.heap H1 locs1 → W p l e room_1 s m #[Value.ref b] below meth c H1 locs1 (cells + 40) (slots + 4540) Q (F0 m 1711 ls [])) :
    W p l e room_1 s m #[Value.ref b] below meth c H locs cells slots Q (F0 m 1033 ls []) := by
  have hx := E.1.1
  have hb := E.1.2.1
  have hf1 : cells ≤ room_1.cells ∧ slots ≤ room_1.slots := ⟨by show cells ≤ 600000; omega, by show slots ≤ 7302249; omega⟩
  unfold wQ at hw
  obtain ⟨cnt, kc, T, hl0, V⟩ := X.v
  obtain ⟨r, h1, h2⟩ := q_twins V (xs (x3 + 1).toNatClampNeg) wd (N := NN) (by decide)
  have X1 := X
  refine lv_aload_n hx hb dL_law_1033 rfl (lv_at hl 2 rfl) ?_
  refine lv_aload_n hx hb dL_law_1034 rfl (lv_at hl 3 rfl) ?_
  refine lv_iload_n hx hb dL_law_1035 rfl (lv_at hl 0 rfl) ?_
  refine lv_iconst (v := 1) hx hb dL_law_1036 (by decide) ?_
  refine lv_iadd hx hb dL_law_1037 ?_
  refine va_sld hx hb hX hbl hbA hw.2.2 (hd 1 (by decide)) dL_law_1038 ?_
  refine lx_cv (As := [.int (xs (x3 + 1).toNatClampNeg)]) (rest := []) (σ' := σ) (κ' := κ) (τ' := τ) E hw hl (c_X8_twins l D cA tS A h ax sv (t 42) (z 60) _ NN (xs (x3 + 1).toNatClampNeg) σ r h1) 1 (bwV bw_l tb_800 tb_801 tb_802 tb_99 tb_803) rfl (by decide +kernel) ⟨(Nat.le_of_ble_eq_true rfl), (Nat.le_of_ble_eq_true rfl)⟩ rfl rfl (Nat.le_of_ble_eq_true rfl) hf1 dL_law_1039 (fun H locs hw => ?_)
  refine lv_aload_n hx hb dL_law_1042 rfl (lv_at hl 1 rfl) ?_
  refine lv_aload_n hx hb dL_law_1043 rfl (lv_at hl 3 rfl) ?_
  refine lv_iload_n hx hb dL_law_1044 rfl (lv_at hl 0 rfl) ?_
  refine lv_iconst (v := 1) hx hb dL_law_1045 (by decide) ?_
  refine lv_iadd hx hb dL_law_1046 ?_
  refine va_sld hx hb hX hbl hbA hw.2.2 (hd 1 (by decide)) dL_law_1047 ?_
  refine lm_cv (As := [.int (xs (x3 + 1).toNatClampNeg)]) (rest := [.long r]) (μ' := μ) (wd' := wd) E hw hl (c_X9_twins l D cA tS A y _ NN (xs (x3 + 1).toNatClampNeg) μ wd r h2) 1 (bwV bw_l tb_1475 tb_1476 tb_1477 tb_111 tb_1478) rfl (by decide +kernel) ⟨(Nat.le_of_ble_eq_true rfl), (Nat.le_of_ble_eq_true rfl)⟩ rfl rfl (Nat.le_of_ble_eq_true rfl) hf1 dL_law_1048 (fun H locs hw => ?_)
  refine W.lcmp hx hb dL_law_1051 ?_
  refine lv_if_eq (tgt := 1711) hx hb dL_law_1052 (by decide) (fun _ => ?_) (fun q => absurd ((lg0 r r).mpr rfl) q)
  exact W.widen (Nat.le_add_right _ _) (Nat.le_add_right _ _) (hk _ _ _ _ _ _ _ _ _ _ X1 hw)
/-- reportedAt -/
theorem lc_28 (l : Launch) (E : Ev p cL_law 4 ret RL lw_tbl D cA tS A s m #[Value.ref b] meth c) (hKA : KA cA s) (hX : va_X b L xs s s.heap) (hbl : b < s.heap.size) (hbA : ¬ A b) (hl : lv_has ls 4 [(3, .int x3), (2, .ref (y 0)), (1, .ref ax), (0, .ref b)]) (hd : ∀ k : Nat, k ≤ 6 → vp_in (x3 + nI k) L) (hf0 : cells + 40 ≤ 600000 ∧ slots + 4540 ≤ 7302249) (X : LX cA σ τ κ μ f V0 V1) (hw : Wd D A (wQ cA h t z y ax sv σ τ κ μ wd f V0 V1) s.heap H locs)
    (hk : ∀ (σ' τ' κ' μ' : Sg) (wd' : Int64) (f' : Nat → Option Nat) (V0' V1' : va_W) (H1 : Heap) (locs1 : List Loc), LX cA σ' τ' κ' μ' f' V0' V1' → Wd D A (wQ cA h t z y ax sv σ' τ' κ' μ' wd' f' V0' V1') s.heap H1 locs1 → W p l e room_1 s m #[Value.ref b] below meth c H1 locs1 (cells + 40) (slots + 4540) Q (F0 m 1711 ls [])) :
    W p l e room_1 s m #[Value.ref b] below meth c H locs cells slots Q (F0 m 1057 ls []) := by
  have hx := E.1.1
  have hb := E.1.2.1
  have hf1 : cells ≤ room_1.cells ∧ slots ≤ room_1.slots := ⟨by show cells ≤ 600000; omega, by show slots ≤ 7302249; omega⟩
  unfold wQ at hw
  obtain ⟨cnt, kc, T, hl0, V⟩ := X.v
  obtain ⟨r, h1, h2⟩ := q_reportedAt V (xs (x3 + 1).toNatClampNeg) wd
  have X1 := X
  refine lv_aload_n hx hb dL_law_1057 rfl (lv_at hl 2 rfl) ?_
  refine lv_aload_n hx hb dL_law_1058 rfl (lv_at hl 3 rfl) ?_
  refine lv_iload_n hx hb dL_law_1059 rfl (lv_at hl 0 rfl) ?_
  refine lv_iconst (v := 1) hx hb dL_law_1060 (by decide) ?_
  refine lv_iadd hx hb dL_law_1061 ?_
  refine va_sld hx hb hX hbl hbA hw.2.2 (hd 1 (by decide)) dL_law_1062 ?_
  refine lx_cv (As := [.int (xs (x3 + 1).toNatClampNeg)]) (rest := []) (σ' := σ) (κ' := κ) (τ' := τ) E hw hl (c_X8_reportedAt l D cA tS A h ax sv (t 42) (z 60) _ (xs (x3 + 1).toNatClampNeg) σ r h1) 1 (bwV bw_l tb_806 tb_807 tb_808 tb_99 tb_809) rfl (by decide +kernel) ⟨(Nat.le_of_ble_eq_true rfl), (Nat.le_of_ble_eq_true rfl)⟩ rfl rfl (Nat.le_of_ble_eq_true rfl) hf1 dL_law_1063 (fun H locs hw => ?_)
  refine lv_aload_n hx hb dL_law_1066 rfl (lv_at hl 1 rfl) ?_
  refine lv_aload_n hx hb dL_law_1067 rfl (lv_at hl 3 rfl) ?_
  refine lv_iload_n hx hb dL_law_1068 rfl (lv_at hl 0 rfl) ?_
  refine lv_iconst (v := 1) hx hb dL_law_1069 (by decide) ?_
  refine lv_iadd hx hb dL_law_1070 ?_
  refine va_sld hx hb hX hbl hbA hw.2.2 (hd 1 (by decide)) dL_law_1071 ?_
  refine lm_cv (As := [.int (xs (x3 + 1).toNatClampNeg)]) (rest := [.int r]) (μ' := μ) (wd' := wd) E hw hl (c_X9_reportedAt l D cA tS A y _ (xs (x3 + 1).toNatClampNeg) μ wd r h2) 1 (bwV bw_l tb_1480 tb_1481 tb_1482 tb_111 tb_1483) rfl (by decide +kernel) ⟨(Nat.le_of_ble_eq_true rfl), (Nat.le_of_ble_eq_true rfl)⟩ rfl rfl (Nat.le_of_ble_eq_true rfl) hf1 dL_law_1072 (fun H locs hw => ?_)
  refine lv_icmp_eq (tgt := 1711) hx hb dL_law_1075 (by decide) (fun _ => ?_) (fun q => absurd rfl q)
  exact W.widen (Nat.le_add_right _ _) (Nat.le_add_right _ _) (hk _ _ _ _ _ _ _ _ _ _ X1 hw)
/-- answeredAt -/
theorem lc_29 (l : Launch) (E : Ev p cL_law 4 ret RL lw_tbl D cA tS A s m #[Value.ref b] meth c) (hKA : KA cA s) (hX : va_X b L xs s s.heap) (hbl : b < s.heap.size) (hbA : ¬ A b) (hl : lv_has ls 4 [(3, .int x3), (2, .ref (y 0)), (1, .ref ax), (0, .ref b)]) (hd : ∀ k : Nat, k ≤ 6 → vp_in (x3 + nI k) L) (hf0 : cells + 40 ≤ 600000 ∧ slots + 4540 ≤ 7302249) (X : LX cA σ τ κ μ f V0 V1) (hw : Wd D A (wQ cA h t z y ax sv σ τ κ μ wd f V0 V1) s.heap H locs)
    (hk : ∀ (σ' τ' κ' μ' : Sg) (wd' : Int64) (f' : Nat → Option Nat) (V0' V1' : va_W) (H1 : Heap) (locs1 : List Loc), LX cA σ' τ' κ' μ' f' V0' V1' → Wd D A (wQ cA h t z y ax sv σ' τ' κ' μ' wd' f' V0' V1') s.heap H1 locs1 → W p l e room_1 s m #[Value.ref b] below meth c H1 locs1 (cells + 40) (slots + 4540) Q (F0 m 1711 ls [])) :
    W p l e room_1 s m #[Value.ref b] below meth c H locs cells slots Q (F0 m 1080 ls []) := by
  have hx := E.1.1
  have hb := E.1.2.1
  have hf1 : cells ≤ room_1.cells ∧ slots ≤ room_1.slots := ⟨by show cells ≤ 600000; omega, by show slots ≤ 7302249; omega⟩
  unfold wQ at hw
  obtain ⟨cnt, kc, T, hl0, V⟩ := X.v
  obtain ⟨r, h1, h2⟩ := q_answeredAt V (xs (x3 + 1).toNatClampNeg) wd
  have X1 := X
  refine lv_aload_n hx hb dL_law_1080 rfl (lv_at hl 2 rfl) ?_
  refine lv_aload_n hx hb dL_law_1081 rfl (lv_at hl 3 rfl) ?_
  refine lv_iload_n hx hb dL_law_1082 rfl (lv_at hl 0 rfl) ?_
  refine lv_iconst (v := 1) hx hb dL_law_1083 (by decide) ?_
  refine lv_iadd hx hb dL_law_1084 ?_
  refine va_sld hx hb hX hbl hbA hw.2.2 (hd 1 (by decide)) dL_law_1085 ?_
  refine lx_cv (As := [.int (xs (x3 + 1).toNatClampNeg)]) (rest := []) (σ' := σ) (κ' := κ) (τ' := τ) E hw hl (c_X8_answeredAt l D cA tS A h ax sv (t 42) (z 60) _ (xs (x3 + 1).toNatClampNeg) σ r h1) 1 (bwV bw_l tb_810 tb_811 tb_812 tb_99 tb_813) rfl (by decide +kernel) ⟨(Nat.le_of_ble_eq_true rfl), (Nat.le_of_ble_eq_true rfl)⟩ rfl rfl (Nat.le_of_ble_eq_true rfl) hf1 dL_law_1086 (fun H locs hw => ?_)
  refine lv_aload_n hx hb dL_law_1089 rfl (lv_at hl 1 rfl) ?_
  refine lv_aload_n hx hb dL_law_1090 rfl (lv_at hl 3 rfl) ?_
  refine lv_iload_n hx hb dL_law_1091 rfl (lv_at hl 0 rfl) ?_
  refine lv_iconst (v := 1) hx hb dL_law_1092 (by decide) ?_
  refine lv_iadd hx hb dL_law_1093 ?_
  refine va_sld hx hb hX hbl hbA hw.2.2 (hd 1 (by decide)) dL_law_1094 ?_
  refine lm_cv (As := [.int (xs (x3 + 1).toNatClampNeg)]) (rest := [.int r]) (μ' := μ) (wd' := wd) E hw hl (c_X9_answeredAt l D cA tS A y _ (xs (x3 + 1).toNatClampNeg) μ wd r h2) 1 (bwV bw_l tb_1484 tb_1485 tb_1486 tb_111 tb_1487) rfl (by decide +kernel) ⟨(Nat.le_of_ble_eq_true rfl), (Nat.le_of_ble_eq_true rfl)⟩ rfl rfl (Nat.le_of_ble_eq_true rfl) hf1 dL_law_1095 (fun H locs hw => ?_)
  refine lv_icmp_eq (tgt := 1711) hx hb dL_law_1098 (by decide) (fun _ => ?_) (fun q => absurd rfl q)
  exact W.widen (Nat.le_add_right _ _) (Nat.le_add_right _ _) (hk _ _ _ _ _ _ _ _ _ _ X1 hw)
end HLC
