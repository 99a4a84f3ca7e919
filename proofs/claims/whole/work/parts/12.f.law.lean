/-! the law's cases -/
section HLC
variable {p : Program} {e : Env} {s : State} {m : MethodId} {below : List Frame} {meth : Method} {c : Code} {H : Heap} {locs : List Loc} {cells slots : Nat} {Q : State → Prop}
variable {D : va_G} {cA : Nat → ClassId} {tS : Nat → Nat} {A : Nat → Prop} {ls : Array Slot} {b L ax sv : Nat} {xs : Nat → Int32} {x3 : Int32}
variable {h t z y : Nat → Nat} {σ τ κ μ : Sg} {wd : Int64} {f : Nat → Option Nat} {V0 V1 : va_W}
/-- historyLength -/
theorem lc_45 (l : Launch) (E : Ev p cL_law 4 ret RL lw_tbl D cA tS A s m #[Value.ref b] meth c) (hKA : KA cA s) (hX : va_X b L xs s s.heap) (hbl : b < s.heap.size) (hbA : ¬ A b) (hl : lv_has ls 4 [(3, .int x3), (2, .ref (y 0)), (1, .ref ax), (0, .ref b)]) (hd : ∀ k : Nat, k ≤ 6 → vp_in (x3 + nI k) L) (hf0 : cells + 40 ≤ 600000 ∧ slots + 4540 ≤ 7302249) (X : LX cA σ τ κ μ f V0 V1) (hw : Wd D A (wQ cA h t z y ax sv σ τ κ μ wd f V0 V1) s.heap H locs)
    (hk : ∀ (σ' τ' κ' μ' : Sg) (wd' : Int64) (f' : Nat → Option Nat) (V0' V1' : va_W) (H1 : Heap) (locs1 : List Loc), LX cA σ' τ' κ' μ' f' V0' V1' → Wd D A (wQ cA h t z y ax sv σ' τ' κ' μ' wd' f' V0' V1') s.heap H1 locs1 → W p l e room_1 s m #[Value.ref b] below meth c H1 locs1 (cells + 40) (slots + 4540) Q (F0 m 1711 ls [])) :
    W p l e room_1 s m #[Value.ref b] below meth c H locs cells slots Q (F0 m 1449 ls []) := by
  have hx := E.1.1
  have hb := E.1.2.1
  have hf1 : cells ≤ room_1.cells ∧ slots ≤ room_1.slots := ⟨by show cells ≤ 600000; omega, by show slots ≤ 7302249; omega⟩
  unfold wQ at hw
  obtain ⟨cnt, kc, T, hl0, V⟩ := X.v
  obtain ⟨r, h1, h2⟩ := q_historyLength V wd
  have X1 := X
  refine lv_aload_n hx hb dL_law_1449 rfl (lv_at hl 2 rfl) ?_
  refine lx_cv (As := []) (rest := []) (σ' := σ) (κ' := κ) (τ' := τ) E hw hl (c_X8_historyLength l D cA tS A h ax sv (t 42) (z 60) _ σ r h1) 0 (bwV bw_l tb_946 tb_947 tb_948 tb_99 tb_949) rfl (by decide +kernel) ⟨(Nat.le_of_ble_eq_true rfl), (Nat.le_of_ble_eq_true rfl)⟩ rfl rfl (Nat.le_of_ble_eq_true rfl) hf1 dL_law_1450 (fun H locs hw => ?_)
  refine lv_aload_n hx hb dL_law_1453 rfl (lv_at hl 1 rfl) ?_
  refine lm_cv (As := []) (rest := [.int r]) (μ' := μ) (wd' := wd) E hw hl (c_X9_historyLength l D cA tS A y _ μ wd r h2) 0 (bwV bw_l tb_1569 tb_1570 tb_1571 tb_111 tb_1572) rfl (by decide +kernel) ⟨(Nat.le_of_ble_eq_true rfl), (Nat.le_of_ble_eq_true rfl)⟩ rfl rfl (Nat.le_of_ble_eq_true rfl) hf1 dL_law_1454 (fun H locs hw => ?_)
  refine lv_icmp_eq (tgt := 1711) hx hb dL_law_1457 (by decide) (fun _ => ?_) (fun q => absurd rfl q)
  exact W.widen (Nat.le_add_right _ _) (Nat.le_add_right _ _) (hk _ _ _ _ _ _ _ _ _ _ X1 hw)
/-- logSize -/
theorem lc_46 (l : Launch) (E : Ev p cL_law 4 ret RL lw_tbl D cA tS A s m #[Value.ref b] meth c) (hKA : KA cA s) (hX : va_X b L xs s s.heap) (hbl : b < s.heap.size) (hbA : ¬ A b) (hl : lv_has ls 4 [(3, .int x3), (2, .ref (y 0)), (1, .ref ax), (0, .ref b)]) (hd : ∀ k : Nat, k ≤ 6 → vp_in (x3 + nI k) L) (hf0 : cells + 40 ≤ 600000 ∧ slots + 4540 ≤ 7302249) (X : LX cA σ τ κ μ f V0 V1) (hw : Wd D A (wQ cA h t z y ax sv σ τ κ μ wd f V0 V1) s.heap H locs)
    (hk : ∀ (σ' τ' κ' μ' : Sg) (wd' : Int64) (f' : Nat → Option Nat) (V0' V1' : va_W) (H1 : Heap) (locs1 : List Loc), LX cA σ' τ' κ' μ' f' V0' V1' → Wd D A (wQ cA h t z y ax sv σ' τ' κ' μ' wd' f' V0' V1') s.heap H1 locs1 → W p l e room_1 s m #[Value.ref b] below meth c H1 locs1 (cells + 40) (slots + 4540) Q (F0 m 1711 ls [])) :
    W p l e room_1 s m #[Value.ref b] below meth c H locs cells slots Q (F0 m 1462 ls []) := by
  have hx := E.1.1
  have hb := E.1.2.1
  have hf1 : cells ≤ room_1.cells ∧ slots ≤ room_1.slots := ⟨by show cells ≤ 600000; omega, by show slots ≤ 7302249; omega⟩
  unfold wQ at hw
  obtain ⟨cnt, kc, T, hl0, V⟩ := X.v
  obtain ⟨r, h1, h2⟩ := q_logSize V wd
  have X1 := X
  refine lv_aload_n hx hb dL_law_1462 rfl (lv_at hl 2 rfl) ?_
  refine lx_cv (As := []) (rest := []) (σ' := σ) (κ' := κ) (τ' := τ) E hw hl (c_X8_logSize l D cA tS A h ax sv (t 42) (z 60) _ σ r h1) 0 (bwV bw_l tb_950 tb_951 tb_952 tb_99 tb_953) rfl (by decide +kernel) ⟨(Nat.le_of_ble_eq_true rfl), (Nat.le_of_ble_eq_true rfl)⟩ rfl rfl (Nat.le_of_ble_eq_true rfl) hf1 dL_law_1463 (fun H locs hw => ?_)
  refine lv_aload_n hx hb dL_law_1466 rfl (lv_at hl 1 rfl) ?_
  refine lm_cv (As := []) (rest := [.int r]) (μ' := μ) (wd' := wd) E hw hl (c_X9_logSize l D cA tS A y _ μ wd r h2) 0 (bwV bw_l tb_1573 tb_1574 tb_1575 tb_111 tb_1576) rfl (by decide +kernel) ⟨(Nat.le_of_ble_eq_true rfl), (Nat.le_of_ble_eq_true rfl)⟩ rfl rfl (Nat.le_of_ble_eq_true rfl) hf1 dL_law_1467 (fun H locs hw => ?_)
  refine lv_icmp_eq (tgt := 1711) hx hb dL_law_1470 (by decide) (fun _ => ?_) (fun q => absurd rfl q)
  exact W.widen (Nat.le_add_right _ _) (Nat.le_add_right _ _) (hk _ _ _ _ _ _ _ _ _ _ X1 hw)
/-- logTime -/
theorem lc_47 (l : Launch) (E : Ev p cL_law 4 ret RL lw_tbl D cA tS A s m #[Value.ref b] meth c) (hKA : KA cA s) (hX : va_X b L xs s s.heap) (hbl : b < s.heap.size) (hbA : ¬ A b) (hl : lv_has ls 4 [(3, .int x3), (2, .ref (y 0)), (1, .ref ax), (0, .ref b)]) (hd : ∀ k : Nat, k ≤ 6 → vp_in (x3 + nI k) L) (hf0 : cells + 40 ≤ 600000 ∧ slots + 4540 ≤ 7302249) (X : LX cA σ τ κ μ f V0 V1) (hw : Wd D A (wQ cA h t z y ax sv σ τ κ μ wd f V0 V1) s.heap H locs)
    (hk : ∀ (σ' τ' κ' μ' : Sg) (wd' : Int64) (f' : Nat → Option Nat) (V0' V1' : va_W) (H1 : Heap) (locs1 : List Loc), LX cA σ' τ' κ' μ' f' V0' V1' → Wd D A (wQ cA h t z y ax sv σ' τ' κ' μ' wd' f' V0' V1') s.heap H1 locs1 → W p l e room_1 s m #[Value.ref b] below meth c H1 locs1 (cells + 40) (slots + 4540) Q (F0 m 1711 ls [])) :
    W p l e room_1 s m #[Value.ref b] below meth c H locs cells slots Q (F0 m 1475 ls []) := by
  have hx := E.1.1
  have hb := E.1.2.1
  have hf1 : cells ≤ room_1.cells ∧ slots ≤ room_1.slots := ⟨by show cells ≤ 600000; omega, by show slots ≤ 7302249; omega⟩
  unfold wQ at hw
  obtain ⟨cnt, kc, T, hl0, V⟩ := X.v
  obtain ⟨r, h1, h2⟩ := q_logTime V (xs (x3 + 1).toNatClampNeg) wd
  have X1 := X
  refine lv_aload_n hx hb dL_law_1475 rfl (lv_at hl 2 rfl) ?_
  refine lv_aload_n hx hb dL_law_1476 rfl (lv_at hl 3 rfl) ?_
  refine lv_iload_n hx hb dL_law_1477 rfl (lv_at hl 0 rfl) ?_
  refine lv_iconst (v := 1) hx hb dL_law_1478 (by decide) ?_
  refine lv_iadd hx hb dL_law_1479 ?_
  refine va_sld hx hb hX hbl hbA hw.2.2 (hd 1 (by decide)) dL_law_1480 ?_
  refine lx_cv (As := [.int (xs (x3 + 1).toNatClampNeg)]) (rest := []) (σ' := σ) (κ' := κ) (τ' := τ) E hw hl (c_X8_logTime l D cA tS A h ax sv (t 42) (z 60) _ (xs (x3 + 1).toNatClampNeg) σ r h1) 1 (bwV bw_l tb_954 tb_955 tb_956 tb_99 tb_957) rfl (by decide +kernel) ⟨(Nat.le_of_ble_eq_true rfl), (Nat.le_of_ble_eq_true rfl)⟩ rfl rfl (Nat.le_of_ble_eq_true rfl) hf1 dL_law_1481 (fun H locs hw => ?_)
  refine lv_aload_n hx hb dL_law_1484 rfl (lv_at hl 1 rfl) ?_
  refine lv_aload_n hx hb dL_law_1485 rfl (lv_at hl 3 rfl) ?_
  refine lv_iload_n hx hb dL_law_1486 rfl (lv_at hl 0 rfl) ?_
  refine lv_iconst (v := 1) hx hb dL_law_1487 (by decide) ?_
  refine lv_iadd hx hb dL_law_1488 ?_
  refine va_sld hx hb hX hbl hbA hw.2.2 (hd 1 (by decide)) dL_law_1489 ?_
  refine lm_cv (As := [.int (xs (x3 + 1).toNatClampNeg)]) (rest := [.int r]) (μ' := μ) (wd' := wd) E hw hl (c_X9_logTime l D cA tS A y _ (xs (x3 + 1).toNatClampNeg) μ wd r h2) 1 (bwV bw_l tb_1577 tb_1578 tb_1579 tb_111 tb_1580) rfl (by decide +kernel) ⟨(Nat.le_of_ble_eq_true rfl), (Nat.le_of_ble_eq_true rfl)⟩ rfl rfl (Nat.le_of_ble_eq_true rfl) hf1 dL_law_1490 (fun H locs hw => ?_)
  refine lv_icmp_eq (tgt := 1711) hx hb dL_law_1493 (by decide) (fun _ => ?_) (fun q => absurd rfl q)
  exact W.widen (Nat.le_add_right _ _) (Nat.le_add_right _ _) (hk _ _ _ _ _ _ _ _ _ _ X1 hw)
/-- logType -/
theorem lc_48 (l : Launch) (E : Ev p cL_law 4 ret RL lw_tbl D cA tS A s m #[Value.ref b] meth c) (hKA : KA cA s) (hX : va_X b L xs s s.heap) (hbl : b < s.heap.size) (hbA : ¬ A b) (hl : lv_has ls 4 [(3, .int x3), (2, .ref (y 0)), (1, .ref ax), (0, .ref b)]) (hd : ∀ k : Nat, k ≤ 6 → vp_in (x3 + nI k) L) (hf0 : cells + 40 ≤ 600000 ∧ slots + 4540 ≤ 7302249) (X : LX cA σ τ κ μ f V0 V1) (hw : Wd D A (wQ cA h t z y ax sv σ τ κ μ wd f V0 V1) s.heap H locs)
    (hk : ∀ (σ' τ' κ' μ' : Sg) (wd' : Int64) (f' : Nat → Option Nat) (V0' V1' : va_W) (H1 : Heap) (locs1 : List Loc), LX cA σ' τ' κ' μ' f' V0' V1' → Wd D A (wQ cA h t z y ax sv σ' τ' κ' μ' wd' f' V0' V1') s.heap H1 locs1 → W p l e room_1 s m #[Value.ref b] below meth c H1 locs1 (cells + 40) (slots + 4540) Q (F0 m 1711 ls [])) :
    W p l e room_1 s m #[Value.ref b] below meth c H locs cells slots Q (F0 m 1498 ls []) := by
  have hx := E.1.1
  have hb := E.1.2.1
  have hf1 : cells ≤ room_1.cells ∧ slots ≤ room_1.slots := ⟨by show cells ≤ 600000; omega, by show slots ≤ 7302249; omega⟩
  unfold wQ at hw
  obtain ⟨cnt, kc, T, hl0, V⟩ := X.v
  obtain ⟨r, h1, h2⟩ := q_logType V (xs (x3 + 1).toNatClampNeg) wd
  have X1 := X
  refine lv_aload_n hx hb dL_law_1498 rfl (lv_at hl 2 rfl) ?_
  refine lv_aload_n hx hb dL_law_1499 rfl (lv_at hl 3 rfl) ?_
  refine lv_iload_n hx hb dL_law_1500 rfl (lv_at hl 0 rfl) ?_
  refine lv_iconst (v := 1) hx hb dL_law_1501 (by decide) ?_
  refine lv_iadd hx hb dL_law_1502 ?_
  refine va_sld hx hb hX hbl hbA hw.2.2 (hd 1 (by decide)) dL_law_1503 ?_
  refine lx_cv (As := [.int (xs (x3 + 1).toNatClampNeg)]) (rest := []) (σ' := σ) (κ' := κ) (τ' := τ) E hw hl (c_X8_logType l D cA tS A h ax sv (t 42) (z 60) _ (xs (x3 + 1).toNatClampNeg) σ r h1) 1 (bwV bw_l tb_962 tb_963 tb_964 tb_99 tb_965) rfl (by decide +kernel) ⟨(Nat.le_of_ble_eq_true rfl), (Nat.le_of_ble_eq_true rfl)⟩ rfl rfl (Nat.le_of_ble_eq_true rfl) hf1 dL_law_1504 (fun H locs hw => ?_)
  refine lv_aload_n hx hb dL_law_1507 rfl (lv_at hl 1 rfl) ?_
  refine lv_aload_n hx hb dL_law_1508 rfl (lv_at hl 3 rfl) ?_
  refine lv_iload_n hx hb dL_law_1509 rfl (lv_at hl 0 rfl) ?_
  refine lv_iconst (v := 1) hx hb dL_law_1510 (by decide) ?_
  refine lv_iadd hx hb dL_law_1511 ?_
  refine va_sld hx hb hX hbl hbA hw.2.2 (hd 1 (by decide)) dL_law_1512 ?_
  refine lm_cv (As := [.int (xs (x3 + 1).toNatClampNeg)]) (rest := [.int r]) (μ' := μ) (wd' := wd) E hw hl (c_X9_logType l D cA tS A y _ (xs (x3 + 1).toNatClampNeg) μ wd r h2) 1 (bwV bw_l tb_1585 tb_1586 tb_1587 tb_111 tb_1588) rfl (by decide +kernel) ⟨(Nat.le_of_ble_eq_true rfl), (Nat.le_of_ble_eq_true rfl)⟩ rfl rfl (Nat.le_of_ble_eq_true rfl) hf1 dL_law_1513 (fun H locs hw => ?_)
  refine lv_icmp_eq (tgt := 1711) hx hb dL_law_1516 (by decide) (fun _ => ?_) (fun q => absurd rfl q)
  exact W.widen (Nat.le_add_right _ _) (Nat.le_add_right _ _) (hk _ _ _ _ _ _ _ _ _ _ X1 hw)
/-- logTicket -/
theorem lc_49 (l : Launch) (E : Ev p cL_law 4 ret RL lw_tbl D cA tS A s m #[Value.ref b] meth c) (hKA : KA cA s) (hX : va_X b L xs s s.heap) (hbl : b < s.heap.size) (hbA : ¬ A b) (hl : lv_has ls 4 [(3, .int x3), (2, .ref (y 0)), (1, .ref ax), (0, .ref b)]) (hd : ∀ k : Nat, k ≤ 6 → vp_in (x3 + nI k) L) (hf0 : cells + 40 ≤ 600000 ∧ slots + 4540 ≤ 7302249) (X : LX cA σ τ κ μ f V0 V1) (hw : Wd D A (wQ cA h t z y ax sv σ τ κ μ wd f V0 V1) s.heap H locs)
    (hk : ∀ (σ' τ' κ' μ' : Sg) (wd' : Int64) (f' : Nat → Option Nat) (V0' V1' : va_W) (H1 : Heap) (locs1 : List Loc), LX cA σ' τ' κ' μ' f' V0' V1' → Wd D A (wQ cA h t z y ax sv σ' τ' κ' μ' wd' f' V0' V1') s.heap H1 locs1 → W p l e room_1 s m #[Value.ref b] below meth c H1 locs1 (cells + 40) (slots + 4540) Q (F0 m 1711 ls [])) :
    W p l e room_1 s m #[Value.ref b] below meth c H locs cells slots Q (F0 m 1521 ls []) := by
  have hx := E.1.1
  have hb := E.1.2.1
  have hf1 : cells ≤ room_1.cells ∧ slots ≤ room_1.slots := ⟨by show cells ≤ 600000; omega, by show slots ≤ 7302249; omega⟩
  unfold wQ at hw
  obtain ⟨cnt, kc, T, hl0, V⟩ := X.v
  obtain ⟨r, h1, h2⟩ := q_logTicket V (xs (x3 + 1).toNatClampNeg) wd
  have X1 := X
  refine lv_aload_n hx hb dL_law_1521 rfl (lv_at hl 2 rfl) ?_
  refine lv_aload_n hx hb dL_law_1522 rfl (lv_at hl 3 rfl) ?_
  refine lv_iload_n hx hb dL_law_1523 rfl (lv_at hl 0 rfl) ?_
  refine lv_iconst (v := 1) hx hb dL_law_1524 (by decide) ?_
  refine lv_iadd hx hb dL_law_1525 ?_
  refine va_sld hx hb hX hbl hbA hw.2.2 (hd 1 (by decide)) dL_law_1526 ?_
  refine lx_cv (As := [.int (xs (x3 + 1).toNatClampNeg)]) (rest := []) (σ' := σ) (κ' := κ) (τ' := τ) E hw hl (c_X8_logTicket l D cA tS A h ax sv (t 42) (z 60) _ (xs (x3 + 1).toNatClampNeg) σ r h1) 1 (bwV bw_l tb_966 tb_967 tb_968 tb_99 tb_969) rfl (by decide +kernel) ⟨(Nat.le_of_ble_eq_true rfl), (Nat.le_of_ble_eq_true rfl)⟩ rfl rfl (Nat.le_of_ble_eq_true rfl) hf1 dL_law_1527 (fun H locs hw => ?_)
  refine lv_aload_n hx hb dL_law_1530 rfl (lv_at hl 1 rfl) ?_
  refine lv_aload_n hx hb dL_law_1531 rfl (lv_at hl 3 rfl) ?_
  refine lv_iload_n hx hb dL_law_1532 rfl (lv_at hl 0 rfl) ?_
  refine lv_iconst (v := 1) hx hb dL_law_1533 (by decide) ?_
  refine lv_iadd hx hb dL_law_1534 ?_
  refine va_sld hx hb hX hbl hbA hw.2.2 (hd 1 (by decide)) dL_law_1535 ?_
  refine lm_cv (As := [.int (xs (x3 + 1).toNatClampNeg)]) (rest := [.int r]) (μ' := μ) (wd' := wd) E hw hl (c_X9_logTicket l D cA tS A y _ (xs (x3 + 1).toNatClampNeg) μ wd r h2) 1 (bwV bw_l tb_1589 tb_1590 tb_1591 tb_111 tb_1592) rfl (by decide +kernel) ⟨(Nat.le_of_ble_eq_true rfl), (Nat.le_of_ble_eq_true rfl)⟩ rfl rfl (Nat.le_of_ble_eq_true rfl) hf1 dL_law_1536 (fun H locs hw => ?_)
  refine lv_icmp_eq (tgt := 1711) hx hb dL_law_1539 (by decide) (fun _ => ?_) (fun q => absurd rfl q)
  exact W.widen (Nat.le_add_right _ _) (Nat.le_add_right _ _) (hk _ _ _ _ _ _ _ _ _ _ X1 hw)
/-- logDetail -/
theorem lc_50 (l : Launch) (E : Ev p cL_law 4 ret RL lw_tbl D cA tS A s m #[Value.ref b] meth c) (hKA : KA cA s) (hX : va_X b L xs s s.heap) (hbl : b < s.heap.size) (hbA : ¬ A b) (hl : lv_has ls 4 [(3, .int x3), (2, .ref (y 0)), (1, .ref ax), (0, .ref b)]) (hd : ∀ k : Nat, k ≤ 6 → vp_in (x3 + nI k) L) (hf0 : cells + 40 ≤ 600000 ∧ slots + 4540 ≤ 7302249) (X : LX cA σ τ κ μ f V0 V1) (hw : Wd D A (wQ cA h t z y ax sv σ τ κ μ wd f V0 V1) s.heap H locs)
    (hk : ∀ (σ' τ' κ' μ' : Sg) (wd' : Int64) (f' : Nat → Option Nat) (V0' V1' : va_W) (H1 : Heap) (locs1 : List Loc), LX cA σ' τ' κ' μ' f' V0' V1' → Wd D A (wQ cA h t z y ax sv σ' τ' κ' μ' wd' f' V0' V1') s.heap H1 locs1 → W p l e room_1 s m #[Value.ref b] below meth c H1 locs1 (cells + 40) (slots + 4540) Q (F0 m 1711 ls [])) :
    W p l e room_1 s m #[Value.ref b] below meth c H locs cells slots Q (F0 m 1544 ls []) := by
  have hx := E.1.1
  have hb := E.1.2.1
  have hf1 : cells ≤ room_1.cells ∧ slots ≤ room_1.slots := ⟨by show cells ≤ 600000; omega, by show slots ≤ 7302249; omega⟩
  unfold wQ at hw
  obtain ⟨cnt, kc, T, hl0, V⟩ := X.v
  obtain ⟨r, h1, h2⟩ := q_logDetail V (xs (x3 + 1).toNatClampNeg) wd
  have X1 := X
  refine lv_aload_n hx hb dL_law_1544 rfl (lv_at hl 2 rfl) ?_
  refine lv_aload_n hx hb dL_law_1545 rfl (lv_at hl 3 rfl) ?_
  refine lv_iload_n hx hb dL_law_1546 rfl (lv_at hl 0 rfl) ?_
  refine lv_iconst (v := 1) hx hb dL_law_1547 (by decide) ?_
  refine lv_iadd hx hb dL_law_1548 ?_
  refine va_sld hx hb hX hbl hbA hw.2.2 (hd 1 (by decide)) dL_law_1549 ?_
  refine lx_cv (As := [.int (xs (x3 + 1).toNatClampNeg)]) (rest := []) (σ' := σ) (κ' := κ) (τ' := τ) E hw hl (c_X8_logDetail l D cA tS A h ax sv (t 42) (z 60) _ (xs (x3 + 1).toNatClampNeg) σ r h1) 1 (bwV bw_l tb_970 tb_971 tb_972 tb_99 tb_973) rfl (by decide +kernel) ⟨(Nat.le_of_ble_eq_true rfl), (Nat.le_of_ble_eq_true rfl)⟩ rfl rfl (Nat.le_of_ble_eq_true rfl) hf1 dL_law_1550 (fun H locs hw => ?_)
  refine lv_aload_n hx hb dL_law_1553 rfl (lv_at hl 1 rfl) ?_
  refine lv_aload_n hx hb dL_law_1554 rfl (lv_at hl 3 rfl) ?_
  refine lv_iload_n hx hb dL_law_1555 rfl (lv_at hl 0 rfl) ?_
  refine lv_iconst (v := 1) hx hb dL_law_1556 (by decide) ?_
  refine lv_iadd hx hb dL_law_1557 ?_
  refine va_sld hx hb hX hbl hbA hw.2.2 (hd 1 (by decide)) dL_law_1558 ?_
  refine lm_cv (As := [.int (xs (x3 + 1).toNatClampNeg)]) (rest := [.int r]) (μ' := μ) (wd' := wd) E hw hl (c_X9_logDetail l D cA tS A y _ (xs (x3 + 1).toNatClampNeg) μ wd r h2) 1 (bwV bw_l tb_1593 tb_1594 tb_1595 tb_111 tb_1596) rfl (by decide +kernel) ⟨(Nat.le_of_ble_eq_true rfl), (Nat.le_of_ble_eq_true rfl)⟩ rfl rfl (Nat.le_of_ble_eq_true rfl) hf1 dL_law_1559 (fun H locs hw => ?_)
  refine lv_icmp_eq (tgt := 1711) hx hb dL_law_1562 (by decide) (fun _ => ?_) (fun q => absurd rfl q)
  exact W.widen (Nat.le_add_right _ _) (Nat.le_add_right _ _) (hk _ _ _ _ _ _ _ _ _ _ X1 hw)
/-- appendText -/
theorem lc_51 (l : Launch) (E : Ev p cL_law 4 ret RL lw_tbl D cA tS A s m #[Value.ref b] meth c) (hKA : KA cA s) (hX : va_X b L xs s s.heap) (hbl : b < s.heap.size) (hbA : ¬ A b) (hl : lv_has ls 4 [(3, .int x3), (2, .ref (y 0)), (1, .ref ax), (0, .ref b)]) (hd : ∀ k : Nat, k ≤ 6 → vp_in (x3 + nI k) L) (hf0 : cells + 40 ≤ 600000 ∧ slots + 4540 ≤ 7302249) (X : LX cA σ τ κ μ f V0 V1) (hw : Wd D A (wQ cA h t z y ax sv σ τ κ μ wd f V0 V1) s.heap H locs)
    (hk : ∀ (σ' τ' κ' μ' : Sg) (wd' : Int64) (f' : Nat → Option Nat) (V0' V1' : va_W) (H1 : Heap) (locs1 : List Loc), LX cA σ' τ' κ' μ' f' V0' V1' → Wd D A (wQ cA h t z y ax sv σ' τ' κ' μ' wd' f' V0' V1') s.heap H1 locs1 → W p l e room_1 s m #[Value.ref b] below meth c H1 locs1 (cells + 40) (slots + 4540) Q (F0 m 1711 ls [])) :
    W p l e room_1 s m #[Value.ref b] below meth c H locs cells slots Q (F0 m 1567 ls []) := by
  have hx := E.1.1
  have hb := E.1.2.1
  have hf1 : cells ≤ room_1.cells ∧ slots ≤ room_1.slots := ⟨by show cells ≤ 600000; omega, by show slots ≤ 7302249; omega⟩
  unfold wQ at hw
  obtain ⟨r, κ1, μ1, h1, h2, X1⟩ := L_append X (xs (x3 + 1).toNatClampNeg) wd
  refine lv_aload_n hx hb dL_law_1567 rfl (lv_at hl 2 rfl) ?_
  refine lv_aload_n hx hb dL_law_1568 rfl (lv_at hl 3 rfl) ?_
  refine lv_iload_n hx hb dL_law_1569 rfl (lv_at hl 0 rfl) ?_
  refine lv_iconst (v := 1) hx hb dL_law_1570 (by decide) ?_
  refine lv_iadd hx hb dL_law_1571 ?_
  refine va_sld hx hb hX hbl hbA hw.2.2 (hd 1 (by decide)) dL_law_1572 ?_
  refine lx_cs (As := [.int (xs (x3 + 1).toNatClampNeg)]) (rest := []) (σ' := σ) (κ' := κ1) E hw hl (c_X8_appendText l D cA tS A h z ax sv (t 42) _ NN (xs (x3 + 1).toNatClampNeg) σ κ r κ1 h1) 1 (bwV bw_l tb_974 tb_975 tb_976 tb_99 tb_977) rfl (by decide +kernel) ⟨(Nat.le_of_ble_eq_true rfl), (Nat.le_of_ble_eq_true rfl)⟩ rfl rfl (Nat.le_of_ble_eq_true rfl) hf1 dL_law_1573 (fun H locs hw => ?_)
  refine lv_aload_n hx hb dL_law_1576 rfl (lv_at hl 1 rfl) ?_
  refine lv_aload_n hx hb dL_law_1577 rfl (lv_at hl 3 rfl) ?_
  refine lv_iload_n hx hb dL_law_1578 rfl (lv_at hl 0 rfl) ?_
  refine lv_iconst (v := 1) hx hb dL_law_1579 (by decide) ?_
  refine lv_iadd hx hb dL_law_1580 ?_
  refine va_sld hx hb hX hbl hbA hw.2.2 (hd 1 (by decide)) dL_law_1581 ?_
  refine lm_cv (As := [.int (xs (x3 + 1).toNatClampNeg)]) (rest := [.int r]) (μ' := μ1) (wd' := wd) E hw hl (c_X9_appendText l D cA tS A y _ NN (xs (x3 + 1).toNatClampNeg) μ wd r μ1 h2) 1 (bwV bw_l tb_1597 tb_1598 tb_1599 tb_111 tb_1600) rfl (by decide +kernel) ⟨(Nat.le_of_ble_eq_true rfl), (Nat.le_of_ble_eq_true rfl)⟩ rfl rfl (Nat.le_of_ble_eq_true rfl) hf1 dL_law_1582 (fun H locs hw => ?_)
  refine lv_icmp_eq (tgt := 1711) hx hb dL_law_1585 (by decide) (fun _ => ?_) (fun q => absurd rfl q)
  exact W.widen (Nat.le_add_right _ _) (Nat.le_add_right _ _) (hk _ _ _ _ _ _ _ _ _ _ X1 hw)
/-- truncateText -/
theorem lc_52 (l : Launch) (E : Ev p cL_law 4 ret RL lw_tbl D cA tS A s m #[Value.ref b] meth c) (hKA : KA cA s) (hX : va_X b L xs s s.heap) (hbl : b < s.heap.size) (hbA : ¬ A b) (hl : lv_has ls 4 [(3, .int x3), (2, .ref (y 0)), (1, .ref ax), (0, .ref b)]) (hd : ∀ k : Nat, k ≤ 6 → vp_in (x3 + nI k) L) (hf0 : cells + 40 ≤ 600000 ∧ slots + 4540 ≤ 7302249) (X : LX cA σ τ κ μ f V0 V1) (hw : Wd D A (wQ cA h t z y ax sv σ τ κ μ wd f V0 V1) s.heap H locs)
    (hk : ∀ (σ' τ' κ' μ' : Sg) (wd' : Int64) (f' : Nat → Option Nat) (V0' V1' : va_W) (H1 : Heap) (locs1 : List Loc), LX cA σ' τ' κ' μ' f' V0' V1' → Wd D A (wQ cA h t z y ax sv σ' τ' κ' μ' wd' f' V0' V1') s.heap H1 locs1 → W p l e room_1 s m #[Value.ref b] below meth c H1 locs1 (cells + 40) (slots + 4540) Q (F0 m 1711 ls [])) :
    W p l e room_1 s m #[Value.ref b] below meth c H locs cells slots Q (F0 m 1590 ls []) := by
  have hx := E.1.1
  have hb := E.1.2.1
  have hf1 : cells ≤ room_1.cells ∧ slots ≤ room_1.slots := ⟨by show cells ≤ 600000; omega, by show slots ≤ 7302249; omega⟩
  unfold wQ at hw
  obtain ⟨r, κ1, μ1, h1, h2, X1⟩ := L_truncate X (xs (x3 + 1).toNatClampNeg) wd
  refine lv_aload_n hx hb dL_law_1590 rfl (lv_at hl 2 rfl) ?_
  refine lv_aload_n hx hb dL_law_1591 rfl (lv_at hl 3 rfl) ?_
  refine lv_iload_n hx hb dL_law_1592 rfl (lv_at hl 0 rfl) ?_
  refine lv_iconst (v := 1) hx hb dL_law_1593 (by decide) ?_
  refine lv_iadd hx hb dL_law_1594 ?_
  refine va_sld hx hb hX hbl hbA hw.2.2 (hd 1 (by decide)) dL_law_1595 ?_
  refine lx_cs (As := [.int (xs (x3 + 1).toNatClampNeg)]) (rest := []) (σ' := σ) (κ' := κ1) E hw hl (c_X8_truncateText l D cA tS A h z ax sv (t 42) _ (xs (x3 + 1).toNatClampNeg) σ κ r κ1 h1) 1 (bwV bw_l tb_982 tb_983 tb_984 tb_99 tb_985) rfl (by decide +kernel) ⟨(Nat.le_of_ble_eq_true rfl), (Nat.le_of_ble_eq_true rfl)⟩ rfl rfl (Nat.le_of_ble_eq_true rfl) hf1 dL_law_1596 (fun H locs hw => ?_)
  refine lv_aload_n hx hb dL_law_1599 rfl (lv_at hl 1 rfl) ?_
  refine lv_aload_n hx hb dL_law_1600 rfl (lv_at hl 3 rfl) ?_
  refine lv_iload_n hx hb dL_law_1601 rfl (lv_at hl 0 rfl) ?_
  refine lv_iconst (v := 1) hx hb dL_law_1602 (by decide) ?_
  refine lv_iadd hx hb dL_law_1603 ?_
  refine va_sld hx hb hX hbl hbA hw.2.2 (hd 1 (by decide)) dL_law_1604 ?_
  refine lm_cv (As := [.int (xs (x3 + 1).toNatClampNeg)]) (rest := [.int r]) (μ' := μ1) (wd' := wd) E hw hl (c_X9_truncateText l D cA tS A y _ (xs (x3 + 1).toNatClampNeg) μ wd r μ1 h2) 1 (bwV bw_l tb_1601 tb_1602 tb_1603 tb_111 tb_1604) rfl (by decide +kernel) ⟨(Nat.le_of_ble_eq_true rfl), (Nat.le_of_ble_eq_true rfl)⟩ rfl rfl (Nat.le_of_ble_eq_true rfl) hf1 dL_law_1605 (fun H locs hw => ?_)
  refine lv_icmp_eq (tgt := 1711) hx hb dL_law_1608 (by decide) (fun _ => ?_) (fun q => absurd rfl q)
  exact W.widen (Nat.le_add_right _ _) (Nat.le_add_right _ _) (hk _ _ _ _ _ _ _ _ _ _ X1 hw)
/-- runScript -/
theorem lc_53 (l : Launch) (E : Ev p cL_law 4 ret RL lw_tbl D cA tS A s m #[Value.ref b] meth c) (hKA : KA cA s) (hX : va_X b L xs s s.heap) (hbl : b < s.heap.size) (hbA : ¬ A b) (hl : lv_has ls 4 [(3, .int x3), (2, .ref (y 0)), (1, .ref ax), (0, .ref b)]) (hd : ∀ k : Nat, k ≤ 6 → vp_in (x3 + nI k) L) (hf0 : cells + 40 ≤ 600000 ∧ slots + 4540 ≤ 7302249) (X : LX cA σ τ κ μ f V0 V1) (hw : Wd D A (wQ cA h t z y ax sv σ τ κ μ wd f V0 V1) s.heap H locs)
    (hk : ∀ (σ' τ' κ' μ' : Sg) (wd' : Int64) (f' : Nat → Option Nat) (V0' V1' : va_W) (H1 : Heap) (locs1 : List Loc), LX cA σ' τ' κ' μ' f' V0' V1' → Wd D A (wQ cA h t z y ax sv σ' τ' κ' μ' wd' f' V0' V1') s.heap H1 locs1 → W p l e room_1 s m #[Value.ref b] below meth c H1 locs1 (cells + 40) (slots + 4540) Q (F0 m 1711 ls [])) :
    W p l e room_1 s m #[Value.ref b] below meth c H locs cells slots Q (F0 m 1613 ls []) := by
  have hx := E.1.1
  have hb := E.1.2.1
  have hf1 : cells ≤ room_1.cells ∧ slots ≤ room_1.slots := ⟨by show cells ≤ 600000; omega, by show slots ≤ 7302249; omega⟩
  unfold wQ at hw
  obtain ⟨r, σ1, κ1, μ1, wd1, h1, h2, X1⟩ := L_script X wd
  refine lv_aload_n hx hb dL_law_1613 rfl (lv_at hl 2 rfl) ?_
  refine lx_cs (As := []) (rest := []) (σ' := σ1) (κ' := κ1) E hw hl (c_X8_runScript l D cA tS A h z ax sv (t 42) _ NN σ κ r σ1 κ1 h1) 0 (bwV bw_l tb_986 tb_987 tb_988 tb_99 tb_989) rfl (by decide +kernel) ⟨(Nat.le_of_ble_eq_true rfl), (Nat.le_of_ble_eq_true rfl)⟩ rfl rfl (Nat.le_of_ble_eq_true rfl) hf1 dL_law_1614 (fun H locs hw => ?_)
  refine lv_aload_n hx hb dL_law_1617 rfl (lv_at hl 1 rfl) ?_
  refine lm_cv (As := []) (rest := [.int r]) (μ' := μ1) (wd' := wd1) E hw hl (c_X9_runScript l D cA tS A y _ NN μ wd r μ1 wd1 h2) 0 (bwV bw_l tb_1605 tb_1606 tb_1607 tb_111 tb_1608) rfl (by decide +kernel) ⟨(Nat.le_of_ble_eq_true rfl), (Nat.le_of_ble_eq_true rfl)⟩ rfl rfl (Nat.le_of_ble_eq_true rfl) hf1 dL_law_1618 (fun H locs hw => ?_)
  refine lv_icmp_eq (tgt := 1711) hx hb dL_law_1621 (by decide) (fun _ => ?_) (fun q => absurd rfl q)
  exact W.widen (Nat.le_add_right _ _) (Nat.le_add_right _ _) (hk _ _ _ _ _ _ _ _ _ _ X1 hw)
/-- errorCode -/
theorem lc_54 (l : Launch) (E : Ev p cL_law 4 ret RL lw_tbl D cA tS A s m #[Value.ref b] meth c) (hKA : KA cA s) (hX : va_X b L xs s s.heap) (hbl : b < s.heap.size) (hbA : ¬ A b) (hl : lv_has ls 4 [(3, .int x3), (2, .ref (y 0)), (1, .ref ax), (0, .ref b)]) (hd : ∀ k : Nat, k ≤ 6 → vp_in (x3 + nI k) L) (hf0 : cells + 40 ≤ 600000 ∧ slots + 4540 ≤ 7302249) (X : LX cA σ τ κ μ f V0 V1) (hw : Wd D A (wQ cA h t z y ax sv σ τ κ μ wd f V0 V1) s.heap H locs)
    (hk : ∀ (σ' τ' κ' μ' : Sg) (wd' : Int64) (f' : Nat → Option Nat) (V0' V1' : va_W) (H1 : Heap) (locs1 : List Loc), LX cA σ' τ' κ' μ' f' V0' V1' → Wd D A (wQ cA h t z y ax sv σ' τ' κ' μ' wd' f' V0' V1') s.heap H1 locs1 → W p l e room_1 s m #[Value.ref b] below meth c H1 locs1 (cells + 40) (slots + 4540) Q (F0 m 1711 ls [])) :
    W p l e room_1 s m #[Value.ref b] below meth c H locs cells slots Q (F0 m 1626 ls []) := by
  have hx := E.1.1
  have hb := E.1.2.1
  have hf1 : cells ≤ room_1.cells ∧ slots ≤ room_1.slots := ⟨by show cells ≤ 600000; omega, by show slots ≤ 7302249; omega⟩
  unfold wQ at hw
  obtain ⟨r, h1⟩ : ∃ r, f_X8_errorCode σ κ = some r := ⟨κ 5 0, rfl⟩
  have h2 : f_X9_errorCode μ wd = some r := (L_err X wd).1.symm.trans h1
  have X1 := X
  refine lv_aload_n hx hb dL_law_1626 rfl (lv_at hl 2 rfl) ?_
  refine lx_cs (As := []) (rest := []) (σ' := σ) (κ' := κ) E hw hl (c_X8_errorCode l D cA tS A h z ax sv (t 42) _ σ κ r h1) 0 (bwV bw_l tb_1105 tb_1106 tb_1107 tb_99 tb_1108) rfl (by decide +kernel) ⟨(Nat.le_of_ble_eq_true rfl), (Nat.le_of_ble_eq_true rfl)⟩ rfl rfl (Nat.le_of_ble_eq_true rfl) hf1 dL_law_1627 (fun H locs hw => ?_)
  refine lv_aload_n hx hb dL_law_1630 rfl (lv_at hl 1 rfl) ?_
  refine lm_cv (As := []) (rest := [.int r]) (μ' := μ) (wd' := wd) E hw hl (c_X9_errorCode l D cA tS A y _ μ wd r h2) 0 (bwV bw_l tb_1675 tb_1676 tb_1677 tb_111 tb_1678) rfl (by decide +kernel) ⟨(Nat.le_of_ble_eq_true rfl), (Nat.le_of_ble_eq_true rfl)⟩ rfl rfl (Nat.le_of_ble_eq_true rfl) hf1 dL_law_1631 (fun H locs hw => ?_)
  refine lv_icmp_eq (tgt := 1711) hx hb dL_law_1634 (by decide) (fun _ => ?_) (fun q => absurd rfl q)
  exact W.widen (Nat.le_add_right _ _) (Nat.le_add_right _ _) (hk _ _ _ _ _ _ _ _ _ _ X1 hw)
/-- errorPosition -/
theorem lc_55 (l : Launch) (E : Ev p cL_law 4 ret RL lw_tbl D cA tS A s m #[Value.ref b] meth c) (hKA : KA cA s) (hX : va_X b L xs s s.heap) (hbl : b < s.heap.size) (hbA : ¬ A b) (hl : lv_has ls 4 [(3, .int x3), (2, .ref (y 0)), (1, .ref ax), (0, .ref b)]) (hd : ∀ k : Nat, k ≤ 6 → vp_in (x3 + nI k) L) (hf0 : cells + 40 ≤ 600000 ∧ slots + 4540 ≤ 7302249) (X : LX cA σ τ κ μ f V0 V1) (hw : Wd D A (wQ cA h t z y ax sv σ τ κ μ wd f V0 V1) s.heap H locs)
    (hk : ∀ (σ' τ' κ' μ' : Sg) (wd' : Int64) (f' : Nat → Option Nat) (V0' V1' : va_W) (H1 : Heap) (locs1 : List Loc), LX cA σ' τ' κ' μ' f' V0' V1' → Wd D A (wQ cA h t z y ax sv σ' τ' κ' μ' wd' f' V0' V1') s.heap H1 locs1 → W p l e room_1 s m #[Value.ref b] below meth c H1 locs1 (cells + 40) (slots + 4540) Q (F0 m 1711 ls [])) :
    W p l e room_1 s m #[Value.ref b] below meth c H locs cells slots Q (F0 m 1639 ls []) := by
  have hx := E.1.1
  have hb := E.1.2.1
  have hf1 : cells ≤ room_1.cells ∧ slots ≤ room_1.slots := ⟨by show cells ≤ 600000; omega, by show slots ≤ 7302249; omega⟩
  unfold wQ at hw
  obtain ⟨r, h1⟩ : ∃ r, f_X8_errorPosition σ κ = some r := ⟨κ 6 0, rfl⟩
  have h2 : f_X9_errorPosition μ wd = some r := (L_err X wd).2.1.symm.trans h1
  have X1 := X
  refine lv_aload_n hx hb dL_law_1639 rfl (lv_at hl 2 rfl) ?_
  refine lx_cs (As := []) (rest := []) (σ' := σ) (κ' := κ) E hw hl (c_X8_errorPosition l D cA tS A h z ax sv (t 42) _ σ κ r h1) 0 (bwV bw_l tb_1109 tb_1110 tb_1111 tb_99 tb_1112) rfl (by decide +kernel) ⟨(Nat.le_of_ble_eq_true rfl), (Nat.le_of_ble_eq_true rfl)⟩ rfl rfl (Nat.le_of_ble_eq_true rfl) hf1 dL_law_1640 (fun H locs hw => ?_)
  refine lv_aload_n hx hb dL_law_1643 rfl (lv_at hl 1 rfl) ?_
  refine lm_cv (As := []) (rest := [.int r]) (μ' := μ) (wd' := wd) E hw hl (c_X9_errorPosition l D cA tS A y _ μ wd r h2) 0 (bwV bw_l tb_1679 tb_1680 tb_1681 tb_111 tb_1682) rfl (by decide +kernel) ⟨(Nat.le_of_ble_eq_true rfl), (Nat.le_of_ble_eq_true rfl)⟩ rfl rfl (Nat.le_of_ble_eq_true rfl) hf1 dL_law_1644 (fun H locs hw => ?_)
  refine lv_icmp_eq (tgt := 1711) hx hb dL_law_1647 (by decide) (fun _ => ?_) (fun q => absurd rfl q)
  exact W.widen (Nat.le_add_right _ _) (Nat.le_add_right _ _) (hk _ _ _ _ _ _ _ _ _ _ X1 hw)
/-- scriptFailure -/
theorem lc_56 (l : Launch) (E : Ev p cL_law 4 ret RL lw_tbl D cA tS A s m #[Value.ref b] meth c) (hKA : KA cA s) (hX : va_X b L xs s s.heap) (hbl : b < s.heap.size) (hbA : ¬ A b) (hl : lv_has ls 4 [(3, .int x3), (2, .ref (y 0)), (1, .ref ax), (0, .ref b)]) (hd : ∀ k : Nat, k ≤ 6 → vp_in (x3 + nI k) L) (hf0 : cells + 40 ≤ 600000 ∧ slots + 4540 ≤ 7302249) (X : LX cA σ τ κ μ f V0 V1) (hw : Wd D A (wQ cA h t z y ax sv σ τ κ μ wd f V0 V1) s.heap H locs)
    (hk : ∀ (σ' τ' κ' μ' : Sg) (wd' : Int64) (f' : Nat → Option Nat) (V0' V1' : va_W) (H1 : Heap) (locs1 : List Loc), LX cA σ' τ' κ' μ' f' V0' V1' → Wd D A (wQ cA h t z y ax sv σ' τ' κ' μ' wd' f' V0' V1') s.heap H1 locs1 → W p l e room_1 s m #[Value.ref b] below meth c H1 locs1 (cells + 40) (slots + 4540) Q (F0 m 1711 ls [])) :
    W p l e room_1 s m #[Value.ref b] below meth c H locs cells slots Q (F0 m 1652 ls []) := by
  have hx := E.1.1
  have hb := E.1.2.1
  have hf1 : cells ≤ room_1.cells ∧ slots ≤ room_1.slots := ⟨by show cells ≤ 600000; omega, by show slots ≤ 7302249; omega⟩
  unfold wQ at hw
  obtain ⟨r, h1⟩ : ∃ r, f_X8_scriptFailure σ κ = some r := ⟨κ 7 0, rfl⟩
  have h2 : f_X9_scriptFailure μ wd = some r := (L_err X wd).2.2.symm.trans h1
  have X1 := X
  refine lv_aload_n hx hb dL_law_1652 rfl (lv_at hl 2 rfl) ?_
  refine lx_cs (As := []) (rest := []) (σ' := σ) (κ' := κ) E hw hl (c_X8_scriptFailure l D cA tS A h z ax sv (t 42) _ σ κ r h1) 0 (bwV bw_l tb_1113 tb_1114 tb_1115 tb_99 tb_1116) rfl (by decide +kernel) ⟨(Nat.le_of_ble_eq_true rfl), (Nat.le_of_ble_eq_true rfl)⟩ rfl rfl (Nat.le_of_ble_eq_true rfl) hf1 dL_law_1653 (fun H locs hw => ?_)
  refine lv_aload_n hx hb dL_law_1656 rfl (lv_at hl 1 rfl) ?_
  refine lm_cv (As := []) (rest := [.int r]) (μ' := μ) (wd' := wd) E hw hl (c_X9_scriptFailure l D cA tS A y _ μ wd r h2) 0 (bwV bw_l tb_1683 tb_1684 tb_1685 tb_111 tb_1686) rfl (by decide +kernel) ⟨(Nat.le_of_ble_eq_true rfl), (Nat.le_of_ble_eq_true rfl)⟩ rfl rfl (Nat.le_of_ble_eq_true rfl) hf1 dL_law_1657 (fun H locs hw => ?_)
  refine lv_icmp_eq (tgt := 1711) hx hb dL_law_1660 (by decide) (fun _ => ?_) (fun q => absurd rfl q)
  exact W.widen (Nat.le_add_right _ _) (Nat.le_add_right _ _) (hk _ _ _ _ _ _ _ _ _ _ X1 hw)
end HLC
