/-! the law's cases -/
section HLC
variable {p : Program} {e : Env} {s : State} {m : MethodId} {below : List Frame} {meth : Method} {c : Code} {H : Heap} {locs : List Loc} {cells slots : Nat} {Q : State → Prop}
variable {D : va_G} {cA : Nat → ClassId} {tS : Nat → Nat} {A : Nat → Prop} {ls : Array Slot} {b L ax sv : Nat} {xs : Nat → Int32} {x3 : Int32}
variable {h t z y : Nat → Nat} {σ τ κ μ : Sg} {wd : Int64} {f : Nat → Option Nat} {V0 V1 : va_W}
/-- solvedAt -/
theorem lc_30 (l : Launch) (E : Ev p cL_law 4 ret RL lw_tbl D cA tS A s m #[Value.ref b] meth c) (hKA : KA cA s) (hX : va_X b L xs s s.heap) (hbl : b < s.heap.size) (hbA : ¬ A b) (hl : lv_has ls 4 [(3, .int x3), (2, .ref (y 0)), (1, .ref ax), (0, .ref b)]) (hd : ∀ k : Nat, k ≤ 6 → vp_in (x3 + nI k) L) (hf0 : cells + 40 ≤ 600000 ∧ slots + 4540 ≤ 7302249) (X : LX cA σ τ κ μ f V0 V1) (hw : Wd D A (wQ cA h t z y ax sv σ τ κ μ wd f V0 V1) s.heap H locs)
    (hk : ∀ (σ' τ' κ' μ' : Sg) (wd' : Int64) (f' : Nat → Option Nat) (V0' V1' : va_W) (H1 : Heap) (locs1 : List Loc), LX cA σ' τ' κ' μ' f' V0' V1' → Wd D A (wQ cA h t z y ax sv σ' τ' κ' μ' wd' f' V0' V1') s.heap H1 locs1 → W p l e room_1 s m #[Value.ref b] below meth c H1 locs1 (cells + 40) (slots + 4540) Q (F0 m 1711 ls [])) :
    W p l e room_1 s m #[Value.ref b] below meth c H locs cells slots Q (F0 m 1103 ls []) := by
  have hx := E.1.1
  have hb := E.1.2.1
  have hf1 : cells ≤ room_1.cells ∧ slots ≤ room_1.slots := ⟨by show cells ≤ 600000; omega, by show slots ≤ 7302249; omega⟩
  unfold wQ at hw
  obtain ⟨cnt, kc, T, hl0, V⟩ := X.v
  obtain ⟨r, h1, h2⟩ := q_solvedAt V (xs (x3 + 1).toNatClampNeg) wd
  have X1 := X
  refine lv_aload_n hx hb dL_law_1103 rfl (lv_at hl 2 rfl) ?_
  refine lv_aload_n hx hb dL_law_1104 rfl (lv_at hl 3 rfl) ?_
  refine lv_iload_n hx hb dL_law_1105 rfl (lv_at hl 0 rfl) ?_
  refine lv_iconst (v := 1) hx hb dL_law_1106 (by decide) ?_
  refine lv_iadd hx hb dL_law_1107 ?_
  refine va_sld hx hb hX hbl hbA hw.2.2 (hd 1 (by decide)) dL_law_1108 ?_
  refine lx_cv (As := [.int (xs (x3 + 1).toNatClampNeg)]) (rest := []) (σ' := σ) (κ' := κ) (τ' := τ) E hw hl (c_X8_solvedAt l D cA tS A h ax sv (t 42) (z 60) _ (xs (x3 + 1).toNatClampNeg) σ r h1) 1 (bwV bw_l tb_814 tb_815 tb_816 tb_99 tb_817) rfl (by decide +kernel) ⟨(Nat.le_of_ble_eq_true rfl), (Nat.le_of_ble_eq_true rfl)⟩ rfl rfl (Nat.le_of_ble_eq_true rfl) hf1 dL_law_1109 (fun H locs hw => ?_)
  refine lv_aload_n hx hb dL_law_1112 rfl (lv_at hl 1 rfl) ?_
  refine lv_aload_n hx hb dL_law_1113 rfl (lv_at hl 3 rfl) ?_
  refine lv_iload_n hx hb dL_law_1114 rfl (lv_at hl 0 rfl) ?_
  refine lv_iconst (v := 1) hx hb dL_law_1115 (by decide) ?_
  refine lv_iadd hx hb dL_law_1116 ?_
  refine va_sld hx hb hX hbl hbA hw.2.2 (hd 1 (by decide)) dL_law_1117 ?_
  refine lm_cv (As := [.int (xs (x3 + 1).toNatClampNeg)]) (rest := [.int r]) (μ' := μ) (wd' := wd) E hw hl (c_X9_solvedAt l D cA tS A y _ (xs (x3 + 1).toNatClampNeg) μ wd r h2) 1 (bwV bw_l tb_1488 tb_1489 tb_1490 tb_111 tb_1491) rfl (by decide +kernel) ⟨(Nat.le_of_ble_eq_true rfl), (Nat.le_of_ble_eq_true rfl)⟩ rfl rfl (Nat.le_of_ble_eq_true rfl) hf1 dL_law_1118 (fun H locs hw => ?_)
  refine lv_icmp_eq (tgt := 1711) hx hb dL_law_1121 (by decide) (fun _ => ?_) (fun q => absurd rfl q)
  exact W.widen (Nat.le_add_right _ _) (Nat.le_add_right _ _) (hk _ _ _ _ _ _ _ _ _ _ X1 hw)
/-- responseClock -/
theorem lc_31 (l : Launch) (E : Ev p cL_law 4 ret RL lw_tbl D cA tS A s m #[Value.ref b] meth c) (hKA : KA cA s) (hX : va_X b L xs s s.heap) (hbl : b < s.heap.size) (hbA : ¬ A b) (hl : lv_has ls 4 [(3, .int x3), (2, .ref (y 0)), (1, .ref ax), (0, .ref b)]) (hd : ∀ k : Nat, k ≤ 6 → vp_in (x3 + nI k) L) (hf0 : cells + 40 ≤ 600000 ∧ slots + 4540 ≤ 7302249) (X : LX cA σ τ κ μ f V0 V1) (hw : Wd D A (wQ cA h t z y ax sv σ τ κ μ wd f V0 V1) s.heap H locs)
    (hk : ∀ (σ' τ' κ' μ' : Sg) (wd' : Int64) (f' : Nat → Option Nat) (V0' V1' : va_W) (H1 : Heap) (locs1 : List Loc), LX cA σ' τ' κ' μ' f' V0' V1' → Wd D A (wQ cA h t z y ax sv σ' τ' κ' μ' wd' f' V0' V1') s.heap H1 locs1 → W p l e room_1 s m #[Value.ref b] below meth c H1 locs1 (cells + 40) (slots + 4540) Q (F0 m 1711 ls [])) :
    W p l e room_1 s m #[Value.ref b] below meth c H locs cells slots Q (F0 m 1126 ls []) := by
  have hx := E.1.1
  have hb := E.1.2.1
  have hf1 : cells ≤ room_1.cells ∧ slots ≤ room_1.slots := ⟨by show cells ≤ 600000; omega, by show slots ≤ 7302249; omega⟩
  unfold wQ at hw
  obtain ⟨cnt, kc, T, hl0, V⟩ := X.v
  obtain ⟨r, h1, h2⟩ := q_responseClock V (xs (x3 + 1).toNatClampNeg) wd
  have X1 := X
  refine lv_aload_n hx hb dL_law_1126 rfl (lv_at hl 2 rfl) ?_
  refine lv_aload_n hx hb dL_law_1127 rfl (lv_at hl 3 rfl) ?_
  refine lv_iload_n hx hb dL_law_1128 rfl (lv_at hl 0 rfl) ?_
  refine lv_iconst (v := 1) hx hb dL_law_1129 (by decide) ?_
  refine lv_iadd hx hb dL_law_1130 ?_
  refine va_sld hx hb hX hbl hbA hw.2.2 (hd 1 (by decide)) dL_law_1131 ?_
  refine lx_cv (As := [.int (xs (x3 + 1).toNatClampNeg)]) (rest := []) (σ' := σ) (κ' := κ) (τ' := τ) E hw hl (c_X8_responseClock l D cA tS A h ax sv (t 42) (z 60) _ (xs (x3 + 1).toNatClampNeg) σ r h1) 1 (bwV bw_l tb_818 tb_819 tb_820 tb_99 tb_821) rfl (by decide +kernel) ⟨(Nat.le_of_ble_eq_true rfl), (Nat.le_of_ble_eq_true rfl)⟩ rfl rfl (Nat.le_of_ble_eq_true rfl) hf1 dL_law_1132 (fun H locs hw => ?_)
  refine lv_aload_n hx hb dL_law_1135 rfl (lv_at hl 1 rfl) ?_
  refine lv_aload_n hx hb dL_law_1136 rfl (lv_at hl 3 rfl) ?_
  refine lv_iload_n hx hb dL_law_1137 rfl (lv_at hl 0 rfl) ?_
  refine lv_iconst (v := 1) hx hb dL_law_1138 (by decide) ?_
  refine lv_iadd hx hb dL_law_1139 ?_
  refine va_sld hx hb hX hbl hbA hw.2.2 (hd 1 (by decide)) dL_law_1140 ?_
  refine lm_cv (As := [.int (xs (x3 + 1).toNatClampNeg)]) (rest := [.int r]) (μ' := μ) (wd' := wd) E hw hl (c_X9_responseClock l D cA tS A y _ (xs (x3 + 1).toNatClampNeg) μ wd r h2) 1 (bwV bw_l tb_1492 tb_1493 tb_1494 tb_111 tb_1495) rfl (by decide +kernel) ⟨(Nat.le_of_ble_eq_true rfl), (Nat.le_of_ble_eq_true rfl)⟩ rfl rfl (Nat.le_of_ble_eq_true rfl) hf1 dL_law_1141 (fun H locs hw => ?_)
  refine lv_icmp_eq (tgt := 1711) hx hb dL_law_1144 (by decide) (fun _ => ?_) (fun q => absurd rfl q)
  exact W.widen (Nat.le_add_right _ _) (Nat.le_add_right _ _) (hk _ _ _ _ _ _ _ _ _ _ X1 hw)
/-- resolveClock -/
theorem lc_32 (l : Launch) (E : Ev p cL_law 4 ret RL lw_tbl D cA tS A s m #[Value.ref b] meth c) (hKA : KA cA s) (hX : va_X b L xs s s.heap) (hbl : b < s.heap.size) (hbA : ¬ A b) (hl : lv_has ls 4 [(3, .int x3), (2, .ref (y 0)), (1, .ref ax), (0, .ref b)]) (hd : ∀ k : Nat, k ≤ 6 → vp_in (x3 + nI k) L) (hf0 : cells + 40 ≤ 600000 ∧ slots + 4540 ≤ 7302249) (X : LX cA σ τ κ μ f V0 V1) (hw : Wd D A (wQ cA h t z y ax sv σ τ κ μ wd f V0 V1) s.heap H locs)
    (hk : ∀ (σ' τ' κ' μ' : Sg) (wd' : Int64) (f' : Nat → Option Nat) (V0' V1' : va_W) (H1 : Heap) (locs1 : List Loc), LX cA σ' τ' κ' μ' f' V0' V1' → Wd D A (wQ cA h t z y ax sv σ' τ' κ' μ' wd' f' V0' V1') s.heap H1 locs1 → W p l e room_1 s m #[Value.ref b] below meth c H1 locs1 (cells + 40) (slots + 4540) Q (F0 m 1711 ls [])) :
    W p l e room_1 s m #[Value.ref b] below meth c H locs cells slots Q (F0 m 1149 ls []) := by
  have hx := E.1.1
  have hb := E.1.2.1
  have hf1 : cells ≤ room_1.cells ∧ slots ≤ room_1.slots := ⟨by show cells ≤ 600000; omega, by show slots ≤ 7302249; omega⟩
  unfold wQ at hw
  obtain ⟨cnt, kc, T, hl0, V⟩ := X.v
  obtain ⟨r, h1, h2⟩ := q_resolveClock V (xs (x3 + 1).toNatClampNeg) wd
  have X1 := X
  refine lv_aload_n hx hb dL_law_1149 rfl (lv_at hl 2 rfl) ?_
  refine lv_aload_n hx hb dL_law_1150 rfl (lv_at hl 3 rfl) ?_
  refine lv_iload_n hx hb dL_law_1151 rfl (lv_at hl 0 rfl) ?_
  refine lv_iconst (v := 1) hx hb dL_law_1152 (by decide) ?_
  refine lv_iadd hx hb dL_law_1153 ?_
  refine va_sld hx hb hX hbl hbA hw.2.2 (hd 1 (by decide)) dL_law_1154 ?_
  refine lx_cv (As := [.int (xs (x3 + 1).toNatClampNeg)]) (rest := []) (σ' := σ) (κ' := κ) (τ' := τ) E hw hl (c_X8_resolveClock l D cA tS A h ax sv (t 42) (z 60) _ (xs (x3 + 1).toNatClampNeg) σ r h1) 1 (bwV bw_l tb_822 tb_823 tb_824 tb_99 tb_825) rfl (by decide +kernel) ⟨(Nat.le_of_ble_eq_true rfl), (Nat.le_of_ble_eq_true rfl)⟩ rfl rfl (Nat.le_of_ble_eq_true rfl) hf1 dL_law_1155 (fun H locs hw => ?_)
  refine lv_aload_n hx hb dL_law_1158 rfl (lv_at hl 1 rfl) ?_
  refine lv_aload_n hx hb dL_law_1159 rfl (lv_at hl 3 rfl) ?_
  refine lv_iload_n hx hb dL_law_1160 rfl (lv_at hl 0 rfl) ?_
  refine lv_iconst (v := 1) hx hb dL_law_1161 (by decide) ?_
  refine lv_iadd hx hb dL_law_1162 ?_
  refine va_sld hx hb hX hbl hbA hw.2.2 (hd 1 (by decide)) dL_law_1163 ?_
  refine lm_cv (As := [.int (xs (x3 + 1).toNatClampNeg)]) (rest := [.int r]) (μ' := μ) (wd' := wd) E hw hl (c_X9_resolveClock l D cA tS A y _ (xs (x3 + 1).toNatClampNeg) μ wd r h2) 1 (bwV bw_l tb_1496 tb_1497 tb_1498 tb_111 tb_1499) rfl (by decide +kernel) ⟨(Nat.le_of_ble_eq_true rfl), (Nat.le_of_ble_eq_true rfl)⟩ rfl rfl (Nat.le_of_ble_eq_true rfl) hf1 dL_law_1164 (fun H locs hw => ?_)
  refine lv_icmp_eq (tgt := 1711) hx hb dL_law_1167 (by decide) (fun _ => ?_) (fun q => absurd rfl q)
  exact W.widen (Nat.le_add_right _ _) (Nat.le_add_right _ _) (hk _ _ _ _ _ _ _ _ _ _ X1 hw)
/-- queueLength -/
theorem lc_33 (l : Launch) (E : Ev p cL_law 4 ret RL lw_tbl D cA tS A s m #[Value.ref b] meth c) (hKA : KA cA s) (hX : va_X b L xs s s.heap) (hbl : b < s.heap.size) (hbA : ¬ A b) (hl : lv_has ls 4 [(3, .int x3), (2, .ref (y 0)), (1, .ref ax), (0, .ref b)]) (hd : ∀ k : Nat, k ≤ 6 → vp_in (x3 + nI k) L) (hf0 : cells + 40 ≤ 600000 ∧ slots + 4540 ≤ 7302249) (X : LX cA σ τ κ μ f V0 V1) (hw : Wd D A (wQ cA h t z y ax sv σ τ κ μ wd f V0 V1) s.heap H locs)
    (hk : ∀ (σ' τ' κ' μ' : Sg) (wd' : Int64) (f' : Nat → Option Nat) (V0' V1' : va_W) (H1 : Heap) (locs1 : List Loc), LX cA σ' τ' κ' μ' f' V0' V1' → Wd D A (wQ cA h t z y ax sv σ' τ' κ' μ' wd' f' V0' V1') s.heap H1 locs1 → W p l e room_1 s m #[Value.ref b] below meth c H1 locs1 (cells + 40) (slots + 4540) Q (F0 m 1711 ls [])) :
    W p l e room_1 s m #[Value.ref b] below meth c H locs cells slots Q (F0 m 1172 ls []) := by
  have hx := E.1.1
  have hb := E.1.2.1
  have hf1 : cells ≤ room_1.cells ∧ slots ≤ room_1.slots := ⟨by show cells ≤ 600000; omega, by show slots ≤ 7302249; omega⟩
  unfold wQ at hw
  obtain ⟨cnt, kc, T, hl0, V⟩ := X.v
  obtain ⟨r, h1, h2⟩ := q_queueLength V (xs (x3 + 1).toNatClampNeg) wd (N := NN) (by decide)
  have X1 := X
  refine lv_aload_n hx hb dL_law_1172 rfl (lv_at hl 2 rfl) ?_
  refine lv_aload_n hx hb dL_law_1173 rfl (lv_at hl 3 rfl) ?_
  refine lv_iload_n hx hb dL_law_1174 rfl (lv_at hl 0 rfl) ?_
  refine lv_iconst (v := 1) hx hb dL_law_1175 (by decide) ?_
  refine lv_iadd hx hb dL_law_1176 ?_
  refine va_sld hx hb hX hbl hbA hw.2.2 (hd 1 (by decide)) dL_law_1177 ?_
  refine lx_cv (As := [.int (xs (x3 + 1).toNatClampNeg)]) (rest := []) (σ' := σ) (κ' := κ) (τ' := τ) E hw hl (c_X8_queueLength l D cA tS A h ax sv (t 42) (z 60) _ NN (xs (x3 + 1).toNatClampNeg) σ r h1) 1 (bwV bw_l tb_826 tb_827 tb_828 tb_99 tb_829) rfl (by decide +kernel) ⟨(Nat.le_of_ble_eq_true rfl), (Nat.le_of_ble_eq_true rfl)⟩ rfl rfl (Nat.le_of_ble_eq_true rfl) hf1 dL_law_1178 (fun H locs hw => ?_)
  refine lv_aload_n hx hb dL_law_1181 rfl (lv_at hl 1 rfl) ?_
  refine lv_aload_n hx hb dL_law_1182 rfl (lv_at hl 3 rfl) ?_
  refine lv_iload_n hx hb dL_law_1183 rfl (lv_at hl 0 rfl) ?_
  refine lv_iconst (v := 1) hx hb dL_law_1184 (by decide) ?_
  refine lv_iadd hx hb dL_law_1185 ?_
  refine va_sld hx hb hX hbl hbA hw.2.2 (hd 1 (by decide)) dL_law_1186 ?_
  refine lm_cv (As := [.int (xs (x3 + 1).toNatClampNeg)]) (rest := [.int r]) (μ' := μ) (wd' := wd) E hw hl (c_X9_queueLength l D cA tS A y _ NN (xs (x3 + 1).toNatClampNeg) μ wd r h2) 1 (bwV bw_l tb_1500 tb_1501 tb_1502 tb_111 tb_1503) rfl (by decide +kernel) ⟨(Nat.le_of_ble_eq_true rfl), (Nat.le_of_ble_eq_true rfl)⟩ rfl rfl (Nat.le_of_ble_eq_true rfl) hf1 dL_law_1187 (fun H locs hw => ?_)
  refine lv_icmp_eq (tgt := 1711) hx hb dL_law_1190 (by decide) (fun _ => ?_) (fun q => absurd rfl q)
  exact W.widen (Nat.le_add_right _ _) (Nat.le_add_right _ _) (hk _ _ _ _ _ _ _ _ _ _ X1 hw)
/-- nextTicket -/
theorem lc_34 (l : Launch) (E : Ev p cL_law 4 ret RL lw_tbl D cA tS A s m #[Value.ref b] meth c) (hKA : KA cA s) (hX : va_X b L xs s s.heap) (hbl : b < s.heap.size) (hbA : ¬ A b) (hl : lv_has ls 4 [(3, .int x3), (2, .ref (y 0)), (1, .ref ax), (0, .ref b)]) (hd : ∀ k : Nat, k ≤ 6 → vp_in (x3 + nI k) L) (hf0 : cells + 40 ≤ 600000 ∧ slots + 4540 ≤ 7302249) (X : LX cA σ τ κ μ f V0 V1) (hw : Wd D A (wQ cA h t z y ax sv σ τ κ μ wd f V0 V1) s.heap H locs)
    (hk : ∀ (σ' τ' κ' μ' : Sg) (wd' : Int64) (f' : Nat → Option Nat) (V0' V1' : va_W) (H1 : Heap) (locs1 : List Loc), LX cA σ' τ' κ' μ' f' V0' V1' → Wd D A (wQ cA h t z y ax sv σ' τ' κ' μ' wd' f' V0' V1') s.heap H1 locs1 → W p l e room_1 s m #[Value.ref b] below meth c H1 locs1 (cells + 40) (slots + 4540) Q (F0 m 1711 ls [])) :
    W p l e room_1 s m #[Value.ref b] below meth c H locs cells slots Q (F0 m 1195 ls []) := by
  have hx := E.1.1
  have hb := E.1.2.1
  have hf1 : cells ≤ room_1.cells ∧ slots ≤ room_1.slots := ⟨by show cells ≤ 600000; omega, by show slots ≤ 7302249; omega⟩
  unfold wQ at hw
  obtain ⟨cnt, kc, T, hl0, V⟩ := X.v
  obtain ⟨r, h1, h2⟩ := q_nextTicket V (xs (x3 + 1).toNatClampNeg) wd (N := NN) (by decide)
  have X1 := X
  refine lv_aload_n hx hb dL_law_1195 rfl (lv_at hl 2 rfl) ?_
  refine lv_aload_n hx hb dL_law_1196 rfl (lv_at hl 3 rfl) ?_
  refine lv_iload_n hx hb dL_law_1197 rfl (lv_at hl 0 rfl) ?_
  refine lv_iconst (v := 1) hx hb dL_law_1198 (by decide) ?_
  refine lv_iadd hx hb dL_law_1199 ?_
  refine va_sld hx hb hX hbl hbA hw.2.2 (hd 1 (by decide)) dL_law_1200 ?_
  refine lx_cv (As := [.int (xs (x3 + 1).toNatClampNeg)]) (rest := []) (σ' := σ) (κ' := κ) (τ' := τ) E hw hl (c_X8_nextTicket l D cA tS A h ax sv (t 42) (z 60) _ NN (xs (x3 + 1).toNatClampNeg) σ r h1) 1 (bwV bw_l tb_831 tb_832 tb_833 tb_99 tb_834) rfl (by decide +kernel) ⟨(Nat.le_of_ble_eq_true rfl), (Nat.le_of_ble_eq_true rfl)⟩ rfl rfl (Nat.le_of_ble_eq_true rfl) hf1 dL_law_1201 (fun H locs hw => ?_)
  refine lv_aload_n hx hb dL_law_1204 rfl (lv_at hl 1 rfl) ?_
  refine lv_aload_n hx hb dL_law_1205 rfl (lv_at hl 3 rfl) ?_
  refine lv_iload_n hx hb dL_law_1206 rfl (lv_at hl 0 rfl) ?_
  refine lv_iconst (v := 1) hx hb dL_law_1207 (by decide) ?_
  refine lv_iadd hx hb dL_law_1208 ?_
  refine va_sld hx hb hX hbl hbA hw.2.2 (hd 1 (by decide)) dL_law_1209 ?_
  refine lm_cv (As := [.int (xs (x3 + 1).toNatClampNeg)]) (rest := [.int r]) (μ' := μ) (wd' := wd) E hw hl (c_X9_nextTicket l D cA tS A y _ NN (xs (x3 + 1).toNatClampNeg) μ wd r h2) 1 (bwV bw_l tb_1504 tb_1505 tb_1506 tb_111 tb_1507) rfl (by decide +kernel) ⟨(Nat.le_of_ble_eq_true rfl), (Nat.le_of_ble_eq_true rfl)⟩ rfl rfl (Nat.le_of_ble_eq_true rfl) hf1 dL_law_1210 (fun H locs hw => ?_)
  refine lv_icmp_eq (tgt := 1711) hx hb dL_law_1213 (by decide) (fun _ => ?_) (fun q => absurd rfl q)
  exact W.widen (Nat.le_add_right _ _) (Nat.le_add_right _ _) (hk _ _ _ _ _ _ _ _ _ _ X1 hw)
/-- busyAgents -/
theorem lc_35 (l : Launch) (E : Ev p cL_law 4 ret RL lw_tbl D cA tS A s m #[Value.ref b] meth c) (hKA : KA cA s) (hX : va_X b L xs s s.heap) (hbl : b < s.heap.size) (hbA : ¬ A b) (hl : lv_has ls 4 [(3, .int x3), (2, .ref (y 0)), (1, .ref ax), (0, .ref b)]) (hd : ∀ k : Nat, k ≤ 6 → vp_in (x3 + nI k) L) (hf0 : cells + 40 ≤ 600000 ∧ slots + 4540 ≤ 7302249) (X : LX cA σ τ κ μ f V0 V1) (hw : Wd D A (wQ cA h t z y ax sv σ τ κ μ wd f V0 V1) s.heap H locs)
    (hk : ∀ (σ' τ' κ' μ' : Sg) (wd' : Int64) (f' : Nat → Option Nat) (V0' V1' : va_W) (H1 : Heap) (locs1 : List Loc), LX cA σ' τ' κ' μ' f' V0' V1' → Wd D A (wQ cA h t z y ax sv σ' τ' κ' μ' wd' f' V0' V1') s.heap H1 locs1 → W p l e room_1 s m #[Value.ref b] below meth c H1 locs1 (cells + 40) (slots + 4540) Q (F0 m 1711 ls [])) :
    W p l e room_1 s m #[Value.ref b] below meth c H locs cells slots Q (F0 m 1218 ls []) := by
  have hx := E.1.1
  have hb := E.1.2.1
  have hf1 : cells ≤ room_1.cells ∧ slots ≤ room_1.slots := ⟨by show cells ≤ 600000; omega, by show slots ≤ 7302249; omega⟩
  unfold wQ at hw
  obtain ⟨cnt, kc, T, hl0, V⟩ := X.v
  obtain ⟨r, h1, h2⟩ := q_busyAgents V (xs (x3 + 1).toNatClampNeg) wd (N := NN) (by decide)
  have X1 := X
  refine lv_aload_n hx hb dL_law_1218 rfl (lv_at hl 2 rfl) ?_
  refine lv_aload_n hx hb dL_law_1219 rfl (lv_at hl 3 rfl) ?_
  refine lv_iload_n hx hb dL_law_1220 rfl (lv_at hl 0 rfl) ?_
  refine lv_iconst (v := 1) hx hb dL_law_1221 (by decide) ?_
  refine lv_iadd hx hb dL_law_1222 ?_
  refine va_sld hx hb hX hbl hbA hw.2.2 (hd 1 (by decide)) dL_law_1223 ?_
  refine lx_cv (As := [.int (xs (x3 + 1).toNatClampNeg)]) (rest := []) (σ' := σ) (κ' := κ) (τ' := τ) E hw hl (c_X8_busyAgents l D cA tS A h ax sv (t 42) (z 60) _ NN (xs (x3 + 1).toNatClampNeg) σ r h1) 1 (bwV bw_l tb_836 tb_837 tb_838 tb_99 tb_839) rfl (by decide +kernel) ⟨(Nat.le_of_ble_eq_true rfl), (Nat.le_of_ble_eq_true rfl)⟩ rfl rfl (Nat.le_of_ble_eq_true rfl) hf1 dL_law_1224 (fun H locs hw => ?_)
  refine lv_aload_n hx hb dL_law_1227 rfl (lv_at hl 1 rfl) ?_
  refine lv_aload_n hx hb dL_law_1228 rfl (lv_at hl 3 rfl) ?_
  refine lv_iload_n hx hb dL_law_1229 rfl (lv_at hl 0 rfl) ?_
  refine lv_iconst (v := 1) hx hb dL_law_1230 (by decide) ?_
  refine lv_iadd hx hb dL_law_1231 ?_
  refine va_sld hx hb hX hbl hbA hw.2.2 (hd 1 (by decide)) dL_law_1232 ?_
  refine lm_cv (As := [.int (xs (x3 + 1).toNatClampNeg)]) (rest := [.int r]) (μ' := μ) (wd' := wd) E hw hl (c_X9_busyAgents l D cA tS A y _ NN (xs (x3 + 1).toNatClampNeg) μ wd r h2) 1 (bwV bw_l tb_1508 tb_1509 tb_1510 tb_111 tb_1511) rfl (by decide +kernel) ⟨(Nat.le_of_ble_eq_true rfl), (Nat.le_of_ble_eq_true rfl)⟩ rfl rfl (Nat.le_of_ble_eq_true rfl) hf1 dL_law_1233 (fun H locs hw => ?_)
  refine lv_icmp_eq (tgt := 1711) hx hb dL_law_1236 (by decide) (fun _ => ?_) (fun q => absurd rfl q)
  exact W.widen (Nat.le_add_right _ _) (Nat.le_add_right _ _) (hk _ _ _ _ _ _ _ _ _ _ X1 hw)
/-- suggestRoot -/
theorem lc_36 (l : Launch) (E : Ev p cL_law 4 ret RL lw_tbl D cA tS A s m #[Value.ref b] meth c) (hKA : KA cA s) (hX : va_X b L xs s s.heap) (hbl : b < s.heap.size) (hbA : ¬ A b) (hl : lv_has ls 4 [(3, .int x3), (2, .ref (y 0)), (1, .ref ax), (0, .ref b)]) (hd : ∀ k : Nat, k ≤ 6 → vp_in (x3 + nI k) L) (hf0 : cells + 40 ≤ 600000 ∧ slots + 4540 ≤ 7302249) (X : LX cA σ τ κ μ f V0 V1) (hw : Wd D A (wQ cA h t z y ax sv σ τ κ μ wd f V0 V1) s.heap H locs)
    (hk : ∀ (σ' τ' κ' μ' : Sg) (wd' : Int64) (f' : Nat → Option Nat) (V0' V1' : va_W) (H1 : Heap) (locs1 : List Loc), LX cA σ' τ' κ' μ' f' V0' V1' → Wd D A (wQ cA h t z y ax sv σ' τ' κ' μ' wd' f' V0' V1') s.heap H1 locs1 → W p l e room_1 s m #[Value.ref b] below meth c H1 locs1 (cells + 40) (slots + 4540) Q (F0 m 1711 ls [])) :
    W p l e room_1 s m #[Value.ref b] below meth c H locs cells slots Q (F0 m 1241 ls []) := by
  have hx := E.1.1
  have hb := E.1.2.1
  have hf1 : cells ≤ room_1.cells ∧ slots ≤ room_1.slots := ⟨by show cells ≤ 600000; omega, by show slots ≤ 7302249; omega⟩
  unfold wQ at hw
  obtain ⟨cnt, kc, T, hl0, V⟩ := X.v
  obtain ⟨r, h1, h2⟩ := q_suggestRoot V (xs (x3 + 1).toNatClampNeg) wd (N := NN) (by decide)
  have X1 := X
  refine lv_aload_n hx hb dL_law_1241 rfl (lv_at hl 2 rfl) ?_
  refine lv_aload_n hx hb dL_law_1242 rfl (lv_at hl 3 rfl) ?_
  refine lv_iload_n hx hb dL_law_1243 rfl (lv_at hl 0 rfl) ?_
  refine lv_iconst (v := 1) hx hb dL_law_1244 (by decide) ?_
  refine lv_iadd hx hb dL_law_1245 ?_
  refine va_sld hx hb hX hbl hbA hw.2.2 (hd 1 (by decide)) dL_law_1246 ?_
  refine lx_cv (As := [.int (xs (x3 + 1).toNatClampNeg)]) (rest := []) (σ' := σ) (κ' := κ) (τ' := τ) E hw hl (c_X8_suggestRoot l D cA tS A h ax sv (t 42) (z 60) _ NN (xs (x3 + 1).toNatClampNeg) σ r h1) 1 (bwV bw_l tb_840 tb_841 tb_842 tb_99 tb_843) rfl (by decide +kernel) ⟨(Nat.le_of_ble_eq_true rfl), (Nat.le_of_ble_eq_true rfl)⟩ rfl rfl (Nat.le_of_ble_eq_true rfl) hf1 dL_law_1247 (fun H locs hw => ?_)
  refine lv_aload_n hx hb dL_law_1250 rfl (lv_at hl 1 rfl) ?_
  refine lv_aload_n hx hb dL_law_1251 rfl (lv_at hl 3 rfl) ?_
  refine lv_iload_n hx hb dL_law_1252 rfl (lv_at hl 0 rfl) ?_
  refine lv_iconst (v := 1) hx hb dL_law_1253 (by decide) ?_
  refine lv_iadd hx hb dL_law_1254 ?_
  refine va_sld hx hb hX hbl hbA hw.2.2 (hd 1 (by decide)) dL_law_1255 ?_
  refine lm_cv (As := [.int (xs (x3 + 1).toNatClampNeg)]) (rest := [.int r]) (μ' := μ) (wd' := wd) E hw hl (c_X9_suggestRoot l D cA tS A y _ NN (xs (x3 + 1).toNatClampNeg) μ wd r h2) 1 (bwV bw_l tb_1512 tb_1513 tb_1514 tb_111 tb_1515) rfl (by decide +kernel) ⟨(Nat.le_of_ble_eq_true rfl), (Nat.le_of_ble_eq_true rfl)⟩ rfl rfl (Nat.le_of_ble_eq_true rfl) hf1 dL_law_1256 (fun H locs hw => ?_)
  refine lv_icmp_eq (tgt := 1711) hx hb dL_law_1259 (by decide) (fun _ => ?_) (fun q => absurd rfl q)
  exact W.widen (Nat.le_add_right _ _) (Nat.le_add_right _ _) (hk _ _ _ _ _ _ _ _ _ _ X1 hw)
/-- customerTickets -/
theorem lc_37 (l : Launch) (E : Ev p cL_law 4 ret RL lw_tbl D cA tS A s m #[Value.ref b] meth c) (hKA : KA cA s) (hX : va_X b L xs s s.heap) (hbl : b < s.heap.size) (hbA : ¬ A b) (hl : lv_has ls 4 [(3, .int x3), (2, .ref (y 0)), (1, .ref ax), (0, .ref b)]) (hd : ∀ k : Nat, k ≤ 6 → vp_in (x3 + nI k) L) (hf0 : cells + 40 ≤ 600000 ∧ slots + 4540 ≤ 7302249) (X : LX cA σ τ κ μ f V0 V1) (hw : Wd D A (wQ cA h t z y ax sv σ τ κ μ wd f V0 V1) s.heap H locs)
    (hk : ∀ (σ' τ' κ' μ' : Sg) (wd' : Int64) (f' : Nat → Option Nat) (V0' V1' : va_W) (H1 : Heap) (locs1 : List Loc), LX cA σ' τ' κ' μ' f' V0' V1' → Wd D A (wQ cA h t z y ax sv σ' τ' κ' μ' wd' f' V0' V1') s.heap H1 locs1 → W p l e room_1 s m #[Value.ref b] below meth c H1 locs1 (cells + 40) (slots + 4540) Q (F0 m 1711 ls [])) :
    W p l e room_1 s m #[Value.ref b] below meth c H locs cells slots Q (F0 m 1264 ls []) := by
  have hx := E.1.1
  have hb := E.1.2.1
  have hf1 : cells ≤ room_1.cells ∧ slots ≤ room_1.slots := ⟨by show cells ≤ 600000; omega, by show slots ≤ 7302249; omega⟩
  unfold wQ at hw
  obtain ⟨cnt, kc, T, hl0, V⟩ := X.v
  obtain ⟨r, h1, h2⟩ := q_customerTickets V (xs (x3 + 1).toNatClampNeg) wd (N := NN) (by decide)
  have X1 := X
  refine lv_aload_n hx hb dL_law_1264 rfl (lv_at hl 2 rfl) ?_
  refine lv_aload_n hx hb dL_law_1265 rfl (lv_at hl 3 rfl) ?_
  refine lv_iload_n hx hb dL_law_1266 rfl (lv_at hl 0 rfl) ?_
  refine lv_iconst (v := 1) hx hb dL_law_1267 (by decide) ?_
  refine lv_iadd hx hb dL_law_1268 ?_
  refine va_sld hx hb hX hbl hbA hw.2.2 (hd 1 (by decide)) dL_law_1269 ?_
  refine lx_cv (As := [.int (xs (x3 + 1).toNatClampNeg)]) (rest := []) (σ' := σ) (κ' := κ) (τ' := τ) E hw hl (c_X8_customerTickets l D cA tS A h ax sv (t 42) (z 60) _ NN (xs (x3 + 1).toNatClampNeg) σ r h1) 1 (bwV bw_l tb_849 tb_850 tb_851 tb_99 tb_852) rfl (by decide +kernel) ⟨(Nat.le_of_ble_eq_true rfl), (Nat.le_of_ble_eq_true rfl)⟩ rfl rfl (Nat.le_of_ble_eq_true rfl) hf1 dL_law_1270 (fun H locs hw => ?_)
  refine lv_aload_n hx hb dL_law_1273 rfl (lv_at hl 1 rfl) ?_
  refine lv_aload_n hx hb dL_law_1274 rfl (lv_at hl 3 rfl) ?_
  refine lv_iload_n hx hb dL_law_1275 rfl (lv_at hl 0 rfl) ?_
  refine lv_iconst (v := 1) hx hb dL_law_1276 (by decide) ?_
  refine lv_iadd hx hb dL_law_1277 ?_
  refine va_sld hx hb hX hbl hbA hw.2.2 (hd 1 (by decide)) dL_law_1278 ?_
  refine lm_cv (As := [.int (xs (x3 + 1).toNatClampNeg)]) (rest := [.long r]) (μ' := μ) (wd' := wd) E hw hl (c_X9_customerTickets l D cA tS A y _ NN (xs (x3 + 1).toNatClampNeg) μ wd r h2) 1 (bwV bw_l tb_1516 tb_1517 tb_1518 tb_111 tb_1519) rfl (by decide +kernel) ⟨(Nat.le_of_ble_eq_true rfl), (Nat.le_of_ble_eq_true rfl)⟩ rfl rfl (Nat.le_of_ble_eq_true rfl) hf1 dL_law_1279 (fun H locs hw => ?_)
  refine W.lcmp hx hb dL_law_1282 ?_
  refine lv_if_eq (tgt := 1711) hx hb dL_law_1283 (by decide) (fun _ => ?_) (fun q => absurd ((lg0 r r).mpr rfl) q)
  exact W.widen (Nat.le_add_right _ _) (Nat.le_add_right _ _) (hk _ _ _ _ _ _ _ _ _ _ X1 hw)
/-- responseBreaches -/
theorem lc_38 (l : Launch) (E : Ev p cL_law 4 ret RL lw_tbl D cA tS A s m #[Value.ref b] meth c) (hKA : KA cA s) (hX : va_X b L xs s s.heap) (hbl : b < s.heap.size) (hbA : ¬ A b) (hl : lv_has ls 4 [(3, .int x3), (2, .ref (y 0)), (1, .ref ax), (0, .ref b)]) (hd : ∀ k : Nat, k ≤ 6 → vp_in (x3 + nI k) L) (hf0 : cells + 40 ≤ 600000 ∧ slots + 4540 ≤ 7302249) (X : LX cA σ τ κ μ f V0 V1) (hw : Wd D A (wQ cA h t z y ax sv σ τ κ μ wd f V0 V1) s.heap H locs)
    (hk : ∀ (σ' τ' κ' μ' : Sg) (wd' : Int64) (f' : Nat → Option Nat) (V0' V1' : va_W) (H1 : Heap) (locs1 : List Loc), LX cA σ' τ' κ' μ' f' V0' V1' → Wd D A (wQ cA h t z y ax sv σ' τ' κ' μ' wd' f' V0' V1') s.heap H1 locs1 → W p l e room_1 s m #[Value.ref b] below meth c H1 locs1 (cells + 40) (slots + 4540) Q (F0 m 1711 ls [])) :
    W p l e room_1 s m #[Value.ref b] below meth c H locs cells slots Q (F0 m 1288 ls []) := by
  have hx := E.1.1
  have hb := E.1.2.1
  have hf1 : cells ≤ room_1.cells ∧ slots ≤ room_1.slots := ⟨by show cells ≤ 600000; omega, by show slots ≤ 7302249; omega⟩
  unfold wQ at hw
  obtain ⟨cnt, kc, T, hl0, V⟩ := X.v
  obtain ⟨r, h1, h2⟩ := q_responseBreaches V (xs (x3 + 1).toNatClampNeg) wd (N := NN) (by decide)
  have X1 := X
  refine lv_aload_n hx hb dL_law_1288 rfl (lv_at hl 2 rfl) ?_
  refine lv_aload_n hx hb dL_law_1289 rfl (lv_at hl 3 rfl) ?_
  refine lv_iload_n hx hb dL_law_1290 rfl (lv_at hl 0 rfl) ?_
  refine lv_iconst (v := 1) hx hb dL_law_1291 (by decide) ?_
  refine lv_iadd hx hb dL_law_1292 ?_
  refine va_sld hx hb hX hbl hbA hw.2.2 (hd 1 (by decide)) dL_law_1293 ?_
  refine lx_cv (As := [.int (xs (x3 + 1).toNatClampNeg)]) (rest := []) (σ' := σ) (κ' := κ) (τ' := τ) E hw hl (c_X8_responseBreaches l D cA tS A h ax sv (t 42) (z 60) _ NN (xs (x3 + 1).toNatClampNeg) σ r h1) 1 (bwV bw_l tb_858 tb_859 tb_860 tb_99 tb_861) rfl (by decide +kernel) ⟨(Nat.le_of_ble_eq_true rfl), (Nat.le_of_ble_eq_true rfl)⟩ rfl rfl (Nat.le_of_ble_eq_true rfl) hf1 dL_law_1294 (fun H locs hw => ?_)
  refine lv_aload_n hx hb dL_law_1297 rfl (lv_at hl 1 rfl) ?_
  refine lv_aload_n hx hb dL_law_1298 rfl (lv_at hl 3 rfl) ?_
  refine lv_iload_n hx hb dL_law_1299 rfl (lv_at hl 0 rfl) ?_
  refine lv_iconst (v := 1) hx hb dL_law_1300 (by decide) ?_
  refine lv_iadd hx hb dL_law_1301 ?_
  refine va_sld hx hb hX hbl hbA hw.2.2 (hd 1 (by decide)) dL_law_1302 ?_
  refine lm_cv (As := [.int (xs (x3 + 1).toNatClampNeg)]) (rest := [.int r]) (μ' := μ) (wd' := wd) E hw hl (c_X9_responseBreaches l D cA tS A y _ NN (xs (x3 + 1).toNatClampNeg) μ wd r h2) 1 (bwV bw_l tb_1521 tb_1522 tb_1523 tb_111 tb_1524) rfl (by decide +kernel) ⟨(Nat.le_of_ble_eq_true rfl), (Nat.le_of_ble_eq_true rfl)⟩ rfl rfl (Nat.le_of_ble_eq_true rfl) hf1 dL_law_1303 (fun H locs hw => ?_)
  refine lv_icmp_eq (tgt := 1711) hx hb dL_law_1306 (by decide) (fun _ => ?_) (fun q => absurd rfl q)
  exact W.widen (Nat.le_add_right _ _) (Nat.le_add_right _ _) (hk _ _ _ _ _ _ _ _ _ _ X1 hw)
/-- resolveBreaches -/
theorem lc_39 (l : Launch) (E : Ev p cL_law 4 ret RL lw_tbl D cA tS A s m #[Value.ref b] meth c) (hKA : KA cA s) (hX : va_X b L xs s s.heap) (hbl : b < s.heap.size) (hbA : ¬ A b) (hl : lv_has ls 4 [(3, .int x3), (2, .ref (y 0)), (1, .ref ax), (0, .ref b)]) (hd : ∀ k : Nat, k ≤ 6 → vp_in (x3 + nI k) L) (hf0 : cells + 40 ≤ 600000 ∧ slots + 4540 ≤ 7302249) (X : LX cA σ τ κ μ f V0 V1) (hw : Wd D A (wQ cA h t z y ax sv σ τ κ μ wd f V0 V1) s.heap H locs)
    (hk : ∀ (σ' τ' κ' μ' : Sg) (wd' : Int64) (f' : Nat → Option Nat) (V0' V1' : va_W) (H1 : Heap) (locs1 : List Loc), LX cA σ' τ' κ' μ' f' V0' V1' → Wd D A (wQ cA h t z y ax sv σ' τ' κ' μ' wd' f' V0' V1') s.heap H1 locs1 → W p l e room_1 s m #[Value.ref b] below meth c H1 locs1 (cells + 40) (slots + 4540) Q (F0 m 1711 ls [])) :
    W p l e room_1 s m #[Value.ref b] below meth c H locs cells slots Q (F0 m 1311 ls []) := by
  have hx := E.1.1
  have hb := E.1.2.1
  have hf1 : cells ≤ room_1.cells ∧ slots ≤ room_1.slots := ⟨by show cells ≤ 600000; omega, by show slots ≤ 7302249; omega⟩
  unfold wQ at hw
  obtain ⟨cnt, kc, T, hl0, V⟩ := X.v
  obtain ⟨r, h1, h2⟩ := q_resolveBreaches V (xs (x3 + 1).toNatClampNeg) wd (N := NN) (by decide)
  have X1 := X
  refine lv_aload_n hx hb dL_law_1311 rfl (lv_at hl 2 rfl) ?_
  refine lv_aload_n hx hb dL_law_1312 rfl (lv_at hl 3 rfl) ?_
  refine lv_iload_n hx hb dL_law_1313 rfl (lv_at hl 0 rfl) ?_
  refine lv_iconst (v := 1) hx hb dL_law_1314 (by decide) ?_
  refine lv_iadd hx hb dL_law_1315 ?_
  refine va_sld hx hb hX hbl hbA hw.2.2 (hd 1 (by decide)) dL_law_1316 ?_
  refine lx_cv (As := [.int (xs (x3 + 1).toNatClampNeg)]) (rest := []) (σ' := σ) (κ' := κ) (τ' := τ) E hw hl (c_X8_resolveBreaches l D cA tS A h ax sv (t 42) (z 60) _ NN (xs (x3 + 1).toNatClampNeg) σ r h1) 1 (bwV bw_l tb_870 tb_871 tb_872 tb_99 tb_873) rfl (by decide +kernel) ⟨(Nat.le_of_ble_eq_true rfl), (Nat.le_of_ble_eq_true rfl)⟩ rfl rfl (Nat.le_of_ble_eq_true rfl) hf1 dL_law_1317 (fun H locs hw => ?_)
  refine lv_aload_n hx hb dL_law_1320 rfl (lv_at hl 1 rfl) ?_
  refine lv_aload_n hx hb dL_law_1321 rfl (lv_at hl 3 rfl) ?_
  refine lv_iload_n hx hb dL_law_1322 rfl (lv_at hl 0 rfl) ?_
  refine lv_iconst (v := 1) hx hb dL_law_1323 (by decide) ?_
  refine lv_iadd hx hb dL_law_1324 ?_
  refine va_sld hx hb hX hbl hbA hw.2.2 (hd 1 (by decide)) dL_law_1325 ?_
  refine lm_cv (As := [.int (xs (x3 + 1).toNatClampNeg)]) (rest := [.int r]) (μ' := μ) (wd' := wd) E hw hl (c_X9_resolveBreaches l D cA tS A y _ NN (xs (x3 + 1).toNatClampNeg) μ wd r h2) 1 (bwV bw_l tb_1529 tb_1530 tb_1531 tb_111 tb_1532) rfl (by decide +kernel) ⟨(Nat.le_of_ble_eq_true rfl), (Nat.le_of_ble_eq_true rfl)⟩ rfl rfl (Nat.le_of_ble_eq_true rfl) hf1 dL_law_1326 (fun H locs hw => ?_)
  refine lv_icmp_eq (tgt := 1711) hx hb dL_law_1329 (by decide) (fun _ => ?_) (fun q => absurd rfl q)
  exact W.widen (Nat.le_add_right _ _) (Nat.le_add_right _ _) (hk _ _ _ _ _ _ _ _ _ _ X1 hw)
/-- resolvePercentile -/
theorem lc_40 (l : Launch) (E : Ev p cL_law 4 ret RL lw_tbl D cA tS A s m #[Value.ref b] meth c) (hKA : KA cA s) (hX : va_X b L xs s s.heap) (hbl : b < s.heap.size) (hbA : ¬ A b) (hl : lv_has ls 4 [(3, .int x3), (2, .ref (y 0)), (1, .ref ax), (0, .ref b)]) (hd : ∀ k : Nat, k ≤ 6 → vp_in (x3 + nI k) L) (hf0 : cells + 40 ≤ 600000 ∧ slots + 4540 ≤ 7302249) (X : LX cA σ τ κ μ f V0 V1) (hw : Wd D A (wQ cA h t z y ax sv σ τ κ μ wd f V0 V1) s.heap H locs)
    (hk : ∀ (σ' τ' κ' μ' : Sg) (wd' : Int64) (f' : Nat → Option Nat) (V0' V1' : va_W) (H1 : Heap) (locs1 : List Loc), LX cA σ' τ' κ' μ' f' V0' V1' → Wd D A (wQ cA h t z y ax sv σ' τ' κ' μ' wd' f' V0' V1') s.heap H1 locs1 → W p l e room_1 s m #[Value.ref b] below meth c H1 locs1 (cells + 40) (slots + 4540) Q (F0 m 1711 ls [])) :
    W p l e room_1 s m #[Value.ref b] below meth c H locs cells slots Q (F0 m 1334 ls []) := by
  have hx := E.1.1
  have hb := E.1.2.1
  have hf1 : cells ≤ room_1.cells ∧ slots ≤ room_1.slots := ⟨by show cells ≤ 600000; omega, by show slots ≤ 7302249; omega⟩
  unfold wQ at hw
  obtain ⟨cnt, kc, T, hl0, V⟩ := X.v
  obtain ⟨r, h1, h2⟩ := q_resolvePercentile V (xs (x3 + 1).toNatClampNeg) wd (N := NN) (by decide)
  have X1 := X
  refine lv_aload_n hx hb dL_law_1334 rfl (lv_at hl 2 rfl) ?_
  refine lv_aload_n hx hb dL_law_1335 rfl (lv_at hl 3 rfl) ?_
  refine lv_iload_n hx hb dL_law_1336 rfl (lv_at hl 0 rfl) ?_
  refine lv_iconst (v := 1) hx hb dL_law_1337 (by decide) ?_
  refine lv_iadd hx hb dL_law_1338 ?_
  refine va_sld hx hb hX hbl hbA hw.2.2 (hd 1 (by decide)) dL_law_1339 ?_
  refine lx_cv (As := [.int (xs (x3 + 1).toNatClampNeg)]) (rest := []) (σ' := σ) (κ' := κ) (τ' := τ) E hw hl (c_X8_resolvePercentile l D cA tS A h ax sv (t 42) (z 60) _ NN (xs (x3 + 1).toNatClampNeg) σ r h1) 1 (bwV bw_l tb_878 tb_879 tb_880 tb_99 tb_881) rfl (by decide +kernel) ⟨(Nat.le_of_ble_eq_true rfl), (Nat.le_of_ble_eq_true rfl)⟩ rfl rfl (Nat.le_of_ble_eq_true rfl) hf1 dL_law_1340 (fun H locs hw => ?_)
  refine lv_aload_n hx hb dL_law_1343 rfl (lv_at hl 1 rfl) ?_
  refine lv_aload_n hx hb dL_law_1344 rfl (lv_at hl 3 rfl) ?_
  refine lv_iload_n hx hb dL_law_1345 rfl (lv_at hl 0 rfl) ?_
  refine lv_iconst (v := 1) hx hb dL_law_1346 (by decide) ?_
  refine lv_iadd hx hb dL_law_1347 ?_
  refine va_sld hx hb hX hbl hbA hw.2.2 (hd 1 (by decide)) dL_law_1348 ?_
  refine lm_cv (As := [.int (xs (x3 + 1).toNatClampNeg)]) (rest := [.int r]) (μ' := μ) (wd' := wd) E hw hl (c_X9_resolvePercentile l D cA tS A y _ NN (xs (x3 + 1).toNatClampNeg) μ wd r h2) 1 (bwV bw_l tb_1533 tb_1534 tb_1535 tb_111 tb_1536) rfl (by decide +kernel) ⟨(Nat.le_of_ble_eq_true rfl), (Nat.le_of_ble_eq_true rfl)⟩ rfl rfl (Nat.le_of_ble_eq_true rfl) hf1 dL_law_1349 (fun H locs hw => ?_)
  refine lv_icmp_eq (tgt := 1711) hx hb dL_law_1352 (by decide) (fun _ => ?_) (fun q => absurd rfl q)
  exact W.widen (Nat.le_add_right _ _) (Nat.le_add_right _ _) (hk _ _ _ _ _ _ _ _ _ _ X1 hw)
/-- forecast -/
theorem lc_41 (l : Launch) (E : Ev p cL_law 4 ret RL lw_tbl D cA tS A s m #[Value.ref b] meth c) (hKA : KA cA s) (hX : va_X b L xs s s.heap) (hbl : b < s.heap.size) (hbA : ¬ A b) (hl : lv_has ls 4 [(3, .int x3), (2, .ref (y 0)), (1, .ref ax), (0, .ref b)]) (hd : ∀ k : Nat, k ≤ 6 → vp_in (x3 + nI k) L) (hf0 : cells + 40 ≤ 600000 ∧ slots + 4540 ≤ 7302249) (X : LX cA σ τ κ μ f V0 V1) (hw : Wd D A (wQ cA h t z y ax sv σ τ κ μ wd f V0 V1) s.heap H locs)
    (hk : ∀ (σ' τ' κ' μ' : Sg) (wd' : Int64) (f' : Nat → Option Nat) (V0' V1' : va_W) (H1 : Heap) (locs1 : List Loc), LX cA σ' τ' κ' μ' f' V0' V1' → Wd D A (wQ cA h t z y ax sv σ' τ' κ' μ' wd' f' V0' V1') s.heap H1 locs1 → W p l e room_1 s m #[Value.ref b] below meth c H1 locs1 (cells + 40) (slots + 4540) Q (F0 m 1711 ls [])) :
    W p l e room_1 s m #[Value.ref b] below meth c H locs cells slots Q (F0 m 1357 ls []) := by
  have hx := E.1.1
  have hb := E.1.2.1
  have hf1 : cells ≤ room_1.cells ∧ slots ≤ room_1.slots := ⟨by show cells ≤ 600000; omega, by show slots ≤ 7302249; omega⟩
  unfold wQ at hw
  obtain ⟨r, τ1, μ1, h1, h2, X1⟩ := L_forecast X (xs (x3 + 1).toNatClampNeg) wd
  refine lv_aload_n hx hb dL_law_1357 rfl (lv_at hl 2 rfl) ?_
  refine lv_aload_n hx hb dL_law_1358 rfl (lv_at hl 3 rfl) ?_
  refine lv_iload_n hx hb dL_law_1359 rfl (lv_at hl 0 rfl) ?_
  refine lv_iconst (v := 1) hx hb dL_law_1360 (by decide) ?_
  refine lv_iadd hx hb dL_law_1361 ?_
  refine va_sld hx hb hX hbl hbA hw.2.2 (hd 1 (by decide)) dL_law_1362 ?_
  refine lx_cv (As := [.int (xs (x3 + 1).toNatClampNeg)]) (rest := []) (σ' := σ) (κ' := κ) (τ' := τ1) E hw hl (c_X8_forecast l D cA tS A h t ax sv (z 60) _ NN (xs (x3 + 1).toNatClampNeg) σ τ r τ1 h1) 1 (bwV bw_l tb_890 tb_891 tb_892 tb_99 tb_893) rfl (by decide +kernel) ⟨(Nat.le_of_ble_eq_true rfl), (Nat.le_of_ble_eq_true rfl)⟩ rfl rfl (Nat.le_of_ble_eq_true rfl) hf1 dL_law_1363 (fun H locs hw => ?_)
  refine lv_aload_n hx hb dL_law_1366 rfl (lv_at hl 1 rfl) ?_
  refine lv_aload_n hx hb dL_law_1367 rfl (lv_at hl 3 rfl) ?_
  refine lv_iload_n hx hb dL_law_1368 rfl (lv_at hl 0 rfl) ?_
  refine lv_iconst (v := 1) hx hb dL_law_1369 (by decide) ?_
  refine lv_iadd hx hb dL_law_1370 ?_
  refine va_sld hx hb hX hbl hbA hw.2.2 (hd 1 (by decide)) dL_law_1371 ?_
  refine lm_cv (As := [.int (xs (x3 + 1).toNatClampNeg)]) (rest := [.int r]) (μ' := μ1) (wd' := wd) E hw hl (c_X9_forecast l D cA tS A y _ NN (xs (x3 + 1).toNatClampNeg) μ wd r μ1 h2) 1 (bwV bw_l tb_1541 tb_1542 tb_1543 tb_111 tb_1544) rfl (by decide +kernel) ⟨(Nat.le_of_ble_eq_true rfl), (Nat.le_of_ble_eq_true rfl)⟩ rfl rfl (Nat.le_of_ble_eq_true rfl) hf1 dL_law_1372 (fun H locs hw => ?_)
  refine lv_icmp_eq (tgt := 1711) hx hb dL_law_1375 (by decide) (fun _ => ?_) (fun q => absurd rfl q)
  exact W.widen (Nat.le_add_right _ _) (Nat.le_add_right _ _) (hk _ _ _ _ _ _ _ _ _ _ X1 hw)
/-- breachesAhead -/
theorem lc_42 (l : Launch) (E : Ev p cL_law 4 ret RL lw_tbl D cA tS A s m #[Value.ref b] meth c) (hKA : KA cA s) (hX : va_X b L xs s s.heap) (hbl : b < s.heap.size) (hbA : ¬ A b) (hl : lv_has ls 4 [(3, .int x3), (2, .ref (y 0)), (1, .ref ax), (0, .ref b)]) (hd : ∀ k : Nat, k ≤ 6 → vp_in (x3 + nI k) L) (hf0 : cells + 40 ≤ 600000 ∧ slots + 4540 ≤ 7302249) (X : LX cA σ τ κ μ f V0 V1) (hw : Wd D A (wQ cA h t z y ax sv σ τ κ μ wd f V0 V1) s.heap H locs)
    (hk : ∀ (σ' τ' κ' μ' : Sg) (wd' : Int64) (f' : Nat → Option Nat) (V0' V1' : va_W) (H1 : Heap) (locs1 : List Loc), LX cA σ' τ' κ' μ' f' V0' V1' → Wd D A (wQ cA h t z y ax sv σ' τ' κ' μ' wd' f' V0' V1') s.heap H1 locs1 → W p l e room_1 s m #[Value.ref b] below meth c H1 locs1 (cells + 40) (slots + 4540) Q (F0 m 1711 ls [])) :
    W p l e room_1 s m #[Value.ref b] below meth c H locs cells slots Q (F0 m 1380 ls []) := by
  have hx := E.1.1
  have hb := E.1.2.1
  have hf1 : cells ≤ room_1.cells ∧ slots ≤ room_1.slots := ⟨by show cells ≤ 600000; omega, by show slots ≤ 7302249; omega⟩
  unfold wQ at hw
  obtain ⟨r, τ1, μ1, h1, h2, X1⟩ := L_ahead X wd
  refine lv_aload_n hx hb dL_law_1380 rfl (lv_at hl 2 rfl) ?_
  refine lx_cv (As := []) (rest := []) (σ' := σ) (κ' := κ) (τ' := τ1) E hw hl (c_X8_breachesAhead l D cA tS A h t ax sv (z 60) _ NN σ τ r τ1 h1) 0 (bwV bw_l tb_918 tb_919 tb_920 tb_99 tb_921) rfl (by decide +kernel) ⟨(Nat.le_of_ble_eq_true rfl), (Nat.le_of_ble_eq_true rfl)⟩ rfl rfl (Nat.le_of_ble_eq_true rfl) hf1 dL_law_1381 (fun H locs hw => ?_)
  refine lv_aload_n hx hb dL_law_1384 rfl (lv_at hl 1 rfl) ?_
  refine lm_cv (As := []) (rest := [.int r]) (μ' := μ1) (wd' := wd) E hw hl (c_X9_breachesAhead l D cA tS A y _ NN μ wd r μ1 h2) 0 (bwV bw_l tb_1549 tb_1550 tb_1551 tb_111 tb_1552) rfl (by decide +kernel) ⟨(Nat.le_of_ble_eq_true rfl), (Nat.le_of_ble_eq_true rfl)⟩ rfl rfl (Nat.le_of_ble_eq_true rfl) hf1 dL_law_1385 (fun H locs hw => ?_)
  refine lv_icmp_eq (tgt := 1711) hx hb dL_law_1388 (by decide) (fun _ => ?_) (fun q => absurd rfl q)
  exact W.widen (Nat.le_add_right _ _) (Nat.le_add_right _ _) (hk _ _ _ _ _ _ _ _ _ _ X1 hw)
/-- breachesWith -/
theorem lc_43 (l : Launch) (E : Ev p cL_law 4 ret RL lw_tbl D cA tS A s m #[Value.ref b] meth c) (hKA : KA cA s) (hX : va_X b L xs s s.heap) (hbl : b < s.heap.size) (hbA : ¬ A b) (hl : lv_has ls 4 [(3, .int x3), (2, .ref (y 0)), (1, .ref ax), (0, .ref b)]) (hd : ∀ k : Nat, k ≤ 6 → vp_in (x3 + nI k) L) (hf0 : cells + 40 ≤ 600000 ∧ slots + 4540 ≤ 7302249) (X : LX cA σ τ κ μ f V0 V1) (hw : Wd D A (wQ cA h t z y ax sv σ τ κ μ wd f V0 V1) s.heap H locs)
    (hk : ∀ (σ' τ' κ' μ' : Sg) (wd' : Int64) (f' : Nat → Option Nat) (V0' V1' : va_W) (H1 : Heap) (locs1 : List Loc), LX cA σ' τ' κ' μ' f' V0' V1' → Wd D A (wQ cA h t z y ax sv σ' τ' κ' μ' wd' f' V0' V1') s.heap H1 locs1 → W p l e room_1 s m #[Value.ref b] below meth c H1 locs1 (cells + 40) (slots + 4540) Q (F0 m 1711 ls [])) :
    W p l e room_1 s m #[Value.ref b] below meth c H locs cells slots Q (F0 m 1393 ls []) := by
  have hx := E.1.1
  have hb := E.1.2.1
  have hf1 : cells ≤ room_1.cells ∧ slots ≤ room_1.slots := ⟨by show cells ≤ 600000; omega, by show slots ≤ 7302249; omega⟩
  unfold wQ at hw
  obtain ⟨r, τ1, μ1, h1, h2, X1⟩ := L_with X (xs (x3 + 1).toNatClampNeg) (xs (x3 + 2).toNatClampNeg) wd
  refine lv_aload_n hx hb dL_law_1393 rfl (lv_at hl 2 rfl) ?_
  refine lv_aload_n hx hb dL_law_1394 rfl (lv_at hl 3 rfl) ?_
  refine lv_iload_n hx hb dL_law_1395 rfl (lv_at hl 0 rfl) ?_
  refine lv_iconst (v := 1) hx hb dL_law_1396 (by decide) ?_
  refine lv_iadd hx hb dL_law_1397 ?_
  refine va_sld hx hb hX hbl hbA hw.2.2 (hd 1 (by decide)) dL_law_1398 ?_
  refine lv_aload_n hx hb dL_law_1399 rfl (lv_at hl 3 rfl) ?_
  refine lv_iload_n hx hb dL_law_1400 rfl (lv_at hl 0 rfl) ?_
  refine lv_iconst (v := 2) hx hb dL_law_1401 (by decide) ?_
  refine lv_iadd hx hb dL_law_1402 ?_
  refine va_sld hx hb hX hbl hbA hw.2.2 (hd 2 (by decide)) dL_law_1403 ?_
  refine lx_cv (As := [.int (xs (x3 + 1).toNatClampNeg), .int (xs (x3 + 2).toNatClampNeg)]) (rest := []) (σ' := σ) (κ' := κ) (τ' := τ1) E hw hl (c_X8_breachesWith l D cA tS A h t ax sv (z 60) _ NN (xs (x3 + 1).toNatClampNeg) (xs (x3 + 2).toNatClampNeg) σ τ r τ1 h1) 2 (bwV bw_l tb_928 tb_929 tb_930 tb_99 tb_931) rfl (by decide +kernel) ⟨(Nat.le_of_ble_eq_true rfl), (Nat.le_of_ble_eq_true rfl)⟩ rfl rfl (Nat.le_of_ble_eq_true rfl) hf1 dL_law_1404 (fun H locs hw => ?_)
  refine lv_aload_n hx hb dL_law_1407 rfl (lv_at hl 1 rfl) ?_
  refine lv_aload_n hx hb dL_law_1408 rfl (lv_at hl 3 rfl) ?_
  refine lv_iload_n hx hb dL_law_1409 rfl (lv_at hl 0 rfl) ?_
  refine lv_iconst (v := 1) hx hb dL_law_1410 (by decide) ?_
  refine lv_iadd hx hb dL_law_1411 ?_
  refine va_sld hx hb hX hbl hbA hw.2.2 (hd 1 (by decide)) dL_law_1412 ?_
  refine lv_aload_n hx hb dL_law_1413 rfl (lv_at hl 3 rfl) ?_
  refine lv_iload_n hx hb dL_law_1414 rfl (lv_at hl 0 rfl) ?_
  refine lv_iconst (v := 2) hx hb dL_law_1415 (by decide) ?_
  refine lv_iadd hx hb dL_law_1416 ?_
  refine va_sld hx hb hX hbl hbA hw.2.2 (hd 2 (by decide)) dL_law_1417 ?_
  refine lm_cv (As := [.int (xs (x3 + 1).toNatClampNeg), .int (xs (x3 + 2).toNatClampNeg)]) (rest := [.int r]) (μ' := μ1) (wd' := wd) E hw hl (c_X9_breachesWith l D cA tS A y _ NN (xs (x3 + 1).toNatClampNeg) (xs (x3 + 2).toNatClampNeg) μ wd r μ1 h2) 2 (bwV bw_l tb_1557 tb_1558 tb_1559 tb_111 tb_1560) rfl (by decide +kernel) ⟨(Nat.le_of_ble_eq_true rfl), (Nat.le_of_ble_eq_true rfl)⟩ rfl rfl (Nat.le_of_ble_eq_true rfl) hf1 dL_law_1418 (fun H locs hw => ?_)
  refine lv_icmp_eq (tgt := 1711) hx hb dL_law_1421 (by decide) (fun _ => ?_) (fun q => absurd rfl q)
  exact W.widen (Nat.le_add_right _ _) (Nat.le_add_right _ _) (hk _ _ _ _ _ _ _ _ _ _ X1 hw)
/-- leastAgents -/
theorem lc_44 (l : Launch) (E : Ev p cL_law 4 ret RL lw_tbl D cA tS A s m #[Value.ref b] meth c) (hKA : KA cA s) (hX : va_X b L xs s s.heap) (hbl : b < s.heap.size) (hbA : ¬ A b) (hl : lv_has ls 4 [(3, .int x3), (2, .ref (y 0)), (1, .ref ax), (0, .ref b)]) (hd : ∀ k : Nat, k ≤ 6 → vp_in (x3 + nI k) L) (hf0 : cells + 40 ≤ 600000 ∧ slots + 4540 ≤ 7302249) (X : LX cA σ τ κ μ f V0 V1) (hw : Wd D A (wQ cA h t z y ax sv σ τ κ μ wd f V0 V1) s.heap H locs)
    (hk : ∀ (σ' τ' κ' μ' : Sg) (wd' : Int64) (f' : Nat → Option Nat) (V0' V1' : va_W) (H1 : Heap) (locs1 : List Loc), LX cA σ' τ' κ' μ' f' V0' V1' → Wd D A (wQ cA h t z y ax sv σ' τ' κ' μ' wd' f' V0' V1') s.heap H1 locs1 → W p l e room_1 s m #[Value.ref b] below meth c H1 locs1 (cells + 40) (slots + 4540) Q (F0 m 1711 ls [])) :
    W p l e room_1 s m #[Value.ref b] below meth c H locs cells slots Q (F0 m 1426 ls []) := by
  have hx := E.1.1
  have hb := E.1.2.1
  have hf1 : cells ≤ room_1.cells ∧ slots ≤ room_1.slots := ⟨by show cells ≤ 600000; omega, by show slots ≤ 7302249; omega⟩
  unfold wQ at hw
  obtain ⟨r, τ1, μ1, h1, h2, X1⟩ := L_least X (xs (x3 + 1).toNatClampNeg) wd
  refine lv_aload_n hx hb dL_law_1426 rfl (lv_at hl 2 rfl) ?_
  refine lv_aload_n hx hb dL_law_1427 rfl (lv_at hl 3 rfl) ?_
  refine lv_iload_n hx hb dL_law_1428 rfl (lv_at hl 0 rfl) ?_
  refine lv_iconst (v := 1) hx hb dL_law_1429 (by decide) ?_
  refine lv_iadd hx hb dL_law_1430 ?_
  refine va_sld hx hb hX hbl hbA hw.2.2 (hd 1 (by decide)) dL_law_1431 ?_
  refine lx_cv (As := [.int (xs (x3 + 1).toNatClampNeg)]) (rest := []) (σ' := σ) (κ' := κ) (τ' := τ1) E hw hl (c_X8_leastAgents l D cA tS A h t ax sv (z 60) _ NN (xs (x3 + 1).toNatClampNeg) σ τ r τ1 h1) 1 (bwV bw_l tb_942 tb_943 tb_944 tb_99 tb_945) rfl (by decide +kernel) ⟨(Nat.le_of_ble_eq_true rfl), (Nat.le_of_ble_eq_true rfl)⟩ rfl rfl (Nat.le_of_ble_eq_true rfl) hf1 dL_law_1432 (fun H locs hw => ?_)
  refine lv_aload_n hx hb dL_law_1435 rfl (lv_at hl 1 rfl) ?_
  refine lv_aload_n hx hb dL_law_1436 rfl (lv_at hl 3 rfl) ?_
  refine lv_iload_n hx hb dL_law_1437 rfl (lv_at hl 0 rfl) ?_
  refine lv_iconst (v := 1) hx hb dL_law_1438 (by decide) ?_
  refine lv_iadd hx hb dL_law_1439 ?_
  refine va_sld hx hb hX hbl hbA hw.2.2 (hd 1 (by decide)) dL_law_1440 ?_
  refine lm_cv (As := [.int (xs (x3 + 1).toNatClampNeg)]) (rest := [.int r]) (μ' := μ1) (wd' := wd) E hw hl (c_X9_leastAgents l D cA tS A y _ NN (xs (x3 + 1).toNatClampNeg) μ wd r μ1 h2) 1 (bwV bw_l tb_1565 tb_1566 tb_1567 tb_111 tb_1568) rfl (by decide +kernel) ⟨(Nat.le_of_ble_eq_true rfl), (Nat.le_of_ble_eq_true rfl)⟩ rfl rfl (Nat.le_of_ble_eq_true rfl) hf1 dL_law_1441 (fun H locs hw => ?_)
  refine lv_icmp_eq (tgt := 1711) hx hb dL_law_1444 (by decide) (fun _ => ?_) (fun q => absurd rfl q)
  exact W.widen (Nat.le_add_right _ _) (Nat.le_add_right _ _) (hk _ _ _ _ _ _ _ _ _ _ X1 hw)
end HLC
