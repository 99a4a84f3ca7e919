/-! the law's cases -/
section HLC
variable {p : Program} {e : Env} {s : State} {m : MethodId} {below : List Frame} {meth : Method} {c : Code} {H : Heap} {locs : List Loc} {cells slots : Nat} {Q : State → Prop}
variable {D : va_G} {cA : Nat → ClassId} {tS : Nat → Nat} {A : Nat → Prop} {ls : Array Slot} {b L ax sv : Nat} {xs : Nat → Int32} {x3 : Int32}
variable {h t z y : Nat → Nat} {σ τ κ μ : Sg} {wd : Int64} {f : Nat → Option Nat} {V0 V1 : va_W}
/-- setDay -/
theorem lc_0 (l : Launch) (E : Ev p cL_law 4 ret RL lw_tbl D cA tS A s m #[Value.ref b] meth c) (hKA : KA cA s) (hX : va_X b L xs s s.heap) (hbl : b < s.heap.size) (hbA : ¬ A b) (hl : lv_has ls 4 [(3, .int x3), (2, .ref (y 0)), (1, .ref ax), (0, .ref b)]) (hd : ∀ k : Nat, k ≤ 6 → vp_in (x3 + nI k) L) (hf0 : cells + 40 ≤ 600000 ∧ slots + 4540 ≤ 7302249) (X : LX cA σ τ κ μ f V0 V1) (hw : Wd D A (wQ cA h t z y ax sv σ τ κ μ wd f V0 V1) s.heap H locs)
    (hk : ∀ (σ' τ' κ' μ' : Sg) (wd' : Int64) (f' : Nat → Option Nat) (V0' V1' : va_W) (H1 : Heap) (locs1 : List Loc), LX cA σ' τ' κ' μ' f' V0' V1' → Wd D A (wQ cA h t z y ax sv σ' τ' κ' μ' wd' f' V0' V1') s.heap H1 locs1 → W p l e room_1 s m #[Value.ref b] below meth c H1 locs1 (cells + 40) (slots + 4540) Q (F0 m 1711 ls [])) :
    W p l e room_1 s m #[Value.ref b] below meth c H locs cells slots Q (F0 m 284 ls []) := by
  have hx := E.1.1
  have hb := E.1.2.1
  have hf1 : cells ≤ room_1.cells ∧ slots ≤ room_1.slots := ⟨by show cells ≤ 600000; omega, by show slots ≤ 7302249; omega⟩
  unfold wQ at hw
  obtain ⟨r, σ1, μ1, g1, g2, X1⟩ := L_ch X (show TY 0 0 from by unfold TY; decide) (xs (x3 + 1).toNatClampNeg) (xs (x3 + 2).toNatClampNeg) (xs (x3 + 3).toNatClampNeg) 0 wd
  have h1 : f_X8_setDay NN (xs (x3 + 1).toNatClampNeg) (xs (x3 + 2).toNatClampNeg) (xs (x3 + 3).toNatClampNeg) σ = some (r, σ1) := by
    unfold f_X8_setDay
    rw [g1]
    rfl
  have h2 : f_X9_setDay NN (xs (x3 + 1).toNatClampNeg) (xs (x3 + 2).toNatClampNeg) (xs (x3 + 3).toNatClampNeg) μ wd = some (r, μ1) := by
    unfold f_X9_setDay
    rw [g2]
    rfl
  refine lv_aload_n hx hb dL_law_284 rfl (lv_at hl 2 rfl) ?_
  refine lv_aload_n hx hb dL_law_285 rfl (lv_at hl 3 rfl) ?_
  refine lv_iload_n hx hb dL_law_286 rfl (lv_at hl 0 rfl) ?_
  refine lv_iconst (v := 1) hx hb dL_law_287 (by decide) ?_
  refine lv_iadd hx hb dL_law_288 ?_
  refine va_sld hx hb hX hbl hbA hw.2.2 (hd 1 (by decide)) dL_law_289 ?_
  refine lv_aload_n hx hb dL_law_290 rfl (lv_at hl 3 rfl) ?_
  refine lv_iload_n hx hb dL_law_291 rfl (lv_at hl 0 rfl) ?_
  refine lv_iconst (v := 2) hx hb dL_law_292 (by decide) ?_
  refine lv_iadd hx hb dL_law_293 ?_
  refine va_sld hx hb hX hbl hbA hw.2.2 (hd 2 (by decide)) dL_law_294 ?_
  refine lv_aload_n hx hb dL_law_295 rfl (lv_at hl 3 rfl) ?_
  refine lv_iload_n hx hb dL_law_296 rfl (lv_at hl 0 rfl) ?_
  refine lv_iconst (v := 3) hx hb dL_law_297 (by decide) ?_
  refine lv_iadd hx hb dL_law_298 ?_
  refine va_sld hx hb hX hbl hbA hw.2.2 (hd 3 (by decide)) dL_law_299 ?_
  refine lx_cv (As := [.int (xs (x3 + 1).toNatClampNeg), .int (xs (x3 + 2).toNatClampNeg), .int (xs (x3 + 3).toNatClampNeg)]) (rest := []) (σ' := σ1) (κ' := κ) (τ' := τ) E hw hl (c_X8_setDay l D cA tS A h ax sv (t 42) (z 60) _ NN (xs (x3 + 1).toNatClampNeg) (xs (x3 + 2).toNatClampNeg) (xs (x3 + 3).toNatClampNeg) σ r σ1 h1) 3 (bwV bw_l tb_455 tb_456 tb_457 tb_99 tb_458) rfl (by decide +kernel) ⟨(Nat.le_of_ble_eq_true rfl), (Nat.le_of_ble_eq_true rfl)⟩ rfl rfl (Nat.le_of_ble_eq_true rfl) hf1 dL_law_300 (fun H locs hw => ?_)
  refine lv_aload_n hx hb dL_law_303 rfl (lv_at hl 1 rfl) ?_
  refine lv_aload_n hx hb dL_law_304 rfl (lv_at hl 3 rfl) ?_
  refine lv_iload_n hx hb dL_law_305 rfl (lv_at hl 0 rfl) ?_
  refine lv_iconst (v := 1) hx hb dL_law_306 (by decide) ?_
  refine lv_iadd hx hb dL_law_307 ?_
  refine va_sld hx hb hX hbl hbA hw.2.2 (hd 1 (by decide)) dL_law_308 ?_
  refine lv_aload_n hx hb dL_law_309 rfl (lv_at hl 3 rfl) ?_
  refine lv_iload_n hx hb dL_law_310 rfl (lv_at hl 0 rfl) ?_
  refine lv_iconst (v := 2) hx hb dL_law_311 (by decide) ?_
  refine lv_iadd hx hb dL_law_312 ?_
  refine va_sld hx hb hX hbl hbA hw.2.2 (hd 2 (by decide)) dL_law_313 ?_
  refine lv_aload_n hx hb dL_law_314 rfl (lv_at hl 3 rfl) ?_
  refine lv_iload_n hx hb dL_law_315 rfl (lv_at hl 0 rfl) ?_
  refine lv_iconst (v := 3) hx hb dL_law_316 (by decide) ?_
  refine lv_iadd hx hb dL_law_317 ?_
  refine va_sld hx hb hX hbl hbA hw.2.2 (hd 3 (by decide)) dL_law_318 ?_
  refine lm_cv (As := [.int (xs (x3 + 1).toNatClampNeg), .int (xs (x3 + 2).toNatClampNeg), .int (xs (x3 + 3).toNatClampNeg)]) (rest := [.int r]) (μ' := μ1) (wd' := wd) E hw hl (c_X9_setDay l D cA tS A y _ NN (xs (x3 + 1).toNatClampNeg) (xs (x3 + 2).toNatClampNeg) (xs (x3 + 3).toNatClampNeg) μ wd r μ1 h2) 3 (bwV bw_l tb_1197 tb_1198 tb_1199 tb_111 tb_1200) rfl (by decide +kernel) ⟨(Nat.le_of_ble_eq_true rfl), (Nat.le_of_ble_eq_true rfl)⟩ rfl rfl (Nat.le_of_ble_eq_true rfl) hf1 dL_law_319 (fun H locs hw => ?_)
  refine lv_icmp_eq (tgt := 1711) hx hb dL_law_322 (by decide) (fun _ => ?_) (fun q => absurd rfl q)
  exact W.widen (Nat.le_add_right _ _) (Nat.le_add_right _ _) (hk _ _ _ _ _ _ _ _ _ _ X1 hw)
/-- openingMinute -/
theorem lc_1 (l : Launch) (E : Ev p cL_law 4 ret RL lw_tbl D cA tS A s m #[Value.ref b] meth c) (hKA : KA cA s) (hX : va_X b L xs s s.heap) (hbl : b < s.heap.size) (hbA : ¬ A b) (hl : lv_has ls 4 [(3, .int x3), (2, .ref (y 0)), (1, .ref ax), (0, .ref b)]) (hd : ∀ k : Nat, k ≤ 6 → vp_in (x3 + nI k) L) (hf0 : cells + 40 ≤ 600000 ∧ slots + 4540 ≤ 7302249) (X : LX cA σ τ κ μ f V0 V1) (hw : Wd D A (wQ cA h t z y ax sv σ τ κ μ wd f V0 V1) s.heap H locs)
    (hk : ∀ (σ' τ' κ' μ' : Sg) (wd' : Int64) (f' : Nat → Option Nat) (V0' V1' : va_W) (H1 : Heap) (locs1 : List Loc), LX cA σ' τ' κ' μ' f' V0' V1' → Wd D A (wQ cA h t z y ax sv σ' τ' κ' μ' wd' f' V0' V1') s.heap H1 locs1 → W p l e room_1 s m #[Value.ref b] below meth c H1 locs1 (cells + 40) (slots + 4540) Q (F0 m 1711 ls [])) :
    W p l e room_1 s m #[Value.ref b] below meth c H locs cells slots Q (F0 m 327 ls []) := by
  have hx := E.1.1
  have hb := E.1.2.1
  have hf1 : cells ≤ room_1.cells ∧ slots ≤ room_1.slots := ⟨by show cells ≤ 600000; omega, by show slots ≤ 7302249; omega⟩
  unfold wQ at hw
  obtain ⟨cnt, kc, T, hl0, V⟩ := X.v
  obtain ⟨r, h1, h2⟩ := q_opening V (xs (x3 + 1).toNatClampNeg) wd
  have X1 := X
  refine lv_aload_n hx hb dL_law_327 rfl (lv_at hl 2 rfl) ?_
  refine lv_aload_n hx hb dL_law_328 rfl (lv_at hl 3 rfl) ?_
  refine lv_iload_n hx hb dL_law_329 rfl (lv_at hl 0 rfl) ?_
  refine lv_iconst (v := 1) hx hb dL_law_330 (by decide) ?_
  refine lv_iadd hx hb dL_law_331 ?_
  refine va_sld hx hb hX hbl hbA hw.2.2 (hd 1 (by decide)) dL_law_332 ?_
  refine lx_cv (As := [.int (xs (x3 + 1).toNatClampNeg)]) (rest := []) (σ' := σ) (κ' := κ) (τ' := τ) E hw hl (c_X8_openingMinute l D cA tS A h ax sv (t 42) (z 60) _ (xs (x3 + 1).toNatClampNeg) σ r h1) 1 (bwV bw_l tb_588 tb_589 tb_590 tb_99 tb_591) rfl (by decide +kernel) ⟨(Nat.le_of_ble_eq_true rfl), (Nat.le_of_ble_eq_true rfl)⟩ rfl rfl (Nat.le_of_ble_eq_true rfl) hf1 dL_law_333 (fun H locs hw => ?_)
  refine lv_aload_n hx hb dL_law_336 rfl (lv_at hl 1 rfl) ?_
  refine lv_aload_n hx hb dL_law_337 rfl (lv_at hl 3 rfl) ?_
  refine lv_iload_n hx hb dL_law_338 rfl (lv_at hl 0 rfl) ?_
  refine lv_iconst (v := 1) hx hb dL_law_339 (by decide) ?_
  refine lv_iadd hx hb dL_law_340 ?_
  refine va_sld hx hb hX hbl hbA hw.2.2 (hd 1 (by decide)) dL_law_341 ?_
  refine lm_cv (As := [.int (xs (x3 + 1).toNatClampNeg)]) (rest := [.int r]) (μ' := μ) (wd' := wd) E hw hl (c_X9_openingMinute l D cA tS A y _ (xs (x3 + 1).toNatClampNeg) μ wd r h2) 1 (bwV bw_l tb_1309 tb_1310 tb_1311 tb_111 tb_1312) rfl (by decide +kernel) ⟨(Nat.le_of_ble_eq_true rfl), (Nat.le_of_ble_eq_true rfl)⟩ rfl rfl (Nat.le_of_ble_eq_true rfl) hf1 dL_law_342 (fun H locs hw => ?_)
  refine lv_icmp_eq (tgt := 1711) hx hb dL_law_345 (by decide) (fun _ => ?_) (fun q => absurd rfl q)
  exact W.widen (Nat.le_add_right _ _) (Nat.le_add_right _ _) (hk _ _ _ _ _ _ _ _ _ _ X1 hw)
/-- closingMinute -/
theorem lc_2 (l : Launch) (E : Ev p cL_law 4 ret RL lw_tbl D cA tS A s m #[Value.ref b] meth c) (hKA : KA cA s) (hX : va_X b L xs s s.heap) (hbl : b < s.heap.size) (hbA : ¬ A b) (hl : lv_has ls 4 [(3, .int x3), (2, .ref (y 0)), (1, .ref ax), (0, .ref b)]) (hd : ∀ k : Nat, k ≤ 6 → vp_in (x3 + nI k) L) (hf0 : cells + 40 ≤ 600000 ∧ slots + 4540 ≤ 7302249) (X : LX cA σ τ κ μ f V0 V1) (hw : Wd D A (wQ cA h t z y ax sv σ τ κ μ wd f V0 V1) s.heap H locs)
    (hk : ∀ (σ' τ' κ' μ' : Sg) (wd' : Int64) (f' : Nat → Option Nat) (V0' V1' : va_W) (H1 : Heap) (locs1 : List Loc), LX cA σ' τ' κ' μ' f' V0' V1' → Wd D A (wQ cA h t z y ax sv σ' τ' κ' μ' wd' f' V0' V1') s.heap H1 locs1 → W p l e room_1 s m #[Value.ref b] below meth c H1 locs1 (cells + 40) (slots + 4540) Q (F0 m 1711 ls [])) :
    W p l e room_1 s m #[Value.ref b] below meth c H locs cells slots Q (F0 m 350 ls []) := by
  have hx := E.1.1
  have hb := E.1.2.1
  have hf1 : cells ≤ room_1.cells ∧ slots ≤ room_1.slots := ⟨by show cells ≤ 600000; omega, by show slots ≤ 7302249; omega⟩
  unfold wQ at hw
  obtain ⟨cnt, kc, T, hl0, V⟩ := X.v
  obtain ⟨r, h1, h2⟩ := q_closing V (xs (x3 + 1).toNatClampNeg) wd
  have X1 := X
  refine lv_aload_n hx hb dL_law_350 rfl (lv_at hl 2 rfl) ?_
  refine lv_aload_n hx hb dL_law_351 rfl (lv_at hl 3 rfl) ?_
  refine lv_iload_n hx hb dL_law_352 rfl (lv_at hl 0 rfl) ?_
  refine lv_iconst (v := 1) hx hb dL_law_353 (by decide) ?_
  refine lv_iadd hx hb dL_law_354 ?_
  refine va_sld hx hb hX hbl hbA hw.2.2 (hd 1 (by decide)) dL_law_355 ?_
  refine lx_cv (As := [.int (xs (x3 + 1).toNatClampNeg)]) (rest := []) (σ' := σ) (κ' := κ) (τ' := τ) E hw hl (c_X8_closingMinute l D cA tS A h ax sv (t 42) (z 60) _ (xs (x3 + 1).toNatClampNeg) σ r h1) 1 (bwV bw_l tb_593 tb_594 tb_595 tb_99 tb_596) rfl (by decide +kernel) ⟨(Nat.le_of_ble_eq_true rfl), (Nat.le_of_ble_eq_true rfl)⟩ rfl rfl (Nat.le_of_ble_eq_true rfl) hf1 dL_law_356 (fun H locs hw => ?_)
  refine lv_aload_n hx hb dL_law_359 rfl (lv_at hl 1 rfl) ?_
  refine lv_aload_n hx hb dL_law_360 rfl (lv_at hl 3 rfl) ?_
  refine lv_iload_n hx hb dL_law_361 rfl (lv_at hl 0 rfl) ?_
  refine lv_iconst (v := 1) hx hb dL_law_362 (by decide) ?_
  refine lv_iadd hx hb dL_law_363 ?_
  refine va_sld hx hb hX hbl hbA hw.2.2 (hd 1 (by decide)) dL_law_364 ?_
  refine lm_cv (As := [.int (xs (x3 + 1).toNatClampNeg)]) (rest := [.int r]) (μ' := μ) (wd' := wd) E hw hl (c_X9_closingMinute l D cA tS A y _ (xs (x3 + 1).toNatClampNeg) μ wd r h2) 1 (bwV bw_l tb_1313 tb_1314 tb_1315 tb_111 tb_1316) rfl (by decide +kernel) ⟨(Nat.le_of_ble_eq_true rfl), (Nat.le_of_ble_eq_true rfl)⟩ rfl rfl (Nat.le_of_ble_eq_true rfl) hf1 dL_law_365 (fun H locs hw => ?_)
  refine lv_icmp_eq (tgt := 1711) hx hb dL_law_368 (by decide) (fun _ => ?_) (fun q => absurd rfl q)
  exact W.widen (Nat.le_add_right _ _) (Nat.le_add_right _ _) (hk _ _ _ _ _ _ _ _ _ _ X1 hw)
/-- isOpen -/
theorem lc_3 (l : Launch) (E : Ev p cL_law 4 ret RL lw_tbl D cA tS A s m #[Value.ref b] meth c) (hKA : KA cA s) (hX : va_X b L xs s s.heap) (hbl : b < s.heap.size) (hbA : ¬ A b) (hl : lv_has ls 4 [(3, .int x3), (2, .ref (y 0)), (1, .ref ax), (0, .ref b)]) (hd : ∀ k : Nat, k ≤ 6 → vp_in (x3 + nI k) L) (hf0 : cells + 40 ≤ 600000 ∧ slots + 4540 ≤ 7302249) (X : LX cA σ τ κ μ f V0 V1) (hw : Wd D A (wQ cA h t z y ax sv σ τ κ μ wd f V0 V1) s.heap H locs)
    (hk : ∀ (σ' τ' κ' μ' : Sg) (wd' : Int64) (f' : Nat → Option Nat) (V0' V1' : va_W) (H1 : Heap) (locs1 : List Loc), LX cA σ' τ' κ' μ' f' V0' V1' → Wd D A (wQ cA h t z y ax sv σ' τ' κ' μ' wd' f' V0' V1') s.heap H1 locs1 → W p l e room_1 s m #[Value.ref b] below meth c H1 locs1 (cells + 40) (slots + 4540) Q (F0 m 1711 ls [])) :
    W p l e room_1 s m #[Value.ref b] below meth c H locs cells slots Q (F0 m 373 ls []) := by
  have hx := E.1.1
  have hb := E.1.2.1
  have hf1 : cells ≤ room_1.cells ∧ slots ≤ room_1.slots := ⟨by show cells ≤ 600000; omega, by show slots ≤ 7302249; omega⟩
  unfold wQ at hw
  obtain ⟨cnt, kc, T, hl0, V⟩ := X.v
  obtain ⟨r, h1, h2⟩ := q_isOpen V (xs (x3 + 1).toNatClampNeg) wd
  have X1 := X
  refine lv_aload_n hx hb dL_law_373 rfl (lv_at hl 2 rfl) ?_
  refine lv_aload_n hx hb dL_law_374 rfl (lv_at hl 3 rfl) ?_
  refine lv_iload_n hx hb dL_law_375 rfl (lv_at hl 0 rfl) ?_
  refine lv_iconst (v := 1) hx hb dL_law_376 (by decide) ?_
  refine lv_iadd hx hb dL_law_377 ?_
  refine va_sld hx hb hX hbl hbA hw.2.2 (hd 1 (by decide)) dL_law_378 ?_
  refine lx_cv (As := [.int (xs (x3 + 1).toNatClampNeg)]) (rest := []) (σ' := σ) (κ' := κ) (τ' := τ) E hw hl (c_X8_isOpen l D cA tS A h ax sv (t 42) (z 60) _ (xs (x3 + 1).toNatClampNeg) σ r h1) 1 (bwV bw_l tb_597 tb_598 tb_599 tb_99 tb_600) rfl (by decide +kernel) ⟨(Nat.le_of_ble_eq_true rfl), (Nat.le_of_ble_eq_true rfl)⟩ rfl rfl (Nat.le_of_ble_eq_true rfl) hf1 dL_law_379 (fun H locs hw => ?_)
  refine lv_aload_n hx hb dL_law_382 rfl (lv_at hl 1 rfl) ?_
  refine lv_aload_n hx hb dL_law_383 rfl (lv_at hl 3 rfl) ?_
  refine lv_iload_n hx hb dL_law_384 rfl (lv_at hl 0 rfl) ?_
  refine lv_iconst (v := 1) hx hb dL_law_385 (by decide) ?_
  refine lv_iadd hx hb dL_law_386 ?_
  refine va_sld hx hb hX hbl hbA hw.2.2 (hd 1 (by decide)) dL_law_387 ?_
  refine lm_cv (As := [.int (xs (x3 + 1).toNatClampNeg)]) (rest := [.int r]) (μ' := μ) (wd' := wd) E hw hl (c_X9_isOpen l D cA tS A y _ (xs (x3 + 1).toNatClampNeg) μ wd r h2) 1 (bwV bw_l tb_1317 tb_1318 tb_1319 tb_111 tb_1320) rfl (by decide +kernel) ⟨(Nat.le_of_ble_eq_true rfl), (Nat.le_of_ble_eq_true rfl)⟩ rfl rfl (Nat.le_of_ble_eq_true rfl) hf1 dL_law_388 (fun H locs hw => ?_)
  refine lv_icmp_eq (tgt := 1711) hx hb dL_law_391 (by decide) (fun _ => ?_) (fun q => absurd rfl q)
  exact W.widen (Nat.le_add_right _ _) (Nat.le_add_right _ _) (hk _ _ _ _ _ _ _ _ _ _ X1 hw)
/-- openMinutes -/
theorem lc_4 (l : Launch) (E : Ev p cL_law 4 ret RL lw_tbl D cA tS A s m #[Value.ref b] meth c) (hKA : KA cA s) (hX : va_X b L xs s s.heap) (hbl : b < s.heap.size) (hbA : ¬ A b) (hl : lv_has ls 4 [(3, .int x3), (2, .ref (y 0)), (1, .ref ax), (0, .ref b)]) (hd : ∀ k : Nat, k ≤ 6 → vp_in (x3 + nI k) L) (hf0 : cells + 40 ≤ 600000 ∧ slots + 4540 ≤ 7302249) (X : LX cA σ τ κ μ f V0 V1) (hw : Wd D A (wQ cA h t z y ax sv σ τ κ μ wd f V0 V1) s.heap H locs)
    (hk : ∀ (σ' τ' κ' μ' : Sg) (wd' : Int64) (f' : Nat → Option Nat) (V0' V1' : va_W) (H1 : Heap) (locs1 : List Loc), LX cA σ' τ' κ' μ' f' V0' V1' → Wd D A (wQ cA h t z y ax sv σ' τ' κ' μ' wd' f' V0' V1') s.heap H1 locs1 → W p l e room_1 s m #[Value.ref b] below meth c H1 locs1 (cells + 40) (slots + 4540) Q (F0 m 1711 ls [])) :
    W p l e room_1 s m #[Value.ref b] below meth c H locs cells slots Q (F0 m 396 ls []) := by
  have hx := E.1.1
  have hb := E.1.2.1
  have hf1 : cells ≤ room_1.cells ∧ slots ≤ room_1.slots := ⟨by show cells ≤ 600000; omega, by show slots ≤ 7302249; omega⟩
  unfold wQ at hw
  obtain ⟨cnt, kc, T, hl0, V⟩ := X.v
  obtain ⟨r, h1, h2⟩ := q_openMinutes V (xs (x3 + 1).toNatClampNeg) (xs (x3 + 2).toNatClampNeg) wd (N := NN) (by decide)
  have X1 := X
  refine lv_aload_n hx hb dL_law_396 rfl (lv_at hl 2 rfl) ?_
  refine lv_aload_n hx hb dL_law_397 rfl (lv_at hl 3 rfl) ?_
  refine lv_iload_n hx hb dL_law_398 rfl (lv_at hl 0 rfl) ?_
  refine lv_iconst (v := 1) hx hb dL_law_399 (by decide) ?_
  refine lv_iadd hx hb dL_law_400 ?_
  refine va_sld hx hb hX hbl hbA hw.2.2 (hd 1 (by decide)) dL_law_401 ?_
  refine lv_aload_n hx hb dL_law_402 rfl (lv_at hl 3 rfl) ?_
  refine lv_iload_n hx hb dL_law_403 rfl (lv_at hl 0 rfl) ?_
  refine lv_iconst (v := 2) hx hb dL_law_404 (by decide) ?_
  refine lv_iadd hx hb dL_law_405 ?_
  refine va_sld hx hb hX hbl hbA hw.2.2 (hd 2 (by decide)) dL_law_406 ?_
  refine lx_cv (As := [.int (xs (x3 + 1).toNatClampNeg), .int (xs (x3 + 2).toNatClampNeg)]) (rest := []) (σ' := σ) (κ' := κ) (τ' := τ) E hw hl (c_X8_openMinutes l D cA tS A h ax sv (t 42) (z 60) _ NN (xs (x3 + 1).toNatClampNeg) (xs (x3 + 2).toNatClampNeg) σ r h1) 2 (bwV bw_l tb_606 tb_607 tb_608 tb_99 tb_609) rfl (by decide +kernel) ⟨(Nat.le_of_ble_eq_true rfl), (Nat.le_of_ble_eq_true rfl)⟩ rfl rfl (Nat.le_of_ble_eq_true rfl) hf1 dL_law_407 (fun H locs hw => ?_)
  refine lv_aload_n hx hb dL_law_410 rfl (lv_at hl 1 rfl) ?_
  refine lv_aload_n hx hb dL_law_411 rfl (lv_at hl 3 rfl) ?_
  refine lv_iload_n hx hb dL_law_412 rfl (lv_at hl 0 rfl) ?_
  refine lv_iconst (v := 1) hx hb dL_law_413 (by decide) ?_
  refine lv_iadd hx hb dL_law_414 ?_
  refine va_sld hx hb hX hbl hbA hw.2.2 (hd 1 (by decide)) dL_law_415 ?_
  refine lv_aload_n hx hb dL_law_416 rfl (lv_at hl 3 rfl) ?_
  refine lv_iload_n hx hb dL_law_417 rfl (lv_at hl 0 rfl) ?_
  refine lv_iconst (v := 2) hx hb dL_law_418 (by decide) ?_
  refine lv_iadd hx hb dL_law_419 ?_
  refine va_sld hx hb hX hbl hbA hw.2.2 (hd 2 (by decide)) dL_law_420 ?_
  refine lm_cv (As := [.int (xs (x3 + 1).toNatClampNeg), .int (xs (x3 + 2).toNatClampNeg)]) (rest := [.int r]) (μ' := μ) (wd' := wd) E hw hl (c_X9_openMinutes l D cA tS A y _ NN (xs (x3 + 1).toNatClampNeg) (xs (x3 + 2).toNatClampNeg) μ wd r h2) 2 (bwV bw_l tb_1325 tb_1326 tb_1327 tb_111 tb_1328) rfl (by decide +kernel) ⟨(Nat.le_of_ble_eq_true rfl), (Nat.le_of_ble_eq_true rfl)⟩ rfl rfl (Nat.le_of_ble_eq_true rfl) hf1 dL_law_421 (fun H locs hw => ?_)
  refine lv_icmp_eq (tgt := 1711) hx hb dL_law_424 (by decide) (fun _ => ?_) (fun q => absurd rfl q)
  exact W.widen (Nat.le_add_right _ _) (Nat.le_add_right _ _) (hk _ _ _ _ _ _ _ _ _ _ X1 hw)
/-- addKind -/
theorem lc_5z (l : Launch) (E : Ev p cL_law 4 ret RL lw_tbl D cA tS A s m #[Value.ref b] meth c) (hKA : KA cA s) (hX : va_X b L xs s s.heap) (hbl : b < s.heap.size) (hbA : ¬ A b) (hl : lv_has ls 4 [(3, .int x3), (2, .ref (y 0)), (1, .ref ax), (0, .ref b)]) (hd : ∀ k : Nat, k ≤ 6 → vp_in (x3 + nI k) L) (hf0 : cells + 40 ≤ 600000 ∧ slots + 4540 ≤ 7302249) (X : LX cA σ τ κ μ f V0 V1) (hw : Wd D A (wQ cA h t z y ax sv σ τ κ μ wd f V0 V1) s.heap H locs)
    (hk : ∀ (σ' τ' κ' μ' : Sg) (wd' : Int64) (f' : Nat → Option Nat) (V0' V1' : va_W) (H1 : Heap) (locs1 : List Loc), LX cA σ' τ' κ' μ' f' V0' V1' → Wd D A (wQ cA h t z y ax sv σ' τ' κ' μ' wd' f' V0' V1') s.heap H1 locs1 → W p l e room_1 s m #[Value.ref b] below meth c H1 locs1 (cells + 40) (slots + 4540) Q (F0 m 1711 ls [])) (hz : (xs (x3 + 6).toNatClampNeg) = 0) :
    W p l e room_1 s m #[Value.ref b] below meth c H locs cells slots Q (F0 m 429 ls []) := by
  have hx := E.1.1
  have hb := E.1.2.1
  have hf1 : cells ≤ room_1.cells ∧ slots ≤ room_1.slots := ⟨by show cells ≤ 600000; omega, by show slots ≤ 7302249; omega⟩
  unfold wQ at hw
  obtain ⟨r, σ1, μ1, h1, h2, X1⟩ := L_addKind X (xs (x3 + 1).toNatClampNeg) (xs (x3 + 2).toNatClampNeg) (xs (x3 + 3).toNatClampNeg) (xs (x3 + 4).toNatClampNeg) (xs (x3 + 5).toNatClampNeg) 0 (by decide) wd
  refine lv_aload_n hx hb dL_law_429 rfl (lv_at hl 2 rfl) ?_
  refine lv_aload_n hx hb dL_law_430 rfl (lv_at hl 3 rfl) ?_
  refine lv_iload_n hx hb dL_law_431 rfl (lv_at hl 0 rfl) ?_
  refine lv_iconst (v := 1) hx hb dL_law_432 (by decide) ?_
  refine lv_iadd hx hb dL_law_433 ?_
  refine va_sld hx hb hX hbl hbA hw.2.2 (hd 1 (by decide)) dL_law_434 ?_
  refine lv_aload_n hx hb dL_law_435 rfl (lv_at hl 3 rfl) ?_
  refine lv_iload_n hx hb dL_law_436 rfl (lv_at hl 0 rfl) ?_
  refine lv_iconst (v := 2) hx hb dL_law_437 (by decide) ?_
  refine lv_iadd hx hb dL_law_438 ?_
  refine va_sld hx hb hX hbl hbA hw.2.2 (hd 2 (by decide)) dL_law_439 ?_
  refine lv_aload_n hx hb dL_law_440 rfl (lv_at hl 3 rfl) ?_
  refine lv_iload_n hx hb dL_law_441 rfl (lv_at hl 0 rfl) ?_
  refine lv_iconst (v := 3) hx hb dL_law_442 (by decide) ?_
  refine lv_iadd hx hb dL_law_443 ?_
  refine va_sld hx hb hX hbl hbA hw.2.2 (hd 3 (by decide)) dL_law_444 ?_
  refine lv_aload_n hx hb dL_law_445 rfl (lv_at hl 3 rfl) ?_
  refine lv_iload_n hx hb dL_law_446 rfl (lv_at hl 0 rfl) ?_
  refine lv_iconst (v := 4) hx hb dL_law_447 (by decide) ?_
  refine lv_iadd hx hb dL_law_448 ?_
  refine va_sld hx hb hX hbl hbA hw.2.2 (hd 4 (by decide)) dL_law_449 ?_
  refine lv_aload_n hx hb dL_law_450 rfl (lv_at hl 3 rfl) ?_
  refine lv_iload_n hx hb dL_law_451 rfl (lv_at hl 0 rfl) ?_
  refine lv_iconst (v := 5) hx hb dL_law_452 (by decide) ?_
  refine lv_iadd hx hb dL_law_453 ?_
  refine va_sld hx hb hX hbl hbA hw.2.2 (hd 5 (by decide)) dL_law_454 ?_
  refine lv_aload_n hx hb dL_law_455 rfl (lv_at hl 3 rfl) ?_
  refine lv_iload_n hx hb dL_law_456 rfl (lv_at hl 0 rfl) ?_
  refine lv_bipush (v := 6) hx hb dL_law_457 (by decide) ?_
  refine lv_iadd hx hb dL_law_459 ?_
  refine va_sld hx hb hX hbl hbA hw.2.2 (hd 6 (by decide)) dL_law_460 ?_
  refine lv_if_eq (tgt := 468) hx hb dL_law_461 (by decide) (fun _ => ?_) (fun q => absurd hz q)
  refine lv_iconst (v := 0) hx hb dL_law_468 (by decide) ?_
  refine lx_cv (As := [.int (xs (x3 + 1).toNatClampNeg), .int (xs (x3 + 2).toNatClampNeg), .int (xs (x3 + 3).toNatClampNeg), .int (xs (x3 + 4).toNatClampNeg), .int (xs (x3 + 5).toNatClampNeg), .int 0]) (rest := []) (σ' := σ1) (κ' := κ) (τ' := τ) E hw hl (c_X8_addKind l D cA tS A h ax sv (t 42) (z 60) _ (xs (x3 + 1).toNatClampNeg) (xs (x3 + 2).toNatClampNeg) (xs (x3 + 3).toNatClampNeg) (xs (x3 + 4).toNatClampNeg) (xs (x3 + 5).toNatClampNeg) 0 σ r σ1 h1) 6 (bwV bw_l tb_618 tb_619 tb_620 tb_99 tb_621) rfl (by decide +kernel) ⟨(Nat.le_of_ble_eq_true rfl), (Nat.le_of_ble_eq_true rfl)⟩ rfl rfl (Nat.le_of_ble_eq_true rfl) hf1 dL_law_469 (fun H locs hw => ?_)
  refine lv_aload_n hx hb dL_law_472 rfl (lv_at hl 1 rfl) ?_
  refine lv_aload_n hx hb dL_law_473 rfl (lv_at hl 3 rfl) ?_
  refine lv_iload_n hx hb dL_law_474 rfl (lv_at hl 0 rfl) ?_
  refine lv_iconst (v := 1) hx hb dL_law_475 (by decide) ?_
  refine lv_iadd hx hb dL_law_476 ?_
  refine va_sld hx hb hX hbl hbA hw.2.2 (hd 1 (by decide)) dL_law_477 ?_
  refine lv_aload_n hx hb dL_law_478 rfl (lv_at hl 3 rfl) ?_
  refine lv_iload_n hx hb dL_law_479 rfl (lv_at hl 0 rfl) ?_
  refine lv_iconst (v := 2) hx hb dL_law_480 (by decide) ?_
  refine lv_iadd hx hb dL_law_481 ?_
  refine va_sld hx hb hX hbl hbA hw.2.2 (hd 2 (by decide)) dL_law_482 ?_
  refine lv_aload_n hx hb dL_law_483 rfl (lv_at hl 3 rfl) ?_
  refine lv_iload_n hx hb dL_law_484 rfl (lv_at hl 0 rfl) ?_
  refine lv_iconst (v := 3) hx hb dL_law_485 (by decide) ?_
  refine lv_iadd hx hb dL_law_486 ?_
  refine va_sld hx hb hX hbl hbA hw.2.2 (hd 3 (by decide)) dL_law_487 ?_
  refine lv_aload_n hx hb dL_law_488 rfl (lv_at hl 3 rfl) ?_
  refine lv_iload_n hx hb dL_law_489 rfl (lv_at hl 0 rfl) ?_
  refine lv_iconst (v := 4) hx hb dL_law_490 (by decide) ?_
  refine lv_iadd hx hb dL_law_491 ?_
  refine va_sld hx hb hX hbl hbA hw.2.2 (hd 4 (by decide)) dL_law_492 ?_
  refine lv_aload_n hx hb dL_law_493 rfl (lv_at hl 3 rfl) ?_
  refine lv_iload_n hx hb dL_law_494 rfl (lv_at hl 0 rfl) ?_
  refine lv_iconst (v := 5) hx hb dL_law_495 (by decide) ?_
  refine lv_iadd hx hb dL_law_496 ?_
  refine va_sld hx hb hX hbl hbA hw.2.2 (hd 5 (by decide)) dL_law_497 ?_
  refine lv_aload_n hx hb dL_law_498 rfl (lv_at hl 3 rfl) ?_
  refine lv_iload_n hx hb dL_law_499 rfl (lv_at hl 0 rfl) ?_
  refine lv_bipush (v := 6) hx hb dL_law_500 (by decide) ?_
  refine lv_iadd hx hb dL_law_502 ?_
  refine va_sld hx hb hX hbl hbA hw.2.2 (hd 6 (by decide)) dL_law_503 ?_
  refine lv_if_eq (tgt := 511) hx hb dL_law_504 (by decide) (fun _ => ?_) (fun q => absurd hz q)
  refine lv_iconst (v := 0) hx hb dL_law_511 (by decide) ?_
  refine lm_cv (As := [.int (xs (x3 + 1).toNatClampNeg), .int (xs (x3 + 2).toNatClampNeg), .int (xs (x3 + 3).toNatClampNeg), .int (xs (x3 + 4).toNatClampNeg), .int (xs (x3 + 5).toNatClampNeg), .int 0]) (rest := [.int r]) (μ' := μ1) (wd' := wd) E hw hl (c_X9_addKind l D cA tS A y _ (xs (x3 + 1).toNatClampNeg) (xs (x3 + 2).toNatClampNeg) (xs (x3 + 3).toNatClampNeg) (xs (x3 + 4).toNatClampNeg) (xs (x3 + 5).toNatClampNeg) 0 μ wd r μ1 h2) 6 (bwV bw_l tb_1331 tb_1332 tb_1333 tb_111 tb_1334) rfl (by decide +kernel) ⟨(Nat.le_of_ble_eq_true rfl), (Nat.le_of_ble_eq_true rfl)⟩ rfl rfl (Nat.le_of_ble_eq_true rfl) hf1 dL_law_512 (fun H locs hw => ?_)
  refine lv_icmp_eq (tgt := 1711) hx hb dL_law_515 (by decide) (fun _ => ?_) (fun q => absurd rfl q)
  exact W.widen (Nat.le_add_right _ _) (Nat.le_add_right _ _) (hk _ _ _ _ _ _ _ _ _ _ X1 hw)
/-- addKind -/
theorem lc_5n (l : Launch) (E : Ev p cL_law 4 ret RL lw_tbl D cA tS A s m #[Value.ref b] meth c) (hKA : KA cA s) (hX : va_X b L xs s s.heap) (hbl : b < s.heap.size) (hbA : ¬ A b) (hl : lv_has ls 4 [(3, .int x3), (2, .ref (y 0)), (1, .ref ax), (0, .ref b)]) (hd : ∀ k : Nat, k ≤ 6 → vp_in (x3 + nI k) L) (hf0 : cells + 40 ≤ 600000 ∧ slots + 4540 ≤ 7302249) (X : LX cA σ τ κ μ f V0 V1) (hw : Wd D A (wQ cA h t z y ax sv σ τ κ μ wd f V0 V1) s.heap H locs)
    (hk : ∀ (σ' τ' κ' μ' : Sg) (wd' : Int64) (f' : Nat → Option Nat) (V0' V1' : va_W) (H1 : Heap) (locs1 : List Loc), LX cA σ' τ' κ' μ' f' V0' V1' → Wd D A (wQ cA h t z y ax sv σ' τ' κ' μ' wd' f' V0' V1') s.heap H1 locs1 → W p l e room_1 s m #[Value.ref b] below meth c H1 locs1 (cells + 40) (slots + 4540) Q (F0 m 1711 ls [])) (hz : ¬ (xs (x3 + 6).toNatClampNeg) = 0) :
    W p l e room_1 s m #[Value.ref b] below meth c H locs cells slots Q (F0 m 429 ls []) := by
  have hx := E.1.1
  have hb := E.1.2.1
  have hf1 : cells ≤ room_1.cells ∧ slots ≤ room_1.slots := ⟨by show cells ≤ 600000; omega, by show slots ≤ 7302249; omega⟩
  unfold wQ at hw
  obtain ⟨r, σ1, μ1, h1, h2, X1⟩ := L_addKind X (xs (x3 + 1).toNatClampNeg) (xs (x3 + 2).toNatClampNeg) (xs (x3 + 3).toNatClampNeg) (xs (x3 + 4).toNatClampNeg) (xs (x3 + 5).toNatClampNeg) 1 (by decide) wd
  refine lv_aload_n hx hb dL_law_429 rfl (lv_at hl 2 rfl) ?_
  refine lv_aload_n hx hb dL_law_430 rfl (lv_at hl 3 rfl) ?_
  refine lv_iload_n hx hb dL_law_431 rfl (lv_at hl 0 rfl) ?_
  refine lv_iconst (v := 1) hx hb dL_law_432 (by decide) ?_
  refine lv_iadd hx hb dL_law_433 ?_
  refine va_sld hx hb hX hbl hbA hw.2.2 (hd 1 (by decide)) dL_law_434 ?_
  refine lv_aload_n hx hb dL_law_435 rfl (lv_at hl 3 rfl) ?_
  refine lv_iload_n hx hb dL_law_436 rfl (lv_at hl 0 rfl) ?_
  refine lv_iconst (v := 2) hx hb dL_law_437 (by decide) ?_
  refine lv_iadd hx hb dL_law_438 ?_
  refine va_sld hx hb hX hbl hbA hw.2.2 (hd 2 (by decide)) dL_law_439 ?_
  refine lv_aload_n hx hb dL_law_440 rfl (lv_at hl 3 rfl) ?_
  refine lv_iload_n hx hb dL_law_441 rfl (lv_at hl 0 rfl) ?_
  refine lv_iconst (v := 3) hx hb dL_law_442 (by decide) ?_
  refine lv_iadd hx hb dL_law_443 ?_
  refine va_sld hx hb hX hbl hbA hw.2.2 (hd 3 (by decide)) dL_law_444 ?_
  refine lv_aload_n hx hb dL_law_445 rfl (lv_at hl 3 rfl) ?_
  refine lv_iload_n hx hb dL_law_446 rfl (lv_at hl 0 rfl) ?_
  refine lv_iconst (v := 4) hx hb dL_law_447 (by decide) ?_
  refine lv_iadd hx hb dL_law_448 ?_
  refine va_sld hx hb hX hbl hbA hw.2.2 (hd 4 (by decide)) dL_law_449 ?_
  refine lv_aload_n hx hb dL_law_450 rfl (lv_at hl 3 rfl) ?_
  refine lv_iload_n hx hb dL_law_451 rfl (lv_at hl 0 rfl) ?_
  refine lv_iconst (v := 5) hx hb dL_law_452 (by decide) ?_
  refine lv_iadd hx hb dL_law_453 ?_
  refine va_sld hx hb hX hbl hbA hw.2.2 (hd 5 (by decide)) dL_law_454 ?_
  refine lv_aload_n hx hb dL_law_455 rfl (lv_at hl 3 rfl) ?_
  refine lv_iload_n hx hb dL_law_456 rfl (lv_at hl 0 rfl) ?_
  refine lv_bipush (v := 6) hx hb dL_law_457 (by decide) ?_
  refine lv_iadd hx hb dL_law_459 ?_
  refine va_sld hx hb hX hbl hbA hw.2.2 (hd 6 (by decide)) dL_law_460 ?_
  refine lv_if_eq (tgt := 468) hx hb dL_law_461 (by decide) (fun q => absurd q hz) (fun _ => ?_)
  refine lv_iconst (v := 1) hx hb dL_law_464 (by decide) ?_
  refine lv_goto (tgt := 469) hx hb dL_law_465 (by decide) ?_
  refine lx_cv (As := [.int (xs (x3 + 1).toNatClampNeg), .int (xs (x3 + 2).toNatClampNeg), .int (xs (x3 + 3).toNatClampNeg), .int (xs (x3 + 4).toNatClampNeg), .int (xs (x3 + 5).toNatClampNeg), .int 1]) (rest := []) (σ' := σ1) (κ' := κ) (τ' := τ) E hw hl (c_X8_addKind l D cA tS A h ax sv (t 42) (z 60) _ (xs (x3 + 1).toNatClampNeg) (xs (x3 + 2).toNatClampNeg) (xs (x3 + 3).toNatClampNeg) (xs (x3 + 4).toNatClampNeg) (xs (x3 + 5).toNatClampNeg) 1 σ r σ1 h1) 6 (bwV bw_l tb_618 tb_619 tb_620 tb_99 tb_621) rfl (by decide +kernel) ⟨(Nat.le_of_ble_eq_true rfl), (Nat.le_of_ble_eq_true rfl)⟩ rfl rfl (Nat.le_of_ble_eq_true rfl) hf1 dL_law_469 (fun H locs hw => ?_)
  refine lv_aload_n hx hb dL_law_472 rfl (lv_at hl 1 rfl) ?_
  refine lv_aload_n hx hb dL_law_473 rfl (lv_at hl 3 rfl) ?_
  refine lv_iload_n hx hb dL_law_474 rfl (lv_at hl 0 rfl) ?_
  refine lv_iconst (v := 1) hx hb dL_law_475 (by decide) ?_
  refine lv_iadd hx hb dL_law_476 ?_
  refine va_sld hx hb hX hbl hbA hw.2.2 (hd 1 (by decide)) dL_law_477 ?_
  refine lv_aload_n hx hb dL_law_478 rfl (lv_at hl 3 rfl) ?_
  refine lv_iload_n hx hb dL_law_479 rfl (lv_at hl 0 rfl) ?_
  refine lv_iconst (v := 2) hx hb dL_law_480 (by decide) ?_
  refine lv_iadd hx hb dL_law_481 ?_
  refine va_sld hx hb hX hbl hbA hw.2.2 (hd 2 (by decide)) dL_law_482 ?_
  refine lv_aload_n hx hb dL_law_483 rfl (lv_at hl 3 rfl) ?_
  refine lv_iload_n hx hb dL_law_484 rfl (lv_at hl 0 rfl) ?_
  refine lv_iconst (v := 3) hx hb dL_law_485 (by decide) ?_
  refine lv_iadd hx hb dL_law_486 ?_
  refine va_sld hx hb hX hbl hbA hw.2.2 (hd 3 (by decide)) dL_law_487 ?_
  refine lv_aload_n hx hb dL_law_488 rfl (lv_at hl 3 rfl) ?_
  refine lv_iload_n hx hb dL_law_489 rfl (lv_at hl 0 rfl) ?_
  refine lv_iconst (v := 4) hx hb dL_law_490 (by decide) ?_
  refine lv_iadd hx hb dL_law_491 ?_
  refine va_sld hx hb hX hbl hbA hw.2.2 (hd 4 (by decide)) dL_law_492 ?_
  refine lv_aload_n hx hb dL_law_493 rfl (lv_at hl 3 rfl) ?_
  refine lv_iload_n hx hb dL_law_494 rfl (lv_at hl 0 rfl) ?_
  refine lv_iconst (v := 5) hx hb dL_law_495 (by decide) ?_
  refine lv_iadd hx hb dL_law_496 ?_
  refine va_sld hx hb hX hbl hbA hw.2.2 (hd 5 (by decide)) dL_law_497 ?_
  refine lv_aload_n hx hb dL_law_498 rfl (lv_at hl 3 rfl) ?_
  refine lv_iload_n hx hb dL_law_499 rfl (lv_at hl 0 rfl) ?_
  refine lv_bipush (v := 6) hx hb dL_law_500 (by decide) ?_
  refine lv_iadd hx hb dL_law_502 ?_
  refine va_sld hx hb hX hbl hbA hw.2.2 (hd 6 (by decide)) dL_law_503 ?_
  refine lv_if_eq (tgt := 511) hx hb dL_law_504 (by decide) (fun q => absurd q hz) (fun _ => ?_)
  refine lv_iconst (v := 1) hx hb dL_law_507 (by decide) ?_
  refine lv_goto (tgt := 512) hx hb dL_law_508 (by decide) ?_
  refine lm_cv (As := [.int (xs (x3 + 1).toNatClampNeg), .int (xs (x3 + 2).toNatClampNeg), .int (xs (x3 + 3).toNatClampNeg), .int (xs (x3 + 4).toNatClampNeg), .int (xs (x3 + 5).toNatClampNeg), .int 1]) (rest := [.int r]) (μ' := μ1) (wd' := wd) E hw hl (c_X9_addKind l D cA tS A y _ (xs (x3 + 1).toNatClampNeg) (xs (x3 + 2).toNatClampNeg) (xs (x3 + 3).toNatClampNeg) (xs (x3 + 4).toNatClampNeg) (xs (x3 + 5).toNatClampNeg) 1 μ wd r μ1 h2) 6 (bwV bw_l tb_1331 tb_1332 tb_1333 tb_111 tb_1334) rfl (by decide +kernel) ⟨(Nat.le_of_ble_eq_true rfl), (Nat.le_of_ble_eq_true rfl)⟩ rfl rfl (Nat.le_of_ble_eq_true rfl) hf1 dL_law_512 (fun H locs hw => ?_)
  refine lv_icmp_eq (tgt := 1711) hx hb dL_law_515 (by decide) (fun _ => ?_) (fun q => absurd rfl q)
  exact W.widen (Nat.le_add_right _ _) (Nat.le_add_right _ _) (hk _ _ _ _ _ _ _ _ _ _ X1 hw)
/-- kindCount -/
theorem lc_6 (l : Launch) (E : Ev p cL_law 4 ret RL lw_tbl D cA tS A s m #[Value.ref b] meth c) (hKA : KA cA s) (hX : va_X b L xs s s.heap) (hbl : b < s.heap.size) (hbA : ¬ A b) (hl : lv_has ls 4 [(3, .int x3), (2, .ref (y 0)), (1, .ref ax), (0, .ref b)]) (hd : ∀ k : Nat, k ≤ 6 → vp_in (x3 + nI k) L) (hf0 : cells + 40 ≤ 600000 ∧ slots + 4540 ≤ 7302249) (X : LX cA σ τ κ μ f V0 V1) (hw : Wd D A (wQ cA h t z y ax sv σ τ κ μ wd f V0 V1) s.heap H locs)
    (hk : ∀ (σ' τ' κ' μ' : Sg) (wd' : Int64) (f' : Nat → Option Nat) (V0' V1' : va_W) (H1 : Heap) (locs1 : List Loc), LX cA σ' τ' κ' μ' f' V0' V1' → Wd D A (wQ cA h t z y ax sv σ' τ' κ' μ' wd' f' V0' V1') s.heap H1 locs1 → W p l e room_1 s m #[Value.ref b] below meth c H1 locs1 (cells + 40) (slots + 4540) Q (F0 m 1711 ls [])) :
    W p l e room_1 s m #[Value.ref b] below meth c H locs cells slots Q (F0 m 520 ls []) := by
  have hx := E.1.1
  have hb := E.1.2.1
  have hf1 : cells ≤ room_1.cells ∧ slots ≤ room_1.slots := ⟨by show cells ≤ 600000; omega, by show slots ≤ 7302249; omega⟩
  unfold wQ at hw
  obtain ⟨cnt, kc, T, hl0, V⟩ := X.v
  obtain ⟨r, h1, h2⟩ := q_kindCount V wd
  have X1 := X
  refine lv_aload_n hx hb dL_law_520 rfl (lv_at hl 2 rfl) ?_
  refine lx_cv (As := []) (rest := []) (σ' := σ) (κ' := κ) (τ' := τ) E hw hl (c_X8_kindCount l D cA tS A h ax sv (t 42) (z 60) _ σ r h1) 0 (bwV bw_l tb_626 tb_627 tb_628 tb_99 tb_629) rfl (by decide +kernel) ⟨(Nat.le_of_ble_eq_true rfl), (Nat.le_of_ble_eq_true rfl)⟩ rfl rfl (Nat.le_of_ble_eq_true rfl) hf1 dL_law_521 (fun H locs hw => ?_)
  refine lv_aload_n hx hb dL_law_524 rfl (lv_at hl 1 rfl) ?_
  refine lm_cv (As := []) (rest := [.int r]) (μ' := μ) (wd' := wd) E hw hl (c_X9_kindCount l D cA tS A y _ μ wd r h2) 0 (bwV bw_l tb_1335 tb_1336 tb_1337 tb_111 tb_1338) rfl (by decide +kernel) ⟨(Nat.le_of_ble_eq_true rfl), (Nat.le_of_ble_eq_true rfl)⟩ rfl rfl (Nat.le_of_ble_eq_true rfl) hf1 dL_law_525 (fun H locs hw => ?_)
  refine lv_icmp_eq (tgt := 1711) hx hb dL_law_528 (by decide) (fun _ => ?_) (fun q => absurd rfl q)
  exact W.widen (Nat.le_add_right _ _) (Nat.le_add_right _ _) (hk _ _ _ _ _ _ _ _ _ _ X1 hw)
/-- setAgents -/
theorem lc_7 (l : Launch) (E : Ev p cL_law 4 ret RL lw_tbl D cA tS A s m #[Value.ref b] meth c) (hKA : KA cA s) (hX : va_X b L xs s s.heap) (hbl : b < s.heap.size) (hbA : ¬ A b) (hl : lv_has ls 4 [(3, .int x3), (2, .ref (y 0)), (1, .ref ax), (0, .ref b)]) (hd : ∀ k : Nat, k ≤ 6 → vp_in (x3 + nI k) L) (hf0 : cells + 40 ≤ 600000 ∧ slots + 4540 ≤ 7302249) (X : LX cA σ τ κ μ f V0 V1) (hw : Wd D A (wQ cA h t z y ax sv σ τ κ μ wd f V0 V1) s.heap H locs)
    (hk : ∀ (σ' τ' κ' μ' : Sg) (wd' : Int64) (f' : Nat → Option Nat) (V0' V1' : va_W) (H1 : Heap) (locs1 : List Loc), LX cA σ' τ' κ' μ' f' V0' V1' → Wd D A (wQ cA h t z y ax sv σ' τ' κ' μ' wd' f' V0' V1') s.heap H1 locs1 → W p l e room_1 s m #[Value.ref b] below meth c H1 locs1 (cells + 40) (slots + 4540) Q (F0 m 1711 ls [])) :
    W p l e room_1 s m #[Value.ref b] below meth c H locs cells slots Q (F0 m 533 ls []) := by
  have hx := E.1.1
  have hb := E.1.2.1
  have hf1 : cells ≤ room_1.cells ∧ slots ≤ room_1.slots := ⟨by show cells ≤ 600000; omega, by show slots ≤ 7302249; omega⟩
  unfold wQ at hw
  obtain ⟨r, σ1, μ1, g1, g2, X1⟩ := L_ch X (show TY 2 1 from by unfold TY; decide) (xs (x3 + 1).toNatClampNeg) (xs (x3 + 2).toNatClampNeg) 0 0 wd
  have h1 : f_X8_setAgents NN (xs (x3 + 1).toNatClampNeg) (xs (x3 + 2).toNatClampNeg) σ = some (r, σ1) := by
    unfold f_X8_setAgents
    rw [g1]
    rfl
  have h2 : f_X9_setAgents NN (xs (x3 + 1).toNatClampNeg) (xs (x3 + 2).toNatClampNeg) μ wd = some (r, μ1) := by
    unfold f_X9_setAgents
    rw [g2]
    rfl
  refine lv_aload_n hx hb dL_law_533 rfl (lv_at hl 2 rfl) ?_
  refine lv_aload_n hx hb dL_law_534 rfl (lv_at hl 3 rfl) ?_
  refine lv_iload_n hx hb dL_law_535 rfl (lv_at hl 0 rfl) ?_
  refine lv_iconst (v := 1) hx hb dL_law_536 (by decide) ?_
  refine lv_iadd hx hb dL_law_537 ?_
  refine va_sld hx hb hX hbl hbA hw.2.2 (hd 1 (by decide)) dL_law_538 ?_
  refine lv_aload_n hx hb dL_law_539 rfl (lv_at hl 3 rfl) ?_
  refine lv_iload_n hx hb dL_law_540 rfl (lv_at hl 0 rfl) ?_
  refine lv_iconst (v := 2) hx hb dL_law_541 (by decide) ?_
  refine lv_iadd hx hb dL_law_542 ?_
  refine va_sld hx hb hX hbl hbA hw.2.2 (hd 2 (by decide)) dL_law_543 ?_
  refine lx_cv (As := [.int (xs (x3 + 1).toNatClampNeg), .int (xs (x3 + 2).toNatClampNeg)]) (rest := []) (σ' := σ1) (κ' := κ) (τ' := τ) E hw hl (c_X8_setAgents l D cA tS A h ax sv (t 42) (z 60) _ NN (xs (x3 + 1).toNatClampNeg) (xs (x3 + 2).toNatClampNeg) σ r σ1 h1) 2 (bwV bw_l tb_630 tb_631 tb_632 tb_99 tb_633) rfl (by decide +kernel) ⟨(Nat.le_of_ble_eq_true rfl), (Nat.le_of_ble_eq_true rfl)⟩ rfl rfl (Nat.le_of_ble_eq_true rfl) hf1 dL_law_544 (fun H locs hw => ?_)
  refine lv_aload_n hx hb dL_law_547 rfl (lv_at hl 1 rfl) ?_
  refine lv_aload_n hx hb dL_law_548 rfl (lv_at hl 3 rfl) ?_
  refine lv_iload_n hx hb dL_law_549 rfl (lv_at hl 0 rfl) ?_
  refine lv_iconst (v := 1) hx hb dL_law_550 (by decide) ?_
  refine lv_iadd hx hb dL_law_551 ?_
  refine va_sld hx hb hX hbl hbA hw.2.2 (hd 1 (by decide)) dL_law_552 ?_
  refine lv_aload_n hx hb dL_law_553 rfl (lv_at hl 3 rfl) ?_
  refine lv_iload_n hx hb dL_law_554 rfl (lv_at hl 0 rfl) ?_
  refine lv_iconst (v := 2) hx hb dL_law_555 (by decide) ?_
  refine lv_iadd hx hb dL_law_556 ?_
  refine va_sld hx hb hX hbl hbA hw.2.2 (hd 2 (by decide)) dL_law_557 ?_
  refine lm_cv (As := [.int (xs (x3 + 1).toNatClampNeg), .int (xs (x3 + 2).toNatClampNeg)]) (rest := [.int r]) (μ' := μ1) (wd' := wd) E hw hl (c_X9_setAgents l D cA tS A y _ NN (xs (x3 + 1).toNatClampNeg) (xs (x3 + 2).toNatClampNeg) μ wd r μ1 h2) 2 (bwV bw_l tb_1339 tb_1340 tb_1341 tb_111 tb_1342) rfl (by decide +kernel) ⟨(Nat.le_of_ble_eq_true rfl), (Nat.le_of_ble_eq_true rfl)⟩ rfl rfl (Nat.le_of_ble_eq_true rfl) hf1 dL_law_558 (fun H locs hw => ?_)
  refine lv_icmp_eq (tgt := 1711) hx hb dL_law_561 (by decide) (fun _ => ?_) (fun q => absurd rfl q)
  exact W.widen (Nat.le_add_right _ _) (Nat.le_add_right _ _) (hk _ _ _ _ _ _ _ _ _ _ X1 hw)
/-- agents -/
theorem lc_8 (l : Launch) (E : Ev p cL_law 4 ret RL lw_tbl D cA tS A s m #[Value.ref b] meth c) (hKA : KA cA s) (hX : va_X b L xs s s.heap) (hbl : b < s.heap.size) (hbA : ¬ A b) (hl : lv_has ls 4 [(3, .int x3), (2, .ref (y 0)), (1, .ref ax), (0, .ref b)]) (hd : ∀ k : Nat, k ≤ 6 → vp_in (x3 + nI k) L) (hf0 : cells + 40 ≤ 600000 ∧ slots + 4540 ≤ 7302249) (X : LX cA σ τ κ μ f V0 V1) (hw : Wd D A (wQ cA h t z y ax sv σ τ κ μ wd f V0 V1) s.heap H locs)
    (hk : ∀ (σ' τ' κ' μ' : Sg) (wd' : Int64) (f' : Nat → Option Nat) (V0' V1' : va_W) (H1 : Heap) (locs1 : List Loc), LX cA σ' τ' κ' μ' f' V0' V1' → Wd D A (wQ cA h t z y ax sv σ' τ' κ' μ' wd' f' V0' V1') s.heap H1 locs1 → W p l e room_1 s m #[Value.ref b] below meth c H1 locs1 (cells + 40) (slots + 4540) Q (F0 m 1711 ls [])) :
    W p l e room_1 s m #[Value.ref b] below meth c H locs cells slots Q (F0 m 566 ls []) := by
  have hx := E.1.1
  have hb := E.1.2.1
  have hf1 : cells ≤ room_1.cells ∧ slots ≤ room_1.slots := ⟨by show cells ≤ 600000; omega, by show slots ≤ 7302249; omega⟩
  unfold wQ at hw
  obtain ⟨cnt, kc, T, hl0, V⟩ := X.v
  obtain ⟨r, h1, h2⟩ := q_agents V (xs (x3 + 1).toNatClampNeg) wd
  have X1 := X
  refine lv_aload_n hx hb dL_law_566 rfl (lv_at hl 2 rfl) ?_
  refine lv_aload_n hx hb dL_law_567 rfl (lv_at hl 3 rfl) ?_
  refine lv_iload_n hx hb dL_law_568 rfl (lv_at hl 0 rfl) ?_
  refine lv_iconst (v := 1) hx hb dL_law_569 (by decide) ?_
  refine lv_iadd hx hb dL_law_570 ?_
  refine va_sld hx hb hX hbl hbA hw.2.2 (hd 1 (by decide)) dL_law_571 ?_
  refine lx_cv (As := [.int (xs (x3 + 1).toNatClampNeg)]) (rest := []) (σ' := σ) (κ' := κ) (τ' := τ) E hw hl (c_X8_agents l D cA tS A h ax sv (t 42) (z 60) _ (xs (x3 + 1).toNatClampNeg) σ r h1) 1 (bwV bw_l tb_634 tb_635 tb_636 tb_99 tb_637) rfl (by decide +kernel) ⟨(Nat.le_of_ble_eq_true rfl), (Nat.le_of_ble_eq_true rfl)⟩ rfl rfl (Nat.le_of_ble_eq_true rfl) hf1 dL_law_572 (fun H locs hw => ?_)
  refine lv_aload_n hx hb dL_law_575 rfl (lv_at hl 1 rfl) ?_
  refine lv_aload_n hx hb dL_law_576 rfl (lv_at hl 3 rfl) ?_
  refine lv_iload_n hx hb dL_law_577 rfl (lv_at hl 0 rfl) ?_
  refine lv_iconst (v := 1) hx hb dL_law_578 (by decide) ?_
  refine lv_iadd hx hb dL_law_579 ?_
  refine va_sld hx hb hX hbl hbA hw.2.2 (hd 1 (by decide)) dL_law_580 ?_
  refine lm_cv (As := [.int (xs (x3 + 1).toNatClampNeg)]) (rest := [.int r]) (μ' := μ) (wd' := wd) E hw hl (c_X9_agents l D cA tS A y _ (xs (x3 + 1).toNatClampNeg) μ wd r h2) 1 (bwV bw_l tb_1343 tb_1344 tb_1345 tb_111 tb_1346) rfl (by decide +kernel) ⟨(Nat.le_of_ble_eq_true rfl), (Nat.le_of_ble_eq_true rfl)⟩ rfl rfl (Nat.le_of_ble_eq_true rfl) hf1 dL_law_581 (fun H locs hw => ?_)
  refine lv_icmp_eq (tgt := 1711) hx hb dL_law_584 (by decide) (fun _ => ?_) (fun q => absurd rfl q)
  exact W.widen (Nat.le_add_right _ _) (Nat.le_add_right _ _) (hk _ _ _ _ _ _ _ _ _ _ X1 hw)
/-- report -/
theorem lc_9 (l : Launch) (E : Ev p cL_law 4 ret RL lw_tbl D cA tS A s m #[Value.ref b] meth c) (hKA : KA cA s) (hX : va_X b L xs s s.heap) (hbl : b < s.heap.size) (hbA : ¬ A b) (hl : lv_has ls 4 [(3, .int x3), (2, .ref (y 0)), (1, .ref ax), (0, .ref b)]) (hd : ∀ k : Nat, k ≤ 6 → vp_in (x3 + nI k) L) (hf0 : cells + 40 ≤ 600000 ∧ slots + 4540 ≤ 7302249) (X : LX cA σ τ κ μ f V0 V1) (hw : Wd D A (wQ cA h t z y ax sv σ τ κ μ wd f V0 V1) s.heap H locs)
    (hk : ∀ (σ' τ' κ' μ' : Sg) (wd' : Int64) (f' : Nat → Option Nat) (V0' V1' : va_W) (H1 : Heap) (locs1 : List Loc), LX cA σ' τ' κ' μ' f' V0' V1' → Wd D A (wQ cA h t z y ax sv σ' τ' κ' μ' wd' f' V0' V1') s.heap H1 locs1 → W p l e room_1 s m #[Value.ref b] below meth c H1 locs1 (cells + 40) (slots + 4540) Q (F0 m 1711 ls [])) :
    W p l e room_1 s m #[Value.ref b] below meth c H locs cells slots Q (F0 m 589 ls []) := by
  have hx := E.1.1
  have hb := E.1.2.1
  have hf1 : cells ≤ room_1.cells ∧ slots ≤ room_1.slots := ⟨by show cells ≤ 600000; omega, by show slots ≤ 7302249; omega⟩
  unfold wQ at hw
  obtain ⟨r, σ1, μ1, g1, g2, X1⟩ := L_ch X (show TY 3 2 from by unfold TY; decide) (xs (x3 + 1).toNatClampNeg) (xs (x3 + 2).toNatClampNeg) (xs (x3 + 3).toNatClampNeg) (xs (x3 + 4).toNatClampNeg) wd
  have h1 : f_X8_report NN (xs (x3 + 1).toNatClampNeg) (xs (x3 + 2).toNatClampNeg) (xs (x3 + 3).toNatClampNeg) (xs (x3 + 4).toNatClampNeg) σ = some (r, σ1) := by
    unfold f_X8_report
    rw [g1]
    rfl
  have h2 : f_X9_report NN (xs (x3 + 1).toNatClampNeg) (xs (x3 + 2).toNatClampNeg) (xs (x3 + 3).toNatClampNeg) (xs (x3 + 4).toNatClampNeg) μ wd = some (r, μ1) := by
    unfold f_X9_report
    rw [g2]
    rfl
  refine lv_aload_n hx hb dL_law_589 rfl (lv_at hl 2 rfl) ?_
  refine lv_aload_n hx hb dL_law_590 rfl (lv_at hl 3 rfl) ?_
  refine lv_iload_n hx hb dL_law_591 rfl (lv_at hl 0 rfl) ?_
  refine lv_iconst (v := 1) hx hb dL_law_592 (by decide) ?_
  refine lv_iadd hx hb dL_law_593 ?_
  refine va_sld hx hb hX hbl hbA hw.2.2 (hd 1 (by decide)) dL_law_594 ?_
  refine lv_aload_n hx hb dL_law_595 rfl (lv_at hl 3 rfl) ?_
  refine lv_iload_n hx hb dL_law_596 rfl (lv_at hl 0 rfl) ?_
  refine lv_iconst (v := 2) hx hb dL_law_597 (by decide) ?_
  refine lv_iadd hx hb dL_law_598 ?_
  refine va_sld hx hb hX hbl hbA hw.2.2 (hd 2 (by decide)) dL_law_599 ?_
  refine lv_aload_n hx hb dL_law_600 rfl (lv_at hl 3 rfl) ?_
  refine lv_iload_n hx hb dL_law_601 rfl (lv_at hl 0 rfl) ?_
  refine lv_iconst (v := 3) hx hb dL_law_602 (by decide) ?_
  refine lv_iadd hx hb dL_law_603 ?_
  refine va_sld hx hb hX hbl hbA hw.2.2 (hd 3 (by decide)) dL_law_604 ?_
  refine lv_aload_n hx hb dL_law_605 rfl (lv_at hl 3 rfl) ?_
  refine lv_iload_n hx hb dL_law_606 rfl (lv_at hl 0 rfl) ?_
  refine lv_iconst (v := 4) hx hb dL_law_607 (by decide) ?_
  refine lv_iadd hx hb dL_law_608 ?_
  refine va_sld hx hb hX hbl hbA hw.2.2 (hd 4 (by decide)) dL_law_609 ?_
  refine lx_cv (As := [.int (xs (x3 + 1).toNatClampNeg), .int (xs (x3 + 2).toNatClampNeg), .int (xs (x3 + 3).toNatClampNeg), .int (xs (x3 + 4).toNatClampNeg)]) (rest := []) (σ' := σ1) (κ' := κ) (τ' := τ) E hw hl (c_X8_report l D cA tS A h ax sv (t 42) (z 60) _ NN (xs (x3 + 1).toNatClampNeg) (xs (x3 + 2).toNatClampNeg) (xs (x3 + 3).toNatClampNeg) (xs (x3 + 4).toNatClampNeg) σ r σ1 h1) 4 (bwV bw_l tb_638 tb_639 tb_640 tb_99 tb_641) rfl (by decide +kernel) ⟨(Nat.le_of_ble_eq_true rfl), (Nat.le_of_ble_eq_true rfl)⟩ rfl rfl (Nat.le_of_ble_eq_true rfl) hf1 dL_law_610 (fun H locs hw => ?_)
  refine lv_aload_n hx hb dL_law_613 rfl (lv_at hl 1 rfl) ?_
  refine lv_aload_n hx hb dL_law_614 rfl (lv_at hl 3 rfl) ?_
  refine lv_iload_n hx hb dL_law_615 rfl (lv_at hl 0 rfl) ?_
  refine lv_iconst (v := 1) hx hb dL_law_616 (by decide) ?_
  refine lv_iadd hx hb dL_law_617 ?_
  refine va_sld hx hb hX hbl hbA hw.2.2 (hd 1 (by decide)) dL_law_618 ?_
  refine lv_aload_n hx hb dL_law_619 rfl (lv_at hl 3 rfl) ?_
  refine lv_iload_n hx hb dL_law_620 rfl (lv_at hl 0 rfl) ?_
  refine lv_iconst (v := 2) hx hb dL_law_621 (by decide) ?_
  refine lv_iadd hx hb dL_law_622 ?_
  refine va_sld hx hb hX hbl hbA hw.2.2 (hd 2 (by decide)) dL_law_623 ?_
  refine lv_aload_n hx hb dL_law_624 rfl (lv_at hl 3 rfl) ?_
  refine lv_iload_n hx hb dL_law_625 rfl (lv_at hl 0 rfl) ?_
  refine lv_iconst (v := 3) hx hb dL_law_626 (by decide) ?_
  refine lv_iadd hx hb dL_law_627 ?_
  refine va_sld hx hb hX hbl hbA hw.2.2 (hd 3 (by decide)) dL_law_628 ?_
  refine lv_aload_n hx hb dL_law_629 rfl (lv_at hl 3 rfl) ?_
  refine lv_iload_n hx hb dL_law_630 rfl (lv_at hl 0 rfl) ?_
  refine lv_iconst (v := 4) hx hb dL_law_631 (by decide) ?_
  refine lv_iadd hx hb dL_law_632 ?_
  refine va_sld hx hb hX hbl hbA hw.2.2 (hd 4 (by decide)) dL_law_633 ?_
  refine lm_cv (As := [.int (xs (x3 + 1).toNatClampNeg), .int (xs (x3 + 2).toNatClampNeg), .int (xs (x3 + 3).toNatClampNeg), .int (xs (x3 + 4).toNatClampNeg)]) (rest := [.int r]) (μ' := μ1) (wd' := wd) E hw hl (c_X9_report l D cA tS A y _ NN (xs (x3 + 1).toNatClampNeg) (xs (x3 + 2).toNatClampNeg) (xs (x3 + 3).toNatClampNeg) (xs (x3 + 4).toNatClampNeg) μ wd r μ1 h2) 4 (bwV bw_l tb_1347 tb_1348 tb_1349 tb_111 tb_1350) rfl (by decide +kernel) ⟨(Nat.le_of_ble_eq_true rfl), (Nat.le_of_ble_eq_true rfl)⟩ rfl rfl (Nat.le_of_ble_eq_true rfl) hf1 dL_law_634 (fun H locs hw => ?_)
  refine lv_icmp_eq (tgt := 1711) hx hb dL_law_637 (by decide) (fun _ => ?_) (fun q => absurd rfl q)
  exact W.widen (Nat.le_add_right _ _) (Nat.le_add_right _ _) (hk _ _ _ _ _ _ _ _ _ _ X1 hw)
/-- pause -/
theorem lc_10 (l : Launch) (E : Ev p cL_law 4 ret RL lw_tbl D cA tS A s m #[Value.ref b] meth c) (hKA : KA cA s) (hX : va_X b L xs s s.heap) (hbl : b < s.heap.size) (hbA : ¬ A b) (hl : lv_has ls 4 [(3, .int x3), (2, .ref (y 0)), (1, .ref ax), (0, .ref b)]) (hd : ∀ k : Nat, k ≤ 6 → vp_in (x3 + nI k) L) (hf0 : cells + 40 ≤ 600000 ∧ slots + 4540 ≤ 7302249) (X : LX cA σ τ κ μ f V0 V1) (hw : Wd D A (wQ cA h t z y ax sv σ τ κ μ wd f V0 V1) s.heap H locs)
    (hk : ∀ (σ' τ' κ' μ' : Sg) (wd' : Int64) (f' : Nat → Option Nat) (V0' V1' : va_W) (H1 : Heap) (locs1 : List Loc), LX cA σ' τ' κ' μ' f' V0' V1' → Wd D A (wQ cA h t z y ax sv σ' τ' κ' μ' wd' f' V0' V1') s.heap H1 locs1 → W p l e room_1 s m #[Value.ref b] below meth c H1 locs1 (cells + 40) (slots + 4540) Q (F0 m 1711 ls [])) :
    W p l e room_1 s m #[Value.ref b] below meth c H locs cells slots Q (F0 m 642 ls []) := by
  have hx := E.1.1
  have hb := E.1.2.1
  have hf1 : cells ≤ room_1.cells ∧ slots ≤ room_1.slots := ⟨by show cells ≤ 600000; omega, by show slots ≤ 7302249; omega⟩
  unfold wQ at hw
  obtain ⟨r, σ1, μ1, g1, g2, X1⟩ := L_ch X (show TY 4 3 from by unfold TY; decide) (xs (x3 + 1).toNatClampNeg) 0 0 0 wd
  have h1 : f_X8_pause NN (xs (x3 + 1).toNatClampNeg) σ = some (r, σ1) := by
    unfold f_X8_pause
    rw [g1]
    rfl
  have h2 : f_X9_pause NN (xs (x3 + 1).toNatClampNeg) μ wd = some (r, μ1) := by
    unfold f_X9_pause
    rw [g2]
    rfl
  refine lv_aload_n hx hb dL_law_642 rfl (lv_at hl 2 rfl) ?_
  refine lv_aload_n hx hb dL_law_643 rfl (lv_at hl 3 rfl) ?_
  refine lv_iload_n hx hb dL_law_644 rfl (lv_at hl 0 rfl) ?_
  refine lv_iconst (v := 1) hx hb dL_law_645 (by decide) ?_
  refine lv_iadd hx hb dL_law_646 ?_
  refine va_sld hx hb hX hbl hbA hw.2.2 (hd 1 (by decide)) dL_law_647 ?_
  refine lx_cv (As := [.int (xs (x3 + 1).toNatClampNeg)]) (rest := []) (σ' := σ1) (κ' := κ) (τ' := τ) E hw hl (c_X8_pause l D cA tS A h ax sv (t 42) (z 60) _ NN (xs (x3 + 1).toNatClampNeg) σ r σ1 h1) 1 (bwV bw_l tb_642 tb_643 tb_644 tb_99 tb_645) rfl (by decide +kernel) ⟨(Nat.le_of_ble_eq_true rfl), (Nat.le_of_ble_eq_true rfl)⟩ rfl rfl (Nat.le_of_ble_eq_true rfl) hf1 dL_law_648 (fun H locs hw => ?_)
  refine lv_aload_n hx hb dL_law_651 rfl (lv_at hl 1 rfl) ?_
  refine lv_aload_n hx hb dL_law_652 rfl (lv_at hl 3 rfl) ?_
  refine lv_iload_n hx hb dL_law_653 rfl (lv_at hl 0 rfl) ?_
  refine lv_iconst (v := 1) hx hb dL_law_654 (by decide) ?_
  refine lv_iadd hx hb dL_law_655 ?_
  refine va_sld hx hb hX hbl hbA hw.2.2 (hd 1 (by decide)) dL_law_656 ?_
  refine lm_cv (As := [.int (xs (x3 + 1).toNatClampNeg)]) (rest := [.int r]) (μ' := μ1) (wd' := wd) E hw hl (c_X9_pause l D cA tS A y _ NN (xs (x3 + 1).toNatClampNeg) μ wd r μ1 h2) 1 (bwV bw_l tb_1351 tb_1352 tb_1353 tb_111 tb_1354) rfl (by decide +kernel) ⟨(Nat.le_of_ble_eq_true rfl), (Nat.le_of_ble_eq_true rfl)⟩ rfl rfl (Nat.le_of_ble_eq_true rfl) hf1 dL_law_657 (fun H locs hw => ?_)
  refine lv_icmp_eq (tgt := 1711) hx hb dL_law_660 (by decide) (fun _ => ?_) (fun q => absurd rfl q)
  exact W.widen (Nat.le_add_right _ _) (Nat.le_add_right _ _) (hk _ _ _ _ _ _ _ _ _ _ X1 hw)
/-- resume -/
theorem lc_11 (l : Launch) (E : Ev p cL_law 4 ret RL lw_tbl D cA tS A s m #[Value.ref b] meth c) (hKA : KA cA s) (hX : va_X b L xs s s.heap) (hbl : b < s.heap.size) (hbA : ¬ A b) (hl : lv_has ls 4 [(3, .int x3), (2, .ref (y 0)), (1, .ref ax), (0, .ref b)]) (hd : ∀ k : Nat, k ≤ 6 → vp_in (x3 + nI k) L) (hf0 : cells + 40 ≤ 600000 ∧ slots + 4540 ≤ 7302249) (X : LX cA σ τ κ μ f V0 V1) (hw : Wd D A (wQ cA h t z y ax sv σ τ κ μ wd f V0 V1) s.heap H locs)
    (hk : ∀ (σ' τ' κ' μ' : Sg) (wd' : Int64) (f' : Nat → Option Nat) (V0' V1' : va_W) (H1 : Heap) (locs1 : List Loc), LX cA σ' τ' κ' μ' f' V0' V1' → Wd D A (wQ cA h t z y ax sv σ' τ' κ' μ' wd' f' V0' V1') s.heap H1 locs1 → W p l e room_1 s m #[Value.ref b] below meth c H1 locs1 (cells + 40) (slots + 4540) Q (F0 m 1711 ls [])) :
    W p l e room_1 s m #[Value.ref b] below meth c H locs cells slots Q (F0 m 665 ls []) := by
  have hx := E.1.1
  have hb := E.1.2.1
  have hf1 : cells ≤ room_1.cells ∧ slots ≤ room_1.slots := ⟨by show cells ≤ 600000; omega, by show slots ≤ 7302249; omega⟩
  unfold wQ at hw
  obtain ⟨r, σ1, μ1, g1, g2, X1⟩ := L_ch X (show TY 5 4 from by unfold TY; decide) (xs (x3 + 1).toNatClampNeg) 0 0 0 wd
  have h1 : f_X8_resume NN (xs (x3 + 1).toNatClampNeg) σ = some (r, σ1) := by
    unfold f_X8_resume
    rw [g1]
    rfl
  have h2 : f_X9_resume NN (xs (x3 + 1).toNatClampNeg) μ wd = some (r, μ1) := by
    unfold f_X9_resume
    rw [g2]
    rfl
  refine lv_aload_n hx hb dL_law_665 rfl (lv_at hl 2 rfl) ?_
  refine lv_aload_n hx hb dL_law_666 rfl (lv_at hl 3 rfl) ?_
  refine lv_iload_n hx hb dL_law_667 rfl (lv_at hl 0 rfl) ?_
  refine lv_iconst (v := 1) hx hb dL_law_668 (by decide) ?_
  refine lv_iadd hx hb dL_law_669 ?_
  refine va_sld hx hb hX hbl hbA hw.2.2 (hd 1 (by decide)) dL_law_670 ?_
  refine lx_cv (As := [.int (xs (x3 + 1).toNatClampNeg)]) (rest := []) (σ' := σ1) (κ' := κ) (τ' := τ) E hw hl (c_X8_resume l D cA tS A h ax sv (t 42) (z 60) _ NN (xs (x3 + 1).toNatClampNeg) σ r σ1 h1) 1 (bwV bw_l tb_646 tb_647 tb_648 tb_99 tb_649) rfl (by decide +kernel) ⟨(Nat.le_of_ble_eq_true rfl), (Nat.le_of_ble_eq_true rfl)⟩ rfl rfl (Nat.le_of_ble_eq_true rfl) hf1 dL_law_671 (fun H locs hw => ?_)
  refine lv_aload_n hx hb dL_law_674 rfl (lv_at hl 1 rfl) ?_
  refine lv_aload_n hx hb dL_law_675 rfl (lv_at hl 3 rfl) ?_
  refine lv_iload_n hx hb dL_law_676 rfl (lv_at hl 0 rfl) ?_
  refine lv_iconst (v := 1) hx hb dL_law_677 (by decide) ?_
  refine lv_iadd hx hb dL_law_678 ?_
  refine va_sld hx hb hX hbl hbA hw.2.2 (hd 1 (by decide)) dL_law_679 ?_
  refine lm_cv (As := [.int (xs (x3 + 1).toNatClampNeg)]) (rest := [.int r]) (μ' := μ1) (wd' := wd) E hw hl (c_X9_resume l D cA tS A y _ NN (xs (x3 + 1).toNatClampNeg) μ wd r μ1 h2) 1 (bwV bw_l tb_1355 tb_1356 tb_1357 tb_111 tb_1358) rfl (by decide +kernel) ⟨(Nat.le_of_ble_eq_true rfl), (Nat.le_of_ble_eq_true rfl)⟩ rfl rfl (Nat.le_of_ble_eq_true rfl) hf1 dL_law_680 (fun H locs hw => ?_)
  refine lv_icmp_eq (tgt := 1711) hx hb dL_law_683 (by decide) (fun _ => ?_) (fun q => absurd rfl q)
  exact W.widen (Nat.le_add_right _ _) (Nat.le_add_right _ _) (hk _ _ _ _ _ _ _ _ _ _ X1 hw)
/-- climb -/
theorem lc_12 (l : Launch) (E : Ev p cL_law 4 ret RL lw_tbl D cA tS A s m #[Value.ref b] meth c) (hKA : KA cA s) (hX : va_X b L xs s s.heap) (hbl : b < s.heap.size) (hbA : ¬ A b) (hl : lv_has ls 4 [(3, .int x3), (2, .ref (y 0)), (1, .ref ax), (0, .ref b)]) (hd : ∀ k : Nat, k ≤ 6 → vp_in (x3 + nI k) L) (hf0 : cells + 40 ≤ 600000 ∧ slots + 4540 ≤ 7302249) (X : LX cA σ τ κ μ f V0 V1) (hw : Wd D A (wQ cA h t z y ax sv σ τ κ μ wd f V0 V1) s.heap H locs)
    (hk : ∀ (σ' τ' κ' μ' : Sg) (wd' : Int64) (f' : Nat → Option Nat) (V0' V1' : va_W) (H1 : Heap) (locs1 : List Loc), LX cA σ' τ' κ' μ' f' V0' V1' → Wd D A (wQ cA h t z y ax sv σ' τ' κ' μ' wd' f' V0' V1') s.heap H1 locs1 → W p l e room_1 s m #[Value.ref b] below meth c H1 locs1 (cells + 40) (slots + 4540) Q (F0 m 1711 ls [])) :
    W p l e room_1 s m #[Value.ref b] below meth c H locs cells slots Q (F0 m 688 ls []) := by
  have hx := E.1.1
  have hb := E.1.2.1
  have hf1 : cells ≤ room_1.cells ∧ slots ≤ room_1.slots := ⟨by show cells ≤ 600000; omega, by show slots ≤ 7302249; omega⟩
  unfold wQ at hw
  obtain ⟨r, σ1, μ1, g1, g2, X1⟩ := L_ch X (show TY 6 5 from by unfold TY; decide) (xs (x3 + 1).toNatClampNeg) 0 0 0 wd
  have h1 : f_X8_climb NN (xs (x3 + 1).toNatClampNeg) σ = some (r, σ1) := by
    unfold f_X8_climb
    rw [g1]
    rfl
  have h2 : f_X9_climb NN (xs (x3 + 1).toNatClampNeg) μ wd = some (r, μ1) := by
    unfold f_X9_climb
    rw [g2]
    rfl
  refine lv_aload_n hx hb dL_law_688 rfl (lv_at hl 2 rfl) ?_
  refine lv_aload_n hx hb dL_law_689 rfl (lv_at hl 3 rfl) ?_
  refine lv_iload_n hx hb dL_law_690 rfl (lv_at hl 0 rfl) ?_
  refine lv_iconst (v := 1) hx hb dL_law_691 (by decide) ?_
  refine lv_iadd hx hb dL_law_692 ?_
  refine va_sld hx hb hX hbl hbA hw.2.2 (hd 1 (by decide)) dL_law_693 ?_
  refine lx_cv (As := [.int (xs (x3 + 1).toNatClampNeg)]) (rest := []) (σ' := σ1) (κ' := κ) (τ' := τ) E hw hl (c_X8_climb l D cA tS A h ax sv (t 42) (z 60) _ NN (xs (x3 + 1).toNatClampNeg) σ r σ1 h1) 1 (bwV bw_l tb_650 tb_651 tb_652 tb_99 tb_653) rfl (by decide +kernel) ⟨(Nat.le_of_ble_eq_true rfl), (Nat.le_of_ble_eq_true rfl)⟩ rfl rfl (Nat.le_of_ble_eq_true rfl) hf1 dL_law_694 (fun H locs hw => ?_)
  refine lv_aload_n hx hb dL_law_697 rfl (lv_at hl 1 rfl) ?_
  refine lv_aload_n hx hb dL_law_698 rfl (lv_at hl 3 rfl) ?_
  refine lv_iload_n hx hb dL_law_699 rfl (lv_at hl 0 rfl) ?_
  refine lv_iconst (v := 1) hx hb dL_law_700 (by decide) ?_
  refine lv_iadd hx hb dL_law_701 ?_
  refine va_sld hx hb hX hbl hbA hw.2.2 (hd 1 (by decide)) dL_law_702 ?_
  refine lm_cv (As := [.int (xs (x3 + 1).toNatClampNeg)]) (rest := [.int r]) (μ' := μ1) (wd' := wd) E hw hl (c_X9_climb l D cA tS A y _ NN (xs (x3 + 1).toNatClampNeg) μ wd r μ1 h2) 1 (bwV bw_l tb_1359 tb_1360 tb_1361 tb_111 tb_1362) rfl (by decide +kernel) ⟨(Nat.le_of_ble_eq_true rfl), (Nat.le_of_ble_eq_true rfl)⟩ rfl rfl (Nat.le_of_ble_eq_true rfl) hf1 dL_law_703 (fun H locs hw => ?_)
  refine lv_icmp_eq (tgt := 1711) hx hb dL_law_706 (by decide) (fun _ => ?_) (fun q => absurd rfl q)
  exact W.widen (Nat.le_add_right _ _) (Nat.le_add_right _ _) (hk _ _ _ _ _ _ _ _ _ _ X1 hw)
/-- solve -/
theorem lc_13 (l : Launch) (E : Ev p cL_law 4 ret RL lw_tbl D cA tS A s m #[Value.ref b] meth c) (hKA : KA cA s) (hX : va_X b L xs s s.heap) (hbl : b < s.heap.size) (hbA : ¬ A b) (hl : lv_has ls 4 [(3, .int x3), (2, .ref (y 0)), (1, .ref ax), (0, .ref b)]) (hd : ∀ k : Nat, k ≤ 6 → vp_in (x3 + nI k) L) (hf0 : cells + 40 ≤ 600000 ∧ slots + 4540 ≤ 7302249) (X : LX cA σ τ κ μ f V0 V1) (hw : Wd D A (wQ cA h t z y ax sv σ τ κ μ wd f V0 V1) s.heap H locs)
    (hk : ∀ (σ' τ' κ' μ' : Sg) (wd' : Int64) (f' : Nat → Option Nat) (V0' V1' : va_W) (H1 : Heap) (locs1 : List Loc), LX cA σ' τ' κ' μ' f' V0' V1' → Wd D A (wQ cA h t z y ax sv σ' τ' κ' μ' wd' f' V0' V1') s.heap H1 locs1 → W p l e room_1 s m #[Value.ref b] below meth c H1 locs1 (cells + 40) (slots + 4540) Q (F0 m 1711 ls [])) :
    W p l e room_1 s m #[Value.ref b] below meth c H locs cells slots Q (F0 m 711 ls []) := by
  have hx := E.1.1
  have hb := E.1.2.1
  have hf1 : cells ≤ room_1.cells ∧ slots ≤ room_1.slots := ⟨by show cells ≤ 600000; omega, by show slots ≤ 7302249; omega⟩
  unfold wQ at hw
  obtain ⟨r, σ1, μ1, g1, g2, X1⟩ := L_ch X (show TY 7 6 from by unfold TY; decide) (xs (x3 + 1).toNatClampNeg) 0 0 0 wd
  have h1 : f_X8_solve NN (xs (x3 + 1).toNatClampNeg) σ = some (r, σ1) := by
    unfold f_X8_solve
    rw [g1]
    rfl
  have h2 : f_X9_solve NN (xs (x3 + 1).toNatClampNeg) μ wd = some (r, μ1) := by
    unfold f_X9_solve
    rw [g2]
    rfl
  refine lv_aload_n hx hb dL_law_711 rfl (lv_at hl 2 rfl) ?_
  refine lv_aload_n hx hb dL_law_712 rfl (lv_at hl 3 rfl) ?_
  refine lv_iload_n hx hb dL_law_713 rfl (lv_at hl 0 rfl) ?_
  refine lv_iconst (v := 1) hx hb dL_law_714 (by decide) ?_
  refine lv_iadd hx hb dL_law_715 ?_
  refine va_sld hx hb hX hbl hbA hw.2.2 (hd 1 (by decide)) dL_law_716 ?_
  refine lx_cv (As := [.int (xs (x3 + 1).toNatClampNeg)]) (rest := []) (σ' := σ1) (κ' := κ) (τ' := τ) E hw hl (c_X8_solve l D cA tS A h ax sv (t 42) (z 60) _ NN (xs (x3 + 1).toNatClampNeg) σ r σ1 h1) 1 (bwV bw_l tb_654 tb_655 tb_656 tb_99 tb_657) rfl (by decide +kernel) ⟨(Nat.le_of_ble_eq_true rfl), (Nat.le_of_ble_eq_true rfl)⟩ rfl rfl (Nat.le_of_ble_eq_true rfl) hf1 dL_law_717 (fun H locs hw => ?_)
  refine lv_aload_n hx hb dL_law_720 rfl (lv_at hl 1 rfl) ?_
  refine lv_aload_n hx hb dL_law_721 rfl (lv_at hl 3 rfl) ?_
  refine lv_iload_n hx hb dL_law_722 rfl (lv_at hl 0 rfl) ?_
  refine lv_iconst (v := 1) hx hb dL_law_723 (by decide) ?_
  refine lv_iadd hx hb dL_law_724 ?_
  refine va_sld hx hb hX hbl hbA hw.2.2 (hd 1 (by decide)) dL_law_725 ?_
  refine lm_cv (As := [.int (xs (x3 + 1).toNatClampNeg)]) (rest := [.int r]) (μ' := μ1) (wd' := wd) E hw hl (c_X9_solve l D cA tS A y _ NN (xs (x3 + 1).toNatClampNeg) μ wd r μ1 h2) 1 (bwV bw_l tb_1363 tb_1364 tb_1365 tb_111 tb_1366) rfl (by decide +kernel) ⟨(Nat.le_of_ble_eq_true rfl), (Nat.le_of_ble_eq_true rfl)⟩ rfl rfl (Nat.le_of_ble_eq_true rfl) hf1 dL_law_726 (fun H locs hw => ?_)
  refine lv_icmp_eq (tgt := 1711) hx hb dL_law_729 (by decide) (fun _ => ?_) (fun q => absurd rfl q)
  exact W.widen (Nat.le_add_right _ _) (Nat.le_add_right _ _) (hk _ _ _ _ _ _ _ _ _ _ X1 hw)
/-- reopen -/
theorem lc_14 (l : Launch) (E : Ev p cL_law 4 ret RL lw_tbl D cA tS A s m #[Value.ref b] meth c) (hKA : KA cA s) (hX : va_X b L xs s s.heap) (hbl : b < s.heap.size) (hbA : ¬ A b) (hl : lv_has ls 4 [(3, .int x3), (2, .ref (y 0)), (1, .ref ax), (0, .ref b)]) (hd : ∀ k : Nat, k ≤ 6 → vp_in (x3 + nI k) L) (hf0 : cells + 40 ≤ 600000 ∧ slots + 4540 ≤ 7302249) (X : LX cA σ τ κ μ f V0 V1) (hw : Wd D A (wQ cA h t z y ax sv σ τ κ μ wd f V0 V1) s.heap H locs)
    (hk : ∀ (σ' τ' κ' μ' : Sg) (wd' : Int64) (f' : Nat → Option Nat) (V0' V1' : va_W) (H1 : Heap) (locs1 : List Loc), LX cA σ' τ' κ' μ' f' V0' V1' → Wd D A (wQ cA h t z y ax sv σ' τ' κ' μ' wd' f' V0' V1') s.heap H1 locs1 → W p l e room_1 s m #[Value.ref b] below meth c H1 locs1 (cells + 40) (slots + 4540) Q (F0 m 1711 ls [])) :
    W p l e room_1 s m #[Value.ref b] below meth c H locs cells slots Q (F0 m 734 ls []) := by
  have hx := E.1.1
  have hb := E.1.2.1
  have hf1 : cells ≤ room_1.cells ∧ slots ≤ room_1.slots := ⟨by show cells ≤ 600000; omega, by show slots ≤ 7302249; omega⟩
  unfold wQ at hw
  obtain ⟨r, σ1, μ1, g1, g2, X1⟩ := L_ch X (show TY 8 7 from by unfold TY; decide) (xs (x3 + 1).toNatClampNeg) 0 0 0 wd
  have h1 : f_X8_reopen NN (xs (x3 + 1).toNatClampNeg) σ = some (r, σ1) := by
    unfold f_X8_reopen
    rw [g1]
    rfl
  have h2 : f_X9_reopen NN (xs (x3 + 1).toNatClampNeg) μ wd = some (r, μ1) := by
    unfold f_X9_reopen
    rw [g2]
    rfl
  refine lv_aload_n hx hb dL_law_734 rfl (lv_at hl 2 rfl) ?_
  refine lv_aload_n hx hb dL_law_735 rfl (lv_at hl 3 rfl) ?_
  refine lv_iload_n hx hb dL_law_736 rfl (lv_at hl 0 rfl) ?_
  refine lv_iconst (v := 1) hx hb dL_law_737 (by decide) ?_
  refine lv_iadd hx hb dL_law_738 ?_
  refine va_sld hx hb hX hbl hbA hw.2.2 (hd 1 (by decide)) dL_law_739 ?_
  refine lx_cv (As := [.int (xs (x3 + 1).toNatClampNeg)]) (rest := []) (σ' := σ1) (κ' := κ) (τ' := τ) E hw hl (c_X8_reopen l D cA tS A h ax sv (t 42) (z 60) _ NN (xs (x3 + 1).toNatClampNeg) σ r σ1 h1) 1 (bwV bw_l tb_658 tb_659 tb_660 tb_99 tb_661) rfl (by decide +kernel) ⟨(Nat.le_of_ble_eq_true rfl), (Nat.le_of_ble_eq_true rfl)⟩ rfl rfl (Nat.le_of_ble_eq_true rfl) hf1 dL_law_740 (fun H locs hw => ?_)
  refine lv_aload_n hx hb dL_law_743 rfl (lv_at hl 1 rfl) ?_
  refine lv_aload_n hx hb dL_law_744 rfl (lv_at hl 3 rfl) ?_
  refine lv_iload_n hx hb dL_law_745 rfl (lv_at hl 0 rfl) ?_
  refine lv_iconst (v := 1) hx hb dL_law_746 (by decide) ?_
  refine lv_iadd hx hb dL_law_747 ?_
  refine va_sld hx hb hX hbl hbA hw.2.2 (hd 1 (by decide)) dL_law_748 ?_
  refine lm_cv (As := [.int (xs (x3 + 1).toNatClampNeg)]) (rest := [.int r]) (μ' := μ1) (wd' := wd) E hw hl (c_X9_reopen l D cA tS A y _ NN (xs (x3 + 1).toNatClampNeg) μ wd r μ1 h2) 1 (bwV bw_l tb_1367 tb_1368 tb_1369 tb_111 tb_1370) rfl (by decide +kernel) ⟨(Nat.le_of_ble_eq_true rfl), (Nat.le_of_ble_eq_true rfl)⟩ rfl rfl (Nat.le_of_ble_eq_true rfl) hf1 dL_law_749 (fun H locs hw => ?_)
  refine lv_icmp_eq (tgt := 1711) hx hb dL_law_752 (by decide) (fun _ => ?_) (fun q => absurd rfl q)
  exact W.widen (Nat.le_add_right _ _) (Nat.le_add_right _ _) (hk _ _ _ _ _ _ _ _ _ _ X1 hw)
end HLC
