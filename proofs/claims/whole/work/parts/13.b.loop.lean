/-! the law's loop -/
theorem and63 (x : Int32) : ∃ q : Nat, q < 64 ∧ x &&& 63 = nI q := by
  have e : (x &&& 63).toBitVec.toNat = x.toBitVec.toNat % 64 := by
    rw [Int32.toBitVec_and, BitVec.toNat_and]
    exact Nat.and_two_pow_sub_one_eq_mod _ 6
  have lt := Nat.mod_lt x.toBitVec.toNat (show 64 > 0 by decide)
  refine ⟨x.toBitVec.toNat % 64, lt, z_eq.mpr ?_⟩
  rw [z_nI (by omega)]
  have a1 : (x &&& 63).toInt = (x &&& 63).toBitVec.toInt := rfl
  rw [a1, BitVec.toInt_eq_toNat_cond, e]
  split <;> omega
section HLL
variable {p : Program} {e : Env} {s : State} {m : MethodId} {below : List Frame} {meth : Method} {c : Code} {H : Heap} {locs : List Loc}
variable {D : va_G} {cA : Nat → ClassId} {tS : Nat → Nat} {b L ax sv : Nat} {xs : Nat → Int32} {h t z y : Nat → Nat}
/-- one round, behind the test -/
theorem law_case {A : Nat → Prop} {ls : Array Slot} {x3 : Int32} {σ τ κ μ : Sg} {wd : Int64} {f : Nat → Option Nat} {V0 V1 : va_W} {cells slots : Nat} {Q : State → Prop} (l : Launch) (E : Ev p cL_law 4 ret RL lw_tbl D cA tS A s m #[Value.ref b] meth c) (hKA : KA cA s) (hX : va_X b L xs s s.heap) (hbl : b < s.heap.size) (hbA : ¬ A b) (hl : lv_has ls 4 [(3, .int x3), (2, .ref (y 0)), (1, .ref ax), (0, .ref b)]) (hd : ∀ k : Nat, k ≤ 6 → vp_in (x3 + nI k) L) (hf0 : cells + 40 ≤ 600000 ∧ slots + 4540 ≤ 7302249) (X : LX cA σ τ κ μ f V0 V1) (hw : Wd D A (wQ cA h t z y ax sv σ τ κ μ wd f V0 V1) s.heap H locs)
    (hk : ∀ (σ' τ' κ' μ' : Sg) (wd' : Int64) (f' : Nat → Option Nat) (V0' V1' : va_W) (H1 : Heap) (locs1 : List Loc), LX cA σ' τ' κ' μ' f' V0' V1' → Wd D A (wQ cA h t z y ax sv σ' τ' κ' μ' wd' f' V0' V1') s.heap H1 locs1 → W p l e room_1 s m #[Value.ref b] below meth c H1 locs1 (cells + 40) (slots + 4540) Q (F0 m 1711 ls [])) (q : Nat) (hq : q < 64) :
    W p l e room_1 s m #[Value.ref b] below meth c H locs cells slots Q (F0 m 33 ls [.int (nI q)]) := by
  have hx := E.1.1
  have hb := E.1.2.1
  by_cases e0 : q = 0
  · subst e0
    refine lv_tableIn (tgt := 284) (off := 251) hx hb dL_law_33 (by decide) (by decide) (by decide) (by decide) ?_
    exact lc_0 l E hKA hX hbl hbA hl hd hf0 X hw hk
  by_cases e1 : q = 1
  · subst e1
    refine lv_tableIn (tgt := 327) (off := 294) hx hb dL_law_33 (by decide) (by decide) (by decide) (by decide) ?_
    exact lc_1 l E hKA hX hbl hbA hl hd hf0 X hw hk
  by_cases e2 : q = 2
  · subst e2
    refine lv_tableIn (tgt := 350) (off := 317) hx hb dL_law_33 (by decide) (by decide) (by decide) (by decide) ?_
    exact lc_2 l E hKA hX hbl hbA hl hd hf0 X hw hk
  by_cases e3 : q = 3
  · subst e3
    refine lv_tableIn (tgt := 373) (off := 340) hx hb dL_law_33 (by decide) (by decide) (by decide) (by decide) ?_
    exact lc_3 l E hKA hX hbl hbA hl hd hf0 X hw hk
  by_cases e4 : q = 4
  · subst e4
    refine lv_tableIn (tgt := 396) (off := 363) hx hb dL_law_33 (by decide) (by decide) (by decide) (by decide) ?_
    exact lc_4 l E hKA hX hbl hbA hl hd hf0 X hw hk
  by_cases e5 : q = 5
  · subst e5
    refine lv_tableIn (tgt := 429) (off := 396) hx hb dL_law_33 (by decide) (by decide) (by decide) (by decide) ?_
    by_cases hz : (xs (x3 + 6).toNatClampNeg) = 0
    · exact lc_5z l E hKA hX hbl hbA hl hd hf0 X hw hk hz
    · exact lc_5n l E hKA hX hbl hbA hl hd hf0 X hw hk hz
  by_cases e6 : q = 6
  · subst e6
    refine lv_tableIn (tgt := 520) (off := 487) hx hb dL_law_33 (by decide) (by decide) (by decide) (by decide) ?_
    exact lc_6 l E hKA hX hbl hbA hl hd hf0 X hw hk
  by_cases e7 : q = 7
  · subst e7
    refine lv_tableIn (tgt := 533) (off := 500) hx hb dL_law_33 (by decide) (by decide) (by decide) (by decide) ?_
    exact lc_7 l E hKA hX hbl hbA hl hd hf0 X hw hk
  by_cases e8 : q = 8
  · subst e8
    refine lv_tableIn (tgt := 566) (off := 533) hx hb dL_law_33 (by decide) (by decide) (by decide) (by decide) ?_
    exact lc_8 l E hKA hX hbl hbA hl hd hf0 X hw hk
  by_cases e9 : q = 9
  · subst e9
    refine lv_tableIn (tgt := 589) (off := 556) hx hb dL_law_33 (by decide) (by decide) (by decide) (by decide) ?_
    exact lc_9 l E hKA hX hbl hbA hl hd hf0 X hw hk
  by_cases e10 : q = 10
  · subst e10
    refine lv_tableIn (tgt := 642) (off := 609) hx hb dL_law_33 (by decide) (by decide) (by decide) (by decide) ?_
    exact lc_10 l E hKA hX hbl hbA hl hd hf0 X hw hk
  by_cases e11 : q = 11
  · subst e11
    refine lv_tableIn (tgt := 665) (off := 632) hx hb dL_law_33 (by decide) (by decide) (by decide) (by decide) ?_
    exact lc_11 l E hKA hX hbl hbA hl hd hf0 X hw hk
  by_cases e12 : q = 12
  · subst e12
    refine lv_tableIn (tgt := 688) (off := 655) hx hb dL_law_33 (by decide) (by decide) (by decide) (by decide) ?_
    exact lc_12 l E hKA hX hbl hbA hl hd hf0 X hw hk
  by_cases e13 : q = 13
  · subst e13
    refine lv_tableIn (tgt := 711) (off := 678) hx hb dL_law_33 (by decide) (by decide) (by decide) (by decide) ?_
    exact lc_13 l E hKA hX hbl hbA hl hd hf0 X hw hk
  by_cases e14 : q = 14
  · subst e14
    refine lv_tableIn (tgt := 734) (off := 701) hx hb dL_law_33 (by decide) (by decide) (by decide) (by decide) ?_
    exact lc_14 l E hKA hX hbl hbA hl hd hf0 X hw hk
  by_cases e15 : q = 15
  · subst e15
    refine lv_tableIn (tgt := 757) (off := 724) hx hb dL_law_33 (by decide) (by decide) (by decide) (by decide) ?_
    exact lc_15 l E hKA hX hbl hbA hl hd hf0 X hw hk
  by_cases e16 : q = 16
  · subst e16
    refine lv_tableIn (tgt := 790) (off := 757) hx hb dL_law_33 (by decide) (by decide) (by decide) (by decide) ?_
    exact lc_16 l E hKA hX hbl hbA hl hd hf0 X hw hk
  by_cases e17 : q = 17
  · subst e17
    refine lv_tableIn (tgt := 813) (off := 780) hx hb dL_law_33 (by decide) (by decide) (by decide) (by decide) ?_
    exact lc_17 l E hKA hX hbl hbA hl hd hf0 X hw hk
  by_cases e18 : q = 18
  · subst e18
    refine lv_tableIn (tgt := 846) (off := 813) hx hb dL_law_33 (by decide) (by decide) (by decide) (by decide) ?_
    exact lc_18 l E hKA hX hbl hbA hl hd hf0 X hw hk
  by_cases e19 : q = 19
  · subst e19
    refine lv_tableIn (tgt := 869) (off := 836) hx hb dL_law_33 (by decide) (by decide) (by decide) (by decide) ?_
    exact lc_19 l E hKA hX hbl hbA hl hd hf0 X hw hk
  by_cases e20 : q = 20
  · subst e20
    refine lv_tableIn (tgt := 882) (off := 849) hx hb dL_law_33 (by decide) (by decide) (by decide) (by decide) ?_
    exact lc_20 l E hKA hX hbl hbA hl hd hf0 X hw hk
  by_cases e21 : q = 21
  · subst e21
    refine lv_tableIn (tgt := 895) (off := 862) hx hb dL_law_33 (by decide) (by decide) (by decide) (by decide) ?_
    exact lc_21 l E hKA hX hbl hbA hl hd hf0 X hw hk
  by_cases e22 : q = 22
  · subst e22
    refine lv_tableIn (tgt := 918) (off := 885) hx hb dL_law_33 (by decide) (by decide) (by decide) (by decide) ?_
    exact lc_22 l E hKA hX hbl hbA hl hd hf0 X hw hk
  by_cases e23 : q = 23
  · subst e23
    refine lv_tableIn (tgt := 941) (off := 908) hx hb dL_law_33 (by decide) (by decide) (by decide) (by decide) ?_
    exact lc_23 l E hKA hX hbl hbA hl hd hf0 X hw hk
  by_cases e24 : q = 24
  · subst e24
    refine lv_tableIn (tgt := 964) (off := 931) hx hb dL_law_33 (by decide) (by decide) (by decide) (by decide) ?_
    exact lc_24 l E hKA hX hbl hbA hl hd hf0 X hw hk
  by_cases e25 : q = 25
  · subst e25
    refine lv_tableIn (tgt := 987) (off := 954) hx hb dL_law_33 (by decide) (by decide) (by decide) (by decide) ?_
    exact lc_25 l E hKA hX hbl hbA hl hd hf0 X hw hk
  by_cases e26 : q = 26
  · subst e26
    refine lv_tableIn (tgt := 1010) (off := 977) hx hb dL_law_33 (by decide) (by decide) (by decide) (by decide) ?_
    exact lc_26 l E hKA hX hbl hbA hl hd hf0 X hw hk
  by_cases e27 : q = 27
  · subst e27
    refine lv_tableIn (tgt := 1033) (off := 1000) hx hb dL_law_33 (by decide) (by decide) (by decide) (by decide) ?_
    exact lc_27 l E hKA hX hbl hbA hl hd hf0 X hw hk
  by_cases e28 : q = 28
  · subst e28
    refine lv_tableIn (tgt := 1057) (off := 1024) hx hb dL_law_33 (by decide) (by decide) (by decide) (by decide) ?_
    exact lc_28 l E hKA hX hbl hbA hl hd hf0 X hw hk
  by_cases e29 : q = 29
  · subst e29
    refine lv_tableIn (tgt := 1080) (off := 1047) hx hb dL_law_33 (by decide) (by decide) (by decide) (by decide) ?_
    exact lc_29 l E hKA hX hbl hbA hl hd hf0 X hw hk
  by_cases e30 : q = 30
  · subst e30
    refine lv_tableIn (tgt := 1103) (off := 1070) hx hb dL_law_33 (by decide) (by decide) (by decide) (by decide) ?_
    exact lc_30 l E hKA hX hbl hbA hl hd hf0 X hw hk
  by_cases e31 : q = 31
  · subst e31
    refine lv_tableIn (tgt := 1126) (off := 1093) hx hb dL_law_33 (by decide) (by decide) (by decide) (by decide) ?_
    exact lc_31 l E hKA hX hbl hbA hl hd hf0 X hw hk
  by_cases e32 : q = 32
  · subst e32
    refine lv_tableIn (tgt := 1149) (off := 1116) hx hb dL_law_33 (by decide) (by decide) (by decide) (by decide) ?_
    exact lc_32 l E hKA hX hbl hbA hl hd hf0 X hw hk
  by_cases e33 : q = 33
  · subst e33
    refine lv_tableIn (tgt := 1172) (off := 1139) hx hb dL_law_33 (by decide) (by decide) (by decide) (by decide) ?_
    exact lc_33 l E hKA hX hbl hbA hl hd hf0 X hw hk
  by_cases e34 : q = 34
  · subst e34
    refine lv_tableIn (tgt := 1195) (off := 1162) hx hb dL_law_33 (by decide) (by decide) (by decide) (by decide) ?_
    exact lc_34 l E hKA hX hbl hbA hl hd hf0 X hw hk
  by_cases e35 : q = 35
  · subst e35
    refine lv_tableIn (tgt := 1218) (off := 1185) hx hb dL_law_33 (by decide) (by decide) (by decide) (by decide) ?_
    exact lc_35 l E hKA hX hbl hbA hl hd hf0 X hw hk
  by_cases e36 : q = 36
  · subst e36
    refine lv_tableIn (tgt := 1241) (off := 1208) hx hb dL_law_33 (by decide) (by decide) (by decide) (by decide) ?_
    exact lc_36 l E hKA hX hbl hbA hl hd hf0 X hw hk
  by_cases e37 : q = 37
  · subst e37
    refine lv_tableIn (tgt := 1264) (off := 1231) hx hb dL_law_33 (by decide) (by decide) (by decide) (by decide) ?_
    exact lc_37 l E hKA hX hbl hbA hl hd hf0 X hw hk
  by_cases e38 : q = 38
  · subst e38
    refine lv_tableIn (tgt := 1288) (off := 1255) hx hb dL_law_33 (by decide) (by decide) (by decide) (by decide) ?_
    exact lc_38 l E hKA hX hbl hbA hl hd hf0 X hw hk
  by_cases e39 : q = 39
  · subst e39
    refine lv_tableIn (tgt := 1311) (off := 1278) hx hb dL_law_33 (by decide) (by decide) (by decide) (by decide) ?_
    exact lc_39 l E hKA hX hbl hbA hl hd hf0 X hw hk
  by_cases e40 : q = 40
  · subst e40
    refine lv_tableIn (tgt := 1334) (off := 1301) hx hb dL_law_33 (by decide) (by decide) (by decide) (by decide) ?_
    exact lc_40 l E hKA hX hbl hbA hl hd hf0 X hw hk
  by_cases e41 : q = 41
  · subst e41
    refine lv_tableIn (tgt := 1357) (off := 1324) hx hb dL_law_33 (by decide) (by decide) (by decide) (by decide) ?_
    exact lc_41 l E hKA hX hbl hbA hl hd hf0 X hw hk
  by_cases e42 : q = 42
  · subst e42
    refine lv_tableIn (tgt := 1380) (off := 1347) hx hb dL_law_33 (by decide) (by decide) (by decide) (by decide) ?_
    exact lc_42 l E hKA hX hbl hbA hl hd hf0 X hw hk
  by_cases e43 : q = 43
  · subst e43
    refine lv_tableIn (tgt := 1393) (off := 1360) hx hb dL_law_33 (by decide) (by decide) (by decide) (by decide) ?_
    exact lc_43 l E hKA hX hbl hbA hl hd hf0 X hw hk
  by_cases e44 : q = 44
  · subst e44
    refine lv_tableIn (tgt := 1426) (off := 1393) hx hb dL_law_33 (by decide) (by decide) (by decide) (by decide) ?_
    exact lc_44 l E hKA hX hbl hbA hl hd hf0 X hw hk
  by_cases e45 : q = 45
  · subst e45
    refine lv_tableIn (tgt := 1449) (off := 1416) hx hb dL_law_33 (by decide) (by decide) (by decide) (by decide) ?_
    exact lc_45 l E hKA hX hbl hbA hl hd hf0 X hw hk
  by_cases e46 : q = 46
  · subst e46
    refine lv_tableIn (tgt := 1462) (off := 1429) hx hb dL_law_33 (by decide) (by decide) (by decide) (by decide) ?_
    exact lc_46 l E hKA hX hbl hbA hl hd hf0 X hw hk
  by_cases e47 : q = 47
  · subst e47
    refine lv_tableIn (tgt := 1475) (off := 1442) hx hb dL_law_33 (by decide) (by decide) (by decide) (by decide) ?_
    exact lc_47 l E hKA hX hbl hbA hl hd hf0 X hw hk
  by_cases e48 : q = 48
  · subst e48
    refine lv_tableIn (tgt := 1498) (off := 1465) hx hb dL_law_33 (by decide) (by decide) (by decide) (by decide) ?_
    exact lc_48 l E hKA hX hbl hbA hl hd hf0 X hw hk
  by_cases e49 : q = 49
  · subst e49
    refine lv_tableIn (tgt := 1521) (off := 1488) hx hb dL_law_33 (by decide) (by decide) (by decide) (by decide) ?_
    exact lc_49 l E hKA hX hbl hbA hl hd hf0 X hw hk
  by_cases e50 : q = 50
  · subst e50
    refine lv_tableIn (tgt := 1544) (off := 1511) hx hb dL_law_33 (by decide) (by decide) (by decide) (by decide) ?_
    exact lc_50 l E hKA hX hbl hbA hl hd hf0 X hw hk
  by_cases e51 : q = 51
  · subst e51
    refine lv_tableIn (tgt := 1567) (off := 1534) hx hb dL_law_33 (by decide) (by decide) (by decide) (by decide) ?_
    exact lc_51 l E hKA hX hbl hbA hl hd hf0 X hw hk
  by_cases e52 : q = 52
  · subst e52
    refine lv_tableIn (tgt := 1590) (off := 1557) hx hb dL_law_33 (by decide) (by decide) (by decide) (by decide) ?_
    exact lc_52 l E hKA hX hbl hbA hl hd hf0 X hw hk
  by_cases e53 : q = 53
  · subst e53
    refine lv_tableIn (tgt := 1613) (off := 1580) hx hb dL_law_33 (by decide) (by decide) (by decide) (by decide) ?_
    exact lc_53 l E hKA hX hbl hbA hl hd hf0 X hw hk
  by_cases e54 : q = 54
  · subst e54
    refine lv_tableIn (tgt := 1626) (off := 1593) hx hb dL_law_33 (by decide) (by decide) (by decide) (by decide) ?_
    exact lc_54 l E hKA hX hbl hbA hl hd hf0 X hw hk
  by_cases e55 : q = 55
  · subst e55
    refine lv_tableIn (tgt := 1639) (off := 1606) hx hb dL_law_33 (by decide) (by decide) (by decide) (by decide) ?_
    exact lc_55 l E hKA hX hbl hbA hl hd hf0 X hw hk
  by_cases e56 : q = 56
  · subst e56
    refine lv_tableIn (tgt := 1652) (off := 1619) hx hb dL_law_33 (by decide) (by decide) (by decide) (by decide) ?_
    exact lc_56 l E hKA hX hbl hbA hl hd hf0 X hw hk
  by_cases e57 : q = 57
  · subst e57
    refine lv_tableIn (tgt := 1665) (off := 1632) hx hb dL_law_33 (by decide) (by decide) (by decide) (by decide) ?_
    exact lc_57 l E hKA hX hbl hbA hl hd hf0 X hw hk
  by_cases e58 : q = 58
  · subst e58
    refine lv_tableIn (tgt := 1688) (off := 1655) hx hb dL_law_33 (by decide) (by decide) (by decide) (by decide) ?_
    exact lc_58 l E hKA hX hbl hbA hl hd hf0 X hw hk
  refine lv_tableOut (tgt := 1711) hx hb dL_law_33 (Or.inr (by rw [z_nI (by omega)]; omega)) (by decide) ?_
  exact W.widen (Nat.le_add_right _ _) (Nat.le_add_right _ _) (hk _ _ _ _ _ _ _ _ _ _ X hw)
/-- all rounds -/
theorem law_loop (l : Launch) (E : Ev p cL_law 4 ret RL lw_tbl D cA tS (fun q : Nat => s.heap.size ≤ q) s m #[Value.ref b] meth c) (hKA : KA cA s) (hX : va_X b L xs s s.heap) (hbl : b < s.heap.size) (hL : L ≤ 3584) : ∀ (n j : Nat), 7 * j ≤ L → L < 7 * (j + n) → ∀ (σ τ κ μ : Sg) (wd : Int64) (f : Nat → Option Nat) (V0 V1 : va_W) (H : Heap) (locs : List Loc), LX cA σ τ κ μ f V0 V1 → Wd D (fun q : Nat => s.heap.size ≤ q) (wQ cA h t z y ax sv σ τ κ μ wd f V0 V1) s.heap H locs → ∀ ls : Array Slot, lv_has ls 4 [(3, .int (nI (7 * j))), (2, .ref (y 0)), (1, .ref ax), (0, .ref b)] →
    W p l e room_1 s m #[Value.ref b] below meth c H locs (126 + 40 * j) (25381 + 4540 * j) (lw_Z below #[Value.ref b] s) (F0 m 18 ls [])
  | 0, j, h1, h2, σ, τ, κ, μ, wd, f, V0, V1, H, locs, X, hw, ls, hl => absurd h2 (by omega)
  | n + 1, j, h1, h2, σ, τ, κ, μ, wd, f, V0, V1, H, locs, X, hw, ls, hl => by
    have hx := E.1.1
    have hb := E.1.2.1
    have hbA : ¬ (fun q : Nat => s.heap.size ≤ q) b := Nat.not_le.mpr hbl
    refine lv_iload_n hx hb dL_law_18 rfl (lv_at hl 0 rfl) ?_
    refine lv_aload_n hx hb dL_law_19 rfl (lv_at hl 3 rfl) ?_
    refine va_slen hx hb hX hbl hbA hw.2.2 dL_law_20 ?_
    refine lv_bipush (v := 7) hx hb dL_law_21 (by decide) ?_
    refine lv_isub hx hb dL_law_23 ?_
    have i7 : (7 : Int32).toInt = 7 := by decide
    have zL : (Int32.ofNat L - 7 : Int32).toInt = (L : Int) - 7 := by
      have zn : (nI L).toInt = (L : Int) := z_nI (by omega)
      show (nI L - 7 : Int32).toInt = _
      rw [z_sub (by omega) (by omega) (by omega) (by omega), zn, i7]
    refine lv_icmp_gt (tgt := 1717) hx hb dL_law_24 (by decide) (fun c1 => ?_) (fun c1 => ?_)
    · refine lv_iconst (v := 1) hx hb dL_law_1717 (by decide) ?_
      refine va_forget (fun q hq => hw.2.2.2.2 q hq) ?_
      refine W.widen (k := 600000) (n := 7302249) (by omega) (by omega) ?_
      exact lw_ret hx hb E.2.1 E.2.2.1 dL_law_1718
    · have c2 : 7 * j + 7 ≤ L := by
        have q := z_le.mp (Int32.not_lt.mp c1)
        rw [zL, z_nI (by omega)] at q
        omega
      refine lv_aload_n hx hb dL_law_27 rfl (lv_at hl 3 rfl) ?_
      refine lv_iload_n hx hb dL_law_28 rfl (lv_at hl 0 rfl) ?_
      refine va_sld hx hb hX hbl hbA hw.2.2 (vp_in_nI (by omega) (by omega)) dL_law_29 ?_
      refine lv_bipush (v := 63) hx hb dL_law_30 (by decide) ?_
      refine lv_iand hx hb dL_law_32 ?_
      obtain ⟨q, hq, eq⟩ := and63 (xs (nI (7 * j)).toNatClampNeg)
      rw [eq]
      refine law_case l E hKA hX hbl hbA hl (fun k hk => by rw [nI_add]; exact vp_in_nI (by omega) (by omega)) ⟨by omega, by omega⟩ X hw (fun σ' τ' κ' μ' wd' f' V0' V1' H1 locs1 X' hw' => ?_) q hq
      refine lv_iinc (v := nI (7 * (j + 1))) (lv' := [(3, .int (nI (7 * (j + 1)))), (2, .ref (y 0)), (1, .ref ax), (0, .ref b)]) hx hb dL_law_1711 hl (k := 0) rfl (nI_add (7 * j) 7) (by decide) rfl (fun ls hl => ?_)
      refine lv_goto (tgt := 18) hx hb dL_law_1714 (by decide) ?_
      have e1 : 126 + 40 * j + 40 = 126 + 40 * (j + 1) := by omega
      have e2 : 25381 + 4540 * j + 4540 = 25381 + 4540 * (j + 1) := by omega
      rw [e1, e2]
      exact law_loop l E hKA hX hbl hL n (j + 1) (by omega) (by omega) σ' τ' κ' μ' wd' f' V0' V1' H1 locs1 X' hw' ls hl
end HLL
