/-! the law's cases: save and restore -/
theorem wAll_app {cA : Nat → ClassId} {g : Nat → Nat} {ρ : Sg} {R : va_W} : wAll cA g ρ ++ R = wK cA g ρ ++ (wLg cA g ρ 600 ++ (wC cA g ρ ++ (wH cA g ρ ++ (wS g ++ R)))) := by
  unfold wAll
  simp only [List.append_assoc]
theorem svp (a t X Y : va_W) (c : Nat × va_E) : (a ++ (t ++ (c :: (X ++ Y)))).Perm (X ++ (a ++ (c :: (t ++ Y)))) := by
  have h1 : (t ++ (([c] ++ X) ++ Y)).Perm (([c] ++ X) ++ (t ++ Y)) := pmS _ _ _
  have h2 : ([c] ++ (X ++ (t ++ Y))).Perm (X ++ ([c] ++ (t ++ Y))) := pmS _ _ _
  have h3 : (t ++ (c :: (X ++ Y))).Perm (X ++ (c :: (t ++ Y))) := by
    have e1 : t ++ (c :: (X ++ Y)) = t ++ (([c] ++ X) ++ Y) := by simp
    have e2 : ([c] ++ X) ++ (t ++ Y) = [c] ++ (X ++ (t ++ Y)) := by simp
    rw [e1]
    rw [e2] at h1
    exact h1.trans h2
  exact (List.Perm.append_left a h3).trans (pmS _ _ _)
section HSP
variable {cA : Nat → ClassId} {h t z y : Nat → Nat} {ax sv : Nat} {σ τ κ μ : Sg} {wd : Int64} {c : Nat × va_E} {X Y R : va_W}
theorem sv_perm : (wP cA h t z ax sv σ τ κ ++ (wM cA y μ wd ++ (c :: (X ++ Y)))).Perm (X ++ (wK cA h σ ++ (wLg cA h σ 600 ++ (wC cA h σ ++ (wH cA h σ ++ (wS h ++ (wX ax (h 46) sv (t 42) (z 60) ++ (c :: (wK cA t τ ++ (wLg cA t τ 0 ++ (wC cA t τ ++ (wSc cA z κ ++ (wR cA z κ ++ (wM cA y μ wd ++ Y)))))))))))))) := by
  have e1 : wP cA h t z ax sv σ τ κ ++ (wM cA y μ wd ++ (c :: (X ++ Y))) = (wK cA h σ ++ (wLg cA h σ 600 ++ (wC cA h σ ++ (wH cA h σ ++ (wS h ++ wX ax (h 46) sv (t 42) (z 60)))))) ++ ((wK cA t τ ++ (wLg cA t τ 0 ++ (wC cA t τ ++ (wSc cA z κ ++ (wR cA z κ ++ wM cA y μ wd))))) ++ (c :: (X ++ Y))) := by
    unfold wP
    simp only [List.append_assoc]
  have e2 : wK cA h σ ++ (wLg cA h σ 600 ++ (wC cA h σ ++ (wH cA h σ ++ (wS h ++ (wX ax (h 46) sv (t 42) (z 60) ++ (c :: (wK cA t τ ++ (wLg cA t τ 0 ++ (wC cA t τ ++ (wSc cA z κ ++ (wR cA z κ ++ (wM cA y μ wd ++ Y)))))))))))) = (wK cA h σ ++ (wLg cA h σ 600 ++ (wC cA h σ ++ (wH cA h σ ++ (wS h ++ wX ax (h 46) sv (t 42) (z 60)))))) ++ (c :: ((wK cA t τ ++ (wLg cA t τ 0 ++ (wC cA t τ ++ (wSc cA z κ ++ (wR cA z κ ++ wM cA y μ wd))))) ++ Y)) := by
    simp only [List.append_assoc]
  rw [e1, e2]
  exact svp _ _ _ _ _
theorem rs_perm : (X ++ (wK cA h σ ++ (wLg cA h σ 600 ++ (wC cA h σ ++ (wH cA h σ ++ (wS h ++ R)))))).Perm (wK cA h σ ++ (wLg cA h σ 600 ++ (wC cA h σ ++ (wH cA h σ ++ (wS h ++ (X ++ R)))))) := by
  have e1 : ∀ Z : va_W, wK cA h σ ++ (wLg cA h σ 600 ++ (wC cA h σ ++ (wH cA h σ ++ (wS h ++ Z)))) = (wK cA h σ ++ (wLg cA h σ 600 ++ (wC cA h σ ++ (wH cA h σ ++ wS h)))) ++ Z := fun Z => by simp only [List.append_assoc]
  rw [e1, e1]
  exact pmS _ _ _
end HSP
section HLC
variable {p : Program} {e : Env} {s : State} {m : MethodId} {below : List Frame} {meth : Method} {c : Code} {H : Heap} {locs : List Loc} {cells slots : Nat} {Q : State → Prop}
variable {D : va_G} {cA : Nat → ClassId} {tS : Nat → Nat} {A : Nat → Prop} {ls : Array Slot} {b L ax sv : Nat} {xs : Nat → Int32} {x3 : Int32}
variable {h t z y : Nat → Nat} {σ τ κ μ : Sg} {wd : Int64} {f : Nat → Option Nat} {V0 V1 : va_W}
variable {yy : MethodName} {wsc ws' : List Cond} {bytes : ByteArray} {maxL fr mc ms lo index nL pc : Nat} {retc ret1 : Option FieldType} {As rest st0 : List Value} {v : Value} {R : Room} {args : Array Value} {cc : ByteArray} {own : String} {Ts : List Cond} {post : va_W → Prop} {w : va_W} {l : Launch}
theorem lx_cX {lv : List (Nat × Value)} {b1 : Nat} {C1 : String} (E : Ev p cc nL ret1 own Ts D cA tS A s m args meth c) (hK : KA cA s) (hw : Wd D A w s.heap H locs) (hl : lv_has ls nL lv) (hC : CX l yy wsc fr mc ms lo D cA tS A (.ref b1 :: As) w (some v) post) (n : Nat) (hG : GoodIn Ts (wsV own index C1 yy wsc)) (hws : wsc = Cond.code yy bytes maxL retc :: ws')
    (hd : yy.cls = C1 ∧ yy.cls ≠ "java/lang/invoke/MethodHandle" ∧ yy.cls ≠ "java/lang/invoke/VarHandle" ∧ (parseMethodDescriptor yy.desc).map (fun d => d.parameters.length) = some n) (hR : fr + 1 ≤ R.frames ∧ 8 + (maxL + 11) + lo ≤ R.locals)
    (q0 ci : Nat) {T : u_T} {N : Nat} {fs : List Value} (hc : vwCl[ci]? = some (C1, T, N)) (he : w[q0]? = some (b1, .inr (ci, fs))) (hn : As.length = n) (hst : st0 = As.reverse ++ .ref b1 :: rest) (hW : (rest.map fun v => v.category).sum ≤ 8) (hf : cells + mc ≤ R.cells ∧ slots + ms ≤ R.slots) (hdg : decode cc pc = .ok (.invokevirtual index, 3))
    (kk : ∀ (H1 : Heap) (locs1 : List Loc) (w0 : va_W), post w0 → Wd D A w0 s.heap H1 locs1 → W p l e R s m args below meth c H1 locs1 (cells + mc) (slots + ms) Q (F0 m (pc + 3) ls (v :: rest))) : W p l e R s m args below meth c H locs cells slots Q (F0 m pc ls st0) :=
  q_callXi (va_runV E.1 hC (cwV n E.1.2.2.2.2 hG hws rfl rfl hd hR) ⟨q_blindX, va_recv E.2.2.2.2.1 hw.1 hc he, fun U hU hW => ⟨rfl, q_pw E hw hU hW, hK.moved hW.alike⟩⟩ rfl hn hl.1 hst (lv_room (pc := pc) (ls := ls) (rest := st0) hW) hdg hf) hw kk
theorem lc_57b (l : Launch) (E : Ev p cL_law 4 ret RL lw_tbl D cA tS A s m #[Value.ref b] meth c) (hKA : KA cA s) (hX : va_X b L xs s s.heap) (hbl : b < s.heap.size) (hbA : ¬ A b) (hl : lv_has ls 4 [(3, .int x3), (2, .ref (y 0)), (1, .ref ax), (0, .ref b)]) (hd : ∀ k : Nat, k ≤ 6 → vp_in (x3 + nI k) L) (hf0 : cells + 40 ≤ 600000 ∧ slots + 4540 ≤ 7302249) (X : LX cA σ τ κ μ f V0 V1) (hw : Wd D A (wQ cA h t z y ax sv σ τ κ μ wd f V0 V1) s.heap H locs)
    (hk : ∀ (σ' τ' κ' μ' : Sg) (wd' : Int64) (f' : Nat → Option Nat) (V0' V1' : va_W) (H1 : Heap) (locs1 : List Loc), LX cA σ' τ' κ' μ' f' V0' V1' → Wd D A (wQ cA h t z y ax sv σ' τ' κ' μ' wd' f' V0' V1') s.heap H1 locs1 → W p l e room_1 s m #[Value.ref b] below meth c H1 locs1 (cells + 40) (slots + 4540) Q (F0 m 1711 ls [])) (hz : ¬ (0 ≤ (xs (x3 + 1).toNatClampNeg) ∧ (xs (x3 + 1).toNatClampNeg) ≤ 1)) :
    W p l e room_1 s m #[Value.ref b] below meth c H locs cells slots Q (F0 m 1665 ls []) := by
  have hx := E.1.1
  have hb := E.1.2.1
  have hf1 : cells ≤ room_1.cells ∧ slots ≤ room_1.slots := ⟨by show cells ≤ 600000; omega, by show slots ≤ 7302249; omega⟩
  have hf2 : cells + 40 ≤ room_1.cells ∧ slots + 4540 ≤ room_1.slots := hf0
  unfold wQ at hw
  refine lv_aload_n hx hb dL_law_1665 rfl (lv_at hl 2 rfl) ?_
  refine lv_aload_n hx hb dL_law_1666 rfl (lv_at hl 3 rfl) ?_
  refine lv_iload_n hx hb dL_law_1667 rfl (lv_at hl 0 rfl) ?_
  refine lv_iconst (v := 1) hx hb dL_law_1668 (by decide) ?_
  refine lv_iadd hx hb dL_law_1669 ?_
  refine va_sld hx hb hX hbl hbA hw.2.2 (hd 1 (by decide)) dL_law_1670 ?_
  rw [wP_app] at hw
  refine lx_cX (As := [.int (xs (x3 + 1).toNatClampNeg)]) (rest := []) E hKA hw hl (c_X8_save_bad l D cA tS A h ax sv (t 42) (z 60) _ σ (xs (x3 + 1).toNatClampNeg) (ws_no hz)) 1 (bwV bw_l tb_1117 tb_1118 tb_1119 tb_99 tb_1120) rfl (by decide +kernel) ⟨(Nat.le_of_ble_eq_true rfl), (Nat.le_of_ble_eq_true rfl)⟩ 40 8 (T := TX8) (N := 4) rfl rfl rfl rfl (Nat.le_of_ble_eq_true rfl) hf2 dL_law_1671 (fun H locs w0 hp hw => ?_)
  subst hp
  rw [← wP_app] at hw
  refine lv_aload_n hx hb dL_law_1674 rfl (lv_at hl 1 rfl) ?_
  refine lv_aload_n hx hb dL_law_1675 rfl (lv_at hl 3 rfl) ?_
  refine lv_iload_n hx hb dL_law_1676 rfl (lv_at hl 0 rfl) ?_
  refine lv_iconst (v := 1) hx hb dL_law_1677 (by decide) ?_
  refine lv_iadd hx hb dL_law_1678 ?_
  refine va_sld hx hb hX hbl hbA hw.2.2 (hd 1 (by decide)) dL_law_1679 ?_
  refine lm_cv (As := [.int (xs (x3 + 1).toNatClampNeg)]) (rest := [.int 0]) (μ' := μ) (wd' := wd) E hw hl (c_X9_save l D cA tS A y _ NN (xs (x3 + 1).toNatClampNeg) μ wd 0 μ (save_bad μ hz wd NN).1) 1 (bwV bw_l tb_1687 tb_1688 tb_1689 tb_111 tb_1690) rfl (by decide +kernel) ⟨(Nat.le_of_ble_eq_true rfl), (Nat.le_of_ble_eq_true rfl)⟩ rfl rfl (Nat.le_of_ble_eq_true rfl) hf2 dL_law_1680 (fun H locs hw => ?_)
  refine lv_icmp_eq (tgt := 1711) hx hb dL_law_1683 (by decide) (fun _ => ?_) (fun q => absurd rfl q)
  exact hk _ _ _ _ _ _ _ _ _ _ X hw
theorem lc_58b (l : Launch) (E : Ev p cL_law 4 ret RL lw_tbl D cA tS A s m #[Value.ref b] meth c) (hKA : KA cA s) (hX : va_X b L xs s s.heap) (hbl : b < s.heap.size) (hbA : ¬ A b) (hl : lv_has ls 4 [(3, .int x3), (2, .ref (y 0)), (1, .ref ax), (0, .ref b)]) (hd : ∀ k : Nat, k ≤ 6 → vp_in (x3 + nI k) L) (hf0 : cells + 40 ≤ 600000 ∧ slots + 4540 ≤ 7302249) (X : LX cA σ τ κ μ f V0 V1) (hw : Wd D A (wQ cA h t z y ax sv σ τ κ μ wd f V0 V1) s.heap H locs)
    (hk : ∀ (σ' τ' κ' μ' : Sg) (wd' : Int64) (f' : Nat → Option Nat) (V0' V1' : va_W) (H1 : Heap) (locs1 : List Loc), LX cA σ' τ' κ' μ' f' V0' V1' → Wd D A (wQ cA h t z y ax sv σ' τ' κ' μ' wd' f' V0' V1') s.heap H1 locs1 → W p l e room_1 s m #[Value.ref b] below meth c H1 locs1 (cells + 40) (slots + 4540) Q (F0 m 1711 ls [])) (hz : ¬ (0 ≤ (xs (x3 + 1).toNatClampNeg) ∧ (xs (x3 + 1).toNatClampNeg) ≤ 1)) :
    W p l e room_1 s m #[Value.ref b] below meth c H locs cells slots Q (F0 m 1688 ls []) := by
  have hx := E.1.1
  have hb := E.1.2.1
  have hf1 : cells ≤ room_1.cells ∧ slots ≤ room_1.slots := ⟨by show cells ≤ 600000; omega, by show slots ≤ 7302249; omega⟩
  have hf2 : cells + 40 ≤ room_1.cells ∧ slots + 4540 ≤ room_1.slots := hf0
  unfold wQ at hw
  refine lv_aload_n hx hb dL_law_1688 rfl (lv_at hl 2 rfl) ?_
  refine lv_aload_n hx hb dL_law_1689 rfl (lv_at hl 3 rfl) ?_
  refine lv_iload_n hx hb dL_law_1690 rfl (lv_at hl 0 rfl) ?_
  refine lv_iconst (v := 1) hx hb dL_law_1691 (by decide) ?_
  refine lv_iadd hx hb dL_law_1692 ?_
  refine va_sld hx hb hX hbl hbA hw.2.2 (hd 1 (by decide)) dL_law_1693 ?_
  rw [wP_app] at hw
  refine q_cv (As := [.int (xs (x3 + 1).toNatClampNeg)]) (rest := []) E hw hl (c_X8_restore_bad l D cA tS A h ax sv (t 42) (z 60) _ σ (xs (x3 + 1).toNatClampNeg) (ws_no hz)) 1 (bwV bw_l tb_1131 tb_1132 tb_1133 tb_99 tb_1134) rfl (by decide +kernel) ⟨(Nat.le_of_ble_eq_true rfl), (Nat.le_of_ble_eq_true rfl)⟩ 40 8 (T := TX8) (N := 4) rfl rfl rfl rfl (Nat.le_of_ble_eq_true rfl) hf1 dL_law_1694 (fun H locs hw => ?_)
  rw [← wP_app] at hw
  refine lv_aload_n hx hb dL_law_1697 rfl (lv_at hl 1 rfl) ?_
  refine lv_aload_n hx hb dL_law_1698 rfl (lv_at hl 3 rfl) ?_
  refine lv_iload_n hx hb dL_law_1699 rfl (lv_at hl 0 rfl) ?_
  refine lv_iconst (v := 1) hx hb dL_law_1700 (by decide) ?_
  refine lv_iadd hx hb dL_law_1701 ?_
  refine va_sld hx hb hX hbl hbA hw.2.2 (hd 1 (by decide)) dL_law_1702 ?_
  refine lm_cv (As := [.int (xs (x3 + 1).toNatClampNeg)]) (rest := [.int 0]) (μ' := μ) (wd' := wd) E hw hl (c_X9_restore l D cA tS A y _ NN (xs (x3 + 1).toNatClampNeg) μ wd 0 μ (save_bad μ hz wd NN).2) 1 (bwV bw_l tb_1691 tb_1692 tb_1693 tb_111 tb_1694) rfl (by decide +kernel) ⟨(Nat.le_of_ble_eq_true rfl), (Nat.le_of_ble_eq_true rfl)⟩ rfl rfl (Nat.le_of_ble_eq_true rfl) hf1 dL_law_1703 (fun H locs hw => ?_)
  refine lv_icmp_eq (tgt := 1711) hx hb dL_law_1706 (by decide) (fun _ => ?_) (fun q => absurd rfl q)
  exact W.widen (Nat.le_add_right _ _) (Nat.le_add_right _ _) (hk _ _ _ _ _ _ _ _ _ _ X hw)
theorem lc_57n0 (l : Launch) (E : Ev p cL_law 4 ret RL lw_tbl D cA tS A s m #[Value.ref b] meth c) (hKA : KA cA s) (hX : va_X b L xs s s.heap) (hbl : b < s.heap.size) (hbA : ¬ A b) (hl : lv_has ls 4 [(3, .int x3), (2, .ref (y 0)), (1, .ref ax), (0, .ref b)]) (hd : ∀ k : Nat, k ≤ 6 → vp_in (x3 + nI k) L) (hf0 : cells + 40 ≤ 600000 ∧ slots + 4540 ≤ 7302249) (X : LX cA σ τ κ μ f V0 V1) (hw : Wd D A (wQ cA h t z y ax sv σ τ κ μ wd f V0 V1) s.heap H locs)
    (hk : ∀ (σ' τ' κ' μ' : Sg) (wd' : Int64) (f' : Nat → Option Nat) (V0' V1' : va_W) (H1 : Heap) (locs1 : List Loc), LX cA σ' τ' κ' μ' f' V0' V1' → Wd D A (wQ cA h t z y ax sv σ' τ' κ' μ' wd' f' V0' V1') s.heap H1 locs1 → W p l e room_1 s m #[Value.ref b] below meth c H1 locs1 (cells + 40) (slots + 4540) Q (F0 m 1711 ls [])) (ha : (xs (x3 + 1).toNatClampNeg) = nI 0) (hfn : f 0 = none) (hV : V0 = []) :
    W p l e room_1 s m #[Value.ref b] below meth c H locs cells slots Q (F0 m 1665 ls []) := by
  have hx := E.1.1
  have hb := E.1.2.1
  have hf1 : cells ≤ room_1.cells ∧ slots ≤ room_1.slots := ⟨by show cells ≤ 600000; omega, by show slots ≤ 7302249; omega⟩
  have hf2 : cells + 40 ≤ room_1.cells ∧ slots + 4540 ≤ room_1.slots := hf0
  unfold wQ at hw
  obtain ⟨p0, μ1, h1, h2, X1⟩ := L_save (s := 0) (by decide) X wd sBg
  subst hV
  refine lv_aload_n hx hb dL_law_1665 rfl (lv_at hl 2 rfl) ?_
  refine lv_aload_n hx hb dL_law_1666 rfl (lv_at hl 3 rfl) ?_
  refine lv_iload_n hx hb dL_law_1667 rfl (lv_at hl 0 rfl) ?_
  refine lv_iconst (v := 1) hx hb dL_law_1668 (by decide) ?_
  refine lv_iadd hx hb dL_law_1669 ?_
  refine va_sld hx hb hX hbl hbA hw.2.2 (hd 1 (by decide)) dL_law_1670 ?_
  rw [ha]
  replace hw := hw.perm sv_perm
  refine lx_cX (As := [.int (nI 0)]) (rest := []) E hKA hw hl (c_X8_save_new l D cA tS A h ax sv (t 42) (z 60) (wK cA t τ ++ (wLg cA t τ 0 ++ (wC cA t τ ++ (wSc cA z κ ++ (wR cA z κ ++ (wM cA y μ wd ++ V1)))))) σ NN f 0 (by decide) hfn p0 h1) 1 (bwV bw_l tb_1117 tb_1118 tb_1119 tb_99 tb_1120) rfl (by decide +kernel) ⟨(Nat.le_of_ble_eq_true rfl), (Nat.le_of_ble_eq_true rfl)⟩ 40 8 (T := TX8) (N := 4) rfl rfl rfl rfl (Nat.le_of_ble_eq_true rfl) hf2 dL_law_1671 (fun H locs w0 hp hw => ?_)
  obtain ⟨g, rfl⟩ := hp
  rw [← wAll_app] at hw
  replace hw : Wd D A (wP cA h t z ax sv σ τ κ ++ (wM cA y μ wd ++ (svc cA sv (va_up f 0 (some (g 46))) :: (wAll cA g p0 ++ V1)))) s.heap H locs := hw.perm sv_perm.symm
  replace X1 := X1 g (va_up f 0 (some (g 46))) (if_pos rfl) (fun j hj => if_neg hj)
  rw [if_pos rfl, if_neg (by decide)] at X1
  refine lv_aload_n hx hb dL_law_1674 rfl (lv_at hl 1 rfl) ?_
  refine lv_aload_n hx hb dL_law_1675 rfl (lv_at hl 3 rfl) ?_
  refine lv_iload_n hx hb dL_law_1676 rfl (lv_at hl 0 rfl) ?_
  refine lv_iconst (v := 1) hx hb dL_law_1677 (by decide) ?_
  refine lv_iadd hx hb dL_law_1678 ?_
  refine va_sld hx hb hX hbl hbA hw.2.2 (hd 1 (by decide)) dL_law_1679 ?_
  rw [ha]
  refine lm_cv (As := [.int (nI 0)]) (rest := [.int 1]) (μ' := μ1) (wd' := wd) E hw hl (c_X9_save l D cA tS A y _ NN (nI 0) μ wd 1 μ1 h2) 1 (bwV bw_l tb_1687 tb_1688 tb_1689 tb_111 tb_1690) rfl (by decide +kernel) ⟨(Nat.le_of_ble_eq_true rfl), (Nat.le_of_ble_eq_true rfl)⟩ rfl rfl (Nat.le_of_ble_eq_true rfl) hf2 dL_law_1680 (fun H locs hw => ?_)
  refine lv_icmp_eq (tgt := 1711) hx hb dL_law_1683 (by decide) (fun _ => ?_) (fun q => absurd rfl q)
  exact hk _ _ _ _ _ _ _ _ _ _ X1 hw
theorem lc_57o0 (l : Launch) (E : Ev p cL_law 4 ret RL lw_tbl D cA tS A s m #[Value.ref b] meth c) (hKA : KA cA s) (hX : va_X b L xs s s.heap) (hbl : b < s.heap.size) (hbA : ¬ A b) (hl : lv_has ls 4 [(3, .int x3), (2, .ref (y 0)), (1, .ref ax), (0, .ref b)]) (hd : ∀ k : Nat, k ≤ 6 → vp_in (x3 + nI k) L) (hf0 : cells + 40 ≤ 600000 ∧ slots + 4540 ≤ 7302249) (X : LX cA σ τ κ μ f V0 V1) (hw : Wd D A (wQ cA h t z y ax sv σ τ κ μ wd f V0 V1) s.heap H locs)
    (hk : ∀ (σ' τ' κ' μ' : Sg) (wd' : Int64) (f' : Nat → Option Nat) (V0' V1' : va_W) (H1 : Heap) (locs1 : List Loc), LX cA σ' τ' κ' μ' f' V0' V1' → Wd D A (wQ cA h t z y ax sv σ' τ' κ' μ' wd' f' V0' V1') s.heap H1 locs1 → W p l e room_1 s m #[Value.ref b] below meth c H1 locs1 (cells + 40) (slots + 4540) Q (F0 m 1711 ls [])) (ha : (xs (x3 + 1).toNatClampNeg) = nI 0) (g : Nat → Nat) (ρ : Sg) (hfs : f 0 = some (g 46)) (hV : V0 = wAll cA g ρ) :
    W p l e room_1 s m #[Value.ref b] below meth c H locs cells slots Q (F0 m 1665 ls []) := by
  have hx := E.1.1
  have hb := E.1.2.1
  have hf1 : cells ≤ room_1.cells ∧ slots ≤ room_1.slots := ⟨by show cells ≤ 600000; omega, by show slots ≤ 7302249; omega⟩
  have hf2 : cells + 40 ≤ room_1.cells ∧ slots + 4540 ≤ room_1.slots := hf0
  unfold wQ at hw
  obtain ⟨p0, μ1, h1, h2, X1⟩ := L_save (s := 0) (by decide) X wd ρ
  subst hV
  refine lv_aload_n hx hb dL_law_1665 rfl (lv_at hl 2 rfl) ?_
  refine lv_aload_n hx hb dL_law_1666 rfl (lv_at hl 3 rfl) ?_
  refine lv_iload_n hx hb dL_law_1667 rfl (lv_at hl 0 rfl) ?_
  refine lv_iconst (v := 1) hx hb dL_law_1668 (by decide) ?_
  refine lv_iadd hx hb dL_law_1669 ?_
  refine va_sld hx hb hX hbl hbA hw.2.2 (hd 1 (by decide)) dL_law_1670 ?_
  rw [ha]
  replace hw := hw.perm sv_perm
  rw [wAll_app] at hw
  refine lx_cX (As := [.int (nI 0)]) (rest := []) E hKA hw hl (c_X8_save_old l D cA tS A h ax sv (t 42) (z 60) (wK cA t τ ++ (wLg cA t τ 0 ++ (wC cA t τ ++ (wSc cA z κ ++ (wR cA z κ ++ (wM cA y μ wd ++ V1)))))) σ NN f 0 (by decide) g ρ hfs p0 h1) 1 (bwV bw_l tb_1117 tb_1118 tb_1119 tb_99 tb_1120) rfl (by decide +kernel) ⟨(Nat.le_of_ble_eq_true rfl), (Nat.le_of_ble_eq_true rfl)⟩ 80 8 (T := TX8) (N := 4) rfl rfl rfl rfl (Nat.le_of_ble_eq_true rfl) hf2 dL_law_1671 (fun H locs w0 hp hw => ?_)
  subst hp
  rw [← wAll_app] at hw
  replace hw : Wd D A (wP cA h t z ax sv σ τ κ ++ (wM cA y μ wd ++ (svc cA sv f :: (wAll cA g p0 ++ V1)))) s.heap H locs := hw.perm sv_perm.symm
  replace X1 := X1 g f hfs (fun j hj => rfl)
  rw [if_pos rfl, if_neg (by decide)] at X1
  refine lv_aload_n hx hb dL_law_1674 rfl (lv_at hl 1 rfl) ?_
  refine lv_aload_n hx hb dL_law_1675 rfl (lv_at hl 3 rfl) ?_
  refine lv_iload_n hx hb dL_law_1676 rfl (lv_at hl 0 rfl) ?_
  refine lv_iconst (v := 1) hx hb dL_law_1677 (by decide) ?_
  refine lv_iadd hx hb dL_law_1678 ?_
  refine va_sld hx hb hX hbl hbA hw.2.2 (hd 1 (by decide)) dL_law_1679 ?_
  rw [ha]
  refine lm_cv (As := [.int (nI 0)]) (rest := [.int 1]) (μ' := μ1) (wd' := wd) E hw hl (c_X9_save l D cA tS A y _ NN (nI 0) μ wd 1 μ1 h2) 1 (bwV bw_l tb_1687 tb_1688 tb_1689 tb_111 tb_1690) rfl (by decide +kernel) ⟨(Nat.le_of_ble_eq_true rfl), (Nat.le_of_ble_eq_true rfl)⟩ rfl rfl (Nat.le_of_ble_eq_true rfl) hf2 dL_law_1680 (fun H locs hw => ?_)
  refine lv_icmp_eq (tgt := 1711) hx hb dL_law_1683 (by decide) (fun _ => ?_) (fun q => absurd rfl q)
  exact hk _ _ _ _ _ _ _ _ _ _ X1 hw
theorem lc_58n0 (l : Launch) (E : Ev p cL_law 4 ret RL lw_tbl D cA tS A s m #[Value.ref b] meth c) (hKA : KA cA s) (hX : va_X b L xs s s.heap) (hbl : b < s.heap.size) (hbA : ¬ A b) (hl : lv_has ls 4 [(3, .int x3), (2, .ref (y 0)), (1, .ref ax), (0, .ref b)]) (hd : ∀ k : Nat, k ≤ 6 → vp_in (x3 + nI k) L) (hf0 : cells + 40 ≤ 600000 ∧ slots + 4540 ≤ 7302249) (X : LX cA σ τ κ μ f V0 V1) (hw : Wd D A (wQ cA h t z y ax sv σ τ κ μ wd f V0 V1) s.heap H locs)
    (hk : ∀ (σ' τ' κ' μ' : Sg) (wd' : Int64) (f' : Nat → Option Nat) (V0' V1' : va_W) (H1 : Heap) (locs1 : List Loc), LX cA σ' τ' κ' μ' f' V0' V1' → Wd D A (wQ cA h t z y ax sv σ' τ' κ' μ' wd' f' V0' V1') s.heap H1 locs1 → W p l e room_1 s m #[Value.ref b] below meth c H1 locs1 (cells + 40) (slots + 4540) Q (F0 m 1711 ls [])) (ha : (xs (x3 + 1).toNatClampNeg) = nI 0) (hfn : f 0 = none) (hV : V0 = []) (h4 : μ 4 0 = 0) :
    W p l e room_1 s m #[Value.ref b] below meth c H locs cells slots Q (F0 m 1688 ls []) := by
  have hx := E.1.1
  have hb := E.1.2.1
  have hf1 : cells ≤ room_1.cells ∧ slots ≤ room_1.slots := ⟨by show cells ≤ 600000; omega, by show slots ≤ 7302249; omega⟩
  have hf2 : cells + 40 ≤ room_1.cells ∧ slots + 4540 ≤ room_1.slots := hf0
  unfold wQ at hw
  subst hV
  refine lv_aload_n hx hb dL_law_1688 rfl (lv_at hl 2 rfl) ?_
  refine lv_aload_n hx hb dL_law_1689 rfl (lv_at hl 3 rfl) ?_
  refine lv_iload_n hx hb dL_law_1690 rfl (lv_at hl 0 rfl) ?_
  refine lv_iconst (v := 1) hx hb dL_law_1691 (by decide) ?_
  refine lv_iadd hx hb dL_law_1692 ?_
  refine va_sld hx hb hX hbl hbA hw.2.2 (hd 1 (by decide)) dL_law_1693 ?_
  rw [ha]
  replace hw := hw.perm sv_perm
  refine q_cv (As := [.int (nI 0)]) (rest := []) E hw hl (c_X8_restore_no l D cA tS A h ax sv (t 42) (z 60) (wK cA t τ ++ (wLg cA t τ 0 ++ (wC cA t τ ++ (wSc cA z κ ++ (wR cA z κ ++ (wM cA y μ wd ++ V1)))))) σ f 0 (by decide) hfn) 1 (bwV bw_l tb_1131 tb_1132 tb_1133 tb_99 tb_1134) rfl (by decide +kernel) ⟨(Nat.le_of_ble_eq_true rfl), (Nat.le_of_ble_eq_true rfl)⟩ 40 8 (T := TX8) (N := 4) rfl rfl rfl rfl (Nat.le_of_ble_eq_true rfl) hf1 dL_law_1694 (fun H locs hw => ?_)
  replace hw : Wd D A (wP cA h t z ax sv σ τ κ ++ (wM cA y μ wd ++ (svc cA sv f :: ([] ++ V1)))) s.heap H locs := Wd.perm (w := [] ++ _) hw sv_perm.symm
  refine lv_aload_n hx hb dL_law_1697 rfl (lv_at hl 1 rfl) ?_
  refine lv_aload_n hx hb dL_law_1698 rfl (lv_at hl 3 rfl) ?_
  refine lv_iload_n hx hb dL_law_1699 rfl (lv_at hl 0 rfl) ?_
  refine lv_iconst (v := 1) hx hb dL_law_1700 (by decide) ?_
  refine lv_iadd hx hb dL_law_1701 ?_
  refine va_sld hx hb hX hbl hbA hw.2.2 (hd 1 (by decide)) dL_law_1702 ?_
  rw [ha]
  refine lm_cv (As := [.int (nI 0)]) (rest := [.int 0]) (μ' := μ) (wd' := wd) E hw hl (c_X9_restore l D cA tS A y _ NN (nI 0) μ wd 0 μ (restore_no μ (s := 0) (by decide) h4 wd NN)) 1 (bwV bw_l tb_1691 tb_1692 tb_1693 tb_111 tb_1694) rfl (by decide +kernel) ⟨(Nat.le_of_ble_eq_true rfl), (Nat.le_of_ble_eq_true rfl)⟩ rfl rfl (Nat.le_of_ble_eq_true rfl) hf1 dL_law_1703 (fun H locs hw => ?_)
  refine lv_icmp_eq (tgt := 1711) hx hb dL_law_1706 (by decide) (fun _ => ?_) (fun q => absurd rfl q)
  exact W.widen (Nat.le_add_right _ _) (Nat.le_add_right _ _) (hk _ _ _ _ _ _ _ _ _ _ X hw)
theorem lc_58o0 (l : Launch) (E : Ev p cL_law 4 ret RL lw_tbl D cA tS A s m #[Value.ref b] meth c) (hKA : KA cA s) (hX : va_X b L xs s s.heap) (hbl : b < s.heap.size) (hbA : ¬ A b) (hl : lv_has ls 4 [(3, .int x3), (2, .ref (y 0)), (1, .ref ax), (0, .ref b)]) (hd : ∀ k : Nat, k ≤ 6 → vp_in (x3 + nI k) L) (hf0 : cells + 40 ≤ 600000 ∧ slots + 4540 ≤ 7302249) (X : LX cA σ τ κ μ f V0 V1) (hw : Wd D A (wQ cA h t z y ax sv σ τ κ μ wd f V0 V1) s.heap H locs)
    (hk : ∀ (σ' τ' κ' μ' : Sg) (wd' : Int64) (f' : Nat → Option Nat) (V0' V1' : va_W) (H1 : Heap) (locs1 : List Loc), LX cA σ' τ' κ' μ' f' V0' V1' → Wd D A (wQ cA h t z y ax sv σ' τ' κ' μ' wd' f' V0' V1') s.heap H1 locs1 → W p l e room_1 s m #[Value.ref b] below meth c H1 locs1 (cells + 40) (slots + 4540) Q (F0 m 1711 ls [])) (ha : (xs (x3 + 1).toNatClampNeg) = nI 0) (g : Nat → Nat) (ρ : Sg) (hfs : f 0 = some (g 46)) (hV : V0 = wAll cA g ρ) (h4 : μ 4 0 = 1) (hlv : LVx ρ (sl μ 0)) :
    W p l e room_1 s m #[Value.ref b] below meth c H locs cells slots Q (F0 m 1688 ls []) := by
  have hx := E.1.1
  have hb := E.1.2.1
  have hf1 : cells ≤ room_1.cells ∧ slots ≤ room_1.slots := ⟨by show cells ≤ 600000; omega, by show slots ≤ 7302249; omega⟩
  have hf2 : cells + 40 ≤ room_1.cells ∧ slots + 4540 ≤ room_1.slots := hf0
  unfold wQ at hw
  obtain ⟨p0, μ1, h1, h2, X1⟩ := L_restore (s := 0) (g := g) (by decide) X wd h4 hlv
  subst hV
  refine lv_aload_n hx hb dL_law_1688 rfl (lv_at hl 2 rfl) ?_
  refine lv_aload_n hx hb dL_law_1689 rfl (lv_at hl 3 rfl) ?_
  refine lv_iload_n hx hb dL_law_1690 rfl (lv_at hl 0 rfl) ?_
  refine lv_iconst (v := 1) hx hb dL_law_1691 (by decide) ?_
  refine lv_iadd hx hb dL_law_1692 ?_
  refine va_sld hx hb hX hbl hbA hw.2.2 (hd 1 (by decide)) dL_law_1693 ?_
  rw [ha]
  replace hw := (hw.perm sv_perm).perm rs_perm
  rw [wAll_app] at hw
  refine q_cv (As := [.int (nI 0)]) (rest := []) E hw hl (c_X8_restore_yes l D cA tS A h ax sv (t 42) (z 60) (wK cA t τ ++ (wLg cA t τ 0 ++ (wC cA t τ ++ (wSc cA z κ ++ (wR cA z κ ++ (wM cA y μ wd ++ V1)))))) σ NN f 0 (by decide) g ρ hfs p0 h1) 1 (bwV bw_l tb_1131 tb_1132 tb_1133 tb_99 tb_1134) rfl (by decide +kernel) ⟨(Nat.le_of_ble_eq_true rfl), (Nat.le_of_ble_eq_true rfl)⟩ 80 8 (T := TX8) (N := 4) rfl rfl rfl rfl (Nat.le_of_ble_eq_true rfl) hf1 dL_law_1694 (fun H locs hw => ?_)
  rw [← wAll_app (g := g) (ρ := ρ)] at hw
  replace hw : Wd D A (wP cA h t z ax sv p0 τ κ ++ (wM cA y μ wd ++ (svc cA sv f :: (wAll cA g ρ ++ V1)))) s.heap H locs := (hw.perm rs_perm.symm).perm sv_perm.symm
  refine lv_aload_n hx hb dL_law_1697 rfl (lv_at hl 1 rfl) ?_
  refine lv_aload_n hx hb dL_law_1698 rfl (lv_at hl 3 rfl) ?_
  refine lv_iload_n hx hb dL_law_1699 rfl (lv_at hl 0 rfl) ?_
  refine lv_iconst (v := 1) hx hb dL_law_1700 (by decide) ?_
  refine lv_iadd hx hb dL_law_1701 ?_
  refine va_sld hx hb hX hbl hbA hw.2.2 (hd 1 (by decide)) dL_law_1702 ?_
  rw [ha]
  refine lm_cv (As := [.int (nI 0)]) (rest := [.int 1]) (μ' := μ1) (wd' := wd) E hw hl (c_X9_restore l D cA tS A y _ NN (nI 0) μ wd 1 μ1 h2) 1 (bwV bw_l tb_1691 tb_1692 tb_1693 tb_111 tb_1694) rfl (by decide +kernel) ⟨(Nat.le_of_ble_eq_true rfl), (Nat.le_of_ble_eq_true rfl)⟩ rfl rfl (Nat.le_of_ble_eq_true rfl) hf1 dL_law_1703 (fun H locs hw => ?_)
  refine lv_icmp_eq (tgt := 1711) hx hb dL_law_1706 (by decide) (fun _ => ?_) (fun q => absurd rfl q)
  exact W.widen (Nat.le_add_right _ _) (Nat.le_add_right _ _) (hk _ _ _ _ _ _ _ _ _ _ X1 hw)
theorem lc_57n1 (l : Launch) (E : Ev p cL_law 4 ret RL lw_tbl D cA tS A s m #[Value.ref b] meth c) (hKA : KA cA s) (hX : va_X b L xs s s.heap) (hbl : b < s.heap.size) (hbA : ¬ A b) (hl : lv_has ls 4 [(3, .int x3), (2, .ref (y 0)), (1, .ref ax), (0, .ref b)]) (hd : ∀ k : Nat, k ≤ 6 → vp_in (x3 + nI k) L) (hf0 : cells + 40 ≤ 600000 ∧ slots + 4540 ≤ 7302249) (X : LX cA σ τ κ μ f V0 V1) (hw : Wd D A (wQ cA h t z y ax sv σ τ κ μ wd f V0 V1) s.heap H locs)
    (hk : ∀ (σ' τ' κ' μ' : Sg) (wd' : Int64) (f' : Nat → Option Nat) (V0' V1' : va_W) (H1 : Heap) (locs1 : List Loc), LX cA σ' τ' κ' μ' f' V0' V1' → Wd D A (wQ cA h t z y ax sv σ' τ' κ' μ' wd' f' V0' V1') s.heap H1 locs1 → W p l e room_1 s m #[Value.ref b] below meth c H1 locs1 (cells + 40) (slots + 4540) Q (F0 m 1711 ls [])) (ha : (xs (x3 + 1).toNatClampNeg) = nI 1) (hfn : f 1 = none) (hV : V1 = []) :
    W p l e room_1 s m #[Value.ref b] below meth c H locs cells slots Q (F0 m 1665 ls []) := by
  have hx := E.1.1
  have hb := E.1.2.1
  have hf1 : cells ≤ room_1.cells ∧ slots ≤ room_1.slots := ⟨by show cells ≤ 600000; omega, by show slots ≤ 7302249; omega⟩
  have hf2 : cells + 40 ≤ room_1.cells ∧ slots + 4540 ≤ room_1.slots := hf0
  unfold wQ at hw
  obtain ⟨p0, μ1, h1, h2, X1⟩ := L_save (s := 1) (by decide) X wd sBg
  subst hV
  refine lv_aload_n hx hb dL_law_1665 rfl (lv_at hl 2 rfl) ?_
  refine lv_aload_n hx hb dL_law_1666 rfl (lv_at hl 3 rfl) ?_
  refine lv_iload_n hx hb dL_law_1667 rfl (lv_at hl 0 rfl) ?_
  refine lv_iconst (v := 1) hx hb dL_law_1668 (by decide) ?_
  refine lv_iadd hx hb dL_law_1669 ?_
  refine va_sld hx hb hX hbl hbA hw.2.2 (hd 1 (by decide)) dL_law_1670 ?_
  rw [ha]
  replace hw := hw.perm ((List.Perm.append_left _ (List.Perm.append_left _ (List.Perm.cons _ List.perm_append_comm))).trans sv_perm)
  refine lx_cX (As := [.int (nI 1)]) (rest := []) E hKA hw hl (c_X8_save_new l D cA tS A h ax sv (t 42) (z 60) (wK cA t τ ++ (wLg cA t τ 0 ++ (wC cA t τ ++ (wSc cA z κ ++ (wR cA z κ ++ (wM cA y μ wd ++ V0)))))) σ NN f 1 (by decide) hfn p0 h1) 1 (bwV bw_l tb_1117 tb_1118 tb_1119 tb_99 tb_1120) rfl (by decide +kernel) ⟨(Nat.le_of_ble_eq_true rfl), (Nat.le_of_ble_eq_true rfl)⟩ 40 8 (T := TX8) (N := 4) rfl rfl rfl rfl (Nat.le_of_ble_eq_true rfl) hf2 dL_law_1671 (fun H locs w0 hp hw => ?_)
  obtain ⟨g, rfl⟩ := hp
  rw [← wAll_app] at hw
  replace hw : Wd D A (wP cA h t z ax sv σ τ κ ++ (wM cA y μ wd ++ (svc cA sv (va_up f 1 (some (g 46))) :: (V0 ++ wAll cA g p0)))) s.heap H locs := hw.perm ((List.Perm.append_left _ (List.Perm.append_left _ (List.Perm.cons _ List.perm_append_comm))).trans sv_perm).symm
  replace X1 := X1 g (va_up f 1 (some (g 46))) (if_pos rfl) (fun j hj => if_neg hj)
  rw [if_pos rfl, if_neg (by decide)] at X1
  refine lv_aload_n hx hb dL_law_1674 rfl (lv_at hl 1 rfl) ?_
  refine lv_aload_n hx hb dL_law_1675 rfl (lv_at hl 3 rfl) ?_
  refine lv_iload_n hx hb dL_law_1676 rfl (lv_at hl 0 rfl) ?_
  refine lv_iconst (v := 1) hx hb dL_law_1677 (by decide) ?_
  refine lv_iadd hx hb dL_law_1678 ?_
  refine va_sld hx hb hX hbl hbA hw.2.2 (hd 1 (by decide)) dL_law_1679 ?_
  rw [ha]
  refine lm_cv (As := [.int (nI 1)]) (rest := [.int 1]) (μ' := μ1) (wd' := wd) E hw hl (c_X9_save l D cA tS A y _ NN (nI 1) μ wd 1 μ1 h2) 1 (bwV bw_l tb_1687 tb_1688 tb_1689 tb_111 tb_1690) rfl (by decide +kernel) ⟨(Nat.le_of_ble_eq_true rfl), (Nat.le_of_ble_eq_true rfl)⟩ rfl rfl (Nat.le_of_ble_eq_true rfl) hf2 dL_law_1680 (fun H locs hw => ?_)
  refine lv_icmp_eq (tgt := 1711) hx hb dL_law_1683 (by decide) (fun _ => ?_) (fun q => absurd rfl q)
  exact hk _ _ _ _ _ _ _ _ _ _ X1 hw
theorem lc_57o1 (l : Launch) (E : Ev p cL_law 4 ret RL lw_tbl D cA tS A s m #[Value.ref b] meth c) (hKA : KA cA s) (hX : va_X b L xs s s.heap) (hbl : b < s.heap.size) (hbA : ¬ A b) (hl : lv_has ls 4 [(3, .int x3), (2, .ref (y 0)), (1, .ref ax), (0, .ref b)]) (hd : ∀ k : Nat, k ≤ 6 → vp_in (x3 + nI k) L) (hf0 : cells + 40 ≤ 600000 ∧ slots + 4540 ≤ 7302249) (X : LX cA σ τ κ μ f V0 V1) (hw : Wd D A (wQ cA h t z y ax sv σ τ κ μ wd f V0 V1) s.heap H locs)
    (hk : ∀ (σ' τ' κ' μ' : Sg) (wd' : Int64) (f' : Nat → Option Nat) (V0' V1' : va_W) (H1 : Heap) (locs1 : List Loc), LX cA σ' τ' κ' μ' f' V0' V1' → Wd D A (wQ cA h t z y ax sv σ' τ' κ' μ' wd' f' V0' V1') s.heap H1 locs1 → W p l e room_1 s m #[Value.ref b] below meth c H1 locs1 (cells + 40) (slots + 4540) Q (F0 m 1711 ls [])) (ha : (xs (x3 + 1).toNatClampNeg) = nI 1) (g : Nat → Nat) (ρ : Sg) (hfs : f 1 = some (g 46)) (hV : V1 = wAll cA g ρ) :
    W p l e room_1 s m #[Value.ref b] below meth c H locs cells slots Q (F0 m 1665 ls []) := by
  have hx := E.1.1
  have hb := E.1.2.1
  have hf1 : cells ≤ room_1.cells ∧ slots ≤ room_1.slots := ⟨by show cells ≤ 600000; omega, by show slots ≤ 7302249; omega⟩
  have hf2 : cells + 40 ≤ room_1.cells ∧ slots + 4540 ≤ room_1.slots := hf0
  unfold wQ at hw
  obtain ⟨p0, μ1, h1, h2, X1⟩ := L_save (s := 1) (by decide) X wd ρ
  subst hV
  refine lv_aload_n hx hb dL_law_1665 rfl (lv_at hl 2 rfl) ?_
  refine lv_aload_n hx hb dL_law_1666 rfl (lv_at hl 3 rfl) ?_
  refine lv_iload_n hx hb dL_law_1667 rfl (lv_at hl 0 rfl) ?_
  refine lv_iconst (v := 1) hx hb dL_law_1668 (by decide) ?_
  refine lv_iadd hx hb dL_law_1669 ?_
  refine va_sld hx hb hX hbl hbA hw.2.2 (hd 1 (by decide)) dL_law_1670 ?_
  rw [ha]
  replace hw := hw.perm ((List.Perm.append_left _ (List.Perm.append_left _ (List.Perm.cons _ List.perm_append_comm))).trans sv_perm)
  rw [wAll_app] at hw
  refine lx_cX (As := [.int (nI 1)]) (rest := []) E hKA hw hl (c_X8_save_old l D cA tS A h ax sv (t 42) (z 60) (wK cA t τ ++ (wLg cA t τ 0 ++ (wC cA t τ ++ (wSc cA z κ ++ (wR cA z κ ++ (wM cA y μ wd ++ V0)))))) σ NN f 1 (by decide) g ρ hfs p0 h1) 1 (bwV bw_l tb_1117 tb_1118 tb_1119 tb_99 tb_1120) rfl (by decide +kernel) ⟨(Nat.le_of_ble_eq_true rfl), (Nat.le_of_ble_eq_true rfl)⟩ 80 8 (T := TX8) (N := 4) rfl rfl rfl rfl (Nat.le_of_ble_eq_true rfl) hf2 dL_law_1671 (fun H locs w0 hp hw => ?_)
  subst hp
  rw [← wAll_app] at hw
  replace hw : Wd D A (wP cA h t z ax sv σ τ κ ++ (wM cA y μ wd ++ (svc cA sv f :: (V0 ++ wAll cA g p0)))) s.heap H locs := hw.perm ((List.Perm.append_left _ (List.Perm.append_left _ (List.Perm.cons _ List.perm_append_comm))).trans sv_perm).symm
  replace X1 := X1 g f hfs (fun j hj => rfl)
  rw [if_pos rfl, if_neg (by decide)] at X1
  refine lv_aload_n hx hb dL_law_1674 rfl (lv_at hl 1 rfl) ?_
  refine lv_aload_n hx hb dL_law_1675 rfl (lv_at hl 3 rfl) ?_
  refine lv_iload_n hx hb dL_law_1676 rfl (lv_at hl 0 rfl) ?_
  refine lv_iconst (v := 1) hx hb dL_law_1677 (by decide) ?_
  refine lv_iadd hx hb dL_law_1678 ?_
  refine va_sld hx hb hX hbl hbA hw.2.2 (hd 1 (by decide)) dL_law_1679 ?_
  rw [ha]
  refine lm_cv (As := [.int (nI 1)]) (rest := [.int 1]) (μ' := μ1) (wd' := wd) E hw hl (c_X9_save l D cA tS A y _ NN (nI 1) μ wd 1 μ1 h2) 1 (bwV bw_l tb_1687 tb_1688 tb_1689 tb_111 tb_1690) rfl (by decide +kernel) ⟨(Nat.le_of_ble_eq_true rfl), (Nat.le_of_ble_eq_true rfl)⟩ rfl rfl (Nat.le_of_ble_eq_true rfl) hf2 dL_law_1680 (fun H locs hw => ?_)
  refine lv_icmp_eq (tgt := 1711) hx hb dL_law_1683 (by decide) (fun _ => ?_) (fun q => absurd rfl q)
  exact hk _ _ _ _ _ _ _ _ _ _ X1 hw
theorem lc_58n1 (l : Launch) (E : Ev p cL_law 4 ret RL lw_tbl D cA tS A s m #[Value.ref b] meth c) (hKA : KA cA s) (hX : va_X b L xs s s.heap) (hbl : b < s.heap.size) (hbA : ¬ A b) (hl : lv_has ls 4 [(3, .int x3), (2, .ref (y 0)), (1, .ref ax), (0, .ref b)]) (hd : ∀ k : Nat, k ≤ 6 → vp_in (x3 + nI k) L) (hf0 : cells + 40 ≤ 600000 ∧ slots + 4540 ≤ 7302249) (X : LX cA σ τ κ μ f V0 V1) (hw : Wd D A (wQ cA h t z y ax sv σ τ κ μ wd f V0 V1) s.heap H locs)
    (hk : ∀ (σ' τ' κ' μ' : Sg) (wd' : Int64) (f' : Nat → Option Nat) (V0' V1' : va_W) (H1 : Heap) (locs1 : List Loc), LX cA σ' τ' κ' μ' f' V0' V1' → Wd D A (wQ cA h t z y ax sv σ' τ' κ' μ' wd' f' V0' V1') s.heap H1 locs1 → W p l e room_1 s m #[Value.ref b] below meth c H1 locs1 (cells + 40) (slots + 4540) Q (F0 m 1711 ls [])) (ha : (xs (x3 + 1).toNatClampNeg) = nI 1) (hfn : f 1 = none) (hV : V1 = []) (h4 : μ 4 1 = 0) :
    W p l e room_1 s m #[Value.ref b] below meth c H locs cells slots Q (F0 m 1688 ls []) := by
  have hx := E.1.1
  have hb := E.1.2.1
  have hf1 : cells ≤ room_1.cells ∧ slots ≤ room_1.slots := ⟨by show cells ≤ 600000; omega, by show slots ≤ 7302249; omega⟩
  have hf2 : cells + 40 ≤ room_1.cells ∧ slots + 4540 ≤ room_1.slots := hf0
  unfold wQ at hw
  subst hV
  refine lv_aload_n hx hb dL_law_1688 rfl (lv_at hl 2 rfl) ?_
  refine lv_aload_n hx hb dL_law_1689 rfl (lv_at hl 3 rfl) ?_
  refine lv_iload_n hx hb dL_law_1690 rfl (lv_at hl 0 rfl) ?_
  refine lv_iconst (v := 1) hx hb dL_law_1691 (by decide) ?_
  refine lv_iadd hx hb dL_law_1692 ?_
  refine va_sld hx hb hX hbl hbA hw.2.2 (hd 1 (by decide)) dL_law_1693 ?_
  rw [ha]
  replace hw := hw.perm ((List.Perm.append_left _ (List.Perm.append_left _ (List.Perm.cons _ List.perm_append_comm))).trans sv_perm)
  refine q_cv (As := [.int (nI 1)]) (rest := []) E hw hl (c_X8_restore_no l D cA tS A h ax sv (t 42) (z 60) (wK cA t τ ++ (wLg cA t τ 0 ++ (wC cA t τ ++ (wSc cA z κ ++ (wR cA z κ ++ (wM cA y μ wd ++ V0)))))) σ f 1 (by decide) hfn) 1 (bwV bw_l tb_1131 tb_1132 tb_1133 tb_99 tb_1134) rfl (by decide +kernel) ⟨(Nat.le_of_ble_eq_true rfl), (Nat.le_of_ble_eq_true rfl)⟩ 40 8 (T := TX8) (N := 4) rfl rfl rfl rfl (Nat.le_of_ble_eq_true rfl) hf1 dL_law_1694 (fun H locs hw => ?_)
  replace hw : Wd D A (wP cA h t z ax sv σ τ κ ++ (wM cA y μ wd ++ (svc cA sv f :: (V0 ++ [])))) s.heap H locs := Wd.perm (w := [] ++ _) hw ((List.Perm.append_left _ (List.Perm.append_left _ (List.Perm.cons _ List.perm_append_comm))).trans sv_perm).symm
  refine lv_aload_n hx hb dL_law_1697 rfl (lv_at hl 1 rfl) ?_
  refine lv_aload_n hx hb dL_law_1698 rfl (lv_at hl 3 rfl) ?_
  refine lv_iload_n hx hb dL_law_1699 rfl (lv_at hl 0 rfl) ?_
  refine lv_iconst (v := 1) hx hb dL_law_1700 (by decide) ?_
  refine lv_iadd hx hb dL_law_1701 ?_
  refine va_sld hx hb hX hbl hbA hw.2.2 (hd 1 (by decide)) dL_law_1702 ?_
  rw [ha]
  refine lm_cv (As := [.int (nI 1)]) (rest := [.int 0]) (μ' := μ) (wd' := wd) E hw hl (c_X9_restore l D cA tS A y _ NN (nI 1) μ wd 0 μ (restore_no μ (s := 1) (by decide) h4 wd NN)) 1 (bwV bw_l tb_1691 tb_1692 tb_1693 tb_111 tb_1694) rfl (by decide +kernel) ⟨(Nat.le_of_ble_eq_true rfl), (Nat.le_of_ble_eq_true rfl)⟩ rfl rfl (Nat.le_of_ble_eq_true rfl) hf1 dL_law_1703 (fun H locs hw => ?_)
  refine lv_icmp_eq (tgt := 1711) hx hb dL_law_1706 (by decide) (fun _ => ?_) (fun q => absurd rfl q)
  exact W.widen (Nat.le_add_right _ _) (Nat.le_add_right _ _) (hk _ _ _ _ _ _ _ _ _ _ X hw)
theorem lc_58o1 (l : Launch) (E : Ev p cL_law 4 ret RL lw_tbl D cA tS A s m #[Value.ref b] meth c) (hKA : KA cA s) (hX : va_X b L xs s s.heap) (hbl : b < s.heap.size) (hbA : ¬ A b) (hl : lv_has ls 4 [(3, .int x3), (2, .ref (y 0)), (1, .ref ax), (0, .ref b)]) (hd : ∀ k : Nat, k ≤ 6 → vp_in (x3 + nI k) L) (hf0 : cells + 40 ≤ 600000 ∧ slots + 4540 ≤ 7302249) (X : LX cA σ τ κ μ f V0 V1) (hw : Wd D A (wQ cA h t z y ax sv σ τ κ μ wd f V0 V1) s.heap H locs)
    (hk : ∀ (σ' τ' κ' μ' : Sg) (wd' : Int64) (f' : Nat → Option Nat) (V0' V1' : va_W) (H1 : Heap) (locs1 : List Loc), LX cA σ' τ' κ' μ' f' V0' V1' → Wd D A (wQ cA h t z y ax sv σ' τ' κ' μ' wd' f' V0' V1') s.heap H1 locs1 → W p l e room_1 s m #[Value.ref b] below meth c H1 locs1 (cells + 40) (slots + 4540) Q (F0 m 1711 ls [])) (ha : (xs (x3 + 1).toNatClampNeg) = nI 1) (g : Nat → Nat) (ρ : Sg) (hfs : f 1 = some (g 46)) (hV : V1 = wAll cA g ρ) (h4 : μ 4 1 = 1) (hlv : LVx ρ (sl μ 1)) :
    W p l e room_1 s m #[Value.ref b] below meth c H locs cells slots Q (F0 m 1688 ls []) := by
  have hx := E.1.1
  have hb := E.1.2.1
  have hf1 : cells ≤ room_1.cells ∧ slots ≤ room_1.slots := ⟨by show cells ≤ 600000; omega, by show slots ≤ 7302249; omega⟩
  have hf2 : cells + 40 ≤ room_1.cells ∧ slots + 4540 ≤ room_1.slots := hf0
  unfold wQ at hw
  obtain ⟨p0, μ1, h1, h2, X1⟩ := L_restore (s := 1) (g := g) (by decide) X wd h4 hlv
  subst hV
  refine lv_aload_n hx hb dL_law_1688 rfl (lv_at hl 2 rfl) ?_
  refine lv_aload_n hx hb dL_law_1689 rfl (lv_at hl 3 rfl) ?_
  refine lv_iload_n hx hb dL_law_1690 rfl (lv_at hl 0 rfl) ?_
  refine lv_iconst (v := 1) hx hb dL_law_1691 (by decide) ?_
  refine lv_iadd hx hb dL_law_1692 ?_
  refine va_sld hx hb hX hbl hbA hw.2.2 (hd 1 (by decide)) dL_law_1693 ?_
  rw [ha]
  replace hw := (hw.perm ((List.Perm.append_left _ (List.Perm.append_left _ (List.Perm.cons _ List.perm_append_comm))).trans sv_perm)).perm rs_perm
  rw [wAll_app] at hw
  refine q_cv (As := [.int (nI 1)]) (rest := []) E hw hl (c_X8_restore_yes l D cA tS A h ax sv (t 42) (z 60) (wK cA t τ ++ (wLg cA t τ 0 ++ (wC cA t τ ++ (wSc cA z κ ++ (wR cA z κ ++ (wM cA y μ wd ++ V0)))))) σ NN f 1 (by decide) g ρ hfs p0 h1) 1 (bwV bw_l tb_1131 tb_1132 tb_1133 tb_99 tb_1134) rfl (by decide +kernel) ⟨(Nat.le_of_ble_eq_true rfl), (Nat.le_of_ble_eq_true rfl)⟩ 80 8 (T := TX8) (N := 4) rfl rfl rfl rfl (Nat.le_of_ble_eq_true rfl) hf1 dL_law_1694 (fun H locs hw => ?_)
  rw [← wAll_app (g := g) (ρ := ρ)] at hw
  replace hw : Wd D A (wP cA h t z ax sv p0 τ κ ++ (wM cA y μ wd ++ (svc cA sv f :: (V0 ++ wAll cA g ρ)))) s.heap H locs := (hw.perm rs_perm.symm).perm ((List.Perm.append_left _ (List.Perm.append_left _ (List.Perm.cons _ List.perm_append_comm))).trans sv_perm).symm
  refine lv_aload_n hx hb dL_law_1697 rfl (lv_at hl 1 rfl) ?_
  refine lv_aload_n hx hb dL_law_1698 rfl (lv_at hl 3 rfl) ?_
  refine lv_iload_n hx hb dL_law_1699 rfl (lv_at hl 0 rfl) ?_
  refine lv_iconst (v := 1) hx hb dL_law_1700 (by decide) ?_
  refine lv_iadd hx hb dL_law_1701 ?_
  refine va_sld hx hb hX hbl hbA hw.2.2 (hd 1 (by decide)) dL_law_1702 ?_
  rw [ha]
  refine lm_cv (As := [.int (nI 1)]) (rest := [.int 1]) (μ' := μ1) (wd' := wd) E hw hl (c_X9_restore l D cA tS A y _ NN (nI 1) μ wd 1 μ1 h2) 1 (bwV bw_l tb_1691 tb_1692 tb_1693 tb_111 tb_1694) rfl (by decide +kernel) ⟨(Nat.le_of_ble_eq_true rfl), (Nat.le_of_ble_eq_true rfl)⟩ rfl rfl (Nat.le_of_ble_eq_true rfl) hf1 dL_law_1703 (fun H locs hw => ?_)
  refine lv_icmp_eq (tgt := 1711) hx hb dL_law_1706 (by decide) (fun _ => ?_) (fun q => absurd rfl q)
  exact W.widen (Nat.le_add_right _ _) (Nat.le_add_right _ _) (hk _ _ _ _ _ _ _ _ _ _ X1 hw)
theorem lc_57 (l : Launch) (E : Ev p cL_law 4 ret RL lw_tbl D cA tS A s m #[Value.ref b] meth c) (hKA : KA cA s) (hX : va_X b L xs s s.heap) (hbl : b < s.heap.size) (hbA : ¬ A b) (hl : lv_has ls 4 [(3, .int x3), (2, .ref (y 0)), (1, .ref ax), (0, .ref b)]) (hd : ∀ k : Nat, k ≤ 6 → vp_in (x3 + nI k) L) (hf0 : cells + 40 ≤ 600000 ∧ slots + 4540 ≤ 7302249) (X : LX cA σ τ κ μ f V0 V1) (hw : Wd D A (wQ cA h t z y ax sv σ τ κ μ wd f V0 V1) s.heap H locs)
    (hk : ∀ (σ' τ' κ' μ' : Sg) (wd' : Int64) (f' : Nat → Option Nat) (V0' V1' : va_W) (H1 : Heap) (locs1 : List Loc), LX cA σ' τ' κ' μ' f' V0' V1' → Wd D A (wQ cA h t z y ax sv σ' τ' κ' μ' wd' f' V0' V1') s.heap H1 locs1 → W p l e room_1 s m #[Value.ref b] below meth c H1 locs1 (cells + 40) (slots + 4540) Q (F0 m 1711 ls []))  :
    W p l e room_1 s m #[Value.ref b] below meth c H locs cells slots Q (F0 m 1665 ls []) := by
  have hx := E.1.1
  have hb := E.1.2.1
  have hf1 : cells ≤ room_1.cells ∧ slots ≤ room_1.slots := ⟨by show cells ≤ 600000; omega, by show slots ≤ 7302249; omega⟩
  have hf2 : cells + 40 ≤ room_1.cells ∧ slots + 4540 ≤ room_1.slots := hf0
  rcases L_slot (xs (x3 + 1).toNatClampNeg) with ⟨s1, hs, ha⟩ | hz
  · have : s1 = 0 ∨ s1 = 1 := by omega
    rcases this with rfl | rfl
    · rcases X.2.2.2.2.1 with ⟨q1, q2, q3⟩ | ⟨g, ρ, q1, q2, q3, q4⟩
      · exact lc_57n0 l E hKA hX hbl hbA hl hd hf0 X hw hk ha q1 q2
      · exact lc_57o0 l E hKA hX hbl hbA hl hd hf0 X hw hk ha g ρ q1 q2
    · rcases X.2.2.2.2.2 with ⟨q1, q2, q3⟩ | ⟨g, ρ, q1, q2, q3, q4⟩
      · exact lc_57n1 l E hKA hX hbl hbA hl hd hf0 X hw hk ha q1 q2
      · exact lc_57o1 l E hKA hX hbl hbA hl hd hf0 X hw hk ha g ρ q1 q2
  · exact lc_57b l E hKA hX hbl hbA hl hd hf0 X hw hk hz
theorem lc_58 (l : Launch) (E : Ev p cL_law 4 ret RL lw_tbl D cA tS A s m #[Value.ref b] meth c) (hKA : KA cA s) (hX : va_X b L xs s s.heap) (hbl : b < s.heap.size) (hbA : ¬ A b) (hl : lv_has ls 4 [(3, .int x3), (2, .ref (y 0)), (1, .ref ax), (0, .ref b)]) (hd : ∀ k : Nat, k ≤ 6 → vp_in (x3 + nI k) L) (hf0 : cells + 40 ≤ 600000 ∧ slots + 4540 ≤ 7302249) (X : LX cA σ τ κ μ f V0 V1) (hw : Wd D A (wQ cA h t z y ax sv σ τ κ μ wd f V0 V1) s.heap H locs)
    (hk : ∀ (σ' τ' κ' μ' : Sg) (wd' : Int64) (f' : Nat → Option Nat) (V0' V1' : va_W) (H1 : Heap) (locs1 : List Loc), LX cA σ' τ' κ' μ' f' V0' V1' → Wd D A (wQ cA h t z y ax sv σ' τ' κ' μ' wd' f' V0' V1') s.heap H1 locs1 → W p l e room_1 s m #[Value.ref b] below meth c H1 locs1 (cells + 40) (slots + 4540) Q (F0 m 1711 ls []))  :
    W p l e room_1 s m #[Value.ref b] below meth c H locs cells slots Q (F0 m 1688 ls []) := by
  have hx := E.1.1
  have hb := E.1.2.1
  have hf1 : cells ≤ room_1.cells ∧ slots ≤ room_1.slots := ⟨by show cells ≤ 600000; omega, by show slots ≤ 7302249; omega⟩
  have hf2 : cells + 40 ≤ room_1.cells ∧ slots + 4540 ≤ room_1.slots := hf0
  rcases L_slot (xs (x3 + 1).toNatClampNeg) with ⟨s1, hs, ha⟩ | hz
  · have : s1 = 0 ∨ s1 = 1 := by omega
    rcases this with rfl | rfl
    · rcases X.2.2.2.2.1 with ⟨q1, q2, q3⟩ | ⟨g, ρ, q1, q2, q3, q4⟩
      · exact lc_58n0 l E hKA hX hbl hbA hl hd hf0 X hw hk ha q1 q2 q3
      · exact lc_58o0 l E hKA hX hbl hbA hl hd hf0 X hw hk ha g ρ q1 q2 q3 q4
    · rcases X.2.2.2.2.2 with ⟨q1, q2, q3⟩ | ⟨g, ρ, q1, q2, q3, q4⟩
      · exact lc_58n1 l E hKA hX hbl hbA hl hd hf0 X hw hk ha q1 q2 q3
      · exact lc_58o1 l E hKA hX hbl hbA hl hd hf0 X hw hk ha g ρ q1 q2 q3 q4
  · exact lc_58b l E hKA hX hbl hbA hl hd hf0 X hw hk hz
end HLC
