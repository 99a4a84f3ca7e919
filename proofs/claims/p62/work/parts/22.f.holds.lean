/-! p62 by hand: holds -/
set_option maxRecDepth 100000 in
set_option maxHeartbeats 4000000 in
theorem s_H_16 (l : Launch) (D : va_G) (cA : Nat → ClassId) (tS : Nat → Nat) (A : Nat → Prop) (w u h t : Nat → Nat) (ax sv sc kc : Nat) (υ : Sg) {p : Program} {e : Env} {R : Room} {s : State} {m : MethodId} {args : Array Value} {below : List Frame} {meth : Method} {c : Code} (E : Ev p cL_holds 6 (some .boolean) RL (Cond.code yL_holds cL_holds 6 (some .boolean) :: bw) D cA tS A s m args meth c) (hK : KA cA s) (hL : tS 5 ≤ 260) (hk1 : 1 ≤ kc) (hk5 : kc ≤ 5) (hR : 8 ≤ R.frames ∧ 197 ≤ R.locals) (hR2 : 794 ≤ R.cells ∧ 67672 ≤ R.slots) : ∀ (n i cnt T hl0 n0 cells slots : Nat) (θ σ τ : Sg) (F : va_W) (_ : i + n = 14) (_ : DI cnt kc T hl0 σ) (_ : KM kc υ σ) (_ : hl0 ≤ 192) (_ : θ 70 0 = nI n0) (_ : n0 ≤ 44 + 40 * i) (_ : cells ≤ 10 + 56 * i) (_ : slots ≤ 80 + 4828 * i) (_ : SF cA sv F) (H : Heap) (locs : List Loc) (_ : Wd D A (wN cA tS w u h t θ υ σ τ ax sv sc kc F) s.heap H locs) (ls : Array Slot) (_ : lv_has ls 6 [(2, .int (nI i)), (0, .ref (w 80))]), W p l e R s m args below meth c H locs (cells) (slots) (MQ below (QX D A (some (.int 1)) (fun _ => True)) args s 794 67672 A) (F0 m 16 ls []) := by
  have hx := E.1.1
  have hb := E.1.2.1
  intro n
  induction n with
  | zero =>
    intro i cnt T hl0 n0 cells slots θ σ τ F i0 i1 i2 i3 i4 i5 i6 i7 i8 H locs hw ls hl
    obtain rfl : i = 14 := by omega
    refine lv_iload_n hx hb dL_holds_16 rfl (lv_at hl 0 rfl) ?_
    refine lv_bipush (v := 14) hx hb dL_holds_17 (by decide) ?_
    refine lv_icmp_ge (tgt := 237) hx hb dL_holds_19 (by decide) (fun _ => ?_) (fun z => absurd (by decide) z)
    refine lv_iconst (v := 1) hx hb dL_holds_237 (by decide) ?_
    refine W.widen (k := 794) (n := 67672) (by omega) (by omega) ?_
    exact q_retzX E hw (Or.inr rfl) trivial dL_holds_238
  | succ n ih =>
    intro i cnt T hl0 n0 cells slots θ σ τ F i0 i1 i2 i3 i4 i5 i6 i7 i8 H locs hw ls hl
    refine lv_iload_n hx hb dL_holds_16 rfl (lv_at hl 0 rfl) ?_
    refine lv_bipush (v := nI 14) hx hb dL_holds_17 (by decide) ?_
    refine lv_icmp_ge (tgt := 237) hx hb dL_holds_19 (by decide) (fun z => absurd z (Int32.not_le.mpr (nI_lt (a := i) (b := 14) (by omega) (by decide)))) (fun _ => ?_)
    refine lv_aload_n hx hb dL_holds_22 rfl (lv_at hl 1 rfl) ?_
    refine lv_iconst (v := nI 5) hx hb dL_holds_23 (by decide) ?_
    refine q_draw (n := 5) (n0 := n0) (rest := []) E hw hl hL i4 (by omega) (by decide) (by decide) ⟨by omega, by omega⟩ rfl (Nat.le_of_ble_eq_true rfl) ⟨by omega, by omega⟩ dL_holds_24 (fun k θ1 H locs hk m1 hw => ?_)
    refine lv_istore_n (lv' := [(3, .int (nI k)), (2, .int (nI i)), (0, .ref (w 80))]) hx hb dL_holds_27 rfl hl (by decide) rfl (fun ls hl => ?_)
    refine s_H_28 l D cA tS A w u h t ax sv sc kc υ E hK hL hk1 hk5 hR T (n0 + 25) (cells + 8) (slots + 32) (nI i) F (by omega) (by omega) (by omega) (fun cnt1 hl1 n1 cells1 slots1 θ2 σ1 τ1 j1 j2 j3 j4 j5 j6 j7 H locs hw ls hl => ?_) k cnt hl0 (n0 + 1) cells slots θ1 σ τ i1 i2 i3 m1 (by omega) (by omega) (by omega) (by omega) H locs hw ls hl
    obtain ⟨-, h60, -, -, -, h15, -, -⟩ := j1.b
    obtain ⟨θ3, σ2, τ2, g1, cnt2, T2, hl2, n2, g2, g3, g4, g5, g6, g7⟩ := passes_v (τ := τ1) j1 j2 hL j4 (by omega) (N := 10101) (by decide)
    have hM2 := j2.lo g5
    obtain ⟨-, h602, -, -, -, h152, -, -⟩ := g2.b
    refine lv_aload_n hx hb dL_holds_79 rfl (lv_at hl 1 rfl) ?_
    refine q_cvX (As := []) (rest := []) E hK hw hl (c_L_passes l D cA tS A w u h t ax sv sc kc cnt1 F 10101 θ2 υ σ1 τ1 1 θ3 σ2 τ2 g1 (by omega) h15 h60) 0 (bwV bw_c tb_957 tb_959 tb_44 tb_46 tb_960) rfl (by decide +kernel) ⟨by omega, by omega⟩ 0 10 (T := TL) (N := 4) rfl rfl rfl rfl (Nat.le_of_ble_eq_true rfl) ⟨by omega, by omega⟩ dL_holds_80 (fun H locs w0 hp hw => ?_)
    subst hp
    refine lv_if_eq (tgt := 93) hx hb dL_holds_83 (by decide) (fun z => absurd z (by decide)) (fun _ => ?_)
    refine lv_aload_n hx hb dL_holds_86 rfl (lv_at hl 1 rfl) ?_
    refine q_cvX (As := []) (rest := []) E hK hw hl (c_L_logged l D cA tS A w u h t ax sv sc kc cnt2 F 10101 θ3 υ σ2 τ2 1 (logged_v g2 (by decide)) (by omega) h152 h602) 0 (bwV bw_c tb_989 tb_991 tb_45 tb_46 tb_992) rfl (by decide +kernel) ⟨by omega, by omega⟩ 0 10 (T := TL) (N := 4) rfl rfl rfl rfl (Nat.le_of_ble_eq_true rfl) ⟨by omega, by omega⟩ dL_holds_87 (fun H locs w0 hp hw => ?_)
    subst hp
    refine lv_if_ne (tgt := 95) hx hb dL_holds_90 (by decide) (fun _ => ?_) (fun z => absurd z (by decide))
    have K231 : ∀ (cells2 slots2 : Nat) (σ3 : Sg) (F1 : va_W), DI cnt2 kc T2 hl2 σ3 → KM kc υ σ3 → SF cA sv F1 → cells2 ≤ cells1 + 5 + 1 + 42 → slots2 ≤ slots1 + 188 + 60 + 4548 → ∀ (H : Heap) (locs : List Loc), Wd D A (wN cA tS w u h t θ3 υ σ3 τ2 ax sv sc kc F1) s.heap H locs → ∀ ls : Array Slot, lv_has ls 6 [(2, .int (nI i)), (0, .ref (w 80))] → W p l e R s m args below meth c H locs (cells2) (slots2) (MQ below (QX D A (some (.int 1)) (fun _ => True)) args s 794 67672 A) (F0 m 231 ls []) := by
      intro cells2 slots2 σ3 F1 k1 k2 k3 k4 k5 H locs hw ls hl
      refine lv_iinc (v := nI (i + 1)) (lv' := [(2, .int (nI (i + 1))), (0, .ref (w 80))]) hx hb dL_holds_231 hl (k := 0) rfl (nI_1 i) (by decide) rfl (fun ls hl => ?_)
      refine lv_goto (tgt := 16) hx hb dL_holds_234 (by decide) ?_
      exact ih (i + 1) cnt2 T2 hl2 n2 cells2 slots2 θ3 σ3 τ2 F1 (by omega) k1 k2 (by omega) g6 (by omega) (by omega) (by omega) k3 H locs hw ls hl
    refine lv_iload_n hx hb dL_holds_95 rfl (lv_at hl 0 rfl) ?_
    refine lv_iconst (v := 5) hx hb dL_holds_96 (by decide) ?_
    refine lv_irem hx hb dL_holds_97 (by decide) ?_
    refine lv_iconst (v := 2) hx hb dL_holds_98 (by decide) ?_
    refine lv_icmp_eq (tgt := 105) hx hb dL_holds_99 (by decide) (fun _ => ?_) (fun _ => ?_)
    · exact s_H_105 l D cA tS A w u h t ax sv sc kc υ E hK hL hk1 hk5 hR T2 cnt2 hl2 _ _ (nI i) F θ3 σ2 τ2 (by omega) (by omega) g2 hM2 (by omega) i8 K231 H locs hw ls hl
    · refine lv_goto (tgt := 231) hx hb dL_holds_102 (by decide) ?_
      exact K231 _ _ σ2 F g2 hM2 i8 (by omega) (by omega) H locs hw ls hl
theorem wBg_0 {cA : Nat → ClassId} {tS h : Nat → Nat} {a kl ax sv tr sc : Nat} {σ : Sg} {G : va_W} : ([(a, .inr (10, [.ref ax, .ref (tS 4), .int 0, .ref kl]))] ++ ([(kl, .inr (9, [.int 0, .ref (tS 3), .int 0]))] ++ w6 cA h σ ax sv tr sc G) : va_W) = wBg cA tS (fun _ => a) (fun _ => kl) h zS zS σ ax sv tr sc 0 G := rfl
set_option maxRecDepth 100000 in
set_option maxHeartbeats 400000 in
theorem c_L_holds (l : Launch) (D : va_G) (cA : Nat → ClassId) (tS : Nat → Nat) (A : Nat → Prop) (a : Nat) (F : va_W) (h t z : Nat → Nat) (sv ax kl : Nat) (hL : tS 5 ≤ 260) : CX l yL_holds (Cond.code yL_holds cL_holds 6 (some .boolean) :: bw) 8 794 67672 197 D cA tS A [.ref a, .ref (tS 4)] ([(a, .inr (10, [.ref ax, .null, .int 0, .ref kl]))] ++ ([(kl, .inr (9, [.int 0, .ref (tS 3), .int 0]))] ++ w6 cA h sBg ax sv (t 42) (z 60) (wK cA t sBg ++ (wLg cA t sBg 0 ++ (wC cA t sBg ++ (wSc cA z kZ ++ (wR cA z kZ ++ ([(sv, .inl (cA 4, 2, .inr (.inr (.inr (.inr (fun _ => none))))))] ++ F)))))))) (some (.int 1)) (fun _ => True) := by
  refine cx_of (by decide +kernel) (Nat.le_of_ble_eq_true rfl) ?_
  intro p e s m below meth c E hK hnm hw ls hl
  replace E : Ev p cL_holds 6 (some .boolean) RL (Cond.code yL_holds cL_holds 6 (some .boolean) :: bw) D cA tS A s m _ meth c := E
  replace hl : lv_has ls 6 [(0, .ref a), (1, .ref (tS 4))] := hl
  have hx := E.1.1
  have hb := E.1.2.1
  refine lv_aload_n hx hb dL_holds_0 rfl (lv_at hl 0 rfl) ?_
  refine lv_aload_n hx hb dL_holds_1 rfl (lv_at hl 1 rfl) ?_
  refine q_putr (C := RL) (T := TL) (N := 4) (ci := 10) E (fun w h => List.mem_cons_of_mem _ (inL w h)) tyL tyL_ok nmL hw 0 rfl rfl 1 (by decide) (List.mem_cons_of_mem _ tb_413) rfl rfl rfl (Nat.le_of_ble_eq_true rfl) ([(a, .inr (10, [.ref ax, .ref (tS 4), .int 0, .ref kl]))] ++ ([(kl, .inr (9, [.int 0, .ref (tS 3), .int 0]))] ++ w6 cA h sBg ax sv (t 42) (z 60) (wK cA t sBg ++ (wLg cA t sBg 0 ++ (wC cA t sBg ++ (wSc cA z kZ ++ (wR cA z kZ ++ ([(sv, .inl (cA 4, 2, .inr (.inr (.inr (.inr (fun _ => none))))))] ++ F)))))))) rfl dL_holds_2 (fun H locs hw => ?_)
  rw [wBg_0] at hw
  refine lv_aload_n hx hb dL_holds_5 rfl (lv_at hl 0 rfl) ?_
  have hC := c_L_begins l D cA tS A (fun _ => a) h ax sv (t 42) (z 60) (wK cA t sBg ++ (wLg cA t sBg 0 ++ (wC cA t sBg ++ (wSc cA z kZ ++ (wR cA z kZ ++ ([(sv, .inl (cA 4, 2, .inr (.inr (.inr (.inr (fun _ => none))))))] ++ F)))))) (fun _ => kl) zS zS hL rfl
  have he : (wBg cA tS (fun _ => a) (fun _ => kl) h zS zS sBg ax sv (t 42) (z 60) 0 (wK cA t sBg ++ (wLg cA t sBg 0 ++ (wC cA t sBg ++ (wSc cA z kZ ++ (wR cA z kZ ++ ([(sv, .inl (cA 4, 2, .inr (.inr (.inr (.inr (fun _ => none))))))] ++ F)))))))[0]? = some (a, .inr (10, [.ref ax, .ref (tS 4), .int 0, .ref kl])) := rfl
  generalize wBg cA tS (fun _ => a) (fun _ => kl) h zS zS sBg ax sv (t 42) (z 60) 0 (wK cA t sBg ++ (wLg cA t sBg 0 ++ (wC cA t sBg ++ (wSc cA z kZ ++ (wR cA z kZ ++ ([(sv, .inl (cA 4, 2, .inr (.inr (.inr (.inr (fun _ => none))))))] ++ F)))))) = WW at hw hC he
  refine q_cvX (As := []) (rest := []) E hK hw hl hC 0 (bwV bw_c tb_429 tb_431 tb_1 tb_46 tb_432) rfl (by decide +kernel) ⟨(Nat.le_of_ble_eq_true rfl), (Nat.le_of_ble_eq_true rfl)⟩ 0 10 (T := TL) (N := 4) rfl he rfl rfl (Nat.le_of_ble_eq_true rfl) ⟨(Nat.le_of_ble_eq_true rfl), (Nat.le_of_ble_eq_true rfl)⟩ dL_holds_6 (fun H locs w0 hp hw => ?_)
  obtain ⟨kc, u, υ, θ, σ, n0, hl0, rfl, D0, M0, hk1, hk5, hm, hn, hh⟩ := hp
  unfold wBg at hw
  rw [wLs_1 hk1] at hw
  have hw : Wd D A (wN cA tS (fun _ => a) u h t θ υ σ sBg ax sv (z 60) kc (wV cA sv (fun _ => none) ++ (wSc cA z kZ ++ (wR cA z kZ ++ F)))) s.heap H locs := hw.perm ph_0
  refine lv_if_ne (tgt := 14) hx hb dL_holds_9 (by decide) (fun _ => ?_) (fun z => absurd z (by decide))
  refine lv_iconst (v := nI 0) hx hb dL_holds_14 (by decide) ?_
  refine lv_istore_n (lv' := [(2, .int (nI 0)), (0, .ref a), (1, .ref (tS 4))]) hx hb dL_holds_15 rfl hl (by decide) rfl (fun ls hl => ?_)
  exact s_H_16 l D cA tS A (fun _ => a) u h t ax sv (z 60) kc υ E hK hL hk1 hk5 ⟨(Nat.le_of_ble_eq_true rfl), (Nat.le_of_ble_eq_true rfl)⟩ ⟨(Nat.le_of_ble_eq_true rfl), (Nat.le_of_ble_eq_true rfl)⟩ 14 0 0 0 hl0 n0 _ _ θ σ sBg _ rfl D0 M0 (by omega) hm (by omega) (by omega) (by omega) (Or.inl ⟨_, rfl⟩) H locs hw ls (lv_sub hl [0, 1] rfl)
