/-! p62 by hand: begins -/
theorem nI_dec (r : Nat) : nI (r + 1) + Int32.ofInt (-1) = nI r := by
  rw [← nI_1 r, Int32.add_assoc, show (1 : Int32) + Int32.ofInt (-1) = 0 by decide, Int32.add_zero]
def wBg (cA : Nat → ClassId) (tS w u : Nat → Nat) (h : Nat → Nat) (θ υ σ : Sg) (ax sv tr sc kc : Nat) (G : va_W) : va_W := wLw tS ax (u 81) w θ ++ (wLs cA tS u υ kc ++ w6 cA h σ ax sv tr sc (wKR cA u υ kc ++ G))
def BG (cA : Nat → ClassId) (tS w : Nat → Nat) (h : Nat → Nat) (ax sv tr sc : Nat) (G : va_W) (w0 : va_W) : Prop := ∃ (kc : Nat) (u : Nat → Nat) (υ θ σ : Sg) (m hl : Nat), w0 = wBg cA tS w u h θ υ σ ax sv tr sc kc G ∧ DI 0 kc 0 hl σ ∧ KM kc υ σ ∧ 1 ≤ kc ∧ kc ≤ 5 ∧ θ 70 0 = nI m ∧ m ≤ 44 ∧ hl ≤ 4
set_option maxRecDepth 100000 in
set_option maxHeartbeats 4000000 in
theorem s_B_159 (l : Launch) (D : va_G) (cA : Nat → ClassId) (tS : Nat → Nat) (A : Nat → Prop) (w h : Nat → Nat) (ax sv tr sc : Nat) (G : va_W) {p : Program} {e : Env} {R : Room} {s : State} {m : MethodId} {args : Array Value} {below : List Frame} {meth : Method} {c : Code} (u : Nat → Nat) (υ : Sg) (kc : Nat) (E : Ev p cL_begins 3 (some .boolean) RL (Cond.code yL_begins cL_begins 3 (some .boolean) :: bw) D cA tS A s m args meth c) (hK : KA cA s) (hL : tS 5 ≤ 260) (hR : 6 ≤ R.frames ∧ 10 ≤ R.cells ∧ 80 ≤ R.slots ∧ 143 ≤ R.locals) (hk1 : 1 ≤ kc) (hk5 : kc ≤ 5) : ∀ (n lv hl0 n0 cells slots : Nat) (θ σ : Sg) (_ : lv + n = 4) (_ : DI 0 kc 0 hl0 σ) (_ : hl0 ≤ lv) (_ : ∀ j, lv ≤ j → j < 4 → σ 30 j = 1) (_ : KM kc υ σ) (_ : θ 70 0 = nI n0) (_ : n0 ≤ 36 + 2 * lv) (_ : cells ≤ 10) (_ : slots ≤ 80) (H : Heap) (locs : List Loc) (hw : Wd D A (wLw tS ax (u 81) w θ ++ (wLs cA tS u υ kc ++ w6 cA h σ ax sv tr sc (wKR cA u υ kc ++ G))) s.heap H locs) (ls : Array Slot) (hl : lv_has ls 3 [(1, .int (nI lv)), (0, .ref (w 80))]), W p l e R s m args below meth c H locs cells slots (MQ below (QX D A (some (.int 1)) (BG cA tS w h ax sv tr sc G)) args s 10 80 A) (F0 m 159 ls []) := by
  have hx := E.1.1
  have hb := E.1.2.1
  intro n
  induction n with
  | zero =>
    intro lv hl0 n0 cells slots θ σ h4 hD hh ha hM hm hn hc hs H locs hw ls hl
    obtain rfl : lv = 4 := by omega
    refine lv_iload_n hx hb dL_begins_159 rfl (lv_at hl 0 rfl) ?_
    refine lv_iconst (v := 4) hx hb dL_begins_160 (by decide) ?_
    refine lv_icmp_ge (tgt := 197) hx hb dL_begins_161 (by decide) (fun _ => ?_) (fun z => absurd (by decide) z)
    refine lv_iconst (v := 1) hx hb dL_begins_197 (by decide) ?_
    refine W.widen (k := 10) (n := 80) hc hs ?_
    exact q_retzX E hw (Or.inr rfl) ⟨kc, u, υ, θ, σ, n0, hl0, rfl, hD, hM, hk1, hk5, hm, by omega, by omega⟩ dL_begins_198
  | succ n ih =>
    intro lv hl0 n0 cells slots θ σ h4 hD hh ha hM hm hn hc hs H locs hw ls hl
    have hlv : lv < 4 := by omega
    have next : ∀ (hl1 n1 : Nat) (θ1 σ1 : Sg), DI 0 kc 0 hl1 σ1 → hl1 ≤ lv + 1 → (∀ j, lv + 1 ≤ j → j < 4 → σ1 30 j = 1) → KM kc υ σ1 → θ1 70 0 = nI n1 → n1 ≤ 36 + 2 * (lv + 1) → ∀ (H : Heap) (locs : List Loc) (hw : Wd D A (wLw tS ax (u 81) w θ1 ++ (wLs cA tS u υ kc ++ w6 cA h σ1 ax sv tr sc (wKR cA u υ kc ++ G))) s.heap H locs), W p l e R s m args below meth c H locs cells slots (MQ below (QX D A (some (.int 1)) (BG cA tS w h ax sv tr sc G)) args s 10 80 A) (F0 m 191 ls []) := by
      intro hl1 n1 θ1 σ1 k1 k2 k3 k4 k5 k6 H locs hw
      refine lv_iinc (v := nI (lv + 1)) (lv' := [(1, .int (nI (lv + 1))), (0, .ref (w 80))]) hx hb dL_begins_191 hl (k := 0) rfl (nI_1 lv) (by decide) rfl (fun ls hl => ?_)
      refine lv_goto (tgt := 159) hx hb dL_begins_194 (by decide) ?_
      exact ih (lv + 1) hl1 n1 cells slots θ1 σ1 (by omega) k1 k2 k3 k4 k5 k6 hc hs H locs hw ls hl
    refine lv_iload_n hx hb dL_begins_159 rfl (lv_at hl 0 rfl) ?_
    refine lv_iconst (v := nI 4) hx hb dL_begins_160 (by decide) ?_
    refine lv_icmp_ge (tgt := 197) hx hb dL_begins_161 (by decide) (fun z => absurd z (Int32.not_le.mpr (nI_lt hlv (by decide)))) (fun _ => ?_)
    refine lv_aload_n hx hb dL_begins_164 rfl (lv_at hl 1 rfl) ?_
    refine lv_iconst (v := nI 2) hx hb dL_begins_165 (by decide) ?_
    refine q_draw (rest := []) E hw hl hL hm (by omega) (by decide) (by decide) ⟨by omega, by omega⟩ rfl (Nat.le_of_ble_eq_true rfl) ⟨by omega, by omega⟩ dL_begins_166 (fun r θ1 H locs hr hm1 hw => ?_)
    refine lv_if_ne (tgt := 191) hx hb dL_begins_169 (by decide) (fun _ => ?_) (fun _ => ?_)
    · exact next hl0 (n0 + 1) θ1 σ hD (by omega) (fun j h1 h2 => ha j (by omega) h2) hM hm1 (by omega) H locs hw
    ·
      refine lv_aload_n hx hb dL_begins_172 rfl (lv_at hl 1 rfl) ?_
      refine q_get (C := RL) (T := TL) (N := 4) (ci := 10) E (fun w h => List.mem_cons_of_mem _ (inL w h)) hw 0 rfl rfl 0 (by decide) (List.mem_cons_of_mem _ tb_412) (v := .ref ax) rfl dL_begins_173 ?_
      refine lv_iload_n hx hb dL_begins_176 rfl (lv_at hl 0 rfl) ?_
      refine lv_aload_n hx hb dL_begins_177 rfl (lv_at hl 1 rfl) ?_
      refine lv_iconst (v := nI 5) hx hb dL_begins_178 (by decide) ?_
      refine q_draw (rest := [.int (nI lv), .ref ax]) E hw hl hL hm1 (by omega) (by decide) (by decide) ⟨by omega, by omega⟩ rfl (Nat.le_of_ble_eq_true rfl) ⟨by omega, by omega⟩ dL_begins_179 (fun x θ2 H locs hx5 hm2 hw => ?_)
      obtain ⟨σ1, g1, g2, g3, g4⟩ := p_agents hD (by omega) (N := 101) (by decide) hlv (x := x) (by omega)
      rw [ha lv (Nat.le_refl _) hlv] at g1
      refine q_cx8 (As := [.int (nI lv), .int (nI x)]) (rest := []) E hw hl (c_X8_setAgents l D cA tS A h ax sv tr sc _ 101 (nI lv) (nI x) σ 1 σ1 g1) 2 (bwV bw_c tb_515 tb_516 tb_517 tb_47 tb_518) rfl (by decide +kernel) ⟨by omega, by omega⟩ rfl rfl (Nat.le_of_ble_eq_true rfl) ⟨by omega, by omega⟩ dL_begins_182 (fun H locs hw => ?_)
      refine lv_iconst (v := 1) hx hb dL_begins_185 (by decide) ?_
      refine lv_icmp_eq (tgt := 191) hx hb dL_begins_186 (by decide) (fun _ => ?_) (fun z => absurd rfl z)
      exact next (hl0 + 1) (n0 + 2) θ2 σ1 g2 (by omega) (fun j h1 h2 => by rw [g3, if_neg (by omega)]; exact ha j (by omega) h2) (hM.lo g4) hm2 (by omega) H locs hw
set_option maxRecDepth 100000 in
set_option maxHeartbeats 4000000 in
theorem s_B_8 (l : Launch) (D : va_G) (cA : Nat → ClassId) (tS : Nat → Nat) (A : Nat → Prop) (w h : Nat → Nat) (ax sv tr sc : Nat) (G : va_W) {p : Program} {e : Env} {R : Room} {s : State} {m : MethodId} {args : Array Value} {below : List Frame} {meth : Method} {c : Code} (E : Ev p cL_begins 3 (some .boolean) RL (Cond.code yL_begins cL_begins 3 (some .boolean) :: bw) D cA tS A s m args meth c) (hK : KA cA s) (hL : tS 5 ≤ 260) (hR : 6 ≤ R.frames ∧ 10 ≤ R.cells ∧ 80 ≤ R.slots ∧ 143 ≤ R.locals) : ∀ (r kc n0 : Nat) (u : Nat → Nat) (υ θ σ : Sg) (_ : kc + r ≤ 5) (_ : 1 ≤ kc + r) (_ : DI 0 kc 0 0 σ) (_ : KM kc υ σ) (_ : ∀ j, j < 4 → σ 30 j = 1) (_ : θ 70 0 = nI n0) (_ : n0 ≤ 1 + 7 * kc) (H : Heap) (locs : List Loc) (hw : Wd D A (wLw tS ax (u 81) w θ ++ (wLs cA tS u υ kc ++ w6 cA h σ ax sv tr sc (wKR cA u υ kc ++ G))) s.heap H locs) (ls : Array Slot) (hl : lv_has ls 3 [(1, .int (nI r)), (0, .ref (w 80))]), W p l e R s m args below meth c H locs (2 * kc) (16 * kc) (MQ below (QX D A (some (.int 1)) (BG cA tS w h ax sv tr sc G)) args s 10 80 A) (F0 m 8 ls []) := by
  have hx := E.1.1
  have hb := E.1.2.1
  intro r
  induction r with
  | zero =>
    intro kc n0 u υ θ σ i1 i2 i3 i4 i5 i6 i7 H locs hw ls hl
    refine lv_iload_n hx hb dL_begins_8 rfl (lv_at hl 0 rfl) ?_
    refine lv_if_le (tgt := 157) hx hb dL_begins_9 (by decide) (fun _ => ?_) (fun z => absurd (by decide) z)
    refine lv_iconst (v := nI 0) hx hb dL_begins_157 (by decide) ?_
    refine lv_istore_n (lv' := [(1, .int (nI 0)), (0, .ref (w 80))]) hx hb dL_begins_158 rfl hl (by decide) rfl (fun ls hl => ?_)
    exact s_B_159 l D cA tS A w h ax sv tr sc G u υ kc E hK hL hR (by omega) (by omega) 4 0 0 n0 _ _ θ σ rfl i3 (Nat.le_refl _) (fun j _ h2 => i5 j h2) i4 i6 (by omega) (by omega) (by omega) H locs hw ls hl
  | succ r ih =>
    intro kc n0 u υ θ σ i1 i2 i3 i4 i5 i6 i7 H locs hw ls hl
    have K95 : ∀ (q : Nat) (g : Nat → Int32) (k0 k1 k2 k3 k4 k5 : Nat) (θ1 : Sg) (n1 : Nat) (H : Heap) (locs : List Loc) (_ : g 0 = nI k0 ∧ g 1 = nI k1 ∧ g 2 = nI k2 ∧ g 3 = nI k3 ∧ g 4 = nI k4 ∧ g 5 = nI k5) (_ : k0 < 200 ∧ k1 < 500 ∧ (1 ≤ k2 ∧ k2 ≤ 60) ∧ k3 < 3 ∧ k4 ≤ 200 ∧ k5 ≤ 1) (_ : θ1 70 0 = nI n1) (_ : n1 ≤ 1 + 7 * (kc + 1)) (hw : Wd D A (wLw tS ax (u 81) w θ1 ++ ([(q, .inl (cA 0, 6, .inl g))] ++ (wLs cA tS u υ kc ++ w6 cA h σ ax sv tr sc (wKR cA u υ kc ++ G)))) s.heap H locs), W p l e R s m args below meth c H locs (2 * kc + 1) (16 * kc + 6) (MQ below (QX D A (some (.int 1)) (BG cA tS w h ax sv tr sc G)) args s 10 80 A) (F0 m 95 ls [.ref q]) := by
      intro q g k0 k1 k2 k3 k4 k5 θ1 n1 H locs ⟨h0, h1, h2, h3, h4, h5⟩ hb6 hm hn hw
      refine lv_astore_n (lv' := [(2, .ref q), (1, .int (nI (r + 1))), (0, .ref (w 80))]) hx hb dL_begins_95 rfl hl (by decide) rfl (fun ls hl => ?_)
      obtain ⟨j1, j2⟩ := p_kind i3 (by omega : kc < 6) (a := k0) (b := k1) (c := k2) (d := k3) (e := k4) (f := k5) (by omega) (by omega) (by omega) (by omega) (by omega) (by omega)
      have K127 : W p l e R s m args below meth c H locs (2 * kc + 1) (16 * kc + 6) (MQ below (QX D A (some (.int 1)) (BG cA tS w h ax sv tr sc G)) args s 10 80 A) (F0 m 127 ls [.int (nI k5), .int (nI k4), .int (nI k3), .int (nI k2), .int (nI k1), .int (nI k0), .ref ax]) := by
        have hw := hw.perm pq_in
        refine q_cx8 (As := [.int (nI k0), .int (nI k1), .int (nI k2), .int (nI k3), .int (nI k4), .int (nI k5)]) (rest := []) E hw hl (c_X8_addKind l D cA tS A h ax sv tr sc _ (nI k0) (nI k1) (nI k2) (nI k3) (nI k4) (nI k5) σ (nI kc) (kA σ kc (nI k0) (nI k1) (nI k2) (nI k3) (nI k4) (nI k5)) j1) 6 (bwV bw_c tb_446 tb_447 tb_448 tb_47 tb_449) rfl (by decide +kernel) ⟨by omega, by omega⟩ rfl rfl (Nat.le_of_ble_eq_true rfl) ⟨by omega, by omega⟩ dL_begins_127 (fun H locs hw => ?_)

        refine lv_aload_n hx hb dL_begins_130 rfl (lv_at hl 2 rfl) ?_
        refine q_get (C := RL) (T := TL) (N := 4) (ci := 10) E (fun w h => List.mem_cons_of_mem _ (inL w h)) hw 0 rfl rfl 3 (by decide) (List.mem_cons_of_mem _ tb_415) (v := .ref (u 81)) rfl dL_begins_131 ?_
        obtain ⟨fs, hfs⟩ := wLs_at (cA := cA) (tS := tS) (u := u) (υ := υ) (kc := kc) (wLw tS ax (u 81) w θ1 ++ w6 cA h (kA σ kc (nI k0) (nI k1) (nI k2) (nI k3) (nI k4) (nI k5)) ax sv tr sc ([(q, .inl (cA 0, 6, .inl g))] ++ (wKR cA u υ kc ++ G)))
        refine q_cv (As := []) (rest := [.int (nI kc)]) E (hw.perm (List.perm_append_comm_assoc _ _ _)) hl (c_sizeL l D cA tS A u υ kc _) 0 (bwV bw_c tb_457 tb_458 tb_459 tb_61 tb_460) rfl (by decide +kernel) ⟨by omega, by omega⟩ 0 9 (T := TJx4a65c) (N := 3) rfl hfs rfl rfl (Nat.le_of_ble_eq_true rfl) ⟨by omega, by omega⟩ dL_begins_134 (fun H locs hw => ?_)
        have hw := hw.perm (List.perm_append_comm_assoc _ _ _)
        refine lv_icmp_eq (tgt := 142) hx hb dL_begins_137 (by decide) (fun _ => ?_) (fun z => absurd rfl z)
        refine lv_aload_n hx hb dL_begins_142 rfl (lv_at hl 2 rfl) ?_
        refine q_get (C := RL) (T := TL) (N := 4) (ci := 10) E (fun w h => List.mem_cons_of_mem _ (inL w h)) hw 0 rfl rfl 3 (by decide) (List.mem_cons_of_mem _ tb_415) (v := .ref (u 81)) rfl dL_begins_143 ?_
        refine lv_aload_n hx hb dL_begins_146 rfl (lv_at hl 0 rfl) ?_
        refine q_addL (F := wLw tS ax (u 81) w θ1 ++ w6 cA h (kA σ kc (nI k0) (nI k1) (nI k2) (nI k3) (nI k4) (nI k5)) ax sv tr sc (wKR cA u υ kc ++ G)) (rest := []) E hK (hw.perm pl_in) hl (by omega) ⟨by omega, by omega⟩ (Nat.le_of_ble_eq_true rfl) ⟨by omega, by omega⟩ dL_begins_147 (fun u' υ' H locs a1 a2 a3 a4 hw => ?_)
        have hw := hw.perm pl_out
        have ek : wKR cA u' υ' (kc + 1) ++ G = wKR cA u υ kc ++ ([(q, .inl (cA 0, 6, .inl g))] ++ G) := by
          rw [wKR_s a2 a3 a4, List.append_assoc]
        rw [← ek, ← a1] at hw
        refine lv_pop hx hb dL_begins_150 rfl ?_
        refine lv_iinc (v := nI r) (lv' := [(1, .int (nI r)), (2, .ref q), (0, .ref (w 80))]) hx hb dL_begins_151 hl (k := 1) rfl (nI_dec r) (by decide) rfl (fun ls hl => ?_)
        refine lv_goto (tgt := 8) hx hb dL_begins_154 (by decide) ?_
        refine ih (kc + 1) n1 u' υ' θ1 _ (by omega) (by omega) j2 (fun i hi => ?_) (fun j hj => ?_) hm hn H locs hw ls (lv_sub hl [0, 2] rfl)
        · rcases Nat.lt_or_ge i kc with z | z
          · rw [(a2 i z).2, kA_old z (by decide), kA_old z (by decide), kA_old z (by decide), kA_old z (by decide)]
            exact i4 i z
          · obtain rfl : i = kc := by omega
            rw [a4, h0, h1, h2, h5]
            unfold kA
            simp only [up_ite]
            refine ⟨by simp, by simp, by simp, ?_⟩
            have : k5 = 0 ∨ k5 = 1 := by omega
            rcases this with rfl | rfl
            · simp
              decide
            · simp
              decide
        · rw [kA_row (by decide)]
          exact i5 j hj
      refine lv_aload_n hx hb dL_begins_96 rfl (lv_at hl 2 rfl) ?_
      refine q_get (C := RL) (T := TL) (N := 4) (ci := 10) E (fun w h => List.mem_cons_of_mem _ (inL w h)) hw 0 rfl rfl 0 (by decide) (List.mem_cons_of_mem _ tb_412) (v := .ref ax) rfl dL_begins_97 ?_
      refine lv_aload_n hx hb dL_begins_100 rfl (lv_at hl 0 rfl) ?_
      refine lv_iconst (v := 0) hx hb dL_begins_101 (by decide) ?_
      refine q_ald E hw 1 (n := 6) rfl (by decide) (x := nI k0) h0 dL_begins_102 ?_
      refine lv_aload_n hx hb dL_begins_103 rfl (lv_at hl 0 rfl) ?_
      refine lv_iconst (v := 1) hx hb dL_begins_104 (by decide) ?_
      refine q_ald E hw 1 (n := 6) rfl (by decide) (x := nI k1) h1 dL_begins_105 ?_
      refine lv_aload_n hx hb dL_begins_106 rfl (lv_at hl 0 rfl) ?_
      refine lv_iconst (v := 2) hx hb dL_begins_107 (by decide) ?_
      refine q_ald E hw 1 (n := 6) rfl (by decide) (x := nI k2) h2 dL_begins_108 ?_
      refine lv_aload_n hx hb dL_begins_109 rfl (lv_at hl 0 rfl) ?_
      refine lv_iconst (v := 3) hx hb dL_begins_110 (by decide) ?_
      refine q_ald E hw 1 (n := 6) rfl (by decide) (x := nI k3) h3 dL_begins_111 ?_
      refine lv_aload_n hx hb dL_begins_112 rfl (lv_at hl 0 rfl) ?_
      refine lv_iconst (v := 4) hx hb dL_begins_113 (by decide) ?_
      refine q_ald E hw 1 (n := 6) rfl (by decide) (x := nI k4) h4 dL_begins_114 ?_
      refine lv_aload_n hx hb dL_begins_115 rfl (lv_at hl 0 rfl) ?_
      refine lv_iconst (v := 5) hx hb dL_begins_116 (by decide) ?_
      refine q_ald E hw 1 (n := 6) rfl (by decide) (x := nI k5) h5 dL_begins_117 ?_
      refine lv_iconst (v := 1) hx hb dL_begins_118 (by decide) ?_
      refine lv_icmp_ne (tgt := 126) hx hb dL_begins_119 (by decide) (fun z => ?_) (fun z => ?_)
      · have : k5 = 0 := by
          rcases (by omega : k5 = 0 ∨ k5 = 1) with y | y
          · exact y
          · subst y
            exact absurd rfl z
        subst this
        refine lv_iconst (v := nI 0) hx hb dL_begins_126 (by decide) ?_
        exact K127
      · have : k5 = 1 := by
          rcases (by omega : k5 = 0 ∨ k5 = 1) with y | y
          · subst y
            exact absurd z (by decide)
          · exact y
        subst this
        refine lv_iconst (v := nI 1) hx hb dL_begins_122 (by decide) ?_
        refine lv_goto (tgt := 127) hx hb dL_begins_123 (by decide) ?_
        exact K127
    refine lv_iload_n hx hb dL_begins_8 rfl (lv_at hl 0 rfl) ?_
    refine lv_if_le (tgt := 157) hx hb dL_begins_9 (by decide) (fun z => absurd z (Int32.not_le.mpr (nI_lt (a := 0) (b := r + 1) (by omega) (by omega)))) (fun _ => ?_)
    refine lv_bipush (v := 6) hx hb dL_begins_12 (by decide) ?_
    refine q_newa (atype := .int) (ty := .int) 0 E hw rfl rfl (fun _ _ h => h) (List.mem_cons_of_mem _ tb_105) (N' := 6) (fun _ => rfl) (by decide) (by decide) (by decide) (by omega) (by omega) dL_begins_14 (fun q H hw => ?_)
    have hw : Wd D A (wLw tS ax (u 81) w θ ++ ([(q, .inl (cA 0, 6, .inl (fun _ => 0)))] ++ (wLs cA tS u υ kc ++ w6 cA h σ ax sv tr sc (wKR cA u υ kc ++ G)))) s.heap H locs := Wd.perm (w := [(q, .inl (cA 0, 6, .inl (fun _ => 0)))] ++ (wLw tS ax (u 81) w θ ++ (wLs cA tS u υ kc ++ w6 cA h σ ax sv tr sc (wKR cA u υ kc ++ G)))) hw (List.perm_append_comm_assoc _ _ _)
    have e1 : ∀ n, (1 : Int32) + nI n = nI (n + 1) := fun n => by rw [Int32.add_comm, nI_1]
    refine lv_dup hx hb dL_begins_16 rfl ?_
    refine lv_iconst (v := 0) hx hb dL_begins_17 (by decide) ?_
    refine lv_aload_n hx hb dL_begins_18 rfl (lv_at hl 1 rfl) ?_
    refine lv_sipush (v := nI 200) hx hb dL_begins_19 (by decide) ?_
    refine q_draw (n := 200) (n0 := n0) (rest := [.int 0, .ref q, .ref q]) E hw hl hL i6 (by omega) (by decide) (by decide) ⟨by omega, by omega⟩ rfl (Nat.le_of_ble_eq_true rfl) ⟨by omega, by omega⟩ dL_begins_22 (fun r0 θ1 H locs hr0 m1 hw => ?_)
    refine q_ast E hw 1 (n := 6) rfl (by decide) (wLw tS ax (u 81) w θ1 ++ ([(q, .inl (cA 0, 6, .inl (upd (fun _ => 0) (ix 0) (nI r0))))] ++ (wLs cA tS u υ kc ++ w6 cA h σ ax sv tr sc (wKR cA u υ kc ++ G)))) rfl dL_begins_25 (fun H locs hw => ?_)
    refine lv_dup hx hb dL_begins_26 rfl ?_
    refine lv_iconst (v := 1) hx hb dL_begins_27 (by decide) ?_
    refine lv_aload_n hx hb dL_begins_28 rfl (lv_at hl 1 rfl) ?_
    refine lv_sipush (v := nI 500) hx hb dL_begins_29 (by decide) ?_
    refine q_draw (n := 500) (n0 := n0 + 1) (rest := [.int 1, .ref q, .ref q]) E hw hl hL m1 (by omega) (by decide) (by decide) ⟨by omega, by omega⟩ rfl (Nat.le_of_ble_eq_true rfl) ⟨by omega, by omega⟩ dL_begins_32 (fun r1 θ2 H locs hr1 m2 hw => ?_)
    refine q_ast E hw 1 (n := 6) rfl (by decide) (wLw tS ax (u 81) w θ2 ++ ([(q, .inl (cA 0, 6, .inl (upd (upd (fun _ => 0) (ix 0) (nI r0)) (ix 1) (nI r1))))] ++ (wLs cA tS u υ kc ++ w6 cA h σ ax sv tr sc (wKR cA u υ kc ++ G)))) rfl dL_begins_35 (fun H locs hw => ?_)
    refine lv_dup hx hb dL_begins_36 rfl ?_
    refine lv_iconst (v := 2) hx hb dL_begins_37 (by decide) ?_
    refine lv_iconst (v := 1) hx hb dL_begins_38 (by decide) ?_
    refine lv_aload_n hx hb dL_begins_39 rfl (lv_at hl 1 rfl) ?_
    refine lv_bipush (v := nI 60) hx hb dL_begins_40 (by decide) ?_
    refine q_draw (n := 60) (n0 := n0 + 2) (rest := [.int 1, .int 2, .ref q, .ref q]) E hw hl hL m2 (by omega) (by decide) (by decide) ⟨by omega, by omega⟩ rfl (Nat.le_of_ble_eq_true rfl) ⟨by omega, by omega⟩ dL_begins_42 (fun r2 θ3 H locs hr2 m3 hw => ?_)
    refine lv_iadd hx hb dL_begins_45 ?_
    rw [e1]
    refine q_ast E hw 1 (n := 6) rfl (by decide) (wLw tS ax (u 81) w θ3 ++ ([(q, .inl (cA 0, 6, .inl (upd (upd (upd (fun _ => 0) (ix 0) (nI r0)) (ix 1) (nI r1)) (ix 2) (nI (r2 + 1)))))] ++ (wLs cA tS u υ kc ++ w6 cA h σ ax sv tr sc (wKR cA u υ kc ++ G)))) rfl dL_begins_46 (fun H locs hw => ?_)
    refine lv_dup hx hb dL_begins_47 rfl ?_
    refine lv_iconst (v := 3) hx hb dL_begins_48 (by decide) ?_
    refine lv_aload_n hx hb dL_begins_49 rfl (lv_at hl 1 rfl) ?_
    refine lv_iconst (v := nI 3) hx hb dL_begins_50 (by decide) ?_
    refine q_draw (n := 3) (n0 := n0 + 3) (rest := [.int 3, .ref q, .ref q]) E hw hl hL m3 (by omega) (by decide) (by decide) ⟨by omega, by omega⟩ rfl (Nat.le_of_ble_eq_true rfl) ⟨by omega, by omega⟩ dL_begins_51 (fun r3 θ4 H locs hr3 m4 hw => ?_)
    refine q_ast E hw 1 (n := 6) rfl (by decide) (wLw tS ax (u 81) w θ4 ++ ([(q, .inl (cA 0, 6, .inl (upd (upd (upd (upd (fun _ => 0) (ix 0) (nI r0)) (ix 1) (nI r1)) (ix 2) (nI (r2 + 1))) (ix 3) (nI r3))))] ++ (wLs cA tS u υ kc ++ w6 cA h σ ax sv tr sc (wKR cA u υ kc ++ G)))) rfl dL_begins_54 (fun H locs hw => ?_)
    have K78 : ∀ (k4 : Nat) (θ5 : Sg) (n5 : Nat) (H : Heap) (locs : List Loc), k4 ≤ 200 → θ5 70 0 = nI n5 → n5 ≤ n0 + 6 → Wd D A (wLw tS ax (u 81) w θ5 ++ ([(q, .inl (cA 0, 6, .inl (upd (upd (upd (upd (fun _ => 0) (ix 0) (nI r0)) (ix 1) (nI r1)) (ix 2) (nI (r2 + 1))) (ix 3) (nI r3))))] ++ (wLs cA tS u υ kc ++ w6 cA h σ ax sv tr sc (wKR cA u υ kc ++ G)))) s.heap H locs → W p l e R s m args below meth c H locs (2 * kc + 1) (16 * kc + 6) (MQ below (QX D A (some (.int 1)) (BG cA tS w h ax sv tr sc G)) args s 10 80 A) (F0 m 78 ls [.int (nI k4), .int 4, .ref q, .ref q]) := by
      intro k4 θ5 n5 H locs hk4 m5 hn5 hw
      refine q_ast E hw 1 (n := 6) rfl (by decide) (wLw tS ax (u 81) w θ5 ++ ([(q, .inl (cA 0, 6, .inl (upd (upd (upd (upd (upd (fun _ => 0) (ix 0) (nI r0)) (ix 1) (nI r1)) (ix 2) (nI (r2 + 1))) (ix 3) (nI r3)) (ix 4) (nI k4))))] ++ (wLs cA tS u υ kc ++ w6 cA h σ ax sv tr sc (wKR cA u υ kc ++ G)))) rfl dL_begins_78 (fun H locs hw => ?_)
      refine lv_dup hx hb dL_begins_79 rfl ?_
      refine lv_iconst (v := 5) hx hb dL_begins_80 (by decide) ?_
      refine lv_aload_n hx hb dL_begins_81 rfl (lv_at hl 1 rfl) ?_
      refine lv_iconst (v := nI 3) hx hb dL_begins_82 (by decide) ?_
      refine q_draw (n := 3) (n0 := n5) (rest := [.int 5, .ref q, .ref q]) E hw hl hL m5 (by omega) (by decide) (by decide) ⟨by omega, by omega⟩ rfl (Nat.le_of_ble_eq_true rfl) ⟨by omega, by omega⟩ dL_begins_83 (fun r5 θ6 H locs hr5 m6 hw => ?_)
      have K94 : ∀ k5 : Nat, k5 ≤ 1 → W p l e R s m args below meth c H locs (2 * kc + 1) (16 * kc + 6) (MQ below (QX D A (some (.int 1)) (BG cA tS w h ax sv tr sc G)) args s 10 80 A) (F0 m 94 ls [.int (nI k5), .int 5, .ref q, .ref q]) := by
        intro k5 hk5
        refine q_ast E hw 1 (n := 6) rfl (by decide) (wLw tS ax (u 81) w θ6 ++ ([(q, .inl (cA 0, 6, .inl (upd (upd (upd (upd (upd (upd (fun _ => 0) (ix 0) (nI r0)) (ix 1) (nI r1)) (ix 2) (nI (r2 + 1))) (ix 3) (nI r3)) (ix 4) (nI k4)) (ix 5) (nI k5))))] ++ (wLs cA tS u υ kc ++ w6 cA h σ ax sv tr sc (wKR cA u υ kc ++ G)))) rfl dL_begins_94 (fun H locs hw => ?_)
        exact K95 q (upd (upd (upd (upd (upd (upd (fun _ => 0) (ix 0) (nI r0)) (ix 1) (nI r1)) (ix 2) (nI (r2 + 1))) (ix 3) (nI r3)) (ix 4) (nI k4)) (ix 5) (nI k5)) r0 r1 (r2 + 1) r3 k4 k5 θ6 (n5 + 1) H locs ⟨rfl, rfl, rfl, rfl, rfl, rfl⟩ ⟨hr0, hr1, ⟨by omega, by omega⟩, hr3, hk4, hk5⟩ m6 (by omega) hw
      refine lv_if_ne (tgt := 93) hx hb dL_begins_86 (by decide) (fun _ => ?_) (fun _ => ?_)
      · refine lv_iconst (v := nI 0) hx hb dL_begins_93 (by decide) ?_
        exact K94 0 (by decide)
      · refine lv_iconst (v := nI 1) hx hb dL_begins_89 (by decide) ?_
        refine lv_goto (tgt := 94) hx hb dL_begins_90 (by decide) ?_
        exact K94 1 (by decide)
    refine lv_dup hx hb dL_begins_55 rfl ?_
    refine lv_iconst (v := 4) hx hb dL_begins_56 (by decide) ?_
    refine lv_aload_n hx hb dL_begins_57 rfl (lv_at hl 1 rfl) ?_
    refine lv_iconst (v := nI 2) hx hb dL_begins_58 (by decide) ?_
    refine q_draw (n := 2) (n0 := n0 + 4) (rest := [.int 4, .ref q, .ref q]) E hw hl hL m4 (by omega) (by decide) (by decide) ⟨by omega, by omega⟩ rfl (Nat.le_of_ble_eq_true rfl) ⟨by omega, by omega⟩ dL_begins_59 (fun r4 θ5 H locs hr4 m5 hw => ?_)
    refine lv_if_ne (tgt := 69) hx hb dL_begins_62 (by decide) (fun _ => ?_) (fun _ => ?_)
    · refine lv_iconst (v := 1) hx hb dL_begins_69 (by decide) ?_
      refine lv_aload_n hx hb dL_begins_70 rfl (lv_at hl 1 rfl) ?_
      refine lv_sipush (v := nI 200) hx hb dL_begins_71 (by decide) ?_
      refine q_draw (n := 200) (n0 := n0 + 5) (rest := [.int 1, .int 4, .ref q, .ref q]) E hw hl hL m5 (by omega) (by decide) (by decide) ⟨by omega, by omega⟩ rfl (Nat.le_of_ble_eq_true rfl) ⟨by omega, by omega⟩ dL_begins_74 (fun r5 θ6 H locs hr5 m6 hw => ?_)
      refine lv_iadd hx hb dL_begins_77 ?_
      rw [e1]
      exact K78 (r5 + 1) θ6 (n0 + 6) H locs (by omega) m6 (by omega) hw
    · refine lv_iconst (v := nI 0) hx hb dL_begins_65 (by decide) ?_
      refine lv_goto (tgt := 78) hx hb dL_begins_66 (by decide) ?_
      exact K78 0 θ5 (n0 + 5) H locs (by omega) m5 (by omega) hw
set_option maxRecDepth 100000 in
set_option maxHeartbeats 4000000 in
theorem c_L_begins (l : Launch) (D : va_G) (cA : Nat → ClassId) (tS : Nat → Nat) (A : Nat → Prop) (w h : Nat → Nat) (ax sv tr sc : Nat) (G : va_W) (u : Nat → Nat) (θ υ : Sg) (hL : tS 5 ≤ 260) (hm : θ 70 0 = 0) : CX l yL_begins (Cond.code yL_begins cL_begins 3 (some .boolean) :: bw) 6 10 80 143 D cA tS A [.ref (w 80)] (wBg cA tS w u h θ υ sBg ax sv tr sc 0 G) (some (.int 1)) (BG cA tS w h ax sv tr sc G) := by
  refine cx_of (by decide +kernel) (Nat.le_of_ble_eq_true rfl) ?_
  intro p e s m below meth c E hKA hnm hw ls hl
  replace E : Ev p cL_begins 3 (some .boolean) RL (Cond.code yL_begins cL_begins 3 (some .boolean) :: bw) D cA tS A s m _ meth c := E
  replace hl : lv_has ls 3 [(0, .ref (w 80))] := hl
  replace hw : Wd D A (wLw tS ax (u 81) w θ ++ (wLs cA tS u υ 0 ++ w6 cA h sBg ax sv tr sc (wKR cA u υ 0 ++ G))) s.heap s.heap [] := hw
  have hx := E.1.1
  have hb := E.1.2.1
  refine lv_iconst (v := 1) hx hb dL_begins_0 (by decide) ?_
  refine lv_aload_n hx hb dL_begins_1 rfl (lv_at hl 0 rfl) ?_
  refine lv_iconst (v := nI 5) hx hb dL_begins_2 (by decide) ?_
  refine q_draw (n := 5) (n0 := 0) (rest := [.int 1]) E hw hl hL hm (by omega) (by decide) (by decide) ⟨Nat.le_of_ble_eq_true rfl, Nat.le_of_ble_eq_true rfl⟩ rfl (Nat.le_of_ble_eq_true rfl) ⟨Nat.le_of_ble_eq_true rfl, Nat.le_of_ble_eq_true rfl⟩ dL_begins_3 (fun r θ1 H locs hr m1 hw => ?_)
  refine lv_iadd hx hb dL_begins_6 ?_
  rw [show (1 : Int32) + nI r = nI (r + 1) by rw [Int32.add_comm, nI_1]]
  refine lv_istore_n (lv' := [(1, .int (nI (r + 1))), (0, .ref (w 80))]) hx hb dL_begins_7 rfl hl (by decide) rfl (fun ls hl => ?_)
  exact s_B_8 l D cA tS A w h ax sv tr sc G E hKA hL ⟨Nat.le_refl _, Nat.le_refl _, Nat.le_refl _, Nat.le_refl _⟩ (r + 1) 0 1 u υ θ1 sBg (by omega) (by omega) D_start (fun i h => absurd h (Nat.not_lt_zero _)) (fun j hj => sBg_30 hj) m1 (by omega) H locs hw ls hl
-- end
