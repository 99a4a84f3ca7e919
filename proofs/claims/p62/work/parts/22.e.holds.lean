/-! p62 by hand: a round of holds -/
set_option maxRecDepth 100000 in
set_option maxHeartbeats 4000000 in
theorem s_H_28 (l : Launch) (D : va_G) (cA : Nat → ClassId) (tS : Nat → Nat) (A : Nat → Prop) (w u h t : Nat → Nat) (ax sv sc kc : Nat) (υ : Sg) {p : Program} {e : Env} {R : Room} {s : State} {m : MethodId} {args : Array Value} {below : List Frame} {meth : Method} {c : Code} {Q : State → Prop} (E : Ev p cL_holds 6 (some .boolean) RL (Cond.code yL_holds cL_holds 6 (some .boolean) :: bw) D cA tS A s m args meth c) (hK : KA cA s) (hL : tS 5 ≤ 260) (hk1 : 1 ≤ kc) (hk5 : kc ≤ 5) (hR : 8 ≤ R.frames ∧ 197 ≤ R.locals) (T MB CB SB : Nat) (x2 : Int32) (F : va_W) (hMB : MB ≤ 7000) (hCB : CB ≤ R.cells) (hSB : SB ≤ R.slots) (k79 : (∀ (cnt hl0 n0 cells slots : Nat) (θ σ τ : Sg), DI cnt kc T hl0 σ → KM kc υ σ → hl0 ≤ 192 → θ 70 0 = nI n0 → n0 ≤ MB → cells ≤ CB → slots ≤ SB → ∀ (H : Heap) (locs : List Loc), Wd D A (wN cA tS w u h t θ υ σ τ ax sv sc kc F) s.heap H locs → ∀ ls : Array Slot, lv_has ls 6 [(2, .int x2), (0, .ref (w 80))] → W p l e R s m args below meth c H locs (cells) (slots) Q (F0 m 79 ls []))) : ∀ (k cnt hl0 n0 cells slots : Nat) (θ σ τ : Sg), DI cnt kc T hl0 σ → KM kc υ σ → hl0 ≤ 192 → θ 70 0 = nI n0 → n0 + 6 * k ≤ MB → cells + 2 * k ≤ CB → slots + 8 * k ≤ SB → k < 1000 → ∀ (H : Heap) (locs : List Loc), Wd D A (wN cA tS w u h t θ υ σ τ ax sv sc kc F) s.heap H locs → ∀ ls : Array Slot, lv_has ls 6 [(3, .int (nI k)), (2, .int x2), (0, .ref (w 80))] → W p l e R s m args below meth c H locs (cells) (slots) Q (F0 m 28 ls []) := by
  have hx := E.1.1
  have hb := E.1.2.1
  intro k
  induction k with
  | zero =>
    intro cnt hl0 n0 cells slots θ σ τ i1 i2 i3 i4 i5 i6 i7 hk H locs hw ls hl
    refine lv_iload_n hx hb dL_holds_28 rfl (lv_at hl 0 rfl) ?_
    refine lv_if_le (tgt := 79) hx hb dL_holds_29 (by decide) (fun _ => ?_) (fun z => absurd (by decide) z)
    exact k79 cnt hl0 n0 cells slots θ σ τ i1 i2 i3 i4 (by omega) (by omega) (by omega) H locs hw ls (lv_sub hl [1, 2] rfl)
  | succ k ih =>
    intro cnt hl0 n0 cells slots θ σ τ i1 i2 i3 i4 i5 i6 i7 hk H locs hw ls hl
    obtain ⟨-, h60, -, -, h12, h15, -, h31⟩ := i1.b
    have K79 := k79 cnt hl0 n0 cells slots θ σ τ i1 i2 i3 i4 (by omega) (by omega) (by omega)
    refine lv_iload_n hx hb dL_holds_28 rfl (lv_at hl 0 rfl) ?_
    refine lv_if_le (tgt := 79) hx hb dL_holds_29 (by decide) (fun z => absurd z (Int32.not_le.mpr (nI_lt (a := 0) (b := k + 1) (by omega) (by omega)))) (fun _ => ?_)
    refine lv_aload_n hx hb dL_holds_32 rfl (lv_at hl 2 rfl) ?_
    refine q_get (C := RL) (T := TL) (N := 4) (ci := 10) E (fun w h => List.mem_cons_of_mem _ (inL w h)) hw 0 rfl rfl 0 (by decide) (List.mem_cons_of_mem _ tb_412) (v := .ref ax) rfl dL_holds_33 ?_
    refine q_cx8 (As := []) (rest := []) E hw hl (c_X8_ticketCount l D cA tS A h ax sv (t 42) sc _ σ (nI cnt) (congrArg some h15)) 0 (bwV bw_c tb_646 tb_647 tb_648 tb_47 tb_649) rfl (by decide +kernel) ⟨by omega, by omega⟩ rfl rfl (Nat.le_of_ble_eq_true rfl) ⟨by omega, by omega⟩ dL_holds_36 (fun H locs hw => ?_)
    refine lv_bipush (v := nI 60) hx hb dL_holds_39 (by decide) ?_
    refine lv_icmp_ge (tgt := 79) hx hb dL_holds_41 (by decide) (fun _ => K79 H locs hw ls (lv_sub hl [1, 2] rfl)) (fun z1 => ?_)
    have hc : cnt < 60 := by
      rcases Nat.lt_or_ge cnt 60 with y | y
      · exact y
      · exact absurd (nI_le y (by omega)) z1
    refine lv_aload_n hx hb dL_holds_44 rfl (lv_at hl 2 rfl) ?_
    refine q_get (C := RL) (T := TL) (N := 4) (ci := 10) E (fun w h => List.mem_cons_of_mem _ (inL w h)) hw 0 rfl rfl 0 (by decide) (List.mem_cons_of_mem _ tb_412) (v := .ref ax) rfl dL_holds_45 ?_
    refine q_cx8 (As := []) (rest := []) E hw hl (c_X8_historyLength l D cA tS A h ax sv (t 42) sc _ σ (nI hl0) (congrArg some h31)) 0 (bwV bw_c tb_650 tb_651 tb_652 tb_47 tb_653) rfl (by decide +kernel) ⟨by omega, by omega⟩ rfl rfl (Nat.le_of_ble_eq_true rfl) ⟨by omega, by omega⟩ dL_holds_48 (fun H locs hw => ?_)
    refine lv_sipush (v := nI 190) hx hb dL_holds_51 (by decide) ?_
    refine lv_icmp_ge (tgt := 79) hx hb dL_holds_54 (by decide) (fun _ => K79 H locs hw ls (lv_sub hl [1, 2] rfl)) (fun z2 => ?_)
    have hh : hl0 < 190 := by
      rcases Nat.lt_or_ge hl0 190 with y | y
      · exact y
      · exact absurd (nI_le y (by omega)) z2
    obtain ⟨θ1, σ1, τ1, g1, cnt1, hl1, n1, g2, g3, g4, g5, g6, g7⟩ := acts_v (τ := τ) (υ := υ) i1 hk1 (by omega) hc hL i4 (by omega) (N := 10101) (by decide)
    have hM1 := i2.lo g5
    refine lv_aload_n hx hb dL_holds_57 rfl (lv_at hl 2 rfl) ?_
    refine q_cv (As := []) (rest := []) E hw hl (c_L_acts l D cA tS A w u h t ax sv sc kc F 10101 θ υ σ τ 1 θ1 σ1 τ1 g1 (by omega)) 0 (bwV bw_c tb_654 tb_656 tb_24 tb_46 tb_657) rfl (by decide +kernel) ⟨by omega, by omega⟩ 0 10 (T := TL) (N := 4) rfl rfl rfl rfl (Nat.le_of_ble_eq_true rfl) ⟨by omega, by omega⟩ dL_holds_58 (fun H locs hw => ?_)
    refine lv_if_eq (tgt := 71) hx hb dL_holds_61 (by decide) (fun z => absurd z (by decide)) (fun _ => ?_)
    refine lv_aload_n hx hb dL_holds_64 rfl (lv_at hl 2 rfl) ?_
    refine q_cvX (As := []) (rest := []) E hK hw hl (c_L_keeps l D cA tS A w u h t ax sv sc kc F 101 θ1 υ σ1 τ1 1 (keeps_v g2 hM1 (by decide)) (by omega)) 0 (bwV bw_c tb_892 tb_894 tb_42 tb_46 tb_895) rfl (by decide +kernel) ⟨by omega, by omega⟩ 0 10 (T := TL) (N := 4) rfl rfl rfl rfl (Nat.le_of_ble_eq_true rfl) ⟨by omega, by omega⟩ dL_holds_65 (fun H locs w0 hp hw => ?_)
    subst hp
    refine lv_if_ne (tgt := 73) hx hb dL_holds_68 (by decide) (fun _ => ?_) (fun z => absurd z (by decide))
    refine lv_iinc (v := nI k) (lv' := [(3, .int (nI k)), (2, .int x2), (0, .ref (w 80))]) hx hb dL_holds_73 hl (k := 0) rfl (nI_dec k) (by decide) rfl (fun ls hl => ?_)
    refine lv_goto (tgt := 28) hx hb dL_holds_76 (by decide) ?_
    exact ih cnt1 hl1 n1 (cells + 2) (slots + 8) θ1 σ1 τ1 g2 hM1 (by omega) g6 (by omega) (by omega) (by omega) (by omega) H locs hw ls hl
set_option maxRecDepth 100000 in
set_option maxHeartbeats 4000000 in
theorem s_H_105 (l : Launch) (D : va_G) (cA : Nat → ClassId) (tS : Nat → Nat) (A : Nat → Prop) (w u h t : Nat → Nat) (ax sv sc kc : Nat) (υ : Sg) {p : Program} {e : Env} {R : Room} {s : State} {m : MethodId} {args : Array Value} {below : List Frame} {meth : Method} {c : Code} {Q : State → Prop} (E : Ev p cL_holds 6 (some .boolean) RL (Cond.code yL_holds cL_holds 6 (some .boolean) :: bw) D cA tS A s m args meth c) (hK : KA cA s) (hL : tS 5 ≤ 260) (hk1 : 1 ≤ kc) (hk5 : kc ≤ 5) (hR : 8 ≤ R.frames ∧ 197 ≤ R.locals) (T cnt hl0 cells slots : Nat) (x2 : Int32) (F : va_W) (θ σ τ : Sg) (hCB : cells + 42 ≤ R.cells) (hSB : slots + 4548 ≤ R.slots) (i1 : DI cnt kc T hl0 σ) (i2 : KM kc υ σ) (i3 : hl0 ≤ 192) (hF : SF cA sv F) (k231 : (∀ (cells1 slots1 : Nat) (σ1 : Sg) (F1 : va_W), DI cnt kc T hl0 σ1 → KM kc υ σ1 → SF cA sv F1 → cells1 ≤ cells + 42 → slots1 ≤ slots + 4548 → ∀ (H : Heap) (locs : List Loc), Wd D A (wN cA tS w u h t θ υ σ1 τ ax sv sc kc F1) s.heap H locs → ∀ ls : Array Slot, lv_has ls 6 [(2, .int x2), (0, .ref (w 80))] → W p l e R s m args below meth c H locs (cells1) (slots1) Q (F0 m 231 ls []))) (H : Heap) (locs : List Loc) (hw : Wd D A (wN cA tS w u h t θ υ σ τ ax sv sc kc F) s.heap H locs) (ls : Array Slot) (hl : lv_has ls 6 [(2, .int x2), (0, .ref (w 80))]) : W p l e R s m args below meth c H locs (cells) (slots) Q (F0 m 105 ls []) := by
  have hx := E.1.1
  have hb := E.1.2.1
  obtain ⟨hT, h60, -, -, h12, h15, -, h31⟩ := i1.b
  refine lv_aload_n hx hb dL_holds_105 rfl (lv_at hl 1 rfl) ?_
  refine q_get (C := RL) (T := TL) (N := 4) (ci := 10) E (fun w h => List.mem_cons_of_mem _ (inL w h)) hw 0 rfl rfl 0 (by decide) (List.mem_cons_of_mem _ tb_412) (v := .ref ax) rfl dL_holds_106 ?_
  refine q_cx8 (As := []) (rest := []) E hw hl (c_X8_now l D cA tS A h ax sv (t 42) sc _ σ (nI T) (congrArg some h12)) 0 (bwV bw_c tb_688 tb_689 tb_690 tb_47 tb_691) rfl (by decide +kernel) ⟨by omega, by omega⟩ rfl rfl (Nat.le_of_ble_eq_true rfl) ⟨by omega, by omega⟩ dL_holds_109 (fun H locs hw => ?_)
  refine lv_istore_n (lv' := [(3, .int (nI T)), (2, .int x2), (0, .ref (w 80))]) hx hb dL_holds_112 rfl hl (by decide) rfl (fun ls hl => ?_)
  refine lv_aload_n hx hb dL_holds_113 rfl (lv_at hl 2 rfl) ?_
  refine q_get (C := RL) (T := TL) (N := 4) (ci := 10) E (fun w h => List.mem_cons_of_mem _ (inL w h)) hw 0 rfl rfl 0 (by decide) (List.mem_cons_of_mem _ tb_412) (v := .ref ax) rfl dL_holds_114 ?_
  refine q_cx8 (As := []) (rest := []) E hw hl (c_X8_logSize l D cA tS A h ax sv (t 42) sc _ σ (σ 7 0) rfl) 0 (bwV bw_c tb_667 tb_668 tb_669 tb_47 tb_670) rfl (by decide +kernel) ⟨by omega, by omega⟩ rfl rfl (Nat.le_of_ble_eq_true rfl) ⟨by omega, by omega⟩ dL_holds_117 (fun H locs hw => ?_)
  refine lv_istore (lv' := [(4, .int (σ 7 0)), (3, .int (nI T)), (2, .int x2), (0, .ref (w 80))]) hx hb dL_holds_120 hl (by decide) rfl (fun ls hl => ?_)
  refine lv_aload_n hx hb dL_holds_122 rfl (lv_at hl 3 rfl) ?_
  refine q_get (C := RL) (T := TL) (N := 4) (ci := 10) E (fun w h => List.mem_cons_of_mem _ (inL w h)) hw 0 rfl rfl 0 (by decide) (List.mem_cons_of_mem _ tb_412) (v := .ref ax) rfl dL_holds_123 ?_
  refine q_cx8 (As := []) (rest := []) E hw hl (c_X8_historyLength l D cA tS A h ax sv (t 42) sc _ σ (nI hl0) (congrArg some h31)) 0 (bwV bw_c tb_650 tb_651 tb_652 tb_47 tb_653) rfl (by decide +kernel) ⟨by omega, by omega⟩ rfl rfl (Nat.le_of_ble_eq_true rfl) ⟨by omega, by omega⟩ dL_holds_126 (fun H locs hw => ?_)
  refine lv_istore (lv' := [(5, .int (nI hl0)), (4, .int (σ 7 0)), (3, .int (nI T)), (2, .int x2), (0, .ref (w 80))]) hx hb dL_holds_129 hl (by decide) rfl (fun ls hl => ?_)
  have K139 : ∀ (g : Nat → Nat) (f : Nat → Option Nat) (X : va_W) (p0 : Sg) (H : Heap) (locs : List Loc), f 0 = some (g 46) → DI cnt kc T hl0 p0 → p0 7 0 = σ 7 0 → Lk kc σ p0 → Wd D A (s5 cA g p0 (w6 cA h σ ax sv (t 42) sc (wV cA sv f ++ (wLw tS ax (u 81) w θ ++ (wQl cA u υ kc ++ wTr cA t u τ υ kc X))))) s.heap H locs → W p l e R s m args below meth c H locs (cells + 40) (slots + 4540) Q (F0 m 139 ls [.int 1]) := by
    intro g f X p0 H locs hf D0 e7 lk hw
    refine lv_if_eq (tgt := 229) hx hb dL_holds_139 (by decide) (fun z => absurd z (by decide)) (fun _ => ?_)
    have hw : Wd D A (wN cA tS w u h t θ υ σ τ ax sv sc kc (wV cA sv f ++ s5 cA g p0 X)) s.heap H locs := hw.perm ph_2.symm
    have K176 : ∀ (σ2 : Sg) (H : Heap) (locs : List Loc), Wd D A (wN cA tS w u h t θ υ σ2 τ ax sv sc kc (wV cA sv f ++ s5 cA g p0 X)) s.heap H locs → W p l e R s m args below meth c H locs (cells + 40) (slots + 4540) Q (F0 m 176 ls []) := by
      intro σ2 H locs hw
      obtain ⟨p1, e1, D1, e71, lk1⟩ := d_copy D0 σ2 (N := 101) (by decide)
      obtain ⟨-, -, -, -, g12, g15, -, g31⟩ := D1.b
      have hM1 : KM kc υ p1 := (i2.lk lk).lk lk1
      refine lv_aload_n hx hb dL_holds_176 rfl (lv_at hl 4 rfl) ?_
      refine q_get (C := RL) (T := TL) (N := 4) (ci := 10) E (fun w h => List.mem_cons_of_mem _ (inL w h)) hw 0 rfl rfl 0 (by decide) (List.mem_cons_of_mem _ tb_412) (v := .ref ax) rfl dL_holds_177 ?_
      refine lv_iconst (v := nI 0) hx hb dL_holds_180 (by decide) ?_
      refine q_cv (As := [.int (nI 0)]) (rest := []) E (hw.perm ph_3) hl (c_X8_restore_yes l D cA tS A h ax sv (t 42) sc (wLw tS ax (u 81) w θ ++ (wQl cA u υ kc ++ wTr cA t u τ υ kc X)) σ2 101 f 0 (by decide) g p0 hf p1 e1) 1 (bwV bw_c tb_1007 tb_1008 tb_1009 tb_47 tb_1010) rfl (by decide +kernel) ⟨by omega, by omega⟩ 80 8 (T := TX8) (N := 4) rfl rfl rfl rfl (Nat.le_of_ble_eq_true rfl) ⟨by omega, by omega⟩ dL_holds_181 (fun H locs hw => ?_)
      have hw : Wd D A (wN cA tS w u h t θ υ p1 τ ax sv sc kc (wV cA sv f ++ s5 cA g p0 X)) s.heap H locs := Wd.perm (w := wK cA h p1 ++ (wLg cA h p1 600 ++ (wC cA h p1 ++ (wH cA h p1 ++ (wS h ++ (s5 cA g p0 (wX ax (h 46) sv (t 42) sc ++ (wV cA sv f ++ (wLw tS ax (u 81) w θ ++ (wQl cA u υ kc ++ wTr cA t u τ υ kc X)))))))))) hw ph_3.symm
      refine lv_if_eq (tgt := 229) hx hb dL_holds_184 (by decide) (fun z => absurd z (by decide)) (fun _ => ?_)
      refine lv_aload_n hx hb dL_holds_187 rfl (lv_at hl 4 rfl) ?_
      refine q_get (C := RL) (T := TL) (N := 4) (ci := 10) E (fun w h => List.mem_cons_of_mem _ (inL w h)) hw 0 rfl rfl 0 (by decide) (List.mem_cons_of_mem _ tb_412) (v := .ref ax) rfl dL_holds_188 ?_
      refine q_cx8 (As := []) (rest := []) E hw hl (c_X8_now l D cA tS A h ax sv (t 42) sc _ p1 (nI T) (congrArg some g12)) 0 (bwV bw_c tb_688 tb_689 tb_690 tb_47 tb_691) rfl (by decide +kernel) ⟨by omega, by omega⟩ rfl rfl (Nat.le_of_ble_eq_true rfl) ⟨by omega, by omega⟩ dL_holds_191 (fun H locs hw => ?_)
      refine lv_iload_n hx hb dL_holds_194 rfl (lv_at hl 2 rfl) ?_
      refine lv_icmp_ne (tgt := 229) hx hb dL_holds_195 (by decide) (fun z => absurd rfl z) (fun _ => ?_)
      refine lv_aload_n hx hb dL_holds_198 rfl (lv_at hl 4 rfl) ?_
      refine q_get (C := RL) (T := TL) (N := 4) (ci := 10) E (fun w h => List.mem_cons_of_mem _ (inL w h)) hw 0 rfl rfl 0 (by decide) (List.mem_cons_of_mem _ tb_412) (v := .ref ax) rfl dL_holds_199 ?_
      refine q_cx8 (As := []) (rest := []) E hw hl (c_X8_logSize l D cA tS A h ax sv (t 42) sc _ p1 (σ 7 0) (congrArg some (e71.trans e7))) 0 (bwV bw_c tb_667 tb_668 tb_669 tb_47 tb_670) rfl (by decide +kernel) ⟨by omega, by omega⟩ rfl rfl (Nat.le_of_ble_eq_true rfl) ⟨by omega, by omega⟩ dL_holds_202 (fun H locs hw => ?_)
      refine lv_iload hx hb dL_holds_205 (lv_at hl 1 rfl) ?_
      refine lv_icmp_ne (tgt := 229) hx hb dL_holds_207 (by decide) (fun z => absurd rfl z) (fun _ => ?_)
      refine lv_aload_n hx hb dL_holds_210 rfl (lv_at hl 4 rfl) ?_
      refine q_get (C := RL) (T := TL) (N := 4) (ci := 10) E (fun w h => List.mem_cons_of_mem _ (inL w h)) hw 0 rfl rfl 0 (by decide) (List.mem_cons_of_mem _ tb_412) (v := .ref ax) rfl dL_holds_211 ?_
      refine q_cx8 (As := []) (rest := []) E hw hl (c_X8_historyLength l D cA tS A h ax sv (t 42) sc _ p1 (nI hl0) (congrArg some g31)) 0 (bwV bw_c tb_650 tb_651 tb_652 tb_47 tb_653) rfl (by decide +kernel) ⟨by omega, by omega⟩ rfl rfl (Nat.le_of_ble_eq_true rfl) ⟨by omega, by omega⟩ dL_holds_214 (fun H locs hw => ?_)
      refine lv_iload hx hb dL_holds_217 (lv_at hl 0 rfl) ?_
      refine lv_icmp_ne (tgt := 229) hx hb dL_holds_219 (by decide) (fun z => absurd rfl z) (fun _ => ?_)
      refine lv_aload_n hx hb dL_holds_222 rfl (lv_at hl 4 rfl) ?_
      refine q_cvX (As := []) (rest := []) E hK hw hl (c_L_keeps l D cA tS A w u h t ax sv sc kc _ 101 θ υ p1 τ 1 (keeps_v D1 hM1 (by decide)) (by omega)) 0 (bwV bw_c tb_892 tb_894 tb_42 tb_46 tb_895) rfl (by decide +kernel) ⟨by omega, by omega⟩ 0 10 (T := TL) (N := 4) rfl rfl rfl rfl (Nat.le_of_ble_eq_true rfl) ⟨by omega, by omega⟩ dL_holds_223 (fun H locs w0 hp hw => ?_)
      subst hp
      refine lv_if_ne (tgt := 231) hx hb dL_holds_226 (by decide) (fun _ => ?_) (fun z => absurd z (by decide))
      exact k231 _ _ p1 _ D1 hM1 (Or.inr ⟨g, p0, f, X, hf, rfl⟩) (by omega) (by omega) H locs hw ls (lv_sub hl [3, 4] rfl)
    obtain ⟨v, σ1, cnt1, hl1, r1, r2, r3⟩ := rep6 i1 hk1 (by omega) (N := 101) (by decide)
    refine lv_aload_n hx hb dL_holds_142 rfl (lv_at hl 4 rfl) ?_
    refine q_get (C := RL) (T := TL) (N := 4) (ci := 10) E (fun w h => List.mem_cons_of_mem _ (inL w h)) hw 0 rfl rfl 0 (by decide) (List.mem_cons_of_mem _ tb_412) (v := .ref ax) rfl dL_holds_143 ?_
    refine lv_iconst (v := nI 0) hx hb dL_holds_146 (by decide) ?_
    refine lv_iconst (v := nI 1) hx hb dL_holds_147 (by decide) ?_
    refine lv_iconst (v := nI 1) hx hb dL_holds_148 (by decide) ?_
    refine lv_iconst (v := nI 1) hx hb dL_holds_149 (by decide) ?_
    refine q_cx8 (As := [.int (nI 0), .int (nI 1), .int (nI 1), .int (nI 1)]) (rest := []) E hw hl (c_X8_report l D cA tS A h ax sv (t 42) sc _ 101 (nI 0) (nI 1) (nI 1) (nI 1) σ v σ1 r1) 4 (bwV bw_c tb_880 tb_881 tb_882 tb_47 tb_883) rfl (by decide +kernel) ⟨by omega, by omega⟩ rfl rfl (Nat.le_of_ble_eq_true rfl) ⟨by omega, by omega⟩ dL_holds_150 (fun H locs hw => ?_)
    refine lv_bipush (v := -6) hx hb dL_holds_153 (by decide) ?_
    refine lv_icmp_lt (tgt := 229) hx hb dL_holds_155 (by decide) (fun z => absurd z r2) (fun _ => ?_)
    refine lv_iload_n hx hb dL_holds_158 rfl (lv_at hl 2 rfl) ?_
    refine lv_sipush (v := nI 10080) hx hb dL_holds_159 (by decide) ?_
    refine lv_icmp_ge (tgt := 176) hx hb dL_holds_162 (by decide) (fun _ => K176 σ1 H locs hw) (fun z => ?_)
    have hT2 : T < 10080 := by
      rcases Nat.lt_or_ge T 10080 with y | y
      · exact y
      · exact absurd (nI_le' y (by omega)) z
    obtain ⟨v2, σ2, s1, s2⟩ := pas_v r3 hT2 (N := 10101) (by decide)
    refine lv_aload_n hx hb dL_holds_165 rfl (lv_at hl 4 rfl) ?_
    refine q_get (C := RL) (T := TL) (N := 4) (ci := 10) E (fun w h => List.mem_cons_of_mem _ (inL w h)) hw 0 rfl rfl 0 (by decide) (List.mem_cons_of_mem _ tb_412) (v := .ref ax) rfl dL_holds_166 ?_
    refine lv_iconst (v := nI 1) hx hb dL_holds_169 (by decide) ?_
    refine q_cx8 (As := [.int (nI 1)]) (rest := []) E hw hl (c_X8_pass l D cA tS A h ax sv (t 42) sc _ 10101 (nI 1) σ1 v2 σ2 s1) 1 (bwV bw_c tb_971 tb_972 tb_973 tb_47 tb_974) rfl (by decide +kernel) ⟨by omega, by omega⟩ rfl rfl (Nat.le_of_ble_eq_true rfl) ⟨by omega, by omega⟩ dL_holds_170 (fun H locs hw => ?_)
    refine lv_if_lt (tgt := 229) hx hb dL_holds_173 (by decide) (fun z => absurd z s2) (fun _ => ?_)
    exact K176 σ2 H locs hw
  refine lv_aload_n hx hb dL_holds_131 rfl (lv_at hl 4 rfl) ?_
  refine q_get (C := RL) (T := TL) (N := 4) (ci := 10) E (fun w h => List.mem_cons_of_mem _ (inL w h)) hw 0 rfl rfl 0 (by decide) (List.mem_cons_of_mem _ tb_412) (v := .ref ax) rfl dL_holds_132 ?_
  refine lv_iconst (v := nI 0) hx hb dL_holds_135 (by decide) ?_
  rcases hF with ⟨X, rfl⟩ | ⟨g, ρ, f, X, hf, rfl⟩
  · obtain ⟨p0, e0, D0, e7, lk⟩ := d_copy i1 sBg (N := 101) (by decide)
    refine q_cvX (As := [.int (nI 0)]) (rest := []) E hK (hw.perm ph_1) hl (c_X8_save_new l D cA tS A h ax sv (t 42) sc (wLw tS ax (u 81) w θ ++ (wQl cA u υ kc ++ wTr cA t u τ υ kc X)) σ 101 (fun _ => none) 0 (by decide) rfl p0 e0) 1 (bwV bw_c tb_993 tb_994 tb_995 tb_47 tb_996) rfl (by decide +kernel) ⟨by omega, by omega⟩ 40 8 (T := TX8) (N := 4) rfl rfl rfl rfl (Nat.le_of_ble_eq_true rfl) ⟨by omega, by omega⟩ dL_holds_136 (fun H locs w0 hp hw => ?_)
    obtain ⟨g, rfl⟩ := hp
    exact K139 g (va_up (fun _ => none) 0 (some (g 46))) X p0 H locs rfl D0 e7 lk hw
  · obtain ⟨p0, e0, D0, e7, lk⟩ := d_copy i1 ρ (N := 101) (by decide)
    refine q_cvX (As := [.int (nI 0)]) (rest := []) E hK (hw.perm ph_2) hl (c_X8_save_old l D cA tS A h ax sv (t 42) sc (wLw tS ax (u 81) w θ ++ (wQl cA u υ kc ++ wTr cA t u τ υ kc X)) σ 101 f 0 (by decide) g ρ hf p0 e0) 1 (bwV bw_c tb_993 tb_994 tb_995 tb_47 tb_996) rfl (by decide +kernel) ⟨by omega, by omega⟩ 80 8 (T := TX8) (N := 4) rfl rfl rfl rfl (Nat.le_of_ble_eq_true rfl) ⟨by omega, by omega⟩ dL_holds_136 (fun H locs w0 hp hw => ?_)
    subst hp
    exact K139 g f X p0 H locs hf D0 e7 lk hw
