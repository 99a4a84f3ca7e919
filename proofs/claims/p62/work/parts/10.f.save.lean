/-! save and restore in the class -/
section HSV
variable {p : Program} {l : Launch} {e : Env} {R : Room} {s : State} {m : MethodId} {args : Array Value} {below : List Frame} {meth : Method} {c : Code} {H : Heap} {locs : List Loc} {cells slots : Nat} {Q : State → Prop}
variable {cc : ByteArray} {nL pc : Nat} {ret : Option FieldType} {own : String} {Ts : List Cond} {D : va_G} {cA : Nat → ClassId} {tS : Nat → Nat} {A : Nat → Prop} {w : va_W} {ls : Array Slot} {rest : List Value}
theorem q_aldst (E : Ev p cc nL ret own Ts D cA tS A s m args meth c) (hw : Wd D A w s.heap H locs) (q0 : Nat) {a n : Nat} {f : Nat → Option Nat} (he : w[q0]? = some (a, .inl (cA 4, n, .inr (.inr (.inr (.inr f)))))) {i : Int32} (hin : ib i n) {o : Option Nat} (ho : f (ix i) = o) (hdg : decode cc pc = .ok (.aaload, 1))
    (kk : W p l e R s m args below meth c H locs cells slots Q (F0 m (pc + 1) ls (va_rf o :: rest))) : W p l e R s m args below meth c H locs cells slots Q (F0 m pc ls (.int i :: .ref a :: rest)) := by
  subst ho
  exact va_aldq (C := RX6) E.1.1 E.1.2.1 E.2.2.2.2.1 hw.1 q0 4 he rfl hin hdg kk
theorem q_astst (E : Ev p cc nL ret own Ts D cA tS A s m args meth c) (hw : Wd D A w s.heap H locs) (q0 qk : Nat) {a n v : Nat} {f : Nat → Option Nat} {vs : List Value} (he : w[q0]? = some (a, .inl (cA 4, n, .inr (.inr (.inr (.inr f)))))) (hv : w[qk]? = some (v, .inr (6, vs))) {i : Int32} (hin : ib i n) (w' : va_W) (hw' : w.set q0 (a, .inl (cA 4, n, .inr (.inr (.inr (.inr (va_up f (ix i) (some v))))))) = w') (hdg : decode cc pc = .ok (.aastore, 1))
    (kk : ∀ (H1 : Heap) (locs1 : List Loc), Wd D A w' s.heap H1 locs1 → W p l e R s m args below meth c H1 locs1 cells slots Q (F0 m (pc + 1) ls rest)) : W p l e R s m args below meth c H locs cells slots Q (F0 m pc ls (.ref v :: .int i :: .ref a :: rest)) := by
  subst hw'
  exact va_astq (r := (RX6, TX6, 2)) E.1.1 E.1.2.1 E.2.2.2.2.1 hw.1 hw.2.1 hw.2.2 q0 4 qk 6 he rfl hv rfl hin hdg (fun H1 locs1 h1 h2 h3 => kk H1 locs1 ⟨h1, h2, h3⟩)
end HSV
theorem ws_ok {s : Nat} (h : s < 2) : f_X8_within (nI s) 0 1 = some 1 := by
  have : s = 0 ∨ s = 1 := by omega
  rcases this with rfl | rfl <;> decide
theorem ws_no {x : Int32} (h : ¬ (0 ≤ x ∧ x ≤ 1)) : f_X8_within x 0 1 = some 0 := by
  rcases wi x 0 1 with w | w
  · exact absurd w.2 h
  · exact w.1
theorem c_X8_save_bad (l : Launch) (D : va_G) (cA : Nat → ClassId) (tS : Nat → Nat) (A : Nat → Prop) (h : Nat → Nat) (ax sv tr sc : Nat) (F : va_W) (σ : Sg) (x1 : Int32) (hb1 : f_X8_within x1 0 1 = some 0) : CX l yX8_save (Cond.code yX8_save cX8_save 3 (some .boolean) :: bw) 5 40 4540 137 D cA tS A [.ref ax, .int x1] (wK cA h σ ++ (wLg cA h σ 600 ++ (wC cA h σ ++ (wH cA h σ ++ (wS h ++ (wX ax (h 46) sv tr sc ++ (F))))))) (some (.int 0)) (fun w0 => w0 = wK cA h σ ++ (wLg cA h σ 600 ++ (wC cA h σ ++ (wH cA h σ ++ (wS h ++ (wX ax (h 46) sv tr sc ++ (F))))))) := by
  refine cx_of (by decide +kernel) (Nat.le_of_ble_eq_true rfl) ?_
  intro p e s m below meth c E hKA hnm hw ls hl
  replace E : Ev p cX8_save 3 (some .boolean) RX8 (Cond.code yX8_save cX8_save 3 (some .boolean) :: bw) D cA tS A s m _ meth c := E
  replace hl : lv_has ls 3 [(0, .ref ax), (1, .int x1)] := hl
  have hx := E.1.1
  have hb := E.1.2.1
  refine lv_iload_n hx hb dX8_save_0 rfl (lv_at hl 1 rfl) ?_
  refine lv_iconst (v := 0) hx hb dX8_save_1 (by decide) ?_
  refine lv_iconst (v := 1) hx hb dX8_save_2 (by decide) ?_
  refine q_cs (As := [.int x1, .int 0, .int 1]) (rest := []) E hw hl (c_X8_within l D cA tS A (wK cA h σ ++ (wLg cA h σ 600 ++ (wC cA h σ ++ (wH cA h σ ++ (wS h ++ (wX ax (h 46) sv tr sc ++ (F))))))) x1 0 1 0 hb1) 3 (bwS bw_c tb_450 tb_451 tb_47 tb_452) rfl (by decide +kernel) ⟨(Nat.le_of_ble_eq_true rfl), (Nat.le_of_ble_eq_true rfl)⟩ rfl rfl (Nat.le_of_ble_eq_true rfl) ⟨Nat.zero_le _, Nat.zero_le _⟩ dX8_save_3 (fun H locs hw => ?_)
  refine lv_if_ne (tgt := 11) hx hb dX8_save_6 (by decide) (fun c3 => absurd rfl c3) (fun c3 => ?_)
  refine lv_iconst (v := 0) hx hb dX8_save_9 (by decide) ?_
  refine W.widen (k := 40) (n := 4540) (Nat.le_of_ble_eq_true rfl) (Nat.le_of_ble_eq_true rfl) ?_
  exact q_retzX E hw (Or.inl rfl) rfl dX8_save_10
theorem c_X8_restore_bad (l : Launch) (D : va_G) (cA : Nat → ClassId) (tS : Nat → Nat) (A : Nat → Prop) (h : Nat → Nat) (ax sv tr sc : Nat) (F : va_W) (σ : Sg) (x1 : Int32) (hb1 : f_X8_within x1 0 1 = some 0) : Ct l yX8_restore (Cond.code yX8_restore cX8_restore 3 (some .boolean) :: bw) 4 116 D cA tS A [.ref ax, .int x1] (wK cA h σ ++ (wLg cA h σ 600 ++ (wC cA h σ ++ (wH cA h σ ++ (wS h ++ (wX ax (h 46) sv tr sc ++ (F))))))) (some (.int 0)) (wK cA h σ ++ (wLg cA h σ 600 ++ (wC cA h σ ++ (wH cA h σ ++ (wS h ++ (wX ax (h 46) sv tr sc ++ (F))))))) := by
  refine ct_of (by decide +kernel) (Nat.le_of_ble_eq_true rfl) ?_
  intro p e s m below meth c E hw ls hl
  replace E : Ev p cX8_restore 3 (some .boolean) RX8 (Cond.code yX8_restore cX8_restore 3 (some .boolean) :: bw) D cA tS A s m _ meth c := E
  replace hl : lv_has ls 3 [(0, .ref ax), (1, .int x1)] := hl
  have hx := E.1.1
  have hb := E.1.2.1
  refine lv_iload_n hx hb dX8_restore_0 rfl (lv_at hl 1 rfl) ?_
  refine lv_iconst (v := 0) hx hb dX8_restore_1 (by decide) ?_
  refine lv_iconst (v := 1) hx hb dX8_restore_2 (by decide) ?_
  refine q_cs (As := [.int x1, .int 0, .int 1]) (rest := []) E hw hl (c_X8_within l D cA tS A (wK cA h σ ++ (wLg cA h σ 600 ++ (wC cA h σ ++ (wH cA h σ ++ (wS h ++ (wX ax (h 46) sv tr sc ++ (F))))))) x1 0 1 0 hb1) 3 (bwS bw_c tb_450 tb_451 tb_47 tb_452) rfl (by decide +kernel) ⟨(Nat.le_of_ble_eq_true rfl), (Nat.le_of_ble_eq_true rfl)⟩ rfl rfl (Nat.le_of_ble_eq_true rfl) ⟨Nat.zero_le _, Nat.zero_le _⟩ dX8_restore_3 (fun H locs hw => ?_)
  refine lv_if_ne (tgt := 11) hx hb dX8_restore_6 (by decide) (fun c3 => absurd rfl c3) (fun c3 => ?_)
  refine lv_iconst (v := 0) hx hb dX8_restore_9 (by decide) ?_
  exact q_retz E hw (Or.inl rfl) dX8_restore_10
theorem c_X8_save_new (l : Launch) (D : va_G) (cA : Nat → ClassId) (tS : Nat → Nat) (A : Nat → Prop) (h : Nat → Nat) (ax sv tr sc : Nat) (F : va_W) (σ : Sg) (N : Nat) (f : Nat → Option Nat) (s1 : Nat) (hs : s1 < 2) (hf : f s1 = none) (p0 : Sg) (hp0 : f_X6_copyFrom N 600 600 sBg σ = some p0) : CX l yX8_save (Cond.code yX8_save cX8_save 3 (some .boolean) :: bw) 5 40 4540 137 D cA tS A [.ref ax, .int (nI s1)] (wK cA h σ ++ (wLg cA h σ 600 ++ (wC cA h σ ++ (wH cA h σ ++ (wS h ++ (wX ax (h 46) sv tr sc ++ ((sv, .inl (cA 4, 2, .inr (.inr (.inr (.inr f))))) :: F))))))) (some (.int 1)) (fun w0 => ∃ g : Nat → Nat, w0 = wK cA g p0 ++ (wLg cA g p0 600 ++ (wC cA g p0 ++ (wH cA g p0 ++ (wS g ++ (wK cA h σ ++ (wLg cA h σ 600 ++ (wC cA h σ ++ (wH cA h σ ++ (wS h ++ (wX ax (h 46) sv tr sc ++ ((sv, .inl (cA 4, 2, .inr (.inr (.inr (.inr (va_up f s1 (some (g 46)))))))) :: F)))))))))))) := by
  refine cx_of (by decide +kernel) (Nat.le_of_ble_eq_true rfl) ?_
  intro p e s m below meth c E hKA hnm hw ls hl
  replace E : Ev p cX8_save 3 (some .boolean) RX8 (Cond.code yX8_save cX8_save 3 (some .boolean) :: bw) D cA tS A s m _ meth c := E
  replace hl : lv_has ls 3 [(0, .ref ax), (1, .int (nI s1))] := hl
  have hx := E.1.1
  have hb := E.1.2.1
  refine lv_iload_n hx hb dX8_save_0 rfl (lv_at hl 1 rfl) ?_
  refine lv_iconst (v := 0) hx hb dX8_save_1 (by decide) ?_
  refine lv_iconst (v := 1) hx hb dX8_save_2 (by decide) ?_
  refine q_cs (As := [.int (nI s1), .int 0, .int 1]) (rest := []) E hw hl (c_X8_within l D cA tS A (wK cA h σ ++ (wLg cA h σ 600 ++ (wC cA h σ ++ (wH cA h σ ++ (wS h ++ (wX ax (h 46) sv tr sc ++ ((sv, .inl (cA 4, 2, .inr (.inr (.inr (.inr f))))) :: F))))))) (nI s1) 0 1 1 (ws_ok hs)) 3 (bwS bw_c tb_450 tb_451 tb_47 tb_452) rfl (by decide +kernel) ⟨(Nat.le_of_ble_eq_true rfl), (Nat.le_of_ble_eq_true rfl)⟩ rfl rfl (Nat.le_of_ble_eq_true rfl) ⟨Nat.zero_le _, Nat.zero_le _⟩ dX8_save_3 (fun H locs hw => ?_)
  refine lv_if_ne (tgt := 11) hx hb dX8_save_6 (by decide) (fun c3 => ?_) (fun c3 => absurd c3 (by decide))
  have hin : ib (nI s1) 2 := ib_nI hs (by decide)
  have his : ix (nI s1) = s1 := ix_nI (by omega)
  refine lv_aload_n hx hb dX8_save_11 rfl (lv_at hl 0 rfl) ?_
  refine q_get (C := RX8) (T := TX8) (N := 4) (ci := 8) E (fun w h => List.mem_cons_of_mem _ (inX8 w h)) hw 40 rfl rfl 1 (by decide) (List.mem_cons_of_mem _ tb_374) (v := .ref sv) rfl dX8_save_12 ?_
  refine lv_iload_n hx hb dX8_save_15 rfl (lv_at hl 1 rfl) ?_
  refine q_aldst E hw 41 rfl hin (o := none) (by rw [his]; exact hf) dX8_save_16 ?_
  refine lv_astore_nN (lv' := [(2, .null), (0, .ref ax), (1, .int (nI s1))]) hx hb dX8_save_17 rfl hl (by decide) rfl (fun ls hl => ?_)
  refine lv_aload_nN hx hb dX8_save_18 rfl (lv_at hl 0 rfl) ?_
  refine lv_ifnonnullN hx hb dX8_save_19 ?_
  refine q_new (C := RX6) (T := TX6) (N := 2) (ci := 6) E (fun w h => List.mem_cons_of_mem _ (inX6 w h)) tyX6 tyX6_ok hw rfl (fs := [.null, .null]) (fun j hj => by
      have : j = 0 ∨ j = 1 := by omega
      rcases this with rfl | rfl <;> rfl) (List.mem_cons_of_mem _ tb_80) (List.mem_cons_of_mem _ tb_81) (List.mem_cons_of_mem _ tb_48) (Nat.le_of_ble_eq_true rfl) (Nat.le_of_ble_eq_true rfl) dX8_save_22 (fun q1 H hw => ?_)
  refine lv_dup hx hb dX8_save_25 rfl ?_
  refine q_ctorN (As := []) E hKA hw hl (c_X6_init l D cA tS A q1 (wK cA h σ ++ (wLg cA h σ 600 ++ (wC cA h σ ++ (wH cA h σ ++ (wS h ++ (wX ax (h 46) sv tr sc ++ ((sv, .inl (cA 4, 2, .inr (.inr (.inr (.inr f))))) :: F)))))))) 0 (bwc bw_c tb_84) rfl (List.mem_cons_of_mem _ tb_48) (host := "HelpDesk") (by decide +kernel) (List.mem_cons_of_mem _ tb_83) rfl (by decide +kernel) ⟨(Nat.le_of_ble_eq_true rfl), (Nat.le_of_ble_eq_true rfl)⟩ rfl rfl (Nat.le_of_ble_eq_true rfl) ⟨(Nat.le_of_ble_eq_true rfl), (Nat.le_of_ble_eq_true rfl)⟩ dX8_save_26 (fun H locs w0 hp hw => ?_)
  obtain ⟨g, rfl, rfl⟩ := hp
  refine lv_astore_n (lv' := [(2, .ref (g 46)), (0, .ref ax), (1, .int (nI s1))]) hx hb dX8_save_29 rfl hl (by decide) rfl (fun ls hl => ?_)
  refine lv_aload_n hx hb dX8_save_30 rfl (lv_at hl 1 rfl) ?_
  refine q_get (C := RX8) (T := TX8) (N := 4) (ci := 8) E (fun w h => List.mem_cons_of_mem _ (inX8 w h)) hw 80 rfl rfl 1 (by decide) (List.mem_cons_of_mem _ tb_374) (v := .ref sv) rfl dX8_save_31 ?_
  refine lv_iload_n hx hb dX8_save_34 rfl (lv_at hl 2 rfl) ?_
  refine lv_aload_n hx hb dX8_save_35 rfl (lv_at hl 0 rfl) ?_
  refine q_astst E hw 81 39 rfl rfl hin (wK cA g sBg ++ (wLg cA g sBg 600 ++ (wC cA g sBg ++ (wH cA g sBg ++ (wS g ++ (wK cA h σ ++ (wLg cA h σ 600 ++ (wC cA h σ ++ (wH cA h σ ++ (wS h ++ (wX ax (h 46) sv tr sc ++ ((sv, .inl (cA 4, 2, .inr (.inr (.inr (.inr (va_up f s1 (some (g 46)))))))) :: F)))))))))))) (by rw [his]; rfl) dX8_save_36 (fun H locs hw => ?_)
  refine lv_aload_n hx hb dX8_save_37 rfl (lv_at hl 0 rfl) ?_
  refine lv_aload_n hx hb dX8_save_38 rfl (lv_at hl 1 rfl) ?_
  refine q_get (C := RX8) (T := TX8) (N := 4) (ci := 8) E (fun w h => List.mem_cons_of_mem _ (inX8 w h)) hw 80 rfl rfl 0 (by decide) (List.mem_cons_of_mem _ tb_373) (v := .ref (h 46)) rfl dX8_save_39 ?_
  refine q_cvv (As := [.ref (h 46)]) (rest := []) E hw hl (c_X6_copyFrom l D cA tS A g h 600 600 (wX ax (h 46) sv tr sc ++ ((sv, .inl (cA 4, 2, .inr (.inr (.inr (.inr (va_up f s1 (some (g 46)))))))) :: F)) N sBg σ p0 hp0) 1 (bwV bw_c tb_997 tb_998 tb_999 tb_48 tb_1000) rfl (by decide +kernel) ⟨(Nat.le_of_ble_eq_true rfl), (Nat.le_of_ble_eq_true rfl)⟩ 39 6 (T := TX6) (N := 2) rfl rfl rfl rfl (Nat.le_of_ble_eq_true rfl) ⟨(Nat.le_of_ble_eq_true rfl), (Nat.le_of_ble_eq_true rfl)⟩ dX8_save_42 (fun H locs hw => ?_)
  refine lv_iconst (v := 1) hx hb dX8_save_45 (by decide) ?_
  refine W.widen (k := 40) (n := 4540) (Nat.le_of_ble_eq_true rfl) (Nat.le_of_ble_eq_true rfl) ?_
  exact q_retzX E hw (Or.inr rfl) ⟨g, rfl⟩ dX8_save_46
theorem c_X8_save_old (l : Launch) (D : va_G) (cA : Nat → ClassId) (tS : Nat → Nat) (A : Nat → Prop) (h : Nat → Nat) (ax sv tr sc : Nat) (F : va_W) (σ : Sg) (N : Nat) (f : Nat → Option Nat) (s1 : Nat) (hs : s1 < 2) (g : Nat → Nat) (ρ : Sg) (hf : f s1 = some (g 46)) (p0 : Sg) (hp0 : f_X6_copyFrom N 600 600 ρ σ = some p0) : CX l yX8_save (Cond.code yX8_save cX8_save 3 (some .boolean) :: bw) 5 40 4540 137 D cA tS A [.ref ax, .int (nI s1)] (wK cA g ρ ++ (wLg cA g ρ 600 ++ (wC cA g ρ ++ (wH cA g ρ ++ (wS g ++ (wK cA h σ ++ (wLg cA h σ 600 ++ (wC cA h σ ++ (wH cA h σ ++ (wS h ++ (wX ax (h 46) sv tr sc ++ ((sv, .inl (cA 4, 2, .inr (.inr (.inr (.inr f))))) :: F)))))))))))) (some (.int 1)) (fun w0 => w0 = wK cA g p0 ++ (wLg cA g p0 600 ++ (wC cA g p0 ++ (wH cA g p0 ++ (wS g ++ (wK cA h σ ++ (wLg cA h σ 600 ++ (wC cA h σ ++ (wH cA h σ ++ (wS h ++ (wX ax (h 46) sv tr sc ++ ((sv, .inl (cA 4, 2, .inr (.inr (.inr (.inr f))))) :: F)))))))))))) := by
  refine cx_of (by decide +kernel) (Nat.le_of_ble_eq_true rfl) ?_
  intro p e s m below meth c E hKA hnm hw ls hl
  replace E : Ev p cX8_save 3 (some .boolean) RX8 (Cond.code yX8_save cX8_save 3 (some .boolean) :: bw) D cA tS A s m _ meth c := E
  replace hl : lv_has ls 3 [(0, .ref ax), (1, .int (nI s1))] := hl
  have hx := E.1.1
  have hb := E.1.2.1
  refine lv_iload_n hx hb dX8_save_0 rfl (lv_at hl 1 rfl) ?_
  refine lv_iconst (v := 0) hx hb dX8_save_1 (by decide) ?_
  refine lv_iconst (v := 1) hx hb dX8_save_2 (by decide) ?_
  refine q_cs (As := [.int (nI s1), .int 0, .int 1]) (rest := []) E hw hl (c_X8_within l D cA tS A (wK cA g ρ ++ (wLg cA g ρ 600 ++ (wC cA g ρ ++ (wH cA g ρ ++ (wS g ++ (wK cA h σ ++ (wLg cA h σ 600 ++ (wC cA h σ ++ (wH cA h σ ++ (wS h ++ (wX ax (h 46) sv tr sc ++ ((sv, .inl (cA 4, 2, .inr (.inr (.inr (.inr f))))) :: F)))))))))))) (nI s1) 0 1 1 (ws_ok hs)) 3 (bwS bw_c tb_450 tb_451 tb_47 tb_452) rfl (by decide +kernel) ⟨(Nat.le_of_ble_eq_true rfl), (Nat.le_of_ble_eq_true rfl)⟩ rfl rfl (Nat.le_of_ble_eq_true rfl) ⟨Nat.zero_le _, Nat.zero_le _⟩ dX8_save_3 (fun H locs hw => ?_)
  refine lv_if_ne (tgt := 11) hx hb dX8_save_6 (by decide) (fun c3 => ?_) (fun c3 => absurd c3 (by decide))
  have hin : ib (nI s1) 2 := ib_nI hs (by decide)
  have his : ix (nI s1) = s1 := ix_nI (by omega)
  refine lv_aload_n hx hb dX8_save_11 rfl (lv_at hl 0 rfl) ?_
  refine q_get (C := RX8) (T := TX8) (N := 4) (ci := 8) E (fun w h => List.mem_cons_of_mem _ (inX8 w h)) hw 80 rfl rfl 1 (by decide) (List.mem_cons_of_mem _ tb_374) (v := .ref sv) rfl dX8_save_12 ?_
  refine lv_iload_n hx hb dX8_save_15 rfl (lv_at hl 1 rfl) ?_
  refine q_aldst E hw 81 rfl hin (o := some (g 46)) (by rw [his]; exact hf) dX8_save_16 ?_
  refine lv_astore_n (lv' := [(2, .ref (g 46)), (0, .ref ax), (1, .int (nI s1))]) hx hb dX8_save_17 rfl hl (by decide) rfl (fun ls hl => ?_)
  refine lv_aload_n hx hb dX8_save_18 rfl (lv_at hl 0 rfl) ?_
  refine lv_ifnonnull (tgt := 37) hx hb dX8_save_19 (by decide) ?_
  refine lv_aload_n hx hb dX8_save_37 rfl (lv_at hl 0 rfl) ?_
  refine lv_aload_n hx hb dX8_save_38 rfl (lv_at hl 1 rfl) ?_
  refine q_get (C := RX8) (T := TX8) (N := 4) (ci := 8) E (fun w h => List.mem_cons_of_mem _ (inX8 w h)) hw 80 rfl rfl 0 (by decide) (List.mem_cons_of_mem _ tb_373) (v := .ref (h 46)) rfl dX8_save_39 ?_
  refine q_cvv (As := [.ref (h 46)]) (rest := []) E hw hl (c_X6_copyFrom l D cA tS A g h 600 600 (wX ax (h 46) sv tr sc ++ ((sv, .inl (cA 4, 2, .inr (.inr (.inr (.inr f))))) :: F)) N ρ σ p0 hp0) 1 (bwV bw_c tb_997 tb_998 tb_999 tb_48 tb_1000) rfl (by decide +kernel) ⟨(Nat.le_of_ble_eq_true rfl), (Nat.le_of_ble_eq_true rfl)⟩ 39 6 (T := TX6) (N := 2) rfl rfl rfl rfl (Nat.le_of_ble_eq_true rfl) ⟨(Nat.le_of_ble_eq_true rfl), (Nat.le_of_ble_eq_true rfl)⟩ dX8_save_42 (fun H locs hw => ?_)
  refine lv_iconst (v := 1) hx hb dX8_save_45 (by decide) ?_
  refine W.widen (k := 40) (n := 4540) (Nat.le_of_ble_eq_true rfl) (Nat.le_of_ble_eq_true rfl) ?_
  exact q_retzX E hw (Or.inr rfl) rfl dX8_save_46
theorem c_X8_restore_no (l : Launch) (D : va_G) (cA : Nat → ClassId) (tS : Nat → Nat) (A : Nat → Prop) (h : Nat → Nat) (ax sv tr sc : Nat) (F : va_W) (σ : Sg) (f : Nat → Option Nat) (s1 : Nat) (hs : s1 < 2) (hf : f s1 = none) : Ct l yX8_restore (Cond.code yX8_restore cX8_restore 3 (some .boolean) :: bw) 4 116 D cA tS A [.ref ax, .int (nI s1)] (wK cA h σ ++ (wLg cA h σ 600 ++ (wC cA h σ ++ (wH cA h σ ++ (wS h ++ (wX ax (h 46) sv tr sc ++ ((sv, .inl (cA 4, 2, .inr (.inr (.inr (.inr f))))) :: F))))))) (some (.int 0)) (wK cA h σ ++ (wLg cA h σ 600 ++ (wC cA h σ ++ (wH cA h σ ++ (wS h ++ (wX ax (h 46) sv tr sc ++ ((sv, .inl (cA 4, 2, .inr (.inr (.inr (.inr f))))) :: F))))))) := by
  refine ct_of (by decide +kernel) (Nat.le_of_ble_eq_true rfl) ?_
  intro p e s m below meth c E hw ls hl
  replace E : Ev p cX8_restore 3 (some .boolean) RX8 (Cond.code yX8_restore cX8_restore 3 (some .boolean) :: bw) D cA tS A s m _ meth c := E
  replace hl : lv_has ls 3 [(0, .ref ax), (1, .int (nI s1))] := hl
  have hx := E.1.1
  have hb := E.1.2.1
  refine lv_iload_n hx hb dX8_restore_0 rfl (lv_at hl 1 rfl) ?_
  refine lv_iconst (v := 0) hx hb dX8_restore_1 (by decide) ?_
  refine lv_iconst (v := 1) hx hb dX8_restore_2 (by decide) ?_
  refine q_cs (As := [.int (nI s1), .int 0, .int 1]) (rest := []) E hw hl (c_X8_within l D cA tS A (wK cA h σ ++ (wLg cA h σ 600 ++ (wC cA h σ ++ (wH cA h σ ++ (wS h ++ (wX ax (h 46) sv tr sc ++ ((sv, .inl (cA 4, 2, .inr (.inr (.inr (.inr f))))) :: F))))))) (nI s1) 0 1 1 (ws_ok hs)) 3 (bwS bw_c tb_450 tb_451 tb_47 tb_452) rfl (by decide +kernel) ⟨(Nat.le_of_ble_eq_true rfl), (Nat.le_of_ble_eq_true rfl)⟩ rfl rfl (Nat.le_of_ble_eq_true rfl) ⟨Nat.zero_le _, Nat.zero_le _⟩ dX8_restore_3 (fun H locs hw => ?_)
  refine lv_if_ne (tgt := 11) hx hb dX8_restore_6 (by decide) (fun c3 => ?_) (fun c3 => absurd c3 (by decide))
  have hin : ib (nI s1) 2 := ib_nI hs (by decide)
  have his : ix (nI s1) = s1 := ix_nI (by omega)
  refine lv_aload_n hx hb dX8_restore_11 rfl (lv_at hl 0 rfl) ?_
  refine q_get (C := RX8) (T := TX8) (N := 4) (ci := 8) E (fun w h => List.mem_cons_of_mem _ (inX8 w h)) hw 40 rfl rfl 1 (by decide) (List.mem_cons_of_mem _ tb_374) (v := .ref sv) rfl dX8_restore_12 ?_
  refine lv_iload_n hx hb dX8_restore_15 rfl (lv_at hl 1 rfl) ?_
  refine q_aldst E hw 41 rfl hin (o := none) (by rw [his]; exact hf) dX8_restore_16 ?_
  refine lv_astore_nN (lv' := [(2, .null), (0, .ref ax), (1, .int (nI s1))]) hx hb dX8_restore_17 rfl hl (by decide) rfl (fun ls hl => ?_)
  refine lv_aload_nN hx hb dX8_restore_18 rfl (lv_at hl 0 rfl) ?_
  refine lv_ifnonnullN hx hb dX8_restore_19 ?_
  refine lv_iconst (v := 0) hx hb dX8_restore_22 (by decide) ?_
  exact q_retz E hw (Or.inl rfl) dX8_restore_23
theorem c_X8_restore_yes (l : Launch) (D : va_G) (cA : Nat → ClassId) (tS : Nat → Nat) (A : Nat → Prop) (h : Nat → Nat) (ax sv tr sc : Nat) (F : va_W) (σ : Sg) (N : Nat) (f : Nat → Option Nat) (s1 : Nat) (hs : s1 < 2) (g : Nat → Nat) (ρ : Sg) (hf : f s1 = some (g 46)) (p0 : Sg) (hp0 : f_X6_copyFrom N 600 600 σ ρ = some p0) : Ct l yX8_restore (Cond.code yX8_restore cX8_restore 3 (some .boolean) :: bw) 4 116 D cA tS A [.ref ax, .int (nI s1)] (wK cA h σ ++ (wLg cA h σ 600 ++ (wC cA h σ ++ (wH cA h σ ++ (wS h ++ (wK cA g ρ ++ (wLg cA g ρ 600 ++ (wC cA g ρ ++ (wH cA g ρ ++ (wS g ++ (wX ax (h 46) sv tr sc ++ ((sv, .inl (cA 4, 2, .inr (.inr (.inr (.inr f))))) :: F)))))))))))) (some (.int 1)) (wK cA h p0 ++ (wLg cA h p0 600 ++ (wC cA h p0 ++ (wH cA h p0 ++ (wS h ++ (wK cA g ρ ++ (wLg cA g ρ 600 ++ (wC cA g ρ ++ (wH cA g ρ ++ (wS g ++ (wX ax (h 46) sv tr sc ++ ((sv, .inl (cA 4, 2, .inr (.inr (.inr (.inr f))))) :: F)))))))))))) := by
  refine ct_of (by decide +kernel) (Nat.le_of_ble_eq_true rfl) ?_
  intro p e s m below meth c E hw ls hl
  replace E : Ev p cX8_restore 3 (some .boolean) RX8 (Cond.code yX8_restore cX8_restore 3 (some .boolean) :: bw) D cA tS A s m _ meth c := E
  replace hl : lv_has ls 3 [(0, .ref ax), (1, .int (nI s1))] := hl
  have hx := E.1.1
  have hb := E.1.2.1
  refine lv_iload_n hx hb dX8_restore_0 rfl (lv_at hl 1 rfl) ?_
  refine lv_iconst (v := 0) hx hb dX8_restore_1 (by decide) ?_
  refine lv_iconst (v := 1) hx hb dX8_restore_2 (by decide) ?_
  refine q_cs (As := [.int (nI s1), .int 0, .int 1]) (rest := []) E hw hl (c_X8_within l D cA tS A (wK cA h σ ++ (wLg cA h σ 600 ++ (wC cA h σ ++ (wH cA h σ ++ (wS h ++ (wK cA g ρ ++ (wLg cA g ρ 600 ++ (wC cA g ρ ++ (wH cA g ρ ++ (wS g ++ (wX ax (h 46) sv tr sc ++ ((sv, .inl (cA 4, 2, .inr (.inr (.inr (.inr f))))) :: F)))))))))))) (nI s1) 0 1 1 (ws_ok hs)) 3 (bwS bw_c tb_450 tb_451 tb_47 tb_452) rfl (by decide +kernel) ⟨(Nat.le_of_ble_eq_true rfl), (Nat.le_of_ble_eq_true rfl)⟩ rfl rfl (Nat.le_of_ble_eq_true rfl) ⟨Nat.zero_le _, Nat.zero_le _⟩ dX8_restore_3 (fun H locs hw => ?_)
  refine lv_if_ne (tgt := 11) hx hb dX8_restore_6 (by decide) (fun c3 => ?_) (fun c3 => absurd c3 (by decide))
  have hin : ib (nI s1) 2 := ib_nI hs (by decide)
  have his : ix (nI s1) = s1 := ix_nI (by omega)
  refine lv_aload_n hx hb dX8_restore_11 rfl (lv_at hl 0 rfl) ?_
  refine q_get (C := RX8) (T := TX8) (N := 4) (ci := 8) E (fun w h => List.mem_cons_of_mem _ (inX8 w h)) hw 80 rfl rfl 1 (by decide) (List.mem_cons_of_mem _ tb_374) (v := .ref sv) rfl dX8_restore_12 ?_
  refine lv_iload_n hx hb dX8_restore_15 rfl (lv_at hl 1 rfl) ?_
  refine q_aldst E hw 81 rfl hin (o := some (g 46)) (by rw [his]; exact hf) dX8_restore_16 ?_
  refine lv_astore_n (lv' := [(2, .ref (g 46)), (0, .ref ax), (1, .int (nI s1))]) hx hb dX8_restore_17 rfl hl (by decide) rfl (fun ls hl => ?_)
  refine lv_aload_n hx hb dX8_restore_18 rfl (lv_at hl 0 rfl) ?_
  refine lv_ifnonnull (tgt := 24) hx hb dX8_restore_19 (by decide) ?_
  refine lv_aload_n hx hb dX8_restore_24 rfl (lv_at hl 1 rfl) ?_
  refine q_get (C := RX8) (T := TX8) (N := 4) (ci := 8) E (fun w h => List.mem_cons_of_mem _ (inX8 w h)) hw 80 rfl rfl 0 (by decide) (List.mem_cons_of_mem _ tb_373) (v := .ref (h 46)) rfl dX8_restore_25 ?_
  refine lv_aload_n hx hb dX8_restore_28 rfl (lv_at hl 0 rfl) ?_
  refine q_cvv (As := [.ref (g 46)]) (rest := []) E hw hl (c_X6_copyFrom l D cA tS A h g 600 600 (wX ax (h 46) sv tr sc ++ ((sv, .inl (cA 4, 2, .inr (.inr (.inr (.inr f))))) :: F)) N σ ρ p0 hp0) 1 (bwV bw_c tb_997 tb_998 tb_999 tb_48 tb_1000) rfl (by decide +kernel) ⟨(Nat.le_of_ble_eq_true rfl), (Nat.le_of_ble_eq_true rfl)⟩ 39 6 (T := TX6) (N := 2) rfl rfl rfl rfl (Nat.le_of_ble_eq_true rfl) ⟨Nat.zero_le _, Nat.zero_le _⟩ dX8_restore_29 (fun H locs hw => ?_)
  refine lv_iconst (v := 1) hx hb dX8_restore_32 (by decide) ?_
  exact q_retz E hw (Or.inr rfl) dX8_restore_33
