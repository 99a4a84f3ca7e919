/-! the list of the kinds -/
theorem tb_404 : Cond.sameField "java/util/ArrayList" "java/util/AbstractList" "modCount" "I" ∈ bw := tb_of 404 (by decide +kernel) (by decide +kernel)
set_option maxRecDepth 100000 in
set_option maxHeartbeats 4000000 in
theorem c_J3_checkIndex_8e157 (l : Launch) (D : va_G) (cA : Nat → ClassId) (tS : Nat → Nat) (A : Nat → Prop) (F : va_W) (x0 : Int32) (x1 : Int32) (o2 : Option Nat) (r0 : Int32) (hM : f_J3_checkIndex_8e157 x0 x1 o2 = some r0) : Ct l yJ3_checkIndex_8e157 (Cond.code yJ3_checkIndex_8e157 cJ3_checkIndex_8e157 3 (some .int) :: bw) 0 0 D cA tS A [.int x0, .int x1, va_rf o2] F (some (.int r0)) F := by
  refine ct_of (by decide +kernel) (by cases o2 <;> exact Nat.le_of_ble_eq_true rfl) ?_
  intro p e s m below meth c E hw ls hl
  replace E : Ev p cJ3_checkIndex_8e157 3 (some .int) RJ3 (Cond.code yJ3_checkIndex_8e157 cJ3_checkIndex_8e157 3 (some .int) :: bw) D cA tS A s m _ meth c := E
  replace hl : lv_has ls 3 [(0, .int x0), (1, .int x1), (2, va_rf o2)] := hl
  have hx := E.1.1
  have hb := E.1.2.1
  unfold f_J3_checkIndex_8e157 at hM
  refine lv_iload_n hx hb dJ3_checkIndex_8e157_0 rfl (lv_at hl 0 rfl) ?_
  refine lv_if_lt (tgt := 9) hx hb dJ3_checkIndex_8e157_1 (by decide) (fun c1 => ?_) (fun c1 => ?_)
  · replace hM := i_pos hM c1
    cases hM
  · replace hM := i_neg hM c1
    refine lv_iload_n hx hb dJ3_checkIndex_8e157_4 rfl (lv_at hl 0 rfl) ?_
    refine lv_iload_n hx hb dJ3_checkIndex_8e157_5 rfl (lv_at hl 1 rfl) ?_
    refine lv_icmp_lt (tgt := 16) hx hb dJ3_checkIndex_8e157_6 (by decide) (fun c2 => ?_) (fun c2 => ?_)
    · replace hM := i_pos hM c2
      refine lv_iload_n hx hb dJ3_checkIndex_8e157_16 rfl (lv_at hl 0 rfl) ?_
      cases hM
      exact q_reti E hw dJ3_checkIndex_8e157_17
    · replace hM := i_neg hM c2
      cases hM
def f_J15_checkIndex_7cf53    (x0 : Int32) (x1 : Int32) : Option (Int32) := (f_J3_checkIndex_8e157 x0 x1 none).bind (fun p1 => some p1)
set_option maxRecDepth 100000 in
set_option maxHeartbeats 4000000 in
theorem c_J15_checkIndex_7cf53 (l : Launch) (D : va_G) (cA : Nat → ClassId) (tS : Nat → Nat) (A : Nat → Prop) (F : va_W) (x0 : Int32) (x1 : Int32) (r0 : Int32) (hM : f_J15_checkIndex_7cf53 x0 x1 = some r0) : Ct l yJ15_checkIndex_7cf53 (Cond.code yJ15_checkIndex_7cf53 cJ15_checkIndex_7cf53 2 (some .int) :: bw) 1 22 D cA tS A [.int x0, .int x1] F (some (.int r0)) F := by
  refine ct_of (by decide +kernel) (Nat.le_of_ble_eq_true rfl) ?_
  intro p e s m below meth c E hw ls hl
  replace E : Ev p cJ15_checkIndex_7cf53 2 (some .int) RJ15 (Cond.code yJ15_checkIndex_7cf53 cJ15_checkIndex_7cf53 2 (some .int) :: bw) D cA tS A s m _ meth c := E
  replace hl : lv_has ls 2 [(0, .int x0), (1, .int x1)] := hl
  have hx := E.1.1
  have hb := E.1.2.1
  unfold f_J15_checkIndex_7cf53 at hM
  refine lv_iload_n hx hb dJ15_checkIndex_7cf53_0 rfl (lv_at hl 0 rfl) ?_
  refine lv_iload_n hx hb dJ15_checkIndex_7cf53_1 rfl (lv_at hl 1 rfl) ?_
  refine lv_null hx hb dJ15_checkIndex_7cf53_2 ?_
  obtain ⟨p1, h2, hM⟩ := b_some hM
  refine q_cs (As := [.int x0, .int x1, .null]) (rest := []) E hw hl (c_J3_checkIndex_8e157 l D cA tS A F x0 x1 none p1 h2 ) 3 (bwS bw_c tb_907 tb_908 tb_65 tb_909) rfl (by decide +kernel) ⟨Nat.le_of_ble_eq_true rfl, Nat.le_of_ble_eq_true rfl⟩ rfl rfl (Nat.le_of_ble_eq_true rfl) ⟨Nat.zero_le _, Nat.zero_le _⟩ dJ15_checkIndex_7cf53_3 (fun H locs hw => ?_)
  cases hM
  exact q_reti E hw dJ15_checkIndex_7cf53_6
section LQ
variable {p : Program} {l : Launch} {e : Env} {R : Room} {s : State} {m : MethodId} {args : Array Value} {below : List Frame} {meth : Method} {c : Code} {H : Heap} {locs : List Loc} {cells slots : Nat} {Q : State → Prop}
variable {cc : ByteArray} {nL pc : Nat} {ret : Option FieldType} {own : String} {Ts : List Cond} {D : va_G} {cA : Nat → ClassId} {tS : Nat → Nat} {A : Nat → Prop} {w : va_W} {ls : Array Slot} {rest : List Value}
variable {y : MethodName} {wsc ws' : List Cond} {bytes : ByteArray} {maxL fr mc ms lo index : Nat} {retc : Option FieldType} {As : List Value} {b : Nat} {v : Value} {C : String} {st0 : List Value} {post : va_W → Prop}
theorem q_putr {C : String} {T : u_T} {N ci index : Nat} (E : Ev p cc nL ret own Ts D cA tS A s m args meth c) (hin : ∀ w ∈ u_ws C T N, w ∈ Ts) (ty0 : Nat → FieldType) (hty : ∀ k, k < N → parseFieldDescriptor (T k).2.2.1 = some (ty0 k)) (hnm : ∀ a, a < N → ∀ b, b < N → a ≠ b → (T a).2.1 ≠ (T b).2.1) (hw : Wd D A w s.heap H locs) (q0 : Nat) {a : Nat} {fs : List Value} (he : w[q0]? = some (a, .inr (ci, fs))) (hc : vwCl[ci]? = some (C, T, N)) (k : Nat) (hk : k < N)
    (hlink : Cond.fieldLink own index (T k).1 (T k).2.1 (T k).2.2.1 ∈ Ts) (hfin : (T k).2.2.2 = false) {v : Nat} (hn : narrow (ty0 k) (.ref v) = .ref v) (hfit : fits (ty0 k) (.ref v) = true) (hl : k < fs.length) (w' : va_W) (hw' : w.set q0 (a, .inr (ci, fs.set k (.ref v))) = w') (hdg : decode cc pc = .ok (.putfield index, 3))
    (kk : ∀ (H1 : Heap) (locs1 : List Loc), Wd D A w' s.heap H1 locs1 → W p l e R s m args below meth c H1 locs1 cells slots Q (F0 m (pc + 3) ls rest)) : W p l e R s m args below meth c H locs cells slots Q (F0 m pc ls (.ref v :: .ref a :: rest)) := by
  subst hw'
  exact va_put E.1.1 E.1.2.1 E.1.2.2.2.2 hin ty0 hty hnm E.1.2.2.2.1 E.2.2.2.2.1 hw.1 hw.2.1 hw.2.2 q0 he hc k hk (E.1.2.2.2.2 _ hlink) (fun _ h => h) hfin (hty k hk) hn hfit hl hdg (fun H1 locs1 h1 h2 h3 => kk H1 locs1 ⟨h1, h2, h3⟩)
/-- an array of numbers goes into the list's row -/
theorem q_asto (E : Ev p cc nL ret own Ts D cA tS A s m args meth c) (hw : Wd D A w s.heap H locs) (q0 qk : Nat) {a n v n0 : Nat} {g : Nat → Int32} {f : Nat → Option Nat} (he : w[q0]? = some (a, .inl (cA 5, n, .inr (.inr (.inr (.inr f)))))) (hv : w[qk]? = some (v, .inl (cA 0, n0, .inl g))) {i : Int32} (hin : ib i n) (w' : va_W) (hw' : w.set q0 (a, .inl (cA 5, n, .inr (.inr (.inr (.inr (va_up f (ix i) (some v))))))) = w') (hdg : decode cc pc = .ok (.aastore, 1))
    (kk : ∀ (H1 : Heap) (locs1 : List Loc), Wd D A w' s.heap H1 locs1 → W p l e R s m args below meth c H1 locs1 cells slots Q (F0 m (pc + 1) ls rest)) : W p l e R s m args below meth c H locs cells slots Q (F0 m pc ls (.ref v :: .int i :: .ref a :: rest)) := by
  subst hw'
  exact vb_astq E.1.1 E.1.2.1 E.2.2.2.2.1 hw.1 hw.2.1 hw.2.2 q0 5 (E := "java/lang/Object") (C := "[I") he rfl ⟨_, hw.1 qk _ hv, rfl, (E.2.2.2.2.1.2 0 (cA 0, .int) rfl).2⟩ (vb_asgC (E.2.2.2.2.2.1 (.castable "[I" "java/lang/Object") (by decide +kernel))) hin hdg (fun H1 locs1 h1 h2 h3 => kk H1 locs1 ⟨h1, h2, h3⟩)
/-- a new array of references -/
theorem q_newo (E : Ev p cc nL ret own Ts D cA tS A s m args meth c) (hK : KA cA s) (hw : Wd D A w s.heap H locs) (hcl : Cond.classLink own index "java/lang/Object" ∈ Ts) (hcells : cells + 1 ≤ R.cells) (hslots : slots + 10 ≤ R.slots) (hdg : decode cc pc = .ok (.anewarray index, 3))
    (kk : ∀ (q : Nat) (H1 : Heap), Wd D A ((q, .inl (cA 5, 10, .inr (.inr (.inr (.inr (fun _ => none)))))) :: w) s.heap H1 locs → W p l e R s m args below meth c H1 locs (cells + 1) (slots + 10) Q (F0 m (pc + 3) ls (.ref q :: rest))) : W p l e R s m args below meth c H locs cells slots Q (F0 m pc ls (.int 10 :: rest)) := by
  refine va_newq (C := "java/lang/Object") (N' := 10) E.1.1 E.1.2.1 E.1.2.2.2.1 (E.1.2.2.2.2 _ hcl) hK.2.2 E.2.2.2.2.1 hw.1 hw.2.1 hw.2.2 E.2.2.2.1 (by decide) (by decide) (by decide) hcells hslots hdg (fun q c1 H1 k1 h1 h2 h3 => ?_)
  obtain ⟨-, -, -, -, -, e1⟩ := (k1.2 6 (c1, .object "java/lang/Object") rfl).2
  obtain ⟨-, -, -, -, -, e2⟩ := (E.2.2.2.2.1.2 5 (cA 5, .object "java/lang/Object") rfl).2
  have e3 : c1 = cA 5 := Option.some.inj (e1.symm.trans e2)
  rw [e3] at h1 h2
  exact kk q H1 (Wd.perm ⟨h1, h2, h3⟩ (List.perm_append_comm (l₁ := w) (l₂ := [(q, .inl (cA 5, 10, .inr (.inr (.inr (.inr (fun _ => none))))))])))
/-- a method that answers a new cell -/
def QR2 (D : va_G) (A : Nat → Prop) (post : Nat → va_W → Prop) : Array Value → State → Outcome → State → Prop := fun _ st oc t =>
  ∃ q, oc = .returned (some (.ref q)) ∧ (∃ w0, post q w0 ∧ va_P D vwCl w0 t.heap ∧ va_D A w0) ∧ va_F A st t
def CR2 (l : Launch) (y : MethodName) (ws : List Cond) (fr mc ms lo : Nat) (D : va_G) (cA : Nat → ClassId) (tS : Nat → Nat) (A : Nat → Prop) (av : List Value) (w : va_W) (post : Nat → va_W → Prop) : Prop :=
  Met l y ws ({ frames := fr, cells := mc, slots := ms, locals := lo } : Room) (va_Pc av (fun U => PW D cA tS A w U ∧ KA cA U)) (QR2 D A post) mc ms A
theorem cr2_of {cc : ByteArray} {maxL : Nat} {ret : Option FieldType} {post : Nat → va_W → Prop} {av : List Value} (hy : plainName y.cls = true) (hav : (lg_sl av).length ≤ maxL)
    (body : ∀ p e s m below meth c, Ev p cc maxL ret y.cls (Cond.code y cc maxL ret :: ws') D cA tS A s m av.toArray meth c → KA cA s → Wd D A w s.heap s.heap [] → ∀ ls : Array Slot, lv_has ls maxL (lv_args 0 av) →
      W p l e ({ frames := fr, cells := mc, slots := ms, locals := lo } : Room) s m av.toArray below meth c s.heap [] 0 0 (MQ below (QR2 D A post) av.toArray s mc ms A) (F0 m 0 ls [])) :
    CR2 l y (Cond.code y cc maxL ret :: ws') fr mc ms lo D cA tS A av w post := by
  refine Met.ofW (cc := cc) (maxL := maxL) (ret := ret) hy rfl ?_
  intro p e s m args below meth c s₁ B hml hv
  obtain ⟨rfl, ⟨hA, hF, hP, hD⟩, hK⟩ := hv
  rw [lg_entry_eq]
  exact body p e s m below meth c ⟨⟨B.exec, B.bytes, hml, findClass_of_methodNamed B.named, atoms_spec B.pre⟩, B.returns, B.notSynchronized, hA, hF⟩ hK ⟨hP, hD, va_S.rf⟩ _ (lv_entry av hav)
theorem q_retr2 {k : Nat} {w0 : va_W} {ty : FieldType} {post : Nat → va_W → Prop} (E : Ev p cc nL (some (.array ty)) own Ts D cA tS A s m args meth c) (hw : Wd D A w0 s.heap H locs) (hp : post k w0) (hdg : decode cc pc = .ok (.areturn, 1)) : W p l e R s m args below meth c H locs cells slots (MQ below (QR2 D A post) args s cells slots A) (F0 m pc ls [.ref k]) :=
  W.aret E.1.1 E.1.2.1 E.2.1 (Or.inr ⟨_, rfl⟩) (Or.inr ⟨_, rfl⟩) (fun t ht _ => ⟨k, rfl, ⟨w0, hp, by rw [ht]; exact hw.1, hw.2.1⟩, hw.2.2.F ht⟩) hw.2.2.2.2 hdg E.2.2.1
theorem q_call2 {a : Array Value} {post : Nat → va_W → Prop} (hr : va_Run p l e R s m args below meth c H locs cells slots mc ms (F0 m pc ls st0) rest (QR2 D A post a) A) (hw : Wd D A w s.heap H locs)
    (kk : ∀ (H1 : Heap) (locs1 : List Loc) (q : Nat) (w0 : va_W), post q w0 → Wd D A w0 s.heap H1 locs1 → W p l e R s m args below meth c H1 locs1 (cells + mc) (slots + ms) Q (F0 m (pc + 3) ls (.ref q :: rest))) : W p l e R s m args below meth c H locs cells slots Q (F0 m pc ls st0) := by
  intro T hT X
  obtain ⟨v', st₀, t, T', L, h0, X', hL, e1, e2, ⟨q, hv, ⟨w0, hp, hP, hD⟩, hz, hk⟩, st⟩ := hr T hT X
  cases hv
  have hS := hw.2.2
  rw [h0] at hz hk
  obtain ⟨t2, a1, b1⟩ := kk T'.heap (locs ++ L) q w0 hp ⟨by rw [e1]; exact hP, hD, Nat.le_trans hS.1 (by rw [e1]; exact hz), fun q h1 h2 => by rw [e1, hk q (Nat.lt_of_lt_of_le h1 hS.1) h2]; exact hS.2.1 q h1 h2, fun q hq => by
      rcases List.mem_append.mp hq with h | h
      · exact hS.2.2 q h
      · exact hL q h⟩ T' rfl X'
  exact ⟨t2, st t2 a1, b1⟩
theorem q_cv2 {lv : List (Nat × Value)} {post : Nat → va_W → Prop} (E : Ev p cc nL ret own Ts D cA tS A s m args meth c) (hK : KA cA s) (hw : Wd D A w s.heap H locs) (hl : lv_has ls nL lv) (hC : CR2 l y wsc fr mc ms lo D cA tS A (.ref b :: As) w post) (n : Nat) (hG : GoodIn Ts (wsV own index C y wsc)) (hws : wsc = Cond.code y bytes maxL retc :: ws')
    (hd : y.cls = C ∧ y.cls ≠ "java/lang/invoke/MethodHandle" ∧ y.cls ≠ "java/lang/invoke/VarHandle" ∧ (parseMethodDescriptor y.desc).map (fun d => d.parameters.length) = some n) (hR : fr + 1 ≤ R.frames ∧ 8 + (maxL + 11) + lo ≤ R.locals)
    (q0 ci : Nat) {T : u_T} {N : Nat} {fs : List Value} (hc : vwCl[ci]? = some (C, T, N)) (he : w[q0]? = some (b, .inr (ci, fs))) (hn : As.length = n) (hst : st0 = As.reverse ++ .ref b :: rest) (hW : (rest.map fun v => v.category).sum ≤ 8) (hf : cells + mc ≤ R.cells ∧ slots + ms ≤ R.slots) (hdg : decode cc pc = .ok (.invokevirtual index, 3))
    (kk : ∀ (H1 : Heap) (locs1 : List Loc) (q : Nat) (w0 : va_W), post q w0 → Wd D A w0 s.heap H1 locs1 → W p l e R s m args below meth c H1 locs1 (cells + mc) (slots + ms) Q (F0 m (pc + 3) ls (.ref q :: rest))) : W p l e R s m args below meth c H locs cells slots Q (F0 m pc ls st0) :=
  q_call2 (va_runV E.1 hC (cwV n E.1.2.2.2.2 hG hws rfl rfl hd hR) (q_preXV E hK hw hc he) rfl hn hl.1 hst (lv_room (pc := pc) (ls := ls) (rest := st0) hW) hdg hf) hw kk
/-- .. that answers nothing and makes cells -/
theorem q_cvvX {lv : List (Nat × Value)} (E : Ev p cc nL ret own Ts D cA tS A s m args meth c) (hK : KA cA s) (hw : Wd D A w s.heap H locs) (hl : lv_has ls nL lv) (hC : CX l y wsc fr mc ms lo D cA tS A (.ref b :: As) w none post) (n : Nat) (hG : GoodIn Ts (wsV own index C y wsc)) (hws : wsc = Cond.code y bytes maxL retc :: ws')
    (hd : y.cls = C ∧ y.cls ≠ "java/lang/invoke/MethodHandle" ∧ y.cls ≠ "java/lang/invoke/VarHandle" ∧ (parseMethodDescriptor y.desc).map (fun d => d.parameters.length) = some n) (hR : fr + 1 ≤ R.frames ∧ 8 + (maxL + 11) + lo ≤ R.locals)
    (q0 ci : Nat) {T : u_T} {N : Nat} {fs : List Value} (hc : vwCl[ci]? = some (C, T, N)) (he : w[q0]? = some (b, .inr (ci, fs))) (hn : As.length = n) (hst : st0 = As.reverse ++ .ref b :: rest) (hW : (rest.map fun v => v.category).sum ≤ 8) (hf : cells + mc ≤ R.cells ∧ slots + ms ≤ R.slots) (hdg : decode cc pc = .ok (.invokevirtual index, 3))
    (kk : ∀ (H1 : Heap) (locs1 : List Loc) (w0 : va_W), post w0 → Wd D A w0 s.heap H1 locs1 → W p l e R s m args below meth c H1 locs1 (cells + mc) (slots + ms) Q (F0 m (pc + 3) ls rest)) : W p l e R s m args below meth c H locs cells slots Q (F0 m pc ls st0) :=
  q_callX (va_runV E.1 hC (cwV n E.1.2.2.2.2 hG hws rfl rfl hd hR) (q_preXV E hK hw hc he) rfl hn hl.1 hst (lv_room (pc := pc) (ls := ls) (rest := st0) hW) hdg hf) hw kk
end LQ
/-- how many -/
theorem c_size (l : Launch) (D : va_G) (cA : Nat → ClassId) (tS : Nat → Nat) (A : Nat → Prop) (a ed : Nat) (mc n : Int32) (F : va_W) : Ct l yJx4a65c_size_8abf5 (Cond.code yJx4a65c_size_8abf5 cJx4a65c_size_8abf5 1 (some .int) :: bw) 0 0 D cA tS A [.ref a] ((a, .inr (9, [.int mc, .ref ed, .int n])) :: F) (some (.int n)) ((a, .inr (9, [.int mc, .ref ed, .int n])) :: F) := by
  refine ct_of (by decide +kernel) (Nat.le_of_ble_eq_true rfl) ?_
  intro p e s m below meth c E hw ls hl
  replace E : Ev p cJx4a65c_size_8abf5 1 (some .int) RJx4a65c (Cond.code yJx4a65c_size_8abf5 cJx4a65c_size_8abf5 1 (some .int) :: bw) D cA tS A s m _ meth c := E
  replace hl : lv_has ls 1 [(0, .ref a)] := hl
  have hx := E.1.1
  have hb := E.1.2.1
  refine lv_aload_n hx hb dJx4a65c_size_8abf5_0 rfl (lv_at hl 0 rfl) ?_
  refine q_get (C := RJx4a65c) (T := TJx4a65c) (N := 3) (ci := 9) E (fun w h => List.mem_cons_of_mem _ (inJx4a65c w h)) hw 0 rfl rfl 2 (by decide) (List.mem_cons_of_mem _ tb_401) (v := .int n) rfl dJx4a65c_size_8abf5_1 ?_
  exact q_reti E hw dJx4a65c_size_8abf5_4
theorem c_list_size (l : Launch) (D : va_G) (cA : Nat → ClassId) (tS : Nat → Nat) (A : Nat → Prop) (u : Nat → Nat) (υ : Sg) (kc : Nat) (F : va_W) : Ct l yJx4a65c_size_8abf5 (Cond.code yJx4a65c_size_8abf5 cJx4a65c_size_8abf5 1 (some .int) :: bw) 0 0 D cA tS A [.ref (u 81)] (wQl cA u υ kc ++ F) (some (.int (Int32.ofNat kc))) (wQl cA u υ kc ++ F) := c_size l D cA tS A (u 81) (u 82) (υ 83 0) (Int32.ofNat kc) _
theorem c_list_data (l : Launch) (D : va_G) (cA : Nat → ClassId) (tS : Nat → Nat) (A : Nat → Prop) (u : Nat → Nat) (υ : Sg) (kc : Nat) (F : va_W) (x : Int32) (h : ib x kc) (hkc : kc ≤ 10) : Ct l yJx4a65c_elementData_915e3 (Cond.code yJx4a65c_elementData_915e3 cJx4a65c_elementData_915e3 2 (Option.some (.object "java/lang/Object")) :: bw) 0 0 D cA tS A [.ref (u 81), .int x] (wQl cA u υ kc ++ F) (some (.ref (u (90 + ix x)))) (wQl cA u υ kc ++ F) := by
  refine ct_of (by decide +kernel) (Nat.le_of_ble_eq_true rfl) ?_
  intro p e s m below meth c E hw ls hl
  replace E : Ev p cJx4a65c_elementData_915e3 2 (Option.some (.object "java/lang/Object")) RJx4a65c (Cond.code yJx4a65c_elementData_915e3 cJx4a65c_elementData_915e3 2 (Option.some (.object "java/lang/Object")) :: bw) D cA tS A s m _ meth c := E
  replace hl : lv_has ls 2 [(0, .ref (u 81)), (1, .int x)] := hl
  have hx := E.1.1
  have hb := E.1.2.1
  have h10 : ib x 10 := fun z => h (z.imp id (fun w => Nat.le_trans hkc w))
  refine lv_aload_n hx hb dJx4a65c_elementData_915e3_0 rfl (lv_at hl 0 rfl) ?_
  refine q_get (C := RJx4a65c) (T := TJx4a65c) (N := 3) (ci := 9) E (fun w h => List.mem_cons_of_mem _ (inJx4a65c w h)) hw 0 rfl rfl 1 (by decide) (List.mem_cons_of_mem _ tb_400) (v := .ref (u 82)) rfl dJx4a65c_elementData_915e3_1 ?_
  refine lv_iload_n hx hb dJx4a65c_elementData_915e3_4 rfl (lv_at hl 1 rfl) ?_
  refine q_aldo E hw 1 rfl h10 (if_pos (ib_lt h)) dJx4a65c_elementData_915e3_5 ?_
  exact q_retr E hw dJx4a65c_elementData_915e3_6
theorem ck_v {x : Int32} {kc : Nat} (h : ib x kc) (hkc : kc ≤ 10) : f_J15_checkIndex_7cf53 x (Int32.ofNat kc) = some x := by
  have h1 : ¬ x < 0 := fun z => h (Or.inl z)
  have h2 : x.toNatClampNeg < kc := Nat.not_le.mp fun z => h (Or.inr z)
  have h3 : x < Int32.ofNat kc := by
    rw [Int32.lt_iff_toInt_lt, show (Int32.ofNat kc).toInt = kc from z_nI (by omega)]
    have : x.toInt.toNat = x.toNatClampNeg := rfl
    omega
  unfold f_J15_checkIndex_7cf53 f_J3_checkIndex_8e157
  rw [if_neg h1, if_pos h3]
  rfl
theorem c_list_get (l : Launch) (D : va_G) (cA : Nat → ClassId) (tS : Nat → Nat) (A : Nat → Prop) (u : Nat → Nat) (υ : Sg) (kc : Nat) (F : va_W) (x : Int32) (h : ib x kc) (hkc : kc ≤ 10) : Ct l yJx4a65c_get_915e3 (Cond.code yJx4a65c_get_915e3 cJx4a65c_get_915e3 2 (Option.some (.object "java/lang/Object")) :: bw) 2 60 D cA tS A [.ref (u 81), .int x] (wQl cA u υ kc ++ F) (some (.ref (u (90 + ix x)))) (wQl cA u υ kc ++ F) := by
  refine ct_of (by decide +kernel) (Nat.le_of_ble_eq_true rfl) ?_
  intro p e s m below meth c E hw ls hl
  replace E : Ev p cJx4a65c_get_915e3 2 (Option.some (.object "java/lang/Object")) RJx4a65c (Cond.code yJx4a65c_get_915e3 cJx4a65c_get_915e3 2 (Option.some (.object "java/lang/Object")) :: bw) D cA tS A s m _ meth c := E
  replace hl : lv_has ls 2 [(0, .ref (u 81)), (1, .int x)] := hl
  have hx := E.1.1
  have hb := E.1.2.1
  refine lv_iload_n hx hb dJx4a65c_get_915e3_0 rfl (lv_at hl 1 rfl) ?_
  refine lv_aload_n hx hb dJx4a65c_get_915e3_1 rfl (lv_at hl 0 rfl) ?_
  refine q_get (C := RJx4a65c) (T := TJx4a65c) (N := 3) (ci := 9) E (fun w h => List.mem_cons_of_mem _ (inJx4a65c w h)) hw 0 rfl rfl 2 (by decide) (List.mem_cons_of_mem _ tb_401) (v := .int (Int32.ofNat kc)) rfl dJx4a65c_get_915e3_2 ?_
  refine q_cs (As := [.int x, .int (Int32.ofNat kc)]) (rest := []) E hw hl (c_J15_checkIndex_7cf53 l D cA tS A (wQl cA u υ kc ++ F) x (Int32.ofNat kc) x (ck_v h hkc)) 2 (bwS bw_c tb_904 tb_905 tb_64 tb_906) rfl (by decide +kernel) ⟨(Nat.le_of_ble_eq_true rfl), (Nat.le_of_ble_eq_true rfl)⟩ rfl rfl (Nat.le_of_ble_eq_true rfl) ⟨Nat.zero_le _, Nat.zero_le _⟩ dJx4a65c_get_915e3_5 (fun H locs hw => ?_)
  refine lv_pop hx hb dJx4a65c_get_915e3_8 rfl ?_
  refine lv_aload_n hx hb dJx4a65c_get_915e3_9 rfl (lv_at hl 0 rfl) ?_
  refine lv_iload_n hx hb dJx4a65c_get_915e3_10 rfl (lv_at hl 1 rfl) ?_
  refine q_cv (As := [.int x]) (rest := []) E hw hl (c_list_data l D cA tS A u υ kc F x h hkc) 1 (bwV bw_c tb_910 tb_911 tb_912 tb_61 tb_913) rfl (by decide +kernel) ⟨(Nat.le_of_ble_eq_true rfl), (Nat.le_of_ble_eq_true rfl)⟩ 0 9 (T := TJx4a65c) (N := 3) rfl rfl rfl rfl (Nat.le_of_ble_eq_true rfl) ⟨Nat.zero_le _, Nat.zero_le _⟩ dJx4a65c_get_915e3_11 (fun H locs hw => ?_)
  exact q_retr E hw dJx4a65c_get_915e3_14
theorem c_Jxa1e45_init_da8c8 (l : Launch) (D : va_G) (cA : Nat → ClassId) (tS : Nat → Nat) (A : Nat → Prop) (a : Nat) (F : va_W) : CX l yJxa1e45_init_da8c8 (Cond.code yJxa1e45_init_da8c8 cJxa1e45_init_da8c8 1 none :: bw) 1 0 0 12 D cA tS A [.ref a] ((a, .inr (9, [.int 0, .null, .int 0])) :: F) none (fun w0 => w0 = (a, .inr (9, [.int 0, .null, .int 0])) :: F) := by
  refine cx_of (by decide +kernel) (Nat.le_of_ble_eq_true rfl) ?_
  intro p e s m below meth c E hKA hnm hw ls hl
  replace E : Ev p cJxa1e45_init_da8c8 1 none RJxa1e45 (Cond.code yJxa1e45_init_da8c8 cJxa1e45_init_da8c8 1 none :: bw) D cA tS A s m _ meth c := E
  replace hl : lv_has ls 1 [(0, .ref a)] := hl
  have hx := E.1.1
  have hb := E.1.2.1
  refine lv_aload_n hx hb dJxa1e45_init_da8c8_0 rfl (lv_at hl 0 rfl) ?_
  refine q_obj E hl (List.mem_cons_of_mem _ tb_397) (List.mem_cons_of_mem _ tb_72) (List.mem_cons_of_mem _ tb_73) (Nat.le_of_ble_eq_true rfl) (Nat.le_of_ble_eq_true rfl) dJxa1e45_init_da8c8_1 ?_
  exact q_retX E hw rfl dJxa1e45_init_da8c8_4
theorem c_Jxc12de_init_da8c8 (l : Launch) (D : va_G) (cA : Nat → ClassId) (tS : Nat → Nat) (A : Nat → Prop) (a : Nat) (F : va_W) : CX l yJxc12de_init_da8c8 (Cond.code yJxc12de_init_da8c8 cJxc12de_init_da8c8 1 none :: bw) 2 0 0 32 D cA tS A [.ref a] ((a, .inr (9, [.int 0, .null, .int 0])) :: F) none (fun w0 => w0 = (a, .inr (9, [.int 0, .null, .int 0])) :: F) := by
  refine cx_of (by decide +kernel) (Nat.le_of_ble_eq_true rfl) ?_
  intro p e s m below meth c E hKA hnm hw ls hl
  replace E : Ev p cJxc12de_init_da8c8 1 none RJxc12de (Cond.code yJxc12de_init_da8c8 cJxc12de_init_da8c8 1 none :: bw) D cA tS A s m _ meth c := E
  replace hl : lv_has ls 1 [(0, .ref a)] := hl
  have hx := E.1.1
  have hb := E.1.2.1
  refine lv_aload_n hx hb dJxc12de_init_da8c8_0 rfl (lv_at hl 0 rfl) ?_
  refine q_ctor (As := []) (rest := []) E hKA hw hl (c_Jxa1e45_init_da8c8 l D cA tS A a F) 0 (bwc bw_c tb_396) rfl (List.mem_cons_of_mem _ tb_59) (List.mem_cons_of_mem _ tb_394) (List.mem_cons_of_mem _ tb_395) rfl (by decide +kernel) ⟨(Nat.le_of_ble_eq_true rfl), (Nat.le_of_ble_eq_true rfl)⟩ rfl rfl (Nat.le_of_ble_eq_true rfl) ⟨(Nat.le_of_ble_eq_true rfl), (Nat.le_of_ble_eq_true rfl)⟩ dJxc12de_init_da8c8_1 (fun H locs w0 hp hw => ?_)
  subst hp
  refine lv_aload_n hx hb dJxc12de_init_da8c8_4 rfl (lv_at hl 0 rfl) ?_
  refine lv_iconst (v := 0) hx hb dJxc12de_init_da8c8_5 (by decide) ?_
  refine q_puti (C := RJx4a65c) (T := TJx4a65c) (N := 3) (ci := 9) E (fun w h => List.mem_cons_of_mem _ (inJx4a65c w h)) tyJx4a65c tyJx4a65c_ok nmJx4a65c hw 0 rfl rfl 0 (by decide) (List.mem_cons_of_mem _ tb_402) rfl rfl (Nat.le_of_ble_eq_true rfl) ((a, .inr (9, [.int 0, .null, .int 0])) :: F) rfl dJxc12de_init_da8c8_6 (fun H locs hw => ?_)
  exact q_retX E hw rfl dJxc12de_init_da8c8_9
theorem c_Jx4a65c_init_da8c8 (l : Launch) (D : va_G) (cA : Nat → ClassId) (tS : Nat → Nat) (A : Nat → Prop) (a : Nat) (F : va_W) : CX l yJx4a65c_init_da8c8 (Cond.code yJx4a65c_init_da8c8 cJx4a65c_init_da8c8 1 none :: bw) 3 0 0 52 D cA tS A [.ref a] ((a, .inr (9, [.int 0, .null, .int 0])) :: F) none (fun w0 => w0 = (a, .inr (9, [.int 0, .ref (tS 3), .int 0])) :: F) := by
  refine cx_of (by decide +kernel) (Nat.le_of_ble_eq_true rfl) ?_
  intro p e s m below meth c E hKA hnm hw ls hl
  replace E : Ev p cJx4a65c_init_da8c8 1 none RJx4a65c (Cond.code yJx4a65c_init_da8c8 cJx4a65c_init_da8c8 1 none :: bw) D cA tS A s m _ meth c := E
  replace hl : lv_has ls 1 [(0, .ref a)] := hl
  have hx := E.1.1
  have hb := E.1.2.1
  refine lv_aload_n hx hb dJx4a65c_init_da8c8_0 rfl (lv_at hl 0 rfl) ?_
  refine q_ctor (As := []) (rest := []) E hKA hw hl (c_Jxc12de_init_da8c8 l D cA tS A a F) 0 (bwc bw_c tb_393) rfl (List.mem_cons_of_mem _ tb_60) (List.mem_cons_of_mem _ tb_391) (List.mem_cons_of_mem _ tb_392) rfl (by decide +kernel) ⟨(Nat.le_of_ble_eq_true rfl), (Nat.le_of_ble_eq_true rfl)⟩ rfl rfl (Nat.le_of_ble_eq_true rfl) ⟨(Nat.le_of_ble_eq_true rfl), (Nat.le_of_ble_eq_true rfl)⟩ dJx4a65c_init_da8c8_1 (fun H locs w0 hp hw => ?_)
  subst hp
  refine lv_aload_n hx hb dJx4a65c_init_da8c8_4 rfl (lv_at hl 0 rfl) ?_
  refine va_gets hx hb (E.2.2.2.2.2.2.1.2.2.1) hw.2.2 E.1.2.2.2.1 (E.1.2.2.2.2 _ (List.mem_cons_of_mem _ tb_398)) (fun _ h => h) dJx4a65c_init_da8c8_5 ?_
  refine q_putr (C := RJx4a65c) (T := TJx4a65c) (N := 3) (ci := 9) E (fun w h => List.mem_cons_of_mem _ (inJx4a65c w h)) tyJx4a65c tyJx4a65c_ok nmJx4a65c hw 0 rfl rfl 1 (by decide) (List.mem_cons_of_mem _ tb_400) rfl rfl rfl (Nat.le_of_ble_eq_true rfl) ((a, .inr (9, [.int 0, .ref (tS 3), .int 0])) :: F) rfl dJx4a65c_init_da8c8_8 (fun H locs hw => ?_)
  exact q_retX E hw rfl dJx4a65c_init_da8c8_11
/-- the first room of a list -/
theorem c_grow1 (l : Launch) (D : va_G) (cA : Nat → ClassId) (tS : Nat → Nat) (A : Nat → Prop) (a : Nat) (mc : Int32) (F : va_W) : CR2 l yJx4a65c_grow_92f84 (Cond.code yJx4a65c_grow_92f84 cJx4a65c_grow_92f84 4 (Option.some (.array (.object "java/lang/Object"))) :: bw) 1 1 10 22 D cA tS A [.ref a, .int 1] ((a, .inr (9, [.int mc, .ref (tS 3), .int 0])) :: F) (fun q w0 => w0 = (a, .inr (9, [.int mc, .ref q, .int 0])) :: (q, .inl (cA 5, 10, .inr (.inr (.inr (.inr (fun _ => none)))))) :: F) := by
  refine cr2_of (by decide +kernel) (Nat.le_of_ble_eq_true rfl) ?_
  intro p e s m below meth c E hKA hw ls hl
  replace E : Ev p cJx4a65c_grow_92f84 4 (Option.some (.array (.object "java/lang/Object"))) RJx4a65c (Cond.code yJx4a65c_grow_92f84 cJx4a65c_grow_92f84 4 (Option.some (.array (.object "java/lang/Object"))) :: bw) D cA tS A s m _ meth c := E
  replace hl : lv_has ls 4 [(0, .ref a), (1, .int 1)] := hl
  have hx := E.1.1
  have hb := E.1.2.1
  refine lv_aload_n hx hb dJx4a65c_grow_92f84_0 rfl (lv_at hl 0 rfl) ?_
  refine q_get (C := RJx4a65c) (T := TJx4a65c) (N := 3) (ci := 9) E (fun w h => List.mem_cons_of_mem _ (inJx4a65c w h)) hw 0 rfl rfl 1 (by decide) (List.mem_cons_of_mem _ tb_400) (v := .ref (tS 3)) rfl dJx4a65c_grow_92f84_1 ?_
  refine va_tlen hx hb (E.2.2.2.2.2.2.1.2.2.2) hw.2.2 (v := 0) rfl dJx4a65c_grow_92f84_4 ?_
  refine lv_istore_n (lv' := [(2, .int 0), (0, .ref a), (1, .int 1)]) hx hb dJx4a65c_grow_92f84_5 rfl hl (by decide) rfl (fun ls hl => ?_)
  refine lv_iload_n hx hb dJx4a65c_grow_92f84_6 rfl (lv_at hl 0 rfl) ?_
  refine lv_if_gt (tgt := 20) hx hb dJx4a65c_grow_92f84_7 (by decide) (fun z => absurd z (by decide)) (fun _ => ?_)
  refine lv_aload_n hx hb dJx4a65c_grow_92f84_10 rfl (lv_at hl 1 rfl) ?_
  refine q_get (C := RJx4a65c) (T := TJx4a65c) (N := 3) (ci := 9) E (fun w h => List.mem_cons_of_mem _ (inJx4a65c w h)) hw 0 rfl rfl 1 (by decide) (List.mem_cons_of_mem _ tb_400) (v := .ref (tS 3)) rfl dJx4a65c_grow_92f84_11 ?_
  refine va_gets hx hb (E.2.2.2.2.2.2.1.2.2.1) hw.2.2 E.1.2.2.2.1 (E.1.2.2.2.2 _ (List.mem_cons_of_mem _ tb_398)) (fun _ h => h) dJx4a65c_grow_92f84_14 ?_
  refine lv_acmp_eq (rx := some (tS 3)) (ry := some (tS 3)) (tgt := 45) hx hb dJx4a65c_grow_92f84_17 (by decide) (fun _ => ?_) (fun z => absurd rfl z)
  refine lv_aload_n hx hb dJx4a65c_grow_92f84_45 rfl (lv_at hl 1 rfl) ?_
  refine lv_bipush (v := 10) hx hb dJx4a65c_grow_92f84_46 (by decide) ?_
  refine lv_iload_n hx hb dJx4a65c_grow_92f84_48 rfl (lv_at hl 2 rfl) ?_
  refine va_mmax hx hb (E.1.2.2.1.trans hl.1.symm) E.1.2.2.2.1 (E.1.2.2.2.2 _ (List.mem_cons_of_mem _ tb_513)) (E.1.2.2.2.2 _ (List.mem_cons_of_mem _ tb_225)) (E.1.2.2.2.2 _ (List.mem_cons_of_mem _ tb_54)) (E.1.2.2.2.2 _ (List.mem_cons_of_mem _ tb_226)) (Nat.le_of_ble_eq_true rfl) (Nat.le_of_ble_eq_true rfl) (Nat.zero_le _) (Nat.zero_le _) dJx4a65c_grow_92f84_49 ?_
  refine q_newo E hKA hw (List.mem_cons_of_mem _ tb_514) (Nat.le_of_ble_eq_true rfl) (Nat.le_of_ble_eq_true rfl) dJx4a65c_grow_92f84_52 (fun q H hw => ?_)
  refine lv_dup_x1 hx hb dJx4a65c_grow_92f84_55 rfl rfl ?_
  replace hw := hw.perm (List.Perm.swap (a, .inr (9, [.int mc, .ref (tS 3), .int 0])) (q, .inl (cA 5, 10, .inr (.inr (.inr (.inr (fun _ => none)))))) F)
  refine q_putr (C := RJx4a65c) (T := TJx4a65c) (N := 3) (ci := 9) E (fun w h => List.mem_cons_of_mem _ (inJx4a65c w h)) tyJx4a65c tyJx4a65c_ok nmJx4a65c hw 0 rfl rfl 1 (by decide) (List.mem_cons_of_mem _ tb_400) rfl rfl rfl (Nat.le_of_ble_eq_true rfl) ((a, .inr (9, [.int mc, .ref q, .int 0])) :: (q, .inl (cA 5, 10, .inr (.inr (.inr (.inr (fun _ => none)))))) :: F) rfl dJx4a65c_grow_92f84_56 (fun H locs hw => ?_)
  exact q_retr2 E hw rfl dJx4a65c_grow_92f84_59
theorem c_grow0 (l : Launch) (D : va_G) (cA : Nat → ClassId) (tS : Nat → Nat) (A : Nat → Prop) (a : Nat) (mc : Int32) (F : va_W) : CR2 l yJx4a65c_grow_d5877 (Cond.code yJx4a65c_grow_d5877 cJx4a65c_grow_d5877 1 (Option.some (.array (.object "java/lang/Object"))) :: bw) 2 1 10 46 D cA tS A [.ref a] ((a, .inr (9, [.int mc, .ref (tS 3), .int 0])) :: F) (fun q w0 => w0 = (a, .inr (9, [.int mc, .ref q, .int 0])) :: (q, .inl (cA 5, 10, .inr (.inr (.inr (.inr (fun _ => none)))))) :: F) := by
  refine cr2_of (by decide +kernel) (Nat.le_of_ble_eq_true rfl) ?_
  intro p e s m below meth c E hKA hw ls hl
  replace E : Ev p cJx4a65c_grow_d5877 1 (Option.some (.array (.object "java/lang/Object"))) RJx4a65c (Cond.code yJx4a65c_grow_d5877 cJx4a65c_grow_d5877 1 (Option.some (.array (.object "java/lang/Object"))) :: bw) D cA tS A s m _ meth c := E
  replace hl : lv_has ls 1 [(0, .ref a)] := hl
  have hx := E.1.1
  have hb := E.1.2.1
  refine lv_aload_n hx hb dJx4a65c_grow_d5877_0 rfl (lv_at hl 0 rfl) ?_
  refine lv_aload_n hx hb dJx4a65c_grow_d5877_1 rfl (lv_at hl 0 rfl) ?_
  refine q_get (C := RJx4a65c) (T := TJx4a65c) (N := 3) (ci := 9) E (fun w h => List.mem_cons_of_mem _ (inJx4a65c w h)) hw 0 rfl rfl 2 (by decide) (List.mem_cons_of_mem _ tb_401) (v := .int 0) rfl dJx4a65c_grow_d5877_2 ?_
  refine lv_iconst (v := 1) hx hb dJx4a65c_grow_d5877_5 (by decide) ?_
  refine lv_iadd hx hb dJx4a65c_grow_d5877_6 ?_
  refine q_cv2 (As := [.int 1]) (rest := []) E hKA hw hl (c_grow1 l D cA tS A a mc F) 1 (bwV bw_c tb_473 tb_475 tb_5 tb_61 tb_476) rfl (by decide +kernel) ⟨(Nat.le_of_ble_eq_true rfl), (Nat.le_of_ble_eq_true rfl)⟩ 0 9 (T := TJx4a65c) (N := 3) rfl rfl rfl rfl (Nat.le_of_ble_eq_true rfl) ⟨(Nat.le_of_ble_eq_true rfl), (Nat.le_of_ble_eq_true rfl)⟩ dJx4a65c_grow_d5877_7 (fun H locs q w0 hp hw => ?_)
  subst hp
  exact q_retr2 E hw rfl dJx4a65c_grow_d5877_10
/-- the first element -/
theorem c_add1a (l : Launch) (D : va_G) (cA : Nat → ClassId) (tS : Nat → Nat) (A : Nat → Prop) (a r : Nat) (mc : Int32) (f : Nat → Int32) (F : va_W) : CX l yJx4a65c_add_72be8 (Cond.code yJx4a65c_add_72be8 cJx4a65c_add_72be8 4 none :: bw) 3 1 10 68 D cA tS A [.ref a, .ref r, .ref (tS 3), .int 0] ((a, .inr (9, [.int mc, .ref (tS 3), .int 0])) :: (r, .inl (cA 0, 6, .inl f)) :: F) none (fun w0 => ∃ q : Nat, w0 = (a, .inr (9, [.int mc, .ref q, .int 1])) :: (q, (.inl (cA 5, 10, .inr (.inr (.inr (.inr (va_up (fun _ => none) 0 (some r)))))))) :: (r, .inl (cA 0, 6, .inl f)) :: F) := by
  refine cx_of (by decide +kernel) (Nat.le_of_ble_eq_true rfl) ?_
  intro p e s m below meth c E hKA hnm hw ls hl
  replace E : Ev p cJx4a65c_add_72be8 4 none RJx4a65c (Cond.code yJx4a65c_add_72be8 cJx4a65c_add_72be8 4 none :: bw) D cA tS A s m _ meth c := E
  replace hl : lv_has ls 4 [(0, .ref a), (1, .ref r), (2, .ref (tS 3)), (3, .int 0)] := hl
  have hx := E.1.1
  have hb := E.1.2.1
  refine lv_iload_n hx hb dJx4a65c_add_72be8_0 rfl (lv_at hl 3 rfl) ?_
  refine lv_aload_n hx hb dJx4a65c_add_72be8_1 rfl (lv_at hl 2 rfl) ?_
  refine va_tlen hx hb (E.2.2.2.2.2.2.1.2.2.2) hw.2.2 (v := 0) rfl dJx4a65c_add_72be8_2 ?_
  refine lv_icmp_ne (tgt := 11) hx hb dJx4a65c_add_72be8_3 (by decide) (fun z => absurd rfl z) (fun _ => ?_)
  refine lv_aload_n hx hb dJx4a65c_add_72be8_6 rfl (lv_at hl 0 rfl) ?_
  refine q_cv2 (As := []) (rest := []) E hKA hw hl (c_grow0 l D cA tS A a mc ((r, .inl (cA 0, 6, .inl f)) :: F)) 0 (bwV bw_c tb_469 tb_471 tb_4 tb_61 tb_472) rfl (by decide +kernel) ⟨(Nat.le_of_ble_eq_true rfl), (Nat.le_of_ble_eq_true rfl)⟩ 0 9 (T := TJx4a65c) (N := 3) rfl rfl rfl rfl (Nat.le_of_ble_eq_true rfl) ⟨(Nat.le_of_ble_eq_true rfl), (Nat.le_of_ble_eq_true rfl)⟩ dJx4a65c_add_72be8_7 (fun H locs q w0 hp hw => ?_)
  subst hp
  refine lv_astore_n (lv' := [(2, .ref q), (0, .ref a), (1, .ref r), (3, .int 0)]) hx hb dJx4a65c_add_72be8_10 rfl hl (by decide) rfl (fun ls hl => ?_)
  refine lv_aload_n hx hb dJx4a65c_add_72be8_11 rfl (lv_at hl 0 rfl) ?_
  refine lv_iload_n hx hb dJx4a65c_add_72be8_12 rfl (lv_at hl 3 rfl) ?_
  refine lv_aload_n hx hb dJx4a65c_add_72be8_13 rfl (lv_at hl 2 rfl) ?_
  refine q_asto E hw 1 2 rfl rfl (by decide) ((a, .inr (9, [.int mc, .ref q, .int 0])) :: (q, (.inl (cA 5, 10, .inr (.inr (.inr (.inr (va_up (fun _ => none) 0 (some r)))))))) :: (r, .inl (cA 0, 6, .inl f)) :: F) rfl dJx4a65c_add_72be8_14 (fun H locs hw => ?_)
  refine lv_aload_n hx hb dJx4a65c_add_72be8_15 rfl (lv_at hl 1 rfl) ?_
  refine lv_iload_n hx hb dJx4a65c_add_72be8_16 rfl (lv_at hl 3 rfl) ?_
  refine lv_iconst (v := 1) hx hb dJx4a65c_add_72be8_17 (by decide) ?_
  refine lv_iadd hx hb dJx4a65c_add_72be8_18 ?_
  refine q_puti (C := RJx4a65c) (T := TJx4a65c) (N := 3) (ci := 9) E (fun w h => List.mem_cons_of_mem _ (inJx4a65c w h)) tyJx4a65c tyJx4a65c_ok nmJx4a65c hw 0 rfl rfl 2 (by decide) (List.mem_cons_of_mem _ tb_401) rfl rfl (Nat.le_of_ble_eq_true rfl) ((a, .inr (9, [.int mc, .ref q, .int 1])) :: (q, (.inl (cA 5, 10, .inr (.inr (.inr (.inr (va_up (fun _ => none) 0 (some r)))))))) :: (r, .inl (cA 0, 6, .inl f)) :: F) rfl dJx4a65c_add_72be8_19 (fun H locs hw => ?_)
  exact q_retX E hw ⟨q, rfl⟩ dJx4a65c_add_72be8_22
/-- one more -/
theorem c_add1b (l : Launch) (D : va_G) (cA : Nat → ClassId) (tS : Nat → Nat) (A : Nat → Prop) (a d r n : Nat) (hn : n < 10) (mc : Int32) (g : Nat → Option Nat) (f : Nat → Int32) (F : va_W) : CX l yJx4a65c_add_72be8 (Cond.code yJx4a65c_add_72be8 cJx4a65c_add_72be8 4 none :: bw) 3 1 10 68 D cA tS A [.ref a, .ref r, .ref d, .int (Int32.ofNat n)] ((a, .inr (9, [.int mc, .ref d, .int (Int32.ofNat n)])) :: (d, (.inl (cA 5, 10, .inr (.inr (.inr (.inr g)))))) :: (r, .inl (cA 0, 6, .inl f)) :: F) none (fun w0 => w0 = (a, .inr (9, [.int mc, .ref d, .int (Int32.ofNat (n + 1))])) :: (d, (.inl (cA 5, 10, .inr (.inr (.inr (.inr (va_up g n (some r)))))))) :: (r, .inl (cA 0, 6, .inl f)) :: F) := by
  refine cx_of (by decide +kernel) (Nat.le_of_ble_eq_true rfl) ?_
  intro p e s m below meth c E hKA hnm hw ls hl
  replace E : Ev p cJx4a65c_add_72be8 4 none RJx4a65c (Cond.code yJx4a65c_add_72be8 cJx4a65c_add_72be8 4 none :: bw) D cA tS A s m _ meth c := E
  replace hl : lv_has ls 4 [(0, .ref a), (1, .ref r), (2, .ref d), (3, .int (Int32.ofNat n))] := hl
  have hx := E.1.1
  have hb := E.1.2.1
  have hi : ib (Int32.ofNat n) 10 := ib_nI hn (by decide)
  have e1 : Int32.ofNat n + 1 = Int32.ofNat (n + 1) := nI_1 n
  have e2 : ix (Int32.ofNat n) = n := ix_nI (by omega)
  refine lv_iload_n hx hb dJx4a65c_add_72be8_0 rfl (lv_at hl 3 rfl) ?_
  refine lv_aload_n hx hb dJx4a65c_add_72be8_1 rfl (lv_at hl 2 rfl) ?_
  refine va_alen hx hb E.2.2.2.2.1 hw.1 1 5 rfl rfl (v := 10) rfl dJx4a65c_add_72be8_2 ?_
  refine lv_icmp_ne (tgt := 11) hx hb dJx4a65c_add_72be8_3 (by decide) (fun _ => ?_) (fun z => absurd ((nI_eq (a := n) (b := 10) (by omega) (by decide)).mp z) (by omega))
  refine lv_aload_n hx hb dJx4a65c_add_72be8_11 rfl (lv_at hl 2 rfl) ?_
  refine lv_iload_n hx hb dJx4a65c_add_72be8_12 rfl (lv_at hl 3 rfl) ?_
  refine lv_aload_n hx hb dJx4a65c_add_72be8_13 rfl (lv_at hl 1 rfl) ?_
  refine q_asto E hw 1 2 rfl rfl hi ((a, .inr (9, [.int mc, .ref d, .int (Int32.ofNat n)])) :: (d, (.inl (cA 5, 10, .inr (.inr (.inr (.inr (va_up g n (some r)))))))) :: (r, .inl (cA 0, 6, .inl f)) :: F) (by rw [e2]; rfl) dJx4a65c_add_72be8_14 (fun H locs hw => ?_)
  refine lv_aload_n hx hb dJx4a65c_add_72be8_15 rfl (lv_at hl 0 rfl) ?_
  refine lv_iload_n hx hb dJx4a65c_add_72be8_16 rfl (lv_at hl 3 rfl) ?_
  refine lv_iconst (v := 1) hx hb dJx4a65c_add_72be8_17 (by decide) ?_
  refine lv_iadd hx hb dJx4a65c_add_72be8_18 ?_
  refine q_puti (C := RJx4a65c) (T := TJx4a65c) (N := 3) (ci := 9) E (fun w h => List.mem_cons_of_mem _ (inJx4a65c w h)) tyJx4a65c tyJx4a65c_ok nmJx4a65c hw 0 rfl rfl 2 (by decide) (List.mem_cons_of_mem _ tb_401) rfl rfl (Nat.le_of_ble_eq_true rfl) ((a, .inr (9, [.int mc, .ref d, .int (Int32.ofNat (n + 1))])) :: (d, (.inl (cA 5, 10, .inr (.inr (.inr (.inr (va_up g n (some r)))))))) :: (r, .inl (cA 0, 6, .inl f)) :: F) (by rw [e1]; rfl) dJx4a65c_add_72be8_19 (fun H locs hw => ?_)
  refine W.widen (k := 1) (n := 10) (Nat.le_of_ble_eq_true rfl) (Nat.le_of_ble_eq_true rfl) ?_
  exact q_retX E hw rfl dJx4a65c_add_72be8_22
theorem c_add_a (l : Launch) (D : va_G) (cA : Nat → ClassId) (tS : Nat → Nat) (A : Nat → Prop) (a r : Nat) (mc : Int32) (f : Nat → Int32) (F : va_W) : CX l yJx4a65c_add_9ea2d (Cond.code yJx4a65c_add_9ea2d cJx4a65c_add_9ea2d 2 (some .boolean) :: bw) 4 1 10 92 D cA tS A [.ref a, .ref r] ((a, .inr (9, [.int mc, .ref (tS 3), .int 0])) :: (r, .inl (cA 0, 6, .inl f)) :: F) (some (.int 1)) (fun w0 => ∃ q : Nat, w0 = (a, .inr (9, [.int (mc + 1), .ref q, .int 1])) :: (q, (.inl (cA 5, 10, .inr (.inr (.inr (.inr (va_up (fun _ => none) 0 (some r)))))))) :: (r, .inl (cA 0, 6, .inl f)) :: F) := by
  refine cx_of (by decide +kernel) (Nat.le_of_ble_eq_true rfl) ?_
  intro p e s m below meth c E hKA hnm hw ls hl
  replace E : Ev p cJx4a65c_add_9ea2d 2 (some .boolean) RJx4a65c (Cond.code yJx4a65c_add_9ea2d cJx4a65c_add_9ea2d 2 (some .boolean) :: bw) D cA tS A s m _ meth c := E
  replace hl : lv_has ls 2 [(0, .ref a), (1, .ref r)] := hl
  have hx := E.1.1
  have hb := E.1.2.1
  refine lv_aload_n hx hb dJx4a65c_add_9ea2d_0 rfl (lv_at hl 0 rfl) ?_
  refine lv_dup hx hb dJx4a65c_add_9ea2d_1 rfl ?_
  refine va_get (T := TJx4a65c) (N := 3) (ci := 9) (C := RJx4a65c) hx hb E.1.2.2.2.2 (fun w h => List.mem_cons_of_mem _ (inJx4a65c w h)) E.1.2.2.2.1 E.2.2.2.2.1 hw.1 0 rfl rfl 0 (by decide) (E.1.2.2.2.2 _ (List.mem_cons_of_mem _ tb_403)) (u_same (E.1.2.2.2.2 _ (List.mem_cons_of_mem _ tb_404))) (v := .int mc) rfl dJx4a65c_add_9ea2d_2 ?_
  refine lv_iconst (v := 1) hx hb dJx4a65c_add_9ea2d_5 (by decide) ?_
  refine lv_iadd hx hb dJx4a65c_add_9ea2d_6 ?_
  refine va_put (T := TJx4a65c) (N := 3) (ci := 9) (C := RJx4a65c) hx hb E.1.2.2.2.2 (fun w h => List.mem_cons_of_mem _ (inJx4a65c w h)) tyJx4a65c tyJx4a65c_ok nmJx4a65c E.1.2.2.2.1 E.2.2.2.2.1 hw.1 hw.2.1 hw.2.2 0 rfl rfl 0 (by decide) (E.1.2.2.2.2 _ (List.mem_cons_of_mem _ tb_403)) (u_same (E.1.2.2.2.2 _ (List.mem_cons_of_mem _ tb_404))) rfl (ty := .int) rfl rfl rfl (Nat.le_of_ble_eq_true rfl) dJx4a65c_add_9ea2d_7 (fun H locs h1 h2 h3 => ?_)
  have hw : Wd D A ((a, .inr (9, [.int (mc + 1), .ref (tS 3), .int 0])) :: (r, .inl (cA 0, 6, .inl f)) :: F) s.heap H locs := ⟨h1, h2, h3⟩
  refine lv_aload_n hx hb dJx4a65c_add_9ea2d_10 rfl (lv_at hl 0 rfl) ?_
  refine lv_aload_n hx hb dJx4a65c_add_9ea2d_11 rfl (lv_at hl 1 rfl) ?_
  refine lv_aload_n hx hb dJx4a65c_add_9ea2d_12 rfl (lv_at hl 0 rfl) ?_
  refine q_get (C := RJx4a65c) (T := TJx4a65c) (N := 3) (ci := 9) E (fun w h => List.mem_cons_of_mem _ (inJx4a65c w h)) hw 0 rfl rfl 1 (by decide) (List.mem_cons_of_mem _ tb_400) (v := .ref (tS 3)) rfl dJx4a65c_add_9ea2d_13 ?_
  refine lv_aload_n hx hb dJx4a65c_add_9ea2d_16 rfl (lv_at hl 0 rfl) ?_
  refine q_get (C := RJx4a65c) (T := TJx4a65c) (N := 3) (ci := 9) E (fun w h => List.mem_cons_of_mem _ (inJx4a65c w h)) hw 0 rfl rfl 2 (by decide) (List.mem_cons_of_mem _ tb_401) (v := .int 0) rfl dJx4a65c_add_9ea2d_17 ?_
  refine q_cvvX (As := [.ref r, .ref (tS 3), .int 0]) (rest := []) E hKA hw hl (c_add1a l D cA tS A a r (mc + 1) f F) 3 (bwV bw_c tb_465 tb_467 tb_3 tb_61 tb_468) rfl (by decide +kernel) ⟨(Nat.le_of_ble_eq_true rfl), (Nat.le_of_ble_eq_true rfl)⟩ 0 9 (T := TJx4a65c) (N := 3) rfl rfl rfl rfl (Nat.le_of_ble_eq_true rfl) ⟨(Nat.le_of_ble_eq_true rfl), (Nat.le_of_ble_eq_true rfl)⟩ dJx4a65c_add_9ea2d_20 (fun H locs w0 hp hw => ?_)
  obtain ⟨q, rfl⟩ := hp
  refine lv_iconst (v := 1) hx hb dJx4a65c_add_9ea2d_23 (by decide) ?_
  exact q_retzX E hw (Or.inr rfl) ⟨q, rfl⟩ dJx4a65c_add_9ea2d_24
theorem c_add_b (l : Launch) (D : va_G) (cA : Nat → ClassId) (tS : Nat → Nat) (A : Nat → Prop) (a d r n : Nat) (hn : n < 10) (mc : Int32) (g : Nat → Option Nat) (f : Nat → Int32) (F : va_W) : CX l yJx4a65c_add_9ea2d (Cond.code yJx4a65c_add_9ea2d cJx4a65c_add_9ea2d 2 (some .boolean) :: bw) 4 1 10 92 D cA tS A [.ref a, .ref r] ((a, .inr (9, [.int mc, .ref d, .int (Int32.ofNat n)])) :: (d, (.inl (cA 5, 10, .inr (.inr (.inr (.inr g)))))) :: (r, .inl (cA 0, 6, .inl f)) :: F) (some (.int 1)) (fun w0 => w0 = (a, .inr (9, [.int (mc + 1), .ref d, .int (Int32.ofNat (n + 1))])) :: (d, (.inl (cA 5, 10, .inr (.inr (.inr (.inr (va_up g n (some r)))))))) :: (r, .inl (cA 0, 6, .inl f)) :: F) := by
  refine cx_of (by decide +kernel) (Nat.le_of_ble_eq_true rfl) ?_
  intro p e s m below meth c E hKA hnm hw ls hl
  replace E : Ev p cJx4a65c_add_9ea2d 2 (some .boolean) RJx4a65c (Cond.code yJx4a65c_add_9ea2d cJx4a65c_add_9ea2d 2 (some .boolean) :: bw) D cA tS A s m _ meth c := E
  replace hl : lv_has ls 2 [(0, .ref a), (1, .ref r)] := hl
  have hx := E.1.1
  have hb := E.1.2.1
  refine lv_aload_n hx hb dJx4a65c_add_9ea2d_0 rfl (lv_at hl 0 rfl) ?_
  refine lv_dup hx hb dJx4a65c_add_9ea2d_1 rfl ?_
  refine va_get (T := TJx4a65c) (N := 3) (ci := 9) (C := RJx4a65c) hx hb E.1.2.2.2.2 (fun w h => List.mem_cons_of_mem _ (inJx4a65c w h)) E.1.2.2.2.1 E.2.2.2.2.1 hw.1 0 rfl rfl 0 (by decide) (E.1.2.2.2.2 _ (List.mem_cons_of_mem _ tb_403)) (u_same (E.1.2.2.2.2 _ (List.mem_cons_of_mem _ tb_404))) (v := .int mc) rfl dJx4a65c_add_9ea2d_2 ?_
  refine lv_iconst (v := 1) hx hb dJx4a65c_add_9ea2d_5 (by decide) ?_
  refine lv_iadd hx hb dJx4a65c_add_9ea2d_6 ?_
  refine va_put (T := TJx4a65c) (N := 3) (ci := 9) (C := RJx4a65c) hx hb E.1.2.2.2.2 (fun w h => List.mem_cons_of_mem _ (inJx4a65c w h)) tyJx4a65c tyJx4a65c_ok nmJx4a65c E.1.2.2.2.1 E.2.2.2.2.1 hw.1 hw.2.1 hw.2.2 0 rfl rfl 0 (by decide) (E.1.2.2.2.2 _ (List.mem_cons_of_mem _ tb_403)) (u_same (E.1.2.2.2.2 _ (List.mem_cons_of_mem _ tb_404))) rfl (ty := .int) rfl rfl rfl (Nat.le_of_ble_eq_true rfl) dJx4a65c_add_9ea2d_7 (fun H locs h1 h2 h3 => ?_)
  have hw : Wd D A ((a, .inr (9, [.int (mc + 1), .ref d, .int (Int32.ofNat n)])) :: (d, (.inl (cA 5, 10, .inr (.inr (.inr (.inr g)))))) :: (r, .inl (cA 0, 6, .inl f)) :: F) s.heap H locs := ⟨h1, h2, h3⟩
  refine lv_aload_n hx hb dJx4a65c_add_9ea2d_10 rfl (lv_at hl 0 rfl) ?_
  refine lv_aload_n hx hb dJx4a65c_add_9ea2d_11 rfl (lv_at hl 1 rfl) ?_
  refine lv_aload_n hx hb dJx4a65c_add_9ea2d_12 rfl (lv_at hl 0 rfl) ?_
  refine q_get (C := RJx4a65c) (T := TJx4a65c) (N := 3) (ci := 9) E (fun w h => List.mem_cons_of_mem _ (inJx4a65c w h)) hw 0 rfl rfl 1 (by decide) (List.mem_cons_of_mem _ tb_400) (v := .ref d) rfl dJx4a65c_add_9ea2d_13 ?_
  refine lv_aload_n hx hb dJx4a65c_add_9ea2d_16 rfl (lv_at hl 0 rfl) ?_
  refine q_get (C := RJx4a65c) (T := TJx4a65c) (N := 3) (ci := 9) E (fun w h => List.mem_cons_of_mem _ (inJx4a65c w h)) hw 0 rfl rfl 2 (by decide) (List.mem_cons_of_mem _ tb_401) (v := .int (Int32.ofNat n)) rfl dJx4a65c_add_9ea2d_17 ?_
  refine q_cvvX (As := [.ref r, .ref d, .int (Int32.ofNat n)]) (rest := []) E hKA hw hl (c_add1b l D cA tS A a d r n hn (mc + 1) g f F) 3 (bwV bw_c tb_465 tb_467 tb_3 tb_61 tb_468) rfl (by decide +kernel) ⟨(Nat.le_of_ble_eq_true rfl), (Nat.le_of_ble_eq_true rfl)⟩ 0 9 (T := TJx4a65c) (N := 3) rfl rfl rfl rfl (Nat.le_of_ble_eq_true rfl) ⟨(Nat.le_of_ble_eq_true rfl), (Nat.le_of_ble_eq_true rfl)⟩ dJx4a65c_add_9ea2d_20 (fun H locs w0 hp hw => ?_)
  subst hp
  refine lv_iconst (v := 1) hx hb dJx4a65c_add_9ea2d_23 (by decide) ?_
  exact q_retzX E hw (Or.inr rfl) rfl dJx4a65c_add_9ea2d_24
