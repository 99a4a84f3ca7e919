/-! methods that make cells: contracts whose end is some world of a kind, and rows over them -/
/-- beside the worlds: the class of rows of rows, and an array of states can be made -/
def KA (cA : Nat → ClassId) (U : State) : Prop := (∃ k : Class, U.vm.classes[cA 3]? = some k ∧ k.kind = .array (cA 0) (.array .int)) ∧ va_AO RX6 U ∧ va_AO "java/lang/Object" U
theorem KA.moved {cA : Nat → ClassId} {u U : State} (hvm : u.vm.Alike U.vm) (h : KA cA u) : KA cA U := by
  obtain ⟨⟨k, h1, h2⟩, h3, h4⟩ := h
  obtain ⟨k', hk', he⟩ := hvm.2.2 _ _ h1
  exact ⟨⟨k', hk', by rw [he]; exact h2⟩, h3.moved hvm, h4.moved hvm⟩
def QX (D : va_G) (A : Nat → Prop) (v0 : Option Value) (post : va_W → Prop) : Array Value → State → Outcome → State → Prop := fun _ st oc t =>
  oc = .returned v0 ∧ (∃ w0, post w0 ∧ va_P D vwCl w0 t.heap ∧ va_D A w0) ∧ va_F A st t
def CX (l : Launch) (y : MethodName) (ws : List Cond) (fr mc ms lo : Nat) (D : va_G) (cA : Nat → ClassId) (tS : Nat → Nat) (A : Nat → Prop) (av : List Value) (w : va_W) (v0 : Option Value) (post : va_W → Prop) : Prop :=
  Met l y ws ({ frames := fr, cells := mc, slots := ms, locals := lo } : Room) (va_Pc av (fun U => PW D cA tS A w U ∧ KA cA U)) (QX D A v0 post) mc ms A
section HXR
variable {p : Program} {l : Launch} {e : Env} {R : Room} {s : State} {m : MethodId} {args : Array Value} {below : List Frame} {meth : Method} {c : Code} {H : Heap} {locs : List Loc} {cells slots : Nat} {Q : State → Prop}
variable {cc : ByteArray} {nL pc : Nat} {ret : Option FieldType} {own : String} {Ts : List Cond} {D : va_G} {cA : Nat → ClassId} {tS : Nat → Nat} {A : Nat → Prop} {w : va_W} {ls : Array Slot} {rest : List Value}
variable {y : MethodName} {wsc ws' : List Cond} {bytes : ByteArray} {maxL fr mc ms lo index : Nat} {As : List Value} {b : Nat} {st0 : List Value} {post : va_W → Prop}
theorem cx_of {av : List Value} {v0 : Option Value} (hy : plainName y.cls = true) (hav : (lg_sl av).length ≤ maxL)
    (body : ∀ p e s m below meth c, Ev p cc maxL ret y.cls (Cond.code y cc maxL ret :: ws') D cA tS A s m av.toArray meth c → KA cA s → meth.name = y.name → Wd D A w s.heap s.heap [] → ∀ ls : Array Slot, lv_has ls maxL (lv_args 0 av) →
      W p l e ({ frames := fr, cells := mc, slots := ms, locals := lo } : Room) s m av.toArray below meth c s.heap [] 0 0 (MQ below (QX D A v0 post) av.toArray s mc ms A) (F0 m 0 ls [])) :
    CX l y (Cond.code y cc maxL ret :: ws') fr mc ms lo D cA tS A av w v0 post := by
  refine Met.ofW (cc := cc) (maxL := maxL) (ret := ret) hy rfl ?_
  intro p e s m args below meth c s₁ B hml hv
  obtain ⟨rfl, ⟨hA, hF, hP, hD⟩, hK⟩ := hv
  rw [lg_entry_eq]
  exact body p e s m below meth c ⟨⟨B.exec, B.bytes, hml, findClass_of_methodNamed B.named, atoms_spec B.pre⟩, B.returns, B.notSynchronized, hA, hF⟩ hK (name_of_methodNamed B.named B.method).1 ⟨hP, hD, va_S.rf⟩ _ (lv_entry av hav)
theorem q_retX {w0 : va_W} (E : Ev p cc nL none own Ts D cA tS A s m args meth c) (hw : Wd D A w0 s.heap H locs) (hp : post w0) (hdg : decode cc pc = .ok (.return_, 1)) : W p l e R s m args below meth c H locs cells slots (MQ below (QX D A none post) args s cells slots A) (F0 m pc ls []) :=
  W.vret E.1.1 E.1.2.1 E.2.1 (fun t ht _ => ⟨rfl, ⟨w0, hp, by rw [ht]; exact hw.1, hw.2.1⟩, hw.2.2.F ht⟩) hw.2.2.2.2 hdg E.2.2.1
theorem q_retzX {w0 : va_W} {v : Int32} (E : Ev p cc nL (some .boolean) own Ts D cA tS A s m args meth c) (hw : Wd D A w0 s.heap H locs) (hv : bz v) (hp : post w0) (hdg : decode cc pc = .ok (.ireturn, 1)) : W p l e R s m args below meth c H locs cells slots (MQ below (QX D A (some (.int v)) post) args s cells slots A) (F0 m pc ls [.int v]) :=
  W.zret E.1.1 E.1.2.1 E.2.1 (bz_nar hv) (fun t ht _ => ⟨rfl, ⟨w0, hp, by rw [ht]; exact hw.1, hw.2.1⟩, hw.2.2.F ht⟩) hw.2.2.2.2 hdg E.2.2.1
theorem q_obj (E : Ev p cc nL ret own Ts D cA tS A s m args meth c) {lv : List (Nat × Value)} (hl : lv_has ls nL lv) {a : Nat} (hlink : Cond.methodLink own index Lib.objectInit ∈ Ts) (hinst : Cond.instanceMethod Lib.objectInit ∈ Ts) (hcode : Cond.code Lib.objectInit ⟨#[0xb1]⟩ 1 none ∈ Ts)
    (hframes : 1 ≤ R.frames) (hlocals : (rest.map fun v => v.category).sum + 12 ≤ R.locals) (hdg : decode cc pc = .ok (.invokespecial index, 3))
    (kk : W p l e R s m args below meth c H locs cells slots Q (F0 m (pc + 3) ls rest)) : W p l e R s m args below meth c H locs cells slots Q (F0 m pc ls (.ref a :: rest)) :=
  W.objInit E.1.1 E.1.2.1 E.1.2.2.2.1 (E.1.2.2.2.2 _ hlink) (E.1.2.2.2.2 _ hinst) (E.1.2.2.2.2 _ hcode) rfl (by rw [E.1.2.2.1]; exact hl.1) rfl hdg hframes (by simpa [F0] using hlocals) kk
theorem q_putF {C : String} {T : u_T} {N ci : Nat} (E : Ev p cc nL ret own Ts D cA tS A s m args meth c) (hin2 : meth.name = "<init>") (hin : ∀ w ∈ u_ws C T N, w ∈ Ts) (ty0 : Nat → FieldType) (hty : ∀ k, k < N → parseFieldDescriptor (T k).2.2.1 = some (ty0 k)) (hnm : ∀ a, a < N → ∀ b, b < N → a ≠ b → (T a).2.1 ≠ (T b).2.1) (hw : Wd D A w s.heap H locs) (q0 : Nat) {a : Nat} {fs : List Value} (he : w[q0]? = some (a, .inr (ci, fs))) (hc : vwCl[ci]? = some (C, T, N)) (k : Nat) (hk : k < N)
    (hlink : Cond.fieldLink own index (T k).1 (T k).2.1 (T k).2.2.1 ∈ Ts) (hfin : (T k).2.2.2 = true) (hdecl : (T k).1 = own) {v : Nat} (hn : narrow (ty0 k) (.ref v) = .ref v) (hfit : fits (ty0 k) (.ref v) = true) (hl : k < fs.length) (w' : va_W) (hw' : w.set q0 (a, .inr (ci, fs.set k (.ref v))) = w') (hdg : decode cc pc = .ok (.putfield index, 3))
    (kk : ∀ (H1 : Heap) (locs1 : List Loc), Wd D A w' s.heap H1 locs1 → W p l e R s m args below meth c H1 locs1 cells slots Q (F0 m (pc + 3) ls rest)) : W p l e R s m args below meth c H locs cells slots Q (F0 m pc ls (.ref v :: .ref a :: rest)) := by
  subst hw'
  exact va_putF E.1.1 E.1.2.1 E.1.2.2.2.2 hin ty0 hty hnm E.1.2.2.2.1 E.2.2.2.2.1 hw.1 hw.2.1 hw.2.2 q0 he hc k hk (E.1.2.2.2.2 _ hlink) (fun _ h => h) hfin hin2 hdecl (hty k hk) hn hfit hl hdg (fun H1 locs1 h1 h2 h3 => kk H1 locs1 ⟨h1, h2, h3⟩)
theorem q_new {C : String} {T : u_T} {N ci : Nat} (E : Ev p cc nL ret own Ts D cA tS A s m args meth c) (hin : ∀ w ∈ u_ws C T N, w ∈ Ts) (ty0 : Nat → FieldType) (hty : ∀ k, k < N → parseFieldDescriptor (T k).2.2.1 = some (ty0 k)) (hw : Wd D A w s.heap H locs) (hc : vwCl[ci]? = some (C, T, N)) {fs : List Value} (hfs : ∀ j, j < N → defaultValue (ty0 j) = vp_V fs j)
    (hcl : Cond.classLink own index C ∈ Ts) (hinst : Cond.instantiable C N ∈ Ts) (hini : Cond.initialized C ∈ Ts) (hcells : cells + 1 ≤ R.cells) (hslots : slots + N ≤ R.slots) (hdg : decode cc pc = .ok (.new index, 3))
    (kk : ∀ (q : Nat) (H1 : Heap), Wd D A ((q, .inr (ci, fs)) :: w) s.heap H1 locs → W p l e R s m args below meth c H1 locs (cells + 1) (slots + N) Q (F0 m (pc + 3) ls (.ref q :: rest))) : W p l e R s m args below meth c H locs cells slots Q (F0 m pc ls rest) :=
  va_new E.1.1 E.1.2.1 E.1.2.2.2.2 hin ty0 hty E.1.2.2.2.1 (E.1.2.2.2.2 _ hcl) (E.1.2.2.2.2 _ hinst) (E.1.2.2.2.2 _ hini) E.2.2.2.2.1 hw.1 hw.2.1 hw.2.2 E.2.2.2.1 hc hfs hcells hslots hdg (fun q H1 h1 h2 h3 => kk q H1 (Wd.perm ⟨h1, h2, h3⟩ (List.perm_append_comm (l₁ := w) (l₂ := [(q, .inr (ci, fs))]))))
theorem q_newa {atype : ArrayType} {ty : FieldType} (j : Nat) (E : Ev p cc nL ret own Ts D cA tS A s m args meth c) (hw : Wd D A w s.heap H locs) (hty : newarray.typeOf atype = ty) (ht : (tyl cA)[j]? = some (cA j, ty)) (hra : ∀ (U : State) (k : ClassId), va_RA U k ty → U.vm.findClass ("[" ++ ty.toString) = some k) (harr : Cond.arrayClass (newarray.typeOf atype) ∈ Ts)
    {n : Int32} {N' : Nat} (ha : ∀ k : ClassId, vp_cell k (N', .inl (fun _ => 0)) = arrV k N' (fun _ => defaultValue ty)) (hn : ¬ n < 0) (hN : n.toNatClampNeg = N') (hbytes : N' * componentBytes ty ≤ 536870912) (hcells : cells + 1 ≤ R.cells) (hslots : slots + N' ≤ R.slots) (hdg : decode cc pc = .ok (.newarray atype, 2))
    (kk : ∀ (q : Nat) (H1 : Heap), Wd D A ((q, .inl (cA j, N', .inl (fun _ => 0))) :: w) s.heap H1 locs → W p l e R s m args below meth c H1 locs (cells + 1) (slots + N') Q (F0 m (pc + 2) ls (.ref q :: rest))) : W p l e R s m args below meth c H locs cells slots Q (F0 m pc ls (.int n :: rest)) := by
  refine va_newa E.1.1 E.1.2.1 (E.1.2.2.2.2 _ harr) hty E.2.2.2.2.1 hw.1 hw.2.1 hw.2.2 E.2.2.2.1 (a0 := (N', .inl (fun _ => 0))) ha hn hN hbytes hcells hslots hdg (fun q c1 H1 k1 h1 h2 h3 => ?_)
  have e1 := hra _ _ (k1.2 6 (c1, ty) rfl).2
  have e2 := hra _ _ (E.2.2.2.2.1.2 j _ ht).2
  have e3 : c1 = cA j := Option.some.inj (e1.symm.trans e2)
  rw [e3] at h1 h2
  exact kk q H1 (Wd.perm ⟨h1, h2, h3⟩ (List.perm_append_comm (l₁ := w) (l₂ := [(q, .inl (cA j, N', .inl (fun _ => 0)))])))
/-- an array of states -/
theorem q_newst (E : Ev p cc nL ret own Ts D cA tS A s m args meth c) (hK : KA cA s) (hw : Wd D A w s.heap H locs) (hcl : Cond.classLink own index RX6 ∈ Ts) (hcells : cells + 1 ≤ R.cells) (hslots : slots + 2 ≤ R.slots) (hdg : decode cc pc = .ok (.anewarray index, 3))
    (kk : ∀ (q : Nat) (H1 : Heap), Wd D A ((q, .inl (cA 4, 2, .inr (.inr (.inr (.inr (fun _ => none)))))) :: w) s.heap H1 locs → W p l e R s m args below meth c H1 locs (cells + 1) (slots + 2) Q (F0 m (pc + 3) ls (.ref q :: rest))) : W p l e R s m args below meth c H locs cells slots Q (F0 m pc ls (.int 2 :: rest)) := by
  refine va_newq (C := RX6) (N' := 2) E.1.1 E.1.2.1 E.1.2.2.2.1 (E.1.2.2.2.2 _ hcl) hK.2.1 E.2.2.2.2.1 hw.1 hw.2.1 hw.2.2 E.2.2.2.1 (by decide) (by decide) (by decide) hcells hslots hdg (fun q c1 H1 k1 h1 h2 h3 => ?_)
  obtain ⟨-, -, -, -, -, e1⟩ := (k1.2 6 (c1, .object RX6) rfl).2
  obtain ⟨-, -, -, -, -, e2⟩ := (E.2.2.2.2.1.2 4 (cA 4, .object RX6) rfl).2
  have e3 : c1 = cA 4 := Option.some.inj (e1.symm.trans e2)
  rw [e3] at h1 h2
  exact kk q H1 (Wd.perm ⟨h1, h2, h3⟩ (List.perm_append_comm (l₁ := w) (l₂ := [(q, .inl (cA 4, 2, .inr (.inr (.inr (.inr (fun _ => none))))))])))
theorem q_callX {a : Array Value} (hr : va_Run p l e R s m args below meth c H locs cells slots mc ms (F0 m pc ls st0) rest (QX D A none post a) A) (hw : Wd D A w s.heap H locs)
    (kk : ∀ (H1 : Heap) (locs1 : List Loc) (w0 : va_W), post w0 → Wd D A w0 s.heap H1 locs1 → W p l e R s m args below meth c H1 locs1 (cells + mc) (slots + ms) Q (F0 m (pc + 3) ls rest)) : W p l e R s m args below meth c H locs cells slots Q (F0 m pc ls st0) := by
  intro T hT X
  obtain ⟨v', st₀, t, T', L, h0, X', hL, e1, e2, ⟨hv, ⟨w0, hp, hP, hD⟩, hz, hk⟩, st⟩ := hr T hT X
  cases hv
  have hS := hw.2.2
  rw [h0] at hz hk
  obtain ⟨t2, a1, b1⟩ := kk T'.heap (locs ++ L) w0 hp ⟨by rw [e1]; exact hP, hD, Nat.le_trans hS.1 (by rw [e1]; exact hz), fun q h1 h2 => by rw [e1, hk q (Nat.lt_of_lt_of_le h1 hS.1) h2]; exact hS.2.1 q h1 h2, fun q hq => by
      rcases List.mem_append.mp hq with h | h
      · exact hS.2.2 q h
      · exact hL q h⟩ T' rfl X'
  exact ⟨t2, st t2 a1, b1⟩
theorem q_callXi {a : Array Value} {v : Value} (hr : va_Run p l e R s m args below meth c H locs cells slots mc ms (F0 m pc ls st0) rest (QX D A (some v) post a) A) (hw : Wd D A w s.heap H locs)
    (kk : ∀ (H1 : Heap) (locs1 : List Loc) (w0 : va_W), post w0 → Wd D A w0 s.heap H1 locs1 → W p l e R s m args below meth c H1 locs1 (cells + mc) (slots + ms) Q (F0 m (pc + 3) ls (v :: rest))) : W p l e R s m args below meth c H locs cells slots Q (F0 m pc ls st0) := by
  intro T hT X
  obtain ⟨v', st₀, t, T', L, h0, X', hL, e1, e2, ⟨hv, ⟨w0, hp, hP, hD⟩, hz, hk⟩, st⟩ := hr T hT X
  cases hv
  have hS := hw.2.2
  rw [h0] at hz hk
  obtain ⟨t2, a1, b1⟩ := kk T'.heap (locs ++ L) w0 hp ⟨by rw [e1]; exact hP, hD, Nat.le_trans hS.1 (by rw [e1]; exact hz), fun q h1 h2 => by rw [e1, hk q (Nat.lt_of_lt_of_le h1 hS.1) h2]; exact hS.2.1 q h1 h2, fun q hq => by
      rcases List.mem_append.mp hq with h | h
      · exact hS.2.2 q h
      · exact hL q h⟩ T' rfl X'
  exact ⟨t2, st t2 a1, b1⟩
theorem q_blindX {av : List Value} : FrameBlind (va_Pc av (fun U => PW D cA tS A w U ∧ KA cA U)) := fun a U g mk h =>
  ⟨h.1, (q_blind a U g mk ⟨h.1, h.2.1⟩).2, KA.moved (u := U) (U := U.calling g mk a) (Vm.Alike.refl U.vm) h.2.2⟩
theorem q_preX (E : Ev p cc nL ret own Ts D cA tS A s m args meth c) (hK : KA cA s) (hw : Wd D A w s.heap H locs) {As : List Value} : PreS s H (va_Pc As (fun U => PW D cA tS A w U ∧ KA cA U)) As :=
  ⟨q_blindX, fun U hU hW => ⟨rfl, q_pw E hw hU hW, hK.moved hW.alike⟩⟩
theorem q_ctor {lv : List (Nat × Value)} (E : Ev p cc nL ret own Ts D cA tS A s m args meth c) (hK : KA cA s) (hw : Wd D A w s.heap H locs) (hl : lv_has ls nL lv) (hC : CX l y wsc fr mc ms lo D cA tS A (.ref b :: As) w none post) (n : Nat) (hG : GoodIn Ts wsc) (hws : wsc = Cond.code y bytes maxL none :: ws') (hini : Cond.initialized y.cls ∈ Ts) (hlk : Cond.methodLink own index y ∈ Ts) (hin : Cond.instanceMethod y ∈ Ts) (hy1 : y.name = "<init>")
    (hd : y.cls ≠ "java/lang/invoke/MethodHandle" ∧ y.cls ≠ "java/lang/invoke/VarHandle" ∧ (parseMethodDescriptor y.desc).map (fun d => d.parameters.length) = some n) (hR : fr + 1 ≤ R.frames ∧ 8 + (maxL + 11) + lo ≤ R.locals)
    (hn : As.length = n) (hst : st0 = As.reverse ++ .ref b :: rest) (hW : (rest.map fun v => v.category).sum ≤ 8) (hf : cells + mc ≤ R.cells ∧ slots + ms ≤ R.slots) (hdg : decode cc pc = .ok (.invokespecial index, 3))
    (kk : ∀ (H1 : Heap) (locs1 : List Loc) (w0 : va_W), post w0 → Wd D A w0 s.heap H1 locs1 → W p l e R s m args below meth c H1 locs1 (cells + mc) (slots + ms) Q (F0 m (pc + 3) ls rest)) : W p l e R s m args below meth c H locs cells slots Q (F0 m pc ls st0) :=
  q_callX (va_runI E.1 hC (cwI n E.1.2.2.2.2 hG hws rfl rfl (E.1.2.2.2.2 _ hini) (E.1.2.2.2.2 _ hlk) (E.1.2.2.2.2 _ hin) hy1 hd hR) (q_preX E hK hw) rfl hn hl.1 hst (lv_room (pc := pc) (ls := ls) (rest := st0) hW) hdg hf) hw kk
/-- .. of a nest mate -/
theorem q_ctorN {lv : List (Nat × Value)} {host : String} (E : Ev p cc nL ret own Ts D cA tS A s m args meth c) (hK : KA cA s) (hw : Wd D A w s.heap H locs) (hl : lv_has ls nL lv) (hC : CX l y wsc fr mc ms lo D cA tS A (.ref b :: As) w none post) (n : Nat) (hG : GoodIn Ts wsc) (hws : wsc = Cond.code y bytes maxL none :: ws') (hini : Cond.initialized y.cls ∈ Ts) (hN : Cond.methodLinkNest own index y host ∈ nestL) (hin : Cond.instanceMethod y ∈ Ts) (hy1 : y.name = "<init>")
    (hd : y.cls ≠ "java/lang/invoke/MethodHandle" ∧ y.cls ≠ "java/lang/invoke/VarHandle" ∧ (parseMethodDescriptor y.desc).map (fun d => d.parameters.length) = some n) (hR : fr + 1 ≤ R.frames ∧ 8 + (maxL + 11) + lo ≤ R.locals)
    (hn : As.length = n) (hst : st0 = As.reverse ++ .ref b :: rest) (hW : (rest.map fun v => v.category).sum ≤ 8) (hf : cells + mc ≤ R.cells ∧ slots + ms ≤ R.slots) (hdg : decode cc pc = .ok (.invokespecial index, 3))
    (kk : ∀ (H1 : Heap) (locs1 : List Loc) (w0 : va_W), post w0 → Wd D A w0 s.heap H1 locs1 → W p l e R s m args below meth c H1 locs1 (cells + mc) (slots + ms) Q (F0 m (pc + 3) ls rest)) : W p l e R s m args below meth c H locs cells slots Q (F0 m pc ls st0) :=
  q_callX (va_runIN E.1 hC ⟨va_cnB n E.1.2.2.2.2 hG hws rfl rfl (E.2.2.2.2.2.1 _ hN) (E.1.2.2.2.2 _ hini) hd hR, hy1, E.1.2.2.2.2 _ hin⟩ (q_preX E hK hw) rfl hn hl.1 hst (lv_room (pc := pc) (ls := ls) (rest := st0) hW) hdg hf) hw kk
end HXR
