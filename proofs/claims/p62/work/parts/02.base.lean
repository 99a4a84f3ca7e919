/-! the base: the state of a group of cells as one function, what holds beside the worlds, and rows over them -/
abbrev Sg : Type := Nat → Nat → Int32
def up (σ : Sg) (k i : Nat) (v : Int32) : Sg := fun a => if a = k then upd (σ k) i v else σ a
theorem up_ne (σ : Sg) (k i : Nat) (v : Int32) (a : Nat) (h : a ≠ k) : (up σ k i v) a = σ a := if_neg h
theorem up_at (σ : Sg) (k i : Nat) (v : Int32) : (up σ k i v) k = upd (σ k) i v := if_pos rfl
theorem up_at0 (σ : Sg) (k : Nat) (v : Int32) : (up σ k 0 v) k 0 = v := (congrFun (up_at σ k 0 v) 0).trans (if_pos rfl)
def upr (σ : Sg) (k : Nat) (f : Nat → Int32) : Sg := fun a => if a = k then f else σ a
theorem upr_ne (σ : Sg) (k : Nat) (f : Nat → Int32) (a : Nat) (h : a ≠ k) : (upr σ k f) a = σ a := if_neg h
theorem upr_at (σ : Sg) (k : Nat) (f : Nat → Int32) : (upr σ k f) k = f := if_pos rfl
def fillf (n : Nat) (v : Int32) (f : Nat → Int32) : Nat → Int32 := fun j => if j < n then v else f j
/-- a char, as an int -/
abbrev cz (x : Int32) : Prop := (x.toUInt32 % 65536).toInt32 = x
theorem cz_nar {x : Int32} (h : cz x) : narrow .char (.int x) = .int x := by
  show Value.int (x.toUInt32 % 65536).toInt32 = _
  rw [h]
theorem q_fld {o : Option Value} {x y : Int32} (h : x = y) (e : o = some (.int x)) : o = some (.int y) := by rw [e, h]
abbrev ib (i : Int32) (n : Nat) : Prop := ¬ (i < 0 ∨ n ≤ i.toNatClampNeg)
abbrev ix (i : Int32) : Nat := i.toNatClampNeg
/-- a boolean, as an int -/
abbrev bz (x : Int32) : Prop := x = 0 ∨ x = 1
theorem bz_nar {x : Int32} (h : bz x) : narrow .boolean (.int x) = .int x := by
  rcases h with rfl | rfl <;> decide
theorem g_some {c : Prop} [Decidable c] {α : Type} {x : Option α} {r : α} (h : (if c then x else none) = some r) : c ∧ x = some r := by
  by_cases hc : c
  · rw [if_pos hc] at h
    exact ⟨hc, h⟩
  · rw [if_neg hc] at h
    cases h
theorem b_some {α β : Type} {x : Option α} {f : α → Option β} {r : β} (h : x.bind f = some r) : ∃ a, x = some a ∧ f a = some r := by
  cases x with
  | none => cases h
  | some a => exact ⟨a, rfl, h⟩
theorem i_pos {c : Prop} [Decidable c] {α : Type} {x y r : α} (h : (if c then x else y) = r) (hc : c) : x = r := by rwa [if_pos hc] at h
theorem i_neg {c : Prop} [Decidable c] {α : Type} {x y r : α} (h : (if c then x else y) = r) (hc : ¬ c) : y = r := by rwa [if_neg hc] at h
abbrev tyl (cA : Nat → ClassId) : List (ClassId × FieldType) := [(cA 0, .int), (cA 1, .boolean), (cA 2, .byte), (cA 3, .array .int), (cA 4, .object RX6), (cA 5, .object "java/lang/Object")]
abbrev nestL : List Cond := [.methodLinkNest RX8 11 yX6_init "HelpDesk", .methodLinkNest RX1 11 yX0_init "HelpDesk", .methodLinkNest RX1 20 yX3_init "HelpDesk", .methodLinkNest RX1 31 yX7_init "HelpDesk", .methodLinkNest RX6 22 yX2_init "HelpDesk", .methodLinkNest RX8 31 yX5_init "HelpDesk", .methodLinkNest RX1 87 yX8_within "HelpDesk", .methodLinkNest RX0 30 yX8_within "HelpDesk", .fieldLinkNest RX0 18 RX8 "FIRST_OPENING" "[I" "HelpDesk", .fieldLinkNest RX0 27 RX8 "FIRST_CLOSING" "[I" "HelpDesk", .castable "[I" "java/lang/Object"]
theorem nest_warm {s U : State} (hW : s.WarmedH U.vm) (h : ∀ w ∈ nestL, va_Nw w s) : ∀ w ∈ nestL, va_Nw w U := by
  have h' := List.forall_mem_cons.mp h
  obtain ⟨h0, h'⟩ := h'
  obtain ⟨h1, h'⟩ := List.forall_mem_cons.mp h'
  obtain ⟨h2, h'⟩ := List.forall_mem_cons.mp h'
  obtain ⟨h3, h'⟩ := List.forall_mem_cons.mp h'
  obtain ⟨h4, h'⟩ := List.forall_mem_cons.mp h'
  obtain ⟨h5, h'⟩ := List.forall_mem_cons.mp h'
  obtain ⟨h6, h'⟩ := List.forall_mem_cons.mp h'
  obtain ⟨h7, h'⟩ := List.forall_mem_cons.mp h'
  obtain ⟨h8, h'⟩ := List.forall_mem_cons.mp h'
  obtain ⟨h9, h'⟩ := List.forall_mem_cons.mp h'
  obtain ⟨h10, h'⟩ := List.forall_mem_cons.mp h'
  exact List.forall_mem_cons.mpr ⟨va_Nw.warmM hW h0, List.forall_mem_cons.mpr ⟨va_Nw.warmM hW h1, List.forall_mem_cons.mpr ⟨va_Nw.warmM hW h2, List.forall_mem_cons.mpr ⟨va_Nw.warmM hW h3, List.forall_mem_cons.mpr ⟨va_Nw.warmM hW h4, List.forall_mem_cons.mpr ⟨va_Nw.warmM hW h5, List.forall_mem_cons.mpr ⟨va_Nw.warmM hW h6, List.forall_mem_cons.mpr ⟨va_Nw.warmM hW h7, List.forall_mem_cons.mpr ⟨va_Nw.warmF hW h8, List.forall_mem_cons.mpr ⟨va_Nw.warmF hW h9, List.forall_mem_cons.mpr ⟨va_Nw.warmC hW h10, fun _ h => absurd h List.not_mem_nil⟩⟩⟩⟩⟩⟩⟩⟩⟩⟩⟩
theorem nest_ot : ∀ w ∈ nestL, w.onTables = true := by decide +kernel
/-- a static row of numbers -/
def Sf (n : String) (t N : Nat) (f : Nat → Int32) (A : Nat → Prop) (U : State) (H : Heap) : Prop := va_Z RX8 n "[I" (.ref t) A U H ∧ va_T .int t N (fun j => .int (f j)) A U H
theorem Sf.moved {n : String} {t N : Nat} {f : Nat → Int32} {A : Nat → Prop} {u U : State} {H : Heap} (hvm : u.vm.Alike U.vm) (h : Sf n t N f A u H) : Sf n t N f A U H := ⟨h.1.moved hvm, h.2.moved hvm⟩
theorem Sf.kept {n : String} {t N : Nat} {f : Nat → Int32} {A : Nat → Prop} {U : State} {H H1 : Heap} (h : Sf n t N f A U H) (hq : ∀ a : Nat, a < H.size → ¬ A a → H1[a]? = H[a]?) : Sf n t N f A U H1 := ⟨h.1.kept hq, h.2.kept hq⟩
def sA0 : Nat → Int32 := fun j => ([540, 540, 540, 540, 540, 0, 0] : List Int32).getD j 0
def sA1 : Nat → Int32 := fun j => ([1020, 1020, 1020, 1020, 1020, 0, 0] : List Int32).getD j 0
def sA2 : Nat → Int32 := fun j => ([3, 5, 2, 4, 1, 1, 1, 1, 1, 2, 1, 2, 1] : List Int32).getD j 0
/-- the texts of the String constants, by their places -/
def strT : List String := ["always", "day", "kind", "agents", "report", "pause", "resume", "climb", "solve", "reopen", "join", "part", "priority", "pass", ""]
def strB : List (List Int32) := strT.map (fun s => s.toList.map (fun ch => Int32.ofNat ch.toNat))
def strN : List Nat := strB.map List.length
/-- the script's numbers, out of the table -/
abbrev scN (tS : Nat → Nat) : Nat → Int32 := fun j => Int32.ofNat (tS (100 + j))
def Fx (D : va_G) (cA : Nat → ClassId) (tS : Nat → Nat) (A : Nat → Prop) (U : State) (H : Heap) : Prop :=
  va_K D vwCl (tyl cA) U ∧ (∀ w ∈ nestL, va_Nw w U) ∧ (Sf "FIRST_OPENING" (tS 0) 7 sA0 A U H ∧ Sf "FIRST_CLOSING" (tS 1) 7 sA1 A U H ∧ (va_Z RJx4a65c "DEFAULTCAPACITY_EMPTY_ELEMENTDATA" "[Ljava/lang/Object;" (.ref (tS 3)) A U H ∧ va_T (.object "java/lang/Object") (tS 3) 0 (fun _ => .null) A U H)) ∧
  va_T .int (tS 4) (tS 5) (fun j => .int (scN tS j)) A U H
theorem Fx.go {D : va_G} {cA : Nat → ClassId} {tS : Nat → Nat} {A : Nat → Prop} {s U : State} {H0 H : Heap} {locs : List Loc} (h : Fx D cA tS A s H0) (hW : s.WarmedH U.vm) (hS : va_S A H0 H locs) : Fx D cA tS A U H :=
  ⟨va_K.moved hW.alike h.1, nest_warm hW h.2.1, ⟨(h.2.2.1.1.moved hW.alike).kept hS.2.1, (h.2.2.1.2.1.moved hW.alike).kept hS.2.1, (h.2.2.1.2.2.1.moved hW.alike).kept hS.2.1, (h.2.2.1.2.2.2.moved hW.alike).kept hS.2.1⟩, (h.2.2.2.moved hW.alike).kept hS.2.1⟩
/-- the world, where we are -/
def Wd (D : va_G) (A : Nat → Prop) (w : va_W) (H0 H : Heap) (locs : List Loc) : Prop := va_P D vwCl w H ∧ va_D A w ∧ va_S A H0 H locs
theorem va_D.perm {A : Nat → Prop} {w w' : va_W} (hp : w.Perm w') (h : va_D A w) : va_D A w' := by
  have hn : ∀ u : va_W, (∀ (i j : Nat) (p q : Nat × va_E), u[i]? = some p → u[j]? = some q → p.1 = q.1 → i = j) ↔ (u.map Prod.fst).Nodup := by
    intro u
    unfold List.Nodup
    rw [List.pairwise_iff_getElem]
    constructor
    · intro h i j hi hj hij heq
      rw [List.length_map] at hi hj
      rw [List.getElem_map, List.getElem_map] at heq
      have := h i j _ _ (List.getElem?_eq_getElem hi) (List.getElem?_eq_getElem hj) heq
      omega
    · intro h i j p q hi hj he
      obtain ⟨hi', ei⟩ := List.getElem?_eq_some_iff.mp hi
      obtain ⟨hj', ej⟩ := List.getElem?_eq_some_iff.mp hj
      rcases Nat.lt_trichotomy i j with hl | hl | hl
      · exact absurd (by rw [List.getElem_map, List.getElem_map, ei, ej]; exact he) (h i j (by rw [List.length_map]; exact hi') (by rw [List.length_map]; exact hj') hl)
      · exact hl
      · exact absurd (by rw [List.getElem_map, List.getElem_map, ei, ej]; exact he.symm) (h j i (by rw [List.length_map]; exact hj') (by rw [List.length_map]; exact hi') hl)
  refine ⟨(hn w').mpr (((hp.map Prod.fst).nodup_iff).mp ((hn w).mp h.1)), fun k q hk => ?_⟩
  obtain ⟨i, hi⟩ := List.getElem?_of_mem (hp.mem_iff.mpr (List.mem_of_getElem? hk))
  exact h.2 i q hi
theorem Wd.perm {D : va_G} {A : Nat → Prop} {w w' : va_W} {H0 H : Heap} {locs : List Loc} (h : Wd D A w H0 H locs) (hp : w.Perm w') : Wd D A w' H0 H locs :=
  ⟨fun k q hk => by
    obtain ⟨i, hi⟩ := List.getElem?_of_mem (hp.mem_iff.mpr (List.mem_of_getElem? hk))
    exact h.1 i q hi, h.2.1.perm hp, h.2.2⟩
def PW (D : va_G) (cA : Nat → ClassId) (tS : Nat → Nat) (A : Nat → Prop) (w : va_W) (U : State) : Prop :=
  (∀ q, U.heap.size ≤ q → A q) ∧ Fx D cA tS A U U.heap ∧ va_P D vwCl w U.heap ∧ va_D A w
def QW (D : va_G) (A : Nat → Prop) (v0 : Option Value) (w0 : va_W) : Array Value → State → Outcome → State → Prop := fun _ st oc t =>
  oc = .returned v0 ∧ va_P D vwCl w0 t.heap ∧ va_D A w0 ∧ va_F A st t
/-- a contract: with the arguments av in the world w the method returns v0 and leaves w0 -/
def Ct (l : Launch) (y : MethodName) (ws : List Cond) (fr lo : Nat) (D : va_G) (cA : Nat → ClassId) (tS : Nat → Nat) (A : Nat → Prop) (av : List Value) (w : va_W) (v0 : Option Value) (w0 : va_W) : Prop :=
  Met l y ws ({ frames := fr, cells := 0, slots := 0, locals := lo } : Room) (va_Pc av (PW D cA tS A w)) (QW D A v0 w0) 0 0 A
/-- what stays the same in a method -/
def Ev (p : Program) (cc : ByteArray) (nL : Nat) (ret : Option FieldType) (own : String) (Ts : List Cond) (D : va_G) (cA : Nat → ClassId) (tS : Nat → Nat) (A : Nat → Prop) (s : State) (m : MethodId) (args : Array Value) (meth : Method) (c : Code) : Prop :=
  CallFix p m c cc nL s args Ts own ∧ meth.sig.returnType = ret ∧ meth.locks = false ∧ (∀ q, s.heap.size ≤ q → A q) ∧ Fx D cA tS A s s.heap
section HBR
variable {p : Program} {l : Launch} {e : Env} {R : Room} {s : State} {m : MethodId} {args : Array Value} {below : List Frame} {meth : Method} {c : Code} {H : Heap} {locs : List Loc} {cells slots : Nat} {Q : State → Prop}
variable {cc : ByteArray} {nL pc : Nat} {ret : Option FieldType} {own : String} {Ts : List Cond} {D : va_G} {cA : Nat → ClassId} {tS : Nat → Nat} {A : Nat → Prop} {w : va_W} {ls : Array Slot} {rest : List Value}
theorem ct_of {y : MethodName} {ws' : List Cond} {fr lo maxL : Nat} {av : List Value} {v0 : Option Value} {w0 : va_W} (hy : plainName y.cls = true) (hav : (lg_sl av).length ≤ maxL)
    (body : ∀ p e s m below meth c, Ev p cc maxL ret y.cls (Cond.code y cc maxL ret :: ws') D cA tS A s m av.toArray meth c → Wd D A w s.heap s.heap [] → ∀ ls : Array Slot, lv_has ls maxL (lv_args 0 av) →
      W p l e ({ frames := fr, cells := 0, slots := 0, locals := lo } : Room) s m av.toArray below meth c s.heap [] 0 0 (MQ below (QW D A v0 w0) av.toArray s 0 0 A) (F0 m 0 ls [])) :
    Ct l y (Cond.code y cc maxL ret :: ws') fr lo D cA tS A av w v0 w0 := by
  refine Met.ofW (cc := cc) (maxL := maxL) (ret := ret) hy rfl ?_
  intro p e s m args below meth c s₁ B hml hv
  obtain ⟨rfl, hA, hF, hP, hD⟩ := hv
  rw [lg_entry_eq]
  exact body p e s m below meth c ⟨⟨B.exec, B.bytes, hml, findClass_of_methodNamed B.named, atoms_spec B.pre⟩, B.returns, B.notSynchronized, hA, hF⟩ ⟨hP, hD, va_S.rf⟩ _ (lv_entry av hav)
theorem q_reti {v : Int32} {w0 : va_W} (E : Ev p cc nL (some .int) own Ts D cA tS A s m args meth c) (hw : Wd D A w0 s.heap H locs) (hdg : decode cc pc = .ok (.ireturn, 1)) : W p l e R s m args below meth c H locs cells slots (MQ below (QW D A (some (.int v)) w0) args s cells slots A) (F0 m pc ls [.int v]) :=
  W.iret E.1.1 E.1.2.1 E.2.1 (fun t ht _ => ⟨rfl, by rw [ht]; exact hw.1, hw.2.1, hw.2.2.F ht⟩) hw.2.2.2.2 hdg E.2.2.1
theorem q_retz {v : Int32} {w0 : va_W} (E : Ev p cc nL (some .boolean) own Ts D cA tS A s m args meth c) (hw : Wd D A w0 s.heap H locs) (hv : bz v) (hdg : decode cc pc = .ok (.ireturn, 1)) : W p l e R s m args below meth c H locs cells slots (MQ below (QW D A (some (.int v)) w0) args s cells slots A) (F0 m pc ls [.int v]) :=
  W.zret E.1.1 E.1.2.1 E.2.1 (bz_nar hv) (fun t ht _ => ⟨rfl, by rw [ht]; exact hw.1, hw.2.1, hw.2.2.F ht⟩) hw.2.2.2.2 hdg E.2.2.1
theorem q_retl {v : Int64} {w0 : va_W} (E : Ev p cc nL (some .long) own Ts D cA tS A s m args meth c) (hw : Wd D A w0 s.heap H locs) (hdg : decode cc pc = .ok (.lreturn, 1)) : W p l e R s m args below meth c H locs cells slots (MQ below (QW D A (some (.long v)) w0) args s cells slots A) (F0 m pc ls [.long v]) :=
  W.lret E.1.1 E.1.2.1 E.2.1 (fun t ht _ => ⟨rfl, by rw [ht]; exact hw.1, hw.2.1, hw.2.2.F ht⟩) hw.2.2.2.2 hdg E.2.2.1
theorem q_retv {w0 : va_W} (E : Ev p cc nL none own Ts D cA tS A s m args meth c) (hw : Wd D A w0 s.heap H locs) (hdg : decode cc pc = .ok (.return_, 1)) : W p l e R s m args below meth c H locs cells slots (MQ below (QW D A none w0) args s cells slots A) (F0 m pc ls []) :=
  W.vret E.1.1 E.1.2.1 E.2.1 (fun t ht _ => ⟨rfl, by rw [ht]; exact hw.1, hw.2.1, hw.2.2.F ht⟩) hw.2.2.2.2 hdg E.2.2.1
theorem q_get {C : String} {T : u_T} {N ci index : Nat} (E : Ev p cc nL ret own Ts D cA tS A s m args meth c) (hin : ∀ w ∈ u_ws C T N, w ∈ Ts) (hw : Wd D A w s.heap H locs) (q0 : Nat) {a : Nat} {fs : List Value} (he : w[q0]? = some (a, .inr (ci, fs))) (hc : vwCl[ci]? = some (C, T, N)) (k : Nat) (hk : k < N)
    (hlink : Cond.fieldLink own index (T k).1 (T k).2.1 (T k).2.2.1 ∈ Ts) {v : Value} (hv : fs[k]? = some v) (hdg : decode cc pc = .ok (.getfield index, 3))
    (kk : W p l e R s m args below meth c H locs cells slots Q (F0 m (pc + 3) ls (v :: rest))) : W p l e R s m args below meth c H locs cells slots Q (F0 m pc ls (.ref a :: rest)) :=
  va_get E.1.1 E.1.2.1 E.1.2.2.2.2 hin E.1.2.2.2.1 E.2.2.2.2.1 hw.1 q0 he hc k hk (E.1.2.2.2.2 _ hlink) (fun _ h => h) hv hdg kk
theorem q_puti {C : String} {T : u_T} {N ci index : Nat} (E : Ev p cc nL ret own Ts D cA tS A s m args meth c) (hin : ∀ w ∈ u_ws C T N, w ∈ Ts) (ty0 : Nat → FieldType) (hty : ∀ k, k < N → parseFieldDescriptor (T k).2.2.1 = some (ty0 k)) (hnm : ∀ a, a < N → ∀ b, b < N → a ≠ b → (T a).2.1 ≠ (T b).2.1) (hw : Wd D A w s.heap H locs) (q0 : Nat) {a : Nat} {fs : List Value} (he : w[q0]? = some (a, .inr (ci, fs))) (hc : vwCl[ci]? = some (C, T, N)) (k : Nat) (hk : k < N)
    (hlink : Cond.fieldLink own index (T k).1 (T k).2.1 (T k).2.2.1 ∈ Ts) (hfin : (T k).2.2.2 = false) (ht : ty0 k = .int) {v : Int32} (hl : k < fs.length) (w' : va_W) (hw' : w.set q0 (a, .inr (ci, fs.set k (.int v))) = w') (hdg : decode cc pc = .ok (.putfield index, 3))
    (kk : ∀ (H1 : Heap) (locs1 : List Loc), Wd D A w' s.heap H1 locs1 → W p l e R s m args below meth c H1 locs1 cells slots Q (F0 m (pc + 3) ls rest)) : W p l e R s m args below meth c H locs cells slots Q (F0 m pc ls (.int v :: .ref a :: rest)) := by
  subst hw'
  exact va_put E.1.1 E.1.2.1 E.1.2.2.2.2 hin ty0 hty hnm E.1.2.2.2.1 E.2.2.2.2.1 hw.1 hw.2.1 hw.2.2 q0 he hc k hk (E.1.2.2.2.2 _ hlink) (fun _ h => h) hfin (ty := .int) (by rw [← ht]; exact hty k hk) rfl rfl hl hdg (fun H1 locs1 h1 h2 h3 => kk H1 locs1 ⟨h1, h2, h3⟩)
theorem q_putl {C : String} {T : u_T} {N ci index : Nat} (E : Ev p cc nL ret own Ts D cA tS A s m args meth c) (hin : ∀ w ∈ u_ws C T N, w ∈ Ts) (ty0 : Nat → FieldType) (hty : ∀ k, k < N → parseFieldDescriptor (T k).2.2.1 = some (ty0 k)) (hnm : ∀ a, a < N → ∀ b, b < N → a ≠ b → (T a).2.1 ≠ (T b).2.1) (hw : Wd D A w s.heap H locs) (q0 : Nat) {a : Nat} {fs : List Value} (he : w[q0]? = some (a, .inr (ci, fs))) (hc : vwCl[ci]? = some (C, T, N)) (k : Nat) (hk : k < N)
    (hlink : Cond.fieldLink own index (T k).1 (T k).2.1 (T k).2.2.1 ∈ Ts) (hfin : (T k).2.2.2 = false) (ht : ty0 k = .long) {v : Int64} (hl : k < fs.length) (w' : va_W) (hw' : w.set q0 (a, .inr (ci, fs.set k (.long v))) = w') (hdg : decode cc pc = .ok (.putfield index, 3))
    (kk : ∀ (H1 : Heap) (locs1 : List Loc), Wd D A w' s.heap H1 locs1 → W p l e R s m args below meth c H1 locs1 cells slots Q (F0 m (pc + 3) ls rest)) : W p l e R s m args below meth c H locs cells slots Q (F0 m pc ls (.long v :: .ref a :: rest)) := by
  subst hw'
  exact va_put E.1.1 E.1.2.1 E.1.2.2.2.2 hin ty0 hty hnm E.1.2.2.2.1 E.2.2.2.2.1 hw.1 hw.2.1 hw.2.2 q0 he hc k hk (E.1.2.2.2.2 _ hlink) (fun _ h => h) hfin (ty := .long) (by rw [← ht]; exact hty k hk) rfl rfl hl hdg (fun H1 locs1 h1 h2 h3 => kk H1 locs1 ⟨h1, h2, h3⟩)
theorem q_ald (E : Ev p cc nL ret own Ts D cA tS A s m args meth c) (hw : Wd D A w s.heap H locs) (q0 : Nat) {a n : Nat} {f : Nat → Int32} (he : w[q0]? = some (a, .inl (cA 0, n, .inl f))) {i : Int32} (hin : ib i n) {x : Int32} (hx : f (ix i) = x) (hdg : decode cc pc = .ok (.iaload, 1))
    (kk : W p l e R s m args below meth c H locs cells slots Q (F0 m (pc + 1) ls (.int x :: rest))) : W p l e R s m args below meth c H locs cells slots Q (F0 m pc ls (.int i :: .ref a :: rest)) := by
  subst hx
  exact va_iald E.1.1 E.1.2.1 E.2.2.2.2.1 hw.1 q0 0 he rfl hin hdg kk
theorem q_zld (E : Ev p cc nL ret own Ts D cA tS A s m args meth c) (hw : Wd D A w s.heap H locs) (q0 : Nat) {a n : Nat} {f : Nat → Int32} (he : w[q0]? = some (a, .inl (cA 1, n, .inl f))) {i : Int32} (hin : ib i n) {x : Int32} (hx : f (ix i) = x) (hdg : decode cc pc = .ok (.baload, 1))
    (kk : W p l e R s m args below meth c H locs cells slots Q (F0 m (pc + 1) ls (.int x :: rest))) : W p l e R s m args below meth c H locs cells slots Q (F0 m pc ls (.int i :: .ref a :: rest)) := by
  subst hx
  exact va_zald E.1.1 E.1.2.1 E.2.2.2.2.1 hw.1 q0 1 he rfl hin hdg kk
theorem q_bld (E : Ev p cc nL ret own Ts D cA tS A s m args meth c) (hw : Wd D A w s.heap H locs) (q0 : Nat) {a n : Nat} {f : Nat → Int32} (he : w[q0]? = some (a, .inl (cA 2, n, .inl f))) {i : Int32} (hin : ib i n) {x : Int32} (hx : f (ix i) = x) (hdg : decode cc pc = .ok (.baload, 1))
    (kk : W p l e R s m args below meth c H locs cells slots Q (F0 m (pc + 1) ls (.int x :: rest))) : W p l e R s m args below meth c H locs cells slots Q (F0 m pc ls (.int i :: .ref a :: rest)) := by
  subst hx
  exact va_bald E.1.1 E.1.2.1 E.2.2.2.2.1 hw.1 q0 2 he rfl hin hdg kk
theorem q_ast (E : Ev p cc nL ret own Ts D cA tS A s m args meth c) (hw : Wd D A w s.heap H locs) (q0 : Nat) {a n : Nat} {f : Nat → Int32} (he : w[q0]? = some (a, .inl (cA 0, n, .inl f))) {i x : Int32} (hin : ib i n) (w' : va_W) (hw' : w.set q0 (a, .inl (cA 0, n, .inl (upd f (ix i) x))) = w') (hdg : decode cc pc = .ok (.iastore, 1))
    (kk : ∀ (H1 : Heap) (locs1 : List Loc), Wd D A w' s.heap H1 locs1 → W p l e R s m args below meth c H1 locs1 cells slots Q (F0 m (pc + 1) ls rest)) : W p l e R s m args below meth c H locs cells slots Q (F0 m pc ls (.int x :: .int i :: .ref a :: rest)) := by
  subst hw'
  exact va_iast E.1.1 E.1.2.1 E.2.2.2.2.1 hw.1 hw.2.1 hw.2.2 q0 0 he rfl hin hdg (fun H1 locs1 h1 h2 h3 => kk H1 locs1 ⟨h1, h2, h3⟩)
theorem q_zst (E : Ev p cc nL ret own Ts D cA tS A s m args meth c) (hw : Wd D A w s.heap H locs) (q0 : Nat) {a n : Nat} {f : Nat → Int32} (he : w[q0]? = some (a, .inl (cA 1, n, .inl f))) {i x : Int32} (hin : ib i n) (w' : va_W) (hw' : w.set q0 (a, .inl (cA 1, n, .inl (upd f (ix i) (vp_nar .boolean x)))) = w') (hdg : decode cc pc = .ok (.bastore, 1))
    (kk : ∀ (H1 : Heap) (locs1 : List Loc), Wd D A w' s.heap H1 locs1 → W p l e R s m args below meth c H1 locs1 cells slots Q (F0 m (pc + 1) ls rest)) : W p l e R s m args below meth c H locs cells slots Q (F0 m pc ls (.int x :: .int i :: .ref a :: rest)) := by
  subst hw'
  exact va_zast E.1.1 E.1.2.1 E.2.2.2.2.1 hw.1 hw.2.1 hw.2.2 q0 1 he rfl hin hdg (fun H1 locs1 h1 h2 h3 => kk H1 locs1 ⟨h1, h2, h3⟩)
theorem q_bst (E : Ev p cc nL ret own Ts D cA tS A s m args meth c) (hw : Wd D A w s.heap H locs) (q0 : Nat) {a n : Nat} {f : Nat → Int32} (he : w[q0]? = some (a, .inl (cA 2, n, .inl f))) {i x : Int32} (hin : ib i n) (w' : va_W) (hw' : w.set q0 (a, .inl (cA 2, n, .inl (upd f (ix i) (vp_nar .byte x)))) = w') (hdg : decode cc pc = .ok (.bastore, 1))
    (kk : ∀ (H1 : Heap) (locs1 : List Loc), Wd D A w' s.heap H1 locs1 → W p l e R s m args below meth c H1 locs1 cells slots Q (F0 m (pc + 1) ls rest)) : W p l e R s m args below meth c H locs cells slots Q (F0 m pc ls (.int x :: .int i :: .ref a :: rest)) := by
  subst hw'
  exact va_bast E.1.1 E.1.2.1 E.2.2.2.2.1 hw.1 hw.2.1 hw.2.2 q0 2 he rfl hin hdg (fun H1 locs1 h1 h2 h3 => kk H1 locs1 ⟨h1, h2, h3⟩)
theorem q_retc {v : Int32} {w0 : va_W} (E : Ev p cc nL (some .char) own Ts D cA tS A s m args meth c) (hw : Wd D A w0 s.heap H locs) (hv : cz v) (hdg : decode cc pc = .ok (.ireturn, 1)) : W p l e R s m args below meth c H locs cells slots (MQ below (QW D A (some (.int v)) w0) args s cells slots A) (F0 m pc ls [.int v]) :=
  W.zret E.1.1 E.1.2.1 E.2.1 (cz_nar hv) (fun t ht _ => ⟨rfl, by rw [ht]; exact hw.1, hw.2.1, hw.2.2.F ht⟩) hw.2.2.2.2 hdg E.2.2.1
theorem q_retb0 {w0 : va_W} (E : Ev p cc nL (some .byte) own Ts D cA tS A s m args meth c) (hw : Wd D A w0 s.heap H locs) (hdg : decode cc pc = .ok (.ireturn, 1)) : W p l e R s m args below meth c H locs cells slots (MQ below (QW D A (some (.int 0)) w0) args s cells slots A) (F0 m pc ls [.int 0]) :=
  W.zret E.1.1 E.1.2.1 E.2.1 (by decide) (fun t ht _ => ⟨rfl, by rw [ht]; exact hw.1, hw.2.1, hw.2.2.F ht⟩) hw.2.2.2.2 hdg E.2.2.1
/-- System.arraycopy over rows of ints -/
theorem q_copy {lv : List (Nat × Value)} (E : Ev p cc nL ret own Ts D cA tS A s m args meth c) (hw : Wd D A w s.heap H locs) (hl : lv_has ls nL lv) (q0 q1 : Nat) {a0 a n0 n1 index : Nat} {f g f' g' : Nat → Int32} (ha0 : w[q0]? = some (a0, .inl (cA 0, n0, .inl f))) (ha1 : w[q1]? = some (a, .inl (cA 0, n1, .inl g))) (hf : f = f') (hg : g = g')
    (hlink : Cond.methodLink own index arraycopyName ∈ Ts) (hnat : Cond.native arraycopyName ∈ Ts) (hstat : Cond.static arraycopyName ∈ Ts) (hini : Cond.initialized "java/lang/System" ∈ Ts)
    {sp dp n : Int32} (h1 : ¬ sp < 0) (h2 : ¬ dp < 0) (h3 : ¬ n < 0) (h4 : ix sp + ix n ≤ n0) (h5 : ix dp + ix n ≤ n1) (hframes : 1 ≤ R.frames) (hlocals : (rest.map fun v => v.category).sum + (nativeFrameWords "java/lang/System" "arraycopy" 5 + 11) ≤ R.locals) (w' : va_W) (hw' : w.set q1 (a, .inl (cA 0, n1, .inl (va_cpy f' g' (ix sp) (ix dp) (ix n)))) = w') (hdg : decode cc pc = .ok (.invokestatic index, 3))
    (kk : ∀ (H1 : Heap) (locs1 : List Loc), Wd D A w' s.heap H1 locs1 → W p l e R s m args below meth c H1 locs1 cells slots Q (F0 m (pc + 3) ls rest)) : W p l e R s m args below meth c H locs cells slots Q (F0 m pc ls (.int n :: .int dp :: .ref a :: .int sp :: .ref a0 :: rest)) := by
  subst hw' hf hg
  exact va_copyi E.1.1 E.1.2.1 (E.1.2.2.1.trans hl.1.symm) E.1.2.2.2.1 (E.1.2.2.2.2 _ hlink) (E.1.2.2.2.2 _ hnat) (E.1.2.2.2.2 _ hstat) (E.1.2.2.2.2 _ hini) E.2.2.2.2.1 hw.1 hw.2.1 hw.2.2 q0 q1 0 0 ha0 ha1 rfl rfl rfl h1 h2 h3 h4 h5 (fun _ _ => rfl) hframes hlocals hdg (fun H1 locs1 h1 h2 h3 => kk H1 locs1 ⟨h1, h2, h3⟩)
theorem nn_of {z : Int32} (hz : ¬ z < 0) : z.toInt = (z.toNatClampNeg : Int) := by
  have h1 := Int32.le_iff_toInt_le.mp (Int32.not_lt.mp hz)
  have h2 : (0 : Int) ≤ z.toInt := by simpa using h1
  show z.toInt = ((z.toInt.toNat : Nat) : Int)
  omega
/-- .. out of a static row that nobody writes -/
theorem q_copyt {lv : List (Nat × Value)} (E : Ev p cc nL ret own Ts D cA tS A s m args meth c) (hw : Wd D A w s.heap H locs) (hl : lv_has ls nL lv) {b0 n0 : Nat} {f : Nat → Int32} (hX : va_T .int b0 n0 (fun j => .int (f j)) A s s.heap) (q1 : Nat) {a n1 index : Nat} {g g' : Nat → Int32} (ha1 : w[q1]? = some (a, .inl (cA 0, n1, .inl g))) (hg : g = g')
    (hlink : Cond.methodLink own index arraycopyName ∈ Ts) (hnat : Cond.native arraycopyName ∈ Ts) (hstat : Cond.static arraycopyName ∈ Ts) (hini : Cond.initialized "java/lang/System" ∈ Ts)
    {sp dp n : Int32} (h1 : ¬ sp < 0) (h2 : ¬ dp < 0) (h3 : ¬ n < 0) (h4 : ix sp + ix n ≤ n0) (h5 : ix dp + ix n ≤ n1) (hframes : 1 ≤ R.frames) (hlocals : (rest.map fun v => v.category).sum + (nativeFrameWords "java/lang/System" "arraycopy" 5 + 11) ≤ R.locals) (w' : va_W) (hw' : w.set q1 (a, .inl (cA 0, n1, .inl (va_cpy f g' (ix sp) (ix dp) (ix n)))) = w') (hdg : decode cc pc = .ok (.invokestatic index, 3))
    (kk : ∀ (H1 : Heap) (locs1 : List Loc), Wd D A w' s.heap H1 locs1 → W p l e R s m args below meth c H1 locs1 cells slots Q (F0 m (pc + 3) ls rest)) : W p l e R s m args below meth c H locs cells slots Q (F0 m pc ls (.int n :: .int dp :: .ref a :: .int sp :: .ref b0 :: rest)) := by
  subst hw' hg
  intro T hT X
  obtain ⟨src, e1, e2, e3, e4, -, e5, e6⟩ := hX
  have hc0 : H[b0]? = some src := by rw [hw.2.2.2.1 b0 (Array.getElem?_eq_some_iff.mp e1).1 e6]; exact e1
  have hc1 : H[a]? = some (vp_cell (cA 0) (n1, .inl g)) := hw.1 q1 _ ha1
  obtain ⟨e7, k0, hk0, cm0, hkk0⟩ := e2
  obtain ⟨-, k1, hk1, cm1, hkk1⟩ := (E.2.2.2.2.1.2 0 _ rfl).1 n1 (fun j => .int (g j))
  obtain ⟨vm', X', step⟩ := X.arraycopy E.1.1 E.1.2.2.2.1 (E.1.2.2.2.2 _ hlink) (E.1.2.2.2.2 _ hnat) (E.1.2.2.2.2 _ hstat) (E.1.2.2.2.2 _ hini) (src := b0) (dst := a) (cs := src) (cd := vp_cell (cA 0) (n1, .inl g)) (srcPos := sp) (destPos := dp) (n := n) (by rw [hT]; exact hc0) (by rw [hT]; exact hc1)
    e7 (fun _ h => by cases h) e3 (fun h => by cases h) hk0 hk1 hkk0 hkk1 (by simp [refKind]) h1 h2 h3
    (by rw [nn_of h1, nn_of h3]; unfold ix at h4; omega)
    (by rw [nn_of h2, nn_of h3]; show ¬ _ > ((arrV (cA 0) n1 (fun j => .int (g j))).slots.size : Int); rw [arrV_size]; unfold ix at h5; omega)
    (fun vm₁ _ i hi => by
      have e : src.slots.getD (sp.toNatClampNeg + i) .null = .int (f (sp.toNatClampNeg + i)) := by
        rw [Array.getD_eq_getD_getElem?, e5 _ (by unfold ix at h4; omega)]
        rfl
      exact ⟨by rw [e]; rfl, by rw [e]; exact trivial⟩)
    (g := F0 m pc ls (.int n :: .int dp :: .ref a :: .int sp :: .ref b0 :: rest)) rfl (by rw [E.1.2.2.1]; exact hl.1) (rest := rest) rfl (by rw [E.1.2.1]; exact hdg) hframes (by show 2 * 0 + _ + _ ≤ _; omega)
  have ec : copied src (vp_cell (cA 0) (n1, .inl g)) sp dp n = vp_cell (cA 0) (n1, .inl (va_cpy f g sp.toNatClampNeg dp.toNatClampNeg n.toNatClampNeg)) := va_copiedX (fun z => .int z) src (cA 0) f g e5 h4
  rw [ec] at X' step
  have hla : a < H.size := (Array.getElem?_eq_some_iff.mp hc1).1
  have hheap : ((T.setVm vm').setCell a (vp_cell (cA 0) (n1, .inl (va_cpy f g sp.toNatClampNeg dp.toNatClampNeg n.toNatClampNeg)))).heap = H.setIfInBounds a (vp_cell (cA 0) (n1, .inl (va_cpy f g sp.toNatClampNeg dp.toNatClampNeg n.toNatClampNeg))) := by rw [← hT]; rfl
  have oq : ∀ q : Nat, q ≠ a → (H.setIfInBounds a (vp_cell (cA 0) (n1, .inl (va_cpy f g sp.toNatClampNeg dp.toNatClampNeg n.toNatClampNeg))))[q]? = H[q]? := fun q hq => by simp [Array.getElem?_setIfInBounds, Ne.symm hq]
  obtain ⟨t, a1, b1⟩ := kk _ _ ⟨hw.1.set hw.2.1 ha1 (show (H.setIfInBounds a _)[a]? = some _ by simp [Array.getElem?_setIfInBounds, hla]) oq, hw.2.1.set ha1, by simp; exact hw.2.2.1, fun q g1 g2 => by
      rw [oq q (fun z => g2 (by rw [z]; exact hw.2.1.2 q1 _ ha1))]
      exact hw.2.2.2.1 q g1 g2, fun q hq => by
      rcases List.mem_append.mp hq with h | h
      · exact hw.2.2.2.2 q h
      · obtain ⟨z, -, hz⟩ := List.mem_map.mp h
        rw [← hz]
        exact hw.2.1.2 q1 _ ha1⟩ _ hheap X'
  exact ⟨t, step t a1, b1⟩
theorem q_call {mc ms : Nat} {st0 : List Value} {a : Array Value} {v : Value} {w0 : va_W} (hr : va_Run p l e R s m args below meth c H locs cells slots 0 0 (F0 m pc ls st0) rest (QW D A (some v) w0 a) A) (hw : Wd D A w s.heap H locs)
    (kk : ∀ (H1 : Heap) (locs1 : List Loc), Wd D A w0 s.heap H1 locs1 → W p l e R s m args below meth c H1 locs1 cells slots Q (F0 m (pc + 3) ls (v :: rest))) : W p l e R s m args below meth c H locs cells slots Q (F0 m pc ls st0) := by
  intro T hT X
  obtain ⟨v', st₀, t, T', L, h0, X', hL, e1, e2, ⟨hv, hP, hD, hz, hk⟩, st⟩ := hr T hT X
  cases hv
  have hS := hw.2.2
  rw [h0] at hz hk
  obtain ⟨t2, a1, b1⟩ := kk T'.heap (locs ++ L) ⟨by rw [e1]; exact hP, hD, Nat.le_trans hS.1 (by rw [e1]; exact hz), fun q h1 h2 => by rw [e1, hk q (Nat.lt_of_lt_of_le h1 hS.1) h2]; exact hS.2.1 q h1 h2, fun q hq => by
      rcases List.mem_append.mp hq with h | h
      · exact hS.2.2 q h
      · exact hL q h⟩ T' rfl X'
  exact ⟨t2, st t2 a1, b1⟩
theorem q_callv {st0 : List Value} {a : Array Value} {w0 : va_W} (hr : va_Run p l e R s m args below meth c H locs cells slots 0 0 (F0 m pc ls st0) rest (QW D A none w0 a) A) (hw : Wd D A w s.heap H locs)
    (kk : ∀ (H1 : Heap) (locs1 : List Loc), Wd D A w0 s.heap H1 locs1 → W p l e R s m args below meth c H1 locs1 cells slots Q (F0 m (pc + 3) ls rest)) : W p l e R s m args below meth c H locs cells slots Q (F0 m pc ls st0) := by
  intro T hT X
  obtain ⟨v', st₀, t, T', L, h0, X', hL, e1, e2, ⟨hv, hP, hD, hz, hk⟩, st⟩ := hr T hT X
  cases hv
  have hS := hw.2.2
  rw [h0] at hz hk
  obtain ⟨t2, a1, b1⟩ := kk T'.heap (locs ++ L) ⟨by rw [e1]; exact hP, hD, Nat.le_trans hS.1 (by rw [e1]; exact hz), fun q h1 h2 => by rw [e1, hk q (Nat.lt_of_lt_of_le h1 hS.1) h2]; exact hS.2.1 q h1 h2, fun q hq => by
      rcases List.mem_append.mp hq with h | h
      · exact hS.2.2 q h
      · exact hL q h⟩ T' rfl X'
  exact ⟨t2, st t2 a1, b1⟩
theorem q_pw (E : Ev p cc nL ret own Ts D cA tS A s m args meth c) (hw : Wd D A w s.heap H locs) {U : State} (hU : U.heap = H) (hW : s.WarmedH U.vm) : PW D cA tS A w U :=
  ⟨fun q h => E.2.2.2.1 q (Nat.le_trans hw.2.2.1 (by rw [← hU]; exact h)), by rw [hU]; exact E.2.2.2.2.go hW hw.2.2, by rw [hU]; exact hw.1, hw.2.1⟩
theorem q_blind {av : List Value} : FrameBlind (va_Pc av (PW D cA tS A w)) := fun a U g mk h =>
  ⟨h.1, h.2.1, ⟨va_K.moved (u := U) (U := U.calling g mk a) (Vm.Alike.refl U.vm) h.2.2.1.1, fun x hx => va_Nw.same (nest_ot x hx) (u := U) (U := U.calling g mk a) rfl (h.2.2.1.2.1 x hx), ⟨h.2.2.1.2.2.1.1.moved (u := U) (U := U.calling g mk a) (Vm.Alike.refl U.vm), h.2.2.1.2.2.1.2.1.moved (u := U) (U := U.calling g mk a) (Vm.Alike.refl U.vm), h.2.2.1.2.2.1.2.2.1.moved (u := U) (U := U.calling g mk a) (Vm.Alike.refl U.vm), h.2.2.1.2.2.1.2.2.2.moved (u := U) (U := U.calling g mk a) (Vm.Alike.refl U.vm)⟩, h.2.2.1.2.2.2.moved (u := U) (U := U.calling g mk a) (Vm.Alike.refl U.vm)⟩, h.2.2.2⟩
theorem q_preS (E : Ev p cc nL ret own Ts D cA tS A s m args meth c) (hw : Wd D A w s.heap H locs) {As : List Value} : PreS s H (va_Pc As (PW D cA tS A w)) As :=
  ⟨q_blind, fun U hU hW => ⟨rfl, q_pw E hw hU hW⟩⟩
theorem q_preV (E : Ev p cc nL ret own Ts D cA tS A s m args meth c) (hw : Wd D A w s.heap H locs) {b q0 ci : Nat} {q : vw_C} {fs : List Value} {As : List Value} (hc : vwCl[ci]? = some q) (he : w[q0]? = some (b, .inr (ci, fs))) : PreV s H q.1 b (va_Pc (.ref b :: As) (PW D cA tS A w)) As :=
  ⟨q_blind, va_recv E.2.2.2.2.1 hw.1 hc he, fun U hU hW => ⟨rfl, q_pw E hw hU hW⟩⟩
end HBR
section HBC
variable {p : Program} {l : Launch} {e : Env} {R : Room} {s : State} {m : MethodId} {args : Array Value} {below : List Frame} {meth : Method} {c : Code} {H : Heap} {locs : List Loc} {cells slots : Nat} {Q : State → Prop}
variable {cc : ByteArray} {nL pc : Nat} {ret : Option FieldType} {own : String} {Ts : List Cond} {D : va_G} {cA : Nat → ClassId} {tS : Nat → Nat} {A : Nat → Prop} {w w1 : va_W} {ls : Array Slot} {rest : List Value}
variable {y : MethodName} {wsc ws' : List Cond} {bytes : ByteArray} {maxL fr lo index : Nat} {retc : Option FieldType} {As : List Value} {b : Nat} {v : Value} {C : String} {st0 : List Value}
/-- a tableswitch that goes to its default, from outside or by an entry -/
theorem q_tableD (hexec : p.tables.exec = Jvm.exec) (hb : c.code = cc) {dflt lo hi : Int} {offs : Array Int} {len : Nat} {x : Int32} {tgt : Nat} (hdg : decode cc pc = .ok (.tableswitch dflt lo hi offs, len)) (h : ¬ (x.toInt < lo ∨ hi < x.toInt) → offs[(x.toInt - lo).toNat]? = some dflt) (ht : (pc : Int) + dflt = (tgt : Int))
    (k : W p l e R s m args below meth c H locs cells slots Q (F0 m tgt ls rest)) : W p l e R s m args below meth c H locs cells slots Q (F0 m pc ls (.int x :: rest)) := by
  by_cases hq : x.toInt < lo ∨ hi < x.toInt
  · exact lv_tableOut hexec hb hdg hq ht k
  · exact lv_tableIn hexec hb hdg (fun z => hq (Or.inl z)) (fun z => hq (Or.inr z)) (h hq) ht k
/-- a row of an array of rows -/
theorem q_row (E : Ev p cc nL ret own Ts D cA tS A s m args meth c) (hw : Wd D A w s.heap H locs) (q0 : Nat) {a : Nat} {h : Nat → Nat} (he : w[q0]? = some (a, .inl (cA 3, 40, .inr (.inr (.inr (.inr (fun i => if i < 40 then some (h (100 + i)) else none))))))) {i : Int32} (hin : ib i 40) (hdg : decode cc pc = .ok (.aaload, 1))
    (kk : W p l e R s m args below meth c H locs cells slots Q (F0 m (pc + 1) ls (.ref (h (100 + ix i)) :: rest))) : W p l e R s m args below meth c H locs cells slots Q (F0 m pc ls (.int i :: .ref a :: rest)) := by
  have hlt : i.toNatClampNeg < 40 := Nat.not_le.mp fun q => hin (Or.inr q)
  have hK3 : ArrOfT s (cA 3) (.array .int) := (E.2.2.2.2.1.2 3 (cA 3, .array .int) rfl).1
  have hv : (arrV (cA 3) 40 (fun j => va_rf (if j < 40 then some (h (100 + j)) else none))).slots[i.toNatClampNeg]? = some (Value.ref (h (100 + ix i))) := by
    rw [arrV_read _ _ hlt, if_pos hlt]
    rfl
  have hin2 : ¬ (i < 0 ∨ (arrV (cA 3) 40 (fun j => va_rf (if j < 40 then some (h (100 + j)) else none))).slots.size ≤ i.toNatClampNeg) := by
    rw [arrV_size]
    exact hin
  have hc : H[a]? = some (arrV (cA 3) 40 (fun j => va_rf (if j < 40 then some (h (100 + j)) else none))) := hw.1 q0 _ he
  exact W.aald E.1.1 E.1.2.1 hc (hK3 40 _) rfl (fun q => by cases q) hin2 hv rfl rfl hdg kk
/-- a call of an own object's method that answers -/
theorem q_cv {lv : List (Nat × Value)} (E : Ev p cc nL ret own Ts D cA tS A s m args meth c) (hw : Wd D A w s.heap H locs) (hl : lv_has ls nL lv) (hC : Ct l y wsc fr lo D cA tS A (.ref b :: As) w (some v) w1) (n : Nat) (hG : GoodIn Ts (wsV own index C y wsc)) (hws : wsc = Cond.code y bytes maxL retc :: ws')
    (hd : y.cls = C ∧ y.cls ≠ "java/lang/invoke/MethodHandle" ∧ y.cls ≠ "java/lang/invoke/VarHandle" ∧ (parseMethodDescriptor y.desc).map (fun d => d.parameters.length) = some n) (hR : fr + 1 ≤ R.frames ∧ 8 + (maxL + 11) + lo ≤ R.locals)
    (q0 ci : Nat) {T : u_T} {N : Nat} {fs : List Value} (hc : vwCl[ci]? = some (C, T, N)) (he : w[q0]? = some (b, .inr (ci, fs))) (hn : As.length = n) (hst : st0 = As.reverse ++ .ref b :: rest) (hW : (rest.map fun v => v.category).sum ≤ 8) (hf : cells ≤ R.cells ∧ slots ≤ R.slots) (hdg : decode cc pc = .ok (.invokevirtual index, 3))
    (kk : ∀ (H1 : Heap) (locs1 : List Loc), Wd D A w1 s.heap H1 locs1 → W p l e R s m args below meth c H1 locs1 cells slots Q (F0 m (pc + 3) ls (v :: rest))) : W p l e R s m args below meth c H locs cells slots Q (F0 m pc ls st0) :=
  q_call (mc := 0) (ms := 0) (va_runV E.1 hC (cwV n E.1.2.2.2.2 hG hws rfl rfl hd hR) (q_preV E hw hc he) rfl hn hl.1 hst (lv_room (pc := pc) (ls := ls) (rest := st0) hW) hdg hf) hw kk
/-- .. that answers nothing -/
theorem q_cvv {lv : List (Nat × Value)} (E : Ev p cc nL ret own Ts D cA tS A s m args meth c) (hw : Wd D A w s.heap H locs) (hl : lv_has ls nL lv) (hC : Ct l y wsc fr lo D cA tS A (.ref b :: As) w none w1) (n : Nat) (hG : GoodIn Ts (wsV own index C y wsc)) (hws : wsc = Cond.code y bytes maxL retc :: ws')
    (hd : y.cls = C ∧ y.cls ≠ "java/lang/invoke/MethodHandle" ∧ y.cls ≠ "java/lang/invoke/VarHandle" ∧ (parseMethodDescriptor y.desc).map (fun d => d.parameters.length) = some n) (hR : fr + 1 ≤ R.frames ∧ 8 + (maxL + 11) + lo ≤ R.locals)
    (q0 ci : Nat) {T : u_T} {N : Nat} {fs : List Value} (hc : vwCl[ci]? = some (C, T, N)) (he : w[q0]? = some (b, .inr (ci, fs))) (hn : As.length = n) (hst : st0 = As.reverse ++ .ref b :: rest) (hW : (rest.map fun v => v.category).sum ≤ 8) (hf : cells ≤ R.cells ∧ slots ≤ R.slots) (hdg : decode cc pc = .ok (.invokevirtual index, 3))
    (kk : ∀ (H1 : Heap) (locs1 : List Loc), Wd D A w1 s.heap H1 locs1 → W p l e R s m args below meth c H1 locs1 cells slots Q (F0 m (pc + 3) ls rest)) : W p l e R s m args below meth c H locs cells slots Q (F0 m pc ls st0) :=
  q_callv (va_runV E.1 hC (cwV n E.1.2.2.2.2 hG hws rfl rfl hd hR) (q_preV E hw hc he) rfl hn hl.1 hst (lv_room (pc := pc) (ls := ls) (rest := st0) hW) hdg hf) hw kk
/-- a static method's call -/
theorem q_cs {lv : List (Nat × Value)} (E : Ev p cc nL ret own Ts D cA tS A s m args meth c) (hw : Wd D A w s.heap H locs) (hl : lv_has ls nL lv) (hC : Ct l y wsc fr lo D cA tS A As w (some v) w1) (n : Nat) (hG : GoodIn Ts (va_wsS own index y wsc)) (hws : wsc = Cond.code y bytes maxL retc :: ws')
    (hd : y.cls ≠ "java/lang/invoke/MethodHandle" ∧ y.cls ≠ "java/lang/invoke/VarHandle" ∧ (parseMethodDescriptor y.desc).map (fun d => d.parameters.length) = some n) (hR : fr + 1 ≤ R.frames ∧ 8 + (maxL + 11) + lo ≤ R.locals)
    (hn : As.length = n) (hst : st0 = As.reverse ++ rest) (hW : (rest.map fun v => v.category).sum ≤ 8) (hf : cells ≤ R.cells ∧ slots ≤ R.slots) (hdg : decode cc pc = .ok (.invokestatic index, 3))
    (kk : ∀ (H1 : Heap) (locs1 : List Loc), Wd D A w1 s.heap H1 locs1 → W p l e R s m args below meth c H1 locs1 cells slots Q (F0 m (pc + 3) ls (v :: rest))) : W p l e R s m args below meth c H locs cells slots Q (F0 m pc ls st0) :=
  q_call (mc := 0) (ms := 0) (va_runS E.1 hC (va_cwS n E.1.2.2.2.2 hG hws rfl rfl hd hR) (q_preS E hw) rfl hn hl.1 hst (lv_room (pc := pc) (ls := ls) (rest := st0) hW) hdg hf) hw kk
theorem q_csv {lv : List (Nat × Value)} (E : Ev p cc nL ret own Ts D cA tS A s m args meth c) (hw : Wd D A w s.heap H locs) (hl : lv_has ls nL lv) (hC : Ct l y wsc fr lo D cA tS A As w none w1) (n : Nat) (hG : GoodIn Ts (va_wsS own index y wsc)) (hws : wsc = Cond.code y bytes maxL retc :: ws')
    (hd : y.cls ≠ "java/lang/invoke/MethodHandle" ∧ y.cls ≠ "java/lang/invoke/VarHandle" ∧ (parseMethodDescriptor y.desc).map (fun d => d.parameters.length) = some n) (hR : fr + 1 ≤ R.frames ∧ 8 + (maxL + 11) + lo ≤ R.locals)
    (hn : As.length = n) (hst : st0 = As.reverse ++ rest) (hW : (rest.map fun v => v.category).sum ≤ 8) (hf : cells ≤ R.cells ∧ slots ≤ R.slots) (hdg : decode cc pc = .ok (.invokestatic index, 3))
    (kk : ∀ (H1 : Heap) (locs1 : List Loc), Wd D A w1 s.heap H1 locs1 → W p l e R s m args below meth c H1 locs1 cells slots Q (F0 m (pc + 3) ls rest)) : W p l e R s m args below meth c H locs cells slots Q (F0 m pc ls st0) :=
  q_callv (va_runS E.1 hC (va_cwS n E.1.2.2.2.2 hG hws rfl rfl hd hR) (q_preS E hw) rfl hn hl.1 hst (lv_room (pc := pc) (ls := ls) (rest := st0) hW) hdg hf) hw kk
/-- a nest mate's static method's call -/
theorem q_cn {lv : List (Nat × Value)} {host : String} (E : Ev p cc nL ret own Ts D cA tS A s m args meth c) (hw : Wd D A w s.heap H locs) (hl : lv_has ls nL lv) (hC : Ct l y wsc fr lo D cA tS A As w (some v) w1) (n : Nat) (hG : GoodIn Ts wsc) (hws : wsc = Cond.code y bytes maxL retc :: ws')
    (hN : Cond.methodLinkNest own index y host ∈ nestL) (hin : Cond.initialized y.cls ∈ Ts) (hstt : Cond.static y ∈ Ts)
    (hd : y.cls ≠ "java/lang/invoke/MethodHandle" ∧ y.cls ≠ "java/lang/invoke/VarHandle" ∧ (parseMethodDescriptor y.desc).map (fun d => d.parameters.length) = some n) (hR : fr + 1 ≤ R.frames ∧ 8 + (maxL + 11) + lo ≤ R.locals)
    (hn : As.length = n) (hst : st0 = As.reverse ++ rest) (hW : (rest.map fun v => v.category).sum ≤ 8) (hf : cells ≤ R.cells ∧ slots ≤ R.slots) (hdg : decode cc pc = .ok (.invokestatic index, 3))
    (kk : ∀ (H1 : Heap) (locs1 : List Loc), Wd D A w1 s.heap H1 locs1 → W p l e R s m args below meth c H1 locs1 cells slots Q (F0 m (pc + 3) ls (v :: rest))) : W p l e R s m args below meth c H locs cells slots Q (F0 m pc ls st0) :=
  q_call (mc := 0) (ms := 0) (va_runSN E.1 hC ⟨va_cnB n E.1.2.2.2.2 hG hws rfl rfl (E.2.2.2.2.2.1 _ hN) (E.1.2.2.2.2 _ hin) hd hR, E.1.2.2.2.2 _ hstt, trivial⟩ (q_preS E hw) rfl hn hl.1 hst (lv_room (pc := pc) (ls := ls) (rest := st0) hW) hdg hf) hw kk
end HBC
