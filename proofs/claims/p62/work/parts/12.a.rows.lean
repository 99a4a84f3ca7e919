/-! the law's cells -/
def wLw (tS : Nat → Nat) (ax kl : Nat) (w : Nat → Nat) (θ : Sg) : va_W := [(w 80, .inr (10, [.ref ax, .ref (tS 4), .int (θ 70 0), .ref kl]))]
def wQl (cA : Nat → ClassId) (u : Nat → Nat) (υ : Sg) (kc : Nat) : va_W := [(u 81, .inr (9, [.int (υ 83 0), .ref (u 82), .int (Int32.ofNat kc)])), (u 82, .inl (cA 5, 10, .inr (.inr (.inr (.inr (fun i => if i < kc then some (u (90 + i)) else none))))))]
def wKR (cA : Nat → ClassId) (u : Nat → Nat) (υ : Sg) (kc : Nat) : va_W := (List.range kc).map (fun i => (u (90 + i), .inl (cA 0, 6, .inl (υ (90 + i)))))
def wA1 (cA : Nat → ClassId) (v : Nat → Nat) (ν : Sg) (Q : Nat) : va_W := [(v 1, .inl (cA 0, Q, .inl (ν 1)))]
def wA2 (cA : Nat → ClassId) (v : Nat → Nat) (ν : Sg) (Q : Nat) : va_W := [(v 2, .inl (cA 0, Q, .inl (ν 2)))]
def wA3 (cA : Nat → ClassId) (v : Nat → Nat) (ν : Sg) (Q : Nat) : va_W := [(v 3, .inl (cA 0, Q, .inl (ν 3)))]
section LR
variable {p : Program} {l : Launch} {e : Env} {R : Room} {s : State} {m : MethodId} {args : Array Value} {below : List Frame} {meth : Method} {c : Code} {H : Heap} {locs : List Loc} {cells slots : Nat} {Q : State → Prop}
variable {cc : ByteArray} {nL pc : Nat} {ret : Option FieldType} {own : String} {Ts : List Cond} {D : va_G} {cA : Nat → ClassId} {tS : Nat → Nat} {A : Nat → Prop} {w : va_W} {ls : Array Slot} {rest : List Value}
variable {y : MethodName} {wsc ws' : List Cond} {bytes : ByteArray} {maxL fr mc ms lo index : Nat} {retc : Option FieldType} {As : List Value} {b : Nat} {v : Value} {C : String} {st0 : List Value} {post : va_W → Prop}
theorem st_next {tS : Nat → Nat} {ax kl : Nat} {w : Nat → Nat} {θ : Sg} (F : va_W) {x : Int32} : (wLw tS ax kl w θ ++ F).set 0 (w 80, .inr (10, ([.ref ax, .ref (tS 4), .int (θ 70 0), .ref kl] : List Value).set 2 (.int x))) = wLw tS ax kl w (up θ 70 0 x) ++ F := rfl
theorem kr_mem {cA : Nat → ClassId} {u : Nat → Nat} {υ : Sg} {kc i : Nat} (h : i < kc) : (u (90 + i), (.inl (cA 0, 6, .inl (υ (90 + i))) : va_E)) ∈ wKR cA u υ kc := List.mem_map.mpr ⟨i, List.mem_range.mpr h, rfl⟩
theorem Wd.drop {a b : va_W} (hw : Wd D A (a ++ b) s.heap H locs) : Wd D A b s.heap H locs := by
  obtain ⟨hP, hD, hS⟩ := hw
  have hn := d_nd hD
  rw [List.map_append] at hn
  refine ⟨fun k q hk => ?_, d_iff (List.nodup_append.mp hn).2.1 (fun q hq => ?_), hS⟩
  · obtain ⟨j, hj⟩ := List.getElem?_of_mem (List.mem_append_right a (List.mem_of_getElem? hk))
    exact hP j q hj
  · obtain ⟨j, hj⟩ := List.getElem?_of_mem (List.mem_append_right a hq)
    exact hD.2 j q hj
theorem q_aldK (E : Ev p cc nL ret own Ts D cA tS A s m args meth c) (hw : Wd D A w s.heap H locs) {a n : Nat} {f : Nat → Int32} (he : (a, (.inl (cA 0, n, .inl f) : va_E)) ∈ w) {i : Int32} (hin : ib i n) {x : Int32} (hx : f (ix i) = x) (hdg : decode cc pc = .ok (.iaload, 1))
    (kk : W p l e R s m args below meth c H locs cells slots Q (F0 m (pc + 1) ls (.int x :: rest))) : W p l e R s m args below meth c H locs cells slots Q (F0 m pc ls (.int i :: .ref a :: rest)) := by
  obtain ⟨q0, h0⟩ := List.getElem?_of_mem he
  exact q_ald E hw q0 h0 hin hx hdg kk
theorem q_castK (E : Ev p cc nL ret own Ts D cA tS A s m args meth c) (hw : Wd D A w s.heap H locs) {a n : Nat} {f : Nat → Int32} (he : (a, (.inl (cA 0, n, .inl f) : va_E)) ∈ w) (hlink : Cond.classLink own index "[I" ∈ Ts) (hdg : decode cc pc = .ok (.checkcast index, 3))
    (kk : W p l e R s m args below meth c H locs cells slots Q (F0 m (pc + 3) ls (.ref a :: rest))) : W p l e R s m args below meth c H locs cells slots Q (F0 m pc ls (.ref a :: rest)) := by
  obtain ⟨q0, h0⟩ := List.getElem?_of_mem he
  exact va_castA E.1.1 E.1.2.1 E.1.2.2.2.1 (E.1.2.2.2.2 _ hlink) hw.1 q0 h0 ((E.2.2.2.2.1.2 0 (cA 0, .int) rfl).2) hdg kk
theorem q_retr {k : Nat} {w0 : va_W} {C : String} (E : Ev p cc nL (some (.object C)) own Ts D cA tS A s m args meth c) (hw : Wd D A w0 s.heap H locs) (hdg : decode cc pc = .ok (.areturn, 1)) : W p l e R s m args below meth c H locs cells slots (MQ below (QW D A (some (.ref k)) w0) args s cells slots A) (F0 m pc ls [.ref k]) :=
  W.aret E.1.1 E.1.2.1 E.2.1 (Or.inl ⟨_, rfl⟩) (Or.inr ⟨_, rfl⟩) (fun t ht _ => ⟨rfl, by rw [ht]; exact hw.1, hw.2.1, hw.2.2.F ht⟩) hw.2.2.2.2 hdg E.2.2.1
theorem q_aldo (E : Ev p cc nL ret own Ts D cA tS A s m args meth c) (hw : Wd D A w s.heap H locs) (q0 : Nat) {a n : Nat} {f : Nat → Option Nat} (he : w[q0]? = some (a, .inl (cA 5, n, .inr (.inr (.inr (.inr f)))))) {i : Int32} (hin : ib i n) {k : Nat} (hk : f (ix i) = some k) (hdg : decode cc pc = .ok (.aaload, 1))
    (kk : W p l e R s m args below meth c H locs cells slots Q (F0 m (pc + 1) ls (.ref k :: rest))) : W p l e R s m args below meth c H locs cells slots Q (F0 m pc ls (.int i :: .ref a :: rest)) :=
  va_aldq E.1.1 E.1.2.1 E.2.2.2.2.1 hw.1 q0 5 (C := "java/lang/Object") he rfl hin hdg (by
    have e : f i.toNatClampNeg = some k := hk
    rw [e]
    exact kk)
theorem q_preXV (E : Ev p cc nL ret own Ts D cA tS A s m args meth c) (hK : KA cA s) (hw : Wd D A w s.heap H locs) {b q0 ci : Nat} {q : vw_C} {fs : List Value} {As : List Value} (hc : vwCl[ci]? = some q) (he : w[q0]? = some (b, .inr (ci, fs))) : PreV s H q.1 b (va_Pc (.ref b :: As) (fun U => PW D cA tS A w U ∧ KA cA U)) As :=
  ⟨q_blindX, va_recv E.2.2.2.2.1 hw.1 hc he, fun U hU hW => ⟨rfl, q_pw E hw hU hW, hK.moved hW.alike⟩⟩
/-- a call of an own object's method that makes cells -/
theorem q_cvX {lv : List (Nat × Value)} (E : Ev p cc nL ret own Ts D cA tS A s m args meth c) (hK : KA cA s) (hw : Wd D A w s.heap H locs) (hl : lv_has ls nL lv) (hC : CX l y wsc fr mc ms lo D cA tS A (.ref b :: As) w (some v) post) (n : Nat) (hG : GoodIn Ts (wsV own index C y wsc)) (hws : wsc = Cond.code y bytes maxL retc :: ws')
    (hd : y.cls = C ∧ y.cls ≠ "java/lang/invoke/MethodHandle" ∧ y.cls ≠ "java/lang/invoke/VarHandle" ∧ (parseMethodDescriptor y.desc).map (fun d => d.parameters.length) = some n) (hR : fr + 1 ≤ R.frames ∧ 8 + (maxL + 11) + lo ≤ R.locals)
    (q0 ci : Nat) {T : u_T} {N : Nat} {fs : List Value} (hc : vwCl[ci]? = some (C, T, N)) (he : w[q0]? = some (b, .inr (ci, fs))) (hn : As.length = n) (hst : st0 = As.reverse ++ .ref b :: rest) (hW : (rest.map fun v => v.category).sum ≤ 8) (hf : cells + mc ≤ R.cells ∧ slots + ms ≤ R.slots) (hdg : decode cc pc = .ok (.invokevirtual index, 3))
    (kk : ∀ (H1 : Heap) (locs1 : List Loc) (w0 : va_W), post w0 → Wd D A w0 s.heap H1 locs1 → W p l e R s m args below meth c H1 locs1 (cells + mc) (slots + ms) Q (F0 m (pc + 3) ls (v :: rest))) : W p l e R s m args below meth c H locs cells slots Q (F0 m pc ls st0) :=
  q_callXi (va_runV E.1 hC (cwV n E.1.2.2.2.2 hG hws rfl rfl hd hR) (q_preXV E hK hw hc he) rfl hn hl.1 hst (lv_room (pc := pc) (ls := ls) (rest := st0) hW) hdg hf) hw kk
end LR
