/-! the law's rows: a call of the class, of the reference, in the law's world -/
def wP (cA : Nat → ClassId) (h t z : Nat → Nat) (ax sv : Nat) (σ τ κ : Sg) : va_W := wK cA h σ ++ (wLg cA h σ 600 ++ (wC cA h σ ++ (wH cA h σ ++ (wS h ++ (wX ax (h 46) sv (t 42) (z 60) ++ (wK cA t τ ++ (wLg cA t τ 0 ++ (wC cA t τ ++ (wSc cA z κ ++ wR cA z κ)))))))))
def svc (cA : Nat → ClassId) (sv : Nat) (f : Nat → Option Nat) : Nat × va_E := (sv, .inl (cA 4, 2, .inr (.inr (.inr (.inr f)))))
/-- the law's world: the class, the reference, what is saved -/
def wQ (cA : Nat → ClassId) (h t z y : Nat → Nat) (ax sv : Nat) (σ τ κ μ : Sg) (wd : Int64) (f : Nat → Option Nat) (V0 V1 : va_W) : va_W := wP cA h t z ax sv σ τ κ ++ (wM cA y μ wd ++ (svc cA sv f :: (V0 ++ V1)))
theorem wP_app {cA : Nat → ClassId} {h t z : Nat → Nat} {ax sv : Nat} {σ τ κ : Sg} {R : va_W} : wP cA h t z ax sv σ τ κ ++ R = wK cA h σ ++ (wLg cA h σ 600 ++ (wC cA h σ ++ (wH cA h σ ++ (wS h ++ (wX ax (h 46) sv (t 42) (z 60) ++ (wK cA t τ ++ (wLg cA t τ 0 ++ (wC cA t τ ++ (wSc cA z κ ++ (wR cA z κ ++ R)))))))))) := by
  unfold wP
  simp only [List.append_assoc]
section HLW
variable {p : Program} {l : Launch} {e : Env} {R : Room} {s : State} {m : MethodId} {args : Array Value} {below : List Frame} {meth : Method} {c : Code} {H : Heap} {locs : List Loc} {cells slots : Nat} {Q : State → Prop}
variable {cc : ByteArray} {nL pc : Nat} {ret : Option FieldType} {own : String} {Ts : List Cond} {D : va_G} {cA : Nat → ClassId} {tS : Nat → Nat} {A : Nat → Prop} {ls : Array Slot} {rest : List Value}
variable {yy : MethodName} {wsc ws' : List Cond} {bytes : ByteArray} {maxL fr lo index : Nat} {retc : Option FieldType} {As : List Value} {v : Value} {st0 : List Value}
variable {h t z y : Nat → Nat} {ax sv : Nat} {σ τ κ μ σ' τ' κ' μ' : Sg} {wd wd' : Int64} {f : Nat → Option Nat} {V0 V1 V : va_W}
/-- the class: a query or a change -/
theorem lx_cv {lv : List (Nat × Value)} (E : Ev p cc nL ret own Ts D cA tS A s m args meth c) (hw : Wd D A (wP cA h t z ax sv σ τ κ ++ V) s.heap H locs) (hl : lv_has ls nL lv)
    (hC : Ct l yy wsc fr lo D cA tS A (.ref ax :: As) (wK cA h σ ++ (wLg cA h σ 600 ++ (wC cA h σ ++ (wH cA h σ ++ (wS h ++ (wX ax (h 46) sv (t 42) (z 60) ++ (wK cA t τ ++ (wLg cA t τ 0 ++ (wC cA t τ ++ (wSc cA z κ ++ (wR cA z κ ++ V))))))))))) (some v) (wK cA h σ' ++ (wLg cA h σ' 600 ++ (wC cA h σ' ++ (wH cA h σ' ++ (wS h ++ (wX ax (h 46) sv (t 42) (z 60) ++ (wK cA t τ' ++ (wLg cA t τ' 0 ++ (wC cA t τ' ++ (wSc cA z κ' ++ (wR cA z κ' ++ V))))))))))))
    (n : Nat) (hG : GoodIn Ts (wsV own index RX8 yy wsc)) (hws : wsc = Cond.code yy bytes maxL retc :: ws')
    (hd : yy.cls = RX8 ∧ yy.cls ≠ "java/lang/invoke/MethodHandle" ∧ yy.cls ≠ "java/lang/invoke/VarHandle" ∧ (parseMethodDescriptor yy.desc).map (fun d => d.parameters.length) = some n) (hR : fr + 1 ≤ R.frames ∧ 8 + (maxL + 11) + lo ≤ R.locals)
    (hn : As.length = n) (hst : st0 = As.reverse ++ .ref ax :: rest) (hW : (rest.map fun v => v.category).sum ≤ 8) (hf : cells ≤ R.cells ∧ slots ≤ R.slots) (hdg : decode cc pc = .ok (.invokevirtual index, 3))
    (kk : ∀ (H1 : Heap) (locs1 : List Loc), Wd D A (wP cA h t z ax sv σ' τ' κ' ++ V) s.heap H1 locs1 → W p l e R s m args below meth c H1 locs1 cells slots Q (F0 m (pc + 3) ls (v :: rest))) : W p l e R s m args below meth c H locs cells slots Q (F0 m pc ls st0) := by
  rw [wP_app] at hw
  exact q_cv E hw hl hC n hG hws hd hR 40 8 (T := TX8) (N := 4) rfl rfl hn hst hW hf hdg (fun H1 locs1 hw1 => kk H1 locs1 (by rw [wP_app]; exact hw1))
theorem pmT (a b c d e r : va_W) : (a ++ (b ++ (c ++ (d ++ (e ++ r))))).Perm (d ++ (e ++ (a ++ (b ++ (c ++ r))))) := by
  have e1 : a ++ (b ++ (c ++ (d ++ (e ++ r)))) = (a ++ (b ++ c)) ++ ((d ++ e) ++ r) := by simp only [List.append_assoc]
  have e2 : d ++ (e ++ (a ++ (b ++ (c ++ r)))) = (d ++ e) ++ ((a ++ (b ++ c)) ++ r) := by simp only [List.append_assoc]
  rw [e1, e2]
  exact pmS _ _ _
/-- .. of the script -/
theorem lx_cs {lv : List (Nat × Value)} (E : Ev p cc nL ret own Ts D cA tS A s m args meth c) (hw : Wd D A (wP cA h t z ax sv σ τ κ ++ V) s.heap H locs) (hl : lv_has ls nL lv)
    (hC : Ct l yy wsc fr lo D cA tS A (.ref ax :: As) (wK cA h σ ++ (wLg cA h σ 600 ++ (wC cA h σ ++ (wH cA h σ ++ (wS h ++ (wX ax (h 46) sv (t 42) (z 60) ++ (wSc cA z κ ++ (wR cA z κ ++ (wK cA t τ ++ (wLg cA t τ 0 ++ (wC cA t τ ++ V))))))))))) (some v) (wK cA h σ' ++ (wLg cA h σ' 600 ++ (wC cA h σ' ++ (wH cA h σ' ++ (wS h ++ (wX ax (h 46) sv (t 42) (z 60) ++ (wSc cA z κ' ++ (wR cA z κ' ++ (wK cA t τ ++ (wLg cA t τ 0 ++ (wC cA t τ ++ V))))))))))))
    (n : Nat) (hG : GoodIn Ts (wsV own index RX8 yy wsc)) (hws : wsc = Cond.code yy bytes maxL retc :: ws')
    (hd : yy.cls = RX8 ∧ yy.cls ≠ "java/lang/invoke/MethodHandle" ∧ yy.cls ≠ "java/lang/invoke/VarHandle" ∧ (parseMethodDescriptor yy.desc).map (fun d => d.parameters.length) = some n) (hR : fr + 1 ≤ R.frames ∧ 8 + (maxL + 11) + lo ≤ R.locals)
    (hn : As.length = n) (hst : st0 = As.reverse ++ .ref ax :: rest) (hW : (rest.map fun v => v.category).sum ≤ 8) (hf : cells ≤ R.cells ∧ slots ≤ R.slots) (hdg : decode cc pc = .ok (.invokevirtual index, 3))
    (kk : ∀ (H1 : Heap) (locs1 : List Loc), Wd D A (wP cA h t z ax sv σ' τ κ' ++ V) s.heap H1 locs1 → W p l e R s m args below meth c H1 locs1 cells slots Q (F0 m (pc + 3) ls (v :: rest))) : W p l e R s m args below meth c H locs cells slots Q (F0 m pc ls st0) := by
  rw [wP_app] at hw
  have pmm : ∀ (s1 k1 : Sg), (wK cA h s1 ++ (wLg cA h s1 600 ++ (wC cA h s1 ++ (wH cA h s1 ++ (wS h ++ (wX ax (h 46) sv (t 42) (z 60) ++ (wK cA t τ ++ (wLg cA t τ 0 ++ (wC cA t τ ++ (wSc cA z k1 ++ (wR cA z k1 ++ V))))))))))).Perm (wK cA h s1 ++ (wLg cA h s1 600 ++ (wC cA h s1 ++ (wH cA h s1 ++ (wS h ++ (wX ax (h 46) sv (t 42) (z 60) ++ (wSc cA z k1 ++ (wR cA z k1 ++ (wK cA t τ ++ (wLg cA t τ 0 ++ (wC cA t τ ++ V))))))))))) := fun s1 k1 =>
    List.Perm.append_left _ (List.Perm.append_left _ (List.Perm.append_left _ (List.Perm.append_left _ (List.Perm.append_left _ (List.Perm.append_left _ (pmT _ _ _ _ _ _))))))
  exact q_cv E (hw.perm (pmm σ κ)) hl hC n hG hws hd hR 40 8 (T := TX8) (N := 4) rfl rfl hn hst hW hf hdg (fun H1 locs1 hw1 => kk H1 locs1 (by rw [wP_app]; exact hw1.perm (pmm σ' κ').symm))
/-- the reference -/
theorem lm_cv {lv : List (Nat × Value)} (E : Ev p cc nL ret own Ts D cA tS A s m args meth c) (hw : Wd D A (wP cA h t z ax sv σ τ κ ++ (wM cA y μ wd ++ V)) s.heap H locs) (hl : lv_has ls nL lv)
    (hC : Ct l yy wsc fr lo D cA tS A (.ref (y 0) :: As) (wM cA y μ wd ++ (wP cA h t z ax sv σ τ κ ++ V)) (some v) (wM cA y μ' wd' ++ (wP cA h t z ax sv σ τ κ ++ V)))
    (n : Nat) (hG : GoodIn Ts (wsV own index RX9 yy wsc)) (hws : wsc = Cond.code yy bytes maxL retc :: ws')
    (hd : yy.cls = RX9 ∧ yy.cls ≠ "java/lang/invoke/MethodHandle" ∧ yy.cls ≠ "java/lang/invoke/VarHandle" ∧ (parseMethodDescriptor yy.desc).map (fun d => d.parameters.length) = some n) (hR : fr + 1 ≤ R.frames ∧ 8 + (maxL + 11) + lo ≤ R.locals)
    (hn : As.length = n) (hst : st0 = As.reverse ++ .ref (y 0) :: rest) (hW : (rest.map fun v => v.category).sum ≤ 8) (hf : cells ≤ R.cells ∧ slots ≤ R.slots) (hdg : decode cc pc = .ok (.invokevirtual index, 3))
    (kk : ∀ (H1 : Heap) (locs1 : List Loc), Wd D A (wP cA h t z ax sv σ τ κ ++ (wM cA y μ' wd' ++ V)) s.heap H1 locs1 → W p l e R s m args below meth c H1 locs1 cells slots Q (F0 m (pc + 3) ls (v :: rest))) : W p l e R s m args below meth c H locs cells slots Q (F0 m pc ls st0) :=
  q_cv E (hw.perm (pmS _ _ _)) hl hC n hG hws hd hR 0 9 (T := TX9) (N := 17) rfl rfl hn hst hW hf hdg (fun H1 locs1 hw1 => kk H1 locs1 (hw1.perm (pmS _ _ _)))
end HLW
