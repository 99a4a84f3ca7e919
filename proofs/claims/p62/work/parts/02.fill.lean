/-! java.util.Arrays.fill(int[], int), in any world -/
theorem set_at {w : va_W} {q : Nat} {x y : Nat × va_E} (h : w[q]? = some x) : (w.set q y)[q]? = some y := by
  rw [List.getElem?_set_self (List.getElem?_eq_some_iff.mp h).1]
theorem fillf_0 (v : Int32) (f : Nat → Int32) : fillf 0 v f = f := by
  funext j; simp [fillf]
theorem fillf_s (i : Nat) (v : Int32) (f : Nat → Int32) : upd (fillf i v f) i v = fillf (i + 1) v f := by
  funext j
  unfold upd fillf
  by_cases h : j = i
  · rw [if_pos h, if_pos (by omega)]
  · rw [if_neg h]
    by_cases h2 : j < i
    · rw [if_pos h2, if_pos (by omega)]
    · rw [if_neg h2, if_neg (by omega)]
theorem fill_loop (l : Launch) (D : va_G) (cA : Nat → ClassId) (tS : Nat → Nat) (A : Nat → Prop) {p : Program} {e : Env} {s : State} {m : MethodId} {args : Array Value} {below : List Frame} {meth : Method} {c : Code} (E : Ev p cJ7_fill_53178 4 none RJ7 (Cond.code yJ7_fill_53178 cJ7_fill_53178 4 none :: bw) D cA tS A s m args meth c) (w : va_W) (q0 a n : Nat) (f : Nat → Int32) (he : w[q0]? = some (a, .inl (cA 0, n, .inl f))) (hn : n < 2 ^ 31) (v : Int32) :
    ∀ (k i : Nat), i + k = n → ∀ (H : Heap) (locs : List Loc), Wd D A (w.set q0 (a, .inl (cA 0, n, .inl (fillf i v f)))) s.heap H locs → ∀ ls : Array Slot, lv_has ls 4 [(0, .ref a), (1, .int v), (2, .int (nI i)), (3, .int (nI n))] →
      W p l e ({ frames := 0, cells := 0, slots := 0, locals := 0 } : Room) s m args below meth c H locs 0 0 (MQ below (QW D A none (w.set q0 (a, .inl (cA 0, n, .inl (fillf n v f))))) args s 0 0 A) (F0 m 5 ls []) := by
  have hx := E.1.1
  have hb := E.1.2.1
  intro k
  induction k with
  | zero =>
    intro i hi H locs hw ls hl
    obtain rfl : i = n := by omega
    refine lv_iload_n hx hb dJ7_fill_53178_5 rfl (lv_at hl 2 rfl) ?_
    refine lv_iload_n hx hb dJ7_fill_53178_6 rfl (lv_at hl 3 rfl) ?_
    refine lv_icmp_ge (tgt := 20) hx hb dJ7_fill_53178_7 (by decide) (fun c1 => ?_) (fun c1 => absurd (nI_le (Nat.le_refl _) hn) c1)
    exact q_retv E hw dJ7_fill_53178_20
  | succ k ih =>
    intro i hi H locs hw ls hl
    refine lv_iload_n hx hb dJ7_fill_53178_5 rfl (lv_at hl 2 rfl) ?_
    refine lv_iload_n hx hb dJ7_fill_53178_6 rfl (lv_at hl 3 rfl) ?_
    refine lv_icmp_ge (tgt := 20) hx hb dJ7_fill_53178_7 (by decide) (fun c1 => absurd c1 (nI_ge (by omega) hn)) (fun c1 => ?_)
    refine lv_aload_n hx hb dJ7_fill_53178_10 rfl (lv_at hl 0 rfl) ?_
    refine lv_iload_n hx hb dJ7_fill_53178_11 rfl (lv_at hl 2 rfl) ?_
    refine lv_iload_n hx hb dJ7_fill_53178_12 rfl (lv_at hl 1 rfl) ?_
    refine q_ast E hw q0 (n := n) (set_at he) (nI_in (by omega) hn) (w.set q0 (a, .inl (cA 0, n, .inl (fillf (i + 1) v f)))) (by rw [List.set_set]; unfold ix; rw [nI_clamp (by omega), fillf_s]) dJ7_fill_53178_13 (fun H locs hw => ?_)
    refine lv_iinc (v := nI (i + 1)) (lv' := [(2, .int (nI (i + 1))), (0, .ref a), (1, .int v), (3, .int (nI n))]) hx hb dJ7_fill_53178_14 hl (k := 2) rfl (nI_1 i) (by decide) rfl (fun ls hl => ?_)
    refine lv_goto (tgt := 5) hx hb dJ7_fill_53178_17 (by decide) ?_
    exact ih (i + 1) (by omega) _ _ hw _ (lv_sub hl [1, 2, 0, 3] rfl)
theorem c_fill (l : Launch) (D : va_G) (cA : Nat → ClassId) (tS : Nat → Nat) (A : Nat → Prop) (w : va_W) (q0 : Nat) {a n : Nat} {f : Nat → Int32} (he : w[q0]? = some (a, .inl (cA 0, n, .inl f))) (hn : n < 2 ^ 31) (v : Int32) {w' : va_W} (hw' : w.set q0 (a, .inl (cA 0, n, .inl (fillf n v f))) = w') :
    Ct l yJ7_fill_53178 (Cond.code yJ7_fill_53178 cJ7_fill_53178 4 none :: bw) 0 0 D cA tS A [.ref a, .int v] w none w' := by
  subst hw'
  refine ct_of (by decide +kernel) (Nat.le_of_ble_eq_true rfl) ?_
  intro p e s m below meth c E hw ls hl
  replace E : Ev p cJ7_fill_53178 4 none RJ7 (Cond.code yJ7_fill_53178 cJ7_fill_53178 4 none :: bw) D cA tS A s m _ meth c := E
  replace hl : lv_has ls 4 [(0, .ref a), (1, .int v)] := hl
  have hx := E.1.1
  have hb := E.1.2.1
  refine lv_iconst (v := 0) hx hb dJ7_fill_53178_0 (by decide) ?_
  refine lv_istore_n (lv' := [(2, .int 0), (0, .ref a), (1, .int v)]) hx hb dJ7_fill_53178_1 rfl hl (by decide) rfl (fun ls hl => ?_)
  refine lv_aload_n hx hb dJ7_fill_53178_2 rfl (lv_at hl 1 rfl) ?_
  refine va_alen hx hb E.2.2.2.2.1 hw.1 q0 0 he rfl (v := nI n) rfl dJ7_fill_53178_3 ?_
  refine lv_istore_n (lv' := [(3, .int (nI n)), (2, .int 0), (0, .ref a), (1, .int v)]) hx hb dJ7_fill_53178_4 rfl hl (by decide) rfl (fun ls hl => ?_)
  refine fill_loop l D cA tS A E w q0 a n f he hn v n 0 (by omega) _ _ ?_ _ (lv_sub hl [2, 3, 1, 0] rfl)
  rw [fillf_0]
  have e : w.set q0 (a, .inl (cA 0, n, .inl f)) = w := by
    obtain ⟨h1, h2⟩ := List.getElem?_eq_some_iff.mp he
    rw [← h2, List.set_getElem_self]
  rw [e]
  exact hw
