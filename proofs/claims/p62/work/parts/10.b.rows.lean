/-! new int[40][5] -/
section HMU
variable {p : Program} {l : Launch} {e : Env} {R : Room} {s : State} {m : MethodId} {args : Array Value} {below : List Frame} {meth : Method} {c : Code} {H : Heap} {locs : List Loc} {cells slots : Nat} {Q : State → Prop}
def muA (h0 i : Nat) : Nat → Value := fun j => if j < i then .ref (h0 + 1 + j) else .null
theorem muA_s (h0 i : Nat) : updV (muA h0 i) i (.ref (h0 + 1 + i)) = muA h0 (i + 1) := by
  funext j
  unfold updV muA
  by_cases h : j = i
  · rw [if_pos h, if_pos (by omega), h]
  · rw [if_neg h]
    by_cases h2 : j < i
    · rw [if_pos h2, if_pos (by omega)]
    · rw [if_neg h2, if_neg (by omega)]
/-- the machine with the outer row, and i of the inner ones in it -/
def muS (u : State) (c3 c0 : ClassId) : Nat → State
  | 0 => u.pushCell (arrV c3 40 (muA u.heap.size 0))
  | i + 1 => ((muS u c3 c0 i).pushCell (arrV c0 5 (fun _ => .int 0))).setCell u.heap.size (arrV c3 40 (muA u.heap.size (i + 1)))
theorem mu_f (u : State) (c3 c0 : ClassId) : ∀ i, ((muS u c3 c0 i).heap.size = u.heap.size + 1 + i ∧ (muS u c3 c0 i).heap[u.heap.size]? = some (arrV c3 40 (muA u.heap.size i)) ∧ (muS u c3 c0 i).vm = u.vm ∧ (muS u c3 c0 i).slotsUsed = u.slotsUsed + 40 + 5 * i) ∧ (∀ j, j < i → (muS u c3 c0 i).heap[u.heap.size + 1 + j]? = some (arrV c0 5 (fun _ => .int 0))) ∧ ∀ q, q < u.heap.size → (muS u c3 c0 i).heap[q]? = u.heap[q]?
  | 0 => by
    refine ⟨⟨?_, ?_, rfl, ?_⟩, fun j hj => absurd hj (Nat.not_lt_zero _), fun q hq => ?_⟩
    · simp [muS]
    · exact State.heap_pushCell_size _ _
    · show u.slotsUsed + (arrV c3 40 (muA u.heap.size 0)).slots.size = _
      rw [arrV_size]
    · exact State.heap_pushCell_of_lt _ _ hq
  | i + 1 => by
    obtain ⟨⟨f1, f2, f3, f4⟩, f5, f6⟩ := mu_f u c3 c0 i
    have hlt : u.heap.size < (muS u c3 c0 i).heap.size := by omega
    have g2 : ((muS u c3 c0 i).pushCell (arrV c0 5 (fun _ => .int 0))).heap[u.heap.size]? = some (arrV c3 40 (muA u.heap.size i)) := (State.heap_pushCell_of_lt _ _ hlt).trans f2
    refine ⟨⟨?_, State.heap_setCell_self g2, f3, ?_⟩, fun j hj => ?_, fun q hq => ?_⟩
    · show (((muS u c3 c0 i).pushCell (arrV c0 5 (fun _ => .int 0))).setCell u.heap.size (arrV c3 40 (muA u.heap.size (i + 1)))).heap.size = _
      simp [State.setCell, f1]
      omega
    · show (muS u c3 c0 i).slotsUsed + (arrV c0 5 (fun _ => .int 0)).slots.size = _
      rw [arrV_size, f4]
      omega
    · show (((muS u c3 c0 i).pushCell (arrV c0 5 (fun _ => .int 0))).setCell u.heap.size (arrV c3 40 (muA u.heap.size (i + 1)))).heap[u.heap.size + 1 + j]? = _
      rw [State.heap_setCell_other (show u.heap.size ≠ u.heap.size + 1 + j by omega)]
      by_cases h : j = i
      · subst h
        rw [← f1]
        exact State.heap_pushCell_size _ _
      · have h7 : u.heap.size + 1 + j < (muS u c3 c0 i).heap.size := by rw [f1]; omega
        exact (State.heap_pushCell_of_lt _ _ h7).trans (f5 j (by omega))
    · show (((muS u c3 c0 i).pushCell (arrV c0 5 (fun _ => .int 0))).setCell u.heap.size (arrV c3 40 (muA u.heap.size (i + 1)))).heap[q]? = _
      have h7 : q < (muS u c3 c0 i).heap.size := by rw [f1]; omega
      rw [State.heap_setCell_other (show u.heap.size ≠ q by omega)]
      exact (State.heap_pushCell_of_lt _ _ h7).trans (f6 q hq)
theorem mu_top (u : State) (c3 c0 : ClassId) (f : JFrame) : ∀ i, muS (u.setTop f) c3 c0 i = (muS u c3 c0 i).setTop f
  | 0 => rfl
  | i + 1 => by
    show ((muS (u.setTop f) c3 c0 i).pushCell _).setCell _ _ = _
    rw [mu_top u c3 c0 f i]
    rfl
theorem mu_st {u : State} (X : Stand p l e R s m args below meth c u locs cells slots) (c3 c0 : ClassId) : ∀ i, ∃ L : List Loc, (∀ x ∈ L, x.base = u.heap.size) ∧ Stand p l e R s m args below meth c (muS u c3 c0 i) (locs ++ L) (cells + 1 + i) (slots + 40 + 5 * i)
  | 0 => by
    refine ⟨[], fun x hx => absurd hx List.not_mem_nil, ?_⟩
    have h := X.pushed (arrV c3 40 (muA u.heap.size 0))
    rw [arrV_size] at h
    rw [List.append_nil]
    exact h
  | i + 1 => by
    obtain ⟨L, h1, h2⟩ := mu_st X c3 c0 i
    obtain ⟨⟨f1, f2, f3, f4⟩, f5, f6⟩ := mu_f u c3 c0 i
    have hlt : u.heap.size < (muS u c3 c0 i).heap.size := by omega
    have g2 : ((muS u c3 c0 i).pushCell (arrV c0 5 (fun _ => .int 0))).heap[u.heap.size]? = some (arrV c3 40 (muA u.heap.size i)) := (State.heap_pushCell_of_lt _ _ hlt).trans f2
    have h3 := (h2.pushed (arrV c0 5 (fun _ => .int 0))).stored g2 i (.ref (u.heap.size + 1 + i))
    rw [arrV_size, arrV_store, muA_s, List.append_assoc] at h3
    refine ⟨L ++ [⟨u.heap.size, i⟩], fun x hx => ?_, ?_⟩
    · rcases List.mem_append.mp hx with h | h
      · exact h1 x h
      · rw [List.mem_singleton.mp h]
    · rw [show cells + 1 + (i + 1) = cells + 1 + i + 1 from by omega, show slots + 40 + 5 * (i + 1) = slots + 40 + 5 * i + 5 from by omega]
      exact h3
theorem mu_wp {E : CtlPost} {d : Bool} {acts : List Action} {u : State} {c3 c0 cc : ClassId} {k3 k0 : Class} (hk3 : u.vm.classes[c3]? = some k3) (hkind3 : k3.kind = .array c0 (.array .int)) (hk0 : u.vm.classes[c0]? = some k0) (hkind0 : k0.kind = .array cc .int)
    (hl : 40 ≤ e.platform.arrayLengthLimit) (hh : 160 ≤ e.platform.maxHeapBytes) (hc : u.heap.size + 41 ≤ e.platform.maxCells) (hs : u.slotsUsed + 240 ≤ e.platform.maxSlots)
    {Z : Addr → Pre} (hq : ∀ d' acts', Z u.heap.size d' acts' (muS u c3 c0 40)) : wp (multianewarray.make c3 [40, 5]) Z E e d acts u := by
  have hf : ([(5 : Int32)].find? (· < 0)) = none := by decide
  have n40 : ¬ (40 : Int32) < 0 := by decide
  have n5 : ¬ (5 : Int32) < 0 := by decide
  have e40 : (40 : Int32).toNatClampNeg = 40 := by decide
  have e5 : (5 : Int32).toNatClampNeg = 5 := by decide
  rw [multianewarray.make]
  simp only [wp_bind', W.ite, n40, if_false, wp_pure', W.theClass, hk3, hkind3, Option.some.injEq, exists_eq_left', e40]
  refine W.newArray_of hk3 hkind3 (by omega) (by show ¬ 40 * 4 > _; omega) (by omega) (by omega) rfl (fun a1 => ?_)
  simp only [hf]
  rw [ite_self, wp_bind', Std.Legacy.Range.forIn_eq_forIn_range']
  have hsz : ([:40] : Std.Legacy.Range).size = 40 := by simp [Std.Legacy.Range.size]
  rw [hsz, show ({ cls := c3, slots := Array.replicate 40 Value.null } : Cell) = arrV c3 40 (muA u.heap.size 0) from (arrV_new c3 40 .null).trans (by congr 1)]
  show wp (forIn (List.range' 0 40 1) PUnit.unit _) _ E e d _ (muS u c3 c0 0)
  refine wp_forIn_inv (fun rest s' => ∃ i, i ≤ 40 ∧ rest = List.range' i (40 - i) ∧ s' = muS u c3 c0 i) _ _ ⟨0, Nat.zero_le _, rfl, rfl⟩ ?_ ?_
  · rintro x rest s' d' acts' Q' ⟨i, hi, hr, rfl⟩ hnext
    have hlt : i < 40 := by
      rcases Nat.lt_or_ge i 40 with h | h
      · exact h
      · rw [show 40 - i = 0 from by omega] at hr
        simp at hr
    rw [show 40 - i = (40 - (i + 1)) + 1 from by omega, List.range'_succ] at hr
    obtain ⟨rfl, hrest⟩ := List.cons.inj hr
    obtain ⟨⟨f1, f2, f3, f4⟩, f5, f6⟩ := mu_f u c3 c0 x
    have hlt0 : u.heap.size < (muS u c3 c0 x).heap.size := by omega
    simp only [wp_bind']
    rw [multianewarray.make]
    simp only [wp_bind', W.ite, n5, if_false, wp_pure', W.theClass, f3, hk0, hkind0, Option.some.injEq, exists_eq_left', e5]
    refine W.newArray_of (by rw [f3]; exact hk0) hkind0 (by omega) (by show ¬ 5 * 4 > _; omega) (by omega) (by omega) rfl (fun a2 => ?_)
    rw [show ({ cls := c0, slots := Array.replicate 5 (defaultValue .int) } : Cell) = arrV c0 5 (fun _ => .int 0) from arrV_new c0 5 (.int 0)]
    simp only [wp_bind', W.writeLoc, wp_pure']
    refine ⟨arrV c3 40 (muA u.heap.size x), (State.heap_pushCell_of_lt _ _ hlt0).trans f2, by simp [arrV], by rw [arrV_size]; exact hlt, ?_, hnext _ _ _ ⟨x + 1, hlt, hrest, ?_⟩⟩
    · simp [arrV, State.fitsSlot, State.slotType?, f3, hk3, hkind3, fits]
    · rw [f1, arrV_store, muA_s]
      rfl
  · rintro s' d' acts' ⟨i, hi, hr, rfl⟩
    have hiN : i = 40 := by
      rcases Nat.lt_or_ge i 40 with h | h
      · rw [show 40 - i = (40 - (i + 1)) + 1 from by omega, List.range'_succ] at hr
        cases hr
      · omega
    subst hiN
    simp only [wp_pure']
    exact hq _ _
theorem d_iff {A : Nat → Prop} {ws : va_W} (h1 : (ws.map Prod.fst).Nodup) (h2 : ∀ q ∈ ws, A q.1) : va_D A ws := by
  refine ⟨fun i j p q hi hj he => ?_, fun k q hk => h2 q (List.mem_of_getElem? hk)⟩
  obtain ⟨hi', ei⟩ := List.getElem?_eq_some_iff.mp hi
  obtain ⟨hj', ej⟩ := List.getElem?_eq_some_iff.mp hj
  unfold List.Nodup at h1
  rw [List.pairwise_iff_getElem] at h1
  rcases Nat.lt_trichotomy i j with hl | hl | hl
  · exact absurd (by rw [List.getElem_map, List.getElem_map, ei, ej]; exact he) (h1 i j (by rw [List.length_map]; exact hi') (by rw [List.length_map]; exact hj') hl)
  · exact hl
  · exact absurd (by rw [List.getElem_map, List.getElem_map, ei, ej]; exact he.symm) (h1 j i (by rw [List.length_map]; exact hj') (by rw [List.length_map]; exact hi') hl)
theorem d_nd {A : Nat → Prop} {ws : va_W} (h : va_D A ws) : (ws.map Prod.fst).Nodup := by
  unfold List.Nodup
  rw [List.pairwise_iff_getElem]
  intro i j hi hj hij heq
  rw [List.length_map] at hi hj
  rw [List.getElem_map, List.getElem_map] at heq
  have := h.1 i j _ _ (List.getElem?_eq_getElem hi) (List.getElem?_eq_getElem hj) heq
  omega
variable {cc : ByteArray} {nL pc index : Nat} {ret : Option FieldType} {own : String} {Ts : List Cond} {D : va_G} {cA : Nat → ClassId} {tS : Nat → Nat} {A : Nat → Prop} {w : va_W} {ls : Array Slot} {rest : List Value}
def muZ (h0 : Nat) : Nat → Nat := fun k => h0 + 1 + (k - 100)
theorem mu_world {u : State} {H1 : Heap} (hw : Wd D A w s.heap H locs) (hA : ∀ q, s.heap.size ≤ q → A q) (h1 : H1.size = H.size + 41) (h2 : H1[H.size]? = some (arrV (cA 3) 40 (muA H.size 40))) (h3 : ∀ j, j < 40 → H1[H.size + 1 + j]? = some (arrV (cA 0) 5 (fun _ => .int 0))) (h4 : ∀ q, q < H.size → H1[q]? = H[q]?) {L : List Loc} (hL : ∀ x ∈ L, x.base = H.size) :
    Wd D A ((H.size, .inl (cA 3, 40, .inr (.inr (.inr (.inr (fun i => if i < 40 then some (muZ H.size (100 + i)) else none)))))) :: (wR cA (muZ H.size) (fun _ _ => 0) ++ w)) s.heap H1 (locs ++ L) := by
  obtain ⟨hP, hD, hS⟩ := hw
  have hs := hS.1
  have lt : ∀ q ∈ w, q.1 < H.size := fun q hq => by
    obtain ⟨k, hk⟩ := List.getElem?_of_mem hq
    exact (hP k q hk).lt
  have at' : ∀ q ∈ w, va_at D vwCl q H1 := fun q hq => by
    obtain ⟨k, hk⟩ := List.getElem?_of_mem hq
    exact (hP.kept (H1 := H1) (fun k x hx => h4 x.1 (hP k x hx).lt)) k q hk
  have inR : ∀ q ∈ wR cA (muZ H.size) (fun _ _ => (0 : Int32)), ∃ i, i < 40 ∧ q = (H.size + 1 + i, .inl (cA 0, 5, .inl (fun j => if j < 5 then 0 else 0))) := fun q hq => by
    obtain ⟨i, hi, rfl⟩ := List.mem_map.mp hq
    refine ⟨i, List.mem_range.mp hi, ?_⟩
    unfold muZ
    rw [Nat.add_sub_cancel_left]
  refine ⟨fun k q hk => ?_, d_iff ?_ (fun q hq => ?_), Nat.le_trans hs (by omega), fun q hq ha => (h4 q (by omega)).trans (hS.2.1 q hq ha), fun x hx => ?_⟩
  · rcases List.mem_cons.mp (List.mem_of_getElem? hk) with rfl | hq
    · show H1[H.size]? = some (arrV (cA 3) 40 (fun j => va_rf (if j < 40 then some (muZ H.size (100 + j)) else none)))
      rw [h2]
      refine congrArg (fun f => some (arrV (cA 3) 40 f)) (funext fun j => ?_)
      unfold muA muZ
      by_cases hj : j < 40
      · rw [if_pos hj, if_pos hj, Nat.add_sub_cancel_left]
        rfl
      · rw [if_neg hj, if_neg hj]
        rfl
    · rcases List.mem_append.mp hq with hq | hq
      · obtain ⟨i, hi, rfl⟩ := inR q hq
        show H1[H.size + 1 + i]? = some (arrV (cA 0) 5 (fun j => .int (if j < 5 then 0 else 0)))
        rw [h3 i hi]
        refine congrArg (fun f => some (arrV (cA 0) 5 f)) (funext fun j => ?_)
        rw [ite_self]
      · exact at' q hq
  · rw [List.map_cons, List.map_append, List.nodup_cons, List.nodup_append]
    refine ⟨fun hm => ?_, ?_, d_nd hD, fun a ha b hb => ?_⟩
    · rcases List.mem_append.mp hm with hm | hm
      · obtain ⟨q, hq, hq2⟩ := List.mem_map.mp hm
        obtain ⟨i, hi, rfl⟩ := inR q hq
        simp at hq2
        omega
      · obtain ⟨q, hq, hq2⟩ := List.mem_map.mp hm
        have := lt q hq
        omega
    · unfold wR
      rw [List.map_map]
      refine List.pairwise_map.mpr ((List.nodup_range (n := 40)).imp fun {a b} hab he => hab ?_)
      simp only [Function.comp] at he
      unfold muZ at he
      omega
    · obtain ⟨q, hq, hq2⟩ := List.mem_map.mp ha
      obtain ⟨q', hq', hq2'⟩ := List.mem_map.mp hb
      obtain ⟨i, hi, rfl⟩ := inR q hq
      have := lt q' hq'
      intro he
      simp at hq2
      omega
  · rcases List.mem_cons.mp hq with rfl | hq
    · exact hA _ hs
    · rcases List.mem_append.mp hq with hq | hq
      · obtain ⟨i, hi, rfl⟩ := inR q hq
        exact hA _ (by show s.heap.size ≤ H.size + 1 + i; omega)
      · obtain ⟨k, hk⟩ := List.getElem?_of_mem hq
        exact hD.2 k q hk
  · rcases List.mem_append.mp hx with h | h
    · exact hS.2.2 x h
    · rw [hL x h]
      exact hA _ hs
theorem q_multi (E : Ev p cc nL ret own Ts D cA tS A s m args meth c) (hK : KA cA s) (hw : Wd D A w s.heap H locs) (hcl : Cond.classLink own index "[[I" ∈ Ts) (hcells : cells + 41 ≤ R.cells) (hslots : slots + 240 ≤ R.slots) (hdg : decode cc pc = .ok (.multianewarray index 2, 4))
    (kk : ∀ (z : Nat → Nat) (q : Nat) (H1 : Heap) (locs1 : List Loc), Wd D A ((q, .inl (cA 3, 40, .inr (.inr (.inr (.inr (fun i => if i < 40 then some (z (100 + i)) else none)))))) :: (wR cA z (fun _ _ => 0) ++ w)) s.heap H1 locs1 → W p l e R s m args below meth c H1 locs1 (cells + 41) (slots + 240) Q (F0 m (pc + 4) ls (.ref q :: rest))) : W p l e R s m args below meth c H locs cells slots Q (F0 m pc ls (.int 5 :: .int 40 :: rest)) := by
  intro T hT X
  subst hT
  have hpl : e.platform.magicAccessors = ({} : Platform).magicAccessors := by rw [X.admits.platform]
  obtain ⟨⟨kA, hkA, hkindA⟩, -⟩ := hK
  have hn3 : s.vm.findClass "[[I" = some (cA 3) := (E.2.2.2.2.1.2 3 (cA 3, .array .int) rfl).2
  obtain ⟨-, kC, hkC', cq, hkindC⟩ := (E.2.2.2.2.1.2 0 (cA 0, .int) rfl).1 0 (fun _ => .null)
  have hkC : s.vm.classes[cA 0]? = some kC := hkC'
  obtain ⟨c0, hfc0, hcl⟩ := Cond.classLink_spec E.1.2.2.2.1 (E.1.2.2.2.2 _ hcl) e.platform hpl
  cases hn3.symm.trans hfc0
  obtain ⟨hg₁, hwarm₁, hready₁⟩ := State.classEntry (e := e) X.warmed hcl
  generalize T.vm.noted m.cls index (.cls (cA 3)) = vm₁ at hg₁ hwarm₁ hready₁
  have hal : s.vm.Alike vm₁ := hwarm₁.alike
  obtain ⟨kA₁, hkA₁, heA⟩ := hal.2.2 _ _ hkA
  obtain ⟨kC₁, hkC₁, heC⟩ := hal.2.2 _ _ hkC
  have hkindA₁ : kA₁.kind = .array (cA 0) (.array .int) := by rw [heA]; exact hkindA
  have hkindC₁ : kC₁.kind = .array cq .int := by rw [heC]; exact hkindC
  have X₁ := X.noted hwarm₁
  obtain ⟨hr1, hr2⟩ := X.roomAbove hcells hslots
  obtain ⟨L, hL, XF⟩ := mu_st X₁ (cA 3) (cA 0) 40
  obtain ⟨⟨f1, f2, f3, f4⟩, f5, f6⟩ := mu_f (T.setVm vm₁) (cA 3) (cA 0) 40
  obtain ⟨t, a1, b1⟩ := kk (muZ T.heap.size) T.heap.size (muS (T.setVm vm₁) (cA 3) (cA 0) 40).heap (locs ++ L) (mu_world (u := T) hw E.2.2.2.1 f1 f2 f5 f6 hL) (muS (T.setVm vm₁) (cA 3) (cA 0) 40) rfl XF
  refine ⟨t, ?_, b1⟩
  have hb := E.1.2.1
  subst hb
  have hexec := E.1.1
  jvm_step X.here [hexec, hdg]
  simp only [multianewarray.sem, wp_bind', W.resolveClassAt_links (State.method?_setTop (F0 m pc ls (.int 5 :: .int 40 :: rest)) X.here.top) hg₁]
  rw [W.popN, if_neg (by decide)]
  refine ⟨F0 m pc ls (.int 5 :: .int 40 :: rest), State.topJava?_setTop' (s := T.setVm vm₁) _ X.here.top, [.int 40, .int 5], rest, rfl, rfl, ?_⟩
  simp only [List.mapM_cons, List.mapM_nil, wp_bind', wp_pure']
  refine mu_wp (u := ((T.setTop (F0 m pc ls (.int 5 :: .int 40 :: rest))).setVm vm₁).setTop { F0 m pc ls (.int 5 :: .int 40 :: rest) with stack := rest }) hkA₁ hkindA₁ hkC₁ hkindC₁ (by rw [Launch.admits_arrayLengthLimit X.admits]; decide) (by rw [Launch.admits_maxHeapBytes X.admits]; decide) (by show T.heap.size + 41 ≤ _; exact hr1) (by show T.slotsUsed + 240 ≤ _; exact hr2) (fun d' acts' => ?_)
  have eS : ((T.setTop (F0 m pc ls (.int 5 :: .int 40 :: rest))).setVm vm₁).setTop { F0 m pc ls (.int 5 :: .int 40 :: rest) with stack := rest } = (T.setVm vm₁).setTop { F0 m pc ls (.int 5 :: .int 40 :: rest) with stack := rest } := by
    show ((T.setVm vm₁).setTop _).setTop _ = _
    rw [State.setTop_setTop]
  rw [eS, mu_top]
  simp only [wp_bind', W.mark, W.pushRef, State.topJava?_setTop' _ XF.here.top, Option.some.injEq, exists_eq_left', State.setTop_setTop, State.heap_setTop]
  intro acts
  simp [jvm, XF.here.top]
  exact a1
end HMU
