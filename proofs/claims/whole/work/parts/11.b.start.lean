/-! the start: all of it -/
section HGT
variable {s : State} {args : Array Value} {A : Nat → Prop}
theorem ao_arr (h : (Cond.arrayOver (.array .int)).before args s = true) : ∃ comp c k, s.vm.findClass (FieldType.array .int).toString = some comp ∧ s.vm.classes[c]? = some k ∧ k.kind = .array comp (.array .int) ∧ s.vm.findClass ("[" ++ (FieldType.array .int).toString) = some c := by
  simp only [Cond.before, Cond.holds, Cond.value, beq_iff_eq] at h
  cases hc : s.vm.findClass (FieldType.array .int).toString with
  | none => simp [hc] at h
  | some comp =>
    rw [hc, Option.bind_some] at h
    obtain ⟨c, h1, h2⟩ := Option.bind_eq_some_iff.mp h
    obtain ⟨k, hk, h3⟩ := Option.map_eq_some_iff.mp h2
    obtain ⟨hlt, hp, -⟩ := Array.findIdx?_eq_some_iff_getElem.mp h1
    rw [(Array.getElem?_eq_some_iff.mp hk).2] at hp
    cases hkind : k.kind with
    | array component ty =>
      rw [hkind] at h3 hp
      simp at h3 hp
      exact ⟨comp, c, k, rfl, hk, by rw [hkind, hp, h3.1], h3.2⟩
    | _ => rw [hkind] at h3; simp at h3
theorem strL_lt : ∀ r ∈ strL, r.2.2.2 < 15 := by decide +kernel
theorem start_fx (hg : ∀ w ∈ flG, w.before args s = true) (hts : ∀ w ∈ lw_tbl, w.before args s = true) (hA : ∀ a : Nat, a < s.heap.size → ¬ A a) : ∃ (D : va_G) (cA : Nat → ClassId) (tS : Nat → Nat), Fx D cA tS A s s.heap ∧ KA cA s := by
  have h0 : ∀ i : Nat, ∃ q : Nat × Nat, i < 15 → SOne args A s i q.1 q.2 := fun i => by
    by_cases hi : i < 15
    · obtain ⟨a, v, h⟩ := str_one hg hA i hi
      exact ⟨(a, v), fun _ => h⟩
    · exact ⟨(0, 0), fun h => absurd h hi⟩
  obtain ⟨ad, had⟩ := Classical.axiomOfChoice h0
  obtain ⟨t0, q0⟩ := st_0 hg hts hA
  obtain ⟨t1, q1⟩ := st_1 hg hts hA
  obtain ⟨t2, q2⟩ := st_2 hg hts hA
  obtain ⟨c0, i0, hK0⟩ := u_known (C := RX0) (T := TX0) (N := 2) (n := 2) hts (fun w hw => bw_in (inX0 w hw)) (hts _ (bw_in tb_138))
  obtain ⟨c1, i1, hK1⟩ := u_known (C := RX1) (T := TX1) (N := 6) (n := 6) hts (fun w hw => bw_in (inX1 w hw)) (hts _ (bw_in tb_132))
  obtain ⟨c2, i2, hK2⟩ := u_known (C := RX2) (T := TX2) (N := 7) (n := 7) hts (fun w hw => bw_in (inX2 w hw)) (hts _ (bw_in tb_340))
  obtain ⟨c3, i3, hK3⟩ := u_known (C := RX3) (T := TX3) (N := 7) (n := 7) hts (fun w hw => bw_in (inX3 w hw)) (hts _ (bw_in tb_154))
  obtain ⟨c4, i4, hK4⟩ := u_known (C := RX4) (T := TX4) (N := 5) (n := 5) hts (fun w hw => bw_in (inX4 w hw)) (hts _ (bw_in tb_267))
  obtain ⟨c5, i5, hK5⟩ := u_known (C := RX5) (T := TX5) (N := 13) (n := 13) hts (fun w hw => bw_in (inX5 w hw)) (hts _ (bw_in tb_387))
  obtain ⟨c6, i6, hK6⟩ := u_known (C := RX6) (T := TX6) (N := 2) (n := 2) hts (fun w hw => bw_in (inX6 w hw)) (hts _ (bw_in tb_126))
  obtain ⟨c7, i7, hK7⟩ := u_known (C := RX7) (T := TX7) (N := 15) (n := 15) hts (fun w hw => bw_in (inX7 w hw)) (hts _ (bw_in tb_191))
  obtain ⟨c8, i8, hK8⟩ := u_known (C := RX8) (T := TX8) (N := 4) (n := 4) hts (fun w hw => bw_in (inX8 w hw)) (hts _ (bw_in tb_118))
  obtain ⟨c9, i9, hK9⟩ := u_known (C := RX9) (T := TX9) (N := 17) (n := 17) hts (fun w hw => bw_in (inX9 w hw)) (hts _ (bw_in tb_1136))
  obtain ⟨a0, k0, m0, x1, x2, x3⟩ := Cond.arrayClass_spec (hts (.arrayClass .int) (bw_in tb_152))
  obtain ⟨a1, k1, m1, y1, y2, y3⟩ := Cond.arrayClass_spec (hts (.arrayClass .boolean) (bw_in tb_189))
  obtain ⟨a2, k2, m2, z1, z2, z3⟩ := Cond.arrayClass_spec (hts (.arrayClass .byte) (bw_in tb_441))
  have ho : (Cond.arrayOver (.object RX6)).before args s = true := hts _ (List.mem_of_getElem? (i := 383) (by decide +kernel))
  obtain ⟨cq, a4, k4, u1, -, u3, u4, u5⟩ := Cond.arrayOver_spec ho
  obtain ⟨cr, a3, k3, v1, v2, v3, v4⟩ := ao_arr (hts (.arrayOver (.array .int)) (List.mem_of_getElem? (i := 393) (by decide +kernel)))
  have er : cr = a0 := Option.some.inj (v1.symm.trans x1)
  subst er
  have adk : ∀ i, i < 15 → (fun k => if k = 0 then t0 else if k = 1 then t1 else if k = 2 then t2 else if k < 40 then (ad (k - 10)).1 else (ad (k - 40)).2) (10 + i) = (ad i).1 := fun i hi => by
    show (if 10 + i = 0 then t0 else if 10 + i = 1 then t1 else if 10 + i = 2 then t2 else if 10 + i < 40 then (ad (10 + i - 10)).1 else (ad (10 + i - 40)).2) = _
    rw [if_neg (by omega), if_neg (by omega), if_neg (by omega), if_pos (by omega), Nat.add_sub_cancel_left]
  have adv : ∀ i, i < 15 → (fun k => if k = 0 then t0 else if k = 1 then t1 else if k = 2 then t2 else if k < 40 then (ad (k - 10)).1 else (ad (k - 40)).2) (40 + i) = (ad i).2 := fun i hi => by
    show (if 40 + i = 0 then t0 else if 40 + i = 1 then t1 else if 40 + i = 2 then t2 else if 40 + i < 40 then (ad (40 + i - 10)).1 else (ad (40 + i - 40)).2) = _
    rw [if_neg (by omega), if_neg (by omega), if_neg (by omega), if_neg (by omega), Nat.add_sub_cancel_left]
  refine ⟨(fun k => if k = 0 then c0 else if k = 1 then c1 else if k = 2 then c2 else if k = 3 then c3 else if k = 4 then c4 else if k = 5 then c5 else if k = 6 then c6 else if k = 7 then c7 else if k = 8 then c8 else c9, fun k => if k = 0 then i0 else if k = 1 then i1 else if k = 2 then i2 else if k = 3 then i3 else if k = 4 then i4 else if k = 5 then i5 else if k = 6 then i6 else if k = 7 then i7 else if k = 8 then i8 else i9), fun k => if k = 0 then cr else if k = 1 then a1 else if k = 2 then a2 else if k = 3 then a3 else a4, fun k => if k = 0 then t0 else if k = 1 then t1 else if k = 2 then t2 else if k < 40 then (ad (k - 10)).1 else (ad (k - 40)).2, ⟨⟨?_, ?_⟩, st_nest hts, ⟨q0, q1, q2⟩, ⟨fun i hi => ?_, fun i j hi hj e => ?_⟩, fun r hr => ?_, ?_, ?_⟩, ⟨⟨k3, v2, v3⟩, va_AO.of ho⟩⟩
  · intro k q hq
    match k, hq with
    | 0, hq => cases hq; exact hK0
    | 1, hq => cases hq; exact hK1
    | 2, hq => cases hq; exact hK2
    | 3, hq => cases hq; exact hK3
    | 4, hq => cases hq; exact hK4
    | 5, hq => cases hq; exact hK5
    | 6, hq => cases hq; exact hK6
    | 7, hq => cases hq; exact hK7
    | 8, hq => cases hq; exact hK8
    | 9, hq => cases hq; exact hK9
    | k + 10, hq => simp [vwCl] at hq
  · intro k q hq
    match k, hq with
    | 0, hq => cases hq; exact ⟨fun n z => ⟨fun k h => (by cases h), k0, x2, m0, x3⟩, x1⟩
    | 1, hq => cases hq; exact ⟨fun n z => ⟨fun k h => (by cases h), k1, y2, m1, y3⟩, y1⟩
    | 2, hq => cases hq; exact ⟨fun n z => ⟨fun k h => (by cases h), k2, z2, m2, z3⟩, z1⟩
    | 3, hq => cases hq; exact ⟨fun n z => ⟨fun k h => (by cases h), k3, v2, cr, v3⟩, v4⟩
    | 4, hq => cases hq; exact ⟨fun n z => ⟨fun k h => (by cases h), k4, u3, cq, u4⟩, k4, cq, u3, u4, u1, u5⟩
    | k + 5, hq => simp [tyl] at hq
  · have h := (had i hi).1
    rw [← adk i hi, ← adv i hi] at h
    exact h
  · have e2 : (ad i).1 = (ad j).1 := (adk i hi).symm.trans (e.trans (adk j hj))
    have h1 := had i hi
    have h2 := had j hj
    rw [← e2] at h2
    exact str_apart hi hj h1 h2
  · obtain ⟨e1, e2⟩ := st_refs (f := fun i => (ad i).1) hg hts (fun i hi => (had i hi).2) r hr
    have hr15 : r.2.2.2 < 15 := strL_lt r hr
    refine vk_R.of e1 ?_
    rw [e2]
    exact congrArg (fun q => some (Value.ref q)) (adk _ hr15).symm
  · exact va_Zof (hts _ (List.mem_of_getElem? (i := 1051) (by decide +kernel))) (hts (.initialized RJ0) (List.mem_of_getElem? (i := 113) (by decide +kernel))) (va_eqi (hg (.eq (.static "java/lang/String" "COMPACT_STRINGS" "Z") (.int 1)) (List.mem_of_getElem? (i := 24) (by decide +kernel)))) hA
  · exact va_Zqof (hts _ (List.mem_of_getElem? (i := 1067) (by decide +kernel))) (hts (.initialized RJ3) (List.mem_of_getElem? (i := 115) (by decide +kernel))) (hg (.isRef (.static "jdk/internal/util/Preconditions" "SIOOBE_FORMATTER" "Ljava/util/function/BiFunction;")) (List.mem_of_getElem? (i := 25) (by decide +kernel))) hA
end HGT
