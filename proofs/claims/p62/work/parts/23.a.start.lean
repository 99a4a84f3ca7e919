/-! the start: what the Statement gives of the launch, as the facts beside the worlds -/
abbrev flG : List Cond := flatC (Jvm.Cond.and given_1 narrow_1)
section HGS
variable {s : State} {args : Array Value} {A : Nat → Prop}
/-- a static row -/
theorem st_row0 (hg : ∀ w ∈ flG, w.before args s = true) (hts : ∀ w ∈ lw_tbl, w.before args s = true) (hA : ∀ a : Nat, a < s.heap.size → ¬ A a) {n : String} {N : Nat} {f : Nat → Int32} (hN : N < 2 ^ 31) (h1 : Cond.arrayOf (.static RX8 n "[I") .int ∈ flG) (h2 : Cond.eq (.length (.static RX8 n "[I")) (.int (Int32.ofNat N)) ∈ flG) (h3 : ∀ j, j < N → Cond.eq (.elem (.static RX8 n "[I") (.int (Int32.ofNat j))) (.int (f j)) ∈ flG) (h4 : Cond.laysStatic RX8 n "[I" ∈ lw_tbl) : ∃ t, Sf n t N f A s s.heap := by
  obtain ⟨t, e1, e2⟩ := va_Tof (f := fun j => .int (f j)) (A := A) hN (hg _ h1) (va_eqt (hg _ h2)) (fun j hj => va_eqt (hg _ (h3 j hj))) hA
  exact ⟨t, va_Zref (hts _ h4) (hts _ (bw_in tb_47)) e1 hA, e2⟩
set_option maxRecDepth 100000 in
theorem gv_s0 : ∀ j, j < 7 → flG[7 + j]? = some (.eq (.elem (.static RX8 "FIRST_OPENING" "[I") (.int (Int32.ofNat j))) (.int (sA0 j))) := by decide +kernel
set_option maxRecDepth 100000 in
theorem gv_t0 : flG[5]? = some (.arrayOf (.static RX8 "FIRST_OPENING" "[I") .int) ∧ flG[6]? = some (.eq (.length (.static RX8 "FIRST_OPENING" "[I")) (.int (Int32.ofNat 7))) ∧ lw_tbl[257]? = some (.laysStatic RX8 "FIRST_OPENING" "[I") := by decide +kernel
theorem st_0 (hg : ∀ w ∈ flG, w.before args s = true) (hts : ∀ w ∈ lw_tbl, w.before args s = true) (hA : ∀ a : Nat, a < s.heap.size → ¬ A a) : ∃ t, Sf "FIRST_OPENING" t 7 sA0 A s s.heap :=
  st_row0 hg hts hA (by decide) (List.mem_of_getElem? gv_t0.1) (List.mem_of_getElem? gv_t0.2.1) (fun j hj => List.mem_of_getElem? (gv_s0 j hj)) (List.mem_of_getElem? gv_t0.2.2)
set_option maxRecDepth 100000 in
theorem gv_s1 : ∀ j, j < 7 → flG[17 + j]? = some (.eq (.elem (.static RX8 "FIRST_CLOSING" "[I") (.int (Int32.ofNat j))) (.int (sA1 j))) := by decide +kernel
set_option maxRecDepth 100000 in
theorem gv_t1 : flG[15]? = some (.arrayOf (.static RX8 "FIRST_CLOSING" "[I") .int) ∧ flG[16]? = some (.eq (.length (.static RX8 "FIRST_CLOSING" "[I")) (.int (Int32.ofNat 7))) ∧ lw_tbl[262]? = some (.laysStatic RX8 "FIRST_CLOSING" "[I") := by decide +kernel
theorem st_1 (hg : ∀ w ∈ flG, w.before args s = true) (hts : ∀ w ∈ lw_tbl, w.before args s = true) (hA : ∀ a : Nat, a < s.heap.size → ¬ A a) : ∃ t, Sf "FIRST_CLOSING" t 7 sA1 A s s.heap :=
  st_row0 hg hts hA (by decide) (List.mem_of_getElem? gv_t1.1) (List.mem_of_getElem? gv_t1.2.1) (fun j hj => List.mem_of_getElem? (gv_s1 j hj)) (List.mem_of_getElem? gv_t1.2.2)
set_option maxRecDepth 100000 in
theorem gv_t3 : flG[25]? = some (.arrayOf (.static RJx4a65c "DEFAULTCAPACITY_EMPTY_ELEMENTDATA" "[Ljava/lang/Object;") (.object "java/lang/Object")) ∧ flG[27]? = some (.eq (.length (.static RJx4a65c "DEFAULTCAPACITY_EMPTY_ELEMENTDATA" "[Ljava/lang/Object;")) (.int (Int32.ofNat 0))) ∧ lw_tbl[399]? = some (.laysStatic RJx4a65c "DEFAULTCAPACITY_EMPTY_ELEMENTDATA" "[Ljava/lang/Object;") := by decide +kernel
theorem st_3 (hg : ∀ w ∈ flG, w.before args s = true) (hts : ∀ w ∈ lw_tbl, w.before args s = true) (hA : ∀ a : Nat, a < s.heap.size → ¬ A a) : ∃ t, va_Z RJx4a65c "DEFAULTCAPACITY_EMPTY_ELEMENTDATA" "[Ljava/lang/Object;" (.ref t) A s s.heap ∧ va_T (.object "java/lang/Object") t 0 (fun _ => .null) A s s.heap := by
  obtain ⟨t, e1, e2⟩ := va_Tof (f := fun _ => .null) (A := A) (N := 0) (by decide) (hg _ (List.mem_of_getElem? gv_t3.1)) (va_eqt (hg _ (List.mem_of_getElem? gv_t3.2.1))) (fun j hj => absurd hj (Nat.not_lt_zero _)) hA
  exact ⟨t, va_Zref (hts _ (List.mem_of_getElem? gv_t3.2.2)) (hts _ (bw_in tb_61)) e1 hA, e2⟩
/-- the script -/
theorem st_4 {b L : Nat} {xs : Nat → Int32} (hX : va_X b L xs s s.heap) (hb : ¬ A b) {f : Nat → Nat} (hf : ∀ j, xs j = Int32.ofNat (f j)) : va_T .int b L (fun j => .int (Int32.ofNat (f j))) A s s.heap := by
  obtain ⟨scr, h1, h2, h3, h4, h5⟩ := hX
  exact ⟨scr, h1, h2, h3, by omega, by rw [h4], fun j hj => by rw [h5 j hj, hf j], hb⟩
/-- the nest's words -/
theorem st_nest (hts : ∀ w ∈ lw_tbl, w.before args s = true) : ∀ w ∈ nestL, va_Nw w s := by
  intro w hw
  refine va_Nw.of (nest_ot w hw) (hts w ?_)
  rcases List.mem_cons.mp hw with rfl | hw
  · exact List.mem_of_getElem? (i := 82) (by decide +kernel)
  rcases List.mem_cons.mp hw with rfl | hw
  · exact List.mem_of_getElem? (i := 94) (by decide +kernel)
  rcases List.mem_cons.mp hw with rfl | hw
  · exact List.mem_of_getElem? (i := 108) (by decide +kernel)
  rcases List.mem_cons.mp hw with rfl | hw
  · exact List.mem_of_getElem? (i := 145) (by decide +kernel)
  rcases List.mem_cons.mp hw with rfl | hw
  · exact List.mem_of_getElem? (i := 293) (by decide +kernel)
  rcases List.mem_cons.mp hw with rfl | hw
  · exact List.mem_of_getElem? (i := 334) (by decide +kernel)
  rcases List.mem_cons.mp hw with rfl | hw
  · exact List.mem_of_getElem? (i := 531) (by decide +kernel)
  rcases List.mem_cons.mp hw with rfl | hw
  · exact List.mem_of_getElem? (i := 779) (by decide +kernel)
  rcases List.mem_cons.mp hw with rfl | hw
  · exact List.mem_of_getElem? (i := 256) (by decide +kernel)
  rcases List.mem_cons.mp hw with rfl | hw
  · exact List.mem_of_getElem? (i := 261) (by decide +kernel)
  rcases List.mem_cons.mp hw with rfl | hw
  · exact List.mem_of_getElem? (i := 1025) (by decide +kernel)
  exact absurd hw List.not_mem_nil
theorem ao_arr (h : (Cond.arrayOver (.array .int)).before args s = true) : ∃ comp c k, s.vm.findClass (FieldType.array .int).toString = some comp ∧ s.vm.classes[c]? = some k ∧ k.kind = .array comp (.array .int) ∧ s.vm.findClass ("[" ++ (FieldType.array .int).toString) = some c := by
  simp only [Cond.before, Cond.holds, Cond.value, beq_iff_eq] at h
  cases hc : s.vm.findClass (FieldType.array .int).toString with
  | none => simp [hc] at h
  | some comp =>
    rw [hc, Option.bind_some] at h
    obtain ⟨c, h1, h2⟩ := Option.bind_eq_some_iff.mp h
    obtain ⟨k, hk, h3⟩ := Option.map_eq_some_iff.mp h2
    obtain ⟨hlt, hp, -⟩ := Array.findIdx?_eq_some_iff_getElem.mp h1
    rw [(Array.getElem?_eq_some_iff.mp hk).2] at hp
    cases hkind : k.kind with
    | array component ty =>
      rw [hkind] at h3 hp
      simp at h3 hp
      exact ⟨comp, c, k, rfl, hk, by rw [hkind, hp, h3.1], h3.2⟩
    | _ => rw [hkind] at h3; simp at h3
theorem start_fx (hg : ∀ w ∈ flG, w.before args s = true) (hts : ∀ w ∈ lw_tbl, w.before args s = true) (hA : ∀ a : Nat, a < s.heap.size → ¬ A a) {b L : Nat} {xs : Nat → Int32} (hX : va_X b L xs s s.heap) (hb : b < s.heap.size) : ∃ (D : va_G) (cA : Nat → ClassId) (tS : Nat → Nat), Fx D cA tS A s s.heap ∧ KA cA s ∧ tS 4 = b ∧ tS 5 = L := by
  obtain ⟨f, hf⟩ := Classical.axiomOfChoice (fun j : Nat => (⟨_, (wb_of32 (xs j)).choose_spec.2⟩ : ∃ n : Nat, xs j = Int32.ofNat n))
  obtain ⟨t0, q0⟩ := st_0 hg hts hA
  obtain ⟨t1, q1⟩ := st_1 hg hts hA
  obtain ⟨t3, q3⟩ := st_3 hg hts hA
  have q4 := st_4 hX (hA b hb) hf
  obtain ⟨c0, i0, hK0⟩ := u_known (C := RX0) (T := TX0) (N := 2) (n := 2) hts (fun w hw => bw_in (inX0 w hw)) (hts _ (bw_in tb_93))
  obtain ⟨c1, i1, hK1⟩ := u_known (C := RX1) (T := TX1) (N := 6) (n := 6) hts (fun w hw => bw_in (inX1 w hw)) (hts _ (bw_in tb_87))
  obtain ⟨c2, i2, hK2⟩ := u_known (C := RX2) (T := TX2) (N := 7) (n := 7) hts (fun w hw => bw_in (inX2 w hw)) (hts _ (bw_in tb_292))
  obtain ⟨c3, i3, hK3⟩ := u_known (C := RX3) (T := TX3) (N := 7) (n := 7) hts (fun w hw => bw_in (inX3 w hw)) (hts _ (bw_in tb_107))
  obtain ⟨c4, i4, hK4⟩ := u_known (C := RX4) (T := TX4) (N := 5) (n := 5) hts (fun w hw => bw_in (inX4 w hw)) (hts _ (bw_in tb_219))
  obtain ⟨c5, i5, hK5⟩ := u_known (C := RX5) (T := TX5) (N := 13) (n := 13) hts (fun w hw => bw_in (inX5 w hw)) (hts _ (bw_in tb_333))
  obtain ⟨c6, i6, hK6⟩ := u_known (C := RX6) (T := TX6) (N := 2) (n := 2) hts (fun w hw => bw_in (inX6 w hw)) (hts _ (bw_in tb_81))
  obtain ⟨c7, i7, hK7⟩ := u_known (C := RX7) (T := TX7) (N := 15) (n := 15) hts (fun w hw => bw_in (inX7 w hw)) (hts _ (bw_in tb_144))
  obtain ⟨c8, i8, hK8⟩ := u_known (C := RX8) (T := TX8) (N := 4) (n := 4) hts (fun w hw => bw_in (inX8 w hw)) (hts _ (bw_in tb_75))
  obtain ⟨c9, i9, hK9⟩ := u_known (C := RJx4a65c) (T := TJx4a65c) (N := 3) (n := 3) hts (fun w hw => bw_in (inJx4a65c w hw)) (hts _ (bw_in tb_387))
  obtain ⟨c10, i10, hK10⟩ := u_known (C := RL) (T := TL) (N := 4) (n := 4) hts (fun w hw => bw_in (inL w hw)) (hts _ (bw_in tb_67))
  obtain ⟨a0, k0, m0, x1, x2, x3⟩ := Cond.arrayClass_spec (hts (.arrayClass .int) (bw_in tb_105))
  obtain ⟨a1, k1, m1, y1, y2, y3⟩ := Cond.arrayClass_spec (hts (.arrayClass .boolean) (bw_in tb_142))
  obtain ⟨a2, k2, m2, z1, z2, z3⟩ := Cond.arrayClass_spec (hts (.arrayClass .byte) (bw_in tb_372))
  have ho : (Cond.arrayOver (.object RX6)).before args s = true := hts _ (List.mem_of_getElem? (i := 329) (by decide +kernel))
  obtain ⟨cq, a4, k4, u1, -, u3, u4, u5⟩ := Cond.arrayOver_spec ho
  have ho2 : (Cond.arrayOver (.object "java/lang/Object")).before args s = true := hts _ (List.mem_of_getElem? (i := 507) (by decide +kernel))
  obtain ⟨cq2, a5, k5, w1, -, w3, w4, w5⟩ := Cond.arrayOver_spec ho2
  obtain ⟨cr, a3, k3, v1, v2, v3, v4⟩ := ao_arr (hts (.arrayOver (.array .int)) (List.mem_of_getElem? (i := 339) (by decide +kernel)))
  have er : cr = a0 := Option.some.inj (v1.symm.trans x1)
  subst er
  refine ⟨(fun k => if k = 0 then c0 else if k = 1 then c1 else if k = 2 then c2 else if k = 3 then c3 else if k = 4 then c4 else if k = 5 then c5 else if k = 6 then c6 else if k = 7 then c7 else if k = 8 then c8 else if k = 9 then c9 else c10, fun k => if k = 0 then i0 else if k = 1 then i1 else if k = 2 then i2 else if k = 3 then i3 else if k = 4 then i4 else if k = 5 then i5 else if k = 6 then i6 else if k = 7 then i7 else if k = 8 then i8 else if k = 9 then i9 else i10), fun k => if k = 0 then cr else if k = 1 then a1 else if k = 2 then a2 else if k = 3 then a3 else if k = 4 then a4 else a5, fun k => if k = 0 then t0 else if k = 1 then t1 else if k = 3 then t3 else if k = 4 then b else if k = 5 then L else f (k - 100), ⟨⟨?_, ?_⟩, st_nest hts, ⟨q0, q1, q3⟩, ?_⟩, ⟨⟨k3, v2, v3⟩, va_AO.of ho, va_AO.of ho2⟩, rfl, rfl⟩
  · intro k q hq
    match k, hq with
    | 0, hq => cases hq; exact hK0
    | 1, hq => cases hq; exact hK1
    | 2, hq => cases hq; exact hK2
    | 3, hq => cases hq; exact hK3
    | 4, hq => cases hq; exact hK4
    | 5, hq => cases hq; exact hK5
    | 6, hq => cases hq; exact hK6
    | 7, hq => cases hq; exact hK7
    | 8, hq => cases hq; exact hK8
    | 9, hq => cases hq; exact hK9
    | 10, hq => cases hq; exact hK10
    | k + 11, hq => simp [vwCl] at hq
  · intro k q hq
    match k, hq with
    | 0, hq => cases hq; exact ⟨fun n z => ⟨fun k h => (by cases h), k0, x2, m0, x3⟩, x1⟩
    | 1, hq => cases hq; exact ⟨fun n z => ⟨fun k h => (by cases h), k1, y2, m1, y3⟩, y1⟩
    | 2, hq => cases hq; exact ⟨fun n z => ⟨fun k h => (by cases h), k2, z2, m2, z3⟩, z1⟩
    | 3, hq => cases hq; exact ⟨fun n z => ⟨fun k h => (by cases h), k3, v2, cr, v3⟩, v4⟩
    | 4, hq => cases hq; exact ⟨fun n z => ⟨fun k h => (by cases h), k4, u3, cq, u4⟩, k4, cq, u3, u4, u1, u5⟩
    | 5, hq => cases hq; exact ⟨fun n z => ⟨fun k h => (by cases h), k5, w3, cq2, w4⟩, k5, cq2, w3, w4, w1, w5⟩
    | k + 6, hq => simp [tyl] at hq
  · have e : (fun j => Value.int (Int32.ofNat ((fun k => if k = 0 then t0 else if k = 1 then t1 else if k = 3 then t3 else if k = 4 then b else if k = 5 then L else f (k - 100)) (100 + j)))) = fun j => Value.int (Int32.ofNat (f j)) := by
      funext j
      show Value.int (Int32.ofNat (if 100 + j = 0 then t0 else if 100 + j = 1 then t1 else if 100 + j = 3 then t3 else if 100 + j = 4 then b else if 100 + j = 5 then L else f (100 + j - 100))) = _
      rw [if_neg (by omega), if_neg (by omega), if_neg (by omega), if_neg (by omega), if_neg (by omega), Nat.add_sub_cancel_left]
    show va_T .int b L _ A s s.heap
    rw [e]
    exact q4
end HGS
