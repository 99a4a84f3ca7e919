/-! the start: what the Statement gives of the launch, as the facts beside the worlds -/
abbrev flG : List Cond := flatC (Jvm.Cond.and given_1 narrow_1)
def sPool : List Nat := [75, 95, 97, 99, 101, 103, 105, 107, 109, 111, 113, 115, 117, 119, 121]
def sPos : List Nat := [167, 45, 52, 60, 70, 80, 89, 99, 108, 117, 127, 135, 143, 155, 163]
abbrev tmS (i : Nat) : Term := .string RX5 (sPool.getD i 0)
set_option maxRecDepth 100000 in
theorem gv_ex : ∀ i, i < 15 → flG[sPos.getD i 0]? = some (.exactly (tmS i) "java/lang/String") := by decide +kernel
set_option maxRecDepth 100000 in
theorem gv_co : ∀ i, i < 15 → flG[sPos.getD i 0 + 1]? = some (.eq (.field (tmS i) "java/lang/String" "coder" "B") (.int 0)) := by decide +kernel
set_option maxRecDepth 100000 in
theorem gv_ar : ∀ i, i < 15 → flG[sPos.getD i 0 + 2]? = some (.arrayOf (.field (tmS i) "java/lang/String" "value" "[B") .byte) := by decide +kernel
set_option maxRecDepth 100000 in
theorem gv_le : ∀ i, i < 15 → flG[sPos.getD i 0 + 3]? = some (.eq (.length (.field (tmS i) "java/lang/String" "value" "[B")) (.int (Int32.ofNat (strN.getD i 0)))) := by decide +kernel
set_option maxRecDepth 100000 in
theorem gv_el : ∀ i, i < 15 → ∀ j, j < strN.getD i 0 → flG[sPos.getD i 0 + 4 + j]? = some (.eq (.elem (.field (tmS i) "java/lang/String" "value" "[B") (.int (Int32.ofNat j))) (.int ((strB.getD i []).getD j 0))) := by decide +kernel
theorem s_len : ∀ i, i < 15 → strN.getD i 0 < 9 := by decide +kernel
theorem s_apart : ∀ i, i < 15 → ∀ j, j < 15 → (strN.getD i 0 = strN.getD j 0 ∧ ∀ k, k < strN.getD i 0 → (strB.getD i []).getD k 0 = (strB.getD j []).getD k 0) → i = j := by decide +kernel
section HGS
variable {s : State} {args : Array Value} {A : Nat → Prop}
/-- one String constant -/
def SOne (args : Array Value) (A : Nat → Prop) (s : State) (i a v : Nat) : Prop := (va_O "java/lang/String" a A s s.heap ∧ va_OF "java/lang/String" "coder" "B" (.int 0) a A s s.heap ∧ va_OF "java/lang/String" "value" "[B" (.ref v) a A s s.heap ∧ va_T .byte v (strN.getD i 0) (fun j => .int ((strB.getD i []).getD j 0)) A s s.heap) ∧ (tmS i).eval args s none [] s = some (.ref a)
theorem str_one (hg : ∀ w ∈ flG, w.before args s = true) (hA : ∀ a : Nat, a < s.heap.size → ¬ A a) (i : Nat) (hi : i < 15) : ∃ a v, SOne args A s i a v := by
  have lt := s_len i hi
  obtain ⟨f, g, h1, h2⟩ := vk_Sof (N := 1) (tm := fun _ => tmS i) (len := [strN.getD i 0]) (byt := [strB.getD i []]) (args := args) (s := s) (A := A)
    (fun k hk => by obtain rfl : k = 0 := by omega
                    show strN.getD i 0 < 2 ^ 31
                    omega)
    (fun _ _ => hg _ (List.mem_of_getElem? (gv_ex i hi))) (fun _ _ => hg _ (List.mem_of_getElem? (gv_co i hi))) (fun _ _ => hg _ (List.mem_of_getElem? (gv_ar i hi)))
    (fun k hk => by obtain rfl : k = 0 := by omega
                    exact hg _ (List.mem_of_getElem? (gv_le i hi)))
    (fun k hk j hj => by obtain rfl : k = 0 := by omega
                         exact hg _ (List.mem_of_getElem? (gv_el i hi j hj)))
    (fun a b ha hb hab => absurd (show a = b by omega) hab) hA
  exact ⟨f 0, g 0, h1.1 0 (by decide), h2 0 (by decide)⟩
theorem str_apart {i j a v u : Nat} (hi : i < 15) (hj : j < 15) (h1 : SOne args A s i a v) (h2 : SOne args A s j a u) : i = j := by
  obtain ⟨⟨-, -, ⟨cf, k, n, f, cell, x1, x2, x3, x4, x5, -⟩, cl1, y1, -, -, y4, y5, y6, -⟩, -⟩ := h1
  obtain ⟨⟨-, -, ⟨cf', k', n', f', cell', z1, z2, z3, z4, z5, -⟩, cl2, w1, -, -, w4, w5, w6, -⟩, -⟩ := h2
  have e1 := Option.some.inj (x1.symm.trans z1)
  have ef : f = f' := congrArg (fun q : ClassId × Class × Nat × Field => q.2.2.2) e1
  have ec : cell = cell' := Option.some.inj (x3.symm.trans z3)
  subst ef
  subst ec
  have ev : v = u := by
    have := Option.some.inj (x5.symm.trans z5)
    injection this
  subst ev
  have e2 : cl1 = cl2 := Option.some.inj (y1.symm.trans w1)
  subst e2
  have l1 := s_len i hi
  have l2 := s_len j hj
  have el : strN.getD i 0 = strN.getD j 0 := by
    have := y5.symm.trans w5
    exact (nI_eq (by omega) (by omega)).mp this
  refine s_apart i hi j hj ⟨el, fun q hq => ?_⟩
  have := Option.some.inj ((y6 q hq).symm.trans (w6 q (by omega)))
  injection this
/-- a static row -/
theorem st_row0 (hg : ∀ w ∈ flG, w.before args s = true) (hts : ∀ w ∈ lw_tbl, w.before args s = true) (hA : ∀ a : Nat, a < s.heap.size → ¬ A a) {n : String} {N : Nat} {f : Nat → Int32} (hN : N < 2 ^ 31) (h1 : Cond.arrayOf (.static RX8 n "[I") .int ∈ flG) (h2 : Cond.eq (.length (.static RX8 n "[I")) (.int (Int32.ofNat N)) ∈ flG) (h3 : ∀ j, j < N → Cond.eq (.elem (.static RX8 n "[I") (.int (Int32.ofNat j))) (.int (f j)) ∈ flG) (h4 : Cond.laysStatic RX8 n "[I" ∈ lw_tbl) : ∃ t, Sf n t N f A s s.heap := by
  obtain ⟨t, e1, e2⟩ := va_Tof (f := fun j => .int (f j)) (A := A) hN (hg _ h1) (va_eqt (hg _ h2)) (fun j hj => va_eqt (hg _ (h3 j hj))) hA
  exact ⟨t, va_Zref (hts _ h4) (hts _ (bw_in tb_99)) e1 hA, e2⟩
set_option maxRecDepth 100000 in
theorem gv_s0 : ∀ j, j < 7 → flG[7 + j]? = some (.eq (.elem (.static RX8 "FIRST_OPENING" "[I") (.int (Int32.ofNat j))) (.int (sA0 j))) := by decide +kernel
set_option maxRecDepth 100000 in
theorem gv_t0 : flG[5]? = some (.arrayOf (.static RX8 "FIRST_OPENING" "[I") .int) ∧ flG[6]? = some (.eq (.length (.static RX8 "FIRST_OPENING" "[I")) (.int (Int32.ofNat 7))) ∧ lw_tbl[305]? = some (.laysStatic RX8 "FIRST_OPENING" "[I") := by decide +kernel
theorem st_0 (hg : ∀ w ∈ flG, w.before args s = true) (hts : ∀ w ∈ lw_tbl, w.before args s = true) (hA : ∀ a : Nat, a < s.heap.size → ¬ A a) : ∃ t, Sf "FIRST_OPENING" t 7 sA0 A s s.heap :=
  st_row0 hg hts hA (by decide) (List.mem_of_getElem? gv_t0.1) (List.mem_of_getElem? gv_t0.2.1) (fun j hj => List.mem_of_getElem? (gv_s0 j hj)) (List.mem_of_getElem? gv_t0.2.2)
set_option maxRecDepth 100000 in
theorem gv_s1 : ∀ j, j < 7 → flG[17 + j]? = some (.eq (.elem (.static RX8 "FIRST_CLOSING" "[I") (.int (Int32.ofNat j))) (.int (sA1 j))) := by decide +kernel
set_option maxRecDepth 100000 in
theorem gv_t1 : flG[15]? = some (.arrayOf (.static RX8 "FIRST_CLOSING" "[I") .int) ∧ flG[16]? = some (.eq (.length (.static RX8 "FIRST_CLOSING" "[I")) (.int (Int32.ofNat 7))) ∧ lw_tbl[310]? = some (.laysStatic RX8 "FIRST_CLOSING" "[I") := by decide +kernel
theorem st_1 (hg : ∀ w ∈ flG, w.before args s = true) (hts : ∀ w ∈ lw_tbl, w.before args s = true) (hA : ∀ a : Nat, a < s.heap.size → ¬ A a) : ∃ t, Sf "FIRST_CLOSING" t 7 sA1 A s s.heap :=
  st_row0 hg hts hA (by decide) (List.mem_of_getElem? gv_t1.1) (List.mem_of_getElem? gv_t1.2.1) (fun j hj => List.mem_of_getElem? (gv_s1 j hj)) (List.mem_of_getElem? gv_t1.2.2)
set_option maxRecDepth 100000 in
theorem gv_s2 : ∀ j, j < 13 → flG[32 + j]? = some (.eq (.elem (.static RX8 "ARGUMENTS" "[I") (.int (Int32.ofNat j))) (.int (sA2 j))) := by decide +kernel
set_option maxRecDepth 100000 in
theorem gv_t2 : flG[30]? = some (.arrayOf (.static RX8 "ARGUMENTS" "[I") .int) ∧ flG[31]? = some (.eq (.length (.static RX8 "ARGUMENTS" "[I")) (.int (Int32.ofNat 13))) ∧ lw_tbl[1100]? = some (.laysStatic RX8 "ARGUMENTS" "[I") := by decide +kernel
theorem st_2 (hg : ∀ w ∈ flG, w.before args s = true) (hts : ∀ w ∈ lw_tbl, w.before args s = true) (hA : ∀ a : Nat, a < s.heap.size → ¬ A a) : ∃ t, Sf "ARGUMENTS" t 13 sA2 A s s.heap :=
  st_row0 hg hts hA (by decide) (List.mem_of_getElem? gv_t2.1) (List.mem_of_getElem? gv_t2.2.1) (fun j hj => List.mem_of_getElem? (gv_s2 j hj)) (List.mem_of_getElem? gv_t2.2.2)
/-- the nest's words -/
theorem st_nest (hts : ∀ w ∈ lw_tbl, w.before args s = true) : ∀ w ∈ nestL, va_Nw w s := by
  intro w hw
  refine va_Nw.of (nest_ot w hw) (hts w ?_)
  rcases List.mem_cons.mp hw with rfl | hw
  · exact List.mem_of_getElem? (i := 127) (by decide +kernel)
  rcases List.mem_cons.mp hw with rfl | hw
  · exact List.mem_of_getElem? (i := 139) (by decide +kernel)
  rcases List.mem_cons.mp hw with rfl | hw
  · exact List.mem_of_getElem? (i := 155) (by decide +kernel)
  rcases List.mem_cons.mp hw with rfl | hw
  · exact List.mem_of_getElem? (i := 192) (by decide +kernel)
  rcases List.mem_cons.mp hw with rfl | hw
  · exact List.mem_of_getElem? (i := 341) (by decide +kernel)
  rcases List.mem_cons.mp hw with rfl | hw
  · exact List.mem_of_getElem? (i := 388) (by decide +kernel)
  rcases List.mem_cons.mp hw with rfl | hw
  · exact List.mem_of_getElem? (i := 471) (by decide +kernel)
  rcases List.mem_cons.mp hw with rfl | hw
  · exact List.mem_of_getElem? (i := 605) (by decide +kernel)
  rcases List.mem_cons.mp hw with rfl | hw
  · exact List.mem_of_getElem? (i := 304) (by decide +kernel)
  rcases List.mem_cons.mp hw with rfl | hw
  · exact List.mem_of_getElem? (i := 309) (by decide +kernel)
  rcases List.mem_cons.mp hw with rfl | hw
  · exact List.mem_of_getElem? (i := 1099) (by decide +kernel)
  exact absurd hw List.not_mem_nil
theorem st_refs (hg : ∀ w ∈ flG, w.before args s = true) (hts : ∀ w ∈ lw_tbl, w.before args s = true) {f : Nat → Nat} (hf : ∀ i, i < 15 → (tmS i).eval args s none [] s = some (.ref (f i))) : ∀ r ∈ strL, (Cond.stringRef r.1 r.2.1 r.2.2.1).before args s = true ∧ (Term.string r.1 r.2.1).eval args s none [] s = some (.ref (f r.2.2.2)) := by
  intro r hr
  rcases List.mem_cons.mp hr with rfl | hr
  · exact ⟨hts _ (List.mem_of_getElem? (i := 1102) (by decide +kernel)), hf 0 (by decide)⟩
  rcases List.mem_cons.mp hr with rfl | hr
  · exact ⟨hts _ (List.mem_of_getElem? (i := 1024) (by decide +kernel)), hf 1 (by decide)⟩
  rcases List.mem_cons.mp hr with rfl | hr
  · exact ⟨hts _ (List.mem_of_getElem? (i := 1025) (by decide +kernel)), hf 2 (by decide)⟩
  rcases List.mem_cons.mp hr with rfl | hr
  · exact ⟨hts _ (List.mem_of_getElem? (i := 1026) (by decide +kernel)), hf 3 (by decide)⟩
  rcases List.mem_cons.mp hr with rfl | hr
  · exact ⟨hts _ (List.mem_of_getElem? (i := 1027) (by decide +kernel)), hf 4 (by decide)⟩
  rcases List.mem_cons.mp hr with rfl | hr
  · exact ⟨hts _ (List.mem_of_getElem? (i := 1028) (by decide +kernel)), hf 5 (by decide)⟩
  rcases List.mem_cons.mp hr with rfl | hr
  · exact ⟨hts _ (List.mem_of_getElem? (i := 1029) (by decide +kernel)), hf 6 (by decide)⟩
  rcases List.mem_cons.mp hr with rfl | hr
  · exact ⟨hts _ (List.mem_of_getElem? (i := 1030) (by decide +kernel)), hf 7 (by decide)⟩
  rcases List.mem_cons.mp hr with rfl | hr
  · exact ⟨hts _ (List.mem_of_getElem? (i := 1031) (by decide +kernel)), hf 8 (by decide)⟩
  rcases List.mem_cons.mp hr with rfl | hr
  · exact ⟨hts _ (List.mem_of_getElem? (i := 1032) (by decide +kernel)), hf 9 (by decide)⟩
  rcases List.mem_cons.mp hr with rfl | hr
  · exact ⟨hts _ (List.mem_of_getElem? (i := 1033) (by decide +kernel)), hf 10 (by decide)⟩
  rcases List.mem_cons.mp hr with rfl | hr
  · exact ⟨hts _ (List.mem_of_getElem? (i := 1034) (by decide +kernel)), hf 11 (by decide)⟩
  rcases List.mem_cons.mp hr with rfl | hr
  · exact ⟨hts _ (List.mem_of_getElem? (i := 1035) (by decide +kernel)), hf 12 (by decide)⟩
  rcases List.mem_cons.mp hr with rfl | hr
  · exact ⟨hts _ (List.mem_of_getElem? (i := 1036) (by decide +kernel)), hf 13 (by decide)⟩
  rcases List.mem_cons.mp hr with rfl | hr
  · exact ⟨hts _ (List.mem_of_getElem? (i := 1037) (by decide +kernel)), hf 14 (by decide)⟩
  rcases List.mem_cons.mp hr with rfl | hr
  · exact ⟨hts _ (List.mem_of_getElem? (i := 1634) (by decide +kernel)), va_eqR (hg (.eq (tmS 1) (.string RX9 254)) (List.mem_of_getElem? (i := 184) (by decide +kernel))) (hf 1 (by decide))⟩
  rcases List.mem_cons.mp hr with rfl | hr
  · exact ⟨hts _ (List.mem_of_getElem? (i := 1641) (by decide +kernel)), va_eqR (hg (.eq (tmS 2) (.string RX9 260)) (List.mem_of_getElem? (i := 193) (by decide +kernel))) (hf 2 (by decide))⟩
  rcases List.mem_cons.mp hr with rfl | hr
  · exact ⟨hts _ (List.mem_of_getElem? (i := 1642) (by decide +kernel)), va_eqR (hg (.eq (tmS 3) (.string RX9 261)) (List.mem_of_getElem? (i := 204) (by decide +kernel))) (hf 3 (by decide))⟩
  rcases List.mem_cons.mp hr with rfl | hr
  · exact ⟨hts _ (List.mem_of_getElem? (i := 1643) (by decide +kernel)), va_eqR (hg (.eq (tmS 4) (.string RX9 263)) (List.mem_of_getElem? (i := 215) (by decide +kernel))) (hf 4 (by decide))⟩
  rcases List.mem_cons.mp hr with rfl | hr
  · exact ⟨hts _ (List.mem_of_getElem? (i := 1644) (by decide +kernel)), va_eqR (hg (.eq (tmS 5) (.string RX9 265)) (List.mem_of_getElem? (i := 225) (by decide +kernel))) (hf 5 (by decide))⟩
  rcases List.mem_cons.mp hr with rfl | hr
  · exact ⟨hts _ (List.mem_of_getElem? (i := 1645) (by decide +kernel)), va_eqR (hg (.eq (tmS 6) (.string RX9 267)) (List.mem_of_getElem? (i := 236) (by decide +kernel))) (hf 6 (by decide))⟩
  rcases List.mem_cons.mp hr with rfl | hr
  · exact ⟨hts _ (List.mem_of_getElem? (i := 1646) (by decide +kernel)), va_eqR (hg (.eq (tmS 7) (.string RX9 269)) (List.mem_of_getElem? (i := 246) (by decide +kernel))) (hf 7 (by decide))⟩
  rcases List.mem_cons.mp hr with rfl | hr
  · exact ⟨hts _ (List.mem_of_getElem? (i := 1647) (by decide +kernel)), va_eqR (hg (.eq (tmS 8) (.string RX9 271)) (List.mem_of_getElem? (i := 256) (by decide +kernel))) (hf 8 (by decide))⟩
  rcases List.mem_cons.mp hr with rfl | hr
  · exact ⟨hts _ (List.mem_of_getElem? (i := 1648) (by decide +kernel)), va_eqR (hg (.eq (tmS 9) (.string RX9 273)) (List.mem_of_getElem? (i := 267) (by decide +kernel))) (hf 9 (by decide))⟩
  rcases List.mem_cons.mp hr with rfl | hr
  · exact ⟨hts _ (List.mem_of_getElem? (i := 1649) (by decide +kernel)), va_eqR (hg (.eq (tmS 10) (.string RX9 275)) (List.mem_of_getElem? (i := 276) (by decide +kernel))) (hf 10 (by decide))⟩
  rcases List.mem_cons.mp hr with rfl | hr
  · exact ⟨hts _ (List.mem_of_getElem? (i := 1650) (by decide +kernel)), va_eqR (hg (.eq (tmS 11) (.string RX9 277)) (List.mem_of_getElem? (i := 285) (by decide +kernel))) (hf 11 (by decide))⟩
  rcases List.mem_cons.mp hr with rfl | hr
  · exact ⟨hts _ (List.mem_of_getElem? (i := 1651) (by decide +kernel)), va_eqR (hg (.eq (tmS 12) (.string RX9 279)) (List.mem_of_getElem? (i := 298) (by decide +kernel))) (hf 12 (by decide))⟩
  rcases List.mem_cons.mp hr with rfl | hr
  · exact ⟨hts _ (List.mem_of_getElem? (i := 1652) (by decide +kernel)), va_eqR (hg (.eq (tmS 13) (.string RX9 281)) (List.mem_of_getElem? (i := 307) (by decide +kernel))) (hf 13 (by decide))⟩
  rcases List.mem_cons.mp hr with rfl | hr
  · exact ⟨hts _ (List.mem_of_getElem? (i := 1668) (by decide +kernel)), va_eqR (hg (.eq (tmS 0) (.string RX9 308)) (List.mem_of_getElem? (i := 318) (by decide +kernel))) (hf 0 (by decide))⟩
  exact absurd hr List.not_mem_nil
end HGS
