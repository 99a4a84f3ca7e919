/-! the cells of the system, by blocks: h: their addresses, σ: what they hold -/
def wK (cA : Nat → ClassId) (h : Nat → Nat) (σ : Sg) : va_W := [(h 40, .inr (3, [.ref (h 1), .ref (h 2), .ref (h 3), .ref (h 4), .ref (h 5), .ref (h 6), .int (σ 0 0)])), (h 1, .inl (cA 0, 6, .inl (σ 1))), (h 2, .inl (cA 0, 6, .inl (σ 2))), (h 3, .inl (cA 0, 6, .inl (σ 3))), (h 4, .inl (cA 0, 6, .inl (σ 4))), (h 5, .inl (cA 0, 6, .inl (σ 5))), (h 6, .inl (cA 1, 6, .inl (σ 6)))]
def wLg (cA : Nat → ClassId) (h : Nat → Nat) (σ : Sg) (L : Nat) : va_W := [(h 41, .inr (4, [.ref (h 8), .ref (h 9), .ref (h 10), .ref (h 11), .int (σ 7 0)])), (h 8, .inl (cA 0, L, .inl (σ 8))), (h 9, .inl (cA 0, L, .inl (σ 9))), (h 10, .inl (cA 0, L, .inl (σ 10))), (h 11, .inl (cA 0, L, .inl (σ 11)))]
def wC (cA : Nat → ClassId) (h : Nat → Nat) (σ : Sg) : va_W := [(h 42, .inr (1, [.ref (h 43), .ref (h 40), .ref (h 30), .ref (h 44), .ref (h 41), .int (σ 12 0)])), (h 43, .inr (0, [.ref (h 13), .ref (h 14)])), (h 13, .inl (cA 0, 7, .inl (σ 13))), (h 14, .inl (cA 0, 7, .inl (σ 14))), (h 44, .inr (7, [.ref (h 16), .ref (h 17), .ref (h 18), .ref (h 19), .ref (h 20), .ref (h 21), .ref (h 22), .ref (h 23), .ref (h 24), .ref (h 25), .ref (h 26), .ref (h 27), .ref (h 28), .ref (h 29), .int (σ 15 0)])), (h 16, .inl (cA 0, 60, .inl (σ 16))), (h 17, .inl (cA 0, 60, .inl (σ 17))), (h 18, .inl (cA 0, 60, .inl (σ 18))), (h 19, .inl (cA 0, 60, .inl (σ 19))), (h 20, .inl (cA 0, 60, .inl (σ 20))), (h 21, .inl (cA 0, 60, .inl (σ 21))), (h 22, .inl (cA 0, 60, .inl (σ 22))), (h 23, .inl (cA 0, 60, .inl (σ 23))), (h 24, .inl (cA 0, 60, .inl (σ 24))), (h 25, .inl (cA 0, 60, .inl (σ 25))), (h 26, .inl (cA 0, 60, .inl (σ 26))), (h 27, .inl (cA 0, 60, .inl (σ 27))), (h 28, .inl (cA 0, 60, .inl (σ 28))), (h 29, .inl (cA 0, 60, .inl (σ 29))), (h 30, .inl (cA 0, 4, .inl (σ 30)))]
def wH (cA : Nat → ClassId) (h : Nat → Nat) (σ : Sg) : va_W := [(h 45, .inr (2, [.ref (h 32), .ref (h 33), .ref (h 34), .ref (h 35), .ref (h 36), .ref (h 37), .int (σ 31 0)])), (h 32, .inl (cA 0, 200, .inl (σ 32))), (h 33, .inl (cA 0, 200, .inl (σ 33))), (h 34, .inl (cA 0, 200, .inl (σ 34))), (h 35, .inl (cA 0, 200, .inl (σ 35))), (h 36, .inl (cA 0, 200, .inl (σ 36))), (h 37, .inl (cA 0, 200, .inl (σ 37)))]
def wSc (cA : Nat → ClassId) (h : Nat → Nat) (σ : Sg) : va_W := [(h 60, .inr (5, [.ref (h 61), .int (σ 1 0), .ref (h 62), .ref (h 63), .ref (h 64), .int (σ 4 0), .int (σ 5 0), .int (σ 6 0), .int (σ 7 0), .int (σ 8 0), .int (σ 9 0), .int (σ 10 0), .int (σ 11 0)])), (h 61, .inl (cA 2, 400, .inl (σ 61))), (h 62, .inl (cA 0, 40, .inl (σ 62))), (h 64, .inl (cA 1, 40, .inl (σ 64))), (h 63, .inl (cA 3, 40, .inr (.inr (.inr (.inr (fun i => if i < 40 then some (h (100 + i)) else none))))))]
def wX (hx lv sv tr sc : Nat) : va_W := [(hx, .inr (8, [.ref lv, .ref sv, .ref tr, .ref sc]))]
def wR (cA : Nat → ClassId) (h : Nat → Nat) (σ : Sg) : va_W := (List.range 40).map (fun i => (h (100 + i), .inl (cA 0, 5, .inl (fun j => if j < 5 then σ 65 (5 * i + j) else 0))))
def wS (h : Nat → Nat) : va_W := [(h 46, .inr (6, [.ref (h 42), .ref (h 45)]))]
section W2
variable {D : va_G} {cA : Nat → ClassId} {A : Nat → Prop} {h t z : Nat → Nat} {σ τ κ p : Sg} {F : va_W} {H0 H : Heap} {locs : List Loc} {hx sv tr sc : Nat}
/-- one block's rows out of another state -/
def mixK (p σ : Sg) : Sg := fun k => if k < 7 then p k else σ k
def mixLg (p σ : Sg) : Sg := fun k => if k < 7 then σ k else if k < 12 then p k else σ k
def mixC (p σ : Sg) : Sg := fun k => if k < 12 then σ k else if k < 31 then p k else σ k
def mixKLgC (p σ : Sg) : Sg := fun k => if k < 31 then p k else σ k
def mixH (p σ : Sg) : Sg := fun k => if k < 31 then σ k else p k
theorem ib_lt {i : Int32} {n : Nat} (h : ib i n) : ix i < n := Nat.not_le.mp fun q => h (Or.inr q)
theorem row_at {k : Nat} (hk : k < 40) : (wR cA z κ ++ F)[k]? = some (z (100 + k), .inl (cA 0, 5, .inl (fun j => if j < 5 then κ 65 (5 * k + j) else 0))) := by
  unfold wR
  rw [List.getElem?_append_left (by simpa using hk), List.getElem?_map, List.getElem?_range hk]
  rfl
def rowfill (k : Nat) (v : Int32) (f : Nat → Int32) : Nat → Int32 := fun a => if 5 * k ≤ a ∧ a < 5 * k + 5 then v else f a
theorem map_set {α : Type} {n k : Nat} {f g : Nat → α} {y : α} (hk : k < n) (h : ∀ i, i < n → i ≠ k → f i = g i) (hy : g k = y) : ((List.range n).map f).set k y = (List.range n).map g := by
  apply List.ext_getElem?
  intro i
  by_cases hi : i < n
  · by_cases e : i = k
    · subst e
      rw [List.getElem?_set_self (by simpa using hk), List.getElem?_map, List.getElem?_range hi, ← hy]
      rfl
    · rw [List.getElem?_set_ne (fun z => e z.symm), List.getElem?_map, List.getElem?_map, List.getElem?_range hi]
      exact congrArg some (h i hi e)
  · rw [List.getElem?_eq_none (by simpa using Nat.not_lt.mp hi), List.getElem?_eq_none (by simpa using Nat.not_lt.mp hi)]
theorem st_row {k j : Nat} (hk : k < 40) (hj : j < 5) {v : Int32} : (wR cA z κ ++ (wSc cA z κ ++ F)).set k (z (100 + k), .inl (cA 0, 5, .inl (upd (fun j => if j < 5 then κ 65 (5 * k + j) else 0) j v))) = wR cA z (up κ 65 (5 * k + j) v) ++ (wSc cA z (up κ 65 (5 * k + j) v) ++ F) := by
  have hs : wSc cA z (up κ 65 (5 * k + j) v) = wSc cA z κ := rfl
  rw [hs, List.set_append_left _ _ (by unfold wR; simpa using hk)]
  congr 1
  unfold wR
  refine map_set hk (fun i hi hik => ?_) ?_
  · refine congrArg (fun f => (z (100 + i), (Sum.inl (cA 0, 5, Sum.inl f) : va_E))) (funext fun a => ?_)
    by_cases ha : a < 5
    · rw [if_pos ha, if_pos ha, up_at]
      exact (if_neg (by omega)).symm
    · rw [if_neg ha, if_neg ha]
  · refine congrArg (fun f => (z (100 + k), (Sum.inl (cA 0, 5, Sum.inl f) : va_E))) (funext fun a => ?_)
    rw [up_at]
    unfold upd
    by_cases ha : a < 5
    · rw [if_pos ha]
      by_cases e : a = j
      · rw [if_pos e, if_pos (by omega)]
      · rw [if_neg e, if_neg (by omega)]
        exact (if_pos ha).symm
    · rw [if_neg ha, if_neg (by omega)]
      exact (if_neg ha).symm
theorem st_rowfill {k : Nat} (hk : k < 40) {v : Int32} : (wR cA z κ ++ (wSc cA z κ ++ F)).set k (z (100 + k), .inl (cA 0, 5, .inl (fillf 5 v (fun j => if j < 5 then κ 65 (5 * k + j) else 0)))) = wR cA z (upr κ 65 (rowfill k v (κ 65))) ++ (wSc cA z (upr κ 65 (rowfill k v (κ 65))) ++ F) := by
  have hs : wSc cA z (upr κ 65 (rowfill k v (κ 65))) = wSc cA z κ := rfl
  rw [hs, List.set_append_left _ _ (by unfold wR; simpa using hk)]
  congr 1
  unfold wR
  refine map_set hk (fun i hi hik => ?_) ?_
  · refine congrArg (fun f => (z (100 + i), (Sum.inl (cA 0, 5, Sum.inl f) : va_E))) (funext fun a => ?_)
    by_cases ha : a < 5
    · rw [if_pos ha, if_pos ha, upr_at]
      exact (if_neg (by omega)).symm
    · rw [if_neg ha, if_neg ha]
  · refine congrArg (fun f => (z (100 + k), (Sum.inl (cA 0, 5, Sum.inl f) : va_E))) (funext fun a => ?_)
    rw [upr_at]
    unfold rowfill fillf
    by_cases ha : a < 5
    · rw [if_pos ha, if_pos ha, if_pos (by omega)]
    · rw [if_neg ha, if_neg ha]
      exact (if_neg ha).symm
end W2
/-- ldc_w of a String constant -/
theorem va_ldcSw {p : Program} {l : Launch} {e : Env} {R : Room} {s : State} {m : MethodId} {args : Array Value} {below : List Frame} {meth : Method} {c : Code} {H : Heap} {locs : List Loc} {cells slots : Nat} {Q : State → Prop} {cc : ByteArray} {pc : Nat} {ls : Array Slot} {rest : List Value}
    (hexec : p.tables.exec = Jvm.exec) (hb : c.code = cc) {own tx : String} {index q : Nat} (hown : s.vm.findClass own = some m.cls) (hZ : vk_R own index tx q s) (hdg : decode cc pc = .ok (.ldc_w index, 3))
    (k : W p l e R s m args below meth c H locs cells slots Q (F0 m (pc + 3) ls (.ref q :: rest))) : W p l e R s m args below meth c H locs cells slots Q (F0 m pc ls rest) := by
  intro T hT X
  obtain ⟨t, a1, b1⟩ := k T hT X
  refine ⟨t, ?_, b1⟩
  obtain ⟨k0, cf, i, a', hk, hcf, hcp, -, hr, hev'⟩ := Cond.stringRef_spec (args := #[]) hown hZ.1
  cases hZ.2.symm.trans hev'
  obtain ⟨k', hk', he⟩ := X.warmed.alike.2.2 _ _ hk
  have hr' : k'.resolved[index]? = some (some (.string q)) := by
    rcases X.warmed.entry hk hk' index with h | ⟨h, -⟩
    · rw [h]; exact hr
    · rw [hr] at h; cases h
  jvm_step X.here [hexec, hb, hdg, Op.ldc_w.wp_string (e := e) (s := T) (f := F0 m pc ls rest) X.here.top hk' (by rw [he]; exact hcf) hcp hr']
  exact a1

theorem st_K_Lg_C_13r {cA : Nat → ClassId} {h : Nat → Nat} {σ : Sg} {L : Nat} {F : va_W} {v : Nat → Int32} : ((wK cA h σ ++ (wLg cA h σ L ++ (wC cA h σ ++ F)))).set 14 (h 13, .inl (cA 0, 7, .inl v)) = (wK cA h (upr σ 13 v) ++ (wLg cA h (upr σ 13 v) L ++ (wC cA h (upr σ 13 v) ++ F))) := rfl
theorem st_K_Lg_C_14r {cA : Nat → ClassId} {h : Nat → Nat} {σ : Sg} {L : Nat} {F : va_W} {v : Nat → Int32} : ((wK cA h σ ++ (wLg cA h σ L ++ (wC cA h σ ++ F)))).set 15 (h 14, .inl (cA 0, 7, .inl v)) = (wK cA h (upr σ 14 v) ++ (wLg cA h (upr σ 14 v) L ++ (wC cA h (upr σ 14 v) ++ F))) := rfl
theorem st_K_Lg_C_13 {cA : Nat → ClassId} {h : Nat → Nat} {σ : Sg} {L : Nat} {F : va_W} {i : Nat} {v : Int32} : ((wK cA h σ ++ (wLg cA h σ L ++ (wC cA h σ ++ F)))).set 14 (h 13, .inl (cA 0, 7, .inl (upd (σ 13) i v))) = (wK cA h (up σ 13 i v) ++ (wLg cA h (up σ 13 i v) L ++ (wC cA h (up σ 13 i v) ++ F))) := rfl
theorem st_K_Lg_C_14 {cA : Nat → ClassId} {h : Nat → Nat} {σ : Sg} {L : Nat} {F : va_W} {i : Nat} {v : Int32} : ((wK cA h σ ++ (wLg cA h σ L ++ (wC cA h σ ++ F)))).set 15 (h 14, .inl (cA 0, 7, .inl (upd (σ 14) i v))) = (wK cA h (up σ 14 i v) ++ (wLg cA h (up σ 14 i v) L ++ (wC cA h (up σ 14 i v) ++ F))) := rfl
theorem st_C_C2_13r {cA : Nat → ClassId} {h : Nat → Nat} {σ : Sg} {t : Nat → Nat} {τ : Sg} {F : va_W} {v : Nat → Int32} : ((wC cA h σ ++ (wC cA t τ ++ F))).set 2 (h 13, .inl (cA 0, 7, .inl v)) = (wC cA h (upr σ 13 v) ++ (wC cA t τ ++ F)) := rfl
theorem st_C_C2_14r {cA : Nat → ClassId} {h : Nat → Nat} {σ : Sg} {t : Nat → Nat} {τ : Sg} {F : va_W} {v : Nat → Int32} : ((wC cA h σ ++ (wC cA t τ ++ F))).set 3 (h 14, .inl (cA 0, 7, .inl v)) = (wC cA h (upr σ 14 v) ++ (wC cA t τ ++ F)) := rfl
theorem st_K_Lg_C_12 {cA : Nat → ClassId} {h : Nat → Nat} {σ : Sg} {L : Nat} {F : va_W} {v : Int32} : ((wK cA h σ ++ (wLg cA h σ L ++ (wC cA h σ ++ F)))).set 12 (h 42, .inr (1, ([.ref (h 43), .ref (h 40), .ref (h 30), .ref (h 44), .ref (h 41), .int (σ 12 0)] : List Value).set 5 (.int v))) = (wK cA h (up σ 12 0 v) ++ (wLg cA h (up σ 12 0 v) L ++ (wC cA h (up σ 12 0 v) ++ F))) := rfl
theorem st_K_Lg_C_30r {cA : Nat → ClassId} {h : Nat → Nat} {σ : Sg} {L : Nat} {F : va_W} {v : Nat → Int32} : ((wK cA h σ ++ (wLg cA h σ L ++ (wC cA h σ ++ F)))).set 31 (h 30, .inl (cA 0, 4, .inl v)) = (wK cA h (upr σ 30 v) ++ (wLg cA h (upr σ 30 v) L ++ (wC cA h (upr σ 30 v) ++ F))) := rfl
theorem st_K_Lg_C_15 {cA : Nat → ClassId} {h : Nat → Nat} {σ : Sg} {L : Nat} {F : va_W} {v : Int32} : ((wK cA h σ ++ (wLg cA h σ L ++ (wC cA h σ ++ F)))).set 16 (h 44, .inr (7, ([.ref (h 16), .ref (h 17), .ref (h 18), .ref (h 19), .ref (h 20), .ref (h 21), .ref (h 22), .ref (h 23), .ref (h 24), .ref (h 25), .ref (h 26), .ref (h 27), .ref (h 28), .ref (h 29), .int (σ 15 0)] : List Value).set 14 (.int v))) = (wK cA h (up σ 15 0 v) ++ (wLg cA h (up σ 15 0 v) L ++ (wC cA h (up σ 15 0 v) ++ F))) := rfl
theorem st_K_K2_0 {cA : Nat → ClassId} {h : Nat → Nat} {σ : Sg} {t : Nat → Nat} {τ : Sg} {F : va_W} {v : Int32} : ((wK cA h σ ++ (wK cA t τ ++ F))).set 0 (h 40, .inr (3, ([.ref (h 1), .ref (h 2), .ref (h 3), .ref (h 4), .ref (h 5), .ref (h 6), .int (σ 0 0)] : List Value).set 6 (.int v))) = (wK cA h (up σ 0 0 v) ++ (wK cA t τ ++ F)) := rfl
theorem st_K_K2_1 {cA : Nat → ClassId} {h : Nat → Nat} {σ : Sg} {t : Nat → Nat} {τ : Sg} {F : va_W} {i : Nat} {v : Int32} : ((wK cA h σ ++ (wK cA t τ ++ F))).set 1 (h 1, .inl (cA 0, 6, .inl (upd (σ 1) i v))) = (wK cA h (up σ 1 i v) ++ (wK cA t τ ++ F)) := rfl
theorem st_K_K2_2 {cA : Nat → ClassId} {h : Nat → Nat} {σ : Sg} {t : Nat → Nat} {τ : Sg} {F : va_W} {i : Nat} {v : Int32} : ((wK cA h σ ++ (wK cA t τ ++ F))).set 2 (h 2, .inl (cA 0, 6, .inl (upd (σ 2) i v))) = (wK cA h (up σ 2 i v) ++ (wK cA t τ ++ F)) := rfl
theorem st_K_K2_3 {cA : Nat → ClassId} {h : Nat → Nat} {σ : Sg} {t : Nat → Nat} {τ : Sg} {F : va_W} {i : Nat} {v : Int32} : ((wK cA h σ ++ (wK cA t τ ++ F))).set 3 (h 3, .inl (cA 0, 6, .inl (upd (σ 3) i v))) = (wK cA h (up σ 3 i v) ++ (wK cA t τ ++ F)) := rfl
theorem st_K_K2_4 {cA : Nat → ClassId} {h : Nat → Nat} {σ : Sg} {t : Nat → Nat} {τ : Sg} {F : va_W} {i : Nat} {v : Int32} : ((wK cA h σ ++ (wK cA t τ ++ F))).set 4 (h 4, .inl (cA 0, 6, .inl (upd (σ 4) i v))) = (wK cA h (up σ 4 i v) ++ (wK cA t τ ++ F)) := rfl
theorem st_K_K2_5 {cA : Nat → ClassId} {h : Nat → Nat} {σ : Sg} {t : Nat → Nat} {τ : Sg} {F : va_W} {i : Nat} {v : Int32} : ((wK cA h σ ++ (wK cA t τ ++ F))).set 5 (h 5, .inl (cA 0, 6, .inl (upd (σ 5) i v))) = (wK cA h (up σ 5 i v) ++ (wK cA t τ ++ F)) := rfl
theorem st_K_K2_6 {cA : Nat → ClassId} {h : Nat → Nat} {σ : Sg} {t : Nat → Nat} {τ : Sg} {F : va_W} {i : Nat} {v : Int32} : ((wK cA h σ ++ (wK cA t τ ++ F))).set 6 (h 6, .inl (cA 1, 6, .inl (upd (σ 6) i v))) = (wK cA h (up σ 6 i v) ++ (wK cA t τ ++ F)) := rfl
theorem st_C_C2_15 {cA : Nat → ClassId} {h : Nat → Nat} {σ : Sg} {t : Nat → Nat} {τ : Sg} {F : va_W} {v : Int32} : ((wC cA h σ ++ (wC cA t τ ++ F))).set 4 (h 44, .inr (7, ([.ref (h 16), .ref (h 17), .ref (h 18), .ref (h 19), .ref (h 20), .ref (h 21), .ref (h 22), .ref (h 23), .ref (h 24), .ref (h 25), .ref (h 26), .ref (h 27), .ref (h 28), .ref (h 29), .int (σ 15 0)] : List Value).set 14 (.int v))) = (wC cA h (up σ 15 0 v) ++ (wC cA t τ ++ F)) := rfl
theorem st_C_C2_16r {cA : Nat → ClassId} {h : Nat → Nat} {σ : Sg} {t : Nat → Nat} {τ : Sg} {F : va_W} {v : Nat → Int32} : ((wC cA h σ ++ (wC cA t τ ++ F))).set 5 (h 16, .inl (cA 0, 60, .inl v)) = (wC cA h (upr σ 16 v) ++ (wC cA t τ ++ F)) := rfl
theorem st_C_C2_17r {cA : Nat → ClassId} {h : Nat → Nat} {σ : Sg} {t : Nat → Nat} {τ : Sg} {F : va_W} {v : Nat → Int32} : ((wC cA h σ ++ (wC cA t τ ++ F))).set 6 (h 17, .inl (cA 0, 60, .inl v)) = (wC cA h (upr σ 17 v) ++ (wC cA t τ ++ F)) := rfl
theorem st_C_C2_18r {cA : Nat → ClassId} {h : Nat → Nat} {σ : Sg} {t : Nat → Nat} {τ : Sg} {F : va_W} {v : Nat → Int32} : ((wC cA h σ ++ (wC cA t τ ++ F))).set 7 (h 18, .inl (cA 0, 60, .inl v)) = (wC cA h (upr σ 18 v) ++ (wC cA t τ ++ F)) := rfl
theorem st_C_C2_19r {cA : Nat → ClassId} {h : Nat → Nat} {σ : Sg} {t : Nat → Nat} {τ : Sg} {F : va_W} {v : Nat → Int32} : ((wC cA h σ ++ (wC cA t τ ++ F))).set 8 (h 19, .inl (cA 0, 60, .inl v)) = (wC cA h (upr σ 19 v) ++ (wC cA t τ ++ F)) := rfl
theorem st_C_C2_20r {cA : Nat → ClassId} {h : Nat → Nat} {σ : Sg} {t : Nat → Nat} {τ : Sg} {F : va_W} {v : Nat → Int32} : ((wC cA h σ ++ (wC cA t τ ++ F))).set 9 (h 20, .inl (cA 0, 60, .inl v)) = (wC cA h (upr σ 20 v) ++ (wC cA t τ ++ F)) := rfl
theorem st_C_C2_21r {cA : Nat → ClassId} {h : Nat → Nat} {σ : Sg} {t : Nat → Nat} {τ : Sg} {F : va_W} {v : Nat → Int32} : ((wC cA h σ ++ (wC cA t τ ++ F))).set 10 (h 21, .inl (cA 0, 60, .inl v)) = (wC cA h (upr σ 21 v) ++ (wC cA t τ ++ F)) := rfl
theorem st_C_C2_22r {cA : Nat → ClassId} {h : Nat → Nat} {σ : Sg} {t : Nat → Nat} {τ : Sg} {F : va_W} {v : Nat → Int32} : ((wC cA h σ ++ (wC cA t τ ++ F))).set 11 (h 22, .inl (cA 0, 60, .inl v)) = (wC cA h (upr σ 22 v) ++ (wC cA t τ ++ F)) := rfl
theorem st_C_C2_23r {cA : Nat → ClassId} {h : Nat → Nat} {σ : Sg} {t : Nat → Nat} {τ : Sg} {F : va_W} {v : Nat → Int32} : ((wC cA h σ ++ (wC cA t τ ++ F))).set 12 (h 23, .inl (cA 0, 60, .inl v)) = (wC cA h (upr σ 23 v) ++ (wC cA t τ ++ F)) := rfl
theorem st_C_C2_24r {cA : Nat → ClassId} {h : Nat → Nat} {σ : Sg} {t : Nat → Nat} {τ : Sg} {F : va_W} {v : Nat → Int32} : ((wC cA h σ ++ (wC cA t τ ++ F))).set 13 (h 24, .inl (cA 0, 60, .inl v)) = (wC cA h (upr σ 24 v) ++ (wC cA t τ ++ F)) := rfl
theorem st_C_C2_25r {cA : Nat → ClassId} {h : Nat → Nat} {σ : Sg} {t : Nat → Nat} {τ : Sg} {F : va_W} {v : Nat → Int32} : ((wC cA h σ ++ (wC cA t τ ++ F))).set 14 (h 25, .inl (cA 0, 60, .inl v)) = (wC cA h (upr σ 25 v) ++ (wC cA t τ ++ F)) := rfl
theorem st_C_C2_26r {cA : Nat → ClassId} {h : Nat → Nat} {σ : Sg} {t : Nat → Nat} {τ : Sg} {F : va_W} {v : Nat → Int32} : ((wC cA h σ ++ (wC cA t τ ++ F))).set 15 (h 26, .inl (cA 0, 60, .inl v)) = (wC cA h (upr σ 26 v) ++ (wC cA t τ ++ F)) := rfl
theorem st_C_C2_27r {cA : Nat → ClassId} {h : Nat → Nat} {σ : Sg} {t : Nat → Nat} {τ : Sg} {F : va_W} {v : Nat → Int32} : ((wC cA h σ ++ (wC cA t τ ++ F))).set 16 (h 27, .inl (cA 0, 60, .inl v)) = (wC cA h (upr σ 27 v) ++ (wC cA t τ ++ F)) := rfl
theorem st_C_C2_28r {cA : Nat → ClassId} {h : Nat → Nat} {σ : Sg} {t : Nat → Nat} {τ : Sg} {F : va_W} {v : Nat → Int32} : ((wC cA h σ ++ (wC cA t τ ++ F))).set 17 (h 28, .inl (cA 0, 60, .inl v)) = (wC cA h (upr σ 28 v) ++ (wC cA t τ ++ F)) := rfl
theorem st_C_C2_29r {cA : Nat → ClassId} {h : Nat → Nat} {σ : Sg} {t : Nat → Nat} {τ : Sg} {F : va_W} {v : Nat → Int32} : ((wC cA h σ ++ (wC cA t τ ++ F))).set 18 (h 29, .inl (cA 0, 60, .inl v)) = (wC cA h (upr σ 29 v) ++ (wC cA t τ ++ F)) := rfl
theorem st_Lg_Lg2_7 {cA : Nat → ClassId} {h : Nat → Nat} {σ : Sg} {t : Nat → Nat} {τ : Sg} {L : Nat} {L2 : Nat} {F : va_W} {v : Int32} : ((wLg cA h σ L ++ (wLg cA t τ L2 ++ F))).set 0 (h 41, .inr (4, ([.ref (h 8), .ref (h 9), .ref (h 10), .ref (h 11), .int (σ 7 0)] : List Value).set 4 (.int v))) = (wLg cA h (up σ 7 0 v) L ++ (wLg cA t τ L2 ++ F)) := rfl
theorem st_Lg_Lg2_8r {cA : Nat → ClassId} {h : Nat → Nat} {σ : Sg} {t : Nat → Nat} {τ : Sg} {L : Nat} {L2 : Nat} {F : va_W} {v : Nat → Int32} : ((wLg cA h σ L ++ (wLg cA t τ L2 ++ F))).set 1 (h 8, .inl (cA 0, L, .inl v)) = (wLg cA h (upr σ 8 v) L ++ (wLg cA t τ L2 ++ F)) := rfl
theorem st_Lg_Lg2_9r {cA : Nat → ClassId} {h : Nat → Nat} {σ : Sg} {t : Nat → Nat} {τ : Sg} {L : Nat} {L2 : Nat} {F : va_W} {v : Nat → Int32} : ((wLg cA h σ L ++ (wLg cA t τ L2 ++ F))).set 2 (h 9, .inl (cA 0, L, .inl v)) = (wLg cA h (upr σ 9 v) L ++ (wLg cA t τ L2 ++ F)) := rfl
theorem st_Lg_Lg2_10r {cA : Nat → ClassId} {h : Nat → Nat} {σ : Sg} {t : Nat → Nat} {τ : Sg} {L : Nat} {L2 : Nat} {F : va_W} {v : Nat → Int32} : ((wLg cA h σ L ++ (wLg cA t τ L2 ++ F))).set 3 (h 10, .inl (cA 0, L, .inl v)) = (wLg cA h (upr σ 10 v) L ++ (wLg cA t τ L2 ++ F)) := rfl
theorem st_Lg_Lg2_11r {cA : Nat → ClassId} {h : Nat → Nat} {σ : Sg} {t : Nat → Nat} {τ : Sg} {L : Nat} {L2 : Nat} {F : va_W} {v : Nat → Int32} : ((wLg cA h σ L ++ (wLg cA t τ L2 ++ F))).set 4 (h 11, .inl (cA 0, L, .inl v)) = (wLg cA h (upr σ 11 v) L ++ (wLg cA t τ L2 ++ F)) := rfl
theorem st_K_Lg_C_K2_Lg2_C2_12 {cA : Nat → ClassId} {h : Nat → Nat} {σ : Sg} {t : Nat → Nat} {τ : Sg} {L : Nat} {L2 : Nat} {F : va_W} {v : Int32} : ((wK cA h σ ++ (wLg cA h σ L ++ (wC cA h σ ++ (wK cA t τ ++ (wLg cA t τ L2 ++ (wC cA t τ ++ F))))))).set 12 (h 42, .inr (1, ([.ref (h 43), .ref (h 40), .ref (h 30), .ref (h 44), .ref (h 41), .int (σ 12 0)] : List Value).set 5 (.int v))) = (wK cA h (up σ 12 0 v) ++ (wLg cA h (up σ 12 0 v) L ++ (wC cA h (up σ 12 0 v) ++ (wK cA t τ ++ (wLg cA t τ L2 ++ (wC cA t τ ++ F)))))) := rfl
theorem st_K_K2_C_C2_Lg_Lg2_30r {cA : Nat → ClassId} {h : Nat → Nat} {σ : Sg} {t : Nat → Nat} {τ : Sg} {L : Nat} {L2 : Nat} {F : va_W} {v : Nat → Int32} : ((wK cA h σ ++ (wK cA t τ ++ (wC cA h σ ++ (wC cA t τ ++ (wLg cA h σ L ++ (wLg cA t τ L2 ++ F))))))).set 33 (h 30, .inl (cA 0, 4, .inl v)) = (wK cA h (upr σ 30 v) ++ (wK cA t τ ++ (wC cA h (upr σ 30 v) ++ (wC cA t τ ++ (wLg cA h (upr σ 30 v) L ++ (wLg cA t τ L2 ++ F)))))) := rfl
theorem st_K_Lg_C_30 {cA : Nat → ClassId} {h : Nat → Nat} {σ : Sg} {L : Nat} {F : va_W} {i : Nat} {v : Int32} : ((wK cA h σ ++ (wLg cA h σ L ++ (wC cA h σ ++ F)))).set 31 (h 30, .inl (cA 0, 4, .inl (upd (σ 30) i v))) = (wK cA h (up σ 30 i v) ++ (wLg cA h (up σ 30 i v) L ++ (wC cA h (up σ 30 i v) ++ F))) := rfl
theorem st_K_Lg_C_21 {cA : Nat → ClassId} {h : Nat → Nat} {σ : Sg} {L : Nat} {F : va_W} {i : Nat} {v : Int32} : ((wK cA h σ ++ (wLg cA h σ L ++ (wC cA h σ ++ F)))).set 22 (h 21, .inl (cA 0, 60, .inl (upd (σ 21) i v))) = (wK cA h (up σ 21 i v) ++ (wLg cA h (up σ 21 i v) L ++ (wC cA h (up σ 21 i v) ++ F))) := rfl
theorem st_K_Lg_C_16 {cA : Nat → ClassId} {h : Nat → Nat} {σ : Sg} {L : Nat} {F : va_W} {i : Nat} {v : Int32} : ((wK cA h σ ++ (wLg cA h σ L ++ (wC cA h σ ++ F)))).set 17 (h 16, .inl (cA 0, 60, .inl (upd (σ 16) i v))) = (wK cA h (up σ 16 i v) ++ (wLg cA h (up σ 16 i v) L ++ (wC cA h (up σ 16 i v) ++ F))) := rfl
theorem st_K_Lg_C_17 {cA : Nat → ClassId} {h : Nat → Nat} {σ : Sg} {L : Nat} {F : va_W} {i : Nat} {v : Int32} : ((wK cA h σ ++ (wLg cA h σ L ++ (wC cA h σ ++ F)))).set 18 (h 17, .inl (cA 0, 60, .inl (upd (σ 17) i v))) = (wK cA h (up σ 17 i v) ++ (wLg cA h (up σ 17 i v) L ++ (wC cA h (up σ 17 i v) ++ F))) := rfl
theorem st_K_Lg_C_18 {cA : Nat → ClassId} {h : Nat → Nat} {σ : Sg} {L : Nat} {F : va_W} {i : Nat} {v : Int32} : ((wK cA h σ ++ (wLg cA h σ L ++ (wC cA h σ ++ F)))).set 19 (h 18, .inl (cA 0, 60, .inl (upd (σ 18) i v))) = (wK cA h (up σ 18 i v) ++ (wLg cA h (up σ 18 i v) L ++ (wC cA h (up σ 18 i v) ++ F))) := rfl
theorem st_K_Lg_C_19 {cA : Nat → ClassId} {h : Nat → Nat} {σ : Sg} {L : Nat} {F : va_W} {i : Nat} {v : Int32} : ((wK cA h σ ++ (wLg cA h σ L ++ (wC cA h σ ++ F)))).set 20 (h 19, .inl (cA 0, 60, .inl (upd (σ 19) i v))) = (wK cA h (up σ 19 i v) ++ (wLg cA h (up σ 19 i v) L ++ (wC cA h (up σ 19 i v) ++ F))) := rfl
theorem st_K_Lg_C_20 {cA : Nat → ClassId} {h : Nat → Nat} {σ : Sg} {L : Nat} {F : va_W} {i : Nat} {v : Int32} : ((wK cA h σ ++ (wLg cA h σ L ++ (wC cA h σ ++ F)))).set 21 (h 20, .inl (cA 0, 60, .inl (upd (σ 20) i v))) = (wK cA h (up σ 20 i v) ++ (wLg cA h (up σ 20 i v) L ++ (wC cA h (up σ 20 i v) ++ F))) := rfl
theorem st_K_Lg_C_22 {cA : Nat → ClassId} {h : Nat → Nat} {σ : Sg} {L : Nat} {F : va_W} {i : Nat} {v : Int32} : ((wK cA h σ ++ (wLg cA h σ L ++ (wC cA h σ ++ F)))).set 23 (h 22, .inl (cA 0, 60, .inl (upd (σ 22) i v))) = (wK cA h (up σ 22 i v) ++ (wLg cA h (up σ 22 i v) L ++ (wC cA h (up σ 22 i v) ++ F))) := rfl
theorem st_K_Lg_C_23 {cA : Nat → ClassId} {h : Nat → Nat} {σ : Sg} {L : Nat} {F : va_W} {i : Nat} {v : Int32} : ((wK cA h σ ++ (wLg cA h σ L ++ (wC cA h σ ++ F)))).set 24 (h 23, .inl (cA 0, 60, .inl (upd (σ 23) i v))) = (wK cA h (up σ 23 i v) ++ (wLg cA h (up σ 23 i v) L ++ (wC cA h (up σ 23 i v) ++ F))) := rfl
theorem st_K_Lg_C_24 {cA : Nat → ClassId} {h : Nat → Nat} {σ : Sg} {L : Nat} {F : va_W} {i : Nat} {v : Int32} : ((wK cA h σ ++ (wLg cA h σ L ++ (wC cA h σ ++ F)))).set 25 (h 24, .inl (cA 0, 60, .inl (upd (σ 24) i v))) = (wK cA h (up σ 24 i v) ++ (wLg cA h (up σ 24 i v) L ++ (wC cA h (up σ 24 i v) ++ F))) := rfl
theorem st_K_Lg_C_25 {cA : Nat → ClassId} {h : Nat → Nat} {σ : Sg} {L : Nat} {F : va_W} {i : Nat} {v : Int32} : ((wK cA h σ ++ (wLg cA h σ L ++ (wC cA h σ ++ F)))).set 26 (h 25, .inl (cA 0, 60, .inl (upd (σ 25) i v))) = (wK cA h (up σ 25 i v) ++ (wLg cA h (up σ 25 i v) L ++ (wC cA h (up σ 25 i v) ++ F))) := rfl
theorem st_K_Lg_C_26 {cA : Nat → ClassId} {h : Nat → Nat} {σ : Sg} {L : Nat} {F : va_W} {i : Nat} {v : Int32} : ((wK cA h σ ++ (wLg cA h σ L ++ (wC cA h σ ++ F)))).set 27 (h 26, .inl (cA 0, 60, .inl (upd (σ 26) i v))) = (wK cA h (up σ 26 i v) ++ (wLg cA h (up σ 26 i v) L ++ (wC cA h (up σ 26 i v) ++ F))) := rfl
theorem st_K_Lg_C_27 {cA : Nat → ClassId} {h : Nat → Nat} {σ : Sg} {L : Nat} {F : va_W} {i : Nat} {v : Int32} : ((wK cA h σ ++ (wLg cA h σ L ++ (wC cA h σ ++ F)))).set 28 (h 27, .inl (cA 0, 60, .inl (upd (σ 27) i v))) = (wK cA h (up σ 27 i v) ++ (wLg cA h (up σ 27 i v) L ++ (wC cA h (up σ 27 i v) ++ F))) := rfl
theorem st_K_Lg_C_28 {cA : Nat → ClassId} {h : Nat → Nat} {σ : Sg} {L : Nat} {F : va_W} {i : Nat} {v : Int32} : ((wK cA h σ ++ (wLg cA h σ L ++ (wC cA h σ ++ F)))).set 29 (h 28, .inl (cA 0, 60, .inl (upd (σ 28) i v))) = (wK cA h (up σ 28 i v) ++ (wLg cA h (up σ 28 i v) L ++ (wC cA h (up σ 28 i v) ++ F))) := rfl
theorem st_K_Lg_C_29 {cA : Nat → ClassId} {h : Nat → Nat} {σ : Sg} {L : Nat} {F : va_W} {i : Nat} {v : Int32} : ((wK cA h σ ++ (wLg cA h σ L ++ (wC cA h σ ++ F)))).set 30 (h 29, .inl (cA 0, 60, .inl (upd (σ 29) i v))) = (wK cA h (up σ 29 i v) ++ (wLg cA h (up σ 29 i v) L ++ (wC cA h (up σ 29 i v) ++ F))) := rfl
theorem st_K_Lg_C_8 {cA : Nat → ClassId} {h : Nat → Nat} {σ : Sg} {L : Nat} {F : va_W} {i : Nat} {v : Int32} : ((wK cA h σ ++ (wLg cA h σ L ++ (wC cA h σ ++ F)))).set 8 (h 8, .inl (cA 0, L, .inl (upd (σ 8) i v))) = (wK cA h (up σ 8 i v) ++ (wLg cA h (up σ 8 i v) L ++ (wC cA h (up σ 8 i v) ++ F))) := rfl
theorem st_K_Lg_C_9 {cA : Nat → ClassId} {h : Nat → Nat} {σ : Sg} {L : Nat} {F : va_W} {i : Nat} {v : Int32} : ((wK cA h σ ++ (wLg cA h σ L ++ (wC cA h σ ++ F)))).set 9 (h 9, .inl (cA 0, L, .inl (upd (σ 9) i v))) = (wK cA h (up σ 9 i v) ++ (wLg cA h (up σ 9 i v) L ++ (wC cA h (up σ 9 i v) ++ F))) := rfl
theorem st_K_Lg_C_10 {cA : Nat → ClassId} {h : Nat → Nat} {σ : Sg} {L : Nat} {F : va_W} {i : Nat} {v : Int32} : ((wK cA h σ ++ (wLg cA h σ L ++ (wC cA h σ ++ F)))).set 10 (h 10, .inl (cA 0, L, .inl (upd (σ 10) i v))) = (wK cA h (up σ 10 i v) ++ (wLg cA h (up σ 10 i v) L ++ (wC cA h (up σ 10 i v) ++ F))) := rfl
theorem st_K_Lg_C_11 {cA : Nat → ClassId} {h : Nat → Nat} {σ : Sg} {L : Nat} {F : va_W} {i : Nat} {v : Int32} : ((wK cA h σ ++ (wLg cA h σ L ++ (wC cA h σ ++ F)))).set 11 (h 11, .inl (cA 0, L, .inl (upd (σ 11) i v))) = (wK cA h (up σ 11 i v) ++ (wLg cA h (up σ 11 i v) L ++ (wC cA h (up σ 11 i v) ++ F))) := rfl
theorem st_K_Lg_C_7 {cA : Nat → ClassId} {h : Nat → Nat} {σ : Sg} {L : Nat} {F : va_W} {v : Int32} : ((wK cA h σ ++ (wLg cA h σ L ++ (wC cA h σ ++ F)))).set 7 (h 41, .inr (4, ([.ref (h 8), .ref (h 9), .ref (h 10), .ref (h 11), .int (σ 7 0)] : List Value).set 4 (.int v))) = (wK cA h (up σ 7 0 v) ++ (wLg cA h (up σ 7 0 v) L ++ (wC cA h (up σ 7 0 v) ++ F))) := rfl
theorem st_K_Lg_C_1 {cA : Nat → ClassId} {h : Nat → Nat} {σ : Sg} {L : Nat} {F : va_W} {i : Nat} {v : Int32} : ((wK cA h σ ++ (wLg cA h σ L ++ (wC cA h σ ++ F)))).set 1 (h 1, .inl (cA 0, 6, .inl (upd (σ 1) i v))) = (wK cA h (up σ 1 i v) ++ (wLg cA h (up σ 1 i v) L ++ (wC cA h (up σ 1 i v) ++ F))) := rfl
theorem st_K_Lg_C_2 {cA : Nat → ClassId} {h : Nat → Nat} {σ : Sg} {L : Nat} {F : va_W} {i : Nat} {v : Int32} : ((wK cA h σ ++ (wLg cA h σ L ++ (wC cA h σ ++ F)))).set 2 (h 2, .inl (cA 0, 6, .inl (upd (σ 2) i v))) = (wK cA h (up σ 2 i v) ++ (wLg cA h (up σ 2 i v) L ++ (wC cA h (up σ 2 i v) ++ F))) := rfl
theorem st_K_Lg_C_3 {cA : Nat → ClassId} {h : Nat → Nat} {σ : Sg} {L : Nat} {F : va_W} {i : Nat} {v : Int32} : ((wK cA h σ ++ (wLg cA h σ L ++ (wC cA h σ ++ F)))).set 3 (h 3, .inl (cA 0, 6, .inl (upd (σ 3) i v))) = (wK cA h (up σ 3 i v) ++ (wLg cA h (up σ 3 i v) L ++ (wC cA h (up σ 3 i v) ++ F))) := rfl
theorem st_K_Lg_C_4 {cA : Nat → ClassId} {h : Nat → Nat} {σ : Sg} {L : Nat} {F : va_W} {i : Nat} {v : Int32} : ((wK cA h σ ++ (wLg cA h σ L ++ (wC cA h σ ++ F)))).set 4 (h 4, .inl (cA 0, 6, .inl (upd (σ 4) i v))) = (wK cA h (up σ 4 i v) ++ (wLg cA h (up σ 4 i v) L ++ (wC cA h (up σ 4 i v) ++ F))) := rfl
theorem st_K_Lg_C_5 {cA : Nat → ClassId} {h : Nat → Nat} {σ : Sg} {L : Nat} {F : va_W} {i : Nat} {v : Int32} : ((wK cA h σ ++ (wLg cA h σ L ++ (wC cA h σ ++ F)))).set 5 (h 5, .inl (cA 0, 6, .inl (upd (σ 5) i v))) = (wK cA h (up σ 5 i v) ++ (wLg cA h (up σ 5 i v) L ++ (wC cA h (up σ 5 i v) ++ F))) := rfl
theorem st_K_Lg_C_6 {cA : Nat → ClassId} {h : Nat → Nat} {σ : Sg} {L : Nat} {F : va_W} {i : Nat} {v : Int32} : ((wK cA h σ ++ (wLg cA h σ L ++ (wC cA h σ ++ F)))).set 6 (h 6, .inl (cA 1, 6, .inl (upd (σ 6) i v))) = (wK cA h (up σ 6 i v) ++ (wLg cA h (up σ 6 i v) L ++ (wC cA h (up σ 6 i v) ++ F))) := rfl
theorem st_K_Lg_C_0 {cA : Nat → ClassId} {h : Nat → Nat} {σ : Sg} {L : Nat} {F : va_W} {v : Int32} : ((wK cA h σ ++ (wLg cA h σ L ++ (wC cA h σ ++ F)))).set 0 (h 40, .inr (3, ([.ref (h 1), .ref (h 2), .ref (h 3), .ref (h 4), .ref (h 5), .ref (h 6), .int (σ 0 0)] : List Value).set 6 (.int v))) = (wK cA h (up σ 0 0 v) ++ (wLg cA h (up σ 0 0 v) L ++ (wC cA h (up σ 0 0 v) ++ F))) := rfl
theorem st_H_32 {cA : Nat → ClassId} {h : Nat → Nat} {σ : Sg} {F : va_W} {i : Nat} {v : Int32} : ((wH cA h σ ++ F)).set 1 (h 32, .inl (cA 0, 200, .inl (upd (σ 32) i v))) = (wH cA h (up σ 32 i v) ++ F) := rfl
theorem st_H_33 {cA : Nat → ClassId} {h : Nat → Nat} {σ : Sg} {F : va_W} {i : Nat} {v : Int32} : ((wH cA h σ ++ F)).set 2 (h 33, .inl (cA 0, 200, .inl (upd (σ 33) i v))) = (wH cA h (up σ 33 i v) ++ F) := rfl
theorem st_H_34 {cA : Nat → ClassId} {h : Nat → Nat} {σ : Sg} {F : va_W} {i : Nat} {v : Int32} : ((wH cA h σ ++ F)).set 3 (h 34, .inl (cA 0, 200, .inl (upd (σ 34) i v))) = (wH cA h (up σ 34 i v) ++ F) := rfl
theorem st_H_35 {cA : Nat → ClassId} {h : Nat → Nat} {σ : Sg} {F : va_W} {i : Nat} {v : Int32} : ((wH cA h σ ++ F)).set 4 (h 35, .inl (cA 0, 200, .inl (upd (σ 35) i v))) = (wH cA h (up σ 35 i v) ++ F) := rfl
theorem st_H_36 {cA : Nat → ClassId} {h : Nat → Nat} {σ : Sg} {F : va_W} {i : Nat} {v : Int32} : ((wH cA h σ ++ F)).set 5 (h 36, .inl (cA 0, 200, .inl (upd (σ 36) i v))) = (wH cA h (up σ 36 i v) ++ F) := rfl
theorem st_H_37 {cA : Nat → ClassId} {h : Nat → Nat} {σ : Sg} {F : va_W} {i : Nat} {v : Int32} : ((wH cA h σ ++ F)).set 6 (h 37, .inl (cA 0, 200, .inl (upd (σ 37) i v))) = (wH cA h (up σ 37 i v) ++ F) := rfl
theorem st_H_31 {cA : Nat → ClassId} {h : Nat → Nat} {σ : Sg} {F : va_W} {v : Int32} : ((wH cA h σ ++ F)).set 0 (h 45, .inr (2, ([.ref (h 32), .ref (h 33), .ref (h 34), .ref (h 35), .ref (h 36), .ref (h 37), .int (σ 31 0)] : List Value).set 6 (.int v))) = (wH cA h (up σ 31 0 v) ++ F) := rfl
theorem st_H_H2_31 {cA : Nat → ClassId} {h : Nat → Nat} {σ : Sg} {t : Nat → Nat} {τ : Sg} {F : va_W} {v : Int32} : ((wH cA h σ ++ (wH cA t τ ++ F))).set 0 (h 45, .inr (2, ([.ref (h 32), .ref (h 33), .ref (h 34), .ref (h 35), .ref (h 36), .ref (h 37), .int (σ 31 0)] : List Value).set 6 (.int v))) = (wH cA h (up σ 31 0 v) ++ (wH cA t τ ++ F)) := rfl
theorem st_H_H2_32r {cA : Nat → ClassId} {h : Nat → Nat} {σ : Sg} {t : Nat → Nat} {τ : Sg} {F : va_W} {v : Nat → Int32} : ((wH cA h σ ++ (wH cA t τ ++ F))).set 1 (h 32, .inl (cA 0, 200, .inl v)) = (wH cA h (upr σ 32 v) ++ (wH cA t τ ++ F)) := rfl
theorem st_H_H2_33r {cA : Nat → ClassId} {h : Nat → Nat} {σ : Sg} {t : Nat → Nat} {τ : Sg} {F : va_W} {v : Nat → Int32} : ((wH cA h σ ++ (wH cA t τ ++ F))).set 2 (h 33, .inl (cA 0, 200, .inl v)) = (wH cA h (upr σ 33 v) ++ (wH cA t τ ++ F)) := rfl
theorem st_H_H2_34r {cA : Nat → ClassId} {h : Nat → Nat} {σ : Sg} {t : Nat → Nat} {τ : Sg} {F : va_W} {v : Nat → Int32} : ((wH cA h σ ++ (wH cA t τ ++ F))).set 3 (h 34, .inl (cA 0, 200, .inl v)) = (wH cA h (upr σ 34 v) ++ (wH cA t τ ++ F)) := rfl
theorem st_H_H2_35r {cA : Nat → ClassId} {h : Nat → Nat} {σ : Sg} {t : Nat → Nat} {τ : Sg} {F : va_W} {v : Nat → Int32} : ((wH cA h σ ++ (wH cA t τ ++ F))).set 4 (h 35, .inl (cA 0, 200, .inl v)) = (wH cA h (upr σ 35 v) ++ (wH cA t τ ++ F)) := rfl
theorem st_H_H2_36r {cA : Nat → ClassId} {h : Nat → Nat} {σ : Sg} {t : Nat → Nat} {τ : Sg} {F : va_W} {v : Nat → Int32} : ((wH cA h σ ++ (wH cA t τ ++ F))).set 5 (h 36, .inl (cA 0, 200, .inl v)) = (wH cA h (upr σ 36 v) ++ (wH cA t τ ++ F)) := rfl
theorem st_H_H2_37r {cA : Nat → ClassId} {h : Nat → Nat} {σ : Sg} {t : Nat → Nat} {τ : Sg} {F : va_W} {v : Nat → Int32} : ((wH cA h σ ++ (wH cA t τ ++ F))).set 6 (h 37, .inl (cA 0, 200, .inl v)) = (wH cA h (upr σ 37 v) ++ (wH cA t τ ++ F)) := rfl
