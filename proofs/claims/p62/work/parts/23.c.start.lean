/-! the law, from its entry -/
set_option maxHeartbeats 4000000 in
set_option maxRecDepth 100000 in
/-- YOUR PART: from the entry, for every script of at most 260 ints, the law comes to its end with true ('hflags': the launch's flags, for a law that throws: no stack traces) -/
theorem whole_start {p : Program} {e : Env} {s : State} {m : MethodId} {below : List Frame} {meth : Method} {c : Code} (l : Launch) (hflags : l.flags = flags0) {b L : Nat} {xs : Nat → Int32} (hL : L ≤ 260) (C0 : lw_At p s m meth c b L xs) : W p l e room_1 s m #[Value.ref b] below meth c s.heap [] 0 0 (lw_Z below #[Value.ref b] s) (entryFrame m ([Value.ref b] : List Value).toArray 1) := by
  obtain ⟨hx, hb, hr, hml, hown, hts, hX, hbl, hlocks, hgv⟩ := id C0
  obtain ⟨D, cA, tS, hF, hKA, e4, e5⟩ := start_fx (A := fun q : Nat => s.heap.size ≤ q) (flat_of_before _ hgv) hts (fun a ha => Nat.not_le.mpr ha) hX hbl
  have hLS : tS 5 ≤ 260 := by rw [e5]; exact hL
  have E : Ev p cL_law 1 ret RL lw_tbl D cA tS (fun q : Nat => s.heap.size ≤ q) s m #[Value.ref b] meth c := ⟨⟨hx, hb, hml, hown, hts⟩, hr, hlocks, fun _ h => h, hF⟩
  have hw : Wd D (fun q : Nat => s.heap.size ≤ q) [] s.heap s.heap [] := ⟨fun k q h => by simp at h, ⟨fun i j p q h => by simp at h, fun k q h => by simp at h⟩, va_S.rf⟩
  have hl := lv_entry ([.ref b]) (n := 1) (Nat.le_of_ble_eq_true rfl)
  rw [lg_entry_eq]
  generalize (lg_sl ([.ref b]) ++ List.replicate (1 - (lg_sl ([.ref b])).length) Slot.unset).toArray = ls at hl ⊢
  replace hl : lv_has ls 1 [(0, .ref b)] := hl
  subst e4
  refine q_new (C := RL) (T := TL) (N := 4) (ci := 10) E (fun w h => bw_in (inL w h)) tyL tyL_ok hw rfl (fs := [.null, .null, .int 0, .null]) (fun j hj => by
      have : j = 0 ∨ j = 1 ∨ j = 2 ∨ j = 3 := by omega
      rcases this with rfl | rfl | rfl | rfl <;> rfl) (bw_in tb_66) (bw_in tb_67) (bw_in tb_46) (Nat.le_of_ble_eq_true rfl) (Nat.le_of_ble_eq_true rfl) dL_law_0 (fun a H hw => ?_)
  refine lv_dup hx hb dL_law_3 rfl ?_
  refine q_ctor (As := []) E hKA hw hl (c_L_init l D cA tS (fun q : Nat => s.heap.size ≤ q) a []) 0 (bwc bw_l tb_70) rfl (bw_in tb_46) (bw_in tb_68) (bw_in tb_69) rfl (by decide +kernel) ⟨(Nat.le_of_ble_eq_true rfl), (Nat.le_of_ble_eq_true rfl)⟩ rfl rfl (Nat.le_of_ble_eq_true rfl) ⟨(Nat.le_of_ble_eq_true rfl), (Nat.le_of_ble_eq_true rfl)⟩ dL_law_4 (fun H locs w0 hp hw => ?_)
  obtain ⟨h, t, z, sv, ax, kl, rfl⟩ := hp
  refine lv_aload_n hx hb dL_law_7 rfl (lv_at hl 0 rfl) ?_
  have hC := c_L_holds l D cA tS (fun q : Nat => s.heap.size ≤ q) a [] h t z sv ax kl hLS
  generalize hWW : w6 cA h sBg ax sv (t 42) (z 60) _ = WW at hw hC
  refine q_cvX (As := [.ref (tS 4)]) (rest := []) E hKA hw hl hC 1 (bwV bw_l tb_425 tb_427 tb_0 tb_46 tb_428) rfl (by decide +kernel) ⟨(Nat.le_of_ble_eq_true rfl), (Nat.le_of_ble_eq_true rfl)⟩ 0 10 (T := TL) (N := 4) rfl rfl rfl rfl (Nat.le_of_ble_eq_true rfl) ⟨(Nat.le_of_ble_eq_true rfl), (Nat.le_of_ble_eq_true rfl)⟩ dL_law_8 (fun H locs w0 hp hw => ?_)
  refine va_forget (fun q hq => hw.2.2.2.2 q hq) ?_
  refine W.widen (k := 600000) (n := 7302250) (Nat.le_of_ble_eq_true rfl) (Nat.le_of_ble_eq_true rfl) ?_
  exact lw_ret hx hb E.2.1 E.2.2.1 dL_law_11
