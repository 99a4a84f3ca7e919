/-! the law, from its entry -/
set_option maxHeartbeats 4000000 in
/-- YOUR PART: from the entry, for every script of at most 3584 ints, the law comes to its end with true ('hflags': the launch's flags, for a law that throws: no stack traces) -/
theorem whole_start {p : Program} {e : Env} {s : State} {m : MethodId} {below : List Frame} {meth : Method} {c : Code} (l : Launch) (hflags : l.flags = flags0) {b L : Nat} {xs : Nat → Int32} (hL : L ≤ 3584) (C0 : lw_At p s m meth c b L xs) : W p l e room_1 s m #[Value.ref b] below meth c s.heap [] 0 0 (lw_Z below #[Value.ref b] s) (entryFrame m ([Value.ref b] : List Value).toArray 4) := by
  obtain ⟨hx, hb, hr, hml, hown, hts, hX, hbl, hlocks, hgv⟩ := id C0
  obtain ⟨D, cA, tS, hF, hKA⟩ := start_fx (A := fun q : Nat => s.heap.size ≤ q) (flat_of_before _ hgv) hts (fun a ha => Nat.not_le.mpr ha)
  have E : Ev p cL_law 4 ret RL lw_tbl D cA tS (fun q : Nat => s.heap.size ≤ q) s m #[Value.ref b] meth c := ⟨⟨hx, hb, hml, hown, hts⟩, hr, hlocks, fun _ h => h, hF⟩
  obtain ⟨s0, hs0, X⟩ := L_start (cA := cA)
  have hw : Wd D (fun q : Nat => s.heap.size ≤ q) [] s.heap s.heap [] := ⟨fun k q h => by simp at h, ⟨fun i j p q h => by simp at h, fun k q h => by simp at h⟩, va_S.rf⟩
  have hl := lv_entry ([.ref b]) (n := 4) (Nat.le_of_ble_eq_true rfl)
  rw [lg_entry_eq]
  generalize (lg_sl ([.ref b]) ++ List.replicate (4 - (lg_sl ([.ref b])).length) Slot.unset).toArray = ls at hl ⊢
  replace hl : lv_has ls 4 [(0, .ref b)] := hl
  refine q_new (C := RX8) (T := TX8) (N := 4) (ci := 8) E (fun w h => bw_in (inX8 w h)) tyX8 tyX8_ok hw rfl (fs := [.null, .null, .null, .null]) (fun j hj => by
      have : j = 0 ∨ j = 1 ∨ j = 2 ∨ j = 3 := by omega
      rcases this with rfl | rfl | rfl | rfl <;> rfl) (bw_in tb_117) (bw_in tb_118) (bw_in tb_99) (Nat.le_of_ble_eq_true rfl) (Nat.le_of_ble_eq_true rfl) dL_law_0 (fun ax H hw => ?_)
  refine lv_dup hx hb dL_law_3 rfl ?_
  refine q_ctor (As := []) E hKA hw hl (c_X8_init l D cA tS (fun q : Nat => s.heap.size ≤ q) ax []) 0 (bwc bw_l tb_121) rfl (bw_in tb_99) (bw_in tb_119) (bw_in tb_120) rfl (by decide +kernel) ⟨(Nat.le_of_ble_eq_true rfl), (Nat.le_of_ble_eq_true rfl)⟩ rfl rfl (Nat.le_of_ble_eq_true rfl) ⟨(Nat.le_of_ble_eq_true rfl), (Nat.le_of_ble_eq_true rfl)⟩ dL_law_4 (fun H locs w0 hp hw => ?_)
  obtain ⟨h, t, z, sv, rfl⟩ := hp
  refine lv_astore_n (lv' := [(1, .ref ax), (0, .ref b)]) hx hb dL_law_7 rfl hl (by decide) rfl (fun ls hl => ?_)
  refine q_new (C := RX9) (T := TX9) (N := 17) (ci := 9) E (fun w h => bw_in (inX9 w h)) tyX9 tyX9_ok hw rfl (fs := [.null, .null, .null, .null, .null, .int 0, .int 0, .int 0, .int 0, .int 0, .int 0, .int 0, .int 0, .int 0, .long 0, .null, .int 0]) (fun j hj => by
      have : j = 0 ∨ j = 1 ∨ j = 2 ∨ j = 3 ∨ j = 4 ∨ j = 5 ∨ j = 6 ∨ j = 7 ∨ j = 8 ∨ j = 9 ∨ j = 10 ∨ j = 11 ∨ j = 12 ∨ j = 13 ∨ j = 14 ∨ j = 15 ∨ j = 16 := by omega
      rcases this with rfl | rfl | rfl | rfl | rfl | rfl | rfl | rfl | rfl | rfl | rfl | rfl | rfl | rfl | rfl | rfl | rfl <;> rfl) (bw_in tb_1135) (bw_in tb_1136) (bw_in tb_111) (Nat.le_of_ble_eq_true rfl) (Nat.le_of_ble_eq_true rfl) dL_law_8 (fun my H hw => ?_)
  refine lv_dup hx hb dL_law_11 rfl ?_
  refine q_ctor (As := []) E hKA hw hl (c_X9_init l D cA tS (fun q : Nat => s.heap.size ≤ q) my s0 hs0 _) 0 (bwc bw_l tb_1139) rfl (bw_in tb_111) (bw_in tb_1137) (bw_in tb_1138) rfl (by decide +kernel) ⟨(Nat.le_of_ble_eq_true rfl), (Nat.le_of_ble_eq_true rfl)⟩ rfl rfl (Nat.le_of_ble_eq_true rfl) ⟨(Nat.le_of_ble_eq_true rfl), (Nat.le_of_ble_eq_true rfl)⟩ dL_law_12 (fun H locs w0 hp hw => ?_)
  obtain ⟨y, rfl, rfl⟩ := hp
  refine lv_astore_n (lv' := [(2, .ref (y 0)), (1, .ref ax), (0, .ref b)]) hx hb dL_law_15 rfl hl (by decide) rfl (fun ls hl => ?_)
  refine lv_iconst (v := 0) hx hb dL_law_16 (by decide) ?_
  refine lv_istore_n (lv' := [(3, .int (nI (7 * 0))), (2, .ref (y 0)), (1, .ref ax), (0, .ref b)]) hx hb dL_law_17 rfl hl (by decide) rfl (fun ls hl => ?_)
  rw [← wP_app] at hw
  replace hw : Wd D (fun q : Nat => s.heap.size ≤ q) (wQ cA h t z y ax sv sBg sBg kZ s0 0 (fun _ => none) [] []) s.heap H locs := hw.perm (pmS _ _ _)
  refine W.widen (k := 126 + 40 * 0) (n := 25381 + 4540 * 0) (Nat.le_of_ble_eq_true rfl) (Nat.le_of_ble_eq_true rfl) ?_
  exact law_loop l E hKA hX hbl hL (L + 1) 0 (by omega) (by omega) sBg sBg kZ s0 0 (fun _ => none) [] [] H locs X hw ls hl
