/-! p62 by hand: rows for the law's own calls -/
theorem cnt_perm {α : Type} {a b : List α} (h : ∀ f : α → Bool, a.countP f = b.countP f) : a.Perm b := by
  haveI : DecidableEq α := fun a b => Classical.propDecidable (a = b)
  exact List.perm_iff_count.mpr fun x => h _
theorem pc_in {a b c1 c2 c3 c4 c5 c6 d : va_W} : (a ++ (b ++ (c1 ++ (c2 ++ (c3 ++ (c4 ++ (c5 ++ (c6 ++ d)))))))).Perm (c1 ++ (c2 ++ (c3 ++ (c4 ++ (c5 ++ (c6 ++ (a ++ (b ++ d)))))))) := cnt_perm fun f => by simp only [List.countP_append]; omega
theorem pc_out {c1 c2 c3 c4 c5 c6 a b d : va_W} : (c1 ++ (c2 ++ (c3 ++ (c4 ++ (c5 ++ (c6 ++ (a ++ (b ++ d)))))))).Perm (a ++ (b ++ (c1 ++ (c2 ++ (c3 ++ (c4 ++ (c5 ++ (c6 ++ d)))))))) := cnt_perm fun f => by simp only [List.countP_append]; omega
theorem pq_in {a q b c1 c2 c3 c4 c5 c6 d : va_W} : (a ++ (q ++ (b ++ (c1 ++ (c2 ++ (c3 ++ (c4 ++ (c5 ++ (c6 ++ d))))))))).Perm (a ++ (b ++ (c1 ++ (c2 ++ (c3 ++ (c4 ++ (c5 ++ (c6 ++ (q ++ d))))))))) := cnt_perm fun f => by simp only [List.countP_append]; omega
theorem pl_in {a b c1 c2 c3 c4 c5 c6 q d : va_W} : (a ++ (b ++ (c1 ++ (c2 ++ (c3 ++ (c4 ++ (c5 ++ (c6 ++ (q ++ d))))))))).Perm (b ++ (q ++ (a ++ (c1 ++ (c2 ++ (c3 ++ (c4 ++ (c5 ++ (c6 ++ d))))))))) := cnt_perm fun f => by simp only [List.countP_append]; omega
theorem pl_out {b q a c1 c2 c3 c4 c5 c6 k g : va_W} : (b ++ (q ++ (a ++ (c1 ++ (c2 ++ (c3 ++ (c4 ++ (c5 ++ (c6 ++ (k ++ g)))))))))).Perm (a ++ (b ++ (c1 ++ (c2 ++ (c3 ++ (c4 ++ (c5 ++ (c6 ++ (k ++ (q ++ g)))))))))) := cnt_perm fun f => by simp only [List.countP_append]; omega
abbrev w6 (cA : Nat → ClassId) (h : Nat → Nat) (σ : Sg) (ax sv tr sc : Nat) (F : va_W) : va_W := wK cA h σ ++ (wLg cA h σ 600 ++ (wC cA h σ ++ (wH cA h σ ++ (wS h ++ (wX ax (h 46) sv tr sc ++ F)))))
/-- the list, also with nothing in it -/
def wLs (cA : Nat → ClassId) (tS u : Nat → Nat) (υ : Sg) : Nat → va_W
  | 0 => [(u 81, .inr (9, [.int (υ 83 0), .ref (tS 3), .int 0]))]
  | n + 1 => wQl cA u υ (n + 1)
theorem wLs_1 {cA : Nat → ClassId} {tS u : Nat → Nat} {υ : Sg} {kc : Nat} (h : 1 ≤ kc) : wLs cA tS u υ kc = wQl cA u υ kc := by
  cases kc with
  | zero => exact absurd h (by decide)
  | succ n => rfl
theorem wLs_at {cA : Nat → ClassId} {tS u : Nat → Nat} {υ : Sg} {kc : Nat} (F : va_W) : ∃ fs, (wLs cA tS u υ kc ++ F)[0]? = some (u 81, .inr (9, fs)) := by
  cases kc with
  | zero => exact ⟨_, rfl⟩
  | succ n => exact ⟨_, rfl⟩
theorem c_sizeL (l : Launch) (D : va_G) (cA : Nat → ClassId) (tS : Nat → Nat) (A : Nat → Prop) (u : Nat → Nat) (υ : Sg) (kc : Nat) (F : va_W) : Ct l yJx4a65c_size_8abf5 (Cond.code yJx4a65c_size_8abf5 cJx4a65c_size_8abf5 1 (some .int) :: bw) 0 0 D cA tS A [.ref (u 81)] (wLs cA tS u υ kc ++ F) (some (.int (Int32.ofNat kc))) (wLs cA tS u υ kc ++ F) := by
  cases kc with
  | zero => exact c_size l D cA tS A (u 81) (tS 3) (υ 83 0) 0 F
  | succ n => exact c_list_size l D cA tS A u υ (n + 1) F
theorem wKR_s {cA : Nat → ClassId} {u u' : Nat → Nat} {υ υ' : Sg} {kc r : Nat} {f : Nat → Int32} (h1 : ∀ i, i < kc → u' (90 + i) = u (90 + i) ∧ υ' (90 + i) = υ (90 + i)) (h2 : u' (90 + kc) = r) (h3 : υ' (90 + kc) = f) : wKR cA u' υ' (kc + 1) = wKR cA u υ kc ++ [(r, .inl (cA 0, 6, .inl f))] := by
  unfold wKR
  rw [List.range_succ, List.map_append]
  congr 1
  · refine List.map_congr_left fun i hi => ?_
    obtain ⟨e1, e2⟩ := h1 i (List.mem_range.mp hi)
    rw [e1, e2]
  · show [(u' (90 + kc), (.inl (cA 0, 6, .inl (υ' (90 + kc))) : va_E))] = _
    rw [h2, h3]
section LB
variable {p : Program} {l : Launch} {e : Env} {R : Room} {s : State} {m : MethodId} {args : Array Value} {below : List Frame} {meth : Method} {c : Code} {H : Heap} {locs : List Loc} {cells slots : Nat} {Q : State → Prop}
variable {cc : ByteArray} {nL pc : Nat} {ret : Option FieldType} {own : String} {c0 : Cond} {D : va_G} {cA : Nat → ClassId} {tS : Nat → Nat} {A : Nat → Prop} {w : va_W} {ls : Array Slot} {rest : List Value}
variable {y : MethodName} {wsc ws' : List Cond} {bytes : ByteArray} {maxL fr mc ms lo index : Nat} {retc : Option FieldType} {As : List Value} {v : Value} {st0 : List Value} {post : va_W → Prop}
/-- a call of the class, the law's blocks before it -/
theorem q_cx8 {lv : List (Nat × Value)} {a b F : va_W} {h : Nat → Nat} {σ σ' : Sg} {ax sv tr sc : Nat} (E : Ev p cc nL ret own (c0 :: bw) D cA tS A s m args meth c) (hw : Wd D A (a ++ (b ++ w6 cA h σ ax sv tr sc F)) s.heap H locs) (hl : lv_has ls nL lv) (hC : Ct l y wsc fr lo D cA tS A (.ref ax :: As) (w6 cA h σ ax sv tr sc (a ++ (b ++ F))) (some v) (w6 cA h σ' ax sv tr sc (a ++ (b ++ F)))) (n : Nat) (hG : GoodIn (c0 :: bw) (wsV own index RX8 y wsc)) (hws : wsc = Cond.code y bytes maxL retc :: ws')
    (hd : y.cls = RX8 ∧ y.cls ≠ "java/lang/invoke/MethodHandle" ∧ y.cls ≠ "java/lang/invoke/VarHandle" ∧ (parseMethodDescriptor y.desc).map (fun d => d.parameters.length) = some n) (hR : fr + 1 ≤ R.frames ∧ 8 + (maxL + 11) + lo ≤ R.locals)
    (hn : As.length = n) (hst : st0 = As.reverse ++ .ref ax :: rest) (hW : (rest.map fun v => v.category).sum ≤ 8) (hf : cells ≤ R.cells ∧ slots ≤ R.slots) (hdg : decode cc pc = .ok (.invokevirtual index, 3))
    (kk : ∀ (H1 : Heap) (locs1 : List Loc), Wd D A (a ++ (b ++ w6 cA h σ' ax sv tr sc F)) s.heap H1 locs1 → W p l e R s m args below meth c H1 locs1 cells slots Q (F0 m (pc + 3) ls (v :: rest))) : W p l e R s m args below meth c H locs cells slots Q (F0 m pc ls st0) :=
  q_cv E (hw.perm pc_in) hl hC n hG hws hd hR 40 8 (T := TX8) (N := 4) rfl rfl hn hst hW hf hdg (fun H1 locs1 hw1 => kk H1 locs1 (hw1.perm pc_out))
/-- drawing -/
theorem q_draw {lv : List (Nat × Value)} {F : va_W} {wn : Nat → Nat} {ax kl n0 n : Nat} {θ : Sg} (E : Ev p cc nL ret RL (c0 :: bw) D cA tS A s m args meth c) (hw : Wd D A (wLw tS ax kl wn θ ++ F) s.heap H locs) (hl : lv_has ls nL lv) (hL : tS 5 ≤ 260) (hm : θ 70 0 = nI n0) (hm2 : n0 < 10000) (h1 : 1 ≤ n) (h2 : n < 1000) (hR : 2 ≤ R.frames ∧ 44 ≤ R.locals)
    (hst : st0 = .int (nI n) :: .ref (wn 80) :: rest) (hW : (rest.map fun v => v.category).sum ≤ 8) (hf : cells ≤ R.cells ∧ slots ≤ R.slots) (hdg : decode cc pc = .ok (.invokevirtual 46, 3))
    (kk : ∀ (r : Nat) (θ' : Sg) (H1 : Heap) (locs1 : List Loc), r < n → θ' 70 0 = nI (n0 + 1) → Wd D A (wLw tS ax kl wn θ' ++ F) s.heap H1 locs1 → W p l e R s m args below meth c H1 locs1 cells slots Q (F0 m (pc + 3) ls (.int (nI r) :: rest))) : W p l e R s m args below meth c H locs cells slots Q (F0 m pc ls st0) := by
  obtain ⟨r, θ', g1, g2, g3⟩ := draw_w (kc := 0) hL hm hm2 h1 h2
  exact q_cv (As := [.int (nI n)]) E hw hl (c_L_draw l D cA tS A wn ax kl 0 F (nI n) θ (nI r) θ' g2) 1 (bwV bw_c tb_433 tb_435 tb_2 tb_46 tb_436) rfl (by decide +kernel) ⟨hR.1, hR.2⟩ 0 10 (T := TL) (N := 4) rfl rfl rfl hst hW hf hdg (fun H1 locs1 hw1 => kk r θ' H1 locs1 g1 g3 hw1)
/-- one more kind in the list -/
theorem q_addL {lv : List (Nat × Value)} {F : va_W} {u : Nat → Nat} {υ : Sg} {kc r : Nat} {f : Nat → Int32} (E : Ev p cc nL ret RL (c0 :: bw) D cA tS A s m args meth c) (hK : KA cA s) (hw : Wd D A (wLs cA tS u υ kc ++ ([(r, .inl (cA 0, 6, .inl f))] ++ F)) s.heap H locs) (hl : lv_has ls nL lv) (hk : kc < 10) (hR : 5 ≤ R.frames ∧ 113 ≤ R.locals)
    (hW : (rest.map fun v => v.category).sum ≤ 8) (hf : cells + 1 ≤ R.cells ∧ slots + 10 ≤ R.slots) (hdg : decode cc pc = .ok (.invokevirtual 58, 3))
    (kk : ∀ (u' : Nat → Nat) (υ' : Sg) (H1 : Heap) (locs1 : List Loc), u' 81 = u 81 → (∀ i, i < kc → u' (90 + i) = u (90 + i) ∧ υ' (90 + i) = υ (90 + i)) → u' (90 + kc) = r → υ' (90 + kc) = f → Wd D A (wLs cA tS u' υ' (kc + 1) ++ ([(r, .inl (cA 0, 6, .inl f))] ++ F)) s.heap H1 locs1 → W p l e R s m args below meth c H1 locs1 (cells + 1) (slots + 10) Q (F0 m (pc + 3) ls (.int 1 :: rest))) : W p l e R s m args below meth c H locs cells slots Q (F0 m pc ls (.ref r :: .ref (u 81) :: rest)) := by
  cases kc with
  | zero =>
    refine q_cvX (As := [.ref r]) E hK hw hl (c_add_a l D cA tS A (u 81) r (υ 83 0) f F) 1 (bwV bw_c tb_461 tb_462 tb_463 tb_61 tb_464) rfl (by decide +kernel) ⟨hR.1, hR.2⟩ 0 9 (T := TJx4a65c) (N := 3) rfl rfl rfl rfl hW hf hdg (fun H1 locs1 w0 hp hw1 => ?_)
    obtain ⟨q, rfl⟩ := hp
    refine kk (fun k => if k = 82 then q else if k = 90 then r else u k) (fun k => if k = 83 then (fun _ => υ 83 0 + 1) else if k = 90 then f else υ k) H1 locs1 rfl (fun i hi => absurd hi (Nat.not_lt_zero _)) rfl rfl ?_
    refine cast (congrArg (fun z => Wd D A z s.heap H1 locs1) ?_) hw1
    rw [wLs_1 (Nat.le_add_left 1 0)]
    unfold wQl
    have e : va_up (fun _ => none) 0 (some r) = fun i => if i < 1 then some (if 90 + i = 82 then q else if 90 + i = 90 then r else u (90 + i)) else none := by
      funext i
      unfold va_up
      by_cases z : i = 0
      · subst z
        rfl
      · rw [if_neg z, if_neg (by omega)]
    rw [e]
    rfl
  | succ n =>
    refine q_cvX (As := [.ref r]) E hK hw hl (c_add_b l D cA tS A (u 81) (u 82) r (n + 1) hk (υ 83 0) (fun i => if i < n + 1 then some (u (90 + i)) else none) f F) 1 (bwV bw_c tb_461 tb_462 tb_463 tb_61 tb_464) rfl (by decide +kernel) ⟨hR.1, hR.2⟩ 0 9 (T := TJx4a65c) (N := 3) rfl rfl rfl rfl hW hf hdg (fun H1 locs1 w0 hp hw1 => ?_)
    subst hp
    refine kk (fun k => if k = 91 + n then r else u k) (fun k => if k = 83 then (fun _ => υ 83 0 + 1) else if k = 91 + n then f else υ k) H1 locs1 ?_ (fun i hi => ⟨?_, ?_⟩) ?_ ?_ ?_
    · exact if_neg (by omega)
    · exact if_neg (by omega)
    · show (if 90 + i = 83 then _ else if 90 + i = 91 + n then f else υ (90 + i)) = _
      rw [if_neg (by omega), if_neg (by omega)]
    · exact if_pos (by omega)
    · show (if 90 + (n + 1) = 83 then _ else if 90 + (n + 1) = 91 + n then f else υ (90 + (n + 1))) = _
      rw [if_neg (by omega), if_pos (by omega)]
    · refine cast (congrArg (fun z => Wd D A z s.heap H1 locs1) ?_) hw1
      rw [wLs_1 (Nat.le_add_left 1 (n + 1))]
      unfold wQl
      have e : va_up (fun i => if i < n + 1 then some (u (90 + i)) else none) (n + 1) (some r) = fun i => if i < n + 2 then some (if 90 + i = 91 + n then r else u (90 + i)) else none := by
        funext i
        unfold va_up
        by_cases z : i = n + 1
        · rw [if_pos z, if_pos (by omega), if_pos (by omega)]
        · rw [if_neg z, if_neg (show ¬ 90 + i = 91 + n by omega)]
          dsimp only
          by_cases y : i < n + 1
          · rw [if_pos y, if_pos (by omega)]
          · rw [if_neg y, if_neg (by omega)]
      have e1 : (if 81 = 91 + n then r else u 81) = u 81 := if_neg (by omega)
      have e2 : (if 82 = 91 + n then r else u 82) = u 82 := if_neg (by omega)
      simp only [e, e1, e2, if_pos]
      rfl
end LB
