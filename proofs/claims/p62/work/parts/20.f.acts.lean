section Pf
variable {cnt kc T hl : Nat} {σ S : Sg}
/-! p62: each change, by what it leaves -/
/-- the kinds stay -/
def Lo (σ σ' : Sg) : Prop := ∀ k, k < 7 → σ' k = σ k
theorem hr_k (σ : Sg) (hl : Nat) (c a b x d : Int32) {k : Nat} (hk : k < 31) : hrec σ hl c a b x d k = σ k := hrec_ex σ hl c a b x d k (fun q => by
  unfold LH at q
  simp only [List.mem_cons, List.not_mem_nil, or_false] at q
  omega)
theorem ex_hi {R : List Nat} {σ' : Sg} (hx : Ex R S σ') (hR : ∀ k ∈ R, k ≤ 30) : ∀ k, 30 < k → σ' k = S k := fun k hk => hx k (fun q => by
  have := hR k q
  omega)
theorem ex_lo {R : List Nat} {σ' : Sg} (hx : Ex R σ σ') (hR : ∀ k ∈ R, 6 < k) : Lo σ σ' := fun k hk => hx k (fun q => by
  have := hR k q
  omega)
theorem Lo.tr {a b c : Sg} (h : Lo a b) (h2 : Lo b c) : Lo a c := fun k hk => (h2 k hk).trans (h k hk)
theorem DI.fi (D : DI cnt kc T hl σ) (c a b x d : Int32) : ∃ μ, FI 600 cnt kc T (hrec σ hl c a b x d) μ := by
  obtain ⟨⟨μ, V⟩, -⟩ := D
  exact ⟨μ, V.1.hist (hrec_ex σ hl c a b x d) (fun _ _ => rfl)⟩
theorem DI.js (D : DI cnt kc T hl σ) (c a b x d : Int32) : JR cnt kc T (hrec σ hl c a b x d) := by
  obtain ⟨h1, h2, h3, h4, h5, h6⟩ := D.jr
  have hx := hrec_ex σ hl c a b x d
  exact ⟨h1.hist hx LH_hi, h2.ex (hx 21 (by decide)) (hx 26 (by decide)), h3.ex hx (by decide), KT.ex h4 hx (by decide), h5, h6⟩
/-- states and roots change, and it is told -/
theorem JI.mv (J : JI cnt kc T S) (hT : T ≤ 10080) (h60 : cnt ≤ 60) {t : Nat} (ht : t < cnt) {S1 : Sg} (hx : Ex [21, 26] S S1) (hj : ∀ j, j < cnt → (S1 21 j = S 21 j ∧ S1 26 j = S 26 j) ∨ (S 21 j ≠ 3 ∧ S1 21 j ≠ 3 ∧ S1 21 j ≠ 1)) {b : Int32} (hb : b ≠ 5) (d : Int32) : JI cnt kc T (wr 600 (nI T) b (nI t) d S1) := by
  obtain ⟨h1, h2, h3, ln, h4⟩ := J
  have w := wr_ex 600 (nI T) b (nI t) d S1
  have x : Ex [7, 8, 9, 10, 11, 21, 26] S (wr 600 (nI T) b (nI t) d S1) := (hx.wk (by decide)).tr (wr_wk _ _ _ _ _ _ _ (by decide))
  have l : LJ cnt T ln S1 := h4.ex hx (by decide) (fun j hj' q => by
    rcases hj j hj' with ⟨a, -⟩ | ⟨-, b, -⟩
    · rw [a] at q
      exact ⟨q, by rw [hx 29 (by decide)]⟩
    · exact absurd q b)
  refine ⟨fun j hj' => ?_, h2.sub (x 30 (by decide)) (fun j hj' q => ?_), h3.ex x (by decide), _, l.wr hT h60 hb d ht⟩
  · have v := h1 j hj'
    unfold XT at v ⊢
    rw [x 3 (by decide), x 16 (by decide), x 20 (by decide), x 22 (by decide), x 24 (by decide), x 25 (by decide), x 27 (by decide), x 28 (by decide), x 29 (by decide), w 21 (by decide), w 26 (by decide)]
    rcases hj j hj' with ⟨a, b⟩ | ⟨a, b, c⟩
    · rw [a, b]
      exact v
    · exact v.move a b c
  · rw [w 21 (by decide)] at q
    rw [x 20 (by decide)]
    rcases hj j hj' with ⟨a, -⟩ | ⟨-, -, c⟩
    · rw [a] at q
      exact ⟨q, rfl⟩
    · exact absurd q c
theorem wr_s {L : Nat} {μ : Sg} (F : FI L cnt kc T S μ) {R : List Nat} {S1 : Sg} (hx : Ex R S S1) (hR : 7 ∉ R) (a b c d : Int32) : f_X4_write L a b c d S1 = some (wr L a b c d S1) := (wr_some ((LO.of F.2.1).ex hx hR)).1
theorem DI.ch (D : DI cnt kc T hl σ) {c m : Int32} (hc : TY c m) {a b x d : Int32} (h0 : f_X1_errorOf c a b x d σ = some 0) (hh : hl < 200) {N : Nat} (hN : 100 < N) : ∀ (r : Int32) (σ' : Sg) (cnt' : Nat), f_X1_make N 600 c a b x d (hrec σ hl c a b x d) = some (r, σ') → (∀ k, 30 < k → σ' k = hrec σ hl c a b x d k) → σ' 15 0 = nI cnt' → cnt' ≤ 60 → JI cnt' kc T σ' → f_X8_change N c a b x d σ = some (r, σ') ∧ DI cnt' kc T (hl + 1) σ' :=
  fun _ _ _ hm hk h15 hc' J => D.chg hc h0 hh hN hm hk h15 hc' J
theorem up21 (σ : Sg) (t : Nat) (v : Int32) (j : Nat) : up σ 21 t v 21 j = if j = t then v else σ 21 j := by
  rw [up_ite]
  by_cases z : j = t
  · rw [if_pos ⟨rfl, z⟩, if_pos z]
  · rw [if_neg (fun w => z w.2), if_neg z]
theorem p_move (D : DI cnt kc T hl σ) (hh : hl < 200) {N : Nat} (hN : 100 < N) {t : Nat} (ht : t < cnt) {c m v ev : Int32} (hc : TY c m) (hm : ∀ S : Sg, f_X1_make N 600 c (nI t) 0 0 0 S = (f_X1_move 600 (nI t) v ev S).bind (fun p => some (p.1, p.2))) (h0 : f_X1_errorOf c (nI t) 0 0 0 σ = some 0) (ha : σ 21 t ≠ 3) (hv3 : v ≠ 3) (hv1 : v ≠ 1) (hev : ev ≠ 5) :
    ∃ σ', f_X8_change N c (nI t) 0 0 0 σ = some (σ 25 t, σ') ∧ DI cnt kc T (hl + 1) σ' ∧ σ' 21 t = v ∧ Tld T σ σ' ev (nI t) 0 ∧ Lo σ σ' := by
  obtain ⟨μ, F⟩ := D.fi c (nI t) 0 0 0
  obtain ⟨hT, h60, -, -, h12, h15, -, -⟩ := D.b
  have J := (D.js c (nI t) 0 0 0).1
  have hx := hrec_ex σ hl c (nI t) 0 0 0
  have e := hr_k σ hl c (nI t) 0 0 0 (k := 21) (by decide)
  have e25 := hr_k σ hl c (nI t) 0 0 0 (k := 25) (by decide)
  have e12 : hrec σ hl c (nI t) 0 0 0 12 0 = nI T := by rw [hr_k _ _ _ _ _ _ _ (by decide)]; exact h12
  have e15 : hrec σ hl c (nI t) 0 0 0 15 0 = nI cnt := by rw [hr_k _ _ _ _ _ _ _ (by decide)]; exact h15
  have m1 := hm (hrec σ hl c (nI t) 0 0 0)
  have K := DI.ch D hc h0 hh hN
  generalize hrec σ hl c (nI t) 0 0 0 = S at F J hx e e25 e12 e15 m1 K
  have ux : Ex [21] S (up S 21 t v) := Ex.up _ _ _ (by decide)
  have w := wr_ex 600 (nI T) ev (nI t) 0 (up S 21 t v)
  have x : Ex [7, 8, 9, 10, 11, 21] S (wr 600 (nI T) ev (nI t) 0 (up S 21 t v)) := (ux.wk (by decide)).tr (wr_wk _ _ _ _ _ _ _ (by decide))
  have e1 : f_X1_make N 600 c (nI t) 0 0 0 S = some (σ 25 t, wr 600 (nI T) ev (nI t) 0 (up S 21 t v)) := by
    rw [m1]
    unfold f_X1_move
    rw [if_pos (ib_nI (by omega) (by decide)), ix_nI (by omega), e12, wr_s F ux (by decide), Option.bind_some, Option.bind_some, x 25 (by decide), e25]
  obtain ⟨k1, k2⟩ := K _ _ cnt e1 (ex_hi x (by decide)) (by rw [x 15 (by decide)]; exact e15) h60 (J.mv hT h60 ht (ux.wk (by decide)) (fun j _ => by
    rw [up21, up_row (by decide)]
    by_cases z : j = t
    · rw [if_pos z, z, e]
      exact Or.inr ⟨ha, hv3, hv1⟩
    · rw [if_neg z]
      exact Or.inl ⟨rfl, rfl⟩) hev 0)
  have xx : Ex (21 :: LH) σ (up S 21 t v) := (hx.wk (by decide)).tr (ux.wk (by decide))
  refine ⟨_, k1, k2, ?_, Tld.of D.2 xx (by decide) _ _ _, ?_⟩
  · rw [w 21 (by decide), up21, if_pos rfl]
  · exact (ex_lo hx (by decide)).tr (ex_lo x (by decide))
theorem p_pause (D : DI cnt kc T hl σ) (hh : hl < 200) {N : Nat} (hN : 100 < N) {t : Nat} (ht : t < cnt) (ha : σ 21 t = 0 ∨ σ 21 t = 1) : ∃ σ', f_X8_pause N (nI t) σ = some (σ 25 t, σ') ∧ DI cnt kc T (hl + 1) σ' ∧ σ' 21 t = 2 ∧ Tld T σ σ' 2 (nI t) 0 ∧ Lo σ σ' := by
  obtain ⟨-, h60, -, -, -, h15, -, -⟩ := D.b
  obtain ⟨σ', h1, h2⟩ := p_move D hh hN ht (c := 4) (m := 3) (v := 2) (ev := 2) (by unfold TY; simp) (fun S => by unfold f_X1_make; rw [if_neg (by decide), if_neg (by decide), if_neg (by decide), if_pos rfl]) (by rw [et_v h15 h60 ht (by decide) 0 0 0 (al_4 (by omega)), if_pos ha, if_neg (by decide)]) (by rcases ha with z | z <;> rw [z] <;> decide) (by decide) (by decide) (by decide)
  exact ⟨σ', by unfold f_X8_pause; rw [h1]; rfl, h2⟩
theorem p_resume (D : DI cnt kc T hl σ) (hh : hl < 200) {N : Nat} (hN : 100 < N) {t : Nat} (ht : t < cnt) (ha : σ 21 t = 2) : ∃ σ', f_X8_resume N (nI t) σ = some (σ 25 t, σ') ∧ DI cnt kc T (hl + 1) σ' ∧ σ' 21 t = 0 ∧ Tld T σ σ' 3 (nI t) 0 ∧ Lo σ σ' := by
  obtain ⟨-, h60, -, -, -, h15, -, -⟩ := D.b
  obtain ⟨σ', h1, h2⟩ := p_move D hh hN ht (c := 5) (m := 4) (v := 0) (ev := 3) (by unfold TY; simp) (fun S => by unfold f_X1_make; rw [if_neg (by decide), if_neg (by decide), if_neg (by decide), if_neg (by decide), if_pos rfl]) (by rw [et_v h15 h60 ht (by decide) 0 0 0 (al_5 (by omega)), if_pos ha, if_neg (by decide)]) (by rw [ha]; decide) (by decide) (by decide) (by decide)
  exact ⟨σ', by unfold f_X8_resume; rw [h1]; rfl, h2⟩
theorem DI.lvl (D : DI cnt kc T hl σ) {t : Nat} (ht : t < cnt) : ∃ n : Nat, n ≤ 3 ∧ σ 20 t = nI n := (D.2.1 t ht).lvl
theorem p_climb (D : DI cnt kc T hl σ) (hh : hl < 200) {N : Nat} (hN : 100 < N) {t : Nat} (ht : t < cnt) (ha : σ 21 t = 0 ∨ σ 21 t = 1) (hl3 : ¬ 3 ≤ σ 20 t) : ∃ σ', f_X8_climb N (nI t) σ = some (σ 20 t + 1, σ') ∧ DI cnt kc T (hl + 1) σ' ∧ σ' 20 t = σ 20 t + 1 ∧ σ' 21 t = 0 ∧ σ' 22 t = 0 ∧ Tld T σ σ' 4 (nI t) (σ 20 t + 1) ∧ Lo σ σ' := by
  obtain ⟨μ, F⟩ := D.fi 6 (nI t) 0 0 0
  obtain ⟨hT, h60, -, -, h12, h15, -, -⟩ := D.b
  have J := D.js 6 (nI t) 0 0 0
  have hx := hrec_ex σ hl 6 (nI t) 0 0 0
  have e := hr_k σ hl 6 (nI t) 0 0 0 (k := 21) (by decide)
  have e20 := hr_k σ hl 6 (nI t) 0 0 0 (k := 20) (by decide)
  have e12 : hrec σ hl 6 (nI t) 0 0 0 12 0 = nI T := by rw [hr_k _ _ _ _ _ _ _ (by decide)]; exact h12
  have e15 : hrec σ hl 6 (nI t) 0 0 0 15 0 = nI cnt := by rw [hr_k _ _ _ _ _ _ _ (by decide)]; exact h15
  have K := DI.ch D (c := 6) (m := 5) (a := nI t) (b := 0) (x := 0) (d := 0) (by unfold TY; simp) (by rw [et_v h15 h60 ht (by decide) 0 0 0 (al_6 (by omega)), if_pos (c := (σ 21 t = 0 ∨ σ 21 t = 1) ∧ ¬ 3 ≤ σ 20 t) ⟨ha, hl3⟩, if_neg (by decide)]) hh hN
  generalize hrec σ hl 6 (nI t) 0 0 0 = S at F J hx e e20 e12 e15 K
  have V := F.2.2.1
  have x := ra_ex 600 t (nI T) S
  have e1 : f_X1_make N 600 6 (nI t) 0 0 0 S = some (σ 20 t + 1, ra 600 t (nI T) S) := by
    unfold f_X1_make
    rw [if_neg (by decide), if_neg (by decide), if_neg (by decide), if_neg (by decide), if_neg (by decide), if_pos rfl, e12, (ra_lift (cl_of F.1 F.2.1 V.2.2.2.2.2.1 V.2.2.2.2.2.2.1) t ht _).2, Option.bind_some, e20]
  have l3 : (S 20 t).toInt < 3 := by
    rw [e20]
    have := z_lt.mp (Int32.not_le.mp hl3)
    rw [show (3 : Int32).toInt = 3 from by decide] at this
    exact this
  obtain ⟨k1, k2⟩ := K _ _ cnt e1 (ex_hi x (by decide)) (by rw [x 15 (by decide)]; exact e15) h60 (jr_ra J hT ht (by rw [e]; exact ha) l3 (Ex.rf _ _) (fun _ _ => rfl)).1
  have ux : Ex (20 :: 21 :: 22 :: 23 :: LH) σ (up (up (up (up S 20 t (S 20 t + 1)) 21 t 0) 22 t 0) 23 t 0) := ((((hx.wk (by decide)).tr (Ex.up _ _ _ (by decide))).tr (Ex.up _ _ _ (by decide))).tr (Ex.up _ _ _ (by decide))).tr (Ex.up _ _ _ (by decide))
  refine ⟨_, by unfold f_X8_climb; rw [k1]; rfl, k2, ?_, ?_, ?_, ?_, ?_⟩
  · rw [ra_at _ _ _ _ (by decide), if_pos rfl, if_pos rfl, e20]
  · rw [ra_at _ _ _ _ (by decide), if_pos rfl, if_neg (by decide), if_pos (by decide)]
  · rw [ra_at _ _ _ _ (by decide), if_pos rfl, if_neg (by decide), if_pos (by decide)]
  · have := Tld.of D.2 ux (by decide) 4 (nI t) (S 20 t + 1)
    rw [e20] at this
    unfold ra
    rw [e20]
    exact this
  · exact (ex_lo hx (by decide)).tr (ex_lo x (by decide))
theorem p_part (D : DI cnt kc T hl σ) (hh : hl < 200) {N : Nat} (hN : 100 < N) {t : Nat} (ht : t < cnt) (ha : σ 21 t = 4) : ∃ σ', f_X8_part N (nI t) σ = some (σ 26 t, σ') ∧ DI cnt kc T (hl + 1) σ' ∧ (∀ j, σ' 26 j = if j = t then -1 else σ 26 j) ∧ σ' 21 t = 0 ∧ σ' 22 = σ 22 ∧ Tld T σ σ' 7 (nI t) (σ 26 t) ∧ Lo σ σ' := by
  obtain ⟨μ, F⟩ := D.fi 10 (nI t) 0 0 0
  obtain ⟨hT, h60, -, -, h12, h15, -, -⟩ := D.b
  have J := (D.js 10 (nI t) 0 0 0).1
  have hx := hrec_ex σ hl 10 (nI t) 0 0 0
  have e := hr_k σ hl 10 (nI t) 0 0 0 (k := 21) (by decide)
  have e26 := hr_k σ hl 10 (nI t) 0 0 0 (k := 26) (by decide)
  have e12 : hrec σ hl 10 (nI t) 0 0 0 12 0 = nI T := by rw [hr_k _ _ _ _ _ _ _ (by decide)]; exact h12
  have e15 : hrec σ hl 10 (nI t) 0 0 0 15 0 = nI cnt := by rw [hr_k _ _ _ _ _ _ _ (by decide)]; exact h15
  have K := DI.ch D (c := 10) (m := 9) (a := nI t) (b := 0) (x := 0) (d := 0) (by unfold TY; simp) (by rw [et_v h15 h60 ht (by decide) 0 0 0 (al_10 (by omega)), if_pos ha, if_neg (by decide)]) hh hN
  generalize hrec σ hl 10 (nI t) 0 0 0 = S at F J hx e e26 e12 e15 K
  have ux : Ex [21, 26] S (up (up S 21 t 0) 26 t (-1)) := (Ex.up _ _ _ (by decide)).tr (Ex.up _ _ _ (by decide))
  have w := wr_ex 600 (nI T) 7 (nI t) (σ 26 t) (up (up S 21 t 0) 26 t (-1))
  have x : Ex [7, 8, 9, 10, 11, 21, 26] S (wr 600 (nI T) 7 (nI t) (σ 26 t) (up (up S 21 t 0) 26 t (-1))) := (ux.wk (by decide)).tr (wr_wk _ _ _ _ _ _ _ (by decide))
  have e1 : f_X1_make N 600 10 (nI t) 0 0 0 S = some (σ 26 t, wr 600 (nI T) 7 (nI t) (σ 26 t) (up (up S 21 t 0) 26 t (-1))) := by
    unfold f_X1_make
    rw [if_neg (by decide), if_neg (by decide), if_neg (by decide), if_neg (by decide), if_neg (by decide), if_neg (by decide), if_neg (by decide), if_neg (by decide), if_neg (by decide), if_pos rfl]
    unfold f_X1_untie
    rw [if_pos (ib_nI (by omega) (by decide)), ix_nI (by omega), e12, e26, wr_s F ux (by decide), Option.bind_some, Option.bind_some]
  have a26 : ∀ j, up (up S 21 t 0) 26 t (-1) 26 j = if j = t then -1 else σ 26 j := fun j => by
    rw [up_ite, up_row (by decide), e26]
    by_cases z : j = t
    · rw [if_pos ⟨rfl, z⟩, if_pos z]
    · rw [if_neg (fun w => z w.2), if_neg z]
  obtain ⟨k1, k2⟩ := K _ _ cnt e1 (ex_hi x (by decide)) (by rw [x 15 (by decide)]; exact e15) h60 (J.mv hT h60 ht ux (fun j _ => by
    rw [a26, up_row (by decide), up21, e26]
    by_cases z : j = t
    · rw [if_pos z, z, e, ha, if_pos rfl]
      exact Or.inr ⟨by decide, by decide, by decide⟩
    · rw [if_neg z, if_neg z]
      exact Or.inl ⟨rfl, rfl⟩) (by decide) _)
  have xx : Ex (21 :: 26 :: LH) σ (up (up S 21 t 0) 26 t (-1)) := (hx.wk (by decide)).tr (ux.wk (by decide))
  refine ⟨_, by unfold f_X8_part; rw [k1]; rfl, k2, fun j => ?_, ?_, ?_, Tld.of D.2 xx (by decide) _ _ _, ?_⟩
  · rw [w 26 (by decide)]
    exact a26 j
  · rw [w 21 (by decide), up_row (by decide), up21, if_pos rfl]
  · rw [x 22 (by decide)]
    exact hx 22 (by decide)
  · exact (ex_lo hx (by decide)).tr (ex_lo x (by decide))
end Pf
