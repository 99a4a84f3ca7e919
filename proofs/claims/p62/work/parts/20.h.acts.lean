section Ph
variable {cnt kc T hl : Nat} {σ S : Sg}
/-! p62: joining and reporting; refusals -/
theorem p_join (D : DI cnt kc T hl σ) (hh : hl < 200) {N : Nat} (hN : 100 < N) {t r : Nat} (ht : t < cnt) (hr : r < cnt) (hne : t ≠ r) (ta : σ 21 t = 0 ∨ σ 21 t = 1 ∨ σ 21 t = 2) (ra' : σ 21 r = 0 ∨ σ 21 r = 1 ∨ σ 21 r = 2) : ∃ σ', f_X8_join N (nI t) (nI r) σ = some (nI (fb_ct (fun j => decide (σ' 26 j = nI r)) cnt), σ') ∧ DI cnt kc T (hl + 1) σ' ∧ (∀ j, σ' 26 j = if j = t ∨ j < cnt ∧ σ 26 j = nI t then nI r else σ 26 j) ∧ σ' 21 t = 4 ∧ Tld T σ σ' 6 (nI t) (nI r) ∧ Lo σ σ' := by
  obtain ⟨μ, F⟩ := D.fi 9 (nI t) (nI r) 0 0
  obtain ⟨hT, h60, -, -, h12, h15, -, -⟩ := D.b
  have I := D.ri
  have J := (D.js 9 (nI t) (nI r) 0 0).1
  have hx := hrec_ex σ hl 9 (nI t) (nI r) 0 0
  have e := hr_k σ hl 9 (nI t) (nI r) 0 0 (k := 21) (by decide)
  have e26 := hr_k σ hl 9 (nI t) (nI r) 0 0 (k := 26) (by decide)
  have e12 : hrec σ hl 9 (nI t) (nI r) 0 0 12 0 = nI T := by rw [hr_k _ _ _ _ _ _ _ (by decide)]; exact h12
  have e15 : hrec σ hl 9 (nI t) (nI r) 0 0 15 0 = nI cnt := by rw [hr_k _ _ _ _ _ _ _ (by decide)]; exact h15
  have K := DI.ch D (c := 9) (m := 8) (a := nI t) (b := nI r) (x := 0) (d := 0) (by unfold TY; simp) (by rw [ej_v h15 h60 ht hr (I t ht).1 (I r hr).1, if_pos ⟨hne, ta, ra'⟩]) hh hN
  generalize hrec σ hl 9 (nI t) (nI r) 0 0 = S at F J hx e e26 e12 e15 K
  have key1 := lift_itr (α := Sg) (fun n x τ => f_X1_tie_2 N 600 n (nI t) (nI r) x τ) (yT t r) (fun i τ => τ 15 0 = nI cnt) (fun τ => (f_X4_write 600 (τ 12 0) 6 (nI t) (nI r) (up (up τ 21 t 4) 26 t (nI r))).bind (fun p3 => (f_X7_twinMask N (nI r) p3).bind (fun p5 => (f_J13_bitCount_95d88 p5).bind (fun p7 => some (p7, p3))))) cnt
    (fun n i τ hi I => by
      refine ⟨by rw [yT_ex t r i τ 15 (by decide)]; exact I, ?_⟩
      show f_X1_tie_2 N 600 (n + 1) (nI t) (nI r) (nI i) τ = f_X1_tie_2 N 600 n (nI t) (nI r) (nI (i + 1)) (yT t r i τ)
      rw [f_X1_tie_2, I, if_neg (nI_ge hi (by omega)), if_pos (ib_nI (by omega) (by decide)), ix_nI (by omega), nI_1]
      unfold yT
      by_cases q : τ 26 i = nI t
      · rw [if_pos q, if_pos q]
      · rw [if_neg q, if_neg q])
    (fun n τ I => by
      show f_X1_tie_2 N 600 (n + 1) (nI t) (nI r) (nI cnt) τ = _
      rw [f_X1_tie_2, I, if_pos (nI_le (Nat.le_refl _) (by omega)), if_pos (ib_nI (by omega) (by decide)), ix_nI (by omega)]) S e15 N (by omega)
  have xA : Ex [26] S (itr (yT t r) cnt S) := itr_ex (fun i σ => yT_ex t r i σ) S cnt
  have p26 : ∀ j, up (up (itr (yT t r) cnt S) 21 t 4) 26 t (nI r) 26 j = if j = t ∨ j < cnt ∧ σ 26 j = nI t then nI r else σ 26 j := fun j => by
    rw [up_ite, up_row (by decide), yT_26, e26]
    by_cases z : j = t
    · rw [if_pos ⟨rfl, z⟩, if_pos (Or.inl z)]
    · rw [if_neg (fun w => z w.2)]
      by_cases y : j < cnt ∧ σ 26 j = nI t
      · rw [if_pos y, if_pos (Or.inr y)]
      · rw [if_neg y, if_neg (fun w => w.elim z y)]
  have p21 : ∀ j, up (up (itr (yT t r) cnt S) 21 t 4) 26 t (nI r) 21 j = if j = t then 4 else S 21 j := fun j => by
    rw [up_row (by decide), up21, xA 21 (by decide)]
  have px : Ex [21, 26] S (up (up (itr (yT t r) cnt S) 21 t 4) 26 t (nI r)) := ((xA.wk (by decide)).tr (Ex.up _ _ _ (by decide))).tr (Ex.up _ _ _ (by decide))
  have y12 : itr (yT t r) cnt S 12 0 = nI T := by rw [xA 12 (by decide)]; exact e12
  have k2 := key1.2
  rw [y12] at k2
  generalize up (up (itr (yT t r) cnt S) 21 t 4) 26 t (nI r) = S1 at p26 p21 px k2
  have w := wr_ex 600 (nI T) 6 (nI t) (nI r) S1
  have x : Ex [7, 8, 9, 10, 11, 21, 26] S (wr 600 (nI T) 6 (nI t) (nI r) S1) := (px.wk (by decide)).tr (wr_wk _ _ _ _ _ _ _ (by decide))
  have e1 : f_X1_make N 600 9 (nI t) (nI r) 0 0 S = some (nI (fb_ct (fun j => decide (wr 600 (nI T) 6 (nI t) (nI r) S1 26 j = nI r)) cnt), wr 600 (nI T) 6 (nI t) (nI r) S1) := by
    unfold f_X1_make
    rw [if_neg (by decide), if_neg (by decide), if_neg (by decide), if_neg (by decide), if_neg (by decide), if_neg (by decide), if_neg (by decide), if_neg (by decide), if_pos rfl, bind_pair]
    unfold f_X1_tie
    refine k2.trans ?_
    rw [wr_s F px (by decide), Option.bind_some, tm_v (by rw [x 15 (by decide)]; exact e15) h60 (nI r) hN, Option.bind_some, bc_mk _ h60, Option.bind_some]
  have t3 : σ 21 t ≠ 3 := by rcases ta with z | z | z <;> rw [z] <;> decide
  obtain ⟨k1, k3⟩ := K _ _ cnt e1 (ex_hi x (by decide)) (by rw [x 15 (by decide)]; exact e15) h60 (J.mv hT h60 ht px (fun j hj => by
    rw [p21, p26, e26, e]
    by_cases z : j = t
    · rw [if_pos z, z]
      exact Or.inr ⟨t3, by decide, by decide⟩
    · rw [if_neg z]
      by_cases y : σ 26 j = nI t
      · have s4 : σ 21 j = 4 := by
          rcases (I j hj).2 with g | ⟨r', r1, r2, r3, g⟩
          · rw [g.1] at y
            exact absurd y.symm (nI_m1 (by omega))
          · have : r' = t := (nI_eq (by omega) (by omega)).mp (r2.symm.trans y)
            subst this
            rcases g with g | g
            · exact g.1
            · exact absurd g.2 t3
        rw [s4]
        exact Or.inr ⟨by decide, by decide, by decide⟩
      · rw [if_neg (fun q => q.elim z (fun q => y q.2))]
        exact Or.inl ⟨rfl, rfl⟩) (by decide) _)
  have xx : Ex (21 :: 26 :: LH) σ S1 := (hx.wk (by decide)).tr (px.wk (by decide))
  refine ⟨_, by unfold f_X8_join; rw [k1]; rfl, k3, fun j => ?_, ?_, Tld.of D.2 xx (by decide) _ _ _, (ex_lo hx (by decide)).tr (ex_lo x (by decide))⟩
  · rw [w 26 (by decide)]
    exact p26 j
  · rw [w 21 (by decide), p21, if_pos rfl]
theorem nw_lo (σ : Sg) (c : Nat) (k cu su pr at' : Int32) {a : Nat} (h : a < 15 ∨ 29 < a) : nw σ c k cu su pr at' a = σ a := by
  funext j
  rw [nw_at, if_neg (by omega), if_neg (by omega)]
theorem nw_j (σ : Sg) (c : Nat) (k cu su pr at' : Int32) {a j : Nat} (h : a ≠ 15) (hj : j ≠ c) : nw σ c k cu su pr at' a j = σ a j := by
  rw [nw_at, if_neg (by omega), if_neg (by omega)]
def RW : List Nat := [15, 16, 17, 18, 19, 20, 21, 22, 23, 24, 25, 26, 27, 28, 29]
theorem nw_ex (σ : Sg) (c : Nat) (k cu su pr at' : Int32) : Ex RW σ (nw σ c k cu su pr at') := fun a ha => nw_lo _ _ _ _ _ _ _ (by
  unfold RW at ha
  simp only [List.mem_cons, List.not_mem_nil, or_false, not_or] at ha
  omega)
theorem p_report (D : DI cnt kc T hl σ) (hh : hl < 200) (hc : cnt < 60) {N : Nat} (hN : 100 < N) {k cu su pr : Nat} (hk : k < kc) (hcu : cu < 100) (hsu : su < 1000) (hpr : pr < 4) : ∃ σ', f_X8_report N (nI k) (nI cu) (nI su) (nI pr) σ = some (nI cnt, σ') ∧ DI (cnt + 1) kc T (hl + 1) σ' ∧ (σ' 21 cnt = 0 ∧ σ' 27 cnt = nI T ∧ σ' 28 cnt = -1 ∧ σ' 29 cnt = -1 ∧ σ' 26 cnt = -1) ∧ Tld T σ σ' 0 (nI cnt) (nI k) ∧ Lo σ σ' := by
  obtain ⟨μ, F⟩ := D.fi 3 (nI k) (nI cu) (nI su) (nI pr)
  obtain ⟨hT, h60, hk6, -, h12, h15, h0, -⟩ := D.b
  have J := (D.js 3 (nI k) (nI cu) (nI su) (nI pr)).1
  have hx := hrec_ex σ hl 3 (nI k) (nI cu) (nI su) (nI pr)
  have e12 : hrec σ hl 3 (nI k) (nI cu) (nI su) (nI pr) 12 0 = nI T := by rw [hr_k _ _ _ _ _ _ _ (by decide)]; exact h12
  have e15 : hrec σ hl 3 (nI k) (nI cu) (nI su) (nI pr) 15 0 = nI cnt := by rw [hr_k _ _ _ _ _ _ _ (by decide)]; exact h15
  have wi1 : ∀ {a b : Nat} {c : Int32}, a ≤ b → b < 10000 → c = nI b → f_X8_within (nI a) 0 c = some 1 := fun {a b c} h1 h2 h3 => by
    unfold f_X8_within
    rw [if_neg (nI_pos (by omega)), h3, if_neg (Int32.not_lt.mpr (nI_le h1 (by omega)))]
  have s1 : nI kc - 1 = nI (kc - 1) := nI_sub' (b := 1) (by omega) (by omega)
  have ef : f_X7_isFull σ = some 0 := by
    unfold f_X7_isFull
    rw [h15, if_pos (show nI cnt < 60 from nI_lt (b := 60) hc (by decide))]
  have er : f_X1_errorOf 3 (nI k) (nI cu) (nI su) (nI pr) σ = some 0 := by
    unfold f_X1_errorOf f_X1_reportError
    rw [if_neg (by decide), if_neg (by decide), if_pos rfl, h0, s1, wi1 (a := k) (b := kc - 1) (by omega) (by omega) rfl, Option.bind_some, if_neg (by decide), wi1 (a := cu) (b := 99) (c := 99) (by omega) (by omega) rfl, Option.bind_some, if_neg (by decide), wi1 (a := su) (b := 999) (c := 999) (by omega) (by omega) rfl, Option.bind_some, if_neg (by decide), wi1 (a := pr) (b := 3) (c := 3) (by omega) (by omega) rfl, Option.bind_some, if_neg (by decide), ef]
    rfl
  have K := DI.ch D (c := 3) (m := 2) (a := nI k) (b := nI cu) (x := nI su) (d := nI pr) (by unfold TY; simp) er hh hN
  generalize hrec σ hl 3 (nI k) (nI cu) (nI su) (nI pr) = S at F J hx e12 e15 K
  have nx := nw_ex S cnt (nI k) (nI cu) (nI su) (nI pr) (nI T)
  have na := nw_at S cnt (nI k) (nI cu) (nI su) (nI pr) (nI T)
  have nj : ∀ a j, a ≠ 15 → j ≠ cnt → nw S cnt (nI k) (nI cu) (nI su) (nI pr) (nI T) a j = S a j := fun a j ha hj => nw_j _ _ _ _ _ _ _ ha hj
  have nc : ∀ a, 16 ≤ a → a < 30 → nw S cnt (nI k) (nI cu) (nI su) (nI pr) (nI T) a cnt = (if a = 16 then nI k else if a = 17 then nI cu else if a = 18 then nI su else if a = 19 then nI pr else if a = 26 ∨ a = 28 ∨ a = 29 then -1 else if a = 27 then nI T else 0) := fun a h1 h2 => by
    rw [na, if_neg (by omega), if_pos ⟨h1, h2, rfl⟩]
  have n15 : nw S cnt (nI k) (nI cu) (nI su) (nI pr) (nI T) 15 0 = nI (cnt + 1) := by
    rw [na, if_pos ⟨rfl, rfl⟩]
  have e1 : f_X1_make N 600 3 (nI k) (nI cu) (nI su) (nI pr) S = some (nI cnt, wr 600 (nI T) 0 (nI cnt) (nI k) (nw S cnt (nI k) (nI cu) (nI su) (nI pr) (nI T))) := by
    unfold f_X1_make
    rw [if_neg (by decide), if_neg (by decide), if_pos rfl, bind_pair]
    have a1 : f_X7_add (nI k) (nI cu) (nI su) (nI pr) (nI T) S = some (nI cnt, nw S cnt (nI k) (nI cu) (nI su) (nI pr) (nI T)) := by
      unfold f_X7_add nw
      rw [e15, if_pos (ib_nI hc (by decide)), ix_nI (by omega), nI_1]
    unfold f_X1_enter
    rw [e12, a1, Option.bind_some]
    show (f_X4_write 600 (nw S cnt (nI k) (nI cu) (nI su) (nI pr) (nI T) 12 0) 0 (nI cnt) (nI k) (nw S cnt (nI k) (nI cu) (nI su) (nI pr) (nI T))).bind (fun p3 => some (nI cnt, p3)) = _
    rw [nx 12 (by decide), e12, wr_s F nx (by decide), Option.bind_some]
  generalize nw S cnt (nI k) (nI cu) (nI su) (nI pr) (nI T) = S1 at nx na nj nc n15 e1
  have w := wr_ex 600 (nI T) 0 (nI cnt) (nI k) S1
  have x : Ex (7 :: 8 :: 9 :: 10 :: 11 :: RW) S (wr 600 (nI T) 0 (nI cnt) (nI k) S1) := (nx.wk (by decide)).tr (wr_wk _ _ _ _ _ _ _ (by decide))
  have ki := F.2.2.1.2.2.1 k hk
  obtain ⟨k1, k3⟩ := K _ _ (cnt + 1) e1 (ex_hi x (by decide)) (by rw [w 15 (by decide)]; exact n15) (by omega) (by
    obtain ⟨h1, h2, h3, ln, f, hf, h4⟩ := J
    refine ⟨fun j hj => ?_, fun l hl' => ?_, h3.ex x (by decide), min 600 (ln + 1), ?_⟩
    · by_cases z : j = cnt
      · subst z
        unfold XT
        rw [w 3 (by decide), w 16 (by decide), w 20 (by decide), w 21 (by decide), w 22 (by decide), w 24 (by decide), w 25 (by decide), w 26 (by decide), w 27 (by decide), w 28 (by decide), w 29 (by decide), nx 3 (by decide), nc 16 (by decide) (by decide), nc 20 (by decide) (by decide), nc 21 (by decide) (by decide), nc 22 (by decide) (by decide), nc 24 (by decide) (by decide), nc 25 (by decide) (by decide), nc 26 (by decide) (by decide), nc 27 (by decide) (by decide), nc 28 (by decide) (by decide), nc 29 (by decide) (by decide)]
        simp only [if_true, if_false, Nat.reduceEqDiff, or_false, or_true, true_or, false_or, or_self]
        exact XV.new T (by rw [ix_nI (by omega)]; exact ki.2.2.1.1)
      · exact (h1 j (by omega)).same (x 3 (by decide)) (by rw [w 16 (by decide), nj 16 j (by decide) z]) (fun q hq => by
          rw [w q (by unfold LG; simp; omega), nj q j (by omega) z])
    · rw [x 30 (by decide), fb_ct_succ]
      have c0 : wB (wr 600 (nI T) 0 (nI cnt) (nI k) S1) l cnt = false := by
        unfold wB
        refine decide_eq_false (fun q => ?_)
        have := q.1
        rw [w 21 (by decide), show S1 21 cnt = 0 from nc 21 (by decide) (by decide)] at this
        exact absurd this (by decide)
      have cc : fb_ct (wB (wr 600 (nI T) 0 (nI cnt) (nI k) S1) l) cnt = fb_ct (wB S l) cnt := fb_ct_cong (fun j hj => by
        unfold wB
        rw [w 21 (by decide), w 20 (by decide), nj 21 j (by decide) (by omega), nj 20 j (by decide) (by omega)])
      rw [c0, cc]
      simp only [Bool.false_eq_true, if_false, Nat.add_zero]
      exact h2 l hl'
    · have lf : LGf (cnt + 1) T ln S (fun t => if t < cnt then f t else lsv S t ln) := by
        obtain ⟨⟨a1, a2, a3, a4⟩, a5⟩ := hf
        refine ⟨⟨a1, a2, fun q hq => ?_, a4⟩, fun hl t ht => ?_⟩
        · obtain ⟨b1, j, b2, b3⟩ := a3 q hq
          exact ⟨b1, j, by omega, b3⟩
        · show _ = if t < cnt then f t else lsv S t ln
          by_cases z : t < cnt
          · rw [if_pos z]
            exact a5 hl t z
          · rw [if_neg z]
      have l1 : LJ (cnt + 1) T ln S1 := ⟨_, lf.ex nx (by decide), fun t ht q => by
        by_cases z : t = cnt
        · subst z
          rw [show S1 21 t = 0 from nc 21 (by decide) (by decide)] at q
          exact absurd q (by decide)
        · show (if t < cnt then f t else lsv S t ln) = _
          rw [if_pos (by omega), nj 29 t (by decide) z]
          rw [nj 21 t (by decide) z] at q
          exact h4 t (by omega) q⟩
      exact l1.wr hT (by omega) (by decide) _ (by omega))
  have xx : Ex (RW ++ LH) σ S1 := (hx.wk (by decide)).tr (nx.wk (by decide))
  refine ⟨_, by unfold f_X8_report; rw [k1]; rfl, k3, ⟨?_, ?_, ?_, ?_, ?_⟩, Tld.of D.2 xx (by decide) _ _ _, (ex_lo hx (by decide)).tr (ex_lo x (by decide))⟩
  · rw [w 21 (by decide), nc 21 (by decide) (by decide)]; rfl
  · rw [w 27 (by decide), nc 27 (by decide) (by decide)]; rfl
  · rw [w 28 (by decide), nc 28 (by decide) (by decide)]; rfl
  · rw [w 29 (by decide), nc 29 (by decide) (by decide)]; rfl
  · rw [w 26 (by decide), nc 26 (by decide) (by decide)]; rfl
/-! refusals -/
theorem n_pause (D : DI cnt kc T hl σ) (N : Nat) {t : Nat} (ht : t < cnt) (ha : ¬ (σ 21 t = 0 ∨ σ 21 t = 1)) : f_X8_pause N (nI t) σ = some (-5, σ) := by
  obtain ⟨-, h60, -, -, -, h15, -, -⟩ := D.b
  unfold f_X8_pause
  rw [chg_err (e := -5) (by rw [et_v h15 h60 ht (by decide) 0 0 0 (al_4 (by omega)), if_neg ha, if_pos rfl]) (by decide)]
  rfl
theorem n_resume (D : DI cnt kc T hl σ) (N : Nat) {t : Nat} (ht : t < cnt) (ha : σ 21 t ≠ 2) : f_X8_resume N (nI t) σ = some (-5, σ) := by
  obtain ⟨-, h60, -, -, -, h15, -, -⟩ := D.b
  unfold f_X8_resume
  rw [chg_err (e := -5) (by rw [et_v h15 h60 ht (by decide) 0 0 0 (al_5 (by omega)), if_neg ha, if_pos rfl]) (by decide)]
  rfl
theorem n_climb (D : DI cnt kc T hl σ) (N : Nat) {t : Nat} (ht : t < cnt) (ha : ¬ ((σ 21 t = 0 ∨ σ 21 t = 1) ∧ ¬ 3 ≤ σ 20 t)) : f_X8_climb N (nI t) σ = some (-5, σ) := by
  obtain ⟨-, h60, -, -, -, h15, -, -⟩ := D.b
  unfold f_X8_climb
  rw [chg_err (e := -5) (by rw [et_v h15 h60 ht (by decide) 0 0 0 (al_6 (by omega)), if_neg (c := (σ 21 t = 0 ∨ σ 21 t = 1) ∧ ¬ 3 ≤ σ 20 t) ha, if_pos rfl]) (by decide)]
  rfl
theorem n_solve (D : DI cnt kc T hl σ) (N : Nat) {t : Nat} (ht : t < cnt) (ha : ¬ (σ 21 t = 0 ∨ σ 21 t = 1 ∨ σ 21 t = 2)) : f_X8_solve N (nI t) σ = some (-5, σ) := by
  obtain ⟨-, h60, -, -, -, h15, -, -⟩ := D.b
  unfold f_X8_solve
  rw [chg_err (e := -5) (by rw [et_v h15 h60 ht (by decide) 0 0 0 (al_7 (by omega) (D.ri t ht).1), if_neg ha, if_pos rfl]) (by decide)]
  rfl
theorem n_reopen (D : DI cnt kc T hl σ) (N : Nat) {t : Nat} (ht : t < cnt) (ha : ¬ (σ 21 t = 3 ∧ σ 26 t = -1)) : f_X8_reopen N (nI t) σ = some (-5, σ) := by
  obtain ⟨-, h60, -, -, -, h15, -, -⟩ := D.b
  unfold f_X8_reopen
  rw [chg_err (e := -5) (by rw [et_v h15 h60 ht (by decide) 0 0 0 (al_8 (by omega)), if_neg (c := σ 21 t = 3 ∧ σ 26 t = -1) ha, if_pos rfl]) (by decide)]
  rfl
theorem n_part (D : DI cnt kc T hl σ) (N : Nat) {t : Nat} (ht : t < cnt) (ha : σ 21 t ≠ 4) : f_X8_part N (nI t) σ = some (-5, σ) := by
  obtain ⟨-, h60, -, -, -, h15, -, -⟩ := D.b
  unfold f_X8_part
  rw [chg_err (e := -5) (by rw [et_v h15 h60 ht (by decide) 0 0 0 (al_10 (by omega)), if_neg ha, if_pos rfl]) (by decide)]
  rfl
theorem n_join (D : DI cnt kc T hl σ) (N : Nat) {t r : Nat} (ht : t < cnt) (hr : r < cnt) (ha : ¬ (t ≠ r ∧ (σ 21 t = 0 ∨ σ 21 t = 1 ∨ σ 21 t = 2) ∧ (σ 21 r = 0 ∨ σ 21 r = 1 ∨ σ 21 r = 2))) : f_X8_join N (nI t) (nI r) σ = some (-5, σ) := by
  obtain ⟨-, h60, -, -, -, h15, -, -⟩ := D.b
  unfold f_X8_join
  rw [chg_err (e := -5) (by rw [ej_v h15 h60 ht hr (D.ri t ht).1 (D.ri r hr).1, if_neg ha]) (by decide)]
  rfl
theorem n_prio (D : DI cnt kc T hl σ) (N : Nat) {t : Nat} (ht : t < cnt) (ha : σ 21 t = 3) : f_X8_setPriority N (nI t) 0 σ = some (-5, σ) := by
  obtain ⟨-, h60, -, -, -, h15, -, -⟩ := D.b
  unfold f_X8_setPriority
  rw [chg_err (e := -5) (ep_v h15 h60 ht ha) (by decide)]
  rfl
end Ph
