section Hk
variable {tl : Nat} {κ μ : Sg}
/-! a whole script on both sides -/
/-- what the parse comes to -/
def Par (N : Nat) (κ μ : Sg) (r : Option (Int32 × Sg)) (q : Option (Int32 × Sg × Int64)) : Prop :=
  (∃ κ' μ' wd' sn, (r = some (1, κ') ∧ q = f_X9_runScript_67 N N 0 (up μ' 6 0 0) wd') ∧ (PK 0 κ κ' ∧ PM 0 μ μ') ∧ SR sn κ' μ' ∧ E0 κ' μ') ∨
  (∃ κ' μ' wd', (r = some (0, κ') ∧ q = some ((-7), up μ' 6 0 0, wd')) ∧ (PK 0 κ κ' ∧ PM 0 μ μ') ∧ EF κ' μ')
theorem Par.mono {N : Nat} {κ0 μ0 : Sg} {r : Option (Int32 × Sg)} {q : Option (Int32 × Sg × Int64)} (h : Par N κ0 μ0 r q) (a : PK 0 κ κ0) (b : PM 0 μ μ0) : Par N κ μ r q := by
  rcases h with ⟨κ', μ', wd', sn, h1, ⟨h2, h3⟩, h4⟩ | ⟨κ', μ', wd', h1, ⟨h2, h3⟩, h4⟩
  · exact Or.inl ⟨κ', μ', wd', sn, h1, ⟨a.tr h2, b.tr h3⟩, h4⟩
  · exact Or.inr ⟨κ', μ', wd', h1, ⟨a.tr h2, b.tr h3⟩, h4⟩
theorem rs_e (N n : Nat) {μ : Sg} (wd : Int64) (h : μ 12 0 ≠ 0) : f_X9_runScript_29 N (n + 1) μ wd = some ((-7), up μ 6 0 0, wd) := by
  rw [f_X9_runScript_29, if_neg h, if_neg h]
theorem ps_err {N : Nat} {wd : Int64} {x : Int32} (y : Int32) (hv : f_X9_statementOfWord N μ wd = some x) (h : (x = -1 ∧ y = 1) ∨ (x ≠ -1 ∧ μ 16 0 = 40 ∧ y = 3)) (e : μ 12 0 = 0) : f_X9_parseStatement N μ wd = some (up (up μ 12 0 y) 13 0 (μ 8 0), wd) := by
  have ne : y ≠ 0 → (up (up μ 12 0 y) 13 0 (μ 8 0)) 12 0 ≠ 0 := fun hy => by
    rw [up_row (by decide), up_same]
    exact hy
  unfold f_X9_parseStatement
  rw [hv, Option.bind_some]
  rcases h with ⟨rfl, rfl⟩ | ⟨h1, h2, rfl⟩
  · have n1 := ne (by decide)
    rw [if_pos rfl, rq_0 1 wd e, Option.bind_some]
    simp only [rq_e _ _ wd n1, Option.bind_some, if_neg n1]
    split <;> rfl
  · have n1 := ne (by decide)
    rw [if_neg h1, rq_1, Option.bind_some, if_pos (by rw [h2]; decide), rq_0 3 wd e, Option.bind_some, if_neg n1]
theorem parse_it {N : Nat} (hN : 1000 < N) : ∀ (r i n n' : Nat) (κ μ : Sg) (wd : Int64) (κ1 : Sg) (s p : Nat), i + r = 40 → r < n → r + 1 < n' → f_X5_readToken N (up κ 4 0 (nI i)) = some κ1 → TK tl κ1 μ wd s p → KX (up κ 4 0 (nI i)) κ1 → SS i κ1 μ → μ 16 0 = nI i → E0 κ1 μ →
    Par N κ μ (f_X5_parse_17 N n (nI i) κ) (f_X9_runScript_29 N n' μ wd)
  | r, i, n, n', κ, μ, wd, κ1, s, p, hi, hn, hn', hr, T, K, S, h16, e => by
    obtain ⟨m, rfl⟩ : ∃ q, n = q + 1 := ⟨n - 1, by omega⟩
    obtain ⟨m', rfl⟩ : ∃ q, n' = q + 1 := ⟨n' - 1, by omega⟩
    have k1 : PK 0 κ κ1 := (PK.u _ _ (Or.inl (by omega))).tr K.pk
    have h4 : κ1 4 0 = nI i := by rw [K 4 (by decide) (by decide) (by decide) (by decide), up_same]
    rw [f_X5_parse_17, if_neg (show ¬ (40 : Int32) < nI i from Int32.not_lt.mpr (nI_le' (b := 40) (by omega) (by decide))), hr, Option.bind_some, f_X9_runScript_29, if_pos e.2.1, fl_0, fl_0]
    have fail : ∀ (x y : Int32), y ≠ 0 → f_X9_statementOfWord N μ wd = some x → ((x = -1 ∧ y = 1) ∨ (x ≠ -1 ∧ μ 16 0 = 40 ∧ y = 3)) → Par N κ μ (some (0, up (up κ1 5 0 y) 6 0 (κ1 9 0))) ((f_X9_parseStatement N μ wd).bind (fun p5 => f_X9_runScript_29 N m' p5.1 p5.2)) := fun x y hy hv h => by
      obtain ⟨m2, rfl⟩ : ∃ q, m' = q + 1 := ⟨m' - 1, by omega⟩
      have ne : (up (up μ 12 0 y) 13 0 (μ 8 0)) 12 0 = y := by rw [up_row (by decide), up_same]
      rw [ps_err y hv h e.2.1, Option.bind_some]
      refine Or.inr ⟨_, up (up μ 12 0 y) 13 0 (μ 8 0), wd, ⟨rfl, ?_⟩, ⟨(k1.tr (PK.u _ _ (Or.inl (by omega)))).tr (PK.u _ _ (Or.inl (by omega))), (PM.u _ _ (Or.inl (by omega))).tr (PM.u _ _ (Or.inl (by omega)))⟩, ?_, ?_, by rw [ne]; exact hy⟩
      · exact rs_e N m2 wd (μ := up (up μ 12 0 y) 13 0 (μ 8 0)) (by rw [ne]; exact hy)
      · rw [up_row (by decide), up_same, ne]
      · rw [up_same, up_same]
        exact T.st
    have t7 := T.2.2
    by_cases z : κ1 8 0 = 0
    · have z9 : μ 9 0 = 0 := by
        rcases t7 with ⟨a, b, -⟩ | ⟨a, -⟩ | ⟨a, -⟩ | ⟨a, -⟩ | ⟨a, -⟩
        · exact b
        all_goals exact absurd (a.symm.trans z) (by decide)
      rw [if_pos z, if_pos z9, if_pos e.2.1]
      exact Or.inl ⟨κ1, μ, wd, i, ⟨rfl, rfl⟩, ⟨k1, PM.rfl' _ _⟩, ⟨by omega, h4, h16, S⟩, e⟩
    · have z9 : μ 9 0 ≠ 0 := by
        rcases t7 with ⟨a, b, -⟩ | ⟨a, b, -⟩ | ⟨a, b, -⟩ | ⟨a, b⟩ | ⟨a, b⟩
        · exact absurd a z
        all_goals (rw [b]; decide)
      rw [if_neg z, if_neg z9]
      rcases verb_sim T hN with ⟨a, b⟩ | ⟨c, hc, a, b⟩
      · rw [a, Option.bind_some, if_pos rfl]
        exact fail _ 1 (by decide) b (Or.inl ⟨rfl, rfl⟩)
      · obtain ⟨-, -, -, v7, v8⟩ := v_fin c hc
        rw [a, Option.bind_some, if_neg v7]
        match r, hi, hn, hn' with
        | 0, hi, hn, hn' =>
          have e40 : nI i = 40 := by rw [show i = 40 from by omega]; rfl
          rw [if_pos e40]
          exact fail _ 3 (by decide) b (Or.inr ⟨v8, h16.trans e40, rfl⟩)
        | r + 1, hi, hn, hn' =>
          rw [if_neg (show ¬ nI i = 40 from fun q => by have := (nI_eq (a := i) (b := 40) (by omega) (by omega)).mp q; omega)]
          rcases st_sim (by omega) hc T S h16 e hN b with ⟨κ', μ', wd', κ2, s', p', ⟨g1, g2⟩, ⟨g3, g4⟩, g5, g6, g7, g8, g9, g10⟩ | ⟨κ', μ', wd', ⟨g1, g2⟩, ⟨g3, g4⟩, g5⟩
          · rw [g1, g2, Option.bind_some, Option.bind_some, if_neg (show ¬ (1 : Int32) = 0 by decide), nI_1]
            have gk : PK (i + 1) κ' κ2 := (PK.u _ _ (Or.inl (by omega))).tr g10.pk
            exact (parse_it hN r (i + 1) m m' κ' μ' wd' κ2 s' p' (by omega) (by omega) (by omega) g8 g9 g10 (g5.keep gk (PM.rfl' _ _)) g6 ⟨⟨by rw [g10 5 (by decide) (by decide) (by decide) (by decide), up_row (by decide)]; exact g7.1.1, by rw [g10 6 (by decide) (by decide) (by decide) (by decide), up_row (by decide)]; exact g7.1.2⟩, g7.2⟩).mono (k1.tr (g3.le (Nat.zero_le _))) (g4.le (Nat.zero_le _))
          · obtain ⟨m2, rfl⟩ : ∃ q, m' = q + 1 := ⟨m' - 1, by omega⟩
            rw [g1, g2, Option.bind_some, Option.bind_some, if_pos rfl, rs_e N m2 wd' g5.2.2]
            exact Or.inr ⟨κ', μ', wd', ⟨rfl, rfl⟩, ⟨k1.tr (g3.le (Nat.zero_le _)), g4.le (Nat.zero_le _)⟩, g5⟩
  termination_by r => r
variable {cnt kc T hl : Nat} {σ : Sg}
/-- the errors and the failure -/
def ERs (κ μ : Sg) : Prop := κ 5 0 = μ 12 0 ∧ κ 6 0 = μ 13 0 ∧ κ 7 0 = μ 14 0
/-- the rows of a script in the class, in the reference -/
def FKs (κ κ' : Sg) : Prop := ∀ r, r ≠ 1 → r ≠ 4 → r ≠ 5 → r ≠ 6 → r ≠ 7 → r ≠ 8 → r ≠ 9 → r ≠ 10 → r ≠ 11 → r ≠ 62 → r ≠ 64 → r ≠ 65 → κ' r = κ r
def FMs (μ μ' : Sg) : Prop := ∀ r, r ≠ 1 → r ≠ 6 → r ≠ 7 → r ≠ 8 → r ≠ 9 → r ≠ 10 → r ≠ 11 → r ≠ 12 → r ≠ 13 → r ≠ 14 → r ≠ 15 → r ≠ 16 → μ' r = μ r
theorem script_sim (V : LV cnt kc T hl σ μ) (X : TX tl κ μ) (wd : Int64) {N : Nat} (hN : 10100 < N) :
    ∃ r cnt' kc' T' hl' σ' κ' μ' wd', f_X8_runScript N σ κ = some (r, σ', κ') ∧ f_X9_runScript N μ wd = some (r, μ', wd') ∧ LV cnt' kc' T' hl' σ' μ' ∧ TX 0 κ' μ' ∧ ERs κ' μ' ∧ FKs κ κ' ∧ FMs μ μ' := by
  have x4 := X.1
  have T0 : ∃ s p κ1 μ1 wd1, f_X5_readToken N (up (up (up (up (up κ 7 0 0) 5 0 0) 6 0 (-1)) 10 0 0) 4 0 (nI 0)) = some κ1 ∧ f_X9_nextToken N (up (up (up (up (up μ 12 0 0) 13 0 (-1)) 14 0 0) 16 0 0) 7 0 0) wd = some (μ1, wd1) ∧ TK tl κ1 μ1 wd1 s p ∧ KX (up (up (up (up (up κ 7 0 0) 5 0 0) 6 0 (-1)) 10 0 0) 4 0 (nI 0)) κ1 ∧ MX (up (up (up (up (up μ 12 0 0) 13 0 (-1)) 14 0 0) 16 0 0) 7 0 0) μ1 := by
    obtain ⟨s, p, κ', μ', wd', a1, a2, a3, a4, a5, a6⟩ := tok_it (tl := tl) wd (show 1000 < N by omega) tl 0 N N (up (up (up (up (up κ 7 0 0) 5 0 0) 6 0 (-1)) 10 0 0) 4 0 (nI 0)) (up (up (up (up (up μ 12 0 0) 13 0 (-1)) 14 0 0) 16 0 0) 7 0 0) (by omega) (X.ex (by simp [up]) (by simp [up]) (by simp [up]) (by simp [up])) (by rw [up_row (by decide), up_same]; rfl) (by rw [up_same]; rfl) (by omega) (by omega)
    exact ⟨s, p, κ', μ', wd', a1, a2, a3, a5, a6⟩
  obtain ⟨s, p, κ1, μ1, wd1, h1, h2, h3, h4, h5⟩ := T0
  have ee : E0 κ1 μ1 := by
    refine ⟨⟨?_, ?_⟩, ?_, ?_⟩
    · rw [h4 5 (by decide) (by decide) (by decide) (by decide)]
      simp [up, upd]
    · rw [h4 6 (by decide) (by decide) (by decide) (by decide)]
      simp [up, upd]
    · rw [h5 12 (by decide) (by decide) (by decide) (by decide) (by decide)]
      simp [up, upd]
    · rw [h5 13 (by decide) (by decide) (by decide) (by decide) (by decide)]
      simp [up, upd]
  have P := parse_it (tl := tl) (show 1000 < N by omega) 40 0 N N (up (up (up (up κ 7 0 0) 5 0 0) 6 0 (-1)) 10 0 0) μ1 wd1 κ1 s p (by omega) (by omega) (by omega) h1 h3 h4 (fun i hi => absurd hi (Nat.not_lt_zero _)) (by rw [h5 16 (by decide) (by decide) (by decide) (by decide) (by decide)]; simp [up, upd]; rfl) ee
  have q8 : f_X8_runScript N σ κ = (f_X5_parse_17 N N (nI 0) (up (up (up (up κ 7 0 0) 5 0 0) 6 0 (-1)) 10 0 0)).bind (fun p1 => (if p1.1 = 0 then some ((-7), σ, (up p1.2 1 0 0)) else f_X8_runScript_33 N N 0 σ (up p1.2 1 0 0))) := rfl
  have q9 : f_X9_runScript N μ wd = f_X9_runScript_29 N N μ1 wd1 := by
    unfold f_X9_runScript
    rw [h2, Option.bind_some]
  have m1 : ∀ r, r ≠ 7 → r ≠ 8 → r ≠ 9 → r ≠ 10 → r ≠ 11 → r ≠ 12 → r ≠ 13 → r ≠ 14 → r ≠ 16 → μ1 r = μ r := fun r r1 r2 r3 r4 r5 r6 r7 r8 r9 => by
    rw [h5 r r1 r2 r3 r4 r5, up_row r1, up_row r9, up_row r8, up_row r7, up_row r6]
  have m14 : μ1 14 0 = 0 := by
    rw [h5 14 (by decide) (by decide) (by decide) (by decide) (by decide)]
    simp [up, upd]
  have ck : ∀ r, r ≠ 5 → r ≠ 6 → r ≠ 7 → r ≠ 10 → (up (up (up (up κ 7 0 0) 5 0 0) 6 0 (-1)) 10 0 0) r = κ r := fun r r1 r2 r3 r4 => by
    rw [up_row r4, up_row r2, up_row r1, up_row r3]
  have ck7 : (up (up (up (up κ 7 0 0) 5 0 0) 6 0 (-1)) 10 0 0) 7 0 = 0 := by simp [up, upd]
  rcases P with ⟨κ', μ', wd', sn, ⟨g1, g2⟩, ⟨g3, g4⟩, g5, g6⟩ | ⟨κ', μ', wd', ⟨g1, g2⟩, ⟨g3, g4⟩, g5⟩
  · rw [q8, q9, g1, g2, Option.bind_some, if_neg (show ¬ (1 : Int32) = 0 by decide)]
    have k7 : κ' 7 0 = 0 := by rw [g3.1 7 (by decide) (by decide) (by decide) (by decide) (by decide) (by decide) (by decide) (by decide) (by decide) (by decide)]; exact ck7
    have k14 : μ' 14 0 = 0 := by rw [g4.1 14 (by decide) (by decide) (by decide) (by decide) (by decide) (by decide) (by decide) (by decide) (by decide)]; exact m14
    have V' : LV cnt kc T hl σ (up μ' 6 0 0) := V.pv (pv_same fun a _ => by rw [up_row (by decide), g4.1 1 (by decide) (by decide) (by decide) (by decide) (by decide) (by decide) (by decide) (by decide) (by decide), m1 1 (by decide) (by decide) (by decide) (by decide) (by decide) (by decide) (by decide) (by decide) (by decide)])
    have S' : SR sn (up κ' 1 0 0) (up μ' 6 0 0) := by
      unfold SR
      rw [up_row (by decide), up_row (by decide), up_row (by decide), up_row (by decide), up_row (by decide), up_row (by decide)]
      exact g5
    have s40 := g5.1
    obtain ⟨r, c2, k2, t2, l2, σ2, κ2, μ2, a1, a2, a3, a4, a5, a6⟩ := run_it wd' hN sn 0 cnt kc T hl N N σ (up μ' 6 0 0) (by omega) V' S' (by rw [up_row (by decide)]; exact k7) (by rw [up_row (by decide)]; exact k14) (by omega) (by omega)
    refine ⟨r, c2, k2, t2, l2, σ2, κ2, μ2, wd', a1, a2, a3, ⟨Nat.zero_le _, ?_, ?_, fun i hi => absurd hi (Nat.not_lt_zero _)⟩, ⟨?_, ?_, a6⟩, fun r r1 r2 r3 r4 r5 r6 r7 r8 r9 s1 s2 s3 => ?_, fun r r1 r2 r3 r4 r5 r6 r7 r8 r9 s1 s2 s3 => ?_⟩
    · rw [a5 1 (by decide), up_same]
      rfl
    · rw [a4 6 (by decide) (by decide), up_same]
      rfl
    · rw [a5 5 (by decide), up_row (by decide), a4 12 (by decide) (by decide), up_row (by decide), g6.1.1, g6.2.1]
    · rw [a5 6 (by decide), up_row (by decide), a4 13 (by decide) (by decide), up_row (by decide), g6.1.2, g6.2.2]
    · rw [a5 r r5, up_row r1, g3.1 r r2 r3 r4 r6 r7 r8 r9 s1 s2 s3, ck r r3 r4 r5 r8]
    · rw [a4 r r1 s1, up_row r2, g4.1 r r3 r4 r5 r6 r7 r8 r9 s2 s3, m1 r r3 r4 r5 r6 r7 r8 r9 s1 s3]
  · rw [q8, q9, g1, g2, Option.bind_some, if_pos rfl]
    refine ⟨-7, cnt, kc, T, hl, σ, up κ' 1 0 0, up μ' 6 0 0, wd', rfl, rfl, V.pv (pv_same fun a _ => by rw [up_row (by decide), g4.1 1 (by decide) (by decide) (by decide) (by decide) (by decide) (by decide) (by decide) (by decide) (by decide), m1 1 (by decide) (by decide) (by decide) (by decide) (by decide) (by decide) (by decide) (by decide) (by decide)]), ⟨Nat.zero_le _, up_same _ _ _ _, up_same _ _ _ _, fun i hi => absurd hi (Nat.not_lt_zero _)⟩, ⟨?_, ?_, ?_⟩, fun r r1 r2 r3 r4 r5 r6 r7 r8 r9 s1 s2 s3 => ?_, fun r r1 r2 r3 r4 r5 r6 r7 r8 r9 s1 s2 s3 => ?_⟩
    · rw [up_row (by decide), up_row (by decide)]
      exact g5.1
    · rw [up_row (by decide), up_row (by decide)]
      exact g5.2.1
    · rw [up_row (by decide), up_row (by decide), g3.1 7 (by decide) (by decide) (by decide) (by decide) (by decide) (by decide) (by decide) (by decide) (by decide) (by decide), g4.1 14 (by decide) (by decide) (by decide) (by decide) (by decide) (by decide) (by decide) (by decide) (by decide), ck7, m14]
    · rw [up_row r1, g3.1 r r2 r3 r4 r6 r7 r8 r9 s1 s2 s3, ck r r3 r4 r5 r8]
    · rw [up_row r2, g4.1 r r3 r4 r5 r6 r7 r8 r9 s2 s3, m1 r r3 r4 r5 r6 r7 r8 r9 s1 s3]
end Hk
