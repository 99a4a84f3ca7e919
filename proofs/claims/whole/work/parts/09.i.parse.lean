section Hi
variable {tl : Nat} {κ μ : Sg}
/-! the parser on both sides -/
/-- the rows that the parser of the class leaves, and of the statements before i everything -/
def PK (i : Nat) (κ κ' : Sg) : Prop := (∀ r, r ≠ 4 → r ≠ 5 → r ≠ 6 → r ≠ 8 → r ≠ 9 → r ≠ 10 → r ≠ 11 → r ≠ 62 → r ≠ 64 → r ≠ 65 → κ' r = κ r) ∧ (∀ a, a < i → κ' 62 a = κ 62 a ∧ κ' 64 a = κ 64 a) ∧ ∀ a, a < 5 * i → κ' 65 a = κ 65 a
def PM (i : Nat) (μ μ' : Sg) : Prop := (∀ r, r ≠ 7 → r ≠ 8 → r ≠ 9 → r ≠ 10 → r ≠ 11 → r ≠ 12 → r ≠ 13 → r ≠ 15 → r ≠ 16 → μ' r = μ r) ∧ ∀ a, a < 7 * i → μ' 15 a = μ 15 a
theorem PK.rfl' (i : Nat) (κ : Sg) : PK i κ κ := ⟨fun _ _ _ _ _ _ _ _ _ _ _ => rfl, fun _ _ => ⟨rfl, rfl⟩, fun _ _ => rfl⟩
theorem PM.rfl' (i : Nat) (μ : Sg) : PM i μ μ := ⟨fun _ _ _ _ _ _ _ _ _ _ => rfl, fun _ _ => rfl⟩
theorem PK.tr {i : Nat} {a b c : Sg} (h : PK i a b) (g : PK i b c) : PK i a c := ⟨fun r r1 r2 r3 r4 r5 r6 r7 r8 r9 r0 => (g.1 r r1 r2 r3 r4 r5 r6 r7 r8 r9 r0).trans (h.1 r r1 r2 r3 r4 r5 r6 r7 r8 r9 r0), fun x hx => ⟨(g.2.1 x hx).1.trans (h.2.1 x hx).1, (g.2.1 x hx).2.trans (h.2.1 x hx).2⟩, fun x hx => (g.2.2 x hx).trans (h.2.2 x hx)⟩
theorem PM.tr {i : Nat} {a b c : Sg} (h : PM i a b) (g : PM i b c) : PM i a c := ⟨fun r r1 r2 r3 r4 r5 r6 r7 r8 r9 => (g.1 r r1 r2 r3 r4 r5 r6 r7 r8 r9).trans (h.1 r r1 r2 r3 r4 r5 r6 r7 r8 r9), fun x hx => (g.2 x hx).trans (h.2 x hx)⟩
theorem PK.le {i j : Nat} {a b : Sg} (h : PK i a b) (hj : j ≤ i) : PK j a b := ⟨h.1, fun x hx => h.2.1 x (by omega), fun x hx => h.2.2 x (by omega)⟩
theorem PM.le {i j : Nat} {a b : Sg} (h : PM i a b) (hj : j ≤ i) : PM j a b := ⟨h.1, fun x hx => h.2 x (by omega)⟩
theorem PK.u {i k a : Nat} (κ : Sg) (v : Int32) (h : (k = 4 ∨ k = 5 ∨ k = 6) ∨ ((k = 62 ∨ k = 64) ∧ i ≤ a) ∨ (k = 65 ∧ 5 * i ≤ a)) : PK i κ (up κ k a v) :=
  ⟨fun r r1 r2 r3 r4 r5 r6 r7 r8 r9 r0 => up_row (by omega), fun x hx => ⟨up_other (by omega), up_other (by omega)⟩, fun x hx => up_other (by omega)⟩
theorem PM.u {i k a : Nat} (μ : Sg) (v : Int32) (h : (k = 12 ∨ k = 13 ∨ k = 16) ∨ (k = 15 ∧ 7 * i ≤ a)) : PM i μ (up μ k a v) :=
  ⟨fun r r1 r2 r3 r4 r5 r6 r7 r8 r9 => up_row (by omega), fun x hx => up_other (by omega)⟩
theorem KX.pk {i : Nat} {κ κ' : Sg} (h : KX κ κ') : PK i κ κ' := ⟨fun r r1 r2 r3 r4 r5 r6 r7 r8 r9 r0 => h r r4 r5 r6 r7, fun x _ => ⟨by rw [h 62 (by decide) (by decide) (by decide) (by decide)], by rw [h 64 (by decide) (by decide) (by decide) (by decide)]⟩, fun x _ => by rw [h 65 (by decide) (by decide) (by decide) (by decide)]⟩
theorem MX.pm {i : Nat} {μ μ' : Sg} (h : MX μ μ') : PM i μ μ' := ⟨fun r r1 r2 r3 r4 r5 r6 r7 r8 r9 => h r r1 r2 r3 r4 r5, fun x _ => by rw [h 15 (by decide) (by decide) (by decide) (by decide) (by decide)]⟩
/-- one statement on both sides -/
def SQ (i : Nat) (κ μ : Sg) : Prop := VY (κ 62 i) (μ 15 (7 * i)) ∧ (∀ j, j < 5 → κ 65 (5 * i + j) = μ 15 (7 * i + 1 + j)) ∧ κ 64 i = μ 15 (7 * i + 6) ∧ (κ 64 i = 0 ∨ κ 64 i = 1)
def SS (n : Nat) (κ μ : Sg) : Prop := ∀ i, i < n → SQ i κ μ
theorem SS.keep {n : Nat} {κ' μ' : Sg} (h : SS n κ μ) (g1 : PK n κ κ') (g2 : PM n μ μ') : SS n κ' μ' := fun i hi => by
  obtain ⟨a, b, c, d⟩ := h i hi
  unfold SQ
  rw [(g1.2.1 i hi).1, (g1.2.1 i hi).2, g2.2 (7 * i) (by omega), g2.2 (7 * i + 6) (by omega)]
  exact ⟨a, fun j hj => by rw [g1.2.2 _ (by omega), g2.2 _ (by omega)]; exact b j hj, c, d⟩
/-- no error so far; the same error -/
def E0 (κ μ : Sg) : Prop := (κ 5 0 = 0 ∧ κ 6 0 = -1) ∧ μ 12 0 = 0 ∧ μ 13 0 = -1
def EF (κ μ : Sg) : Prop := κ 5 0 = μ 12 0 ∧ κ 6 0 = μ 13 0 ∧ μ 12 0 ≠ 0
theorem TK.ex {wd : Int64} {s p : Nat} {κ' μ' : Sg} (T : TK tl κ μ wd s p) (h : ∀ r, r = 1 ∨ r = 61 ∨ r = 8 ∨ r = 9 ∨ r = 10 ∨ r = 11 → κ' r = κ r) (g : ∀ r, r = 5 ∨ r = 6 ∨ r = 7 ∨ r = 8 ∨ r = 9 ∨ r = 10 ∨ r = 11 → μ' r = μ r) : TK tl κ' μ' wd s p := by
  unfold TK TX
  rw [h 1 (by omega), h 61 (by omega), h 8 (by omega), h 9 (by omega), h 10 (by omega), h 11 (by omega), g 5 (by omega), g 6 (by omega), g 7 (by omega), g 8 (by omega), g 9 (by omega), g 10 (by omega), g 11 (by omega)]
  exact T
theorem tk_next {wd : Int64} {s p : Nat} (T : TK tl κ μ wd s p) {N : Nat} (hN : 1000 < N) : ∃ s' p' κ' μ' wd', f_X5_readToken N κ = some κ' ∧ f_X9_nextToken N μ wd = some (μ', wd') ∧ TK tl κ' μ' wd' s' p' ∧ KX κ κ' ∧ MX μ μ' := by
  obtain ⟨X, ⟨t1, t2, t3, t4, t5, t6⟩, t7⟩ := T
  have x4 := X.1
  obtain ⟨s', p', κ', μ', wd', a1, a2, a3, a4, a5, a6⟩ := tok_it wd hN (tl - p) p N N κ μ (by omega) X t1 t2 (by omega) (by omega)
  exact ⟨s', p', κ', μ', wd', a1, a2, a3, a5, a6⟩
theorem rq_1 (y : Int32) (μ : Sg) (wd : Int64) : f_X9_require 1 y μ wd = some μ := by
  unfold f_X9_require
  rw [if_neg (by decide)]
theorem rq_0 (y : Int32) {μ : Sg} (wd : Int64) (h : μ 12 0 = 0) : f_X9_require 0 y μ wd = some (up (up μ 12 0 y) 13 0 (μ 8 0)) := by
  unfold f_X9_require
  rw [if_pos rfl, if_pos h]
theorem rq_e (x y : Int32) {μ : Sg} (wd : Int64) (h : μ 12 0 ≠ 0) : f_X9_require x y μ wd = some μ := by
  unfold f_X9_require
  rw [if_neg h]
  split <;> rfl
theorem ad_0 (N : Nat) {μ : Sg} (wd : Int64) (h : μ 12 0 = 0) : f_X9_advance N μ wd = f_X9_nextToken N μ wd := by
  unfold f_X9_advance
  rw [if_pos h, bind_pair]
theorem ad_e (N : Nat) {μ : Sg} (wd : Int64) (h : μ 12 0 ≠ 0) : f_X9_advance N μ wd = some (μ, wd) := by
  unfold f_X9_advance
  rw [if_neg h]
theorem pn_e (N : Nat) {μ : Sg} (wd : Int64) (h : μ 12 0 ≠ 0) : f_X9_parseNumber N μ wd = some (μ 11 0, μ, wd) := by
  have r := fun x y => rq_e x y wd h
  unfold f_X9_parseNumber
  rw [r, r, Option.bind_some, r, r, Option.bind_some, ad_e N wd h, Option.bind_some]
  split <;> split <;> rfl
/-- behind an error the reference reads on to the statement's end, and nothing comes of it -/
theorem st_e (N : Nat) {μ : Sg} (wd : Int64) (h : μ 12 0 ≠ 0) : f_X9_parseStatement_154 N μ wd = some (up μ 16 0 (μ 16 0 + 1), wd) := by
  unfold f_X9_parseStatement_154
  rw [rq_e 1 1 wd h, rq_e 0 1 wd h, Option.bind_some, ad_e N wd h, Option.bind_some]
  split <;> rfl
theorem args_e {i c : Nat} (hi : i < 40) (hc : c < 13) (N : Nat) (wd : Int64) : ∀ (r j n : Nat) (μ : Sg), j + r = van c → r < n → μ 12 0 ≠ 0 →
    ∃ μ', f_X9_parseStatement_91 N n (vmc c) (nI (7 * i)) (nI (j + 1)) μ wd = some (μ', wd) ∧ μ' 12 0 = μ 12 0 ∧ μ' 13 0 = μ 13 0 ∧ PM i μ μ'
  | 0, j, n, μ, hj, hn, h => by
    obtain ⟨m, rfl⟩ : ∃ q, n = q + 1 := ⟨n - 1, by omega⟩
    obtain ⟨⟨v1, v2, v3, v4⟩, v5⟩ := v_fin c hc
    refine ⟨up μ 16 0 (μ 16 0 + 1), ?_, by rw [up_row (by decide)], by rw [up_row (by decide)], PM.u _ _ (Or.inl (by omega))⟩
    rw [f_X9_parseStatement_91, v4, Option.bind_some, if_pos (z_lt.mpr (by rw [z_nI (by omega), z_nI (by omega)]; omega)), if_neg h, st_e N wd h]
  | r + 1, j, n, μ, hj, hn, h => by
    obtain ⟨m, rfl⟩ : ∃ q, n = q + 1 := ⟨n - 1, by omega⟩
    obtain ⟨⟨v1, v2, v3, v4⟩, v5⟩ := v_fin c hc
    obtain ⟨μ', a1, a2, a3, a4⟩ := args_e hi hc N wd r (j + 1) m (up μ 15 (7 * i + (j + 1)) (μ 11 0)) (by omega) (by omega) (by rw [up_row (by decide)]; exact h)
    refine ⟨μ', ?_, by rw [a2, up_row (by decide)], by rw [a3, up_row (by decide)], (PM.u _ _ (Or.inr ⟨rfl, by omega⟩)).tr a4⟩
    rw [f_X9_parseStatement_91, v4, Option.bind_some, if_neg (fun z => by have := z_lt.mp z; rw [z_nI (by omega), z_nI (by omega)] at this; omega), pn_e N wd h, Option.bind_some, nI_add, if_pos (ib_nI (by omega) (by decide)), ix_nI (by omega), nI_1, a1]
/-- what a statement comes to -/
def Out (N tl i : Nat) (κ μ : Sg) (r : Option (Int32 × Sg)) (q : Option (Sg × Int64)) : Prop :=
  (∃ κ' μ' wd' κ1 s p, (r = some (1, κ') ∧ q = some (μ', wd')) ∧ (PK i κ κ' ∧ PM i μ μ') ∧ SS (i + 1) κ' μ' ∧ μ' 16 0 = nI (i + 1) ∧ E0 κ' μ' ∧ f_X5_readToken N (up κ' 4 0 (nI (i + 1))) = some κ1 ∧ TK tl κ1 μ' wd' s p ∧ KX (up κ' 4 0 (nI (i + 1))) κ1) ∨
  (∃ κ' μ' wd', (r = some (0, κ') ∧ q = some (μ', wd')) ∧ (PK i κ κ' ∧ PM i μ μ') ∧ EF κ' μ')
theorem Out.mono {N i : Nat} {κ0 μ0 : Sg} {r : Option (Int32 × Sg)} {q : Option (Sg × Int64)} (h : Out N tl i κ0 μ0 r q) (a : PK i κ κ0) (b : PM i μ μ0) : Out N tl i κ μ r q := by
  rcases h with ⟨κ', μ', wd', κ1, s, p, h1, ⟨h2, h3⟩, h4⟩ | ⟨κ', μ', wd', h1, ⟨h2, h3⟩, h4⟩
  · exact Or.inl ⟨κ', μ', wd', κ1, s, p, h1, ⟨a.tr h2, b.tr h3⟩, h4⟩
  · exact Or.inr ⟨κ', μ', wd', h1, ⟨a.tr h2, b.tr h3⟩, h4⟩
theorem TK.st {wd : Int64} {s p : Nat} (T : TK tl κ μ wd s p) : κ 9 0 = μ 8 0 := T.2.1.2.2.1.trans T.2.1.2.2.2.1.symm
/-- a statement's last token -/
theorem fin_tok {wd : Int64} {s p i : Nat} (hi : i < 40) (T : TK tl κ μ wd s p) (S : SS i κ μ) (Q : SQ i κ μ) (h16 : μ 16 0 = nI i) (e : E0 κ μ) {N : Nat} (hN : 1000 < N) : Out N tl i κ μ (f_X5_parseStatement_121 N κ) (f_X9_parseStatement_154 N μ wd) := by
  have t7 := T.2.2
  have bad : κ 8 0 ≠ 3 → μ 9 0 ≠ 4 → Out N tl i κ μ (f_X5_parseStatement_121 N κ) (f_X9_parseStatement_154 N μ wd) := fun a b => by
    have ne : (up (up μ 12 0 1) 13 0 (μ 8 0)) 12 0 = 1 := by rw [up_row (by decide), up_same]
    refine Or.inr ⟨up (up κ 5 0 1) 6 0 (κ 9 0), up (up (up μ 12 0 1) 13 0 (μ 8 0)) 16 0 ((up (up μ 12 0 1) 13 0 (μ 8 0)) 16 0 + 1), wd, ⟨?_, ?_⟩, ⟨(PK.u _ _ (Or.inl (by omega))).tr (PK.u _ _ (Or.inl (by omega))), ((PM.u _ _ (Or.inl (by omega))).tr (PM.u _ _ (Or.inl (by omega)))).tr (PM.u _ _ (Or.inl (by omega)))⟩, ?_, ?_, ?_⟩
    · unfold f_X5_parseStatement_121 f_X5_fail
      rw [if_neg a]
      rfl
    · unfold f_X9_parseStatement_154
      rw [if_neg b, rq_0 1 wd e.2.1, Option.bind_some, ad_e N wd (by rw [ne]; decide)]
      rfl
    · rw [up_row (by decide), up_same, up_row (by decide), ne]
    · rw [up_same, up_row (by decide), up_same]
      exact T.st
    · rw [up_row (by decide), ne]
      decide
  rcases t7 with ⟨a, b, -⟩ | ⟨a, b, -⟩ | ⟨a, b, -⟩ | ⟨a, b⟩ | ⟨a, b⟩
  · exact bad (by rw [a]; decide) (by rw [b]; decide)
  · exact bad (by rw [a]; decide) (by rw [b]; decide)
  · exact bad (by rw [a]; decide) (by rw [b]; decide)
  · have T' : TK tl (up κ 4 0 (nI (i + 1))) μ wd s p := T.ex (fun r hr => up_row (by omega)) fun _ _ => rfl
    obtain ⟨s', p', κ1, μ1, wd1, h1, h2, h3, h4, h5⟩ := tk_next T' hN
    have e12 : μ1 12 = μ 12 := h5 12 (by decide) (by decide) (by decide) (by decide) (by decide)
    have e13 : μ1 13 = μ 13 := h5 13 (by decide) (by decide) (by decide) (by decide) (by decide)
    have e16 : μ1 16 = μ 16 := h5 16 (by decide) (by decide) (by decide) (by decide) (by decide)
    refine Or.inl ⟨κ, up μ1 16 0 (nI (i + 1)), wd1, κ1, s', p', ⟨?_, ?_⟩, ⟨PK.rfl' _ _, h5.pm.tr (PM.u _ _ (Or.inl (by omega)))⟩, ?_, up_same _ _ _ _, ⟨e.1, by rw [up_row (by decide), e12]; exact e.2.1, by rw [up_row (by decide), e13]; exact e.2.2⟩, h1, h3.ex (fun _ _ => rfl) (fun r hr => up_row (by omega)), h4⟩
    · unfold f_X5_parseStatement_121
      rw [if_pos a]
    · unfold f_X9_parseStatement_154
      rw [if_pos b, rq_1, Option.bind_some, ad_0 N wd e.2.1, h2, Option.bind_some]
      show some (up μ1 16 0 (μ1 16 0 + 1), wd1) = _
      rw [e16, h16, nI_1]
    · have S1 : SS (i + 1) κ μ := fun x hx => by
        by_cases y : x = i
        · rw [y]
          exact Q
        · exact S x (by omega)
      exact S1.keep (PK.rfl' _ _) (h5.pm.tr (PM.u _ _ (Or.inl (by omega))))
  · exact bad (by rw [a]; decide) (by rw [b]; decide)
end Hi
