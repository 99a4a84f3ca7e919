section Hh
variable {tl : Nat} {κ μ : Sg}
/-! words on both sides -/
abbrev w_ln (k : Nat) : Nat := strN.getD k 0
abbrev w_bt (k i : Nat) : Int32 := (strB.getD k []).getD i 0
theorem w_fin : ∀ k, k < 15 → (f_J0_length_8abf5 k = some (nI (w_ln k)) ∧ w_ln k ≤ 8) ∧ ∀ i, i < w_ln k → f_J0_charAt_5068e k (nI i) = some (w_bt k i) ∧ (97 ≤ (w_bt k i).toInt ∧ (w_bt k i).toInt ≤ 122) := by decide +kernel
theorem pk_s {w : Int64} {x : Int32} (h1 : 0 ≤ w.toInt) (h2 : w.toInt < 1000000000000) (hx : 97 ≤ x.toInt ∧ x.toInt ≤ 122) : ((27 * w + x.toInt64) - 96).toInt = 27 * w.toInt + x.toInt - 96 := by
  have bm : ∀ z : Int, -1000000000000000 ≤ z → z ≤ 1000000000000000 → z.bmod (2 ^ 64) = z := fun z a b => by
    rw [Int.bmod_def]
    split <;> omega
  have a1 : (27 : Int64).toInt = 27 := by decide
  have a2 : (96 : Int64).toInt = 96 := by decide
  rw [Int64.toInt_sub, Int64.toInt_add, Int64.toInt_mul, Int32.toInt_toInt64, a1, a2, bm (27 * w.toInt) (by omega) (by omega), bm (27 * w.toInt + x.toInt) (by omega) (by omega), bm _ (by omega) (by omega)]
theorem wdv_b (f : Nat → Int32) (s : Nat) : ∀ q, q ≤ 9 → (∀ i, i < q → 97 ≤ (f (s + i)).toInt ∧ (f (s + i)).toInt ≤ 122) → 0 ≤ (wdv f s q).toInt ∧ (wdv f s q).toInt < ((27 ^ q : Nat) : Int)
  | 0, _, _ => by
    show 0 ≤ (0 : Int64).toInt ∧ (0 : Int64).toInt < ((27 ^ 0 : Nat) : Int)
    decide
  | q + 1, h, hf => by
    have ih := wdv_b f s q (by omega) (fun i hi => hf i (by omega))
    have b := hf q (by omega)
    have hp : 27 ^ q ≤ 27 ^ 8 := Nat.pow_le_pow_right (by decide) (by omega)
    have hs : 27 ^ (q + 1) = 27 ^ q * 27 := Nat.pow_succ _ _
    have h8 : 27 ^ 8 = 282429536481 := by decide
    rw [h8] at hp
    show 0 ≤ ((27 * wdv f s q + (f (s + q)).toInt64) - 96).toInt ∧ ((27 * wdv f s q + (f (s + q)).toInt64) - 96).toInt < ((27 ^ (q + 1) : Nat) : Int)
    rw [hs]
    generalize 27 ^ q = P at ih hp
    rw [pk_s ih.1 (by omega) b]
    omega
theorem wdv_inj (f g : Nat → Int32) (s t : Nat) : ∀ q, q ≤ 9 → (∀ i, i < q → 97 ≤ (f (s + i)).toInt ∧ (f (s + i)).toInt ≤ 122) → (∀ i, i < q → 97 ≤ (g (t + i)).toInt ∧ (g (t + i)).toInt ≤ 122) → (wdv f s q = wdv g t q ↔ ∀ i, i < q → f (s + i) = g (t + i))
  | 0, _, _, _ => ⟨fun _ i hi => absurd hi (Nat.not_lt_zero _), fun _ => rfl⟩
  | q + 1, h, hf, hg => by
    have ih := wdv_inj f g s t q (by omega) (fun i hi => hf i (by omega)) (fun i hi => hg i (by omega))
    have b1 := wdv_b f s q (by omega) (fun i hi => hf i (by omega))
    have b2 := wdv_b g t q (by omega) (fun i hi => hg i (by omega))
    have hp : 27 ^ q ≤ 27 ^ 8 := Nat.pow_le_pow_right (by decide) (by omega)
    have h8 : 27 ^ 8 = 282429536481 := by decide
    rw [h8] at hp
    generalize 27 ^ q = P at b1 b2 hp
    have f1 := hf q (by omega)
    have g1 := hg q (by omega)
    constructor
    · intro e i hi
      have e1 : ((27 * wdv f s q + (f (s + q)).toInt64) - 96).toInt = ((27 * wdv g t q + (g (t + q)).toInt64) - 96).toInt := congrArg Int64.toInt e
      rw [pk_s b1.1 (by omega) f1, pk_s b2.1 (by omega) g1] at e1
      have e2 : (wdv f s q).toInt = (wdv g t q).toInt ∧ (f (s + q)).toInt = (g (t + q)).toInt := by omega
      by_cases y : i = q
      · rw [y]
        exact z_eq.mpr e2.2
      · exact ih.mp (Int64.toInt_inj.mp e2.1) i (by omega)
    · intro e
      show (27 * wdv f s q + (f (s + q)).toInt64) - 96 = (27 * wdv g t q + (g (t + q)).toInt64) - 96
      rw [ih.mpr (fun i hi => e i (by omega)), e q (by omega)]
/-- the class compares letter by letter -/
theorem cw_it (N : Nat) {k s : Nat} (hk : k < 15) (h9 : κ 9 0 = nI s) (hL : s + w_ln k ≤ 400) : ∀ (r i n : Nat), i + r = w_ln k → r < n →
    (f_X5_isWord_28 N n k (nI i) κ = some 1 ∧ ∀ j, i ≤ j → j < w_ln k → κ 61 (s + j) = w_bt k j) ∨ (f_X5_isWord_28 N n k (nI i) κ = some 0 ∧ ¬ ∀ j, i ≤ j → j < w_ln k → κ 61 (s + j) = w_bt k j)
  | 0, i, n, hi, hn => by
    obtain ⟨m, rfl⟩ : ∃ q, n = q + 1 := ⟨n - 1, by omega⟩
    obtain ⟨⟨w1, w2⟩, w3⟩ := w_fin k hk
    refine Or.inl ⟨?_, fun j h1 h2 => absurd h2 (by omega)⟩
    rw [f_X5_isWord_28, if_pos hk, w1, Option.bind_some, if_pos (nI_le' (by omega) (by omega))]
  | r + 1, i, n, hi, hn => by
    obtain ⟨m, rfl⟩ : ∃ q, n = q + 1 := ⟨n - 1, by omega⟩
    obtain ⟨⟨w1, w2⟩, w3⟩ := w_fin k hk
    have ih := cw_it N hk h9 hL r (i + 1) m (by omega) (by omega)
    rw [f_X5_isWord_28, if_pos hk, w1, Option.bind_some, if_neg (nI_ge' (by omega) (by omega)), h9, nI_add, if_pos (ib_nI (by omega) (by decide)), (w3 i (by omega)).1, Option.bind_some, ix_nI (by omega), nI_1]
    by_cases y : κ 61 (s + i) = w_bt k i
    · rw [if_pos y]
      rcases ih with ⟨a, b⟩ | ⟨a, b⟩
      · refine Or.inl ⟨a, fun j h1 h2 => ?_⟩
        by_cases z : j = i
        · rw [z]
          exact y
        · exact b j (by omega) h2
      · exact Or.inr ⟨a, fun q => b fun j h1 h2 => q j (by omega) h2⟩
    · rw [if_neg y]
      exact Or.inr ⟨rfl, fun q => y (q i (Nat.le_refl _) (by omega))⟩
theorem lg0 (x y : Int64) : lg_cmp x y = 0 ↔ x = y := by
  unfold lg_cmp
  by_cases a : x > y
  · rw [if_pos a]
    exact ⟨fun z => absurd z (by decide), fun z => absurd a (by rw [z]; exact Int64.lt_irrefl)⟩
  · rw [if_neg a]
    by_cases b : x = y
    · rw [if_pos b]
      exact ⟨fun _ => b, fun _ => rfl⟩
    · rw [if_neg b]
      exact ⟨fun z => absurd z (by decide), fun z => absurd z b⟩
/-- the reference packs the word and compares -/
theorem mw_it (N : Nat) {k : Nat} (hk : k < 15) (wd : Int64) : ∀ (r i n : Nat), i + r = w_ln k → r < n → f_X9_isWord_26 N n k (wdv (w_bt k) 0 i) (nI i) μ wd = some (if wd = wdv (w_bt k) 0 (w_ln k) then 1 else 0)
  | 0, i, n, hi, hn => by
    obtain ⟨m, rfl⟩ : ∃ q, n = q + 1 := ⟨n - 1, by omega⟩
    obtain ⟨⟨w1, w2⟩, w3⟩ := w_fin k hk
    have e : i = w_ln k := by omega
    rw [f_X9_isWord_26, if_pos hk, w1, Option.bind_some, if_pos (nI_le' (by omega) (by omega)), e]
    by_cases y : wd = wdv (w_bt k) 0 (w_ln k)
    · rw [if_pos ((lg0 _ _).mpr y), if_pos y]
    · rw [if_neg (fun z => y ((lg0 _ _).mp z)), if_neg y]
  | r + 1, i, n, hi, hn => by
    obtain ⟨m, rfl⟩ : ∃ q, n = q + 1 := ⟨n - 1, by omega⟩
    obtain ⟨⟨w1, w2⟩, w3⟩ := w_fin k hk
    have ih := mw_it N hk wd r (i + 1) m (by omega) (by omega)
    rw [f_X9_isWord_26, if_pos hk, w1, Option.bind_some, if_neg (nI_ge' (by omega) (by omega)), (w3 i (by omega)).1, Option.bind_some, nI_1, ← ih]
    show f_X9_isWord_26 N m k (((27 * wdv (w_bt k) 0 i) + ((w_bt k i : Int32).toInt64)) - 96) (nI (i + 1)) μ wd = f_X9_isWord_26 N m k (((27 * wdv (w_bt k) 0 i) + ((w_bt k (0 + i) : Int32).toInt64)) - 96) (nI (i + 1)) μ wd
    rw [Nat.zero_add]
theorem isw {wd : Int64} {s p : Nat} (T : TK tl κ μ wd s p) {k : Nat} (hk : k < 15) {N : Nat} (hN : 1000 < N) : (f_X5_isWord N k κ = some 0 ∧ f_X9_isWord N k μ wd = some 0) ∨ (f_X5_isWord N k κ = some 1 ∧ f_X9_isWord N k μ wd = some 1) := by
  obtain ⟨X, ⟨t1, t2, t3, t4, t5, t6⟩, t7⟩ := T
  have x4 := X.1
  obtain ⟨⟨w1, w2⟩, w3⟩ := w_fin k hk
  have no : κ 8 0 ≠ 1 → μ 9 0 ≠ 2 → (f_X5_isWord N k κ = some 0 ∧ f_X9_isWord N k μ wd = some 0) := fun a b => by
    unfold f_X5_isWord f_X9_isWord
    rw [if_neg a, if_neg b]
    exact ⟨rfl, rfl⟩
  rcases t7 with ⟨a, b, -⟩ | ⟨a, b, c, d, e⟩ | ⟨a, b, -⟩ | ⟨a, b⟩ | ⟨a, b⟩
  · exact Or.inl (no (by rw [a]; decide) (by rw [b]; decide))
  · unfold f_X5_isWord f_X9_isWord
    rw [if_pos a, if_pos hk, w1, Option.bind_some, t1, t3, nI_sub' t5 (by omega), if_pos b, if_pos hk, Option.bind_some, c]
    by_cases y : p - s = w_ln k
    · rw [if_pos (by rw [y]), if_pos (by rw [y])]
      have m : f_X9_isWord_26 N N k 0 0 μ wd = some (if wd = wdv (w_bt k) 0 (w_ln k) then 1 else 0) := mw_it N hk wd (w_ln k) 0 N (by omega) (by omega)
      have cw : (f_X5_isWord_28 N N k 0 κ = some 1 ∧ ∀ j, 0 ≤ j → j < w_ln k → κ 61 (s + j) = w_bt k j) ∨ (f_X5_isWord_28 N N k 0 κ = some 0 ∧ ¬ ∀ j, 0 ≤ j → j < w_ln k → κ 61 (s + j) = w_bt k j) := cw_it N hk t3 (by omega) (w_ln k) 0 N (by omega) (by omega)
      have e4 : min (p - s) 9 = w_ln k := by omega
      have hf : ∀ i, i < w_ln k → 97 ≤ (κ 61 (s + i)).toInt ∧ (κ 61 (s + i)).toInt ≤ 122 := fun i hi => by
        have z := e i (by omega)
        unfold lB at z
        split at z
        · assumption
        · exact absurd z (by decide)
      have inj := wdv_inj (κ 61) (w_bt k) s 0 (w_ln k) (by omega) hf (fun i hi => by rw [Nat.zero_add]; exact (w3 i hi).2)
      rw [e4] at d
      rcases cw with ⟨u, v⟩ | ⟨u, v⟩
      · refine Or.inr ⟨u, ?_⟩
        rw [m, if_pos]
        rw [d]
        exact inj.mpr fun i hi => by rw [Nat.zero_add]; exact v i (Nat.zero_le _) hi
      · refine Or.inl ⟨u, ?_⟩
        rw [m, if_neg]
        intro z
        rw [d] at z
        exact v fun j _ hj => by have := inj.mp z j hj; rwa [Nat.zero_add] at this
    · have ny : ¬ nI (p - s) = nI (w_ln k) := fun z => y ((nI_eq (by omega) (by omega)).mp z)
      rw [if_neg ny, if_neg ny]
      exact Or.inl ⟨rfl, rfl⟩
  · exact Or.inl (no (by rw [a]; decide) (by rw [b]; decide))
  · exact Or.inl (no (by rw [a]; decide) (by rw [b]; decide))
  · exact Or.inl (no (by rw [a]; decide) (by rw [b]; decide))
/-- the numbers of a statement's word on both sides -/
def vmc (c : Nat) : Int32 := if c = 0 then 0 else if c = 1 then 11 else if c = 12 then 12 else nI (c - 1)
def van (c : Nat) : Nat := ([3, 5, 2, 4, 1, 1, 1, 1, 1, 2, 1, 2, 1] : List Nat).getD c 0
theorem v_fin : ∀ c, c < 13 → (sA2 c = nI (van c) ∧ van c ≤ 5 ∧ 0 < van c ∧ f_X9_argumentsOf (vmc c) = some (nI (van c))) ∧ (f_X5_wordOf (nI c) = some (c + 1) ∧ (nI c = 1 ↔ vmc c = 11) ∧ nI c ≠ -1 ∧ vmc c ≠ -1) := by decide +kernel
theorem v_vy {c : Nat} (h : c < 13) : VY (nI c) (vmc c) := by
  unfold VY TY
  have : c = 0 ∨ c = 1 ∨ c = 2 ∨ c = 3 ∨ c = 4 ∨ c = 5 ∨ c = 6 ∨ c = 7 ∨ c = 8 ∨ c = 9 ∨ c = 10 ∨ c = 11 ∨ c = 12 := by omega
  rcases this with rfl | rfl | rfl | rfl | rfl | rfl | rfl | rfl | rfl | rfl | rfl | rfl | rfl <;> decide
theorem cv_to {N : Nat} : ∀ c, c ≤ 13 → (∀ j, j < c → f_X5_isWord N (j + 1) κ = some 0) → ∀ n, c ≤ n → f_X5_verbOfToken_2 N n 0 κ = f_X5_verbOfToken_2 N (n - c) (nI c) κ
  | 0, _, _, n, _ => rfl
  | c + 1, h, hf, n, hn => by
    rw [cv_to c (by omega) (fun j hj => hf j (by omega)) n (by omega), show n - c = (n - (c + 1)) + 1 from by omega, f_X5_verbOfToken_2, if_neg (show ¬ (13 : Int32) ≤ nI c from nI_ge' (b := 13) (by omega) (by decide)), (v_fin c (by omega)).2.1, Option.bind_some, hf c (by omega), Option.bind_some, if_pos rfl, nI_1]
theorem cv_no {N : Nat} (hN : 1000 < N) (h : ∀ j, j < 13 → f_X5_isWord N (j + 1) κ = some 0) : f_X5_verbOfToken N κ = some (-1) := by
  unfold f_X5_verbOfToken
  rw [cv_to 13 (by omega) h N (by omega), show N - 13 = (N - 14) + 1 from by omega, f_X5_verbOfToken_2, if_pos (by decide)]
theorem cv_yes {N : Nat} (hN : 1000 < N) {c : Nat} (hc : c < 13) (h : ∀ j, j < c → f_X5_isWord N (j + 1) κ = some 0) (h1 : f_X5_isWord N (c + 1) κ = some 1) : f_X5_verbOfToken N κ = some (nI c) := by
  unfold f_X5_verbOfToken
  rw [cv_to c (by omega) h N (by omega), show N - c = (N - c - 1) + 1 from by omega, f_X5_verbOfToken_2, if_neg (show ¬ (13 : Int32) ≤ nI c from nI_ge' (b := 13) (by omega) (by decide)), (v_fin c (by omega)).2.1, Option.bind_some, h1, Option.bind_some, if_neg (by decide)]
theorem mv_no {N : Nat} {wd : Int64} (h : ∀ j, j < 13 → f_X9_isWord N (j + 1) μ wd = some 0) : f_X9_statementOfWord N μ wd = some (-1) := by
  unfold f_X9_statementOfWord
  rw [show f_X9_isWord N 1 μ wd = some 0 from h 0 (by decide), Option.bind_some, if_pos rfl]
  rw [show f_X9_isWord N 2 μ wd = some 0 from h 1 (by decide), Option.bind_some, if_pos rfl]
  rw [show f_X9_isWord N 3 μ wd = some 0 from h 2 (by decide), Option.bind_some, if_pos rfl]
  rw [show f_X9_isWord N 4 μ wd = some 0 from h 3 (by decide), Option.bind_some, if_pos rfl]
  rw [show f_X9_isWord N 5 μ wd = some 0 from h 4 (by decide), Option.bind_some, if_pos rfl]
  rw [show f_X9_isWord N 6 μ wd = some 0 from h 5 (by decide), Option.bind_some, if_pos rfl]
  rw [show f_X9_isWord N 7 μ wd = some 0 from h 6 (by decide), Option.bind_some, if_pos rfl]
  rw [show f_X9_isWord N 8 μ wd = some 0 from h 7 (by decide), Option.bind_some, if_pos rfl]
  rw [show f_X9_isWord N 9 μ wd = some 0 from h 8 (by decide), Option.bind_some, if_pos rfl]
  rw [show f_X9_isWord N 10 μ wd = some 0 from h 9 (by decide), Option.bind_some, if_pos rfl]
  rw [show f_X9_isWord N 11 μ wd = some 0 from h 10 (by decide), Option.bind_some, if_pos rfl]
  rw [show f_X9_isWord N 12 μ wd = some 0 from h 11 (by decide), Option.bind_some, if_pos rfl]
  rw [show f_X9_isWord N 13 μ wd = some 0 from h 12 (by decide), Option.bind_some, if_pos rfl]
theorem mv_yes {N : Nat} {wd : Int64} {c : Nat} (hc : c < 13) (h : ∀ j, j < c → f_X9_isWord N (j + 1) μ wd = some 0) (h1 : f_X9_isWord N (c + 1) μ wd = some 1) : f_X9_statementOfWord N μ wd = some (vmc c) := by
  have : c = 0 ∨ c = 1 ∨ c = 2 ∨ c = 3 ∨ c = 4 ∨ c = 5 ∨ c = 6 ∨ c = 7 ∨ c = 8 ∨ c = 9 ∨ c = 10 ∨ c = 11 ∨ c = 12 := by omega
  unfold f_X9_statementOfWord
  rcases this with rfl | rfl | rfl | rfl | rfl | rfl | rfl | rfl | rfl | rfl | rfl | rfl | rfl
  · rw [show f_X9_isWord N 1 μ wd = some 1 from h1, Option.bind_some, if_neg (by decide)]
    rfl
  · rw [show f_X9_isWord N 1 μ wd = some 0 from h 0 (by decide), Option.bind_some, if_pos rfl, show f_X9_isWord N 2 μ wd = some 1 from h1, Option.bind_some, if_neg (by decide)]
    rfl
  · rw [show f_X9_isWord N 1 μ wd = some 0 from h 0 (by decide), Option.bind_some, if_pos rfl, show f_X9_isWord N 2 μ wd = some 0 from h 1 (by decide), Option.bind_some, if_pos rfl, show f_X9_isWord N 3 μ wd = some 1 from h1, Option.bind_some, if_neg (by decide)]
    rfl
  · rw [show f_X9_isWord N 1 μ wd = some 0 from h 0 (by decide), Option.bind_some, if_pos rfl, show f_X9_isWord N 2 μ wd = some 0 from h 1 (by decide), Option.bind_some, if_pos rfl, show f_X9_isWord N 3 μ wd = some 0 from h 2 (by decide), Option.bind_some, if_pos rfl, show f_X9_isWord N 4 μ wd = some 1 from h1, Option.bind_some, if_neg (by decide)]
    rfl
  · rw [show f_X9_isWord N 1 μ wd = some 0 from h 0 (by decide), Option.bind_some, if_pos rfl, show f_X9_isWord N 2 μ wd = some 0 from h 1 (by decide), Option.bind_some, if_pos rfl, show f_X9_isWord N 3 μ wd = some 0 from h 2 (by decide), Option.bind_some, if_pos rfl, show f_X9_isWord N 4 μ wd = some 0 from h 3 (by decide), Option.bind_some, if_pos rfl, show f_X9_isWord N 5 μ wd = some 1 from h1, Option.bind_some, if_neg (by decide)]
    rfl
  · rw [show f_X9_isWord N 1 μ wd = some 0 from h 0 (by decide), Option.bind_some, if_pos rfl, show f_X9_isWord N 2 μ wd = some 0 from h 1 (by decide), Option.bind_some, if_pos rfl, show f_X9_isWord N 3 μ wd = some 0 from h 2 (by decide), Option.bind_some, if_pos rfl, show f_X9_isWord N 4 μ wd = some 0 from h 3 (by decide), Option.bind_some, if_pos rfl, show f_X9_isWord N 5 μ wd = some 0 from h 4 (by decide), Option.bind_some, if_pos rfl, show f_X9_isWord N 6 μ wd = some 1 from h1, Option.bind_some, if_neg (by decide)]
    rfl
  · rw [show f_X9_isWord N 1 μ wd = some 0 from h 0 (by decide), Option.bind_some, if_pos rfl, show f_X9_isWord N 2 μ wd = some 0 from h 1 (by decide), Option.bind_some, if_pos rfl, show f_X9_isWord N 3 μ wd = some 0 from h 2 (by decide), Option.bind_some, if_pos rfl, show f_X9_isWord N 4 μ wd = some 0 from h 3 (by decide), Option.bind_some, if_pos rfl, show f_X9_isWord N 5 μ wd = some 0 from h 4 (by decide), Option.bind_some, if_pos rfl, show f_X9_isWord N 6 μ wd = some 0 from h 5 (by decide), Option.bind_some, if_pos rfl, show f_X9_isWord N 7 μ wd = some 1 from h1, Option.bind_some, if_neg (by decide)]
    rfl
  · rw [show f_X9_isWord N 1 μ wd = some 0 from h 0 (by decide), Option.bind_some, if_pos rfl, show f_X9_isWord N 2 μ wd = some 0 from h 1 (by decide), Option.bind_some, if_pos rfl, show f_X9_isWord N 3 μ wd = some 0 from h 2 (by decide), Option.bind_some, if_pos rfl, show f_X9_isWord N 4 μ wd = some 0 from h 3 (by decide), Option.bind_some, if_pos rfl, show f_X9_isWord N 5 μ wd = some 0 from h 4 (by decide), Option.bind_some, if_pos rfl, show f_X9_isWord N 6 μ wd = some 0 from h 5 (by decide), Option.bind_some, if_pos rfl, show f_X9_isWord N 7 μ wd = some 0 from h 6 (by decide), Option.bind_some, if_pos rfl, show f_X9_isWord N 8 μ wd = some 1 from h1, Option.bind_some, if_neg (by decide)]
    rfl
  · rw [show f_X9_isWord N 1 μ wd = some 0 from h 0 (by decide), Option.bind_some, if_pos rfl, show f_X9_isWord N 2 μ wd = some 0 from h 1 (by decide), Option.bind_some, if_pos rfl, show f_X9_isWord N 3 μ wd = some 0 from h 2 (by decide), Option.bind_some, if_pos rfl, show f_X9_isWord N 4 μ wd = some 0 from h 3 (by decide), Option.bind_some, if_pos rfl, show f_X9_isWord N 5 μ wd = some 0 from h 4 (by decide), Option.bind_some, if_pos rfl, show f_X9_isWord N 6 μ wd = some 0 from h 5 (by decide), Option.bind_some, if_pos rfl, show f_X9_isWord N 7 μ wd = some 0 from h 6 (by decide), Option.bind_some, if_pos rfl, show f_X9_isWord N 8 μ wd = some 0 from h 7 (by decide), Option.bind_some, if_pos rfl, show f_X9_isWord N 9 μ wd = some 1 from h1, Option.bind_some, if_neg (by decide)]
    rfl
  · rw [show f_X9_isWord N 1 μ wd = some 0 from h 0 (by decide), Option.bind_some, if_pos rfl, show f_X9_isWord N 2 μ wd = some 0 from h 1 (by decide), Option.bind_some, if_pos rfl, show f_X9_isWord N 3 μ wd = some 0 from h 2 (by decide), Option.bind_some, if_pos rfl, show f_X9_isWord N 4 μ wd = some 0 from h 3 (by decide), Option.bind_some, if_pos rfl, show f_X9_isWord N 5 μ wd = some 0 from h 4 (by decide), Option.bind_some, if_pos rfl, show f_X9_isWord N 6 μ wd = some 0 from h 5 (by decide), Option.bind_some, if_pos rfl, show f_X9_isWord N 7 μ wd = some 0 from h 6 (by decide), Option.bind_some, if_pos rfl, show f_X9_isWord N 8 μ wd = some 0 from h 7 (by decide), Option.bind_some, if_pos rfl, show f_X9_isWord N 9 μ wd = some 0 from h 8 (by decide), Option.bind_some, if_pos rfl, show f_X9_isWord N 10 μ wd = some 1 from h1, Option.bind_some, if_neg (by decide)]
    rfl
  · rw [show f_X9_isWord N 1 μ wd = some 0 from h 0 (by decide), Option.bind_some, if_pos rfl, show f_X9_isWord N 2 μ wd = some 0 from h 1 (by decide), Option.bind_some, if_pos rfl, show f_X9_isWord N 3 μ wd = some 0 from h 2 (by decide), Option.bind_some, if_pos rfl, show f_X9_isWord N 4 μ wd = some 0 from h 3 (by decide), Option.bind_some, if_pos rfl, show f_X9_isWord N 5 μ wd = some 0 from h 4 (by decide), Option.bind_some, if_pos rfl, show f_X9_isWord N 6 μ wd = some 0 from h 5 (by decide), Option.bind_some, if_pos rfl, show f_X9_isWord N 7 μ wd = some 0 from h 6 (by decide), Option.bind_some, if_pos rfl, show f_X9_isWord N 8 μ wd = some 0 from h 7 (by decide), Option.bind_some, if_pos rfl, show f_X9_isWord N 9 μ wd = some 0 from h 8 (by decide), Option.bind_some, if_pos rfl, show f_X9_isWord N 10 μ wd = some 0 from h 9 (by decide), Option.bind_some, if_pos rfl, show f_X9_isWord N 11 μ wd = some 1 from h1, Option.bind_some, if_neg (by decide)]
    rfl
  · rw [show f_X9_isWord N 1 μ wd = some 0 from h 0 (by decide), Option.bind_some, if_pos rfl, show f_X9_isWord N 2 μ wd = some 0 from h 1 (by decide), Option.bind_some, if_pos rfl, show f_X9_isWord N 3 μ wd = some 0 from h 2 (by decide), Option.bind_some, if_pos rfl, show f_X9_isWord N 4 μ wd = some 0 from h 3 (by decide), Option.bind_some, if_pos rfl, show f_X9_isWord N 5 μ wd = some 0 from h 4 (by decide), Option.bind_some, if_pos rfl, show f_X9_isWord N 6 μ wd = some 0 from h 5 (by decide), Option.bind_some, if_pos rfl, show f_X9_isWord N 7 μ wd = some 0 from h 6 (by decide), Option.bind_some, if_pos rfl, show f_X9_isWord N 8 μ wd = some 0 from h 7 (by decide), Option.bind_some, if_pos rfl, show f_X9_isWord N 9 μ wd = some 0 from h 8 (by decide), Option.bind_some, if_pos rfl, show f_X9_isWord N 10 μ wd = some 0 from h 9 (by decide), Option.bind_some, if_pos rfl, show f_X9_isWord N 11 μ wd = some 0 from h 10 (by decide), Option.bind_some, if_pos rfl, show f_X9_isWord N 12 μ wd = some 1 from h1, Option.bind_some, if_neg (by decide)]
    rfl
  · rw [show f_X9_isWord N 1 μ wd = some 0 from h 0 (by decide), Option.bind_some, if_pos rfl, show f_X9_isWord N 2 μ wd = some 0 from h 1 (by decide), Option.bind_some, if_pos rfl, show f_X9_isWord N 3 μ wd = some 0 from h 2 (by decide), Option.bind_some, if_pos rfl, show f_X9_isWord N 4 μ wd = some 0 from h 3 (by decide), Option.bind_some, if_pos rfl, show f_X9_isWord N 5 μ wd = some 0 from h 4 (by decide), Option.bind_some, if_pos rfl, show f_X9_isWord N 6 μ wd = some 0 from h 5 (by decide), Option.bind_some, if_pos rfl, show f_X9_isWord N 7 μ wd = some 0 from h 6 (by decide), Option.bind_some, if_pos rfl, show f_X9_isWord N 8 μ wd = some 0 from h 7 (by decide), Option.bind_some, if_pos rfl, show f_X9_isWord N 9 μ wd = some 0 from h 8 (by decide), Option.bind_some, if_pos rfl, show f_X9_isWord N 10 μ wd = some 0 from h 9 (by decide), Option.bind_some, if_pos rfl, show f_X9_isWord N 11 μ wd = some 0 from h 10 (by decide), Option.bind_some, if_pos rfl, show f_X9_isWord N 12 μ wd = some 0 from h 11 (by decide), Option.bind_some, if_pos rfl, show f_X9_isWord N 13 μ wd = some 1 from h1, Option.bind_some, if_neg (by decide)]
    rfl
theorem verb_sim {wd : Int64} {s p : Nat} (T : TK tl κ μ wd s p) {N : Nat} (hN : 1000 < N) : (f_X5_verbOfToken N κ = some (-1) ∧ f_X9_statementOfWord N μ wd = some (-1)) ∨ ∃ c, c < 13 ∧ f_X5_verbOfToken N κ = some (nI c) ∧ f_X9_statementOfWord N μ wd = some (vmc c) := by
  have key : ∀ c, c ≤ 13 → (∀ j, j < c → f_X5_isWord N (j + 1) κ = some 0 ∧ f_X9_isWord N (j + 1) μ wd = some 0) ∨ ∃ d, d < c ∧ (∀ j, j < d → f_X5_isWord N (j + 1) κ = some 0 ∧ f_X9_isWord N (j + 1) μ wd = some 0) ∧ f_X5_isWord N (d + 1) κ = some 1 ∧ f_X9_isWord N (d + 1) μ wd = some 1 := by
    intro c
    induction c with
    | zero => exact fun _ => Or.inl fun j hj => absurd hj (Nat.not_lt_zero _)
    | succ c ih =>
      intro hc
      rcases ih (by omega) with a | ⟨d, a, b⟩
      · rcases isw T (show c + 1 < 15 by omega) hN with z | z
        · refine Or.inl fun j hj => ?_
          by_cases y : j = c
          · rw [y]
            exact z
          · exact a j (by omega)
        · exact Or.inr ⟨c, by omega, a, z⟩
      · exact Or.inr ⟨d, by omega, b⟩
  rcases key 13 (Nat.le_refl _) with a | ⟨d, a, b, c1, c2⟩
  · exact Or.inl ⟨cv_no hN fun j hj => (a j hj).1, mv_no fun j hj => (a j hj).2⟩
  · exact Or.inr ⟨d, a, cv_yes hN a (fun j hj => (b j hj).1) c1, mv_yes a (fun j hj => (b j hj).2) c2⟩
end Hh
