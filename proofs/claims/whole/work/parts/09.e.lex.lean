section He
variable {tl : Nat} {κ μ : Sg}
/-! the tokens on both sides: letters, digits, numbers -/
def lB (c : Int32) : Int32 := if 97 ≤ c.toInt ∧ c.toInt ≤ 122 then 1 else 0
def dB (c : Int32) : Int32 := if 48 ≤ c.toInt ∧ c.toInt ≤ 57 then 1 else 0
theorem i97 : (97 : Int32).toInt = 97 := by decide
theorem i122 : (122 : Int32).toInt = 122 := by decide
theorem i48 : (48 : Int32).toInt = 48 := by decide
theorem i57 : (57 : Int32).toInt = 57 := by decide
theorem cl_l (c : Int32) : f_X5_isLetter c = some (lB c) := by
  unfold f_X5_isLetter lB
  by_cases a : c < 97
  · have := z_lt.mp a
    rw [i97] at this
    rw [if_pos a, if_neg (by omega)]
  · rw [if_neg a]
    have a' := z_le.mp (Int32.not_lt.mp a)
    rw [i97] at a'
    by_cases b : (122 : Int32) < c
    · have := z_lt.mp b
      rw [i122] at this
      rw [if_pos b, if_neg (by omega)]
    · have := z_le.mp (Int32.not_lt.mp b)
      rw [i122] at this
      rw [if_neg b, if_pos (by omega)]
theorem cl_d (c : Int32) : f_X5_isDigit c = some (dB c) := by
  unfold f_X5_isDigit dB
  by_cases a : c < 48
  · have := z_lt.mp a
    rw [i48] at this
    rw [if_pos a, if_neg (by omega)]
  · rw [if_neg a]
    have a' := z_le.mp (Int32.not_lt.mp a)
    rw [i48] at a'
    by_cases b : (57 : Int32) < c
    · have := z_lt.mp b
      rw [i57] at this
      rw [if_pos b, if_neg (by omega)]
    · have := z_le.mp (Int32.not_lt.mp b)
      rw [i57] at this
      rw [if_neg b, if_pos (by omega)]
theorem m_l (m : Int32) : f_X9_isLetter m = some (lB m) := by
  unfold f_X9_isLetter lB
  rw [wi_eq]
  rcases wi m 97 122 with w | w
  · have h1 := z_le.mp w.2.1
    have h2 := z_le.mp w.2.2
    rw [i97] at h1
    rw [i122] at h2
    rw [w.1, Option.bind_some, if_pos bz1, if_pos ⟨h1, h2⟩]
  · rw [w.1, Option.bind_some, if_pos bz0, if_neg (fun z => w.2 ⟨z_le.mpr (by rw [i97]; exact z.1), z_le.mpr (by rw [i122]; exact z.2)⟩)]
theorem m_d (m : Int32) : f_X9_isDigit m = some (dB m) := by
  unfold f_X9_isDigit dB
  rw [wi_eq]
  rcases wi m 48 57 with w | w
  · have h1 := z_le.mp w.2.1
    have h2 := z_le.mp w.2.2
    rw [i48] at h1
    rw [i57] at h2
    rw [w.1, Option.bind_some, if_pos bz1, if_pos ⟨h1, h2⟩]
  · rw [w.1, Option.bind_some, if_pos bz0, if_neg (fun z => w.2 ⟨z_le.mpr (by rw [i48]; exact z.1), z_le.mpr (by rw [i57]; exact z.2)⟩)]
theorem BR.l {c m : Int32} (h : BR c m) : lB m = lB c := by
  rcases h with ⟨rfl, -⟩ | ⟨h1, h2, h3⟩
  · rfl
  · unfold lB
    rw [if_neg (by omega), if_neg (by omega)]
theorem BR.d {c m : Int32} (h : BR c m) : dB m = dB c := by
  rcases h with ⟨rfl, -⟩ | ⟨h1, h2, h3⟩
  · rfl
  · unfold dB
    rw [if_neg (by omega), if_neg (by omega)]
/-- a byte that is below 128 is the same on both sides -/
theorem BR.v {c m : Int32} (h : BR c m) {v : Int32} (hv : 0 ≤ v.toInt ∧ v.toInt ≤ 127) : m = v ↔ c = v := by
  rcases h with ⟨rfl, -⟩ | ⟨h1, h2, h3⟩
  · exact Iff.rfl
  · constructor
    · intro e
      rw [e] at h2
      omega
    · intro e
      rw [e] at h1
      omega
theorem lB_01 (c : Int32) : lB c = 0 ∨ lB c = 1 := by
  unfold lB
  split
  · exact Or.inr rfl
  · exact Or.inl rfl
theorem dB_01 (c : Int32) : dB c = 0 ∨ dB c = 1 := by
  unfold dB
  split
  · exact Or.inr rfl
  · exact Or.inl rfl
/-- the reference's byte at a place, and past the text's end -/
theorem m_b (X : TX tl κ μ) {p : Nat} (hp : p < tl) (wd : Int64) : f_X9_byteAt (nI p) μ wd = some (μ 5 p) := by
  have := X.1
  unfold f_X9_byteAt
  rw [X.2.2.1, if_neg (nI_ge' hp (by omega)), if_pos (ib_nI (by omega) (by decide)), ix_nI (by omega)]
theorem m_e (X : TX tl κ μ) (wd : Int64) : f_X9_byteAt (nI tl) μ wd = some (-1) := by
  have := X.1
  unfold f_X9_byteAt
  rw [X.2.2.1, if_pos (nI_le' (Nat.le_refl _) (by omega))]
theorem TX.ex {κ' μ' : Sg} (X : TX tl κ μ) (h1 : κ' 1 = κ 1) (h61 : κ' 61 = κ 61) (h5 : μ' 5 = μ 5) (h6 : μ' 6 = μ 6) : TX tl κ' μ' := by
  unfold TX
  rw [h1, h61, h5, h6]
  exact X
/-- the same number, or too large on both sides -/
def NR (c m : Int32) : Prop := (c = m ∧ 0 ≤ c.toInt ∧ c.toInt ≤ 99999) ∨ (c.toInt = 100000 ∧ 100000 ≤ m.toInt ∧ m.toInt ≤ 1000000)
theorem nI_sub2 {a b : Nat} (h : b ≤ a) : nI a - nI b = nI (a - b) := by
  have e : nI a = nI (a - b) + nI b := by rw [nI_add, Nat.sub_add_cancel h]
  rw [e, Int32.add_sub_cancel]
theorem NR.s {c m d : Int32} (h : NR c m) (hd : 48 ≤ d.toInt ∧ d.toInt ≤ 57) : (m ≤ 99999 → NR (if 100000 < c * 10 + d - 48 then 100000 else c * 10 + d - 48) (10 * m + d - 48)) ∧ (¬ m ≤ 99999 → NR (if 100000 < c * 10 + d - 48 then 100000 else c * 10 + d - 48) m) := by
  have n9 : (99999 : Int32).toInt = 99999 := by decide
  have n1 : (100000 : Int32).toInt = 100000 := by decide
  have ed : d = nI d.toInt.toNat := z_eq.mpr (by rw [z_nI (by omega)]; omega)
  generalize hu : d.toInt.toNat = u at ed
  have step : ∀ v : Nat, v ≤ 100000 → nI v * 10 + d - 48 = nI (10 * v + u - 48) := fun v hv => by
    rw [ed, Int32.mul_comm, show (10 : Int32) = nI 10 from rfl, pk_mul, nI_add, show (48 : Int32) = nI 48 from rfl, nI_sub2 (by omega)]
  rcases h with ⟨rfl, h1, h2⟩ | ⟨h1, h2, h3⟩
  · have ec : c = nI c.toInt.toNat := z_eq.mpr (by rw [z_nI (by omega)]; omega)
    generalize hv : c.toInt.toNat = v at ec
    refine ⟨fun _ => ?_, fun z => absurd (z_le.mpr (by rw [n9]; exact h2)) z⟩
    rw [Int32.mul_comm 10 c, ec, step v (by omega)]
    have zw := z_nI (n := 10 * v + u - 48) (by omega)
    by_cases q : (100000 : Int32) < nI (10 * v + u - 48)
    · rw [if_pos q]
      have := z_lt.mp q
      rw [n1, zw] at this
      exact Or.inr ⟨n1, by rw [zw]; omega, by rw [zw]; omega⟩
    · rw [if_neg q]
      have := z_le.mp (Int32.not_lt.mp q)
      rw [n1, zw] at this
      by_cases w : 10 * v + u - 48 = 100000
      · exact Or.inr ⟨by rw [zw]; omega, by rw [zw]; omega, by rw [zw]; omega⟩
      · exact Or.inl ⟨rfl, by rw [zw]; omega, by rw [zw]; omega⟩
  · refine ⟨fun z => ?_, fun _ => ?_⟩
    · have := z_le.mp z
      rw [n9] at this
      omega
    · have ec : c = nI 100000 := z_eq.mpr (by rw [z_nI (by omega)]; exact h1)
      rw [ec, step 100000 (by omega)]
      have zw := z_nI (n := 10 * 100000 + u - 48) (by omega)
      rw [if_pos (z_lt.mpr (by rw [n1, zw]; omega))]
      exact Or.inr ⟨n1, h2, h3⟩
/-- a number is read -/
theorem num_it (wd : Int64) (N : Nat) : ∀ (k p n n' : Nat) (κ μ : Sg), p + k = tl → TX tl κ μ → κ 10 0 = nI p → μ 7 0 = nI p → NR (κ 11 0) (μ 11 0) → k < n → k < n' →
    ∃ p' κ' μ', p ≤ p' ∧ p' ≤ tl ∧ f_X5_readNumber_5 N n κ = some κ' ∧ f_X9_nextToken_187 N n' μ wd = some (μ', wd) ∧ TX tl κ' μ' ∧ κ' 10 0 = nI p' ∧ μ' 7 0 = nI p' ∧ NR (κ' 11 0) (μ' 11 0) ∧ (∀ r, r ≠ 10 → r ≠ 11 → κ' r = κ r) ∧ (∀ r, r ≠ 7 → r ≠ 11 → μ' r = μ r)
  | 0, p, n, n', κ, μ, hk, X, h10, h7, hr, hn, hn' => by
    obtain ⟨m, rfl⟩ : ∃ q, n = q + 1 := ⟨n - 1, by omega⟩
    obtain ⟨m', rfl⟩ : ∃ q, n' = q + 1 := ⟨n' - 1, by omega⟩
    obtain rfl : p = tl := by omega
    have t4 := X.1
    refine ⟨p, κ, μ, Nat.le_refl _, Nat.le_refl _, ?_, ?_, X, h10, h7, hr, fun _ _ _ => rfl, fun _ _ _ => rfl⟩
    · rw [f_X5_readNumber_5, X.2.1, h10, if_pos (nI_le' (Nat.le_refl _) (by omega))]
    · rw [f_X9_nextToken_187, h7, m_e X, Option.bind_some, m_d, Option.bind_some, show dB (-1) = 0 from by decide, if_pos rfl]
  | k + 1, p, n, n', κ, μ, hk, X, h10, h7, hr, hn, hn' => by
    obtain ⟨m, rfl⟩ : ∃ q, n = q + 1 := ⟨n - 1, by omega⟩
    obtain ⟨m', rfl⟩ : ∃ q, n' = q + 1 := ⟨n' - 1, by omega⟩
    have t4 := X.1
    have b := X.2.2.2 p (by omega)
    rw [f_X5_readNumber_5, X.2.1, h10, if_neg (nI_ge' (by omega) (by omega)), if_pos (ib_nI (by omega) (by decide)), ix_nI (by omega), cl_d, Option.bind_some, f_X9_nextToken_187, h7, m_b X (by omega), Option.bind_some, m_d, Option.bind_some, b.d]
    rcases dB_01 (κ 61 p) with z | z
    · rw [z, if_pos rfl, if_pos rfl]
      exact ⟨p, κ, μ, Nat.le_refl _, by omega, rfl, rfl, X, h10, h7, hr, fun _ _ _ => rfl, fun _ _ _ => rfl⟩
    · rw [z, if_neg (c := (1 : Int32) = 0) (by decide), if_neg (c := (1 : Int32) = 0) (by decide), Option.bind_some, nI_1]
      have hd : 48 ≤ (κ 61 p).toInt ∧ (κ 61 p).toInt ≤ 57 := by
        unfold dB at z
        split at z
        · assumption
        · exact absurd z (by decide)
      have e : μ 5 p = κ 61 p := by
        rcases b with b | b
        · exact b.1.symm
        · omega
      rw [e]
      have st := hr.s hd
      have fin : ∀ w, NR (if 100000 < κ 11 0 * 10 + κ 61 p - 48 then 100000 else κ 11 0 * 10 + κ 61 p - 48) w → ∃ p' κ' μ', p ≤ p' ∧ p' ≤ tl ∧ f_X5_readNumber_5 N m (up (up κ 11 0 (if 100000 < κ 11 0 * 10 + κ 61 p - 48 then 100000 else κ 11 0 * 10 + κ 61 p - 48)) 10 0 (nI (p + 1))) = some κ' ∧ f_X9_nextToken_187 N m' (up (up μ 11 0 w) 7 0 (nI (p + 1))) wd = some (μ', wd) ∧ TX tl κ' μ' ∧ κ' 10 0 = nI p' ∧ μ' 7 0 = nI p' ∧ NR (κ' 11 0) (μ' 11 0) ∧ (∀ r, r ≠ 10 → r ≠ 11 → κ' r = κ r) ∧ (∀ r, r ≠ 7 → r ≠ 11 → μ' r = μ r) := fun w hw => by
        obtain ⟨p', κ', μ', a1, a2, a3, a4, a5, a6, a7, a8, a9, a10⟩ := num_it wd N k (p + 1) m m' (up (up κ 11 0 (if 100000 < κ 11 0 * 10 + κ 61 p - 48 then 100000 else κ 11 0 * 10 + κ 61 p - 48)) 10 0 (nI (p + 1))) (up (up μ 11 0 w) 7 0 (nI (p + 1))) (by omega) (X.ex (by rw [up_row (by decide), up_row (by decide)]) (by rw [up_row (by decide), up_row (by decide)]) (by rw [up_row (by decide), up_row (by decide)]) (by rw [up_row (by decide), up_row (by decide)])) (up_same _ _ _ _) (up_same _ _ _ _) (by rw [up_row (by decide), up_same, up_row (by decide), up_same]; exact hw) (by omega) (by omega)
        exact ⟨p', κ', μ', by omega, a2, a3, a4, a5, a6, a7, a8, fun r r1 r2 => by rw [a9 r r1 r2, up_row r1, up_row r2], fun r r1 r2 => by rw [a10 r r1 r2, up_row r1, up_row r2]⟩
      by_cases q : μ 11 0 ≤ 99999
      · rw [if_pos q]
        exact fin _ (st.1 q)
      · rw [if_neg q]
        exact fin _ (st.2 q)
end He
