section Hg
variable {tl : Nat} {κ μ : Sg}
/-! a token on both sides -/
def TK (tl : Nat) (κ μ : Sg) (wd : Int64) (s p : Nat) : Prop := TX tl κ μ ∧ (κ 10 0 = nI p ∧ μ 7 0 = nI p ∧ κ 9 0 = nI s ∧ μ 8 0 = nI s ∧ s ≤ p ∧ p ≤ tl) ∧
  ((κ 8 0 = 0 ∧ μ 9 0 = 0 ∧ s = tl) ∨ (κ 8 0 = 1 ∧ μ 9 0 = 2 ∧ μ 10 0 = nI (p - s) ∧ wd = wdv (κ 61) s (min (p - s) 9) ∧ ∀ i, i < p - s → lB (κ 61 (s + i)) = 1) ∨ (κ 8 0 = 2 ∧ μ 9 0 = 3 ∧ NR (κ 11 0) (μ 11 0)) ∨ (κ 8 0 = 3 ∧ μ 9 0 = 4) ∨ (κ 8 0 = 4 ∧ μ 9 0 = 1))
def KX (κ κ' : Sg) : Prop := ∀ r, r ≠ 8 → r ≠ 9 → r ≠ 10 → r ≠ 11 → κ' r = κ r
def MX (μ μ' : Sg) : Prop := ∀ r, r ≠ 7 → r ≠ 8 → r ≠ 9 → r ≠ 10 → r ≠ 11 → μ' r = μ r
theorem tok_it (wd : Int64) {N : Nat} (hN : 1000 < N) : ∀ (k p n n' : Nat) (κ μ : Sg), p + k = tl → TX tl κ μ → κ 10 0 = nI p → μ 7 0 = nI p → k < n → k < n' →
    ∃ s p' κ' μ' wd', f_X5_readToken_0 N n κ = some κ' ∧ f_X9_nextToken_0 N n' μ wd = some (μ', wd') ∧ TK tl κ' μ' wd' s p' ∧ p ≤ s ∧ KX κ κ' ∧ MX μ μ'
  | 0, p, n, n', κ, μ, hk, X, h10, h7, hn, hn' => by
    obtain ⟨m, rfl⟩ : ∃ q, n = q + 1 := ⟨n - 1, by omega⟩
    obtain ⟨m', rfl⟩ : ∃ q, n' = q + 1 := ⟨n' - 1, by omega⟩
    obtain rfl : p = tl := by omega
    have t4 := X.1
    have X1 : TX p κ (up (up (up μ 8 0 (nI p)) 10 0 0) 11 0 0) := X.ex rfl rfl (by rw [up_row (by decide), up_row (by decide), up_row (by decide)]) (by rw [up_row (by decide), up_row (by decide), up_row (by decide)])
    refine ⟨p, p, up (up κ 9 0 (nI p)) 8 0 0, up (up (up (up μ 8 0 (nI p)) 10 0 0) 11 0 0) 9 0 0, 0, ?_, ?_, ⟨X.ex (by rw [up_row (by decide), up_row (by decide)]) (by rw [up_row (by decide), up_row (by decide)]) (by rw [up_row (by decide), up_row (by decide), up_row (by decide), up_row (by decide)]) (by rw [up_row (by decide), up_row (by decide), up_row (by decide), up_row (by decide)]), ⟨?_, ?_, ?_, ?_, Nat.le_refl _, Nat.le_refl _⟩, Or.inl ⟨up_same _ _ _ _, up_same _ _ _ _, rfl⟩⟩, Nat.le_refl _, fun r r1 r2 r3 r4 => ?_, fun r r1 r2 r3 r4 r5 => ?_⟩
    · rw [f_X5_readToken_0, X.2.1, h10, if_pos (nI_le' (Nat.le_refl _) (by omega))]
      unfold f_X5_readToken_39
      rw [X.2.1, h10, if_neg (Int32.not_lt.mpr (nI_le' (Nat.le_refl _) (by omega)))]
    · rw [f_X9_nextToken_0, h7, m_e X, Option.bind_some, if_neg (by decide), Option.bind_some, if_neg (by decide), m_e X1, Option.bind_some, if_pos rfl]
    · rw [up_row (by decide), up_row (by decide)]
      exact h10
    · rw [up_row (by decide), up_row (by decide), up_row (by decide), up_row (by decide)]
      exact h7
    · rw [up_row (by decide), up_same]
    · rw [up_row (by decide), up_row (by decide), up_row (by decide), up_same]
    · rw [up_row r1, up_row r2]
    · rw [up_row r3, up_row r5, up_row r4, up_row r2]
  | k + 1, p, n, n', κ, μ, hk, X, h10, h7, hn, hn' => by
    obtain ⟨m, rfl⟩ : ∃ q, n = q + 1 := ⟨n - 1, by omega⟩
    obtain ⟨m', rfl⟩ : ∃ q, n' = q + 1 := ⟨n' - 1, by omega⟩
    have t4 := X.1
    have b := X.2.2.2 p (by omega)
    have b32 : μ 5 p = 32 ↔ κ 61 p = 32 := b.v (by decide)
    have b10 : μ 5 p = 10 ↔ κ 61 p = 10 := b.v (by decide)
    rw [f_X5_readToken_0, X.2.1, h10, if_neg (nI_ge' (by omega) (by omega)), if_pos (ib_nI (by omega) (by decide)), ix_nI (by omega), f_X9_nextToken_0, h7, m_b X (by omega), Option.bind_some, Option.bind_some, nI_1]
    have skip : ∃ s p' κ' μ' wd', f_X5_readToken_0 N m (up κ 10 0 (nI (p + 1))) = some κ' ∧ f_X9_nextToken_0 N m' (up μ 7 0 (nI (p + 1))) wd = some (μ', wd') ∧ TK tl κ' μ' wd' s p' ∧ p ≤ s ∧ KX κ κ' ∧ MX μ μ' := by
      obtain ⟨s, p', κ', μ', wd', a1, a2, a3, a4, a5, a6⟩ := tok_it wd hN k (p + 1) m m' (up κ 10 0 (nI (p + 1))) (up μ 7 0 (nI (p + 1))) (by omega) (X.ex (up_row (by decide)) (up_row (by decide)) (up_row (by decide)) (up_row (by decide))) (up_same _ _ _ _) (up_same _ _ _ _) (by omega) (by omega)
      exact ⟨s, p', κ', μ', wd', a1, a2, a3, by omega, fun r r1 r2 r3 r4 => by rw [a5 r r1 r2 r3 r4, up_row r3], fun r r1 r2 r3 r4 r5 => by rw [a6 r r1 r2 r3 r4 r5, up_row r1]⟩
    have sp : f_X5_isSpace (κ 61 p) = some (if κ 61 p = 32 ∨ κ 61 p = 10 then 1 else 0) := by
      unfold f_X5_isSpace
      by_cases z : κ 61 p = 32
      · rw [if_pos z, if_pos (Or.inl z)]
      · by_cases y : κ 61 p = 10
        · rw [if_neg z, if_pos y, if_pos (Or.inr y)]
        · rw [if_neg z, if_neg y, if_neg (fun q => q.elim z y)]
    rw [sp, Option.bind_some]
    by_cases z : κ 61 p = 32
    · rw [if_pos (Or.inl z), if_neg (c := (1 : Int32) = 0) (by decide), if_pos (b32.mpr z)]
      exact skip
    · by_cases y : κ 61 p = 10
      · rw [if_pos (Or.inr y), if_neg (c := (1 : Int32) = 0) (by decide), if_neg (fun q => z (b32.mp q)), if_pos (b10.mpr y)]
        exact skip
      · rw [if_neg (c := κ 61 p = 32 ∨ κ 61 p = 10) (fun q => q.elim z y), if_pos (c := (0 : Int32) = 0) rfl, if_neg (fun q => z (b32.mp q)), if_neg (fun q => y (b10.mp q))]
        have X1 : TX tl κ (up (up (up μ 8 0 (nI p)) 10 0 0) 11 0 0) := X.ex rfl rfl (by rw [up_row (by decide), up_row (by decide), up_row (by decide)]) (by rw [up_row (by decide), up_row (by decide), up_row (by decide)])
        have b1 : f_X9_byteAt (nI p) (up (up (up μ 8 0 (nI p)) 10 0 0) 11 0 0) 0 = some (μ 5 p) := (m_b X1 (by omega) 0).trans (by rw [up_row (by decide), up_row (by decide), up_row (by decide)])
        have nm : μ 5 p ≠ -1 := fun q => by
          rcases b with b | b
          · rw [← b.1] at q
            rw [q, z_m1] at b
            omega
          · rw [q, z_m1] at b
            omega
        unfold f_X5_readToken_39
        rw [X.2.1, h10, if_pos (Int32.not_le.mp (nI_ge' (show p < tl by omega) (by omega))), if_pos (ib_nI (by omega) (by decide)), ix_nI (by omega), cl_l, Option.bind_some, b1, Option.bind_some, if_neg nm, m_l, Option.bind_some, b.l, cl_d, Option.bind_some, m_d, Option.bind_some, b.d, bind_sm, bind_sm]
        rcases lB_01 (κ 61 p) with l | l
        · rw [l, if_pos (c := (0 : Int32) = 0) rfl, if_pos (c := (0 : Int32) = 0) rfl]
          rcases dB_01 (κ 61 p) with d | d
          · rw [d, if_pos (c := (0 : Int32) = 0) rfl, if_pos (c := (0 : Int32) = 0) rfl]
            have c59 : μ 5 p = 59 ↔ κ 61 p = 59 := b.v (by decide)
            rw [nI_1]
            by_cases w : κ 61 p = 59
            · rw [if_pos w, if_pos (c59.mpr w)]
              exact ⟨p, p + 1, _, _, _, rfl, rfl, ⟨X.ex (by simp [up]) (by simp [up]) (by simp [up]) (by simp [up]), ⟨up_same _ _ _ _, up_same _ _ _ _, by simp [up, upd], by simp [up, upd], by omega, by omega⟩, Or.inr (Or.inr (Or.inr (Or.inl ⟨by simp [up, upd], by simp [up, upd]⟩)))⟩, Nat.le_refl _, fun r r1 r2 r3 r4 => by simp [up, r1, r2, r3], fun r r1 r2 r3 r4 r5 => by simp [up, r1, r2, r3, r4, r5]⟩
            · rw [if_neg w, if_neg (fun q => w (c59.mp q))]
              exact ⟨p, p + 1, _, _, _, rfl, rfl, ⟨X.ex (by simp [up]) (by simp [up]) (by simp [up]) (by simp [up]), ⟨up_same _ _ _ _, up_same _ _ _ _, by simp [up, upd], by simp [up, upd], by omega, by omega⟩, Or.inr (Or.inr (Or.inr (Or.inr ⟨by simp [up, upd], by simp [up, upd]⟩)))⟩, Nat.le_refl _, fun r r1 r2 r3 r4 => by simp [up, r1, r2, r3], fun r r1 r2 r3 r4 r5 => by simp [up, r1, r2, r3, r4, r5]⟩
          · rw [d, if_neg (c := (1 : Int32) = 0) (by decide), if_neg (c := (1 : Int32) = 0) (by decide)]
            obtain ⟨p', κ', μ', a1, a2, a3, a4, a5, a6, a7, a8, a9, a10⟩ := num_it (tl := tl) 0 N (tl - p) p N N (up (up (up κ 9 0 (nI p)) 8 0 2) 11 0 0) (up (up (up (up μ 8 0 (nI p)) 10 0 0) 11 0 0) 9 0 3) (by omega) (X.ex (by simp [up]) (by simp [up]) (by simp [up]) (by simp [up])) (by simp [up]; exact h10) (by simp [up]; exact h7) (by simp [up, upd]; exact Or.inl ⟨rfl, by decide, by decide⟩) (by omega) (by omega)
            exact ⟨p, p', κ', μ', 0, a3, a4, ⟨a5, ⟨a6, a7, by rw [a9 9 (by decide) (by decide)]; simp [up, upd], by rw [a10 8 (by decide) (by decide)]; simp [up, upd], a1, a2⟩, Or.inr (Or.inr (Or.inl ⟨by rw [a9 8 (by decide) (by decide)]; simp [up, upd], by rw [a10 9 (by decide) (by decide)]; simp [up, upd], a8⟩))⟩, Nat.le_refl _, fun r r1 r2 r3 r4 => by rw [a9 r r3 r4]; simp [up, r1, r2, r4], fun r r1 r2 r3 r4 r5 => by rw [a10 r r1 r5]; simp [up, r2, r3, r4, r5]⟩
        · rw [l, if_neg (c := (1 : Int32) = 0) (by decide), if_neg (c := (1 : Int32) = 0) (by decide)]
          obtain ⟨q', κ', μ', a1, a2, a3, a4, a5, a6, a7, a8, a9, a10, a11⟩ := word_it (tl := tl) N p (tl - p) 0 N N (up (up κ 9 0 (nI p)) 8 0 1) (up (up (up (up μ 8 0 (nI p)) 10 0 0) 11 0 0) 9 0 2) (by omega) (X.ex (by simp [up]) (by simp [up]) (by simp [up]) (by simp [up])) (by simp [up]; exact h10) (by simp [up]; exact h7) (by simp [up, upd]; rfl) (by omega) (by omega)
          have e61 : κ' 61 = (up (up κ 9 0 (nI p)) 8 0 1) 61 := a10 61 (by decide)
          refine ⟨p, p + q', κ', μ', _, a3, a4, ⟨a5, ⟨a6, a7, by rw [a10 9 (by decide)]; simp [up, upd], by rw [a11 8 (by decide) (by decide)]; simp [up, upd], by omega, a2⟩, Or.inr (Or.inl ⟨by rw [a10 8 (by decide)]; simp [up, upd], by rw [a11 9 (by decide) (by decide)]; simp [up, upd], by rw [a8, Nat.add_sub_cancel_left], by rw [e61, Nat.add_sub_cancel_left], fun i hi => by rw [e61]; exact a9 i (Nat.zero_le _) (by omega)⟩)⟩, Nat.le_refl _, fun r r1 r2 r3 r4 => by rw [a10 r r3]; simp [up, r1, r2], fun r r1 r2 r3 r4 r5 => by rw [a11 r r1 r4]; simp [up, r2, r3, r4, r5]⟩
end Hg
