section Hb
variable {cnt kc T hl sn : Nat} {σ μ κ : Sg}
/-! a parsed script is run on both sides -/
def VY (c m : Int32) : Prop := TY c m ∨ (c = 1 ∧ m = 11) ∨ (c = 12 ∧ m = 12)
/-- the same statements -/
def SR (sn : Nat) (κ μ : Sg) : Prop := sn ≤ 40 ∧ κ 4 0 = nI sn ∧ μ 16 0 = nI sn ∧ ∀ i, i < sn → VY (κ 62 i) (μ 15 (7 * i)) ∧ (∀ j, j < 5 → κ 65 (5 * i + j) = μ 15 (7 * i + 1 + j)) ∧ κ 64 i = μ 15 (7 * i + 6) ∧ (κ 64 i = 0 ∨ κ 64 i = 1)
theorem TY.not (c m : Int32) (h : TY c m) : c ≠ 1 ∧ c ≠ 12 ∧ m ≠ 11 ∧ m ≠ 12 := by
  rcases h with ⟨rfl, rfl⟩ | ⟨rfl, rfl⟩ | ⟨rfl, rfl⟩ | (⟨rfl, rfl⟩ | ⟨rfl, rfl⟩ | ⟨rfl, rfl⟩ | ⟨rfl, rfl⟩ | ⟨rfl, rfl⟩ | ⟨rfl, rfl⟩) | ⟨rfl, rfl⟩ | ⟨rfl, rfl⟩ <;> decide
/-- a statement is called -/
def t8_call (N : Nat) (x1 : Int32) (σ : Sg) (κ : Sg) : Option (Int32 × Sg) := if ib x1 40 then (if (κ 62 (ix x1)) = 1 then (f_X8_addKind (κ 65 (5 * (ix x1) + (ix 0))) (κ 65 (5 * (ix x1) + (ix 1))) (κ 65 (5 * (ix x1) + (ix 2))) (κ 65 (5 * (ix x1) + (ix 3))) (κ 65 (5 * (ix x1) + (ix 4))) (κ 64 (ix x1)) σ).bind (fun p4 => some (p4.1, p4.2)) else if (κ 62 (ix x1)) = 12 then (f_X8_pass N (κ 65 (5 * (ix x1) + (ix 0))) σ).bind (fun p6 => some (p6.1, p6.2)) else (f_X8_change N (κ 62 (ix x1)) (κ 65 (5 * (ix x1) + (ix 0))) (κ 65 (5 * (ix x1) + (ix 1))) (κ 65 (5 * (ix x1) + (ix 2))) (κ 65 (5 * (ix x1) + (ix 3))) σ).bind (fun p2 => some (p2.1, p2.2))) else none
theorem t8_step (N n : Nat) (x2 : Int32) (σ κ : Sg) : f_X8_runScript_33 N (n + 1) x2 σ κ = (if (κ 4 0) ≤ x2 then some ((κ 4 0), σ, κ) else (t8_call N x2 σ κ).bind (fun p2 => (if (-1) ≤ p2.1 then f_X8_runScript_33 N n (x2 + 1) p2.2 κ else some (x2, p2.2, (up κ 7 0 p2.1))))) := by
  rw [f_X8_runScript_33]
  unfold t8_call
  by_cases h0 : κ 4 0 ≤ x2
  · rw [if_pos h0, if_pos h0]
  rw [if_neg h0, if_neg h0]
  by_cases h1 : ib x2 40
  · rw [if_pos h1, if_pos h1]
    by_cases h2 : κ 62 (ix x2) = 1
    · rw [if_pos h2, if_pos h2, bind_pair]
    rw [if_neg h2, if_neg h2]
    by_cases h3 : κ 62 (ix x2) = 12
    · rw [if_pos h3, if_pos h3, bind_pair]
    rw [if_neg h3, if_neg h3, bind_pair]
  · rw [if_neg h1, if_neg h1, Option.bind_none]
theorem call_sim (V : LV cnt kc T hl σ μ) (S : SR sn κ μ) {i : Nat} (hi : i < sn) (wd : Int64) {N : Nat} (hN : 10100 < N) :
    ∃ r cnt' kc' T' hl' σ' μ', t8_call N (nI i) σ κ = some (r, σ') ∧ f_X9_execute N (nI i) μ wd = some (r, μ') ∧ LV cnt' kc' T' hl' σ' μ' ∧ RZ μ μ' := by
  obtain ⟨s1, -, -, s4⟩ := S
  obtain ⟨v, a, w, w2⟩ := s4 i hi
  have j0 : κ 65 (5 * i + 0) = μ 15 (7 * i + 1) := a 0 (by decide)
  have j1 : κ 65 (5 * i + 1) = μ 15 (7 * i + 2) := a 1 (by decide)
  have j2 : κ 65 (5 * i + 2) = μ 15 (7 * i + 3) := a 2 (by decide)
  have j3 : κ 65 (5 * i + 3) = μ 15 (7 * i + 4) := a 3 (by decide)
  have j4 : κ 65 (5 * i + 4) = μ 15 (7 * i + 5) := a 4 (by decide)
  have i0 : ix 0 = 0 := rfl
  have i1 : ix 1 = 1 := rfl
  have i2 : ix 2 = 2 := rfl
  have i3 : ix 3 = 3 := rfl
  have i4 : ix 4 = 4 := rfl
  have m7 : (7 : Int32) * nI i = nI (7 * i) := pk_mul 7 i
  have b1 : nI (7 * i) + 1 = nI (7 * i + 1) := nI_add _ 1
  have b2 : nI (7 * i) + 2 = nI (7 * i + 2) := nI_add _ 2
  have b3 : nI (7 * i) + 3 = nI (7 * i + 3) := nI_add _ 3
  have b4 : nI (7 * i) + 4 = nI (7 * i + 4) := nI_add _ 4
  have b5 : nI (7 * i) + 5 = nI (7 * i + 5) := nI_add _ 5
  have b6 : nI (7 * i) + 6 = nI (7 * i + 6) := nI_add _ 6
  have e8 : t8_call N (nI i) σ κ = (if κ 62 i = 1 then f_X8_addKind (μ 15 (7 * i + 1)) (μ 15 (7 * i + 2)) (μ 15 (7 * i + 3)) (μ 15 (7 * i + 4)) (μ 15 (7 * i + 5)) (κ 64 i) σ else if κ 62 i = 12 then f_X8_pass N (μ 15 (7 * i + 1)) σ else f_X8_change N (κ 62 i) (μ 15 (7 * i + 1)) (μ 15 (7 * i + 2)) (μ 15 (7 * i + 3)) (μ 15 (7 * i + 4)) σ) := by
    unfold t8_call
    rw [if_pos (ib_nI (by omega) (by decide)), ix_nI (by omega), i0, i1, i2, i3, i4, j0, j1, j2, j3, j4, bind_pair, bind_pair, bind_pair]
  have e9 : f_X9_execute N (nI i) μ wd = (if μ 15 (7 * i) = 11 then (if μ 15 (7 * i + 6) = 1 then f_X9_addKind (μ 15 (7 * i + 1)) (μ 15 (7 * i + 2)) (μ 15 (7 * i + 3)) (μ 15 (7 * i + 4)) (μ 15 (7 * i + 5)) 1 μ wd else f_X9_addKind (μ 15 (7 * i + 1)) (μ 15 (7 * i + 2)) (μ 15 (7 * i + 3)) (μ 15 (7 * i + 4)) (μ 15 (7 * i + 5)) 0 μ wd) else if μ 15 (7 * i) = 12 then f_X9_pass N (μ 15 (7 * i + 1)) μ wd else f_X9_change N (μ 15 (7 * i)) (μ 15 (7 * i + 1)) (μ 15 (7 * i + 2)) (μ 15 (7 * i + 3)) (μ 15 (7 * i + 4)) μ wd) := by
    unfold f_X9_execute
    rw [m7, b1, b2, b3, b4, b5, b6, if_pos (ib_nI (by omega) (by decide)), if_pos (ib_nI (by omega) (by decide)), if_pos (ib_nI (by omega) (by decide)), if_pos (ib_nI (by omega) (by decide)), if_pos (ib_nI (by omega) (by decide)), if_pos (c := ib (nI (7 * i + 5)) 280) (ib_nI (by omega) (by decide)), if_pos (c := ib (nI (7 * i + 6)) 280) (ib_nI (by omega) (by decide)), ix_nI (by omega), ix_nI (by omega), ix_nI (by omega), ix_nI (by omega), ix_nI (by omega), ix_nI (by omega), ix_nI (by omega), bind_pair, bind_pair, bind_pair, bind_pair]
  rw [e8, e9]
  rcases v with v | ⟨v1, v2⟩ | ⟨v1, v2⟩
  · obtain ⟨n1, n2, n3, n4⟩ := v.not
    rw [if_neg n1, if_neg n2, if_neg n3, if_neg n4]
    obtain ⟨r, cnt', hl', σ', μ', h1, h2, h3, h4⟩ := change_sim V v (μ 15 (7 * i + 1)) (μ 15 (7 * i + 2)) (μ 15 (7 * i + 3)) (μ 15 (7 * i + 4)) (N := N) (by omega) wd
    exact ⟨r, cnt', kc, T, hl', σ', μ', h1, h2, h3, h4⟩
  · rw [if_pos v1, if_pos v2, ← w]
    obtain ⟨r, kc', σ', μ', h1, h2, h3, h4⟩ := addKind_sim V (μ 15 (7 * i + 1)) (μ 15 (7 * i + 2)) (μ 15 (7 * i + 3)) (μ 15 (7 * i + 4)) (μ 15 (7 * i + 5)) (κ 64 i) w2 wd
    refine ⟨r, cnt, kc', T, hl, σ', μ', h1, ?_, h3, h4⟩
    rcases w2 with z | z <;> rw [z] at h2 ⊢
    · rw [if_neg (by decide)]
      exact h2
    · rw [if_pos rfl]
      exact h2
  · rw [if_neg (by rw [v1]; decide), if_pos v1, if_neg (by rw [v2]; decide), if_pos v2]
    obtain ⟨r, T', σ', μ', h1, h2, h3, h4⟩ := pass_sim V (μ 15 (7 * i + 1)) wd hN
    exact ⟨r, cnt, kc, T', hl, σ', μ', h1, h2, h3, h4⟩
/-- the rows of the reference beside the state and the failure -/
def RF (μ μ' : Sg) : Prop := ∀ k, k ≠ 1 → k ≠ 14 → μ' k = μ k
theorem run_it (wd : Int64) {N : Nat} (hN : 10100 < N) : ∀ (k i cnt kc T hl n n' : Nat) (σ μ : Sg), i + k = sn → LV cnt kc T hl σ μ → SR sn κ μ → κ 7 0 = 0 → μ 14 0 = 0 → k + 1 < n → k + 1 < n' →
    ∃ r cnt' kc' T' hl' σ' κ' μ', f_X8_runScript_33 N n (nI i) σ κ = some (r, σ', κ') ∧ f_X9_runScript_67 N n' (nI i) μ wd = some (r, μ', wd) ∧ LV cnt' kc' T' hl' σ' μ' ∧ RF μ μ' ∧ (∀ k, k ≠ 7 → κ' k = κ k) ∧ κ' 7 0 = μ' 14 0
  | 0, i, cnt, kc, T, hl, n, n', σ, μ, hk, V, S, f0, g0, hn, hn' => by
    obtain ⟨m, rfl⟩ : ∃ q, n = q + 1 := ⟨n - 1, by omega⟩
    obtain ⟨m', rfl⟩ : ∃ q, n' = q + 1 := ⟨n' - 1, by omega⟩
    obtain rfl : i = sn := by omega
    have s1 := S.1
    refine ⟨nI i, cnt, kc, T, hl, σ, κ, μ, ?_, ?_, V, fun _ _ _ => rfl, fun _ _ => rfl, f0.trans g0.symm⟩
    · rw [t8_step, S.2.1, if_pos (nI_le' (Nat.le_refl _) (by omega))]
    · rw [f_X9_runScript_67, S.2.2.1, if_pos (nI_le' (Nat.le_refl _) (by omega))]
  | k + 1, i, cnt, kc, T, hl, n, n', σ, μ, hk, V, S, f0, g0, hn, hn' => by
    obtain ⟨m, rfl⟩ : ∃ q, n = q + 1 := ⟨n - 1, by omega⟩
    obtain ⟨m', rfl⟩ : ∃ q, n' = q + 1 := ⟨n' - 1, by omega⟩
    have s1 := S.1
    obtain ⟨r, cnt', kc', T', hl', σ', μ', h1, h2, h3, h4⟩ := call_sim V S (show i < sn by omega) wd hN
    have pv1 : ∀ v, pV (up μ' 14 0 v) = pV μ' := fun v => pv_same fun a _ => by rw [up_row (by decide)]
    rw [t8_step, S.2.1, if_neg (nI_ge' (by omega) (by omega)), h1, Option.bind_some, f_X9_runScript_67, S.2.2.1, if_neg (nI_ge' (by omega) (by omega)), if_pos g0, h2, Option.bind_some, nI_1]
    by_cases q : (-1 : Int32) ≤ r
    · rw [if_pos q, if_pos q, if_pos q]
      have S' : SR sn κ (up μ' 14 0 0) := by
        unfold SR
        rw [up_row (by decide), up_row (by decide), h4 16 (by decide), h4 15 (by decide)]
        exact S
      obtain ⟨r2, c2, k2, t2, l2, σ2, κ2, μ2, a1, a2, a3, a4, a5, a6⟩ := run_it wd hN k (i + 1) cnt' kc' T' hl' m m' σ' (up μ' 14 0 0) (by omega) (h3.pv (pv1 0)) S' f0 (up_same _ _ _ _) (by omega) (by omega)
      exact ⟨r2, c2, k2, t2, l2, σ2, κ2, μ2, a1, a2, a3, fun x x1 x2 => by rw [a4 x x1 x2, up_row x2, h4 x x1], a5, a6⟩
    · rw [if_neg q, if_neg q, if_neg q]
      have r0 : r ≠ 0 := fun z => q (by rw [z]; decide)
      obtain ⟨m2, rfl⟩ : ∃ q, m' = q + 1 := ⟨m' - 1, by omega⟩
      refine ⟨nI i, cnt', kc', T', hl', σ', up κ 7 0 r, up μ' 14 0 r, rfl, ?_, h3.pv (pv1 r), fun x x1 x2 => by rw [up_row x2, h4 x x1], fun x x1 => up_row x1, by rw [up_same, up_same]⟩
      have i0 : nI i + 0 = nI i := nI_add i 0
      have e16 : up μ' 14 0 r 16 0 = nI sn := by rw [up_row (by decide), h4 16 (by decide)]; exact S.2.2.1
      have e14 : up μ' 14 0 r 14 0 = r := up_same _ _ _ _
      show f_X9_runScript_67 N (m2 + 1) (nI i + 0) (up μ' 14 0 r) wd = _
      rw [i0, f_X9_runScript_67, e16, if_neg (nI_ge' (by omega) (by omega)), e14, if_neg r0]
end Hb
