section HL
variable {cA : Nat → ClassId} {σ τ κ μ : Sg} {f : Nat → Option Nat} {V0 V1 : va_W}
/-! the class and the reference between two calls -/
def LVx (σ μ : Sg) : Prop := ∃ cnt kc T hl, LV cnt kc T hl σ μ
def wAll (cA : Nat → ClassId) (g : Nat → Nat) (ρ : Sg) : va_W := wK cA g ρ ++ (wLg cA g ρ 600 ++ (wC cA g ρ ++ (wH cA g ρ ++ wS g)))
/-- a slot: nothing is saved, or a state -/
def SL1 (cA : Nat → ClassId) (s : Nat) (f : Nat → Option Nat) (V : va_W) (μ : Sg) : Prop := (f s = none ∧ V = [] ∧ μ 4 s = 0) ∨ ∃ g ρ, f s = some (g 46) ∧ V = wAll cA g ρ ∧ μ 4 s = 1 ∧ LVx ρ (sl μ s)
def LX (cA : Nat → ClassId) (σ τ κ μ : Sg) (f : Nat → Option Nat) (V0 V1 : va_W) : Prop := LVx σ μ ∧ (∃ tl, TX tl κ μ) ∧ τ 7 0 = 0 ∧ ERs κ μ ∧ SL1 cA 0 f V0 μ ∧ SL1 cA 1 f V1 μ
theorem LVx.pv {μ' : Sg} (V : LVx σ μ) (h : pV μ' = pV μ) : LVx σ μ' := by
  obtain ⟨a, b, c, d, v⟩ := V
  exact ⟨a, b, c, d, v.pv h⟩
theorem sl_pv {μ' : Sg} {s : Nat} (h : μ' 3 = μ 3) : pV (sl μ' s) = pV (sl μ s) := pv_same fun a _ => by
  show μ' 3 (4619 * s + a) = μ 3 (4619 * s + a)
  rw [h]
theorem SL1.ex {s : Nat} {V : va_W} {μ' : Sg} (S : SL1 cA s f V μ) (h3 : μ' 3 = μ 3) (h4 : μ' 4 = μ 4) : SL1 cA s f V μ' := by
  rcases S with ⟨a, b, c⟩ | ⟨g, ρ, a, b, c, d⟩
  · exact Or.inl ⟨a, b, by rw [h4]; exact c⟩
  · exact Or.inr ⟨g, ρ, a, b, by rw [h4]; exact c, d.pv (sl_pv h3)⟩
theorem ERs.ex {κ' μ' : Sg} (h : ERs κ μ) (k5 : κ' 5 = κ 5) (k6 : κ' 6 = κ 6) (k7 : κ' 7 = κ 7) (m1 : μ' 12 = μ 12) (m2 : μ' 13 = μ 13) (m3 : μ' 14 = μ 14) : ERs κ' μ' := by
  unfold ERs
  rw [k5, k6, k7, m1, m2, m3]
  exact h
/-- only the reference's rows 1 and 2 have moved -/
theorem LX.ry {σ' τ' μ' : Sg} (X : LX cA σ τ κ μ f V0 V1) (V : LVx σ' μ') (h : RY μ μ') (ht : τ' 7 0 = 0) : LX cA σ' τ' κ μ' f V0 V1 := by
  obtain ⟨-, ⟨tl, t⟩, -, e, s0, s1⟩ := X
  have r : ∀ k, k = 3 ∨ k = 4 ∨ k = 5 ∨ k = 6 ∨ k = 12 ∨ k = 13 ∨ k = 14 → μ' k = μ k := fun k hk => h k (by omega) (by omega)
  exact ⟨V, ⟨tl, t.ex rfl rfl (r 5 (by omega)) (r 6 (by omega))⟩, ht, e.ex rfl rfl rfl (r 12 (by omega)) (r 13 (by omega)) (r 14 (by omega)), s0.ex (r 3 (by omega)) (r 4 (by omega)), s1.ex (r 3 (by omega)) (r 4 (by omega))⟩
theorem RZ.ry {μ' : Sg} (h : RZ μ μ') : RY μ μ' := fun k h1 _ => h k h1
theorem LX.v (X : LX cA σ τ κ μ f V0 V1) : ∃ cnt kc T hl, LV cnt kc T hl σ μ := X.1
theorem LX.t0 (X : LX cA σ τ κ μ f V0 V1) : τ 7 0 = 0 := X.2.2.1
abbrev NN : Nat := 20000
/-- a change -/
theorem L_ch (X : LX cA σ τ κ μ f V0 V1) {c m : Int32} (hc : TY c m) (a b x d : Int32) (wd : Int64) : ∃ r σ' μ', f_X8_change NN c a b x d σ = some (r, σ') ∧ f_X9_change NN m a b x d μ wd = some (r, μ') ∧ LX cA σ' τ κ μ' f V0 V1 := by
  obtain ⟨cnt, kc, T, hl, V⟩ := X.v
  obtain ⟨r, cnt', hl', σ', μ', h1, h2, h3, h4⟩ := change_sim V hc a b x d (N := NN) (by decide) wd
  exact ⟨r, σ', μ', h1, h2, X.ry ⟨_, _, _, _, h3⟩ h4.ry X.t0⟩
theorem L_pass (X : LX cA σ τ κ μ f V0 V1) (x : Int32) (wd : Int64) : ∃ r σ' μ', f_X8_pass NN x σ = some (r, σ') ∧ f_X9_pass NN x μ wd = some (r, μ') ∧ LX cA σ' τ κ μ' f V0 V1 := by
  obtain ⟨cnt, kc, T, hl, V⟩ := X.v
  obtain ⟨r, T', σ', μ', h1, h2, h3, h4⟩ := pass_sim V x wd (N := NN) (by decide)
  exact ⟨r, σ', μ', h1, h2, X.ry ⟨_, _, _, _, h3⟩ h4.ry X.t0⟩
theorem L_addKind (X : LX cA σ τ κ μ f V0 V1) (a b c d e g : Int32) (hg : g = 0 ∨ g = 1) (wd : Int64) : ∃ r σ' μ', f_X8_addKind a b c d e g σ = some (r, σ') ∧ f_X9_addKind a b c d e g μ wd = some (r, μ') ∧ LX cA σ' τ κ μ' f V0 V1 := by
  obtain ⟨cnt, kc, T, hl, V⟩ := X.v
  obtain ⟨r, kc', σ', μ', h1, h2, h3, h4⟩ := addKind_sim V a b c d e g hg wd
  exact ⟨r, σ', μ', h1, h2, X.ry ⟨_, _, _, _, h3⟩ h4.ry X.t0⟩
theorem L_forecast (X : LX cA σ τ κ μ f V0 V1) (x : Int32) (wd : Int64) : ∃ r τ' μ', f_X8_forecast NN x σ τ = some (r, τ') ∧ f_X9_forecast NN x μ wd = some (r, μ') ∧ LX cA σ τ' κ μ' f V0 V1 := by
  obtain ⟨cnt, kc, T, hl, V⟩ := X.v
  obtain ⟨r, τ', μ', h1, h2, h3, h4, h5⟩ := forecast_sim V X.t0 x wd (N := NN) (by decide)
  exact ⟨r, τ', μ', h1, h3, X.ry ⟨_, _, _, _, h4⟩ h5 h2⟩
theorem L_ahead (X : LX cA σ τ κ μ f V0 V1) (wd : Int64) : ∃ r τ' μ', f_X8_breachesAhead NN σ τ = some (r, τ') ∧ f_X9_breachesAhead NN μ wd = some (r, μ') ∧ LX cA σ τ' κ μ' f V0 V1 := by
  obtain ⟨cnt, kc, T, hl, V⟩ := X.v
  obtain ⟨r, τ', μ', h1, h2, h3, h4, h5⟩ := ahead_sim V τ wd (N := NN) (by decide)
  exact ⟨r, τ', μ', h1, h3, X.ry ⟨_, _, _, _, h4⟩ h5 h2⟩
theorem L_with (X : LX cA σ τ κ μ f V0 V1) (x y : Int32) (wd : Int64) : ∃ r τ' μ', f_X8_breachesWith NN x y σ τ = some (r, τ') ∧ f_X9_breachesWith NN x y μ wd = some (r, μ') ∧ LX cA σ τ' κ μ' f V0 V1 := by
  obtain ⟨cnt, kc, T, hl, V⟩ := X.v
  obtain ⟨r, τ', μ', h1, h2, h3, h4, h5⟩ := with_sim V X.t0 x y wd (N := NN) (by decide)
  exact ⟨r, τ', μ', h1, h3, X.ry ⟨_, _, _, _, h4⟩ h5 h2⟩
theorem L_least (X : LX cA σ τ κ μ f V0 V1) (x : Int32) (wd : Int64) : ∃ r τ' μ', f_X8_leastAgents NN x σ τ = some (r, τ') ∧ f_X9_leastAgents NN x μ wd = some (r, μ') ∧ LX cA σ τ' κ μ' f V0 V1 := by
  obtain ⟨cnt, kc, T, hl, V⟩ := X.v
  obtain ⟨r, τ', μ', h1, h2, h3, h4, h5⟩ := least_sim V X.t0 x wd (N := NN) (by decide)
  exact ⟨r, τ', μ', h1, h3, X.ry ⟨_, _, _, _, h4⟩ h5 h2⟩
/-- only the text has moved -/
theorem LX.tx {κ' μ' : Sg} {tl : Nat} (X : LX cA σ τ κ μ f V0 V1) (t : TX tl κ' μ') (hk : ∀ r, r ≠ 1 → r ≠ 61 → κ' r = κ r) (hm : ∀ r, r ≠ 5 → r ≠ 6 → μ' r = μ r) : LX cA σ τ κ' μ' f V0 V1 := by
  obtain ⟨v, -, z, e, s0, s1⟩ := X
  have r : ∀ k, k = 1 ∨ k = 3 ∨ k = 4 ∨ k = 12 ∨ k = 13 ∨ k = 14 → μ' k = μ k := fun k hk => hm k (by omega) (by omega)
  exact ⟨v.pv (pv_same fun a _ => by rw [r 1 (by omega)]), ⟨tl, t⟩, z, e.ex (hk 5 (by decide) (by decide)) (hk 6 (by decide) (by decide)) (hk 7 (by decide) (by decide)) (r 12 (by omega)) (r 13 (by omega)) (r 14 (by omega)), s0.ex (r 3 (by omega)) (r 4 (by omega)), s1.ex (r 3 (by omega)) (r 4 (by omega))⟩
theorem L_append (X : LX cA σ τ κ μ f V0 V1) (x : Int32) (wd : Int64) : ∃ r κ' μ', f_X8_appendText NN x σ κ = some (r, κ') ∧ f_X9_appendText NN x μ wd = some (r, μ') ∧ LX cA σ τ κ' μ' f V0 V1 := by
  obtain ⟨tl, t⟩ := X.2.1
  obtain ⟨r, tl', κ', μ', h1, h2, h3, h4, h5⟩ := append_sim t σ x wd (N := NN) (by decide)
  exact ⟨r, κ', μ', h1, h2, X.tx h3 h4 h5⟩
theorem L_truncate (X : LX cA σ τ κ μ f V0 V1) (x : Int32) (wd : Int64) : ∃ r κ' μ', f_X8_truncateText x σ κ = some (r, κ') ∧ f_X9_truncateText x μ wd = some (r, μ') ∧ LX cA σ τ κ' μ' f V0 V1 := by
  obtain ⟨tl, t⟩ := X.2.1
  obtain ⟨r, tl', κ', μ', h1, h2, h3, h4, h5⟩ := truncate_sim t σ x wd
  exact ⟨r, κ', μ', h1, h2, X.tx h3 h4 h5⟩
theorem L_script (X : LX cA σ τ κ μ f V0 V1) (wd : Int64) : ∃ r σ' κ' μ' wd', f_X8_runScript NN σ κ = some (r, σ', κ') ∧ f_X9_runScript NN μ wd = some (r, μ', wd') ∧ LX cA σ' τ κ' μ' f V0 V1 := by
  obtain ⟨⟨cnt, kc, T, hl, V⟩, ⟨tl, t⟩, z, e, s0, s1⟩ := X
  obtain ⟨r, c2, k2, t2, l2, σ', κ', μ', wd', h1, h2, h3, h4, h5, h6, h7⟩ := script_sim V t wd (N := NN) (by decide)
  have q : ∀ k, k = 3 ∨ k = 4 → μ' k = μ k := fun k hk => h7 k (by omega) (by omega) (by omega) (by omega) (by omega) (by omega) (by omega) (by omega) (by omega) (by omega) (by omega) (by omega)
  exact ⟨r, σ', κ', μ', wd', h1, h2, ⟨_, _, _, _, h3⟩, ⟨0, h4⟩, z, h5, s0.ex (q 3 (by omega)) (q 4 (by omega)), s1.ex (q 3 (by omega)) (q 4 (by omega))⟩
theorem L_err (X : LX cA σ τ κ μ f V0 V1) (wd : Int64) : f_X8_errorCode σ κ = f_X9_errorCode μ wd ∧ f_X8_errorPosition σ κ = f_X9_errorPosition μ wd ∧ f_X8_scriptFailure σ κ = f_X9_scriptFailure μ wd := by
  obtain ⟨-, -, -, e, -, -⟩ := X
  exact ⟨congrArg some e.1, congrArg some e.2.1, congrArg some e.2.2⟩
/-- a slot's number -/
theorem L_slot (x : Int32) : (∃ s, s < 2 ∧ x = nI s) ∨ ¬ (0 ≤ x ∧ x ≤ 1) := by
  by_cases h : 0 ≤ x ∧ x ≤ 1
  · obtain ⟨j, h1, h2⟩ := nI_of0 (n := 1) h.1 h.2 (by decide)
    exact Or.inl ⟨j, by omega, h2⟩
  · exact Or.inr h
/-- a state is saved into a slot -/
theorem L_save {s : Nat} (hs : s < 2) (X : LX cA σ τ κ μ f V0 V1) (wd : Int64) (ρ0 : Sg) : ∃ p μ', f_X6_copyFrom NN 600 600 ρ0 σ = some p ∧ f_X9_save NN (nI s) μ wd = some (1, μ') ∧ ∀ (g : Nat → Nat) (f' : Nat → Option Nat), f' s = some (g 46) → (∀ j, j ≠ s → f' j = f j) →
    LX cA σ τ κ μ' f' (if s = 0 then wAll cA g p else V0) (if s = 1 then wAll cA g p else V1) := by
  obtain ⟨⟨cnt, kc, T, hl, V⟩, ⟨tl, t⟩, z, e, s0, s1⟩ := X
  obtain ⟨p, h1, h2⟩ := st_copy V ρ0 (N := NN) (by decide)
  obtain ⟨μ', g1, g2, g3, g4, g5, g6⟩ := save_m μ hs wd (N := NN) (by decide)
  have q : ∀ k, k = 1 ∨ k = 5 ∨ k = 6 ∨ k = 12 ∨ k = 13 ∨ k = 14 → μ' k = μ k := fun k hk => g2 k (by omega) (by omega)
  refine ⟨p, μ', h1, g1, fun g f' hf hf2 => ⟨LVx.pv ⟨_, _, _, _, V⟩ (pv_same fun a _ => by rw [q 1 (by omega)]), ⟨tl, t.ex rfl rfl (q 5 (by omega)) (q 6 (by omega))⟩, z, e.ex rfl rfl rfl (q 12 (by omega)) (q 13 (by omega)) (q 14 (by omega)), ?_, ?_⟩⟩
  · by_cases h : s = 0
    · subst h
      rw [if_pos rfl]
      exact Or.inr ⟨g, p, hf, rfl, g3, _, _, _, _, h2 _ g5⟩
    · rw [if_neg h]
      rcases s0 with ⟨a, b, c⟩ | ⟨g', ρ', a, b, c, d⟩
      · exact Or.inl ⟨by rw [hf2 0 (by omega)]; exact a, b, by rw [g4 0 (by omega)]; exact c⟩
      · exact Or.inr ⟨g', ρ', by rw [hf2 0 (by omega)]; exact a, b, by rw [g4 0 (by omega)]; exact c, d.pv (g6 0 (by decide) (by omega))⟩
  · by_cases h : s = 1
    · subst h
      rw [if_pos rfl]
      exact Or.inr ⟨g, p, hf, rfl, g3, _, _, _, _, h2 _ g5⟩
    · rw [if_neg h]
      rcases s1 with ⟨a, b, c⟩ | ⟨g', ρ', a, b, c, d⟩
      · exact Or.inl ⟨by rw [hf2 1 (by omega)]; exact a, b, by rw [g4 1 (by omega)]; exact c⟩
      · exact Or.inr ⟨g', ρ', by rw [hf2 1 (by omega)]; exact a, b, by rw [g4 1 (by omega)]; exact c, d.pv (g6 1 (by decide) (by omega))⟩
/-- .. and back -/
theorem L_restore {s : Nat} (hs : s < 2) (X : LX cA σ τ κ μ f V0 V1) (wd : Int64) {g : Nat → Nat} {ρ : Sg} (h4 : μ 4 s = 1) (hv : LVx ρ (sl μ s)) : ∃ p μ', f_X6_copyFrom NN 600 600 σ ρ = some p ∧ f_X9_restore NN (nI s) μ wd = some (1, μ') ∧ LX cA p τ κ μ' f V0 V1 := by
  obtain ⟨cnt, kc, T, hl, V⟩ := hv
  obtain ⟨p, h1, h2⟩ := st_copy V σ (N := NN) (by decide)
  obtain ⟨μ', g1, g2, g3⟩ := restore_m μ hs (by rw [h4]; decide) wd (N := NN) (by decide)
  exact ⟨p, μ', h1, g1, X.ry ⟨_, _, _, _, h2 _ g3⟩ (RZ.ry g2) X.t0⟩
theorem zV : LV 0 0 0 0 zS mZ := by
  have hp : ∀ k i, pV mZ k i = 0 := fun k i => by
    unfold pV
    split
    · rfl
    · rfl
  refine ⟨⟨⟨by decide, by decide, rfl, rfl, fun k i _ => hp k i⟩, ⟨0, by decide, hp 7 0, Or.inr ⟨rfl, rfl, fun k i _ _ h => absurd h (Nat.not_lt_zero _)⟩⟩, ⟨by decide, rfl, fun k h => absurd h (Nat.not_lt_zero _), fun d hd => ?_, fun l hl => ?_, fun t h => absurd h (Nat.not_lt_zero _), fun t h => absurd h (Nat.not_lt_zero _), fun t h => absurd h (Nat.not_lt_zero _)⟩, fun t h => absurd h (Nat.not_lt_zero _)⟩, by decide, rfl, hp 31 0, fun i h => absurd h (Nat.not_lt_zero _)⟩
  · show (0 ≤ (0 : Int32).toInt ∧ (0 : Int32).toInt ≤ 1440) ∧ (0 ≤ (0 : Int32).toInt ∧ (0 : Int32).toInt ≤ 1440)
    decide
  · show 0 ≤ (0 : Int32).toInt ∧ (0 : Int32).toInt ≤ 9
    decide
/-- two new objects -/
theorem L_start : ∃ s0, f_X9_beginAtZero NN mZ 0 = some s0 ∧ LX cA sBg sBg kZ s0 (fun _ => none) [] [] := by
  obtain ⟨s0, h2, h4, h6, h0⟩ := bg_sim0 0 (N := NN) (by decide) zV (τ := zS) rfl (μ1 := mZ) rfl
  have h3 : FI 0 0 0 0 sBg s0 := h0 sBg (fun _ _ _ => rfl) (fun k i hk hi => by
    rcases Nat.eq_zero_or_pos k with rfl | hp
    · exact congrFun (bgS_k (ρ := zS) (by decide)) i
    · have : k = 1 ∨ k = 2 ∨ k = 3 ∨ k = 4 ∨ k = 5 ∨ k = 6 := by omega
      rcases this with rfl | rfl | rfl | rfl | rfl | rfl <;> exact absurd hi (Nat.not_lt_zero _))
  have r : ∀ k, k ≠ 1 → s0 k = mZ k := h4.1
  have k31 : pV s0 31 0 = 0 := by
    rw [h4.2 31 (by decide) (by decide)]
    unfold pV
    split
    · rfl
    · rfl
  refine ⟨s0, h2, ⟨0, 0, 0, 0, ⟨h3.1, ⟨0, by decide, h6, Or.inr ⟨rfl, rfl, fun k i _ _ h => absurd h (Nat.not_lt_zero _)⟩⟩, h3.2.2⟩, by decide, rfl, k31, fun i h => absurd h (Nat.not_lt_zero _)⟩, ⟨0, by decide, rfl, ?_, fun i h => absurd h (Nat.not_lt_zero _)⟩, rfl, ⟨?_, ?_, ?_⟩, Or.inl ⟨rfl, rfl, ?_⟩, Or.inl ⟨rfl, rfl, ?_⟩⟩
  · rw [r 6 (by decide)]
    rfl
  · rw [r 12 (by decide)]
    rfl
  · rw [r 13 (by decide)]
    rfl
  · rw [r 14 (by decide)]
    rfl
  · rw [r 4 (by decide)]
    rfl
  · rw [r 4 (by decide)]
    rfl
end HL
