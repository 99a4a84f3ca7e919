section Pa
variable {cnt kc T ln : Nat} {σ : Sg}
/-! p62: the log, by what it tells -/
/-- what a write makes of a log of ln events -/
theorem wr_lt (h : σ 7 0 = nI ln) (hl : ln < 600) (a b c d : Int32) : wr 600 a b c d σ = up (up (up (up (up σ 8 ln a) 9 ln b) 10 ln c) 11 ln d) 7 0 (nI (ln + 1)) := by
  unfold wr f_X4_write
  rw [h, if_pos (show nI ln < Int32.ofNat 600 from nI_lt hl (by omega)), if_pos (ib_nI hl (by omega)), ix_nI (by omega), nI_1]
  rfl
theorem wr_full (h : σ 7 0 = nI 600) (a b c d : Int32) : wr 600 a b c d σ = σ := by
  unfold wr f_X4_write
  rw [h, if_neg (by decide)]
  rfl
/-- when a ticket was last told to be solved, by the first n events -/
def lsv (σ : Sg) (t : Nat) : Nat → Int32
  | 0 => -1
  | n + 1 => if σ 9 n = 5 ∧ σ 10 n = nI t then σ 8 n else lsv σ t n
theorem lsv_cong {σ' : Sg} (t : Nat) : ∀ n, (∀ k i, 8 ≤ k → k < 12 → i < n → σ' k i = σ k i) → lsv σ' t n = lsv σ t n
  | 0, _ => rfl
  | n + 1, h => by
    unfold lsv
    rw [h 9 n (by decide) (by decide) (Nat.lt_succ_self n), h 10 n (by decide) (by decide) (Nat.lt_succ_self n), h 8 n (by decide) (by decide) (Nat.lt_succ_self n), lsv_cong t n (fun k i a b c => h k i a b (by omega))]
/-- the log's events are of tickets, in the order of their times -/
def LGa (cnt T ln : Nat) (σ : Sg) : Prop := ln ≤ 600 ∧ σ 7 0 = nI ln ∧ (∀ e, e < ln → (∃ a, a ≤ T ∧ σ 8 e = nI a) ∧ ∃ j, j < cnt ∧ σ 10 e = nI j) ∧ ∀ e, e + 1 < ln → σ 8 e ≤ σ 8 (e + 1)
/-- .. and, where it isn't full, tells when each ticket was solved last -/
def LGf (cnt T ln : Nat) (σ : Sg) (f : Nat → Int32) : Prop := LGa cnt T ln σ ∧ (ln < 600 → ∀ t, t < cnt → lsv σ t ln = f t)
theorem LGa.ex {σ' : Sg} {R : List Nat} (h : LGa cnt T ln σ) (hx : Ex R σ σ') (hR : 7 ∉ R ∧ 8 ∉ R ∧ 10 ∉ R) : LGa cnt T ln σ' := by
  unfold LGa
  rw [hx 7 hR.1, hx 8 hR.2.1, hx 10 hR.2.2]
  exact h
theorem LGf.ex {σ' : Sg} {R : List Nat} {f : Nat → Int32} (h : LGf cnt T ln σ f) (hx : Ex R σ σ') (hR : 7 ∉ R ∧ 8 ∉ R ∧ 9 ∉ R ∧ 10 ∉ R ∧ 11 ∉ R) : LGf cnt T ln σ' f := by
  refine ⟨h.1.ex hx ⟨hR.1, hR.2.1, hR.2.2.2.1⟩, fun hl t ht => ?_⟩
  rw [lsv_cong t ln (fun k i a b _ => ?_)]
  · exact h.2 hl t ht
  · have : k = 8 ∨ k = 9 ∨ k = 10 ∨ k = 11 := by omega
    rcases this with rfl | rfl | rfl | rfl
    · rw [hx 8 hR.2.1]
    · rw [hx 9 hR.2.2.1]
    · rw [hx 10 hR.2.2.2.1]
    · rw [hx 11 hR.2.2.2.2]
theorem LGa.le {T' : Nat} (h : LGa cnt T ln σ) (hT : T ≤ T') : LGa cnt T' ln σ :=
  ⟨h.1, h.2.1, fun e he => by
    obtain ⟨⟨a, a1, a2⟩, q⟩ := h.2.2.1 e he
    exact ⟨⟨a, by omega, a2⟩, q⟩, h.2.2.2⟩
theorem LGf.le {T' : Nat} {f : Nat → Int32} (h : LGf cnt T ln σ f) (hT : T ≤ T') : LGf cnt T' ln σ f := ⟨h.1.le hT, h.2⟩
/-- an event more, now -/
theorem LGf.wr {f : Nat → Int32} (h : LGf cnt T ln σ f) (hT : T ≤ 10080) (hc : cnt ≤ 60) (b d : Int32) {j : Nat} (hj : j < cnt) : LGf cnt T (min 600 (ln + 1)) (wr 600 (nI T) b (nI j) d σ) (fun t => if b = 5 ∧ t = j then nI T else f t) := by
  obtain ⟨⟨h1, h2, h3, h4⟩, hf⟩ := h
  rcases Nat.lt_or_ge ln 600 with q | q
  · rw [wr_lt h2 q, Nat.min_eq_right (by omega)]
    have e7 : ∀ k i, (k ≠ 7 ∧ (k < 8 ∨ 11 < k ∨ i ≠ ln)) → up (up (up (up (up σ 8 ln (nI T)) 9 ln b) 10 ln (nI j)) 11 ln d) 7 0 (nI (ln + 1)) k i = σ k i := fun k i hk => by
      rw [up_row hk.1]
      simp only [up_ite]
      rw [if_neg (by omega), if_neg (by omega), if_neg (by omega), if_neg (by omega)]
    have e8 : up (up (up (up (up σ 8 ln (nI T)) 9 ln b) 10 ln (nI j)) 11 ln d) 7 0 (nI (ln + 1)) 8 ln = nI T := by
      simp [up_ite]
    have e9 : up (up (up (up (up σ 8 ln (nI T)) 9 ln b) 10 ln (nI j)) 11 ln d) 7 0 (nI (ln + 1)) 9 ln = b := by
      simp [up_ite]
    have e10 : up (up (up (up (up σ 8 ln (nI T)) 9 ln b) 10 ln (nI j)) 11 ln d) 7 0 (nI (ln + 1)) 10 ln = nI j := by
      simp [up_ite]
    refine ⟨⟨by omega, up_same _ _ _ _, fun e he => ?_, fun e he => ?_⟩, fun hl t ht => ?_⟩
    · by_cases z : e = ln
      · subst z
        exact ⟨⟨T, Nat.le_refl _, e8⟩, j, hj, e10⟩
      · rw [e7 8 e ⟨by decide, by omega⟩, e7 10 e ⟨by decide, by omega⟩]
        exact h3 e (by omega)
    · rw [e7 8 e ⟨by decide, by omega⟩]
      by_cases z : e + 1 = ln
      · rw [z, e8]
        obtain ⟨⟨a, a1, a2⟩, -⟩ := h3 e (by omega)
        rw [a2]
        exact nI_le a1 (by omega)
      · rw [e7 8 (e + 1) ⟨by decide, by omega⟩]
        exact h4 e (by omega)
    · unfold lsv
      rw [e9, e10, e8, lsv_cong t ln (fun k i a b c => e7 k i ⟨by omega, by omega⟩), hf q t ht]
      have : (nI j = nI t) ↔ t = j := by rw [nI_eq (by omega) (by omega)]; exact eq_comm
      show (if b = 5 ∧ nI j = nI t then nI T else f t) = (if b = 5 ∧ t = j then nI T else f t)
      by_cases z : b = 5 ∧ t = j
      · rw [if_pos z, if_pos ⟨z.1, this.mpr z.2⟩]
      · rw [if_neg z, if_neg (fun w => z ⟨w.1, this.mp w.2⟩)]
  · obtain rfl : ln = 600 := by omega
    rw [wr_full h2]
    exact ⟨⟨h1, h2, h3, h4⟩, fun hl => absurd hl (by decide)⟩
/-- what the last event says -/
theorem wr_told (h : LGa cnt T ln σ) (a b c d : Int32) : wr 600 a b c d σ 7 0 = nI (min 600 (ln + 1)) ∧ (ln < 600 → wr 600 a b c d σ 8 ln = a ∧ wr 600 a b c d σ 9 ln = b ∧ wr 600 a b c d σ 10 ln = c ∧ wr 600 a b c d σ 11 ln = d) := by
  obtain ⟨h1, h2, -, -⟩ := h
  rcases Nat.lt_or_ge ln 600 with q | q
  · rw [wr_lt h2 q, Nat.min_eq_right (by omega)]
    refine ⟨up_same _ _ _ _, fun _ => ?_⟩
    simp [up_ite]
  · obtain rfl : ln = 600 := by omega
    rw [wr_full h2]
    exact ⟨h2, fun hl => absurd hl (by decide)⟩
end Pa
