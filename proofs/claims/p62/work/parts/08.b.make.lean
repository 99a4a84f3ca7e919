section Gb
variable {L cnt kc : Nat} {σ μ : Sg}
def LSt : List Nat := [7, 8, 9, 10, 11, 19, 21, 26, 28, 29]
/-- a change of states, roots, priorities -/
theorem FI.st {T : Nat} {σ' μ' : Sg} (F : FI L cnt kc T σ μ) (S : SB L cnt kc μ σ' μ') (x : Ex LSt σ σ') (I : RI cnt σ') : FI L cnt kc T σ' μ' := by
  obtain ⟨E, G, ⟨v1, v2, v3, v4, v5, v6, v7, v8⟩, hf⟩ := F
  refine ⟨S.1, S.2.1, ⟨v1, by rw [x 12 (by decide)]; exact v2, v3.ex x (by decide), v4.ex x (by decide), v5.ex x (by decide), I, KT.ex v7 x (by decide), fun t ht => ?_⟩, fun t ht => (hf t ht).ex x (by decide) S.2.2.1⟩
  unfold TB LK
  rw [x 22 (by decide), x 23 (by decide), x 24 (by decide), x 25 (by decide), x 5 (by decide), x 16 (by decide), x 20 (by decide)]
  exact v8 t ht
/-- one ticket's state, its root as before -/
theorem RI.set (h : RI cnt σ) {t : Nat} {σ' : Sg} {v : Int32} (h26 : σ' 26 = σ 26) (h21 : ∀ j, σ' 21 j = if j = t then v else σ 21 j) (ha : σ 21 t = 0 ∨ σ 21 t = 1 ∨ σ 21 t = 2) (hv : v = 0 ∨ v = 1 ∨ v = 2) : RI cnt σ' := by
  intro j hj
  unfold ST
  rw [h26, h21]
  have nv : v ≠ 4 := by rcases hv with rfl | rfl | rfl <;> decide
  by_cases c : j = t
  · subst c
    rw [if_pos rfl]
    refine ⟨?_, Or.inl ⟨h.alone hj ha, nv⟩⟩
    rcases hv with rfl | rfl | rfl
    · exact ⟨0, by decide, rfl⟩
    · exact ⟨1, by decide, rfl⟩
    · exact ⟨2, by decide, rfl⟩
  · rw [if_neg c]
    obtain ⟨g1, g2⟩ := h j hj
    refine ⟨g1, ?_⟩
    rcases g2 with g | ⟨r, r1, r2, r3, r4⟩
    · exact Or.inl g
    · refine Or.inr ⟨r, r1, r2, r3, ?_⟩
      rw [h21]
      by_cases hr : r = t
      · subst hr
        rw [if_pos rfl]
        rcases r4 with z | z
        · exact Or.inl ⟨z.1, hv⟩
        · exfalso
          rw [z.2] at ha
          revert ha
          decide
      · rw [if_neg hr]
        exact r4
/-- what a change answers and leaves, on both sides -/
def MR (L cnt kc T : Nat) (σ μ : Sg) (x y : Option (Int32 × Sg)) : Prop := ∃ r σ' μ', x = some (r, σ') ∧ y = some (r, μ') ∧ FI L cnt kc T σ' μ' ∧ RS μ μ' ∧ (∀ k, k < 7 ∨ 30 < k → σ' k = σ k) ∧ ∀ k, 30 < k → k < 38 → pV μ' k = pV μ k
def LM2 : List Nat := [7, 8, 9, 10, 11, 12, 13, 14, 15, 16, 17, 18, 19, 20, 21, 22, 23, 24, 25, 26, 27, 28, 29, 30]
theorem LM2.k {σ' : Sg} (x : Ex LM2 σ σ') : ∀ k, k < 7 ∨ 30 < k → σ' k = σ k := fun k hk => x k fun q => by
  unfold LM2 at q
  simp only [List.mem_cons, List.not_mem_nil, or_false] at q
  omega
/-- the reference's rows of history stay -/
def HS (μ μ' : Sg) : Prop := ∀ k, 30 < k → k < 38 → pV μ' k = pV μ k
theorem HS.rf (μ : Sg) : HS μ μ := fun _ _ _ => rfl
theorem HS.tr {a b c : Sg} (h : HS a b) (h2 : HS b c) : HS a c := fun k h1 h3 => (h2 k h1 h3).trans (h k h1 h3)
theorem HS.w (μ : Sg) {k i : Nat} (v : Int32) (hi : i < pv_nb k) (hk : k < 31 ∨ 37 < k) : HS μ (mu μ k i v) := fun a h1 h2 => by
  rw [pV_mu hi, up_row (by omega)]
/-- writing an event leaves the history -/
theorem log_hs {a b c d : Int32} {μ' : Sg} {wd : Int64} (E : Eq2 cnt kc σ μ) (G : LogR L σ μ) (h : f_X9_log a b c d μ wd = some μ') : HS μ μ' := by
  obtain ⟨_, μ2, -, h2, -, -, -, h6, -⟩ := wl E G a b c d wd
  obtain rfl : μ2 = μ' := Option.some.inj (h2.symm.trans h)
  exact fun k h1 h2 => h6 k (fun q => by
    unfold LG at q
    simp only [List.mem_cons, List.not_mem_nil, or_false] at q
    omega)
/-- SB, and the history as it was -/
def SH (L cnt kc : Nat) (μ σ' μ' : Sg) : Prop := SB L cnt kc μ σ' μ' ∧ HS μ μ'
theorem SH.rf (E : Eq2 cnt kc σ μ) (G : LogR L σ μ) : SH L cnt kc μ σ μ := ⟨SB.rf E G, HS.rf _⟩
theorem SH.w {σ' μ' : Sg} (h : SH L cnt kc μ σ' μ') (k t : Nat) (v : Int32) (hk : 12 ≤ k ∧ k ≠ 15 ∧ k < 31) (hi : t < pv_nb k) : SH L cnt kc μ (up σ' k t v) (mu μ' k t v) := ⟨h.1.w k t v hk hi, h.2.tr (HS.w _ _ hi (by omega))⟩
theorem SH.log {σ' μ' : Sg} (h : SH L cnt kc μ σ' μ') (a b c d : Int32) (wd : Int64) : ∃ μ'', f_X9_log a b c d μ' wd = some μ'' ∧ SH L cnt kc μ (wr L a b c d σ') μ'' := by
  obtain ⟨μ'', l1, l2⟩ := h.1.log a b c d wd
  exact ⟨μ'', l1, l2, h.2.tr (log_hs h.1.1 h.1.2.1 l1)⟩
/-- the class writes too -/
theorem SH.wr {σ' μ' : Sg} (h : SH L cnt kc μ σ' μ') (a b c d : Int32) : f_X4_write L a b c d σ' = some (wr L a b c d σ') := (wr_some (LO.of h.1.2.1)).1
theorem mk_day {T : Nat} (F : FI L cnt kc T σ μ) {j : Nat} (hj : j < 7) (b x d : Int32) (hb : 0 ≤ b.toInt ∧ b.toInt ≤ 1440) (hx : 0 ≤ x.toInt ∧ x.toInt ≤ 1440) (N : Nat) (wd : Int64) : MR L cnt kc T σ μ (f_X1_make N L 0 (nI j) b x d σ) (f_X9_make N 0 (nI j) b x d μ wd) := by
  have S := ((SH.rf F.1 F.2.1).w 13 j b (by decide) hj).w 14 j x (by decide) hj
  have xx : Ex [13, 14] σ (up (up σ 13 j b) 14 j x) := (Ex.up _ _ _ (by decide)).tr (Ex.up _ _ _ (by decide))
  refine ⟨0, _, _, ?_, ?_, ?_, S.1.2.2.2, LM2.k (xx.wk (by decide)), S.2⟩
  · unfold f_X1_make f_X0_setHours
    rw [if_pos rfl, if_pos (ib_nI hj (by decide)), ix_nI (by omega), Option.bind_some]
  · unfold f_X9_make
    rw [if_pos rfl, o_at, c_at, if_pos (ib_nI (by omega) (by decide)), if_pos (ib_nI (by omega) (by decide)), s_open hj, s_close hj]
  · obtain ⟨E, G, ⟨v1, v2, v3, v4, v5, v6, v7, v8⟩, hf⟩ := F
    refine ⟨S.1.1, S.1.2.1, ⟨v1, by rw [xx 12 (by decide)]; exact v2, v3.ex xx (by decide), fun q hq => ?_, v5.ex xx (by decide), v6.ex (xx 21 (by decide)) (xx 26 (by decide)), KT.ex v7 xx (by decide), fun t ht => ?_⟩, fun t ht => (hf t ht).ex xx (by decide) S.1.2.2.1⟩
    · have e13 : up (up σ 13 j b) 14 j x 13 q = if q = j then b else σ 13 q := by
        rw [up_row (by decide), up_ite]
        by_cases z : q = j
        · rw [if_pos ⟨rfl, z⟩, if_pos z]
        · rw [if_neg (fun w => z w.2), if_neg z]
      have e14 : up (up σ 13 j b) 14 j x 14 q = if q = j then x else σ 14 q := by
        rw [up_ite, up_row (by decide)]
        by_cases z : q = j
        · rw [if_pos ⟨rfl, z⟩, if_pos z]
        · rw [if_neg (fun w => z w.2), if_neg z]
      rw [e13, e14]
      by_cases z : q = j
      · rw [if_pos z, if_pos z]
        exact ⟨hb, hx⟩
      · rw [if_neg z, if_neg z]
        exact v4 q hq
    · unfold TB LK
      rw [xx 22 (by decide), xx 23 (by decide), xx 24 (by decide), xx 25 (by decide), xx 5 (by decide), xx 16 (by decide), xx 20 (by decide)]
      exact v8 t ht
/-- pause and resume -/
theorem mk_move {T : Nat} (F : FI L cnt kc T σ μ) {t : Nat} (ht : t < cnt) (v ev : Int32) (hv : v = 0 ∨ v = 1 ∨ v = 2) (ha : σ 21 t = 0 ∨ σ 21 t = 1 ∨ σ 21 t = 2) (N : Nat) (wd : Int64) :
    MR L cnt kc T σ μ (f_X1_move L (nI t) v ev σ) ((f_X9_setTicket (nI t) 9 v μ wd).bind (fun p11 => (f_X9_log (p11 1 (ix 0)) ev (nI t) 0 p11 wd).bind (fun p13 => (f_X9_ticket (nI t) 8 p13 wd).bind (fun p15 => some (p15, p13))))) := by
  have h6 := F.1.lt ht
  have S1 := (SH.rf F.1 F.2.1).w 21 t v (by decide) h6
  have e12 : up σ 21 t v 12 = σ 12 := up_row (by decide)
  obtain ⟨μ', l1, S⟩ := S1.log (σ 12 0) ev (nI t) 0 wd
  have xx : Ex LSt σ (wr L (σ 12 0) ev (nI t) 0 (up σ 21 t v)) := (Ex.up _ _ _ (by decide)).tr (wr_wk _ _ _ _ _ _ _ (by decide))
  refine ⟨wr L (σ 12 0) ev (nI t) 0 (up σ 21 t v) 25 t, _, μ', ?_, ?_, F.st S.1 xx (F.2.2.1.2.2.2.2.2.1.set (v := v) ((wr_ex _ _ _ _ _ _ 26 (by decide)).trans (up_row (by decide))) (fun j => ?_) ha hv), S.1.2.2.2, LM2.k (xx.wk (by decide)), S.2⟩
  · unfold f_X1_move
    rw [if_pos (ib_nI (by omega) (by decide)), ix_nI (by omega), S1.wr, Option.bind_some]
  · rw [ms_9 h6, Option.bind_some, S1.1.1.mt, e12, l1, Option.bind_some, tg_8 S.1.1 ht, Option.bind_some]
  · rw [wr_ex _ _ _ _ _ _ 21 (by decide), up_ite]
    by_cases z : j = t
    · rw [if_pos ⟨rfl, z⟩, if_pos z]
    · rw [if_neg (fun w => z w.2), if_neg z]
end Gb
