section Gh
variable {L cnt kc : Nat} {σ μ : Sg}
/-- the numbers of a change, in the class and in the reference -/
def TY (c m : Int32) : Prop := (c = 0 ∧ m = 0) ∨ (c = 2 ∧ m = 1) ∨ (c = 3 ∧ m = 2) ∨ ((c = 4 ∧ m = 3) ∨ (c = 5 ∧ m = 4) ∨ (c = 6 ∧ m = 5) ∨ (c = 7 ∧ m = 6) ∨ (c = 8 ∧ m = 7) ∨ (c = 10 ∧ m = 9)) ∨ (c = 9 ∧ m = 8) ∨ (c = 11 ∧ m = 10)
theorem bind_pair {α β : Type} (x : Option (α × β)) : x.bind (fun p => some (p.1, p.2)) = x := by cases x <;> rfl
/-- a change: its error, or what it makes -/
def CR (L kc T : Nat) (σ μ : Sg) (x y : Option (Int32 × Sg)) : Prop := ∃ r cnt' σ' μ', x = some (r, σ') ∧ y = some (r, μ') ∧ FI L cnt' kc T σ' μ' ∧ RS μ μ' ∧ (∀ k, k < 7 ∨ 30 < k → σ' k = σ k) ∧ HS μ μ'
theorem MR.cr {T : Nat} {x y : Option (Int32 × Sg)} (h : MR L cnt kc T σ μ x y) : CR L kc T σ μ x y := by
  obtain ⟨r, σ', μ', h1, h2, h3, h4, h5, h6⟩ := h
  exact ⟨r, cnt, σ', μ', h1, h2, h3, h4, h5, h6⟩
theorem ch_sim {T : Nat} (F : FI L cnt kc T σ μ) {c m : Int32} (hc : TY c m) (a b x d : Int32) {N : Nat} (hN : 100 < N) (wd : Int64) :
    ER (f_X1_errorOf c a b x d σ) (f_X9_errorOf m a b x d μ wd) (CR L kc T σ μ (f_X1_make N L c a b x d σ) (f_X9_make N m a b x d μ wd)) := by
  have v6 := F.2.2.1.2.2.2.2.2.1
  have lift : ∀ {x y : Option Int32} {P Q : Prop}, (P → Q) → ER x y P → ER x y Q := fun f h => h.imp id fun z => ⟨z.1, z.2.1, f z.2.2⟩
  rcases hc with ⟨rfl, rfl⟩ | ⟨rfl, rfl⟩ | ⟨rfl, rfl⟩ | hc | ⟨rfl, rfl⟩ | ⟨rfl, rfl⟩
  · refine lift (fun h => ?_) (er_day a b x d σ μ wd)
    obtain ⟨⟨j, h1, rfl⟩, h2, h3⟩ := h
    exact (mk_day F h1 b x d h2 h3 N wd).cr
  · refine lift (fun h => ?_) (er_agents a b x d σ μ wd)
    obtain ⟨⟨j, h1, rfl⟩, h2⟩ := h
    have := (mk_agents F h1 h2 hN wd).cr
    unfold f_X1_make f_X9_make
    rw [if_neg (by decide), if_pos rfl, if_neg (by decide), if_pos rfl, bind_pair, bind_pair]
    exact this
  · refine lift (fun h => ?_) (er_report F.1 a b x d wd)
    obtain ⟨⟨j, h1, rfl⟩, h2⟩ := h
    obtain ⟨r, σ', μ', m1, m2, m3, m4, m5, m6⟩ := mk_report F h1 h2 b x d hN wd
    refine ⟨r, cnt + 1, σ', μ', ?_, ?_, m3, m4, m5, m6⟩
    · unfold f_X1_make
      rw [if_neg (by decide), if_neg (by decide), if_pos rfl, bind_pair]
      exact m1
    · unfold f_X9_make
      rw [if_neg (by decide), if_neg (by decide), if_pos rfl, bind_pair]
      exact m2
  · refine lift (fun h => ?_) (er_tick F.1 v6 hc a b x d wd)
    obtain ⟨t, h1, rfl, h2⟩ := h
    unfold AL at h2
    unfold f_X1_make f_X9_make
    rcases hc with ⟨rfl, rfl⟩ | ⟨rfl, rfl⟩ | ⟨rfl, rfl⟩ | ⟨rfl, rfl⟩ | ⟨rfl, rfl⟩ | ⟨rfl, rfl⟩
    · have ha : σ 21 t = 0 ∨ σ 21 t = 1 := by
        rcases h2 with h | h | h | h | h | h
        · exact h.2
        all_goals exact absurd h.1 (by decide)
      have := (mk_move F h1 2 2 (by decide) (ha.elim Or.inl fun z => Or.inr (Or.inl z)) N wd).cr
      rw [if_neg (by decide), if_neg (by decide), if_neg (by decide), if_pos rfl, bind_pair, if_neg (by decide), if_neg (by decide), if_neg (by decide), if_pos rfl]
      exact this
    · have ha : σ 21 t = 2 := by
        rcases h2 with h | h | h | h | h | h
        · exact absurd h.1 (by decide)
        · exact h.2
        all_goals exact absurd h.1 (by decide)
      have := (mk_move F h1 0 3 (by decide) (Or.inr (Or.inr ha)) N wd).cr
      rw [if_neg (by decide), if_neg (by decide), if_neg (by decide), if_neg (by decide), if_pos rfl, bind_pair, if_neg (by decide), if_neg (by decide), if_neg (by decide), if_neg (by decide), if_pos rfl]
      exact this
    · have ha : σ 21 t = 0 ∨ σ 21 t = 1 := by
        rcases h2 with h | h | h | h | h | h
        · exact absurd h.1 (by decide)
        · exact absurd h.1 (by decide)
        · exact h.2.1
        all_goals exact absurd h.1 (by decide)
      have := (mk_climb F h1 ha N wd).cr
      rw [if_neg (by decide), if_neg (by decide), if_neg (by decide), if_neg (by decide), if_neg (by decide), if_pos rfl, bind_pair, if_neg (by decide), if_neg (by decide), if_neg (by decide), if_neg (by decide), if_neg (by decide), if_pos rfl]
      exact this
    · have ha : σ 21 t = 0 ∨ σ 21 t = 1 ∨ σ 21 t = 2 := by
        rcases h2 with h | h | h | h | h | h
        · exact absurd h.1 (by decide)
        · exact absurd h.1 (by decide)
        · exact absurd h.1 (by decide)
        · exact h.2
        all_goals exact absurd h.1 (by decide)
      have := (mk_solve F h1 ha hN wd).cr
      rw [if_neg (by decide), if_neg (by decide), if_neg (by decide), if_neg (by decide), if_neg (by decide), if_neg (by decide), if_pos rfl, bind_pair, if_neg (by decide), if_neg (by decide), if_neg (by decide), if_neg (by decide), if_neg (by decide), if_neg (by decide), if_pos rfl, bind_pair]
      exact this
    · have ha : σ 21 t = 3 ∧ σ 26 t = -1 := by
        rcases h2 with h | h | h | h | h | h
        · exact absurd h.1 (by decide)
        · exact absurd h.1 (by decide)
        · exact absurd h.1 (by decide)
        · exact absurd h.1 (by decide)
        · exact h.2
        · exact absurd h.1 (by decide)
      have := (mk_reopen F h1 ha.1 ha.2 hN wd).cr
      rw [if_neg (by decide), if_neg (by decide), if_neg (by decide), if_neg (by decide), if_neg (by decide), if_neg (by decide), if_neg (by decide), if_pos rfl, bind_pair, if_neg (by decide), if_neg (by decide), if_neg (by decide), if_neg (by decide), if_neg (by decide), if_neg (by decide), if_neg (by decide), if_pos rfl, bind_pair]
      exact this
    · have ha : σ 21 t = 4 := by
        rcases h2 with h | h | h | h | h | h
        · exact absurd h.1 (by decide)
        · exact absurd h.1 (by decide)
        · exact absurd h.1 (by decide)
        · exact absurd h.1 (by decide)
        · exact absurd h.1 (by decide)
        · exact h.2
      have := (mk_part F h1 ha wd).cr
      rw [if_neg (by decide), if_neg (by decide), if_neg (by decide), if_neg (by decide), if_neg (by decide), if_neg (by decide), if_neg (by decide), if_neg (by decide), if_neg (by decide), if_pos rfl, bind_pair, if_neg (by decide), if_neg (by decide), if_neg (by decide), if_neg (by decide), if_neg (by decide), if_neg (by decide), if_neg (by decide), if_neg (by decide), if_neg (by decide), if_pos rfl, bind_pair]
      exact this
  · refine lift (fun h => ?_) (er_join F.1 v6 a b x d wd)
    obtain ⟨t, r, h1, h2, h3, rfl, rfl, h4, h5⟩ := h
    have := (mk_join F h1 h2 h3 h4 h5 hN wd).cr
    unfold f_X1_make f_X9_make
    rw [if_neg (by decide), if_neg (by decide), if_neg (by decide), if_neg (by decide), if_neg (by decide), if_neg (by decide), if_neg (by decide), if_neg (by decide), if_pos rfl, bind_pair, if_neg (by decide), if_neg (by decide), if_neg (by decide), if_neg (by decide), if_neg (by decide), if_neg (by decide), if_neg (by decide), if_neg (by decide), if_pos rfl, bind_pair]
    exact this
  · refine lift (fun h => ?_) (er_prio F.1 a b x d wd)
    obtain ⟨t, h1, rfl⟩ := h
    have := (mk_prio F h1 b wd).cr
    unfold f_X1_make f_X9_make
    rw [if_neg (by decide), if_neg (by decide), if_neg (by decide), if_neg (by decide), if_neg (by decide), if_neg (by decide), if_neg (by decide), if_neg (by decide), if_neg (by decide), if_neg (by decide), if_pos rfl, bind_pair, if_neg (by decide), if_neg (by decide), if_neg (by decide), if_neg (by decide), if_neg (by decide), if_neg (by decide), if_neg (by decide), if_neg (by decide), if_neg (by decide), if_neg (by decide)]
    exact this
/-! the history -/
/-- both histories hold the same changes -/
def HR (hl : Nat) (σ μ : Sg) : Prop := hl ≤ 200 ∧ σ 31 0 = nI hl ∧ pV μ 31 0 = nI hl ∧ ∀ i, i < hl → (∃ t : Nat, t ≤ 10080 ∧ σ 32 i = nI t) ∧ TY (σ 33 i) (pV μ 33 i) ∧ ∀ k, k = 32 ∨ (33 < k ∧ k < 38) → pV μ k i = σ k i
/-- the live desk and the reference -/
def LV (cnt kc T hl : Nat) (σ μ : Sg) : Prop := FI 600 cnt kc T σ μ ∧ HR hl σ μ
theorem HR.keep {hl : Nat} {σ' μ' : Sg} (h : HR hl σ μ) (hx : ∀ k, k < 7 ∨ 30 < k → σ' k = σ k) (hs : HS μ μ') : HR hl σ' μ' := by
  obtain ⟨h1, h2, h3, h4⟩ := h
  refine ⟨h1, by rw [hx 31 (by omega)]; exact h2, by rw [hs 31 (by omega) (by omega)]; exact h3, fun i hi => ?_⟩
  obtain ⟨g1, g2, g3⟩ := h4 i hi
  rw [hx 32 (by omega), hx 33 (by omega), hs 33 (by omega) (by omega)]
  exact ⟨g1, g2, fun k hk => by rw [hx k (by omega), hs k (by omega) (by omega)]; exact g3 k hk⟩
/-- rows of the history alone differ -/
def LH : List Nat := [31, 32, 33, 34, 35, 36, 37]
theorem FI.hist {T : Nat} {σ' μ' : Sg} (F : FI L cnt kc T σ μ) (hx : Ex LH σ σ') (hm : ∀ k, (k < 31 ∨ 37 < k) → pV μ' k = pV μ k) : FI L cnt kc T σ' μ' := by
  obtain ⟨E, G, ⟨v1, v2, v3, v4, v5, v6, v7, v8⟩, hf⟩ := F
  refine ⟨⟨E.1, E.2.1, by rw [hx 15 (by decide)]; exact E.c, by rw [hx 0 (by decide)]; exact E.k, fun k i h => ?_⟩, ?_, ⟨v1, by rw [hx 12 (by decide)]; exact v2, v3.ex hx (by decide), v4.ex hx (by decide), v5.ex hx (by decide), v6.ex (hx 21 (by decide)) (hx 26 (by decide)), KT.ex v7 hx (by decide), fun t ht => ?_⟩, fun t ht => ?_⟩
  · have hk : k < 31 := by
      rcases rb_low h with q | q <;> omega
    rw [hm k (Or.inl hk), hx k (fun q => by
      unfold LH at q
      simp only [List.mem_cons, List.not_mem_nil, or_false] at q
      omega)]
    exact E.e k i h
  · obtain ⟨ln, g1, g2, g3⟩ := G
    refine ⟨ln, g1, by rw [hm 7 (by omega)]; exact g2, ?_⟩
    rcases g3 with ⟨p, q⟩ | ⟨p, q, r⟩
    · exact Or.inl ⟨p, by rw [hx 7 (by decide)]; exact q⟩
    · exact Or.inr ⟨p, by rw [hx 7 (by decide)]; exact q, fun a b x1 x2 x3 => by
        rw [hm a (by omega), hx a (fun w => by
          unfold LH at w
          simp only [List.mem_cons, List.not_mem_nil, or_false] at w
          omega)]
        exact r a b x1 x2 x3⟩
  · unfold TB LK
    rw [hx 22 (by decide), hx 23 (by decide), hx 24 (by decide), hx 25 (by decide), hx 5 (by decide), hx 16 (by decide), hx 20 (by decide)]
    exact v8 t ht
  · unfold FL
    rw [hx 1 (by decide), hx 2 (by decide), hx 16 (by decide), hx 24 (by decide), hx 25 (by decide), hm 38 (by omega), hm 39 (by omega)]
    exact hf t ht
theorem h_at (n f : Nat) : (1019 + (6 * nI n)) + nI f = nI (1019 + 6 * n + f) := by
  rw [show (6 : Int32) = nI 6 from rfl, show (1019 : Int32) = nI 1019 from rfl, pk_mul, nI_add, nI_add]
theorem h_at0 (n : Nat) : (1019 + (6 * nI n)) = nI (1019 + 6 * n) := by
  rw [show (6 : Int32) = nI 6 from rfl, show (1019 : Int32) = nI 1019 from rfl, pk_mul, nI_add]
theorem err_ex {σ' : Sg} (c a b x d : Int32) (h : ∀ k, k < 31 → σ' k = σ k) : f_X1_errorOf c a b x d σ' = f_X1_errorOf c a b x d σ := by
  simp only [f_X1_errorOf, f_X1_dayError, f_X1_dayError_12, f_X1_dayError_43, f_X1_reportError, f_X7_isFull, f_X7_exists, f_X7_isActive, f_X7_standsAlone, f_X1_joinError, f_X1_priorityError, f_X1_allows, f_X1_ticketError, h 0 (by decide), h 1 (by decide), h 2 (by decide), h 3 (by decide), h 4 (by decide), h 5 (by decide), h 6 (by decide), h 7 (by decide), h 8 (by decide), h 9 (by decide), h 10 (by decide), h 11 (by decide), h 12 (by decide), h 13 (by decide), h 14 (by decide), h 15 (by decide), h 16 (by decide), h 17 (by decide), h 18 (by decide), h 19 (by decide), h 20 (by decide), h 21 (by decide), h 22 (by decide), h 23 (by decide), h 24 (by decide), h 25 (by decide), h 26 (by decide), h 27 (by decide), h 28 (by decide), h 29 (by decide), h 30 (by decide)]
/-- the reference's other rows stay -/
def RZ (μ μ' : Sg) : Prop := ∀ k, k ≠ 1 → μ' k = μ k
/-- a public change -/
theorem change_sim {T hl : Nat} (V : LV cnt kc T hl σ μ) {c m : Int32} (hc : TY c m) (a b x d : Int32) {N : Nat} (hN : 100 < N) (wd : Int64) :
    ∃ r cnt' hl' σ' μ', f_X8_change N c a b x d σ = some (r, σ') ∧ f_X9_change N m a b x d μ wd = some (r, μ') ∧ LV cnt' kc T hl' σ' μ' ∧ RZ μ μ' := by
  obtain ⟨F, H⟩ := V
  obtain ⟨h1, h2, h3, h4⟩ := H
  have vT := F.2.2.1.2.1
  have hT := F.2.2.1.1
  unfold f_X8_change f_X9_change
  rcases ch_sim F hc a b x d hN wd with ⟨e, e0, e1, e2⟩ | ⟨e1, e2, -⟩
  · rw [e1, e2, Option.bind_some, Option.bind_some, if_neg e0, if_neg e0]
    exact ⟨e, cnt, hl, σ, μ, rfl, rfl, ⟨F, h1, h2, h3, h4⟩, fun _ _ => rfl⟩
  · rw [e1, e2, Option.bind_some, Option.bind_some, if_pos rfl, if_pos rfl]
    have hm57 : μ 1 (ix 57) = nI hl := h3
    have mt : μ 1 (ix 0) = σ 12 0 := F.1.mt
    rcases Nat.lt_or_ge hl 200 with q | q
    · -- recorded
      have rc : f_X2_record (σ 12 0) c a b x d σ = some (1, up (up (up (up (up (up (up σ 32 hl (σ 12 0)) 33 hl c) 34 hl a) 35 hl b) 36 hl x) 37 hl d) 31 0 (nI (hl + 1))) := by
        unfold f_X2_record
        rw [h2, if_pos (show nI hl < 200 from nI_lt (b := 200) q (by decide)), if_pos (ib_nI q (by decide)), ix_nI (by omega), nI_1]
      rw [rc, Option.bind_some, if_neg (show ¬ (1 : Int32) = 0 by decide)]
      have em : mixH (up (up (up (up (up (up (up σ 32 hl (σ 12 0)) 33 hl c) 34 hl a) 35 hl b) 36 hl x) 37 hl d) 31 0 (nI (hl + 1))) σ = up (up (up (up (up (up (up σ 32 hl (σ 12 0)) 33 hl c) 34 hl a) 35 hl b) 36 hl x) 37 hl d) 31 0 (nI (hl + 1)) := by
        funext k
        unfold mixH
        split
        · rw [up_row (by omega), up_row (by omega), up_row (by omega), up_row (by omega), up_row (by omega), up_row (by omega), up_row (by omega)]
        · rfl
      show ∃ r cnt' hl' σ' μ', (f_X1_make N 600 c a b x d (mixH (up (up (up (up (up (up (up σ 32 hl (σ 12 0)) 33 hl c) 34 hl a) 35 hl b) 36 hl x) 37 hl d) 31 0 (nI (hl + 1))) σ)).bind (fun p7 => some (p7.1, mixKLgC p7.2 (mixH (up (up (up (up (up (up (up σ 32 hl (σ 12 0)) 33 hl c) 34 hl a) 35 hl b) 36 hl x) 37 hl d) 31 0 (nI (hl + 1))) σ))) = some (r, σ') ∧ _ ∧ _ ∧ _
      rw [em, hm57, mt, if_neg (fun z => by have := (nI_eq (a := hl) (b := 200) (by omega) (by omega)).mp z; omega), h_at0, show (1 : Int32) = nI 1 from rfl, show (2 : Int32) = nI 2 from rfl, show (3 : Int32) = nI 3 from rfl, show (4 : Int32) = nI 4 from rfl, show (5 : Int32) = nI 5 from rfl, nI_add, nI_add, nI_add, nI_add, nI_add,
        if_pos (ib_nI (by omega) (by decide)), if_pos (ib_nI (by omega) (by decide)), if_pos (ib_nI (by omega) (by decide)), if_pos (ib_nI (by omega) (by decide)), if_pos (ib_nI (by omega) (by decide)), if_pos (ib_nI (by omega) (by decide)), ix_nI (by omega), ix_nI (by omega), ix_nI (by omega), ix_nI (by omega), ix_nI (by omega), ix_nI (by omega)]
      have e57 : up (up (up (up (up (up μ 1 (1019 + 6 * hl) (σ 12 0)) 1 (1019 + 6 * hl + 1) m) 1 (1019 + 6 * hl + 2) a) 1 (1019 + 6 * hl + 3) b) 1 (1019 + 6 * hl + 4) x) 1 (1019 + 6 * hl + 5) d 1 (ix 57) = nI hl := by
        have e : ix 57 = 57 := rfl
        rw [e, up_other (by omega), up_other (by omega), up_other (by omega), up_other (by omega), up_other (by omega), up_other (by omega)]
        exact hm57
      rw [e57, nI_add]
      have em2 : up (up (up (up (up (up (up μ 1 (1019 + 6 * hl) (σ 12 0)) 1 (1019 + 6 * hl + 1) m) 1 (1019 + 6 * hl + 2) a) 1 (1019 + 6 * hl + 3) b) 1 (1019 + 6 * hl + 4) x) 1 (1019 + 6 * hl + 5) d) 1 (ix 57) (nI (hl + 1)) = mu (mu (mu (mu (mu (mu (mu μ 32 hl (σ 12 0)) 33 hl m) 34 hl a) 35 hl b) 36 hl x) 37 hl d) 31 0 (nI (hl + 1)) := rfl
      rw [em2]
      have vv : pV (mu (mu (mu (mu (mu (mu (mu μ 32 hl (σ 12 0)) 33 hl m) 34 hl a) 35 hl b) 36 hl x) 37 hl d) 31 0 (nI (hl + 1))) = up (up (up (up (up (up (up (pV μ) 32 hl (σ 12 0)) 33 hl m) 34 hl a) 35 hl b) 36 hl x) 37 hl d) 31 0 (nI (hl + 1)) := by
        rw [pV_mu (k := 31) (show 0 < 1 by decide), pV_mu (k := 37) (show hl < 200 from q), pV_mu (k := 36) (show hl < 200 from q), pV_mu (k := 35) (show hl < 200 from q), pV_mu (k := 34) (show hl < 200 from q), pV_mu (k := 33) (show hl < 200 from q), pV_mu (k := 32) (show hl < 200 from q)]
      have xs : Ex LH σ (up (up (up (up (up (up (up σ 32 hl (σ 12 0)) 33 hl c) 34 hl a) 35 hl b) 36 hl x) 37 hl d) 31 0 (nI (hl + 1))) := ((((((Ex.up _ _ _ (by decide)).tr (Ex.up _ _ _ (by decide))).tr (Ex.up _ _ _ (by decide))).tr (Ex.up _ _ _ (by decide))).tr (Ex.up _ _ _ (by decide))).tr (Ex.up _ _ _ (by decide))).tr (Ex.up _ _ _ (by decide))
      have F1 : FI 600 cnt kc T (up (up (up (up (up (up (up σ 32 hl (σ 12 0)) 33 hl c) 34 hl a) 35 hl b) 36 hl x) 37 hl d) 31 0 (nI (hl + 1))) (mu (mu (mu (mu (mu (mu (mu μ 32 hl (σ 12 0)) 33 hl m) 34 hl a) 35 hl b) 36 hl x) 37 hl d) 31 0 (nI (hl + 1))) := F.hist xs (fun k hk => by
        rw [vv, up_row (by omega), up_row (by omega), up_row (by omega), up_row (by omega), up_row (by omega), up_row (by omega), up_row (by omega)])
      have H1 : HR (hl + 1) (up (up (up (up (up (up (up σ 32 hl (σ 12 0)) 33 hl c) 34 hl a) 35 hl b) 36 hl x) 37 hl d) 31 0 (nI (hl + 1))) (mu (mu (mu (mu (mu (mu (mu μ 32 hl (σ 12 0)) 33 hl m) 34 hl a) 35 hl b) 36 hl x) 37 hl d) 31 0 (nI (hl + 1))) := by
        refine ⟨by omega, up_same _ _ _ _, by rw [vv, up_same], fun i hi => ?_⟩
        rw [vv]
        simp only [up_ite]
        by_cases z : i = hl
        · subst z
          refine ⟨⟨T, hT, ?_⟩, ?_, fun k hk => ?_⟩
          · simp [vT]
          · simp [hc]
          · rcases hk with rfl | hk
            · simp
            · have : k = 34 ∨ k = 35 ∨ k = 36 ∨ k = 37 := by omega
              rcases this with rfl | rfl | rfl | rfl <;> simp
        · obtain ⟨g1, g2, g3⟩ := h4 i (by omega)
          refine ⟨?_, ?_, fun k hk => ?_⟩
          · simp [z]
            exact g1
          · simp [z]
            exact g2
          · have := g3 k hk
            simp [z]
            have k31 : ¬ (k = 31 ∧ i = 0) := by omega
            rw [if_neg k31, if_neg k31]
            exact this
      have RS1 : RZ μ (mu (mu (mu (mu (mu (mu (mu μ 32 hl (σ 12 0)) 33 hl m) 34 hl a) 35 hl b) 36 hl x) 37 hl d) 31 0 (nI (hl + 1))) := fun k hk => ((((((mu_rest hk).trans (mu_rest hk)).trans (mu_rest hk)).trans (mu_rest hk)).trans (mu_rest hk)).trans (mu_rest hk)).trans (mu_rest hk)
      have e3 : f_X1_errorOf c a b x d (up (up (up (up (up (up (up σ 32 hl (σ 12 0)) 33 hl c) 34 hl a) 35 hl b) 36 hl x) 37 hl d) 31 0 (nI (hl + 1))) = some 0 := by
        rw [← e1]
        exact err_ex c a b x d (fun k hk => xs k (fun w => by
          unfold LH at w
          simp only [List.mem_cons, List.not_mem_nil, or_false] at w
          omega))
      generalize up (up (up (up (up (up (up σ 32 hl (σ 12 0)) 33 hl c) 34 hl a) 35 hl b) 36 hl x) 37 hl d) 31 0 (nI (hl + 1)) = σ1 at F1 H1 e3
      generalize mu (mu (mu (mu (mu (mu (mu μ 32 hl (σ 12 0)) 33 hl m) 34 hl a) 35 hl b) 36 hl x) 37 hl d) 31 0 (nI (hl + 1)) = μ1 at F1 H1 RS1
      rcases ch_sim F1 hc a b x d hN wd with ⟨e, e0, e4, -⟩ | ⟨-, -, r, cnt', σ', μ', m1, m2, m3, m4, m5, m6⟩
      · rw [e3] at e4
        exact absurd (Option.some.inj e4).symm e0
      · have ex : mixKLgC σ' σ1 = σ' := by
          funext k
          unfold mixKLgC
          split
          · rfl
          · exact (m5 k (by omega)).symm
        refine ⟨r, cnt', hl + 1, σ', μ', ?_, ?_, ⟨m3, H1.keep m5 m6⟩, fun k hk => (m4.1 k hk).trans (RS1 k hk)⟩
        · rw [m1, Option.bind_some]
          show some (r, mixKLgC σ' σ1) = _
          rw [ex]
        · rw [m2, Option.bind_some]
    · -- full
      have hl2 : hl = 200 := by omega
      subst hl2
      have rc : f_X2_record (σ 12 0) c a b x d σ = some (0, σ) := by
        unfold f_X2_record
        rw [h2]
        exact if_neg (by decide)
      have em : mixH σ σ = σ := by
        funext k
        unfold mixH
        split <;> rfl
      rw [rc, Option.bind_some, hm57, if_pos (c := (0 : Int32) = 0) rfl, if_pos (c := nI 200 = 200) rfl]
      refine ⟨-6, cnt, 200, σ, μ, ?_, rfl, ⟨F, h1, h2, h3, h4⟩, fun _ _ => rfl⟩
      show some (-6, mixH σ σ) = _
      rw [em]
end Gh
