/-! the relation between the class's desk and the reference's -/
def rb (cnt kc k : Nat) : Nat := if k = 0 then 1 else if k < 7 then kc else if k < 12 then 0 else if k = 12 then 1 else if k < 15 then 7 else if k = 15 then 1 else if k < 30 then cnt else if k = 30 then 4 else 0
/-- the same cells, as far as they count -/
def Eq2 (cnt kc : Nat) (σ μ : Sg) : Prop := cnt ≤ 60 ∧ kc ≤ 6 ∧ σ 15 0 = nI cnt ∧ σ 0 0 = nI kc ∧ ∀ k i, i < rb cnt kc k → pV μ k i = σ k i
/-- the logs: the live desk's is the reference's, the trial desk's has no room -/
def LogR (L : Nat) (σ μ : Sg) : Prop := ∃ ln : Nat, ln ≤ 600 ∧ pV μ 7 0 = nI ln ∧ (L = 0 ∧ σ 7 0 = 0 ∨ L = 600 ∧ σ 7 0 = nI ln ∧ ∀ k i, 8 ≤ k → k < 12 → i < ln → pV μ k i = σ k i)
def Ex (R : List Nat) (σ σ' : Sg) : Prop := ∀ k, k ∉ R → σ' k = σ k
def RS (μ μ' : Sg) : Prop := (∀ k, k ≠ 1 → μ' k = μ k) ∧ ∀ k, 30 < k → k < 38 → pV μ' k = pV μ k
theorem RS.rf (μ : Sg) : RS μ μ := ⟨fun _ _ => rfl, fun _ _ _ => rfl⟩
theorem RS.tr {a b c : Sg} (h : RS a b) (h2 : RS b c) : RS a c := ⟨fun k hk => (h2.1 k hk).trans (h.1 k hk), fun k h1 h3 => (h2.2 k h1 h3).trans (h.2 k h1 h3)⟩
theorem RS.mu (μ : Sg) (k i : Nat) (v : Int32) (hi : i < pv_nb k) (hk : k < 31 ∨ 37 < k) : RS μ (mu μ k i v) := ⟨fun _ h => mu_rest h, fun a h1 h2 => by rw [pV_mu hi, up_row (by omega)]⟩
theorem Ex.rf (R : List Nat) (σ : Sg) : Ex R σ σ := fun _ _ => rfl
theorem Ex.tr {R : List Nat} {a b c : Sg} (h : Ex R a b) (h2 : Ex R b c) : Ex R a c := fun k hk => (h2 k hk).trans (h k hk)
theorem Ex.wk {R R' : List Nat} {a b : Sg} (h : Ex R a b) (hR : ∀ k, k ∈ R → k ∈ R') : Ex R' a b := fun k hk => h k fun q => hk (hR k q)
theorem Ex.up {R : List Nat} (σ : Sg) {k : Nat} (i : Nat) (v : Int32) (h : k ∈ R) : Ex R σ (up σ k i v) := fun a ha => up_row fun e => ha (e ▸ h)
theorem Eq2.c {cnt kc : Nat} {σ μ : Sg} (E : Eq2 cnt kc σ μ) : σ 15 0 = nI cnt := E.2.2.1
theorem Eq2.k {cnt kc : Nat} {σ μ : Sg} (E : Eq2 cnt kc σ μ) : σ 0 0 = nI kc := E.2.2.2.1
theorem Eq2.e {cnt kc : Nat} {σ μ : Sg} (E : Eq2 cnt kc σ μ) (k i : Nat) (h : i < rb cnt kc k) : pV μ k i = σ k i := E.2.2.2.2 k i h
theorem Eq2.mc {cnt kc : Nat} {σ μ : Sg} (E : Eq2 cnt kc σ μ) : μ 1 (ix 56) = nI cnt := (E.e 15 0 Nat.zero_lt_one).trans E.c
theorem Eq2.mk {cnt kc : Nat} {σ μ : Sg} (E : Eq2 cnt kc σ μ) : μ 1 (ix 19) = nI kc := (E.e 0 0 Nat.zero_lt_one).trans E.k
theorem Eq2.mt {cnt kc : Nat} {σ μ : Sg} (E : Eq2 cnt kc σ μ) : μ 1 (ix 0) = σ 12 0 := E.e 12 0 Nat.zero_lt_one
theorem Eq2.w {cnt kc : Nat} {σ μ : Sg} (E : Eq2 cnt kc σ μ) (k i : Nat) (v : Int32) (h0 : k ≠ 0) (h15 : k ≠ 15) (hi : i < pv_nb k) : Eq2 cnt kc (up σ k i v) (mu μ k i v) :=
  ⟨E.1, E.2.1, (congrFun (up_row h15.symm) 0).trans E.c, (congrFun (up_row h0.symm) 0).trans E.k, fun a b h => by
    rw [pV_mu hi, up_ite, up_ite, E.e a b h]⟩
theorem Eq2.lt {cnt kc : Nat} {σ μ : Sg} (E : Eq2 cnt kc σ μ) {t : Nat} (h : t < cnt) : t < 60 := Nat.lt_of_lt_of_le h E.1
theorem LogR.w {L : Nat} {σ μ : Sg} (h : LogR L σ μ) (k i : Nat) (v : Int32) (hk : k < 7 ∨ 11 < k) (hi : i < pv_nb k) : LogR L (up σ k i v) (mu μ k i v) := by
  obtain ⟨ln, h1, h2, h3⟩ := h
  have e : ∀ a : Nat, 7 ≤ a → a < 12 → up σ k i v a = σ a := fun a h1 h2 => up_row (by omega)
  have e2 : ∀ a : Nat, 7 ≤ a → a < 12 → pV (mu μ k i v) a = pV μ a := fun a h1 h2 => by rw [pV_mu hi]; exact up_row (by omega)
  refine ⟨ln, h1, by rw [e2 7 (by omega) (by omega)]; exact h2, ?_⟩
  rcases h3 with ⟨h4, h5⟩ | ⟨h4, h5, h6⟩
  · exact Or.inl ⟨h4, by rw [e 7 (by omega) (by omega)]; exact h5⟩
  · exact Or.inr ⟨h4, by rw [e 7 (by omega) (by omega)]; exact h5, fun a b g1 g2 g3 => by rw [e a (by omega) g2, e2 a (by omega) g2]; exact h6 a b g1 g2 g3⟩
theorem l_at (n f : Nat) : (2219 + (4 * nI n)) + nI f = nI (2219 + 4 * n + f) := by
  rw [show (4 : Int32) = nI 4 from rfl, show (2219 : Int32) = nI 2219 from rfl, pk_mul, nI_add, nI_add]
theorem l_at0 (n : Nat) : (2219 + (4 * nI n)) = nI (2219 + 4 * n) := by
  rw [show (4 : Int32) = nI 4 from rfl, show (2219 : Int32) = nI 2219 from rfl, pk_mul, nI_add]
def LG : List Nat := [7, 8, 9, 10, 11]
theorem not_LG {k : Nat} (h : k ∉ LG) : k < 7 ∨ 11 < k := by
  unfold LG at h
  simp at h
  omega
/-- an event is written on both sides -/
theorem wl {L cnt kc : Nat} {σ μ : Sg} (E : Eq2 cnt kc σ μ) (G : LogR L σ μ) (a b c d : Int32) (wd : Int64) :
    ∃ σ' μ', f_X4_write L a b c d σ = some σ' ∧ f_X9_log a b c d μ wd = some μ' ∧ Eq2 cnt kc σ' μ' ∧ LogR L σ' μ' ∧ Ex LG σ σ' ∧ Ex LG (pV μ) (pV μ') ∧ RS μ μ' := by
  obtain ⟨ln, h1, h2, h3⟩ := G
  have hm : (μ 1 (ix 58)) = nI ln := h2
  rcases Nat.lt_or_ge ln 600 with hlt | hge
  · -- the reference writes
    have m : f_X9_log a b c d μ wd = some (mu (mu (mu (mu (mu μ 8 ln a) 9 ln b) 10 ln c) 11 ln d) 7 0 (nI (ln + 1))) := by
      unfold f_X9_log
      rw [hm, if_neg (fun q => by have := (nI_eq (a := ln) (b := 600) (by omega) (by omega)).mp q; omega), l_at0, show (1 : Int32) = nI 1 from rfl, show (2 : Int32) = nI 2 from rfl, show (3 : Int32) = nI 3 from rfl, nI_add, nI_add, nI_add,
        if_pos (ib_nI (by omega) (by omega)), if_pos (ib_nI (by omega) (by omega)), if_pos (ib_nI (by omega) (by omega)), if_pos (ib_nI (by omega) (by omega)), ix_nI (by omega), ix_nI (by omega), ix_nI (by omega), ix_nI (by omega)]
      have e58 : (up (up (up (up μ 1 (2219 + 4 * ln) a) 1 (2219 + 4 * ln + 1) b) 1 (2219 + 4 * ln + 2) c) 1 (2219 + 4 * ln + 3) d) 1 (ix 58) = nI ln := by
        have e : ix 58 = 58 := rfl
        rw [e, up_other (by omega), up_other (by omega), up_other (by omega), up_other (by omega)]
        exact hm
      rw [e58, nI_add]
      rfl
    refine Exists.elim (?_ : ∃ σ', f_X4_write L a b c d σ = some σ' ∧ Ex LG σ σ' ∧ (L = 0 ∧ σ' 7 0 = 0 ∨ L = 600 ∧ σ' = up (up (up (up (up σ 8 ln a) 9 ln b) 10 ln c) 11 ln d) 7 0 (nI (ln + 1)) ∧ ∀ k i, 8 ≤ k → k < 12 → i < ln → pV μ k i = σ k i)) ?_
    · unfold f_X4_write
      rcases h3 with ⟨rfl, h4⟩ | ⟨rfl, h4, h5⟩
      · rw [h4]
        exact ⟨σ, if_neg (by decide), Ex.rf _ _, Or.inl ⟨rfl, h4⟩⟩
      · rw [h4]
        refine ⟨up (up (up (up (up σ 8 ln a) 9 ln b) 10 ln c) 11 ln d) 7 0 (nI (ln + 1)), by rw [if_pos (show nI ln < Int32.ofNat 600 from nI_lt (b := 600) (by omega) (by omega)), if_pos (ib_nI (by omega) (by omega)), ix_nI (by omega), nI_1], ?_, Or.inr ⟨rfl, rfl, h5⟩⟩
        exact ((((Ex.up _ _ _ (by decide)).tr (Ex.up _ _ _ (by decide))).tr (Ex.up _ _ _ (by decide))).tr (Ex.up _ _ _ (by decide))).tr (Ex.up _ _ _ (by decide))
    · intro σ' hσ
      obtain ⟨w1, w2, w3⟩ := hσ
      have eV : pV (mu (mu (mu (mu (mu μ 8 ln a) 9 ln b) 10 ln c) 11 ln d) 7 0 (nI (ln + 1))) = up (up (up (up (up (pV μ) 8 ln a) 9 ln b) 10 ln c) 11 ln d) 7 0 (nI (ln + 1)) := by
        rw [pV_mu (k := 7) (show 0 < 1 by decide), pV_mu (k := 11) (show ln < 600 from hlt), pV_mu (k := 10) (show ln < 600 from hlt), pV_mu (k := 9) (show ln < 600 from hlt), pV_mu (k := 8) (show ln < 600 from hlt)]
      have xV : Ex LG (pV μ) (pV (mu (mu (mu (mu (mu μ 8 ln a) 9 ln b) 10 ln c) 11 ln d) 7 0 (nI (ln + 1)))) := by
        rw [eV]
        exact ((((Ex.up _ _ _ (by decide)).tr (Ex.up _ _ _ (by decide))).tr (Ex.up _ _ _ (by decide))).tr (Ex.up _ _ _ (by decide))).tr (Ex.up _ _ _ (by decide))
      refine ⟨σ', _, w1, m, ⟨E.1, E.2.1, by rw [w2 15 (by decide)]; exact E.c, by rw [w2 0 (by decide)]; exact E.k, fun k i h => ?_⟩, ?_, w2, xV, ?_⟩
      · have hk : k ∉ LG := by
          intro q
          have : 7 ≤ k ∧ k < 12 := by
            unfold LG at q
            simp at q
            omega
          unfold rb at h
          rw [if_neg (by omega), if_neg (by omega), if_pos (by omega)] at h
          omega
        rw [w2 k hk, xV k hk]
        exact E.e k i h
      · refine ⟨ln + 1, by omega, by rw [eV, up_same], ?_⟩
        rcases w3 with w | ⟨w, rfl, w5⟩
        · exact Or.inl w
        · refine Or.inr ⟨w, up_same _ _ _ _, fun k i g1 g2 g3 => ?_⟩
          rw [eV]
          simp only [up_ite]
          rcases Nat.lt_or_ge i ln with g | g
          · have q := w5 k i g1 g2 g
            rw [if_neg (by omega), if_neg (by omega), if_neg (by omega), if_neg (by omega), if_neg (by omega), if_neg (by omega), if_neg (by omega), if_neg (by omega), if_neg (by omega), if_neg (by omega)]
            exact q
          · obtain rfl : i = ln := by omega
            have : k = 8 ∨ k = 9 ∨ k = 10 ∨ k = 11 := by omega
            rcases this with rfl | rfl | rfl | rfl <;> simp
      · exact ((((RS.mu _ _ _ _ hlt (by omega)).tr (RS.mu _ _ _ _ hlt (by omega))).tr (RS.mu _ _ _ _ hlt (by omega))).tr (RS.mu _ _ _ _ hlt (by omega))).tr (RS.mu _ _ _ _ (by decide) (by omega))
  · -- both are full, or the class's has no room
    obtain rfl : ln = 600 := by omega
    refine ⟨σ, μ, ?_, ?_, E, ⟨600, h1, h2, h3⟩, Ex.rf _ _, Ex.rf _ _, RS.rf _⟩
    · unfold f_X4_write
      rcases h3 with ⟨rfl, h4⟩ | ⟨rfl, h4, h5⟩
      · rw [h4]
        exact if_neg (by decide)
      · rw [h4]
        exact if_neg (by decide)
    · unfold f_X9_log
      rw [hm]
      exact if_pos rfl
section Gt
variable {cnt kc : Nat} {σ μ : Sg}
theorem tg_0 (E : Eq2 cnt kc σ μ) {t : Nat} (ht : t < cnt) (wd : Int64) : f_X9_ticket (nI t) 0 μ wd = some (σ 16 t) := (mg_0 (E.lt ht) μ wd).trans (congrArg some (E.e 16 t ht))
theorem ts_0 (E : Eq2 cnt kc σ μ) {t : Nat} (ht : t < cnt) (v : Int32) (wd : Int64) : f_X9_setTicket (nI t) 0 v μ wd = some (mu μ 16 t v) ∧ Eq2 cnt kc (up σ 16 t v) (mu μ 16 t v) := ⟨ms_0 (E.lt ht) v μ wd, E.w 16 t v (by decide) (by decide) (E.lt ht)⟩
theorem tg_1 (E : Eq2 cnt kc σ μ) {t : Nat} (ht : t < cnt) (wd : Int64) : f_X9_ticket (nI t) 1 μ wd = some (σ 17 t) := (mg_1 (E.lt ht) μ wd).trans (congrArg some (E.e 17 t ht))
theorem ts_1 (E : Eq2 cnt kc σ μ) {t : Nat} (ht : t < cnt) (v : Int32) (wd : Int64) : f_X9_setTicket (nI t) 1 v μ wd = some (mu μ 17 t v) ∧ Eq2 cnt kc (up σ 17 t v) (mu μ 17 t v) := ⟨ms_1 (E.lt ht) v μ wd, E.w 17 t v (by decide) (by decide) (E.lt ht)⟩
theorem tg_2 (E : Eq2 cnt kc σ μ) {t : Nat} (ht : t < cnt) (wd : Int64) : f_X9_ticket (nI t) 2 μ wd = some (σ 18 t) := (mg_2 (E.lt ht) μ wd).trans (congrArg some (E.e 18 t ht))
theorem ts_2 (E : Eq2 cnt kc σ μ) {t : Nat} (ht : t < cnt) (v : Int32) (wd : Int64) : f_X9_setTicket (nI t) 2 v μ wd = some (mu μ 18 t v) ∧ Eq2 cnt kc (up σ 18 t v) (mu μ 18 t v) := ⟨ms_2 (E.lt ht) v μ wd, E.w 18 t v (by decide) (by decide) (E.lt ht)⟩
theorem tg_3 (E : Eq2 cnt kc σ μ) {t : Nat} (ht : t < cnt) (wd : Int64) : f_X9_ticket (nI t) 3 μ wd = some (σ 19 t) := (mg_3 (E.lt ht) μ wd).trans (congrArg some (E.e 19 t ht))
theorem ts_3 (E : Eq2 cnt kc σ μ) {t : Nat} (ht : t < cnt) (v : Int32) (wd : Int64) : f_X9_setTicket (nI t) 3 v μ wd = some (mu μ 19 t v) ∧ Eq2 cnt kc (up σ 19 t v) (mu μ 19 t v) := ⟨ms_3 (E.lt ht) v μ wd, E.w 19 t v (by decide) (by decide) (E.lt ht)⟩
theorem tg_4 (E : Eq2 cnt kc σ μ) {t : Nat} (ht : t < cnt) (wd : Int64) : f_X9_ticket (nI t) 4 μ wd = some (σ 20 t) := (mg_4 (E.lt ht) μ wd).trans (congrArg some (E.e 20 t ht))
theorem ts_4 (E : Eq2 cnt kc σ μ) {t : Nat} (ht : t < cnt) (v : Int32) (wd : Int64) : f_X9_setTicket (nI t) 4 v μ wd = some (mu μ 20 t v) ∧ Eq2 cnt kc (up σ 20 t v) (mu μ 20 t v) := ⟨ms_4 (E.lt ht) v μ wd, E.w 20 t v (by decide) (by decide) (E.lt ht)⟩
theorem tg_5 (E : Eq2 cnt kc σ μ) {t : Nat} (ht : t < cnt) (wd : Int64) : f_X9_ticket (nI t) 5 μ wd = some (σ 22 t) := (mg_5 (E.lt ht) μ wd).trans (congrArg some (E.e 22 t ht))
theorem ts_5 (E : Eq2 cnt kc σ μ) {t : Nat} (ht : t < cnt) (v : Int32) (wd : Int64) : f_X9_setTicket (nI t) 5 v μ wd = some (mu μ 22 t v) ∧ Eq2 cnt kc (up σ 22 t v) (mu μ 22 t v) := ⟨ms_5 (E.lt ht) v μ wd, E.w 22 t v (by decide) (by decide) (E.lt ht)⟩
theorem tg_6 (E : Eq2 cnt kc σ μ) {t : Nat} (ht : t < cnt) (wd : Int64) : f_X9_ticket (nI t) 6 μ wd = some (σ 23 t) := (mg_6 (E.lt ht) μ wd).trans (congrArg some (E.e 23 t ht))
theorem ts_6 (E : Eq2 cnt kc σ μ) {t : Nat} (ht : t < cnt) (v : Int32) (wd : Int64) : f_X9_setTicket (nI t) 6 v μ wd = some (mu μ 23 t v) ∧ Eq2 cnt kc (up σ 23 t v) (mu μ 23 t v) := ⟨ms_6 (E.lt ht) v μ wd, E.w 23 t v (by decide) (by decide) (E.lt ht)⟩
theorem tg_7 (E : Eq2 cnt kc σ μ) {t : Nat} (ht : t < cnt) (wd : Int64) : f_X9_ticket (nI t) 7 μ wd = some (σ 24 t) := (mg_7 (E.lt ht) μ wd).trans (congrArg some (E.e 24 t ht))
theorem ts_7 (E : Eq2 cnt kc σ μ) {t : Nat} (ht : t < cnt) (v : Int32) (wd : Int64) : f_X9_setTicket (nI t) 7 v μ wd = some (mu μ 24 t v) ∧ Eq2 cnt kc (up σ 24 t v) (mu μ 24 t v) := ⟨ms_7 (E.lt ht) v μ wd, E.w 24 t v (by decide) (by decide) (E.lt ht)⟩
theorem tg_8 (E : Eq2 cnt kc σ μ) {t : Nat} (ht : t < cnt) (wd : Int64) : f_X9_ticket (nI t) 8 μ wd = some (σ 25 t) := (mg_8 (E.lt ht) μ wd).trans (congrArg some (E.e 25 t ht))
theorem ts_8 (E : Eq2 cnt kc σ μ) {t : Nat} (ht : t < cnt) (v : Int32) (wd : Int64) : f_X9_setTicket (nI t) 8 v μ wd = some (mu μ 25 t v) ∧ Eq2 cnt kc (up σ 25 t v) (mu μ 25 t v) := ⟨ms_8 (E.lt ht) v μ wd, E.w 25 t v (by decide) (by decide) (E.lt ht)⟩
theorem tg_9 (E : Eq2 cnt kc σ μ) {t : Nat} (ht : t < cnt) (wd : Int64) : f_X9_ticket (nI t) 9 μ wd = some (σ 21 t) := (mg_9 (E.lt ht) μ wd).trans (congrArg some (E.e 21 t ht))
theorem ts_9 (E : Eq2 cnt kc σ μ) {t : Nat} (ht : t < cnt) (v : Int32) (wd : Int64) : f_X9_setTicket (nI t) 9 v μ wd = some (mu μ 21 t v) ∧ Eq2 cnt kc (up σ 21 t v) (mu μ 21 t v) := ⟨ms_9 (E.lt ht) v μ wd, E.w 21 t v (by decide) (by decide) (E.lt ht)⟩
theorem tg_10 (E : Eq2 cnt kc σ μ) {t : Nat} (ht : t < cnt) (wd : Int64) : f_X9_ticket (nI t) 10 μ wd = some (σ 26 t) := (mg_10 (E.lt ht) μ wd).trans (congrArg some (E.e 26 t ht))
theorem ts_10 (E : Eq2 cnt kc σ μ) {t : Nat} (ht : t < cnt) (v : Int32) (wd : Int64) : f_X9_setTicket (nI t) 10 v μ wd = some (mu μ 26 t v) ∧ Eq2 cnt kc (up σ 26 t v) (mu μ 26 t v) := ⟨ms_10 (E.lt ht) v μ wd, E.w 26 t v (by decide) (by decide) (E.lt ht)⟩
theorem tg_11 (E : Eq2 cnt kc σ μ) {t : Nat} (ht : t < cnt) (wd : Int64) : f_X9_ticket (nI t) 11 μ wd = some (σ 27 t) := (mg_11 (E.lt ht) μ wd).trans (congrArg some (E.e 27 t ht))
theorem ts_11 (E : Eq2 cnt kc σ μ) {t : Nat} (ht : t < cnt) (v : Int32) (wd : Int64) : f_X9_setTicket (nI t) 11 v μ wd = some (mu μ 27 t v) ∧ Eq2 cnt kc (up σ 27 t v) (mu μ 27 t v) := ⟨ms_11 (E.lt ht) v μ wd, E.w 27 t v (by decide) (by decide) (E.lt ht)⟩
theorem tg_12 (E : Eq2 cnt kc σ μ) {t : Nat} (ht : t < cnt) (wd : Int64) : f_X9_ticket (nI t) 12 μ wd = some (σ 28 t) := (mg_12 (E.lt ht) μ wd).trans (congrArg some (E.e 28 t ht))
theorem ts_12 (E : Eq2 cnt kc σ μ) {t : Nat} (ht : t < cnt) (v : Int32) (wd : Int64) : f_X9_setTicket (nI t) 12 v μ wd = some (mu μ 28 t v) ∧ Eq2 cnt kc (up σ 28 t v) (mu μ 28 t v) := ⟨ms_12 (E.lt ht) v μ wd, E.w 28 t v (by decide) (by decide) (E.lt ht)⟩
theorem tg_13 (E : Eq2 cnt kc σ μ) {t : Nat} (ht : t < cnt) (wd : Int64) : f_X9_ticket (nI t) 13 μ wd = some (σ 29 t) := (mg_13 (E.lt ht) μ wd).trans (congrArg some (E.e 29 t ht))
theorem ts_13 (E : Eq2 cnt kc σ μ) {t : Nat} (ht : t < cnt) (v : Int32) (wd : Int64) : f_X9_setTicket (nI t) 13 v μ wd = some (mu μ 29 t v) ∧ Eq2 cnt kc (up σ 29 t v) (mu μ 29 t v) := ⟨ms_13 (E.lt ht) v μ wd, E.w 29 t v (by decide) (by decide) (E.lt ht)⟩
/-- a ticket's kind is one -/
def KT (kc : Nat) (σ : Sg) (t : Nat) : Prop := ∃ k, k < kc ∧ σ 16 t = nI k
theorem KT.ib {t : Nat} (h : KT kc σ t) (E : Eq2 cnt kc σ μ) : ib (σ 16 t) 6 := by
  obtain ⟨k, h1, h2⟩ := h
  rw [h2]
  exact ib_nI (Nat.lt_of_lt_of_le h1 E.2.1) (by decide)
theorem KT.eq {t : Nat} (h : KT kc σ t) (E : Eq2 cnt kc σ μ) : σ 16 t = nI (ix (σ 16 t)) ∧ ix (σ 16 t) < kc := by
  obtain ⟨k, h1, h2⟩ := h
  have := E.2.1
  rw [h2, ix_nI (by omega)]
  exact ⟨rfl, h1⟩
theorem kd_0 (E : Eq2 cnt kc σ μ) {t : Nat} (ht : t < cnt) (hk : KT kc σ t) (wd : Int64) : f_X9_ofKind (nI t) 0 μ wd = some (σ 1 (ix (σ 16 t))) := by
  obtain ⟨h1, h2⟩ := hk.eq E
  have e : f_X9_kind (σ 16 t) 0 μ wd = some (σ 1 (ix (σ 16 t))) := by
    rw [h1, kg_0 (Nat.lt_of_lt_of_le h2 E.2.1), ← h1]
    exact congrArg some (E.e 1 _ h2)
  unfold f_X9_ofKind
  rw [tg_0 E ht wd, Option.bind_some, e, Option.bind_some]
theorem kd_1 (E : Eq2 cnt kc σ μ) {t : Nat} (ht : t < cnt) (hk : KT kc σ t) (wd : Int64) : f_X9_ofKind (nI t) 1 μ wd = some (σ 2 (ix (σ 16 t))) := by
  obtain ⟨h1, h2⟩ := hk.eq E
  have e : f_X9_kind (σ 16 t) 1 μ wd = some (σ 2 (ix (σ 16 t))) := by
    rw [h1, kg_1 (Nat.lt_of_lt_of_le h2 E.2.1), ← h1]
    exact congrArg some (E.e 2 _ h2)
  unfold f_X9_ofKind
  rw [tg_0 E ht wd, Option.bind_some, e, Option.bind_some]
theorem kd_2 (E : Eq2 cnt kc σ μ) {t : Nat} (ht : t < cnt) (hk : KT kc σ t) (wd : Int64) : f_X9_ofKind (nI t) 2 μ wd = some (σ 3 (ix (σ 16 t))) := by
  obtain ⟨h1, h2⟩ := hk.eq E
  have e : f_X9_kind (σ 16 t) 2 μ wd = some (σ 3 (ix (σ 16 t))) := by
    rw [h1, kg_2 (Nat.lt_of_lt_of_le h2 E.2.1), ← h1]
    exact congrArg some (E.e 3 _ h2)
  unfold f_X9_ofKind
  rw [tg_0 E ht wd, Option.bind_some, e, Option.bind_some]
theorem kd_3 (E : Eq2 cnt kc σ μ) {t : Nat} (ht : t < cnt) (hk : KT kc σ t) (wd : Int64) : f_X9_ofKind (nI t) 3 μ wd = some (σ 4 (ix (σ 16 t))) := by
  obtain ⟨h1, h2⟩ := hk.eq E
  have e : f_X9_kind (σ 16 t) 3 μ wd = some (σ 4 (ix (σ 16 t))) := by
    rw [h1, kg_3 (Nat.lt_of_lt_of_le h2 E.2.1), ← h1]
    exact congrArg some (E.e 4 _ h2)
  unfold f_X9_ofKind
  rw [tg_0 E ht wd, Option.bind_some, e, Option.bind_some]
theorem kd_4 (E : Eq2 cnt kc σ μ) {t : Nat} (ht : t < cnt) (hk : KT kc σ t) (wd : Int64) : f_X9_ofKind (nI t) 4 μ wd = some (σ 5 (ix (σ 16 t))) := by
  obtain ⟨h1, h2⟩ := hk.eq E
  have e : f_X9_kind (σ 16 t) 4 μ wd = some (σ 5 (ix (σ 16 t))) := by
    rw [h1, kg_4 (Nat.lt_of_lt_of_le h2 E.2.1), ← h1]
    exact congrArg some (E.e 5 _ h2)
  unfold f_X9_ofKind
  rw [tg_0 E ht wd, Option.bind_some, e, Option.bind_some]
theorem kd_5 (E : Eq2 cnt kc σ μ) {t : Nat} (ht : t < cnt) (hk : KT kc σ t) (wd : Int64) : f_X9_ofKind (nI t) 5 μ wd = some (σ 6 (ix (σ 16 t))) := by
  obtain ⟨h1, h2⟩ := hk.eq E
  have e : f_X9_kind (σ 16 t) 5 μ wd = some (σ 6 (ix (σ 16 t))) := by
    rw [h1, kg_5 (Nat.lt_of_lt_of_le h2 E.2.1), ← h1]
    exact congrArg some (E.e 6 _ h2)
  unfold f_X9_ofKind
  rw [tg_0 E ht wd, Option.bind_some, e, Option.bind_some]
end Gt
section Cl
/-! numbers -/
theorem z_add {a b : Int32} (h1 : -1000000 ≤ a.toInt) (h2 : a.toInt ≤ 1000000) (h3 : -1000000 ≤ b.toInt) (h4 : b.toInt ≤ 1000000) : (a + b).toInt = a.toInt + b.toInt := by
  rw [Int32.toInt_add]
  exact Int.bmod_eq_of_le (by omega) (by omega)
theorem z_sub {a b : Int32} (h1 : -1000000 ≤ a.toInt) (h2 : a.toInt ≤ 1000000) (h3 : -1000000 ≤ b.toInt) (h4 : b.toInt ≤ 1000000) : (a - b).toInt = a.toInt - b.toInt := by
  rw [Int32.toInt_sub]
  exact Int.bmod_eq_of_le (by omega) (by omega)
theorem z_lt {a b : Int32} : a < b ↔ a.toInt < b.toInt := Int32.lt_iff_toInt_lt
theorem z_le {a b : Int32} : a ≤ b ↔ a.toInt ≤ b.toInt := Int32.le_iff_toInt_le
theorem z_eq {a b : Int32} : a = b ↔ a.toInt = b.toInt := Int32.toInt_inj.symm
theorem z_nI {n : Nat} (h : n < 10000000) : (nI n).toInt = (n : Int) := nI_toInt (by omega)
theorem z_m1 : (-1 : Int32).toInt = -1 := by decide
theorem z_0 : (0 : Int32).toInt = 0 := by decide
theorem z_1 : (1 : Int32).toInt = 1 := by decide
theorem nI_m1 {n : Nat} (h : n < 10000) : nI n ≠ -1 := fun e => by
  have := congrArg Int32.toInt e
  rw [z_nI (by omega), z_m1] at this
  omega
theorem s1_lt {n : Nat} (hn : n < 10000) {x : Int32} : nI n - 1 < x ↔ (n : Int) ≤ x.toInt := by
  rw [z_lt, show (1 : Int32) = nI 1 from rfl, pk_sub_toInt (by omega) (by omega)]
  omega
theorem i_le {n : Nat} (hn : n < 10000) {x : Int32} : nI n ≤ x ↔ (n : Int) ≤ x.toInt := by
  rw [z_le, z_nI (by omega)]
theorem wi (x a b : Int32) : f_X8_within x a b = some 1 ∧ a ≤ x ∧ x ≤ b ∨ f_X8_within x a b = some 0 ∧ ¬ (a ≤ x ∧ x ≤ b) := by
  unfold f_X8_within
  by_cases h : x < a
  · right
    rw [if_pos h]
    exact ⟨rfl, fun q => Int32.not_lt.mpr q.1 h⟩
  · rw [if_neg h]
    by_cases h2 : b < x
    · right
      rw [if_pos h2]
      exact ⟨rfl, fun q => Int32.not_lt.mpr q.2 h2⟩
    · left
      rw [if_neg h2]
      exact ⟨rfl, Int32.not_lt.mp h, Int32.not_lt.mp h2⟩
theorem wi_eq (x a b : Int32) : f_X9_isBetween x a b = f_X8_within x a b := rfl
theorem bz0 : bz 0 := Or.inl rfl
theorem bz1 : bz 1 := Or.inr rfl
variable {L cnt kc : Nat} {σ μ : Sg}
/-- the number of a ticket, or not -/
theorem tix (E : Eq2 cnt kc σ μ) (x : Int32) (wd : Int64) : (∃ t, t < cnt ∧ x = nI t ∧ f_X7_exists x σ = some 1 ∧ f_X9_isTicket x μ wd = some 1) ∨ (f_X7_exists x σ = some 0 ∧ f_X9_isTicket x μ wd = some 0) := by
  have hc := E.1
  unfold f_X7_exists f_X9_isTicket f_X9_isBetween
  rw [E.c, E.mc]
  rcases pk_ix x (n := cnt) (by omega) with h | h | ⟨j, hj, rfl⟩
  · right
    rw [if_pos h, if_pos h, Option.bind_some, if_pos bz0]
    exact ⟨rfl, rfl⟩
  · right
    by_cases h0 : x < 0
    · rw [if_pos h0, if_pos h0, Option.bind_some, if_pos bz0]
      exact ⟨rfl, rfl⟩
    · rw [if_neg h0, if_neg h0, if_pos h, if_pos ((s1_lt (by omega)).mpr ((i_le (by omega)).mp h)), Option.bind_some, if_pos bz0]
      exact ⟨rfl, rfl⟩
  · left
    have h0 : ¬ nI j < 0 := nI_pos (by omega)
    refine ⟨j, hj, rfl, ?_, ?_⟩
    · rw [if_neg h0, if_neg (nI_ge hj (by omega))]
    · rw [if_neg h0, if_neg (fun q => by have := (s1_lt (by omega)).mp q; rw [z_nI (by omega)] at this; omega), Option.bind_some, if_pos bz1]
/-- the number of a kind, or not -/
theorem kix (E : Eq2 cnt kc σ μ) (x : Int32) (wd : Int64) : (∃ t, t < kc ∧ x = nI t ∧ f_X8_within x 0 (σ 0 0 - 1) = some 1 ∧ f_X9_isKind x μ wd = some 1) ∨ (f_X8_within x 0 (σ 0 0 - 1) = some 0 ∧ f_X9_isKind x μ wd = some 0) := by
  have hc := E.2.1
  unfold f_X8_within f_X9_isKind f_X9_isBetween
  rw [E.k, E.mk]
  rcases pk_ix x (n := kc) (by omega) with h | h | ⟨j, hj, rfl⟩
  · right
    rw [if_pos h, Option.bind_some, if_pos bz0]
    exact ⟨rfl, rfl⟩
  · right
    by_cases h0 : x < 0
    · rw [if_pos h0, Option.bind_some, if_pos bz0]
      exact ⟨rfl, rfl⟩
    · rw [if_neg h0, if_pos ((s1_lt (by omega)).mpr ((i_le (by omega)).mp h)), Option.bind_some, if_pos bz0]
      exact ⟨rfl, rfl⟩
  · left
    have h0 : ¬ nI j < 0 := nI_pos (by omega)
    have h1 : ¬ nI kc - 1 < nI j := fun q => by have := (s1_lt (by omega)).mp q; rw [z_nI (by omega)] at this; omega
    refine ⟨j, hj, rfl, ?_, ?_⟩
    · rw [if_neg h0, if_neg h1]
    · rw [if_neg h0, if_neg h1, Option.bind_some, if_pos bz1]
theorem is_v (E : Eq2 cnt kc σ μ) {t : Nat} (ht : t < cnt) (v : Int32) (wd : Int64) : f_X9_is (nI t) v μ wd = some (if σ 21 t = v then 1 else 0) := by
  unfold f_X9_is
  rw [tg_9 E ht, Option.bind_some]
  split <;> rfl
theorem act_v {t : Nat} (ht : t < 60) : f_X7_isActive (nI t) σ = some (if σ 21 t = 0 ∨ σ 21 t = 1 then 1 else 0) := by
  unfold f_X7_isActive
  rw [if_pos (ib_nI ht (by decide)), ix_nI (by omega)]
  by_cases h : σ 21 t = 0
  · rw [if_pos h, if_pos (Or.inl h)]
  · rw [if_neg h]
    by_cases h2 : σ 21 t = 1
    · rw [if_pos h2, if_pos (Or.inr h2)]
    · rw [if_neg h2, if_neg (fun q => q.elim h h2)]
/-- a ticket's state is one -/
def ST (σ : Sg) (t : Nat) : Prop := ∃ s : Nat, s ≤ 4 ∧ σ 21 t = nI s
theorem sta_v {t : Nat} (ht : t < 60) (hs : ST σ t) : f_X7_standsAlone (nI t) σ = some (if σ 21 t = 0 ∨ σ 21 t = 1 ∨ σ 21 t = 2 then 1 else 0) := by
  unfold f_X7_standsAlone
  rw [if_pos (ib_nI ht (by decide)), ix_nI (by omega)]
  obtain ⟨s, h1, h2⟩ := hs
  rw [h2]
  have : s = 0 ∨ s = 1 ∨ s = 2 ∨ s = 3 ∨ s = 4 := by omega
  rcases this with rfl | rfl | rfl | rfl | rfl <;> decide
theorem alive_v (E : Eq2 cnt kc σ μ) {t : Nat} (ht : t < cnt) (hs : ST σ t) (wd : Int64) : f_X9_isAlive (nI t) μ wd = some (if σ 21 t = 0 ∨ σ 21 t = 1 ∨ σ 21 t = 2 then 1 else 0) := by
  unfold f_X9_isAlive
  rw [tg_9 E ht, Option.bind_some]
  obtain ⟨s, h1, h2⟩ := hs
  rw [h2]
  have : s = 0 ∨ s = 1 ∨ s = 2 ∨ s = 3 ∨ s = 4 := by omega
  rcases this with rfl | rfl | rfl | rfl | rfl <;> decide
theorem ans_v {t : Nat} (ht : t < 60) : f_X7_isAnswered (nI t) σ = some (if σ 28 t = -1 then 0 else 1) := by
  unfold f_X7_isAnswered
  rw [if_pos (ib_nI ht (by decide)), ix_nI (by omega)]
  split <;> rfl
theorem ex_v (hc : σ 15 0 = nI cnt) {t : Nat} (ht : t < cnt) (h60 : cnt ≤ 60) : f_X7_exists (nI t) σ = some 1 := by
  unfold f_X7_exists
  rw [hc, if_neg (nI_pos (by omega)), if_neg (nI_ge ht (by omega))]
/-- what is known of the roots, ticket by ticket -/
def RV (cnt : Nat) (σ : Sg) (t : Nat) : Prop := σ 21 t = 4 → ∃ r, r < cnt ∧ σ 26 t = nI r
abbrev rrP (σ : Sg) (t : Nat) : Prop := σ 28 t = -1 ∧ (σ 21 t = 0 ∨ σ 21 t = 2 ∨ σ 21 t = 4 ∧ σ 28 (ix (σ 26 t)) = -1)
abbrev rvP (σ : Sg) (t : Nat) : Prop := σ 21 t = 4 ∧ (σ 21 (ix (σ 26 t)) = 0 ∨ σ 21 (ix (σ 26 t)) = 1) ∨ σ 21 t = 0 ∨ σ 21 t = 1
abbrev ctP (o : Int32) (σ : Sg) (t : Nat) : Prop := o ≠ 0 ∨ σ 6 (ix (σ 16 t)) ≠ 0
theorem rr_v (hc : σ 15 0 = nI cnt) (h60 : cnt ≤ 60) {t : Nat} (ht : t < cnt) (hR : RV cnt σ t) : f_X7_responseRuns (nI t) σ = some (if rrP σ t then 1 else 0) := by
  unfold f_X7_responseRuns
  rw [ans_v (by omega), Option.bind_some]
  by_cases ha : σ 28 t = -1
  · rw [if_pos ha, if_pos rfl, if_pos (ib_nI (by omega) (by decide)), ix_nI (by omega)]
    by_cases h4 : σ 21 t = 4
    · obtain ⟨r, hr, e⟩ := hR h4
      have q1 : f_X7_exists (σ 26 t) σ = some 1 := by rw [e]; exact ex_v hc hr h60
      have q2 : f_X7_isAnswered (σ 26 t) σ = some (if σ 28 r = -1 then 0 else 1) := by rw [e]; exact ans_v (by omega)
      rw [if_pos h4, q1, Option.bind_some, if_neg (by decide), q2, Option.bind_some]
      by_cases hb : σ 28 r = -1
      · rw [if_pos hb, if_pos rfl, if_pos ⟨ha, Or.inr (Or.inr ⟨h4, by rw [e, ix_nI (by omega)]; exact hb⟩)⟩]
      · rw [if_neg hb, if_neg (by decide), if_neg (fun q => by
          rcases q.2 with z | z | z
          · rw [h4] at z; exact absurd z (by decide)
          · rw [h4] at z; exact absurd z (by decide)
          · rw [e, ix_nI (by omega)] at z; exact hb z.2)]
    · rw [if_neg h4]
      by_cases h0 : σ 21 t = 0
      · rw [if_pos h0, if_pos ⟨ha, Or.inl h0⟩]
      · rw [if_neg h0]
        by_cases h2 : σ 21 t = 2
        · rw [if_pos h2, if_pos ⟨ha, Or.inr (Or.inl h2)⟩]
        · rw [if_neg h2, if_neg (fun q => q.2.elim h0 fun z => z.elim h2 fun z => h4 z.1)]
  · rw [if_neg ha, if_neg (by decide), if_neg (fun q => ha q.1)]
theorem rv_v (hc : σ 15 0 = nI cnt) (h60 : cnt ≤ 60) {t : Nat} (ht : t < cnt) (hR : RV cnt σ t) : f_X7_resolveRuns (nI t) σ = some (if rvP σ t then 1 else 0) := by
  unfold f_X7_resolveRuns
  rw [if_pos (ib_nI (by omega) (by decide)), ix_nI (by omega)]
  by_cases h4 : σ 21 t = 4
  · obtain ⟨r, hr, e⟩ := hR h4
    have q1 : f_X7_exists (σ 26 t) σ = some 1 := by rw [e]; exact ex_v hc hr h60
    have q2 : f_X7_isActive (σ 26 t) σ = some (if σ 21 r = 0 ∨ σ 21 r = 1 then 1 else 0) := by rw [e]; exact act_v (by omega)
    rw [if_pos h4, q1, Option.bind_some, if_neg (by decide), q2, Option.bind_some]
    by_cases hb : σ 21 r = 0 ∨ σ 21 r = 1
    · rw [if_pos hb, if_neg (by decide), if_pos (Or.inl ⟨h4, by rw [e, ix_nI (by omega)]; exact hb⟩)]
    · rw [if_neg hb, if_pos rfl, if_neg (fun q => by
        rcases q with z | z | z
        · rw [e, ix_nI (by omega)] at z; exact hb z.2
        · rw [h4] at z; exact absurd z (by decide)
        · rw [h4] at z; exact absurd z (by decide))]
  · rw [if_neg h4, act_v (by omega), Option.bind_some]
    by_cases hb : σ 21 t = 0 ∨ σ 21 t = 1
    · rw [if_pos hb, if_pos bz1, if_pos (Or.inr hb)]
    · rw [if_neg hb, if_pos bz0, if_neg (fun q => q.elim (fun z => h4 z.1) hb)]
theorem mrr_v (E : Eq2 cnt kc σ μ) {t : Nat} (ht : t < cnt) (hR : RV cnt σ t) (wd : Int64) : f_X9_runsResponse (nI t) μ wd = some (if rrP σ t then 1 else 0) := by
  have h60 := E.1
  unfold f_X9_runsResponse
  rw [tg_12 E ht, Option.bind_some]
  by_cases ha : σ 28 t = -1
  · rw [if_pos ha, is_v E ht, Option.bind_some]
    by_cases h0 : σ 21 t = 0
    · rw [if_pos h0, if_neg (by decide), if_pos ⟨ha, Or.inl h0⟩]
    · rw [if_neg h0, if_pos rfl, is_v E ht, Option.bind_some]
      by_cases h2 : σ 21 t = 2
      · rw [if_pos h2, if_neg (by decide), if_pos ⟨ha, Or.inr (Or.inl h2)⟩]
      · rw [if_neg h2, if_pos rfl, is_v E ht, Option.bind_some]
        by_cases h4 : σ 21 t = 4
        · obtain ⟨r, hr, e⟩ := hR h4
          have q2 : f_X9_ticket (σ 26 t) 12 μ wd = some (σ 28 r) := by rw [e]; exact tg_12 E hr wd
          rw [if_pos h4, if_neg (by decide), tg_10 E ht, Option.bind_some, q2, Option.bind_some]
          by_cases hb : σ 28 r = -1
          · rw [if_pos hb, if_pos ⟨ha, Or.inr (Or.inr ⟨h4, by rw [e, ix_nI (by omega)]; exact hb⟩)⟩]
          · rw [if_neg hb, if_neg (fun q => by
              rcases q.2 with z | z | z
              · exact h0 z
              · exact h2 z
              · rw [e, ix_nI (by omega)] at z; exact hb z.2)]
        · rw [if_neg h4, if_pos rfl, if_neg (fun q => q.2.elim h0 fun z => z.elim h2 fun z => h4 z.1)]
  · rw [if_neg ha, if_neg (fun q => ha q.1)]
theorem mrv_v (E : Eq2 cnt kc σ μ) {t : Nat} (ht : t < cnt) (hR : RV cnt σ t) (wd : Int64) : f_X9_runsResolve (nI t) μ wd = some (if rvP σ t then 1 else 0) := by
  have h60 := E.1
  unfold f_X9_runsResolve
  rw [is_v E ht, Option.bind_some]
  by_cases h4 : σ 21 t = 4
  · obtain ⟨r, hr, e⟩ := hR h4
    have q2 : f_X9_ticket (σ 26 t) 9 μ wd = some (σ 21 r) := by rw [e]; exact tg_9 E hr wd
    rw [if_pos h4, if_neg (by decide), tg_10 E ht, Option.bind_some, q2, Option.bind_some]
    by_cases hb : σ 21 r = 0
    · rw [if_pos hb, if_pos (Or.inl ⟨h4, by rw [e, ix_nI (by omega)]; exact Or.inl hb⟩)]
    · rw [if_neg hb]
      by_cases hb1 : σ 21 r = 1
      · rw [if_pos hb1, if_pos (Or.inl ⟨h4, by rw [e, ix_nI (by omega)]; exact Or.inr hb1⟩)]
      · rw [if_neg hb1, if_neg (fun q => by
          rcases q with z | z | z
          · rw [e, ix_nI (by omega)] at z; exact z.2.elim hb hb1
          · rw [h4] at z; exact absurd z (by decide)
          · rw [h4] at z; exact absurd z (by decide))]
  · rw [if_neg h4, if_pos rfl, tg_9 E ht, Option.bind_some]
    by_cases hb : σ 21 t = 0
    · rw [if_pos hb, if_pos (Or.inr (Or.inl hb))]
    · rw [if_neg hb]
      by_cases hb1 : σ 21 t = 1
      · rw [if_pos hb1, if_pos (Or.inr (Or.inr hb1))]
      · rw [if_neg hb1, if_neg (fun q => by
          rcases q with z | z | z
          · exact h4 z.1
          · exact hb z
          · exact hb1 z)]
/-- the shape that the class's desk keeps -/
def CC (cnt kc : Nat) (σ : Sg) : Prop := cnt ≤ 60 ∧ kc ≤ 6 ∧ σ 15 0 = nI cnt ∧ σ 0 0 = nI kc ∧ ∀ t, t < cnt → KT kc σ t ∧ RV cnt σ t
theorem CC.ib (h : CC cnt kc σ) {t : Nat} (ht : t < cnt) : ib (σ 16 t) 6 := by
  obtain ⟨k, h1, h2⟩ := (h.2.2.2.2 t ht).1
  rw [h2]
  exact ib_nI (Nat.lt_of_lt_of_le h1 h.2.1) (by decide)
theorem ct_v (h : CC cnt kc σ) {t : Nat} (ht : t < cnt) (o : Int32) : f_X1_counts (nI t) o σ = some (if ctP o σ t then 1 else 0) := by
  have h60 := h.1
  unfold f_X1_counts
  by_cases ho : o = 0
  · rw [if_pos ho, if_pos (ib_nI (by omega) (by decide)), ix_nI (by omega), if_pos (h.ib ht)]
    by_cases ha : σ 6 (ix (σ 16 t)) = 0
    · rw [if_pos ha, if_neg (fun q => q.elim (fun z => z ho) fun z => z ha)]
    · rw [if_neg ha, if_pos (Or.inr ha)]
  · rw [if_neg ho, if_pos (Or.inl ho)]
/-! the log's own writing -/
def wr (L : Nat) (a b c d : Int32) (σ : Sg) : Sg := (f_X4_write L a b c d σ).getD σ
theorem wr_ex (L : Nat) (a b c d : Int32) (σ : Sg) : Ex LG σ (wr L a b c d σ) := by
  unfold wr f_X4_write
  by_cases h1 : σ 7 0 < Int32.ofNat L
  · rw [if_pos h1]
    by_cases h2 : ib (σ 7 0) L
    · rw [if_pos h2]
      exact ((((Ex.up _ _ _ (by decide)).tr (Ex.up _ _ _ (by decide))).tr (Ex.up _ _ _ (by decide))).tr (Ex.up _ _ _ (by decide))).tr (Ex.up _ _ _ (by decide))
    · rw [if_neg h2]
      exact Ex.rf _ _
  · rw [if_neg h1]
    exact Ex.rf _ _
theorem wr_ag {L : Nat} {a b c d : Int32} {R : List Nat} {A B : Sg} (hR : ∀ k, k ∈ LG → k ∉ R) (h : Ex R A B) : Ex R (wr L a b c d A) (wr L a b c d B) := by
  intro k hk
  have h7 : B 7 = A 7 := h 7 (hR 7 (by decide))
  have hk' : B k = A k := h k hk
  unfold wr f_X4_write
  rw [h7]
  by_cases h1 : A 7 0 < Int32.ofNat L
  · rw [if_pos h1, if_pos h1]
    by_cases h2 : ib (A 7 0) L
    · rw [if_pos h2, if_pos h2]
      funext i
      simp only [Option.getD_some, up_ite, hk']
    · rw [if_neg h2, if_neg h2]
      exact hk'
  · rw [if_neg h1, if_neg h1]
    exact hk'
/-- the log has its room -/
def LO (L : Nat) (σ : Sg) : Prop := L ≤ 600 ∧ ∃ n : Nat, n ≤ L ∧ σ 7 0 = nI n
theorem wr_some {a b c d : Int32} (h : LO L σ) : f_X4_write L a b c d σ = some (wr L a b c d σ) ∧ LO L (wr L a b c d σ) := by
  obtain ⟨hL, n, h1, h2⟩ := h
  unfold wr f_X4_write
  rw [h2]
  rcases Nat.lt_or_ge n L with q | q
  · rw [if_pos (show nI n < Int32.ofNat L from nI_lt q (by omega)), if_pos (ib_nI q (by omega))]
    refine ⟨rfl, hL, n + 1, q, ?_⟩
    show up _ 7 0 _ 7 0 = _
    rw [up_same, nI_1]
  · rw [if_neg (show ¬ nI n < Int32.ofNat L from nI_nlt (a := n) (b := L) q (by omega))]
    exact ⟨rfl, hL, n, h1, h2⟩
theorem LO.ex {σ' : Sg} {R : List Nat} (h : LO L σ) (hx : Ex R σ σ') (hR : 7 ∉ R) : LO L σ' := by
  obtain ⟨hL, n, h1, h2⟩ := h
  exact ⟨hL, n, h1, by rw [hx 7 hR]; exact h2⟩
theorem LO.of (G : LogR L σ μ) : LO L σ := by
  obtain ⟨n, h1, h2, h3⟩ := G
  rcases h3 with ⟨rfl, h⟩ | ⟨rfl, h, -⟩
  · exact ⟨by decide, 0, Nat.le_refl _, h⟩
  · exact ⟨by decide, n, h1, h⟩
/-- the flags stay -/
def FS (μ μ' : Sg) : Prop := pV μ' 38 = pV μ 38 ∧ pV μ' 39 = pV μ 39
theorem FS.rf (μ : Sg) : FS μ μ := ⟨rfl, rfl⟩
theorem FS.tr {a b c : Sg} (h : FS a b) (h2 : FS b c) : FS a c := ⟨h2.1.trans h.1, h2.2.trans h.2⟩
theorem FS.mu (μ : Sg) {k i : Nat} (v : Int32) (hi : i < pv_nb k) (hk : k < 38) : FS μ (mu μ k i v) := by
  unfold FS
  rw [pV_mu hi]
  exact ⟨up_row (by omega), up_row (by omega)⟩
/-- an event on both sides -/
theorem wr_sim (E : Eq2 cnt kc σ μ) (G : LogR L σ μ) (a b c d : Int32) (wd : Int64) : f_X4_write L a b c d σ = some (wr L a b c d σ) ∧
    ∃ μ', f_X9_log a b c d μ wd = some μ' ∧ Eq2 cnt kc (wr L a b c d σ) μ' ∧ LogR L (wr L a b c d σ) μ' ∧ FS μ μ' ∧ RS μ μ' := by
  obtain ⟨σ', μ', h1, h2, h3, h4, -, h6, h7⟩ := wl E G a b c d wd
  have e : wr L a b c d σ = σ' := by unfold wr; rw [h1]; rfl
  rw [e]
  exact ⟨h1, μ', h2, h3, h4, ⟨h6 38 (by decide), h6 39 (by decide)⟩, h7⟩
end Cl
