section Pb
variable {cnt kc A : Nat} {σ : Sg}
/-! p62: what holds of each ticket at the time A -/
/-- e: the effort of its kind; l level, s state, p progress, c4 c5 clocks, r root, rp reported, an answered, sv solved -/
def XV (A : Nat) (e l s p c4 c5 r rp an sv : Int32) : Prop :=
  ∃ q : Nat, q ≤ A ∧ rp = nI q ∧ (c4.toInt ≤ (A : Int) - q ∧ c5.toInt ≤ (A : Int) - q) ∧ (∃ n : Nat, n ≤ 3 ∧ l = nI n) ∧ (an = -1 ∧ s ≠ 1 ∨ ∃ a : Nat, q ≤ a ∧ a ≤ A ∧ an = nI a) ∧
    ((0 ≤ p.toInt ∧ p ≤ e) ∧ (s ≠ 3 ∨ r ≠ -1 → p < e)) ∧ (s = 3 → ∃ v : Nat, v ≤ A ∧ sv = nI v) ∧ (s ≠ 3 → sv = -1)
variable {e l s p c4 c5 r rp an sv : Int32}
theorem XV.le {B : Nat} (h : XV A e l s p c4 c5 r rp an sv) (hB : A ≤ B) : XV B e l s p c4 c5 r rp an sv := by
  obtain ⟨q, h1, h2, ⟨h3, h3'⟩, h4, h5, h6, h7, h8⟩ := h
  refine ⟨q, by omega, h2, ⟨by omega, by omega⟩, h4, ?_, h6, fun z => ?_, h8⟩
  · rcases h5 with h | ⟨a, a1, a2, a3⟩
    · exact Or.inl h
    · exact Or.inr ⟨a, a1, by omega, a3⟩
  · obtain ⟨v, v1, v2⟩ := h7 z
    exact ⟨v, by omega, v2⟩
/-- another state, not solved before and behind -/
theorem XV.move (h : XV A e l s p c4 c5 r rp an sv) (h3 : s ≠ 3) {s' r' : Int32} (h3' : s' ≠ 3) (h1 : s' ≠ 1) : XV A e l s' p c4 c5 r' rp an sv := by
  obtain ⟨q, g1, g2, g3, g4, g5, g6, g7, g8⟩ := h
  refine ⟨q, g1, g2, g3, g4, ?_, ⟨g6.1, fun _ => g6.2 (Or.inl h3)⟩, fun z => absurd z h3', fun _ => g8 h3⟩
  rcases g5 with h | h
  · exact Or.inl ⟨h.1, h1⟩
  · exact Or.inr h
theorem XV.raise (h : XV A e l s p c4 c5 r rp an sv) (h3 : s ≠ 3) (hl : l.toInt < 3) (he : 1 ≤ e.toInt) : XV A e (l + 1) 0 0 c4 c5 r rp an sv := by
  obtain ⟨q, g1, g2, g3, ⟨n, n1, rfl⟩, g5, g6, g7, g8⟩ := h
  have n2 : n < 3 := by
    rw [z_nI (by omega)] at hl
    omega
  have pe : (0 : Int32) < e := z_lt.mpr (by rw [z_0]; omega)
  refine ⟨q, g1, g2, g3, ⟨n + 1, by omega, nI_1 n⟩, ?_, ⟨⟨by rw [z_0]; omega, Int32.le_of_lt pe⟩, fun _ => pe⟩, fun z => absurd z (by decide), fun _ => g8 h3⟩
  rcases g5 with h | h
  · exact Or.inl ⟨h.1, by decide⟩
  · exact Or.inr h
/-- solved now -/
theorem XV.solve (h : XV A e l s p c4 c5 r rp an sv) (h3 : s ≠ 3) : XV A e l 3 p c4 c5 r rp an (nI A) := by
  obtain ⟨q, g1, g2, g3, g4, g5, g6, g7, g8⟩ := h
  refine ⟨q, g1, g2, g3, g4, ?_, ⟨g6.1, fun _ => g6.2 (Or.inl h3)⟩, fun _ => ⟨A, Nat.le_refl _, rfl⟩, fun z => absurd rfl z⟩
  rcases g5 with h | h
  · exact Or.inl ⟨h.1, by decide⟩
  · exact Or.inr h
/-- solved by work -/
theorem XV.done (h : XV A e l s p c4 c5 (-1) rp an sv) {p' : Int32} (hp : 0 ≤ p'.toInt ∧ p' ≤ e) : XV A e l 3 p' c4 c5 (-1) rp an (nI A) := by
  obtain ⟨q, g1, g2, g3, g4, g5, g6, g7, g8⟩ := h
  refine ⟨q, g1, g2, g3, g4, ?_, ⟨hp, fun z => z.elim (absurd rfl) (absurd rfl)⟩, fun _ => ⟨A, Nat.le_refl _, rfl⟩, fun z => absurd rfl z⟩
  rcases g5 with h | h
  · exact Or.inl ⟨h.1, by decide⟩
  · exact Or.inr h
theorem XV.reopen (h : XV A e l s p c4 c5 r rp an sv) (he : 1 ≤ e.toInt) : XV A e l 0 0 c4 c5 r rp an (-1) := by
  obtain ⟨q, g1, g2, g3, g4, g5, g6, g7, g8⟩ := h
  have pe : (0 : Int32) < e := z_lt.mpr (by rw [z_0]; omega)
  refine ⟨q, g1, g2, g3, g4, ?_, ⟨⟨by rw [z_0]; omega, Int32.le_of_lt pe⟩, fun _ => pe⟩, fun z => absurd z (by decide), fun _ => rfl⟩
  rcases g5 with h | h
  · exact Or.inl ⟨h.1, by decide⟩
  · exact Or.inr h
theorem XV.retwin (h : XV A e l s p c4 c5 r rp an sv) (hr : r ≠ -1) : XV A e l 4 p c4 c5 r rp an (-1) := by
  obtain ⟨q, g1, g2, g3, g4, g5, g6, g7, g8⟩ := h
  refine ⟨q, g1, g2, g3, g4, ?_, ⟨g6.1, fun _ => g6.2 (Or.inr hr)⟩, fun z => absurd z (by decide), fun _ => rfl⟩
  rcases g5 with h | h
  · exact Or.inl ⟨h.1, by decide⟩
  · exact Or.inr h
theorem XV.take (h : XV A e l 0 p c4 c5 r rp an sv) : XV A e l 1 p c4 c5 r rp (if an = -1 then nI A else an) sv := by
  obtain ⟨q, g1, g2, g3, g4, g5, g6, g7, g8⟩ := h
  refine ⟨q, g1, g2, g3, g4, Or.inr ?_, ⟨g6.1, fun _ => g6.2 (Or.inl (by decide))⟩, fun z => absurd z (by decide), fun _ => g8 (by decide)⟩
  by_cases z : an = -1
  · rw [if_pos z]
    exact ⟨A, g1, Nat.le_refl _, rfl⟩
  · rw [if_neg z]
    rcases g5 with h | h
    · exact absurd h.1 z
    · exact h
/-- clocks that grew by at most 1 in a minute -/
theorem XV.clock (h : XV A e l s p c4 c5 r rp an sv) {d4 d5 : Int32} (h4 : d4.toInt ≤ c4.toInt + 1) (h5 : d5.toInt ≤ c5.toInt + 1) : XV (A + 1) e l s p d4 d5 r rp an sv := by
  obtain ⟨q, g1, g2, ⟨g3, g3'⟩, g4, g5, g6, g7, g8⟩ := h
  refine ⟨q, by omega, g2, ⟨by omega, by omega⟩, g4, ?_, g6, fun z => ?_, g8⟩
  · rcases g5 with h | ⟨a, a1, a2, a3⟩
    · exact Or.inl h
    · exact Or.inr ⟨a, a1, by omega, a3⟩
  · obtain ⟨v, v1, v2⟩ := g7 z
    exact ⟨v, by omega, v2⟩
theorem XV.prog (h : XV A e l s p c4 c5 r rp an sv) {p' : Int32} (h0 : 0 ≤ p'.toInt) (hp : p' < e) : XV A e l s p' c4 c5 r rp an sv := by
  obtain ⟨q, g1, g2, g3, g4, g5, g6, g7, g8⟩ := h
  exact ⟨q, g1, g2, g3, g4, g5, ⟨⟨h0, Int32.le_of_lt hp⟩, fun _ => hp⟩, g7, g8⟩
theorem XV.new (A : Nat) {e : Int32} (he : 1 ≤ e.toInt) : XV A e 0 0 0 0 0 (-1) (nI A) (-1) (-1) := by
  have pe : (0 : Int32) < e := z_lt.mpr (by rw [z_0]; omega)
  exact ⟨A, Nat.le_refl _, rfl, ⟨by rw [z_0]; omega, by rw [z_0]; omega⟩, ⟨0, by decide, rfl⟩, Or.inl ⟨rfl, by decide⟩, ⟨⟨by rw [z_0]; omega, Int32.le_of_lt pe⟩, fun _ => pe⟩, fun z => absurd z (by decide), fun _ => rfl⟩
theorem XV.lvl (h : XV A e l s p c4 c5 r rp an sv) : ∃ n : Nat, n ≤ 3 ∧ l = nI n := by
  obtain ⟨q, g1, g2, g3, g4, -⟩ := h
  exact g4
def XT (A : Nat) (σ : Sg) (t : Nat) : Prop := XV A (σ 3 (ix (σ 16 t))) (σ 20 t) (σ 21 t) (σ 22 t) (σ 24 t) (σ 25 t) (σ 26 t) (σ 27 t) (σ 28 t) (σ 29 t)
theorem XT.same {σ' : Sg} {t : Nat} (h : XT A σ t) (h3 : σ' 3 = σ 3) (h16 : σ' 16 t = σ 16 t) (hk : ∀ k, k = 20 ∨ k = 21 ∨ k = 22 ∨ k = 24 ∨ k = 25 ∨ k = 26 ∨ k = 27 ∨ k = 28 ∨ k = 29 → σ' k t = σ k t) : XT A σ' t := by
  unfold XT
  rw [h3, h16, hk 20 (by decide), hk 21 (by decide), hk 22 (by decide), hk 24 (by decide), hk 25 (by decide), hk 26 (by decide), hk 27 (by decide), hk 28 (by decide), hk 29 (by decide)]
  exact h
theorem XT.le {B t : Nat} (h : XT A σ t) (hB : A ≤ B) : XT B σ t := XV.le h hB
/-- no more at work than there are agents -/
def BA (cnt : Nat) (σ : Sg) : Prop := ∀ l, l < 4 → (fb_ct (wB σ l) cnt : Int) ≤ (σ 30 l).toInt
theorem BA.sub {σ' : Sg} (h : BA cnt σ) (h30 : σ' 30 = σ 30) (hw : ∀ t, t < cnt → σ' 21 t = 1 → σ 21 t = 1 ∧ σ' 20 t = σ 20 t) : BA cnt σ' := fun l hl => by
  have h1 := h l hl
  have h2 : fb_ct (wB σ' l) cnt ≤ fb_ct (wB σ l) cnt := fb_ct_sub (fun t ht q => by
    unfold wB at q ⊢
    have q2 := of_decide_eq_true q
    obtain ⟨w1, w2⟩ := hw t ht q2.1
    exact decide_eq_true ⟨w1, by rw [← w2]; exact q2.2⟩)
  rw [h30]
  omega
/-- levels that can solve -/
def K4 (kc : Nat) (σ : Sg) : Prop := ∀ k, k < kc → 0 ≤ (σ 4 k).toInt ∧ (σ 4 k).toInt ≤ 3
/-- the log tells the times of the solved -/
def LJ (cnt A ln : Nat) (σ : Sg) : Prop := ∃ f, LGf cnt A ln σ f ∧ ∀ t, t < cnt → σ 21 t = 3 → f t = σ 29 t
theorem LJ.ex {σ' : Sg} {ln : Nat} {R : List Nat} (h : LJ cnt A ln σ) (hx : Ex R σ σ') (hR : 7 ∉ R ∧ 8 ∉ R ∧ 9 ∉ R ∧ 10 ∉ R ∧ 11 ∉ R) (hs : ∀ t, t < cnt → σ' 21 t = 3 → σ 21 t = 3 ∧ σ' 29 t = σ 29 t) : LJ cnt A ln σ' := by
  obtain ⟨f, h1, h2⟩ := h
  exact ⟨f, h1.ex hx hR, fun t ht q => by
    obtain ⟨w1, w2⟩ := hs t ht q
    rw [w2]
    exact h2 t ht w1⟩
theorem LJ.le {B ln : Nat} (h : LJ cnt A ln σ) (hB : A ≤ B) : LJ cnt B ln σ := by
  obtain ⟨f, h1, h2⟩ := h
  exact ⟨f, h1.le hB, h2⟩
/-- an event that isn't a solving -/
theorem LJ.wr {ln : Nat} (h : LJ cnt A ln σ) (hA : A ≤ 10080) (hc : cnt ≤ 60) {b : Int32} (hb : b ≠ 5) (d : Int32) {j : Nat} (hj : j < cnt) : LJ cnt A (min 600 (ln + 1)) (wr 600 (nI A) b (nI j) d σ) := by
  obtain ⟨f, h1, h2⟩ := h
  refine ⟨_, h1.wr hA hc b d hj, fun t ht q => ?_⟩
  have x := wr_ex 600 (nI A) b (nI j) d σ
  rw [x 21 (by decide)] at q
  rw [x 29 (by decide)]
  show (if b = 5 ∧ t = j then nI A else f t) = _
  rw [if_neg (fun w => hb w.1)]
  exact h2 t ht q
/-- a ticket is solved -/
theorem LJ.mk1 {ln : Nat} (h : LJ cnt A ln σ) (hA : A ≤ 10080) (hc : cnt ≤ 60) {j : Nat} (hj : j < cnt) : LJ cnt A (min 600 (ln + 1)) (mk1 600 j (nI A) σ) := by
  obtain ⟨f, h1, h2⟩ := h
  have hx : Ex [21, 29] σ (up (up σ 21 j 3) 29 j (nI A)) := (Ex.up _ _ _ (by decide)).tr (Ex.up _ _ _ (by decide))
  refine ⟨_, (h1.ex hx (by decide)).wr hA hc 5 0 hj, fun t ht q => ?_⟩
  show (if (5 : Int32) = 5 ∧ t = j then nI A else f t) = _
  rw [mk1_at _ _ _ _ (by decide)] at q ⊢
  by_cases z : t = j
  · rw [if_pos ⟨rfl, z⟩, if_pos z, if_neg (by decide), if_pos rfl]
  · rw [if_neg z] at q
    rw [if_neg (fun w => z w.2), if_neg z]
    exact h2 t ht q
/-- .. with its twins -/
theorem LJ.fin {ln : Nat} (h : LJ cnt A ln σ) (hA : A ≤ 10080) (hc : cnt ≤ 60) {t : Nat} (ht : t < cnt) : ∃ ln', LJ cnt A ln' (fin 600 cnt t (nI A) σ) :=
  one_itr (fT 600 (nI t) (nI A)) (fun _ τ => ∃ n, LJ cnt A n τ) cnt (fun i τ hi I => by
    obtain ⟨n, I⟩ := I
    unfold fT
    split
    · exact ⟨_, I.mk1 hA hc hi⟩
    · exact ⟨n, I⟩) _ ⟨_, h.mk1 hA hc ht⟩
/-- all of it -/
def JI (cnt kc A : Nat) (σ : Sg) : Prop := (∀ t, t < cnt → XT A σ t) ∧ BA cnt σ ∧ K4 kc σ ∧ ∃ ln, LJ cnt A ln σ
end Pb
