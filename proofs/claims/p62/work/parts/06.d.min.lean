/-! the class's minute, as functions on the desk; loops -/
def itr {α : Type} (f : Nat → α → α) : Nat → α → α
  | 0, a => a
  | n + 1, a => f n (itr f n a)
theorem itr_s {α : Type} (f : Nat → α → α) (n : Nat) (a : α) : itr f (n + 1) a = f n (itr f n a) := rfl
/-- a loop of the class's is a run over the tickets -/
theorem lift_itr {α β : Type} (g : Nat → Int32 → α → Option β) (F : Nat → α → α) (I : Nat → α → Prop) (e : α → Option β) (cnt : Nat)
    (hs : ∀ n i a, i < cnt → I i a → I (i + 1) (F i a) ∧ g (n + 1) (nI i) a = g n (nI (i + 1)) (F i a))
    (he : ∀ n a, I cnt a → g (n + 1) (nI cnt) a = e a) (a : α) (h0 : I 0 a) : ∀ n, cnt < n → I cnt (itr F cnt a) ∧ g n 0 a = e (itr F cnt a) := by
  have hI : ∀ i, i ≤ cnt → I i (itr F i a) := by
    intro i
    induction i with
    | zero => intro _; exact h0
    | succ i ih => intro h; exact (hs 0 i _ (by omega) (ih (by omega))).1
  have key : ∀ k i, i + k = cnt → ∀ n, k < n → g n (nI i) (itr F i a) = e (itr F cnt a) := by
    intro k
    induction k with
    | zero =>
      intro i hi n hn
      obtain rfl : i = cnt := by omega
      obtain ⟨m, rfl⟩ : ∃ m, n = m + 1 := ⟨n - 1, by omega⟩
      exact he m _ (hI i (Nat.le_refl _))
    | succ k ih =>
      intro i hi n hn
      obtain ⟨m, rfl⟩ : ∃ m, n = m + 1 := ⟨n - 1, by omega⟩
      rw [(hs m i _ (by omega) (hI i (by omega))).2]
      exact ih (i + 1) (by omega) m (by omega)
  intro n hn
  exact ⟨hI cnt (Nat.le_refl _), key cnt 0 (by omega) n hn⟩
/-- .. and the reference's loop beside it -/
theorem sim_itr {α β γ : Type} (g : Nat → Int32 → γ → Option β) (F : Nat → α → α) (R : Nat → α → γ → Prop) (e : γ → Option β) (cnt : Nat)
    (hs : ∀ n i a c, i < cnt → R i a c → ∃ c', R (i + 1) (F i a) c' ∧ g (n + 1) (nI i) c = g n (nI (i + 1)) c')
    (he : ∀ n a c, R cnt a c → g (n + 1) (nI cnt) c = e c) (a : α) (c : γ) (h0 : R 0 a c) : ∀ n, cnt < n → ∃ c', R cnt (itr F cnt a) c' ∧ g n 0 c = e c' := by
  have key : ∀ k i c, i + k = cnt → R i (itr F i a) c → ∀ n, k < n → ∃ c', R cnt (itr F cnt a) c' ∧ g n (nI i) c = e c' := by
    intro k
    induction k with
    | zero =>
      intro i c hi hR n hn
      obtain rfl : i = cnt := by omega
      obtain ⟨m, rfl⟩ : ∃ m, n = m + 1 := ⟨n - 1, by omega⟩
      exact ⟨c, hR, he m _ _ hR⟩
    | succ k ih =>
      intro i c hi hR n hn
      obtain ⟨m, rfl⟩ : ∃ m, n = m + 1 := ⟨n - 1, by omega⟩
      obtain ⟨c', h1, h2⟩ := hs m i _ c (by omega) hR
      obtain ⟨c'', h3, h4⟩ := ih (i + 1) c' (by omega) h1 m (by omega)
      exact ⟨c'', h3, h2.trans h4⟩
  intro n hn
  exact key cnt 0 c (by omega) h0 n hn
/-- two runs side by side -/
theorem two_itr {α β : Type} (F : Nat → α → α) (G : Nat → β → β) (R : Nat → α → β → Prop) (cnt : Nat)
    (hs : ∀ i a b, i < cnt → R i a b → R (i + 1) (F i a) (G i b)) (a : α) (b : β) (h0 : R 0 a b) : R cnt (itr F cnt a) (itr G cnt b) := by
  have : ∀ i, i ≤ cnt → R i (itr F i a) (itr G i b) := by
    intro i
    induction i with
    | zero => intro _; exact h0
    | succ i ih => intro h; exact hs i _ _ (by omega) (ih (by omega))
  exact this cnt (Nat.le_refl _)
theorem one_itr {α : Type} (F : Nat → α → α) (I : Nat → α → Prop) (cnt : Nat) (hs : ∀ i a, i < cnt → I i a → I (i + 1) (F i a)) (a : α) (h0 : I 0 a) : I cnt (itr F cnt a) :=
  two_itr F (fun _ (u : Unit) => u) (fun i a _ => I i a) cnt (fun i a _ h h2 => hs i a h h2) a () h0
section Dd
variable {L cnt kc : Nat} {σ μ : Sg}
def mk1 (L j : Nat) (at' : Int32) (σ : Sg) : Sg := wr L at' 5 (nI j) 0 (up (up σ 21 j 3) 29 j at')
def fT (L : Nat) (x at' : Int32) (j : Nat) (σ : Sg) : Sg := if σ 26 j = x then mk1 L j at' σ else σ
def fin (L cnt t : Nat) (at' : Int32) (σ : Sg) : Sg := itr (fT L (nI t) at') cnt (mk1 L t at' σ)
def ra (L t : Nat) (at' : Int32) (σ : Sg) : Sg := wr L at' 4 (nI t) (σ 20 t + 1) (up (up (up (up σ 20 t (σ 20 t + 1)) 21 t 0) 22 t 0) 23 t 0)
def gR (L : Nat) (s : Int32) (t : Nat) (σ : Sg) : Sg := if rrP σ t then (if σ 24 t ≤ σ 1 (ix (σ 16 t)) ∧ σ 1 (ix (σ 16 t)) < σ 24 t + s then wr L (σ 12 0 + s) 8 (nI t) (σ 1 (ix (σ 16 t))) (up σ 24 t (σ 24 t + s)) else up σ 24 t (σ 24 t + s)) else σ
def gV (L : Nat) (s : Int32) (t : Nat) (σ : Sg) : Sg := if rvP σ t then (if σ 25 t ≤ σ 2 (ix (σ 16 t)) ∧ σ 2 (ix (σ 16 t)) < σ 25 t + s then wr L (σ 12 0 + s) 9 (nI t) (σ 2 (ix (σ 16 t))) (up σ 25 t (σ 25 t + s)) else up σ 25 t (σ 25 t + s)) else σ
def gL (s : Int32) (t : Nat) (σ : Sg) : Sg := if σ 21 t = 0 then up σ 23 t (σ 23 t + s) else σ
def gT (L : Nat) (s o : Int32) (t : Nat) (σ : Sg) : Sg := if ctP o σ t then gL s t (gV L s t (gR L s t σ)) else σ
def wT (L : Nat) (s : Int32) (cnt t : Nat) (σ : Sg) : Sg := if σ 21 t = 1 then (if σ 3 (ix (σ 16 t)) ≤ σ 22 t + s then (if σ 20 t < σ 4 (ix (σ 16 t)) then ra L t (σ 12 0 + s) (up σ 22 t (σ 22 t + s)) else fin L cnt t (σ 12 0 + s) (up σ 22 t (σ 22 t + s))) else up σ 22 t (σ 22 t + s)) else σ
abbrev cbP (σ : Sg) (t : Nat) : Prop := ¬ σ 5 (ix (σ 16 t)) = 0 ∧ ¬ 3 ≤ σ 20 t
def cT (L : Nat) (at' : Int32) (t : Nat) (σ : Sg) : Sg := if σ 21 t = 0 ∧ cbP σ t ∧ ¬ σ 23 t < σ 5 (ix (σ 16 t)) then ra L t at' σ else σ
/-- a stretch of s minutes, behind the taking -/
def stp (L : Nat) (s o : Int32) (cnt : Nat) (σ : Sg) : Sg :=
  let σ2 := itr (gT L s o) cnt σ
  let σ3 := if o = 0 then σ2 else itr (wT L s cnt) cnt σ2
  let σ4 := itr (cT L (σ3 12 0 + s)) cnt σ3
  up σ4 12 0 (σ4 12 0 + s)
/-! which rows they leave as they are -/
def LF : List Nat := [7, 8, 9, 10, 11, 21, 29]
def LA : List Nat := [7, 8, 9, 10, 11, 20, 21, 22, 23]
def LC : List Nat := [7, 8, 9, 10, 11, 23, 24, 25]
def LW : List Nat := [7, 8, 9, 10, 11, 20, 21, 22, 23, 29]
theorem wr_wk (L : Nat) (a b c d : Int32) (σ : Sg) (R : List Nat) (h : ∀ k, k ∈ LG → k ∈ R) : Ex R σ (wr L a b c d σ) := (wr_ex L a b c d σ).wk h
theorem mk1_ex (L j : Nat) (a : Int32) (σ : Sg) : Ex LF σ (mk1 L j a σ) := ((Ex.up _ _ _ (by decide)).tr (Ex.up _ _ _ (by decide))).tr (wr_wk _ _ _ _ _ _ _ (by decide))
theorem fT_ex (L : Nat) (x a : Int32) (j : Nat) (σ : Sg) : Ex LF σ (fT L x a j σ) := by
  unfold fT
  split
  · exact mk1_ex _ _ _ _
  · exact Ex.rf _ _
theorem itr_ex {R : List Nat} {f : Nat → Sg → Sg} (h : ∀ i σ, Ex R σ (f i σ)) (σ : Sg) : ∀ n, Ex R σ (itr f n σ)
  | 0 => Ex.rf _ _
  | n + 1 => (itr_ex h σ n).tr (h n _)
theorem fin_ex (L cnt t : Nat) (a : Int32) (σ : Sg) : Ex LF σ (fin L cnt t a σ) := (mk1_ex _ _ _ _).tr (itr_ex (fun i σ => fT_ex L _ a i σ) _ cnt)
theorem ra_ex (L t : Nat) (a : Int32) (σ : Sg) : Ex LA σ (ra L t a σ) := ((((Ex.up _ _ _ (by decide)).tr (Ex.up _ _ _ (by decide))).tr (Ex.up _ _ _ (by decide))).tr (Ex.up _ _ _ (by decide))).tr (wr_wk _ _ _ _ _ _ _ (by decide))
theorem gR_ex (L : Nat) (s : Int32) (t : Nat) (σ : Sg) : Ex [7, 8, 9, 10, 11, 24] σ (gR L s t σ) := by
  unfold gR
  split
  · split
    · exact (Ex.up _ _ _ (by decide)).tr (wr_wk _ _ _ _ _ _ _ (by decide))
    · exact Ex.up _ _ _ (by decide)
  · exact Ex.rf _ _
theorem gV_ex (L : Nat) (s : Int32) (t : Nat) (σ : Sg) : Ex [7, 8, 9, 10, 11, 25] σ (gV L s t σ) := by
  unfold gV
  split
  · split
    · exact (Ex.up _ _ _ (by decide)).tr (wr_wk _ _ _ _ _ _ _ (by decide))
    · exact Ex.up _ _ _ (by decide)
  · exact Ex.rf _ _
theorem gL_ex (s : Int32) (t : Nat) (σ : Sg) : Ex [23] σ (gL s t σ) := by
  unfold gL
  split
  · exact Ex.up _ _ _ (by decide)
  · exact Ex.rf _ _
theorem gT_ex (L : Nat) (s o : Int32) (t : Nat) (σ : Sg) : Ex LC σ (gT L s o t σ) := by
  unfold gT
  split
  · exact (((gR_ex L s t σ).wk (by decide)).tr ((gV_ex L s t _).wk (by decide))).tr ((gL_ex s t _).wk (by decide))
  · exact Ex.rf _ _
theorem wT_ex (L : Nat) (s : Int32) (cnt t : Nat) (σ : Sg) : Ex LW σ (wT L s cnt t σ) := by
  unfold wT
  split
  · split
    · split
      · exact (Ex.up _ _ _ (by decide)).tr ((ra_ex _ _ _ _).wk (by decide))
      · exact (Ex.up _ _ _ (by decide)).tr ((fin_ex _ _ _ _ _).wk (by decide))
    · exact Ex.up _ _ _ (by decide)
  · exact Ex.rf _ _
theorem cT_ex (L : Nat) (a : Int32) (t : Nat) (σ : Sg) : Ex LA σ (cT L a t σ) := by
  unfold cT
  split
  · exact ra_ex _ _ _ _
  · exact Ex.rf _ _
/-! the shape stays -/
theorem CC.ex {σ' : Sg} {R : List Nat} (h : CC cnt kc σ) (hx : Ex R σ σ') (hR : 0 ∉ R ∧ 15 ∉ R ∧ 16 ∉ R ∧ 26 ∉ R) (h21 : ∀ t, t < cnt → σ' 21 t = 4 → σ 21 t = 4) : CC cnt kc σ' := by
  refine ⟨h.1, h.2.1, by rw [hx 15 hR.2.1]; exact h.2.2.1, by rw [hx 0 hR.1]; exact h.2.2.2.1, fun t ht => ⟨?_, fun q => ?_⟩⟩
  · unfold KT
    rw [hx 16 hR.2.2.1]
    exact (h.2.2.2.2 t ht).1
  · rw [hx 26 hR.2.2.2]
    exact (h.2.2.2.2 t ht).2 (h21 t ht q)
/-- a desk and its log as they should be -/
def CL (L cnt kc : Nat) (σ : Sg) : Prop := CC cnt kc σ ∧ LO L σ
theorem mk1_21 (L j : Nat) (a : Int32) (σ : Sg) (k i : Nat) (hk : k ∉ LG) : mk1 L j a σ k i = up (up σ 21 j 3) 29 j a k i := congrFun (wr_ex _ _ _ _ _ _ k hk) i
theorem CL.mk1 (h : CL L cnt kc σ) (j : Nat) (a : Int32) (hj : j < cnt) : CL L cnt kc (mk1 L j a σ) ∧ f_X1_markSolved L (nI j) a σ = some (mk1 L j a σ) := by
  have h60 := h.1.1
  have hL : LO L (up (up σ 21 j 3) 29 j a) := h.2.ex ((Ex.up (R := [21, 29]) _ _ _ (by decide)).tr (Ex.up _ _ _ (by decide))) (by decide)
  obtain ⟨w1, w2⟩ := wr_some (a := a) (b := 5) (c := nI j) (d := 0) hL
  refine ⟨⟨h.1.ex (mk1_ex L j a σ) (by decide) (fun t ht q => ?_), w2⟩, ?_⟩
  · rw [mk1_21 _ _ _ _ _ _ (by decide), up_row (by decide), up_ite] at q
    split at q
    · exact absurd q (by decide)
    · exact q
  · unfold f_X1_markSolved
    rw [if_pos (ib_nI (by omega) (by decide)), ix_nI (by omega), w1, Option.bind_some]
    rfl
/-- the tickets that finish with one -/
def rtB (σ : Sg) (t : Nat) (j : Nat) : Bool := decide (σ 26 j = nI t)
theorem fin_lift (h : CL L cnt kc σ) (N : Nat) (hN : 100 < N) (t : Nat) (ht : t < cnt) (a : Int32) : CL L cnt kc (fin L cnt t a σ) ∧ f_X1_finish N L (nI t) a σ = some (nI (1 + fb_ct (rtB σ t) cnt), fin L cnt t a σ) := by
  have h60 := h.1.1
  obtain ⟨m1, m2⟩ := h.mk1 t a ht
  have hs := lift_itr (α := Nat × Sg) (fun n x (p : Nat × Sg) => f_X1_finish_11 N L n (nI t) a (nI p.1) x p.2) (fun j p => (p.1 + (if rtB σ t j then 1 else 0), fT L (nI t) a j p.2))
    (fun j p => CL L cnt kc p.2 ∧ p.2 26 = σ 26 ∧ p.1 = 1 + fb_ct (rtB σ t) j) (fun p => some (nI p.1, p.2)) cnt
    (fun n j p hj I => by
      obtain ⟨I1, I2, I3⟩ := I
      have e26 : p.2 26 j = σ 26 j := congrFun I2 j
      have x := fT_ex L (nI t) a j p.2
      refine ⟨⟨?_, ?_, ?_⟩, ?_⟩
      · show CL L cnt kc (fT L (nI t) a j p.2)
        unfold fT
        split
        · exact (I1.mk1 j a hj).1
        · exact I1
      · exact (x 26 (by decide)).trans I2
      · rw [fb_ct_succ]
        show p.1 + _ = _
        omega
      · show f_X1_finish_11 N L (n + 1) (nI t) a (nI p.1) (nI j) p.2 = f_X1_finish_11 N L n (nI t) a (nI (p.1 + _)) (nI (j + 1)) (fT L (nI t) a j p.2)
        rw [f_X1_finish_11, I1.1.2.2.1, if_neg (nI_ge hj (by omega)), if_pos (ib_nI (by omega) (by decide)), ix_nI (by omega)]
        unfold fT rtB
        by_cases e : p.2 26 j = nI t
        · rw [if_pos e, if_pos e, (I1.mk1 j a hj).2, Option.bind_some, nI_1, nI_1, decide_eq_true (by rw [← e26]; exact e)]
          rfl
        · rw [if_neg e, if_neg e, nI_1, decide_eq_false (by rw [← e26]; exact e)]
          rfl)
    (fun n p I => by
      show f_X1_finish_11 N L (n + 1) (nI t) a (nI p.1) (nI cnt) p.2 = _
      rw [f_X1_finish_11, I.1.1.2.2.1, if_pos (nI_le (Nat.le_refl _) (by omega))])
    (1, mk1 L t a σ) ⟨m1, mk1_ex L t a σ 26 (by decide), rfl⟩ N (by omega)
  have e2 : ∀ n, (itr (fun j (p : Nat × Sg) => (p.1 + (if rtB σ t j then 1 else 0), fT L (nI t) a j p.2)) n (1, mk1 L t a σ)).2 = itr (fT L (nI t) a) n (mk1 L t a σ) := by
    intro n
    induction n with
    | zero => rfl
    | succ n ih =>
      rw [itr_s, itr_s, ← ih]
  obtain ⟨⟨i1, i2, i3⟩, i4⟩ := hs
  rw [e2] at i1
  refine ⟨i1, ?_⟩
  unfold f_X1_finish
  rw [m2, Option.bind_some]
  refine Eq.trans i4 ?_
  show some (nI (itr _ cnt (1, mk1 L t a σ)).1, (itr _ cnt (1, mk1 L t a σ)).2) = _
  rw [i3, e2]
  rfl
theorem ra_lift (h : CL L cnt kc σ) (t : Nat) (ht : t < cnt) (a : Int32) : CL L cnt kc (ra L t a σ) ∧ f_X1_raise L (nI t) a σ = some (σ 20 t + 1, ra L t a σ) := by
  have h60 := h.1.1
  have x4 : Ex [20, 21, 22, 23] σ (up (up (up (up σ 20 t (σ 20 t + 1)) 21 t 0) 22 t 0) 23 t 0) := (((Ex.up _ _ _ (by decide)).tr (Ex.up _ _ _ (by decide))).tr (Ex.up _ _ _ (by decide))).tr (Ex.up _ _ _ (by decide))
  have hL : LO L (up (up (up (up σ 20 t (σ 20 t + 1)) 21 t 0) 22 t 0) 23 t 0) := h.2.ex x4 (by decide)
  obtain ⟨w1, w2⟩ := wr_some (a := a) (b := 4) (c := nI t) (d := σ 20 t + 1) hL
  refine ⟨⟨h.1.ex (ra_ex L t a σ) (by decide) (fun j hj q => ?_), w2⟩, ?_⟩
  · have e : ra L t a σ 21 j = (if 21 = 21 ∧ j = t then 0 else σ 21 j) := by
      refine (congrFun (wr_ex _ _ _ _ _ _ 21 (by decide)) j).trans ?_
      rw [up_row (by decide), up_row (by decide), up_ite, up_row (by decide)]
    rw [e] at q
    split at q
    · exact absurd q (by decide)
    · exact q
  · unfold f_X1_raise
    rw [if_pos (ib_nI (by omega) (by decide)), ix_nI (by omega), up_same, w1, Option.bind_some]
    have e : wr L a 4 (nI t) (σ 20 t + 1) (up (up (up (up σ 20 t (σ 20 t + 1)) 21 t 0) 22 t 0) 23 t 0) 20 t = σ 20 t + 1 := by
      rw [wr_ex _ _ _ _ _ _ 20 (by decide), up_row (by decide), up_row (by decide), up_row (by decide), up_same]
    rw [e]
    rfl
end Dd
