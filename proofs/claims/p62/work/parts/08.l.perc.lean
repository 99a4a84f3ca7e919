section Gl
variable {cnt kc T hl : Nat} {σ μ : Sg}
/-! the percentile of the resolve clocks -/
theorem ct_w {p : Nat → Bool} : ∀ {n : Nat}, 1 ≤ fb_ct p n → ∃ j, j < n ∧ p j = true
  | 0, h => absurd (show 1 ≤ 0 from h) (by decide)
  | n + 1, h => by
    by_cases q : p n = true
    · exact ⟨n, Nat.lt_succ_self n, q⟩
    · rw [fb_ct_succ, if_neg q] at h
      obtain ⟨j, h1, h2⟩ := ct_w (n := n) h
      exact ⟨j, by omega, h2⟩
theorem ct_p {p : Nat → Bool} : ∀ {n j : Nat}, j < n → p j = true → 1 ≤ fb_ct p n
  | n + 1, j, h, q => by
    rw [fb_ct_succ]
    by_cases e : j = n
    · subst e
      rw [if_pos q]
      omega
    · have := ct_p (n := n) (j := j) (by omega) q
      omega
/-- solved below a clock; up to it -/
def sbB (σ : Sg) (v : Int32) (j : Nat) : Bool := decide (σ 21 j = 3 ∧ σ 25 j < v)
def suB (σ : Sg) (v : Int32) (j : Nat) : Bool := decide (σ 21 j = 3 ∧ ¬ v < σ 25 j)
theorem sb_v (hc : σ 15 0 = nI cnt) (h60 : cnt ≤ 60) (v : Int32) {N : Nat} (hN : 100 < N) : f_X7_solvedBelow N v σ = some (nI (fb_ct (sbB σ v) cnt)) := by
  have key := lift_itr (α := Nat) (fun n i c => f_X7_solvedBelow_4 N n v (nI c) i σ) (fun i c => c + (if sbB σ v i then 1 else 0)) (fun i c => c = fb_ct (sbB σ v) i) (fun c => some (nI c)) cnt
    (fun n i c hi I => by
      refine ⟨by rw [fb_ct_succ, I], ?_⟩
      show f_X7_solvedBelow_4 N (n + 1) v (nI c) (nI i) σ = f_X7_solvedBelow_4 N n v (nI (c + _)) (nI (i + 1)) σ
      rw [f_X7_solvedBelow_4, hc, if_neg (nI_ge hi (by omega)), if_pos (ib_nI (by omega) (by decide)), ix_nI (by omega), nI_1, nI_1]
      unfold sbB
      by_cases a : σ 21 i = 3
      · rw [if_pos a]
        by_cases b : v ≤ σ 25 i
        · rw [if_pos b, decide_eq_false (show ¬ (σ 21 i = 3 ∧ σ 25 i < v) from fun z => Int32.not_lt.mpr b z.2)]
          rfl
        · rw [if_neg b, decide_eq_true (show σ 21 i = 3 ∧ σ 25 i < v from ⟨a, Int32.not_le.mp b⟩)]
          rfl
      · rw [if_neg a, decide_eq_false (show ¬ (σ 21 i = 3 ∧ σ 25 i < v) from fun z => a z.1)]
        rfl)
    (fun n c I => by
      show f_X7_solvedBelow_4 N (n + 1) v (nI c) (nI cnt) σ = _
      rw [f_X7_solvedBelow_4, hc, if_pos (nI_le (Nat.le_refl _) (by omega))]) 0 rfl N (by omega)
  unfold f_X7_solvedBelow
  refine Eq.trans key.2 ?_
  rw [key.1]
theorem su_v (E : Eq2 cnt kc σ μ) (v : Int32) (wd : Int64) {N : Nat} (hN : 100 < N) : f_X9_solvedUpTo N v μ wd = some (nI (fb_ct (suB σ v) cnt)) := by
  have h60 := E.1
  have key := lift_itr (α := Nat) (fun n i c => f_X9_solvedUpTo_4 N n v (nI c) i μ wd) (fun i c => c + (if suB σ v i then 1 else 0)) (fun i c => c = fb_ct (suB σ v) i) (fun c => some (nI c)) cnt
    (fun n i c hi I => by
      refine ⟨by rw [fb_ct_succ, I], ?_⟩
      have c0 : nI c + 0 = nI c := nI_add c 0
      show f_X9_solvedUpTo_4 N (n + 1) v (nI c) (nI i) μ wd = f_X9_solvedUpTo_4 N n v (nI (c + _)) (nI (i + 1)) μ wd
      rw [f_X9_solvedUpTo_4, E.mc, if_neg (nI_ge hi (by omega)), is_v E hi, Option.bind_some, tg_8 E hi, Option.bind_some, nI_1, nI_1, c0]
      unfold suB
      by_cases a : σ 21 i = 3
      · rw [if_pos a, if_neg (by decide)]
        by_cases b : v < σ 25 i
        · rw [if_pos b, decide_eq_false (show ¬ (σ 21 i = 3 ∧ ¬ v < σ 25 i) from fun z => z.2 b)]
          rfl
        · rw [if_neg b, decide_eq_true (show σ 21 i = 3 ∧ ¬ v < σ 25 i from ⟨a, b⟩)]
          rfl
      · rw [if_neg a, if_pos rfl, decide_eq_false (show ¬ (σ 21 i = 3 ∧ ¬ v < σ 25 i) from fun z => a z.1)]
        rfl)
    (fun n c I => by
      show f_X9_solvedUpTo_4 N (n + 1) v (nI c) (nI cnt) μ wd = _
      rw [f_X9_solvedUpTo_4, E.mc, if_pos (nI_le (Nat.le_refl _) (by omega))]) 0 rfl N (by omega)
  unfold f_X9_solvedUpTo
  refine Eq.trans key.2 ?_
  rw [key.1]
abbrev uN (cnt : Nat) (σ : Sg) (j : Nat) : Nat := fb_ct (suB σ (σ 25 j)) cnt
abbrev bN (cnt : Nat) (σ : Sg) (j : Nat) : Nat := fb_ct (sbB σ (σ 25 j)) cnt
abbrev QP (cnt : Nat) (σ : Sg) (r j : Nat) : Prop := σ 21 j = 3 ∧ r ≤ uN cnt σ j
abbrev PP (cnt : Nat) (σ : Sg) (r j : Nat) : Prop := σ 21 j = 3 ∧ bN cnt σ j < r ∧ r ≤ uN cnt σ j
/-- the value at the first that fits -/
def fv (P : Nat → Prop) [DecidablePred P] (v : Nat → Int32) : Nat → Nat → Int32
  | 0, _ => -1
  | k + 1, i => if P i then v i else fv P v k (i + 1)
theorem fv_l (g : Nat → Int32 → Option Int32) (P : Nat → Prop) [DecidablePred P] (v : Nat → Int32) (t : Nat) (hs : ∀ n i, i < t → g (n + 1) (nI i) = if P i then some (v i) else g n (nI (i + 1))) (he : ∀ n, g (n + 1) (nI t) = some (-1)) : ∀ k i n, i + k = t → k < n → g n (nI i) = some (fv P v k i)
  | 0, i, n, h, hn => by
    obtain ⟨m, rfl⟩ : ∃ q, n = q + 1 := ⟨n - 1, by omega⟩
    obtain rfl : i = t := by omega
    exact he m
  | k + 1, i, n, h, hn => by
    obtain ⟨m, rfl⟩ : ∃ q, n = q + 1 := ⟨n - 1, by omega⟩
    rw [hs m i (by omega), fv_l g P v t hs he k (i + 1) m (by omega) (by omega)]
    show _ = some (if P i then v i else fv P v k (i + 1))
    by_cases q : P i
    · rw [if_pos q, if_pos q]
    · rw [if_neg q, if_neg q]
theorem fv_s (P : Nat → Prop) [DecidablePred P] (v : Nat → Int32) : ∀ k i, (fv P v k i = -1 ∧ ∀ j, i ≤ j → j < i + k → ¬ P j) ∨ ∃ j, i ≤ j ∧ j < i + k ∧ P j ∧ fv P v k i = v j
  | 0, i => Or.inl ⟨rfl, fun j h1 h2 => by omega⟩
  | k + 1, i => by
    show (((if P i then v i else fv P v k (i + 1)) = -1) ∧ _) ∨ ∃ j, _ ∧ _ ∧ _ ∧ (if P i then v i else fv P v k (i + 1)) = v j
    by_cases q : P i
    · exact Or.inr ⟨i, Nat.le_refl _, by omega, q, if_pos q⟩
    · rw [if_neg q]
      rcases fv_s P v k (i + 1) with ⟨h1, h2⟩ | ⟨j, h1, h2, h3, h4⟩
      · refine Or.inl ⟨h1, fun j h3 h4 => ?_⟩
        by_cases e : j = i
        · subst e
          exact q
        · exact h2 j (by omega) (by omega)
      · exact Or.inr ⟨j, by omega, by omega, h3, h4⟩
/-- clocks within bounds -/
abbrev KB (cnt : Nat) (σ : Sg) : Prop := ∀ j, j < cnt → 0 ≤ (σ 25 j).toInt ∧ (σ 25 j).toInt ≤ 10080
theorem sb_su (K : KB cnt σ) {i : Nat} (hi : i < cnt) : fb_ct (sbB σ (σ 25 i + 1)) cnt = uN cnt σ i := fb_ct_cong fun j hj => by
  have h1 := K i hi
  have h2 := K j hj
  have e : σ 25 j < σ 25 i + 1 ↔ ¬ σ 25 i < σ 25 j := by
    rw [z_lt, z_lt, z_add (by omega) (by omega) (by decide) (by decide), z_1]
    omega
  unfold sbB suB
  exact decide_eq_decide.mpr ⟨fun z => ⟨z.1, e.mp z.2⟩, fun z => ⟨z.1, e.mpr z.2⟩⟩
theorem sc_v (hc : σ 15 0 = nI cnt) (h60 : cnt ≤ 60) (K : KB cnt σ) {r : Nat} (hr : r ≤ 100) {N : Nat} (hN : 100 < N) : f_X7_solvedClock N (nI r) σ = some (fv (PP cnt σ r) (σ 25) cnt 0) :=
  fv_l (fun n i => f_X7_solvedClock_2 N n (nI r) i σ) (PP cnt σ r) (σ 25) cnt
    (fun n i hi => by
      have b1 : bN cnt σ i ≤ cnt := fb_ct_le _ cnt
      have b2 : uN cnt σ i ≤ cnt := fb_ct_le _ cnt
      show f_X7_solvedClock_2 N (n + 1) (nI r) (nI i) σ = _
      rw [f_X7_solvedClock_2, hc, if_neg (nI_ge hi (by omega)), if_pos (ib_nI (by omega) (by decide)), ix_nI (by omega), nI_1, sb_v hc h60 _ hN, Option.bind_some, sb_v hc h60 _ hN, Option.bind_some, sb_su K hi]
      by_cases a : σ 21 i = 3
      · rw [if_pos a]
        by_cases b : bN cnt σ i < r
        · rw [if_neg (nI_ge' b (by omega))]
          by_cases c : r ≤ uN cnt σ i
          · rw [if_neg (Int32.not_lt.mpr (nI_le' c (by omega))), if_pos ⟨a, b, c⟩]
          · rw [if_pos (Int32.not_le.mp (nI_ge' (by omega) (by omega))), if_neg (fun z => c z.2.2)]
        · rw [if_pos (nI_le' (a := r) (b := bN cnt σ i) (Nat.le_of_not_lt b) (by omega)), if_neg (fun z => b z.2.1)]
      · rw [if_neg a, if_neg (fun z => a z.1)])
    (fun n => by
      show f_X7_solvedClock_2 N (n + 1) (nI r) (nI cnt) σ = _
      rw [f_X7_solvedClock_2, hc, if_pos (nI_le (Nat.le_refl _) (by omega))]) cnt 0 N (by omega) (by omega)
/-- the least of the clocks that reach the rank -/
def mF (cnt r : Nat) (σ : Sg) (i : Nat) (a : Int32) : Int32 := if QP cnt σ r i then (if a = -1 then σ 25 i else if σ 25 i < a then σ 25 i else a) else a
abbrev mI (cnt r : Nat) (σ : Sg) (i : Nat) (a : Int32) : Prop := (a = -1 ∧ ∀ j, j < i → ¬ QP cnt σ r j) ∨ ∃ j, j < i ∧ j < cnt ∧ QP cnt σ r j ∧ a = σ 25 j ∧ ∀ l, l < i → QP cnt σ r l → a.toInt ≤ (σ 25 l).toInt
theorem mI_s (K : KB cnt σ) {r i : Nat} {a : Int32} (hi : i < cnt) (I : mI cnt r σ i a) : mI cnt r σ (i + 1) (mF cnt r σ i a) := by
  unfold mF
  by_cases q : QP cnt σ r i
  · rw [if_pos q]
    rcases I with ⟨h1, h2⟩ | ⟨j, h1, h2, h3, h4, h5⟩
    · rw [if_pos h1]
      refine Or.inr ⟨i, by omega, hi, q, rfl, fun l hl hq => ?_⟩
      by_cases e : l = i
      · subst e
        exact Int.le_refl _
      · exact absurd hq (h2 l (by omega))
    · rw [if_neg (fun z => by
        have := K j h2
        rw [← h4, z, z_m1] at this
        omega)]
      by_cases c : σ 25 i < a
      · rw [if_pos c]
        refine Or.inr ⟨i, by omega, hi, q, rfl, fun l hl hq => ?_⟩
        by_cases e : l = i
        · subst e
          exact Int.le_refl _
        · have := h5 l (by omega) hq
          have := z_lt.mp c
          omega
      · rw [if_neg c]
        refine Or.inr ⟨j, by omega, h2, h3, h4, fun l hl hq => ?_⟩
        by_cases e : l = i
        · subst e
          exact z_le.mp (Int32.not_lt.mp c)
        · exact h5 l (by omega) hq
  · rw [if_neg q]
    rcases I with ⟨h1, h2⟩ | ⟨j, h1, h2, h3, h4, h5⟩
    · refine Or.inl ⟨h1, fun j hj => ?_⟩
      by_cases e : j = i
      · subst e
        exact q
      · exact h2 j (by omega)
    · refine Or.inr ⟨j, by omega, h2, h3, h4, fun l hl hq => ?_⟩
      by_cases e : l = i
      · subst e
        exact absurd hq q
      · exact h5 l (by omega) hq
theorem msc_v (E : Eq2 cnt kc σ μ) (K : KB cnt σ) {r : Nat} (hr : r ≤ 100) (wd : Int64) {N : Nat} (hN : 100 < N) : ∃ a, f_X9_resolvePercentile_67 N N (nI r) (-1) 0 μ wd = some a ∧ mI cnt r σ cnt a := by
  have h60 := E.1
  have key := lift_itr (α := Int32) (fun n i a => f_X9_resolvePercentile_67 N n (nI r) a i μ wd) (mF cnt r σ) (fun i a => mI cnt r σ i a) some cnt
    (fun n i a hi I => by
      refine ⟨mI_s K hi I, ?_⟩
      have b2 : uN cnt σ i ≤ cnt := fb_ct_le _ cnt
      show f_X9_resolvePercentile_67 N (n + 1) (nI r) a (nI i) μ wd = f_X9_resolvePercentile_67 N n (nI r) (mF cnt r σ i a) (nI (i + 1)) μ wd
      rw [f_X9_resolvePercentile_67, E.mc, if_neg (nI_ge hi (by omega)), tg_8 E hi, Option.bind_some, is_v E hi, Option.bind_some, su_v E _ wd hN, Option.bind_some, nI_1]
      unfold mF
      by_cases q : σ 21 i = 3
      · rw [if_pos q, if_neg (by decide)]
        by_cases c : r ≤ uN cnt σ i
        · rw [if_neg (Int32.not_lt.mpr (nI_le' c (by omega))), if_pos (c := QP cnt σ r i) ⟨q, c⟩]
          by_cases d : a = -1
          · rw [if_pos d, if_pos d]
          · rw [if_neg d, if_neg d]
        · rw [if_pos (Int32.not_le.mp (nI_ge' (a := uN cnt σ i) (b := r) (Nat.lt_of_not_le c) (by omega))), if_neg (c := QP cnt σ r i) (fun z => c z.2)]
      · rw [if_neg q, if_pos rfl, if_neg (c := QP cnt σ r i) (fun z => q z.1)])
    (fun n a I => by
      show f_X9_resolvePercentile_67 N (n + 1) (nI r) a (nI cnt) μ wd = _
      rw [f_X9_resolvePercentile_67, E.mc, if_pos (nI_le (Nat.le_refl _) (by omega))]) (-1) (Or.inl ⟨rfl, fun j hj => absurd hj (Nat.not_lt_zero _)⟩) N (by omega)
  exact ⟨_, key.2, key.1⟩
/-- below a rank that is reached there's one that reaches it -/
theorem rk_ex (K : KB cnt σ) {r : Nat} (h1 : 1 ≤ r) : ∀ m : Nat, r ≤ fb_ct (fun j => decide (σ 21 j = 3 ∧ (σ 25 j).toInt < m)) cnt → ∃ j, j < cnt ∧ QP cnt σ r j ∧ (σ 25 j).toInt < m
  | 0, h => by
    obtain ⟨j, h2, h3⟩ := ct_w (Nat.le_trans h1 h)
    have := of_decide_eq_true h3
    have := K j h2
    omega
  | m + 1, h => by
    rcases Nat.lt_or_ge (fb_ct (fun j => decide (σ 21 j = 3 ∧ (σ 25 j).toInt < (m : Nat))) cnt) r with q | q
    · by_cases e : ∃ j, j < cnt ∧ σ 21 j = 3 ∧ (σ 25 j).toInt = m
      · obtain ⟨j, h2, h3, h4⟩ := e
        refine ⟨j, h2, ⟨h3, Nat.le_trans h (Nat.le_of_eq (fb_ct_cong fun l hl => ?_))⟩, by omega⟩
        unfold suB
        refine decide_eq_decide.mpr ⟨fun z => ⟨z.1, fun y => ?_⟩, fun z => ⟨z.1, ?_⟩⟩
        · have := z_lt.mp y
          have := z.2
          omega
        · have := z_le.mp (Int32.not_lt.mp z.2)
          omega
      · refine absurd h (Nat.not_le_of_lt (Nat.lt_of_le_of_lt (Nat.le_of_eq (fb_ct_cong fun l hl => ?_)) q))
        refine decide_eq_decide.mpr ⟨fun z => ⟨z.1, ?_⟩, fun z => ⟨z.1, ?_⟩⟩
        · have := z.2
          have : ¬ (σ 25 l).toInt = m := fun y => e ⟨l, hl, z.1, y⟩
          omega
        · have := z.2
          omega
    · obtain ⟨j, h2, h3, h4⟩ := rk_ex K h1 m q
      exact ⟨j, h2, h3, by omega⟩
theorem fv_mI (K : KB cnt σ) {r : Nat} {a : Int32} (h1 : ∀ j, j < cnt → σ 21 j = 3 → 1 ≤ r) (I : mI cnt r σ cnt a) : fv (PP cnt σ r) (σ 25) cnt 0 = a := by
  rcases fv_s (PP cnt σ r) (σ 25) cnt 0 with ⟨e1, e2⟩ | ⟨j, -, e2, e3, e4⟩
  · rw [e1]
    rcases I with ⟨i1, -⟩ | ⟨j, -, i2, i3, i4, i5⟩
    · exact i1.symm
    · exfalso
      have np := e2 j (Nat.zero_le _) (by omega)
      have hb : r ≤ bN cnt σ j := Nat.le_of_not_lt fun z => np ⟨i3.1, z, i3.2⟩
      have kj := K j i2
      obtain ⟨l, l1, l2, l3⟩ := rk_ex K (h1 j i2 i3.1) (σ 25 j).toInt.toNat (Nat.le_trans hb (Nat.le_of_eq (fb_ct_cong fun l hl => by
        unfold sbB
        refine decide_eq_decide.mpr ⟨fun z => ⟨z.1, ?_⟩, fun z => ⟨z.1, z_lt.mpr ?_⟩⟩
        · have := z_lt.mp z.2
          omega
        · have := z.2
          omega)))
      have := i5 l l1 l2
      rw [i4] at this
      omega
  · rw [e4]
    rcases I with ⟨-, i2⟩ | ⟨l, -, i2, i3, i4, i5⟩
    · exact absurd ⟨e3.1, e3.2.2⟩ (i2 j (by omega))
    · have h2 := i5 j (by omega) ⟨e3.1, e3.2.2⟩
      rw [i4] at h2 ⊢
      rcases Int.lt_or_le (σ 25 l).toInt (σ 25 j).toInt with q | q
      · exfalso
        have : uN cnt σ l ≤ bN cnt σ j := fb_ct_sub fun x hx hp => by
          unfold suB at hp
          unfold sbB
          have hp := of_decide_eq_true hp
          refine decide_eq_true ⟨hp.1, z_lt.mpr ?_⟩
          have := z_le.mp (Int32.not_lt.mp hp.2)
          omega
        have := e3.2.1
        have := i3.2
        omega
      · exact z_eq.mpr (by omega)
theorem q_resolvePercentile (V : LV cnt kc T hl σ μ) (x : Int32) (wd : Int64) {N : Nat} (hN : 100 < N) : QR (f_X8_resolvePercentile N x σ) (f_X9_resolvePercentile N x μ wd) := by
  have E := V.E
  have h60 := E.1
  have hT := V.1.2.2.1.1
  have K : KB cnt σ := fun j hj => by
    have := (V.1.2.2.1.2.2.2.2.2.2.2 j hj).1.2.2.2
    omega
  unfold f_X8_resolvePercentile f_X9_resolvePercentile
  rw [wi_eq]
  rcases wi x 1 100 with w | w
  · obtain ⟨y, y1, rfl⟩ := nI_of0' (Int32.le_trans (by decide) w.2.1) (n := 100) w.2.2 (by omega)
    have y0 : 1 ≤ y := by
      have := z_le.mp w.2.1
      rw [z_nI (by omega), z_1] at this
      omega
    have c60 := fb_ct_le (sB σ) cnt
    have pm : y * fb_ct (sB σ) cnt ≤ 6000 := Nat.le_trans (Nat.mul_le_mul y1 (Nat.le_trans c60 h60)) (by decide)
    have rk : (nI y * nI (fb_ct (sB σ) cnt) + 99) / 100 = nI ((y * fb_ct (sB σ) cnt + 99) / 100) := by
      rw [pk_mul, show (99 : Int32) = nI 99 from rfl, nI_add]
      exact pk_div (d := 100) (by omega) (by decide) (by decide)
    have hr : (y * fb_ct (sB σ) cnt + 99) / 100 ≤ 100 := by omega
    have key := lift_itr (α := Nat) (fun n i c => f_X9_resolvePercentile_17 N n (nI y) (nI c) i μ wd) (fun i c => c + (if sB σ i then 1 else 0)) (fun i c => c = fb_ct (sB σ) i) (fun c => f_X9_resolvePercentile_67 N N (((nI y * nI c) + 99) / 100) (-1) 0 μ wd) cnt
      (fun n i c hi I => by
        refine ⟨by rw [fb_ct_succ, I], ?_⟩
        have c0 : nI c + 0 = nI c := nI_add c 0
        show f_X9_resolvePercentile_17 N (n + 1) (nI y) (nI c) (nI i) μ wd = f_X9_resolvePercentile_17 N n (nI y) (nI (c + _)) (nI (i + 1)) μ wd
        rw [f_X9_resolvePercentile_17, E.mc, if_neg (nI_ge hi (by omega)), is_v E hi, Option.bind_some, nI_1, nI_1, c0]
        unfold sB
        by_cases a : σ 21 i = 3
        · rw [if_pos a, if_neg (by decide), decide_eq_true a]
          rfl
        · rw [if_neg a, if_pos rfl, decide_eq_false a]
          rfl)
      (fun n c I => by
        show f_X9_resolvePercentile_17 N (n + 1) (nI y) (nI c) (nI cnt) μ wd = _
        rw [f_X9_resolvePercentile_17, E.mc, if_pos (nI_le (Nat.le_refl _) (by omega))]) 0 rfl N (by omega)
    have k2 : f_X9_resolvePercentile_17 N N (nI y) 0 0 μ wd = f_X9_resolvePercentile_67 N N (nI ((y * fb_ct (sB σ) cnt + 99) / 100)) (-1) 0 μ wd := by
      refine Eq.trans key.2 ?_
      rw [key.1, rk]
    obtain ⟨a, a1, a2⟩ := msc_v E K hr wd hN
    rw [w.1, Option.bind_some, Option.bind_some, if_neg (c := (1 : Int32) = 0) (by decide), if_neg (c := (1 : Int32) = 0) (by decide), k2, a1, cs_v E.c h60 hN, Option.bind_some, rk, bind_sm, sc_v E.c h60 K hr hN]
    refine ⟨a, congrArg some (fv_mI K (fun j hj h3 => ?_) a2), rfl⟩
    have : 1 ≤ fb_ct (sB σ) cnt := ct_p hj (decide_eq_true h3)
    have : 1 * 1 ≤ y * fb_ct (sB σ) cnt := Nat.mul_le_mul y0 this
    omega
  · exact ⟨-4, by rw [w.1]; rfl, by rw [w.1]; rfl⟩
end Gl
