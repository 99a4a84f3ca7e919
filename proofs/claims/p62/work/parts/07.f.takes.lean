/-- two loops side by side, each with its own state -/
theorem sim2 {α β γ δ : Type} (g : Nat → Int32 → α → Option β) (h : Nat → Int32 → γ → Option δ) (R : Nat → α → γ → Prop) (e : α → Option β) (e' : γ → Option δ) (cnt : Nat)
    (hs : ∀ n m i a c, i < cnt → R i a c → ∃ a' c', R (i + 1) a' c' ∧ g (n + 1) (nI i) a = g n (nI (i + 1)) a' ∧ h (m + 1) (nI i) c = h m (nI (i + 1)) c')
    (he : ∀ n m a c, R cnt a c → g (n + 1) (nI cnt) a = e a ∧ h (m + 1) (nI cnt) c = e' c) (a : α) (c : γ) (h0 : R 0 a c) : ∀ n m, cnt < n → cnt < m → ∃ a' c', R cnt a' c' ∧ g n 0 a = e a' ∧ h m 0 c = e' c' := by
  have key : ∀ k i a c, i + k = cnt → R i a c → ∀ n m, k < n → k < m → ∃ a' c', R cnt a' c' ∧ g n (nI i) a = e a' ∧ h m (nI i) c = e' c' := by
    intro k
    induction k with
    | zero =>
      intro i a c hi hR n m hn hm
      obtain rfl : i = cnt := by omega
      obtain ⟨n', rfl⟩ : ∃ q, n = q + 1 := ⟨n - 1, by omega⟩
      obtain ⟨m', rfl⟩ : ∃ q, m = q + 1 := ⟨m - 1, by omega⟩
      obtain ⟨h1, h2⟩ := he n' m' a c hR
      exact ⟨a, c, hR, h1, h2⟩
    | succ k ih =>
      intro i a c hi hR n m hn hm
      obtain ⟨n', rfl⟩ : ∃ q, n = q + 1 := ⟨n - 1, by omega⟩
      obtain ⟨m', rfl⟩ : ∃ q, m = q + 1 := ⟨m - 1, by omega⟩
      obtain ⟨a1, c1, h1, h2, h3⟩ := hs n' m' i a c (by omega) hR
      obtain ⟨a2, c2, h4, h5, h6⟩ := ih (i + 1) a1 c1 (by omega) h1 n' m' (by omega) (by omega)
      exact ⟨a2, c2, h4, h2.trans h5, h3.trans h6⟩
  intro n m hn hm
  exact key cnt 0 a c (by omega) h0 n m hn hm
section Ff2
variable {L cnt kc : Nat} {σ μ : Sg}
theorem RI.tz (h : RI cnt σ) {t : Nat} (hq : σ 21 t = 0) (L : Nat) : RI cnt (tk L t σ) := by
  have e26 : tk L t σ 26 = σ 26 := tk_ex L t σ 26 (by decide)
  intro j hj
  unfold ST
  rw [e26, tk_21]
  by_cases c : j = t
  · subst c
    rw [if_pos rfl]
    exact ⟨⟨1, by decide, rfl⟩, Or.inl ⟨h.alone hj (Or.inl hq), by decide⟩⟩
  · rw [if_neg c]
    obtain ⟨g1, g2⟩ := h j hj
    refine ⟨g1, ?_⟩
    rcases g2 with g | ⟨r, r1, r2, r3, r4⟩
    · exact Or.inl g
    · refine Or.inr ⟨r, r1, r2, r3, ?_⟩
      rw [tk_21]
      by_cases hr : r = t
      · subst hr
        rw [if_pos rfl]
        rcases r4 with z | z
        · exact Or.inl ⟨z.1, Or.inr (Or.inl rfl)⟩
        · exfalso
          rw [z.2] at hq
          revert hq
          decide
      · rw [if_neg hr]
        exact r4
def wB (σ : Sg) (l : Nat) (j : Nat) : Bool := decide (σ 21 j = 1 ∧ σ 20 j = nI l)
/-- a level's agents are busy, or nobody waits there -/
def DN (cnt : Nat) (σ : Sg) (l : Nat) : Prop := σ 30 l ≤ nI (fb_ct (wB σ l) cnt) ∨ ∀ t, t < cnt → ¬ qP (nI l) σ t
theorem sub_1 {x : Int32} {b : Nat} (hb : b < 10000) (hx : 0 ≤ x.toInt ∧ x.toInt ≤ 9) : x - nI b + -1 = x - nI (b + 1) := by
  have zb := z_nI (n := b) (by omega)
  have zb1 := z_nI (n := b + 1) (by omega)
  have h1 : (x - nI b).toInt = x.toInt - b := by rw [z_sub (by omega) (by omega) (by omega) (by omega), zb]
  have h2 : (x - nI (b + 1)).toInt = x.toInt - ((b + 1 : Nat) : Int) := by rw [z_sub (by omega) (by omega) (by omega) (by omega), zb1]
  rw [z_eq, z_add (by omega) (by omega) (by decide) (by decide), h1, h2, z_m1]
  omega
theorem sub_le {x : Int32} {b : Nat} (hb : b < 10000) (hx : 0 ≤ x.toInt ∧ x.toInt ≤ 9) : x - nI b ≤ 0 ↔ x ≤ nI b := by
  have zb := z_nI (n := b) (by omega)
  rw [z_le, z_le, z_sub (by omega) (by omega) (by omega) (by omega), zb, z_0]
  omega
theorem tk_wB {l t : Nat} (ht : t < cnt) (hq : qP (nI l) σ t) (L : Nat) : fb_ct (wB (tk L t σ) l) cnt = fb_ct (wB σ l) cnt + 1 := by
  have e20 : tk L t σ 20 = σ 20 := tk_ex L t σ 20 (by decide)
  have h1 : fb_ct (wB (tk L t σ) l) cnt = fb_ct (fun k => if k = t then true else wB σ l k) cnt := fb_ct_cong fun j hj => by
    unfold wB
    rw [tk_21, e20]
    by_cases c : j = t
    · subst c
      rw [if_pos rfl, if_pos rfl]
      exact decide_eq_true ⟨rfl, hq.2⟩
    · rw [if_neg c, if_neg c]
  have h2 := fb_ct_upd (wB σ l) true ht
  have h3 : wB σ l t = false := decide_eq_false (fun z => by rw [hq.1] at z; exact absurd z.1 (by decide))
  rw [h3] at h2
  rw [h1]
  simpa using h2
theorem tk_sB {t : Nat} (hq : σ 21 t = 0) (L : Nat) : sB (tk L t σ) = sB σ := by
  funext j
  unfold sB
  rw [tk_21]
  by_cases c : j = t
  · subst c
    rw [if_pos rfl, hq]
    rfl
  · rw [if_neg c]
/-- who is solved stays so -/
def SK (cnt : Nat) (σ σ' : Sg) : Prop := ∀ j, j < cnt → σ 21 j = 3 → σ' 21 j = 3 ∧ σ' 29 j = σ 29 j
theorem SK.rf (cnt : Nat) (σ : Sg) : SK cnt σ σ := fun _ _ q => ⟨q, rfl⟩
theorem SK.tr {a b c : Sg} (h : SK cnt a b) (h2 : SK cnt b c) : SK cnt a c := fun j hj q => by
  obtain ⟨h3, h4⟩ := h j hj q
  obtain ⟨h5, h6⟩ := h2 j hj h3
  exact ⟨h5, h6.trans h4⟩
theorem SK.ex {σ' : Sg} {R : List Nat} (hx : Ex R σ σ') (hR : 21 ∉ R ∧ 29 ∉ R) : SK cnt σ σ' := fun j _ q => by
  rw [hx 21 hR.1, hx 29 hR.2]
  exact ⟨q, rfl⟩
theorem SK.tz {t : Nat} (h : σ 21 t = 0) (L : Nat) : SK cnt σ (tk L t σ) := fun j _ q => by
  rw [tk_21, tk_ex L t σ 29 (by decide), if_neg (fun z => by
    subst z
    rw [h] at q
    exact absurd q (by decide))]
  exact ⟨q, rfl⟩
/-- what the taking keeps -/
def TR (L cnt kc : Nat) (σ μ σ' μ' : Sg) : Prop := SB L cnt kc μ σ' μ' ∧ CL L cnt kc σ' ∧ Ex LT σ σ' ∧ RI cnt σ' ∧ fb_ct (sB σ') cnt = fb_ct (sB σ) cnt ∧ SK cnt σ σ'
theorem tin {l : Nat} (hl : l < 4) (wd : Int64) {N : Nat} (hN : 100 < N) (k2 : Int32 → Sg → Option Sg) : ∀ (k b n n' : Nat) (σ μ : Sg), Eq2 cnt kc σ μ → LogR L σ μ → CL L cnt kc σ → RI cnt σ → (0 ≤ (σ 30 l).toInt ∧ (σ 30 l).toInt ≤ 9) → (σ 30 l).toInt - b ≤ k → b = fb_ct (wB σ l) cnt → k < n → k < n' →
    ∃ σ' μ', f_X1_takeTickets_17 N L k2 n (nI l) (nI b) σ = k2 (nI (l + 1)) σ' ∧
      (if σ 30 l - nI b ≤ 0 then f_X9_takeTickets_30 N n' (nI l) (σ 30 l - nI b) (-1) μ wd else (f_X9_mostUrgent N (nI l) μ wd).bind (fun p => f_X9_takeTickets_30 N n' (nI l) (σ 30 l - nI b) p μ wd)) = some μ' ∧
      TR L cnt kc σ μ σ' μ' ∧ DN cnt σ' l ∧ (∀ j, σ 20 j ≠ nI l → σ' 21 j = σ 21 j) := by
  intro k
  induction k with
  | zero =>
    intro b n n' σ μ E G C I ha hk hb hn hn'
    have h60 := C.1.1
    have hb60 : b ≤ 60 := by have := fb_ct_le (wB σ l) cnt; omega
    obtain ⟨m, rfl⟩ : ∃ q, n = q + 1 := ⟨n - 1, by omega⟩
    obtain ⟨m', rfl⟩ : ∃ q, n' = q + 1 := ⟨n' - 1, by omega⟩
    have hle : σ 30 l ≤ nI b := by rw [z_le, z_nI (by omega)]; omega
    refine ⟨σ, μ, ?_, ?_, ⟨SB.rf E G, C, Ex.rf _ _, I, rfl, SK.rf _ _⟩, Or.inl (by rw [← hb]; exact hle), fun _ _ => rfl⟩
    · rw [f_X1_takeTickets_17, if_pos (ib_nI hl (by decide)), ix_nI (by omega), if_pos hle, nI_1]
    · rw [if_pos ((sub_le (by omega) ha).mpr hle), f_X9_takeTickets_30, if_pos rfl]
  | succ k ih =>
    intro b n n' σ μ E G C I ha hk hb hn hn'
    have h60 := C.1.1
    have hb60 : b ≤ 60 := by have := fb_ct_le (wB σ l) cnt; omega
    obtain ⟨m, rfl⟩ : ∃ q, n = q + 1 := ⟨n - 1, by omega⟩
    obtain ⟨m', rfl⟩ : ∃ q, n' = q + 1 := ⟨n' - 1, by omega⟩
    by_cases hle : σ 30 l ≤ nI b
    · refine ⟨σ, μ, ?_, ?_, ⟨SB.rf E G, C, Ex.rf _ _, I, rfl, SK.rf _ _⟩, Or.inl (by rw [← hb]; exact hle), fun _ _ => rfl⟩
      · rw [f_X1_takeTickets_17, if_pos (ib_nI hl (by decide)), ix_nI (by omega), if_pos hle, nI_1]
      · rw [if_pos ((sub_le (by omega) ha).mpr hle), f_X9_takeTickets_30, if_pos rfl]
    · obtain ⟨q1, q2⟩ := fq_v C.1 (nI l) hN
      have q3 := mfq_v E C.1 (nI l) wd hN
      rw [f_X1_takeTickets_17, if_pos (ib_nI hl (by decide)), ix_nI (by omega), if_neg hle, if_neg (fun z => hle ((sub_le (by omega) ha).mp z)), q2, Option.bind_some, q3, Option.bind_some]
      rcases q1 with ⟨v, none⟩ | ⟨t, t1, t2, v, tq⟩
      · rw [v, if_pos rfl, nI_1]
        refine ⟨σ, μ, rfl, ?_, ⟨SB.rf E G, C, Ex.rf _ _, I, rfl, SK.rf _ _⟩, Or.inr none, fun _ _ => rfl⟩
        rw [f_X9_takeTickets_30, if_pos rfl]
      · obtain ⟨c1, c2⟩ := tk_lift C t2
        obtain ⟨μ1, S1, s2⟩ := tk_sim (L := L) E G t2 (nI l) (σ 30 l - nI b) tq.2 wd N m'
        have x1 := tk_ex L t σ
        have e30 : tk L t σ 30 = σ 30 := x1 30 (by decide)
        have e20 : tk L t σ 20 = σ 20 := x1 20 (by decide)
        obtain ⟨σ', μ', r1, r2, ⟨r3, r4, r5, r6, r7, r10⟩, r8, r9⟩ := ih (b + 1) m m' (tk L t σ) μ1 S1.1 S1.2.1 c1 (I.tz tq.1 L) (by rw [e30]; exact ha) (by rw [e30]; omega) (by rw [tk_wB t2 tq, hb]) (by omega) (by omega)
        rw [v, if_neg (nI_m1 (by omega)), c2, Option.bind_some, nI_1, s2, sub_1 (by omega) ha]
        rw [e30] at r2
        refine ⟨σ', μ', r1, r2, ⟨S1.tr r3, r4, x1.tr r5, r6, by rw [r7, tk_sB tq.1], (SK.tz tq.1 L).tr r10⟩, r8, fun j hj => ?_⟩
        rw [r9 j (by rw [e20]; exact hj), tk_21, if_neg (fun z => by
          subst z
          exact hj tq.2)]
theorem DN.keep {σ' : Sg} {l l' : Nat} (h : DN cnt σ l') (hl : l < 4) (hl' : l' < 4) (hne : l ≠ l') (hx : Ex LT σ σ') (hj : ∀ j, σ 20 j ≠ nI l → σ' 21 j = σ 21 j) : DN cnt σ' l' := by
  have e20 : σ' 20 = σ 20 := hx 20 (by decide)
  have e30 : σ' 30 = σ 30 := hx 30 (by decide)
  have ne : nI l' ≠ nI l := fun q => hne ((nI_eq (by omega) (by omega)).mp q).symm
  have e : ∀ j, σ 20 j = nI l' → σ' 21 j = σ 21 j := fun j h => hj j (by rw [h]; exact ne)
  unfold DN qP
  rw [e30, e20]
  have ew : fb_ct (wB σ' l') cnt = fb_ct (wB σ l') cnt := fb_ct_cong fun j _ => by
    unfold wB
    rw [e20]
    by_cases q : σ 20 j = nI l'
    · rw [e j q]
    · rw [decide_eq_false (fun z : σ' 21 j = 1 ∧ σ 20 j = nI l' => q z.2), decide_eq_false (fun z : σ 21 j = 1 ∧ σ 20 j = nI l' => q z.2)]
  rw [ew]
  rcases h with h | h
  · exact Or.inl h
  · exact Or.inr fun t ht z => h t ht ⟨by rw [← e t z.2]; exact z.1, z.2⟩
def NT (cnt : Nat) (σ : Sg) : Prop := ∀ l, l < 4 → DN cnt σ l
/-- the taking, on both sides -/
theorem take_sim (E : Eq2 cnt kc σ μ) (G : LogR L σ μ) (C : CL L cnt kc σ) (I : RI cnt σ) (A : AI σ) (wd : Int64) {o : Int32} (ho : o ≠ 0) {N : Nat} (hN : 100 < N) :
    ∃ σ' μ', f_X1_takeTickets N L σ = some σ' ∧ f_X9_passMinute_13 N N o 0 μ wd = f_X9_passMinute_35 N N o 0 μ' wd ∧ TR L cnt kc σ μ σ' μ' ∧ NT cnt σ' := by
  obtain ⟨σ', μ', ⟨k1, k2⟩, k3, k4⟩ := sim2 (α := Sg) (γ := Sg) (fun n x τ => f_X1_takeTickets_2 N L n x τ) (fun n x c => f_X9_passMinute_13 N n o x c wd) (fun i τ c => TR L cnt kc σ μ τ c ∧ ∀ l, l < i → DN cnt τ l) some (fun c => f_X9_passMinute_35 N N o 0 c wd) 4
    (fun n m i τ c hi R => by
      obtain ⟨⟨R1, R2, R3, R4, R5, R7⟩, R6⟩ := R
      have e30 : τ 30 = σ 30 := R3 30 (by decide)
      have ha : 0 ≤ (τ 30 i).toInt ∧ (τ 30 i).toInt ≤ 9 := by rw [e30]; exact A i hi
      obtain ⟨σ', μ', r1, r2, ⟨r3, r4, r5, r6, r7, r10⟩, r8, r9⟩ := tin hi wd hN (fun x1 σ => f_X1_takeTickets_2 N L n x1 σ) 9 (fb_ct (wB τ i) cnt) N N τ c R1.1 R1.2.1 R2 R4 ha (by omega) rfl (by omega) (by omega)
      refine ⟨σ', μ', ⟨⟨R1.tr r3, r4, R3.tr r5, r6, r7.trans R5, R7.tr r10⟩, fun l' hl' => ?_⟩, ?_, ?_⟩
      · by_cases q : l' = i
        · subst q
          exact r8
        · exact (R6 l' (by omega)).keep hi (by omega) (fun z => q z.symm) r5 r9
      · show f_X1_takeTickets_2 N L (n + 1) (nI i) τ = _
        rw [f_X1_takeTickets_2, if_neg (show ¬ (4 : Int32) ≤ nI i from nI_ge (b := 4) hi (by omega)), ca_v R2.1.2.2.1 R2.1.1 (nI i) 1 hN, Option.bind_some]
        exact r1
      · show f_X9_passMinute_13 N (m + 1) o (nI i) c wd = _
        have hag : c 1 (ix (nI (15 + i))) = τ 30 i := (g_agents hi c).trans (R1.1.e 30 i hi)
        rw [f_X9_passMinute_13, if_neg (show ¬ (4 : Int32) ≤ nI i from nI_ge (b := 4) hi (by omega)), if_neg ho]
        unfold f_X9_takeTickets f_X9_busy
        rw [a_at, if_pos (ib_nI (by omega) (by omega)), mca_v R1.1 (nI i) 1 wd hN, Option.bind_some, Option.bind_some, hag]
        have r2' : (if τ 30 i - nI (fb_ct (fun t => decide (τ 21 t = 1 ∧ τ 20 t = nI i)) cnt) ≤ 0 then f_X9_takeTickets_30 N N (nI i) (τ 30 i - nI (fb_ct (fun t => decide (τ 21 t = 1 ∧ τ 20 t = nI i)) cnt)) (-1) c wd else (f_X9_mostUrgent N (nI i) c wd).bind (fun p => f_X9_takeTickets_30 N N (nI i) (τ 30 i - nI (fb_ct (fun t => decide (τ 21 t = 1 ∧ τ 20 t = nI i)) cnt)) p c wd)) = some μ' := r2
        rw [r2', Option.bind_some, nI_1])
    (fun n m τ c R => ⟨by
      show f_X1_takeTickets_2 N L (n + 1) (nI 4) τ = _
      rw [f_X1_takeTickets_2, if_pos (show (4 : Int32) ≤ nI 4 from nI_le (a := 4) (b := 4) (Nat.le_refl _) (by omega))], by
      show f_X9_passMinute_13 N (m + 1) o (nI 4) c wd = _
      rw [f_X9_passMinute_13, if_pos (show (4 : Int32) ≤ nI 4 from nI_le (a := 4) (b := 4) (Nat.le_refl _) (by omega))]⟩)
    σ μ ⟨⟨SB.rf E G, C, Ex.rf _ _, I, rfl, SK.rf _ _⟩, fun l hl => absurd hl (Nat.not_lt_zero _)⟩ N N (by omega) (by omega)
  exact ⟨σ', μ', k3, k4, k1, k2⟩
/-- where nobody can be taken nothing is -/
theorem take_fix (C : CL L cnt kc σ) (h : NT cnt σ) {N : Nat} (hN : 100 < N) : f_X1_takeTickets N L σ = some σ := by
  have h60 := C.1.1
  obtain ⟨-, k⟩ := lift_itr (α := Sg) (fun n x τ => f_X1_takeTickets_2 N L n x τ) (fun _ τ => τ) (fun _ τ => τ = σ) some 4
    (fun n i τ hi e => by
      subst e
      refine ⟨rfl, ?_⟩
      show f_X1_takeTickets_2 N L (n + 1) (nI i) τ = f_X1_takeTickets_2 N L n (nI (i + 1)) τ
      have hw : fb_ct (wB τ i) cnt ≤ cnt := fb_ct_le _ _
      obtain ⟨m, e⟩ : ∃ q, N = q + 1 := ⟨N - 1, by omega⟩
      have h17 : ∀ m, f_X1_takeTickets_17 N L (fun x1 σ => f_X1_takeTickets_2 N L n x1 σ) (m + 1) (nI i) (nI (fb_ct (wB τ i) cnt)) τ = f_X1_takeTickets_2 N L n (nI (i + 1)) τ := fun m => by
        rw [f_X1_takeTickets_17, if_pos (ib_nI hi (by decide)), ix_nI (by omega), nI_1]
        by_cases hle : τ 30 i ≤ nI (fb_ct (wB τ i) cnt)
        · rw [if_pos hle]
        · obtain ⟨q1, q2⟩ := fq_v C.1 (nI i) hN
          have none := (h i hi).resolve_left hle
          rw [if_neg hle, q2, Option.bind_some]
          rcases q1 with ⟨v, -⟩ | ⟨t, t1, t2, v, tq⟩
          · rw [v, if_pos rfl]
          · exact absurd tq (none t t2)
      rw [f_X1_takeTickets_2, if_neg (show ¬ (4 : Int32) ≤ nI i from nI_ge (b := 4) hi (by omega)), ca_v C.1.2.2.1 C.1.1 (nI i) 1 hN, Option.bind_some]
      have := h17 m
      rw [← e] at this
      exact this)
    (fun n τ _ => by
      show f_X1_takeTickets_2 N L (n + 1) (nI 4) τ = _
      rw [f_X1_takeTickets_2, if_pos (show (4 : Int32) ≤ nI 4 from nI_le (a := 4) (b := 4) (Nat.le_refl _) (by omega))]) σ rfl N (by omega)
  have e : itr (fun _ (τ : Sg) => τ) 4 σ = σ := rfl
  rw [e] at k
  exact k
end Ff2
