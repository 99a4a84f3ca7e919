section Fc
variable {L cnt kc : Nat} {σ μ : Sg}
/-! what solving and climbing make of a ticket's cells -/
theorem mk1_at (L t : Nat) (a : Int32) (σ : Sg) {k : Nat} (hk : k ∉ LG) (j : Nat) : mk1 L t a σ k j = if j = t then (if k = 21 then 3 else if k = 29 then a else σ k j) else σ k j := by
  rw [mk1_21 _ _ _ _ _ _ hk, up_ite, up_ite]
  by_cases hj : j = t
  · rw [if_pos hj]
    by_cases h21 : k = 21
    · subst h21
      rw [if_neg (by omega), if_pos ⟨rfl, hj⟩, if_pos rfl]
    · rw [if_neg h21]
      by_cases h29 : k = 29
      · rw [if_pos ⟨h29, hj⟩, if_pos h29]
      · rw [if_neg (fun z => h29 z.1), if_neg (fun z => h21 z.1), if_neg h29]
  · rw [if_neg hj, if_neg (fun z => hj z.2), if_neg (fun z => hj z.2)]
def fw (cnt t : Nat) (a : Int32) (σ : Sg) : Sg := fun k j => if j = t ∨ j < cnt ∧ σ 26 j = nI t then (if k = 21 then 3 else if k = 29 then a else σ k j) else σ k j
theorem fin_at (L cnt t : Nat) (a : Int32) (σ : Sg) {k : Nat} (hk : k ∉ LG) : fin L cnt t a σ k = fw cnt t a σ k := by
  have key : ∀ n, ∀ k, k ∉ LG → itr (fT L (nI t) a) n (mk1 L t a σ) k = fw n t a σ k := by
    intro n
    induction n with
    | zero =>
      intro k hk
      funext j
      show mk1 L t a σ k j = _
      rw [mk1_at _ _ _ _ hk]
      unfold fw
      by_cases hj : j = t
      · rw [if_pos hj, if_pos (Or.inl hj)]
      · rw [if_neg hj, if_neg (fun z => z.elim hj fun z => Nat.not_lt_zero _ z.1)]
    | succ n ih =>
      intro k hk
      funext j
      rw [itr_s]
      have e26 : itr (fT L (nI t) a) n (mk1 L t a σ) 26 n = σ 26 n := by
        have h1 := itr_ex (fun i σ => fT_ex L (nI t) a i σ) (mk1 L t a σ) n 26 (by decide)
        rw [h1]
        exact congrFun (mk1_ex L t a σ 26 (by decide)) n
      rw [show fT L (nI t) a n (itr (fT L (nI t) a) n (mk1 L t a σ)) = if itr (fT L (nI t) a) n (mk1 L t a σ) 26 n = nI t then mk1 L n a (itr (fT L (nI t) a) n (mk1 L t a σ)) else itr (fT L (nI t) a) n (mk1 L t a σ) from rfl]
      by_cases c : σ 26 n = nI t
      · rw [if_pos (e26.trans c), mk1_at _ _ _ _ hk, ih k hk]
        unfold fw
        by_cases hj : j = n
        · subst hj
          rw [if_pos rfl, if_pos (c := j = t ∨ j < j + 1 ∧ σ 26 j = nI t) (Or.inr ⟨by omega, c⟩)]
          by_cases h21 : k = 21
          · rw [if_pos h21, if_pos h21]
          · rw [if_neg h21, if_neg h21]
            by_cases h29 : k = 29
            · rw [if_pos h29, if_pos h29]
            · rw [if_neg h29, if_neg h29]
              split <;> rfl
        · rw [if_neg hj]
          by_cases d : j = t ∨ j < n ∧ σ 26 j = nI t
          · rw [if_pos d, if_pos (c := j = t ∨ j < n + 1 ∧ σ 26 j = nI t) (d.elim Or.inl fun z => Or.inr ⟨by omega, z.2⟩)]
          · rw [if_neg d, if_neg (c := j = t ∨ j < n + 1 ∧ σ 26 j = nI t) (fun z => d (z.elim Or.inl fun z => Or.inr ⟨by omega, z.2⟩))]
      · rw [if_neg (fun z => c (e26.symm.trans z)), ih k hk]
        unfold fw
        by_cases d : j = t ∨ j < n ∧ σ 26 j = nI t
        · rw [if_pos d, if_pos (c := j = t ∨ j < n + 1 ∧ σ 26 j = nI t) (d.elim Or.inl fun z => Or.inr ⟨by omega, z.2⟩)]
        · rw [if_neg d, if_neg (c := j = t ∨ j < n + 1 ∧ σ 26 j = nI t) (fun z => d (z.elim Or.inl fun z => by
            rcases Nat.lt_or_ge j n with q | q
            · exact Or.inr ⟨q, z.2⟩
            · have : j = n := by omega
              subst this
              exact absurd z.2 c))]
  exact key cnt k hk
theorem ra_at (L t : Nat) (a : Int32) (σ : Sg) {k : Nat} (hk : k ∉ LG) (j : Nat) : ra L t a σ k j = if j = t then (if k = 20 then σ 20 t + 1 else if k = 21 ∨ k = 22 ∨ k = 23 then 0 else σ k j) else σ k j := by
  have e : ra L t a σ k j = up (up (up (up σ 20 t (σ 20 t + 1)) 21 t 0) 22 t 0) 23 t 0 k j := congrFun (wr_ex _ _ _ _ _ _ k hk) j
  rw [e, up_ite, up_ite, up_ite, up_ite]
  by_cases hj : j = t
  · rw [if_pos hj]
    by_cases h20 : k = 20
    · subst h20
      rw [if_neg (by omega), if_neg (by omega), if_neg (by omega), if_pos ⟨rfl, hj⟩, if_pos rfl]
    · rw [if_neg (c := k = 20) h20]
      by_cases h3 : k = 21 ∨ k = 22 ∨ k = 23
      · rw [if_pos h3]
        rcases h3 with rfl | rfl | rfl
        · rw [if_neg (by omega), if_neg (by omega), if_pos ⟨rfl, hj⟩]
        · rw [if_neg (by omega), if_pos ⟨rfl, hj⟩]
        · rw [if_pos ⟨rfl, hj⟩]
      · rw [if_neg h3, if_neg (fun z => h3 (Or.inr (Or.inr z.1))), if_neg (fun z => h3 (Or.inr (Or.inl z.1))), if_neg (fun z => h3 (Or.inl z.1)), if_neg (fun z => h20 z.1)]
  · rw [if_neg hj, if_neg (fun z => hj z.2), if_neg (fun z => hj z.2), if_neg (fun z => hj z.2), if_neg (fun z => hj z.2)]
/-- the roots and the states of the tickets -/
def RI (cnt : Nat) (σ : Sg) : Prop := ∀ t, t < cnt → ST σ t ∧ (σ 26 t = -1 ∧ σ 21 t ≠ 4 ∨ ∃ r, r < cnt ∧ σ 26 t = nI r ∧ σ 26 r = -1 ∧ (σ 21 t = 4 ∧ (σ 21 r = 0 ∨ σ 21 r = 1 ∨ σ 21 r = 2) ∨ σ 21 t = 3 ∧ σ 21 r = 3))
theorem RI.rv (h : RI cnt σ) {t : Nat} (ht : t < cnt) : RV cnt σ t := fun q => by
  rcases (h t ht).2 with ⟨-, z⟩ | ⟨r, h1, h2, -⟩
  · exact absurd q z
  · exact ⟨r, h1, h2⟩
/-- who stands alone has no root -/
theorem RI.alone (h : RI cnt σ) {t : Nat} (ht : t < cnt) (hs : σ 21 t = 0 ∨ σ 21 t = 1 ∨ σ 21 t = 2) : σ 26 t = -1 := by
  rcases (h t ht).2 with ⟨z, -⟩ | ⟨r, -, -, -, z | z⟩
  · exact z
  · exfalso
    rw [z.1] at hs
    revert hs
    decide
  · exfalso
    rw [z.1] at hs
    revert hs
    decide
theorem RI.ex {σ' : Sg} (h : RI cnt σ) (h21 : σ' 21 = σ 21) (h26 : σ' 26 = σ 26) : RI cnt σ' := by
  unfold RI ST
  rw [h21, h26]
  exact h
theorem RI.fz (h : RI cnt σ) (h60 : cnt ≤ 60) {t : Nat} (ht : t < cnt) (hs : σ 21 t = 0 ∨ σ 21 t = 1 ∨ σ 21 t = 2) (L : Nat) (a : Int32) : RI cnt (fin L cnt t a σ) := by
  have e21 : ∀ j, fin L cnt t a σ 21 j = if j = t ∨ j < cnt ∧ σ 26 j = nI t then 3 else σ 21 j := fun j => by
    rw [fin_at L cnt t a σ (by decide)]
    unfold fw
    split <;> rfl
  have e26 : fin L cnt t a σ 26 = σ 26 := fin_ex L cnt t a σ 26 (by decide)
  have ht26 := h.alone ht hs
  intro j hj
  have hn : ∀ r : Nat, r < cnt → nI r ≠ -1 := fun r hr => nI_m1 (by omega)
  unfold ST
  rw [e26, e21]
  by_cases c : j = t ∨ j < cnt ∧ σ 26 j = nI t
  · rw [if_pos c]
    refine ⟨⟨3, by decide, rfl⟩, ?_⟩
    rcases c with rfl | ⟨-, c⟩
    · exact Or.inl ⟨ht26, by decide⟩
    · exact Or.inr ⟨t, ht, c, ht26, Or.inr ⟨rfl, by rw [e21, if_pos (Or.inl rfl)]⟩⟩
  · rw [if_neg c]
    obtain ⟨g1, g2⟩ := h j hj
    refine ⟨g1, ?_⟩
    rcases g2 with g | ⟨r, r1, r2, r3, r4⟩
    · exact Or.inl g
    · refine Or.inr ⟨r, r1, r2, r3, ?_⟩
      have hr : ¬ (r = t ∨ r < cnt ∧ σ 26 r = nI t) := fun z => by
        rcases z with rfl | z
        · exact c (Or.inr ⟨hj, r2⟩)
        · rw [r3] at z
          exact hn t ht z.2.symm
      rw [e21, if_neg hr]
      exact r4
theorem RI.rz (h : RI cnt σ) (h60 : cnt ≤ 60) {t : Nat} (ht : t < cnt) (hs : σ 21 t = 0 ∨ σ 21 t = 1) (L : Nat) (a : Int32) : RI cnt (ra L t a σ) := by
  have e21 : ∀ j, ra L t a σ 21 j = if j = t then 0 else σ 21 j := fun j => by
    rw [ra_at L t a σ (by decide)]
    split <;> rfl
  have e26 : ra L t a σ 26 = σ 26 := ra_ex L t a σ 26 (by decide)
  have ht26 := h.alone ht (hs.elim Or.inl fun z => Or.inr (Or.inl z))
  intro j hj
  unfold ST
  rw [e26, e21]
  by_cases c : j = t
  · subst c
    rw [if_pos rfl]
    exact ⟨⟨0, by decide, rfl⟩, Or.inl ⟨ht26, by decide⟩⟩
  · rw [if_neg c]
    obtain ⟨g1, g2⟩ := h j hj
    refine ⟨g1, ?_⟩
    rcases g2 with g | ⟨r, r1, r2, r3, r4⟩
    · exact Or.inl g
    · refine Or.inr ⟨r, r1, r2, r3, ?_⟩
      rw [e21]
      by_cases hr : r = t
      · subst hr
        rw [if_pos rfl]
        rcases r4 with z | z
        · exact Or.inl ⟨z.1, Or.inl rfl⟩
        · exfalso
          rw [z.2] at hs
          revert hs
          decide
      · rw [if_neg hr]
        exact r4
/-- the solved ones -/
def sB (σ : Sg) (j : Nat) : Bool := decide (σ 21 j = 3)
theorem ct_one (t n : Nat) (h : t < n) : fb_ct (fun j => decide (j = t)) n = 1 := by
  have h0 : fb_ct (fun _ => false) n = 0 := fb_ct_zero.mpr fun _ _ => rfl
  have := fb_ct_upd (fun _ => false) true h
  rw [h0] at this
  have e : fb_ct (fun j => decide (j = t)) n = fb_ct (fun k => if k = t then true else false) n := fb_ct_cong fun k _ => by
    by_cases q : k = t
    · rw [decide_eq_true q, if_pos q]
    · rw [decide_eq_false q, if_neg q]
  rw [e]
  simpa using this
theorem fin_ct (h : RI cnt σ) (h60 : cnt ≤ 60) {t : Nat} (ht : t < cnt) (hs : σ 21 t = 0 ∨ σ 21 t = 1 ∨ σ 21 t = 2) (L : Nat) (a : Int32) : fb_ct (sB (fin L cnt t a σ)) cnt = fb_ct (sB σ) cnt + (1 + fb_ct (rtB σ t) cnt) := by
  have e21 : ∀ j, fin L cnt t a σ 21 j = if j = t ∨ j < cnt ∧ σ 26 j = nI t then 3 else σ 21 j := fun j => by
    rw [fin_at L cnt t a σ (by decide)]
    unfold fw
    split <;> rfl
  have hn : ∀ r : Nat, r < cnt → nI r ≠ -1 := fun r hr => nI_m1 (by omega)
  have h1 : fb_ct (sB (fin L cnt t a σ)) cnt = fb_ct (fun j => sB σ j || (decide (j = t) || rtB σ t j)) cnt := fb_ct_cong fun j hj => by
    unfold sB rtB
    rw [e21]
    by_cases c : j = t
    · simp [c]
    · by_cases d : σ 26 j = nI t
      · simp [c, d, hj]
      · simp [c, d]
  have ht26 := h.alone ht hs
  rw [h1, fb_ct_or (p := sB σ) (q := fun j => decide (j = t) || rtB σ t j), fb_ct_or (p := fun j => decide (j = t)) (q := rtB σ t), ct_one t cnt ht]
  · intro j hj q
    have q1 : j = t := of_decide_eq_true q.1
    have q2 : σ 26 j = nI t := of_decide_eq_true q.2
    rw [q1, ht26] at q2
    exact hn t ht q2.symm
  · intro j hj q
    have q1 : σ 21 j = 3 := of_decide_eq_true q.1
    have q2 := q.2
    simp only [Bool.or_eq_true, decide_eq_true_eq] at q2
    rcases q2 with rfl | q2
    · rw [q1] at hs
      revert hs
      decide
    · have q3 : σ 26 j = nI t := of_decide_eq_true q2
      rcases (h j hj).2 with ⟨g, -⟩ | ⟨r, r1, r2, r3, r4⟩
      · rw [g] at q3
        exact hn t ht q3.symm
      · have : r = t := by
          rw [r2] at q3
          exact (nI_eq (by omega) (by omega)).mp q3
        subst this
        rcases r4 with z | z
        · rw [z.1] at q1
          revert q1
          decide
        · rw [z.2] at hs
          revert hs
          decide
theorem FL.ex {σ' μ' : Sg} {t : Nat} {R : List Nat} (h : FL σ μ t) (hx : Ex R σ σ') (hR : 1 ∉ R ∧ 2 ∉ R ∧ 16 ∉ R ∧ 24 ∉ R ∧ 25 ∉ R) (hF : FS μ μ') : FL σ' μ' t := by
  unfold FL
  rw [hx 1 hR.1, hx 2 hR.2.1, hx 16 hR.2.2.1, hx 24 hR.2.2.2.1, hx 25 hR.2.2.2.2, hF.1, hF.2]
  exact h
/-- a minute's work on a ticket -/
theorem wk_sim (E : Eq2 cnt kc σ μ) (G : LogR L σ μ) {t : Nat} (ht : t < cnt) (hk : KT kc σ t) (wd : Int64) (h1 : σ 21 t = 1) (hI : RI cnt σ) {N : Nat} (hN : 100 < N) :
    ∃ r μ', f_X9_workOn N (nI t) μ wd = some (nI r, μ') ∧ SB L cnt kc μ (wT L 1 cnt t σ) μ' ∧ RI cnt (wT L 1 cnt t σ) ∧ fb_ct (sB (wT L 1 cnt t σ)) cnt = fb_ct (sB σ) cnt + r := by
  have h6 : t < 60 := E.lt ht
  have h60 := E.1
  have S1 := (SB.rf E G).w 22 t (σ 22 t + 1) (by decide) h6
  have xx : ∀ k, k ≠ 22 → up σ 22 t (σ 22 t + 1) k = σ k := fun k h => up_row h
  have e22 : up σ 22 t (σ 22 t + 1) 22 t = σ 22 t + 1 := up_same _ _ _ _
  have hk1 : KT kc (up σ 22 t (σ 22 t + 1)) t := by unfold KT; rw [xx 16 (by decide)]; exact hk
  have hI1 : RI cnt (up σ 22 t (σ 22 t + 1)) := hI.ex (xx 21 (by decide)) (xx 26 (by decide))
  have hs1 : fb_ct (sB (up σ 22 t (σ 22 t + 1))) cnt = fb_ct (sB σ) cnt := by
    unfold sB
    rw [xx 21 (by decide)]
  have hg : f_X9_grow (nI t) 5 μ wd = some (mu μ 22 t (σ 22 t + 1)) := by
    unfold f_X9_grow
    rw [tg_5 E ht, Option.bind_some, ms_5 h6, Option.bind_some]
  have et : (mu μ 22 t (σ 22 t + 1)) 1 (ix 0) = σ 12 0 := by rw [S1.1.mt, xx 12 (by decide)]
  unfold f_X9_workOn wT
  rw [hg, Option.bind_some, tg_5 S1.1 ht, Option.bind_some, e22, kd_2 S1.1 ht hk1, Option.bind_some, xx 16 (by decide), xx 3 (by decide), if_pos h1]
  by_cases a : σ 3 (ix (σ 16 t)) ≤ σ 22 t + 1
  · rw [if_pos a, if_pos a, tg_4 S1.1 ht, Option.bind_some, kd_3 S1.1 ht hk1, Option.bind_some, xx 16 (by decide), xx 4 (by decide), xx 20 (by decide)]
    by_cases b : σ 20 t < σ 4 (ix (σ 16 t))
    · obtain ⟨μ', a1, a2⟩ := ra_sim (L := L) S1.1 S1.2.1 ht (σ 12 0 + 1) wd
      rw [if_pos b, if_pos b, et, a1, Option.bind_some]
      refine ⟨0, μ', rfl, S1.tr a2, hI1.rz h60 ht (by rw [xx 21 (by decide)]; exact Or.inr h1) L _, ?_⟩
      rw [← hs1]
      refine fb_ct_cong fun j hj => ?_
      unfold sB
      rw [ra_at _ _ _ _ (by decide)]
      by_cases c : j = t
      · subst c
        rw [if_pos rfl, if_neg (by decide), if_pos (by decide), xx 21 (by decide), h1]
        rfl
      · rw [if_neg c]
    · obtain ⟨μ', a1, a2⟩ := fin_sim (L := L) S1.1 S1.2.1 ht (σ 12 0 + 1) wd hN
      rw [if_neg b, if_neg b, et, a1, Option.bind_some]
      have hs : up σ 22 t (σ 22 t + 1) 21 t = 0 ∨ up σ 22 t (σ 22 t + 1) 21 t = 1 ∨ up σ 22 t (σ 22 t + 1) 21 t = 2 := by rw [xx 21 (by decide)]; exact Or.inr (Or.inl h1)
      exact ⟨_, μ', rfl, S1.tr a2, hI1.fz h60 ht hs L _, by rw [← hs1]; exact fin_ct hI1 h60 ht hs L _⟩
  · rw [if_neg a, if_neg a]
    exact ⟨0, _, rfl, S1, hI1, hs1⟩
end Fc
