section Gf
variable {L cnt kc : Nat} {σ μ : Sg}
theorem sub_m1 {b : Nat} {x : Int32} (hb : b + 1 < 10000) (hx : 0 ≤ x.toInt ∧ x.toInt ≤ 9) : nI (b + 1) - x + -1 = nI b - x := by
  have zb := z_nI (n := b) (by omega)
  have zb1 := z_nI (n := b + 1) (by omega)
  have h1 : (nI (b + 1) - x).toInt = (b + 1 : Nat) - x.toInt := by rw [z_sub (by omega) (by omega) (by omega) (by omega), zb1]
  have h2 : (nI b - x).toInt = (b : Nat) - x.toInt := by rw [z_sub (by omega) (by omega) (by omega) (by omega), zb]
  rw [z_eq, z_add (by omega) (by omega) (by decide) (by decide), h1, h2, z_m1]
  omega
theorem sub_0 {b : Nat} {x : Int32} (hb : b < 10000) (hx : 0 ≤ x.toInt ∧ x.toInt ≤ 9) : nI b - x ≤ 0 ↔ nI b ≤ x := by
  have zb := z_nI (n := b) (by omega)
  rw [z_le, z_le, z_sub (by omega) (by omega) (by omega) (by omega), zb, z_0]
  omega
theorem un_wB {l t : Nat} (ht : t < cnt) (h1 : σ 21 t = 1) (h2 : σ 20 t = nI l) : fb_ct (wB σ l) cnt = fb_ct (wB (up σ 21 t 0) l) cnt + 1 := by
  have e20 : up σ 21 t 0 20 = σ 20 := up_row (by decide)
  have e1 : fb_ct (wB (up σ 21 t 0) l) cnt = fb_ct (fun k => if k = t then false else wB σ l k) cnt := fb_ct_cong fun j hj => by
    unfold wB
    rw [e20, up_ite]
    by_cases c : j = t
    · subst c
      rw [if_pos ⟨rfl, rfl⟩, if_pos rfl]
      exact decide_eq_false (fun z => absurd z.1 (by decide))
    · rw [if_neg (fun z => c z.2), if_neg c]
  have e2 := fb_ct_upd (wB σ l) false ht
  have e3 : wB σ l t = true := decide_eq_true ⟨h1, h2⟩
  rw [e3] at e2
  rw [e1]
  simp only [if_true, Bool.false_eq_true, if_false] at e2
  omega
/-- the agents who go, from the highest ticket on -/
theorem stf_sim {l : Nat} (hl : l < 4) {x : Int32} (hx : 0 ≤ x.toInt ∧ x.toInt ≤ 9) (v : Int32) (wd : Int64) {N : Nat} (hN : 100 < N) (h60 : cnt ≤ 60) : ∀ (i n n' : Nat) (τ μ' : Sg), i ≤ cnt → i < n → i < n' → SH L cnt kc μ τ μ' → RI cnt τ →
    ∃ τ2 μ2, f_X1_staff_38 N n (nI l) v (nI (fb_ct (wB τ l) cnt) - x) (nI i - 1) τ = some (v, τ2) ∧ f_X9_makeAgents_31 N n' (nI l) x v (nI i - 1) μ' wd = some (v, μ2) ∧ SH L cnt kc μ τ2 μ2 ∧ Ex [21] τ τ2 ∧ RI cnt τ2
  | 0, n, n', τ, μ', hi, hn, hn', S, I => by
    obtain ⟨m, rfl⟩ : ∃ q, n = q + 1 := ⟨n - 1, by omega⟩
    obtain ⟨m', rfl⟩ : ∃ q, n' = q + 1 := ⟨n' - 1, by omega⟩
    refine ⟨τ, μ', ?_, ?_, S, Ex.rf _ _, I⟩
    · rw [f_X1_staff_38, if_pos (by decide)]
    · rw [f_X9_makeAgents_31, if_pos (by decide)]
  | i + 1, n, n', τ, μ', hi, hn, hn', S, I => by
    obtain ⟨m, rfl⟩ : ∃ q, n = q + 1 := ⟨n - 1, by omega⟩
    obtain ⟨m', rfl⟩ : ∃ q, n' = q + 1 := ⟨n' - 1, by omega⟩
    have hb := fb_ct_le (wB τ l) cnt
    have e1 : nI (i + 1) - 1 = nI i := nI_pred i
    have e2 : nI i + -1 = nI i - 1 := by
      rw [z_eq, z_add (by rw [z_nI (by omega)]; omega) (by rw [z_nI (by omega)]; omega) (by decide) (by decide), z_sub (by rw [z_nI (by omega)]; omega) (by rw [z_nI (by omega)]; omega) (by decide) (by decide)]
      rfl
    have hbu : f_X9_busy N (nI l) μ' wd = some (nI (fb_ct (wB τ l) cnt)) := by
      unfold f_X9_busy
      rw [mca_v S.1.1 (nI l) 1 wd hN, Option.bind_some]
      rfl
    rw [e1, f_X1_staff_38, f_X9_makeAgents_31, if_neg (nI_pos (by omega)), if_neg (nI_pos (by omega)), hbu, Option.bind_some]
    by_cases q : nI (fb_ct (wB τ l) cnt) ≤ x
    · rw [if_pos ((sub_0 (by omega) hx).mpr q), if_pos q]
      exact ⟨τ, μ', rfl, rfl, S, Ex.rf _ _, I⟩
    · rw [if_neg (fun z => q ((sub_0 (by omega) hx).mp z)), if_neg q, if_pos (ib_nI (by omega) (by decide)), ix_nI (by omega), is_v S.1.1 (by omega), Option.bind_some, e2]
      by_cases h1 : τ 21 i = 1
      · rw [if_pos h1, if_pos h1, if_neg (c := (1 : Int32) = 0) (by decide), tg_4 S.1.1 (by omega), Option.bind_some]
        by_cases h2 : τ 20 i = nI l
        · rw [if_pos h2, if_pos h2, ms_9 (by omega), Option.bind_some]
          have S' := S.w 21 i 0 (by decide) (show i < 60 by omega)
          have I' : RI cnt (up τ 21 i 0) := I.set (t := i) (v := 0) (up_row (by decide)) (fun j => by
            rw [up_ite]
            by_cases z : j = i
            · rw [if_pos ⟨rfl, z⟩, if_pos z]
            · rw [if_neg (fun w => z w.2), if_neg z]) (Or.inr (Or.inl h1)) (Or.inl rfl)
          obtain ⟨τ2, μ2, a1, a2, a3, a4, a5⟩ := stf_sim hl hx v wd hN h60 i m m' (up τ 21 i 0) (mu μ' 21 i 0) (by omega) (by omega) (by omega) S' I'
          refine ⟨τ2, μ2, ?_, a2, a3, (Ex.up _ _ _ (by decide)).tr a4, a5⟩
          rw [un_wB (show i < cnt by omega) h1 h2, sub_m1 (by have := fb_ct_le (wB (up τ 21 i 0) l) cnt; omega) hx]
          exact a1
        · rw [if_neg h2, if_neg h2]
          exact stf_sim hl hx v wd hN h60 i m m' τ μ' (by omega) (by omega) (by omega) S I
      · rw [if_neg h1, if_neg h1, if_pos rfl]
        exact stf_sim hl hx v wd hN h60 i m m' τ μ' (by omega) (by omega) (by omega) S I
theorem mk_agents {T : Nat} (F : FI L cnt kc T σ μ) {l : Nat} (hl : l < 4) {x : Int32} (hx : 0 ≤ x.toInt ∧ x.toInt ≤ 9) {N : Nat} (hN : 100 < N) (wd : Int64) :
    MR L cnt kc T σ μ (f_X1_staff N (nI l) x σ) (f_X9_makeAgents N (nI l) x μ wd) := by
  have h60 := F.1.1
  have S := (SH.rf F.1 F.2.1).w 30 l x (by decide) hl
  have xx : Ex [30] σ (up σ 30 l x) := Ex.up _ _ _ (by decide)
  have I1 : RI cnt (up σ 30 l x) := F.2.2.1.2.2.2.2.2.1.ex (xx 21 (by decide)) (xx 26 (by decide))
  obtain ⟨τ2, μ2, a1, a2, a3, a4, a5⟩ := stf_sim hl hx (σ 30 l) wd hN h60 cnt N N (up σ 30 l x) (mu μ 30 l x) (Nat.le_refl _) (by omega) (by omega) S I1
  have x2 : Ex [21, 30] σ τ2 := (xx.wk (by decide)).tr (a4.wk (by decide))
  refine ⟨σ 30 l, τ2, μ2, ?_, ?_, ?_, a3.1.2.2.2, LM2.k (x2.wk (by decide)), a3.2⟩
  · unfold f_X1_staff
    rw [if_pos (ib_nI hl (by decide)), ix_nI (by omega), ca_v S.1.1.c h60 (nI l) 1 hN, Option.bind_some, F.1.c]
    exact a1
  · have hag : μ 1 (ix (nI (15 + l))) = σ 30 l := (g_agents hl μ).trans (F.1.e 30 l hl)
    unfold f_X9_makeAgents
    rw [a_at, if_pos (ib_nI (by omega) (by decide)), hag, s_agents hl, S.1.1.mc]
    exact a2
  · obtain ⟨E, G, ⟨v1, v2, v3, v4, v5, v6, v7, v8⟩, hf⟩ := F
    refine ⟨a3.1.1, a3.1.2.1, ⟨v1, by rw [x2 12 (by decide)]; exact v2, v3.ex x2 (by decide), v4.ex x2 (by decide), fun q hq => ?_, a5, KT.ex v7 x2 (by decide), fun t ht => ?_⟩, fun t ht => (hf t ht).ex x2 (by decide) a3.1.2.2.1⟩
    · rw [a4 30 (by decide), up_ite]
      by_cases z : q = l
      · rw [if_pos ⟨rfl, z⟩]
        exact hx
      · rw [if_neg (fun w => z w.2)]
        exact v5 q hq
    · unfold TB LK
      rw [x2 22 (by decide), x2 23 (by decide), x2 24 (by decide), x2 25 (by decide), x2 5 (by decide), x2 16 (by decide), x2 20 (by decide)]
      exact v8 t ht
/-! a new ticket -/
def nw (σ : Sg) (c : Nat) (k cu su pr at' : Int32) : Sg := up (up (up (up (up (up (up (up (up (up (up (up (up (up (up σ 16 c k) 17 c cu) 18 c su) 19 c pr) 20 c 0) 21 c 0) 22 c 0) 23 c 0) 24 c 0) 25 c 0) 26 c (-1)) 27 c at') 28 c (-1)) 29 c (-1)) 15 0 (nI (c + 1))
def nwL : List Int32 := [0, 0, 0, 0, 0, 0, 0, 0, 0, 0, -1, 0, -1, -1]
/-- what a new ticket's cells hold -/
theorem nw_at (σ : Sg) (c : Nat) (k cu su pr at' : Int32) (a j : Nat) : nw σ c k cu su pr at' a j = if a = 15 ∧ j = 0 then nI (c + 1) else if 16 ≤ a ∧ a < 30 ∧ j = c then (if a = 16 then k else if a = 17 then cu else if a = 18 then su else if a = 19 then pr else if a = 26 ∨ a = 28 ∨ a = 29 then -1 else if a = 27 then at' else 0) else σ a j := by
  unfold nw
  simp only [up_ite]
  by_cases h15 : a = 15 ∧ j = 0
  · rw [if_pos h15, if_pos h15]
  · rw [if_neg h15, if_neg h15]
    by_cases hj : j = c
    · subst hj
      by_cases ha : 16 ≤ a ∧ a < 30
      · rw [if_pos (c := 16 ≤ a ∧ a < 30 ∧ j = j) ⟨ha.1, ha.2, rfl⟩]
        have : a = 16 ∨ a = 17 ∨ a = 18 ∨ a = 19 ∨ a = 20 ∨ a = 21 ∨ a = 22 ∨ a = 23 ∨ a = 24 ∨ a = 25 ∨ a = 26 ∨ a = 27 ∨ a = 28 ∨ a = 29 := by omega
        rcases this with rfl | rfl | rfl | rfl | rfl | rfl | rfl | rfl | rfl | rfl | rfl | rfl | rfl | rfl <;> simp
      · rw [if_neg (c := 16 ≤ a ∧ a < 30 ∧ j = j) (fun z => ha ⟨z.1, z.2.1⟩)]
        have : ¬ (16 ≤ a ∧ a < 30) := ha
        iterate 14 rw [if_neg (fun z => by omega)]
    · rw [if_neg (c := 16 ≤ a ∧ a < 30 ∧ j = c) (fun z => hj z.2.2)]
      iterate 14 rw [if_neg (fun z => hj z.2)]
theorem pv_row_loc (t : Nat) : ∀ f, f < 16 → pv_loc (pv_row f) t = 59 + 16 * t + f := fun f hf => by
  have : f = 0 ∨ f = 1 ∨ f = 2 ∨ f = 3 ∨ f = 4 ∨ f = 5 ∨ f = 6 ∨ f = 7 ∨ f = 8 ∨ f = 9 ∨ f = 10 ∨ f = 11 ∨ f = 12 ∨ f = 13 ∨ f = 14 ∨ f = 15 := by omega
  rcases this with rfl | rfl | rfl | rfl | rfl | rfl | rfl | rfl | rfl | rfl | rfl | rfl | rfl | rfl | rfl | rfl <;> rfl
/-- the reference's cells of a new ticket -/
def mw (μ : Sg) (c : Nat) (k cu su pr at' : Int32) : Sg := mu (mu (mu (mu (mu (mu (mu (mu (mu (itr (fun f ρ => mu ρ (pv_row f) c 0) 16 μ) 16 c k) 17 c cu) 18 c su) 19 c pr) 26 c (-1)) 27 c at') 28 c (-1)) 29 c (-1)) 15 0 (nI (c + 1))
theorem mw_v {c : Nat} (hc : c < 60) (μ : Sg) (k cu su pr at' : Int32) (a j : Nat) : pV (mw μ c k cu su pr at') a j = if 38 ≤ a ∧ a < 40 ∧ j = c then 0 else nw (pV μ) c k cu su pr at' a j := by
  have e : ∀ ρ : Sg, pV (itr (fun f ρ => mu ρ (pv_row f) c 0) 16 ρ) = up (up (up (up (up (up (up (up (up (up (up (up (up (up (up (up (pV ρ) 16 c 0) 17 c 0) 18 c 0) 19 c 0) 20 c 0) 22 c 0) 23 c 0) 24 c 0) 25 c 0) 21 c 0) 26 c 0) 27 c 0) 28 c 0) 29 c 0) 38 c 0) 39 c 0 := fun ρ => by
    show pV (mu (mu (mu (mu (mu (mu (mu (mu (mu (mu (mu (mu (mu (mu (mu (mu ρ 16 c 0) 17 c 0) 18 c 0) 19 c 0) 20 c 0) 22 c 0) 23 c 0) 24 c 0) 25 c 0) 21 c 0) 26 c 0) 27 c 0) 28 c 0) 29 c 0) 38 c 0) 39 c 0) = _
    rw [pV_mu (k := 39) hc, pV_mu (k := 38) hc, pV_mu (k := 29) hc, pV_mu (k := 28) hc, pV_mu (k := 27) hc, pV_mu (k := 26) hc, pV_mu (k := 21) hc, pV_mu (k := 25) hc, pV_mu (k := 24) hc, pV_mu (k := 23) hc, pV_mu (k := 22) hc, pV_mu (k := 20) hc, pV_mu (k := 19) hc, pV_mu (k := 18) hc, pV_mu (k := 17) hc, pV_mu (k := 16) hc]
  unfold mw
  rw [pV_mu (k := 15) (show 0 < 1 by decide), pV_mu (k := 29) hc, pV_mu (k := 28) hc, pV_mu (k := 27) hc, pV_mu (k := 26) hc, pV_mu (k := 19) hc, pV_mu (k := 18) hc, pV_mu (k := 17) hc, pV_mu (k := 16) hc, e, nw_at]
  simp only [up_ite]
  by_cases h15 : a = 15 ∧ j = 0
  · rw [if_pos h15, if_pos h15, if_neg (by omega)]
  · rw [if_neg h15, if_neg h15]
    by_cases hj : j = c
    · subst hj
      by_cases ha : 16 ≤ a ∧ a < 30
      · rw [if_neg (c := 38 ≤ a ∧ a < 40 ∧ j = j) (by omega), if_pos (c := 16 ≤ a ∧ a < 30 ∧ j = j) ⟨ha.1, ha.2, rfl⟩]
        have : a = 16 ∨ a = 17 ∨ a = 18 ∨ a = 19 ∨ a = 20 ∨ a = 21 ∨ a = 22 ∨ a = 23 ∨ a = 24 ∨ a = 25 ∨ a = 26 ∨ a = 27 ∨ a = 28 ∨ a = 29 := by omega
        rcases this with rfl | rfl | rfl | rfl | rfl | rfl | rfl | rfl | rfl | rfl | rfl | rfl | rfl | rfl <;> simp
      · rw [if_neg (c := 16 ≤ a ∧ a < 30 ∧ j = j) (fun z => ha ⟨z.1, z.2.1⟩)]
        by_cases hb : 38 ≤ a ∧ a < 40
        · rw [if_pos (c := 38 ≤ a ∧ a < 40 ∧ j = j) ⟨hb.1, hb.2, rfl⟩]
          have : a = 38 ∨ a = 39 := by omega
          rcases this with rfl | rfl <;> simp
        · rw [if_neg (c := 38 ≤ a ∧ a < 40 ∧ j = j) (fun z => hb ⟨z.1, z.2.1⟩)]
          iterate 24 rw [if_neg (fun z => by omega)]
    · rw [if_neg (c := 16 ≤ a ∧ a < 30 ∧ j = c) (fun z => hj z.2.2), if_neg (c := 38 ≤ a ∧ a < 40 ∧ j = c) (fun z => hj z.2.2)]
      iterate 24 rw [if_neg (fun z => hj z.2)]
end Gf
