section Gg
variable {L cnt kc : Nat} {σ μ : Sg}
theorem rb_cases {c k a b : Nat} (h : b < rb c k a) : (a < 7 ∨ a = 12 ∨ a = 13 ∨ a = 14 ∨ a = 30) ∧ b < rb 0 k a ∧ (∀ c', rb c' k a = rb c k a) ∨ (a = 15 ∧ b = 0) ∨ (16 ≤ a ∧ a < 30 ∧ b < c) := by
  have e : ∀ c', a < 15 ∨ a = 30 → rb c' k a = rb c k a := fun c' q => by
    rcases q with q | rfl
    · unfold rb
      split
      · rfl
      · split
        · rfl
        · split
          · rfl
          · split
            · rfl
            · first | rfl | rw [if_pos (by omega), if_pos (by omega)]
    · rfl
  have h0 : a < 31 ∧ ¬ (7 ≤ a ∧ a < 12) := by
    unfold rb at h
    constructor
    · apply Classical.byContradiction
      intro q
      rw [if_neg (by omega), if_neg (by omega), if_neg (by omega), if_neg (by omega), if_neg (by omega), if_neg (by omega), if_neg (by omega), if_neg (by omega)] at h
      omega
    · intro q
      rw [if_neg (by omega), if_neg (by omega), if_pos (by omega)] at h
      omega
  by_cases h15 : a = 15
  · subst h15
    have : b < 1 := h
    exact Or.inr (Or.inl ⟨rfl, by omega⟩)
  · by_cases ht : 16 ≤ a ∧ a < 30
    · right
      right
      unfold rb at h
      rw [if_neg (by omega), if_neg (by omega), if_neg (by omega), if_neg (by omega), if_neg (by omega), if_neg (by omega), if_pos (by omega)] at h
      exact ⟨ht.1, ht.2, h⟩
    · left
      have hr : a < 15 ∨ a = 30 := by omega
      exact ⟨by omega, by rw [e 0 hr]; exact h, fun c' => e c' hr⟩
theorem rb_low {c k a b : Nat} (h : b < rb c k a) : (16 ≤ a ∧ a < 30 ∧ b < c) ∨ ((a < 7 ∨ a = 12 ∨ a = 13 ∨ a = 14 ∨ a = 15 ∨ a = 30) ∧ ∀ c', b < rb c' k a) := by
  rcases rb_cases h with ⟨h1, -, h3⟩ | ⟨rfl, rfl⟩ | h
  · exact Or.inr ⟨by omega, fun c' => by rw [h3 c']; exact h⟩
  · exact Or.inr ⟨by omega, fun c' => show 0 < rb c' k 15 from Nat.zero_lt_one⟩
  · exact Or.inl h
/-- a report -/
theorem mk_report {T : Nat} (F : FI L cnt kc T σ μ) {k : Nat} (hk : k < kc) (hc : cnt < 60) (cu su pr : Int32) {N : Nat} (hN : 100 < N) (wd : Int64) :
    ∃ r σ' μ', f_X1_enter L (nI k) cu su pr σ = some (r, σ') ∧ f_X9_makeTicket N (nI k) cu su pr μ wd = some (r, μ') ∧ FI L (cnt + 1) kc T σ' μ' ∧ RS μ μ' ∧ (∀ k, k < 7 ∨ 30 < k → σ' k = σ k) ∧ HS μ μ' := by
  obtain ⟨E, G, V, hf⟩ := F
  obtain ⟨v1, v2, v3, v4, v5, v6, v7, v8⟩ := V
  have h6 := E.2.1
  -- the class adds it
  have a1 : f_X7_add (nI k) cu su pr (σ 12 0) σ = some (nI cnt, nw σ cnt (nI k) cu su pr (σ 12 0)) := by
    unfold f_X7_add nw
    rw [E.c, if_pos (ib_nI hc (by decide)), ix_nI (by omega), nI_1]
  -- the reference's loop
  have key := lift_itr (α := Sg) (fun n x c => f_X9_makeTicket_12 N n (nI k) cu su pr (nI cnt) x c wd) (fun f ρ => mu ρ (pv_row f) cnt 0) (fun _ c => RS μ c ∧ pV c 12 0 = pV μ 12 0 ∧ pV c 15 0 = pV μ 15 0)
    (fun c => (f_X9_setTicket (nI cnt) 0 (nI k) c wd).bind (fun p2 => (f_X9_setTicket (nI cnt) 1 cu p2 wd).bind (fun p4 => (f_X9_setTicket (nI cnt) 2 su p4 wd).bind (fun p6 => (f_X9_setTicket (nI cnt) 3 pr p6 wd).bind (fun p8 => (f_X9_setTicket (nI cnt) 10 (-1) p8 wd).bind (fun p10 => (f_X9_setTicket (nI cnt) 11 (p10 1 (ix 0)) p10 wd).bind (fun p12 => (f_X9_setTicket (nI cnt) 12 (-1) p12 wd).bind (fun p14 => (f_X9_setTicket (nI cnt) 13 (-1) p14 wd).bind (fun p16 => (f_X9_log ((up p16 1 (ix 56) ((p16 1 (ix 56)) + 1)) 1 (ix 0)) 0 (nI cnt) (nI k) (up p16 1 (ix 56) ((p16 1 (ix 56)) + 1)) wd).bind (fun p18 => some (nI cnt, p18))))))))))) 16
    (fun n f c hf I => by
      have hp : pv_row f ≠ 12 ∧ pv_row f ≠ 15 ∧ cnt < pv_nb (pv_row f) ∧ (pv_row f < 31 ∨ 37 < pv_row f) := by
        have : f = 0 ∨ f = 1 ∨ f = 2 ∨ f = 3 ∨ f = 4 ∨ f = 5 ∨ f = 6 ∨ f = 7 ∨ f = 8 ∨ f = 9 ∨ f = 10 ∨ f = 11 ∨ f = 12 ∨ f = 13 ∨ f = 14 ∨ f = 15 := by omega
        rcases this with rfl | rfl | rfl | rfl | rfl | rfl | rfl | rfl | rfl | rfl | rfl | rfl | rfl | rfl | rfl | rfl <;> exact ⟨by decide, by decide, hc, by decide⟩
      refine ⟨⟨I.1.tr (RS.mu _ _ _ _ hp.2.2.1 hp.2.2.2), ?_, ?_⟩, ?_⟩
      · rw [pV_mu hp.2.2.1, up_row hp.1.symm]
        exact I.2.1
      · rw [pV_mu hp.2.2.1, up_row hp.2.1.symm]
        exact I.2.2
      · show f_X9_makeTicket_12 N (n + 1) (nI k) cu su pr (nI cnt) (nI f) c wd = _
        rw [f_X9_makeTicket_12, if_neg (show ¬ (16 : Int32) ≤ nI f from nI_ge (b := 16) hf (by omega)), m_set hc hf, Option.bind_some, nI_1]
        unfold mu
        rw [pv_row_loc cnt f hf])
    (fun n c _ => by
      show f_X9_makeTicket_12 N (n + 1) (nI k) cu su pr (nI cnt) (nI 16) c wd = _
      rw [f_X9_makeTicket_12, if_pos (show (16 : Int32) ≤ nI 16 from nI_le (a := 16) (b := 16) (Nat.le_refl _) (by omega))]) μ ⟨RS.rf _, rfl, rfl⟩ N (by omega)
  obtain ⟨⟨q1, q2, q3⟩, q4⟩ := key
  have t12 : ∀ μ1 : Sg, μ1 1 (ix 0) = pV μ1 12 0 := fun _ => rfl
  have t15 : ∀ μ1 : Sg, μ1 1 (ix 56) = pV μ1 15 0 := fun _ => rfl
  have e12 : pV μ 12 0 = σ 12 0 := E.e 12 0 Nat.zero_lt_one
  have e15 : pV μ 15 0 = nI cnt := E.mc
  have m1 : f_X9_makeTicket N (nI k) cu su pr μ wd = (f_X9_log (σ 12 0) 0 (nI cnt) (nI k) (mw μ cnt (nI k) cu su pr (σ 12 0)) wd).bind (fun p18 => some (nI cnt, p18)) := by
    unfold f_X9_makeTicket
    rw [E.mc]
    refine q4.trans ?_
    unfold mw
    generalize itr (fun f ρ => mu ρ (pv_row f) cnt 0) 16 μ = μ0 at q2 q3
    have p12 : (mu (mu (mu (mu (mu μ0 16 cnt (nI k)) 17 cnt cu) 18 cnt su) 19 cnt pr) 26 cnt (-1)) 1 (ix 0) = σ 12 0 := by
      show pV (mu (mu (mu (mu (mu μ0 16 cnt (nI k)) 17 cnt cu) 18 cnt su) 19 cnt pr) 26 cnt (-1)) 12 0 = σ 12 0
      rw [pV_mu (k := 26) hc, up_row (by decide), pV_mu (k := 19) hc, up_row (by decide), pV_mu (k := 18) hc, up_row (by decide), pV_mu (k := 17) hc, up_row (by decide), pV_mu (k := 16) hc, up_row (by decide), q2, e12]
    have p15 : ∀ v, (mu (mu (mu (mu (mu (mu (mu (mu μ0 16 cnt (nI k)) 17 cnt cu) 18 cnt su) 19 cnt pr) 26 cnt (-1)) 27 cnt v) 28 cnt (-1)) 29 cnt (-1)) 1 (ix 56) = nI cnt := fun v => by
      show pV (mu (mu (mu (mu (mu (mu (mu (mu μ0 16 cnt (nI k)) 17 cnt cu) 18 cnt su) 19 cnt pr) 26 cnt (-1)) 27 cnt v) 28 cnt (-1)) 29 cnt (-1)) 15 0 = nI cnt
      rw [pV_mu (k := 29) hc, up_row (by decide), pV_mu (k := 28) hc, up_row (by decide), pV_mu (k := 27) hc, up_row (by decide), pV_mu (k := 26) hc, up_row (by decide), pV_mu (k := 19) hc, up_row (by decide), pV_mu (k := 18) hc, up_row (by decide), pV_mu (k := 17) hc, up_row (by decide), pV_mu (k := 16) hc, up_row (by decide), q3, e15]
    have p12' : ∀ v w, (mu (mu (mu (mu (mu (mu (mu (mu (mu μ0 16 cnt (nI k)) 17 cnt cu) 18 cnt su) 19 cnt pr) 26 cnt (-1)) 27 cnt v) 28 cnt (-1)) 29 cnt (-1)) 15 0 w) 1 (ix 0) = σ 12 0 := fun v w => by
      show pV (mu (mu (mu (mu (mu (mu (mu (mu (mu μ0 16 cnt (nI k)) 17 cnt cu) 18 cnt su) 19 cnt pr) 26 cnt (-1)) 27 cnt v) 28 cnt (-1)) 29 cnt (-1)) 15 0 w) 12 0 = σ 12 0
      rw [pV_mu (k := 15) (show 0 < 1 by decide), up_row (by decide), pV_mu (k := 29) hc, up_row (by decide), pV_mu (k := 28) hc, up_row (by decide), pV_mu (k := 27) hc, up_row (by decide)]
      exact p12
    rw [ms_0 hc, Option.bind_some, ms_1 hc, Option.bind_some, ms_2 hc, Option.bind_some, ms_3 hc, Option.bind_some, ms_10 hc, Option.bind_some, p12, ms_11 hc, Option.bind_some, ms_12 hc, Option.bind_some, ms_13 hc, Option.bind_some, p15, nI_1, s_cnt, p12']
  -- the two states
  have Vm := mw_v hc μ (nI k) cu su pr (σ 12 0)
  have hnw := nw_at σ cnt (nI k) cu su pr (σ 12 0)
  have hnv := nw_at (pV μ) cnt (nI k) cu su pr (σ 12 0)
  have E' : Eq2 (cnt + 1) kc (nw σ cnt (nI k) cu su pr (σ 12 0)) (mw μ cnt (nI k) cu su pr (σ 12 0)) := by
    refine ⟨hc, h6, ?_, ?_, fun a b h => ?_⟩
    · rw [hnw, if_pos ⟨rfl, rfl⟩]
    · rw [hnw, if_neg (by omega), if_neg (by omega)]
      exact E.k
    · have h40 : ¬ (38 ≤ a ∧ a < 40 ∧ b = cnt) := fun z => by
        rcases rb_low h with q | q <;> omega
      rw [Vm, if_neg h40, hnw, hnv]
      by_cases z : a = 15 ∧ b = 0
      · rw [if_pos z, if_pos z]
      · rw [if_neg z, if_neg z]
        by_cases y : 16 ≤ a ∧ a < 30 ∧ b = cnt
        · rw [if_pos y, if_pos y]
        · rw [if_neg y, if_neg y]
          rcases rb_low h with q | q
          · refine E.e a b ?_
            have : b < cnt := by omega
            unfold rb
            rw [if_neg (by omega), if_neg (by omega), if_neg (by omega), if_neg (by omega), if_neg (by omega), if_neg (by omega), if_pos (by omega)]
            exact this
          · exact E.e a b (q.2 cnt)
  have G' : LogR L (nw σ cnt (nI k) cu su pr (σ 12 0)) (mw μ cnt (nI k) cu su pr (σ 12 0)) := by
    obtain ⟨ln, g1, g2, g3⟩ := G
    have s7 : ∀ a, 7 ≤ a → a < 12 → ∀ b, nw σ cnt (nI k) cu su pr (σ 12 0) a b = σ a b := fun a h1 h2 b => by
      rw [hnw, if_neg (by omega), if_neg (by omega)]
    have w7 : ∀ a, 7 ≤ a → a < 12 → ∀ b, pV (mw μ cnt (nI k) cu su pr (σ 12 0)) a b = pV μ a b := fun a h1 h2 b => by
      rw [Vm, if_neg (by omega), hnv, if_neg (by omega), if_neg (by omega)]
    refine ⟨ln, g1, by rw [w7 7 (by omega) (by omega)]; exact g2, ?_⟩
    rcases g3 with ⟨p, q⟩ | ⟨p, q, r⟩
    · exact Or.inl ⟨p, by rw [s7 7 (by omega) (by omega)]; exact q⟩
    · exact Or.inr ⟨p, by rw [s7 7 (by omega) (by omega)]; exact q, fun a b x1 x2 x3 => by rw [s7 a (by omega) x2, w7 a (by omega) x2]; exact r a b x1 x2 x3⟩
  obtain ⟨w1, μ', l1, l2, l3, l4, l5⟩ := wr_sim E' G' (σ 12 0) 0 (nI cnt) (nI k) wd
  have lh := log_hs E' G' l1
  have n12 : nw σ cnt (nI k) cu su pr (σ 12 0) 12 0 = σ 12 0 := by rw [hnw, if_neg (by omega), if_neg (by omega)]
  have wx := wr_ex L (σ 12 0) 0 (nI cnt) (nI k) (nw σ cnt (nI k) cu su pr (σ 12 0))
  -- rows of the result
  have lo : ∀ a, (a < 7 ∨ 11 < a) → a ∉ LG := fun a h q => by
    unfold LG at q
    simp only [List.mem_cons, List.not_mem_nil, or_false] at q
    omega
  have old : ∀ a b, (a < 7 ∨ 11 < a) → ¬ (a = 15 ∧ b = 0) → b ≠ cnt ∨ ¬ (16 ≤ a ∧ a < 30) → wr L (σ 12 0) 0 (nI cnt) (nI k) (nw σ cnt (nI k) cu su pr (σ 12 0)) a b = σ a b := fun a b h1 h2 h3 => by
    rw [wx a (lo a h1), hnw, if_neg h2, if_neg (by omega)]
  have new : ∀ a, 16 ≤ a → a < 30 → wr L (σ 12 0) 0 (nI cnt) (nI k) (nw σ cnt (nI k) cu su pr (σ 12 0)) a cnt = (if a = 16 then nI k else if a = 17 then cu else if a = 18 then su else if a = 19 then pr else if a = 26 ∨ a = 28 ∨ a = 29 then -1 else if a = 27 then σ 12 0 else 0) := fun a h1 h2 => by
    rw [wx a (lo a (by omega)), hnw, if_neg (by omega), if_pos ⟨h1, h2, rfl⟩]
  have keep : ∀ a, (a < 7 ∨ a = 12 ∨ a = 13 ∨ a = 14 ∨ 30 ≤ a) → wr L (σ 12 0) 0 (nI cnt) (nI k) (nw σ cnt (nI k) cu su pr (σ 12 0)) a = σ a := fun a h => funext fun b => old a b (by omega) (by omega) (Or.inr (by omega))
  refine ⟨nI cnt, _, μ', ?_, ?_, ⟨l2, l3, ?_, fun t ht => ?_⟩, (q1.tr ?_).tr l5, fun a h => keep a (by omega), fun a h1 h2 => ?_⟩
  · unfold f_X1_enter
    rw [a1, Option.bind_some]
    show (f_X4_write L (nw σ cnt (nI k) cu su pr (σ 12 0) 12 0) 0 (nI cnt) (nI k) (nw σ cnt (nI k) cu su pr (σ 12 0))).bind (fun p3 => some (nI cnt, p3)) = _
    rw [n12, w1, Option.bind_some]
  · rw [m1, l1, Option.bind_some]
  · generalize wr L (σ 12 0) 0 (nI cnt) (nI k) (nw σ cnt (nI k) cu su pr (σ 12 0)) = σ' at old new keep
    refine ⟨v1, by rw [keep 12 (by omega)]; exact v2, ?_, ?_, ?_, fun t ht => ?_, fun t ht => ?_, fun t ht => ?_⟩
    · unfold KI
      rw [keep 1 (by omega), keep 2 (by omega), keep 3 (by omega), keep 5 (by omega), keep 6 (by omega)]
      exact v3
    · unfold CI
      rw [keep 13 (by omega), keep 14 (by omega)]
      exact v4
    · unfold AI
      rw [keep 30 (by omega)]
      exact v5
    · unfold ST
      by_cases z : t = cnt
      · subst z
        have n21 : σ' 21 t = 0 := (new 21 (by omega) (by omega)).trans rfl
        have n26 : σ' 26 t = -1 := (new 26 (by omega) (by omega)).trans rfl
        exact ⟨⟨0, by decide, n21⟩, Or.inl ⟨n26, by rw [n21]; decide⟩⟩
      · have o21 := old 21 t (by omega) (by omega) (Or.inl z)
        have o26 := old 26 t (by omega) (by omega) (Or.inl z)
        rw [o21, o26]
        obtain ⟨g1, g2⟩ := v6 t (by omega)
        refine ⟨g1, ?_⟩
        rcases g2 with g | ⟨r, r1, r2, r3, r4⟩
        · exact Or.inl g
        · refine Or.inr ⟨r, by omega, r2, ?_, ?_⟩
          · rw [old 26 r (by omega) (by omega) (Or.inl (by omega))]
            exact r3
          · rw [old 21 r (by omega) (by omega) (Or.inl (by omega))]
            exact r4
    · unfold KT
      by_cases z : t = cnt
      · subst z
        exact ⟨k, hk, new 16 (by omega) (by omega)⟩
      · rw [old 16 t (by omega) (by omega) (Or.inl z)]
        exact v7 t (by omega)
    · unfold TB LK
      by_cases z : t = cnt
      · subst z
        have n22 : σ' 22 t = 0 := (new 22 (by omega) (by omega)).trans rfl
        have n23 : σ' 23 t = 0 := (new 23 (by omega) (by omega)).trans rfl
        have n24 : σ' 24 t = 0 := (new 24 (by omega) (by omega)).trans rfl
        have n25 : σ' 25 t = 0 := (new 25 (by omega) (by omega)).trans rfl
        have n16 : σ' 16 t = nI k := (new 16 (by omega) (by omega)).trans rfl
        rw [n22, n23, n24, n25, n16, keep 5 (by omega)]
        have h5 := (v3 k hk).2.2.2.1
        refine ⟨⟨⟨by decide, ?_⟩, ⟨by decide, ?_⟩, ⟨by decide, ?_⟩, by decide, ?_⟩, ?_⟩
        · show (0 : Int32).toInt ≤ _
          rw [z_0]; omega
        · show (0 : Int32).toInt ≤ _
          rw [z_0]; omega
        · show (0 : Int32).toInt ≤ _
          rw [z_0]; omega
        · show (0 : Int32).toInt ≤ _
          rw [z_0]; omega
        · show σ 5 (ix (nI k)) = 0 ∨ _ ∨ (0 : Int32) < σ 5 (ix (nI k))
          rw [ix_nI (by omega)]
          by_cases w : σ 5 k = 0
          · exact Or.inl w
          · right
            right
            rw [z_lt, z_0]
            have : (σ 5 k).toInt ≠ 0 := fun q => w (z_eq.mpr (q.trans z_0.symm))
            omega
      · rw [old 22 t (by omega) (by omega) (Or.inl z), old 23 t (by omega) (by omega) (Or.inl z), old 24 t (by omega) (by omega) (Or.inl z), old 25 t (by omega) (by omega) (Or.inl z), old 16 t (by omega) (by omega) (Or.inl z), old 20 t (by omega) (by omega) (Or.inl z), keep 5 (by omega)]
        exact v8 t (by omega)
  · have f8 : ∀ a j, 38 ≤ a → a < 40 → pV μ' a j = if j = cnt then 0 else pV μ a j := fun a j h1 h2 => by
      have : a = 38 ∨ a = 39 := by omega
      have e : pV μ' a j = pV (mw μ cnt (nI k) cu su pr (σ 12 0)) a j := by
        rcases this with rfl | rfl
        · rw [l4.1]
        · rw [l4.2]
      rw [e, Vm]
      by_cases z : j = cnt
      · rw [if_pos ⟨h1, h2, z⟩, if_pos z]
      · rw [if_neg (fun w => z w.2.2), if_neg z, hnv, if_neg (by omega), if_neg (by omega)]
    unfold FL
    rw [f8 38 t (by omega) (by omega), f8 39 t (by omega) (by omega)]
    by_cases z : t = cnt
    · subst z
      have h1 := (v3 k hk).1.1
      have h2 := (v3 k hk).2.1.1
      have n24 := (new 24 (by omega) (by omega)).trans (show _ = (0 : Int32) from rfl)
      have n25 := (new 25 (by omega) (by omega)).trans (show _ = (0 : Int32) from rfl)
      have n16 := (new 16 (by omega) (by omega)).trans (show _ = nI k from rfl)
      rw [if_pos rfl, if_pos rfl, n16, n24, n25, keep 1 (by omega), keep 2 (by omega)]
      show (0 : Int32) = (if σ 1 (ix (nI k)) < 0 then 1 else 0) ∧ (0 : Int32) = (if σ 2 (ix (nI k)) < 0 then 1 else 0)
      rw [ix_nI (by omega), if_neg (by rw [z_lt, z_0]; omega), if_neg (by rw [z_lt, z_0]; omega)]
      exact ⟨rfl, rfl⟩
    · rw [if_neg z, if_neg z, old 16 t (by omega) (by omega) (Or.inl z), old 24 t (by omega) (by omega) (Or.inl z), old 25 t (by omega) (by omega) (Or.inl z), keep 1 (by omega), keep 2 (by omega)]
      exact hf t (by omega)
  · unfold mw
    exact ((((((((RS.mu _ _ _ _ (by first | exact hc | decide) (by decide)).tr (RS.mu _ _ _ _ (by first | exact hc | decide) (by decide))).tr (RS.mu _ _ _ _ (by first | exact hc | decide) (by decide))).tr (RS.mu _ _ _ _ (by first | exact hc | decide) (by decide))).tr (RS.mu _ _ _ _ (by first | exact hc | decide) (by decide))).tr (RS.mu _ _ _ _ (by first | exact hc | decide) (by decide))).tr (RS.mu _ _ _ _ (by first | exact hc | decide) (by decide))).tr (RS.mu _ _ _ _ (by first | exact hc | decide) (by decide))).tr (RS.mu _ _ _ _ (by first | exact hc | decide) (by decide))
  · rw [lh a h1 h2]
    funext b
    rw [Vm, if_neg (by omega), hnv, if_neg (by omega), if_neg (by omega)]
end Gg
