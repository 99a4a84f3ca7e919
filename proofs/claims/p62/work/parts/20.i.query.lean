section Pi
variable {cnt kc T hl : Nat} {σ S : Sg}
/-! p62: what the queries answer -/
theorem v_stateOf (D : DI cnt kc T hl σ) {t : Nat} (ht : t < cnt) : f_X8_stateOf (nI t) σ = some (σ 21 t) := by
  obtain ⟨-, h60, -, -, -, h15, -, -⟩ := D.b
  unfold f_X8_stateOf f_X8_ofTicket_state
  rw [ex1 h15 h60 ht, Option.bind_some, if_neg (by decide), if_pos (ib_nI (by omega) (by decide)), ix_nI (by omega), Option.bind_some]
theorem v_kindOf (D : DI cnt kc T hl σ) {t : Nat} (ht : t < cnt) : f_X8_kindOf (nI t) σ = some (σ 16 t) := by
  obtain ⟨-, h60, -, -, -, h15, -, -⟩ := D.b
  unfold f_X8_kindOf f_X8_ofTicket_kind
  rw [ex1 h15 h60 ht, Option.bind_some, if_neg (by decide), if_pos (ib_nI (by omega) (by decide)), ix_nI (by omega), Option.bind_some]
theorem v_levelOf (D : DI cnt kc T hl σ) {t : Nat} (ht : t < cnt) : f_X8_levelOf (nI t) σ = some (σ 20 t) := by
  obtain ⟨-, h60, -, -, -, h15, -, -⟩ := D.b
  unfold f_X8_levelOf f_X8_ofTicket_level
  rw [ex1 h15 h60 ht, Option.bind_some, if_neg (by decide), if_pos (ib_nI (by omega) (by decide)), ix_nI (by omega), Option.bind_some]
theorem v_progress (D : DI cnt kc T hl σ) {t : Nat} (ht : t < cnt) : f_X8_progress (nI t) σ = some (σ 22 t) := by
  obtain ⟨-, h60, -, -, -, h15, -, -⟩ := D.b
  unfold f_X8_progress f_X8_ofTicket_progress
  rw [ex1 h15 h60 ht, Option.bind_some, if_neg (by decide), if_pos (ib_nI (by omega) (by decide)), ix_nI (by omega), Option.bind_some]
theorem v_rootOf (D : DI cnt kc T hl σ) {t : Nat} (ht : t < cnt) : f_X8_rootOf (nI t) σ = some (σ 26 t) := by
  obtain ⟨-, h60, -, -, -, h15, -, -⟩ := D.b
  unfold f_X8_rootOf f_X8_ofTicket_root
  rw [ex1 h15 h60 ht, Option.bind_some, if_neg (by decide), if_pos (ib_nI (by omega) (by decide)), ix_nI (by omega), Option.bind_some]
theorem v_reportedAt (D : DI cnt kc T hl σ) {t : Nat} (ht : t < cnt) : f_X8_reportedAt (nI t) σ = some (σ 27 t) := by
  obtain ⟨-, h60, -, -, -, h15, -, -⟩ := D.b
  unfold f_X8_reportedAt f_X8_ofTicket_reportedAt
  rw [ex1 h15 h60 ht, Option.bind_some, if_neg (by decide), if_pos (ib_nI (by omega) (by decide)), ix_nI (by omega), Option.bind_some]
theorem v_answeredAt (D : DI cnt kc T hl σ) {t : Nat} (ht : t < cnt) : f_X8_answeredAt (nI t) σ = some (σ 28 t) := by
  obtain ⟨-, h60, -, -, -, h15, -, -⟩ := D.b
  unfold f_X8_answeredAt f_X8_ofTicket_answeredAt
  rw [ex1 h15 h60 ht, Option.bind_some, if_neg (by decide), if_pos (ib_nI (by omega) (by decide)), ix_nI (by omega), Option.bind_some]
theorem v_solvedAt (D : DI cnt kc T hl σ) {t : Nat} (ht : t < cnt) : f_X8_solvedAt (nI t) σ = some (σ 29 t) := by
  obtain ⟨-, h60, -, -, -, h15, -, -⟩ := D.b
  unfold f_X8_solvedAt f_X8_ofTicket_solvedAt
  rw [ex1 h15 h60 ht, Option.bind_some, if_neg (by decide), if_pos (ib_nI (by omega) (by decide)), ix_nI (by omega), Option.bind_some]
theorem v_responseClock (D : DI cnt kc T hl σ) {t : Nat} (ht : t < cnt) : f_X8_responseClock (nI t) σ = some (σ 24 t) := by
  obtain ⟨-, h60, -, -, -, h15, -, -⟩ := D.b
  unfold f_X8_responseClock f_X8_ofTicket_responseClock
  rw [ex1 h15 h60 ht, Option.bind_some, if_neg (by decide), if_pos (ib_nI (by omega) (by decide)), ix_nI (by omega), Option.bind_some]
theorem v_resolveClock (D : DI cnt kc T hl σ) {t : Nat} (ht : t < cnt) : f_X8_resolveClock (nI t) σ = some (σ 25 t) := by
  obtain ⟨-, h60, -, -, -, h15, -, -⟩ := D.b
  unfold f_X8_resolveClock f_X8_ofTicket_resolveClock
  rw [ex1 h15 h60 ht, Option.bind_some, if_neg (by decide), if_pos (ib_nI (by omega) (by decide)), ix_nI (by omega), Option.bind_some]
theorem w_1 {a b c : Nat} (h1 : b ≤ a) (h2 : a ≤ c) (h3 : c < 100000) : f_X8_within (nI a) (nI b) (nI c) = some 1 := by
  unfold f_X8_within
  rw [if_neg (Int32.not_lt.mpr (nI_le' h1 (by omega))), if_neg (Int32.not_lt.mpr (nI_le' h2 h3))]
theorem v_twins (D : DI cnt kc T hl σ) {t : Nat} (ht : t < cnt) {N : Nat} (hN : 100 < N) : f_X8_twins N (nI t) σ = some (mk (fun j => decide (σ 26 j = nI t)) cnt) := by
  obtain ⟨-, h60, -, -, -, h15, -, -⟩ := D.b
  unfold f_X8_twins
  rw [ex1 h15 h60 ht, Option.bind_some, if_neg (by decide), tm_v h15 h60 (nI t) hN, Option.bind_some]
theorem v_logTime {ln e : Nat} (h7 : σ 7 0 = nI ln) (hl : ln ≤ 600) (he : e < ln) : f_X8_logTime (nI e) σ = some (σ 8 e) := by
  unfold f_X8_logTime f_X8_ofEvent_time
  rw [h7, show nI ln - 1 = nI (ln - 1) from nI_sub' (b := 1) (by omega) (by omega), show f_X8_within (nI e) 0 (nI (ln - 1)) = some 1 from w_1 (b := 0) (Nat.zero_le _) (by omega) (by omega), Option.bind_some, if_neg (by decide), if_pos (ib_nI (by omega) (by decide)), ix_nI (by omega), Option.bind_some]
theorem v_logType {ln e : Nat} (h7 : σ 7 0 = nI ln) (hl : ln ≤ 600) (he : e < ln) : f_X8_logType (nI e) σ = some (σ 9 e) := by
  unfold f_X8_logType f_X8_ofEvent_type
  rw [h7, show nI ln - 1 = nI (ln - 1) from nI_sub' (b := 1) (by omega) (by omega), show f_X8_within (nI e) 0 (nI (ln - 1)) = some 1 from w_1 (b := 0) (Nat.zero_le _) (by omega) (by omega), Option.bind_some, if_neg (by decide), if_pos (ib_nI (by omega) (by decide)), ix_nI (by omega), Option.bind_some]
theorem v_logTicket {ln e : Nat} (h7 : σ 7 0 = nI ln) (hl : ln ≤ 600) (he : e < ln) : f_X8_logTicket (nI e) σ = some (σ 10 e) := by
  unfold f_X8_logTicket f_X8_ofEvent_ticket
  rw [h7, show nI ln - 1 = nI (ln - 1) from nI_sub' (b := 1) (by omega) (by omega), show f_X8_within (nI e) 0 (nI (ln - 1)) = some 1 from w_1 (b := 0) (Nat.zero_le _) (by omega) (by omega), Option.bind_some, if_neg (by decide), if_pos (ib_nI (by omega) (by decide)), ix_nI (by omega), Option.bind_some]
theorem v_logDetail {ln e : Nat} (h7 : σ 7 0 = nI ln) (hl : ln ≤ 600) (he : e < ln) : f_X8_logDetail (nI e) σ = some (σ 11 e) := by
  unfold f_X8_logDetail f_X8_ofEvent_detail
  rw [h7, show nI ln - 1 = nI (ln - 1) from nI_sub' (b := 1) (by omega) (by omega), show f_X8_within (nI e) 0 (nI (ln - 1)) = some 1 from w_1 (b := 0) (Nat.zero_le _) (by omega) (by omega), Option.bind_some, if_neg (by decide), if_pos (ib_nI (by omega) (by decide)), ix_nI (by omega), Option.bind_some]
theorem w_lv {l : Nat} (h : l < 4) : f_X8_within (nI l) 0 3 = some 1 := w_1 (b := 0) (c := 3) (Nat.zero_le _) (by omega) (by decide)
theorem v_queueLength (D : DI cnt kc T hl σ) {l : Nat} (h : l < 4) {N : Nat} (hN : 100 < N) : f_X8_queueLength N (nI l) σ = some (nI (fb_ct (fun t => decide (σ 21 t = 0 ∧ σ 20 t = nI l)) cnt)) := by
  obtain ⟨-, h60, -, -, -, h15, -, -⟩ := D.b
  unfold f_X8_queueLength
  rw [w_lv h, Option.bind_some, if_neg (by decide), ca_v h15 h60 _ _ hN, Option.bind_some]
theorem v_busyAgents (D : DI cnt kc T hl σ) {l : Nat} (h : l < 4) {N : Nat} (hN : 100 < N) : f_X8_busyAgents N (nI l) σ = some (nI (fb_ct (wB σ l) cnt)) := by
  obtain ⟨-, h60, -, -, -, h15, -, -⟩ := D.b
  unfold f_X8_busyAgents
  rw [w_lv h, Option.bind_some, if_neg (by decide), ca_v h15 h60 _ _ hN, Option.bind_some]
  rfl
theorem v_agents {l : Nat} (h : l < 4) : f_X8_agents (nI l) σ = some (σ 30 l) := by
  unfold f_X8_agents
  rw [w_lv h, Option.bind_some, if_neg (by decide), if_pos (ib_nI h (by decide)), ix_nI (by omega)]
theorem DI.cc (D : DI cnt kc T hl σ) : CC cnt kc σ := by
  obtain ⟨⟨μ, V⟩, -⟩ := D
  exact V.cc
theorem v_nextTicket (D : DI cnt kc T hl σ) {l : Nat} (h : l < 4) {N : Nat} (hN : 100 < N) : ∃ v, f_X8_nextTicket N (nI l) σ = some v ∧ (v < 0 ↔ fb_ct (fun t => decide (σ 21 t = 0 ∧ σ 20 t = nI l)) cnt = 0) := by
  have h60 := D.b.2.1
  obtain ⟨q, q2⟩ := fq_v D.cc (nI l) hN
  refine ⟨fqV (nI l) cnt σ, ?_, ?_⟩
  · unfold f_X8_nextTicket
    rw [w_lv h, Option.bind_some, if_neg (by decide), q2, Option.bind_some]
  · rcases q with ⟨v, no⟩ | ⟨t, t1, t2, v, tq⟩
    · rw [v]
      refine ⟨fun _ => fb_ct_zero.mpr (fun k hk => decide_eq_false (no k hk)), fun _ => by decide⟩
    · rw [v]
      refine ⟨fun z => absurd z (nI_pos (by omega)), fun z => ?_⟩
      have := fb_ct_zero.mp z t t2
      exact absurd tq (of_decide_eq_false this)
theorem w_kc (D : DI cnt kc T hl σ) : f_X8_within (-1) (-1) (σ 0 0 - 1) = some 1 := by
  obtain ⟨-, -, hk, -, -, -, h0, -⟩ := D.b
  unfold f_X8_within
  rw [if_neg (by decide), h0, if_neg]
  intro z
  have z1 := z_lt.mp z
  rw [z_sub (by rw [z_nI (by omega)]; omega) (by rw [z_nI (by omega)]; omega) (by decide) (by decide), z_nI (by omega), z_1, z_m1] at z1
  omega
theorem v_responseBreaches (D : DI cnt kc T hl σ) {N : Nat} (hN : 100 < N) : f_X8_responseBreaches N (-1) σ = some (nI (fb_ct (lR σ (-1)) cnt)) := by
  unfold f_X8_responseBreaches
  rw [w_kc D, Option.bind_some, if_neg (by decide), lR_v D.cc _ hN, Option.bind_some]
theorem v_resolveBreaches (D : DI cnt kc T hl σ) {N : Nat} (hN : 100 < N) : f_X8_resolveBreaches N (-1) σ = some (nI (fb_ct (lV σ (-1)) cnt)) := by
  unfold f_X8_resolveBreaches
  rw [w_kc D, Option.bind_some, if_neg (by decide), lV_v D.cc _ hN, Option.bind_some]
/-! open minutes -/
def omD (σ : Sg) (x y d : Nat) : Nat := min (1440 * d + (σ 14 d).toInt.toNat) y - max x (1440 * d + (σ 13 d).toInt.toNat)
theorem omF_v (K : CI σ) {x y d : Nat} (hd : d < 7) (hx : x ≤ 10080) (hy : y ≤ 10080) {a : Nat} (ha : a ≤ 100000) : omF σ (nI x) (nI y) d (nI a) = nI (a + omD σ x y d) := by
  obtain ⟨⟨a1, a2⟩, b1, b2⟩ := K d hd
  obtain ⟨o, ho⟩ : ∃ o : Nat, o = (σ 13 d).toInt.toNat := ⟨_, rfl⟩
  obtain ⟨c, hc⟩ : ∃ c : Nat, c = (σ 14 d).toInt.toNat := ⟨_, rfl⟩
  have e13 : σ 13 d = nI o := z_eq.mpr (by rw [z_nI (by omega)]; omega)
  have e14 : σ 14 d = nI c := z_eq.mpr (by rw [z_nI (by omega)]; omega)
  have m : (nI d * 1440 : Int32) = nI (1440 * d) := by
    rw [Int32.mul_comm, show (1440 : Int32) = nI 1440 from rfl, pk_mul]
  have i1 : (if nI (1440 * d + c) < nI y then nI (1440 * d + c) else nI y) = nI (min (1440 * d + c) y) := by
    by_cases z : 1440 * d + c < y
    · rw [if_pos (Int32.not_le.mp (nI_ge' z (by omega))), Nat.min_eq_left (by omega)]
    · rw [if_neg (Int32.not_lt.mpr (nI_le' (by omega) (by omega))), Nat.min_eq_right (by omega)]
  have i2 : (if nI x < nI (1440 * d + o) then nI (1440 * d + o) else nI x) = nI (max x (1440 * d + o)) := by
    by_cases z : x < 1440 * d + o
    · rw [if_pos (Int32.not_le.mp (nI_ge' z (by omega))), Nat.max_eq_right (by omega)]
    · rw [if_neg (Int32.not_lt.mpr (nI_le' (by omega) (by omega))), Nat.max_eq_left (by omega)]
  have u1 : min (1440 * d + c) y ≤ 11520 := by omega
  have u2 : max x (1440 * d + o) ≤ 11520 := by omega
  unfold omF omD
  rw [← ho, ← hc, e13, e14, m, nI_add, nI_add, i1, i2]
  generalize min (1440 * d + c) y = p at u1
  generalize max x (1440 * d + o) = q at u2
  have zp := z_nI (n := p) (by omega)
  have zq := z_nI (n := q) (by omega)
  have zz := z_sub (a := nI p) (b := nI q) (by omega) (by omega) (by omega) (by omega)
  by_cases z : q < p
  · rw [if_pos (z_lt.mpr (by rw [z_0, zz]; omega)), nI_sub' (by omega) (by omega), nI_add]
  · rw [if_neg (fun w => by
      have := z_lt.mp w
      rw [z_0, zz] at this
      omega), show p - q = 0 by omega]
    exact nI_add a 0
theorem om_n (K : CI σ) {x y : Nat} (hx : x ≤ 10080) (hy : y ≤ 10080) : ∀ n, n ≤ 7 → itr (omF σ (nI x) (nI y)) n 0 = nI (fb_sm (omD σ x y) n) ∧ fb_sm (omD σ x y) n ≤ 10080 * n
  | 0, _ => ⟨rfl, Nat.le_refl _⟩
  | n + 1, h => by
    obtain ⟨i1, i2⟩ := om_n K hx hy n (by omega)
    have : omD σ x y n ≤ y := by unfold omD; omega
    rw [itr_s, i1, fb_sm_succ]
    exact ⟨omF_v K (by omega) hx hy (by omega), by omega⟩
theorem omD_s (K : CI σ) {x y d : Nat} (hd : d < 7) (hxy : x ≤ y) (hy : y < 10080) : omD σ x (y + 1) d = omD σ x y d + (if d = y / 1440 then (if opB σ y = true then 1 else 0) else 0) := by
  obtain ⟨⟨a1, a2⟩, b1, b2⟩ := K d hd
  unfold omD
  by_cases z : d = y / 1440
  · subst z
    rw [if_pos rfl]
    have e : opB σ y = decide ((σ 13 (y / 1440)).toInt.toNat ≤ y % 1440 ∧ y % 1440 < (σ 14 (y / 1440)).toInt.toNat) := by
      unfold opB
      by_cases p : (σ 13 (y / 1440)).toInt.toNat ≤ y % 1440 ∧ y % 1440 < (σ 14 (y / 1440)).toInt.toNat
      · rw [decide_eq_true p, decide_eq_true (by omega), decide_eq_true (by omega)]
        rfl
      · rw [decide_eq_false p]
        by_cases q : (σ 13 (y / 1440)).toInt ≤ ((y % 1440 : Nat) : Int)
        · rw [decide_eq_true q, decide_eq_false (by omega)]
          rfl
        · rw [decide_eq_false q]
          rfl
    rw [e]
    by_cases p : (σ 13 (y / 1440)).toInt.toNat ≤ y % 1440 ∧ y % 1440 < (σ 14 (y / 1440)).toInt.toNat
    · rw [if_pos (decide_eq_true p)]
      omega
    · rw [if_neg (fun w => p (of_decide_eq_true w))]
      omega
  · rw [if_neg z]
    omega
theorem om_ct (K : CI σ) (x : Nat) : ∀ n, x + n ≤ 10080 → fb_sm (omD σ x (x + n)) 7 = fb_ct (fun i => opB σ (x + i)) n
  | 0, h => by
    show fb_sm (omD σ x x) 7 = 0
    have : fb_sm (omD σ x x) 7 ≤ 7 * 0 := fb_sm_bound (fun k hk => by unfold omD; omega)
    omega
  | n + 1, h => by
    have ih := om_ct K x n (by omega)
    rw [fb_ct_succ, ← ih]
    have e1 : fb_sm (omD σ x (x + (n + 1))) 7 = fb_sm (fun k => if k = (x + n) / 1440 then omD σ x (x + n) ((x + n) / 1440) + (if opB σ (x + n) = true then 1 else 0) else omD σ x (x + n) k) 7 := fb_sm_cong (fun k hk => by
      rw [show x + (n + 1) = x + n + 1 from rfl, omD_s K hk (by omega) (by omega)]
      by_cases z : k = (x + n) / 1440
      · rw [if_pos z, if_pos z, z]
      · rw [if_neg z, if_neg z]
        rfl)
    have e2 := fb_sm_upd (omD σ x (x + n)) (omD σ x (x + n) ((x + n) / 1440) + (if opB σ (x + n) = true then 1 else 0)) (i := (x + n) / 1440) (n := 7) (by omega)
    rw [e1]
    omega
theorem v_openMinutes (K : CI σ) {x d : Nat} (h : x + d ≤ 10080) {N : Nat} (hN : 100 < N) : f_X8_openMinutes N (nI x) (nI (x + d)) σ = some (nI (fb_ct (fun i => opB σ (x + i)) d)) := by
  have w1 : f_X8_within (nI x) 0 10080 = some 1 := w_1 (b := 0) (c := 10080) (Nat.zero_le _) (by omega) (by decide)
  have w2 : f_X8_within (nI (x + d)) (nI x) 10080 = some 1 := w_1 (c := 10080) (by omega) (by omega) (by decide)
  unfold f_X8_openMinutes
  rw [w1, Option.bind_some, if_neg (by decide), w2, Option.bind_some, if_neg (by decide), om_v _ _ hN, Option.bind_some, (om_n K (by omega) h 7 (by decide)).1, om_ct K x d h]
/-! masks -/
theorem dg_bit (b : Nat → Nat) (hb : ∀ i, b i ≤ 1) : ∀ (n k : Nat), k < n → dg 2 b n / 2 ^ k % 2 = b k
  | 0, k, h => absurd h (Nat.not_lt_zero _)
  | n + 1, 0, _ => by
    rw [dg_s, Nat.pow_zero, Nat.div_one]
    have := hb 0
    omega
  | n + 1, k + 1, h => by
    rw [Nat.pow_succ, Nat.mul_comm, ← Nat.div_div_eq_div_mul, dg_div b n (by have := hb 0; omega)]
    exact dg_bit (fun i => b (i + 1)) (fun i => hb (i + 1)) n k (by omega)
theorem b01_1 (p : Nat → Bool) (n j : Nat) : b01 p n j ≤ 1 := by
  unfold b01
  split <;> omega
theorem mk_lt (p : Nat → Bool) {n : Nat} (h : n ≤ 60) : dg 2 (b01 p n) n < 2 ^ 60 := Nat.lt_of_lt_of_le (dgb_lt p n n) (Nat.pow_le_pow_right (by decide) h)
theorem pf_lI {a : Nat} (h : a < 2 ^ 63) : (lN a).toInt = (a : Int) := lg_ofNat_toInt h
theorem pf_shr {a d : Nat} {D : Int64} (hD : (D.toBitVec.smod 64).toNat = d) (h : a < 2 ^ 62) : lN a >>> D = lN (a / 2 ^ d) := by
  have hd : a / 2 ^ d ≤ a := Nat.div_le_self _ _
  apply Int64.toInt_inj.mp
  have e : (lN a >>> D).toInt = (lN a).toInt >>> d := by
    rw [← hD]
    exact BitVec.toInt_sshiftRight ..
  rw [e, Int.shiftRight_eq_div_pow, pf_lI (by omega), pf_lI (by omega)]
  rfl
theorem sr_k : ∀ k, k < 64 → (((nI k).toInt64 &&& 63).toBitVec.smod 64).toNat = k := by decide +kernel
/-- a bit of a mask -/
theorem mk_bit (p : Nat → Bool) {n k : Nat} (h : n ≤ 60) (hk : k < n) : (mk p n >>> ((nI k).toInt64 &&& 63)) &&& 1 = if p k = true then 1 else 0 := by
  have h1 := mk_lt p h
  unfold mk
  rw [pf_shr (sr_k k (by omega)) (by omega), wb_a1 (Nat.lt_of_le_of_lt (Nat.div_le_self _ _) (by omega)), dg_bit _ (b01_1 p n) n k hk]
  unfold b01
  by_cases z : p k = true
  · rw [if_pos ⟨hk, z⟩, if_pos z]
    rfl
  · rw [if_neg (fun w => z w.2), if_neg z]
    rfl
theorem mk_ext (p q : Nat → Bool) {n : Nat} (h : ∀ k, k < n → p k = q k) : mk p n = mk q n := by
  unfold mk
  congr 1
  exact dg_cong 2 n (fun i hi => by
    unfold b01
    rw [h i hi])
theorem dg_or (p q : Nat → Bool) (n : Nat) : ∀ m, m ≤ n → dg 2 (b01 p n) m ||| dg 2 (b01 q n) m = dg 2 (b01 (fun k => p k || q k) n) m
  | 0, _ => by simp [dg]
  | m + 1, h => by
    have l1 : dg 2 (b01 p n) m < 2 ^ m := by rw [dg_b01 p (by omega)]; exact dgb_lt p m m
    have l2 : dg 2 (b01 q n) m < 2 ^ m := by rw [dg_b01 q (by omega)]; exact dgb_lt q m m
    have ih := dg_or p q n m (by omega)
    rw [dg_last, dg_last, dg_last, ← ih, Nat.add_comm (dg 2 (b01 p n) m), Nat.add_comm (dg 2 (b01 q n) m), Nat.add_comm (_ ||| _)]
    apply Nat.eq_of_testBit_eq
    intro i
    rw [Nat.testBit_or, Nat.testBit_two_pow_mul_add _ l1, Nat.testBit_two_pow_mul_add _ l2, Nat.testBit_two_pow_mul_add _ (Nat.or_lt_two_pow l1 l2)]
    split
    · rw [Nat.testBit_or]
    · rw [← Nat.testBit_or]
      congr 1
      unfold b01
      have hm : m < n := by omega
      by_cases a : p m = true
      · by_cases b : q m = true
        · rw [if_pos ⟨hm, a⟩, if_pos ⟨hm, b⟩, if_pos ⟨hm, by simp [a]⟩]
          rfl
        · rw [if_pos ⟨hm, a⟩, if_neg (fun w => b w.2), if_pos ⟨hm, by simp [a]⟩]
          rfl
      · by_cases b : q m = true
        · rw [if_neg (fun w => a w.2), if_pos ⟨hm, b⟩, if_pos ⟨hm, by simp [b]⟩]
          rfl
        · rw [if_neg (fun w => a w.2), if_neg (fun w => b w.2), if_neg (fun w => by simp [a, b] at w)]
          rfl
theorem mk_or (p q : Nat → Bool) {n : Nat} (h : n ≤ 60) : mk p n ||| mk q n = mk (fun k => p k || q k) n := by
  have h1 := mk_lt p h
  have h2 := mk_lt q h
  unfold mk
  rw [wb_or (by omega) (by omega), dg_or p q n n (Nat.le_refl _)]
theorem dg_one {t : Nat} : ∀ m, dg 2 (b01 (fun k => decide (k = t)) m) m = if t < m then 2 ^ t else 0
  | 0 => by
    rw [if_neg (Nat.not_lt_zero _)]
    rfl
  | m + 1 => by
    rw [dg_last, dg_b01 _ (by omega), dg_one m]
    unfold b01
    by_cases z : m = t
    · subst z
      rw [if_neg (Nat.lt_irrefl _), if_pos ⟨by omega, decide_eq_true rfl⟩, if_pos (by omega)]
      omega
    · rw [if_neg (c := m < m + 1 ∧ (fun k => decide (k = t)) m = true) (fun w => z (of_decide_eq_true w.2))]
      by_cases y : t < m
      · rw [if_pos y, if_pos (by omega)]
        omega
      · rw [if_neg y, if_neg (by omega)]
        rfl
theorem mk_one {t n : Nat} (h : n ≤ 60) (ht : t < n) : (1 : Int64) <<< ((nI t).toInt64 &&& 63) = mk (fun k => decide (k = t)) n := by
  unfold mk
  rw [dg_one, if_pos ht, show (1 : Int64) = lN 1 from rfl, wb_shl 1 (by omega), Nat.one_mul]
theorem mk_none {p : Nat → Bool} {n : Nat} (h : ∀ k, k < n → p k = false) : mk p n = 0 := by
  have h0 : ∀ (m : Nat) (f : Nat → Nat), (∀ i, i < m → f i = 0) → dg 2 f m = 0 := by
    intro m
    induction m with
    | zero => intro f _; rfl
    | succ m ih =>
      intro f hf
      rw [dg_s, hf 0 (by omega), ih _ (fun i hi => hf (i + 1) (by omega))]
  unfold mk
  rw [h0 n _ (fun i hi => by
    unfold b01
    rw [if_neg (fun w => by rw [h i hi] at w; exact absurd w.2 (by decide))])]
  rfl
end Pi
