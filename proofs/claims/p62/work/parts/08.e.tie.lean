section Ge
variable {L cnt kc : Nat} {σ μ : Sg}
theorem dg_last (B : Nat) : ∀ (n : Nat) (f : Nat → Nat), dg B f (n + 1) = dg B f n + B ^ n * f n
  | 0, f => by simp [dg]
  | n + 1, f => by
    rw [dg_s, dg_last B n, dg_s, Nat.mul_add, Nat.pow_succ, Nat.mul_comm (B ^ n) B, ← Nat.mul_assoc]
    omega
theorem dg_ext (B : Nat) (f : Nat → Nat) (n : Nat) (h : ∀ i, n ≤ i → f i = 0) : ∀ k, dg B f (n + k) = dg B f n
  | 0 => rfl
  | k + 1 => by
    rw [show n + (k + 1) = (n + k) + 1 from by omega, dg_zero B (n + k) f (h _ (by omega)), dg_ext B f n h k]
def b01 (p : Nat → Bool) (n j : Nat) : Nat := if j < n ∧ p j = true then 1 else 0
theorem sm_b01 (p : Nat → Bool) (n : Nat) : ∀ m, fb_sm (b01 p n) m = fb_ct p (min m n)
  | 0 => by rw [Nat.zero_min]; rfl
  | m + 1 => by
    rw [fb_sm_succ, sm_b01 p n m]
    unfold b01
    rcases Nat.lt_or_ge m n with h | h
    · rw [show min (m + 1) n = m + 1 from by omega, show min m n = m from by omega, fb_ct_succ]
      by_cases q : p m = true
      · rw [if_pos ⟨h, q⟩, if_pos q]
      · rw [if_neg (fun z => q z.2), if_neg q]
    · rw [show min (m + 1) n = n from by omega, show min m n = n from by omega, if_neg (fun z => by omega), Nat.add_zero]
theorem dg_b01 (p : Nat → Bool) {n m : Nat} (h : m ≤ n) : dg 2 (b01 p n) m = dg 2 (b01 p m) m := dg_cong 2 m (fun i hi => by
  unfold b01
  by_cases q : p i = true
  · rw [if_pos ⟨by omega, q⟩, if_pos ⟨hi, q⟩]
  · rw [if_neg (fun z => q z.2), if_neg (fun z => q z.2)])
/-- the bit of ticket i put into a mask of the lower ones -/
theorem or_bit {m i : Nat} (hm : m < 2 ^ i) (hi : i < 60) : lN m ||| ((1 : Int64) <<< ((nI i).toInt64 &&& 63)) = lN (m + 2 ^ i) := by
  have h1 : (1 : Int64) = lN 1 := rfl
  have p2 : 2 ^ i < 2 ^ 64 := Nat.pow_lt_pow_right (by decide) (by omega)
  rw [h1, wb_shl 1 (by omega), Nat.one_mul, wb_or (by omega) p2]
  have := Nat.two_pow_add_eq_or_of_lt hm 1
  rw [Nat.mul_one] at this
  rw [Nat.or_comm, ← this, Nat.add_comm]
theorem dgb_lt (p : Nat → Bool) (n m : Nat) : dg 2 (b01 p n) m < 2 ^ m := dg_lt (by decide) m _ (fun i _ => by unfold b01; split <;> omega)
/-- the mask of the tickets with a property -/
def mk (p : Nat → Bool) (n : Nat) : Int64 := lN (dg 2 (b01 p n) n)
theorem mk_s (p : Nat → Bool) {i : Nat} (hi : i < 60) : mk p (i + 1) = if p i = true then mk p i ||| ((1 : Int64) <<< ((nI i).toInt64 &&& 63)) else mk p i := by
  unfold mk
  rw [dg_last, dg_b01 p (show i ≤ i + 1 by omega)]
  by_cases q : p i = true
  · rw [if_pos q, or_bit (dgb_lt p i i) hi]
    congr 2
    unfold b01
    rw [if_pos ⟨by omega, q⟩, Nat.mul_one]
  · rw [if_neg q]
    congr 1
    unfold b01
    rw [if_neg (fun z => q z.2), Nat.mul_zero, Nat.add_zero]
theorem bc_mk (p : Nat → Bool) {n : Nat} (h : n ≤ 60) : f_J13_bitCount_95d88 (mk p n) = some (nI (fb_ct p n)) := by
  have e : mk p n = lN (dg 2 (b01 p n) 64) := by
    unfold mk
    rw [show (64 : Nat) = n + (64 - n) from by omega, dg_ext 2 (b01 p n) n (fun i hi => by unfold b01; rw [if_neg (fun z => by omega)])]
  rw [e, bc_v (b01 p n) (fun i => by unfold b01; split <;> omega) (fun i hi => by unfold b01; rw [if_neg (fun z => by omega)]), sm_b01, show min 64 n = n from by omega]
/-- the class's mask of a root's twins -/
theorem tm_v (hc : σ 15 0 = nI cnt) (h60 : cnt ≤ 60) (x : Int32) {N : Nat} (hN : 100 < N) : f_X7_twinMask N x σ = some (mk (fun j => decide (σ 26 j = x)) cnt) := by
  have key := lift_itr (α := Int64) (fun n i y => f_X7_twinMask_5 N n x y i σ) (fun i y => if decide (σ 26 i = x) = true then y ||| ((1 : Int64) <<< ((nI i).toInt64 &&& 63)) else y) (fun i y => y = mk (fun j => decide (σ 26 j = x)) i) some cnt
    (fun n i y hi I => by
      subst I
      refine ⟨(mk_s (fun j => decide (σ 26 j = x)) (show i < 60 by omega)).symm, ?_⟩
      show f_X7_twinMask_5 N (n + 1) x _ (nI i) σ = f_X7_twinMask_5 N n x _ (nI (i + 1)) σ
      rw [f_X7_twinMask_5, hc, if_neg (nI_ge hi (by omega)), if_pos (ib_nI (by omega) (by decide)), ix_nI (by omega), nI_1]
      by_cases q : σ 26 i = x
      · rw [if_pos q, decide_eq_true q, if_pos rfl]
      · rw [if_neg q, decide_eq_false q]
        rfl)
    (fun n y I => by
      show f_X7_twinMask_5 N (n + 1) x y (nI cnt) σ = _
      rw [f_X7_twinMask_5, hc, if_pos (nI_le (Nat.le_refl _) (by omega))]) 0 rfl N (by omega)
  unfold f_X7_twinMask
  rw [key.2, key.1]
theorem up_comm2 (σ : Sg) (k i : Nat) (v : Int32) (k' i' : Nat) (v' : Int32) (h : ¬ (k = k' ∧ i = i')) : up (up σ k i v) k' i' v' = up (up σ k' i' v') k i v := by
  funext a b
  rw [up_ite, up_ite, up_ite, up_ite]
  by_cases h1 : a = k ∧ b = i
  · rw [if_pos h1, if_pos h1, if_neg (fun q => h ⟨h1.1.symm.trans q.1, h1.2.symm.trans q.2⟩)]
  · rw [if_neg h1, if_neg h1]
/-! joining -/
def yT (t r j : Nat) (σ : Sg) : Sg := if σ 26 j = nI t then up σ 26 j (nI r) else σ
theorem yT_ex (t r j : Nat) (σ : Sg) : Ex [26] σ (yT t r j σ) := by
  unfold yT
  split
  · exact Ex.up _ _ _ (by decide)
  · exact Ex.rf _ _
theorem yT_26 (t r n : Nat) : ∀ j, itr (yT t r) n σ 26 j = if j < n ∧ σ 26 j = nI t then nI r else σ 26 j := by
  induction n with
  | zero =>
    intro j
    rw [if_neg (fun z => Nat.not_lt_zero _ z.1)]
    rfl
  | succ n ih =>
    intro j
    have en : itr (yT t r) n σ 26 n = σ 26 n := by rw [ih, if_neg (fun z => by omega)]
    rw [itr_s, show yT t r n (itr (yT t r) n σ) = if itr (yT t r) n σ 26 n = nI t then up (itr (yT t r) n σ) 26 n (nI r) else itr (yT t r) n σ from rfl]
    by_cases c : σ 26 n = nI t
    · rw [if_pos (en.trans c), up_ite, ih]
      by_cases z : j = n
      · subst z
        rw [if_pos ⟨rfl, rfl⟩, if_pos ⟨by omega, c⟩]
      · rw [if_neg (fun w => z w.2)]
        by_cases y : j < n ∧ σ 26 j = nI t
        · rw [if_pos y, if_pos (c := j < n + 1 ∧ σ 26 j = nI t) ⟨by omega, y.2⟩]
        · rw [if_neg y, if_neg (c := j < n + 1 ∧ σ 26 j = nI t) (fun w => y ⟨by omega, w.2⟩)]
    · rw [if_neg (fun z => c (en.symm.trans z)), ih]
      by_cases y : j < n ∧ σ 26 j = nI t
      · rw [if_pos y, if_pos (c := j < n + 1 ∧ σ 26 j = nI t) ⟨by omega, y.2⟩]
      · rw [if_neg y, if_neg (c := j < n + 1 ∧ σ 26 j = nI t) (fun w => y ⟨by
          have : j ≠ n := fun v => c (by rw [← v]; exact w.2)
          omega, w.2⟩)]
theorem mk_join {T : Nat} (F : FI L cnt kc T σ μ) {t r : Nat} (ht : t < cnt) (hr : r < cnt) (hne : t ≠ r) (ta : σ 21 t = 0 ∨ σ 21 t = 1 ∨ σ 21 t = 2) (ra' : σ 21 r = 0 ∨ σ 21 r = 1 ∨ σ 21 r = 2) {N : Nat} (hN : 100 < N) (wd : Int64) :
    MR L cnt kc T σ μ (f_X1_tie N L (nI t) (nI r) σ) (f_X9_makeTwin N (nI t) (nI r) μ wd) := by
  have h6 := F.1.lt ht
  have h60 := F.1.1
  have v6 := F.2.2.1.2.2.2.2.2.1
  have t26 := v6.alone ht ta
  have r26 := v6.alone hr ra'
  have nm : ∀ q : Nat, q < cnt → nI q ≠ -1 := fun q h => nI_m1 (by omega)
  -- the class's roots
  have key1 := lift_itr (α := Sg) (fun n x τ => f_X1_tie_2 N L n (nI t) (nI r) x τ) (yT t r) (fun i τ => τ 15 0 = nI cnt) (fun τ => (f_X4_write L (τ 12 0) 6 (nI t) (nI r) (up (up τ 21 t 4) 26 t (nI r))).bind (fun p3 => (f_X7_twinMask N (nI r) p3).bind (fun p5 => (f_J13_bitCount_95d88 p5).bind (fun p7 => some (p7, p3))))) cnt
    (fun n i τ hi I => by
      refine ⟨by rw [yT_ex t r i τ 15 (by decide)]; exact I, ?_⟩
      show f_X1_tie_2 N L (n + 1) (nI t) (nI r) (nI i) τ = f_X1_tie_2 N L n (nI t) (nI r) (nI (i + 1)) (yT t r i τ)
      rw [f_X1_tie_2, I, if_neg (nI_ge hi (by omega)), if_pos (ib_nI (by omega) (by decide)), ix_nI (by omega), nI_1]
      unfold yT
      by_cases q : τ 26 i = nI t
      · rw [if_pos q, if_pos q]
      · rw [if_neg q, if_neg q])
    (fun n τ I => by
      show f_X1_tie_2 N L (n + 1) (nI t) (nI r) (nI cnt) τ = _
      rw [f_X1_tie_2, I, if_pos (nI_le (Nat.le_refl _) (by omega)), if_pos (ib_nI (by omega) (by decide)), ix_nI (by omega)]) σ F.1.c N (by omega)
  -- the reference's
  have S0 := (SH.rf F.1 F.2.1).w 21 t 4 (by decide) h6
  have key2 := sim_itr (α := Sg) (γ := Nat × Sg) (fun n x c => f_X9_makeTwin_13 N n (nI t) (nI r) (nI c.1) x c.2 wd) (yT t r)
    (fun i τ c => τ = itr (yT t r) i σ ∧ c.1 = fb_ct (fun j => decide ((if j = t ∨ σ 26 j = nI t then nI r else σ 26 j) = nI r)) i ∧ SH L cnt kc μ (if t < i then up (up τ 21 t 4) 26 t (nI r) else up τ 21 t 4) c.2) (fun c => (f_X9_log (c.2 1 (ix 0)) 6 (nI t) (nI r) c.2 wd).bind (fun p2 => some (nI c.1, p2))) cnt
    (fun n i τ c hi R => by
      obtain ⟨R1, R2, R3⟩ := R
      have n26 : τ 26 i = σ 26 i := by rw [R1, yT_26, if_neg (fun z => by omega)]
      have st52 : ∀ (k13 : Int32 → Int32 → Int32 → Int32 → Sg → Int64 → Option (Int32 × Sg)) (μ1 τ1 : Sg), SH L cnt kc μ τ1 μ1 → f_X9_makeTwin_52 N k13 (nI t) (nI r) (nI c.1) (nI i) μ1 wd = k13 (nI t) (nI r) (nI (c.1 + (if decide (τ1 26 i = nI r) = true then 1 else 0))) (nI (i + 1)) μ1 wd := fun k13 μ1 τ1 S => by
        unfold f_X9_makeTwin_52
        rw [tg_10 S.1.1 hi, Option.bind_some, nI_1 i]
        by_cases q : τ1 26 i = nI r
        · rw [if_pos q, decide_eq_true q, nI_1]
          rfl
        · rw [if_neg q, decide_eq_false q, show nI c.1 + 0 = nI c.1 from nI_add c.1 0]
          rfl
      have hB : ∀ j, j ≠ t → (if t < i then up (up τ 21 t 4) 26 t (nI r) else up τ 21 t 4) 26 j = τ 26 j := fun j hj => by
        split
        · rw [up_other (fun z => hj z.2), up_row (by decide)]
        · rw [up_row (by decide)]
      have st : f_X9_makeTwin_13 N (n + 1) (nI t) (nI r) (nI c.1) (nI i) c.2 wd = if i = t ∨ (if t < i then up (up τ 21 t 4) 26 t (nI r) else up τ 21 t 4) 26 i = nI t then f_X9_makeTwin_52 N (fun x1 x2 x3 x4 σ wd => f_X9_makeTwin_13 N n x1 x2 x3 x4 σ wd) (nI t) (nI r) (nI c.1) (nI i) (mu c.2 26 i (nI r)) wd else f_X9_makeTwin_52 N (fun x1 x2 x3 x4 σ wd => f_X9_makeTwin_13 N n x1 x2 x3 x4 σ wd) (nI t) (nI r) (nI c.1) (nI i) c.2 wd := by
        rw [f_X9_makeTwin_13, R3.1.1.mc, if_neg (nI_ge hi (by omega)), ms_10 (by omega), Option.bind_some]
        by_cases q : i = t
        · rw [if_pos (by rw [q]), if_pos (Or.inl q)]
        · rw [if_neg (fun z => q ((nI_eq (by omega) (by omega)).mp z)), tg_10 R3.1.1 hi, Option.bind_some]
          by_cases z : (if t < i then up (up τ 21 t 4) 26 t (nI r) else up τ 21 t 4) 26 i = nI t
          · rw [if_pos z, if_pos (Or.inr z)]
          · rw [if_neg z, if_neg (fun w => w.elim q z)]
      by_cases q : i = t
      · subst q
        have eA : yT i r i τ = τ := by
          unfold yT
          rw [if_neg (fun z => nm i hi (by rw [← z, n26]; exact t26))]
        have S' := R3.w 26 i (nI r) (by decide) (show i < 60 by omega)
        rw [if_neg (Nat.lt_irrefl _)] at S'
        refine ⟨(c.1 + 1, mu c.2 26 i (nI r)), ⟨?_, ?_, ?_⟩, ?_⟩
        · rw [itr_s, ← R1]
        · rw [fb_ct_succ, if_pos (Or.inl rfl), decide_eq_true rfl, ← R2]
          rfl
        · rw [eA, if_pos (by omega)]
          exact S'
        · refine st.trans ?_
          rw [if_pos (Or.inl rfl), st52 _ _ _ S', up_same, decide_eq_true rfl]
          rfl
      · have e26 := (hB i q).trans n26
        by_cases z : σ 26 i = nI t
        · have eA : yT t r i τ = up τ 26 i (nI r) := by
            unfold yT
            rw [if_pos (n26.trans z)]
          have S' := R3.w 26 i (nI r) (by decide) (show i < 60 by omega)
          have eU : up (if t < i then up (up τ 21 t 4) 26 t (nI r) else up τ 21 t 4) 26 i (nI r) = if t < i + 1 then up (up (up τ 26 i (nI r)) 21 t 4) 26 t (nI r) else up (up τ 26 i (nI r)) 21 t 4 := by
            by_cases y : t < i
            · rw [if_pos y, if_pos (by omega), up_comm2 _ 26 t _ 26 i _ (fun w => q w.2.symm), up_comm τ 21 t 4 26 i (nI r) (by decide)]
            · rw [if_neg y, if_neg (by omega), up_comm τ 21 t 4 26 i (nI r) (by decide)]
          rw [eU] at S'
          refine ⟨(c.1 + 1, mu c.2 26 i (nI r)), ⟨?_, ?_, ?_⟩, ?_⟩
          · rw [itr_s, ← R1]
          · rw [fb_ct_succ, if_pos (Or.inr z), decide_eq_true rfl, ← R2]
            rfl
          · rw [eA]
            exact S'
          · refine st.trans ?_
            have e1 : (if t < i + 1 then up (up (up τ 26 i (nI r)) 21 t 4) 26 t (nI r) else up (up τ 26 i (nI r)) 21 t 4) 26 i = nI r := by
              split
              · rw [up_other (fun w => q w.2), up_row (by decide), up_same]
              · rw [up_row (by decide), up_same]
            rw [if_pos (Or.inr (e26.trans z)), st52 _ _ _ S', e1, decide_eq_true rfl]
            rfl
        · have eA : yT t r i τ = τ := by
            unfold yT
            rw [if_neg (fun w => z (n26.symm.trans w))]
          have S' : SH L cnt kc μ (if t < i + 1 then up (up τ 21 t 4) 26 t (nI r) else up τ 21 t 4) c.2 := by
            by_cases y : t < i
            · rw [if_pos y] at R3
              rw [if_pos (by omega)]
              exact R3
            · rw [if_neg y] at R3
              rw [if_neg (by omega)]
              exact R3
          refine ⟨(c.1 + (if decide (σ 26 i = nI r) = true then 1 else 0), c.2), ⟨?_, ?_, ?_⟩, ?_⟩
          · rw [itr_s, ← R1]
          · rw [fb_ct_succ, if_neg (c := i = t ∨ σ 26 i = nI t) (fun w => w.elim q z), ← R2]
          · rw [eA]
            exact S'
          · refine st.trans ?_
            rw [if_neg (fun w => w.elim q (fun w => z (e26.symm.trans w))), st52 _ _ _ R3, e26])
    (fun n τ c R => by
      show f_X9_makeTwin_13 N (n + 1) (nI t) (nI r) (nI c.1) (nI cnt) c.2 wd = _
      rw [f_X9_makeTwin_13, R.2.2.1.1.mc, if_pos (nI_le (Nat.le_refl _) (by omega))])
    σ (0, mu μ 21 t 4) ⟨rfl, rfl, by rw [if_neg (Nat.not_lt_zero _)]; exact S0⟩ N (by omega)
  obtain ⟨c, ⟨-, c1, c2⟩, c3⟩ := key2
  rw [if_pos ht] at c2
  have xA : Ex [26] σ (itr (yT t r) cnt σ) := itr_ex (fun i σ => yT_ex t r i σ) σ cnt
  have p26 : ∀ j, up (up (itr (yT t r) cnt σ) 21 t 4) 26 t (nI r) 26 j = if j = t ∨ j < cnt ∧ σ 26 j = nI t then nI r else σ 26 j := fun j => by
    rw [up_ite, up_row (by decide), yT_26]
    by_cases z : j = t
    · rw [if_pos ⟨rfl, z⟩, if_pos (Or.inl z)]
    · rw [if_neg (fun w => z w.2)]
      by_cases y : j < cnt ∧ σ 26 j = nI t
      · rw [if_pos y, if_pos (Or.inr y)]
      · rw [if_neg y, if_neg (fun w => w.elim z y)]
  have p21 : ∀ j, up (up (itr (yT t r) cnt σ) 21 t 4) 26 t (nI r) 21 j = if j = t then 4 else σ 21 j := fun j => by
    rw [up_row (by decide), up_ite, xA 21 (by decide)]
    by_cases z : j = t
    · rw [if_pos ⟨rfl, z⟩, if_pos z]
    · rw [if_neg (fun w => z w.2), if_neg z]
  have px : Ex [21, 26] σ (up (up (itr (yT t r) cnt σ) 21 t 4) 26 t (nI r)) := ((xA.wk (by decide)).tr (Ex.up _ _ _ (by decide))).tr (Ex.up _ _ _ (by decide))
  have e12 : itr (yT t r) cnt σ 12 0 = σ 12 0 := congrFun (xA 12 (by decide)) 0
  obtain ⟨k1, k2⟩ := key1
  rw [e12] at k2
  generalize up (up (itr (yT t r) cnt σ) 21 t 4) 26 t (nI r) = σ1 at c2 p26 p21 px k2
  obtain ⟨μ', l1, S⟩ := c2.log (σ 12 0) 6 (nI t) (nI r) wd
  have x : Ex LSt σ (wr L (σ 12 0) 6 (nI t) (nI r) σ1) := (px.wk (by decide)).tr (wr_wk _ _ _ _ _ _ _ (by decide))
  have w26 : ∀ j, wr L (σ 12 0) 6 (nI t) (nI r) σ1 26 j = if j = t ∨ j < cnt ∧ σ 26 j = nI t then nI r else σ 26 j := fun j => by
    rw [wr_ex _ _ _ _ _ _ 26 (by decide)]
    exact p26 j
  have w21 : ∀ j, wr L (σ 12 0) 6 (nI t) (nI r) σ1 21 j = if j = t then 4 else σ 21 j := fun j => by
    rw [wr_ex _ _ _ _ _ _ 21 (by decide)]
    exact p21 j
  have ct : fb_ct (fun j => decide (wr L (σ 12 0) 6 (nI t) (nI r) σ1 26 j = nI r)) cnt = c.1 := by
    rw [c1]
    refine fb_ct_cong fun j hj => ?_
    rw [w26]
    by_cases z : j = t ∨ σ 26 j = nI t
    · rw [if_pos (z.elim Or.inl fun w => Or.inr ⟨hj, w⟩), if_pos z]
    · rw [if_neg (fun w => z (w.elim Or.inl fun w => Or.inr w.2)), if_neg z]
  refine ⟨nI c.1, _, μ', ?_, ?_, F.st S.1 x (fun j hj => ?_), S.1.2.2.2, LM2.k (x.wk (by decide)), S.2⟩
  · unfold f_X1_tie
    refine k2.trans ?_
    rw [c2.wr, Option.bind_some, tm_v S.1.1.c h60 (nI r) hN, Option.bind_some, bc_mk _ h60, Option.bind_some, ct]
  · unfold f_X9_makeTwin
    rw [ms_9 h6, Option.bind_some]
    refine c3.trans ?_
    rw [c2.1.1.mt, px 12 (by decide), l1, Option.bind_some]
  · unfold ST
    rw [w21, w26]
    have nr : ¬ (r = t ∨ r < cnt ∧ σ 26 r = nI t) := fun w => w.elim (fun w => hne w.symm) fun w => nm t ht (w.2.symm.trans r26)
    by_cases z : j = t
    · rw [if_pos z, if_pos (Or.inl z)]
      exact ⟨⟨4, by decide, rfl⟩, Or.inr ⟨r, hr, rfl, by rw [w26, if_neg nr]; exact r26, Or.inl ⟨rfl, by rw [w21, if_neg (fun w => hne w.symm)]; exact ra'⟩⟩⟩
    · rw [if_neg z]
      obtain ⟨g1, g2⟩ := v6 j hj
      refine ⟨g1, ?_⟩
      by_cases y : σ 26 j = nI t
      · rw [if_pos (Or.inr ⟨hj, y⟩)]
        rcases g2 with ⟨g, -⟩ | ⟨q, q1, q2, q3, q4⟩
        · exact absurd (y.symm.trans g) (nm t ht)
        · have : q = t := (nI_eq (by omega) (by omega)).mp (q2.symm.trans y)
          subst this
          rcases q4 with w | w
          · exact Or.inr ⟨r, hr, rfl, by rw [w26, if_neg nr]; exact r26, Or.inl ⟨w.1, by rw [w21, if_neg (fun w => hne w.symm)]; exact ra'⟩⟩
          · exfalso
            rw [w.2] at ta
            revert ta
            decide
      · rw [if_neg (fun w => w.elim z fun w => y w.2)]
        rcases g2 with g | ⟨q, q1, q2, q3, q4⟩
        · exact Or.inl g
        · have hq : q ≠ t := fun w => by
            subst w
            exact y q2
          refine Or.inr ⟨q, q1, q2, ?_, ?_⟩
          · rw [w26, if_neg (fun w => w.elim hq fun w => nm t ht (w.2.symm.trans q3))]
            exact q3
          · rw [w21, if_neg hq]
            exact q4
end Ge
