/-! Long.bitCount tells how many bits are set -/
/-- digits in a base, the lowest first -/
def dg (B : Nat) (f : Nat → Nat) : Nat → Nat
  | 0 => 0
  | n + 1 => f 0 + B * dg B (fun i => f (i + 1)) n
theorem dg_s (B : Nat) (f : Nat → Nat) (n : Nat) : dg B f (n + 1) = f 0 + B * dg B (fun i => f (i + 1)) n := rfl
theorem dg_cong (B : Nat) : ∀ (n : Nat) {f g : Nat → Nat}, (∀ i, i < n → f i = g i) → dg B f n = dg B g n
  | 0, _, _, _ => rfl
  | n + 1, f, g, h => by
    rw [dg_s, dg_s, h 0 (by omega), dg_cong B n (fun i hi => h (i + 1) (by omega))]
theorem dg_add (B : Nat) : ∀ (n : Nat) (f g : Nat → Nat), dg B f n + dg B g n = dg B (fun i => f i + g i) n
  | 0, _, _ => rfl
  | n + 1, f, g => by
    rw [dg_s, dg_s, dg_s, ← dg_add B n]
    rw [Nat.mul_add]
    omega
theorem dg_lt {B : Nat} (hB : 0 < B) : ∀ (n : Nat) (f : Nat → Nat), (∀ i, i < n → f i < B) → dg B f n < B ^ n
  | 0, _, _ => by simp [dg]
  | n + 1, f, h => by
    have h1 := dg_lt hB n (fun i => f (i + 1)) (fun i hi => h (i + 1) (by omega))
    have h2 := h 0 (by omega)
    rw [dg_s, Nat.pow_succ]
    have h3 : B * dg B (fun i => f (i + 1)) n + B ≤ B * B ^ n := by
      rw [← Nat.mul_succ]
      exact Nat.mul_le_mul_left B h1
    rw [Nat.mul_comm (B ^ n) B]
    omega
theorem dg_div {B : Nat} (f : Nat → Nat) (n : Nat) (h : f 0 < B) : dg B f (n + 1) / B = dg B (fun i => f (i + 1)) n := by
  rw [dg_s, Nat.add_mul_div_left _ _ (by omega), Nat.div_eq_of_lt h, Nat.zero_add]
/-- two digits as one -/
theorem dg_two (B : Nat) : ∀ (n : Nat) (f : Nat → Nat), dg B f (2 * n) = dg (B * B) (fun i => f (2 * i) + B * f (2 * i + 1)) n
  | 0, _ => rfl
  | n + 1, f => by
    rw [show 2 * (n + 1) = 2 * n + 1 + 1 from by omega, dg_s, dg_s, dg_s, dg_two B n]
    have e : dg (B * B) (fun i => f (2 * i + 1 + 1) + B * f (2 * i + 1 + 1 + 1)) n = dg (B * B) (fun i => f (2 * (i + 1)) + B * f (2 * (i + 1) + 1)) n := dg_cong _ n (fun i _ => by
      rw [show 2 * (i + 1) = 2 * i + 1 + 1 from by omega])
    have e' : dg (B * B) (fun i => (fun i => (fun i => f (i + 1)) (i + 1)) (2 * i) + B * (fun i => (fun i => f (i + 1)) (i + 1)) (2 * i + 1)) n = dg (B * B) (fun i => f (2 * (i + 1)) + B * f (2 * (i + 1) + 1)) n := e
    show f 0 + B * (f 1 + B * _) = f 0 + B * f 1 + B * B * _
    rw [e', Nat.mul_add, Nat.mul_assoc]
    omega
theorem and_dg {k a b x y : Nat} (ha : a < 2 ^ k) (hb : b < 2 ^ k) : (a + 2 ^ k * x) &&& (b + 2 ^ k * y) = (a &&& b) + 2 ^ k * (x &&& y) := by
  apply Nat.eq_of_testBit_eq
  intro i
  rw [Nat.testBit_and, Nat.add_comm a, Nat.add_comm b, Nat.add_comm (a &&& b), Nat.testBit_two_pow_mul_add _ ha, Nat.testBit_two_pow_mul_add _ hb, Nat.testBit_two_pow_mul_add _ (Nat.and_lt_two_pow _ hb)]
  split
  · rw [Nat.testBit_and]
  · rw [Nat.testBit_and]
theorem dg_and {B k : Nat} (hB : 2 ^ k = B) : ∀ (n : Nat) (f g : Nat → Nat), (∀ i, i < n → f i < B) → (∀ i, i < n → g i < B) → dg B f n &&& dg B g n = dg B (fun i => f i &&& g i) n
  | 0, _, _, _, _ => by simp [dg]
  | n + 1, f, g, hf, hg => by
    subst hB
    rw [dg_s, dg_s, dg_s, and_dg (hf 0 (by omega)) (hg 0 (by omega)), dg_and rfl n _ _ (fun i hi => hf (i + 1) (by omega)) (fun i hi => hg (i + 1) (by omega))]
theorem dg_zero (B : Nat) : ∀ (n : Nat) (f : Nat → Nat), f n = 0 → dg B f (n + 1) = dg B f n
  | 0, f, h => by
    rw [dg_s, h]
    simp [dg]
  | n + 1, f, h => by
    rw [dg_s, dg_zero B n (fun i => f (i + 1)) h]
    rfl
def q1 (y : Int64) : Int64 := y - ((((y : Int64).toUInt64 >>> ((1 : Int32).toInt64.toUInt64 &&& Int64.toUInt64 63)).toInt64) &&& 6148914691236517205)
def q2 (y : Int64) : Int64 := (y &&& 3689348814741910323) + ((((y : Int64).toUInt64 >>> ((2 : Int32).toInt64.toUInt64 &&& Int64.toUInt64 63)).toInt64) &&& 3689348814741910323)
def q3 (y : Int64) : Int64 := (y + (((y : Int64).toUInt64 >>> ((4 : Int32).toInt64.toUInt64 &&& Int64.toUInt64 63)).toInt64)) &&& 1085102592571150095
def q4 (y : Int64) : Int64 := y + (((y : Int64).toUInt64 >>> ((8 : Int32).toInt64.toUInt64 &&& Int64.toUInt64 63)).toInt64)
def q5 (y : Int64) : Int64 := y + (((y : Int64).toUInt64 >>> ((16 : Int32).toInt64.toUInt64 &&& Int64.toUInt64 63)).toInt64)
def q6 (y : Int64) : Int64 := y + (((y : Int64).toUInt64 >>> ((32 : Int32).toInt64.toUInt64 &&& Int64.toUInt64 63)).toInt64)
theorem bc_eq (y : Int64) : f_J13_bitCount_95d88 y = some ((q6 (q5 (q4 (q3 (q2 (q1 y)))))).toInt32 &&& 127) := rfl
theorem sh_v {n k : Nat} (hn : n < 2 ^ 64) (hk : k < 64) : ((lN n).toUInt64 >>> ((nI k).toInt64.toUInt64 &&& Int64.toUInt64 63)).toInt64 = lN (n / 2 ^ k) := wb_shr hn hk
theorem bc_1 (b : Nat → Nat) (hb : ∀ i, b i ≤ 1) (h60 : b 64 = 0) : q1 (lN (dg 2 b 64)) = lN (dg 4 (fun i => b (2 * i) + b (2 * i + 1)) 32) := by
  have y0 : dg 2 b 64 < 2 ^ 64 := dg_lt (by decide) 64 b (fun i _ => by have := hb i; omega)
  have d1 : dg 2 b 64 / 2 ^ 1 = dg 2 (fun i => b (i + 1)) 64 := by
    rw [show (2 : Nat) ^ 1 = 2 from rfl, dg_div b 63 (by have := hb 0; omega), ← dg_zero 2 63 (fun i => b (i + 1)) h60]
  have y1 : dg 2 (fun i => b (i + 1)) 64 < 2 ^ 64 := dg_lt (by decide) 64 _ (fun i _ => by have := hb (i + 1); omega)
  have m1 : (6148914691236517205 : Int64) = lN (dg 4 (fun _ => 1) 32) := by decide +kernel
  have m1' : dg 4 (fun _ => 1) 32 < 2 ^ 64 := by decide +kernel
  have a1 : dg 2 (fun i => b (i + 1)) 64 &&& dg 4 (fun _ => 1) 32 = dg 4 (fun i => b (2 * i + 1)) 32 := by
    rw [show (64 : Nat) = 2 * 32 from rfl, dg_two 2 32, dg_and (k := 2) rfl 32 _ _ (fun i _ => by have := hb (2 * i + 1); have := hb (2 * i + 1 + 1); omega) (fun i _ => by omega)]
    refine dg_cong 4 32 (fun i _ => ?_)
    have h1 := hb (2 * i + 1)
    have h2 := hb (2 * i + 1 + 1)
    show (b (2 * i + 1) + 2 * b (2 * i + 1 + 1)) &&& 1 = b (2 * i + 1)
    have e1 : b (2 * i + 1) = 0 ∨ b (2 * i + 1) = 1 := by omega
    have e2 : b (2 * i + 1 + 1) = 0 ∨ b (2 * i + 1 + 1) = 1 := by omega
    rcases e1 with e1 | e1 <;> rcases e2 with e2 | e2 <;> rw [e1, e2] <;> decide
  have s1 : dg 2 b 64 = dg 4 (fun i => b (2 * i) + b (2 * i + 1)) 32 + dg 4 (fun i => b (2 * i + 1)) 32 := by
    rw [dg_add, show (64 : Nat) = 2 * 32 from rfl, dg_two 2 32]
    exact dg_cong 4 32 (fun i _ => by show b (2 * i) + 2 * b (2 * i + 1) = _; omega)
  have le : dg 4 (fun i => b (2 * i + 1)) 32 ≤ dg 2 b 64 := by
    rw [s1]
    exact Nat.le_add_left _ _
  unfold q1
  rw [show (1 : Int32) = nI 1 from rfl, sh_v y0 (by decide), d1, m1, wb_and y1 m1', a1, lN_sub le]
  exact congrArg lN (Nat.sub_eq_of_eq_add s1)
theorem bc_2 (c : Nat → Nat) (l1 : ∀ i, c i ≤ 2) (z1 : c 32 = 0) : q2 (lN (dg 4 c 32)) = lN (dg 16 (fun i => c (2 * i) + c (2 * i + 1)) 16) := by
  have y1 : dg 4 c 32 < 2 ^ 64 := dg_lt (by decide) 32 c (fun i _ => by have := l1 i; omega)
  have y1' : dg 4 (fun i => c (i + 1)) 32 < 2 ^ 64 := dg_lt (by decide) 32 _ (fun i _ => by have := l1 (i + 1); omega)
  have m2 : (3689348814741910323 : Int64) = lN (dg 16 (fun _ => 3) 16) := by decide +kernel
  have m2' : dg 16 (fun _ => 3) 16 < 2 ^ 64 := by decide +kernel
  have d2 : dg 4 c 32 / 2 ^ 2 = dg 4 (fun i => c (i + 1)) 32 := by
    rw [show (2 : Nat) ^ 2 = 4 from rfl, dg_div c 31 (by have := l1 0; omega), ← dg_zero 4 31 (fun i => c (i + 1)) z1]
  have and3 : ∀ f : Nat → Nat, (∀ i, f i ≤ 2) → dg 4 f 32 &&& dg 16 (fun _ => 3) 16 = dg 16 (fun i => f (2 * i)) 16 := fun f hf => by
    rw [show (32 : Nat) = 2 * 16 from rfl, dg_two 4 16, dg_and (k := 4) rfl 16 _ _ (fun i _ => by have := hf (2 * i); have := hf (2 * i + 1); omega) (fun i _ => by omega)]
    refine dg_cong 16 16 (fun i _ => ?_)
    show (f (2 * i) + 4 * f (2 * i + 1)) &&& 3 = f (2 * i)
    have e1 : f (2 * i) = 0 ∨ f (2 * i) = 1 ∨ f (2 * i) = 2 := by have := hf (2 * i); omega
    have e2 : f (2 * i + 1) = 0 ∨ f (2 * i + 1) = 1 ∨ f (2 * i + 1) = 2 := by have := hf (2 * i + 1); omega
    rcases e1 with e1 | e1 | e1 <;> rcases e2 with e2 | e2 | e2 <;> rw [e1, e2] <;> decide
  unfold q2
  rw [show (2 : Int32) = nI 2 from rfl, sh_v y1 (by decide), d2, m2, wb_and y1 m2', wb_and y1' m2', and3 c l1, and3 (fun i => c (i + 1)) (fun i => l1 (i + 1)), lN_add, dg_add]
theorem bc_3 (d : Nat → Nat) (l2 : ∀ i, d i ≤ 4) (z2 : d 16 = 0) : q3 (lN (dg 16 d 16)) = lN (dg 256 (fun i => d (2 * i) + d (2 * i + 1)) 8) := by
  have y2 : dg 16 d 16 < 2 ^ 64 := dg_lt (by decide) 16 d (fun i _ => by have := l2 i; omega)
  have m3 : (1085102592571150095 : Int64) = lN (dg 256 (fun _ => 15) 8) := by decide +kernel
  have m3' : dg 256 (fun _ => 15) 8 < 2 ^ 64 := by decide +kernel
  have d3 : dg 16 d 16 / 2 ^ 4 = dg 16 (fun i => d (i + 1)) 16 := by
    rw [show (2 : Nat) ^ 4 = 16 from rfl, dg_div d 15 (by have := l2 0; omega), ← dg_zero 16 15 (fun i => d (i + 1)) z2]
  have y3 : dg 16 (fun i => d i + d (i + 1)) 16 < 2 ^ 64 := dg_lt (by decide) 16 _ (fun i _ => by have := l2 i; have := l2 (i + 1); omega)
  have a3 : dg 16 (fun i => d i + d (i + 1)) 16 &&& dg 256 (fun _ => 15) 8 = dg 256 (fun i => d (2 * i) + d (2 * i + 1)) 8 := by
    have t : dg 16 (fun i => d i + d (i + 1)) 16 = dg 256 (fun i => d (2 * i) + d (2 * i + 1) + 16 * (d (2 * i + 1) + d (2 * i + 1 + 1))) 8 := dg_two 16 8 _
    rw [t, dg_and (k := 8) rfl 8 _ _ (fun i _ => by have := l2 (2 * i); have := l2 (2 * i + 1); have := l2 (2 * i + 1 + 1); omega) (fun i _ => by omega)]
    refine dg_cong 256 8 (fun i _ => ?_)
    show (d (2 * i) + d (2 * i + 1) + 16 * (d (2 * i + 1) + d (2 * i + 1 + 1))) &&& (2 ^ 4 - 1) = _
    rw [Nat.and_two_pow_sub_one_eq_mod]
    have := l2 (2 * i)
    have := l2 (2 * i + 1)
    omega
  unfold q3
  rw [show (4 : Int32) = nI 4 from rfl, sh_v y2 (by decide), d3, lN_add, dg_add, m3, wb_and y3 m3', a3]
theorem sh_8 (f : Nat → Nat) (hf : ∀ i, f i < 256) (hz : f 8 = 0) : dg 256 f 8 / 256 = dg 256 (fun i => f (i + 1)) 8 := by
  rw [dg_div f 7 (hf 0), ← dg_zero 256 7 (fun i => f (i + 1)) hz]
theorem bc_6 (e : Nat → Nat) (l3 : ∀ i, e i ≤ 8) (z3 : ∀ i, 8 ≤ i → e i = 0) : q6 (q5 (q4 (lN (dg 256 e 8)))) = lN (dg 256 (fun i => (e i + e (i + 1)) + (e (i + 1 + 1) + e (i + 1 + 1 + 1)) + ((e (i + 1 + 1 + 1 + 1) + e (i + 1 + 1 + 1 + 1 + 1)) + (e (i + 1 + 1 + 1 + 1 + 1 + 1) + e (i + 1 + 1 + 1 + 1 + 1 + 1 + 1)))) 8) := by
  have lt : ∀ f : Nat → Nat, (∀ i, f i < 256) → dg 256 f 8 < 2 ^ 64 := fun f hf => dg_lt (by decide) 8 f (fun i _ => hf i)
  have r4 : q4 (lN (dg 256 e 8)) = lN (dg 256 (fun i => e i + e (i + 1)) 8) := by
    unfold q4
    rw [show (8 : Int32) = nI 8 from rfl, sh_v (lt e (fun i => by have := l3 i; omega)) (by decide), show (2 : Nat) ^ 8 = 256 from rfl, sh_8 e (fun i => by have := l3 i; omega) (z3 8 (by omega)), lN_add, dg_add]
  have l4 : ∀ i, e i + e (i + 1) ≤ 16 := fun i => by have := l3 i; have := l3 (i + 1); omega
  have z4 : ∀ i, 8 ≤ i → e i + e (i + 1) = 0 := fun i h => by rw [z3 i h, z3 (i + 1) (by omega)]
  rw [r4]
  generalize hg : (fun i => e i + e (i + 1)) = g
  have g1 : ∀ i, g i = e i + e (i + 1) := fun i => by rw [← hg]
  have l4' : ∀ i, g i ≤ 16 := fun i => by rw [g1]; exact l4 i
  have z4' : ∀ i, 8 ≤ i → g i = 0 := fun i h => by rw [g1]; exact z4 i h
  have r5 : q5 (lN (dg 256 g 8)) = lN (dg 256 (fun i => g i + g (i + 1 + 1)) 8) := by
    unfold q5
    rw [show (16 : Int32) = nI 16 from rfl, sh_v (lt _ (fun i => by have := l4' i; omega)) (by decide), show (2 : Nat) ^ 16 = 256 * 256 from rfl, ← Nat.div_div_eq_div_mul, sh_8 g (fun i => by have := l4' i; omega) (z4' 8 (by omega)), sh_8 (fun i => g (i + 1)) (fun i => by have := l4' (i + 1); omega) (z4' (8 + 1) (by omega)), lN_add, dg_add]
  rw [r5]
  generalize hh : (fun i => g i + g (i + 1 + 1)) = h
  have h1 : ∀ i, h i = g i + g (i + 1 + 1) := fun i => by rw [← hh]
  have l5' : ∀ i, h i ≤ 32 := fun i => by rw [h1]; have := l4' i; have := l4' (i + 1 + 1); omega
  have z5' : ∀ i, 8 ≤ i → h i = 0 := fun i w => by rw [h1, z4' i w, z4' (i + 1 + 1) (by omega)]
  unfold q6
  rw [show (32 : Int32) = nI 32 from rfl, sh_v (lt _ (fun i => by have := l5' i; omega)) (by decide), show (2 : Nat) ^ 32 = 256 * 256 * 256 * 256 from rfl, ← Nat.div_div_eq_div_mul, ← Nat.div_div_eq_div_mul, ← Nat.div_div_eq_div_mul,
    sh_8 h (fun i => by have := l5' i; omega) (z5' 8 (by omega)), sh_8 (fun i => h (i + 1)) (fun i => by have := l5' (i + 1); omega) (z5' (8 + 1) (by omega)), sh_8 (fun i => h (i + 1 + 1)) (fun i => by have := l5' (i + 1 + 1); omega) (z5' (8 + 1 + 1) (by omega)), sh_8 (fun i => h (i + 1 + 1 + 1)) (fun i => by have := l5' (i + 1 + 1 + 1); omega) (z5' (8 + 1 + 1 + 1) (by omega)), lN_add, dg_add]
  exact congrArg lN (dg_cong 256 8 (fun i _ => by rw [h1, h1, g1, g1, g1, g1]))
theorem bc_7 (f : Nat → Nat) (h : f 0 ≤ 64) : (lN (dg 256 f 8)).toInt32 &&& 127 = nI (f 0) := by
  rw [lN_i, dg_s 256 f 7]
  generalize dg 256 _ 7 = w
  generalize f 0 = x at h
  show nI (x + 256 * w) &&& nI 127 = _
  apply Int32.toBitVec_inj.mp
  apply BitVec.eq_of_toNat_eq
  show (BitVec.ofNat 32 (x + 256 * w) &&& BitVec.ofNat 32 127).toNat = (BitVec.ofNat 32 x).toNat
  rw [BitVec.toNat_and, BitVec.toNat_ofNat, BitVec.toNat_ofNat, BitVec.toNat_ofNat, show (127 : Nat) = 2 ^ 7 - 1 from rfl, Nat.mod_eq_of_lt (show 2 ^ 7 - 1 < 2 ^ 32 by decide), Nat.and_two_pow_sub_one_eq_mod]
  omega
theorem sm_two (f : Nat → Nat) : ∀ n, fb_sm f (2 * n) = fb_sm (fun i => f (2 * i) + f (2 * i + 1)) n
  | 0 => rfl
  | n + 1 => by
    rw [show 2 * (n + 1) = 2 * n + 1 + 1 from by omega, fb_sm_succ, fb_sm_succ, fb_sm_succ, sm_two f n]
    omega
/-- a number of 60 bits at most, by its bits -/
theorem bc_v (b : Nat → Nat) (hb : ∀ i, b i ≤ 1) (h60 : ∀ i, 60 ≤ i → b i = 0) : f_J13_bitCount_95d88 (lN (dg 2 b 64)) = some (nI (fb_sm b 64)) := by
  rw [bc_eq, bc_1 b hb (h60 64 (by omega))]
  have k1 : fb_sm b 64 = fb_sm (fun i => b (2 * i) + b (2 * i + 1)) 32 := sm_two b 32
  generalize hc : (fun i => b (2 * i) + b (2 * i + 1)) = c at k1
  have c1 : ∀ i, c i = b (2 * i) + b (2 * i + 1) := fun i => by rw [← hc]
  have lc : ∀ i, c i ≤ 2 := fun i => by rw [c1]; have := hb (2 * i); have := hb (2 * i + 1); omega
  have zc : ∀ i, 30 ≤ i → c i = 0 := fun i h => by rw [c1, h60 _ (by omega), h60 _ (by omega)]
  rw [bc_2 c lc (zc 32 (by omega))]
  have k2 : fb_sm c 32 = fb_sm (fun i => c (2 * i) + c (2 * i + 1)) 16 := sm_two c 16
  generalize hd : (fun i => c (2 * i) + c (2 * i + 1)) = d at k2
  have d1 : ∀ i, d i = c (2 * i) + c (2 * i + 1) := fun i => by rw [← hd]
  have ld : ∀ i, d i ≤ 4 := fun i => by rw [d1]; have := lc (2 * i); have := lc (2 * i + 1); omega
  have zd : ∀ i, 15 ≤ i → d i = 0 := fun i h => by rw [d1, zc _ (by omega), zc _ (by omega)]
  rw [bc_3 d ld (zd 16 (by omega))]
  have k3 : fb_sm d 16 = fb_sm (fun i => d (2 * i) + d (2 * i + 1)) 8 := sm_two d 8
  generalize he : (fun i => d (2 * i) + d (2 * i + 1)) = e at k3
  have e1 : ∀ i, e i = d (2 * i) + d (2 * i + 1) := fun i => by rw [← he]
  have le : ∀ i, e i ≤ 8 := fun i => by rw [e1]; have := ld (2 * i); have := ld (2 * i + 1); omega
  have ze : ∀ i, 8 ≤ i → e i = 0 := fun i h => by rw [e1, zd _ (by omega), zd _ (by omega)]
  have fs : fb_sm e 8 = (e 0 + e (0 + 1)) + (e (0 + 1 + 1) + e (0 + 1 + 1 + 1)) + ((e (0 + 1 + 1 + 1 + 1) + e (0 + 1 + 1 + 1 + 1 + 1)) + (e (0 + 1 + 1 + 1 + 1 + 1 + 1) + e (0 + 1 + 1 + 1 + 1 + 1 + 1 + 1))) := by
    show 0 + e 0 + e 1 + e 2 + e 3 + e 4 + e 5 + e 6 + e 7 = e 0 + e 1 + (e 2 + e 3) + (e 4 + e 5 + (e 6 + e 7))
    omega
  rw [bc_6 e le ze, bc_7 _ (by
    have := le 0
    have := le (0 + 1)
    have := le (0 + 1 + 1)
    have := le (0 + 1 + 1 + 1)
    have := le (0 + 1 + 1 + 1 + 1)
    have := le (0 + 1 + 1 + 1 + 1 + 1)
    have := le (0 + 1 + 1 + 1 + 1 + 1 + 1)
    have := le (0 + 1 + 1 + 1 + 1 + 1 + 1 + 1)
    omega), k1, k2, k3, fs]
