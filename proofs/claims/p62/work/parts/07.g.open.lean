section Fg
variable {L cnt kc : Nat} {σ μ : Sg}
/-- minute T is open -/
def opP (σ : Sg) (T : Nat) : Prop := (σ 13 (T / 1440)).toInt ≤ (T % 1440 : Nat) ∧ ((T % 1440 : Nat) : Int) < (σ 14 (T / 1440)).toInt
def opB (σ : Sg) (T : Nat) : Bool := decide ((σ 13 (T / 1440)).toInt ≤ (T % 1440 : Nat)) && decide (((T % 1440 : Nat) : Int) < (σ 14 (T / 1440)).toInt)
theorem opB_iff {T : Nat} : opB σ T = true ↔ opP σ T := by
  unfold opB opP
  simp
def oV (σ : Sg) (T : Nat) : Int32 := if opB σ T = true then 1 else 0
theorem dv_at {T : Nat} (h : T < 10081) : nI T / 1440 = nI (T / 1440) := pk_div (d := 1440) (by omega) (by decide) (by decide)
theorem rm_at {T : Nat} (h : T < 10081) : nI T - nI T / 1440 * 1440 = nI (T % 1440) := pk_rem (d := 1440) (by omega) (by decide) (by decide)
theorem op_v (K : CI σ) {T : Nat} (h : T < 10080) : f_X0_opensAt (nI T) σ = some (oV σ T) := by
  have hd : T / 1440 < 7 := by omega
  obtain ⟨⟨a1, a2⟩, b1, b2⟩ := K _ hd
  have z1 : (σ 14 (T / 1440) - 1).toInt = (σ 14 (T / 1440)).toInt - 1 := by rw [z_sub (by omega) (by omega) (by decide) (by decide)]; rfl
  unfold f_X0_opensAt
  have w : f_X8_within (nI T) 0 10079 = some 1 := by
    rcases wi (nI T) 0 10079 with w | w
    · exact w.1
    · exact absurd ⟨nI_pos' (by omega), nI_le (b := 10079) (by omega) (by omega)⟩ w.2
  rw [w, Option.bind_some, if_neg (by decide), rm_at (by omega), dv_at (by omega), if_pos (ib_nI hd (by decide)), ix_nI (by omega)]
  unfold oV
  rcases wi (nI (T % 1440)) (σ 13 (T / 1440)) (σ 14 (T / 1440) - 1) with w | w
  · rw [w.1, Option.bind_some, if_pos bz1, if_pos]
    rw [opB_iff]
    have q1 := z_le.mp w.2.1
    have q2 := z_le.mp w.2.2
    rw [z_nI (by omega)] at q1 q2
    rw [z1] at q2
    exact ⟨q1, by omega⟩
  · rw [w.1, Option.bind_some, if_pos bz0, if_neg]
    rw [opB_iff]
    intro q
    refine w.2 ⟨z_le.mpr ?_, z_le.mpr ?_⟩
    · rw [z_nI (by omega)]
      exact q.1
    · rw [z_nI (by omega), z1]
      have := q.2
      omega
theorem mop_v (E : Eq2 cnt kc σ μ) (K : CI σ) {T : Nat} (h : T < 10080) (wd : Int64) : f_X9_isOpenMinute (nI T) μ wd = some (oV σ T) := by
  have hd : T / 1440 < 7 := by omega
  have e1 : μ 1 (ix (nI (1 + T / 1440))) = σ 13 (T / 1440) := (g_open hd μ).trans (E.e 13 _ hd)
  have e2 : μ 1 (ix (nI (8 + T / 1440))) = σ 14 (T / 1440) := (g_close hd μ).trans (E.e 14 _ hd)
  unfold f_X9_isOpenMinute oV
  rw [rm_at (by omega), dv_at (by omega), o_at, c_at, if_pos (ib_nI (by omega) (by omega)), if_pos (ib_nI (by omega) (by omega)), e1, e2]
  by_cases a : nI (T % 1440) < σ 13 (T / 1440)
  · rw [if_pos a, if_neg]
    rw [opB_iff]
    intro q
    have := z_lt.mp a
    rw [z_nI (by omega)] at this
    have := q.1
    omega
  · rw [if_neg a]
    have a' := z_le.mp (Int32.not_lt.mp a)
    rw [z_nI (by omega)] at a'
    by_cases b : σ 14 (T / 1440) ≤ nI (T % 1440)
    · rw [if_pos b, if_neg]
      rw [opB_iff]
      intro q
      have := z_le.mp b
      rw [z_nI (by omega)] at this
      have := q.2
      omega
    · rw [if_neg b, if_pos]
      rw [opB_iff]
      have b' := z_lt.mp (Int32.not_le.mp b)
      rw [z_nI (by omega)] at b'
      exact ⟨a', b'⟩
theorem day_at {T m x : Nat} (h1 : T ≤ m) (h2 : m < T / 1440 * 1440 + x) (hx : x ≤ 1440) : m / 1440 = T / 1440 := by omega
/-- up to there all minutes are alike -/
theorem al_v (K : CI σ) {T : Nat} (h : T < 10080) : ∃ u : Nat, f_X0_alikeUntil (nI T) σ = some (nI u) ∧ T < u ∧ u ≤ 10080 ∧ ∀ m, T ≤ m → m < u → opB σ m = opB σ T := by
  have hd : T / 1440 < 7 := by omega
  obtain ⟨⟨a1, a2⟩, b1, b2⟩ := K _ hd
  obtain ⟨a, ha⟩ : ∃ a : Nat, (σ 13 (T / 1440)).toInt = a := ⟨(σ 13 (T / 1440)).toInt.toNat, by omega⟩
  obtain ⟨c, hc⟩ : ∃ c : Nat, (σ 14 (T / 1440)).toInt = c := ⟨(σ 14 (T / 1440)).toInt.toNat, by omega⟩
  have ea : σ 13 (T / 1440) = nI a := z_eq.mpr (by rw [ha, z_nI (by omega)])
  have ec : σ 14 (T / 1440) = nI c := z_eq.mpr (by rw [hc, z_nI (by omega)])
  have w : f_X8_within (nI T) 0 10079 = some 1 := by
    rcases wi (nI T) 0 10079 with w | w
    · exact w.1
    · exact absurd ⟨nI_pos' (by omega), nI_le (b := 10079) (by omega) (by omega)⟩ w.2
  have same : ∀ m, m / 1440 = T / 1440 → ((opP σ m) ↔ (opP σ T)) → opB σ m = opB σ T := fun m _ e => by
    by_cases q : opP σ T
    · rw [opB_iff.mpr q, opB_iff.mpr (e.mpr q)]
    · have q' : ¬ opP σ m := fun z => q (e.mp z)
      rw [← opB_iff] at q q'
      simp only [Bool.not_eq_true] at q q'
      rw [q, q']
  unfold f_X0_alikeUntil
  rw [w, Option.bind_some, if_neg (by decide), dv_at (by omega), if_pos (ib_nI hd (by decide)), ix_nI (by omega), ea, ec, show (1440 : Int32) = nI 1440 from rfl, pk_mul, nI_add, nI_add, nI_1, pk_mul]
  by_cases q1 : T / 1440 * 1440 + a ≤ T
  · rw [if_pos (nI_le q1 (by omega))]
    by_cases q2 : T / 1440 * 1440 + c ≤ T
    · rw [if_pos (nI_le q2 (by omega))]
      refine ⟨(T / 1440 + 1) * 1440, rfl, by omega, by omega, fun m h1 h2 => ?_⟩
      have hm := day_at (x := 1440) h1 (by rw [Nat.add_one_mul] at h2; exact h2) (Nat.le_refl _)
      refine same m hm ⟨fun z => ?_, fun z => ?_⟩
      · have := z.2
        rw [hm, hc] at this
        omega
      · have := z.2
        rw [hc] at this
        omega
    · rw [if_neg (nI_ge (by omega) (by omega))]
      refine ⟨T / 1440 * 1440 + c, rfl, by omega, by omega, fun m h1 h2 => ?_⟩
      have hm := day_at h1 h2 (by omega)
      refine same m hm ⟨fun _ => ⟨by rw [ha]; omega, by rw [hc]; omega⟩, fun _ => ⟨by rw [hm, ha]; omega, by rw [hm, hc]; omega⟩⟩
  · rw [if_neg (nI_ge (by omega) (by omega))]
    refine ⟨T / 1440 * 1440 + a, rfl, by omega, by omega, fun m h1 h2 => ?_⟩
    have hm := day_at h1 h2 (by omega)
    refine same m hm ⟨fun z => ?_, fun z => ?_⟩
    · have := z.1
      rw [hm, ha] at this
      omega
    · have := z.1
      rw [ha] at this
      omega
/-! a stretch's length -/
def mn (a b : Int32) : Int32 := if b < a then b else a
theorem mn_l (a b : Int32) : (mn a b).toInt ≤ a.toInt ∧ (mn a b).toInt ≤ b.toInt := by
  unfold mn
  split
  · rename_i h
    have := z_lt.mp h
    omega
  · rename_i h
    have := z_le.mp (Int32.not_lt.mp h)
    omega
def mtb (c t : Int32) : Int32 := if c ≤ t then t + 1 - c else 10080
def mc1 (σ : Sg) (t : Nat) : Int32 := if rrP σ t then mn 10080 (mtb (σ 24 t) (σ 1 (ix (σ 16 t)))) else 10080
def mc2 (σ : Sg) (t : Nat) : Int32 := if rvP σ t then mn (mc1 σ t) (mtb (σ 25 t) (σ 2 (ix (σ 16 t)))) else mc1 σ t
def mc3 (σ : Sg) (t : Nat) : Int32 := if σ 21 t = 0 ∧ cbP σ t then mn (mc2 σ t) (σ 5 (ix (σ 16 t)) - σ 23 t) else mc2 σ t
theorem mb_v (c t : Int32) : f_X1_minutesToBreach c t = some (mtb c t) := by
  unfold f_X1_minutesToBreach mtb
  split <;> rfl
theorem mc_v (C : CC cnt kc σ) {t : Nat} (ht : t < cnt) : f_X1_minutesToClockEvent (nI t) σ = some (mc3 σ t) := by
  have h60 := C.1
  have s88 : ∀ x, f_X1_minutesToClockEvent_88 (nI t) (σ 16 t) x σ = some (if σ 21 t = 0 ∧ cbP σ t then mn x (σ 5 (ix (σ 16 t)) - σ 23 t) else x) := fun x => by
    unfold f_X1_minutesToClockEvent_88
    rw [if_pos (ib_nI (by omega) (by decide)), ix_nI (by omega)]
    by_cases h0 : σ 21 t = 0
    · rw [if_pos h0, cb_v C ht, Option.bind_some]
      by_cases hb : cbP σ t
      · rw [if_pos hb, if_neg (by decide), if_pos (C.ib ht), if_pos (c := σ 21 t = 0 ∧ cbP σ t) ⟨h0, hb⟩]
        rfl
      · rw [if_neg hb, if_pos rfl, if_neg (fun z => hb z.2)]
    · rw [if_neg h0, if_neg (fun z => h0 z.1)]
  have s51 : ∀ x, f_X1_minutesToClockEvent_51 (nI t) (σ 16 t) x σ = f_X1_minutesToClockEvent_88 (nI t) (σ 16 t) (if rvP σ t then mn x (mtb (σ 25 t) (σ 2 (ix (σ 16 t)))) else x) σ := fun x => by
    unfold f_X1_minutesToClockEvent_51
    rw [rv_v C.2.2.1 h60 ht (C.2.2.2.2 t ht).2, Option.bind_some]
    by_cases h : rvP σ t
    · rw [if_pos h, if_neg (by decide), if_pos (ib_nI (by omega) (by decide)), if_pos (C.ib ht), ix_nI (by omega), mb_v, Option.bind_some, if_pos h]
      rfl
    · rw [if_neg h, if_pos rfl, if_neg h]
  unfold f_X1_minutesToClockEvent mc3 mc2 mc1
  rw [if_pos (ib_nI (by omega) (by decide)), rr_v C.2.2.1 h60 ht (C.2.2.2.2 t ht).2, Option.bind_some, ix_nI (by omega)]
  by_cases h : rrP σ t
  · rw [if_pos h, if_neg (by decide), if_pos (C.ib ht), mb_v, Option.bind_some, s51, s88, if_pos h]
    rfl
  · rw [if_neg h, if_pos rfl, s51, s88, if_neg h]
def sF (o : Int32) (σ : Sg) (t : Nat) (x : Int32) : Int32 := if o ≠ 0 ∧ σ 21 t = 1 then mn (if ctP o σ t then mn x (mc3 σ t) else x) (σ 3 (ix (σ 16 t)) - σ 22 t) else (if ctP o σ t then mn x (mc3 σ t) else x)
/-- nothing happens in the s - 1 minutes that come first -/
def Bd (o : Int32) (s : Int) (σ : Sg) (t : Nat) : Prop :=
  (ctP o σ t → (rrP σ t → σ 24 t ≤ σ 1 (ix (σ 16 t)) → s + (σ 24 t).toInt ≤ (σ 1 (ix (σ 16 t))).toInt + 1) ∧ (rvP σ t → σ 25 t ≤ σ 2 (ix (σ 16 t)) → s + (σ 25 t).toInt ≤ (σ 2 (ix (σ 16 t))).toInt + 1) ∧ (σ 21 t = 0 → cbP σ t → s + (σ 23 t).toInt ≤ (σ 5 (ix (σ 16 t))).toInt)) ∧
  (o ≠ 0 → σ 21 t = 1 → s + (σ 22 t).toInt ≤ (σ 3 (ix (σ 16 t))).toInt)
theorem Bd.mono {o : Int32} {s s' : Int} {t : Nat} (h : Bd o s σ t) (hs : s' ≤ s) : Bd o s' σ t :=
  ⟨fun c => ⟨fun a b => by have := (h.1 c).1 a b; omega, fun a b => by have := (h.1 c).2.1 a b; omega, fun a b => by have := (h.1 c).2.2 a b; omega⟩, fun a b => by have := h.2 a b; omega⟩
theorem sF_bd {o : Int32} {t : Nat} {x : Int32} (hk : KT kc σ t) (hc : kc ≤ 6) (K : KI kc σ) (hb : TB 20000 σ t) : Bd o (sF o σ t x).toInt σ t ∧ (sF o σ t x).toInt ≤ x.toInt := by
  obtain ⟨k1, k2, k3, k5, -⟩ := K _ (hk.lt hc)
  obtain ⟨b2, b3, b4, b5⟩ := hb
  have mt : ∀ c tg : Int32, (0 ≤ c.toInt ∧ c.toInt ≤ 20000) → (0 ≤ tg.toInt ∧ tg.toInt ≤ 10080) → c ≤ tg → (mtb c tg).toInt + c.toInt = tg.toInt + 1 := fun c tg hc ht h => by
    have z1 : (tg + 1).toInt = tg.toInt + 1 := by rw [z_add (by omega) (by omega) (by decide) (by decide)]; rfl
    unfold mtb
    rw [if_pos h, z_sub (by omega) (by omega) (by omega) (by omega), z1]
    omega
  have b2' : (σ 22 t).toInt ≤ 20000 := by have := b2.2; omega
  have b3' : (σ 23 t).toInt ≤ 20000 := by have := b3.2; omega
  have b4' : (σ 24 t).toInt ≤ 20000 := by have := b4.2; omega
  have b5' : (σ 25 t).toInt ≤ 20000 := by have := b5.2; omega
  -- the clock's event
  have l3 : (mc3 σ t).toInt ≤ (mc2 σ t).toInt := by
    unfold mc3
    split
    · exact (mn_l _ _).1
    · exact Int.le_refl _
  have l2 : (mc2 σ t).toInt ≤ (mc1 σ t).toInt := by
    unfold mc2
    split
    · exact (mn_l _ _).1
    · exact Int.le_refl _
  have e1 : rrP σ t → σ 24 t ≤ σ 1 (ix (σ 16 t)) → (mc3 σ t).toInt + (σ 24 t).toInt ≤ (σ 1 (ix (σ 16 t))).toInt + 1 := fun r h => by
    have := mt _ _ ⟨b4.1, b4'⟩ k1 h
    have q : (mc1 σ t).toInt ≤ (mtb (σ 24 t) (σ 1 (ix (σ 16 t)))).toInt := by
      unfold mc1
      rw [if_pos r]
      exact (mn_l _ _).2
    omega
  have e2 : rvP σ t → σ 25 t ≤ σ 2 (ix (σ 16 t)) → (mc3 σ t).toInt + (σ 25 t).toInt ≤ (σ 2 (ix (σ 16 t))).toInt + 1 := fun r h => by
    have := mt _ _ ⟨b5.1, b5'⟩ k2 h
    have q : (mc2 σ t).toInt ≤ (mtb (σ 25 t) (σ 2 (ix (σ 16 t)))).toInt := by
      unfold mc2
      rw [if_pos r]
      exact (mn_l _ _).2
    omega
  have e3 : σ 21 t = 0 → cbP σ t → (mc3 σ t).toInt + (σ 23 t).toInt ≤ (σ 5 (ix (σ 16 t))).toInt := fun r h => by
    have q : (mc3 σ t).toInt ≤ (σ 5 (ix (σ 16 t)) - σ 23 t).toInt := by
      unfold mc3
      rw [if_pos ⟨r, h⟩]
      exact (mn_l _ _).2
    rw [z_sub (by omega) (by omega) (by omega) (by omega)] at q
    omega
  have y1 : ctP o σ t → ((if ctP o σ t then mn x (mc3 σ t) else x)).toInt ≤ (mc3 σ t).toInt := fun c => by
    rw [if_pos c]
    exact (mn_l _ _).2
  have y2 : ((if ctP o σ t then mn x (mc3 σ t) else x)).toInt ≤ x.toInt := by
    split
    · exact (mn_l _ _).1
    · exact Int.le_refl _
  have y3 : (sF o σ t x).toInt ≤ ((if ctP o σ t then mn x (mc3 σ t) else x)).toInt := by
    unfold sF
    split
    · exact (mn_l _ _).1
    · exact Int.le_refl _
  refine ⟨⟨fun c => ⟨fun a b => ?_, fun a b => ?_, fun a b => ?_⟩, fun a b => ?_⟩, Int.le_trans y3 y2⟩
  · have := e1 a b
    have := y1 c
    omega
  · have := e2 a b
    have := y1 c
    omega
  · have := e3 a b
    have := y1 c
    omega
  · have q : (sF o σ t x).toInt ≤ (σ 3 (ix (σ 16 t)) - σ 22 t).toInt := by
      unfold sF
      rw [if_pos ⟨a, b⟩]
      exact (mn_l _ _).2
    rw [z_sub (by omega) (by omega) (by omega) (by omega)] at q
    omega
end Fg
