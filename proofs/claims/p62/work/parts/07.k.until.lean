section Fk
variable {L cnt kc : Nat} {σ μ : Sg}
theorem SK.rz {t : Nat} (h : σ 21 t = 0 ∨ σ 21 t = 1) (L : Nat) (a : Int32) : SK cnt σ (ra L t a σ) := fun j _ q => by
  have hj : j ≠ t := fun z => by
    subst z
    rw [q] at h
    revert h
    decide
  rw [ra_at _ _ _ _ (by decide), ra_at _ _ _ _ (by decide), if_neg hj, if_neg hj]
  exact ⟨q, rfl⟩
theorem SK.fz (hI : RI cnt σ) (h60 : cnt ≤ 60) {t : Nat} (ht : t < cnt) (h : σ 21 t = 0 ∨ σ 21 t = 1 ∨ σ 21 t = 2) (L : Nat) (a : Int32) : SK cnt σ (fin L cnt t a σ) := fun j hj q => by
  have hn : ¬ (j = t ∨ j < cnt ∧ σ 26 j = nI t) := fun z => by
    rcases z with z | z
    · subst z
      rw [q] at h
      revert h
      decide
    · rcases (hI j hj).2 with ⟨w, -⟩ | ⟨r, r1, r2, r3, r4⟩
      · rw [z.2] at w
        exact nI_m1 (by omega) w
      · have : r = t := (nI_eq (by omega) (by omega)).mp (r2.symm.trans z.2)
        subst this
        rcases r4 with w | w
        · rw [q] at w
          exact absurd w.1 (by decide)
        · rw [w.2] at h
          revert h
          decide
  rw [fin_at L cnt t a σ (by decide), fin_at L cnt t a σ (by decide)]
  unfold fw
  rw [if_neg hn, if_neg hn]
  exact ⟨q, rfl⟩
theorem stp_sk (hI : RI cnt σ) (h60 : cnt ≤ 60) (o : Int32) (L : Nat) : SK cnt σ (stp L 1 o cnt σ) := by
  have x1 : Ex LC σ (itr (gT L 1 o) cnt σ) := itr_ex (fun i σ => gT_ex L 1 o i σ) σ cnt
  have I1 : RI cnt (itr (gT L 1 o) cnt σ) := hI.ex (x1 21 (by decide)) (x1 26 (by decide))
  have s1 : SK cnt σ (itr (gT L 1 o) cnt σ) := SK.ex x1 (by decide)
  have s2 : SK cnt (itr (gT L 1 o) cnt σ) (if o = 0 then itr (gT L 1 o) cnt σ else itr (wT L 1 cnt) cnt (itr (gT L 1 o) cnt σ)) := by
    by_cases ho : o = 0
    · rw [if_pos ho]
      exact SK.ex (Ex.rf [] _) (by decide)
    · rw [if_neg ho]
      exact (one_itr (wT L 1 cnt) (fun _ τ => RI cnt τ ∧ SK cnt (itr (gT L 1 o) cnt σ) τ) cnt (fun i τ hi I => by
        have u21 : up τ 22 i (τ 22 i + 1) 21 = τ 21 := up_row (by decide)
        have uI : RI cnt (up τ 22 i (τ 22 i + 1)) := I.1.ex u21 (up_row (by decide))
        have us : SK cnt τ (up τ 22 i (τ 22 i + 1)) := SK.ex (Ex.up (R := [22]) _ _ _ (by decide)) (by decide)
        unfold wT
        by_cases q : τ 21 i = 1
        · have q' : up τ 22 i (τ 22 i + 1) 21 i = 1 := by rw [u21]; exact q
          rw [if_pos q]
          split
          · split
            · exact ⟨uI.rz h60 hi (Or.inr q') L _, I.2.tr (us.tr (SK.rz (Or.inr q') L _))⟩
            · exact ⟨uI.fz h60 hi (Or.inr (Or.inl q')) L _, I.2.tr (us.tr (SK.fz uI h60 hi (Or.inr (Or.inl q')) L _))⟩
          · exact ⟨uI, I.2.tr us⟩
        · rw [if_neg q]
          exact I) _ ⟨I1, SK.ex (Ex.rf [] _) (by decide)⟩).2
  unfold stp
  simp only []
  generalize (if o = 0 then itr (gT L 1 o) cnt σ else itr (wT L 1 cnt) cnt (itr (gT L 1 o) cnt σ)) = σ3 at s2
  have s3 : SK cnt σ3 (itr (cT L (σ3 12 0 + 1)) cnt σ3) := one_itr (cT L (σ3 12 0 + 1)) (fun _ τ => SK cnt σ3 τ) cnt (fun i τ hi I => by
    unfold cT
    split
    · rename_i q
      exact I.tr (SK.rz (Or.inl q.1) L _)
    · exact I) σ3 (SK.ex (Ex.rf [] _) (by decide))
  exact ((s1.tr s2).tr s3).tr (SK.ex (Ex.up (R := [12]) _ _ _ (by decide)) (by decide))
def LPs : List Nat := [7, 8, 9, 10, 11, 12, 20, 21, 22, 23, 24, 25, 28, 29]
theorem stp_ex (L : Nat) (s o : Int32) (cnt : Nat) (σ : Sg) : Ex LPs σ (stp L s o cnt σ) := by
  have x1 : Ex LC σ (itr (gT L s o) cnt σ) := itr_ex (fun i σ => gT_ex L s o i σ) σ cnt
  have x2 : Ex LW (itr (gT L s o) cnt σ) (if o = 0 then itr (gT L s o) cnt σ else itr (wT L s cnt) cnt (itr (gT L s o) cnt σ)) := by
    split
    · exact Ex.rf _ _
    · exact itr_ex (fun i σ => wT_ex L s cnt i σ) _ cnt
  unfold stp
  simp only []
  generalize (if o = 0 then itr (gT L s o) cnt σ else itr (wT L s cnt) cnt (itr (gT L s o) cnt σ)) = σ3 at x2
  have x3 : Ex LA σ3 (itr (cT L (σ3 12 0 + s)) cnt σ3) := itr_ex (fun i σ => cT_ex L _ i σ) _ cnt
  exact (((x1.wk (by decide)).tr (x2.wk (by decide))).tr (x3.wk (by decide))).tr (Ex.up _ _ _ (by decide))
/-- the class's desk, a minute on -/
def MN (N L cnt : Nat) (σ : Sg) : Option Sg := (f_X0_opensAt (σ 12 0) σ).bind (fun o => (if o = 0 then some σ else f_X1_takeTickets N L σ).bind (fun σ1 => some (stp L 1 o cnt σ1)))
theorem Iv.take {T : Nat} {σ' : Sg} (V : Iv cnt kc T σ) (hx : Ex LT σ σ') (hI : RI cnt σ') : Iv cnt kc T σ' := by
  obtain ⟨v1, v2, v3, v4, v5, v6, v7, v8⟩ := V
  refine ⟨v1, by rw [hx 12 (by decide)]; exact v2, v3.ex hx (by decide), v4.ex hx (by decide), v5.ex hx (by decide), hI, KT.ex v7 hx (by decide), fun t ht => ?_⟩
  unfold TB LK
  rw [hx 22 (by decide), hx 23 (by decide), hx 24 (by decide), hx 25 (by decide), hx 5 (by decide), hx 16 (by decide), hx 20 (by decide)]
  exact v8 t ht
/-- the taking, where the desk is open -/
theorem tak_sim {T : Nat} (F : FI L cnt kc T σ μ) (o : Int32) (wd : Int64) {N : Nat} (hN : 100 < N) :
    ∃ σ1 μ1, (if o = 0 then some σ else f_X1_takeTickets N L σ) = some σ1 ∧ f_X9_passMinute_13 N N o 0 μ wd = f_X9_passMinute_35 N N o 0 μ1 wd ∧ FI L cnt kc T σ1 μ1 ∧ RS μ μ1 ∧ Ex LT σ σ1 ∧ fb_ct (sB σ1) cnt = fb_ct (sB σ) cnt ∧ SK cnt σ σ1 ∧ (o ≠ 0 → NT cnt σ1) := by
  obtain ⟨E, G, V, hf⟩ := F
  by_cases ho : o = 0
  · rw [if_pos ho]
    refine ⟨σ, μ, rfl, ?_, ⟨E, G, V, hf⟩, RS.rf _, Ex.rf _ _, rfl, SK.ex (Ex.rf [] _) (by decide), fun h => absurd ho h⟩
    obtain ⟨m, rfl⟩ : ∃ q, N = q + 1 := ⟨N - 1, by omega⟩
    rw [f_X9_passMinute_13, if_neg (show ¬ (4 : Int32) ≤ 0 by decide), if_pos ho]
  · rw [if_neg ho]
    obtain ⟨σ1, μ1, t1, t2, ⟨t3, t4, t5, t6, t7, t9⟩, t8⟩ := take_sim E G (cl_of E G V.2.2.2.2.2.1 V.2.2.2.2.2.2.1) V.2.2.2.2.2.1 V.2.2.2.2.1 wd ho hN
    exact ⟨σ1, μ1, t1, t2, ⟨t3.1, t3.2.1, V.take t5 t6, fun t ht => (hf t ht).ex t5 (by decide) t3.2.2.1⟩, t3.2.2.2, t5, t7, t9, fun _ => t8⟩
/-- a minute on both sides -/
theorem mn_sim {T : Nat} (F : FI L cnt kc T σ μ) (hT : T < 10080) (wd : Int64) {N : Nat} (hN : 100 < N) :
    ∃ σ' μ' r, MN N L cnt σ = some σ' ∧ f_X9_passMinute N μ wd = some (nI r, μ') ∧ FI L cnt kc (T + 1) σ' μ' ∧ RS μ μ' ∧ fb_ct (sB σ') cnt = fb_ct (sB σ) cnt + r ∧ SK cnt σ σ' ∧ Ex LPs σ σ' := by
  have V0 := F.2.2.1
  have E0 := F.1
  obtain ⟨σ1, μ1, t1, t2, t3, t4, t5, t6, t7, -⟩ := tak_sim F (oV σ T) wd hN
  obtain ⟨E1, G1, V1, f1⟩ := t3
  obtain ⟨r, μ2, m1, m2, m3, m4, m5, m6, m7⟩ := min_sim E1 G1 (cc_of E1 V1.2.2.2.2.2.1 V1.2.2.2.2.2.2.1) V1.2.2.1 V1.2.2.2.2.2.1 (fun t ht => (V1.2.2.2.2.2.2.2 t ht).1.le (by omega)) f1 (oV σ T) wd hN
  refine ⟨stp L 1 (oV σ T) cnt σ1, μ2, r, ?_, ?_, ⟨m2, m3, stp_iv V1 E1.1 E1.2.1 hT _ L, m4⟩, t4.tr m5, by rw [m7, t6], t7.tr (stp_sk V1.2.2.2.2.2.1 E1.1 _ L), (t5.wk (by decide)).tr (stp_ex L 1 _ cnt σ1)⟩
  · unfold MN
    rw [V0.2.1, op_v V0.2.2.2.1 hT, Option.bind_some, t1, Option.bind_some]
  · unfold f_X9_passMinute
    rw [E0.mt, V0.2.1, mop_v E0 V0.2.2.2.1 hT, Option.bind_some, t2, m1]
/-- minutes one by one -/
def Mit (N L cnt : Nat) : Nat → Sg → Option Sg
  | 0, σ => some σ
  | d + 1, σ => (MN N L cnt σ).bind (Mit N L cnt d)
def mIt (N : Nat) (wd : Int64) : Nat → Sg → Option (Int32 × Sg)
  | 0, μ => some (0, μ)
  | d + 1, μ => (f_X9_passMinute N μ wd).bind (fun p => (mIt N wd d p.2).bind (fun q => some (p.1 + q.1, q.2)))
theorem Mit_add (N L cnt : Nat) : ∀ a b σ, Mit N L cnt (a + b) σ = (Mit N L cnt a σ).bind (Mit N L cnt b)
  | 0, b, σ => by rw [Nat.zero_add]; rfl
  | a + 1, b, σ => by
    rw [show a + 1 + b = (a + b) + 1 from by omega]
    show (MN N L cnt σ).bind (Mit N L cnt (a + b)) = ((MN N L cnt σ).bind (Mit N L cnt a)).bind (Mit N L cnt b)
    cases MN N L cnt σ with
    | none => rfl
    | some τ => exact Mit_add N L cnt a b τ
theorem it_sim (wd : Int64) {N : Nat} (hN : 100 < N) : ∀ (s T : Nat) (σ μ : Sg), FI L cnt kc T σ μ → T + s ≤ 10080 →
    ∃ σ' μ' r, Mit N L cnt s σ = some σ' ∧ mIt N wd s μ = some (nI r, μ') ∧ FI L cnt kc (T + s) σ' μ' ∧ RS μ μ' ∧ fb_ct (sB σ') cnt = fb_ct (sB σ) cnt + r ∧ SK cnt σ σ' ∧ Ex LPs σ σ'
  | 0, T, σ, μ, F, _ => ⟨σ, μ, 0, rfl, rfl, F, RS.rf _, rfl, SK.rf _ _, Ex.rf _ _⟩
  | s + 1, T, σ, μ, F, h => by
    obtain ⟨σ1, μ1, r1, a1, a2, a3, a4, a5, a6, a7⟩ := mn_sim F (by omega) wd hN
    obtain ⟨σ2, μ2, r2, b1, b2, b3, b4, b5, b6, b7⟩ := it_sim wd hN s (T + 1) σ1 μ1 a3 (by omega)
    refine ⟨σ2, μ2, r1 + r2, ?_, ?_, by rw [show T + (s + 1) = T + 1 + s from by omega]; exact b3, a4.tr b4, by rw [b5, a5]; omega, a6.tr b6, a7.tr b7⟩
    · show (MN N L cnt σ).bind (Mit N L cnt s) = _
      rw [a1, Option.bind_some, b1]
    · show (f_X9_passMinute N μ wd).bind (fun p => (mIt N wd s p.2).bind (fun q => some (p.1 + q.1, q.2))) = _
      rw [a2, Option.bind_some, b2, Option.bind_some, nI_add]
/-- a stretch is its minutes -/
theorem str_it {N : Nat} (hN : 100 < N) : ∀ (s T : Nat) (σ : Sg) (o : Int32), Iv cnt kc T σ → CL L cnt kc σ → o = oV σ T → (o ≠ 0 → NT cnt σ) → (∀ m, T ≤ m → m < T + (s + 1) → opB σ m = opB σ T) → T + (s + 1) ≤ 10080 → (s + 1 = 1 ∨ ∀ t, t < cnt → Bd o ((s + 1 : Nat) : Int) σ t) →
    Mit N L cnt s (stp L 1 o cnt σ) = some (stp L (nI (s + 1)) o cnt σ)
  | 0, T, σ, o, V, C, ho, hn, ha, hT, hd => rfl
  | s + 1, T, σ, o, V, C, ho, hn, ha, hT, hd => by
    have hd' : ∀ t, t < cnt → Bd o ((s + 1 + 1 : Nat) : Int) σ t := hd.resolve_left (by omega)
    have h60 := C.1.1
    have hb : ∀ t, t < cnt → TB 20000 σ t := fun t ht => (V.2.2.2.2.2.2.2 t ht).1.le (by omega)
    have hl : ∀ t, t < cnt → LK σ t := fun t ht => (V.2.2.2.2.2.2.2 t ht).2
    have q : stp L 1 o cnt σ = qt o cnt σ := stp_quiet hb (fun t ht => (hd' t ht).mono (by omega)) hl L
    have V2 := stp_iv V h60 C.1.2.1 (by omega) o L
    have C2 := (stp_lift C 1 o hN).1
    have x := stp_ex L 1 o cnt σ
    have ob : ∀ m, opB (stp L 1 o cnt σ) m = opB σ m := fun m => by
      unfold opB
      rw [x 13 (by decide), x 14 (by decide)]
    have oo : o = oV (stp L 1 o cnt σ) (T + 1) := by
      unfold oV
      rw [ob, ha (T + 1) (by omega) (by omega)]
      exact ho
    have e21 : stp L 1 o cnt σ 21 = σ 21 := by
      rw [q]
      funext j
      unfold qt gw
      rw [if_neg (by omega), if_neg (by omega)]
      split
      · rw [if_neg (by omega), if_neg (by omega), if_neg (by omega)]
      · rfl
    have e20 : stp L 1 o cnt σ 20 = σ 20 := by
      rw [q]
      funext j
      unfold qt gw
      rw [if_neg (by omega), if_neg (by omega)]
      split
      · rw [if_neg (by omega), if_neg (by omega), if_neg (by omega)]
      · rfl
    have nt : o ≠ 0 → NT cnt (stp L 1 o cnt σ) := fun h l hl => by
      have e : wB (stp L 1 o cnt σ) l = wB σ l := by
        funext j
        unfold wB
        rw [e21, e20]
      unfold DN qP
      rw [e, e21, e20, x 30 (by decide)]
      exact hn h l hl
    have bd2 : s + 1 = 1 ∨ ∀ t, t < cnt → Bd o ((s + 1 : Nat) : Int) (stp L 1 o cnt σ) t := Or.inr fun t ht => by
      obtain ⟨d1, d2⟩ := hd' t ht
      obtain ⟨⟨p2, p2'⟩, ⟨p3, p3'⟩, ⟨p4, p4'⟩, p5, p5'⟩ := hb t ht
      have hr := rr_ex (σ' := stp L 1 o cnt σ) (σ := σ) e21 (x 26 (by decide)) (by rw [q]; funext j; unfold qt gw; rw [if_neg (by omega), if_neg (by omega)]; split; rw [if_neg (by omega), if_neg (by omega), if_neg (by omega)]; rfl) t
      have hv := rv_ex (σ' := stp L 1 o cnt σ) (σ := σ) e21 (x 26 (by decide)) t
      have hc := ct_ex (σ' := stp L 1 o cnt σ) (σ := σ) (o := o) (x 6 (by decide)) (x 16 (by decide)) t
      have g : ∀ k, k = 23 ∨ k = 24 ∨ k = 25 → stp L 1 o cnt σ k t = gw 1 o cnt σ k t := fun k hk => by
        rw [q]
        unfold qt
        rw [if_neg (by omega), if_neg (by omega)]
      have g22 : o ≠ 0 → σ 21 t = 1 → stp L 1 o cnt σ 22 t = σ 22 t + 1 := fun h1 h2 => by
        rw [q]
        unfold qt
        rw [if_neg (by omega), if_pos ⟨ht, rfl, h1, h2⟩]
      unfold Bd cbP
      rw [x 1 (by decide), x 2 (by decide), x 3 (by decide), x 5 (by decide), x 16 (by decide), e21, e20, g 23 (by decide), g 24 (by decide), g 25 (by decide)]
      refine ⟨fun c => ⟨fun a b => ?_, fun a b => ?_, fun a b => ?_⟩, fun a b => ?_⟩
      · have c' := hc.mp c
        have a' := hr.mp a
        have e : gw 1 o cnt σ 24 t = σ 24 t + 1 := by
          unfold gw
          rw [if_pos ⟨ht, c'⟩, if_pos ⟨a', rfl⟩]
        rw [e] at b ⊢
        have z := z_le.mp b
        rw [z_up ⟨p4, p4'⟩] at z ⊢
        have := (d1 c').1 a' (z_le.mpr (by omega))
        omega
      · have c' := hc.mp c
        have a' := hv.mp a
        have e : gw 1 o cnt σ 25 t = σ 25 t + 1 := by
          unfold gw
          rw [if_pos ⟨ht, c'⟩, if_neg (by omega), if_pos ⟨a', rfl⟩]
        rw [e] at b ⊢
        have z := z_le.mp b
        rw [z_up ⟨p5, p5'⟩] at z ⊢
        have := (d1 c').2.1 a' (z_le.mpr (by omega))
        omega
      · have c' := hc.mp c
        have e : gw 1 o cnt σ 23 t = σ 23 t + 1 := by
          unfold gw
          rw [if_pos ⟨ht, c'⟩, if_neg (by omega), if_neg (by omega), if_pos ⟨a, rfl⟩]
        rw [e, z_up ⟨p3, p3'⟩]
        have := (d1 c').2.2 a b
        omega
      · rw [g22 a b, z_up ⟨p2, p2'⟩]
        have := d2 a b
        omega
    have ih := str_it hN s (T + 1) (stp L 1 o cnt σ) o V2 C2 oo nt (fun m h1 h2 => by rw [ob, ob, ha m (by omega) (by omega), ha (T + 1) (by omega) (by omega)]) (by omega) bd2
    have mn : MN N L cnt (stp L 1 o cnt σ) = some (stp L 1 o cnt (stp L 1 o cnt σ)) := by
      unfold MN
      rw [V2.2.1]
      by_cases hT1 : T + 1 < 10080
      · rw [op_v V2.2.2.2.1 hT1, Option.bind_some, ← oo]
        by_cases h0 : o = 0
        · rw [if_pos h0, Option.bind_some]
        · rw [if_neg h0, take_fix C2 (nt h0) hN, Option.bind_some]
      · omega
    have mg : stp L (nI (s + 1 + 1)) o cnt σ = stp L (nI (s + 1)) o cnt (stp L 1 o cnt σ) := by
      rw [q, ← nI_1 (s + 1)]
      refine stp_mg h60 V.2.2.2.2.2.1 (fun t ht c => ?_) L
      obtain ⟨d1, -⟩ := hd' t ht
      obtain ⟨-, -, ⟨p4, p4'⟩, p5, p5'⟩ := hb t ht
      refine ⟨fun r => ⟨fun z => ?_, fun z => ?_⟩, fun r => ⟨fun z => ?_, fun z => ?_⟩⟩
      · have z := z_le.mp z
        rw [z_up ⟨p4, p4'⟩] at z
        exact z_le.mpr (by omega)
      · have := (d1 c).1 r z
        rw [z_le, z_up ⟨p4, p4'⟩]
        omega
      · have z := z_le.mp z
        rw [z_up ⟨p5, p5'⟩] at z
        exact z_le.mpr (by omega)
      · have := (d1 c).2.1 r z
        rw [z_le, z_up ⟨p5, p5'⟩]
        omega
    show (MN N L cnt (stp L 1 o cnt σ)).bind (Mit N L cnt s) = _
    rw [mn, Option.bind_some, ih, mg]
/-- a stretch of the class's -/
theorem s37 (C : CL L cnt kc σ) {N : Nat} (hN : 100 < N) {e o : Int32} {s : Int32} (hs : f_X1_stretch N e o σ = some s) (k2 : Int32 → Int32 → Sg → Option Sg) (x : Int32) : f_X1_passUntil_37 N L k2 e x o σ = k2 e (x + 1) (stp L s o cnt σ) := by
  obtain ⟨g1, g2⟩ := grow_lift C s o hN
  obtain ⟨w1, w2⟩ := work_lift g1 s hN
  unfold f_X1_passUntil_37 f_X1_passUntil_62
  rw [hs, Option.bind_some, g2, Option.bind_some]
  unfold stp
  by_cases ho : o = 0
  · obtain ⟨c1, c2⟩ := climb_lift g1 (itr (gT L s o) cnt σ 12 0 + s) hN
    simp only [if_pos ho]
    rw [c2, Option.bind_some]
  · obtain ⟨c1, c2⟩ := climb_lift w1 (itr (wT L s cnt) cnt (itr (gT L s o) cnt σ) 12 0 + s) hN
    simp only [if_neg ho]
    rw [w2, Option.bind_some, c2, Option.bind_some]
/-- the class passes as minutes do -/
theorem until_it (wd : Int64) {N e : Nat} (hN : 100 < N) (he : e ≤ 10080) : ∀ (d T x n : Nat) (σ μ : Sg), FI L cnt kc T σ μ → T + d = e → x + d ≤ 10080 → d < n →
    f_X1_passUntil_2 N L n (nI e) (nI x) σ = Mit N L cnt d σ := by
  intro d
  induction d using Nat.strongRecOn with
  | _ d ih =>
    intro T x n σ μ F hT hx hn
    obtain ⟨m, rfl⟩ : ∃ q, n = q + 1 := ⟨n - 1, by omega⟩
    have V := F.2.2.1
    rw [f_X1_passUntil_2, V.2.1]
    by_cases h0 : d = 0
    · subst h0
      have he' : ¬ e > T := by omega
      by_cases hx' : (10080 : Int32) ≤ nI x
      · rw [if_pos hx']
        rfl
      · rw [if_neg hx', if_pos (nI_le (by omega) (by omega))]
        rfl
    · rw [if_neg (show ¬ (10080 : Int32) ≤ nI x from nI_ge (b := 10080) (by omega) (by omega)), if_neg (nI_ge (by omega) (by omega)), op_v V.2.2.2.1 (by omega), Option.bind_some]
      obtain ⟨σ1, μ1, t1, -, t3, -, t5, -, -, t8⟩ := tak_sim F (oV σ T) wd hN
      have V1 := t3.2.2.1
      have C1 := cl_of t3.1 t3.2.1 V1.2.2.2.2.2.1 V1.2.2.2.2.2.2.1
      have ob : ∀ m, opB σ1 m = opB σ m := fun m => by
        unfold opB
        rw [t5 13 (by decide), t5 14 (by decide)]
      have oo : oV σ T = oV σ1 T := by
        unfold oV
        rw [ob]
      obtain ⟨s, s1, s2, s3, s4, s5⟩ := str_v C1.1 V1.2.2.1 V1.2.2.2.1 (fun t ht => (V1.2.2.2.2.2.2.2 t ht).1.le (by omega)) V1.2.1 (show T < e by omega) he (oV σ T) hN
      obtain ⟨s', rfl⟩ : ∃ q, s = q + 1 := ⟨s - 1, by omega⟩
      have hM : Mit N L cnt (s' + 1) σ = some (stp L (nI (s' + 1)) (oV σ T) cnt σ1) := by
        show (MN N L cnt σ).bind (Mit N L cnt s') = _
        unfold MN
        rw [V.2.1, op_v V.2.2.2.1 (by omega), Option.bind_some, t1, Option.bind_some, Option.bind_some]
        exact str_it hN s' T σ1 (oV σ T) V1 C1 oo t8 s4 (by omega) s5
      obtain ⟨σ2, μ2, r2, b1, b2, b3, -, -, -, -⟩ := it_sim wd hN (s' + 1) T σ μ F (by omega)
      have e2 : σ2 = stp L (nI (s' + 1)) (oV σ T) cnt σ1 := Option.some.inj (b1.symm.trans hM)
      subst e2
      have hrec := ih (d - (s' + 1)) (by omega) (T + (s' + 1)) (x + 1) m _ μ2 b3 (by omega) (by omega) (by omega)
      have hk : (if oV σ T = 0 then f_X1_passUntil_37 N L (fun x1 x2 σ => f_X1_passUntil_2 N L m x1 x2 σ) (nI e) (nI x) (oV σ T) σ else (f_X1_takeTickets N L σ).bind (fun p6 => f_X1_passUntil_37 N L (fun x1 x2 σ => f_X1_passUntil_2 N L m x1 x2 σ) (nI e) (nI x) (oV σ T) p6)) = f_X1_passUntil_37 N L (fun x1 x2 σ => f_X1_passUntil_2 N L m x1 x2 σ) (nI e) (nI x) (oV σ T) σ1 := by
        by_cases h : oV σ T = 0
        · rw [if_pos h] at t1 ⊢
          rw [Option.some.inj t1]
        · rw [if_neg h] at t1 ⊢
          rw [t1, Option.bind_some]
      rw [hk, s37 C1 hN s1, nI_1]
      refine Eq.trans hrec ?_
      rw [show d = (s' + 1) + (d - (s' + 1)) from by omega, Mit_add, hM, Option.bind_some]
      congr 1
      omega
end Fk
