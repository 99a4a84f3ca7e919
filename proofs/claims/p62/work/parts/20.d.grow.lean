section Pd
variable {L cnt kc T : Nat} {σ μ : Sg}
/-! p62: the taking, one take after the other; a minute; minutes -/
theorem tkl_ind {P : Sg → Prop} (hP : ∀ (l t : Nat) (τ : Sg), l < 4 → t < cnt → CL L cnt kc τ → RI cnt τ → AI τ → P τ → qP (nI l) τ t → (fb_ct (wB τ l) cnt : Int) < (τ 30 l).toInt → P (tk L t τ)) {N : Nat} (hN : 100 < N) {l : Nat} (hl : l < 4) (k2 : Int32 → Sg → Option Sg) {r : Sg} (hk : ∀ τ : Sg, CL L cnt kc τ → RI cnt τ → AI τ → P τ → k2 (nI (l + 1)) τ = some r → P r) :
    ∀ (n b : Nat) (τ : Sg), CL L cnt kc τ → RI cnt τ → AI τ → P τ → b = fb_ct (wB τ l) cnt → f_X1_takeTickets_17 N L k2 n (nI l) (nI b) τ = some r → P r
  | 0, b, τ, C, I, A, p, hb, h => by rw [f_X1_takeTickets_17] at h; cases h
  | n + 1, b, τ, C, I, A, p, hb, h => by
    have h60 := C.1.1
    have hb60 : b ≤ 60 := by have := fb_ct_le (wB τ l) cnt; omega
    rw [f_X1_takeTickets_17, if_pos (ib_nI hl (by decide)), ix_nI (by omega)] at h
    by_cases c : τ 30 l ≤ nI b
    · rw [if_pos c, nI_1] at h
      exact hk τ C I A p h
    · obtain ⟨q1, q2⟩ := fq_v C.1 (nI l) hN
      rw [if_neg c, q2, Option.bind_some] at h
      rcases q1 with ⟨v, none⟩ | ⟨t, t1, t2, v, tq⟩
      · rw [v, if_pos rfl, nI_1] at h
        exact hk τ C I A p h
      · obtain ⟨c1, c2⟩ := tk_lift C t2
        rw [v, if_neg (nI_m1 (by omega)), c2, Option.bind_some, nI_1] at h
        have hlt : (fb_ct (wB τ l) cnt : Int) < (τ 30 l).toInt := by
          have := z_lt.mp (Int32.not_le.mp c)
          rw [z_nI (by omega)] at this
          omega
        exact tkl_ind hP hN hl k2 hk n (b + 1) (tk L t τ) c1 (I.tz tq.1 L) (A.ex (tk_ex L t τ) (by decide)) (hP l t τ hl t2 C I A p tq hlt) (by rw [tk_wB t2 tq, hb]) h
theorem tkk_ind {P : Sg → Prop} (hP : ∀ (l t : Nat) (τ : Sg), l < 4 → t < cnt → CL L cnt kc τ → RI cnt τ → AI τ → P τ → qP (nI l) τ t → (fb_ct (wB τ l) cnt : Int) < (τ 30 l).toInt → P (tk L t τ)) {N : Nat} (hN : 100 < N) {r : Sg} :
    ∀ (k l n : Nat) (τ : Sg), l + k = 4 → CL L cnt kc τ → RI cnt τ → AI τ → P τ → f_X1_takeTickets_2 N L n (nI l) τ = some r → P r
  | 0, l, n, τ, hl, C, I, A, p, h => by
    match n, h with
    | 0, h => rw [f_X1_takeTickets_2] at h; cases h
    | n + 1, h =>
      obtain rfl : l = 4 := by omega
      rw [f_X1_takeTickets_2, if_pos (by decide)] at h
      cases h
      exact p
  | k + 1, l, n, τ, hl, C, I, A, p, h => by
    match n, h with
    | 0, h => rw [f_X1_takeTickets_2] at h; cases h
    | n + 1, h =>
      rw [f_X1_takeTickets_2, if_neg (show ¬ (4 : Int32) ≤ nI l from nI_ge (b := 4) (by omega) (by decide)), ca_v C.1.2.2.1 C.1.1 (nI l) 1 hN, Option.bind_some] at h
      exact tkl_ind hP hN (show l < 4 by omega) _ (fun τ' C' I' A' p' h' => tkk_ind hP hN k (l + 1) n τ' (by omega) C' I' A' p' h') N _ τ C I A p rfl h
theorem take_ind {P : Sg → Prop} (hP : ∀ (l t : Nat) (τ : Sg), l < 4 → t < cnt → CL L cnt kc τ → RI cnt τ → AI τ → P τ → qP (nI l) τ t → (fb_ct (wB τ l) cnt : Int) < (τ 30 l).toInt → P (tk L t τ)) {N : Nat} (hN : 100 < N) {r : Sg} (C : CL L cnt kc σ) (I : RI cnt σ) (A : AI σ) (p : P σ) (h : f_X1_takeTickets N L σ = some r) : P r :=
  tkk_ind hP hN 4 0 N σ rfl C I A p h
/-- who is solved, behind: was solved, or is so now -/
def SN (cnt : Nat) (a : Int32) (σ τ : Sg) : Prop := ∀ t, t < cnt → τ 21 t = 3 → σ 21 t = 3 ∨ τ 29 t = a
theorem SN.ra {a b : Int32} {τ υ : Sg} {i : Nat} (h : SN cnt a σ τ) (hx : Ex [22] τ υ) : SN cnt a σ (ra L i b υ) := fun t ht q => by
  rw [ra_at _ _ _ _ (by decide)] at q
  rw [ra_ex L i b υ 29 (by decide), hx 29 (by decide)]
  split at q
  · rw [if_neg (by decide), if_pos (by decide)] at q
    exact absurd q (by decide)
  · rw [hx 21 (by decide)] at q
    exact h t ht q
theorem SN.fin {a : Int32} {τ υ : Sg} {i : Nat} (h : SN cnt a σ τ) (hx : Ex [22] τ υ) : SN cnt a σ (fin L cnt i a υ) := fun t ht q => by
  rw [fin_at _ _ _ _ _ (by decide)] at q ⊢
  unfold fw at q ⊢
  split at q
  · rename_i z
    rw [if_pos z, if_neg (by decide), if_pos rfl]
    exact Or.inr rfl
  · rename_i z
    rw [if_neg z]
    rw [hx 21 (by decide)] at q
    rw [hx 29 (by decide)]
    exact h t ht q
theorem stp_sn (o : Int32) : SN cnt (σ 12 0 + 1) σ (stp L 1 o cnt σ) := by
  have x1 : Ex LC σ (itr (gT L 1 o) cnt σ) := itr_ex (fun i σ => gT_ex L 1 o i σ) σ cnt
  have w : SN cnt (σ 12 0 + 1) σ (if o = 0 then itr (gT L 1 o) cnt σ else itr (wT L 1 cnt) cnt (itr (gT L 1 o) cnt σ)) ∧ (if o = 0 then itr (gT L 1 o) cnt σ else itr (wT L 1 cnt) cnt (itr (gT L 1 o) cnt σ)) 12 0 = σ 12 0 := by
    have h0 : SN cnt (σ 12 0 + 1) σ (itr (gT L 1 o) cnt σ) := fun t _ q => by
      rw [x1 21 (by decide)] at q
      exact Or.inl q
    have t0 : itr (gT L 1 o) cnt σ 12 0 = σ 12 0 := by rw [x1 12 (by decide)]
    split
    · exact ⟨h0, t0⟩
    · generalize itr (gT L 1 o) cnt σ = σ1 at h0 t0
      exact one_itr (wT L 1 cnt) (fun _ τ => SN cnt (σ 12 0 + 1) σ τ ∧ τ 12 0 = σ 12 0) cnt (fun i τ hi I => by
        obtain ⟨I1, I2⟩ := I
        refine ⟨?_, by rw [wT_ex L 1 cnt i τ 12 (by decide)]; exact I2⟩
        have hx : Ex [22] τ (up τ 22 i (τ 22 i + 1)) := Ex.up _ _ _ (by decide)
        unfold wT
        rw [I2]
        split
        · split
          · split
            · exact I1.ra hx
            · exact I1.fin hx
          · intro t ht q
            rw [hx 21 (by decide)] at q
            rw [hx 29 (by decide)]
            exact I1 t ht q
        · exact I1) σ1 ⟨h0, t0⟩
  unfold stp
  simp only []
  generalize (if o = 0 then itr (gT L 1 o) cnt σ else itr (wT L 1 cnt) cnt (itr (gT L 1 o) cnt σ)) = σ3 at w
  have k := one_itr (cT L (σ3 12 0 + 1)) (fun _ τ => SN cnt (σ 12 0 + 1) σ τ) cnt (fun i τ hi I => by
    unfold cT
    split
    · exact I.ra (Ex.rf _ _)
    · exact I) σ3 w.1
  generalize itr (cT L (σ3 12 0 + 1)) cnt σ3 = σ4 at k
  intro t ht q
  rw [up_row (by decide)] at q ⊢
  exact k t ht q
/-- how the clocks run in a minute -/
theorem stp_clk (o : Int32) {k : Nat} (hk : k = 24 ∨ k = 25) (t : Nat) : stp L 1 o cnt σ k t = σ k t ∨ stp L 1 o cnt σ k t = σ k t + 1 ∧ ctP o σ t ∧ σ 21 t ≠ 3 := by
  have e : stp L 1 o cnt σ k = itr (gT L 1 o) cnt σ k := by
    have k12 : k ≠ 12 := by omega
    have kA : k ∉ LA := by rcases hk with rfl | rfl <;> decide
    have kW : k ∉ LW := by rcases hk with rfl | rfl <;> decide
    unfold stp
    (try simp only [])
    rw [up_row k12, itr_ex (fun i σ => cT_ex L _ i σ) _ cnt k kA]
    split
    · rfl
    · rw [itr_ex (fun i σ => wT_ex L 1 cnt i σ) _ cnt k kW]
  rw [e, grow_at 1 o cnt k (by rcases hk with rfl | rfl <;> decide)]
  unfold gw
  by_cases c : t < cnt ∧ ctP o σ t
  · rw [if_pos c]
    by_cases r : rrP σ t ∧ k = 24
    · rw [if_pos r]
      refine Or.inr ⟨by rw [r.2], c.2, fun q => ?_⟩
      rcases r.1.2 with z | z | z
      · rw [q] at z; exact absurd z (by decide)
      · rw [q] at z; exact absurd z (by decide)
      · rw [q] at z; exact absurd z.1 (by decide)
    · rw [if_neg r]
      by_cases v : rvP σ t ∧ k = 25
      · rw [if_pos v]
        refine Or.inr ⟨by rw [v.2], c.2, fun q => ?_⟩
        rcases v.1 with z | z | z
        · rw [q] at z; exact absurd z.1 (by decide)
        · rw [q] at z; exact absurd z (by decide)
        · rw [q] at z; exact absurd z (by decide)
      · rw [if_neg v, if_neg (by omega)]
        exact Or.inl rfl
  · rw [if_neg c]
    exact Or.inl rfl
/-- how many minutes count for a ticket -/
def cmt (σ : Sg) (T d t : Nat) : Nat := if σ 6 (ix (σ 16 t)) = 0 then fb_ct (fun i => opB σ (T + i)) d else d
/-- what d minutes from T on do to the clocks and to what is solved -/
def GD (cnt T d : Nat) (σ σ' : Sg) : Prop := ∀ t, t < cnt → (∀ k, k = 24 ∨ k = 25 → ∃ g : Nat, σ' k t = σ k t + nI g ∧ g ≤ cmt σ T d t ∧ (σ 21 t = 3 → g = 0)) ∧ (σ' 21 t = 3 → σ 21 t = 3 ∨ ∃ v : Nat, T < v ∧ v ≤ T + d ∧ σ' 29 t = nI v)
theorem opB_ex {σ' : Sg} (h13 : σ' 13 = σ 13) (h14 : σ' 14 = σ 14) (m : Nat) : opB σ' m = opB σ m := by
  unfold opB
  rw [h13, h14]
theorem mn_jr (F : FI 600 cnt kc T σ μ) (h : JR cnt kc T σ) (hT : T < 10080) {N : Nat} (hN : 100 < N) {σ' : Sg} (hm : MN N 600 cnt σ = some σ') : JR cnt kc (T + 1) σ' ∧ GD cnt T 1 σ σ' := by
  obtain ⟨σ1, μ1, t1, -, F1, -, t5, -, t7, -⟩ := tak_sim F (oV σ T) 0 hN
  have V := F.2.2.1
  have e : σ' = stp 600 1 (oV σ T) cnt σ1 := by
    unfold MN at hm
    rw [V.2.1, op_v V.2.2.2.1 hT, Option.bind_some, t1, Option.bind_some] at hm
    exact (Option.some.inj hm).symm
  have h60 := F.1.1
  have j1 : JR cnt kc T σ1 := by
    by_cases ho : oV σ T = 0
    · rw [if_pos ho] at t1
      cases t1
      exact h
    · rw [if_neg ho] at t1
      exact (take_ind (P := fun τ => JR cnt kc T τ ∧ τ 12 0 = nI T) (fun l t τ hl ht C I A p hq hb => ⟨jr_tk p.1 (by omega) p.2 hl ht hq hb, by rw [tk_ex 600 t τ 12 (by decide)]; exact p.2⟩) hN (cl_of F.1 F.2.1 V.2.2.2.2.2.1 V.2.2.2.2.2.2.1) V.2.2.2.2.2.1 V.2.2.2.2.1 ⟨h, V.2.1⟩ t1).1
  have V1 := F1.2.2.1
  subst e
  refine ⟨jr_stp j1 hT V1.2.1 (fun t ht => (V1.2.2.2.2.2.2.2 t ht).1.le (by omega)) _, fun t ht => ⟨fun k hk => ?_, fun q => ?_⟩⟩
  · have e1 : σ1 k t = σ k t := by rw [t5 k (by rcases hk with rfl | rfl <;> decide)]
    rcases stp_clk (L := 600) (cnt := cnt) (σ := σ1) (oV σ T) hk t with c | ⟨c, c2, c3⟩
    · exact ⟨0, by rw [c, e1]; exact (Int32.add_zero _).symm, Nat.zero_le _, fun _ => rfl⟩
    · refine ⟨1, by rw [c, e1]; rfl, ?_, fun q => absurd (t7 t ht q).1 c3⟩
      unfold cmt
      have c4 : ctP (oV σ T) σ t := (ct_ex (t5 6 (by decide)) (t5 16 (by decide)) t).mp c2
      split
      · rename_i z
        rcases c4 with w | w
        · have : opB σ T = true := by
            unfold oV at w
            by_cases b : opB σ T = true
            · exact b
            · rw [if_neg b] at w
              exact absurd rfl w
          show 1 ≤ 0 + (if opB σ (T + 0) = true then 1 else 0)
          rw [Nat.add_zero, if_pos this]
          omega
        · exact absurd z w
      · exact Nat.le_refl _
  · have e12 : σ1 12 0 + 1 = nI (T + 1) := by rw [V1.2.1, nI_1]
    rcases stp_sn (L := 600) (cnt := cnt) (σ := σ1) (oV σ T) t ht q with w | w
    · -- solved behind the taking: solved before
      left
      by_cases z : σ 21 t = 3
      · exact z
      · exfalso
        by_cases ho : oV σ T = 0
        · rw [if_pos ho] at t1
          cases t1
          exact z w
        · rw [if_neg ho] at t1
          have := take_ind (P := fun τ => ∀ j, j < cnt → τ 21 j = 3 → σ 21 j = 3) (fun l i τ hl hi C I A p hq hb j hj y => by
            rw [tk_21] at y
            split at y
            · exact absurd y (by decide)
            · exact p j hj y) hN (cl_of F.1 F.2.1 V.2.2.2.2.2.1 V.2.2.2.2.2.2.1) V.2.2.2.2.2.1 V.2.2.2.2.1 (fun _ _ y => y) t1
          exact z (this t ht w)
    · exact Or.inr ⟨T + 1, by omega, Nat.le_refl _, w.trans e12⟩
/-- minutes -/
theorem it_jr {N : Nat} (hN : 100 < N) : ∀ (d T : Nat) (σ μ : Sg), FI 600 cnt kc T σ μ → JR cnt kc T σ → T + d ≤ 10080 → ∀ σ', Mit N 600 cnt d σ = some σ' → JR cnt kc (T + d) σ' ∧ GD cnt T d σ σ'
  | 0, T, σ, μ, F, h, hT, σ', hm => by
    cases hm
    exact ⟨h, fun t ht => ⟨fun k hk => ⟨0, (Int32.add_zero _).symm, Nat.zero_le _, fun _ => rfl⟩, fun q => Or.inl q⟩⟩
  | d + 1, T, σ, μ, F, h, hT, σ', hm => by
    obtain ⟨σ1, μ1, r1, b1, b2, b3, b4, -, b6, b7⟩ := mn_sim F (by omega) 0 hN
    have hm2 : Mit N 600 cnt d σ1 = some σ' := by
      have hm' : (MN N 600 cnt σ).bind (Mit N 600 cnt d) = some σ' := hm
      rw [b1] at hm'
      exact hm'
    obtain ⟨j1, g1⟩ := mn_jr F h (by omega) hN b1
    obtain ⟨j2, g2⟩ := it_jr hN d (T + 1) σ1 μ1 b3 j1 (by omega) σ' hm2
    obtain ⟨σ2, μ2, r2, c1, -, -, -, -, c6, -⟩ := it_sim (0 : Int64) hN d (T + 1) σ1 μ1 b3 (by omega)
    rw [hm2] at c1
    cases c1
    refine ⟨by rw [show T + (d + 1) = T + 1 + d from by omega]; exact j2, fun t ht => ?_⟩
    obtain ⟨p1, p2⟩ := g1 t ht
    obtain ⟨q1, q2⟩ := g2 t ht
    refine ⟨fun k hk => ?_, fun q => ?_⟩
    · obtain ⟨a, a1, a2, a3⟩ := p1 k hk
      obtain ⟨b, b1', b2', b3'⟩ := q1 k hk
      refine ⟨a + b, by rw [b1', a1, Int32.add_assoc, nI_add], ?_, fun z => ?_⟩
      · unfold cmt at a2 b2' ⊢
        rw [b7 6 (by decide), b7 16 (by decide)] at b2'
        split
        · rename_i z
          rw [if_pos z] at a2 b2'
          have e1 : fb_ct (fun i => opB σ (T + i)) (1 + d) = fb_ct (fun i => opB σ (T + i)) 1 + fb_ct (fun i => opB σ (T + (1 + i))) d := fb_ct_split _ 1 d
          have e2 : fb_ct (fun i => opB σ1 (T + 1 + i)) d = fb_ct (fun i => opB σ (T + (1 + i))) d := fb_ct_cong (fun i _ => by
            rw [opB_ex (b7 13 (by decide)) (b7 14 (by decide)), show T + 1 + i = T + (1 + i) from by omega])
          rw [show d + 1 = 1 + d from by omega, e1]
          omega
        · rename_i z
          rw [if_neg z] at a2 b2'
          omega
      · have := b3' (b6 t ht z).1
        have := a3 z
        omega
    · rcases q2 q with w | ⟨v, v1, v2, v3⟩
      · rcases p2 w with y | ⟨v, v1, v2, v3⟩
        · exact Or.inl y
        · exact Or.inr ⟨v, v1, by omega, by rw [(c6 t ht w).2]; exact v3⟩
      · exact Or.inr ⟨v, by omega, by omega, v3⟩
end Pd
