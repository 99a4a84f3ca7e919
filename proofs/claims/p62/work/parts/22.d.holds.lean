/-! p62 by hand: holds -/
theorem ph_0 {X a b c1 c2 c3 c4 c5 c6 k q t1 t2 t3 z1 z2 : va_W} : (a ++ (b ++ (c1 ++ (c2 ++ (c3 ++ (c4 ++ (c5 ++ (c6 ++ (k ++ (t1 ++ (t2 ++ (t3 ++ (z1 ++ (z2 ++ (q ++ X))))))))))))))).Perm (a ++ (b ++ (c1 ++ (c2 ++ (c3 ++ (c4 ++ (c5 ++ (c6 ++ (t1 ++ (t2 ++ (t3 ++ (k ++ (q ++ (z1 ++ (z2 ++ X))))))))))))))) := cnt_perm fun f => by simp only [List.countP_append]; omega
theorem ph_1 {X a b c1 c2 c3 c4 c5 c6 k q t1 t2 t3 : va_W} : (a ++ (b ++ (c1 ++ (c2 ++ (c3 ++ (c4 ++ (c5 ++ (c6 ++ (t1 ++ (t2 ++ (t3 ++ (k ++ (q ++ X))))))))))))).Perm (c1 ++ (c2 ++ (c3 ++ (c4 ++ (c5 ++ (c6 ++ (q ++ (a ++ (b ++ (t1 ++ (t2 ++ (t3 ++ (k ++ X))))))))))))) := cnt_perm fun f => by simp only [List.countP_append]; omega
theorem ph_2 {X a b c1 c2 c3 c4 c5 c6 k q s1 s2 s3 s4 s5 t1 t2 t3 : va_W} : (a ++ (b ++ (c1 ++ (c2 ++ (c3 ++ (c4 ++ (c5 ++ (c6 ++ (t1 ++ (t2 ++ (t3 ++ (k ++ (q ++ (s1 ++ (s2 ++ (s3 ++ (s4 ++ (s5 ++ X)))))))))))))))))).Perm (s1 ++ (s2 ++ (s3 ++ (s4 ++ (s5 ++ (c1 ++ (c2 ++ (c3 ++ (c4 ++ (c5 ++ (c6 ++ (q ++ (a ++ (b ++ (t1 ++ (t2 ++ (t3 ++ (k ++ X)))))))))))))))))) := cnt_perm fun f => by simp only [List.countP_append]; omega
theorem ph_3 {X a b c1 c2 c3 c4 c5 c6 k q s1 s2 s3 s4 s5 t1 t2 t3 : va_W} : (a ++ (b ++ (c1 ++ (c2 ++ (c3 ++ (c4 ++ (c5 ++ (c6 ++ (t1 ++ (t2 ++ (t3 ++ (k ++ (q ++ (s1 ++ (s2 ++ (s3 ++ (s4 ++ (s5 ++ X)))))))))))))))))).Perm (c1 ++ (c2 ++ (c3 ++ (c4 ++ (c5 ++ (s1 ++ (s2 ++ (s3 ++ (s4 ++ (s5 ++ (c6 ++ (q ++ (a ++ (b ++ (t1 ++ (t2 ++ (t3 ++ (k ++ X)))))))))))))))))) := cnt_perm fun f => by simp only [List.countP_append]; omega
abbrev s5 (cA : Nat → ClassId) (g : Nat → Nat) (ρ : Sg) (X : va_W) : va_W := wK cA g ρ ++ (wLg cA g ρ 600 ++ (wC cA g ρ ++ (wH cA g ρ ++ (wS g ++ X))))
abbrev wTr (cA : Nat → ClassId) (t u : Nat → Nat) (τ υ : Sg) (kc : Nat) (F : va_W) : va_W := wK cA t τ ++ (wLg cA t τ 0 ++ (wC cA t τ ++ (wKR cA u υ kc ++ F)))
abbrev wN (cA : Nat → ClassId) (tS w u h t : Nat → Nat) (θ υ σ τ : Sg) (ax sv sc kc : Nat) (F : va_W) : va_W := wLw tS ax (u 81) w θ ++ (wQl cA u υ kc ++ w6 cA h σ ax sv (t 42) sc (wTr cA t u τ υ kc F))
abbrev wV (cA : Nat → ClassId) (sv : Nat) (f : Nat → Option Nat) : va_W := [(sv, .inl (cA 4, 2, .inr (.inr (.inr (.inr f)))))]
/-- what the saved places hold -/
def SF (cA : Nat → ClassId) (sv : Nat) (F : va_W) : Prop := (∃ X, F = wV cA sv (fun _ => none) ++ X) ∨ ∃ (g : Nat → Nat) (ρ : Sg) (f : Nat → Option Nat) (X : va_W), f 0 = some (g 46) ∧ F = wV cA sv f ++ s5 cA g ρ X
theorem rep6 {cnt kc T hl : Nat} {σ : Sg} (D : DI cnt kc T hl σ) (hk : 1 ≤ kc) (hh : hl < 200) {N : Nat} (hN : 100 < N) : ∃ v σ1 cnt1 hl1, f_X8_report N (nI 0) (nI 1) (nI 1) (nI 1) σ = some (v, σ1) ∧ ¬ v < -6 ∧ DI cnt1 kc T hl1 σ1 := by
  rcases Nat.lt_or_ge cnt 60 with z | z
  · obtain ⟨σ1, g1, g2, -⟩ := p_report D hh z hN (k := 0) (cu := 1) (su := 1) (pr := 1) hk (by decide) (by decide) (by decide)
    refine ⟨_, σ1, _, _, g1, Int32.not_lt.mpr ?_, g2⟩
    exact Int32.le_trans (show (-6 : Int32) ≤ 0 by decide) (nI_le (a := 0) (b := cnt) (Nat.zero_le _) (by omega))
  · have h6 := D.b.2.1
    obtain rfl : cnt = 60 := by omega
    exact ⟨_, σ, _, _, n_report D N (k := 0) (cu := 1) (su := 1) (pr := 1) hk (by decide) (by decide) (by decide), by decide, D⟩
theorem pas_v {cnt kc T hl : Nat} {σ : Sg} (D : DI cnt kc T hl σ) (hT : T < 10080) {N : Nat} (hN : 10100 < N) : ∃ v σ1, f_X8_pass N (nI 1) σ = some (v, σ1) ∧ ¬ v < 0 := by
  obtain ⟨μ, V⟩ := D.1
  obtain ⟨-, h60, -⟩ := D.b
  obtain ⟨σ1, μ1, p1, V1, J1, G, S, X, r, hr⟩ := ps_v V D.jr hN (d := 1) (Nat.le_refl _) (by omega)
  have h1 : fb_ct (sB σ) cnt ≤ fb_ct (sB σ1) cnt := fb_ct_sub fun j hj q => by
    unfold sB at q ⊢
    have := (S j hj (of_decide_eq_true q)).1
    exact decide_eq_true this
  have h2 : fb_ct (sB σ1) cnt ≤ cnt := fb_ct_le _ _
  refine ⟨_, σ1, p1, ?_⟩
  rw [nI_sub' h1 (by omega)]
  exact Int32.not_lt.mpr (nI_le (a := 0) (Nat.zero_le _) (by omega))
