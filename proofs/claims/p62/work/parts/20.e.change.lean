section Pe
variable {cnt kc T hl : Nat} {σ S : Sg}
/-! p62: the public changes, by what they leave -/
def hrec (σ : Sg) (hl : Nat) (c a b x d : Int32) : Sg := up (up (up (up (up (up (up σ 32 hl (σ 12 0)) 33 hl c) 34 hl a) 35 hl b) 36 hl x) 37 hl d) 31 0 (nI (hl + 1))
theorem hrec_ex (σ : Sg) (hl : Nat) (c a b x d : Int32) : Ex LH σ (hrec σ hl c a b x d) := ((((((Ex.up _ _ _ (by decide)).tr (Ex.up _ _ _ (by decide))).tr (Ex.up _ _ _ (by decide))).tr (Ex.up _ _ _ (by decide))).tr (Ex.up _ _ _ (by decide))).tr (Ex.up _ _ _ (by decide))).tr (Ex.up _ _ _ (by decide))
theorem hrec_31 (σ : Sg) (hl : Nat) (c a b x d : Int32) : hrec σ hl c a b x d 31 0 = nI (hl + 1) := up_same _ _ _ _
theorem chg_err {c a b x d e : Int32} (h : f_X1_errorOf c a b x d σ = some e) (he : e ≠ 0) (N : Nat) : f_X8_change N c a b x d σ = some (e, σ) := by
  unfold f_X8_change
  rw [h, Option.bind_some, if_neg he]
theorem chg_ok {c a b x d : Int32} (h : f_X1_errorOf c a b x d σ = some 0) (h31 : σ 31 0 = nI hl) (hh : hl < 200) {N : Nat} {r : Int32} {σ' : Sg} (hm : f_X1_make N 600 c a b x d (hrec σ hl c a b x d) = some (r, σ')) (hk : ∀ k, 30 < k → σ' k = hrec σ hl c a b x d k) : f_X8_change N c a b x d σ = some (r, σ') := by
  unfold f_X8_change
  have rc : f_X2_record (σ 12 0) c a b x d σ = some (1, hrec σ hl c a b x d) := by
    unfold f_X2_record hrec
    rw [h31, if_pos (show nI hl < 200 from nI_lt (b := 200) hh (by decide)), if_pos (ib_nI hh (by decide)), ix_nI (by omega), nI_1]
  have em : mixH (hrec σ hl c a b x d) σ = hrec σ hl c a b x d := by
    funext k
    unfold mixH
    split
    · rw [hrec_ex σ hl c a b x d k (fun q => by
        unfold LH at q
        simp only [List.mem_cons, List.not_mem_nil, or_false] at q
        omega)]
    · rfl
  have ex : mixKLgC σ' (hrec σ hl c a b x d) = σ' := by
    funext k
    unfold mixKLgC
    split
    · rfl
    · exact (hk k (by omega)).symm
  rw [h, Option.bind_some, if_pos rfl, rc, Option.bind_some, if_neg (show ¬ (1 : Int32) = 0 by decide)]
  show (f_X1_make N 600 c a b x d (mixH (hrec σ hl c a b x d) σ)).bind (fun p7 => some (p7.1, mixKLgC p7.2 (mixH (hrec σ hl c a b x d) σ))) = _
  rw [em, hm, Option.bind_some]
  show some (r, mixKLgC σ' (hrec σ hl c a b x d)) = _
  rw [ex]
/-- the desk between two calls -/
def DI (cnt kc T hl : Nat) (σ : Sg) : Prop := (∃ μ, LV cnt kc T hl σ μ) ∧ JI cnt kc T σ
theorem DI.jr (D : DI cnt kc T hl σ) : JR cnt kc T σ := by
  obtain ⟨⟨μ, V⟩, J⟩ := D
  have I := V.1.2.2.1
  exact ⟨J, I.2.2.2.2.2.1, I.2.2.1, I.2.2.2.2.2.2.1, V.E.1, V.E.2.1⟩
theorem DI.b (D : DI cnt kc T hl σ) : T ≤ 10080 ∧ cnt ≤ 60 ∧ kc ≤ 6 ∧ hl ≤ 200 ∧ σ 12 0 = nI T ∧ σ 15 0 = nI cnt ∧ σ 0 0 = nI kc ∧ σ 31 0 = nI hl := by
  obtain ⟨⟨μ, V⟩, J⟩ := D
  have I := V.1.2.2.1
  exact ⟨I.1, V.E.1, V.E.2.1, V.2.1, I.2.1, V.E.c, V.E.k, V.2.2.1⟩
theorem DI.ri (D : DI cnt kc T hl σ) : RI cnt σ := D.jr.2.1
theorem JI.hist {R : List Nat} {σ' : Sg} (J : JI cnt kc T σ) (hx : Ex R σ σ') (hR : ∀ k ∈ R, k = 12 ∨ k = 19 ∨ 30 < k) : JI cnt kc T σ' := by
  have nr : ∀ k, k ≠ 12 → k ≠ 19 → k ≤ 30 → k ∉ R := fun k h1 h2 h3 q => by
    have := hR k q
    omega
  obtain ⟨h1, h2, h3, ln, h4⟩ := J
  exact ⟨fun j hj => (h1 j hj).same (hx 3 (nr 3 (by decide) (by decide) (by decide))) (by rw [hx 16 (nr 16 (by decide) (by decide) (by decide))]) (fun k hk => by rw [hx k (nr k (by omega) (by omega) (by omega))]), h2.sub (hx 30 (nr 30 (by decide) (by decide) (by decide))) (fun j hj q => by rw [hx 21 (nr 21 (by decide) (by decide) (by decide))] at q; rw [hx 20 (nr 20 (by decide) (by decide) (by decide))]; exact ⟨q, rfl⟩), h3.ex hx (nr 4 (by decide) (by decide) (by decide)), ln, h4.ex hx ⟨nr 7 (by decide) (by decide) (by decide), nr 8 (by decide) (by decide) (by decide), nr 9 (by decide) (by decide) (by decide), nr 10 (by decide) (by decide) (by decide), nr 11 (by decide) (by decide) (by decide)⟩ (fun j hj q => by rw [hx 21 (nr 21 (by decide) (by decide) (by decide))] at q; rw [hx 29 (nr 29 (by decide) (by decide) (by decide))]; exact ⟨q, rfl⟩)⟩
theorem LH_hi : ∀ k ∈ LH, k = 12 ∨ k = 19 ∨ 30 < k := fun k q => by
  unfold LH at q
  simp only [List.mem_cons, List.not_mem_nil, or_false] at q
  omega
/-- a change without an error -/
theorem DI.chg (D : DI cnt kc T hl σ) {c m : Int32} (hc : TY c m) {a b x d : Int32} (h0 : f_X1_errorOf c a b x d σ = some 0) (hh : hl < 200) {N : Nat} (hN : 100 < N) {r : Int32} {σ' : Sg} (hm : f_X1_make N 600 c a b x d (hrec σ hl c a b x d) = some (r, σ')) (hk : ∀ k, 30 < k → σ' k = hrec σ hl c a b x d k) {cnt' : Nat} (h15 : σ' 15 0 = nI cnt') (hc' : cnt' ≤ 60) (J : JI cnt' kc T σ') :
    f_X8_change N c a b x d σ = some (r, σ') ∧ DI cnt' kc T (hl + 1) σ' := by
  obtain ⟨⟨μ, V⟩, -⟩ := D
  have g := chg_ok h0 V.2.2.1 hh hm hk
  refine ⟨g, ?_, J⟩
  obtain ⟨r2, cnt2, hl2, σ2, μ2, g1, -, g3, -⟩ := change_sim V hc a b x d hN 0
  rw [g] at g1
  cases g1
  have e1 : cnt2 = cnt' := (nI_eq (by have := g3.E.1; omega) (by omega)).mp (g3.E.c.symm.trans h15)
  have e2 : hl2 = hl + 1 := by
    have h31 : σ' 31 0 = nI (hl + 1) := by rw [hk 31 (by decide)]; exact hrec_31 σ hl c a b x d
    exact (nI_eq (by have := g3.2.1; omega) (by omega)).mp (g3.2.2.1.symm.trans h31)
  subst e1 e2
  exact ⟨μ2, g3⟩
/-- what the call's event is -/
def Tld (T : Nat) (σ σ' : Sg) (b c d : Int32) : Prop := ∀ ln, ln ≤ 600 → σ 7 0 = nI ln → σ' 7 0 = nI (min 600 (ln + 1)) ∧ (ln < 600 → σ' 8 ln = nI T ∧ σ' 9 ln = b ∧ σ' 10 ln = c ∧ σ' 11 ln = d)
theorem Tld.of (J : JI cnt kc T σ) {τ : Sg} {R : List Nat} (hx : Ex R σ τ) (hR : 7 ∉ R ∧ 8 ∉ R ∧ 10 ∉ R) (b c d : Int32) : Tld T σ (wr 600 (nI T) b c d τ) b c d := fun ln h1 h2 => by
  obtain ⟨-, -, -, n, f, ⟨h, -⟩, -⟩ := J
  obtain rfl : ln = n := (nI_eq (by omega) (by have := h.1; omega)).mp (h2.symm.trans h.2.1)
  exact wr_told (h.ex hx hR) (nI T) b c d
theorem ex1 (hc : σ 15 0 = nI cnt) (h60 : cnt ≤ 60) {t : Nat} (ht : t < cnt) : f_X7_exists (nI t) σ = some 1 := by
  unfold f_X7_exists
  rw [if_neg (nI_pos (by omega)), hc, if_neg (nI_ge ht (by omega))]
/-- what a change of one ticket says -/
theorem et_v (hc : σ 15 0 = nI cnt) (h60 : cnt ≤ 60) {t : Nat} (ht : t < cnt) {c : Int32} (hcc : c = 4 ∨ c = 5 ∨ c = 6 ∨ c = 7 ∨ c = 8 ∨ c = 10) (b x d : Int32) {p : Int32} (ha : f_X1_allows c (nI t) σ = some p) : f_X1_errorOf c (nI t) b x d σ = some (if p = 0 then -5 else 0) := by
  have e : f_X1_errorOf c (nI t) b x d σ = (f_X1_ticketError c (nI t) σ).bind (fun p1 => some p1) := by
    unfold f_X1_errorOf
    rcases hcc with rfl | rfl | rfl | rfl | rfl | rfl <;> (rw [if_neg (by decide), if_neg (by decide), if_neg (by decide), if_neg (by decide), if_neg (by decide)])
  rw [e]
  unfold f_X1_ticketError
  rw [ex1 hc h60 ht, Option.bind_some, if_neg (by decide), ha, Option.bind_some]
  split <;> rfl
theorem al_4 {t : Nat} (ht : t < 60) : f_X1_allows 4 (nI t) σ = some (if σ 21 t = 0 ∨ σ 21 t = 1 then 1 else 0) := by
  unfold f_X1_allows
  rw [if_pos rfl, act_v ht, Option.bind_some]
  split
  · rw [if_pos bz1]
  · rw [if_pos bz0]
theorem al_5 {t : Nat} (ht : t < 60) : f_X1_allows 5 (nI t) σ = some (if σ 21 t = 2 then 1 else 0) := by
  unfold f_X1_allows
  rw [if_neg (by decide), if_pos rfl, if_pos (ib_nI ht (by decide)), ix_nI (by omega)]
  split <;> rfl
theorem al_6 {t : Nat} (ht : t < 60) : f_X1_allows 6 (nI t) σ = some (if (σ 21 t = 0 ∨ σ 21 t = 1) ∧ ¬ 3 ≤ σ 20 t then 1 else 0) := by
  unfold f_X1_allows
  rw [if_neg (by decide), if_neg (by decide), if_pos rfl, act_v ht, Option.bind_some]
  by_cases h0 : σ 21 t = 0 ∨ σ 21 t = 1
  · rw [if_pos h0, if_neg (by decide), if_pos (ib_nI ht (by decide)), ix_nI (by omega)]
    by_cases h3 : 3 ≤ σ 20 t
    · rw [if_pos h3, if_neg (fun z => z.2 h3)]
    · rw [if_neg h3, if_pos ⟨h0, h3⟩]
  · rw [if_neg h0, if_pos rfl, if_neg (fun z => h0 z.1)]
theorem al_7 {t : Nat} (ht : t < 60) (hs : ST σ t) : f_X1_allows 7 (nI t) σ = some (if σ 21 t = 0 ∨ σ 21 t = 1 ∨ σ 21 t = 2 then 1 else 0) := by
  unfold f_X1_allows
  rw [if_neg (by decide), if_neg (by decide), if_neg (by decide), if_pos rfl, sta_v ht hs, Option.bind_some]
  split
  · rw [if_pos bz1]
  · rw [if_pos bz0]
theorem al_8 {t : Nat} (ht : t < 60) : f_X1_allows 8 (nI t) σ = some (if σ 21 t = 3 ∧ σ 26 t = -1 then 1 else 0) := by
  unfold f_X1_allows
  rw [if_neg (by decide), if_neg (by decide), if_neg (by decide), if_neg (by decide), if_pos rfl, if_pos (ib_nI ht (by decide)), ix_nI (by omega)]
  by_cases h3 : σ 21 t = 3
  · rw [if_pos h3]
    by_cases h4 : σ 26 t = -1
    · rw [if_pos h4, if_pos ⟨h3, h4⟩]
    · rw [if_neg h4, if_neg (fun z => h4 z.2)]
  · rw [if_neg h3, if_neg (fun z => h3 z.1)]
theorem al_10 {t : Nat} (ht : t < 60) : f_X1_allows 10 (nI t) σ = some (if σ 21 t = 4 then 1 else 0) := by
  unfold f_X1_allows
  rw [if_neg (by decide), if_neg (by decide), if_neg (by decide), if_neg (by decide), if_neg (by decide), if_pos rfl, if_pos (ib_nI ht (by decide)), ix_nI (by omega)]
  split <;> rfl
theorem ej_v (hc : σ 15 0 = nI cnt) (h60 : cnt ≤ 60) {t r : Nat} (ht : t < cnt) (hr : r < cnt) (st : ST σ t) (sr : ST σ r) : f_X1_errorOf 9 (nI t) (nI r) 0 0 σ = some (if t ≠ r ∧ (σ 21 t = 0 ∨ σ 21 t = 1 ∨ σ 21 t = 2) ∧ (σ 21 r = 0 ∨ σ 21 r = 1 ∨ σ 21 r = 2) then 0 else -5) := by
  unfold f_X1_errorOf f_X1_joinError
  rw [if_neg (by decide), if_neg (by decide), if_neg (by decide), if_pos rfl, ex1 hc h60 ht, Option.bind_some, if_neg (by decide), ex1 hc h60 hr, Option.bind_some, if_neg (by decide)]
  by_cases q : t = r
  · rw [if_pos (by rw [q]), if_neg (c := t ≠ r ∧ (σ 21 t = 0 ∨ σ 21 t = 1 ∨ σ 21 t = 2) ∧ (σ 21 r = 0 ∨ σ 21 r = 1 ∨ σ 21 r = 2)) (fun z => z.1 q)]
    rfl
  · rw [if_neg (c := nI t = nI r) (fun z => q ((nI_eq (by omega) (by omega)).mp z)), sta_v (by omega) st, Option.bind_some]
    by_cases at1 : σ 21 t = 0 ∨ σ 21 t = 1 ∨ σ 21 t = 2
    · rw [if_pos at1, if_neg (c := (1 : Int32) = 0) (by decide), sta_v (by omega) sr, Option.bind_some]
      by_cases ar : σ 21 r = 0 ∨ σ 21 r = 1 ∨ σ 21 r = 2
      · rw [if_pos ar, if_neg (c := (1 : Int32) = 0) (by decide), if_pos (c := t ≠ r ∧ (σ 21 t = 0 ∨ σ 21 t = 1 ∨ σ 21 t = 2) ∧ (σ 21 r = 0 ∨ σ 21 r = 1 ∨ σ 21 r = 2)) ⟨q, at1, ar⟩]
        rfl
      · rw [if_neg ar, if_pos rfl, if_neg (c := t ≠ r ∧ (σ 21 t = 0 ∨ σ 21 t = 1 ∨ σ 21 t = 2) ∧ (σ 21 r = 0 ∨ σ 21 r = 1 ∨ σ 21 r = 2)) (fun z => ar z.2.2)]
        rfl
    · rw [if_neg at1, if_pos rfl, if_neg (c := t ≠ r ∧ (σ 21 t = 0 ∨ σ 21 t = 1 ∨ σ 21 t = 2) ∧ (σ 21 r = 0 ∨ σ 21 r = 1 ∨ σ 21 r = 2)) (fun z => at1 z.2.1)]
      rfl
theorem ep_v (hc : σ 15 0 = nI cnt) (h60 : cnt ≤ 60) {t : Nat} (ht : t < cnt) (h3 : σ 21 t = 3) : f_X1_errorOf 11 (nI t) 0 0 0 σ = some (-5) := by
  have w : f_X8_within 0 0 3 = some 1 := by decide
  unfold f_X1_errorOf f_X1_priorityError
  rw [if_neg (by decide), if_neg (by decide), if_neg (by decide), if_neg (by decide), if_pos rfl, ex1 hc h60 ht, Option.bind_some, if_neg (by decide), w, Option.bind_some, if_neg (by decide), if_pos (ib_nI (by omega) (by decide)), ix_nI (by omega), if_pos h3]
  rfl
end Pe
