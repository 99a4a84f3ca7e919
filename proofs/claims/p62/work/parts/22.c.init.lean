/-! p62 by hand: the law's object is made -/
theorem pi_a {F a c1 c2 c3 c4 c5 c6 q t1 t2 t3 z1 z2 : va_W} : (c1 ++ (c2 ++ (c3 ++ (c4 ++ (c5 ++ (c6 ++ (t1 ++ (t2 ++ (t3 ++ (z1 ++ (z2 ++ (q ++ (a ++ F))))))))))))).Perm (a ++ (c1 ++ (c2 ++ (c3 ++ (c4 ++ (c5 ++ (c6 ++ (t1 ++ (t2 ++ (t3 ++ (z1 ++ (z2 ++ (q ++ F))))))))))))) := cnt_perm fun f => by simp only [List.countP_append]; omega
def LI (cA : Nat → ClassId) (tS : Nat → Nat) (a : Nat) (F : va_W) (w0 : va_W) : Prop := ∃ (h t z : Nat → Nat) (sv ax kl : Nat), w0 = [(a, .inr (10, [.ref ax, .null, .int 0, .ref kl]))] ++ ([(kl, .inr (9, [.int 0, .ref (tS 3), .int 0]))] ++ w6 cA h sBg ax sv (t 42) (z 60) (wK cA t sBg ++ (wLg cA t sBg 0 ++ (wC cA t sBg ++ (wSc cA z kZ ++ (wR cA z kZ ++ ([(sv, .inl (cA 4, 2, .inr (.inr (.inr (.inr (fun _ => none))))))] ++ F)))))))
set_option maxRecDepth 100000 in
set_option maxHeartbeats 4000000 in
theorem c_L_init (l : Launch) (D : va_G) (cA : Nat → ClassId) (tS : Nat → Nat) (A : Nat → Prop) (a : Nat) (F : va_W) : CX l yL_init (Cond.code yL_init cL_init 1 none :: bw) 6 120 6209 154 D cA tS A [.ref a] ((a, .inr (10, [.null, .null, .int 0, .null])) :: F) none (LI cA tS a F) := by
  refine cx_of (by decide +kernel) (Nat.le_of_ble_eq_true rfl) ?_
  intro p e s m below meth c E hKA hnm hw ls hl
  replace E : Ev p cL_init 1 none RL (Cond.code yL_init cL_init 1 none :: bw) D cA tS A s m _ meth c := E
  replace hl : lv_has ls 1 [(0, .ref a)] := hl
  have hx := E.1.1
  have hb := E.1.2.1
  refine lv_aload_n hx hb dL_init_0 rfl (lv_at hl 0 rfl) ?_
  refine q_obj E hl (List.mem_cons_of_mem _ tb_71) (List.mem_cons_of_mem _ tb_72) (List.mem_cons_of_mem _ tb_73) (Nat.le_of_ble_eq_true rfl) (Nat.le_of_ble_eq_true rfl) dL_init_1 ?_
  refine lv_aload_n hx hb dL_init_4 rfl (lv_at hl 0 rfl) ?_
  refine q_new (C := RX8) (T := TX8) (N := 4) (ci := 8) E (fun w h => List.mem_cons_of_mem _ (inX8 w h)) tyX8 tyX8_ok hw rfl (fs := [.null, .null, .null, .null]) (fun j hj => by
      have : j = 0 ∨ j = 1 ∨ j = 2 ∨ j = 3 := by omega
      rcases this with rfl | rfl | rfl | rfl <;> rfl) (List.mem_cons_of_mem _ tb_74) (List.mem_cons_of_mem _ tb_75) (List.mem_cons_of_mem _ tb_47) (Nat.le_of_ble_eq_true rfl) (Nat.le_of_ble_eq_true rfl) dL_init_5 (fun ax H hw => ?_)
  refine lv_dup hx hb dL_init_8 rfl ?_
  refine q_ctor (As := []) E hKA hw hl (c_X8_init l D cA tS A ax ([(a, .inr (10, [.null, .null, .int 0, .null]))] ++ F)) 0 (bwc bw_c tb_78) rfl (List.mem_cons_of_mem _ tb_47) (List.mem_cons_of_mem _ tb_76) (List.mem_cons_of_mem _ tb_77) rfl (by decide +kernel) ⟨(Nat.le_of_ble_eq_true rfl), (Nat.le_of_ble_eq_true rfl)⟩ rfl rfl (Nat.le_of_ble_eq_true rfl) ⟨(Nat.le_of_ble_eq_true rfl), (Nat.le_of_ble_eq_true rfl)⟩ dL_init_9 (fun H locs w0 hp hw => ?_)
  obtain ⟨h, t, z, sv, rfl⟩ := hp
  have hw : Wd D A ([(a, .inr (10, [.null, .null, .int 0, .null]))] ++ w6 cA h sBg ax sv (t 42) (z 60) (wK cA t sBg ++ (wLg cA t sBg 0 ++ (wC cA t sBg ++ (wSc cA z kZ ++ (wR cA z kZ ++ ([(sv, .inl (cA 4, 2, .inr (.inr (.inr (.inr (fun _ => none))))))] ++ F))))))) s.heap H locs := hw.perm pi_a
  refine q_putF (C := RL) (T := TL) (N := 4) (ci := 10) E hnm (fun w h => List.mem_cons_of_mem _ (inL w h)) tyL tyL_ok nmL hw 0 rfl rfl 0 (by decide) (List.mem_cons_of_mem _ tb_412) rfl rfl rfl rfl (Nat.le_of_ble_eq_true rfl) ([(a, .inr (10, [.ref ax, .null, .int 0, .null]))] ++ w6 cA h sBg ax sv (t 42) (z 60) (wK cA t sBg ++ (wLg cA t sBg 0 ++ (wC cA t sBg ++ (wSc cA z kZ ++ (wR cA z kZ ++ ([(sv, .inl (cA 4, 2, .inr (.inr (.inr (.inr (fun _ => none))))))] ++ F))))))) rfl dL_init_12 (fun H locs hw => ?_)
  refine lv_aload_n hx hb dL_init_15 rfl (lv_at hl 0 rfl) ?_
  refine q_new (C := RJx4a65c) (T := TJx4a65c) (N := 3) (ci := 9) E (fun w h => List.mem_cons_of_mem _ (inJx4a65c w h)) tyJx4a65c tyJx4a65c_ok hw rfl (fs := [.int 0, .null, .int 0]) (fun j hj => by
      have : j = 0 ∨ j = 1 ∨ j = 2 := by omega
      rcases this with rfl | rfl | rfl <;> rfl) (List.mem_cons_of_mem _ tb_386) (List.mem_cons_of_mem _ tb_387) (List.mem_cons_of_mem _ tb_61) (Nat.le_of_ble_eq_true rfl) (Nat.le_of_ble_eq_true rfl) dL_init_16 (fun kl H hw => ?_)
  refine lv_dup hx hb dL_init_19 rfl ?_
  refine q_ctor (As := []) E hKA hw hl (c_Jx4a65c_init_da8c8 l D cA tS A kl _) 0 (bwc bw_c tb_390) rfl (List.mem_cons_of_mem _ tb_61) (List.mem_cons_of_mem _ tb_388) (List.mem_cons_of_mem _ tb_389) rfl (by decide +kernel) ⟨(Nat.le_of_ble_eq_true rfl), (Nat.le_of_ble_eq_true rfl)⟩ rfl rfl (Nat.le_of_ble_eq_true rfl) ⟨(Nat.le_of_ble_eq_true rfl), (Nat.le_of_ble_eq_true rfl)⟩ dL_init_20 (fun H locs w0 hp hw => ?_)
  subst hp
  refine q_putF (C := RL) (T := TL) (N := 4) (ci := 10) E hnm (fun w h => List.mem_cons_of_mem _ (inL w h)) tyL tyL_ok nmL hw 1 rfl rfl 3 (by decide) (List.mem_cons_of_mem _ tb_415) rfl rfl rfl rfl (Nat.le_of_ble_eq_true rfl) ((kl, .inr (9, [.int 0, .ref (tS 3), .int 0])) :: ([(a, .inr (10, [.ref ax, .null, .int 0, .ref kl]))] ++ w6 cA h sBg ax sv (t 42) (z 60) (wK cA t sBg ++ (wLg cA t sBg 0 ++ (wC cA t sBg ++ (wSc cA z kZ ++ (wR cA z kZ ++ ([(sv, .inl (cA 4, 2, .inr (.inr (.inr (.inr (fun _ => none))))))] ++ F)))))))) rfl dL_init_23 (fun H locs hw => ?_)
  have hw : Wd D A ([(a, .inr (10, [.ref ax, .null, .int 0, .ref kl]))] ++ ([(kl, .inr (9, [.int 0, .ref (tS 3), .int 0]))] ++ w6 cA h sBg ax sv (t 42) (z 60) (wK cA t sBg ++ (wLg cA t sBg 0 ++ (wC cA t sBg ++ (wSc cA z kZ ++ (wR cA z kZ ++ ([(sv, .inl (cA 4, 2, .inr (.inr (.inr (.inr (fun _ => none))))))] ++ F)))))))) s.heap H locs := Wd.perm (w := [(kl, .inr (9, [.int 0, .ref (tS 3), .int 0]))] ++ ([(a, .inr (10, [.ref ax, .null, .int 0, .ref kl]))] ++ w6 cA h sBg ax sv (t 42) (z 60) (wK cA t sBg ++ (wLg cA t sBg 0 ++ (wC cA t sBg ++ (wSc cA z kZ ++ (wR cA z kZ ++ ([(sv, .inl (cA 4, 2, .inr (.inr (.inr (.inr (fun _ => none))))))] ++ F)))))))) hw (List.perm_append_comm_assoc _ _ _)
  refine W.widen (k := 120) (n := 6209) (Nat.le_of_ble_eq_true rfl) (Nat.le_of_ble_eq_true rfl) ?_
  exact q_retX E hw ⟨h, t, z, sv, ax, kl, rfl⟩ dL_init_26
