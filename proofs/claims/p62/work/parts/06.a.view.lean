/-! the reference's flat state, seen as the class's rows: 38 and 39 are its breach flags -/
def pv_row (f : Nat) : Nat := [16, 17, 18, 19, 20, 22, 23, 24, 25, 21, 26, 27, 28, 29, 38, 39].getD f 0
def pv_fld (k : Nat) : Nat := [0, 1, 2, 3, 4, 9, 5, 6, 7, 8, 10, 11, 12, 13].getD (k - 16) (k - 24)
def pv_nb (k : Nat) : Nat := if k = 0 then 1 else if k < 7 then 6 else if k = 7 then 1 else if k < 12 then 600 else if k = 12 then 1 else if k < 15 then 7 else if k = 15 then 1 else if k < 30 then 60 else if k = 30 then 4 else if k = 31 then 1 else if k < 38 then 200 else if k < 40 then 60 else 0
def pv_loc (k i : Nat) : Nat := if k = 0 then 19 else if k < 7 then 20 + 6 * i + (k - 1) else if k = 7 then 58 else if k < 12 then 2219 + 4 * i + (k - 8) else if k = 12 then 0 else if k = 13 then 1 + i else if k = 14 then 8 + i else if k = 15 then 56 else if k < 30 then 59 + 16 * i + pv_fld k else if k = 30 then 15 + i else if k = 31 then 57 else if k < 38 then 1019 + 6 * i + (k - 32) else 59 + 16 * i + pv_fld k
def pv_inv (a : Nat) : Nat × Nat := if a = 0 then (12, 0) else if a < 8 then (13, a - 1) else if a < 15 then (14, a - 8) else if a < 19 then (30, a - 15) else if a = 19 then (0, 0) else if a < 56 then (1 + (a - 20) % 6, (a - 20) / 6) else if a = 56 then (15, 0) else if a = 57 then (31, 0) else if a = 58 then (7, 0) else if a < 1019 then (pv_row ((a - 59) % 16), (a - 59) / 16) else if a < 2219 then (32 + (a - 1019) % 6, (a - 1019) / 6) else (8 + (a - 2219) % 4, (a - 2219) / 4)
theorem pv_i0 {i : Nat} (h : i < 1) : pv_inv (pv_loc 0 i) = (0, i) := by
  obtain rfl : i = 0 := by omega
  decide
theorem pv_i1 {i : Nat} (h : i < 6) : pv_inv (pv_loc 1 i) = (1, i) := by
  show pv_inv (20 + 6 * i + 0) = (1, i)
  unfold pv_inv
  rw [if_neg (by omega), if_neg (by omega), if_neg (by omega), if_neg (by omega), if_neg (by omega), if_pos (by omega)]
  exact Prod.ext (by dsimp only <;> omega) (by dsimp only <;> omega)
theorem pv_i2 {i : Nat} (h : i < 6) : pv_inv (pv_loc 2 i) = (2, i) := by
  show pv_inv (20 + 6 * i + 1) = (2, i)
  unfold pv_inv
  rw [if_neg (by omega), if_neg (by omega), if_neg (by omega), if_neg (by omega), if_neg (by omega), if_pos (by omega)]
  exact Prod.ext (by dsimp only <;> omega) (by dsimp only <;> omega)
theorem pv_i3 {i : Nat} (h : i < 6) : pv_inv (pv_loc 3 i) = (3, i) := by
  show pv_inv (20 + 6 * i + 2) = (3, i)
  unfold pv_inv
  rw [if_neg (by omega), if_neg (by omega), if_neg (by omega), if_neg (by omega), if_neg (by omega), if_pos (by omega)]
  exact Prod.ext (by dsimp only <;> omega) (by dsimp only <;> omega)
theorem pv_i4 {i : Nat} (h : i < 6) : pv_inv (pv_loc 4 i) = (4, i) := by
  show pv_inv (20 + 6 * i + 3) = (4, i)
  unfold pv_inv
  rw [if_neg (by omega), if_neg (by omega), if_neg (by omega), if_neg (by omega), if_neg (by omega), if_pos (by omega)]
  exact Prod.ext (by dsimp only <;> omega) (by dsimp only <;> omega)
theorem pv_i5 {i : Nat} (h : i < 6) : pv_inv (pv_loc 5 i) = (5, i) := by
  show pv_inv (20 + 6 * i + 4) = (5, i)
  unfold pv_inv
  rw [if_neg (by omega), if_neg (by omega), if_neg (by omega), if_neg (by omega), if_neg (by omega), if_pos (by omega)]
  exact Prod.ext (by dsimp only <;> omega) (by dsimp only <;> omega)
theorem pv_i6 {i : Nat} (h : i < 6) : pv_inv (pv_loc 6 i) = (6, i) := by
  show pv_inv (20 + 6 * i + 5) = (6, i)
  unfold pv_inv
  rw [if_neg (by omega), if_neg (by omega), if_neg (by omega), if_neg (by omega), if_neg (by omega), if_pos (by omega)]
  exact Prod.ext (by dsimp only <;> omega) (by dsimp only <;> omega)
theorem pv_i7 {i : Nat} (h : i < 1) : pv_inv (pv_loc 7 i) = (7, i) := by
  obtain rfl : i = 0 := by omega
  decide
theorem pv_i8 {i : Nat} (h : i < 600) : pv_inv (pv_loc 8 i) = (8, i) := by
  show pv_inv (2219 + 4 * i + 0) = (8, i)
  unfold pv_inv
  rw [if_neg (by omega), if_neg (by omega), if_neg (by omega), if_neg (by omega), if_neg (by omega), if_neg (by omega), if_neg (by omega), if_neg (by omega), if_neg (by omega), if_neg (by omega), if_neg (by omega)]
  exact Prod.ext (by dsimp only <;> omega) (by dsimp only <;> omega)
theorem pv_i9 {i : Nat} (h : i < 600) : pv_inv (pv_loc 9 i) = (9, i) := by
  show pv_inv (2219 + 4 * i + 1) = (9, i)
  unfold pv_inv
  rw [if_neg (by omega), if_neg (by omega), if_neg (by omega), if_neg (by omega), if_neg (by omega), if_neg (by omega), if_neg (by omega), if_neg (by omega), if_neg (by omega), if_neg (by omega), if_neg (by omega)]
  exact Prod.ext (by dsimp only <;> omega) (by dsimp only <;> omega)
theorem pv_i10 {i : Nat} (h : i < 600) : pv_inv (pv_loc 10 i) = (10, i) := by
  show pv_inv (2219 + 4 * i + 2) = (10, i)
  unfold pv_inv
  rw [if_neg (by omega), if_neg (by omega), if_neg (by omega), if_neg (by omega), if_neg (by omega), if_neg (by omega), if_neg (by omega), if_neg (by omega), if_neg (by omega), if_neg (by omega), if_neg (by omega)]
  exact Prod.ext (by dsimp only <;> omega) (by dsimp only <;> omega)
theorem pv_i11 {i : Nat} (h : i < 600) : pv_inv (pv_loc 11 i) = (11, i) := by
  show pv_inv (2219 + 4 * i + 3) = (11, i)
  unfold pv_inv
  rw [if_neg (by omega), if_neg (by omega), if_neg (by omega), if_neg (by omega), if_neg (by omega), if_neg (by omega), if_neg (by omega), if_neg (by omega), if_neg (by omega), if_neg (by omega), if_neg (by omega)]
  exact Prod.ext (by dsimp only <;> omega) (by dsimp only <;> omega)
theorem pv_i12 {i : Nat} (h : i < 1) : pv_inv (pv_loc 12 i) = (12, i) := by
  obtain rfl : i = 0 := by omega
  decide
theorem pv_i13 {i : Nat} (h : i < 7) : pv_inv (pv_loc 13 i) = (13, i) := by
  show pv_inv (1 + i) = (13, i)
  unfold pv_inv
  rw [if_neg (by omega), if_pos (by omega)]
  exact Prod.ext (by dsimp only <;> omega) (by dsimp only <;> omega)
theorem pv_i14 {i : Nat} (h : i < 7) : pv_inv (pv_loc 14 i) = (14, i) := by
  show pv_inv (8 + i) = (14, i)
  unfold pv_inv
  rw [if_neg (by omega), if_neg (by omega), if_pos (by omega)]
  exact Prod.ext (by dsimp only <;> omega) (by dsimp only <;> omega)
theorem pv_i15 {i : Nat} (h : i < 1) : pv_inv (pv_loc 15 i) = (15, i) := by
  obtain rfl : i = 0 := by omega
  decide
theorem pv_i16 {i : Nat} (h : i < 60) : pv_inv (pv_loc 16 i) = (16, i) := by
  show pv_inv (59 + 16 * i + 0) = (16, i)
  unfold pv_inv
  rw [if_neg (by omega), if_neg (by omega), if_neg (by omega), if_neg (by omega), if_neg (by omega), if_neg (by omega), if_neg (by omega), if_neg (by omega), if_neg (by omega), if_pos (by omega)]
  rw [show (59 + 16 * i + 0 - 59) % 16 = 0 from by omega, show (59 + 16 * i + 0 - 59) / 16 = i from by omega]
  rfl
theorem pv_i17 {i : Nat} (h : i < 60) : pv_inv (pv_loc 17 i) = (17, i) := by
  show pv_inv (59 + 16 * i + 1) = (17, i)
  unfold pv_inv
  rw [if_neg (by omega), if_neg (by omega), if_neg (by omega), if_neg (by omega), if_neg (by omega), if_neg (by omega), if_neg (by omega), if_neg (by omega), if_neg (by omega), if_pos (by omega)]
  rw [show (59 + 16 * i + 1 - 59) % 16 = 1 from by omega, show (59 + 16 * i + 1 - 59) / 16 = i from by omega]
  rfl
theorem pv_i18 {i : Nat} (h : i < 60) : pv_inv (pv_loc 18 i) = (18, i) := by
  show pv_inv (59 + 16 * i + 2) = (18, i)
  unfold pv_inv
  rw [if_neg (by omega), if_neg (by omega), if_neg (by omega), if_neg (by omega), if_neg (by omega), if_neg (by omega), if_neg (by omega), if_neg (by omega), if_neg (by omega), if_pos (by omega)]
  rw [show (59 + 16 * i + 2 - 59) % 16 = 2 from by omega, show (59 + 16 * i + 2 - 59) / 16 = i from by omega]
  rfl
theorem pv_i19 {i : Nat} (h : i < 60) : pv_inv (pv_loc 19 i) = (19, i) := by
  show pv_inv (59 + 16 * i + 3) = (19, i)
  unfold pv_inv
  rw [if_neg (by omega), if_neg (by omega), if_neg (by omega), if_neg (by omega), if_neg (by omega), if_neg (by omega), if_neg (by omega), if_neg (by omega), if_neg (by omega), if_pos (by omega)]
  rw [show (59 + 16 * i + 3 - 59) % 16 = 3 from by omega, show (59 + 16 * i + 3 - 59) / 16 = i from by omega]
  rfl
theorem pv_i20 {i : Nat} (h : i < 60) : pv_inv (pv_loc 20 i) = (20, i) := by
  show pv_inv (59 + 16 * i + 4) = (20, i)
  unfold pv_inv
  rw [if_neg (by omega), if_neg (by omega), if_neg (by omega), if_neg (by omega), if_neg (by omega), if_neg (by omega), if_neg (by omega), if_neg (by omega), if_neg (by omega), if_pos (by omega)]
  rw [show (59 + 16 * i + 4 - 59) % 16 = 4 from by omega, show (59 + 16 * i + 4 - 59) / 16 = i from by omega]
  rfl
theorem pv_i21 {i : Nat} (h : i < 60) : pv_inv (pv_loc 21 i) = (21, i) := by
  show pv_inv (59 + 16 * i + 9) = (21, i)
  unfold pv_inv
  rw [if_neg (by omega), if_neg (by omega), if_neg (by omega), if_neg (by omega), if_neg (by omega), if_neg (by omega), if_neg (by omega), if_neg (by omega), if_neg (by omega), if_pos (by omega)]
  rw [show (59 + 16 * i + 9 - 59) % 16 = 9 from by omega, show (59 + 16 * i + 9 - 59) / 16 = i from by omega]
  rfl
theorem pv_i22 {i : Nat} (h : i < 60) : pv_inv (pv_loc 22 i) = (22, i) := by
  show pv_inv (59 + 16 * i + 5) = (22, i)
  unfold pv_inv
  rw [if_neg (by omega), if_neg (by omega), if_neg (by omega), if_neg (by omega), if_neg (by omega), if_neg (by omega), if_neg (by omega), if_neg (by omega), if_neg (by omega), if_pos (by omega)]
  rw [show (59 + 16 * i + 5 - 59) % 16 = 5 from by omega, show (59 + 16 * i + 5 - 59) / 16 = i from by omega]
  rfl
theorem pv_i23 {i : Nat} (h : i < 60) : pv_inv (pv_loc 23 i) = (23, i) := by
  show pv_inv (59 + 16 * i + 6) = (23, i)
  unfold pv_inv
  rw [if_neg (by omega), if_neg (by omega), if_neg (by omega), if_neg (by omega), if_neg (by omega), if_neg (by omega), if_neg (by omega), if_neg (by omega), if_neg (by omega), if_pos (by omega)]
  rw [show (59 + 16 * i + 6 - 59) % 16 = 6 from by omega, show (59 + 16 * i + 6 - 59) / 16 = i from by omega]
  rfl
theorem pv_i24 {i : Nat} (h : i < 60) : pv_inv (pv_loc 24 i) = (24, i) := by
  show pv_inv (59 + 16 * i + 7) = (24, i)
  unfold pv_inv
  rw [if_neg (by omega), if_neg (by omega), if_neg (by omega), if_neg (by omega), if_neg (by omega), if_neg (by omega), if_neg (by omega), if_neg (by omega), if_neg (by omega), if_pos (by omega)]
  rw [show (59 + 16 * i + 7 - 59) % 16 = 7 from by omega, show (59 + 16 * i + 7 - 59) / 16 = i from by omega]
  rfl
theorem pv_i25 {i : Nat} (h : i < 60) : pv_inv (pv_loc 25 i) = (25, i) := by
  show pv_inv (59 + 16 * i + 8) = (25, i)
  unfold pv_inv
  rw [if_neg (by omega), if_neg (by omega), if_neg (by omega), if_neg (by omega), if_neg (by omega), if_neg (by omega), if_neg (by omega), if_neg (by omega), if_neg (by omega), if_pos (by omega)]
  rw [show (59 + 16 * i + 8 - 59) % 16 = 8 from by omega, show (59 + 16 * i + 8 - 59) / 16 = i from by omega]
  rfl
theorem pv_i26 {i : Nat} (h : i < 60) : pv_inv (pv_loc 26 i) = (26, i) := by
  show pv_inv (59 + 16 * i + 10) = (26, i)
  unfold pv_inv
  rw [if_neg (by omega), if_neg (by omega), if_neg (by omega), if_neg (by omega), if_neg (by omega), if_neg (by omega), if_neg (by omega), if_neg (by omega), if_neg (by omega), if_pos (by omega)]
  rw [show (59 + 16 * i + 10 - 59) % 16 = 10 from by omega, show (59 + 16 * i + 10 - 59) / 16 = i from by omega]
  rfl
theorem pv_i27 {i : Nat} (h : i < 60) : pv_inv (pv_loc 27 i) = (27, i) := by
  show pv_inv (59 + 16 * i + 11) = (27, i)
  unfold pv_inv
  rw [if_neg (by omega), if_neg (by omega), if_neg (by omega), if_neg (by omega), if_neg (by omega), if_neg (by omega), if_neg (by omega), if_neg (by omega), if_neg (by omega), if_pos (by omega)]
  rw [show (59 + 16 * i + 11 - 59) % 16 = 11 from by omega, show (59 + 16 * i + 11 - 59) / 16 = i from by omega]
  rfl
theorem pv_i28 {i : Nat} (h : i < 60) : pv_inv (pv_loc 28 i) = (28, i) := by
  show pv_inv (59 + 16 * i + 12) = (28, i)
  unfold pv_inv
  rw [if_neg (by omega), if_neg (by omega), if_neg (by omega), if_neg (by omega), if_neg (by omega), if_neg (by omega), if_neg (by omega), if_neg (by omega), if_neg (by omega), if_pos (by omega)]
  rw [show (59 + 16 * i + 12 - 59) % 16 = 12 from by omega, show (59 + 16 * i + 12 - 59) / 16 = i from by omega]
  rfl
theorem pv_i29 {i : Nat} (h : i < 60) : pv_inv (pv_loc 29 i) = (29, i) := by
  show pv_inv (59 + 16 * i + 13) = (29, i)
  unfold pv_inv
  rw [if_neg (by omega), if_neg (by omega), if_neg (by omega), if_neg (by omega), if_neg (by omega), if_neg (by omega), if_neg (by omega), if_neg (by omega), if_neg (by omega), if_pos (by omega)]
  rw [show (59 + 16 * i + 13 - 59) % 16 = 13 from by omega, show (59 + 16 * i + 13 - 59) / 16 = i from by omega]
  rfl
theorem pv_i30 {i : Nat} (h : i < 4) : pv_inv (pv_loc 30 i) = (30, i) := by
  show pv_inv (15 + i) = (30, i)
  unfold pv_inv
  rw [if_neg (by omega), if_neg (by omega), if_neg (by omega), if_pos (by omega)]
  exact Prod.ext (by dsimp only <;> omega) (by dsimp only <;> omega)
theorem pv_i31 {i : Nat} (h : i < 1) : pv_inv (pv_loc 31 i) = (31, i) := by
  obtain rfl : i = 0 := by omega
  decide
theorem pv_i32 {i : Nat} (h : i < 200) : pv_inv (pv_loc 32 i) = (32, i) := by
  show pv_inv (1019 + 6 * i + 0) = (32, i)
  unfold pv_inv
  rw [if_neg (by omega), if_neg (by omega), if_neg (by omega), if_neg (by omega), if_neg (by omega), if_neg (by omega), if_neg (by omega), if_neg (by omega), if_neg (by omega), if_neg (by omega), if_pos (by omega)]
  exact Prod.ext (by dsimp only <;> omega) (by dsimp only <;> omega)
theorem pv_i33 {i : Nat} (h : i < 200) : pv_inv (pv_loc 33 i) = (33, i) := by
  show pv_inv (1019 + 6 * i + 1) = (33, i)
  unfold pv_inv
  rw [if_neg (by omega), if_neg (by omega), if_neg (by omega), if_neg (by omega), if_neg (by omega), if_neg (by omega), if_neg (by omega), if_neg (by omega), if_neg (by omega), if_neg (by omega), if_pos (by omega)]
  exact Prod.ext (by dsimp only <;> omega) (by dsimp only <;> omega)
theorem pv_i34 {i : Nat} (h : i < 200) : pv_inv (pv_loc 34 i) = (34, i) := by
  show pv_inv (1019 + 6 * i + 2) = (34, i)
  unfold pv_inv
  rw [if_neg (by omega), if_neg (by omega), if_neg (by omega), if_neg (by omega), if_neg (by omega), if_neg (by omega), if_neg (by omega), if_neg (by omega), if_neg (by omega), if_neg (by omega), if_pos (by omega)]
  exact Prod.ext (by dsimp only <;> omega) (by dsimp only <;> omega)
theorem pv_i35 {i : Nat} (h : i < 200) : pv_inv (pv_loc 35 i) = (35, i) := by
  show pv_inv (1019 + 6 * i + 3) = (35, i)
  unfold pv_inv
  rw [if_neg (by omega), if_neg (by omega), if_neg (by omega), if_neg (by omega), if_neg (by omega), if_neg (by omega), if_neg (by omega), if_neg (by omega), if_neg (by omega), if_neg (by omega), if_pos (by omega)]
  exact Prod.ext (by dsimp only <;> omega) (by dsimp only <;> omega)
theorem pv_i36 {i : Nat} (h : i < 200) : pv_inv (pv_loc 36 i) = (36, i) := by
  show pv_inv (1019 + 6 * i + 4) = (36, i)
  unfold pv_inv
  rw [if_neg (by omega), if_neg (by omega), if_neg (by omega), if_neg (by omega), if_neg (by omega), if_neg (by omega), if_neg (by omega), if_neg (by omega), if_neg (by omega), if_neg (by omega), if_pos (by omega)]
  exact Prod.ext (by dsimp only <;> omega) (by dsimp only <;> omega)
theorem pv_i37 {i : Nat} (h : i < 200) : pv_inv (pv_loc 37 i) = (37, i) := by
  show pv_inv (1019 + 6 * i + 5) = (37, i)
  unfold pv_inv
  rw [if_neg (by omega), if_neg (by omega), if_neg (by omega), if_neg (by omega), if_neg (by omega), if_neg (by omega), if_neg (by omega), if_neg (by omega), if_neg (by omega), if_neg (by omega), if_pos (by omega)]
  exact Prod.ext (by dsimp only <;> omega) (by dsimp only <;> omega)
theorem pv_i38 {i : Nat} (h : i < 60) : pv_inv (pv_loc 38 i) = (38, i) := by
  show pv_inv (59 + 16 * i + 14) = (38, i)
  unfold pv_inv
  rw [if_neg (by omega), if_neg (by omega), if_neg (by omega), if_neg (by omega), if_neg (by omega), if_neg (by omega), if_neg (by omega), if_neg (by omega), if_neg (by omega), if_pos (by omega)]
  rw [show (59 + 16 * i + 14 - 59) % 16 = 14 from by omega, show (59 + 16 * i + 14 - 59) / 16 = i from by omega]
  rfl
theorem pv_i39 {i : Nat} (h : i < 60) : pv_inv (pv_loc 39 i) = (39, i) := by
  show pv_inv (59 + 16 * i + 15) = (39, i)
  unfold pv_inv
  rw [if_neg (by omega), if_neg (by omega), if_neg (by omega), if_neg (by omega), if_neg (by omega), if_neg (by omega), if_neg (by omega), if_neg (by omega), if_neg (by omega), if_pos (by omega)]
  rw [show (59 + 16 * i + 15 - 59) % 16 = 15 from by omega, show (59 + 16 * i + 15 - 59) / 16 = i from by omega]
  rfl
theorem pv_lt {k i : Nat} (h : i < pv_nb k) : k < 40 := by
  rcases Nat.lt_or_ge k 40 with q | q
  · exact q
  · exfalso
    have e : pv_nb k = 0 := by
      unfold pv_nb
      rw [if_neg (by omega), if_neg (by omega), if_neg (by omega), if_neg (by omega), if_neg (by omega), if_neg (by omega), if_neg (by omega), if_neg (by omega), if_neg (by omega), if_neg (by omega), if_neg (by omega), if_neg (by omega)]
    omega
theorem pv_inv_loc {k i : Nat} (h : i < pv_nb k) : pv_inv (pv_loc k i) = (k, i) := by
  have hk : k = 0 ∨ k = 1 ∨ k = 2 ∨ k = 3 ∨ k = 4 ∨ k = 5 ∨ k = 6 ∨ k = 7 ∨ k = 8 ∨ k = 9 ∨ k = 10 ∨ k = 11 ∨ k = 12 ∨ k = 13 ∨ k = 14 ∨ k = 15 ∨ k = 16 ∨ k = 17 ∨ k = 18 ∨ k = 19 ∨ k = 20 ∨ k = 21 ∨ k = 22 ∨ k = 23 ∨ k = 24 ∨ k = 25 ∨ k = 26 ∨ k = 27 ∨ k = 28 ∨ k = 29 ∨ k = 30 ∨ k = 31 ∨ k = 32 ∨ k = 33 ∨ k = 34 ∨ k = 35 ∨ k = 36 ∨ k = 37 ∨ k = 38 ∨ k = 39 := by have := pv_lt h; omega
  rcases hk with rfl | rfl | rfl | rfl | rfl | rfl | rfl | rfl | rfl | rfl | rfl | rfl | rfl | rfl | rfl | rfl | rfl | rfl | rfl | rfl | rfl | rfl | rfl | rfl | rfl | rfl | rfl | rfl | rfl | rfl | rfl | rfl | rfl | rfl | rfl | rfl | rfl | rfl | rfl | rfl
  · exact pv_i0 h
  · exact pv_i1 h
  · exact pv_i2 h
  · exact pv_i3 h
  · exact pv_i4 h
  · exact pv_i5 h
  · exact pv_i6 h
  · exact pv_i7 h
  · exact pv_i8 h
  · exact pv_i9 h
  · exact pv_i10 h
  · exact pv_i11 h
  · exact pv_i12 h
  · exact pv_i13 h
  · exact pv_i14 h
  · exact pv_i15 h
  · exact pv_i16 h
  · exact pv_i17 h
  · exact pv_i18 h
  · exact pv_i19 h
  · exact pv_i20 h
  · exact pv_i21 h
  · exact pv_i22 h
  · exact pv_i23 h
  · exact pv_i24 h
  · exact pv_i25 h
  · exact pv_i26 h
  · exact pv_i27 h
  · exact pv_i28 h
  · exact pv_i29 h
  · exact pv_i30 h
  · exact pv_i31 h
  · exact pv_i32 h
  · exact pv_i33 h
  · exact pv_i34 h
  · exact pv_i35 h
  · exact pv_i36 h
  · exact pv_i37 h
  · exact pv_i38 h
  · exact pv_i39 h
theorem pv_inj {k i a b : Nat} (h : i < pv_nb k) (h2 : b < pv_nb a) (e : pv_loc a b = pv_loc k i) : a = k ∧ b = i := by
  have := (pv_inv_loc h2).symm.trans ((congrArg pv_inv e).trans (pv_inv_loc h))
  exact ⟨congrArg Prod.fst this, congrArg Prod.snd this⟩
/-- the reference's state as rows -/
def pV (μ : Sg) : Sg := fun k i => if i < pv_nb k then μ 1 (pv_loc k i) else 0
/-- a change of one of its cells -/
def mu (μ : Sg) (k i : Nat) (v : Int32) : Sg := up μ 1 (pv_loc k i) v
theorem pV_in {μ : Sg} {k i : Nat} (h : i < pv_nb k) : pV μ k i = μ 1 (pv_loc k i) := if_pos h
theorem up_same (σ : Sg) (k i : Nat) (v : Int32) : up σ k i v k i = v := (congrFun (up_at σ k i v) i).trans (if_pos rfl)
theorem up_other {σ : Sg} {k i a b : Nat} {v : Int32} (h : ¬ (a = k ∧ b = i)) : up σ k i v a b = σ a b := by
  by_cases e : a = k
  · subst e
    rw [up_at]
    exact if_neg fun q => h ⟨rfl, q⟩
  · rw [up_ne _ _ _ _ _ e]
theorem up_row {σ : Sg} {k i a : Nat} {v : Int32} (h : a ≠ k) : up σ k i v a = σ a := up_ne _ _ _ _ _ h
theorem up_ite (σ : Sg) (k i a b : Nat) (v : Int32) : up σ k i v a b = if a = k ∧ b = i then v else σ a b := by
  by_cases e : a = k ∧ b = i
  · obtain ⟨rfl, rfl⟩ := e
    rw [up_same, if_pos ⟨rfl, rfl⟩]
  · rw [up_other e, if_neg e]
theorem pV_mu {μ : Sg} {k i : Nat} {v : Int32} (h : i < pv_nb k) : pV (mu μ k i v) = up (pV μ) k i v := by
  funext a b
  by_cases hb : b < pv_nb a
  · rw [pV_in hb]
    by_cases e : a = k ∧ b = i
    · obtain ⟨rfl, rfl⟩ := e
      rw [up_same]
      exact up_same _ _ _ _
    · rw [up_other e, pV_in hb]
      exact up_other fun q => e (pv_inj h hb q.2)
  · have e : ¬ (a = k ∧ b = i) := fun q => by
      obtain ⟨rfl, rfl⟩ := q
      exact hb h
    rw [up_other e]
    show (if b < pv_nb a then _ else (0 : Int32)) = (if b < pv_nb a then _ else 0)
    rw [if_neg hb, if_neg hb]
theorem mu_rest {μ : Sg} {k i a : Nat} {v : Int32} (h : a ≠ 1) : mu μ k i v a = μ a := up_ne _ _ _ _ _ h
theorem n31 {n : Nat} (h : n < 10000) : n < 2 ^ 31 := by omega
theorem ix_nI {n : Nat} (h : n < 10000) : ix (nI n) = n := nI_clamp (by omega)
theorem ib_nI {n N : Nat} (h : n < N) (hN : N < 10000) : ib (nI n) N := nI_in h (by omega)
/-! the reference's cells, read and written -/
theorem m_at (t f : Nat) : (59 + (16 * nI t)) + nI f = nI (59 + 16 * t + f) := by
  rw [show (16 : Int32) = nI 16 from rfl, show (59 : Int32) = nI 59 from rfl, pk_mul, nI_add, nI_add]
theorem k_at (t f : Nat) : (20 + (6 * nI t)) + nI f = nI (20 + 6 * t + f) := by
  rw [show (6 : Int32) = nI 6 from rfl, show (20 : Int32) = nI 20 from rfl, pk_mul, nI_add, nI_add]
theorem m_get {t f : Nat} (ht : t < 60) (hf : f < 16) (μ : Sg) (wd : Int64) : f_X9_ticket (nI t) (nI f) μ wd = some (μ 1 (59 + 16 * t + f)) := by
  unfold f_X9_ticket
  rw [m_at, if_pos (ib_nI (by omega) (by omega)), ix_nI (by omega)]
theorem m_set {t f : Nat} (ht : t < 60) (hf : f < 16) (v : Int32) (μ : Sg) (wd : Int64) : f_X9_setTicket (nI t) (nI f) v μ wd = some (up μ 1 (59 + 16 * t + f) v) := by
  unfold f_X9_setTicket
  rw [m_at, if_pos (ib_nI (by omega) (by omega)), ix_nI (by omega)]
theorem k_get {t f : Nat} (ht : t < 6) (hf : f < 6) (μ : Sg) (wd : Int64) : f_X9_kind (nI t) (nI f) μ wd = some (μ 1 (20 + 6 * t + f)) := by
  unfold f_X9_kind
  rw [k_at, if_pos (ib_nI (by omega) (by omega)), ix_nI (by omega)]
theorem mg_0 {t : Nat} (ht : t < 60) (μ : Sg) (wd : Int64) : f_X9_ticket (nI t) 0 μ wd = some (pV μ 16 t) := (m_get (f := 0) ht (by decide) μ wd).trans (congrArg some (pV_in (k := 16) ht).symm)
theorem ms_0 {t : Nat} (ht : t < 60) (v : Int32) (μ : Sg) (wd : Int64) : f_X9_setTicket (nI t) 0 v μ wd = some (mu μ 16 t v) := m_set (f := 0) ht (by decide) v μ wd
theorem mg_1 {t : Nat} (ht : t < 60) (μ : Sg) (wd : Int64) : f_X9_ticket (nI t) 1 μ wd = some (pV μ 17 t) := (m_get (f := 1) ht (by decide) μ wd).trans (congrArg some (pV_in (k := 17) ht).symm)
theorem ms_1 {t : Nat} (ht : t < 60) (v : Int32) (μ : Sg) (wd : Int64) : f_X9_setTicket (nI t) 1 v μ wd = some (mu μ 17 t v) := m_set (f := 1) ht (by decide) v μ wd
theorem mg_2 {t : Nat} (ht : t < 60) (μ : Sg) (wd : Int64) : f_X9_ticket (nI t) 2 μ wd = some (pV μ 18 t) := (m_get (f := 2) ht (by decide) μ wd).trans (congrArg some (pV_in (k := 18) ht).symm)
theorem ms_2 {t : Nat} (ht : t < 60) (v : Int32) (μ : Sg) (wd : Int64) : f_X9_setTicket (nI t) 2 v μ wd = some (mu μ 18 t v) := m_set (f := 2) ht (by decide) v μ wd
theorem mg_3 {t : Nat} (ht : t < 60) (μ : Sg) (wd : Int64) : f_X9_ticket (nI t) 3 μ wd = some (pV μ 19 t) := (m_get (f := 3) ht (by decide) μ wd).trans (congrArg some (pV_in (k := 19) ht).symm)
theorem ms_3 {t : Nat} (ht : t < 60) (v : Int32) (μ : Sg) (wd : Int64) : f_X9_setTicket (nI t) 3 v μ wd = some (mu μ 19 t v) := m_set (f := 3) ht (by decide) v μ wd
theorem mg_4 {t : Nat} (ht : t < 60) (μ : Sg) (wd : Int64) : f_X9_ticket (nI t) 4 μ wd = some (pV μ 20 t) := (m_get (f := 4) ht (by decide) μ wd).trans (congrArg some (pV_in (k := 20) ht).symm)
theorem ms_4 {t : Nat} (ht : t < 60) (v : Int32) (μ : Sg) (wd : Int64) : f_X9_setTicket (nI t) 4 v μ wd = some (mu μ 20 t v) := m_set (f := 4) ht (by decide) v μ wd
theorem mg_5 {t : Nat} (ht : t < 60) (μ : Sg) (wd : Int64) : f_X9_ticket (nI t) 5 μ wd = some (pV μ 22 t) := (m_get (f := 5) ht (by decide) μ wd).trans (congrArg some (pV_in (k := 22) ht).symm)
theorem ms_5 {t : Nat} (ht : t < 60) (v : Int32) (μ : Sg) (wd : Int64) : f_X9_setTicket (nI t) 5 v μ wd = some (mu μ 22 t v) := m_set (f := 5) ht (by decide) v μ wd
theorem mg_6 {t : Nat} (ht : t < 60) (μ : Sg) (wd : Int64) : f_X9_ticket (nI t) 6 μ wd = some (pV μ 23 t) := (m_get (f := 6) ht (by decide) μ wd).trans (congrArg some (pV_in (k := 23) ht).symm)
theorem ms_6 {t : Nat} (ht : t < 60) (v : Int32) (μ : Sg) (wd : Int64) : f_X9_setTicket (nI t) 6 v μ wd = some (mu μ 23 t v) := m_set (f := 6) ht (by decide) v μ wd
theorem mg_7 {t : Nat} (ht : t < 60) (μ : Sg) (wd : Int64) : f_X9_ticket (nI t) 7 μ wd = some (pV μ 24 t) := (m_get (f := 7) ht (by decide) μ wd).trans (congrArg some (pV_in (k := 24) ht).symm)
theorem ms_7 {t : Nat} (ht : t < 60) (v : Int32) (μ : Sg) (wd : Int64) : f_X9_setTicket (nI t) 7 v μ wd = some (mu μ 24 t v) := m_set (f := 7) ht (by decide) v μ wd
theorem mg_8 {t : Nat} (ht : t < 60) (μ : Sg) (wd : Int64) : f_X9_ticket (nI t) 8 μ wd = some (pV μ 25 t) := (m_get (f := 8) ht (by decide) μ wd).trans (congrArg some (pV_in (k := 25) ht).symm)
theorem ms_8 {t : Nat} (ht : t < 60) (v : Int32) (μ : Sg) (wd : Int64) : f_X9_setTicket (nI t) 8 v μ wd = some (mu μ 25 t v) := m_set (f := 8) ht (by decide) v μ wd
theorem mg_9 {t : Nat} (ht : t < 60) (μ : Sg) (wd : Int64) : f_X9_ticket (nI t) 9 μ wd = some (pV μ 21 t) := (m_get (f := 9) ht (by decide) μ wd).trans (congrArg some (pV_in (k := 21) ht).symm)
theorem ms_9 {t : Nat} (ht : t < 60) (v : Int32) (μ : Sg) (wd : Int64) : f_X9_setTicket (nI t) 9 v μ wd = some (mu μ 21 t v) := m_set (f := 9) ht (by decide) v μ wd
theorem mg_10 {t : Nat} (ht : t < 60) (μ : Sg) (wd : Int64) : f_X9_ticket (nI t) 10 μ wd = some (pV μ 26 t) := (m_get (f := 10) ht (by decide) μ wd).trans (congrArg some (pV_in (k := 26) ht).symm)
theorem ms_10 {t : Nat} (ht : t < 60) (v : Int32) (μ : Sg) (wd : Int64) : f_X9_setTicket (nI t) 10 v μ wd = some (mu μ 26 t v) := m_set (f := 10) ht (by decide) v μ wd
theorem mg_11 {t : Nat} (ht : t < 60) (μ : Sg) (wd : Int64) : f_X9_ticket (nI t) 11 μ wd = some (pV μ 27 t) := (m_get (f := 11) ht (by decide) μ wd).trans (congrArg some (pV_in (k := 27) ht).symm)
theorem ms_11 {t : Nat} (ht : t < 60) (v : Int32) (μ : Sg) (wd : Int64) : f_X9_setTicket (nI t) 11 v μ wd = some (mu μ 27 t v) := m_set (f := 11) ht (by decide) v μ wd
theorem mg_12 {t : Nat} (ht : t < 60) (μ : Sg) (wd : Int64) : f_X9_ticket (nI t) 12 μ wd = some (pV μ 28 t) := (m_get (f := 12) ht (by decide) μ wd).trans (congrArg some (pV_in (k := 28) ht).symm)
theorem ms_12 {t : Nat} (ht : t < 60) (v : Int32) (μ : Sg) (wd : Int64) : f_X9_setTicket (nI t) 12 v μ wd = some (mu μ 28 t v) := m_set (f := 12) ht (by decide) v μ wd
theorem mg_13 {t : Nat} (ht : t < 60) (μ : Sg) (wd : Int64) : f_X9_ticket (nI t) 13 μ wd = some (pV μ 29 t) := (m_get (f := 13) ht (by decide) μ wd).trans (congrArg some (pV_in (k := 29) ht).symm)
theorem ms_13 {t : Nat} (ht : t < 60) (v : Int32) (μ : Sg) (wd : Int64) : f_X9_setTicket (nI t) 13 v μ wd = some (mu μ 29 t v) := m_set (f := 13) ht (by decide) v μ wd
theorem mg_14 {t : Nat} (ht : t < 60) (μ : Sg) (wd : Int64) : f_X9_ticket (nI t) 14 μ wd = some (pV μ 38 t) := (m_get (f := 14) ht (by decide) μ wd).trans (congrArg some (pV_in (k := 38) ht).symm)
theorem ms_14 {t : Nat} (ht : t < 60) (v : Int32) (μ : Sg) (wd : Int64) : f_X9_setTicket (nI t) 14 v μ wd = some (mu μ 38 t v) := m_set (f := 14) ht (by decide) v μ wd
theorem mg_15 {t : Nat} (ht : t < 60) (μ : Sg) (wd : Int64) : f_X9_ticket (nI t) 15 μ wd = some (pV μ 39 t) := (m_get (f := 15) ht (by decide) μ wd).trans (congrArg some (pV_in (k := 39) ht).symm)
theorem ms_15 {t : Nat} (ht : t < 60) (v : Int32) (μ : Sg) (wd : Int64) : f_X9_setTicket (nI t) 15 v μ wd = some (mu μ 39 t v) := m_set (f := 15) ht (by decide) v μ wd
theorem kg_0 {t : Nat} (ht : t < 6) (μ : Sg) (wd : Int64) : f_X9_kind (nI t) 0 μ wd = some (pV μ 1 t) := (k_get (f := 0) ht (by decide) μ wd).trans (congrArg some (pV_in (k := 1) ht).symm)
theorem kg_1 {t : Nat} (ht : t < 6) (μ : Sg) (wd : Int64) : f_X9_kind (nI t) 1 μ wd = some (pV μ 2 t) := (k_get (f := 1) ht (by decide) μ wd).trans (congrArg some (pV_in (k := 2) ht).symm)
theorem kg_2 {t : Nat} (ht : t < 6) (μ : Sg) (wd : Int64) : f_X9_kind (nI t) 2 μ wd = some (pV μ 3 t) := (k_get (f := 2) ht (by decide) μ wd).trans (congrArg some (pV_in (k := 3) ht).symm)
theorem kg_3 {t : Nat} (ht : t < 6) (μ : Sg) (wd : Int64) : f_X9_kind (nI t) 3 μ wd = some (pV μ 4 t) := (k_get (f := 3) ht (by decide) μ wd).trans (congrArg some (pV_in (k := 4) ht).symm)
theorem kg_4 {t : Nat} (ht : t < 6) (μ : Sg) (wd : Int64) : f_X9_kind (nI t) 4 μ wd = some (pV μ 5 t) := (k_get (f := 4) ht (by decide) μ wd).trans (congrArg some (pV_in (k := 5) ht).symm)
theorem kg_5 {t : Nat} (ht : t < 6) (μ : Sg) (wd : Int64) : f_X9_kind (nI t) 5 μ wd = some (pV μ 6 t) := (k_get (f := 5) ht (by decide) μ wd).trans (congrArg some (pV_in (k := 6) ht).symm)
theorem g_time (μ : Sg) : μ 1 (ix 0) = pV μ 12 0 := rfl
theorem g_kc (μ : Sg) : μ 1 (ix 19) = pV μ 0 0 := rfl
theorem g_cnt (μ : Sg) : μ 1 (ix 56) = pV μ 15 0 := rfl
theorem g_hl (μ : Sg) : μ 1 (ix 57) = pV μ 31 0 := rfl
theorem g_ln (μ : Sg) : μ 1 (ix 58) = pV μ 7 0 := rfl
theorem s_time (μ : Sg) (v : Int32) : up μ 1 (ix 0) v = mu μ 12 0 v := rfl
theorem s_kc (μ : Sg) (v : Int32) : up μ 1 (ix 19) v = mu μ 0 0 v := rfl
theorem s_cnt (μ : Sg) (v : Int32) : up μ 1 (ix 56) v = mu μ 15 0 v := rfl
theorem s_hl (μ : Sg) (v : Int32) : up μ 1 (ix 57) v = mu μ 31 0 v := rfl
theorem s_ln (μ : Sg) (v : Int32) : up μ 1 (ix 58) v = mu μ 7 0 v := rfl
theorem o_at {d : Nat} : (1 : Int32) + nI d = nI (1 + d) := by rw [show (1 : Int32) = nI 1 from rfl, nI_add]
theorem c_at {d : Nat} : (8 : Int32) + nI d = nI (8 + d) := by rw [show (8 : Int32) = nI 8 from rfl, nI_add]
theorem a_at {d : Nat} : (15 : Int32) + nI d = nI (15 + d) := by rw [show (15 : Int32) = nI 15 from rfl, nI_add]
theorem g_open {d : Nat} (h : d < 7) (μ : Sg) : μ 1 (ix (nI (1 + d))) = pV μ 13 d := by rw [ix_nI (by omega)]; exact (pV_in (k := 13) h).symm
theorem g_close {d : Nat} (h : d < 7) (μ : Sg) : μ 1 (ix (nI (8 + d))) = pV μ 14 d := by rw [ix_nI (by omega)]; exact (pV_in (k := 14) h).symm
theorem g_agents {d : Nat} (h : d < 4) (μ : Sg) : μ 1 (ix (nI (15 + d))) = pV μ 30 d := by rw [ix_nI (by omega)]; exact (pV_in (k := 30) h).symm
theorem s_open {d : Nat} (h : d < 7) (μ : Sg) (v : Int32) : up μ 1 (ix (nI (1 + d))) v = mu μ 13 d v := by rw [ix_nI (by omega)]; rfl
theorem s_close {d : Nat} (h : d < 7) (μ : Sg) (v : Int32) : up μ 1 (ix (nI (8 + d))) v = mu μ 14 d v := by rw [ix_nI (by omega)]; rfl
theorem s_agents {d : Nat} (h : d < 4) (μ : Sg) (v : Int32) : up μ 1 (ix (nI (15 + d))) v = mu μ 30 d v := by rw [ix_nI (by omega)]; rfl
