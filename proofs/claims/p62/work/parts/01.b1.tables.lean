/-! the codes of the law: long rows -/
set_option maxRecDepth 100000 in
theorem tb_70 : Cond.code yL_init cL_init 1 none ∈ bw := tb_of 70 (by rfl) (by decide +kernel)
set_option maxRecDepth 100000 in
theorem tb_428 : Cond.code yL_holds cL_holds 6 (some .boolean) ∈ bw := tb_of 428 (by rfl) (by decide +kernel)
set_option maxRecDepth 100000 in
theorem tb_432 : Cond.code yL_begins cL_begins 3 (some .boolean) ∈ bw := tb_of 432 (by rfl) (by decide +kernel)
set_option maxRecDepth 100000 in
theorem tb_436 : Cond.code yL_draw cL_draw 3 (some .int) ∈ bw := tb_of 436 (by rfl) (by decide +kernel)
set_option maxRecDepth 100000 in
theorem tb_440 : Cond.code yL_at cL_at 3 (some .int) ∈ bw := tb_of 440 (by rfl) (by decide +kernel)
set_option maxRecDepth 100000 in
theorem tb_657 : Cond.code yL_acts cL_acts 8 (some .boolean) ∈ bw := tb_of 657 (by rfl) (by decide +kernel)
set_option maxRecDepth 100000 in
theorem tb_678 : Cond.code yL_told cL_told 5 (some .boolean) ∈ bw := tb_of 678 (by rfl) (by decide +kernel)
set_option maxRecDepth 100000 in
theorem tb_723 : Cond.code yL_solves cL_solves 8 (some .boolean) ∈ bw := tb_of 723 (by rfl) (by decide +kernel)
set_option maxRecDepth 100000 in
theorem tb_875 : Cond.code yL_joins cL_joins 8 (some .boolean) ∈ bw := tb_of 875 (by rfl) (by decide +kernel)
set_option maxRecDepth 100000 in
theorem tb_895 : Cond.code yL_keeps cL_keeps 11 (some .boolean) ∈ bw := tb_of 895 (by rfl) (by decide +kernel)
set_option maxRecDepth 100000 in
theorem tb_960 : Cond.code yL_passes cL_passes 20 (some .boolean) ∈ bw := tb_of 960 (by rfl) (by decide +kernel)
set_option maxRecDepth 100000 in
theorem tb_992 : Cond.code yL_logged cL_logged 5 (some .boolean) ∈ bw := tb_of 992 (by rfl) (by decide +kernel)
