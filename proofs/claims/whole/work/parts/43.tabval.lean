/-! the table itself, computed by the kernel a leading coefficient at a time -/
theorem tab_0 : tJ 0 19 0 ([], []) = (([], []) : Tab) := by decide +kernel
theorem tab_1 : tJ 1 19 0 ([], []) = (([], []) : Tab) := by decide +kernel
theorem tab_2 : tJ 2 19 0 ([], []) = (([], []) : Tab) := by decide +kernel
theorem tab_3 : tJ 3 19 0 ([], []) = (([], []) : Tab) := by decide +kernel
theorem tab_4 : tJ 4 19 0 ([], []) = (([], []) : Tab) := by decide +kernel
theorem tab_5 : tJ 5 19 0 ([], []) = (([], []) : Tab) := by decide +kernel
theorem tab_6 : tJ 6 19 0 ([], []) = (([], []) : Tab) := by decide +kernel
theorem tab_7 : tJ 7 19 0 ([], []) = (([961, 784], [961]) : Tab) := by decide +kernel
theorem tab_8 : tJ 8 19 0 ([961, 784], [961]) = (([993, 985, 961, 940, 916, 892, 837, 788, 785, 784, 761, 756, 733, 729, 697, 621, 592, 568, 564, 473, 469, 404, 361, 321, 316, 257, 229, 169, 148, 81, 49], [993, 985, 961, 940, 892, 837, 788, 785, 761, 756, 733, 697, 621, 568, 564, 473, 469, 404, 361, 321, 316, 257, 229, 169, 148, 81, 49]) : Tab) := by decide +kernel
theorem tab_val : tabAll = (([993, 985, 961, 940, 916, 892, 837, 788, 785, 784, 761, 756, 733, 729, 697, 621, 592, 568, 564, 473, 469, 404, 361, 321, 316, 257, 229, 169, 148, 81, 49], [993, 985, 961, 940, 892, 837, 788, 785, 761, 756, 733, 697, 621, 568, 564, 473, 469, 404, 361, 321, 316, 257, 229, 169, 148, 81, 49]) : Tab) := by
  unfold tabAll
  rw [tI, tab_0, tI, tab_1, tI, tab_2, tI, tab_3, tI, tab_4, tI, tab_5, tI, tab_6, tI, tab_7, tI, tab_8, tI]
theorem sealT_val : sealT 0 = (([993, 985, 961, 940, 916, 892, 837, 788, 785, 784, 761, 756, 733, 729, 697, 621, 592, 568, 564, 473, 469, 404, 361, 321, 316, 257, 229, 169, 148, 81, 49], [993, 985, 961, 940, 892, 837, 788, 785, 761, 756, 733, 697, 621, 568, 564, 473, 469, 404, 361, 321, 316, 257, 229, 169, 148, 81, 49]) : Tab) := sealT_eq.trans tab_val
theorem hf1_ok : (sealT 0).1.length ≤ 60 := by rw [sealT_val]; decide
theorem hf2_ok : (sealT 0).2.length ≤ 60 := by rw [sealT_val]; decide
theorem hp1_ok : posR (sealT 0).1 := by rw [sealT_val]; unfold posR; decide
theorem hp2_ok : posR (sealT 0).2 := by rw [sealT_val]; unfold posR; decide
theorem hs2_ok : sorR (sealT 0).2 := by
  rw [sealT_val]
  simp only [sorR]
  decide
