/-! THE END: the objects as they are made hold all of it; the law's run; the claim -/
def yI0 : yI := yq108.2.1
def yJ0 : yJ := yq108.2.2
theorem s_13 : ∀ j, j < 16 → yI0 13 j = -1 := by decide +kernel
theorem s_14 : ∀ p, p < 4 → ∀ q, q < 4 → yI0 14 (4 * p + q) = yn (if p = q then 0 else 1000000) := by decide +kernel
theorem s_sh : ∀ i, i < 6 → yI0 (61 + 2 * i) 0 = -1 ∧ yI0 (61 + 2 * i) 1 = -1 ∧ yI0 (61 + 2 * i) 2 = 0 ∧ yI0 110 i = -1 := by decide +kernel
theorem s_el : ∀ i, i < 6 → ∀ k, k < 60 → yJ0 112 (60 * i + k) = yJ0 (62 + 2 * i) k := by decide +kernel
theorem s_town : (yI0 1 0 = yn 0 ∧ yI0 1 1 = yn 0 ∧ yI0 1 2 = yn 0) ∧ (yI0 73 1 = yn 0 ∧ yI0 73 4 = yn 0 ∧ yI0 73 9 = yn 0) ∧ (yI0 1 3 = yn 30 ∧ yI0 73 15 = yI0 1 3) ∧ (yI0 1 4 = yn 0 ∧ yI0 73 16 = yI0 1 4) ∧ (yI0 1 5 = yn 0 ∧ yI0 73 17 = yI0 1 5) := by decide +kernel
theorem s_law : (yI0 15 7 = yn 0 ∧ yI0 73 31 = yn 0) ∧ (yI0 15 6 = yn 0 ∧ yI0 73 19 = yn 0) := by decide +kernel
theorem s_x : (yI0 73 45 = 0 ∧ yI0 73 47 = -1 ∧ yI0 73 50 = -1) ∧ yI0 39 2 = yn 0 ∧ yI0 25 2 = yn 0 := by decide +kernel
theorem s_chg : yI0 52 5 = yn 0 ∧ yI0 52 4 = yn (0 + 0) ∧ yI0 73 32 = yn 0 ∧ yI0 73 33 = yn 0 := by decide +kernel
theorem s_act : (yI0 57 2 = yn 0 ∧ yI0 73 66 = yn 0) ∧ yI0 57 3 = yn 0 ∧ yI0 73 68 = yn 0 := by decide +kernel
theorem s_kept : yI0 0 7 = 0 ∧ yI0 73 55 = -1 := by decide +kernel
