/-! SORT, SORTS, SET, OF -/
theorem yn_nn {x : Int32} (h : 0 ≤ x) : ∃ m, m < 2147483648 ∧ x = yn m := yn_of (Int32.le_iff_toInt_le.mp h)
theorem yn_ge0 {m : Nat} (h : m < 2147483648) : yn 0 ≤ yn m := (yn_le (by omega) h).mpr (by omega)
theorem yn_div {m d : Nat} (h : m < 2147483648) (hd : d < 2147483648) : yn m / yn d = yn (m / d) := by
  apply Int32.toInt_inj.mp
  have h2 : m / d ≤ m := Nat.div_le_self m d
  rw [Int32.toInt_div, yn_toInt h, yn_toInt hd, yn_toInt (by omega), Int.tdiv_eq_ediv_of_nonneg (by omega), ← Int.natCast_ediv]
  generalize m / d = r at *
  exact Int.bmod_eq_of_le (by omega) (by omega)
theorem yn_mod {m d : Nat} (h : m < 2147483648) (hd : d < 2147483648) : yn m - yn m / yn d * yn d = yn (m % d) := by
  rw [yn_div h hd, yn_mul, yn_sub (Nat.div_mul_le_self m d)]
  congr 1
  have := Nat.div_add_mod m d
  rw [Nat.mul_comm] at this
  omega
theorem yn_div10 {m : Nat} (h : m < 2147483648) : yn m / 10 = yn (m / 10) := yn_div h (by decide)
theorem yn_mod10 {m : Nat} (h : m < 2147483648) : yn m - yn m / 10 * 10 = yn (m % 10) := yn_mod h (by decide)
def ySoOk (a : Nat) (v1 v2 v3 : Int32) : Prop := 0 ≤ v1 ∧ v1 / 10 ≤ 200 ∧ v1 - v1 / 10 * 10 ≤ 1 ∧ 0 ≤ v2 ∧ yIs a (v2 / 10) ∧ 1 ≤ v2 - v2 / 10 * 10 ∧ v2 - v2 / 10 * 10 ≤ 3 ∧ 0 ≤ v3 ∧ v3 ≤ 3
theorem le2 {x : Int32} : ¬ (2 : Int32) ≤ x ↔ x ≤ 1 := by
  rw [Int32.not_le, Int32.lt_iff_toInt_lt, Int32.le_iff_toInt_le]
  have e1 : (2 : Int32).toInt = 2 := by decide
  have e2 : (1 : Int32).toInt = 1 := by decide
  omega
theorem lt4 {x : Int32} : x < (4 : Int32) ↔ x ≤ 3 := by
  rw [Int32.lt_iff_toInt_lt, Int32.le_iff_toInt_le]
  have e1 : (4 : Int32).toInt = 4 := by decide
  have e2 : (3 : Int32).toInt = 3 := by decide
  omega
theorem f134_e {a : Nat} {B : yI} (h : B 73 1 = yn a) (ha : a ≤ 4) (v1 v2 v3 : Int32) : f134_isSortSo v1 v2 v3 B = some (yb (ySoOk a v1 v2 v3)) := by
  unfold f134_isSortSo
  simp only [f130_e h ha, f129_e, ob, yb_ite0]
  by_cases h1 : v1 < 0
  · rw [if_pos h1, yb_f]; exact fun h => Int32.not_le.mpr h1 h.1
  · rw [if_neg h1]
    by_cases h2 : (200 : Int32) < v1 / 10
    · rw [if_pos h2, yb_f]; exact fun h => Int32.not_le.mpr h2 h.2.1
    · rw [if_neg h2]
      by_cases h3 : (2 : Int32) ≤ v1 - v1 / 10 * 10
      · rw [if_pos h3, yb_f]; exact fun h => le2.mpr h.2.2.1 h3
      · rw [if_neg h3]
        by_cases h4 : v2 < 0
        · rw [if_pos h4, yb_f]; exact fun h => Int32.not_le.mpr h4 h.2.2.2.1
        · rw [if_neg h4]
          by_cases h5 : yIs a (v2 / 10)
          · rw [if_pos h5]
            by_cases h6 : 1 ≤ v2 - v2 / 10 * 10 ∧ v2 - v2 / 10 * 10 ≤ 3
            · rw [if_pos h6]
              by_cases h7 : 0 ≤ v3 ∧ v3 ≤ 3
              · rw [if_pos h7, yb_t]; exact ⟨Int32.not_lt.mp h1, Int32.not_lt.mp h2, le2.mp h3, Int32.not_lt.mp h4, h5, h6.1, h6.2, h7.1, h7.2⟩
              · rw [if_neg h7, yb_f]; exact fun h => h7 h.2.2.2.2.2.2.2
            · rw [if_neg h6, yb_f]; exact fun h => h6 ⟨h.2.2.2.2.2.1, h.2.2.2.2.2.2.1⟩
          · rw [if_neg h5, yb_f]; exact fun h => h5 h.2.2.2.2.1
def ySoNew (A : yI) (s : Nat) (v1 v2 v3 : Int32) : yI := zu (zu (zu (zu (zu (zu A 8 s (v1 / 10)) 9 s (v1 - v1 / 10 * 10)) 10 s (v2 / 10)) 11 s (v2 - v2 / 10 * 10)) 12 s v3) 1 2 (yn (s + 1))
def ySoNewB (B : yI) (s : Nat) (v1 v2 v3 : Int32) : yI := zu (zu (zu (zu (zu (zu B 80 s (v1 / 10)) 81 s (v1 - v1 / 10 * 10)) 82 s (v2 / 10)) 83 s (v2 - v2 / 10 * 10)) 84 s v3) 73 9 (yn (s + 1))
theorem yn_succ (n : Nat) : yn n + 1 = yn (n + 1) := yn_add n 1
theorem yn_ss (n : Nat) : yn n + 1 - 1 = yn n := by rw [yn_succ]; exact yn_sub (a := n + 1) (b := 1) (by omega)
theorem f68_bad {a s : Nat} {A : yI} (h : A 1 0 = yn a) (ha : a ≤ 4) (v1 v2 v3 : Int32) (hb : ¬ ySoOk a v1 v2 v3) : f68_addSort v1 v2 v3 A = some (-1, A) := by
  unfold f68_addSort
  simp only [f61_e h ha, ob, yb_ite0]
  by_cases h1 : v1 < 0
  · rw [if_pos h1]
  · rw [if_neg h1]
    by_cases h2 : (200 : Int32) < v1 / 10
    · rw [if_pos h2]
    · rw [if_neg h2]
      by_cases h3 : (1 : Int32) < v1 - v1 / 10 * 10
      · rw [if_pos h3]
      · rw [if_neg h3]
        by_cases h4 : v3 < 0
        · rw [if_pos h4]
        · rw [if_neg h4]
          by_cases h5 : v3 < 4
          · rw [if_pos h5]
            by_cases h6 : v2 < 0
            · rw [if_pos h6]
            · rw [if_neg h6]
              by_cases h7 : yIs a (v2 / 10)
              · rw [if_pos h7]
                by_cases h8 : v2 - v2 / 10 * 10 < 1
                · rw [if_pos h8]
                · rw [if_neg h8]
                  by_cases h9 : v2 - v2 / 10 * 10 ≤ 3
                  · exfalso
                    exact hb ⟨Int32.not_lt.mp h1, Int32.not_lt.mp h2, Int32.not_lt.mp h3, Int32.not_lt.mp h6, h7, Int32.not_lt.mp h8, h9, Int32.not_lt.mp h4, lt4.mp h5⟩
                  · rw [if_neg h9]
              · rw [if_neg h7]
          · rw [if_neg h5]
theorem f68_ok {a s : Nat} {A : yI} (h : A 1 0 = yn a) (ha : a ≤ 4) (hs : A 1 2 = yn s) (hs8 : s ≤ 8) (v1 v2 v3 : Int32) (hb : ySoOk a v1 v2 v3) : f68_addSort v1 v2 v3 A = if s = 8 then some (-3, A) else some (yn s, ySoNew A s v1 v2 v3) := by
  obtain ⟨h1, h2, h3, h4, h5, h6, h7, h8, h9⟩ := hb
  unfold f68_addSort
  rw [if_neg (Int32.not_lt.mpr h1), if_neg (Int32.not_lt.mpr h2), if_neg (Int32.not_lt.mpr h3), if_neg (Int32.not_lt.mpr h8), if_pos (lt4.mpr h9), if_neg (Int32.not_lt.mpr h4)]
  simp only [f61_e h ha, ob, yb_ite0]
  rw [if_pos h5, if_neg (Int32.not_lt.mpr h6), if_pos h7, hs]
  by_cases e : s = 8
  · subst e
    rfl
  · have e2 : ¬ yn s = 8 := by
      show ¬ yn s = yn 8
      rw [yn_inj (by omega) (by omega)]; exact e
    rw [if_neg e2, if_neg e, zin_yn (by omega) (by omega), yn_nat (by omega), yn_ss, yn_succ]
    rfl
theorem f135_ok {s : Nat} {B : yI} (hs : B 73 9 = yn s) (hs8 : s < 8) (v1 v2 v3 : Int32) : f135_addSort v1 v2 v3 B = some (yn s, ySoNewB B s v1 v2 v3) := by
  unfold f135_addSort
  rw [hs, zin_yn (by omega) (by omega), yn_nat (by omega), yn_ss, yn_succ]
  rfl
theorem ySoNew_T {a w s : Nat} {A B : yI} (hT : yTown a w s A B) (hs : s < 8) {v1 v2 v3 : Int32} (hb : ySoOk a v1 v2 v3) : yTown a w (s + 1) (ySoNew A s v1 v2 v3) (ySoNewB B s v1 v2 v3) := by
  obtain ⟨⟨⟨ha, hw, -⟩, ⟨a1, a2, a3⟩, ⟨b1, b2, b3⟩⟩, hSet, hSq, hWy, hSo⟩ := hT
  obtain ⟨h1, h2, h3, h4, h5, h6, h7, h8, h9⟩ := hb
  unfold ySoNew ySoNewB
  refine ⟨⟨⟨ha, hw, by omega⟩, ?_, ?_⟩, ?_, ?_, ?_, ?_⟩
  · simp [zu_at, a1, a2]
  · simp [zu_at, b1, b2]
  · simpa [ySet, zu_at] using hSet
  · intro i hi
    simpa [zu_at] using hSq i hi
  · intro i hi
    simp only [zu_at]
    simpa using hWy i hi
  · intro i hi
    by_cases e : i = s
    · subst e
      obtain ⟨m, hm, rfl⟩ := yn_nn h1
      obtain ⟨n, hn, rfl⟩ := yn_nn h4
      rw [yn_div10 hm] at h2
      rw [yn_mod10 hm] at h3
      rw [yn_mod10 hn] at h6 h7
      have q1 : yq (yn (m / 10)) 0 200 := yq_of (by omega) (by omega) (yn_ge0 (by omega)) h2
      have q2 : yq (yn (m % 10)) 0 1 := yq_of (by omega) (by omega) (yn_ge0 (by omega)) h3
      have q3 : yq (yn (n % 10)) 1 3 := yq_of (by omega) (by omega) h6 h7
      have q4 : yq v3 0 3 := yq_of (by omega) (by omega) h8 h9
      simp only [yn_mod10 hm, yn_mod10 hn]
      simp [zu_at, h5, yn_div10 hm, q1, q2, q3, q4]
    · simpa [zu_at, e] using hSo i (by omega)
theorem c_sort {a w s : Nat} {A B : yI} (hT : yTown a w s A B) (v1 v2 v3 : Int32) : y2 (f88_sort v1 v2 v3 A) (f136_sort v1 v2 v3 B) (fun x y => x.1 = y.1 ∧ ∃ s', yTown a w s' x.2 y.2) := by
  have hT0 := hT
  obtain ⟨⟨⟨ha, hw, hs⟩, ⟨a1, a2, a3⟩, ⟨b1, b2, b3⟩⟩, hSet, hSq, hWy, hSo⟩ := hT
  unfold f88_sort f136_sort
  simp only [f134_e b1 ha, ob, yb_ite0]
  by_cases h : ySoOk a v1 v2 v3
  · rw [if_pos h, f68_ok a1 ha a3 hs v1 v2 v3 h, b3]
    by_cases e : s = 8
    · subst e
      exact ⟨_, _, rfl, rfl, rfl, 8, hT0⟩
    · have e2 : ¬ yn s = 8 := by
        show ¬ yn s = yn 8
        rw [yn_inj (by omega) (by omega)]; exact e
      rw [if_neg e, if_neg e2, f135_ok b3 (by omega)]
      exact ⟨_, _, rfl, rfl, rfl, s + 1, ySoNew_T hT0 (by omega) h⟩
  · rw [if_neg h, f68_bad (s := s) a1 ha v1 v2 v3 h]
    exact ⟨_, _, rfl, rfl, rfl, s, hT0⟩
theorem c_set {a w s : Nat} {A B : yI} (hT : yTown a w s A B) (v1 v2 : Int32) : y2 (f93_set v1 v2 A) (f158_set v1 v2 B) (fun x y => x.1 = y.1 ∧ yTown a w s x.2 y.2) := by
  have hT0 := hT
  obtain ⟨⟨⟨ha, hw, hs⟩, ⟨a1, a2, a3⟩, ⟨b1, b2, b3⟩⟩, ⟨⟨s1, s2⟩, ⟨s3, s4⟩, ⟨s5, s6⟩⟩, hSq, hWy, hSo⟩ := hT
  unfold f93_set f158_set
  simp only [f126_e, f129_e, ob, yb_ite0]
  have done : ∀ {r : Int32}, y2 (some (r, A)) (some (r, B)) (fun x y => x.1 = y.1 ∧ yTown a w s x.2 y.2) := ⟨_, _, rfl, rfl, rfl, hT0⟩
  by_cases h0 : v1 = 0
  · subst h0
    by_cases h : 1 ≤ v2 ∧ v2 ≤ 60
    · have q : yq v2 1 60 := yq_of (by omega) (by omega) h.1 h.2
      simp only [if_pos h]
      refine ⟨_, _, rfl, rfl, s2.symm, ⟨⟨ha, hw, hs⟩, ?_, ?_⟩, ?_, ?_, ?_, ?_⟩
      · simp [zu_at, a1, a2, a3]
      · simp [zu_at, b1, b2, b3]
      · simp [ySet, zu_at, q, s3, s4, s5, s6]
      · intro i hi; simpa [zu_at] using hSq i hi
      · intro i hi; simp only [zu_at]; simpa using hWy i hi
      · intro i hi; simpa [zu_at] using hSo i hi
    · simp only [if_neg h]
      exact done
  · have e0 : ¬ v1.toInt = 0 := fun q => h0 (Int32.toInt_inj.mp q)
    rw [if_neg h0, if_neg e0]
    by_cases h1 : v1 = 1
    · subst h1
      by_cases h : 0 ≤ v2 ∧ v2 ≤ 9
      · have q : yq v2 0 9 := yq_of (by omega) (by omega) h.1 h.2
        simp only [if_pos h]
        refine ⟨_, _, rfl, rfl, s4.symm, ⟨⟨ha, hw, hs⟩, ?_, ?_⟩, ?_, ?_, ?_, ?_⟩
        · simp [zu_at, a1, a2, a3]
        · simp [zu_at, b1, b2, b3]
        · simp [ySet, zu_at, q, s1, s2, s5, s6]
        · intro i hi; simpa [zu_at] using hSq i hi
        · intro i hi; simp only [zu_at]; simpa using hWy i hi
        · intro i hi; simpa [zu_at] using hSo i hi
      · simp only [if_neg h]
        exact done
    · have e1 : ¬ v1.toInt = 1 := fun q => h1 (Int32.toInt_inj.mp q)
      rw [if_neg h1, if_neg e1]
      by_cases h2 : v1 = 2
      · subst h2
        by_cases h : 0 ≤ v2 ∧ v2 ≤ 20
        · have q : yq v2 0 20 := yq_of (by omega) (by omega) h.1 h.2
          simp only [if_pos h]
          refine ⟨_, _, rfl, rfl, s6.symm, ⟨⟨ha, hw, hs⟩, ?_, ?_⟩, ?_, ?_, ?_, ?_⟩
          · simp [zu_at, a1, a2, a3]
          · simp [zu_at, b1, b2, b3]
          · simp [ySet, zu_at, q, s1, s2, s3, s4]
          · intro i hi; simpa [zu_at] using hSq i hi
          · intro i hi; simp only [zu_at]; simpa using hWy i hi
          · intro i hi; simpa [zu_at] using hSo i hi
        · simp only [if_neg h]
          exact done
      · have e2 : ¬ v1.toInt = 2 := fun q => h2 (Int32.toInt_inj.mp q)
        rw [if_neg h2, if_neg e2]
        exact done
theorem c_of {a w s : Nat} {A B : yI} (hT : yTown a w s A B) (v1 v2 : Int32) : ∃ r, f95_of v1 v2 A = some r ∧ f165_of v1 v2 B = some r := by
  obtain ⟨⟨⟨ha, hw, hs⟩, ⟨a1, a2, a3⟩, ⟨b1, b2, b3⟩⟩, hSet, hSq, hWy, hSo⟩ := hT
  unfold f95_of f165_of f70_ofSort f71_ofSquare f72_ofWay
  simp only [f61_e a1 ha, f130_e b1 ha, f62_e a3 hs, f131_e b3 hs, f129_e, ob, yb_ite0]
  rw [b2, ← (yIs_in (n := w) (v := v1) (by omega))]
  by_cases h0 : 0 ≤ v2 ∧ v2 ≤ 4
  · rw [if_pos h0]
    obtain ⟨m, -, hm, rfl⟩ := yq_of (lo := 0) (hi := 4) (by omega) (by omega) h0.1 h0.2
    have n10 : ¬ (10 : Int32) ≤ yn m := by
      show ¬ yn 10 ≤ yn m
      rw [yn_le (by omega) (by omega)]; omega
    rw [if_neg n10]
    by_cases hk : yIs s v1
    · rw [if_pos hk, if_pos hk]
      obtain ⟨i, hi, rfl⟩ := hk
      rw [zin_yn (by omega) (by omega), yn_nat (by omega)]
      obtain ⟨⟨-, r1⟩, ⟨-, r2⟩, ⟨-, r3⟩, ⟨-, r4⟩, ⟨-, r5⟩⟩ := hSo i hi
      rw [r1, r2, r3, r4, r5]
      have hm5 : m = 0 ∨ m = 1 ∨ m = 2 ∨ m = 3 ∨ m = 4 := by omega
      rcases hm5 with rfl | rfl | rfl | rfl | rfl <;> exact ⟨_, rfl, rfl⟩
    · rw [if_neg hk, if_neg hk]
      exact ⟨_, rfl, rfl⟩
  · rw [if_neg h0]
    by_cases h1 : 10 ≤ v2 ∧ v2 ≤ 11
    · rw [if_pos h1]
      obtain ⟨m, hm0, hm, rfl⟩ := yq_of (lo := 10) (hi := 11) (by omega) (by omega) h1.1 h1.2
      have n20 : ¬ (20 : Int32) ≤ yn m := by
        show ¬ yn 20 ≤ yn m
        rw [yn_le (by omega) (by omega)]; omega
      rw [if_pos h1.1, if_neg n20, if_neg (Int32.not_lt.mpr h1.1), if_pos h1.2]
      by_cases hk : yIs a v1
      · rw [if_pos hk, if_pos hk]
        obtain ⟨i, hi, rfl⟩ := hk
        rw [zin_yn (by omega) (by omega), yn_nat (by omega)]
        obtain ⟨⟨-, r1⟩, ⟨-, r2⟩⟩ := hSq i hi
        rw [r1, r2]
        have hm5 : m = 10 ∨ m = 11 := by omega
        rcases hm5 with rfl | rfl <;> exact ⟨_, rfl, rfl⟩
      · rw [if_neg hk, if_neg hk]
        exact ⟨_, rfl, rfl⟩
    · rw [if_neg h1]
      by_cases h2 : 20 ≤ v2 ∧ v2 ≤ 23
      · rw [if_pos h2]
        obtain ⟨m, hm0, hm, rfl⟩ := yq_of (lo := 20) (hi := 23) (by omega) (by omega) h2.1 h2.2
        have n10 : (10 : Int32) ≤ yn m := by
          show yn 10 ≤ yn m
          rw [yn_le (by omega) (by omega)]; omega
        rw [if_pos n10, if_pos h2.1]
        by_cases hk : yIs w v1
        · obtain ⟨i, hi, rfl⟩ := id hk
          have k1 : ¬ yn i < 0 := by
            show ¬ yn i < yn 0
            rw [yn_lt (by omega) (by omega)]; omega
          have k2 : yn i < A 1 1 := by
            rw [a2, yn_lt (by omega) (by omega)]; omega
          rw [if_neg k1, if_pos k2, if_pos hk]
          rw [zin_yn (by omega) (by omega), yn_nat (by omega)]
          obtain ⟨-, ⟨r1, r2⟩, ⟨-, r3⟩, ⟨-, r4⟩⟩ := hWy i hi
          rw [r1, r2, r3, r4]
          have hm5 : m = 20 ∨ m = 21 ∨ m = 22 ∨ m = 23 := by omega
          rcases hm5 with rfl | rfl | rfl | rfl <;> exact ⟨_, rfl, rfl⟩
        · rw [if_neg hk]
          have hk2 := hk
          rw [yIs_iff (by omega)] at hk2
          refine ⟨-1, ?_, rfl⟩
          by_cases k1 : v1 < 0
          · rw [if_pos k1]; rfl
          · rw [if_neg k1, if_neg]; · rfl
            rw [a2]; exact fun q => hk2 ⟨Int32.not_lt.mp k1, q⟩
      · rw [if_neg h2]
        refine ⟨-1, ?_, rfl⟩
        simp only [Int32.le_iff_toInt_le, Int32.lt_iff_toInt_lt] at *
        have t : ∀ c : Int32, c.toInt = c.toInt := fun _ => rfl
        have e0 : (0 : Int32).toInt = 0 := by decide
        have e1 : (4 : Int32).toInt = 4 := by decide
        have e2 : (10 : Int32).toInt = 10 := by decide
        have e3 : (11 : Int32).toInt = 11 := by decide
        have e4 : (20 : Int32).toInt = 20 := by decide
        have e5 : (23 : Int32).toInt = 23 := by decide
        simp only [e0, e1, e2, e3, e4, e5] at *
        repeat' (first | rfl | omega | split)
