/-! THE RUN THAT IS KEPT: TOLD -/
def yKept (A B : yI) : Prop := (A 0 7 = 0 ∧ B 73 55 = -1) ∨ (A 0 7 = 1 ∧ ∃ ka ks S, ka ≤ 4 ∧ ks ≤ 8 ∧ S ≤ 60 ∧ (A 25 0 = yn S ∧ B 73 55 = yn S) ∧ (A 24 13 = yn ka ∧ B 73 60 = yn ka) ∧ (A 24 14 = yn ks ∧ B 73 61 = yn ks) ∧ (B 73 56 = A 24 16 ∧ B 73 57 = A 24 17 ∧ B 73 58 = A 24 18 ∧ B 73 59 = A 24 19) ∧ (∀ i, i < ka → B 105 i = A 37 i) ∧ (∀ t c, t < S + 1 → c < 32 → B 104 (32 * t + c) = A 33 (32 * t + c)) ∧ ∀ t i k, t < S + 1 → i < 4 → k < 8 → ks ≤ k → A 33 (32 * t + (8 * i + k)) = 0)
theorem f36_e {ka : Nat} {A : yI} (h : A 24 13 = yn ka) (hk : ka ≤ 4) (v : Int32) : f36_hasSquare_24 v A = some (yb (yIs ka v)) := by
  unfold f36_hasSquare_24
  rw [h]
  by_cases h1 : v < 0
  · rw [if_pos h1, yb_f]; rw [yIs_iff (by omega)]; exact fun h => Int32.not_le.mpr h1 h.1
  · rw [if_neg h1]
    by_cases h2 : yn ka ≤ v
    · rw [if_pos h2, yb_f]; rw [yIs_iff (by omega)]; exact fun h => Int32.not_le.mpr h.2 h2
    · rw [if_neg h2, yb_t]; rw [yIs_iff (by omega)]; exact ⟨Int32.not_lt.mp h1, Int32.not_le.mp h2⟩
theorem c_told {A B : yI} (h : yKept A B) (v : Int32) : ∃ r, f98_told v A = some r ∧ f176_told v B = some r := by
  unfold f98_told f176_told
  rcases h with ⟨h1, h2⟩ | ⟨h1, ka, ks, S, hka, hks, hS, ⟨g1, g2⟩, ⟨g3, g4⟩, -, ⟨g5, g6, g7, g8⟩, g9, -⟩
  · rw [if_pos h1, if_neg (show ¬ (0 : Int32) ≤ B 73 55 by rw [h2]; decide)]
    exact ⟨_, rfl, rfl⟩
  · have e9 : 9 + B 73 60 = yn (9 + ka) := by
      rw [g4]
      show yn 9 + yn ka = _
      rw [yn_add]
    rw [if_neg (show ¬ A 0 7 = 0 by rw [h1]; decide), if_pos (show (0 : Int32) ≤ B 73 55 by rw [g2]; exact yn_pos (by omega)), f129_e, f36_e g3 hka, e9]
    simp only [ob, yb_ite0]
    by_cases c0 : v = 0
    · subst c0
      rw [if_pos (by decide), if_neg (show ¬ ((10 : Int32) ≤ 0 ∧ (0 : Int32) ≤ yn (9 + ka)) from fun z => absurd z.1 (by decide)), if_pos (by decide)]
      exact ⟨_, rfl, by rw [g1, g2]⟩
    · have n0 : ¬ v.toInt = 0 := fun z => c0 (Int32.toInt_inj.mp z)
      rw [if_neg n0]
      by_cases c1 : v = 1
      · subst c1
        rw [if_pos (by decide), if_neg (show ¬ ((10 : Int32) ≤ 1 ∧ (1 : Int32) ≤ yn (9 + ka)) from fun z => absurd z.1 (by decide)), if_neg (by decide), if_pos (by decide), g5]
        exact ⟨_, rfl, rfl⟩
      · have n1 : ¬ v.toInt = 1 := fun z => c1 (Int32.toInt_inj.mp z)
        rw [if_neg n1]
        by_cases c2 : v = 2
        · subst c2
          rw [if_pos (by decide), if_neg (show ¬ ((10 : Int32) ≤ 2 ∧ (2 : Int32) ≤ yn (9 + ka)) from fun z => absurd z.1 (by decide)), if_neg (by decide), if_neg (by decide), if_pos (by decide), g6]
          exact ⟨_, rfl, rfl⟩
        · have n2 : ¬ v.toInt = 2 := fun z => c2 (Int32.toInt_inj.mp z)
          rw [if_neg n2]
          by_cases c3 : v = 3
          · subst c3
            rw [if_pos (by decide), if_neg (show ¬ ((10 : Int32) ≤ 3 ∧ (3 : Int32) ≤ yn (9 + ka)) from fun z => absurd z.1 (by decide)), if_neg (by decide), if_neg (by decide), if_neg (by decide), if_pos (by decide), g7]
            exact ⟨_, rfl, rfl⟩
          · have n3 : ¬ v.toInt = 3 := fun z => c3 (Int32.toInt_inj.mp z)
            rw [if_neg n3]
            by_cases c4 : v = 4
            · subst c4
              rw [if_pos (by decide), if_neg (show ¬ ((10 : Int32) ≤ 4 ∧ (4 : Int32) ≤ yn (9 + ka)) from fun z => absurd z.1 (by decide)), if_neg (by decide), if_neg (by decide), if_neg (by decide), if_neg (by decide), if_pos (by decide), g8]
              exact ⟨_, rfl, rfl⟩
            · have n4 : ¬ v.toInt = 4 := fun z => c4 (Int32.toInt_inj.mp z)
              rw [if_neg n4]
              rw [if_neg n0, if_neg n1, if_neg n2, if_neg n3, if_neg n4]
              by_cases c : (10 : Int32) ≤ v ∧ v ≤ yn (9 + ka)
              · have hk1 : 10 ≤ 9 + ka := (yn_le (a := 10) (b := 9 + ka) (by omega) (by omega)).mp (Int32.le_trans c.1 c.2)
                obtain ⟨m, hm1, hm, rfl⟩ := yq_of (lo := 10) (hi := 9 + ka) (by omega) hk1 c.1 c.2
                have e10 : yn m - 10 = yn (m - 10) := yn_sub (a := m) (b := 10) (by omega)
                rw [if_pos c, if_neg (Int32.not_lt.mpr c.1), e10, if_pos (show yIs ka (yn (m - 10)) from ⟨m - 10, by omega, rfl⟩), zin_yn (by omega) (by omega), yn_nat (by omega), g9 _ (by omega)]
                exact ⟨_, rfl, rfl⟩
              · rw [if_neg c]
                refine ⟨-2000000000, ?_, rfl⟩
                by_cases q : v < 10
                · rw [if_pos q]
                · rw [if_neg q, if_neg]
                  rintro ⟨i, hi, ei⟩
                  apply c
                  have ev : v = yn (i + 10) := by
                    have := congrArg (fun x => x + 10) ei
                    simp only [Int32.sub_add_cancel] at this
                    rw [this]
                    exact yn_add i 10
                  rw [ev]
                  refine ⟨?_, (yn_le (by omega) (by omega)).mpr (by omega)⟩
                  show yn 10 ≤ yn (i + 10)
                  exact (yn_le (by omega) (by omega)).mpr (by omega)
