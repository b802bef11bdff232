/-- ten hundredths of a row, judged alike -/
theorem bell_sum {A B : yI} {JA JB : yJ} {i n : Nat} (hi : i < 6) (hn : 10 ≤ n ∧ n ≤ 60) (hA : A (61 + 2 * i) 2 = yn n) (hr : ∀ k, k < 60 → yRng 0 (JA (62 + 2 * i) k)) (hJ : ∀ k, k < 60 → JB 112 (60 * i + k) = JA (62 + 2 * i) k) (v2 : Int32) : y2 (f106_makesHundred (61 + 2 * i) A JA) (zloopR (f187_bell_L64 (yn i) v2 B JB) 5000 ((0 : Int32), (0 : Int32))) (fun x y => match y with
      | .inl r => x = 0 ∧ r = (-2, B)
      | .inr r => x = yb (r.1 = 100) ∧ ∀ k, k < 10 → ∃ m, m ≤ 100 ∧ (JA (62 + 2 * i) k).toInt32 = yn m) := by
  have key : y2 (zloopR (f106_makesHundred_L4 (61 + 2 * i) A JA) 5000 ((0 : Int64), (0 : Int32))) (zloopR (f187_bell_L64 (yn i) v2 B JB) 5000 ((0 : Int32), (0 : Int32))) (fun x y => match x, y with
      | .inl r, .inl r' => r = 0 ∧ r' = (-2, B)
      | .inr r, .inr r' => (∃ m : Nat, m ≤ 1000 ∧ r.1.toInt = m ∧ r'.1 = yn m) ∧ ∀ k, k < 10 → ∃ m, m ≤ 100 ∧ (JA (62 + 2 * i) k).toInt32 = yn m
      | _, _ => False) := by
    refine y2_loopR (fun j (x : Int64 × Int32) (y : Int32 × Int32) => ∃ k, k + j = 10 ∧ x.2 = yn k ∧ y.2 = yn k ∧ (∃ m : Nat, m ≤ 100 * k ∧ x.1.toInt = m ∧ y.1 = yn m) ∧ ∀ q, q < k → ∃ m, m ≤ 100 ∧ (JA (62 + 2 * i) q).toInt32 = yn m) ?_ 5000 10 _ _ (by omega) ⟨0, by omega, rfl, rfl, ⟨0, by omega, rfl, rfl⟩, fun q hq => absurd hq (Nat.not_lt_zero _)⟩
    rintro j ⟨x1, x2⟩ ⟨y1, y2'⟩ ⟨k, hk, p1, p2, ⟨m, hm, p3, p4⟩, p5⟩
    dsimp only at p1 p2 p3 p4
    subst p1 p2 p4
    unfold f106_makesHundred_L4 f187_bell_L64
    have ten : (10 : Int32) ≤ yn k ↔ 10 ≤ k := yn_le (a := 10) (by omega) (by omega)
    by_cases g : 10 ≤ k
    · rw [if_pos (ten.mpr g), if_pos (ten.mpr g)]
      have : k = 10 := by omega
      subst this
      exact y2_some ⟨⟨m, by omega, p3, rfl⟩, p5⟩
    · rw [if_neg (fun z => g (ten.mp z)), if_neg (fun z => g (ten.mp z))]
      dsimp only
      have ei : 60 * yn i + yn k = yn (60 * i + k) := by
        rw [show (60 : Int32) = yn 60 from rfl, yn_mul, yn_add]
      rw [f57_ok (n := n) (by omega) hn.2 hA, ob, ei]
      refine y2_bifR (zin_yn (by omega) (by omega)) ?_
      rw [yn_nat (by omega), hJ k (by omega), f129_e, ob, yb_ite0]
      obtain ⟨e, he⟩ : ∃ e, e = JA (62 + 2 * i) k := ⟨_, rfl⟩
      have r := (hr k (by omega)).1 rfl
      rw [← he] at r ⊢
      have e32 : e.toInt32.toInt = e.toInt := by
        rw [Int64.toInt_toInt32, Int.bmod_eq_of_le (by omega) (by omega)]
      have z0 : (0 : Int64).toInt = 0 := by decide
      have z100 : (100 : Int64).toInt = 100 := by decide
      have n0 : (0 : Int32).toInt = 0 := by decide
      have n100 : (100 : Int32).toInt = 100 := by decide
      by_cases c : 0 ≤ e.toInt32 ∧ e.toInt32 ≤ 100
      · have c' := c
        rw [Int32.le_iff_toInt_le, Int32.le_iff_toInt_le, e32, n0, n100] at c'
        rw [if_neg (by rw [lg_neg, i64_lt, z0]; omega), if_pos (by rw [lg_le0, i64_lt, z100]; omega), if_pos c]
        obtain ⟨d, hd⟩ : ∃ d : Nat, e.toInt = d := ⟨e.toInt.toNat, by omega⟩
        have ed : e.toInt32 = yn d := by
          apply Int32.toInt_inj.mp
          rw [e32, yn_toInt (by omega), hd]
        refine y2_some ⟨j - 1, by omega, k + 1, by omega, yn_succ k, yn_succ k, ⟨m + d, by omega, ?_, ?_⟩, fun q hq => ?_⟩
        · dsimp only
          rw [l_add (by omega) (by omega), p3, hd]; omega
        · dsimp only
          rw [ed, yn_add]
        · by_cases u : q = k
          · subst u
            rw [← he]
            exact ⟨d, by omega, ed⟩
          · exact p5 q (by omega)
      · rw [if_neg c]
        by_cases c1 : lg_cmp e 0 < 0
        · rw [if_pos c1]; exact y2_some ⟨rfl, rfl⟩
        · rw [if_neg c1, if_neg]
          · exact y2_some ⟨rfl, rfl⟩
          · intro c2
            apply c
            rw [lg_neg, i64_lt, z0] at c1
            rw [lg_le0, i64_lt, z100] at c2
            rw [Int32.le_iff_toInt_le, Int32.le_iff_toInt_le, e32, n0, n100]
            omega
  unfold f106_makesHundred
  obtain ⟨x, y, e1, e2, e3⟩ := key
  rw [e1, e2]
  rcases x with r | r <;> rcases y with r' | r'
  · exact ⟨_, _, rfl, rfl, e3⟩
  · exact absurd e3 id
  · exact absurd e3 id
  · obtain ⟨⟨m, hm, q1, q2⟩, q3⟩ := e3
    have z100 : (100 : Int64).toInt = 100 := by decide
    have eq : lg_cmp r.1 100 = 0 ↔ r'.1 = 100 := by
      rw [lg_eq0, q2, show (100 : Int32) = yn 100 from rfl, yn_inj (by omega) (by omega), ← Int64.toInt_inj, q1, z100]
      omega
    refine ⟨if lg_cmp r.1 100 = 0 then 1 else 0, .inr r', ?_, rfl, ?_, q3⟩
    · show (if lg_cmp r.1 100 = 0 then some 1 else some 0) = _
      by_cases c : lg_cmp r.1 100 = 0
      · rw [if_pos c, if_pos c]
      · rw [if_neg c, if_neg c]
    · by_cases c : lg_cmp r.1 100 = 0
      · rw [if_pos c, yb_t (eq.mp c)]
      · rw [if_neg c, yb_f (fun z => c (eq.mpr z))]
