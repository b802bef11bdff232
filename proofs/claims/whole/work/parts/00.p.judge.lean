/-! JUDGED -/
theorem j_pos {x : Int64} {n y : Int32} (h : x.toInt = n.toInt) : (0 : Int32) < lg_cmp x y.toInt64 ↔ y < n := by
  rw [lg_pos, i64_lt, l_ofi, h, Int32.lt_iff_toInt_lt]
theorem j_le {x : Int64} {n y : Int32} (h : x.toInt = n.toInt) : lg_cmp x y.toInt64 ≤ (0 : Int32) ↔ n ≤ y := by
  rw [lg_le0, i64_lt, l_ofi, h, Int32.le_iff_toInt_le]
  omega
theorem j_short {x : Int64} (h : yRng 1 x) : x.toInt = x.toInt32.toInt := by
  obtain ⟨h1, h2⟩ := h.2 rfl
  rw [Int64.toInt_toInt32, Int.bmod_eq_of_le (by omega) (by omega)]
theorem j_add {x y : Int64} {n m : Int32} {i : Nat} (h1 : x.toInt = n.toInt) (h2 : y.toInt = m.toInt) (hi : i ≤ 4) (b1 : -32768 * (i : Int) ≤ x.toInt ∧ x.toInt ≤ 32768 * (i : Int)) (b2 : -32768 ≤ y.toInt ∧ y.toInt ≤ 32768) : (x + y).toInt = (n + m).toInt ∧ -32768 * ((i + 1 : Nat) : Int) ≤ (x + y).toInt ∧ (x + y).toInt ≤ 32768 * ((i + 1 : Nat) : Int) := by
  have e : (x + y).toInt = x.toInt + y.toInt := l_add (by omega) (by omega)
  have e2 : (n + m).toInt = n.toInt + m.toInt := by
    rw [Int32.toInt_add, Int.bmod_eq_of_le (by omega) (by omega)]
  rw [e, e2, h1, h2] at *
  omega
/-- those who could have come -/
theorem could_l {a w s : Nat} {A B : yI} (hT : yTown a w s A B) (hF : yMF A w) {q : Nat} (hq : q < a) (v1 v2 v4 : Int32) (J : yJ) : y2 (f79_couldCome (yn q) A) (zloop (f191_judge_L89 v1 v2 (yn q) v4 J) 5000 ((0 : Int32), (0 : Int32), B)) (fun x y => x = y.1 ∧ yTown a w s A y.2.2) := by
  unfold f79_couldCome
  have key : y2 (zloop (f79_couldCome_L4 (yn q) A) 5000 ((0 : Int32), (0 : Int32))) (zloop (f191_judge_L89 v1 v2 (yn q) v4 J) 5000 ((0 : Int32), (0 : Int32), B)) (fun x y => x.1 = y.1 ∧ yTown a w s A y.2.2) := by
    have hs8 := hT.1.1.2.2
    refine y2_for s (fun k x y => x.1 = y.1 ∧ x.2 = yn k ∧ y.2.1 = yn k ∧ yTown a w s A y.2.2) (k := 0) ⟨rfl, rfl, rfl, hT⟩ (by omega) (by omega) ?_ ?_
    · rintro k ⟨x1, x2⟩ ⟨y1, y2', C⟩ - hk ⟨e1, e2, e3, hC⟩
      dsimp only at e1 e2 e3 hC
      subst e1 e2 e3
      have hC0 := hC
      obtain ⟨⟨⟨ha, hw, hs⟩, ⟨a1, a2, a3⟩, ⟨b1, b2, b3⟩⟩, -, hSq, hWy, hSo⟩ := hC
      obtain ⟨⟨-, r1⟩, -, ⟨⟨p, hp, ep⟩, r2⟩, -⟩ := hSo k hk
      unfold f79_couldCome_L4 f191_judge_L89
      dsimp only
      rw [if_neg (show ¬ A 1 2 ≤ yn k by rw [a3, yn_le (by omega) (by omega)]; omega), if_neg (show ¬ C 73 9 ≤ yn k by rw [b3, yn_le (by omega) (by omega)]; omega)]
      refine y2_bifL (zin_yn (by omega) (by omega)) (y2_bifR (zin_yn (by omega) (by omega)) ?_)
      rw [yn_nat (n := k) (by omega)]
      refine y2_ite (by rw [r2]) (fun c => ?_) fun c => ?_
      · refine y2_bifL (zin_yn (by omega) (by omega)) (y2_bifR (zin_yn (by omega) (by omega)) (y2_some ⟨?_, yn_succ k, yn_succ k, hC0⟩))
        dsimp only
        rw [r1]
      · refine y2_bifL (zin_yn (by omega) (by omega)) (y2_bifR (zin_yn (by omega) (by omega)) ?_)
        rw [r2, ep]
        obtain ⟨r, hr, k1, ⟨z1, D⟩, k2, k3⟩ := last_e hC0 hF hk hp hq
        dsimp only at k3
        subst k3
        have fr : yfr w_f179_lastOf C D := yfr2 (fr_f179_lastOf _ _ _ C) k2
        have hD : yTown a w s A D := yTown_ag (yag_refl _) (yag_fr rfl fr) hC0
        rw [k1, k2, ob, ob]
        dsimp only
        rcases hr with rfl | ⟨m, hm, rfl⟩
        · rw [if_pos rfl, if_pos (by decide)]
          exact y2_some ⟨rfl, yn_succ k, yn_succ k, hD⟩
        · rw [if_neg (show ¬ yn m = -2 from fun z => by
            have := yn_pos hm
            rw [z] at this
            exact absurd this (by decide)), if_neg (Int32.not_lt.mpr (yn_pos hm))]
          refine y2_bifL (zin_yn (by omega) (by omega)) (y2_bifR (zin_yn (by omega) (by omega)) (y2_some ⟨?_, yn_succ k, yn_succ k, hD⟩))
          dsimp only
          rw [fr 80 k rfl, r1]
    · rintro ⟨x1, x2⟩ ⟨y1, y2', C⟩ ⟨e1, e2, e3, hC⟩
      dsimp only at e1 e2 e3 hC
      subst e1 e2 e3
      unfold f79_couldCome_L4 f191_judge_L89
      dsimp only
      rw [if_pos (show A 1 2 ≤ yn s by rw [hC.1.2.1.2.2]; exact Int32.le_refl _), if_pos (show C 73 9 ≤ yn s by rw [hC.1.2.2.2.2]; exact Int32.le_refl _)]
      exact y2_some ⟨rfl, hC⟩
  obtain ⟨x, y, e1, e2, e3⟩ := key
  rw [e1, e2]
  exact ⟨x.1, y, rfl, rfl, e3⟩
def yJI (a w s : Nat) (A : yI) (j : Nat) (x : Int64 × Int32) (y : Int32 × Int32 × yI) : Prop := ∃ i, i + j = a ∧ x.2 = yn i ∧ y.2.1 = yn i ∧ x.1.toInt = y.1.toInt ∧ (-32768 * (i : Int) ≤ x.1.toInt ∧ x.1.toInt ≤ 32768 * (i : Int)) ∧ yTown a w s A y.2.2
def yJQ (a w s : Nat) (A : yI) : Int32 ⊕ (Int64 × Int32) → (Int32 × yI) ⊕ (Int32 × Int32 × yI) → Prop
  | .inl x, .inl y => x = y.1
  | .inr x, .inr y => x.1.toInt = y.1.toInt ∧ yTown a w s A y.2.2
  | _, _ => False
theorem judge_step {a w s m c : Nat} {A : yI} {JA JB : yJ} (hF : yMF A w) (hc : c < 6) (ham : a ≤ m) (hm : m ≤ 60) (hsz : A (61 + 2 * c) 2 = yn m) (hel : ∀ k, k < 60 → JB 112 (60 * c + k) = JA (62 + 2 * c) k) (hrg : ∀ k, k < 60 → yRng 1 (JA (62 + 2 * c) k)) : ∀ j x y, yJI a w s A j x y → y2 (f112_judged_L5 (61 + 2 * c) A JA x) (f191_judge_L56 (yn c) JB y) (yL (yJQ a w s A) (fun x y => ∃ j', j' < j ∧ yJI a w s A j' x y)) := by
  rintro j ⟨x1, x2⟩ ⟨y1, y2', C⟩ ⟨i, hi, e1, e2, e3, e4, hC⟩
  dsimp only at e1 e2 e3 e4 hC
  subst e1 e2
  have hC0 := hC
  obtain ⟨⟨⟨ha, hw, hs⟩, ⟨a1, a2, a3⟩, ⟨b1, b2, b3⟩⟩, -, hSq, hWy, hSo⟩ := hC
  unfold f112_judged_L5 f191_judge_L56
  dsimp only
  by_cases hia : i < a
  · rw [if_neg (show ¬ A 1 0 ≤ yn i by rw [a1, yn_le (by omega) (by omega)]; omega), if_neg (show ¬ C 73 1 ≤ yn i by rw [b1, yn_le (by omega) (by omega)]; omega)]
    have ix : 60 * yn c + yn i = yn (60 * c + i) := by
      show yn 60 * yn c + yn i = _
      rw [yn_mul, yn_add]
    rw [ix]
    refine y2_bifR (zin_yn (by omega) (by omega)) ?_
    rw [f57_ok (n := m) (by omega) hm hsz, yn_nat (n := 60 * c + i) (by omega), hel i (by omega), ob, yn_nat (n := i) (by omega)]
    have hr := hrg i (by omega)
    have hsh := j_short hr
    have hr2 := hr.2 rfl
    generalize JA (62 + 2 * c) i = x at hsh hr2 ⊢
    obtain ⟨z, ⟨g1, g2, D⟩, k1, k2, k3, k4⟩ := could_l hC0 hF hia (yn c) (y1 + x.toInt32) x.toInt32 JB
    dsimp only at k3 k4
    subst k3
    rw [k2, ob, k1]
    refine y2_bifL (zin_yn (by omega) (by omega)) (y2_bifR (zin_yn (by omega) (by omega)) ?_)
    obtain ⟨⟨-, h74⟩, -⟩ := k4.2.2.1 i hia
    dsimp only
    refine y2_ite (by rw [j_pos hsh, h74]) (fun _ => y2_some rfl) fun _ => ?_
    rw [ob]
    refine y2_ite (by rw [j_le hsh]) (fun _ => ?_) fun _ => y2_some rfl
    obtain ⟨q1, q2⟩ := j_add (i := i) e3 hsh (by omega) e4 (by omega)
    exact y2_some ⟨a - (i + 1), by omega, i + 1, by omega, yn_succ i, yn_succ i, q1, q2, k4⟩
  · have : i = a := by omega
    subst this
    rw [if_pos (show A 1 0 ≤ yn i by rw [a1]; exact Int32.le_refl _), if_pos (show C 73 1 ≤ yn i by rw [b1]; exact Int32.le_refl _)]
    exact y2_some ⟨e3, hC0⟩
theorem c_judge {a w s nb : Nat} {A B : yI} {JA JB : yJ} (hb : nb ≤ 50) (hT : yTown a w s A B) (hF : yMF A w) (h : ySh nb A B JA JB) (v1 : Int32) : ∃ r B', f111_judge v1 A JA = some r ∧ f191_judge v1 B JB = some (r, B') := by
  have hT0 := hT
  obtain ⟨⟨⟨ha, hw, hs⟩, ⟨a1, a2, a3⟩, ⟨b1, b2, b3⟩⟩, -⟩ := hT
  unfold f111_judge f191_judge
  rw [f127_e, f210_e]
  simp only [ob, yb_ite0]
  by_cases hv : yIs 6 v1
  · rw [if_pos hv, if_pos hv]
    obtain ⟨i, hi, rfl⟩ := hv
    rw [zin_yn (by omega) (by omega), yn_nat (by omega), zshelf_yn hi]
    simp only [cond_true]
    rcases (h i hi).1 with q | q | ⟨t, m, q⟩
    · rw [(empty_e q).2, ob, if_neg (by decide), if_pos q.2.2.2]
      exact ⟨_, _, rfl, rfl⟩
    · rw [(body_e hb q).2.2, ob, if_neg (by decide), if_neg (body_b hb q).1, if_neg]
      · exact ⟨_, _, rfl, rfl⟩
      · intro z
        exact (body_b hb q).2 (by rw [z]; decide)
    · have r55 : f55_refusal (61 + 2 * i) 1 A = some (if 1 = t then 0 else -12) := (row_e q).2.2.2 1 (by omega)
      have ht := q.1
      have hm := q.2.1
      have hB3 : B 110 i = -3 ↔ 1 = t := by
        rw [q.2.2.2.2.2.1]
        have ht5 : t = 0 ∨ t = 1 ∨ t = 2 ∨ t = 3 ∨ t = 4 := by omega
        rcases ht5 with rfl | rfl | rfl | rfl | rfl <;> decide
      rw [r55, ob, if_neg (row_b q).1]
      by_cases et : 1 = t
      · rw [if_pos et, if_pos rfl, if_pos (hB3.mpr et)]
        subst et
        by_cases hsz : a ≤ m
        · rw [if_pos (show A 1 0 ≤ A (61 + 2 * i) 2 by rw [a1, q.2.2.2.2.1, yn_le (by omega) (by omega)]; exact hsz), if_pos (show B 73 1 ≤ B 111 i by rw [b1, q.2.2.2.2.2.2.1, yn_le (by omega) (by omega)]; exact hsz)]
          have key : y2 (zloopR (f112_judged_L5 (61 + 2 * i) A JA) 5000 ((0 : Int64), (0 : Int32))) (zloopR (f191_judge_L56 (yn i) JB) 5000 ((0 : Int32), (0 : Int32), B)) (yJQ a w s A) :=
            y2_loopR (yJI a w s A) (judge_step hF hi hsz hm q.2.2.2.2.1 (h i hi).2 q.2.2.2.2.2.2.2) 5000 a _ _ (by omega) ⟨0, by omega, rfl, rfl, show (0 : Int64).toInt = (0 : Int32).toInt by decide, show -32768 * ((0 : Nat) : Int) ≤ (0 : Int64).toInt ∧ (0 : Int64).toInt ≤ 32768 * ((0 : Nat) : Int) by decide, hT0⟩
          unfold f112_judged
          obtain ⟨y, y', k1, k2, k3⟩ := key
          rw [k1, k2]
          rcases y with x | x <;> rcases y' with x' | x'
          · have k3 : x = x'.1 := k3
            subst k3
            exact ⟨_, _, rfl, rfl⟩
          · exact absurd k3 id
          · exact absurd k3 id
          · obtain ⟨k4, k5⟩ := k3
            show ∃ r B', (Option.bind (Option.bind (f73_people A) fun t12 => if lg_cmp x.1 t12.toInt64 ≤ 0 then some (-2) else some 9) fun t7 => some t7) = some r ∧ (Option.bind (f183_wanting 0 x'.2.2) fun t25 => Option.bind (f183_wanting 1 x'.2.2) fun t27 => if x'.1 ≤ t25 + t27 then some (-2, x'.2.2) else some (9, x'.2.2)) = some (r, B')
            unfold f73_people
            rw [f183_e k5, f183_e k5, f74_e a3 hs, f74_e a3 hs]
            simp only [ob]
            by_cases c : x'.1 ≤ ywant A 0 s + ywant A 1 s
            · rw [if_pos c, if_pos ((j_le k4).mpr c)]
              exact ⟨_, _, rfl, rfl⟩
            · rw [if_neg c, if_neg (fun z => c ((j_le k4).mp z))]
              exact ⟨_, _, rfl, rfl⟩
        · rw [if_neg (show ¬ A 1 0 ≤ A (61 + 2 * i) 2 by rw [a1, q.2.2.2.2.1, yn_le (by omega) (by omega)]; exact hsz), if_neg (show ¬ B 73 1 ≤ B 111 i by rw [b1, q.2.2.2.2.2.2.1, yn_le (by omega) (by omega)]; exact hsz)]
          exact ⟨_, _, rfl, rfl⟩
      · rw [if_neg et, if_neg (by decide), if_neg (fun z => et (hB3.mp z))]
        exact ⟨_, _, rfl, rfl⟩
  · rw [if_neg hv, if_neg hv]
    exact ⟨_, _, rfl, rfl⟩
