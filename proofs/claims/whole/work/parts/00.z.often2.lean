/-! OFTEN, the call -/
def ybk (B B' : yI) : yI := fun b k => if b = 82 then B 82 k else B' b k
theorem ybk_ne (B B' : yI) {b k : Nat} (h : b ≠ 82) : ybk B B' b k = B' b k := if_neg h
/-- one strewing, alike -/
theorem c_strew {a s : Nat} {A B : yI} (h0 : 0 < a) (ha : a ≤ 4) (hs : s ≤ 8) (a1 : A 1 0 = yn a) (a3 : A 1 2 = yn s) (b1 : B 73 1 = yn a) (b3 : B 73 9 = yn s) (v2 v4 v5 sd : Int32) : y2 (f84_strew_39 sd A) (zloop (f185_often_L85 v2 v4 v5) 5000 (sd, (0 : Int32), B)) (fun x y => x.1 = y.1 ∧ (∀ b k, b ≠ 40 → x.2 b k = A b k) ∧ (∀ b k, ¬ (b = 82 ∧ k < s) → y.2.2 b k = B b k) ∧ ∀ k, k < s → y.2.2 82 k = x.2 40 k ∧ yIs a (x.2 40 k)) := by
  unfold f84_strew_39
  have a0 : ¬ yn a ≤ 0 := by
    show ¬ yn a ≤ yn 0
    rw [yn_le (by omega) (by omega)]; omega
  have a00 : ¬ yn a = 0 := fun z => by
    have := (yn_inj (a := a) (b := 0) (by omega) (by omega)).mp z
    omega
  have key : y2 (zloop f84_strew_39_L5 5000 (sd, (0 : Int32), A)) (zloop (f185_often_L85 v2 v4 v5) 5000 (sd, (0 : Int32), B)) (fun (x y : Int32 × Int32 × yI) => x.1 = y.1 ∧ (∀ b k, b ≠ 40 → x.2.2 b k = A b k) ∧ (∀ b k, ¬ (b = 82 ∧ k < s) → y.2.2 b k = B b k) ∧ ∀ k, k < s → y.2.2 82 k = x.2.2 40 k ∧ yIs a (x.2.2 40 k)) := by
    refine y2_for s (fun i (x y : Int32 × Int32 × yI) => x.2.1 = yn i ∧ y.2.1 = yn i ∧ x.1 = y.1 ∧ (∀ b k, b ≠ 40 → x.2.2 b k = A b k) ∧ (∀ b k, ¬ (b = 82 ∧ k < s) → y.2.2 b k = B b k) ∧ ∀ k, k < i → y.2.2 82 k = x.2.2 40 k ∧ yIs a (x.2.2 40 k)) (k := 0) ⟨rfl, rfl, rfl, fun _ _ _ => rfl, fun _ _ _ => rfl, fun k hk => absurd hk (Nat.not_lt_zero _)⟩ (by omega) (by omega) ?_ ?_
    · rintro i ⟨x1, x2, A'⟩ ⟨y1, y2', B'⟩ - hi ⟨p1, p2, p3, p4, p5, p6⟩
      dsimp only at p1 p2 p3 p4 p5 p6
      subst p1 p2 p3
      unfold f84_strew_39_L5 f185_often_L85
      have e1 : A' 1 0 = yn a := by rw [p4 1 0 (by omega)]; exact a1
      have e2 : A' 1 2 = yn s := by rw [p4 1 2 (by omega)]; exact a3
      have e3 : B' 73 1 = yn a := by rw [p5 73 1 (by omega)]; exact b1
      have e4 : B' 73 9 = yn s := by rw [p5 73 9 (by omega)]; exact b3
      have g : ¬ yn s ≤ yn i := by rw [yn_le (by omega) (by omega)]; omega
      have z8 : zin (yn i) 8 = true := zin_yn (by omega) (by omega)
      rw [if_neg (show ¬ A' 1 2 ≤ yn i by rw [e2]; exact g), if_neg (show ¬ A' 1 0 ≤ 0 by rw [e1]; exact a0), if_neg (show ¬ A' 1 0 = 0 by rw [e1]; exact a00), if_neg (show ¬ B' 73 9 ≤ yn i by rw [e4]; exact g), if_neg (show ¬ B' 73 1 = 0 by rw [e3]; exact a00)]
      refine y2_bifL z8 (y2_bifR z8 (y2_some ⟨yn_succ i, yn_succ i, rfl, fun b k hb => ?_, fun b k hb => ?_, fun k hk => ?_⟩))
      · dsimp only
        rw [zu_at, if_neg (fun z => hb z.1)]
        exact p4 b k hb
      · dsimp only
        rw [yn_nat (by omega), zu_at, if_neg (fun z => hb ⟨z.1, by omega⟩)]
        exact p5 b k hb
      · dsimp only
        rw [yn_nat (by omega), zu_at, zu_at, e1, e3]
        by_cases q : k = i
        · rw [if_pos ⟨rfl, q⟩, if_pos ⟨rfl, q⟩]
          exact ⟨rfl, rnd_yn h0 ha _⟩
        · rw [if_neg (fun z => q z.2), if_neg (fun z => q z.2)]
          exact p6 k (by omega)
    · rintro ⟨x1, x2, A'⟩ ⟨y1, y2', B'⟩ ⟨p1, p2, p3, p4, p5, p6⟩
      dsimp only at p1 p2 p3 p4 p5 p6
      subst p1 p2 p3
      unfold f84_strew_39_L5 f185_often_L85
      rw [if_pos (show A' 1 2 ≤ yn s by rw [p4 1 2 (by omega), a3]; exact Int32.le_refl _), if_pos (show B' 73 9 ≤ yn s by rw [p5 73 9 (by omega), b3]; exact Int32.le_refl _)]
      exact y2_some ⟨rfl, p4, p5, p6⟩
  obtain ⟨x, y, e1, e2, e3⟩ := key
  rw [e1, ob, e2]
  exact y2_some e3
