/-! THE REFERENCE'S RUN BEGINS -/
theorem begin2 {s : Nat} {B : yI} (v : Int32) (hs : s ≤ 8) (b3 : B 73 9 = yn s) (hh : ∀ k, k < s → yIs 4 (B 82 k)) : ∃ x1 x2 x3 : Int32 × yI, zloop (f171_goTo_L2 v) 5000 ((0 : Int32), B) = some x1 ∧ zloop (f171_goTo_L30 v) 5000 ((0 : Int32), x1.2) = some x2 ∧ zloop (f171_goTo_L52 v) 5000 ((0 : Int32), x2.2) = some x3 ∧ yfr [9799, 9899, 9999] B x3.2 ∧ (∀ c, c < 32 → x3.2 98 c = 0) ∧ (∀ i k, i < 4 → k < 8 → x3.2 97 (8 * i + k) = if k < s ∧ B 82 k = yn i then B 80 k else 0) ∧ ∀ j, j < 4864 → x3.2 99 j = 0 := by
  have l1 : yP (zloop (f171_goTo_L2 v) 5000 ((0 : Int32), B)) (fun x => yfr [9799, 9899] B x.2 ∧ ∀ c, c < 32 → x.2 97 c = 0 ∧ x.2 98 c = 0) := by
    refine yP_for 32 (fun i x => x.1 = yn i ∧ yfr [9799, 9899] B x.2 ∧ ∀ c, c < i → x.2 97 c = 0 ∧ x.2 98 c = 0) (k := 0) ⟨rfl, yfr_refl _, fun c hc => absurd hc (Nat.not_lt_zero _)⟩ (by omega) (by omega) ?_ ?_
    · rintro i x hi ⟨e1, e2, e3⟩
      unfold f171_goTo_L2
      rw [e1, yn_succ]
      refine yP_neg (by show ¬ yn 32 ≤ yn i
                        rw [yn_le (by omega) (by omega)]; omega) (yP_bif (zin_yn (by omega) (by omega)) (yP_bif (zin_yn (by omega) (by omega)) (yP_some ?_)))
      rw [yn_nat (n := i) (by omega)]
      refine ⟨rfl, yfr_zu rfl (yfr_zu rfl e2), fun c hc => ?_⟩
      simp only [zu_at]
      by_cases g : c = i
      · subst g; simp
      · simpa [g] using e3 c (by omega)
    · rintro x ⟨e1, e2, e3⟩
      unfold f171_goTo_L2
      rw [e1]
      exact yP_pos (Int32.le_refl _) (yP_some ⟨e2, e3⟩)
  obtain ⟨x1, e1, fr1, g1⟩ := l1
  have l2 : yP (zloop (f171_goTo_L30 v) 5000 ((0 : Int32), x1.2)) (fun x => yfr [9999] x1.2 x.2 ∧ ∀ c, c < 4864 → x.2 99 c = 0) := by
    refine yP_for 4864 (fun i x => x.1 = yn i ∧ yfr [9999] x1.2 x.2 ∧ ∀ c, c < i → x.2 99 c = 0) (k := 0) ⟨rfl, yfr_refl _, fun c hc => absurd hc (Nat.not_lt_zero _)⟩ (by omega) (by omega) ?_ ?_
    · rintro i x hi ⟨e1, e2, e3⟩
      unfold f171_goTo_L30
      rw [e1, yn_succ]
      refine yP_neg (by show ¬ yn 4864 ≤ yn i
                        rw [yn_le (by omega) (by omega)]; omega) (yP_bif (zin_yn (by omega) (by omega)) (yP_some ?_))
      rw [yn_nat (n := i) (by omega)]
      refine ⟨rfl, yfr_zu rfl e2, fun c hc => ?_⟩
      simp only [zu_at]
      by_cases g : c = i
      · subst g; simp
      · simpa [g] using e3 c (by omega)
    · rintro x ⟨e1, e2, e3⟩
      unfold f171_goTo_L30
      rw [e1]
      exact yP_pos (Int32.le_refl _) (yP_some ⟨e2, e3⟩)
  obtain ⟨x2, e2, fr2, g2⟩ := l2
  have l3 : yP (zloop (f171_goTo_L52 v) 5000 ((0 : Int32), x2.2)) (fun x => yfr [9799] x2.2 x.2 ∧ (∀ i k, i < 4 → k < 8 → x.2 97 (8 * i + k) = if k < s ∧ B 82 k = yn i then B 80 k else 0)) := by
    refine yP_for s (fun n x => x.1 = yn n ∧ yfr [9799] x2.2 x.2 ∧ (∀ i k, i < 4 → k < 8 → x.2 97 (8 * i + k) = if k < n ∧ B 82 k = yn i then B 80 k else 0)) (k := 0) ⟨rfl, yfr_refl _, fun i k hi hk => ?_⟩ (by omega) (by omega) ?_ ?_
    · dsimp only
      rw [if_neg (by omega), fr2 97 _ rfl]
      exact (g1 _ (by omega)).1
    · rintro n x hn ⟨e1, e2, e3⟩
      obtain ⟨h, hh4, eh⟩ := hh n hn
      have xh : x.2 82 n = yn h := by rw [e2 82 n rfl, fr2 82 n rfl, fr1 82 n rfl]; exact eh
      have x8 : x.2 80 n = B 80 n := by rw [e2 80 n rfl, fr2 80 n rfl, fr1 80 n rfl]
      unfold f171_goTo_L52
      have ix : 8 * yn h + yn n = yn (8 * h + n) := by
        show yn 8 * yn h + yn n = _
        rw [yn_mul, yn_add]
      rw [e1, yn_succ, yn_nat (n := n) (by omega), xh, x8, ix]
      refine yP_neg (by rw [e2 73 9 rfl, fr2 73 9 rfl, fr1 73 9 rfl, b3, yn_le (by omega) (by omega)]; omega) (yP_bif (zin_yn (by omega) (by omega)) (yP_bif (zin_yn (by omega) (by omega)) (yP_bif (zin_yn (by omega) (by omega)) (yP_some ?_))))
      rw [yn_nat (n := 8 * h + n) (by omega)]
      refine ⟨rfl, yfr_zu rfl e2, fun i k hi hk => ?_⟩
      simp only [zu_at]
      by_cases g : 8 * i + k = 8 * h + n
      · have gi : i = h := by omega
        have gk : k = n := by omega
        subst gi gk
        rw [if_pos ⟨trivial, rfl⟩, if_pos ⟨by omega, eh⟩]
      · rw [if_neg (fun z => g z.2), e3 i k hi hk]
        by_cases g2 : k < n ∧ B 82 k = yn i
        · rw [if_pos g2, if_pos ⟨by omega, g2.2⟩]
        · rw [if_neg g2, if_neg]
          rintro ⟨q1, q2⟩
          by_cases gk : k = n
          · subst gk
            rw [eh, yn_inj (by omega) (by omega)] at q2
            omega
          · exact g2 ⟨by omega, q2⟩
    · rintro x ⟨e1, e2, e3⟩
      unfold f171_goTo_L52
      rw [e1]
      exact yP_pos (by rw [e2 73 9 rfl, fr2 73 9 rfl, fr1 73 9 rfl, b3]; exact Int32.le_refl _) (yP_some ⟨e2, e3⟩)
  obtain ⟨x3, e3, fr3, g3⟩ := l3
  refine ⟨x1, x2, x3, e1, e2, e3, yfr_trans _ _ _ (yfr_trans _ _ _ (yfr_mono rfl fr1) (yfr_mono rfl fr2)) (yfr_mono rfl fr3), fun c hc => ?_, g3, fun j hj => ?_⟩
  · rw [fr3 98 c rfl, fr2 98 c rfl]
    exact (g1 c hc).2
  · rw [fr3 99 j rfl]
    exact g2 j hj
/-- a minute's cells are kept -/
theorem kept_l {B : yI} {t : Nat} (v : Int32) (ht : t ≤ 60) : yP (zloop (f171_goTo_L141 v (yn t)) 5000 ((0 : Int32), B)) (fun x => yfr [10099] B x.2 ∧ (∀ e, e < 32 → x.2 100 (32 * t + e) = B 97 e) ∧ ∀ e, e < 32 * t → x.2 100 e = B 100 e) := by
  refine yP_for 32 (fun i x => x.1 = yn i ∧ yfr [10099] B x.2 ∧ (∀ e, e < i → x.2 100 (32 * t + e) = B 97 e) ∧ ∀ e, e < 32 * t → x.2 100 e = B 100 e) (k := 0) ⟨rfl, yfr_refl _, fun c hc => absurd hc (Nat.not_lt_zero _), fun _ _ => rfl⟩ (by omega) (by omega) ?_ ?_
  · rintro i x hi ⟨e1, e2, e3, e4⟩
    unfold f171_goTo_L141
    have ix : 32 * yn t + yn i = yn (32 * t + i) := by
      show yn 32 * yn t + yn i = _
      rw [yn_mul, yn_add]
    rw [e1, yn_succ, ix]
    refine yP_neg (by show ¬ yn 32 ≤ yn i
                      rw [yn_le (by omega) (by omega)]; omega) (yP_bif (zin_yn (by omega) (by omega)) (yP_bif (zin_yn (by omega) (by omega)) (yP_some ?_)))
    rw [yn_nat (n := i) (by omega), yn_nat (n := 32 * t + i) (by omega)]
    refine ⟨rfl, yfr_zu rfl e2, fun c hc => ?_, fun c hc => ?_⟩
    · dsimp only
      by_cases g : c = i
      · subst g
        rw [zu_same, e2 97 c rfl]
      · rw [zu_nej (by omega)]
        exact e3 c (by omega)
    · dsimp only
      rw [zu_nej (by omega)]
      exact e4 c hc
  · rintro x ⟨e1, e2, e3⟩
    unfold f171_goTo_L141
    rw [e1]
    exact yP_pos (Int32.le_refl _) (yP_some ⟨e2, e3⟩)
theorem kept_l2 {B : yI} {t : Nat} (ht : t ≤ 60) : yP (zloop (f171_goTo_L183 (yn t)) 5000 ((0 : Int32), B)) (fun x => yfr [10099] B x.2 ∧ (∀ e, e < 32 → x.2 100 (32 * t + e) = B 97 e) ∧ ∀ e, e < 32 * t → x.2 100 e = B 100 e) := kept_l (yn t) ht
