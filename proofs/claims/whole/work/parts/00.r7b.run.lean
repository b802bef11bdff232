/-! A RUN, noon 38: the beginning -/
theorem begin1T {a w s S : Nat} {A B : yI} (hT : yTw a w s A B) (hW : yWishT a s S A B) : yP (f41_begin_38 A) (fun A' => yfr w_f41_begin_38 A A' ∧ (∀ c, c < 32 → A' 43 c = 0 ∧ A' 44 c = 200) ∧ (∀ i k, i < 4 → k < 8 → A' 42 (8 * i + k) = if k < s ∧ A 40 k = yn i then A 8 k else 0) ∧ (∀ j, j < 32 * (S + 1) → A' 46 j = 0) ∧ (∀ i, i < 4 → A' 45 i = ystT A i + ysum (fun k => A' 42 (8 * i + k)) s) ∧ A' 38 13 = A 1 0 ∧ A' 38 14 = A 1 2) := by
  obtain ⟨⟨⟨ha, hw, hs⟩, ⟨a1, a2, a3⟩, -⟩, -⟩ := hT
  obtain ⟨⟨w0, w1, w2⟩, -, ⟨⟨sq, hsq, esq⟩, -⟩, -, wh, -⟩ := hW
  unfold f41_begin_38
  obtain ⟨A0, hA0⟩ : ∃ z, z = zu (zu A 38 13 (A 1 0)) 38 14 (A 1 2) := ⟨_, rfl⟩
  have fr0 : yfr w_f41_begin_38 A A0 := by rw [hA0]; exact yfr_zu rfl (yfr_zu rfl (yfr_refl _))
  have h13 : A0 38 13 = A 1 0 := by rw [hA0]; simp [zu_at]
  have h14 : A0 38 14 = A 1 2 := by rw [hA0]; simp [zu_at]
  rw [← hA0]
  clear hA0
  -- cells
  have l1 : yP (zloop f41_begin_38_L24 5000 ((0 : Int32), A0)) (fun x => yfr [4299, 4399, 4499] A0 x.2 ∧ ∀ c, c < 32 → x.2 42 c = 0 ∧ x.2 43 c = 0 ∧ x.2 44 c = 200) := by
    refine yP_for 32 (fun i x => x.1 = yn i ∧ yfr [4299, 4399, 4499] A0 x.2 ∧ ∀ c, c < i → x.2 42 c = 0 ∧ x.2 43 c = 0 ∧ x.2 44 c = 200) (k := 0) ⟨rfl, yfr_refl _, fun c hc => absurd hc (Nat.not_lt_zero _)⟩ (by omega) (by omega) ?_ ?_
    · rintro i x hi ⟨e1, e2, e3⟩
      unfold f41_begin_38_L24
      rw [e1, yn_succ]
      refine yP_neg (by show ¬ yn 32 ≤ yn i
                        rw [yn_le (by omega) (by omega)]; omega) (yP_bif (zin_yn (by omega) (by omega)) (yP_bif (zin_yn (by omega) (by omega)) (yP_bif (zin_yn (by omega) (by omega)) (yP_some ?_))))
      rw [yn_nat (n := i) (by omega)]
      refine ⟨rfl, yfr_zu rfl (yfr_zu rfl (yfr_zu rfl e2)), fun c hc => ?_⟩
      simp only [zu_at]
      by_cases g : c = i
      · subst g; simp
      · simpa [g] using e3 c (by omega)
    · rintro x ⟨e1, e2, e3⟩
      unfold f41_begin_38_L24
      rw [e1]
      exact yP_pos (Int32.le_refl _) (yP_some ⟨e2, e3⟩)
  refine yP_bind (yP_mono l1 ?_)
  rintro x1 ⟨fr1, g1⟩
  have f1 : yfr w_f41_begin_38 A x1.2 := yfr_trans _ _ _ fr0 (yfr_mono rfl fr1)
  -- due
  have l2 : yP (zloop f41_begin_38_L61 5000 ((0 : Int32), x1.2)) (fun x => yfr [4699] x1.2 x.2 ∧ ∀ j, j < 32 * (S + 1) → x.2 46 j = 0) := by
    refine yP_for (32 * (S + 1)) (fun i x => x.1 = yn i ∧ yfr [4699] x1.2 x.2 ∧ ∀ c, c < i → x.2 46 c = 0) (k := 0) ⟨rfl, yfr_refl _, fun c hc => absurd hc (Nat.not_lt_zero _)⟩ (by omega) (by omega) ?_ ?_
    · rintro i x hi ⟨e1, e2, e3⟩
      unfold f41_begin_38_L61
      have eS : (x.2 39 0 + 1) * 32 = yn (32 * (S + 1)) := by
        rw [e2 39 0 rfl, f1 39 0 rfl, w0, yn_succ]
        show yn (S + 1) * yn 32 = _
        rw [yn_mul]; congr 1; omega
      rw [e1, yn_succ]
      refine yP_neg (by rw [eS, yn_le (by omega) (by omega)]; omega) (yP_bif (zin_yn (by omega) (by omega)) (yP_some ?_))
      rw [yn_nat (n := i) (by omega)]
      refine ⟨rfl, yfr_zu rfl e2, fun c hc => ?_⟩
      simp only [zu_at]
      by_cases g : c = i
      · subst g; simp
      · simpa [g] using e3 c (by omega)
    · rintro x ⟨e1, e2, e3⟩
      unfold f41_begin_38_L61
      have eS : (x.2 39 0 + 1) * 32 = yn (32 * (S + 1)) := by
        rw [e2 39 0 rfl, f1 39 0 rfl, w0, yn_succ]
        show yn (S + 1) * yn 32 = _
        rw [yn_mul]; congr 1; omega
      rw [e1]
      exact yP_pos (by rw [eS]; exact Int32.le_refl _) (yP_some ⟨e2, e3⟩)
  refine yP_bind (yP_mono l2 ?_)
  rintro x2 ⟨fr2, g2⟩
  -- all
  have l3 : yP (zloop f41_begin_38_L92 5000 ((0 : Int32), x2.2)) (fun x => yfr [4599] x2.2 x.2 ∧ ∀ j, j < 4 → x.2 45 j = 0) := by
    refine yP_for 4 (fun i x => x.1 = yn i ∧ yfr [4599] x2.2 x.2 ∧ ∀ c, c < i → x.2 45 c = 0) (k := 0) ⟨rfl, yfr_refl _, fun c hc => absurd hc (Nat.not_lt_zero _)⟩ (by omega) (by omega) ?_ ?_
    · rintro i x hi ⟨e1, e2, e3⟩
      unfold f41_begin_38_L92
      rw [e1, yn_succ]
      refine yP_neg (by show ¬ yn 4 ≤ yn i
                        rw [yn_le (by omega) (by omega)]; omega) (yP_bif (zin_yn (by omega) (by omega)) (yP_some ?_))
      rw [yn_nat (n := i) (by omega)]
      refine ⟨rfl, yfr_zu rfl e2, fun c hc => ?_⟩
      simp only [zu_at]
      by_cases g : c = i
      · subst g; simp
      · simpa [g] using e3 c (by omega)
    · rintro x ⟨e1, e2, e3⟩
      unfold f41_begin_38_L92
      rw [e1]
      exact yP_pos (Int32.le_refl _) (yP_some ⟨e2, e3⟩)
  refine yP_bind (yP_mono l3 ?_)
  rintro x3 ⟨fr3, g3⟩
  have f3 : yfr w_f41_begin_38 A x3.2 := yfr_trans _ _ _ (yfr_trans _ _ _ f1 (yfr_mono rfl fr2)) (yfr_mono rfl fr3)
  have c28 : ∀ c, c < 32 → x3.2 42 c = 0 := fun c hc => by rw [fr3 42 c rfl, fr2 42 c rfl]; exact (g1 c hc).1
  -- homes
  have l4 : yP (zloop f41_begin_38_L112 5000 ((0 : Int32), x3.2)) (fun x => yfr [4299, 4599] x3.2 x.2 ∧ (∀ i k, i < 4 → k < 8 → x.2 42 (8 * i + k) = if k < s ∧ A 40 k = yn i then A 8 k else 0) ∧ ∀ i, i < 4 → x.2 45 i = ysum (fun k => x.2 42 (8 * i + k)) s) := by
    refine yP_for s (fun n x => x.1 = yn n ∧ yfr [4299, 4599] x3.2 x.2 ∧ (∀ i k, i < 4 → k < 8 → x.2 42 (8 * i + k) = if k < n ∧ A 40 k = yn i then A 8 k else 0) ∧ ∀ i, i < 4 → x.2 45 i = ysum (fun k => x.2 42 (8 * i + k)) s) (k := 0) ⟨rfl, yfr_refl _, fun i k hi hk => by rw [if_neg (by omega)]; exact c28 _ (by omega), fun i hi => ?_⟩ (by omega) (by omega) ?_ ?_
    · dsimp only
      rw [g3 i hi, ysum_zero (n := s) (m := 0) (by omega) (fun j _ hj => c28 _ (by omega))]
      rfl
    · rintro n x hn ⟨e1, e2, e3, e4⟩
      obtain ⟨-, h, hh, eh⟩ := wh n hn
      have xh : x.2 40 n = yn h := by rw [e2 40 n rfl, f3 40 n rfl]; exact eh
      have x8 : x.2 8 n = A 8 n := by rw [e2 8 n rfl, f3 8 n rfl]
      unfold f41_begin_38_L112
      have ix : yn h * 8 + yn n = yn (8 * h + n) := by
        show yn h * yn 8 + yn n = _
        rw [yn_mul, yn_add]; congr 1; omega
      rw [e1, yn_succ, yn_nat (n := n) (by omega), xh, x8, ix]
      refine yP_neg (by rw [e2 1 2 rfl, f3 1 2 rfl, a3, yn_le (by omega) (by omega)]; omega) (yP_bif (zin_yn (by omega) (by omega)) (yP_bif (zin_yn (by omega) (by omega)) (yP_bif (zin_yn (by omega) (by omega)) (yP_bif (zin_yn (by omega) (by omega)) (yP_bif (zin_yn (by omega) (by omega)) (yP_bif (zin_yn (by omega) (by omega)) (yP_bif (zin_yn (by omega) (by omega)) (yP_some ?_))))))))
      rw [yn_nat (n := 8 * h + n) (by omega), yn_nat (n := h) (by omega)]
      have z28 : ∀ c, (zu (zu x.2 42 (8 * h + n) (A 8 n)) 45 h (x.2 45 h + A 8 n)) 42 c = if c = 8 * h + n then A 8 n else x.2 42 c := fun c => by simp [zu_at]
      have old : x.2 42 (8 * h + n) = 0 := by rw [e3 h n (by omega) (by omega), if_neg (by omega)]
      refine ⟨rfl, yfr_zu rfl (yfr_zu rfl e2), fun i k hi hk => ?_, fun i hi => ?_⟩
      · dsimp only
        rw [z28]
        by_cases g : 8 * i + k = 8 * h + n
        · have gi : i = h := by omega
          have gk : k = n := by omega
          subst gi gk
          rw [if_pos rfl, if_pos ⟨by omega, eh⟩]
        · rw [if_neg g, e3 i k hi hk]
          by_cases g2 : k < n ∧ A 40 k = yn i
          · rw [if_pos g2, if_pos ⟨by omega, g2.2⟩]
          · rw [if_neg g2, if_neg]
            rintro ⟨q1, q2⟩
            by_cases gk : k = n
            · subst gk
              rw [eh, yn_inj (by omega) (by omega)] at q2
              omega
            · exact g2 ⟨by omega, q2⟩
      · dsimp only
        by_cases g : i = h
        · subst g
          have : ysum (fun k => (zu (zu x.2 42 (8 * i + n) (A 8 n)) 45 i (x.2 45 i + A 8 n)) 42 (8 * i + k)) s = ysum (fun k => x.2 42 (8 * i + k)) s + A 8 n := by
            rw [← ysum_add (f := fun k => x.2 42 (8 * i + k)) (d := A 8 n) hn]
            refine ysum_congr fun k hk => ?_
            rw [z28]
            by_cases gk : k = n
            · subst gk
              rw [if_pos rfl, if_pos rfl, old, Int32.zero_add]
            · rw [if_neg (by omega), if_neg gk]
          rw [this, zu_same, e4 i hi]
        · have : ysum (fun k => (zu (zu x.2 42 (8 * h + n) (A 8 n)) 45 h (x.2 45 h + A 8 n)) 42 (8 * i + k)) s = ysum (fun k => x.2 42 (8 * i + k)) s := by
            refine ysum_congr fun k hk => ?_
            rw [z28, if_neg (by omega)]
          rw [this, zu_nej g, zu_ne (by decide), e4 i hi]
    · rintro x ⟨e1, e2, e3, e4⟩
      unfold f41_begin_38_L112
      rw [e1]
      exact yP_pos (by rw [e2 1 2 rfl, f3 1 2 rfl, a3]; exact Int32.le_refl _) (yP_some ⟨e2, e3, e4⟩)
  refine yP_bind (yP_mono l4 ?_)
  rintro x4 ⟨fr4, g4, g5⟩
  have f4 : yfr w_f41_begin_38 A x4.2 := yfr_trans _ _ _ f3 (yfr_mono rfl fr4)
  have q2 : x4.2 39 2 = yn sq := by rw [f4 39 2 rfl]; exact esq
  have q3 : x4.2 39 3 = A 39 3 := f4 39 3 rfl
  rw [q2, q3, yn_nat (by omega)]
  refine yP_bif (zin_yn (by omega) (by omega)) (yP_bif (zin_yn (by omega) (by omega)) (yP_some ⟨yfr_zu rfl f4, fun c hc => ?_, fun i k hi hk => ?_, fun j hj => ?_, fun i hi => ?_, ?_, ?_⟩))
  · rw [zu_ne (by decide), zu_ne (by decide), fr4 43 c rfl, fr4 44 c rfl, fr3 43 c rfl, fr3 44 c rfl, fr2 43 c rfl, fr2 44 c rfl]
    exact (g1 c hc).2
  · rw [zu_ne (by decide)]
    exact g4 i k hi hk
  · rw [zu_ne (by decide), fr4 46 j rfl, fr3 46 j rfl]
    exact g2 j hj
  · have : ysum (fun k => (zu x4.2 45 sq (x4.2 45 sq + A 39 3)) 42 (8 * i + k)) s = ysum (fun k => x4.2 42 (8 * i + k)) s := ysum_congr fun k _ => zu_ne (by decide)
    rw [this]
    unfold ystT
    rw [esq]
    by_cases g : i = sq
    · subst g
      rw [zu_same, if_pos rfl, g5 i hi, Int32.add_comm]
    · rw [zu_nej g, g5 i hi, if_neg (fun z => g (by rw [yn_inj (by omega) (by omega)] at z; exact z.symm)), Int32.zero_add]
  · rw [zu_ne (by decide), fr4 38 13 rfl, fr3 38 13 rfl, fr2 38 13 rfl, fr1 38 13 rfl]; exact h13
  · rw [zu_ne (by decide), fr4 38 14 rfl, fr3 38 14 rfl, fr2 38 14 rfl, fr1 38 14 rfl]; exact h14
