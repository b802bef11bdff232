/-! A RUN, noon 24: what is fullest -/
def ynx (c : Nat → Int32) (fu : Nat) : Nat → Int32
  | 0 => 0
  | n + 1 => if n = fu then ynx c fu n else zmax (ynx c fu n) (c n)
def yaw (A : yI) (p : Int32) : Nat → Int32
  | 0 => p
  | n + 1 => yaw A p n - A 31 n
theorem counts {a w s S ea : Nat} {A B : yI} (ha0 : 0 < a) (hT : yTw a w s A B) (hW : yWish a s S A B) (hC : ∀ c, c < 32 → B 97 c = A 33 (32 * S + c)) (hS60 : S ≤ 60) (hea : ea ≤ 20) (eea : A 1 5 = yn ea) (hE : ∀ t c, t < S + 1 → c < 32 → B 100 (32 * t + c) = A 33 (32 * t + c) ∧ ∃ x, x ≤ 200 ∧ A 33 (32 * t + c) = yn x) : yP (f173_counts (yn S) B) (fun B' => (∀ i, i < a → B' 103 i = ycnt A S ea s i) ∧ B' 73 53 = yn (yful (ycnt A S ea s) a) ∧ B' 73 52 = A 3 (yful (ycnt A S ea s) a) ∧ B' 73 54 = ycnt A S ea s (yful (ycnt A S ea s) a) - ynx (ycnt A S ea s) (yful (ycnt A S ea s) a) a) := by
  obtain ⟨⟨⟨ha, hw, hs⟩, ⟨a1, a2, a3⟩, ⟨b1, b2, b3⟩⟩, -, hSq, -⟩ := id hT
  unfold f173_counts
  have l1 : yP (zloop (f173_counts_L2 (yn S)) 5000 ((0 : Int32), B)) (fun x => yfr [10399] B x.2 ∧ ∀ i, i < a → x.2 103 i = ycnt A S ea s i) := by
    refine yP_for a (fun n x => x.1 = yn n ∧ yfr [10399] B x.2 ∧ ∀ i, i < n → x.2 103 i = ycnt A S ea s i) (k := 0) ⟨rfl, yfr_refl _, fun i hi => absurd hi (Nat.not_lt_zero _)⟩ (by omega) (by omega) ?_ ?_
    · rintro n x hn ⟨e1, fr, e3⟩
      unfold f173_counts_L2
      rw [e1, yn_succ]
      refine yP_neg (by rw [fr 73 1 rfl, b1, yn_le (by omega) (by omega)]; omega) ?_
      have k := count (A := A) (B := x.2) (i := n) (yTw_ag (yag_refl _) (yag_fr rfl fr) hT) (yWish_ag (yag_refl _) (yag_fr rfl fr) hW) (fun c hc => by rw [fr 97 c rfl]; exact hC c hc) hS60 hn hea eea (fun t c ht hc => by rw [fr 100 _ rfl]; exact hE t c ht hc)
      refine yP_bind (yP_mono k ?_)
      rintro y ⟨g1, g2, g3⟩
      refine yP_some ⟨rfl, yfr_trans _ _ _ fr g1, fun i hi => ?_⟩
      dsimp only
      by_cases q : i = n
      · subst q; exact g3
      · rw [g2 i q]; exact e3 i (by omega)
    · rintro x ⟨e1, fr, e3⟩
      unfold f173_counts_L2
      rw [e1]
      exact yP_pos (by rw [fr 73 1 rfl, b1]; exact Int32.le_refl _) (yP_some ⟨fr, e3⟩)
  refine yP_bind (yP_mono l1 ?_)
  rintro x1 ⟨fr1, g1⟩
  have l2 : yP (zloop f173_counts_L29 5000 ((1 : Int32), zu x1.2 73 53 0)) (fun x => yfr [7353] x1.2 x.2 ∧ x.2 73 53 = yn (yful (ycnt A S ea s) a)) := by
    refine yP_for a (fun n x => x.1 = yn n ∧ 1 ≤ n ∧ yfr [7353] x1.2 x.2 ∧ x.2 73 53 = yn (yful (ycnt A S ea s) n)) (k := 1) ⟨rfl, by omega, yfr_zu rfl (yfr_refl _), by rw [ful1]; dsimp only; exact zu_same _ _ _ _⟩ (by omega) (by omega) ?_ ?_
    · rintro n x hn ⟨e1, e0, fr, e3⟩
      have hf := yful_lt (f := ycnt A S ea s) (n := n) (by omega)
      unfold f173_counts_L29
      rw [e1, yn_succ]
      refine yP_neg (by rw [fr 73 1 rfl, fr1 73 1 rfl, b1, yn_le (by omega) (by omega)]; omega) (yP_bif (zin_yn (by omega) (by omega)) (yP_bif (by rw [e3]; exact zin_yn (by omega) (by omega)) ?_))
      have v1 : x.2 103 n = ycnt A S ea s n := by rw [fr 103 n rfl]; exact g1 n hn
      have v2 : x.2 103 (yful (ycnt A S ea s) n) = ycnt A S ea s (yful (ycnt A S ea s) n) := by rw [fr 103 _ rfl]; exact g1 _ (by omega)
      have st : yful (ycnt A S ea s) (n + 1) = if ycnt A S ea s (yful (ycnt A S ea s) n) < ycnt A S ea s n then n else yful (ycnt A S ea s) n := rfl
      rw [yn_nat (n := n) (by omega), v1, e3, yn_nat (n := yful (ycnt A S ea s) n) (by omega), v2, st]
      refine yP_ite (fun c => yP_some ⟨rfl, by omega, fr, ?_⟩) (fun c => yP_some ⟨rfl, by omega, yfr_zu rfl fr, ?_⟩)
      · rw [if_neg (Int32.not_lt.mpr c)]; exact e3
      · rw [if_pos (Int32.not_le.mp c)]; dsimp only; exact zu_same _ _ _ _
    · rintro x ⟨e1, e0, fr, e3⟩
      unfold f173_counts_L29
      rw [e1]
      exact yP_pos (by rw [fr 73 1 rfl, fr1 73 1 rfl, b1]; exact Int32.le_refl _) (yP_some ⟨fr, e3⟩)
  refine yP_bind (yP_mono l2 ?_)
  rintro x2 ⟨fr2, g2⟩
  have hf := yful_lt (f := ycnt A S ea s) (n := a) ha0
  have v103 : ∀ i, i < a → x2.2 103 i = ycnt A S ea s i := fun i hi => by rw [fr2 103 i rfl]; exact g1 i hi
  have l3 : yP (zloop (f173_counts_L70 x2.2) 5000 ((0 : Int32), (0 : Int32))) (fun x => x.1 = ynx (ycnt A S ea s) (yful (ycnt A S ea s) a) a) := by
    refine yP_for a (fun n x => x.1 = ynx (ycnt A S ea s) (yful (ycnt A S ea s) a) n ∧ x.2 = yn n) (k := 0) ⟨rfl, rfl⟩ (by omega) (by omega) ?_ ?_
    · rintro n x hn ⟨e1, e2⟩
      unfold f173_counts_L70
      rw [e2, e1, g2, yn_succ]
      have st : ynx (ycnt A S ea s) (yful (ycnt A S ea s) a) (n + 1) = if n = yful (ycnt A S ea s) a then ynx (ycnt A S ea s) (yful (ycnt A S ea s) a) n else zmax (ynx (ycnt A S ea s) (yful (ycnt A S ea s) a) n) (ycnt A S ea s n) := rfl
      refine yP_neg (by rw [fr2 73 1 rfl, fr1 73 1 rfl, b1, yn_le (by omega) (by omega)]; omega) ?_
      by_cases c : n = yful (ycnt A S ea s) a
      · refine yP_pos (by rw [← c]) (yP_some ⟨?_, rfl⟩)
        rw [st, if_pos c]
      · refine yP_neg (by rw [yn_inj (by omega) (by omega)]; exact c) (yP_bif (zin_yn (by omega) (by omega)) ?_)
        rw [yn_nat (n := n) (by omega), v103 n hn, st, if_neg c]
        unfold zmax
        refine yP_ite (fun q => yP_some ⟨?_, rfl⟩) (fun q => yP_bif (zin_yn (by omega) (by omega)) (yP_some ⟨?_, rfl⟩))
        · rw [if_neg (Int32.not_lt.mpr q)]
        · rw [if_pos (Int32.not_le.mp q)]
    · rintro x ⟨e1, e2⟩
      unfold f173_counts_L70
      rw [e2]
      exact yP_pos (by rw [fr2 73 1 rfl, fr1 73 1 rfl, b1]; exact Int32.le_refl _) (yP_some e1)
  refine yP_bind (yP_mono l3 ?_)
  rintro x3 g3
  rw [g2, yn_nat (by omega), g3, v103 _ hf]
  refine yP_bif (zin_yn (by omega) (by omega)) (yP_bif (zin_yn (by omega) (by omega)) (yP_some ⟨fun i hi => ?_, ?_, ?_, ?_⟩))
  · simpa [zu_at] using v103 i hi
  · simpa [zu_at] using g2
  · rw [zu_same, fr2 75 _ rfl, fr1 75 _ rfl]
    exact (hSq _ hf).2.2
  · simp [zu_at]
theorem tally {a w s S ea : Nat} {A B : yI} (ha0 : 0 < a) (hT : yTw a w s A B) (hW : yWish a s S A B) (hS60 : S ≤ 60) (hea : ea ≤ 20) (eea : A 1 5 = yn ea) (h30 : ∀ c, c < 32 → A 30 c = ylst A S ea c (S + 1)) (hZ : ∀ i k, i < 4 → k < 8 → s ≤ k → ylst A S ea (8 * i + k) (S + 1) = 0) : yP (f49_tally_24 A) (fun A' => (∀ i, i < 4 → A' 37 i = ycnt A S ea s i) ∧ A' 24 16 = yn (yful (ycnt A S ea s) a) ∧ A' 24 17 = A 3 (yful (ycnt A S ea s) a) ∧ A' 24 18 = ycnt A S ea s (yful (ycnt A S ea s) a) - ynx (ycnt A S ea s) (yful (ycnt A S ea s) a) a ∧ A' 24 19 = yaw A (ywant A 0 s + ywant A 1 s + A 25 3) 4) := by
  obtain ⟨⟨⟨ha, hw, hs⟩, ⟨a1, a2, a3⟩, ⟨b1, b2, b3⟩⟩, -, hSq, -⟩ := id hT
  obtain ⟨-, -, ⟨⟨sq, hsq, esq⟩, -⟩, -⟩ := id hW
  unfold f49_tally_24 f73_people
  rw [f74_e a3 hs, f74_e a3 hs]
  simp only [ob]
  have l1 : yP (zloop f49_tally_24_L21 5000 ((0 : Int32), zu A 24 19 (ywant A 0 s + ywant A 1 s + A 25 3))) (fun x => yfr [2419, 3799] A x.2 ∧ (∀ i, i < 4 → x.2 37 i = ycnt A S ea s i) ∧ x.2 24 19 = yaw A (ywant A 0 s + ywant A 1 s + A 25 3) 4) := by
    refine yP_for 4 (fun n x => x.1 = yn n ∧ yfr [2419, 3799] A x.2 ∧ (∀ i, i < n → x.2 37 i = ycnt A S ea s i) ∧ x.2 24 19 = yaw A (ywant A 0 s + ywant A 1 s + A 25 3) n) (k := 0) ⟨rfl, yfr_zu rfl (yfr_refl _), fun i hi => absurd hi (Nat.not_lt_zero _), by dsimp only; exact zu_same _ _ _ _⟩ (by omega) (by omega) ?_ ?_
    · rintro n x hn ⟨e1, fr, e3, e4⟩
      have inner : ∀ r0 : Int32, yP (zloop (f49_tally_24_L56 (yn n)) 5000 ((0 : Int32), zu x.2 37 n r0)) (fun y => yfr [3799] x.2 y.2 ∧ (∀ j, j ≠ n → y.2 37 j = x.2 37 j) ∧ y.2 37 n = r0 + ysum (fun k => ylst A S ea (8 * n + k) (S + 1)) s) := by
        intro r0
        have e8 : ysum (fun k => ylst A S ea (8 * n + k) (S + 1)) s = ysum (fun k => ylst A S ea (8 * n + k) (S + 1)) 8 := (ysum_zero (n := 8) (m := s) (by omega) (fun j h1 h2 => hZ n j hn h2 h1)).symm
        rw [e8]
        refine yP_for 8 (fun k y => y.1 = yn k ∧ yfr [3799] x.2 y.2 ∧ (∀ j, j ≠ n → y.2 37 j = x.2 37 j) ∧ y.2 37 n = r0 + ysum (fun k => ylst A S ea (8 * n + k) (S + 1)) k) (k := 0) ⟨rfl, yfr_zu rfl (yfr_refl _), fun j hj => by dsimp only; exact zu_nej hj, ?_⟩ (by omega) (by omega) ?_ ?_
        · dsimp only
          rw [zu_same]
          exact (Int32.add_zero r0).symm
        · rintro k y hk ⟨u1, ufr, u3, u4⟩
          unfold f49_tally_24_L56
          have ix : yn n * 8 + yn k = yn (8 * n + k) := by
            show yn n * yn 8 + yn k = _
            rw [yn_mul, yn_add]; congr 1; omega
          rw [u1, ix, yn_succ]
          refine yP_neg (by show ¬ yn 8 ≤ yn k
                            rw [yn_le (by omega) (by omega)]; omega) (yP_bif (zin_yn (by omega) (by omega)) (yP_bif (zin_yn (by omega) (by omega)) (yP_bif (zin_yn (by omega) (by omega)) (yP_some ?_))))
          rw [yn_nat (n := n) (by omega), yn_nat (n := 8 * n + k) (by omega), u4, ufr 30 _ rfl, fr 30 _ rfl, h30 _ (by omega)]
          refine ⟨rfl, yfr_zu rfl ufr, fun j hj => ?_, ?_⟩
          · dsimp only
            rw [zu_nej hj]; exact u3 j hj
          · dsimp only
            rw [zu_same, Int32.add_assoc]
            rfl
        · rintro y ⟨u1, ufr, u3, u4⟩
          unfold f49_tally_24_L56
          rw [u1]
          exact yP_pos (Int32.le_refl _) (yP_some ⟨ufr, u3, u4⟩)
      have fin : ∀ {y : Int32 × yI}, yfr [3799] x.2 y.2 → (∀ j, j ≠ n → y.2 37 j = x.2 37 j) → y.2 37 n = ycnt A S ea s n → yP (bif zin (yn n) 4 then some (Sum.inr (yn (n + 1), zu y.2 24 19 (y.2 24 19 - y.2 31 n)) : (Int32 × yI) ⊕ (Int32 × yI)) else none) (fun y => match y with
        | .inl _ => False
        | .inr s' => s'.1 = yn (n + 1) ∧ yfr [2419, 3799] A s'.2 ∧ (∀ i, i < n + 1 → s'.2 37 i = ycnt A S ea s i) ∧ s'.2 24 19 = yaw A (ywant A 0 s + ywant A 1 s + A 25 3) (n + 1)) := by
        intro y h1 h2 h3
        refine yP_bif (zin_yn (by omega) (by omega)) (yP_some ⟨rfl, yfr_zu rfl (yfr_trans _ _ _ fr (yfr_mono rfl h1)), fun i hi => ?_, ?_⟩)
        · dsimp only
          rw [zu_ne (by decide)]
          by_cases q : i = n
          · subst q; exact h3
          · rw [h2 i q]; exact e3 i (by omega)
        · dsimp only
          rw [zu_same, h1 24 19 rfl, e4, h1 31 n rfl, fr 31 n rfl]
          rfl
      unfold f49_tally_24_L21
      rw [e1, yn_succ, yn_nat (n := n) (by omega)]
      refine yP_neg (by show ¬ yn 4 ≤ yn n
                        rw [yn_le (by omega) (by omega)]; omega) ?_
      have est : x.2 25 2 = A 25 2 := fr 25 2 rfl
      by_cases c : yn n = x.2 25 2
      · refine yP_pos c (yP_bif (zin_yn (by omega) (by omega)) (yP_bind (yP_mono (inner _) ?_)))
        rintro y ⟨h1, h2, h3⟩
        refine yP_mono (fin h1 h2 ?_) (by rintro (z | z) h <;> exact h)
        rw [h3]
        unfold ycnt yst
        rw [if_pos (by rw [← est]; exact c.symm), fr 25 3 rfl]
      · refine yP_neg c (yP_bif (zin_yn (by omega) (by omega)) (yP_bind (yP_mono (inner _) ?_)))
        rintro y ⟨h1, h2, h3⟩
        refine yP_mono (fin h1 h2 ?_) (by rintro (z | z) h <;> exact h)
        rw [h3]
        unfold ycnt yst
        rw [if_neg (fun z => c (by rw [est]; exact z.symm))]
    · rintro x ⟨e1, fr, e3, e4⟩
      unfold f49_tally_24_L21
      rw [e1]
      exact yP_pos (Int32.le_refl _) (yP_some ⟨fr, e3, e4⟩)
  refine yP_bind (yP_mono l1 ?_)
  rintro x1 ⟨fr1, g1, g19⟩
  have l2 : yP (zloop f49_tally_24_L116 5000 ((1 : Int32), zu x1.2 24 16 0)) (fun x => yfr [2416] x1.2 x.2 ∧ x.2 24 16 = yn (yful (ycnt A S ea s) a)) := by
    refine yP_for a (fun n x => x.1 = yn n ∧ 1 ≤ n ∧ yfr [2416] x1.2 x.2 ∧ x.2 24 16 = yn (yful (ycnt A S ea s) n)) (k := 1) ⟨rfl, by omega, yfr_zu rfl (yfr_refl _), by rw [ful1]; dsimp only; exact zu_same _ _ _ _⟩ (by omega) (by omega) ?_ ?_
    · rintro n x hn ⟨e1, e0, fr, e3⟩
      have hf := yful_lt (f := ycnt A S ea s) (n := n) (by omega)
      unfold f49_tally_24_L116
      rw [e1, yn_succ]
      refine yP_neg (by rw [fr 1 0 rfl, fr1 1 0 rfl, a1, yn_le (by omega) (by omega)]; omega) (yP_bif (zin_yn (by omega) (by omega)) (yP_bif (by rw [e3]; exact zin_yn (by omega) (by omega)) ?_))
      have v1 : x.2 37 n = ycnt A S ea s n := by rw [fr 37 n rfl]; exact g1 n (by omega)
      have v2 : x.2 37 (yful (ycnt A S ea s) n) = ycnt A S ea s (yful (ycnt A S ea s) n) := by rw [fr 37 _ rfl]; exact g1 _ (by omega)
      have st : yful (ycnt A S ea s) (n + 1) = if ycnt A S ea s (yful (ycnt A S ea s) n) < ycnt A S ea s n then n else yful (ycnt A S ea s) n := rfl
      rw [yn_nat (n := n) (by omega), v1, e3, yn_nat (n := yful (ycnt A S ea s) n) (by omega), v2, st]
      refine yP_ite (fun c => yP_some ⟨rfl, by omega, yfr_zu rfl fr, ?_⟩) (fun c => yP_some ⟨rfl, by omega, yfr_zu rfl fr, ?_⟩)
      · rw [if_neg (Int32.not_lt.mpr c)]; dsimp only; exact zu_same _ _ _ _
      · rw [if_pos (Int32.not_le.mp c)]; dsimp only; exact zu_same _ _ _ _
    · rintro x ⟨e1, e0, fr, e3⟩
      unfold f49_tally_24_L116
      rw [e1]
      exact yP_pos (by rw [fr 1 0 rfl, fr1 1 0 rfl, a1]; exact Int32.le_refl _) (yP_some ⟨fr, e3⟩)
  refine yP_bind (yP_mono l2 ?_)
  rintro x2 ⟨fr2, g2⟩
  have hf := yful_lt (f := ycnt A S ea s) (n := a) ha0
  have v37 : ∀ i, i < 4 → x2.2 37 i = ycnt A S ea s i := fun i hi => by rw [fr2 37 i rfl]; exact g1 i hi
  have l3 : yP (zloop (f49_tally_24_L167 x2.2) 5000 ((0 : Int32), (0 : Int32))) (fun x => x.1 = ynx (ycnt A S ea s) (yful (ycnt A S ea s) a) a) := by
    refine yP_for a (fun n x => x.1 = ynx (ycnt A S ea s) (yful (ycnt A S ea s) a) n ∧ x.2 = yn n) (k := 0) ⟨rfl, rfl⟩ (by omega) (by omega) ?_ ?_
    · rintro n x hn ⟨e1, e2⟩
      unfold f49_tally_24_L167
      rw [e2, e1, g2, yn_succ]
      have st : ynx (ycnt A S ea s) (yful (ycnt A S ea s) a) (n + 1) = if n = yful (ycnt A S ea s) a then ynx (ycnt A S ea s) (yful (ycnt A S ea s) a) n else zmax (ynx (ycnt A S ea s) (yful (ycnt A S ea s) a) n) (ycnt A S ea s n) := rfl
      refine yP_neg (by rw [fr2 1 0 rfl, fr1 1 0 rfl, a1, yn_le (by omega) (by omega)]; omega) ?_
      by_cases c : n = yful (ycnt A S ea s) a
      · refine yP_pos (by rw [← c]) (yP_some ⟨?_, rfl⟩)
        rw [st, if_pos c]
      · refine yP_neg (by rw [yn_inj (by omega) (by omega)]; exact c) (yP_bif (zin_yn (by omega) (by omega)) (yP_some ⟨?_, rfl⟩))
        dsimp only
        rw [yn_nat (n := n) (by omega), v37 n (by omega), st, if_neg c]
    · rintro x ⟨e1, e2⟩
      unfold f49_tally_24_L167
      rw [e2]
      exact yP_pos (by rw [fr2 1 0 rfl, fr1 1 0 rfl, a1]; exact Int32.le_refl _) (yP_some e1)
  refine yP_bind (yP_mono l3 ?_)
  rintro x3 g3
  rw [g2, yn_nat (by omega), g3, v37 _ (by omega)]
  refine yP_bif (zin_yn (by omega) (by omega)) (yP_bif (zin_yn (by omega) (by omega)) (yP_some ⟨fun i hi => ?_, ?_, ?_, ?_, ?_⟩))
  · simpa [zu_at] using v37 i hi
  · simpa [zu_at] using g2
  · rw [zu_nej (by decide), zu_same, fr2 3 _ rfl, fr1 3 _ rfl]
  · simp [zu_at]
  · rw [zu_nej (by decide), zu_nej (by decide), fr2 24 19 rfl]
    exact g19
