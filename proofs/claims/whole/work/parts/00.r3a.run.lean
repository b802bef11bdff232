/-! A RUN, noon 24: what is seen -/
/-- what was seen as minutes before T began -/
def yBeg (a T : Nat) (A B : yI) : Prop := ∀ t q, t < T → q < a → B 101 (4 * t + q) = A 34 (4 * t + q)
/-- what laws are told of minute t -/
def ySeen (a S t : Nat) (A : yI) : Prop := ∃ lg, lg ≤ 9 ∧ A 25 1 = yn lg ∧ A 24 12 = yn (t - lg) ∧ A 36 0 = yn (S - t) ∧ A 36 5 = yn (yful (fun q => A 34 (4 * (t - lg) + q)) a) ∧ A 36 6 = A 34 (4 * (t - lg) + yful (fun q => A 34 (4 * (t - lg) + q)) a)
theorem seenIn {A : yI} {sm q : Nat} (h : A 24 12 = yn sm) (hb : 4 * sm + q < 240) : f43_seenIn_24 (yn q) A = some (A 34 (4 * sm + q)) := by
  unfold f43_seenIn_24
  have e : yn sm * 4 + yn q = yn (4 * sm + q) := by
    show yn sm * yn 4 + yn q = _
    rw [yn_mul, yn_add]; congr 1; omega
  rw [h, e, zin_yn (by omega) (by omega), yn_nat (by omega)]
  rfl
theorem see_P {a w s S t K D : Nat} {A B : yI} (ha0 : 0 < a) (ht : t < S) (hS60 : S ≤ 60) (hB : yBase a w s S D A B) : yP (f42_see_24 (yn t) A) (fun A' => (∀ q, q < 4 → A' 34 (4 * t + q) = A 31 q) ∧ (∀ j, j < 4 * t → A' 34 j = A 34 j) ∧ ySeen a S t A') := by
  obtain ⟨⟨⟨⟨ha, hw, hs⟩, ⟨a1, a2, a3⟩, ⟨b1, b2, b3⟩⟩, -⟩, ⟨⟨w0, w1, w2⟩, ⟨⟨lg, -, hlg, elg⟩, -⟩, -⟩, -⟩ := hB
  unfold f42_see_24
  have l1 : yP (zloop (f42_see_24_L2 (yn t)) 5000 ((0 : Int32), A)) (fun x => yfr w_f42_see_24_L2 A x.2 ∧ (∀ q, q < 4 → x.2 34 (4 * t + q) = A 31 q) ∧ (∀ j, j < 4 * t → x.2 34 j = A 34 j)) := by
    refine yP_with (P := fun x => (∀ q, q < 4 → x.2 34 (4 * t + q) = A 31 q) ∧ (∀ j, j < 4 * t → x.2 34 j = A 34 j)) ?_ (fun x e h => ⟨(frl_f42_see_24_L2 (yn t) 5000 _) x e, h⟩)
    refine yP_for 4 (fun i x => x.1 = yn i ∧ (∀ q, x.2 31 q = A 31 q) ∧ (∀ q, q < i → x.2 34 (4 * t + q) = A 31 q) ∧ (∀ j, j < 4 * t → x.2 34 j = A 34 j)) (k := 0) ⟨rfl, fun _ => rfl, fun q hq => absurd hq (Nat.not_lt_zero _), fun _ _ => rfl⟩ (by omega) (by omega) ?_ ?_
    · rintro i x hi ⟨e1, e2, e3, e4⟩
      unfold f42_see_24_L2
      have ix : yn t * 4 + yn i = yn (4 * t + i) := by
        show yn t * yn 4 + yn i = _
        rw [yn_mul, yn_add]; congr 1; omega
      rw [e1, ix]
      refine yP_neg (by show ¬ yn 4 ≤ yn i
                        rw [yn_le (by omega) (by omega)]; omega) (yP_bif (zin_yn (by omega) (by omega)) (yP_bif (zin_yn (by omega) (by omega)) (yP_some ?_)))
      rw [yn_nat (n := i) (by omega), yn_nat (n := 4 * t + i) (by omega), yn_succ, e2]
      refine ⟨rfl, fun q => ?_, fun q hq => ?_, fun j hj => ?_⟩
      · simpa [zu_at] using e2 q
      · by_cases e : q = i
        · subst e; simp [zu_at]
        · have : 4 * t + q ≠ 4 * t + i := by omega
          simpa [zu_at, e] using e3 q (by omega)
      · have : j ≠ 4 * t + i := by omega
        simpa [zu_at, this] using e4 j hj
    · rintro x ⟨e1, e2, e3, e4⟩
      unfold f42_see_24_L2
      rw [e1]
      exact yP_pos (Int32.le_refl _) (yP_some ⟨e3, e4⟩)
  refine yP_bind (yP_mono l1 ?_)
  rintro ⟨x1, C⟩ ⟨fr, g1, g2⟩
  dsimp only at fr g1 g2 ⊢
  have c0 : C 25 0 = yn S := by rw [fr 25 0 rfl]; exact w0
  have c1 : C 25 1 = yn lg := by rw [fr 25 1 rfl]; exact elg
  have ca : C 1 0 = yn a := by rw [fr 1 0 rfl]; exact a1
  rw [c0, c1, zmax_sub (by omega) (by omega), yn_sub (by omega)]
  have l2 : yP (zloop (f42_see_24_L50 (yn t) (zu C 24 12 (yn (t - lg)))) 5000 ((0 : Int32), (1 : Int32))) (fun x => x.1 = yn (yful (fun q => C 34 (4 * (t - lg) + q)) a)) := by
    have u1 : yful (fun q => C 34 (4 * (t - lg) + q)) 1 = 0 := by
      unfold yful
      split <;> rfl
    refine yP_for a (fun i x => x.1 = yn (yful (fun q => C 34 (4 * (t - lg) + q)) i) ∧ x.2 = yn i ∧ 1 ≤ i) (k := 1) ⟨by rw [u1]; rfl, rfl, by omega⟩ (by omega) (by omega) ?_ ?_
    · rintro i ⟨x1, x2⟩ hi ⟨e1, e2, e3⟩
      dsimp only at e1 e2
      subst e1 e2
      have hf := yful_lt (f := fun q => C 34 (4 * (t - lg) + q)) (n := i) (by omega)
      have z12 : (zu C 24 12 (yn (t - lg))) 24 12 = yn (t - lg) := zu_same _ _ _ _
      have z34 : ∀ j, (zu C 24 12 (yn (t - lg))) 34 j = C 34 j := fun j => zu_ne (by decide)
      unfold f42_see_24_L50
      dsimp only
      refine yP_neg (by rw [zu_nej (by decide), ca, yn_le (by omega) (by omega)]; omega) ?_
      rw [seenIn z12 (by omega), seenIn z12 (by omega), ob, ob, z34, z34, yn_succ]
      have step : yful (fun q => C 34 (4 * (t - lg) + q)) (i + 1) = if C 34 (4 * (t - lg) + yful (fun q => C 34 (4 * (t - lg) + q)) i) < C 34 (4 * (t - lg) + i) then i else yful (fun q => C 34 (4 * (t - lg) + q)) i := rfl
      rw [step]
      refine yP_ite (fun c => yP_some ?_) (fun c => yP_some ?_)
      · rw [if_neg (Int32.not_lt.mpr c)]; exact ⟨rfl, rfl, by omega⟩
      · rw [if_pos (Int32.not_le.mp c)]; exact ⟨rfl, rfl, by omega⟩
    · rintro ⟨x1, x2⟩ ⟨e1, e2, -⟩
      dsimp only at e1 e2
      subst e1 e2
      unfold f42_see_24_L50
      exact yP_pos (by dsimp only; rw [zu_nej (by decide), ca]; exact Int32.le_refl _) (yP_some rfl)
  refine yP_bind (yP_mono l2 ?_)
  rintro ⟨x1, x2⟩ e1
  dsimp only at e1 ⊢
  subst e1
  have hf := yful_lt (f := fun q => C 34 (4 * (t - lg) + q)) ha0
  have s12 : (zu (zu (zu C 24 12 (yn (t - lg))) 36 0 (yn (S - t))) 36 5 (yn (yful (fun q => C 34 (4 * (t - lg) + q)) a))) 24 12 = yn (t - lg) := by simp [zu_at]
  rw [seenIn s12 (by omega), ob]
  refine yP_some ⟨fun q hq => ?_, fun j hj => ?_, lg, hlg, ?_, ?_, ?_, ?_, ?_⟩
  · simpa [zu_at] using g1 q hq
  · simpa [zu_at] using g2 j hj
  · simpa [zu_at] using c1
  · simp [zu_at]
  · simp [zu_at]
  · simp [zu_at]
  · simp [zu_at]
/-- a minute begins: both see -/
theorem see {a w s S t K D : Nat} {A B : yI} (v : Int32) (ha0 : 0 < a) (ht : t < S) (hS60 : S ≤ 60) (hB : yBase a w s S D A B) (hC : yCell (fun _ => K) A B) (hG : yBeg a t A B) : y2 (f42_see_24 (yn t) A) (zloop (f171_goTo_L97 v (yn t)) 5000 ((0 : Int32), B)) (fun A' y => yBase a w s S D A' y.2 ∧ yCell (fun _ => K) A' y.2 ∧ yBeg a (t + 1) A' y.2 ∧ ySeen a S t A') := by
  obtain ⟨A', e1, h1, h2, h3⟩ := see_P (K := K) ha0 ht hS60 hB
  have frA : yfr w_f42_see_24 A A' := (fr_f42_see_24 (yn t) A) _ e1
  have hB0 := hB
  obtain ⟨⟨⟨⟨ha, hw, hs⟩, ⟨a1, a2, a3⟩, ⟨b1, b2, b3⟩⟩, -⟩, hW, hAll, -⟩ := hB
  have l1 : yP (zloop (f171_goTo_L97 v (yn t)) 5000 ((0 : Int32), B)) (fun y => (∀ q, q < a → y.2 101 (4 * t + q) = A 31 q) ∧ (∀ j, j < 4 * t → y.2 101 j = B 101 j)) := by
    refine yP_for a (fun i y => y.1 = yn i ∧ yfr [10199] B y.2 ∧ (∀ q, q < i → y.2 101 (4 * t + q) = A 31 q) ∧ (∀ j, j < 4 * t → y.2 101 j = B 101 j)) (k := 0) ⟨rfl, yfr_refl _, fun q hq => absurd hq (Nat.not_lt_zero _), fun _ _ => rfl⟩ (by omega) (by omega) ?_ ?_
    · rintro i ⟨y1, C⟩ hi ⟨g1, fr, g3, g4⟩
      dsimp only at g1 fr g3 g4
      subst g1
      unfold f171_goTo_L97
      dsimp only
      have ix : 4 * yn t + yn i = yn (4 * t + i) := by
        show yn 4 * yn t + yn i = _
        rw [yn_mul, yn_add]
      have cC : yCell (fun _ => K) A C := by
        intro c hc
        rw [fr 97 c rfl, fr 98 c rfl]
        exact hC c hc
      have wC : yWish a s S A C := yWish_ag (yag_refl _) (yag_fr rfl fr) hW
      refine yP_neg (by rw [fr 73 1 rfl, b1, yn_le (by omega) (by omega)]; omega) ?_
      rw [inSq hs (by omega) (by rw [fr 73 9 rfl]; exact b3) wC hAll cC, ob, ix]
      refine yP_bif (zin_yn (by omega) (by omega)) (yP_some ?_)
      rw [yn_nat (by omega), yn_succ]
      refine ⟨rfl, yfr_zu rfl fr, fun q hq => ?_, fun j hj => ?_⟩
      · by_cases e : q = i
        · subst e; simp [zu_at]
        · have : 4 * t + q ≠ 4 * t + i := by omega
          simpa [zu_at, e] using g3 q (by omega)
      · have : j ≠ 4 * t + i := by omega
        simpa [zu_at, this] using g4 j hj
    · rintro ⟨y1, C⟩ ⟨g1, fr, g3, g4⟩
      dsimp only at g1 fr g3 g4
      subst g1
      unfold f171_goTo_L97
      exact yP_pos (by dsimp only; rw [fr 73 1 rfl, b1]; exact Int32.le_refl _) (yP_some ⟨g3, g4⟩)
  obtain ⟨⟨y1, C⟩, e2, k1, k2⟩ := l1
  dsimp only at k1 k2
  have frB : yfr w_f171_goTo_L97 B C := (frl_f171_goTo_L97 v (yn t) 5000 _) _ e2
  obtain ⟨hT, hW, hAll, hN, hD⟩ := hB0
  refine ⟨A', (y1, C), e1, e2, ⟨yTw_ag (yag_fr rfl frA) (yag_fr rfl frB) hT, yWish_ag (yag_fr rfl frA) (yag_fr rfl frB) hW, ?_, ?_, yDue_ag (fun j => frA 32 j rfl) (fun j => frB 99 j rfl) hD⟩, ?_, ?_, h3⟩
  · intro i hi
    have : yst A' i = yst A i := by unfold yst; rw [frA 25 2 rfl, frA 25 3 rfl]
    rw [frA 31 i rfl, this, hAll i hi]
    congr 1
    exact ysum_congr fun x _ => (frA 28 _ rfl).symm
  · intro i k hi hk ho
    rw [frA 28 _ rfl]
    exact hN i k hi hk ho
  · intro c hc
    dsimp only
    rw [frA 28 c rfl, frA 29 c rfl, frB 97 c rfl, frB 98 c rfl]
    exact hC c hc
  · intro t' q ht' hq
    dsimp only
    by_cases e : t' = t
    · subst e
      rw [k1 q hq, h1 q (by omega)]
    · rw [k2 _ (by omega), h2 _ (by omega)]
      exact hG t' q (by omega) hq
