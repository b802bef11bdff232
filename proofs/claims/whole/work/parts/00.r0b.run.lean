/-! A LAW GIVES, noon 38 -/
def yStT (d : Nat) (A B : yI) : Prop := A 15 5 = yn d ∧ ∀ j, j < d → B 92 j = A 23 j
theorem popT {d : Nat} {A : yI} (hd : d ≤ 63) (h : A 15 5 = yn (d + 1)) : f34_pop A = some (A 23 d, zu A 15 5 (yn d)) := by
  unfold f34_pop
  have e1 : (0 : Int32) < A 15 5 := by
    rw [h]
    show yn 0 < yn (d + 1)
    rw [yn_lt (by omega) (by omega)]; omega
  have em : yn (d + 1) - 1 = yn d := yn_sub (a := d + 1) (b := 1) (by omega)
  rw [if_pos e1, h, em, zin_yn (by omega) (by omega), yn_nat (by omega)]
  rfl
theorem pushT {d : Nat} {A : yI} (hd : d < 64) (h : A 15 5 = yn d) (v : Int32) : f33_push v A = some (zu (zu A 23 d v) 15 5 (yn (d + 1))) := by
  unfold f33_push
  have e1 : ¬ (64 : Int32) ≤ A 15 5 := by
    rw [h]
    show ¬ yn 64 ≤ yn d
    rw [yn_le (by omega) (by omega)]; omega
  rw [if_neg e1, h, zin_yn (by omega) (by omega), yn_nat (by omega), yn_succ]
  rfl
theorem joinedT {b : Nat} (hb : yBin b) (x y : Int32) : ∃ r, f32_joined x (yn (20000 + b) - 20000) y = some r ∧ f153_twoOf (yn b) x y = some r := by
  have e : yn (20000 + b) - 20000 = yn b := by
    show yn (20000 + b) - yn 20000 = _
    rw [yn_sub (by omega), Nat.add_sub_cancel_left]
  rw [e]
  have dv : ∀ z : Int32, z / (-1) = -z := fun z => by
    apply Int32.toInt_inj.mp
    have e1 : (-1 : Int32).toInt = -1 := by decide
    rw [Int32.toInt_div, e1, Int32.toInt_neg, Int.tdiv_neg, Int.tdiv_one]
  have ii : ∀ {c : Prop} {i : Decidable c} {u v : Int32}, (∃ r, (@ite _ c i (some u) (some v)) = some r ∧ (@ite _ c i (some u) (some v)) = some r) := by
    intro c i u v
    by_cases h : c
    · rw [if_pos h]; exact ⟨_, rfl, rfl⟩
    · rw [if_neg h]; exact ⟨_, rfl, rfl⟩
  have iii : ∀ {c c' : Prop} {i : Decidable c} {j : Decidable c'} {u v w : Int32}, (∃ r, (@ite _ c i (some u) (@ite _ c' j (some v) (some w))) = some r ∧ (@ite _ c i (some u) (@ite _ c' j (some v) (some w))) = some r) := by
    intro c c' i j u v w
    by_cases h : c
    · rw [if_pos h]; exact ⟨_, rfl, rfl⟩
    · rw [if_neg h]; exact ii
  have iv : ∀ {c c' : Prop} {i : Decidable c} {j : Decidable c'} {u v w : Int32}, (∃ r, (@ite _ c i (@ite _ c' j (some v) (some w)) (some u)) = some r ∧ (@ite _ c i (@ite _ c' j (some v) (some w)) (some u)) = some r) := by
    intro c c' i j u v w
    by_cases h : c
    · rw [if_pos h]; exact ii
    · rw [if_neg h]; exact ⟨_, rfl, rfl⟩
  rcases hb with rfl | rfl | rfl | rfl | rfl | rfl | rfl | rfl | rfl | rfl
  · show ∃ r, (if y = 0 then some 0 else if (y : Int32) = 0 then none else some (x - x / y * y)) = some r ∧ (if y = 0 then some 0 else if y = -1 then some 0 else if (y : Int32) = 0 then none else some (x - x / y * y)) = some r
    by_cases c : y = 0
    · rw [if_pos c, if_pos c]; exact ⟨_, rfl, rfl⟩
    · rw [if_neg c, if_neg c, if_neg c]
      by_cases c1 : y = -1
      · rw [if_pos c1, c1, dv]
        refine ⟨0, ?_, rfl⟩
        congr 1
        rw [Int32.mul_neg, Int32.mul_one, Int32.neg_neg, Int32.sub_self]
      · rw [if_neg c1]; exact ⟨_, rfl, rfl⟩
  · exact iii (c := x = 0) (c' := y = 0) (u := 0) (v := 0) (w := 1)
  · exact ⟨_, rfl, rfl⟩
  · exact ⟨_, rfl, rfl⟩
  · exact ⟨_, rfl, rfl⟩
  · show ∃ r, (if y = 0 then some 0 else if (y : Int32) = 0 then none else some (x / y)) = some r ∧ (if y = 0 then some 0 else if y = -1 then some (-x) else if (y : Int32) = 0 then none else some (x / y)) = some r
    by_cases c : y = 0
    · rw [if_pos c, if_pos c]; exact ⟨_, rfl, rfl⟩
    · rw [if_neg c, if_neg c, if_neg c]
      by_cases c1 : y = -1
      · rw [if_pos c1, c1, dv]; exact ⟨_, rfl, rfl⟩
      · rw [if_neg c1]; exact ⟨_, rfl, rfl⟩
  · exact ii (c := y ≤ x) (u := 0) (v := 1)
  · exact ii (c := x = y) (u := 1) (v := 0)
  · exact ii (c := x ≤ y) (u := 0) (v := 1)
  · exact iv (c := x = 0) (c' := y = 0) (u := 1) (v := 0) (w := 1)
/-- one code, one step -/
theorem tokT {l p d d' : Nat} {c : Int32} {A B : yI} (e : Int32) (hp : p < 650) (hd : d ≤ 60) (hc : yTok c (B 86 p) (B 87 p) d d') (hs : yStT d A B) (hf : ∀ j, j < 8 → B 91 j = A 50 j) (hlt : ¬ 130 * yn l + e ≤ yn p) : ∃ A' B', f31_passesLine_15_50 c A = some (0, A') ∧ f154_worked_L12 (yn l) e (yn d, yn p, B) = some (.inr (yn d', yn (p + 1), B')) ∧ yStT d' A' B' ∧ yfr [1505, 2399] A A' ∧ yfr [9299] B B' ∧ c ≠ 20059 ∧ d' ≤ 61 := by
  obtain ⟨s1, s2⟩ := hs
  have hz : zin (yn p) 650 = true := zin_yn (by omega) (by omega)
  have pnat : (yn p).toNatClampNeg = p := yn_nat (by omega)
  unfold f31_passesLine_15_50 f154_worked_L12
  dsimp only
  rw [if_neg hlt, hz, pnat, cond_true]
  have sp : yn p + 1 = yn (p + 1) := yn_succ p
  have sd : yn d + 1 = yn (d + 1) := yn_succ d
  rcases hc with ⟨h1, rfl, n, hn, rfl, h2⟩ | ⟨h1, rfl, n, hn, rfl, h2⟩ | ⟨h1, rfl, hd1, rfl⟩ | ⟨h1, rfl, hd1, rfl⟩ | ⟨b, hb, rfl, hd1, h1, rfl⟩
  · -- a number
    have n1 : ¬ yn n = 20063 := by
      show ¬ yn n = yn 20063
      rw [yn_inj (by omega) (by omega)]; omega
    have n2 : ¬ (10000 : Int32) ≤ yn n := by
      show ¬ yn 10000 ≤ yn n
      rw [yn_le (by omega) (by omega)]; omega
    have n3 : yn n ≠ 20059 := by
      show ¬ yn n = yn 20059
      rw [yn_inj (by omega) (by omega)]; omega
    rw [if_neg n1, if_neg n2, pushT (by omega) s1, if_pos h1, if_pos h1, zin_yn (m := d) (by omega) (by omega), yn_nat (n := d) (by omega), h2, sp, sd]
    refine ⟨_, _, rfl, rfl, ⟨zu_same _ _ _ _, fun j hj => ?_⟩, yfr_zu rfl (yfr_zu rfl (yfr_refl _)), yfr_zu rfl (yfr_refl _), n3, by omega⟩
    simp only [zu_at]
    by_cases g : j = d
    · subst g; simp
    · simpa [g] using s2 j (by omega)
  · -- a name
    have n1 : ¬ yn (10000 + n) = 20063 := by
      show ¬ yn (10000 + n) = yn 20063
      rw [yn_inj (by omega) (by omega)]; omega
    have n2 : (10000 : Int32) ≤ yn (10000 + n) := by
      show yn 10000 ≤ yn (10000 + n)
      rw [yn_le (by omega) (by omega)]; omega
    have n4 : ¬ (20000 : Int32) ≤ yn (10000 + n) := by
      show ¬ yn 20000 ≤ yn (10000 + n)
      rw [yn_le (by omega) (by omega)]; omega
    have n3 : yn (10000 + n) ≠ 20059 := by
      show ¬ yn (10000 + n) = yn 20059
      rw [yn_inj (by omega) (by omega)]; omega
    have n5 : yn (10000 + n) - 10000 = yn n := by
      show yn (10000 + n) - yn 10000 = _
      rw [yn_sub (by omega), Nat.add_sub_cancel_left]
    have k1 : ¬ B 86 p = 1 := by rw [h1]; decide
    rw [if_neg n1, if_pos n2, if_neg n4, n5, if_neg k1, if_pos h1, if_neg k1, zin_yn (m := n) (by omega) (by omega), yn_nat (n := n) (by omega), pushT (by omega) s1, h2, zin_yn (m := n) (by omega) (by omega), zin_yn (m := d) (by omega) (by omega), yn_nat (n := d) (by omega), yn_nat (n := n) (by omega), hf n hn, sp, sd]
    refine ⟨_, _, rfl, rfl, ⟨zu_same _ _ _ _, fun j hj => ?_⟩, yfr_zu rfl (yfr_zu rfl (yfr_refl _)), yfr_zu rfl (yfr_refl _), n3, by omega⟩
    simp only [zu_at]
    by_cases g : j = d
    · subst g; simp
    · simpa [g] using s2 j (by omega)
  · -- not
    obtain ⟨m, rfl⟩ : ∃ m, d' = m + 1 := ⟨d' - 1, by omega⟩
    have k1 : ¬ B 86 p = 1 := by rw [h1]; decide
    have k2 : ¬ B 86 p = 2 := by rw [h1]; decide
    have em : yn (m + 1) - 1 = yn m := yn_sub (a := m + 1) (b := 1) (by omega)
    have hzm : zin (yn m) 130 = true := zin_yn (by omega) (by omega)
    have t15 : (zu A 15 5 (yn m)) 15 5 = yn m := zu_same _ _ _ _
    rw [if_neg (by decide), if_pos (by decide), if_pos (by decide), if_pos rfl, popT (by omega) s1, ob, if_neg k1, if_neg k2, if_pos h1, em, hzm, yn_nat (n := m) (by omega), sp]
    by_cases g0 : A 23 m = 0
    · rw [if_pos (show (A 23 m, zu A 15 5 (yn m)).1 = 0 from g0), if_pos (show B 92 m = 0 by rw [s2 m (by omega)]; exact g0), pushT (A := (A 23 m, zu A 15 5 (yn m)).2) (d := m) (by omega) t15]
      refine ⟨_, _, rfl, rfl, ⟨zu_same _ _ _ _, fun j hj => ?_⟩, yfr_zu rfl (yfr_zu rfl (yfr_zu rfl (yfr_refl _))), yfr_zu rfl (yfr_refl _), by decide, by omega⟩
      simp only [zu_at]
      by_cases g : j = m
      · subst g; simp
      · simpa [g] using s2 j (by omega)
    · rw [if_neg (show ¬ (A 23 m, zu A 15 5 (yn m)).1 = 0 from g0), if_neg (show ¬ B 92 m = 0 by rw [s2 m (by omega)]; exact g0), pushT (A := (A 23 m, zu A 15 5 (yn m)).2) (d := m) (by omega) t15]
      refine ⟨_, _, rfl, rfl, ⟨zu_same _ _ _ _, fun j hj => ?_⟩, yfr_zu rfl (yfr_zu rfl (yfr_zu rfl (yfr_refl _))), yfr_zu rfl (yfr_refl _), by decide, by omega⟩
      simp only [zu_at]
      by_cases g : j = m
      · subst g; simp
      · simpa [g] using s2 j (by omega)
  · -- minus
    obtain ⟨m, rfl⟩ : ∃ m, d' = m + 1 := ⟨d' - 1, by omega⟩
    have k1 : ¬ B 86 p = 1 := by rw [h1]; decide
    have k2 : ¬ B 86 p = 2 := by rw [h1]; decide
    have k3 : ¬ B 86 p = 3 := by rw [h1]; decide
    have em : yn (m + 1) - 1 = yn m := yn_sub (a := m + 1) (b := 1) (by omega)
    have hzm : zin (yn m) 130 = true := zin_yn (by omega) (by omega)
    have t15 : (zu A 15 5 (yn m)) 15 5 = yn m := zu_same _ _ _ _
    rw [if_neg (by decide), if_pos (by decide), if_pos (by decide), if_neg (by decide), if_pos rfl, popT (by omega) s1, ob, if_neg k1, if_neg k2, if_neg k3, if_pos h1, em, hzm, yn_nat (n := m) (by omega), s2 m (by omega), sp, pushT (by omega) t15]
    refine ⟨_, _, rfl, rfl, ⟨zu_same _ _ _ _, fun j hj => ?_⟩, yfr_zu rfl (yfr_zu rfl (yfr_zu rfl (yfr_refl _))), yfr_zu rfl (yfr_refl _), by decide, by omega⟩
    simp only [zu_at]
    by_cases g : j = m
    · subst g; simp
    · simpa [g] using s2 j (by omega)
  · -- two of them
    obtain ⟨m, rfl⟩ : ∃ m, d' = m + 1 := ⟨d' - 1, by omega⟩
    have hb2 : 37 ≤ b ∧ b ≤ 124 ∧ b ≠ 59 ∧ b ≠ 63 := by unfold yBin at hb; omega
    have ne : ∀ x, x < 100000 → x ≠ 20000 + b → ¬ yn (20000 + b) = yn x := by
      intro x hx hne z
      rw [yn_inj (by omega) (by omega)] at z
      omega
    have n1 : ¬ yn (20000 + b) = 20063 := ne 20063 (by omega) (by omega)
    have n2 : (10000 : Int32) ≤ yn (20000 + b) := by
      show yn 10000 ≤ yn (20000 + b)
      rw [yn_le (by omega) (by omega)]; omega
    have n4 : (20000 : Int32) ≤ yn (20000 + b) := by
      show yn 20000 ≤ yn (20000 + b)
      rw [yn_le (by omega) (by omega)]; omega
    have n5 : ¬ yn (20000 + b) = 20033 := ne 20033 (by omega) (by omega)
    have n6 : ¬ yn (20000 + b) = 20126 := ne 20126 (by omega) (by omega)
    have n3 : yn (20000 + b) ≠ 20059 := ne 20059 (by omega) (by omega)
    have kb : ∀ x, x < 37 → ¬ B 86 p = yn x := by
      intro x hx z
      rw [h1, yn_inj (by omega) (by omega)] at z
      omega
    have k1 : ¬ B 86 p = 1 := kb 1 (by omega)
    have k2 : ¬ B 86 p = 2 := kb 2 (by omega)
    have k3 : ¬ B 86 p = 3 := kb 3 (by omega)
    have k4 : ¬ B 86 p = 4 := kb 4 (by omega)
    have em : yn (m + 1 + 1) - 1 = yn (m + 1) := yn_sub (a := m + 1 + 1) (b := 1) (by omega)
    have em2 : yn (m + 1) - 1 = yn m := yn_sub (a := m + 1) (b := 1) (by omega)
    have hzm : zin (yn m) 130 = true := zin_yn (by omega) (by omega)
    have hzm1 : zin (yn (m + 1)) 130 = true := zin_yn (by omega) (by omega)
    have t15 : (zu A 15 5 (yn (m + 1))) 15 5 = yn (m + 1) := zu_same _ _ _ _
    have t15' : (zu (zu A 15 5 (yn (m + 1))) 15 5 (yn m)) 15 5 = yn m := zu_same _ _ _ _
    have t23 : (zu A 15 5 (yn (m + 1))) 23 m = A 23 m := zu_ne (by decide)
    obtain ⟨r, j1, j2⟩ := joinedT hb (A 23 m) (A 23 (m + 1))
    rw [if_neg n1, if_pos n2, if_pos n4, if_neg n5, if_neg n6, popT (by omega) s1, ob, popT (A := (A 23 (m + 1), zu A 15 5 (yn (m + 1))).2) (d := m) (by omega) t15, ob]
    dsimp only
    rw [t23, j1, ob, pushT (by omega) t15', if_neg k1, if_neg k2, if_neg k3, if_neg k4, em, em2, hzm, hzm1, yn_nat (n := m) (by omega), yn_nat (n := m + 1) (by omega), s2 m (by omega), s2 (m + 1) (by omega), h1, j2, sp]
    refine ⟨_, _, rfl, rfl, ⟨zu_same _ _ _ _, fun j hj => ?_⟩, yfr_zu rfl (yfr_zu rfl (yfr_zu rfl (yfr_zu rfl (yfr_refl _)))), yfr_zu rfl (yfr_refl _), n3, by omega⟩
    simp only [zu_at]
    by_cases g : j = m
    · subst g; simp
    · simpa [g] using s2 j (by omega)
theorem zrow_ynT {l : Nat} (hl : l < 4) : zrow0 (yn l) = 18 + l := by unfold zrow0; rw [yn_nat (by omega)]
theorem row_frT {l j : Nat} {A A' : yI} (hl : l < 4) (h : yfr [1505, 2399] A A') : A' (18 + l) j = A (18 + l) j := by
  refine h _ _ ?_
  have hl4 : l = 0 ∨ l = 1 ∨ l = 2 ∨ l = 3 := by omega
  rcases hl4 with rfl | rfl | rfl | rfl <;> rfl
theorem l10tokT {l z i : Nat} {A A' : yI} (hl : l < 4) (hz : A 22 l = yn z) (hi : i < z) (hz2 : z ≤ 121) (hc : A (18 + l) i ≠ 20059) (hp : f31_passesLine_15_50 (A (18 + l) i) A = some (0, A')) : f30_gives_15_50_L10 (yn l) ((0 : Int32), yn i, A) = some (.inr (.inr ((0 : Int32), yn (i + 1), A'))) := by
  refine yP_eq ?_
  unfold f30_gives_15_50_L10
  dsimp only
  refine yP_bif (zin_yn (by omega) (by omega)) (yP_neg (by rw [yn_nat (by omega), hz, yn_le (by omega) (by omega)]; omega) (yP_bif (zin_yn (by omega) (by omega)) (yP_bif (zin_yn (by omega) (by omega)) ?_)))
  rw [zrow_ynT hl, yn_nat (n := i) (by omega), hp, ob, yn_succ]
  exact yP_neg hc (yP_pos rfl (yP_pos rfl (yP_some rfl)))
theorem l10endT {l z i : Nat} {A : yI} (hl : l < 4) (hz : A 22 l = yn z) (hi : i < z) (hz2 : z ≤ 121) (hc : A (18 + l) i = 20059) (h1 : A 15 5 = yn 1) : f30_gives_15_50_L10 (yn l) ((0 : Int32), yn i, A) = some (.inl (A 23 0, zu A 15 5 (yn 0))) := by
  refine yP_eq ?_
  unfold f30_gives_15_50_L10
  dsimp only
  refine yP_bif (zin_yn (by omega) (by omega)) (yP_neg (by rw [yn_nat (by omega), hz, yn_le (by omega) (by omega)]; omega) (yP_bif (zin_yn (by omega) (by omega)) (yP_bif (zin_yn (by omega) (by omega)) ?_)))
  rw [zrow_ynT hl, yn_nat (n := i) (by omega), popT (d := 0) (by omega) h1]
  exact yP_pos hc (yP_pos rfl (yP_some rfl))
theorem l10end1T {l z i : Nat} {A : yI} (hl : l < 4) (hz : A 22 l = yn z) (hi : i < z) (hz2 : z ≤ 121) (hc : A (18 + l) i = 20059) : f30_gives_15_50_L10 (yn l) ((1 : Int32), yn i, A) = some (.inr (.inr ((0 : Int32), yn (i + 1), A))) := by
  refine yP_eq ?_
  unfold f30_gives_15_50_L10
  dsimp only
  refine yP_bif (zin_yn (by omega) (by omega)) (yP_neg (by rw [yn_nat (by omega), hz, yn_le (by omega) (by omega)]; omega) (yP_bif (zin_yn (by omega) (by omega)) (yP_bif (zin_yn (by omega) (by omega)) ?_)))
  rw [zrow_ynT hl, yn_nat (n := i) (by omega), yn_succ]
  exact yP_pos hc (yP_neg (by decide) (yP_some rfl))
theorem l10skipT {l z i : Nat} {A : yI} (hl : l < 4) (hz : A 22 l = yn z) (hi : i < z) (hz2 : z ≤ 121) (hc : A (18 + l) i ≠ 20059) : f30_gives_15_50_L10 (yn l) ((1 : Int32), yn i, A) = some (.inr (.inr ((1 : Int32), yn (i + 1), A))) := by
  refine yP_eq ?_
  unfold f30_gives_15_50_L10
  dsimp only
  refine yP_bif (zin_yn (by omega) (by omega)) (yP_neg (by rw [yn_nat (by omega), hz, yn_le (by omega) (by omega)]; omega) (yP_bif (zin_yn (by omega) (by omega)) (yP_bif (zin_yn (by omega) (by omega)) ?_)))
  rw [zrow_ynT hl, yn_nat (n := i) (by omega), yn_succ]
  exact yP_neg hc (yP_neg (by decide) (yP_some rfl))
theorem l10ifT {l z i : Nat} {A : yI} (hl : l < 4) (hz : A 22 l = yn z) (hi : i < z) (hz2 : z ≤ 121) (hc : A (18 + l) i = 20063) (h1 : A 15 5 = yn 1) : f30_gives_15_50_L10 (yn l) ((0 : Int32), yn i, A) = some (.inr (.inr ((if A 23 0 = 0 then (1 : Int32) else 0), yn (i + 1), zu A 15 5 (yn 0)))) := by
  refine yP_eq ?_
  unfold f30_gives_15_50_L10 f31_passesLine_15_50
  dsimp only
  refine yP_bif (zin_yn (by omega) (by omega)) (yP_neg (by rw [yn_nat (by omega), hz, yn_le (by omega) (by omega)]; omega) (yP_bif (zin_yn (by omega) (by omega)) (yP_bif (zin_yn (by omega) (by omega)) ?_)))
  rw [zrow_ynT hl, yn_nat (n := i) (by omega), popT (d := 0) (by omega) h1, yn_succ]
  refine yP_neg (by rw [hc]; decide) (yP_pos rfl ?_)
  rw [if_pos hc, ob]
  by_cases g : A 23 0 = 0
  · rw [if_pos (show (A 23 0, zu A 15 5 (yn 0)).1 = 0 from g), ob, if_pos g]
    exact yP_neg (show ¬ (1 : Int32) = 0 by decide) (yP_some rfl)
  · rw [if_neg (show ¬ (A 23 0, zu A 15 5 (yn 0)).1 = 0 from g), ob, if_neg g]
    exact yP_pos rfl (yP_some rfl)
/-- some codes, some steps: both run alike; n of them from code c0, step r0 on, in memories A, B -/
theorem segT {l c0 r0 n z e : Nat} {C : Nat → Int32} {A B : yI} (hl : l < 4) (hz : A 22 l = yn z) (hC : ∀ j, A (18 + l) j = C j) (hn : c0 + n ≤ z) (hz2 : z ≤ 121) (he : r0 + n = e) (he2 : e ≤ 130) (hs : ySeg C (fun j => B 86 (130 * l + j)) (fun j => B 87 (130 * l + j)) c0 r0 n) (h0 : A 15 5 = yn 0) (hf : ∀ j, j < 8 → B 91 j = A 50 j) : ∃ A' B' v, (∀ k, zloopR (f30_gives_15_50_L10 (yn l)) (k + n) ((0 : Int32), yn c0, A) = zloopR (f30_gives_15_50_L10 (yn l)) k ((0 : Int32), yn (c0 + n), A')) ∧ f154_worked (yn l) (yn r0) (yn e) B = some (v, B') ∧ A' 15 5 = yn 1 ∧ A' 23 0 = v ∧ yfr [1505, 2399] A A' ∧ yfr [9299] B B' := by
  obtain ⟨dp, d0, d1, hd⟩ := hs
  have run : ∀ j, j ≤ n → ∃ A' B', (∀ k, zloopR (f30_gives_15_50_L10 (yn l)) (k + j) ((0 : Int32), yn c0, A) = zloopR (f30_gives_15_50_L10 (yn l)) k ((0 : Int32), yn (c0 + j), A')) ∧ (∀ k, zloop (f154_worked_L12 (yn l) (yn e)) (k + j) ((0 : Int32), yn (130 * l + r0), B) = zloop (f154_worked_L12 (yn l) (yn e)) k (yn (dp j), yn (130 * l + r0 + j), B')) ∧ yStT (dp j) A' B' ∧ yfr [1505, 2399] A A' ∧ yfr [9299] B B' := by
    intro j
    induction j with
    | zero =>
      intro _
      refine ⟨A, B, fun k => rfl, fun k => ?_, ⟨by rw [d0]; exact h0, fun j hj => by rw [d0] at hj; exact absurd hj (Nat.not_lt_zero _)⟩, yfr_refl _, yfr_refl _⟩
      rw [d0]; rfl
    | succ j ih =>
      intro hj
      obtain ⟨A1, B1, r1, r2, r3, f1, f2⟩ := ih (by omega)
      obtain ⟨q1, q2⟩ := hd j (by omega)
      have i130 : 130 * yn l + yn e = yn (130 * l + e) := by
        show yn 130 * yn l + yn e = _
        rw [yn_mul, yn_add]
      have tk : yTok (A1 (18 + l) (c0 + j)) (B1 86 (130 * l + r0 + j)) (B1 87 (130 * l + r0 + j)) (dp j) (dp (j + 1)) := by
        rw [row_frT hl f1, hC, f2 86 _ rfl, f2 87 _ rfl, Nat.add_assoc]
        exact q2
      obtain ⟨A2, B2, t1, t2, t3, t4, t5, t6, t7⟩ := tokT (l := l) (yn e) (p := 130 * l + r0 + j) (by omega) q1 tk r3 (fun j hj => by rw [f2 91 j rfl, f1 50 j rfl]; exact hf j hj) (by rw [i130, yn_le (by omega) (by omega)]; omega)
      refine ⟨A2, B2, fun k => ?_, fun k => ?_, t3, yfr_trans _ _ _ f1 t4, yfr_trans _ _ _ f2 t5⟩
      · have e1 : k + (j + 1) = (k + 1) + j := by omega
        rw [e1, r1 (k + 1), zloopR_in (l10tokT hl (z := z) (by rw [f1 22 l rfl]; exact hz) (by omega) hz2 t6 t1), Nat.add_assoc]
      · have e1 : k + (j + 1) = (k + 1) + j := by omega
        rw [e1, r2 (k + 1), zloop_in t2, Nat.add_assoc (130 * l + r0)]
  obtain ⟨A', B', r1, r2, ⟨r3, r4⟩, f1, f2⟩ := run n (Nat.le_refl n)
  rw [d1] at r2 r3 r4
  have i130 : 130 * yn l + yn e = yn (130 * l + e) := by
    show yn 130 * yn l + yn e = _
    rw [yn_mul, yn_add]
  have i0 : 130 * yn l + yn r0 = yn (130 * l + r0) := by
    show yn 130 * yn l + yn r0 = _
    rw [yn_mul, yn_add]
  refine ⟨A', B', B' 92 0, r1, ?_, r3, (r4 0 (by omega)).symm, f1, f2⟩
  unfold f154_worked
  have e5 : 5000 = (4999 - n + 1) + n := by omega
  rw [i0, e5, r2 (4999 - n + 1)]
  have fin : f154_worked_L12 (yn l) (yn e) (yn 1, yn (130 * l + r0 + n), B') = some (.inl (yn 1, yn (130 * l + r0 + n), B')) := by
    refine yP_eq ?_
    unfold f154_worked_L12
    refine yP_pos ?_ (yP_some rfl)
    dsimp only
    rw [i130, yn_le (by omega) (by omega)]; omega
  rw [zloop_out fin]
  rfl
theorem tok_neT {c ac wi : Int32} {d d' : Nat} (h : yTok c ac wi d d') : c ≠ 20059 := by
  rcases h with ⟨-, -, n, hn, rfl, -⟩ | ⟨-, -, n, hn, rfl, -⟩ | ⟨-, -, -, rfl⟩ | ⟨-, -, -, rfl⟩ | ⟨b, hb, -, -, -, rfl⟩
  · show ¬ yn n = yn 20059
    rw [yn_inj (by omega) (by omega)]; omega
  · show ¬ yn (10000 + n) = yn 20059
    rw [yn_inj (by omega) (by omega)]; omega
  · decide
  · decide
  · have hb2 : 37 ≤ b ∧ b ≤ 124 ∧ b ≠ 59 := by unfold yBin at hb; omega
    show ¬ yn (20000 + b) = yn 20059
    rw [yn_inj (by omega) (by omega)]; omega
theorem skipT {l z i0 : Nat} {A : yI} (hl : l < 4) (hz : A 22 l = yn z) (hz2 : z ≤ 121) : ∀ n, i0 + n ≤ z → (∀ j, j < n → A (18 + l) (i0 + j) ≠ 20059) → ∀ k, zloopR (f30_gives_15_50_L10 (yn l)) (k + n) ((1 : Int32), yn i0, A) = zloopR (f30_gives_15_50_L10 (yn l)) k ((1 : Int32), yn (i0 + n), A)
  | 0, _, _, k => rfl
  | n + 1, h1, h2, k => by
    have e1 : k + (n + 1) = (k + 1) + n := by omega
    rw [e1, skipT hl hz hz2 n (by omega) (fun j hj => h2 j (by omega)) (k + 1), zloopR_in (l10skipT hl hz (by omega) hz2 (h2 n (by omega))), Nat.add_assoc]
theorem linesT {l L : Nat} {cs ts es : Nat → Nat} {A B : yI} (hl : l < 4) (hL : L ≤ 61) (hz2 : cs L ≤ 121) (hz : A 22 l = yn (cs L)) (h88 : B 88 l = yn L) (hln : ∀ k, k < L → B 89 (61 * l + k) = yn (ts k) ∧ B 90 (61 * l + k) = yn (es k) ∧ yLine (fun j => A (18 + l) j) (fun j => B 86 (130 * l + j)) (fun j => B 87 (130 * l + j)) (cs k) (yst0 es k) (ts k) (es k) (cs (k + 1))) (hf : ∀ j, j < 8 → B 91 j = A 50 j) : ∀ (m k : Nat) (A' B' : yI) (fc fr : Nat), k + m = L → A' 15 5 = yn 0 → yfr [1505, 2399] A A' → yfr [9299] B B' → cs k ≤ cs L ∧ (cs L - cs k < fc → m < fr → y2 (zloopR (f30_gives_15_50_L10 (yn l)) fc ((0 : Int32), yn (cs k), A')) (zloopR (f155_gives_L7 (yn l)) fr (yn (yst0 es k), yn (61 * l + k), B')) yGQ)
  | 0, k, A', B', fc, fr, hk, h0, fA, fB => by
    have : k = L := by omega
    subst this
    refine ⟨Nat.le_refl _, fun h1 h2 => ?_⟩
    obtain ⟨fc, rfl⟩ : ∃ f, fc = f + 1 := ⟨fc - 1, by omega⟩
    obtain ⟨fr, rfl⟩ : ∃ f, fr = f + 1 := ⟨fr - 1, by omega⟩
    have i61 : 61 * yn l + B' 88 l = yn (61 * l + k) := by
      rw [fB 88 l rfl, h88]
      show yn 61 * yn l + yn k = _
      rw [yn_mul, yn_add]
    have c1 : f30_gives_15_50_L10 (yn l) ((0 : Int32), yn (cs k), A') = some (.inr (.inl ((0 : Int32), yn (cs k), A'))) := by
      refine yP_eq ?_
      unfold f30_gives_15_50_L10
      exact yP_bif (zin_yn (by omega) (by omega)) (yP_pos (by dsimp only; rw [yn_nat (by omega), fA 22 l rfl, hz]; exact Int32.le_refl _) (yP_some rfl))
    have c2 : f155_gives_L7 (yn l) (yn (yst0 es k), yn (61 * l + k), B') = some (.inr (.inl (yn (yst0 es k), yn (61 * l + k), B'))) := by
      refine yP_eq ?_
      unfold f155_gives_L7
      exact yP_bif (zin_yn (by omega) (by omega)) (yP_pos (by dsimp only; rw [yn_nat (by omega), i61]; exact Int32.le_refl _) (yP_some rfl))
    rw [zloopR_out c1, zloopR_out c2]
    exact y2_some trivial
  | m + 1, k, A', B', fc, fr, hk, h0, fA, fB => by
    obtain ⟨h89, h90, n1, n2, n3, hA1, hA2⟩ := hln k (by omega)
    have i61 : 61 * yn l + B' 88 l = yn (61 * l + L) := by
      rw [fB 88 l rfl, h88]
      show yn 61 * yn l + yn L = _
      rw [yn_mul, yn_add]
    have eC : ∀ {A2 : yI}, yfr [1505, 2399] A A2 → ∀ j, A2 (18 + l) j = (fun j => A (18 + l) j) j := fun h j => row_frT hl h
    have e86 : ∀ {B2 : yI}, yfr [9299] B B2 → (fun j => B2 86 (130 * l + j)) = (fun j => B 86 (130 * l + j)) := fun h => funext fun j => h 86 _ rfl
    have e87 : ∀ {B2 : yI}, yfr [9299] B B2 → (fun j => B2 87 (130 * l + j)) = (fun j => B 87 (130 * l + j)) := fun h => funext fun j => h 87 _ rfl
    have ef : ∀ {A2 B2 : yI}, yfr [1505, 2399] A A2 → yfr [9299] B B2 → ∀ j, j < 8 → B2 91 j = A2 50 j := fun h1 h2 j hj => by rw [h1 50 j rfl, h2 91 j rfl]; exact hf j hj
    have st1 : yst0 es (k + 1) = es k := by unfold yst0; rw [if_neg (by omega)]; rfl
    have hzk : zin (yn (61 * l + k)) 305 = true := zin_yn (by omega) (by omega)
    have hz5 : zin (yn l) 5 = true := zin_yn (by omega) (by omega)
    have go1 : ¬ 61 * yn l + B' 88 l ≤ yn (61 * l + k) := by rw [i61, yn_le (by omega) (by omega)]; omega
    have mono : cs k < cs (k + 1) ∧ cs (k + 1) ≤ cs L := by
      have ih := (linesT hl hL hz2 hz h88 hln hf m (k + 1) A' B' 0 0 (by omega) h0 fA fB).1
      refine ⟨?_, ih⟩
      by_cases c : ts k = yst0 es k
      · have := (hA1 c).2.2; omega
      · have := (hA2 (by omega)).2.2.2.2; omega
    refine ⟨by omega, fun hfc hfr => ?_⟩
    obtain ⟨fr, rfl⟩ : ∃ f, fr = f + 1 := ⟨fr - 1, by omega⟩
    by_cases c : ts k = yst0 es k
    · -- no test
      obtain ⟨q1, q2, q3⟩ := hA1 c
      obtain ⟨A2, B2, v, r1, r2, r3, r4, r5, r6⟩ := segT (A := A') (B := B') (z := cs L) (c0 := cs k) (r0 := yst0 es k) (n := es k - yst0 es k) (e := es k) hl (by rw [fA 22 l rfl]; exact hz) (eC fA) (by omega) hz2 (by omega) n3 (by rw [e86 fB, e87 fB]; exact q1) h0 (ef fA fB)
      have c2 : f155_gives_L7 (yn l) (yn (yst0 es k), yn (61 * l + k), B') = some (.inl (v, B2)) := by
        refine yP_eq ?_
        unfold f155_gives_L7
        refine yP_bif hz5 (yP_neg (by dsimp only; rw [yn_nat (n := l) (by omega)]; exact go1) (yP_bif hzk (yP_pos ?_ (yP_bif hzk (yP_bif hzk ?_)))))
        · dsimp only
          rw [yn_nat (by omega), fB 89 _ rfl, h89, c]
        · dsimp only
          rw [yn_nat (n := 61 * l + k) (by omega), fB 89 _ rfl, h89, fB 90 _ rfl, h90, c, r2]
          exact yP_some rfl
      obtain ⟨f, rfl⟩ : ∃ f, fc = (f + 1) + (es k - yst0 es k) := ⟨fc - 1 - (es k - yst0 es k), by omega⟩
      have fA2 := yfr_trans _ _ _ fA r5
      rw [r1 (f + 1), zloopR_ret (l10endT hl (z := cs L) (by rw [fA2 22 l rfl]; exact hz) (by omega) hz2 (by rw [row_frT hl fA2]; exact q2) r3), zloopR_ret c2]
      exact y2_some r4
    · -- a test
      obtain ⟨q1, q2, q3, q4, q5⟩ := hA2 (by omega)
      obtain ⟨A2, B2, v, r1, r2, r3, r4, r5, r6⟩ := segT (A := A') (B := B') (z := cs L) (c0 := cs k) (r0 := yst0 es k) (n := ts k - yst0 es k) (e := ts k) hl (by rw [fA 22 l rfl]; exact hz) (eC fA) (by omega) hz2 (by omega) (by omega) (by rw [e86 fB, e87 fB]; exact q1) h0 (ef fA fB)
      have fA2 := yfr_trans _ _ _ fA r5
      have fB2 := yfr_trans _ _ _ fB r6
      have fA3 : yfr [1505, 2399] A (zu A2 15 5 (yn 0)) := yfr_zu rfl fA2
      have nts : ¬ yn (ts k) = yn (yst0 es k) := by rw [yn_inj (by omega) (by omega)]; exact c
      obtain ⟨f, rfl⟩ : ∃ f, fc = (f + 1) + (ts k - yst0 es k) := ⟨fc - 1 - (ts k - yst0 es k), by omega⟩
      rw [r1 (f + 1), zloopR_in (l10ifT hl (z := cs L) (by rw [fA2 22 l rfl]; exact hz) (by omega) hz2 (by rw [row_frT hl fA2]; exact q2) r3), r4]
      by_cases g : v = 0
      · rw [if_pos g]
        have c2 : f155_gives_L7 (yn l) (yn (yst0 es k), yn (61 * l + k), B') = some (.inr (.inr (yn (es k), yn (61 * l + (k + 1)), B2))) := by
          refine yP_eq ?_
          unfold f155_gives_L7
          refine yP_bif hz5 (yP_neg (by dsimp only; rw [yn_nat (n := l) (by omega)]; exact go1) (yP_bif hzk (yP_neg ?_ (yP_bif hzk ?_))))
          · dsimp only
            rw [yn_nat (by omega), fB 89 _ rfl, h89]; exact nts
          · dsimp only
            rw [yn_nat (n := 61 * l + k) (by omega), fB 89 _ rfl, h89, r2, ob]
            refine yP_pos g (yP_bif hzk (yP_some ?_))
            dsimp only
            rw [fB2 90 _ rfl, h90, yn_succ, Nat.add_assoc]
        have hsk := skipT (l := l) (z := cs L) (i0 := cs k + (ts k - yst0 es k) + 1) (A := zu A2 15 5 (yn 0)) hl (by rw [fA3 22 l rfl]; exact hz) hz2 (es k - ts k) (by omega) (fun j hj => by
          obtain ⟨dp, -, -, hd⟩ := q3
          rw [row_frT hl fA3]
          exact tok_neT (hd j hj).2)
        obtain ⟨f2, rfl⟩ : ∃ f2, f = (f2 + 1) + (es k - ts k) := ⟨f - 1 - (es k - ts k), by omega⟩
        have ei : cs k + (ts k - yst0 es k) + 1 + (es k - ts k) = cs k + (es k - yst0 es k) + 1 := by omega
        rw [hsk (f2 + 1), ei, zloopR_in (l10end1T hl (z := cs L) (by rw [fA3 22 l rfl]; exact hz) (by omega) hz2 (by rw [row_frT hl fA3]; exact q4)), zloopR_in c2]
        have ih := (linesT hl hL hz2 hz h88 hln hf m (k + 1) (zu A2 15 5 (yn 0)) B2 f2 fr (by omega) (zu_same _ _ _ _) fA3 fB2).2 (by omega) (by omega)
        rw [st1] at ih
        have e2 : cs k + (es k - yst0 es k) + 1 + 1 = cs (k + 1) := by omega
        rw [e2]
        exact ih
      · rw [if_neg g]
        obtain ⟨A4, B4, v4, u1, u2, u3, u4, u5, u6⟩ := segT (A := zu A2 15 5 (yn 0)) (B := B2) (z := cs L) (c0 := cs k + (ts k - yst0 es k) + 1) (r0 := ts k) (n := es k - ts k) (e := es k) hl (by rw [fA3 22 l rfl]; exact hz) (eC fA3) (by omega) hz2 (by omega) n3 (by rw [e86 fB2, e87 fB2]; exact q3) (zu_same _ _ _ _) (ef fA3 fB2)
        have fA4 := yfr_trans _ _ _ fA3 u5
        have c2 : f155_gives_L7 (yn l) (yn (yst0 es k), yn (61 * l + k), B') = some (.inl (v4, B4)) := by
          refine yP_eq ?_
          unfold f155_gives_L7
          refine yP_bif hz5 (yP_neg (by dsimp only; rw [yn_nat (n := l) (by omega)]; exact go1) (yP_bif hzk (yP_neg ?_ (yP_bif hzk ?_))))
          · dsimp only
            rw [yn_nat (by omega), fB 89 _ rfl, h89]; exact nts
          · dsimp only
            rw [yn_nat (n := 61 * l + k) (by omega), fB 89 _ rfl, h89, r2, ob]
            refine yP_neg g (yP_bif hzk (yP_bif hzk ?_))
            dsimp only
            rw [fB2 89 _ rfl, h89, fB2 90 _ rfl, h90, u2]
            exact yP_some rfl
        obtain ⟨f2, rfl⟩ : ∃ f2, f = (f2 + 1) + (es k - ts k) := ⟨f - 1 - (es k - ts k), by omega⟩
        have ei : cs k + (ts k - yst0 es k) + 1 + (es k - ts k) = cs k + (es k - yst0 es k) + 1 := by omega
        rw [u1 (f2 + 1), ei, zloopR_ret (l10endT hl (z := cs L) (by rw [fA4 22 l rfl]; exact hz) (by omega) hz2 (by rw [row_frT hl fA4]; exact q4) u3), zloopR_ret c2]
        exact y2_some u4
theorem givesT {nl l : Nat} {A B : yI} (hL : yLaws nl A B) (hl : l < nl) (hf : ∀ j, j < 8 → B 91 j = A 50 j) : y2 (f30_gives_15_50 (yn l) A) (f155_gives (yn l) B) (fun x y => x.1 = y.1) := by
  obtain ⟨⟨hnl, -, -⟩, h⟩ := hL
  obtain ⟨L, cs, ts, es, g1, g2, g3, g4, g5, g6, g7⟩ := h l hl
  unfold f30_gives_15_50 f155_gives
  have fA : yfr [1505, 2399] A (zu A 15 5 0) := yfr_zu rfl (yfr_refl _)
  have i61 : 61 * yn l = yn (61 * l) := by
    show yn 61 * yn l = _
    rw [yn_mul]
  have key := (linesT (by omega) g2 g4 g5 g6 g7 hf L 0 (zu A 15 5 0) B 5000 5000 (by omega) (zu_same _ _ _ _) fA (yfr_refl _)).2 (by omega) (by omega)
  rw [g3] at key
  rw [i61]
  obtain ⟨x, y, e1, e2, e3⟩ := key
  have e1' : zloopR (f30_gives_15_50_L10 (yn l)) 5000 ((0 : Int32), (0 : Int32), zu A 15 5 0) = some x := e1
  have e2' : zloopR (f155_gives_L7 (yn l)) 5000 ((0 : Int32), yn (61 * l), B) = some y := e2
  rw [e1', e2']
  rcases x with x | x <;> rcases y with y | y
  · exact ⟨_, _, rfl, rfl, e3⟩
  · exact absurd e3 id
  · exact absurd e3 id
  · exact ⟨_, _, rfl, rfl, rfl⟩
