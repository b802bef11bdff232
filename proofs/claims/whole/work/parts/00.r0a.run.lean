/-! A LAW GIVES, noon 24 -/
def ySt (d : Nat) (A B : yI) : Prop := A 15 5 = yn d ∧ ∀ j, j < d → B 92 j = A 23 j
theorem pop {d : Nat} {A : yI} (hd : d ≤ 63) (h : A 15 5 = yn (d + 1)) : f34_pop A = some (A 23 d, zu A 15 5 (yn d)) := by
  unfold f34_pop
  have e1 : (0 : Int32) < A 15 5 := by
    rw [h]
    show yn 0 < yn (d + 1)
    rw [yn_lt (by omega) (by omega)]; omega
  have em : yn (d + 1) - 1 = yn d := yn_sub (a := d + 1) (b := 1) (by omega)
  rw [if_pos e1, h, em, zin_yn (by omega) (by omega), yn_nat (by omega)]
  rfl
theorem push {d : Nat} {A : yI} (hd : d < 64) (h : A 15 5 = yn d) (v : Int32) : f33_push v A = some (zu (zu A 23 d v) 15 5 (yn (d + 1))) := by
  unfold f33_push
  have e1 : ¬ (64 : Int32) ≤ A 15 5 := by
    rw [h]
    show ¬ yn 64 ≤ yn d
    rw [yn_le (by omega) (by omega)]; omega
  rw [if_neg e1, h, zin_yn (by omega) (by omega), yn_nat (by omega), yn_succ]
  rfl
theorem joined {b : Nat} (hb : yBin b) (x y : Int32) : ∃ r, f32_joined x (yn (20000 + b) - 20000) y = some r ∧ f153_twoOf (yn b) x y = some r := by
  have e : yn (20000 + b) - 20000 = yn b := by
    show yn (20000 + b) - yn 20000 = _
    rw [yn_sub (by omega), Nat.add_sub_cancel_left]
  rw [e]
  have dv : ∀ z : Int32, z / (-1) = -z := fun z => by
    apply Int32.toInt_inj.mp
    have e1 : (-1 : Int32).toInt = -1 := by decide
    rw [Int32.toInt_div, e1, Int32.toInt_neg, Int.tdiv_neg, Int.tdiv_one]
  have ii : ∀ {c : Prop} {i : Decidable c} {u v : Int32}, (∃ r, (@ite _ c i (some u) (some v)) = some r ∧ (@ite _ c i (some u) (some v)) = some r) := by
    intro c i u v
    by_cases h : c
    · rw [if_pos h]; exact ⟨_, rfl, rfl⟩
    · rw [if_neg h]; exact ⟨_, rfl, rfl⟩
  have iii : ∀ {c c' : Prop} {i : Decidable c} {j : Decidable c'} {u v w : Int32}, (∃ r, (@ite _ c i (some u) (@ite _ c' j (some v) (some w))) = some r ∧ (@ite _ c i (some u) (@ite _ c' j (some v) (some w))) = some r) := by
    intro c c' i j u v w
    by_cases h : c
    · rw [if_pos h]; exact ⟨_, rfl, rfl⟩
    · rw [if_neg h]; exact ii
  have iv : ∀ {c c' : Prop} {i : Decidable c} {j : Decidable c'} {u v w : Int32}, (∃ r, (@ite _ c i (@ite _ c' j (some v) (some w)) (some u)) = some r ∧ (@ite _ c i (@ite _ c' j (some v) (some w)) (some u)) = some r) := by
    intro c c' i j u v w
    by_cases h : c
    · rw [if_pos h]; exact ii
    · rw [if_neg h]; exact ⟨_, rfl, rfl⟩
  rcases hb with rfl | rfl | rfl | rfl | rfl | rfl | rfl | rfl | rfl | rfl
  · show ∃ r, (if y = 0 then some 0 else if (y : Int32) = 0 then none else some (x - x / y * y)) = some r ∧ (if y = 0 then some 0 else if y = -1 then some 0 else if (y : Int32) = 0 then none else some (x - x / y * y)) = some r
    by_cases c : y = 0
    · rw [if_pos c, if_pos c]; exact ⟨_, rfl, rfl⟩
    · rw [if_neg c, if_neg c, if_neg c]
      by_cases c1 : y = -1
      · rw [if_pos c1, c1, dv]
        refine ⟨0, ?_, rfl⟩
        congr 1
        rw [Int32.mul_neg, Int32.mul_one, Int32.neg_neg, Int32.sub_self]
      · rw [if_neg c1]; exact ⟨_, rfl, rfl⟩
  · exact iii (c := x = 0) (c' := y = 0) (u := 0) (v := 0) (w := 1)
  · exact ⟨_, rfl, rfl⟩
  · exact ⟨_, rfl, rfl⟩
  · exact ⟨_, rfl, rfl⟩
  · show ∃ r, (if y = 0 then some 0 else if (y : Int32) = 0 then none else some (x / y)) = some r ∧ (if y = 0 then some 0 else if y = -1 then some (-x) else if (y : Int32) = 0 then none else some (x / y)) = some r
    by_cases c : y = 0
    · rw [if_pos c, if_pos c]; exact ⟨_, rfl, rfl⟩
    · rw [if_neg c, if_neg c, if_neg c]
      by_cases c1 : y = -1
      · rw [if_pos c1, c1, dv]; exact ⟨_, rfl, rfl⟩
      · rw [if_neg c1]; exact ⟨_, rfl, rfl⟩
  · exact ii (c := y ≤ x) (u := 0) (v := 1)
  · exact ii (c := x = y) (u := 1) (v := 0)
  · exact ii (c := x ≤ y) (u := 0) (v := 1)
  · exact iv (c := x = 0) (c' := y = 0) (u := 1) (v := 0) (w := 1)
/-- one code, one step -/
theorem tok {l p d d' : Nat} {c : Int32} {A B : yI} (e : Int32) (hp : p < 650) (hd : d ≤ 60) (hc : yTok c (B 86 p) (B 87 p) d d') (hs : ySt d A B) (hf : ∀ j, j < 8 → B 91 j = A 36 j) (hlt : ¬ 130 * yn l + e ≤ yn p) : ∃ A' B', f31_passesLine_15_36 c A = some (0, A') ∧ f154_worked_L12 (yn l) e (yn d, yn p, B) = some (.inr (yn d', yn (p + 1), B')) ∧ ySt d' A' B' ∧ yfr [1505, 2399] A A' ∧ yfr [9299] B B' ∧ c ≠ 20059 ∧ d' ≤ 61 := by
  obtain ⟨s1, s2⟩ := hs
  have hz : zin (yn p) 650 = true := zin_yn (by omega) (by omega)
  have pnat : (yn p).toNatClampNeg = p := yn_nat (by omega)
  unfold f31_passesLine_15_36 f154_worked_L12
  dsimp only
  rw [if_neg hlt, hz, pnat, cond_true]
  have sp : yn p + 1 = yn (p + 1) := yn_succ p
  have sd : yn d + 1 = yn (d + 1) := yn_succ d
  rcases hc with ⟨h1, rfl, n, hn, rfl, h2⟩ | ⟨h1, rfl, n, hn, rfl, h2⟩ | ⟨h1, rfl, hd1, rfl⟩ | ⟨h1, rfl, hd1, rfl⟩ | ⟨b, hb, rfl, hd1, h1, rfl⟩
  · -- a number
    have n1 : ¬ yn n = 20063 := by
      show ¬ yn n = yn 20063
      rw [yn_inj (by omega) (by omega)]; omega
    have n2 : ¬ (10000 : Int32) ≤ yn n := by
      show ¬ yn 10000 ≤ yn n
      rw [yn_le (by omega) (by omega)]; omega
    have n3 : yn n ≠ 20059 := by
      show ¬ yn n = yn 20059
      rw [yn_inj (by omega) (by omega)]; omega
    rw [if_neg n1, if_neg n2, push (by omega) s1, if_pos h1, if_pos h1, zin_yn (m := d) (by omega) (by omega), yn_nat (n := d) (by omega), h2, sp, sd]
    refine ⟨_, _, rfl, rfl, ⟨zu_same _ _ _ _, fun j hj => ?_⟩, yfr_zu rfl (yfr_zu rfl (yfr_refl _)), yfr_zu rfl (yfr_refl _), n3, by omega⟩
    simp only [zu_at]
    by_cases g : j = d
    · subst g; simp
    · simpa [g] using s2 j (by omega)
  · -- a name
    have n1 : ¬ yn (10000 + n) = 20063 := by
      show ¬ yn (10000 + n) = yn 20063
      rw [yn_inj (by omega) (by omega)]; omega
    have n2 : (10000 : Int32) ≤ yn (10000 + n) := by
      show yn 10000 ≤ yn (10000 + n)
      rw [yn_le (by omega) (by omega)]; omega
    have n4 : ¬ (20000 : Int32) ≤ yn (10000 + n) := by
      show ¬ yn 20000 ≤ yn (10000 + n)
      rw [yn_le (by omega) (by omega)]; omega
    have n3 : yn (10000 + n) ≠ 20059 := by
      show ¬ yn (10000 + n) = yn 20059
      rw [yn_inj (by omega) (by omega)]; omega
    have n5 : yn (10000 + n) - 10000 = yn n := by
      show yn (10000 + n) - yn 10000 = _
      rw [yn_sub (by omega), Nat.add_sub_cancel_left]
    have k1 : ¬ B 86 p = 1 := by rw [h1]; decide
    rw [if_neg n1, if_pos n2, if_neg n4, n5, if_neg k1, if_pos h1, if_neg k1, zin_yn (m := n) (by omega) (by omega), yn_nat (n := n) (by omega), push (by omega) s1, h2, zin_yn (m := n) (by omega) (by omega), zin_yn (m := d) (by omega) (by omega), yn_nat (n := d) (by omega), yn_nat (n := n) (by omega), hf n hn, sp, sd]
    refine ⟨_, _, rfl, rfl, ⟨zu_same _ _ _ _, fun j hj => ?_⟩, yfr_zu rfl (yfr_zu rfl (yfr_refl _)), yfr_zu rfl (yfr_refl _), n3, by omega⟩
    simp only [zu_at]
    by_cases g : j = d
    · subst g; simp
    · simpa [g] using s2 j (by omega)
  · -- not
    obtain ⟨m, rfl⟩ : ∃ m, d' = m + 1 := ⟨d' - 1, by omega⟩
    have k1 : ¬ B 86 p = 1 := by rw [h1]; decide
    have k2 : ¬ B 86 p = 2 := by rw [h1]; decide
    have em : yn (m + 1) - 1 = yn m := yn_sub (a := m + 1) (b := 1) (by omega)
    have hzm : zin (yn m) 130 = true := zin_yn (by omega) (by omega)
    have t15 : (zu A 15 5 (yn m)) 15 5 = yn m := zu_same _ _ _ _
    rw [if_neg (by decide), if_pos (by decide), if_pos (by decide), if_pos rfl, pop (by omega) s1, ob, if_neg k1, if_neg k2, if_pos h1, em, hzm, yn_nat (n := m) (by omega), sp]
    by_cases g0 : A 23 m = 0
    · rw [if_pos (show (A 23 m, zu A 15 5 (yn m)).1 = 0 from g0), if_pos (show B 92 m = 0 by rw [s2 m (by omega)]; exact g0), push (A := (A 23 m, zu A 15 5 (yn m)).2) (d := m) (by omega) t15]
      refine ⟨_, _, rfl, rfl, ⟨zu_same _ _ _ _, fun j hj => ?_⟩, yfr_zu rfl (yfr_zu rfl (yfr_zu rfl (yfr_refl _))), yfr_zu rfl (yfr_refl _), by decide, by omega⟩
      simp only [zu_at]
      by_cases g : j = m
      · subst g; simp
      · simpa [g] using s2 j (by omega)
    · rw [if_neg (show ¬ (A 23 m, zu A 15 5 (yn m)).1 = 0 from g0), if_neg (show ¬ B 92 m = 0 by rw [s2 m (by omega)]; exact g0), push (A := (A 23 m, zu A 15 5 (yn m)).2) (d := m) (by omega) t15]
      refine ⟨_, _, rfl, rfl, ⟨zu_same _ _ _ _, fun j hj => ?_⟩, yfr_zu rfl (yfr_zu rfl (yfr_zu rfl (yfr_refl _))), yfr_zu rfl (yfr_refl _), by decide, by omega⟩
      simp only [zu_at]
      by_cases g : j = m
      · subst g; simp
      · simpa [g] using s2 j (by omega)
  · -- minus
    obtain ⟨m, rfl⟩ : ∃ m, d' = m + 1 := ⟨d' - 1, by omega⟩
    have k1 : ¬ B 86 p = 1 := by rw [h1]; decide
    have k2 : ¬ B 86 p = 2 := by rw [h1]; decide
    have k3 : ¬ B 86 p = 3 := by rw [h1]; decide
    have em : yn (m + 1) - 1 = yn m := yn_sub (a := m + 1) (b := 1) (by omega)
    have hzm : zin (yn m) 130 = true := zin_yn (by omega) (by omega)
    have t15 : (zu A 15 5 (yn m)) 15 5 = yn m := zu_same _ _ _ _
    rw [if_neg (by decide), if_pos (by decide), if_pos (by decide), if_neg (by decide), if_pos rfl, pop (by omega) s1, ob, if_neg k1, if_neg k2, if_neg k3, if_pos h1, em, hzm, yn_nat (n := m) (by omega), s2 m (by omega), sp, push (by omega) t15]
    refine ⟨_, _, rfl, rfl, ⟨zu_same _ _ _ _, fun j hj => ?_⟩, yfr_zu rfl (yfr_zu rfl (yfr_zu rfl (yfr_refl _))), yfr_zu rfl (yfr_refl _), by decide, by omega⟩
    simp only [zu_at]
    by_cases g : j = m
    · subst g; simp
    · simpa [g] using s2 j (by omega)
  · -- two of them
    obtain ⟨m, rfl⟩ : ∃ m, d' = m + 1 := ⟨d' - 1, by omega⟩
    have hb2 : 37 ≤ b ∧ b ≤ 124 ∧ b ≠ 59 ∧ b ≠ 63 := by unfold yBin at hb; omega
    have ne : ∀ x, x < 100000 → x ≠ 20000 + b → ¬ yn (20000 + b) = yn x := by
      intro x hx hne z
      rw [yn_inj (by omega) (by omega)] at z
      omega
    have n1 : ¬ yn (20000 + b) = 20063 := ne 20063 (by omega) (by omega)
    have n2 : (10000 : Int32) ≤ yn (20000 + b) := by
      show yn 10000 ≤ yn (20000 + b)
      rw [yn_le (by omega) (by omega)]; omega
    have n4 : (20000 : Int32) ≤ yn (20000 + b) := by
      show yn 20000 ≤ yn (20000 + b)
      rw [yn_le (by omega) (by omega)]; omega
    have n5 : ¬ yn (20000 + b) = 20033 := ne 20033 (by omega) (by omega)
    have n6 : ¬ yn (20000 + b) = 20126 := ne 20126 (by omega) (by omega)
    have n3 : yn (20000 + b) ≠ 20059 := ne 20059 (by omega) (by omega)
    have kb : ∀ x, x < 37 → ¬ B 86 p = yn x := by
      intro x hx z
      rw [h1, yn_inj (by omega) (by omega)] at z
      omega
    have k1 : ¬ B 86 p = 1 := kb 1 (by omega)
    have k2 : ¬ B 86 p = 2 := kb 2 (by omega)
    have k3 : ¬ B 86 p = 3 := kb 3 (by omega)
    have k4 : ¬ B 86 p = 4 := kb 4 (by omega)
    have em : yn (m + 1 + 1) - 1 = yn (m + 1) := yn_sub (a := m + 1 + 1) (b := 1) (by omega)
    have em2 : yn (m + 1) - 1 = yn m := yn_sub (a := m + 1) (b := 1) (by omega)
    have hzm : zin (yn m) 130 = true := zin_yn (by omega) (by omega)
    have hzm1 : zin (yn (m + 1)) 130 = true := zin_yn (by omega) (by omega)
    have t15 : (zu A 15 5 (yn (m + 1))) 15 5 = yn (m + 1) := zu_same _ _ _ _
    have t15' : (zu (zu A 15 5 (yn (m + 1))) 15 5 (yn m)) 15 5 = yn m := zu_same _ _ _ _
    have t23 : (zu A 15 5 (yn (m + 1))) 23 m = A 23 m := zu_ne (by decide)
    obtain ⟨r, j1, j2⟩ := joined hb (A 23 m) (A 23 (m + 1))
    rw [if_neg n1, if_pos n2, if_pos n4, if_neg n5, if_neg n6, pop (by omega) s1, ob, pop (A := (A 23 (m + 1), zu A 15 5 (yn (m + 1))).2) (d := m) (by omega) t15, ob]
    dsimp only
    rw [t23, j1, ob, push (by omega) t15', if_neg k1, if_neg k2, if_neg k3, if_neg k4, em, em2, hzm, hzm1, yn_nat (n := m) (by omega), yn_nat (n := m + 1) (by omega), s2 m (by omega), s2 (m + 1) (by omega), h1, j2, sp]
    refine ⟨_, _, rfl, rfl, ⟨zu_same _ _ _ _, fun j hj => ?_⟩, yfr_zu rfl (yfr_zu rfl (yfr_zu rfl (yfr_zu rfl (yfr_refl _)))), yfr_zu rfl (yfr_refl _), n3, by omega⟩
    simp only [zu_at]
    by_cases g : j = m
    · subst g; simp
    · simpa [g] using s2 j (by omega)
/-- some codes, some steps: both run alike; n of them from code c0, step r0 on, in memories A, B -/
theorem seg {l c0 r0 n z e : Nat} {C : Nat → Int32} {A B : yI} (hl : l < 4) (hz : A 22 l = yn z) (hC : ∀ j, A (18 + l) j = C j) (hn : c0 + n < z) (hz2 : z ≤ 121) (he : r0 + n = e) (he2 : e ≤ 130) (hs : ySeg C (fun j => B 86 (130 * l + j)) (fun j => B 87 (130 * l + j)) c0 r0 n) (h0 : A 15 5 = yn 0) (hf : ∀ j, j < 8 → B 91 j = A 36 j) : ∃ A' B' v, (∀ k, zloopR (f30_gives_15_36_L10 (yn l)) (k + n) ((0 : Int32), yn c0, A) = zloopR (f30_gives_15_36_L10 (yn l)) k ((0 : Int32), yn (c0 + n), A')) ∧ f154_worked (yn l) (yn r0) (yn e) B = some (v, B') ∧ A' 15 5 = yn 1 ∧ A' 23 0 = v ∧ yfr [1505, 2399] A A' ∧ yfr [9299] B B' := by
  sorry
theorem gives {nl l : Nat} {A B : yI} (hL : yLaws nl A B) (hl : l < nl) (hf : ∀ j, j < 8 → B 91 j = A 36 j) : y2 (f30_gives_15_36 (yn l) A) (f155_gives (yn l) B) (fun x y => x.1 = y.1) := by
  sorry
