/-! SHELVES: KEEP, ROW, SHIFT, TAKEN; COUNT -/
theorem yne {i j : Nat} (h : i ≠ j) (k : Nat) : ¬ (61 + 2 * i = 61 + 2 * j ∧ k = k) := by omega
/-- one shelf changes -/
theorem sh_one {nb : Nat} {A B A' B' : yI} {JA JB JA' JB' : yJ} {i : Nat} (hi : i < 6) (h : ySh nb A B JA JB) (ha : ∀ j k, j ≠ i → k < 3 → A' (61 + 2 * j) k = A (61 + 2 * j) k) (hb : ∀ j, j ≠ i → B' 110 j = B 110 j ∧ B' 111 j = B 111 j) (hja : ∀ j k, j ≠ i → j < 6 → k < 60 → JA' (62 + 2 * j) k = JA (62 + 2 * j) k ∧ JB' 112 (60 * j + k) = JB 112 (60 * j + k)) (h1 : yEmpty A' B' i ∨ yBody nb A' B' i ∨ ∃ t n, yRow A' B' JA' i t n) (h2 : ∀ k, k < 60 → JB' 112 (60 * i + k) = JA' (62 + 2 * i) k) : ySh nb A' B' JA' JB' := by
  intro j hj
  by_cases e : j = i
  · subst e; exact ⟨h1, h2⟩
  · obtain ⟨g1, g2⟩ := h j hj
    have f0 := ha j 0 e (by omega)
    have f1 := ha j 1 e (by omega)
    have f2 := ha j 2 e (by omega)
    obtain ⟨d1, d2⟩ := hb j e
    refine ⟨?_, fun k hk => ?_⟩
    · unfold yEmpty yBody yRow at *
      rw [f0, f1, f2, d1, d2]
      rcases g1 with g1 | g1 | ⟨t, n, p1, p2, p3, p4, p5, p6, p7, p8⟩
      · exact Or.inl g1
      · exact Or.inr (Or.inl g1)
      · exact Or.inr (Or.inr ⟨t, n, p1, p2, p3, p4, p5, p6, p7, fun k hk => by rw [(hja j k e hj hk).1]; exact p8 k hk⟩)
    · rw [(hja j k e hj hk).1, (hja j k e hj hk).2]; exact g2 k hk
theorem hold_ok {nb : Nat} {A B : yI} {JA JB : yJ} (h : ySh nb A B JA JB) {i : Nat} (hi : i < 6) (x : Int32) (hx : x = -1 ∨ yIs nb x) : ySh nb (zu (zu (zu A (61 + 2 * i) 0 x) (61 + 2 * i) 1 (-1)) (61 + 2 * i) 2 0) (zu B 110 i x) JA JB := by
  refine sh_one hi h ?_ ?_ (fun j k _ _ _ => ⟨rfl, rfl⟩) ?_ (h i hi).2
  · intro j k hj hk
    simp only [zu_at]
    rw [if_neg (by omega), if_neg (by omega), if_neg (by omega)]
  · intro j hj
    simp [zu_at, hj]
  · rcases hx with rfl | ⟨b, hb, rfl⟩
    · left
      unfold yEmpty
      simp [zu_at]
    · right; left
      refine ⟨b, hb, ?_⟩
      simp [zu_at]
theorem c_keep {nb : Nat} {A B : yI} {JA JB : yJ} (hA : yActs nb A B) (h : ySh nb A B JA JB) (v1 v2 : Int32) : y2 (f118_keep v1 v2 A) (f211_keep v1 v2 B) (fun x y => x.1 = y.1 ∧ ySh nb x.2 y.2 JA JB) := by
  obtain ⟨⟨h1, h2, h3⟩, -⟩ := hA
  unfold f118_keep f211_keep
  rw [f127_e, f210_e, f4_e h2 h1, f192_e h3 h1]
  simp only [ob, yb_ite0]
  by_cases hv : yIs 6 v1
  · rw [if_pos hv, if_pos hv]
    obtain ⟨i, hi, rfl⟩ := hv
    rw [zin_yn (by omega) (by omega), yn_nat (by omega), zshelf_yn hi]
    simp only [cond_true]
    by_cases e : v2 = -1
    · rw [if_pos e, if_pos e]
      exact ⟨_, _, rfl, rfl, rfl, hold_ok h hi v2 (Or.inl e)⟩
    · rw [if_neg e, if_neg e]
      by_cases hb : yIs nb v2
      · rw [if_pos hb, if_pos hb]
        exact ⟨_, _, rfl, rfl, rfl, hold_ok h hi v2 (Or.inr hb)⟩
      · rw [if_neg hb, if_neg hb]
        exact ⟨_, _, rfl, rfl, rfl, h⟩
  · rw [if_neg hv, if_neg hv]
    exact ⟨_, _, rfl, rfl, rfl, h⟩
theorem f54_L {J : yJ} (a : Nat) (I : yI) : yP (zloop (f54_holdRow_L17 a I) 5000 ((0 : Int32), J)) (fun x => ∀ b k, x.2 b k = if b = a + 1 ∧ k < 60 then 0 else J b k) := by
  refine yP_for 60 (fun m s => s.1 = yn m ∧ ∀ b k, s.2 b k = if b = a + 1 ∧ k < m then 0 else J b k) (k := 0) ⟨rfl, fun b k => ?_⟩ (by omega) (by omega) ?_ ?_
  · rw [if_neg (by omega)]
  · rintro m s hm ⟨e, h⟩
    unfold f54_holdRow_L17
    have e40 : ¬ (60 : Int32) ≤ yn m := by
      show ¬ yn 60 ≤ yn m
      rw [yn_le (by omega) (by omega)]; omega
    rw [e, if_neg e40, zin_yn (by omega) (by omega), yn_nat (by omega), yn_succ]
    refine yP_some ⟨rfl, fun b k => ?_⟩
    dsimp only
    rw [zuj_at, h b k]
    by_cases g : b = a + 1 ∧ k = m
    · rw [if_pos g, if_pos (by omega)]
    · rw [if_neg g]
      by_cases g2 : b = a + 1 ∧ k < m
      · rw [if_pos g2, if_pos (by omega)]
      · rw [if_neg g2, if_neg (by omega)]
  · rintro s ⟨e, h⟩
    unfold f54_holdRow_L17
    rw [e]
    exact yP_pos (Int32.le_refl _) (yP_some h)
theorem f212_L {J : yJ} {i : Nat} (hi : i < 6) (I : yI) : yP (zloop (f212_row_L54 (yn i) I) 5000 (60 * yn i, J)) (fun x => ∀ b k, x.2 b k = if b = 112 ∧ 60 * i ≤ k ∧ k < 60 * i + 60 then 0 else J b k) := by
  have e0 : (60 : Int32) * yn i = yn (60 * i) := yn_mul 60 i
  rw [e0]
  refine yP_for (60 * i + 60) (fun m s => s.1 = yn m ∧ 60 * i ≤ m ∧ ∀ b k, s.2 b k = if b = 112 ∧ 60 * i ≤ k ∧ k < m then 0 else J b k) (k := 60 * i) ⟨rfl, by omega, fun b k => ?_⟩ (by omega) (by omega) ?_ ?_
  · rw [if_neg (by omega)]
  · rintro m s hm ⟨e, hm2, h⟩
    unfold f212_row_L54
    have e40 : ¬ (60 : Int32) * yn i + 60 ≤ yn m := by
      rw [e0]
      show ¬ yn (60 * i) + yn 60 ≤ yn m
      rw [yn_add, yn_le (by omega) (by omega)]; omega
    rw [e, if_neg e40, zin_yn (by omega) (by omega), yn_nat (by omega), yn_succ]
    refine yP_some ⟨rfl, by omega, fun b k => ?_⟩
    dsimp only
    rw [zuj_at, h b k]
    by_cases g : b = 112 ∧ k = m
    · rw [if_pos g, if_pos (by omega)]
    · rw [if_neg g]
      by_cases g2 : b = 112 ∧ 60 * i ≤ k ∧ k < m
      · rw [if_pos g2, if_pos (by omega)]
      · rw [if_neg g2, if_neg (by omega)]
  · rintro s ⟨e, hm2, h⟩
    unfold f212_row_L54
    have e2 : (60 : Int32) * yn i + 60 = yn (60 * i + 60) := by
      rw [e0]
      exact yn_add _ 60
    rw [e, e2]
    exact yP_pos (Int32.le_refl _) (yP_some h)
theorem c_row {nb : Nat} {A B : yI} {JA JB : yJ} (h : ySh nb A B JA JB) (v1 v2 v3 : Int32) : y2 (f119_row v1 v2 v3 A JA) (f212_row v1 v2 v3 B JB) (fun x y => x.1 = y.1 ∧ ySh nb x.2.1 y.2.1 x.2.2 y.2.2 ∧ yJhi JA x.2.2 ∧ yJlo JB y.2.2) := by
  have done : ∀ {r : Int32}, y2 (some (r, A, JA)) (some (r, B, JB)) (fun x y => x.1 = y.1 ∧ ySh nb x.2.1 y.2.1 x.2.2 y.2.2 ∧ yJhi JA x.2.2 ∧ yJlo JB y.2.2) := ⟨_, _, rfl, rfl, rfl, h, fun _ _ _ => rfl, fun _ _ _ => rfl⟩
  unfold f119_row f212_row
  rw [f127_e, f210_e, f126_e, f129_e]
  simp only [ob, yb_ite0]
  by_cases hv : yIs 6 v1
  · rw [if_pos hv, if_pos hv]
    by_cases hs : 0 ≤ v2 ∧ v2 ≤ 4
    · rw [if_pos hs, if_pos hs]
      by_cases h60 : v3 ≤ 60
      · rw [if_pos h60, if_pos h60]
        by_cases h0 : 0 ≤ v3
        · rw [if_pos h0, if_pos h0]
          obtain ⟨i, hi, rfl⟩ := hv
          obtain ⟨t, -, ht, rfl⟩ := yq_of (lo := 0) (hi := 4) (by omega) (by omega) hs.1 hs.2
          obtain ⟨n, -, hn, rfl⟩ := yq_of (lo := 0) (hi := 60) (by omega) (by omega) h0 h60
          rw [zin_yn (by omega) (by omega), yn_nat (by omega), zshelf_yn hi]
          simp only [cond_true]
          unfold f54_holdRow
          obtain ⟨⟨k1, J1⟩, e1, g1⟩ := f54_L (J := JA) (61 + 2 * i) (zu (zu (zu A (61 + 2 * i) 0 (-1)) (61 + 2 * i) 1 (yn t)) (61 + 2 * i) 2 (yn n))
          obtain ⟨⟨k2, J2⟩, e2, g2⟩ := f212_L (J := JB) hi (zu (zu B 110 i ((-2) - yn t)) 111 i (yn n))
          dsimp only at g1 g2
          rw [e1, e2]
          refine ⟨_, _, rfl, rfl, rfl, sh_one hi h ?_ ?_ ?_ (Or.inr (Or.inr ⟨t, n, ht, hn, ?_, ?_, ?_, ?_, ?_, ?_⟩)) ?_, ?_, ?_⟩
          · intro j k hj hk
            simp only [zu_at]
            rw [if_neg (by omega), if_neg (by omega), if_neg (by omega)]
          · intro j hj
            simp [zu_at, hj]
          · intro j k hj hj6 hk
            dsimp only
            rw [g1, g2, if_neg (by omega), if_neg (by omega)]
            exact ⟨rfl, rfl⟩
          · simp [zu_at]
          · simp [zu_at]
          · simp [zu_at]
          · simp [zu_at]
          · simp [zu_at]
          · intro k hk
            dsimp only
            rw [g1, if_pos (by omega)]
            exact ⟨fun _ => by decide, fun _ => by decide⟩
          · intro k hk
            dsimp only
            rw [g1, g2, if_pos (by omega), if_pos (by omega)]
          · intro a k ha
            dsimp only
            rw [g1, if_neg (by omega)]
          · intro a k ha
            dsimp only
            rw [g2, if_neg (by omega)]
        · rw [if_neg h0, if_neg h0]; exact done
      · rw [if_neg h60, if_neg h60]; exact done
    · rw [if_neg hs, if_neg hs]; exact done
  · rw [if_neg hv, if_neg hv]; exact done
theorem zcpj_at (J : yJ) (a b : Nat) (sp dp n : Int32) (c j : Nat) : zcpj J a b sp dp n c j = if c = b ∧ (dp.toNatClampNeg ≤ j ∧ j < dp.toNatClampNeg + n.toNatClampNeg) then J a (sp.toNatClampNeg + (j - dp.toNatClampNeg)) else J c j := by
  unfold zcpj va_up va_cpy
  by_cases h : c = b
  · subst h
    rw [if_pos rfl]
    by_cases h2 : dp.toNatClampNeg ≤ j ∧ j < dp.toNatClampNeg + n.toNatClampNeg
    · rw [if_pos h2, if_pos ⟨rfl, h2⟩]
    · rw [if_neg h2, if_neg (fun h => h2 h.2)]
  · rw [if_neg h, if_neg (fun h2 => h h2.1)]
theorem zcpok_yn {p q n a b : Nat} (h1 : p + n ≤ a) (h2 : q + n ≤ b) (ha : a < 2147483648) (hb : b < 2147483648) : zcpok (yn p) (yn q) (yn n) a b = true := by
  have g : ∀ m, m < 2147483648 → decide (yn m < 0) = false := fun m hm => decide_eq_false (Int32.not_lt.mpr (yn_pos hm))
  unfold zcpok
  rw [g p (by omega), g q (by omega), g n (by omega), yn_nat (by omega), yn_nat (by omega), yn_nat (by omega)]
  simp
  omega
theorem f216_L1 {J : yJ} {i p n : Nat} (hi : i < 6) (hp : p + n ≤ 60) (I : yI) (v3 v4 : Int32) : yP (zloop (f216_shift_L113 (yn i) (yn p) v3 v4 (yn n) I) 5000 ((0 : Int32), J)) (fun x => ∀ b k, x.2 b k = if b = 113 ∧ k < n then J 112 (60 * i + p + k) else J b k) := by
  refine yP_for n (fun m s => s.1 = yn m ∧ ∀ b k, s.2 b k = if b = 113 ∧ k < m then J 112 (60 * i + p + k) else J b k) (k := 0) ⟨rfl, fun b k => ?_⟩ (by omega) (by omega) ?_ ?_
  · rw [if_neg (by omega)]
  · rintro m s hm ⟨e, h⟩
    unfold f216_shift_L113
    have e40 : ¬ yn n ≤ yn m := by rw [yn_le (by omega) (by omega)]; omega
    have ei : (60 : Int32) * yn i + yn p + yn m = yn (60 * i + p + m) := by
      show yn 60 * yn i + yn p + yn m = _
      rw [yn_mul, yn_add, yn_add]
    rw [e, if_neg e40, ei, zin_yn (by omega) (by omega), zin_yn (by omega) (by omega), yn_nat (by omega), yn_nat (by omega), yn_succ]
    refine yP_some ⟨rfl, fun b k => ?_⟩
    dsimp only
    have e3 : s.2 112 (60 * i + p + m) = J 112 (60 * i + p + m) := by rw [h, if_neg (by omega)]
    rw [zuj_at, h b k, e3]
    by_cases g : b = 113 ∧ k = m
    · rw [if_pos g, if_pos (by omega), g.2]
    · rw [if_neg g]
      by_cases g2 : b = 113 ∧ k < m
      · rw [if_pos g2, if_pos (by omega)]
      · rw [if_neg g2, if_neg (by omega)]
  · rintro s ⟨e, h⟩
    unfold f216_shift_L113
    rw [e]
    exact yP_pos (Int32.le_refl _) (yP_some h)
theorem f216_L2 {J : yJ} {i p n : Nat} (hi : i < 6) (hp : p + n ≤ 60) (I : yI) : yP (zloop (f216_shift_L150 (yn i) (yn p) (yn n) I) 5000 ((0 : Int32), J)) (fun x => ∀ b k, x.2 b k = if b = 112 ∧ 60 * i + p ≤ k ∧ k < 60 * i + p + n then J 113 (k - (60 * i + p)) else J b k) := by
  refine yP_for n (fun m s => s.1 = yn m ∧ ∀ b k, s.2 b k = if b = 112 ∧ 60 * i + p ≤ k ∧ k < 60 * i + p + m then J 113 (k - (60 * i + p)) else J b k) (k := 0) ⟨rfl, fun b k => ?_⟩ (by omega) (by omega) ?_ ?_
  · rw [if_neg (by omega)]
  · rintro m s hm ⟨e, h⟩
    unfold f216_shift_L150
    have e40 : ¬ yn n ≤ yn m := by rw [yn_le (by omega) (by omega)]; omega
    have ei : (60 : Int32) * yn i + yn p + yn m = yn (60 * i + p + m) := by
      show yn 60 * yn i + yn p + yn m = _
      rw [yn_mul, yn_add, yn_add]
    rw [e, if_neg e40, ei, zin_yn (by omega) (by omega), zin_yn (by omega) (by omega), yn_nat (by omega), yn_nat (by omega), yn_succ]
    refine yP_some ⟨rfl, fun b k => ?_⟩
    dsimp only
    have e3 : s.2 113 m = J 113 m := by rw [h, if_neg (by omega)]
    rw [zuj_at, h b k, e3]
    by_cases g : b = 112 ∧ k = 60 * i + p + m
    · rw [if_pos g, if_pos (by omega), g.2]
      congr 1; omega
    · rw [if_neg g]
      by_cases g2 : b = 112 ∧ 60 * i + p ≤ k ∧ k < 60 * i + p + m
      · rw [if_pos g2, if_pos (by omega)]
      · rw [if_neg g2, if_neg (by omega)]
  · rintro s ⟨e, h⟩
    unfold f216_shift_L150
    rw [e]
    exact yP_pos (Int32.le_refl _) (yP_some h)
theorem c_shift {nb : Nat} {A B : yI} {JA JB : yJ} (hb : nb ≤ 50) (h : ySh nb A B JA JB) (v1 v2 v3 v4 v5 : Int32) : y2 (f123_shift v1 v2 v3 v4 v5 A JA) (f216_shift v1 v2 v3 v4 v5 B JB) (fun x y => x.1 = y.1 ∧ ySh nb A B x.2 y.2 ∧ yJhi JA x.2 ∧ yJlo JB y.2) := by
  have done : ∀ {r : Int32}, y2 (some (r, JA)) (some (r, JB)) (fun x y => x.1 = y.1 ∧ ySh nb A B x.2 y.2 ∧ yJhi JA x.2 ∧ yJlo JB y.2) := ⟨_, _, rfl, rfl, rfl, h, fun _ _ _ => rfl, fun _ _ _ => rfl⟩
  unfold f123_shift f216_shift
  rw [f127_e, f210_e, f127_e, f210_e]
  simp only [ob, yb_ite0]
  by_cases hv : yIs 6 v1
  · rw [if_pos hv, if_pos hv]
    by_cases hv3 : yIs 6 v3
    · rw [if_pos hv3, if_pos hv3]
      obtain ⟨i, hi, rfl⟩ := hv
      obtain ⟨j, hj, rfl⟩ := hv3
      rw [zin_yn (by omega) (by omega), zin_yn (by omega) (by omega), yn_nat (by omega), yn_nat (by omega), zshelf_yn hi, zshelf_yn hj]
      simp only [cond_true]
      rcases (h i hi).1 with q | q | ⟨t, n, q⟩
      · rw [(empty_e q).1, ob, if_neg (by decide), if_pos q.2.2.2]
        exact done
      · rw [(body_e hb q).1, ob, if_pos rfl, if_neg (body_b hb q).1, (body_e hb q).2.1]
        rcases (h j hj).1 with r | r | ⟨t', n', r⟩
        · rw [(empty_e r).1, ob, if_neg (by decide), if_pos r.2.2.2]
          exact done
        · rw [(body_e hb r).1, ob, if_pos rfl, if_neg (body_b hb r).1, ob, if_pos rfl, if_pos (Int32.not_lt.mp (body_b hb q).2)]
          exact done
        · rw [(row_e r).1, ob, if_pos rfl, if_neg (row_b r).1, ob, if_pos rfl, if_pos (Int32.not_lt.mp (body_b hb q).2)]
          exact done
      · rw [(row_e q).1, ob, if_pos rfl, if_neg (row_b q).1, (row_e q).2.1]
        rcases (h j hj).1 with r | r | ⟨t', n', r⟩
        · rw [(empty_e r).1, ob, if_neg (by decide), if_pos r.2.2.2]
          exact done
        · rw [(body_e hb r).1, ob, if_pos rfl, if_neg (body_b hb r).1, ob, if_neg (by decide), (body_e hb r).2.1, ob, if_pos rfl, if_neg (Int32.not_le.mpr (row_b q).2.1), if_neg]
          · exact done
          · intro z
            have := (row_b q).2.1
            rw [z] at this
            exact (body_b hb r).2 this
        · rw [(row_e r).1, ob, if_pos rfl, if_neg (row_b r).1, ob, if_neg (by decide), (row_e r).2.1, ob, if_neg (by decide), if_neg (Int32.not_le.mpr (row_b q).2.1)]
          have et : (A (61 + 2 * i) 1 = A (61 + 2 * j) 1) ↔ (B 110 i = B 110 j) := by
            have q1 := (row_b q).2.2
            have r1 := (row_b r).2.2
            rw [q.2.2.2.1, r.2.2.2.1, ← q1, ← r1]
            constructor
            · intro z
              have := congrArg (fun x => -2 - x) z
              simpa using this
            · intro z; rw [z]
          by_cases z : A (61 + 2 * i) 1 = A (61 + 2 * j) 1
          · rw [if_pos z, if_pos (et.mp z), f56_e, f56_e]
            simp only [ob, yb_ite0]
            have htt : t = t' := by
              have q1 := q.2.2.2.1
              have r1 := r.2.2.2.1
              rw [z, r1, yn_inj (by have := r.1; omega) (by have := q.1; omega)] at q1
              exact q1.symm
            subst htt
            have hn := q.2.1
            have hn' := r.2.1
            rw [q.2.2.2.2.1, r.2.2.2.2.1, q.2.2.2.2.2.2.1, r.2.2.2.2.2.2.1, yn_toInt (by omega), yn_toInt (by omega)]
            have e0 : (0 : Int32).toInt = 0 := by decide
            by_cases n5 : v5 < 0
            · rw [if_pos n5, if_neg (by rw [Int32.lt_iff_toInt_lt, e0] at n5; omega)]
              exact done
            · rw [if_neg n5]
              obtain ⟨c, hc, rfl⟩ := yn_nn (Int32.not_lt.mp n5)
              rw [yn_toInt hc]
              by_cases n2 : v2 < 0
              · rw [if_pos n2, if_neg (by rw [Int32.lt_iff_toInt_lt, e0] at n2; omega)]
                exact done
              · rw [if_neg n2]
                obtain ⟨p, hp, rfl⟩ := yn_nn (Int32.not_lt.mp n2)
                rw [yn_toInt hp]
                by_cases n4 : v4 < 0
                · have : ¬ ((0 : Int) ≤ v4.toInt ∧ (0 : Int) ≤ (c : Int) ∧ v4.toInt + (c : Int) ≤ (n' : Int)) := by rw [Int32.lt_iff_toInt_lt, e0] at n4; omega
                  rw [if_pos n4, if_neg this]
                  by_cases x : (0 : Int) ≤ (p : Int) ∧ (0 : Int) ≤ (c : Int) ∧ (p : Int) + (c : Int) ≤ (n : Int)
                  · rw [if_pos x]; exact done
                  · rw [if_neg x]; exact done
                · rw [if_neg n4]
                  obtain ⟨p', hp', rfl⟩ := yn_nn (Int32.not_lt.mp n4)
                  rw [yn_toInt hp']
                  have sub : ∀ m, m ≤ 60 → ∀ x, x < 2147483648 → (yn x ≤ yn m - yn c ↔ x + c ≤ m) := by
                    intro m hm x hx
                    rw [Int32.le_iff_toInt_le, Int32.toInt_sub, yn_toInt hx, yn_toInt (by omega), yn_toInt hc, Int.bmod_eq_of_le (by omega) (by omega)]
                    omega
                  by_cases x1 : p + c ≤ n
                  · rw [if_pos (by omega), if_neg (Int32.not_lt.mpr ((sub n hn p hp).mpr x1))]
                    by_cases x2 : p' + c ≤ n'
                    · rw [if_pos (by omega), if_pos ((sub n' hn' p' hp').mpr x2), zcpok_yn (by omega) (by omega) (by omega) (by omega)]
                      obtain ⟨⟨k1, J1⟩, e1, g1⟩ := f216_L1 (J := JB) (i := i) (p := p) (n := c) hi (by omega) B (yn j) (yn p')
                      obtain ⟨⟨k2, J2⟩, e2, g2⟩ := f216_L2 (J := J1) (i := j) (p := p') (n := c) hj (by omega) B
                      dsimp only at g1 g2
                      rw [e1, ob]
                      dsimp only
                      rw [e2]
                      have e62 : 61 + 2 * i + 1 = 62 + 2 * i := by omega
                      have e62j : 61 + 2 * j + 1 = 62 + 2 * j := by omega
                      rw [e62, e62j]
                      have gA : ∀ b k, zcpj JA (62 + 2 * i) (62 + 2 * j) (yn p) (yn p') (yn c) b k = if b = 62 + 2 * j ∧ (p' ≤ k ∧ k < p' + c) then JA (62 + 2 * i) (p + (k - p')) else JA b k := by
                        intro b k
                        rw [zcpj_at, yn_nat hp, yn_nat hp', yn_nat hc]
                      have gB : ∀ b k, b ≠ 113 → J2 b k = if b = 112 ∧ 60 * j + p' ≤ k ∧ k < 60 * j + p' + c then JB 112 (60 * i + p + (k - (60 * j + p'))) else JB b k := by
                        intro b k hb
                        rw [g2]
                        by_cases y : b = 112 ∧ 60 * j + p' ≤ k ∧ k < 60 * j + p' + c
                        · rw [if_pos y, if_pos y, g1, if_pos ⟨rfl, by omega⟩]
                        · rw [if_neg y, if_neg y, g1, if_neg (fun q => hb q.1)]
                      refine ⟨_, _, rfl, rfl, rfl, sh_one hj h (fun _ _ _ _ => rfl) (fun _ _ => ⟨rfl, rfl⟩) ?_ (Or.inr (Or.inr ⟨t, n', r.1, r.2.1, r.2.2.1, r.2.2.2.1, r.2.2.2.2.1, r.2.2.2.2.2.1, r.2.2.2.2.2.2.1, ?_⟩)) ?_, ?_, ?_⟩
                      · intro l k hl hl6 hk
                        dsimp only
                        rw [gA, gB _ _ (by omega), if_neg (by omega), if_neg (by omega)]
                        exact ⟨rfl, rfl⟩
                      · intro k hk
                        dsimp only
                        rw [gA]
                        by_cases y : (62 + 2 * j = 62 + 2 * j ∧ (p' ≤ k ∧ k < p' + c))
                        · rw [if_pos y]; exact q.2.2.2.2.2.2.2 _ (by omega)
                        · rw [if_neg y]; exact r.2.2.2.2.2.2.2 _ hk
                      · intro k hk
                        dsimp only
                        rw [gA, gB _ _ (by omega)]
                        by_cases y : p' ≤ k ∧ k < p' + c
                        · rw [if_pos (by omega), if_pos ⟨rfl, y⟩, ← (h i hi).2 _ (by omega)]
                          congr 1; omega
                        · rw [if_neg (by omega), if_neg (fun q => y q.2)]; exact (h j hj).2 k hk
                      · intro a k ha
                        dsimp only
                        rw [gA, if_neg (by omega)]
                      · intro a k ha
                        dsimp only
                        rw [gB _ _ (by omega), if_neg (by omega)]
                    · rw [if_neg (by omega), if_neg (fun q => x2 ((sub n' hn' p' hp').mp q))]
                      exact done
                  · rw [if_neg (by omega), if_pos (Int32.not_le.mp (fun q => x1 ((sub n hn p hp).mp q)))]
                    exact done
          · rw [if_neg z, if_neg (fun q => z (et.mpr q))]
            exact done
    · rw [if_neg hv3, if_neg hv3]; exact done
  · rw [if_neg hv, if_neg hv]; exact done
