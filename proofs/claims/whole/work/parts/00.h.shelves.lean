/-! SHELVES -/
theorem i64_lt {x y : Int64} : x < y ↔ x.toInt < y.toInt := Int64.lt_iff_toInt_lt
theorem lg_pos {x y : Int64} : (0 : Int32) < lg_cmp x y ↔ y < x := by
  unfold lg_cmp
  by_cases h : x > y
  · rw [if_pos h]; exact ⟨fun _ => h, fun _ => by decide⟩
  · rw [if_neg h]
    by_cases h2 : x = y
    · rw [if_pos h2]; exact ⟨fun q => absurd q (by decide), fun q => absurd q h⟩
    · rw [if_neg h2]; exact ⟨fun q => absurd q (by decide), fun q => absurd q h⟩
theorem lg_neg {x y : Int64} : lg_cmp x y < (0 : Int32) ↔ x < y := by
  unfold lg_cmp
  by_cases h : x > y
  · rw [if_pos h]; refine ⟨fun q => absurd q (by decide), fun q => ?_⟩
    have h := i64_lt.mp h
    have q := i64_lt.mp q
    omega
  · rw [if_neg h]
    by_cases h2 : x = y
    · rw [if_pos h2]; refine ⟨fun q => absurd q (by decide), fun q => ?_⟩
      subst h2
      have q := i64_lt.mp q
      omega
    · rw [if_neg h2]; refine ⟨fun _ => ?_, fun _ => by decide⟩
      rw [i64_lt]
      have h3 : ¬ x.toInt = y.toInt := fun q => h2 (Int64.toInt_inj.mp q)
      have h4 : ¬ y.toInt < x.toInt := fun q => h (i64_lt.mpr q)
      omega
theorem lg_le0 {x y : Int64} : lg_cmp x y ≤ (0 : Int32) ↔ ¬ y < x := by
  rw [← lg_pos, Int32.not_lt]
theorem lg_ge0 {x y : Int64} : (0 : Int32) ≤ lg_cmp x y ↔ ¬ x < y := by
  rw [← lg_neg, Int32.not_lt]
theorem lg_eq0 {x y : Int64} : lg_cmp x y = (0 : Int32) ↔ x = y := by
  unfold lg_cmp
  by_cases h : x > y
  · rw [if_pos h]; refine ⟨fun q => absurd q (by decide), fun q => ?_⟩
    subst q
    have h := i64_lt.mp h
    omega
  · rw [if_neg h]
    by_cases h2 : x = y
    · rw [if_pos h2]; exact ⟨fun _ => h2, fun _ => rfl⟩
    · rw [if_neg h2]; exact ⟨fun q => absurd q (by decide), fun q => absurd q h2⟩
theorem l_add {x y : Int64} (h1 : -9223372036854775808 ≤ x.toInt + y.toInt) (h2 : x.toInt + y.toInt < 9223372036854775808) : (x + y).toInt = x.toInt + y.toInt := by
  rw [Int64.toInt_add]
  exact Int.bmod_eq_of_le (by omega) (by omega)
theorem i32_rg (x : Int32) : -2147483648 ≤ x.toInt ∧ x.toInt < 2147483648 := ⟨x.le_toInt, x.toInt_lt⟩
theorem f56_e (v0 : Nat) (v1 v2 : Int32) (A : yI) : f56_hasPlaces v0 v1 v2 A = some (yb (0 ≤ v1.toInt ∧ 0 ≤ v2.toInt ∧ v1.toInt + v2.toInt ≤ (A v0 2).toInt)) := by
  unfold f56_hasPlaces
  have e0 : (0 : Int32).toInt = 0 := by decide
  have r1 := i32_rg v1
  have r2 := i32_rg v2
  by_cases h1 : v1 < 0
  · rw [if_pos h1, yb_f]; rw [Int32.lt_iff_toInt_lt, e0] at h1; omega
  · rw [if_neg h1]; rw [Int32.lt_iff_toInt_lt, e0] at h1
    by_cases h2 : v2 < 0
    · rw [if_pos h2, yb_f]; rw [Int32.lt_iff_toInt_lt, e0] at h2; omega
    · rw [if_neg h2]; rw [Int32.lt_iff_toInt_lt, e0] at h2
      have e : (v1.toInt64 + v2.toInt64).toInt = v1.toInt + v2.toInt := by
        have g1 : v1.toInt64.toInt = v1.toInt := Int32.toInt_toInt64 v1
        have g2 : v2.toInt64.toInt = v2.toInt := Int32.toInt_toInt64 v2
        rw [l_add (by omega) (by omega), g1, g2]
      have g3 : (A v0 2).toInt64.toInt = (A v0 2).toInt := Int32.toInt_toInt64 _
      by_cases h3 : (0 : Int32) < lg_cmp (v1.toInt64 + v2.toInt64) (A v0 2).toInt64
      · rw [if_pos h3, yb_f]; rw [lg_pos, i64_lt, e, g3] at h3; omega
      · rw [if_neg h3, yb_t]; rw [lg_pos, i64_lt, e, g3] at h3; omega
/-- a row's elements are as its sort keeps them -/
def yRng (t : Nat) (x : Int64) : Prop := (t = 0 → -128 ≤ x.toInt ∧ x.toInt ≤ 127) ∧ (t = 1 → -32768 ≤ x.toInt ∧ x.toInt ≤ 32767)
def yEmpty (A B : yI) (i : Nat) : Prop := A (61 + 2 * i) 0 = -1 ∧ A (61 + 2 * i) 1 = -1 ∧ A (61 + 2 * i) 2 = 0 ∧ B 110 i = -1
def yBody (nb : Nat) (A B : yI) (i : Nat) : Prop := ∃ b, b < nb ∧ A (61 + 2 * i) 0 = yn b ∧ A (61 + 2 * i) 1 = -1 ∧ A (61 + 2 * i) 2 = 0 ∧ B 110 i = yn b
def yRow (A B : yI) (JA : yJ) (i : Nat) (t n : Nat) : Prop := t ≤ 4 ∧ n ≤ 60 ∧ A (61 + 2 * i) 0 = -1 ∧ A (61 + 2 * i) 1 = yn t ∧ A (61 + 2 * i) 2 = yn n ∧ B 110 i = -2 - yn t ∧ B 111 i = yn n ∧ ∀ k, k < 60 → yRng t (JA (62 + 2 * i) k)
def ySh (nb : Nat) (A B : yI) (JA JB : yJ) : Prop := ∀ i, i < 6 → (yEmpty A B i ∨ yBody nb A B i ∨ ∃ t n, yRow A B JA i t n) ∧ ∀ k, k < 60 → JB 112 (60 * i + k) = JA (62 + 2 * i) k
def kSB : List Nat := [11099, 11199]
theorem ySh_ag {nb nb' : Nat} {A B A' B' : yI} {JA JB : yJ} (hn : nb ≤ nb') (hA : yag ySHF A A') (hB : yag kSB B B') (h : ySh nb A B JA JB) : ySh nb' A' B' JA JB := by
  intro i hi
  have f : ∀ k, k < 3 → A' (61 + 2 * i) k = A (61 + 2 * i) k := by
    intro k hk
    refine hA _ _ (yshfw ?_ hk)
    unfold yIsShelf
    omega
  have f0 := f 0 (by omega)
  have f1 := f 1 (by omega)
  have f2 := f 2 (by omega)
  have d1 : B' 110 i = B 110 i := hB 110 i rfl
  have d2 : B' 111 i = B 111 i := hB 111 i rfl
  obtain ⟨h1, h2⟩ := h i hi
  refine ⟨?_, h2⟩
  unfold yEmpty yBody yRow at *
  rw [f0, f1, f2, d1, d2]
  rcases h1 with h1 | ⟨b, hb, h1⟩ | h1
  · exact Or.inl h1
  · exact Or.inr (Or.inl ⟨b, by omega, h1⟩)
  · exact Or.inr (Or.inr h1)
theorem f127_e (v : Int32) : f127_isShelf v = some (yb (yIs 6 v)) := by
  unfold f127_isShelf
  rw [f126_e]
  show (if _ then _ else _) = _
  rw [yb_guard, yb_congr (yIs_in (n := 6) (by omega))]
  rfl
theorem f210_e (v : Int32) : f210_isShelf v = some (yb (yIs 6 v)) := f127_e v
theorem zshelf_yn {i : Nat} (h : i < 6) : zshelf (yn i) = 61 + 2 * i := by unfold zshelf; rw [yn_nat (by omega)]
theorem m1 : ¬ (0 : Int32) ≤ -1 := by decide
theorem yn_pos {n : Nat} (h : n < 2147483648) : (0 : Int32) ≤ yn n := yn_ge0 h
theorem yn_ne1 {n : Nat} (h : n < 2147483648) : ¬ yn n = -1 := by
  intro q
  have h1 := yn_pos h
  rw [q] at h1
  exact m1 h1
section SH
variable {nb : Nat} {A B : yI} {JA JB : yJ} {i t n : Nat}
theorem empty_e (h : yEmpty A B i) : f52_isEmpty (61 + 2 * i) A = some 1 ∧ ∀ w, f55_refusal (61 + 2 * i) w A = some (-11) := by
  obtain ⟨h1, h2, h3, h4⟩ := h
  have e : f52_isEmpty (61 + 2 * i) A = some 1 := by
    unfold f52_isEmpty f51_isRow
    rw [h1, h2]; rfl
  refine ⟨e, fun w => ?_⟩
  unfold f55_refusal
  rw [e]; rfl
theorem body_e (hb : nb ≤ 50) (h : yBody nb A B i) : f52_isEmpty (61 + 2 * i) A = some 0 ∧ f51_isRow (61 + 2 * i) A = some 0 ∧ ∀ w, f55_refusal (61 + 2 * i) w A = some (-12) := by
  obtain ⟨b, hb, h1, h2, h3, h4⟩ := h
  have e : f52_isEmpty (61 + 2 * i) A = some 0 := by
    unfold f52_isEmpty
    rw [h1, if_pos (yn_pos (by omega))]
  have e2 : f51_isRow (61 + 2 * i) A = some 0 := by
    unfold f51_isRow
    rw [h2]; rfl
  refine ⟨e, e2, fun w => ?_⟩
  unfold f55_refusal
  rw [e, ob, e2]; rfl
theorem row_e (h : yRow A B JA i t n) : f52_isEmpty (61 + 2 * i) A = some 0 ∧ f51_isRow (61 + 2 * i) A = some 1 ∧ f55_refusal (61 + 2 * i) (-1) A = some 0 ∧ ∀ w, w < 5 → f55_refusal (61 + 2 * i) (yn w) A = some (if w = t then 0 else -12) := by
  obtain ⟨ht, hn, h1, h2, h3, h4, h5, h6⟩ := h
  have e2 : f51_isRow (61 + 2 * i) A = some 1 := by
    unfold f51_isRow
    rw [h2, if_neg (yn_ne1 (by omega))]
  have e : f52_isEmpty (61 + 2 * i) A = some 0 := by
    unfold f52_isEmpty
    rw [h1, if_neg m1, e2]; rfl
  refine ⟨e, e2, ?_, fun w hw => ?_⟩
  · unfold f55_refusal
    rw [e, ob, e2]; rfl
  · unfold f55_refusal
    rw [e, ob, e2, ob, if_pos rfl, if_neg (by decide), if_neg (yn_ne1 (by omega)), h2]
    by_cases q : w = t
    · rw [if_pos q, if_pos (by rw [q])]
    · rw [if_neg q, if_neg]
      rw [yn_inj (by omega) (by omega)]; exact q
theorem row_b (h : yRow A B JA i t n) : ¬ B 110 i = -1 ∧ B 110 i < 0 ∧ -2 - B 110 i = yn t := by
  obtain ⟨ht, hn, h1, h2, h3, h4, h5, h6⟩ := h
  rw [h4]
  have ht5 : t = 0 ∨ t = 1 ∨ t = 2 ∨ t = 3 ∨ t = 4 := by omega
  rcases ht5 with rfl | rfl | rfl | rfl | rfl <;> decide
theorem body_b (hb : nb ≤ 50) (h : yBody nb A B i) : ¬ B 110 i = -1 ∧ ¬ B 110 i < 0 := by
  obtain ⟨b, hb, h1, h2, h3, h4⟩ := h
  rw [h4]
  exact ⟨yn_ne1 (by omega), Int32.not_lt.mpr (yn_pos (by omega))⟩
end SH
/-- a place in a row -/
theorem place_e {nb : Nat} {A B : yI} {JA JB : yJ} (hb : nb ≤ 50) (h : ySh nb A B JA JB) (v1 v2 : Int32) : (∃ r, r < 0 ∧ f122_placeRefusal v1 v2 A = some r ∧ f213_whyNoPlace v1 v2 B = some r) ∨ (∃ i t n k, i < 6 ∧ k < n ∧ v1 = yn i ∧ v2 = yn k ∧ yRow A B JA i t n ∧ f122_placeRefusal v1 v2 A = some 0 ∧ f213_whyNoPlace v1 v2 B = some 0) := by
  unfold f122_placeRefusal f213_whyNoPlace
  rw [f127_e, f210_e]
  simp only [ob, yb_ite0]
  by_cases hv : yIs 6 v1
  · rw [if_pos hv, if_pos hv]
    obtain ⟨i, hi, rfl⟩ := hv
    rw [zin_yn (by omega) (by omega), yn_nat (by omega), zshelf_yn hi]
    simp only [cond_true]
    rcases (h i hi).1 with q | q | ⟨t, n, q⟩
    · left
      rw [(empty_e q).2, q.2.2.2]
      exact ⟨-11, by decide, rfl, rfl⟩
    · left
      rw [(body_e hb q).2.2, if_neg (body_b hb q).1, if_neg (body_b hb q).2]
      exact ⟨-12, by decide, rfl, rfl⟩
    · rw [(row_e q).2.2.1, if_neg (row_b q).1, if_pos (row_b q).2.1, ob, if_pos rfl, f56_e, f129_e, q.2.2.2.2.1, q.2.2.2.2.2.2.1, ← yb_congr (yIs_in (n := n) (v := v2) (by have := q.2.1; omega))]
      simp only [ob, yb_ite0]
      have hn := q.2.1
      have e1 : (1 : Int32).toInt = 1 := by decide
      rw [yn_toInt (by omega), e1]
      by_cases hk : yIs n v2
      · right
        obtain ⟨k, hk2, rfl⟩ := id hk
        rw [if_pos hk, yn_toInt (by omega), if_pos (by omega)]
        exact ⟨i, t, n, k, hi, hk2, rfl, rfl, q, rfl, rfl⟩
      · left
        rw [if_neg hk, if_neg]
        · exact ⟨-13, by decide, rfl, rfl⟩
        · rintro ⟨g1, g2, g3⟩
          apply hk
          obtain ⟨m, hm, rfl⟩ := yn_of g1
          rw [yn_toInt hm] at g3
          exact ⟨m, by omega, rfl⟩
  · left
    rw [if_neg hv, if_neg hv]
    exact ⟨-1, by decide, rfl, rfl⟩
theorem f57_ok {A : yI} {JA : yJ} {i n k : Nat} (hk : k < n) (hn : n ≤ 60) (h : A (61 + 2 * i) 2 = yn n) : f57_at (61 + 2 * i) (yn k) A JA = some (JA (62 + 2 * i) k) := by
  unfold f57_at
  have e1 : (1 : Int32).toInt = 1 := by decide
  rw [f56_e, h, ob, yn_toInt (by omega), yn_toInt (by omega), e1, yb_t (by omega), if_neg (by decide), zin_yn (by omega) (by omega), yn_nat (by omega)]
  have e : 61 + 2 * i + 1 = 62 + 2 * i := by omega
  rw [e]; rfl
theorem c_element {nb : Nat} {A B : yI} {JA JB : yJ} (hb : nb ≤ 50) (h : ySh nb A B JA JB) (v1 v2 : Int32) : ∃ r, f121_element v1 v2 A JA = some r ∧ f215_element v1 v2 B JB = some r := by
  unfold f121_element f215_element
  rcases place_e hb h v1 v2 with ⟨r, h1, h2, h3⟩ | ⟨i, t, n, k, hi, hk, rfl, rfl, q, h2, h3⟩
  · rw [h2, h3, ob, ob, if_neg (Int32.not_le.mpr h1), if_neg]
    · exact ⟨_, rfl, rfl⟩
    · rintro rfl; exact absurd h1 (by decide)
  · have hn := q.2.1
    rw [h2, h3, ob, ob, if_pos rfl, if_pos (by decide), zin_yn (by omega) (by omega), zshelf_yn hi, f57_ok hk hn q.2.2.2.2.1]
    have e : 60 * yn i + yn k = yn (60 * i + k) := by
      show yn 60 * yn i + yn k = _
      rw [yn_mul, yn_add]
    rw [e, zin_yn (by omega) (by omega), yn_nat (by omega), (h i hi).2 k (by omega)]
    exact ⟨_, rfl, rfl⟩
theorem zuj_at (J : yJ) (a k : Nat) (x : Int64) (b j : Nat) : zuj J a k x b j = if b = a ∧ j = k then x else J b j := by
  unfold zuj va_up vp_updL
  by_cases h : b = a
  · subst h
    by_cases h2 : j = k
    · rw [if_pos rfl, if_pos h2, if_pos ⟨rfl, h2⟩]
    · rw [if_pos rfl, if_neg h2, if_neg (fun h => h2 h.2)]
  · rw [if_neg h, if_neg (fun h2 => h h2.1)]
/-- the class's rows lie below 73, the reference's above -/
def yJhi (J J' : yJ) : Prop := ∀ a k, 73 ≤ a → J' a k = J a k
def yJlo (J J' : yJ) : Prop := ∀ a k, a < 73 → J' a k = J a k
theorem byte_rg (x : Int32) : -128 ≤ x.toInt8.toInt32.toInt64.toInt ∧ x.toInt8.toInt32.toInt64.toInt ≤ 127 := by
  have e : x.toInt8.toInt32.toInt64.toInt = x.toInt8.toInt := by simp
  rw [e]
  have := x.toInt8.le_toInt
  have := x.toInt8.toInt_lt
  omega
theorem short_rg (x : Int32) : -32768 ≤ x.toInt16.toInt32.toInt64.toInt ∧ x.toInt16.toInt32.toInt64.toInt ≤ 32767 := by
  have e : x.toInt16.toInt32.toInt64.toInt = x.toInt16.toInt := by simp
  rw [e]
  have := x.toInt16.le_toInt
  have := x.toInt16.toInt_lt
  omega
theorem put_ok {nb : Nat} {A B : yI} {JA JB : yJ} (h : ySh nb A B JA JB) {i t n k : Nat} (hi : i < 6) (hk : k < n) (q : yRow A B JA i t n) {x : Int64} (hx : yRng t x) : ySh nb A B (zuj JA (62 + 2 * i) k x) (zuj JB 112 (60 * i + k) x) := by
  have hn := q.2.1
  intro j hj
  obtain ⟨h1, h2⟩ := h j hj
  by_cases e : j = i
  · subst e
    refine ⟨Or.inr (Or.inr ⟨t, n, ?_⟩), fun m hm => ?_⟩
    · obtain ⟨q1, q2, q3, q4, q5, q6, q7, q8⟩ := q
      refine ⟨q1, q2, q3, q4, q5, q6, q7, fun m hm => ?_⟩
      rw [zuj_at]
      by_cases g : m = k
      · rw [if_pos ⟨rfl, g⟩]; exact hx
      · rw [if_neg (fun z => g z.2)]; exact q8 m hm
    · rw [zuj_at, zuj_at]
      by_cases g : m = k
      · rw [if_pos ⟨rfl, by omega⟩, if_pos ⟨rfl, g⟩]
      · rw [if_neg (by omega), if_neg (by omega)]; exact h2 m hm
  · refine ⟨?_, fun m hm => ?_⟩
    · rcases h1 with h1 | h1 | ⟨t', n', p1, p2, p3, p4, p5, p6, p7, p8⟩
      · exact Or.inl h1
      · exact Or.inr (Or.inl h1)
      · refine Or.inr (Or.inr ⟨t', n', p1, p2, p3, p4, p5, p6, p7, fun m hm => ?_⟩)
        rw [zuj_at, if_neg (by omega)]; exact p8 m hm
    · rw [zuj_at, zuj_at, if_neg (by omega), if_neg (by omega)]; exact h2 m hm
theorem c_put {nb : Nat} {A B : yI} {JA JB : yJ} (hb : nb ≤ 50) (h : ySh nb A B JA JB) (v1 v2 : Int32) (v3 : Int64) : y2 (f120_put v1 v2 v3 A JA) (f214_put v1 v2 v3 B JB) (fun x y => x.1 = y.1 ∧ ySh nb A B x.2 y.2 ∧ yJhi JA x.2 ∧ yJlo JB y.2) := by
  unfold f120_put f214_put
  rcases place_e hb h v1 v2 with ⟨r, h1, h2, h3⟩ | ⟨i, t, n, k, hi, hk, rfl, rfl, q, h2, h3⟩
  · rw [h2, h3, ob, ob, if_neg (Int32.not_le.mpr h1), if_neg]
    · exact ⟨_, _, rfl, rfl, rfl, h, fun _ _ _ => rfl, fun _ _ _ => rfl⟩
    · rintro rfl; exact absurd h1 (by decide)
  · have hn := q.2.1
    have ht := q.1
    have e : 60 * yn i + yn k = yn (60 * i + k) := by
      show yn 60 * yn i + yn k = _
      rw [yn_mul, yn_add]
    have e1 : (1 : Int32).toInt = 1 := by decide
    have e62 : 61 + 2 * i + 1 = 62 + 2 * i := by omega
    rw [h2, h3, ob, ob, if_pos rfl, if_pos (by decide), zin_yn (by omega) (by omega), zshelf_yn hi, e, zin_yn (m := 60 * i + k) (by omega) (by omega), yn_nat (by omega), yn_nat (by omega), (row_b q).2.2]
    unfold f58_become f59_lowestBits
    rw [f56_e, q.2.2.2.2.1, q.2.2.2.1, yn_toInt (by omega), yn_toInt (by omega), e1, yb_t (by omega), zin_yn (by omega) (by omega), yn_nat (by omega), e62]
    have fin : ∀ {x : Int64}, yRng t x → y2 (some ((1 : Int32), zuj JA (62 + 2 * i) k x)) (some ((1 : Int32), zuj JB 112 (60 * i + k) x)) (fun x y => x.1 = y.1 ∧ ySh nb A B x.2 y.2 ∧ yJhi JA x.2 ∧ yJlo JB y.2) := by
      intro x hx
      refine ⟨_, _, rfl, rfl, rfl, put_ok h hi hk q hx, fun a j ha => ?_, fun a j ha => ?_⟩
      · show zuj _ _ _ _ _ _ = _
        rw [zuj_at, if_neg (by omega)]
      · show zuj _ _ _ _ _ _ = _
        rw [zuj_at, if_neg (by omega)]
    have ht5 : t = 0 ∨ t = 1 ∨ t = 2 ∨ t = 3 ∨ t = 4 := by omega
    rcases ht5 with rfl | rfl | rfl | rfl | rfl
    · exact fin ⟨fun _ => byte_rg _, fun q => absurd q (by omega)⟩
    · exact fin ⟨fun q => absurd q (by omega), fun _ => short_rg _⟩
    · exact fin ⟨fun q => absurd q (by omega), fun q => absurd q (by omega)⟩
    · exact fin ⟨fun q => absurd q (by omega), fun q => absurd q (by omega)⟩
    · show y2 (Option.bind (Option.bind (if lg_cmp v3 0 = 0 then some 0 else some 1) fun t4 => some (zuj JA (62 + 2 * i) k t4)) fun t5 => some (1, t5)) (if lg_cmp v3 0 = 0 then some (1, zuj JB 112 (60 * i + k) 0) else some (1, zuj JB 112 (60 * i + k) 1)) _
      by_cases z : lg_cmp v3 0 = 0
      · rw [if_pos z, if_pos z]
        exact fin ⟨fun q => absurd q (by omega), fun q => absurd q (by omega)⟩
      · rw [if_neg z, if_neg z]
        exact fin ⟨fun q => absurd q (by omega), fun q => absurd q (by omega)⟩
