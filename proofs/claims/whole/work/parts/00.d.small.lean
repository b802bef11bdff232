/-! SMALL FUNCTIONS, THE TOWN -/
noncomputable def yb (p : Prop) : Int32 := @ite _ p (Classical.propDecidable p) 1 0
theorem yb_t {p : Prop} (h : p) : yb p = 1 := by unfold yb; rw [if_pos h]
theorem yb_f {p : Prop} (h : ¬ p) : yb p = 0 := by unfold yb; rw [if_neg h]
theorem yb0 {p : Prop} : yb p = 0 ↔ ¬ p := by
  by_cases h : p
  · rw [yb_t h]; constructor
    · intro q; exact absurd q (by decide)
    · intro q; exact absurd h q
  · rw [yb_f h]; exact ⟨fun _ => h, fun _ => rfl⟩
theorem yb1 {p : Prop} : yb p = 1 ↔ p := by
  by_cases h : p
  · rw [yb_t h]; exact ⟨fun _ => h, fun _ => rfl⟩
  · rw [yb_f h]; constructor
    · intro q; exact absurd q (by decide)
    · intro q; exact absurd q h
theorem yb01 {p : Prop} : yb p = 0 ∨ yb p = 1 := by
  by_cases h : p
  · exact Or.inr (yb_t h)
  · exact Or.inl (yb_f h)
theorem yb_ite0 {α : Type} {p : Prop} {i : Decidable (yb p = 0)} {x y : α} : @ite _ (yb p = 0) i x y = @ite _ p (Classical.propDecidable p) y x := by
  by_cases h : p
  · rw [if_neg (fun q => yb0.mp q h), if_pos h]
  · rw [if_pos (yb0.mpr h), if_neg h]
theorem yb_guard {α : Type} {p : Prop} {i : Decidable (yb p = 0 ∨ yb p = 1)} {x y : α} : @ite _ (yb p = 0 ∨ yb p = 1) i x y = x := if_pos yb01
theorem yb_congr {p q : Prop} (h : p ↔ q) : yb p = yb q := by rw [propext h]
theorem i_not_lt {x y : Int32} : ¬ x < y ↔ y ≤ x := Int32.not_lt
theorem i_not_le {x y : Int32} : ¬ x ≤ y ↔ y < x := Int32.not_le
theorem f126_e (v0 v1 v2 : Int32) : f126_within v0 v1 v2 = some (yb (v1 ≤ v0 ∧ v0 ≤ v2)) := by
  unfold f126_within
  by_cases h1 : v0 < v1
  · rw [if_pos h1, yb_f]; exact fun h => Int32.not_le.mpr h1 h.1
  · rw [if_neg h1]
    by_cases h2 : v2 < v0
    · rw [if_pos h2, yb_f]; exact fun h => Int32.not_le.mpr h2 h.2
    · rw [if_neg h2, yb_t]; exact ⟨Int32.not_lt.mp h1, Int32.not_lt.mp h2⟩
theorem f129_e (v0 v1 v2 : Int32) : f129_in v0 v1 v2 = some (yb (v1 ≤ v0 ∧ v0 ≤ v2)) := f126_e v0 v1 v2
/-- a number of a row with n of them -/
def yIs (n : Nat) (v : Int32) : Prop := ∃ i, i < n ∧ v = yn i
theorem yn0 : (0 : Int32) = yn 0 := rfl
theorem yIs_iff {n : Nat} {v : Int32} (hn : n < 2147483648) : yIs n v ↔ 0 ≤ v ∧ v < yn n := by
  constructor
  · rintro ⟨i, hi, rfl⟩
    rw [yn0, yn_le (by omega) (by omega), yn_lt (by omega) (by omega)]
    omega
  · rintro ⟨h1, h2⟩
    have h1 : (0 : Int) ≤ v.toInt := Int32.le_iff_toInt_le.mp h1
    obtain ⟨m, hm, rfl⟩ := yn_of h1
    rw [yn_lt hm hn] at h2
    exact ⟨m, h2, rfl⟩
theorem yIs_in {n : Nat} {v : Int32} (hn : n < 2147483648) : yIs n v ↔ 0 ≤ v ∧ v ≤ yn n - 1 := by
  rw [yIs_iff hn]
  refine and_congr_right fun h => ?_
  have h1 : (0 : Int) ≤ v.toInt := Int32.le_iff_toInt_le.mp h
  obtain ⟨m, hm, rfl⟩ := yn_of h1
  rw [yn_lt hm hn]
  cases n with
  | zero =>
    constructor
    · intro h; omega
    · intro h
      exfalso
      have h := Int32.le_iff_toInt_le.mp h
      rw [yn_toInt hm] at h
      have e : (yn 0 - 1).toInt = -1 := by decide
      omega
  | succ k =>
    have e : yn (k + 1) - 1 = yn k := yn_sub (a := k + 1) (b := 1) (by omega)
    rw [e, yn_le hm (by omega)]
    omega
theorem f61_e {a : Nat} {A : yI} (h : A 1 0 = yn a) (ha : a ≤ 4) (v : Int32) : f61_isSquare v A = some (yb (yIs a v)) := by
  unfold f61_isSquare
  rw [h]
  by_cases h1 : v < 0
  · rw [if_pos h1, yb_f]; rw [yIs_iff (by omega)]; exact fun h => Int32.not_le.mpr h1 h.1
  · rw [if_neg h1]
    by_cases h2 : yn a ≤ v
    · rw [if_pos h2, yb_f]; rw [yIs_iff (by omega)]; exact fun h => Int32.not_le.mpr h.2 h2
    · rw [if_neg h2, yb_t]; rw [yIs_iff (by omega)]; exact ⟨Int32.not_lt.mp h1, Int32.not_le.mp h2⟩
theorem f62_e {a : Nat} {A : yI} (h : A 1 2 = yn a) (ha : a ≤ 8) (v : Int32) : f62_isSort v A = some (yb (yIs a v)) := by
  unfold f62_isSort
  rw [h]
  by_cases h1 : v < 0
  · rw [if_pos h1, yb_f]; rw [yIs_iff (by omega)]; exact fun h => Int32.not_le.mpr h1 h.1
  · rw [if_neg h1]
    by_cases h2 : yn a ≤ v
    · rw [if_pos h2, yb_f]; rw [yIs_iff (by omega)]; exact fun h => Int32.not_le.mpr h.2 h2
    · rw [if_neg h2, yb_t]; rw [yIs_iff (by omega)]; exact ⟨Int32.not_lt.mp h1, Int32.not_le.mp h2⟩
theorem f130_e {a : Nat} {B : yI} (h : B 73 1 = yn a) (ha : a ≤ 4) (v : Int32) : f130_isSquare v B = some (yb (yIs a v)) := by
  unfold f130_isSquare
  rw [f129_e, h]
  show (if _ then _ else _) = _
  rw [yb_guard, yb_congr (yIs_in (by omega))]
theorem f131_e {a : Nat} {B : yI} (h : B 73 9 = yn a) (ha : a ≤ 8) (v : Int32) : f131_isSort v B = some (yb (yIs a v)) := by
  unfold f131_isSort
  rw [f129_e, h]
  show (if _ then _ else _) = _
  rw [yb_guard, yb_congr (yIs_in (by omega))]
/-- two unlike squares, told as tens and ones -/
def yTwo (a : Nat) (v : Int32) : Prop := 0 ≤ v ∧ yIs a (v / 10) ∧ yIs a (v - v / 10 * 10) ∧ v / 10 ≠ v - v / 10 * 10
theorem f63_e {a : Nat} {A : yI} (h : A 1 0 = yn a) (ha : a ≤ 4) (v : Int32) : f63_areTwoSquares v A = some (yb (yTwo a v)) := by
  unfold f63_areTwoSquares
  rw [f61_e h ha, f61_e h ha]
  by_cases h1 : v < 0
  · rw [if_pos h1, yb_f]; exact fun h => Int32.not_le.mpr h1 h.1
  · rw [if_neg h1]
    show (if _ then _ else _) = _
    rw [yb_ite0]
    by_cases h2 : yIs a (v / 10)
    · rw [if_pos h2]
      show (if _ then _ else _) = _
      rw [yb_ite0]
      by_cases h3 : yIs a (v - v / 10 * 10)
      · rw [if_pos h3]
        by_cases h4 : v / 10 = v - v / 10 * 10
        · rw [if_pos h4, yb_f]; exact fun h => h.2.2.2 h4
        · rw [if_neg h4, yb_t]; exact ⟨Int32.not_lt.mp h1, h2, h3, h4⟩
      · rw [if_neg h3, yb_f]; exact fun h => h3 h.2.2.1
    · rw [if_neg h2, yb_f]; exact fun h => h2 h.2.1
/-- a small number -/
def yq (x : Int32) (lo hi : Nat) : Prop := ∃ m, lo ≤ m ∧ m ≤ hi ∧ x = yn m
theorem yq_of {x : Int32} {lo hi : Nat} (hh : hi < 2147483648) (hl : lo ≤ hi) (h1 : yn lo ≤ x) (h2 : x ≤ yn hi) : yq x lo hi := by
  have h1' := Int32.le_iff_toInt_le.mp h1
  have h2' := Int32.le_iff_toInt_le.mp h2
  rw [yn_toInt (by omega)] at h1' h2'
  obtain ⟨m, hm, rfl⟩ := yn_of (x := x) (by omega)
  rw [yn_toInt hm] at h1' h2'
  exact ⟨m, by omega, by omega, rfl⟩
def ySqs (a : Nat) (A B : yI) : Prop := ∀ i, i < a → (yq (A 2 i) 0 999 ∧ B 74 i = A 2 i) ∧ (yq (A 3 i) 0 2 ∧ B 75 i = A 3 i)
def yWys (a w : Nat) (A B : yI) : Prop := ∀ i, i < w → (∃ p q, p < a ∧ q < a ∧ p ≠ q ∧ A 4 i = yn p ∧ A 5 i = yn q) ∧ (B 76 i = A 4 i ∧ B 77 i = A 5 i) ∧ (yq (A 6 i) 1 30 ∧ B 78 i = A 6 i) ∧ (yq (A 7 i) 1 99 ∧ B 79 i = A 7 i)
def ySos (a s : Nat) (A B : yI) : Prop := ∀ i, i < s → (yq (A 8 i) 0 200 ∧ B 80 i = A 8 i) ∧ (yq (A 9 i) 0 1 ∧ B 81 i = A 9 i) ∧ (yIs a (A 10 i) ∧ B 82 i = A 10 i) ∧ (yq (A 11 i) 1 3 ∧ B 83 i = A 11 i) ∧ (yq (A 12 i) 0 3 ∧ B 84 i = A 12 i)
def yNum (a w s : Nat) (A B : yI) : Prop := (a ≤ 4 ∧ w ≤ 12 ∧ s ≤ 8) ∧ (A 1 0 = yn a ∧ A 1 1 = yn w ∧ A 1 2 = yn s) ∧ (B 73 1 = yn a ∧ B 73 4 = yn w ∧ B 73 9 = yn s)
def ySet (A B : yI) : Prop := (yq (A 1 3) 1 60 ∧ B 73 15 = A 1 3) ∧ (yq (A 1 4) 0 9 ∧ B 73 16 = A 1 4) ∧ (yq (A 1 5) 0 20 ∧ B 73 17 = A 1 5)
def yTown (a w s : Nat) (A B : yI) : Prop := yNum a w s A B ∧ ySet A B ∧ ySqs a A B ∧ yWys a w A B ∧ ySos a s A B
/-- two memories are alike at these places -/
def yag (K : List Nat) (A A' : yI) : Prop := ∀ a k, ymem K (ykey a k) = true → A' a k = A a k
def ydis : List Nat → List Nat → Bool
  | [], _ => true
  | k :: K, W => !(ymem W k) && ydis K W
theorem ydis_mem {x : Nat} : ∀ {K W : List Nat}, ydis K W = true → ymem K x = true → ymem W x = false
  | [], W, _, h => by cases h
  | k :: K, W, hd, h => by
    unfold ydis at hd
    unfold ymem at h
    rw [Bool.and_eq_true] at hd
    rw [Bool.or_eq_true] at h
    rcases h with h | h
    · rw [← Nat.eq_of_beq_eq_true h]; simpa using hd.1
    · exact ydis_mem hd.2 h
theorem yag_fr {K W : List Nat} {A A' : yI} (hd : ydis K W = true) (h : yfr W A A') : yag K A A' := fun a k hk => h a k (ydis_mem hd hk)
theorem yag_refl {K : List Nat} (A : yI) : yag K A A := fun _ _ _ => rfl
theorem yag_trans {K : List Nat} {A B C : yI} (h1 : yag K A B) (h2 : yag K B C) : yag K A C := fun a k h => (h2 a k h).trans (h1 a k h)
theorem yag_sub {K L : List Nat} {A B : yI} (hs : ysub K L = true) (h : yag L A B) : yag K A B := fun a k hk => h a k (ysub_mem hs hk)
def kTA : List Nat := [100, 101, 102, 103, 104, 105, 299, 399, 499, 599, 699, 799, 899, 999, 1099, 1199, 1299]
def kTB : List Nat := [7301, 7304, 7309, 7315, 7316, 7317, 7499, 7599, 7699, 7799, 7899, 7999, 8099, 8199, 8299, 8399, 8499]
theorem yTown_ag {a w s : Nat} {A B A' B' : yI} (hA : yag kTA A A') (hB : yag kTB B B') (h : yTown a w s A B) : yTown a w s A' B' := by
  have f1 : A' 1 0 = A 1 0 := hA 1 0 rfl
  have f2 : A' 1 1 = A 1 1 := hA 1 1 rfl
  have f3 : A' 1 2 = A 1 2 := hA 1 2 rfl
  have f4 : A' 1 3 = A 1 3 := hA 1 3 rfl
  have f5 : A' 1 4 = A 1 4 := hA 1 4 rfl
  have f6 : A' 1 5 = A 1 5 := hA 1 5 rfl
  have g1 : ∀ i, A' 2 i = A 2 i := fun i => hA 2 i rfl
  have g2 : ∀ i, A' 3 i = A 3 i := fun i => hA 3 i rfl
  have g3 : ∀ i, A' 4 i = A 4 i := fun i => hA 4 i rfl
  have g4 : ∀ i, A' 5 i = A 5 i := fun i => hA 5 i rfl
  have g5 : ∀ i, A' 6 i = A 6 i := fun i => hA 6 i rfl
  have g6 : ∀ i, A' 7 i = A 7 i := fun i => hA 7 i rfl
  have g7 : ∀ i, A' 8 i = A 8 i := fun i => hA 8 i rfl
  have g8 : ∀ i, A' 9 i = A 9 i := fun i => hA 9 i rfl
  have g9 : ∀ i, A' 10 i = A 10 i := fun i => hA 10 i rfl
  have g10 : ∀ i, A' 11 i = A 11 i := fun i => hA 11 i rfl
  have g11 : ∀ i, A' 12 i = A 12 i := fun i => hA 12 i rfl
  have e1 : B' 73 1 = B 73 1 := hB 73 1 rfl
  have e2 : B' 73 4 = B 73 4 := hB 73 4 rfl
  have e3 : B' 73 9 = B 73 9 := hB 73 9 rfl
  have e4 : B' 73 15 = B 73 15 := hB 73 15 rfl
  have e5 : B' 73 16 = B 73 16 := hB 73 16 rfl
  have e6 : B' 73 17 = B 73 17 := hB 73 17 rfl
  have d1 : ∀ i, B' 74 i = B 74 i := fun i => hB 74 i rfl
  have d2 : ∀ i, B' 75 i = B 75 i := fun i => hB 75 i rfl
  have d3 : ∀ i, B' 76 i = B 76 i := fun i => hB 76 i rfl
  have d4 : ∀ i, B' 77 i = B 77 i := fun i => hB 77 i rfl
  have d5 : ∀ i, B' 78 i = B 78 i := fun i => hB 78 i rfl
  have d6 : ∀ i, B' 79 i = B 79 i := fun i => hB 79 i rfl
  have d7 : ∀ i, B' 80 i = B 80 i := fun i => hB 80 i rfl
  have d8 : ∀ i, B' 81 i = B 81 i := fun i => hB 81 i rfl
  have d9 : ∀ i, B' 82 i = B 82 i := fun i => hB 82 i rfl
  have d10 : ∀ i, B' 83 i = B 83 i := fun i => hB 83 i rfl
  have d11 : ∀ i, B' 84 i = B 84 i := fun i => hB 84 i rfl
  unfold yTown yNum ySet ySqs yWys ySos at *
  simp only [f1, f2, f3, f4, f5, f6, g1, g2, g3, g4, g5, g6, g7, g8, g9, g10, g11, e1, e2, e3, e4, e5, e6, d1, d2, d3, d4, d5, d6, d7, d8, d9, d10, d11]
  exact h
/-- what a class function and the reference's give alike -/
def y2 {α β : Type} (o : Option α) (o' : Option β) (R : α → β → Prop) : Prop := ∃ x y, o = some x ∧ o' = some y ∧ R x y
theorem y2_of {α β : Type} {o : Option α} {o' : Option β} {R : α → β → Prop} {x : α} {y : β} (h1 : o = some x) (h2 : o' = some y) (h : R x y) : y2 o o' R := ⟨x, y, h1, h2, h⟩
theorem ob {α β : Type} (x : α) (k : α → Option β) : Option.bind (some x) k = k x := rfl
theorem c_square {a w s : Nat} {A B : yI} (hT : yTown a w s A B) (v1 v2 : Int32) : y2 (f86_square v1 v2 A) (f132_square v1 v2 B) (fun x y => x.1 = y.1 ∧ ∃ a', yTown a' w s x.2 y.2) := by
  obtain ⟨⟨⟨ha, hw, hs⟩, ⟨a1, a2, a3⟩, ⟨b1, b2, b3⟩⟩, hSet, hSq, hWy, hSo⟩ := hT
  unfold f86_square f132_square
  rw [f126_e, f126_e, f129_e, f129_e]
  simp only [ob, yb_ite0]
  by_cases h1 : 0 ≤ v1 ∧ v1 ≤ 999
  · rw [if_pos h1, if_pos h1]
    by_cases h2 : 0 ≤ v2 ∧ v2 ≤ 2
    · rw [if_pos h2, if_pos h2]
      unfold f64_addSquare
      rw [a1, b1]
      by_cases h3 : a = 4
      · subst h3
        exact ⟨_, _, rfl, rfl, rfl, 4, ⟨⟨ha, hw, hs⟩, ⟨a1, a2, a3⟩, ⟨b1, b2, b3⟩⟩, hSet, hSq, hWy, hSo⟩
      · have h4 : ¬ yn a = 4 := by
          show ¬ yn a = yn 4
          rw [yn_inj (by omega) (by omega)]; exact h3
        have q1 : yq v1 0 999 := yq_of (by omega) (by omega) h1.1 h1.2
        have q2 : yq v2 0 2 := yq_of (by omega) (by omega) h2.1 h2.2
        have e1 : yn a + 1 = yn (a + 1) := yn_add a 1
        rw [if_neg h4, if_neg h4, zin_yn (by omega) (by omega), yn_nat (by omega)]
        refine ⟨_, _, rfl, rfl, rfl, a + 1, ⟨⟨by omega, hw, hs⟩, ?_, ?_⟩, ?_, ?_, ?_, ?_⟩
        · simp [zu_at, e1, a2, a3]
        · simp [zu_at, e1, b2, b3]
        · simpa [ySet, zu_at] using hSet
        · intro i hi
          by_cases e : i = a
          · subst e
            simp [zu_at, q1, q2]
          · simpa [zu_at, e] using hSq i (by omega)
        · intro i hi
          obtain ⟨⟨p, q, hp, hq, hr⟩, h⟩ := hWy i hi
          simp only [zu_at]
          exact ⟨⟨p, q, by omega, by omega, by simpa using hr⟩, by simpa using h⟩
        · intro i hi
          obtain ⟨h1, h2, ⟨⟨p, hp, hp2⟩, h3⟩, h4⟩ := hSo i hi
          have : yIs (a + 1) (A 10 i) := ⟨p, by omega, hp2⟩
          simpa [zu_at] using ⟨h1, h2, ⟨this, h3⟩, h4⟩
    · rw [if_neg h2, if_neg h2]
      exact ⟨_, _, rfl, rfl, rfl, a, ⟨⟨ha, hw, hs⟩, ⟨a1, a2, a3⟩, ⟨b1, b2, b3⟩⟩, hSet, hSq, hWy, hSo⟩
  · rw [if_neg h1, if_neg h1]
    exact ⟨_, _, rfl, rfl, rfl, a, ⟨⟨ha, hw, hs⟩, ⟨a1, a2, a3⟩, ⟨b1, b2, b3⟩⟩, hSet, hSq, hWy, hSo⟩
