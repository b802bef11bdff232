/-! LAST, FLOW -/
def yTrip (a s v : Nat) : Prop := v / 100 < s ∧ v / 10 % 10 < a ∧ v % 10 < a ∧ v / 10 % 10 ≠ v % 10
theorem yIs_yn {n m : Nat} (hm : m < 2147483648) (hn : n < 2147483648) : yIs n (yn m) ↔ m < n := by
  constructor
  · rintro ⟨i, hi, e⟩
    rw [yn_inj hm (by omega)] at e
    omega
  · intro h; exact ⟨m, h, rfl⟩
theorem f101_e {a s : Nat} {A : yI} (ha : a ≤ 4) (hs : s ≤ 8) (a1 : A 1 0 = yn a) (a3 : A 1 2 = yn s) {v : Nat} (hv : v < 2147483648) : f101_isSortAndWay (yn v) A = some (yb (yTrip a s v)) := by
  unfold f101_isSortAndWay
  have d100 : yn v / 100 = yn (v / 100) := yn_div (d := 100) hv (by decide)
  have m100 : yn v - yn v / 100 * 100 = yn (v % 100) := yn_mod (d := 100) hv (by decide)
  rw [if_neg (Int32.not_lt.mpr (yn_pos hv)), m100, d100, f62_e a3 hs, f63_e a1 ha]
  simp only [ob, yb_ite0]
  have t : yTwo a (yn (v % 100)) ↔ v / 10 % 10 < a ∧ v % 10 < a ∧ v / 10 % 10 ≠ v % 10 := by
    unfold yTwo
    rw [yn_mod10 (by omega), yn_div10 (by omega), yIs_yn (by omega) (by omega), yIs_yn (by omega) (by omega), ne_eq, yn_inj (by omega) (by omega)]
    have e1 : v % 100 / 10 = v / 10 % 10 := by omega
    have e2 : v % 100 % 10 = v % 10 := by omega
    rw [e1, e2]
    exact ⟨fun h => h.2, fun h => ⟨yn_pos (by omega), h⟩⟩
  rw [← yb_congr t, yb_ite0] at *
  by_cases h1 : yIs s (yn (v / 100))
  · rw [if_pos h1]
    rw [yIs_yn (by omega) (by omega)] at h1
    by_cases h2 : yTwo a (yn (v % 100))
    · rw [if_pos h2, yb_t]; exact ⟨h1, t.mp h2⟩
    · rw [if_neg h2, yb_f]; exact fun q => h2 (t.mpr q.2)
  · rw [if_neg h1, yb_f]
    rw [yIs_yn (by omega) (by omega)] at h1
    exact fun q => h1 q.1
theorem f180_e {a s : Nat} {B : yI} (ha : a ≤ 4) (hs : s ≤ 8) (b1 : B 73 1 = yn a) (b3 : B 73 9 = yn s) {v : Nat} (hv : v < 2147483648) : f180_isTrip (yn v) B = some (yb (yTrip a s v)) := by
  unfold f180_isTrip
  have d100 : yn v / 100 = yn (v / 100) := yn_div (d := 100) hv (by decide)
  rw [if_neg (Int32.not_lt.mpr (yn_pos hv)), yn_mod10 hv, yn_div10 hv, yn_mod10 (m := v / 10) (by omega), d100, f131_e b3 hs, f130_e b1 ha, f130_e b1 ha]
  simp only [ob, yb_ite0]
  unfold yTrip
  rw [yIs_yn (by omega) (by omega), yIs_yn (by omega) (by omega), yIs_yn (by omega) (by omega), yn_inj (by omega) (by omega)]
  by_cases h1 : v / 100 < s
  · rw [if_pos h1]
    by_cases h2 : v / 10 % 10 < a
    · rw [if_pos h2]
      by_cases h3 : v % 10 < a
      · rw [if_pos h3]
        by_cases h4 : v / 10 % 10 = v % 10
        · rw [if_pos h4, yb_f]; exact fun q => q.2.2.2 h4
        · rw [if_neg h4, yb_t]; exact ⟨h1, h2, h3, h4⟩
      · rw [if_neg h3, yb_f]; exact fun q => h3 q.2.2.1
    · rw [if_neg h2, yb_f]; exact fun q => h2 q.2.1
  · rw [if_neg h1, yb_f]; exact fun q => h1 q.1
/-- the reference's far[]: -1, or minutes that are not too few -/
def yFar (B : yI) (a p : Nat) (f : Nat → Nat → Nat) (T : Nat) : Prop := ∀ v, v < a → B 106 v = -1 ∨ ∃ d, d ≤ T ∧ f p v ≤ d ∧ B 106 v = yn d
/-- how many are nearer -/
def yrk (f : Nat → Nat → Nat) (p v : Nat) : Nat := (if f p 0 < f p v then 1 else 0) + (if f p 1 < f p v then 1 else 0) + (if f p 2 < f p v then 1 else 0) + (if f p 3 < f p v then 1 else 0)
theorem yrk_lt {f : Nat → Nat → Nat} {p u v : Nat} (hu : u < 4) (h : f p u < f p v) : yrk f p u < yrk f p v := by
  unfold yrk
  have hu4 : u = 0 ∨ u = 1 ∨ u = 2 ∨ u = 3 := by omega
  rcases hu4 with rfl | rfl | rfl | rfl <;> (repeat' split) <;> omega
theorem yrk_4 {f : Nat → Nat → Nat} {p v : Nat} (hv : v < 4) : yrk f p v < 4 := by
  unfold yrk
  have hv4 : v = 0 ∨ v = 1 ∨ v = 2 ∨ v = 3 := by omega
  rcases hv4 with rfl | rfl | rfl | rfl <;> (repeat' split) <;> omega
/-- one relaxation -/
theorem f178_P {B : yI} {a p T u v m : Nat} {f : Nat → Nat → Nat} (ha : a ≤ 4) (hT : T < 10000) (hu : u < a) (hv : v < a) (hm : m ≤ 30) (hs : f p v ≤ f p u + m) (h : yFar B a p f T) : yP (f178_nearer (yn u) (yn v) (yn m) B) (fun B' => yFar B' a p f (T + 30) ∧ (∀ x, x < a → B 106 x = yn (f p x) → B' 106 x = yn (f p x)) ∧ (B 106 u = yn (f p u) → f p v = f p u + m → B' 106 v = yn (f p v))) := by
  have up : yFar B a p f (T + 30) := by
    intro x hx
    rcases h x hx with e | ⟨d, h1, h2, h3⟩
    · exact Or.inl e
    · exact Or.inr ⟨d, by omega, h2, h3⟩
  unfold f178_nearer
  refine yP_bif (zin_yn (by omega) (by omega)) ?_
  rw [yn_nat (n := u) (by omega), yn_nat (n := v) (by omega)]
  rcases h u hu with e | ⟨du, h1, h2, h3⟩
  · rw [e]
    refine yP_pos (by decide) (yP_some ⟨up, fun _ _ q => q, fun q => ?_⟩)
    exfalso
    have : ¬ yn (f p u) = -1 := by
      by_cases hb : f p u < 2147483648
      · exact yn_ne1 hb
      · intro z
        sorry
    exact this q.symm
  · sorry
