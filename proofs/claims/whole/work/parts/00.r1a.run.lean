/-! A RUN, noon 24: the wish, the cells, those who are in a square -/
def yWish (a s S : Nat) (A B : yI) : Prop := (A 25 0 = yn S ∧ 1 ≤ S ∧ S ≤ 60) ∧ (yq (A 25 1) 0 9 ∧ B 73 16 = A 25 1) ∧ (yIs 4 (A 25 2) ∧ yq (A 25 3) 0 200 ∧ B 73 45 = A 25 3 ∧ (A 25 3 = 0 ∨ (B 73 46 = A 25 2 ∧ yIs a (A 25 2)))) ∧ (B 73 47 = A 25 4 ∧ (A 25 4 = -1 ∨ (B 73 49 = A 25 5 ∧ B 73 48 = A 25 6))) ∧ (∀ k, k < s → B 82 k = A 26 k ∧ yIs a (A 26 k)) ∧ (∀ k, k < s → yq (A 27 k) 0 3 ∧ A 27 k = (if yn k = B 73 50 then B 73 51 else B 84 k))
def kWA : List Nat := [2500, 2501, 2502, 2503, 2504, 2505, 2506, 2699, 2799]
def kWB : List Nat := [7316, 7345, 7346, 7347, 7348, 7349, 7350, 7351, 8299, 8499]
theorem yWish_ag {a s S : Nat} {A B A' B' : yI} (hA : yag kWA A A') (hB : yag kWB B B') (h : yWish a s S A B) : yWish a s S A' B' := by
  have f0 : A' 25 0 = A 25 0 := hA 25 0 rfl
  have f1 : A' 25 1 = A 25 1 := hA 25 1 rfl
  have f2 : A' 25 2 = A 25 2 := hA 25 2 rfl
  have f3 : A' 25 3 = A 25 3 := hA 25 3 rfl
  have f4 : A' 25 4 = A 25 4 := hA 25 4 rfl
  have f5 : A' 25 5 = A 25 5 := hA 25 5 rfl
  have f6 : A' 25 6 = A 25 6 := hA 25 6 rfl
  have g1 : ∀ i, A' 26 i = A 26 i := fun i => hA 26 i rfl
  have g2 : ∀ i, A' 27 i = A 27 i := fun i => hA 27 i rfl
  have e1 : B' 73 16 = B 73 16 := hB 73 16 rfl
  have e2 : B' 73 45 = B 73 45 := hB 73 45 rfl
  have e3 : B' 73 46 = B 73 46 := hB 73 46 rfl
  have e4 : B' 73 47 = B 73 47 := hB 73 47 rfl
  have e5 : B' 73 48 = B 73 48 := hB 73 48 rfl
  have e6 : B' 73 49 = B 73 49 := hB 73 49 rfl
  have e7 : B' 73 50 = B 73 50 := hB 73 50 rfl
  have e8 : B' 73 51 = B 73 51 := hB 73 51 rfl
  have d1 : ∀ i, B' 82 i = B 82 i := fun i => hB 82 i rfl
  have d2 : ∀ i, B' 84 i = B 84 i := fun i => hB 84 i rfl
  unfold yWish at *
  simp only [f0, f1, f2, f3, f4, f5, f6, g1, g2, e1, e2, e3, e4, e5, e6, e7, e8, d1, d2]
  exact h
/-- standers in a square -/
def yst (A : yI) (i : Nat) : Int32 := if A 25 2 = yn i then A 25 3 else 0
def yAll (s : Nat) (A : yI) : Prop := ∀ i, i < 4 → A 31 i = yst A i + ysum (fun k => A 28 (8 * i + k)) s
/-- there and outside; bounds b by cells -/
def yCell (b : Nat → Nat) (A B : yI) : Prop := ∀ c, c < 32 → ∃ x y, A 28 c = yn x ∧ B 97 c = yn x ∧ A 29 c = yn y ∧ B 98 c = yn y ∧ x + y ≤ b c
/-- where no sort or no square is, nobody is -/
def yNone (a s : Nat) (A : yI) : Prop := ∀ i k, i < 4 → k < 8 → (a ≤ i ∨ s ≤ k) → A 28 (8 * i + k) = 0
theorem inSq {a s S i : Nat} {b : Nat → Nat} {A B : yI} (hs : s ≤ 8) (hi : i < 4) (b3 : B 73 9 = yn s) (hW : yWish a s S A B) (hA : yAll s A) (hC : yCell b A B) : f166_inSquare (yn i) B = some (A 31 i) := by
  obtain ⟨-, -, ⟨-, ⟨m, -, hm, em⟩, w1, w2⟩, -⟩ := hW
  have loop : ∀ r0 : Int32, yP (zloop (f166_inSquare_L26 (yn i) B) 5000 (r0, (0 : Int32))) (fun x => x.1 = r0 + ysum (fun k => A 28 (8 * i + k)) s) := by
    intro r0
    refine yP_for s (fun j x => x.1 = r0 + ysum (fun k => A 28 (8 * i + k)) j ∧ x.2 = yn j) (k := 0) ⟨(Int32.add_zero r0).symm, rfl⟩ (by omega) (by omega) ?_ ?_
    · rintro j x hj ⟨e1, e2⟩
      unfold f166_inSquare_L26
      have ix : 8 * yn i + yn j = yn (8 * i + j) := by
        show yn 8 * yn i + yn j = _
        rw [yn_mul, yn_add]
      rw [e1, e2, ix]
      refine yP_neg (by rw [b3, yn_le (by omega) (by omega)]; omega) (yP_bif (zin_yn (by omega) (by omega)) (yP_some ?_))
      obtain ⟨x1, y1, c1, c2, -⟩ := hC (8 * i + j) (by omega)
      rw [yn_nat (by omega), c2, yn_succ]
      refine ⟨?_, rfl⟩
      show _ = r0 + (ysum (fun k => A 28 (8 * i + k)) j + A 28 (8 * i + j))
      rw [c1, ← Int32.add_assoc]
    · rintro x ⟨e1, e2⟩
      unfold f166_inSquare_L26
      rw [e1, e2]
      exact yP_pos (by rw [b3]; exact Int32.le_refl _) (yP_some rfl)
  refine yP_eq ?_
  rw [hA i hi]
  unfold f166_inSquare yst
  by_cases c : B 73 45 ≤ 0
  · refine yP_pos c (yP_bind (yP_mono (loop 0) ?_))
    intro x hx
    refine yP_some ?_
    rw [hx]
    have : A 25 3 = 0 := by
      rw [w1, em] at c
      have c : yn m ≤ yn 0 := c
      rw [yn_le (by omega) (by omega)] at c
      rw [em]
      have : m = 0 := by omega
      rw [this]; rfl
    rw [this, ite_self]
  · refine yP_neg c ?_
    rcases w2 with w2 | ⟨w2, w3⟩
    · rw [w1, w2] at c
      exact absurd (by decide) c
    · by_cases c2 : A 25 2 = yn i
      · refine yP_pos (by rw [w2, c2]) (yP_bind (yP_mono (loop _) ?_))
        intro x hx
        refine yP_some ?_
        rw [hx, if_pos c2, w1]
      · refine yP_neg (fun z => c2 (by rw [← w2]; exact z.symm)) (yP_bind (yP_mono (loop 0) ?_))
        intro x hx
        refine yP_some ?_
        rw [hx, if_neg c2]
/-- a cell gains d: so does its square -/
theorem all_upd {s i k : Nat} {A A' : yI} {d : Int32} (hi : i < 4) (hk : k < s) (hs : s ≤ 8) (hA : yAll s A) (h2 : A' 25 2 = A 25 2) (h3 : A' 25 3 = A 25 3) (hc : ∀ c, A' 28 c = if c = 8 * i + k then A 28 c + d else A 28 c) (ha : ∀ j, A' 31 j = if j = i then A 31 j + d else A 31 j) : yAll s A' := by
  intro j hj
  have hst : yst A' j = yst A j := by unfold yst; rw [h2, h3]
  rw [ha, hst, hA j hj]
  by_cases e : j = i
  · subst e
    rw [if_pos rfl]
    have : ysum (fun k' => A' 28 (8 * j + k')) s = ysum (fun k' => A 28 (8 * j + k')) s + d := by
      rw [← ysum_add (f := fun k' => A 28 (8 * j + k')) (d := d) hk]
      refine ysum_congr fun x hx => ?_
      rw [hc]
      by_cases ex : x = k
      · rw [if_pos (by omega), if_pos ex]
      · rw [if_neg (by omega), if_neg ex]
    rw [this, Int32.add_assoc]
  · rw [if_neg e]
    congr 1
    refine ysum_congr fun x hx => ?_
    rw [hc, if_neg (by omega)]
