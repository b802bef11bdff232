/-! LAWS: how the class's codes and the reference's steps tell the same text -/
def yBin (b : Nat) : Prop := b = 37 ∨ b = 38 ∨ b = 42 ∨ b = 43 ∨ b = 45 ∨ b = 47 ∨ b = 60 ∨ b = 61 ∨ b = 62 ∨ b = 124
/-- a code of the class and a step of the reference; d, d' what lies on the pile before and behind it -/
def yTok (c ac wi : Int32) (d d' : Nat) : Prop := (ac = 1 ∧ d' = d + 1 ∧ ∃ n, n < 10000 ∧ c = yn n ∧ wi = yn n) ∨ (ac = 2 ∧ d' = d + 1 ∧ ∃ j, j < 8 ∧ c = yn (10000 + j) ∧ wi = yn j) ∨ (ac = 3 ∧ d' = d ∧ 1 ≤ d ∧ c = 20033) ∨ (ac = 4 ∧ d' = d ∧ 1 ≤ d ∧ c = 20126) ∨ (∃ b, yBin b ∧ d = d' + 1 ∧ 1 ≤ d' ∧ ac = yn b ∧ c = yn (20000 + b))
def ySeg (C AC WI : Nat → Int32) (c0 r0 n : Nat) : Prop := ∃ dp : Nat → Nat, dp 0 = 0 ∧ dp n = 1 ∧ ∀ j, j < n → dp j ≤ 60 ∧ yTok (C (c0 + j)) (AC (r0 + j)) (WI (r0 + j)) (dp j) (dp (j + 1))
def yst0 (es : Nat → Nat) (k : Nat) : Nat := if k = 0 then 0 else es (k - 1)
def yLine (C AC WI : Nat → Int32) (c st te en c' : Nat) : Prop := st ≤ te ∧ te < en ∧ en ≤ 130 ∧ (te = st → ySeg C AC WI c st (en - st) ∧ C (c + (en - st)) = 20059 ∧ c' = c + (en - st) + 1) ∧ (st < te → ySeg C AC WI c st (te - st) ∧ C (c + (te - st)) = 20063 ∧ ySeg C AC WI (c + (te - st) + 1) te (en - te) ∧ C (c + (en - st) + 1) = 20059 ∧ c' = c + (en - st) + 2)
def yLaw (l : Nat) (A B : yI) : Prop := ∃ (L : Nat) (cs ts es : Nat → Nat), 1 ≤ L ∧ L ≤ 61 ∧ cs 0 = 0 ∧ cs L ≤ 121 ∧ A 22 l = yn (cs L) ∧ B 88 l = yn L ∧ ∀ k, k < L → B 89 (61 * l + k) = yn (ts k) ∧ B 90 (61 * l + k) = yn (es k) ∧ yLine (fun j => A (18 + l) j) (fun j => B 86 (130 * l + j)) (fun j => B 87 (130 * l + j)) (cs k) (yst0 es k) (ts k) (es k) (cs (k + 1))
def yLaws (nl : Nat) (A B : yI) : Prop := (nl ≤ 4 ∧ A 15 7 = yn nl ∧ B 73 31 = yn nl) ∧ ∀ l, l < nl → yLaw l A B
def kLA : List Nat := [1507, 1899, 1999, 2099, 2199, 2299]
def kLB : List Nat := [7331, 8699, 8799, 8899, 8999, 9099]
theorem yLaws_ag {nl : Nat} {A B A' B' : yI} (hA : yag kLA A A') (hB : yag kLB B B') (h : yLaws nl A B) : yLaws nl A' B' := by
  obtain ⟨⟨h1, h2, h3⟩, h4⟩ := h
  refine ⟨⟨h1, by rw [hA 15 7 rfl]; exact h2, by rw [hB 73 31 rfl]; exact h3⟩, fun l hl => ?_⟩
  obtain ⟨L, cs, ts, es, g1, g2, g3, g4, g5, g6, g7⟩ := h4 l hl
  have e18 : ∀ j, A' (18 + l) j = A (18 + l) j := by
    intro j
    refine hA _ _ ?_
    have hl4 : l = 0 ∨ l = 1 ∨ l = 2 ∨ l = 3 := by omega
    rcases hl4 with rfl | rfl | rfl | rfl <;> rfl
  have f : (fun j => A' (18 + l) j) = (fun j => A (18 + l) j) := funext e18
  have f86 : (fun j => B' 86 (130 * l + j)) = (fun j => B 86 (130 * l + j)) := funext fun j => hB 86 _ rfl
  have f87 : (fun j => B' 87 (130 * l + j)) = (fun j => B 87 (130 * l + j)) := funext fun j => hB 87 _ rfl
  refine ⟨L, cs, ts, es, g1, g2, g3, g4, by rw [hA 22 l rfl]; exact g5, by rw [hB 88 l rfl]; exact g6, fun k hk => ?_⟩
  rw [hB 89 _ rfl, hB 90 _ rfl, f, f86, f87]
  exact g7 k hk
/-! A RUN'S TOWN: all that a run takes of it but the homes and LAG -/
def yTw (a w s : Nat) (A B : yI) : Prop := yNum a w s A B ∧ (yq (A 1 5) 0 20 ∧ B 73 17 = A 1 5) ∧ ySqs a A B ∧ yWys a w A B ∧ (∀ k, k < s → (yq (A 8 k) 0 200 ∧ B 80 k = A 8 k) ∧ (yq (A 9 k) 0 1 ∧ B 81 k = A 9 k) ∧ (yq (A 11 k) 1 3 ∧ B 83 k = A 11 k)) ∧ yMD A w
theorem yTown_Tw {a w s : Nat} {A B : yI} (h : yTown a w s A B) (hD : yMD A w) : yTw a w s A B := by
  obtain ⟨h1, h2, h3, h4, h5⟩ := h
  exact ⟨h1, h2.2.2, h3, h4, fun k hk => ⟨(h5 k hk).1, (h5 k hk).2.1, (h5 k hk).2.2.2.1⟩, hD⟩
def kRA : List Nat := [100, 101, 102, 105, 299, 399, 499, 599, 699, 799, 899, 999, 1199, 1399]
def kRB : List Nat := [7301, 7304, 7309, 7317, 7499, 7599, 7699, 7799, 7899, 7999, 8099, 8199, 8399]
theorem yTw_ag {a w s : Nat} {A B A' B' : yI} (hA : yag kRA A A') (hB : yag kRB B B') (h : yTw a w s A B) : yTw a w s A' B' := by
  have f1 : A' 1 0 = A 1 0 := hA 1 0 rfl
  have f2 : A' 1 1 = A 1 1 := hA 1 1 rfl
  have f3 : A' 1 2 = A 1 2 := hA 1 2 rfl
  have f6 : A' 1 5 = A 1 5 := hA 1 5 rfl
  have g1 : ∀ i, A' 2 i = A 2 i := fun i => hA 2 i rfl
  have g2 : ∀ i, A' 3 i = A 3 i := fun i => hA 3 i rfl
  have g3 : ∀ i, A' 4 i = A 4 i := fun i => hA 4 i rfl
  have g4 : ∀ i, A' 5 i = A 5 i := fun i => hA 5 i rfl
  have g5 : ∀ i, A' 6 i = A 6 i := fun i => hA 6 i rfl
  have g6 : ∀ i, A' 7 i = A 7 i := fun i => hA 7 i rfl
  have g7 : ∀ i, A' 8 i = A 8 i := fun i => hA 8 i rfl
  have g8 : ∀ i, A' 9 i = A 9 i := fun i => hA 9 i rfl
  have g10 : ∀ i, A' 11 i = A 11 i := fun i => hA 11 i rfl
  have e1 : B' 73 1 = B 73 1 := hB 73 1 rfl
  have e2 : B' 73 4 = B 73 4 := hB 73 4 rfl
  have e3 : B' 73 9 = B 73 9 := hB 73 9 rfl
  have e6 : B' 73 17 = B 73 17 := hB 73 17 rfl
  have d1 : ∀ i, B' 74 i = B 74 i := fun i => hB 74 i rfl
  have d2 : ∀ i, B' 75 i = B 75 i := fun i => hB 75 i rfl
  have d3 : ∀ i, B' 76 i = B 76 i := fun i => hB 76 i rfl
  have d4 : ∀ i, B' 77 i = B 77 i := fun i => hB 77 i rfl
  have d5 : ∀ i, B' 78 i = B 78 i := fun i => hB 78 i rfl
  have d6 : ∀ i, B' 79 i = B 79 i := fun i => hB 79 i rfl
  have d7 : ∀ i, B' 80 i = B 80 i := fun i => hB 80 i rfl
  have d8 : ∀ i, B' 81 i = B 81 i := fun i => hB 81 i rfl
  have d10 : ∀ i, B' 83 i = B 83 i := fun i => hB 83 i rfl
  obtain ⟨h1, h2, h3, h4, h5, h6⟩ := h
  refine ⟨?_, ?_, ?_, ?_, ?_, yMD_ag (fun i _ => ⟨g3 i, g4 i, g5 i⟩) (fun j => hA 13 j rfl) h6⟩
  · unfold yNum at *
    simp only [f1, f2, f3, e1, e2, e3]
    exact h1
  · rw [f6, e6]; exact h2
  · unfold ySqs at *
    simp only [g1, g2, d1, d2]
    exact h3
  · unfold yWys at *
    simp only [g3, g4, g5, g6, d3, d4, d5, d6]
    exact h4
  · simp only [g7, g8, g10, d7, d8, d10]
    exact h5
theorem ysum_add {f : Nat → Int32} {d : Int32} {k : Nat} : ∀ {n : Nat}, k < n → ysum (fun j => if j = k then f j + d else f j) n = ysum f n + d
  | 0, h => absurd h (Nat.not_lt_zero _)
  | n + 1, h => by
    unfold ysum
    by_cases e : k = n
    · subst e
      have : ysum (fun j => if j = k then f j + d else f j) k = ysum f k := ysum_congr fun i hi => if_neg (by omega)
      rw [this, if_pos rfl, Int32.add_assoc]
    · rw [ysum_add (by omega), if_neg (Ne.symm e), Int32.add_assoc, Int32.add_comm d, ← Int32.add_assoc]
theorem ysum_zero {f : Nat → Int32} {m : Nat} : ∀ {n : Nat}, m ≤ n → (∀ j, m ≤ j → j < n → f j = 0) → ysum f n = ysum f m
  | 0, h, _ => by have : m = 0 := by omega
                  rw [this]
  | n + 1, h, hz => by
    by_cases e : m = n + 1
    · rw [e]
    · show ysum f n + f n = _
      rw [ysum_zero (n := n) (by omega) (fun j h1 h2 => hz j h1 (by omega)), hz n (by omega) (by omega), Int32.add_zero]
theorem i_sub_add (a b c : Int32) : a - (b + c) = a - b - c := by
  rw [Int32.sub_eq_add_neg, Int32.sub_eq_add_neg, Int32.sub_eq_add_neg, Int32.neg_add, Int32.add_assoc, Int32.sub_eq_add_neg]
/-- the first of the greatest -/
def yful (f : Nat → Int32) : Nat → Nat
  | 0 => 0
  | n + 1 => if f (yful f n) < f n then n else yful f n
theorem yful_lt {f : Nat → Int32} : ∀ {n : Nat}, 0 < n → yful f n < n
  | 0, h => absurd h (Nat.lt_irrefl _)
  | n + 1, _ => by
    unfold yful
    by_cases c : f (yful f n) < f n
    · rw [if_pos c]; omega
    · rw [if_neg c]
      cases n with
      | zero => exact Nat.zero_lt_one
      | succ m => have := yful_lt (f := f) (n := m + 1) (by omega); omega
theorem yful_congr {f g : Nat → Int32} : ∀ {n : Nat}, (∀ i, i < n → f i = g i) → yful f n = yful g n
  | 0, _ => rfl
  | n + 1, h => by
    have ih := yful_congr (f := f) (g := g) (n := n) (fun i hi => h i (by omega))
    unfold yful
    rw [ih, h n (by omega)]
    by_cases e : n = 0
    · subst e
      have : yful g 0 = 0 := rfl
      rw [this, h 0 (by omega)]
    · have := yful_lt (f := g) (n := n) (by omega)
      rw [h _ (by omega)]
theorem zmax_sub {t l : Nat} (ht : t < 1000000) (hl : l < 1000000) : zmax 0 (yn t - yn l) = yn (t - l) := by
  by_cases c : l ≤ t
  · rw [yn_sub c]
    unfold zmax
    by_cases c2 : (0 : Int32) < yn (t - l)
    · rw [if_pos c2]
    · rw [if_neg c2]
      have c2 : ¬ yn 0 < yn (t - l) := c2
      rw [yn_lt (by omega) (by omega)] at c2
      have : t - l = 0 := by omega
      rw [this]; rfl
  · have : t - l = 0 := by omega
    rw [this]
    unfold zmax
    rw [if_neg]
    · rfl
    · intro z
      have := (i_sub_nn (x := t) (y := l) (by omega) (by omega)).mp (Int32.le_of_lt z)
      omega
/-- where both send a sort: alike, or nowhere in both -/
def yTo (a i : Nat) (x y : Int32) : Prop := x = y ∨ (¬ (yIs a x ∧ x ≠ yn i) ∧ ¬ (yIs a y ∧ y ≠ yn i))
theorem y2_bifB {α β γ : Type} {o : Option γ} {c : Bool} {a : Option α} {k : α → Option β} {R : β → γ → Prop} (h : c = true) (w : y2 (Option.bind a k) o R) : y2 (Option.bind (bif c then a else none) k) o R := by
  rw [h]; exact w
theorem ful1 {c : Nat → Int32} : yful c 1 = 0 := by
  unfold yful
  split <;> rfl
theorem zloop_in {σ : Type} {B : σ → Option (σ ⊕ σ)} {n : Nat} {s s' : σ} (h : B s = some (.inr s')) : zloop B (n + 1) s = zloop B n s' := by
  show (match B s with
    | none => none
    | some (.inl x) => some x
    | some (.inr s') => zloop B n s') = _
  rw [h]
theorem zloop_out {σ : Type} {B : σ → Option (σ ⊕ σ)} {n : Nat} {s x : σ} (h : B s = some (.inl x)) : zloop B (n + 1) s = some x := by
  show (match B s with
    | none => none
    | some (.inl x) => some x
    | some (.inr s') => zloop B n s') = _
  rw [h]
theorem zloopR_in {σ ρ : Type} {B : σ → Option (ρ ⊕ (σ ⊕ σ))} {n : Nat} {s s' : σ} (h : B s = some (.inr (.inr s'))) : zloopR B (n + 1) s = zloopR B n s' := by
  rw [zloopR_succ, h]
theorem zloopR_out {σ ρ : Type} {B : σ → Option (ρ ⊕ (σ ⊕ σ))} {n : Nat} {s x : σ} (h : B s = some (.inr (.inl x))) : zloopR B (n + 1) s = some (.inr x) := by
  rw [zloopR_succ, h]
theorem zloopR_ret {σ ρ : Type} {B : σ → Option (ρ ⊕ (σ ⊕ σ))} {n : Nat} {s : σ} {x : ρ} (h : B s = some (.inl x)) : zloopR B (n + 1) s = some (.inl x) := by
  rw [zloopR_succ, h]
def yGQ : (Int32 × yI) ⊕ (Int32 × Int32 × yI) → (Int32 × yI) ⊕ (Int32 × Int32 × yI) → Prop
  | .inl x, .inl y => x.1 = y.1
  | .inr _, .inr _ => True
  | _, _ => False
