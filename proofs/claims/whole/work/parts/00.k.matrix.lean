/-! WAYS: the way that is taken, the fewest minutes -/
/-- way i lies between p and q -/
def yLead (A : yI) (i p q : Nat) : Prop := (A 4 i = yn p ∧ A 5 i = yn q) ∨ (A 4 i = yn q ∧ A 5 i = yn p)
theorem yLead_sym {A : yI} {i p q : Nat} (h : yLead A i p q) : yLead A i q p := h.elim Or.inr Or.inl
noncomputable def ydir (A : yI) (p q : Nat) : Nat → Int32
  | 0 => -1
  | n + 1 => @ite _ (yLead A n p q ∧ (ydir A p q n < 0 ∨ A 6 n < A 6 (ydir A p q n).toNatClampNeg)) (Classical.propDecidable _) (yn n) (ydir A p q n)
theorem ydir_rg (A : yI) (p q : Nat) : ∀ n, ydir A p q n = -1 ∨ ∃ i, i < n ∧ ydir A p q n = yn i ∧ yLead A i p q
  | 0 => Or.inl rfl
  | n + 1 => by
    unfold ydir
    by_cases h : yLead A n p q ∧ (ydir A p q n < 0 ∨ A 6 n < A 6 (ydir A p q n).toNatClampNeg)
    · rw [if_pos h]; exact Or.inr ⟨n, by omega, rfl, h.1⟩
    · rw [if_neg h]
      rcases ydir_rg A p q n with e | ⟨i, hi, e, l⟩
      · exact Or.inl e
      · exact Or.inr ⟨i, by omega, e, l⟩
theorem ydir_congr {A A' : yI} {p q : Nat} : ∀ n, (∀ i, i < n → A' 4 i = A 4 i ∧ A' 5 i = A 5 i ∧ A' 6 i = A 6 i) → ydir A' p q n = ydir A p q n
  | 0, _ => rfl
  | n + 1, h => by
    have ih := ydir_congr (p := p) (q := q) n (fun i hi => h i (by omega))
    have hl : yLead A' n p q ↔ yLead A n p q := by
      unfold yLead
      rw [(h n (by omega)).1, (h n (by omega)).2.1]
    unfold ydir
    rw [ih, (h n (by omega)).2.2]
    rcases ydir_rg A p q n with e | ⟨i, hi, e, l⟩
    · rw [e]
      have t : ((-1 : Int32) < 0) := by decide
      by_cases c : yLead A n p q
      · rw [if_pos ⟨hl.mpr c, Or.inl t⟩, if_pos ⟨c, Or.inl t⟩]
      · rw [if_neg (fun z => c (hl.mp z.1)), if_neg (fun z => c z.1)]
    · by_cases hi2 : i < 2147483648
      · rw [e, yn_nat hi2, (h i (by omega)).2.2]
        by_cases c : yLead A n p q ∧ (yn i < 0 ∨ A 6 n < A 6 i)
        · rw [if_pos ⟨hl.mpr c.1, c.2⟩, if_pos c]
        · rw [if_neg (fun z => c ⟨hl.mp z.1, z.2⟩), if_neg c]
      · have k : A' 6 (ydir A p q n).toNatClampNeg = A 6 (ydir A p q n).toNatClampNeg := by
          refine (h _ ?_).2.2
          have := (ydir A p q n).toInt_lt
          have : (ydir A p q n).toNatClampNeg < 2147483648 := by
            show (ydir A p q n).toInt.toNat < _
            omega
          omega
        rw [k]
        by_cases c : yLead A n p q ∧ (ydir A p q n < 0 ∨ A 6 n < A 6 (ydir A p q n).toNatClampNeg)
        · rw [if_pos ⟨hl.mpr c.1, c.2⟩, if_pos c]
        · rw [if_neg (fun z => c ⟨hl.mp z.1, z.2⟩), if_neg c]
/-- walks: e edges, n minutes -/
def yM (A : yI) (i : Nat) : Nat := (A 6 i).toNatClampNeg
def yWk (A : yI) (w : Nat) : Nat → Nat → Nat → Nat → Prop
  | 0, p, q, n => p = q ∧ n = 0
  | e + 1, p, q, n => ∃ u i, u < 4 ∧ i < w ∧ yLead A i u q ∧ yM A i ≤ n ∧ yWk A w e p u (n - yM A i)
theorem yWk_app {A : yI} {w : Nat} : ∀ (e2 e1 p k q n1 n2 : Nat), yWk A w e1 p k n1 → yWk A w e2 k q n2 → yWk A w (e1 + e2) p q (n1 + n2)
  | 0, e1, p, k, q, n1, n2, h1, h2 => by
    obtain ⟨rfl, rfl⟩ := h2
    exact h1
  | e2 + 1, e1, p, k, q, n1, n2, h1, h2 => by
    obtain ⟨u, i, hu, hi, hl, hm, h3⟩ := h2
    refine ⟨u, i, hu, hi, hl, by omega, ?_⟩
    have := yWk_app e2 e1 p k u n1 _ h1 h3
    have e : n1 + n2 - yM A i = n1 + (n2 - yM A i) := by omega
    rw [e]
    exact this
def INF : Nat := 1000000
/-- a square's number times 4 and another one's -/
def yf (A : yI) (p q : Nat) : Nat := (A 14 (4 * p + q)).toNatClampNeg
/-- f is the fewest minutes by the first w ways -/
def yFew (A : yI) (w : Nat) (f : Nat → Nat → Nat) : Prop := (∀ p, p < 4 → f p p = 0) ∧ (∀ p q, p < 4 → q < 4 → f p q ≤ INF) ∧ (∀ i p u v, i < w → p < 4 → u < 4 → v < 4 → yLead A i u v → f p v ≤ f p u + yM A i) ∧ (∀ p q, p < 4 → q < 4 → p ≠ q → f p q < INF → ∃ i u, i < w ∧ u < 4 ∧ yLead A i u q ∧ f p q = f p u + yM A i)
theorem yFew_walk {A : yI} {w : Nat} {f : Nat → Nat → Nat} (h : yFew A w f) (hm : ∀ i, i < w → 1 ≤ yM A i) {p : Nat} (hp : p < 4) : ∀ (n q : Nat), q < 4 → f p q = n → n < INF → ∃ e, yWk A w e p q n := by
  intro n
  induction n using Nat.strongRecOn with
  | ind n ih =>
    intro q hq he hn
    by_cases e : p = q
    · subst e
      rw [h.1 p hp] at he
      exact ⟨0, rfl, he.symm⟩
    · obtain ⟨i, u, hi, hu, hl, e2⟩ := h.2.2.2 p q hp hq e (by omega)
      have := hm i hi
      obtain ⟨e1, w1⟩ := ih (f p u) (by omega) u hu rfl (by omega)
      refine ⟨e1 + 1, u, i, hu, hi, hl, by omega, ?_⟩
      have : n - yM A i = f p u := by omega
      rw [this]
      exact w1
theorem walk_ge {A : yI} {w : Nat} {f : Nat → Nat → Nat} (h0 : ∀ p, p < 4 → f p p = 0) (hs : ∀ i p u v, i < w → p < 4 → u < 4 → v < 4 → yLead A i u v → f p v ≤ f p u + yM A i) {p : Nat} (hp : p < 4) : ∀ (e q n : Nat), q < 4 → yWk A w e p q n → f p q ≤ n
  | 0, q, n, hq, h => by
    obtain ⟨rfl, rfl⟩ := h
    rw [h0 p hp]
    omega
  | e + 1, q, n, hq, h => by
    obtain ⟨u, i, hu, hi, hl, hm, h3⟩ := h
    have := walk_ge h0 hs hp e u _ hu h3
    have := hs i p u q hi hp hu hq hl
    omega
/-- one phase: by square k -/
def yph (k : Nat) (g : Nat → Nat → Nat) (p q : Nat) : Nat := min (g p q) (g p k + g k q)
theorem yph_tri {k : Nat} (hk : k < 4) {g : Nat → Nat → Nat} (h0 : ∀ p, p < 4 → g p p = 0) (ht : ∀ r, r < k → ∀ p q, p < 4 → q < 4 → g p q ≤ g p r + g r q) : ∀ r, r < k + 1 → ∀ p q, p < 4 → q < 4 → yph k g p q ≤ yph k g p r + yph k g r q := by
  intro r hr p q hp hq
  unfold yph
  have k0 := h0 k hk
  by_cases e : r = k
  · subst e
    omega
  · have a1 := ht r (by omega) p q hp hq
    have a2 := ht r (by omega) p k hp hk
    have a3 := ht r (by omega) k q hk hq
    have a4 := ht r (by omega) k k hk hk
    omega
theorem yph_walk {A : yI} {w k : Nat} (hk : k < 4) {g : Nat → Nat → Nat} (h : ∀ p q, p < 4 → q < 4 → g p q ≤ INF ∧ (g p q < INF → ∃ e, yWk A w e p q (g p q))) : ∀ p q, p < 4 → q < 4 → yph k g p q ≤ INF ∧ (yph k g p q < INF → ∃ e, yWk A w e p q (yph k g p q)) := by
  intro p q hp hq
  obtain ⟨a1, a2⟩ := h p q hp hq
  unfold yph
  refine ⟨by omega, fun hl => ?_⟩
  by_cases c : g p q ≤ g p k + g k q
  · rw [Nat.min_eq_left c] at hl ⊢
    exact a2 hl
  · rw [Nat.min_eq_right (by omega)] at hl ⊢
    obtain ⟨e1, w1⟩ := (h p k hp hk).2 (by omega)
    obtain ⟨e2, w2⟩ := (h k q hk hq).2 (by omega)
    exact ⟨e1 + e2, yWk_app e2 e1 p k q _ _ w1 w2⟩
theorem yph_zero {k : Nat} {g : Nat → Nat → Nat} (h0 : ∀ p, p < 4 → g p p = 0) : ∀ p, p < 4 → yph k g p p = 0 := by
  intro p hp
  unfold yph
  rw [h0 p hp]
  omega
theorem floyd {A : yI} {w : Nat} {g : Nat → Nat → Nat} (hm : ∀ i, i < w → 1 ≤ yM A i) (h0 : ∀ p, p < 4 → g p p = 0) (hw : ∀ p q, p < 4 → q < 4 → g p q ≤ INF ∧ (g p q < INF → ∃ e, yWk A w e p q (g p q))) (hl : ∀ i u v, i < w → u < 4 → v < 4 → yLead A i u v → g u v ≤ yM A i) : yFew A w (yph 3 (yph 2 (yph 1 (yph 0 g)))) := by
  have t1 := yph_tri (k := 0) (by omega) h0 (fun r hr => absurd hr (Nat.not_lt_zero _))
  have z1 := yph_zero (k := 0) h0
  have t2 := yph_tri (k := 1) (by omega) z1 t1
  have z2 := yph_zero (k := 1) z1
  have t3 := yph_tri (k := 2) (by omega) z2 t2
  have z3 := yph_zero (k := 2) z2
  have t4 := yph_tri (k := 3) (by omega) z3 t3
  have z4 := yph_zero (k := 3) z3
  have w4 := yph_walk (k := 3) (by omega) (yph_walk (k := 2) (by omega) (yph_walk (k := 1) (by omega) (yph_walk (k := 0) (by omega) hw)))
  have le : ∀ p q, yph 3 (yph 2 (yph 1 (yph 0 g))) p q ≤ g p q := fun p q =>
    Nat.le_trans (Nat.min_le_left _ _) (Nat.le_trans (Nat.min_le_left _ _) (Nat.le_trans (Nat.min_le_left _ _) (Nat.min_le_left _ _)))
  generalize yph 3 (yph 2 (yph 1 (yph 0 g))) = f at t4 z4 w4 le ⊢
  have stab : ∀ i p u v, i < w → p < 4 → u < 4 → v < 4 → yLead A i u v → f p v ≤ f p u + yM A i := by
    intro i p u v hi hp hu hv hl2
    have a1 := t4 u hu p v hp hv
    have a2 := le u v
    have a3 := hl i u v hi hu hv hl2
    omega
  refine ⟨z4, fun p q hp hq => (w4 p q hp hq).1, stab, fun p q hp hq hne hlt => ?_⟩
  obtain ⟨e, we⟩ := (w4 p q hp hq).2 hlt
  cases e with
  | zero => exact absurd we.1 hne
  | succ e =>
    obtain ⟨u, i, hu, hi, hl2, hmi, h3⟩ := we
    have a1 := walk_ge z4 stab hp e u _ hu h3
    have a2 := stab i p u q hi hp hu hq hl2
    exact ⟨i, u, hi, hu, hl2, by omega⟩
