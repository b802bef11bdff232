/-! WAY: the class's matrices -/
def yMD (A : yI) (w : Nat) : Prop := ∀ p q, p < 4 → q < 4 → p ≠ q → A 13 (4 * p + q) = ydir A p q w
def yMF (A : yI) (w : Nat) : Prop := (∀ p q, p < 4 → q < 4 → A 14 (4 * p + q) = yn (yf A p q)) ∧ yFew A w (yf A)
/-- ways of the class alone -/
def yWA (a w : Nat) (A : yI) : Prop := ∀ i, i < w → (∃ p q, p < a ∧ q < a ∧ p ≠ q ∧ A 4 i = yn p ∧ A 5 i = yn q) ∧ yq (A 6 i) 1 30
theorem yM_yn {A : yI} {i m : Nat} (hm : m < 2147483648) (h : A 6 i = yn m) : yM A i = m := by
  unfold yM; rw [h, yn_nat hm]
theorem sh9 {k : Nat} (hk : k < 4) {g : Nat → Nat → Nat} (h0 : ∀ p, p < 4 → g p p = 0) (hb : ∀ p q, p < 4 → q < 4 → g p q ≤ INF) {A : yI} (hA : ∀ p q, p < 4 → q < 4 → A 14 (4 * p + q) = yn (g p q)) : yP (zloop (f67_shorten_L9 (yn k)) 5000 ((0 : Int32), A)) (fun x => ∀ p q, p < 4 → q < 4 → x.2 14 (4 * p + q) = yn (yph k g p q)) := by
  have gk : ∀ p, p < 4 → yph k g p k = g p k := by
    intro p hp
    unfold yph
    have := h0 k hk
    omega
  have gk2 : ∀ q, q < 4 → yph k g k q = g k q := by
    intro p hp
    unfold yph
    have := h0 k hk
    omega
  refine yP_for 16 (fun i s => s.1 = yn i ∧ ∀ p q, p < 4 → q < 4 → s.2 14 (4 * p + q) = yn (if 4 * p + q < i then yph k g p q else g p q)) (k := 0) ⟨rfl, fun p q hp hq => ?_⟩ (by omega) (by omega) ?_ ?_
  · rw [if_neg (by omega)]; exact hA p q hp hq
  · rintro i ⟨c, B⟩ hi ⟨e, h⟩
    dsimp only at e h
    subst e
    unfold f67_shorten_L9
    have e16 : ¬ (16 : Int32) ≤ yn i := by
      show ¬ yn 16 ≤ yn i
      rw [yn_le (by omega) (by omega)]; omega
    have d4 : yn i / 4 = yn (i / 4) := yn_div (d := 4) (by omega) (by decide)
    have m4 : yn i - yn i / 4 * 4 = yn (i % 4) := yn_mod (d := 4) (by omega) (by decide)
    have i1 : yn (i / 4) * 4 + yn k = yn (4 * (i / 4) + k) := by
      show yn (i / 4) * yn 4 + yn k = _
      rw [yn_mul, yn_add]; congr 1; omega
    have i2 : yn k * 4 + yn (i % 4) = yn (4 * k + i % 4) := by
      show yn k * yn 4 + yn (i % 4) = _
      rw [yn_mul, yn_add]; congr 1; omega
    have hp : i / 4 < 4 := by omega
    have hq : i % 4 < 4 := by omega
    have ei : 4 * (i / 4) + i % 4 = i := by omega
    dsimp only
    rw [if_neg e16, m4, d4, i1, i2]
    refine yP_bif (zin_yn (by omega) (by omega)) (yP_bif (zin_yn (by omega) (by omega)) (yP_bif (zin_yn (by omega) (by omega)) (yP_bif (zin_yn (by omega) (by omega)) (yP_some ?_))))
    rw [yn_nat (n := i) (by omega), yn_nat (n := 4 * (i / 4) + k) (by omega), yn_nat (n := 4 * k + i % 4) (by omega), yn_succ]
    refine ⟨rfl, fun p q hp2 hq2 => ?_⟩
    have v1 := h (i / 4) (i % 4) hp hq
    rw [ei, if_neg (by omega)] at v1
    have v2 := h (i / 4) k hp hk
    have v3 := h k (i % 4) hk hq
    rw [gk _ hp, ite_self] at v2
    rw [gk2 _ hq, ite_self] at v3
    have b1 := hb (i / 4) (i % 4) hp hq
    have b2 := hb (i / 4) k hp hk
    have b3 := hb k (i % 4) hk hq
    unfold INF at b1 b2 b3
    dsimp only
    rw [v1, v2, v3, yn_add, zmin_yn (by omega) (by omega)]
    by_cases ej : 4 * p + q = i
    · have : p = i / 4 := by omega
      have : q = i % 4 := by omega
      subst p q
      rw [ei, zu_same, if_pos (by omega)]
      rfl
    · rw [zu_nej ej, h p q hp2 hq2]
      by_cases c : 4 * p + q < i
      · rw [if_pos c, if_pos (by omega)]
      · rw [if_neg c, if_neg (by omega)]
  · rintro ⟨c, B⟩ ⟨e, h⟩
    dsimp only at e h
    subst e
    unfold f67_shorten_L9
    refine yP_pos (Int32.le_refl _) (yP_some fun p q hp hq => ?_)
    have := h p q hp hq
    rw [if_pos (by omega)] at this
    exact this
def yphs (g : Nat → Nat → Nat) : Nat → Nat → Nat → Nat
  | 0 => g
  | k + 1 => yph k (yphs g k)
theorem yphs_ok {g : Nat → Nat → Nat} (h0 : ∀ p, p < 4 → g p p = 0) (hb : ∀ p q, p < 4 → q < 4 → g p q ≤ INF) : ∀ k, (∀ p, p < 4 → yphs g k p p = 0) ∧ (∀ p q, p < 4 → q < 4 → yphs g k p q ≤ INF)
  | 0 => ⟨h0, hb⟩
  | k + 1 => by
    obtain ⟨h1, h2⟩ := yphs_ok h0 hb k
    refine ⟨yph_zero h1, fun p q hp hq => ?_⟩
    exact Nat.le_trans (Nat.min_le_left _ _) (h2 p q hp hq)
theorem f67_P {g : Nat → Nat → Nat} (h0 : ∀ p, p < 4 → g p p = 0) (hb : ∀ p q, p < 4 → q < 4 → g p q ≤ INF) {A : yI} (hA : ∀ p q, p < 4 → q < 4 → A 14 (4 * p + q) = yn (g p q)) : yP (f67_shorten A) (fun x => ∀ p q, p < 4 → q < 4 → x 14 (4 * p + q) = yn (yphs g 4 p q)) := by
  unfold f67_shorten
  refine yP_bind ?_
  refine yP_for 4 (fun k s => s.1 = yn k ∧ ∀ p q, p < 4 → q < 4 → s.2 14 (4 * p + q) = yn (yphs g k p q)) (k := 0) ⟨rfl, hA⟩ (by omega) (by omega) ?_ ?_
  · rintro k ⟨c, B⟩ hk ⟨e, h⟩
    dsimp only at e h
    subst e
    unfold f67_shorten_L2
    have e16 : ¬ (4 : Int32) ≤ yn k := by
      show ¬ yn 4 ≤ yn k
      rw [yn_le (by omega) (by omega)]; omega
    dsimp only
    rw [if_neg e16]
    obtain ⟨z0, zb⟩ := yphs_ok h0 hb k
    refine yP_bind (yP_mono (sh9 hk z0 zb h) ?_)
    intro x hx
    rw [yn_succ]
    exact yP_some ⟨rfl, hx⟩
  · rintro ⟨c, B⟩ ⟨e, h⟩
    dsimp only at e h
    subst e
    unfold f67_shorten_L2
    exact yP_pos (Int32.le_refl _) (yP_some (yP_some h))
/-- one direction of a new way is laid -/
theorem f66_P {A : yI} {w x y m : Nat} (hw : w < 12) (h1 : A 1 1 = yn w) (hx : x < 4) (hy : y < 4) (hxy : x ≠ y) (hl : yLead A w x y) (hm : A 6 w = yn m) (hm3 : m < 1000) (hD : A 13 (4 * x + y) = ydir A x y w) {f : Nat} (hF : A 14 (4 * x + y) = yn f) (hf : f ≤ INF) : yP (f66_lay (yn x) (yn y) A) (fun A' => A' = zu (zu A 13 (4 * x + y) (ydir A x y (w + 1))) 14 (4 * x + y) (yn (min f m))) := by
  unfold f66_lay
  have e4 : yn x * 4 + yn y = yn (4 * x + y) := by
    show yn x * yn 4 + yn y = _
    rw [yn_mul, yn_add]; congr 1; omega
  unfold INF at hf
  have ez : zmin (yn f) (yn m) = yn (min f m) := zmin_yn (by omega) (by omega)
  have self : ∀ (I : yI) (k j : Nat) (v : Int32), I k j = v → zu I k j v = I := by
    intro I k j v hv
    funext b c
    rw [zu_at]
    by_cases h : b = k ∧ c = j
    · rw [if_pos h, h.1, h.2, hv]
    · rw [if_neg h]
  rw [e4]
  refine yP_bif (zin_yn (by omega) (by omega)) ?_
  rw [yn_nat (n := 4 * x + y) (by omega), h1, yn_nat (n := w) (by omega), hm, hF, ez]
  have hyd : ydir A x y (w + 1) = @ite _ (yLead A w x y ∧ (ydir A x y w < 0 ∨ A 6 w < A 6 (ydir A x y w).toNatClampNeg)) (Classical.propDecidable _) (yn w) (ydir A x y w) := rfl
  by_cases c : A 13 (4 * x + y) < 0
  · rw [if_pos c]
    refine yP_bif (zin_yn (by omega) (by omega)) (yP_bif (zin_yn (by omega) (by omega)) (yP_bif (zin_yn (by omega) (by omega)) (yP_bif (zin_yn (by omega) (by omega)) (yP_some ?_))))
    rw [hyd, if_pos ⟨hl, Or.inl (by rw [← hD]; exact c)⟩]
  · rw [if_neg c]
    obtain ⟨i, hi, ei, li⟩ : ∃ i, i < w ∧ ydir A x y w = yn i ∧ yLead A i x y := by
      rcases ydir_rg A x y w with e | h
      · rw [hD, e] at c; exact absurd (by decide) c
      · exact h
    have e13 : A 13 (4 * x + y) = yn i := by rw [hD, ei]
    refine yP_bif (zin_yn (by omega) (by omega)) (yP_bif (zin_yn (by omega) (by omega)) (yP_bif (by rw [e13]; exact zin_yn (by omega) (by omega)) ?_))
    rw [e13, yn_nat (n := i) (by omega)]
    by_cases c2 : A 6 i ≤ yn m
    · rw [if_pos c2]
      refine yP_bif (zin_yn (by omega) (by omega)) (yP_bif (zin_yn (by omega) (by omega)) (yP_bif (zin_yn (by omega) (by omega)) (yP_some ?_)))
      rw [hyd, ei, yn_nat (by omega), hm, if_neg]
      · rw [self A 13 _ _ e13]
      · rintro ⟨-, z | z⟩
        · exact absurd (yn_pos (n := i) (by omega)) (Int32.not_le.mpr z)
        · exact absurd c2 (Int32.not_le.mpr z)
    · rw [if_neg c2]
      refine yP_bif (zin_yn (by omega) (by omega)) (yP_bif (zin_yn (by omega) (by omega)) (yP_bif (zin_yn (by omega) (by omega)) (yP_bif (zin_yn (by omega) (by omega)) (yP_some ?_))))
      rw [hyd, ei, yn_nat (by omega), hm, if_pos ⟨hl, Or.inr (Int32.not_le.mp c2)⟩]
