/-! A RUN, noon 38: the stroke's count -/
theorem ylst_ynT {A : yI} {S ea c : Nat} : ∀ {T : Nat}, (∀ t, t < T → ∃ x, x ≤ 200 ∧ A 47 (32 * t + c) = yn x) → ∃ u, u ≤ 200 ∧ ylstT A S ea c T = yn u
  | 0, _ => ⟨200, by omega, rfl⟩
  | T + 1, h => by
    obtain ⟨u, hu, eu⟩ := ylst_ynT (A := A) (S := S) (ea := ea) (c := c) (T := T) (fun t ht => h t (by omega))
    obtain ⟨x, hx, ex⟩ := h T (by omega)
    unfold ylstT
    by_cases q : S ≤ T + ea
    · rw [if_pos q, eu, ex, zmin_yn (by omega) (by omega)]
      exact ⟨min u x, by omega, rfl⟩
    · rw [if_neg q]
      exact ⟨u, hu, eu⟩
/-- the reference looks for the least when the run is over -/
theorem leastT {a s S i k ea : Nat} {A B : yI} (hS60 : S ≤ 60) (hi : i < 4) (hk : k < 8) (hea : ea ≤ 20) (hE : ∀ t c, t < S + 1 → c < 32 → B 100 (32 * t + c) = A 47 (32 * t + c) ∧ ∃ x, x ≤ 200 ∧ A 47 (32 * t + c) = yn x) (lo : Nat) (hlo : lo = S - ea) : yP (zloop (f172_countSquare_L72 (yn i) (yn S) (yn k) B) 5000 (A 47 (32 * S + (8 * i + k)), yn lo)) (fun x => x.1 = ylstT A S ea (8 * i + k) (S + 1)) := by
  have hx : ∀ t, t < S + 1 → ∃ x, x ≤ 200 ∧ A 47 (32 * t + (8 * i + k)) = yn x := fun t ht => (hE t _ ht (by omega)).2
  obtain ⟨f, hf, ef⟩ := hx S (by omega)
  have last : ylstT A S ea (8 * i + k) (S + 1) = zmin (ylstT A S ea (8 * i + k) S) (A 47 (32 * S + (8 * i + k))) := by
    show (if S ≤ S + ea then _ else _) = _
    rw [if_pos (by omega)]
  have before : ∀ t, t ≤ lo → ylstT A S ea (8 * i + k) t = 200 := by
    intro t
    induction t with
    | zero => intro _; rfl
    | succ t ih =>
      intro ht
      show (if S ≤ t + ea then _ else _) = _
      rw [if_neg (by omega)]
      exact ih (by omega)
  rw [last]
  refine yP_for S (fun t x => x.1 = zmin (ylstT A S ea (8 * i + k) t) (A 47 (32 * S + (8 * i + k))) ∧ x.2 = yn t ∧ lo ≤ t) (k := lo) ⟨?_, rfl, Nat.le_refl _⟩ (by omega) (by omega) ?_ ?_
  · dsimp only
    rw [before lo (Nat.le_refl _), ef]
    show _ = zmin (yn 200) (yn f)
    rw [zmin_yn (by omega) (by omega)]
    congr 1; omega
  · rintro t x ht ⟨e1, e2, e3⟩
    obtain ⟨u, hu, eu⟩ := ylst_ynT (A := A) (S := S) (ea := ea) (c := 8 * i + k) (T := t) (fun t' ht' => hx t' (by omega))
    obtain ⟨e, he, ee⟩ := hx t (by omega)
    have nxt : ylstT A S ea (8 * i + k) (t + 1) = zmin (ylstT A S ea (8 * i + k) t) (A 47 (32 * t + (8 * i + k))) := by
      show (if S ≤ t + ea then _ else _) = _
      rw [if_pos (by omega)]
    unfold f172_countSquare_L72
    have ix : 32 * yn t + 8 * yn i + yn k = yn (32 * t + (8 * i + k)) := by
      show yn 32 * yn t + yn 8 * yn i + yn k = _
      rw [yn_mul, yn_mul, yn_add, yn_add]; congr 1; omega
    rw [e1, e2, ix, yn_succ, yn_nat (n := 32 * t + (8 * i + k)) (by omega), (hE t _ (by omega) (by omega)).1, nxt, eu, ee, ef, zmin_yn (by omega) (by omega), zmin_yn (by omega) (by omega), zmin_yn (by omega) (by omega)]
    refine yP_neg (by rw [yn_le (by omega) (by omega)]; omega) (yP_bif (zin_yn (by omega) (by omega)) (yP_ite (fun c => yP_some ⟨?_, rfl, by omega⟩) (fun c => yP_bif (zin_yn (by omega) (by omega)) (yP_some ⟨?_, rfl, by omega⟩))))
    · rw [yn_le (by omega) (by omega)] at c
      dsimp only
      congr 1; omega
    · rw [yn_le (by omega) (by omega)] at c
      dsimp only
      congr 1; omega
  · rintro x ⟨e1, e2, e3⟩
    unfold f172_countSquare_L72
    rw [e2]
    exact yP_pos (Int32.le_refl _) (yP_some e1)
/-- a square's count -/
def ycntT (A : yI) (S ea s i : Nat) : Int32 := ystT A i + ysum (fun k => ylstT A S ea (8 * i + k) (S + 1)) s
theorem countT {a w s S i ea : Nat} {A B : yI} (hT : yTw a w s A B) (hW : yWishT a s S A B) (hC : ∀ c, c < 32 → B 97 c = A 47 (32 * S + c)) (hS60 : S ≤ 60) (hi : i < a) (hea : ea ≤ 20) (eea : A 1 5 = yn ea) (hE : ∀ t c, t < S + 1 → c < 32 → B 100 (32 * t + c) = A 47 (32 * t + c) ∧ ∃ x, x ≤ 200 ∧ A 47 (32 * t + c) = yn x) : yP (f172_countSquare (yn i) (yn S) B) (fun B' => yfr [10399] B B' ∧ (∀ j, j ≠ i → B' 103 j = B 103 j) ∧ B' 103 i = ycntT A S ea s i) := by
  obtain ⟨⟨⟨ha, hw, hs⟩, ⟨a1, a2, a3⟩, ⟨b1, b2, b3⟩⟩, ⟨-, q17⟩, -⟩ := hT
  obtain ⟨-, -, ⟨-, ⟨m, -, hm, em⟩, w1, w2⟩, -⟩ := hW
  have loop : ∀ r0 : Int32, yP (zloop (f172_countSquare_L31 (yn i) (yn S)) 5000 ((0 : Int32), zu B 103 i r0)) (fun x => yfr [10399] B x.2 ∧ (∀ j, j ≠ i → x.2 103 j = B 103 j) ∧ x.2 103 i = r0 + ysum (fun k => ylstT A S ea (8 * i + k) (S + 1)) s) := by
    intro r0
    refine yP_for s (fun k x => x.1 = yn k ∧ yfr [10399] B x.2 ∧ (∀ j, j ≠ i → x.2 103 j = B 103 j) ∧ x.2 103 i = r0 + ysum (fun k => ylstT A S ea (8 * i + k) (S + 1)) k) (k := 0) ⟨rfl, yfr_zu rfl (yfr_refl _), fun j hj => by dsimp only; exact zu_nej hj, ?_⟩ (by omega) (by omega) ?_ ?_
    · dsimp only
      rw [zu_same]
      exact (Int32.add_zero r0).symm
    · rintro k x hk ⟨e1, fr, e3, e4⟩
      have q5 : x.2 73 17 = yn ea := by rw [fr 73 17 rfl, q17, eea]
      have hE' : ∀ t c, t < S + 1 → c < 32 → x.2 100 (32 * t + c) = A 47 (32 * t + c) ∧ ∃ y, y ≤ 200 ∧ A 47 (32 * t + c) = yn y := by
        intro t c ht hc
        rw [fr 100 _ rfl]; exact hE t c ht hc
      have c97 : x.2 97 (8 * i + k) = A 47 (32 * S + (8 * i + k)) := by rw [fr 97 _ rfl]; exact hC _ (by omega)
      have l1 := leastT (A := A) (B := x.2) (a := a) (s := s) (i := i) (k := k) hS60 (by omega) (by omega) hea hE' (S - ea) rfl
      unfold f172_countSquare_L31
      have ix : 8 * yn i + yn k = yn (8 * i + k) := by
        show yn 8 * yn i + yn k = _
        rw [yn_mul, yn_add]
      rw [e1, ix, yn_succ]
      refine yP_neg (by rw [fr 73 9 rfl, b3, yn_le (by omega) (by omega)]; omega) (yP_bif (zin_yn (by omega) (by omega)) ?_)
      have fin : ∀ v : Int32, v = ylstT A S ea (8 * i + k) (S + 1) → yP (bif zin (yn i) 4 then bif zin (yn i) 4 then some (Sum.inr (yn (k + 1), zu x.2 103 (yn i).toNatClampNeg (x.2 103 (yn i).toNatClampNeg + v)) : (Int32 × yI) ⊕ (Int32 × yI)) else none else none) (fun y => match y with
        | .inl _ => False
        | .inr s' => s'.1 = yn (k + 1) ∧ yfr [10399] B s'.2 ∧ (∀ j, j ≠ i → s'.2 103 j = B 103 j) ∧ s'.2 103 i = r0 + ysum (fun k => ylstT A S ea (8 * i + k) (S + 1)) (k + 1)) := by
        intro v hv
        refine yP_bif (zin_yn (by omega) (by omega)) (yP_bif (zin_yn (by omega) (by omega)) (yP_some ?_))
        rw [yn_nat (n := i) (by omega)]
        refine ⟨rfl, yfr_zu rfl fr, fun j hj => ?_, ?_⟩
        · dsimp only
          rw [zu_nej hj]; exact e3 j hj
        · dsimp only
          rw [zu_same, e4, hv]
          show _ = r0 + (ysum _ k + ylstT A S ea (8 * i + k) (S + 1))
          rw [Int32.add_assoc]
      rw [yn_nat (n := 8 * i + k) (by omega), c97]
      by_cases c : ea ≤ S
      · refine yP_pos (by rw [q5, yn_le (by omega) (by omega)]; exact c) ?_
        rw [q5, yn_sub c]
        exact yP_bind (yP_mono l1 fun y hy => yP_mono (fin _ hy) (by rintro (z | z) h <;> exact h))
      · refine yP_neg (by rw [q5, yn_le (by omega) (by omega)]; exact c) ?_
        have e0 : S - ea = 0 := by omega
        rw [e0] at l1
        exact yP_bind (yP_mono l1 fun y hy => yP_mono (fin _ hy) (by rintro (z | z) h <;> exact h))
    · rintro x ⟨e1, fr, e3, e4⟩
      unfold f172_countSquare_L31
      rw [e1]
      exact yP_pos (by rw [fr 73 9 rfl, b3]; exact Int32.le_refl _) (yP_some ⟨fr, e3, e4⟩)
  unfold f172_countSquare ycntT ystT
  have hz : zin (yn i) 4 = true := zin_yn (by omega) (by omega)
  rw [yn_nat (n := i) (by omega)]
  by_cases c : B 73 45 ≤ 0
  · have z0 : A 39 3 = 0 := by
      rw [w1, em] at c
      have c : yn m ≤ yn 0 := c
      rw [yn_le (by omega) (by omega)] at c
      rw [em]
      have : m = 0 := by omega
      rw [this]; rfl
    refine yP_pos c (yP_bif hz (yP_bind (yP_mono (loop 0) fun x hx => yP_some ?_)))
    rw [z0, ite_self]
    exact hx
  · refine yP_neg c ?_
    rcases w2 with w2 | ⟨w2, w3⟩
    · rw [w1, w2] at c
      exact absurd (by decide) c
    · by_cases c2 : A 39 2 = yn i
      · refine yP_pos (by rw [w2, c2]) (yP_bif hz (yP_bind (yP_mono (loop _) fun x hx => yP_some ?_)))
        rw [if_pos c2, ← w1]
        exact hx
      · refine yP_neg (fun z => c2 (by rw [← w2]; exact z.symm)) (yP_bif hz (yP_bind (yP_mono (loop 0) fun x hx => yP_some ?_)))
        rw [if_neg c2]
        exact hx
