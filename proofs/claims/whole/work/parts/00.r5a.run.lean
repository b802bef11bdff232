/-! A RUN, noon 24: setting out -/
theorem lead {a w s j i q : Nat} {A B : yI} (hT : yTw a w s A B) (hj : j < w) : f169_doesLead (B 76 j) (B 77 j) (yn i) (yn q) = some (yb (yLead A j i q)) := by
  obtain ⟨-, -, -, hWy, -⟩ := hT
  obtain ⟨-, ⟨r1, r2⟩, -⟩ := hWy j hj
  rw [r1, r2]
  unfold f169_doesLead yLead
  by_cases c1 : A 4 j = yn i
  · rw [if_pos c1]
    by_cases c2 : A 5 j = yn q
    · rw [if_pos c2, yb_t (Or.inl ⟨c1, c2⟩)]
    · rw [if_neg c2]
      by_cases c3 : A 4 j = yn q
      · rw [if_pos c3]
        by_cases c4 : A 5 j = yn i
        · rw [if_pos c4, yb_t (Or.inr ⟨c3, c4⟩)]
        · rw [if_neg c4, yb_f]; rintro (z | z)
          · exact c2 z.2
          · exact c4 z.2
      · rw [if_neg c3, yb_f]; rintro (z | z)
        · exact c2 z.2
        · exact c3 z.1
  · rw [if_neg c1]
    by_cases c3 : A 4 j = yn q
    · rw [if_pos c3]
      by_cases c4 : A 5 j = yn i
      · rw [if_pos c4, yb_t (Or.inr ⟨c3, c4⟩)]
      · rw [if_neg c4, yb_f]; rintro (z | z)
        · exact c1 z.1
        · exact c4 z.2
    · rw [if_neg c3, yb_f]; rintro (z | z)
      · exact c1 z.1
      · exact c3 z.1
theorem way {a w s i q : Nat} {A B : yI} (hT : yTw a w s A B) (v1 v2 v3 : Int32) : yP (zloop (f170_go_L97 v1 v2 v3 (yn i) (yn q) B) 5000 ((-1 : Int32), (0 : Int32))) (fun x => x.1 = ydir A i q w) := by
  have hT0 := hT
  obtain ⟨⟨⟨ha, hw, hs⟩, ⟨a1, a2, a3⟩, ⟨b1, b2, b3⟩⟩, -, -, hWy, -⟩ := hT
  refine yP_for w (fun j x => x.1 = ydir A i q j ∧ x.2 = yn j) (k := 0) ⟨rfl, rfl⟩ (by omega) (by omega) ?_ ?_
  · rintro j ⟨x1, x2⟩ hj ⟨e1, e2⟩
    dsimp only at e1 e2
    subst e1 e2
    have r78 : ∀ j, j < w → B 78 j = A 6 j := fun j hj => (hWy j hj).2.2.1.2
    have hyd : ydir A i q (j + 1) = @ite _ (yLead A j i q ∧ (ydir A i q j < 0 ∨ A 6 j < A 6 (ydir A i q j).toNatClampNeg)) (Classical.propDecidable _) (yn j) (ydir A i q j) := rfl
    unfold f170_go_L97
    dsimp only
    refine yP_neg (by rw [b2, yn_le (by omega) (by omega)]; omega) (yP_bif (zin_yn (by omega) (by omega)) (yP_bif (zin_yn (by omega) (by omega)) ?_))
    rw [yn_nat (n := j) (by omega), lead hT0 hj, ob, yb_ite0, yn_succ, hyd]
    by_cases c : yLead A j i q
    · rw [if_pos c]
      rcases ydir_rg A i q j with e | ⟨m, hm, e, -⟩
      · rw [e]
        refine yP_pos (by decide) (yP_some ?_)
        rw [if_pos ⟨c, Or.inl (by decide)⟩]
        exact ⟨rfl, rfl⟩
      · rw [e]
        refine yP_neg (Int32.not_lt.mpr (yn_pos (by omega))) (yP_bif (zin_yn (by omega) (by omega)) (yP_bif (zin_yn (by omega) (by omega)) ?_))
        rw [yn_nat (n := m) (by omega), r78 m (by omega), r78 j hj]
        refine yP_ite (fun c2 => yP_some ?_) (fun c2 => yP_some ?_)
        · rw [if_neg]
          · exact ⟨rfl, rfl⟩
          · rintro ⟨-, z | z⟩
            · exact absurd (yn_pos (n := m) (by omega)) (Int32.not_le.mpr z)
            · exact absurd c2 (Int32.not_le.mpr z)
        · rw [if_pos ⟨c, Or.inr (Int32.not_le.mp c2)⟩]
          exact ⟨rfl, rfl⟩
    · rw [if_neg c, if_neg (fun z => c z.1)]
      exact yP_some ⟨rfl, rfl⟩
  · rintro ⟨x1, x2⟩ ⟨e1, e2⟩
    dsimp only at e1 e2
    subst e1 e2
    unfold f170_go_L97
    exact yP_pos (by dsimp only; rw [b2]; exact Int32.le_refl _) (yP_some rfl)
theorem aim36 (v1 v2 v3 : Int32) (I : yI) : yF (f47_aim_24 v1 v2 v3 I) (fun x => ∀ j, (j = 0 ∨ j = 5 ∨ j = 6) → x.2 36 j = I 36 j) := by
  unfold f47_aim_24
  refine yF_ite (yF_ite (yF_some fun _ _ => rfl) (yF_some fun _ _ => rfl)) ?_
  refine yF_bif fun _ => yF_ite ?_ ?_
  · refine yF_bif fun _ => yF_bif fun _ => yF_bind0 fun x => yF_bif fun _ => ?_
    refine yF_bind (P := fun y => ∀ j, (j = 0 ∨ j = 5 ∨ j = 6) → y.2 36 j = I 36 j) ?_ fun y h => yF_some h
    intro y hy j hj
    have fr := yfr2 (A' := y.2) (r := y.1) (fr_f30_gives_15_36 _ _) hy
    rw [fr 36 j rfl]
    rcases hj with rfl | rfl | rfl <;> simp [zu_at]
  · exact yF_bif fun _ => yF_bind0 fun x => yF_some fun _ _ => rfl
/-- how many may still set out, by ways and sides -/
def yFree (w : Nat) (A B : yI) : Prop := ∀ j e, j < w → e < 2 → ∃ x y, A 35 (2 * j + e) = yn x ∧ B 102 (2 * j + e) = yn y ∧ A 7 j = yn (x + y) ∧ x + y ≤ 99
def yGo (a w s S D K nl t : Nat) (A B : yI) : Prop := yBase a w s S D A B ∧ yCell (fun _ => K) A B ∧ yBeg a (t + 1) A B ∧ ySeen a S t A ∧ yLaws nl A B ∧ yFree w A B ∧ yCo A 28 29 32 S (fun _ => t + 1)
theorem beg_ag {a T : Nat} {A B A' B' : yI} (h1 : ∀ j, A' 34 j = A 34 j) (h2 : ∀ j, B' 101 j = B 101 j) (h : yBeg a T A B) : yBeg a T A' B' := by
  intro t q ht hq
  rw [h1, h2]; exact h t q ht hq
theorem seen_ag {a S t : Nat} {A A' : yI} (h1 : A' 25 1 = A 25 1) (h2 : A' 24 12 = A 24 12) (h3 : ∀ j, (j = 0 ∨ j = 5 ∨ j = 6) → A' 36 j = A 36 j) (h4 : ∀ j, A' 34 j = A 34 j) (h : ySeen a S t A) : ySeen a S t A' := by
  obtain ⟨lg, g1, g2, g3, g4, g5, g6⟩ := h
  refine ⟨lg, g1, by rw [h1]; exact g2, by rw [h2]; exact g3, by rw [h3 0 (by omega)]; exact g4, ?_, ?_⟩
  · rw [h3 5 (by omega), g5]
    congr 1
    exact yful_congr fun i _ => (h4 _).symm
  · rw [h3 6 (by omega), g6, h4]
    congr 2
    exact yful_congr fun i _ => (h4 _).symm
theorem go_keep {a w s S D K nl t : Nat} {A B A' B' : yI} (fA : yfr w_f47_aim_24 A A') (f36 : ∀ j, (j = 0 ∨ j = 5 ∨ j = 6) → A' 36 j = A 36 j) (fB : yfr w_f168_goal B B') (h : yGo a w s S D K nl t A B) : yGo a w s S D K nl t A' B' := by
  obtain ⟨⟨hT, hW, hAll, hN, hD⟩, hC, hG, hSe, hL, hF, hCo⟩ := h
  refine ⟨⟨yTw_ag (yag_fr rfl fA) (yag_fr rfl fB) hT, yWish_ag (yag_fr rfl fA) (yag_fr rfl fB) hW, ?_, ?_, yDue_ag (fun j => fA 32 j rfl) (fun j => fB 99 j rfl) hD⟩, ?_, beg_ag (fun j => fA 34 j rfl) (fun j => fB 101 j rfl) hG, seen_ag (fA 25 1 rfl) (fA 24 12 rfl) f36 (fun j => fA 34 j rfl) hSe, yLaws_ag (yag_fr rfl fA) (yag_fr rfl fB) hL, ?_, yCo_same (fun c => fA 28 c rfl) (fun c => fA 29 c rfl) (fun j => fA 32 j rfl) hCo⟩
  · intro i hi
    have : yst A' i = yst A i := by unfold yst; rw [fA 25 2 rfl, fA 25 3 rfl]
    rw [fA 31 i rfl, this, hAll i hi]
    congr 1
    exact ysum_congr fun x _ => (fA 28 _ rfl).symm
  · intro i k hi hk ho
    rw [fA 28 _ rfl]
    exact hN i k hi hk ho
  · intro c hc
    rw [fA 28 c rfl, fA 29 c rfl, fB 97 c rfl, fB 98 c rfl]
    exact hC c hc
  · intro j e hj he
    rw [fA 35 _ rfl, fB 102 _ rfl, fA 7 j rfl]
    exact hF j e hj he
theorem due_up {S D D' : Nat} {A B : yI} (h : D ≤ D') (hD : yDue S D A B) : yDue S D' A B := by
  intro t c ht hc
  obtain ⟨d, g1, g2⟩ := hD t c ht hc
  exact ⟨d, by omega, g2⟩
theorem go_up {a w s S D D' K nl t : Nat} {A B : yI} (hD : D ≤ D') (h : yGo a w s S D K nl t A B) : yGo a w s S D' K nl t A B :=
  ⟨⟨h.1.1, h.1.2.1, h.1.2.2.1, h.1.2.2.2.1, due_up hD h.1.2.2.2.2⟩, h.2⟩
/-- n of a sort set out: the memories then -/
theorem moved {a w s S D K nl t i k q j e n : Nat} {A B A' B' : yI} (ht : t < S) (hS60 : S ≤ 60) (hk : k < s) (hi : i < a) (hq : q < a) (hj : j < w) (he : e < 2) (hKb : K < 1000000000) (hDb : D < 1000000000) (h : yGo a w s S D K nl t A B) {x fx fy m pc : Nat} (c1 : A 28 (8 * i + k) = yn x) (hn1 : n ≤ x) (f1 : A 35 (2 * j + e) = yn fx) (f2 : B 102 (2 * j + e) = yn fy) (hn2 : n ≤ fx) (hfx : fx + fy ≤ 99) (h7 : A 7 j = yn (fx + fy)) {y0 : Nat} (c3 : A 29 (8 * i + k) = yn y0) (c4 : B 98 (8 * i + k) = yn y0) (c5 : x + y0 ≤ K) (hm : m ≤ 30) (hpc : pc ≤ 3) (hfA : yfr [2899, 3199, 3299, 3599] A A') (hfB : yfr [9799, 9999, 10299] B B')
    (g28 : ∀ c, A' 28 c = if c = 8 * i + k then yn (x - n) else A 28 c) (g97 : ∀ c, B' 97 c = if c = 8 * i + k then yn (x - n) else B 97 c) (g31 : ∀ r, A' 31 r = if r = i then A 31 i - yn n else A 31 r) (g35 : ∀ r, A' 35 r = if r = 2 * j + e then yn (fx - n) else A 35 r) (g102 : ∀ r, B' 102 r = if r = 2 * j + e then yn (fy + n) else B 102 r)
    (g32 : ∀ r, r < 32 * (S + 1) → A' 32 r = if r = 32 * (t + m * pc) + (8 * q + k) then A 32 r + yn n else A 32 r) (g99 : ∀ r, r < 32 * (S + 1) → B' 99 r = if r = 32 * (t + m * pc) + (8 * q + k) then B 99 r + yn n else B 99 r) : yGo a w s S (D + 99) K nl t A' B' := by
  obtain ⟨⟨hT, hW, hAll, hN, hD⟩, hC, hG, hSe, hL, hF, hCo⟩ := h
  obtain ⟨ha, hw, hs⟩ := hT.1.1
  refine ⟨⟨yTw_ag (yag_fr rfl hfA) (yag_fr rfl hfB) hT, yWish_ag (yag_fr rfl hfA) (yag_fr rfl hfB) hW, ?_, ?_, ?_⟩, ?_, beg_ag (fun j => hfA 34 j rfl) (fun j => hfB 101 j rfl) hG, seen_ag (hfA 25 1 rfl) (hfA 24 12 rfl) (fun j _ => hfA 36 j rfl) (fun j => hfA 34 j rfl) hSe, yLaws_ag (yag_fr rfl hfA) (yag_fr rfl hfB) hL, ?_, ?_⟩
  · refine all_upd (i := i) (k := k) (d := -yn n) (by omega) hk hs hAll (hfA 25 2 rfl) (hfA 25 3 rfl) (fun c => ?_) (fun r => ?_)
    · rw [g28]
      by_cases ec : c = 8 * i + k
      · rw [if_pos ec, if_pos ec, ec, c1, ← Int32.sub_eq_add_neg, yn_sub hn1]
      · rw [if_neg ec, if_neg ec]
    · rw [g31]
      by_cases ec : r = i
      · rw [if_pos ec, if_pos ec, ec, ← Int32.sub_eq_add_neg]
      · rw [if_neg ec, if_neg ec]
  · intro i' k' hi' hk' ho
    rw [g28, if_neg (by omega)]
    exact hN i' k' hi' hk' ho
  · intro t' c ht' hc
    obtain ⟨d, d1, d2, d3⟩ := hD t' c ht' hc
    rw [g32 _ (by omega), g99 _ (by omega)]
    by_cases ec : 32 * t' + c = 32 * (t + m * pc) + (8 * q + k)
    · rw [if_pos ec, if_pos ec, d2, d3, yn_add]
      exact ⟨d + n, by omega, rfl, rfl⟩
    · rw [if_neg ec, if_neg ec]
      exact ⟨d, by omega, d2, d3⟩
  · intro c hc
    obtain ⟨x', y', q1, q2, q3, q4, q5⟩ := hC c hc
    rw [g28, g97, hfA 29 c rfl, hfB 98 c rfl]
    by_cases ec : c = 8 * i + k
    · rw [if_pos ec, if_pos ec]
      rw [ec]
      exact ⟨x - n, y0, rfl, rfl, c3, c4, by show x - n + y0 ≤ K; omega⟩
    · rw [if_neg ec, if_neg ec]
      exact ⟨x', y', q1, q2, q3, q4, q5⟩
  · intro j' e' hj' he'
    rw [g35, g102, hfA 7 j' rfl]
    obtain ⟨x', y', q1, q2, q3, q4⟩ := hF j' e' hj' he'
    by_cases ec : 2 * j' + e' = 2 * j + e
    · rw [if_pos ec, if_pos ec]
      have ej : j' = j := by omega
      refine ⟨fx - n, fy + n, rfl, rfl, ?_, by omega⟩
      rw [ej, h7]
      congr 1; omega
    · rw [if_neg ec, if_neg ec]
      exact ⟨x', y', q1, q2, q3, q4⟩
  · refine yCo_go (i := i) (q := q) (k := k) (m := t + m * pc) (n := n) (x := x) (D := D) (by omega) (by omega) (by omega) (by omega) c1 hn1 (by omega) (fun r hr => ?_) g28 (fun c => hfA 29 c rfl) g32 hCo
    obtain ⟨d, d1, d2, -⟩ := hD (r / 32) (r % 32) (by omega) (by omega)
    have er : 32 * (r / 32) + r % 32 = r := by omega
    rw [er] at d2
    exact ⟨d, d1, d2⟩
theorem go_step {a w s S D K nl t k i : Nat} (ha0 : 0 < a) (ht : t < S) (hS60 : S ≤ 60) (hK : K < 1000000000) (hD : D < 1000000000) (hk : k < s) (hi : i < a) {A B : yI} (h : yGo a w s S D K nl t A B) : y2 (f45_go_24_L70 (yn t) (yn k) (yn i, A)) (f170_go_L34 (yn t) (yn (S - t)) (yn k) (yn i, B)) (yL0 (fun _ _ => False) (fun x y => x.1 = yn (i + 1) ∧ y.1 = yn (i + 1) ∧ yGo a w s S (D + 99) K nl t x.2 y.2)) := by
  have h0 := h
  obtain ⟨hB, hC, hG, hSe, hL, hF, -⟩ := h
  obtain ⟨hT, hW, hAll, hN, hDu⟩ := id hB
  obtain ⟨⟨⟨ha, hw, hs⟩, ⟨a1, a2, a3⟩, ⟨b1, b2, b3⟩⟩, -⟩ := id hT
  have i1 : yn i * 8 + yn k = yn (8 * i + k) := by
    show yn i * yn 8 + yn k = _
    rw [yn_mul, yn_add]; congr 1; omega
  have i2 : 8 * yn i + yn k = yn (8 * i + k) := by
    show yn 8 * yn i + yn k = _
    rw [yn_mul, yn_add]
  have hz : zin (yn (8 * i + k)) 32 = true := zin_yn (by omega) (by omega)
  obtain ⟨x, y0, c1, c2, c3, c4, c5⟩ := hC (8 * i + k) (by omega)
  dsimp only at c5
  have skip : ∀ {A' B' : yI}, yGo a w s S D K nl t A' B' → y2 (some (.inr (yn i + 1, A'))) (some (.inr (yn i + 1, B'))) (yL0 (fun _ _ => False) (fun (x y : Int32 × yI) => x.1 = yn (i + 1) ∧ y.1 = yn (i + 1) ∧ yGo a w s S (D + 99) K nl t x.2 y.2)) := fun h => ⟨_, _, rfl, rfl, yn_succ i, yn_succ i, go_up (by omega) h⟩
  unfold f45_go_24_L70 f170_go_L34
  dsimp only
  rw [if_neg (show ¬ A 1 0 ≤ yn i by rw [a1, yn_le (by omega) (by omega)]; omega), if_neg (show ¬ B 73 1 ≤ yn i by rw [b1, yn_le (by omega) (by omega)]; omega), i1, i2]
  refine y2_bifL hz (y2_bifR hz ?_)
  rw [yn_nat (n := 8 * i + k) (by omega)]
  have e0 : (A 28 (8 * i + k) ≤ 0) ↔ (B 97 (8 * i + k) = 0) := by
    rw [c1, c2]
    show yn x ≤ yn 0 ↔ yn x = yn 0
    rw [yn_le (by omega) (by omega), yn_inj (by omega) (by omega)]
    omega
  refine y2_ite e0 (fun _ => skip h0) fun _ => ?_
  obtain ⟨X, Y, g1, g2, hTo⟩ := goal ha0 ht hS60 hk hi hB hC hG hSe hL
  have fA : yfr w_f47_aim_24 A X.2 := (fr_f47_aim_24 _ _ _ A) _ g1
  have fB : yfr w_f168_goal B Y.2 := (fr_f168_goal _ _ _ _ B) _ g2
  have f36 : ∀ j, (j = 0 ∨ j = 5 ∨ j = 6) → X.2 36 j = A 36 j := aim36 _ _ _ A _ g1
  unfold f46_setOut_24
  rw [g1, g2, ob, ob]
  obtain ⟨A1, hA1⟩ : ∃ z, z = X.2 := ⟨_, rfl⟩
  obtain ⟨B1, hB1⟩ : ∃ z, z = Y.2 := ⟨_, rfl⟩
  obtain ⟨to, hto⟩ : ∃ z, z = X.1 := ⟨_, rfl⟩
  obtain ⟨to', hto'⟩ : ∃ z, z = Y.1 := ⟨_, rfl⟩
  rw [← hA1] at fA f36
  rw [← hB1] at fB
  rw [← hto, ← hto'] at hTo
  rw [← hA1, ← hB1, ← hto, ← hto']
  have h1 := go_keep fA f36 fB h0
  rw [f61_e (show A1 1 0 = yn a by rw [fA 1 0 rfl]; exact a1) ha, f130_e (show B1 73 1 = yn a by rw [fB 73 1 rfl]; exact b1) ha]
  rw [ob, ob, yb_ite0, yb_ite0]
  have nowhere : ∀ {α : Type} {z : Int32} {P Q : α}, ¬ (yIs a z ∧ z ≠ yn i) → @ite _ (yIs a z) (Classical.propDecidable _) (if z = yn i then P else Q) P = P := by
    intro α z P Q hz
    by_cases c : yIs a z
    · rw [if_pos c, if_pos (Classical.byContradiction fun q => hz ⟨c, q⟩)]
    · rw [if_neg c]
  by_cases hv : yIs a to ∧ to ≠ yn i
  · have et : to = to' := by
      rcases hTo with e | ⟨e, -⟩
      · exact e
      · exact absurd hv e
    subst et
    obtain ⟨⟨q, hq, rfl⟩, hne⟩ := hv
    have hqi : i ≠ q := fun z => hne (by rw [z])
    have hyq : yIs a (yn q) := ⟨q, hq, rfl⟩
    rw [if_pos hyq, if_pos hyq, if_neg hne, if_neg hne]
    obtain ⟨hB1, hC1, hG1, hSe1, hL1, hF1, -⟩ := id h1
    obtain ⟨hT1, hW1, hAll1, hN1, hDu1⟩ := id hB1
    obtain ⟨W, w1, w2⟩ := way (A := A1) (B := B1) (i := i) (q := q) hT1 (yn t) (yn (S - t)) (yn k)
    have ip : yn i * 4 + yn q = yn (4 * i + q) := by
      show yn i * yn 4 + yn q = _
      rw [yn_mul, yn_add]; congr 1; omega
    have e13 : A1 13 (4 * i + q) = ydir A1 i q w := hT1.2.2.2.2.2 i q (by omega) (by omega) hqi
    rw [w1, ob, ip, w2]
    rw [zin_yn (m := 4 * i + q) (by omega) (by omega), yn_nat (n := 4 * i + q) (by omega), e13, cond_true]
    rcases ydir_rg A1 i q w with e | ⟨j, hj, e, hlead⟩
    · rw [e, if_neg (by decide), if_neg (by decide)]
      exact skip h1
    · rw [e, if_pos (yn_pos (by omega)), if_pos (yn_pos (by omega))]
      obtain ⟨⟨p1, p2, hp1, hp2, hpne, l4, l5⟩, ⟨r4, r5⟩, ⟨⟨m, hm1, hm, em⟩, r6⟩, -, r7⟩ := hT1.2.2.2.1 j hj
      obtain ⟨-, -, ⟨⟨pc, hpc1, hpc, epc⟩, rpc⟩⟩ := hT1.2.2.2.2.1 k hk
      have c1' : A1 28 (8 * i + k) = yn x := by rw [fA 28 _ rfl]; exact c1
      have c2' : B1 97 (8 * i + k) = yn x := by rw [fB 97 _ rfl]; exact c2
      have c3' : A1 29 (8 * i + k) = yn y0 := by rw [fA 29 _ rfl]; exact c3
      have c4' : B1 98 (8 * i + k) = yn y0 := by rw [fB 98 _ rfl]; exact c4
      have c0' : A1 25 0 = yn S := by rw [fA 25 0 rfl]; exact hW.1.1
      have hzj : zin (yn j) 12 = true := zin_yn (by omega) (by omega)
      have hzk : zin (yn k) 8 = true := zin_yn (by omega) (by omega)
      have hzi : zin (yn i) 4 = true := zin_yn (by omega) (by omega)
      have mp : m * pc ≤ 30 * 3 := Nat.mul_le_mul hm hpc
      refine y2_bifB hzj (y2_bifR hzj ?_)
      rw [yn_nat (n := j) (by omega), yn_nat (n := k) (by omega), yn_nat (n := i) (by omega), i1, yn_nat (n := 8 * i + k) (by omega), r4, r6, rpc, em, epc, c0', c1', c2', yn_mul, yn_add]
      have ix : yn (t + m * pc) * 32 + yn q * 8 + yn k = yn (32 * (t + m * pc) + (8 * q + k)) := by
        show yn (t + m * pc) * yn 32 + yn q * yn 8 + yn k = _
        rw [yn_mul, yn_mul, yn_add, yn_add]; congr 1; omega
      have ix' : 32 * yn (t + m * pc) + 8 * yn q + yn k = yn (32 * (t + m * pc) + (8 * q + k)) := by
        show yn 32 * yn (t + m * pc) + yn 8 * yn q + yn k = _
        rw [yn_mul, yn_mul, yn_add, yn_add]; congr 1; omega
      rw [ix, ix', yn_nat (n := 32 * (t + m * pc) + (8 * q + k)) (by omega), r7]
      have hz4864 : zin (yn (32 * (t + m * pc) + (8 * q + k))) 4864 = true := zin_yn (by omega) (by omega)
      -- one side of the way
      have side : ∀ e, e < 2 → ∀ (ea eb : Int32), ea = yn (2 * j + e) → eb = yn (2 * j + e) → y2 (bif zin (yn (8 * i + k)) 32 then bif zin ea 24 then bif zin ea 24 then bif zin ea 24 then bif zin (yn (8 * i + k)) 32 then bif zin (yn (8 * i + k)) 32 then bif zin (yn i) 4 then bif zin (yn i) 4 then bif zin (yn j) 12 then bif zin (yn k) 8 then
          if yn S < yn (t + m * pc) then
            some (zu (zu (zu A1 35 ea.toNatClampNeg ((A1 35 ea.toNatClampNeg) - (zmin (yn x) (A1 35 ea.toNatClampNeg)))) 28 (8 * i + k) (yn x - (zmin (yn x) (A1 35 ea.toNatClampNeg)))) 31 i ((A1 31 i) - (zmin (yn x) (A1 35 ea.toNatClampNeg))))
          else
            bif zin (yn (32 * (t + m * pc) + (8 * q + k))) 1952 then
            bif zin (yn (32 * (t + m * pc) + (8 * q + k))) 1952 then
            some (zu (zu (zu (zu A1 35 ea.toNatClampNeg ((A1 35 ea.toNatClampNeg) - (zmin (yn x) (A1 35 ea.toNatClampNeg)))) 28 (8 * i + k) (yn x - (zmin (yn x) (A1 35 ea.toNatClampNeg)))) 31 i ((A1 31 i) - (zmin (yn x) (A1 35 ea.toNatClampNeg)))) 32 (32 * (t + m * pc) + (8 * q + k)) ((A1 32 (32 * (t + m * pc) + (8 * q + k))) + (zmin (yn x) (A1 35 ea.toNatClampNeg))))
            else none
            else none
          else none
          else none
          else none
          else none
          else none
          else none
          else none
          else none
          else none
          else none)
        (bif zin (yn j) 12 then bif zin eb 24 then bif zin (yn (8 * i + k)) 32 then
              if ((A1 7 j) - (B1 102 eb.toNatClampNeg)) ≤ (yn x) then
                bif zin eb 24 then
                bif zin eb 24 then
                bif zin (yn (8 * i + k)) 32 then
                bif zin (yn (8 * i + k)) 32 then
                bif zin (yn j) 12 then
                bif zin (yn k) 8 then
                bif zin (yn (32 * (t + m * pc) + (8 * q + k))) 4864 then
                bif zin (yn (32 * (t + m * pc) + (8 * q + k))) 4864 then
                some (.inr ((yn i + 1), (zu (zu (zu B1 102 eb.toNatClampNeg ((B1 102 eb.toNatClampNeg) + ((A1 7 j) - (B1 102 eb.toNatClampNeg)))) 97 (8 * i + k) (yn x - ((A1 7 j) - (B1 102 eb.toNatClampNeg)))) 99 (32 * (t + m * pc) + (8 * q + k)) ((B1 99 (32 * (t + m * pc) + (8 * q + k))) + ((A1 7 j) - (B1 102 eb.toNatClampNeg))))))
                else none
                else none
                else none
                else none
                else none
                else none
                else none
                else none
              else
                bif zin (yn (8 * i + k)) 32 then
                bif zin eb 24 then
                bif zin eb 24 then
                bif zin (yn (8 * i + k)) 32 then
                bif zin (yn (8 * i + k)) 32 then
                bif zin (yn j) 12 then
                bif zin (yn k) 8 then
                bif zin (yn (32 * (t + m * pc) + (8 * q + k))) 4864 then
                bif zin (yn (32 * (t + m * pc) + (8 * q + k))) 4864 then
                some (.inr ((yn i + 1), (zu (zu (zu B1 102 eb.toNatClampNeg ((B1 102 eb.toNatClampNeg) + (yn x))) 97 (8 * i + k) (yn x - (yn x))) 99 (32 * (t + m * pc) + (8 * q + k)) ((B1 99 (32 * (t + m * pc) + (8 * q + k))) + (yn x)))))
                else none
                else none
                else none
                else none
                else none
                else none
                else none
                else none
                else none
              else none
              else none
              else none) (fun t10 (y : (Int32 × yI) ⊕ (Int32 × yI)) => ∃ B2, y = .inr (yn (i + 1), B2) ∧ yGo a w s S (D + 99) K nl t t10 B2) := by
        rintro e he ea eb rfl rfl
        obtain ⟨fx, fy, f1, f2, f3, f4⟩ := hF1 j e hj he
        have hz24 : zin (yn (2 * j + e)) 24 = true := zin_yn (by omega) (by omega)
        refine y2_bifL hz (y2_bifL hz24 (y2_bifL hz24 (y2_bifL hz24 (y2_bifL hz (y2_bifL hz (y2_bifL hzi (y2_bifL hzi (y2_bifL hzj (y2_bifL hzk ?_)))))))))
        refine y2_bifR hzj (y2_bifR hz24 (y2_bifR hz ?_))
        have ef : yn (fx + fy) - yn fy = yn fx := by
          rw [yn_sub (by omega)]; congr 1; omega
        rw [yn_nat (n := 2 * j + e) (by omega), f1, f2, f3, ef, zmin_yn (by omega) (by omega)]
        have hmn : ∃ n, n = min x fx := ⟨_, rfl⟩
        obtain ⟨n, hn⟩ := hmn
        rw [← hn, yn_sub (a := x) (b := n) (by omega), yn_sub (a := fx) (b := n) (by omega)]
        have fin : ∀ (A2 B2 : yI), yfr [2899, 3199, 3299, 3599] A1 A2 → yfr [9799, 9999, 10299] B1 B2 → (∀ c, A2 28 c = if c = 8 * i + k then yn (x - n) else A1 28 c) → (∀ c, B2 97 c = if c = 8 * i + k then yn (x - n) else B1 97 c) → (∀ r, A2 31 r = if r = i then A1 31 i - yn n else A1 31 r) → (∀ r, A2 35 r = if r = 2 * j + e then yn (fx - n) else A1 35 r) → (∀ r, B2 102 r = if r = 2 * j + e then yn (fy + n) else B1 102 r) → (∀ r, r < 32 * (S + 1) → A2 32 r = if r = 32 * (t + m * pc) + (8 * q + k) then A1 32 r + yn n else A1 32 r) → (∀ r, r < 32 * (S + 1) → B2 99 r = if r = 32 * (t + m * pc) + (8 * q + k) then B1 99 r + yn n else B1 99 r) → yGo a w s S (D + 99) K nl t A2 B2 := fun A2 B2 q1 q2 q3 q4 q5 q6 q7 q8 q9 => moved ht hS60 hk hi hq hj he hK hD h1 c1' (by omega) f1 f2 (by omega) f4 f3 c3' c4' c5 hm hpc q1 q2 q3 q4 q5 q6 q7 q8 q9
        have bfin : ∀ v, v = yn n → (∀ c, (zu (zu (zu B1 102 (2 * j + e) (yn fy + v)) 97 (8 * i + k) (yn x - v)) 99 (32 * (t + m * pc) + (8 * q + k)) (B1 99 (32 * (t + m * pc) + (8 * q + k)) + v)) 97 c = if c = 8 * i + k then yn (x - n) else B1 97 c) ∧ (∀ r, (zu (zu (zu B1 102 (2 * j + e) (yn fy + v)) 97 (8 * i + k) (yn x - v)) 99 (32 * (t + m * pc) + (8 * q + k)) (B1 99 (32 * (t + m * pc) + (8 * q + k)) + v)) 102 r = if r = 2 * j + e then yn (fy + n) else B1 102 r) ∧ (∀ r, (zu (zu (zu B1 102 (2 * j + e) (yn fy + v)) 97 (8 * i + k) (yn x - v)) 99 (32 * (t + m * pc) + (8 * q + k)) (B1 99 (32 * (t + m * pc) + (8 * q + k)) + v)) 99 r = if r = 32 * (t + m * pc) + (8 * q + k) then B1 99 r + yn n else B1 99 r) ∧ yfr [9799, 9999, 10299] B1 (zu (zu (zu B1 102 (2 * j + e) (yn fy + v)) 97 (8 * i + k) (yn x - v)) 99 (32 * (t + m * pc) + (8 * q + k)) (B1 99 (32 * (t + m * pc) + (8 * q + k)) + v)) := by
          rintro v rfl
          rw [yn_add, yn_sub (a := x) (b := n) (by omega)]
          refine ⟨fun c => by simp [zu_at], fun r => by simp [zu_at], fun r => ?_, yfr_zu rfl (yfr_zu rfl (yfr_zu rfl (yfr_refl _)))⟩
          simp only [zu_at]
          by_cases er : r = 32 * (t + m * pc) + (8 * q + k) <;> simp [er]
        have bside : ∀ (R : yI → Prop), (∀ v, v = yn n → R (zu (zu (zu B1 102 (2 * j + e) (yn fy + v)) 97 (8 * i + k) (yn x - v)) 99 (32 * (t + m * pc) + (8 * q + k)) (B1 99 (32 * (t + m * pc) + (8 * q + k)) + v))) → yP (if yn fx ≤ yn x then
                bif zin (yn (2 * j + e)) 24 then
                bif zin (yn (2 * j + e)) 24 then
                bif zin (yn (8 * i + k)) 32 then
                bif zin (yn (8 * i + k)) 32 then
                bif zin (yn j) 12 then
                bif zin (yn k) 8 then
                bif zin (yn (32 * (t + m * pc) + (8 * q + k))) 4864 then
                bif zin (yn (32 * (t + m * pc) + (8 * q + k))) 4864 then
                some (.inr ((yn i + 1), (zu (zu (zu B1 102 (2 * j + e) (yn fy + yn fx)) 97 (8 * i + k) (yn x - yn fx)) 99 (32 * (t + m * pc) + (8 * q + k)) (B1 99 (32 * (t + m * pc) + (8 * q + k)) + yn fx))))
                else none
                else none
                else none
                else none
                else none
                else none
                else none
                else none
              else
                bif zin (yn (8 * i + k)) 32 then
                bif zin (yn (2 * j + e)) 24 then
                bif zin (yn (2 * j + e)) 24 then
                bif zin (yn (8 * i + k)) 32 then
                bif zin (yn (8 * i + k)) 32 then
                bif zin (yn j) 12 then
                bif zin (yn k) 8 then
                bif zin (yn (32 * (t + m * pc) + (8 * q + k))) 4864 then
                bif zin (yn (32 * (t + m * pc) + (8 * q + k))) 4864 then
                some (.inr ((yn i + 1), (zu (zu (zu B1 102 (2 * j + e) (yn fy + yn x)) 97 (8 * i + k) (yn x - yn x)) 99 (32 * (t + m * pc) + (8 * q + k)) (B1 99 (32 * (t + m * pc) + (8 * q + k)) + yn x))))
                else none
                else none
                else none
                else none
                else none
                else none
                else none
                else none
                else none) (fun (y : (Int32 × yI) ⊕ (Int32 × yI)) => ∃ B2, y = .inr (yn (i + 1), B2) ∧ R B2) := by
          intro R hR
          refine yP_ite (fun c => ?_) (fun c => ?_)
          · rw [yn_le (by omega) (by omega)] at c
            refine yP_bif hz24 (yP_bif hz24 (yP_bif hz (yP_bif hz (yP_bif hzj (yP_bif hzk (yP_bif hz4864 (yP_bif hz4864 (yP_some ⟨_, by rw [yn_succ], hR (yn fx) (by rw [hn]; congr 1; omega)⟩))))))))
          · rw [yn_le (by omega) (by omega)] at c
            refine yP_bif hz (yP_bif hz24 (yP_bif hz24 (yP_bif hz (yP_bif hz (yP_bif hzj (yP_bif hzk (yP_bif hz4864 (yP_bif hz4864 (yP_some ⟨_, by rw [yn_succ], hR (yn x) (by rw [hn]; congr 1; omega)⟩)))))))))
        by_cases cS : yn S < yn (t + m * pc)
        · rw [if_pos cS]
          rw [yn_lt (by omega) (by omega)] at cS
          obtain ⟨y, e1, B2, e2, e3⟩ := bside (fun B2 => yGo a w s S (D + 99) K nl t (zu (zu (zu A1 35 (2 * j + e) (yn (fx - n))) 28 (8 * i + k) (yn (x - n))) 31 i ((A1 31 i) - yn n)) B2) (by
            intro v hv
            obtain ⟨b1', b2', b3', b4'⟩ := bfin v hv
            refine fin _ _ (yfr_zu rfl (yfr_zu rfl (yfr_zu rfl (yfr_refl _)))) b4' (fun c => by simp [zu_at]) b1' (fun r => by simp [zu_at]) (fun r => by simp [zu_at]) b2' (fun r hr => ?_) (fun r _ => b3' r)
            rw [if_neg (by omega)]
            simp [zu_at])
          exact ⟨_, y, rfl, e1, B2, e2, e3⟩
        · rw [if_neg cS]
          rw [yn_lt (by omega) (by omega)] at cS
          have hz1952 : zin (yn (32 * (t + m * pc) + (8 * q + k))) 1952 = true := zin_yn (by omega) (by omega)
          refine y2_bifL hz1952 (y2_bifL hz1952 ?_)
          obtain ⟨y, e1, B2, e2, e3⟩ := bside (fun B2 => yGo a w s S (D + 99) K nl t (zu (zu (zu (zu A1 35 (2 * j + e) (yn (fx - n))) 28 (8 * i + k) (yn (x - n))) 31 i ((A1 31 i) - yn n)) 32 (32 * (t + m * pc) + (8 * q + k)) ((A1 32 (32 * (t + m * pc) + (8 * q + k))) + yn n)) B2) (by
            intro v hv
            obtain ⟨b1', b2', b3', b4'⟩ := bfin v hv
            refine fin _ _ (yfr_zu rfl (yfr_zu rfl (yfr_zu rfl (yfr_zu rfl (yfr_refl _))))) b4' (fun c => by simp [zu_at]) b1' (fun r => by simp [zu_at]) (fun r => by simp [zu_at]) b2' (fun r hr => ?_) (fun r _ => b3' r)
            simp only [zu_at]
            by_cases er : r = 32 * (t + m * pc) + (8 * q + k) <;> simp [er])
          exact ⟨_, y, rfl, e1, B2, e2, e3⟩
      have fin2 : ∀ {o : Option yI} {o' : Option ((Int32 × yI) ⊕ (Int32 × yI))}, y2 o o' (fun t10 y => ∃ B2, y = .inr (yn (i + 1), B2) ∧ yGo a w s S (D + 99) K nl t t10 B2) → y2 (Option.bind o fun t10 => some (.inr (yn i + 1, t10))) o' (yL0 (fun _ _ => False) (fun (x y : Int32 × yI) => x.1 = yn (i + 1) ∧ y.1 = yn (i + 1) ∧ yGo a w s S (D + 99) K nl t x.2 y.2)) := by
        rintro o o' ⟨x', y', rfl, rfl, B2, rfl, g⟩
        exact ⟨_, _, rfl, rfl, yn_succ i, rfl, g⟩
      have t1 : 2 * yn j = yn (2 * j + 0) := by
        show yn 2 * yn j = _
        rw [yn_mul]; rfl
      have t2 : 2 * yn j + 0 = yn (2 * j + 0) := by rw [Int32.add_zero]; exact t1
      have t3 : 2 * yn j + 1 = yn (2 * j + 1) := by rw [t1]; exact yn_succ _
      by_cases cs : A1 4 j = yn i
      · rw [if_pos cs, if_pos cs]
        exact fin2 (side 0 (by omega) _ _ t1 t2)
      · rw [if_neg cs, if_neg cs]
        exact fin2 (side 1 (by omega) _ _ t3 t3)
  · have hv' : ¬ (yIs a to' ∧ to' ≠ yn i) := by
      rcases hTo with e | ⟨-, e⟩
      · rw [← e]; exact hv
      · exact e
    rw [nowhere hv, nowhere hv']
    exact skip h1
