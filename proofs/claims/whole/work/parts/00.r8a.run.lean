/-! A RUN, noon 24: the minutes -/
theorem yEnd_ag {a s S T : Nat} {A B A' B' : yI} (h33 : ∀ j, A' 33 j = A 33 j) (h30 : ∀ j, A' 30 j = A 30 j) (h5 : A' 1 5 = A 1 5) (hb : ∀ j, B' 100 j = B 100 j) (h : yEnd a s S T A B) : yEnd a s S T A' B' := by
  obtain ⟨h1, h2, ea, h3, h4, h6⟩ := h
  refine ⟨fun t c ht hc => ?_, fun t i k ht hi hk ho => ?_, ea, h3, by rw [h5]; exact h4, fun c hc => ?_⟩
  · rw [h33, hb]; exact h1 t c ht hc
  · rw [h33]; exact h2 t i k ht hi hk ho
  · rw [h30, h6 c hc]
    exact (ylst_ag fun t _ => h33 _).symm
def yPass (a w s S nl t : Nat) (A B : yI) : Prop := yBase a w s S (3168 * t) A B ∧ yCell (fun _ => 200 + 190080 * t) A B ∧ yBeg a t A B ∧ yEnd a s S t A B ∧ yLaws nl A B ∧ yCo A 28 29 32 S (fun _ => t)
theorem minute {a w s S nl t : Nat} (ha0 : 0 < a) (ht : t < S) (hS60 : S ≤ 60) {A B : yI} (h : yPass a w s S nl t A B) : y2 (f40_pass_24_L6 (yn t, A)) (f171_goTo_L90 (yn S) (yn t, B)) (yL0 (fun _ _ => False) (fun x y => x.1 = yn (t + 1) ∧ y.1 = yn (t + 1) ∧ yPass a w s S nl (t + 1) x.2 y.2)) := by
  obtain ⟨hB, hC, hG, hE, hL, hCo⟩ := h
  have hS0 := hB.2.1.1.1
  unfold f40_pass_24_L6 f171_goTo_L90
  dsimp only
  rw [if_neg (show ¬ A 25 0 ≤ yn t by rw [hS0, yn_le (by omega) (by omega)]; omega), if_neg (show ¬ yn S ≤ yn t by rw [yn_le (by omega) (by omega)]; omega), yn_sub (a := S) (b := t) (by omega), yn_succ]
  obtain ⟨A1, y1, e1, e2, hB1, hC1, hG1, hSe1⟩ := see (yn S) ha0 ht hS60 hB hC hG
  have fA1 : yfr w_f42_see_24 A A1 := (fr_f42_see_24 (yn t) A) _ e1
  have fB1 : yfr w_f171_goTo_L97 B y1.2 := (frl_f171_goTo_L97 (yn S) (yn t) 5000 _) _ e2
  rw [e1, e2, ob, ob]
  obtain ⟨A2, B2, e3, e4, hB2, hC2, hCo2⟩ := arrive (t := t) (by omega) hS60 (by omega) hB1 hC1 (yCo_same (fun c => fA1 28 c rfl) (fun c => fA1 29 c rfl) (fun j => fA1 32 j rfl) hCo)
  have fA2 : yfr w_f44_arrive_24 A1 A2 := (fr_f44_arrive_24 (yn t) A1) _ e3
  have fB2 : yfr w_f167_arrive y1.2 B2 := (fr_f167_arrive (yn t) y1.2) _ e4
  rw [e3, e4, ob, ob]
  have hG2 : yBeg a (t + 1) A2 B2 := beg_ag (fun j => fA2 34 j rfl) (fun j => fB2 101 j rfl) hG1
  have hSe2 : ySeen a S t A2 := seen_ag (fA2 25 1 rfl) (fA2 24 12 rfl) (fun j _ => fA2 36 j rfl) (fun j => fA2 34 j rfl) hSe1
  have hL2 : yLaws nl A2 B2 := yLaws_ag (yag_fr rfl fA2) (yag_fr rfl fB2) (yLaws_ag (yag_fr rfl fA1) (yag_fr rfl fB1) hL)
  obtain ⟨A3, B3, e5, e6, hB3, hC3, hG3, hL3, hCo3⟩ := go ha0 ht hS60 (by omega) (by omega) hB2 hC2 hG2 hSe2 hL2 hCo2
  have fA3 : yfr w_f45_go_24 A2 A3 := (fr_f45_go_24 (yn t) A2) _ e5
  have fB3 : yfr w_f170_go B2 B3 := (fr_f170_go (yn t) (yn (S - t)) B2) _ e6
  rw [e5, e6, ob, ob]
  have hE3 : yEnd a s S t A3 B3 := by
    refine yEnd_ag (fun j => fA3 33 j rfl) (fun j => fA3 30 j rfl) (fA3 1 5 rfl) (fun j => fB3 100 j rfl) ?_
    refine yEnd_ag (fun j => fA2 33 j rfl) (fun j => fA2 30 j rfl) (fA2 1 5 rfl) (fun j => fB2 100 j rfl) ?_
    exact yEnd_ag (fun j => fA1 33 j rfl) (fun j => fA1 30 j rfl) (fA1 1 5 rfl) (fun j => fB1 100 j rfl) hE
  obtain ⟨A4, e7, fA4, hE4⟩ := endm (K := 0) (yn S) (by omega) hS60 hB3.2.1.1.1 (fun c => by omega) hC3 hB3.2.2.2.1 (fun c hc => yCo_200 hCo3 hc) hE3
  obtain ⟨y4, e8, fB4, k1, k2⟩ := kept_l (B := B3) (yn S) (t := t) (by omega)
  rw [e7, e8, ob, ob]
  refine y2_some ⟨rfl, rfl, ?_, ?_, ?_, hE4 _ k1 k2, yLaws_ag (yag_fr rfl fA4) (yag_fr rfl fB4) hL3, yCo_same (fun c => fA4 28 c rfl) (fun c => fA4 29 c rfl) (fun j => fA4 32 j rfl) hCo3⟩
  · have e : 3168 * (t + 1) = 3168 * t + 3168 := by omega
    rw [e]
    obtain ⟨hT, hW, hAll, hN, hD⟩ := hB3
    refine ⟨yTw_ag (yag_fr rfl fA4) (yag_fr rfl fB4) hT, yWish_ag (yag_fr rfl fA4) (yag_fr rfl fB4) hW, ?_, ?_, yDue_ag (fun j => fA4 32 j rfl) (fun j => fB4 99 j rfl) hD⟩
    · intro i hi
      dsimp only
      have : yst A4 i = yst A3 i := by unfold yst; rw [fA4 25 2 rfl, fA4 25 3 rfl]
      rw [fA4 31 i rfl, this, hAll i hi]
      exact congrArg (fun z => yst A3 i + z) (ysum_congr fun x _ => (fA4 28 _ rfl).symm)
    · intro i k hi hk ho
      dsimp only
      rw [fA4 28 _ rfl]
      exact hN i k hi hk ho
  · intro c hc
    dsimp only
    rw [fA4 28 c rfl, fA4 29 c rfl, fB4 97 c rfl, fB4 98 c rfl]
    obtain ⟨x, y, c1, c2, c3, c4, c5⟩ := hC3 c hc
    dsimp only at c5
    exact ⟨x, y, c1, c2, c3, c4, by omega⟩
  · exact beg_ag (fun j => fA4 34 j rfl) (fun j => fB4 101 j rfl) hG3
/-- all minutes, and the stroke -/
theorem minutes {a w s S nl : Nat} (ha0 : 0 < a) (hS60 : S ≤ 60) {A B : yI} (h : yPass a w s S nl 0 A B) : ∃ (x : Int32 × yI) (A1 A2 : yI) (y : Int32 × yI) (B1 : yI) (z : Int32 × yI), zloop f40_pass_24_L6 5000 ((0 : Int32), A) = some x ∧ f44_arrive_24 (yn S) x.2 = some A1 ∧ f48_end_24 (yn S) A1 = some A2 ∧ zloop (f171_goTo_L90 (yn S)) 5000 ((0 : Int32), B) = some y ∧ f167_arrive (yn S) y.2 = some B1 ∧ zloop (f171_goTo_L183 (yn S)) 5000 ((0 : Int32), B1) = some z ∧ x.2 25 0 = yn S ∧ A1 25 0 = yn S ∧ yBase a w s S 190080 A2 z.2 ∧ yCell (fun _ => 12000000) A2 z.2 ∧ yEnd a s S (S + 1) A2 z.2 ∧ yLaws nl A2 z.2 := by
  have hS1 := h.1.2.1.1.2.1
  have loop : y2 (zloop f40_pass_24_L6 5000 ((0 : Int32), A)) (zloop (f171_goTo_L90 (yn S)) 5000 ((0 : Int32), B)) (fun x y => yPass a w s S nl S x.2 y.2) := by
    refine y2_for S (fun t x y => x.1 = yn t ∧ y.1 = yn t ∧ yPass a w s S nl t x.2 y.2) (k := 0) ⟨rfl, rfl, h⟩ (by omega) (by omega) ?_ ?_
    · rintro t ⟨x1, A1⟩ ⟨y1, B1⟩ - ht ⟨e1, e2, e3⟩
      dsimp only at e1 e2 e3
      subst e1 e2
      exact minute ha0 ht hS60 e3
    · rintro ⟨x1, A1⟩ ⟨y1, B1⟩ ⟨e1, e2, e3⟩
      dsimp only at e1 e2 e3
      subst e1 e2
      unfold f40_pass_24_L6 f171_goTo_L90
      dsimp only
      rw [if_pos (show A1 25 0 ≤ yn S by rw [e3.1.2.1.1.1]; exact Int32.le_refl _), if_pos (Int32.le_refl _)]
      exact y2_some e3
  obtain ⟨x, y, e1, e2, hB, hC, hG, hE, hL, hCo⟩ := loop
  obtain ⟨A1, B1, e3, e4, hB1, hC1, hCo1⟩ := arrive (t := S) (by omega) hS60 (by omega) hB hC hCo
  have fA1 : yfr w_f44_arrive_24 x.2 A1 := (fr_f44_arrive_24 (yn S) x.2) _ e3
  have fB1 : yfr w_f167_arrive y.2 B1 := (fr_f167_arrive (yn S) y.2) _ e4
  have hE1 : yEnd a s S S A1 B1 := yEnd_ag (fun j => fA1 33 j rfl) (fun j => fA1 30 j rfl) (fA1 1 5 rfl) (fun j => fB1 100 j rfl) hE
  obtain ⟨A2, e5, fA2, hE2⟩ := endm (K := 0) (yn S) (Nat.le_refl S) hS60 hB1.2.1.1.1 (fun c => by omega) hC1 hB1.2.2.2.1 (fun c hc => yCo_200 hCo1 hc) hE1
  obtain ⟨z, e6, fB2, k1, k2⟩ := kept_l2 (B := B1) (t := S) hS60
  refine ⟨x, A1, A2, y, B1, z, e1, e3, e5, e2, e4, e6, hB.2.1.1.1, hB1.2.1.1.1, ?_, ?_, hE2 _ k1 k2, yLaws_ag (yag_fr rfl fA2) (yag_fr rfl fB2) (yLaws_ag (yag_fr rfl fA1) (yag_fr rfl fB1) hL)⟩
  · obtain ⟨hT, hW, hAll, hN, hD⟩ := hB1
    refine ⟨yTw_ag (yag_fr rfl fA2) (yag_fr rfl fB2) hT, yWish_ag (yag_fr rfl fA2) (yag_fr rfl fB2) hW, ?_, ?_, due_up (by omega) (yDue_ag (fun j => fA2 32 j rfl) (fun j => fB2 99 j rfl) hD)⟩
    · intro i hi
      have : yst A2 i = yst A1 i := by unfold yst; rw [fA2 25 2 rfl, fA2 25 3 rfl]
      rw [fA2 31 i rfl, this, hAll i hi]
      exact congrArg (fun z => yst A1 i + z) (ysum_congr fun x _ => (fA2 28 _ rfl).symm)
    · intro i k hi hk ho
      rw [fA2 28 _ rfl]
      exact hN i k hi hk ho
  · intro c hc
    rw [fA2 28 c rfl, fA2 29 c rfl, fB2 97 c rfl, fB2 98 c rfl]
    obtain ⟨u, v, c1, c2, c3, c4, c5⟩ := hC1 c hc
    dsimp only at c5
    exact ⟨u, v, c1, c2, c3, c4, by show u + v ≤ 12000000; omega⟩
/-- at first -/
theorem start {a w s S nl : Nat} {A B : yI} (hT : yTw a w s A B) (hW : yWish a s S A B) (hL : yLaws nl A B) : ∃ (A0 : yI) (x1 x2 x3 : Int32 × yI), f41_begin_24 A = some A0 ∧ zloop (f171_goTo_L2 (yn S)) 5000 ((0 : Int32), B) = some x1 ∧ zloop (f171_goTo_L30 (yn S)) 5000 ((0 : Int32), x1.2) = some x2 ∧ zloop (f171_goTo_L52 (yn S)) 5000 ((0 : Int32), x2.2) = some x3 ∧ yPass a w s S nl 0 A0 x3.2 ∧ A0 24 13 = A 1 0 ∧ A0 24 14 = A 1 2 ∧ yfr w_f41_begin_24 A A0 ∧ yfr [9799, 9899, 9999] B x3.2 := by
  obtain ⟨⟨ha, hw, hs⟩, -, ⟨b1, b2, b3⟩⟩ := hT.1
  have hSo := hT.2.2.2.2.1
  obtain ⟨ea, -, hea, eea⟩ := hT.2.1.1
  have wh := hW.2.2.2.2.1
  obtain ⟨w0, w1, w2⟩ := hW.1
  obtain ⟨A0, e0, fA, g1, g2, g3, g4, g5, g6⟩ := begin1 hT hW
  obtain ⟨x1, x2, x3, e1, e2, e3, fB, k1, k2, k3⟩ := begin2 (B := B) (yn S) hs b3 (fun k hk => by
    obtain ⟨q1, i, hi, q2⟩ := wh k hk
    exact ⟨i, by omega, by rw [q1, q2]⟩)
  refine ⟨A0, x1, x2, x3, e0, e1, e2, e3, ⟨⟨yTw_ag (yag_fr rfl fA) (yag_fr rfl fB) hT, yWish_ag (yag_fr rfl fA) (yag_fr rfl fB) hW, ?_, ?_, ?_⟩, ?_, fun t q ht _ => absurd ht (Nat.not_lt_zero _), ⟨fun t c ht _ => absurd ht (Nat.not_lt_zero _), fun t i k ht _ _ _ => absurd ht (Nat.not_lt_zero _), ea, hea, by rw [fA 1 5 rfl]; exact eea, fun c hc => (g1 c hc).2⟩, yLaws_ag (yag_fr rfl fA) (yag_fr rfl fB) hL, yCo_start (s := s) (hm := A 26) (mn := A 8) (fun c hc => (g1 c hc).1) g3 g2 (fun k hk => ?_)⟩, g5, g6, fA, fB⟩
  · intro i hi
    have : yst A0 i = yst A i := by unfold yst; rw [fA 25 2 rfl, fA 25 3 rfl]
    rw [this]
    exact g4 i hi
  · intro i k hi hk ho
    rw [g2 i k hi hk, if_neg]
    rintro ⟨q1, q2⟩
    obtain ⟨-, h, hh, q3⟩ := wh k q1
    rw [q3, yn_inj (by omega) (by omega)] at q2
    omega
  · intro t c ht hc
    exact ⟨0, by omega, g3 _ (by omega), k3 _ (by omega)⟩
  · intro c hc
    have ec : c = 8 * (c / 8) + c % 8 := by omega
    rw [(g1 c hc).1, k1 c hc, ec, g2 (c / 8) (c % 8) (by omega) (by omega), k2 (c / 8) (c % 8) (by omega) (by omega)]
    by_cases q : c % 8 < s ∧ A 26 (c % 8) = yn (c / 8)
    · obtain ⟨⟨⟨m, -, hm, em⟩, r8⟩, -⟩ := hSo _ q.1
      rw [if_pos q, if_pos ⟨q.1, by rw [(wh _ q.1).1]; exact q.2⟩, r8, em]
      exact ⟨m, 0, rfl, rfl, rfl, rfl, by omega⟩
    · rw [if_neg q, if_neg]
      · exact ⟨0, 0, rfl, rfl, rfl, rfl, by omega⟩
      · rintro ⟨q1, q2⟩
        rw [(wh _ q1).1] at q2
        exact q ⟨q1, q2⟩
  · obtain ⟨⟨⟨m, -, hm, em⟩, -⟩, -⟩ := hSo k hk
    exact ⟨m, hm, em⟩
