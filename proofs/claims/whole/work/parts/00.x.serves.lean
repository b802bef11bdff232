/-! SERVES -/
/-- the noon with sort c under law l -/
theorem serveT {a w s nl c l : Nat} {A B A' B' : yI} (h : yRdy a w s nl A B) (hc : c < s) (hl : l ≤ 3) (fA : yfr kWT A A') (h2 : yIs 4 (A' 39 2)) (f0 : yfr kWR2 B (zu B' 73 50 (-1))) (hB : B' 73 50 = yn c) : ∃ A1 A2 y, f81_asIn_39 A' = some A1 ∧ f40_pass_38 (zu A1 41 c (yn l)) = some A2 ∧ f171_goTo (B' 73 15) (zu B' 73 51 (yn l)) = some y ∧ y.1 = A2 38 17 ∧ y.2 73 54 = A2 38 18 ∧ yfr kWT A A2 ∧ yIs 4 (A2 39 2) ∧ yfr kWR2 B (zu y.2 73 50 (-1)) ∧ y.2 73 50 = yn c := by
  obtain ⟨hT, hD, hL, hR, -⟩ := h
  obtain ⟨ha, hw, hs⟩ := hT.1.1
  have a0 : 0 < a := by
    obtain ⟨-, -, ⟨⟨i, hi, -⟩, -⟩, -⟩ := hT.2.2.2.2 c hc
    omega
  have hT0 : yTown a w s A' (zu B' 73 50 (-1)) := yTown_ag (yag_fr rfl fA) (yag_fr rfl f0) hT
  have hR0 : yTrans (zu B' 73 50 (-1)) := ⟨by rw [f0 73 45 rfl]; exact hR.1, by rw [f0 73 47 rfl]; exact hR.2.1, zu_same _ _ _ _⟩
  obtain ⟨A1, S, e1, eS, eS', hW, fr⟩ := asIn_T hT0 hR0 h2
  have fB1 : yfr (7350 :: kWR2) B (zu B' 73 51 (yn l)) := by
    have t := yfr_zu (W := 7350 :: kWR2) (a := 73) (k := 51) (x := yn l) rfl (yfr_zu (W := 7350 :: kWR2) (a := 73) (k := 50) (x := B' 73 50) rfl (yfr_mono (V := 7350 :: kWR2) rfl f0))
    rwa [zu_again, zu_self] at t
  have fA1 : yfr [3900, 3901, 3903, 3904, 4099, 4199] A' (zu A1 41 c (yn l)) := yfr_zu rfl fr
  have fA2 : yfr kWT A (zu A1 41 c (yn l)) := yfr_trans _ _ _ fA (yfr_mono rfl fA1)
  have eS2 : B' 73 15 = yn S := by simpa [zu_at] using eS'
  have hW1 : yWishT a s S (zu A1 41 c (yn l)) (zu B' 73 51 (yn l)) := by
    obtain ⟨w0, w1, w2, w3, w4, w5⟩ := hW
    refine ⟨by simpa [zu_at] using w0, by simpa [zu_at] using w1, by simpa [zu_at] using w2, by simpa [zu_at] using w3, by simpa [zu_at] using w4, fun k hk => ?_⟩
    obtain ⟨u1, u2⟩ := w5 k hk
    rw [zu_at, zu_at, zu_at, zu_at, if_neg (show ¬ ((73 : Nat) = 73 ∧ (50 : Nat) = 51) by omega), hB, if_pos (show (73 : Nat) = 73 ∧ (51 : Nat) = 51 from ⟨rfl, rfl⟩), if_neg (show ¬ ((84 : Nat) = 73 ∧ k = 51) by omega)]
    rw [zu_at, zu_at, zu_at, if_pos (show (73 : Nat) = 73 ∧ (50 : Nat) = 50 from ⟨rfl, rfl⟩), if_neg (yn_ne1 (by omega)), if_neg (show ¬ ((84 : Nat) = 73 ∧ k = 50) by omega)] at u2
    by_cases g : k = c
    · subst g
      rw [if_pos ⟨rfl, rfl⟩, if_pos rfl]
      exact ⟨⟨l, by omega, hl, rfl⟩, rfl⟩
    · rw [if_neg (fun z => g z.2), if_neg (fun z => g ((yn_inj (by omega) (by omega)).mp z))]
      exact ⟨u1, u2⟩
  have hTw : yTw a w s (zu A1 41 c (yn l)) (zu B' 73 51 (yn l)) := yTw_ag (yag_fr rfl fA2) (yag_fr rfl fB1) (yTown_Tw hT hD)
  have hL1 : yLaws nl (zu A1 41 c (yn l)) (zu B' 73 51 (yn l)) := yLaws_ag (yag_fr rfl fA2) (yag_fr rfl fB1) hL
  obtain ⟨A2, y, k2, k3, k4, k5⟩ := passT a0 hTw hW1 hL1
  have f2 : yfr w_f40_pass_38 (zu A1 41 c (yn l)) A2 := (fr_f40_pass_38 _) _ k2
  have f3 : yfr w_f171_goTo (zu B' 73 51 (yn l)) y.2 := (fr_f171_goTo _ _) _ k3
  refine ⟨A1, A2, y, e1, k2, by rw [eS2]; exact k3, k4, k5.2.2.2.2.1, yfr_trans _ _ _ fA2 (yfr_mono rfl f2), ?_, ?_, ?_⟩
  · rw [f2 39 2 rfl]
    exact hW1.2.2.1.1
  · have t : yfr kWR2 B (zu (zu B' 73 50 (-1)) 73 51 (yn l)) := yfr_zu rfl f0
    intro b j hk
    have u := t b j hk
    rw [zu_at, zu_at] at u
    rw [zu_at]
    by_cases g : b = 73 ∧ j = 50
    · rw [if_neg (by omega), if_pos g] at u
      rw [if_pos g]; exact u
    · rw [if_neg g] at u
      rw [if_neg g, f3 b j (ymem_sub hk), zu_at]
      exact u
  · rw [f3 73 50 rfl]
    simpa [zu_at] using hB
/-- the class's two bests and the reference's one -/
def ySv (x1 x2 x3 x4 y1 y2 y3 : Int32) : Prop := (x1 < 0 ∧ y1 = x3 ∧ (x3 < 0 ∨ (¬ x3 < 0 ∧ y2 = 0 ∧ y3 = x4))) ∨ (¬ x1 < 0 ∧ y1 = x1 ∧ y2 = 1 ∧ y3 = x2)
theorem c_serves {a w s nl : Nat} {A B : yI} (h : yRdy a w s nl A B) (v : Int32) : y2 (f110_serves v A) (f190_serves v B) (yThQ2 A B) := by
  have h0 := h
  obtain ⟨hT, hD, hL, hR, h2⟩ := h
  obtain ⟨⟨ha, hw, hs⟩, ⟨a1, a2, a3⟩, ⟨b1, b2, b3⟩⟩ := hT.1
  obtain ⟨hnl, l1, l2⟩ := hL.1
  unfold f110_serves f190_serves
  rw [f62_e a3 hs, f131_e b3 hs]
  simp only [ob, yb_ite0]
  by_cases hv : yIs s v
  · rw [if_pos hv, if_pos hv, l1, l2]
    refine y2_ite Iff.rfl (fun _ => done_th2 h2) fun _ => ?_
    obtain ⟨c, hc, rfl⟩ := hv
    have f00 : yfr kWR2 B (zu (zu B 73 50 (yn c)) 73 50 (-1)) := by
      intro b k hk
      rw [zu_at]
      by_cases g : b = 73 ∧ k = 50
      · rw [if_pos g, g.1, g.2]; exact hR.2.2.symm
      · rw [if_neg g, zu_at, if_neg g]
    refine y2_bind (R := fun (x : Int32 × Int32 × Int32 × Int32 × Int32 × yI) (y : Int32 × Int32 × Int32 × Int32 × yI) => ySv x.1 x.2.1 x.2.2.1 x.2.2.2.1 y.1 y.2.1 y.2.2.1 ∧ yfr kWT A x.2.2.2.2.2 ∧ yIs 4 (x.2.2.2.2.2 39 2) ∧ yfr kWR2 B (zu y.2.2.2.2 73 50 (-1))) ?_ ?_
    · refine y2_for nl (fun l (x : Int32 × Int32 × Int32 × Int32 × Int32 × yI) (y : Int32 × Int32 × Int32 × Int32 × yI) => (ySv x.1 x.2.1 x.2.2.1 x.2.2.2.1 y.1 y.2.1 y.2.2.1 ∧ yfr kWT A x.2.2.2.2.2 ∧ yIs 4 (x.2.2.2.2.2 39 2) ∧ yfr kWR2 B (zu y.2.2.2.2 73 50 (-1))) ∧ x.2.2.2.2.1 = yn l ∧ y.2.2.2.1 = yn l ∧ y.2.2.2.2 73 50 = yn c) (k := 0) ⟨⟨Or.inl ⟨(by decide : (-1 : Int32) < 0), rfl, Or.inl (by decide : (-1 : Int32) < 0)⟩, yfr_refl _, h2, f00⟩, rfl, rfl, zu_same B 73 50 (yn c)⟩ (by omega) (by omega) ?_ ?_
      · rintro l ⟨x1, x2, x3, x4, x5, A'⟩ ⟨y1, y2', y3, y4, B'⟩ - hl ⟨⟨p1, p2, p3, p4⟩, p5, p6, p7⟩
        dsimp only at p1 p2 p3 p4 p5 p6 p7
        subst p5 p6
        unfold f110_serves_L39 f190_serves_L35
        have gl : ¬ yn nl ≤ yn l := by rw [yn_le (by omega) (by omega)]; omega
        have eA : A' 15 7 = yn nl := by rw [p2 15 7 rfl]; exact l1
        have eB : B' 73 31 = yn nl := by
          have u := p4 73 31 rfl
          rw [zu_at, if_neg (by omega)] at u
          rw [u]; exact l2
        obtain ⟨A1, A2, y, k1, k2, k3, k4, k9, k5, k6, k7, k8⟩ := serveT h0 hc (l := l) (by omega) p2 p3 p4 p7
        have z4 : zin (yn c) 8 = true := zin_yn (by omega) (by omega)
        have e3 : y.2 81 c = A2 9 c := by
          have u := k7 81 c rfl
          rw [zu_at, if_neg (by omega)] at u
          rw [k5 9 c rfl, u]
          exact (hT.2.2.2.2 c hc).2.1.2
        have lp : ¬ yn l < 0 := Int32.not_lt.mpr (yn_pos (by omega))
        dsimp only
        rw [if_neg (show ¬ A' 15 7 ≤ yn l by rw [eA]; exact gl), if_neg (show ¬ B' 73 31 ≤ yn l by rw [eB]; exact gl), k1, ob, k3, ob]
        refine y2_bifL z4 (y2_bifR z4 ?_)
        rw [yn_nat (by omega), k2, ob]
        refine y2_bifL z4 ?_
        rw [k4, k9, e3, yn_succ]
        have fin : ∀ u1 u2 u3 u4 w1 w2 w3 : Int32, ySv u1 u2 u3 u4 w1 w2 w3 → y2 (some (.inr (u1, u2, u3, u4, yn (l + 1), A2)) : Option ((Int32 × Int32 × Int32 × Int32 × Int32 × yI) ⊕ (Int32 × Int32 × Int32 × Int32 × Int32 × yI))) (some (.inr (w1, w2, w3, yn (l + 1), y.2)) : Option ((Int32 × Int32 × Int32 × Int32 × yI) ⊕ (Int32 × Int32 × Int32 × Int32 × yI))) (yL0 (fun _ _ => False) (fun (x : Int32 × Int32 × Int32 × Int32 × Int32 × yI) (y : Int32 × Int32 × Int32 × Int32 × yI) => (ySv x.1 x.2.1 x.2.2.1 x.2.2.2.1 y.1 y.2.1 y.2.2.1 ∧ yfr kWT A x.2.2.2.2.2 ∧ yIs 4 (x.2.2.2.2.2 39 2) ∧ yfr kWR2 B (zu y.2.2.2.2 73 50 (-1))) ∧ x.2.2.2.2.1 = yn (l + 1) ∧ y.2.2.2.1 = yn (l + 1) ∧ y.2.2.2.2 73 50 = yn c)) := fun u1 u2 u3 u4 w1 w2 w3 hu => y2_some ⟨⟨hu, k5, k6, k7⟩, rfl, rfl, k8⟩
        generalize A2 38 18 = t at fin ⊢
        by_cases q : A2 38 17 = A2 9 c
        · rw [if_pos q, if_pos q]
          rcases p1 with ⟨g1, g2, g3⟩ | ⟨g1, g2, g3, g4⟩
          · rw [if_pos g1]
            have r : (if y1 < 0 then some (.inr (yn l, (1 : Int32), t, yn (l + 1), y.2)) else if y2' = 0 then some (.inr (yn l, (1 : Int32), t, yn (l + 1), y.2)) else if (1 : Int32) = y2' then if t ≤ y3 then some (.inr (y1, y2', y3, yn (l + 1), y.2)) else some (.inr (yn l, (1 : Int32), t, yn (l + 1), y.2)) else some (.inr (y1, y2', y3, yn (l + 1), y.2)) : Option ((Int32 × Int32 × Int32 × Int32 × yI) ⊕ (Int32 × Int32 × Int32 × Int32 × yI))) = some (.inr (yn l, (1 : Int32), t, yn (l + 1), y.2)) := by
              rcases g3 with g3 | ⟨g3, g4, -⟩
              · exact if_pos (by rw [g2]; exact g3)
              · rw [if_pos g4, ite_self]
            rw [r]
            by_cases c1 : x3 < 0
            · rw [if_pos c1]; exact fin _ _ _ _ _ _ _ (Or.inr ⟨lp, rfl, rfl, rfl⟩)
            · rw [if_neg c1]
              by_cases c2 : x4 ≤ t
              · rw [if_pos c2]; exact fin _ _ _ _ _ _ _ (Or.inr ⟨lp, rfl, rfl, rfl⟩)
              · rw [if_neg c2]; exact fin _ _ _ _ _ _ _ (Or.inr ⟨lp, rfl, rfl, rfl⟩)
          · rw [if_neg g1, if_neg (show ¬ y1 < 0 by rw [g2]; exact g1), if_neg (show ¬ y2' = 0 by rw [g3]; decide), if_pos g3.symm, g4]
            by_cases c0 : t ≤ x2
            · rw [if_pos c0, if_pos c0]
              by_cases c1 : x3 < 0
              · rw [if_pos c1]; exact fin _ _ _ _ _ _ _ (Or.inr ⟨g1, g2, g3, rfl⟩)
              · rw [if_neg c1]
                by_cases c2 : x4 ≤ t
                · rw [if_pos c2]; exact fin _ _ _ _ _ _ _ (Or.inr ⟨g1, g2, g3, rfl⟩)
                · rw [if_neg c2]; exact fin _ _ _ _ _ _ _ (Or.inr ⟨g1, g2, g3, rfl⟩)
            · rw [if_neg c0, if_neg c0]
              by_cases c1 : x3 < 0
              · rw [if_pos c1]; exact fin _ _ _ _ _ _ _ (Or.inr ⟨lp, rfl, rfl, rfl⟩)
              · rw [if_neg c1]
                by_cases c2 : x4 ≤ t
                · rw [if_pos c2]; exact fin _ _ _ _ _ _ _ (Or.inr ⟨lp, rfl, rfl, rfl⟩)
                · rw [if_neg c2]; exact fin _ _ _ _ _ _ _ (Or.inr ⟨lp, rfl, rfl, rfl⟩)
        · rw [if_neg q, if_neg q]
          rcases p1 with ⟨g1, g2, g3⟩ | ⟨g1, g2, g3, g4⟩
          · rcases g3 with g3 | ⟨g3, g4, g5⟩
            · rw [if_pos g3, if_pos (show y1 < 0 by rw [g2]; exact g3)]
              exact fin _ _ _ _ _ _ _ (Or.inl ⟨g1, rfl, Or.inr ⟨lp, rfl, rfl⟩⟩)
            · rw [if_neg g3, if_neg (show ¬ y1 < 0 by rw [g2]; exact g3), if_pos g4.symm, g5]
              by_cases c2 : x4 ≤ t
              · rw [if_pos c2, if_pos c2]; exact fin _ _ _ _ _ _ _ (Or.inl ⟨g1, g2, Or.inr ⟨g3, g4, rfl⟩⟩)
              · rw [if_neg c2, if_neg c2]; exact fin _ _ _ _ _ _ _ (Or.inl ⟨g1, rfl, Or.inr ⟨lp, rfl, rfl⟩⟩)
          · rw [if_neg (show ¬ y1 < 0 by rw [g2]; exact g1), if_neg (show ¬ (0 : Int32) = y2' by rw [g3]; decide)]
            by_cases c1 : x3 < 0
            · rw [if_pos c1]; exact fin _ _ _ _ _ _ _ (Or.inr ⟨g1, g2, g3, g4⟩)
            · rw [if_neg c1]
              by_cases c2 : x4 ≤ t
              · rw [if_pos c2]; exact fin _ _ _ _ _ _ _ (Or.inr ⟨g1, g2, g3, g4⟩)
              · rw [if_neg c2]; exact fin _ _ _ _ _ _ _ (Or.inr ⟨g1, g2, g3, g4⟩)
      · rintro ⟨x1, x2, x3, x4, x5, A'⟩ ⟨y1, y2', y3, y4, B'⟩ ⟨⟨p1, p2, p3, p4⟩, p5, p6, p7⟩
        dsimp only at p1 p2 p3 p4 p5 p6 p7
        subst p5 p6
        unfold f110_serves_L39 f190_serves_L35
        have eA : A' 15 7 = yn nl := by rw [p2 15 7 rfl]; exact l1
        have eB : B' 73 31 = yn nl := by
          have u := p4 73 31 rfl
          rw [zu_at, if_neg (by omega)] at u
          rw [u]; exact l2
        dsimp only
        rw [if_pos (show A' 15 7 ≤ yn nl by rw [eA]; exact Int32.le_refl _), if_pos (show B' 73 31 ≤ yn nl by rw [eB]; exact Int32.le_refl _)]
        exact y2_some ⟨p1, p2, p3, p4⟩
    · rintro x y ⟨p1, p2, p3, p4⟩
      rcases p1 with ⟨g1, g2, g3⟩ | ⟨g1, g2, g3, g4⟩
      · rw [if_pos g1]; exact y2_some ⟨g2.symm, p2, p3, p4⟩
      · rw [if_neg g1]; exact y2_some ⟨g2.symm, p2, p3, p4⟩
  · rw [if_neg hv, if_neg hv]
    exact done_th2 h2
