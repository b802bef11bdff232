theorem oft_save {s : Nat} {B : yI} (hs : s ≤ 8) (b3 : B 73 9 = yn s) (v1 v2 : Int32) : yP (zloop (f185_often_L39 v1 v2) 5000 ((0 : Int32), B)) (fun x => ∀ b k, x.2 b k = if b = 107 ∧ k < s then B 82 k else B b k) := by
  refine yP_for s (fun i x => x.1 = yn i ∧ ∀ b k, x.2 b k = if b = 107 ∧ k < i then B 82 k else B b k) (k := 0) ⟨rfl, fun b k => by rw [if_neg (by omega)]⟩ (by omega) (by omega) ?_ ?_
  · rintro i ⟨x1, B'⟩ hi ⟨p1, p2⟩
    dsimp only at p1 p2
    subst p1
    unfold f185_often_L39
    have g : ¬ B' 73 9 ≤ yn i := by rw [p2, if_neg (by omega), b3, yn_le (by omega) (by omega)]; omega
    have z8 : zin (yn i) 8 = true := zin_yn (by omega) (by omega)
    refine yP_neg g ?_
    dsimp only
    rw [z8, yn_nat (by omega)]
    refine yP_some ⟨yn_succ i, fun b k => ?_⟩
    dsimp only
    rw [zu_at, p2, p2]
    by_cases q : b = 107 ∧ k = i
    · rw [if_pos q, if_neg (by omega), if_pos ⟨q.1, by omega⟩, q.2]
    · rw [if_neg q]
      by_cases r : b = 107 ∧ k < i
      · rw [if_pos r, if_pos ⟨r.1, by omega⟩]
      · rw [if_neg r, if_neg (by omega)]
  · rintro ⟨x1, B'⟩ ⟨p1, p2⟩
    dsimp only at p1 p2
    subst p1
    unfold f185_often_L39
    exact yP_pos (show B' 73 9 ≤ yn s by rw [p2, if_neg (by omega), b3]; exact Int32.le_refl _) (yP_some p2)
theorem oft_back {s : Nat} {B : yI} (hs : s ≤ 8) (b3 : B 73 9 = yn s) (v4 : Int32) : yP (zloop (f185_often_L153 v4) 5000 ((0 : Int32), B)) (fun x => ∀ b k, x.2 b k = if b = 82 ∧ k < s then B 107 k else B b k) := by
  refine yP_for s (fun i x => x.1 = yn i ∧ ∀ b k, x.2 b k = if b = 82 ∧ k < i then B 107 k else B b k) (k := 0) ⟨rfl, fun b k => by rw [if_neg (by omega)]⟩ (by omega) (by omega) ?_ ?_
  · rintro i ⟨x1, B'⟩ hi ⟨p1, p2⟩
    dsimp only at p1 p2
    subst p1
    unfold f185_often_L153
    have g : ¬ B' 73 9 ≤ yn i := by rw [p2, if_neg (by omega), b3, yn_le (by omega) (by omega)]; omega
    have z8 : zin (yn i) 8 = true := zin_yn (by omega) (by omega)
    refine yP_neg g ?_
    dsimp only
    rw [z8, yn_nat (by omega)]
    refine yP_some ⟨yn_succ i, fun b k => ?_⟩
    dsimp only
    rw [zu_at, p2, p2]
    by_cases q : b = 82 ∧ k = i
    · rw [if_pos q, if_neg (by omega), if_pos ⟨q.1, by omega⟩, q.2]
    · rw [if_neg q]
      by_cases r : b = 82 ∧ k < i
      · rw [if_pos r, if_pos ⟨r.1, by omega⟩]
      · rw [if_neg r, if_neg (by omega)]
  · rintro ⟨x1, B'⟩ ⟨p1, p2⟩
    dsimp only at p1 p2
    subst p1
    unfold f185_often_L153
    exact yP_pos (show B' 73 9 ≤ yn s by rw [p2, if_neg (by omega), b3]; exact Int32.le_refl _) (yP_some p2)
/-- what stands between two strewings -/
def yOft (s : Nat) (A B A' B' : yI) : Prop := yfr kWT A A' ∧ yIs 4 (A' 39 2) ∧ yfr kWR2 B (ybk B B') ∧ (∀ k, s ≤ k → B' 82 k = B 82 k) ∧ ∀ k, k < s → B' 107 k = B 82 k
theorem strewT {a w s nl : Nat} {A B A' B' : yI} (h : yRdy a w s nl A B) (a0 : 0 < a) (hO : yOft s A B A' B') (v2 v4 v5 sd : Int32) : ∃ A1 x y A2 z, f81_asIn_39 A' = some A1 ∧ f84_strew_39 sd A1 = some x ∧ zloop (f185_often_L85 v2 v4 v5) 5000 (sd, (0 : Int32), B') = some y ∧ x.1 = y.1 ∧ f40_pass_38 x.2 = some A2 ∧ f171_goTo (y.2.2 73 15) y.2.2 = some z ∧ z.1 = A2 38 17 ∧ yOft s A B A2 z.2 := by
  obtain ⟨hT, hD, hL, hR, -⟩ := h
  obtain ⟨⟨ha, hw, hs⟩, ⟨a1, a2, a3⟩, ⟨b1, b2, b3⟩⟩ := hT.1
  obtain ⟨fA, h2, f0, i1, i2⟩ := hO
  have hT0 : yTown a w s A' (ybk B B') := yTown_ag (yag_fr rfl fA) (yag_fr rfl f0) hT
  have hR0 : yTrans (ybk B B') := ⟨by rw [f0 73 45 rfl]; exact hR.1, by rw [f0 73 47 rfl]; exact hR.2.1, by rw [f0 73 50 rfl]; exact hR.2.2⟩
  obtain ⟨A1, S, e1, eS, eS', hW, fr⟩ := asIn_T hT0 hR0 h2
  have fA1 : yfr kWT A A1 := yfr_trans _ _ _ fA (yfr_mono rfl fr)
  obtain ⟨x, y, e2, e3, q1, hx, q3, q4⟩ := c_strew (A := A1) (B := B') a0 ha hs (by rw [fA1 1 0 rfl]; exact a1) (by rw [fA1 1 2 rfl]; exact a3) (by rw [← ybk_ne B B' (b := 73) (k := 1) (by omega), f0 73 1 rfl]; exact b1) (by rw [← ybk_ne B B' (b := 73) (k := 9) (by omega), f0 73 9 rfl]; exact b3) v2 v4 v5 sd
  have hy : ∀ b k, b ≠ 82 → y.2.2 b k = ybk B B' b k := fun b k hb => by rw [q3 b k (fun z => hb z.1), ybk_ne B B' hb]
  have fx : yfr kWT A x.2 := by
    intro b k hk
    by_cases g : b = 40
    · subst g
      have t : ymem kWT (ykey 40 k) = true := rfl
      rw [t] at hk; cases hk
    · rw [hx b k g]; exact fA1 b k hk
  have fy : yfr (8299 :: kWR2) B y.2.2 := by
    intro b k hk
    by_cases g : b = 82
    · subst g
      have t : ymem (8299 :: kWR2) (ykey 82 k) = true := rfl
      rw [t] at hk; cases hk
    · rw [hy b k g]; exact (yfr_mono (V := 8299 :: kWR2) rfl f0) b k hk
  have hW1 : yWishT a s S x.2 y.2.2 := by
    obtain ⟨w0, w1, w2, w3, w4, w5⟩ := hW
    refine ⟨by rw [hx 39 0 (by omega)]; exact w0, by rw [hx 39 1 (by omega), hy 73 16 (by omega)]; exact w1, by rw [hx 39 2 (by omega), hx 39 3 (by omega), hy 73 45 (by omega), hy 73 46 (by omega)]; exact w2, by rw [hx 39 4 (by omega), hx 39 5 (by omega), hx 39 6 (by omega), hy 73 47 (by omega), hy 73 48 (by omega), hy 73 49 (by omega)]; exact w3, fun k hk => q4 k hk, fun k hk => by rw [hx 41 k (by omega), hy 73 50 (by omega), hy 73 51 (by omega), hy 84 k (by omega)]; exact w5 k hk⟩
  have hTw : yTw a w s x.2 y.2.2 := yTw_ag (yag_fr rfl fx) (yag_fr rfl fy) (yTown_Tw hT hD)
  have hL1 : yLaws nl x.2 y.2.2 := yLaws_ag (yag_fr rfl fx) (yag_fr rfl fy) hL
  obtain ⟨A2, z, k2, k3, k4, -⟩ := passT a0 hTw hW1 hL1
  have f2 : yfr w_f40_pass_38 x.2 A2 := (fr_f40_pass_38 _) _ k2
  have f3 : yfr w_f171_goTo y.2.2 z.2 := (fr_f171_goTo _ _) _ k3
  refine ⟨A1, x, y, A2, z, e1, e2, e3, q1, k2, by rw [hy 73 15 (by omega), eS']; exact k3, k4, yfr_trans _ _ _ fx (yfr_mono rfl f2), ?_, ?_, fun k hk => ?_, fun k hk => ?_⟩
  · rw [f2 39 2 rfl]
    exact hW1.2.2.1.1
  · intro b k hk
    by_cases g : b = 82
    · exact (if_pos g).trans (by rw [g])
    · rw [ybk_ne B z.2 g, f3 b k (ymem_sub hk), hy b k g]
      exact f0 b k hk
  · rw [f3 82 k rfl, q3 82 k (by omega)]
    exact i1 k hk
  · rw [f3 107 k rfl, q3 107 k (by omega)]
    exact i2 k hk
