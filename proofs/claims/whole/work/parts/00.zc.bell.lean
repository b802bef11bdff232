/-! BELL -/
theorem bell_stroke {S k : Nat} (h1 : 1 ≤ S) (h2 : S ≤ 60) (hk : k < 10) : ∃ d, 1 ≤ d ∧ d ≤ 60 ∧ zmax 1 (yn S - yn k) = yn d ∧ ((1 : Int32) ≤ yn S - yn k → yn S - yn k = yn d) ∧ (¬ (1 : Int32) ≤ yn S - yn k → (1 : Int32) = yn d) := by
  have t : (yn S - yn k).toInt = (S : Int) - k := by
    rw [Int32.toInt_sub, yn_toInt (by omega), yn_toInt (by omega), Int.bmod_eq_of_le (by omega) (by omega)]
  have one : (1 : Int32).toInt = 1 := by decide
  obtain ⟨x, hx⟩ : ∃ x, x = yn S - yn k := ⟨_, rfl⟩
  rw [← hx] at t ⊢
  unfold zmax
  by_cases c : (1 : Int32) ≤ x
  · have c' := c
    rw [Int32.le_iff_toInt_le, t, one] at c'
    have e : x = yn (S - k) := by
      apply Int32.toInt_inj.mp
      rw [t, yn_toInt (by omega)]; omega
    refine ⟨S - k, by omega, by omega, ?_, fun _ => e, fun z => absurd c z⟩
    by_cases g : (1 : Int32) < x
    · rw [if_pos g, e]
    · rw [if_neg g]
      rw [Int32.lt_iff_toInt_lt, t, one] at g
      have : S - k = 1 := by omega
      rw [this]; rfl
  · refine ⟨1, by omega, by omega, ?_, fun z => absurd z c, fun _ => rfl⟩
    rw [if_neg]; rfl
    intro z
    rw [Int32.lt_iff_toInt_lt] at z
    rw [Int32.le_iff_toInt_le] at c
    omega
/-- the noon at stroke d -/
theorem bellT {a w s nl d : Nat} {A B A' B' : yI} (h : yRdy a w s nl A B) (a0 : 0 < a) (h1 : 1 ≤ d) (hd : d ≤ 60) (fA : yfr kWT A A') (h2 : yIs 4 (A' 39 2)) (fB : yfr kWR2 B B') : ∃ A1 A2 y, f81_asIn_39 A' = some A1 ∧ A1 1 3 = A 1 3 ∧ f40_pass_38 (zu A1 39 0 (yn d)) = some A2 ∧ f171_goTo (yn d) B' = some y ∧ y.1 = A2 38 17 ∧ yfr kWT A A2 ∧ yIs 4 (A2 39 2) ∧ yfr kWR2 B y.2 := by
  obtain ⟨hT, hD, hL, hR, -⟩ := h
  have hT0 : yTown a w s A' B' := yTown_ag (yag_fr rfl fA) (yag_fr rfl fB) hT
  have hR0 : yTrans B' := ⟨by rw [fB 73 45 rfl]; exact hR.1, by rw [fB 73 47 rfl]; exact hR.2.1, by rw [fB 73 50 rfl]; exact hR.2.2⟩
  obtain ⟨A1, S, e1, eS, eS', hW, fr⟩ := asIn_T hT0 hR0 h2
  have fA1 : yfr [3900, 3901, 3903, 3904, 4099, 4199] A' (zu A1 39 0 (yn d)) := yfr_zu rfl fr
  have fA2 : yfr kWT A (zu A1 39 0 (yn d)) := yfr_trans _ _ _ fA (yfr_mono rfl fA1)
  have hW1 : yWishT a s d (zu A1 39 0 (yn d)) B' := by
    obtain ⟨w0, w1, w2, w3, w4, w5⟩ := hW
    exact ⟨⟨zu_same _ _ _ _, h1, hd⟩, by simpa [zu_at] using w1, by simpa [zu_at] using w2, by simpa [zu_at] using w3, by simpa [zu_at] using w4, by simpa [zu_at] using w5⟩
  have hTw : yTw a w s (zu A1 39 0 (yn d)) B' := yTw_ag (yag_fr rfl fA2) (yag_fr rfl fB) (yTown_Tw hT hD)
  have hL1 : yLaws nl (zu A1 39 0 (yn d)) B' := yLaws_ag (yag_fr rfl fA2) (yag_fr rfl fB) hL
  obtain ⟨A2, y, k2, k3, k4, -⟩ := passT a0 hTw hW1 hL1
  have f2 : yfr w_f40_pass_38 (zu A1 39 0 (yn d)) A2 := (fr_f40_pass_38 _) _ k2
  have f3 : yfr w_f171_goTo B' y.2 := (fr_f171_goTo _ _) _ k3
  refine ⟨A1, A2, y, e1, ?_, k2, k3, k4, yfr_trans _ _ _ fA2 (yfr_mono rfl f2), ?_, yfr_trans _ _ _ fB (yfr_mono rfl f3)⟩
  · rw [fr 1 3 rfl, fA 1 3 rfl]
  · rw [f2 39 2 rfl]
    exact hW1.2.2.1.1
