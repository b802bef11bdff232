/-! LEAD -/
theorem yn_ss' (n : Nat) : yn (n + 1) - 1 = yn n := yn_sub (a := n + 1) (b := 1) (by omega)
theorem zu_self (B : yI) (a k : Nat) : zu B a k (B a k) = B := by
  funext b j
  rw [zu_at]
  by_cases g : b = a ∧ j = k
  · rw [if_pos g, g.1, g.2]
  · rw [if_neg g]
/-- the noon with sort v led to q from place k -/
theorem followT {a w s nl : Nat} {k v q : Int32} {A B A' B' : yI} (h : yRdy a w s nl A B) (a0 : 0 < a) (fA : yfr kWT A A') (h2 : yIs 4 (A' 39 2)) (f0 : yfr kWR2 B (zu B' 73 47 (-1))) (hB : B' 73 47 = v ∧ B' 73 49 = q) : ∃ A1 A2 y, f81_asIn_39 A' = some A1 ∧ f40_pass_38 (zu (zu (zu A1 39 4 v) 39 5 q) 39 6 k) = some A2 ∧ f171_goTo (B' 73 15) (zu B' 73 48 k) = some y ∧ y.1 = A2 38 17 ∧ yfr kWT A A2 ∧ yIs 4 (A2 39 2) ∧ yfr kWR2 B (zu y.2 73 47 (-1)) ∧ (y.2 73 47 = v ∧ y.2 73 49 = q) := by
  obtain ⟨hT, hD, hL, hR, -⟩ := h
  have ha : a ≤ 4 := hT.1.1.1
  have hT0 : yTown a w s A' (zu B' 73 47 (-1)) := yTown_ag (yag_fr rfl fA) (yag_fr rfl f0) hT
  have hR0 : yTrans (zu B' 73 47 (-1)) := ⟨by rw [f0 73 45 rfl]; exact hR.1, zu_same _ _ _ _, by rw [f0 73 50 rfl]; exact hR.2.2⟩
  obtain ⟨A1, S, e1, eS, eS', hW, fr⟩ := asIn_T hT0 hR0 h2
  have fB1 : yfr (7347 :: kWR2) B (zu B' 73 48 k) := by
    have t := yfr_zu (W := 7347 :: kWR2) (a := 73) (k := 48) (x := k) rfl (yfr_zu (W := 7347 :: kWR2) (a := 73) (k := 47) (x := B' 73 47) rfl (yfr_mono (V := 7347 :: kWR2) rfl f0))
    rwa [zu_again, zu_self] at t
  have fA1 : yfr [3900, 3901, 3903, 3904, 3905, 3906, 4099, 4199] A' (zu (zu (zu A1 39 4 v) 39 5 q) 39 6 k) := yfr_zu rfl (yfr_zu rfl (yfr_zu rfl (yfr_mono rfl fr)))
  have fA2 : yfr kWT A (zu (zu (zu A1 39 4 v) 39 5 q) 39 6 k) := yfr_trans _ _ _ fA (yfr_mono rfl fA1)
  have eS2 : B' 73 15 = yn S := by simpa [zu_at] using eS'
  have hW1 : yWishT a s S (zu (zu (zu A1 39 4 v) 39 5 q) 39 6 k) (zu B' 73 48 k) := by
    obtain ⟨w0, w1, w2, w3, w4, w5⟩ := hW
    refine ⟨by simpa [zu_at] using w0, by simpa [zu_at] using w1, by simpa [zu_at] using w2, ⟨by simpa [zu_at] using hB.1, Or.inr ⟨by simpa [zu_at] using hB.2, by simp [zu_at]⟩⟩, by simpa [zu_at] using w4, by simpa [zu_at] using w5⟩
  have hTw : yTw a w s (zu (zu (zu A1 39 4 v) 39 5 q) 39 6 k) (zu B' 73 48 k) := yTw_ag (yag_fr rfl fA2) (yag_fr rfl fB1) (yTown_Tw hT hD)
  have hL1 : yLaws nl (zu (zu (zu A1 39 4 v) 39 5 q) 39 6 k) (zu B' 73 48 k) := yLaws_ag (yag_fr rfl fA2) (yag_fr rfl fB1) hL
  obtain ⟨A2, y, k2, k3, k4, -⟩ := passT a0 hTw hW1 hL1
  have f2 : yfr w_f40_pass_38 (zu (zu (zu A1 39 4 v) 39 5 q) 39 6 k) A2 := (fr_f40_pass_38 _) _ k2
  have f3 : yfr w_f171_goTo (zu B' 73 48 k) y.2 := (fr_f171_goTo _ _) _ k3
  refine ⟨A1, A2, y, e1, k2, by rw [eS2]; exact k3, k4, yfr_trans _ _ _ fA2 (yfr_mono rfl f2), ?_, ?_, ?_, ?_⟩
  · rw [f2 39 2 rfl]
    exact hW1.2.2.1.1
  · have t : yfr kWR2 B (zu (zu B' 73 47 (-1)) 73 48 k) := yfr_zu rfl f0
    intro b j hk
    have u := t b j hk
    rw [zu_at, zu_at] at u
    rw [zu_at]
    by_cases g : b = 73 ∧ j = 47
    · rw [if_neg (by omega), if_pos g] at u
      rw [if_pos g]; exact u
    · rw [if_neg g] at u
      rw [if_neg g, f3 b j (ymem_sub hk), zu_at]
      exact u
  · rw [f3 73 47 rfl]
    simpa [zu_at] using hB.1
  · rw [f3 73 49 rfl]
    simpa [zu_at] using hB.2
theorem c_lead {a w s nl : Nat} {A B : yI} (h : yRdy a w s nl A B) (v : Int32) : y2 (f109_lead v A) (f189_lead v B) (yThQ2 A B) := by
  have h0 := h
  obtain ⟨hT, hD, hL, hR, h2⟩ := h
  obtain ⟨⟨ha, hw, hs⟩, ⟨a1, a2, a3⟩, ⟨b1, b2, b3⟩⟩ := hT.1
  unfold f109_lead f189_lead
  rw [f61_e a1 ha, f130_e b1 ha, f62_e a3 hs, f131_e b3 hs]
  simp only [ob, yb_ite0]
  refine y2_ite Iff.rfl (fun _ => done_th2 h2) fun _ => ?_
  by_cases hv : yIs s (v / 10)
  · rw [if_pos hv, if_pos hv]
    by_cases hq : yIs a (v - v / 10 * 10)
    · rw [if_pos hq, if_pos hq]
      have a0 : 0 < a := by
        obtain ⟨i, hi, -⟩ := hq
        omega
      obtain ⟨c, hc, ec⟩ := hv
      obtain ⟨⟨S, hS1, hS, eS⟩, eS'⟩ := hT.2.1.1
      rw [eS', eS, ec]
      obtain ⟨m, rfl⟩ : ∃ m, S = m + 1 := ⟨S - 1, by omega⟩
      rw [show yn (m + 1) - 1 = yn m from yn_sub (a := m + 1) (b := 1) (by omega)]
      have f00 : yfr kWR2 B (zu (zu (zu B 73 47 (yn c)) 73 49 (v - yn c * 10)) 73 47 (-1)) := by
        intro b k hk
        rw [zu_at]
        by_cases g : b = 73 ∧ k = 47
        · rw [if_pos g, g.1, g.2]; exact hR.2.1.symm
        · rw [if_neg g, zu_at]
          by_cases g2 : b = 73 ∧ k = 49
          · exfalso
            rw [g2.1, g2.2] at hk
            cases hk
          · rw [if_neg g2, zu_at, if_neg g]
      have key : y2 (zloopR (f109_lead_L49 (yn c) (v - yn c * 10)) 5000 (yn m, A)) (zloop (f189_lead_L54 v) 5000 (((-2) : Int32), yn m, (zu (zu B 73 47 (yn c)) 73 49 (v - yn c * 10)))) (fun x y => match x with
          | .inl r => r.1 = y.1 ∧ yfr kWT A r.2 ∧ yIs 4 (r.2 39 2) ∧ yfr kWR2 B (zu y.2.2 73 47 (-1))
          | .inr r => y.1 = -2 ∧ yfr kWT A r.2 ∧ yIs 4 (r.2 39 2) ∧ yfr kWR2 B (zu y.2.2 73 47 (-1))) := by
        refine y2_find (fun j (s : Int32 × yI) (s' : Int32 × Int32 × yI) => j ≤ 60 ∧ s.1 = yn j - 1 ∧ s'.1 = -2 ∧ s'.2.1 = yn j - 1 ∧ yfr kWT A s.2 ∧ yIs 4 (s.2 39 2) ∧ yfr kWR2 B (zu s'.2.2 73 47 (-1)) ∧ (s'.2.2 73 47 = yn c ∧ s'.2.2 73 49 = v - yn c * 10)) ?_ 5000 (m + 1) _ _ (by omega) ⟨by omega, (yn_ss' m).symm, rfl, (yn_ss' m).symm, yfr_refl _, h2, f00, ?_, zu_same (zu B 73 47 (yn c)) 73 49 _⟩
        · rintro j ⟨x1, A'⟩ ⟨y1, y2', B'⟩ ⟨hj, p1, p2, p3, p4, p5, p6, p7⟩
          dsimp only at p1 p2 p3 p4 p5 p6 p7
          subst p1 p2 p3
          unfold f109_lead_L49 f189_lead_L54
          by_cases g : j = 0
          · subst g
            refine Or.inl ⟨_, _, if_pos (show yn 0 - 1 < 0 by decide), if_pos (show yn 0 - 1 < 0 by decide), rfl, p4, p5, p6⟩
          · obtain ⟨i, rfl⟩ : ∃ i, j = i + 1 := ⟨j - 1, by omega⟩
            rw [yn_ss' i]
            have g' : ¬ yn i < 0 := Int32.not_lt.mpr (yn_pos (by omega))
            obtain ⟨A1, A2, y, k1, k2, k3, k4, k5, k6, k7, k8⟩ := followT h0 a0 (k := yn i) p4 p5 p6 p7
            have z4 : zin (yn c) 8 = true := zin_yn (by omega) (by omega)
            have nm : ¬ (0 : Int32) ≤ -2 := by decide
            have e3 : A2 9 c = y.2 81 c := by
              have u := k7 81 c rfl
              rw [zu_at, if_neg (by omega)] at u
              rw [k5 9 c rfl, u]
              exact (hT.2.2.2.2 c hc).2.1.2.symm
            by_cases q : A2 38 17 = A2 9 c
            · refine Or.inr (Or.inl ⟨(yn i, A2), (yn i, yn i - 1, y.2), ?_, ?_, ?_, rfl, k5, k6, k7⟩)
              · dsimp only
                rw [if_neg g', k1, ob]
                show Option.bind (some (zu (zu (zu A1 39 4 (yn c)) 39 5 (v - yn c * 10)) 39 6 (yn i))) _ = _
                rw [ob, k2, ob, z4, yn_nat (by omega)]
                exact if_pos q
              · dsimp only
                rw [if_neg g', if_neg nm, k3, ob, ec, z4, yn_nat (by omega)]
                exact if_pos (by rw [k4, q, e3])
              · dsimp only
                rw [if_pos (yn_pos (n := i) (by omega)), ite_self]
            · refine Or.inr (Or.inr ⟨(yn i - 1, A2), (-2, yn i - 1, y.2), i, ?_, ?_, by omega, by omega, rfl, rfl, rfl, k5, k6, k7, k8⟩)
              · dsimp only
                rw [if_neg g', k1, ob]
                show Option.bind (some (zu (zu (zu A1 39 4 (yn c)) 39 5 (v - yn c * 10)) 39 6 (yn i))) _ = _
                rw [ob, k2, ob, z4, yn_nat (by omega)]
                exact if_neg q
              · dsimp only
                rw [if_neg g', if_neg nm, k3, ob, ec, z4, yn_nat (by omega)]
                exact if_neg (by rw [k4, ← e3]; exact q)
        · show zu (zu B 73 47 (yn c)) 73 49 (v - yn c * 10) 73 47 = yn c
          simp [zu_at]
      obtain ⟨x, y, e1, e2, e3⟩ := key
      rw [e1, e2, ob]
      rcases x with r | r
      · exact y2_some ⟨e3.1, e3.2.1, e3.2.2.1, e3.2.2.2⟩
      · exact y2_some ⟨e3.1.symm, e3.2.1, e3.2.2.1, e3.2.2.2⟩
    · rw [if_neg hq, if_neg hq]
      exact done_th2 h2
  · rw [if_neg hv, if_neg hv]
    exact done_th2 h2
