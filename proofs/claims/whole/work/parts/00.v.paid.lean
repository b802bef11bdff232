/-! PAID, LEAD: the first that will do -/
theorem y2_find {ρ σ σ' : Type} {B : σ → Option (ρ ⊕ (σ ⊕ σ))} {B' : σ' → Option (σ' ⊕ σ')} {Q : ρ ⊕ σ → σ' → Prop} (R : Nat → σ → σ' → Prop) (hb : ∀ j s s', R j s s' → (∃ x y, B s = some (.inr (.inl x)) ∧ B' s' = some (.inl y) ∧ Q (.inr x) y) ∨ (∃ r y, B s = some (.inl r) ∧ B' s' = some (.inr y) ∧ B' y = some (.inl y) ∧ Q (.inl r) y) ∨ (∃ x y j', B s = some (.inr (.inr x)) ∧ B' s' = some (.inr y) ∧ j' < j ∧ R j' x y)) : ∀ (n j : Nat) (s : σ) (s' : σ'), j + 1 < n → R j s s' → y2 (zloopR B n s) (zloop B' n s') Q := by
  intro n
  induction n with
  | zero => intro j s s' h; exact absurd h (Nat.not_lt_zero _)
  | succ n ih =>
    intro j s s' hj hs
    rcases hb j s s' hs with ⟨x, y, h1, h2, h3⟩ | ⟨r, y, h1, h2, h3, h4⟩ | ⟨x, y, j', h1, h2, h3, h4⟩
    · unfold zloopR zloop
      rw [h1, h2]
      exact ⟨_, _, rfl, rfl, h3⟩
    · obtain ⟨m, rfl⟩ : ∃ m, n = m + 1 := ⟨n - 1, by omega⟩
      unfold zloopR zloop
      rw [h1, h2]
      dsimp only
      unfold zloop
      rw [h3]
      exact ⟨_, _, rfl, rfl, h4⟩
    · unfold zloopR zloop
      rw [h1, h2]
      exact ih j' x y (by omega) h4
/-- what thinking may leave changed in the reference, wishes' places that nobody reads too -/
def kWR2 : List Nat := [7346, 7348, 7349, 7351, 7352, 7353, 7354, 9199, 9299, 9799, 9899, 9999, 10099, 10199, 10299, 10399, 10799]
def kWR3 : List Nat := [7345, 7346, 7348, 7349, 7351, 7352, 7353, 7354, 9199, 9299, 9799, 9899, 9999, 10099, 10199, 10299, 10399, 10799]
def yThQ2 (A B : yI) (x y : Int32 × yI) : Prop := x.1 = y.1 ∧ yfr kWT A x.2 ∧ yIs 4 (x.2 39 2) ∧ yfr kWR2 B y.2
theorem yThQ_2 {A B : yI} {x y : Int32 × yI} (h : yThQ A B x y) : yThQ2 A B x y := ⟨h.1, h.2.1, h.2.2.1, yfr_mono rfl h.2.2.2⟩
theorem done_th2 {A B : yI} (h : yIs 4 (A 39 2)) {r : Int32} : y2 (some (r, A)) (some (r, B)) (yThQ2 A B) := ⟨_, _, rfl, rfl, rfl, yfr_refl _, h, yfr_refl _⟩
theorem zu_again (B : yI) (a k : Nat) (x y : Int32) : zu (zu B a k x) a k y = zu B a k y := by
  funext b j
  rw [zu_at, zu_at, zu_at]
  by_cases g : b = a ∧ j = k
  · rw [if_pos g, if_pos g]
  · rw [if_neg g, if_neg g, if_neg g]
theorem ymem_sub {x : Nat} (h : ymem kWR2 x = false) : ymem w_f171_goTo x = false := by
  cases e : ymem w_f171_goTo x
  · rfl
  · have hs : ysub w_f171_goTo kWR2 = true := rfl
    have := ysub_mem hs e
    rw [this] at h; cases h
/-- the noon with v standing k strokes -/
theorem standT {a w s nl i v : Nat} {A B A' B' : yI} (h : yRdy a w s nl A B) (hv : v < a) (hi : i ≤ 200) (fA : yfr kWT A A') (h2 : yIs 4 (A' 39 2)) (f0 : yfr kWR2 B (zu B' 73 45 0)) (hB : B' 73 46 = yn v) : ∃ A1 A2 y, f81_asIn_39 A' = some A1 ∧ f40_pass_38 (zu (zu A1 39 2 (yn v)) 39 3 (yn i)) = some A2 ∧ f171_goTo (B' 73 15) (zu B' 73 45 (yn i)) = some y ∧ y.1 = A2 38 17 ∧ yfr kWT A A2 ∧ yIs 4 (A2 39 2) ∧ yfr kWR2 B (zu y.2 73 45 0) ∧ y.2 73 46 = yn v := by
  obtain ⟨hT, hD, hL, hR, -⟩ := h
  have ha : a ≤ 4 := hT.1.1.1
  have hT0 : yTown a w s A' (zu B' 73 45 0) := yTown_ag (yag_fr rfl fA) (yag_fr rfl f0) hT
  have hR0 : yTrans (zu B' 73 45 0) := ⟨zu_same _ _ _ _, by rw [f0 73 47 rfl]; exact hR.2.1, by rw [f0 73 50 rfl]; exact hR.2.2⟩
  obtain ⟨A1, S, e1, eS, eS', hW, fr⟩ := asIn_T hT0 hR0 h2
  have fB1 : yfr kWR3 B (zu B' 73 45 (yn i)) := by
    have := yfr_zu (W := kWR3) (a := 73) (k := 45) (x := yn i) rfl (yfr_mono (V := kWR3) rfl f0)
    rwa [zu_again] at this
  have fA1 : yfr [3900, 3901, 3902, 3903, 3904, 4099, 4199] A' (zu (zu A1 39 2 (yn v)) 39 3 (yn i)) := yfr_zu rfl (yfr_zu rfl (yfr_mono rfl fr))
  have fA2 : yfr kWT A (zu (zu A1 39 2 (yn v)) 39 3 (yn i)) := yfr_trans _ _ _ fA (yfr_mono rfl fA1)
  have eS2 : B' 73 15 = yn S := by simpa [zu_at] using eS'
  have hW1 : yWishT a s S (zu (zu A1 39 2 (yn v)) 39 3 (yn i)) (zu B' 73 45 (yn i)) := by
    obtain ⟨w0, w1, w2, w3, w4, w5⟩ := hW
    refine ⟨by simpa [zu_at] using w0, by simpa [zu_at] using w1, ⟨⟨v, by omega, by simp [zu_at]⟩, ⟨i, by omega, hi, by simp [zu_at]⟩, by simp [zu_at], Or.inr ⟨by simpa [zu_at] using hB, v, hv, by simp [zu_at]⟩⟩, by simpa [zu_at] using w3, by simpa [zu_at] using w4, by simpa [zu_at] using w5⟩
  have hTw : yTw a w s (zu (zu A1 39 2 (yn v)) 39 3 (yn i)) (zu B' 73 45 (yn i)) := yTw_ag (yag_fr rfl fA2) (yag_fr rfl fB1) (yTown_Tw hT hD)
  have hL1 : yLaws nl (zu (zu A1 39 2 (yn v)) 39 3 (yn i)) (zu B' 73 45 (yn i)) := yLaws_ag (yag_fr rfl fA2) (yag_fr rfl fB1) hL
  obtain ⟨A2, y, k2, k3, k4, -⟩ := passT (by omega) hTw hW1 hL1
  have f2 : yfr w_f40_pass_38 (zu (zu A1 39 2 (yn v)) 39 3 (yn i)) A2 := (fr_f40_pass_38 _) _ k2
  have f3 : yfr w_f171_goTo (zu B' 73 45 (yn i)) y.2 := (fr_f171_goTo _ _) _ k3
  refine ⟨A1, A2, y, e1, k2, by rw [eS2]; exact k3, k4, yfr_trans _ _ _ fA2 (yfr_mono rfl f2), ?_, ?_, ?_⟩
  · rw [f2 39 2 rfl]
    exact hW1.2.2.1.1
  · intro b k hk
    have u := f0 b k hk
    rw [zu_at] at u ⊢
    by_cases g : b = 73 ∧ k = 45
    · rw [if_pos g] at u ⊢; exact u
    · rw [if_neg g] at u ⊢
      rw [f3 b k (ymem_sub hk), zu_at, if_neg g]; exact u
  · rw [f3 73 46 rfl]
    simpa [zu_at] using hB
theorem c_paid {a w s nl : Nat} {A B : yI} (h : yRdy a w s nl A B) (v : Int32) : y2 (f108_paid v A) (f188_paid v B) (yThQ2 A B) := by
  have h0 := h
  obtain ⟨hT, hD, hL, hR, h2⟩ := h
  obtain ⟨⟨ha, hw, hs⟩, ⟨a1, a2, a3⟩, ⟨b1, b2, b3⟩⟩ := hT.1
  unfold f108_paid f188_paid
  rw [f61_e a1 ha, f130_e b1 ha]
  simp only [ob, yb_ite0]
  by_cases hv : yIs a v
  · rw [if_pos hv, if_pos hv]
    obtain ⟨c, hc, rfl⟩ := hv
    have f00 : yfr kWR2 B (zu (zu B 73 46 (yn c)) 73 45 0) := by
      intro b k hk
      rw [zu_at]
      by_cases g : b = 73 ∧ k = 45
      · rw [if_pos g, g.1, g.2]; exact hR.1.symm
      · rw [if_neg g]; exact (yfr_zu (W := kWR2) rfl (yfr_refl B)) b k hk
    have key : y2 (zloopR (f108_paid_L15 (yn c)) 5000 ((0 : Int32), A)) (zloop (f188_paid_L20 (yn c)) 5000 (((-2) : Int32), (0 : Int32), (zu B 73 46 (yn c)))) (fun x y => match x with
        | .inl r => r.1 = y.1 ∧ yfr kWT A r.2 ∧ yIs 4 (r.2 39 2) ∧ yfr kWR2 B (zu y.2.2 73 45 0)
        | .inr r => y.1 = -2 ∧ yfr kWT A r.2 ∧ yIs 4 (r.2 39 2) ∧ yfr kWR2 B (zu y.2.2 73 45 0)) := by
      refine y2_find (fun j (s : Int32 × yI) (s' : Int32 × Int32 × yI) => ∃ i, i + j = 201 ∧ s.1 = yn i ∧ s'.1 = -2 ∧ s'.2.1 = yn i ∧ yfr kWT A s.2 ∧ yIs 4 (s.2 39 2) ∧ yfr kWR2 B (zu s'.2.2 73 45 0) ∧ s'.2.2 73 46 = yn c) ?_ 5000 201 _ _ (by omega) ⟨0, by omega, rfl, rfl, rfl, yfr_refl _, h2, f00, zu_same B 73 46 (yn c)⟩
      rintro j ⟨x1, A'⟩ ⟨y1, y2', B'⟩ ⟨i, hi, p1, p2, p3, p4, p5, p6, p7⟩
      dsimp only at p1 p2 p3 p4 p5 p6 p7
      subst p1 p2 p3
      unfold f108_paid_L15 f188_paid_L20
      by_cases g : 200 < i
      · refine Or.inl ⟨_, _, if_pos ?_, if_pos ?_, rfl, p4, p5, p6⟩
        · show yn 200 < yn i
          rw [yn_lt (by omega) (by omega)]; exact g
        · show yn 200 < yn i
          rw [yn_lt (by omega) (by omega)]; exact g
      · have g' : ¬ (200 : Int32) < yn i := by
          show ¬ yn 200 < yn i
          rw [yn_lt (by omega) (by omega)]; exact g
        obtain ⟨A1, A2, y, k1, k2, k3, k4, k5, k6, k7, k8⟩ := standT h0 hc (i := i) (by omega) p4 p5 p6 p7
        have z4 : zin (yn c) 4 = true := zin_yn (by omega) (by omega)
        have nm : ¬ (0 : Int32) ≤ -2 := by decide
        have e3 : A2 3 c = y.2 75 c := by
          have u := k7 75 c rfl
          rw [zu_at, if_neg (by omega)] at u
          rw [k5 3 c rfl, u]
          exact (hT.2.2.1 c hc).2.2.symm
        by_cases q : A2 38 17 = A2 3 c
        · refine Or.inr (Or.inl ⟨(yn i, A2), (yn i, yn i + 1, y.2), ?_, ?_, ?_, rfl, k5, k6, k7⟩)
          · dsimp only
            rw [if_neg g', k1, ob]
            show Option.bind (some (zu (zu A1 39 2 (yn c)) 39 3 (yn i))) _ = _
            rw [ob, k2, ob, z4, yn_nat (by omega)]
            exact if_pos q
          · dsimp only
            rw [if_neg g', if_neg nm, k3, ob, z4, yn_nat (by omega)]
            exact if_pos (by rw [k4, q, e3])
          · dsimp only
            rw [if_pos (yn_pos (n := i) (by omega)), ite_self]
        · refine Or.inr (Or.inr ⟨(yn (i + 1), A2), (-2, yn (i + 1), y.2), j - 1, ?_, ?_, by omega, i + 1, by omega, rfl, rfl, rfl, k5, k6, k7, k8⟩)
          · dsimp only
            rw [if_neg g', k1, ob]
            show Option.bind (some (zu (zu A1 39 2 (yn c)) 39 3 (yn i))) _ = _
            rw [ob, k2, ob, z4, yn_nat (by omega), yn_succ]
            exact if_neg q
          · dsimp only
            rw [if_neg g', if_neg nm, k3, ob, z4, yn_nat (by omega), yn_succ]
            exact if_neg (by rw [k4, ← e3]; exact q)
    obtain ⟨x, y, e1, e2, e3⟩ := key
    rw [e1, e2, ob]
    rcases x with r | r
    · exact y2_some ⟨e3.1, e3.2.1, e3.2.2.1, e3.2.2.2⟩
    · exact y2_some ⟨e3.1.symm, e3.2.1, e3.2.2.1, e3.2.2.2⟩
  · rw [if_neg hv, if_neg hv]
    exact done_th2 h2
