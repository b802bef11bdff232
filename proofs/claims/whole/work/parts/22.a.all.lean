/-! ALL OF IT: what class and reference hold alike between two calls -/
def ylowL : List Nat → Bool
  | [] => true
  | w :: W => Nat.blt w 7300 && ylowL W
def yhighL : List Nat → Bool
  | [] => true
  | w :: W => Nat.ble 7300 w && yhighL W
theorem ylowL_m {x : Nat} : ∀ {W : List Nat}, ylowL W = true → ymem W x = true → x < 7300
  | [], _, h => by cases h
  | w :: W, hl, h => by
    unfold ylowL at hl
    unfold ymem at h
    rw [Bool.and_eq_true] at hl
    rw [Bool.or_eq_true] at h
    rcases h with h | h
    · rw [← Nat.eq_of_beq_eq_true h]
      exact Nat.blt_eq.mp hl.1
    · exact ylowL_m hl.2 h
theorem yhighL_m {x : Nat} : ∀ {W : List Nat}, yhighL W = true → ymem W x = true → 7300 ≤ x
  | [], _, h => by cases h
  | w :: W, hl, h => by
    unfold yhighL at hl
    unfold ymem at h
    rw [Bool.and_eq_true] at hl
    rw [Bool.or_eq_true] at h
    rcases h with h | h
    · rw [← Nat.eq_of_beq_eq_true h]
      exact Nat.ble_eq.mp hl.1
    · exact yhighL_m hl.2 h
def yhi (I I' : yI) : Prop := ∀ a k, 7300 ≤ ykey a k → I' a k = I a k
def ylo (I I' : yI) : Prop := ∀ a k, ykey a k < 7300 → I' a k = I a k
theorem yhi_refl (I : yI) : yhi I I := fun _ _ _ => rfl
theorem ylo_refl (I : yI) : ylo I I := fun _ _ _ => rfl
theorem yhi_fr {W : List Nat} {I I' : yI} (f : yfr W I I') (h : ylowL W = true) : yhi I I' := by
  intro a k hk
  refine f a k ?_
  cases e : ymem W (ykey a k) with
  | false => rfl
  | true => exact absurd (ylowL_m h e) (by omega)
theorem ylo_fr {W : List Nat} {I I' : yI} (f : yfr W I I') (h : yhighL W = true) : ylo I I' := by
  intro a k hk
  refine f a k ?_
  cases e : ymem W (ykey a k) with
  | false => rfl
  | true => exact absurd (yhighL_m h e) (by omega)
theorem yag_lo {K : List Nat} {I I' : yI} (h : ylowL K = true) (f : ylo I I') : yag K I I' := fun a k hk => f a k (ylowL_m h hk)
theorem yag_hi {K : List Nat} {I I' : yI} (h : yhighL K = true) (f : yhi I I') : yag K I I' := fun a k hk => f a k (yhighL_m h hk)
def kKA : List Nat := [7, 2500, 2413, 2414, 2416, 2417, 2418, 2419, 3399, 3799]
def kKB : List Nat := [7355, 7356, 7357, 7358, 7359, 7360, 7361, 10499, 10599]
theorem yKept_ag {A B A' B' : yI} (hA : yag kKA A A') (hB : yag kKB B B') (h : yKept A B) : yKept A' B' := by
  have a1 : A' 0 7 = A 0 7 := hA 0 7 rfl
  have a2 : A' 25 0 = A 25 0 := hA 25 0 rfl
  have a3 : A' 24 13 = A 24 13 := hA 24 13 rfl
  have a4 : A' 24 14 = A 24 14 := hA 24 14 rfl
  have a5 : A' 24 16 = A 24 16 := hA 24 16 rfl
  have a6 : A' 24 17 = A 24 17 := hA 24 17 rfl
  have a7 : A' 24 18 = A 24 18 := hA 24 18 rfl
  have a8 : A' 24 19 = A 24 19 := hA 24 19 rfl
  have a9 : ∀ j, A' 33 j = A 33 j := fun j => hA 33 j rfl
  have a0 : ∀ j, A' 37 j = A 37 j := fun j => hA 37 j rfl
  have b1 : B' 73 55 = B 73 55 := hB 73 55 rfl
  have b2 : B' 73 56 = B 73 56 := hB 73 56 rfl
  have b3 : B' 73 57 = B 73 57 := hB 73 57 rfl
  have b4 : B' 73 58 = B 73 58 := hB 73 58 rfl
  have b5 : B' 73 59 = B 73 59 := hB 73 59 rfl
  have b6 : B' 73 60 = B 73 60 := hB 73 60 rfl
  have b7 : B' 73 61 = B 73 61 := hB 73 61 rfl
  have b8 : ∀ j, B' 104 j = B 104 j := fun j => hB 104 j rfl
  have b9 : ∀ j, B' 105 j = B 105 j := fun j => hB 105 j rfl
  unfold yKept at *
  simp only [a1, a2, a3, a4, a5, a6, a7, a8, a9, a0, b1, b2, b3, b4, b5, b6, b7, b8, b9]
  exact h
def kMDA : List Nat := [499, 599, 699, 1399, 1499]
theorem yMDF_ag {A A' : yI} {w : Nat} (hA : yag kMDA A A') (h : yMD A w ∧ yMF A w) : yMD A' w ∧ yMF A' w := ⟨yMD_ag (fun i _ => ⟨hA 4 i rfl, hA 5 i rfl, hA 6 i rfl⟩) (fun j => hA 13 j rfl) h.1, yMF_ag (fun i _ => ⟨hA 4 i rfl, hA 5 i rfl, hA 6 i rfl⟩) (fun j => hA 14 j rfl) h.2⟩
def yX (A B : yI) : Prop := yTrans B ∧ yIs 4 (A 39 2) ∧ yIs 4 (A 25 2)
def kXA : List Nat := [3902, 2502]
def kXB : List Nat := [7345, 7347, 7350]
theorem yX_ag {A B A' B' : yI} (hA : yag kXA A A') (hB : yag kXB B B') (h : yX A B) : yX A' B' := by
  obtain ⟨⟨h1, h2, h3⟩, h4, h5⟩ := h
  exact ⟨⟨by rw [hB 73 45 rfl]; exact h1, by rw [hB 73 47 rfl]; exact h2, by rw [hB 73 50 rfl]; exact h3⟩, by rw [hA 39 2 rfl]; exact h4, by rw [hA 25 2 rfl]; exact h5⟩
def yWhl (A B : yI) (JA JB : yJ) : Prop := ∃ a w s nl fd d u nb, yTown a w s A B ∧ (yMD A w ∧ yMF A w) ∧ yLaws nl A B ∧ yTape fd A B ∧ yX A B ∧ yChg a s d u A B ∧ yActs nb A B ∧ ySh nb A B JA JB ∧ yKept A B
theorem yWhl_lh {A B A' B' : yI} {JA JB : yJ} (hA : ylo A A') (hB : yhi B B') (h : yWhl A B JA JB) : yWhl A' B' JA JB := by
  obtain ⟨a, w, s, nl, fd, d, u, nb, hT, hD, hL, hP, hX, hC, hAc, hS, hK⟩ := h
  exact ⟨a, w, s, nl, fd, d, u, nb, yTown_ag (yag_lo rfl hA) (yag_hi rfl hB) hT, yMDF_ag (yag_lo rfl hA) hD, yLaws_ag (yag_lo rfl hA) (yag_hi rfl hB) hL, yTape_ag (yag_lo rfl hA) (yag_hi rfl hB) hP, yX_ag (yag_lo rfl hA) (yag_hi rfl hB) hX, yChg_ag (yag_lo rfl hA) (yag_hi rfl hB) hC, yActs_ag (yag_lo rfl hA) (yag_hi rfl hB) hAc, ySh_ag (Nat.le_refl _) (yag_lo rfl hA) (yag_hi rfl hB) hS, yKept_ag (yag_lo rfl hA) (yag_hi rfl hB) hK⟩
theorem ySh_J {nb : Nat} {A B : yI} {JA JB JA' JB' : yJ} (hA : yJlo JA JA') (hB : yJhi JB JB') (h : ySh nb A B JA JB) : ySh nb A B JA' JB' := by
  intro i hi
  obtain ⟨h1, h2⟩ := h i hi
  have e : ∀ k, JA' (62 + 2 * i) k = JA (62 + 2 * i) k := fun k => hA _ _ (by omega)
  refine ⟨?_, fun k hk => ?_⟩
  · rcases h1 with h1 | h1 | ⟨t, n, q1, q2, q3, q4, q5, q6, q7, q8⟩
    · exact Or.inl h1
    · exact Or.inr (Or.inl h1)
    · exact Or.inr (Or.inr ⟨t, n, q1, q2, q3, q4, q5, q6, q7, fun k hk => by rw [e]; exact q8 k hk⟩)
  · rw [hB _ _ (by omega), e]
    exact h2 k hk
theorem yWhl_J {A B : yI} {JA JB JA' JB' : yJ} (hA : yJlo JA JA') (hB : yJhi JB JB') (h : yWhl A B JA JB) : yWhl A B JA' JB' := by
  obtain ⟨a, w, s, nl, fd, d, u, nb, hT, hD, hL, hP, hX, hC, hAc, hS, hK⟩ := h
  exact ⟨a, w, s, nl, fd, d, u, nb, hT, hD, hL, hP, hX, hC, hAc, ySh_J hA hB hS, hK⟩
theorem yJ_refl_lo (J : yJ) : yJlo J J := fun _ _ _ => rfl
theorem yJ_refl_hi (J : yJ) : yJhi J J := fun _ _ _ => rfl
/-- class first, reference then, on one memory -/
theorem self2 {J : yJ} {F G : yI → Option (Int32 × yI)} {WF WG : List Nat} {I : yI} (h : yWhl I I J J) (hF : ∀ I, yF (F I) (fun x => yfr WF I x.2)) (hG : ∀ I, yF (G I) (fun x => yfr WG I x.2)) (hR : ∀ A B, yWhl A B J J → y2 (F A) (G B) (fun x y => x.1 = y.1 ∧ yWhl x.2 y.2 J J)) (l1 : ylowL WF = true) (l2 : yhighL WG = true) : ∃ x y, F I = some x ∧ G x.2 = some y ∧ x.1 = y.1 ∧ yWhl y.2 y.2 J J := by
  obtain ⟨x, y0, e1, -, -⟩ := hR I I h
  have f1 := hF I x e1
  obtain ⟨x', y, e1', e2, e3, h2⟩ := hR I x.2 (yWhl_lh (ylo_refl _) (yhi_fr f1 l1) h)
  rw [e1] at e1'
  cases e1'
  have f2 := hG x.2 y e2
  exact ⟨x, y, e1, e2, e3, yWhl_lh (ylo_fr f2 l2) (yhi_refl _) h2⟩
theorem selfR {F G : yI → yJ → Option (Int32 × yI × yJ)} {WF WG : List Nat} {I : yI} {J : yJ} (h : yWhl I I J J) (hF : ∀ I J, yF (F I J) (fun x => yfr WF I x.2.1)) (hG : ∀ I J, yF (G I J) (fun x => yfr WG I x.2.1)) (hR : ∀ A B JA JB, yWhl A B JA JB → y2 (F A JA) (G B JB) (fun x y => x.1 = y.1 ∧ yWhl x.2.1 y.2.1 x.2.2 y.2.2 ∧ yJhi JA x.2.2 ∧ yJlo JB y.2.2)) (l1 : ylowL WF = true) (l2 : yhighL WG = true) : ∃ x y, F I J = some x ∧ G x.2.1 x.2.2 = some y ∧ x.1 = y.1 ∧ yWhl y.2.1 y.2.1 y.2.2 y.2.2 := by
  obtain ⟨x, y0, e1, -, -, -, g1, -⟩ := hR I I J J h
  have f1 := hF I J x e1
  obtain ⟨x', y, e1', e2, e3, h2, -, g2⟩ := hR I x.2.1 J x.2.2 (yWhl_J (yJ_refl_lo _) g1 (yWhl_lh (ylo_refl _) (yhi_fr f1 l1) h))
  rw [e1] at e1'
  cases e1'
  have f2 := hG x.2.1 x.2.2 y e2
  exact ⟨x, y, e1, e2, e3, yWhl_J g2 (yJ_refl_hi _) (yWhl_lh (ylo_fr f2 l2) (yhi_refl _) h2)⟩
theorem selfJ {F G : yI → yJ → Option (Int32 × yJ)} {I : yI} {J : yJ} (h : yWhl I I J J) (hR : ∀ A B JA JB, yWhl A B JA JB → y2 (F A JA) (G B JB) (fun x y => x.1 = y.1 ∧ yWhl A B x.2 y.2 ∧ yJhi JA x.2 ∧ yJlo JB y.2)) : ∃ x y, F I J = some x ∧ G I x.2 = some y ∧ x.1 = y.1 ∧ yWhl I I y.2 y.2 := by
  obtain ⟨x, y0, e1, -, -, -, g1, -⟩ := hR I I J J h
  obtain ⟨x', y, e1', e2, e3, h2, -, g2⟩ := hR I I J x.2 (yWhl_J (yJ_refl_lo _) g1 h)
  rw [e1] at e1'
  cases e1'
  exact ⟨x, y, e1, e2, e3, yWhl_J g2 (yJ_refl_hi _) h2⟩
/-- calls in thought leave all as it was -/
theorem th_all {A B A' B' : yI} {JA JB : yJ} (h : yWhl A B JA JB) (fA : yfr kWT A A') (h2 : yIs 4 (A' 39 2)) (fB : yfr kWR2 B B') : yWhl A' B' JA JB := by
  obtain ⟨a, w, s, nl, fd, d, u, nb, hT, hD, hL, hP, ⟨⟨x1, x2, x3⟩, -, x5⟩, hC, hAc, hS, hK⟩ := h
  exact ⟨a, w, s, nl, fd, d, u, nb, yTown_ag (yag_fr rfl fA) (yag_fr rfl fB) hT, yMDF_ag (yag_fr rfl fA) hD, yLaws_ag (yag_fr rfl fA) (yag_fr rfl fB) hL, yTape_ag (yag_fr rfl fA) (yag_fr rfl fB) hP, ⟨⟨by rw [fB 73 45 rfl]; exact x1, by rw [fB 73 47 rfl]; exact x2, by rw [fB 73 50 rfl]; exact x3⟩, h2, by rw [fA 25 2 rfl]; exact x5⟩, yChg_ag (yag_fr rfl fA) (yag_fr rfl fB) hC, yActs_ag (yag_fr rfl fA) (yag_fr rfl fB) hAc, ySh_ag (Nat.le_refl _) (yag_fr rfl fA) (yag_fr rfl fB) hS, yKept_ag (yag_fr rfl fA) (yag_fr rfl fB) hK⟩
theorem yWhl_rdy {A B : yI} {JA JB : yJ} (h : yWhl A B JA JB) : ∃ a w s nl nb, nb ≤ 50 ∧ yRdy a w s nl A B ∧ ySh nb A B JA JB := by
  obtain ⟨a, w, s, nl, fd, d, u, nb, hT, hD, hL, hP, hX, hC, hAc, hS, hK⟩ := h
  exact ⟨a, w, s, nl, nb, hAc.1.1, ⟨hT, hD.1, hL, hX.1, hX.2.1⟩, hS⟩
