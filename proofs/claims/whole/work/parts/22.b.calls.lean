/-! EVERY CALL keeps what class and reference hold alike (written by wip/whole/calls.py) -/
theorem g_square {A x : yI} {v1 v2 r : Int32} (h : f86_square v1 v2 A = some (r, x)) : x 1 0 = A 1 0 ∨ x 1 0 = A 1 0 + 1 := by
  have h64 : yF (f64_addSquare v1 v2 A) (fun t => t.2 1 0 = A 1 0 ∨ t.2 1 0 = A 1 0 + 1) := by
    unfold f64_addSquare
    exact yF_ite (yF_some (Or.inl rfl)) (yF_bif fun _ => yF_bif fun _ => yF_some (Or.inr (by dsimp only; exact zu_same _ _ _ _)))
  have : yF (f86_square v1 v2 A) (fun t => t.2 1 0 = A 1 0 ∨ t.2 1 0 = A 1 0 + 1) := by
    unfold f86_square
    exact yF_bind0 fun _ => yF_ite (yF_some (Or.inl rfl)) (yF_bind0 fun _ => yF_ite (yF_some (Or.inl rfl)) (yF_bind h64 fun t ht => yF_some ht))
  exact this _ h
theorem g_sort {A x : yI} {v1 v2 v3 r : Int32} (h : f88_sort v1 v2 v3 A = some (r, x)) : x 1 2 = A 1 2 ∨ x 1 2 = A 1 2 + 1 := by
  have h68 : yF (f68_addSort v1 v2 v3 A) (fun t => t.2 1 2 = A 1 2 ∨ t.2 1 2 = A 1 2 + 1) := by
    have k0 : ∀ n : Int32, yF (some (n, A)) (fun t => t.2 1 2 = A 1 2 ∨ t.2 1 2 = A 1 2 + 1) := fun _ => yF_some (Or.inl rfl)
    unfold f68_addSort
    exact yF_ite (k0 _) (yF_ite (k0 _) (yF_ite (k0 _) (yF_ite (k0 _) (yF_ite (yF_ite (k0 _) (yF_bind0 fun _ => yF_ite (k0 _) (yF_ite (k0 _) (yF_ite (yF_ite (k0 _) (yF_bif fun _ => yF_bif fun _ => yF_bif fun _ => yF_bif fun _ => yF_bif fun _ => yF_some (Or.inr (by dsimp only; exact zu_same _ _ _ _)))) (k0 _))))) (k0 _)))))
  have : yF (f88_sort v1 v2 v3 A) (fun t => t.2 1 2 = A 1 2 ∨ t.2 1 2 = A 1 2 + 1) := by
    unfold f88_sort
    exact yF_bind h68 fun t ht => yF_some ht
  exact this _ h
theorem g_le {n m : Nat} {x y : Int32} (hx : x = yn n) (hy : y = yn m) (hn : n ≤ 1000) (hm : m ≤ 1000) (h : y = x ∨ y = x + 1) : n ≤ m := by
  rw [hx, hy] at h
  rcases h with h | h
  · rw [yn_inj (by omega) (by omega)] at h; omega
  · rw [yn_succ, yn_inj (by omega) (by omega)] at h; omega
theorem a_square {A B : yI} {J : yJ} (h : yWhl A B J J) (v1 v2 : Int32) : y2 (f86_square v1 v2 A) (f132_square v1 v2 B) (fun x y => x.1 = y.1 ∧ yWhl x.2 y.2 J J) := by
  obtain ⟨a, w, s, nl, fd, d, u, nb, hT, hD, hL, hP, hX, hC, hAc, hS, hK⟩ := h
  obtain ⟨x, y, e1, e2, e3, a', hT'⟩ := c_square hT v1 v2
  have fA := fr_f86_square v1 v2 A _ e1
  have fB := fr_f132_square v1 v2 B _ e2
  have ha' : a ≤ a' := g_le hT.1.2.1.1 hT'.1.2.1.1 (by have := hT.1.1.1; omega) (by have := hT'.1.1.1; omega) (g_square e1)
  exact ⟨x, y, e1, e2, e3, a', w, s, nl, fd, d, u, nb, hT', yMDF_ag (yag_fr rfl fA) hD, yLaws_ag (yag_fr rfl fA) (yag_fr rfl fB) hL, yTape_ag (yag_fr rfl fA) (yag_fr rfl fB) hP, yX_ag (yag_fr rfl fA) (yag_fr rfl fB) hX, yChg_mono ha' (Nat.le_refl _) (yChg_ag (yag_fr rfl fA) (yag_fr rfl fB) hC), yActs_ag (yag_fr rfl fA) (yag_fr rfl fB) hAc, ySh_ag (Nat.le_refl _) (yag_fr rfl fA) (yag_fr rfl fB) hS, yKept_ag (yag_fr rfl fA) (yag_fr rfl fB) hK⟩
theorem l_square {I : yI} {J : yJ} (h : yWhl I I J J) (v1 v2 : Int32) : ∃ x y, f86_square v1 v2 I = some x ∧ f132_square v1 v2 x.2 = some y ∧ x.1 = y.1 ∧ yWhl y.2 y.2 J J :=
  self2 (F := (f86_square v1 v2)) (G := (f132_square v1 v2)) h (fr_f86_square v1 v2) (fr_f132_square v1 v2) (fun _ _ h => a_square h v1 v2) rfl rfl
theorem a_way {A B : yI} {J : yJ} (h : yWhl A B J J) (v1 v2 v3 : Int32) : y2 (f87_way v1 v2 v3 A) (f133_way v1 v2 v3 B) (fun x y => x.1 = y.1 ∧ yWhl x.2 y.2 J J) := by
  obtain ⟨a, w, s, nl, fd, d, u, nb, hT, hD, hL, hP, hX, hC, hAc, hS, hK⟩ := h
  obtain ⟨x, y, e1, e2, e3, w', hT', hD', hF'⟩ := c_way hT hD.1 hD.2 v1 v2 v3
  have fA := fr_f87_way v1 v2 v3 A _ e1
  have fB := fr_f133_way v1 v2 v3 B _ e2
  exact ⟨x, y, e1, e2, e3, a, w', s, nl, fd, d, u, nb, hT', ⟨hD', hF'⟩, yLaws_ag (yag_fr rfl fA) (yag_fr rfl fB) hL, yTape_ag (yag_fr rfl fA) (yag_fr rfl fB) hP, yX_ag (yag_fr rfl fA) (yag_fr rfl fB) hX, yChg_ag (yag_fr rfl fA) (yag_fr rfl fB) hC, yActs_ag (yag_fr rfl fA) (yag_fr rfl fB) hAc, ySh_ag (Nat.le_refl _) (yag_fr rfl fA) (yag_fr rfl fB) hS, yKept_ag (yag_fr rfl fA) (yag_fr rfl fB) hK⟩
theorem l_way {I : yI} {J : yJ} (h : yWhl I I J J) (v1 v2 v3 : Int32) : ∃ x y, f87_way v1 v2 v3 I = some x ∧ f133_way v1 v2 v3 x.2 = some y ∧ x.1 = y.1 ∧ yWhl y.2 y.2 J J :=
  self2 (F := (f87_way v1 v2 v3)) (G := (f133_way v1 v2 v3)) h (fr_f87_way v1 v2 v3) (fr_f133_way v1 v2 v3) (fun _ _ h => a_way h v1 v2 v3) rfl rfl
theorem a_sort {A B : yI} {J : yJ} (h : yWhl A B J J) (v1 v2 v3 : Int32) : y2 (f88_sort v1 v2 v3 A) (f136_sort v1 v2 v3 B) (fun x y => x.1 = y.1 ∧ yWhl x.2 y.2 J J) := by
  obtain ⟨a, w, s, nl, fd, d, u, nb, hT, hD, hL, hP, hX, hC, hAc, hS, hK⟩ := h
  obtain ⟨x, y, e1, e2, e3, s', hT'⟩ := c_sort hT v1 v2 v3
  have fA := fr_f88_sort v1 v2 v3 A _ e1
  have fB := fr_f136_sort v1 v2 v3 B _ e2
  have hs' : s ≤ s' := g_le hT.1.2.1.2.2 hT'.1.2.1.2.2 (by have := hT.1.1.2.2; omega) (by have := hT'.1.1.2.2; omega) (g_sort e1)
  exact ⟨x, y, e1, e2, e3, a, w, s', nl, fd, d, u, nb, hT', yMDF_ag (yag_fr rfl fA) hD, yLaws_ag (yag_fr rfl fA) (yag_fr rfl fB) hL, yTape_ag (yag_fr rfl fA) (yag_fr rfl fB) hP, yX_ag (yag_fr rfl fA) (yag_fr rfl fB) hX, yChg_mono (Nat.le_refl _) hs' (yChg_ag (yag_fr rfl fA) (yag_fr rfl fB) hC), yActs_ag (yag_fr rfl fA) (yag_fr rfl fB) hAc, ySh_ag (Nat.le_refl _) (yag_fr rfl fA) (yag_fr rfl fB) hS, yKept_ag (yag_fr rfl fA) (yag_fr rfl fB) hK⟩
theorem l_sort {I : yI} {J : yJ} (h : yWhl I I J J) (v1 v2 v3 : Int32) : ∃ x y, f88_sort v1 v2 v3 I = some x ∧ f136_sort v1 v2 v3 x.2 = some y ∧ x.1 = y.1 ∧ yWhl y.2 y.2 J J :=
  self2 (F := (f88_sort v1 v2 v3)) (G := (f136_sort v1 v2 v3)) h (fr_f88_sort v1 v2 v3) (fr_f136_sort v1 v2 v3) (fun _ _ h => a_sort h v1 v2 v3) rfl rfl
theorem a_sorts {A B : yI} {J : yJ} (h : yWhl A B J J) (v1 v2 v3 : Int32) : y2 (f89_sorts v1 v2 v3 A J) (f137_sorts v1 v2 v3 B J) (fun x y => x.1 = y.1 ∧ yWhl x.2 y.2 J J) := by
  obtain ⟨a, w, s, nl, fd, d, u, nb, hT, hD, hL, hP, hX, hC, hAc, hS, hK⟩ := h
  obtain ⟨x, y, e1, e2, e3, s', hs', hT'⟩ := c_sorts hAc.1.1 hT hS v1 v2 v3
  have fA := fr_f89_sorts v1 v2 v3 A J _ e1
  have fB := fr_f137_sorts v1 v2 v3 B J _ e2
  exact ⟨x, y, e1, e2, e3, a, w, s', nl, fd, d, u, nb, hT', yMDF_ag (yag_fr rfl fA) hD, yLaws_ag (yag_fr rfl fA) (yag_fr rfl fB) hL, yTape_ag (yag_fr rfl fA) (yag_fr rfl fB) hP, yX_ag (yag_fr rfl fA) (yag_fr rfl fB) hX, yChg_mono (Nat.le_refl _) hs' (yChg_ag (yag_fr rfl fA) (yag_fr rfl fB) hC), yActs_ag (yag_fr rfl fA) (yag_fr rfl fB) hAc, ySh_ag (Nat.le_refl _) (yag_fr rfl fA) (yag_fr rfl fB) hS, yKept_ag (yag_fr rfl fA) (yag_fr rfl fB) hK⟩
theorem l_sorts {I : yI} {J : yJ} (h : yWhl I I J J) (v1 v2 v3 : Int32) : ∃ x y, f89_sorts v1 v2 v3 I J = some x ∧ f137_sorts v1 v2 v3 x.2 J = some y ∧ x.1 = y.1 ∧ yWhl y.2 y.2 J J :=
  self2 (F := (fun I => f89_sorts v1 v2 v3 I J)) (G := (fun I => f137_sorts v1 v2 v3 I J)) h (fun I => fr_f89_sorts v1 v2 v3 I J) (fun I => fr_f137_sorts v1 v2 v3 I J) (fun _ _ h => a_sorts h v1 v2 v3) rfl rfl
theorem a_feed {A B : yI} {J : yJ} (h : yWhl A B J J) (v1 : Int32) : y2 (f91_feed v1 A) (f138_feed v1 B) (fun x y => x.1 = y.1 ∧ yWhl x.2 y.2 J J) := by
  obtain ⟨a, w, s, nl, fd, d, u, nb, hT, hD, hL, hP, hX, hC, hAc, hS, hK⟩ := h
  obtain ⟨x, y, e1, e2, e3, fd', hP'⟩ := c_feed hP v1
  have fA := fr_f91_feed v1 A _ e1
  have fB := fr_f138_feed v1 B _ e2
  exact ⟨x, y, e1, e2, e3, a, w, s, nl, fd', d, u, nb, yTown_ag (yag_fr rfl fA) (yag_fr rfl fB) hT, yMDF_ag (yag_fr rfl fA) hD, yLaws_ag (yag_fr rfl fA) (yag_fr rfl fB) hL, hP', yX_ag (yag_fr rfl fA) (yag_fr rfl fB) hX, yChg_ag (yag_fr rfl fA) (yag_fr rfl fB) hC, yActs_ag (yag_fr rfl fA) (yag_fr rfl fB) hAc, ySh_ag (Nat.le_refl _) (yag_fr rfl fA) (yag_fr rfl fB) hS, yKept_ag (yag_fr rfl fA) (yag_fr rfl fB) hK⟩
theorem l_feed {I : yI} {J : yJ} (h : yWhl I I J J) (v1 : Int32) : ∃ x y, f91_feed v1 I = some x ∧ f138_feed v1 x.2 = some y ∧ x.1 = y.1 ∧ yWhl y.2 y.2 J J :=
  self2 (F := (f91_feed v1)) (G := (f138_feed v1)) h (fr_f91_feed v1) (fr_f138_feed v1) (fun _ _ h => a_feed h v1) rfl rfl
theorem a_law {A B : yI} {J : yJ} (h : yWhl A B J J) : y2 (f92_law A) (f157_law B) (fun x y => x.1 = y.1 ∧ yWhl x.2 y.2 J J) := by
  obtain ⟨a, w, s, nl, fd, d, u, nb, hT, hD, hL, hP, hX, hC, hAc, hS, hK⟩ := h
  obtain ⟨x, y, e1, e2, e3, nl', fd', hL', hP'⟩ := c_law hL hP
  have fA := fr_f92_law A _ e1
  have fB := fr_f157_law B _ e2
  exact ⟨x, y, e1, e2, e3, a, w, s, nl', fd', d, u, nb, yTown_ag (yag_fr rfl fA) (yag_fr rfl fB) hT, yMDF_ag (yag_fr rfl fA) hD, hL', hP', yX_ag (yag_fr rfl fA) (yag_fr rfl fB) hX, yChg_ag (yag_fr rfl fA) (yag_fr rfl fB) hC, yActs_ag (yag_fr rfl fA) (yag_fr rfl fB) hAc, ySh_ag (Nat.le_refl _) (yag_fr rfl fA) (yag_fr rfl fB) hS, yKept_ag (yag_fr rfl fA) (yag_fr rfl fB) hK⟩
theorem l_law {I : yI} {J : yJ} (h : yWhl I I J J) : ∃ x y, f92_law I = some x ∧ f157_law x.2 = some y ∧ x.1 = y.1 ∧ yWhl y.2 y.2 J J :=
  self2 (F := f92_law) (G := f157_law) h fr_f92_law fr_f157_law (fun _ _ h => a_law h) rfl rfl
theorem a_set {A B : yI} {J : yJ} (h : yWhl A B J J) (v1 v2 : Int32) : y2 (f93_set v1 v2 A) (f158_set v1 v2 B) (fun x y => x.1 = y.1 ∧ yWhl x.2 y.2 J J) := by
  obtain ⟨a, w, s, nl, fd, d, u, nb, hT, hD, hL, hP, hX, hC, hAc, hS, hK⟩ := h
  obtain ⟨x, y, e1, e2, e3, hT'⟩ := c_set hT v1 v2
  have fA := fr_f93_set v1 v2 A _ e1
  have fB := fr_f158_set v1 v2 B _ e2
  exact ⟨x, y, e1, e2, e3, a, w, s, nl, fd, d, u, nb, hT', yMDF_ag (yag_fr rfl fA) hD, yLaws_ag (yag_fr rfl fA) (yag_fr rfl fB) hL, yTape_ag (yag_fr rfl fA) (yag_fr rfl fB) hP, yX_ag (yag_fr rfl fA) (yag_fr rfl fB) hX, yChg_ag (yag_fr rfl fA) (yag_fr rfl fB) hC, yActs_ag (yag_fr rfl fA) (yag_fr rfl fB) hAc, ySh_ag (Nat.le_refl _) (yag_fr rfl fA) (yag_fr rfl fB) hS, yKept_ag (yag_fr rfl fA) (yag_fr rfl fB) hK⟩
theorem l_set {I : yI} {J : yJ} (h : yWhl I I J J) (v1 v2 : Int32) : ∃ x y, f93_set v1 v2 I = some x ∧ f158_set v1 v2 x.2 = some y ∧ x.1 = y.1 ∧ yWhl y.2 y.2 J J :=
  self2 (F := (f93_set v1 v2)) (G := (f158_set v1 v2)) h (fr_f93_set v1 v2) (fr_f158_set v1 v2) (fun _ _ h => a_set h v1 v2) rfl rfl
theorem a_mend {A B : yI} {J : yJ} (h : yWhl A B J J) (v1 v2 v3 : Int32) : y2 (f94_mend v1 v2 v3 A) (f164_mend v1 v2 v3 B) (fun x y => x.1 = y.1 ∧ yWhl x.2 y.2 J J) := by
  obtain ⟨a, w, s, nl, fd, d, u, nb, hT, hD, hL, hP, hX, hC, hAc, hS, hK⟩ := h
  obtain ⟨x, y, e1, e2, e3, hT', d', u', hC'⟩ := c_mend hT hC v1 v2 v3
  have fA := fr_f94_mend v1 v2 v3 A _ e1
  have fB := fr_f164_mend v1 v2 v3 B _ e2
  exact ⟨x, y, e1, e2, e3, a, w, s, nl, fd, d', u', nb, hT', yMDF_ag (yag_fr rfl fA) hD, yLaws_ag (yag_fr rfl fA) (yag_fr rfl fB) hL, yTape_ag (yag_fr rfl fA) (yag_fr rfl fB) hP, yX_ag (yag_fr rfl fA) (yag_fr rfl fB) hX, hC', yActs_ag (yag_fr rfl fA) (yag_fr rfl fB) hAc, ySh_ag (Nat.le_refl _) (yag_fr rfl fA) (yag_fr rfl fB) hS, yKept_ag (yag_fr rfl fA) (yag_fr rfl fB) hK⟩
theorem l_mend {I : yI} {J : yJ} (h : yWhl I I J J) (v1 v2 v3 : Int32) : ∃ x y, f94_mend v1 v2 v3 I = some x ∧ f164_mend v1 v2 v3 x.2 = some y ∧ x.1 = y.1 ∧ yWhl y.2 y.2 J J :=
  self2 (F := (f94_mend v1 v2 v3)) (G := (f164_mend v1 v2 v3)) h (fr_f94_mend v1 v2 v3) (fr_f164_mend v1 v2 v3) (fun _ _ h => a_mend h v1 v2 v3) rfl rfl
theorem a_undo {A B : yI} {J : yJ} (h : yWhl A B J J) : y2 (f113_undo A) (f162_undo B) (fun x y => x.1 = y.1 ∧ yWhl x.2 y.2 J J) := by
  obtain ⟨a, w, s, nl, fd, d, u, nb, hT, hD, hL, hP, hX, hC, hAc, hS, hK⟩ := h
  obtain ⟨x, y, e1, e2, e3, hT', d', u', hC'⟩ := c_undo hT hC
  have fA := fr_f113_undo A _ e1
  have fB := fr_f162_undo B _ e2
  exact ⟨x, y, e1, e2, e3, a, w, s, nl, fd, d', u', nb, hT', yMDF_ag (yag_fr rfl fA) hD, yLaws_ag (yag_fr rfl fA) (yag_fr rfl fB) hL, yTape_ag (yag_fr rfl fA) (yag_fr rfl fB) hP, yX_ag (yag_fr rfl fA) (yag_fr rfl fB) hX, hC', yActs_ag (yag_fr rfl fA) (yag_fr rfl fB) hAc, ySh_ag (Nat.le_refl _) (yag_fr rfl fA) (yag_fr rfl fB) hS, yKept_ag (yag_fr rfl fA) (yag_fr rfl fB) hK⟩
theorem l_undo {I : yI} {J : yJ} (h : yWhl I I J J) : ∃ x y, f113_undo I = some x ∧ f162_undo x.2 = some y ∧ x.1 = y.1 ∧ yWhl y.2 y.2 J J :=
  self2 (F := f113_undo) (G := f162_undo) h fr_f113_undo fr_f162_undo (fun _ _ h => a_undo h) rfl rfl
theorem a_redo {A B : yI} {J : yJ} (h : yWhl A B J J) : y2 (f114_redo A) (f163_redo B) (fun x y => x.1 = y.1 ∧ yWhl x.2 y.2 J J) := by
  obtain ⟨a, w, s, nl, fd, d, u, nb, hT, hD, hL, hP, hX, hC, hAc, hS, hK⟩ := h
  obtain ⟨x, y, e1, e2, e3, hT', d', u', hC'⟩ := c_redo hT hC
  have fA := fr_f114_redo A _ e1
  have fB := fr_f163_redo B _ e2
  exact ⟨x, y, e1, e2, e3, a, w, s, nl, fd, d', u', nb, hT', yMDF_ag (yag_fr rfl fA) hD, yLaws_ag (yag_fr rfl fA) (yag_fr rfl fB) hL, yTape_ag (yag_fr rfl fA) (yag_fr rfl fB) hP, yX_ag (yag_fr rfl fA) (yag_fr rfl fB) hX, hC', yActs_ag (yag_fr rfl fA) (yag_fr rfl fB) hAc, ySh_ag (Nat.le_refl _) (yag_fr rfl fA) (yag_fr rfl fB) hS, yKept_ag (yag_fr rfl fA) (yag_fr rfl fB) hK⟩
theorem l_redo {I : yI} {J : yJ} (h : yWhl I I J J) : ∃ x y, f114_redo I = some x ∧ f163_redo x.2 = some y ∧ x.1 = y.1 ∧ yWhl y.2 y.2 J J :=
  self2 (F := f114_redo) (G := f163_redo) h fr_f114_redo fr_f163_redo (fun _ _ h => a_redo h) rfl rfl
theorem a_run {A B : yI} {J : yJ} (h : yWhl A B J J) : y2 (f96_run A) (f174_run B) (fun x y => x.1 = y.1 ∧ yWhl x.2 y.2 J J) := by
  obtain ⟨a, w, s, nl, fd, d, u, nb, hT, hD, hL, hP, hX, hC, hAc, hS, hK⟩ := h
  obtain ⟨x, y, e1, e2, e3, hK'⟩ := c_run hT hD.1 hL hX.1 hX.2.2 hK
  have fA := fr_f96_run A _ e1
  have fB := fr_f174_run B _ e2
  exact ⟨x, y, e1, e2, e3, a, w, s, nl, fd, d, u, nb, yTown_ag (yag_fr rfl fA) (yag_fr rfl fB) hT, yMDF_ag (yag_fr rfl fA) hD, yLaws_ag (yag_fr rfl fA) (yag_fr rfl fB) hL, yTape_ag (yag_fr rfl fA) (yag_fr rfl fB) hP, yX_ag (yag_fr rfl fA) (yag_fr rfl fB) hX, yChg_ag (yag_fr rfl fA) (yag_fr rfl fB) hC, yActs_ag (yag_fr rfl fA) (yag_fr rfl fB) hAc, ySh_ag (Nat.le_refl _) (yag_fr rfl fA) (yag_fr rfl fB) hS, hK'⟩
theorem l_run {I : yI} {J : yJ} (h : yWhl I I J J) : ∃ x y, f96_run I = some x ∧ f174_run x.2 = some y ∧ x.1 = y.1 ∧ yWhl y.2 y.2 J J :=
  self2 (F := f96_run) (G := f174_run) h fr_f96_run fr_f174_run (fun _ _ h => a_run h) rfl rfl
theorem a_body {A B : yI} {J : yJ} (h : yWhl A B J J) (v1 : Int32) : y2 (f115_body v1 A) (f195_body v1 B) (fun x y => x.1 = y.1 ∧ yWhl x.2 y.2 J J) := by
  obtain ⟨a, w, s, nl, fd, d, u, nb, hT, hD, hL, hP, hX, hC, hAc, hS, hK⟩ := h
  obtain ⟨x, y, e1, e2, e3, nb', hnb, hA'⟩ := c_body hAc v1
  have fA := fr_f115_body v1 A _ e1
  have fB := fr_f195_body v1 B _ e2
  exact ⟨x, y, e1, e2, e3, a, w, s, nl, fd, d, u, nb', yTown_ag (yag_fr rfl fA) (yag_fr rfl fB) hT, yMDF_ag (yag_fr rfl fA) hD, yLaws_ag (yag_fr rfl fA) (yag_fr rfl fB) hL, yTape_ag (yag_fr rfl fA) (yag_fr rfl fB) hP, yX_ag (yag_fr rfl fA) (yag_fr rfl fB) hX, yChg_ag (yag_fr rfl fA) (yag_fr rfl fB) hC, hA', ySh_ag hnb (yag_fr rfl fA) (yag_fr rfl fB) hS, yKept_ag (yag_fr rfl fA) (yag_fr rfl fB) hK⟩
theorem l_body {I : yI} {J : yJ} (h : yWhl I I J J) (v1 : Int32) : ∃ x y, f115_body v1 I = some x ∧ f195_body v1 x.2 = some y ∧ x.1 = y.1 ∧ yWhl y.2 y.2 J J :=
  self2 (F := (f115_body v1)) (G := (f195_body v1)) h (fr_f115_body v1) (fr_f195_body v1) (fun _ _ h => a_body h v1) rfl rfl
theorem a_act {A B : yI} {J : yJ} (h : yWhl A B J J) (v1 v2 v3 : Int32) : y2 (f116_act v1 v2 v3 A) (f208_act v1 v2 v3 B) (fun x y => x.1 = y.1 ∧ yWhl x.2 y.2 J J) := by
  obtain ⟨a, w, s, nl, fd, d, u, nb, hT, hD, hL, hP, hX, hC, hAc, hS, hK⟩ := h
  obtain ⟨x, y, e1, e2, e3, hA'⟩ := c_act hAc v1 v2 v3
  have fA := fr_f116_act v1 v2 v3 A _ e1
  have fB := fr_f208_act v1 v2 v3 B _ e2
  exact ⟨x, y, e1, e2, e3, a, w, s, nl, fd, d, u, nb, yTown_ag (yag_fr rfl fA) (yag_fr rfl fB) hT, yMDF_ag (yag_fr rfl fA) hD, yLaws_ag (yag_fr rfl fA) (yag_fr rfl fB) hL, yTape_ag (yag_fr rfl fA) (yag_fr rfl fB) hP, yX_ag (yag_fr rfl fA) (yag_fr rfl fB) hX, yChg_ag (yag_fr rfl fA) (yag_fr rfl fB) hC, hA', ySh_ag (Nat.le_refl _) (yag_fr rfl fA) (yag_fr rfl fB) hS, yKept_ag (yag_fr rfl fA) (yag_fr rfl fB) hK⟩
theorem l_act {I : yI} {J : yJ} (h : yWhl I I J J) (v1 v2 v3 : Int32) : ∃ x y, f116_act v1 v2 v3 I = some x ∧ f208_act v1 v2 v3 x.2 = some y ∧ x.1 = y.1 ∧ yWhl y.2 y.2 J J :=
  self2 (F := (f116_act v1 v2 v3)) (G := (f208_act v1 v2 v3)) h (fr_f116_act v1 v2 v3) (fr_f208_act v1 v2 v3) (fun _ _ h => a_act h v1 v2 v3) rfl rfl
theorem a_keep {A B : yI} {J : yJ} (h : yWhl A B J J) (v1 v2 : Int32) : y2 (f118_keep v1 v2 A) (f211_keep v1 v2 B) (fun x y => x.1 = y.1 ∧ yWhl x.2 y.2 J J) := by
  obtain ⟨a, w, s, nl, fd, d, u, nb, hT, hD, hL, hP, hX, hC, hAc, hS, hK⟩ := h
  obtain ⟨x, y, e1, e2, e3, hS'⟩ := c_keep hAc hS v1 v2
  have fA := fr_f118_keep v1 v2 A _ e1
  have fB := fr_f211_keep v1 v2 B _ e2
  exact ⟨x, y, e1, e2, e3, a, w, s, nl, fd, d, u, nb, yTown_ag (yag_fr rfl fA) (yag_fr rfl fB) hT, yMDF_ag (yag_fr rfl fA) hD, yLaws_ag (yag_fr rfl fA) (yag_fr rfl fB) hL, yTape_ag (yag_fr rfl fA) (yag_fr rfl fB) hP, yX_ag (yag_fr rfl fA) (yag_fr rfl fB) hX, yChg_ag (yag_fr rfl fA) (yag_fr rfl fB) hC, yActs_ag (yag_fr rfl fA) (yag_fr rfl fB) hAc, hS', yKept_ag (yag_fr rfl fA) (yag_fr rfl fB) hK⟩
theorem l_keep {I : yI} {J : yJ} (h : yWhl I I J J) (v1 v2 : Int32) : ∃ x y, f118_keep v1 v2 I = some x ∧ f211_keep v1 v2 x.2 = some y ∧ x.1 = y.1 ∧ yWhl y.2 y.2 J J :=
  self2 (F := (f118_keep v1 v2)) (G := (f211_keep v1 v2)) h (fr_f118_keep v1 v2) (fr_f211_keep v1 v2) (fun _ _ h => a_keep h v1 v2) rfl rfl
theorem l_fewer {I : yI} {J : yJ} (h : yWhl I I J J) (v1 : Int32) : ∃ x y, f102_fewer v1 I = some x ∧ f184_fewer v1 x.2 = some y ∧ x.1 = y.1 ∧ yWhl y.2 y.2 J J := by
  refine self2 (F := f102_fewer v1) (G := f184_fewer v1) h (fr_f102_fewer v1) (fr_f184_fewer v1) (fun A B h => ?_) rfl rfl
  obtain ⟨a, w, s, nl, nb, hnb, hr, hS⟩ := yWhl_rdy h
  obtain ⟨x, y, e1, e2, e3, fA, h2, fB⟩ := c_fewer hr v1
  exact ⟨x, y, e1, e2, e3, th_all h fA h2 (yfr_mono rfl fB)⟩
theorem l_often {I : yI} {J : yJ} (h : yWhl I I J J) (v1 v2 : Int32) : ∃ x y, f103_often v1 v2 I = some x ∧ f185_often v1 v2 x.2 = some y ∧ x.1 = y.1 ∧ yWhl y.2 y.2 J J := by
  refine self2 (F := f103_often v1 v2) (G := f185_often v1 v2) h (fr_f103_often v1 v2) (fr_f185_often v1 v2) (fun A B h => ?_) rfl rfl
  obtain ⟨a, w, s, nl, nb, hnb, hr, hS⟩ := yWhl_rdy h
  obtain ⟨x, y, e1, e2, e3, fA, h2, fB⟩ := c_often hr v1 v2
  exact ⟨x, y, e1, e2, e3, th_all h fA h2 fB⟩
theorem l_sooner {I : yI} {J : yJ} (h : yWhl I I J J) (v1 : Int32) : ∃ x y, f104_sooner v1 I = some x ∧ f186_sooner v1 x.2 = some y ∧ x.1 = y.1 ∧ yWhl y.2 y.2 J J := by
  refine self2 (F := f104_sooner v1) (G := f186_sooner v1) h (fr_f104_sooner v1) (fr_f186_sooner v1) (fun A B h => ?_) rfl rfl
  obtain ⟨a, w, s, nl, nb, hnb, hr, hS⟩ := yWhl_rdy h
  obtain ⟨x, y, e1, e2, e3, fA, h2, fB⟩ := c_sooner hr v1
  exact ⟨x, y, e1, e2, e3, th_all h fA h2 (yfr_mono rfl fB)⟩
theorem l_paid {I : yI} {J : yJ} (h : yWhl I I J J) (v1 : Int32) : ∃ x y, f108_paid v1 I = some x ∧ f188_paid v1 x.2 = some y ∧ x.1 = y.1 ∧ yWhl y.2 y.2 J J := by
  refine self2 (F := f108_paid v1) (G := f188_paid v1) h (fr_f108_paid v1) (fr_f188_paid v1) (fun A B h => ?_) rfl rfl
  obtain ⟨a, w, s, nl, nb, hnb, hr, hS⟩ := yWhl_rdy h
  obtain ⟨x, y, e1, e2, e3, fA, h2, fB⟩ := c_paid hr v1
  exact ⟨x, y, e1, e2, e3, th_all h fA h2 fB⟩
theorem l_lead {I : yI} {J : yJ} (h : yWhl I I J J) (v1 : Int32) : ∃ x y, f109_lead v1 I = some x ∧ f189_lead v1 x.2 = some y ∧ x.1 = y.1 ∧ yWhl y.2 y.2 J J := by
  refine self2 (F := f109_lead v1) (G := f189_lead v1) h (fr_f109_lead v1) (fr_f189_lead v1) (fun A B h => ?_) rfl rfl
  obtain ⟨a, w, s, nl, nb, hnb, hr, hS⟩ := yWhl_rdy h
  obtain ⟨x, y, e1, e2, e3, fA, h2, fB⟩ := c_lead hr v1
  exact ⟨x, y, e1, e2, e3, th_all h fA h2 fB⟩
theorem l_serves {I : yI} {J : yJ} (h : yWhl I I J J) (v1 : Int32) : ∃ x y, f110_serves v1 I = some x ∧ f190_serves v1 x.2 = some y ∧ x.1 = y.1 ∧ yWhl y.2 y.2 J J := by
  refine self2 (F := f110_serves v1) (G := f190_serves v1) h (fr_f110_serves v1) (fr_f190_serves v1) (fun A B h => ?_) rfl rfl
  obtain ⟨a, w, s, nl, nb, hnb, hr, hS⟩ := yWhl_rdy h
  obtain ⟨x, y, e1, e2, e3, fA, h2, fB⟩ := c_serves hr v1
  exact ⟨x, y, e1, e2, e3, th_all h fA h2 fB⟩
theorem l_bell {I : yI} {J : yJ} (h : yWhl I I J J) (v1 v2 : Int32) : ∃ x y, f105_bell v1 v2 I J = some x ∧ f187_bell v1 v2 x.2 J = some y ∧ x.1 = y.1 ∧ yWhl y.2 y.2 J J := by
  refine self2 (F := fun I => f105_bell v1 v2 I J) (G := fun I => f187_bell v1 v2 I J) h (fun I => fr_f105_bell v1 v2 I J) (fun I => fr_f187_bell v1 v2 I J) (fun A B h => ?_) rfl rfl
  obtain ⟨a, w, s, nl, nb, hnb, hr, hS⟩ := yWhl_rdy h
  obtain ⟨x, y, e1, e2, e3, fA, h2, fB⟩ := c_bell hnb hr hS v1 v2
  exact ⟨x, y, e1, e2, e3, th_all h fA h2 fB⟩
theorem far_all {A B B' : yI} {JA JB : yJ} (h : yWhl A B JA JB) (fB : yfr [10699] B B') : yWhl A B' JA JB := by
  obtain ⟨a, w, s, nl, fd, d, u, nb, hT, hD, hL, hP, hX, hC, hAc, hS, hK⟩ := h
  have fA : yfr [] A A := yfr_refl _
  exact ⟨a, w, s, nl, fd, d, u, nb, yTown_ag (yag_fr rfl fA) (yag_fr rfl fB) hT, yMDF_ag (yag_fr rfl fA) hD, yLaws_ag (yag_fr rfl fA) (yag_fr rfl fB) hL, yTape_ag (yag_fr rfl fA) (yag_fr rfl fB) hP, yX_ag (yag_fr rfl fA) (yag_fr rfl fB) hX, yChg_ag (yag_fr rfl fA) (yag_fr rfl fB) hC, yActs_ag (yag_fr rfl fA) (yag_fr rfl fB) hAc, ySh_ag (Nat.le_refl _) (yag_fr rfl fA) (yag_fr rfl fB) hS, yKept_ag (yag_fr rfl fA) (yag_fr rfl fB) hK⟩
theorem l_last {I : yI} {J : yJ} (h : yWhl I I J J) (v1 : Int32) : ∃ r y, f99_last v1 I = some r ∧ f181_last v1 I = some y ∧ r = y.1 ∧ yWhl y.2 y.2 J J := by
  have h0 := h
  obtain ⟨a, w, s, nl, fd, d, u, nb, hT, hD, hL, hP, hX, hC, hAc, hS, hK⟩ := h
  obtain ⟨r, B', e1, e2⟩ := c_last hT hD.2 v1
  have fB := fr_f181_last v1 I _ e2
  exact ⟨r, (r, B'), e1, e2, rfl, yWhl_lh (ylo_fr fB rfl) (yhi_refl _) (far_all h0 fB)⟩
theorem l_judge {I : yI} {J : yJ} (h : yWhl I I J J) (v1 : Int32) : ∃ r y, f111_judge v1 I J = some r ∧ f191_judge v1 I J = some y ∧ r = y.1 ∧ yWhl y.2 y.2 J J := by
  have h0 := h
  obtain ⟨a, w, s, nl, fd, d, u, nb, hT, hD, hL, hP, hX, hC, hAc, hS, hK⟩ := h
  obtain ⟨r, B', e1, e2⟩ := c_judge hAc.1.1 hT hD.2 hS v1
  have fB := fr_f191_judge v1 I J _ e2
  exact ⟨r, (r, B'), e1, e2, rfl, yWhl_lh (ylo_fr fB rfl) (yhi_refl _) (far_all h0 fB)⟩
theorem l_of {I : yI} {J : yJ} (h : yWhl I I J J) (v1 v2 : Int32) : ∃ r, f95_of v1 v2 I = some r ∧ f165_of v1 v2 I = some r := by
  obtain ⟨a, w, s, nl, fd, d, u, nb, hT, hD, hL, hP, hX, hC, hAc, hS, hK⟩ := h
  exact c_of hT v1 v2
theorem l_led {I : yI} {J : yJ} (h : yWhl I I J J) (v1 v2 v3 : Int32) : ∃ r, f97_led v1 v2 v3 I = some r ∧ f175_led v1 v2 v3 I = some r := by
  obtain ⟨a, w, s, nl, fd, d, u, nb, hT, hD, hL, hP, hX, hC, hAc, hS, hK⟩ := h
  exact c_led hK v1 v2 v3
theorem l_told {I : yI} {J : yJ} (h : yWhl I I J J) (v1 : Int32) : ∃ r, f98_told v1 I = some r ∧ f176_told v1 I = some r := by
  obtain ⟨a, w, s, nl, fd, d, u, nb, hT, hD, hL, hP, hX, hC, hAc, hS, hK⟩ := h
  exact c_told hK v1
theorem l_flow {I : yI} {J : yJ} (h : yWhl I I J J) (v1 : Int32) : ∃ r, f100_flow v1 I = some r ∧ f182_flow v1 I = some r := by
  obtain ⟨a, w, s, nl, fd, d, u, nb, hT, hD, hL, hP, hX, hC, hAc, hS, hK⟩ := h
  exact c_flow hT v1
theorem l_trace {I : yI} {J : yJ} (h : yWhl I I J J) (v1 : Int32) : ∃ r, f117_trace v1 I = some r ∧ f194_trace v1 I = some r := by
  obtain ⟨a, w, s, nl, fd, d, u, nb, hT, hD, hL, hP, hX, hC, hAc, hS, hK⟩ := h
  exact c_trace hAc v1
theorem l_element {I : yI} {J : yJ} (h : yWhl I I J J) (v1 v2 : Int32) : ∃ r, f121_element v1 v2 I J = some r ∧ f215_element v1 v2 I J = some r := by
  obtain ⟨a, w, s, nl, fd, d, u, nb, hT, hD, hL, hP, hX, hC, hAc, hS, hK⟩ := h
  exact c_element hAc.1.1 hS v1 v2
theorem l_taken {I : yI} {J : yJ} (h : yWhl I I J J) (v1 v2 : Int32) : ∃ r, f124_taken v1 v2 I = some r ∧ f217_taken v1 v2 I = some r := by
  obtain ⟨a, w, s, nl, fd, d, u, nb, hT, hD, hL, hP, hX, hC, hAc, hS, hK⟩ := h
  exact c_taken hAc hS v1 v2
theorem l_count {I : yI} {J : yJ} (h : yWhl I I J J) (v1 : Int32) : ∃ r, f125_count v1 I = some r ∧ f209_count v1 I = some r := by
  obtain ⟨a, w, s, nl, fd, d, u, nb, hT, hD, hL, hP, hX, hC, hAc, hS, hK⟩ := h
  obtain ⟨n, -, c7, c7', -⟩ := hAc.2.2
  have z0 := hT.1.2.1
  have z1 := hT.1.2.2
  unfold f125_count f209_count
  rw [z0.1, z0.2.1, z0.2.2, z1.1, z1.2.1, z1.2.2, hL.1.2.1, hL.1.2.2, hP.1.2.1, hP.1.2.2, hC.1.2.1, hC.1.2.2.2.1, hAc.1.2.1, hAc.1.2.2, c7, c7']
  by_cases c0 : v1.toInt = 0
  · rw [if_pos c0]; exact ⟨_, rfl, rfl⟩
  rw [if_neg c0]
  by_cases c1 : v1.toInt = 1
  · rw [if_pos c1]; exact ⟨_, rfl, rfl⟩
  rw [if_neg c1]
  by_cases c2 : v1.toInt = 2
  · rw [if_pos c2]; exact ⟨_, rfl, rfl⟩
  rw [if_neg c2]
  by_cases c3 : v1.toInt = 3
  · rw [if_pos c3]; exact ⟨_, rfl, rfl⟩
  rw [if_neg c3]
  by_cases c4 : v1.toInt = 4
  · rw [if_pos c4]; exact ⟨_, rfl, rfl⟩
  rw [if_neg c4]
  by_cases c5 : v1.toInt = 5
  · rw [if_pos c5]; exact ⟨_, rfl, rfl⟩
  rw [if_neg c5]
  by_cases c6 : v1.toInt = 6
  · rw [if_pos c6]; exact ⟨_, rfl, rfl⟩
  rw [if_neg c6]
  by_cases c7 : v1.toInt = 7
  · rw [if_pos c7]; exact ⟨_, rfl, rfl⟩
  rw [if_neg c7]
  exact ⟨_, rfl, rfl⟩
theorem l_row {I : yI} {J : yJ} (h : yWhl I I J J) (v1 v2 v3 : Int32) : ∃ x y, f119_row v1 v2 v3 I J = some x ∧ f212_row v1 v2 v3 x.2.1 x.2.2 = some y ∧ x.1 = y.1 ∧ yWhl y.2.1 y.2.1 y.2.2 y.2.2 := by
  refine selfR (F := f119_row v1 v2 v3) (G := f212_row v1 v2 v3) h (fr_f119_row v1 v2 v3) (fr_f212_row v1 v2 v3) (fun A B JA JB h => ?_) rfl rfl
  obtain ⟨a, w, s, nl, fd, d, u, nb, hT, hD, hL, hP, hX, hC, hAc, hS, hK⟩ := h
  obtain ⟨x, y, e1, e2, e3, hS', g1, g2⟩ := c_row hS v1 v2 v3
  have fA := fr_f119_row v1 v2 v3 A JA _ e1
  have fB := fr_f212_row v1 v2 v3 B JB _ e2
  exact ⟨x, y, e1, e2, e3, ⟨a, w, s, nl, fd, d, u, nb, yTown_ag (yag_fr rfl fA) (yag_fr rfl fB) hT, yMDF_ag (yag_fr rfl fA) hD, yLaws_ag (yag_fr rfl fA) (yag_fr rfl fB) hL, yTape_ag (yag_fr rfl fA) (yag_fr rfl fB) hP, yX_ag (yag_fr rfl fA) (yag_fr rfl fB) hX, yChg_ag (yag_fr rfl fA) (yag_fr rfl fB) hC, yActs_ag (yag_fr rfl fA) (yag_fr rfl fB) hAc, hS', yKept_ag (yag_fr rfl fA) (yag_fr rfl fB) hK⟩, g1, g2⟩
theorem l_put {I : yI} {J : yJ} (h : yWhl I I J J) (v1 v2 : Int32) (v3 : Int64) : ∃ x y, f120_put v1 v2 v3 I J = some x ∧ f214_put v1 v2 v3 I x.2 = some y ∧ x.1 = y.1 ∧ yWhl I I y.2 y.2 := by
  refine selfJ (F := f120_put v1 v2 v3) (G := f214_put v1 v2 v3) h (fun A B JA JB h => ?_)
  obtain ⟨a, w, s, nl, fd, d, u, nb, hT, hD, hL, hP, hX, hC, hAc, hS, hK⟩ := h
  obtain ⟨x, y, e1, e2, e3, hS', g1, g2⟩ := c_put hAc.1.1 hS v1 v2 v3
  exact ⟨x, y, e1, e2, e3, ⟨a, w, s, nl, fd, d, u, nb, hT, hD, hL, hP, hX, hC, hAc, hS', hK⟩, g1, g2⟩
theorem l_shift {I : yI} {J : yJ} (h : yWhl I I J J) (v1 v2 v3 v4 v5 : Int32) : ∃ x y, f123_shift v1 v2 v3 v4 v5 I J = some x ∧ f216_shift v1 v2 v3 v4 v5 I x.2 = some y ∧ x.1 = y.1 ∧ yWhl I I y.2 y.2 := by
  refine selfJ (F := f123_shift v1 v2 v3 v4 v5) (G := f216_shift v1 v2 v3 v4 v5) h (fun A B JA JB h => ?_)
  obtain ⟨a, w, s, nl, fd, d, u, nb, hT, hD, hL, hP, hX, hC, hAc, hS, hK⟩ := h
  obtain ⟨x, y, e1, e2, e3, hS', g1, g2⟩ := c_shift hAc.1.1 hS v1 v2 v3 v4 v5
  exact ⟨x, y, e1, e2, e3, ⟨a, w, s, nl, fd, d, u, nb, hT, hD, hL, hP, hX, hC, hAc, hS', hK⟩, g1, g2⟩
