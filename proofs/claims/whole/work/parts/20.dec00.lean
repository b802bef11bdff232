theorem zbRe {ρ σ τ : Type} {o : Option (ρ ⊕ σ)} {f : ρ → Option τ} {k : σ → Option τ} {t : τ} (h : zbR o f k = some t) : ∃ y, o = some y ∧ ((∃ x, y = .inl x ∧ f x = some t) ∨ (∃ s, y = .inr s ∧ k s = some t)) := by
  cases o with
  | none => cases h
  | some y =>
    cases y with
    | inl x => exact ⟨_, rfl, Or.inl ⟨x, rfl, h⟩⟩
    | inr s => exact ⟨_, rfl, Or.inr ⟨s, rfl, h⟩⟩
theorem zbind {α β : Type} {o : Option α} {k : α → Option β} {t : β} (h : Option.bind o k = some t) : ∃ x, o = some x ∧ k x = some t := by
  cases o with
  | none => cases h
  | some x => exact ⟨x, rfl, h⟩
theorem zifo {β : Type} {c : Prop} {i : Decidable c} {E : Option β} {t : β} (h : (@ite _ c i E none) = some t) : c ∧ E = some t := by
  by_cases g : c
  · rw [if_pos g] at h; exact ⟨g, h⟩
  · rw [if_neg g] at h; cases h
set_option maxRecDepth 100000 in
set_option maxHeartbeats 4000000 in
theorem ok_f126_within {X : zX} {d : Nat} (hd : 0 ≤ d) (v0 : Int32) (v1 : Int32) (v2 : Int32) {I : (Nat → Nat → Int32)} {J : (Nat → Nat → Int64)} (t : Int32) (h : f126_within v0 v1 v2 = some t) : zRun X d 126 0 (zent 126 [.int v0, .int v1, .int v2]) [] (SH, I, J) (some (.int t)) (SH, I, J) := by
  unfold f126_within at h
  refine zr_steps 2 (2, [some (.int v0), some (.int v1), some (.int v2)], [.int v1, .int v0], (SH, I, J)) rfl ?_
  refine zr_one (if v0 < v1 then zN 14 [some (.int v0), some (.int v1), some (.int v2)] [] (SH, I, J) else zN 5 [some (.int v0), some (.int v1), some (.int v2)] [] (SH, I, J)) rfl (zR_if (fun hc2 => zR_go ?_) (fun hc2 => zR_go ?_))
  · rw [if_pos hc2] at h
    refine zr_steps 1 (15, [some (.int v0), some (.int v1), some (.int v2)], [.int 0], (SH, I, J)) rfl ?_
    have he := Option.some.inj h
    subst he
    exact zr_one (if ((0 : Int32) = 0 ∨ (0 : Int32) = 1) then some (.inr (.inr (some (.int 0)))) else none) rfl (zR_pos (by decide) (zR_ret rfl rfl))
  · rw [if_neg hc2] at h
    refine zr_steps 2 (7, [some (.int v0), some (.int v1), some (.int v2)], [.int v2, .int v0], (SH, I, J)) rfl ?_
    refine zr_one (if v2 < v0 then zN 14 [some (.int v0), some (.int v1), some (.int v2)] [] (SH, I, J) else zN 10 [some (.int v0), some (.int v1), some (.int v2)] [] (SH, I, J)) rfl (zR_if (fun hc1 => zR_go ?_) (fun hc1 => zR_go ?_))
    · rw [if_pos hc1] at h
      refine zr_steps 1 (15, [some (.int v0), some (.int v1), some (.int v2)], [.int 0], (SH, I, J)) rfl ?_
      have he := Option.some.inj h
      subst he
      exact zr_one (if ((0 : Int32) = 0 ∨ (0 : Int32) = 1) then some (.inr (.inr (some (.int 0)))) else none) rfl (zR_pos (by decide) (zR_ret rfl rfl))
    · rw [if_neg hc1] at h
      refine zr_steps 2 (15, [some (.int v0), some (.int v1), some (.int v2)], [.int 1], (SH, I, J)) rfl ?_
      have he := Option.some.inj h
      subst he
      exact zr_one (if ((1 : Int32) = 0 ∨ (1 : Int32) = 1) then some (.inr (.inr (some (.int 1)))) else none) rfl (zR_pos (by decide) (zR_ret rfl rfl))
set_option maxRecDepth 100000 in
set_option maxHeartbeats 4000000 in
theorem ok_f64_addSquare {X : zX} {d : Nat} (hd : 0 ≤ d) (v1 : Int32) (v2 : Int32) {I : (Nat → Nat → Int32)} {J : (Nat → Nat → Int64)} (t : (Int32 × (Nat → Nat → Int32))) (h : f64_addSquare v1 v2 I = some t) : zRun X d 64 0 (zent 64 [.ref 1, .int v1, .int v2]) [] (SH, I, J) (some (.int t.1)) (SH, t.2, J) := by
  unfold f64_addSquare at h
  refine zr_steps 3 (5, [some (.ref 1), some (.int v1), some (.int v2)], [.int 4, .int (I 1 0)], (SH, I, J)) rfl ?_
  refine zr_one (if (I 1 0) = 4 then zN 8 [some (.ref 1), some (.int v1), some (.int v2)] [] (SH, I, J) else zN 11 [some (.ref 1), some (.int v1), some (.int v2)] [] (SH, I, J)) rfl (zR_if (fun hc3 => zR_go ?_) (fun hc3 => zR_go ?_))
  · rw [if_pos hc3] at h
    refine zr_steps 1 (10, [some (.ref 1), some (.int v1), some (.int v2)], [.int (-3)], (SH, I, J)) rfl ?_
    have he := Option.some.inj h
    subst he
    exact zr_one (some (.inr (.inr (some (.int (-3)))))) rfl (zR_ret rfl rfl)
  · rw [if_neg hc3] at h
    refine zr_steps 5 (20, [some (.ref 1), some (.int v1), some (.int v2)], [.int v1, .int (I 1 0), .ref 2], (SH, I, J)) rfl ?_
    obtain ⟨hc1, h⟩ := zbifo h
    refine zr_one (bif zin (I 1 0) 4 then zN 21 [some (.ref 1), some (.int v1), some (.int v2)] [] (SH, (zu I 2 (I 1 0).toNatClampNeg v1), J) else none) rfl (zR_bif hc1 (zR_go ?_))
    refine zr_steps 5 (30, [some (.ref 1), some (.int v1), some (.int v2)], [.int v2, .int (I 1 0), .ref 3], (SH, (zu I 2 (I 1 0).toNatClampNeg v1), J)) rfl ?_
    obtain ⟨hc2, h⟩ := zbifo h
    refine zr_one (bif zin (I 1 0) 4 then zN 31 [some (.ref 1), some (.int v1), some (.int v2)] [] (SH, (zu (zu I 2 (I 1 0).toNatClampNeg v1) 3 (I 1 0).toNatClampNeg v2), J) else none) rfl (zR_bif hc2 (zR_go ?_))
    refine zr_steps 10 (47, [some (.ref 1), some (.int v1), some (.int v2)], [.int (((I 1 0) + 1) - 1)], (SH, (zu (zu (zu I 2 (I 1 0).toNatClampNeg v1) 3 (I 1 0).toNatClampNeg v2) 1 0 ((I 1 0) + 1)), J)) rfl ?_
    have he := Option.some.inj h
    subst he
    exact zr_one (some (.inr (.inr (some (.int (((I 1 0) + 1) - 1)))))) rfl (zR_ret rfl rfl)
set_option maxRecDepth 100000 in
set_option maxHeartbeats 4000000 in
theorem ok_f86_square {X : zX} {d : Nat} (hd : 1 ≤ d) (v1 : Int32) (v2 : Int32) {I : (Nat → Nat → Int32)} {J : (Nat → Nat → Int64)} (t : (Int32 × (Nat → Nat → Int32))) (h : f86_square v1 v2 I = some t) : zRun X d 86 0 (zent 86 [.ref 0, .int v1, .int v2]) [] (SH, I, J) (some (.int t.1)) (SH, t.2, J) := by
  unfold f86_square at h
  refine zr_steps 3 (5, [some (.ref 0), some (.int v1), some (.int v2)], [.int 999, .int 0, .int v1], (SH, I, J)) rfl ?_
  obtain ⟨t2, hc1, h⟩ := zbind h
  refine zr_one (some (.inr (.inl (126, [.int v1, .int 0, .int 999], [], 8)))) rfl (zR_call (by omega) rfl (ok_f126_within (by omega) v1 0 999 _ hc1) ?_)
  refine zr_one (if t2 = 0 then zN 20 [some (.ref 0), some (.int v1), some (.int v2)] [] (SH, I, J) else zN 11 [some (.ref 0), some (.int v1), some (.int v2)] [] (SH, I, J)) rfl (zR_if (fun hc8 => zR_go ?_) (fun hc8 => zR_go ?_))
  · rw [if_pos hc8] at h
    refine zr_steps 1 (21, [some (.ref 0), some (.int v1), some (.int v2)], [.int (-1)], (SH, I, J)) rfl ?_
    have he := Option.some.inj h
    subst he
    exact zr_one (some (.inr (.inr (some (.int (-1)))))) rfl (zR_ret rfl rfl)
  · rw [if_neg hc8] at h
    refine zr_steps 3 (14, [some (.ref 0), some (.int v1), some (.int v2)], [.int 2, .int 0, .int v2], (SH, I, J)) rfl ?_
    obtain ⟨t4, hc3, h⟩ := zbind h
    refine zr_one (some (.inr (.inl (126, [.int v2, .int 0, .int 2], [], 17)))) rfl (zR_call (by omega) rfl (ok_f126_within (by omega) v2 0 2 _ hc3) ?_)
    refine zr_one (if t4 = 0 then zN 20 [some (.ref 0), some (.int v1), some (.int v2)] [] (SH, I, J) else zN 22 [some (.ref 0), some (.int v1), some (.int v2)] [] (SH, I, J)) rfl (zR_if (fun hc7 => zR_go ?_) (fun hc7 => zR_go ?_))
    · rw [if_pos hc7] at h
      refine zr_steps 1 (21, [some (.ref 0), some (.int v1), some (.int v2)], [.int (-1)], (SH, I, J)) rfl ?_
      have he := Option.some.inj h
      subst he
      exact zr_one (some (.inr (.inr (some (.int (-1)))))) rfl (zR_ret rfl rfl)
    · rw [if_neg hc7] at h
      refine zr_steps 4 (28, [some (.ref 0), some (.int v1), some (.int v2)], [.int v2, .int v1, .ref 1], (SH, I, J)) rfl ?_
      obtain ⟨t6, hc5, h⟩ := zbind h
      refine zr_one (some (.inr (.inl (64, [.ref 1, .int v1, .int v2], [], 31)))) rfl (zR_call (by omega) rfl (ok_f64_addSquare (by omega) v1 v2 _ hc5) ?_)
      have he := Option.some.inj h
      subst he
      exact zr_one (some (.inr (.inr (some (.int t6.1))))) rfl (zR_ret rfl rfl)
set_option maxRecDepth 100000 in
set_option maxHeartbeats 4000000 in
theorem ok_f129_in {X : zX} {d : Nat} (hd : 0 ≤ d) (v0 : Int32) (v1 : Int32) (v2 : Int32) {I : (Nat → Nat → Int32)} {J : (Nat → Nat → Int64)} (t : Int32) (h : f129_in v0 v1 v2 = some t) : zRun X d 129 0 (zent 129 [.int v0, .int v1, .int v2]) [] (SH, I, J) (some (.int t)) (SH, I, J) := by
  unfold f129_in at h
  refine zr_steps 2 (2, [some (.int v0), some (.int v1), some (.int v2)], [.int v1, .int v0], (SH, I, J)) rfl ?_
  refine zr_one (if v0 < v1 then zN 14 [some (.int v0), some (.int v1), some (.int v2)] [] (SH, I, J) else zN 5 [some (.int v0), some (.int v1), some (.int v2)] [] (SH, I, J)) rfl (zR_if (fun hc2 => zR_go ?_) (fun hc2 => zR_go ?_))
  · rw [if_pos hc2] at h
    refine zr_steps 1 (15, [some (.int v0), some (.int v1), some (.int v2)], [.int 0], (SH, I, J)) rfl ?_
    have he := Option.some.inj h
    subst he
    exact zr_one (if ((0 : Int32) = 0 ∨ (0 : Int32) = 1) then some (.inr (.inr (some (.int 0)))) else none) rfl (zR_pos (by decide) (zR_ret rfl rfl))
  · rw [if_neg hc2] at h
    refine zr_steps 2 (7, [some (.int v0), some (.int v1), some (.int v2)], [.int v2, .int v0], (SH, I, J)) rfl ?_
    refine zr_one (if v2 < v0 then zN 14 [some (.int v0), some (.int v1), some (.int v2)] [] (SH, I, J) else zN 10 [some (.int v0), some (.int v1), some (.int v2)] [] (SH, I, J)) rfl (zR_if (fun hc1 => zR_go ?_) (fun hc1 => zR_go ?_))
    · rw [if_pos hc1] at h
      refine zr_steps 1 (15, [some (.int v0), some (.int v1), some (.int v2)], [.int 0], (SH, I, J)) rfl ?_
      have he := Option.some.inj h
      subst he
      exact zr_one (if ((0 : Int32) = 0 ∨ (0 : Int32) = 1) then some (.inr (.inr (some (.int 0)))) else none) rfl (zR_pos (by decide) (zR_ret rfl rfl))
    · rw [if_neg hc1] at h
      refine zr_steps 2 (15, [some (.int v0), some (.int v1), some (.int v2)], [.int 1], (SH, I, J)) rfl ?_
      have he := Option.some.inj h
      subst he
      exact zr_one (if ((1 : Int32) = 0 ∨ (1 : Int32) = 1) then some (.inr (.inr (some (.int 1)))) else none) rfl (zR_pos (by decide) (zR_ret rfl rfl))
set_option maxRecDepth 100000 in
set_option maxHeartbeats 4000000 in
theorem ok_f132_square {X : zX} {d : Nat} (hd : 1 ≤ d) (v1 : Int32) (v2 : Int32) {I : (Nat → Nat → Int32)} {J : (Nat → Nat → Int64)} (t : (Int32 × (Nat → Nat → Int32))) (h : f132_square v1 v2 I = some t) : zRun X d 132 0 (zent 132 [.ref 73, .int v1, .int v2]) [] (SH, I, J) (some (.int t.1)) (SH, t.2, J) := by
  unfold f132_square at h
  refine zr_steps 3 (5, [some (.ref 73), some (.int v1), some (.int v2)], [.int 999, .int 0, .int v1], (SH, I, J)) rfl ?_
  obtain ⟨t2, hc1, h⟩ := zbind h
  refine zr_one (some (.inr (.inl (129, [.int v1, .int 0, .int 999], [], 8)))) rfl (zR_call (by omega) rfl (ok_f129_in (by omega) v1 0 999 _ hc1) ?_)
  refine zr_one (if t2 = 0 then zN 20 [some (.ref 73), some (.int v1), some (.int v2)] [] (SH, I, J) else zN 11 [some (.ref 73), some (.int v1), some (.int v2)] [] (SH, I, J)) rfl (zR_if (fun hc9 => zR_go ?_) (fun hc9 => zR_go ?_))
  · rw [if_pos hc9] at h
    refine zr_steps 1 (21, [some (.ref 73), some (.int v1), some (.int v2)], [.int (-1)], (SH, I, J)) rfl ?_
    have he := Option.some.inj h
    subst he
    exact zr_one (some (.inr (.inr (some (.int (-1)))))) rfl (zR_ret rfl rfl)
  · rw [if_neg hc9] at h
    refine zr_steps 3 (14, [some (.ref 73), some (.int v1), some (.int v2)], [.int 2, .int 0, .int v2], (SH, I, J)) rfl ?_
    obtain ⟨t4, hc3, h⟩ := zbind h
    refine zr_one (some (.inr (.inl (129, [.int v2, .int 0, .int 2], [], 17)))) rfl (zR_call (by omega) rfl (ok_f129_in (by omega) v2 0 2 _ hc3) ?_)
    refine zr_one (if t4 = 0 then zN 20 [some (.ref 73), some (.int v1), some (.int v2)] [] (SH, I, J) else zN 22 [some (.ref 73), some (.int v1), some (.int v2)] [] (SH, I, J)) rfl (zR_if (fun hc8 => zR_go ?_) (fun hc8 => zR_go ?_))
    · rw [if_pos hc8] at h
      refine zr_steps 1 (21, [some (.ref 73), some (.int v1), some (.int v2)], [.int (-1)], (SH, I, J)) rfl ?_
      have he := Option.some.inj h
      subst he
      exact zr_one (some (.inr (.inr (some (.int (-1)))))) rfl (zR_ret rfl rfl)
    · rw [if_neg hc8] at h
      refine zr_steps 3 (27, [some (.ref 73), some (.int v1), some (.int v2)], [.int 4, .int (I 73 1)], (SH, I, J)) rfl ?_
      refine zr_one (if (I 73 1) = 4 then zN 30 [some (.ref 73), some (.int v1), some (.int v2)] [] (SH, I, J) else zN 33 [some (.ref 73), some (.int v1), some (.int v2)] [] (SH, I, J)) rfl (zR_if (fun hc7 => zR_go ?_) (fun hc7 => zR_go ?_))
      · rw [if_pos hc7] at h
        refine zr_steps 1 (32, [some (.ref 73), some (.int v1), some (.int v2)], [.int (-3)], (SH, I, J)) rfl ?_
        have he := Option.some.inj h
        subst he
        exact zr_one (some (.inr (.inr (some (.int (-3)))))) rfl (zR_ret rfl rfl)
      · rw [if_neg hc7] at h
        refine zr_steps 5 (42, [some (.ref 73), some (.int v1), some (.int v2)], [.int v1, .int (I 73 1), .ref 74], (SH, I, J)) rfl ?_
        obtain ⟨hc5, h⟩ := zbifo h
        refine zr_one (bif zin (I 73 1) 4 then zN 43 [some (.ref 73), some (.int v1), some (.int v2)] [] (SH, (zu I 74 (I 73 1).toNatClampNeg v1), J) else none) rfl (zR_bif hc5 (zR_go ?_))
        refine zr_steps 5 (52, [some (.ref 73), some (.int v1), some (.int v2)], [.int v2, .int (I 73 1), .ref 75], (SH, (zu I 74 (I 73 1).toNatClampNeg v1), J)) rfl ?_
        obtain ⟨hc6, h⟩ := zbifo h
        refine zr_one (bif zin (I 73 1) 4 then zN 53 [some (.ref 73), some (.int v1), some (.int v2)] [] (SH, (zu (zu I 74 (I 73 1).toNatClampNeg v1) 75 (I 73 1).toNatClampNeg v2), J) else none) rfl (zR_bif hc6 (zR_go ?_))
        refine zr_steps 10 (69, [some (.ref 73), some (.int v1), some (.int v2)], [.int (((I 73 1) + 1) - 1)], (SH, (zu (zu (zu I 74 (I 73 1).toNatClampNeg v1) 75 (I 73 1).toNatClampNeg v2) 73 1 ((I 73 1) + 1)), J)) rfl ?_
        have he := Option.some.inj h
        subst he
        exact zr_one (some (.inr (.inr (some (.int (((I 73 1) + 1) - 1)))))) rfl (zR_ret rfl rfl)
set_option maxRecDepth 100000 in
set_option maxHeartbeats 4000000 in
theorem ok_f61_isSquare {X : zX} {d : Nat} (hd : 0 ≤ d) (v1 : Int32) {I : (Nat → Nat → Int32)} {J : (Nat → Nat → Int64)} (t : Int32) (h : f61_isSquare v1 I = some t) : zRun X d 61 0 (zent 61 [.ref 1, .int v1]) [] (SH, I, J) (some (.int t)) (SH, I, J) := by
  unfold f61_isSquare at h
  refine zr_steps 1 (1, [some (.ref 1), some (.int v1)], [.int v1], (SH, I, J)) rfl ?_
  refine zr_one (if v1 < 0 then zN 16 [some (.ref 1), some (.int v1)] [] (SH, I, J) else zN 4 [some (.ref 1), some (.int v1)] [] (SH, I, J)) rfl (zR_if (fun hc2 => zR_go ?_) (fun hc2 => zR_go ?_))
  · rw [if_pos hc2] at h
    refine zr_steps 1 (17, [some (.ref 1), some (.int v1)], [.int 0], (SH, I, J)) rfl ?_
    have he := Option.some.inj h
    subst he
    exact zr_one (if ((0 : Int32) = 0 ∨ (0 : Int32) = 1) then some (.inr (.inr (some (.int 0)))) else none) rfl (zR_pos (by decide) (zR_ret rfl rfl))
  · rw [if_neg hc2] at h
    refine zr_steps 3 (9, [some (.ref 1), some (.int v1)], [.int (I 1 0), .int v1], (SH, I, J)) rfl ?_
    refine zr_one (if (I 1 0) ≤ v1 then zN 16 [some (.ref 1), some (.int v1)] [] (SH, I, J) else zN 12 [some (.ref 1), some (.int v1)] [] (SH, I, J)) rfl (zR_if (fun hc1 => zR_go ?_) (fun hc1 => zR_go ?_))
    · rw [if_pos hc1] at h
      refine zr_steps 1 (17, [some (.ref 1), some (.int v1)], [.int 0], (SH, I, J)) rfl ?_
      have he := Option.some.inj h
      subst he
      exact zr_one (if ((0 : Int32) = 0 ∨ (0 : Int32) = 1) then some (.inr (.inr (some (.int 0)))) else none) rfl (zR_pos (by decide) (zR_ret rfl rfl))
    · rw [if_neg hc1] at h
      refine zr_steps 2 (17, [some (.ref 1), some (.int v1)], [.int 1], (SH, I, J)) rfl ?_
      have he := Option.some.inj h
      subst he
      exact zr_one (if ((1 : Int32) = 0 ∨ (1 : Int32) = 1) then some (.inr (.inr (some (.int 1)))) else none) rfl (zR_pos (by decide) (zR_ret rfl rfl))
set_option maxRecDepth 100000 in
set_option maxHeartbeats 4000000 in
theorem ok_f63_areTwoSquares {X : zX} {d : Nat} (hd : 1 ≤ d) (v1 : Int32) {I : (Nat → Nat → Int32)} {J : (Nat → Nat → Int64)} (t : Int32) (h : f63_areTwoSquares v1 I = some t) : zRun X d 63 0 (zent 63 [.ref 1, .int v1]) [] (SH, I, J) (some (.int t)) (SH, I, J) := by
  unfold f63_areTwoSquares at h
  refine zr_steps 1 (1, [some (.ref 1), some (.int v1)], [.int v1], (SH, I, J)) rfl ?_
  refine zr_one (if v1 < 0 then zN 41 [some (.ref 1), some (.int v1)] [] (SH, I, J) else zN 4 [some (.ref 1), some (.int v1)] [] (SH, I, J)) rfl (zR_if (fun hc8 => zR_go ?_) (fun hc8 => zR_go ?_))
  · rw [if_pos hc8] at h
    refine zr_steps 1 (42, [some (.ref 1), some (.int v1)], [.int 0], (SH, I, J)) rfl ?_
    have he := Option.some.inj h
    subst he
    exact zr_one (if ((0 : Int32) = 0 ∨ (0 : Int32) = 1) then some (.inr (.inr (some (.int 0)))) else none) rfl (zR_pos (by decide) (zR_ret rfl rfl))
  · rw [if_neg hc8] at h
    refine zr_steps 3 (8, [some (.ref 1), some (.int v1)], [.int 10, .int v1, .ref 1], (SH, I, J)) rfl ?_
    refine zr_one (if (10 : Int32) = 0 then none else zN 9 [some (.ref 1), some (.int v1)] [.int (v1 / 10), .ref 1] (SH, I, J)) rfl (zR_div (by decide) (zR_go ?_))
    obtain ⟨t2, hc1, h⟩ := zbind h
    refine zr_one (some (.inr (.inl (61, [.ref 1, .int (v1 / 10)], [], 12)))) rfl (zR_call (by omega) rfl (ok_f61_isSquare (by omega) (v1 / 10) _ hc1) ?_)
    refine zr_one (if t2 = 0 then zN 41 [some (.ref 1), some (.int v1)] [] (SH, I, J) else zN 15 [some (.ref 1), some (.int v1)] [] (SH, I, J)) rfl (zR_if (fun hc7 => zR_go ?_) (fun hc7 => zR_go ?_))
    · rw [if_pos hc7] at h
      refine zr_steps 1 (42, [some (.ref 1), some (.int v1)], [.int 0], (SH, I, J)) rfl ?_
      have he := Option.some.inj h
      subst he
      exact zr_one (if ((0 : Int32) = 0 ∨ (0 : Int32) = 1) then some (.inr (.inr (some (.int 0)))) else none) rfl (zR_pos (by decide) (zR_ret rfl rfl))
    · rw [if_neg hc7] at h
      refine zr_steps 3 (19, [some (.ref 1), some (.int v1)], [.int 10, .int v1, .ref 1], (SH, I, J)) rfl ?_
      refine zr_one (if (10 : Int32) = 0 then none else zN 20 [some (.ref 1), some (.int v1)] [.int (v1 - v1 / 10 * 10), .ref 1] (SH, I, J)) rfl (zR_div (by decide) (zR_go ?_))
      obtain ⟨t4, hc3, h⟩ := zbind h
      refine zr_one (some (.inr (.inl (61, [.ref 1, .int (v1 - v1 / 10 * 10)], [], 23)))) rfl (zR_call (by omega) rfl (ok_f61_isSquare (by omega) (v1 - v1 / 10 * 10) _ hc3) ?_)
      refine zr_one (if t4 = 0 then zN 41 [some (.ref 1), some (.int v1)] [] (SH, I, J) else zN 26 [some (.ref 1), some (.int v1)] [] (SH, I, J)) rfl (zR_if (fun hc6 => zR_go ?_) (fun hc6 => zR_go ?_))
      · rw [if_pos hc6] at h
        refine zr_steps 1 (42, [some (.ref 1), some (.int v1)], [.int 0], (SH, I, J)) rfl ?_
        have he := Option.some.inj h
        subst he
        exact zr_one (if ((0 : Int32) = 0 ∨ (0 : Int32) = 1) then some (.inr (.inr (some (.int 0)))) else none) rfl (zR_pos (by decide) (zR_ret rfl rfl))
      · rw [if_neg hc6] at h
        refine zr_steps 2 (29, [some (.ref 1), some (.int v1)], [.int 10, .int v1], (SH, I, J)) rfl ?_
        refine zr_one (if (10 : Int32) = 0 then none else zN 30 [some (.ref 1), some (.int v1)] [.int (v1 / 10)] (SH, I, J)) rfl (zR_div (by decide) (zR_go ?_))
        refine zr_steps 2 (33, [some (.ref 1), some (.int v1)], [.int 10, .int v1, .int (v1 / 10)], (SH, I, J)) rfl ?_
        refine zr_one (if (10 : Int32) = 0 then none else zN 34 [some (.ref 1), some (.int v1)] [.int (v1 - v1 / 10 * 10), .int (v1 / 10)] (SH, I, J)) rfl (zR_div (by decide) (zR_go ?_))
        refine zr_one (if (v1 / 10) = (v1 - v1 / 10 * 10) then zN 41 [some (.ref 1), some (.int v1)] [] (SH, I, J) else zN 37 [some (.ref 1), some (.int v1)] [] (SH, I, J)) rfl (zR_if (fun hc5 => zR_go ?_) (fun hc5 => zR_go ?_))
        · rw [if_pos hc5] at h
          refine zr_steps 1 (42, [some (.ref 1), some (.int v1)], [.int 0], (SH, I, J)) rfl ?_
          have he := Option.some.inj h
          subst he
          exact zr_one (if ((0 : Int32) = 0 ∨ (0 : Int32) = 1) then some (.inr (.inr (some (.int 0)))) else none) rfl (zR_pos (by decide) (zR_ret rfl rfl))
        · rw [if_neg hc5] at h
          refine zr_steps 2 (42, [some (.ref 1), some (.int v1)], [.int 1], (SH, I, J)) rfl ?_
          have he := Option.some.inj h
          subst he
          exact zr_one (if ((1 : Int32) = 0 ∨ (1 : Int32) = 1) then some (.inr (.inr (some (.int 1)))) else none) rfl (zR_pos (by decide) (zR_ret rfl rfl))
set_option maxRecDepth 100000 in
set_option maxHeartbeats 4000000 in
theorem ok_f66_lay {X : zX} {d : Nat} (hd : 0 ≤ d) (v1 : Int32) (v2 : Int32) {I : (Nat → Nat → Int32)} {J : (Nat → Nat → Int64)} (t : (Nat → Nat → Int32)) (h : f66_lay v1 v2 I = some t) : zRun X d 66 0 (zent 66 [.ref 1, .int v1, .int v2]) [] (SH, I, J) none (SH, t, J) := by
  unfold f66_lay at h
  refine zr_steps 9 (11, [some (.ref 1), some (.int v1), some (.int v2), some (.int ((v1 * 4) + v2))], [.int ((v1 * 4) + v2), .ref 13], (SH, I, J)) rfl ?_
  obtain ⟨hc1, h⟩ := zbifo h
  refine zr_one (bif zin ((v1 * 4) + v2) 16 then zN 12 [some (.ref 1), some (.int v1), some (.int v2), some (.int ((v1 * 4) + v2))] [.int (I 13 ((v1 * 4) + v2).toNatClampNeg)] (SH, I, J) else none) rfl (zR_bif hc1 (zR_go ?_))
  refine zr_one (if (I 13 ((v1 * 4) + v2).toNatClampNeg) < 0 then zN 38 [some (.ref 1), some (.int v1), some (.int v2), some (.int ((v1 * 4) + v2))] [] (SH, I, J) else zN 15 [some (.ref 1), some (.int v1), some (.int v2), some (.int ((v1 * 4) + v2))] [] (SH, I, J)) rfl (zR_if (fun hc17 => zR_go ?_) (fun hc17 => zR_go ?_))
  · rw [if_pos hc17] at h
    refine zr_steps 5 (47, [some (.ref 1), some (.int v1), some (.int v2), some (.int ((v1 * 4) + v2))], [.int (I 1 1), .int ((v1 * 4) + v2), .ref 13], (SH, I, J)) rfl ?_
    obtain ⟨hc2, h⟩ := zbifo h
    refine zr_one (bif zin ((v1 * 4) + v2) 16 then zN 48 [some (.ref 1), some (.int v1), some (.int v2), some (.int ((v1 * 4) + v2))] [] (SH, (zu I 13 ((v1 * 4) + v2).toNatClampNeg (I 1 1)), J) else none) rfl (zR_bif hc2 (zR_go ?_))
    refine zr_steps 6 (58, [some (.ref 1), some (.int v1), some (.int v2), some (.int ((v1 * 4) + v2))], [.int ((v1 * 4) + v2), .ref 14, .int ((v1 * 4) + v2), .ref 14], (SH, (zu I 13 ((v1 * 4) + v2).toNatClampNeg (I 1 1)), J)) rfl ?_
    obtain ⟨hc3, h⟩ := zbifo h
    refine zr_one (bif zin ((v1 * 4) + v2) 16 then zN 59 [some (.ref 1), some (.int v1), some (.int v2), some (.int ((v1 * 4) + v2))] [.int (I 14 ((v1 * 4) + v2).toNatClampNeg), .int ((v1 * 4) + v2), .ref 14] (SH, (zu I 13 ((v1 * 4) + v2).toNatClampNeg (I 1 1)), J) else none) rfl (zR_bif hc3 (zR_go ?_))
    refine zr_steps 4 (67, [some (.ref 1), some (.int v1), some (.int v2), some (.int ((v1 * 4) + v2))], [.int (I 1 1), .ref 6, .int (I 14 ((v1 * 4) + v2).toNatClampNeg), .int ((v1 * 4) + v2), .ref 14], (SH, (zu I 13 ((v1 * 4) + v2).toNatClampNeg (I 1 1)), J)) rfl ?_
    obtain ⟨hc4, h⟩ := zbifo h
    refine zr_one (bif zin (I 1 1) 12 then zN 68 [some (.ref 1), some (.int v1), some (.int v2), some (.int ((v1 * 4) + v2))] [.int (I 6 (I 1 1).toNatClampNeg), .int (I 14 ((v1 * 4) + v2).toNatClampNeg), .int ((v1 * 4) + v2), .ref 14] (SH, (zu I 13 ((v1 * 4) + v2).toNatClampNeg (I 1 1)), J) else none) rfl (zR_bif hc4 (zR_go ?_))
    refine zr_steps 1 (71, [some (.ref 1), some (.int v1), some (.int v2), some (.int ((v1 * 4) + v2))], [.int (zmin (I 14 ((v1 * 4) + v2).toNatClampNeg) (I 6 (I 1 1).toNatClampNeg)), .int ((v1 * 4) + v2), .ref 14], (SH, (zu I 13 ((v1 * 4) + v2).toNatClampNeg (I 1 1)), J)) rfl ?_
    obtain ⟨hc5, h⟩ := zbifo h
    refine zr_one (bif zin ((v1 * 4) + v2) 16 then zN 72 [some (.ref 1), some (.int v1), some (.int v2), some (.int ((v1 * 4) + v2))] [] (SH, (zu (zu I 13 ((v1 * 4) + v2).toNatClampNeg (I 1 1)) 14 ((v1 * 4) + v2).toNatClampNeg (zmin (I 14 ((v1 * 4) + v2).toNatClampNeg) (I 6 (I 1 1).toNatClampNeg))), J) else none) rfl (zR_bif hc5 (zR_go ?_))
    have he := Option.some.inj h
    subst he
    exact zr_one (some (.inr (.inr none))) rfl (zR_ret rfl rfl)
  · rw [if_neg hc17] at h
    refine zr_steps 4 (23, [some (.ref 1), some (.int v1), some (.int v2), some (.int ((v1 * 4) + v2))], [.int (I 1 1), .ref 6], (SH, I, J)) rfl ?_
    obtain ⟨hc6, h⟩ := zbifo h
    refine zr_one (bif zin (I 1 1) 12 then zN 24 [some (.ref 1), some (.int v1), some (.int v2), some (.int ((v1 * 4) + v2))] [.int (I 6 (I 1 1).toNatClampNeg)] (SH, I, J) else none) rfl (zR_bif hc6 (zR_go ?_))
    refine zr_steps 5 (33, [some (.ref 1), some (.int v1), some (.int v2), some (.int ((v1 * 4) + v2))], [.int ((v1 * 4) + v2), .ref 13, .ref 6, .int (I 6 (I 1 1).toNatClampNeg)], (SH, I, J)) rfl ?_
    obtain ⟨hc7, h⟩ := zbifo h
    refine zr_one (bif zin ((v1 * 4) + v2) 16 then zN 34 [some (.ref 1), some (.int v1), some (.int v2), some (.int ((v1 * 4) + v2))] [.int (I 13 ((v1 * 4) + v2).toNatClampNeg), .ref 6, .int (I 6 (I 1 1).toNatClampNeg)] (SH, I, J) else none) rfl (zR_bif hc7 (zR_go ?_))
    obtain ⟨hc8, h⟩ := zbifo h
    refine zr_one (bif zin (I 13 ((v1 * 4) + v2).toNatClampNeg) 12 then zN 35 [some (.ref 1), some (.int v1), some (.int v2), some (.int ((v1 * 4) + v2))] [.int (I 6 (I 13 ((v1 * 4) + v2).toNatClampNeg).toNatClampNeg), .int (I 6 (I 1 1).toNatClampNeg)] (SH, I, J) else none) rfl (zR_bif hc8 (zR_go ?_))
    refine zr_one (if (I 6 (I 13 ((v1 * 4) + v2).toNatClampNeg).toNatClampNeg) ≤ (I 6 (I 1 1).toNatClampNeg) then zN 48 [some (.ref 1), some (.int v1), some (.int v2), some (.int ((v1 * 4) + v2))] [] (SH, I, J) else zN 38 [some (.ref 1), some (.int v1), some (.int v2), some (.int ((v1 * 4) + v2))] [] (SH, I, J)) rfl (zR_if (fun hc16 => zR_go ?_) (fun hc16 => zR_go ?_))
    · rw [if_pos hc16] at h
      refine zr_steps 6 (58, [some (.ref 1), some (.int v1), some (.int v2), some (.int ((v1 * 4) + v2))], [.int ((v1 * 4) + v2), .ref 14, .int ((v1 * 4) + v2), .ref 14], (SH, I, J)) rfl ?_
      obtain ⟨hc9, h⟩ := zbifo h
      refine zr_one (bif zin ((v1 * 4) + v2) 16 then zN 59 [some (.ref 1), some (.int v1), some (.int v2), some (.int ((v1 * 4) + v2))] [.int (I 14 ((v1 * 4) + v2).toNatClampNeg), .int ((v1 * 4) + v2), .ref 14] (SH, I, J) else none) rfl (zR_bif hc9 (zR_go ?_))
      refine zr_steps 4 (67, [some (.ref 1), some (.int v1), some (.int v2), some (.int ((v1 * 4) + v2))], [.int (I 1 1), .ref 6, .int (I 14 ((v1 * 4) + v2).toNatClampNeg), .int ((v1 * 4) + v2), .ref 14], (SH, I, J)) rfl ?_
      obtain ⟨hc10, h⟩ := zbifo h
      refine zr_one (bif zin (I 1 1) 12 then zN 68 [some (.ref 1), some (.int v1), some (.int v2), some (.int ((v1 * 4) + v2))] [.int (I 6 (I 1 1).toNatClampNeg), .int (I 14 ((v1 * 4) + v2).toNatClampNeg), .int ((v1 * 4) + v2), .ref 14] (SH, I, J) else none) rfl (zR_bif hc10 (zR_go ?_))
      refine zr_steps 1 (71, [some (.ref 1), some (.int v1), some (.int v2), some (.int ((v1 * 4) + v2))], [.int (zmin (I 14 ((v1 * 4) + v2).toNatClampNeg) (I 6 (I 1 1).toNatClampNeg)), .int ((v1 * 4) + v2), .ref 14], (SH, I, J)) rfl ?_
      obtain ⟨hc11, h⟩ := zbifo h
      refine zr_one (bif zin ((v1 * 4) + v2) 16 then zN 72 [some (.ref 1), some (.int v1), some (.int v2), some (.int ((v1 * 4) + v2))] [] (SH, (zu I 14 ((v1 * 4) + v2).toNatClampNeg (zmin (I 14 ((v1 * 4) + v2).toNatClampNeg) (I 6 (I 1 1).toNatClampNeg))), J) else none) rfl (zR_bif hc11 (zR_go ?_))
      have he := Option.some.inj h
      subst he
      exact zr_one (some (.inr (.inr none))) rfl (zR_ret rfl rfl)
    · rw [if_neg hc16] at h
      refine zr_steps 5 (47, [some (.ref 1), some (.int v1), some (.int v2), some (.int ((v1 * 4) + v2))], [.int (I 1 1), .int ((v1 * 4) + v2), .ref 13], (SH, I, J)) rfl ?_
      obtain ⟨hc12, h⟩ := zbifo h
      refine zr_one (bif zin ((v1 * 4) + v2) 16 then zN 48 [some (.ref 1), some (.int v1), some (.int v2), some (.int ((v1 * 4) + v2))] [] (SH, (zu I 13 ((v1 * 4) + v2).toNatClampNeg (I 1 1)), J) else none) rfl (zR_bif hc12 (zR_go ?_))
      refine zr_steps 6 (58, [some (.ref 1), some (.int v1), some (.int v2), some (.int ((v1 * 4) + v2))], [.int ((v1 * 4) + v2), .ref 14, .int ((v1 * 4) + v2), .ref 14], (SH, (zu I 13 ((v1 * 4) + v2).toNatClampNeg (I 1 1)), J)) rfl ?_
      obtain ⟨hc13, h⟩ := zbifo h
      refine zr_one (bif zin ((v1 * 4) + v2) 16 then zN 59 [some (.ref 1), some (.int v1), some (.int v2), some (.int ((v1 * 4) + v2))] [.int (I 14 ((v1 * 4) + v2).toNatClampNeg), .int ((v1 * 4) + v2), .ref 14] (SH, (zu I 13 ((v1 * 4) + v2).toNatClampNeg (I 1 1)), J) else none) rfl (zR_bif hc13 (zR_go ?_))
      refine zr_steps 4 (67, [some (.ref 1), some (.int v1), some (.int v2), some (.int ((v1 * 4) + v2))], [.int (I 1 1), .ref 6, .int (I 14 ((v1 * 4) + v2).toNatClampNeg), .int ((v1 * 4) + v2), .ref 14], (SH, (zu I 13 ((v1 * 4) + v2).toNatClampNeg (I 1 1)), J)) rfl ?_
      obtain ⟨hc14, h⟩ := zbifo h
      refine zr_one (bif zin (I 1 1) 12 then zN 68 [some (.ref 1), some (.int v1), some (.int v2), some (.int ((v1 * 4) + v2))] [.int (I 6 (I 1 1).toNatClampNeg), .int (I 14 ((v1 * 4) + v2).toNatClampNeg), .int ((v1 * 4) + v2), .ref 14] (SH, (zu I 13 ((v1 * 4) + v2).toNatClampNeg (I 1 1)), J) else none) rfl (zR_bif hc14 (zR_go ?_))
      refine zr_steps 1 (71, [some (.ref 1), some (.int v1), some (.int v2), some (.int ((v1 * 4) + v2))], [.int (zmin (I 14 ((v1 * 4) + v2).toNatClampNeg) (I 6 (I 1 1).toNatClampNeg)), .int ((v1 * 4) + v2), .ref 14], (SH, (zu I 13 ((v1 * 4) + v2).toNatClampNeg (I 1 1)), J)) rfl ?_
      obtain ⟨hc15, h⟩ := zbifo h
      refine zr_one (bif zin ((v1 * 4) + v2) 16 then zN 72 [some (.ref 1), some (.int v1), some (.int v2), some (.int ((v1 * 4) + v2))] [] (SH, (zu (zu I 13 ((v1 * 4) + v2).toNatClampNeg (I 1 1)) 14 ((v1 * 4) + v2).toNatClampNeg (zmin (I 14 ((v1 * 4) + v2).toNatClampNeg) (I 6 (I 1 1).toNatClampNeg))), J) else none) rfl (zR_bif hc15 (zR_go ?_))
      have he := Option.some.inj h
      subst he
      exact zr_one (some (.inr (.inr none))) rfl (zR_ret rfl rfl)
set_option maxRecDepth 100000 in
set_option maxHeartbeats 4000000 in
theorem ok_f67_shorten_L9 {X : zX} {d : Nat} {r : Option Value} {M' : zM} (hd : 0 ≤ d) (v1 : Int32) {J : (Nat → Nat → Int64)} : ∀ (n : Nat) (s x : (Int32 × (Nat → Nat → Int32))), zloop (f67_shorten_L9 v1) n s = some x → (fun (x : (Int32 × (Nat → Nat → Int32))) => zRun X d 67 63 [some (.ref 1), some (.int v1), none, none] [] (SH, x.2, J) r M') x → (fun (s : (Int32 × (Nat → Nat → Int32))) => zRun X d 67 9 [some (.ref 1), some (.int v1), some (.int s.1), none] [] (SH, s.2, J) r M') s := zloop_ok (B := (f67_shorten_L9 v1)) (Wh := fun (s : (Int32 × (Nat → Nat → Int32))) => zRun X d 67 9 [some (.ref 1), some (.int v1), some (.int s.1), none] [] (SH, s.2, J) r M') (Wx := fun (x : (Int32 × (Nat → Nat → Int32))) => zRun X d 67 63 [some (.ref 1), some (.int v1), none, none] [] (SH, x.2, J) r M') (fun s y h w => by
  unfold f67_shorten_L9 at h
  refine zr_steps 2 (12, [some (.ref 1), some (.int v1), some (.int s.1), none], [.int 16, .int s.1], (SH, s.2, J)) rfl ?_
  refine zr_one (if (16 : Int32) ≤ s.1 then zN 63 [some (.ref 1), some (.int v1), some (.int s.1), none] [] (SH, s.2, J) else zN 15 [some (.ref 1), some (.int v1), some (.int s.1), none] [] (SH, s.2, J)) rfl (zR_if (fun hc5 => zR_go ?_) (fun hc5 => zR_go ?_))
  · rw [if_pos hc5] at h
    have he := Option.some.inj h
    subst he
    exact zr_hdr (ls2 := [some (.ref 1), some (.int v1), none, none]) rfl rfl (show zRun X d 67 63 [some (.ref 1), some (.int v1), none, none] [] (SH, s.2, J) r M' from w)
  · rw [if_neg hc5] at h
    refine zr_steps 4 (21, [some (.ref 1), some (.int v1), some (.int s.1), none], [.int 4, .int s.1, .ref 14], (SH, s.2, J)) rfl ?_
    refine zr_one (if (4 : Int32) = 0 then none else zN 22 [some (.ref 1), some (.int v1), some (.int s.1), none] [.int (s.1 / 4), .ref 14] (SH, s.2, J)) rfl (zR_div (by decide) (zR_go ?_))
    refine zr_steps 4 (26, [some (.ref 1), some (.int v1), some (.int s.1), none], [.int (((s.1 / 4) * 4) + v1), .ref 14], (SH, s.2, J)) rfl ?_
    obtain ⟨hc1, h⟩ := zbifo h
    refine zr_one (bif zin (((s.1 / 4) * 4) + v1) 16 then zN 27 [some (.ref 1), some (.int v1), some (.int s.1), none] [.int (s.2 14 (((s.1 / 4) * 4) + v1).toNatClampNeg)] (SH, s.2, J) else none) rfl (zR_bif hc1 (zR_go ?_))
    refine zr_steps 7 (36, [some (.ref 1), some (.int v1), some (.int s.1), none], [.int 4, .int s.1, .int (v1 * 4), .ref 14, .int (s.2 14 (((s.1 / 4) * 4) + v1).toNatClampNeg)], (SH, s.2, J)) rfl ?_
    refine zr_one (if (4 : Int32) = 0 then none else zN 37 [some (.ref 1), some (.int v1), some (.int s.1), none] [.int (s.1 - s.1 / 4 * 4), .int (v1 * 4), .ref 14, .int (s.2 14 (((s.1 / 4) * 4) + v1).toNatClampNeg)] (SH, s.2, J)) rfl (zR_div (by decide) (zR_go ?_))
    refine zr_steps 1 (38, [some (.ref 1), some (.int v1), some (.int s.1), none], [.int ((v1 * 4) + (s.1 - s.1 / 4 * 4)), .ref 14, .int (s.2 14 (((s.1 / 4) * 4) + v1).toNatClampNeg)], (SH, s.2, J)) rfl ?_
    obtain ⟨hc2, h⟩ := zbifo h
    refine zr_one (bif zin ((v1 * 4) + (s.1 - s.1 / 4 * 4)) 16 then zN 39 [some (.ref 1), some (.int v1), some (.int s.1), none] [.int (s.2 14 ((v1 * 4) + (s.1 - s.1 / 4 * 4)).toNatClampNeg), .int (s.2 14 (((s.1 / 4) * 4) + v1).toNatClampNeg)] (SH, s.2, J) else none) rfl (zR_bif hc2 (zR_go ?_))
    refine zr_steps 8 (51, [some (.ref 1), some (.int v1), some (.int s.1), some (.int ((s.2 14 (((s.1 / 4) * 4) + v1).toNatClampNeg) + (s.2 14 ((v1 * 4) + (s.1 - s.1 / 4 * 4)).toNatClampNeg)))], [.int s.1, .ref 14, .int s.1, .ref 14], (SH, s.2, J)) rfl ?_
    obtain ⟨hc3, h⟩ := zbifo h
    refine zr_one (bif zin s.1 16 then zN 52 [some (.ref 1), some (.int v1), some (.int s.1), some (.int ((s.2 14 (((s.1 / 4) * 4) + v1).toNatClampNeg) + (s.2 14 ((v1 * 4) + (s.1 - s.1 / 4 * 4)).toNatClampNeg)))] [.int (s.2 14 s.1.toNatClampNeg), .int s.1, .ref 14] (SH, s.2, J) else none) rfl (zR_bif hc3 (zR_go ?_))
    refine zr_steps 2 (56, [some (.ref 1), some (.int v1), some (.int s.1), some (.int ((s.2 14 (((s.1 / 4) * 4) + v1).toNatClampNeg) + (s.2 14 ((v1 * 4) + (s.1 - s.1 / 4 * 4)).toNatClampNeg)))], [.int (zmin (s.2 14 s.1.toNatClampNeg) ((s.2 14 (((s.1 / 4) * 4) + v1).toNatClampNeg) + (s.2 14 ((v1 * 4) + (s.1 - s.1 / 4 * 4)).toNatClampNeg))), .int s.1, .ref 14], (SH, s.2, J)) rfl ?_
    obtain ⟨hc4, h⟩ := zbifo h
    refine zr_one (bif zin s.1 16 then zN 57 [some (.ref 1), some (.int v1), some (.int s.1), some (.int ((s.2 14 (((s.1 / 4) * 4) + v1).toNatClampNeg) + (s.2 14 ((v1 * 4) + (s.1 - s.1 / 4 * 4)).toNatClampNeg)))] [] (SH, (zu s.2 14 s.1.toNatClampNeg (zmin (s.2 14 s.1.toNatClampNeg) ((s.2 14 (((s.1 / 4) * 4) + v1).toNatClampNeg) + (s.2 14 ((v1 * 4) + (s.1 - s.1 / 4 * 4)).toNatClampNeg)))), J) else none) rfl (zR_bif hc4 (zR_go ?_))
    refine zr_steps 2 (9, [some (.ref 1), some (.int v1), some (.int (s.1 + 1)), some (.int ((s.2 14 (((s.1 / 4) * 4) + v1).toNatClampNeg) + (s.2 14 ((v1 * 4) + (s.1 - s.1 / 4 * 4)).toNatClampNeg)))], [], (SH, (zu s.2 14 s.1.toNatClampNeg (zmin (s.2 14 s.1.toNatClampNeg) ((s.2 14 (((s.1 / 4) * 4) + v1).toNatClampNeg) + (s.2 14 ((v1 * 4) + (s.1 - s.1 / 4 * 4)).toNatClampNeg)))), J)) rfl ?_
    have he := Option.some.inj h
    subst he
    exact zr_hdr (ls2 := [some (.ref 1), some (.int v1), some (.int (s.1 + 1)), none]) rfl rfl (show zRun X d 67 9 [some (.ref 1), some (.int v1), some (.int (s.1 + 1)), none] [] (SH, (zu s.2 14 s.1.toNatClampNeg (zmin (s.2 14 s.1.toNatClampNeg) ((s.2 14 (((s.1 / 4) * 4) + v1).toNatClampNeg) + (s.2 14 ((v1 * 4) + (s.1 - s.1 / 4 * 4)).toNatClampNeg)))), J) r M' from w))
set_option maxRecDepth 100000 in
set_option maxHeartbeats 4000000 in
theorem ok_f67_shorten_L2 {X : zX} {d : Nat} {r : Option Value} {M' : zM} (hd : 0 ≤ d) {J : (Nat → Nat → Int64)} : ∀ (n : Nat) (s x : (Int32 × (Nat → Nat → Int32))), zloop f67_shorten_L2 n s = some x → (fun (x : (Int32 × (Nat → Nat → Int32))) => zRun X d 67 69 [none, none, none, none] [] (SH, x.2, J) r M') x → (fun (s : (Int32 × (Nat → Nat → Int32))) => zRun X d 67 2 [some (.ref 1), some (.int s.1), none, none] [] (SH, s.2, J) r M') s := zloop_ok (B := f67_shorten_L2) (Wh := fun (s : (Int32 × (Nat → Nat → Int32))) => zRun X d 67 2 [some (.ref 1), some (.int s.1), none, none] [] (SH, s.2, J) r M') (Wx := fun (x : (Int32 × (Nat → Nat → Int32))) => zRun X d 67 69 [none, none, none, none] [] (SH, x.2, J) r M') (fun s y h w => by
  unfold f67_shorten_L2 at h
  refine zr_steps 2 (4, [some (.ref 1), some (.int s.1), none, none], [.int 4, .int s.1], (SH, s.2, J)) rfl ?_
  refine zr_one (if (4 : Int32) ≤ s.1 then zN 69 [some (.ref 1), some (.int s.1), none, none] [] (SH, s.2, J) else zN 7 [some (.ref 1), some (.int s.1), none, none] [] (SH, s.2, J)) rfl (zR_if (fun hc8 => zR_go ?_) (fun hc8 => zR_go ?_))
  · rw [if_pos hc8] at h
    have he := Option.some.inj h
    subst he
    exact zr_hdv (ls2 := [none, none, none, none]) rfl rfl (show zRun X d 67 69 [none, none, none, none] [] (SH, s.2, J) r M' from w)
  · rw [if_neg hc8] at h
    refine zr_steps 2 (9, [some (.ref 1), some (.int s.1), some (.int 0), none], [], (SH, s.2, J)) rfl ?_
    obtain ⟨s6, ho7, h⟩ := zbind h
    refine zr_hdr (ls2 := [some (.ref 1), some (.int s.1), some (.int 0), none]) rfl rfl ?_
    refine ok_f67_shorten_L9 (by omega) s.1 5000 ((0 : Int32), s.2) s6 ho7 ?_
    show zRun X d 67 63 [some (.ref 1), some (.int s.1), none, none] [] (SH, s6.2, J) _ _
    refine zr_steps 2 (2, [some (.ref 1), some (.int (s.1 + 1)), none, none], [], (SH, s6.2, J)) rfl ?_
    have he := Option.some.inj h
    subst he
    exact zr_hdr (ls2 := [some (.ref 1), some (.int (s.1 + 1)), none, none]) rfl rfl (show zRun X d 67 2 [some (.ref 1), some (.int (s.1 + 1)), none, none] [] (SH, s6.2, J) r M' from w))
set_option maxRecDepth 100000 in
set_option maxHeartbeats 4000000 in
theorem ok_f67_shorten {X : zX} {d : Nat} (hd : 0 ≤ d) {I : (Nat → Nat → Int32)} {J : (Nat → Nat → Int64)} (t : (Nat → Nat → Int32)) (h : f67_shorten I = some t) : zRun X d 67 0 (zent 67 [.ref 1]) [] (SH, I, J) none (SH, t, J) := by
  unfold f67_shorten at h
  refine zr_steps 2 (2, [some (.ref 1), some (.int 0), none, none], [], (SH, I, J)) rfl ?_
  obtain ⟨s9, ho10, h⟩ := zbind h
  refine zr_hdr (ls2 := [some (.ref 1), some (.int 0), none, none]) rfl rfl ?_
  refine ok_f67_shorten_L2 (by omega) 5000 ((0 : Int32), I) s9 ho10 ?_
  show zRun X d 67 69 [none, none, none, none] [] (SH, s9.2, J) _ _
  have he := Option.some.inj h
  subst he
  exact zr_one (some (.inr (.inr none))) rfl (zR_ret rfl rfl)
set_option maxRecDepth 100000 in
set_option maxHeartbeats 4000000 in
theorem ok_f65_addWay {X : zX} {d : Nat} (hd : 1 ≤ d) (v1 : Int32) (v2 : Int32) (v3 : Int32) (v4 : Int32) {I : (Nat → Nat → Int32)} {J : (Nat → Nat → Int64)} (t : (Int32 × (Nat → Nat → Int32))) (h : f65_addWay v1 v2 v3 v4 I = some t) : zRun X d 65 0 (zent 65 [.ref 1, .int v1, .int v2, .int v3, .int v4]) [] (SH, I, J) (some (.int t.1)) (SH, t.2, J) := by
  unfold f65_addWay at h
  refine zr_steps 3 (6, [some (.ref 1), some (.int v1), some (.int v2), some (.int v3), some (.int v4)], [.int 12, .int (I 1 1)], (SH, I, J)) rfl ?_
  refine zr_one (if (I 1 1) = 12 then zN 9 [some (.ref 1), some (.int v1), some (.int v2), some (.int v3), some (.int v4)] [] (SH, I, J) else zN 12 [some (.ref 1), some (.int v1), some (.int v2), some (.int v3), some (.int v4)] [] (SH, I, J)) rfl (zR_if (fun hc11 => zR_go ?_) (fun hc11 => zR_go ?_))
  · rw [if_pos hc11] at h
    refine zr_steps 1 (11, [some (.ref 1), some (.int v1), some (.int v2), some (.int v3), some (.int v4)], [.int (-3)], (SH, I, J)) rfl ?_
    have he := Option.some.inj h
    subst he
    exact zr_one (some (.inr (.inr (some (.int (-3)))))) rfl (zR_ret rfl rfl)
  · rw [if_neg hc11] at h
    refine zr_steps 5 (21, [some (.ref 1), some (.int v1), some (.int v2), some (.int v3), some (.int v4)], [.int v1, .int (I 1 1), .ref 4], (SH, I, J)) rfl ?_
    obtain ⟨hc1, h⟩ := zbifo h
    refine zr_one (bif zin (I 1 1) 12 then zN 22 [some (.ref 1), some (.int v1), some (.int v2), some (.int v3), some (.int v4)] [] (SH, (zu I 4 (I 1 1).toNatClampNeg v1), J) else none) rfl (zR_bif hc1 (zR_go ?_))
    refine zr_steps 5 (31, [some (.ref 1), some (.int v1), some (.int v2), some (.int v3), some (.int v4)], [.int v2, .int (I 1 1), .ref 5], (SH, (zu I 4 (I 1 1).toNatClampNeg v1), J)) rfl ?_
    obtain ⟨hc2, h⟩ := zbifo h
    refine zr_one (bif zin (I 1 1) 12 then zN 32 [some (.ref 1), some (.int v1), some (.int v2), some (.int v3), some (.int v4)] [] (SH, (zu (zu I 4 (I 1 1).toNatClampNeg v1) 5 (I 1 1).toNatClampNeg v2), J) else none) rfl (zR_bif hc2 (zR_go ?_))
    refine zr_steps 5 (41, [some (.ref 1), some (.int v1), some (.int v2), some (.int v3), some (.int v4)], [.int v3, .int (I 1 1), .ref 6], (SH, (zu (zu I 4 (I 1 1).toNatClampNeg v1) 5 (I 1 1).toNatClampNeg v2), J)) rfl ?_
    obtain ⟨hc3, h⟩ := zbifo h
    refine zr_one (bif zin (I 1 1) 12 then zN 42 [some (.ref 1), some (.int v1), some (.int v2), some (.int v3), some (.int v4)] [] (SH, (zu (zu (zu I 4 (I 1 1).toNatClampNeg v1) 5 (I 1 1).toNatClampNeg v2) 6 (I 1 1).toNatClampNeg v3), J) else none) rfl (zR_bif hc3 (zR_go ?_))
    refine zr_steps 5 (52, [some (.ref 1), some (.int v1), some (.int v2), some (.int v3), some (.int v4)], [.int v4, .int (I 1 1), .ref 7], (SH, (zu (zu (zu I 4 (I 1 1).toNatClampNeg v1) 5 (I 1 1).toNatClampNeg v2) 6 (I 1 1).toNatClampNeg v3), J)) rfl ?_
    obtain ⟨hc4, h⟩ := zbifo h
    refine zr_one (bif zin (I 1 1) 12 then zN 53 [some (.ref 1), some (.int v1), some (.int v2), some (.int v3), some (.int v4)] [] (SH, (zu (zu (zu (zu I 4 (I 1 1).toNatClampNeg v1) 5 (I 1 1).toNatClampNeg v2) 6 (I 1 1).toNatClampNeg v3) 7 (I 1 1).toNatClampNeg v4), J) else none) rfl (zR_bif hc4 (zR_go ?_))
    refine zr_steps 3 (56, [some (.ref 1), some (.int v1), some (.int v2), some (.int v3), some (.int v4)], [.int v2, .int v1, .ref 1], (SH, (zu (zu (zu (zu I 4 (I 1 1).toNatClampNeg v1) 5 (I 1 1).toNatClampNeg v2) 6 (I 1 1).toNatClampNeg v3) 7 (I 1 1).toNatClampNeg v4), J)) rfl ?_
    obtain ⟨t6, hc5, h⟩ := zbind h
    refine zr_one (some (.inr (.inl (66, [.ref 1, .int v1, .int v2], [], 59)))) rfl (zR_call (by omega) rfl (ok_f66_lay (by omega) v1 v2 _ hc5) ?_)
    refine zr_steps 3 (62, [some (.ref 1), some (.int v1), some (.int v2), some (.int v3), some (.int v4)], [.int v1, .int v2, .ref 1], (SH, t6, J)) rfl ?_
    obtain ⟨t8, hc7, h⟩ := zbind h
    refine zr_one (some (.inr (.inl (66, [.ref 1, .int v2, .int v1], [], 65)))) rfl (zR_call (by omega) rfl (ok_f66_lay (by omega) v2 v1 _ hc7) ?_)
    refine zr_steps 1 (66, [some (.ref 1), some (.int v1), some (.int v2), some (.int v3), some (.int v4)], [.ref 1], (SH, t8, J)) rfl ?_
    obtain ⟨t10, hc9, h⟩ := zbind h
    refine zr_one (some (.inr (.inl (67, [.ref 1], [], 69)))) rfl (zR_call (by omega) rfl (ok_f67_shorten (by omega)  _ hc9) ?_)
    refine zr_steps 10 (85, [some (.ref 1), some (.int v1), some (.int v2), some (.int v3), some (.int v4)], [.int (((t10 1 1) + 1) - 1)], (SH, (zu t10 1 1 ((t10 1 1) + 1)), J)) rfl ?_
    have he := Option.some.inj h
    subst he
    exact zr_one (some (.inr (.inr (some (.int (((t10 1 1) + 1) - 1)))))) rfl (zR_ret rfl rfl)
set_option maxRecDepth 100000 in
set_option maxHeartbeats 4000000 in
theorem ok_f87_way {X : zX} {d : Nat} (hd : 2 ≤ d) (v1 : Int32) (v2 : Int32) (v3 : Int32) {I : (Nat → Nat → Int32)} {J : (Nat → Nat → Int64)} (t : (Int32 × (Nat → Nat → Int32))) (h : f87_way v1 v2 v3 I = some t) : zRun X d 87 0 (zent 87 [.ref 0, .int v1, .int v2, .int v3]) [] (SH, I, J) (some (.int t.1)) (SH, t.2, J) := by
  unfold f87_way at h
  refine zr_steps 3 (5, [some (.ref 0), some (.int v1), some (.int v2), some (.int v3)], [.int v1, .ref 1], (SH, I, J)) rfl ?_
  obtain ⟨t2, hc1, h⟩ := zbind h
  refine zr_one (some (.inr (.inl (63, [.ref 1, .int v1], [], 8)))) rfl (zR_call (by omega) rfl (ok_f63_areTwoSquares (by omega) v1 _ hc1) ?_)
  refine zr_one (if t2 = 0 then zN 31 [some (.ref 0), some (.int v1), some (.int v2), some (.int v3)] [] (SH, I, J) else zN 11 [some (.ref 0), some (.int v1), some (.int v2), some (.int v3)] [] (SH, I, J)) rfl (zR_if (fun hc11 => zR_go ?_) (fun hc11 => zR_go ?_))
  · rw [if_pos hc11] at h
    refine zr_steps 1 (32, [some (.ref 0), some (.int v1), some (.int v2), some (.int v3)], [.int (-1)], (SH, I, J)) rfl ?_
    have he := Option.some.inj h
    subst he
    exact zr_one (some (.inr (.inr (some (.int (-1)))))) rfl (zR_ret rfl rfl)
  · rw [if_neg hc11] at h
    refine zr_steps 3 (15, [some (.ref 0), some (.int v1), some (.int v2), some (.int v3)], [.int 30, .int 1, .int v2], (SH, I, J)) rfl ?_
    obtain ⟨t4, hc3, h⟩ := zbind h
    refine zr_one (some (.inr (.inl (126, [.int v2, .int 1, .int 30], [], 18)))) rfl (zR_call (by omega) rfl (ok_f126_within (by omega) v2 1 30 _ hc3) ?_)
    refine zr_one (if t4 = 0 then zN 31 [some (.ref 0), some (.int v1), some (.int v2), some (.int v3)] [] (SH, I, J) else zN 21 [some (.ref 0), some (.int v1), some (.int v2), some (.int v3)] [] (SH, I, J)) rfl (zR_if (fun hc10 => zR_go ?_) (fun hc10 => zR_go ?_))
    · rw [if_pos hc10] at h
      refine zr_steps 1 (32, [some (.ref 0), some (.int v1), some (.int v2), some (.int v3)], [.int (-1)], (SH, I, J)) rfl ?_
      have he := Option.some.inj h
      subst he
      exact zr_one (some (.inr (.inr (some (.int (-1)))))) rfl (zR_ret rfl rfl)
    · rw [if_neg hc10] at h
      refine zr_steps 3 (25, [some (.ref 0), some (.int v1), some (.int v2), some (.int v3)], [.int 99, .int 1, .int v3], (SH, I, J)) rfl ?_
      obtain ⟨t6, hc5, h⟩ := zbind h
      refine zr_one (some (.inr (.inl (126, [.int v3, .int 1, .int 99], [], 28)))) rfl (zR_call (by omega) rfl (ok_f126_within (by omega) v3 1 99 _ hc5) ?_)
      refine zr_one (if t6 = 0 then zN 31 [some (.ref 0), some (.int v1), some (.int v2), some (.int v3)] [] (SH, I, J) else zN 33 [some (.ref 0), some (.int v1), some (.int v2), some (.int v3)] [] (SH, I, J)) rfl (zR_if (fun hc9 => zR_go ?_) (fun hc9 => zR_go ?_))
      · rw [if_pos hc9] at h
        refine zr_steps 1 (32, [some (.ref 0), some (.int v1), some (.int v2), some (.int v3)], [.int (-1)], (SH, I, J)) rfl ?_
        have he := Option.some.inj h
        subst he
        exact zr_one (some (.inr (.inr (some (.int (-1)))))) rfl (zR_ret rfl rfl)
      · rw [if_neg hc9] at h
        refine zr_steps 4 (40, [some (.ref 0), some (.int v1), some (.int v2), some (.int v3)], [.int 10, .int v1, .ref 1], (SH, I, J)) rfl ?_
        refine zr_one (if (10 : Int32) = 0 then none else zN 41 [some (.ref 0), some (.int v1), some (.int v2), some (.int v3)] [.int (v1 / 10), .ref 1] (SH, I, J)) rfl (zR_div (by decide) (zR_go ?_))
        refine zr_steps 2 (44, [some (.ref 0), some (.int v1), some (.int v2), some (.int v3)], [.int 10, .int v1, .int (v1 / 10), .ref 1], (SH, I, J)) rfl ?_
        refine zr_one (if (10 : Int32) = 0 then none else zN 45 [some (.ref 0), some (.int v1), some (.int v2), some (.int v3)] [.int (v1 - v1 / 10 * 10), .int (v1 / 10), .ref 1] (SH, I, J)) rfl (zR_div (by decide) (zR_go ?_))
        refine zr_steps 2 (47, [some (.ref 0), some (.int v1), some (.int v2), some (.int v3)], [.int v3, .int v2, .int (v1 - v1 / 10 * 10), .int (v1 / 10), .ref 1], (SH, I, J)) rfl ?_
        obtain ⟨t8, hc7, h⟩ := zbind h
        refine zr_one (some (.inr (.inl (65, [.ref 1, .int (v1 / 10), .int (v1 - v1 / 10 * 10), .int v2, .int v3], [], 50)))) rfl (zR_call (by omega) rfl (ok_f65_addWay (by omega) (v1 / 10) (v1 - v1 / 10 * 10) v2 v3 _ hc7) ?_)
        have he := Option.some.inj h
        subst he
        exact zr_one (some (.inr (.inr (some (.int t8.1))))) rfl (zR_ret rfl rfl)
set_option maxRecDepth 100000 in
set_option maxHeartbeats 4000000 in
theorem ok_f130_isSquare {X : zX} {d : Nat} (hd : 1 ≤ d) (v1 : Int32) {I : (Nat → Nat → Int32)} {J : (Nat → Nat → Int64)} (t : Int32) (h : f130_isSquare v1 I = some t) : zRun X d 130 0 (zent 130 [.ref 73, .int v1]) [] (SH, I, J) (some (.int t)) (SH, I, J) := by
  unfold f130_isSquare at h
  refine zr_steps 6 (8, [some (.ref 73), some (.int v1)], [.int ((I 73 1) - 1), .int 0, .int v1], (SH, I, J)) rfl ?_
  obtain ⟨t2, hc1, h⟩ := zbind h
  refine zr_one (some (.inr (.inl (129, [.int v1, .int 0, .int ((I 73 1) - 1)], [], 11)))) rfl (zR_call (by omega) rfl (ok_f129_in (by omega) v1 0 ((I 73 1) - 1) _ hc1) ?_)
  obtain ⟨hc3, h⟩ := zifo h
  have he := Option.some.inj h
  subst he
  exact zr_one (if ((t2 : Int32) = 0 ∨ (t2 : Int32) = 1) then some (.inr (.inr (some (.int t2)))) else none) rfl (zR_pos hc3 (zR_ret rfl rfl))
set_option maxRecDepth 100000 in
set_option maxHeartbeats 4000000 in
theorem ok_f133_way {X : zX} {d : Nat} (hd : 2 ≤ d) (v1 : Int32) (v2 : Int32) (v3 : Int32) {I : (Nat → Nat → Int32)} {J : (Nat → Nat → Int64)} (t : (Int32 × (Nat → Nat → Int32))) (h : f133_way v1 v2 v3 I = some t) : zRun X d 133 0 (zent 133 [.ref 73, .int v1, .int v2, .int v3]) [] (SH, I, J) (some (.int t.1)) (SH, t.2, J) := by
  unfold f133_way at h
  refine zr_steps 1 (1, [some (.ref 73), some (.int v1), some (.int v2), some (.int v3)], [.int v1], (SH, I, J)) rfl ?_
  refine zr_one (if v1 < 0 then zN 57 [some (.ref 73), some (.int v1), some (.int v2), some (.int v3)] [] (SH, I, J) else zN 4 [some (.ref 73), some (.int v1), some (.int v2), some (.int v3)] [] (SH, I, J)) rfl (zR_if (fun hc19 => zR_go ?_) (fun hc19 => zR_go ?_))
  · rw [if_pos hc19] at h
    refine zr_steps 1 (58, [some (.ref 73), some (.int v1), some (.int v2), some (.int v3)], [.int (-1)], (SH, I, J)) rfl ?_
    have he := Option.some.inj h
    subst he
    exact zr_one (some (.inr (.inr (some (.int (-1)))))) rfl (zR_ret rfl rfl)
  · rw [if_neg hc19] at h
    refine zr_steps 3 (8, [some (.ref 73), some (.int v1), some (.int v2), some (.int v3)], [.int 10, .int v1, .ref 73], (SH, I, J)) rfl ?_
    refine zr_one (if (10 : Int32) = 0 then none else zN 9 [some (.ref 73), some (.int v1), some (.int v2), some (.int v3)] [.int (v1 / 10), .ref 73] (SH, I, J)) rfl (zR_div (by decide) (zR_go ?_))
    obtain ⟨t2, hc1, h⟩ := zbind h
    refine zr_one (some (.inr (.inl (130, [.ref 73, .int (v1 / 10)], [], 12)))) rfl (zR_call (by omega) rfl (ok_f130_isSquare (by omega) (v1 / 10) _ hc1) ?_)
    refine zr_one (if t2 = 0 then zN 57 [some (.ref 73), some (.int v1), some (.int v2), some (.int v3)] [] (SH, I, J) else zN 15 [some (.ref 73), some (.int v1), some (.int v2), some (.int v3)] [] (SH, I, J)) rfl (zR_if (fun hc18 => zR_go ?_) (fun hc18 => zR_go ?_))
    · rw [if_pos hc18] at h
      refine zr_steps 1 (58, [some (.ref 73), some (.int v1), some (.int v2), some (.int v3)], [.int (-1)], (SH, I, J)) rfl ?_
      have he := Option.some.inj h
      subst he
      exact zr_one (some (.inr (.inr (some (.int (-1)))))) rfl (zR_ret rfl rfl)
    · rw [if_neg hc18] at h
      refine zr_steps 3 (19, [some (.ref 73), some (.int v1), some (.int v2), some (.int v3)], [.int 10, .int v1, .ref 73], (SH, I, J)) rfl ?_
      refine zr_one (if (10 : Int32) = 0 then none else zN 20 [some (.ref 73), some (.int v1), some (.int v2), some (.int v3)] [.int (v1 - v1 / 10 * 10), .ref 73] (SH, I, J)) rfl (zR_div (by decide) (zR_go ?_))
      obtain ⟨t4, hc3, h⟩ := zbind h
      refine zr_one (some (.inr (.inl (130, [.ref 73, .int (v1 - v1 / 10 * 10)], [], 23)))) rfl (zR_call (by omega) rfl (ok_f130_isSquare (by omega) (v1 - v1 / 10 * 10) _ hc3) ?_)
      refine zr_one (if t4 = 0 then zN 57 [some (.ref 73), some (.int v1), some (.int v2), some (.int v3)] [] (SH, I, J) else zN 26 [some (.ref 73), some (.int v1), some (.int v2), some (.int v3)] [] (SH, I, J)) rfl (zR_if (fun hc17 => zR_go ?_) (fun hc17 => zR_go ?_))
      · rw [if_pos hc17] at h
        refine zr_steps 1 (58, [some (.ref 73), some (.int v1), some (.int v2), some (.int v3)], [.int (-1)], (SH, I, J)) rfl ?_
        have he := Option.some.inj h
        subst he
        exact zr_one (some (.inr (.inr (some (.int (-1)))))) rfl (zR_ret rfl rfl)
      · rw [if_neg hc17] at h
        refine zr_steps 2 (29, [some (.ref 73), some (.int v1), some (.int v2), some (.int v3)], [.int 10, .int v1], (SH, I, J)) rfl ?_
        refine zr_one (if (10 : Int32) = 0 then none else zN 30 [some (.ref 73), some (.int v1), some (.int v2), some (.int v3)] [.int (v1 / 10)] (SH, I, J)) rfl (zR_div (by decide) (zR_go ?_))
        refine zr_steps 2 (33, [some (.ref 73), some (.int v1), some (.int v2), some (.int v3)], [.int 10, .int v1, .int (v1 / 10)], (SH, I, J)) rfl ?_
        refine zr_one (if (10 : Int32) = 0 then none else zN 34 [some (.ref 73), some (.int v1), some (.int v2), some (.int v3)] [.int (v1 - v1 / 10 * 10), .int (v1 / 10)] (SH, I, J)) rfl (zR_div (by decide) (zR_go ?_))
        refine zr_one (if (v1 / 10) = (v1 - v1 / 10 * 10) then zN 57 [some (.ref 73), some (.int v1), some (.int v2), some (.int v3)] [] (SH, I, J) else zN 37 [some (.ref 73), some (.int v1), some (.int v2), some (.int v3)] [] (SH, I, J)) rfl (zR_if (fun hc16 => zR_go ?_) (fun hc16 => zR_go ?_))
        · rw [if_pos hc16] at h
          refine zr_steps 1 (58, [some (.ref 73), some (.int v1), some (.int v2), some (.int v3)], [.int (-1)], (SH, I, J)) rfl ?_
          have he := Option.some.inj h
          subst he
          exact zr_one (some (.inr (.inr (some (.int (-1)))))) rfl (zR_ret rfl rfl)
        · rw [if_neg hc16] at h
          refine zr_steps 3 (41, [some (.ref 73), some (.int v1), some (.int v2), some (.int v3)], [.int 30, .int 1, .int v2], (SH, I, J)) rfl ?_
          obtain ⟨t6, hc5, h⟩ := zbind h
          refine zr_one (some (.inr (.inl (129, [.int v2, .int 1, .int 30], [], 44)))) rfl (zR_call (by omega) rfl (ok_f129_in (by omega) v2 1 30 _ hc5) ?_)
          refine zr_one (if t6 = 0 then zN 57 [some (.ref 73), some (.int v1), some (.int v2), some (.int v3)] [] (SH, I, J) else zN 47 [some (.ref 73), some (.int v1), some (.int v2), some (.int v3)] [] (SH, I, J)) rfl (zR_if (fun hc15 => zR_go ?_) (fun hc15 => zR_go ?_))
          · rw [if_pos hc15] at h
            refine zr_steps 1 (58, [some (.ref 73), some (.int v1), some (.int v2), some (.int v3)], [.int (-1)], (SH, I, J)) rfl ?_
            have he := Option.some.inj h
            subst he
            exact zr_one (some (.inr (.inr (some (.int (-1)))))) rfl (zR_ret rfl rfl)
          · rw [if_neg hc15] at h
            refine zr_steps 3 (51, [some (.ref 73), some (.int v1), some (.int v2), some (.int v3)], [.int 99, .int 1, .int v3], (SH, I, J)) rfl ?_
            obtain ⟨t8, hc7, h⟩ := zbind h
            refine zr_one (some (.inr (.inl (129, [.int v3, .int 1, .int 99], [], 54)))) rfl (zR_call (by omega) rfl (ok_f129_in (by omega) v3 1 99 _ hc7) ?_)
            refine zr_one (if t8 = 0 then zN 57 [some (.ref 73), some (.int v1), some (.int v2), some (.int v3)] [] (SH, I, J) else zN 59 [some (.ref 73), some (.int v1), some (.int v2), some (.int v3)] [] (SH, I, J)) rfl (zR_if (fun hc14 => zR_go ?_) (fun hc14 => zR_go ?_))
            · rw [if_pos hc14] at h
              refine zr_steps 1 (58, [some (.ref 73), some (.int v1), some (.int v2), some (.int v3)], [.int (-1)], (SH, I, J)) rfl ?_
              have he := Option.some.inj h
              subst he
              exact zr_one (some (.inr (.inr (some (.int (-1)))))) rfl (zR_ret rfl rfl)
            · rw [if_neg hc14] at h
              refine zr_steps 3 (65, [some (.ref 73), some (.int v1), some (.int v2), some (.int v3)], [.int 12, .int (I 73 4)], (SH, I, J)) rfl ?_
              refine zr_one (if (I 73 4) = 12 then zN 68 [some (.ref 73), some (.int v1), some (.int v2), some (.int v3)] [] (SH, I, J) else zN 71 [some (.ref 73), some (.int v1), some (.int v2), some (.int v3)] [] (SH, I, J)) rfl (zR_if (fun hc13 => zR_go ?_) (fun hc13 => zR_go ?_))
              · rw [if_pos hc13] at h
                refine zr_steps 1 (70, [some (.ref 73), some (.int v1), some (.int v2), some (.int v3)], [.int (-3)], (SH, I, J)) rfl ?_
                have he := Option.some.inj h
                subst he
                exact zr_one (some (.inr (.inr (some (.int (-3)))))) rfl (zR_ret rfl rfl)
              · rw [if_neg hc13] at h
                refine zr_steps 6 (82, [some (.ref 73), some (.int v1), some (.int v2), some (.int v3)], [.int 10, .int v1, .int (I 73 4), .ref 76], (SH, I, J)) rfl ?_
                refine zr_one (if (10 : Int32) = 0 then none else zN 83 [some (.ref 73), some (.int v1), some (.int v2), some (.int v3)] [.int (v1 / 10), .int (I 73 4), .ref 76] (SH, I, J)) rfl (zR_div (by decide) (zR_go ?_))
                obtain ⟨hc9, h⟩ := zbifo h
                refine zr_one (bif zin (I 73 4) 12 then zN 84 [some (.ref 73), some (.int v1), some (.int v2), some (.int v3)] [] (SH, (zu I 76 (I 73 4).toNatClampNeg (v1 / 10)), J) else none) rfl (zR_bif hc9 (zR_go ?_))
                refine zr_steps 6 (95, [some (.ref 73), some (.int v1), some (.int v2), some (.int v3)], [.int 10, .int v1, .int (I 73 4), .ref 77], (SH, (zu I 76 (I 73 4).toNatClampNeg (v1 / 10)), J)) rfl ?_
                refine zr_one (if (10 : Int32) = 0 then none else zN 96 [some (.ref 73), some (.int v1), some (.int v2), some (.int v3)] [.int (v1 - v1 / 10 * 10), .int (I 73 4), .ref 77] (SH, (zu I 76 (I 73 4).toNatClampNeg (v1 / 10)), J)) rfl (zR_div (by decide) (zR_go ?_))
                obtain ⟨hc10, h⟩ := zbifo h
                refine zr_one (bif zin (I 73 4) 12 then zN 97 [some (.ref 73), some (.int v1), some (.int v2), some (.int v3)] [] (SH, (zu (zu I 76 (I 73 4).toNatClampNeg (v1 / 10)) 77 (I 73 4).toNatClampNeg (v1 - v1 / 10 * 10)), J) else none) rfl (zR_bif hc10 (zR_go ?_))
                refine zr_steps 5 (106, [some (.ref 73), some (.int v1), some (.int v2), some (.int v3)], [.int v2, .int (I 73 4), .ref 78], (SH, (zu (zu I 76 (I 73 4).toNatClampNeg (v1 / 10)) 77 (I 73 4).toNatClampNeg (v1 - v1 / 10 * 10)), J)) rfl ?_
                obtain ⟨hc11, h⟩ := zbifo h
                refine zr_one (bif zin (I 73 4) 12 then zN 107 [some (.ref 73), some (.int v1), some (.int v2), some (.int v3)] [] (SH, (zu (zu (zu I 76 (I 73 4).toNatClampNeg (v1 / 10)) 77 (I 73 4).toNatClampNeg (v1 - v1 / 10 * 10)) 78 (I 73 4).toNatClampNeg v2), J) else none) rfl (zR_bif hc11 (zR_go ?_))
                refine zr_steps 5 (116, [some (.ref 73), some (.int v1), some (.int v2), some (.int v3)], [.int v3, .int (I 73 4), .ref 79], (SH, (zu (zu (zu I 76 (I 73 4).toNatClampNeg (v1 / 10)) 77 (I 73 4).toNatClampNeg (v1 - v1 / 10 * 10)) 78 (I 73 4).toNatClampNeg v2), J)) rfl ?_
                obtain ⟨hc12, h⟩ := zbifo h
                refine zr_one (bif zin (I 73 4) 12 then zN 117 [some (.ref 73), some (.int v1), some (.int v2), some (.int v3)] [] (SH, (zu (zu (zu (zu I 76 (I 73 4).toNatClampNeg (v1 / 10)) 77 (I 73 4).toNatClampNeg (v1 - v1 / 10 * 10)) 78 (I 73 4).toNatClampNeg v2) 79 (I 73 4).toNatClampNeg v3), J) else none) rfl (zR_bif hc12 (zR_go ?_))
                refine zr_steps 10 (133, [some (.ref 73), some (.int v1), some (.int v2), some (.int v3)], [.int (((I 73 4) + 1) - 1)], (SH, (zu (zu (zu (zu (zu I 76 (I 73 4).toNatClampNeg (v1 / 10)) 77 (I 73 4).toNatClampNeg (v1 - v1 / 10 * 10)) 78 (I 73 4).toNatClampNeg v2) 79 (I 73 4).toNatClampNeg v3) 73 4 ((I 73 4) + 1)), J)) rfl ?_
                have he := Option.some.inj h
                subst he
                exact zr_one (some (.inr (.inr (some (.int (((I 73 4) + 1) - 1)))))) rfl (zR_ret rfl rfl)
set_option maxRecDepth 100000 in
set_option maxHeartbeats 4000000 in
theorem ok_f68_addSort {X : zX} {d : Nat} (hd : 1 ≤ d) (v1 : Int32) (v2 : Int32) (v3 : Int32) {I : (Nat → Nat → Int32)} {J : (Nat → Nat → Int64)} (t : (Int32 × (Nat → Nat → Int32))) (h : f68_addSort v1 v2 v3 I = some t) : zRun X d 68 0 (zent 68 [.ref 1, .int v1, .int v2, .int v3]) [] (SH, I, J) (some (.int t.1)) (SH, t.2, J) := by
  unfold f68_addSort at h
  refine zr_steps 1 (1, [some (.ref 1), some (.int v1), some (.int v2), some (.int v3)], [.int v1], (SH, I, J)) rfl ?_
  refine zr_one (if v1 < 0 then zN 31 [some (.ref 1), some (.int v1), some (.int v2), some (.int v3)] [] (SH, I, J) else zN 4 [some (.ref 1), some (.int v1), some (.int v2), some (.int v3)] [] (SH, I, J)) rfl (zR_if (fun hc17 => zR_go ?_) (fun hc17 => zR_go ?_))
  · rw [if_pos hc17] at h
    refine zr_steps 1 (32, [some (.ref 1), some (.int v1), some (.int v2), some (.int v3)], [.int (-1)], (SH, I, J)) rfl ?_
    have he := Option.some.inj h
    subst he
    exact zr_one (some (.inr (.inr (some (.int (-1)))))) rfl (zR_ret rfl rfl)
  · rw [if_neg hc17] at h
    refine zr_steps 2 (7, [some (.ref 1), some (.int v1), some (.int v2), some (.int v3)], [.int 10, .int v1], (SH, I, J)) rfl ?_
    refine zr_one (if (10 : Int32) = 0 then none else zN 8 [some (.ref 1), some (.int v1), some (.int v2), some (.int v3)] [.int (v1 / 10)] (SH, I, J)) rfl (zR_div (by decide) (zR_go ?_))
    refine zr_steps 1 (11, [some (.ref 1), some (.int v1), some (.int v2), some (.int v3)], [.int 200, .int (v1 / 10)], (SH, I, J)) rfl ?_
    refine zr_one (if (200 : Int32) < (v1 / 10) then zN 31 [some (.ref 1), some (.int v1), some (.int v2), some (.int v3)] [] (SH, I, J) else zN 14 [some (.ref 1), some (.int v1), some (.int v2), some (.int v3)] [] (SH, I, J)) rfl (zR_if (fun hc16 => zR_go ?_) (fun hc16 => zR_go ?_))
    · rw [if_pos hc16] at h
      refine zr_steps 1 (32, [some (.ref 1), some (.int v1), some (.int v2), some (.int v3)], [.int (-1)], (SH, I, J)) rfl ?_
      have he := Option.some.inj h
      subst he
      exact zr_one (some (.inr (.inr (some (.int (-1)))))) rfl (zR_ret rfl rfl)
    · rw [if_neg hc16] at h
      refine zr_steps 2 (17, [some (.ref 1), some (.int v1), some (.int v2), some (.int v3)], [.int 10, .int v1], (SH, I, J)) rfl ?_
      refine zr_one (if (10 : Int32) = 0 then none else zN 18 [some (.ref 1), some (.int v1), some (.int v2), some (.int v3)] [.int (v1 - v1 / 10 * 10)] (SH, I, J)) rfl (zR_div (by decide) (zR_go ?_))
      refine zr_steps 1 (19, [some (.ref 1), some (.int v1), some (.int v2), some (.int v3)], [.int 1, .int (v1 - v1 / 10 * 10)], (SH, I, J)) rfl ?_
      refine zr_one (if (1 : Int32) < (v1 - v1 / 10 * 10) then zN 31 [some (.ref 1), some (.int v1), some (.int v2), some (.int v3)] [] (SH, I, J) else zN 22 [some (.ref 1), some (.int v1), some (.int v2), some (.int v3)] [] (SH, I, J)) rfl (zR_if (fun hc15 => zR_go ?_) (fun hc15 => zR_go ?_))
      · rw [if_pos hc15] at h
        refine zr_steps 1 (32, [some (.ref 1), some (.int v1), some (.int v2), some (.int v3)], [.int (-1)], (SH, I, J)) rfl ?_
        have he := Option.some.inj h
        subst he
        exact zr_one (some (.inr (.inr (some (.int (-1)))))) rfl (zR_ret rfl rfl)
      · rw [if_neg hc15] at h
        refine zr_steps 1 (23, [some (.ref 1), some (.int v1), some (.int v2), some (.int v3)], [.int v3], (SH, I, J)) rfl ?_
        refine zr_one (if v3 < 0 then zN 31 [some (.ref 1), some (.int v1), some (.int v2), some (.int v3)] [] (SH, I, J) else zN 26 [some (.ref 1), some (.int v1), some (.int v2), some (.int v3)] [] (SH, I, J)) rfl (zR_if (fun hc14 => zR_go ?_) (fun hc14 => zR_go ?_))
        · rw [if_pos hc14] at h
          refine zr_steps 1 (32, [some (.ref 1), some (.int v1), some (.int v2), some (.int v3)], [.int (-1)], (SH, I, J)) rfl ?_
          have he := Option.some.inj h
          subst he
          exact zr_one (some (.inr (.inr (some (.int (-1)))))) rfl (zR_ret rfl rfl)
        · rw [if_neg hc14] at h
          refine zr_steps 2 (28, [some (.ref 1), some (.int v1), some (.int v2), some (.int v3)], [.int 4, .int v3], (SH, I, J)) rfl ?_
          refine zr_one (if v3 < 4 then zN 33 [some (.ref 1), some (.int v1), some (.int v2), some (.int v3)] [] (SH, I, J) else zN 31 [some (.ref 1), some (.int v1), some (.int v2), some (.int v3)] [] (SH, I, J)) rfl (zR_if (fun hc13 => zR_go ?_) (fun hc13 => zR_go ?_))
          · rw [if_pos hc13] at h
            refine zr_steps 1 (34, [some (.ref 1), some (.int v1), some (.int v2), some (.int v3)], [.int v2], (SH, I, J)) rfl ?_
            refine zr_one (if v2 < 0 then zN 64 [some (.ref 1), some (.int v1), some (.int v2), some (.int v3)] [] (SH, I, J) else zN 37 [some (.ref 1), some (.int v1), some (.int v2), some (.int v3)] [] (SH, I, J)) rfl (zR_if (fun hc12 => zR_go ?_) (fun hc12 => zR_go ?_))
            · rw [if_pos hc12] at h
              refine zr_steps 1 (65, [some (.ref 1), some (.int v1), some (.int v2), some (.int v3)], [.int (-1)], (SH, I, J)) rfl ?_
              have he := Option.some.inj h
              subst he
              exact zr_one (some (.inr (.inr (some (.int (-1)))))) rfl (zR_ret rfl rfl)
            · rw [if_neg hc12] at h
              refine zr_steps 3 (41, [some (.ref 1), some (.int v1), some (.int v2), some (.int v3)], [.int 10, .int v2, .ref 1], (SH, I, J)) rfl ?_
              refine zr_one (if (10 : Int32) = 0 then none else zN 42 [some (.ref 1), some (.int v1), some (.int v2), some (.int v3)] [.int (v2 / 10), .ref 1] (SH, I, J)) rfl (zR_div (by decide) (zR_go ?_))
              obtain ⟨t2, hc1, h⟩ := zbind h
              refine zr_one (some (.inr (.inl (61, [.ref 1, .int (v2 / 10)], [], 45)))) rfl (zR_call (by omega) rfl (ok_f61_isSquare (by omega) (v2 / 10) _ hc1) ?_)
              refine zr_one (if t2 = 0 then zN 64 [some (.ref 1), some (.int v1), some (.int v2), some (.int v3)] [] (SH, I, J) else zN 48 [some (.ref 1), some (.int v1), some (.int v2), some (.int v3)] [] (SH, I, J)) rfl (zR_if (fun hc11 => zR_go ?_) (fun hc11 => zR_go ?_))
              · rw [if_pos hc11] at h
                refine zr_steps 1 (65, [some (.ref 1), some (.int v1), some (.int v2), some (.int v3)], [.int (-1)], (SH, I, J)) rfl ?_
                have he := Option.some.inj h
                subst he
                exact zr_one (some (.inr (.inr (some (.int (-1)))))) rfl (zR_ret rfl rfl)
              · rw [if_neg hc11] at h
                refine zr_steps 2 (51, [some (.ref 1), some (.int v1), some (.int v2), some (.int v3)], [.int 10, .int v2], (SH, I, J)) rfl ?_
                refine zr_one (if (10 : Int32) = 0 then none else zN 52 [some (.ref 1), some (.int v1), some (.int v2), some (.int v3)] [.int (v2 - v2 / 10 * 10)] (SH, I, J)) rfl (zR_div (by decide) (zR_go ?_))
                refine zr_steps 1 (53, [some (.ref 1), some (.int v1), some (.int v2), some (.int v3)], [.int 1, .int (v2 - v2 / 10 * 10)], (SH, I, J)) rfl ?_
                refine zr_one (if (v2 - v2 / 10 * 10) < 1 then zN 64 [some (.ref 1), some (.int v1), some (.int v2), some (.int v3)] [] (SH, I, J) else zN 56 [some (.ref 1), some (.int v1), some (.int v2), some (.int v3)] [] (SH, I, J)) rfl (zR_if (fun hc10 => zR_go ?_) (fun hc10 => zR_go ?_))
                · rw [if_pos hc10] at h
                  refine zr_steps 1 (65, [some (.ref 1), some (.int v1), some (.int v2), some (.int v3)], [.int (-1)], (SH, I, J)) rfl ?_
                  have he := Option.some.inj h
                  subst he
                  exact zr_one (some (.inr (.inr (some (.int (-1)))))) rfl (zR_ret rfl rfl)
                · rw [if_neg hc10] at h
                  refine zr_steps 2 (59, [some (.ref 1), some (.int v1), some (.int v2), some (.int v3)], [.int 10, .int v2], (SH, I, J)) rfl ?_
                  refine zr_one (if (10 : Int32) = 0 then none else zN 60 [some (.ref 1), some (.int v1), some (.int v2), some (.int v3)] [.int (v2 - v2 / 10 * 10)] (SH, I, J)) rfl (zR_div (by decide) (zR_go ?_))
                  refine zr_steps 1 (61, [some (.ref 1), some (.int v1), some (.int v2), some (.int v3)], [.int 3, .int (v2 - v2 / 10 * 10)], (SH, I, J)) rfl ?_
                  refine zr_one (if (v2 - v2 / 10 * 10) ≤ 3 then zN 66 [some (.ref 1), some (.int v1), some (.int v2), some (.int v3)] [] (SH, I, J) else zN 64 [some (.ref 1), some (.int v1), some (.int v2), some (.int v3)] [] (SH, I, J)) rfl (zR_if (fun hc9 => zR_go ?_) (fun hc9 => zR_go ?_))
                  · rw [if_pos hc9] at h
                    refine zr_steps 3 (72, [some (.ref 1), some (.int v1), some (.int v2), some (.int v3)], [.int 8, .int (I 1 2)], (SH, I, J)) rfl ?_
                    refine zr_one (if (I 1 2) = 8 then zN 75 [some (.ref 1), some (.int v1), some (.int v2), some (.int v3)] [] (SH, I, J) else zN 78 [some (.ref 1), some (.int v1), some (.int v2), some (.int v3)] [] (SH, I, J)) rfl (zR_if (fun hc8 => zR_go ?_) (fun hc8 => zR_go ?_))
                    · rw [if_pos hc8] at h
                      refine zr_steps 1 (77, [some (.ref 1), some (.int v1), some (.int v2), some (.int v3)], [.int (-3)], (SH, I, J)) rfl ?_
                      have he := Option.some.inj h
                      subst he
                      exact zr_one (some (.inr (.inr (some (.int (-3)))))) rfl (zR_ret rfl rfl)
                    · rw [if_neg hc8] at h
                      refine zr_steps 6 (89, [some (.ref 1), some (.int v1), some (.int v2), some (.int v3)], [.int 10, .int v1, .int (I 1 2), .ref 8], (SH, I, J)) rfl ?_
                      refine zr_one (if (10 : Int32) = 0 then none else zN 90 [some (.ref 1), some (.int v1), some (.int v2), some (.int v3)] [.int (v1 / 10), .int (I 1 2), .ref 8] (SH, I, J)) rfl (zR_div (by decide) (zR_go ?_))
                      obtain ⟨hc3, h⟩ := zbifo h
                      refine zr_one (bif zin (I 1 2) 8 then zN 91 [some (.ref 1), some (.int v1), some (.int v2), some (.int v3)] [] (SH, (zu I 8 (I 1 2).toNatClampNeg (v1 / 10)), J) else none) rfl (zR_bif hc3 (zR_go ?_))
                      refine zr_steps 6 (102, [some (.ref 1), some (.int v1), some (.int v2), some (.int v3)], [.int 10, .int v1, .int (I 1 2), .ref 9], (SH, (zu I 8 (I 1 2).toNatClampNeg (v1 / 10)), J)) rfl ?_
                      refine zr_one (if (10 : Int32) = 0 then none else zN 103 [some (.ref 1), some (.int v1), some (.int v2), some (.int v3)] [.int (v1 - v1 / 10 * 10), .int (I 1 2), .ref 9] (SH, (zu I 8 (I 1 2).toNatClampNeg (v1 / 10)), J)) rfl (zR_div (by decide) (zR_go ?_))
                      obtain ⟨hc4, h⟩ := zbifo h
                      refine zr_one (bif zin (I 1 2) 8 then zN 104 [some (.ref 1), some (.int v1), some (.int v2), some (.int v3)] [] (SH, (zu (zu I 8 (I 1 2).toNatClampNeg (v1 / 10)) 9 (I 1 2).toNatClampNeg (v1 - v1 / 10 * 10)), J) else none) rfl (zR_bif hc4 (zR_go ?_))
                      refine zr_steps 6 (115, [some (.ref 1), some (.int v1), some (.int v2), some (.int v3)], [.int 10, .int v2, .int (I 1 2), .ref 10], (SH, (zu (zu I 8 (I 1 2).toNatClampNeg (v1 / 10)) 9 (I 1 2).toNatClampNeg (v1 - v1 / 10 * 10)), J)) rfl ?_
                      refine zr_one (if (10 : Int32) = 0 then none else zN 116 [some (.ref 1), some (.int v1), some (.int v2), some (.int v3)] [.int (v2 / 10), .int (I 1 2), .ref 10] (SH, (zu (zu I 8 (I 1 2).toNatClampNeg (v1 / 10)) 9 (I 1 2).toNatClampNeg (v1 - v1 / 10 * 10)), J)) rfl (zR_div (by decide) (zR_go ?_))
                      obtain ⟨hc5, h⟩ := zbifo h
                      refine zr_one (bif zin (I 1 2) 8 then zN 117 [some (.ref 1), some (.int v1), some (.int v2), some (.int v3)] [] (SH, (zu (zu (zu I 8 (I 1 2).toNatClampNeg (v1 / 10)) 9 (I 1 2).toNatClampNeg (v1 - v1 / 10 * 10)) 10 (I 1 2).toNatClampNeg (v2 / 10)), J) else none) rfl (zR_bif hc5 (zR_go ?_))
                      refine zr_steps 6 (128, [some (.ref 1), some (.int v1), some (.int v2), some (.int v3)], [.int 10, .int v2, .int (I 1 2), .ref 11], (SH, (zu (zu (zu I 8 (I 1 2).toNatClampNeg (v1 / 10)) 9 (I 1 2).toNatClampNeg (v1 - v1 / 10 * 10)) 10 (I 1 2).toNatClampNeg (v2 / 10)), J)) rfl ?_
                      refine zr_one (if (10 : Int32) = 0 then none else zN 129 [some (.ref 1), some (.int v1), some (.int v2), some (.int v3)] [.int (v2 - v2 / 10 * 10), .int (I 1 2), .ref 11] (SH, (zu (zu (zu I 8 (I 1 2).toNatClampNeg (v1 / 10)) 9 (I 1 2).toNatClampNeg (v1 - v1 / 10 * 10)) 10 (I 1 2).toNatClampNeg (v2 / 10)), J)) rfl (zR_div (by decide) (zR_go ?_))
                      obtain ⟨hc6, h⟩ := zbifo h
                      refine zr_one (bif zin (I 1 2) 8 then zN 130 [some (.ref 1), some (.int v1), some (.int v2), some (.int v3)] [] (SH, (zu (zu (zu (zu I 8 (I 1 2).toNatClampNeg (v1 / 10)) 9 (I 1 2).toNatClampNeg (v1 - v1 / 10 * 10)) 10 (I 1 2).toNatClampNeg (v2 / 10)) 11 (I 1 2).toNatClampNeg (v2 - v2 / 10 * 10)), J) else none) rfl (zR_bif hc6 (zR_go ?_))
                      refine zr_steps 5 (139, [some (.ref 1), some (.int v1), some (.int v2), some (.int v3)], [.int v3, .int (I 1 2), .ref 12], (SH, (zu (zu (zu (zu I 8 (I 1 2).toNatClampNeg (v1 / 10)) 9 (I 1 2).toNatClampNeg (v1 - v1 / 10 * 10)) 10 (I 1 2).toNatClampNeg (v2 / 10)) 11 (I 1 2).toNatClampNeg (v2 - v2 / 10 * 10)), J)) rfl ?_
                      obtain ⟨hc7, h⟩ := zbifo h
                      refine zr_one (bif zin (I 1 2) 8 then zN 140 [some (.ref 1), some (.int v1), some (.int v2), some (.int v3)] [] (SH, (zu (zu (zu (zu (zu I 8 (I 1 2).toNatClampNeg (v1 / 10)) 9 (I 1 2).toNatClampNeg (v1 - v1 / 10 * 10)) 10 (I 1 2).toNatClampNeg (v2 / 10)) 11 (I 1 2).toNatClampNeg (v2 - v2 / 10 * 10)) 12 (I 1 2).toNatClampNeg v3), J) else none) rfl (zR_bif hc7 (zR_go ?_))
                      refine zr_steps 10 (156, [some (.ref 1), some (.int v1), some (.int v2), some (.int v3)], [.int (((I 1 2) + 1) - 1)], (SH, (zu (zu (zu (zu (zu (zu I 8 (I 1 2).toNatClampNeg (v1 / 10)) 9 (I 1 2).toNatClampNeg (v1 - v1 / 10 * 10)) 10 (I 1 2).toNatClampNeg (v2 / 10)) 11 (I 1 2).toNatClampNeg (v2 - v2 / 10 * 10)) 12 (I 1 2).toNatClampNeg v3) 1 2 ((I 1 2) + 1)), J)) rfl ?_
                      have he := Option.some.inj h
                      subst he
                      exact zr_one (some (.inr (.inr (some (.int (((I 1 2) + 1) - 1)))))) rfl (zR_ret rfl rfl)
                  · rw [if_neg hc9] at h
                    refine zr_steps 1 (65, [some (.ref 1), some (.int v1), some (.int v2), some (.int v3)], [.int (-1)], (SH, I, J)) rfl ?_
                    have he := Option.some.inj h
                    subst he
                    exact zr_one (some (.inr (.inr (some (.int (-1)))))) rfl (zR_ret rfl rfl)
          · rw [if_neg hc13] at h
            refine zr_steps 1 (32, [some (.ref 1), some (.int v1), some (.int v2), some (.int v3)], [.int (-1)], (SH, I, J)) rfl ?_
            have he := Option.some.inj h
            subst he
            exact zr_one (some (.inr (.inr (some (.int (-1)))))) rfl (zR_ret rfl rfl)
set_option maxRecDepth 100000 in
set_option maxHeartbeats 4000000 in
theorem ok_f88_sort {X : zX} {d : Nat} (hd : 2 ≤ d) (v1 : Int32) (v2 : Int32) (v3 : Int32) {I : (Nat → Nat → Int32)} {J : (Nat → Nat → Int64)} (t : (Int32 × (Nat → Nat → Int32))) (h : f88_sort v1 v2 v3 I = some t) : zRun X d 88 0 (zent 88 [.ref 0, .int v1, .int v2, .int v3]) [] (SH, I, J) (some (.int t.1)) (SH, t.2, J) := by
  unfold f88_sort at h
  refine zr_steps 5 (7, [some (.ref 0), some (.int v1), some (.int v2), some (.int v3)], [.int v3, .int v2, .int v1, .ref 1], (SH, I, J)) rfl ?_
  obtain ⟨t2, hc1, h⟩ := zbind h
  refine zr_one (some (.inr (.inl (68, [.ref 1, .int v1, .int v2, .int v3], [], 10)))) rfl (zR_call (by omega) rfl (ok_f68_addSort (by omega) v1 v2 v3 _ hc1) ?_)
  have he := Option.some.inj h
  subst he
  exact zr_one (some (.inr (.inr (some (.int t2.1))))) rfl (zR_ret rfl rfl)
set_option maxRecDepth 100000 in
set_option maxHeartbeats 4000000 in
theorem ok_f134_isSortSo {X : zX} {d : Nat} (hd : 2 ≤ d) (v1 : Int32) (v2 : Int32) (v3 : Int32) {I : (Nat → Nat → Int32)} {J : (Nat → Nat → Int64)} (t : Int32) (h : f134_isSortSo v1 v2 v3 I = some t) : zRun X d 134 0 (zent 134 [.ref 73, .int v1, .int v2, .int v3]) [] (SH, I, J) (some (.int t)) (SH, I, J) := by
  unfold f134_isSortSo at h
  refine zr_steps 1 (1, [some (.ref 73), some (.int v1), some (.int v2), some (.int v3)], [.int v1], (SH, I, J)) rfl ?_
  refine zr_one (if v1 < 0 then zN 62 [some (.ref 73), some (.int v1), some (.int v2), some (.int v3)] [] (SH, I, J) else zN 4 [some (.ref 73), some (.int v1), some (.int v2), some (.int v3)] [] (SH, I, J)) rfl (zR_if (fun hc13 => zR_go ?_) (fun hc13 => zR_go ?_))
  · rw [if_pos hc13] at h
    refine zr_steps 1 (63, [some (.ref 73), some (.int v1), some (.int v2), some (.int v3)], [.int 0], (SH, I, J)) rfl ?_
    have he := Option.some.inj h
    subst he
    exact zr_one (if ((0 : Int32) = 0 ∨ (0 : Int32) = 1) then some (.inr (.inr (some (.int 0)))) else none) rfl (zR_pos (by decide) (zR_ret rfl rfl))
  · rw [if_neg hc13] at h
    refine zr_steps 2 (7, [some (.ref 73), some (.int v1), some (.int v2), some (.int v3)], [.int 10, .int v1], (SH, I, J)) rfl ?_
    refine zr_one (if (10 : Int32) = 0 then none else zN 8 [some (.ref 73), some (.int v1), some (.int v2), some (.int v3)] [.int (v1 / 10)] (SH, I, J)) rfl (zR_div (by decide) (zR_go ?_))
    refine zr_steps 1 (11, [some (.ref 73), some (.int v1), some (.int v2), some (.int v3)], [.int 200, .int (v1 / 10)], (SH, I, J)) rfl ?_
    refine zr_one (if (200 : Int32) < (v1 / 10) then zN 62 [some (.ref 73), some (.int v1), some (.int v2), some (.int v3)] [] (SH, I, J) else zN 14 [some (.ref 73), some (.int v1), some (.int v2), some (.int v3)] [] (SH, I, J)) rfl (zR_if (fun hc12 => zR_go ?_) (fun hc12 => zR_go ?_))
    · rw [if_pos hc12] at h
      refine zr_steps 1 (63, [some (.ref 73), some (.int v1), some (.int v2), some (.int v3)], [.int 0], (SH, I, J)) rfl ?_
      have he := Option.some.inj h
      subst he
      exact zr_one (if ((0 : Int32) = 0 ∨ (0 : Int32) = 1) then some (.inr (.inr (some (.int 0)))) else none) rfl (zR_pos (by decide) (zR_ret rfl rfl))
    · rw [if_neg hc12] at h
      refine zr_steps 2 (17, [some (.ref 73), some (.int v1), some (.int v2), some (.int v3)], [.int 10, .int v1], (SH, I, J)) rfl ?_
      refine zr_one (if (10 : Int32) = 0 then none else zN 18 [some (.ref 73), some (.int v1), some (.int v2), some (.int v3)] [.int (v1 - v1 / 10 * 10)] (SH, I, J)) rfl (zR_div (by decide) (zR_go ?_))
      refine zr_steps 1 (19, [some (.ref 73), some (.int v1), some (.int v2), some (.int v3)], [.int 2, .int (v1 - v1 / 10 * 10)], (SH, I, J)) rfl ?_
      refine zr_one (if (2 : Int32) ≤ (v1 - v1 / 10 * 10) then zN 62 [some (.ref 73), some (.int v1), some (.int v2), some (.int v3)] [] (SH, I, J) else zN 22 [some (.ref 73), some (.int v1), some (.int v2), some (.int v3)] [] (SH, I, J)) rfl (zR_if (fun hc11 => zR_go ?_) (fun hc11 => zR_go ?_))
      · rw [if_pos hc11] at h
        refine zr_steps 1 (63, [some (.ref 73), some (.int v1), some (.int v2), some (.int v3)], [.int 0], (SH, I, J)) rfl ?_
        have he := Option.some.inj h
        subst he
        exact zr_one (if ((0 : Int32) = 0 ∨ (0 : Int32) = 1) then some (.inr (.inr (some (.int 0)))) else none) rfl (zR_pos (by decide) (zR_ret rfl rfl))
      · rw [if_neg hc11] at h
        refine zr_steps 1 (23, [some (.ref 73), some (.int v1), some (.int v2), some (.int v3)], [.int v2], (SH, I, J)) rfl ?_
        refine zr_one (if v2 < 0 then zN 62 [some (.ref 73), some (.int v1), some (.int v2), some (.int v3)] [] (SH, I, J) else zN 26 [some (.ref 73), some (.int v1), some (.int v2), some (.int v3)] [] (SH, I, J)) rfl (zR_if (fun hc10 => zR_go ?_) (fun hc10 => zR_go ?_))
        · rw [if_pos hc10] at h
          refine zr_steps 1 (63, [some (.ref 73), some (.int v1), some (.int v2), some (.int v3)], [.int 0], (SH, I, J)) rfl ?_
          have he := Option.some.inj h
          subst he
          exact zr_one (if ((0 : Int32) = 0 ∨ (0 : Int32) = 1) then some (.inr (.inr (some (.int 0)))) else none) rfl (zR_pos (by decide) (zR_ret rfl rfl))
        · rw [if_neg hc10] at h
          refine zr_steps 3 (30, [some (.ref 73), some (.int v1), some (.int v2), some (.int v3)], [.int 10, .int v2, .ref 73], (SH, I, J)) rfl ?_
          refine zr_one (if (10 : Int32) = 0 then none else zN 31 [some (.ref 73), some (.int v1), some (.int v2), some (.int v3)] [.int (v2 / 10), .ref 73] (SH, I, J)) rfl (zR_div (by decide) (zR_go ?_))
          obtain ⟨t2, hc1, h⟩ := zbind h
          refine zr_one (some (.inr (.inl (130, [.ref 73, .int (v2 / 10)], [], 34)))) rfl (zR_call (by omega) rfl (ok_f130_isSquare (by omega) (v2 / 10) _ hc1) ?_)
          refine zr_one (if t2 = 0 then zN 62 [some (.ref 73), some (.int v1), some (.int v2), some (.int v3)] [] (SH, I, J) else zN 37 [some (.ref 73), some (.int v1), some (.int v2), some (.int v3)] [] (SH, I, J)) rfl (zR_if (fun hc9 => zR_go ?_) (fun hc9 => zR_go ?_))
          · rw [if_pos hc9] at h
            refine zr_steps 1 (63, [some (.ref 73), some (.int v1), some (.int v2), some (.int v3)], [.int 0], (SH, I, J)) rfl ?_
            have he := Option.some.inj h
            subst he
            exact zr_one (if ((0 : Int32) = 0 ∨ (0 : Int32) = 1) then some (.inr (.inr (some (.int 0)))) else none) rfl (zR_pos (by decide) (zR_ret rfl rfl))
          · rw [if_neg hc9] at h
            refine zr_steps 2 (40, [some (.ref 73), some (.int v1), some (.int v2), some (.int v3)], [.int 10, .int v2], (SH, I, J)) rfl ?_
            refine zr_one (if (10 : Int32) = 0 then none else zN 41 [some (.ref 73), some (.int v1), some (.int v2), some (.int v3)] [.int (v2 - v2 / 10 * 10)] (SH, I, J)) rfl (zR_div (by decide) (zR_go ?_))
            refine zr_steps 2 (43, [some (.ref 73), some (.int v1), some (.int v2), some (.int v3)], [.int 3, .int 1, .int (v2 - v2 / 10 * 10)], (SH, I, J)) rfl ?_
            obtain ⟨t4, hc3, h⟩ := zbind h
            refine zr_one (some (.inr (.inl (129, [.int (v2 - v2 / 10 * 10), .int 1, .int 3], [], 46)))) rfl (zR_call (by omega) rfl (ok_f129_in (by omega) (v2 - v2 / 10 * 10) 1 3 _ hc3) ?_)
            refine zr_one (if t4 = 0 then zN 62 [some (.ref 73), some (.int v1), some (.int v2), some (.int v3)] [] (SH, I, J) else zN 49 [some (.ref 73), some (.int v1), some (.int v2), some (.int v3)] [] (SH, I, J)) rfl (zR_if (fun hc8 => zR_go ?_) (fun hc8 => zR_go ?_))
            · rw [if_pos hc8] at h
              refine zr_steps 1 (63, [some (.ref 73), some (.int v1), some (.int v2), some (.int v3)], [.int 0], (SH, I, J)) rfl ?_
              have he := Option.some.inj h
              subst he
              exact zr_one (if ((0 : Int32) = 0 ∨ (0 : Int32) = 1) then some (.inr (.inr (some (.int 0)))) else none) rfl (zR_pos (by decide) (zR_ret rfl rfl))
            · rw [if_neg hc8] at h
              refine zr_steps 3 (52, [some (.ref 73), some (.int v1), some (.int v2), some (.int v3)], [.int 3, .int 0, .int v3], (SH, I, J)) rfl ?_
              obtain ⟨t6, hc5, h⟩ := zbind h
              refine zr_one (some (.inr (.inl (129, [.int v3, .int 0, .int 3], [], 55)))) rfl (zR_call (by omega) rfl (ok_f129_in (by omega) v3 0 3 _ hc5) ?_)
              refine zr_one (if t6 = 0 then zN 62 [some (.ref 73), some (.int v1), some (.int v2), some (.int v3)] [] (SH, I, J) else zN 58 [some (.ref 73), some (.int v1), some (.int v2), some (.int v3)] [] (SH, I, J)) rfl (zR_if (fun hc7 => zR_go ?_) (fun hc7 => zR_go ?_))
              · rw [if_pos hc7] at h
                refine zr_steps 1 (63, [some (.ref 73), some (.int v1), some (.int v2), some (.int v3)], [.int 0], (SH, I, J)) rfl ?_
                have he := Option.some.inj h
                subst he
                exact zr_one (if ((0 : Int32) = 0 ∨ (0 : Int32) = 1) then some (.inr (.inr (some (.int 0)))) else none) rfl (zR_pos (by decide) (zR_ret rfl rfl))
              · rw [if_neg hc7] at h
                refine zr_steps 2 (63, [some (.ref 73), some (.int v1), some (.int v2), some (.int v3)], [.int 1], (SH, I, J)) rfl ?_
                have he := Option.some.inj h
                subst he
                exact zr_one (if ((1 : Int32) = 0 ∨ (1 : Int32) = 1) then some (.inr (.inr (some (.int 1)))) else none) rfl (zR_pos (by decide) (zR_ret rfl rfl))
set_option maxRecDepth 100000 in
set_option maxHeartbeats 4000000 in
theorem ok_f135_addSort {X : zX} {d : Nat} (hd : 0 ≤ d) (v1 : Int32) (v2 : Int32) (v3 : Int32) {I : (Nat → Nat → Int32)} {J : (Nat → Nat → Int64)} (t : (Int32 × (Nat → Nat → Int32))) (h : f135_addSort v1 v2 v3 I = some t) : zRun X d 135 0 (zent 135 [.ref 73, .int v1, .int v2, .int v3]) [] (SH, I, J) (some (.int t.1)) (SH, t.2, J) := by
  unfold f135_addSort at h
  refine zr_steps 6 (11, [some (.ref 73), some (.int v1), some (.int v2), some (.int v3)], [.int 10, .int v1, .int (I 73 9), .ref 80], (SH, I, J)) rfl ?_
  refine zr_one (if (10 : Int32) = 0 then none else zN 12 [some (.ref 73), some (.int v1), some (.int v2), some (.int v3)] [.int (v1 / 10), .int (I 73 9), .ref 80] (SH, I, J)) rfl (zR_div (by decide) (zR_go ?_))
  obtain ⟨hc1, h⟩ := zbifo h
  refine zr_one (bif zin (I 73 9) 8 then zN 13 [some (.ref 73), some (.int v1), some (.int v2), some (.int v3)] [] (SH, (zu I 80 (I 73 9).toNatClampNeg (v1 / 10)), J) else none) rfl (zR_bif hc1 (zR_go ?_))
  refine zr_steps 6 (24, [some (.ref 73), some (.int v1), some (.int v2), some (.int v3)], [.int 10, .int v1, .int (I 73 9), .ref 81], (SH, (zu I 80 (I 73 9).toNatClampNeg (v1 / 10)), J)) rfl ?_
  refine zr_one (if (10 : Int32) = 0 then none else zN 25 [some (.ref 73), some (.int v1), some (.int v2), some (.int v3)] [.int (v1 - v1 / 10 * 10), .int (I 73 9), .ref 81] (SH, (zu I 80 (I 73 9).toNatClampNeg (v1 / 10)), J)) rfl (zR_div (by decide) (zR_go ?_))
  obtain ⟨hc2, h⟩ := zbifo h
  refine zr_one (bif zin (I 73 9) 8 then zN 26 [some (.ref 73), some (.int v1), some (.int v2), some (.int v3)] [] (SH, (zu (zu I 80 (I 73 9).toNatClampNeg (v1 / 10)) 81 (I 73 9).toNatClampNeg (v1 - v1 / 10 * 10)), J) else none) rfl (zR_bif hc2 (zR_go ?_))
  refine zr_steps 6 (37, [some (.ref 73), some (.int v1), some (.int v2), some (.int v3)], [.int 10, .int v2, .int (I 73 9), .ref 82], (SH, (zu (zu I 80 (I 73 9).toNatClampNeg (v1 / 10)) 81 (I 73 9).toNatClampNeg (v1 - v1 / 10 * 10)), J)) rfl ?_
  refine zr_one (if (10 : Int32) = 0 then none else zN 38 [some (.ref 73), some (.int v1), some (.int v2), some (.int v3)] [.int (v2 / 10), .int (I 73 9), .ref 82] (SH, (zu (zu I 80 (I 73 9).toNatClampNeg (v1 / 10)) 81 (I 73 9).toNatClampNeg (v1 - v1 / 10 * 10)), J)) rfl (zR_div (by decide) (zR_go ?_))
  obtain ⟨hc3, h⟩ := zbifo h
  refine zr_one (bif zin (I 73 9) 8 then zN 39 [some (.ref 73), some (.int v1), some (.int v2), some (.int v3)] [] (SH, (zu (zu (zu I 80 (I 73 9).toNatClampNeg (v1 / 10)) 81 (I 73 9).toNatClampNeg (v1 - v1 / 10 * 10)) 82 (I 73 9).toNatClampNeg (v2 / 10)), J) else none) rfl (zR_bif hc3 (zR_go ?_))
  refine zr_steps 6 (50, [some (.ref 73), some (.int v1), some (.int v2), some (.int v3)], [.int 10, .int v2, .int (I 73 9), .ref 83], (SH, (zu (zu (zu I 80 (I 73 9).toNatClampNeg (v1 / 10)) 81 (I 73 9).toNatClampNeg (v1 - v1 / 10 * 10)) 82 (I 73 9).toNatClampNeg (v2 / 10)), J)) rfl ?_
  refine zr_one (if (10 : Int32) = 0 then none else zN 51 [some (.ref 73), some (.int v1), some (.int v2), some (.int v3)] [.int (v2 - v2 / 10 * 10), .int (I 73 9), .ref 83] (SH, (zu (zu (zu I 80 (I 73 9).toNatClampNeg (v1 / 10)) 81 (I 73 9).toNatClampNeg (v1 - v1 / 10 * 10)) 82 (I 73 9).toNatClampNeg (v2 / 10)), J)) rfl (zR_div (by decide) (zR_go ?_))
  obtain ⟨hc4, h⟩ := zbifo h
  refine zr_one (bif zin (I 73 9) 8 then zN 52 [some (.ref 73), some (.int v1), some (.int v2), some (.int v3)] [] (SH, (zu (zu (zu (zu I 80 (I 73 9).toNatClampNeg (v1 / 10)) 81 (I 73 9).toNatClampNeg (v1 - v1 / 10 * 10)) 82 (I 73 9).toNatClampNeg (v2 / 10)) 83 (I 73 9).toNatClampNeg (v2 - v2 / 10 * 10)), J) else none) rfl (zR_bif hc4 (zR_go ?_))
  refine zr_steps 5 (61, [some (.ref 73), some (.int v1), some (.int v2), some (.int v3)], [.int v3, .int (I 73 9), .ref 84], (SH, (zu (zu (zu (zu I 80 (I 73 9).toNatClampNeg (v1 / 10)) 81 (I 73 9).toNatClampNeg (v1 - v1 / 10 * 10)) 82 (I 73 9).toNatClampNeg (v2 / 10)) 83 (I 73 9).toNatClampNeg (v2 - v2 / 10 * 10)), J)) rfl ?_
  obtain ⟨hc5, h⟩ := zbifo h
  refine zr_one (bif zin (I 73 9) 8 then zN 62 [some (.ref 73), some (.int v1), some (.int v2), some (.int v3)] [] (SH, (zu (zu (zu (zu (zu I 80 (I 73 9).toNatClampNeg (v1 / 10)) 81 (I 73 9).toNatClampNeg (v1 - v1 / 10 * 10)) 82 (I 73 9).toNatClampNeg (v2 / 10)) 83 (I 73 9).toNatClampNeg (v2 - v2 / 10 * 10)) 84 (I 73 9).toNatClampNeg v3), J) else none) rfl (zR_bif hc5 (zR_go ?_))
  refine zr_steps 10 (78, [some (.ref 73), some (.int v1), some (.int v2), some (.int v3)], [.int (((I 73 9) + 1) - 1)], (SH, (zu (zu (zu (zu (zu (zu I 80 (I 73 9).toNatClampNeg (v1 / 10)) 81 (I 73 9).toNatClampNeg (v1 - v1 / 10 * 10)) 82 (I 73 9).toNatClampNeg (v2 / 10)) 83 (I 73 9).toNatClampNeg (v2 - v2 / 10 * 10)) 84 (I 73 9).toNatClampNeg v3) 73 9 ((I 73 9) + 1)), J)) rfl ?_
  have he := Option.some.inj h
  subst he
  exact zr_one (some (.inr (.inr (some (.int (((I 73 9) + 1) - 1)))))) rfl (zR_ret rfl rfl)
set_option maxRecDepth 100000 in
set_option maxHeartbeats 4000000 in
theorem ok_f136_sort {X : zX} {d : Nat} (hd : 3 ≤ d) (v1 : Int32) (v2 : Int32) (v3 : Int32) {I : (Nat → Nat → Int32)} {J : (Nat → Nat → Int64)} (t : (Int32 × (Nat → Nat → Int32))) (h : f136_sort v1 v2 v3 I = some t) : zRun X d 136 0 (zent 136 [.ref 73, .int v1, .int v2, .int v3]) [] (SH, I, J) (some (.int t.1)) (SH, t.2, J) := by
  unfold f136_sort at h
  refine zr_steps 4 (4, [some (.ref 73), some (.int v1), some (.int v2), some (.int v3)], [.int v3, .int v2, .int v1, .ref 73], (SH, I, J)) rfl ?_
  obtain ⟨t2, hc1, h⟩ := zbind h
  refine zr_one (some (.inr (.inl (134, [.ref 73, .int v1, .int v2, .int v3], [], 7)))) rfl (zR_call (by omega) rfl (ok_f134_isSortSo (by omega) v1 v2 v3 _ hc1) ?_)
  refine zr_one (if t2 = 0 then zN 10 [some (.ref 73), some (.int v1), some (.int v2), some (.int v3)] [] (SH, I, J) else zN 12 [some (.ref 73), some (.int v1), some (.int v2), some (.int v3)] [] (SH, I, J)) rfl (zR_if (fun hc6 => zR_go ?_) (fun hc6 => zR_go ?_))
  · rw [if_pos hc6] at h
    refine zr_steps 1 (11, [some (.ref 73), some (.int v1), some (.int v2), some (.int v3)], [.int (-1)], (SH, I, J)) rfl ?_
    have he := Option.some.inj h
    subst he
    exact zr_one (some (.inr (.inr (some (.int (-1)))))) rfl (zR_ret rfl rfl)
  · rw [if_neg hc6] at h
    refine zr_steps 3 (18, [some (.ref 73), some (.int v1), some (.int v2), some (.int v3)], [.int 8, .int (I 73 9)], (SH, I, J)) rfl ?_
    refine zr_one (if (I 73 9) = 8 then zN 21 [some (.ref 73), some (.int v1), some (.int v2), some (.int v3)] [] (SH, I, J) else zN 26 [some (.ref 73), some (.int v1), some (.int v2), some (.int v3)] [] (SH, I, J)) rfl (zR_if (fun hc5 => zR_go ?_) (fun hc5 => zR_go ?_))
    · rw [if_pos hc5] at h
      refine zr_steps 2 (33, [some (.ref 73), some (.int v1), some (.int v2), some (.int v3)], [.int (-3)], (SH, I, J)) rfl ?_
      have he := Option.some.inj h
      subst he
      exact zr_one (some (.inr (.inr (some (.int (-3)))))) rfl (zR_ret rfl rfl)
    · rw [if_neg hc5] at h
      refine zr_steps 4 (30, [some (.ref 73), some (.int v1), some (.int v2), some (.int v3)], [.int v3, .int v2, .int v1, .ref 73], (SH, I, J)) rfl ?_
      obtain ⟨t4, hc3, h⟩ := zbind h
      refine zr_one (some (.inr (.inl (135, [.ref 73, .int v1, .int v2, .int v3], [], 33)))) rfl (zR_call (by omega) rfl (ok_f135_addSort (by omega) v1 v2 v3 _ hc3) ?_)
      have he := Option.some.inj h
      subst he
      exact zr_one (some (.inr (.inr (some (.int t4.1))))) rfl (zR_ret rfl rfl)
set_option maxRecDepth 100000 in
set_option maxHeartbeats 4000000 in
theorem ok_f127_isShelf {X : zX} {d : Nat} (hd : 1 ≤ d) (v0 : Int32) {I : (Nat → Nat → Int32)} {J : (Nat → Nat → Int64)} (t : Int32) (h : f127_isShelf v0 = some t) : zRun X d 127 0 (zent 127 [.int v0]) [] (SH, I, J) (some (.int t)) (SH, I, J) := by
  unfold f127_isShelf at h
  refine zr_steps 3 (3, [some (.int v0)], [.int 5, .int 0, .int v0], (SH, I, J)) rfl ?_
  obtain ⟨t2, hc1, h⟩ := zbind h
  refine zr_one (some (.inr (.inl (126, [.int v0, .int 0, .int 5], [], 6)))) rfl (zR_call (by omega) rfl (ok_f126_within (by omega) v0 0 5 _ hc1) ?_)
  obtain ⟨hc3, h⟩ := zifo h
  have he := Option.some.inj h
  subst he
  exact zr_one (if ((t2 : Int32) = 0 ∨ (t2 : Int32) = 1) then some (.inr (.inr (some (.int t2)))) else none) rfl (zR_pos hc3 (zR_ret rfl rfl))
set_option maxRecDepth 100000 in
set_option maxHeartbeats 4000000 in
theorem ok_f51_isRow {X : zX} {d : Nat} (hd : 0 ≤ d) (v0 : Nat) (hs0 : zIsShelf v0) {I : (Nat → Nat → Int32)} {J : (Nat → Nat → Int64)} (t : Int32) (h : f51_isRow v0 I = some t) : zRun X d 51 0 (zent 51 [.ref v0]) [] (SH, I, J) (some (.int t)) (SH, I, J) := by
  unfold f51_isRow at h
  refine zr_steps 1 (1, [some (.ref v0)], [.ref v0], (SH, I, J)) rfl ?_
  refine zr_one (zfget 1 4 1 [some (.ref v0)] [.ref v0] (SH, I, J)) rfl (sR_get hs0 (by decide) ?_)
  refine zr_steps 1 (5, [some (.ref v0)], [.int (-1), .int (I v0 1)], (SH, I, J)) rfl ?_
  refine zr_one (if (I v0 1) = (-1) then zN 12 [some (.ref v0)] [] (SH, I, J) else zN 8 [some (.ref v0)] [] (SH, I, J)) rfl (zR_if (fun hc1 => zR_go ?_) (fun hc1 => zR_go ?_))
  · rw [if_pos hc1] at h
    refine zr_steps 1 (13, [some (.ref v0)], [.int 0], (SH, I, J)) rfl ?_
    have he := Option.some.inj h
    subst he
    exact zr_one (if ((0 : Int32) = 0 ∨ (0 : Int32) = 1) then some (.inr (.inr (some (.int 0)))) else none) rfl (zR_pos (by decide) (zR_ret rfl rfl))
  · rw [if_neg hc1] at h
    refine zr_steps 2 (13, [some (.ref v0)], [.int 1], (SH, I, J)) rfl ?_
    have he := Option.some.inj h
    subst he
    exact zr_one (if ((1 : Int32) = 0 ∨ (1 : Int32) = 1) then some (.inr (.inr (some (.int 1)))) else none) rfl (zR_pos (by decide) (zR_ret rfl rfl))
set_option maxRecDepth 100000 in
set_option maxHeartbeats 4000000 in
theorem ok_f52_isEmpty {X : zX} {d : Nat} (hd : 1 ≤ d) (v0 : Nat) (hs0 : zIsShelf v0) {I : (Nat → Nat → Int32)} {J : (Nat → Nat → Int64)} (t : Int32) (h : f52_isEmpty v0 I = some t) : zRun X d 52 0 (zent 52 [.ref v0]) [] (SH, I, J) (some (.int t)) (SH, I, J) := by
  unfold f52_isEmpty at h
  refine zr_steps 1 (1, [some (.ref v0)], [.ref v0], (SH, I, J)) rfl ?_
  refine zr_one (zfget 1 4 0 [some (.ref v0)] [.ref v0] (SH, I, J)) rfl (sR_get hs0 (by decide) ?_)
  refine zr_one (if (0 : Int32) ≤ (I v0 0) then zN 18 [some (.ref v0)] [] (SH, I, J) else zN 7 [some (.ref v0)] [] (SH, I, J)) rfl (zR_if (fun hc4 => zR_go ?_) (fun hc4 => zR_go ?_))
  · rw [if_pos hc4] at h
    refine zr_steps 1 (19, [some (.ref v0)], [.int 0], (SH, I, J)) rfl ?_
    have he := Option.some.inj h
    subst he
    exact zr_one (if ((0 : Int32) = 0 ∨ (0 : Int32) = 1) then some (.inr (.inr (some (.int 0)))) else none) rfl (zR_pos (by decide) (zR_ret rfl rfl))
  · rw [if_neg hc4] at h
    refine zr_steps 1 (8, [some (.ref v0)], [.ref v0], (SH, I, J)) rfl ?_
    obtain ⟨t2, hc1, h⟩ := zbind h
    refine zr_one (bif zrcv (SH, I, J) 51 [.ref v0] then some (.inr (.inl (51, [.ref v0], [], 11))) else none) rfl (zR_bif (sh_rcv hs0 rfl rfl) (zR_call (by omega) rfl (ok_f51_isRow (by omega) v0 hs0 _ hc1) ?_))
    refine zr_one (if t2 = 0 then zN 14 [some (.ref v0)] [] (SH, I, J) else zN 18 [some (.ref v0)] [] (SH, I, J)) rfl (zR_if (fun hc3 => zR_go ?_) (fun hc3 => zR_go ?_))
    · rw [if_pos hc3] at h
      refine zr_steps 2 (19, [some (.ref v0)], [.int 1], (SH, I, J)) rfl ?_
      have he := Option.some.inj h
      subst he
      exact zr_one (if ((1 : Int32) = 0 ∨ (1 : Int32) = 1) then some (.inr (.inr (some (.int 1)))) else none) rfl (zR_pos (by decide) (zR_ret rfl rfl))
    · rw [if_neg hc3] at h
      refine zr_steps 1 (19, [some (.ref v0)], [.int 0], (SH, I, J)) rfl ?_
      have he := Option.some.inj h
      subst he
      exact zr_one (if ((0 : Int32) = 0 ∨ (0 : Int32) = 1) then some (.inr (.inr (some (.int 0)))) else none) rfl (zR_pos (by decide) (zR_ret rfl rfl))
set_option maxRecDepth 100000 in
set_option maxHeartbeats 4000000 in
theorem ok_f55_refusal {X : zX} {d : Nat} (hd : 2 ≤ d) (v0 : Nat) (v1 : Int32) (hs0 : zIsShelf v0) {I : (Nat → Nat → Int32)} {J : (Nat → Nat → Int64)} (t : Int32) (h : f55_refusal v0 v1 I = some t) : zRun X d 55 0 (zent 55 [.ref v0, .int v1]) [] (SH, I, J) (some (.int t)) (SH, I, J) := by
  unfold f55_refusal at h
  refine zr_steps 1 (1, [some (.ref v0), some (.int v1)], [.ref v0], (SH, I, J)) rfl ?_
  obtain ⟨t2, hc1, h⟩ := zbind h
  refine zr_one (bif zrcv (SH, I, J) 52 [.ref v0] then some (.inr (.inl (52, [.ref v0], [], 4))) else none) rfl (zR_bif (sh_rcv hs0 rfl rfl) (zR_call (by omega) rfl (ok_f52_isEmpty (by omega) v0 hs0 _ hc1) ?_))
  refine zr_one (if t2 = 0 then zN 10 [some (.ref v0), some (.int v1)] [] (SH, I, J) else zN 7 [some (.ref v0), some (.int v1)] [] (SH, I, J)) rfl (zR_if (fun hc8 => zR_go ?_) (fun hc8 => zR_go ?_))
  · rw [if_pos hc8] at h
    refine zr_steps 1 (11, [some (.ref v0), some (.int v1)], [.ref v0], (SH, I, J)) rfl ?_
    obtain ⟨t4, hc3, h⟩ := zbind h
    refine zr_one (bif zrcv (SH, I, J) 51 [.ref v0] then some (.inr (.inl (51, [.ref v0], [], 14))) else none) rfl (zR_bif (sh_rcv hs0 rfl rfl) (zR_call (by omega) rfl (ok_f51_isRow (by omega) v0 hs0 _ hc3) ?_))
    refine zr_one (if t4 = 0 then zN 34 [some (.ref v0), some (.int v1)] [] (SH, I, J) else zN 17 [some (.ref v0), some (.int v1)] [] (SH, I, J)) rfl (zR_if (fun hc7 => zR_go ?_) (fun hc7 => zR_go ?_))
    · rw [if_pos hc7] at h
      refine zr_steps 1 (36, [some (.ref v0), some (.int v1)], [.int (-12)], (SH, I, J)) rfl ?_
      have he := Option.some.inj h
      subst he
      exact zr_one (some (.inr (.inr (some (.int (-12)))))) rfl (zR_ret rfl rfl)
    · rw [if_neg hc7] at h
      refine zr_steps 2 (19, [some (.ref v0), some (.int v1)], [.int (-1), .int v1], (SH, I, J)) rfl ?_
      refine zr_one (if v1 = (-1) then zN 30 [some (.ref v0), some (.int v1)] [] (SH, I, J) else zN 22 [some (.ref v0), some (.int v1)] [] (SH, I, J)) rfl (zR_if (fun hc6 => zR_go ?_) (fun hc6 => zR_go ?_))
      · rw [if_pos hc6] at h
        refine zr_steps 2 (36, [some (.ref v0), some (.int v1)], [.int 0], (SH, I, J)) rfl ?_
        have he := Option.some.inj h
        subst he
        exact zr_one (some (.inr (.inr (some (.int 0))))) rfl (zR_ret rfl rfl)
      · rw [if_neg hc6] at h
        refine zr_steps 2 (24, [some (.ref v0), some (.int v1)], [.ref v0, .int v1], (SH, I, J)) rfl ?_
        refine zr_one (zfget 24 4 1 [some (.ref v0), some (.int v1)] [.ref v0, .int v1] (SH, I, J)) rfl (sR_get hs0 (by decide) ?_)
        refine zr_one (if v1 = (I v0 1) then zN 30 [some (.ref v0), some (.int v1)] [] (SH, I, J) else zN 34 [some (.ref v0), some (.int v1)] [] (SH, I, J)) rfl (zR_if (fun hc5 => zR_go ?_) (fun hc5 => zR_go ?_))
        · rw [if_pos hc5] at h
          refine zr_steps 2 (36, [some (.ref v0), some (.int v1)], [.int 0], (SH, I, J)) rfl ?_
          have he := Option.some.inj h
          subst he
          exact zr_one (some (.inr (.inr (some (.int 0))))) rfl (zR_ret rfl rfl)
        · rw [if_neg hc5] at h
          refine zr_steps 1 (36, [some (.ref v0), some (.int v1)], [.int (-12)], (SH, I, J)) rfl ?_
          have he := Option.some.inj h
          subst he
          exact zr_one (some (.inr (.inr (some (.int (-12)))))) rfl (zR_ret rfl rfl)
  · rw [if_neg hc8] at h
    refine zr_steps 1 (9, [some (.ref v0), some (.int v1)], [.int (-11)], (SH, I, J)) rfl ?_
    have he := Option.some.inj h
    subst he
    exact zr_one (some (.inr (.inr (some (.int (-11)))))) rfl (zR_ret rfl rfl)
set_option maxRecDepth 100000 in
set_option maxHeartbeats 4000000 in
theorem ok_f56_hasPlaces {X : zX} {d : Nat} (hd : 0 ≤ d) (v0 : Nat) (v1 : Int32) (v2 : Int32) (hs0 : zIsShelf v0) {I : (Nat → Nat → Int32)} {J : (Nat → Nat → Int64)} (t : Int32) (h : f56_hasPlaces v0 v1 v2 I = some t) : zRun X d 56 0 (zent 56 [.ref v0, .int v1, .int v2]) [] (SH, I, J) (some (.int t)) (SH, I, J) := by
  unfold f56_hasPlaces at h
  refine zr_steps 1 (1, [some (.ref v0), some (.int v1), some (.int v2)], [.int v1], (SH, I, J)) rfl ?_
  refine zr_one (if v1 < 0 then zN 26 [some (.ref v0), some (.int v1), some (.int v2)] [] (SH, I, J) else zN 4 [some (.ref v0), some (.int v1), some (.int v2)] [] (SH, I, J)) rfl (zR_if (fun hc3 => zR_go ?_) (fun hc3 => zR_go ?_))
  · rw [if_pos hc3] at h
    refine zr_steps 1 (27, [some (.ref v0), some (.int v1), some (.int v2)], [.int 0], (SH, I, J)) rfl ?_
    have he := Option.some.inj h
    subst he
    exact zr_one (if ((0 : Int32) = 0 ∨ (0 : Int32) = 1) then some (.inr (.inr (some (.int 0)))) else none) rfl (zR_pos (by decide) (zR_ret rfl rfl))
  · rw [if_neg hc3] at h
    refine zr_steps 1 (5, [some (.ref v0), some (.int v1), some (.int v2)], [.int v2], (SH, I, J)) rfl ?_
    refine zr_one (if v2 < 0 then zN 26 [some (.ref v0), some (.int v1), some (.int v2)] [] (SH, I, J) else zN 8 [some (.ref v0), some (.int v1), some (.int v2)] [] (SH, I, J)) rfl (zR_if (fun hc2 => zR_go ?_) (fun hc2 => zR_go ?_))
    · rw [if_pos hc2] at h
      refine zr_steps 1 (27, [some (.ref v0), some (.int v1), some (.int v2)], [.int 0], (SH, I, J)) rfl ?_
      have he := Option.some.inj h
      subst he
      exact zr_one (if ((0 : Int32) = 0 ∨ (0 : Int32) = 1) then some (.inr (.inr (some (.int 0)))) else none) rfl (zR_pos (by decide) (zR_ret rfl rfl))
    · rw [if_neg hc2] at h
      refine zr_steps 6 (14, [some (.ref v0), some (.int v1), some (.int v2)], [.ref v0, .long (v1.toInt64 + v2.toInt64)], (SH, I, J)) rfl ?_
      refine zr_one (zfget 14 4 2 [some (.ref v0), some (.int v1), some (.int v2)] [.ref v0, .long (v1.toInt64 + v2.toInt64)] (SH, I, J)) rfl (sR_get hs0 (by decide) ?_)
      refine zr_steps 2 (19, [some (.ref v0), some (.int v1), some (.int v2)], [.int (lg_cmp (v1.toInt64 + v2.toInt64) (I v0 2).toInt64)], (SH, I, J)) rfl ?_
      refine zr_one (if (0 : Int32) < (lg_cmp (v1.toInt64 + v2.toInt64) (I v0 2).toInt64) then zN 26 [some (.ref v0), some (.int v1), some (.int v2)] [] (SH, I, J) else zN 22 [some (.ref v0), some (.int v1), some (.int v2)] [] (SH, I, J)) rfl (zR_if (fun hc1 => zR_go ?_) (fun hc1 => zR_go ?_))
      · rw [if_pos hc1] at h
        refine zr_steps 1 (27, [some (.ref v0), some (.int v1), some (.int v2)], [.int 0], (SH, I, J)) rfl ?_
        have he := Option.some.inj h
        subst he
        exact zr_one (if ((0 : Int32) = 0 ∨ (0 : Int32) = 1) then some (.inr (.inr (some (.int 0)))) else none) rfl (zR_pos (by decide) (zR_ret rfl rfl))
      · rw [if_neg hc1] at h
        refine zr_steps 2 (27, [some (.ref v0), some (.int v1), some (.int v2)], [.int 1], (SH, I, J)) rfl ?_
        have he := Option.some.inj h
        subst he
        exact zr_one (if ((1 : Int32) = 0 ∨ (1 : Int32) = 1) then some (.inr (.inr (some (.int 1)))) else none) rfl (zR_pos (by decide) (zR_ret rfl rfl))
set_option maxRecDepth 100000 in
set_option maxHeartbeats 4000000 in
theorem ok_f57_at {X : zX} {d : Nat} (hd : 1 ≤ d) (v0 : Nat) (v1 : Int32) (hs0 : zIsShelf v0) {I : (Nat → Nat → Int32)} {J : (Nat → Nat → Int64)} (t : Int64) (h : f57_at v0 v1 I J = some t) : zRun X d 57 0 (zent 57 [.ref v0, .int v1]) [] (SH, I, J) (some (.long t)) (SH, I, J) := by
  unfold f57_at at h
  refine zr_steps 3 (3, [some (.ref v0), some (.int v1)], [.int 1, .int v1, .ref v0], (SH, I, J)) rfl ?_
  obtain ⟨t2, hc1, h⟩ := zbind h
  refine zr_one (bif zrcv (SH, I, J) 56 [.ref v0, .int v1, .int 1] then some (.inr (.inl (56, [.ref v0, .int v1, .int 1], [], 6))) else none) rfl (zR_bif (sh_rcv hs0 rfl rfl) (zR_call (by omega) rfl (ok_f56_hasPlaces (by omega) v0 v1 1 hs0 _ hc1) ?_))
  refine zr_one (if t2 = 0 then zN 18 [some (.ref v0), some (.int v1)] [] (SH, I, J) else zN 9 [some (.ref v0), some (.int v1)] [] (SH, I, J)) rfl (zR_if (fun hc4 => zR_go ?_) (fun hc4 => zR_go ?_))
  · rw [if_pos hc4] at h
    refine zr_steps 1 (19, [some (.ref v0), some (.int v1)], [.long 0], (SH, I, J)) rfl ?_
    have he := Option.some.inj h
    subst he
    exact zr_one (some (.inr (.inr (some (.long 0))))) rfl (zR_ret rfl rfl)
  · rw [if_neg hc4] at h
    refine zr_steps 1 (10, [some (.ref v0), some (.int v1)], [.ref v0], (SH, I, J)) rfl ?_
    refine zr_one (zfget 10 4 3 [some (.ref v0), some (.int v1)] [.ref v0] (SH, I, J)) rfl (sR_gete hs0 ?_)
    refine zr_steps 1 (14, [some (.ref v0), some (.int v1)], [.int v1, .ref (v0 + 1)], (SH, I, J)) rfl ?_
    obtain ⟨hc3, h⟩ := zbifo h
    refine zr_one (zlald 14 [some (.ref v0), some (.int v1)] [.int v1, .ref (v0 + 1)] (SH, I, J)) rfl (sR_lald hs0 hc3 ?_)
    refine zr_steps 1 (19, [some (.ref v0), some (.int v1)], [.long (J (v0 + 1) v1.toNatClampNeg)], (SH, I, J)) rfl ?_
    have he := Option.some.inj h
    subst he
    exact zr_one (some (.inr (.inr (some (.long (J (v0 + 1) v1.toNatClampNeg)))))) rfl (zR_ret rfl rfl)
