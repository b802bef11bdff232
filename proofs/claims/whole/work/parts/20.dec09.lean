def f45_go_24_L2 (v1 : Int32) (s : (Int32 × (Nat → Nat → Int32))) : Option ((Int32 × (Nat → Nat → Int32)) ⊕ (Int32 × (Nat → Nat → Int32))) :=
  if (s.2 1 1) ≤ s.1 then
    some (.inl (s.1, s.2))
  else
    bif zin s.1 12 then
    bif zin (2 * s.1) 24 then
    bif zin s.1 12 then
    bif zin ((2 * s.1) + 1) 24 then
    some (.inr ((s.1 + 1), (zu (zu s.2 35 (2 * s.1).toNatClampNeg (s.2 7 s.1.toNatClampNeg)) 35 ((2 * s.1) + 1).toNatClampNeg (s.2 7 s.1.toNatClampNeg))))
    else none
    else none
    else none
    else none
def f45_go_24_L70 (v1 : Int32) (v2 : Int32) (s : (Int32 × (Nat → Nat → Int32))) : Option ((Int32 × (Nat → Nat → Int32)) ⊕ (Int32 × (Nat → Nat → Int32))) :=
  if (s.2 1 0) ≤ s.1 then
    some (.inl (s.1, s.2))
  else
    bif zin ((s.1 * 8) + v2) 32 then
    if (s.2 28 ((s.1 * 8) + v2).toNatClampNeg) ≤ 0 then
      some (.inr ((s.1 + 1), s.2))
    else
      Option.bind (f46_setOut_24 v1 v2 s.1 s.2) fun t10 =>
      some (.inr ((s.1 + 1), t10))
    else none
def f45_go_24_L57 (v1 : Int32) (s : (Int32 × (Nat → Nat → Int32))) : Option ((Int32 × (Nat → Nat → Int32)) ⊕ (Int32 × (Nat → Nat → Int32))) :=
  if (s.2 1 2) ≤ s.1 then
    some (.inl (s.1, s.2))
  else
    Option.bind (zloop (f45_go_24_L70 v1 s.1) 5000 ((0 : Int32), s.2)) fun s13 =>
    some (.inr ((s.1 + 1), s13.2))
def f45_go_24 (v1 : Int32) (I : (Nat → Nat → Int32)) : Option (Nat → Nat → Int32) :=
  Option.bind (zloop (f45_go_24_L2 v1) 5000 ((0 : Int32), I)) fun s6 =>
  Option.bind (zloop (f45_go_24_L57 v1) 5000 ((0 : Int32), s6.2)) fun s16 =>
  some s16.2
theorem ok_f45_go_24_L2 {X : zX} {d : Nat} {r : Option Value} {M' : zM} (hd : 5 ≤ d) (v1 : Int32) {J : (Nat → Nat → Int64)} : ∀ (n : Nat) (s x : (Int32 × (Nat → Nat → Int32))), zloop (f45_go_24_L2 v1) n s = some x → (fun (x : (Int32 × (Nat → Nat → Int32))) => zRun X d 45 55 [some (.ref 24), some (.int v1), none, none] [] (SH, x.2, J) r M') x → (fun (s : (Int32 × (Nat → Nat → Int32))) => zRun X d 45 2 [some (.ref 24), some (.int v1), some (.int s.1), none] [] (SH, s.2, J) r M') s := zloop_ok (Wh := fun (s : (Int32 × (Nat → Nat → Int32))) => zRun X d 45 2 [some (.ref 24), some (.int v1), some (.int s.1), none] [] (SH, s.2, J) r M') (Wx := fun (x : (Int32 × (Nat → Nat → Int32))) => zRun X d 45 55 [some (.ref 24), some (.int v1), none, none] [] (SH, x.2, J) r M') (fun s y h w => by
  unfold f45_go_24_L2 at h
  refine zr_steps 4 (10, [some (.ref 24), some (.int v1), some (.int s.1), none], [.int (s.2 1 1), .int s.1], (SH, s.2, J)) rfl ?_
  refine zr_one (if (s.2 1 1) ≤ s.1 then zN 55 [some (.ref 24), some (.int v1), some (.int s.1), none] [] (SH, s.2, J) else zN 13 [some (.ref 24), some (.int v1), some (.int s.1), none] [] (SH, s.2, J)) rfl (zR_if (fun hc5 => zR_go ?_) (fun hc5 => zR_go ?_))
  · rw [if_pos hc5] at h
    have he := Option.some.inj h
    subst he
    exact zr_hdr rfl rfl (show zRun X d 45 55 [some (.ref 24), some (.int v1), none, none] [] (SH, s.2, J) r M' from w)
  · rw [if_neg hc5] at h
    refine zr_steps 9 (28, [some (.ref 24), some (.int v1), some (.int s.1), none], [.int s.1, .ref 7, .int (2 * s.1), .ref 35], (SH, s.2, J)) rfl ?_
    obtain ⟨hc1, h⟩ := zbifo h
    refine zr_one (bif zin s.1 12 then zN 29 [some (.ref 24), some (.int v1), some (.int s.1), none] [.int (s.2 7 s.1.toNatClampNeg), .int (2 * s.1), .ref 35] (SH, s.2, J) else none) rfl (zR_bif hc1 (zR_go ?_))
    obtain ⟨hc2, h⟩ := zbifo h
    refine zr_one (bif zin (2 * s.1) 24 then zN 30 [some (.ref 24), some (.int v1), some (.int s.1), none] [] (SH, (zu s.2 35 (2 * s.1).toNatClampNeg (s.2 7 s.1.toNatClampNeg)), J) else none) rfl (zR_bif hc2 (zR_go ?_))
    refine zr_steps 11 (47, [some (.ref 24), some (.int v1), some (.int s.1), none], [.int s.1, .ref 7, .int ((2 * s.1) + 1), .ref 35], (SH, (zu s.2 35 (2 * s.1).toNatClampNeg (s.2 7 s.1.toNatClampNeg)), J)) rfl ?_
    obtain ⟨hc3, h⟩ := zbifo h
    refine zr_one (bif zin s.1 12 then zN 48 [some (.ref 24), some (.int v1), some (.int s.1), none] [.int (s.2 7 s.1.toNatClampNeg), .int ((2 * s.1) + 1), .ref 35] (SH, (zu s.2 35 (2 * s.1).toNatClampNeg (s.2 7 s.1.toNatClampNeg)), J) else none) rfl (zR_bif hc3 (zR_go ?_))
    obtain ⟨hc4, h⟩ := zbifo h
    refine zr_one (bif zin ((2 * s.1) + 1) 24 then zN 49 [some (.ref 24), some (.int v1), some (.int s.1), none] [] (SH, (zu (zu s.2 35 (2 * s.1).toNatClampNeg (s.2 7 s.1.toNatClampNeg)) 35 ((2 * s.1) + 1).toNatClampNeg (s.2 7 s.1.toNatClampNeg)), J) else none) rfl (zR_bif hc4 (zR_go ?_))
    refine zr_steps 2 (2, [some (.ref 24), some (.int v1), some (.int (s.1 + 1)), none], [], (SH, (zu (zu s.2 35 (2 * s.1).toNatClampNeg (s.2 7 s.1.toNatClampNeg)) 35 ((2 * s.1) + 1).toNatClampNeg (s.2 7 s.1.toNatClampNeg)), J)) rfl ?_
    have he := Option.some.inj h
    subst he
    exact zr_hdr rfl rfl (show zRun X d 45 2 [some (.ref 24), some (.int v1), some (.int (s.1 + 1)), none] [] (SH, (zu (zu s.2 35 (2 * s.1).toNatClampNeg (s.2 7 s.1.toNatClampNeg)) 35 ((2 * s.1) + 1).toNatClampNeg (s.2 7 s.1.toNatClampNeg)), J) r M' from w))
theorem ok_f45_go_24_L70 {X : zX} {d : Nat} {r : Option Value} {M' : zM} (hd : 5 ≤ d) (v1 : Int32) (v2 : Int32) {J : (Nat → Nat → Int64)} : ∀ (n : Nat) (s x : (Int32 × (Nat → Nat → Int32))), zloop (f45_go_24_L70 v1 v2) n s = some x → (fun (x : (Int32 × (Nat → Nat → Int32))) => zRun X d 45 108 [some (.ref 24), some (.int v1), some (.int v2), none] [] (SH, x.2, J) r M') x → (fun (s : (Int32 × (Nat → Nat → Int32))) => zRun X d 45 70 [some (.ref 24), some (.int v1), some (.int v2), some (.int s.1)] [] (SH, s.2, J) r M') s := zloop_ok (Wh := fun (s : (Int32 × (Nat → Nat → Int32))) => zRun X d 45 70 [some (.ref 24), some (.int v1), some (.int v2), some (.int s.1)] [] (SH, s.2, J) r M') (Wx := fun (x : (Int32 × (Nat → Nat → Int32))) => zRun X d 45 108 [some (.ref 24), some (.int v1), some (.int v2), none] [] (SH, x.2, J) r M') (fun s y h w => by
  unfold f45_go_24_L70 at h
  refine zr_steps 4 (78, [some (.ref 24), some (.int v1), some (.int v2), some (.int s.1)], [.int (s.2 1 0), .int s.1], (SH, s.2, J)) rfl ?_
  refine zr_one (if (s.2 1 0) ≤ s.1 then zN 108 [some (.ref 24), some (.int v1), some (.int v2), some (.int s.1)] [] (SH, s.2, J) else zN 81 [some (.ref 24), some (.int v1), some (.int v2), some (.int s.1)] [] (SH, s.2, J)) rfl (zR_if (fun hc12 => zR_go ?_) (fun hc12 => zR_go ?_))
  · rw [if_pos hc12] at h
    have he := Option.some.inj h
    subst he
    exact zr_hdr rfl rfl (show zRun X d 45 108 [some (.ref 24), some (.int v1), some (.int v2), none] [] (SH, s.2, J) r M' from w)
  · rw [if_neg hc12] at h
    refine zr_steps 7 (91, [some (.ref 24), some (.int v1), some (.int v2), some (.int s.1)], [.int ((s.1 * 8) + v2), .ref 28], (SH, s.2, J)) rfl ?_
    obtain ⟨hc8, h⟩ := zbifo h
    refine zr_one (bif zin ((s.1 * 8) + v2) 32 then zN 92 [some (.ref 24), some (.int v1), some (.int v2), some (.int s.1)] [.int (s.2 28 ((s.1 * 8) + v2).toNatClampNeg)] (SH, s.2, J) else none) rfl (zR_bif hc8 (zR_go ?_))
    refine zr_one (if (s.2 28 ((s.1 * 8) + v2).toNatClampNeg) ≤ 0 then zN 102 [some (.ref 24), some (.int v1), some (.int v2), some (.int s.1)] [] (SH, s.2, J) else zN 95 [some (.ref 24), some (.int v1), some (.int v2), some (.int s.1)] [] (SH, s.2, J)) rfl (zR_if (fun hc11 => zR_go ?_) (fun hc11 => zR_go ?_))
    · rw [if_pos hc11] at h
      refine zr_steps 2 (70, [some (.ref 24), some (.int v1), some (.int v2), some (.int (s.1 + 1))], [], (SH, s.2, J)) rfl ?_
      have he := Option.some.inj h
      subst he
      exact zr_hdr rfl rfl (show zRun X d 45 70 [some (.ref 24), some (.int v1), some (.int v2), some (.int (s.1 + 1))] [] (SH, s.2, J) r M' from w)
    · rw [if_neg hc11] at h
      refine zr_steps 4 (99, [some (.ref 24), some (.int v1), some (.int v2), some (.int s.1)], [.int s.1, .int v2, .int v1, .ref 24], (SH, s.2, J)) rfl ?_
      obtain ⟨t10, hc9, h⟩ := zbind h
      refine zr_one (some (.inr (.inl (46, [.ref 24, .int v1, .int v2, .int s.1], [], 102)))) rfl (zR_call (by omega) rfl (ok_f46_setOut_24 (by omega) v1 v2 s.1 _ hc9) ?_)
      refine zr_steps 2 (70, [some (.ref 24), some (.int v1), some (.int v2), some (.int (s.1 + 1))], [], (SH, t10, J)) rfl ?_
      have he := Option.some.inj h
      subst he
      exact zr_hdr rfl rfl (show zRun X d 45 70 [some (.ref 24), some (.int v1), some (.int v2), some (.int (s.1 + 1))] [] (SH, t10, J) r M' from w))
theorem ok_f45_go_24_L57 {X : zX} {d : Nat} {r : Option Value} {M' : zM} (hd : 5 ≤ d) (v1 : Int32) {J : (Nat → Nat → Int64)} : ∀ (n : Nat) (s x : (Int32 × (Nat → Nat → Int32))), zloop (f45_go_24_L57 v1) n s = some x → (fun (x : (Int32 × (Nat → Nat → Int32))) => zRun X d 45 114 [none, none, none, none] [] (SH, x.2, J) r M') x → (fun (s : (Int32 × (Nat → Nat → Int32))) => zRun X d 45 57 [some (.ref 24), some (.int v1), some (.int s.1), none] [] (SH, s.2, J) r M') s := zloop_ok (Wh := fun (s : (Int32 × (Nat → Nat → Int32))) => zRun X d 45 57 [some (.ref 24), some (.int v1), some (.int s.1), none] [] (SH, s.2, J) r M') (Wx := fun (x : (Int32 × (Nat → Nat → Int32))) => zRun X d 45 114 [none, none, none, none] [] (SH, x.2, J) r M') (fun s y h w => by
  unfold f45_go_24_L57 at h
  refine zr_steps 4 (65, [some (.ref 24), some (.int v1), some (.int s.1), none], [.int (s.2 1 2), .int s.1], (SH, s.2, J)) rfl ?_
  refine zr_one (if (s.2 1 2) ≤ s.1 then zN 114 [some (.ref 24), some (.int v1), some (.int s.1), none] [] (SH, s.2, J) else zN 68 [some (.ref 24), some (.int v1), some (.int s.1), none] [] (SH, s.2, J)) rfl (zR_if (fun hc15 => zR_go ?_) (fun hc15 => zR_go ?_))
  · rw [if_pos hc15] at h
    have he := Option.some.inj h
    subst he
    exact zr_hdv rfl rfl (show zRun X d 45 114 [none, none, none, none] [] (SH, s.2, J) r M' from w)
  · rw [if_neg hc15] at h
    refine zr_steps 2 (70, [some (.ref 24), some (.int v1), some (.int s.1), some (.int 0)], [], (SH, s.2, J)) rfl ?_
    obtain ⟨s13, ho14, h⟩ := zbind h
    refine zr_hdr (ls2 := [some (.ref 24), some (.int v1), some (.int s.1), some (.int 0)]) rfl rfl ?_
    refine ok_f45_go_24_L70 (by omega) v1 s.1 5000 ((0 : Int32), s.2) s13 ho14 ?_
    show zRun X d 45 108 [some (.ref 24), some (.int v1), some (.int s.1), none] [] (SH, s13.2, J) _ _
    refine zr_steps 2 (57, [some (.ref 24), some (.int v1), some (.int (s.1 + 1)), none], [], (SH, s13.2, J)) rfl ?_
    have he := Option.some.inj h
    subst he
    exact zr_hdr rfl rfl (show zRun X d 45 57 [some (.ref 24), some (.int v1), some (.int (s.1 + 1)), none] [] (SH, s13.2, J) r M' from w))
theorem ok_f45_go_24 {X : zX} {d : Nat} (hd : 5 ≤ d) (v1 : Int32) {I : (Nat → Nat → Int32)} {J : (Nat → Nat → Int64)} (t : (Nat → Nat → Int32)) (h : f45_go_24 v1 I = some t) : zRun X d 45 0 (zent 45 [.ref 24, .int v1]) [] (SH, I, J) none (SH, t, J) := by
  unfold f45_go_24 at h
  refine zr_steps 2 (2, [some (.ref 24), some (.int v1), some (.int 0), none], [], (SH, I, J)) rfl ?_
  obtain ⟨s6, ho7, h⟩ := zbind h
  refine zr_hdr (ls2 := [some (.ref 24), some (.int v1), some (.int 0), none]) rfl rfl ?_
  refine ok_f45_go_24_L2 (by omega) v1 5000 ((0 : Int32), I) s6 ho7 ?_
  show zRun X d 45 55 [some (.ref 24), some (.int v1), none, none] [] (SH, s6.2, J) _ _
  refine zr_steps 2 (57, [some (.ref 24), some (.int v1), some (.int 0), none], [], (SH, s6.2, J)) rfl ?_
  obtain ⟨s16, ho17, h⟩ := zbind h
  refine zr_hdr (ls2 := [some (.ref 24), some (.int v1), some (.int 0), none]) rfl rfl ?_
  refine ok_f45_go_24_L57 (by omega) v1 5000 ((0 : Int32), s6.2) s16 ho17 ?_
  show zRun X d 45 114 [none, none, none, none] [] (SH, s16.2, J) _ _
  have he := Option.some.inj h
  subst he
  exact zr_one (some (.inr (.inr none))) rfl (zR_ret rfl rfl)
def f48_end_24_L39 (s : (Int32 × (Nat → Nat → Int32))) : Option ((Int32 × (Nat → Nat → Int32)) ⊕ (Int32 × (Nat → Nat → Int32))) :=
  if (32 : Int32) ≤ s.1 then
    some (.inl (s.1, s.2))
  else
    bif zin s.1 32 then
    bif zin s.1 32 then
    bif zin s.1 32 then
    some (.inr ((s.1 + 1), (zu s.2 30 s.1.toNatClampNeg (zmin (s.2 30 s.1.toNatClampNeg) (s.2 28 s.1.toNatClampNeg)))))
    else none
    else none
    else none
def f48_end_24 (v1 : Int32) (I : (Nat → Nat → Int32)) : Option (Nat → Nat → Int32) :=
  bif zcpok 0 (v1 * 32) 32 32 1952 then
  if v1 < ((I 25 0) - (I 1 5)) then
    some (zcp I 28 33 0 (v1 * 32) 32)
  else
    Option.bind (zloop f48_end_24_L39 5000 ((0 : Int32), (zcp I 28 33 0 (v1 * 32) 32))) fun s6 =>
    some s6.2
  else none
theorem ok_f48_end_24_L39 {X : zX} {d : Nat} {r : Option Value} {M' : zM} (hd : 0 ≤ d) {J : (Nat → Nat → Int64)} : ∀ (n : Nat) (s x : (Int32 × (Nat → Nat → Int32))), zloop f48_end_24_L39 n s = some x → (fun (x : (Int32 × (Nat → Nat → Int32))) => zRun X d 48 72 [none, none, none] [] (SH, x.2, J) r M') x → (fun (s : (Int32 × (Nat → Nat → Int32))) => zRun X d 48 39 [some (.ref 24), none, some (.int s.1)] [] (SH, s.2, J) r M') s := zloop_ok (Wh := fun (s : (Int32 × (Nat → Nat → Int32))) => zRun X d 48 39 [some (.ref 24), none, some (.int s.1)] [] (SH, s.2, J) r M') (Wx := fun (x : (Int32 × (Nat → Nat → Int32))) => zRun X d 48 72 [none, none, none] [] (SH, x.2, J) r M') (fun s y h w => by
  unfold f48_end_24_L39 at h
  refine zr_steps 2 (42, [some (.ref 24), none, some (.int s.1)], [.int 32, .int s.1], (SH, s.2, J)) rfl ?_
  refine zr_one (if (32 : Int32) ≤ s.1 then zN 72 [some (.ref 24), none, some (.int s.1)] [] (SH, s.2, J) else zN 45 [some (.ref 24), none, some (.int s.1)] [] (SH, s.2, J)) rfl (zR_if (fun hc5 => zR_go ?_) (fun hc5 => zR_go ?_))
  · rw [if_pos hc5] at h
    have he := Option.some.inj h
    subst he
    exact zr_hdv rfl rfl (show zRun X d 48 72 [none, none, none] [] (SH, s.2, J) r M' from w)
  · rw [if_neg hc5] at h
    refine zr_steps 6 (55, [some (.ref 24), none, some (.int s.1)], [.int s.1, .ref 30, .int s.1, .ref 30], (SH, s.2, J)) rfl ?_
    obtain ⟨hc2, h⟩ := zbifo h
    refine zr_one (bif zin s.1 32 then zN 56 [some (.ref 24), none, some (.int s.1)] [.int (s.2 30 s.1.toNatClampNeg), .int s.1, .ref 30] (SH, s.2, J) else none) rfl (zR_bif hc2 (zR_go ?_))
    refine zr_steps 3 (61, [some (.ref 24), none, some (.int s.1)], [.int s.1, .ref 28, .int (s.2 30 s.1.toNatClampNeg), .int s.1, .ref 30], (SH, s.2, J)) rfl ?_
    obtain ⟨hc3, h⟩ := zbifo h
    refine zr_one (bif zin s.1 32 then zN 62 [some (.ref 24), none, some (.int s.1)] [.int (s.2 28 s.1.toNatClampNeg), .int (s.2 30 s.1.toNatClampNeg), .int s.1, .ref 30] (SH, s.2, J) else none) rfl (zR_bif hc3 (zR_go ?_))
    refine zr_steps 1 (65, [some (.ref 24), none, some (.int s.1)], [.int (zmin (s.2 30 s.1.toNatClampNeg) (s.2 28 s.1.toNatClampNeg)), .int s.1, .ref 30], (SH, s.2, J)) rfl ?_
    obtain ⟨hc4, h⟩ := zbifo h
    refine zr_one (bif zin s.1 32 then zN 66 [some (.ref 24), none, some (.int s.1)] [] (SH, (zu s.2 30 s.1.toNatClampNeg (zmin (s.2 30 s.1.toNatClampNeg) (s.2 28 s.1.toNatClampNeg))), J) else none) rfl (zR_bif hc4 (zR_go ?_))
    refine zr_steps 2 (39, [some (.ref 24), none, some (.int (s.1 + 1))], [], (SH, (zu s.2 30 s.1.toNatClampNeg (zmin (s.2 30 s.1.toNatClampNeg) (s.2 28 s.1.toNatClampNeg))), J)) rfl ?_
    have he := Option.some.inj h
    subst he
    exact zr_hdr rfl rfl (show zRun X d 48 39 [some (.ref 24), none, some (.int (s.1 + 1))] [] (SH, (zu s.2 30 s.1.toNatClampNeg (zmin (s.2 30 s.1.toNatClampNeg) (s.2 28 s.1.toNatClampNeg))), J) r M' from w))
theorem ok_f48_end_24 {X : zX} {d : Nat} (hd : 0 ≤ d) (v1 : Int32) {I : (Nat → Nat → Int32)} {J : (Nat → Nat → Int64)} (t : (Nat → Nat → Int32)) (h : f48_end_24 v1 I = some t) : zRun X d 48 0 (zent 48 [.ref 24, .int v1]) [] (SH, I, J) none (SH, t, J) := by
  unfold f48_end_24 at h
  refine zr_steps 9 (15, [some (.ref 24), some (.int v1), none], [.int 32, .int (v1 * 32), .ref 33, .int 0, .ref 28], (SH, I, J)) rfl ?_
  obtain ⟨hc1, h⟩ := zbifo h
  refine zr_one (zcopy 15 [some (.ref 24), some (.int v1), none] [.int 32, .int (v1 * 32), .ref 33, .int 0, .ref 28] (SH, I, J)) rfl (zR_copy (na := 32) (nb := 1952) rfl rfl rfl rfl hc1 rfl ?_)
  refine zr_steps 8 (34, [some (.ref 24), some (.int v1), none], [.int ((I 25 0) - (I 1 5)), .int v1], (SH, (zcp I 28 33 0 (v1 * 32) 32), J)) rfl ?_
  refine zr_one (if v1 < ((I 25 0) - (I 1 5)) then zN 72 [some (.ref 24), some (.int v1), none] [] (SH, (zcp I 28 33 0 (v1 * 32) 32), J) else zN 37 [some (.ref 24), some (.int v1), none] [] (SH, (zcp I 28 33 0 (v1 * 32) 32), J)) rfl (zR_if (fun hc8 => zR_go ?_) (fun hc8 => zR_go ?_))
  · rw [if_pos hc8] at h
    have he := Option.some.inj h
    subst he
    exact zr_one (some (.inr (.inr none))) rfl (zR_ret rfl rfl)
  · rw [if_neg hc8] at h
    refine zr_steps 2 (39, [some (.ref 24), some (.int v1), some (.int 0)], [], (SH, (zcp I 28 33 0 (v1 * 32) 32), J)) rfl ?_
    obtain ⟨s6, ho7, h⟩ := zbind h
    refine zr_hdr (ls2 := [some (.ref 24), none, some (.int 0)]) rfl rfl ?_
    refine ok_f48_end_24_L39 (by omega) 5000 ((0 : Int32), (zcp I 28 33 0 (v1 * 32) 32)) s6 ho7 ?_
    show zRun X d 48 72 [none, none, none] [] (SH, s6.2, J) _ _
    have he := Option.some.inj h
    subst he
    exact zr_one (some (.inr (.inr none))) rfl (zR_ret rfl rfl)
def f74_wanting_L4 (v1 : Int32) (I : (Nat → Nat → Int32)) (s : (Int32 × Int32)) : Option ((Int32 × Int32) ⊕ (Int32 × Int32)) :=
  if (I 1 2) ≤ s.2 then
    some (.inl (s.1, s.2))
  else
    bif zin s.2 8 then
    if (I 9 s.2.toNatClampNeg) = v1 then
      bif zin s.2 8 then
      some (.inr ((s.1 + (I 8 s.2.toNatClampNeg)), (s.2 + 1)))
      else none
    else
      some (.inr ((s.1 + 0), (s.2 + 1)))
    else none
def f74_wanting (v1 : Int32) (I : (Nat → Nat → Int32)) : Option Int32 :=
  Option.bind (zloop (f74_wanting_L4 v1 I) 5000 ((0 : Int32), (0 : Int32))) fun s5 =>
  some s5.1
theorem ok_f74_wanting_L4 {X : zX} {d : Nat} {r : Option Value} {M' : zM} (hd : 0 ≤ d) (v1 : Int32) {I : (Nat → Nat → Int32)} {J : (Nat → Nat → Int64)} : ∀ (n : Nat) (s x : (Int32 × Int32)), zloop (f74_wanting_L4 v1 I) n s = some x → (fun (x : (Int32 × Int32)) => zRun X d 74 41 [none, none, some (.int x.1), none] [] (SH, I, J) r M') x → (fun (s : (Int32 × Int32)) => zRun X d 74 4 [some (.ref 1), some (.int v1), some (.int s.1), some (.int s.2)] [] (SH, I, J) r M') s := zloop_ok (Wh := fun (s : (Int32 × Int32)) => zRun X d 74 4 [some (.ref 1), some (.int v1), some (.int s.1), some (.int s.2)] [] (SH, I, J) r M') (Wx := fun (x : (Int32 × Int32)) => zRun X d 74 41 [none, none, some (.int x.1), none] [] (SH, I, J) r M') (fun s y h w => by
  unfold f74_wanting_L4 at h
  refine zr_steps 3 (9, [some (.ref 1), some (.int v1), some (.int s.1), some (.int s.2)], [.int (I 1 2), .int s.2], (SH, I, J)) rfl ?_
  refine zr_one (if (I 1 2) ≤ s.2 then zN 41 [some (.ref 1), some (.int v1), some (.int s.1), some (.int s.2)] [] (SH, I, J) else zN 12 [some (.ref 1), some (.int v1), some (.int s.1), some (.int s.2)] [] (SH, I, J)) rfl (zR_if (fun hc4 => zR_go ?_) (fun hc4 => zR_go ?_))
  · rw [if_pos hc4] at h
    have he := Option.some.inj h
    subst he
    exact zr_hdr rfl rfl (show zRun X d 74 41 [none, none, some (.int s.1), none] [] (SH, I, J) r M' from w)
  · rw [if_neg hc4] at h
    refine zr_steps 4 (18, [some (.ref 1), some (.int v1), some (.int s.1), some (.int s.2)], [.int s.2, .ref 9, .int s.1], (SH, I, J)) rfl ?_
    obtain ⟨hc1, h⟩ := zbifo h
    refine zr_one (bif zin s.2 8 then zN 19 [some (.ref 1), some (.int v1), some (.int s.1), some (.int s.2)] [.int (I 9 s.2.toNatClampNeg), .int s.1] (SH, I, J) else none) rfl (zR_bif hc1 (zR_go ?_))
    refine zr_steps 1 (20, [some (.ref 1), some (.int v1), some (.int s.1), some (.int s.2)], [.int v1, .int (I 9 s.2.toNatClampNeg), .int s.1], (SH, I, J)) rfl ?_
    refine zr_one (if (I 9 s.2.toNatClampNeg) = v1 then zN 23 [some (.ref 1), some (.int v1), some (.int s.1), some (.int s.2)] [.int s.1] (SH, I, J) else zN 32 [some (.ref 1), some (.int v1), some (.int s.1), some (.int s.2)] [.int s.1] (SH, I, J)) rfl (zR_if (fun hc3 => zR_go ?_) (fun hc3 => zR_go ?_))
    · rw [if_pos hc3] at h
      refine zr_steps 3 (28, [some (.ref 1), some (.int v1), some (.int s.1), some (.int s.2)], [.int s.2, .ref 8, .int s.1], (SH, I, J)) rfl ?_
      obtain ⟨hc2, h⟩ := zbifo h
      refine zr_one (bif zin s.2 8 then zN 29 [some (.ref 1), some (.int v1), some (.int s.1), some (.int s.2)] [.int (I 8 s.2.toNatClampNeg), .int s.1] (SH, I, J) else none) rfl (zR_bif hc2 (zR_go ?_))
      refine zr_steps 5 (4, [some (.ref 1), some (.int v1), some (.int (s.1 + (I 8 s.2.toNatClampNeg))), some (.int (s.2 + 1))], [], (SH, I, J)) rfl ?_
      have he := Option.some.inj h
      subst he
      exact zr_hdr rfl rfl (show zRun X d 74 4 [some (.ref 1), some (.int v1), some (.int (s.1 + (I 8 s.2.toNatClampNeg))), some (.int (s.2 + 1))] [] (SH, I, J) r M' from w)
    · rw [if_neg hc3] at h
      refine zr_steps 5 (4, [some (.ref 1), some (.int v1), some (.int (s.1 + 0)), some (.int (s.2 + 1))], [], (SH, I, J)) rfl ?_
      have he := Option.some.inj h
      subst he
      exact zr_hdr rfl rfl (show zRun X d 74 4 [some (.ref 1), some (.int v1), some (.int (s.1 + 0)), some (.int (s.2 + 1))] [] (SH, I, J) r M' from w))
theorem ok_f74_wanting {X : zX} {d : Nat} (hd : 0 ≤ d) (v1 : Int32) {I : (Nat → Nat → Int32)} {J : (Nat → Nat → Int64)} (t : Int32) (h : f74_wanting v1 I = some t) : zRun X d 74 0 (zent 74 [.ref 1, .int v1]) [] (SH, I, J) (some (.int t)) (SH, I, J) := by
  unfold f74_wanting at h
  refine zr_steps 4 (4, [some (.ref 1), some (.int v1), some (.int 0), some (.int 0)], [], (SH, I, J)) rfl ?_
  obtain ⟨s5, ho6, h⟩ := zbind h
  refine zr_hdr (ls2 := [some (.ref 1), some (.int v1), some (.int 0), some (.int 0)]) rfl rfl ?_
  refine ok_f74_wanting_L4 (by omega) v1 5000 ((0 : Int32), (0 : Int32)) s5 ho6 ?_
  show zRun X d 74 41 [none, none, some (.int s5.1), none] [] (SH, I, J) _ _
  refine zr_steps 1 (42, [none, none, some (.int s5.1), none], [.int s5.1], (SH, I, J)) rfl ?_
  have he := Option.some.inj h
  subst he
  exact zr_one (some (.inr (.inr (some (.int s5.1))))) rfl (zR_ret rfl rfl)
def f73_people (I : (Nat → Nat → Int32)) : Option Int32 :=
  Option.bind (f74_wanting 0 I) fun t2 =>
  Option.bind (f74_wanting 1 I) fun t4 =>
  some (t2 + t4)
theorem ok_f73_people {X : zX} {d : Nat} (hd : 1 ≤ d) {I : (Nat → Nat → Int32)} {J : (Nat → Nat → Int64)} (t : Int32) (h : f73_people I = some t) : zRun X d 73 0 (zent 73 [.ref 1]) [] (SH, I, J) (some (.int t)) (SH, I, J) := by
  unfold f73_people at h
  refine zr_steps 2 (2, [some (.ref 1)], [.int 0, .ref 1], (SH, I, J)) rfl ?_
  obtain ⟨t2, hc1, h⟩ := zbind h
  refine zr_one (some (.inr (.inl (74, [.ref 1, .int 0], [], 5)))) rfl (zR_call (by omega) rfl (ok_f74_wanting (by omega) 0 _ hc1) ?_)
  refine zr_steps 2 (7, [some (.ref 1)], [.int 1, .ref 1, .int t2], (SH, I, J)) rfl ?_
  obtain ⟨t4, hc3, h⟩ := zbind h
  refine zr_one (some (.inr (.inl (74, [.ref 1, .int 1], [.int t2], 10)))) rfl (zR_call (by omega) rfl (ok_f74_wanting (by omega) 1 _ hc3) ?_)
  refine zr_steps 1 (11, [some (.ref 1)], [.int (t2 + t4)], (SH, I, J)) rfl ?_
  have he := Option.some.inj h
  subst he
  exact zr_one (some (.inr (.inr (some (.int (t2 + t4)))))) rfl (zR_ret rfl rfl)
def f49_tally_24_L56 (v1 : Int32) (s : (Int32 × (Nat → Nat → Int32))) : Option ((Int32 × (Nat → Nat → Int32)) ⊕ (Int32 × (Nat → Nat → Int32))) :=
  if (8 : Int32) ≤ s.1 then
    some (.inl (s.1, s.2))
  else
    bif zin v1 4 then
    bif zin ((v1 * 8) + s.1) 32 then
    bif zin v1 4 then
    some (.inr ((s.1 + 1), (zu s.2 37 v1.toNatClampNeg ((s.2 37 v1.toNatClampNeg) + (s.2 30 ((v1 * 8) + s.1).toNatClampNeg)))))
    else none
    else none
    else none
def f49_tally_24_L56 (v1 : Int32) (s : (Int32 × (Nat → Nat → Int32))) : Option ((Int32 × (Nat → Nat → Int32)) ⊕ (Int32 × (Nat → Nat → Int32))) :=
  if (8 : Int32) ≤ s.1 then
    some (.inl (s.1, s.2))
  else
    bif zin v1 4 then
    bif zin ((v1 * 8) + s.1) 32 then
    bif zin v1 4 then
    some (.inr ((s.1 + 1), (zu s.2 37 v1.toNatClampNeg ((s.2 37 v1.toNatClampNeg) + (s.2 30 ((v1 * 8) + s.1).toNatClampNeg)))))
    else none
    else none
    else none
def f49_tally_24_L21 (s : (Int32 × (Nat → Nat → Int32))) : Option ((Int32 × (Nat → Nat → Int32)) ⊕ (Int32 × (Nat → Nat → Int32))) :=
  if (4 : Int32) ≤ s.1 then
    some (.inl (s.1, s.2))
  else
    if s.1 = (s.2 25 2) then
      bif zin s.1 4 then
      Option.bind (zloop (f49_tally_24_L56 s.1) 5000 ((0 : Int32), (zu s.2 37 s.1.toNatClampNeg (s.2 25 3)))) fun s8 =>
      bif zin s.1 4 then
      some (.inr ((s.1 + 1), (zu s8.2 24 19 ((s8.2 24 19) - (s8.2 31 s.1.toNatClampNeg)))))
      else none
      else none
    else
      bif zin s.1 4 then
      Option.bind (zloop (f49_tally_24_L56 s.1) 5000 ((0 : Int32), (zu s.2 37 s.1.toNatClampNeg 0))) fun s16 =>
      bif zin s.1 4 then
      some (.inr ((s.1 + 1), (zu s16.2 24 19 ((s16.2 24 19) - (s16.2 31 s.1.toNatClampNeg)))))
      else none
      else none
def f49_tally_24_L116 (s : (Int32 × (Nat → Nat → Int32))) : Option ((Int32 × (Nat → Nat → Int32)) ⊕ (Int32 × (Nat → Nat → Int32))) :=
  if (s.2 1 0) ≤ s.1 then
    some (.inl (s.1, s.2))
  else
    bif zin s.1 4 then
    bif zin (s.2 24 16) 4 then
    if (s.2 37 s.1.toNatClampNeg) ≤ (s.2 37 (s.2 24 16).toNatClampNeg) then
      some (.inr ((s.1 + 1), (zu s.2 24 16 (s.2 24 16))))
    else
      some (.inr ((s.1 + 1), (zu s.2 24 16 s.1)))
    else none
    else none
def f49_tally_24_L167 (I : (Nat → Nat → Int32)) (s : (Int32 × Int32)) : Option ((Int32 × Int32) ⊕ (Int32 × Int32)) :=
  if (I 1 0) ≤ s.2 then
    some (.inl (s.1, s.2))
  else
    if s.2 = (I 24 16) then
      some (.inr (s.1, (s.2 + 1)))
    else
      bif zin s.2 4 then
      some (.inr ((zmax s.1 (I 37 s.2.toNatClampNeg)), (s.2 + 1)))
      else none
def f49_tally_24 (I : (Nat → Nat → Int32)) : Option (Nat → Nat → Int32) :=
  Option.bind (f73_people I) fun t2 =>
  Option.bind (zloop f49_tally_24_L21 5000 ((0 : Int32), (zu I 24 19 (t2 + (I 25 3))))) fun s21 =>
  Option.bind (zloop f49_tally_24_L116 5000 ((1 : Int32), (zu s21.2 24 16 0))) fun s27 =>
  Option.bind (zloop (f49_tally_24_L167 s27.2) 5000 ((0 : Int32), (0 : Int32))) fun s32 =>
  bif zin (s27.2 24 16) 4 then
  bif zin (s27.2 24 16) 4 then
  some (zu (zu s27.2 24 17 (s27.2 3 (s27.2 24 16).toNatClampNeg)) 24 18 ((s27.2 37 (s27.2 24 16).toNatClampNeg) - s32.1))
  else none
  else none
theorem ok_f49_tally_24_L56 {X : zX} {d : Nat} {r : Option Value} {M' : zM} (hd : 2 ≤ d) (v1 : Int32) {J : (Nat → Nat → Int64)} : ∀ (n : Nat) (s x : (Int32 × (Nat → Nat → Int32))), zloop (f49_tally_24_L56 v1) n s = some x → (fun (x : (Int32 × (Nat → Nat → Int32))) => zRun X d 49 88 [some (.ref 24), some (.int v1), none] [] (SH, x.2, J) r M') x → (fun (s : (Int32 × (Nat → Nat → Int32))) => zRun X d 49 56 [some (.ref 24), some (.int v1), some (.int s.1)] [] (SH, s.2, J) r M') s := zloop_ok (Wh := fun (s : (Int32 × (Nat → Nat → Int32))) => zRun X d 49 56 [some (.ref 24), some (.int v1), some (.int s.1)] [] (SH, s.2, J) r M') (Wx := fun (x : (Int32 × (Nat → Nat → Int32))) => zRun X d 49 88 [some (.ref 24), some (.int v1), none] [] (SH, x.2, J) r M') (fun s y h w => by
  unfold f49_tally_24_L56 at h
  refine zr_steps 2 (59, [some (.ref 24), some (.int v1), some (.int s.1)], [.int 8, .int s.1], (SH, s.2, J)) rfl ?_
  refine zr_one (if (8 : Int32) ≤ s.1 then zN 88 [some (.ref 24), some (.int v1), some (.int s.1)] [] (SH, s.2, J) else zN 62 [some (.ref 24), some (.int v1), some (.int s.1)] [] (SH, s.2, J)) rfl (zR_if (fun hc7 => zR_go ?_) (fun hc7 => zR_go ?_))
  · rw [if_pos hc7] at h
    have he := Option.some.inj h
    subst he
    exact zr_hdr rfl rfl (show zRun X d 49 88 [some (.ref 24), some (.int v1), none] [] (SH, s.2, J) r M' from w)
  · rw [if_neg hc7] at h
    refine zr_steps 4 (68, [some (.ref 24), some (.int v1), some (.int s.1)], [.int v1, .ref 37, .int v1, .ref 37], (SH, s.2, J)) rfl ?_
    obtain ⟨hc4, h⟩ := zbifo h
    refine zr_one (bif zin v1 4 then zN 69 [some (.ref 24), some (.int v1), some (.int s.1)] [.int (s.2 37 v1.toNatClampNeg), .int v1, .ref 37] (SH, s.2, J) else none) rfl (zR_bif hc4 (zR_go ?_))
    refine zr_steps 7 (79, [some (.ref 24), some (.int v1), some (.int s.1)], [.int ((v1 * 8) + s.1), .ref 30, .int (s.2 37 v1.toNatClampNeg), .int v1, .ref 37], (SH, s.2, J)) rfl ?_
    obtain ⟨hc5, h⟩ := zbifo h
    refine zr_one (bif zin ((v1 * 8) + s.1) 32 then zN 80 [some (.ref 24), some (.int v1), some (.int s.1)] [.int (s.2 30 ((v1 * 8) + s.1).toNatClampNeg), .int (s.2 37 v1.toNatClampNeg), .int v1, .ref 37] (SH, s.2, J) else none) rfl (zR_bif hc5 (zR_go ?_))
    refine zr_steps 1 (81, [some (.ref 24), some (.int v1), some (.int s.1)], [.int ((s.2 37 v1.toNatClampNeg) + (s.2 30 ((v1 * 8) + s.1).toNatClampNeg)), .int v1, .ref 37], (SH, s.2, J)) rfl ?_
    obtain ⟨hc6, h⟩ := zbifo h
    refine zr_one (bif zin v1 4 then zN 82 [some (.ref 24), some (.int v1), some (.int s.1)] [] (SH, (zu s.2 37 v1.toNatClampNeg ((s.2 37 v1.toNatClampNeg) + (s.2 30 ((v1 * 8) + s.1).toNatClampNeg))), J) else none) rfl (zR_bif hc6 (zR_go ?_))
    refine zr_steps 2 (56, [some (.ref 24), some (.int v1), some (.int (s.1 + 1))], [], (SH, (zu s.2 37 v1.toNatClampNeg ((s.2 37 v1.toNatClampNeg) + (s.2 30 ((v1 * 8) + s.1).toNatClampNeg))), J)) rfl ?_
    have he := Option.some.inj h
    subst he
    exact zr_hdr rfl rfl (show zRun X d 49 56 [some (.ref 24), some (.int v1), some (.int (s.1 + 1))] [] (SH, (zu s.2 37 v1.toNatClampNeg ((s.2 37 v1.toNatClampNeg) + (s.2 30 ((v1 * 8) + s.1).toNatClampNeg))), J) r M' from w))
theorem ok_f49_tally_24_L56 {X : zX} {d : Nat} {r : Option Value} {M' : zM} (hd : 2 ≤ d) (v1 : Int32) {J : (Nat → Nat → Int64)} : ∀ (n : Nat) (s x : (Int32 × (Nat → Nat → Int32))), zloop (f49_tally_24_L56 v1) n s = some x → (fun (x : (Int32 × (Nat → Nat → Int32))) => zRun X d 49 88 [some (.ref 24), some (.int v1), none] [] (SH, x.2, J) r M') x → (fun (s : (Int32 × (Nat → Nat → Int32))) => zRun X d 49 56 [some (.ref 24), some (.int v1), some (.int s.1)] [] (SH, s.2, J) r M') s := zloop_ok (Wh := fun (s : (Int32 × (Nat → Nat → Int32))) => zRun X d 49 56 [some (.ref 24), some (.int v1), some (.int s.1)] [] (SH, s.2, J) r M') (Wx := fun (x : (Int32 × (Nat → Nat → Int32))) => zRun X d 49 88 [some (.ref 24), some (.int v1), none] [] (SH, x.2, J) r M') (fun s y h w => by
  unfold f49_tally_24_L56 at h
  refine zr_steps 2 (59, [some (.ref 24), some (.int v1), some (.int s.1)], [.int 8, .int s.1], (SH, s.2, J)) rfl ?_
  refine zr_one (if (8 : Int32) ≤ s.1 then zN 88 [some (.ref 24), some (.int v1), some (.int s.1)] [] (SH, s.2, J) else zN 62 [some (.ref 24), some (.int v1), some (.int s.1)] [] (SH, s.2, J)) rfl (zR_if (fun hc15 => zR_go ?_) (fun hc15 => zR_go ?_))
  · rw [if_pos hc15] at h
    have he := Option.some.inj h
    subst he
    exact zr_hdr rfl rfl (show zRun X d 49 88 [some (.ref 24), some (.int v1), none] [] (SH, s.2, J) r M' from w)
  · rw [if_neg hc15] at h
    refine zr_steps 4 (68, [some (.ref 24), some (.int v1), some (.int s.1)], [.int v1, .ref 37, .int v1, .ref 37], (SH, s.2, J)) rfl ?_
    obtain ⟨hc12, h⟩ := zbifo h
    refine zr_one (bif zin v1 4 then zN 69 [some (.ref 24), some (.int v1), some (.int s.1)] [.int (s.2 37 v1.toNatClampNeg), .int v1, .ref 37] (SH, s.2, J) else none) rfl (zR_bif hc12 (zR_go ?_))
    refine zr_steps 7 (79, [some (.ref 24), some (.int v1), some (.int s.1)], [.int ((v1 * 8) + s.1), .ref 30, .int (s.2 37 v1.toNatClampNeg), .int v1, .ref 37], (SH, s.2, J)) rfl ?_
    obtain ⟨hc13, h⟩ := zbifo h
    refine zr_one (bif zin ((v1 * 8) + s.1) 32 then zN 80 [some (.ref 24), some (.int v1), some (.int s.1)] [.int (s.2 30 ((v1 * 8) + s.1).toNatClampNeg), .int (s.2 37 v1.toNatClampNeg), .int v1, .ref 37] (SH, s.2, J) else none) rfl (zR_bif hc13 (zR_go ?_))
    refine zr_steps 1 (81, [some (.ref 24), some (.int v1), some (.int s.1)], [.int ((s.2 37 v1.toNatClampNeg) + (s.2 30 ((v1 * 8) + s.1).toNatClampNeg)), .int v1, .ref 37], (SH, s.2, J)) rfl ?_
    obtain ⟨hc14, h⟩ := zbifo h
    refine zr_one (bif zin v1 4 then zN 82 [some (.ref 24), some (.int v1), some (.int s.1)] [] (SH, (zu s.2 37 v1.toNatClampNeg ((s.2 37 v1.toNatClampNeg) + (s.2 30 ((v1 * 8) + s.1).toNatClampNeg))), J) else none) rfl (zR_bif hc14 (zR_go ?_))
    refine zr_steps 2 (56, [some (.ref 24), some (.int v1), some (.int (s.1 + 1))], [], (SH, (zu s.2 37 v1.toNatClampNeg ((s.2 37 v1.toNatClampNeg) + (s.2 30 ((v1 * 8) + s.1).toNatClampNeg))), J)) rfl ?_
    have he := Option.some.inj h
    subst he
    exact zr_hdr rfl rfl (show zRun X d 49 56 [some (.ref 24), some (.int v1), some (.int (s.1 + 1))] [] (SH, (zu s.2 37 v1.toNatClampNeg ((s.2 37 v1.toNatClampNeg) + (s.2 30 ((v1 * 8) + s.1).toNatClampNeg))), J) r M' from w))
theorem ok_f49_tally_24_L21 {X : zX} {d : Nat} {r : Option Value} {M' : zM} (hd : 2 ≤ d) {J : (Nat → Nat → Int64)} : ∀ (n : Nat) (s x : (Int32 × (Nat → Nat → Int32))), zloop f49_tally_24_L21 n s = some x → (fun (x : (Int32 × (Nat → Nat → Int32))) => zRun X d 49 109 [some (.ref 24), none, none] [] (SH, x.2, J) r M') x → (fun (s : (Int32 × (Nat → Nat → Int32))) => zRun X d 49 21 [some (.ref 24), some (.int s.1), none] [] (SH, s.2, J) r M') s := zloop_ok (Wh := fun (s : (Int32 × (Nat → Nat → Int32))) => zRun X d 49 21 [some (.ref 24), some (.int s.1), none] [] (SH, s.2, J) r M') (Wx := fun (x : (Int32 × (Nat → Nat → Int32))) => zRun X d 49 109 [some (.ref 24), none, none] [] (SH, x.2, J) r M') (fun s y h w => by
  unfold f49_tally_24_L21 at h
  refine zr_steps 2 (23, [some (.ref 24), some (.int s.1), none], [.int 4, .int s.1], (SH, s.2, J)) rfl ?_
  refine zr_one (if (4 : Int32) ≤ s.1 then zN 109 [some (.ref 24), some (.int s.1), none] [] (SH, s.2, J) else zN 26 [some (.ref 24), some (.int s.1), none] [] (SH, s.2, J)) rfl (zR_if (fun hc20 => zR_go ?_) (fun hc20 => zR_go ?_))
  · rw [if_pos hc20] at h
    have he := Option.some.inj h
    subst he
    exact zr_hdr rfl rfl (show zRun X d 49 109 [some (.ref 24), none, none] [] (SH, s.2, J) r M' from w)
  · rw [if_neg hc20] at h
    refine zr_steps 7 (39, [some (.ref 24), some (.int s.1), none], [.int (s.2 25 2), .int s.1, .int s.1, .ref 37], (SH, s.2, J)) rfl ?_
    refine zr_one (if s.1 = (s.2 25 2) then zN 42 [some (.ref 24), some (.int s.1), none] [.int s.1, .ref 37] (SH, s.2, J) else zN 52 [some (.ref 24), some (.int s.1), none] [.int s.1, .ref 37] (SH, s.2, J)) rfl (zR_if (fun hc19 => zR_go ?_) (fun hc19 => zR_go ?_))
    · rw [if_pos hc19] at h
      refine zr_steps 4 (53, [some (.ref 24), some (.int s.1), none], [.int (s.2 25 3), .int s.1, .ref 37], (SH, s.2, J)) rfl ?_
      obtain ⟨hc3, h⟩ := zbifo h
      refine zr_one (bif zin s.1 4 then zN 54 [some (.ref 24), some (.int s.1), none] [] (SH, (zu s.2 37 s.1.toNatClampNeg (s.2 25 3)), J) else none) rfl (zR_bif hc3 (zR_go ?_))
      refine zr_steps 2 (56, [some (.ref 24), some (.int s.1), some (.int 0)], [], (SH, (zu s.2 37 s.1.toNatClampNeg (s.2 25 3)), J)) rfl ?_
      obtain ⟨s8, ho9, h⟩ := zbind h
      refine zr_hdr (ls2 := [some (.ref 24), some (.int s.1), some (.int 0)]) rfl rfl ?_
      refine ok_f49_tally_24_L56 (by omega) s.1 5000 ((0 : Int32), (zu s.2 37 s.1.toNatClampNeg (s.2 25 3))) s8 ho9 ?_
      show zRun X d 49 88 [some (.ref 24), some (.int s.1), none] [] (SH, s8.2, J) _ _
      refine zr_steps 6 (98, [some (.ref 24), some (.int s.1), none], [.int s.1, .ref 31, .int (s8.2 24 19), .ref 24], (SH, s8.2, J)) rfl ?_
      obtain ⟨hc10, h⟩ := zbifo h
      refine zr_one (bif zin s.1 4 then zN 99 [some (.ref 24), some (.int s.1), none] [.int (s8.2 31 s.1.toNatClampNeg), .int (s8.2 24 19), .ref 24] (SH, s8.2, J) else none) rfl (zR_bif hc10 (zR_go ?_))
      refine zr_steps 4 (21, [some (.ref 24), some (.int (s.1 + 1)), none], [], (SH, (zu s8.2 24 19 ((s8.2 24 19) - (s8.2 31 s.1.toNatClampNeg))), J)) rfl ?_
      have he := Option.some.inj h
      subst he
      exact zr_hdr rfl rfl (show zRun X d 49 21 [some (.ref 24), some (.int (s.1 + 1)), none] [] (SH, (zu s8.2 24 19 ((s8.2 24 19) - (s8.2 31 s.1.toNatClampNeg))), J) r M' from w)
    · rw [if_neg hc19] at h
      refine zr_steps 1 (53, [some (.ref 24), some (.int s.1), none], [.int 0, .int s.1, .ref 37], (SH, s.2, J)) rfl ?_
      obtain ⟨hc11, h⟩ := zbifo h
      refine zr_one (bif zin s.1 4 then zN 54 [some (.ref 24), some (.int s.1), none] [] (SH, (zu s.2 37 s.1.toNatClampNeg 0), J) else none) rfl (zR_bif hc11 (zR_go ?_))
      refine zr_steps 2 (56, [some (.ref 24), some (.int s.1), some (.int 0)], [], (SH, (zu s.2 37 s.1.toNatClampNeg 0), J)) rfl ?_
      obtain ⟨s16, ho17, h⟩ := zbind h
      refine zr_hdr (ls2 := [some (.ref 24), some (.int s.1), some (.int 0)]) rfl rfl ?_
      refine ok_f49_tally_24_L56 (by omega) s.1 5000 ((0 : Int32), (zu s.2 37 s.1.toNatClampNeg 0)) s16 ho17 ?_
      show zRun X d 49 88 [some (.ref 24), some (.int s.1), none] [] (SH, s16.2, J) _ _
      refine zr_steps 6 (98, [some (.ref 24), some (.int s.1), none], [.int s.1, .ref 31, .int (s16.2 24 19), .ref 24], (SH, s16.2, J)) rfl ?_
      obtain ⟨hc18, h⟩ := zbifo h
      refine zr_one (bif zin s.1 4 then zN 99 [some (.ref 24), some (.int s.1), none] [.int (s16.2 31 s.1.toNatClampNeg), .int (s16.2 24 19), .ref 24] (SH, s16.2, J) else none) rfl (zR_bif hc18 (zR_go ?_))
      refine zr_steps 4 (21, [some (.ref 24), some (.int (s.1 + 1)), none], [], (SH, (zu s16.2 24 19 ((s16.2 24 19) - (s16.2 31 s.1.toNatClampNeg))), J)) rfl ?_
      have he := Option.some.inj h
      subst he
      exact zr_hdr rfl rfl (show zRun X d 49 21 [some (.ref 24), some (.int (s.1 + 1)), none] [] (SH, (zu s16.2 24 19 ((s16.2 24 19) - (s16.2 31 s.1.toNatClampNeg))), J) r M' from w))
theorem ok_f49_tally_24_L116 {X : zX} {d : Nat} {r : Option Value} {M' : zM} (hd : 2 ≤ d) {J : (Nat → Nat → Int64)} : ∀ (n : Nat) (s x : (Int32 × (Nat → Nat → Int32))), zloop f49_tally_24_L116 n s = some x → (fun (x : (Int32 × (Nat → Nat → Int32))) => zRun X d 49 163 [some (.ref 24), none, none] [] (SH, x.2, J) r M') x → (fun (s : (Int32 × (Nat → Nat → Int32))) => zRun X d 49 116 [some (.ref 24), some (.int s.1), none] [] (SH, s.2, J) r M') s := zloop_ok (Wh := fun (s : (Int32 × (Nat → Nat → Int32))) => zRun X d 49 116 [some (.ref 24), some (.int s.1), none] [] (SH, s.2, J) r M') (Wx := fun (x : (Int32 × (Nat → Nat → Int32))) => zRun X d 49 163 [some (.ref 24), none, none] [] (SH, x.2, J) r M') (fun s y h w => by
  unfold f49_tally_24_L116 at h
  refine zr_steps 4 (124, [some (.ref 24), some (.int s.1), none], [.int (s.2 1 0), .int s.1], (SH, s.2, J)) rfl ?_
  refine zr_one (if (s.2 1 0) ≤ s.1 then zN 163 [some (.ref 24), some (.int s.1), none] [] (SH, s.2, J) else zN 127 [some (.ref 24), some (.int s.1), none] [] (SH, s.2, J)) rfl (zR_if (fun hc26 => zR_go ?_) (fun hc26 => zR_go ?_))
  · rw [if_pos hc26] at h
    have he := Option.some.inj h
    subst he
    exact zr_hdr rfl rfl (show zRun X d 49 163 [some (.ref 24), none, none] [] (SH, s.2, J) r M' from w)
  · rw [if_neg hc26] at h
    refine zr_steps 4 (133, [some (.ref 24), some (.int s.1), none], [.int s.1, .ref 37, .ref 24], (SH, s.2, J)) rfl ?_
    obtain ⟨hc23, h⟩ := zbifo h
    refine zr_one (bif zin s.1 4 then zN 134 [some (.ref 24), some (.int s.1), none] [.int (s.2 37 s.1.toNatClampNeg), .ref 24] (SH, s.2, J) else none) rfl (zR_bif hc23 (zR_go ?_))
    refine zr_steps 4 (142, [some (.ref 24), some (.int s.1), none], [.int (s.2 24 16), .ref 37, .int (s.2 37 s.1.toNatClampNeg), .ref 24], (SH, s.2, J)) rfl ?_
    obtain ⟨hc24, h⟩ := zbifo h
    refine zr_one (bif zin (s.2 24 16) 4 then zN 143 [some (.ref 24), some (.int s.1), none] [.int (s.2 37 (s.2 24 16).toNatClampNeg), .int (s.2 37 s.1.toNatClampNeg), .ref 24] (SH, s.2, J) else none) rfl (zR_bif hc24 (zR_go ?_))
    refine zr_one (if (s.2 37 s.1.toNatClampNeg) ≤ (s.2 37 (s.2 24 16).toNatClampNeg) then zN 150 [some (.ref 24), some (.int s.1), none] [.ref 24] (SH, s.2, J) else zN 146 [some (.ref 24), some (.int s.1), none] [.ref 24] (SH, s.2, J)) rfl (zR_if (fun hc25 => zR_go ?_) (fun hc25 => zR_go ?_))
    · rw [if_pos hc25] at h
      refine zr_steps 5 (116, [some (.ref 24), some (.int (s.1 + 1)), none], [], (SH, (zu s.2 24 16 (s.2 24 16)), J)) rfl ?_
      have he := Option.some.inj h
      subst he
      exact zr_hdr rfl rfl (show zRun X d 49 116 [some (.ref 24), some (.int (s.1 + 1)), none] [] (SH, (zu s.2 24 16 (s.2 24 16)), J) r M' from w)
    · rw [if_neg hc25] at h
      refine zr_steps 5 (116, [some (.ref 24), some (.int (s.1 + 1)), none], [], (SH, (zu s.2 24 16 s.1), J)) rfl ?_
      have he := Option.some.inj h
      subst he
      exact zr_hdr rfl rfl (show zRun X d 49 116 [some (.ref 24), some (.int (s.1 + 1)), none] [] (SH, (zu s.2 24 16 s.1), J) r M' from w))
theorem ok_f49_tally_24_L167 {X : zX} {d : Nat} {r : Option Value} {M' : zM} (hd : 2 ≤ d) {I : (Nat → Nat → Int32)} {J : (Nat → Nat → Int64)} : ∀ (n : Nat) (s x : (Int32 × Int32)), zloop (f49_tally_24_L167 I) n s = some x → (fun (x : (Int32 × Int32)) => zRun X d 49 207 [some (.ref 24), some (.int x.1), none] [] (SH, I, J) r M') x → (fun (s : (Int32 × Int32)) => zRun X d 49 167 [some (.ref 24), some (.int s.1), some (.int s.2)] [] (SH, I, J) r M') s := zloop_ok (Wh := fun (s : (Int32 × Int32)) => zRun X d 49 167 [some (.ref 24), some (.int s.1), some (.int s.2)] [] (SH, I, J) r M') (Wx := fun (x : (Int32 × Int32)) => zRun X d 49 207 [some (.ref 24), some (.int x.1), none] [] (SH, I, J) r M') (fun s y h w => by
  unfold f49_tally_24_L167 at h
  refine zr_steps 4 (175, [some (.ref 24), some (.int s.1), some (.int s.2)], [.int (I 1 0), .int s.2], (SH, I, J)) rfl ?_
  refine zr_one (if (I 1 0) ≤ s.2 then zN 207 [some (.ref 24), some (.int s.1), some (.int s.2)] [] (SH, I, J) else zN 178 [some (.ref 24), some (.int s.1), some (.int s.2)] [] (SH, I, J)) rfl (zR_if (fun hc31 => zR_go ?_) (fun hc31 => zR_go ?_))
  · rw [if_pos hc31] at h
    have he := Option.some.inj h
    subst he
    exact zr_hdr rfl rfl (show zRun X d 49 207 [some (.ref 24), some (.int s.1), none] [] (SH, I, J) r M' from w)
  · rw [if_neg hc31] at h
    refine zr_steps 3 (183, [some (.ref 24), some (.int s.1), some (.int s.2)], [.int (I 24 16), .int s.2], (SH, I, J)) rfl ?_
    refine zr_one (if s.2 = (I 24 16) then zN 199 [some (.ref 24), some (.int s.1), some (.int s.2)] [] (SH, I, J) else zN 186 [some (.ref 24), some (.int s.1), some (.int s.2)] [] (SH, I, J)) rfl (zR_if (fun hc30 => zR_go ?_) (fun hc30 => zR_go ?_))
    · rw [if_pos hc30] at h
      refine zr_steps 4 (167, [some (.ref 24), some (.int s.1), some (.int (s.2 + 1))], [], (SH, I, J)) rfl ?_
      have he := Option.some.inj h
      subst he
      exact zr_hdr rfl rfl (show zRun X d 49 167 [some (.ref 24), some (.int s.1), some (.int (s.2 + 1))] [] (SH, I, J) r M' from w)
    · rw [if_neg hc30] at h
      refine zr_steps 4 (192, [some (.ref 24), some (.int s.1), some (.int s.2)], [.int s.2, .ref 37, .int s.1], (SH, I, J)) rfl ?_
      obtain ⟨hc29, h⟩ := zbifo h
      refine zr_one (bif zin s.2 4 then zN 193 [some (.ref 24), some (.int s.1), some (.int s.2)] [.int (I 37 s.2.toNatClampNeg), .int s.1] (SH, I, J) else none) rfl (zR_bif hc29 (zR_go ?_))
      refine zr_steps 5 (167, [some (.ref 24), some (.int (zmax s.1 (I 37 s.2.toNatClampNeg))), some (.int (s.2 + 1))], [], (SH, I, J)) rfl ?_
      have he := Option.some.inj h
      subst he
      exact zr_hdr rfl rfl (show zRun X d 49 167 [some (.ref 24), some (.int (zmax s.1 (I 37 s.2.toNatClampNeg))), some (.int (s.2 + 1))] [] (SH, I, J) r M' from w))
theorem ok_f49_tally_24 {X : zX} {d : Nat} (hd : 2 ≤ d) {I : (Nat → Nat → Int32)} {J : (Nat → Nat → Int64)} (t : (Nat → Nat → Int32)) (h : f49_tally_24 I = some t) : zRun X d 49 0 (zent 49 [.ref 24]) [] (SH, I, J) none (SH, t, J) := by
  unfold f49_tally_24 at h
  refine zr_steps 3 (5, [some (.ref 24), none, none], [.ref 1, .ref 24], (SH, I, J)) rfl ?_
  obtain ⟨t2, hc1, h⟩ := zbind h
  refine zr_one (some (.inr (.inl (73, [.ref 1], [.ref 24], 8)))) rfl (zR_call (by omega) rfl (ok_f73_people (by omega)  _ hc1) ?_)
  refine zr_steps 7 (21, [some (.ref 24), some (.int 0), none], [], (SH, (zu I 24 19 (t2 + (I 25 3))), J)) rfl ?_
  obtain ⟨s21, ho22, h⟩ := zbind h
  refine zr_hdr (ls2 := [some (.ref 24), some (.int 0), none]) rfl rfl ?_
  refine ok_f49_tally_24_L21 (by omega) 5000 ((0 : Int32), (zu I 24 19 (t2 + (I 25 3)))) s21 ho22 ?_
  show zRun X d 49 109 [some (.ref 24), none, none] [] (SH, s21.2, J) _ _
  refine zr_steps 5 (116, [some (.ref 24), some (.int 1), none], [], (SH, (zu s21.2 24 16 0), J)) rfl ?_
  obtain ⟨s27, ho28, h⟩ := zbind h
  refine zr_hdr (ls2 := [some (.ref 24), some (.int 1), none]) rfl rfl ?_
  refine ok_f49_tally_24_L116 (by omega) 5000 ((1 : Int32), (zu s21.2 24 16 0)) s27 ho28 ?_
  show zRun X d 49 163 [some (.ref 24), none, none] [] (SH, s27.2, J) _ _
  refine zr_steps 4 (167, [some (.ref 24), some (.int 0), some (.int 0)], [], (SH, s27.2, J)) rfl ?_
  obtain ⟨s32, ho33, h⟩ := zbind h
  refine zr_hdr (ls2 := [some (.ref 24), some (.int 0), some (.int 0)]) rfl rfl ?_
  refine ok_f49_tally_24_L167 (by omega) 5000 ((0 : Int32), (0 : Int32)) s32 ho33 ?_
  show zRun X d 49 207 [some (.ref 24), some (.int s32.1), none] [] (SH, s27.2, J) _ _
  refine zr_steps 6 (219, [some (.ref 24), some (.int s32.1), none], [.int (s27.2 24 16), .ref 3, .ref 24], (SH, s27.2, J)) rfl ?_
  obtain ⟨hc34, h⟩ := zbifo h
  refine zr_one (bif zin (s27.2 24 16) 4 then zN 220 [some (.ref 24), some (.int s32.1), none] [.int (s27.2 3 (s27.2 24 16).toNatClampNeg), .ref 24] (SH, s27.2, J) else none) rfl (zR_bif hc34 (zR_go ?_))
  refine zr_steps 6 (232, [some (.ref 24), some (.int s32.1), none], [.int (s27.2 24 16), .ref 37, .ref 24], (SH, (zu s27.2 24 17 (s27.2 3 (s27.2 24 16).toNatClampNeg)), J)) rfl ?_
  obtain ⟨hc35, h⟩ := zbifo h
  refine zr_one (bif zin (s27.2 24 16) 4 then zN 233 [some (.ref 24), some (.int s32.1), none] [.int (s27.2 37 (s27.2 24 16).toNatClampNeg), .ref 24] (SH, (zu s27.2 24 17 (s27.2 3 (s27.2 24 16).toNatClampNeg)), J) else none) rfl (zR_bif hc35 (zR_go ?_))
  refine zr_steps 3 (238, [some (.ref 24), some (.int s32.1), none], [], (SH, (zu (zu s27.2 24 17 (s27.2 3 (s27.2 24 16).toNatClampNeg)) 24 18 ((s27.2 37 (s27.2 24 16).toNatClampNeg) - s32.1)), J)) rfl ?_
  have he := Option.some.inj h
  subst he
  exact zr_one (some (.inr (.inr none))) rfl (zR_ret rfl rfl)
def f40_pass_24_L6 (s : (Int32 × (Nat → Nat → Int32))) : Option ((Int32 × (Nat → Nat → Int32)) ⊕ (Int32 × (Nat → Nat → Int32))) :=
  if (s.2 25 0) ≤ s.1 then
    some (.inl (s.1, s.2))
  else
    Option.bind (f42_see_24 s.1 s.2) fun t4 =>
    Option.bind (f44_arrive_24 s.1 t4) fun t6 =>
    Option.bind (f45_go_24 s.1 t6) fun t8 =>
    Option.bind (f48_end_24 s.1 t8) fun t10 =>
    some (.inr ((s.1 + 1), t10))
def f40_pass_24 (I : (Nat → Nat → Int32)) : Option (Nat → Nat → Int32) :=
  Option.bind (f41_begin_24 I) fun t2 =>
  Option.bind (zloop f40_pass_24_L6 5000 ((0 : Int32), t2)) fun s12 =>
  Option.bind (f44_arrive_24 (s12.2 25 0) s12.2) fun t15 =>
  Option.bind (f48_end_24 (t15 25 0) t15) fun t17 =>
  Option.bind (f49_tally_24 t17) fun t19 =>
  some t19
theorem ok_f40_pass_24_L6 {X : zX} {d : Nat} {r : Option Value} {M' : zM} (hd : 6 ≤ d) {J : (Nat → Nat → Int64)} : ∀ (n : Nat) (s x : (Int32 × (Nat → Nat → Int32))), zloop f40_pass_24_L6 n s = some x → (fun (x : (Int32 × (Nat → Nat → Int32))) => zRun X d 40 43 [some (.ref 24), none] [] (SH, x.2, J) r M') x → (fun (s : (Int32 × (Nat → Nat → Int32))) => zRun X d 40 6 [some (.ref 24), some (.int s.1)] [] (SH, s.2, J) r M') s := zloop_ok (Wh := fun (s : (Int32 × (Nat → Nat → Int32))) => zRun X d 40 6 [some (.ref 24), some (.int s.1)] [] (SH, s.2, J) r M') (Wx := fun (x : (Int32 × (Nat → Nat → Int32))) => zRun X d 40 43 [some (.ref 24), none] [] (SH, x.2, J) r M') (fun s y h w => by
  unfold f40_pass_24_L6 at h
  refine zr_steps 4 (14, [some (.ref 24), some (.int s.1)], [.int (s.2 25 0), .int s.1], (SH, s.2, J)) rfl ?_
  refine zr_one (if (s.2 25 0) ≤ s.1 then zN 43 [some (.ref 24), some (.int s.1)] [] (SH, s.2, J) else zN 17 [some (.ref 24), some (.int s.1)] [] (SH, s.2, J)) rfl (zR_if (fun hc11 => zR_go ?_) (fun hc11 => zR_go ?_))
  · rw [if_pos hc11] at h
    have he := Option.some.inj h
    subst he
    exact zr_hdr rfl rfl (show zRun X d 40 43 [some (.ref 24), none] [] (SH, s.2, J) r M' from w)
  · rw [if_neg hc11] at h
    refine zr_steps 2 (19, [some (.ref 24), some (.int s.1)], [.int s.1, .ref 24], (SH, s.2, J)) rfl ?_
    obtain ⟨t4, hc3, h⟩ := zbind h
    refine zr_one (some (.inr (.inl (42, [.ref 24, .int s.1], [], 22)))) rfl (zR_call (by omega) rfl (ok_f42_see_24 (by omega) s.1 _ hc3) ?_)
    refine zr_steps 2 (24, [some (.ref 24), some (.int s.1)], [.int s.1, .ref 24], (SH, t4, J)) rfl ?_
    obtain ⟨t6, hc5, h⟩ := zbind h
    refine zr_one (some (.inr (.inl (44, [.ref 24, .int s.1], [], 27)))) rfl (zR_call (by omega) rfl (ok_f44_arrive_24 (by omega) s.1 _ hc5) ?_)
    refine zr_steps 2 (29, [some (.ref 24), some (.int s.1)], [.int s.1, .ref 24], (SH, t6, J)) rfl ?_
    obtain ⟨t8, hc7, h⟩ := zbind h
    refine zr_one (some (.inr (.inl (45, [.ref 24, .int s.1], [], 32)))) rfl (zR_call (by omega) rfl (ok_f45_go_24 (by omega) s.1 _ hc7) ?_)
    refine zr_steps 2 (34, [some (.ref 24), some (.int s.1)], [.int s.1, .ref 24], (SH, t8, J)) rfl ?_
    obtain ⟨t10, hc9, h⟩ := zbind h
    refine zr_one (some (.inr (.inl (48, [.ref 24, .int s.1], [], 37)))) rfl (zR_call (by omega) rfl (ok_f48_end_24 (by omega) s.1 _ hc9) ?_)
    refine zr_steps 2 (6, [some (.ref 24), some (.int (s.1 + 1))], [], (SH, t10, J)) rfl ?_
    have he := Option.some.inj h
    subst he
    exact zr_hdr rfl rfl (show zRun X d 40 6 [some (.ref 24), some (.int (s.1 + 1))] [] (SH, t10, J) r M' from w))
theorem ok_f40_pass_24 {X : zX} {d : Nat} (hd : 6 ≤ d) {I : (Nat → Nat → Int32)} {J : (Nat → Nat → Int64)} (t : (Nat → Nat → Int32)) (h : f40_pass_24 I = some t) : zRun X d 40 0 (zent 40 [.ref 24]) [] (SH, I, J) none (SH, t, J) := by
  unfold f40_pass_24 at h
  refine zr_steps 1 (1, [some (.ref 24), none], [.ref 24], (SH, I, J)) rfl ?_
  obtain ⟨t2, hc1, h⟩ := zbind h
  refine zr_one (some (.inr (.inl (41, [.ref 24], [], 4)))) rfl (zR_call (by omega) rfl (ok_f41_begin_24 (by omega)  _ hc1) ?_)
  refine zr_steps 2 (6, [some (.ref 24), some (.int 0)], [], (SH, t2, J)) rfl ?_
  obtain ⟨s12, ho13, h⟩ := zbind h
  refine zr_hdr (ls2 := [some (.ref 24), some (.int 0)]) rfl rfl ?_
  refine ok_f40_pass_24_L6 (by omega) 5000 ((0 : Int32), t2) s12 ho13 ?_
  show zRun X d 40 43 [some (.ref 24), none] [] (SH, s12.2, J) _ _
  refine zr_steps 4 (51, [some (.ref 24), none], [.int (s12.2 25 0), .ref 24], (SH, s12.2, J)) rfl ?_
  obtain ⟨t15, hc14, h⟩ := zbind h
  refine zr_one (some (.inr (.inl (44, [.ref 24, .int (s12.2 25 0)], [], 54)))) rfl (zR_call (by omega) rfl (ok_f44_arrive_24 (by omega) (s12.2 25 0) _ hc14) ?_)
  refine zr_steps 4 (62, [some (.ref 24), none], [.int (t15 25 0), .ref 24], (SH, t15, J)) rfl ?_
  obtain ⟨t17, hc16, h⟩ := zbind h
  refine zr_one (some (.inr (.inl (48, [.ref 24, .int (t15 25 0)], [], 65)))) rfl (zR_call (by omega) rfl (ok_f48_end_24 (by omega) (t15 25 0) _ hc16) ?_)
  refine zr_steps 1 (66, [some (.ref 24), none], [.ref 24], (SH, t17, J)) rfl ?_
  obtain ⟨t19, hc18, h⟩ := zbind h
  refine zr_one (some (.inr (.inl (49, [.ref 24], [], 69)))) rfl (zR_call (by omega) rfl (ok_f49_tally_24 (by omega)  _ hc18) ?_)
  have he := Option.some.inj h
  subst he
  exact zr_one (some (.inr (.inr none))) rfl (zR_ret rfl rfl)
def f96_run (I : (Nat → Nat → Int32)) : Option (Int32 × (Nat → Nat → Int32)) :=
  if (I 1 0) = 0 then
    some ((-5), I)
  else
    Option.bind (f81_asIn_25 I) fun t2 =>
    Option.bind (f40_pass_24 t2) fun t4 =>
    some ((t4 24 17), (zu t4 0 7 1))
theorem ok_f96_run {X : zX} {d : Nat} (hd : 7 ≤ d) {I : (Nat → Nat → Int32)} {J : (Nat → Nat → Int64)} (t : (Int32 × (Nat → Nat → Int32))) (h : f96_run I = some t) : zRun X d 96 0 (zent 96 [.ref 0]) [] (SH, I, J) (some (.int t.1)) (SH, t.2, J) := by
  unfold f96_run at h
  refine zr_steps 3 (7, [some (.ref 0)], [.int (I 1 0)], (SH, I, J)) rfl ?_
  refine zr_one (if (I 1 0) = 0 then zN 10 [some (.ref 0)] [] (SH, I, J) else zN 13 [some (.ref 0)] [] (SH, I, J)) rfl (zR_if (fun hc5 => zR_go ?_) (fun hc5 => zR_go ?_))
  · rw [if_pos hc5] at h
    refine zr_steps 1 (12, [some (.ref 0)], [.int (-5)], (SH, I, J)) rfl ?_
    have he := Option.some.inj h
    subst he
    exact zr_one (some (.inr (.inr (some (.int (-5)))))) rfl (zR_ret rfl rfl)
  · rw [if_neg hc5] at h
    refine zr_steps 5 (24, [some (.ref 0)], [.ref 1, .ref 25], (SH, I, J)) rfl ?_
    obtain ⟨t2, hc1, h⟩ := zbind h
    refine zr_one (some (.inr (.inl (81, [.ref 25, .ref 1], [], 27)))) rfl (zR_call (by omega) rfl (ok_f81_asIn_25 (by omega)  _ hc1) ?_)
    refine zr_steps 2 (31, [some (.ref 0)], [.ref 24], (SH, t2, J)) rfl ?_
    obtain ⟨t4, hc3, h⟩ := zbind h
    refine zr_one (some (.inr (.inl (40, [.ref 24], [], 34)))) rfl (zR_call (by omega) rfl (ok_f40_pass_24 (by omega)  _ hc3) ?_)
    refine zr_steps 2 (36, [some (.ref 0)], [.int 1, .ref 0], (SH, t4, J)) rfl ?_
    refine zr_one (if (1 : Int32) = 0 ∨ (1 : Int32) = 1 then zN 39 [some (.ref 0)] [] (SH, (zu t4 0 7 1), J) else none) rfl (zR_pos (by decide) (zR_go ?_))
    refine zr_steps 3 (46, [some (.ref 0)], [.int (t4 24 17)], (SH, (zu t4 0 7 1), J)) rfl ?_
    have he := Option.some.inj h
    subst he
    exact zr_one (some (.inr (.inr (some (.int (t4 24 17)))))) rfl (zR_ret rfl rfl)
def f166_inSquare_L26 (v1 : Int32) (I : (Nat → Nat → Int32)) (s : (Int32 × Int32)) : Option ((Int32 × Int32) ⊕ (Int32 × Int32)) :=
  if (I 73 9) ≤ s.2 then
    some (.inl (s.1, s.2))
  else
    bif zin ((8 * v1) + s.2) 32 then
    some (.inr ((s.1 + (I 97 ((8 * v1) + s.2).toNatClampNeg)), (s.2 + 1)))
    else none
def f166_inSquare_L26 (v1 : Int32) (I : (Nat → Nat → Int32)) (s : (Int32 × Int32)) : Option ((Int32 × Int32) ⊕ (Int32 × Int32)) :=
  if (I 73 9) ≤ s.2 then
    some (.inl (s.1, s.2))
  else
    bif zin ((8 * v1) + s.2) 32 then
    some (.inr ((s.1 + (I 97 ((8 * v1) + s.2).toNatClampNeg)), (s.2 + 1)))
    else none
def f166_inSquare_L26 (v1 : Int32) (I : (Nat → Nat → Int32)) (s : (Int32 × Int32)) : Option ((Int32 × Int32) ⊕ (Int32 × Int32)) :=
  if (I 73 9) ≤ s.2 then
    some (.inl (s.1, s.2))
  else
    bif zin ((8 * v1) + s.2) 32 then
    some (.inr ((s.1 + (I 97 ((8 * v1) + s.2).toNatClampNeg)), (s.2 + 1)))
    else none
def f166_inSquare (v1 : Int32) (I : (Nat → Nat → Int32)) : Option Int32 :=
  if (I 73 45) ≤ 0 then
    Option.bind (zloop (f166_inSquare_L26 v1 I) 5000 ((0 : Int32), (0 : Int32))) fun s3 =>
    some s3.1
  else
    if v1 = (I 73 46) then
      Option.bind (zloop (f166_inSquare_L26 v1 I) 5000 ((I 73 45), (0 : Int32))) fun s7 =>
      some s7.1
    else
      Option.bind (zloop (f166_inSquare_L26 v1 I) 5000 ((0 : Int32), (0 : Int32))) fun s11 =>
      some s11.1
theorem ok_f166_inSquare_L26 {X : zX} {d : Nat} {r : Option Value} {M' : zM} (hd : 0 ≤ d) (v1 : Int32) {I : (Nat → Nat → Int32)} {J : (Nat → Nat → Int64)} : ∀ (n : Nat) (s x : (Int32 × Int32)), zloop (f166_inSquare_L26 v1 I) n s = some x → (fun (x : (Int32 × Int32)) => zRun X d 166 54 [none, none, some (.int x.1), none] [] (SH, I, J) r M') x → (fun (s : (Int32 × Int32)) => zRun X d 166 26 [some (.ref 73), some (.int v1), some (.int s.1), some (.int s.2)] [] (SH, I, J) r M') s := zloop_ok (Wh := fun (s : (Int32 × Int32)) => zRun X d 166 26 [some (.ref 73), some (.int v1), some (.int s.1), some (.int s.2)] [] (SH, I, J) r M') (Wx := fun (x : (Int32 × Int32)) => zRun X d 166 54 [none, none, some (.int x.1), none] [] (SH, I, J) r M') (fun s y h w => by
  unfold f166_inSquare_L26 at h
  refine zr_steps 3 (31, [some (.ref 73), some (.int v1), some (.int s.1), some (.int s.2)], [.int (I 73 9), .int s.2], (SH, I, J)) rfl ?_
  refine zr_one (if (I 73 9) ≤ s.2 then zN 54 [some (.ref 73), some (.int v1), some (.int s.1), some (.int s.2)] [] (SH, I, J) else zN 34 [some (.ref 73), some (.int v1), some (.int s.1), some (.int s.2)] [] (SH, I, J)) rfl (zR_if (fun hc2 => zR_go ?_) (fun hc2 => zR_go ?_))
  · rw [if_pos hc2] at h
    have he := Option.some.inj h
    subst he
    exact zr_hdr rfl rfl (show zRun X d 166 54 [none, none, some (.int s.1), none] [] (SH, I, J) r M' from w)
  · rw [if_neg hc2] at h
    refine zr_steps 8 (45, [some (.ref 73), some (.int v1), some (.int s.1), some (.int s.2)], [.int ((8 * v1) + s.2), .ref 97, .int s.1], (SH, I, J)) rfl ?_
    obtain ⟨hc1, h⟩ := zbifo h
    refine zr_one (bif zin ((8 * v1) + s.2) 32 then zN 46 [some (.ref 73), some (.int v1), some (.int s.1), some (.int s.2)] [.int (I 97 ((8 * v1) + s.2).toNatClampNeg), .int s.1] (SH, I, J) else none) rfl (zR_bif hc1 (zR_go ?_))
    refine zr_steps 4 (26, [some (.ref 73), some (.int v1), some (.int (s.1 + (I 97 ((8 * v1) + s.2).toNatClampNeg))), some (.int (s.2 + 1))], [], (SH, I, J)) rfl ?_
    have he := Option.some.inj h
    subst he
    exact zr_hdr rfl rfl (show zRun X d 166 26 [some (.ref 73), some (.int v1), some (.int (s.1 + (I 97 ((8 * v1) + s.2).toNatClampNeg))), some (.int (s.2 + 1))] [] (SH, I, J) r M' from w))
theorem ok_f166_inSquare_L26 {X : zX} {d : Nat} {r : Option Value} {M' : zM} (hd : 0 ≤ d) (v1 : Int32) {I : (Nat → Nat → Int32)} {J : (Nat → Nat → Int64)} : ∀ (n : Nat) (s x : (Int32 × Int32)), zloop (f166_inSquare_L26 v1 I) n s = some x → (fun (x : (Int32 × Int32)) => zRun X d 166 54 [none, none, some (.int x.1), none] [] (SH, I, J) r M') x → (fun (s : (Int32 × Int32)) => zRun X d 166 26 [some (.ref 73), some (.int v1), some (.int s.1), some (.int s.2)] [] (SH, I, J) r M') s := zloop_ok (Wh := fun (s : (Int32 × Int32)) => zRun X d 166 26 [some (.ref 73), some (.int v1), some (.int s.1), some (.int s.2)] [] (SH, I, J) r M') (Wx := fun (x : (Int32 × Int32)) => zRun X d 166 54 [none, none, some (.int x.1), none] [] (SH, I, J) r M') (fun s y h w => by
  unfold f166_inSquare_L26 at h
  refine zr_steps 3 (31, [some (.ref 73), some (.int v1), some (.int s.1), some (.int s.2)], [.int (I 73 9), .int s.2], (SH, I, J)) rfl ?_
  refine zr_one (if (I 73 9) ≤ s.2 then zN 54 [some (.ref 73), some (.int v1), some (.int s.1), some (.int s.2)] [] (SH, I, J) else zN 34 [some (.ref 73), some (.int v1), some (.int s.1), some (.int s.2)] [] (SH, I, J)) rfl (zR_if (fun hc6 => zR_go ?_) (fun hc6 => zR_go ?_))
  · rw [if_pos hc6] at h
    have he := Option.some.inj h
    subst he
    exact zr_hdr rfl rfl (show zRun X d 166 54 [none, none, some (.int s.1), none] [] (SH, I, J) r M' from w)
  · rw [if_neg hc6] at h
    refine zr_steps 8 (45, [some (.ref 73), some (.int v1), some (.int s.1), some (.int s.2)], [.int ((8 * v1) + s.2), .ref 97, .int s.1], (SH, I, J)) rfl ?_
    obtain ⟨hc5, h⟩ := zbifo h
    refine zr_one (bif zin ((8 * v1) + s.2) 32 then zN 46 [some (.ref 73), some (.int v1), some (.int s.1), some (.int s.2)] [.int (I 97 ((8 * v1) + s.2).toNatClampNeg), .int s.1] (SH, I, J) else none) rfl (zR_bif hc5 (zR_go ?_))
    refine zr_steps 4 (26, [some (.ref 73), some (.int v1), some (.int (s.1 + (I 97 ((8 * v1) + s.2).toNatClampNeg))), some (.int (s.2 + 1))], [], (SH, I, J)) rfl ?_
    have he := Option.some.inj h
    subst he
    exact zr_hdr rfl rfl (show zRun X d 166 26 [some (.ref 73), some (.int v1), some (.int (s.1 + (I 97 ((8 * v1) + s.2).toNatClampNeg))), some (.int (s.2 + 1))] [] (SH, I, J) r M' from w))
theorem ok_f166_inSquare_L26 {X : zX} {d : Nat} {r : Option Value} {M' : zM} (hd : 0 ≤ d) (v1 : Int32) {I : (Nat → Nat → Int32)} {J : (Nat → Nat → Int64)} : ∀ (n : Nat) (s x : (Int32 × Int32)), zloop (f166_inSquare_L26 v1 I) n s = some x → (fun (x : (Int32 × Int32)) => zRun X d 166 54 [none, none, some (.int x.1), none] [] (SH, I, J) r M') x → (fun (s : (Int32 × Int32)) => zRun X d 166 26 [some (.ref 73), some (.int v1), some (.int s.1), some (.int s.2)] [] (SH, I, J) r M') s := zloop_ok (Wh := fun (s : (Int32 × Int32)) => zRun X d 166 26 [some (.ref 73), some (.int v1), some (.int s.1), some (.int s.2)] [] (SH, I, J) r M') (Wx := fun (x : (Int32 × Int32)) => zRun X d 166 54 [none, none, some (.int x.1), none] [] (SH, I, J) r M') (fun s y h w => by
  unfold f166_inSquare_L26 at h
  refine zr_steps 3 (31, [some (.ref 73), some (.int v1), some (.int s.1), some (.int s.2)], [.int (I 73 9), .int s.2], (SH, I, J)) rfl ?_
  refine zr_one (if (I 73 9) ≤ s.2 then zN 54 [some (.ref 73), some (.int v1), some (.int s.1), some (.int s.2)] [] (SH, I, J) else zN 34 [some (.ref 73), some (.int v1), some (.int s.1), some (.int s.2)] [] (SH, I, J)) rfl (zR_if (fun hc10 => zR_go ?_) (fun hc10 => zR_go ?_))
  · rw [if_pos hc10] at h
    have he := Option.some.inj h
    subst he
    exact zr_hdr rfl rfl (show zRun X d 166 54 [none, none, some (.int s.1), none] [] (SH, I, J) r M' from w)
  · rw [if_neg hc10] at h
    refine zr_steps 8 (45, [some (.ref 73), some (.int v1), some (.int s.1), some (.int s.2)], [.int ((8 * v1) + s.2), .ref 97, .int s.1], (SH, I, J)) rfl ?_
    obtain ⟨hc9, h⟩ := zbifo h
    refine zr_one (bif zin ((8 * v1) + s.2) 32 then zN 46 [some (.ref 73), some (.int v1), some (.int s.1), some (.int s.2)] [.int (I 97 ((8 * v1) + s.2).toNatClampNeg), .int s.1] (SH, I, J) else none) rfl (zR_bif hc9 (zR_go ?_))
    refine zr_steps 4 (26, [some (.ref 73), some (.int v1), some (.int (s.1 + (I 97 ((8 * v1) + s.2).toNatClampNeg))), some (.int (s.2 + 1))], [], (SH, I, J)) rfl ?_
    have he := Option.some.inj h
    subst he
    exact zr_hdr rfl rfl (show zRun X d 166 26 [some (.ref 73), some (.int v1), some (.int (s.1 + (I 97 ((8 * v1) + s.2).toNatClampNeg))), some (.int (s.2 + 1))] [] (SH, I, J) r M' from w))
theorem ok_f166_inSquare {X : zX} {d : Nat} (hd : 0 ≤ d) (v1 : Int32) {I : (Nat → Nat → Int32)} {J : (Nat → Nat → Int64)} (t : Int32) (h : f166_inSquare v1 I = some t) : zRun X d 166 0 (zent 166 [.ref 73, .int v1]) [] (SH, I, J) (some (.int t)) (SH, I, J) := by
  unfold f166_inSquare at h
  refine zr_steps 2 (4, [some (.ref 73), some (.int v1), none, none], [.int (I 73 45)], (SH, I, J)) rfl ?_
  refine zr_one (if (I 73 45) ≤ 0 then zN 22 [some (.ref 73), some (.int v1), none, none] [] (SH, I, J) else zN 7 [some (.ref 73), some (.int v1), none, none] [] (SH, I, J)) rfl (zR_if (fun hc14 => zR_go ?_) (fun hc14 => zR_go ?_))
  · rw [if_pos hc14] at h
    refine zr_steps 4 (26, [some (.ref 73), some (.int v1), some (.int 0), some (.int 0)], [], (SH, I, J)) rfl ?_
    obtain ⟨s3, ho4, h⟩ := zbind h
    refine zr_hdr (ls2 := [some (.ref 73), some (.int v1), some (.int 0), some (.int 0)]) rfl rfl ?_
    refine ok_f166_inSquare_L26 (by omega) v1 5000 ((0 : Int32), (0 : Int32)) s3 ho4 ?_
    show zRun X d 166 54 [none, none, some (.int s3.1), none] [] (SH, I, J) _ _
    refine zr_steps 1 (55, [none, none, some (.int s3.1), none], [.int s3.1], (SH, I, J)) rfl ?_
    have he := Option.some.inj h
    subst he
    exact zr_one (some (.inr (.inr (some (.int s3.1))))) rfl (zR_ret rfl rfl)
  · rw [if_neg hc14] at h
    refine zr_steps 3 (12, [some (.ref 73), some (.int v1), none, none], [.int (I 73 46), .int v1], (SH, I, J)) rfl ?_
    refine zr_one (if v1 = (I 73 46) then zN 15 [some (.ref 73), some (.int v1), none, none] [] (SH, I, J) else zN 22 [some (.ref 73), some (.int v1), none, none] [] (SH, I, J)) rfl (zR_if (fun hc13 => zR_go ?_) (fun hc13 => zR_go ?_))
    · rw [if_pos hc13] at h
      refine zr_steps 6 (26, [some (.ref 73), some (.int v1), some (.int (I 73 45)), some (.int 0)], [], (SH, I, J)) rfl ?_
      obtain ⟨s7, ho8, h⟩ := zbind h
      refine zr_hdr (ls2 := [some (.ref 73), some (.int v1), some (.int (I 73 45)), some (.int 0)]) rfl rfl ?_
      refine ok_f166_inSquare_L26 (by omega) v1 5000 ((I 73 45), (0 : Int32)) s7 ho8 ?_
      show zRun X d 166 54 [none, none, some (.int s7.1), none] [] (SH, I, J) _ _
      refine zr_steps 1 (55, [none, none, some (.int s7.1), none], [.int s7.1], (SH, I, J)) rfl ?_
      have he := Option.some.inj h
      subst he
      exact zr_one (some (.inr (.inr (some (.int s7.1))))) rfl (zR_ret rfl rfl)
    · rw [if_neg hc13] at h
      refine zr_steps 4 (26, [some (.ref 73), some (.int v1), some (.int 0), some (.int 0)], [], (SH, I, J)) rfl ?_
      obtain ⟨s11, ho12, h⟩ := zbind h
      refine zr_hdr (ls2 := [some (.ref 73), some (.int v1), some (.int 0), some (.int 0)]) rfl rfl ?_
      refine ok_f166_inSquare_L26 (by omega) v1 5000 ((0 : Int32), (0 : Int32)) s11 ho12 ?_
      show zRun X d 166 54 [none, none, some (.int s11.1), none] [] (SH, I, J) _ _
      refine zr_steps 1 (55, [none, none, some (.int s11.1), none], [.int s11.1], (SH, I, J)) rfl ?_
      have he := Option.some.inj h
      subst he
      exact zr_one (some (.inr (.inr (some (.int s11.1))))) rfl (zR_ret rfl rfl)
def f167_arrive_L26 (v1 : Int32) (v2 : Int32) (s : (Int32 × Int32 × (Nat → Nat → Int32))) : Option ((Int32 × Int32 × (Nat → Nat → Int32)) ⊕ (Int32 × Int32 × (Nat → Nat → Int32))) :=
  if (s.2.2 73 9) ≤ s.2.1 then
    some (.inl (s.1, s.2.1, s.2.2))
  else
    bif zin ((8 * v2) + s.2.1) 32 then
    bif zin ((32 * v1) + ((8 * v2) + s.2.1)) 4864 then
    bif zin ((8 * v2) + s.2.1) 32 then
    bif zin ((8 * v2) + s.2.1) 32 then
    if s.1 ≤ ((zu s.2.2 98 ((8 * v2) + s.2.1).toNatClampNeg ((s.2.2 98 ((8 * v2) + s.2.1).toNatClampNeg) + (s.2.2 99 ((32 * v1) + ((8 * v2) + s.2.1)).toNatClampNeg))) 98 ((8 * v2) + s.2.1).toNatClampNeg) then
      if (0 : Int32) < s.1 then
        bif zin ((8 * v2) + s.2.1) 32 then
        bif zin ((8 * v2) + s.2.1) 32 then
        bif zin ((8 * v2) + s.2.1) 32 then
        bif zin ((8 * v2) + s.2.1) 32 then
        some (.inr ((s.1 - s.1), (s.2.1 + 1), (zu (zu (zu s.2.2 98 ((8 * v2) + s.2.1).toNatClampNeg ((s.2.2 98 ((8 * v2) + s.2.1).toNatClampNeg) + (s.2.2 99 ((32 * v1) + ((8 * v2) + s.2.1)).toNatClampNeg))) 98 ((8 * v2) + s.2.1).toNatClampNeg (((zu s.2.2 98 ((8 * v2) + s.2.1).toNatClampNeg ((s.2.2 98 ((8 * v2) + s.2.1).toNatClampNeg) + (s.2.2 99 ((32 * v1) + ((8 * v2) + s.2.1)).toNatClampNeg))) 98 ((8 * v2) + s.2.1).toNatClampNeg) - s.1)) 97 ((8 * v2) + s.2.1).toNatClampNeg ((s.2.2 97 ((8 * v2) + s.2.1).toNatClampNeg) + s.1))))
        else none
        else none
        else none
        else none
      else
        some (.inr (s.1, (s.2.1 + 1), (zu s.2.2 98 ((8 * v2) + s.2.1).toNatClampNeg ((s.2.2 98 ((8 * v2) + s.2.1).toNatClampNeg) + (s.2.2 99 ((32 * v1) + ((8 * v2) + s.2.1)).toNatClampNeg)))))
    else
      bif zin ((8 * v2) + s.2.1) 32 then
      if (0 : Int32) < ((zu s.2.2 98 ((8 * v2) + s.2.1).toNatClampNeg ((s.2.2 98 ((8 * v2) + s.2.1).toNatClampNeg) + (s.2.2 99 ((32 * v1) + ((8 * v2) + s.2.1)).toNatClampNeg))) 98 ((8 * v2) + s.2.1).toNatClampNeg) then
        bif zin ((8 * v2) + s.2.1) 32 then
        bif zin ((8 * v2) + s.2.1) 32 then
        bif zin ((8 * v2) + s.2.1) 32 then
        bif zin ((8 * v2) + s.2.1) 32 then
        some (.inr ((s.1 - ((zu s.2.2 98 ((8 * v2) + s.2.1).toNatClampNeg ((s.2.2 98 ((8 * v2) + s.2.1).toNatClampNeg) + (s.2.2 99 ((32 * v1) + ((8 * v2) + s.2.1)).toNatClampNeg))) 98 ((8 * v2) + s.2.1).toNatClampNeg)), (s.2.1 + 1), (zu (zu (zu s.2.2 98 ((8 * v2) + s.2.1).toNatClampNeg ((s.2.2 98 ((8 * v2) + s.2.1).toNatClampNeg) + (s.2.2 99 ((32 * v1) + ((8 * v2) + s.2.1)).toNatClampNeg))) 98 ((8 * v2) + s.2.1).toNatClampNeg (((zu s.2.2 98 ((8 * v2) + s.2.1).toNatClampNeg ((s.2.2 98 ((8 * v2) + s.2.1).toNatClampNeg) + (s.2.2 99 ((32 * v1) + ((8 * v2) + s.2.1)).toNatClampNeg))) 98 ((8 * v2) + s.2.1).toNatClampNeg) - ((zu s.2.2 98 ((8 * v2) + s.2.1).toNatClampNeg ((s.2.2 98 ((8 * v2) + s.2.1).toNatClampNeg) + (s.2.2 99 ((32 * v1) + ((8 * v2) + s.2.1)).toNatClampNeg))) 98 ((8 * v2) + s.2.1).toNatClampNeg))) 97 ((8 * v2) + s.2.1).toNatClampNeg ((s.2.2 97 ((8 * v2) + s.2.1).toNatClampNeg) + ((zu s.2.2 98 ((8 * v2) + s.2.1).toNatClampNeg ((s.2.2 98 ((8 * v2) + s.2.1).toNatClampNeg) + (s.2.2 99 ((32 * v1) + ((8 * v2) + s.2.1)).toNatClampNeg))) 98 ((8 * v2) + s.2.1).toNatClampNeg)))))
        else none
        else none
        else none
        else none
      else
        some (.inr (s.1, (s.2.1 + 1), (zu s.2.2 98 ((8 * v2) + s.2.1).toNatClampNeg ((s.2.2 98 ((8 * v2) + s.2.1).toNatClampNeg) + (s.2.2 99 ((32 * v1) + ((8 * v2) + s.2.1)).toNatClampNeg)))))
      else none
    else none
    else none
    else none
    else none
def f167_arrive_L2 (v1 : Int32) (s : (Int32 × (Nat → Nat → Int32))) : Option ((Int32 × (Nat → Nat → Int32)) ⊕ (Int32 × (Nat → Nat → Int32))) :=
  if (s.2 73 1) ≤ s.1 then
    some (.inl (s.1, s.2))
  else
    bif zin s.1 4 then
    Option.bind (f166_inSquare s.1 s.2) fun t3 =>
    Option.bind (zloop (f167_arrive_L26 v1 s.1) 5000 (((s.2 74 s.1.toNatClampNeg) - t3), (0 : Int32), s.2)) fun s21 =>
    some (.inr ((s.1 + 1), s21.2.2))
    else none
def f167_arrive (v1 : Int32) (I : (Nat → Nat → Int32)) : Option (Nat → Nat → Int32) :=
  Option.bind (zloop (f167_arrive_L2 v1) 5000 ((0 : Int32), I)) fun s24 =>
  some s24.2
theorem ok_f167_arrive_L26 {X : zX} {d : Nat} {r : Option Value} {M' : zM} (hd : 1 ≤ d) (v1 : Int32) (v2 : Int32) {J : (Nat → Nat → Int64)} : ∀ (n : Nat) (s x : (Int32 × Int32 × (Nat → Nat → Int32))), zloop (f167_arrive_L26 v1 v2) n s = some x → (fun (x : (Int32 × Int32 × (Nat → Nat → Int32))) => zRun X d 167 133 [some (.ref 73), some (.int v1), some (.int v2), none, none, none, none] [] (SH, x.2.2, J) r M') x → (fun (s : (Int32 × Int32 × (Nat → Nat → Int32))) => zRun X d 167 26 [some (.ref 73), some (.int v1), some (.int v2), some (.int s.1), some (.int s.2.1), none, none] [] (SH, s.2.2, J) r M') s := zloop_ok (Wh := fun (s : (Int32 × Int32 × (Nat → Nat → Int32))) => zRun X d 167 26 [some (.ref 73), some (.int v1), some (.int v2), some (.int s.1), some (.int s.2.1), none, none] [] (SH, s.2.2, J) r M') (Wx := fun (x : (Int32 × Int32 × (Nat → Nat → Int32))) => zRun X d 167 133 [some (.ref 73), some (.int v1), some (.int v2), none, none, none, none] [] (SH, x.2.2, J) r M') (fun s y h w => by
  unfold f167_arrive_L26 at h
  refine zr_steps 3 (32, [some (.ref 73), some (.int v1), some (.int v2), some (.int s.1), some (.int s.2.1), none, none], [.int (s.2.2 73 9), .int s.2.1], (SH, s.2.2, J)) rfl ?_
  refine zr_one (if (s.2.2 73 9) ≤ s.2.1 then zN 133 [some (.ref 73), some (.int v1), some (.int v2), some (.int s.1), some (.int s.2.1), none, none] [] (SH, s.2.2, J) else zN 35 [some (.ref 73), some (.int v1), some (.int v2), some (.int s.1), some (.int s.2.1), none, none] [] (SH, s.2.2, J)) rfl (zR_if (fun hc20 => zR_go ?_) (fun hc20 => zR_go ?_))
  · rw [if_pos hc20] at h
    have he := Option.some.inj h
    subst he
    exact zr_hdr rfl rfl (show zRun X d 167 133 [some (.ref 73), some (.int v1), some (.int v2), none, none, none, none] [] (SH, s.2.2, J) r M' from w)
  · rw [if_neg hc20] at h
    refine zr_steps 10 (51, [some (.ref 73), some (.int v1), some (.int v2), some (.int s.1), some (.int s.2.1), some (.int ((8 * v2) + s.2.1)), none], [.int ((8 * v2) + s.2.1), .ref 98, .int ((8 * v2) + s.2.1), .ref 98], (SH, s.2.2, J)) rfl ?_
    obtain ⟨hc4, h⟩ := zbifo h
    refine zr_one (bif zin ((8 * v2) + s.2.1) 32 then zN 52 [some (.ref 73), some (.int v1), some (.int v2), some (.int s.1), some (.int s.2.1), some (.int ((8 * v2) + s.2.1)), none] [.int (s.2.2 98 ((8 * v2) + s.2.1).toNatClampNeg), .int ((8 * v2) + s.2.1), .ref 98] (SH, s.2.2, J) else none) rfl (zR_bif hc4 (zR_go ?_))
    refine zr_steps 7 (63, [some (.ref 73), some (.int v1), some (.int v2), some (.int s.1), some (.int s.2.1), some (.int ((8 * v2) + s.2.1)), none], [.int ((32 * v1) + ((8 * v2) + s.2.1)), .ref 99, .int (s.2.2 98 ((8 * v2) + s.2.1).toNatClampNeg), .int ((8 * v2) + s.2.1), .ref 98], (SH, s.2.2, J)) rfl ?_
    obtain ⟨hc5, h⟩ := zbifo h
    refine zr_one (bif zin ((32 * v1) + ((8 * v2) + s.2.1)) 4864 then zN 64 [some (.ref 73), some (.int v1), some (.int v2), some (.int s.1), some (.int s.2.1), some (.int ((8 * v2) + s.2.1)), none] [.int (s.2.2 99 ((32 * v1) + ((8 * v2) + s.2.1)).toNatClampNeg), .int (s.2.2 98 ((8 * v2) + s.2.1).toNatClampNeg), .int ((8 * v2) + s.2.1), .ref 98] (SH, s.2.2, J) else none) rfl (zR_bif hc5 (zR_go ?_))
    refine zr_steps 1 (65, [some (.ref 73), some (.int v1), some (.int v2), some (.int s.1), some (.int s.2.1), some (.int ((8 * v2) + s.2.1)), none], [.int ((s.2.2 98 ((8 * v2) + s.2.1).toNatClampNeg) + (s.2.2 99 ((32 * v1) + ((8 * v2) + s.2.1)).toNatClampNeg)), .int ((8 * v2) + s.2.1), .ref 98], (SH, s.2.2, J)) rfl ?_
    obtain ⟨hc6, h⟩ := zbifo h
    refine zr_one (bif zin ((8 * v2) + s.2.1) 32 then zN 66 [some (.ref 73), some (.int v1), some (.int v2), some (.int s.1), some (.int s.2.1), some (.int ((8 * v2) + s.2.1)), none] [] (SH, (zu s.2.2 98 ((8 * v2) + s.2.1).toNatClampNeg ((s.2.2 98 ((8 * v2) + s.2.1).toNatClampNeg) + (s.2.2 99 ((32 * v1) + ((8 * v2) + s.2.1)).toNatClampNeg))), J) else none) rfl (zR_bif hc6 (zR_go ?_))
    refine zr_steps 3 (72, [some (.ref 73), some (.int v1), some (.int v2), some (.int s.1), some (.int s.2.1), some (.int ((8 * v2) + s.2.1)), none], [.int ((8 * v2) + s.2.1), .ref 98], (SH, (zu s.2.2 98 ((8 * v2) + s.2.1).toNatClampNeg ((s.2.2 98 ((8 * v2) + s.2.1).toNatClampNeg) + (s.2.2 99 ((32 * v1) + ((8 * v2) + s.2.1)).toNatClampNeg))), J)) rfl ?_
    obtain ⟨hc7, h⟩ := zbifo h
    refine zr_one (bif zin ((8 * v2) + s.2.1) 32 then zN 73 [some (.ref 73), some (.int v1), some (.int v2), some (.int s.1), some (.int s.2.1), some (.int ((8 * v2) + s.2.1)), none] [.int ((zu s.2.2 98 ((8 * v2) + s.2.1).toNatClampNeg ((s.2.2 98 ((8 * v2) + s.2.1).toNatClampNeg) + (s.2.2 99 ((32 * v1) + ((8 * v2) + s.2.1)).toNatClampNeg))) 98 ((8 * v2) + s.2.1).toNatClampNeg)] (SH, (zu s.2.2 98 ((8 * v2) + s.2.1).toNatClampNeg ((s.2.2 98 ((8 * v2) + s.2.1).toNatClampNeg) + (s.2.2 99 ((32 * v1) + ((8 * v2) + s.2.1)).toNatClampNeg))), J) else none) rfl (zR_bif hc7 (zR_go ?_))
    refine zr_steps 1 (74, [some (.ref 73), some (.int v1), some (.int v2), some (.int s.1), some (.int s.2.1), some (.int ((8 * v2) + s.2.1)), none], [.int s.1, .int ((zu s.2.2 98 ((8 * v2) + s.2.1).toNatClampNeg ((s.2.2 98 ((8 * v2) + s.2.1).toNatClampNeg) + (s.2.2 99 ((32 * v1) + ((8 * v2) + s.2.1)).toNatClampNeg))) 98 ((8 * v2) + s.2.1).toNatClampNeg)], (SH, (zu s.2.2 98 ((8 * v2) + s.2.1).toNatClampNeg ((s.2.2 98 ((8 * v2) + s.2.1).toNatClampNeg) + (s.2.2 99 ((32 * v1) + ((8 * v2) + s.2.1)).toNatClampNeg))), J)) rfl ?_
    refine zr_one (if s.1 ≤ ((zu s.2.2 98 ((8 * v2) + s.2.1).toNatClampNeg ((s.2.2 98 ((8 * v2) + s.2.1).toNatClampNeg) + (s.2.2 99 ((32 * v1) + ((8 * v2) + s.2.1)).toNatClampNeg))) 98 ((8 * v2) + s.2.1).toNatClampNeg) then zN 87 [some (.ref 73), some (.int v1), some (.int v2), some (.int s.1), some (.int s.2.1), some (.int ((8 * v2) + s.2.1)), none] [] (SH, (zu s.2.2 98 ((8 * v2) + s.2.1).toNatClampNeg ((s.2.2 98 ((8 * v2) + s.2.1).toNatClampNeg) + (s.2.2 99 ((32 * v1) + ((8 * v2) + s.2.1)).toNatClampNeg))), J) else zN 77 [some (.ref 73), some (.int v1), some (.int v2), some (.int s.1), some (.int s.2.1), some (.int ((8 * v2) + s.2.1)), none] [] (SH, (zu s.2.2 98 ((8 * v2) + s.2.1).toNatClampNeg ((s.2.2 98 ((8 * v2) + s.2.1).toNatClampNeg) + (s.2.2 99 ((32 * v1) + ((8 * v2) + s.2.1)).toNatClampNeg))), J)) rfl (zR_if (fun hc19 => zR_go ?_) (fun hc19 => zR_go ?_))
    · rw [if_pos hc19] at h
      refine zr_steps 3 (92, [some (.ref 73), some (.int v1), some (.int v2), some (.int s.1), some (.int s.2.1), some (.int ((8 * v2) + s.2.1)), some (.int s.1)], [.int s.1], (SH, (zu s.2.2 98 ((8 * v2) + s.2.1).toNatClampNeg ((s.2.2 98 ((8 * v2) + s.2.1).toNatClampNeg) + (s.2.2 99 ((32 * v1) + ((8 * v2) + s.2.1)).toNatClampNeg))), J)) rfl ?_
      refine zr_one (if (0 : Int32) < s.1 then zN 98 [some (.ref 73), some (.int v1), some (.int v2), some (.int s.1), some (.int s.2.1), some (.int ((8 * v2) + s.2.1)), some (.int s.1)] [] (SH, (zu s.2.2 98 ((8 * v2) + s.2.1).toNatClampNeg ((s.2.2 98 ((8 * v2) + s.2.1).toNatClampNeg) + (s.2.2 99 ((32 * v1) + ((8 * v2) + s.2.1)).toNatClampNeg))), J) else zN 95 [some (.ref 73), some (.int v1), some (.int v2), some (.int s.1), some (.int s.2.1), some (.int ((8 * v2) + s.2.1)), some (.int s.1)] [] (SH, (zu s.2.2 98 ((8 * v2) + s.2.1).toNatClampNeg ((s.2.2 98 ((8 * v2) + s.2.1).toNatClampNeg) + (s.2.2 99 ((32 * v1) + ((8 * v2) + s.2.1)).toNatClampNeg))), J)) rfl (zR_if (fun hc12 => zR_go ?_) (fun hc12 => zR_go ?_))
      · rw [if_pos hc12] at h
        refine zr_steps 4 (105, [some (.ref 73), some (.int v1), some (.int v2), some (.int s.1), some (.int s.2.1), some (.int ((8 * v2) + s.2.1)), some (.int s.1)], [.int ((8 * v2) + s.2.1), .ref 98, .int ((8 * v2) + s.2.1), .ref 98], (SH, (zu s.2.2 98 ((8 * v2) + s.2.1).toNatClampNeg ((s.2.2 98 ((8 * v2) + s.2.1).toNatClampNeg) + (s.2.2 99 ((32 * v1) + ((8 * v2) + s.2.1)).toNatClampNeg))), J)) rfl ?_
        obtain ⟨hc8, h⟩ := zbifo h
        refine zr_one (bif zin ((8 * v2) + s.2.1) 32 then zN 106 [some (.ref 73), some (.int v1), some (.int v2), some (.int s.1), some (.int s.2.1), some (.int ((8 * v2) + s.2.1)), some (.int s.1)] [.int ((zu s.2.2 98 ((8 * v2) + s.2.1).toNatClampNeg ((s.2.2 98 ((8 * v2) + s.2.1).toNatClampNeg) + (s.2.2 99 ((32 * v1) + ((8 * v2) + s.2.1)).toNatClampNeg))) 98 ((8 * v2) + s.2.1).toNatClampNeg), .int ((8 * v2) + s.2.1), .ref 98] (SH, (zu s.2.2 98 ((8 * v2) + s.2.1).toNatClampNeg ((s.2.2 98 ((8 * v2) + s.2.1).toNatClampNeg) + (s.2.2 99 ((32 * v1) + ((8 * v2) + s.2.1)).toNatClampNeg))), J) else none) rfl (zR_bif hc8 (zR_go ?_))
        refine zr_steps 2 (109, [some (.ref 73), some (.int v1), some (.int v2), some (.int s.1), some (.int s.2.1), some (.int ((8 * v2) + s.2.1)), some (.int s.1)], [.int (((zu s.2.2 98 ((8 * v2) + s.2.1).toNatClampNeg ((s.2.2 98 ((8 * v2) + s.2.1).toNatClampNeg) + (s.2.2 99 ((32 * v1) + ((8 * v2) + s.2.1)).toNatClampNeg))) 98 ((8 * v2) + s.2.1).toNatClampNeg) - s.1), .int ((8 * v2) + s.2.1), .ref 98], (SH, (zu s.2.2 98 ((8 * v2) + s.2.1).toNatClampNeg ((s.2.2 98 ((8 * v2) + s.2.1).toNatClampNeg) + (s.2.2 99 ((32 * v1) + ((8 * v2) + s.2.1)).toNatClampNeg))), J)) rfl ?_
        obtain ⟨hc9, h⟩ := zbifo h
        refine zr_one (bif zin ((8 * v2) + s.2.1) 32 then zN 110 [some (.ref 73), some (.int v1), some (.int v2), some (.int s.1), some (.int s.2.1), some (.int ((8 * v2) + s.2.1)), some (.int s.1)] [] (SH, (zu (zu s.2.2 98 ((8 * v2) + s.2.1).toNatClampNeg ((s.2.2 98 ((8 * v2) + s.2.1).toNatClampNeg) + (s.2.2 99 ((32 * v1) + ((8 * v2) + s.2.1)).toNatClampNeg))) 98 ((8 * v2) + s.2.1).toNatClampNeg (((zu s.2.2 98 ((8 * v2) + s.2.1).toNatClampNeg ((s.2.2 98 ((8 * v2) + s.2.1).toNatClampNeg) + (s.2.2 99 ((32 * v1) + ((8 * v2) + s.2.1)).toNatClampNeg))) 98 ((8 * v2) + s.2.1).toNatClampNeg) - s.1)), J) else none) rfl (zR_bif hc9 (zR_go ?_))
        refine zr_steps 4 (117, [some (.ref 73), some (.int v1), some (.int v2), some (.int s.1), some (.int s.2.1), some (.int ((8 * v2) + s.2.1)), some (.int s.1)], [.int ((8 * v2) + s.2.1), .ref 97, .int ((8 * v2) + s.2.1), .ref 97], (SH, (zu (zu s.2.2 98 ((8 * v2) + s.2.1).toNatClampNeg ((s.2.2 98 ((8 * v2) + s.2.1).toNatClampNeg) + (s.2.2 99 ((32 * v1) + ((8 * v2) + s.2.1)).toNatClampNeg))) 98 ((8 * v2) + s.2.1).toNatClampNeg (((zu s.2.2 98 ((8 * v2) + s.2.1).toNatClampNeg ((s.2.2 98 ((8 * v2) + s.2.1).toNatClampNeg) + (s.2.2 99 ((32 * v1) + ((8 * v2) + s.2.1)).toNatClampNeg))) 98 ((8 * v2) + s.2.1).toNatClampNeg) - s.1)), J)) rfl ?_
        obtain ⟨hc10, h⟩ := zbifo h
        refine zr_one (bif zin ((8 * v2) + s.2.1) 32 then zN 118 [some (.ref 73), some (.int v1), some (.int v2), some (.int s.1), some (.int s.2.1), some (.int ((8 * v2) + s.2.1)), some (.int s.1)] [.int (s.2.2 97 ((8 * v2) + s.2.1).toNatClampNeg), .int ((8 * v2) + s.2.1), .ref 97] (SH, (zu (zu s.2.2 98 ((8 * v2) + s.2.1).toNatClampNeg ((s.2.2 98 ((8 * v2) + s.2.1).toNatClampNeg) + (s.2.2 99 ((32 * v1) + ((8 * v2) + s.2.1)).toNatClampNeg))) 98 ((8 * v2) + s.2.1).toNatClampNeg (((zu s.2.2 98 ((8 * v2) + s.2.1).toNatClampNeg ((s.2.2 98 ((8 * v2) + s.2.1).toNatClampNeg) + (s.2.2 99 ((32 * v1) + ((8 * v2) + s.2.1)).toNatClampNeg))) 98 ((8 * v2) + s.2.1).toNatClampNeg) - s.1)), J) else none) rfl (zR_bif hc10 (zR_go ?_))
        refine zr_steps 2 (121, [some (.ref 73), some (.int v1), some (.int v2), some (.int s.1), some (.int s.2.1), some (.int ((8 * v2) + s.2.1)), some (.int s.1)], [.int ((s.2.2 97 ((8 * v2) + s.2.1).toNatClampNeg) + s.1), .int ((8 * v2) + s.2.1), .ref 97], (SH, (zu (zu s.2.2 98 ((8 * v2) + s.2.1).toNatClampNeg ((s.2.2 98 ((8 * v2) + s.2.1).toNatClampNeg) + (s.2.2 99 ((32 * v1) + ((8 * v2) + s.2.1)).toNatClampNeg))) 98 ((8 * v2) + s.2.1).toNatClampNeg (((zu s.2.2 98 ((8 * v2) + s.2.1).toNatClampNeg ((s.2.2 98 ((8 * v2) + s.2.1).toNatClampNeg) + (s.2.2 99 ((32 * v1) + ((8 * v2) + s.2.1)).toNatClampNeg))) 98 ((8 * v2) + s.2.1).toNatClampNeg) - s.1)), J)) rfl ?_
        obtain ⟨hc11, h⟩ := zbifo h
        refine zr_one (bif zin ((8 * v2) + s.2.1) 32 then zN 122 [some (.ref 73), some (.int v1), some (.int v2), some (.int s.1), some (.int s.2.1), some (.int ((8 * v2) + s.2.1)), some (.int s.1)] [] (SH, (zu (zu (zu s.2.2 98 ((8 * v2) + s.2.1).toNatClampNeg ((s.2.2 98 ((8 * v2) + s.2.1).toNatClampNeg) + (s.2.2 99 ((32 * v1) + ((8 * v2) + s.2.1)).toNatClampNeg))) 98 ((8 * v2) + s.2.1).toNatClampNeg (((zu s.2.2 98 ((8 * v2) + s.2.1).toNatClampNeg ((s.2.2 98 ((8 * v2) + s.2.1).toNatClampNeg) + (s.2.2 99 ((32 * v1) + ((8 * v2) + s.2.1)).toNatClampNeg))) 98 ((8 * v2) + s.2.1).toNatClampNeg) - s.1)) 97 ((8 * v2) + s.2.1).toNatClampNeg ((s.2.2 97 ((8 * v2) + s.2.1).toNatClampNeg) + s.1)), J) else none) rfl (zR_bif hc11 (zR_go ?_))
        refine zr_steps 6 (26, [some (.ref 73), some (.int v1), some (.int v2), some (.int (s.1 - s.1)), some (.int (s.2.1 + 1)), some (.int ((8 * v2) + s.2.1)), some (.int s.1)], [], (SH, (zu (zu (zu s.2.2 98 ((8 * v2) + s.2.1).toNatClampNeg ((s.2.2 98 ((8 * v2) + s.2.1).toNatClampNeg) + (s.2.2 99 ((32 * v1) + ((8 * v2) + s.2.1)).toNatClampNeg))) 98 ((8 * v2) + s.2.1).toNatClampNeg (((zu s.2.2 98 ((8 * v2) + s.2.1).toNatClampNeg ((s.2.2 98 ((8 * v2) + s.2.1).toNatClampNeg) + (s.2.2 99 ((32 * v1) + ((8 * v2) + s.2.1)).toNatClampNeg))) 98 ((8 * v2) + s.2.1).toNatClampNeg) - s.1)) 97 ((8 * v2) + s.2.1).toNatClampNeg ((s.2.2 97 ((8 * v2) + s.2.1).toNatClampNeg) + s.1)), J)) rfl ?_
        have he := Option.some.inj h
        subst he
        exact zr_hdr rfl rfl (show zRun X d 167 26 [some (.ref 73), some (.int v1), some (.int v2), some (.int (s.1 - s.1)), some (.int (s.2.1 + 1)), none, none] [] (SH, (zu (zu (zu s.2.2 98 ((8 * v2) + s.2.1).toNatClampNeg ((s.2.2 98 ((8 * v2) + s.2.1).toNatClampNeg) + (s.2.2 99 ((32 * v1) + ((8 * v2) + s.2.1)).toNatClampNeg))) 98 ((8 * v2) + s.2.1).toNatClampNeg (((zu s.2.2 98 ((8 * v2) + s.2.1).toNatClampNeg ((s.2.2 98 ((8 * v2) + s.2.1).toNatClampNeg) + (s.2.2 99 ((32 * v1) + ((8 * v2) + s.2.1)).toNatClampNeg))) 98 ((8 * v2) + s.2.1).toNatClampNeg) - s.1)) 97 ((8 * v2) + s.2.1).toNatClampNeg ((s.2.2 97 ((8 * v2) + s.2.1).toNatClampNeg) + s.1)), J) r M' from w)
      · rw [if_neg hc12] at h
        refine zr_steps 3 (26, [some (.ref 73), some (.int v1), some (.int v2), some (.int s.1), some (.int (s.2.1 + 1)), some (.int ((8 * v2) + s.2.1)), some (.int s.1)], [], (SH, (zu s.2.2 98 ((8 * v2) + s.2.1).toNatClampNeg ((s.2.2 98 ((8 * v2) + s.2.1).toNatClampNeg) + (s.2.2 99 ((32 * v1) + ((8 * v2) + s.2.1)).toNatClampNeg))), J)) rfl ?_
        have he := Option.some.inj h
        subst he
        exact zr_hdr rfl rfl (show zRun X d 167 26 [some (.ref 73), some (.int v1), some (.int v2), some (.int s.1), some (.int (s.2.1 + 1)), none, none] [] (SH, (zu s.2.2 98 ((8 * v2) + s.2.1).toNatClampNeg ((s.2.2 98 ((8 * v2) + s.2.1).toNatClampNeg) + (s.2.2 99 ((32 * v1) + ((8 * v2) + s.2.1)).toNatClampNeg))), J) r M' from w)
    · rw [if_neg hc19] at h
      refine zr_steps 3 (83, [some (.ref 73), some (.int v1), some (.int v2), some (.int s.1), some (.int s.2.1), some (.int ((8 * v2) + s.2.1)), none], [.int ((8 * v2) + s.2.1), .ref 98], (SH, (zu s.2.2 98 ((8 * v2) + s.2.1).toNatClampNeg ((s.2.2 98 ((8 * v2) + s.2.1).toNatClampNeg) + (s.2.2 99 ((32 * v1) + ((8 * v2) + s.2.1)).toNatClampNeg))), J)) rfl ?_
      obtain ⟨hc13, h⟩ := zbifo h
      refine zr_one (bif zin ((8 * v2) + s.2.1) 32 then zN 84 [some (.ref 73), some (.int v1), some (.int v2), some (.int s.1), some (.int s.2.1), some (.int ((8 * v2) + s.2.1)), none] [.int ((zu s.2.2 98 ((8 * v2) + s.2.1).toNatClampNeg ((s.2.2 98 ((8 * v2) + s.2.1).toNatClampNeg) + (s.2.2 99 ((32 * v1) + ((8 * v2) + s.2.1)).toNatClampNeg))) 98 ((8 * v2) + s.2.1).toNatClampNeg)] (SH, (zu s.2.2 98 ((8 * v2) + s.2.1).toNatClampNeg ((s.2.2 98 ((8 * v2) + s.2.1).toNatClampNeg) + (s.2.2 99 ((32 * v1) + ((8 * v2) + s.2.1)).toNatClampNeg))), J) else none) rfl (zR_bif hc13 (zR_go ?_))
      refine zr_steps 3 (92, [some (.ref 73), some (.int v1), some (.int v2), some (.int s.1), some (.int s.2.1), some (.int ((8 * v2) + s.2.1)), some (.int ((zu s.2.2 98 ((8 * v2) + s.2.1).toNatClampNeg ((s.2.2 98 ((8 * v2) + s.2.1).toNatClampNeg) + (s.2.2 99 ((32 * v1) + ((8 * v2) + s.2.1)).toNatClampNeg))) 98 ((8 * v2) + s.2.1).toNatClampNeg))], [.int ((zu s.2.2 98 ((8 * v2) + s.2.1).toNatClampNeg ((s.2.2 98 ((8 * v2) + s.2.1).toNatClampNeg) + (s.2.2 99 ((32 * v1) + ((8 * v2) + s.2.1)).toNatClampNeg))) 98 ((8 * v2) + s.2.1).toNatClampNeg)], (SH, (zu s.2.2 98 ((8 * v2) + s.2.1).toNatClampNeg ((s.2.2 98 ((8 * v2) + s.2.1).toNatClampNeg) + (s.2.2 99 ((32 * v1) + ((8 * v2) + s.2.1)).toNatClampNeg))), J)) rfl ?_
      refine zr_one (if (0 : Int32) < ((zu s.2.2 98 ((8 * v2) + s.2.1).toNatClampNeg ((s.2.2 98 ((8 * v2) + s.2.1).toNatClampNeg) + (s.2.2 99 ((32 * v1) + ((8 * v2) + s.2.1)).toNatClampNeg))) 98 ((8 * v2) + s.2.1).toNatClampNeg) then zN 98 [some (.ref 73), some (.int v1), some (.int v2), some (.int s.1), some (.int s.2.1), some (.int ((8 * v2) + s.2.1)), some (.int ((zu s.2.2 98 ((8 * v2) + s.2.1).toNatClampNeg ((s.2.2 98 ((8 * v2) + s.2.1).toNatClampNeg) + (s.2.2 99 ((32 * v1) + ((8 * v2) + s.2.1)).toNatClampNeg))) 98 ((8 * v2) + s.2.1).toNatClampNeg))] [] (SH, (zu s.2.2 98 ((8 * v2) + s.2.1).toNatClampNeg ((s.2.2 98 ((8 * v2) + s.2.1).toNatClampNeg) + (s.2.2 99 ((32 * v1) + ((8 * v2) + s.2.1)).toNatClampNeg))), J) else zN 95 [some (.ref 73), some (.int v1), some (.int v2), some (.int s.1), some (.int s.2.1), some (.int ((8 * v2) + s.2.1)), some (.int ((zu s.2.2 98 ((8 * v2) + s.2.1).toNatClampNeg ((s.2.2 98 ((8 * v2) + s.2.1).toNatClampNeg) + (s.2.2 99 ((32 * v1) + ((8 * v2) + s.2.1)).toNatClampNeg))) 98 ((8 * v2) + s.2.1).toNatClampNeg))] [] (SH, (zu s.2.2 98 ((8 * v2) + s.2.1).toNatClampNeg ((s.2.2 98 ((8 * v2) + s.2.1).toNatClampNeg) + (s.2.2 99 ((32 * v1) + ((8 * v2) + s.2.1)).toNatClampNeg))), J)) rfl (zR_if (fun hc18 => zR_go ?_) (fun hc18 => zR_go ?_))
      · rw [if_pos hc18] at h
        refine zr_steps 4 (105, [some (.ref 73), some (.int v1), some (.int v2), some (.int s.1), some (.int s.2.1), some (.int ((8 * v2) + s.2.1)), some (.int ((zu s.2.2 98 ((8 * v2) + s.2.1).toNatClampNeg ((s.2.2 98 ((8 * v2) + s.2.1).toNatClampNeg) + (s.2.2 99 ((32 * v1) + ((8 * v2) + s.2.1)).toNatClampNeg))) 98 ((8 * v2) + s.2.1).toNatClampNeg))], [.int ((8 * v2) + s.2.1), .ref 98, .int ((8 * v2) + s.2.1), .ref 98], (SH, (zu s.2.2 98 ((8 * v2) + s.2.1).toNatClampNeg ((s.2.2 98 ((8 * v2) + s.2.1).toNatClampNeg) + (s.2.2 99 ((32 * v1) + ((8 * v2) + s.2.1)).toNatClampNeg))), J)) rfl ?_
        obtain ⟨hc14, h⟩ := zbifo h
        refine zr_one (bif zin ((8 * v2) + s.2.1) 32 then zN 106 [some (.ref 73), some (.int v1), some (.int v2), some (.int s.1), some (.int s.2.1), some (.int ((8 * v2) + s.2.1)), some (.int ((zu s.2.2 98 ((8 * v2) + s.2.1).toNatClampNeg ((s.2.2 98 ((8 * v2) + s.2.1).toNatClampNeg) + (s.2.2 99 ((32 * v1) + ((8 * v2) + s.2.1)).toNatClampNeg))) 98 ((8 * v2) + s.2.1).toNatClampNeg))] [.int ((zu s.2.2 98 ((8 * v2) + s.2.1).toNatClampNeg ((s.2.2 98 ((8 * v2) + s.2.1).toNatClampNeg) + (s.2.2 99 ((32 * v1) + ((8 * v2) + s.2.1)).toNatClampNeg))) 98 ((8 * v2) + s.2.1).toNatClampNeg), .int ((8 * v2) + s.2.1), .ref 98] (SH, (zu s.2.2 98 ((8 * v2) + s.2.1).toNatClampNeg ((s.2.2 98 ((8 * v2) + s.2.1).toNatClampNeg) + (s.2.2 99 ((32 * v1) + ((8 * v2) + s.2.1)).toNatClampNeg))), J) else none) rfl (zR_bif hc14 (zR_go ?_))
        refine zr_steps 2 (109, [some (.ref 73), some (.int v1), some (.int v2), some (.int s.1), some (.int s.2.1), some (.int ((8 * v2) + s.2.1)), some (.int ((zu s.2.2 98 ((8 * v2) + s.2.1).toNatClampNeg ((s.2.2 98 ((8 * v2) + s.2.1).toNatClampNeg) + (s.2.2 99 ((32 * v1) + ((8 * v2) + s.2.1)).toNatClampNeg))) 98 ((8 * v2) + s.2.1).toNatClampNeg))], [.int (((zu s.2.2 98 ((8 * v2) + s.2.1).toNatClampNeg ((s.2.2 98 ((8 * v2) + s.2.1).toNatClampNeg) + (s.2.2 99 ((32 * v1) + ((8 * v2) + s.2.1)).toNatClampNeg))) 98 ((8 * v2) + s.2.1).toNatClampNeg) - ((zu s.2.2 98 ((8 * v2) + s.2.1).toNatClampNeg ((s.2.2 98 ((8 * v2) + s.2.1).toNatClampNeg) + (s.2.2 99 ((32 * v1) + ((8 * v2) + s.2.1)).toNatClampNeg))) 98 ((8 * v2) + s.2.1).toNatClampNeg)), .int ((8 * v2) + s.2.1), .ref 98], (SH, (zu s.2.2 98 ((8 * v2) + s.2.1).toNatClampNeg ((s.2.2 98 ((8 * v2) + s.2.1).toNatClampNeg) + (s.2.2 99 ((32 * v1) + ((8 * v2) + s.2.1)).toNatClampNeg))), J)) rfl ?_
        obtain ⟨hc15, h⟩ := zbifo h
        refine zr_one (bif zin ((8 * v2) + s.2.1) 32 then zN 110 [some (.ref 73), some (.int v1), some (.int v2), some (.int s.1), some (.int s.2.1), some (.int ((8 * v2) + s.2.1)), some (.int ((zu s.2.2 98 ((8 * v2) + s.2.1).toNatClampNeg ((s.2.2 98 ((8 * v2) + s.2.1).toNatClampNeg) + (s.2.2 99 ((32 * v1) + ((8 * v2) + s.2.1)).toNatClampNeg))) 98 ((8 * v2) + s.2.1).toNatClampNeg))] [] (SH, (zu (zu s.2.2 98 ((8 * v2) + s.2.1).toNatClampNeg ((s.2.2 98 ((8 * v2) + s.2.1).toNatClampNeg) + (s.2.2 99 ((32 * v1) + ((8 * v2) + s.2.1)).toNatClampNeg))) 98 ((8 * v2) + s.2.1).toNatClampNeg (((zu s.2.2 98 ((8 * v2) + s.2.1).toNatClampNeg ((s.2.2 98 ((8 * v2) + s.2.1).toNatClampNeg) + (s.2.2 99 ((32 * v1) + ((8 * v2) + s.2.1)).toNatClampNeg))) 98 ((8 * v2) + s.2.1).toNatClampNeg) - ((zu s.2.2 98 ((8 * v2) + s.2.1).toNatClampNeg ((s.2.2 98 ((8 * v2) + s.2.1).toNatClampNeg) + (s.2.2 99 ((32 * v1) + ((8 * v2) + s.2.1)).toNatClampNeg))) 98 ((8 * v2) + s.2.1).toNatClampNeg))), J) else none) rfl (zR_bif hc15 (zR_go ?_))
        refine zr_steps 4 (117, [some (.ref 73), some (.int v1), some (.int v2), some (.int s.1), some (.int s.2.1), some (.int ((8 * v2) + s.2.1)), some (.int ((zu s.2.2 98 ((8 * v2) + s.2.1).toNatClampNeg ((s.2.2 98 ((8 * v2) + s.2.1).toNatClampNeg) + (s.2.2 99 ((32 * v1) + ((8 * v2) + s.2.1)).toNatClampNeg))) 98 ((8 * v2) + s.2.1).toNatClampNeg))], [.int ((8 * v2) + s.2.1), .ref 97, .int ((8 * v2) + s.2.1), .ref 97], (SH, (zu (zu s.2.2 98 ((8 * v2) + s.2.1).toNatClampNeg ((s.2.2 98 ((8 * v2) + s.2.1).toNatClampNeg) + (s.2.2 99 ((32 * v1) + ((8 * v2) + s.2.1)).toNatClampNeg))) 98 ((8 * v2) + s.2.1).toNatClampNeg (((zu s.2.2 98 ((8 * v2) + s.2.1).toNatClampNeg ((s.2.2 98 ((8 * v2) + s.2.1).toNatClampNeg) + (s.2.2 99 ((32 * v1) + ((8 * v2) + s.2.1)).toNatClampNeg))) 98 ((8 * v2) + s.2.1).toNatClampNeg) - ((zu s.2.2 98 ((8 * v2) + s.2.1).toNatClampNeg ((s.2.2 98 ((8 * v2) + s.2.1).toNatClampNeg) + (s.2.2 99 ((32 * v1) + ((8 * v2) + s.2.1)).toNatClampNeg))) 98 ((8 * v2) + s.2.1).toNatClampNeg))), J)) rfl ?_
        obtain ⟨hc16, h⟩ := zbifo h
        refine zr_one (bif zin ((8 * v2) + s.2.1) 32 then zN 118 [some (.ref 73), some (.int v1), some (.int v2), some (.int s.1), some (.int s.2.1), some (.int ((8 * v2) + s.2.1)), some (.int ((zu s.2.2 98 ((8 * v2) + s.2.1).toNatClampNeg ((s.2.2 98 ((8 * v2) + s.2.1).toNatClampNeg) + (s.2.2 99 ((32 * v1) + ((8 * v2) + s.2.1)).toNatClampNeg))) 98 ((8 * v2) + s.2.1).toNatClampNeg))] [.int (s.2.2 97 ((8 * v2) + s.2.1).toNatClampNeg), .int ((8 * v2) + s.2.1), .ref 97] (SH, (zu (zu s.2.2 98 ((8 * v2) + s.2.1).toNatClampNeg ((s.2.2 98 ((8 * v2) + s.2.1).toNatClampNeg) + (s.2.2 99 ((32 * v1) + ((8 * v2) + s.2.1)).toNatClampNeg))) 98 ((8 * v2) + s.2.1).toNatClampNeg (((zu s.2.2 98 ((8 * v2) + s.2.1).toNatClampNeg ((s.2.2 98 ((8 * v2) + s.2.1).toNatClampNeg) + (s.2.2 99 ((32 * v1) + ((8 * v2) + s.2.1)).toNatClampNeg))) 98 ((8 * v2) + s.2.1).toNatClampNeg) - ((zu s.2.2 98 ((8 * v2) + s.2.1).toNatClampNeg ((s.2.2 98 ((8 * v2) + s.2.1).toNatClampNeg) + (s.2.2 99 ((32 * v1) + ((8 * v2) + s.2.1)).toNatClampNeg))) 98 ((8 * v2) + s.2.1).toNatClampNeg))), J) else none) rfl (zR_bif hc16 (zR_go ?_))
        refine zr_steps 2 (121, [some (.ref 73), some (.int v1), some (.int v2), some (.int s.1), some (.int s.2.1), some (.int ((8 * v2) + s.2.1)), some (.int ((zu s.2.2 98 ((8 * v2) + s.2.1).toNatClampNeg ((s.2.2 98 ((8 * v2) + s.2.1).toNatClampNeg) + (s.2.2 99 ((32 * v1) + ((8 * v2) + s.2.1)).toNatClampNeg))) 98 ((8 * v2) + s.2.1).toNatClampNeg))], [.int ((s.2.2 97 ((8 * v2) + s.2.1).toNatClampNeg) + ((zu s.2.2 98 ((8 * v2) + s.2.1).toNatClampNeg ((s.2.2 98 ((8 * v2) + s.2.1).toNatClampNeg) + (s.2.2 99 ((32 * v1) + ((8 * v2) + s.2.1)).toNatClampNeg))) 98 ((8 * v2) + s.2.1).toNatClampNeg)), .int ((8 * v2) + s.2.1), .ref 97], (SH, (zu (zu s.2.2 98 ((8 * v2) + s.2.1).toNatClampNeg ((s.2.2 98 ((8 * v2) + s.2.1).toNatClampNeg) + (s.2.2 99 ((32 * v1) + ((8 * v2) + s.2.1)).toNatClampNeg))) 98 ((8 * v2) + s.2.1).toNatClampNeg (((zu s.2.2 98 ((8 * v2) + s.2.1).toNatClampNeg ((s.2.2 98 ((8 * v2) + s.2.1).toNatClampNeg) + (s.2.2 99 ((32 * v1) + ((8 * v2) + s.2.1)).toNatClampNeg))) 98 ((8 * v2) + s.2.1).toNatClampNeg) - ((zu s.2.2 98 ((8 * v2) + s.2.1).toNatClampNeg ((s.2.2 98 ((8 * v2) + s.2.1).toNatClampNeg) + (s.2.2 99 ((32 * v1) + ((8 * v2) + s.2.1)).toNatClampNeg))) 98 ((8 * v2) + s.2.1).toNatClampNeg))), J)) rfl ?_
        obtain ⟨hc17, h⟩ := zbifo h
        refine zr_one (bif zin ((8 * v2) + s.2.1) 32 then zN 122 [some (.ref 73), some (.int v1), some (.int v2), some (.int s.1), some (.int s.2.1), some (.int ((8 * v2) + s.2.1)), some (.int ((zu s.2.2 98 ((8 * v2) + s.2.1).toNatClampNeg ((s.2.2 98 ((8 * v2) + s.2.1).toNatClampNeg) + (s.2.2 99 ((32 * v1) + ((8 * v2) + s.2.1)).toNatClampNeg))) 98 ((8 * v2) + s.2.1).toNatClampNeg))] [] (SH, (zu (zu (zu s.2.2 98 ((8 * v2) + s.2.1).toNatClampNeg ((s.2.2 98 ((8 * v2) + s.2.1).toNatClampNeg) + (s.2.2 99 ((32 * v1) + ((8 * v2) + s.2.1)).toNatClampNeg))) 98 ((8 * v2) + s.2.1).toNatClampNeg (((zu s.2.2 98 ((8 * v2) + s.2.1).toNatClampNeg ((s.2.2 98 ((8 * v2) + s.2.1).toNatClampNeg) + (s.2.2 99 ((32 * v1) + ((8 * v2) + s.2.1)).toNatClampNeg))) 98 ((8 * v2) + s.2.1).toNatClampNeg) - ((zu s.2.2 98 ((8 * v2) + s.2.1).toNatClampNeg ((s.2.2 98 ((8 * v2) + s.2.1).toNatClampNeg) + (s.2.2 99 ((32 * v1) + ((8 * v2) + s.2.1)).toNatClampNeg))) 98 ((8 * v2) + s.2.1).toNatClampNeg))) 97 ((8 * v2) + s.2.1).toNatClampNeg ((s.2.2 97 ((8 * v2) + s.2.1).toNatClampNeg) + ((zu s.2.2 98 ((8 * v2) + s.2.1).toNatClampNeg ((s.2.2 98 ((8 * v2) + s.2.1).toNatClampNeg) + (s.2.2 99 ((32 * v1) + ((8 * v2) + s.2.1)).toNatClampNeg))) 98 ((8 * v2) + s.2.1).toNatClampNeg))), J) else none) rfl (zR_bif hc17 (zR_go ?_))
        refine zr_steps 6 (26, [some (.ref 73), some (.int v1), some (.int v2), some (.int (s.1 - ((zu s.2.2 98 ((8 * v2) + s.2.1).toNatClampNeg ((s.2.2 98 ((8 * v2) + s.2.1).toNatClampNeg) + (s.2.2 99 ((32 * v1) + ((8 * v2) + s.2.1)).toNatClampNeg))) 98 ((8 * v2) + s.2.1).toNatClampNeg))), some (.int (s.2.1 + 1)), some (.int ((8 * v2) + s.2.1)), some (.int ((zu s.2.2 98 ((8 * v2) + s.2.1).toNatClampNeg ((s.2.2 98 ((8 * v2) + s.2.1).toNatClampNeg) + (s.2.2 99 ((32 * v1) + ((8 * v2) + s.2.1)).toNatClampNeg))) 98 ((8 * v2) + s.2.1).toNatClampNeg))], [], (SH, (zu (zu (zu s.2.2 98 ((8 * v2) + s.2.1).toNatClampNeg ((s.2.2 98 ((8 * v2) + s.2.1).toNatClampNeg) + (s.2.2 99 ((32 * v1) + ((8 * v2) + s.2.1)).toNatClampNeg))) 98 ((8 * v2) + s.2.1).toNatClampNeg (((zu s.2.2 98 ((8 * v2) + s.2.1).toNatClampNeg ((s.2.2 98 ((8 * v2) + s.2.1).toNatClampNeg) + (s.2.2 99 ((32 * v1) + ((8 * v2) + s.2.1)).toNatClampNeg))) 98 ((8 * v2) + s.2.1).toNatClampNeg) - ((zu s.2.2 98 ((8 * v2) + s.2.1).toNatClampNeg ((s.2.2 98 ((8 * v2) + s.2.1).toNatClampNeg) + (s.2.2 99 ((32 * v1) + ((8 * v2) + s.2.1)).toNatClampNeg))) 98 ((8 * v2) + s.2.1).toNatClampNeg))) 97 ((8 * v2) + s.2.1).toNatClampNeg ((s.2.2 97 ((8 * v2) + s.2.1).toNatClampNeg) + ((zu s.2.2 98 ((8 * v2) + s.2.1).toNatClampNeg ((s.2.2 98 ((8 * v2) + s.2.1).toNatClampNeg) + (s.2.2 99 ((32 * v1) + ((8 * v2) + s.2.1)).toNatClampNeg))) 98 ((8 * v2) + s.2.1).toNatClampNeg))), J)) rfl ?_
        have he := Option.some.inj h
        subst he
        exact zr_hdr rfl rfl (show zRun X d 167 26 [some (.ref 73), some (.int v1), some (.int v2), some (.int (s.1 - ((zu s.2.2 98 ((8 * v2) + s.2.1).toNatClampNeg ((s.2.2 98 ((8 * v2) + s.2.1).toNatClampNeg) + (s.2.2 99 ((32 * v1) + ((8 * v2) + s.2.1)).toNatClampNeg))) 98 ((8 * v2) + s.2.1).toNatClampNeg))), some (.int (s.2.1 + 1)), none, none] [] (SH, (zu (zu (zu s.2.2 98 ((8 * v2) + s.2.1).toNatClampNeg ((s.2.2 98 ((8 * v2) + s.2.1).toNatClampNeg) + (s.2.2 99 ((32 * v1) + ((8 * v2) + s.2.1)).toNatClampNeg))) 98 ((8 * v2) + s.2.1).toNatClampNeg (((zu s.2.2 98 ((8 * v2) + s.2.1).toNatClampNeg ((s.2.2 98 ((8 * v2) + s.2.1).toNatClampNeg) + (s.2.2 99 ((32 * v1) + ((8 * v2) + s.2.1)).toNatClampNeg))) 98 ((8 * v2) + s.2.1).toNatClampNeg) - ((zu s.2.2 98 ((8 * v2) + s.2.1).toNatClampNeg ((s.2.2 98 ((8 * v2) + s.2.1).toNatClampNeg) + (s.2.2 99 ((32 * v1) + ((8 * v2) + s.2.1)).toNatClampNeg))) 98 ((8 * v2) + s.2.1).toNatClampNeg))) 97 ((8 * v2) + s.2.1).toNatClampNeg ((s.2.2 97 ((8 * v2) + s.2.1).toNatClampNeg) + ((zu s.2.2 98 ((8 * v2) + s.2.1).toNatClampNeg ((s.2.2 98 ((8 * v2) + s.2.1).toNatClampNeg) + (s.2.2 99 ((32 * v1) + ((8 * v2) + s.2.1)).toNatClampNeg))) 98 ((8 * v2) + s.2.1).toNatClampNeg))), J) r M' from w)
      · rw [if_neg hc18] at h
        refine zr_steps 3 (26, [some (.ref 73), some (.int v1), some (.int v2), some (.int s.1), some (.int (s.2.1 + 1)), some (.int ((8 * v2) + s.2.1)), some (.int ((zu s.2.2 98 ((8 * v2) + s.2.1).toNatClampNeg ((s.2.2 98 ((8 * v2) + s.2.1).toNatClampNeg) + (s.2.2 99 ((32 * v1) + ((8 * v2) + s.2.1)).toNatClampNeg))) 98 ((8 * v2) + s.2.1).toNatClampNeg))], [], (SH, (zu s.2.2 98 ((8 * v2) + s.2.1).toNatClampNeg ((s.2.2 98 ((8 * v2) + s.2.1).toNatClampNeg) + (s.2.2 99 ((32 * v1) + ((8 * v2) + s.2.1)).toNatClampNeg))), J)) rfl ?_
        have he := Option.some.inj h
        subst he
        exact zr_hdr rfl rfl (show zRun X d 167 26 [some (.ref 73), some (.int v1), some (.int v2), some (.int s.1), some (.int (s.2.1 + 1)), none, none] [] (SH, (zu s.2.2 98 ((8 * v2) + s.2.1).toNatClampNeg ((s.2.2 98 ((8 * v2) + s.2.1).toNatClampNeg) + (s.2.2 99 ((32 * v1) + ((8 * v2) + s.2.1)).toNatClampNeg))), J) r M' from w))
theorem ok_f167_arrive_L2 {X : zX} {d : Nat} {r : Option Value} {M' : zM} (hd : 1 ≤ d) (v1 : Int32) {J : (Nat → Nat → Int64)} : ∀ (n : Nat) (s x : (Int32 × (Nat → Nat → Int32))), zloop (f167_arrive_L2 v1) n s = some x → (fun (x : (Int32 × (Nat → Nat → Int32))) => zRun X d 167 139 [none, none, none, none, none, none, none] [] (SH, x.2, J) r M') x → (fun (s : (Int32 × (Nat → Nat → Int32))) => zRun X d 167 2 [some (.ref 73), some (.int v1), some (.int s.1), none, none, none, none] [] (SH, s.2, J) r M') s := zloop_ok (Wh := fun (s : (Int32 × (Nat → Nat → Int32))) => zRun X d 167 2 [some (.ref 73), some (.int v1), some (.int s.1), none, none, none, none] [] (SH, s.2, J) r M') (Wx := fun (x : (Int32 × (Nat → Nat → Int32))) => zRun X d 167 139 [none, none, none, none, none, none, none] [] (SH, x.2, J) r M') (fun s y h w => by
  unfold f167_arrive_L2 at h
  refine zr_steps 3 (7, [some (.ref 73), some (.int v1), some (.int s.1), none, none, none, none], [.int (s.2 73 1), .int s.1], (SH, s.2, J)) rfl ?_
  refine zr_one (if (s.2 73 1) ≤ s.1 then zN 139 [some (.ref 73), some (.int v1), some (.int s.1), none, none, none, none] [] (SH, s.2, J) else zN 10 [some (.ref 73), some (.int v1), some (.int s.1), none, none, none, none] [] (SH, s.2, J)) rfl (zR_if (fun hc23 => zR_go ?_) (fun hc23 => zR_go ?_))
  · rw [if_pos hc23] at h
    have he := Option.some.inj h
    subst he
    exact zr_hdv rfl rfl (show zRun X d 167 139 [none, none, none, none, none, none, none] [] (SH, s.2, J) r M' from w)
  · rw [if_neg hc23] at h
    refine zr_steps 3 (15, [some (.ref 73), some (.int v1), some (.int s.1), none, none, none, none], [.int s.1, .ref 74], (SH, s.2, J)) rfl ?_
    obtain ⟨hc1, h⟩ := zbifo h
    refine zr_one (bif zin s.1 4 then zN 16 [some (.ref 73), some (.int v1), some (.int s.1), none, none, none, none] [.int (s.2 74 s.1.toNatClampNeg)] (SH, s.2, J) else none) rfl (zR_bif hc1 (zR_go ?_))
    refine zr_steps 2 (18, [some (.ref 73), some (.int v1), some (.int s.1), none, none, none, none], [.int s.1, .ref 73, .int (s.2 74 s.1.toNatClampNeg)], (SH, s.2, J)) rfl ?_
    obtain ⟨t3, hc2, h⟩ := zbind h
    refine zr_one (some (.inr (.inl (166, [.ref 73, .int s.1], [.int (s.2 74 s.1.toNatClampNeg)], 21)))) rfl (zR_call (by omega) rfl (ok_f166_inSquare (by omega) s.1 _ hc2) ?_)
    refine zr_steps 4 (26, [some (.ref 73), some (.int v1), some (.int s.1), some (.int ((s.2 74 s.1.toNatClampNeg) - t3)), some (.int 0), none, none], [], (SH, s.2, J)) rfl ?_
    obtain ⟨s21, ho22, h⟩ := zbind h
    refine zr_hdr (ls2 := [some (.ref 73), some (.int v1), some (.int s.1), some (.int ((s.2 74 s.1.toNatClampNeg) - t3)), some (.int 0), none, none]) rfl rfl ?_
    refine ok_f167_arrive_L26 (by omega) v1 s.1 5000 (((s.2 74 s.1.toNatClampNeg) - t3), (0 : Int32), s.2) s21 ho22 ?_
    show zRun X d 167 133 [some (.ref 73), some (.int v1), some (.int s.1), none, none, none, none] [] (SH, s21.2.2, J) _ _
    refine zr_steps 2 (2, [some (.ref 73), some (.int v1), some (.int (s.1 + 1)), none, none, none, none], [], (SH, s21.2.2, J)) rfl ?_
    have he := Option.some.inj h
    subst he
    exact zr_hdr rfl rfl (show zRun X d 167 2 [some (.ref 73), some (.int v1), some (.int (s.1 + 1)), none, none, none, none] [] (SH, s21.2.2, J) r M' from w))
theorem ok_f167_arrive {X : zX} {d : Nat} (hd : 1 ≤ d) (v1 : Int32) {I : (Nat → Nat → Int32)} {J : (Nat → Nat → Int64)} (t : (Nat → Nat → Int32)) (h : f167_arrive v1 I = some t) : zRun X d 167 0 (zent 167 [.ref 73, .int v1]) [] (SH, I, J) none (SH, t, J) := by
  unfold f167_arrive at h
  refine zr_steps 2 (2, [some (.ref 73), some (.int v1), some (.int 0), none, none, none, none], [], (SH, I, J)) rfl ?_
  obtain ⟨s24, ho25, h⟩ := zbind h
  refine zr_hdr (ls2 := [some (.ref 73), some (.int v1), some (.int 0), none, none, none, none]) rfl rfl ?_
  refine ok_f167_arrive_L2 (by omega) v1 5000 ((0 : Int32), I) s24 ho25 ?_
  show zRun X d 167 139 [none, none, none, none, none, none, none] [] (SH, s24.2, J) _ _
  have he := Option.some.inj h
  subst he
  exact zr_one (some (.inr (.inr none))) rfl (zR_ret rfl rfl)
def f156_isLaw (v1 : Int32) (I : (Nat → Nat → Int32)) : Option Int32 :=
  Option.bind (f129_in v1 0 ((I 73 31) - 1)) fun t2 =>
  if (t2 = 0 ∨ t2 = 1) then
    some t2
  else none
theorem ok_f156_isLaw {X : zX} {d : Nat} (hd : 1 ≤ d) (v1 : Int32) {I : (Nat → Nat → Int32)} {J : (Nat → Nat → Int64)} (t : Int32) (h : f156_isLaw v1 I = some t) : zRun X d 156 0 (zent 156 [.ref 73, .int v1]) [] (SH, I, J) (some (.int t)) (SH, I, J) := by
  unfold f156_isLaw at h
  refine zr_steps 6 (8, [some (.ref 73), some (.int v1)], [.int ((I 73 31) - 1), .int 0, .int v1], (SH, I, J)) rfl ?_
  obtain ⟨t2, hc1, h⟩ := zbind h
  refine zr_one (some (.inr (.inl (129, [.int v1, .int 0, .int ((I 73 31) - 1)], [], 11)))) rfl (zR_call (by omega) rfl (ok_f129_in (by omega) v1 0 ((I 73 31) - 1) _ hc1) ?_)
  obtain ⟨hc3, h⟩ := zifo h
  have he := Option.some.inj h
  subst he
  exact zr_one (if ((t2 : Int32) = 0 ∨ (t2 : Int32) = 1) then some (.inr (.inr (some (.int t2)))) else none) rfl (zR_pos hc3 (zR_ret rfl rfl))
