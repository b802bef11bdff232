def f159_valueAt (v1 : Int32) (v2 : Int32) (I : (Nat → Nat → Int32)) : Option Int32 :=
  if v1 = 0 then
    bif zin v2 8 then
    some (I 80 v2.toNatClampNeg)
    else none
  else
    bif zin v2 4 then
    some (I 74 v2.toNatClampNeg)
    else none
theorem ok_f159_valueAt {X : zX} {d : Nat} (hd : 0 ≤ d) (v1 : Int32) (v2 : Int32) {I : (Nat → Nat → Int32)} {J : (Nat → Nat → Int64)} (t : Int32) (h : f159_valueAt v1 v2 I = some t) : zRun X d 159 0 (zent 159 [.ref 73, .int v1, .int v2]) [] (SH, I, J) (some (.int t)) (SH, I, J) := by
  unfold f159_valueAt at h
  refine zr_steps 1 (1, [some (.ref 73), some (.int v1), some (.int v2)], [.int v1], (SH, I, J)) rfl ?_
  refine zr_one (if v1 = 0 then zN 4 [some (.ref 73), some (.int v1), some (.int v2)] [] (SH, I, J) else zN 13 [some (.ref 73), some (.int v1), some (.int v2)] [] (SH, I, J)) rfl (zR_if (fun hc3 => zR_go ?_) (fun hc3 => zR_go ?_))
  · rw [if_pos hc3] at h
    refine zr_steps 3 (9, [some (.ref 73), some (.int v1), some (.int v2)], [.int v2, .ref 80], (SH, I, J)) rfl ?_
    obtain ⟨hc1, h⟩ := zbifo h
    refine zr_one (bif zin v2 8 then zN 10 [some (.ref 73), some (.int v1), some (.int v2)] [.int (I 80 v2.toNatClampNeg)] (SH, I, J) else none) rfl (zR_bif hc1 (zR_go ?_))
    refine zr_steps 1 (19, [some (.ref 73), some (.int v1), some (.int v2)], [.int (I 80 v2.toNatClampNeg)], (SH, I, J)) rfl ?_
    have he := Option.some.inj h
    subst he
    exact zr_one (some (.inr (.inr (some (.int (I 80 v2.toNatClampNeg)))))) rfl (zR_ret rfl rfl)
  · rw [if_neg hc3] at h
    refine zr_steps 3 (18, [some (.ref 73), some (.int v1), some (.int v2)], [.int v2, .ref 74], (SH, I, J)) rfl ?_
    obtain ⟨hc2, h⟩ := zbifo h
    refine zr_one (bif zin v2 4 then zN 19 [some (.ref 73), some (.int v1), some (.int v2)] [.int (I 74 v2.toNatClampNeg)] (SH, I, J) else none) rfl (zR_bif hc2 (zR_go ?_))
    have he := Option.some.inj h
    subst he
    exact zr_one (some (.inr (.inr (some (.int (I 74 v2.toNatClampNeg)))))) rfl (zR_ret rfl rfl)
def f160_lays (v1 : Int32) (v2 : Int32) (v3 : Int32) (I : (Nat → Nat → Int32)) : Option (Nat → Nat → Int32) :=
  if v1 = 0 then
    bif zin v2 8 then
    some (zu I 80 v2.toNatClampNeg v3)
    else none
  else
    bif zin v2 4 then
    some (zu I 74 v2.toNatClampNeg v3)
    else none
theorem ok_f160_lays {X : zX} {d : Nat} (hd : 0 ≤ d) (v1 : Int32) (v2 : Int32) (v3 : Int32) {I : (Nat → Nat → Int32)} {J : (Nat → Nat → Int64)} (t : (Nat → Nat → Int32)) (h : f160_lays v1 v2 v3 I = some t) : zRun X d 160 0 (zent 160 [.ref 73, .int v1, .int v2, .int v3]) [] (SH, I, J) none (SH, t, J) := by
  unfold f160_lays at h
  refine zr_steps 1 (1, [some (.ref 73), some (.int v1), some (.int v2), some (.int v3)], [.int v1], (SH, I, J)) rfl ?_
  refine zr_one (if v1 = 0 then zN 4 [some (.ref 73), some (.int v1), some (.int v2), some (.int v3)] [] (SH, I, J) else zN 14 [some (.ref 73), some (.int v1), some (.int v2), some (.int v3)] [] (SH, I, J)) rfl (zR_if (fun hc3 => zR_go ?_) (fun hc3 => zR_go ?_))
  · rw [if_pos hc3] at h
    refine zr_steps 4 (10, [some (.ref 73), some (.int v1), some (.int v2), some (.int v3)], [.int v3, .int v2, .ref 80], (SH, I, J)) rfl ?_
    obtain ⟨hc1, h⟩ := zbifo h
    refine zr_one (bif zin v2 8 then zN 11 [some (.ref 73), some (.int v1), some (.int v2), some (.int v3)] [] (SH, (zu I 80 v2.toNatClampNeg v3), J) else none) rfl (zR_bif hc1 (zR_go ?_))
    refine zr_steps 1 (21, [some (.ref 73), some (.int v1), some (.int v2), some (.int v3)], [], (SH, (zu I 80 v2.toNatClampNeg v3), J)) rfl ?_
    have he := Option.some.inj h
    subst he
    exact zr_one (some (.inr (.inr none))) rfl (zR_ret rfl rfl)
  · rw [if_neg hc3] at h
    refine zr_steps 4 (20, [some (.ref 73), some (.int v1), some (.int v2), some (.int v3)], [.int v3, .int v2, .ref 74], (SH, I, J)) rfl ?_
    obtain ⟨hc2, h⟩ := zbifo h
    refine zr_one (bif zin v2 4 then zN 21 [some (.ref 73), some (.int v1), some (.int v2), some (.int v3)] [] (SH, (zu I 74 v2.toNatClampNeg v3), J) else none) rfl (zR_bif hc2 (zR_go ?_))
    have he := Option.some.inj h
    subst he
    exact zr_one (some (.inr (.inr none))) rfl (zR_ret rfl rfl)
def f161_changes_L34 (v1 : Int32) (v2 : Int32) (v3 : Int32) (v4 : Int32) (s : (Int32 × (Nat → Nat → Int32))) : Option ((Int32 × (Nat → Nat → Int32)) ⊕ (Int32 × (Nat → Nat → Int32))) :=
  if (40 : Int32) ≤ s.1 then
    some (.inl (s.1, s.2))
  else
    bif zin s.1 40 then
    bif zin (s.1 - 1) 40 then
    bif zin s.1 40 then
    bif zin (s.1 - 1) 40 then
    bif zin s.1 40 then
    bif zin (s.1 - 1) 40 then
    bif zin s.1 40 then
    bif zin (s.1 - 1) 40 then
    some (.inr ((s.1 + 1), (zu (zu (zu (zu s.2 93 (s.1 - 1).toNatClampNeg (s.2 93 s.1.toNatClampNeg)) 94 (s.1 - 1).toNatClampNeg (s.2 94 s.1.toNatClampNeg)) 95 (s.1 - 1).toNatClampNeg (s.2 95 s.1.toNatClampNeg)) 96 (s.1 - 1).toNatClampNeg (s.2 96 s.1.toNatClampNeg))))
    else none
    else none
    else none
    else none
    else none
    else none
    else none
    else none
def f161_changes (v1 : Int32) (v2 : Int32) (v3 : Int32) (I : (Nat → Nat → Int32)) : Option (Int32 × (Nat → Nat → Int32)) :=
  Option.bind (f159_valueAt v1 v2 I) fun t2 =>
  if t2 = v3 then
    some (t2, I)
  else
    if (I 73 32) = 40 then
      Option.bind (zloop (f161_changes_L34 v1 v2 v3 t2) 5000 ((1 : Int32), (zu I 73 33 0))) fun s12 =>
      bif zin ((s12.2 73 32) - 1) 40 then
      bif zin ((s12.2 73 32) - 1) 40 then
      bif zin ((s12.2 73 32) - 1) 40 then
      bif zin ((s12.2 73 32) - 1) 40 then
      Option.bind (f160_lays v1 v2 v3 (zu (zu (zu (zu (zu (zu s12.2 73 32 ((s12.2 73 32) - 1)) 93 ((s12.2 73 32) - 1).toNatClampNeg v1) 94 ((s12.2 73 32) - 1).toNatClampNeg v2) 95 ((s12.2 73 32) - 1).toNatClampNeg t2) 96 ((s12.2 73 32) - 1).toNatClampNeg v3) 73 32 (((s12.2 73 32) - 1) + 1))) fun t19 =>
      some (t2, t19)
      else none
      else none
      else none
      else none
    else
      bif zin (I 73 32) 40 then
      bif zin (I 73 32) 40 then
      bif zin (I 73 32) 40 then
      bif zin (I 73 32) 40 then
      Option.bind (f160_lays v1 v2 v3 (zu (zu (zu (zu (zu (zu I 73 33 0) 93 (I 73 32).toNatClampNeg v1) 94 (I 73 32).toNatClampNeg v2) 95 (I 73 32).toNatClampNeg t2) 96 (I 73 32).toNatClampNeg v3) 73 32 ((I 73 32) + 1))) fun t25 =>
      some (t2, t25)
      else none
      else none
      else none
      else none
theorem ok_f161_changes_L34 {X : zX} {d : Nat} {r : Option Value} {M' : zM} (hd : 1 ≤ d) (v1 : Int32) (v2 : Int32) (v3 : Int32) (v4 : Int32) {J : (Nat → Nat → Int64)} : ∀ (n : Nat) (s x : (Int32 × (Nat → Nat → Int32))), zloop (f161_changes_L34 v1 v2 v3 v4) n s = some x → (fun (x : (Int32 × (Nat → Nat → Int32))) => zRun X d 161 111 [some (.ref 73), some (.int v1), some (.int v2), some (.int v3), some (.int v4), none] [] (SH, x.2, J) r M') x → (fun (s : (Int32 × (Nat → Nat → Int32))) => zRun X d 161 34 [some (.ref 73), some (.int v1), some (.int v2), some (.int v3), some (.int v4), some (.int s.1)] [] (SH, s.2, J) r M') s := zloop_ok (Wh := fun (s : (Int32 × (Nat → Nat → Int32))) => zRun X d 161 34 [some (.ref 73), some (.int v1), some (.int v2), some (.int v3), some (.int v4), some (.int s.1)] [] (SH, s.2, J) r M') (Wx := fun (x : (Int32 × (Nat → Nat → Int32))) => zRun X d 161 111 [some (.ref 73), some (.int v1), some (.int v2), some (.int v3), some (.int v4), none] [] (SH, x.2, J) r M') (fun s y h w => by
  unfold f161_changes_L34 at h
  refine zr_steps 2 (38, [some (.ref 73), some (.int v1), some (.int v2), some (.int v3), some (.int v4), some (.int s.1)], [.int 40, .int s.1], (SH, s.2, J)) rfl ?_
  refine zr_one (if (40 : Int32) ≤ s.1 then zN 111 [some (.ref 73), some (.int v1), some (.int v2), some (.int v3), some (.int v4), some (.int s.1)] [] (SH, s.2, J) else zN 41 [some (.ref 73), some (.int v1), some (.int v2), some (.int v3), some (.int v4), some (.int s.1)] [] (SH, s.2, J)) rfl (zR_if (fun hc11 => zR_go ?_) (fun hc11 => zR_go ?_))
  · rw [if_pos hc11] at h
    have he := Option.some.inj h
    subst he
    exact zr_hdr rfl rfl (show zRun X d 161 111 [some (.ref 73), some (.int v1), some (.int v2), some (.int v3), some (.int v4), none] [] (SH, s.2, J) r M' from w)
  · rw [if_neg hc11] at h
    refine zr_steps 8 (55, [some (.ref 73), some (.int v1), some (.int v2), some (.int v3), some (.int v4), some (.int s.1)], [.int s.1, .ref 93, .int (s.1 - 1), .ref 93], (SH, s.2, J)) rfl ?_
    obtain ⟨hc3, h⟩ := zbifo h
    refine zr_one (bif zin s.1 40 then zN 56 [some (.ref 73), some (.int v1), some (.int v2), some (.int v3), some (.int v4), some (.int s.1)] [.int (s.2 93 s.1.toNatClampNeg), .int (s.1 - 1), .ref 93] (SH, s.2, J) else none) rfl (zR_bif hc3 (zR_go ?_))
    obtain ⟨hc4, h⟩ := zbifo h
    refine zr_one (bif zin (s.1 - 1) 40 then zN 57 [some (.ref 73), some (.int v1), some (.int v2), some (.int v3), some (.int v4), some (.int s.1)] [] (SH, (zu s.2 93 (s.1 - 1).toNatClampNeg (s.2 93 s.1.toNatClampNeg)), J) else none) rfl (zR_bif hc4 (zR_go ?_))
    refine zr_steps 8 (71, [some (.ref 73), some (.int v1), some (.int v2), some (.int v3), some (.int v4), some (.int s.1)], [.int s.1, .ref 94, .int (s.1 - 1), .ref 94], (SH, (zu s.2 93 (s.1 - 1).toNatClampNeg (s.2 93 s.1.toNatClampNeg)), J)) rfl ?_
    obtain ⟨hc5, h⟩ := zbifo h
    refine zr_one (bif zin s.1 40 then zN 72 [some (.ref 73), some (.int v1), some (.int v2), some (.int v3), some (.int v4), some (.int s.1)] [.int (s.2 94 s.1.toNatClampNeg), .int (s.1 - 1), .ref 94] (SH, (zu s.2 93 (s.1 - 1).toNatClampNeg (s.2 93 s.1.toNatClampNeg)), J) else none) rfl (zR_bif hc5 (zR_go ?_))
    obtain ⟨hc6, h⟩ := zbifo h
    refine zr_one (bif zin (s.1 - 1) 40 then zN 73 [some (.ref 73), some (.int v1), some (.int v2), some (.int v3), some (.int v4), some (.int s.1)] [] (SH, (zu (zu s.2 93 (s.1 - 1).toNatClampNeg (s.2 93 s.1.toNatClampNeg)) 94 (s.1 - 1).toNatClampNeg (s.2 94 s.1.toNatClampNeg)), J) else none) rfl (zR_bif hc6 (zR_go ?_))
    refine zr_steps 8 (87, [some (.ref 73), some (.int v1), some (.int v2), some (.int v3), some (.int v4), some (.int s.1)], [.int s.1, .ref 95, .int (s.1 - 1), .ref 95], (SH, (zu (zu s.2 93 (s.1 - 1).toNatClampNeg (s.2 93 s.1.toNatClampNeg)) 94 (s.1 - 1).toNatClampNeg (s.2 94 s.1.toNatClampNeg)), J)) rfl ?_
    obtain ⟨hc7, h⟩ := zbifo h
    refine zr_one (bif zin s.1 40 then zN 88 [some (.ref 73), some (.int v1), some (.int v2), some (.int v3), some (.int v4), some (.int s.1)] [.int (s.2 95 s.1.toNatClampNeg), .int (s.1 - 1), .ref 95] (SH, (zu (zu s.2 93 (s.1 - 1).toNatClampNeg (s.2 93 s.1.toNatClampNeg)) 94 (s.1 - 1).toNatClampNeg (s.2 94 s.1.toNatClampNeg)), J) else none) rfl (zR_bif hc7 (zR_go ?_))
    obtain ⟨hc8, h⟩ := zbifo h
    refine zr_one (bif zin (s.1 - 1) 40 then zN 89 [some (.ref 73), some (.int v1), some (.int v2), some (.int v3), some (.int v4), some (.int s.1)] [] (SH, (zu (zu (zu s.2 93 (s.1 - 1).toNatClampNeg (s.2 93 s.1.toNatClampNeg)) 94 (s.1 - 1).toNatClampNeg (s.2 94 s.1.toNatClampNeg)) 95 (s.1 - 1).toNatClampNeg (s.2 95 s.1.toNatClampNeg)), J) else none) rfl (zR_bif hc8 (zR_go ?_))
    refine zr_steps 8 (103, [some (.ref 73), some (.int v1), some (.int v2), some (.int v3), some (.int v4), some (.int s.1)], [.int s.1, .ref 96, .int (s.1 - 1), .ref 96], (SH, (zu (zu (zu s.2 93 (s.1 - 1).toNatClampNeg (s.2 93 s.1.toNatClampNeg)) 94 (s.1 - 1).toNatClampNeg (s.2 94 s.1.toNatClampNeg)) 95 (s.1 - 1).toNatClampNeg (s.2 95 s.1.toNatClampNeg)), J)) rfl ?_
    obtain ⟨hc9, h⟩ := zbifo h
    refine zr_one (bif zin s.1 40 then zN 104 [some (.ref 73), some (.int v1), some (.int v2), some (.int v3), some (.int v4), some (.int s.1)] [.int (s.2 96 s.1.toNatClampNeg), .int (s.1 - 1), .ref 96] (SH, (zu (zu (zu s.2 93 (s.1 - 1).toNatClampNeg (s.2 93 s.1.toNatClampNeg)) 94 (s.1 - 1).toNatClampNeg (s.2 94 s.1.toNatClampNeg)) 95 (s.1 - 1).toNatClampNeg (s.2 95 s.1.toNatClampNeg)), J) else none) rfl (zR_bif hc9 (zR_go ?_))
    obtain ⟨hc10, h⟩ := zbifo h
    refine zr_one (bif zin (s.1 - 1) 40 then zN 105 [some (.ref 73), some (.int v1), some (.int v2), some (.int v3), some (.int v4), some (.int s.1)] [] (SH, (zu (zu (zu (zu s.2 93 (s.1 - 1).toNatClampNeg (s.2 93 s.1.toNatClampNeg)) 94 (s.1 - 1).toNatClampNeg (s.2 94 s.1.toNatClampNeg)) 95 (s.1 - 1).toNatClampNeg (s.2 95 s.1.toNatClampNeg)) 96 (s.1 - 1).toNatClampNeg (s.2 96 s.1.toNatClampNeg)), J) else none) rfl (zR_bif hc10 (zR_go ?_))
    refine zr_steps 2 (34, [some (.ref 73), some (.int v1), some (.int v2), some (.int v3), some (.int v4), some (.int (s.1 + 1))], [], (SH, (zu (zu (zu (zu s.2 93 (s.1 - 1).toNatClampNeg (s.2 93 s.1.toNatClampNeg)) 94 (s.1 - 1).toNatClampNeg (s.2 94 s.1.toNatClampNeg)) 95 (s.1 - 1).toNatClampNeg (s.2 95 s.1.toNatClampNeg)) 96 (s.1 - 1).toNatClampNeg (s.2 96 s.1.toNatClampNeg)), J)) rfl ?_
    have he := Option.some.inj h
    subst he
    exact zr_hdr rfl rfl (show zRun X d 161 34 [some (.ref 73), some (.int v1), some (.int v2), some (.int v3), some (.int v4), some (.int (s.1 + 1))] [] (SH, (zu (zu (zu (zu s.2 93 (s.1 - 1).toNatClampNeg (s.2 93 s.1.toNatClampNeg)) 94 (s.1 - 1).toNatClampNeg (s.2 94 s.1.toNatClampNeg)) 95 (s.1 - 1).toNatClampNeg (s.2 95 s.1.toNatClampNeg)) 96 (s.1 - 1).toNatClampNeg (s.2 96 s.1.toNatClampNeg)), J) r M' from w))
theorem ok_f161_changes {X : zX} {d : Nat} (hd : 1 ≤ d) (v1 : Int32) (v2 : Int32) (v3 : Int32) {I : (Nat → Nat → Int32)} {J : (Nat → Nat → Int64)} (t : (Int32 × (Nat → Nat → Int32))) (h : f161_changes v1 v2 v3 I = some t) : zRun X d 161 0 (zent 161 [.ref 73, .int v1, .int v2, .int v3]) [] (SH, I, J) (some (.int t.1)) (SH, t.2, J) := by
  unfold f161_changes at h
  refine zr_steps 3 (3, [some (.ref 73), some (.int v1), some (.int v2), some (.int v3), none, none], [.int v2, .int v1, .ref 73], (SH, I, J)) rfl ?_
  obtain ⟨t2, hc1, h⟩ := zbind h
  refine zr_one (some (.inr (.inl (159, [.ref 73, .int v1, .int v2], [], 6)))) rfl (zR_call (by omega) rfl (ok_f159_valueAt (by omega) v1 v2 _ hc1) ?_)
  refine zr_steps 3 (11, [some (.ref 73), some (.int v1), some (.int v2), some (.int v3), some (.int t2), none], [.int v3, .int t2], (SH, I, J)) rfl ?_
  refine zr_one (if t2 = v3 then zN 14 [some (.ref 73), some (.int v1), some (.int v2), some (.int v3), some (.int t2), none] [] (SH, I, J) else zN 17 [some (.ref 73), some (.int v1), some (.int v2), some (.int v3), some (.int t2), none] [] (SH, I, J)) rfl (zR_if (fun hc27 => zR_go ?_) (fun hc27 => zR_go ?_))
  · rw [if_pos hc27] at h
    refine zr_steps 1 (16, [some (.ref 73), some (.int v1), some (.int v2), some (.int v3), some (.int t2), none], [.int t2], (SH, I, J)) rfl ?_
    have he := Option.some.inj h
    subst he
    exact zr_one (some (.inr (.inr (some (.int t2))))) rfl (zR_ret rfl rfl)
  · rw [if_neg hc27] at h
    refine zr_steps 6 (28, [some (.ref 73), some (.int v1), some (.int v2), some (.int v3), some (.int t2), none], [.int 40, .int (I 73 32)], (SH, (zu I 73 33 0), J)) rfl ?_
    refine zr_one (if (I 73 32) = 40 then zN 31 [some (.ref 73), some (.int v1), some (.int v2), some (.int v3), some (.int t2), none] [] (SH, (zu I 73 33 0), J) else zN 121 [some (.ref 73), some (.int v1), some (.int v2), some (.int v3), some (.int t2), none] [] (SH, (zu I 73 33 0), J)) rfl (zR_if (fun hc26 => zR_go ?_) (fun hc26 => zR_go ?_))
    · rw [if_pos hc26] at h
      refine zr_steps 2 (34, [some (.ref 73), some (.int v1), some (.int v2), some (.int v3), some (.int t2), some (.int 1)], [], (SH, (zu I 73 33 0), J)) rfl ?_
      obtain ⟨s12, ho13, h⟩ := zbind h
      refine zr_hdr (ls2 := [some (.ref 73), some (.int v1), some (.int v2), some (.int v3), some (.int t2), some (.int 1)]) rfl rfl ?_
      refine ok_f161_changes_L34 (by omega) v1 v2 v3 t2 5000 ((1 : Int32), (zu I 73 33 0)) s12 ho13 ?_
      show zRun X d 161 111 [some (.ref 73), some (.int v1), some (.int v2), some (.int v3), some (.int t2), none] [] (SH, s12.2, J) _ _
      refine zr_steps 11 (130, [some (.ref 73), some (.int v1), some (.int v2), some (.int v3), some (.int t2), none], [.int v1, .int ((s12.2 73 32) - 1), .ref 93], (SH, (zu s12.2 73 32 ((s12.2 73 32) - 1)), J)) rfl ?_
      obtain ⟨hc14, h⟩ := zbifo h
      refine zr_one (bif zin ((s12.2 73 32) - 1) 40 then zN 131 [some (.ref 73), some (.int v1), some (.int v2), some (.int v3), some (.int t2), none] [] (SH, (zu (zu s12.2 73 32 ((s12.2 73 32) - 1)) 93 ((s12.2 73 32) - 1).toNatClampNeg v1), J) else none) rfl (zR_bif hc14 (zR_go ?_))
      refine zr_steps 5 (140, [some (.ref 73), some (.int v1), some (.int v2), some (.int v3), some (.int t2), none], [.int v2, .int ((s12.2 73 32) - 1), .ref 94], (SH, (zu (zu s12.2 73 32 ((s12.2 73 32) - 1)) 93 ((s12.2 73 32) - 1).toNatClampNeg v1), J)) rfl ?_
      obtain ⟨hc15, h⟩ := zbifo h
      refine zr_one (bif zin ((s12.2 73 32) - 1) 40 then zN 141 [some (.ref 73), some (.int v1), some (.int v2), some (.int v3), some (.int t2), none] [] (SH, (zu (zu (zu s12.2 73 32 ((s12.2 73 32) - 1)) 93 ((s12.2 73 32) - 1).toNatClampNeg v1) 94 ((s12.2 73 32) - 1).toNatClampNeg v2), J) else none) rfl (zR_bif hc15 (zR_go ?_))
      refine zr_steps 5 (151, [some (.ref 73), some (.int v1), some (.int v2), some (.int v3), some (.int t2), none], [.int t2, .int ((s12.2 73 32) - 1), .ref 95], (SH, (zu (zu (zu s12.2 73 32 ((s12.2 73 32) - 1)) 93 ((s12.2 73 32) - 1).toNatClampNeg v1) 94 ((s12.2 73 32) - 1).toNatClampNeg v2), J)) rfl ?_
      obtain ⟨hc16, h⟩ := zbifo h
      refine zr_one (bif zin ((s12.2 73 32) - 1) 40 then zN 152 [some (.ref 73), some (.int v1), some (.int v2), some (.int v3), some (.int t2), none] [] (SH, (zu (zu (zu (zu s12.2 73 32 ((s12.2 73 32) - 1)) 93 ((s12.2 73 32) - 1).toNatClampNeg v1) 94 ((s12.2 73 32) - 1).toNatClampNeg v2) 95 ((s12.2 73 32) - 1).toNatClampNeg t2), J) else none) rfl (zR_bif hc16 (zR_go ?_))
      refine zr_steps 5 (161, [some (.ref 73), some (.int v1), some (.int v2), some (.int v3), some (.int t2), none], [.int v3, .int ((s12.2 73 32) - 1), .ref 96], (SH, (zu (zu (zu (zu s12.2 73 32 ((s12.2 73 32) - 1)) 93 ((s12.2 73 32) - 1).toNatClampNeg v1) 94 ((s12.2 73 32) - 1).toNatClampNeg v2) 95 ((s12.2 73 32) - 1).toNatClampNeg t2), J)) rfl ?_
      obtain ⟨hc17, h⟩ := zbifo h
      refine zr_one (bif zin ((s12.2 73 32) - 1) 40 then zN 162 [some (.ref 73), some (.int v1), some (.int v2), some (.int v3), some (.int t2), none] [] (SH, (zu (zu (zu (zu (zu s12.2 73 32 ((s12.2 73 32) - 1)) 93 ((s12.2 73 32) - 1).toNatClampNeg v1) 94 ((s12.2 73 32) - 1).toNatClampNeg v2) 95 ((s12.2 73 32) - 1).toNatClampNeg t2) 96 ((s12.2 73 32) - 1).toNatClampNeg v3), J) else none) rfl (zR_bif hc17 (zR_go ?_))
      refine zr_steps 10 (176, [some (.ref 73), some (.int v1), some (.int v2), some (.int v3), some (.int t2), none], [.int v3, .int v2, .int v1, .ref 73], (SH, (zu (zu (zu (zu (zu (zu s12.2 73 32 ((s12.2 73 32) - 1)) 93 ((s12.2 73 32) - 1).toNatClampNeg v1) 94 ((s12.2 73 32) - 1).toNatClampNeg v2) 95 ((s12.2 73 32) - 1).toNatClampNeg t2) 96 ((s12.2 73 32) - 1).toNatClampNeg v3) 73 32 (((s12.2 73 32) - 1) + 1)), J)) rfl ?_
      obtain ⟨t19, hc18, h⟩ := zbind h
      refine zr_one (some (.inr (.inl (160, [.ref 73, .int v1, .int v2, .int v3], [], 179)))) rfl (zR_call (by omega) rfl (ok_f160_lays (by omega) v1 v2 v3 _ hc18) ?_)
      refine zr_steps 1 (181, [some (.ref 73), some (.int v1), some (.int v2), some (.int v3), some (.int t2), none], [.int t2], (SH, t19, J)) rfl ?_
      have he := Option.some.inj h
      subst he
      exact zr_one (some (.inr (.inr (some (.int t2))))) rfl (zR_ret rfl rfl)
    · rw [if_neg hc26] at h
      refine zr_steps 5 (130, [some (.ref 73), some (.int v1), some (.int v2), some (.int v3), some (.int t2), none], [.int v1, .int (I 73 32), .ref 93], (SH, (zu I 73 33 0), J)) rfl ?_
      obtain ⟨hc20, h⟩ := zbifo h
      refine zr_one (bif zin (I 73 32) 40 then zN 131 [some (.ref 73), some (.int v1), some (.int v2), some (.int v3), some (.int t2), none] [] (SH, (zu (zu I 73 33 0) 93 (I 73 32).toNatClampNeg v1), J) else none) rfl (zR_bif hc20 (zR_go ?_))
      refine zr_steps 5 (140, [some (.ref 73), some (.int v1), some (.int v2), some (.int v3), some (.int t2), none], [.int v2, .int (I 73 32), .ref 94], (SH, (zu (zu I 73 33 0) 93 (I 73 32).toNatClampNeg v1), J)) rfl ?_
      obtain ⟨hc21, h⟩ := zbifo h
      refine zr_one (bif zin (I 73 32) 40 then zN 141 [some (.ref 73), some (.int v1), some (.int v2), some (.int v3), some (.int t2), none] [] (SH, (zu (zu (zu I 73 33 0) 93 (I 73 32).toNatClampNeg v1) 94 (I 73 32).toNatClampNeg v2), J) else none) rfl (zR_bif hc21 (zR_go ?_))
      refine zr_steps 5 (151, [some (.ref 73), some (.int v1), some (.int v2), some (.int v3), some (.int t2), none], [.int t2, .int (I 73 32), .ref 95], (SH, (zu (zu (zu I 73 33 0) 93 (I 73 32).toNatClampNeg v1) 94 (I 73 32).toNatClampNeg v2), J)) rfl ?_
      obtain ⟨hc22, h⟩ := zbifo h
      refine zr_one (bif zin (I 73 32) 40 then zN 152 [some (.ref 73), some (.int v1), some (.int v2), some (.int v3), some (.int t2), none] [] (SH, (zu (zu (zu (zu I 73 33 0) 93 (I 73 32).toNatClampNeg v1) 94 (I 73 32).toNatClampNeg v2) 95 (I 73 32).toNatClampNeg t2), J) else none) rfl (zR_bif hc22 (zR_go ?_))
      refine zr_steps 5 (161, [some (.ref 73), some (.int v1), some (.int v2), some (.int v3), some (.int t2), none], [.int v3, .int (I 73 32), .ref 96], (SH, (zu (zu (zu (zu I 73 33 0) 93 (I 73 32).toNatClampNeg v1) 94 (I 73 32).toNatClampNeg v2) 95 (I 73 32).toNatClampNeg t2), J)) rfl ?_
      obtain ⟨hc23, h⟩ := zbifo h
      refine zr_one (bif zin (I 73 32) 40 then zN 162 [some (.ref 73), some (.int v1), some (.int v2), some (.int v3), some (.int t2), none] [] (SH, (zu (zu (zu (zu (zu I 73 33 0) 93 (I 73 32).toNatClampNeg v1) 94 (I 73 32).toNatClampNeg v2) 95 (I 73 32).toNatClampNeg t2) 96 (I 73 32).toNatClampNeg v3), J) else none) rfl (zR_bif hc23 (zR_go ?_))
      refine zr_steps 10 (176, [some (.ref 73), some (.int v1), some (.int v2), some (.int v3), some (.int t2), none], [.int v3, .int v2, .int v1, .ref 73], (SH, (zu (zu (zu (zu (zu (zu I 73 33 0) 93 (I 73 32).toNatClampNeg v1) 94 (I 73 32).toNatClampNeg v2) 95 (I 73 32).toNatClampNeg t2) 96 (I 73 32).toNatClampNeg v3) 73 32 ((I 73 32) + 1)), J)) rfl ?_
      obtain ⟨t25, hc24, h⟩ := zbind h
      refine zr_one (some (.inr (.inl (160, [.ref 73, .int v1, .int v2, .int v3], [], 179)))) rfl (zR_call (by omega) rfl (ok_f160_lays (by omega) v1 v2 v3 _ hc24) ?_)
      refine zr_steps 1 (181, [some (.ref 73), some (.int v1), some (.int v2), some (.int v3), some (.int t2), none], [.int t2], (SH, t25, J)) rfl ?_
      have he := Option.some.inj h
      subst he
      exact zr_one (some (.inr (.inr (some (.int t2))))) rfl (zR_ret rfl rfl)
def f164_mend (v1 : Int32) (v2 : Int32) (v3 : Int32) (I : (Nat → Nat → Int32)) : Option (Int32 × (Nat → Nat → Int32)) :=
  if v2 = 0 then
    Option.bind (f131_isSort v1 I) fun t2 =>
    if t2 = 0 then
      some ((-1), I)
    else
      Option.bind (f129_in v3 0 200) fun t4 =>
      if t4 = 0 then
        some ((-1), I)
      else
        Option.bind (f161_changes 0 v1 v3 I) fun t6 =>
        some (t6.1, t6.2)
  else
    if v2 = 1 then
      Option.bind (f130_isSquare v1 I) fun t10 =>
      if t10 = 0 then
        some ((-1), I)
      else
        Option.bind (f129_in v3 0 999) fun t12 =>
        if t12 = 0 then
          some ((-1), I)
        else
          Option.bind (f161_changes 1 v1 v3 I) fun t14 =>
          some (t14.1, t14.2)
    else
      some ((-1), I)
theorem ok_f164_mend {X : zX} {d : Nat} (hd : 2 ≤ d) (v1 : Int32) (v2 : Int32) (v3 : Int32) {I : (Nat → Nat → Int32)} {J : (Nat → Nat → Int64)} (t : (Int32 × (Nat → Nat → Int32))) (h : f164_mend v1 v2 v3 I = some t) : zRun X d 164 0 (zent 164 [.ref 73, .int v1, .int v2, .int v3]) [] (SH, I, J) (some (.int t.1)) (SH, t.2, J) := by
  unfold f164_mend at h
  refine zr_steps 1 (1, [some (.ref 73), some (.int v1), some (.int v2), some (.int v3)], [.int v2], (SH, I, J)) rfl ?_
  refine zr_one (if v2 = 0 then zN 4 [some (.ref 73), some (.int v1), some (.int v2), some (.int v3)] [] (SH, I, J) else zN 35 [some (.ref 73), some (.int v1), some (.int v2), some (.int v3)] [] (SH, I, J)) rfl (zR_if (fun hc18 => zR_go ?_) (fun hc18 => zR_go ?_))
  · rw [if_pos hc18] at h
    refine zr_steps 2 (6, [some (.ref 73), some (.int v1), some (.int v2), some (.int v3)], [.int v1, .ref 73], (SH, I, J)) rfl ?_
    obtain ⟨t2, hc1, h⟩ := zbind h
    refine zr_one (some (.inr (.inl (131, [.ref 73, .int v1], [], 9)))) rfl (zR_call (by omega) rfl (ok_f131_isSort (by omega) v1 _ hc1) ?_)
    refine zr_one (if t2 = 0 then zN 33 [some (.ref 73), some (.int v1), some (.int v2), some (.int v3)] [] (SH, I, J) else zN 12 [some (.ref 73), some (.int v1), some (.int v2), some (.int v3)] [] (SH, I, J)) rfl (zR_if (fun hc8 => zR_go ?_) (fun hc8 => zR_go ?_))
    · rw [if_pos hc8] at h
      refine zr_steps 1 (34, [some (.ref 73), some (.int v1), some (.int v2), some (.int v3)], [.int (-1)], (SH, I, J)) rfl ?_
      have he := Option.some.inj h
      subst he
      exact zr_one (some (.inr (.inr (some (.int (-1)))))) rfl (zR_ret rfl rfl)
    · rw [if_neg hc8] at h
      refine zr_steps 3 (17, [some (.ref 73), some (.int v1), some (.int v2), some (.int v3)], [.int 200, .int 0, .int v3], (SH, I, J)) rfl ?_
      obtain ⟨t4, hc3, h⟩ := zbind h
      refine zr_one (some (.inr (.inl (129, [.int v3, .int 0, .int 200], [], 20)))) rfl (zR_call (by omega) rfl (ok_f129_in (by omega) v3 0 200 _ hc3) ?_)
      refine zr_one (if t4 = 0 then zN 33 [some (.ref 73), some (.int v1), some (.int v2), some (.int v3)] [] (SH, I, J) else zN 23 [some (.ref 73), some (.int v1), some (.int v2), some (.int v3)] [] (SH, I, J)) rfl (zR_if (fun hc7 => zR_go ?_) (fun hc7 => zR_go ?_))
      · rw [if_pos hc7] at h
        refine zr_steps 1 (34, [some (.ref 73), some (.int v1), some (.int v2), some (.int v3)], [.int (-1)], (SH, I, J)) rfl ?_
        have he := Option.some.inj h
        subst he
        exact zr_one (some (.inr (.inr (some (.int (-1)))))) rfl (zR_ret rfl rfl)
      · rw [if_neg hc7] at h
        refine zr_steps 4 (27, [some (.ref 73), some (.int v1), some (.int v2), some (.int v3)], [.int v3, .int v1, .int 0, .ref 73], (SH, I, J)) rfl ?_
        obtain ⟨t6, hc5, h⟩ := zbind h
        refine zr_one (some (.inr (.inl (161, [.ref 73, .int 0, .int v1, .int v3], [], 30)))) rfl (zR_call (by omega) rfl (ok_f161_changes (by omega) 0 v1 v3 _ hc5) ?_)
        refine zr_steps 1 (34, [some (.ref 73), some (.int v1), some (.int v2), some (.int v3)], [.int t6.1], (SH, t6.2, J)) rfl ?_
        have he := Option.some.inj h
        subst he
        exact zr_one (some (.inr (.inr (some (.int t6.1))))) rfl (zR_ret rfl rfl)
  · rw [if_neg hc18] at h
    refine zr_steps 2 (37, [some (.ref 73), some (.int v1), some (.int v2), some (.int v3)], [.int 1, .int v2], (SH, I, J)) rfl ?_
    refine zr_one (if v2 = 1 then zN 40 [some (.ref 73), some (.int v1), some (.int v2), some (.int v3)] [] (SH, I, J) else zN 69 [some (.ref 73), some (.int v1), some (.int v2), some (.int v3)] [] (SH, I, J)) rfl (zR_if (fun hc17 => zR_go ?_) (fun hc17 => zR_go ?_))
    · rw [if_pos hc17] at h
      refine zr_steps 2 (42, [some (.ref 73), some (.int v1), some (.int v2), some (.int v3)], [.int v1, .ref 73], (SH, I, J)) rfl ?_
      obtain ⟨t10, hc9, h⟩ := zbind h
      refine zr_one (some (.inr (.inl (130, [.ref 73, .int v1], [], 45)))) rfl (zR_call (by omega) rfl (ok_f130_isSquare (by omega) v1 _ hc9) ?_)
      refine zr_one (if t10 = 0 then zN 69 [some (.ref 73), some (.int v1), some (.int v2), some (.int v3)] [] (SH, I, J) else zN 48 [some (.ref 73), some (.int v1), some (.int v2), some (.int v3)] [] (SH, I, J)) rfl (zR_if (fun hc16 => zR_go ?_) (fun hc16 => zR_go ?_))
      · rw [if_pos hc16] at h
        refine zr_steps 1 (70, [some (.ref 73), some (.int v1), some (.int v2), some (.int v3)], [.int (-1)], (SH, I, J)) rfl ?_
        have he := Option.some.inj h
        subst he
        exact zr_one (some (.inr (.inr (some (.int (-1)))))) rfl (zR_ret rfl rfl)
      · rw [if_neg hc16] at h
        refine zr_steps 3 (53, [some (.ref 73), some (.int v1), some (.int v2), some (.int v3)], [.int 999, .int 0, .int v3], (SH, I, J)) rfl ?_
        obtain ⟨t12, hc11, h⟩ := zbind h
        refine zr_one (some (.inr (.inl (129, [.int v3, .int 0, .int 999], [], 56)))) rfl (zR_call (by omega) rfl (ok_f129_in (by omega) v3 0 999 _ hc11) ?_)
        refine zr_one (if t12 = 0 then zN 69 [some (.ref 73), some (.int v1), some (.int v2), some (.int v3)] [] (SH, I, J) else zN 59 [some (.ref 73), some (.int v1), some (.int v2), some (.int v3)] [] (SH, I, J)) rfl (zR_if (fun hc15 => zR_go ?_) (fun hc15 => zR_go ?_))
        · rw [if_pos hc15] at h
          refine zr_steps 1 (70, [some (.ref 73), some (.int v1), some (.int v2), some (.int v3)], [.int (-1)], (SH, I, J)) rfl ?_
          have he := Option.some.inj h
          subst he
          exact zr_one (some (.inr (.inr (some (.int (-1)))))) rfl (zR_ret rfl rfl)
        · rw [if_neg hc15] at h
          refine zr_steps 4 (63, [some (.ref 73), some (.int v1), some (.int v2), some (.int v3)], [.int v3, .int v1, .int 1, .ref 73], (SH, I, J)) rfl ?_
          obtain ⟨t14, hc13, h⟩ := zbind h
          refine zr_one (some (.inr (.inl (161, [.ref 73, .int 1, .int v1, .int v3], [], 66)))) rfl (zR_call (by omega) rfl (ok_f161_changes (by omega) 1 v1 v3 _ hc13) ?_)
          refine zr_steps 1 (70, [some (.ref 73), some (.int v1), some (.int v2), some (.int v3)], [.int t14.1], (SH, t14.2, J)) rfl ?_
          have he := Option.some.inj h
          subst he
          exact zr_one (some (.inr (.inr (some (.int t14.1))))) rfl (zR_ret rfl rfl)
    · rw [if_neg hc17] at h
      refine zr_steps 1 (70, [some (.ref 73), some (.int v1), some (.int v2), some (.int v3)], [.int (-1)], (SH, I, J)) rfl ?_
      have he := Option.some.inj h
      subst he
      exact zr_one (some (.inr (.inr (some (.int (-1)))))) rfl (zR_ret rfl rfl)
def f72_ofWay (v1 : Int32) (v2 : Int32) (I : (Nat → Nat → Int32)) : Option Int32 :=
  if v1 < 0 then
    some (-1)
  else
    if v1 < (I 1 1) then
      if v2.toInt = 20 then
        bif zin v1 12 then
        some (I 4 v1.toNatClampNeg)
        else none
      else
      if v2.toInt = 21 then
        bif zin v1 12 then
        some (I 5 v1.toNatClampNeg)
        else none
      else
      if v2.toInt = 22 then
        bif zin v1 12 then
        some (I 6 v1.toNatClampNeg)
        else none
      else
      if v2.toInt = 23 then
        bif zin v1 12 then
        some (I 7 v1.toNatClampNeg)
        else none
      else
      some (-1)
    else
      some (-1)
theorem ok_f72_ofWay {X : zX} {d : Nat} (hd : 0 ≤ d) (v1 : Int32) (v2 : Int32) {I : (Nat → Nat → Int32)} {J : (Nat → Nat → Int64)} (t : Int32) (h : f72_ofWay v1 v2 I = some t) : zRun X d 72 0 (zent 72 [.ref 1, .int v1, .int v2]) [] (SH, I, J) (some (.int t)) (SH, I, J) := by
  unfold f72_ofWay at h
  refine zr_steps 1 (1, [some (.ref 1), some (.int v1), some (.int v2)], [.int v1], (SH, I, J)) rfl ?_
  refine zr_one (if v1 < 0 then zN 12 [some (.ref 1), some (.int v1), some (.int v2)] [] (SH, I, J) else zN 4 [some (.ref 1), some (.int v1), some (.int v2)] [] (SH, I, J)) rfl (zR_if (fun hc10 => zR_go ?_) (fun hc10 => zR_go ?_))
  · rw [if_pos hc10] at h
    refine zr_steps 1 (13, [some (.ref 1), some (.int v1), some (.int v2)], [.int (-1)], (SH, I, J)) rfl ?_
    have he := Option.some.inj h
    subst he
    exact zr_one (some (.inr (.inr (some (.int (-1)))))) rfl (zR_ret rfl rfl)
  · rw [if_neg hc10] at h
    refine zr_steps 3 (9, [some (.ref 1), some (.int v1), some (.int v2)], [.int (I 1 1), .int v1], (SH, I, J)) rfl ?_
    refine zr_one (if v1 < (I 1 1) then zN 14 [some (.ref 1), some (.int v1), some (.int v2)] [] (SH, I, J) else zN 12 [some (.ref 1), some (.int v1), some (.int v2)] [] (SH, I, J)) rfl (zR_if (fun hc9 => zR_go ?_) (fun hc9 => zR_go ?_))
    · rw [if_pos hc9] at h
      refine zr_steps 1 (15, [some (.ref 1), some (.int v1), some (.int v2)], [.int v2], (SH, I, J)) rfl ?_
      refine zr_one (if v2.toInt = 20 then zN 44 [some (.ref 1), some (.int v1), some (.int v2)] [] (SH, I, J) else (if v2.toInt = 21 then zN 51 [some (.ref 1), some (.int v1), some (.int v2)] [] (SH, I, J) else (if v2.toInt = 22 then zN 58 [some (.ref 1), some (.int v1), some (.int v2)] [] (SH, I, J) else (if v2.toInt = 23 then zN 65 [some (.ref 1), some (.int v1), some (.int v2)] [] (SH, I, J) else zN 72 [some (.ref 1), some (.int v1), some (.int v2)] [] (SH, I, J))))) rfl ?_
      refine zR_if (fun hc8 => zR_go ?_) (fun hc8 => ?_)
      · rw [if_pos hc8] at h
        refine zr_steps 3 (49, [some (.ref 1), some (.int v1), some (.int v2)], [.int v1, .ref 4], (SH, I, J)) rfl ?_
        obtain ⟨hc1, h⟩ := zbifo h
        refine zr_one (bif zin v1 12 then zN 50 [some (.ref 1), some (.int v1), some (.int v2)] [.int (I 4 v1.toNatClampNeg)] (SH, I, J) else none) rfl (zR_bif hc1 (zR_go ?_))
        have he := Option.some.inj h
        subst he
        exact zr_one (some (.inr (.inr (some (.int (I 4 v1.toNatClampNeg)))))) rfl (zR_ret rfl rfl)
      rw [if_neg hc8] at h
      refine zR_if (fun hc7 => zR_go ?_) (fun hc7 => ?_)
      · rw [if_pos hc7] at h
        refine zr_steps 3 (56, [some (.ref 1), some (.int v1), some (.int v2)], [.int v1, .ref 5], (SH, I, J)) rfl ?_
        obtain ⟨hc2, h⟩ := zbifo h
        refine zr_one (bif zin v1 12 then zN 57 [some (.ref 1), some (.int v1), some (.int v2)] [.int (I 5 v1.toNatClampNeg)] (SH, I, J) else none) rfl (zR_bif hc2 (zR_go ?_))
        have he := Option.some.inj h
        subst he
        exact zr_one (some (.inr (.inr (some (.int (I 5 v1.toNatClampNeg)))))) rfl (zR_ret rfl rfl)
      rw [if_neg hc7] at h
      refine zR_if (fun hc6 => zR_go ?_) (fun hc6 => ?_)
      · rw [if_pos hc6] at h
        refine zr_steps 3 (63, [some (.ref 1), some (.int v1), some (.int v2)], [.int v1, .ref 6], (SH, I, J)) rfl ?_
        obtain ⟨hc3, h⟩ := zbifo h
        refine zr_one (bif zin v1 12 then zN 64 [some (.ref 1), some (.int v1), some (.int v2)] [.int (I 6 v1.toNatClampNeg)] (SH, I, J) else none) rfl (zR_bif hc3 (zR_go ?_))
        have he := Option.some.inj h
        subst he
        exact zr_one (some (.inr (.inr (some (.int (I 6 v1.toNatClampNeg)))))) rfl (zR_ret rfl rfl)
      rw [if_neg hc6] at h
      refine zR_if (fun hc5 => zR_go ?_) (fun hc5 => ?_)
      · rw [if_pos hc5] at h
        refine zr_steps 3 (70, [some (.ref 1), some (.int v1), some (.int v2)], [.int v1, .ref 7], (SH, I, J)) rfl ?_
        obtain ⟨hc4, h⟩ := zbifo h
        refine zr_one (bif zin v1 12 then zN 71 [some (.ref 1), some (.int v1), some (.int v2)] [.int (I 7 v1.toNatClampNeg)] (SH, I, J) else none) rfl (zR_bif hc4 (zR_go ?_))
        have he := Option.some.inj h
        subst he
        exact zr_one (some (.inr (.inr (some (.int (I 7 v1.toNatClampNeg)))))) rfl (zR_ret rfl rfl)
      rw [if_neg hc5] at h
      refine zR_go ?_
      refine zr_steps 1 (73, [some (.ref 1), some (.int v1), some (.int v2)], [.int (-1)], (SH, I, J)) rfl ?_
      have he := Option.some.inj h
      subst he
      exact zr_one (some (.inr (.inr (some (.int (-1)))))) rfl (zR_ret rfl rfl)
    · rw [if_neg hc9] at h
      refine zr_steps 1 (13, [some (.ref 1), some (.int v1), some (.int v2)], [.int (-1)], (SH, I, J)) rfl ?_
      have he := Option.some.inj h
      subst he
      exact zr_one (some (.inr (.inr (some (.int (-1)))))) rfl (zR_ret rfl rfl)
def f71_ofSquare (v1 : Int32) (v2 : Int32) (I : (Nat → Nat → Int32)) : Option Int32 :=
  Option.bind (f61_isSquare v1 I) fun t2 =>
  if t2 = 0 then
    some (-1)
  else
    if v2 < 10 then
      some (-1)
    else
      if v2 ≤ 11 then
        if v2 = 10 then
          bif zin v1 4 then
          some (I 2 v1.toNatClampNeg)
          else none
        else
          bif zin v1 4 then
          some (I 3 v1.toNatClampNeg)
          else none
      else
        some (-1)
theorem ok_f71_ofSquare {X : zX} {d : Nat} (hd : 1 ≤ d) (v1 : Int32) (v2 : Int32) {I : (Nat → Nat → Int32)} {J : (Nat → Nat → Int64)} (t : Int32) (h : f71_ofSquare v1 v2 I = some t) : zRun X d 71 0 (zent 71 [.ref 1, .int v1, .int v2]) [] (SH, I, J) (some (.int t)) (SH, I, J) := by
  unfold f71_ofSquare at h
  refine zr_steps 2 (2, [some (.ref 1), some (.int v1), some (.int v2)], [.int v1, .ref 1], (SH, I, J)) rfl ?_
  obtain ⟨t2, hc1, h⟩ := zbind h
  refine zr_one (some (.inr (.inl (61, [.ref 1, .int v1], [], 5)))) rfl (zR_call (by omega) rfl (ok_f61_isSquare (by omega) v1 _ hc1) ?_)
  refine zr_one (if t2 = 0 then zN 20 [some (.ref 1), some (.int v1), some (.int v2)] [] (SH, I, J) else zN 8 [some (.ref 1), some (.int v1), some (.int v2)] [] (SH, I, J)) rfl (zR_if (fun hc8 => zR_go ?_) (fun hc8 => zR_go ?_))
  · rw [if_pos hc8] at h
    refine zr_steps 1 (21, [some (.ref 1), some (.int v1), some (.int v2)], [.int (-1)], (SH, I, J)) rfl ?_
    have he := Option.some.inj h
    subst he
    exact zr_one (some (.inr (.inr (some (.int (-1)))))) rfl (zR_ret rfl rfl)
  · rw [if_neg hc8] at h
    refine zr_steps 2 (11, [some (.ref 1), some (.int v1), some (.int v2)], [.int 10, .int v2], (SH, I, J)) rfl ?_
    refine zr_one (if v2 < 10 then zN 20 [some (.ref 1), some (.int v1), some (.int v2)] [] (SH, I, J) else zN 14 [some (.ref 1), some (.int v1), some (.int v2)] [] (SH, I, J)) rfl (zR_if (fun hc7 => zR_go ?_) (fun hc7 => zR_go ?_))
    · rw [if_pos hc7] at h
      refine zr_steps 1 (21, [some (.ref 1), some (.int v1), some (.int v2)], [.int (-1)], (SH, I, J)) rfl ?_
      have he := Option.some.inj h
      subst he
      exact zr_one (some (.inr (.inr (some (.int (-1)))))) rfl (zR_ret rfl rfl)
    · rw [if_neg hc7] at h
      refine zr_steps 2 (17, [some (.ref 1), some (.int v1), some (.int v2)], [.int 11, .int v2], (SH, I, J)) rfl ?_
      refine zr_one (if v2 ≤ 11 then zN 22 [some (.ref 1), some (.int v1), some (.int v2)] [] (SH, I, J) else zN 20 [some (.ref 1), some (.int v1), some (.int v2)] [] (SH, I, J)) rfl (zR_if (fun hc6 => zR_go ?_) (fun hc6 => zR_go ?_))
      · rw [if_pos hc6] at h
        refine zr_steps 2 (25, [some (.ref 1), some (.int v1), some (.int v2)], [.int 10, .int v2], (SH, I, J)) rfl ?_
        refine zr_one (if v2 = 10 then zN 28 [some (.ref 1), some (.int v1), some (.int v2)] [] (SH, I, J) else zN 37 [some (.ref 1), some (.int v1), some (.int v2)] [] (SH, I, J)) rfl (zR_if (fun hc5 => zR_go ?_) (fun hc5 => zR_go ?_))
        · rw [if_pos hc5] at h
          refine zr_steps 3 (33, [some (.ref 1), some (.int v1), some (.int v2)], [.int v1, .ref 2], (SH, I, J)) rfl ?_
          obtain ⟨hc3, h⟩ := zbifo h
          refine zr_one (bif zin v1 4 then zN 34 [some (.ref 1), some (.int v1), some (.int v2)] [.int (I 2 v1.toNatClampNeg)] (SH, I, J) else none) rfl (zR_bif hc3 (zR_go ?_))
          refine zr_steps 1 (43, [some (.ref 1), some (.int v1), some (.int v2)], [.int (I 2 v1.toNatClampNeg)], (SH, I, J)) rfl ?_
          have he := Option.some.inj h
          subst he
          exact zr_one (some (.inr (.inr (some (.int (I 2 v1.toNatClampNeg)))))) rfl (zR_ret rfl rfl)
        · rw [if_neg hc5] at h
          refine zr_steps 3 (42, [some (.ref 1), some (.int v1), some (.int v2)], [.int v1, .ref 3], (SH, I, J)) rfl ?_
          obtain ⟨hc4, h⟩ := zbifo h
          refine zr_one (bif zin v1 4 then zN 43 [some (.ref 1), some (.int v1), some (.int v2)] [.int (I 3 v1.toNatClampNeg)] (SH, I, J) else none) rfl (zR_bif hc4 (zR_go ?_))
          have he := Option.some.inj h
          subst he
          exact zr_one (some (.inr (.inr (some (.int (I 3 v1.toNatClampNeg)))))) rfl (zR_ret rfl rfl)
      · rw [if_neg hc6] at h
        refine zr_steps 1 (21, [some (.ref 1), some (.int v1), some (.int v2)], [.int (-1)], (SH, I, J)) rfl ?_
        have he := Option.some.inj h
        subst he
        exact zr_one (some (.inr (.inr (some (.int (-1)))))) rfl (zR_ret rfl rfl)
def f70_ofSort (v1 : Int32) (v2 : Int32) (I : (Nat → Nat → Int32)) : Option Int32 :=
  Option.bind (f62_isSort v1 I) fun t2 =>
  if t2 = 0 then
    some (-1)
  else
    if v2.toInt = 0 then
      bif zin v1 8 then
      some (I 8 v1.toNatClampNeg)
      else none
    else
    if v2.toInt = 1 then
      bif zin v1 8 then
      some (I 9 v1.toNatClampNeg)
      else none
    else
    if v2.toInt = 2 then
      bif zin v1 8 then
      some (I 10 v1.toNatClampNeg)
      else none
    else
    if v2.toInt = 3 then
      bif zin v1 8 then
      some (I 11 v1.toNatClampNeg)
      else none
    else
    if v2.toInt = 4 then
      bif zin v1 8 then
      some (I 12 v1.toNatClampNeg)
      else none
    else
    some (-1)
theorem ok_f70_ofSort {X : zX} {d : Nat} (hd : 1 ≤ d) (v1 : Int32) (v2 : Int32) {I : (Nat → Nat → Int32)} {J : (Nat → Nat → Int64)} (t : Int32) (h : f70_ofSort v1 v2 I = some t) : zRun X d 70 0 (zent 70 [.ref 1, .int v1, .int v2]) [] (SH, I, J) (some (.int t)) (SH, I, J) := by
  unfold f70_ofSort at h
  refine zr_steps 2 (2, [some (.ref 1), some (.int v1), some (.int v2)], [.int v1, .ref 1], (SH, I, J)) rfl ?_
  obtain ⟨t2, hc1, h⟩ := zbind h
  refine zr_one (some (.inr (.inl (62, [.ref 1, .int v1], [], 5)))) rfl (zR_call (by omega) rfl (ok_f62_isSort (by omega) v1 _ hc1) ?_)
  refine zr_one (if t2 = 0 then zN 8 [some (.ref 1), some (.int v1), some (.int v2)] [] (SH, I, J) else zN 10 [some (.ref 1), some (.int v1), some (.int v2)] [] (SH, I, J)) rfl (zR_if (fun hc13 => zR_go ?_) (fun hc13 => zR_go ?_))
  · rw [if_pos hc13] at h
    refine zr_steps 1 (9, [some (.ref 1), some (.int v1), some (.int v2)], [.int (-1)], (SH, I, J)) rfl ?_
    have he := Option.some.inj h
    subst he
    exact zr_one (some (.inr (.inr (some (.int (-1)))))) rfl (zR_ret rfl rfl)
  · rw [if_neg hc13] at h
    refine zr_steps 1 (11, [some (.ref 1), some (.int v1), some (.int v2)], [.int v2], (SH, I, J)) rfl ?_
    refine zr_one (if v2.toInt = 0 then zN 44 [some (.ref 1), some (.int v1), some (.int v2)] [] (SH, I, J) else (if v2.toInt = 1 then zN 51 [some (.ref 1), some (.int v1), some (.int v2)] [] (SH, I, J) else (if v2.toInt = 2 then zN 58 [some (.ref 1), some (.int v1), some (.int v2)] [] (SH, I, J) else (if v2.toInt = 3 then zN 65 [some (.ref 1), some (.int v1), some (.int v2)] [] (SH, I, J) else (if v2.toInt = 4 then zN 72 [some (.ref 1), some (.int v1), some (.int v2)] [] (SH, I, J) else zN 79 [some (.ref 1), some (.int v1), some (.int v2)] [] (SH, I, J)))))) rfl ?_
    refine zR_if (fun hc12 => zR_go ?_) (fun hc12 => ?_)
    · rw [if_pos hc12] at h
      refine zr_steps 3 (49, [some (.ref 1), some (.int v1), some (.int v2)], [.int v1, .ref 8], (SH, I, J)) rfl ?_
      obtain ⟨hc3, h⟩ := zbifo h
      refine zr_one (bif zin v1 8 then zN 50 [some (.ref 1), some (.int v1), some (.int v2)] [.int (I 8 v1.toNatClampNeg)] (SH, I, J) else none) rfl (zR_bif hc3 (zR_go ?_))
      have he := Option.some.inj h
      subst he
      exact zr_one (some (.inr (.inr (some (.int (I 8 v1.toNatClampNeg)))))) rfl (zR_ret rfl rfl)
    rw [if_neg hc12] at h
    refine zR_if (fun hc11 => zR_go ?_) (fun hc11 => ?_)
    · rw [if_pos hc11] at h
      refine zr_steps 3 (56, [some (.ref 1), some (.int v1), some (.int v2)], [.int v1, .ref 9], (SH, I, J)) rfl ?_
      obtain ⟨hc4, h⟩ := zbifo h
      refine zr_one (bif zin v1 8 then zN 57 [some (.ref 1), some (.int v1), some (.int v2)] [.int (I 9 v1.toNatClampNeg)] (SH, I, J) else none) rfl (zR_bif hc4 (zR_go ?_))
      have he := Option.some.inj h
      subst he
      exact zr_one (some (.inr (.inr (some (.int (I 9 v1.toNatClampNeg)))))) rfl (zR_ret rfl rfl)
    rw [if_neg hc11] at h
    refine zR_if (fun hc10 => zR_go ?_) (fun hc10 => ?_)
    · rw [if_pos hc10] at h
      refine zr_steps 3 (63, [some (.ref 1), some (.int v1), some (.int v2)], [.int v1, .ref 10], (SH, I, J)) rfl ?_
      obtain ⟨hc5, h⟩ := zbifo h
      refine zr_one (bif zin v1 8 then zN 64 [some (.ref 1), some (.int v1), some (.int v2)] [.int (I 10 v1.toNatClampNeg)] (SH, I, J) else none) rfl (zR_bif hc5 (zR_go ?_))
      have he := Option.some.inj h
      subst he
      exact zr_one (some (.inr (.inr (some (.int (I 10 v1.toNatClampNeg)))))) rfl (zR_ret rfl rfl)
    rw [if_neg hc10] at h
    refine zR_if (fun hc9 => zR_go ?_) (fun hc9 => ?_)
    · rw [if_pos hc9] at h
      refine zr_steps 3 (70, [some (.ref 1), some (.int v1), some (.int v2)], [.int v1, .ref 11], (SH, I, J)) rfl ?_
      obtain ⟨hc6, h⟩ := zbifo h
      refine zr_one (bif zin v1 8 then zN 71 [some (.ref 1), some (.int v1), some (.int v2)] [.int (I 11 v1.toNatClampNeg)] (SH, I, J) else none) rfl (zR_bif hc6 (zR_go ?_))
      have he := Option.some.inj h
      subst he
      exact zr_one (some (.inr (.inr (some (.int (I 11 v1.toNatClampNeg)))))) rfl (zR_ret rfl rfl)
    rw [if_neg hc9] at h
    refine zR_if (fun hc8 => zR_go ?_) (fun hc8 => ?_)
    · rw [if_pos hc8] at h
      refine zr_steps 3 (77, [some (.ref 1), some (.int v1), some (.int v2)], [.int v1, .ref 12], (SH, I, J)) rfl ?_
      obtain ⟨hc7, h⟩ := zbifo h
      refine zr_one (bif zin v1 8 then zN 78 [some (.ref 1), some (.int v1), some (.int v2)] [.int (I 12 v1.toNatClampNeg)] (SH, I, J) else none) rfl (zR_bif hc7 (zR_go ?_))
      have he := Option.some.inj h
      subst he
      exact zr_one (some (.inr (.inr (some (.int (I 12 v1.toNatClampNeg)))))) rfl (zR_ret rfl rfl)
    rw [if_neg hc8] at h
    refine zR_go ?_
    refine zr_steps 1 (80, [some (.ref 1), some (.int v1), some (.int v2)], [.int (-1)], (SH, I, J)) rfl ?_
    have he := Option.some.inj h
    subst he
    exact zr_one (some (.inr (.inr (some (.int (-1)))))) rfl (zR_ret rfl rfl)
def f95_of (v1 : Int32) (v2 : Int32) (I : (Nat → Nat → Int32)) : Option Int32 :=
  if (10 : Int32) ≤ v2 then
    if (20 : Int32) ≤ v2 then
      Option.bind (f72_ofWay v1 v2 I) fun t2 =>
      some t2
    else
      Option.bind (f71_ofSquare v1 v2 I) fun t4 =>
      some t4
  else
    Option.bind (f70_ofSort v1 v2 I) fun t7 =>
    some t7
theorem ok_f95_of {X : zX} {d : Nat} (hd : 2 ≤ d) (v1 : Int32) (v2 : Int32) {I : (Nat → Nat → Int32)} {J : (Nat → Nat → Int64)} (t : Int32) (h : f95_of v1 v2 I = some t) : zRun X d 95 0 (zent 95 [.ref 0, .int v1, .int v2]) [] (SH, I, J) (some (.int t)) (SH, I, J) := by
  unfold f95_of at h
  refine zr_steps 2 (3, [some (.ref 0), some (.int v1), some (.int v2)], [.int 10, .int v2], (SH, I, J)) rfl ?_
  refine zr_one (if (10 : Int32) ≤ v2 then zN 16 [some (.ref 0), some (.int v1), some (.int v2)] [] (SH, I, J) else zN 6 [some (.ref 0), some (.int v1), some (.int v2)] [] (SH, I, J)) rfl (zR_if (fun hc8 => zR_go ?_) (fun hc8 => zR_go ?_))
  · rw [if_pos hc8] at h
    refine zr_steps 2 (19, [some (.ref 0), some (.int v1), some (.int v2)], [.int 20, .int v2], (SH, I, J)) rfl ?_
    refine zr_one (if (20 : Int32) ≤ v2 then zN 34 [some (.ref 0), some (.int v1), some (.int v2)] [] (SH, I, J) else zN 22 [some (.ref 0), some (.int v1), some (.int v2)] [] (SH, I, J)) rfl (zR_if (fun hc5 => zR_go ?_) (fun hc5 => zR_go ?_))
    · rw [if_pos hc5] at h
      refine zr_steps 4 (40, [some (.ref 0), some (.int v1), some (.int v2)], [.int v2, .int v1, .ref 1], (SH, I, J)) rfl ?_
      obtain ⟨t2, hc1, h⟩ := zbind h
      refine zr_one (some (.inr (.inl (72, [.ref 1, .int v1, .int v2], [], 43)))) rfl (zR_call (by omega) rfl (ok_f72_ofWay (by omega) v1 v2 _ hc1) ?_)
      have he := Option.some.inj h
      subst he
      exact zr_one (some (.inr (.inr (some (.int t2))))) rfl (zR_ret rfl rfl)
    · rw [if_neg hc5] at h
      refine zr_steps 4 (28, [some (.ref 0), some (.int v1), some (.int v2)], [.int v2, .int v1, .ref 1], (SH, I, J)) rfl ?_
      obtain ⟨t4, hc3, h⟩ := zbind h
      refine zr_one (some (.inr (.inl (71, [.ref 1, .int v1, .int v2], [], 31)))) rfl (zR_call (by omega) rfl (ok_f71_ofSquare (by omega) v1 v2 _ hc3) ?_)
      refine zr_steps 1 (43, [some (.ref 0), some (.int v1), some (.int v2)], [.int t4], (SH, I, J)) rfl ?_
      have he := Option.some.inj h
      subst he
      exact zr_one (some (.inr (.inr (some (.int t4))))) rfl (zR_ret rfl rfl)
  · rw [if_neg hc8] at h
    refine zr_steps 4 (12, [some (.ref 0), some (.int v1), some (.int v2)], [.int v2, .int v1, .ref 1], (SH, I, J)) rfl ?_
    obtain ⟨t7, hc6, h⟩ := zbind h
    refine zr_one (some (.inr (.inl (70, [.ref 1, .int v1, .int v2], [], 15)))) rfl (zR_call (by omega) rfl (ok_f70_ofSort (by omega) v1 v2 _ hc6) ?_)
    have he := Option.some.inj h
    subst he
    exact zr_one (some (.inr (.inr (some (.int t7))))) rfl (zR_ret rfl rfl)
def f165_of (v1 : Int32) (v2 : Int32) (I : (Nat → Nat → Int32)) : Option Int32 :=
  Option.bind (f129_in v2 0 4) fun t2 =>
  if t2 = 0 then
    Option.bind (f129_in v2 10 11) fun t4 =>
    if t4 = 0 then
      Option.bind (f129_in v2 20 23) fun t6 =>
      if t6 = 0 then
        some (-1)
      else
        Option.bind (f129_in v1 0 ((I 73 4) - 1)) fun t8 =>
        if t8 = 0 then
          some (-1)
        else
          if v2 = 20 then
            bif zin v1 12 then
            some (I 76 v1.toNatClampNeg)
            else none
          else
            if v2 = 21 then
              bif zin v1 12 then
              some (I 77 v1.toNatClampNeg)
              else none
            else
              if v2 = 22 then
                bif zin v1 12 then
                some (I 78 v1.toNatClampNeg)
                else none
              else
                bif zin v1 12 then
                some (I 79 v1.toNatClampNeg)
                else none
    else
      Option.bind (f130_isSquare v1 I) fun t19 =>
      if t19 = 0 then
        some (-1)
      else
        if v2 = 10 then
          bif zin v1 4 then
          some (I 74 v1.toNatClampNeg)
          else none
        else
          bif zin v1 4 then
          some (I 75 v1.toNatClampNeg)
          else none
  else
    Option.bind (f131_isSort v1 I) fun t26 =>
    if t26 = 0 then
      some (-1)
    else
      if v2 = 0 then
        bif zin v1 8 then
        some (I 80 v1.toNatClampNeg)
        else none
      else
        if v2 = 1 then
          bif zin v1 8 then
          some (I 81 v1.toNatClampNeg)
          else none
        else
          if v2 = 2 then
            bif zin v1 8 then
            some (I 82 v1.toNatClampNeg)
            else none
          else
            if v2 = 3 then
              bif zin v1 8 then
              some (I 83 v1.toNatClampNeg)
              else none
            else
              bif zin v1 8 then
              some (I 84 v1.toNatClampNeg)
              else none
theorem ok_f165_of {X : zX} {d : Nat} (hd : 2 ≤ d) (v1 : Int32) (v2 : Int32) {I : (Nat → Nat → Int32)} {J : (Nat → Nat → Int64)} (t : Int32) (h : f165_of v1 v2 I = some t) : zRun X d 165 0 (zent 165 [.ref 73, .int v1, .int v2]) [] (SH, I, J) (some (.int t)) (SH, I, J) := by
  unfold f165_of at h
  refine zr_steps 3 (3, [some (.ref 73), some (.int v1), some (.int v2)], [.int 4, .int 0, .int v2], (SH, I, J)) rfl ?_
  obtain ⟨t2, hc1, h⟩ := zbind h
  refine zr_one (some (.inr (.inl (129, [.int v2, .int 0, .int 4], [], 6)))) rfl (zR_call (by omega) rfl (ok_f129_in (by omega) v2 0 4 _ hc1) ?_)
  refine zr_one (if t2 = 0 then zN 81 [some (.ref 73), some (.int v1), some (.int v2)] [] (SH, I, J) else zN 9 [some (.ref 73), some (.int v1), some (.int v2)] [] (SH, I, J)) rfl (zR_if (fun hc37 => zR_go ?_) (fun hc37 => zR_go ?_))
  · rw [if_pos hc37] at h
    refine zr_steps 3 (86, [some (.ref 73), some (.int v1), some (.int v2)], [.int 11, .int 10, .int v2], (SH, I, J)) rfl ?_
    obtain ⟨t4, hc3, h⟩ := zbind h
    refine zr_one (some (.inr (.inl (129, [.int v2, .int 10, .int 11], [], 89)))) rfl (zR_call (by omega) rfl (ok_f129_in (by omega) v2 10 11 _ hc3) ?_)
    refine zr_one (if t4 = 0 then zN 126 [some (.ref 73), some (.int v1), some (.int v2)] [] (SH, I, J) else zN 92 [some (.ref 73), some (.int v1), some (.int v2)] [] (SH, I, J)) rfl (zR_if (fun hc24 => zR_go ?_) (fun hc24 => zR_go ?_))
    · rw [if_pos hc24] at h
      refine zr_steps 3 (131, [some (.ref 73), some (.int v1), some (.int v2)], [.int 23, .int 20, .int v2], (SH, I, J)) rfl ?_
      obtain ⟨t6, hc5, h⟩ := zbind h
      refine zr_one (some (.inr (.inl (129, [.int v2, .int 20, .int 23], [], 134)))) rfl (zR_call (by omega) rfl (ok_f129_in (by omega) v2 20 23 _ hc5) ?_)
      refine zr_one (if t6 = 0 then zN 151 [some (.ref 73), some (.int v1), some (.int v2)] [] (SH, I, J) else zN 137 [some (.ref 73), some (.int v1), some (.int v2)] [] (SH, I, J)) rfl (zR_if (fun hc17 => zR_go ?_) (fun hc17 => zR_go ?_))
      · rw [if_pos hc17] at h
        refine zr_steps 1 (152, [some (.ref 73), some (.int v1), some (.int v2)], [.int (-1)], (SH, I, J)) rfl ?_
        have he := Option.some.inj h
        subst he
        exact zr_one (some (.inr (.inr (some (.int (-1)))))) rfl (zR_ret rfl rfl)
      · rw [if_neg hc17] at h
        refine zr_steps 6 (145, [some (.ref 73), some (.int v1), some (.int v2)], [.int ((I 73 4) - 1), .int 0, .int v1], (SH, I, J)) rfl ?_
        obtain ⟨t8, hc7, h⟩ := zbind h
        refine zr_one (some (.inr (.inl (129, [.int v1, .int 0, .int ((I 73 4) - 1)], [], 148)))) rfl (zR_call (by omega) rfl (ok_f129_in (by omega) v1 0 ((I 73 4) - 1) _ hc7) ?_)
        refine zr_one (if t8 = 0 then zN 151 [some (.ref 73), some (.int v1), some (.int v2)] [] (SH, I, J) else zN 153 [some (.ref 73), some (.int v1), some (.int v2)] [] (SH, I, J)) rfl (zR_if (fun hc16 => zR_go ?_) (fun hc16 => zR_go ?_))
        · rw [if_pos hc16] at h
          refine zr_steps 1 (152, [some (.ref 73), some (.int v1), some (.int v2)], [.int (-1)], (SH, I, J)) rfl ?_
          have he := Option.some.inj h
          subst he
          exact zr_one (some (.inr (.inr (some (.int (-1)))))) rfl (zR_ret rfl rfl)
        · rw [if_neg hc16] at h
          refine zr_steps 2 (156, [some (.ref 73), some (.int v1), some (.int v2)], [.int 20, .int v2], (SH, I, J)) rfl ?_
          refine zr_one (if v2 = 20 then zN 159 [some (.ref 73), some (.int v1), some (.int v2)] [] (SH, I, J) else zN 168 [some (.ref 73), some (.int v1), some (.int v2)] [] (SH, I, J)) rfl (zR_if (fun hc15 => zR_go ?_) (fun hc15 => zR_go ?_))
          · rw [if_pos hc15] at h
            refine zr_steps 3 (164, [some (.ref 73), some (.int v1), some (.int v2)], [.int v1, .ref 76], (SH, I, J)) rfl ?_
            obtain ⟨hc9, h⟩ := zbifo h
            refine zr_one (bif zin v1 12 then zN 165 [some (.ref 73), some (.int v1), some (.int v2)] [.int (I 76 v1.toNatClampNeg)] (SH, I, J) else none) rfl (zR_bif hc9 (zR_go ?_))
            refine zr_steps 1 (204, [some (.ref 73), some (.int v1), some (.int v2)], [.int (I 76 v1.toNatClampNeg)], (SH, I, J)) rfl ?_
            have he := Option.some.inj h
            subst he
            exact zr_one (some (.inr (.inr (some (.int (I 76 v1.toNatClampNeg)))))) rfl (zR_ret rfl rfl)
          · rw [if_neg hc15] at h
            refine zr_steps 2 (171, [some (.ref 73), some (.int v1), some (.int v2)], [.int 21, .int v2], (SH, I, J)) rfl ?_
            refine zr_one (if v2 = 21 then zN 174 [some (.ref 73), some (.int v1), some (.int v2)] [] (SH, I, J) else zN 183 [some (.ref 73), some (.int v1), some (.int v2)] [] (SH, I, J)) rfl (zR_if (fun hc14 => zR_go ?_) (fun hc14 => zR_go ?_))
            · rw [if_pos hc14] at h
              refine zr_steps 3 (179, [some (.ref 73), some (.int v1), some (.int v2)], [.int v1, .ref 77], (SH, I, J)) rfl ?_
              obtain ⟨hc10, h⟩ := zbifo h
              refine zr_one (bif zin v1 12 then zN 180 [some (.ref 73), some (.int v1), some (.int v2)] [.int (I 77 v1.toNatClampNeg)] (SH, I, J) else none) rfl (zR_bif hc10 (zR_go ?_))
              refine zr_steps 1 (204, [some (.ref 73), some (.int v1), some (.int v2)], [.int (I 77 v1.toNatClampNeg)], (SH, I, J)) rfl ?_
              have he := Option.some.inj h
              subst he
              exact zr_one (some (.inr (.inr (some (.int (I 77 v1.toNatClampNeg)))))) rfl (zR_ret rfl rfl)
            · rw [if_neg hc14] at h
              refine zr_steps 2 (186, [some (.ref 73), some (.int v1), some (.int v2)], [.int 22, .int v2], (SH, I, J)) rfl ?_
              refine zr_one (if v2 = 22 then zN 189 [some (.ref 73), some (.int v1), some (.int v2)] [] (SH, I, J) else zN 198 [some (.ref 73), some (.int v1), some (.int v2)] [] (SH, I, J)) rfl (zR_if (fun hc13 => zR_go ?_) (fun hc13 => zR_go ?_))
              · rw [if_pos hc13] at h
                refine zr_steps 3 (194, [some (.ref 73), some (.int v1), some (.int v2)], [.int v1, .ref 78], (SH, I, J)) rfl ?_
                obtain ⟨hc11, h⟩ := zbifo h
                refine zr_one (bif zin v1 12 then zN 195 [some (.ref 73), some (.int v1), some (.int v2)] [.int (I 78 v1.toNatClampNeg)] (SH, I, J) else none) rfl (zR_bif hc11 (zR_go ?_))
                refine zr_steps 1 (204, [some (.ref 73), some (.int v1), some (.int v2)], [.int (I 78 v1.toNatClampNeg)], (SH, I, J)) rfl ?_
                have he := Option.some.inj h
                subst he
                exact zr_one (some (.inr (.inr (some (.int (I 78 v1.toNatClampNeg)))))) rfl (zR_ret rfl rfl)
              · rw [if_neg hc13] at h
                refine zr_steps 3 (203, [some (.ref 73), some (.int v1), some (.int v2)], [.int v1, .ref 79], (SH, I, J)) rfl ?_
                obtain ⟨hc12, h⟩ := zbifo h
                refine zr_one (bif zin v1 12 then zN 204 [some (.ref 73), some (.int v1), some (.int v2)] [.int (I 79 v1.toNatClampNeg)] (SH, I, J) else none) rfl (zR_bif hc12 (zR_go ?_))
                have he := Option.some.inj h
                subst he
                exact zr_one (some (.inr (.inr (some (.int (I 79 v1.toNatClampNeg)))))) rfl (zR_ret rfl rfl)
    · rw [if_neg hc24] at h
      refine zr_steps 2 (94, [some (.ref 73), some (.int v1), some (.int v2)], [.int v1, .ref 73], (SH, I, J)) rfl ?_
      obtain ⟨t19, hc18, h⟩ := zbind h
      refine zr_one (some (.inr (.inl (130, [.ref 73, .int v1], [], 97)))) rfl (zR_call (by omega) rfl (ok_f130_isSquare (by omega) v1 _ hc18) ?_)
      refine zr_one (if t19 = 0 then zN 100 [some (.ref 73), some (.int v1), some (.int v2)] [] (SH, I, J) else zN 104 [some (.ref 73), some (.int v1), some (.int v2)] [] (SH, I, J)) rfl (zR_if (fun hc23 => zR_go ?_) (fun hc23 => zR_go ?_))
      · rw [if_pos hc23] at h
        refine zr_steps 2 (125, [some (.ref 73), some (.int v1), some (.int v2)], [.int (-1)], (SH, I, J)) rfl ?_
        have he := Option.some.inj h
        subst he
        exact zr_one (some (.inr (.inr (some (.int (-1)))))) rfl (zR_ret rfl rfl)
      · rw [if_neg hc23] at h
        refine zr_steps 2 (107, [some (.ref 73), some (.int v1), some (.int v2)], [.int 10, .int v2], (SH, I, J)) rfl ?_
        refine zr_one (if v2 = 10 then zN 110 [some (.ref 73), some (.int v1), some (.int v2)] [] (SH, I, J) else zN 119 [some (.ref 73), some (.int v1), some (.int v2)] [] (SH, I, J)) rfl (zR_if (fun hc22 => zR_go ?_) (fun hc22 => zR_go ?_))
        · rw [if_pos hc22] at h
          refine zr_steps 3 (115, [some (.ref 73), some (.int v1), some (.int v2)], [.int v1, .ref 74], (SH, I, J)) rfl ?_
          obtain ⟨hc20, h⟩ := zbifo h
          refine zr_one (bif zin v1 4 then zN 116 [some (.ref 73), some (.int v1), some (.int v2)] [.int (I 74 v1.toNatClampNeg)] (SH, I, J) else none) rfl (zR_bif hc20 (zR_go ?_))
          refine zr_steps 1 (125, [some (.ref 73), some (.int v1), some (.int v2)], [.int (I 74 v1.toNatClampNeg)], (SH, I, J)) rfl ?_
          have he := Option.some.inj h
          subst he
          exact zr_one (some (.inr (.inr (some (.int (I 74 v1.toNatClampNeg)))))) rfl (zR_ret rfl rfl)
        · rw [if_neg hc22] at h
          refine zr_steps 3 (124, [some (.ref 73), some (.int v1), some (.int v2)], [.int v1, .ref 75], (SH, I, J)) rfl ?_
          obtain ⟨hc21, h⟩ := zbifo h
          refine zr_one (bif zin v1 4 then zN 125 [some (.ref 73), some (.int v1), some (.int v2)] [.int (I 75 v1.toNatClampNeg)] (SH, I, J) else none) rfl (zR_bif hc21 (zR_go ?_))
          have he := Option.some.inj h
          subst he
          exact zr_one (some (.inr (.inr (some (.int (I 75 v1.toNatClampNeg)))))) rfl (zR_ret rfl rfl)
  · rw [if_neg hc37] at h
    refine zr_steps 2 (11, [some (.ref 73), some (.int v1), some (.int v2)], [.int v1, .ref 73], (SH, I, J)) rfl ?_
    obtain ⟨t26, hc25, h⟩ := zbind h
    refine zr_one (some (.inr (.inl (131, [.ref 73, .int v1], [], 14)))) rfl (zR_call (by omega) rfl (ok_f131_isSort (by omega) v1 _ hc25) ?_)
    refine zr_one (if t26 = 0 then zN 17 [some (.ref 73), some (.int v1), some (.int v2)] [] (SH, I, J) else zN 19 [some (.ref 73), some (.int v1), some (.int v2)] [] (SH, I, J)) rfl (zR_if (fun hc36 => zR_go ?_) (fun hc36 => zR_go ?_))
    · rw [if_pos hc36] at h
      refine zr_steps 1 (18, [some (.ref 73), some (.int v1), some (.int v2)], [.int (-1)], (SH, I, J)) rfl ?_
      have he := Option.some.inj h
      subst he
      exact zr_one (some (.inr (.inr (some (.int (-1)))))) rfl (zR_ret rfl rfl)
    · rw [if_neg hc36] at h
      refine zr_steps 1 (20, [some (.ref 73), some (.int v1), some (.int v2)], [.int v2], (SH, I, J)) rfl ?_
      refine zr_one (if v2 = 0 then zN 23 [some (.ref 73), some (.int v1), some (.int v2)] [] (SH, I, J) else zN 32 [some (.ref 73), some (.int v1), some (.int v2)] [] (SH, I, J)) rfl (zR_if (fun hc35 => zR_go ?_) (fun hc35 => zR_go ?_))
      · rw [if_pos hc35] at h
        refine zr_steps 3 (28, [some (.ref 73), some (.int v1), some (.int v2)], [.int v1, .ref 80], (SH, I, J)) rfl ?_
        obtain ⟨hc27, h⟩ := zbifo h
        refine zr_one (bif zin v1 8 then zN 29 [some (.ref 73), some (.int v1), some (.int v2)] [.int (I 80 v1.toNatClampNeg)] (SH, I, J) else none) rfl (zR_bif hc27 (zR_go ?_))
        refine zr_steps 1 (80, [some (.ref 73), some (.int v1), some (.int v2)], [.int (I 80 v1.toNatClampNeg)], (SH, I, J)) rfl ?_
        have he := Option.some.inj h
        subst he
        exact zr_one (some (.inr (.inr (some (.int (I 80 v1.toNatClampNeg)))))) rfl (zR_ret rfl rfl)
      · rw [if_neg hc35] at h
        refine zr_steps 2 (34, [some (.ref 73), some (.int v1), some (.int v2)], [.int 1, .int v2], (SH, I, J)) rfl ?_
        refine zr_one (if v2 = 1 then zN 37 [some (.ref 73), some (.int v1), some (.int v2)] [] (SH, I, J) else zN 46 [some (.ref 73), some (.int v1), some (.int v2)] [] (SH, I, J)) rfl (zR_if (fun hc34 => zR_go ?_) (fun hc34 => zR_go ?_))
        · rw [if_pos hc34] at h
          refine zr_steps 3 (42, [some (.ref 73), some (.int v1), some (.int v2)], [.int v1, .ref 81], (SH, I, J)) rfl ?_
          obtain ⟨hc28, h⟩ := zbifo h
          refine zr_one (bif zin v1 8 then zN 43 [some (.ref 73), some (.int v1), some (.int v2)] [.int (I 81 v1.toNatClampNeg)] (SH, I, J) else none) rfl (zR_bif hc28 (zR_go ?_))
          refine zr_steps 1 (80, [some (.ref 73), some (.int v1), some (.int v2)], [.int (I 81 v1.toNatClampNeg)], (SH, I, J)) rfl ?_
          have he := Option.some.inj h
          subst he
          exact zr_one (some (.inr (.inr (some (.int (I 81 v1.toNatClampNeg)))))) rfl (zR_ret rfl rfl)
        · rw [if_neg hc34] at h
          refine zr_steps 2 (48, [some (.ref 73), some (.int v1), some (.int v2)], [.int 2, .int v2], (SH, I, J)) rfl ?_
          refine zr_one (if v2 = 2 then zN 51 [some (.ref 73), some (.int v1), some (.int v2)] [] (SH, I, J) else zN 60 [some (.ref 73), some (.int v1), some (.int v2)] [] (SH, I, J)) rfl (zR_if (fun hc33 => zR_go ?_) (fun hc33 => zR_go ?_))
          · rw [if_pos hc33] at h
            refine zr_steps 3 (56, [some (.ref 73), some (.int v1), some (.int v2)], [.int v1, .ref 82], (SH, I, J)) rfl ?_
            obtain ⟨hc29, h⟩ := zbifo h
            refine zr_one (bif zin v1 8 then zN 57 [some (.ref 73), some (.int v1), some (.int v2)] [.int (I 82 v1.toNatClampNeg)] (SH, I, J) else none) rfl (zR_bif hc29 (zR_go ?_))
            refine zr_steps 1 (80, [some (.ref 73), some (.int v1), some (.int v2)], [.int (I 82 v1.toNatClampNeg)], (SH, I, J)) rfl ?_
            have he := Option.some.inj h
            subst he
            exact zr_one (some (.inr (.inr (some (.int (I 82 v1.toNatClampNeg)))))) rfl (zR_ret rfl rfl)
          · rw [if_neg hc33] at h
            refine zr_steps 2 (62, [some (.ref 73), some (.int v1), some (.int v2)], [.int 3, .int v2], (SH, I, J)) rfl ?_
            refine zr_one (if v2 = 3 then zN 65 [some (.ref 73), some (.int v1), some (.int v2)] [] (SH, I, J) else zN 74 [some (.ref 73), some (.int v1), some (.int v2)] [] (SH, I, J)) rfl (zR_if (fun hc32 => zR_go ?_) (fun hc32 => zR_go ?_))
            · rw [if_pos hc32] at h
              refine zr_steps 3 (70, [some (.ref 73), some (.int v1), some (.int v2)], [.int v1, .ref 83], (SH, I, J)) rfl ?_
              obtain ⟨hc30, h⟩ := zbifo h
              refine zr_one (bif zin v1 8 then zN 71 [some (.ref 73), some (.int v1), some (.int v2)] [.int (I 83 v1.toNatClampNeg)] (SH, I, J) else none) rfl (zR_bif hc30 (zR_go ?_))
              refine zr_steps 1 (80, [some (.ref 73), some (.int v1), some (.int v2)], [.int (I 83 v1.toNatClampNeg)], (SH, I, J)) rfl ?_
              have he := Option.some.inj h
              subst he
              exact zr_one (some (.inr (.inr (some (.int (I 83 v1.toNatClampNeg)))))) rfl (zR_ret rfl rfl)
            · rw [if_neg hc32] at h
              refine zr_steps 3 (79, [some (.ref 73), some (.int v1), some (.int v2)], [.int v1, .ref 84], (SH, I, J)) rfl ?_
              obtain ⟨hc31, h⟩ := zbifo h
              refine zr_one (bif zin v1 8 then zN 80 [some (.ref 73), some (.int v1), some (.int v2)] [.int (I 84 v1.toNatClampNeg)] (SH, I, J) else none) rfl (zR_bif hc31 (zR_go ?_))
              have he := Option.some.inj h
              subst he
              exact zr_one (some (.inr (.inr (some (.int (I 84 v1.toNatClampNeg)))))) rfl (zR_ret rfl rfl)
def f81_asIn_25 (I : (Nat → Nat → Int32)) : Option (Nat → Nat → Int32) :=
  bif zcpok 0 0 8 8 8 then
  bif zcpok 0 0 8 8 8 then
  some (zcp (zcp (zu (zu (zu (zu I 25 0 (I 1 3)) 25 1 (I 1 4)) 25 3 0) 25 4 (-1)) 10 26 0 0 8) 12 27 0 0 8)
  else none
  else none
theorem ok_f81_asIn_25 {X : zX} {d : Nat} (hd : 0 ≤ d) {I : (Nat → Nat → Int32)} {J : (Nat → Nat → Int64)} (t : (Nat → Nat → Int32)) (h : f81_asIn_25 I = some t) : zRun X d 81 0 (zent 81 [.ref 25, .ref 1]) [] (SH, I, J) none (SH, t, J) := by
  unfold f81_asIn_25 at h
  refine zr_steps 21 (38, [some (.ref 25), some (.ref 1)], [.int 8, .int 0, .ref 26, .int 0, .ref 10], (SH, (zu (zu (zu (zu I 25 0 (I 1 3)) 25 1 (I 1 4)) 25 3 0) 25 4 (-1)), J)) rfl ?_
  obtain ⟨hc1, h⟩ := zbifo h
  refine zr_one (zcopy 38 [some (.ref 25), some (.ref 1)] [.int 8, .int 0, .ref 26, .int 0, .ref 10] (SH, (zu (zu (zu (zu I 25 0 (I 1 3)) 25 1 (I 1 4)) 25 3 0) 25 4 (-1)), J)) rfl (zR_copy (na := 8) (nb := 8) rfl rfl rfl rfl hc1 rfl ?_)
  refine zr_steps 7 (53, [some (.ref 25), some (.ref 1)], [.int 8, .int 0, .ref 27, .int 0, .ref 12], (SH, (zcp (zu (zu (zu (zu I 25 0 (I 1 3)) 25 1 (I 1 4)) 25 3 0) 25 4 (-1)) 10 26 0 0 8), J)) rfl ?_
  obtain ⟨hc2, h⟩ := zbifo h
  refine zr_one (zcopy 53 [some (.ref 25), some (.ref 1)] [.int 8, .int 0, .ref 27, .int 0, .ref 12] (SH, (zcp (zu (zu (zu (zu I 25 0 (I 1 3)) 25 1 (I 1 4)) 25 3 0) 25 4 (-1)) 10 26 0 0 8), J)) rfl (zR_copy (na := 8) (nb := 8) rfl rfl rfl rfl hc2 rfl ?_)
  have he := Option.some.inj h
  subst he
  exact zr_one (some (.inr (.inr none))) rfl (zR_ret rfl rfl)
def f41_begin_24_L24 (s : (Int32 × (Nat → Nat → Int32))) : Option ((Int32 × (Nat → Nat → Int32)) ⊕ (Int32 × (Nat → Nat → Int32))) :=
  if (32 : Int32) ≤ s.1 then
    some (.inl (s.1, s.2))
  else
    bif zin s.1 32 then
    bif zin s.1 32 then
    bif zin s.1 32 then
    some (.inr ((s.1 + 1), (zu (zu (zu s.2 28 s.1.toNatClampNeg 0) 29 s.1.toNatClampNeg 0) 30 s.1.toNatClampNeg 2147483647)))
    else none
    else none
    else none
def f41_begin_24_L60 (s : (Int32 × (Nat → Nat → Int32))) : Option ((Int32 × (Nat → Nat → Int32)) ⊕ (Int32 × (Nat → Nat → Int32))) :=
  if (((s.2 25 0) + 1) * 32) ≤ s.1 then
    some (.inl (s.1, s.2))
  else
    bif zin s.1 1952 then
    some (.inr ((s.1 + 1), (zu s.2 32 s.1.toNatClampNeg 0)))
    else none
def f41_begin_24_L91 (s : (Int32 × (Nat → Nat → Int32))) : Option ((Int32 × (Nat → Nat → Int32)) ⊕ (Int32 × (Nat → Nat → Int32))) :=
  if (4 : Int32) ≤ s.1 then
    some (.inl (s.1, s.2))
  else
    bif zin s.1 4 then
    some (.inr ((s.1 + 1), (zu s.2 31 s.1.toNatClampNeg 0)))
    else none
def f41_begin_24_L111 (s : (Int32 × (Nat → Nat → Int32))) : Option ((Int32 × (Nat → Nat → Int32)) ⊕ (Int32 × (Nat → Nat → Int32))) :=
  if (s.2 1 2) ≤ s.1 then
    some (.inl (s.1, s.2))
  else
    bif zin s.1 8 then
    bif zin s.1 8 then
    bif zin (((s.2 26 s.1.toNatClampNeg) * 8) + s.1) 32 then
    bif zin s.1 8 then
    bif zin (s.2 26 s.1.toNatClampNeg) 4 then
    bif zin s.1 8 then
    bif zin (s.2 26 s.1.toNatClampNeg) 4 then
    some (.inr ((s.1 + 1), (zu (zu s.2 28 (((s.2 26 s.1.toNatClampNeg) * 8) + s.1).toNatClampNeg (s.2 8 s.1.toNatClampNeg)) 31 (s.2 26 s.1.toNatClampNeg).toNatClampNeg ((s.2 31 (s.2 26 s.1.toNatClampNeg).toNatClampNeg) + (s.2 8 s.1.toNatClampNeg)))))
    else none
    else none
    else none
    else none
    else none
    else none
    else none
def f41_begin_24 (I : (Nat → Nat → Int32)) : Option (Nat → Nat → Int32) :=
  Option.bind (zloop f41_begin_24_L24 5000 ((0 : Int32), (zu (zu I 24 13 (I 1 0)) 24 14 (I 1 2)))) fun s5 =>
  Option.bind (zloop f41_begin_24_L60 5000 ((0 : Int32), s5.2)) fun s9 =>
  Option.bind (zloop f41_begin_24_L91 5000 ((0 : Int32), s9.2)) fun s13 =>
  Option.bind (zloop f41_begin_24_L111 5000 ((0 : Int32), s13.2)) fun s23 =>
  bif zin (s23.2 25 2) 4 then
  bif zin (s23.2 25 2) 4 then
  some (zu s23.2 31 (s23.2 25 2).toNatClampNeg ((s23.2 31 (s23.2 25 2).toNatClampNeg) + (s23.2 25 3)))
  else none
  else none
theorem ok_f41_begin_24_L24 {X : zX} {d : Nat} {r : Option Value} {M' : zM} (hd : 0 ≤ d) {J : (Nat → Nat → Int64)} : ∀ (n : Nat) (s x : (Int32 × (Nat → Nat → Int32))), zloop f41_begin_24_L24 n s = some x → (fun (x : (Int32 × (Nat → Nat → Int32))) => zRun X d 41 58 [some (.ref 24), none] [] (SH, x.2, J) r M') x → (fun (s : (Int32 × (Nat → Nat → Int32))) => zRun X d 41 24 [some (.ref 24), some (.int s.1)] [] (SH, s.2, J) r M') s := zloop_ok (Wh := fun (s : (Int32 × (Nat → Nat → Int32))) => zRun X d 41 24 [some (.ref 24), some (.int s.1)] [] (SH, s.2, J) r M') (Wx := fun (x : (Int32 × (Nat → Nat → Int32))) => zRun X d 41 58 [some (.ref 24), none] [] (SH, x.2, J) r M') (fun s y h w => by
  unfold f41_begin_24_L24 at h
  refine zr_steps 2 (27, [some (.ref 24), some (.int s.1)], [.int 32, .int s.1], (SH, s.2, J)) rfl ?_
  refine zr_one (if (32 : Int32) ≤ s.1 then zN 58 [some (.ref 24), some (.int s.1)] [] (SH, s.2, J) else zN 30 [some (.ref 24), some (.int s.1)] [] (SH, s.2, J)) rfl (zR_if (fun hc4 => zR_go ?_) (fun hc4 => zR_go ?_))
  · rw [if_pos hc4] at h
    have he := Option.some.inj h
    subst he
    exact zr_hdr rfl rfl (show zRun X d 41 58 [some (.ref 24), none] [] (SH, s.2, J) r M' from w)
  · rw [if_neg hc4] at h
    refine zr_steps 4 (36, [some (.ref 24), some (.int s.1)], [.int 0, .int s.1, .ref 28], (SH, s.2, J)) rfl ?_
    obtain ⟨hc1, h⟩ := zbifo h
    refine zr_one (bif zin s.1 32 then zN 37 [some (.ref 24), some (.int s.1)] [] (SH, (zu s.2 28 s.1.toNatClampNeg 0), J) else none) rfl (zR_bif hc1 (zR_go ?_))
    refine zr_steps 4 (43, [some (.ref 24), some (.int s.1)], [.int 0, .int s.1, .ref 29], (SH, (zu s.2 28 s.1.toNatClampNeg 0), J)) rfl ?_
    obtain ⟨hc2, h⟩ := zbifo h
    refine zr_one (bif zin s.1 32 then zN 44 [some (.ref 24), some (.int s.1)] [] (SH, (zu (zu s.2 28 s.1.toNatClampNeg 0) 29 s.1.toNatClampNeg 0), J) else none) rfl (zR_bif hc2 (zR_go ?_))
    refine zr_steps 4 (51, [some (.ref 24), some (.int s.1)], [.int 2147483647, .int s.1, .ref 30], (SH, (zu (zu s.2 28 s.1.toNatClampNeg 0) 29 s.1.toNatClampNeg 0), J)) rfl ?_
    obtain ⟨hc3, h⟩ := zbifo h
    refine zr_one (bif zin s.1 32 then zN 52 [some (.ref 24), some (.int s.1)] [] (SH, (zu (zu (zu s.2 28 s.1.toNatClampNeg 0) 29 s.1.toNatClampNeg 0) 30 s.1.toNatClampNeg 2147483647), J) else none) rfl (zR_bif hc3 (zR_go ?_))
    refine zr_steps 2 (24, [some (.ref 24), some (.int (s.1 + 1))], [], (SH, (zu (zu (zu s.2 28 s.1.toNatClampNeg 0) 29 s.1.toNatClampNeg 0) 30 s.1.toNatClampNeg 2147483647), J)) rfl ?_
    have he := Option.some.inj h
    subst he
    exact zr_hdr rfl rfl (show zRun X d 41 24 [some (.ref 24), some (.int (s.1 + 1))] [] (SH, (zu (zu (zu s.2 28 s.1.toNatClampNeg 0) 29 s.1.toNatClampNeg 0) 30 s.1.toNatClampNeg 2147483647), J) r M' from w))
theorem ok_f41_begin_24_L60 {X : zX} {d : Nat} {r : Option Value} {M' : zM} (hd : 0 ≤ d) {J : (Nat → Nat → Int64)} : ∀ (n : Nat) (s x : (Int32 × (Nat → Nat → Int32))), zloop f41_begin_24_L60 n s = some x → (fun (x : (Int32 × (Nat → Nat → Int32))) => zRun X d 41 89 [some (.ref 24), none] [] (SH, x.2, J) r M') x → (fun (s : (Int32 × (Nat → Nat → Int32))) => zRun X d 41 60 [some (.ref 24), some (.int s.1)] [] (SH, s.2, J) r M') s := zloop_ok (Wh := fun (s : (Int32 × (Nat → Nat → Int32))) => zRun X d 41 60 [some (.ref 24), some (.int s.1)] [] (SH, s.2, J) r M') (Wx := fun (x : (Int32 × (Nat → Nat → Int32))) => zRun X d 41 89 [some (.ref 24), none] [] (SH, x.2, J) r M') (fun s y h w => by
  unfold f41_begin_24_L60 at h
  refine zr_steps 8 (73, [some (.ref 24), some (.int s.1)], [.int (((s.2 25 0) + 1) * 32), .int s.1], (SH, s.2, J)) rfl ?_
  refine zr_one (if (((s.2 25 0) + 1) * 32) ≤ s.1 then zN 89 [some (.ref 24), some (.int s.1)] [] (SH, s.2, J) else zN 76 [some (.ref 24), some (.int s.1)] [] (SH, s.2, J)) rfl (zR_if (fun hc8 => zR_go ?_) (fun hc8 => zR_go ?_))
  · rw [if_pos hc8] at h
    have he := Option.some.inj h
    subst he
    exact zr_hdr rfl rfl (show zRun X d 41 89 [some (.ref 24), none] [] (SH, s.2, J) r M' from w)
  · rw [if_neg hc8] at h
    refine zr_steps 4 (82, [some (.ref 24), some (.int s.1)], [.int 0, .int s.1, .ref 32], (SH, s.2, J)) rfl ?_
    obtain ⟨hc7, h⟩ := zbifo h
    refine zr_one (bif zin s.1 1952 then zN 83 [some (.ref 24), some (.int s.1)] [] (SH, (zu s.2 32 s.1.toNatClampNeg 0), J) else none) rfl (zR_bif hc7 (zR_go ?_))
    refine zr_steps 2 (60, [some (.ref 24), some (.int (s.1 + 1))], [], (SH, (zu s.2 32 s.1.toNatClampNeg 0), J)) rfl ?_
    have he := Option.some.inj h
    subst he
    exact zr_hdr rfl rfl (show zRun X d 41 60 [some (.ref 24), some (.int (s.1 + 1))] [] (SH, (zu s.2 32 s.1.toNatClampNeg 0), J) r M' from w))
theorem ok_f41_begin_24_L91 {X : zX} {d : Nat} {r : Option Value} {M' : zM} (hd : 0 ≤ d) {J : (Nat → Nat → Int64)} : ∀ (n : Nat) (s x : (Int32 × (Nat → Nat → Int32))), zloop f41_begin_24_L91 n s = some x → (fun (x : (Int32 × (Nat → Nat → Int32))) => zRun X d 41 109 [some (.ref 24), none] [] (SH, x.2, J) r M') x → (fun (s : (Int32 × (Nat → Nat → Int32))) => zRun X d 41 91 [some (.ref 24), some (.int s.1)] [] (SH, s.2, J) r M') s := zloop_ok (Wh := fun (s : (Int32 × (Nat → Nat → Int32))) => zRun X d 41 91 [some (.ref 24), some (.int s.1)] [] (SH, s.2, J) r M') (Wx := fun (x : (Int32 × (Nat → Nat → Int32))) => zRun X d 41 109 [some (.ref 24), none] [] (SH, x.2, J) r M') (fun s y h w => by
  unfold f41_begin_24_L91 at h
  refine zr_steps 2 (93, [some (.ref 24), some (.int s.1)], [.int 4, .int s.1], (SH, s.2, J)) rfl ?_
  refine zr_one (if (4 : Int32) ≤ s.1 then zN 109 [some (.ref 24), some (.int s.1)] [] (SH, s.2, J) else zN 96 [some (.ref 24), some (.int s.1)] [] (SH, s.2, J)) rfl (zR_if (fun hc12 => zR_go ?_) (fun hc12 => zR_go ?_))
  · rw [if_pos hc12] at h
    have he := Option.some.inj h
    subst he
    exact zr_hdr rfl rfl (show zRun X d 41 109 [some (.ref 24), none] [] (SH, s.2, J) r M' from w)
  · rw [if_neg hc12] at h
    refine zr_steps 4 (102, [some (.ref 24), some (.int s.1)], [.int 0, .int s.1, .ref 31], (SH, s.2, J)) rfl ?_
    obtain ⟨hc11, h⟩ := zbifo h
    refine zr_one (bif zin s.1 4 then zN 103 [some (.ref 24), some (.int s.1)] [] (SH, (zu s.2 31 s.1.toNatClampNeg 0), J) else none) rfl (zR_bif hc11 (zR_go ?_))
    refine zr_steps 2 (91, [some (.ref 24), some (.int (s.1 + 1))], [], (SH, (zu s.2 31 s.1.toNatClampNeg 0), J)) rfl ?_
    have he := Option.some.inj h
    subst he
    exact zr_hdr rfl rfl (show zRun X d 41 91 [some (.ref 24), some (.int (s.1 + 1))] [] (SH, (zu s.2 31 s.1.toNatClampNeg 0), J) r M' from w))
theorem ok_f41_begin_24_L111 {X : zX} {d : Nat} {r : Option Value} {M' : zM} (hd : 0 ≤ d) {J : (Nat → Nat → Int64)} : ∀ (n : Nat) (s x : (Int32 × (Nat → Nat → Int32))), zloop f41_begin_24_L111 n s = some x → (fun (x : (Int32 × (Nat → Nat → Int32))) => zRun X d 41 182 [some (.ref 24), none] [] (SH, x.2, J) r M') x → (fun (s : (Int32 × (Nat → Nat → Int32))) => zRun X d 41 111 [some (.ref 24), some (.int s.1)] [] (SH, s.2, J) r M') s := zloop_ok (Wh := fun (s : (Int32 × (Nat → Nat → Int32))) => zRun X d 41 111 [some (.ref 24), some (.int s.1)] [] (SH, s.2, J) r M') (Wx := fun (x : (Int32 × (Nat → Nat → Int32))) => zRun X d 41 182 [some (.ref 24), none] [] (SH, x.2, J) r M') (fun s y h w => by
  unfold f41_begin_24_L111 at h
  refine zr_steps 4 (119, [some (.ref 24), some (.int s.1)], [.int (s.2 1 2), .int s.1], (SH, s.2, J)) rfl ?_
  refine zr_one (if (s.2 1 2) ≤ s.1 then zN 182 [some (.ref 24), some (.int s.1)] [] (SH, s.2, J) else zN 122 [some (.ref 24), some (.int s.1)] [] (SH, s.2, J)) rfl (zR_if (fun hc22 => zR_go ?_) (fun hc22 => zR_go ?_))
  · rw [if_pos hc22] at h
    have he := Option.some.inj h
    subst he
    exact zr_hdr rfl rfl (show zRun X d 41 182 [some (.ref 24), none] [] (SH, s.2, J) r M' from w)
  · rw [if_neg hc22] at h
    refine zr_steps 6 (134, [some (.ref 24), some (.int s.1)], [.int s.1, .ref 26, .ref 28], (SH, s.2, J)) rfl ?_
    obtain ⟨hc15, h⟩ := zbifo h
    refine zr_one (bif zin s.1 8 then zN 135 [some (.ref 24), some (.int s.1)] [.int (s.2 26 s.1.toNatClampNeg), .ref 28] (SH, s.2, J) else none) rfl (zR_bif hc15 (zR_go ?_))
    refine zr_steps 8 (148, [some (.ref 24), some (.int s.1)], [.int s.1, .ref 8, .int (((s.2 26 s.1.toNatClampNeg) * 8) + s.1), .ref 28], (SH, s.2, J)) rfl ?_
    obtain ⟨hc16, h⟩ := zbifo h
    refine zr_one (bif zin s.1 8 then zN 149 [some (.ref 24), some (.int s.1)] [.int (s.2 8 s.1.toNatClampNeg), .int (((s.2 26 s.1.toNatClampNeg) * 8) + s.1), .ref 28] (SH, s.2, J) else none) rfl (zR_bif hc16 (zR_go ?_))
    obtain ⟨hc17, h⟩ := zbifo h
    refine zr_one (bif zin (((s.2 26 s.1.toNatClampNeg) * 8) + s.1) 32 then zN 150 [some (.ref 24), some (.int s.1)] [] (SH, (zu s.2 28 (((s.2 26 s.1.toNatClampNeg) * 8) + s.1).toNatClampNeg (s.2 8 s.1.toNatClampNeg)), J) else none) rfl (zR_bif hc17 (zR_go ?_))
    refine zr_steps 6 (162, [some (.ref 24), some (.int s.1)], [.int s.1, .ref 26, .ref 31], (SH, (zu s.2 28 (((s.2 26 s.1.toNatClampNeg) * 8) + s.1).toNatClampNeg (s.2 8 s.1.toNatClampNeg)), J)) rfl ?_
    obtain ⟨hc18, h⟩ := zbifo h
    refine zr_one (bif zin s.1 8 then zN 163 [some (.ref 24), some (.int s.1)] [.int (s.2 26 s.1.toNatClampNeg), .ref 31] (SH, (zu s.2 28 (((s.2 26 s.1.toNatClampNeg) * 8) + s.1).toNatClampNeg (s.2 8 s.1.toNatClampNeg)), J) else none) rfl (zR_bif hc18 (zR_go ?_))
    refine zr_steps 1 (164, [some (.ref 24), some (.int s.1)], [.int (s.2 26 s.1.toNatClampNeg), .ref 31, .int (s.2 26 s.1.toNatClampNeg), .ref 31], (SH, (zu s.2 28 (((s.2 26 s.1.toNatClampNeg) * 8) + s.1).toNatClampNeg (s.2 8 s.1.toNatClampNeg)), J)) rfl ?_
    obtain ⟨hc19, h⟩ := zbifo h
    refine zr_one (bif zin (s.2 26 s.1.toNatClampNeg) 4 then zN 165 [some (.ref 24), some (.int s.1)] [.int (s.2 31 (s.2 26 s.1.toNatClampNeg).toNatClampNeg), .int (s.2 26 s.1.toNatClampNeg), .ref 31] (SH, (zu s.2 28 (((s.2 26 s.1.toNatClampNeg) * 8) + s.1).toNatClampNeg (s.2 8 s.1.toNatClampNeg)), J) else none) rfl (zR_bif hc19 (zR_go ?_))
    refine zr_steps 4 (173, [some (.ref 24), some (.int s.1)], [.int s.1, .ref 8, .int (s.2 31 (s.2 26 s.1.toNatClampNeg).toNatClampNeg), .int (s.2 26 s.1.toNatClampNeg), .ref 31], (SH, (zu s.2 28 (((s.2 26 s.1.toNatClampNeg) * 8) + s.1).toNatClampNeg (s.2 8 s.1.toNatClampNeg)), J)) rfl ?_
    obtain ⟨hc20, h⟩ := zbifo h
    refine zr_one (bif zin s.1 8 then zN 174 [some (.ref 24), some (.int s.1)] [.int (s.2 8 s.1.toNatClampNeg), .int (s.2 31 (s.2 26 s.1.toNatClampNeg).toNatClampNeg), .int (s.2 26 s.1.toNatClampNeg), .ref 31] (SH, (zu s.2 28 (((s.2 26 s.1.toNatClampNeg) * 8) + s.1).toNatClampNeg (s.2 8 s.1.toNatClampNeg)), J) else none) rfl (zR_bif hc20 (zR_go ?_))
    refine zr_steps 1 (175, [some (.ref 24), some (.int s.1)], [.int ((s.2 31 (s.2 26 s.1.toNatClampNeg).toNatClampNeg) + (s.2 8 s.1.toNatClampNeg)), .int (s.2 26 s.1.toNatClampNeg), .ref 31], (SH, (zu s.2 28 (((s.2 26 s.1.toNatClampNeg) * 8) + s.1).toNatClampNeg (s.2 8 s.1.toNatClampNeg)), J)) rfl ?_
    obtain ⟨hc21, h⟩ := zbifo h
    refine zr_one (bif zin (s.2 26 s.1.toNatClampNeg) 4 then zN 176 [some (.ref 24), some (.int s.1)] [] (SH, (zu (zu s.2 28 (((s.2 26 s.1.toNatClampNeg) * 8) + s.1).toNatClampNeg (s.2 8 s.1.toNatClampNeg)) 31 (s.2 26 s.1.toNatClampNeg).toNatClampNeg ((s.2 31 (s.2 26 s.1.toNatClampNeg).toNatClampNeg) + (s.2 8 s.1.toNatClampNeg))), J) else none) rfl (zR_bif hc21 (zR_go ?_))
    refine zr_steps 2 (111, [some (.ref 24), some (.int (s.1 + 1))], [], (SH, (zu (zu s.2 28 (((s.2 26 s.1.toNatClampNeg) * 8) + s.1).toNatClampNeg (s.2 8 s.1.toNatClampNeg)) 31 (s.2 26 s.1.toNatClampNeg).toNatClampNeg ((s.2 31 (s.2 26 s.1.toNatClampNeg).toNatClampNeg) + (s.2 8 s.1.toNatClampNeg))), J)) rfl ?_
    have he := Option.some.inj h
    subst he
    exact zr_hdr rfl rfl (show zRun X d 41 111 [some (.ref 24), some (.int (s.1 + 1))] [] (SH, (zu (zu s.2 28 (((s.2 26 s.1.toNatClampNeg) * 8) + s.1).toNatClampNeg (s.2 8 s.1.toNatClampNeg)) 31 (s.2 26 s.1.toNatClampNeg).toNatClampNeg ((s.2 31 (s.2 26 s.1.toNatClampNeg).toNatClampNeg) + (s.2 8 s.1.toNatClampNeg))), J) r M' from w))
theorem ok_f41_begin_24 {X : zX} {d : Nat} (hd : 0 ≤ d) {I : (Nat → Nat → Int32)} {J : (Nat → Nat → Int64)} (t : (Nat → Nat → Int32)) (h : f41_begin_24 I = some t) : zRun X d 41 0 (zent 41 [.ref 24]) [] (SH, I, J) none (SH, t, J) := by
  unfold f41_begin_24 at h
  refine zr_steps 12 (24, [some (.ref 24), some (.int 0)], [], (SH, (zu (zu I 24 13 (I 1 0)) 24 14 (I 1 2)), J)) rfl ?_
  obtain ⟨s5, ho6, h⟩ := zbind h
  refine zr_hdr (ls2 := [some (.ref 24), some (.int 0)]) rfl rfl ?_
  refine ok_f41_begin_24_L24 (by omega) 5000 ((0 : Int32), (zu (zu I 24 13 (I 1 0)) 24 14 (I 1 2))) s5 ho6 ?_
  show zRun X d 41 58 [some (.ref 24), none] [] (SH, s5.2, J) _ _
  refine zr_steps 2 (60, [some (.ref 24), some (.int 0)], [], (SH, s5.2, J)) rfl ?_
  obtain ⟨s9, ho10, h⟩ := zbind h
  refine zr_hdr (ls2 := [some (.ref 24), some (.int 0)]) rfl rfl ?_
  refine ok_f41_begin_24_L60 (by omega) 5000 ((0 : Int32), s5.2) s9 ho10 ?_
  show zRun X d 41 89 [some (.ref 24), none] [] (SH, s9.2, J) _ _
  refine zr_steps 2 (91, [some (.ref 24), some (.int 0)], [], (SH, s9.2, J)) rfl ?_
  obtain ⟨s13, ho14, h⟩ := zbind h
  refine zr_hdr (ls2 := [some (.ref 24), some (.int 0)]) rfl rfl ?_
  refine ok_f41_begin_24_L91 (by omega) 5000 ((0 : Int32), s9.2) s13 ho14 ?_
  show zRun X d 41 109 [some (.ref 24), none] [] (SH, s13.2, J) _ _
  refine zr_steps 2 (111, [some (.ref 24), some (.int 0)], [], (SH, s13.2, J)) rfl ?_
  obtain ⟨s23, ho24, h⟩ := zbind h
  refine zr_hdr (ls2 := [some (.ref 24), some (.int 0)]) rfl rfl ?_
  refine ok_f41_begin_24_L111 (by omega) 5000 ((0 : Int32), s13.2) s23 ho24 ?_
  show zRun X d 41 182 [some (.ref 24), none] [] (SH, s23.2, J) _ _
  refine zr_steps 6 (194, [some (.ref 24), none], [.int (s23.2 25 2), .ref 31, .int (s23.2 25 2), .ref 31], (SH, s23.2, J)) rfl ?_
  obtain ⟨hc25, h⟩ := zbifo h
  refine zr_one (bif zin (s23.2 25 2) 4 then zN 195 [some (.ref 24), none] [.int (s23.2 31 (s23.2 25 2).toNatClampNeg), .int (s23.2 25 2), .ref 31] (SH, s23.2, J) else none) rfl (zR_bif hc25 (zR_go ?_))
  refine zr_steps 4 (203, [some (.ref 24), none], [.int ((s23.2 31 (s23.2 25 2).toNatClampNeg) + (s23.2 25 3)), .int (s23.2 25 2), .ref 31], (SH, s23.2, J)) rfl ?_
  obtain ⟨hc26, h⟩ := zbifo h
  refine zr_one (bif zin (s23.2 25 2) 4 then zN 204 [some (.ref 24), none] [] (SH, (zu s23.2 31 (s23.2 25 2).toNatClampNeg ((s23.2 31 (s23.2 25 2).toNatClampNeg) + (s23.2 25 3))), J) else none) rfl (zR_bif hc26 (zR_go ?_))
  have he := Option.some.inj h
  subst he
  exact zr_one (some (.inr (.inr none))) rfl (zR_ret rfl rfl)
def f43_seenIn_24 (v1 : Int32) (I : (Nat → Nat → Int32)) : Option Int32 :=
  bif zin (((I 24 12) * 4) + v1) 240 then
  some (I 34 (((I 24 12) * 4) + v1).toNatClampNeg)
  else none
theorem ok_f43_seenIn_24 {X : zX} {d : Nat} (hd : 0 ≤ d) (v1 : Int32) {I : (Nat → Nat → Int32)} {J : (Nat → Nat → Int64)} (t : Int32) (h : f43_seenIn_24 v1 I = some t) : zRun X d 43 0 (zent 43 [.ref 24, .int v1]) [] (SH, I, J) (some (.int t)) (SH, I, J) := by
  unfold f43_seenIn_24 at h
  refine zr_steps 8 (12, [some (.ref 24), some (.int v1)], [.int (((I 24 12) * 4) + v1), .ref 34], (SH, I, J)) rfl ?_
  obtain ⟨hc1, h⟩ := zbifo h
  refine zr_one (bif zin (((I 24 12) * 4) + v1) 240 then zN 13 [some (.ref 24), some (.int v1)] [.int (I 34 (((I 24 12) * 4) + v1).toNatClampNeg)] (SH, I, J) else none) rfl (zR_bif hc1 (zR_go ?_))
  have he := Option.some.inj h
  subst he
  exact zr_one (some (.inr (.inr (some (.int (I 34 (((I 24 12) * 4) + v1).toNatClampNeg)))))) rfl (zR_ret rfl rfl)
def f42_see_24_L2 (v1 : Int32) (s : (Int32 × (Nat → Nat → Int32))) : Option ((Int32 × (Nat → Nat → Int32)) ⊕ (Int32 × (Nat → Nat → Int32))) :=
  if (4 : Int32) ≤ s.1 then
    some (.inl (s.1, s.2))
  else
    bif zin s.1 4 then
    bif zin ((v1 * 4) + s.1) 240 then
    some (.inr ((s.1 + 1), (zu s.2 34 ((v1 * 4) + s.1).toNatClampNeg (s.2 31 s.1.toNatClampNeg))))
    else none
    else none
def f42_see_24_L50 (v1 : Int32) (I : (Nat → Nat → Int32)) (s : (Int32 × Int32)) : Option ((Int32 × Int32) ⊕ (Int32 × Int32)) :=
  if (I 1 0) ≤ s.2 then
    some (.inl (s.1, s.2))
  else
    Option.bind (f43_seenIn_24 s.2 I) fun t7 =>
    Option.bind (f43_seenIn_24 s.1 I) fun t9 =>
    if t7 ≤ t9 then
      some (.inr (s.1, (s.2 + 1)))
    else
      some (.inr (s.2, (s.2 + 1)))
def f42_see_24 (v1 : Int32) (I : (Nat → Nat → Int32)) : Option (Nat → Nat → Int32) :=
  Option.bind (zloop (f42_see_24_L2 v1) 5000 ((0 : Int32), I)) fun s4 =>
  Option.bind (zloop (f42_see_24_L50 v1 (zu s4.2 24 12 (zmax 0 (v1 - (s4.2 25 1))))) 5000 ((0 : Int32), (1 : Int32))) fun s12 =>
  Option.bind (f43_seenIn_24 s12.1 (zu (zu (zu s4.2 24 12 (zmax 0 (v1 - (s4.2 25 1)))) 36 0 ((s4.2 25 0) - v1)) 36 5 s12.1)) fun t15 =>
  some (zu (zu (zu (zu s4.2 24 12 (zmax 0 (v1 - (s4.2 25 1)))) 36 0 ((s4.2 25 0) - v1)) 36 5 s12.1) 36 6 t15)
theorem ok_f42_see_24_L2 {X : zX} {d : Nat} {r : Option Value} {M' : zM} (hd : 1 ≤ d) (v1 : Int32) {J : (Nat → Nat → Int64)} : ∀ (n : Nat) (s x : (Int32 × (Nat → Nat → Int32))), zloop (f42_see_24_L2 v1) n s = some x → (fun (x : (Int32 × (Nat → Nat → Int32))) => zRun X d 42 29 [some (.ref 24), some (.int v1), none, none] [] (SH, x.2, J) r M') x → (fun (s : (Int32 × (Nat → Nat → Int32))) => zRun X d 42 2 [some (.ref 24), some (.int v1), some (.int s.1), none] [] (SH, s.2, J) r M') s := zloop_ok (Wh := fun (s : (Int32 × (Nat → Nat → Int32))) => zRun X d 42 2 [some (.ref 24), some (.int v1), some (.int s.1), none] [] (SH, s.2, J) r M') (Wx := fun (x : (Int32 × (Nat → Nat → Int32))) => zRun X d 42 29 [some (.ref 24), some (.int v1), none, none] [] (SH, x.2, J) r M') (fun s y h w => by
  unfold f42_see_24_L2 at h
  refine zr_steps 2 (4, [some (.ref 24), some (.int v1), some (.int s.1), none], [.int 4, .int s.1], (SH, s.2, J)) rfl ?_
  refine zr_one (if (4 : Int32) ≤ s.1 then zN 29 [some (.ref 24), some (.int v1), some (.int s.1), none] [] (SH, s.2, J) else zN 7 [some (.ref 24), some (.int v1), some (.int s.1), none] [] (SH, s.2, J)) rfl (zR_if (fun hc3 => zR_go ?_) (fun hc3 => zR_go ?_))
  · rw [if_pos hc3] at h
    have he := Option.some.inj h
    subst he
    exact zr_hdr rfl rfl (show zRun X d 42 29 [some (.ref 24), some (.int v1), none, none] [] (SH, s.2, J) r M' from w)
  · rw [if_neg hc3] at h
    refine zr_steps 10 (21, [some (.ref 24), some (.int v1), some (.int s.1), none], [.int s.1, .ref 31, .int ((v1 * 4) + s.1), .ref 34], (SH, s.2, J)) rfl ?_
    obtain ⟨hc1, h⟩ := zbifo h
    refine zr_one (bif zin s.1 4 then zN 22 [some (.ref 24), some (.int v1), some (.int s.1), none] [.int (s.2 31 s.1.toNatClampNeg), .int ((v1 * 4) + s.1), .ref 34] (SH, s.2, J) else none) rfl (zR_bif hc1 (zR_go ?_))
    obtain ⟨hc2, h⟩ := zbifo h
    refine zr_one (bif zin ((v1 * 4) + s.1) 240 then zN 23 [some (.ref 24), some (.int v1), some (.int s.1), none] [] (SH, (zu s.2 34 ((v1 * 4) + s.1).toNatClampNeg (s.2 31 s.1.toNatClampNeg)), J) else none) rfl (zR_bif hc2 (zR_go ?_))
    refine zr_steps 2 (2, [some (.ref 24), some (.int v1), some (.int (s.1 + 1)), none], [], (SH, (zu s.2 34 ((v1 * 4) + s.1).toNatClampNeg (s.2 31 s.1.toNatClampNeg)), J)) rfl ?_
    have he := Option.some.inj h
    subst he
    exact zr_hdr rfl rfl (show zRun X d 42 2 [some (.ref 24), some (.int v1), some (.int (s.1 + 1)), none] [] (SH, (zu s.2 34 ((v1 * 4) + s.1).toNatClampNeg (s.2 31 s.1.toNatClampNeg)), J) r M' from w))
theorem ok_f42_see_24_L50 {X : zX} {d : Nat} {r : Option Value} {M' : zM} (hd : 1 ≤ d) (v1 : Int32) {I : (Nat → Nat → Int32)} {J : (Nat → Nat → Int64)} : ∀ (n : Nat) (s x : (Int32 × Int32)), zloop (f42_see_24_L50 v1 I) n s = some x → (fun (x : (Int32 × Int32)) => zRun X d 42 86 [some (.ref 24), some (.int v1), some (.int x.1), none] [] (SH, I, J) r M') x → (fun (s : (Int32 × Int32)) => zRun X d 42 50 [some (.ref 24), some (.int v1), some (.int s.1), some (.int s.2)] [] (SH, I, J) r M') s := zloop_ok (Wh := fun (s : (Int32 × Int32)) => zRun X d 42 50 [some (.ref 24), some (.int v1), some (.int s.1), some (.int s.2)] [] (SH, I, J) r M') (Wx := fun (x : (Int32 × Int32)) => zRun X d 42 86 [some (.ref 24), some (.int v1), some (.int x.1), none] [] (SH, I, J) r M') (fun s y h w => by
  unfold f42_see_24_L50 at h
  refine zr_steps 4 (58, [some (.ref 24), some (.int v1), some (.int s.1), some (.int s.2)], [.int (I 1 0), .int s.2], (SH, I, J)) rfl ?_
  refine zr_one (if (I 1 0) ≤ s.2 then zN 86 [some (.ref 24), some (.int v1), some (.int s.1), some (.int s.2)] [] (SH, I, J) else zN 61 [some (.ref 24), some (.int v1), some (.int s.1), some (.int s.2)] [] (SH, I, J)) rfl (zR_if (fun hc11 => zR_go ?_) (fun hc11 => zR_go ?_))
  · rw [if_pos hc11] at h
    have he := Option.some.inj h
    subst he
    exact zr_hdr rfl rfl (show zRun X d 42 86 [some (.ref 24), some (.int v1), some (.int s.1), none] [] (SH, I, J) r M' from w)
  · rw [if_neg hc11] at h
    refine zr_steps 2 (63, [some (.ref 24), some (.int v1), some (.int s.1), some (.int s.2)], [.int s.2, .ref 24], (SH, I, J)) rfl ?_
    obtain ⟨t7, hc6, h⟩ := zbind h
    refine zr_one (some (.inr (.inl (43, [.ref 24, .int s.2], [], 66)))) rfl (zR_call (by omega) rfl (ok_f43_seenIn_24 (by omega) s.2 _ hc6) ?_)
    refine zr_steps 2 (68, [some (.ref 24), some (.int v1), some (.int s.1), some (.int s.2)], [.int s.1, .ref 24, .int t7], (SH, I, J)) rfl ?_
    obtain ⟨t9, hc8, h⟩ := zbind h
    refine zr_one (some (.inr (.inl (43, [.ref 24, .int s.1], [.int t7], 71)))) rfl (zR_call (by omega) rfl (ok_f43_seenIn_24 (by omega) s.1 _ hc8) ?_)
    refine zr_one (if t7 ≤ t9 then zN 78 [some (.ref 24), some (.int v1), some (.int s.1), some (.int s.2)] [] (SH, I, J) else zN 74 [some (.ref 24), some (.int v1), some (.int s.1), some (.int s.2)] [] (SH, I, J)) rfl (zR_if (fun hc10 => zR_go ?_) (fun hc10 => zR_go ?_))
    · rw [if_pos hc10] at h
      refine zr_steps 4 (50, [some (.ref 24), some (.int v1), some (.int s.1), some (.int (s.2 + 1))], [], (SH, I, J)) rfl ?_
      have he := Option.some.inj h
      subst he
      exact zr_hdr rfl rfl (show zRun X d 42 50 [some (.ref 24), some (.int v1), some (.int s.1), some (.int (s.2 + 1))] [] (SH, I, J) r M' from w)
    · rw [if_neg hc10] at h
      refine zr_steps 5 (50, [some (.ref 24), some (.int v1), some (.int s.2), some (.int (s.2 + 1))], [], (SH, I, J)) rfl ?_
      have he := Option.some.inj h
      subst he
      exact zr_hdr rfl rfl (show zRun X d 42 50 [some (.ref 24), some (.int v1), some (.int s.2), some (.int (s.2 + 1))] [] (SH, I, J) r M' from w))
theorem ok_f42_see_24 {X : zX} {d : Nat} (hd : 1 ≤ d) (v1 : Int32) {I : (Nat → Nat → Int32)} {J : (Nat → Nat → Int64)} (t : (Nat → Nat → Int32)) (h : f42_see_24 v1 I = some t) : zRun X d 42 0 (zent 42 [.ref 24, .int v1]) [] (SH, I, J) none (SH, t, J) := by
  unfold f42_see_24 at h
  refine zr_steps 2 (2, [some (.ref 24), some (.int v1), some (.int 0), none], [], (SH, I, J)) rfl ?_
  obtain ⟨s4, ho5, h⟩ := zbind h
  refine zr_hdr (ls2 := [some (.ref 24), some (.int v1), some (.int 0), none]) rfl rfl ?_
  refine ok_f42_see_24_L2 (by omega) v1 5000 ((0 : Int32), I) s4 ho5 ?_
  show zRun X d 42 29 [some (.ref 24), some (.int v1), none, none] [] (SH, s4.2, J) _ _
  refine zr_steps 13 (50, [some (.ref 24), some (.int v1), some (.int 0), some (.int 1)], [], (SH, (zu s4.2 24 12 (zmax 0 (v1 - (s4.2 25 1)))), J)) rfl ?_
  obtain ⟨s12, ho13, h⟩ := zbind h
  refine zr_hdr (ls2 := [some (.ref 24), some (.int v1), some (.int 0), some (.int 1)]) rfl rfl ?_
  refine ok_f42_see_24_L50 (by omega) v1 5000 ((0 : Int32), (1 : Int32)) s12 ho13 ?_
  show zRun X d 42 86 [some (.ref 24), some (.int v1), some (.int s12.1), none] [] (SH, (zu s4.2 24 12 (zmax 0 (v1 - (s4.2 25 1)))), J) _ _
  refine zr_steps 8 (100, [some (.ref 24), some (.int v1), some (.int s12.1), none], [.int ((s4.2 25 0) - v1), .int 0, .ref 36], (SH, (zu s4.2 24 12 (zmax 0 (v1 - (s4.2 25 1)))), J)) rfl ?_
  refine zr_one (bif zin 0 8 then zN 101 [some (.ref 24), some (.int v1), some (.int s12.1), none] [] (SH, (zu (zu s4.2 24 12 (zmax 0 (v1 - (s4.2 25 1)))) 36 0 ((s4.2 25 0) - v1)), J) else none) rfl (zR_bif (by decide) (zR_go ?_))
  refine zr_steps 4 (107, [some (.ref 24), some (.int v1), some (.int s12.1), none], [.int s12.1, .int 5, .ref 36], (SH, (zu (zu s4.2 24 12 (zmax 0 (v1 - (s4.2 25 1)))) 36 0 ((s4.2 25 0) - v1)), J)) rfl ?_
  refine zr_one (bif zin 5 8 then zN 108 [some (.ref 24), some (.int v1), some (.int s12.1), none] [] (SH, (zu (zu (zu s4.2 24 12 (zmax 0 (v1 - (s4.2 25 1)))) 36 0 ((s4.2 25 0) - v1)) 36 5 s12.1), J) else none) rfl (zR_bif (by decide) (zR_go ?_))
  refine zr_steps 5 (116, [some (.ref 24), some (.int v1), some (.int s12.1), none], [.int s12.1, .ref 24, .int 6, .ref 36], (SH, (zu (zu (zu s4.2 24 12 (zmax 0 (v1 - (s4.2 25 1)))) 36 0 ((s4.2 25 0) - v1)) 36 5 s12.1), J)) rfl ?_
  obtain ⟨t15, hc14, h⟩ := zbind h
  refine zr_one (some (.inr (.inl (43, [.ref 24, .int s12.1], [.int 6, .ref 36], 119)))) rfl (zR_call (by omega) rfl (ok_f43_seenIn_24 (by omega) s12.1 _ hc14) ?_)
  refine zr_one (bif zin 6 8 then zN 120 [some (.ref 24), some (.int v1), some (.int s12.1), none] [] (SH, (zu (zu (zu (zu s4.2 24 12 (zmax 0 (v1 - (s4.2 25 1)))) 36 0 ((s4.2 25 0) - v1)) 36 5 s12.1) 36 6 t15), J) else none) rfl (zR_bif (by decide) (zR_go ?_))
  have he := Option.some.inj h
  subst he
  exact zr_one (some (.inr (.inr none))) rfl (zR_ret rfl rfl)
