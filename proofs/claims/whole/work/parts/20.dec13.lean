def f172_countSquare_L72 (v1 : Int32) (v2 : Int32) (v3 : Int32) (I : (Nat → Nat → Int32)) (s : (Int32 × Int32)) : Option ((Int32 × Int32) ⊕ (Int32 × Int32)) :=
  if v2 ≤ s.2 then
    some (.inl (s.1, s.2))
  else
    bif zin (((32 * s.2) + (8 * v1)) + v3) 1952 then
    if s.1 ≤ (I 100 (((32 * s.2) + (8 * v1)) + v3).toNatClampNeg) then
      some (.inr (s.1, (s.2 + 1)))
    else
      bif zin (((32 * s.2) + (8 * v1)) + v3) 1952 then
      some (.inr ((I 100 (((32 * s.2) + (8 * v1)) + v3).toNatClampNeg), (s.2 + 1)))
      else none
    else none
def f172_countSquare_L72 (v1 : Int32) (v2 : Int32) (v3 : Int32) (I : (Nat → Nat → Int32)) (s : (Int32 × Int32)) : Option ((Int32 × Int32) ⊕ (Int32 × Int32)) :=
  if v2 ≤ s.2 then
    some (.inl (s.1, s.2))
  else
    bif zin (((32 * s.2) + (8 * v1)) + v3) 1952 then
    if s.1 ≤ (I 100 (((32 * s.2) + (8 * v1)) + v3).toNatClampNeg) then
      some (.inr (s.1, (s.2 + 1)))
    else
      bif zin (((32 * s.2) + (8 * v1)) + v3) 1952 then
      some (.inr ((I 100 (((32 * s.2) + (8 * v1)) + v3).toNatClampNeg), (s.2 + 1)))
      else none
    else none
def f172_countSquare_L31 (v1 : Int32) (v2 : Int32) (s : (Int32 × (Nat → Nat → Int32))) : Option ((Int32 × (Nat → Nat → Int32)) ⊕ (Int32 × (Nat → Nat → Int32))) :=
  if (s.2 73 9) ≤ s.1 then
    some (.inl (s.1, s.2))
  else
    bif zin ((8 * v1) + s.1) 32 then
    if (s.2 73 17) ≤ v2 then
      Option.bind (zloop (f172_countSquare_L72 v1 v2 s.1 s.2) 5000 ((s.2 97 ((8 * v1) + s.1).toNatClampNeg), (v2 - (s.2 73 17)))) fun s7 =>
      bif zin v1 4 then
      bif zin v1 4 then
      some (.inr ((s.1 + 1), (zu s.2 103 v1.toNatClampNeg ((s.2 103 v1.toNatClampNeg) + s7.1))))
      else none
      else none
    else
      Option.bind (zloop (f172_countSquare_L72 v1 v2 s.1 s.2) 5000 ((s.2 97 ((8 * v1) + s.1).toNatClampNeg), (0 : Int32))) fun s15 =>
      bif zin v1 4 then
      bif zin v1 4 then
      some (.inr ((s.1 + 1), (zu s.2 103 v1.toNatClampNeg ((s.2 103 v1.toNatClampNeg) + s15.1))))
      else none
      else none
    else none
def f172_countSquare_L72 (v1 : Int32) (v2 : Int32) (v3 : Int32) (I : (Nat → Nat → Int32)) (s : (Int32 × Int32)) : Option ((Int32 × Int32) ⊕ (Int32 × Int32)) :=
  if v2 ≤ s.2 then
    some (.inl (s.1, s.2))
  else
    bif zin (((32 * s.2) + (8 * v1)) + v3) 1952 then
    if s.1 ≤ (I 100 (((32 * s.2) + (8 * v1)) + v3).toNatClampNeg) then
      some (.inr (s.1, (s.2 + 1)))
    else
      bif zin (((32 * s.2) + (8 * v1)) + v3) 1952 then
      some (.inr ((I 100 (((32 * s.2) + (8 * v1)) + v3).toNatClampNeg), (s.2 + 1)))
      else none
    else none
def f172_countSquare_L72 (v1 : Int32) (v2 : Int32) (v3 : Int32) (I : (Nat → Nat → Int32)) (s : (Int32 × Int32)) : Option ((Int32 × Int32) ⊕ (Int32 × Int32)) :=
  if v2 ≤ s.2 then
    some (.inl (s.1, s.2))
  else
    bif zin (((32 * s.2) + (8 * v1)) + v3) 1952 then
    if s.1 ≤ (I 100 (((32 * s.2) + (8 * v1)) + v3).toNatClampNeg) then
      some (.inr (s.1, (s.2 + 1)))
    else
      bif zin (((32 * s.2) + (8 * v1)) + v3) 1952 then
      some (.inr ((I 100 (((32 * s.2) + (8 * v1)) + v3).toNatClampNeg), (s.2 + 1)))
      else none
    else none
def f172_countSquare_L31 (v1 : Int32) (v2 : Int32) (s : (Int32 × (Nat → Nat → Int32))) : Option ((Int32 × (Nat → Nat → Int32)) ⊕ (Int32 × (Nat → Nat → Int32))) :=
  if (s.2 73 9) ≤ s.1 then
    some (.inl (s.1, s.2))
  else
    bif zin ((8 * v1) + s.1) 32 then
    if (s.2 73 17) ≤ v2 then
      Option.bind (zloop (f172_countSquare_L72 v1 v2 s.1 s.2) 5000 ((s.2 97 ((8 * v1) + s.1).toNatClampNeg), (v2 - (s.2 73 17)))) fun s29 =>
      bif zin v1 4 then
      bif zin v1 4 then
      some (.inr ((s.1 + 1), (zu s.2 103 v1.toNatClampNeg ((s.2 103 v1.toNatClampNeg) + s29.1))))
      else none
      else none
    else
      Option.bind (zloop (f172_countSquare_L72 v1 v2 s.1 s.2) 5000 ((s.2 97 ((8 * v1) + s.1).toNatClampNeg), (0 : Int32))) fun s37 =>
      bif zin v1 4 then
      bif zin v1 4 then
      some (.inr ((s.1 + 1), (zu s.2 103 v1.toNatClampNeg ((s.2 103 v1.toNatClampNeg) + s37.1))))
      else none
      else none
    else none
def f172_countSquare_L72 (v1 : Int32) (v2 : Int32) (v3 : Int32) (I : (Nat → Nat → Int32)) (s : (Int32 × Int32)) : Option ((Int32 × Int32) ⊕ (Int32 × Int32)) :=
  if v2 ≤ s.2 then
    some (.inl (s.1, s.2))
  else
    bif zin (((32 * s.2) + (8 * v1)) + v3) 1952 then
    if s.1 ≤ (I 100 (((32 * s.2) + (8 * v1)) + v3).toNatClampNeg) then
      some (.inr (s.1, (s.2 + 1)))
    else
      bif zin (((32 * s.2) + (8 * v1)) + v3) 1952 then
      some (.inr ((I 100 (((32 * s.2) + (8 * v1)) + v3).toNatClampNeg), (s.2 + 1)))
      else none
    else none
def f172_countSquare_L72 (v1 : Int32) (v2 : Int32) (v3 : Int32) (I : (Nat → Nat → Int32)) (s : (Int32 × Int32)) : Option ((Int32 × Int32) ⊕ (Int32 × Int32)) :=
  if v2 ≤ s.2 then
    some (.inl (s.1, s.2))
  else
    bif zin (((32 * s.2) + (8 * v1)) + v3) 1952 then
    if s.1 ≤ (I 100 (((32 * s.2) + (8 * v1)) + v3).toNatClampNeg) then
      some (.inr (s.1, (s.2 + 1)))
    else
      bif zin (((32 * s.2) + (8 * v1)) + v3) 1952 then
      some (.inr ((I 100 (((32 * s.2) + (8 * v1)) + v3).toNatClampNeg), (s.2 + 1)))
      else none
    else none
def f172_countSquare_L31 (v1 : Int32) (v2 : Int32) (s : (Int32 × (Nat → Nat → Int32))) : Option ((Int32 × (Nat → Nat → Int32)) ⊕ (Int32 × (Nat → Nat → Int32))) :=
  if (s.2 73 9) ≤ s.1 then
    some (.inl (s.1, s.2))
  else
    bif zin ((8 * v1) + s.1) 32 then
    if (s.2 73 17) ≤ v2 then
      Option.bind (zloop (f172_countSquare_L72 v1 v2 s.1 s.2) 5000 ((s.2 97 ((8 * v1) + s.1).toNatClampNeg), (v2 - (s.2 73 17)))) fun s51 =>
      bif zin v1 4 then
      bif zin v1 4 then
      some (.inr ((s.1 + 1), (zu s.2 103 v1.toNatClampNeg ((s.2 103 v1.toNatClampNeg) + s51.1))))
      else none
      else none
    else
      Option.bind (zloop (f172_countSquare_L72 v1 v2 s.1 s.2) 5000 ((s.2 97 ((8 * v1) + s.1).toNatClampNeg), (0 : Int32))) fun s59 =>
      bif zin v1 4 then
      bif zin v1 4 then
      some (.inr ((s.1 + 1), (zu s.2 103 v1.toNatClampNeg ((s.2 103 v1.toNatClampNeg) + s59.1))))
      else none
      else none
    else none
def f172_countSquare (v1 : Int32) (v2 : Int32) (I : (Nat → Nat → Int32)) : Option (Nat → Nat → Int32) :=
  if (I 73 45) ≤ 0 then
    bif zin v1 4 then
    Option.bind (zloop (f172_countSquare_L31 v1 v2) 5000 ((0 : Int32), (zu I 103 v1.toNatClampNeg 0))) fun s21 =>
    some s21.2
    else none
  else
    if v1 = (I 73 46) then
      bif zin v1 4 then
      Option.bind (zloop (f172_countSquare_L31 v1 v2) 5000 ((0 : Int32), (zu I 103 v1.toNatClampNeg (I 73 45)))) fun s43 =>
      some s43.2
      else none
    else
      bif zin v1 4 then
      Option.bind (zloop (f172_countSquare_L31 v1 v2) 5000 ((0 : Int32), (zu I 103 v1.toNatClampNeg 0))) fun s65 =>
      some s65.2
      else none
theorem ok_f172_countSquare_L72 {X : zX} {d : Nat} {r : Option Value} {M' : zM} (hd : 0 ≤ d) (v1 : Int32) (v2 : Int32) (v3 : Int32) {I : (Nat → Nat → Int32)} {J : (Nat → Nat → Int64)} : ∀ (n : Nat) (s x : (Int32 × Int32)), zloop (f172_countSquare_L72 v1 v2 v3 I) n s = some x → (fun (x : (Int32 × Int32)) => zRun X d 172 125 [some (.ref 73), some (.int v1), some (.int v2), some (.int v3), some (.int x.1), none] [] (SH, I, J) r M') x → (fun (s : (Int32 × Int32)) => zRun X d 172 72 [some (.ref 73), some (.int v1), some (.int v2), some (.int v3), some (.int s.1), some (.int s.2)] [] (SH, I, J) r M') s := zloop_ok (Wh := fun (s : (Int32 × Int32)) => zRun X d 172 72 [some (.ref 73), some (.int v1), some (.int v2), some (.int v3), some (.int s.1), some (.int s.2)] [] (SH, I, J) r M') (Wx := fun (x : (Int32 × Int32)) => zRun X d 172 125 [some (.ref 73), some (.int v1), some (.int v2), some (.int v3), some (.int x.1), none] [] (SH, I, J) r M') (fun s y h w => by
  unfold f172_countSquare_L72 at h
  refine zr_steps 2 (75, [some (.ref 73), some (.int v1), some (.int v2), some (.int v3), some (.int s.1), some (.int s.2)], [.int v2, .int s.2], (SH, I, J)) rfl ?_
  refine zr_one (if v2 ≤ s.2 then zN 125 [some (.ref 73), some (.int v1), some (.int v2), some (.int v3), some (.int s.1), some (.int s.2)] [] (SH, I, J) else zN 78 [some (.ref 73), some (.int v1), some (.int v2), some (.int v3), some (.int s.1), some (.int s.2)] [] (SH, I, J)) rfl (zR_if (fun hc6 => zR_go ?_) (fun hc6 => zR_go ?_))
  · rw [if_pos hc6] at h
    have he := Option.some.inj h
    subst he
    exact zr_hdr rfl rfl (show zRun X d 172 125 [some (.ref 73), some (.int v1), some (.int v2), some (.int v3), some (.int s.1), none] [] (SH, I, J) r M' from w)
  · rw [if_neg hc6] at h
    refine zr_steps 11 (94, [some (.ref 73), some (.int v1), some (.int v2), some (.int v3), some (.int s.1), some (.int s.2)], [.int (((32 * s.2) + (8 * v1)) + v3), .ref 100], (SH, I, J)) rfl ?_
    obtain ⟨hc3, h⟩ := zbifo h
    refine zr_one (bif zin (((32 * s.2) + (8 * v1)) + v3) 1952 then zN 95 [some (.ref 73), some (.int v1), some (.int v2), some (.int v3), some (.int s.1), some (.int s.2)] [.int (I 100 (((32 * s.2) + (8 * v1)) + v3).toNatClampNeg)] (SH, I, J) else none) rfl (zR_bif hc3 (zR_go ?_))
    refine zr_steps 1 (97, [some (.ref 73), some (.int v1), some (.int v2), some (.int v3), some (.int s.1), some (.int s.2)], [.int s.1, .int (I 100 (((32 * s.2) + (8 * v1)) + v3).toNatClampNeg)], (SH, I, J)) rfl ?_
    refine zr_one (if s.1 ≤ (I 100 (((32 * s.2) + (8 * v1)) + v3).toNatClampNeg) then zN 119 [some (.ref 73), some (.int v1), some (.int v2), some (.int v3), some (.int s.1), some (.int s.2)] [] (SH, I, J) else zN 100 [some (.ref 73), some (.int v1), some (.int v2), some (.int v3), some (.int s.1), some (.int s.2)] [] (SH, I, J)) rfl (zR_if (fun hc5 => zR_go ?_) (fun hc5 => zR_go ?_))
    · rw [if_pos hc5] at h
      refine zr_steps 2 (72, [some (.ref 73), some (.int v1), some (.int v2), some (.int v3), some (.int s.1), some (.int (s.2 + 1))], [], (SH, I, J)) rfl ?_
      have he := Option.some.inj h
      subst he
      exact zr_hdr rfl rfl (show zRun X d 172 72 [some (.ref 73), some (.int v1), some (.int v2), some (.int v3), some (.int s.1), some (.int (s.2 + 1))] [] (SH, I, J) r M' from w)
    · rw [if_neg hc5] at h
      refine zr_steps 11 (116, [some (.ref 73), some (.int v1), some (.int v2), some (.int v3), some (.int s.1), some (.int s.2)], [.int (((32 * s.2) + (8 * v1)) + v3), .ref 100], (SH, I, J)) rfl ?_
      obtain ⟨hc4, h⟩ := zbifo h
      refine zr_one (bif zin (((32 * s.2) + (8 * v1)) + v3) 1952 then zN 117 [some (.ref 73), some (.int v1), some (.int v2), some (.int v3), some (.int s.1), some (.int s.2)] [.int (I 100 (((32 * s.2) + (8 * v1)) + v3).toNatClampNeg)] (SH, I, J) else none) rfl (zR_bif hc4 (zR_go ?_))
      refine zr_steps 3 (72, [some (.ref 73), some (.int v1), some (.int v2), some (.int v3), some (.int (I 100 (((32 * s.2) + (8 * v1)) + v3).toNatClampNeg)), some (.int (s.2 + 1))], [], (SH, I, J)) rfl ?_
      have he := Option.some.inj h
      subst he
      exact zr_hdr rfl rfl (show zRun X d 172 72 [some (.ref 73), some (.int v1), some (.int v2), some (.int v3), some (.int (I 100 (((32 * s.2) + (8 * v1)) + v3).toNatClampNeg)), some (.int (s.2 + 1))] [] (SH, I, J) r M' from w))
theorem ok_f172_countSquare_L72 {X : zX} {d : Nat} {r : Option Value} {M' : zM} (hd : 0 ≤ d) (v1 : Int32) (v2 : Int32) (v3 : Int32) {I : (Nat → Nat → Int32)} {J : (Nat → Nat → Int64)} : ∀ (n : Nat) (s x : (Int32 × Int32)), zloop (f172_countSquare_L72 v1 v2 v3 I) n s = some x → (fun (x : (Int32 × Int32)) => zRun X d 172 125 [some (.ref 73), some (.int v1), some (.int v2), some (.int v3), some (.int x.1), none] [] (SH, I, J) r M') x → (fun (s : (Int32 × Int32)) => zRun X d 172 72 [some (.ref 73), some (.int v1), some (.int v2), some (.int v3), some (.int s.1), some (.int s.2)] [] (SH, I, J) r M') s := zloop_ok (Wh := fun (s : (Int32 × Int32)) => zRun X d 172 72 [some (.ref 73), some (.int v1), some (.int v2), some (.int v3), some (.int s.1), some (.int s.2)] [] (SH, I, J) r M') (Wx := fun (x : (Int32 × Int32)) => zRun X d 172 125 [some (.ref 73), some (.int v1), some (.int v2), some (.int v3), some (.int x.1), none] [] (SH, I, J) r M') (fun s y h w => by
  unfold f172_countSquare_L72 at h
  refine zr_steps 2 (75, [some (.ref 73), some (.int v1), some (.int v2), some (.int v3), some (.int s.1), some (.int s.2)], [.int v2, .int s.2], (SH, I, J)) rfl ?_
  refine zr_one (if v2 ≤ s.2 then zN 125 [some (.ref 73), some (.int v1), some (.int v2), some (.int v3), some (.int s.1), some (.int s.2)] [] (SH, I, J) else zN 78 [some (.ref 73), some (.int v1), some (.int v2), some (.int v3), some (.int s.1), some (.int s.2)] [] (SH, I, J)) rfl (zR_if (fun hc14 => zR_go ?_) (fun hc14 => zR_go ?_))
  · rw [if_pos hc14] at h
    have he := Option.some.inj h
    subst he
    exact zr_hdr rfl rfl (show zRun X d 172 125 [some (.ref 73), some (.int v1), some (.int v2), some (.int v3), some (.int s.1), none] [] (SH, I, J) r M' from w)
  · rw [if_neg hc14] at h
    refine zr_steps 11 (94, [some (.ref 73), some (.int v1), some (.int v2), some (.int v3), some (.int s.1), some (.int s.2)], [.int (((32 * s.2) + (8 * v1)) + v3), .ref 100], (SH, I, J)) rfl ?_
    obtain ⟨hc11, h⟩ := zbifo h
    refine zr_one (bif zin (((32 * s.2) + (8 * v1)) + v3) 1952 then zN 95 [some (.ref 73), some (.int v1), some (.int v2), some (.int v3), some (.int s.1), some (.int s.2)] [.int (I 100 (((32 * s.2) + (8 * v1)) + v3).toNatClampNeg)] (SH, I, J) else none) rfl (zR_bif hc11 (zR_go ?_))
    refine zr_steps 1 (97, [some (.ref 73), some (.int v1), some (.int v2), some (.int v3), some (.int s.1), some (.int s.2)], [.int s.1, .int (I 100 (((32 * s.2) + (8 * v1)) + v3).toNatClampNeg)], (SH, I, J)) rfl ?_
    refine zr_one (if s.1 ≤ (I 100 (((32 * s.2) + (8 * v1)) + v3).toNatClampNeg) then zN 119 [some (.ref 73), some (.int v1), some (.int v2), some (.int v3), some (.int s.1), some (.int s.2)] [] (SH, I, J) else zN 100 [some (.ref 73), some (.int v1), some (.int v2), some (.int v3), some (.int s.1), some (.int s.2)] [] (SH, I, J)) rfl (zR_if (fun hc13 => zR_go ?_) (fun hc13 => zR_go ?_))
    · rw [if_pos hc13] at h
      refine zr_steps 2 (72, [some (.ref 73), some (.int v1), some (.int v2), some (.int v3), some (.int s.1), some (.int (s.2 + 1))], [], (SH, I, J)) rfl ?_
      have he := Option.some.inj h
      subst he
      exact zr_hdr rfl rfl (show zRun X d 172 72 [some (.ref 73), some (.int v1), some (.int v2), some (.int v3), some (.int s.1), some (.int (s.2 + 1))] [] (SH, I, J) r M' from w)
    · rw [if_neg hc13] at h
      refine zr_steps 11 (116, [some (.ref 73), some (.int v1), some (.int v2), some (.int v3), some (.int s.1), some (.int s.2)], [.int (((32 * s.2) + (8 * v1)) + v3), .ref 100], (SH, I, J)) rfl ?_
      obtain ⟨hc12, h⟩ := zbifo h
      refine zr_one (bif zin (((32 * s.2) + (8 * v1)) + v3) 1952 then zN 117 [some (.ref 73), some (.int v1), some (.int v2), some (.int v3), some (.int s.1), some (.int s.2)] [.int (I 100 (((32 * s.2) + (8 * v1)) + v3).toNatClampNeg)] (SH, I, J) else none) rfl (zR_bif hc12 (zR_go ?_))
      refine zr_steps 3 (72, [some (.ref 73), some (.int v1), some (.int v2), some (.int v3), some (.int (I 100 (((32 * s.2) + (8 * v1)) + v3).toNatClampNeg)), some (.int (s.2 + 1))], [], (SH, I, J)) rfl ?_
      have he := Option.some.inj h
      subst he
      exact zr_hdr rfl rfl (show zRun X d 172 72 [some (.ref 73), some (.int v1), some (.int v2), some (.int v3), some (.int (I 100 (((32 * s.2) + (8 * v1)) + v3).toNatClampNeg)), some (.int (s.2 + 1))] [] (SH, I, J) r M' from w))
theorem ok_f172_countSquare_L31 {X : zX} {d : Nat} {r : Option Value} {M' : zM} (hd : 0 ≤ d) (v1 : Int32) (v2 : Int32) {J : (Nat → Nat → Int64)} : ∀ (n : Nat) (s x : (Int32 × (Nat → Nat → Int32))), zloop (f172_countSquare_L31 v1 v2) n s = some x → (fun (x : (Int32 × (Nat → Nat → Int32))) => zRun X d 172 142 [none, none, none, none, none, none] [] (SH, x.2, J) r M') x → (fun (s : (Int32 × (Nat → Nat → Int32))) => zRun X d 172 31 [some (.ref 73), some (.int v1), some (.int v2), some (.int s.1), none, none] [] (SH, s.2, J) r M') s := zloop_ok (Wh := fun (s : (Int32 × (Nat → Nat → Int32))) => zRun X d 172 31 [some (.ref 73), some (.int v1), some (.int v2), some (.int s.1), none, none] [] (SH, s.2, J) r M') (Wx := fun (x : (Int32 × (Nat → Nat → Int32))) => zRun X d 172 142 [none, none, none, none, none, none] [] (SH, x.2, J) r M') (fun s y h w => by
  unfold f172_countSquare_L31 at h
  refine zr_steps 3 (36, [some (.ref 73), some (.int v1), some (.int v2), some (.int s.1), none, none], [.int (s.2 73 9), .int s.1], (SH, s.2, J)) rfl ?_
  refine zr_one (if (s.2 73 9) ≤ s.1 then zN 142 [some (.ref 73), some (.int v1), some (.int v2), some (.int s.1), none, none] [] (SH, s.2, J) else zN 39 [some (.ref 73), some (.int v1), some (.int v2), some (.int s.1), none, none] [] (SH, s.2, J)) rfl (zR_if (fun hc20 => zR_go ?_) (fun hc20 => zR_go ?_))
  · rw [if_pos hc20] at h
    have he := Option.some.inj h
    subst he
    exact zr_hdv rfl rfl (show zRun X d 172 142 [none, none, none, none, none, none] [] (SH, s.2, J) r M' from w)
  · rw [if_neg hc20] at h
    refine zr_steps 7 (49, [some (.ref 73), some (.int v1), some (.int v2), some (.int s.1), none, none], [.int ((8 * v1) + s.1), .ref 97], (SH, s.2, J)) rfl ?_
    obtain ⟨hc2, h⟩ := zbifo h
    refine zr_one (bif zin ((8 * v1) + s.1) 32 then zN 50 [some (.ref 73), some (.int v1), some (.int v2), some (.int s.1), none, none] [.int (s.2 97 ((8 * v1) + s.1).toNatClampNeg)] (SH, s.2, J) else none) rfl (zR_bif hc2 (zR_go ?_))
    refine zr_steps 4 (57, [some (.ref 73), some (.int v1), some (.int v2), some (.int s.1), some (.int (s.2 97 ((8 * v1) + s.1).toNatClampNeg)), none], [.int (s.2 73 17), .int v2], (SH, s.2, J)) rfl ?_
    refine zr_one (if (s.2 73 17) ≤ v2 then zN 64 [some (.ref 73), some (.int v1), some (.int v2), some (.int s.1), some (.int (s.2 97 ((8 * v1) + s.1).toNatClampNeg)), none] [] (SH, s.2, J) else zN 60 [some (.ref 73), some (.int v1), some (.int v2), some (.int s.1), some (.int (s.2 97 ((8 * v1) + s.1).toNatClampNeg)), none] [] (SH, s.2, J)) rfl (zR_if (fun hc19 => zR_go ?_) (fun hc19 => zR_go ?_))
    · rw [if_pos hc19] at h
      refine zr_steps 5 (72, [some (.ref 73), some (.int v1), some (.int v2), some (.int s.1), some (.int (s.2 97 ((8 * v1) + s.1).toNatClampNeg)), some (.int (v2 - (s.2 73 17)))], [], (SH, s.2, J)) rfl ?_
      obtain ⟨s7, ho8, h⟩ := zbind h
      refine zr_hdr (ls2 := [some (.ref 73), some (.int v1), some (.int v2), some (.int s.1), some (.int (s.2 97 ((8 * v1) + s.1).toNatClampNeg)), some (.int (v2 - (s.2 73 17)))]) rfl rfl ?_
      refine ok_f172_countSquare_L72 (by omega) v1 v2 s.1 5000 ((s.2 97 ((8 * v1) + s.1).toNatClampNeg), (v2 - (s.2 73 17))) s7 ho8 ?_
      show zRun X d 172 125 [some (.ref 73), some (.int v1), some (.int v2), some (.int s.1), some (.int s7.1), none] [] (SH, s.2, J) _ _
      refine zr_steps 4 (131, [some (.ref 73), some (.int v1), some (.int v2), some (.int s.1), some (.int s7.1), none], [.int v1, .ref 103, .int v1, .ref 103], (SH, s.2, J)) rfl ?_
      obtain ⟨hc9, h⟩ := zbifo h
      refine zr_one (bif zin v1 4 then zN 132 [some (.ref 73), some (.int v1), some (.int v2), some (.int s.1), some (.int s7.1), none] [.int (s.2 103 v1.toNatClampNeg), .int v1, .ref 103] (SH, s.2, J) else none) rfl (zR_bif hc9 (zR_go ?_))
      refine zr_steps 2 (135, [some (.ref 73), some (.int v1), some (.int v2), some (.int s.1), some (.int s7.1), none], [.int ((s.2 103 v1.toNatClampNeg) + s7.1), .int v1, .ref 103], (SH, s.2, J)) rfl ?_
      obtain ⟨hc10, h⟩ := zbifo h
      refine zr_one (bif zin v1 4 then zN 136 [some (.ref 73), some (.int v1), some (.int v2), some (.int s.1), some (.int s7.1), none] [] (SH, (zu s.2 103 v1.toNatClampNeg ((s.2 103 v1.toNatClampNeg) + s7.1)), J) else none) rfl (zR_bif hc10 (zR_go ?_))
      refine zr_steps 2 (31, [some (.ref 73), some (.int v1), some (.int v2), some (.int (s.1 + 1)), some (.int s7.1), none], [], (SH, (zu s.2 103 v1.toNatClampNeg ((s.2 103 v1.toNatClampNeg) + s7.1)), J)) rfl ?_
      have he := Option.some.inj h
      subst he
      exact zr_hdr rfl rfl (show zRun X d 172 31 [some (.ref 73), some (.int v1), some (.int v2), some (.int (s.1 + 1)), none, none] [] (SH, (zu s.2 103 v1.toNatClampNeg ((s.2 103 v1.toNatClampNeg) + s7.1)), J) r M' from w)
    · rw [if_neg hc19] at h
      refine zr_steps 3 (72, [some (.ref 73), some (.int v1), some (.int v2), some (.int s.1), some (.int (s.2 97 ((8 * v1) + s.1).toNatClampNeg)), some (.int 0)], [], (SH, s.2, J)) rfl ?_
      obtain ⟨s15, ho16, h⟩ := zbind h
      refine zr_hdr (ls2 := [some (.ref 73), some (.int v1), some (.int v2), some (.int s.1), some (.int (s.2 97 ((8 * v1) + s.1).toNatClampNeg)), some (.int 0)]) rfl rfl ?_
      refine ok_f172_countSquare_L72 (by omega) v1 v2 s.1 5000 ((s.2 97 ((8 * v1) + s.1).toNatClampNeg), (0 : Int32)) s15 ho16 ?_
      show zRun X d 172 125 [some (.ref 73), some (.int v1), some (.int v2), some (.int s.1), some (.int s15.1), none] [] (SH, s.2, J) _ _
      refine zr_steps 4 (131, [some (.ref 73), some (.int v1), some (.int v2), some (.int s.1), some (.int s15.1), none], [.int v1, .ref 103, .int v1, .ref 103], (SH, s.2, J)) rfl ?_
      obtain ⟨hc17, h⟩ := zbifo h
      refine zr_one (bif zin v1 4 then zN 132 [some (.ref 73), some (.int v1), some (.int v2), some (.int s.1), some (.int s15.1), none] [.int (s.2 103 v1.toNatClampNeg), .int v1, .ref 103] (SH, s.2, J) else none) rfl (zR_bif hc17 (zR_go ?_))
      refine zr_steps 2 (135, [some (.ref 73), some (.int v1), some (.int v2), some (.int s.1), some (.int s15.1), none], [.int ((s.2 103 v1.toNatClampNeg) + s15.1), .int v1, .ref 103], (SH, s.2, J)) rfl ?_
      obtain ⟨hc18, h⟩ := zbifo h
      refine zr_one (bif zin v1 4 then zN 136 [some (.ref 73), some (.int v1), some (.int v2), some (.int s.1), some (.int s15.1), none] [] (SH, (zu s.2 103 v1.toNatClampNeg ((s.2 103 v1.toNatClampNeg) + s15.1)), J) else none) rfl (zR_bif hc18 (zR_go ?_))
      refine zr_steps 2 (31, [some (.ref 73), some (.int v1), some (.int v2), some (.int (s.1 + 1)), some (.int s15.1), none], [], (SH, (zu s.2 103 v1.toNatClampNeg ((s.2 103 v1.toNatClampNeg) + s15.1)), J)) rfl ?_
      have he := Option.some.inj h
      subst he
      exact zr_hdr rfl rfl (show zRun X d 172 31 [some (.ref 73), some (.int v1), some (.int v2), some (.int (s.1 + 1)), none, none] [] (SH, (zu s.2 103 v1.toNatClampNeg ((s.2 103 v1.toNatClampNeg) + s15.1)), J) r M' from w))
theorem ok_f172_countSquare_L72 {X : zX} {d : Nat} {r : Option Value} {M' : zM} (hd : 0 ≤ d) (v1 : Int32) (v2 : Int32) (v3 : Int32) {I : (Nat → Nat → Int32)} {J : (Nat → Nat → Int64)} : ∀ (n : Nat) (s x : (Int32 × Int32)), zloop (f172_countSquare_L72 v1 v2 v3 I) n s = some x → (fun (x : (Int32 × Int32)) => zRun X d 172 125 [some (.ref 73), some (.int v1), some (.int v2), some (.int v3), some (.int x.1), none] [] (SH, I, J) r M') x → (fun (s : (Int32 × Int32)) => zRun X d 172 72 [some (.ref 73), some (.int v1), some (.int v2), some (.int v3), some (.int s.1), some (.int s.2)] [] (SH, I, J) r M') s := zloop_ok (Wh := fun (s : (Int32 × Int32)) => zRun X d 172 72 [some (.ref 73), some (.int v1), some (.int v2), some (.int v3), some (.int s.1), some (.int s.2)] [] (SH, I, J) r M') (Wx := fun (x : (Int32 × Int32)) => zRun X d 172 125 [some (.ref 73), some (.int v1), some (.int v2), some (.int v3), some (.int x.1), none] [] (SH, I, J) r M') (fun s y h w => by
  unfold f172_countSquare_L72 at h
  refine zr_steps 2 (75, [some (.ref 73), some (.int v1), some (.int v2), some (.int v3), some (.int s.1), some (.int s.2)], [.int v2, .int s.2], (SH, I, J)) rfl ?_
  refine zr_one (if v2 ≤ s.2 then zN 125 [some (.ref 73), some (.int v1), some (.int v2), some (.int v3), some (.int s.1), some (.int s.2)] [] (SH, I, J) else zN 78 [some (.ref 73), some (.int v1), some (.int v2), some (.int v3), some (.int s.1), some (.int s.2)] [] (SH, I, J)) rfl (zR_if (fun hc28 => zR_go ?_) (fun hc28 => zR_go ?_))
  · rw [if_pos hc28] at h
    have he := Option.some.inj h
    subst he
    exact zr_hdr rfl rfl (show zRun X d 172 125 [some (.ref 73), some (.int v1), some (.int v2), some (.int v3), some (.int s.1), none] [] (SH, I, J) r M' from w)
  · rw [if_neg hc28] at h
    refine zr_steps 11 (94, [some (.ref 73), some (.int v1), some (.int v2), some (.int v3), some (.int s.1), some (.int s.2)], [.int (((32 * s.2) + (8 * v1)) + v3), .ref 100], (SH, I, J)) rfl ?_
    obtain ⟨hc25, h⟩ := zbifo h
    refine zr_one (bif zin (((32 * s.2) + (8 * v1)) + v3) 1952 then zN 95 [some (.ref 73), some (.int v1), some (.int v2), some (.int v3), some (.int s.1), some (.int s.2)] [.int (I 100 (((32 * s.2) + (8 * v1)) + v3).toNatClampNeg)] (SH, I, J) else none) rfl (zR_bif hc25 (zR_go ?_))
    refine zr_steps 1 (97, [some (.ref 73), some (.int v1), some (.int v2), some (.int v3), some (.int s.1), some (.int s.2)], [.int s.1, .int (I 100 (((32 * s.2) + (8 * v1)) + v3).toNatClampNeg)], (SH, I, J)) rfl ?_
    refine zr_one (if s.1 ≤ (I 100 (((32 * s.2) + (8 * v1)) + v3).toNatClampNeg) then zN 119 [some (.ref 73), some (.int v1), some (.int v2), some (.int v3), some (.int s.1), some (.int s.2)] [] (SH, I, J) else zN 100 [some (.ref 73), some (.int v1), some (.int v2), some (.int v3), some (.int s.1), some (.int s.2)] [] (SH, I, J)) rfl (zR_if (fun hc27 => zR_go ?_) (fun hc27 => zR_go ?_))
    · rw [if_pos hc27] at h
      refine zr_steps 2 (72, [some (.ref 73), some (.int v1), some (.int v2), some (.int v3), some (.int s.1), some (.int (s.2 + 1))], [], (SH, I, J)) rfl ?_
      have he := Option.some.inj h
      subst he
      exact zr_hdr rfl rfl (show zRun X d 172 72 [some (.ref 73), some (.int v1), some (.int v2), some (.int v3), some (.int s.1), some (.int (s.2 + 1))] [] (SH, I, J) r M' from w)
    · rw [if_neg hc27] at h
      refine zr_steps 11 (116, [some (.ref 73), some (.int v1), some (.int v2), some (.int v3), some (.int s.1), some (.int s.2)], [.int (((32 * s.2) + (8 * v1)) + v3), .ref 100], (SH, I, J)) rfl ?_
      obtain ⟨hc26, h⟩ := zbifo h
      refine zr_one (bif zin (((32 * s.2) + (8 * v1)) + v3) 1952 then zN 117 [some (.ref 73), some (.int v1), some (.int v2), some (.int v3), some (.int s.1), some (.int s.2)] [.int (I 100 (((32 * s.2) + (8 * v1)) + v3).toNatClampNeg)] (SH, I, J) else none) rfl (zR_bif hc26 (zR_go ?_))
      refine zr_steps 3 (72, [some (.ref 73), some (.int v1), some (.int v2), some (.int v3), some (.int (I 100 (((32 * s.2) + (8 * v1)) + v3).toNatClampNeg)), some (.int (s.2 + 1))], [], (SH, I, J)) rfl ?_
      have he := Option.some.inj h
      subst he
      exact zr_hdr rfl rfl (show zRun X d 172 72 [some (.ref 73), some (.int v1), some (.int v2), some (.int v3), some (.int (I 100 (((32 * s.2) + (8 * v1)) + v3).toNatClampNeg)), some (.int (s.2 + 1))] [] (SH, I, J) r M' from w))
theorem ok_f172_countSquare_L72 {X : zX} {d : Nat} {r : Option Value} {M' : zM} (hd : 0 ≤ d) (v1 : Int32) (v2 : Int32) (v3 : Int32) {I : (Nat → Nat → Int32)} {J : (Nat → Nat → Int64)} : ∀ (n : Nat) (s x : (Int32 × Int32)), zloop (f172_countSquare_L72 v1 v2 v3 I) n s = some x → (fun (x : (Int32 × Int32)) => zRun X d 172 125 [some (.ref 73), some (.int v1), some (.int v2), some (.int v3), some (.int x.1), none] [] (SH, I, J) r M') x → (fun (s : (Int32 × Int32)) => zRun X d 172 72 [some (.ref 73), some (.int v1), some (.int v2), some (.int v3), some (.int s.1), some (.int s.2)] [] (SH, I, J) r M') s := zloop_ok (Wh := fun (s : (Int32 × Int32)) => zRun X d 172 72 [some (.ref 73), some (.int v1), some (.int v2), some (.int v3), some (.int s.1), some (.int s.2)] [] (SH, I, J) r M') (Wx := fun (x : (Int32 × Int32)) => zRun X d 172 125 [some (.ref 73), some (.int v1), some (.int v2), some (.int v3), some (.int x.1), none] [] (SH, I, J) r M') (fun s y h w => by
  unfold f172_countSquare_L72 at h
  refine zr_steps 2 (75, [some (.ref 73), some (.int v1), some (.int v2), some (.int v3), some (.int s.1), some (.int s.2)], [.int v2, .int s.2], (SH, I, J)) rfl ?_
  refine zr_one (if v2 ≤ s.2 then zN 125 [some (.ref 73), some (.int v1), some (.int v2), some (.int v3), some (.int s.1), some (.int s.2)] [] (SH, I, J) else zN 78 [some (.ref 73), some (.int v1), some (.int v2), some (.int v3), some (.int s.1), some (.int s.2)] [] (SH, I, J)) rfl (zR_if (fun hc36 => zR_go ?_) (fun hc36 => zR_go ?_))
  · rw [if_pos hc36] at h
    have he := Option.some.inj h
    subst he
    exact zr_hdr rfl rfl (show zRun X d 172 125 [some (.ref 73), some (.int v1), some (.int v2), some (.int v3), some (.int s.1), none] [] (SH, I, J) r M' from w)
  · rw [if_neg hc36] at h
    refine zr_steps 11 (94, [some (.ref 73), some (.int v1), some (.int v2), some (.int v3), some (.int s.1), some (.int s.2)], [.int (((32 * s.2) + (8 * v1)) + v3), .ref 100], (SH, I, J)) rfl ?_
    obtain ⟨hc33, h⟩ := zbifo h
    refine zr_one (bif zin (((32 * s.2) + (8 * v1)) + v3) 1952 then zN 95 [some (.ref 73), some (.int v1), some (.int v2), some (.int v3), some (.int s.1), some (.int s.2)] [.int (I 100 (((32 * s.2) + (8 * v1)) + v3).toNatClampNeg)] (SH, I, J) else none) rfl (zR_bif hc33 (zR_go ?_))
    refine zr_steps 1 (97, [some (.ref 73), some (.int v1), some (.int v2), some (.int v3), some (.int s.1), some (.int s.2)], [.int s.1, .int (I 100 (((32 * s.2) + (8 * v1)) + v3).toNatClampNeg)], (SH, I, J)) rfl ?_
    refine zr_one (if s.1 ≤ (I 100 (((32 * s.2) + (8 * v1)) + v3).toNatClampNeg) then zN 119 [some (.ref 73), some (.int v1), some (.int v2), some (.int v3), some (.int s.1), some (.int s.2)] [] (SH, I, J) else zN 100 [some (.ref 73), some (.int v1), some (.int v2), some (.int v3), some (.int s.1), some (.int s.2)] [] (SH, I, J)) rfl (zR_if (fun hc35 => zR_go ?_) (fun hc35 => zR_go ?_))
    · rw [if_pos hc35] at h
      refine zr_steps 2 (72, [some (.ref 73), some (.int v1), some (.int v2), some (.int v3), some (.int s.1), some (.int (s.2 + 1))], [], (SH, I, J)) rfl ?_
      have he := Option.some.inj h
      subst he
      exact zr_hdr rfl rfl (show zRun X d 172 72 [some (.ref 73), some (.int v1), some (.int v2), some (.int v3), some (.int s.1), some (.int (s.2 + 1))] [] (SH, I, J) r M' from w)
    · rw [if_neg hc35] at h
      refine zr_steps 11 (116, [some (.ref 73), some (.int v1), some (.int v2), some (.int v3), some (.int s.1), some (.int s.2)], [.int (((32 * s.2) + (8 * v1)) + v3), .ref 100], (SH, I, J)) rfl ?_
      obtain ⟨hc34, h⟩ := zbifo h
      refine zr_one (bif zin (((32 * s.2) + (8 * v1)) + v3) 1952 then zN 117 [some (.ref 73), some (.int v1), some (.int v2), some (.int v3), some (.int s.1), some (.int s.2)] [.int (I 100 (((32 * s.2) + (8 * v1)) + v3).toNatClampNeg)] (SH, I, J) else none) rfl (zR_bif hc34 (zR_go ?_))
      refine zr_steps 3 (72, [some (.ref 73), some (.int v1), some (.int v2), some (.int v3), some (.int (I 100 (((32 * s.2) + (8 * v1)) + v3).toNatClampNeg)), some (.int (s.2 + 1))], [], (SH, I, J)) rfl ?_
      have he := Option.some.inj h
      subst he
      exact zr_hdr rfl rfl (show zRun X d 172 72 [some (.ref 73), some (.int v1), some (.int v2), some (.int v3), some (.int (I 100 (((32 * s.2) + (8 * v1)) + v3).toNatClampNeg)), some (.int (s.2 + 1))] [] (SH, I, J) r M' from w))
theorem ok_f172_countSquare_L31 {X : zX} {d : Nat} {r : Option Value} {M' : zM} (hd : 0 ≤ d) (v1 : Int32) (v2 : Int32) {J : (Nat → Nat → Int64)} : ∀ (n : Nat) (s x : (Int32 × (Nat → Nat → Int32))), zloop (f172_countSquare_L31 v1 v2) n s = some x → (fun (x : (Int32 × (Nat → Nat → Int32))) => zRun X d 172 142 [none, none, none, none, none, none] [] (SH, x.2, J) r M') x → (fun (s : (Int32 × (Nat → Nat → Int32))) => zRun X d 172 31 [some (.ref 73), some (.int v1), some (.int v2), some (.int s.1), none, none] [] (SH, s.2, J) r M') s := zloop_ok (Wh := fun (s : (Int32 × (Nat → Nat → Int32))) => zRun X d 172 31 [some (.ref 73), some (.int v1), some (.int v2), some (.int s.1), none, none] [] (SH, s.2, J) r M') (Wx := fun (x : (Int32 × (Nat → Nat → Int32))) => zRun X d 172 142 [none, none, none, none, none, none] [] (SH, x.2, J) r M') (fun s y h w => by
  unfold f172_countSquare_L31 at h
  refine zr_steps 3 (36, [some (.ref 73), some (.int v1), some (.int v2), some (.int s.1), none, none], [.int (s.2 73 9), .int s.1], (SH, s.2, J)) rfl ?_
  refine zr_one (if (s.2 73 9) ≤ s.1 then zN 142 [some (.ref 73), some (.int v1), some (.int v2), some (.int s.1), none, none] [] (SH, s.2, J) else zN 39 [some (.ref 73), some (.int v1), some (.int v2), some (.int s.1), none, none] [] (SH, s.2, J)) rfl (zR_if (fun hc42 => zR_go ?_) (fun hc42 => zR_go ?_))
  · rw [if_pos hc42] at h
    have he := Option.some.inj h
    subst he
    exact zr_hdv rfl rfl (show zRun X d 172 142 [none, none, none, none, none, none] [] (SH, s.2, J) r M' from w)
  · rw [if_neg hc42] at h
    refine zr_steps 7 (49, [some (.ref 73), some (.int v1), some (.int v2), some (.int s.1), none, none], [.int ((8 * v1) + s.1), .ref 97], (SH, s.2, J)) rfl ?_
    obtain ⟨hc24, h⟩ := zbifo h
    refine zr_one (bif zin ((8 * v1) + s.1) 32 then zN 50 [some (.ref 73), some (.int v1), some (.int v2), some (.int s.1), none, none] [.int (s.2 97 ((8 * v1) + s.1).toNatClampNeg)] (SH, s.2, J) else none) rfl (zR_bif hc24 (zR_go ?_))
    refine zr_steps 4 (57, [some (.ref 73), some (.int v1), some (.int v2), some (.int s.1), some (.int (s.2 97 ((8 * v1) + s.1).toNatClampNeg)), none], [.int (s.2 73 17), .int v2], (SH, s.2, J)) rfl ?_
    refine zr_one (if (s.2 73 17) ≤ v2 then zN 64 [some (.ref 73), some (.int v1), some (.int v2), some (.int s.1), some (.int (s.2 97 ((8 * v1) + s.1).toNatClampNeg)), none] [] (SH, s.2, J) else zN 60 [some (.ref 73), some (.int v1), some (.int v2), some (.int s.1), some (.int (s.2 97 ((8 * v1) + s.1).toNatClampNeg)), none] [] (SH, s.2, J)) rfl (zR_if (fun hc41 => zR_go ?_) (fun hc41 => zR_go ?_))
    · rw [if_pos hc41] at h
      refine zr_steps 5 (72, [some (.ref 73), some (.int v1), some (.int v2), some (.int s.1), some (.int (s.2 97 ((8 * v1) + s.1).toNatClampNeg)), some (.int (v2 - (s.2 73 17)))], [], (SH, s.2, J)) rfl ?_
      obtain ⟨s29, ho30, h⟩ := zbind h
      refine zr_hdr (ls2 := [some (.ref 73), some (.int v1), some (.int v2), some (.int s.1), some (.int (s.2 97 ((8 * v1) + s.1).toNatClampNeg)), some (.int (v2 - (s.2 73 17)))]) rfl rfl ?_
      refine ok_f172_countSquare_L72 (by omega) v1 v2 s.1 5000 ((s.2 97 ((8 * v1) + s.1).toNatClampNeg), (v2 - (s.2 73 17))) s29 ho30 ?_
      show zRun X d 172 125 [some (.ref 73), some (.int v1), some (.int v2), some (.int s.1), some (.int s29.1), none] [] (SH, s.2, J) _ _
      refine zr_steps 4 (131, [some (.ref 73), some (.int v1), some (.int v2), some (.int s.1), some (.int s29.1), none], [.int v1, .ref 103, .int v1, .ref 103], (SH, s.2, J)) rfl ?_
      obtain ⟨hc31, h⟩ := zbifo h
      refine zr_one (bif zin v1 4 then zN 132 [some (.ref 73), some (.int v1), some (.int v2), some (.int s.1), some (.int s29.1), none] [.int (s.2 103 v1.toNatClampNeg), .int v1, .ref 103] (SH, s.2, J) else none) rfl (zR_bif hc31 (zR_go ?_))
      refine zr_steps 2 (135, [some (.ref 73), some (.int v1), some (.int v2), some (.int s.1), some (.int s29.1), none], [.int ((s.2 103 v1.toNatClampNeg) + s29.1), .int v1, .ref 103], (SH, s.2, J)) rfl ?_
      obtain ⟨hc32, h⟩ := zbifo h
      refine zr_one (bif zin v1 4 then zN 136 [some (.ref 73), some (.int v1), some (.int v2), some (.int s.1), some (.int s29.1), none] [] (SH, (zu s.2 103 v1.toNatClampNeg ((s.2 103 v1.toNatClampNeg) + s29.1)), J) else none) rfl (zR_bif hc32 (zR_go ?_))
      refine zr_steps 2 (31, [some (.ref 73), some (.int v1), some (.int v2), some (.int (s.1 + 1)), some (.int s29.1), none], [], (SH, (zu s.2 103 v1.toNatClampNeg ((s.2 103 v1.toNatClampNeg) + s29.1)), J)) rfl ?_
      have he := Option.some.inj h
      subst he
      exact zr_hdr rfl rfl (show zRun X d 172 31 [some (.ref 73), some (.int v1), some (.int v2), some (.int (s.1 + 1)), none, none] [] (SH, (zu s.2 103 v1.toNatClampNeg ((s.2 103 v1.toNatClampNeg) + s29.1)), J) r M' from w)
    · rw [if_neg hc41] at h
      refine zr_steps 3 (72, [some (.ref 73), some (.int v1), some (.int v2), some (.int s.1), some (.int (s.2 97 ((8 * v1) + s.1).toNatClampNeg)), some (.int 0)], [], (SH, s.2, J)) rfl ?_
      obtain ⟨s37, ho38, h⟩ := zbind h
      refine zr_hdr (ls2 := [some (.ref 73), some (.int v1), some (.int v2), some (.int s.1), some (.int (s.2 97 ((8 * v1) + s.1).toNatClampNeg)), some (.int 0)]) rfl rfl ?_
      refine ok_f172_countSquare_L72 (by omega) v1 v2 s.1 5000 ((s.2 97 ((8 * v1) + s.1).toNatClampNeg), (0 : Int32)) s37 ho38 ?_
      show zRun X d 172 125 [some (.ref 73), some (.int v1), some (.int v2), some (.int s.1), some (.int s37.1), none] [] (SH, s.2, J) _ _
      refine zr_steps 4 (131, [some (.ref 73), some (.int v1), some (.int v2), some (.int s.1), some (.int s37.1), none], [.int v1, .ref 103, .int v1, .ref 103], (SH, s.2, J)) rfl ?_
      obtain ⟨hc39, h⟩ := zbifo h
      refine zr_one (bif zin v1 4 then zN 132 [some (.ref 73), some (.int v1), some (.int v2), some (.int s.1), some (.int s37.1), none] [.int (s.2 103 v1.toNatClampNeg), .int v1, .ref 103] (SH, s.2, J) else none) rfl (zR_bif hc39 (zR_go ?_))
      refine zr_steps 2 (135, [some (.ref 73), some (.int v1), some (.int v2), some (.int s.1), some (.int s37.1), none], [.int ((s.2 103 v1.toNatClampNeg) + s37.1), .int v1, .ref 103], (SH, s.2, J)) rfl ?_
      obtain ⟨hc40, h⟩ := zbifo h
      refine zr_one (bif zin v1 4 then zN 136 [some (.ref 73), some (.int v1), some (.int v2), some (.int s.1), some (.int s37.1), none] [] (SH, (zu s.2 103 v1.toNatClampNeg ((s.2 103 v1.toNatClampNeg) + s37.1)), J) else none) rfl (zR_bif hc40 (zR_go ?_))
      refine zr_steps 2 (31, [some (.ref 73), some (.int v1), some (.int v2), some (.int (s.1 + 1)), some (.int s37.1), none], [], (SH, (zu s.2 103 v1.toNatClampNeg ((s.2 103 v1.toNatClampNeg) + s37.1)), J)) rfl ?_
      have he := Option.some.inj h
      subst he
      exact zr_hdr rfl rfl (show zRun X d 172 31 [some (.ref 73), some (.int v1), some (.int v2), some (.int (s.1 + 1)), none, none] [] (SH, (zu s.2 103 v1.toNatClampNeg ((s.2 103 v1.toNatClampNeg) + s37.1)), J) r M' from w))
theorem ok_f172_countSquare_L72 {X : zX} {d : Nat} {r : Option Value} {M' : zM} (hd : 0 ≤ d) (v1 : Int32) (v2 : Int32) (v3 : Int32) {I : (Nat → Nat → Int32)} {J : (Nat → Nat → Int64)} : ∀ (n : Nat) (s x : (Int32 × Int32)), zloop (f172_countSquare_L72 v1 v2 v3 I) n s = some x → (fun (x : (Int32 × Int32)) => zRun X d 172 125 [some (.ref 73), some (.int v1), some (.int v2), some (.int v3), some (.int x.1), none] [] (SH, I, J) r M') x → (fun (s : (Int32 × Int32)) => zRun X d 172 72 [some (.ref 73), some (.int v1), some (.int v2), some (.int v3), some (.int s.1), some (.int s.2)] [] (SH, I, J) r M') s := zloop_ok (Wh := fun (s : (Int32 × Int32)) => zRun X d 172 72 [some (.ref 73), some (.int v1), some (.int v2), some (.int v3), some (.int s.1), some (.int s.2)] [] (SH, I, J) r M') (Wx := fun (x : (Int32 × Int32)) => zRun X d 172 125 [some (.ref 73), some (.int v1), some (.int v2), some (.int v3), some (.int x.1), none] [] (SH, I, J) r M') (fun s y h w => by
  unfold f172_countSquare_L72 at h
  refine zr_steps 2 (75, [some (.ref 73), some (.int v1), some (.int v2), some (.int v3), some (.int s.1), some (.int s.2)], [.int v2, .int s.2], (SH, I, J)) rfl ?_
  refine zr_one (if v2 ≤ s.2 then zN 125 [some (.ref 73), some (.int v1), some (.int v2), some (.int v3), some (.int s.1), some (.int s.2)] [] (SH, I, J) else zN 78 [some (.ref 73), some (.int v1), some (.int v2), some (.int v3), some (.int s.1), some (.int s.2)] [] (SH, I, J)) rfl (zR_if (fun hc50 => zR_go ?_) (fun hc50 => zR_go ?_))
  · rw [if_pos hc50] at h
    have he := Option.some.inj h
    subst he
    exact zr_hdr rfl rfl (show zRun X d 172 125 [some (.ref 73), some (.int v1), some (.int v2), some (.int v3), some (.int s.1), none] [] (SH, I, J) r M' from w)
  · rw [if_neg hc50] at h
    refine zr_steps 11 (94, [some (.ref 73), some (.int v1), some (.int v2), some (.int v3), some (.int s.1), some (.int s.2)], [.int (((32 * s.2) + (8 * v1)) + v3), .ref 100], (SH, I, J)) rfl ?_
    obtain ⟨hc47, h⟩ := zbifo h
    refine zr_one (bif zin (((32 * s.2) + (8 * v1)) + v3) 1952 then zN 95 [some (.ref 73), some (.int v1), some (.int v2), some (.int v3), some (.int s.1), some (.int s.2)] [.int (I 100 (((32 * s.2) + (8 * v1)) + v3).toNatClampNeg)] (SH, I, J) else none) rfl (zR_bif hc47 (zR_go ?_))
    refine zr_steps 1 (97, [some (.ref 73), some (.int v1), some (.int v2), some (.int v3), some (.int s.1), some (.int s.2)], [.int s.1, .int (I 100 (((32 * s.2) + (8 * v1)) + v3).toNatClampNeg)], (SH, I, J)) rfl ?_
    refine zr_one (if s.1 ≤ (I 100 (((32 * s.2) + (8 * v1)) + v3).toNatClampNeg) then zN 119 [some (.ref 73), some (.int v1), some (.int v2), some (.int v3), some (.int s.1), some (.int s.2)] [] (SH, I, J) else zN 100 [some (.ref 73), some (.int v1), some (.int v2), some (.int v3), some (.int s.1), some (.int s.2)] [] (SH, I, J)) rfl (zR_if (fun hc49 => zR_go ?_) (fun hc49 => zR_go ?_))
    · rw [if_pos hc49] at h
      refine zr_steps 2 (72, [some (.ref 73), some (.int v1), some (.int v2), some (.int v3), some (.int s.1), some (.int (s.2 + 1))], [], (SH, I, J)) rfl ?_
      have he := Option.some.inj h
      subst he
      exact zr_hdr rfl rfl (show zRun X d 172 72 [some (.ref 73), some (.int v1), some (.int v2), some (.int v3), some (.int s.1), some (.int (s.2 + 1))] [] (SH, I, J) r M' from w)
    · rw [if_neg hc49] at h
      refine zr_steps 11 (116, [some (.ref 73), some (.int v1), some (.int v2), some (.int v3), some (.int s.1), some (.int s.2)], [.int (((32 * s.2) + (8 * v1)) + v3), .ref 100], (SH, I, J)) rfl ?_
      obtain ⟨hc48, h⟩ := zbifo h
      refine zr_one (bif zin (((32 * s.2) + (8 * v1)) + v3) 1952 then zN 117 [some (.ref 73), some (.int v1), some (.int v2), some (.int v3), some (.int s.1), some (.int s.2)] [.int (I 100 (((32 * s.2) + (8 * v1)) + v3).toNatClampNeg)] (SH, I, J) else none) rfl (zR_bif hc48 (zR_go ?_))
      refine zr_steps 3 (72, [some (.ref 73), some (.int v1), some (.int v2), some (.int v3), some (.int (I 100 (((32 * s.2) + (8 * v1)) + v3).toNatClampNeg)), some (.int (s.2 + 1))], [], (SH, I, J)) rfl ?_
      have he := Option.some.inj h
      subst he
      exact zr_hdr rfl rfl (show zRun X d 172 72 [some (.ref 73), some (.int v1), some (.int v2), some (.int v3), some (.int (I 100 (((32 * s.2) + (8 * v1)) + v3).toNatClampNeg)), some (.int (s.2 + 1))] [] (SH, I, J) r M' from w))
theorem ok_f172_countSquare_L72 {X : zX} {d : Nat} {r : Option Value} {M' : zM} (hd : 0 ≤ d) (v1 : Int32) (v2 : Int32) (v3 : Int32) {I : (Nat → Nat → Int32)} {J : (Nat → Nat → Int64)} : ∀ (n : Nat) (s x : (Int32 × Int32)), zloop (f172_countSquare_L72 v1 v2 v3 I) n s = some x → (fun (x : (Int32 × Int32)) => zRun X d 172 125 [some (.ref 73), some (.int v1), some (.int v2), some (.int v3), some (.int x.1), none] [] (SH, I, J) r M') x → (fun (s : (Int32 × Int32)) => zRun X d 172 72 [some (.ref 73), some (.int v1), some (.int v2), some (.int v3), some (.int s.1), some (.int s.2)] [] (SH, I, J) r M') s := zloop_ok (Wh := fun (s : (Int32 × Int32)) => zRun X d 172 72 [some (.ref 73), some (.int v1), some (.int v2), some (.int v3), some (.int s.1), some (.int s.2)] [] (SH, I, J) r M') (Wx := fun (x : (Int32 × Int32)) => zRun X d 172 125 [some (.ref 73), some (.int v1), some (.int v2), some (.int v3), some (.int x.1), none] [] (SH, I, J) r M') (fun s y h w => by
  unfold f172_countSquare_L72 at h
  refine zr_steps 2 (75, [some (.ref 73), some (.int v1), some (.int v2), some (.int v3), some (.int s.1), some (.int s.2)], [.int v2, .int s.2], (SH, I, J)) rfl ?_
  refine zr_one (if v2 ≤ s.2 then zN 125 [some (.ref 73), some (.int v1), some (.int v2), some (.int v3), some (.int s.1), some (.int s.2)] [] (SH, I, J) else zN 78 [some (.ref 73), some (.int v1), some (.int v2), some (.int v3), some (.int s.1), some (.int s.2)] [] (SH, I, J)) rfl (zR_if (fun hc58 => zR_go ?_) (fun hc58 => zR_go ?_))
  · rw [if_pos hc58] at h
    have he := Option.some.inj h
    subst he
    exact zr_hdr rfl rfl (show zRun X d 172 125 [some (.ref 73), some (.int v1), some (.int v2), some (.int v3), some (.int s.1), none] [] (SH, I, J) r M' from w)
  · rw [if_neg hc58] at h
    refine zr_steps 11 (94, [some (.ref 73), some (.int v1), some (.int v2), some (.int v3), some (.int s.1), some (.int s.2)], [.int (((32 * s.2) + (8 * v1)) + v3), .ref 100], (SH, I, J)) rfl ?_
    obtain ⟨hc55, h⟩ := zbifo h
    refine zr_one (bif zin (((32 * s.2) + (8 * v1)) + v3) 1952 then zN 95 [some (.ref 73), some (.int v1), some (.int v2), some (.int v3), some (.int s.1), some (.int s.2)] [.int (I 100 (((32 * s.2) + (8 * v1)) + v3).toNatClampNeg)] (SH, I, J) else none) rfl (zR_bif hc55 (zR_go ?_))
    refine zr_steps 1 (97, [some (.ref 73), some (.int v1), some (.int v2), some (.int v3), some (.int s.1), some (.int s.2)], [.int s.1, .int (I 100 (((32 * s.2) + (8 * v1)) + v3).toNatClampNeg)], (SH, I, J)) rfl ?_
    refine zr_one (if s.1 ≤ (I 100 (((32 * s.2) + (8 * v1)) + v3).toNatClampNeg) then zN 119 [some (.ref 73), some (.int v1), some (.int v2), some (.int v3), some (.int s.1), some (.int s.2)] [] (SH, I, J) else zN 100 [some (.ref 73), some (.int v1), some (.int v2), some (.int v3), some (.int s.1), some (.int s.2)] [] (SH, I, J)) rfl (zR_if (fun hc57 => zR_go ?_) (fun hc57 => zR_go ?_))
    · rw [if_pos hc57] at h
      refine zr_steps 2 (72, [some (.ref 73), some (.int v1), some (.int v2), some (.int v3), some (.int s.1), some (.int (s.2 + 1))], [], (SH, I, J)) rfl ?_
      have he := Option.some.inj h
      subst he
      exact zr_hdr rfl rfl (show zRun X d 172 72 [some (.ref 73), some (.int v1), some (.int v2), some (.int v3), some (.int s.1), some (.int (s.2 + 1))] [] (SH, I, J) r M' from w)
    · rw [if_neg hc57] at h
      refine zr_steps 11 (116, [some (.ref 73), some (.int v1), some (.int v2), some (.int v3), some (.int s.1), some (.int s.2)], [.int (((32 * s.2) + (8 * v1)) + v3), .ref 100], (SH, I, J)) rfl ?_
      obtain ⟨hc56, h⟩ := zbifo h
      refine zr_one (bif zin (((32 * s.2) + (8 * v1)) + v3) 1952 then zN 117 [some (.ref 73), some (.int v1), some (.int v2), some (.int v3), some (.int s.1), some (.int s.2)] [.int (I 100 (((32 * s.2) + (8 * v1)) + v3).toNatClampNeg)] (SH, I, J) else none) rfl (zR_bif hc56 (zR_go ?_))
      refine zr_steps 3 (72, [some (.ref 73), some (.int v1), some (.int v2), some (.int v3), some (.int (I 100 (((32 * s.2) + (8 * v1)) + v3).toNatClampNeg)), some (.int (s.2 + 1))], [], (SH, I, J)) rfl ?_
      have he := Option.some.inj h
      subst he
      exact zr_hdr rfl rfl (show zRun X d 172 72 [some (.ref 73), some (.int v1), some (.int v2), some (.int v3), some (.int (I 100 (((32 * s.2) + (8 * v1)) + v3).toNatClampNeg)), some (.int (s.2 + 1))] [] (SH, I, J) r M' from w))
theorem ok_f172_countSquare_L31 {X : zX} {d : Nat} {r : Option Value} {M' : zM} (hd : 0 ≤ d) (v1 : Int32) (v2 : Int32) {J : (Nat → Nat → Int64)} : ∀ (n : Nat) (s x : (Int32 × (Nat → Nat → Int32))), zloop (f172_countSquare_L31 v1 v2) n s = some x → (fun (x : (Int32 × (Nat → Nat → Int32))) => zRun X d 172 142 [none, none, none, none, none, none] [] (SH, x.2, J) r M') x → (fun (s : (Int32 × (Nat → Nat → Int32))) => zRun X d 172 31 [some (.ref 73), some (.int v1), some (.int v2), some (.int s.1), none, none] [] (SH, s.2, J) r M') s := zloop_ok (Wh := fun (s : (Int32 × (Nat → Nat → Int32))) => zRun X d 172 31 [some (.ref 73), some (.int v1), some (.int v2), some (.int s.1), none, none] [] (SH, s.2, J) r M') (Wx := fun (x : (Int32 × (Nat → Nat → Int32))) => zRun X d 172 142 [none, none, none, none, none, none] [] (SH, x.2, J) r M') (fun s y h w => by
  unfold f172_countSquare_L31 at h
  refine zr_steps 3 (36, [some (.ref 73), some (.int v1), some (.int v2), some (.int s.1), none, none], [.int (s.2 73 9), .int s.1], (SH, s.2, J)) rfl ?_
  refine zr_one (if (s.2 73 9) ≤ s.1 then zN 142 [some (.ref 73), some (.int v1), some (.int v2), some (.int s.1), none, none] [] (SH, s.2, J) else zN 39 [some (.ref 73), some (.int v1), some (.int v2), some (.int s.1), none, none] [] (SH, s.2, J)) rfl (zR_if (fun hc64 => zR_go ?_) (fun hc64 => zR_go ?_))
  · rw [if_pos hc64] at h
    have he := Option.some.inj h
    subst he
    exact zr_hdv rfl rfl (show zRun X d 172 142 [none, none, none, none, none, none] [] (SH, s.2, J) r M' from w)
  · rw [if_neg hc64] at h
    refine zr_steps 7 (49, [some (.ref 73), some (.int v1), some (.int v2), some (.int s.1), none, none], [.int ((8 * v1) + s.1), .ref 97], (SH, s.2, J)) rfl ?_
    obtain ⟨hc46, h⟩ := zbifo h
    refine zr_one (bif zin ((8 * v1) + s.1) 32 then zN 50 [some (.ref 73), some (.int v1), some (.int v2), some (.int s.1), none, none] [.int (s.2 97 ((8 * v1) + s.1).toNatClampNeg)] (SH, s.2, J) else none) rfl (zR_bif hc46 (zR_go ?_))
    refine zr_steps 4 (57, [some (.ref 73), some (.int v1), some (.int v2), some (.int s.1), some (.int (s.2 97 ((8 * v1) + s.1).toNatClampNeg)), none], [.int (s.2 73 17), .int v2], (SH, s.2, J)) rfl ?_
    refine zr_one (if (s.2 73 17) ≤ v2 then zN 64 [some (.ref 73), some (.int v1), some (.int v2), some (.int s.1), some (.int (s.2 97 ((8 * v1) + s.1).toNatClampNeg)), none] [] (SH, s.2, J) else zN 60 [some (.ref 73), some (.int v1), some (.int v2), some (.int s.1), some (.int (s.2 97 ((8 * v1) + s.1).toNatClampNeg)), none] [] (SH, s.2, J)) rfl (zR_if (fun hc63 => zR_go ?_) (fun hc63 => zR_go ?_))
    · rw [if_pos hc63] at h
      refine zr_steps 5 (72, [some (.ref 73), some (.int v1), some (.int v2), some (.int s.1), some (.int (s.2 97 ((8 * v1) + s.1).toNatClampNeg)), some (.int (v2 - (s.2 73 17)))], [], (SH, s.2, J)) rfl ?_
      obtain ⟨s51, ho52, h⟩ := zbind h
      refine zr_hdr (ls2 := [some (.ref 73), some (.int v1), some (.int v2), some (.int s.1), some (.int (s.2 97 ((8 * v1) + s.1).toNatClampNeg)), some (.int (v2 - (s.2 73 17)))]) rfl rfl ?_
      refine ok_f172_countSquare_L72 (by omega) v1 v2 s.1 5000 ((s.2 97 ((8 * v1) + s.1).toNatClampNeg), (v2 - (s.2 73 17))) s51 ho52 ?_
      show zRun X d 172 125 [some (.ref 73), some (.int v1), some (.int v2), some (.int s.1), some (.int s51.1), none] [] (SH, s.2, J) _ _
      refine zr_steps 4 (131, [some (.ref 73), some (.int v1), some (.int v2), some (.int s.1), some (.int s51.1), none], [.int v1, .ref 103, .int v1, .ref 103], (SH, s.2, J)) rfl ?_
      obtain ⟨hc53, h⟩ := zbifo h
      refine zr_one (bif zin v1 4 then zN 132 [some (.ref 73), some (.int v1), some (.int v2), some (.int s.1), some (.int s51.1), none] [.int (s.2 103 v1.toNatClampNeg), .int v1, .ref 103] (SH, s.2, J) else none) rfl (zR_bif hc53 (zR_go ?_))
      refine zr_steps 2 (135, [some (.ref 73), some (.int v1), some (.int v2), some (.int s.1), some (.int s51.1), none], [.int ((s.2 103 v1.toNatClampNeg) + s51.1), .int v1, .ref 103], (SH, s.2, J)) rfl ?_
      obtain ⟨hc54, h⟩ := zbifo h
      refine zr_one (bif zin v1 4 then zN 136 [some (.ref 73), some (.int v1), some (.int v2), some (.int s.1), some (.int s51.1), none] [] (SH, (zu s.2 103 v1.toNatClampNeg ((s.2 103 v1.toNatClampNeg) + s51.1)), J) else none) rfl (zR_bif hc54 (zR_go ?_))
      refine zr_steps 2 (31, [some (.ref 73), some (.int v1), some (.int v2), some (.int (s.1 + 1)), some (.int s51.1), none], [], (SH, (zu s.2 103 v1.toNatClampNeg ((s.2 103 v1.toNatClampNeg) + s51.1)), J)) rfl ?_
      have he := Option.some.inj h
      subst he
      exact zr_hdr rfl rfl (show zRun X d 172 31 [some (.ref 73), some (.int v1), some (.int v2), some (.int (s.1 + 1)), none, none] [] (SH, (zu s.2 103 v1.toNatClampNeg ((s.2 103 v1.toNatClampNeg) + s51.1)), J) r M' from w)
    · rw [if_neg hc63] at h
      refine zr_steps 3 (72, [some (.ref 73), some (.int v1), some (.int v2), some (.int s.1), some (.int (s.2 97 ((8 * v1) + s.1).toNatClampNeg)), some (.int 0)], [], (SH, s.2, J)) rfl ?_
      obtain ⟨s59, ho60, h⟩ := zbind h
      refine zr_hdr (ls2 := [some (.ref 73), some (.int v1), some (.int v2), some (.int s.1), some (.int (s.2 97 ((8 * v1) + s.1).toNatClampNeg)), some (.int 0)]) rfl rfl ?_
      refine ok_f172_countSquare_L72 (by omega) v1 v2 s.1 5000 ((s.2 97 ((8 * v1) + s.1).toNatClampNeg), (0 : Int32)) s59 ho60 ?_
      show zRun X d 172 125 [some (.ref 73), some (.int v1), some (.int v2), some (.int s.1), some (.int s59.1), none] [] (SH, s.2, J) _ _
      refine zr_steps 4 (131, [some (.ref 73), some (.int v1), some (.int v2), some (.int s.1), some (.int s59.1), none], [.int v1, .ref 103, .int v1, .ref 103], (SH, s.2, J)) rfl ?_
      obtain ⟨hc61, h⟩ := zbifo h
      refine zr_one (bif zin v1 4 then zN 132 [some (.ref 73), some (.int v1), some (.int v2), some (.int s.1), some (.int s59.1), none] [.int (s.2 103 v1.toNatClampNeg), .int v1, .ref 103] (SH, s.2, J) else none) rfl (zR_bif hc61 (zR_go ?_))
      refine zr_steps 2 (135, [some (.ref 73), some (.int v1), some (.int v2), some (.int s.1), some (.int s59.1), none], [.int ((s.2 103 v1.toNatClampNeg) + s59.1), .int v1, .ref 103], (SH, s.2, J)) rfl ?_
      obtain ⟨hc62, h⟩ := zbifo h
      refine zr_one (bif zin v1 4 then zN 136 [some (.ref 73), some (.int v1), some (.int v2), some (.int s.1), some (.int s59.1), none] [] (SH, (zu s.2 103 v1.toNatClampNeg ((s.2 103 v1.toNatClampNeg) + s59.1)), J) else none) rfl (zR_bif hc62 (zR_go ?_))
      refine zr_steps 2 (31, [some (.ref 73), some (.int v1), some (.int v2), some (.int (s.1 + 1)), some (.int s59.1), none], [], (SH, (zu s.2 103 v1.toNatClampNeg ((s.2 103 v1.toNatClampNeg) + s59.1)), J)) rfl ?_
      have he := Option.some.inj h
      subst he
      exact zr_hdr rfl rfl (show zRun X d 172 31 [some (.ref 73), some (.int v1), some (.int v2), some (.int (s.1 + 1)), none, none] [] (SH, (zu s.2 103 v1.toNatClampNeg ((s.2 103 v1.toNatClampNeg) + s59.1)), J) r M' from w))
theorem ok_f172_countSquare {X : zX} {d : Nat} (hd : 0 ≤ d) (v1 : Int32) (v2 : Int32) {I : (Nat → Nat → Int32)} {J : (Nat → Nat → Int64)} (t : (Nat → Nat → Int32)) (h : f172_countSquare v1 v2 I = some t) : zRun X d 172 0 (zent 172 [.ref 73, .int v1, .int v2]) [] (SH, I, J) none (SH, t, J) := by
  unfold f172_countSquare at h
  refine zr_steps 5 (9, [some (.ref 73), some (.int v1), some (.int v2), none, none, none], [.int (I 73 45), .int v1, .ref 103], (SH, I, J)) rfl ?_
  refine zr_one (if (I 73 45) ≤ 0 then zN 27 [some (.ref 73), some (.int v1), some (.int v2), none, none, none] [.int v1, .ref 103] (SH, I, J) else zN 12 [some (.ref 73), some (.int v1), some (.int v2), none, none, none] [.int v1, .ref 103] (SH, I, J)) rfl (zR_if (fun hc68 => zR_go ?_) (fun hc68 => zR_go ?_))
  · rw [if_pos hc68] at h
    refine zr_steps 1 (28, [some (.ref 73), some (.int v1), some (.int v2), none, none, none], [.int 0, .int v1, .ref 103], (SH, I, J)) rfl ?_
    obtain ⟨hc1, h⟩ := zbifo h
    refine zr_one (bif zin v1 4 then zN 29 [some (.ref 73), some (.int v1), some (.int v2), none, none, none] [] (SH, (zu I 103 v1.toNatClampNeg 0), J) else none) rfl (zR_bif hc1 (zR_go ?_))
    refine zr_steps 2 (31, [some (.ref 73), some (.int v1), some (.int v2), some (.int 0), none, none], [], (SH, (zu I 103 v1.toNatClampNeg 0), J)) rfl ?_
    obtain ⟨s21, ho22, h⟩ := zbind h
    refine zr_hdr (ls2 := [some (.ref 73), some (.int v1), some (.int v2), some (.int 0), none, none]) rfl rfl ?_
    refine ok_f172_countSquare_L31 (by omega) v1 v2 5000 ((0 : Int32), (zu I 103 v1.toNatClampNeg 0)) s21 ho22 ?_
    show zRun X d 172 142 [none, none, none, none, none, none] [] (SH, s21.2, J) _ _
    have he := Option.some.inj h
    subst he
    exact zr_one (some (.inr (.inr none))) rfl (zR_ret rfl rfl)
  · rw [if_neg hc68] at h
    refine zr_steps 3 (17, [some (.ref 73), some (.int v1), some (.int v2), none, none, none], [.int (I 73 46), .int v1, .int v1, .ref 103], (SH, I, J)) rfl ?_
    refine zr_one (if v1 = (I 73 46) then zN 20 [some (.ref 73), some (.int v1), some (.int v2), none, none, none] [.int v1, .ref 103] (SH, I, J) else zN 27 [some (.ref 73), some (.int v1), some (.int v2), none, none, none] [.int v1, .ref 103] (SH, I, J)) rfl (zR_if (fun hc67 => zR_go ?_) (fun hc67 => zR_go ?_))
    · rw [if_pos hc67] at h
      refine zr_steps 3 (28, [some (.ref 73), some (.int v1), some (.int v2), none, none, none], [.int (I 73 45), .int v1, .ref 103], (SH, I, J)) rfl ?_
      obtain ⟨hc23, h⟩ := zbifo h
      refine zr_one (bif zin v1 4 then zN 29 [some (.ref 73), some (.int v1), some (.int v2), none, none, none] [] (SH, (zu I 103 v1.toNatClampNeg (I 73 45)), J) else none) rfl (zR_bif hc23 (zR_go ?_))
      refine zr_steps 2 (31, [some (.ref 73), some (.int v1), some (.int v2), some (.int 0), none, none], [], (SH, (zu I 103 v1.toNatClampNeg (I 73 45)), J)) rfl ?_
      obtain ⟨s43, ho44, h⟩ := zbind h
      refine zr_hdr (ls2 := [some (.ref 73), some (.int v1), some (.int v2), some (.int 0), none, none]) rfl rfl ?_
      refine ok_f172_countSquare_L31 (by omega) v1 v2 5000 ((0 : Int32), (zu I 103 v1.toNatClampNeg (I 73 45))) s43 ho44 ?_
      show zRun X d 172 142 [none, none, none, none, none, none] [] (SH, s43.2, J) _ _
      have he := Option.some.inj h
      subst he
      exact zr_one (some (.inr (.inr none))) rfl (zR_ret rfl rfl)
    · rw [if_neg hc67] at h
      refine zr_steps 1 (28, [some (.ref 73), some (.int v1), some (.int v2), none, none, none], [.int 0, .int v1, .ref 103], (SH, I, J)) rfl ?_
      obtain ⟨hc45, h⟩ := zbifo h
      refine zr_one (bif zin v1 4 then zN 29 [some (.ref 73), some (.int v1), some (.int v2), none, none, none] [] (SH, (zu I 103 v1.toNatClampNeg 0), J) else none) rfl (zR_bif hc45 (zR_go ?_))
      refine zr_steps 2 (31, [some (.ref 73), some (.int v1), some (.int v2), some (.int 0), none, none], [], (SH, (zu I 103 v1.toNatClampNeg 0), J)) rfl ?_
      obtain ⟨s65, ho66, h⟩ := zbind h
      refine zr_hdr (ls2 := [some (.ref 73), some (.int v1), some (.int v2), some (.int 0), none, none]) rfl rfl ?_
      refine ok_f172_countSquare_L31 (by omega) v1 v2 5000 ((0 : Int32), (zu I 103 v1.toNatClampNeg 0)) s65 ho66 ?_
      show zRun X d 172 142 [none, none, none, none, none, none] [] (SH, s65.2, J) _ _
      have he := Option.some.inj h
      subst he
      exact zr_one (some (.inr (.inr none))) rfl (zR_ret rfl rfl)
def f173_counts_L2 (v1 : Int32) (s : (Int32 × (Nat → Nat → Int32))) : Option ((Int32 × (Nat → Nat → Int32)) ⊕ (Int32 × (Nat → Nat → Int32))) :=
  if (s.2 73 1) ≤ s.1 then
    some (.inl (s.1, s.2))
  else
    Option.bind (f172_countSquare s.1 v1 s.2) fun t2 =>
    some (.inr ((s.1 + 1), t2))
def f173_counts_L29 (s : (Int32 × (Nat → Nat → Int32))) : Option ((Int32 × (Nat → Nat → Int32)) ⊕ (Int32 × (Nat → Nat → Int32))) :=
  if (s.2 73 1) ≤ s.1 then
    some (.inl (s.1, s.2))
  else
    bif zin s.1 4 then
    bif zin (s.2 73 53) 4 then
    if (s.2 103 s.1.toNatClampNeg) ≤ (s.2 103 (s.2 73 53).toNatClampNeg) then
      some (.inr ((s.1 + 1), s.2))
    else
      some (.inr ((s.1 + 1), (zu s.2 73 53 s.1)))
    else none
    else none
def f173_counts_L70 (I : (Nat → Nat → Int32)) (s : (Int32 × Int32)) : Option ((Int32 × Int32) ⊕ (Int32 × Int32)) :=
  if (I 73 1) ≤ s.2 then
    some (.inl (s.1, s.2))
  else
    if s.2 = (I 73 53) then
      some (.inr (s.1, (s.2 + 1)))
    else
      bif zin s.2 4 then
      if (I 103 s.2.toNatClampNeg) ≤ s.1 then
        some (.inr (s.1, (s.2 + 1)))
      else
        bif zin s.2 4 then
        some (.inr ((I 103 s.2.toNatClampNeg), (s.2 + 1)))
        else none
      else none
def f173_counts (v1 : Int32) (I : (Nat → Nat → Int32)) : Option (Nat → Nat → Int32) :=
  Option.bind (zloop (f173_counts_L2 v1) 5000 ((0 : Int32), I)) fun s4 =>
  Option.bind (zloop f173_counts_L29 5000 ((1 : Int32), (zu s4.2 73 53 0))) fun s10 =>
  Option.bind (zloop (f173_counts_L70 s10.2) 5000 ((0 : Int32), (0 : Int32))) fun s17 =>
  bif zin (s10.2 73 53) 4 then
  bif zin (s10.2 73 53) 4 then
  some (zu (zu s10.2 73 54 ((s10.2 103 (s10.2 73 53).toNatClampNeg) - s17.1)) 73 52 (s10.2 75 (s10.2 73 53).toNatClampNeg))
  else none
  else none
theorem ok_f173_counts_L2 {X : zX} {d : Nat} {r : Option Value} {M' : zM} (hd : 1 ≤ d) (v1 : Int32) {J : (Nat → Nat → Int64)} : ∀ (n : Nat) (s x : (Int32 × (Nat → Nat → Int32))), zloop (f173_counts_L2 v1) n s = some x → (fun (x : (Int32 × (Nat → Nat → Int32))) => zRun X d 173 22 [some (.ref 73), none, none, none] [] (SH, x.2, J) r M') x → (fun (s : (Int32 × (Nat → Nat → Int32))) => zRun X d 173 2 [some (.ref 73), some (.int v1), some (.int s.1), none] [] (SH, s.2, J) r M') s := zloop_ok (Wh := fun (s : (Int32 × (Nat → Nat → Int32))) => zRun X d 173 2 [some (.ref 73), some (.int v1), some (.int s.1), none] [] (SH, s.2, J) r M') (Wx := fun (x : (Int32 × (Nat → Nat → Int32))) => zRun X d 173 22 [some (.ref 73), none, none, none] [] (SH, x.2, J) r M') (fun s y h w => by
  unfold f173_counts_L2 at h
  refine zr_steps 3 (7, [some (.ref 73), some (.int v1), some (.int s.1), none], [.int (s.2 73 1), .int s.1], (SH, s.2, J)) rfl ?_
  refine zr_one (if (s.2 73 1) ≤ s.1 then zN 22 [some (.ref 73), some (.int v1), some (.int s.1), none] [] (SH, s.2, J) else zN 10 [some (.ref 73), some (.int v1), some (.int s.1), none] [] (SH, s.2, J)) rfl (zR_if (fun hc3 => zR_go ?_) (fun hc3 => zR_go ?_))
  · rw [if_pos hc3] at h
    have he := Option.some.inj h
    subst he
    exact zr_hdr rfl rfl (show zRun X d 173 22 [some (.ref 73), none, none, none] [] (SH, s.2, J) r M' from w)
  · rw [if_neg hc3] at h
    refine zr_steps 3 (13, [some (.ref 73), some (.int v1), some (.int s.1), none], [.int v1, .int s.1, .ref 73], (SH, s.2, J)) rfl ?_
    obtain ⟨t2, hc1, h⟩ := zbind h
    refine zr_one (some (.inr (.inl (172, [.ref 73, .int s.1, .int v1], [], 16)))) rfl (zR_call (by omega) rfl (ok_f172_countSquare (by omega) s.1 v1 _ hc1) ?_)
    refine zr_steps 2 (2, [some (.ref 73), some (.int v1), some (.int (s.1 + 1)), none], [], (SH, t2, J)) rfl ?_
    have he := Option.some.inj h
    subst he
    exact zr_hdr rfl rfl (show zRun X d 173 2 [some (.ref 73), some (.int v1), some (.int (s.1 + 1)), none] [] (SH, t2, J) r M' from w))
theorem ok_f173_counts_L29 {X : zX} {d : Nat} {r : Option Value} {M' : zM} (hd : 1 ≤ d) {J : (Nat → Nat → Int64)} : ∀ (n : Nat) (s x : (Int32 × (Nat → Nat → Int32))), zloop f173_counts_L29 n s = some x → (fun (x : (Int32 × (Nat → Nat → Int32))) => zRun X d 173 66 [some (.ref 73), none, none, none] [] (SH, x.2, J) r M') x → (fun (s : (Int32 × (Nat → Nat → Int32))) => zRun X d 173 29 [some (.ref 73), none, some (.int s.1), none] [] (SH, s.2, J) r M') s := zloop_ok (Wh := fun (s : (Int32 × (Nat → Nat → Int32))) => zRun X d 173 29 [some (.ref 73), none, some (.int s.1), none] [] (SH, s.2, J) r M') (Wx := fun (x : (Int32 × (Nat → Nat → Int32))) => zRun X d 173 66 [some (.ref 73), none, none, none] [] (SH, x.2, J) r M') (fun s y h w => by
  unfold f173_counts_L29 at h
  refine zr_steps 3 (34, [some (.ref 73), none, some (.int s.1), none], [.int (s.2 73 1), .int s.1], (SH, s.2, J)) rfl ?_
  refine zr_one (if (s.2 73 1) ≤ s.1 then zN 66 [some (.ref 73), none, some (.int s.1), none] [] (SH, s.2, J) else zN 37 [some (.ref 73), none, some (.int s.1), none] [] (SH, s.2, J)) rfl (zR_if (fun hc9 => zR_go ?_) (fun hc9 => zR_go ?_))
  · rw [if_pos hc9] at h
    have he := Option.some.inj h
    subst he
    exact zr_hdr rfl rfl (show zRun X d 173 66 [some (.ref 73), none, none, none] [] (SH, s.2, J) r M' from w)
  · rw [if_neg hc9] at h
    refine zr_steps 3 (42, [some (.ref 73), none, some (.int s.1), none], [.int s.1, .ref 103], (SH, s.2, J)) rfl ?_
    obtain ⟨hc6, h⟩ := zbifo h
    refine zr_one (bif zin s.1 4 then zN 43 [some (.ref 73), none, some (.int s.1), none] [.int (s.2 103 s.1.toNatClampNeg)] (SH, s.2, J) else none) rfl (zR_bif hc6 (zR_go ?_))
    refine zr_steps 4 (51, [some (.ref 73), none, some (.int s.1), none], [.int (s.2 73 53), .ref 103, .int (s.2 103 s.1.toNatClampNeg)], (SH, s.2, J)) rfl ?_
    obtain ⟨hc7, h⟩ := zbifo h
    refine zr_one (bif zin (s.2 73 53) 4 then zN 52 [some (.ref 73), none, some (.int s.1), none] [.int (s.2 103 (s.2 73 53).toNatClampNeg), .int (s.2 103 s.1.toNatClampNeg)] (SH, s.2, J) else none) rfl (zR_bif hc7 (zR_go ?_))
    refine zr_one (if (s.2 103 s.1.toNatClampNeg) ≤ (s.2 103 (s.2 73 53).toNatClampNeg) then zN 60 [some (.ref 73), none, some (.int s.1), none] [] (SH, s.2, J) else zN 55 [some (.ref 73), none, some (.int s.1), none] [] (SH, s.2, J)) rfl (zR_if (fun hc8 => zR_go ?_) (fun hc8 => zR_go ?_))
    · rw [if_pos hc8] at h
      refine zr_steps 2 (29, [some (.ref 73), none, some (.int (s.1 + 1)), none], [], (SH, s.2, J)) rfl ?_
      have he := Option.some.inj h
      subst he
      exact zr_hdr rfl rfl (show zRun X d 173 29 [some (.ref 73), none, some (.int (s.1 + 1)), none] [] (SH, s.2, J) r M' from w)
    · rw [if_neg hc8] at h
      refine zr_steps 5 (29, [some (.ref 73), none, some (.int (s.1 + 1)), none], [], (SH, (zu s.2 73 53 s.1), J)) rfl ?_
      have he := Option.some.inj h
      subst he
      exact zr_hdr rfl rfl (show zRun X d 173 29 [some (.ref 73), none, some (.int (s.1 + 1)), none] [] (SH, (zu s.2 73 53 s.1), J) r M' from w))
theorem ok_f173_counts_L70 {X : zX} {d : Nat} {r : Option Value} {M' : zM} (hd : 1 ≤ d) {I : (Nat → Nat → Int32)} {J : (Nat → Nat → Int64)} : ∀ (n : Nat) (s x : (Int32 × Int32)), zloop (f173_counts_L70 I) n s = some x → (fun (x : (Int32 × Int32)) => zRun X d 173 109 [some (.ref 73), none, some (.int x.1), none] [] (SH, I, J) r M') x → (fun (s : (Int32 × Int32)) => zRun X d 173 70 [some (.ref 73), none, some (.int s.1), some (.int s.2)] [] (SH, I, J) r M') s := zloop_ok (Wh := fun (s : (Int32 × Int32)) => zRun X d 173 70 [some (.ref 73), none, some (.int s.1), some (.int s.2)] [] (SH, I, J) r M') (Wx := fun (x : (Int32 × Int32)) => zRun X d 173 109 [some (.ref 73), none, some (.int x.1), none] [] (SH, I, J) r M') (fun s y h w => by
  unfold f173_counts_L70 at h
  refine zr_steps 3 (75, [some (.ref 73), none, some (.int s.1), some (.int s.2)], [.int (I 73 1), .int s.2], (SH, I, J)) rfl ?_
  refine zr_one (if (I 73 1) ≤ s.2 then zN 109 [some (.ref 73), none, some (.int s.1), some (.int s.2)] [] (SH, I, J) else zN 78 [some (.ref 73), none, some (.int s.1), some (.int s.2)] [] (SH, I, J)) rfl (zR_if (fun hc16 => zR_go ?_) (fun hc16 => zR_go ?_))
  · rw [if_pos hc16] at h
    have he := Option.some.inj h
    subst he
    exact zr_hdr rfl rfl (show zRun X d 173 109 [some (.ref 73), none, some (.int s.1), none] [] (SH, I, J) r M' from w)
  · rw [if_neg hc16] at h
    refine zr_steps 3 (83, [some (.ref 73), none, some (.int s.1), some (.int s.2)], [.int (I 73 53), .int s.2], (SH, I, J)) rfl ?_
    refine zr_one (if s.2 = (I 73 53) then zN 103 [some (.ref 73), none, some (.int s.1), some (.int s.2)] [] (SH, I, J) else zN 86 [some (.ref 73), none, some (.int s.1), some (.int s.2)] [] (SH, I, J)) rfl (zR_if (fun hc15 => zR_go ?_) (fun hc15 => zR_go ?_))
    · rw [if_pos hc15] at h
      refine zr_steps 2 (70, [some (.ref 73), none, some (.int s.1), some (.int (s.2 + 1))], [], (SH, I, J)) rfl ?_
      have he := Option.some.inj h
      subst he
      exact zr_hdr rfl rfl (show zRun X d 173 70 [some (.ref 73), none, some (.int s.1), some (.int (s.2 + 1))] [] (SH, I, J) r M' from w)
    · rw [if_neg hc15] at h
      refine zr_steps 3 (91, [some (.ref 73), none, some (.int s.1), some (.int s.2)], [.int s.2, .ref 103], (SH, I, J)) rfl ?_
      obtain ⟨hc12, h⟩ := zbifo h
      refine zr_one (bif zin s.2 4 then zN 92 [some (.ref 73), none, some (.int s.1), some (.int s.2)] [.int (I 103 s.2.toNatClampNeg)] (SH, I, J) else none) rfl (zR_bif hc12 (zR_go ?_))
      refine zr_steps 1 (93, [some (.ref 73), none, some (.int s.1), some (.int s.2)], [.int s.1, .int (I 103 s.2.toNatClampNeg)], (SH, I, J)) rfl ?_
      refine zr_one (if (I 103 s.2.toNatClampNeg) ≤ s.1 then zN 103 [some (.ref 73), none, some (.int s.1), some (.int s.2)] [] (SH, I, J) else zN 96 [some (.ref 73), none, some (.int s.1), some (.int s.2)] [] (SH, I, J)) rfl (zR_if (fun hc14 => zR_go ?_) (fun hc14 => zR_go ?_))
      · rw [if_pos hc14] at h
        refine zr_steps 2 (70, [some (.ref 73), none, some (.int s.1), some (.int (s.2 + 1))], [], (SH, I, J)) rfl ?_
        have he := Option.some.inj h
        subst he
        exact zr_hdr rfl rfl (show zRun X d 173 70 [some (.ref 73), none, some (.int s.1), some (.int (s.2 + 1))] [] (SH, I, J) r M' from w)
      · rw [if_neg hc14] at h
        refine zr_steps 3 (101, [some (.ref 73), none, some (.int s.1), some (.int s.2)], [.int s.2, .ref 103], (SH, I, J)) rfl ?_
        obtain ⟨hc13, h⟩ := zbifo h
        refine zr_one (bif zin s.2 4 then zN 102 [some (.ref 73), none, some (.int s.1), some (.int s.2)] [.int (I 103 s.2.toNatClampNeg)] (SH, I, J) else none) rfl (zR_bif hc13 (zR_go ?_))
        refine zr_steps 3 (70, [some (.ref 73), none, some (.int (I 103 s.2.toNatClampNeg)), some (.int (s.2 + 1))], [], (SH, I, J)) rfl ?_
        have he := Option.some.inj h
        subst he
        exact zr_hdr rfl rfl (show zRun X d 173 70 [some (.ref 73), none, some (.int (I 103 s.2.toNatClampNeg)), some (.int (s.2 + 1))] [] (SH, I, J) r M' from w))
theorem ok_f173_counts {X : zX} {d : Nat} (hd : 1 ≤ d) (v1 : Int32) {I : (Nat → Nat → Int32)} {J : (Nat → Nat → Int64)} (t : (Nat → Nat → Int32)) (h : f173_counts v1 I = some t) : zRun X d 173 0 (zent 173 [.ref 73, .int v1]) [] (SH, I, J) none (SH, t, J) := by
  unfold f173_counts at h
  refine zr_steps 2 (2, [some (.ref 73), some (.int v1), some (.int 0), none], [], (SH, I, J)) rfl ?_
  obtain ⟨s4, ho5, h⟩ := zbind h
  refine zr_hdr (ls2 := [some (.ref 73), some (.int v1), some (.int 0), none]) rfl rfl ?_
  refine ok_f173_counts_L2 (by omega) v1 5000 ((0 : Int32), I) s4 ho5 ?_
  show zRun X d 173 22 [some (.ref 73), none, none, none] [] (SH, s4.2, J) _ _
  refine zr_steps 5 (29, [some (.ref 73), none, some (.int 1), none], [], (SH, (zu s4.2 73 53 0), J)) rfl ?_
  obtain ⟨s10, ho11, h⟩ := zbind h
  refine zr_hdr (ls2 := [some (.ref 73), none, some (.int 1), none]) rfl rfl ?_
  refine ok_f173_counts_L29 (by omega) 5000 ((1 : Int32), (zu s4.2 73 53 0)) s10 ho11 ?_
  show zRun X d 173 66 [some (.ref 73), none, none, none] [] (SH, s10.2, J) _ _
  refine zr_steps 4 (70, [some (.ref 73), none, some (.int 0), some (.int 0)], [], (SH, s10.2, J)) rfl ?_
  obtain ⟨s17, ho18, h⟩ := zbind h
  refine zr_hdr (ls2 := [some (.ref 73), none, some (.int 0), some (.int 0)]) rfl rfl ?_
  refine ok_f173_counts_L70 (by omega) 5000 ((0 : Int32), (0 : Int32)) s17 ho18 ?_
  show zRun X d 173 109 [some (.ref 73), none, some (.int s17.1), none] [] (SH, s10.2, J) _ _
  refine zr_steps 5 (118, [some (.ref 73), none, some (.int s17.1), none], [.int (s10.2 73 53), .ref 103, .ref 73], (SH, s10.2, J)) rfl ?_
  obtain ⟨hc19, h⟩ := zbifo h
  refine zr_one (bif zin (s10.2 73 53) 4 then zN 119 [some (.ref 73), none, some (.int s17.1), none] [.int (s10.2 103 (s10.2 73 53).toNatClampNeg), .ref 73] (SH, s10.2, J) else none) rfl (zR_bif hc19 (zR_go ?_))
  refine zr_steps 8 (133, [some (.ref 73), none, some (.int s17.1), none], [.int (s10.2 73 53), .ref 75, .ref 73], (SH, (zu s10.2 73 54 ((s10.2 103 (s10.2 73 53).toNatClampNeg) - s17.1)), J)) rfl ?_
  obtain ⟨hc20, h⟩ := zbifo h
  refine zr_one (bif zin (s10.2 73 53) 4 then zN 134 [some (.ref 73), none, some (.int s17.1), none] [.int (s10.2 75 (s10.2 73 53).toNatClampNeg), .ref 73] (SH, (zu s10.2 73 54 ((s10.2 103 (s10.2 73 53).toNatClampNeg) - s17.1)), J) else none) rfl (zR_bif hc20 (zR_go ?_))
  refine zr_steps 1 (137, [some (.ref 73), none, some (.int s17.1), none], [], (SH, (zu (zu s10.2 73 54 ((s10.2 103 (s10.2 73 53).toNatClampNeg) - s17.1)) 73 52 (s10.2 75 (s10.2 73 53).toNatClampNeg)), J)) rfl ?_
  have he := Option.some.inj h
  subst he
  exact zr_one (some (.inr (.inr none))) rfl (zR_ret rfl rfl)
def f171_goTo_L2 (v1 : Int32) (s : (Int32 × (Nat → Nat → Int32))) : Option ((Int32 × (Nat → Nat → Int32)) ⊕ (Int32 × (Nat → Nat → Int32))) :=
  if (32 : Int32) ≤ s.1 then
    some (.inl (s.1, s.2))
  else
    bif zin s.1 32 then
    bif zin s.1 32 then
    some (.inr ((s.1 + 1), (zu (zu s.2 97 s.1.toNatClampNeg 0) 98 s.1.toNatClampNeg 0)))
    else none
    else none
def f171_goTo_L30 (v1 : Int32) (s : (Int32 × (Nat → Nat → Int32))) : Option ((Int32 × (Nat → Nat → Int32)) ⊕ (Int32 × (Nat → Nat → Int32))) :=
  if (4864 : Int32) ≤ s.1 then
    some (.inl (s.1, s.2))
  else
    bif zin s.1 4864 then
    some (.inr ((s.1 + 1), (zu s.2 99 s.1.toNatClampNeg 0)))
    else none
def f171_goTo_L52 (v1 : Int32) (s : (Int32 × (Nat → Nat → Int32))) : Option ((Int32 × (Nat → Nat → Int32)) ⊕ (Int32 × (Nat → Nat → Int32))) :=
  if (s.2 73 9) ≤ s.1 then
    some (.inl (s.1, s.2))
  else
    bif zin s.1 8 then
    bif zin s.1 8 then
    bif zin ((8 * (s.2 82 s.1.toNatClampNeg)) + s.1) 32 then
    some (.inr ((s.1 + 1), (zu s.2 97 ((8 * (s.2 82 s.1.toNatClampNeg)) + s.1).toNatClampNeg (s.2 80 s.1.toNatClampNeg))))
    else none
    else none
    else none
def f171_goTo_L97 (v1 : Int32) (v2 : Int32) (s : (Int32 × (Nat → Nat → Int32))) : Option ((Int32 × (Nat → Nat → Int32)) ⊕ (Int32 × (Nat → Nat → Int32))) :=
  if (s.2 73 1) ≤ s.1 then
    some (.inl (s.1, s.2))
  else
    Option.bind (f166_inSquare s.1 s.2) fun t17 =>
    bif zin ((4 * v2) + s.1) 240 then
    some (.inr ((s.1 + 1), (zu s.2 101 ((4 * v2) + s.1).toNatClampNeg t17)))
    else none
def f171_goTo_L141 (v1 : Int32) (v2 : Int32) (s : (Int32 × (Nat → Nat → Int32))) : Option ((Int32 × (Nat → Nat → Int32)) ⊕ (Int32 × (Nat → Nat → Int32))) :=
  if (32 : Int32) ≤ s.1 then
    some (.inl (s.1, s.2))
  else
    bif zin s.1 32 then
    bif zin ((32 * v2) + s.1) 1952 then
    some (.inr ((s.1 + 1), (zu s.2 100 ((32 * v2) + s.1).toNatClampNeg (s.2 97 s.1.toNatClampNeg))))
    else none
    else none
def f171_goTo_L90 (v1 : Int32) (s : (Int32 × (Nat → Nat → Int32))) : Option ((Int32 × (Nat → Nat → Int32)) ⊕ (Int32 × (Nat → Nat → Int32))) :=
  if v1 ≤ s.1 then
    some (.inl (s.1, s.2))
  else
    Option.bind (zloop (f171_goTo_L97 v1 s.1) 5000 ((0 : Int32), s.2)) fun s20 =>
    Option.bind (f167_arrive s.1 s20.2) fun t23 =>
    Option.bind (f170_go s.1 (v1 - s.1) t23) fun t25 =>
    Option.bind (zloop (f171_goTo_L141 v1 s.1) 5000 ((0 : Int32), t25)) fun s29 =>
    some (.inr ((s.1 + 1), s29.2))
def f171_goTo_L183 (v1 : Int32) (s : (Int32 × (Nat → Nat → Int32))) : Option ((Int32 × (Nat → Nat → Int32)) ⊕ (Int32 × (Nat → Nat → Int32))) :=
  if (32 : Int32) ≤ s.1 then
    some (.inl (s.1, s.2))
  else
    bif zin s.1 32 then
    bif zin ((32 * v1) + s.1) 1952 then
    some (.inr ((s.1 + 1), (zu s.2 100 ((32 * v1) + s.1).toNatClampNeg (s.2 97 s.1.toNatClampNeg))))
    else none
    else none
def f171_goTo (v1 : Int32) (I : (Nat → Nat → Int32)) : Option (Int32 × (Nat → Nat → Int32)) :=
  Option.bind (zloop (f171_goTo_L2 v1) 5000 ((0 : Int32), I)) fun s4 =>
  Option.bind (zloop (f171_goTo_L30 v1) 5000 ((0 : Int32), s4.2)) fun s8 =>
  Option.bind (zloop (f171_goTo_L52 v1) 5000 ((0 : Int32), s8.2)) fun s14 =>
  Option.bind (zloop (f171_goTo_L90 v1) 5000 ((0 : Int32), s14.2)) fun s32 =>
  Option.bind (f167_arrive v1 s32.2) fun t35 =>
  Option.bind (zloop (f171_goTo_L183 v1) 5000 ((0 : Int32), t35)) fun s39 =>
  Option.bind (f173_counts v1 s39.2) fun t42 =>
  some ((t42 73 52), t42)
theorem ok_f171_goTo_L2 {X : zX} {d : Nat} {r : Option Value} {M' : zM} (hd : 5 ≤ d) (v1 : Int32) {J : (Nat → Nat → Int64)} : ∀ (n : Nat) (s x : (Int32 × (Nat → Nat → Int32))), zloop (f171_goTo_L2 v1) n s = some x → (fun (x : (Int32 × (Nat → Nat → Int32))) => zRun X d 171 28 [some (.ref 73), some (.int v1), none, none] [] (SH, x.2, J) r M') x → (fun (s : (Int32 × (Nat → Nat → Int32))) => zRun X d 171 2 [some (.ref 73), some (.int v1), some (.int s.1), none] [] (SH, s.2, J) r M') s := zloop_ok (Wh := fun (s : (Int32 × (Nat → Nat → Int32))) => zRun X d 171 2 [some (.ref 73), some (.int v1), some (.int s.1), none] [] (SH, s.2, J) r M') (Wx := fun (x : (Int32 × (Nat → Nat → Int32))) => zRun X d 171 28 [some (.ref 73), some (.int v1), none, none] [] (SH, x.2, J) r M') (fun s y h w => by
  unfold f171_goTo_L2 at h
  refine zr_steps 2 (5, [some (.ref 73), some (.int v1), some (.int s.1), none], [.int 32, .int s.1], (SH, s.2, J)) rfl ?_
  refine zr_one (if (32 : Int32) ≤ s.1 then zN 28 [some (.ref 73), some (.int v1), some (.int s.1), none] [] (SH, s.2, J) else zN 8 [some (.ref 73), some (.int v1), some (.int s.1), none] [] (SH, s.2, J)) rfl (zR_if (fun hc3 => zR_go ?_) (fun hc3 => zR_go ?_))
  · rw [if_pos hc3] at h
    have he := Option.some.inj h
    subst he
    exact zr_hdr rfl rfl (show zRun X d 171 28 [some (.ref 73), some (.int v1), none, none] [] (SH, s.2, J) r M' from w)
  · rw [if_neg hc3] at h
    refine zr_steps 4 (14, [some (.ref 73), some (.int v1), some (.int s.1), none], [.int 0, .int s.1, .ref 97], (SH, s.2, J)) rfl ?_
    obtain ⟨hc1, h⟩ := zbifo h
    refine zr_one (bif zin s.1 32 then zN 15 [some (.ref 73), some (.int v1), some (.int s.1), none] [] (SH, (zu s.2 97 s.1.toNatClampNeg 0), J) else none) rfl (zR_bif hc1 (zR_go ?_))
    refine zr_steps 4 (21, [some (.ref 73), some (.int v1), some (.int s.1), none], [.int 0, .int s.1, .ref 98], (SH, (zu s.2 97 s.1.toNatClampNeg 0), J)) rfl ?_
    obtain ⟨hc2, h⟩ := zbifo h
    refine zr_one (bif zin s.1 32 then zN 22 [some (.ref 73), some (.int v1), some (.int s.1), none] [] (SH, (zu (zu s.2 97 s.1.toNatClampNeg 0) 98 s.1.toNatClampNeg 0), J) else none) rfl (zR_bif hc2 (zR_go ?_))
    refine zr_steps 2 (2, [some (.ref 73), some (.int v1), some (.int (s.1 + 1)), none], [], (SH, (zu (zu s.2 97 s.1.toNatClampNeg 0) 98 s.1.toNatClampNeg 0), J)) rfl ?_
    have he := Option.some.inj h
    subst he
    exact zr_hdr rfl rfl (show zRun X d 171 2 [some (.ref 73), some (.int v1), some (.int (s.1 + 1)), none] [] (SH, (zu (zu s.2 97 s.1.toNatClampNeg 0) 98 s.1.toNatClampNeg 0), J) r M' from w))
theorem ok_f171_goTo_L30 {X : zX} {d : Nat} {r : Option Value} {M' : zM} (hd : 5 ≤ d) (v1 : Int32) {J : (Nat → Nat → Int64)} : ∀ (n : Nat) (s x : (Int32 × (Nat → Nat → Int32))), zloop (f171_goTo_L30 v1) n s = some x → (fun (x : (Int32 × (Nat → Nat → Int32))) => zRun X d 171 50 [some (.ref 73), some (.int v1), none, none] [] (SH, x.2, J) r M') x → (fun (s : (Int32 × (Nat → Nat → Int32))) => zRun X d 171 30 [some (.ref 73), some (.int v1), some (.int s.1), none] [] (SH, s.2, J) r M') s := zloop_ok (Wh := fun (s : (Int32 × (Nat → Nat → Int32))) => zRun X d 171 30 [some (.ref 73), some (.int v1), some (.int s.1), none] [] (SH, s.2, J) r M') (Wx := fun (x : (Int32 × (Nat → Nat → Int32))) => zRun X d 171 50 [some (.ref 73), some (.int v1), none, none] [] (SH, x.2, J) r M') (fun s y h w => by
  unfold f171_goTo_L30 at h
  refine zr_steps 2 (34, [some (.ref 73), some (.int v1), some (.int s.1), none], [.int 4864, .int s.1], (SH, s.2, J)) rfl ?_
  refine zr_one (if (4864 : Int32) ≤ s.1 then zN 50 [some (.ref 73), some (.int v1), some (.int s.1), none] [] (SH, s.2, J) else zN 37 [some (.ref 73), some (.int v1), some (.int s.1), none] [] (SH, s.2, J)) rfl (zR_if (fun hc7 => zR_go ?_) (fun hc7 => zR_go ?_))
  · rw [if_pos hc7] at h
    have he := Option.some.inj h
    subst he
    exact zr_hdr rfl rfl (show zRun X d 171 50 [some (.ref 73), some (.int v1), none, none] [] (SH, s.2, J) r M' from w)
  · rw [if_neg hc7] at h
    refine zr_steps 4 (43, [some (.ref 73), some (.int v1), some (.int s.1), none], [.int 0, .int s.1, .ref 99], (SH, s.2, J)) rfl ?_
    obtain ⟨hc6, h⟩ := zbifo h
    refine zr_one (bif zin s.1 4864 then zN 44 [some (.ref 73), some (.int v1), some (.int s.1), none] [] (SH, (zu s.2 99 s.1.toNatClampNeg 0), J) else none) rfl (zR_bif hc6 (zR_go ?_))
    refine zr_steps 2 (30, [some (.ref 73), some (.int v1), some (.int (s.1 + 1)), none], [], (SH, (zu s.2 99 s.1.toNatClampNeg 0), J)) rfl ?_
    have he := Option.some.inj h
    subst he
    exact zr_hdr rfl rfl (show zRun X d 171 30 [some (.ref 73), some (.int v1), some (.int (s.1 + 1)), none] [] (SH, (zu s.2 99 s.1.toNatClampNeg 0), J) r M' from w))
theorem ok_f171_goTo_L52 {X : zX} {d : Nat} {r : Option Value} {M' : zM} (hd : 5 ≤ d) (v1 : Int32) {J : (Nat → Nat → Int64)} : ∀ (n : Nat) (s x : (Int32 × (Nat → Nat → Int32))), zloop (f171_goTo_L52 v1) n s = some x → (fun (x : (Int32 × (Nat → Nat → Int32))) => zRun X d 171 88 [some (.ref 73), some (.int v1), none, none] [] (SH, x.2, J) r M') x → (fun (s : (Int32 × (Nat → Nat → Int32))) => zRun X d 171 52 [some (.ref 73), some (.int v1), some (.int s.1), none] [] (SH, s.2, J) r M') s := zloop_ok (Wh := fun (s : (Int32 × (Nat → Nat → Int32))) => zRun X d 171 52 [some (.ref 73), some (.int v1), some (.int s.1), none] [] (SH, s.2, J) r M') (Wx := fun (x : (Int32 × (Nat → Nat → Int32))) => zRun X d 171 88 [some (.ref 73), some (.int v1), none, none] [] (SH, x.2, J) r M') (fun s y h w => by
  unfold f171_goTo_L52 at h
  refine zr_steps 3 (57, [some (.ref 73), some (.int v1), some (.int s.1), none], [.int (s.2 73 9), .int s.1], (SH, s.2, J)) rfl ?_
  refine zr_one (if (s.2 73 9) ≤ s.1 then zN 88 [some (.ref 73), some (.int v1), some (.int s.1), none] [] (SH, s.2, J) else zN 60 [some (.ref 73), some (.int v1), some (.int s.1), none] [] (SH, s.2, J)) rfl (zR_if (fun hc13 => zR_go ?_) (fun hc13 => zR_go ?_))
  · rw [if_pos hc13] at h
    have he := Option.some.inj h
    subst he
    exact zr_hdr rfl rfl (show zRun X d 171 88 [some (.ref 73), some (.int v1), none, none] [] (SH, s.2, J) r M' from w)
  · rw [if_neg hc13] at h
    refine zr_steps 6 (71, [some (.ref 73), some (.int v1), some (.int s.1), none], [.int s.1, .ref 82, .int 8, .ref 97], (SH, s.2, J)) rfl ?_
    obtain ⟨hc10, h⟩ := zbifo h
    refine zr_one (bif zin s.1 8 then zN 72 [some (.ref 73), some (.int v1), some (.int s.1), none] [.int (s.2 82 s.1.toNatClampNeg), .int 8, .ref 97] (SH, s.2, J) else none) rfl (zR_bif hc10 (zR_go ?_))
    refine zr_steps 6 (80, [some (.ref 73), some (.int v1), some (.int s.1), none], [.int s.1, .ref 80, .int ((8 * (s.2 82 s.1.toNatClampNeg)) + s.1), .ref 97], (SH, s.2, J)) rfl ?_
    obtain ⟨hc11, h⟩ := zbifo h
    refine zr_one (bif zin s.1 8 then zN 81 [some (.ref 73), some (.int v1), some (.int s.1), none] [.int (s.2 80 s.1.toNatClampNeg), .int ((8 * (s.2 82 s.1.toNatClampNeg)) + s.1), .ref 97] (SH, s.2, J) else none) rfl (zR_bif hc11 (zR_go ?_))
    obtain ⟨hc12, h⟩ := zbifo h
    refine zr_one (bif zin ((8 * (s.2 82 s.1.toNatClampNeg)) + s.1) 32 then zN 82 [some (.ref 73), some (.int v1), some (.int s.1), none] [] (SH, (zu s.2 97 ((8 * (s.2 82 s.1.toNatClampNeg)) + s.1).toNatClampNeg (s.2 80 s.1.toNatClampNeg)), J) else none) rfl (zR_bif hc12 (zR_go ?_))
    refine zr_steps 2 (52, [some (.ref 73), some (.int v1), some (.int (s.1 + 1)), none], [], (SH, (zu s.2 97 ((8 * (s.2 82 s.1.toNatClampNeg)) + s.1).toNatClampNeg (s.2 80 s.1.toNatClampNeg)), J)) rfl ?_
    have he := Option.some.inj h
    subst he
    exact zr_hdr rfl rfl (show zRun X d 171 52 [some (.ref 73), some (.int v1), some (.int (s.1 + 1)), none] [] (SH, (zu s.2 97 ((8 * (s.2 82 s.1.toNatClampNeg)) + s.1).toNatClampNeg (s.2 80 s.1.toNatClampNeg)), J) r M' from w))
theorem ok_f171_goTo_L97 {X : zX} {d : Nat} {r : Option Value} {M' : zM} (hd : 5 ≤ d) (v1 : Int32) (v2 : Int32) {J : (Nat → Nat → Int64)} : ∀ (n : Nat) (s x : (Int32 × (Nat → Nat → Int32))), zloop (f171_goTo_L97 v1 v2) n s = some x → (fun (x : (Int32 × (Nat → Nat → Int32))) => zRun X d 171 126 [some (.ref 73), some (.int v1), some (.int v2), none] [] (SH, x.2, J) r M') x → (fun (s : (Int32 × (Nat → Nat → Int32))) => zRun X d 171 97 [some (.ref 73), some (.int v1), some (.int v2), some (.int s.1)] [] (SH, s.2, J) r M') s := zloop_ok (Wh := fun (s : (Int32 × (Nat → Nat → Int32))) => zRun X d 171 97 [some (.ref 73), some (.int v1), some (.int v2), some (.int s.1)] [] (SH, s.2, J) r M') (Wx := fun (x : (Int32 × (Nat → Nat → Int32))) => zRun X d 171 126 [some (.ref 73), some (.int v1), some (.int v2), none] [] (SH, x.2, J) r M') (fun s y h w => by
  unfold f171_goTo_L97 at h
  refine zr_steps 3 (102, [some (.ref 73), some (.int v1), some (.int v2), some (.int s.1)], [.int (s.2 73 1), .int s.1], (SH, s.2, J)) rfl ?_
  refine zr_one (if (s.2 73 1) ≤ s.1 then zN 126 [some (.ref 73), some (.int v1), some (.int v2), some (.int s.1)] [] (SH, s.2, J) else zN 105 [some (.ref 73), some (.int v1), some (.int v2), some (.int s.1)] [] (SH, s.2, J)) rfl (zR_if (fun hc19 => zR_go ?_) (fun hc19 => zR_go ?_))
  · rw [if_pos hc19] at h
    have he := Option.some.inj h
    subst he
    exact zr_hdr rfl rfl (show zRun X d 171 126 [some (.ref 73), some (.int v1), some (.int v2), none] [] (SH, s.2, J) r M' from w)
  · rw [if_neg hc19] at h
    refine zr_steps 9 (116, [some (.ref 73), some (.int v1), some (.int v2), some (.int s.1)], [.int s.1, .ref 73, .int ((4 * v2) + s.1), .ref 101], (SH, s.2, J)) rfl ?_
    obtain ⟨t17, hc16, h⟩ := zbind h
    refine zr_one (some (.inr (.inl (166, [.ref 73, .int s.1], [.int ((4 * v2) + s.1), .ref 101], 119)))) rfl (zR_call (by omega) rfl (ok_f166_inSquare (by omega) s.1 _ hc16) ?_)
    obtain ⟨hc18, h⟩ := zbifo h
    refine zr_one (bif zin ((4 * v2) + s.1) 240 then zN 120 [some (.ref 73), some (.int v1), some (.int v2), some (.int s.1)] [] (SH, (zu s.2 101 ((4 * v2) + s.1).toNatClampNeg t17), J) else none) rfl (zR_bif hc18 (zR_go ?_))
    refine zr_steps 2 (97, [some (.ref 73), some (.int v1), some (.int v2), some (.int (s.1 + 1))], [], (SH, (zu s.2 101 ((4 * v2) + s.1).toNatClampNeg t17), J)) rfl ?_
    have he := Option.some.inj h
    subst he
    exact zr_hdr rfl rfl (show zRun X d 171 97 [some (.ref 73), some (.int v1), some (.int v2), some (.int (s.1 + 1))] [] (SH, (zu s.2 101 ((4 * v2) + s.1).toNatClampNeg t17), J) r M' from w))
theorem ok_f171_goTo_L141 {X : zX} {d : Nat} {r : Option Value} {M' : zM} (hd : 5 ≤ d) (v1 : Int32) (v2 : Int32) {J : (Nat → Nat → Int64)} : ∀ (n : Nat) (s x : (Int32 × (Nat → Nat → Int32))), zloop (f171_goTo_L141 v1 v2) n s = some x → (fun (x : (Int32 × (Nat → Nat → Int32))) => zRun X d 171 170 [some (.ref 73), some (.int v1), some (.int v2), none] [] (SH, x.2, J) r M') x → (fun (s : (Int32 × (Nat → Nat → Int32))) => zRun X d 171 141 [some (.ref 73), some (.int v1), some (.int v2), some (.int s.1)] [] (SH, s.2, J) r M') s := zloop_ok (Wh := fun (s : (Int32 × (Nat → Nat → Int32))) => zRun X d 171 141 [some (.ref 73), some (.int v1), some (.int v2), some (.int s.1)] [] (SH, s.2, J) r M') (Wx := fun (x : (Int32 × (Nat → Nat → Int32))) => zRun X d 171 170 [some (.ref 73), some (.int v1), some (.int v2), none] [] (SH, x.2, J) r M') (fun s y h w => by
  unfold f171_goTo_L141 at h
  refine zr_steps 2 (144, [some (.ref 73), some (.int v1), some (.int v2), some (.int s.1)], [.int 32, .int s.1], (SH, s.2, J)) rfl ?_
  refine zr_one (if (32 : Int32) ≤ s.1 then zN 170 [some (.ref 73), some (.int v1), some (.int v2), some (.int s.1)] [] (SH, s.2, J) else zN 147 [some (.ref 73), some (.int v1), some (.int v2), some (.int s.1)] [] (SH, s.2, J)) rfl (zR_if (fun hc28 => zR_go ?_) (fun hc28 => zR_go ?_))
  · rw [if_pos hc28] at h
    have he := Option.some.inj h
    subst he
    exact zr_hdr rfl rfl (show zRun X d 171 170 [some (.ref 73), some (.int v1), some (.int v2), none] [] (SH, s.2, J) r M' from w)
  · rw [if_neg hc28] at h
    refine zr_steps 10 (162, [some (.ref 73), some (.int v1), some (.int v2), some (.int s.1)], [.int s.1, .ref 97, .int ((32 * v2) + s.1), .ref 100], (SH, s.2, J)) rfl ?_
    obtain ⟨hc26, h⟩ := zbifo h
    refine zr_one (bif zin s.1 32 then zN 163 [some (.ref 73), some (.int v1), some (.int v2), some (.int s.1)] [.int (s.2 97 s.1.toNatClampNeg), .int ((32 * v2) + s.1), .ref 100] (SH, s.2, J) else none) rfl (zR_bif hc26 (zR_go ?_))
    obtain ⟨hc27, h⟩ := zbifo h
    refine zr_one (bif zin ((32 * v2) + s.1) 1952 then zN 164 [some (.ref 73), some (.int v1), some (.int v2), some (.int s.1)] [] (SH, (zu s.2 100 ((32 * v2) + s.1).toNatClampNeg (s.2 97 s.1.toNatClampNeg)), J) else none) rfl (zR_bif hc27 (zR_go ?_))
    refine zr_steps 2 (141, [some (.ref 73), some (.int v1), some (.int v2), some (.int (s.1 + 1))], [], (SH, (zu s.2 100 ((32 * v2) + s.1).toNatClampNeg (s.2 97 s.1.toNatClampNeg)), J)) rfl ?_
    have he := Option.some.inj h
    subst he
    exact zr_hdr rfl rfl (show zRun X d 171 141 [some (.ref 73), some (.int v1), some (.int v2), some (.int (s.1 + 1))] [] (SH, (zu s.2 100 ((32 * v2) + s.1).toNatClampNeg (s.2 97 s.1.toNatClampNeg)), J) r M' from w))
theorem ok_f171_goTo_L90 {X : zX} {d : Nat} {r : Option Value} {M' : zM} (hd : 5 ≤ d) (v1 : Int32) {J : (Nat → Nat → Int64)} : ∀ (n : Nat) (s x : (Int32 × (Nat → Nat → Int32))), zloop (f171_goTo_L90 v1) n s = some x → (fun (x : (Int32 × (Nat → Nat → Int32))) => zRun X d 171 176 [some (.ref 73), some (.int v1), none, none] [] (SH, x.2, J) r M') x → (fun (s : (Int32 × (Nat → Nat → Int32))) => zRun X d 171 90 [some (.ref 73), some (.int v1), some (.int s.1), none] [] (SH, s.2, J) r M') s := zloop_ok (Wh := fun (s : (Int32 × (Nat → Nat → Int32))) => zRun X d 171 90 [some (.ref 73), some (.int v1), some (.int s.1), none] [] (SH, s.2, J) r M') (Wx := fun (x : (Int32 × (Nat → Nat → Int32))) => zRun X d 171 176 [some (.ref 73), some (.int v1), none, none] [] (SH, x.2, J) r M') (fun s y h w => by
  unfold f171_goTo_L90 at h
  refine zr_steps 2 (92, [some (.ref 73), some (.int v1), some (.int s.1), none], [.int v1, .int s.1], (SH, s.2, J)) rfl ?_
  refine zr_one (if v1 ≤ s.1 then zN 176 [some (.ref 73), some (.int v1), some (.int s.1), none] [] (SH, s.2, J) else zN 95 [some (.ref 73), some (.int v1), some (.int s.1), none] [] (SH, s.2, J)) rfl (zR_if (fun hc31 => zR_go ?_) (fun hc31 => zR_go ?_))
  · rw [if_pos hc31] at h
    have he := Option.some.inj h
    subst he
    exact zr_hdr rfl rfl (show zRun X d 171 176 [some (.ref 73), some (.int v1), none, none] [] (SH, s.2, J) r M' from w)
  · rw [if_neg hc31] at h
    refine zr_steps 2 (97, [some (.ref 73), some (.int v1), some (.int s.1), some (.int 0)], [], (SH, s.2, J)) rfl ?_
    obtain ⟨s20, ho21, h⟩ := zbind h
    refine zr_hdr (ls2 := [some (.ref 73), some (.int v1), some (.int s.1), some (.int 0)]) rfl rfl ?_
    refine ok_f171_goTo_L97 (by omega) v1 s.1 5000 ((0 : Int32), s.2) s20 ho21 ?_
    show zRun X d 171 126 [some (.ref 73), some (.int v1), some (.int s.1), none] [] (SH, s20.2, J) _ _
    refine zr_steps 2 (128, [some (.ref 73), some (.int v1), some (.int s.1), none], [.int s.1, .ref 73], (SH, s20.2, J)) rfl ?_
    obtain ⟨t23, hc22, h⟩ := zbind h
    refine zr_one (some (.inr (.inl (167, [.ref 73, .int s.1], [], 131)))) rfl (zR_call (by omega) rfl (ok_f167_arrive (by omega) s.1 _ hc22) ?_)
    refine zr_steps 5 (136, [some (.ref 73), some (.int v1), some (.int s.1), none], [.int (v1 - s.1), .int s.1, .ref 73], (SH, t23, J)) rfl ?_
    obtain ⟨t25, hc24, h⟩ := zbind h
    refine zr_one (some (.inr (.inl (170, [.ref 73, .int s.1, .int (v1 - s.1)], [], 139)))) rfl (zR_call (by omega) rfl (ok_f170_go (by omega) s.1 (v1 - s.1) _ hc24) ?_)
    refine zr_steps 2 (141, [some (.ref 73), some (.int v1), some (.int s.1), some (.int 0)], [], (SH, t25, J)) rfl ?_
    obtain ⟨s29, ho30, h⟩ := zbind h
    refine zr_hdr (ls2 := [some (.ref 73), some (.int v1), some (.int s.1), some (.int 0)]) rfl rfl ?_
    refine ok_f171_goTo_L141 (by omega) v1 s.1 5000 ((0 : Int32), t25) s29 ho30 ?_
    show zRun X d 171 170 [some (.ref 73), some (.int v1), some (.int s.1), none] [] (SH, s29.2, J) _ _
    refine zr_steps 2 (90, [some (.ref 73), some (.int v1), some (.int (s.1 + 1)), none], [], (SH, s29.2, J)) rfl ?_
    have he := Option.some.inj h
    subst he
    exact zr_hdr rfl rfl (show zRun X d 171 90 [some (.ref 73), some (.int v1), some (.int (s.1 + 1)), none] [] (SH, s29.2, J) r M' from w))
theorem ok_f171_goTo_L183 {X : zX} {d : Nat} {r : Option Value} {M' : zM} (hd : 5 ≤ d) (v1 : Int32) {J : (Nat → Nat → Int64)} : ∀ (n : Nat) (s x : (Int32 × (Nat → Nat → Int32))), zloop (f171_goTo_L183 v1) n s = some x → (fun (x : (Int32 × (Nat → Nat → Int32))) => zRun X d 171 212 [some (.ref 73), some (.int v1), none, none] [] (SH, x.2, J) r M') x → (fun (s : (Int32 × (Nat → Nat → Int32))) => zRun X d 171 183 [some (.ref 73), some (.int v1), some (.int s.1), none] [] (SH, s.2, J) r M') s := zloop_ok (Wh := fun (s : (Int32 × (Nat → Nat → Int32))) => zRun X d 171 183 [some (.ref 73), some (.int v1), some (.int s.1), none] [] (SH, s.2, J) r M') (Wx := fun (x : (Int32 × (Nat → Nat → Int32))) => zRun X d 171 212 [some (.ref 73), some (.int v1), none, none] [] (SH, x.2, J) r M') (fun s y h w => by
  unfold f171_goTo_L183 at h
  refine zr_steps 2 (186, [some (.ref 73), some (.int v1), some (.int s.1), none], [.int 32, .int s.1], (SH, s.2, J)) rfl ?_
  refine zr_one (if (32 : Int32) ≤ s.1 then zN 212 [some (.ref 73), some (.int v1), some (.int s.1), none] [] (SH, s.2, J) else zN 189 [some (.ref 73), some (.int v1), some (.int s.1), none] [] (SH, s.2, J)) rfl (zR_if (fun hc38 => zR_go ?_) (fun hc38 => zR_go ?_))
  · rw [if_pos hc38] at h
    have he := Option.some.inj h
    subst he
    exact zr_hdr rfl rfl (show zRun X d 171 212 [some (.ref 73), some (.int v1), none, none] [] (SH, s.2, J) r M' from w)
  · rw [if_neg hc38] at h
    refine zr_steps 10 (204, [some (.ref 73), some (.int v1), some (.int s.1), none], [.int s.1, .ref 97, .int ((32 * v1) + s.1), .ref 100], (SH, s.2, J)) rfl ?_
    obtain ⟨hc36, h⟩ := zbifo h
    refine zr_one (bif zin s.1 32 then zN 205 [some (.ref 73), some (.int v1), some (.int s.1), none] [.int (s.2 97 s.1.toNatClampNeg), .int ((32 * v1) + s.1), .ref 100] (SH, s.2, J) else none) rfl (zR_bif hc36 (zR_go ?_))
    obtain ⟨hc37, h⟩ := zbifo h
    refine zr_one (bif zin ((32 * v1) + s.1) 1952 then zN 206 [some (.ref 73), some (.int v1), some (.int s.1), none] [] (SH, (zu s.2 100 ((32 * v1) + s.1).toNatClampNeg (s.2 97 s.1.toNatClampNeg)), J) else none) rfl (zR_bif hc37 (zR_go ?_))
    refine zr_steps 2 (183, [some (.ref 73), some (.int v1), some (.int (s.1 + 1)), none], [], (SH, (zu s.2 100 ((32 * v1) + s.1).toNatClampNeg (s.2 97 s.1.toNatClampNeg)), J)) rfl ?_
    have he := Option.some.inj h
    subst he
    exact zr_hdr rfl rfl (show zRun X d 171 183 [some (.ref 73), some (.int v1), some (.int (s.1 + 1)), none] [] (SH, (zu s.2 100 ((32 * v1) + s.1).toNatClampNeg (s.2 97 s.1.toNatClampNeg)), J) r M' from w))
theorem ok_f171_goTo {X : zX} {d : Nat} (hd : 5 ≤ d) (v1 : Int32) {I : (Nat → Nat → Int32)} {J : (Nat → Nat → Int64)} (t : (Int32 × (Nat → Nat → Int32))) (h : f171_goTo v1 I = some t) : zRun X d 171 0 (zent 171 [.ref 73, .int v1]) [] (SH, I, J) (some (.int t.1)) (SH, t.2, J) := by
  unfold f171_goTo at h
  refine zr_steps 2 (2, [some (.ref 73), some (.int v1), some (.int 0), none], [], (SH, I, J)) rfl ?_
  obtain ⟨s4, ho5, h⟩ := zbind h
  refine zr_hdr (ls2 := [some (.ref 73), some (.int v1), some (.int 0), none]) rfl rfl ?_
  refine ok_f171_goTo_L2 (by omega) v1 5000 ((0 : Int32), I) s4 ho5 ?_
  show zRun X d 171 28 [some (.ref 73), some (.int v1), none, none] [] (SH, s4.2, J) _ _
  refine zr_steps 2 (30, [some (.ref 73), some (.int v1), some (.int 0), none], [], (SH, s4.2, J)) rfl ?_
  obtain ⟨s8, ho9, h⟩ := zbind h
  refine zr_hdr (ls2 := [some (.ref 73), some (.int v1), some (.int 0), none]) rfl rfl ?_
  refine ok_f171_goTo_L30 (by omega) v1 5000 ((0 : Int32), s4.2) s8 ho9 ?_
  show zRun X d 171 50 [some (.ref 73), some (.int v1), none, none] [] (SH, s8.2, J) _ _
  refine zr_steps 2 (52, [some (.ref 73), some (.int v1), some (.int 0), none], [], (SH, s8.2, J)) rfl ?_
  obtain ⟨s14, ho15, h⟩ := zbind h
  refine zr_hdr (ls2 := [some (.ref 73), some (.int v1), some (.int 0), none]) rfl rfl ?_
  refine ok_f171_goTo_L52 (by omega) v1 5000 ((0 : Int32), s8.2) s14 ho15 ?_
  show zRun X d 171 88 [some (.ref 73), some (.int v1), none, none] [] (SH, s14.2, J) _ _
  refine zr_steps 2 (90, [some (.ref 73), some (.int v1), some (.int 0), none], [], (SH, s14.2, J)) rfl ?_
  obtain ⟨s32, ho33, h⟩ := zbind h
  refine zr_hdr (ls2 := [some (.ref 73), some (.int v1), some (.int 0), none]) rfl rfl ?_
  refine ok_f171_goTo_L90 (by omega) v1 5000 ((0 : Int32), s14.2) s32 ho33 ?_
  show zRun X d 171 176 [some (.ref 73), some (.int v1), none, none] [] (SH, s32.2, J) _ _
  refine zr_steps 2 (178, [some (.ref 73), some (.int v1), none, none], [.int v1, .ref 73], (SH, s32.2, J)) rfl ?_
  obtain ⟨t35, hc34, h⟩ := zbind h
  refine zr_one (some (.inr (.inl (167, [.ref 73, .int v1], [], 181)))) rfl (zR_call (by omega) rfl (ok_f167_arrive (by omega) v1 _ hc34) ?_)
  refine zr_steps 2 (183, [some (.ref 73), some (.int v1), some (.int 0), none], [], (SH, t35, J)) rfl ?_
  obtain ⟨s39, ho40, h⟩ := zbind h
  refine zr_hdr (ls2 := [some (.ref 73), some (.int v1), some (.int 0), none]) rfl rfl ?_
  refine ok_f171_goTo_L183 (by omega) v1 5000 ((0 : Int32), t35) s39 ho40 ?_
  show zRun X d 171 212 [some (.ref 73), some (.int v1), none, none] [] (SH, s39.2, J) _ _
  refine zr_steps 2 (214, [some (.ref 73), some (.int v1), none, none], [.int v1, .ref 73], (SH, s39.2, J)) rfl ?_
  obtain ⟨t42, hc41, h⟩ := zbind h
  refine zr_one (some (.inr (.inl (173, [.ref 73, .int v1], [], 217)))) rfl (zR_call (by omega) rfl (ok_f173_counts (by omega) v1 _ hc41) ?_)
  refine zr_steps 2 (221, [some (.ref 73), some (.int v1), none, none], [.int (t42 73 52)], (SH, t42, J)) rfl ?_
  have he := Option.some.inj h
  subst he
  exact zr_one (some (.inr (.inr (some (.int (t42 73 52)))))) rfl (zR_ret rfl rfl)
def f174_run_L74 (s : (Int32 × (Nat → Nat → Int32))) : Option ((Int32 × (Nat → Nat → Int32)) ⊕ (Int32 × (Nat → Nat → Int32))) :=
  if (s.2 73 9) ≤ s.1 then
    some (.inl (s.1, s.2))
  else
    bif zin s.1 8 then
    some (.inr ((s.1 + 1), (zu s.2 73 59 ((s.2 73 59) + (s.2 80 s.1.toNatClampNeg)))))
    else none
def f174_run_L105 (s : (Int32 × (Nat → Nat → Int32))) : Option ((Int32 × (Nat → Nat → Int32)) ⊕ (Int32 × (Nat → Nat → Int32))) :=
  if (32 : Int32) ≤ s.1 then
    some (.inl (s.1, s.2))
  else
    bif zin s.1 32 then
    some (.inr ((s.1 + 1), (zu s.2 73 59 ((s.2 73 59) - (s.2 97 s.1.toNatClampNeg)))))
    else none
def f174_run_L134 (s : (Int32 × (Nat → Nat → Int32))) : Option ((Int32 × (Nat → Nat → Int32)) ⊕ (Int32 × (Nat → Nat → Int32))) :=
  if (1952 : Int32) ≤ s.1 then
    some (.inl (s.1, s.2))
  else
    bif zin s.1 1952 then
    bif zin s.1 1952 then
    some (.inr ((s.1 + 1), (zu s.2 104 s.1.toNatClampNeg (s.2 100 s.1.toNatClampNeg))))
    else none
    else none
def f174_run_L161 (s : (Int32 × (Nat → Nat → Int32))) : Option ((Int32 × (Nat → Nat → Int32)) ⊕ (Int32 × (Nat → Nat → Int32))) :=
  if (s.2 73 1) ≤ s.1 then
    some (.inl (s.1, s.2))
  else
    bif zin s.1 4 then
    bif zin s.1 4 then
    some (.inr ((s.1 + 1), (zu s.2 105 s.1.toNatClampNeg (s.2 103 s.1.toNatClampNeg))))
    else none
    else none
def f174_run (I : (Nat → Nat → Int32)) : Option (Int32 × (Nat → Nat → Int32)) :=
  if (I 73 1) = 0 then
    some ((-5), I)
  else
    Option.bind (f171_goTo (I 73 15) I) fun t2 =>
    Option.bind (zloop f174_run_L74 5000 ((0 : Int32), (zu (zu (zu (zu (zu (zu (zu t2.2 73 55 (t2.2 73 15)) 73 56 (t2.2 73 53)) 73 57 (t2.2 73 52)) 73 58 (t2.2 73 54)) 73 60 (t2.2 73 1)) 73 61 (t2.2 73 9)) 73 59 0))) fun s5 =>
    Option.bind (zloop f174_run_L105 5000 ((0 : Int32), s5.2)) fun s9 =>
    Option.bind (zloop f174_run_L134 5000 ((0 : Int32), s9.2)) fun s14 =>
    Option.bind (zloop f174_run_L161 5000 ((0 : Int32), s14.2)) fun s19 =>
    some ((s19.2 73 52), s19.2)
theorem ok_f174_run_L74 {X : zX} {d : Nat} {r : Option Value} {M' : zM} (hd : 6 ≤ d) {J : (Nat → Nat → Int64)} : ∀ (n : Nat) (s x : (Int32 × (Nat → Nat → Int32))), zloop f174_run_L74 n s = some x → (fun (x : (Int32 × (Nat → Nat → Int32))) => zRun X d 174 103 [some (.ref 73), none] [] (SH, x.2, J) r M') x → (fun (s : (Int32 × (Nat → Nat → Int32))) => zRun X d 174 74 [some (.ref 73), some (.int s.1)] [] (SH, s.2, J) r M') s := zloop_ok (Wh := fun (s : (Int32 × (Nat → Nat → Int32))) => zRun X d 174 74 [some (.ref 73), some (.int s.1)] [] (SH, s.2, J) r M') (Wx := fun (x : (Int32 × (Nat → Nat → Int32))) => zRun X d 174 103 [some (.ref 73), none] [] (SH, x.2, J) r M') (fun s y h w => by
  unfold f174_run_L74 at h
  refine zr_steps 3 (79, [some (.ref 73), some (.int s.1)], [.int (s.2 73 9), .int s.1], (SH, s.2, J)) rfl ?_
  refine zr_one (if (s.2 73 9) ≤ s.1 then zN 103 [some (.ref 73), some (.int s.1)] [] (SH, s.2, J) else zN 82 [some (.ref 73), some (.int s.1)] [] (SH, s.2, J)) rfl (zR_if (fun hc4 => zR_go ?_) (fun hc4 => zR_go ?_))
  · rw [if_pos hc4] at h
    have he := Option.some.inj h
    subst he
    exact zr_hdr rfl rfl (show zRun X d 174 103 [some (.ref 73), none] [] (SH, s.2, J) r M' from w)
  · rw [if_neg hc4] at h
    refine zr_steps 6 (92, [some (.ref 73), some (.int s.1)], [.int s.1, .ref 80, .int (s.2 73 59), .ref 73], (SH, s.2, J)) rfl ?_
    obtain ⟨hc3, h⟩ := zbifo h
    refine zr_one (bif zin s.1 8 then zN 93 [some (.ref 73), some (.int s.1)] [.int (s.2 80 s.1.toNatClampNeg), .int (s.2 73 59), .ref 73] (SH, s.2, J) else none) rfl (zR_bif hc3 (zR_go ?_))
    refine zr_steps 4 (74, [some (.ref 73), some (.int (s.1 + 1))], [], (SH, (zu s.2 73 59 ((s.2 73 59) + (s.2 80 s.1.toNatClampNeg))), J)) rfl ?_
    have he := Option.some.inj h
    subst he
    exact zr_hdr rfl rfl (show zRun X d 174 74 [some (.ref 73), some (.int (s.1 + 1))] [] (SH, (zu s.2 73 59 ((s.2 73 59) + (s.2 80 s.1.toNatClampNeg))), J) r M' from w))
theorem ok_f174_run_L105 {X : zX} {d : Nat} {r : Option Value} {M' : zM} (hd : 6 ≤ d) {J : (Nat → Nat → Int64)} : ∀ (n : Nat) (s x : (Int32 × (Nat → Nat → Int32))), zloop f174_run_L105 n s = some x → (fun (x : (Int32 × (Nat → Nat → Int32))) => zRun X d 174 132 [some (.ref 73), none] [] (SH, x.2, J) r M') x → (fun (s : (Int32 × (Nat → Nat → Int32))) => zRun X d 174 105 [some (.ref 73), some (.int s.1)] [] (SH, s.2, J) r M') s := zloop_ok (Wh := fun (s : (Int32 × (Nat → Nat → Int32))) => zRun X d 174 105 [some (.ref 73), some (.int s.1)] [] (SH, s.2, J) r M') (Wx := fun (x : (Int32 × (Nat → Nat → Int32))) => zRun X d 174 132 [some (.ref 73), none] [] (SH, x.2, J) r M') (fun s y h w => by
  unfold f174_run_L105 at h
  refine zr_steps 2 (108, [some (.ref 73), some (.int s.1)], [.int 32, .int s.1], (SH, s.2, J)) rfl ?_
  refine zr_one (if (32 : Int32) ≤ s.1 then zN 132 [some (.ref 73), some (.int s.1)] [] (SH, s.2, J) else zN 111 [some (.ref 73), some (.int s.1)] [] (SH, s.2, J)) rfl (zR_if (fun hc8 => zR_go ?_) (fun hc8 => zR_go ?_))
  · rw [if_pos hc8] at h
    have he := Option.some.inj h
    subst he
    exact zr_hdr rfl rfl (show zRun X d 174 132 [some (.ref 73), none] [] (SH, s.2, J) r M' from w)
  · rw [if_neg hc8] at h
    refine zr_steps 6 (121, [some (.ref 73), some (.int s.1)], [.int s.1, .ref 97, .int (s.2 73 59), .ref 73], (SH, s.2, J)) rfl ?_
    obtain ⟨hc7, h⟩ := zbifo h
    refine zr_one (bif zin s.1 32 then zN 122 [some (.ref 73), some (.int s.1)] [.int (s.2 97 s.1.toNatClampNeg), .int (s.2 73 59), .ref 73] (SH, s.2, J) else none) rfl (zR_bif hc7 (zR_go ?_))
    refine zr_steps 4 (105, [some (.ref 73), some (.int (s.1 + 1))], [], (SH, (zu s.2 73 59 ((s.2 73 59) - (s.2 97 s.1.toNatClampNeg))), J)) rfl ?_
    have he := Option.some.inj h
    subst he
    exact zr_hdr rfl rfl (show zRun X d 174 105 [some (.ref 73), some (.int (s.1 + 1))] [] (SH, (zu s.2 73 59 ((s.2 73 59) - (s.2 97 s.1.toNatClampNeg))), J) r M' from w))
theorem ok_f174_run_L134 {X : zX} {d : Nat} {r : Option Value} {M' : zM} (hd : 6 ≤ d) {J : (Nat → Nat → Int64)} : ∀ (n : Nat) (s x : (Int32 × (Nat → Nat → Int32))), zloop f174_run_L134 n s = some x → (fun (x : (Int32 × (Nat → Nat → Int32))) => zRun X d 174 159 [some (.ref 73), none] [] (SH, x.2, J) r M') x → (fun (s : (Int32 × (Nat → Nat → Int32))) => zRun X d 174 134 [some (.ref 73), some (.int s.1)] [] (SH, s.2, J) r M') s := zloop_ok (Wh := fun (s : (Int32 × (Nat → Nat → Int32))) => zRun X d 174 134 [some (.ref 73), some (.int s.1)] [] (SH, s.2, J) r M') (Wx := fun (x : (Int32 × (Nat → Nat → Int32))) => zRun X d 174 159 [some (.ref 73), none] [] (SH, x.2, J) r M') (fun s y h w => by
  unfold f174_run_L134 at h
  refine zr_steps 2 (138, [some (.ref 73), some (.int s.1)], [.int 1952, .int s.1], (SH, s.2, J)) rfl ?_
  refine zr_one (if (1952 : Int32) ≤ s.1 then zN 159 [some (.ref 73), some (.int s.1)] [] (SH, s.2, J) else zN 141 [some (.ref 73), some (.int s.1)] [] (SH, s.2, J)) rfl (zR_if (fun hc13 => zR_go ?_) (fun hc13 => zR_go ?_))
  · rw [if_pos hc13] at h
    have he := Option.some.inj h
    subst he
    exact zr_hdr rfl rfl (show zRun X d 174 159 [some (.ref 73), none] [] (SH, s.2, J) r M' from w)
  · rw [if_neg hc13] at h
    refine zr_steps 6 (151, [some (.ref 73), some (.int s.1)], [.int s.1, .ref 100, .int s.1, .ref 104], (SH, s.2, J)) rfl ?_
    obtain ⟨hc11, h⟩ := zbifo h
    refine zr_one (bif zin s.1 1952 then zN 152 [some (.ref 73), some (.int s.1)] [.int (s.2 100 s.1.toNatClampNeg), .int s.1, .ref 104] (SH, s.2, J) else none) rfl (zR_bif hc11 (zR_go ?_))
    obtain ⟨hc12, h⟩ := zbifo h
    refine zr_one (bif zin s.1 1952 then zN 153 [some (.ref 73), some (.int s.1)] [] (SH, (zu s.2 104 s.1.toNatClampNeg (s.2 100 s.1.toNatClampNeg)), J) else none) rfl (zR_bif hc12 (zR_go ?_))
    refine zr_steps 2 (134, [some (.ref 73), some (.int (s.1 + 1))], [], (SH, (zu s.2 104 s.1.toNatClampNeg (s.2 100 s.1.toNatClampNeg)), J)) rfl ?_
    have he := Option.some.inj h
    subst he
    exact zr_hdr rfl rfl (show zRun X d 174 134 [some (.ref 73), some (.int (s.1 + 1))] [] (SH, (zu s.2 104 s.1.toNatClampNeg (s.2 100 s.1.toNatClampNeg)), J) r M' from w))
theorem ok_f174_run_L161 {X : zX} {d : Nat} {r : Option Value} {M' : zM} (hd : 6 ≤ d) {J : (Nat → Nat → Int64)} : ∀ (n : Nat) (s x : (Int32 × (Nat → Nat → Int32))), zloop f174_run_L161 n s = some x → (fun (x : (Int32 × (Nat → Nat → Int32))) => zRun X d 174 187 [some (.ref 73), none] [] (SH, x.2, J) r M') x → (fun (s : (Int32 × (Nat → Nat → Int32))) => zRun X d 174 161 [some (.ref 73), some (.int s.1)] [] (SH, s.2, J) r M') s := zloop_ok (Wh := fun (s : (Int32 × (Nat → Nat → Int32))) => zRun X d 174 161 [some (.ref 73), some (.int s.1)] [] (SH, s.2, J) r M') (Wx := fun (x : (Int32 × (Nat → Nat → Int32))) => zRun X d 174 187 [some (.ref 73), none] [] (SH, x.2, J) r M') (fun s y h w => by
  unfold f174_run_L161 at h
  refine zr_steps 3 (166, [some (.ref 73), some (.int s.1)], [.int (s.2 73 1), .int s.1], (SH, s.2, J)) rfl ?_
  refine zr_one (if (s.2 73 1) ≤ s.1 then zN 187 [some (.ref 73), some (.int s.1)] [] (SH, s.2, J) else zN 169 [some (.ref 73), some (.int s.1)] [] (SH, s.2, J)) rfl (zR_if (fun hc18 => zR_go ?_) (fun hc18 => zR_go ?_))
  · rw [if_pos hc18] at h
    have he := Option.some.inj h
    subst he
    exact zr_hdr rfl rfl (show zRun X d 174 187 [some (.ref 73), none] [] (SH, s.2, J) r M' from w)
  · rw [if_neg hc18] at h
    refine zr_steps 6 (179, [some (.ref 73), some (.int s.1)], [.int s.1, .ref 103, .int s.1, .ref 105], (SH, s.2, J)) rfl ?_
    obtain ⟨hc16, h⟩ := zbifo h
    refine zr_one (bif zin s.1 4 then zN 180 [some (.ref 73), some (.int s.1)] [.int (s.2 103 s.1.toNatClampNeg), .int s.1, .ref 105] (SH, s.2, J) else none) rfl (zR_bif hc16 (zR_go ?_))
    obtain ⟨hc17, h⟩ := zbifo h
    refine zr_one (bif zin s.1 4 then zN 181 [some (.ref 73), some (.int s.1)] [] (SH, (zu s.2 105 s.1.toNatClampNeg (s.2 103 s.1.toNatClampNeg)), J) else none) rfl (zR_bif hc17 (zR_go ?_))
    refine zr_steps 2 (161, [some (.ref 73), some (.int (s.1 + 1))], [], (SH, (zu s.2 105 s.1.toNatClampNeg (s.2 103 s.1.toNatClampNeg)), J)) rfl ?_
    have he := Option.some.inj h
    subst he
    exact zr_hdr rfl rfl (show zRun X d 174 161 [some (.ref 73), some (.int (s.1 + 1))] [] (SH, (zu s.2 105 s.1.toNatClampNeg (s.2 103 s.1.toNatClampNeg)), J) r M' from w))
theorem ok_f174_run {X : zX} {d : Nat} (hd : 6 ≤ d) {I : (Nat → Nat → Int32)} {J : (Nat → Nat → Int64)} (t : (Int32 × (Nat → Nat → Int32))) (h : f174_run I = some t) : zRun X d 174 0 (zent 174 [.ref 73]) [] (SH, I, J) (some (.int t.1)) (SH, t.2, J) := by
  unfold f174_run at h
  refine zr_steps 2 (4, [some (.ref 73), none], [.int (I 73 1)], (SH, I, J)) rfl ?_
  refine zr_one (if (I 73 1) = 0 then zN 7 [some (.ref 73), none] [] (SH, I, J) else zN 10 [some (.ref 73), none] [] (SH, I, J)) rfl (zR_if (fun hc21 => zR_go ?_) (fun hc21 => zR_go ?_))
  · rw [if_pos hc21] at h
    refine zr_steps 1 (9, [some (.ref 73), none], [.int (-5)], (SH, I, J)) rfl ?_
    have he := Option.some.inj h
    subst he
    exact zr_one (some (.inr (.inr (some (.int (-5)))))) rfl (zR_ret rfl rfl)
  · rw [if_neg hc21] at h
    refine zr_steps 3 (15, [some (.ref 73), none], [.int (I 73 15), .ref 73], (SH, I, J)) rfl ?_
    obtain ⟨t2, hc1, h⟩ := zbind h
    refine zr_one (some (.inr (.inl (171, [.ref 73, .int (I 73 15)], [], 18)))) rfl (zR_call (by omega) rfl (ok_f171_goTo (by omega) (I 73 15) _ hc1) ?_)
    refine zr_steps 30 (74, [some (.ref 73), some (.int 0)], [], (SH, (zu (zu (zu (zu (zu (zu (zu t2.2 73 55 (t2.2 73 15)) 73 56 (t2.2 73 53)) 73 57 (t2.2 73 52)) 73 58 (t2.2 73 54)) 73 60 (t2.2 73 1)) 73 61 (t2.2 73 9)) 73 59 0), J)) rfl ?_
    obtain ⟨s5, ho6, h⟩ := zbind h
    refine zr_hdr (ls2 := [some (.ref 73), some (.int 0)]) rfl rfl ?_
    refine ok_f174_run_L74 (by omega) 5000 ((0 : Int32), (zu (zu (zu (zu (zu (zu (zu t2.2 73 55 (t2.2 73 15)) 73 56 (t2.2 73 53)) 73 57 (t2.2 73 52)) 73 58 (t2.2 73 54)) 73 60 (t2.2 73 1)) 73 61 (t2.2 73 9)) 73 59 0)) s5 ho6 ?_
    show zRun X d 174 103 [some (.ref 73), none] [] (SH, s5.2, J) _ _
    refine zr_steps 2 (105, [some (.ref 73), some (.int 0)], [], (SH, s5.2, J)) rfl ?_
    obtain ⟨s9, ho10, h⟩ := zbind h
    refine zr_hdr (ls2 := [some (.ref 73), some (.int 0)]) rfl rfl ?_
    refine ok_f174_run_L105 (by omega) 5000 ((0 : Int32), s5.2) s9 ho10 ?_
    show zRun X d 174 132 [some (.ref 73), none] [] (SH, s9.2, J) _ _
    refine zr_steps 2 (134, [some (.ref 73), some (.int 0)], [], (SH, s9.2, J)) rfl ?_
    obtain ⟨s14, ho15, h⟩ := zbind h
    refine zr_hdr (ls2 := [some (.ref 73), some (.int 0)]) rfl rfl ?_
    refine ok_f174_run_L134 (by omega) 5000 ((0 : Int32), s9.2) s14 ho15 ?_
    show zRun X d 174 159 [some (.ref 73), none] [] (SH, s14.2, J) _ _
    refine zr_steps 2 (161, [some (.ref 73), some (.int 0)], [], (SH, s14.2, J)) rfl ?_
    obtain ⟨s19, ho20, h⟩ := zbind h
    refine zr_hdr (ls2 := [some (.ref 73), some (.int 0)]) rfl rfl ?_
    refine ok_f174_run_L161 (by omega) 5000 ((0 : Int32), s14.2) s19 ho20 ?_
    show zRun X d 174 187 [some (.ref 73), none] [] (SH, s19.2, J) _ _
    refine zr_steps 2 (191, [some (.ref 73), none], [.int (s19.2 73 52)], (SH, s19.2, J)) rfl ?_
    have he := Option.some.inj h
    subst he
    exact zr_one (some (.inr (.inr (some (.int (s19.2 73 52)))))) rfl (zR_ret rfl rfl)
def f36_hasSquare_24 (v1 : Int32) (I : (Nat → Nat → Int32)) : Option Int32 :=
  if v1 < 0 then
    some 0
  else
    if (I 24 13) ≤ v1 then
      some 0
    else
      some 1
theorem ok_f36_hasSquare_24 {X : zX} {d : Nat} (hd : 0 ≤ d) (v1 : Int32) {I : (Nat → Nat → Int32)} {J : (Nat → Nat → Int64)} (t : Int32) (h : f36_hasSquare_24 v1 I = some t) : zRun X d 36 0 (zent 36 [.ref 24, .int v1]) [] (SH, I, J) (some (.int t)) (SH, I, J) := by
  unfold f36_hasSquare_24 at h
  refine zr_steps 1 (1, [some (.ref 24), some (.int v1)], [.int v1], (SH, I, J)) rfl ?_
  refine zr_one (if v1 < 0 then zN 16 [some (.ref 24), some (.int v1)] [] (SH, I, J) else zN 4 [some (.ref 24), some (.int v1)] [] (SH, I, J)) rfl (zR_if (fun hc2 => zR_go ?_) (fun hc2 => zR_go ?_))
  · rw [if_pos hc2] at h
    refine zr_steps 1 (17, [some (.ref 24), some (.int v1)], [.int 0], (SH, I, J)) rfl ?_
    have he := Option.some.inj h
    subst he
    exact zr_one (if ((0 : Int32) = 0 ∨ (0 : Int32) = 1) then some (.inr (.inr (some (.int 0)))) else none) rfl (zR_pos (by decide) (zR_ret rfl rfl))
  · rw [if_neg hc2] at h
    refine zr_steps 3 (9, [some (.ref 24), some (.int v1)], [.int (I 24 13), .int v1], (SH, I, J)) rfl ?_
    refine zr_one (if (I 24 13) ≤ v1 then zN 16 [some (.ref 24), some (.int v1)] [] (SH, I, J) else zN 12 [some (.ref 24), some (.int v1)] [] (SH, I, J)) rfl (zR_if (fun hc1 => zR_go ?_) (fun hc1 => zR_go ?_))
    · rw [if_pos hc1] at h
      refine zr_steps 1 (17, [some (.ref 24), some (.int v1)], [.int 0], (SH, I, J)) rfl ?_
      have he := Option.some.inj h
      subst he
      exact zr_one (if ((0 : Int32) = 0 ∨ (0 : Int32) = 1) then some (.inr (.inr (some (.int 0)))) else none) rfl (zR_pos (by decide) (zR_ret rfl rfl))
    · rw [if_neg hc1] at h
      refine zr_steps 2 (17, [some (.ref 24), some (.int v1)], [.int 1], (SH, I, J)) rfl ?_
      have he := Option.some.inj h
      subst he
      exact zr_one (if ((1 : Int32) = 0 ∨ (1 : Int32) = 1) then some (.inr (.inr (some (.int 1)))) else none) rfl (zR_pos (by decide) (zR_ret rfl rfl))
def f38_atEnd_24 (v1 : Int32) (v2 : Int32) (v3 : Int32) (I : (Nat → Nat → Int32)) : Option Int32 :=
  bif zin (((v1 * 32) + (v2 * 8)) + v3) 1952 then
  some (I 33 (((v1 * 32) + (v2 * 8)) + v3).toNatClampNeg)
  else none
theorem ok_f38_atEnd_24 {X : zX} {d : Nat} (hd : 0 ≤ d) (v1 : Int32) (v2 : Int32) (v3 : Int32) {I : (Nat → Nat → Int32)} {J : (Nat → Nat → Int64)} (t : Int32) (h : f38_atEnd_24 v1 v2 v3 I = some t) : zRun X d 38 0 (zent 38 [.ref 24, .int v1, .int v2, .int v3]) [] (SH, I, J) (some (.int t)) (SH, I, J) := by
  unfold f38_atEnd_24 at h
  refine zr_steps 11 (15, [some (.ref 24), some (.int v1), some (.int v2), some (.int v3)], [.int (((v1 * 32) + (v2 * 8)) + v3), .ref 33], (SH, I, J)) rfl ?_
  obtain ⟨hc1, h⟩ := zbifo h
  refine zr_one (bif zin (((v1 * 32) + (v2 * 8)) + v3) 1952 then zN 16 [some (.ref 24), some (.int v1), some (.int v2), some (.int v3)] [.int (I 33 (((v1 * 32) + (v2 * 8)) + v3).toNatClampNeg)] (SH, I, J) else none) rfl (zR_bif hc1 (zR_go ?_))
  have he := Option.some.inj h
  subst he
  exact zr_one (some (.inr (.inr (some (.int (I 33 (((v1 * 32) + (v2 * 8)) + v3).toNatClampNeg)))))) rfl (zR_ret rfl rfl)
def f39_allAtEnd_24_L5 (v1 : Int32) (v2 : Int32) (I : (Nat → Nat → Int32)) (s : (Int32 × Int32)) : Option ((Int32 × Int32) ⊕ (Int32 × Int32)) :=
  if (8 : Int32) ≤ s.2 then
    some (.inl (s.1, s.2))
  else
    Option.bind (f38_atEnd_24 v1 v2 s.2 I) fun t2 =>
    some (.inr ((s.1 + t2), (s.2 + 1)))
def f39_allAtEnd_24 (v1 : Int32) (v2 : Int32) (I : (Nat → Nat → Int32)) : Option Int32 :=
  Option.bind (zloop (f39_allAtEnd_24_L5 v1 v2 I) 5000 ((0 : Int32), (0 : Int32))) fun s4 =>
  some s4.1
theorem ok_f39_allAtEnd_24_L5 {X : zX} {d : Nat} {r : Option Value} {M' : zM} (hd : 1 ≤ d) (v1 : Int32) (v2 : Int32) {I : (Nat → Nat → Int32)} {J : (Nat → Nat → Int64)} : ∀ (n : Nat) (s x : (Int32 × Int32)), zloop (f39_allAtEnd_24_L5 v1 v2 I) n s = some x → (fun (x : (Int32 × Int32)) => zRun X d 39 29 [none, none, none, some (.int x.1), none] [] (SH, I, J) r M') x → (fun (s : (Int32 × Int32)) => zRun X d 39 5 [some (.ref 24), some (.int v1), some (.int v2), some (.int s.1), some (.int s.2)] [] (SH, I, J) r M') s := zloop_ok (Wh := fun (s : (Int32 × Int32)) => zRun X d 39 5 [some (.ref 24), some (.int v1), some (.int v2), some (.int s.1), some (.int s.2)] [] (SH, I, J) r M') (Wx := fun (x : (Int32 × Int32)) => zRun X d 39 29 [none, none, none, some (.int x.1), none] [] (SH, I, J) r M') (fun s y h w => by
  unfold f39_allAtEnd_24_L5 at h
  refine zr_steps 2 (9, [some (.ref 24), some (.int v1), some (.int v2), some (.int s.1), some (.int s.2)], [.int 8, .int s.2], (SH, I, J)) rfl ?_
  refine zr_one (if (8 : Int32) ≤ s.2 then zN 29 [some (.ref 24), some (.int v1), some (.int v2), some (.int s.1), some (.int s.2)] [] (SH, I, J) else zN 12 [some (.ref 24), some (.int v1), some (.int v2), some (.int s.1), some (.int s.2)] [] (SH, I, J)) rfl (zR_if (fun hc3 => zR_go ?_) (fun hc3 => zR_go ?_))
  · rw [if_pos hc3] at h
    have he := Option.some.inj h
    subst he
    exact zr_hdr rfl rfl (show zRun X d 39 29 [none, none, none, some (.int s.1), none] [] (SH, I, J) r M' from w)
  · rw [if_neg hc3] at h
    refine zr_steps 5 (18, [some (.ref 24), some (.int v1), some (.int v2), some (.int s.1), some (.int s.2)], [.int s.2, .int v2, .int v1, .ref 24, .int s.1], (SH, I, J)) rfl ?_
    obtain ⟨t2, hc1, h⟩ := zbind h
    refine zr_one (some (.inr (.inl (38, [.ref 24, .int v1, .int v2, .int s.2], [.int s.1], 21)))) rfl (zR_call (by omega) rfl (ok_f38_atEnd_24 (by omega) v1 v2 s.2 _ hc1) ?_)
    refine zr_steps 4 (5, [some (.ref 24), some (.int v1), some (.int v2), some (.int (s.1 + t2)), some (.int (s.2 + 1))], [], (SH, I, J)) rfl ?_
    have he := Option.some.inj h
    subst he
    exact zr_hdr rfl rfl (show zRun X d 39 5 [some (.ref 24), some (.int v1), some (.int v2), some (.int (s.1 + t2)), some (.int (s.2 + 1))] [] (SH, I, J) r M' from w))
theorem ok_f39_allAtEnd_24 {X : zX} {d : Nat} (hd : 1 ≤ d) (v1 : Int32) (v2 : Int32) {I : (Nat → Nat → Int32)} {J : (Nat → Nat → Int64)} (t : Int32) (h : f39_allAtEnd_24 v1 v2 I = some t) : zRun X d 39 0 (zent 39 [.ref 24, .int v1, .int v2]) [] (SH, I, J) (some (.int t)) (SH, I, J) := by
  unfold f39_allAtEnd_24 at h
  refine zr_steps 4 (5, [some (.ref 24), some (.int v1), some (.int v2), some (.int 0), some (.int 0)], [], (SH, I, J)) rfl ?_
  obtain ⟨s4, ho5, h⟩ := zbind h
  refine zr_hdr (ls2 := [some (.ref 24), some (.int v1), some (.int v2), some (.int 0), some (.int 0)]) rfl rfl ?_
  refine ok_f39_allAtEnd_24_L5 (by omega) v1 v2 5000 ((0 : Int32), (0 : Int32)) s4 ho5 ?_
  show zRun X d 39 29 [none, none, none, some (.int s4.1), none] [] (SH, I, J) _ _
  refine zr_steps 1 (30, [none, none, none, some (.int s4.1), none], [.int s4.1], (SH, I, J)) rfl ?_
  have he := Option.some.inj h
  subst he
  exact zr_one (some (.inr (.inr (some (.int s4.1))))) rfl (zR_ret rfl rfl)
def f37_hasSort_24 (v1 : Int32) (I : (Nat → Nat → Int32)) : Option Int32 :=
  if v1 < 0 then
    some 0
  else
    if (I 24 14) ≤ v1 then
      some 0
    else
      some 1
theorem ok_f37_hasSort_24 {X : zX} {d : Nat} (hd : 0 ≤ d) (v1 : Int32) {I : (Nat → Nat → Int32)} {J : (Nat → Nat → Int64)} (t : Int32) (h : f37_hasSort_24 v1 I = some t) : zRun X d 37 0 (zent 37 [.ref 24, .int v1]) [] (SH, I, J) (some (.int t)) (SH, I, J) := by
  unfold f37_hasSort_24 at h
  refine zr_steps 1 (1, [some (.ref 24), some (.int v1)], [.int v1], (SH, I, J)) rfl ?_
  refine zr_one (if v1 < 0 then zN 16 [some (.ref 24), some (.int v1)] [] (SH, I, J) else zN 4 [some (.ref 24), some (.int v1)] [] (SH, I, J)) rfl (zR_if (fun hc2 => zR_go ?_) (fun hc2 => zR_go ?_))
  · rw [if_pos hc2] at h
    refine zr_steps 1 (17, [some (.ref 24), some (.int v1)], [.int 0], (SH, I, J)) rfl ?_
    have he := Option.some.inj h
    subst he
    exact zr_one (if ((0 : Int32) = 0 ∨ (0 : Int32) = 1) then some (.inr (.inr (some (.int 0)))) else none) rfl (zR_pos (by decide) (zR_ret rfl rfl))
  · rw [if_neg hc2] at h
    refine zr_steps 3 (9, [some (.ref 24), some (.int v1)], [.int (I 24 14), .int v1], (SH, I, J)) rfl ?_
    refine zr_one (if (I 24 14) ≤ v1 then zN 16 [some (.ref 24), some (.int v1)] [] (SH, I, J) else zN 12 [some (.ref 24), some (.int v1)] [] (SH, I, J)) rfl (zR_if (fun hc1 => zR_go ?_) (fun hc1 => zR_go ?_))
    · rw [if_pos hc1] at h
      refine zr_steps 1 (17, [some (.ref 24), some (.int v1)], [.int 0], (SH, I, J)) rfl ?_
      have he := Option.some.inj h
      subst he
      exact zr_one (if ((0 : Int32) = 0 ∨ (0 : Int32) = 1) then some (.inr (.inr (some (.int 0)))) else none) rfl (zR_pos (by decide) (zR_ret rfl rfl))
    · rw [if_neg hc1] at h
      refine zr_steps 2 (17, [some (.ref 24), some (.int v1)], [.int 1], (SH, I, J)) rfl ?_
      have he := Option.some.inj h
      subst he
      exact zr_one (if ((1 : Int32) = 0 ∨ (1 : Int32) = 1) then some (.inr (.inr (some (.int 1)))) else none) rfl (zR_pos (by decide) (zR_ret rfl rfl))
