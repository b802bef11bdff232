def f168_goal_L60 (v1 : Int32) (v2 : Int32) (I : (Nat → Nat → Int32)) (s : Int32) : Option ((Int32 × (Nat → Nat → Int32)) ⊕ (Int32 ⊕ Int32)) :=
  if (I 73 1) ≤ s then
    some (.inr (.inl s))
  else
    bif zin s 4 then
    bif zin v1 8 then
    if (I 75 s.toNatClampNeg) = (I 81 v1.toNatClampNeg) then
      some (.inl (s, I))
    else
      some (.inr (.inr (s + 1)))
    else none
    else none
def f168_goal_L122 (v1 : Int32) (v2 : Int32) (v4 : Int32) (v5 : Int32) (v6 : Int32) (I : (Nat → Nat → Int32)) (s : (Int32 × Int32)) : Option ((Int32 × Int32) ⊕ (Int32 × Int32)) :=
  if (I 73 1) ≤ s.2 then
    some (.inl (s.1, s.2))
  else
    bif zin ((4 * v6) + s.2) 240 then
    bif zin ((4 * v6) + s.1) 240 then
    if (I 101 ((4 * v6) + s.2).toNatClampNeg) ≤ (I 101 ((4 * v6) + s.1).toNatClampNeg) then
      some (.inr (s.1, (s.2 + 1)))
    else
      some (.inr (s.2, (s.2 + 1)))
    else none
    else none
def f168_goal_L122 (v1 : Int32) (v2 : Int32) (v4 : Int32) (v5 : Int32) (v6 : Int32) (I : (Nat → Nat → Int32)) (s : (Int32 × Int32)) : Option ((Int32 × Int32) ⊕ (Int32 × Int32)) :=
  if (I 73 1) ≤ s.2 then
    some (.inl (s.1, s.2))
  else
    bif zin ((4 * v6) + s.2) 240 then
    bif zin ((4 * v6) + s.1) 240 then
    if (I 101 ((4 * v6) + s.2).toNatClampNeg) ≤ (I 101 ((4 * v6) + s.1).toNatClampNeg) then
      some (.inr (s.1, (s.2 + 1)))
    else
      some (.inr (s.2, (s.2 + 1)))
    else none
    else none
def f168_goal_L60 (v1 : Int32) (v2 : Int32) (I : (Nat → Nat → Int32)) (s : Int32) : Option ((Int32 × (Nat → Nat → Int32)) ⊕ (Int32 ⊕ Int32)) :=
  if (I 73 1) ≤ s then
    some (.inr (.inl s))
  else
    bif zin s 4 then
    bif zin v1 8 then
    if (I 75 s.toNatClampNeg) = (I 81 v1.toNatClampNeg) then
      some (.inl (s, I))
    else
      some (.inr (.inr (s + 1)))
    else none
    else none
def f168_goal_L122 (v1 : Int32) (v2 : Int32) (v4 : Int32) (v5 : Int32) (v6 : Int32) (I : (Nat → Nat → Int32)) (s : (Int32 × Int32)) : Option ((Int32 × Int32) ⊕ (Int32 × Int32)) :=
  if (I 73 1) ≤ s.2 then
    some (.inl (s.1, s.2))
  else
    bif zin ((4 * v6) + s.2) 240 then
    bif zin ((4 * v6) + s.1) 240 then
    if (I 101 ((4 * v6) + s.2).toNatClampNeg) ≤ (I 101 ((4 * v6) + s.1).toNatClampNeg) then
      some (.inr (s.1, (s.2 + 1)))
    else
      some (.inr (s.2, (s.2 + 1)))
    else none
    else none
def f168_goal_L122 (v1 : Int32) (v2 : Int32) (v4 : Int32) (v5 : Int32) (v6 : Int32) (I : (Nat → Nat → Int32)) (s : (Int32 × Int32)) : Option ((Int32 × Int32) ⊕ (Int32 × Int32)) :=
  if (I 73 1) ≤ s.2 then
    some (.inl (s.1, s.2))
  else
    bif zin ((4 * v6) + s.2) 240 then
    bif zin ((4 * v6) + s.1) 240 then
    if (I 101 ((4 * v6) + s.2).toNatClampNeg) ≤ (I 101 ((4 * v6) + s.1).toNatClampNeg) then
      some (.inr (s.1, (s.2 + 1)))
    else
      some (.inr (s.2, (s.2 + 1)))
    else none
    else none
def f168_goal (v1 : Int32) (v2 : Int32) (v3 : Int32) (v4 : Int32) (I : (Nat → Nat → Int32)) : Option (Int32 × (Nat → Nat → Int32)) :=
  if v1 = (I 73 47) then
    if (I 73 48) ≤ v3 then
      some ((I 73 49), I)
    else
      some (v2, I)
  else
    if v1 = (I 73 50) then
      Option.bind (f156_isLaw (I 73 51) I) fun t3 =>
      if t3 = 0 then
        zbR (zloopR (f168_goal_L60 v1 v2 I) 5000 (0 : Int32)) (fun rr => some rr) fun s8 =>
        some (v2, I)
      else
        if (I 73 16) ≤ v3 then
          Option.bind (zloop (f168_goal_L122 v1 v2 v4 (I 73 51) (v3 - (I 73 16)) I) 5000 ((0 : Int32), (1 : Int32))) fun s15 =>
          bif zin v1 8 then
          bif zin ((8 * v2) + v1) 32 then
          bif zin ((4 * (v3 - (I 73 16))) + s15.1) 240 then
          bif zin ((4 * (v3 - (I 73 16))) + v2) 240 then
          Option.bind (f155_gives (I 73 51) (zu (zu (zu (zu (zu (zu (zu (zu I 91 0 v4) 91 1 v1) 91 2 (I 81 v1.toNatClampNeg)) 91 3 v2) 91 4 (I 97 ((8 * v2) + v1).toNatClampNeg)) 91 5 s15.1) 91 6 (I 101 ((4 * (v3 - (I 73 16))) + s15.1).toNatClampNeg)) 91 7 (I 101 ((4 * (v3 - (I 73 16))) + v2).toNatClampNeg))) fun t22 =>
          some (t22.1, t22.2)
          else none
          else none
          else none
          else none
        else
          Option.bind (zloop (f168_goal_L122 v1 v2 v4 (I 73 51) 0 I) 5000 ((0 : Int32), (1 : Int32))) fun s27 =>
          bif zin v1 8 then
          bif zin ((8 * v2) + v1) 32 then
          bif zin (0 + s27.1) 240 then
          bif zin (0 + v2) 240 then
          Option.bind (f155_gives (I 73 51) (zu (zu (zu (zu (zu (zu (zu (zu I 91 0 v4) 91 1 v1) 91 2 (I 81 v1.toNatClampNeg)) 91 3 v2) 91 4 (I 97 ((8 * v2) + v1).toNatClampNeg)) 91 5 s27.1) 91 6 (I 101 (0 + s27.1).toNatClampNeg)) 91 7 (I 101 (0 + v2).toNatClampNeg))) fun t34 =>
          some (t34.1, t34.2)
          else none
          else none
          else none
          else none
    else
      bif zin v1 8 then
      Option.bind (f156_isLaw (I 84 v1.toNatClampNeg) I) fun t39 =>
      if t39 = 0 then
        zbR (zloopR (f168_goal_L60 v1 v2 I) 5000 (0 : Int32)) (fun rr => some rr) fun s44 =>
        some (v2, I)
      else
        if (I 73 16) ≤ v3 then
          Option.bind (zloop (f168_goal_L122 v1 v2 v4 (I 84 v1.toNatClampNeg) (v3 - (I 73 16)) I) 5000 ((0 : Int32), (1 : Int32))) fun s51 =>
          bif zin v1 8 then
          bif zin ((8 * v2) + v1) 32 then
          bif zin ((4 * (v3 - (I 73 16))) + s51.1) 240 then
          bif zin ((4 * (v3 - (I 73 16))) + v2) 240 then
          Option.bind (f155_gives (I 84 v1.toNatClampNeg) (zu (zu (zu (zu (zu (zu (zu (zu I 91 0 v4) 91 1 v1) 91 2 (I 81 v1.toNatClampNeg)) 91 3 v2) 91 4 (I 97 ((8 * v2) + v1).toNatClampNeg)) 91 5 s51.1) 91 6 (I 101 ((4 * (v3 - (I 73 16))) + s51.1).toNatClampNeg)) 91 7 (I 101 ((4 * (v3 - (I 73 16))) + v2).toNatClampNeg))) fun t58 =>
          some (t58.1, t58.2)
          else none
          else none
          else none
          else none
        else
          Option.bind (zloop (f168_goal_L122 v1 v2 v4 (I 84 v1.toNatClampNeg) 0 I) 5000 ((0 : Int32), (1 : Int32))) fun s63 =>
          bif zin v1 8 then
          bif zin ((8 * v2) + v1) 32 then
          bif zin (0 + s63.1) 240 then
          bif zin (0 + v2) 240 then
          Option.bind (f155_gives (I 84 v1.toNatClampNeg) (zu (zu (zu (zu (zu (zu (zu (zu I 91 0 v4) 91 1 v1) 91 2 (I 81 v1.toNatClampNeg)) 91 3 v2) 91 4 (I 97 ((8 * v2) + v1).toNatClampNeg)) 91 5 s63.1) 91 6 (I 101 (0 + s63.1).toNatClampNeg)) 91 7 (I 101 (0 + v2).toNatClampNeg))) fun t70 =>
          some (t70.1, t70.2)
          else none
          else none
          else none
          else none
      else none
theorem ok_f168_goal_L60 {X : zX} {d : Nat} {r : Option Value} {M' : zM} (hd : 3 ≤ d) (v1 : Int32) (v2 : Int32) {I : (Nat → Nat → Int32)} {J : (Nat → Nat → Int64)} : ∀ (n : Nat) (s : Int32) (t : (Int32 × (Nat → Nat → Int32)) ⊕ Int32), zloopR (f168_goal_L60 v1 v2 I) n s = some t → (match t with
    | .inl x => (fun (x : (Int32 × (Nat → Nat → Int32))) => r = (some (.int x.1)) ∧ M' = (SH, x.2, J)) x
    | .inr x => (fun (x : Int32) => zRun X d 168 94 [none, none, some (.int v2), none, none, none, none, none, none] [] (SH, I, J) r M') x) → (fun (s : Int32) => zRun X d 168 60 [some (.ref 73), some (.int v1), some (.int v2), none, none, none, some (.int s), none, none] [] (SH, I, J) r M') s := zloopR_ok (Wh := fun (s : Int32) => zRun X d 168 60 [some (.ref 73), some (.int v1), some (.int v2), none, none, none, some (.int s), none, none] [] (SH, I, J) r M') (Wx := fun (x : Int32) => zRun X d 168 94 [none, none, some (.int v2), none, none, none, none, none, none] [] (SH, I, J) r M') (Wr := fun (x : (Int32 × (Nat → Nat → Int32))) => r = (some (.int x.1)) ∧ M' = (SH, x.2, J)) (fun s y h w => by
  unfold f168_goal_L60 at h
  refine zr_steps 3 (66, [some (.ref 73), some (.int v1), some (.int v2), none, none, none, some (.int s), none, none], [.int (I 73 1), .int s], (SH, I, J)) rfl ?_
  refine zr_one (if (I 73 1) ≤ s then zN 94 [some (.ref 73), some (.int v1), some (.int v2), none, none, none, some (.int s), none, none] [] (SH, I, J) else zN 69 [some (.ref 73), some (.int v1), some (.int v2), none, none, none, some (.int s), none, none] [] (SH, I, J)) rfl (zR_if (fun hc7 => zR_go ?_) (fun hc7 => zR_go ?_))
  · rw [if_pos hc7] at h
    have he := Option.some.inj h
    subst he
    exact zr_hdr rfl rfl (show zRun X d 168 94 [none, none, some (.int v2), none, none, none, none, none, none] [] (SH, I, J) r M' from w)
  · rw [if_neg hc7] at h
    refine zr_steps 3 (75, [some (.ref 73), some (.int v1), some (.int v2), none, none, none, some (.int s), none, none], [.int s, .ref 75], (SH, I, J)) rfl ?_
    obtain ⟨hc4, h⟩ := zbifo h
    refine zr_one (bif zin s 4 then zN 76 [some (.ref 73), some (.int v1), some (.int v2), none, none, none, some (.int s), none, none] [.int (I 75 s.toNatClampNeg)] (SH, I, J) else none) rfl (zR_bif hc4 (zR_go ?_))
    refine zr_steps 3 (81, [some (.ref 73), some (.int v1), some (.int v2), none, none, none, some (.int s), none, none], [.int v1, .ref 81, .int (I 75 s.toNatClampNeg)], (SH, I, J)) rfl ?_
    obtain ⟨hc5, h⟩ := zbifo h
    refine zr_one (bif zin v1 8 then zN 82 [some (.ref 73), some (.int v1), some (.int v2), none, none, none, some (.int s), none, none] [.int (I 81 v1.toNatClampNeg), .int (I 75 s.toNatClampNeg)] (SH, I, J) else none) rfl (zR_bif hc5 (zR_go ?_))
    refine zr_one (if (I 75 s.toNatClampNeg) = (I 81 v1.toNatClampNeg) then zN 85 [some (.ref 73), some (.int v1), some (.int v2), none, none, none, some (.int s), none, none] [] (SH, I, J) else zN 88 [some (.ref 73), some (.int v1), some (.int v2), none, none, none, some (.int s), none, none] [] (SH, I, J)) rfl (zR_if (fun hc6 => zR_go ?_) (fun hc6 => zR_go ?_))
    · rw [if_pos hc6] at h
      refine zr_steps 1 (87, [some (.ref 73), some (.int v1), some (.int v2), none, none, none, some (.int s), none, none], [.int s], (SH, I, J)) rfl ?_
      have he := Option.some.inj h
      subst he
      obtain ⟨e1, e2⟩ := (show r = (some (.int s)) ∧ M' = (SH, I, J) from w)
      exact zr_one (some (.inr (.inr (some (.int s))))) rfl (zR_ret e1.symm e2.symm)
    · rw [if_neg hc6] at h
      refine zr_steps 2 (60, [some (.ref 73), some (.int v1), some (.int v2), none, none, none, some (.int (s + 1)), none, none], [], (SH, I, J)) rfl ?_
      have he := Option.some.inj h
      subst he
      exact zr_hdr rfl rfl (show zRun X d 168 60 [some (.ref 73), some (.int v1), some (.int v2), none, none, none, some (.int (s + 1)), none, none] [] (SH, I, J) r M' from w))
theorem ok_f168_goal_L122 {X : zX} {d : Nat} {r : Option Value} {M' : zM} (hd : 3 ≤ d) (v1 : Int32) (v2 : Int32) (v4 : Int32) (v5 : Int32) (v6 : Int32) {I : (Nat → Nat → Int32)} {J : (Nat → Nat → Int64)} : ∀ (n : Nat) (s x : (Int32 × Int32)), zloop (f168_goal_L122 v1 v2 v4 v5 v6 I) n s = some x → (fun (x : (Int32 × Int32)) => zRun X d 168 168 [some (.ref 73), some (.int v1), some (.int v2), none, some (.int v4), some (.int v5), some (.int v6), some (.int x.1), none] [] (SH, I, J) r M') x → (fun (s : (Int32 × Int32)) => zRun X d 168 122 [some (.ref 73), some (.int v1), some (.int v2), none, some (.int v4), some (.int v5), some (.int v6), some (.int s.1), some (.int s.2)] [] (SH, I, J) r M') s := zloop_ok (Wh := fun (s : (Int32 × Int32)) => zRun X d 168 122 [some (.ref 73), some (.int v1), some (.int v2), none, some (.int v4), some (.int v5), some (.int v6), some (.int s.1), some (.int s.2)] [] (SH, I, J) r M') (Wx := fun (x : (Int32 × Int32)) => zRun X d 168 168 [some (.ref 73), some (.int v1), some (.int v2), none, some (.int v4), some (.int v5), some (.int v6), some (.int x.1), none] [] (SH, I, J) r M') (fun s y h w => by
  unfold f168_goal_L122 at h
  refine zr_steps 3 (128, [some (.ref 73), some (.int v1), some (.int v2), none, some (.int v4), some (.int v5), some (.int v6), some (.int s.1), some (.int s.2)], [.int (I 73 1), .int s.2], (SH, I, J)) rfl ?_
  refine zr_one (if (I 73 1) ≤ s.2 then zN 168 [some (.ref 73), some (.int v1), some (.int v2), none, some (.int v4), some (.int v5), some (.int v6), some (.int s.1), some (.int s.2)] [] (SH, I, J) else zN 131 [some (.ref 73), some (.int v1), some (.int v2), none, some (.int v4), some (.int v5), some (.int v6), some (.int s.1), some (.int s.2)] [] (SH, I, J)) rfl (zR_if (fun hc14 => zR_go ?_) (fun hc14 => zR_go ?_))
  · rw [if_pos hc14] at h
    have he := Option.some.inj h
    subst he
    exact zr_hdr rfl rfl (show zRun X d 168 168 [some (.ref 73), some (.int v1), some (.int v2), none, some (.int v4), some (.int v5), some (.int v6), some (.int s.1), none] [] (SH, I, J) r M' from w)
  · rw [if_neg hc14] at h
    refine zr_steps 7 (142, [some (.ref 73), some (.int v1), some (.int v2), none, some (.int v4), some (.int v5), some (.int v6), some (.int s.1), some (.int s.2)], [.int ((4 * v6) + s.2), .ref 101], (SH, I, J)) rfl ?_
    obtain ⟨hc11, h⟩ := zbifo h
    refine zr_one (bif zin ((4 * v6) + s.2) 240 then zN 143 [some (.ref 73), some (.int v1), some (.int v2), none, some (.int v4), some (.int v5), some (.int v6), some (.int s.1), some (.int s.2)] [.int (I 101 ((4 * v6) + s.2).toNatClampNeg)] (SH, I, J) else none) rfl (zR_bif hc11 (zR_go ?_))
    refine zr_steps 7 (154, [some (.ref 73), some (.int v1), some (.int v2), none, some (.int v4), some (.int v5), some (.int v6), some (.int s.1), some (.int s.2)], [.int ((4 * v6) + s.1), .ref 101, .int (I 101 ((4 * v6) + s.2).toNatClampNeg)], (SH, I, J)) rfl ?_
    obtain ⟨hc12, h⟩ := zbifo h
    refine zr_one (bif zin ((4 * v6) + s.1) 240 then zN 155 [some (.ref 73), some (.int v1), some (.int v2), none, some (.int v4), some (.int v5), some (.int v6), some (.int s.1), some (.int s.2)] [.int (I 101 ((4 * v6) + s.1).toNatClampNeg), .int (I 101 ((4 * v6) + s.2).toNatClampNeg)] (SH, I, J) else none) rfl (zR_bif hc12 (zR_go ?_))
    refine zr_one (if (I 101 ((4 * v6) + s.2).toNatClampNeg) ≤ (I 101 ((4 * v6) + s.1).toNatClampNeg) then zN 162 [some (.ref 73), some (.int v1), some (.int v2), none, some (.int v4), some (.int v5), some (.int v6), some (.int s.1), some (.int s.2)] [] (SH, I, J) else zN 158 [some (.ref 73), some (.int v1), some (.int v2), none, some (.int v4), some (.int v5), some (.int v6), some (.int s.1), some (.int s.2)] [] (SH, I, J)) rfl (zR_if (fun hc13 => zR_go ?_) (fun hc13 => zR_go ?_))
    · rw [if_pos hc13] at h
      refine zr_steps 2 (122, [some (.ref 73), some (.int v1), some (.int v2), none, some (.int v4), some (.int v5), some (.int v6), some (.int s.1), some (.int (s.2 + 1))], [], (SH, I, J)) rfl ?_
      have he := Option.some.inj h
      subst he
      exact zr_hdr rfl rfl (show zRun X d 168 122 [some (.ref 73), some (.int v1), some (.int v2), none, some (.int v4), some (.int v5), some (.int v6), some (.int s.1), some (.int (s.2 + 1))] [] (SH, I, J) r M' from w)
    · rw [if_neg hc13] at h
      refine zr_steps 4 (122, [some (.ref 73), some (.int v1), some (.int v2), none, some (.int v4), some (.int v5), some (.int v6), some (.int s.2), some (.int (s.2 + 1))], [], (SH, I, J)) rfl ?_
      have he := Option.some.inj h
      subst he
      exact zr_hdr rfl rfl (show zRun X d 168 122 [some (.ref 73), some (.int v1), some (.int v2), none, some (.int v4), some (.int v5), some (.int v6), some (.int s.2), some (.int (s.2 + 1))] [] (SH, I, J) r M' from w))
theorem ok_f168_goal_L122 {X : zX} {d : Nat} {r : Option Value} {M' : zM} (hd : 3 ≤ d) (v1 : Int32) (v2 : Int32) (v4 : Int32) (v5 : Int32) (v6 : Int32) {I : (Nat → Nat → Int32)} {J : (Nat → Nat → Int64)} : ∀ (n : Nat) (s x : (Int32 × Int32)), zloop (f168_goal_L122 v1 v2 v4 v5 v6 I) n s = some x → (fun (x : (Int32 × Int32)) => zRun X d 168 168 [some (.ref 73), some (.int v1), some (.int v2), none, some (.int v4), some (.int v5), some (.int v6), some (.int x.1), none] [] (SH, I, J) r M') x → (fun (s : (Int32 × Int32)) => zRun X d 168 122 [some (.ref 73), some (.int v1), some (.int v2), none, some (.int v4), some (.int v5), some (.int v6), some (.int s.1), some (.int s.2)] [] (SH, I, J) r M') s := zloop_ok (Wh := fun (s : (Int32 × Int32)) => zRun X d 168 122 [some (.ref 73), some (.int v1), some (.int v2), none, some (.int v4), some (.int v5), some (.int v6), some (.int s.1), some (.int s.2)] [] (SH, I, J) r M') (Wx := fun (x : (Int32 × Int32)) => zRun X d 168 168 [some (.ref 73), some (.int v1), some (.int v2), none, some (.int v4), some (.int v5), some (.int v6), some (.int x.1), none] [] (SH, I, J) r M') (fun s y h w => by
  unfold f168_goal_L122 at h
  refine zr_steps 3 (128, [some (.ref 73), some (.int v1), some (.int v2), none, some (.int v4), some (.int v5), some (.int v6), some (.int s.1), some (.int s.2)], [.int (I 73 1), .int s.2], (SH, I, J)) rfl ?_
  refine zr_one (if (I 73 1) ≤ s.2 then zN 168 [some (.ref 73), some (.int v1), some (.int v2), none, some (.int v4), some (.int v5), some (.int v6), some (.int s.1), some (.int s.2)] [] (SH, I, J) else zN 131 [some (.ref 73), some (.int v1), some (.int v2), none, some (.int v4), some (.int v5), some (.int v6), some (.int s.1), some (.int s.2)] [] (SH, I, J)) rfl (zR_if (fun hc26 => zR_go ?_) (fun hc26 => zR_go ?_))
  · rw [if_pos hc26] at h
    have he := Option.some.inj h
    subst he
    exact zr_hdr rfl rfl (show zRun X d 168 168 [some (.ref 73), some (.int v1), some (.int v2), none, some (.int v4), some (.int v5), some (.int v6), some (.int s.1), none] [] (SH, I, J) r M' from w)
  · rw [if_neg hc26] at h
    refine zr_steps 7 (142, [some (.ref 73), some (.int v1), some (.int v2), none, some (.int v4), some (.int v5), some (.int v6), some (.int s.1), some (.int s.2)], [.int ((4 * v6) + s.2), .ref 101], (SH, I, J)) rfl ?_
    obtain ⟨hc23, h⟩ := zbifo h
    refine zr_one (bif zin ((4 * v6) + s.2) 240 then zN 143 [some (.ref 73), some (.int v1), some (.int v2), none, some (.int v4), some (.int v5), some (.int v6), some (.int s.1), some (.int s.2)] [.int (I 101 ((4 * v6) + s.2).toNatClampNeg)] (SH, I, J) else none) rfl (zR_bif hc23 (zR_go ?_))
    refine zr_steps 7 (154, [some (.ref 73), some (.int v1), some (.int v2), none, some (.int v4), some (.int v5), some (.int v6), some (.int s.1), some (.int s.2)], [.int ((4 * v6) + s.1), .ref 101, .int (I 101 ((4 * v6) + s.2).toNatClampNeg)], (SH, I, J)) rfl ?_
    obtain ⟨hc24, h⟩ := zbifo h
    refine zr_one (bif zin ((4 * v6) + s.1) 240 then zN 155 [some (.ref 73), some (.int v1), some (.int v2), none, some (.int v4), some (.int v5), some (.int v6), some (.int s.1), some (.int s.2)] [.int (I 101 ((4 * v6) + s.1).toNatClampNeg), .int (I 101 ((4 * v6) + s.2).toNatClampNeg)] (SH, I, J) else none) rfl (zR_bif hc24 (zR_go ?_))
    refine zr_one (if (I 101 ((4 * v6) + s.2).toNatClampNeg) ≤ (I 101 ((4 * v6) + s.1).toNatClampNeg) then zN 162 [some (.ref 73), some (.int v1), some (.int v2), none, some (.int v4), some (.int v5), some (.int v6), some (.int s.1), some (.int s.2)] [] (SH, I, J) else zN 158 [some (.ref 73), some (.int v1), some (.int v2), none, some (.int v4), some (.int v5), some (.int v6), some (.int s.1), some (.int s.2)] [] (SH, I, J)) rfl (zR_if (fun hc25 => zR_go ?_) (fun hc25 => zR_go ?_))
    · rw [if_pos hc25] at h
      refine zr_steps 2 (122, [some (.ref 73), some (.int v1), some (.int v2), none, some (.int v4), some (.int v5), some (.int v6), some (.int s.1), some (.int (s.2 + 1))], [], (SH, I, J)) rfl ?_
      have he := Option.some.inj h
      subst he
      exact zr_hdr rfl rfl (show zRun X d 168 122 [some (.ref 73), some (.int v1), some (.int v2), none, some (.int v4), some (.int v5), some (.int v6), some (.int s.1), some (.int (s.2 + 1))] [] (SH, I, J) r M' from w)
    · rw [if_neg hc25] at h
      refine zr_steps 4 (122, [some (.ref 73), some (.int v1), some (.int v2), none, some (.int v4), some (.int v5), some (.int v6), some (.int s.2), some (.int (s.2 + 1))], [], (SH, I, J)) rfl ?_
      have he := Option.some.inj h
      subst he
      exact zr_hdr rfl rfl (show zRun X d 168 122 [some (.ref 73), some (.int v1), some (.int v2), none, some (.int v4), some (.int v5), some (.int v6), some (.int s.2), some (.int (s.2 + 1))] [] (SH, I, J) r M' from w))
theorem ok_f168_goal_L60 {X : zX} {d : Nat} {r : Option Value} {M' : zM} (hd : 3 ≤ d) (v1 : Int32) (v2 : Int32) {I : (Nat → Nat → Int32)} {J : (Nat → Nat → Int64)} : ∀ (n : Nat) (s : Int32) (t : (Int32 × (Nat → Nat → Int32)) ⊕ Int32), zloopR (f168_goal_L60 v1 v2 I) n s = some t → (match t with
    | .inl x => (fun (x : (Int32 × (Nat → Nat → Int32))) => r = (some (.int x.1)) ∧ M' = (SH, x.2, J)) x
    | .inr x => (fun (x : Int32) => zRun X d 168 94 [none, none, some (.int v2), none, none, none, none, none, none] [] (SH, I, J) r M') x) → (fun (s : Int32) => zRun X d 168 60 [some (.ref 73), some (.int v1), some (.int v2), none, none, none, some (.int s), none, none] [] (SH, I, J) r M') s := zloopR_ok (Wh := fun (s : Int32) => zRun X d 168 60 [some (.ref 73), some (.int v1), some (.int v2), none, none, none, some (.int s), none, none] [] (SH, I, J) r M') (Wx := fun (x : Int32) => zRun X d 168 94 [none, none, some (.int v2), none, none, none, none, none, none] [] (SH, I, J) r M') (Wr := fun (x : (Int32 × (Nat → Nat → Int32))) => r = (some (.int x.1)) ∧ M' = (SH, x.2, J)) (fun s y h w => by
  unfold f168_goal_L60 at h
  refine zr_steps 3 (66, [some (.ref 73), some (.int v1), some (.int v2), none, none, none, some (.int s), none, none], [.int (I 73 1), .int s], (SH, I, J)) rfl ?_
  refine zr_one (if (I 73 1) ≤ s then zN 94 [some (.ref 73), some (.int v1), some (.int v2), none, none, none, some (.int s), none, none] [] (SH, I, J) else zN 69 [some (.ref 73), some (.int v1), some (.int v2), none, none, none, some (.int s), none, none] [] (SH, I, J)) rfl (zR_if (fun hc43 => zR_go ?_) (fun hc43 => zR_go ?_))
  · rw [if_pos hc43] at h
    have he := Option.some.inj h
    subst he
    exact zr_hdr rfl rfl (show zRun X d 168 94 [none, none, some (.int v2), none, none, none, none, none, none] [] (SH, I, J) r M' from w)
  · rw [if_neg hc43] at h
    refine zr_steps 3 (75, [some (.ref 73), some (.int v1), some (.int v2), none, none, none, some (.int s), none, none], [.int s, .ref 75], (SH, I, J)) rfl ?_
    obtain ⟨hc40, h⟩ := zbifo h
    refine zr_one (bif zin s 4 then zN 76 [some (.ref 73), some (.int v1), some (.int v2), none, none, none, some (.int s), none, none] [.int (I 75 s.toNatClampNeg)] (SH, I, J) else none) rfl (zR_bif hc40 (zR_go ?_))
    refine zr_steps 3 (81, [some (.ref 73), some (.int v1), some (.int v2), none, none, none, some (.int s), none, none], [.int v1, .ref 81, .int (I 75 s.toNatClampNeg)], (SH, I, J)) rfl ?_
    obtain ⟨hc41, h⟩ := zbifo h
    refine zr_one (bif zin v1 8 then zN 82 [some (.ref 73), some (.int v1), some (.int v2), none, none, none, some (.int s), none, none] [.int (I 81 v1.toNatClampNeg), .int (I 75 s.toNatClampNeg)] (SH, I, J) else none) rfl (zR_bif hc41 (zR_go ?_))
    refine zr_one (if (I 75 s.toNatClampNeg) = (I 81 v1.toNatClampNeg) then zN 85 [some (.ref 73), some (.int v1), some (.int v2), none, none, none, some (.int s), none, none] [] (SH, I, J) else zN 88 [some (.ref 73), some (.int v1), some (.int v2), none, none, none, some (.int s), none, none] [] (SH, I, J)) rfl (zR_if (fun hc42 => zR_go ?_) (fun hc42 => zR_go ?_))
    · rw [if_pos hc42] at h
      refine zr_steps 1 (87, [some (.ref 73), some (.int v1), some (.int v2), none, none, none, some (.int s), none, none], [.int s], (SH, I, J)) rfl ?_
      have he := Option.some.inj h
      subst he
      obtain ⟨e1, e2⟩ := (show r = (some (.int s)) ∧ M' = (SH, I, J) from w)
      exact zr_one (some (.inr (.inr (some (.int s))))) rfl (zR_ret e1.symm e2.symm)
    · rw [if_neg hc42] at h
      refine zr_steps 2 (60, [some (.ref 73), some (.int v1), some (.int v2), none, none, none, some (.int (s + 1)), none, none], [], (SH, I, J)) rfl ?_
      have he := Option.some.inj h
      subst he
      exact zr_hdr rfl rfl (show zRun X d 168 60 [some (.ref 73), some (.int v1), some (.int v2), none, none, none, some (.int (s + 1)), none, none] [] (SH, I, J) r M' from w))
theorem ok_f168_goal_L122 {X : zX} {d : Nat} {r : Option Value} {M' : zM} (hd : 3 ≤ d) (v1 : Int32) (v2 : Int32) (v4 : Int32) (v5 : Int32) (v6 : Int32) {I : (Nat → Nat → Int32)} {J : (Nat → Nat → Int64)} : ∀ (n : Nat) (s x : (Int32 × Int32)), zloop (f168_goal_L122 v1 v2 v4 v5 v6 I) n s = some x → (fun (x : (Int32 × Int32)) => zRun X d 168 168 [some (.ref 73), some (.int v1), some (.int v2), none, some (.int v4), some (.int v5), some (.int v6), some (.int x.1), none] [] (SH, I, J) r M') x → (fun (s : (Int32 × Int32)) => zRun X d 168 122 [some (.ref 73), some (.int v1), some (.int v2), none, some (.int v4), some (.int v5), some (.int v6), some (.int s.1), some (.int s.2)] [] (SH, I, J) r M') s := zloop_ok (Wh := fun (s : (Int32 × Int32)) => zRun X d 168 122 [some (.ref 73), some (.int v1), some (.int v2), none, some (.int v4), some (.int v5), some (.int v6), some (.int s.1), some (.int s.2)] [] (SH, I, J) r M') (Wx := fun (x : (Int32 × Int32)) => zRun X d 168 168 [some (.ref 73), some (.int v1), some (.int v2), none, some (.int v4), some (.int v5), some (.int v6), some (.int x.1), none] [] (SH, I, J) r M') (fun s y h w => by
  unfold f168_goal_L122 at h
  refine zr_steps 3 (128, [some (.ref 73), some (.int v1), some (.int v2), none, some (.int v4), some (.int v5), some (.int v6), some (.int s.1), some (.int s.2)], [.int (I 73 1), .int s.2], (SH, I, J)) rfl ?_
  refine zr_one (if (I 73 1) ≤ s.2 then zN 168 [some (.ref 73), some (.int v1), some (.int v2), none, some (.int v4), some (.int v5), some (.int v6), some (.int s.1), some (.int s.2)] [] (SH, I, J) else zN 131 [some (.ref 73), some (.int v1), some (.int v2), none, some (.int v4), some (.int v5), some (.int v6), some (.int s.1), some (.int s.2)] [] (SH, I, J)) rfl (zR_if (fun hc50 => zR_go ?_) (fun hc50 => zR_go ?_))
  · rw [if_pos hc50] at h
    have he := Option.some.inj h
    subst he
    exact zr_hdr rfl rfl (show zRun X d 168 168 [some (.ref 73), some (.int v1), some (.int v2), none, some (.int v4), some (.int v5), some (.int v6), some (.int s.1), none] [] (SH, I, J) r M' from w)
  · rw [if_neg hc50] at h
    refine zr_steps 7 (142, [some (.ref 73), some (.int v1), some (.int v2), none, some (.int v4), some (.int v5), some (.int v6), some (.int s.1), some (.int s.2)], [.int ((4 * v6) + s.2), .ref 101], (SH, I, J)) rfl ?_
    obtain ⟨hc47, h⟩ := zbifo h
    refine zr_one (bif zin ((4 * v6) + s.2) 240 then zN 143 [some (.ref 73), some (.int v1), some (.int v2), none, some (.int v4), some (.int v5), some (.int v6), some (.int s.1), some (.int s.2)] [.int (I 101 ((4 * v6) + s.2).toNatClampNeg)] (SH, I, J) else none) rfl (zR_bif hc47 (zR_go ?_))
    refine zr_steps 7 (154, [some (.ref 73), some (.int v1), some (.int v2), none, some (.int v4), some (.int v5), some (.int v6), some (.int s.1), some (.int s.2)], [.int ((4 * v6) + s.1), .ref 101, .int (I 101 ((4 * v6) + s.2).toNatClampNeg)], (SH, I, J)) rfl ?_
    obtain ⟨hc48, h⟩ := zbifo h
    refine zr_one (bif zin ((4 * v6) + s.1) 240 then zN 155 [some (.ref 73), some (.int v1), some (.int v2), none, some (.int v4), some (.int v5), some (.int v6), some (.int s.1), some (.int s.2)] [.int (I 101 ((4 * v6) + s.1).toNatClampNeg), .int (I 101 ((4 * v6) + s.2).toNatClampNeg)] (SH, I, J) else none) rfl (zR_bif hc48 (zR_go ?_))
    refine zr_one (if (I 101 ((4 * v6) + s.2).toNatClampNeg) ≤ (I 101 ((4 * v6) + s.1).toNatClampNeg) then zN 162 [some (.ref 73), some (.int v1), some (.int v2), none, some (.int v4), some (.int v5), some (.int v6), some (.int s.1), some (.int s.2)] [] (SH, I, J) else zN 158 [some (.ref 73), some (.int v1), some (.int v2), none, some (.int v4), some (.int v5), some (.int v6), some (.int s.1), some (.int s.2)] [] (SH, I, J)) rfl (zR_if (fun hc49 => zR_go ?_) (fun hc49 => zR_go ?_))
    · rw [if_pos hc49] at h
      refine zr_steps 2 (122, [some (.ref 73), some (.int v1), some (.int v2), none, some (.int v4), some (.int v5), some (.int v6), some (.int s.1), some (.int (s.2 + 1))], [], (SH, I, J)) rfl ?_
      have he := Option.some.inj h
      subst he
      exact zr_hdr rfl rfl (show zRun X d 168 122 [some (.ref 73), some (.int v1), some (.int v2), none, some (.int v4), some (.int v5), some (.int v6), some (.int s.1), some (.int (s.2 + 1))] [] (SH, I, J) r M' from w)
    · rw [if_neg hc49] at h
      refine zr_steps 4 (122, [some (.ref 73), some (.int v1), some (.int v2), none, some (.int v4), some (.int v5), some (.int v6), some (.int s.2), some (.int (s.2 + 1))], [], (SH, I, J)) rfl ?_
      have he := Option.some.inj h
      subst he
      exact zr_hdr rfl rfl (show zRun X d 168 122 [some (.ref 73), some (.int v1), some (.int v2), none, some (.int v4), some (.int v5), some (.int v6), some (.int s.2), some (.int (s.2 + 1))] [] (SH, I, J) r M' from w))
theorem ok_f168_goal_L122 {X : zX} {d : Nat} {r : Option Value} {M' : zM} (hd : 3 ≤ d) (v1 : Int32) (v2 : Int32) (v4 : Int32) (v5 : Int32) (v6 : Int32) {I : (Nat → Nat → Int32)} {J : (Nat → Nat → Int64)} : ∀ (n : Nat) (s x : (Int32 × Int32)), zloop (f168_goal_L122 v1 v2 v4 v5 v6 I) n s = some x → (fun (x : (Int32 × Int32)) => zRun X d 168 168 [some (.ref 73), some (.int v1), some (.int v2), none, some (.int v4), some (.int v5), some (.int v6), some (.int x.1), none] [] (SH, I, J) r M') x → (fun (s : (Int32 × Int32)) => zRun X d 168 122 [some (.ref 73), some (.int v1), some (.int v2), none, some (.int v4), some (.int v5), some (.int v6), some (.int s.1), some (.int s.2)] [] (SH, I, J) r M') s := zloop_ok (Wh := fun (s : (Int32 × Int32)) => zRun X d 168 122 [some (.ref 73), some (.int v1), some (.int v2), none, some (.int v4), some (.int v5), some (.int v6), some (.int s.1), some (.int s.2)] [] (SH, I, J) r M') (Wx := fun (x : (Int32 × Int32)) => zRun X d 168 168 [some (.ref 73), some (.int v1), some (.int v2), none, some (.int v4), some (.int v5), some (.int v6), some (.int x.1), none] [] (SH, I, J) r M') (fun s y h w => by
  unfold f168_goal_L122 at h
  refine zr_steps 3 (128, [some (.ref 73), some (.int v1), some (.int v2), none, some (.int v4), some (.int v5), some (.int v6), some (.int s.1), some (.int s.2)], [.int (I 73 1), .int s.2], (SH, I, J)) rfl ?_
  refine zr_one (if (I 73 1) ≤ s.2 then zN 168 [some (.ref 73), some (.int v1), some (.int v2), none, some (.int v4), some (.int v5), some (.int v6), some (.int s.1), some (.int s.2)] [] (SH, I, J) else zN 131 [some (.ref 73), some (.int v1), some (.int v2), none, some (.int v4), some (.int v5), some (.int v6), some (.int s.1), some (.int s.2)] [] (SH, I, J)) rfl (zR_if (fun hc62 => zR_go ?_) (fun hc62 => zR_go ?_))
  · rw [if_pos hc62] at h
    have he := Option.some.inj h
    subst he
    exact zr_hdr rfl rfl (show zRun X d 168 168 [some (.ref 73), some (.int v1), some (.int v2), none, some (.int v4), some (.int v5), some (.int v6), some (.int s.1), none] [] (SH, I, J) r M' from w)
  · rw [if_neg hc62] at h
    refine zr_steps 7 (142, [some (.ref 73), some (.int v1), some (.int v2), none, some (.int v4), some (.int v5), some (.int v6), some (.int s.1), some (.int s.2)], [.int ((4 * v6) + s.2), .ref 101], (SH, I, J)) rfl ?_
    obtain ⟨hc59, h⟩ := zbifo h
    refine zr_one (bif zin ((4 * v6) + s.2) 240 then zN 143 [some (.ref 73), some (.int v1), some (.int v2), none, some (.int v4), some (.int v5), some (.int v6), some (.int s.1), some (.int s.2)] [.int (I 101 ((4 * v6) + s.2).toNatClampNeg)] (SH, I, J) else none) rfl (zR_bif hc59 (zR_go ?_))
    refine zr_steps 7 (154, [some (.ref 73), some (.int v1), some (.int v2), none, some (.int v4), some (.int v5), some (.int v6), some (.int s.1), some (.int s.2)], [.int ((4 * v6) + s.1), .ref 101, .int (I 101 ((4 * v6) + s.2).toNatClampNeg)], (SH, I, J)) rfl ?_
    obtain ⟨hc60, h⟩ := zbifo h
    refine zr_one (bif zin ((4 * v6) + s.1) 240 then zN 155 [some (.ref 73), some (.int v1), some (.int v2), none, some (.int v4), some (.int v5), some (.int v6), some (.int s.1), some (.int s.2)] [.int (I 101 ((4 * v6) + s.1).toNatClampNeg), .int (I 101 ((4 * v6) + s.2).toNatClampNeg)] (SH, I, J) else none) rfl (zR_bif hc60 (zR_go ?_))
    refine zr_one (if (I 101 ((4 * v6) + s.2).toNatClampNeg) ≤ (I 101 ((4 * v6) + s.1).toNatClampNeg) then zN 162 [some (.ref 73), some (.int v1), some (.int v2), none, some (.int v4), some (.int v5), some (.int v6), some (.int s.1), some (.int s.2)] [] (SH, I, J) else zN 158 [some (.ref 73), some (.int v1), some (.int v2), none, some (.int v4), some (.int v5), some (.int v6), some (.int s.1), some (.int s.2)] [] (SH, I, J)) rfl (zR_if (fun hc61 => zR_go ?_) (fun hc61 => zR_go ?_))
    · rw [if_pos hc61] at h
      refine zr_steps 2 (122, [some (.ref 73), some (.int v1), some (.int v2), none, some (.int v4), some (.int v5), some (.int v6), some (.int s.1), some (.int (s.2 + 1))], [], (SH, I, J)) rfl ?_
      have he := Option.some.inj h
      subst he
      exact zr_hdr rfl rfl (show zRun X d 168 122 [some (.ref 73), some (.int v1), some (.int v2), none, some (.int v4), some (.int v5), some (.int v6), some (.int s.1), some (.int (s.2 + 1))] [] (SH, I, J) r M' from w)
    · rw [if_neg hc61] at h
      refine zr_steps 4 (122, [some (.ref 73), some (.int v1), some (.int v2), none, some (.int v4), some (.int v5), some (.int v6), some (.int s.2), some (.int (s.2 + 1))], [], (SH, I, J)) rfl ?_
      have he := Option.some.inj h
      subst he
      exact zr_hdr rfl rfl (show zRun X d 168 122 [some (.ref 73), some (.int v1), some (.int v2), none, some (.int v4), some (.int v5), some (.int v6), some (.int s.2), some (.int (s.2 + 1))] [] (SH, I, J) r M' from w))
theorem ok_f168_goal {X : zX} {d : Nat} (hd : 3 ≤ d) (v1 : Int32) (v2 : Int32) (v3 : Int32) (v4 : Int32) {I : (Nat → Nat → Int32)} {J : (Nat → Nat → Int64)} (t : (Int32 × (Nat → Nat → Int32))) (h : f168_goal v1 v2 v3 v4 I = some t) : zRun X d 168 0 (zent 168 [.ref 73, .int v1, .int v2, .int v3, .int v4]) [] (SH, I, J) (some (.int t.1)) (SH, t.2, J) := by
  unfold f168_goal at h
  refine zr_steps 3 (5, [some (.ref 73), some (.int v1), some (.int v2), some (.int v3), some (.int v4), none, none, none, none], [.int (I 73 47), .int v1], (SH, I, J)) rfl ?_
  refine zr_one (if v1 = (I 73 47) then zN 8 [some (.ref 73), some (.int v1), some (.int v2), some (.int v3), some (.int v4), none, none, none, none] [] (SH, I, J) else zN 25 [some (.ref 73), some (.int v1), some (.int v2), some (.int v3), some (.int v4), none, none, none, none] [] (SH, I, J)) rfl (zR_if (fun hc74 => zR_go ?_) (fun hc74 => zR_go ?_))
  · rw [if_pos hc74] at h
    refine zr_steps 3 (13, [some (.ref 73), some (.int v1), some (.int v2), some (.int v3), some (.int v4), none, none, none, none], [.int (I 73 48), .int v3], (SH, I, J)) rfl ?_
    refine zr_one (if (I 73 48) ≤ v3 then zN 20 [some (.ref 73), some (.int v1), some (.int v2), some (.int v3), some (.int v4), none, none, none, none] [] (SH, I, J) else zN 16 [some (.ref 73), some (.int v1), some (.int v2), some (.int v3), some (.int v4), none, none, none, none] [] (SH, I, J)) rfl (zR_if (fun hc1 => zR_go ?_) (fun hc1 => zR_go ?_))
    · rw [if_pos hc1] at h
      refine zr_steps 2 (24, [some (.ref 73), some (.int v1), some (.int v2), some (.int v3), some (.int v4), none, none, none, none], [.int (I 73 49)], (SH, I, J)) rfl ?_
      have he := Option.some.inj h
      subst he
      exact zr_one (some (.inr (.inr (some (.int (I 73 49)))))) rfl (zR_ret rfl rfl)
    · rw [if_neg hc1] at h
      refine zr_steps 2 (24, [some (.ref 73), some (.int v1), some (.int v2), some (.int v3), some (.int v4), none, none, none, none], [.int v2], (SH, I, J)) rfl ?_
      have he := Option.some.inj h
      subst he
      exact zr_one (some (.inr (.inr (some (.int v2))))) rfl (zR_ret rfl rfl)
  · rw [if_neg hc74] at h
    refine zr_steps 3 (30, [some (.ref 73), some (.int v1), some (.int v2), some (.int v3), some (.int v4), none, none, none, none], [.int (I 73 50), .int v1], (SH, I, J)) rfl ?_
    refine zr_one (if v1 = (I 73 50) then zN 33 [some (.ref 73), some (.int v1), some (.int v2), some (.int v3), some (.int v4), none, none, none, none] [] (SH, I, J) else zN 40 [some (.ref 73), some (.int v1), some (.int v2), some (.int v3), some (.int v4), none, none, none, none] [] (SH, I, J)) rfl (zR_if (fun hc73 => zR_go ?_) (fun hc73 => zR_go ?_))
    · rw [if_pos hc73] at h
      refine zr_steps 6 (51, [some (.ref 73), some (.int v1), some (.int v2), some (.int v3), some (.int v4), some (.int (I 73 51)), none, none, none], [.int (I 73 51), .ref 73], (SH, I, J)) rfl ?_
      obtain ⟨t3, hc2, h⟩ := zbind h
      refine zr_one (some (.inr (.inl (156, [.ref 73, .int (I 73 51)], [], 54)))) rfl (zR_call (by omega) rfl (ok_f156_isLaw (by omega) (I 73 51) _ hc2) ?_)
      refine zr_one (if t3 = 0 then zN 57 [some (.ref 73), some (.int v1), some (.int v2), some (.int v3), some (.int v4), some (.int (I 73 51)), none, none, none] [] (SH, I, J) else zN 96 [some (.ref 73), some (.int v1), some (.int v2), some (.int v3), some (.int v4), some (.int (I 73 51)), none, none, none] [] (SH, I, J)) rfl (zR_if (fun hc36 => zR_go ?_) (fun hc36 => zR_go ?_))
      · rw [if_pos hc36] at h
        refine zr_steps 2 (60, [some (.ref 73), some (.int v1), some (.int v2), some (.int v3), some (.int v4), some (.int (I 73 51)), some (.int 0), none, none], [], (SH, I, J)) rfl ?_
        obtain ⟨y10, ho9, hy⟩ := zbRe h
        refine zr_hdr (ls2 := [some (.ref 73), some (.int v1), some (.int v2), none, none, none, some (.int 0), none, none]) rfl rfl ?_
        refine ok_f168_goal_L60 (by omega) v1 v2 5000 (0 : Int32) y10 ho9 ?_
        rcases hy with ⟨rr, rfl, h⟩ | ⟨s8, rfl, h⟩
        · have he := Option.some.inj h
          subst he
          exact ⟨rfl, rfl⟩
        · show zRun X d 168 94 [none, none, some (.int v2), none, none, none, none, none, none] [] (SH, I, J) _ _
          refine zr_steps 1 (95, [none, none, some (.int v2), none, none, none, none, none, none], [.int v2], (SH, I, J)) rfl ?_
          have he := Option.some.inj h
          subst he
          exact zr_one (some (.inr (.inr (some (.int v2))))) rfl (zR_ret rfl rfl)
      · rw [if_neg hc36] at h
        refine zr_steps 3 (101, [some (.ref 73), some (.int v1), some (.int v2), some (.int v3), some (.int v4), some (.int (I 73 51)), none, none, none], [.int (I 73 16), .int v3], (SH, I, J)) rfl ?_
        refine zr_one (if (I 73 16) ≤ v3 then zN 108 [some (.ref 73), some (.int v1), some (.int v2), some (.int v3), some (.int v4), some (.int (I 73 51)), none, none, none] [] (SH, I, J) else zN 104 [some (.ref 73), some (.int v1), some (.int v2), some (.int v3), some (.int v4), some (.int (I 73 51)), none, none, none] [] (SH, I, J)) rfl (zR_if (fun hc35 => zR_go ?_) (fun hc35 => zR_go ?_))
        · rw [if_pos hc35] at h
          refine zr_steps 9 (122, [some (.ref 73), some (.int v1), some (.int v2), some (.int v3), some (.int v4), some (.int (I 73 51)), some (.int (v3 - (I 73 16))), some (.int 0), some (.int 1)], [], (SH, I, J)) rfl ?_
          obtain ⟨s15, ho16, h⟩ := zbind h
          refine zr_hdr (ls2 := [some (.ref 73), some (.int v1), some (.int v2), none, some (.int v4), some (.int (I 73 51)), some (.int (v3 - (I 73 16))), some (.int 0), some (.int 1)]) rfl rfl ?_
          refine ok_f168_goal_L122 (by omega) v1 v2 v4 (I 73 51) (v3 - (I 73 16)) 5000 ((0 : Int32), (1 : Int32)) s15 ho16 ?_
          show zRun X d 168 168 [some (.ref 73), some (.int v1), some (.int v2), none, some (.int v4), some (.int (I 73 51)), some (.int (v3 - (I 73 16))), some (.int s15.1), none] [] (SH, I, J) _ _
          refine zr_steps 4 (175, [some (.ref 73), some (.int v1), some (.int v2), none, some (.int v4), some (.int (I 73 51)), some (.int (v3 - (I 73 16))), some (.int s15.1), none], [.int v4, .int 0, .ref 91], (SH, I, J)) rfl ?_
          refine zr_one (bif zin 0 8 then zN 176 [some (.ref 73), some (.int v1), some (.int v2), none, some (.int v4), some (.int (I 73 51)), some (.int (v3 - (I 73 16))), some (.int s15.1), none] [] (SH, (zu I 91 0 v4), J) else none) rfl (zR_bif (by decide) (zR_go ?_))
          refine zr_steps 4 (182, [some (.ref 73), some (.int v1), some (.int v2), none, some (.int v4), some (.int (I 73 51)), some (.int (v3 - (I 73 16))), some (.int s15.1), none], [.int v1, .int 1, .ref 91], (SH, (zu I 91 0 v4), J)) rfl ?_
          refine zr_one (bif zin 1 8 then zN 183 [some (.ref 73), some (.int v1), some (.int v2), none, some (.int v4), some (.int (I 73 51)), some (.int (v3 - (I 73 16))), some (.int s15.1), none] [] (SH, (zu (zu I 91 0 v4) 91 1 v1), J) else none) rfl (zR_bif (by decide) (zR_go ?_))
          refine zr_steps 6 (193, [some (.ref 73), some (.int v1), some (.int v2), none, some (.int v4), some (.int (I 73 51)), some (.int (v3 - (I 73 16))), some (.int s15.1), none], [.int v1, .ref 81, .int 2, .ref 91], (SH, (zu (zu I 91 0 v4) 91 1 v1), J)) rfl ?_
          obtain ⟨hc17, h⟩ := zbifo h
          refine zr_one (bif zin v1 8 then zN 194 [some (.ref 73), some (.int v1), some (.int v2), none, some (.int v4), some (.int (I 73 51)), some (.int (v3 - (I 73 16))), some (.int s15.1), none] [.int (I 81 v1.toNatClampNeg), .int 2, .ref 91] (SH, (zu (zu I 91 0 v4) 91 1 v1), J) else none) rfl (zR_bif hc17 (zR_go ?_))
          refine zr_one (bif zin 2 8 then zN 195 [some (.ref 73), some (.int v1), some (.int v2), none, some (.int v4), some (.int (I 73 51)), some (.int (v3 - (I 73 16))), some (.int s15.1), none] [] (SH, (zu (zu (zu I 91 0 v4) 91 1 v1) 91 2 (I 81 v1.toNatClampNeg)), J) else none) rfl (zR_bif (by decide) (zR_go ?_))
          refine zr_steps 4 (201, [some (.ref 73), some (.int v1), some (.int v2), none, some (.int v4), some (.int (I 73 51)), some (.int (v3 - (I 73 16))), some (.int s15.1), none], [.int v2, .int 3, .ref 91], (SH, (zu (zu (zu I 91 0 v4) 91 1 v1) 91 2 (I 81 v1.toNatClampNeg)), J)) rfl ?_
          refine zr_one (bif zin 3 8 then zN 202 [some (.ref 73), some (.int v1), some (.int v2), none, some (.int v4), some (.int (I 73 51)), some (.int (v3 - (I 73 16))), some (.int s15.1), none] [] (SH, (zu (zu (zu (zu I 91 0 v4) 91 1 v1) 91 2 (I 81 v1.toNatClampNeg)) 91 3 v2), J) else none) rfl (zR_bif (by decide) (zR_go ?_))
          refine zr_steps 10 (217, [some (.ref 73), some (.int v1), some (.int v2), none, some (.int v4), some (.int (I 73 51)), some (.int (v3 - (I 73 16))), some (.int s15.1), none], [.int ((8 * v2) + v1), .ref 97, .int 4, .ref 91], (SH, (zu (zu (zu (zu I 91 0 v4) 91 1 v1) 91 2 (I 81 v1.toNatClampNeg)) 91 3 v2), J)) rfl ?_
          obtain ⟨hc18, h⟩ := zbifo h
          refine zr_one (bif zin ((8 * v2) + v1) 32 then zN 218 [some (.ref 73), some (.int v1), some (.int v2), none, some (.int v4), some (.int (I 73 51)), some (.int (v3 - (I 73 16))), some (.int s15.1), none] [.int (I 97 ((8 * v2) + v1).toNatClampNeg), .int 4, .ref 91] (SH, (zu (zu (zu (zu I 91 0 v4) 91 1 v1) 91 2 (I 81 v1.toNatClampNeg)) 91 3 v2), J) else none) rfl (zR_bif hc18 (zR_go ?_))
          refine zr_one (bif zin 4 8 then zN 219 [some (.ref 73), some (.int v1), some (.int v2), none, some (.int v4), some (.int (I 73 51)), some (.int (v3 - (I 73 16))), some (.int s15.1), none] [] (SH, (zu (zu (zu (zu (zu I 91 0 v4) 91 1 v1) 91 2 (I 81 v1.toNatClampNeg)) 91 3 v2) 91 4 (I 97 ((8 * v2) + v1).toNatClampNeg)), J) else none) rfl (zR_bif (by decide) (zR_go ?_))
          refine zr_steps 4 (226, [some (.ref 73), some (.int v1), some (.int v2), none, some (.int v4), some (.int (I 73 51)), some (.int (v3 - (I 73 16))), some (.int s15.1), none], [.int s15.1, .int 5, .ref 91], (SH, (zu (zu (zu (zu (zu I 91 0 v4) 91 1 v1) 91 2 (I 81 v1.toNatClampNeg)) 91 3 v2) 91 4 (I 97 ((8 * v2) + v1).toNatClampNeg)), J)) rfl ?_
          refine zr_one (bif zin 5 8 then zN 227 [some (.ref 73), some (.int v1), some (.int v2), none, some (.int v4), some (.int (I 73 51)), some (.int (v3 - (I 73 16))), some (.int s15.1), none] [] (SH, (zu (zu (zu (zu (zu (zu I 91 0 v4) 91 1 v1) 91 2 (I 81 v1.toNatClampNeg)) 91 3 v2) 91 4 (I 97 ((8 * v2) + v1).toNatClampNeg)) 91 5 s15.1), J) else none) rfl (zR_bif (by decide) (zR_go ?_))
          refine zr_steps 10 (244, [some (.ref 73), some (.int v1), some (.int v2), none, some (.int v4), some (.int (I 73 51)), some (.int (v3 - (I 73 16))), some (.int s15.1), none], [.int ((4 * (v3 - (I 73 16))) + s15.1), .ref 101, .int 6, .ref 91], (SH, (zu (zu (zu (zu (zu (zu I 91 0 v4) 91 1 v1) 91 2 (I 81 v1.toNatClampNeg)) 91 3 v2) 91 4 (I 97 ((8 * v2) + v1).toNatClampNeg)) 91 5 s15.1), J)) rfl ?_
          obtain ⟨hc19, h⟩ := zbifo h
          refine zr_one (bif zin ((4 * (v3 - (I 73 16))) + s15.1) 240 then zN 245 [some (.ref 73), some (.int v1), some (.int v2), none, some (.int v4), some (.int (I 73 51)), some (.int (v3 - (I 73 16))), some (.int s15.1), none] [.int (I 101 ((4 * (v3 - (I 73 16))) + s15.1).toNatClampNeg), .int 6, .ref 91] (SH, (zu (zu (zu (zu (zu (zu I 91 0 v4) 91 1 v1) 91 2 (I 81 v1.toNatClampNeg)) 91 3 v2) 91 4 (I 97 ((8 * v2) + v1).toNatClampNeg)) 91 5 s15.1), J) else none) rfl (zR_bif hc19 (zR_go ?_))
          refine zr_one (bif zin 6 8 then zN 246 [some (.ref 73), some (.int v1), some (.int v2), none, some (.int v4), some (.int (I 73 51)), some (.int (v3 - (I 73 16))), some (.int s15.1), none] [] (SH, (zu (zu (zu (zu (zu (zu (zu I 91 0 v4) 91 1 v1) 91 2 (I 81 v1.toNatClampNeg)) 91 3 v2) 91 4 (I 97 ((8 * v2) + v1).toNatClampNeg)) 91 5 s15.1) 91 6 (I 101 ((4 * (v3 - (I 73 16))) + s15.1).toNatClampNeg)), J) else none) rfl (zR_bif (by decide) (zR_go ?_))
          refine zr_steps 10 (262, [some (.ref 73), some (.int v1), some (.int v2), none, some (.int v4), some (.int (I 73 51)), some (.int (v3 - (I 73 16))), some (.int s15.1), none], [.int ((4 * (v3 - (I 73 16))) + v2), .ref 101, .int 7, .ref 91], (SH, (zu (zu (zu (zu (zu (zu (zu I 91 0 v4) 91 1 v1) 91 2 (I 81 v1.toNatClampNeg)) 91 3 v2) 91 4 (I 97 ((8 * v2) + v1).toNatClampNeg)) 91 5 s15.1) 91 6 (I 101 ((4 * (v3 - (I 73 16))) + s15.1).toNatClampNeg)), J)) rfl ?_
          obtain ⟨hc20, h⟩ := zbifo h
          refine zr_one (bif zin ((4 * (v3 - (I 73 16))) + v2) 240 then zN 263 [some (.ref 73), some (.int v1), some (.int v2), none, some (.int v4), some (.int (I 73 51)), some (.int (v3 - (I 73 16))), some (.int s15.1), none] [.int (I 101 ((4 * (v3 - (I 73 16))) + v2).toNatClampNeg), .int 7, .ref 91] (SH, (zu (zu (zu (zu (zu (zu (zu I 91 0 v4) 91 1 v1) 91 2 (I 81 v1.toNatClampNeg)) 91 3 v2) 91 4 (I 97 ((8 * v2) + v1).toNatClampNeg)) 91 5 s15.1) 91 6 (I 101 ((4 * (v3 - (I 73 16))) + s15.1).toNatClampNeg)), J) else none) rfl (zR_bif hc20 (zR_go ?_))
          refine zr_one (bif zin 7 8 then zN 264 [some (.ref 73), some (.int v1), some (.int v2), none, some (.int v4), some (.int (I 73 51)), some (.int (v3 - (I 73 16))), some (.int s15.1), none] [] (SH, (zu (zu (zu (zu (zu (zu (zu (zu I 91 0 v4) 91 1 v1) 91 2 (I 81 v1.toNatClampNeg)) 91 3 v2) 91 4 (I 97 ((8 * v2) + v1).toNatClampNeg)) 91 5 s15.1) 91 6 (I 101 ((4 * (v3 - (I 73 16))) + s15.1).toNatClampNeg)) 91 7 (I 101 ((4 * (v3 - (I 73 16))) + v2).toNatClampNeg)), J) else none) rfl (zR_bif (by decide) (zR_go ?_))
          refine zr_steps 2 (267, [some (.ref 73), some (.int v1), some (.int v2), none, some (.int v4), some (.int (I 73 51)), some (.int (v3 - (I 73 16))), some (.int s15.1), none], [.int (I 73 51), .ref 73], (SH, (zu (zu (zu (zu (zu (zu (zu (zu I 91 0 v4) 91 1 v1) 91 2 (I 81 v1.toNatClampNeg)) 91 3 v2) 91 4 (I 97 ((8 * v2) + v1).toNatClampNeg)) 91 5 s15.1) 91 6 (I 101 ((4 * (v3 - (I 73 16))) + s15.1).toNatClampNeg)) 91 7 (I 101 ((4 * (v3 - (I 73 16))) + v2).toNatClampNeg)), J)) rfl ?_
          obtain ⟨t22, hc21, h⟩ := zbind h
          refine zr_one (some (.inr (.inl (155, [.ref 73, .int (I 73 51)], [], 270)))) rfl (zR_call (by omega) rfl (ok_f155_gives (by omega) (I 73 51) _ hc21) ?_)
          have he := Option.some.inj h
          subst he
          exact zr_one (some (.inr (.inr (some (.int t22.1))))) rfl (zR_ret rfl rfl)
        · rw [if_neg hc35] at h
          refine zr_steps 7 (122, [some (.ref 73), some (.int v1), some (.int v2), some (.int v3), some (.int v4), some (.int (I 73 51)), some (.int 0), some (.int 0), some (.int 1)], [], (SH, I, J)) rfl ?_
          obtain ⟨s27, ho28, h⟩ := zbind h
          refine zr_hdr (ls2 := [some (.ref 73), some (.int v1), some (.int v2), none, some (.int v4), some (.int (I 73 51)), some (.int 0), some (.int 0), some (.int 1)]) rfl rfl ?_
          refine ok_f168_goal_L122 (by omega) v1 v2 v4 (I 73 51) 0 5000 ((0 : Int32), (1 : Int32)) s27 ho28 ?_
          show zRun X d 168 168 [some (.ref 73), some (.int v1), some (.int v2), none, some (.int v4), some (.int (I 73 51)), some (.int 0), some (.int s27.1), none] [] (SH, I, J) _ _
          refine zr_steps 4 (175, [some (.ref 73), some (.int v1), some (.int v2), none, some (.int v4), some (.int (I 73 51)), some (.int 0), some (.int s27.1), none], [.int v4, .int 0, .ref 91], (SH, I, J)) rfl ?_
          refine zr_one (bif zin 0 8 then zN 176 [some (.ref 73), some (.int v1), some (.int v2), none, some (.int v4), some (.int (I 73 51)), some (.int 0), some (.int s27.1), none] [] (SH, (zu I 91 0 v4), J) else none) rfl (zR_bif (by decide) (zR_go ?_))
          refine zr_steps 4 (182, [some (.ref 73), some (.int v1), some (.int v2), none, some (.int v4), some (.int (I 73 51)), some (.int 0), some (.int s27.1), none], [.int v1, .int 1, .ref 91], (SH, (zu I 91 0 v4), J)) rfl ?_
          refine zr_one (bif zin 1 8 then zN 183 [some (.ref 73), some (.int v1), some (.int v2), none, some (.int v4), some (.int (I 73 51)), some (.int 0), some (.int s27.1), none] [] (SH, (zu (zu I 91 0 v4) 91 1 v1), J) else none) rfl (zR_bif (by decide) (zR_go ?_))
          refine zr_steps 6 (193, [some (.ref 73), some (.int v1), some (.int v2), none, some (.int v4), some (.int (I 73 51)), some (.int 0), some (.int s27.1), none], [.int v1, .ref 81, .int 2, .ref 91], (SH, (zu (zu I 91 0 v4) 91 1 v1), J)) rfl ?_
          obtain ⟨hc29, h⟩ := zbifo h
          refine zr_one (bif zin v1 8 then zN 194 [some (.ref 73), some (.int v1), some (.int v2), none, some (.int v4), some (.int (I 73 51)), some (.int 0), some (.int s27.1), none] [.int (I 81 v1.toNatClampNeg), .int 2, .ref 91] (SH, (zu (zu I 91 0 v4) 91 1 v1), J) else none) rfl (zR_bif hc29 (zR_go ?_))
          refine zr_one (bif zin 2 8 then zN 195 [some (.ref 73), some (.int v1), some (.int v2), none, some (.int v4), some (.int (I 73 51)), some (.int 0), some (.int s27.1), none] [] (SH, (zu (zu (zu I 91 0 v4) 91 1 v1) 91 2 (I 81 v1.toNatClampNeg)), J) else none) rfl (zR_bif (by decide) (zR_go ?_))
          refine zr_steps 4 (201, [some (.ref 73), some (.int v1), some (.int v2), none, some (.int v4), some (.int (I 73 51)), some (.int 0), some (.int s27.1), none], [.int v2, .int 3, .ref 91], (SH, (zu (zu (zu I 91 0 v4) 91 1 v1) 91 2 (I 81 v1.toNatClampNeg)), J)) rfl ?_
          refine zr_one (bif zin 3 8 then zN 202 [some (.ref 73), some (.int v1), some (.int v2), none, some (.int v4), some (.int (I 73 51)), some (.int 0), some (.int s27.1), none] [] (SH, (zu (zu (zu (zu I 91 0 v4) 91 1 v1) 91 2 (I 81 v1.toNatClampNeg)) 91 3 v2), J) else none) rfl (zR_bif (by decide) (zR_go ?_))
          refine zr_steps 10 (217, [some (.ref 73), some (.int v1), some (.int v2), none, some (.int v4), some (.int (I 73 51)), some (.int 0), some (.int s27.1), none], [.int ((8 * v2) + v1), .ref 97, .int 4, .ref 91], (SH, (zu (zu (zu (zu I 91 0 v4) 91 1 v1) 91 2 (I 81 v1.toNatClampNeg)) 91 3 v2), J)) rfl ?_
          obtain ⟨hc30, h⟩ := zbifo h
          refine zr_one (bif zin ((8 * v2) + v1) 32 then zN 218 [some (.ref 73), some (.int v1), some (.int v2), none, some (.int v4), some (.int (I 73 51)), some (.int 0), some (.int s27.1), none] [.int (I 97 ((8 * v2) + v1).toNatClampNeg), .int 4, .ref 91] (SH, (zu (zu (zu (zu I 91 0 v4) 91 1 v1) 91 2 (I 81 v1.toNatClampNeg)) 91 3 v2), J) else none) rfl (zR_bif hc30 (zR_go ?_))
          refine zr_one (bif zin 4 8 then zN 219 [some (.ref 73), some (.int v1), some (.int v2), none, some (.int v4), some (.int (I 73 51)), some (.int 0), some (.int s27.1), none] [] (SH, (zu (zu (zu (zu (zu I 91 0 v4) 91 1 v1) 91 2 (I 81 v1.toNatClampNeg)) 91 3 v2) 91 4 (I 97 ((8 * v2) + v1).toNatClampNeg)), J) else none) rfl (zR_bif (by decide) (zR_go ?_))
          refine zr_steps 4 (226, [some (.ref 73), some (.int v1), some (.int v2), none, some (.int v4), some (.int (I 73 51)), some (.int 0), some (.int s27.1), none], [.int s27.1, .int 5, .ref 91], (SH, (zu (zu (zu (zu (zu I 91 0 v4) 91 1 v1) 91 2 (I 81 v1.toNatClampNeg)) 91 3 v2) 91 4 (I 97 ((8 * v2) + v1).toNatClampNeg)), J)) rfl ?_
          refine zr_one (bif zin 5 8 then zN 227 [some (.ref 73), some (.int v1), some (.int v2), none, some (.int v4), some (.int (I 73 51)), some (.int 0), some (.int s27.1), none] [] (SH, (zu (zu (zu (zu (zu (zu I 91 0 v4) 91 1 v1) 91 2 (I 81 v1.toNatClampNeg)) 91 3 v2) 91 4 (I 97 ((8 * v2) + v1).toNatClampNeg)) 91 5 s27.1), J) else none) rfl (zR_bif (by decide) (zR_go ?_))
          refine zr_steps 10 (244, [some (.ref 73), some (.int v1), some (.int v2), none, some (.int v4), some (.int (I 73 51)), some (.int 0), some (.int s27.1), none], [.int (0 + s27.1), .ref 101, .int 6, .ref 91], (SH, (zu (zu (zu (zu (zu (zu I 91 0 v4) 91 1 v1) 91 2 (I 81 v1.toNatClampNeg)) 91 3 v2) 91 4 (I 97 ((8 * v2) + v1).toNatClampNeg)) 91 5 s27.1), J)) rfl ?_
          obtain ⟨hc31, h⟩ := zbifo h
          refine zr_one (bif zin (0 + s27.1) 240 then zN 245 [some (.ref 73), some (.int v1), some (.int v2), none, some (.int v4), some (.int (I 73 51)), some (.int 0), some (.int s27.1), none] [.int (I 101 (0 + s27.1).toNatClampNeg), .int 6, .ref 91] (SH, (zu (zu (zu (zu (zu (zu I 91 0 v4) 91 1 v1) 91 2 (I 81 v1.toNatClampNeg)) 91 3 v2) 91 4 (I 97 ((8 * v2) + v1).toNatClampNeg)) 91 5 s27.1), J) else none) rfl (zR_bif hc31 (zR_go ?_))
          refine zr_one (bif zin 6 8 then zN 246 [some (.ref 73), some (.int v1), some (.int v2), none, some (.int v4), some (.int (I 73 51)), some (.int 0), some (.int s27.1), none] [] (SH, (zu (zu (zu (zu (zu (zu (zu I 91 0 v4) 91 1 v1) 91 2 (I 81 v1.toNatClampNeg)) 91 3 v2) 91 4 (I 97 ((8 * v2) + v1).toNatClampNeg)) 91 5 s27.1) 91 6 (I 101 (0 + s27.1).toNatClampNeg)), J) else none) rfl (zR_bif (by decide) (zR_go ?_))
          refine zr_steps 10 (262, [some (.ref 73), some (.int v1), some (.int v2), none, some (.int v4), some (.int (I 73 51)), some (.int 0), some (.int s27.1), none], [.int (0 + v2), .ref 101, .int 7, .ref 91], (SH, (zu (zu (zu (zu (zu (zu (zu I 91 0 v4) 91 1 v1) 91 2 (I 81 v1.toNatClampNeg)) 91 3 v2) 91 4 (I 97 ((8 * v2) + v1).toNatClampNeg)) 91 5 s27.1) 91 6 (I 101 (0 + s27.1).toNatClampNeg)), J)) rfl ?_
          obtain ⟨hc32, h⟩ := zbifo h
          refine zr_one (bif zin (0 + v2) 240 then zN 263 [some (.ref 73), some (.int v1), some (.int v2), none, some (.int v4), some (.int (I 73 51)), some (.int 0), some (.int s27.1), none] [.int (I 101 (0 + v2).toNatClampNeg), .int 7, .ref 91] (SH, (zu (zu (zu (zu (zu (zu (zu I 91 0 v4) 91 1 v1) 91 2 (I 81 v1.toNatClampNeg)) 91 3 v2) 91 4 (I 97 ((8 * v2) + v1).toNatClampNeg)) 91 5 s27.1) 91 6 (I 101 (0 + s27.1).toNatClampNeg)), J) else none) rfl (zR_bif hc32 (zR_go ?_))
          refine zr_one (bif zin 7 8 then zN 264 [some (.ref 73), some (.int v1), some (.int v2), none, some (.int v4), some (.int (I 73 51)), some (.int 0), some (.int s27.1), none] [] (SH, (zu (zu (zu (zu (zu (zu (zu (zu I 91 0 v4) 91 1 v1) 91 2 (I 81 v1.toNatClampNeg)) 91 3 v2) 91 4 (I 97 ((8 * v2) + v1).toNatClampNeg)) 91 5 s27.1) 91 6 (I 101 (0 + s27.1).toNatClampNeg)) 91 7 (I 101 (0 + v2).toNatClampNeg)), J) else none) rfl (zR_bif (by decide) (zR_go ?_))
          refine zr_steps 2 (267, [some (.ref 73), some (.int v1), some (.int v2), none, some (.int v4), some (.int (I 73 51)), some (.int 0), some (.int s27.1), none], [.int (I 73 51), .ref 73], (SH, (zu (zu (zu (zu (zu (zu (zu (zu I 91 0 v4) 91 1 v1) 91 2 (I 81 v1.toNatClampNeg)) 91 3 v2) 91 4 (I 97 ((8 * v2) + v1).toNatClampNeg)) 91 5 s27.1) 91 6 (I 101 (0 + s27.1).toNatClampNeg)) 91 7 (I 101 (0 + v2).toNatClampNeg)), J)) rfl ?_
          obtain ⟨t34, hc33, h⟩ := zbind h
          refine zr_one (some (.inr (.inl (155, [.ref 73, .int (I 73 51)], [], 270)))) rfl (zR_call (by omega) rfl (ok_f155_gives (by omega) (I 73 51) _ hc33) ?_)
          have he := Option.some.inj h
          subst he
          exact zr_one (some (.inr (.inr (some (.int t34.1))))) rfl (zR_ret rfl rfl)
    · rw [if_neg hc73] at h
      refine zr_steps 3 (45, [some (.ref 73), some (.int v1), some (.int v2), some (.int v3), some (.int v4), none, none, none, none], [.int v1, .ref 84], (SH, I, J)) rfl ?_
      obtain ⟨hc37, h⟩ := zbifo h
      refine zr_one (bif zin v1 8 then zN 46 [some (.ref 73), some (.int v1), some (.int v2), some (.int v3), some (.int v4), none, none, none, none] [.int (I 84 v1.toNatClampNeg)] (SH, I, J) else none) rfl (zR_bif hc37 (zR_go ?_))
      refine zr_steps 3 (51, [some (.ref 73), some (.int v1), some (.int v2), some (.int v3), some (.int v4), some (.int (I 84 v1.toNatClampNeg)), none, none, none], [.int (I 84 v1.toNatClampNeg), .ref 73], (SH, I, J)) rfl ?_
      obtain ⟨t39, hc38, h⟩ := zbind h
      refine zr_one (some (.inr (.inl (156, [.ref 73, .int (I 84 v1.toNatClampNeg)], [], 54)))) rfl (zR_call (by omega) rfl (ok_f156_isLaw (by omega) (I 84 v1.toNatClampNeg) _ hc38) ?_)
      refine zr_one (if t39 = 0 then zN 57 [some (.ref 73), some (.int v1), some (.int v2), some (.int v3), some (.int v4), some (.int (I 84 v1.toNatClampNeg)), none, none, none] [] (SH, I, J) else zN 96 [some (.ref 73), some (.int v1), some (.int v2), some (.int v3), some (.int v4), some (.int (I 84 v1.toNatClampNeg)), none, none, none] [] (SH, I, J)) rfl (zR_if (fun hc72 => zR_go ?_) (fun hc72 => zR_go ?_))
      · rw [if_pos hc72] at h
        refine zr_steps 2 (60, [some (.ref 73), some (.int v1), some (.int v2), some (.int v3), some (.int v4), some (.int (I 84 v1.toNatClampNeg)), some (.int 0), none, none], [], (SH, I, J)) rfl ?_
        obtain ⟨y46, ho45, hy⟩ := zbRe h
        refine zr_hdr (ls2 := [some (.ref 73), some (.int v1), some (.int v2), none, none, none, some (.int 0), none, none]) rfl rfl ?_
        refine ok_f168_goal_L60 (by omega) v1 v2 5000 (0 : Int32) y46 ho45 ?_
        rcases hy with ⟨rr, rfl, h⟩ | ⟨s44, rfl, h⟩
        · have he := Option.some.inj h
          subst he
          exact ⟨rfl, rfl⟩
        · show zRun X d 168 94 [none, none, some (.int v2), none, none, none, none, none, none] [] (SH, I, J) _ _
          refine zr_steps 1 (95, [none, none, some (.int v2), none, none, none, none, none, none], [.int v2], (SH, I, J)) rfl ?_
          have he := Option.some.inj h
          subst he
          exact zr_one (some (.inr (.inr (some (.int v2))))) rfl (zR_ret rfl rfl)
      · rw [if_neg hc72] at h
        refine zr_steps 3 (101, [some (.ref 73), some (.int v1), some (.int v2), some (.int v3), some (.int v4), some (.int (I 84 v1.toNatClampNeg)), none, none, none], [.int (I 73 16), .int v3], (SH, I, J)) rfl ?_
        refine zr_one (if (I 73 16) ≤ v3 then zN 108 [some (.ref 73), some (.int v1), some (.int v2), some (.int v3), some (.int v4), some (.int (I 84 v1.toNatClampNeg)), none, none, none] [] (SH, I, J) else zN 104 [some (.ref 73), some (.int v1), some (.int v2), some (.int v3), some (.int v4), some (.int (I 84 v1.toNatClampNeg)), none, none, none] [] (SH, I, J)) rfl (zR_if (fun hc71 => zR_go ?_) (fun hc71 => zR_go ?_))
        · rw [if_pos hc71] at h
          refine zr_steps 9 (122, [some (.ref 73), some (.int v1), some (.int v2), some (.int v3), some (.int v4), some (.int (I 84 v1.toNatClampNeg)), some (.int (v3 - (I 73 16))), some (.int 0), some (.int 1)], [], (SH, I, J)) rfl ?_
          obtain ⟨s51, ho52, h⟩ := zbind h
          refine zr_hdr (ls2 := [some (.ref 73), some (.int v1), some (.int v2), none, some (.int v4), some (.int (I 84 v1.toNatClampNeg)), some (.int (v3 - (I 73 16))), some (.int 0), some (.int 1)]) rfl rfl ?_
          refine ok_f168_goal_L122 (by omega) v1 v2 v4 (I 84 v1.toNatClampNeg) (v3 - (I 73 16)) 5000 ((0 : Int32), (1 : Int32)) s51 ho52 ?_
          show zRun X d 168 168 [some (.ref 73), some (.int v1), some (.int v2), none, some (.int v4), some (.int (I 84 v1.toNatClampNeg)), some (.int (v3 - (I 73 16))), some (.int s51.1), none] [] (SH, I, J) _ _
          refine zr_steps 4 (175, [some (.ref 73), some (.int v1), some (.int v2), none, some (.int v4), some (.int (I 84 v1.toNatClampNeg)), some (.int (v3 - (I 73 16))), some (.int s51.1), none], [.int v4, .int 0, .ref 91], (SH, I, J)) rfl ?_
          refine zr_one (bif zin 0 8 then zN 176 [some (.ref 73), some (.int v1), some (.int v2), none, some (.int v4), some (.int (I 84 v1.toNatClampNeg)), some (.int (v3 - (I 73 16))), some (.int s51.1), none] [] (SH, (zu I 91 0 v4), J) else none) rfl (zR_bif (by decide) (zR_go ?_))
          refine zr_steps 4 (182, [some (.ref 73), some (.int v1), some (.int v2), none, some (.int v4), some (.int (I 84 v1.toNatClampNeg)), some (.int (v3 - (I 73 16))), some (.int s51.1), none], [.int v1, .int 1, .ref 91], (SH, (zu I 91 0 v4), J)) rfl ?_
          refine zr_one (bif zin 1 8 then zN 183 [some (.ref 73), some (.int v1), some (.int v2), none, some (.int v4), some (.int (I 84 v1.toNatClampNeg)), some (.int (v3 - (I 73 16))), some (.int s51.1), none] [] (SH, (zu (zu I 91 0 v4) 91 1 v1), J) else none) rfl (zR_bif (by decide) (zR_go ?_))
          refine zr_steps 6 (193, [some (.ref 73), some (.int v1), some (.int v2), none, some (.int v4), some (.int (I 84 v1.toNatClampNeg)), some (.int (v3 - (I 73 16))), some (.int s51.1), none], [.int v1, .ref 81, .int 2, .ref 91], (SH, (zu (zu I 91 0 v4) 91 1 v1), J)) rfl ?_
          obtain ⟨hc53, h⟩ := zbifo h
          refine zr_one (bif zin v1 8 then zN 194 [some (.ref 73), some (.int v1), some (.int v2), none, some (.int v4), some (.int (I 84 v1.toNatClampNeg)), some (.int (v3 - (I 73 16))), some (.int s51.1), none] [.int (I 81 v1.toNatClampNeg), .int 2, .ref 91] (SH, (zu (zu I 91 0 v4) 91 1 v1), J) else none) rfl (zR_bif hc53 (zR_go ?_))
          refine zr_one (bif zin 2 8 then zN 195 [some (.ref 73), some (.int v1), some (.int v2), none, some (.int v4), some (.int (I 84 v1.toNatClampNeg)), some (.int (v3 - (I 73 16))), some (.int s51.1), none] [] (SH, (zu (zu (zu I 91 0 v4) 91 1 v1) 91 2 (I 81 v1.toNatClampNeg)), J) else none) rfl (zR_bif (by decide) (zR_go ?_))
          refine zr_steps 4 (201, [some (.ref 73), some (.int v1), some (.int v2), none, some (.int v4), some (.int (I 84 v1.toNatClampNeg)), some (.int (v3 - (I 73 16))), some (.int s51.1), none], [.int v2, .int 3, .ref 91], (SH, (zu (zu (zu I 91 0 v4) 91 1 v1) 91 2 (I 81 v1.toNatClampNeg)), J)) rfl ?_
          refine zr_one (bif zin 3 8 then zN 202 [some (.ref 73), some (.int v1), some (.int v2), none, some (.int v4), some (.int (I 84 v1.toNatClampNeg)), some (.int (v3 - (I 73 16))), some (.int s51.1), none] [] (SH, (zu (zu (zu (zu I 91 0 v4) 91 1 v1) 91 2 (I 81 v1.toNatClampNeg)) 91 3 v2), J) else none) rfl (zR_bif (by decide) (zR_go ?_))
          refine zr_steps 10 (217, [some (.ref 73), some (.int v1), some (.int v2), none, some (.int v4), some (.int (I 84 v1.toNatClampNeg)), some (.int (v3 - (I 73 16))), some (.int s51.1), none], [.int ((8 * v2) + v1), .ref 97, .int 4, .ref 91], (SH, (zu (zu (zu (zu I 91 0 v4) 91 1 v1) 91 2 (I 81 v1.toNatClampNeg)) 91 3 v2), J)) rfl ?_
          obtain ⟨hc54, h⟩ := zbifo h
          refine zr_one (bif zin ((8 * v2) + v1) 32 then zN 218 [some (.ref 73), some (.int v1), some (.int v2), none, some (.int v4), some (.int (I 84 v1.toNatClampNeg)), some (.int (v3 - (I 73 16))), some (.int s51.1), none] [.int (I 97 ((8 * v2) + v1).toNatClampNeg), .int 4, .ref 91] (SH, (zu (zu (zu (zu I 91 0 v4) 91 1 v1) 91 2 (I 81 v1.toNatClampNeg)) 91 3 v2), J) else none) rfl (zR_bif hc54 (zR_go ?_))
          refine zr_one (bif zin 4 8 then zN 219 [some (.ref 73), some (.int v1), some (.int v2), none, some (.int v4), some (.int (I 84 v1.toNatClampNeg)), some (.int (v3 - (I 73 16))), some (.int s51.1), none] [] (SH, (zu (zu (zu (zu (zu I 91 0 v4) 91 1 v1) 91 2 (I 81 v1.toNatClampNeg)) 91 3 v2) 91 4 (I 97 ((8 * v2) + v1).toNatClampNeg)), J) else none) rfl (zR_bif (by decide) (zR_go ?_))
          refine zr_steps 4 (226, [some (.ref 73), some (.int v1), some (.int v2), none, some (.int v4), some (.int (I 84 v1.toNatClampNeg)), some (.int (v3 - (I 73 16))), some (.int s51.1), none], [.int s51.1, .int 5, .ref 91], (SH, (zu (zu (zu (zu (zu I 91 0 v4) 91 1 v1) 91 2 (I 81 v1.toNatClampNeg)) 91 3 v2) 91 4 (I 97 ((8 * v2) + v1).toNatClampNeg)), J)) rfl ?_
          refine zr_one (bif zin 5 8 then zN 227 [some (.ref 73), some (.int v1), some (.int v2), none, some (.int v4), some (.int (I 84 v1.toNatClampNeg)), some (.int (v3 - (I 73 16))), some (.int s51.1), none] [] (SH, (zu (zu (zu (zu (zu (zu I 91 0 v4) 91 1 v1) 91 2 (I 81 v1.toNatClampNeg)) 91 3 v2) 91 4 (I 97 ((8 * v2) + v1).toNatClampNeg)) 91 5 s51.1), J) else none) rfl (zR_bif (by decide) (zR_go ?_))
          refine zr_steps 10 (244, [some (.ref 73), some (.int v1), some (.int v2), none, some (.int v4), some (.int (I 84 v1.toNatClampNeg)), some (.int (v3 - (I 73 16))), some (.int s51.1), none], [.int ((4 * (v3 - (I 73 16))) + s51.1), .ref 101, .int 6, .ref 91], (SH, (zu (zu (zu (zu (zu (zu I 91 0 v4) 91 1 v1) 91 2 (I 81 v1.toNatClampNeg)) 91 3 v2) 91 4 (I 97 ((8 * v2) + v1).toNatClampNeg)) 91 5 s51.1), J)) rfl ?_
          obtain ⟨hc55, h⟩ := zbifo h
          refine zr_one (bif zin ((4 * (v3 - (I 73 16))) + s51.1) 240 then zN 245 [some (.ref 73), some (.int v1), some (.int v2), none, some (.int v4), some (.int (I 84 v1.toNatClampNeg)), some (.int (v3 - (I 73 16))), some (.int s51.1), none] [.int (I 101 ((4 * (v3 - (I 73 16))) + s51.1).toNatClampNeg), .int 6, .ref 91] (SH, (zu (zu (zu (zu (zu (zu I 91 0 v4) 91 1 v1) 91 2 (I 81 v1.toNatClampNeg)) 91 3 v2) 91 4 (I 97 ((8 * v2) + v1).toNatClampNeg)) 91 5 s51.1), J) else none) rfl (zR_bif hc55 (zR_go ?_))
          refine zr_one (bif zin 6 8 then zN 246 [some (.ref 73), some (.int v1), some (.int v2), none, some (.int v4), some (.int (I 84 v1.toNatClampNeg)), some (.int (v3 - (I 73 16))), some (.int s51.1), none] [] (SH, (zu (zu (zu (zu (zu (zu (zu I 91 0 v4) 91 1 v1) 91 2 (I 81 v1.toNatClampNeg)) 91 3 v2) 91 4 (I 97 ((8 * v2) + v1).toNatClampNeg)) 91 5 s51.1) 91 6 (I 101 ((4 * (v3 - (I 73 16))) + s51.1).toNatClampNeg)), J) else none) rfl (zR_bif (by decide) (zR_go ?_))
          refine zr_steps 10 (262, [some (.ref 73), some (.int v1), some (.int v2), none, some (.int v4), some (.int (I 84 v1.toNatClampNeg)), some (.int (v3 - (I 73 16))), some (.int s51.1), none], [.int ((4 * (v3 - (I 73 16))) + v2), .ref 101, .int 7, .ref 91], (SH, (zu (zu (zu (zu (zu (zu (zu I 91 0 v4) 91 1 v1) 91 2 (I 81 v1.toNatClampNeg)) 91 3 v2) 91 4 (I 97 ((8 * v2) + v1).toNatClampNeg)) 91 5 s51.1) 91 6 (I 101 ((4 * (v3 - (I 73 16))) + s51.1).toNatClampNeg)), J)) rfl ?_
          obtain ⟨hc56, h⟩ := zbifo h
          refine zr_one (bif zin ((4 * (v3 - (I 73 16))) + v2) 240 then zN 263 [some (.ref 73), some (.int v1), some (.int v2), none, some (.int v4), some (.int (I 84 v1.toNatClampNeg)), some (.int (v3 - (I 73 16))), some (.int s51.1), none] [.int (I 101 ((4 * (v3 - (I 73 16))) + v2).toNatClampNeg), .int 7, .ref 91] (SH, (zu (zu (zu (zu (zu (zu (zu I 91 0 v4) 91 1 v1) 91 2 (I 81 v1.toNatClampNeg)) 91 3 v2) 91 4 (I 97 ((8 * v2) + v1).toNatClampNeg)) 91 5 s51.1) 91 6 (I 101 ((4 * (v3 - (I 73 16))) + s51.1).toNatClampNeg)), J) else none) rfl (zR_bif hc56 (zR_go ?_))
          refine zr_one (bif zin 7 8 then zN 264 [some (.ref 73), some (.int v1), some (.int v2), none, some (.int v4), some (.int (I 84 v1.toNatClampNeg)), some (.int (v3 - (I 73 16))), some (.int s51.1), none] [] (SH, (zu (zu (zu (zu (zu (zu (zu (zu I 91 0 v4) 91 1 v1) 91 2 (I 81 v1.toNatClampNeg)) 91 3 v2) 91 4 (I 97 ((8 * v2) + v1).toNatClampNeg)) 91 5 s51.1) 91 6 (I 101 ((4 * (v3 - (I 73 16))) + s51.1).toNatClampNeg)) 91 7 (I 101 ((4 * (v3 - (I 73 16))) + v2).toNatClampNeg)), J) else none) rfl (zR_bif (by decide) (zR_go ?_))
          refine zr_steps 2 (267, [some (.ref 73), some (.int v1), some (.int v2), none, some (.int v4), some (.int (I 84 v1.toNatClampNeg)), some (.int (v3 - (I 73 16))), some (.int s51.1), none], [.int (I 84 v1.toNatClampNeg), .ref 73], (SH, (zu (zu (zu (zu (zu (zu (zu (zu I 91 0 v4) 91 1 v1) 91 2 (I 81 v1.toNatClampNeg)) 91 3 v2) 91 4 (I 97 ((8 * v2) + v1).toNatClampNeg)) 91 5 s51.1) 91 6 (I 101 ((4 * (v3 - (I 73 16))) + s51.1).toNatClampNeg)) 91 7 (I 101 ((4 * (v3 - (I 73 16))) + v2).toNatClampNeg)), J)) rfl ?_
          obtain ⟨t58, hc57, h⟩ := zbind h
          refine zr_one (some (.inr (.inl (155, [.ref 73, .int (I 84 v1.toNatClampNeg)], [], 270)))) rfl (zR_call (by omega) rfl (ok_f155_gives (by omega) (I 84 v1.toNatClampNeg) _ hc57) ?_)
          have he := Option.some.inj h
          subst he
          exact zr_one (some (.inr (.inr (some (.int t58.1))))) rfl (zR_ret rfl rfl)
        · rw [if_neg hc71] at h
          refine zr_steps 7 (122, [some (.ref 73), some (.int v1), some (.int v2), some (.int v3), some (.int v4), some (.int (I 84 v1.toNatClampNeg)), some (.int 0), some (.int 0), some (.int 1)], [], (SH, I, J)) rfl ?_
          obtain ⟨s63, ho64, h⟩ := zbind h
          refine zr_hdr (ls2 := [some (.ref 73), some (.int v1), some (.int v2), none, some (.int v4), some (.int (I 84 v1.toNatClampNeg)), some (.int 0), some (.int 0), some (.int 1)]) rfl rfl ?_
          refine ok_f168_goal_L122 (by omega) v1 v2 v4 (I 84 v1.toNatClampNeg) 0 5000 ((0 : Int32), (1 : Int32)) s63 ho64 ?_
          show zRun X d 168 168 [some (.ref 73), some (.int v1), some (.int v2), none, some (.int v4), some (.int (I 84 v1.toNatClampNeg)), some (.int 0), some (.int s63.1), none] [] (SH, I, J) _ _
          refine zr_steps 4 (175, [some (.ref 73), some (.int v1), some (.int v2), none, some (.int v4), some (.int (I 84 v1.toNatClampNeg)), some (.int 0), some (.int s63.1), none], [.int v4, .int 0, .ref 91], (SH, I, J)) rfl ?_
          refine zr_one (bif zin 0 8 then zN 176 [some (.ref 73), some (.int v1), some (.int v2), none, some (.int v4), some (.int (I 84 v1.toNatClampNeg)), some (.int 0), some (.int s63.1), none] [] (SH, (zu I 91 0 v4), J) else none) rfl (zR_bif (by decide) (zR_go ?_))
          refine zr_steps 4 (182, [some (.ref 73), some (.int v1), some (.int v2), none, some (.int v4), some (.int (I 84 v1.toNatClampNeg)), some (.int 0), some (.int s63.1), none], [.int v1, .int 1, .ref 91], (SH, (zu I 91 0 v4), J)) rfl ?_
          refine zr_one (bif zin 1 8 then zN 183 [some (.ref 73), some (.int v1), some (.int v2), none, some (.int v4), some (.int (I 84 v1.toNatClampNeg)), some (.int 0), some (.int s63.1), none] [] (SH, (zu (zu I 91 0 v4) 91 1 v1), J) else none) rfl (zR_bif (by decide) (zR_go ?_))
          refine zr_steps 6 (193, [some (.ref 73), some (.int v1), some (.int v2), none, some (.int v4), some (.int (I 84 v1.toNatClampNeg)), some (.int 0), some (.int s63.1), none], [.int v1, .ref 81, .int 2, .ref 91], (SH, (zu (zu I 91 0 v4) 91 1 v1), J)) rfl ?_
          obtain ⟨hc65, h⟩ := zbifo h
          refine zr_one (bif zin v1 8 then zN 194 [some (.ref 73), some (.int v1), some (.int v2), none, some (.int v4), some (.int (I 84 v1.toNatClampNeg)), some (.int 0), some (.int s63.1), none] [.int (I 81 v1.toNatClampNeg), .int 2, .ref 91] (SH, (zu (zu I 91 0 v4) 91 1 v1), J) else none) rfl (zR_bif hc65 (zR_go ?_))
          refine zr_one (bif zin 2 8 then zN 195 [some (.ref 73), some (.int v1), some (.int v2), none, some (.int v4), some (.int (I 84 v1.toNatClampNeg)), some (.int 0), some (.int s63.1), none] [] (SH, (zu (zu (zu I 91 0 v4) 91 1 v1) 91 2 (I 81 v1.toNatClampNeg)), J) else none) rfl (zR_bif (by decide) (zR_go ?_))
          refine zr_steps 4 (201, [some (.ref 73), some (.int v1), some (.int v2), none, some (.int v4), some (.int (I 84 v1.toNatClampNeg)), some (.int 0), some (.int s63.1), none], [.int v2, .int 3, .ref 91], (SH, (zu (zu (zu I 91 0 v4) 91 1 v1) 91 2 (I 81 v1.toNatClampNeg)), J)) rfl ?_
          refine zr_one (bif zin 3 8 then zN 202 [some (.ref 73), some (.int v1), some (.int v2), none, some (.int v4), some (.int (I 84 v1.toNatClampNeg)), some (.int 0), some (.int s63.1), none] [] (SH, (zu (zu (zu (zu I 91 0 v4) 91 1 v1) 91 2 (I 81 v1.toNatClampNeg)) 91 3 v2), J) else none) rfl (zR_bif (by decide) (zR_go ?_))
          refine zr_steps 10 (217, [some (.ref 73), some (.int v1), some (.int v2), none, some (.int v4), some (.int (I 84 v1.toNatClampNeg)), some (.int 0), some (.int s63.1), none], [.int ((8 * v2) + v1), .ref 97, .int 4, .ref 91], (SH, (zu (zu (zu (zu I 91 0 v4) 91 1 v1) 91 2 (I 81 v1.toNatClampNeg)) 91 3 v2), J)) rfl ?_
          obtain ⟨hc66, h⟩ := zbifo h
          refine zr_one (bif zin ((8 * v2) + v1) 32 then zN 218 [some (.ref 73), some (.int v1), some (.int v2), none, some (.int v4), some (.int (I 84 v1.toNatClampNeg)), some (.int 0), some (.int s63.1), none] [.int (I 97 ((8 * v2) + v1).toNatClampNeg), .int 4, .ref 91] (SH, (zu (zu (zu (zu I 91 0 v4) 91 1 v1) 91 2 (I 81 v1.toNatClampNeg)) 91 3 v2), J) else none) rfl (zR_bif hc66 (zR_go ?_))
          refine zr_one (bif zin 4 8 then zN 219 [some (.ref 73), some (.int v1), some (.int v2), none, some (.int v4), some (.int (I 84 v1.toNatClampNeg)), some (.int 0), some (.int s63.1), none] [] (SH, (zu (zu (zu (zu (zu I 91 0 v4) 91 1 v1) 91 2 (I 81 v1.toNatClampNeg)) 91 3 v2) 91 4 (I 97 ((8 * v2) + v1).toNatClampNeg)), J) else none) rfl (zR_bif (by decide) (zR_go ?_))
          refine zr_steps 4 (226, [some (.ref 73), some (.int v1), some (.int v2), none, some (.int v4), some (.int (I 84 v1.toNatClampNeg)), some (.int 0), some (.int s63.1), none], [.int s63.1, .int 5, .ref 91], (SH, (zu (zu (zu (zu (zu I 91 0 v4) 91 1 v1) 91 2 (I 81 v1.toNatClampNeg)) 91 3 v2) 91 4 (I 97 ((8 * v2) + v1).toNatClampNeg)), J)) rfl ?_
          refine zr_one (bif zin 5 8 then zN 227 [some (.ref 73), some (.int v1), some (.int v2), none, some (.int v4), some (.int (I 84 v1.toNatClampNeg)), some (.int 0), some (.int s63.1), none] [] (SH, (zu (zu (zu (zu (zu (zu I 91 0 v4) 91 1 v1) 91 2 (I 81 v1.toNatClampNeg)) 91 3 v2) 91 4 (I 97 ((8 * v2) + v1).toNatClampNeg)) 91 5 s63.1), J) else none) rfl (zR_bif (by decide) (zR_go ?_))
          refine zr_steps 10 (244, [some (.ref 73), some (.int v1), some (.int v2), none, some (.int v4), some (.int (I 84 v1.toNatClampNeg)), some (.int 0), some (.int s63.1), none], [.int (0 + s63.1), .ref 101, .int 6, .ref 91], (SH, (zu (zu (zu (zu (zu (zu I 91 0 v4) 91 1 v1) 91 2 (I 81 v1.toNatClampNeg)) 91 3 v2) 91 4 (I 97 ((8 * v2) + v1).toNatClampNeg)) 91 5 s63.1), J)) rfl ?_
          obtain ⟨hc67, h⟩ := zbifo h
          refine zr_one (bif zin (0 + s63.1) 240 then zN 245 [some (.ref 73), some (.int v1), some (.int v2), none, some (.int v4), some (.int (I 84 v1.toNatClampNeg)), some (.int 0), some (.int s63.1), none] [.int (I 101 (0 + s63.1).toNatClampNeg), .int 6, .ref 91] (SH, (zu (zu (zu (zu (zu (zu I 91 0 v4) 91 1 v1) 91 2 (I 81 v1.toNatClampNeg)) 91 3 v2) 91 4 (I 97 ((8 * v2) + v1).toNatClampNeg)) 91 5 s63.1), J) else none) rfl (zR_bif hc67 (zR_go ?_))
          refine zr_one (bif zin 6 8 then zN 246 [some (.ref 73), some (.int v1), some (.int v2), none, some (.int v4), some (.int (I 84 v1.toNatClampNeg)), some (.int 0), some (.int s63.1), none] [] (SH, (zu (zu (zu (zu (zu (zu (zu I 91 0 v4) 91 1 v1) 91 2 (I 81 v1.toNatClampNeg)) 91 3 v2) 91 4 (I 97 ((8 * v2) + v1).toNatClampNeg)) 91 5 s63.1) 91 6 (I 101 (0 + s63.1).toNatClampNeg)), J) else none) rfl (zR_bif (by decide) (zR_go ?_))
          refine zr_steps 10 (262, [some (.ref 73), some (.int v1), some (.int v2), none, some (.int v4), some (.int (I 84 v1.toNatClampNeg)), some (.int 0), some (.int s63.1), none], [.int (0 + v2), .ref 101, .int 7, .ref 91], (SH, (zu (zu (zu (zu (zu (zu (zu I 91 0 v4) 91 1 v1) 91 2 (I 81 v1.toNatClampNeg)) 91 3 v2) 91 4 (I 97 ((8 * v2) + v1).toNatClampNeg)) 91 5 s63.1) 91 6 (I 101 (0 + s63.1).toNatClampNeg)), J)) rfl ?_
          obtain ⟨hc68, h⟩ := zbifo h
          refine zr_one (bif zin (0 + v2) 240 then zN 263 [some (.ref 73), some (.int v1), some (.int v2), none, some (.int v4), some (.int (I 84 v1.toNatClampNeg)), some (.int 0), some (.int s63.1), none] [.int (I 101 (0 + v2).toNatClampNeg), .int 7, .ref 91] (SH, (zu (zu (zu (zu (zu (zu (zu I 91 0 v4) 91 1 v1) 91 2 (I 81 v1.toNatClampNeg)) 91 3 v2) 91 4 (I 97 ((8 * v2) + v1).toNatClampNeg)) 91 5 s63.1) 91 6 (I 101 (0 + s63.1).toNatClampNeg)), J) else none) rfl (zR_bif hc68 (zR_go ?_))
          refine zr_one (bif zin 7 8 then zN 264 [some (.ref 73), some (.int v1), some (.int v2), none, some (.int v4), some (.int (I 84 v1.toNatClampNeg)), some (.int 0), some (.int s63.1), none] [] (SH, (zu (zu (zu (zu (zu (zu (zu (zu I 91 0 v4) 91 1 v1) 91 2 (I 81 v1.toNatClampNeg)) 91 3 v2) 91 4 (I 97 ((8 * v2) + v1).toNatClampNeg)) 91 5 s63.1) 91 6 (I 101 (0 + s63.1).toNatClampNeg)) 91 7 (I 101 (0 + v2).toNatClampNeg)), J) else none) rfl (zR_bif (by decide) (zR_go ?_))
          refine zr_steps 2 (267, [some (.ref 73), some (.int v1), some (.int v2), none, some (.int v4), some (.int (I 84 v1.toNatClampNeg)), some (.int 0), some (.int s63.1), none], [.int (I 84 v1.toNatClampNeg), .ref 73], (SH, (zu (zu (zu (zu (zu (zu (zu (zu I 91 0 v4) 91 1 v1) 91 2 (I 81 v1.toNatClampNeg)) 91 3 v2) 91 4 (I 97 ((8 * v2) + v1).toNatClampNeg)) 91 5 s63.1) 91 6 (I 101 (0 + s63.1).toNatClampNeg)) 91 7 (I 101 (0 + v2).toNatClampNeg)), J)) rfl ?_
          obtain ⟨t70, hc69, h⟩ := zbind h
          refine zr_one (some (.inr (.inl (155, [.ref 73, .int (I 84 v1.toNatClampNeg)], [], 270)))) rfl (zR_call (by omega) rfl (ok_f155_gives (by omega) (I 84 v1.toNatClampNeg) _ hc69) ?_)
          have he := Option.some.inj h
          subst he
          exact zr_one (some (.inr (.inr (some (.int t70.1))))) rfl (zR_ret rfl rfl)
def f169_doesLead (v0 : Int32) (v1 : Int32) (v2 : Int32) (v3 : Int32) : Option Int32 :=
  if v0 = v2 then
    if v1 = v3 then
      some 1
    else
      if v0 = v3 then
        if v1 = v2 then
          some 1
        else
          some 0
      else
        some 0
  else
    if v0 = v3 then
      if v1 = v2 then
        some 1
      else
        some 0
    else
      some 0
theorem ok_f169_doesLead {X : zX} {d : Nat} (hd : 0 ≤ d) (v0 : Int32) (v1 : Int32) (v2 : Int32) (v3 : Int32) {I : (Nat → Nat → Int32)} {J : (Nat → Nat → Int64)} (t : Int32) (h : f169_doesLead v0 v1 v2 v3 = some t) : zRun X d 169 0 (zent 169 [.int v0, .int v1, .int v2, .int v3]) [] (SH, I, J) (some (.int t)) (SH, I, J) := by
  unfold f169_doesLead at h
  refine zr_steps 2 (2, [some (.int v0), some (.int v1), some (.int v2), some (.int v3)], [.int v2, .int v0], (SH, I, J)) rfl ?_
  refine zr_one (if v0 = v2 then zN 5 [some (.int v0), some (.int v1), some (.int v2), some (.int v3)] [] (SH, I, J) else zN 10 [some (.int v0), some (.int v1), some (.int v2), some (.int v3)] [] (SH, I, J)) rfl (zR_if (fun hc6 => zR_go ?_) (fun hc6 => zR_go ?_))
  · rw [if_pos hc6] at h
    refine zr_steps 2 (7, [some (.int v0), some (.int v1), some (.int v2), some (.int v3)], [.int v3, .int v1], (SH, I, J)) rfl ?_
    refine zr_one (if v1 = v3 then zN 20 [some (.int v0), some (.int v1), some (.int v2), some (.int v3)] [] (SH, I, J) else zN 10 [some (.int v0), some (.int v1), some (.int v2), some (.int v3)] [] (SH, I, J)) rfl (zR_if (fun hc3 => zR_go ?_) (fun hc3 => zR_go ?_))
    · rw [if_pos hc3] at h
      refine zr_steps 2 (25, [some (.int v0), some (.int v1), some (.int v2), some (.int v3)], [.int 1], (SH, I, J)) rfl ?_
      have he := Option.some.inj h
      subst he
      exact zr_one (if ((1 : Int32) = 0 ∨ (1 : Int32) = 1) then some (.inr (.inr (some (.int 1)))) else none) rfl (zR_pos (by decide) (zR_ret rfl rfl))
    · rw [if_neg hc3] at h
      refine zr_steps 2 (12, [some (.int v0), some (.int v1), some (.int v2), some (.int v3)], [.int v3, .int v0], (SH, I, J)) rfl ?_
      refine zr_one (if v0 = v3 then zN 15 [some (.int v0), some (.int v1), some (.int v2), some (.int v3)] [] (SH, I, J) else zN 24 [some (.int v0), some (.int v1), some (.int v2), some (.int v3)] [] (SH, I, J)) rfl (zR_if (fun hc2 => zR_go ?_) (fun hc2 => zR_go ?_))
      · rw [if_pos hc2] at h
        refine zr_steps 2 (17, [some (.int v0), some (.int v1), some (.int v2), some (.int v3)], [.int v2, .int v1], (SH, I, J)) rfl ?_
        refine zr_one (if v1 = v2 then zN 20 [some (.int v0), some (.int v1), some (.int v2), some (.int v3)] [] (SH, I, J) else zN 24 [some (.int v0), some (.int v1), some (.int v2), some (.int v3)] [] (SH, I, J)) rfl (zR_if (fun hc1 => zR_go ?_) (fun hc1 => zR_go ?_))
        · rw [if_pos hc1] at h
          refine zr_steps 2 (25, [some (.int v0), some (.int v1), some (.int v2), some (.int v3)], [.int 1], (SH, I, J)) rfl ?_
          have he := Option.some.inj h
          subst he
          exact zr_one (if ((1 : Int32) = 0 ∨ (1 : Int32) = 1) then some (.inr (.inr (some (.int 1)))) else none) rfl (zR_pos (by decide) (zR_ret rfl rfl))
        · rw [if_neg hc1] at h
          refine zr_steps 1 (25, [some (.int v0), some (.int v1), some (.int v2), some (.int v3)], [.int 0], (SH, I, J)) rfl ?_
          have he := Option.some.inj h
          subst he
          exact zr_one (if ((0 : Int32) = 0 ∨ (0 : Int32) = 1) then some (.inr (.inr (some (.int 0)))) else none) rfl (zR_pos (by decide) (zR_ret rfl rfl))
      · rw [if_neg hc2] at h
        refine zr_steps 1 (25, [some (.int v0), some (.int v1), some (.int v2), some (.int v3)], [.int 0], (SH, I, J)) rfl ?_
        have he := Option.some.inj h
        subst he
        exact zr_one (if ((0 : Int32) = 0 ∨ (0 : Int32) = 1) then some (.inr (.inr (some (.int 0)))) else none) rfl (zR_pos (by decide) (zR_ret rfl rfl))
  · rw [if_neg hc6] at h
    refine zr_steps 2 (12, [some (.int v0), some (.int v1), some (.int v2), some (.int v3)], [.int v3, .int v0], (SH, I, J)) rfl ?_
    refine zr_one (if v0 = v3 then zN 15 [some (.int v0), some (.int v1), some (.int v2), some (.int v3)] [] (SH, I, J) else zN 24 [some (.int v0), some (.int v1), some (.int v2), some (.int v3)] [] (SH, I, J)) rfl (zR_if (fun hc5 => zR_go ?_) (fun hc5 => zR_go ?_))
    · rw [if_pos hc5] at h
      refine zr_steps 2 (17, [some (.int v0), some (.int v1), some (.int v2), some (.int v3)], [.int v2, .int v1], (SH, I, J)) rfl ?_
      refine zr_one (if v1 = v2 then zN 20 [some (.int v0), some (.int v1), some (.int v2), some (.int v3)] [] (SH, I, J) else zN 24 [some (.int v0), some (.int v1), some (.int v2), some (.int v3)] [] (SH, I, J)) rfl (zR_if (fun hc4 => zR_go ?_) (fun hc4 => zR_go ?_))
      · rw [if_pos hc4] at h
        refine zr_steps 2 (25, [some (.int v0), some (.int v1), some (.int v2), some (.int v3)], [.int 1], (SH, I, J)) rfl ?_
        have he := Option.some.inj h
        subst he
        exact zr_one (if ((1 : Int32) = 0 ∨ (1 : Int32) = 1) then some (.inr (.inr (some (.int 1)))) else none) rfl (zR_pos (by decide) (zR_ret rfl rfl))
      · rw [if_neg hc4] at h
        refine zr_steps 1 (25, [some (.int v0), some (.int v1), some (.int v2), some (.int v3)], [.int 0], (SH, I, J)) rfl ?_
        have he := Option.some.inj h
        subst he
        exact zr_one (if ((0 : Int32) = 0 ∨ (0 : Int32) = 1) then some (.inr (.inr (some (.int 0)))) else none) rfl (zR_pos (by decide) (zR_ret rfl rfl))
    · rw [if_neg hc5] at h
      refine zr_steps 1 (25, [some (.int v0), some (.int v1), some (.int v2), some (.int v3)], [.int 0], (SH, I, J)) rfl ?_
      have he := Option.some.inj h
      subst he
      exact zr_one (if ((0 : Int32) = 0 ∨ (0 : Int32) = 1) then some (.inr (.inr (some (.int 0)))) else none) rfl (zR_pos (by decide) (zR_ret rfl rfl))
