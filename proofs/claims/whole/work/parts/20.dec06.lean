def f76_firstFor_L2 (v1 : Int32) (I : (Nat → Nat → Int32)) (s : Int32) : Option (Int32 ⊕ (Int32 ⊕ Int32)) :=
  if (I 1 0) ≤ s then
    some (.inr (.inl s))
  else
    bif zin s 4 then
    if (I 3 s.toNatClampNeg) = v1 then
      some (.inl s)
    else
      some (.inr (.inr (s + 1)))
    else none
def f76_firstFor (v1 : Int32) (I : (Nat → Nat → Int32)) : Option Int32 :=
  zbR (zloopR (f76_firstFor_L2 v1 I) 5000 (0 : Int32)) (fun rr => some rr) fun s4 =>
  some (-1)
set_option maxRecDepth 100000 in
set_option maxHeartbeats 4000000 in
theorem ok_f76_firstFor_L2 {X : zX} {d : Nat} {r : Option Value} {M' : zM} (hd : 0 ≤ d) (v1 : Int32) {I : (Nat → Nat → Int32)} {J : (Nat → Nat → Int64)} : ∀ (n : Nat) (s : Int32) (t : Int32 ⊕ Int32), zloopR (f76_firstFor_L2 v1 I) n s = some t → zSumE (fun (x : Int32) => r = (some (.int x)) ∧ M' = (SH, I, J)) (fun (x : Int32) => zRun X d 76 28 [none, none, none] [] (SH, I, J) r M') t → (fun (s : Int32) => zRun X d 76 2 [some (.ref 1), some (.int v1), some (.int s)] [] (SH, I, J) r M') s := zloopR_ok (B := (f76_firstFor_L2 v1 I)) (Wh := fun (s : Int32) => zRun X d 76 2 [some (.ref 1), some (.int v1), some (.int s)] [] (SH, I, J) r M') (Wx := fun (x : Int32) => zRun X d 76 28 [none, none, none] [] (SH, I, J) r M') (Wr := fun (x : Int32) => r = (some (.int x)) ∧ M' = (SH, I, J)) (fun s y h w => by
  unfold f76_firstFor_L2 at h
  refine zr_steps 3 (7, [some (.ref 1), some (.int v1), some (.int s)], [.int (I 1 0), .int s], (SH, I, J)) rfl ?_
  refine zr_one (if (I 1 0) ≤ s then zN 28 [some (.ref 1), some (.int v1), some (.int s)] [] (SH, I, J) else zN 10 [some (.ref 1), some (.int v1), some (.int s)] [] (SH, I, J)) rfl (zR_if (fun hc3 => zR_go ?_) (fun hc3 => zR_go ?_))
  · rw [if_pos hc3] at h
    have he := Option.some.inj h
    subst he
    exact zr_hdr (ls2 := [none, none, none]) rfl rfl (show zRun X d 76 28 [none, none, none] [] (SH, I, J) r M' from w)
  · rw [if_neg hc3] at h
    refine zr_steps 3 (15, [some (.ref 1), some (.int v1), some (.int s)], [.int s, .ref 3], (SH, I, J)) rfl ?_
    obtain ⟨hc1, h⟩ := zbifo h
    refine zr_one (bif zin s 4 then zN 16 [some (.ref 1), some (.int v1), some (.int s)] [.int (I 3 s.toNatClampNeg)] (SH, I, J) else none) rfl (zR_bif hc1 (zR_go ?_))
    refine zr_steps 1 (17, [some (.ref 1), some (.int v1), some (.int s)], [.int v1, .int (I 3 s.toNatClampNeg)], (SH, I, J)) rfl ?_
    refine zr_one (if (I 3 s.toNatClampNeg) = v1 then zN 20 [some (.ref 1), some (.int v1), some (.int s)] [] (SH, I, J) else zN 22 [some (.ref 1), some (.int v1), some (.int s)] [] (SH, I, J)) rfl (zR_if (fun hc2 => zR_go ?_) (fun hc2 => zR_go ?_))
    · rw [if_pos hc2] at h
      refine zr_steps 1 (21, [some (.ref 1), some (.int v1), some (.int s)], [.int s], (SH, I, J)) rfl ?_
      have he := Option.some.inj h
      subst he
      obtain ⟨e1, e2⟩ := (show r = (some (.int s)) ∧ M' = (SH, I, J) from w)
      exact zr_one (some (.inr (.inr (some (.int s))))) rfl (zR_ret e1.symm e2.symm)
    · rw [if_neg hc2] at h
      refine zr_steps 2 (2, [some (.ref 1), some (.int v1), some (.int (s + 1))], [], (SH, I, J)) rfl ?_
      have he := Option.some.inj h
      subst he
      exact zr_hdr (ls2 := [some (.ref 1), some (.int v1), some (.int (s + 1))]) rfl rfl (show zRun X d 76 2 [some (.ref 1), some (.int v1), some (.int (s + 1))] [] (SH, I, J) r M' from w))
set_option maxRecDepth 100000 in
set_option maxHeartbeats 4000000 in
theorem ok_f76_firstFor {X : zX} {d : Nat} (hd : 0 ≤ d) (v1 : Int32) {I : (Nat → Nat → Int32)} {J : (Nat → Nat → Int64)} (t : Int32) (h : f76_firstFor v1 I = some t) : zRun X d 76 0 (zent 76 [.ref 1, .int v1]) [] (SH, I, J) (some (.int t)) (SH, I, J) := by
  unfold f76_firstFor at h
  refine zr_steps 2 (2, [some (.ref 1), some (.int v1), some (.int 0)], [], (SH, I, J)) rfl ?_
  obtain ⟨y6, ho5, hy⟩ := zbRe h
  refine zr_hdr (ls2 := [some (.ref 1), some (.int v1), some (.int 0)]) rfl rfl ?_
  refine ok_f76_firstFor_L2 (by omega) v1 5000 (0 : Int32) y6 ho5 ?_
  rcases hy with ⟨rr, rfl, h⟩ | ⟨s4, rfl, h⟩
  · have he := Option.some.inj h
    subst he
    exact ⟨rfl, rfl⟩
  · show zRun X d 76 28 [none, none, none] [] (SH, I, J) _ _
    refine zr_steps 1 (29, [none, none, none], [.int (-1)], (SH, I, J)) rfl ?_
    have he := Option.some.inj h
    subst he
    exact zr_one (some (.inr (.inr (some (.int (-1)))))) rfl (zR_ret rfl rfl)
def f47_aim_24 (v1 : Int32) (v2 : Int32) (v3 : Int32) (I : (Nat → Nat → Int32)) : Option (Int32 × (Nat → Nat → Int32)) :=
  if v2 = (I 25 4) then
    if (I 25 6) ≤ v1 then
      some ((I 25 5), I)
    else
      some ((-1), I)
  else
    bif zin v2 8 then
    if (I 27 v2.toNatClampNeg) < (I 15 7) then
      bif zin v2 8 then
      bif zin ((v3 * 8) + v2) 32 then
      Option.bind (f43_seenIn_24 v3 (zu (zu (zu (zu I 36 1 v2) 36 2 (I 9 v2.toNatClampNeg)) 36 3 v3) 36 4 (I 28 ((v3 * 8) + v2).toNatClampNeg))) fun t6 =>
      bif zin v2 8 then
      Option.bind (f30_gives_15_36 (I 27 v2.toNatClampNeg) (zu (zu (zu (zu (zu I 36 1 v2) 36 2 (I 9 v2.toNatClampNeg)) 36 3 v3) 36 4 (I 28 ((v3 * 8) + v2).toNatClampNeg)) 36 7 t6)) fun t9 =>
      some (t9.1, t9.2)
      else none
      else none
      else none
    else
      bif zin v2 8 then
      Option.bind (f76_firstFor (I 9 v2.toNatClampNeg) I) fun t12 =>
      some (t12, I)
      else none
    else none
set_option maxRecDepth 100000 in
set_option maxHeartbeats 4000000 in
theorem ok_f47_aim_24 {X : zX} {d : Nat} (hd : 3 ≤ d) (v1 : Int32) (v2 : Int32) (v3 : Int32) {I : (Nat → Nat → Int32)} {J : (Nat → Nat → Int64)} (t : (Int32 × (Nat → Nat → Int32))) (h : f47_aim_24 v1 v2 v3 I = some t) : zRun X d 47 0 (zent 47 [.ref 24, .int v1, .int v2, .int v3]) [] (SH, I, J) (some (.int t.1)) (SH, t.2, J) := by
  unfold f47_aim_24 at h
  refine zr_steps 4 (8, [some (.ref 24), some (.int v1), some (.int v2), some (.int v3)], [.int (I 25 4), .int v2], (SH, I, J)) rfl ?_
  refine zr_one (if v2 = (I 25 4) then zN 11 [some (.ref 24), some (.int v1), some (.int v2), some (.int v3)] [] (SH, I, J) else zN 34 [some (.ref 24), some (.int v1), some (.int v2), some (.int v3)] [] (SH, I, J)) rfl (zR_if (fun hc14 => zR_go ?_) (fun hc14 => zR_go ?_))
  · rw [if_pos hc14] at h
    refine zr_steps 4 (19, [some (.ref 24), some (.int v1), some (.int v2), some (.int v3)], [.int (I 25 6), .int v1], (SH, I, J)) rfl ?_
    refine zr_one (if (I 25 6) ≤ v1 then zN 26 [some (.ref 24), some (.int v1), some (.int v2), some (.int v3)] [] (SH, I, J) else zN 22 [some (.ref 24), some (.int v1), some (.int v2), some (.int v3)] [] (SH, I, J)) rfl (zR_if (fun hc1 => zR_go ?_) (fun hc1 => zR_go ?_))
    · rw [if_pos hc1] at h
      refine zr_steps 3 (33, [some (.ref 24), some (.int v1), some (.int v2), some (.int v3)], [.int (I 25 5)], (SH, I, J)) rfl ?_
      have he := Option.some.inj h
      subst he
      exact zr_one (some (.inr (.inr (some (.int (I 25 5)))))) rfl (zR_ret rfl rfl)
    · rw [if_neg hc1] at h
      refine zr_steps 2 (33, [some (.ref 24), some (.int v1), some (.int v2), some (.int v3)], [.int (-1)], (SH, I, J)) rfl ?_
      have he := Option.some.inj h
      subst he
      exact zr_one (some (.inr (.inr (some (.int (-1)))))) rfl (zR_ret rfl rfl)
  · rw [if_neg hc14] at h
    refine zr_steps 4 (42, [some (.ref 24), some (.int v1), some (.int v2), some (.int v3)], [.int v2, .ref 27], (SH, I, J)) rfl ?_
    obtain ⟨hc2, h⟩ := zbifo h
    refine zr_one (bif zin v2 8 then zN 43 [some (.ref 24), some (.int v1), some (.int v2), some (.int v3)] [.int (I 27 v2.toNatClampNeg)] (SH, I, J) else none) rfl (zR_bif hc2 (zR_go ?_))
    refine zr_steps 3 (50, [some (.ref 24), some (.int v1), some (.int v2), some (.int v3)], [.int (I 15 7), .int (I 27 v2.toNatClampNeg)], (SH, I, J)) rfl ?_
    refine zr_one (if (I 27 v2.toNatClampNeg) < (I 15 7) then zN 70 [some (.ref 24), some (.int v1), some (.int v2), some (.int v3)] [] (SH, I, J) else zN 53 [some (.ref 24), some (.int v1), some (.int v2), some (.int v3)] [] (SH, I, J)) rfl (zR_if (fun hc13 => zR_go ?_) (fun hc13 => zR_go ?_))
    · rw [if_pos hc13] at h
      refine zr_steps 4 (76, [some (.ref 24), some (.int v1), some (.int v2), some (.int v3)], [.int v2, .int 1, .ref 36], (SH, I, J)) rfl ?_
      refine zr_one (bif zin 1 8 then zN 77 [some (.ref 24), some (.int v1), some (.int v2), some (.int v3)] [] (SH, (zu I 36 1 v2), J) else none) rfl (zR_bif (by decide) (zR_go ?_))
      refine zr_steps 7 (90, [some (.ref 24), some (.int v1), some (.int v2), some (.int v3)], [.int v2, .ref 9, .int 2, .ref 36], (SH, (zu I 36 1 v2), J)) rfl ?_
      obtain ⟨hc3, h⟩ := zbifo h
      refine zr_one (bif zin v2 8 then zN 91 [some (.ref 24), some (.int v1), some (.int v2), some (.int v3)] [.int (I 9 v2.toNatClampNeg), .int 2, .ref 36] (SH, (zu I 36 1 v2), J) else none) rfl (zR_bif hc3 (zR_go ?_))
      refine zr_one (bif zin 2 8 then zN 92 [some (.ref 24), some (.int v1), some (.int v2), some (.int v3)] [] (SH, (zu (zu I 36 1 v2) 36 2 (I 9 v2.toNatClampNeg)), J) else none) rfl (zR_bif (by decide) (zR_go ?_))
      refine zr_steps 4 (98, [some (.ref 24), some (.int v1), some (.int v2), some (.int v3)], [.int v3, .int 3, .ref 36], (SH, (zu (zu I 36 1 v2) 36 2 (I 9 v2.toNatClampNeg)), J)) rfl ?_
      refine zr_one (bif zin 3 8 then zN 99 [some (.ref 24), some (.int v1), some (.int v2), some (.int v3)] [] (SH, (zu (zu (zu I 36 1 v2) 36 2 (I 9 v2.toNatClampNeg)) 36 3 v3), J) else none) rfl (zR_bif (by decide) (zR_go ?_))
      refine zr_steps 10 (114, [some (.ref 24), some (.int v1), some (.int v2), some (.int v3)], [.int ((v3 * 8) + v2), .ref 28, .int 4, .ref 36], (SH, (zu (zu (zu I 36 1 v2) 36 2 (I 9 v2.toNatClampNeg)) 36 3 v3), J)) rfl ?_
      obtain ⟨hc4, h⟩ := zbifo h
      refine zr_one (bif zin ((v3 * 8) + v2) 32 then zN 115 [some (.ref 24), some (.int v1), some (.int v2), some (.int v3)] [.int (I 28 ((v3 * 8) + v2).toNatClampNeg), .int 4, .ref 36] (SH, (zu (zu (zu I 36 1 v2) 36 2 (I 9 v2.toNatClampNeg)) 36 3 v3), J) else none) rfl (zR_bif hc4 (zR_go ?_))
      refine zr_one (bif zin 4 8 then zN 116 [some (.ref 24), some (.int v1), some (.int v2), some (.int v3)] [] (SH, (zu (zu (zu (zu I 36 1 v2) 36 2 (I 9 v2.toNatClampNeg)) 36 3 v3) 36 4 (I 28 ((v3 * 8) + v2).toNatClampNeg)), J) else none) rfl (zR_bif (by decide) (zR_go ?_))
      refine zr_steps 5 (124, [some (.ref 24), some (.int v1), some (.int v2), some (.int v3)], [.int v3, .ref 24, .int 7, .ref 36], (SH, (zu (zu (zu (zu I 36 1 v2) 36 2 (I 9 v2.toNatClampNeg)) 36 3 v3) 36 4 (I 28 ((v3 * 8) + v2).toNatClampNeg)), J)) rfl ?_
      obtain ⟨t6, hc5, h⟩ := zbind h
      refine zr_one (some (.inr (.inl (43, [.ref 24, .int v3], [.int 7, .ref 36], 127)))) rfl (zR_call (by omega) rfl (ok_f43_seenIn_24 (by omega) v3 _ hc5) ?_)
      refine zr_one (bif zin 7 8 then zN 128 [some (.ref 24), some (.int v1), some (.int v2), some (.int v3)] [] (SH, (zu (zu (zu (zu (zu I 36 1 v2) 36 2 (I 9 v2.toNatClampNeg)) 36 3 v3) 36 4 (I 28 ((v3 * 8) + v2).toNatClampNeg)) 36 7 t6), J) else none) rfl (zR_bif (by decide) (zR_go ?_))
      refine zr_steps 6 (140, [some (.ref 24), some (.int v1), some (.int v2), some (.int v3)], [.int v2, .ref 27, .ref 15], (SH, (zu (zu (zu (zu (zu I 36 1 v2) 36 2 (I 9 v2.toNatClampNeg)) 36 3 v3) 36 4 (I 28 ((v3 * 8) + v2).toNatClampNeg)) 36 7 t6), J)) rfl ?_
      obtain ⟨hc7, h⟩ := zbifo h
      refine zr_one (bif zin v2 8 then zN 141 [some (.ref 24), some (.int v1), some (.int v2), some (.int v3)] [.int (I 27 v2.toNatClampNeg), .ref 15] (SH, (zu (zu (zu (zu (zu I 36 1 v2) 36 2 (I 9 v2.toNatClampNeg)) 36 3 v3) 36 4 (I 28 ((v3 * 8) + v2).toNatClampNeg)) 36 7 t6), J) else none) rfl (zR_bif hc7 (zR_go ?_))
      refine zr_steps 2 (145, [some (.ref 24), some (.int v1), some (.int v2), some (.int v3)], [.ref 36, .int (I 27 v2.toNatClampNeg), .ref 15], (SH, (zu (zu (zu (zu (zu I 36 1 v2) 36 2 (I 9 v2.toNatClampNeg)) 36 3 v3) 36 4 (I 28 ((v3 * 8) + v2).toNatClampNeg)) 36 7 t6), J)) rfl ?_
      obtain ⟨t9, hc8, h⟩ := zbind h
      refine zr_one (some (.inr (.inl (30, [.ref 15, .int (I 27 v2.toNatClampNeg), .ref 36], [], 148)))) rfl (zR_call (by omega) rfl (ok_f30_gives_15_36 (by omega) (I 27 v2.toNatClampNeg) _ hc8) ?_)
      have he := Option.some.inj h
      subst he
      exact zr_one (some (.inr (.inr (some (.int t9.1))))) rfl (zR_ret rfl rfl)
    · rw [if_neg hc13] at h
      refine zr_steps 6 (65, [some (.ref 24), some (.int v1), some (.int v2), some (.int v3)], [.int v2, .ref 9, .ref 1], (SH, I, J)) rfl ?_
      obtain ⟨hc10, h⟩ := zbifo h
      refine zr_one (bif zin v2 8 then zN 66 [some (.ref 24), some (.int v1), some (.int v2), some (.int v3)] [.int (I 9 v2.toNatClampNeg), .ref 1] (SH, I, J) else none) rfl (zR_bif hc10 (zR_go ?_))
      obtain ⟨t12, hc11, h⟩ := zbind h
      refine zr_one (some (.inr (.inl (76, [.ref 1, .int (I 9 v2.toNatClampNeg)], [], 69)))) rfl (zR_call (by omega) rfl (ok_f76_firstFor (by omega) (I 9 v2.toNatClampNeg) _ hc11) ?_)
      have he := Option.some.inj h
      subst he
      exact zr_one (some (.inr (.inr (some (.int t12))))) rfl (zR_ret rfl rfl)
def f46_setOut_24 (v1 : Int32) (v2 : Int32) (v3 : Int32) (I : (Nat → Nat → Int32)) : Option (Nat → Nat → Int32) :=
  Option.bind (f47_aim_24 v1 v2 v3 I) fun t2 =>
  Option.bind (f61_isSquare t2.1 t2.2) fun t4 =>
  if t4 = 0 then
    some t2.2
  else
    if t2.1 = v3 then
      some t2.2
    else
      bif zin ((v3 * 4) + t2.1) 16 then
      if (0 : Int32) ≤ (t2.2 13 ((v3 * 4) + t2.1).toNatClampNeg) then
        bif zin (t2.2 13 ((v3 * 4) + t2.1).toNatClampNeg) 12 then
        if (t2.2 4 (t2.2 13 ((v3 * 4) + t2.1).toNatClampNeg).toNatClampNeg) = v3 then
          bif zin ((v3 * 8) + v2) 32 then
          bif zin (2 * (t2.2 13 ((v3 * 4) + t2.1).toNatClampNeg)) 24 then
          bif zin (2 * (t2.2 13 ((v3 * 4) + t2.1).toNatClampNeg)) 24 then
          bif zin (2 * (t2.2 13 ((v3 * 4) + t2.1).toNatClampNeg)) 24 then
          bif zin ((v3 * 8) + v2) 32 then
          bif zin ((v3 * 8) + v2) 32 then
          bif zin v3 4 then
          bif zin v3 4 then
          bif zin (t2.2 13 ((v3 * 4) + t2.1).toNatClampNeg) 12 then
          bif zin v2 8 then
          if (t2.2 25 0) < (v1 + ((t2.2 6 (t2.2 13 ((v3 * 4) + t2.1).toNatClampNeg).toNatClampNeg) * (t2.2 11 v2.toNatClampNeg))) then
            some (zu (zu (zu t2.2 35 (2 * (t2.2 13 ((v3 * 4) + t2.1).toNatClampNeg)).toNatClampNeg ((t2.2 35 (2 * (t2.2 13 ((v3 * 4) + t2.1).toNatClampNeg)).toNatClampNeg) - (zmin (t2.2 28 ((v3 * 8) + v2).toNatClampNeg) (t2.2 35 (2 * (t2.2 13 ((v3 * 4) + t2.1).toNatClampNeg)).toNatClampNeg)))) 28 ((v3 * 8) + v2).toNatClampNeg ((t2.2 28 ((v3 * 8) + v2).toNatClampNeg) - (zmin (t2.2 28 ((v3 * 8) + v2).toNatClampNeg) (t2.2 35 (2 * (t2.2 13 ((v3 * 4) + t2.1).toNatClampNeg)).toNatClampNeg)))) 31 v3.toNatClampNeg ((t2.2 31 v3.toNatClampNeg) - (zmin (t2.2 28 ((v3 * 8) + v2).toNatClampNeg) (t2.2 35 (2 * (t2.2 13 ((v3 * 4) + t2.1).toNatClampNeg)).toNatClampNeg))))
          else
            bif zin ((((v1 + ((t2.2 6 (t2.2 13 ((v3 * 4) + t2.1).toNatClampNeg).toNatClampNeg) * (t2.2 11 v2.toNatClampNeg))) * 32) + (t2.1 * 8)) + v2) 1952 then
            bif zin ((((v1 + ((t2.2 6 (t2.2 13 ((v3 * 4) + t2.1).toNatClampNeg).toNatClampNeg) * (t2.2 11 v2.toNatClampNeg))) * 32) + (t2.1 * 8)) + v2) 1952 then
            some (zu (zu (zu (zu t2.2 35 (2 * (t2.2 13 ((v3 * 4) + t2.1).toNatClampNeg)).toNatClampNeg ((t2.2 35 (2 * (t2.2 13 ((v3 * 4) + t2.1).toNatClampNeg)).toNatClampNeg) - (zmin (t2.2 28 ((v3 * 8) + v2).toNatClampNeg) (t2.2 35 (2 * (t2.2 13 ((v3 * 4) + t2.1).toNatClampNeg)).toNatClampNeg)))) 28 ((v3 * 8) + v2).toNatClampNeg ((t2.2 28 ((v3 * 8) + v2).toNatClampNeg) - (zmin (t2.2 28 ((v3 * 8) + v2).toNatClampNeg) (t2.2 35 (2 * (t2.2 13 ((v3 * 4) + t2.1).toNatClampNeg)).toNatClampNeg)))) 31 v3.toNatClampNeg ((t2.2 31 v3.toNatClampNeg) - (zmin (t2.2 28 ((v3 * 8) + v2).toNatClampNeg) (t2.2 35 (2 * (t2.2 13 ((v3 * 4) + t2.1).toNatClampNeg)).toNatClampNeg)))) 32 ((((v1 + ((t2.2 6 (t2.2 13 ((v3 * 4) + t2.1).toNatClampNeg).toNatClampNeg) * (t2.2 11 v2.toNatClampNeg))) * 32) + (t2.1 * 8)) + v2).toNatClampNeg ((t2.2 32 ((((v1 + ((t2.2 6 (t2.2 13 ((v3 * 4) + t2.1).toNatClampNeg).toNatClampNeg) * (t2.2 11 v2.toNatClampNeg))) * 32) + (t2.1 * 8)) + v2).toNatClampNeg) + (zmin (t2.2 28 ((v3 * 8) + v2).toNatClampNeg) (t2.2 35 (2 * (t2.2 13 ((v3 * 4) + t2.1).toNatClampNeg)).toNatClampNeg))))
            else none
            else none
          else none
          else none
          else none
          else none
          else none
          else none
          else none
          else none
          else none
          else none
        else
          bif zin ((v3 * 8) + v2) 32 then
          bif zin ((2 * (t2.2 13 ((v3 * 4) + t2.1).toNatClampNeg)) + 1) 24 then
          bif zin ((2 * (t2.2 13 ((v3 * 4) + t2.1).toNatClampNeg)) + 1) 24 then
          bif zin ((2 * (t2.2 13 ((v3 * 4) + t2.1).toNatClampNeg)) + 1) 24 then
          bif zin ((v3 * 8) + v2) 32 then
          bif zin ((v3 * 8) + v2) 32 then
          bif zin v3 4 then
          bif zin v3 4 then
          bif zin (t2.2 13 ((v3 * 4) + t2.1).toNatClampNeg) 12 then
          bif zin v2 8 then
          if (t2.2 25 0) < (v1 + ((t2.2 6 (t2.2 13 ((v3 * 4) + t2.1).toNatClampNeg).toNatClampNeg) * (t2.2 11 v2.toNatClampNeg))) then
            some (zu (zu (zu t2.2 35 ((2 * (t2.2 13 ((v3 * 4) + t2.1).toNatClampNeg)) + 1).toNatClampNeg ((t2.2 35 ((2 * (t2.2 13 ((v3 * 4) + t2.1).toNatClampNeg)) + 1).toNatClampNeg) - (zmin (t2.2 28 ((v3 * 8) + v2).toNatClampNeg) (t2.2 35 ((2 * (t2.2 13 ((v3 * 4) + t2.1).toNatClampNeg)) + 1).toNatClampNeg)))) 28 ((v3 * 8) + v2).toNatClampNeg ((t2.2 28 ((v3 * 8) + v2).toNatClampNeg) - (zmin (t2.2 28 ((v3 * 8) + v2).toNatClampNeg) (t2.2 35 ((2 * (t2.2 13 ((v3 * 4) + t2.1).toNatClampNeg)) + 1).toNatClampNeg)))) 31 v3.toNatClampNeg ((t2.2 31 v3.toNatClampNeg) - (zmin (t2.2 28 ((v3 * 8) + v2).toNatClampNeg) (t2.2 35 ((2 * (t2.2 13 ((v3 * 4) + t2.1).toNatClampNeg)) + 1).toNatClampNeg))))
          else
            bif zin ((((v1 + ((t2.2 6 (t2.2 13 ((v3 * 4) + t2.1).toNatClampNeg).toNatClampNeg) * (t2.2 11 v2.toNatClampNeg))) * 32) + (t2.1 * 8)) + v2) 1952 then
            bif zin ((((v1 + ((t2.2 6 (t2.2 13 ((v3 * 4) + t2.1).toNatClampNeg).toNatClampNeg) * (t2.2 11 v2.toNatClampNeg))) * 32) + (t2.1 * 8)) + v2) 1952 then
            some (zu (zu (zu (zu t2.2 35 ((2 * (t2.2 13 ((v3 * 4) + t2.1).toNatClampNeg)) + 1).toNatClampNeg ((t2.2 35 ((2 * (t2.2 13 ((v3 * 4) + t2.1).toNatClampNeg)) + 1).toNatClampNeg) - (zmin (t2.2 28 ((v3 * 8) + v2).toNatClampNeg) (t2.2 35 ((2 * (t2.2 13 ((v3 * 4) + t2.1).toNatClampNeg)) + 1).toNatClampNeg)))) 28 ((v3 * 8) + v2).toNatClampNeg ((t2.2 28 ((v3 * 8) + v2).toNatClampNeg) - (zmin (t2.2 28 ((v3 * 8) + v2).toNatClampNeg) (t2.2 35 ((2 * (t2.2 13 ((v3 * 4) + t2.1).toNatClampNeg)) + 1).toNatClampNeg)))) 31 v3.toNatClampNeg ((t2.2 31 v3.toNatClampNeg) - (zmin (t2.2 28 ((v3 * 8) + v2).toNatClampNeg) (t2.2 35 ((2 * (t2.2 13 ((v3 * 4) + t2.1).toNatClampNeg)) + 1).toNatClampNeg)))) 32 ((((v1 + ((t2.2 6 (t2.2 13 ((v3 * 4) + t2.1).toNatClampNeg).toNatClampNeg) * (t2.2 11 v2.toNatClampNeg))) * 32) + (t2.1 * 8)) + v2).toNatClampNeg ((t2.2 32 ((((v1 + ((t2.2 6 (t2.2 13 ((v3 * 4) + t2.1).toNatClampNeg).toNatClampNeg) * (t2.2 11 v2.toNatClampNeg))) * 32) + (t2.1 * 8)) + v2).toNatClampNeg) + (zmin (t2.2 28 ((v3 * 8) + v2).toNatClampNeg) (t2.2 35 ((2 * (t2.2 13 ((v3 * 4) + t2.1).toNatClampNeg)) + 1).toNatClampNeg))))
            else none
            else none
          else none
          else none
          else none
          else none
          else none
          else none
          else none
          else none
          else none
          else none
        else none
      else
        some t2.2
      else none
set_option maxRecDepth 100000 in
set_option maxHeartbeats 4000000 in
theorem ok_f46_setOut_24 {X : zX} {d : Nat} (hd : 4 ≤ d) (v1 : Int32) (v2 : Int32) (v3 : Int32) {I : (Nat → Nat → Int32)} {J : (Nat → Nat → Int64)} (t : (Nat → Nat → Int32)) (h : f46_setOut_24 v1 v2 v3 I = some t) : zRun X d 46 0 (zent 46 [.ref 24, .int v1, .int v2, .int v3]) [] (SH, I, J) none (SH, t, J) := by
  unfold f46_setOut_24 at h
  refine zr_steps 4 (4, [some (.ref 24), some (.int v1), some (.int v2), some (.int v3), none, none, none, none, none], [.int v3, .int v2, .int v1, .ref 24], (SH, I, J)) rfl ?_
  obtain ⟨t2, hc1, h⟩ := zbind h
  refine zr_one (some (.inr (.inl (47, [.ref 24, .int v1, .int v2, .int v3], [], 7)))) rfl (zR_call (by omega) rfl (ok_f47_aim_24 (by omega) v1 v2 v3 _ hc1) ?_)
  refine zr_steps 4 (15, [some (.ref 24), some (.int v1), some (.int v2), some (.int v3), some (.int t2.1), none, none, none, none], [.int t2.1, .ref 1], (SH, t2.2, J)) rfl ?_
  obtain ⟨t4, hc3, h⟩ := zbind h
  refine zr_one (some (.inr (.inl (61, [.ref 1, .int t2.1], [], 18)))) rfl (zR_call (by omega) rfl (ok_f61_isSquare (by omega) t2.1 _ hc3) ?_)
  refine zr_one (if t4 = 0 then zN 44 [some (.ref 24), some (.int v1), some (.int v2), some (.int v3), some (.int t2.1), none, none, none, none] [] (SH, t2.2, J) else zN 21 [some (.ref 24), some (.int v1), some (.int v2), some (.int v3), some (.int t2.1), none, none, none, none] [] (SH, t2.2, J)) rfl (zR_if (fun hc36 => zR_go ?_) (fun hc36 => zR_go ?_))
  · rw [if_pos hc36] at h
    refine zr_steps 3 (49, [some (.ref 24), some (.int v1), some (.int v2), some (.int v3), some (.int t2.1), some (.int (-1)), none, none, none], [.int (-1)], (SH, t2.2, J)) rfl ?_
    refine zr_one (if (0 : Int32) ≤ (-1) then zN 53 [some (.ref 24), some (.int v1), some (.int v2), some (.int v3), some (.int t2.1), some (.int (-1)), none, none, none] [] (SH, t2.2, J) else zN 52 [some (.ref 24), some (.int v1), some (.int v2), some (.int v3), some (.int t2.1), some (.int (-1)), none, none, none] [] (SH, t2.2, J)) rfl (zR_div (by decide) (zR_go ?_))
    have he := Option.some.inj h
    subst he
    exact zr_one (some (.inr (.inr none))) rfl (zR_ret rfl rfl)
  · rw [if_neg hc36] at h
    refine zr_steps 2 (24, [some (.ref 24), some (.int v1), some (.int v2), some (.int v3), some (.int t2.1), none, none, none, none], [.int v3, .int t2.1], (SH, t2.2, J)) rfl ?_
    refine zr_one (if t2.1 = v3 then zN 44 [some (.ref 24), some (.int v1), some (.int v2), some (.int v3), some (.int t2.1), none, none, none, none] [] (SH, t2.2, J) else zN 27 [some (.ref 24), some (.int v1), some (.int v2), some (.int v3), some (.int t2.1), none, none, none, none] [] (SH, t2.2, J)) rfl (zR_if (fun hc35 => zR_go ?_) (fun hc35 => zR_go ?_))
    · rw [if_pos hc35] at h
      refine zr_steps 3 (49, [some (.ref 24), some (.int v1), some (.int v2), some (.int v3), some (.int t2.1), some (.int (-1)), none, none, none], [.int (-1)], (SH, t2.2, J)) rfl ?_
      refine zr_one (if (0 : Int32) ≤ (-1) then zN 53 [some (.ref 24), some (.int v1), some (.int v2), some (.int v3), some (.int t2.1), some (.int (-1)), none, none, none] [] (SH, t2.2, J) else zN 52 [some (.ref 24), some (.int v1), some (.int v2), some (.int v3), some (.int t2.1), some (.int (-1)), none, none, none] [] (SH, t2.2, J)) rfl (zR_div (by decide) (zR_go ?_))
      have he := Option.some.inj h
      subst he
      exact zr_one (some (.inr (.inr none))) rfl (zR_ret rfl rfl)
    · rw [if_neg hc35] at h
      refine zr_steps 8 (40, [some (.ref 24), some (.int v1), some (.int v2), some (.int v3), some (.int t2.1), none, none, none, none], [.int ((v3 * 4) + t2.1), .ref 13], (SH, t2.2, J)) rfl ?_
      obtain ⟨hc5, h⟩ := zbifo h
      refine zr_one (bif zin ((v3 * 4) + t2.1) 16 then zN 41 [some (.ref 24), some (.int v1), some (.int v2), some (.int v3), some (.int t2.1), none, none, none, none] [.int (t2.2 13 ((v3 * 4) + t2.1).toNatClampNeg)] (SH, t2.2, J) else none) rfl (zR_bif hc5 (zR_go ?_))
      refine zr_steps 3 (49, [some (.ref 24), some (.int v1), some (.int v2), some (.int v3), some (.int t2.1), some (.int (t2.2 13 ((v3 * 4) + t2.1).toNatClampNeg)), none, none, none], [.int (t2.2 13 ((v3 * 4) + t2.1).toNatClampNeg)], (SH, t2.2, J)) rfl ?_
      refine zr_one (if (0 : Int32) ≤ (t2.2 13 ((v3 * 4) + t2.1).toNatClampNeg) then zN 53 [some (.ref 24), some (.int v1), some (.int v2), some (.int v3), some (.int t2.1), some (.int (t2.2 13 ((v3 * 4) + t2.1).toNatClampNeg)), none, none, none] [] (SH, t2.2, J) else zN 52 [some (.ref 24), some (.int v1), some (.int v2), some (.int v3), some (.int t2.1), some (.int (t2.2 13 ((v3 * 4) + t2.1).toNatClampNeg)), none, none, none] [] (SH, t2.2, J)) rfl (zR_if (fun hc34 => zR_go ?_) (fun hc34 => zR_go ?_))
      · rw [if_pos hc34] at h
        refine zr_steps 4 (62, [some (.ref 24), some (.int v1), some (.int v2), some (.int v3), some (.int t2.1), some (.int (t2.2 13 ((v3 * 4) + t2.1).toNatClampNeg)), none, none, none], [.int (t2.2 13 ((v3 * 4) + t2.1).toNatClampNeg), .ref 4], (SH, t2.2, J)) rfl ?_
        obtain ⟨hc6, h⟩ := zbifo h
        refine zr_one (bif zin (t2.2 13 ((v3 * 4) + t2.1).toNatClampNeg) 12 then zN 63 [some (.ref 24), some (.int v1), some (.int v2), some (.int v3), some (.int t2.1), some (.int (t2.2 13 ((v3 * 4) + t2.1).toNatClampNeg)), none, none, none] [.int (t2.2 4 (t2.2 13 ((v3 * 4) + t2.1).toNatClampNeg).toNatClampNeg)] (SH, t2.2, J) else none) rfl (zR_bif hc6 (zR_go ?_))
        refine zr_steps 1 (64, [some (.ref 24), some (.int v1), some (.int v2), some (.int v3), some (.int t2.1), some (.int (t2.2 13 ((v3 * 4) + t2.1).toNatClampNeg)), none, none, none], [.int v3, .int (t2.2 4 (t2.2 13 ((v3 * 4) + t2.1).toNatClampNeg).toNatClampNeg)], (SH, t2.2, J)) rfl ?_
        refine zr_one (if (t2.2 4 (t2.2 13 ((v3 * 4) + t2.1).toNatClampNeg).toNatClampNeg) = v3 then zN 67 [some (.ref 24), some (.int v1), some (.int v2), some (.int v3), some (.int t2.1), some (.int (t2.2 13 ((v3 * 4) + t2.1).toNatClampNeg)), none, none, none] [] (SH, t2.2, J) else zN 74 [some (.ref 24), some (.int v1), some (.int v2), some (.int v3), some (.int t2.1), some (.int (t2.2 13 ((v3 * 4) + t2.1).toNatClampNeg)), none, none, none] [] (SH, t2.2, J)) rfl (zR_if (fun hc33 => zR_go ?_) (fun hc33 => zR_go ?_))
        · rw [if_pos hc33] at h
          refine zr_steps 12 (92, [some (.ref 24), some (.int v1), some (.int v2), some (.int v3), some (.int t2.1), some (.int (t2.2 13 ((v3 * 4) + t2.1).toNatClampNeg)), some (.int (2 * (t2.2 13 ((v3 * 4) + t2.1).toNatClampNeg))), none, none], [.int ((v3 * 8) + v2), .ref 28], (SH, t2.2, J)) rfl ?_
          obtain ⟨hc7, h⟩ := zbifo h
          refine zr_one (bif zin ((v3 * 8) + v2) 32 then zN 93 [some (.ref 24), some (.int v1), some (.int v2), some (.int v3), some (.int t2.1), some (.int (t2.2 13 ((v3 * 4) + t2.1).toNatClampNeg)), some (.int (2 * (t2.2 13 ((v3 * 4) + t2.1).toNatClampNeg))), none, none] [.int (t2.2 28 ((v3 * 8) + v2).toNatClampNeg)] (SH, t2.2, J) else none) rfl (zR_bif hc7 (zR_go ?_))
          refine zr_steps 3 (99, [some (.ref 24), some (.int v1), some (.int v2), some (.int v3), some (.int t2.1), some (.int (t2.2 13 ((v3 * 4) + t2.1).toNatClampNeg)), some (.int (2 * (t2.2 13 ((v3 * 4) + t2.1).toNatClampNeg))), none, none], [.int (2 * (t2.2 13 ((v3 * 4) + t2.1).toNatClampNeg)), .ref 35, .int (t2.2 28 ((v3 * 8) + v2).toNatClampNeg)], (SH, t2.2, J)) rfl ?_
          obtain ⟨hc8, h⟩ := zbifo h
          refine zr_one (bif zin (2 * (t2.2 13 ((v3 * 4) + t2.1).toNatClampNeg)) 24 then zN 100 [some (.ref 24), some (.int v1), some (.int v2), some (.int v3), some (.int t2.1), some (.int (t2.2 13 ((v3 * 4) + t2.1).toNatClampNeg)), some (.int (2 * (t2.2 13 ((v3 * 4) + t2.1).toNatClampNeg))), none, none] [.int (t2.2 35 (2 * (t2.2 13 ((v3 * 4) + t2.1).toNatClampNeg)).toNatClampNeg), .int (t2.2 28 ((v3 * 8) + v2).toNatClampNeg)] (SH, t2.2, J) else none) rfl (zR_bif hc8 (zR_go ?_))
          refine zr_steps 6 (112, [some (.ref 24), some (.int v1), some (.int v2), some (.int v3), some (.int t2.1), some (.int (t2.2 13 ((v3 * 4) + t2.1).toNatClampNeg)), some (.int (2 * (t2.2 13 ((v3 * 4) + t2.1).toNatClampNeg))), some (.int (zmin (t2.2 28 ((v3 * 8) + v2).toNatClampNeg) (t2.2 35 (2 * (t2.2 13 ((v3 * 4) + t2.1).toNatClampNeg)).toNatClampNeg))), none], [.int (2 * (t2.2 13 ((v3 * 4) + t2.1).toNatClampNeg)), .ref 35, .int (2 * (t2.2 13 ((v3 * 4) + t2.1).toNatClampNeg)), .ref 35], (SH, t2.2, J)) rfl ?_
          obtain ⟨hc9, h⟩ := zbifo h
          refine zr_one (bif zin (2 * (t2.2 13 ((v3 * 4) + t2.1).toNatClampNeg)) 24 then zN 113 [some (.ref 24), some (.int v1), some (.int v2), some (.int v3), some (.int t2.1), some (.int (t2.2 13 ((v3 * 4) + t2.1).toNatClampNeg)), some (.int (2 * (t2.2 13 ((v3 * 4) + t2.1).toNatClampNeg))), some (.int (zmin (t2.2 28 ((v3 * 8) + v2).toNatClampNeg) (t2.2 35 (2 * (t2.2 13 ((v3 * 4) + t2.1).toNatClampNeg)).toNatClampNeg))), none] [.int (t2.2 35 (2 * (t2.2 13 ((v3 * 4) + t2.1).toNatClampNeg)).toNatClampNeg), .int (2 * (t2.2 13 ((v3 * 4) + t2.1).toNatClampNeg)), .ref 35] (SH, t2.2, J) else none) rfl (zR_bif hc9 (zR_go ?_))
          refine zr_steps 2 (116, [some (.ref 24), some (.int v1), some (.int v2), some (.int v3), some (.int t2.1), some (.int (t2.2 13 ((v3 * 4) + t2.1).toNatClampNeg)), some (.int (2 * (t2.2 13 ((v3 * 4) + t2.1).toNatClampNeg))), some (.int (zmin (t2.2 28 ((v3 * 8) + v2).toNatClampNeg) (t2.2 35 (2 * (t2.2 13 ((v3 * 4) + t2.1).toNatClampNeg)).toNatClampNeg))), none], [.int ((t2.2 35 (2 * (t2.2 13 ((v3 * 4) + t2.1).toNatClampNeg)).toNatClampNeg) - (zmin (t2.2 28 ((v3 * 8) + v2).toNatClampNeg) (t2.2 35 (2 * (t2.2 13 ((v3 * 4) + t2.1).toNatClampNeg)).toNatClampNeg))), .int (2 * (t2.2 13 ((v3 * 4) + t2.1).toNatClampNeg)), .ref 35], (SH, t2.2, J)) rfl ?_
          obtain ⟨hc10, h⟩ := zbifo h
          refine zr_one (bif zin (2 * (t2.2 13 ((v3 * 4) + t2.1).toNatClampNeg)) 24 then zN 117 [some (.ref 24), some (.int v1), some (.int v2), some (.int v3), some (.int t2.1), some (.int (t2.2 13 ((v3 * 4) + t2.1).toNatClampNeg)), some (.int (2 * (t2.2 13 ((v3 * 4) + t2.1).toNatClampNeg))), some (.int (zmin (t2.2 28 ((v3 * 8) + v2).toNatClampNeg) (t2.2 35 (2 * (t2.2 13 ((v3 * 4) + t2.1).toNatClampNeg)).toNatClampNeg))), none] [] (SH, (zu t2.2 35 (2 * (t2.2 13 ((v3 * 4) + t2.1).toNatClampNeg)).toNatClampNeg ((t2.2 35 (2 * (t2.2 13 ((v3 * 4) + t2.1).toNatClampNeg)).toNatClampNeg) - (zmin (t2.2 28 ((v3 * 8) + v2).toNatClampNeg) (t2.2 35 (2 * (t2.2 13 ((v3 * 4) + t2.1).toNatClampNeg)).toNatClampNeg)))), J) else none) rfl (zR_bif hc10 (zR_go ?_))
          refine zr_steps 8 (128, [some (.ref 24), some (.int v1), some (.int v2), some (.int v3), some (.int t2.1), some (.int (t2.2 13 ((v3 * 4) + t2.1).toNatClampNeg)), some (.int (2 * (t2.2 13 ((v3 * 4) + t2.1).toNatClampNeg))), some (.int (zmin (t2.2 28 ((v3 * 8) + v2).toNatClampNeg) (t2.2 35 (2 * (t2.2 13 ((v3 * 4) + t2.1).toNatClampNeg)).toNatClampNeg))), none], [.int ((v3 * 8) + v2), .ref 28, .int ((v3 * 8) + v2), .ref 28], (SH, (zu t2.2 35 (2 * (t2.2 13 ((v3 * 4) + t2.1).toNatClampNeg)).toNatClampNeg ((t2.2 35 (2 * (t2.2 13 ((v3 * 4) + t2.1).toNatClampNeg)).toNatClampNeg) - (zmin (t2.2 28 ((v3 * 8) + v2).toNatClampNeg) (t2.2 35 (2 * (t2.2 13 ((v3 * 4) + t2.1).toNatClampNeg)).toNatClampNeg)))), J)) rfl ?_
          obtain ⟨hc11, h⟩ := zbifo h
          refine zr_one (bif zin ((v3 * 8) + v2) 32 then zN 129 [some (.ref 24), some (.int v1), some (.int v2), some (.int v3), some (.int t2.1), some (.int (t2.2 13 ((v3 * 4) + t2.1).toNatClampNeg)), some (.int (2 * (t2.2 13 ((v3 * 4) + t2.1).toNatClampNeg))), some (.int (zmin (t2.2 28 ((v3 * 8) + v2).toNatClampNeg) (t2.2 35 (2 * (t2.2 13 ((v3 * 4) + t2.1).toNatClampNeg)).toNatClampNeg))), none] [.int (t2.2 28 ((v3 * 8) + v2).toNatClampNeg), .int ((v3 * 8) + v2), .ref 28] (SH, (zu t2.2 35 (2 * (t2.2 13 ((v3 * 4) + t2.1).toNatClampNeg)).toNatClampNeg ((t2.2 35 (2 * (t2.2 13 ((v3 * 4) + t2.1).toNatClampNeg)).toNatClampNeg) - (zmin (t2.2 28 ((v3 * 8) + v2).toNatClampNeg) (t2.2 35 (2 * (t2.2 13 ((v3 * 4) + t2.1).toNatClampNeg)).toNatClampNeg)))), J) else none) rfl (zR_bif hc11 (zR_go ?_))
          refine zr_steps 2 (132, [some (.ref 24), some (.int v1), some (.int v2), some (.int v3), some (.int t2.1), some (.int (t2.2 13 ((v3 * 4) + t2.1).toNatClampNeg)), some (.int (2 * (t2.2 13 ((v3 * 4) + t2.1).toNatClampNeg))), some (.int (zmin (t2.2 28 ((v3 * 8) + v2).toNatClampNeg) (t2.2 35 (2 * (t2.2 13 ((v3 * 4) + t2.1).toNatClampNeg)).toNatClampNeg))), none], [.int ((t2.2 28 ((v3 * 8) + v2).toNatClampNeg) - (zmin (t2.2 28 ((v3 * 8) + v2).toNatClampNeg) (t2.2 35 (2 * (t2.2 13 ((v3 * 4) + t2.1).toNatClampNeg)).toNatClampNeg))), .int ((v3 * 8) + v2), .ref 28], (SH, (zu t2.2 35 (2 * (t2.2 13 ((v3 * 4) + t2.1).toNatClampNeg)).toNatClampNeg ((t2.2 35 (2 * (t2.2 13 ((v3 * 4) + t2.1).toNatClampNeg)).toNatClampNeg) - (zmin (t2.2 28 ((v3 * 8) + v2).toNatClampNeg) (t2.2 35 (2 * (t2.2 13 ((v3 * 4) + t2.1).toNatClampNeg)).toNatClampNeg)))), J)) rfl ?_
          obtain ⟨hc12, h⟩ := zbifo h
          refine zr_one (bif zin ((v3 * 8) + v2) 32 then zN 133 [some (.ref 24), some (.int v1), some (.int v2), some (.int v3), some (.int t2.1), some (.int (t2.2 13 ((v3 * 4) + t2.1).toNatClampNeg)), some (.int (2 * (t2.2 13 ((v3 * 4) + t2.1).toNatClampNeg))), some (.int (zmin (t2.2 28 ((v3 * 8) + v2).toNatClampNeg) (t2.2 35 (2 * (t2.2 13 ((v3 * 4) + t2.1).toNatClampNeg)).toNatClampNeg))), none] [] (SH, (zu (zu t2.2 35 (2 * (t2.2 13 ((v3 * 4) + t2.1).toNatClampNeg)).toNatClampNeg ((t2.2 35 (2 * (t2.2 13 ((v3 * 4) + t2.1).toNatClampNeg)).toNatClampNeg) - (zmin (t2.2 28 ((v3 * 8) + v2).toNatClampNeg) (t2.2 35 (2 * (t2.2 13 ((v3 * 4) + t2.1).toNatClampNeg)).toNatClampNeg)))) 28 ((v3 * 8) + v2).toNatClampNeg ((t2.2 28 ((v3 * 8) + v2).toNatClampNeg) - (zmin (t2.2 28 ((v3 * 8) + v2).toNatClampNeg) (t2.2 35 (2 * (t2.2 13 ((v3 * 4) + t2.1).toNatClampNeg)).toNatClampNeg)))), J) else none) rfl (zR_bif hc12 (zR_go ?_))
          refine zr_steps 4 (139, [some (.ref 24), some (.int v1), some (.int v2), some (.int v3), some (.int t2.1), some (.int (t2.2 13 ((v3 * 4) + t2.1).toNatClampNeg)), some (.int (2 * (t2.2 13 ((v3 * 4) + t2.1).toNatClampNeg))), some (.int (zmin (t2.2 28 ((v3 * 8) + v2).toNatClampNeg) (t2.2 35 (2 * (t2.2 13 ((v3 * 4) + t2.1).toNatClampNeg)).toNatClampNeg))), none], [.int v3, .ref 31, .int v3, .ref 31], (SH, (zu (zu t2.2 35 (2 * (t2.2 13 ((v3 * 4) + t2.1).toNatClampNeg)).toNatClampNeg ((t2.2 35 (2 * (t2.2 13 ((v3 * 4) + t2.1).toNatClampNeg)).toNatClampNeg) - (zmin (t2.2 28 ((v3 * 8) + v2).toNatClampNeg) (t2.2 35 (2 * (t2.2 13 ((v3 * 4) + t2.1).toNatClampNeg)).toNatClampNeg)))) 28 ((v3 * 8) + v2).toNatClampNeg ((t2.2 28 ((v3 * 8) + v2).toNatClampNeg) - (zmin (t2.2 28 ((v3 * 8) + v2).toNatClampNeg) (t2.2 35 (2 * (t2.2 13 ((v3 * 4) + t2.1).toNatClampNeg)).toNatClampNeg)))), J)) rfl ?_
          obtain ⟨hc13, h⟩ := zbifo h
          refine zr_one (bif zin v3 4 then zN 140 [some (.ref 24), some (.int v1), some (.int v2), some (.int v3), some (.int t2.1), some (.int (t2.2 13 ((v3 * 4) + t2.1).toNatClampNeg)), some (.int (2 * (t2.2 13 ((v3 * 4) + t2.1).toNatClampNeg))), some (.int (zmin (t2.2 28 ((v3 * 8) + v2).toNatClampNeg) (t2.2 35 (2 * (t2.2 13 ((v3 * 4) + t2.1).toNatClampNeg)).toNatClampNeg))), none] [.int (t2.2 31 v3.toNatClampNeg), .int v3, .ref 31] (SH, (zu (zu t2.2 35 (2 * (t2.2 13 ((v3 * 4) + t2.1).toNatClampNeg)).toNatClampNeg ((t2.2 35 (2 * (t2.2 13 ((v3 * 4) + t2.1).toNatClampNeg)).toNatClampNeg) - (zmin (t2.2 28 ((v3 * 8) + v2).toNatClampNeg) (t2.2 35 (2 * (t2.2 13 ((v3 * 4) + t2.1).toNatClampNeg)).toNatClampNeg)))) 28 ((v3 * 8) + v2).toNatClampNeg ((t2.2 28 ((v3 * 8) + v2).toNatClampNeg) - (zmin (t2.2 28 ((v3 * 8) + v2).toNatClampNeg) (t2.2 35 (2 * (t2.2 13 ((v3 * 4) + t2.1).toNatClampNeg)).toNatClampNeg)))), J) else none) rfl (zR_bif hc13 (zR_go ?_))
          refine zr_steps 2 (143, [some (.ref 24), some (.int v1), some (.int v2), some (.int v3), some (.int t2.1), some (.int (t2.2 13 ((v3 * 4) + t2.1).toNatClampNeg)), some (.int (2 * (t2.2 13 ((v3 * 4) + t2.1).toNatClampNeg))), some (.int (zmin (t2.2 28 ((v3 * 8) + v2).toNatClampNeg) (t2.2 35 (2 * (t2.2 13 ((v3 * 4) + t2.1).toNatClampNeg)).toNatClampNeg))), none], [.int ((t2.2 31 v3.toNatClampNeg) - (zmin (t2.2 28 ((v3 * 8) + v2).toNatClampNeg) (t2.2 35 (2 * (t2.2 13 ((v3 * 4) + t2.1).toNatClampNeg)).toNatClampNeg))), .int v3, .ref 31], (SH, (zu (zu t2.2 35 (2 * (t2.2 13 ((v3 * 4) + t2.1).toNatClampNeg)).toNatClampNeg ((t2.2 35 (2 * (t2.2 13 ((v3 * 4) + t2.1).toNatClampNeg)).toNatClampNeg) - (zmin (t2.2 28 ((v3 * 8) + v2).toNatClampNeg) (t2.2 35 (2 * (t2.2 13 ((v3 * 4) + t2.1).toNatClampNeg)).toNatClampNeg)))) 28 ((v3 * 8) + v2).toNatClampNeg ((t2.2 28 ((v3 * 8) + v2).toNatClampNeg) - (zmin (t2.2 28 ((v3 * 8) + v2).toNatClampNeg) (t2.2 35 (2 * (t2.2 13 ((v3 * 4) + t2.1).toNatClampNeg)).toNatClampNeg)))), J)) rfl ?_
          obtain ⟨hc14, h⟩ := zbifo h
          refine zr_one (bif zin v3 4 then zN 144 [some (.ref 24), some (.int v1), some (.int v2), some (.int v3), some (.int t2.1), some (.int (t2.2 13 ((v3 * 4) + t2.1).toNatClampNeg)), some (.int (2 * (t2.2 13 ((v3 * 4) + t2.1).toNatClampNeg))), some (.int (zmin (t2.2 28 ((v3 * 8) + v2).toNatClampNeg) (t2.2 35 (2 * (t2.2 13 ((v3 * 4) + t2.1).toNatClampNeg)).toNatClampNeg))), none] [] (SH, (zu (zu (zu t2.2 35 (2 * (t2.2 13 ((v3 * 4) + t2.1).toNatClampNeg)).toNatClampNeg ((t2.2 35 (2 * (t2.2 13 ((v3 * 4) + t2.1).toNatClampNeg)).toNatClampNeg) - (zmin (t2.2 28 ((v3 * 8) + v2).toNatClampNeg) (t2.2 35 (2 * (t2.2 13 ((v3 * 4) + t2.1).toNatClampNeg)).toNatClampNeg)))) 28 ((v3 * 8) + v2).toNatClampNeg ((t2.2 28 ((v3 * 8) + v2).toNatClampNeg) - (zmin (t2.2 28 ((v3 * 8) + v2).toNatClampNeg) (t2.2 35 (2 * (t2.2 13 ((v3 * 4) + t2.1).toNatClampNeg)).toNatClampNeg)))) 31 v3.toNatClampNeg ((t2.2 31 v3.toNatClampNeg) - (zmin (t2.2 28 ((v3 * 8) + v2).toNatClampNeg) (t2.2 35 (2 * (t2.2 13 ((v3 * 4) + t2.1).toNatClampNeg)).toNatClampNeg)))), J) else none) rfl (zR_bif hc14 (zR_go ?_))
          refine zr_steps 5 (154, [some (.ref 24), some (.int v1), some (.int v2), some (.int v3), some (.int t2.1), some (.int (t2.2 13 ((v3 * 4) + t2.1).toNatClampNeg)), some (.int (2 * (t2.2 13 ((v3 * 4) + t2.1).toNatClampNeg))), some (.int (zmin (t2.2 28 ((v3 * 8) + v2).toNatClampNeg) (t2.2 35 (2 * (t2.2 13 ((v3 * 4) + t2.1).toNatClampNeg)).toNatClampNeg))), none], [.int (t2.2 13 ((v3 * 4) + t2.1).toNatClampNeg), .ref 6, .int v1], (SH, (zu (zu (zu t2.2 35 (2 * (t2.2 13 ((v3 * 4) + t2.1).toNatClampNeg)).toNatClampNeg ((t2.2 35 (2 * (t2.2 13 ((v3 * 4) + t2.1).toNatClampNeg)).toNatClampNeg) - (zmin (t2.2 28 ((v3 * 8) + v2).toNatClampNeg) (t2.2 35 (2 * (t2.2 13 ((v3 * 4) + t2.1).toNatClampNeg)).toNatClampNeg)))) 28 ((v3 * 8) + v2).toNatClampNeg ((t2.2 28 ((v3 * 8) + v2).toNatClampNeg) - (zmin (t2.2 28 ((v3 * 8) + v2).toNatClampNeg) (t2.2 35 (2 * (t2.2 13 ((v3 * 4) + t2.1).toNatClampNeg)).toNatClampNeg)))) 31 v3.toNatClampNeg ((t2.2 31 v3.toNatClampNeg) - (zmin (t2.2 28 ((v3 * 8) + v2).toNatClampNeg) (t2.2 35 (2 * (t2.2 13 ((v3 * 4) + t2.1).toNatClampNeg)).toNatClampNeg)))), J)) rfl ?_
          obtain ⟨hc15, h⟩ := zbifo h
          refine zr_one (bif zin (t2.2 13 ((v3 * 4) + t2.1).toNatClampNeg) 12 then zN 155 [some (.ref 24), some (.int v1), some (.int v2), some (.int v3), some (.int t2.1), some (.int (t2.2 13 ((v3 * 4) + t2.1).toNatClampNeg)), some (.int (2 * (t2.2 13 ((v3 * 4) + t2.1).toNatClampNeg))), some (.int (zmin (t2.2 28 ((v3 * 8) + v2).toNatClampNeg) (t2.2 35 (2 * (t2.2 13 ((v3 * 4) + t2.1).toNatClampNeg)).toNatClampNeg))), none] [.int (t2.2 6 (t2.2 13 ((v3 * 4) + t2.1).toNatClampNeg).toNatClampNeg), .int v1] (SH, (zu (zu (zu t2.2 35 (2 * (t2.2 13 ((v3 * 4) + t2.1).toNatClampNeg)).toNatClampNeg ((t2.2 35 (2 * (t2.2 13 ((v3 * 4) + t2.1).toNatClampNeg)).toNatClampNeg) - (zmin (t2.2 28 ((v3 * 8) + v2).toNatClampNeg) (t2.2 35 (2 * (t2.2 13 ((v3 * 4) + t2.1).toNatClampNeg)).toNatClampNeg)))) 28 ((v3 * 8) + v2).toNatClampNeg ((t2.2 28 ((v3 * 8) + v2).toNatClampNeg) - (zmin (t2.2 28 ((v3 * 8) + v2).toNatClampNeg) (t2.2 35 (2 * (t2.2 13 ((v3 * 4) + t2.1).toNatClampNeg)).toNatClampNeg)))) 31 v3.toNatClampNeg ((t2.2 31 v3.toNatClampNeg) - (zmin (t2.2 28 ((v3 * 8) + v2).toNatClampNeg) (t2.2 35 (2 * (t2.2 13 ((v3 * 4) + t2.1).toNatClampNeg)).toNatClampNeg)))), J) else none) rfl (zR_bif hc15 (zR_go ?_))
          refine zr_steps 4 (163, [some (.ref 24), some (.int v1), some (.int v2), some (.int v3), some (.int t2.1), some (.int (t2.2 13 ((v3 * 4) + t2.1).toNatClampNeg)), some (.int (2 * (t2.2 13 ((v3 * 4) + t2.1).toNatClampNeg))), some (.int (zmin (t2.2 28 ((v3 * 8) + v2).toNatClampNeg) (t2.2 35 (2 * (t2.2 13 ((v3 * 4) + t2.1).toNatClampNeg)).toNatClampNeg))), none], [.int v2, .ref 11, .int (t2.2 6 (t2.2 13 ((v3 * 4) + t2.1).toNatClampNeg).toNatClampNeg), .int v1], (SH, (zu (zu (zu t2.2 35 (2 * (t2.2 13 ((v3 * 4) + t2.1).toNatClampNeg)).toNatClampNeg ((t2.2 35 (2 * (t2.2 13 ((v3 * 4) + t2.1).toNatClampNeg)).toNatClampNeg) - (zmin (t2.2 28 ((v3 * 8) + v2).toNatClampNeg) (t2.2 35 (2 * (t2.2 13 ((v3 * 4) + t2.1).toNatClampNeg)).toNatClampNeg)))) 28 ((v3 * 8) + v2).toNatClampNeg ((t2.2 28 ((v3 * 8) + v2).toNatClampNeg) - (zmin (t2.2 28 ((v3 * 8) + v2).toNatClampNeg) (t2.2 35 (2 * (t2.2 13 ((v3 * 4) + t2.1).toNatClampNeg)).toNatClampNeg)))) 31 v3.toNatClampNeg ((t2.2 31 v3.toNatClampNeg) - (zmin (t2.2 28 ((v3 * 8) + v2).toNatClampNeg) (t2.2 35 (2 * (t2.2 13 ((v3 * 4) + t2.1).toNatClampNeg)).toNatClampNeg)))), J)) rfl ?_
          obtain ⟨hc16, h⟩ := zbifo h
          refine zr_one (bif zin v2 8 then zN 164 [some (.ref 24), some (.int v1), some (.int v2), some (.int v3), some (.int t2.1), some (.int (t2.2 13 ((v3 * 4) + t2.1).toNatClampNeg)), some (.int (2 * (t2.2 13 ((v3 * 4) + t2.1).toNatClampNeg))), some (.int (zmin (t2.2 28 ((v3 * 8) + v2).toNatClampNeg) (t2.2 35 (2 * (t2.2 13 ((v3 * 4) + t2.1).toNatClampNeg)).toNatClampNeg))), none] [.int (t2.2 11 v2.toNatClampNeg), .int (t2.2 6 (t2.2 13 ((v3 * 4) + t2.1).toNatClampNeg).toNatClampNeg), .int v1] (SH, (zu (zu (zu t2.2 35 (2 * (t2.2 13 ((v3 * 4) + t2.1).toNatClampNeg)).toNatClampNeg ((t2.2 35 (2 * (t2.2 13 ((v3 * 4) + t2.1).toNatClampNeg)).toNatClampNeg) - (zmin (t2.2 28 ((v3 * 8) + v2).toNatClampNeg) (t2.2 35 (2 * (t2.2 13 ((v3 * 4) + t2.1).toNatClampNeg)).toNatClampNeg)))) 28 ((v3 * 8) + v2).toNatClampNeg ((t2.2 28 ((v3 * 8) + v2).toNatClampNeg) - (zmin (t2.2 28 ((v3 * 8) + v2).toNatClampNeg) (t2.2 35 (2 * (t2.2 13 ((v3 * 4) + t2.1).toNatClampNeg)).toNatClampNeg)))) 31 v3.toNatClampNeg ((t2.2 31 v3.toNatClampNeg) - (zmin (t2.2 28 ((v3 * 8) + v2).toNatClampNeg) (t2.2 35 (2 * (t2.2 13 ((v3 * 4) + t2.1).toNatClampNeg)).toNatClampNeg)))), J) else none) rfl (zR_bif hc16 (zR_go ?_))
          refine zr_steps 7 (177, [some (.ref 24), some (.int v1), some (.int v2), some (.int v3), some (.int t2.1), some (.int (t2.2 13 ((v3 * 4) + t2.1).toNatClampNeg)), some (.int (2 * (t2.2 13 ((v3 * 4) + t2.1).toNatClampNeg))), some (.int (zmin (t2.2 28 ((v3 * 8) + v2).toNatClampNeg) (t2.2 35 (2 * (t2.2 13 ((v3 * 4) + t2.1).toNatClampNeg)).toNatClampNeg))), some (.int (v1 + ((t2.2 6 (t2.2 13 ((v3 * 4) + t2.1).toNatClampNeg).toNatClampNeg) * (t2.2 11 v2.toNatClampNeg))))], [.int (t2.2 25 0), .int (v1 + ((t2.2 6 (t2.2 13 ((v3 * 4) + t2.1).toNatClampNeg).toNatClampNeg) * (t2.2 11 v2.toNatClampNeg)))], (SH, (zu (zu (zu t2.2 35 (2 * (t2.2 13 ((v3 * 4) + t2.1).toNatClampNeg)).toNatClampNeg ((t2.2 35 (2 * (t2.2 13 ((v3 * 4) + t2.1).toNatClampNeg)).toNatClampNeg) - (zmin (t2.2 28 ((v3 * 8) + v2).toNatClampNeg) (t2.2 35 (2 * (t2.2 13 ((v3 * 4) + t2.1).toNatClampNeg)).toNatClampNeg)))) 28 ((v3 * 8) + v2).toNatClampNeg ((t2.2 28 ((v3 * 8) + v2).toNatClampNeg) - (zmin (t2.2 28 ((v3 * 8) + v2).toNatClampNeg) (t2.2 35 (2 * (t2.2 13 ((v3 * 4) + t2.1).toNatClampNeg)).toNatClampNeg)))) 31 v3.toNatClampNeg ((t2.2 31 v3.toNatClampNeg) - (zmin (t2.2 28 ((v3 * 8) + v2).toNatClampNeg) (t2.2 35 (2 * (t2.2 13 ((v3 * 4) + t2.1).toNatClampNeg)).toNatClampNeg)))), J)) rfl ?_
          refine zr_one (if (t2.2 25 0) < (v1 + ((t2.2 6 (t2.2 13 ((v3 * 4) + t2.1).toNatClampNeg).toNatClampNeg) * (t2.2 11 v2.toNatClampNeg))) then zN 203 [some (.ref 24), some (.int v1), some (.int v2), some (.int v3), some (.int t2.1), some (.int (t2.2 13 ((v3 * 4) + t2.1).toNatClampNeg)), some (.int (2 * (t2.2 13 ((v3 * 4) + t2.1).toNatClampNeg))), some (.int (zmin (t2.2 28 ((v3 * 8) + v2).toNatClampNeg) (t2.2 35 (2 * (t2.2 13 ((v3 * 4) + t2.1).toNatClampNeg)).toNatClampNeg))), some (.int (v1 + ((t2.2 6 (t2.2 13 ((v3 * 4) + t2.1).toNatClampNeg).toNatClampNeg) * (t2.2 11 v2.toNatClampNeg))))] [] (SH, (zu (zu (zu t2.2 35 (2 * (t2.2 13 ((v3 * 4) + t2.1).toNatClampNeg)).toNatClampNeg ((t2.2 35 (2 * (t2.2 13 ((v3 * 4) + t2.1).toNatClampNeg)).toNatClampNeg) - (zmin (t2.2 28 ((v3 * 8) + v2).toNatClampNeg) (t2.2 35 (2 * (t2.2 13 ((v3 * 4) + t2.1).toNatClampNeg)).toNatClampNeg)))) 28 ((v3 * 8) + v2).toNatClampNeg ((t2.2 28 ((v3 * 8) + v2).toNatClampNeg) - (zmin (t2.2 28 ((v3 * 8) + v2).toNatClampNeg) (t2.2 35 (2 * (t2.2 13 ((v3 * 4) + t2.1).toNatClampNeg)).toNatClampNeg)))) 31 v3.toNatClampNeg ((t2.2 31 v3.toNatClampNeg) - (zmin (t2.2 28 ((v3 * 8) + v2).toNatClampNeg) (t2.2 35 (2 * (t2.2 13 ((v3 * 4) + t2.1).toNatClampNeg)).toNatClampNeg)))), J) else zN 180 [some (.ref 24), some (.int v1), some (.int v2), some (.int v3), some (.int t2.1), some (.int (t2.2 13 ((v3 * 4) + t2.1).toNatClampNeg)), some (.int (2 * (t2.2 13 ((v3 * 4) + t2.1).toNatClampNeg))), some (.int (zmin (t2.2 28 ((v3 * 8) + v2).toNatClampNeg) (t2.2 35 (2 * (t2.2 13 ((v3 * 4) + t2.1).toNatClampNeg)).toNatClampNeg))), some (.int (v1 + ((t2.2 6 (t2.2 13 ((v3 * 4) + t2.1).toNatClampNeg).toNatClampNeg) * (t2.2 11 v2.toNatClampNeg))))] [] (SH, (zu (zu (zu t2.2 35 (2 * (t2.2 13 ((v3 * 4) + t2.1).toNatClampNeg)).toNatClampNeg ((t2.2 35 (2 * (t2.2 13 ((v3 * 4) + t2.1).toNatClampNeg)).toNatClampNeg) - (zmin (t2.2 28 ((v3 * 8) + v2).toNatClampNeg) (t2.2 35 (2 * (t2.2 13 ((v3 * 4) + t2.1).toNatClampNeg)).toNatClampNeg)))) 28 ((v3 * 8) + v2).toNatClampNeg ((t2.2 28 ((v3 * 8) + v2).toNatClampNeg) - (zmin (t2.2 28 ((v3 * 8) + v2).toNatClampNeg) (t2.2 35 (2 * (t2.2 13 ((v3 * 4) + t2.1).toNatClampNeg)).toNatClampNeg)))) 31 v3.toNatClampNeg ((t2.2 31 v3.toNatClampNeg) - (zmin (t2.2 28 ((v3 * 8) + v2).toNatClampNeg) (t2.2 35 (2 * (t2.2 13 ((v3 * 4) + t2.1).toNatClampNeg)).toNatClampNeg)))), J)) rfl (zR_if (fun hc19 => zR_go ?_) (fun hc19 => zR_go ?_))
          · rw [if_pos hc19] at h
            have he := Option.some.inj h
            subst he
            exact zr_one (some (.inr (.inr none))) rfl (zR_ret rfl rfl)
          · rw [if_neg hc19] at h
            refine zr_steps 12 (198, [some (.ref 24), some (.int v1), some (.int v2), some (.int v3), some (.int t2.1), some (.int (t2.2 13 ((v3 * 4) + t2.1).toNatClampNeg)), some (.int (2 * (t2.2 13 ((v3 * 4) + t2.1).toNatClampNeg))), some (.int (zmin (t2.2 28 ((v3 * 8) + v2).toNatClampNeg) (t2.2 35 (2 * (t2.2 13 ((v3 * 4) + t2.1).toNatClampNeg)).toNatClampNeg))), some (.int (v1 + ((t2.2 6 (t2.2 13 ((v3 * 4) + t2.1).toNatClampNeg).toNatClampNeg) * (t2.2 11 v2.toNatClampNeg))))], [.int ((((v1 + ((t2.2 6 (t2.2 13 ((v3 * 4) + t2.1).toNatClampNeg).toNatClampNeg) * (t2.2 11 v2.toNatClampNeg))) * 32) + (t2.1 * 8)) + v2), .ref 32, .int ((((v1 + ((t2.2 6 (t2.2 13 ((v3 * 4) + t2.1).toNatClampNeg).toNatClampNeg) * (t2.2 11 v2.toNatClampNeg))) * 32) + (t2.1 * 8)) + v2), .ref 32], (SH, (zu (zu (zu t2.2 35 (2 * (t2.2 13 ((v3 * 4) + t2.1).toNatClampNeg)).toNatClampNeg ((t2.2 35 (2 * (t2.2 13 ((v3 * 4) + t2.1).toNatClampNeg)).toNatClampNeg) - (zmin (t2.2 28 ((v3 * 8) + v2).toNatClampNeg) (t2.2 35 (2 * (t2.2 13 ((v3 * 4) + t2.1).toNatClampNeg)).toNatClampNeg)))) 28 ((v3 * 8) + v2).toNatClampNeg ((t2.2 28 ((v3 * 8) + v2).toNatClampNeg) - (zmin (t2.2 28 ((v3 * 8) + v2).toNatClampNeg) (t2.2 35 (2 * (t2.2 13 ((v3 * 4) + t2.1).toNatClampNeg)).toNatClampNeg)))) 31 v3.toNatClampNeg ((t2.2 31 v3.toNatClampNeg) - (zmin (t2.2 28 ((v3 * 8) + v2).toNatClampNeg) (t2.2 35 (2 * (t2.2 13 ((v3 * 4) + t2.1).toNatClampNeg)).toNatClampNeg)))), J)) rfl ?_
            obtain ⟨hc17, h⟩ := zbifo h
            refine zr_one (bif zin ((((v1 + ((t2.2 6 (t2.2 13 ((v3 * 4) + t2.1).toNatClampNeg).toNatClampNeg) * (t2.2 11 v2.toNatClampNeg))) * 32) + (t2.1 * 8)) + v2) 1952 then zN 199 [some (.ref 24), some (.int v1), some (.int v2), some (.int v3), some (.int t2.1), some (.int (t2.2 13 ((v3 * 4) + t2.1).toNatClampNeg)), some (.int (2 * (t2.2 13 ((v3 * 4) + t2.1).toNatClampNeg))), some (.int (zmin (t2.2 28 ((v3 * 8) + v2).toNatClampNeg) (t2.2 35 (2 * (t2.2 13 ((v3 * 4) + t2.1).toNatClampNeg)).toNatClampNeg))), some (.int (v1 + ((t2.2 6 (t2.2 13 ((v3 * 4) + t2.1).toNatClampNeg).toNatClampNeg) * (t2.2 11 v2.toNatClampNeg))))] [.int (t2.2 32 ((((v1 + ((t2.2 6 (t2.2 13 ((v3 * 4) + t2.1).toNatClampNeg).toNatClampNeg) * (t2.2 11 v2.toNatClampNeg))) * 32) + (t2.1 * 8)) + v2).toNatClampNeg), .int ((((v1 + ((t2.2 6 (t2.2 13 ((v3 * 4) + t2.1).toNatClampNeg).toNatClampNeg) * (t2.2 11 v2.toNatClampNeg))) * 32) + (t2.1 * 8)) + v2), .ref 32] (SH, (zu (zu (zu t2.2 35 (2 * (t2.2 13 ((v3 * 4) + t2.1).toNatClampNeg)).toNatClampNeg ((t2.2 35 (2 * (t2.2 13 ((v3 * 4) + t2.1).toNatClampNeg)).toNatClampNeg) - (zmin (t2.2 28 ((v3 * 8) + v2).toNatClampNeg) (t2.2 35 (2 * (t2.2 13 ((v3 * 4) + t2.1).toNatClampNeg)).toNatClampNeg)))) 28 ((v3 * 8) + v2).toNatClampNeg ((t2.2 28 ((v3 * 8) + v2).toNatClampNeg) - (zmin (t2.2 28 ((v3 * 8) + v2).toNatClampNeg) (t2.2 35 (2 * (t2.2 13 ((v3 * 4) + t2.1).toNatClampNeg)).toNatClampNeg)))) 31 v3.toNatClampNeg ((t2.2 31 v3.toNatClampNeg) - (zmin (t2.2 28 ((v3 * 8) + v2).toNatClampNeg) (t2.2 35 (2 * (t2.2 13 ((v3 * 4) + t2.1).toNatClampNeg)).toNatClampNeg)))), J) else none) rfl (zR_bif hc17 (zR_go ?_))
            refine zr_steps 2 (202, [some (.ref 24), some (.int v1), some (.int v2), some (.int v3), some (.int t2.1), some (.int (t2.2 13 ((v3 * 4) + t2.1).toNatClampNeg)), some (.int (2 * (t2.2 13 ((v3 * 4) + t2.1).toNatClampNeg))), some (.int (zmin (t2.2 28 ((v3 * 8) + v2).toNatClampNeg) (t2.2 35 (2 * (t2.2 13 ((v3 * 4) + t2.1).toNatClampNeg)).toNatClampNeg))), some (.int (v1 + ((t2.2 6 (t2.2 13 ((v3 * 4) + t2.1).toNatClampNeg).toNatClampNeg) * (t2.2 11 v2.toNatClampNeg))))], [.int ((t2.2 32 ((((v1 + ((t2.2 6 (t2.2 13 ((v3 * 4) + t2.1).toNatClampNeg).toNatClampNeg) * (t2.2 11 v2.toNatClampNeg))) * 32) + (t2.1 * 8)) + v2).toNatClampNeg) + (zmin (t2.2 28 ((v3 * 8) + v2).toNatClampNeg) (t2.2 35 (2 * (t2.2 13 ((v3 * 4) + t2.1).toNatClampNeg)).toNatClampNeg))), .int ((((v1 + ((t2.2 6 (t2.2 13 ((v3 * 4) + t2.1).toNatClampNeg).toNatClampNeg) * (t2.2 11 v2.toNatClampNeg))) * 32) + (t2.1 * 8)) + v2), .ref 32], (SH, (zu (zu (zu t2.2 35 (2 * (t2.2 13 ((v3 * 4) + t2.1).toNatClampNeg)).toNatClampNeg ((t2.2 35 (2 * (t2.2 13 ((v3 * 4) + t2.1).toNatClampNeg)).toNatClampNeg) - (zmin (t2.2 28 ((v3 * 8) + v2).toNatClampNeg) (t2.2 35 (2 * (t2.2 13 ((v3 * 4) + t2.1).toNatClampNeg)).toNatClampNeg)))) 28 ((v3 * 8) + v2).toNatClampNeg ((t2.2 28 ((v3 * 8) + v2).toNatClampNeg) - (zmin (t2.2 28 ((v3 * 8) + v2).toNatClampNeg) (t2.2 35 (2 * (t2.2 13 ((v3 * 4) + t2.1).toNatClampNeg)).toNatClampNeg)))) 31 v3.toNatClampNeg ((t2.2 31 v3.toNatClampNeg) - (zmin (t2.2 28 ((v3 * 8) + v2).toNatClampNeg) (t2.2 35 (2 * (t2.2 13 ((v3 * 4) + t2.1).toNatClampNeg)).toNatClampNeg)))), J)) rfl ?_
            obtain ⟨hc18, h⟩ := zbifo h
            refine zr_one (bif zin ((((v1 + ((t2.2 6 (t2.2 13 ((v3 * 4) + t2.1).toNatClampNeg).toNatClampNeg) * (t2.2 11 v2.toNatClampNeg))) * 32) + (t2.1 * 8)) + v2) 1952 then zN 203 [some (.ref 24), some (.int v1), some (.int v2), some (.int v3), some (.int t2.1), some (.int (t2.2 13 ((v3 * 4) + t2.1).toNatClampNeg)), some (.int (2 * (t2.2 13 ((v3 * 4) + t2.1).toNatClampNeg))), some (.int (zmin (t2.2 28 ((v3 * 8) + v2).toNatClampNeg) (t2.2 35 (2 * (t2.2 13 ((v3 * 4) + t2.1).toNatClampNeg)).toNatClampNeg))), some (.int (v1 + ((t2.2 6 (t2.2 13 ((v3 * 4) + t2.1).toNatClampNeg).toNatClampNeg) * (t2.2 11 v2.toNatClampNeg))))] [] (SH, (zu (zu (zu (zu t2.2 35 (2 * (t2.2 13 ((v3 * 4) + t2.1).toNatClampNeg)).toNatClampNeg ((t2.2 35 (2 * (t2.2 13 ((v3 * 4) + t2.1).toNatClampNeg)).toNatClampNeg) - (zmin (t2.2 28 ((v3 * 8) + v2).toNatClampNeg) (t2.2 35 (2 * (t2.2 13 ((v3 * 4) + t2.1).toNatClampNeg)).toNatClampNeg)))) 28 ((v3 * 8) + v2).toNatClampNeg ((t2.2 28 ((v3 * 8) + v2).toNatClampNeg) - (zmin (t2.2 28 ((v3 * 8) + v2).toNatClampNeg) (t2.2 35 (2 * (t2.2 13 ((v3 * 4) + t2.1).toNatClampNeg)).toNatClampNeg)))) 31 v3.toNatClampNeg ((t2.2 31 v3.toNatClampNeg) - (zmin (t2.2 28 ((v3 * 8) + v2).toNatClampNeg) (t2.2 35 (2 * (t2.2 13 ((v3 * 4) + t2.1).toNatClampNeg)).toNatClampNeg)))) 32 ((((v1 + ((t2.2 6 (t2.2 13 ((v3 * 4) + t2.1).toNatClampNeg).toNatClampNeg) * (t2.2 11 v2.toNatClampNeg))) * 32) + (t2.1 * 8)) + v2).toNatClampNeg ((t2.2 32 ((((v1 + ((t2.2 6 (t2.2 13 ((v3 * 4) + t2.1).toNatClampNeg).toNatClampNeg) * (t2.2 11 v2.toNatClampNeg))) * 32) + (t2.1 * 8)) + v2).toNatClampNeg) + (zmin (t2.2 28 ((v3 * 8) + v2).toNatClampNeg) (t2.2 35 (2 * (t2.2 13 ((v3 * 4) + t2.1).toNatClampNeg)).toNatClampNeg)))), J) else none) rfl (zR_bif hc18 (zR_go ?_))
            have he := Option.some.inj h
            subst he
            exact zr_one (some (.inr (.inr none))) rfl (zR_ret rfl rfl)
        · rw [if_neg hc33] at h
          refine zr_steps 13 (92, [some (.ref 24), some (.int v1), some (.int v2), some (.int v3), some (.int t2.1), some (.int (t2.2 13 ((v3 * 4) + t2.1).toNatClampNeg)), some (.int ((2 * (t2.2 13 ((v3 * 4) + t2.1).toNatClampNeg)) + 1)), none, none], [.int ((v3 * 8) + v2), .ref 28], (SH, t2.2, J)) rfl ?_
          obtain ⟨hc20, h⟩ := zbifo h
          refine zr_one (bif zin ((v3 * 8) + v2) 32 then zN 93 [some (.ref 24), some (.int v1), some (.int v2), some (.int v3), some (.int t2.1), some (.int (t2.2 13 ((v3 * 4) + t2.1).toNatClampNeg)), some (.int ((2 * (t2.2 13 ((v3 * 4) + t2.1).toNatClampNeg)) + 1)), none, none] [.int (t2.2 28 ((v3 * 8) + v2).toNatClampNeg)] (SH, t2.2, J) else none) rfl (zR_bif hc20 (zR_go ?_))
          refine zr_steps 3 (99, [some (.ref 24), some (.int v1), some (.int v2), some (.int v3), some (.int t2.1), some (.int (t2.2 13 ((v3 * 4) + t2.1).toNatClampNeg)), some (.int ((2 * (t2.2 13 ((v3 * 4) + t2.1).toNatClampNeg)) + 1)), none, none], [.int ((2 * (t2.2 13 ((v3 * 4) + t2.1).toNatClampNeg)) + 1), .ref 35, .int (t2.2 28 ((v3 * 8) + v2).toNatClampNeg)], (SH, t2.2, J)) rfl ?_
          obtain ⟨hc21, h⟩ := zbifo h
          refine zr_one (bif zin ((2 * (t2.2 13 ((v3 * 4) + t2.1).toNatClampNeg)) + 1) 24 then zN 100 [some (.ref 24), some (.int v1), some (.int v2), some (.int v3), some (.int t2.1), some (.int (t2.2 13 ((v3 * 4) + t2.1).toNatClampNeg)), some (.int ((2 * (t2.2 13 ((v3 * 4) + t2.1).toNatClampNeg)) + 1)), none, none] [.int (t2.2 35 ((2 * (t2.2 13 ((v3 * 4) + t2.1).toNatClampNeg)) + 1).toNatClampNeg), .int (t2.2 28 ((v3 * 8) + v2).toNatClampNeg)] (SH, t2.2, J) else none) rfl (zR_bif hc21 (zR_go ?_))
          refine zr_steps 6 (112, [some (.ref 24), some (.int v1), some (.int v2), some (.int v3), some (.int t2.1), some (.int (t2.2 13 ((v3 * 4) + t2.1).toNatClampNeg)), some (.int ((2 * (t2.2 13 ((v3 * 4) + t2.1).toNatClampNeg)) + 1)), some (.int (zmin (t2.2 28 ((v3 * 8) + v2).toNatClampNeg) (t2.2 35 ((2 * (t2.2 13 ((v3 * 4) + t2.1).toNatClampNeg)) + 1).toNatClampNeg))), none], [.int ((2 * (t2.2 13 ((v3 * 4) + t2.1).toNatClampNeg)) + 1), .ref 35, .int ((2 * (t2.2 13 ((v3 * 4) + t2.1).toNatClampNeg)) + 1), .ref 35], (SH, t2.2, J)) rfl ?_
          obtain ⟨hc22, h⟩ := zbifo h
          refine zr_one (bif zin ((2 * (t2.2 13 ((v3 * 4) + t2.1).toNatClampNeg)) + 1) 24 then zN 113 [some (.ref 24), some (.int v1), some (.int v2), some (.int v3), some (.int t2.1), some (.int (t2.2 13 ((v3 * 4) + t2.1).toNatClampNeg)), some (.int ((2 * (t2.2 13 ((v3 * 4) + t2.1).toNatClampNeg)) + 1)), some (.int (zmin (t2.2 28 ((v3 * 8) + v2).toNatClampNeg) (t2.2 35 ((2 * (t2.2 13 ((v3 * 4) + t2.1).toNatClampNeg)) + 1).toNatClampNeg))), none] [.int (t2.2 35 ((2 * (t2.2 13 ((v3 * 4) + t2.1).toNatClampNeg)) + 1).toNatClampNeg), .int ((2 * (t2.2 13 ((v3 * 4) + t2.1).toNatClampNeg)) + 1), .ref 35] (SH, t2.2, J) else none) rfl (zR_bif hc22 (zR_go ?_))
          refine zr_steps 2 (116, [some (.ref 24), some (.int v1), some (.int v2), some (.int v3), some (.int t2.1), some (.int (t2.2 13 ((v3 * 4) + t2.1).toNatClampNeg)), some (.int ((2 * (t2.2 13 ((v3 * 4) + t2.1).toNatClampNeg)) + 1)), some (.int (zmin (t2.2 28 ((v3 * 8) + v2).toNatClampNeg) (t2.2 35 ((2 * (t2.2 13 ((v3 * 4) + t2.1).toNatClampNeg)) + 1).toNatClampNeg))), none], [.int ((t2.2 35 ((2 * (t2.2 13 ((v3 * 4) + t2.1).toNatClampNeg)) + 1).toNatClampNeg) - (zmin (t2.2 28 ((v3 * 8) + v2).toNatClampNeg) (t2.2 35 ((2 * (t2.2 13 ((v3 * 4) + t2.1).toNatClampNeg)) + 1).toNatClampNeg))), .int ((2 * (t2.2 13 ((v3 * 4) + t2.1).toNatClampNeg)) + 1), .ref 35], (SH, t2.2, J)) rfl ?_
          obtain ⟨hc23, h⟩ := zbifo h
          refine zr_one (bif zin ((2 * (t2.2 13 ((v3 * 4) + t2.1).toNatClampNeg)) + 1) 24 then zN 117 [some (.ref 24), some (.int v1), some (.int v2), some (.int v3), some (.int t2.1), some (.int (t2.2 13 ((v3 * 4) + t2.1).toNatClampNeg)), some (.int ((2 * (t2.2 13 ((v3 * 4) + t2.1).toNatClampNeg)) + 1)), some (.int (zmin (t2.2 28 ((v3 * 8) + v2).toNatClampNeg) (t2.2 35 ((2 * (t2.2 13 ((v3 * 4) + t2.1).toNatClampNeg)) + 1).toNatClampNeg))), none] [] (SH, (zu t2.2 35 ((2 * (t2.2 13 ((v3 * 4) + t2.1).toNatClampNeg)) + 1).toNatClampNeg ((t2.2 35 ((2 * (t2.2 13 ((v3 * 4) + t2.1).toNatClampNeg)) + 1).toNatClampNeg) - (zmin (t2.2 28 ((v3 * 8) + v2).toNatClampNeg) (t2.2 35 ((2 * (t2.2 13 ((v3 * 4) + t2.1).toNatClampNeg)) + 1).toNatClampNeg)))), J) else none) rfl (zR_bif hc23 (zR_go ?_))
          refine zr_steps 8 (128, [some (.ref 24), some (.int v1), some (.int v2), some (.int v3), some (.int t2.1), some (.int (t2.2 13 ((v3 * 4) + t2.1).toNatClampNeg)), some (.int ((2 * (t2.2 13 ((v3 * 4) + t2.1).toNatClampNeg)) + 1)), some (.int (zmin (t2.2 28 ((v3 * 8) + v2).toNatClampNeg) (t2.2 35 ((2 * (t2.2 13 ((v3 * 4) + t2.1).toNatClampNeg)) + 1).toNatClampNeg))), none], [.int ((v3 * 8) + v2), .ref 28, .int ((v3 * 8) + v2), .ref 28], (SH, (zu t2.2 35 ((2 * (t2.2 13 ((v3 * 4) + t2.1).toNatClampNeg)) + 1).toNatClampNeg ((t2.2 35 ((2 * (t2.2 13 ((v3 * 4) + t2.1).toNatClampNeg)) + 1).toNatClampNeg) - (zmin (t2.2 28 ((v3 * 8) + v2).toNatClampNeg) (t2.2 35 ((2 * (t2.2 13 ((v3 * 4) + t2.1).toNatClampNeg)) + 1).toNatClampNeg)))), J)) rfl ?_
          obtain ⟨hc24, h⟩ := zbifo h
          refine zr_one (bif zin ((v3 * 8) + v2) 32 then zN 129 [some (.ref 24), some (.int v1), some (.int v2), some (.int v3), some (.int t2.1), some (.int (t2.2 13 ((v3 * 4) + t2.1).toNatClampNeg)), some (.int ((2 * (t2.2 13 ((v3 * 4) + t2.1).toNatClampNeg)) + 1)), some (.int (zmin (t2.2 28 ((v3 * 8) + v2).toNatClampNeg) (t2.2 35 ((2 * (t2.2 13 ((v3 * 4) + t2.1).toNatClampNeg)) + 1).toNatClampNeg))), none] [.int (t2.2 28 ((v3 * 8) + v2).toNatClampNeg), .int ((v3 * 8) + v2), .ref 28] (SH, (zu t2.2 35 ((2 * (t2.2 13 ((v3 * 4) + t2.1).toNatClampNeg)) + 1).toNatClampNeg ((t2.2 35 ((2 * (t2.2 13 ((v3 * 4) + t2.1).toNatClampNeg)) + 1).toNatClampNeg) - (zmin (t2.2 28 ((v3 * 8) + v2).toNatClampNeg) (t2.2 35 ((2 * (t2.2 13 ((v3 * 4) + t2.1).toNatClampNeg)) + 1).toNatClampNeg)))), J) else none) rfl (zR_bif hc24 (zR_go ?_))
          refine zr_steps 2 (132, [some (.ref 24), some (.int v1), some (.int v2), some (.int v3), some (.int t2.1), some (.int (t2.2 13 ((v3 * 4) + t2.1).toNatClampNeg)), some (.int ((2 * (t2.2 13 ((v3 * 4) + t2.1).toNatClampNeg)) + 1)), some (.int (zmin (t2.2 28 ((v3 * 8) + v2).toNatClampNeg) (t2.2 35 ((2 * (t2.2 13 ((v3 * 4) + t2.1).toNatClampNeg)) + 1).toNatClampNeg))), none], [.int ((t2.2 28 ((v3 * 8) + v2).toNatClampNeg) - (zmin (t2.2 28 ((v3 * 8) + v2).toNatClampNeg) (t2.2 35 ((2 * (t2.2 13 ((v3 * 4) + t2.1).toNatClampNeg)) + 1).toNatClampNeg))), .int ((v3 * 8) + v2), .ref 28], (SH, (zu t2.2 35 ((2 * (t2.2 13 ((v3 * 4) + t2.1).toNatClampNeg)) + 1).toNatClampNeg ((t2.2 35 ((2 * (t2.2 13 ((v3 * 4) + t2.1).toNatClampNeg)) + 1).toNatClampNeg) - (zmin (t2.2 28 ((v3 * 8) + v2).toNatClampNeg) (t2.2 35 ((2 * (t2.2 13 ((v3 * 4) + t2.1).toNatClampNeg)) + 1).toNatClampNeg)))), J)) rfl ?_
          obtain ⟨hc25, h⟩ := zbifo h
          refine zr_one (bif zin ((v3 * 8) + v2) 32 then zN 133 [some (.ref 24), some (.int v1), some (.int v2), some (.int v3), some (.int t2.1), some (.int (t2.2 13 ((v3 * 4) + t2.1).toNatClampNeg)), some (.int ((2 * (t2.2 13 ((v3 * 4) + t2.1).toNatClampNeg)) + 1)), some (.int (zmin (t2.2 28 ((v3 * 8) + v2).toNatClampNeg) (t2.2 35 ((2 * (t2.2 13 ((v3 * 4) + t2.1).toNatClampNeg)) + 1).toNatClampNeg))), none] [] (SH, (zu (zu t2.2 35 ((2 * (t2.2 13 ((v3 * 4) + t2.1).toNatClampNeg)) + 1).toNatClampNeg ((t2.2 35 ((2 * (t2.2 13 ((v3 * 4) + t2.1).toNatClampNeg)) + 1).toNatClampNeg) - (zmin (t2.2 28 ((v3 * 8) + v2).toNatClampNeg) (t2.2 35 ((2 * (t2.2 13 ((v3 * 4) + t2.1).toNatClampNeg)) + 1).toNatClampNeg)))) 28 ((v3 * 8) + v2).toNatClampNeg ((t2.2 28 ((v3 * 8) + v2).toNatClampNeg) - (zmin (t2.2 28 ((v3 * 8) + v2).toNatClampNeg) (t2.2 35 ((2 * (t2.2 13 ((v3 * 4) + t2.1).toNatClampNeg)) + 1).toNatClampNeg)))), J) else none) rfl (zR_bif hc25 (zR_go ?_))
          refine zr_steps 4 (139, [some (.ref 24), some (.int v1), some (.int v2), some (.int v3), some (.int t2.1), some (.int (t2.2 13 ((v3 * 4) + t2.1).toNatClampNeg)), some (.int ((2 * (t2.2 13 ((v3 * 4) + t2.1).toNatClampNeg)) + 1)), some (.int (zmin (t2.2 28 ((v3 * 8) + v2).toNatClampNeg) (t2.2 35 ((2 * (t2.2 13 ((v3 * 4) + t2.1).toNatClampNeg)) + 1).toNatClampNeg))), none], [.int v3, .ref 31, .int v3, .ref 31], (SH, (zu (zu t2.2 35 ((2 * (t2.2 13 ((v3 * 4) + t2.1).toNatClampNeg)) + 1).toNatClampNeg ((t2.2 35 ((2 * (t2.2 13 ((v3 * 4) + t2.1).toNatClampNeg)) + 1).toNatClampNeg) - (zmin (t2.2 28 ((v3 * 8) + v2).toNatClampNeg) (t2.2 35 ((2 * (t2.2 13 ((v3 * 4) + t2.1).toNatClampNeg)) + 1).toNatClampNeg)))) 28 ((v3 * 8) + v2).toNatClampNeg ((t2.2 28 ((v3 * 8) + v2).toNatClampNeg) - (zmin (t2.2 28 ((v3 * 8) + v2).toNatClampNeg) (t2.2 35 ((2 * (t2.2 13 ((v3 * 4) + t2.1).toNatClampNeg)) + 1).toNatClampNeg)))), J)) rfl ?_
          obtain ⟨hc26, h⟩ := zbifo h
          refine zr_one (bif zin v3 4 then zN 140 [some (.ref 24), some (.int v1), some (.int v2), some (.int v3), some (.int t2.1), some (.int (t2.2 13 ((v3 * 4) + t2.1).toNatClampNeg)), some (.int ((2 * (t2.2 13 ((v3 * 4) + t2.1).toNatClampNeg)) + 1)), some (.int (zmin (t2.2 28 ((v3 * 8) + v2).toNatClampNeg) (t2.2 35 ((2 * (t2.2 13 ((v3 * 4) + t2.1).toNatClampNeg)) + 1).toNatClampNeg))), none] [.int (t2.2 31 v3.toNatClampNeg), .int v3, .ref 31] (SH, (zu (zu t2.2 35 ((2 * (t2.2 13 ((v3 * 4) + t2.1).toNatClampNeg)) + 1).toNatClampNeg ((t2.2 35 ((2 * (t2.2 13 ((v3 * 4) + t2.1).toNatClampNeg)) + 1).toNatClampNeg) - (zmin (t2.2 28 ((v3 * 8) + v2).toNatClampNeg) (t2.2 35 ((2 * (t2.2 13 ((v3 * 4) + t2.1).toNatClampNeg)) + 1).toNatClampNeg)))) 28 ((v3 * 8) + v2).toNatClampNeg ((t2.2 28 ((v3 * 8) + v2).toNatClampNeg) - (zmin (t2.2 28 ((v3 * 8) + v2).toNatClampNeg) (t2.2 35 ((2 * (t2.2 13 ((v3 * 4) + t2.1).toNatClampNeg)) + 1).toNatClampNeg)))), J) else none) rfl (zR_bif hc26 (zR_go ?_))
          refine zr_steps 2 (143, [some (.ref 24), some (.int v1), some (.int v2), some (.int v3), some (.int t2.1), some (.int (t2.2 13 ((v3 * 4) + t2.1).toNatClampNeg)), some (.int ((2 * (t2.2 13 ((v3 * 4) + t2.1).toNatClampNeg)) + 1)), some (.int (zmin (t2.2 28 ((v3 * 8) + v2).toNatClampNeg) (t2.2 35 ((2 * (t2.2 13 ((v3 * 4) + t2.1).toNatClampNeg)) + 1).toNatClampNeg))), none], [.int ((t2.2 31 v3.toNatClampNeg) - (zmin (t2.2 28 ((v3 * 8) + v2).toNatClampNeg) (t2.2 35 ((2 * (t2.2 13 ((v3 * 4) + t2.1).toNatClampNeg)) + 1).toNatClampNeg))), .int v3, .ref 31], (SH, (zu (zu t2.2 35 ((2 * (t2.2 13 ((v3 * 4) + t2.1).toNatClampNeg)) + 1).toNatClampNeg ((t2.2 35 ((2 * (t2.2 13 ((v3 * 4) + t2.1).toNatClampNeg)) + 1).toNatClampNeg) - (zmin (t2.2 28 ((v3 * 8) + v2).toNatClampNeg) (t2.2 35 ((2 * (t2.2 13 ((v3 * 4) + t2.1).toNatClampNeg)) + 1).toNatClampNeg)))) 28 ((v3 * 8) + v2).toNatClampNeg ((t2.2 28 ((v3 * 8) + v2).toNatClampNeg) - (zmin (t2.2 28 ((v3 * 8) + v2).toNatClampNeg) (t2.2 35 ((2 * (t2.2 13 ((v3 * 4) + t2.1).toNatClampNeg)) + 1).toNatClampNeg)))), J)) rfl ?_
          obtain ⟨hc27, h⟩ := zbifo h
          refine zr_one (bif zin v3 4 then zN 144 [some (.ref 24), some (.int v1), some (.int v2), some (.int v3), some (.int t2.1), some (.int (t2.2 13 ((v3 * 4) + t2.1).toNatClampNeg)), some (.int ((2 * (t2.2 13 ((v3 * 4) + t2.1).toNatClampNeg)) + 1)), some (.int (zmin (t2.2 28 ((v3 * 8) + v2).toNatClampNeg) (t2.2 35 ((2 * (t2.2 13 ((v3 * 4) + t2.1).toNatClampNeg)) + 1).toNatClampNeg))), none] [] (SH, (zu (zu (zu t2.2 35 ((2 * (t2.2 13 ((v3 * 4) + t2.1).toNatClampNeg)) + 1).toNatClampNeg ((t2.2 35 ((2 * (t2.2 13 ((v3 * 4) + t2.1).toNatClampNeg)) + 1).toNatClampNeg) - (zmin (t2.2 28 ((v3 * 8) + v2).toNatClampNeg) (t2.2 35 ((2 * (t2.2 13 ((v3 * 4) + t2.1).toNatClampNeg)) + 1).toNatClampNeg)))) 28 ((v3 * 8) + v2).toNatClampNeg ((t2.2 28 ((v3 * 8) + v2).toNatClampNeg) - (zmin (t2.2 28 ((v3 * 8) + v2).toNatClampNeg) (t2.2 35 ((2 * (t2.2 13 ((v3 * 4) + t2.1).toNatClampNeg)) + 1).toNatClampNeg)))) 31 v3.toNatClampNeg ((t2.2 31 v3.toNatClampNeg) - (zmin (t2.2 28 ((v3 * 8) + v2).toNatClampNeg) (t2.2 35 ((2 * (t2.2 13 ((v3 * 4) + t2.1).toNatClampNeg)) + 1).toNatClampNeg)))), J) else none) rfl (zR_bif hc27 (zR_go ?_))
          refine zr_steps 5 (154, [some (.ref 24), some (.int v1), some (.int v2), some (.int v3), some (.int t2.1), some (.int (t2.2 13 ((v3 * 4) + t2.1).toNatClampNeg)), some (.int ((2 * (t2.2 13 ((v3 * 4) + t2.1).toNatClampNeg)) + 1)), some (.int (zmin (t2.2 28 ((v3 * 8) + v2).toNatClampNeg) (t2.2 35 ((2 * (t2.2 13 ((v3 * 4) + t2.1).toNatClampNeg)) + 1).toNatClampNeg))), none], [.int (t2.2 13 ((v3 * 4) + t2.1).toNatClampNeg), .ref 6, .int v1], (SH, (zu (zu (zu t2.2 35 ((2 * (t2.2 13 ((v3 * 4) + t2.1).toNatClampNeg)) + 1).toNatClampNeg ((t2.2 35 ((2 * (t2.2 13 ((v3 * 4) + t2.1).toNatClampNeg)) + 1).toNatClampNeg) - (zmin (t2.2 28 ((v3 * 8) + v2).toNatClampNeg) (t2.2 35 ((2 * (t2.2 13 ((v3 * 4) + t2.1).toNatClampNeg)) + 1).toNatClampNeg)))) 28 ((v3 * 8) + v2).toNatClampNeg ((t2.2 28 ((v3 * 8) + v2).toNatClampNeg) - (zmin (t2.2 28 ((v3 * 8) + v2).toNatClampNeg) (t2.2 35 ((2 * (t2.2 13 ((v3 * 4) + t2.1).toNatClampNeg)) + 1).toNatClampNeg)))) 31 v3.toNatClampNeg ((t2.2 31 v3.toNatClampNeg) - (zmin (t2.2 28 ((v3 * 8) + v2).toNatClampNeg) (t2.2 35 ((2 * (t2.2 13 ((v3 * 4) + t2.1).toNatClampNeg)) + 1).toNatClampNeg)))), J)) rfl ?_
          obtain ⟨hc28, h⟩ := zbifo h
          refine zr_one (bif zin (t2.2 13 ((v3 * 4) + t2.1).toNatClampNeg) 12 then zN 155 [some (.ref 24), some (.int v1), some (.int v2), some (.int v3), some (.int t2.1), some (.int (t2.2 13 ((v3 * 4) + t2.1).toNatClampNeg)), some (.int ((2 * (t2.2 13 ((v3 * 4) + t2.1).toNatClampNeg)) + 1)), some (.int (zmin (t2.2 28 ((v3 * 8) + v2).toNatClampNeg) (t2.2 35 ((2 * (t2.2 13 ((v3 * 4) + t2.1).toNatClampNeg)) + 1).toNatClampNeg))), none] [.int (t2.2 6 (t2.2 13 ((v3 * 4) + t2.1).toNatClampNeg).toNatClampNeg), .int v1] (SH, (zu (zu (zu t2.2 35 ((2 * (t2.2 13 ((v3 * 4) + t2.1).toNatClampNeg)) + 1).toNatClampNeg ((t2.2 35 ((2 * (t2.2 13 ((v3 * 4) + t2.1).toNatClampNeg)) + 1).toNatClampNeg) - (zmin (t2.2 28 ((v3 * 8) + v2).toNatClampNeg) (t2.2 35 ((2 * (t2.2 13 ((v3 * 4) + t2.1).toNatClampNeg)) + 1).toNatClampNeg)))) 28 ((v3 * 8) + v2).toNatClampNeg ((t2.2 28 ((v3 * 8) + v2).toNatClampNeg) - (zmin (t2.2 28 ((v3 * 8) + v2).toNatClampNeg) (t2.2 35 ((2 * (t2.2 13 ((v3 * 4) + t2.1).toNatClampNeg)) + 1).toNatClampNeg)))) 31 v3.toNatClampNeg ((t2.2 31 v3.toNatClampNeg) - (zmin (t2.2 28 ((v3 * 8) + v2).toNatClampNeg) (t2.2 35 ((2 * (t2.2 13 ((v3 * 4) + t2.1).toNatClampNeg)) + 1).toNatClampNeg)))), J) else none) rfl (zR_bif hc28 (zR_go ?_))
          refine zr_steps 4 (163, [some (.ref 24), some (.int v1), some (.int v2), some (.int v3), some (.int t2.1), some (.int (t2.2 13 ((v3 * 4) + t2.1).toNatClampNeg)), some (.int ((2 * (t2.2 13 ((v3 * 4) + t2.1).toNatClampNeg)) + 1)), some (.int (zmin (t2.2 28 ((v3 * 8) + v2).toNatClampNeg) (t2.2 35 ((2 * (t2.2 13 ((v3 * 4) + t2.1).toNatClampNeg)) + 1).toNatClampNeg))), none], [.int v2, .ref 11, .int (t2.2 6 (t2.2 13 ((v3 * 4) + t2.1).toNatClampNeg).toNatClampNeg), .int v1], (SH, (zu (zu (zu t2.2 35 ((2 * (t2.2 13 ((v3 * 4) + t2.1).toNatClampNeg)) + 1).toNatClampNeg ((t2.2 35 ((2 * (t2.2 13 ((v3 * 4) + t2.1).toNatClampNeg)) + 1).toNatClampNeg) - (zmin (t2.2 28 ((v3 * 8) + v2).toNatClampNeg) (t2.2 35 ((2 * (t2.2 13 ((v3 * 4) + t2.1).toNatClampNeg)) + 1).toNatClampNeg)))) 28 ((v3 * 8) + v2).toNatClampNeg ((t2.2 28 ((v3 * 8) + v2).toNatClampNeg) - (zmin (t2.2 28 ((v3 * 8) + v2).toNatClampNeg) (t2.2 35 ((2 * (t2.2 13 ((v3 * 4) + t2.1).toNatClampNeg)) + 1).toNatClampNeg)))) 31 v3.toNatClampNeg ((t2.2 31 v3.toNatClampNeg) - (zmin (t2.2 28 ((v3 * 8) + v2).toNatClampNeg) (t2.2 35 ((2 * (t2.2 13 ((v3 * 4) + t2.1).toNatClampNeg)) + 1).toNatClampNeg)))), J)) rfl ?_
          obtain ⟨hc29, h⟩ := zbifo h
          refine zr_one (bif zin v2 8 then zN 164 [some (.ref 24), some (.int v1), some (.int v2), some (.int v3), some (.int t2.1), some (.int (t2.2 13 ((v3 * 4) + t2.1).toNatClampNeg)), some (.int ((2 * (t2.2 13 ((v3 * 4) + t2.1).toNatClampNeg)) + 1)), some (.int (zmin (t2.2 28 ((v3 * 8) + v2).toNatClampNeg) (t2.2 35 ((2 * (t2.2 13 ((v3 * 4) + t2.1).toNatClampNeg)) + 1).toNatClampNeg))), none] [.int (t2.2 11 v2.toNatClampNeg), .int (t2.2 6 (t2.2 13 ((v3 * 4) + t2.1).toNatClampNeg).toNatClampNeg), .int v1] (SH, (zu (zu (zu t2.2 35 ((2 * (t2.2 13 ((v3 * 4) + t2.1).toNatClampNeg)) + 1).toNatClampNeg ((t2.2 35 ((2 * (t2.2 13 ((v3 * 4) + t2.1).toNatClampNeg)) + 1).toNatClampNeg) - (zmin (t2.2 28 ((v3 * 8) + v2).toNatClampNeg) (t2.2 35 ((2 * (t2.2 13 ((v3 * 4) + t2.1).toNatClampNeg)) + 1).toNatClampNeg)))) 28 ((v3 * 8) + v2).toNatClampNeg ((t2.2 28 ((v3 * 8) + v2).toNatClampNeg) - (zmin (t2.2 28 ((v3 * 8) + v2).toNatClampNeg) (t2.2 35 ((2 * (t2.2 13 ((v3 * 4) + t2.1).toNatClampNeg)) + 1).toNatClampNeg)))) 31 v3.toNatClampNeg ((t2.2 31 v3.toNatClampNeg) - (zmin (t2.2 28 ((v3 * 8) + v2).toNatClampNeg) (t2.2 35 ((2 * (t2.2 13 ((v3 * 4) + t2.1).toNatClampNeg)) + 1).toNatClampNeg)))), J) else none) rfl (zR_bif hc29 (zR_go ?_))
          refine zr_steps 7 (177, [some (.ref 24), some (.int v1), some (.int v2), some (.int v3), some (.int t2.1), some (.int (t2.2 13 ((v3 * 4) + t2.1).toNatClampNeg)), some (.int ((2 * (t2.2 13 ((v3 * 4) + t2.1).toNatClampNeg)) + 1)), some (.int (zmin (t2.2 28 ((v3 * 8) + v2).toNatClampNeg) (t2.2 35 ((2 * (t2.2 13 ((v3 * 4) + t2.1).toNatClampNeg)) + 1).toNatClampNeg))), some (.int (v1 + ((t2.2 6 (t2.2 13 ((v3 * 4) + t2.1).toNatClampNeg).toNatClampNeg) * (t2.2 11 v2.toNatClampNeg))))], [.int (t2.2 25 0), .int (v1 + ((t2.2 6 (t2.2 13 ((v3 * 4) + t2.1).toNatClampNeg).toNatClampNeg) * (t2.2 11 v2.toNatClampNeg)))], (SH, (zu (zu (zu t2.2 35 ((2 * (t2.2 13 ((v3 * 4) + t2.1).toNatClampNeg)) + 1).toNatClampNeg ((t2.2 35 ((2 * (t2.2 13 ((v3 * 4) + t2.1).toNatClampNeg)) + 1).toNatClampNeg) - (zmin (t2.2 28 ((v3 * 8) + v2).toNatClampNeg) (t2.2 35 ((2 * (t2.2 13 ((v3 * 4) + t2.1).toNatClampNeg)) + 1).toNatClampNeg)))) 28 ((v3 * 8) + v2).toNatClampNeg ((t2.2 28 ((v3 * 8) + v2).toNatClampNeg) - (zmin (t2.2 28 ((v3 * 8) + v2).toNatClampNeg) (t2.2 35 ((2 * (t2.2 13 ((v3 * 4) + t2.1).toNatClampNeg)) + 1).toNatClampNeg)))) 31 v3.toNatClampNeg ((t2.2 31 v3.toNatClampNeg) - (zmin (t2.2 28 ((v3 * 8) + v2).toNatClampNeg) (t2.2 35 ((2 * (t2.2 13 ((v3 * 4) + t2.1).toNatClampNeg)) + 1).toNatClampNeg)))), J)) rfl ?_
          refine zr_one (if (t2.2 25 0) < (v1 + ((t2.2 6 (t2.2 13 ((v3 * 4) + t2.1).toNatClampNeg).toNatClampNeg) * (t2.2 11 v2.toNatClampNeg))) then zN 203 [some (.ref 24), some (.int v1), some (.int v2), some (.int v3), some (.int t2.1), some (.int (t2.2 13 ((v3 * 4) + t2.1).toNatClampNeg)), some (.int ((2 * (t2.2 13 ((v3 * 4) + t2.1).toNatClampNeg)) + 1)), some (.int (zmin (t2.2 28 ((v3 * 8) + v2).toNatClampNeg) (t2.2 35 ((2 * (t2.2 13 ((v3 * 4) + t2.1).toNatClampNeg)) + 1).toNatClampNeg))), some (.int (v1 + ((t2.2 6 (t2.2 13 ((v3 * 4) + t2.1).toNatClampNeg).toNatClampNeg) * (t2.2 11 v2.toNatClampNeg))))] [] (SH, (zu (zu (zu t2.2 35 ((2 * (t2.2 13 ((v3 * 4) + t2.1).toNatClampNeg)) + 1).toNatClampNeg ((t2.2 35 ((2 * (t2.2 13 ((v3 * 4) + t2.1).toNatClampNeg)) + 1).toNatClampNeg) - (zmin (t2.2 28 ((v3 * 8) + v2).toNatClampNeg) (t2.2 35 ((2 * (t2.2 13 ((v3 * 4) + t2.1).toNatClampNeg)) + 1).toNatClampNeg)))) 28 ((v3 * 8) + v2).toNatClampNeg ((t2.2 28 ((v3 * 8) + v2).toNatClampNeg) - (zmin (t2.2 28 ((v3 * 8) + v2).toNatClampNeg) (t2.2 35 ((2 * (t2.2 13 ((v3 * 4) + t2.1).toNatClampNeg)) + 1).toNatClampNeg)))) 31 v3.toNatClampNeg ((t2.2 31 v3.toNatClampNeg) - (zmin (t2.2 28 ((v3 * 8) + v2).toNatClampNeg) (t2.2 35 ((2 * (t2.2 13 ((v3 * 4) + t2.1).toNatClampNeg)) + 1).toNatClampNeg)))), J) else zN 180 [some (.ref 24), some (.int v1), some (.int v2), some (.int v3), some (.int t2.1), some (.int (t2.2 13 ((v3 * 4) + t2.1).toNatClampNeg)), some (.int ((2 * (t2.2 13 ((v3 * 4) + t2.1).toNatClampNeg)) + 1)), some (.int (zmin (t2.2 28 ((v3 * 8) + v2).toNatClampNeg) (t2.2 35 ((2 * (t2.2 13 ((v3 * 4) + t2.1).toNatClampNeg)) + 1).toNatClampNeg))), some (.int (v1 + ((t2.2 6 (t2.2 13 ((v3 * 4) + t2.1).toNatClampNeg).toNatClampNeg) * (t2.2 11 v2.toNatClampNeg))))] [] (SH, (zu (zu (zu t2.2 35 ((2 * (t2.2 13 ((v3 * 4) + t2.1).toNatClampNeg)) + 1).toNatClampNeg ((t2.2 35 ((2 * (t2.2 13 ((v3 * 4) + t2.1).toNatClampNeg)) + 1).toNatClampNeg) - (zmin (t2.2 28 ((v3 * 8) + v2).toNatClampNeg) (t2.2 35 ((2 * (t2.2 13 ((v3 * 4) + t2.1).toNatClampNeg)) + 1).toNatClampNeg)))) 28 ((v3 * 8) + v2).toNatClampNeg ((t2.2 28 ((v3 * 8) + v2).toNatClampNeg) - (zmin (t2.2 28 ((v3 * 8) + v2).toNatClampNeg) (t2.2 35 ((2 * (t2.2 13 ((v3 * 4) + t2.1).toNatClampNeg)) + 1).toNatClampNeg)))) 31 v3.toNatClampNeg ((t2.2 31 v3.toNatClampNeg) - (zmin (t2.2 28 ((v3 * 8) + v2).toNatClampNeg) (t2.2 35 ((2 * (t2.2 13 ((v3 * 4) + t2.1).toNatClampNeg)) + 1).toNatClampNeg)))), J)) rfl (zR_if (fun hc32 => zR_go ?_) (fun hc32 => zR_go ?_))
          · rw [if_pos hc32] at h
            have he := Option.some.inj h
            subst he
            exact zr_one (some (.inr (.inr none))) rfl (zR_ret rfl rfl)
          · rw [if_neg hc32] at h
            refine zr_steps 12 (198, [some (.ref 24), some (.int v1), some (.int v2), some (.int v3), some (.int t2.1), some (.int (t2.2 13 ((v3 * 4) + t2.1).toNatClampNeg)), some (.int ((2 * (t2.2 13 ((v3 * 4) + t2.1).toNatClampNeg)) + 1)), some (.int (zmin (t2.2 28 ((v3 * 8) + v2).toNatClampNeg) (t2.2 35 ((2 * (t2.2 13 ((v3 * 4) + t2.1).toNatClampNeg)) + 1).toNatClampNeg))), some (.int (v1 + ((t2.2 6 (t2.2 13 ((v3 * 4) + t2.1).toNatClampNeg).toNatClampNeg) * (t2.2 11 v2.toNatClampNeg))))], [.int ((((v1 + ((t2.2 6 (t2.2 13 ((v3 * 4) + t2.1).toNatClampNeg).toNatClampNeg) * (t2.2 11 v2.toNatClampNeg))) * 32) + (t2.1 * 8)) + v2), .ref 32, .int ((((v1 + ((t2.2 6 (t2.2 13 ((v3 * 4) + t2.1).toNatClampNeg).toNatClampNeg) * (t2.2 11 v2.toNatClampNeg))) * 32) + (t2.1 * 8)) + v2), .ref 32], (SH, (zu (zu (zu t2.2 35 ((2 * (t2.2 13 ((v3 * 4) + t2.1).toNatClampNeg)) + 1).toNatClampNeg ((t2.2 35 ((2 * (t2.2 13 ((v3 * 4) + t2.1).toNatClampNeg)) + 1).toNatClampNeg) - (zmin (t2.2 28 ((v3 * 8) + v2).toNatClampNeg) (t2.2 35 ((2 * (t2.2 13 ((v3 * 4) + t2.1).toNatClampNeg)) + 1).toNatClampNeg)))) 28 ((v3 * 8) + v2).toNatClampNeg ((t2.2 28 ((v3 * 8) + v2).toNatClampNeg) - (zmin (t2.2 28 ((v3 * 8) + v2).toNatClampNeg) (t2.2 35 ((2 * (t2.2 13 ((v3 * 4) + t2.1).toNatClampNeg)) + 1).toNatClampNeg)))) 31 v3.toNatClampNeg ((t2.2 31 v3.toNatClampNeg) - (zmin (t2.2 28 ((v3 * 8) + v2).toNatClampNeg) (t2.2 35 ((2 * (t2.2 13 ((v3 * 4) + t2.1).toNatClampNeg)) + 1).toNatClampNeg)))), J)) rfl ?_
            obtain ⟨hc30, h⟩ := zbifo h
            refine zr_one (bif zin ((((v1 + ((t2.2 6 (t2.2 13 ((v3 * 4) + t2.1).toNatClampNeg).toNatClampNeg) * (t2.2 11 v2.toNatClampNeg))) * 32) + (t2.1 * 8)) + v2) 1952 then zN 199 [some (.ref 24), some (.int v1), some (.int v2), some (.int v3), some (.int t2.1), some (.int (t2.2 13 ((v3 * 4) + t2.1).toNatClampNeg)), some (.int ((2 * (t2.2 13 ((v3 * 4) + t2.1).toNatClampNeg)) + 1)), some (.int (zmin (t2.2 28 ((v3 * 8) + v2).toNatClampNeg) (t2.2 35 ((2 * (t2.2 13 ((v3 * 4) + t2.1).toNatClampNeg)) + 1).toNatClampNeg))), some (.int (v1 + ((t2.2 6 (t2.2 13 ((v3 * 4) + t2.1).toNatClampNeg).toNatClampNeg) * (t2.2 11 v2.toNatClampNeg))))] [.int (t2.2 32 ((((v1 + ((t2.2 6 (t2.2 13 ((v3 * 4) + t2.1).toNatClampNeg).toNatClampNeg) * (t2.2 11 v2.toNatClampNeg))) * 32) + (t2.1 * 8)) + v2).toNatClampNeg), .int ((((v1 + ((t2.2 6 (t2.2 13 ((v3 * 4) + t2.1).toNatClampNeg).toNatClampNeg) * (t2.2 11 v2.toNatClampNeg))) * 32) + (t2.1 * 8)) + v2), .ref 32] (SH, (zu (zu (zu t2.2 35 ((2 * (t2.2 13 ((v3 * 4) + t2.1).toNatClampNeg)) + 1).toNatClampNeg ((t2.2 35 ((2 * (t2.2 13 ((v3 * 4) + t2.1).toNatClampNeg)) + 1).toNatClampNeg) - (zmin (t2.2 28 ((v3 * 8) + v2).toNatClampNeg) (t2.2 35 ((2 * (t2.2 13 ((v3 * 4) + t2.1).toNatClampNeg)) + 1).toNatClampNeg)))) 28 ((v3 * 8) + v2).toNatClampNeg ((t2.2 28 ((v3 * 8) + v2).toNatClampNeg) - (zmin (t2.2 28 ((v3 * 8) + v2).toNatClampNeg) (t2.2 35 ((2 * (t2.2 13 ((v3 * 4) + t2.1).toNatClampNeg)) + 1).toNatClampNeg)))) 31 v3.toNatClampNeg ((t2.2 31 v3.toNatClampNeg) - (zmin (t2.2 28 ((v3 * 8) + v2).toNatClampNeg) (t2.2 35 ((2 * (t2.2 13 ((v3 * 4) + t2.1).toNatClampNeg)) + 1).toNatClampNeg)))), J) else none) rfl (zR_bif hc30 (zR_go ?_))
            refine zr_steps 2 (202, [some (.ref 24), some (.int v1), some (.int v2), some (.int v3), some (.int t2.1), some (.int (t2.2 13 ((v3 * 4) + t2.1).toNatClampNeg)), some (.int ((2 * (t2.2 13 ((v3 * 4) + t2.1).toNatClampNeg)) + 1)), some (.int (zmin (t2.2 28 ((v3 * 8) + v2).toNatClampNeg) (t2.2 35 ((2 * (t2.2 13 ((v3 * 4) + t2.1).toNatClampNeg)) + 1).toNatClampNeg))), some (.int (v1 + ((t2.2 6 (t2.2 13 ((v3 * 4) + t2.1).toNatClampNeg).toNatClampNeg) * (t2.2 11 v2.toNatClampNeg))))], [.int ((t2.2 32 ((((v1 + ((t2.2 6 (t2.2 13 ((v3 * 4) + t2.1).toNatClampNeg).toNatClampNeg) * (t2.2 11 v2.toNatClampNeg))) * 32) + (t2.1 * 8)) + v2).toNatClampNeg) + (zmin (t2.2 28 ((v3 * 8) + v2).toNatClampNeg) (t2.2 35 ((2 * (t2.2 13 ((v3 * 4) + t2.1).toNatClampNeg)) + 1).toNatClampNeg))), .int ((((v1 + ((t2.2 6 (t2.2 13 ((v3 * 4) + t2.1).toNatClampNeg).toNatClampNeg) * (t2.2 11 v2.toNatClampNeg))) * 32) + (t2.1 * 8)) + v2), .ref 32], (SH, (zu (zu (zu t2.2 35 ((2 * (t2.2 13 ((v3 * 4) + t2.1).toNatClampNeg)) + 1).toNatClampNeg ((t2.2 35 ((2 * (t2.2 13 ((v3 * 4) + t2.1).toNatClampNeg)) + 1).toNatClampNeg) - (zmin (t2.2 28 ((v3 * 8) + v2).toNatClampNeg) (t2.2 35 ((2 * (t2.2 13 ((v3 * 4) + t2.1).toNatClampNeg)) + 1).toNatClampNeg)))) 28 ((v3 * 8) + v2).toNatClampNeg ((t2.2 28 ((v3 * 8) + v2).toNatClampNeg) - (zmin (t2.2 28 ((v3 * 8) + v2).toNatClampNeg) (t2.2 35 ((2 * (t2.2 13 ((v3 * 4) + t2.1).toNatClampNeg)) + 1).toNatClampNeg)))) 31 v3.toNatClampNeg ((t2.2 31 v3.toNatClampNeg) - (zmin (t2.2 28 ((v3 * 8) + v2).toNatClampNeg) (t2.2 35 ((2 * (t2.2 13 ((v3 * 4) + t2.1).toNatClampNeg)) + 1).toNatClampNeg)))), J)) rfl ?_
            obtain ⟨hc31, h⟩ := zbifo h
            refine zr_one (bif zin ((((v1 + ((t2.2 6 (t2.2 13 ((v3 * 4) + t2.1).toNatClampNeg).toNatClampNeg) * (t2.2 11 v2.toNatClampNeg))) * 32) + (t2.1 * 8)) + v2) 1952 then zN 203 [some (.ref 24), some (.int v1), some (.int v2), some (.int v3), some (.int t2.1), some (.int (t2.2 13 ((v3 * 4) + t2.1).toNatClampNeg)), some (.int ((2 * (t2.2 13 ((v3 * 4) + t2.1).toNatClampNeg)) + 1)), some (.int (zmin (t2.2 28 ((v3 * 8) + v2).toNatClampNeg) (t2.2 35 ((2 * (t2.2 13 ((v3 * 4) + t2.1).toNatClampNeg)) + 1).toNatClampNeg))), some (.int (v1 + ((t2.2 6 (t2.2 13 ((v3 * 4) + t2.1).toNatClampNeg).toNatClampNeg) * (t2.2 11 v2.toNatClampNeg))))] [] (SH, (zu (zu (zu (zu t2.2 35 ((2 * (t2.2 13 ((v3 * 4) + t2.1).toNatClampNeg)) + 1).toNatClampNeg ((t2.2 35 ((2 * (t2.2 13 ((v3 * 4) + t2.1).toNatClampNeg)) + 1).toNatClampNeg) - (zmin (t2.2 28 ((v3 * 8) + v2).toNatClampNeg) (t2.2 35 ((2 * (t2.2 13 ((v3 * 4) + t2.1).toNatClampNeg)) + 1).toNatClampNeg)))) 28 ((v3 * 8) + v2).toNatClampNeg ((t2.2 28 ((v3 * 8) + v2).toNatClampNeg) - (zmin (t2.2 28 ((v3 * 8) + v2).toNatClampNeg) (t2.2 35 ((2 * (t2.2 13 ((v3 * 4) + t2.1).toNatClampNeg)) + 1).toNatClampNeg)))) 31 v3.toNatClampNeg ((t2.2 31 v3.toNatClampNeg) - (zmin (t2.2 28 ((v3 * 8) + v2).toNatClampNeg) (t2.2 35 ((2 * (t2.2 13 ((v3 * 4) + t2.1).toNatClampNeg)) + 1).toNatClampNeg)))) 32 ((((v1 + ((t2.2 6 (t2.2 13 ((v3 * 4) + t2.1).toNatClampNeg).toNatClampNeg) * (t2.2 11 v2.toNatClampNeg))) * 32) + (t2.1 * 8)) + v2).toNatClampNeg ((t2.2 32 ((((v1 + ((t2.2 6 (t2.2 13 ((v3 * 4) + t2.1).toNatClampNeg).toNatClampNeg) * (t2.2 11 v2.toNatClampNeg))) * 32) + (t2.1 * 8)) + v2).toNatClampNeg) + (zmin (t2.2 28 ((v3 * 8) + v2).toNatClampNeg) (t2.2 35 ((2 * (t2.2 13 ((v3 * 4) + t2.1).toNatClampNeg)) + 1).toNatClampNeg)))), J) else none) rfl (zR_bif hc31 (zR_go ?_))
            have he := Option.some.inj h
            subst he
            exact zr_one (some (.inr (.inr none))) rfl (zR_ret rfl rfl)
      · rw [if_neg hc34] at h
        have he := Option.some.inj h
        subst he
        exact zr_one (some (.inr (.inr none))) rfl (zR_ret rfl rfl)
def f45_go_24_L2 (v1 : Int32) (s : (Int32 × (Nat → Nat → Int32))) : Option ((Int32 × (Nat → Nat → Int32)) ⊕ (Int32 × (Nat → Nat → Int32))) :=
  if (s.2 1 1) ≤ s.1 then
    some (.inl (s.1, s.2))
  else
    bif zin s.1 12 then
    bif zin (2 * s.1) 24 then
    bif zin s.1 12 then
    bif zin ((2 * s.1) + 1) 24 then
    some (.inr ((s.1 + 1), (zu (zu s.2 35 (2 * s.1).toNatClampNeg (s.2 7 s.1.toNatClampNeg)) 35 ((2 * s.1) + 1).toNatClampNeg (s.2 7 s.1.toNatClampNeg))))
    else none
    else none
    else none
    else none
def f45_go_24_L70 (v1 : Int32) (v2 : Int32) (s : (Int32 × (Nat → Nat → Int32))) : Option ((Int32 × (Nat → Nat → Int32)) ⊕ (Int32 × (Nat → Nat → Int32))) :=
  if (s.2 1 0) ≤ s.1 then
    some (.inl (s.1, s.2))
  else
    bif zin ((s.1 * 8) + v2) 32 then
    if (s.2 28 ((s.1 * 8) + v2).toNatClampNeg) ≤ 0 then
      some (.inr ((s.1 + 1), s.2))
    else
      Option.bind (f46_setOut_24 v1 v2 s.1 s.2) fun t10 =>
      some (.inr ((s.1 + 1), t10))
    else none
def f45_go_24_L57 (v1 : Int32) (s : (Int32 × (Nat → Nat → Int32))) : Option ((Int32 × (Nat → Nat → Int32)) ⊕ (Int32 × (Nat → Nat → Int32))) :=
  if (s.2 1 2) ≤ s.1 then
    some (.inl (s.1, s.2))
  else
    Option.bind (zloop (f45_go_24_L70 v1 s.1) 5000 ((0 : Int32), s.2)) fun s13 =>
    some (.inr ((s.1 + 1), s13.2))
def f45_go_24 (v1 : Int32) (I : (Nat → Nat → Int32)) : Option (Nat → Nat → Int32) :=
  Option.bind (zloop (f45_go_24_L2 v1) 5000 ((0 : Int32), I)) fun s6 =>
  Option.bind (zloop (f45_go_24_L57 v1) 5000 ((0 : Int32), s6.2)) fun s16 =>
  some s16.2
set_option maxRecDepth 100000 in
set_option maxHeartbeats 4000000 in
theorem ok_f45_go_24_L2 {X : zX} {d : Nat} {r : Option Value} {M' : zM} (hd : 5 ≤ d) (v1 : Int32) {J : (Nat → Nat → Int64)} : ∀ (n : Nat) (s x : (Int32 × (Nat → Nat → Int32))), zloop (f45_go_24_L2 v1) n s = some x → (fun (x : (Int32 × (Nat → Nat → Int32))) => zRun X d 45 55 [some (.ref 24), some (.int v1), none, none] [] (SH, x.2, J) r M') x → (fun (s : (Int32 × (Nat → Nat → Int32))) => zRun X d 45 2 [some (.ref 24), some (.int v1), some (.int s.1), none] [] (SH, s.2, J) r M') s := zloop_ok (B := (f45_go_24_L2 v1)) (Wh := fun (s : (Int32 × (Nat → Nat → Int32))) => zRun X d 45 2 [some (.ref 24), some (.int v1), some (.int s.1), none] [] (SH, s.2, J) r M') (Wx := fun (x : (Int32 × (Nat → Nat → Int32))) => zRun X d 45 55 [some (.ref 24), some (.int v1), none, none] [] (SH, x.2, J) r M') (fun s y h w => by
  unfold f45_go_24_L2 at h
  refine zr_steps 4 (10, [some (.ref 24), some (.int v1), some (.int s.1), none], [.int (s.2 1 1), .int s.1], (SH, s.2, J)) rfl ?_
  refine zr_one (if (s.2 1 1) ≤ s.1 then zN 55 [some (.ref 24), some (.int v1), some (.int s.1), none] [] (SH, s.2, J) else zN 13 [some (.ref 24), some (.int v1), some (.int s.1), none] [] (SH, s.2, J)) rfl (zR_if (fun hc5 => zR_go ?_) (fun hc5 => zR_go ?_))
  · rw [if_pos hc5] at h
    have he := Option.some.inj h
    subst he
    exact zr_hdr (ls2 := [some (.ref 24), some (.int v1), none, none]) rfl rfl (show zRun X d 45 55 [some (.ref 24), some (.int v1), none, none] [] (SH, s.2, J) r M' from w)
  · rw [if_neg hc5] at h
    refine zr_steps 9 (28, [some (.ref 24), some (.int v1), some (.int s.1), none], [.int s.1, .ref 7, .int (2 * s.1), .ref 35], (SH, s.2, J)) rfl ?_
    obtain ⟨hc1, h⟩ := zbifo h
    refine zr_one (bif zin s.1 12 then zN 29 [some (.ref 24), some (.int v1), some (.int s.1), none] [.int (s.2 7 s.1.toNatClampNeg), .int (2 * s.1), .ref 35] (SH, s.2, J) else none) rfl (zR_bif hc1 (zR_go ?_))
    obtain ⟨hc2, h⟩ := zbifo h
    refine zr_one (bif zin (2 * s.1) 24 then zN 30 [some (.ref 24), some (.int v1), some (.int s.1), none] [] (SH, (zu s.2 35 (2 * s.1).toNatClampNeg (s.2 7 s.1.toNatClampNeg)), J) else none) rfl (zR_bif hc2 (zR_go ?_))
    refine zr_steps 11 (47, [some (.ref 24), some (.int v1), some (.int s.1), none], [.int s.1, .ref 7, .int ((2 * s.1) + 1), .ref 35], (SH, (zu s.2 35 (2 * s.1).toNatClampNeg (s.2 7 s.1.toNatClampNeg)), J)) rfl ?_
    obtain ⟨hc3, h⟩ := zbifo h
    refine zr_one (bif zin s.1 12 then zN 48 [some (.ref 24), some (.int v1), some (.int s.1), none] [.int (s.2 7 s.1.toNatClampNeg), .int ((2 * s.1) + 1), .ref 35] (SH, (zu s.2 35 (2 * s.1).toNatClampNeg (s.2 7 s.1.toNatClampNeg)), J) else none) rfl (zR_bif hc3 (zR_go ?_))
    obtain ⟨hc4, h⟩ := zbifo h
    refine zr_one (bif zin ((2 * s.1) + 1) 24 then zN 49 [some (.ref 24), some (.int v1), some (.int s.1), none] [] (SH, (zu (zu s.2 35 (2 * s.1).toNatClampNeg (s.2 7 s.1.toNatClampNeg)) 35 ((2 * s.1) + 1).toNatClampNeg (s.2 7 s.1.toNatClampNeg)), J) else none) rfl (zR_bif hc4 (zR_go ?_))
    refine zr_steps 2 (2, [some (.ref 24), some (.int v1), some (.int (s.1 + 1)), none], [], (SH, (zu (zu s.2 35 (2 * s.1).toNatClampNeg (s.2 7 s.1.toNatClampNeg)) 35 ((2 * s.1) + 1).toNatClampNeg (s.2 7 s.1.toNatClampNeg)), J)) rfl ?_
    have he := Option.some.inj h
    subst he
    exact zr_hdr (ls2 := [some (.ref 24), some (.int v1), some (.int (s.1 + 1)), none]) rfl rfl (show zRun X d 45 2 [some (.ref 24), some (.int v1), some (.int (s.1 + 1)), none] [] (SH, (zu (zu s.2 35 (2 * s.1).toNatClampNeg (s.2 7 s.1.toNatClampNeg)) 35 ((2 * s.1) + 1).toNatClampNeg (s.2 7 s.1.toNatClampNeg)), J) r M' from w))
set_option maxRecDepth 100000 in
set_option maxHeartbeats 4000000 in
theorem ok_f45_go_24_L70 {X : zX} {d : Nat} {r : Option Value} {M' : zM} (hd : 5 ≤ d) (v1 : Int32) (v2 : Int32) {J : (Nat → Nat → Int64)} : ∀ (n : Nat) (s x : (Int32 × (Nat → Nat → Int32))), zloop (f45_go_24_L70 v1 v2) n s = some x → (fun (x : (Int32 × (Nat → Nat → Int32))) => zRun X d 45 108 [some (.ref 24), some (.int v1), some (.int v2), none] [] (SH, x.2, J) r M') x → (fun (s : (Int32 × (Nat → Nat → Int32))) => zRun X d 45 70 [some (.ref 24), some (.int v1), some (.int v2), some (.int s.1)] [] (SH, s.2, J) r M') s := zloop_ok (B := (f45_go_24_L70 v1 v2)) (Wh := fun (s : (Int32 × (Nat → Nat → Int32))) => zRun X d 45 70 [some (.ref 24), some (.int v1), some (.int v2), some (.int s.1)] [] (SH, s.2, J) r M') (Wx := fun (x : (Int32 × (Nat → Nat → Int32))) => zRun X d 45 108 [some (.ref 24), some (.int v1), some (.int v2), none] [] (SH, x.2, J) r M') (fun s y h w => by
  unfold f45_go_24_L70 at h
  refine zr_steps 4 (78, [some (.ref 24), some (.int v1), some (.int v2), some (.int s.1)], [.int (s.2 1 0), .int s.1], (SH, s.2, J)) rfl ?_
  refine zr_one (if (s.2 1 0) ≤ s.1 then zN 108 [some (.ref 24), some (.int v1), some (.int v2), some (.int s.1)] [] (SH, s.2, J) else zN 81 [some (.ref 24), some (.int v1), some (.int v2), some (.int s.1)] [] (SH, s.2, J)) rfl (zR_if (fun hc12 => zR_go ?_) (fun hc12 => zR_go ?_))
  · rw [if_pos hc12] at h
    have he := Option.some.inj h
    subst he
    exact zr_hdr (ls2 := [some (.ref 24), some (.int v1), some (.int v2), none]) rfl rfl (show zRun X d 45 108 [some (.ref 24), some (.int v1), some (.int v2), none] [] (SH, s.2, J) r M' from w)
  · rw [if_neg hc12] at h
    refine zr_steps 7 (91, [some (.ref 24), some (.int v1), some (.int v2), some (.int s.1)], [.int ((s.1 * 8) + v2), .ref 28], (SH, s.2, J)) rfl ?_
    obtain ⟨hc8, h⟩ := zbifo h
    refine zr_one (bif zin ((s.1 * 8) + v2) 32 then zN 92 [some (.ref 24), some (.int v1), some (.int v2), some (.int s.1)] [.int (s.2 28 ((s.1 * 8) + v2).toNatClampNeg)] (SH, s.2, J) else none) rfl (zR_bif hc8 (zR_go ?_))
    refine zr_one (if (s.2 28 ((s.1 * 8) + v2).toNatClampNeg) ≤ 0 then zN 102 [some (.ref 24), some (.int v1), some (.int v2), some (.int s.1)] [] (SH, s.2, J) else zN 95 [some (.ref 24), some (.int v1), some (.int v2), some (.int s.1)] [] (SH, s.2, J)) rfl (zR_if (fun hc11 => zR_go ?_) (fun hc11 => zR_go ?_))
    · rw [if_pos hc11] at h
      refine zr_steps 2 (70, [some (.ref 24), some (.int v1), some (.int v2), some (.int (s.1 + 1))], [], (SH, s.2, J)) rfl ?_
      have he := Option.some.inj h
      subst he
      exact zr_hdr (ls2 := [some (.ref 24), some (.int v1), some (.int v2), some (.int (s.1 + 1))]) rfl rfl (show zRun X d 45 70 [some (.ref 24), some (.int v1), some (.int v2), some (.int (s.1 + 1))] [] (SH, s.2, J) r M' from w)
    · rw [if_neg hc11] at h
      refine zr_steps 4 (99, [some (.ref 24), some (.int v1), some (.int v2), some (.int s.1)], [.int s.1, .int v2, .int v1, .ref 24], (SH, s.2, J)) rfl ?_
      obtain ⟨t10, hc9, h⟩ := zbind h
      refine zr_one (some (.inr (.inl (46, [.ref 24, .int v1, .int v2, .int s.1], [], 102)))) rfl (zR_call (by omega) rfl (ok_f46_setOut_24 (by omega) v1 v2 s.1 _ hc9) ?_)
      refine zr_steps 2 (70, [some (.ref 24), some (.int v1), some (.int v2), some (.int (s.1 + 1))], [], (SH, t10, J)) rfl ?_
      have he := Option.some.inj h
      subst he
      exact zr_hdr (ls2 := [some (.ref 24), some (.int v1), some (.int v2), some (.int (s.1 + 1))]) rfl rfl (show zRun X d 45 70 [some (.ref 24), some (.int v1), some (.int v2), some (.int (s.1 + 1))] [] (SH, t10, J) r M' from w))
set_option maxRecDepth 100000 in
set_option maxHeartbeats 4000000 in
theorem ok_f45_go_24_L57 {X : zX} {d : Nat} {r : Option Value} {M' : zM} (hd : 5 ≤ d) (v1 : Int32) {J : (Nat → Nat → Int64)} : ∀ (n : Nat) (s x : (Int32 × (Nat → Nat → Int32))), zloop (f45_go_24_L57 v1) n s = some x → (fun (x : (Int32 × (Nat → Nat → Int32))) => zRun X d 45 114 [none, none, none, none] [] (SH, x.2, J) r M') x → (fun (s : (Int32 × (Nat → Nat → Int32))) => zRun X d 45 57 [some (.ref 24), some (.int v1), some (.int s.1), none] [] (SH, s.2, J) r M') s := zloop_ok (B := (f45_go_24_L57 v1)) (Wh := fun (s : (Int32 × (Nat → Nat → Int32))) => zRun X d 45 57 [some (.ref 24), some (.int v1), some (.int s.1), none] [] (SH, s.2, J) r M') (Wx := fun (x : (Int32 × (Nat → Nat → Int32))) => zRun X d 45 114 [none, none, none, none] [] (SH, x.2, J) r M') (fun s y h w => by
  unfold f45_go_24_L57 at h
  refine zr_steps 4 (65, [some (.ref 24), some (.int v1), some (.int s.1), none], [.int (s.2 1 2), .int s.1], (SH, s.2, J)) rfl ?_
  refine zr_one (if (s.2 1 2) ≤ s.1 then zN 114 [some (.ref 24), some (.int v1), some (.int s.1), none] [] (SH, s.2, J) else zN 68 [some (.ref 24), some (.int v1), some (.int s.1), none] [] (SH, s.2, J)) rfl (zR_if (fun hc15 => zR_go ?_) (fun hc15 => zR_go ?_))
  · rw [if_pos hc15] at h
    have he := Option.some.inj h
    subst he
    exact zr_hdv (ls2 := [none, none, none, none]) rfl rfl (show zRun X d 45 114 [none, none, none, none] [] (SH, s.2, J) r M' from w)
  · rw [if_neg hc15] at h
    refine zr_steps 2 (70, [some (.ref 24), some (.int v1), some (.int s.1), some (.int 0)], [], (SH, s.2, J)) rfl ?_
    obtain ⟨s13, ho14, h⟩ := zbind h
    refine zr_hdr (ls2 := [some (.ref 24), some (.int v1), some (.int s.1), some (.int 0)]) rfl rfl ?_
    refine ok_f45_go_24_L70 (by omega) v1 s.1 5000 ((0 : Int32), s.2) s13 ho14 ?_
    show zRun X d 45 108 [some (.ref 24), some (.int v1), some (.int s.1), none] [] (SH, s13.2, J) _ _
    refine zr_steps 2 (57, [some (.ref 24), some (.int v1), some (.int (s.1 + 1)), none], [], (SH, s13.2, J)) rfl ?_
    have he := Option.some.inj h
    subst he
    exact zr_hdr (ls2 := [some (.ref 24), some (.int v1), some (.int (s.1 + 1)), none]) rfl rfl (show zRun X d 45 57 [some (.ref 24), some (.int v1), some (.int (s.1 + 1)), none] [] (SH, s13.2, J) r M' from w))
set_option maxRecDepth 100000 in
set_option maxHeartbeats 4000000 in
theorem ok_f45_go_24 {X : zX} {d : Nat} (hd : 5 ≤ d) (v1 : Int32) {I : (Nat → Nat → Int32)} {J : (Nat → Nat → Int64)} (t : (Nat → Nat → Int32)) (h : f45_go_24 v1 I = some t) : zRun X d 45 0 (zent 45 [.ref 24, .int v1]) [] (SH, I, J) none (SH, t, J) := by
  unfold f45_go_24 at h
  refine zr_steps 2 (2, [some (.ref 24), some (.int v1), some (.int 0), none], [], (SH, I, J)) rfl ?_
  obtain ⟨s6, ho7, h⟩ := zbind h
  refine zr_hdr (ls2 := [some (.ref 24), some (.int v1), some (.int 0), none]) rfl rfl ?_
  refine ok_f45_go_24_L2 (by omega) v1 5000 ((0 : Int32), I) s6 ho7 ?_
  show zRun X d 45 55 [some (.ref 24), some (.int v1), none, none] [] (SH, s6.2, J) _ _
  refine zr_steps 2 (57, [some (.ref 24), some (.int v1), some (.int 0), none], [], (SH, s6.2, J)) rfl ?_
  obtain ⟨s16, ho17, h⟩ := zbind h
  refine zr_hdr (ls2 := [some (.ref 24), some (.int v1), some (.int 0), none]) rfl rfl ?_
  refine ok_f45_go_24_L57 (by omega) v1 5000 ((0 : Int32), s6.2) s16 ho17 ?_
  show zRun X d 45 114 [none, none, none, none] [] (SH, s16.2, J) _ _
  have he := Option.some.inj h
  subst he
  exact zr_one (some (.inr (.inr none))) rfl (zR_ret rfl rfl)
def f48_end_24_L39 (s : (Int32 × (Nat → Nat → Int32))) : Option ((Int32 × (Nat → Nat → Int32)) ⊕ (Int32 × (Nat → Nat → Int32))) :=
  if (32 : Int32) ≤ s.1 then
    some (.inl (s.1, s.2))
  else
    bif zin s.1 32 then
    bif zin s.1 32 then
    bif zin s.1 32 then
    some (.inr ((s.1 + 1), (zu s.2 30 s.1.toNatClampNeg (zmin (s.2 30 s.1.toNatClampNeg) (s.2 28 s.1.toNatClampNeg)))))
    else none
    else none
    else none
def f48_end_24 (v1 : Int32) (I : (Nat → Nat → Int32)) : Option (Nat → Nat → Int32) :=
  bif zcpok 0 (v1 * 32) 32 32 1952 then
  if v1 < ((I 25 0) - (I 1 5)) then
    some (zcp I 28 33 0 (v1 * 32) 32)
  else
    Option.bind (zloop f48_end_24_L39 5000 ((0 : Int32), (zcp I 28 33 0 (v1 * 32) 32))) fun s6 =>
    some s6.2
  else none
set_option maxRecDepth 100000 in
set_option maxHeartbeats 4000000 in
theorem ok_f48_end_24_L39 {X : zX} {d : Nat} {r : Option Value} {M' : zM} (hd : 0 ≤ d) {J : (Nat → Nat → Int64)} : ∀ (n : Nat) (s x : (Int32 × (Nat → Nat → Int32))), zloop f48_end_24_L39 n s = some x → (fun (x : (Int32 × (Nat → Nat → Int32))) => zRun X d 48 72 [none, none, none] [] (SH, x.2, J) r M') x → (fun (s : (Int32 × (Nat → Nat → Int32))) => zRun X d 48 39 [some (.ref 24), none, some (.int s.1)] [] (SH, s.2, J) r M') s := zloop_ok (B := f48_end_24_L39) (Wh := fun (s : (Int32 × (Nat → Nat → Int32))) => zRun X d 48 39 [some (.ref 24), none, some (.int s.1)] [] (SH, s.2, J) r M') (Wx := fun (x : (Int32 × (Nat → Nat → Int32))) => zRun X d 48 72 [none, none, none] [] (SH, x.2, J) r M') (fun s y h w => by
  unfold f48_end_24_L39 at h
  refine zr_steps 2 (42, [some (.ref 24), none, some (.int s.1)], [.int 32, .int s.1], (SH, s.2, J)) rfl ?_
  refine zr_one (if (32 : Int32) ≤ s.1 then zN 72 [some (.ref 24), none, some (.int s.1)] [] (SH, s.2, J) else zN 45 [some (.ref 24), none, some (.int s.1)] [] (SH, s.2, J)) rfl (zR_if (fun hc5 => zR_go ?_) (fun hc5 => zR_go ?_))
  · rw [if_pos hc5] at h
    have he := Option.some.inj h
    subst he
    exact zr_hdv (ls2 := [none, none, none]) rfl rfl (show zRun X d 48 72 [none, none, none] [] (SH, s.2, J) r M' from w)
  · rw [if_neg hc5] at h
    refine zr_steps 6 (55, [some (.ref 24), none, some (.int s.1)], [.int s.1, .ref 30, .int s.1, .ref 30], (SH, s.2, J)) rfl ?_
    obtain ⟨hc2, h⟩ := zbifo h
    refine zr_one (bif zin s.1 32 then zN 56 [some (.ref 24), none, some (.int s.1)] [.int (s.2 30 s.1.toNatClampNeg), .int s.1, .ref 30] (SH, s.2, J) else none) rfl (zR_bif hc2 (zR_go ?_))
    refine zr_steps 3 (61, [some (.ref 24), none, some (.int s.1)], [.int s.1, .ref 28, .int (s.2 30 s.1.toNatClampNeg), .int s.1, .ref 30], (SH, s.2, J)) rfl ?_
    obtain ⟨hc3, h⟩ := zbifo h
    refine zr_one (bif zin s.1 32 then zN 62 [some (.ref 24), none, some (.int s.1)] [.int (s.2 28 s.1.toNatClampNeg), .int (s.2 30 s.1.toNatClampNeg), .int s.1, .ref 30] (SH, s.2, J) else none) rfl (zR_bif hc3 (zR_go ?_))
    refine zr_steps 1 (65, [some (.ref 24), none, some (.int s.1)], [.int (zmin (s.2 30 s.1.toNatClampNeg) (s.2 28 s.1.toNatClampNeg)), .int s.1, .ref 30], (SH, s.2, J)) rfl ?_
    obtain ⟨hc4, h⟩ := zbifo h
    refine zr_one (bif zin s.1 32 then zN 66 [some (.ref 24), none, some (.int s.1)] [] (SH, (zu s.2 30 s.1.toNatClampNeg (zmin (s.2 30 s.1.toNatClampNeg) (s.2 28 s.1.toNatClampNeg))), J) else none) rfl (zR_bif hc4 (zR_go ?_))
    refine zr_steps 2 (39, [some (.ref 24), none, some (.int (s.1 + 1))], [], (SH, (zu s.2 30 s.1.toNatClampNeg (zmin (s.2 30 s.1.toNatClampNeg) (s.2 28 s.1.toNatClampNeg))), J)) rfl ?_
    have he := Option.some.inj h
    subst he
    exact zr_hdr (ls2 := [some (.ref 24), none, some (.int (s.1 + 1))]) rfl rfl (show zRun X d 48 39 [some (.ref 24), none, some (.int (s.1 + 1))] [] (SH, (zu s.2 30 s.1.toNatClampNeg (zmin (s.2 30 s.1.toNatClampNeg) (s.2 28 s.1.toNatClampNeg))), J) r M' from w))
set_option maxRecDepth 100000 in
set_option maxHeartbeats 4000000 in
theorem ok_f48_end_24 {X : zX} {d : Nat} (hd : 0 ≤ d) (v1 : Int32) {I : (Nat → Nat → Int32)} {J : (Nat → Nat → Int64)} (t : (Nat → Nat → Int32)) (h : f48_end_24 v1 I = some t) : zRun X d 48 0 (zent 48 [.ref 24, .int v1]) [] (SH, I, J) none (SH, t, J) := by
  unfold f48_end_24 at h
  refine zr_steps 9 (15, [some (.ref 24), some (.int v1), none], [.int 32, .int (v1 * 32), .ref 33, .int 0, .ref 28], (SH, I, J)) rfl ?_
  obtain ⟨hc1, h⟩ := zbifo h
  refine zr_one (zcopy 15 [some (.ref 24), some (.int v1), none] [.int 32, .int (v1 * 32), .ref 33, .int 0, .ref 28] (SH, I, J)) rfl (zR_copy (na := 32) (nb := 1952) rfl rfl rfl rfl hc1 rfl ?_)
  refine zr_steps 8 (34, [some (.ref 24), some (.int v1), none], [.int ((I 25 0) - (I 1 5)), .int v1], (SH, (zcp I 28 33 0 (v1 * 32) 32), J)) rfl ?_
  refine zr_one (if v1 < ((I 25 0) - (I 1 5)) then zN 72 [some (.ref 24), some (.int v1), none] [] (SH, (zcp I 28 33 0 (v1 * 32) 32), J) else zN 37 [some (.ref 24), some (.int v1), none] [] (SH, (zcp I 28 33 0 (v1 * 32) 32), J)) rfl (zR_if (fun hc8 => zR_go ?_) (fun hc8 => zR_go ?_))
  · rw [if_pos hc8] at h
    have he := Option.some.inj h
    subst he
    exact zr_one (some (.inr (.inr none))) rfl (zR_ret rfl rfl)
  · rw [if_neg hc8] at h
    refine zr_steps 2 (39, [some (.ref 24), some (.int v1), some (.int 0)], [], (SH, (zcp I 28 33 0 (v1 * 32) 32), J)) rfl ?_
    obtain ⟨s6, ho7, h⟩ := zbind h
    refine zr_hdr (ls2 := [some (.ref 24), none, some (.int 0)]) rfl rfl ?_
    refine ok_f48_end_24_L39 (by omega) 5000 ((0 : Int32), (zcp I 28 33 0 (v1 * 32) 32)) s6 ho7 ?_
    show zRun X d 48 72 [none, none, none] [] (SH, s6.2, J) _ _
    have he := Option.some.inj h
    subst he
    exact zr_one (some (.inr (.inr none))) rfl (zR_ret rfl rfl)
def f74_wanting_L4 (v1 : Int32) (I : (Nat → Nat → Int32)) (s : (Int32 × Int32)) : Option ((Int32 × Int32) ⊕ (Int32 × Int32)) :=
  if (I 1 2) ≤ s.2 then
    some (.inl (s.1, s.2))
  else
    bif zin s.2 8 then
    if (I 9 s.2.toNatClampNeg) = v1 then
      bif zin s.2 8 then
      some (.inr ((s.1 + (I 8 s.2.toNatClampNeg)), (s.2 + 1)))
      else none
    else
      some (.inr ((s.1 + 0), (s.2 + 1)))
    else none
def f74_wanting (v1 : Int32) (I : (Nat → Nat → Int32)) : Option Int32 :=
  Option.bind (zloop (f74_wanting_L4 v1 I) 5000 ((0 : Int32), (0 : Int32))) fun s5 =>
  some s5.1
set_option maxRecDepth 100000 in
set_option maxHeartbeats 4000000 in
theorem ok_f74_wanting_L4 {X : zX} {d : Nat} {r : Option Value} {M' : zM} (hd : 0 ≤ d) (v1 : Int32) {I : (Nat → Nat → Int32)} {J : (Nat → Nat → Int64)} : ∀ (n : Nat) (s x : (Int32 × Int32)), zloop (f74_wanting_L4 v1 I) n s = some x → (fun (x : (Int32 × Int32)) => zRun X d 74 41 [none, none, some (.int x.1), none] [] (SH, I, J) r M') x → (fun (s : (Int32 × Int32)) => zRun X d 74 4 [some (.ref 1), some (.int v1), some (.int s.1), some (.int s.2)] [] (SH, I, J) r M') s := zloop_ok (B := (f74_wanting_L4 v1 I)) (Wh := fun (s : (Int32 × Int32)) => zRun X d 74 4 [some (.ref 1), some (.int v1), some (.int s.1), some (.int s.2)] [] (SH, I, J) r M') (Wx := fun (x : (Int32 × Int32)) => zRun X d 74 41 [none, none, some (.int x.1), none] [] (SH, I, J) r M') (fun s y h w => by
  unfold f74_wanting_L4 at h
  refine zr_steps 3 (9, [some (.ref 1), some (.int v1), some (.int s.1), some (.int s.2)], [.int (I 1 2), .int s.2], (SH, I, J)) rfl ?_
  refine zr_one (if (I 1 2) ≤ s.2 then zN 41 [some (.ref 1), some (.int v1), some (.int s.1), some (.int s.2)] [] (SH, I, J) else zN 12 [some (.ref 1), some (.int v1), some (.int s.1), some (.int s.2)] [] (SH, I, J)) rfl (zR_if (fun hc4 => zR_go ?_) (fun hc4 => zR_go ?_))
  · rw [if_pos hc4] at h
    have he := Option.some.inj h
    subst he
    exact zr_hdr (ls2 := [none, none, some (.int s.1), none]) rfl rfl (show zRun X d 74 41 [none, none, some (.int s.1), none] [] (SH, I, J) r M' from w)
  · rw [if_neg hc4] at h
    refine zr_steps 4 (18, [some (.ref 1), some (.int v1), some (.int s.1), some (.int s.2)], [.int s.2, .ref 9, .int s.1], (SH, I, J)) rfl ?_
    obtain ⟨hc1, h⟩ := zbifo h
    refine zr_one (bif zin s.2 8 then zN 19 [some (.ref 1), some (.int v1), some (.int s.1), some (.int s.2)] [.int (I 9 s.2.toNatClampNeg), .int s.1] (SH, I, J) else none) rfl (zR_bif hc1 (zR_go ?_))
    refine zr_steps 1 (20, [some (.ref 1), some (.int v1), some (.int s.1), some (.int s.2)], [.int v1, .int (I 9 s.2.toNatClampNeg), .int s.1], (SH, I, J)) rfl ?_
    refine zr_one (if (I 9 s.2.toNatClampNeg) = v1 then zN 23 [some (.ref 1), some (.int v1), some (.int s.1), some (.int s.2)] [.int s.1] (SH, I, J) else zN 32 [some (.ref 1), some (.int v1), some (.int s.1), some (.int s.2)] [.int s.1] (SH, I, J)) rfl (zR_if (fun hc3 => zR_go ?_) (fun hc3 => zR_go ?_))
    · rw [if_pos hc3] at h
      refine zr_steps 3 (28, [some (.ref 1), some (.int v1), some (.int s.1), some (.int s.2)], [.int s.2, .ref 8, .int s.1], (SH, I, J)) rfl ?_
      obtain ⟨hc2, h⟩ := zbifo h
      refine zr_one (bif zin s.2 8 then zN 29 [some (.ref 1), some (.int v1), some (.int s.1), some (.int s.2)] [.int (I 8 s.2.toNatClampNeg), .int s.1] (SH, I, J) else none) rfl (zR_bif hc2 (zR_go ?_))
      refine zr_steps 5 (4, [some (.ref 1), some (.int v1), some (.int (s.1 + (I 8 s.2.toNatClampNeg))), some (.int (s.2 + 1))], [], (SH, I, J)) rfl ?_
      have he := Option.some.inj h
      subst he
      exact zr_hdr (ls2 := [some (.ref 1), some (.int v1), some (.int (s.1 + (I 8 s.2.toNatClampNeg))), some (.int (s.2 + 1))]) rfl rfl (show zRun X d 74 4 [some (.ref 1), some (.int v1), some (.int (s.1 + (I 8 s.2.toNatClampNeg))), some (.int (s.2 + 1))] [] (SH, I, J) r M' from w)
    · rw [if_neg hc3] at h
      refine zr_steps 5 (4, [some (.ref 1), some (.int v1), some (.int (s.1 + 0)), some (.int (s.2 + 1))], [], (SH, I, J)) rfl ?_
      have he := Option.some.inj h
      subst he
      exact zr_hdr (ls2 := [some (.ref 1), some (.int v1), some (.int (s.1 + 0)), some (.int (s.2 + 1))]) rfl rfl (show zRun X d 74 4 [some (.ref 1), some (.int v1), some (.int (s.1 + 0)), some (.int (s.2 + 1))] [] (SH, I, J) r M' from w))
set_option maxRecDepth 100000 in
set_option maxHeartbeats 4000000 in
theorem ok_f74_wanting {X : zX} {d : Nat} (hd : 0 ≤ d) (v1 : Int32) {I : (Nat → Nat → Int32)} {J : (Nat → Nat → Int64)} (t : Int32) (h : f74_wanting v1 I = some t) : zRun X d 74 0 (zent 74 [.ref 1, .int v1]) [] (SH, I, J) (some (.int t)) (SH, I, J) := by
  unfold f74_wanting at h
  refine zr_steps 4 (4, [some (.ref 1), some (.int v1), some (.int 0), some (.int 0)], [], (SH, I, J)) rfl ?_
  obtain ⟨s5, ho6, h⟩ := zbind h
  refine zr_hdr (ls2 := [some (.ref 1), some (.int v1), some (.int 0), some (.int 0)]) rfl rfl ?_
  refine ok_f74_wanting_L4 (by omega) v1 5000 ((0 : Int32), (0 : Int32)) s5 ho6 ?_
  show zRun X d 74 41 [none, none, some (.int s5.1), none] [] (SH, I, J) _ _
  refine zr_steps 1 (42, [none, none, some (.int s5.1), none], [.int s5.1], (SH, I, J)) rfl ?_
  have he := Option.some.inj h
  subst he
  exact zr_one (some (.inr (.inr (some (.int s5.1))))) rfl (zR_ret rfl rfl)
def f73_people (I : (Nat → Nat → Int32)) : Option Int32 :=
  Option.bind (f74_wanting 0 I) fun t2 =>
  Option.bind (f74_wanting 1 I) fun t4 =>
  some (t2 + t4)
set_option maxRecDepth 100000 in
set_option maxHeartbeats 4000000 in
theorem ok_f73_people {X : zX} {d : Nat} (hd : 1 ≤ d) {I : (Nat → Nat → Int32)} {J : (Nat → Nat → Int64)} (t : Int32) (h : f73_people I = some t) : zRun X d 73 0 (zent 73 [.ref 1]) [] (SH, I, J) (some (.int t)) (SH, I, J) := by
  unfold f73_people at h
  refine zr_steps 2 (2, [some (.ref 1)], [.int 0, .ref 1], (SH, I, J)) rfl ?_
  obtain ⟨t2, hc1, h⟩ := zbind h
  refine zr_one (some (.inr (.inl (74, [.ref 1, .int 0], [], 5)))) rfl (zR_call (by omega) rfl (ok_f74_wanting (by omega) 0 _ hc1) ?_)
  refine zr_steps 2 (7, [some (.ref 1)], [.int 1, .ref 1, .int t2], (SH, I, J)) rfl ?_
  obtain ⟨t4, hc3, h⟩ := zbind h
  refine zr_one (some (.inr (.inl (74, [.ref 1, .int 1], [.int t2], 10)))) rfl (zR_call (by omega) rfl (ok_f74_wanting (by omega) 1 _ hc3) ?_)
  refine zr_steps 1 (11, [some (.ref 1)], [.int (t2 + t4)], (SH, I, J)) rfl ?_
  have he := Option.some.inj h
  subst he
  exact zr_one (some (.inr (.inr (some (.int (t2 + t4)))))) rfl (zR_ret rfl rfl)
