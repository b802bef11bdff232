def f170_go_L2 (v1 : Int32) (v2 : Int32) (s : (Int32 × (Nat → Nat → Int32))) : Option ((Int32 × (Nat → Nat → Int32)) ⊕ (Int32 × (Nat → Nat → Int32))) :=
  if (24 : Int32) ≤ s.1 then
    some (.inl (s.1, s.2))
  else
    bif zin s.1 24 then
    some (.inr ((s.1 + 1), (zu s.2 102 s.1.toNatClampNeg 0)))
    else none
def f170_go_L97 (v1 : Int32) (v2 : Int32) (v3 : Int32) (v4 : Int32) (v5 : Int32) (I : (Nat → Nat → Int32)) (s : (Int32 × Int32)) : Option ((Int32 × Int32) ⊕ (Int32 × Int32)) :=
  if (I 73 4) ≤ s.2 then
    some (.inl (s.1, s.2))
  else
    bif zin s.2 12 then
    bif zin s.2 12 then
    Option.bind (f169_doesLead (I 76 s.2.toNatClampNeg) (I 77 s.2.toNatClampNeg) v4 v5) fun t13 =>
    if t13 = 0 then
      some (.inr (s.1, (s.2 + 1)))
    else
      if s.1 < 0 then
        some (.inr (s.2, (s.2 + 1)))
      else
        bif zin s.2 12 then
        bif zin s.1 12 then
        if (I 78 s.1.toNatClampNeg) ≤ (I 78 s.2.toNatClampNeg) then
          some (.inr (s.1, (s.2 + 1)))
        else
          some (.inr (s.2, (s.2 + 1)))
        else none
        else none
    else none
    else none
def f170_go_L34 (v1 : Int32) (v2 : Int32) (v3 : Int32) (s : (Int32 × (Nat → Nat → Int32))) : Option ((Int32 × (Nat → Nat → Int32)) ⊕ (Int32 × (Nat → Nat → Int32))) :=
  if (s.2 73 1) ≤ s.1 then
    some (.inl (s.1, s.2))
  else
    bif zin ((8 * s.1) + v3) 32 then
    if (s.2 97 ((8 * s.1) + v3).toNatClampNeg) = 0 then
      some (.inr ((s.1 + 1), s.2))
    else
      Option.bind (f168_goal v3 s.1 v1 v2 s.2) fun t7 =>
      Option.bind (f130_isSquare t7.1 t7.2) fun t9 =>
      if t9 = 0 then
        some (.inr ((s.1 + 1), t7.2))
      else
        if t7.1 = s.1 then
          some (.inr ((s.1 + 1), t7.2))
        else
          Option.bind (zloop (f170_go_L97 v1 v2 v3 s.1 t7.1 t7.2) 5000 (((-1) : Int32), (0 : Int32))) fun s20 =>
          if (0 : Int32) ≤ s20.1 then
            bif zin s20.1 12 then
            if (t7.2 76 s20.1.toNatClampNeg) = s.1 then
              bif zin s20.1 12 then
              bif zin ((2 * s20.1) + 0) 24 then
              bif zin ((8 * s.1) + v3) 32 then
              if ((t7.2 79 s20.1.toNatClampNeg) - (t7.2 102 ((2 * s20.1) + 0).toNatClampNeg)) ≤ (t7.2 97 ((8 * s.1) + v3).toNatClampNeg) then
                bif zin ((2 * s20.1) + 0) 24 then
                bif zin ((2 * s20.1) + 0) 24 then
                bif zin ((8 * s.1) + v3) 32 then
                bif zin ((8 * s.1) + v3) 32 then
                bif zin s20.1 12 then
                bif zin v3 8 then
                bif zin (((32 * (v1 + ((t7.2 78 s20.1.toNatClampNeg) * (t7.2 83 v3.toNatClampNeg)))) + (8 * t7.1)) + v3) 4864 then
                bif zin (((32 * (v1 + ((t7.2 78 s20.1.toNatClampNeg) * (t7.2 83 v3.toNatClampNeg)))) + (8 * t7.1)) + v3) 4864 then
                some (.inr ((s.1 + 1), (zu (zu (zu t7.2 102 ((2 * s20.1) + 0).toNatClampNeg ((t7.2 102 ((2 * s20.1) + 0).toNatClampNeg) + ((t7.2 79 s20.1.toNatClampNeg) - (t7.2 102 ((2 * s20.1) + 0).toNatClampNeg)))) 97 ((8 * s.1) + v3).toNatClampNeg ((t7.2 97 ((8 * s.1) + v3).toNatClampNeg) - ((t7.2 79 s20.1.toNatClampNeg) - (t7.2 102 ((2 * s20.1) + 0).toNatClampNeg)))) 99 (((32 * (v1 + ((t7.2 78 s20.1.toNatClampNeg) * (t7.2 83 v3.toNatClampNeg)))) + (8 * t7.1)) + v3).toNatClampNeg ((t7.2 99 (((32 * (v1 + ((t7.2 78 s20.1.toNatClampNeg) * (t7.2 83 v3.toNatClampNeg)))) + (8 * t7.1)) + v3).toNatClampNeg) + ((t7.2 79 s20.1.toNatClampNeg) - (t7.2 102 ((2 * s20.1) + 0).toNatClampNeg))))))
                else none
                else none
                else none
                else none
                else none
                else none
                else none
                else none
              else
                bif zin ((8 * s.1) + v3) 32 then
                bif zin ((2 * s20.1) + 0) 24 then
                bif zin ((2 * s20.1) + 0) 24 then
                bif zin ((8 * s.1) + v3) 32 then
                bif zin ((8 * s.1) + v3) 32 then
                bif zin s20.1 12 then
                bif zin v3 8 then
                bif zin (((32 * (v1 + ((t7.2 78 s20.1.toNatClampNeg) * (t7.2 83 v3.toNatClampNeg)))) + (8 * t7.1)) + v3) 4864 then
                bif zin (((32 * (v1 + ((t7.2 78 s20.1.toNatClampNeg) * (t7.2 83 v3.toNatClampNeg)))) + (8 * t7.1)) + v3) 4864 then
                some (.inr ((s.1 + 1), (zu (zu (zu t7.2 102 ((2 * s20.1) + 0).toNatClampNeg ((t7.2 102 ((2 * s20.1) + 0).toNatClampNeg) + (t7.2 97 ((8 * s.1) + v3).toNatClampNeg))) 97 ((8 * s.1) + v3).toNatClampNeg ((t7.2 97 ((8 * s.1) + v3).toNatClampNeg) - (t7.2 97 ((8 * s.1) + v3).toNatClampNeg))) 99 (((32 * (v1 + ((t7.2 78 s20.1.toNatClampNeg) * (t7.2 83 v3.toNatClampNeg)))) + (8 * t7.1)) + v3).toNatClampNeg ((t7.2 99 (((32 * (v1 + ((t7.2 78 s20.1.toNatClampNeg) * (t7.2 83 v3.toNatClampNeg)))) + (8 * t7.1)) + v3).toNatClampNeg) + (t7.2 97 ((8 * s.1) + v3).toNatClampNeg)))))
                else none
                else none
                else none
                else none
                else none
                else none
                else none
                else none
                else none
              else none
              else none
              else none
            else
              bif zin s20.1 12 then
              bif zin ((2 * s20.1) + 1) 24 then
              bif zin ((8 * s.1) + v3) 32 then
              if ((t7.2 79 s20.1.toNatClampNeg) - (t7.2 102 ((2 * s20.1) + 1).toNatClampNeg)) ≤ (t7.2 97 ((8 * s.1) + v3).toNatClampNeg) then
                bif zin ((2 * s20.1) + 1) 24 then
                bif zin ((2 * s20.1) + 1) 24 then
                bif zin ((8 * s.1) + v3) 32 then
                bif zin ((8 * s.1) + v3) 32 then
                bif zin s20.1 12 then
                bif zin v3 8 then
                bif zin (((32 * (v1 + ((t7.2 78 s20.1.toNatClampNeg) * (t7.2 83 v3.toNatClampNeg)))) + (8 * t7.1)) + v3) 4864 then
                bif zin (((32 * (v1 + ((t7.2 78 s20.1.toNatClampNeg) * (t7.2 83 v3.toNatClampNeg)))) + (8 * t7.1)) + v3) 4864 then
                some (.inr ((s.1 + 1), (zu (zu (zu t7.2 102 ((2 * s20.1) + 1).toNatClampNeg ((t7.2 102 ((2 * s20.1) + 1).toNatClampNeg) + ((t7.2 79 s20.1.toNatClampNeg) - (t7.2 102 ((2 * s20.1) + 1).toNatClampNeg)))) 97 ((8 * s.1) + v3).toNatClampNeg ((t7.2 97 ((8 * s.1) + v3).toNatClampNeg) - ((t7.2 79 s20.1.toNatClampNeg) - (t7.2 102 ((2 * s20.1) + 1).toNatClampNeg)))) 99 (((32 * (v1 + ((t7.2 78 s20.1.toNatClampNeg) * (t7.2 83 v3.toNatClampNeg)))) + (8 * t7.1)) + v3).toNatClampNeg ((t7.2 99 (((32 * (v1 + ((t7.2 78 s20.1.toNatClampNeg) * (t7.2 83 v3.toNatClampNeg)))) + (8 * t7.1)) + v3).toNatClampNeg) + ((t7.2 79 s20.1.toNatClampNeg) - (t7.2 102 ((2 * s20.1) + 1).toNatClampNeg))))))
                else none
                else none
                else none
                else none
                else none
                else none
                else none
                else none
              else
                bif zin ((8 * s.1) + v3) 32 then
                bif zin ((2 * s20.1) + 1) 24 then
                bif zin ((2 * s20.1) + 1) 24 then
                bif zin ((8 * s.1) + v3) 32 then
                bif zin ((8 * s.1) + v3) 32 then
                bif zin s20.1 12 then
                bif zin v3 8 then
                bif zin (((32 * (v1 + ((t7.2 78 s20.1.toNatClampNeg) * (t7.2 83 v3.toNatClampNeg)))) + (8 * t7.1)) + v3) 4864 then
                bif zin (((32 * (v1 + ((t7.2 78 s20.1.toNatClampNeg) * (t7.2 83 v3.toNatClampNeg)))) + (8 * t7.1)) + v3) 4864 then
                some (.inr ((s.1 + 1), (zu (zu (zu t7.2 102 ((2 * s20.1) + 1).toNatClampNeg ((t7.2 102 ((2 * s20.1) + 1).toNatClampNeg) + (t7.2 97 ((8 * s.1) + v3).toNatClampNeg))) 97 ((8 * s.1) + v3).toNatClampNeg ((t7.2 97 ((8 * s.1) + v3).toNatClampNeg) - (t7.2 97 ((8 * s.1) + v3).toNatClampNeg))) 99 (((32 * (v1 + ((t7.2 78 s20.1.toNatClampNeg) * (t7.2 83 v3.toNatClampNeg)))) + (8 * t7.1)) + v3).toNatClampNeg ((t7.2 99 (((32 * (v1 + ((t7.2 78 s20.1.toNatClampNeg) * (t7.2 83 v3.toNatClampNeg)))) + (8 * t7.1)) + v3).toNatClampNeg) + (t7.2 97 ((8 * s.1) + v3).toNatClampNeg)))))
                else none
                else none
                else none
                else none
                else none
                else none
                else none
                else none
                else none
              else none
              else none
              else none
            else none
          else
            some (.inr ((s.1 + 1), t7.2))
    else none
def f170_go_L23 (v1 : Int32) (v2 : Int32) (s : (Int32 × (Nat → Nat → Int32))) : Option ((Int32 × (Nat → Nat → Int32)) ⊕ (Int32 × (Nat → Nat → Int32))) :=
  if (s.2 73 9) ≤ s.1 then
    some (.inl (s.1, s.2))
  else
    Option.bind (zloop (f170_go_L34 v1 v2 s.1) 5000 ((0 : Int32), s.2)) fun s71 =>
    some (.inr ((s.1 + 1), s71.2))
def f170_go (v1 : Int32) (v2 : Int32) (I : (Nat → Nat → Int32)) : Option (Nat → Nat → Int32) :=
  Option.bind (zloop (f170_go_L2 v1 v2) 5000 ((0 : Int32), I)) fun s3 =>
  Option.bind (zloop (f170_go_L23 v1 v2) 5000 ((0 : Int32), s3.2)) fun s74 =>
  some s74.2
set_option maxRecDepth 100000 in
set_option maxHeartbeats 4000000 in
theorem ok_f170_go_L2 {X : zX} {d : Nat} {r : Option Value} {M' : zM} (hd : 4 ≤ d) (v1 : Int32) (v2 : Int32) {J : (Nat → Nat → Int64)} : ∀ (n : Nat) (s x : (Int32 × (Nat → Nat → Int32))), zloop (f170_go_L2 v1 v2) n s = some x → (fun (x : (Int32 × (Nat → Nat → Int32))) => zRun X d 170 21 [some (.ref 73), some (.int v1), some (.int v2), none, none, none, none, none, none] [] (SH, x.2, J) r M') x → (fun (s : (Int32 × (Nat → Nat → Int32))) => zRun X d 170 2 [some (.ref 73), some (.int v1), some (.int v2), some (.int s.1), none, none, none, none, none] [] (SH, s.2, J) r M') s := zloop_ok (B := (f170_go_L2 v1 v2)) (Wh := fun (s : (Int32 × (Nat → Nat → Int32))) => zRun X d 170 2 [some (.ref 73), some (.int v1), some (.int v2), some (.int s.1), none, none, none, none, none] [] (SH, s.2, J) r M') (Wx := fun (x : (Int32 × (Nat → Nat → Int32))) => zRun X d 170 21 [some (.ref 73), some (.int v1), some (.int v2), none, none, none, none, none, none] [] (SH, x.2, J) r M') (fun s y h w => by
  unfold f170_go_L2 at h
  refine zr_steps 2 (5, [some (.ref 73), some (.int v1), some (.int v2), some (.int s.1), none, none, none, none, none], [.int 24, .int s.1], (SH, s.2, J)) rfl ?_
  refine zr_one (if (24 : Int32) ≤ s.1 then zN 21 [some (.ref 73), some (.int v1), some (.int v2), some (.int s.1), none, none, none, none, none] [] (SH, s.2, J) else zN 8 [some (.ref 73), some (.int v1), some (.int v2), some (.int s.1), none, none, none, none, none] [] (SH, s.2, J)) rfl (zR_if (fun hc2 => zR_go ?_) (fun hc2 => zR_go ?_))
  · rw [if_pos hc2] at h
    have he := Option.some.inj h
    subst he
    exact zr_hdr (ls2 := [some (.ref 73), some (.int v1), some (.int v2), none, none, none, none, none, none]) rfl rfl (show zRun X d 170 21 [some (.ref 73), some (.int v1), some (.int v2), none, none, none, none, none, none] [] (SH, s.2, J) r M' from w)
  · rw [if_neg hc2] at h
    refine zr_steps 4 (14, [some (.ref 73), some (.int v1), some (.int v2), some (.int s.1), none, none, none, none, none], [.int 0, .int s.1, .ref 102], (SH, s.2, J)) rfl ?_
    obtain ⟨hc1, h⟩ := zbifo h
    refine zr_one (bif zin s.1 24 then zN 15 [some (.ref 73), some (.int v1), some (.int v2), some (.int s.1), none, none, none, none, none] [] (SH, (zu s.2 102 s.1.toNatClampNeg 0), J) else none) rfl (zR_bif hc1 (zR_go ?_))
    refine zr_steps 2 (2, [some (.ref 73), some (.int v1), some (.int v2), some (.int (s.1 + 1)), none, none, none, none, none], [], (SH, (zu s.2 102 s.1.toNatClampNeg 0), J)) rfl ?_
    have he := Option.some.inj h
    subst he
    exact zr_hdr (ls2 := [some (.ref 73), some (.int v1), some (.int v2), some (.int (s.1 + 1)), none, none, none, none, none]) rfl rfl (show zRun X d 170 2 [some (.ref 73), some (.int v1), some (.int v2), some (.int (s.1 + 1)), none, none, none, none, none] [] (SH, (zu s.2 102 s.1.toNatClampNeg 0), J) r M' from w))
set_option maxRecDepth 100000 in
set_option maxHeartbeats 4000000 in
theorem ok_f170_go_L97 {X : zX} {d : Nat} {r : Option Value} {M' : zM} (hd : 4 ≤ d) (v1 : Int32) (v2 : Int32) (v3 : Int32) (v4 : Int32) (v5 : Int32) {I : (Nat → Nat → Int32)} {J : (Nat → Nat → Int64)} : ∀ (n : Nat) (s x : (Int32 × Int32)), zloop (f170_go_L97 v1 v2 v3 v4 v5 I) n s = some x → (fun (x : (Int32 × Int32)) => zRun X d 170 162 [some (.ref 73), some (.int v1), some (.int v2), some (.int v3), some (.int v4), some (.int v5), some (.int x.1), none, none] [] (SH, I, J) r M') x → (fun (s : (Int32 × Int32)) => zRun X d 170 97 [some (.ref 73), some (.int v1), some (.int v2), some (.int v3), some (.int v4), some (.int v5), some (.int s.1), some (.int s.2), none] [] (SH, I, J) r M') s := zloop_ok (B := (f170_go_L97 v1 v2 v3 v4 v5 I)) (Wh := fun (s : (Int32 × Int32)) => zRun X d 170 97 [some (.ref 73), some (.int v1), some (.int v2), some (.int v3), some (.int v4), some (.int v5), some (.int s.1), some (.int s.2), none] [] (SH, I, J) r M') (Wx := fun (x : (Int32 × Int32)) => zRun X d 170 162 [some (.ref 73), some (.int v1), some (.int v2), some (.int v3), some (.int v4), some (.int v5), some (.int x.1), none, none] [] (SH, I, J) r M') (fun s y h w => by
  unfold f170_go_L97 at h
  refine zr_steps 3 (103, [some (.ref 73), some (.int v1), some (.int v2), some (.int v3), some (.int v4), some (.int v5), some (.int s.1), some (.int s.2), none], [.int (I 73 4), .int s.2], (SH, I, J)) rfl ?_
  refine zr_one (if (I 73 4) ≤ s.2 then zN 162 [some (.ref 73), some (.int v1), some (.int v2), some (.int v3), some (.int v4), some (.int v5), some (.int s.1), some (.int s.2), none] [] (SH, I, J) else zN 106 [some (.ref 73), some (.int v1), some (.int v2), some (.int v3), some (.int v4), some (.int v5), some (.int s.1), some (.int s.2), none] [] (SH, I, J)) rfl (zR_if (fun hc19 => zR_go ?_) (fun hc19 => zR_go ?_))
  · rw [if_pos hc19] at h
    have he := Option.some.inj h
    subst he
    exact zr_hdr (ls2 := [some (.ref 73), some (.int v1), some (.int v2), some (.int v3), some (.int v4), some (.int v5), some (.int s.1), none, none]) rfl rfl (show zRun X d 170 162 [some (.ref 73), some (.int v1), some (.int v2), some (.int v3), some (.int v4), some (.int v5), some (.int s.1), none, none] [] (SH, I, J) r M' from w)
  · rw [if_neg hc19] at h
    refine zr_steps 3 (112, [some (.ref 73), some (.int v1), some (.int v2), some (.int v3), some (.int v4), some (.int v5), some (.int s.1), some (.int s.2), none], [.int s.2, .ref 76], (SH, I, J)) rfl ?_
    obtain ⟨hc10, h⟩ := zbifo h
    refine zr_one (bif zin s.2 12 then zN 113 [some (.ref 73), some (.int v1), some (.int v2), some (.int v3), some (.int v4), some (.int v5), some (.int s.1), some (.int s.2), none] [.int (I 76 s.2.toNatClampNeg)] (SH, I, J) else none) rfl (zR_bif hc10 (zR_go ?_))
    refine zr_steps 3 (119, [some (.ref 73), some (.int v1), some (.int v2), some (.int v3), some (.int v4), some (.int v5), some (.int s.1), some (.int s.2), none], [.int s.2, .ref 77, .int (I 76 s.2.toNatClampNeg)], (SH, I, J)) rfl ?_
    obtain ⟨hc11, h⟩ := zbifo h
    refine zr_one (bif zin s.2 12 then zN 120 [some (.ref 73), some (.int v1), some (.int v2), some (.int v3), some (.int v4), some (.int v5), some (.int s.1), some (.int s.2), none] [.int (I 77 s.2.toNatClampNeg), .int (I 76 s.2.toNatClampNeg)] (SH, I, J) else none) rfl (zR_bif hc11 (zR_go ?_))
    refine zr_steps 2 (124, [some (.ref 73), some (.int v1), some (.int v2), some (.int v3), some (.int v4), some (.int v5), some (.int s.1), some (.int s.2), none], [.int v5, .int v4, .int (I 77 s.2.toNatClampNeg), .int (I 76 s.2.toNatClampNeg)], (SH, I, J)) rfl ?_
    obtain ⟨t13, hc12, h⟩ := zbind h
    refine zr_one (some (.inr (.inl (169, [.int (I 76 s.2.toNatClampNeg), .int (I 77 s.2.toNatClampNeg), .int v4, .int v5], [], 127)))) rfl (zR_call (by omega) rfl (ok_f169_doesLead (by omega) (I 76 s.2.toNatClampNeg) (I 77 s.2.toNatClampNeg) v4 v5 _ hc12) ?_)
    refine zr_one (if t13 = 0 then zN 156 [some (.ref 73), some (.int v1), some (.int v2), some (.int v3), some (.int v4), some (.int v5), some (.int s.1), some (.int s.2), none] [] (SH, I, J) else zN 130 [some (.ref 73), some (.int v1), some (.int v2), some (.int v3), some (.int v4), some (.int v5), some (.int s.1), some (.int s.2), none] [] (SH, I, J)) rfl (zR_if (fun hc18 => zR_go ?_) (fun hc18 => zR_go ?_))
    · rw [if_pos hc18] at h
      refine zr_steps 2 (97, [some (.ref 73), some (.int v1), some (.int v2), some (.int v3), some (.int v4), some (.int v5), some (.int s.1), some (.int (s.2 + 1)), none], [], (SH, I, J)) rfl ?_
      have he := Option.some.inj h
      subst he
      exact zr_hdr (ls2 := [some (.ref 73), some (.int v1), some (.int v2), some (.int v3), some (.int v4), some (.int v5), some (.int s.1), some (.int (s.2 + 1)), none]) rfl rfl (show zRun X d 170 97 [some (.ref 73), some (.int v1), some (.int v2), some (.int v3), some (.int v4), some (.int v5), some (.int s.1), some (.int (s.2 + 1)), none] [] (SH, I, J) r M' from w)
    · rw [if_neg hc18] at h
      refine zr_steps 1 (132, [some (.ref 73), some (.int v1), some (.int v2), some (.int v3), some (.int v4), some (.int v5), some (.int s.1), some (.int s.2), none], [.int s.1], (SH, I, J)) rfl ?_
      refine zr_one (if s.1 < 0 then zN 152 [some (.ref 73), some (.int v1), some (.int v2), some (.int v3), some (.int v4), some (.int v5), some (.int s.1), some (.int s.2), none] [] (SH, I, J) else zN 135 [some (.ref 73), some (.int v1), some (.int v2), some (.int v3), some (.int v4), some (.int v5), some (.int s.1), some (.int s.2), none] [] (SH, I, J)) rfl (zR_if (fun hc17 => zR_go ?_) (fun hc17 => zR_go ?_))
      · rw [if_pos hc17] at h
        refine zr_steps 4 (97, [some (.ref 73), some (.int v1), some (.int v2), some (.int v3), some (.int v4), some (.int v5), some (.int s.2), some (.int (s.2 + 1)), none], [], (SH, I, J)) rfl ?_
        have he := Option.some.inj h
        subst he
        exact zr_hdr (ls2 := [some (.ref 73), some (.int v1), some (.int v2), some (.int v3), some (.int v4), some (.int v5), some (.int s.2), some (.int (s.2 + 1)), none]) rfl rfl (show zRun X d 170 97 [some (.ref 73), some (.int v1), some (.int v2), some (.int v3), some (.int v4), some (.int v5), some (.int s.2), some (.int (s.2 + 1)), none] [] (SH, I, J) r M' from w)
      · rw [if_neg hc17] at h
        refine zr_steps 3 (141, [some (.ref 73), some (.int v1), some (.int v2), some (.int v3), some (.int v4), some (.int v5), some (.int s.1), some (.int s.2), none], [.int s.2, .ref 78], (SH, I, J)) rfl ?_
        obtain ⟨hc14, h⟩ := zbifo h
        refine zr_one (bif zin s.2 12 then zN 142 [some (.ref 73), some (.int v1), some (.int v2), some (.int v3), some (.int v4), some (.int v5), some (.int s.1), some (.int s.2), none] [.int (I 78 s.2.toNatClampNeg)] (SH, I, J) else none) rfl (zR_bif hc14 (zR_go ?_))
        refine zr_steps 3 (148, [some (.ref 73), some (.int v1), some (.int v2), some (.int v3), some (.int v4), some (.int v5), some (.int s.1), some (.int s.2), none], [.int s.1, .ref 78, .int (I 78 s.2.toNatClampNeg)], (SH, I, J)) rfl ?_
        obtain ⟨hc15, h⟩ := zbifo h
        refine zr_one (bif zin s.1 12 then zN 149 [some (.ref 73), some (.int v1), some (.int v2), some (.int v3), some (.int v4), some (.int v5), some (.int s.1), some (.int s.2), none] [.int (I 78 s.1.toNatClampNeg), .int (I 78 s.2.toNatClampNeg)] (SH, I, J) else none) rfl (zR_bif hc15 (zR_go ?_))
        refine zr_one (if (I 78 s.1.toNatClampNeg) ≤ (I 78 s.2.toNatClampNeg) then zN 156 [some (.ref 73), some (.int v1), some (.int v2), some (.int v3), some (.int v4), some (.int v5), some (.int s.1), some (.int s.2), none] [] (SH, I, J) else zN 152 [some (.ref 73), some (.int v1), some (.int v2), some (.int v3), some (.int v4), some (.int v5), some (.int s.1), some (.int s.2), none] [] (SH, I, J)) rfl (zR_if (fun hc16 => zR_go ?_) (fun hc16 => zR_go ?_))
        · rw [if_pos hc16] at h
          refine zr_steps 2 (97, [some (.ref 73), some (.int v1), some (.int v2), some (.int v3), some (.int v4), some (.int v5), some (.int s.1), some (.int (s.2 + 1)), none], [], (SH, I, J)) rfl ?_
          have he := Option.some.inj h
          subst he
          exact zr_hdr (ls2 := [some (.ref 73), some (.int v1), some (.int v2), some (.int v3), some (.int v4), some (.int v5), some (.int s.1), some (.int (s.2 + 1)), none]) rfl rfl (show zRun X d 170 97 [some (.ref 73), some (.int v1), some (.int v2), some (.int v3), some (.int v4), some (.int v5), some (.int s.1), some (.int (s.2 + 1)), none] [] (SH, I, J) r M' from w)
        · rw [if_neg hc16] at h
          refine zr_steps 4 (97, [some (.ref 73), some (.int v1), some (.int v2), some (.int v3), some (.int v4), some (.int v5), some (.int s.2), some (.int (s.2 + 1)), none], [], (SH, I, J)) rfl ?_
          have he := Option.some.inj h
          subst he
          exact zr_hdr (ls2 := [some (.ref 73), some (.int v1), some (.int v2), some (.int v3), some (.int v4), some (.int v5), some (.int s.2), some (.int (s.2 + 1)), none]) rfl rfl (show zRun X d 170 97 [some (.ref 73), some (.int v1), some (.int v2), some (.int v3), some (.int v4), some (.int v5), some (.int s.2), some (.int (s.2 + 1)), none] [] (SH, I, J) r M' from w))
set_option maxRecDepth 100000 in
set_option maxHeartbeats 4000000 in
theorem ok_f170_go_L34 {X : zX} {d : Nat} {r : Option Value} {M' : zM} (hd : 4 ≤ d) (v1 : Int32) (v2 : Int32) (v3 : Int32) {J : (Nat → Nat → Int64)} : ∀ (n : Nat) (s x : (Int32 × (Nat → Nat → Int32))), zloop (f170_go_L34 v1 v2 v3) n s = some x → (fun (x : (Int32 × (Nat → Nat → Int32))) => zRun X d 170 314 [some (.ref 73), some (.int v1), some (.int v2), some (.int v3), none, none, none, none, none] [] (SH, x.2, J) r M') x → (fun (s : (Int32 × (Nat → Nat → Int32))) => zRun X d 170 34 [some (.ref 73), some (.int v1), some (.int v2), some (.int v3), some (.int s.1), none, none, none, none] [] (SH, s.2, J) r M') s := zloop_ok (B := (f170_go_L34 v1 v2 v3)) (Wh := fun (s : (Int32 × (Nat → Nat → Int32))) => zRun X d 170 34 [some (.ref 73), some (.int v1), some (.int v2), some (.int v3), some (.int s.1), none, none, none, none] [] (SH, s.2, J) r M') (Wx := fun (x : (Int32 × (Nat → Nat → Int32))) => zRun X d 170 314 [some (.ref 73), some (.int v1), some (.int v2), some (.int v3), none, none, none, none, none] [] (SH, x.2, J) r M') (fun s y h w => by
  unfold f170_go_L34 at h
  refine zr_steps 3 (40, [some (.ref 73), some (.int v1), some (.int v2), some (.int v3), some (.int s.1), none, none, none, none], [.int (s.2 73 1), .int s.1], (SH, s.2, J)) rfl ?_
  refine zr_one (if (s.2 73 1) ≤ s.1 then zN 314 [some (.ref 73), some (.int v1), some (.int v2), some (.int v3), some (.int s.1), none, none, none, none] [] (SH, s.2, J) else zN 43 [some (.ref 73), some (.int v1), some (.int v2), some (.int v3), some (.int s.1), none, none, none, none] [] (SH, s.2, J)) rfl (zR_if (fun hc70 => zR_go ?_) (fun hc70 => zR_go ?_))
  · rw [if_pos hc70] at h
    have he := Option.some.inj h
    subst he
    exact zr_hdr (ls2 := [some (.ref 73), some (.int v1), some (.int v2), some (.int v3), none, none, none, none, none]) rfl rfl (show zRun X d 170 314 [some (.ref 73), some (.int v1), some (.int v2), some (.int v3), none, none, none, none, none] [] (SH, s.2, J) r M' from w)
  · rw [if_neg hc70] at h
    refine zr_steps 7 (54, [some (.ref 73), some (.int v1), some (.int v2), some (.int v3), some (.int s.1), none, none, none, none], [.int ((8 * s.1) + v3), .ref 97], (SH, s.2, J)) rfl ?_
    obtain ⟨hc5, h⟩ := zbifo h
    refine zr_one (bif zin ((8 * s.1) + v3) 32 then zN 55 [some (.ref 73), some (.int v1), some (.int v2), some (.int v3), some (.int s.1), none, none, none, none] [.int (s.2 97 ((8 * s.1) + v3).toNatClampNeg)] (SH, s.2, J) else none) rfl (zR_bif hc5 (zR_go ?_))
    refine zr_one (if (s.2 97 ((8 * s.1) + v3).toNatClampNeg) = 0 then zN 58 [some (.ref 73), some (.int v1), some (.int v2), some (.int v3), some (.int s.1), none, none, none, none] [] (SH, s.2, J) else zN 61 [some (.ref 73), some (.int v1), some (.int v2), some (.int v3), some (.int s.1), none, none, none, none] [] (SH, s.2, J)) rfl (zR_if (fun hc69 => zR_go ?_) (fun hc69 => zR_go ?_))
    · rw [if_pos hc69] at h
      refine zr_steps 3 (34, [some (.ref 73), some (.int v1), some (.int v2), some (.int v3), some (.int (s.1 + 1)), none, none, none, none], [], (SH, s.2, J)) rfl ?_
      have he := Option.some.inj h
      subst he
      exact zr_hdr (ls2 := [some (.ref 73), some (.int v1), some (.int v2), some (.int v3), some (.int (s.1 + 1)), none, none, none, none]) rfl rfl (show zRun X d 170 34 [some (.ref 73), some (.int v1), some (.int v2), some (.int v3), some (.int (s.1 + 1)), none, none, none, none] [] (SH, s.2, J) r M' from w)
    · rw [if_neg hc69] at h
      refine zr_steps 5 (67, [some (.ref 73), some (.int v1), some (.int v2), some (.int v3), some (.int s.1), none, none, none, none], [.int v2, .int v1, .int s.1, .int v3, .ref 73], (SH, s.2, J)) rfl ?_
      obtain ⟨t7, hc6, h⟩ := zbind h
      refine zr_one (some (.inr (.inl (168, [.ref 73, .int v3, .int s.1, .int v1, .int v2], [], 70)))) rfl (zR_call (by omega) rfl (ok_f168_goal (by omega) v3 s.1 v1 v2 _ hc6) ?_)
      refine zr_steps 3 (75, [some (.ref 73), some (.int v1), some (.int v2), some (.int v3), some (.int s.1), some (.int t7.1), none, none, none], [.int t7.1, .ref 73], (SH, t7.2, J)) rfl ?_
      obtain ⟨t9, hc8, h⟩ := zbind h
      refine zr_one (some (.inr (.inl (130, [.ref 73, .int t7.1], [], 78)))) rfl (zR_call (by omega) rfl (ok_f130_isSquare (by omega) t7.1 _ hc8) ?_)
      refine zr_one (if t9 = 0 then zN 308 [some (.ref 73), some (.int v1), some (.int v2), some (.int v3), some (.int s.1), some (.int t7.1), none, none, none] [] (SH, t7.2, J) else zN 81 [some (.ref 73), some (.int v1), some (.int v2), some (.int v3), some (.int s.1), some (.int t7.1), none, none, none] [] (SH, t7.2, J)) rfl (zR_if (fun hc68 => zR_go ?_) (fun hc68 => zR_go ?_))
      · rw [if_pos hc68] at h
        refine zr_steps 2 (34, [some (.ref 73), some (.int v1), some (.int v2), some (.int v3), some (.int (s.1 + 1)), some (.int t7.1), none, none, none], [], (SH, t7.2, J)) rfl ?_
        have he := Option.some.inj h
        subst he
        exact zr_hdr (ls2 := [some (.ref 73), some (.int v1), some (.int v2), some (.int v3), some (.int (s.1 + 1)), none, none, none, none]) rfl rfl (show zRun X d 170 34 [some (.ref 73), some (.int v1), some (.int v2), some (.int v3), some (.int (s.1 + 1)), none, none, none, none] [] (SH, t7.2, J) r M' from w)
      · rw [if_neg hc68] at h
        refine zr_steps 2 (85, [some (.ref 73), some (.int v1), some (.int v2), some (.int v3), some (.int s.1), some (.int t7.1), none, none, none], [.int s.1, .int t7.1], (SH, t7.2, J)) rfl ?_
        refine zr_one (if t7.1 = s.1 then zN 88 [some (.ref 73), some (.int v1), some (.int v2), some (.int v3), some (.int s.1), some (.int t7.1), none, none, none] [] (SH, t7.2, J) else zN 91 [some (.ref 73), some (.int v1), some (.int v2), some (.int v3), some (.int s.1), some (.int t7.1), none, none, none] [] (SH, t7.2, J)) rfl (zR_if (fun hc67 => zR_go ?_) (fun hc67 => zR_go ?_))
        · rw [if_pos hc67] at h
          refine zr_steps 3 (34, [some (.ref 73), some (.int v1), some (.int v2), some (.int v3), some (.int (s.1 + 1)), some (.int t7.1), none, none, none], [], (SH, t7.2, J)) rfl ?_
          have he := Option.some.inj h
          subst he
          exact zr_hdr (ls2 := [some (.ref 73), some (.int v1), some (.int v2), some (.int v3), some (.int (s.1 + 1)), none, none, none, none]) rfl rfl (show zRun X d 170 34 [some (.ref 73), some (.int v1), some (.int v2), some (.int v3), some (.int (s.1 + 1)), none, none, none, none] [] (SH, t7.2, J) r M' from w)
        · rw [if_neg hc67] at h
          refine zr_steps 4 (97, [some (.ref 73), some (.int v1), some (.int v2), some (.int v3), some (.int s.1), some (.int t7.1), some (.int (-1)), some (.int 0), none], [], (SH, t7.2, J)) rfl ?_
          obtain ⟨s20, ho21, h⟩ := zbind h
          refine zr_hdr (ls2 := [some (.ref 73), some (.int v1), some (.int v2), some (.int v3), some (.int s.1), some (.int t7.1), some (.int (-1)), some (.int 0), none]) rfl rfl ?_
          refine ok_f170_go_L97 (by omega) v1 v2 v3 s.1 t7.1 5000 (((-1) : Int32), (0 : Int32)) s20 ho21 ?_
          show zRun X d 170 162 [some (.ref 73), some (.int v1), some (.int v2), some (.int v3), some (.int s.1), some (.int t7.1), some (.int s20.1), none, none] [] (SH, t7.2, J) _ _
          refine zr_steps 1 (164, [some (.ref 73), some (.int v1), some (.int v2), some (.int v3), some (.int s.1), some (.int t7.1), some (.int s20.1), none, none], [.int s20.1], (SH, t7.2, J)) rfl ?_
          refine zr_one (if (0 : Int32) ≤ s20.1 then zN 170 [some (.ref 73), some (.int v1), some (.int v2), some (.int v3), some (.int s.1), some (.int t7.1), some (.int s20.1), none, none] [] (SH, t7.2, J) else zN 167 [some (.ref 73), some (.int v1), some (.int v2), some (.int v3), some (.int s.1), some (.int t7.1), some (.int s20.1), none, none] [] (SH, t7.2, J)) rfl (zR_if (fun hc66 => zR_go ?_) (fun hc66 => zR_go ?_))
          · rw [if_pos hc66] at h
            refine zr_steps 6 (180, [some (.ref 73), some (.int v1), some (.int v2), some (.int v3), some (.int s.1), some (.int t7.1), some (.int s20.1), none, none], [.int s20.1, .ref 76, .int (2 * s20.1)], (SH, t7.2, J)) rfl ?_
            obtain ⟨hc22, h⟩ := zbifo h
            refine zr_one (bif zin s20.1 12 then zN 181 [some (.ref 73), some (.int v1), some (.int v2), some (.int v3), some (.int s.1), some (.int t7.1), some (.int s20.1), none, none] [.int (t7.2 76 s20.1.toNatClampNeg), .int (2 * s20.1)] (SH, t7.2, J) else none) rfl (zR_bif hc22 (zR_go ?_))
            refine zr_steps 1 (183, [some (.ref 73), some (.int v1), some (.int v2), some (.int v3), some (.int s.1), some (.int t7.1), some (.int s20.1), none, none], [.int s.1, .int (t7.2 76 s20.1.toNatClampNeg), .int (2 * s20.1)], (SH, t7.2, J)) rfl ?_
            refine zr_one (if (t7.2 76 s20.1.toNatClampNeg) = s.1 then zN 186 [some (.ref 73), some (.int v1), some (.int v2), some (.int v3), some (.int s.1), some (.int t7.1), some (.int s20.1), none, none] [.int (2 * s20.1)] (SH, t7.2, J) else zN 190 [some (.ref 73), some (.int v1), some (.int v2), some (.int v3), some (.int s.1), some (.int t7.1), some (.int s20.1), none, none] [.int (2 * s20.1)] (SH, t7.2, J)) rfl (zR_if (fun hc65 => zR_go ?_) (fun hc65 => zR_go ?_))
            · rw [if_pos hc65] at h
              refine zr_steps 7 (200, [some (.ref 73), some (.int v1), some (.int v2), some (.int v3), some (.int s.1), some (.int t7.1), some (.int s20.1), some (.int ((2 * s20.1) + 0)), none], [.int s20.1, .ref 79], (SH, t7.2, J)) rfl ?_
              obtain ⟨hc23, h⟩ := zbifo h
              refine zr_one (bif zin s20.1 12 then zN 201 [some (.ref 73), some (.int v1), some (.int v2), some (.int v3), some (.int s.1), some (.int t7.1), some (.int s20.1), some (.int ((2 * s20.1) + 0)), none] [.int (t7.2 79 s20.1.toNatClampNeg)] (SH, t7.2, J) else none) rfl (zR_bif hc23 (zR_go ?_))
              refine zr_steps 3 (207, [some (.ref 73), some (.int v1), some (.int v2), some (.int v3), some (.int s.1), some (.int t7.1), some (.int s20.1), some (.int ((2 * s20.1) + 0)), none], [.int ((2 * s20.1) + 0), .ref 102, .int (t7.2 79 s20.1.toNatClampNeg)], (SH, t7.2, J)) rfl ?_
              obtain ⟨hc24, h⟩ := zbifo h
              refine zr_one (bif zin ((2 * s20.1) + 0) 24 then zN 208 [some (.ref 73), some (.int v1), some (.int v2), some (.int v3), some (.int s.1), some (.int t7.1), some (.int s20.1), some (.int ((2 * s20.1) + 0)), none] [.int (t7.2 102 ((2 * s20.1) + 0).toNatClampNeg), .int (t7.2 79 s20.1.toNatClampNeg)] (SH, t7.2, J) else none) rfl (zR_bif hc24 (zR_go ?_))
              refine zr_steps 9 (222, [some (.ref 73), some (.int v1), some (.int v2), some (.int v3), some (.int s.1), some (.int t7.1), some (.int s20.1), some (.int ((2 * s20.1) + 0)), some (.int ((t7.2 79 s20.1.toNatClampNeg) - (t7.2 102 ((2 * s20.1) + 0).toNatClampNeg)))], [.int ((8 * s.1) + v3), .ref 97], (SH, t7.2, J)) rfl ?_
              obtain ⟨hc25, h⟩ := zbifo h
              refine zr_one (bif zin ((8 * s.1) + v3) 32 then zN 223 [some (.ref 73), some (.int v1), some (.int v2), some (.int v3), some (.int s.1), some (.int t7.1), some (.int s20.1), some (.int ((2 * s20.1) + 0)), some (.int ((t7.2 79 s20.1.toNatClampNeg) - (t7.2 102 ((2 * s20.1) + 0).toNatClampNeg)))] [.int (t7.2 97 ((8 * s.1) + v3).toNatClampNeg)] (SH, t7.2, J) else none) rfl (zR_bif hc25 (zR_go ?_))
              refine zr_steps 1 (225, [some (.ref 73), some (.int v1), some (.int v2), some (.int v3), some (.int s.1), some (.int t7.1), some (.int s20.1), some (.int ((2 * s20.1) + 0)), some (.int ((t7.2 79 s20.1.toNatClampNeg) - (t7.2 102 ((2 * s20.1) + 0).toNatClampNeg)))], [.int ((t7.2 79 s20.1.toNatClampNeg) - (t7.2 102 ((2 * s20.1) + 0).toNatClampNeg)), .int (t7.2 97 ((8 * s.1) + v3).toNatClampNeg)], (SH, t7.2, J)) rfl ?_
              refine zr_one (if ((t7.2 79 s20.1.toNatClampNeg) - (t7.2 102 ((2 * s20.1) + 0).toNatClampNeg)) ≤ (t7.2 97 ((8 * s.1) + v3).toNatClampNeg) then zN 242 [some (.ref 73), some (.int v1), some (.int v2), some (.int v3), some (.int s.1), some (.int t7.1), some (.int s20.1), some (.int ((2 * s20.1) + 0)), some (.int ((t7.2 79 s20.1.toNatClampNeg) - (t7.2 102 ((2 * s20.1) + 0).toNatClampNeg)))] [] (SH, t7.2, J) else zN 228 [some (.ref 73), some (.int v1), some (.int v2), some (.int v3), some (.int s.1), some (.int t7.1), some (.int s20.1), some (.int ((2 * s20.1) + 0)), some (.int ((t7.2 79 s20.1.toNatClampNeg) - (t7.2 102 ((2 * s20.1) + 0).toNatClampNeg)))] [] (SH, t7.2, J)) rfl (zR_if (fun hc43 => zR_go ?_) (fun hc43 => zR_go ?_))
              · rw [if_pos hc43] at h
                refine zr_steps 4 (249, [some (.ref 73), some (.int v1), some (.int v2), some (.int v3), some (.int s.1), some (.int t7.1), some (.int s20.1), some (.int ((2 * s20.1) + 0)), some (.int ((t7.2 79 s20.1.toNatClampNeg) - (t7.2 102 ((2 * s20.1) + 0).toNatClampNeg)))], [.int ((2 * s20.1) + 0), .ref 102, .int ((2 * s20.1) + 0), .ref 102], (SH, t7.2, J)) rfl ?_
                obtain ⟨hc26, h⟩ := zbifo h
                refine zr_one (bif zin ((2 * s20.1) + 0) 24 then zN 250 [some (.ref 73), some (.int v1), some (.int v2), some (.int v3), some (.int s.1), some (.int t7.1), some (.int s20.1), some (.int ((2 * s20.1) + 0)), some (.int ((t7.2 79 s20.1.toNatClampNeg) - (t7.2 102 ((2 * s20.1) + 0).toNatClampNeg)))] [.int (t7.2 102 ((2 * s20.1) + 0).toNatClampNeg), .int ((2 * s20.1) + 0), .ref 102] (SH, t7.2, J) else none) rfl (zR_bif hc26 (zR_go ?_))
                refine zr_steps 2 (253, [some (.ref 73), some (.int v1), some (.int v2), some (.int v3), some (.int s.1), some (.int t7.1), some (.int s20.1), some (.int ((2 * s20.1) + 0)), some (.int ((t7.2 79 s20.1.toNatClampNeg) - (t7.2 102 ((2 * s20.1) + 0).toNatClampNeg)))], [.int ((t7.2 102 ((2 * s20.1) + 0).toNatClampNeg) + ((t7.2 79 s20.1.toNatClampNeg) - (t7.2 102 ((2 * s20.1) + 0).toNatClampNeg))), .int ((2 * s20.1) + 0), .ref 102], (SH, t7.2, J)) rfl ?_
                obtain ⟨hc27, h⟩ := zbifo h
                refine zr_one (bif zin ((2 * s20.1) + 0) 24 then zN 254 [some (.ref 73), some (.int v1), some (.int v2), some (.int v3), some (.int s.1), some (.int t7.1), some (.int s20.1), some (.int ((2 * s20.1) + 0)), some (.int ((t7.2 79 s20.1.toNatClampNeg) - (t7.2 102 ((2 * s20.1) + 0).toNatClampNeg)))] [] (SH, (zu t7.2 102 ((2 * s20.1) + 0).toNatClampNeg ((t7.2 102 ((2 * s20.1) + 0).toNatClampNeg) + ((t7.2 79 s20.1.toNatClampNeg) - (t7.2 102 ((2 * s20.1) + 0).toNatClampNeg)))), J) else none) rfl (zR_bif hc27 (zR_go ?_))
                refine zr_steps 8 (266, [some (.ref 73), some (.int v1), some (.int v2), some (.int v3), some (.int s.1), some (.int t7.1), some (.int s20.1), some (.int ((2 * s20.1) + 0)), some (.int ((t7.2 79 s20.1.toNatClampNeg) - (t7.2 102 ((2 * s20.1) + 0).toNatClampNeg)))], [.int ((8 * s.1) + v3), .ref 97, .int ((8 * s.1) + v3), .ref 97], (SH, (zu t7.2 102 ((2 * s20.1) + 0).toNatClampNeg ((t7.2 102 ((2 * s20.1) + 0).toNatClampNeg) + ((t7.2 79 s20.1.toNatClampNeg) - (t7.2 102 ((2 * s20.1) + 0).toNatClampNeg)))), J)) rfl ?_
                obtain ⟨hc28, h⟩ := zbifo h
                refine zr_one (bif zin ((8 * s.1) + v3) 32 then zN 267 [some (.ref 73), some (.int v1), some (.int v2), some (.int v3), some (.int s.1), some (.int t7.1), some (.int s20.1), some (.int ((2 * s20.1) + 0)), some (.int ((t7.2 79 s20.1.toNatClampNeg) - (t7.2 102 ((2 * s20.1) + 0).toNatClampNeg)))] [.int (t7.2 97 ((8 * s.1) + v3).toNatClampNeg), .int ((8 * s.1) + v3), .ref 97] (SH, (zu t7.2 102 ((2 * s20.1) + 0).toNatClampNeg ((t7.2 102 ((2 * s20.1) + 0).toNatClampNeg) + ((t7.2 79 s20.1.toNatClampNeg) - (t7.2 102 ((2 * s20.1) + 0).toNatClampNeg)))), J) else none) rfl (zR_bif hc28 (zR_go ?_))
                refine zr_steps 2 (270, [some (.ref 73), some (.int v1), some (.int v2), some (.int v3), some (.int s.1), some (.int t7.1), some (.int s20.1), some (.int ((2 * s20.1) + 0)), some (.int ((t7.2 79 s20.1.toNatClampNeg) - (t7.2 102 ((2 * s20.1) + 0).toNatClampNeg)))], [.int ((t7.2 97 ((8 * s.1) + v3).toNatClampNeg) - ((t7.2 79 s20.1.toNatClampNeg) - (t7.2 102 ((2 * s20.1) + 0).toNatClampNeg))), .int ((8 * s.1) + v3), .ref 97], (SH, (zu t7.2 102 ((2 * s20.1) + 0).toNatClampNeg ((t7.2 102 ((2 * s20.1) + 0).toNatClampNeg) + ((t7.2 79 s20.1.toNatClampNeg) - (t7.2 102 ((2 * s20.1) + 0).toNatClampNeg)))), J)) rfl ?_
                obtain ⟨hc29, h⟩ := zbifo h
                refine zr_one (bif zin ((8 * s.1) + v3) 32 then zN 271 [some (.ref 73), some (.int v1), some (.int v2), some (.int v3), some (.int s.1), some (.int t7.1), some (.int s20.1), some (.int ((2 * s20.1) + 0)), some (.int ((t7.2 79 s20.1.toNatClampNeg) - (t7.2 102 ((2 * s20.1) + 0).toNatClampNeg)))] [] (SH, (zu (zu t7.2 102 ((2 * s20.1) + 0).toNatClampNeg ((t7.2 102 ((2 * s20.1) + 0).toNatClampNeg) + ((t7.2 79 s20.1.toNatClampNeg) - (t7.2 102 ((2 * s20.1) + 0).toNatClampNeg)))) 97 ((8 * s.1) + v3).toNatClampNeg ((t7.2 97 ((8 * s.1) + v3).toNatClampNeg) - ((t7.2 79 s20.1.toNatClampNeg) - (t7.2 102 ((2 * s20.1) + 0).toNatClampNeg)))), J) else none) rfl (zR_bif hc29 (zR_go ?_))
                refine zr_steps 7 (284, [some (.ref 73), some (.int v1), some (.int v2), some (.int v3), some (.int s.1), some (.int t7.1), some (.int s20.1), some (.int ((2 * s20.1) + 0)), some (.int ((t7.2 79 s20.1.toNatClampNeg) - (t7.2 102 ((2 * s20.1) + 0).toNatClampNeg)))], [.int s20.1, .ref 78, .int v1, .int 32, .ref 99], (SH, (zu (zu t7.2 102 ((2 * s20.1) + 0).toNatClampNeg ((t7.2 102 ((2 * s20.1) + 0).toNatClampNeg) + ((t7.2 79 s20.1.toNatClampNeg) - (t7.2 102 ((2 * s20.1) + 0).toNatClampNeg)))) 97 ((8 * s.1) + v3).toNatClampNeg ((t7.2 97 ((8 * s.1) + v3).toNatClampNeg) - ((t7.2 79 s20.1.toNatClampNeg) - (t7.2 102 ((2 * s20.1) + 0).toNatClampNeg)))), J)) rfl ?_
                obtain ⟨hc30, h⟩ := zbifo h
                refine zr_one (bif zin s20.1 12 then zN 285 [some (.ref 73), some (.int v1), some (.int v2), some (.int v3), some (.int s.1), some (.int t7.1), some (.int s20.1), some (.int ((2 * s20.1) + 0)), some (.int ((t7.2 79 s20.1.toNatClampNeg) - (t7.2 102 ((2 * s20.1) + 0).toNatClampNeg)))] [.int (t7.2 78 s20.1.toNatClampNeg), .int v1, .int 32, .ref 99] (SH, (zu (zu t7.2 102 ((2 * s20.1) + 0).toNatClampNeg ((t7.2 102 ((2 * s20.1) + 0).toNatClampNeg) + ((t7.2 79 s20.1.toNatClampNeg) - (t7.2 102 ((2 * s20.1) + 0).toNatClampNeg)))) 97 ((8 * s.1) + v3).toNatClampNeg ((t7.2 97 ((8 * s.1) + v3).toNatClampNeg) - ((t7.2 79 s20.1.toNatClampNeg) - (t7.2 102 ((2 * s20.1) + 0).toNatClampNeg)))), J) else none) rfl (zR_bif hc30 (zR_go ?_))
                refine zr_steps 3 (290, [some (.ref 73), some (.int v1), some (.int v2), some (.int v3), some (.int s.1), some (.int t7.1), some (.int s20.1), some (.int ((2 * s20.1) + 0)), some (.int ((t7.2 79 s20.1.toNatClampNeg) - (t7.2 102 ((2 * s20.1) + 0).toNatClampNeg)))], [.int v3, .ref 83, .int (t7.2 78 s20.1.toNatClampNeg), .int v1, .int 32, .ref 99], (SH, (zu (zu t7.2 102 ((2 * s20.1) + 0).toNatClampNeg ((t7.2 102 ((2 * s20.1) + 0).toNatClampNeg) + ((t7.2 79 s20.1.toNatClampNeg) - (t7.2 102 ((2 * s20.1) + 0).toNatClampNeg)))) 97 ((8 * s.1) + v3).toNatClampNeg ((t7.2 97 ((8 * s.1) + v3).toNatClampNeg) - ((t7.2 79 s20.1.toNatClampNeg) - (t7.2 102 ((2 * s20.1) + 0).toNatClampNeg)))), J)) rfl ?_
                obtain ⟨hc31, h⟩ := zbifo h
                refine zr_one (bif zin v3 8 then zN 291 [some (.ref 73), some (.int v1), some (.int v2), some (.int v3), some (.int s.1), some (.int t7.1), some (.int s20.1), some (.int ((2 * s20.1) + 0)), some (.int ((t7.2 79 s20.1.toNatClampNeg) - (t7.2 102 ((2 * s20.1) + 0).toNatClampNeg)))] [.int (t7.2 83 v3.toNatClampNeg), .int (t7.2 78 s20.1.toNatClampNeg), .int v1, .int 32, .ref 99] (SH, (zu (zu t7.2 102 ((2 * s20.1) + 0).toNatClampNeg ((t7.2 102 ((2 * s20.1) + 0).toNatClampNeg) + ((t7.2 79 s20.1.toNatClampNeg) - (t7.2 102 ((2 * s20.1) + 0).toNatClampNeg)))) 97 ((8 * s.1) + v3).toNatClampNeg ((t7.2 97 ((8 * s.1) + v3).toNatClampNeg) - ((t7.2 79 s20.1.toNatClampNeg) - (t7.2 102 ((2 * s20.1) + 0).toNatClampNeg)))), J) else none) rfl (zR_bif hc31 (zR_go ?_))
                refine zr_steps 10 (303, [some (.ref 73), some (.int v1), some (.int v2), some (.int v3), some (.int s.1), some (.int t7.1), some (.int s20.1), some (.int ((2 * s20.1) + 0)), some (.int ((t7.2 79 s20.1.toNatClampNeg) - (t7.2 102 ((2 * s20.1) + 0).toNatClampNeg)))], [.int (((32 * (v1 + ((t7.2 78 s20.1.toNatClampNeg) * (t7.2 83 v3.toNatClampNeg)))) + (8 * t7.1)) + v3), .ref 99, .int (((32 * (v1 + ((t7.2 78 s20.1.toNatClampNeg) * (t7.2 83 v3.toNatClampNeg)))) + (8 * t7.1)) + v3), .ref 99], (SH, (zu (zu t7.2 102 ((2 * s20.1) + 0).toNatClampNeg ((t7.2 102 ((2 * s20.1) + 0).toNatClampNeg) + ((t7.2 79 s20.1.toNatClampNeg) - (t7.2 102 ((2 * s20.1) + 0).toNatClampNeg)))) 97 ((8 * s.1) + v3).toNatClampNeg ((t7.2 97 ((8 * s.1) + v3).toNatClampNeg) - ((t7.2 79 s20.1.toNatClampNeg) - (t7.2 102 ((2 * s20.1) + 0).toNatClampNeg)))), J)) rfl ?_
                obtain ⟨hc32, h⟩ := zbifo h
                refine zr_one (bif zin (((32 * (v1 + ((t7.2 78 s20.1.toNatClampNeg) * (t7.2 83 v3.toNatClampNeg)))) + (8 * t7.1)) + v3) 4864 then zN 304 [some (.ref 73), some (.int v1), some (.int v2), some (.int v3), some (.int s.1), some (.int t7.1), some (.int s20.1), some (.int ((2 * s20.1) + 0)), some (.int ((t7.2 79 s20.1.toNatClampNeg) - (t7.2 102 ((2 * s20.1) + 0).toNatClampNeg)))] [.int (t7.2 99 (((32 * (v1 + ((t7.2 78 s20.1.toNatClampNeg) * (t7.2 83 v3.toNatClampNeg)))) + (8 * t7.1)) + v3).toNatClampNeg), .int (((32 * (v1 + ((t7.2 78 s20.1.toNatClampNeg) * (t7.2 83 v3.toNatClampNeg)))) + (8 * t7.1)) + v3), .ref 99] (SH, (zu (zu t7.2 102 ((2 * s20.1) + 0).toNatClampNeg ((t7.2 102 ((2 * s20.1) + 0).toNatClampNeg) + ((t7.2 79 s20.1.toNatClampNeg) - (t7.2 102 ((2 * s20.1) + 0).toNatClampNeg)))) 97 ((8 * s.1) + v3).toNatClampNeg ((t7.2 97 ((8 * s.1) + v3).toNatClampNeg) - ((t7.2 79 s20.1.toNatClampNeg) - (t7.2 102 ((2 * s20.1) + 0).toNatClampNeg)))), J) else none) rfl (zR_bif hc32 (zR_go ?_))
                refine zr_steps 2 (307, [some (.ref 73), some (.int v1), some (.int v2), some (.int v3), some (.int s.1), some (.int t7.1), some (.int s20.1), some (.int ((2 * s20.1) + 0)), some (.int ((t7.2 79 s20.1.toNatClampNeg) - (t7.2 102 ((2 * s20.1) + 0).toNatClampNeg)))], [.int ((t7.2 99 (((32 * (v1 + ((t7.2 78 s20.1.toNatClampNeg) * (t7.2 83 v3.toNatClampNeg)))) + (8 * t7.1)) + v3).toNatClampNeg) + ((t7.2 79 s20.1.toNatClampNeg) - (t7.2 102 ((2 * s20.1) + 0).toNatClampNeg))), .int (((32 * (v1 + ((t7.2 78 s20.1.toNatClampNeg) * (t7.2 83 v3.toNatClampNeg)))) + (8 * t7.1)) + v3), .ref 99], (SH, (zu (zu t7.2 102 ((2 * s20.1) + 0).toNatClampNeg ((t7.2 102 ((2 * s20.1) + 0).toNatClampNeg) + ((t7.2 79 s20.1.toNatClampNeg) - (t7.2 102 ((2 * s20.1) + 0).toNatClampNeg)))) 97 ((8 * s.1) + v3).toNatClampNeg ((t7.2 97 ((8 * s.1) + v3).toNatClampNeg) - ((t7.2 79 s20.1.toNatClampNeg) - (t7.2 102 ((2 * s20.1) + 0).toNatClampNeg)))), J)) rfl ?_
                obtain ⟨hc33, h⟩ := zbifo h
                refine zr_one (bif zin (((32 * (v1 + ((t7.2 78 s20.1.toNatClampNeg) * (t7.2 83 v3.toNatClampNeg)))) + (8 * t7.1)) + v3) 4864 then zN 308 [some (.ref 73), some (.int v1), some (.int v2), some (.int v3), some (.int s.1), some (.int t7.1), some (.int s20.1), some (.int ((2 * s20.1) + 0)), some (.int ((t7.2 79 s20.1.toNatClampNeg) - (t7.2 102 ((2 * s20.1) + 0).toNatClampNeg)))] [] (SH, (zu (zu (zu t7.2 102 ((2 * s20.1) + 0).toNatClampNeg ((t7.2 102 ((2 * s20.1) + 0).toNatClampNeg) + ((t7.2 79 s20.1.toNatClampNeg) - (t7.2 102 ((2 * s20.1) + 0).toNatClampNeg)))) 97 ((8 * s.1) + v3).toNatClampNeg ((t7.2 97 ((8 * s.1) + v3).toNatClampNeg) - ((t7.2 79 s20.1.toNatClampNeg) - (t7.2 102 ((2 * s20.1) + 0).toNatClampNeg)))) 99 (((32 * (v1 + ((t7.2 78 s20.1.toNatClampNeg) * (t7.2 83 v3.toNatClampNeg)))) + (8 * t7.1)) + v3).toNatClampNeg ((t7.2 99 (((32 * (v1 + ((t7.2 78 s20.1.toNatClampNeg) * (t7.2 83 v3.toNatClampNeg)))) + (8 * t7.1)) + v3).toNatClampNeg) + ((t7.2 79 s20.1.toNatClampNeg) - (t7.2 102 ((2 * s20.1) + 0).toNatClampNeg)))), J) else none) rfl (zR_bif hc33 (zR_go ?_))
                refine zr_steps 2 (34, [some (.ref 73), some (.int v1), some (.int v2), some (.int v3), some (.int (s.1 + 1)), some (.int t7.1), some (.int s20.1), some (.int ((2 * s20.1) + 0)), some (.int ((t7.2 79 s20.1.toNatClampNeg) - (t7.2 102 ((2 * s20.1) + 0).toNatClampNeg)))], [], (SH, (zu (zu (zu t7.2 102 ((2 * s20.1) + 0).toNatClampNeg ((t7.2 102 ((2 * s20.1) + 0).toNatClampNeg) + ((t7.2 79 s20.1.toNatClampNeg) - (t7.2 102 ((2 * s20.1) + 0).toNatClampNeg)))) 97 ((8 * s.1) + v3).toNatClampNeg ((t7.2 97 ((8 * s.1) + v3).toNatClampNeg) - ((t7.2 79 s20.1.toNatClampNeg) - (t7.2 102 ((2 * s20.1) + 0).toNatClampNeg)))) 99 (((32 * (v1 + ((t7.2 78 s20.1.toNatClampNeg) * (t7.2 83 v3.toNatClampNeg)))) + (8 * t7.1)) + v3).toNatClampNeg ((t7.2 99 (((32 * (v1 + ((t7.2 78 s20.1.toNatClampNeg) * (t7.2 83 v3.toNatClampNeg)))) + (8 * t7.1)) + v3).toNatClampNeg) + ((t7.2 79 s20.1.toNatClampNeg) - (t7.2 102 ((2 * s20.1) + 0).toNatClampNeg)))), J)) rfl ?_
                have he := Option.some.inj h
                subst he
                exact zr_hdr (ls2 := [some (.ref 73), some (.int v1), some (.int v2), some (.int v3), some (.int (s.1 + 1)), none, none, none, none]) rfl rfl (show zRun X d 170 34 [some (.ref 73), some (.int v1), some (.int v2), some (.int v3), some (.int (s.1 + 1)), none, none, none, none] [] (SH, (zu (zu (zu t7.2 102 ((2 * s20.1) + 0).toNatClampNeg ((t7.2 102 ((2 * s20.1) + 0).toNatClampNeg) + ((t7.2 79 s20.1.toNatClampNeg) - (t7.2 102 ((2 * s20.1) + 0).toNatClampNeg)))) 97 ((8 * s.1) + v3).toNatClampNeg ((t7.2 97 ((8 * s.1) + v3).toNatClampNeg) - ((t7.2 79 s20.1.toNatClampNeg) - (t7.2 102 ((2 * s20.1) + 0).toNatClampNeg)))) 99 (((32 * (v1 + ((t7.2 78 s20.1.toNatClampNeg) * (t7.2 83 v3.toNatClampNeg)))) + (8 * t7.1)) + v3).toNatClampNeg ((t7.2 99 (((32 * (v1 + ((t7.2 78 s20.1.toNatClampNeg) * (t7.2 83 v3.toNatClampNeg)))) + (8 * t7.1)) + v3).toNatClampNeg) + ((t7.2 79 s20.1.toNatClampNeg) - (t7.2 102 ((2 * s20.1) + 0).toNatClampNeg)))), J) r M' from w)
              · rw [if_neg hc43] at h
                refine zr_steps 7 (239, [some (.ref 73), some (.int v1), some (.int v2), some (.int v3), some (.int s.1), some (.int t7.1), some (.int s20.1), some (.int ((2 * s20.1) + 0)), some (.int ((t7.2 79 s20.1.toNatClampNeg) - (t7.2 102 ((2 * s20.1) + 0).toNatClampNeg)))], [.int ((8 * s.1) + v3), .ref 97], (SH, t7.2, J)) rfl ?_
                obtain ⟨hc34, h⟩ := zbifo h
                refine zr_one (bif zin ((8 * s.1) + v3) 32 then zN 240 [some (.ref 73), some (.int v1), some (.int v2), some (.int v3), some (.int s.1), some (.int t7.1), some (.int s20.1), some (.int ((2 * s20.1) + 0)), some (.int ((t7.2 79 s20.1.toNatClampNeg) - (t7.2 102 ((2 * s20.1) + 0).toNatClampNeg)))] [.int (t7.2 97 ((8 * s.1) + v3).toNatClampNeg)] (SH, t7.2, J) else none) rfl (zR_bif hc34 (zR_go ?_))
                refine zr_steps 5 (249, [some (.ref 73), some (.int v1), some (.int v2), some (.int v3), some (.int s.1), some (.int t7.1), some (.int s20.1), some (.int ((2 * s20.1) + 0)), some (.int (t7.2 97 ((8 * s.1) + v3).toNatClampNeg))], [.int ((2 * s20.1) + 0), .ref 102, .int ((2 * s20.1) + 0), .ref 102], (SH, t7.2, J)) rfl ?_
                obtain ⟨hc35, h⟩ := zbifo h
                refine zr_one (bif zin ((2 * s20.1) + 0) 24 then zN 250 [some (.ref 73), some (.int v1), some (.int v2), some (.int v3), some (.int s.1), some (.int t7.1), some (.int s20.1), some (.int ((2 * s20.1) + 0)), some (.int (t7.2 97 ((8 * s.1) + v3).toNatClampNeg))] [.int (t7.2 102 ((2 * s20.1) + 0).toNatClampNeg), .int ((2 * s20.1) + 0), .ref 102] (SH, t7.2, J) else none) rfl (zR_bif hc35 (zR_go ?_))
                refine zr_steps 2 (253, [some (.ref 73), some (.int v1), some (.int v2), some (.int v3), some (.int s.1), some (.int t7.1), some (.int s20.1), some (.int ((2 * s20.1) + 0)), some (.int (t7.2 97 ((8 * s.1) + v3).toNatClampNeg))], [.int ((t7.2 102 ((2 * s20.1) + 0).toNatClampNeg) + (t7.2 97 ((8 * s.1) + v3).toNatClampNeg)), .int ((2 * s20.1) + 0), .ref 102], (SH, t7.2, J)) rfl ?_
                obtain ⟨hc36, h⟩ := zbifo h
                refine zr_one (bif zin ((2 * s20.1) + 0) 24 then zN 254 [some (.ref 73), some (.int v1), some (.int v2), some (.int v3), some (.int s.1), some (.int t7.1), some (.int s20.1), some (.int ((2 * s20.1) + 0)), some (.int (t7.2 97 ((8 * s.1) + v3).toNatClampNeg))] [] (SH, (zu t7.2 102 ((2 * s20.1) + 0).toNatClampNeg ((t7.2 102 ((2 * s20.1) + 0).toNatClampNeg) + (t7.2 97 ((8 * s.1) + v3).toNatClampNeg))), J) else none) rfl (zR_bif hc36 (zR_go ?_))
                refine zr_steps 8 (266, [some (.ref 73), some (.int v1), some (.int v2), some (.int v3), some (.int s.1), some (.int t7.1), some (.int s20.1), some (.int ((2 * s20.1) + 0)), some (.int (t7.2 97 ((8 * s.1) + v3).toNatClampNeg))], [.int ((8 * s.1) + v3), .ref 97, .int ((8 * s.1) + v3), .ref 97], (SH, (zu t7.2 102 ((2 * s20.1) + 0).toNatClampNeg ((t7.2 102 ((2 * s20.1) + 0).toNatClampNeg) + (t7.2 97 ((8 * s.1) + v3).toNatClampNeg))), J)) rfl ?_
                obtain ⟨hc37, h⟩ := zbifo h
                refine zr_one (bif zin ((8 * s.1) + v3) 32 then zN 267 [some (.ref 73), some (.int v1), some (.int v2), some (.int v3), some (.int s.1), some (.int t7.1), some (.int s20.1), some (.int ((2 * s20.1) + 0)), some (.int (t7.2 97 ((8 * s.1) + v3).toNatClampNeg))] [.int (t7.2 97 ((8 * s.1) + v3).toNatClampNeg), .int ((8 * s.1) + v3), .ref 97] (SH, (zu t7.2 102 ((2 * s20.1) + 0).toNatClampNeg ((t7.2 102 ((2 * s20.1) + 0).toNatClampNeg) + (t7.2 97 ((8 * s.1) + v3).toNatClampNeg))), J) else none) rfl (zR_bif hc37 (zR_go ?_))
                refine zr_steps 2 (270, [some (.ref 73), some (.int v1), some (.int v2), some (.int v3), some (.int s.1), some (.int t7.1), some (.int s20.1), some (.int ((2 * s20.1) + 0)), some (.int (t7.2 97 ((8 * s.1) + v3).toNatClampNeg))], [.int ((t7.2 97 ((8 * s.1) + v3).toNatClampNeg) - (t7.2 97 ((8 * s.1) + v3).toNatClampNeg)), .int ((8 * s.1) + v3), .ref 97], (SH, (zu t7.2 102 ((2 * s20.1) + 0).toNatClampNeg ((t7.2 102 ((2 * s20.1) + 0).toNatClampNeg) + (t7.2 97 ((8 * s.1) + v3).toNatClampNeg))), J)) rfl ?_
                obtain ⟨hc38, h⟩ := zbifo h
                refine zr_one (bif zin ((8 * s.1) + v3) 32 then zN 271 [some (.ref 73), some (.int v1), some (.int v2), some (.int v3), some (.int s.1), some (.int t7.1), some (.int s20.1), some (.int ((2 * s20.1) + 0)), some (.int (t7.2 97 ((8 * s.1) + v3).toNatClampNeg))] [] (SH, (zu (zu t7.2 102 ((2 * s20.1) + 0).toNatClampNeg ((t7.2 102 ((2 * s20.1) + 0).toNatClampNeg) + (t7.2 97 ((8 * s.1) + v3).toNatClampNeg))) 97 ((8 * s.1) + v3).toNatClampNeg ((t7.2 97 ((8 * s.1) + v3).toNatClampNeg) - (t7.2 97 ((8 * s.1) + v3).toNatClampNeg))), J) else none) rfl (zR_bif hc38 (zR_go ?_))
                refine zr_steps 7 (284, [some (.ref 73), some (.int v1), some (.int v2), some (.int v3), some (.int s.1), some (.int t7.1), some (.int s20.1), some (.int ((2 * s20.1) + 0)), some (.int (t7.2 97 ((8 * s.1) + v3).toNatClampNeg))], [.int s20.1, .ref 78, .int v1, .int 32, .ref 99], (SH, (zu (zu t7.2 102 ((2 * s20.1) + 0).toNatClampNeg ((t7.2 102 ((2 * s20.1) + 0).toNatClampNeg) + (t7.2 97 ((8 * s.1) + v3).toNatClampNeg))) 97 ((8 * s.1) + v3).toNatClampNeg ((t7.2 97 ((8 * s.1) + v3).toNatClampNeg) - (t7.2 97 ((8 * s.1) + v3).toNatClampNeg))), J)) rfl ?_
                obtain ⟨hc39, h⟩ := zbifo h
                refine zr_one (bif zin s20.1 12 then zN 285 [some (.ref 73), some (.int v1), some (.int v2), some (.int v3), some (.int s.1), some (.int t7.1), some (.int s20.1), some (.int ((2 * s20.1) + 0)), some (.int (t7.2 97 ((8 * s.1) + v3).toNatClampNeg))] [.int (t7.2 78 s20.1.toNatClampNeg), .int v1, .int 32, .ref 99] (SH, (zu (zu t7.2 102 ((2 * s20.1) + 0).toNatClampNeg ((t7.2 102 ((2 * s20.1) + 0).toNatClampNeg) + (t7.2 97 ((8 * s.1) + v3).toNatClampNeg))) 97 ((8 * s.1) + v3).toNatClampNeg ((t7.2 97 ((8 * s.1) + v3).toNatClampNeg) - (t7.2 97 ((8 * s.1) + v3).toNatClampNeg))), J) else none) rfl (zR_bif hc39 (zR_go ?_))
                refine zr_steps 3 (290, [some (.ref 73), some (.int v1), some (.int v2), some (.int v3), some (.int s.1), some (.int t7.1), some (.int s20.1), some (.int ((2 * s20.1) + 0)), some (.int (t7.2 97 ((8 * s.1) + v3).toNatClampNeg))], [.int v3, .ref 83, .int (t7.2 78 s20.1.toNatClampNeg), .int v1, .int 32, .ref 99], (SH, (zu (zu t7.2 102 ((2 * s20.1) + 0).toNatClampNeg ((t7.2 102 ((2 * s20.1) + 0).toNatClampNeg) + (t7.2 97 ((8 * s.1) + v3).toNatClampNeg))) 97 ((8 * s.1) + v3).toNatClampNeg ((t7.2 97 ((8 * s.1) + v3).toNatClampNeg) - (t7.2 97 ((8 * s.1) + v3).toNatClampNeg))), J)) rfl ?_
                obtain ⟨hc40, h⟩ := zbifo h
                refine zr_one (bif zin v3 8 then zN 291 [some (.ref 73), some (.int v1), some (.int v2), some (.int v3), some (.int s.1), some (.int t7.1), some (.int s20.1), some (.int ((2 * s20.1) + 0)), some (.int (t7.2 97 ((8 * s.1) + v3).toNatClampNeg))] [.int (t7.2 83 v3.toNatClampNeg), .int (t7.2 78 s20.1.toNatClampNeg), .int v1, .int 32, .ref 99] (SH, (zu (zu t7.2 102 ((2 * s20.1) + 0).toNatClampNeg ((t7.2 102 ((2 * s20.1) + 0).toNatClampNeg) + (t7.2 97 ((8 * s.1) + v3).toNatClampNeg))) 97 ((8 * s.1) + v3).toNatClampNeg ((t7.2 97 ((8 * s.1) + v3).toNatClampNeg) - (t7.2 97 ((8 * s.1) + v3).toNatClampNeg))), J) else none) rfl (zR_bif hc40 (zR_go ?_))
                refine zr_steps 10 (303, [some (.ref 73), some (.int v1), some (.int v2), some (.int v3), some (.int s.1), some (.int t7.1), some (.int s20.1), some (.int ((2 * s20.1) + 0)), some (.int (t7.2 97 ((8 * s.1) + v3).toNatClampNeg))], [.int (((32 * (v1 + ((t7.2 78 s20.1.toNatClampNeg) * (t7.2 83 v3.toNatClampNeg)))) + (8 * t7.1)) + v3), .ref 99, .int (((32 * (v1 + ((t7.2 78 s20.1.toNatClampNeg) * (t7.2 83 v3.toNatClampNeg)))) + (8 * t7.1)) + v3), .ref 99], (SH, (zu (zu t7.2 102 ((2 * s20.1) + 0).toNatClampNeg ((t7.2 102 ((2 * s20.1) + 0).toNatClampNeg) + (t7.2 97 ((8 * s.1) + v3).toNatClampNeg))) 97 ((8 * s.1) + v3).toNatClampNeg ((t7.2 97 ((8 * s.1) + v3).toNatClampNeg) - (t7.2 97 ((8 * s.1) + v3).toNatClampNeg))), J)) rfl ?_
                obtain ⟨hc41, h⟩ := zbifo h
                refine zr_one (bif zin (((32 * (v1 + ((t7.2 78 s20.1.toNatClampNeg) * (t7.2 83 v3.toNatClampNeg)))) + (8 * t7.1)) + v3) 4864 then zN 304 [some (.ref 73), some (.int v1), some (.int v2), some (.int v3), some (.int s.1), some (.int t7.1), some (.int s20.1), some (.int ((2 * s20.1) + 0)), some (.int (t7.2 97 ((8 * s.1) + v3).toNatClampNeg))] [.int (t7.2 99 (((32 * (v1 + ((t7.2 78 s20.1.toNatClampNeg) * (t7.2 83 v3.toNatClampNeg)))) + (8 * t7.1)) + v3).toNatClampNeg), .int (((32 * (v1 + ((t7.2 78 s20.1.toNatClampNeg) * (t7.2 83 v3.toNatClampNeg)))) + (8 * t7.1)) + v3), .ref 99] (SH, (zu (zu t7.2 102 ((2 * s20.1) + 0).toNatClampNeg ((t7.2 102 ((2 * s20.1) + 0).toNatClampNeg) + (t7.2 97 ((8 * s.1) + v3).toNatClampNeg))) 97 ((8 * s.1) + v3).toNatClampNeg ((t7.2 97 ((8 * s.1) + v3).toNatClampNeg) - (t7.2 97 ((8 * s.1) + v3).toNatClampNeg))), J) else none) rfl (zR_bif hc41 (zR_go ?_))
                refine zr_steps 2 (307, [some (.ref 73), some (.int v1), some (.int v2), some (.int v3), some (.int s.1), some (.int t7.1), some (.int s20.1), some (.int ((2 * s20.1) + 0)), some (.int (t7.2 97 ((8 * s.1) + v3).toNatClampNeg))], [.int ((t7.2 99 (((32 * (v1 + ((t7.2 78 s20.1.toNatClampNeg) * (t7.2 83 v3.toNatClampNeg)))) + (8 * t7.1)) + v3).toNatClampNeg) + (t7.2 97 ((8 * s.1) + v3).toNatClampNeg)), .int (((32 * (v1 + ((t7.2 78 s20.1.toNatClampNeg) * (t7.2 83 v3.toNatClampNeg)))) + (8 * t7.1)) + v3), .ref 99], (SH, (zu (zu t7.2 102 ((2 * s20.1) + 0).toNatClampNeg ((t7.2 102 ((2 * s20.1) + 0).toNatClampNeg) + (t7.2 97 ((8 * s.1) + v3).toNatClampNeg))) 97 ((8 * s.1) + v3).toNatClampNeg ((t7.2 97 ((8 * s.1) + v3).toNatClampNeg) - (t7.2 97 ((8 * s.1) + v3).toNatClampNeg))), J)) rfl ?_
                obtain ⟨hc42, h⟩ := zbifo h
                refine zr_one (bif zin (((32 * (v1 + ((t7.2 78 s20.1.toNatClampNeg) * (t7.2 83 v3.toNatClampNeg)))) + (8 * t7.1)) + v3) 4864 then zN 308 [some (.ref 73), some (.int v1), some (.int v2), some (.int v3), some (.int s.1), some (.int t7.1), some (.int s20.1), some (.int ((2 * s20.1) + 0)), some (.int (t7.2 97 ((8 * s.1) + v3).toNatClampNeg))] [] (SH, (zu (zu (zu t7.2 102 ((2 * s20.1) + 0).toNatClampNeg ((t7.2 102 ((2 * s20.1) + 0).toNatClampNeg) + (t7.2 97 ((8 * s.1) + v3).toNatClampNeg))) 97 ((8 * s.1) + v3).toNatClampNeg ((t7.2 97 ((8 * s.1) + v3).toNatClampNeg) - (t7.2 97 ((8 * s.1) + v3).toNatClampNeg))) 99 (((32 * (v1 + ((t7.2 78 s20.1.toNatClampNeg) * (t7.2 83 v3.toNatClampNeg)))) + (8 * t7.1)) + v3).toNatClampNeg ((t7.2 99 (((32 * (v1 + ((t7.2 78 s20.1.toNatClampNeg) * (t7.2 83 v3.toNatClampNeg)))) + (8 * t7.1)) + v3).toNatClampNeg) + (t7.2 97 ((8 * s.1) + v3).toNatClampNeg))), J) else none) rfl (zR_bif hc42 (zR_go ?_))
                refine zr_steps 2 (34, [some (.ref 73), some (.int v1), some (.int v2), some (.int v3), some (.int (s.1 + 1)), some (.int t7.1), some (.int s20.1), some (.int ((2 * s20.1) + 0)), some (.int (t7.2 97 ((8 * s.1) + v3).toNatClampNeg))], [], (SH, (zu (zu (zu t7.2 102 ((2 * s20.1) + 0).toNatClampNeg ((t7.2 102 ((2 * s20.1) + 0).toNatClampNeg) + (t7.2 97 ((8 * s.1) + v3).toNatClampNeg))) 97 ((8 * s.1) + v3).toNatClampNeg ((t7.2 97 ((8 * s.1) + v3).toNatClampNeg) - (t7.2 97 ((8 * s.1) + v3).toNatClampNeg))) 99 (((32 * (v1 + ((t7.2 78 s20.1.toNatClampNeg) * (t7.2 83 v3.toNatClampNeg)))) + (8 * t7.1)) + v3).toNatClampNeg ((t7.2 99 (((32 * (v1 + ((t7.2 78 s20.1.toNatClampNeg) * (t7.2 83 v3.toNatClampNeg)))) + (8 * t7.1)) + v3).toNatClampNeg) + (t7.2 97 ((8 * s.1) + v3).toNatClampNeg))), J)) rfl ?_
                have he := Option.some.inj h
                subst he
                exact zr_hdr (ls2 := [some (.ref 73), some (.int v1), some (.int v2), some (.int v3), some (.int (s.1 + 1)), none, none, none, none]) rfl rfl (show zRun X d 170 34 [some (.ref 73), some (.int v1), some (.int v2), some (.int v3), some (.int (s.1 + 1)), none, none, none, none] [] (SH, (zu (zu (zu t7.2 102 ((2 * s20.1) + 0).toNatClampNeg ((t7.2 102 ((2 * s20.1) + 0).toNatClampNeg) + (t7.2 97 ((8 * s.1) + v3).toNatClampNeg))) 97 ((8 * s.1) + v3).toNatClampNeg ((t7.2 97 ((8 * s.1) + v3).toNatClampNeg) - (t7.2 97 ((8 * s.1) + v3).toNatClampNeg))) 99 (((32 * (v1 + ((t7.2 78 s20.1.toNatClampNeg) * (t7.2 83 v3.toNatClampNeg)))) + (8 * t7.1)) + v3).toNatClampNeg ((t7.2 99 (((32 * (v1 + ((t7.2 78 s20.1.toNatClampNeg) * (t7.2 83 v3.toNatClampNeg)))) + (8 * t7.1)) + v3).toNatClampNeg) + (t7.2 97 ((8 * s.1) + v3).toNatClampNeg))), J) r M' from w)
            · rw [if_neg hc65] at h
              refine zr_steps 6 (200, [some (.ref 73), some (.int v1), some (.int v2), some (.int v3), some (.int s.1), some (.int t7.1), some (.int s20.1), some (.int ((2 * s20.1) + 1)), none], [.int s20.1, .ref 79], (SH, t7.2, J)) rfl ?_
              obtain ⟨hc44, h⟩ := zbifo h
              refine zr_one (bif zin s20.1 12 then zN 201 [some (.ref 73), some (.int v1), some (.int v2), some (.int v3), some (.int s.1), some (.int t7.1), some (.int s20.1), some (.int ((2 * s20.1) + 1)), none] [.int (t7.2 79 s20.1.toNatClampNeg)] (SH, t7.2, J) else none) rfl (zR_bif hc44 (zR_go ?_))
              refine zr_steps 3 (207, [some (.ref 73), some (.int v1), some (.int v2), some (.int v3), some (.int s.1), some (.int t7.1), some (.int s20.1), some (.int ((2 * s20.1) + 1)), none], [.int ((2 * s20.1) + 1), .ref 102, .int (t7.2 79 s20.1.toNatClampNeg)], (SH, t7.2, J)) rfl ?_
              obtain ⟨hc45, h⟩ := zbifo h
              refine zr_one (bif zin ((2 * s20.1) + 1) 24 then zN 208 [some (.ref 73), some (.int v1), some (.int v2), some (.int v3), some (.int s.1), some (.int t7.1), some (.int s20.1), some (.int ((2 * s20.1) + 1)), none] [.int (t7.2 102 ((2 * s20.1) + 1).toNatClampNeg), .int (t7.2 79 s20.1.toNatClampNeg)] (SH, t7.2, J) else none) rfl (zR_bif hc45 (zR_go ?_))
              refine zr_steps 9 (222, [some (.ref 73), some (.int v1), some (.int v2), some (.int v3), some (.int s.1), some (.int t7.1), some (.int s20.1), some (.int ((2 * s20.1) + 1)), some (.int ((t7.2 79 s20.1.toNatClampNeg) - (t7.2 102 ((2 * s20.1) + 1).toNatClampNeg)))], [.int ((8 * s.1) + v3), .ref 97], (SH, t7.2, J)) rfl ?_
              obtain ⟨hc46, h⟩ := zbifo h
              refine zr_one (bif zin ((8 * s.1) + v3) 32 then zN 223 [some (.ref 73), some (.int v1), some (.int v2), some (.int v3), some (.int s.1), some (.int t7.1), some (.int s20.1), some (.int ((2 * s20.1) + 1)), some (.int ((t7.2 79 s20.1.toNatClampNeg) - (t7.2 102 ((2 * s20.1) + 1).toNatClampNeg)))] [.int (t7.2 97 ((8 * s.1) + v3).toNatClampNeg)] (SH, t7.2, J) else none) rfl (zR_bif hc46 (zR_go ?_))
              refine zr_steps 1 (225, [some (.ref 73), some (.int v1), some (.int v2), some (.int v3), some (.int s.1), some (.int t7.1), some (.int s20.1), some (.int ((2 * s20.1) + 1)), some (.int ((t7.2 79 s20.1.toNatClampNeg) - (t7.2 102 ((2 * s20.1) + 1).toNatClampNeg)))], [.int ((t7.2 79 s20.1.toNatClampNeg) - (t7.2 102 ((2 * s20.1) + 1).toNatClampNeg)), .int (t7.2 97 ((8 * s.1) + v3).toNatClampNeg)], (SH, t7.2, J)) rfl ?_
              refine zr_one (if ((t7.2 79 s20.1.toNatClampNeg) - (t7.2 102 ((2 * s20.1) + 1).toNatClampNeg)) ≤ (t7.2 97 ((8 * s.1) + v3).toNatClampNeg) then zN 242 [some (.ref 73), some (.int v1), some (.int v2), some (.int v3), some (.int s.1), some (.int t7.1), some (.int s20.1), some (.int ((2 * s20.1) + 1)), some (.int ((t7.2 79 s20.1.toNatClampNeg) - (t7.2 102 ((2 * s20.1) + 1).toNatClampNeg)))] [] (SH, t7.2, J) else zN 228 [some (.ref 73), some (.int v1), some (.int v2), some (.int v3), some (.int s.1), some (.int t7.1), some (.int s20.1), some (.int ((2 * s20.1) + 1)), some (.int ((t7.2 79 s20.1.toNatClampNeg) - (t7.2 102 ((2 * s20.1) + 1).toNatClampNeg)))] [] (SH, t7.2, J)) rfl (zR_if (fun hc64 => zR_go ?_) (fun hc64 => zR_go ?_))
              · rw [if_pos hc64] at h
                refine zr_steps 4 (249, [some (.ref 73), some (.int v1), some (.int v2), some (.int v3), some (.int s.1), some (.int t7.1), some (.int s20.1), some (.int ((2 * s20.1) + 1)), some (.int ((t7.2 79 s20.1.toNatClampNeg) - (t7.2 102 ((2 * s20.1) + 1).toNatClampNeg)))], [.int ((2 * s20.1) + 1), .ref 102, .int ((2 * s20.1) + 1), .ref 102], (SH, t7.2, J)) rfl ?_
                obtain ⟨hc47, h⟩ := zbifo h
                refine zr_one (bif zin ((2 * s20.1) + 1) 24 then zN 250 [some (.ref 73), some (.int v1), some (.int v2), some (.int v3), some (.int s.1), some (.int t7.1), some (.int s20.1), some (.int ((2 * s20.1) + 1)), some (.int ((t7.2 79 s20.1.toNatClampNeg) - (t7.2 102 ((2 * s20.1) + 1).toNatClampNeg)))] [.int (t7.2 102 ((2 * s20.1) + 1).toNatClampNeg), .int ((2 * s20.1) + 1), .ref 102] (SH, t7.2, J) else none) rfl (zR_bif hc47 (zR_go ?_))
                refine zr_steps 2 (253, [some (.ref 73), some (.int v1), some (.int v2), some (.int v3), some (.int s.1), some (.int t7.1), some (.int s20.1), some (.int ((2 * s20.1) + 1)), some (.int ((t7.2 79 s20.1.toNatClampNeg) - (t7.2 102 ((2 * s20.1) + 1).toNatClampNeg)))], [.int ((t7.2 102 ((2 * s20.1) + 1).toNatClampNeg) + ((t7.2 79 s20.1.toNatClampNeg) - (t7.2 102 ((2 * s20.1) + 1).toNatClampNeg))), .int ((2 * s20.1) + 1), .ref 102], (SH, t7.2, J)) rfl ?_
                obtain ⟨hc48, h⟩ := zbifo h
                refine zr_one (bif zin ((2 * s20.1) + 1) 24 then zN 254 [some (.ref 73), some (.int v1), some (.int v2), some (.int v3), some (.int s.1), some (.int t7.1), some (.int s20.1), some (.int ((2 * s20.1) + 1)), some (.int ((t7.2 79 s20.1.toNatClampNeg) - (t7.2 102 ((2 * s20.1) + 1).toNatClampNeg)))] [] (SH, (zu t7.2 102 ((2 * s20.1) + 1).toNatClampNeg ((t7.2 102 ((2 * s20.1) + 1).toNatClampNeg) + ((t7.2 79 s20.1.toNatClampNeg) - (t7.2 102 ((2 * s20.1) + 1).toNatClampNeg)))), J) else none) rfl (zR_bif hc48 (zR_go ?_))
                refine zr_steps 8 (266, [some (.ref 73), some (.int v1), some (.int v2), some (.int v3), some (.int s.1), some (.int t7.1), some (.int s20.1), some (.int ((2 * s20.1) + 1)), some (.int ((t7.2 79 s20.1.toNatClampNeg) - (t7.2 102 ((2 * s20.1) + 1).toNatClampNeg)))], [.int ((8 * s.1) + v3), .ref 97, .int ((8 * s.1) + v3), .ref 97], (SH, (zu t7.2 102 ((2 * s20.1) + 1).toNatClampNeg ((t7.2 102 ((2 * s20.1) + 1).toNatClampNeg) + ((t7.2 79 s20.1.toNatClampNeg) - (t7.2 102 ((2 * s20.1) + 1).toNatClampNeg)))), J)) rfl ?_
                obtain ⟨hc49, h⟩ := zbifo h
                refine zr_one (bif zin ((8 * s.1) + v3) 32 then zN 267 [some (.ref 73), some (.int v1), some (.int v2), some (.int v3), some (.int s.1), some (.int t7.1), some (.int s20.1), some (.int ((2 * s20.1) + 1)), some (.int ((t7.2 79 s20.1.toNatClampNeg) - (t7.2 102 ((2 * s20.1) + 1).toNatClampNeg)))] [.int (t7.2 97 ((8 * s.1) + v3).toNatClampNeg), .int ((8 * s.1) + v3), .ref 97] (SH, (zu t7.2 102 ((2 * s20.1) + 1).toNatClampNeg ((t7.2 102 ((2 * s20.1) + 1).toNatClampNeg) + ((t7.2 79 s20.1.toNatClampNeg) - (t7.2 102 ((2 * s20.1) + 1).toNatClampNeg)))), J) else none) rfl (zR_bif hc49 (zR_go ?_))
                refine zr_steps 2 (270, [some (.ref 73), some (.int v1), some (.int v2), some (.int v3), some (.int s.1), some (.int t7.1), some (.int s20.1), some (.int ((2 * s20.1) + 1)), some (.int ((t7.2 79 s20.1.toNatClampNeg) - (t7.2 102 ((2 * s20.1) + 1).toNatClampNeg)))], [.int ((t7.2 97 ((8 * s.1) + v3).toNatClampNeg) - ((t7.2 79 s20.1.toNatClampNeg) - (t7.2 102 ((2 * s20.1) + 1).toNatClampNeg))), .int ((8 * s.1) + v3), .ref 97], (SH, (zu t7.2 102 ((2 * s20.1) + 1).toNatClampNeg ((t7.2 102 ((2 * s20.1) + 1).toNatClampNeg) + ((t7.2 79 s20.1.toNatClampNeg) - (t7.2 102 ((2 * s20.1) + 1).toNatClampNeg)))), J)) rfl ?_
                obtain ⟨hc50, h⟩ := zbifo h
                refine zr_one (bif zin ((8 * s.1) + v3) 32 then zN 271 [some (.ref 73), some (.int v1), some (.int v2), some (.int v3), some (.int s.1), some (.int t7.1), some (.int s20.1), some (.int ((2 * s20.1) + 1)), some (.int ((t7.2 79 s20.1.toNatClampNeg) - (t7.2 102 ((2 * s20.1) + 1).toNatClampNeg)))] [] (SH, (zu (zu t7.2 102 ((2 * s20.1) + 1).toNatClampNeg ((t7.2 102 ((2 * s20.1) + 1).toNatClampNeg) + ((t7.2 79 s20.1.toNatClampNeg) - (t7.2 102 ((2 * s20.1) + 1).toNatClampNeg)))) 97 ((8 * s.1) + v3).toNatClampNeg ((t7.2 97 ((8 * s.1) + v3).toNatClampNeg) - ((t7.2 79 s20.1.toNatClampNeg) - (t7.2 102 ((2 * s20.1) + 1).toNatClampNeg)))), J) else none) rfl (zR_bif hc50 (zR_go ?_))
                refine zr_steps 7 (284, [some (.ref 73), some (.int v1), some (.int v2), some (.int v3), some (.int s.1), some (.int t7.1), some (.int s20.1), some (.int ((2 * s20.1) + 1)), some (.int ((t7.2 79 s20.1.toNatClampNeg) - (t7.2 102 ((2 * s20.1) + 1).toNatClampNeg)))], [.int s20.1, .ref 78, .int v1, .int 32, .ref 99], (SH, (zu (zu t7.2 102 ((2 * s20.1) + 1).toNatClampNeg ((t7.2 102 ((2 * s20.1) + 1).toNatClampNeg) + ((t7.2 79 s20.1.toNatClampNeg) - (t7.2 102 ((2 * s20.1) + 1).toNatClampNeg)))) 97 ((8 * s.1) + v3).toNatClampNeg ((t7.2 97 ((8 * s.1) + v3).toNatClampNeg) - ((t7.2 79 s20.1.toNatClampNeg) - (t7.2 102 ((2 * s20.1) + 1).toNatClampNeg)))), J)) rfl ?_
                obtain ⟨hc51, h⟩ := zbifo h
                refine zr_one (bif zin s20.1 12 then zN 285 [some (.ref 73), some (.int v1), some (.int v2), some (.int v3), some (.int s.1), some (.int t7.1), some (.int s20.1), some (.int ((2 * s20.1) + 1)), some (.int ((t7.2 79 s20.1.toNatClampNeg) - (t7.2 102 ((2 * s20.1) + 1).toNatClampNeg)))] [.int (t7.2 78 s20.1.toNatClampNeg), .int v1, .int 32, .ref 99] (SH, (zu (zu t7.2 102 ((2 * s20.1) + 1).toNatClampNeg ((t7.2 102 ((2 * s20.1) + 1).toNatClampNeg) + ((t7.2 79 s20.1.toNatClampNeg) - (t7.2 102 ((2 * s20.1) + 1).toNatClampNeg)))) 97 ((8 * s.1) + v3).toNatClampNeg ((t7.2 97 ((8 * s.1) + v3).toNatClampNeg) - ((t7.2 79 s20.1.toNatClampNeg) - (t7.2 102 ((2 * s20.1) + 1).toNatClampNeg)))), J) else none) rfl (zR_bif hc51 (zR_go ?_))
                refine zr_steps 3 (290, [some (.ref 73), some (.int v1), some (.int v2), some (.int v3), some (.int s.1), some (.int t7.1), some (.int s20.1), some (.int ((2 * s20.1) + 1)), some (.int ((t7.2 79 s20.1.toNatClampNeg) - (t7.2 102 ((2 * s20.1) + 1).toNatClampNeg)))], [.int v3, .ref 83, .int (t7.2 78 s20.1.toNatClampNeg), .int v1, .int 32, .ref 99], (SH, (zu (zu t7.2 102 ((2 * s20.1) + 1).toNatClampNeg ((t7.2 102 ((2 * s20.1) + 1).toNatClampNeg) + ((t7.2 79 s20.1.toNatClampNeg) - (t7.2 102 ((2 * s20.1) + 1).toNatClampNeg)))) 97 ((8 * s.1) + v3).toNatClampNeg ((t7.2 97 ((8 * s.1) + v3).toNatClampNeg) - ((t7.2 79 s20.1.toNatClampNeg) - (t7.2 102 ((2 * s20.1) + 1).toNatClampNeg)))), J)) rfl ?_
                obtain ⟨hc52, h⟩ := zbifo h
                refine zr_one (bif zin v3 8 then zN 291 [some (.ref 73), some (.int v1), some (.int v2), some (.int v3), some (.int s.1), some (.int t7.1), some (.int s20.1), some (.int ((2 * s20.1) + 1)), some (.int ((t7.2 79 s20.1.toNatClampNeg) - (t7.2 102 ((2 * s20.1) + 1).toNatClampNeg)))] [.int (t7.2 83 v3.toNatClampNeg), .int (t7.2 78 s20.1.toNatClampNeg), .int v1, .int 32, .ref 99] (SH, (zu (zu t7.2 102 ((2 * s20.1) + 1).toNatClampNeg ((t7.2 102 ((2 * s20.1) + 1).toNatClampNeg) + ((t7.2 79 s20.1.toNatClampNeg) - (t7.2 102 ((2 * s20.1) + 1).toNatClampNeg)))) 97 ((8 * s.1) + v3).toNatClampNeg ((t7.2 97 ((8 * s.1) + v3).toNatClampNeg) - ((t7.2 79 s20.1.toNatClampNeg) - (t7.2 102 ((2 * s20.1) + 1).toNatClampNeg)))), J) else none) rfl (zR_bif hc52 (zR_go ?_))
                refine zr_steps 10 (303, [some (.ref 73), some (.int v1), some (.int v2), some (.int v3), some (.int s.1), some (.int t7.1), some (.int s20.1), some (.int ((2 * s20.1) + 1)), some (.int ((t7.2 79 s20.1.toNatClampNeg) - (t7.2 102 ((2 * s20.1) + 1).toNatClampNeg)))], [.int (((32 * (v1 + ((t7.2 78 s20.1.toNatClampNeg) * (t7.2 83 v3.toNatClampNeg)))) + (8 * t7.1)) + v3), .ref 99, .int (((32 * (v1 + ((t7.2 78 s20.1.toNatClampNeg) * (t7.2 83 v3.toNatClampNeg)))) + (8 * t7.1)) + v3), .ref 99], (SH, (zu (zu t7.2 102 ((2 * s20.1) + 1).toNatClampNeg ((t7.2 102 ((2 * s20.1) + 1).toNatClampNeg) + ((t7.2 79 s20.1.toNatClampNeg) - (t7.2 102 ((2 * s20.1) + 1).toNatClampNeg)))) 97 ((8 * s.1) + v3).toNatClampNeg ((t7.2 97 ((8 * s.1) + v3).toNatClampNeg) - ((t7.2 79 s20.1.toNatClampNeg) - (t7.2 102 ((2 * s20.1) + 1).toNatClampNeg)))), J)) rfl ?_
                obtain ⟨hc53, h⟩ := zbifo h
                refine zr_one (bif zin (((32 * (v1 + ((t7.2 78 s20.1.toNatClampNeg) * (t7.2 83 v3.toNatClampNeg)))) + (8 * t7.1)) + v3) 4864 then zN 304 [some (.ref 73), some (.int v1), some (.int v2), some (.int v3), some (.int s.1), some (.int t7.1), some (.int s20.1), some (.int ((2 * s20.1) + 1)), some (.int ((t7.2 79 s20.1.toNatClampNeg) - (t7.2 102 ((2 * s20.1) + 1).toNatClampNeg)))] [.int (t7.2 99 (((32 * (v1 + ((t7.2 78 s20.1.toNatClampNeg) * (t7.2 83 v3.toNatClampNeg)))) + (8 * t7.1)) + v3).toNatClampNeg), .int (((32 * (v1 + ((t7.2 78 s20.1.toNatClampNeg) * (t7.2 83 v3.toNatClampNeg)))) + (8 * t7.1)) + v3), .ref 99] (SH, (zu (zu t7.2 102 ((2 * s20.1) + 1).toNatClampNeg ((t7.2 102 ((2 * s20.1) + 1).toNatClampNeg) + ((t7.2 79 s20.1.toNatClampNeg) - (t7.2 102 ((2 * s20.1) + 1).toNatClampNeg)))) 97 ((8 * s.1) + v3).toNatClampNeg ((t7.2 97 ((8 * s.1) + v3).toNatClampNeg) - ((t7.2 79 s20.1.toNatClampNeg) - (t7.2 102 ((2 * s20.1) + 1).toNatClampNeg)))), J) else none) rfl (zR_bif hc53 (zR_go ?_))
                refine zr_steps 2 (307, [some (.ref 73), some (.int v1), some (.int v2), some (.int v3), some (.int s.1), some (.int t7.1), some (.int s20.1), some (.int ((2 * s20.1) + 1)), some (.int ((t7.2 79 s20.1.toNatClampNeg) - (t7.2 102 ((2 * s20.1) + 1).toNatClampNeg)))], [.int ((t7.2 99 (((32 * (v1 + ((t7.2 78 s20.1.toNatClampNeg) * (t7.2 83 v3.toNatClampNeg)))) + (8 * t7.1)) + v3).toNatClampNeg) + ((t7.2 79 s20.1.toNatClampNeg) - (t7.2 102 ((2 * s20.1) + 1).toNatClampNeg))), .int (((32 * (v1 + ((t7.2 78 s20.1.toNatClampNeg) * (t7.2 83 v3.toNatClampNeg)))) + (8 * t7.1)) + v3), .ref 99], (SH, (zu (zu t7.2 102 ((2 * s20.1) + 1).toNatClampNeg ((t7.2 102 ((2 * s20.1) + 1).toNatClampNeg) + ((t7.2 79 s20.1.toNatClampNeg) - (t7.2 102 ((2 * s20.1) + 1).toNatClampNeg)))) 97 ((8 * s.1) + v3).toNatClampNeg ((t7.2 97 ((8 * s.1) + v3).toNatClampNeg) - ((t7.2 79 s20.1.toNatClampNeg) - (t7.2 102 ((2 * s20.1) + 1).toNatClampNeg)))), J)) rfl ?_
                obtain ⟨hc54, h⟩ := zbifo h
                refine zr_one (bif zin (((32 * (v1 + ((t7.2 78 s20.1.toNatClampNeg) * (t7.2 83 v3.toNatClampNeg)))) + (8 * t7.1)) + v3) 4864 then zN 308 [some (.ref 73), some (.int v1), some (.int v2), some (.int v3), some (.int s.1), some (.int t7.1), some (.int s20.1), some (.int ((2 * s20.1) + 1)), some (.int ((t7.2 79 s20.1.toNatClampNeg) - (t7.2 102 ((2 * s20.1) + 1).toNatClampNeg)))] [] (SH, (zu (zu (zu t7.2 102 ((2 * s20.1) + 1).toNatClampNeg ((t7.2 102 ((2 * s20.1) + 1).toNatClampNeg) + ((t7.2 79 s20.1.toNatClampNeg) - (t7.2 102 ((2 * s20.1) + 1).toNatClampNeg)))) 97 ((8 * s.1) + v3).toNatClampNeg ((t7.2 97 ((8 * s.1) + v3).toNatClampNeg) - ((t7.2 79 s20.1.toNatClampNeg) - (t7.2 102 ((2 * s20.1) + 1).toNatClampNeg)))) 99 (((32 * (v1 + ((t7.2 78 s20.1.toNatClampNeg) * (t7.2 83 v3.toNatClampNeg)))) + (8 * t7.1)) + v3).toNatClampNeg ((t7.2 99 (((32 * (v1 + ((t7.2 78 s20.1.toNatClampNeg) * (t7.2 83 v3.toNatClampNeg)))) + (8 * t7.1)) + v3).toNatClampNeg) + ((t7.2 79 s20.1.toNatClampNeg) - (t7.2 102 ((2 * s20.1) + 1).toNatClampNeg)))), J) else none) rfl (zR_bif hc54 (zR_go ?_))
                refine zr_steps 2 (34, [some (.ref 73), some (.int v1), some (.int v2), some (.int v3), some (.int (s.1 + 1)), some (.int t7.1), some (.int s20.1), some (.int ((2 * s20.1) + 1)), some (.int ((t7.2 79 s20.1.toNatClampNeg) - (t7.2 102 ((2 * s20.1) + 1).toNatClampNeg)))], [], (SH, (zu (zu (zu t7.2 102 ((2 * s20.1) + 1).toNatClampNeg ((t7.2 102 ((2 * s20.1) + 1).toNatClampNeg) + ((t7.2 79 s20.1.toNatClampNeg) - (t7.2 102 ((2 * s20.1) + 1).toNatClampNeg)))) 97 ((8 * s.1) + v3).toNatClampNeg ((t7.2 97 ((8 * s.1) + v3).toNatClampNeg) - ((t7.2 79 s20.1.toNatClampNeg) - (t7.2 102 ((2 * s20.1) + 1).toNatClampNeg)))) 99 (((32 * (v1 + ((t7.2 78 s20.1.toNatClampNeg) * (t7.2 83 v3.toNatClampNeg)))) + (8 * t7.1)) + v3).toNatClampNeg ((t7.2 99 (((32 * (v1 + ((t7.2 78 s20.1.toNatClampNeg) * (t7.2 83 v3.toNatClampNeg)))) + (8 * t7.1)) + v3).toNatClampNeg) + ((t7.2 79 s20.1.toNatClampNeg) - (t7.2 102 ((2 * s20.1) + 1).toNatClampNeg)))), J)) rfl ?_
                have he := Option.some.inj h
                subst he
                exact zr_hdr (ls2 := [some (.ref 73), some (.int v1), some (.int v2), some (.int v3), some (.int (s.1 + 1)), none, none, none, none]) rfl rfl (show zRun X d 170 34 [some (.ref 73), some (.int v1), some (.int v2), some (.int v3), some (.int (s.1 + 1)), none, none, none, none] [] (SH, (zu (zu (zu t7.2 102 ((2 * s20.1) + 1).toNatClampNeg ((t7.2 102 ((2 * s20.1) + 1).toNatClampNeg) + ((t7.2 79 s20.1.toNatClampNeg) - (t7.2 102 ((2 * s20.1) + 1).toNatClampNeg)))) 97 ((8 * s.1) + v3).toNatClampNeg ((t7.2 97 ((8 * s.1) + v3).toNatClampNeg) - ((t7.2 79 s20.1.toNatClampNeg) - (t7.2 102 ((2 * s20.1) + 1).toNatClampNeg)))) 99 (((32 * (v1 + ((t7.2 78 s20.1.toNatClampNeg) * (t7.2 83 v3.toNatClampNeg)))) + (8 * t7.1)) + v3).toNatClampNeg ((t7.2 99 (((32 * (v1 + ((t7.2 78 s20.1.toNatClampNeg) * (t7.2 83 v3.toNatClampNeg)))) + (8 * t7.1)) + v3).toNatClampNeg) + ((t7.2 79 s20.1.toNatClampNeg) - (t7.2 102 ((2 * s20.1) + 1).toNatClampNeg)))), J) r M' from w)
              · rw [if_neg hc64] at h
                refine zr_steps 7 (239, [some (.ref 73), some (.int v1), some (.int v2), some (.int v3), some (.int s.1), some (.int t7.1), some (.int s20.1), some (.int ((2 * s20.1) + 1)), some (.int ((t7.2 79 s20.1.toNatClampNeg) - (t7.2 102 ((2 * s20.1) + 1).toNatClampNeg)))], [.int ((8 * s.1) + v3), .ref 97], (SH, t7.2, J)) rfl ?_
                obtain ⟨hc55, h⟩ := zbifo h
                refine zr_one (bif zin ((8 * s.1) + v3) 32 then zN 240 [some (.ref 73), some (.int v1), some (.int v2), some (.int v3), some (.int s.1), some (.int t7.1), some (.int s20.1), some (.int ((2 * s20.1) + 1)), some (.int ((t7.2 79 s20.1.toNatClampNeg) - (t7.2 102 ((2 * s20.1) + 1).toNatClampNeg)))] [.int (t7.2 97 ((8 * s.1) + v3).toNatClampNeg)] (SH, t7.2, J) else none) rfl (zR_bif hc55 (zR_go ?_))
                refine zr_steps 5 (249, [some (.ref 73), some (.int v1), some (.int v2), some (.int v3), some (.int s.1), some (.int t7.1), some (.int s20.1), some (.int ((2 * s20.1) + 1)), some (.int (t7.2 97 ((8 * s.1) + v3).toNatClampNeg))], [.int ((2 * s20.1) + 1), .ref 102, .int ((2 * s20.1) + 1), .ref 102], (SH, t7.2, J)) rfl ?_
                obtain ⟨hc56, h⟩ := zbifo h
                refine zr_one (bif zin ((2 * s20.1) + 1) 24 then zN 250 [some (.ref 73), some (.int v1), some (.int v2), some (.int v3), some (.int s.1), some (.int t7.1), some (.int s20.1), some (.int ((2 * s20.1) + 1)), some (.int (t7.2 97 ((8 * s.1) + v3).toNatClampNeg))] [.int (t7.2 102 ((2 * s20.1) + 1).toNatClampNeg), .int ((2 * s20.1) + 1), .ref 102] (SH, t7.2, J) else none) rfl (zR_bif hc56 (zR_go ?_))
                refine zr_steps 2 (253, [some (.ref 73), some (.int v1), some (.int v2), some (.int v3), some (.int s.1), some (.int t7.1), some (.int s20.1), some (.int ((2 * s20.1) + 1)), some (.int (t7.2 97 ((8 * s.1) + v3).toNatClampNeg))], [.int ((t7.2 102 ((2 * s20.1) + 1).toNatClampNeg) + (t7.2 97 ((8 * s.1) + v3).toNatClampNeg)), .int ((2 * s20.1) + 1), .ref 102], (SH, t7.2, J)) rfl ?_
                obtain ⟨hc57, h⟩ := zbifo h
                refine zr_one (bif zin ((2 * s20.1) + 1) 24 then zN 254 [some (.ref 73), some (.int v1), some (.int v2), some (.int v3), some (.int s.1), some (.int t7.1), some (.int s20.1), some (.int ((2 * s20.1) + 1)), some (.int (t7.2 97 ((8 * s.1) + v3).toNatClampNeg))] [] (SH, (zu t7.2 102 ((2 * s20.1) + 1).toNatClampNeg ((t7.2 102 ((2 * s20.1) + 1).toNatClampNeg) + (t7.2 97 ((8 * s.1) + v3).toNatClampNeg))), J) else none) rfl (zR_bif hc57 (zR_go ?_))
                refine zr_steps 8 (266, [some (.ref 73), some (.int v1), some (.int v2), some (.int v3), some (.int s.1), some (.int t7.1), some (.int s20.1), some (.int ((2 * s20.1) + 1)), some (.int (t7.2 97 ((8 * s.1) + v3).toNatClampNeg))], [.int ((8 * s.1) + v3), .ref 97, .int ((8 * s.1) + v3), .ref 97], (SH, (zu t7.2 102 ((2 * s20.1) + 1).toNatClampNeg ((t7.2 102 ((2 * s20.1) + 1).toNatClampNeg) + (t7.2 97 ((8 * s.1) + v3).toNatClampNeg))), J)) rfl ?_
                obtain ⟨hc58, h⟩ := zbifo h
                refine zr_one (bif zin ((8 * s.1) + v3) 32 then zN 267 [some (.ref 73), some (.int v1), some (.int v2), some (.int v3), some (.int s.1), some (.int t7.1), some (.int s20.1), some (.int ((2 * s20.1) + 1)), some (.int (t7.2 97 ((8 * s.1) + v3).toNatClampNeg))] [.int (t7.2 97 ((8 * s.1) + v3).toNatClampNeg), .int ((8 * s.1) + v3), .ref 97] (SH, (zu t7.2 102 ((2 * s20.1) + 1).toNatClampNeg ((t7.2 102 ((2 * s20.1) + 1).toNatClampNeg) + (t7.2 97 ((8 * s.1) + v3).toNatClampNeg))), J) else none) rfl (zR_bif hc58 (zR_go ?_))
                refine zr_steps 2 (270, [some (.ref 73), some (.int v1), some (.int v2), some (.int v3), some (.int s.1), some (.int t7.1), some (.int s20.1), some (.int ((2 * s20.1) + 1)), some (.int (t7.2 97 ((8 * s.1) + v3).toNatClampNeg))], [.int ((t7.2 97 ((8 * s.1) + v3).toNatClampNeg) - (t7.2 97 ((8 * s.1) + v3).toNatClampNeg)), .int ((8 * s.1) + v3), .ref 97], (SH, (zu t7.2 102 ((2 * s20.1) + 1).toNatClampNeg ((t7.2 102 ((2 * s20.1) + 1).toNatClampNeg) + (t7.2 97 ((8 * s.1) + v3).toNatClampNeg))), J)) rfl ?_
                obtain ⟨hc59, h⟩ := zbifo h
                refine zr_one (bif zin ((8 * s.1) + v3) 32 then zN 271 [some (.ref 73), some (.int v1), some (.int v2), some (.int v3), some (.int s.1), some (.int t7.1), some (.int s20.1), some (.int ((2 * s20.1) + 1)), some (.int (t7.2 97 ((8 * s.1) + v3).toNatClampNeg))] [] (SH, (zu (zu t7.2 102 ((2 * s20.1) + 1).toNatClampNeg ((t7.2 102 ((2 * s20.1) + 1).toNatClampNeg) + (t7.2 97 ((8 * s.1) + v3).toNatClampNeg))) 97 ((8 * s.1) + v3).toNatClampNeg ((t7.2 97 ((8 * s.1) + v3).toNatClampNeg) - (t7.2 97 ((8 * s.1) + v3).toNatClampNeg))), J) else none) rfl (zR_bif hc59 (zR_go ?_))
                refine zr_steps 7 (284, [some (.ref 73), some (.int v1), some (.int v2), some (.int v3), some (.int s.1), some (.int t7.1), some (.int s20.1), some (.int ((2 * s20.1) + 1)), some (.int (t7.2 97 ((8 * s.1) + v3).toNatClampNeg))], [.int s20.1, .ref 78, .int v1, .int 32, .ref 99], (SH, (zu (zu t7.2 102 ((2 * s20.1) + 1).toNatClampNeg ((t7.2 102 ((2 * s20.1) + 1).toNatClampNeg) + (t7.2 97 ((8 * s.1) + v3).toNatClampNeg))) 97 ((8 * s.1) + v3).toNatClampNeg ((t7.2 97 ((8 * s.1) + v3).toNatClampNeg) - (t7.2 97 ((8 * s.1) + v3).toNatClampNeg))), J)) rfl ?_
                obtain ⟨hc60, h⟩ := zbifo h
                refine zr_one (bif zin s20.1 12 then zN 285 [some (.ref 73), some (.int v1), some (.int v2), some (.int v3), some (.int s.1), some (.int t7.1), some (.int s20.1), some (.int ((2 * s20.1) + 1)), some (.int (t7.2 97 ((8 * s.1) + v3).toNatClampNeg))] [.int (t7.2 78 s20.1.toNatClampNeg), .int v1, .int 32, .ref 99] (SH, (zu (zu t7.2 102 ((2 * s20.1) + 1).toNatClampNeg ((t7.2 102 ((2 * s20.1) + 1).toNatClampNeg) + (t7.2 97 ((8 * s.1) + v3).toNatClampNeg))) 97 ((8 * s.1) + v3).toNatClampNeg ((t7.2 97 ((8 * s.1) + v3).toNatClampNeg) - (t7.2 97 ((8 * s.1) + v3).toNatClampNeg))), J) else none) rfl (zR_bif hc60 (zR_go ?_))
                refine zr_steps 3 (290, [some (.ref 73), some (.int v1), some (.int v2), some (.int v3), some (.int s.1), some (.int t7.1), some (.int s20.1), some (.int ((2 * s20.1) + 1)), some (.int (t7.2 97 ((8 * s.1) + v3).toNatClampNeg))], [.int v3, .ref 83, .int (t7.2 78 s20.1.toNatClampNeg), .int v1, .int 32, .ref 99], (SH, (zu (zu t7.2 102 ((2 * s20.1) + 1).toNatClampNeg ((t7.2 102 ((2 * s20.1) + 1).toNatClampNeg) + (t7.2 97 ((8 * s.1) + v3).toNatClampNeg))) 97 ((8 * s.1) + v3).toNatClampNeg ((t7.2 97 ((8 * s.1) + v3).toNatClampNeg) - (t7.2 97 ((8 * s.1) + v3).toNatClampNeg))), J)) rfl ?_
                obtain ⟨hc61, h⟩ := zbifo h
                refine zr_one (bif zin v3 8 then zN 291 [some (.ref 73), some (.int v1), some (.int v2), some (.int v3), some (.int s.1), some (.int t7.1), some (.int s20.1), some (.int ((2 * s20.1) + 1)), some (.int (t7.2 97 ((8 * s.1) + v3).toNatClampNeg))] [.int (t7.2 83 v3.toNatClampNeg), .int (t7.2 78 s20.1.toNatClampNeg), .int v1, .int 32, .ref 99] (SH, (zu (zu t7.2 102 ((2 * s20.1) + 1).toNatClampNeg ((t7.2 102 ((2 * s20.1) + 1).toNatClampNeg) + (t7.2 97 ((8 * s.1) + v3).toNatClampNeg))) 97 ((8 * s.1) + v3).toNatClampNeg ((t7.2 97 ((8 * s.1) + v3).toNatClampNeg) - (t7.2 97 ((8 * s.1) + v3).toNatClampNeg))), J) else none) rfl (zR_bif hc61 (zR_go ?_))
                refine zr_steps 10 (303, [some (.ref 73), some (.int v1), some (.int v2), some (.int v3), some (.int s.1), some (.int t7.1), some (.int s20.1), some (.int ((2 * s20.1) + 1)), some (.int (t7.2 97 ((8 * s.1) + v3).toNatClampNeg))], [.int (((32 * (v1 + ((t7.2 78 s20.1.toNatClampNeg) * (t7.2 83 v3.toNatClampNeg)))) + (8 * t7.1)) + v3), .ref 99, .int (((32 * (v1 + ((t7.2 78 s20.1.toNatClampNeg) * (t7.2 83 v3.toNatClampNeg)))) + (8 * t7.1)) + v3), .ref 99], (SH, (zu (zu t7.2 102 ((2 * s20.1) + 1).toNatClampNeg ((t7.2 102 ((2 * s20.1) + 1).toNatClampNeg) + (t7.2 97 ((8 * s.1) + v3).toNatClampNeg))) 97 ((8 * s.1) + v3).toNatClampNeg ((t7.2 97 ((8 * s.1) + v3).toNatClampNeg) - (t7.2 97 ((8 * s.1) + v3).toNatClampNeg))), J)) rfl ?_
                obtain ⟨hc62, h⟩ := zbifo h
                refine zr_one (bif zin (((32 * (v1 + ((t7.2 78 s20.1.toNatClampNeg) * (t7.2 83 v3.toNatClampNeg)))) + (8 * t7.1)) + v3) 4864 then zN 304 [some (.ref 73), some (.int v1), some (.int v2), some (.int v3), some (.int s.1), some (.int t7.1), some (.int s20.1), some (.int ((2 * s20.1) + 1)), some (.int (t7.2 97 ((8 * s.1) + v3).toNatClampNeg))] [.int (t7.2 99 (((32 * (v1 + ((t7.2 78 s20.1.toNatClampNeg) * (t7.2 83 v3.toNatClampNeg)))) + (8 * t7.1)) + v3).toNatClampNeg), .int (((32 * (v1 + ((t7.2 78 s20.1.toNatClampNeg) * (t7.2 83 v3.toNatClampNeg)))) + (8 * t7.1)) + v3), .ref 99] (SH, (zu (zu t7.2 102 ((2 * s20.1) + 1).toNatClampNeg ((t7.2 102 ((2 * s20.1) + 1).toNatClampNeg) + (t7.2 97 ((8 * s.1) + v3).toNatClampNeg))) 97 ((8 * s.1) + v3).toNatClampNeg ((t7.2 97 ((8 * s.1) + v3).toNatClampNeg) - (t7.2 97 ((8 * s.1) + v3).toNatClampNeg))), J) else none) rfl (zR_bif hc62 (zR_go ?_))
                refine zr_steps 2 (307, [some (.ref 73), some (.int v1), some (.int v2), some (.int v3), some (.int s.1), some (.int t7.1), some (.int s20.1), some (.int ((2 * s20.1) + 1)), some (.int (t7.2 97 ((8 * s.1) + v3).toNatClampNeg))], [.int ((t7.2 99 (((32 * (v1 + ((t7.2 78 s20.1.toNatClampNeg) * (t7.2 83 v3.toNatClampNeg)))) + (8 * t7.1)) + v3).toNatClampNeg) + (t7.2 97 ((8 * s.1) + v3).toNatClampNeg)), .int (((32 * (v1 + ((t7.2 78 s20.1.toNatClampNeg) * (t7.2 83 v3.toNatClampNeg)))) + (8 * t7.1)) + v3), .ref 99], (SH, (zu (zu t7.2 102 ((2 * s20.1) + 1).toNatClampNeg ((t7.2 102 ((2 * s20.1) + 1).toNatClampNeg) + (t7.2 97 ((8 * s.1) + v3).toNatClampNeg))) 97 ((8 * s.1) + v3).toNatClampNeg ((t7.2 97 ((8 * s.1) + v3).toNatClampNeg) - (t7.2 97 ((8 * s.1) + v3).toNatClampNeg))), J)) rfl ?_
                obtain ⟨hc63, h⟩ := zbifo h
                refine zr_one (bif zin (((32 * (v1 + ((t7.2 78 s20.1.toNatClampNeg) * (t7.2 83 v3.toNatClampNeg)))) + (8 * t7.1)) + v3) 4864 then zN 308 [some (.ref 73), some (.int v1), some (.int v2), some (.int v3), some (.int s.1), some (.int t7.1), some (.int s20.1), some (.int ((2 * s20.1) + 1)), some (.int (t7.2 97 ((8 * s.1) + v3).toNatClampNeg))] [] (SH, (zu (zu (zu t7.2 102 ((2 * s20.1) + 1).toNatClampNeg ((t7.2 102 ((2 * s20.1) + 1).toNatClampNeg) + (t7.2 97 ((8 * s.1) + v3).toNatClampNeg))) 97 ((8 * s.1) + v3).toNatClampNeg ((t7.2 97 ((8 * s.1) + v3).toNatClampNeg) - (t7.2 97 ((8 * s.1) + v3).toNatClampNeg))) 99 (((32 * (v1 + ((t7.2 78 s20.1.toNatClampNeg) * (t7.2 83 v3.toNatClampNeg)))) + (8 * t7.1)) + v3).toNatClampNeg ((t7.2 99 (((32 * (v1 + ((t7.2 78 s20.1.toNatClampNeg) * (t7.2 83 v3.toNatClampNeg)))) + (8 * t7.1)) + v3).toNatClampNeg) + (t7.2 97 ((8 * s.1) + v3).toNatClampNeg))), J) else none) rfl (zR_bif hc63 (zR_go ?_))
                refine zr_steps 2 (34, [some (.ref 73), some (.int v1), some (.int v2), some (.int v3), some (.int (s.1 + 1)), some (.int t7.1), some (.int s20.1), some (.int ((2 * s20.1) + 1)), some (.int (t7.2 97 ((8 * s.1) + v3).toNatClampNeg))], [], (SH, (zu (zu (zu t7.2 102 ((2 * s20.1) + 1).toNatClampNeg ((t7.2 102 ((2 * s20.1) + 1).toNatClampNeg) + (t7.2 97 ((8 * s.1) + v3).toNatClampNeg))) 97 ((8 * s.1) + v3).toNatClampNeg ((t7.2 97 ((8 * s.1) + v3).toNatClampNeg) - (t7.2 97 ((8 * s.1) + v3).toNatClampNeg))) 99 (((32 * (v1 + ((t7.2 78 s20.1.toNatClampNeg) * (t7.2 83 v3.toNatClampNeg)))) + (8 * t7.1)) + v3).toNatClampNeg ((t7.2 99 (((32 * (v1 + ((t7.2 78 s20.1.toNatClampNeg) * (t7.2 83 v3.toNatClampNeg)))) + (8 * t7.1)) + v3).toNatClampNeg) + (t7.2 97 ((8 * s.1) + v3).toNatClampNeg))), J)) rfl ?_
                have he := Option.some.inj h
                subst he
                exact zr_hdr (ls2 := [some (.ref 73), some (.int v1), some (.int v2), some (.int v3), some (.int (s.1 + 1)), none, none, none, none]) rfl rfl (show zRun X d 170 34 [some (.ref 73), some (.int v1), some (.int v2), some (.int v3), some (.int (s.1 + 1)), none, none, none, none] [] (SH, (zu (zu (zu t7.2 102 ((2 * s20.1) + 1).toNatClampNeg ((t7.2 102 ((2 * s20.1) + 1).toNatClampNeg) + (t7.2 97 ((8 * s.1) + v3).toNatClampNeg))) 97 ((8 * s.1) + v3).toNatClampNeg ((t7.2 97 ((8 * s.1) + v3).toNatClampNeg) - (t7.2 97 ((8 * s.1) + v3).toNatClampNeg))) 99 (((32 * (v1 + ((t7.2 78 s20.1.toNatClampNeg) * (t7.2 83 v3.toNatClampNeg)))) + (8 * t7.1)) + v3).toNatClampNeg ((t7.2 99 (((32 * (v1 + ((t7.2 78 s20.1.toNatClampNeg) * (t7.2 83 v3.toNatClampNeg)))) + (8 * t7.1)) + v3).toNatClampNeg) + (t7.2 97 ((8 * s.1) + v3).toNatClampNeg))), J) r M' from w)
          · rw [if_neg hc66] at h
            refine zr_steps 3 (34, [some (.ref 73), some (.int v1), some (.int v2), some (.int v3), some (.int (s.1 + 1)), some (.int t7.1), some (.int s20.1), none, none], [], (SH, t7.2, J)) rfl ?_
            have he := Option.some.inj h
            subst he
            exact zr_hdr (ls2 := [some (.ref 73), some (.int v1), some (.int v2), some (.int v3), some (.int (s.1 + 1)), none, none, none, none]) rfl rfl (show zRun X d 170 34 [some (.ref 73), some (.int v1), some (.int v2), some (.int v3), some (.int (s.1 + 1)), none, none, none, none] [] (SH, t7.2, J) r M' from w))
set_option maxRecDepth 100000 in
set_option maxHeartbeats 4000000 in
theorem ok_f170_go_L23 {X : zX} {d : Nat} {r : Option Value} {M' : zM} (hd : 4 ≤ d) (v1 : Int32) (v2 : Int32) {J : (Nat → Nat → Int64)} : ∀ (n : Nat) (s x : (Int32 × (Nat → Nat → Int32))), zloop (f170_go_L23 v1 v2) n s = some x → (fun (x : (Int32 × (Nat → Nat → Int32))) => zRun X d 170 320 [none, none, none, none, none, none, none, none, none] [] (SH, x.2, J) r M') x → (fun (s : (Int32 × (Nat → Nat → Int32))) => zRun X d 170 23 [some (.ref 73), some (.int v1), some (.int v2), some (.int s.1), none, none, none, none, none] [] (SH, s.2, J) r M') s := zloop_ok (B := (f170_go_L23 v1 v2)) (Wh := fun (s : (Int32 × (Nat → Nat → Int32))) => zRun X d 170 23 [some (.ref 73), some (.int v1), some (.int v2), some (.int s.1), none, none, none, none, none] [] (SH, s.2, J) r M') (Wx := fun (x : (Int32 × (Nat → Nat → Int32))) => zRun X d 170 320 [none, none, none, none, none, none, none, none, none] [] (SH, x.2, J) r M') (fun s y h w => by
  unfold f170_go_L23 at h
  refine zr_steps 3 (28, [some (.ref 73), some (.int v1), some (.int v2), some (.int s.1), none, none, none, none, none], [.int (s.2 73 9), .int s.1], (SH, s.2, J)) rfl ?_
  refine zr_one (if (s.2 73 9) ≤ s.1 then zN 320 [some (.ref 73), some (.int v1), some (.int v2), some (.int s.1), none, none, none, none, none] [] (SH, s.2, J) else zN 31 [some (.ref 73), some (.int v1), some (.int v2), some (.int s.1), none, none, none, none, none] [] (SH, s.2, J)) rfl (zR_if (fun hc73 => zR_go ?_) (fun hc73 => zR_go ?_))
  · rw [if_pos hc73] at h
    have he := Option.some.inj h
    subst he
    exact zr_hdv (ls2 := [none, none, none, none, none, none, none, none, none]) rfl rfl (show zRun X d 170 320 [none, none, none, none, none, none, none, none, none] [] (SH, s.2, J) r M' from w)
  · rw [if_neg hc73] at h
    refine zr_steps 2 (34, [some (.ref 73), some (.int v1), some (.int v2), some (.int s.1), some (.int 0), none, none, none, none], [], (SH, s.2, J)) rfl ?_
    obtain ⟨s71, ho72, h⟩ := zbind h
    refine zr_hdr (ls2 := [some (.ref 73), some (.int v1), some (.int v2), some (.int s.1), some (.int 0), none, none, none, none]) rfl rfl ?_
    refine ok_f170_go_L34 (by omega) v1 v2 s.1 5000 ((0 : Int32), s.2) s71 ho72 ?_
    show zRun X d 170 314 [some (.ref 73), some (.int v1), some (.int v2), some (.int s.1), none, none, none, none, none] [] (SH, s71.2, J) _ _
    refine zr_steps 2 (23, [some (.ref 73), some (.int v1), some (.int v2), some (.int (s.1 + 1)), none, none, none, none, none], [], (SH, s71.2, J)) rfl ?_
    have he := Option.some.inj h
    subst he
    exact zr_hdr (ls2 := [some (.ref 73), some (.int v1), some (.int v2), some (.int (s.1 + 1)), none, none, none, none, none]) rfl rfl (show zRun X d 170 23 [some (.ref 73), some (.int v1), some (.int v2), some (.int (s.1 + 1)), none, none, none, none, none] [] (SH, s71.2, J) r M' from w))
set_option maxRecDepth 100000 in
set_option maxHeartbeats 4000000 in
theorem ok_f170_go {X : zX} {d : Nat} (hd : 4 ≤ d) (v1 : Int32) (v2 : Int32) {I : (Nat → Nat → Int32)} {J : (Nat → Nat → Int64)} (t : (Nat → Nat → Int32)) (h : f170_go v1 v2 I = some t) : zRun X d 170 0 (zent 170 [.ref 73, .int v1, .int v2]) [] (SH, I, J) none (SH, t, J) := by
  unfold f170_go at h
  refine zr_steps 2 (2, [some (.ref 73), some (.int v1), some (.int v2), some (.int 0), none, none, none, none, none], [], (SH, I, J)) rfl ?_
  obtain ⟨s3, ho4, h⟩ := zbind h
  refine zr_hdr (ls2 := [some (.ref 73), some (.int v1), some (.int v2), some (.int 0), none, none, none, none, none]) rfl rfl ?_
  refine ok_f170_go_L2 (by omega) v1 v2 5000 ((0 : Int32), I) s3 ho4 ?_
  show zRun X d 170 21 [some (.ref 73), some (.int v1), some (.int v2), none, none, none, none, none, none] [] (SH, s3.2, J) _ _
  refine zr_steps 2 (23, [some (.ref 73), some (.int v1), some (.int v2), some (.int 0), none, none, none, none, none], [], (SH, s3.2, J)) rfl ?_
  obtain ⟨s74, ho75, h⟩ := zbind h
  refine zr_hdr (ls2 := [some (.ref 73), some (.int v1), some (.int v2), some (.int 0), none, none, none, none, none]) rfl rfl ?_
  refine ok_f170_go_L23 (by omega) v1 v2 5000 ((0 : Int32), s3.2) s74 ho75 ?_
  show zRun X d 170 320 [none, none, none, none, none, none, none, none, none] [] (SH, s74.2, J) _ _
  have he := Option.some.inj h
  subst he
  exact zr_one (some (.inr (.inr none))) rfl (zR_ret rfl rfl)
def f172_countSquare_L72 (v1 : Int32) (v2 : Int32) (v3 : Int32) (I : (Nat → Nat → Int32)) (s : (Int32 × Int32)) : Option ((Int32 × Int32) ⊕ (Int32 × Int32)) :=
  if v2 ≤ s.2 then
    some (.inl (s.1, s.2))
  else
    bif zin (((32 * s.2) + (8 * v1)) + v3) 1952 then
    if s.1 ≤ (I 100 (((32 * s.2) + (8 * v1)) + v3).toNatClampNeg) then
      some (.inr (s.1, (s.2 + 1)))
    else
      bif zin (((32 * s.2) + (8 * v1)) + v3) 1952 then
      some (.inr ((I 100 (((32 * s.2) + (8 * v1)) + v3).toNatClampNeg), (s.2 + 1)))
      else none
    else none
def f172_countSquare_L31 (v1 : Int32) (v2 : Int32) (s : (Int32 × (Nat → Nat → Int32))) : Option ((Int32 × (Nat → Nat → Int32)) ⊕ (Int32 × (Nat → Nat → Int32))) :=
  if (s.2 73 9) ≤ s.1 then
    some (.inl (s.1, s.2))
  else
    bif zin ((8 * v1) + s.1) 32 then
    if (s.2 73 17) ≤ v2 then
      Option.bind (zloop (f172_countSquare_L72 v1 v2 s.1 s.2) 5000 ((s.2 97 ((8 * v1) + s.1).toNatClampNeg), (v2 - (s.2 73 17)))) fun s7 =>
      bif zin v1 4 then
      bif zin v1 4 then
      some (.inr ((s.1 + 1), (zu s.2 103 v1.toNatClampNeg ((s.2 103 v1.toNatClampNeg) + s7.1))))
      else none
      else none
    else
      Option.bind (zloop (f172_countSquare_L72 v1 v2 s.1 s.2) 5000 ((s.2 97 ((8 * v1) + s.1).toNatClampNeg), (0 : Int32))) fun s11 =>
      bif zin v1 4 then
      bif zin v1 4 then
      some (.inr ((s.1 + 1), (zu s.2 103 v1.toNatClampNeg ((s.2 103 v1.toNatClampNeg) + s11.1))))
      else none
      else none
    else none
def f172_countSquare (v1 : Int32) (v2 : Int32) (I : (Nat → Nat → Int32)) : Option (Nat → Nat → Int32) :=
  if (I 73 45) ≤ 0 then
    bif zin v1 4 then
    Option.bind (zloop (f172_countSquare_L31 v1 v2) 5000 ((0 : Int32), (zu I 103 v1.toNatClampNeg 0))) fun s17 =>
    some s17.2
    else none
  else
    if v1 = (I 73 46) then
      bif zin v1 4 then
      Option.bind (zloop (f172_countSquare_L31 v1 v2) 5000 ((0 : Int32), (zu I 103 v1.toNatClampNeg (I 73 45)))) fun s20 =>
      some s20.2
      else none
    else
      bif zin v1 4 then
      Option.bind (zloop (f172_countSquare_L31 v1 v2) 5000 ((0 : Int32), (zu I 103 v1.toNatClampNeg 0))) fun s23 =>
      some s23.2
      else none
set_option maxRecDepth 100000 in
set_option maxHeartbeats 4000000 in
theorem ok_f172_countSquare_L72 {X : zX} {d : Nat} {r : Option Value} {M' : zM} (hd : 0 ≤ d) (v1 : Int32) (v2 : Int32) (v3 : Int32) {I : (Nat → Nat → Int32)} {J : (Nat → Nat → Int64)} : ∀ (n : Nat) (s x : (Int32 × Int32)), zloop (f172_countSquare_L72 v1 v2 v3 I) n s = some x → (fun (x : (Int32 × Int32)) => zRun X d 172 125 [some (.ref 73), some (.int v1), some (.int v2), some (.int v3), some (.int x.1), none] [] (SH, I, J) r M') x → (fun (s : (Int32 × Int32)) => zRun X d 172 72 [some (.ref 73), some (.int v1), some (.int v2), some (.int v3), some (.int s.1), some (.int s.2)] [] (SH, I, J) r M') s := zloop_ok (B := (f172_countSquare_L72 v1 v2 v3 I)) (Wh := fun (s : (Int32 × Int32)) => zRun X d 172 72 [some (.ref 73), some (.int v1), some (.int v2), some (.int v3), some (.int s.1), some (.int s.2)] [] (SH, I, J) r M') (Wx := fun (x : (Int32 × Int32)) => zRun X d 172 125 [some (.ref 73), some (.int v1), some (.int v2), some (.int v3), some (.int x.1), none] [] (SH, I, J) r M') (fun s y h w => by
  unfold f172_countSquare_L72 at h
  refine zr_steps 2 (75, [some (.ref 73), some (.int v1), some (.int v2), some (.int v3), some (.int s.1), some (.int s.2)], [.int v2, .int s.2], (SH, I, J)) rfl ?_
  refine zr_one (if v2 ≤ s.2 then zN 125 [some (.ref 73), some (.int v1), some (.int v2), some (.int v3), some (.int s.1), some (.int s.2)] [] (SH, I, J) else zN 78 [some (.ref 73), some (.int v1), some (.int v2), some (.int v3), some (.int s.1), some (.int s.2)] [] (SH, I, J)) rfl (zR_if (fun hc6 => zR_go ?_) (fun hc6 => zR_go ?_))
  · rw [if_pos hc6] at h
    have he := Option.some.inj h
    subst he
    exact zr_hdr (ls2 := [some (.ref 73), some (.int v1), some (.int v2), some (.int v3), some (.int s.1), none]) rfl rfl (show zRun X d 172 125 [some (.ref 73), some (.int v1), some (.int v2), some (.int v3), some (.int s.1), none] [] (SH, I, J) r M' from w)
  · rw [if_neg hc6] at h
    refine zr_steps 11 (94, [some (.ref 73), some (.int v1), some (.int v2), some (.int v3), some (.int s.1), some (.int s.2)], [.int (((32 * s.2) + (8 * v1)) + v3), .ref 100], (SH, I, J)) rfl ?_
    obtain ⟨hc3, h⟩ := zbifo h
    refine zr_one (bif zin (((32 * s.2) + (8 * v1)) + v3) 1952 then zN 95 [some (.ref 73), some (.int v1), some (.int v2), some (.int v3), some (.int s.1), some (.int s.2)] [.int (I 100 (((32 * s.2) + (8 * v1)) + v3).toNatClampNeg)] (SH, I, J) else none) rfl (zR_bif hc3 (zR_go ?_))
    refine zr_steps 1 (97, [some (.ref 73), some (.int v1), some (.int v2), some (.int v3), some (.int s.1), some (.int s.2)], [.int s.1, .int (I 100 (((32 * s.2) + (8 * v1)) + v3).toNatClampNeg)], (SH, I, J)) rfl ?_
    refine zr_one (if s.1 ≤ (I 100 (((32 * s.2) + (8 * v1)) + v3).toNatClampNeg) then zN 119 [some (.ref 73), some (.int v1), some (.int v2), some (.int v3), some (.int s.1), some (.int s.2)] [] (SH, I, J) else zN 100 [some (.ref 73), some (.int v1), some (.int v2), some (.int v3), some (.int s.1), some (.int s.2)] [] (SH, I, J)) rfl (zR_if (fun hc5 => zR_go ?_) (fun hc5 => zR_go ?_))
    · rw [if_pos hc5] at h
      refine zr_steps 2 (72, [some (.ref 73), some (.int v1), some (.int v2), some (.int v3), some (.int s.1), some (.int (s.2 + 1))], [], (SH, I, J)) rfl ?_
      have he := Option.some.inj h
      subst he
      exact zr_hdr (ls2 := [some (.ref 73), some (.int v1), some (.int v2), some (.int v3), some (.int s.1), some (.int (s.2 + 1))]) rfl rfl (show zRun X d 172 72 [some (.ref 73), some (.int v1), some (.int v2), some (.int v3), some (.int s.1), some (.int (s.2 + 1))] [] (SH, I, J) r M' from w)
    · rw [if_neg hc5] at h
      refine zr_steps 11 (116, [some (.ref 73), some (.int v1), some (.int v2), some (.int v3), some (.int s.1), some (.int s.2)], [.int (((32 * s.2) + (8 * v1)) + v3), .ref 100], (SH, I, J)) rfl ?_
      obtain ⟨hc4, h⟩ := zbifo h
      refine zr_one (bif zin (((32 * s.2) + (8 * v1)) + v3) 1952 then zN 117 [some (.ref 73), some (.int v1), some (.int v2), some (.int v3), some (.int s.1), some (.int s.2)] [.int (I 100 (((32 * s.2) + (8 * v1)) + v3).toNatClampNeg)] (SH, I, J) else none) rfl (zR_bif hc4 (zR_go ?_))
      refine zr_steps 3 (72, [some (.ref 73), some (.int v1), some (.int v2), some (.int v3), some (.int (I 100 (((32 * s.2) + (8 * v1)) + v3).toNatClampNeg)), some (.int (s.2 + 1))], [], (SH, I, J)) rfl ?_
      have he := Option.some.inj h
      subst he
      exact zr_hdr (ls2 := [some (.ref 73), some (.int v1), some (.int v2), some (.int v3), some (.int (I 100 (((32 * s.2) + (8 * v1)) + v3).toNatClampNeg)), some (.int (s.2 + 1))]) rfl rfl (show zRun X d 172 72 [some (.ref 73), some (.int v1), some (.int v2), some (.int v3), some (.int (I 100 (((32 * s.2) + (8 * v1)) + v3).toNatClampNeg)), some (.int (s.2 + 1))] [] (SH, I, J) r M' from w))
set_option maxRecDepth 100000 in
set_option maxHeartbeats 4000000 in
theorem ok_f172_countSquare_L31 {X : zX} {d : Nat} {r : Option Value} {M' : zM} (hd : 0 ≤ d) (v1 : Int32) (v2 : Int32) {J : (Nat → Nat → Int64)} : ∀ (n : Nat) (s x : (Int32 × (Nat → Nat → Int32))), zloop (f172_countSquare_L31 v1 v2) n s = some x → (fun (x : (Int32 × (Nat → Nat → Int32))) => zRun X d 172 142 [none, none, none, none, none, none] [] (SH, x.2, J) r M') x → (fun (s : (Int32 × (Nat → Nat → Int32))) => zRun X d 172 31 [some (.ref 73), some (.int v1), some (.int v2), some (.int s.1), none, none] [] (SH, s.2, J) r M') s := zloop_ok (B := (f172_countSquare_L31 v1 v2)) (Wh := fun (s : (Int32 × (Nat → Nat → Int32))) => zRun X d 172 31 [some (.ref 73), some (.int v1), some (.int v2), some (.int s.1), none, none] [] (SH, s.2, J) r M') (Wx := fun (x : (Int32 × (Nat → Nat → Int32))) => zRun X d 172 142 [none, none, none, none, none, none] [] (SH, x.2, J) r M') (fun s y h w => by
  unfold f172_countSquare_L31 at h
  refine zr_steps 3 (36, [some (.ref 73), some (.int v1), some (.int v2), some (.int s.1), none, none], [.int (s.2 73 9), .int s.1], (SH, s.2, J)) rfl ?_
  refine zr_one (if (s.2 73 9) ≤ s.1 then zN 142 [some (.ref 73), some (.int v1), some (.int v2), some (.int s.1), none, none] [] (SH, s.2, J) else zN 39 [some (.ref 73), some (.int v1), some (.int v2), some (.int s.1), none, none] [] (SH, s.2, J)) rfl (zR_if (fun hc16 => zR_go ?_) (fun hc16 => zR_go ?_))
  · rw [if_pos hc16] at h
    have he := Option.some.inj h
    subst he
    exact zr_hdv (ls2 := [none, none, none, none, none, none]) rfl rfl (show zRun X d 172 142 [none, none, none, none, none, none] [] (SH, s.2, J) r M' from w)
  · rw [if_neg hc16] at h
    refine zr_steps 7 (49, [some (.ref 73), some (.int v1), some (.int v2), some (.int s.1), none, none], [.int ((8 * v1) + s.1), .ref 97], (SH, s.2, J)) rfl ?_
    obtain ⟨hc2, h⟩ := zbifo h
    refine zr_one (bif zin ((8 * v1) + s.1) 32 then zN 50 [some (.ref 73), some (.int v1), some (.int v2), some (.int s.1), none, none] [.int (s.2 97 ((8 * v1) + s.1).toNatClampNeg)] (SH, s.2, J) else none) rfl (zR_bif hc2 (zR_go ?_))
    refine zr_steps 4 (57, [some (.ref 73), some (.int v1), some (.int v2), some (.int s.1), some (.int (s.2 97 ((8 * v1) + s.1).toNatClampNeg)), none], [.int (s.2 73 17), .int v2], (SH, s.2, J)) rfl ?_
    refine zr_one (if (s.2 73 17) ≤ v2 then zN 64 [some (.ref 73), some (.int v1), some (.int v2), some (.int s.1), some (.int (s.2 97 ((8 * v1) + s.1).toNatClampNeg)), none] [] (SH, s.2, J) else zN 60 [some (.ref 73), some (.int v1), some (.int v2), some (.int s.1), some (.int (s.2 97 ((8 * v1) + s.1).toNatClampNeg)), none] [] (SH, s.2, J)) rfl (zR_if (fun hc15 => zR_go ?_) (fun hc15 => zR_go ?_))
    · rw [if_pos hc15] at h
      refine zr_steps 5 (72, [some (.ref 73), some (.int v1), some (.int v2), some (.int s.1), some (.int (s.2 97 ((8 * v1) + s.1).toNatClampNeg)), some (.int (v2 - (s.2 73 17)))], [], (SH, s.2, J)) rfl ?_
      obtain ⟨s7, ho8, h⟩ := zbind h
      refine zr_hdr (ls2 := [some (.ref 73), some (.int v1), some (.int v2), some (.int s.1), some (.int (s.2 97 ((8 * v1) + s.1).toNatClampNeg)), some (.int (v2 - (s.2 73 17)))]) rfl rfl ?_
      refine ok_f172_countSquare_L72 (by omega) v1 v2 s.1 5000 ((s.2 97 ((8 * v1) + s.1).toNatClampNeg), (v2 - (s.2 73 17))) s7 ho8 ?_
      show zRun X d 172 125 [some (.ref 73), some (.int v1), some (.int v2), some (.int s.1), some (.int s7.1), none] [] (SH, s.2, J) _ _
      refine zr_steps 4 (131, [some (.ref 73), some (.int v1), some (.int v2), some (.int s.1), some (.int s7.1), none], [.int v1, .ref 103, .int v1, .ref 103], (SH, s.2, J)) rfl ?_
      obtain ⟨hc9, h⟩ := zbifo h
      refine zr_one (bif zin v1 4 then zN 132 [some (.ref 73), some (.int v1), some (.int v2), some (.int s.1), some (.int s7.1), none] [.int (s.2 103 v1.toNatClampNeg), .int v1, .ref 103] (SH, s.2, J) else none) rfl (zR_bif hc9 (zR_go ?_))
      refine zr_steps 2 (135, [some (.ref 73), some (.int v1), some (.int v2), some (.int s.1), some (.int s7.1), none], [.int ((s.2 103 v1.toNatClampNeg) + s7.1), .int v1, .ref 103], (SH, s.2, J)) rfl ?_
      obtain ⟨hc10, h⟩ := zbifo h
      refine zr_one (bif zin v1 4 then zN 136 [some (.ref 73), some (.int v1), some (.int v2), some (.int s.1), some (.int s7.1), none] [] (SH, (zu s.2 103 v1.toNatClampNeg ((s.2 103 v1.toNatClampNeg) + s7.1)), J) else none) rfl (zR_bif hc10 (zR_go ?_))
      refine zr_steps 2 (31, [some (.ref 73), some (.int v1), some (.int v2), some (.int (s.1 + 1)), some (.int s7.1), none], [], (SH, (zu s.2 103 v1.toNatClampNeg ((s.2 103 v1.toNatClampNeg) + s7.1)), J)) rfl ?_
      have he := Option.some.inj h
      subst he
      exact zr_hdr (ls2 := [some (.ref 73), some (.int v1), some (.int v2), some (.int (s.1 + 1)), none, none]) rfl rfl (show zRun X d 172 31 [some (.ref 73), some (.int v1), some (.int v2), some (.int (s.1 + 1)), none, none] [] (SH, (zu s.2 103 v1.toNatClampNeg ((s.2 103 v1.toNatClampNeg) + s7.1)), J) r M' from w)
    · rw [if_neg hc15] at h
      refine zr_steps 3 (72, [some (.ref 73), some (.int v1), some (.int v2), some (.int s.1), some (.int (s.2 97 ((8 * v1) + s.1).toNatClampNeg)), some (.int 0)], [], (SH, s.2, J)) rfl ?_
      obtain ⟨s11, ho12, h⟩ := zbind h
      refine zr_hdr (ls2 := [some (.ref 73), some (.int v1), some (.int v2), some (.int s.1), some (.int (s.2 97 ((8 * v1) + s.1).toNatClampNeg)), some (.int 0)]) rfl rfl ?_
      refine ok_f172_countSquare_L72 (by omega) v1 v2 s.1 5000 ((s.2 97 ((8 * v1) + s.1).toNatClampNeg), (0 : Int32)) s11 ho12 ?_
      show zRun X d 172 125 [some (.ref 73), some (.int v1), some (.int v2), some (.int s.1), some (.int s11.1), none] [] (SH, s.2, J) _ _
      refine zr_steps 4 (131, [some (.ref 73), some (.int v1), some (.int v2), some (.int s.1), some (.int s11.1), none], [.int v1, .ref 103, .int v1, .ref 103], (SH, s.2, J)) rfl ?_
      obtain ⟨hc13, h⟩ := zbifo h
      refine zr_one (bif zin v1 4 then zN 132 [some (.ref 73), some (.int v1), some (.int v2), some (.int s.1), some (.int s11.1), none] [.int (s.2 103 v1.toNatClampNeg), .int v1, .ref 103] (SH, s.2, J) else none) rfl (zR_bif hc13 (zR_go ?_))
      refine zr_steps 2 (135, [some (.ref 73), some (.int v1), some (.int v2), some (.int s.1), some (.int s11.1), none], [.int ((s.2 103 v1.toNatClampNeg) + s11.1), .int v1, .ref 103], (SH, s.2, J)) rfl ?_
      obtain ⟨hc14, h⟩ := zbifo h
      refine zr_one (bif zin v1 4 then zN 136 [some (.ref 73), some (.int v1), some (.int v2), some (.int s.1), some (.int s11.1), none] [] (SH, (zu s.2 103 v1.toNatClampNeg ((s.2 103 v1.toNatClampNeg) + s11.1)), J) else none) rfl (zR_bif hc14 (zR_go ?_))
      refine zr_steps 2 (31, [some (.ref 73), some (.int v1), some (.int v2), some (.int (s.1 + 1)), some (.int s11.1), none], [], (SH, (zu s.2 103 v1.toNatClampNeg ((s.2 103 v1.toNatClampNeg) + s11.1)), J)) rfl ?_
      have he := Option.some.inj h
      subst he
      exact zr_hdr (ls2 := [some (.ref 73), some (.int v1), some (.int v2), some (.int (s.1 + 1)), none, none]) rfl rfl (show zRun X d 172 31 [some (.ref 73), some (.int v1), some (.int v2), some (.int (s.1 + 1)), none, none] [] (SH, (zu s.2 103 v1.toNatClampNeg ((s.2 103 v1.toNatClampNeg) + s11.1)), J) r M' from w))
set_option maxRecDepth 100000 in
set_option maxHeartbeats 4000000 in
theorem ok_f172_countSquare {X : zX} {d : Nat} (hd : 0 ≤ d) (v1 : Int32) (v2 : Int32) {I : (Nat → Nat → Int32)} {J : (Nat → Nat → Int64)} (t : (Nat → Nat → Int32)) (h : f172_countSquare v1 v2 I = some t) : zRun X d 172 0 (zent 172 [.ref 73, .int v1, .int v2]) [] (SH, I, J) none (SH, t, J) := by
  unfold f172_countSquare at h
  refine zr_steps 5 (9, [some (.ref 73), some (.int v1), some (.int v2), none, none, none], [.int (I 73 45), .int v1, .ref 103], (SH, I, J)) rfl ?_
  refine zr_one (if (I 73 45) ≤ 0 then zN 27 [some (.ref 73), some (.int v1), some (.int v2), none, none, none] [.int v1, .ref 103] (SH, I, J) else zN 12 [some (.ref 73), some (.int v1), some (.int v2), none, none, none] [.int v1, .ref 103] (SH, I, J)) rfl (zR_if (fun hc26 => zR_go ?_) (fun hc26 => zR_go ?_))
  · rw [if_pos hc26] at h
    refine zr_steps 1 (28, [some (.ref 73), some (.int v1), some (.int v2), none, none, none], [.int 0, .int v1, .ref 103], (SH, I, J)) rfl ?_
    obtain ⟨hc1, h⟩ := zbifo h
    refine zr_one (bif zin v1 4 then zN 29 [some (.ref 73), some (.int v1), some (.int v2), none, none, none] [] (SH, (zu I 103 v1.toNatClampNeg 0), J) else none) rfl (zR_bif hc1 (zR_go ?_))
    refine zr_steps 2 (31, [some (.ref 73), some (.int v1), some (.int v2), some (.int 0), none, none], [], (SH, (zu I 103 v1.toNatClampNeg 0), J)) rfl ?_
    obtain ⟨s17, ho18, h⟩ := zbind h
    refine zr_hdr (ls2 := [some (.ref 73), some (.int v1), some (.int v2), some (.int 0), none, none]) rfl rfl ?_
    refine ok_f172_countSquare_L31 (by omega) v1 v2 5000 ((0 : Int32), (zu I 103 v1.toNatClampNeg 0)) s17 ho18 ?_
    show zRun X d 172 142 [none, none, none, none, none, none] [] (SH, s17.2, J) _ _
    have he := Option.some.inj h
    subst he
    exact zr_one (some (.inr (.inr none))) rfl (zR_ret rfl rfl)
  · rw [if_neg hc26] at h
    refine zr_steps 3 (17, [some (.ref 73), some (.int v1), some (.int v2), none, none, none], [.int (I 73 46), .int v1, .int v1, .ref 103], (SH, I, J)) rfl ?_
    refine zr_one (if v1 = (I 73 46) then zN 20 [some (.ref 73), some (.int v1), some (.int v2), none, none, none] [.int v1, .ref 103] (SH, I, J) else zN 27 [some (.ref 73), some (.int v1), some (.int v2), none, none, none] [.int v1, .ref 103] (SH, I, J)) rfl (zR_if (fun hc25 => zR_go ?_) (fun hc25 => zR_go ?_))
    · rw [if_pos hc25] at h
      refine zr_steps 3 (28, [some (.ref 73), some (.int v1), some (.int v2), none, none, none], [.int (I 73 45), .int v1, .ref 103], (SH, I, J)) rfl ?_
      obtain ⟨hc19, h⟩ := zbifo h
      refine zr_one (bif zin v1 4 then zN 29 [some (.ref 73), some (.int v1), some (.int v2), none, none, none] [] (SH, (zu I 103 v1.toNatClampNeg (I 73 45)), J) else none) rfl (zR_bif hc19 (zR_go ?_))
      refine zr_steps 2 (31, [some (.ref 73), some (.int v1), some (.int v2), some (.int 0), none, none], [], (SH, (zu I 103 v1.toNatClampNeg (I 73 45)), J)) rfl ?_
      obtain ⟨s20, ho21, h⟩ := zbind h
      refine zr_hdr (ls2 := [some (.ref 73), some (.int v1), some (.int v2), some (.int 0), none, none]) rfl rfl ?_
      refine ok_f172_countSquare_L31 (by omega) v1 v2 5000 ((0 : Int32), (zu I 103 v1.toNatClampNeg (I 73 45))) s20 ho21 ?_
      show zRun X d 172 142 [none, none, none, none, none, none] [] (SH, s20.2, J) _ _
      have he := Option.some.inj h
      subst he
      exact zr_one (some (.inr (.inr none))) rfl (zR_ret rfl rfl)
    · rw [if_neg hc25] at h
      refine zr_steps 1 (28, [some (.ref 73), some (.int v1), some (.int v2), none, none, none], [.int 0, .int v1, .ref 103], (SH, I, J)) rfl ?_
      obtain ⟨hc22, h⟩ := zbifo h
      refine zr_one (bif zin v1 4 then zN 29 [some (.ref 73), some (.int v1), some (.int v2), none, none, none] [] (SH, (zu I 103 v1.toNatClampNeg 0), J) else none) rfl (zR_bif hc22 (zR_go ?_))
      refine zr_steps 2 (31, [some (.ref 73), some (.int v1), some (.int v2), some (.int 0), none, none], [], (SH, (zu I 103 v1.toNatClampNeg 0), J)) rfl ?_
      obtain ⟨s23, ho24, h⟩ := zbind h
      refine zr_hdr (ls2 := [some (.ref 73), some (.int v1), some (.int v2), some (.int 0), none, none]) rfl rfl ?_
      refine ok_f172_countSquare_L31 (by omega) v1 v2 5000 ((0 : Int32), (zu I 103 v1.toNatClampNeg 0)) s23 ho24 ?_
      show zRun X d 172 142 [none, none, none, none, none, none] [] (SH, s23.2, J) _ _
      have he := Option.some.inj h
      subst he
      exact zr_one (some (.inr (.inr none))) rfl (zR_ret rfl rfl)
